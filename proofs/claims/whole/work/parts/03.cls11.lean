/-! StaggerRadar.type(J)I -/
abbrev rmX10_type : Room := { frames := 1, cells := 0, slots := 0, locals := 22 }
theorem fl_X10_type_22 : Cond.fieldLink RX10 22 "StaggerRadar" "text" "LStaggerRadar$Text;" ∈ wsX10_type := by decide +kernel
theorem fl_X10_type_95 : Cond.fieldLink RX10 95 "StaggerRadar$Text" "size" "I" ∈ wsX10_type := by decide +kernel
theorem iw_X10_type_X10 : ∀ w ∈ u_ws RX10 TX10 14, w ∈ wsX10_type := by decide +kernel
theorem iw_X10_type_X8 : ∀ w ∈ u_ws RX8 TX8 4, w ∈ wsX10_type := by decide +kernel
abbrev w_X10_type (K : Nat → ClassId) (g_t : Nat → Nat) (g_t_radar : Nat → Nat) (g_t_draft : Nat → Nat) (g_t_text : Nat → Nat) (g_t_reader : Nat → Nat) (g_t_history : Nat → Nat) (g_t_echoes : Nat → Nat) (g_t_tracks : Nat → Nat) (g_t_dwelling : Nat → Nat) (g_t_chooser : Nat → Nat) (g_t_adviser : Nat → Nat) (t_text_size : Int32) (t_text_faultKind : Int32) (t_text_faultPlace : Int32) (t_text_bytes : Nat → Int32) : va_W := [((g_t 0), .inr (9, [.ref (g_t_radar 0), .ref (g_t_draft 0), .ref (g_t_text 0), .ref (g_t_reader 0), .ref (g_t_history 0), .ref (g_t 6), .ref (g_t 7), .ref (g_t 8), .ref (g_t_echoes 0), .ref (g_t_tracks 0), .ref (g_t_dwelling 0), .ref (g_t_chooser 0), .ref (g_t_adviser 0), .ref (g_t 14)])), ((g_t_text 0), .inr (7, [.ref (g_t_text 1), .int t_text_size, .int t_text_faultKind, .int t_text_faultPlace])), ((g_t_text 1), .inl (K 0, 400, .inl t_text_bytes))]
def L_X10_type_42  : Nat → Int32 → (Nat → Int32) → Int64 → Int32 → Int32 → Option (Int32 × Int32 × (Nat → Int32))
  | 0, _, _, _, _, _ => none
  | n_ + 1, t_text_size, t_text_bytes, x1, x3, x4 =>
    if x3 ≤ x4 then (some (t_text_size, t_text_size, t_text_bytes)) else ((F_X10_byteOf x1 x4).bind fun r_2 => ((F_X8_append t_text_size t_text_bytes r_2).bind fun r_4 => (L_X10_type_42 n_ r_4.1 r_4.2 x1 x3 (x4 + (1 : Int32)))))
set_option maxHeartbeats 4000000 in
set_option maxRecDepth 100000 in
theorem w_X10_type_42 {p : Program} {l : Launch} {e : Env} {s : State} {m : MethodId} {args : Array Value} {below : List Frame} {meth : Method} {c : Code} {D : va_G} {K : Nat → ClassId} {A : Nat → Prop} {Q : State → Prop} (C0 : cx_ p s m args c cX10_type 5 RX10 wsX10_type D K A) {g_t : Nat → Nat} {g_t_radar : Nat → Nat} {g_t_draft : Nat → Nat} {g_t_text : Nat → Nat} {g_t_reader : Nat → Nat} {g_t_history : Nat → Nat} {g_t_echoes : Nat → Nat} {g_t_tracks : Nat → Nat} {g_t_dwelling : Nat → Nat} {g_t_chooser : Nat → Nat} {g_t_adviser : Nat → Nat} {t_text_faultKind : Int32} {t_text_faultPlace : Int32} {res : Int32 × Int32 × (Nat → Int32)} (HR : ∀ (pc : Nat) (H : Heap) (locs : List Loc) (ls : Array Slot), decode cX10_type pc = .ok (.ireturn, 1) → va_P D vwCl (w_X10_type K g_t g_t_radar g_t_draft g_t_text g_t_reader g_t_history g_t_echoes g_t_tracks g_t_dwelling g_t_chooser g_t_adviser res.2.1 t_text_faultKind t_text_faultPlace res.2.2) H → va_D A (w_X10_type K g_t g_t_radar g_t_draft g_t_text g_t_reader g_t_history g_t_echoes g_t_tracks g_t_dwelling g_t_chooser g_t_adviser res.2.1 t_text_faultKind t_text_faultPlace res.2.2) → va_S A s.heap H locs → W p l e rmX10_type s m args below meth c H locs 0 0 Q (F0 m pc ls [.int res.1]))  :
    ∀ (n_ : Nat) (t_text_size : Int32) (t_text_bytes : Nat → Int32) (x1 : Int64) (x3 : Int32) (x4 : Int32) (H : Heap) (locs : List Loc) (ls : Array Slot), va_P D vwCl (w_X10_type K g_t g_t_radar g_t_draft g_t_text g_t_reader g_t_history g_t_echoes g_t_tracks g_t_dwelling g_t_chooser g_t_adviser t_text_size t_text_faultKind t_text_faultPlace t_text_bytes) H → va_D A (w_X10_type K g_t g_t_radar g_t_draft g_t_text g_t_reader g_t_history g_t_echoes g_t_tracks g_t_dwelling g_t_chooser g_t_adviser t_text_size t_text_faultKind t_text_faultPlace t_text_bytes) → va_S A s.heap H locs → lv_has ls 5 [(0, .ref (g_t 0)), (1, .long x1), (3, .int x3), (4, .int x4)] → L_X10_type_42 n_ t_text_size t_text_bytes x1 x3 x4 = some res → W p l e rmX10_type s m args below meth c H locs 0 0 Q (F0 m 42 ls []) := by
  obtain ⟨⟨hx, hb, hml, hown, hts⟩, hK, -⟩ := id C0
  intro n_
  induction n_ with
  | zero =>
    intro t_text_size t_text_bytes x1 x3 x4 H locs ls hP hD hS hl hF
    exact no_s (show (none : Option (Int32 × Int32 × (Nat → Int32))) = some res from hF)
  | succ n_ ih =>
    intro t_text_size t_text_bytes x1 x3 x4 H locs ls hP hD hS hl hF
    rw [L_X10_type_42] at hF
    refine lv_iload hx hb dX10_type_42 (lv_at hl 3 rfl) ?_
    refine lv_iload_n hx hb dX10_type_44 rfl (lv_at hl 2 rfl) ?_
    refine lv_icmp_ge (tgt := 67) hx hb dX10_type_45 (by decide) (fun c_1 => ?_) (fun c_1 => ?_)
    · have hF := it_pos c_1 hF
      refine lv_aload_n hx hb dX10_type_67 rfl (lv_at hl 0 rfl) ?_
      refine va_get (D := D) (ci := 9) (v := .ref (g_t_text 0)) (C := RX10) (T := TX10) (N := 14) hx hb hts iw_X10_type_X10 hown hK hP 0 rfl rfl 2 (by decide) (hts _ fl_X10_type_22) (fun _ h9 => h9) rfl dX10_type_68 ?_
      refine va_get (D := D) (ci := 7) (v := .int t_text_size) (C := RX8) (T := TX8) (N := 4) hx hb hts iw_X10_type_X8 hown hK hP 1 rfl rfl 1 (by decide) (hts _ fl_X10_type_95) (fun _ h9 => h9) rfl dX10_type_71 ?_
      obtain rfl := Option.some.inj hF
      exact HR 74 H locs ls dX10_type_74 hP hD hS
    · have hF := it_neg c_1 hF
      refine lv_aload_n hx hb dX10_type_48 rfl (lv_at hl 0 rfl) ?_
      refine va_get (D := D) (ci := 9) (v := .ref (g_t_text 0)) (C := RX10) (T := TX10) (N := 14) hx hb hts iw_X10_type_X10 hown hK hP 0 rfl rfl 2 (by decide) (hts _ fl_X10_type_22) (fun _ h9 => h9) rfl dX10_type_49 ?_
      refine lv_lload_n hx hb dX10_type_52 rfl (lv_at hl 1 rfl) ?_
      refine lv_iload hx hb dX10_type_53 (lv_at hl 3 rfl) ?_
      obtain ⟨r_2, hc_3, hF⟩ := bn_some hF
      refine xc_i (wn := (w_X10_type K g_t g_t_radar g_t_draft g_t_text g_t_reader g_t_history g_t_echoes g_t_tracks g_t_dwelling g_t_chooser g_t_adviser t_text_size t_text_faultKind t_text_faultPlace t_text_bytes)) hP hD hS C0.2.2.1 [] [0, 1, 2] [0, 1, 2] rfl rfl (by decide) (by decide) rfl (by decide) (va_runS (As := [.long x1, .int x4]) (rest := [.ref (g_t_text 0)]) C0.1 (c_X10_byteOf l D K x1 x4 r_2 hc_3 H.size) (va_cwS 2 hts gX10_type_X10_byteOf rfl rfl rfl (by decide +kernel) ⟨Nat.le_of_ble_eq_true rfl, Nat.le_of_ble_eq_true rfl⟩) (xp_S C0.2 hP hD hS [] rfl (by decide)) rfl rfl hl.1 rfl (lv_room (Nat.le_of_ble_eq_true rfl)) dX10_type_55 ⟨Nat.le_of_ble_eq_true rfl, Nat.le_of_ble_eq_true rfl⟩) (fun H locs hP hD hS => ?_)
      obtain ⟨r_4, hc_5, hF⟩ := bn_some hF
      refine xc_v (wn := (w_X10_type K g_t g_t_radar g_t_draft g_t_text g_t_reader g_t_history g_t_echoes g_t_tracks g_t_dwelling g_t_chooser g_t_adviser r_4.1 t_text_faultKind t_text_faultPlace r_4.2)) hP hD hS C0.2.2.1 [1, 2] [0] [0, 1, 2] rfl rfl (by decide) (by decide) rfl (by decide) (va_runV (As := [.int r_2]) (rest := []) C0.1 (c_X8_append l D K g_t_text t_text_size t_text_faultKind t_text_faultPlace t_text_bytes r_2 r_4 hc_5 H.size) (cwV 1 hts gX10_type_X8_append rfl rfl rfl (by decide +kernel) ⟨Nat.le_of_ble_eq_true rfl, Nat.le_of_ble_eq_true rfl⟩) (xp_V C0.2 hP hD hS [1, 2] rfl (by decide) 7 0 rfl rfl rfl) rfl rfl hl.1 rfl (lv_room (Nat.le_of_ble_eq_true rfl)) dX10_type_58 ⟨Nat.le_of_ble_eq_true rfl, Nat.le_of_ble_eq_true rfl⟩) (fun H locs hP hD hS => ?_)
      refine lv_iinc (v := (x4 + (1 : Int32))) (lv' := [(4, .int (x4 + (1 : Int32))), (0, .ref (g_t 0)), (1, .long x1), (3, .int x3)]) hx hb dX10_type_61 hl (k := 3) rfl (congrArg (fun z => x4 + z) (by decide)) (by decide) rfl (fun ls hl => ?_)
      refine lv_goto (tgt := 42) hx hb dX10_type_64 (by decide) ?_
      exact ih r_4.1 r_4.2 x1 x3 (x4 + (1 : Int32)) H locs ls hP hD hS (lv_sub hl [1, 2, 3, 0] rfl) hF
def J_X10_type_22 (t_text_size : Int32) (t_text_bytes : Nat → Int32) (x1 : Int64) (x3 : Int32) : Option (Int32 × Int32 × (Nat → Int32)) :=
  if (t_text_size + x3) ≤ (400 : Int32) then (L_X10_type_42 fu_ t_text_size t_text_bytes x1 x3 (0 : Int32)) else (some ((-1 : Int32), t_text_size, t_text_bytes))
set_option maxHeartbeats 4000000 in
set_option maxRecDepth 100000 in
theorem w_X10_type_22 {p : Program} {l : Launch} {e : Env} {s : State} {m : MethodId} {args : Array Value} {below : List Frame} {meth : Method} {c : Code} {D : va_G} {K : Nat → ClassId} {A : Nat → Prop} {Q : State → Prop} (C0 : cx_ p s m args c cX10_type 5 RX10 wsX10_type D K A) {g_t : Nat → Nat} {g_t_radar : Nat → Nat} {g_t_draft : Nat → Nat} {g_t_text : Nat → Nat} {g_t_reader : Nat → Nat} {g_t_history : Nat → Nat} {g_t_echoes : Nat → Nat} {g_t_tracks : Nat → Nat} {g_t_dwelling : Nat → Nat} {g_t_chooser : Nat → Nat} {g_t_adviser : Nat → Nat} {t_text_faultKind : Int32} {t_text_faultPlace : Int32} {res : Int32 × Int32 × (Nat → Int32)} (HR : ∀ (pc : Nat) (H : Heap) (locs : List Loc) (ls : Array Slot), decode cX10_type pc = .ok (.ireturn, 1) → va_P D vwCl (w_X10_type K g_t g_t_radar g_t_draft g_t_text g_t_reader g_t_history g_t_echoes g_t_tracks g_t_dwelling g_t_chooser g_t_adviser res.2.1 t_text_faultKind t_text_faultPlace res.2.2) H → va_D A (w_X10_type K g_t g_t_radar g_t_draft g_t_text g_t_reader g_t_history g_t_echoes g_t_tracks g_t_dwelling g_t_chooser g_t_adviser res.2.1 t_text_faultKind t_text_faultPlace res.2.2) → va_S A s.heap H locs → W p l e rmX10_type s m args below meth c H locs 0 0 Q (F0 m pc ls [.int res.1]))  :
    ∀ (t_text_size : Int32) (t_text_bytes : Nat → Int32) (x1 : Int64) (x3 : Int32) (H : Heap) (locs : List Loc) (ls : Array Slot), va_P D vwCl (w_X10_type K g_t g_t_radar g_t_draft g_t_text g_t_reader g_t_history g_t_echoes g_t_tracks g_t_dwelling g_t_chooser g_t_adviser t_text_size t_text_faultKind t_text_faultPlace t_text_bytes) H → va_D A (w_X10_type K g_t g_t_radar g_t_draft g_t_text g_t_reader g_t_history g_t_echoes g_t_tracks g_t_dwelling g_t_chooser g_t_adviser t_text_size t_text_faultKind t_text_faultPlace t_text_bytes) → va_S A s.heap H locs → lv_has ls 5 [(0, .ref (g_t 0)), (1, .long x1), (3, .int x3)] → J_X10_type_22 t_text_size t_text_bytes x1 x3 = some res → W p l e rmX10_type s m args below meth c H locs 0 0 Q (F0 m 22 ls []) := by
  obtain ⟨⟨hx, hb, hml, hown, hts⟩, hK, -⟩ := id C0
  intro t_text_size t_text_bytes x1 x3 H locs ls hP hD hS hl hF
  unfold J_X10_type_22 at hF
  refine lv_aload_n hx hb dX10_type_22 rfl (lv_at hl 0 rfl) ?_
  refine va_get (D := D) (ci := 9) (v := .ref (g_t_text 0)) (C := RX10) (T := TX10) (N := 14) hx hb hts iw_X10_type_X10 hown hK hP 0 rfl rfl 2 (by decide) (hts _ fl_X10_type_22) (fun _ h9 => h9) rfl dX10_type_23 ?_
  refine va_get (D := D) (ci := 7) (v := .int t_text_size) (C := RX8) (T := TX8) (N := 4) hx hb hts iw_X10_type_X8 hown hK hP 1 rfl rfl 1 (by decide) (hts _ fl_X10_type_95) (fun _ h9 => h9) rfl dX10_type_26 ?_
  refine lv_iload_n hx hb dX10_type_29 rfl (lv_at hl 2 rfl) ?_
  refine lv_iadd hx hb dX10_type_30 ?_
  refine lv_sipush (v := 400) hx hb dX10_type_31 (by decide) ?_
  refine lv_icmp_le (tgt := 39) hx hb dX10_type_34 (by decide) (fun c_1 => ?_) (fun c_1 => ?_)
  · have hF := it_pos c_1 hF
    refine lv_iconst (v := 0) hx hb dX10_type_39 (by decide) ?_
    refine lv_istore (lv' := [(4, .int (0 : Int32)), (0, .ref (g_t 0)), (1, .long x1), (3, .int x3)]) hx hb dX10_type_40 hl (by decide) rfl (fun ls hl => ?_)
    exact w_X10_type_42 C0 HR fu_ t_text_size t_text_bytes x1 x3 (0 : Int32) H locs ls hP hD hS (lv_sub hl [1, 2, 3, 0] rfl) hF
  · have hF := it_neg c_1 hF
    refine lv_iconst (v := (-1)) hx hb dX10_type_37 (by decide) ?_
    obtain rfl := Option.some.inj hF
    exact HR 38 H locs ls dX10_type_38 hP hD hS
def L_X10_type_2  : Nat → Int32 → (Nat → Int32) → Int64 → Int32 → Option (Int32 × Int32 × (Nat → Int32))
  | 0, _, _, _, _ => none
  | n_ + 1, t_text_size, t_text_bytes, x1, x3 =>
    if (8 : Int32) ≤ x3 then (J_X10_type_22 t_text_size t_text_bytes x1 x3) else ((F_X10_byteOf x1 x3).bind fun r_2 => (if r_2 = (0 : Int32) then (J_X10_type_22 t_text_size t_text_bytes x1 x3) else (L_X10_type_2 n_ t_text_size t_text_bytes x1 (x3 + (1 : Int32)))))
set_option maxHeartbeats 4000000 in
set_option maxRecDepth 100000 in
theorem w_X10_type_2 {p : Program} {l : Launch} {e : Env} {s : State} {m : MethodId} {args : Array Value} {below : List Frame} {meth : Method} {c : Code} {D : va_G} {K : Nat → ClassId} {A : Nat → Prop} {Q : State → Prop} (C0 : cx_ p s m args c cX10_type 5 RX10 wsX10_type D K A) {g_t : Nat → Nat} {g_t_radar : Nat → Nat} {g_t_draft : Nat → Nat} {g_t_text : Nat → Nat} {g_t_reader : Nat → Nat} {g_t_history : Nat → Nat} {g_t_echoes : Nat → Nat} {g_t_tracks : Nat → Nat} {g_t_dwelling : Nat → Nat} {g_t_chooser : Nat → Nat} {g_t_adviser : Nat → Nat} {t_text_faultKind : Int32} {t_text_faultPlace : Int32} {res : Int32 × Int32 × (Nat → Int32)} (HR : ∀ (pc : Nat) (H : Heap) (locs : List Loc) (ls : Array Slot), decode cX10_type pc = .ok (.ireturn, 1) → va_P D vwCl (w_X10_type K g_t g_t_radar g_t_draft g_t_text g_t_reader g_t_history g_t_echoes g_t_tracks g_t_dwelling g_t_chooser g_t_adviser res.2.1 t_text_faultKind t_text_faultPlace res.2.2) H → va_D A (w_X10_type K g_t g_t_radar g_t_draft g_t_text g_t_reader g_t_history g_t_echoes g_t_tracks g_t_dwelling g_t_chooser g_t_adviser res.2.1 t_text_faultKind t_text_faultPlace res.2.2) → va_S A s.heap H locs → W p l e rmX10_type s m args below meth c H locs 0 0 Q (F0 m pc ls [.int res.1]))  :
    ∀ (n_ : Nat) (t_text_size : Int32) (t_text_bytes : Nat → Int32) (x1 : Int64) (x3 : Int32) (H : Heap) (locs : List Loc) (ls : Array Slot), va_P D vwCl (w_X10_type K g_t g_t_radar g_t_draft g_t_text g_t_reader g_t_history g_t_echoes g_t_tracks g_t_dwelling g_t_chooser g_t_adviser t_text_size t_text_faultKind t_text_faultPlace t_text_bytes) H → va_D A (w_X10_type K g_t g_t_radar g_t_draft g_t_text g_t_reader g_t_history g_t_echoes g_t_tracks g_t_dwelling g_t_chooser g_t_adviser t_text_size t_text_faultKind t_text_faultPlace t_text_bytes) → va_S A s.heap H locs → lv_has ls 5 [(0, .ref (g_t 0)), (1, .long x1), (3, .int x3)] → L_X10_type_2 n_ t_text_size t_text_bytes x1 x3 = some res → W p l e rmX10_type s m args below meth c H locs 0 0 Q (F0 m 2 ls []) := by
  obtain ⟨⟨hx, hb, hml, hown, hts⟩, hK, -⟩ := id C0
  intro n_
  induction n_ with
  | zero =>
    intro t_text_size t_text_bytes x1 x3 H locs ls hP hD hS hl hF
    exact no_s (show (none : Option (Int32 × Int32 × (Nat → Int32))) = some res from hF)
  | succ n_ ih =>
    intro t_text_size t_text_bytes x1 x3 H locs ls hP hD hS hl hF
    rw [L_X10_type_2] at hF
    refine lv_iload_n hx hb dX10_type_2 rfl (lv_at hl 2 rfl) ?_
    refine lv_bipush (v := 8) hx hb dX10_type_3 (by decide) ?_
    refine lv_icmp_ge (tgt := 22) hx hb dX10_type_5 (by decide) (fun c_1 => ?_) (fun c_1 => ?_)
    · have hF := it_pos c_1 hF
      exact w_X10_type_22 C0 HR t_text_size t_text_bytes x1 x3 H locs ls hP hD hS (lv_sub hl [0, 1, 2] rfl) hF
    · have hF := it_neg c_1 hF
      refine lv_lload_n hx hb dX10_type_8 rfl (lv_at hl 1 rfl) ?_
      refine lv_iload_n hx hb dX10_type_9 rfl (lv_at hl 2 rfl) ?_
      obtain ⟨r_2, hc_3, hF⟩ := bn_some hF
      refine xc_i (wn := (w_X10_type K g_t g_t_radar g_t_draft g_t_text g_t_reader g_t_history g_t_echoes g_t_tracks g_t_dwelling g_t_chooser g_t_adviser t_text_size t_text_faultKind t_text_faultPlace t_text_bytes)) hP hD hS C0.2.2.1 [] [0, 1, 2] [0, 1, 2] rfl rfl (by decide) (by decide) rfl (by decide) (va_runS (As := [.long x1, .int x3]) (rest := []) C0.1 (c_X10_byteOf l D K x1 x3 r_2 hc_3 H.size) (va_cwS 2 hts gX10_type_X10_byteOf rfl rfl rfl (by decide +kernel) ⟨Nat.le_of_ble_eq_true rfl, Nat.le_of_ble_eq_true rfl⟩) (xp_S C0.2 hP hD hS [] rfl (by decide)) rfl rfl hl.1 rfl (lv_room (Nat.le_of_ble_eq_true rfl)) dX10_type_10 ⟨Nat.le_of_ble_eq_true rfl, Nat.le_of_ble_eq_true rfl⟩) (fun H locs hP hD hS => ?_)
      refine lv_if_eq (tgt := 22) hx hb dX10_type_13 (by decide) (fun c_4 => ?_) (fun c_4 => ?_)
      · have hF := it_pos c_4 hF
        exact w_X10_type_22 C0 HR t_text_size t_text_bytes x1 x3 H locs ls hP hD hS (lv_sub hl [0, 1, 2] rfl) hF
      · have hF := it_neg c_4 hF
        refine lv_iinc (v := (x3 + (1 : Int32))) (lv' := [(3, .int (x3 + (1 : Int32))), (0, .ref (g_t 0)), (1, .long x1)]) hx hb dX10_type_16 hl (k := 2) rfl (congrArg (fun z => x3 + z) (by decide)) (by decide) rfl (fun ls hl => ?_)
        refine lv_goto (tgt := 2) hx hb dX10_type_19 (by decide) ?_
        exact ih t_text_size t_text_bytes x1 (x3 + (1 : Int32)) H locs ls hP hD hS (lv_sub hl [1, 2, 0] rfl) hF
def F_X10_type (t_text_size : Int32) (t_text_bytes : Nat → Int32) (x1 : Int64) : Option (Int32 × Int32 × (Nat → Int32)) :=
  L_X10_type_2 fu_ t_text_size t_text_bytes x1 (0 : Int32)
set_option maxHeartbeats 4000000 in
set_option maxRecDepth 100000 in
theorem c_X10_type (l : Launch) (D : va_G) (K : Nat → ClassId) (g_t : Nat → Nat) (g_t_radar : Nat → Nat) (g_t_draft : Nat → Nat) (g_t_text : Nat → Nat) (g_t_reader : Nat → Nat) (g_t_history : Nat → Nat) (g_t_echoes : Nat → Nat) (g_t_tracks : Nat → Nat) (g_t_dwelling : Nat → Nat) (g_t_chooser : Nat → Nat) (g_t_adviser : Nat → Nat) (t_text_size : Int32) (t_text_faultKind : Int32) (t_text_faultPlace : Int32) (t_text_bytes : Nat → Int32) (x1 : Int64) (res : Int32 × Int32 × (Nat → Int32)) (hF : F_X10_type t_text_size t_text_bytes x1 = some res) :
    Mi_ l yX10_type wsX10_type rmX10_type D K [.ref (g_t 0), .long x1] (w_X10_type K g_t g_t_radar g_t_draft g_t_text g_t_reader g_t_history g_t_echoes g_t_tracks g_t_dwelling g_t_chooser g_t_adviser t_text_size t_text_faultKind t_text_faultPlace t_text_bytes) (w_X10_type K g_t g_t_radar g_t_draft g_t_text g_t_reader g_t_history g_t_echoes g_t_tracks g_t_dwelling g_t_chooser g_t_adviser res.2.1 t_text_faultKind t_text_faultPlace res.2.2) (res.1) := by
  refine en_i (cc := cX10_type) (maxL := 5) (own := RX10) (by decide) rfl rfl (Nat.le_of_ble_eq_true rfl) ?_
  intro p e s m args below meth c A Q H locs ls C0 hP hD hS hl HR
  obtain ⟨⟨hx, hb, hml, hown, hts⟩, hK, -⟩ := id C0
  have hl : lv_has ls 5 [(0, .ref (g_t 0)), (1, .long x1)] := hl
  unfold F_X10_type at hF
  refine lv_iconst (v := 0) hx hb dX10_type_0 (by decide) ?_
  refine lv_istore_n (lv' := [(3, .int (0 : Int32)), (0, .ref (g_t 0)), (1, .long x1)]) hx hb dX10_type_1 rfl hl (by decide) rfl (fun ls hl => ?_)
  exact w_X10_type_2 C0 HR fu_ t_text_size t_text_bytes x1 (0 : Int32) H locs ls hP hD hS (lv_sub hl [1, 2, 0] rfl) hF

/-! StaggerRadar.Radar.loudAfter(III)I -/
abbrev rmX5_loudAfter : Room := { frames := 2, cells := 0, slots := 0, locals := 45 }
theorem fl_X5_loudAfter_15 : Cond.fieldLink RX5 15 "StaggerRadar$Radar" "settings" "[I" ∈ wsX5_loudAfter := by decide +kernel
theorem fl_X5_loudAfter_21 : Cond.fieldLink RX5 21 "StaggerRadar$Radar" "speeds" "[I" ∈ wsX5_loudAfter := by decide +kernel
theorem fl_X5_loudAfter_24 : Cond.fieldLink RX5 24 "StaggerRadar$Radar" "strengths" "[I" ∈ wsX5_loudAfter := by decide +kernel
theorem fl_X5_loudAfter_49 : Cond.fieldLink RX5 49 "StaggerRadar$Radar" "targetCount" "I" ∈ wsX5_loudAfter := by decide +kernel
theorem ld_X5_loudAfter_72 : Cond.constant RX5 72 (47999) ∈ wsX5_loudAfter := by decide +kernel
theorem iw_X5_loudAfter_X5 : ∀ w ∈ u_ws RX5 TX5 13, w ∈ wsX5_loudAfter := by decide +kernel
abbrev w_X5_loudAfter (K : Nat → ClassId) (g_t : Nat → Nat) (t_gapCount : Int32) (t_targetCount : Int32) (t_lookCount : Int32) (t_time : Int32) (t_gone : Int32) (t_settings : Nat → Int32) (t_spots : Nat → Int32) (t_speeds : Nat → Int32) (t_strengths : Nat → Int32) : va_W := [((g_t 0), .inr (5, [.ref (g_t 1), .ref (g_t 2), .ref (g_t 3), .ref (g_t 4), .ref (g_t 5), .ref (g_t 6), .ref (g_t 7), .ref (g_t 8), .int t_gapCount, .int t_targetCount, .int t_lookCount, .int t_time, .int t_gone])), ((g_t 2), .inl (K 0, 7, .inl t_settings)), ((g_t 3), .inl (K 0, 8, .inl t_spots)), ((g_t 4), .inl (K 0, 8, .inl t_speeds)), ((g_t 5), .inl (K 0, 8, .inl t_strengths))]
def L_X5_loudAfter_18 (t_targetCount : Int32) (t_settings : Nat → Int32) (t_spots : Nat → Int32) (t_speeds : Nat → Int32) (t_strengths : Nat → Int32) : Nat → Int32 → Int32 → Int32 → Int32 → Int32 → Option (Int32)
  | 0, _, _, _, _, _ => none
  | n_ + 1, x1, x2, x3, x4, x5 =>
    if t_targetCount ≤ x5 then (some x4) else ((F_X5_spotAfter t_spots t_speeds x5 x3).bind fun r_2 => ((F_X10_isWithin r_2 (0 : Int32) (47999 : Int32)).bind fun r_4 => (if r_4 = (0 : Int32) then (L_X5_loudAfter_18 t_targetCount t_settings t_spots t_speeds t_strengths n_ x1 x2 x3 x4 (x5 + (1 : Int32))) else ((F_X10_rest (r_2 / (16 : Int32)) x1).bind fun r_7 => (if r_7 = x2 then (gd_ (in_b x5 8) ((F_X5_hides t_settings (t_speeds (x5).toNatClampNeg) x1).bind fun r_11 => (if r_11 = (0 : Int32) then (gd_ (in_b x5 8) (L_X5_loudAfter_18 t_targetCount t_settings t_spots t_speeds t_strengths n_ x1 x2 x3 (x4 + (t_strengths (x5).toNatClampNeg)) (x5 + (1 : Int32)))) else (L_X5_loudAfter_18 t_targetCount t_settings t_spots t_speeds t_strengths n_ x1 x2 x3 x4 (x5 + (1 : Int32)))))) else (L_X5_loudAfter_18 t_targetCount t_settings t_spots t_speeds t_strengths n_ x1 x2 x3 x4 (x5 + (1 : Int32))))))))
set_option maxHeartbeats 4000000 in
set_option maxRecDepth 100000 in
theorem w_X5_loudAfter_18 {p : Program} {l : Launch} {e : Env} {s : State} {m : MethodId} {args : Array Value} {below : List Frame} {meth : Method} {c : Code} {D : va_G} {K : Nat → ClassId} {A : Nat → Prop} {Q : State → Prop} (C0 : cx_ p s m args c cX5_loudAfter 8 RX5 wsX5_loudAfter D K A) {g_t : Nat → Nat} {t_gapCount : Int32} {t_targetCount : Int32} {t_lookCount : Int32} {t_time : Int32} {t_gone : Int32} {t_settings : Nat → Int32} {t_spots : Nat → Int32} {t_speeds : Nat → Int32} {t_strengths : Nat → Int32} {res : Int32} (HR : ∀ (pc : Nat) (H : Heap) (locs : List Loc) (ls : Array Slot), decode cX5_loudAfter pc = .ok (.ireturn, 1) → va_P D vwCl (w_X5_loudAfter K g_t t_gapCount t_targetCount t_lookCount t_time t_gone t_settings t_spots t_speeds t_strengths) H → va_D A (w_X5_loudAfter K g_t t_gapCount t_targetCount t_lookCount t_time t_gone t_settings t_spots t_speeds t_strengths) → va_S A s.heap H locs → W p l e rmX5_loudAfter s m args below meth c H locs 0 0 Q (F0 m pc ls [.int res]))  :
    ∀ (n_ : Nat) (x1 : Int32) (x2 : Int32) (x3 : Int32) (x4 : Int32) (x5 : Int32) (H : Heap) (locs : List Loc) (ls : Array Slot), va_P D vwCl (w_X5_loudAfter K g_t t_gapCount t_targetCount t_lookCount t_time t_gone t_settings t_spots t_speeds t_strengths) H → va_D A (w_X5_loudAfter K g_t t_gapCount t_targetCount t_lookCount t_time t_gone t_settings t_spots t_speeds t_strengths) → va_S A s.heap H locs → lv_has ls 8 [(0, .ref (g_t 0)), (1, .int x1), (2, .int x2), (3, .int x3), (4, .int x4), (5, .int x5)] → L_X5_loudAfter_18 t_targetCount t_settings t_spots t_speeds t_strengths n_ x1 x2 x3 x4 x5 = some res → W p l e rmX5_loudAfter s m args below meth c H locs 0 0 Q (F0 m 18 ls []) := by
  obtain ⟨⟨hx, hb, hml, hown, hts⟩, hK, -⟩ := id C0
  intro n_
  induction n_ with
  | zero =>
    intro x1 x2 x3 x4 x5 H locs ls hP hD hS hl hF
    exact no_s (show (none : Option (Int32)) = some res from hF)
  | succ n_ ih =>
    intro x1 x2 x3 x4 x5 H locs ls hP hD hS hl hF
    rw [L_X5_loudAfter_18] at hF
    refine lv_iload hx hb dX5_loudAfter_18 (lv_at hl 5 rfl) ?_
    refine lv_aload_n hx hb dX5_loudAfter_20 rfl (lv_at hl 0 rfl) ?_
    refine va_get (D := D) (ci := 5) (v := .int t_targetCount) (C := RX5) (T := TX5) (N := 13) hx hb hts iw_X5_loudAfter_X5 hown hK hP 0 rfl rfl 9 (by decide) (hts _ fl_X5_loudAfter_49) (fun _ h9 => h9) rfl dX5_loudAfter_21 ?_
    refine lv_icmp_ge (tgt := 97) hx hb dX5_loudAfter_24 (by decide) (fun c_1 => ?_) (fun c_1 => ?_)
    · have hF := it_pos c_1 hF
      refine lv_iload hx hb dX5_loudAfter_97 (lv_at hl 4 rfl) ?_
      obtain rfl := Option.some.inj hF
      exact HR 99 H locs ls dX5_loudAfter_99 hP hD hS
    · have hF := it_neg c_1 hF
      refine lv_aload_n hx hb dX5_loudAfter_27 rfl (lv_at hl 0 rfl) ?_
      refine lv_iload hx hb dX5_loudAfter_28 (lv_at hl 5 rfl) ?_
      refine lv_iload_n hx hb dX5_loudAfter_30 rfl (lv_at hl 3 rfl) ?_
      obtain ⟨r_2, hc_3, hF⟩ := bn_some hF
      refine xc_i (wn := (w_X5_loudAfter K g_t t_gapCount t_targetCount t_lookCount t_time t_gone t_settings t_spots t_speeds t_strengths)) hP hD hS C0.2.2.1 [0, 2, 3] [1, 4] [2, 0, 3, 4, 1] rfl rfl (by decide) (by decide) rfl (by decide) (va_runV (As := [.int x5, .int x3]) (rest := []) C0.1 (c_X5_spotAfter l D K g_t t_gapCount t_targetCount t_lookCount t_time t_gone t_spots t_speeds x5 x3 r_2 hc_3 H.size) (cwV 2 hts gX5_loudAfter_X5_spotAfter rfl rfl rfl (by decide +kernel) ⟨Nat.le_of_ble_eq_true rfl, Nat.le_of_ble_eq_true rfl⟩) (xp_V C0.2 hP hD hS [0, 2, 3] rfl (by decide) 5 0 rfl rfl rfl) rfl rfl hl.1 rfl (lv_room (Nat.le_of_ble_eq_true rfl)) dX5_loudAfter_31 ⟨Nat.le_of_ble_eq_true rfl, Nat.le_of_ble_eq_true rfl⟩) (fun H locs hP hD hS => ?_)
      refine lv_istore (lv' := [(6, .int r_2), (0, .ref (g_t 0)), (1, .int x1), (2, .int x2), (3, .int x3), (4, .int x4), (5, .int x5)]) hx hb dX5_loudAfter_34 hl (by decide) rfl (fun ls hl => ?_)
      refine lv_iload hx hb dX5_loudAfter_36 (lv_at hl 0 rfl) ?_
      refine lv_iconst (v := 0) hx hb dX5_loudAfter_38 (by decide) ?_
      refine lv_ldc (v := 47999) hx hb hown (hts _ ld_X5_loudAfter_72) dX5_loudAfter_39 ?_
      obtain ⟨r_4, hc_5, hF⟩ := bn_some hF
      refine xc_i (wn := (w_X5_loudAfter K g_t t_gapCount t_targetCount t_lookCount t_time t_gone t_settings t_spots t_speeds t_strengths)) hP hD hS C0.2.2.1 [] [0, 1, 2, 3, 4] [0, 1, 2, 3, 4] rfl rfl (by decide) (by decide) rfl (by decide) (va_runSN (host := "StaggerRadar") (As := [.int r_2, .int (0 : Int32), .int (47999 : Int32)]) (rest := []) C0.1 (c_X10_isWithin l D K r_2 (0 : Int32) (47999 : Int32) r_4 hc_5 H.size) ⟨va_cnB 3 hts gX5_loudAfter_X10_isWithin_n73 rfl rfl rfl (C0.2.2.2.1.1 ("StaggerRadar$Radar", 73, ⟨"StaggerRadar", "isWithin", "(III)Z"⟩, "StaggerRadar") (by decide +kernel)) (hts (.initialized RX10) (by decide +kernel)) (by decide +kernel) ⟨Nat.le_of_ble_eq_true rfl, Nat.le_of_ble_eq_true rfl⟩, hts (.static yX10_isWithin) (by decide +kernel), trivial⟩ (xp_S C0.2 hP hD hS [] rfl (by decide)) rfl rfl hl.1 rfl (lv_room (Nat.le_of_ble_eq_true rfl)) dX5_loudAfter_41 ⟨Nat.le_of_ble_eq_true rfl, Nat.le_of_ble_eq_true rfl⟩) (fun H locs hP hD hS => ?_)
      refine lv_istore (lv' := [(7, .int r_4), (6, .int r_2), (0, .ref (g_t 0)), (1, .int x1), (2, .int x2), (3, .int x3), (4, .int x4), (5, .int x5)]) hx hb dX5_loudAfter_44 hl (by decide) rfl (fun ls hl => ?_)
      refine lv_iload hx hb dX5_loudAfter_46 (lv_at hl 0 rfl) ?_
      refine lv_if_eq (tgt := 91) hx hb dX5_loudAfter_48 (by decide) (fun c_6 => ?_) (fun c_6 => ?_)
      · have hF := it_pos c_6 hF
        refine lv_iinc (v := (x5 + (1 : Int32))) (lv' := [(5, .int (x5 + (1 : Int32))), (7, .int r_4), (6, .int r_2), (0, .ref (g_t 0)), (1, .int x1), (2, .int x2), (3, .int x3), (4, .int x4)]) hx hb dX5_loudAfter_91 hl (k := 7) rfl (congrArg (fun z => x5 + z) (by decide)) (by decide) rfl (fun ls hl => ?_)
        refine lv_goto (tgt := 18) hx hb dX5_loudAfter_94 (by decide) ?_
        exact ih x1 x2 x3 x4 (x5 + (1 : Int32)) H locs ls hP hD hS (lv_sub hl [3, 4, 5, 6, 7, 0] rfl) hF
      · have hF := it_neg c_6 hF
        refine lv_iload hx hb dX5_loudAfter_51 (lv_at hl 1 rfl) ?_
        refine lv_bipush (v := 16) hx hb dX5_loudAfter_53 (by decide) ?_
        refine lv_idiv hx hb dX5_loudAfter_55 (by decide) ?_
        refine lv_iload_n hx hb dX5_loudAfter_56 rfl (lv_at hl 3 rfl) ?_
        obtain ⟨r_7, hc_8, hF⟩ := bn_some hF
        refine xc_i (wn := (w_X5_loudAfter K g_t t_gapCount t_targetCount t_lookCount t_time t_gone t_settings t_spots t_speeds t_strengths)) hP hD hS C0.2.2.1 [] [0, 1, 2, 3, 4] [0, 1, 2, 3, 4] rfl rfl (by decide) (by decide) rfl (by decide) (va_runSN (host := "StaggerRadar") (As := [.int (r_2 / (16 : Int32)), .int x1]) (rest := []) C0.1 (c_X10_rest l D K (r_2 / (16 : Int32)) x1 r_7 hc_8 H.size) ⟨va_cnB 2 hts gX5_loudAfter_X10_rest_n88 rfl rfl rfl (C0.2.2.2.1.1 ("StaggerRadar$Radar", 88, ⟨"StaggerRadar", "rest", "(II)I"⟩, "StaggerRadar") (by decide +kernel)) (hts (.initialized RX10) (by decide +kernel)) (by decide +kernel) ⟨Nat.le_of_ble_eq_true rfl, Nat.le_of_ble_eq_true rfl⟩, hts (.static yX10_rest) (by decide +kernel), trivial⟩ (xp_S C0.2 hP hD hS [] rfl (by decide)) rfl rfl hl.1 rfl (lv_room (Nat.le_of_ble_eq_true rfl)) dX5_loudAfter_57 ⟨Nat.le_of_ble_eq_true rfl, Nat.le_of_ble_eq_true rfl⟩) (fun H locs hP hD hS => ?_)
        refine lv_iload_n hx hb dX5_loudAfter_60 rfl (lv_at hl 4 rfl) ?_
        refine lv_icmp_ne (tgt := 91) hx hb dX5_loudAfter_61 (by decide) (fun c_9 => ?_) (fun c_9 => ?_)
        · have hF := it_neg c_9 hF
          refine lv_iinc (v := (x5 + (1 : Int32))) (lv' := [(5, .int (x5 + (1 : Int32))), (7, .int r_4), (6, .int r_2), (0, .ref (g_t 0)), (1, .int x1), (2, .int x2), (3, .int x3), (4, .int x4)]) hx hb dX5_loudAfter_91 hl (k := 7) rfl (congrArg (fun z => x5 + z) (by decide)) (by decide) rfl (fun ls hl => ?_)
          refine lv_goto (tgt := 18) hx hb dX5_loudAfter_94 (by decide) ?_
          exact ih x1 x2 x3 x4 (x5 + (1 : Int32)) H locs ls hP hD hS (lv_sub hl [3, 4, 5, 6, 7, 0] rfl) hF
        · have hF := it_pos c_9 hF
          refine lv_aload_n hx hb dX5_loudAfter_64 rfl (lv_at hl 2 rfl) ?_
          refine lv_aload_n hx hb dX5_loudAfter_65 rfl (lv_at hl 2 rfl) ?_
          refine va_get (D := D) (ci := 5) (v := .ref (g_t 4)) (C := RX5) (T := TX5) (N := 13) hx hb hts iw_X5_loudAfter_X5 hown hK hP 0 rfl rfl 3 (by decide) (hts _ fl_X5_loudAfter_21) (fun _ h9 => h9) rfl dX5_loudAfter_66 ?_
          refine lv_iload hx hb dX5_loudAfter_69 (lv_at hl 7 rfl) ?_
          obtain ⟨hg_10, hF⟩ := gd_some hF
          refine xl_i (f := t_speeds) hx hb hK hP 3 0 rfl rfl rfl (in_v hg_10) dX5_loudAfter_71 ?_
          refine lv_iload_n hx hb dX5_loudAfter_72 rfl (lv_at hl 3 rfl) ?_
          obtain ⟨r_11, hc_12, hF⟩ := bn_some hF
          refine xc_i (wn := (w_X5_loudAfter K g_t t_gapCount t_targetCount t_lookCount t_time t_gone t_settings t_spots t_speeds t_strengths)) hP hD hS C0.2.2.1 [0, 1] [2, 3, 4] [3, 4, 0, 1, 2] rfl rfl (by decide) (by decide) rfl (by decide) (va_runV (As := [.int (t_speeds (x5).toNatClampNeg), .int x1]) (rest := []) C0.1 (c_X5_hides l D K g_t t_gapCount t_targetCount t_lookCount t_time t_gone t_settings (t_speeds (x5).toNatClampNeg) x1 r_11 hc_12 H.size) (cwV 2 hts gX5_loudAfter_X5_hides rfl rfl rfl (by decide +kernel) ⟨Nat.le_of_ble_eq_true rfl, Nat.le_of_ble_eq_true rfl⟩) (xp_V C0.2 hP hD hS [0, 1] rfl (by decide) 5 0 rfl rfl rfl) rfl rfl hl.1 rfl (lv_room (Nat.le_of_ble_eq_true rfl)) dX5_loudAfter_73 ⟨Nat.le_of_ble_eq_true rfl, Nat.le_of_ble_eq_true rfl⟩) (fun H locs hP hD hS => ?_)
          refine lv_if_ne (tgt := 91) hx hb dX5_loudAfter_76 (by decide) (fun c_13 => ?_) (fun c_13 => ?_)
          · have hF := it_neg c_13 hF
            refine lv_iinc (v := (x5 + (1 : Int32))) (lv' := [(5, .int (x5 + (1 : Int32))), (7, .int r_4), (6, .int r_2), (0, .ref (g_t 0)), (1, .int x1), (2, .int x2), (3, .int x3), (4, .int x4)]) hx hb dX5_loudAfter_91 hl (k := 7) rfl (congrArg (fun z => x5 + z) (by decide)) (by decide) rfl (fun ls hl => ?_)
            refine lv_goto (tgt := 18) hx hb dX5_loudAfter_94 (by decide) ?_
            exact ih x1 x2 x3 x4 (x5 + (1 : Int32)) H locs ls hP hD hS (lv_sub hl [3, 4, 5, 6, 7, 0] rfl) hF
          · have hF := it_pos c_13 hF
            refine lv_iload hx hb dX5_loudAfter_79 (lv_at hl 6 rfl) ?_
            refine lv_aload_n hx hb dX5_loudAfter_81 rfl (lv_at hl 2 rfl) ?_
            refine va_get (D := D) (ci := 5) (v := .ref (g_t 5)) (C := RX5) (T := TX5) (N := 13) hx hb hts iw_X5_loudAfter_X5 hown hK hP 0 rfl rfl 4 (by decide) (hts _ fl_X5_loudAfter_24) (fun _ h9 => h9) rfl dX5_loudAfter_82 ?_
            refine lv_iload hx hb dX5_loudAfter_85 (lv_at hl 7 rfl) ?_
            obtain ⟨hg_14, hF⟩ := gd_some hF
            refine xl_i (f := t_strengths) hx hb hK hP 4 0 rfl rfl rfl (in_v hg_14) dX5_loudAfter_87 ?_
            refine lv_iadd hx hb dX5_loudAfter_88 ?_
            refine lv_istore (lv' := [(4, .int (x4 + (t_strengths (x5).toNatClampNeg))), (7, .int r_4), (6, .int r_2), (0, .ref (g_t 0)), (1, .int x1), (2, .int x2), (3, .int x3), (5, .int x5)]) hx hb dX5_loudAfter_89 hl (by decide) rfl (fun ls hl => ?_)
            refine lv_iinc (v := (x5 + (1 : Int32))) (lv' := [(5, .int (x5 + (1 : Int32))), (4, .int (x4 + (t_strengths (x5).toNatClampNeg))), (7, .int r_4), (6, .int r_2), (0, .ref (g_t 0)), (1, .int x1), (2, .int x2), (3, .int x3)]) hx hb dX5_loudAfter_91 hl (k := 7) rfl (congrArg (fun z => x5 + z) (by decide)) (by decide) rfl (fun ls hl => ?_)
            refine lv_goto (tgt := 18) hx hb dX5_loudAfter_94 (by decide) ?_
            exact ih x1 x2 x3 (x4 + (t_strengths (x5).toNatClampNeg)) (x5 + (1 : Int32)) H locs ls hP hD hS (lv_sub hl [4, 5, 6, 7, 1, 0] rfl) hF
def F_X5_loudAfter (t_targetCount : Int32) (t_settings : Nat → Int32) (t_spots : Nat → Int32) (t_speeds : Nat → Int32) (t_strengths : Nat → Int32) (x1 : Int32) (x2 : Int32) (x3 : Int32) : Option (Int32) :=
  if (t_settings 2) ≤ x2 then (L_X5_loudAfter_18 t_targetCount t_settings t_spots t_speeds t_strengths fu_ x1 x2 x3 (0 : Int32) (0 : Int32)) else (some (0 : Int32))
set_option maxHeartbeats 4000000 in
set_option maxRecDepth 100000 in
theorem c_X5_loudAfter (l : Launch) (D : va_G) (K : Nat → ClassId) (g_t : Nat → Nat) (t_gapCount : Int32) (t_targetCount : Int32) (t_lookCount : Int32) (t_time : Int32) (t_gone : Int32) (t_settings : Nat → Int32) (t_spots : Nat → Int32) (t_speeds : Nat → Int32) (t_strengths : Nat → Int32) (x1 : Int32) (x2 : Int32) (x3 : Int32) (res : Int32) (hF : F_X5_loudAfter t_targetCount t_settings t_spots t_speeds t_strengths x1 x2 x3 = some res) :
    Mi_ l yX5_loudAfter wsX5_loudAfter rmX5_loudAfter D K [.ref (g_t 0), .int x1, .int x2, .int x3] (w_X5_loudAfter K g_t t_gapCount t_targetCount t_lookCount t_time t_gone t_settings t_spots t_speeds t_strengths) (w_X5_loudAfter K g_t t_gapCount t_targetCount t_lookCount t_time t_gone t_settings t_spots t_speeds t_strengths) (res) := by
  refine en_i (cc := cX5_loudAfter) (maxL := 8) (own := RX5) (by decide) rfl rfl (Nat.le_of_ble_eq_true rfl) ?_
  intro p e s m args below meth c A Q H locs ls C0 hP hD hS hl HR
  obtain ⟨⟨hx, hb, hml, hown, hts⟩, hK, -⟩ := id C0
  have hl : lv_has ls 8 [(0, .ref (g_t 0)), (1, .int x1), (2, .int x2), (3, .int x3)] := hl
  unfold F_X5_loudAfter at hF
  refine lv_iload_n hx hb dX5_loudAfter_0 rfl (lv_at hl 2 rfl) ?_
  refine lv_aload_n hx hb dX5_loudAfter_1 rfl (lv_at hl 0 rfl) ?_
  refine va_get (D := D) (ci := 5) (v := .ref (g_t 2)) (C := RX5) (T := TX5) (N := 13) hx hb hts iw_X5_loudAfter_X5 hown hK hP 0 rfl rfl 1 (by decide) (hts _ fl_X5_loudAfter_15) (fun _ h9 => h9) rfl dX5_loudAfter_2 ?_
  refine lv_iconst (v := 2) hx hb dX5_loudAfter_5 (by decide) ?_
  refine xl_i (f := t_settings) hx hb hK hP 1 0 rfl rfl (k := 2) (by decide) (in_v (by decide)) dX5_loudAfter_6 ?_
  refine lv_icmp_ge (tgt := 12) hx hb dX5_loudAfter_7 (by decide) (fun c_1 => ?_) (fun c_1 => ?_)
  · have hF := it_pos c_1 hF
    refine lv_iconst (v := 0) hx hb dX5_loudAfter_12 (by decide) ?_
    refine lv_istore (lv' := [(4, .int (0 : Int32)), (0, .ref (g_t 0)), (1, .int x1), (2, .int x2), (3, .int x3)]) hx hb dX5_loudAfter_13 hl (by decide) rfl (fun ls hl => ?_)
    refine lv_iconst (v := 0) hx hb dX5_loudAfter_15 (by decide) ?_
    refine lv_istore (lv' := [(5, .int (0 : Int32)), (4, .int (0 : Int32)), (0, .ref (g_t 0)), (1, .int x1), (2, .int x2), (3, .int x3)]) hx hb dX5_loudAfter_16 hl (by decide) rfl (fun ls hl => ?_)
    exact w_X5_loudAfter_18 C0 HR fu_ x1 x2 x3 (0 : Int32) (0 : Int32) H locs ls hP hD hS (lv_sub hl [2, 3, 4, 5, 1, 0] rfl) hF
  · have hF := it_neg c_1 hF
    refine lv_iconst (v := 0) hx hb dX5_loudAfter_10 (by decide) ?_
    obtain rfl := Option.some.inj hF
    exact HR 11 H locs ls dX5_loudAfter_11 hP hD hS

/-! StaggerRadar.Radar.findsAfter(II)Z -/
abbrev rmX5_findsAfter : Room := { frames := 3, cells := 0, slots := 0, locals := 72 }
theorem fl_X5_findsAfter_9 : Cond.fieldLink RX5 9 "StaggerRadar$Radar" "gaps" "[I" ∈ wsX5_findsAfter := by decide +kernel
theorem fl_X5_findsAfter_15 : Cond.fieldLink RX5 15 "StaggerRadar$Radar" "settings" "[I" ∈ wsX5_findsAfter := by decide +kernel
theorem fl_X5_findsAfter_45 : Cond.fieldLink RX5 45 "StaggerRadar$Radar" "gapCount" "I" ∈ wsX5_findsAfter := by decide +kernel
theorem ld_X5_findsAfter_72 : Cond.constant RX5 72 (47999) ∈ wsX5_findsAfter := by decide +kernel
theorem iw_X5_findsAfter_X5 : ∀ w ∈ u_ws RX5 TX5 13, w ∈ wsX5_findsAfter := by decide +kernel
abbrev w_X5_findsAfter (K : Nat → ClassId) (g_t : Nat → Nat) (t_gapCount : Int32) (t_targetCount : Int32) (t_lookCount : Int32) (t_time : Int32) (t_gone : Int32) (t_gaps : Nat → Int32) (t_settings : Nat → Int32) (t_spots : Nat → Int32) (t_speeds : Nat → Int32) (t_strengths : Nat → Int32) : va_W := [((g_t 0), .inr (5, [.ref (g_t 1), .ref (g_t 2), .ref (g_t 3), .ref (g_t 4), .ref (g_t 5), .ref (g_t 6), .ref (g_t 7), .ref (g_t 8), .int t_gapCount, .int t_targetCount, .int t_lookCount, .int t_time, .int t_gone])), ((g_t 1), .inl (K 0, 5, .inl t_gaps)), ((g_t 2), .inl (K 0, 7, .inl t_settings)), ((g_t 3), .inl (K 0, 8, .inl t_spots)), ((g_t 4), .inl (K 0, 8, .inl t_speeds)), ((g_t 5), .inl (K 0, 8, .inl t_strengths))]
def J_X5_findsAfter_96 (t_gapCount : Int32) (t_targetCount : Int32) (t_gaps : Nat → Int32) (t_settings : Nat → Int32) (t_spots : Nat → Int32) (t_speeds : Nat → Int32) (t_strengths : Nat → Int32) (x4 : Int32) : Option (Int32) :=
  if x4 < (t_settings 4) then (some (0 : Int32)) else (some (1 : Int32))
set_option maxHeartbeats 4000000 in
set_option maxRecDepth 100000 in
theorem w_X5_findsAfter_96 {p : Program} {l : Launch} {e : Env} {s : State} {m : MethodId} {args : Array Value} {below : List Frame} {meth : Method} {c : Code} {D : va_G} {K : Nat → ClassId} {A : Nat → Prop} {Q : State → Prop} (C0 : cx_ p s m args c cX5_findsAfter 7 RX5 wsX5_findsAfter D K A) {g_t : Nat → Nat} {t_gapCount : Int32} {t_targetCount : Int32} {t_lookCount : Int32} {t_time : Int32} {t_gone : Int32} {t_gaps : Nat → Int32} {t_settings : Nat → Int32} {t_spots : Nat → Int32} {t_speeds : Nat → Int32} {t_strengths : Nat → Int32} {res : Int32} (HR : ∀ (pc : Nat) (H : Heap) (locs : List Loc) (ls : Array Slot), decode cX5_findsAfter pc = .ok (.ireturn, 1) → narrow .boolean (.int res) = .int res → va_P D vwCl (w_X5_findsAfter K g_t t_gapCount t_targetCount t_lookCount t_time t_gone t_gaps t_settings t_spots t_speeds t_strengths) H → va_D A (w_X5_findsAfter K g_t t_gapCount t_targetCount t_lookCount t_time t_gone t_gaps t_settings t_spots t_speeds t_strengths) → va_S A s.heap H locs → W p l e rmX5_findsAfter s m args below meth c H locs 0 0 Q (F0 m pc ls [.int res]))  :
    ∀ (x4 : Int32) (H : Heap) (locs : List Loc) (ls : Array Slot), va_P D vwCl (w_X5_findsAfter K g_t t_gapCount t_targetCount t_lookCount t_time t_gone t_gaps t_settings t_spots t_speeds t_strengths) H → va_D A (w_X5_findsAfter K g_t t_gapCount t_targetCount t_lookCount t_time t_gone t_gaps t_settings t_spots t_speeds t_strengths) → va_S A s.heap H locs → lv_has ls 7 [(0, .ref (g_t 0)), (4, .int x4)] → J_X5_findsAfter_96 t_gapCount t_targetCount t_gaps t_settings t_spots t_speeds t_strengths x4 = some res → W p l e rmX5_findsAfter s m args below meth c H locs 0 0 Q (F0 m 96 ls []) := by
  obtain ⟨⟨hx, hb, hml, hown, hts⟩, hK, -⟩ := id C0
  intro x4 H locs ls hP hD hS hl hF
  unfold J_X5_findsAfter_96 at hF
  refine lv_iload hx hb dX5_findsAfter_96 (lv_at hl 1 rfl) ?_
  refine lv_aload_n hx hb dX5_findsAfter_98 rfl (lv_at hl 0 rfl) ?_
  refine va_get (D := D) (ci := 5) (v := .ref (g_t 2)) (C := RX5) (T := TX5) (N := 13) hx hb hts iw_X5_findsAfter_X5 hown hK hP 0 rfl rfl 1 (by decide) (hts _ fl_X5_findsAfter_15) (fun _ h9 => h9) rfl dX5_findsAfter_99 ?_
  refine lv_iconst (v := 4) hx hb dX5_findsAfter_102 (by decide) ?_
  refine xl_i (f := t_settings) hx hb hK hP 2 0 rfl rfl (k := 4) (by decide) (in_v (by decide)) dX5_findsAfter_103 ?_
  refine lv_icmp_lt (tgt := 111) hx hb dX5_findsAfter_104 (by decide) (fun c_1 => ?_) (fun c_1 => ?_)
  · have hF := it_pos c_1 hF
    refine lv_iconst (v := 0) hx hb dX5_findsAfter_111 (by decide) ?_
    obtain rfl := Option.some.inj hF
    exact HR 112 H locs ls dX5_findsAfter_112 narrow_b0 hP hD hS
  · have hF := it_neg c_1 hF
    refine lv_iconst (v := 1) hx hb dX5_findsAfter_107 (by decide) ?_
    refine lv_goto (tgt := 112) hx hb dX5_findsAfter_108 (by decide) ?_
    obtain rfl := Option.some.inj hF
    exact HR 112 H locs ls dX5_findsAfter_112 narrow_b1 hP hD hS
def L_X5_findsAfter_38 (t_gapCount : Int32) (t_targetCount : Int32) (t_gaps : Nat → Int32) (t_settings : Nat → Int32) (t_spots : Nat → Int32) (t_speeds : Nat → Int32) (t_strengths : Nat → Int32) : Nat → Int32 → Int32 → Int32 → Int32 → Option (Int32)
  | 0, _, _, _, _ => none
  | n_ + 1, x2, x3, x4, x5 =>
    if t_gapCount ≤ x5 then (J_X5_findsAfter_96 t_gapCount t_targetCount t_gaps t_settings t_spots t_speeds t_strengths x4) else (gd_ (in_b x5 5) ((F_X10_rest (x3 / (16 : Int32)) (t_gaps (x5).toNatClampNeg)).bind fun r_3 => (gd_ (in_b x5 5) ((F_X5_loudAfter t_targetCount t_settings t_spots t_speeds t_strengths (t_gaps (x5).toNatClampNeg) r_3 x2).bind fun r_6 => (if r_6 < (t_settings 6) then (L_X5_findsAfter_38 t_gapCount t_targetCount t_gaps t_settings t_spots t_speeds t_strengths n_ x2 x3 x4 (x5 + (1 : Int32))) else (L_X5_findsAfter_38 t_gapCount t_targetCount t_gaps t_settings t_spots t_speeds t_strengths n_ x2 x3 (x4 + (1 : Int32)) (x5 + (1 : Int32))))))))
set_option maxHeartbeats 4000000 in
set_option maxRecDepth 100000 in
theorem w_X5_findsAfter_38 {p : Program} {l : Launch} {e : Env} {s : State} {m : MethodId} {args : Array Value} {below : List Frame} {meth : Method} {c : Code} {D : va_G} {K : Nat → ClassId} {A : Nat → Prop} {Q : State → Prop} (C0 : cx_ p s m args c cX5_findsAfter 7 RX5 wsX5_findsAfter D K A) {g_t : Nat → Nat} {t_gapCount : Int32} {t_targetCount : Int32} {t_lookCount : Int32} {t_time : Int32} {t_gone : Int32} {t_gaps : Nat → Int32} {t_settings : Nat → Int32} {t_spots : Nat → Int32} {t_speeds : Nat → Int32} {t_strengths : Nat → Int32} {res : Int32} (HR : ∀ (pc : Nat) (H : Heap) (locs : List Loc) (ls : Array Slot), decode cX5_findsAfter pc = .ok (.ireturn, 1) → narrow .boolean (.int res) = .int res → va_P D vwCl (w_X5_findsAfter K g_t t_gapCount t_targetCount t_lookCount t_time t_gone t_gaps t_settings t_spots t_speeds t_strengths) H → va_D A (w_X5_findsAfter K g_t t_gapCount t_targetCount t_lookCount t_time t_gone t_gaps t_settings t_spots t_speeds t_strengths) → va_S A s.heap H locs → W p l e rmX5_findsAfter s m args below meth c H locs 0 0 Q (F0 m pc ls [.int res]))  :
    ∀ (n_ : Nat) (x2 : Int32) (x3 : Int32) (x4 : Int32) (x5 : Int32) (H : Heap) (locs : List Loc) (ls : Array Slot), va_P D vwCl (w_X5_findsAfter K g_t t_gapCount t_targetCount t_lookCount t_time t_gone t_gaps t_settings t_spots t_speeds t_strengths) H → va_D A (w_X5_findsAfter K g_t t_gapCount t_targetCount t_lookCount t_time t_gone t_gaps t_settings t_spots t_speeds t_strengths) → va_S A s.heap H locs → lv_has ls 7 [(0, .ref (g_t 0)), (2, .int x2), (3, .int x3), (4, .int x4), (5, .int x5)] → L_X5_findsAfter_38 t_gapCount t_targetCount t_gaps t_settings t_spots t_speeds t_strengths n_ x2 x3 x4 x5 = some res → W p l e rmX5_findsAfter s m args below meth c H locs 0 0 Q (F0 m 38 ls []) := by
  obtain ⟨⟨hx, hb, hml, hown, hts⟩, hK, -⟩ := id C0
  intro n_
  induction n_ with
  | zero =>
    intro x2 x3 x4 x5 H locs ls hP hD hS hl hF
    exact no_s (show (none : Option (Int32)) = some res from hF)
  | succ n_ ih =>
    intro x2 x3 x4 x5 H locs ls hP hD hS hl hF
    rw [L_X5_findsAfter_38] at hF
    refine lv_iload hx hb dX5_findsAfter_38 (lv_at hl 4 rfl) ?_
    refine lv_aload_n hx hb dX5_findsAfter_40 rfl (lv_at hl 0 rfl) ?_
    refine va_get (D := D) (ci := 5) (v := .int t_gapCount) (C := RX5) (T := TX5) (N := 13) hx hb hts iw_X5_findsAfter_X5 hown hK hP 0 rfl rfl 8 (by decide) (hts _ fl_X5_findsAfter_45) (fun _ h9 => h9) rfl dX5_findsAfter_41 ?_
    refine lv_icmp_ge (tgt := 96) hx hb dX5_findsAfter_44 (by decide) (fun c_1 => ?_) (fun c_1 => ?_)
    · have hF := it_pos c_1 hF
      exact w_X5_findsAfter_96 C0 HR x4 H locs ls hP hD hS (lv_sub hl [0, 3] rfl) hF
    · have hF := it_neg c_1 hF
      refine lv_iload_n hx hb dX5_findsAfter_47 rfl (lv_at hl 2 rfl) ?_
      refine lv_bipush (v := 16) hx hb dX5_findsAfter_48 (by decide) ?_
      refine lv_idiv hx hb dX5_findsAfter_50 (by decide) ?_
      refine lv_aload_n hx hb dX5_findsAfter_51 rfl (lv_at hl 0 rfl) ?_
      refine va_get (D := D) (ci := 5) (v := .ref (g_t 1)) (C := RX5) (T := TX5) (N := 13) hx hb hts iw_X5_findsAfter_X5 hown hK hP 0 rfl rfl 0 (by decide) (hts _ fl_X5_findsAfter_9) (fun _ h9 => h9) rfl dX5_findsAfter_52 ?_
      refine lv_iload hx hb dX5_findsAfter_55 (lv_at hl 4 rfl) ?_
      obtain ⟨hg_2, hF⟩ := gd_some hF
      refine xl_i (f := t_gaps) hx hb hK hP 1 0 rfl rfl rfl (in_v hg_2) dX5_findsAfter_57 ?_
      obtain ⟨r_3, hc_4, hF⟩ := bn_some hF
      refine xc_i (wn := (w_X5_findsAfter K g_t t_gapCount t_targetCount t_lookCount t_time t_gone t_gaps t_settings t_spots t_speeds t_strengths)) hP hD hS C0.2.2.1 [] [0, 1, 2, 3, 4, 5] [0, 1, 2, 3, 4, 5] rfl rfl (by decide) (by decide) rfl (by decide) (va_runSN (host := "StaggerRadar") (As := [.int (x3 / (16 : Int32)), .int (t_gaps (x5).toNatClampNeg)]) (rest := []) C0.1 (c_X10_rest l D K (x3 / (16 : Int32)) (t_gaps (x5).toNatClampNeg) r_3 hc_4 H.size) ⟨va_cnB 2 hts gX5_findsAfter_X10_rest_n88 rfl rfl rfl (C0.2.2.2.1.1 ("StaggerRadar$Radar", 88, ⟨"StaggerRadar", "rest", "(II)I"⟩, "StaggerRadar") (by decide +kernel)) (hts (.initialized RX10) (by decide +kernel)) (by decide +kernel) ⟨Nat.le_of_ble_eq_true rfl, Nat.le_of_ble_eq_true rfl⟩, hts (.static yX10_rest) (by decide +kernel), trivial⟩ (xp_S C0.2 hP hD hS [] rfl (by decide)) rfl rfl hl.1 rfl (lv_room (Nat.le_of_ble_eq_true rfl)) dX5_findsAfter_58 ⟨Nat.le_of_ble_eq_true rfl, Nat.le_of_ble_eq_true rfl⟩) (fun H locs hP hD hS => ?_)
      refine lv_istore (lv' := [(6, .int r_3), (0, .ref (g_t 0)), (2, .int x2), (3, .int x3), (4, .int x4), (5, .int x5)]) hx hb dX5_findsAfter_61 hl (by decide) rfl (fun ls hl => ?_)
      refine lv_aload_n hx hb dX5_findsAfter_63 rfl (lv_at hl 1 rfl) ?_
      refine lv_aload_n hx hb dX5_findsAfter_64 rfl (lv_at hl 1 rfl) ?_
      refine va_get (D := D) (ci := 5) (v := .ref (g_t 1)) (C := RX5) (T := TX5) (N := 13) hx hb hts iw_X5_findsAfter_X5 hown hK hP 0 rfl rfl 0 (by decide) (hts _ fl_X5_findsAfter_9) (fun _ h9 => h9) rfl dX5_findsAfter_65 ?_
      refine lv_iload hx hb dX5_findsAfter_68 (lv_at hl 5 rfl) ?_
      obtain ⟨hg_5, hF⟩ := gd_some hF
      refine xl_i (f := t_gaps) hx hb hK hP 1 0 rfl rfl rfl (in_v hg_5) dX5_findsAfter_70 ?_
      refine lv_iload hx hb dX5_findsAfter_71 (lv_at hl 0 rfl) ?_
      refine lv_iload_n hx hb dX5_findsAfter_73 rfl (lv_at hl 2 rfl) ?_
      obtain ⟨r_6, hc_7, hF⟩ := bn_some hF
      refine xc_i (wn := (w_X5_findsAfter K g_t t_gapCount t_targetCount t_lookCount t_time t_gone t_gaps t_settings t_spots t_speeds t_strengths)) hP hD hS C0.2.2.1 [0, 2, 3, 4, 5] [1] [1, 0, 2, 3, 4, 5] rfl rfl (by decide) (by decide) rfl (by decide) (va_runV (As := [.int (t_gaps (x5).toNatClampNeg), .int r_3, .int x2]) (rest := []) C0.1 (c_X5_loudAfter l D K g_t t_gapCount t_targetCount t_lookCount t_time t_gone t_settings t_spots t_speeds t_strengths (t_gaps (x5).toNatClampNeg) r_3 x2 r_6 hc_7 H.size) (cwV 3 hts gX5_findsAfter_X5_loudAfter rfl rfl rfl (by decide +kernel) ⟨Nat.le_of_ble_eq_true rfl, Nat.le_of_ble_eq_true rfl⟩) (xp_V C0.2 hP hD hS [0, 2, 3, 4, 5] rfl (by decide) 5 0 rfl rfl rfl) rfl rfl hl.1 rfl (lv_room (Nat.le_of_ble_eq_true rfl)) dX5_findsAfter_74 ⟨Nat.le_of_ble_eq_true rfl, Nat.le_of_ble_eq_true rfl⟩) (fun H locs hP hD hS => ?_)
      refine lv_aload_n hx hb dX5_findsAfter_77 rfl (lv_at hl 1 rfl) ?_
      refine va_get (D := D) (ci := 5) (v := .ref (g_t 2)) (C := RX5) (T := TX5) (N := 13) hx hb hts iw_X5_findsAfter_X5 hown hK hP 0 rfl rfl 1 (by decide) (hts _ fl_X5_findsAfter_15) (fun _ h9 => h9) rfl dX5_findsAfter_78 ?_
      refine lv_bipush (v := 6) hx hb dX5_findsAfter_81 (by decide) ?_
      refine xl_i (f := t_settings) hx hb hK hP 2 0 rfl rfl (k := 6) (by decide) (in_v (by decide)) dX5_findsAfter_83 ?_
      refine lv_icmp_lt (tgt := 90) hx hb dX5_findsAfter_84 (by decide) (fun c_8 => ?_) (fun c_8 => ?_)
      · have hF := it_pos c_8 hF
        refine lv_iinc (v := (x5 + (1 : Int32))) (lv' := [(5, .int (x5 + (1 : Int32))), (6, .int r_3), (0, .ref (g_t 0)), (2, .int x2), (3, .int x3), (4, .int x4)]) hx hb dX5_findsAfter_90 hl (k := 5) rfl (congrArg (fun z => x5 + z) (by decide)) (by decide) rfl (fun ls hl => ?_)
        refine lv_goto (tgt := 38) hx hb dX5_findsAfter_93 (by decide) ?_
        exact ih x2 x3 x4 (x5 + (1 : Int32)) H locs ls hP hD hS (lv_sub hl [2, 3, 4, 5, 0] rfl) hF
      · have hF := it_neg c_8 hF
        refine lv_iinc (v := (x4 + (1 : Int32))) (lv' := [(4, .int (x4 + (1 : Int32))), (6, .int r_3), (0, .ref (g_t 0)), (2, .int x2), (3, .int x3), (5, .int x5)]) hx hb dX5_findsAfter_87 hl (k := 4) rfl (congrArg (fun z => x4 + z) (by decide)) (by decide) rfl (fun ls hl => ?_)
        refine lv_iinc (v := (x5 + (1 : Int32))) (lv' := [(5, .int (x5 + (1 : Int32))), (4, .int (x4 + (1 : Int32))), (6, .int r_3), (0, .ref (g_t 0)), (2, .int x2), (3, .int x3)]) hx hb dX5_findsAfter_90 hl (k := 5) rfl (congrArg (fun z => x5 + z) (by decide)) (by decide) rfl (fun ls hl => ?_)
        refine lv_goto (tgt := 38) hx hb dX5_findsAfter_93 (by decide) ?_
        exact ih x2 x3 (x4 + (1 : Int32)) (x5 + (1 : Int32)) H locs ls hP hD hS (lv_sub hl [3, 4, 5, 1, 0] rfl) hF
def F_X5_findsAfter (t_gapCount : Int32) (t_targetCount : Int32) (t_gaps : Nat → Int32) (t_settings : Nat → Int32) (t_spots : Nat → Int32) (t_speeds : Nat → Int32) (t_strengths : Nat → Int32) (x1 : Int32) (x2 : Int32) : Option (Int32) :=
  (F_X5_spotAfter t_spots t_speeds x1 x2).bind fun r_1 => ((F_X10_isWithin r_1 (0 : Int32) (47999 : Int32)).bind fun r_3 => (if r_3 = (0 : Int32) then (some (0 : Int32)) else (if (r_1 / (16 : Int32)) < (t_settings 3) then (L_X5_findsAfter_38 t_gapCount t_targetCount t_gaps t_settings t_spots t_speeds t_strengths fu_ x2 r_1 (0 : Int32) (0 : Int32)) else (some (0 : Int32)))))
set_option maxHeartbeats 4000000 in
set_option maxRecDepth 100000 in
theorem c_X5_findsAfter (l : Launch) (D : va_G) (K : Nat → ClassId) (g_t : Nat → Nat) (t_gapCount : Int32) (t_targetCount : Int32) (t_lookCount : Int32) (t_time : Int32) (t_gone : Int32) (t_gaps : Nat → Int32) (t_settings : Nat → Int32) (t_spots : Nat → Int32) (t_speeds : Nat → Int32) (t_strengths : Nat → Int32) (x1 : Int32) (x2 : Int32) (res : Int32) (hF : F_X5_findsAfter t_gapCount t_targetCount t_gaps t_settings t_spots t_speeds t_strengths x1 x2 = some res) :
    Mi_ l yX5_findsAfter wsX5_findsAfter rmX5_findsAfter D K [.ref (g_t 0), .int x1, .int x2] (w_X5_findsAfter K g_t t_gapCount t_targetCount t_lookCount t_time t_gone t_gaps t_settings t_spots t_speeds t_strengths) (w_X5_findsAfter K g_t t_gapCount t_targetCount t_lookCount t_time t_gone t_gaps t_settings t_spots t_speeds t_strengths) (res) := by
  refine en_z (cc := cX5_findsAfter) (maxL := 7) (own := RX5) (by decide) rfl rfl (Nat.le_of_ble_eq_true rfl) ?_
  intro p e s m args below meth c A Q H locs ls C0 hP hD hS hl HR
  obtain ⟨⟨hx, hb, hml, hown, hts⟩, hK, -⟩ := id C0
  have hl : lv_has ls 7 [(0, .ref (g_t 0)), (1, .int x1), (2, .int x2)] := hl
  unfold F_X5_findsAfter at hF
  refine lv_aload_n hx hb dX5_findsAfter_0 rfl (lv_at hl 0 rfl) ?_
  refine lv_iload_n hx hb dX5_findsAfter_1 rfl (lv_at hl 1 rfl) ?_
  refine lv_iload_n hx hb dX5_findsAfter_2 rfl (lv_at hl 2 rfl) ?_
  obtain ⟨r_1, hc_2, hF⟩ := bn_some hF
  refine xc_i (wn := (w_X5_findsAfter K g_t t_gapCount t_targetCount t_lookCount t_time t_gone t_gaps t_settings t_spots t_speeds t_strengths)) hP hD hS C0.2.2.1 [0, 3, 4] [1, 2, 5] [3, 0, 1, 4, 5, 2] rfl rfl (by decide) (by decide) rfl (by decide) (va_runV (As := [.int x1, .int x2]) (rest := []) C0.1 (c_X5_spotAfter l D K g_t t_gapCount t_targetCount t_lookCount t_time t_gone t_spots t_speeds x1 x2 r_1 hc_2 H.size) (cwV 2 hts gX5_findsAfter_X5_spotAfter rfl rfl rfl (by decide +kernel) ⟨Nat.le_of_ble_eq_true rfl, Nat.le_of_ble_eq_true rfl⟩) (xp_V C0.2 hP hD hS [0, 3, 4] rfl (by decide) 5 0 rfl rfl rfl) rfl rfl hl.1 rfl (lv_room (Nat.le_of_ble_eq_true rfl)) dX5_findsAfter_3 ⟨Nat.le_of_ble_eq_true rfl, Nat.le_of_ble_eq_true rfl⟩) (fun H locs hP hD hS => ?_)
  refine lv_istore_n (lv' := [(3, .int r_1), (0, .ref (g_t 0)), (1, .int x1), (2, .int x2)]) hx hb dX5_findsAfter_6 rfl hl (by decide) rfl (fun ls hl => ?_)
  refine lv_iload_n hx hb dX5_findsAfter_7 rfl (lv_at hl 0 rfl) ?_
  refine lv_iconst (v := 0) hx hb dX5_findsAfter_8 (by decide) ?_
  refine lv_ldc (v := 47999) hx hb hown (hts _ ld_X5_findsAfter_72) dX5_findsAfter_9 ?_
  obtain ⟨r_3, hc_4, hF⟩ := bn_some hF
  refine xc_i (wn := (w_X5_findsAfter K g_t t_gapCount t_targetCount t_lookCount t_time t_gone t_gaps t_settings t_spots t_speeds t_strengths)) hP hD hS C0.2.2.1 [] [0, 1, 2, 3, 4, 5] [0, 1, 2, 3, 4, 5] rfl rfl (by decide) (by decide) rfl (by decide) (va_runSN (host := "StaggerRadar") (As := [.int r_1, .int (0 : Int32), .int (47999 : Int32)]) (rest := []) C0.1 (c_X10_isWithin l D K r_1 (0 : Int32) (47999 : Int32) r_3 hc_4 H.size) ⟨va_cnB 3 hts gX5_findsAfter_X10_isWithin_n73 rfl rfl rfl (C0.2.2.2.1.1 ("StaggerRadar$Radar", 73, ⟨"StaggerRadar", "isWithin", "(III)Z"⟩, "StaggerRadar") (by decide +kernel)) (hts (.initialized RX10) (by decide +kernel)) (by decide +kernel) ⟨Nat.le_of_ble_eq_true rfl, Nat.le_of_ble_eq_true rfl⟩, hts (.static yX10_isWithin) (by decide +kernel), trivial⟩ (xp_S C0.2 hP hD hS [] rfl (by decide)) rfl rfl hl.1 rfl (lv_room (Nat.le_of_ble_eq_true rfl)) dX5_findsAfter_11 ⟨Nat.le_of_ble_eq_true rfl, Nat.le_of_ble_eq_true rfl⟩) (fun H locs hP hD hS => ?_)
  refine lv_if_eq (tgt := 30) hx hb dX5_findsAfter_14 (by decide) (fun c_5 => ?_) (fun c_5 => ?_)
  · have hF := it_pos c_5 hF
    refine lv_iconst (v := 0) hx hb dX5_findsAfter_30 (by decide) ?_
    obtain rfl := Option.some.inj hF
    exact HR 31 H locs ls dX5_findsAfter_31 narrow_b0 hP hD hS
  · have hF := it_neg c_5 hF
    refine lv_iload_n hx hb dX5_findsAfter_17 rfl (lv_at hl 0 rfl) ?_
    refine lv_bipush (v := 16) hx hb dX5_findsAfter_18 (by decide) ?_
    refine lv_idiv hx hb dX5_findsAfter_20 (by decide) ?_
    refine lv_aload_n hx hb dX5_findsAfter_21 rfl (lv_at hl 1 rfl) ?_
    refine va_get (D := D) (ci := 5) (v := .ref (g_t 2)) (C := RX5) (T := TX5) (N := 13) hx hb hts iw_X5_findsAfter_X5 hown hK hP 0 rfl rfl 1 (by decide) (hts _ fl_X5_findsAfter_15) (fun _ h9 => h9) rfl dX5_findsAfter_22 ?_
    refine lv_iconst (v := 3) hx hb dX5_findsAfter_25 (by decide) ?_
    refine xl_i (f := t_settings) hx hb hK hP 2 0 rfl rfl (k := 3) (by decide) (in_v (by decide)) dX5_findsAfter_26 ?_
    refine lv_icmp_lt (tgt := 32) hx hb dX5_findsAfter_27 (by decide) (fun c_6 => ?_) (fun c_6 => ?_)
    · have hF := it_pos c_6 hF
      refine lv_iconst (v := 0) hx hb dX5_findsAfter_32 (by decide) ?_
      refine lv_istore (lv' := [(4, .int (0 : Int32)), (3, .int r_1), (0, .ref (g_t 0)), (1, .int x1), (2, .int x2)]) hx hb dX5_findsAfter_33 hl (by decide) rfl (fun ls hl => ?_)
      refine lv_iconst (v := 0) hx hb dX5_findsAfter_35 (by decide) ?_
      refine lv_istore (lv' := [(5, .int (0 : Int32)), (4, .int (0 : Int32)), (3, .int r_1), (0, .ref (g_t 0)), (1, .int x1), (2, .int x2)]) hx hb dX5_findsAfter_36 hl (by decide) rfl (fun ls hl => ?_)
      exact w_X5_findsAfter_38 C0 HR fu_ x2 r_1 (0 : Int32) (0 : Int32) H locs ls hP hD hS (lv_sub hl [3, 5, 2, 1, 0] rfl) hF
    · have hF := it_neg c_6 hF
      refine lv_iconst (v := 0) hx hb dX5_findsAfter_30 (by decide) ?_
      obtain rfl := Option.some.inj hF
      exact HR 31 H locs ls dX5_findsAfter_31 narrow_b0 hP hD hS

/-! StaggerRadar.until(II)I -/
abbrev rmX10_until : Room := { frames := 4, cells := 0, slots := 0, locals := 98 }
theorem fl_X10_until_10 : Cond.fieldLink RX10 10 "StaggerRadar" "radar" "LStaggerRadar$Radar;" ∈ wsX10_until := by decide +kernel
theorem iw_X10_until_X10 : ∀ w ∈ u_ws RX10 TX10 14, w ∈ wsX10_until := by decide +kernel
theorem iw_X10_until_X5 : ∀ w ∈ u_ws RX5 TX5 13, w ∈ wsX10_until := by decide +kernel
abbrev w_X10_until (K : Nat → ClassId) (g_t : Nat → Nat) (g_t_radar : Nat → Nat) (g_t_draft : Nat → Nat) (g_t_text : Nat → Nat) (g_t_reader : Nat → Nat) (g_t_history : Nat → Nat) (g_t_echoes : Nat → Nat) (g_t_tracks : Nat → Nat) (g_t_dwelling : Nat → Nat) (g_t_chooser : Nat → Nat) (g_t_adviser : Nat → Nat) (t_radar_gapCount : Int32) (t_radar_targetCount : Int32) (t_radar_lookCount : Int32) (t_radar_time : Int32) (t_radar_gone : Int32) (t_radar_gaps : Nat → Int32) (t_radar_settings : Nat → Int32) (t_radar_spots : Nat → Int32) (t_radar_speeds : Nat → Int32) (t_radar_strengths : Nat → Int32) : va_W := [((g_t 0), .inr (9, [.ref (g_t_radar 0), .ref (g_t_draft 0), .ref (g_t_text 0), .ref (g_t_reader 0), .ref (g_t_history 0), .ref (g_t 6), .ref (g_t 7), .ref (g_t 8), .ref (g_t_echoes 0), .ref (g_t_tracks 0), .ref (g_t_dwelling 0), .ref (g_t_chooser 0), .ref (g_t_adviser 0), .ref (g_t 14)])), ((g_t_radar 0), .inr (5, [.ref (g_t_radar 1), .ref (g_t_radar 2), .ref (g_t_radar 3), .ref (g_t_radar 4), .ref (g_t_radar 5), .ref (g_t_radar 6), .ref (g_t_radar 7), .ref (g_t_radar 8), .int t_radar_gapCount, .int t_radar_targetCount, .int t_radar_lookCount, .int t_radar_time, .int t_radar_gone])), ((g_t_radar 1), .inl (K 0, 5, .inl t_radar_gaps)), ((g_t_radar 2), .inl (K 0, 7, .inl t_radar_settings)), ((g_t_radar 3), .inl (K 0, 8, .inl t_radar_spots)), ((g_t_radar 4), .inl (K 0, 8, .inl t_radar_speeds)), ((g_t_radar 5), .inl (K 0, 8, .inl t_radar_strengths))]
def L_X10_until_26 (t_radar_gapCount : Int32) (t_radar_targetCount : Int32) (t_radar_gaps : Nat → Int32) (t_radar_settings : Nat → Int32) (t_radar_spots : Nat → Int32) (t_radar_speeds : Nat → Int32) (t_radar_strengths : Nat → Int32) : Nat → Int32 → Int32 → Int32 → Option (Int32)
  | 0, _, _, _ => none
  | n_ + 1, x1, x2, x3 =>
    if x2 < x3 then (some (-1 : Int32)) else ((F_X5_findsAfter t_radar_gapCount t_radar_targetCount t_radar_gaps t_radar_settings t_radar_spots t_radar_speeds t_radar_strengths x1 x3).bind fun r_2 => (if r_2 = (0 : Int32) then (L_X10_until_26 t_radar_gapCount t_radar_targetCount t_radar_gaps t_radar_settings t_radar_spots t_radar_speeds t_radar_strengths n_ x1 x2 (x3 + (1 : Int32))) else (some x3)))
set_option maxHeartbeats 4000000 in
set_option maxRecDepth 100000 in
theorem w_X10_until_26 {p : Program} {l : Launch} {e : Env} {s : State} {m : MethodId} {args : Array Value} {below : List Frame} {meth : Method} {c : Code} {D : va_G} {K : Nat → ClassId} {A : Nat → Prop} {Q : State → Prop} (C0 : cx_ p s m args c cX10_until 4 RX10 wsX10_until D K A) {g_t : Nat → Nat} {g_t_radar : Nat → Nat} {g_t_draft : Nat → Nat} {g_t_text : Nat → Nat} {g_t_reader : Nat → Nat} {g_t_history : Nat → Nat} {g_t_echoes : Nat → Nat} {g_t_tracks : Nat → Nat} {g_t_dwelling : Nat → Nat} {g_t_chooser : Nat → Nat} {g_t_adviser : Nat → Nat} {t_radar_gapCount : Int32} {t_radar_targetCount : Int32} {t_radar_lookCount : Int32} {t_radar_time : Int32} {t_radar_gone : Int32} {t_radar_gaps : Nat → Int32} {t_radar_settings : Nat → Int32} {t_radar_spots : Nat → Int32} {t_radar_speeds : Nat → Int32} {t_radar_strengths : Nat → Int32} {res : Int32} (HR : ∀ (pc : Nat) (H : Heap) (locs : List Loc) (ls : Array Slot), decode cX10_until pc = .ok (.ireturn, 1) → va_P D vwCl (w_X10_until K g_t g_t_radar g_t_draft g_t_text g_t_reader g_t_history g_t_echoes g_t_tracks g_t_dwelling g_t_chooser g_t_adviser t_radar_gapCount t_radar_targetCount t_radar_lookCount t_radar_time t_radar_gone t_radar_gaps t_radar_settings t_radar_spots t_radar_speeds t_radar_strengths) H → va_D A (w_X10_until K g_t g_t_radar g_t_draft g_t_text g_t_reader g_t_history g_t_echoes g_t_tracks g_t_dwelling g_t_chooser g_t_adviser t_radar_gapCount t_radar_targetCount t_radar_lookCount t_radar_time t_radar_gone t_radar_gaps t_radar_settings t_radar_spots t_radar_speeds t_radar_strengths) → va_S A s.heap H locs → W p l e rmX10_until s m args below meth c H locs 0 0 Q (F0 m pc ls [.int res]))  :
    ∀ (n_ : Nat) (x1 : Int32) (x2 : Int32) (x3 : Int32) (H : Heap) (locs : List Loc) (ls : Array Slot), va_P D vwCl (w_X10_until K g_t g_t_radar g_t_draft g_t_text g_t_reader g_t_history g_t_echoes g_t_tracks g_t_dwelling g_t_chooser g_t_adviser t_radar_gapCount t_radar_targetCount t_radar_lookCount t_radar_time t_radar_gone t_radar_gaps t_radar_settings t_radar_spots t_radar_speeds t_radar_strengths) H → va_D A (w_X10_until K g_t g_t_radar g_t_draft g_t_text g_t_reader g_t_history g_t_echoes g_t_tracks g_t_dwelling g_t_chooser g_t_adviser t_radar_gapCount t_radar_targetCount t_radar_lookCount t_radar_time t_radar_gone t_radar_gaps t_radar_settings t_radar_spots t_radar_speeds t_radar_strengths) → va_S A s.heap H locs → lv_has ls 4 [(0, .ref (g_t 0)), (1, .int x1), (2, .int x2), (3, .int x3)] → L_X10_until_26 t_radar_gapCount t_radar_targetCount t_radar_gaps t_radar_settings t_radar_spots t_radar_speeds t_radar_strengths n_ x1 x2 x3 = some res → W p l e rmX10_until s m args below meth c H locs 0 0 Q (F0 m 26 ls []) := by
  obtain ⟨⟨hx, hb, hml, hown, hts⟩, hK, -⟩ := id C0
  intro n_
  induction n_ with
  | zero =>
    intro x1 x2 x3 H locs ls hP hD hS hl hF
    exact no_s (show (none : Option (Int32)) = some res from hF)
  | succ n_ ih =>
    intro x1 x2 x3 H locs ls hP hD hS hl hF
    rw [L_X10_until_26] at hF
    refine lv_iload_n hx hb dX10_until_26 rfl (lv_at hl 3 rfl) ?_
    refine lv_iload_n hx hb dX10_until_27 rfl (lv_at hl 2 rfl) ?_
    refine lv_icmp_gt (tgt := 51) hx hb dX10_until_28 (by decide) (fun c_1 => ?_) (fun c_1 => ?_)
    · have hF := it_pos c_1 hF
      refine lv_iconst (v := (-1)) hx hb dX10_until_51 (by decide) ?_
      obtain rfl := Option.some.inj hF
      exact HR 52 H locs ls dX10_until_52 hP hD hS
    · have hF := it_neg c_1 hF
      refine lv_aload_n hx hb dX10_until_31 rfl (lv_at hl 0 rfl) ?_
      refine va_get (D := D) (ci := 9) (v := .ref (g_t_radar 0)) (C := RX10) (T := TX10) (N := 14) hx hb hts iw_X10_until_X10 hown hK hP 0 rfl rfl 0 (by decide) (hts _ fl_X10_until_10) (fun _ h9 => h9) rfl dX10_until_32 ?_
      refine lv_iload_n hx hb dX10_until_35 rfl (lv_at hl 1 rfl) ?_
      refine lv_iload_n hx hb dX10_until_36 rfl (lv_at hl 3 rfl) ?_
      obtain ⟨r_2, hc_3, hF⟩ := bn_some hF
      refine xc_i (wn := (w_X10_until K g_t g_t_radar g_t_draft g_t_text g_t_reader g_t_history g_t_echoes g_t_tracks g_t_dwelling g_t_chooser g_t_adviser t_radar_gapCount t_radar_targetCount t_radar_lookCount t_radar_time t_radar_gone t_radar_gaps t_radar_settings t_radar_spots t_radar_speeds t_radar_strengths)) hP hD hS C0.2.2.1 [1, 2, 3, 4, 5, 6] [0] [0, 1, 2, 3, 4, 5, 6] rfl rfl (by decide) (by decide) rfl (by decide) (va_runV (As := [.int x1, .int x3]) (rest := []) C0.1 (c_X5_findsAfter l D K g_t_radar t_radar_gapCount t_radar_targetCount t_radar_lookCount t_radar_time t_radar_gone t_radar_gaps t_radar_settings t_radar_spots t_radar_speeds t_radar_strengths x1 x3 r_2 hc_3 H.size) (cwV 2 hts gX10_until_X5_findsAfter rfl rfl rfl (by decide +kernel) ⟨Nat.le_of_ble_eq_true rfl, Nat.le_of_ble_eq_true rfl⟩) (xp_V C0.2 hP hD hS [1, 2, 3, 4, 5, 6] rfl (by decide) 5 0 rfl rfl rfl) rfl rfl hl.1 rfl (lv_room (Nat.le_of_ble_eq_true rfl)) dX10_until_37 ⟨Nat.le_of_ble_eq_true rfl, Nat.le_of_ble_eq_true rfl⟩) (fun H locs hP hD hS => ?_)
      refine lv_if_eq (tgt := 45) hx hb dX10_until_40 (by decide) (fun c_4 => ?_) (fun c_4 => ?_)
      · have hF := it_pos c_4 hF
        refine lv_iinc (v := (x3 + (1 : Int32))) (lv' := [(3, .int (x3 + (1 : Int32))), (0, .ref (g_t 0)), (1, .int x1), (2, .int x2)]) hx hb dX10_until_45 hl (k := 3) rfl (congrArg (fun z => x3 + z) (by decide)) (by decide) rfl (fun ls hl => ?_)
        refine lv_goto (tgt := 26) hx hb dX10_until_48 (by decide) ?_
        exact ih x1 x2 (x3 + (1 : Int32)) H locs ls hP hD hS (lv_sub hl [1, 2, 3, 0] rfl) hF
      · have hF := it_neg c_4 hF
        refine lv_iload_n hx hb dX10_until_43 rfl (lv_at hl 3 rfl) ?_
        obtain rfl := Option.some.inj hF
        exact HR 44 H locs ls dX10_until_44 hP hD hS
def F_X10_until (t_radar_gapCount : Int32) (t_radar_targetCount : Int32) (t_radar_gaps : Nat → Int32) (t_radar_settings : Nat → Int32) (t_radar_spots : Nat → Int32) (t_radar_speeds : Nat → Int32) (t_radar_strengths : Nat → Int32) (x1 : Int32) (x2 : Int32) : Option (Int32) :=
  (F_X5_hasTarget t_radar_targetCount x1).bind fun r_1 => (if r_1 = (0 : Int32) then (some (-1 : Int32)) else ((F_X10_isWithin x2 (0 : Int32) (200 : Int32)).bind fun r_4 => (if r_4 = (0 : Int32) then (some (-1 : Int32)) else (L_X10_until_26 t_radar_gapCount t_radar_targetCount t_radar_gaps t_radar_settings t_radar_spots t_radar_speeds t_radar_strengths fu_ x1 x2 (0 : Int32)))))
set_option maxHeartbeats 4000000 in
set_option maxRecDepth 100000 in
theorem c_X10_until (l : Launch) (D : va_G) (K : Nat → ClassId) (g_t : Nat → Nat) (g_t_radar : Nat → Nat) (g_t_draft : Nat → Nat) (g_t_text : Nat → Nat) (g_t_reader : Nat → Nat) (g_t_history : Nat → Nat) (g_t_echoes : Nat → Nat) (g_t_tracks : Nat → Nat) (g_t_dwelling : Nat → Nat) (g_t_chooser : Nat → Nat) (g_t_adviser : Nat → Nat) (t_radar_gapCount : Int32) (t_radar_targetCount : Int32) (t_radar_lookCount : Int32) (t_radar_time : Int32) (t_radar_gone : Int32) (t_radar_gaps : Nat → Int32) (t_radar_settings : Nat → Int32) (t_radar_spots : Nat → Int32) (t_radar_speeds : Nat → Int32) (t_radar_strengths : Nat → Int32) (x1 : Int32) (x2 : Int32) (res : Int32) (hF : F_X10_until t_radar_gapCount t_radar_targetCount t_radar_gaps t_radar_settings t_radar_spots t_radar_speeds t_radar_strengths x1 x2 = some res) :
    Mi_ l yX10_until wsX10_until rmX10_until D K [.ref (g_t 0), .int x1, .int x2] (w_X10_until K g_t g_t_radar g_t_draft g_t_text g_t_reader g_t_history g_t_echoes g_t_tracks g_t_dwelling g_t_chooser g_t_adviser t_radar_gapCount t_radar_targetCount t_radar_lookCount t_radar_time t_radar_gone t_radar_gaps t_radar_settings t_radar_spots t_radar_speeds t_radar_strengths) (w_X10_until K g_t g_t_radar g_t_draft g_t_text g_t_reader g_t_history g_t_echoes g_t_tracks g_t_dwelling g_t_chooser g_t_adviser t_radar_gapCount t_radar_targetCount t_radar_lookCount t_radar_time t_radar_gone t_radar_gaps t_radar_settings t_radar_spots t_radar_speeds t_radar_strengths) (res) := by
  refine en_i (cc := cX10_until) (maxL := 4) (own := RX10) (by decide) rfl rfl (Nat.le_of_ble_eq_true rfl) ?_
  intro p e s m args below meth c A Q H locs ls C0 hP hD hS hl HR
  obtain ⟨⟨hx, hb, hml, hown, hts⟩, hK, -⟩ := id C0
  have hl : lv_has ls 4 [(0, .ref (g_t 0)), (1, .int x1), (2, .int x2)] := hl
  unfold F_X10_until at hF
  refine lv_aload_n hx hb dX10_until_0 rfl (lv_at hl 0 rfl) ?_
  refine va_get (D := D) (ci := 9) (v := .ref (g_t_radar 0)) (C := RX10) (T := TX10) (N := 14) hx hb hts iw_X10_until_X10 hown hK hP 0 rfl rfl 0 (by decide) (hts _ fl_X10_until_10) (fun _ h9 => h9) rfl dX10_until_1 ?_
  refine lv_iload_n hx hb dX10_until_4 rfl (lv_at hl 1 rfl) ?_
  obtain ⟨r_1, hc_2, hF⟩ := bn_some hF
  refine xc_i (wn := (w_X10_until K g_t g_t_radar g_t_draft g_t_text g_t_reader g_t_history g_t_echoes g_t_tracks g_t_dwelling g_t_chooser g_t_adviser t_radar_gapCount t_radar_targetCount t_radar_lookCount t_radar_time t_radar_gone t_radar_gaps t_radar_settings t_radar_spots t_radar_speeds t_radar_strengths)) hP hD hS C0.2.2.1 [1] [0, 2, 3, 4, 5, 6] [0, 6, 1, 2, 3, 4, 5] rfl rfl (by decide) (by decide) rfl (by decide) (va_runV (As := [.int x1]) (rest := []) C0.1 (c_X5_hasTarget l D K g_t_radar t_radar_gapCount t_radar_targetCount t_radar_lookCount t_radar_time t_radar_gone x1 r_1 hc_2 H.size) (cwV 1 hts gX10_until_X5_hasTarget rfl rfl rfl (by decide +kernel) ⟨Nat.le_of_ble_eq_true rfl, Nat.le_of_ble_eq_true rfl⟩) (xp_V C0.2 hP hD hS [1] rfl (by decide) 5 0 rfl rfl rfl) rfl rfl hl.1 rfl (lv_room (Nat.le_of_ble_eq_true rfl)) dX10_until_5 ⟨Nat.le_of_ble_eq_true rfl, Nat.le_of_ble_eq_true rfl⟩) (fun H locs hP hD hS => ?_)
  refine lv_if_eq (tgt := 22) hx hb dX10_until_8 (by decide) (fun c_3 => ?_) (fun c_3 => ?_)
  · have hF := it_pos c_3 hF
    refine lv_iconst (v := (-1)) hx hb dX10_until_22 (by decide) ?_
    obtain rfl := Option.some.inj hF
    exact HR 23 H locs ls dX10_until_23 hP hD hS
  · have hF := it_neg c_3 hF
    refine lv_iload_n hx hb dX10_until_11 rfl (lv_at hl 2 rfl) ?_
    refine lv_iconst (v := 0) hx hb dX10_until_12 (by decide) ?_
    refine lv_sipush (v := 200) hx hb dX10_until_13 (by decide) ?_
    obtain ⟨r_4, hc_5, hF⟩ := bn_some hF
    refine xc_i (wn := (w_X10_until K g_t g_t_radar g_t_draft g_t_text g_t_reader g_t_history g_t_echoes g_t_tracks g_t_dwelling g_t_chooser g_t_adviser t_radar_gapCount t_radar_targetCount t_radar_lookCount t_radar_time t_radar_gone t_radar_gaps t_radar_settings t_radar_spots t_radar_speeds t_radar_strengths)) hP hD hS C0.2.2.1 [] [0, 1, 2, 3, 4, 5, 6] [0, 1, 2, 3, 4, 5, 6] rfl rfl (by decide) (by decide) rfl (by decide) (va_runS (As := [.int x2, .int (0 : Int32), .int (200 : Int32)]) (rest := []) C0.1 (c_X10_isWithin l D K x2 (0 : Int32) (200 : Int32) r_4 hc_5 H.size) (va_cwS 3 hts gX10_until_X10_isWithin rfl rfl rfl (by decide +kernel) ⟨Nat.le_of_ble_eq_true rfl, Nat.le_of_ble_eq_true rfl⟩) (xp_S C0.2 hP hD hS [] rfl (by decide)) rfl rfl hl.1 rfl (lv_room (Nat.le_of_ble_eq_true rfl)) dX10_until_16 ⟨Nat.le_of_ble_eq_true rfl, Nat.le_of_ble_eq_true rfl⟩) (fun H locs hP hD hS => ?_)
    refine lv_if_ne (tgt := 24) hx hb dX10_until_19 (by decide) (fun c_6 => ?_) (fun c_6 => ?_)
    · have hF := it_neg c_6 hF
      refine lv_iconst (v := 0) hx hb dX10_until_24 (by decide) ?_
      refine lv_istore_n (lv' := [(3, .int (0 : Int32)), (0, .ref (g_t 0)), (1, .int x1), (2, .int x2)]) hx hb dX10_until_25 rfl hl (by decide) rfl (fun ls hl => ?_)
      exact w_X10_until_26 C0 HR fu_ x1 x2 (0 : Int32) H locs ls hP hD hS (lv_sub hl [1, 2, 3, 0] rfl) hF
    · have hF := it_pos c_6 hF
      refine lv_iconst (v := (-1)) hx hb dX10_until_22 (by decide) ?_
      obtain rfl := Option.some.inj hF
      exact HR 23 H locs ls dX10_until_23 hP hD hS

/-! StaggerRadar.Radar.gapsThatSee(I)I -/
abbrev rmX5_gapsThatSee : Room := { frames := 3, cells := 0, slots := 0, locals := 67 }
theorem fl_X5_gapsThatSee_9 : Cond.fieldLink RX5 9 "StaggerRadar$Radar" "gaps" "[I" ∈ wsX5_gapsThatSee := by decide +kernel
theorem fl_X5_gapsThatSee_45 : Cond.fieldLink RX5 45 "StaggerRadar$Radar" "gapCount" "I" ∈ wsX5_gapsThatSee := by decide +kernel
theorem iw_X5_gapsThatSee_X5 : ∀ w ∈ u_ws RX5 TX5 13, w ∈ wsX5_gapsThatSee := by decide +kernel
abbrev w_X5_gapsThatSee (K : Nat → ClassId) (g_t : Nat → Nat) (t_gapCount : Int32) (t_targetCount : Int32) (t_lookCount : Int32) (t_time : Int32) (t_gone : Int32) (t_gaps : Nat → Int32) (t_settings : Nat → Int32) (t_spots : Nat → Int32) (t_speeds : Nat → Int32) : va_W := [((g_t 0), .inr (5, [.ref (g_t 1), .ref (g_t 2), .ref (g_t 3), .ref (g_t 4), .ref (g_t 5), .ref (g_t 6), .ref (g_t 7), .ref (g_t 8), .int t_gapCount, .int t_targetCount, .int t_lookCount, .int t_time, .int t_gone])), ((g_t 1), .inl (K 0, 5, .inl t_gaps)), ((g_t 2), .inl (K 0, 7, .inl t_settings)), ((g_t 3), .inl (K 0, 8, .inl t_spots)), ((g_t 4), .inl (K 0, 8, .inl t_speeds))]
def L_X5_gapsThatSee_4 (t_gapCount : Int32) (t_gaps : Nat → Int32) (t_settings : Nat → Int32) (t_spots : Nat → Int32) (t_speeds : Nat → Int32) : Nat → Int32 → Int32 → Int32 → Option (Int32)
  | 0, _, _, _ => none
  | n_ + 1, x1, x2, x3 =>
    if t_gapCount ≤ x3 then (some x2) else (gd_ (in_b x3 5) ((F_X5_sees t_settings t_spots t_speeds x1 (t_gaps (x3).toNatClampNeg)).bind fun r_3 => (if r_3 = (0 : Int32) then (L_X5_gapsThatSee_4 t_gapCount t_gaps t_settings t_spots t_speeds n_ x1 x2 (x3 + (1 : Int32))) else (L_X5_gapsThatSee_4 t_gapCount t_gaps t_settings t_spots t_speeds n_ x1 (x2 ||| ((1 : Int32) <<< (x3 &&& 31))) (x3 + (1 : Int32))))))
set_option maxHeartbeats 4000000 in
set_option maxRecDepth 100000 in
theorem w_X5_gapsThatSee_4 {p : Program} {l : Launch} {e : Env} {s : State} {m : MethodId} {args : Array Value} {below : List Frame} {meth : Method} {c : Code} {D : va_G} {K : Nat → ClassId} {A : Nat → Prop} {Q : State → Prop} (C0 : cx_ p s m args c cX5_gapsThatSee 4 RX5 wsX5_gapsThatSee D K A) {g_t : Nat → Nat} {t_gapCount : Int32} {t_targetCount : Int32} {t_lookCount : Int32} {t_time : Int32} {t_gone : Int32} {t_gaps : Nat → Int32} {t_settings : Nat → Int32} {t_spots : Nat → Int32} {t_speeds : Nat → Int32} {res : Int32} (HR : ∀ (pc : Nat) (H : Heap) (locs : List Loc) (ls : Array Slot), decode cX5_gapsThatSee pc = .ok (.ireturn, 1) → va_P D vwCl (w_X5_gapsThatSee K g_t t_gapCount t_targetCount t_lookCount t_time t_gone t_gaps t_settings t_spots t_speeds) H → va_D A (w_X5_gapsThatSee K g_t t_gapCount t_targetCount t_lookCount t_time t_gone t_gaps t_settings t_spots t_speeds) → va_S A s.heap H locs → W p l e rmX5_gapsThatSee s m args below meth c H locs 0 0 Q (F0 m pc ls [.int res]))  :
    ∀ (n_ : Nat) (x1 : Int32) (x2 : Int32) (x3 : Int32) (H : Heap) (locs : List Loc) (ls : Array Slot), va_P D vwCl (w_X5_gapsThatSee K g_t t_gapCount t_targetCount t_lookCount t_time t_gone t_gaps t_settings t_spots t_speeds) H → va_D A (w_X5_gapsThatSee K g_t t_gapCount t_targetCount t_lookCount t_time t_gone t_gaps t_settings t_spots t_speeds) → va_S A s.heap H locs → lv_has ls 4 [(0, .ref (g_t 0)), (1, .int x1), (2, .int x2), (3, .int x3)] → L_X5_gapsThatSee_4 t_gapCount t_gaps t_settings t_spots t_speeds n_ x1 x2 x3 = some res → W p l e rmX5_gapsThatSee s m args below meth c H locs 0 0 Q (F0 m 4 ls []) := by
  obtain ⟨⟨hx, hb, hml, hown, hts⟩, hK, -⟩ := id C0
  intro n_
  induction n_ with
  | zero =>
    intro x1 x2 x3 H locs ls hP hD hS hl hF
    exact no_s (show (none : Option (Int32)) = some res from hF)
  | succ n_ ih =>
    intro x1 x2 x3 H locs ls hP hD hS hl hF
    rw [L_X5_gapsThatSee_4] at hF
    refine lv_iload_n hx hb dX5_gapsThatSee_4 rfl (lv_at hl 3 rfl) ?_
    refine lv_aload_n hx hb dX5_gapsThatSee_5 rfl (lv_at hl 0 rfl) ?_
    refine va_get (D := D) (ci := 5) (v := .int t_gapCount) (C := RX5) (T := TX5) (N := 13) hx hb hts iw_X5_gapsThatSee_X5 hown hK hP 0 rfl rfl 8 (by decide) (hts _ fl_X5_gapsThatSee_45) (fun _ h9 => h9) rfl dX5_gapsThatSee_6 ?_
    refine lv_icmp_ge (tgt := 38) hx hb dX5_gapsThatSee_9 (by decide) (fun c_1 => ?_) (fun c_1 => ?_)
    · have hF := it_pos c_1 hF
      refine lv_iload_n hx hb dX5_gapsThatSee_38 rfl (lv_at hl 2 rfl) ?_
      obtain rfl := Option.some.inj hF
      exact HR 39 H locs ls dX5_gapsThatSee_39 hP hD hS
    · have hF := it_neg c_1 hF
      refine lv_aload_n hx hb dX5_gapsThatSee_12 rfl (lv_at hl 0 rfl) ?_
      refine lv_iload_n hx hb dX5_gapsThatSee_13 rfl (lv_at hl 1 rfl) ?_
      refine lv_aload_n hx hb dX5_gapsThatSee_14 rfl (lv_at hl 0 rfl) ?_
      refine va_get (D := D) (ci := 5) (v := .ref (g_t 1)) (C := RX5) (T := TX5) (N := 13) hx hb hts iw_X5_gapsThatSee_X5 hown hK hP 0 rfl rfl 0 (by decide) (hts _ fl_X5_gapsThatSee_9) (fun _ h9 => h9) rfl dX5_gapsThatSee_15 ?_
      refine lv_iload_n hx hb dX5_gapsThatSee_18 rfl (lv_at hl 3 rfl) ?_
      obtain ⟨hg_2, hF⟩ := gd_some hF
      refine xl_i (f := t_gaps) hx hb hK hP 1 0 rfl rfl rfl (in_v hg_2) dX5_gapsThatSee_19 ?_
      obtain ⟨r_3, hc_4, hF⟩ := bn_some hF
      refine xc_i (wn := (w_X5_gapsThatSee K g_t t_gapCount t_targetCount t_lookCount t_time t_gone t_gaps t_settings t_spots t_speeds)) hP hD hS C0.2.2.1 [0, 2, 3, 4] [1] [1, 0, 2, 3, 4] rfl rfl (by decide) (by decide) rfl (by decide) (va_runV (As := [.int x1, .int (t_gaps (x3).toNatClampNeg)]) (rest := []) C0.1 (c_X5_sees l D K g_t t_gapCount t_targetCount t_lookCount t_time t_gone t_settings t_spots t_speeds x1 (t_gaps (x3).toNatClampNeg) r_3 hc_4 H.size) (cwV 2 hts gX5_gapsThatSee_X5_sees rfl rfl rfl (by decide +kernel) ⟨Nat.le_of_ble_eq_true rfl, Nat.le_of_ble_eq_true rfl⟩) (xp_V C0.2 hP hD hS [0, 2, 3, 4] rfl (by decide) 5 0 rfl rfl rfl) rfl rfl hl.1 rfl (lv_room (Nat.le_of_ble_eq_true rfl)) dX5_gapsThatSee_20 ⟨Nat.le_of_ble_eq_true rfl, Nat.le_of_ble_eq_true rfl⟩) (fun H locs hP hD hS => ?_)
      refine lv_if_eq (tgt := 32) hx hb dX5_gapsThatSee_23 (by decide) (fun c_5 => ?_) (fun c_5 => ?_)
      · have hF := it_pos c_5 hF
        refine lv_iinc (v := (x3 + (1 : Int32))) (lv' := [(3, .int (x3 + (1 : Int32))), (0, .ref (g_t 0)), (1, .int x1), (2, .int x2)]) hx hb dX5_gapsThatSee_32 hl (k := 3) rfl (congrArg (fun z => x3 + z) (by decide)) (by decide) rfl (fun ls hl => ?_)
        refine lv_goto (tgt := 4) hx hb dX5_gapsThatSee_35 (by decide) ?_
        exact ih x1 x2 (x3 + (1 : Int32)) H locs ls hP hD hS (lv_sub hl [1, 2, 3, 0] rfl) hF
      · have hF := it_neg c_5 hF
        refine lv_iload_n hx hb dX5_gapsThatSee_26 rfl (lv_at hl 2 rfl) ?_
        refine lv_iconst (v := 1) hx hb dX5_gapsThatSee_27 (by decide) ?_
        refine lv_iload_n hx hb dX5_gapsThatSee_28 rfl (lv_at hl 3 rfl) ?_
        refine lv_ishl hx hb dX5_gapsThatSee_29 ?_
        refine lv_ior hx hb dX5_gapsThatSee_30 ?_
        refine lv_istore_n (lv' := [(2, .int (x2 ||| ((1 : Int32) <<< (x3 &&& 31)))), (0, .ref (g_t 0)), (1, .int x1), (3, .int x3)]) hx hb dX5_gapsThatSee_31 rfl hl (by decide) rfl (fun ls hl => ?_)
        refine lv_iinc (v := (x3 + (1 : Int32))) (lv' := [(3, .int (x3 + (1 : Int32))), (2, .int (x2 ||| ((1 : Int32) <<< (x3 &&& 31)))), (0, .ref (g_t 0)), (1, .int x1)]) hx hb dX5_gapsThatSee_32 hl (k := 3) rfl (congrArg (fun z => x3 + z) (by decide)) (by decide) rfl (fun ls hl => ?_)
        refine lv_goto (tgt := 4) hx hb dX5_gapsThatSee_35 (by decide) ?_
        exact ih x1 (x2 ||| ((1 : Int32) <<< (x3 &&& 31))) (x3 + (1 : Int32)) H locs ls hP hD hS (lv_sub hl [2, 3, 1, 0] rfl) hF
def F_X5_gapsThatSee (t_gapCount : Int32) (t_gaps : Nat → Int32) (t_settings : Nat → Int32) (t_spots : Nat → Int32) (t_speeds : Nat → Int32) (x1 : Int32) : Option (Int32) :=
  L_X5_gapsThatSee_4 t_gapCount t_gaps t_settings t_spots t_speeds fu_ x1 (0 : Int32) (0 : Int32)
set_option maxHeartbeats 4000000 in
set_option maxRecDepth 100000 in
theorem c_X5_gapsThatSee (l : Launch) (D : va_G) (K : Nat → ClassId) (g_t : Nat → Nat) (t_gapCount : Int32) (t_targetCount : Int32) (t_lookCount : Int32) (t_time : Int32) (t_gone : Int32) (t_gaps : Nat → Int32) (t_settings : Nat → Int32) (t_spots : Nat → Int32) (t_speeds : Nat → Int32) (x1 : Int32) (res : Int32) (hF : F_X5_gapsThatSee t_gapCount t_gaps t_settings t_spots t_speeds x1 = some res) :
    Mi_ l yX5_gapsThatSee wsX5_gapsThatSee rmX5_gapsThatSee D K [.ref (g_t 0), .int x1] (w_X5_gapsThatSee K g_t t_gapCount t_targetCount t_lookCount t_time t_gone t_gaps t_settings t_spots t_speeds) (w_X5_gapsThatSee K g_t t_gapCount t_targetCount t_lookCount t_time t_gone t_gaps t_settings t_spots t_speeds) (res) := by
  refine en_i (cc := cX5_gapsThatSee) (maxL := 4) (own := RX5) (by decide) rfl rfl (Nat.le_of_ble_eq_true rfl) ?_
  intro p e s m args below meth c A Q H locs ls C0 hP hD hS hl HR
  obtain ⟨⟨hx, hb, hml, hown, hts⟩, hK, -⟩ := id C0
  have hl : lv_has ls 4 [(0, .ref (g_t 0)), (1, .int x1)] := hl
  unfold F_X5_gapsThatSee at hF
  refine lv_iconst (v := 0) hx hb dX5_gapsThatSee_0 (by decide) ?_
  refine lv_istore_n (lv' := [(2, .int (0 : Int32)), (0, .ref (g_t 0)), (1, .int x1)]) hx hb dX5_gapsThatSee_1 rfl hl (by decide) rfl (fun ls hl => ?_)
  refine lv_iconst (v := 0) hx hb dX5_gapsThatSee_2 (by decide) ?_
  refine lv_istore_n (lv' := [(3, .int (0 : Int32)), (2, .int (0 : Int32)), (0, .ref (g_t 0)), (1, .int x1)]) hx hb dX5_gapsThatSee_3 rfl hl (by decide) rfl (fun ls hl => ?_)
  exact w_X5_gapsThatSee_4 C0 HR fu_ x1 (0 : Int32) (0 : Int32) H locs ls hP hD hS (lv_sub hl [2, 3, 1, 0] rfl) hF

/-! StaggerRadar.Radar.targetsSeenBy(I)I -/
abbrev rmX5_targetsSeenBy : Room := { frames := 3, cells := 0, slots := 0, locals := 67 }
theorem fl_X5_targetsSeenBy_49 : Cond.fieldLink RX5 49 "StaggerRadar$Radar" "targetCount" "I" ∈ wsX5_targetsSeenBy := by decide +kernel
theorem iw_X5_targetsSeenBy_X5 : ∀ w ∈ u_ws RX5 TX5 13, w ∈ wsX5_targetsSeenBy := by decide +kernel
abbrev w_X5_targetsSeenBy (K : Nat → ClassId) (g_t : Nat → Nat) (t_gapCount : Int32) (t_targetCount : Int32) (t_lookCount : Int32) (t_time : Int32) (t_gone : Int32) (t_settings : Nat → Int32) (t_spots : Nat → Int32) (t_speeds : Nat → Int32) : va_W := [((g_t 0), .inr (5, [.ref (g_t 1), .ref (g_t 2), .ref (g_t 3), .ref (g_t 4), .ref (g_t 5), .ref (g_t 6), .ref (g_t 7), .ref (g_t 8), .int t_gapCount, .int t_targetCount, .int t_lookCount, .int t_time, .int t_gone])), ((g_t 2), .inl (K 0, 7, .inl t_settings)), ((g_t 3), .inl (K 0, 8, .inl t_spots)), ((g_t 4), .inl (K 0, 8, .inl t_speeds))]
def L_X5_targetsSeenBy_4 (t_targetCount : Int32) (t_settings : Nat → Int32) (t_spots : Nat → Int32) (t_speeds : Nat → Int32) : Nat → Int32 → Int32 → Int32 → Option (Int32)
  | 0, _, _, _ => none
  | n_ + 1, x1, x2, x3 =>
    if t_targetCount ≤ x3 then (some x2) else ((F_X5_sees t_settings t_spots t_speeds x3 x1).bind fun r_2 => (if r_2 = (0 : Int32) then (L_X5_targetsSeenBy_4 t_targetCount t_settings t_spots t_speeds n_ x1 x2 (x3 + (1 : Int32))) else (L_X5_targetsSeenBy_4 t_targetCount t_settings t_spots t_speeds n_ x1 (x2 ||| ((1 : Int32) <<< (x3 &&& 31))) (x3 + (1 : Int32)))))
set_option maxHeartbeats 4000000 in
set_option maxRecDepth 100000 in
theorem w_X5_targetsSeenBy_4 {p : Program} {l : Launch} {e : Env} {s : State} {m : MethodId} {args : Array Value} {below : List Frame} {meth : Method} {c : Code} {D : va_G} {K : Nat → ClassId} {A : Nat → Prop} {Q : State → Prop} (C0 : cx_ p s m args c cX5_targetsSeenBy 4 RX5 wsX5_targetsSeenBy D K A) {g_t : Nat → Nat} {t_gapCount : Int32} {t_targetCount : Int32} {t_lookCount : Int32} {t_time : Int32} {t_gone : Int32} {t_settings : Nat → Int32} {t_spots : Nat → Int32} {t_speeds : Nat → Int32} {res : Int32} (HR : ∀ (pc : Nat) (H : Heap) (locs : List Loc) (ls : Array Slot), decode cX5_targetsSeenBy pc = .ok (.ireturn, 1) → va_P D vwCl (w_X5_targetsSeenBy K g_t t_gapCount t_targetCount t_lookCount t_time t_gone t_settings t_spots t_speeds) H → va_D A (w_X5_targetsSeenBy K g_t t_gapCount t_targetCount t_lookCount t_time t_gone t_settings t_spots t_speeds) → va_S A s.heap H locs → W p l e rmX5_targetsSeenBy s m args below meth c H locs 0 0 Q (F0 m pc ls [.int res]))  :
    ∀ (n_ : Nat) (x1 : Int32) (x2 : Int32) (x3 : Int32) (H : Heap) (locs : List Loc) (ls : Array Slot), va_P D vwCl (w_X5_targetsSeenBy K g_t t_gapCount t_targetCount t_lookCount t_time t_gone t_settings t_spots t_speeds) H → va_D A (w_X5_targetsSeenBy K g_t t_gapCount t_targetCount t_lookCount t_time t_gone t_settings t_spots t_speeds) → va_S A s.heap H locs → lv_has ls 4 [(0, .ref (g_t 0)), (1, .int x1), (2, .int x2), (3, .int x3)] → L_X5_targetsSeenBy_4 t_targetCount t_settings t_spots t_speeds n_ x1 x2 x3 = some res → W p l e rmX5_targetsSeenBy s m args below meth c H locs 0 0 Q (F0 m 4 ls []) := by
  obtain ⟨⟨hx, hb, hml, hown, hts⟩, hK, -⟩ := id C0
  intro n_
  induction n_ with
  | zero =>
    intro x1 x2 x3 H locs ls hP hD hS hl hF
    exact no_s (show (none : Option (Int32)) = some res from hF)
  | succ n_ ih =>
    intro x1 x2 x3 H locs ls hP hD hS hl hF
    rw [L_X5_targetsSeenBy_4] at hF
    refine lv_iload_n hx hb dX5_targetsSeenBy_4 rfl (lv_at hl 3 rfl) ?_
    refine lv_aload_n hx hb dX5_targetsSeenBy_5 rfl (lv_at hl 0 rfl) ?_
    refine va_get (D := D) (ci := 5) (v := .int t_targetCount) (C := RX5) (T := TX5) (N := 13) hx hb hts iw_X5_targetsSeenBy_X5 hown hK hP 0 rfl rfl 9 (by decide) (hts _ fl_X5_targetsSeenBy_49) (fun _ h9 => h9) rfl dX5_targetsSeenBy_6 ?_
    refine lv_icmp_ge (tgt := 33) hx hb dX5_targetsSeenBy_9 (by decide) (fun c_1 => ?_) (fun c_1 => ?_)
    · have hF := it_pos c_1 hF
      refine lv_iload_n hx hb dX5_targetsSeenBy_33 rfl (lv_at hl 2 rfl) ?_
      obtain rfl := Option.some.inj hF
      exact HR 34 H locs ls dX5_targetsSeenBy_34 hP hD hS
    · have hF := it_neg c_1 hF
      refine lv_aload_n hx hb dX5_targetsSeenBy_12 rfl (lv_at hl 0 rfl) ?_
      refine lv_iload_n hx hb dX5_targetsSeenBy_13 rfl (lv_at hl 3 rfl) ?_
      refine lv_iload_n hx hb dX5_targetsSeenBy_14 rfl (lv_at hl 1 rfl) ?_
      obtain ⟨r_2, hc_3, hF⟩ := bn_some hF
      refine xc_i (wn := (w_X5_targetsSeenBy K g_t t_gapCount t_targetCount t_lookCount t_time t_gone t_settings t_spots t_speeds)) hP hD hS C0.2.2.1 [0, 1, 2, 3] [] [0, 1, 2, 3] rfl rfl (by decide) (by decide) rfl (by decide) (va_runV (As := [.int x3, .int x1]) (rest := []) C0.1 (c_X5_sees l D K g_t t_gapCount t_targetCount t_lookCount t_time t_gone t_settings t_spots t_speeds x3 x1 r_2 hc_3 H.size) (cwV 2 hts gX5_targetsSeenBy_X5_sees rfl rfl rfl (by decide +kernel) ⟨Nat.le_of_ble_eq_true rfl, Nat.le_of_ble_eq_true rfl⟩) (xp_V C0.2 hP hD hS [0, 1, 2, 3] rfl (by decide) 5 0 rfl rfl rfl) rfl rfl hl.1 rfl (lv_room (Nat.le_of_ble_eq_true rfl)) dX5_targetsSeenBy_15 ⟨Nat.le_of_ble_eq_true rfl, Nat.le_of_ble_eq_true rfl⟩) (fun H locs hP hD hS => ?_)
      refine lv_if_eq (tgt := 27) hx hb dX5_targetsSeenBy_18 (by decide) (fun c_4 => ?_) (fun c_4 => ?_)
      · have hF := it_pos c_4 hF
        refine lv_iinc (v := (x3 + (1 : Int32))) (lv' := [(3, .int (x3 + (1 : Int32))), (0, .ref (g_t 0)), (1, .int x1), (2, .int x2)]) hx hb dX5_targetsSeenBy_27 hl (k := 3) rfl (congrArg (fun z => x3 + z) (by decide)) (by decide) rfl (fun ls hl => ?_)
        refine lv_goto (tgt := 4) hx hb dX5_targetsSeenBy_30 (by decide) ?_
        exact ih x1 x2 (x3 + (1 : Int32)) H locs ls hP hD hS (lv_sub hl [1, 2, 3, 0] rfl) hF
      · have hF := it_neg c_4 hF
        refine lv_iload_n hx hb dX5_targetsSeenBy_21 rfl (lv_at hl 2 rfl) ?_
        refine lv_iconst (v := 1) hx hb dX5_targetsSeenBy_22 (by decide) ?_
        refine lv_iload_n hx hb dX5_targetsSeenBy_23 rfl (lv_at hl 3 rfl) ?_
        refine lv_ishl hx hb dX5_targetsSeenBy_24 ?_
        refine lv_ior hx hb dX5_targetsSeenBy_25 ?_
        refine lv_istore_n (lv' := [(2, .int (x2 ||| ((1 : Int32) <<< (x3 &&& 31)))), (0, .ref (g_t 0)), (1, .int x1), (3, .int x3)]) hx hb dX5_targetsSeenBy_26 rfl hl (by decide) rfl (fun ls hl => ?_)
        refine lv_iinc (v := (x3 + (1 : Int32))) (lv' := [(3, .int (x3 + (1 : Int32))), (2, .int (x2 ||| ((1 : Int32) <<< (x3 &&& 31)))), (0, .ref (g_t 0)), (1, .int x1)]) hx hb dX5_targetsSeenBy_27 hl (k := 3) rfl (congrArg (fun z => x3 + z) (by decide)) (by decide) rfl (fun ls hl => ?_)
        refine lv_goto (tgt := 4) hx hb dX5_targetsSeenBy_30 (by decide) ?_
        exact ih x1 (x2 ||| ((1 : Int32) <<< (x3 &&& 31))) (x3 + (1 : Int32)) H locs ls hP hD hS (lv_sub hl [2, 3, 1, 0] rfl) hF
def F_X5_targetsSeenBy (t_targetCount : Int32) (t_settings : Nat → Int32) (t_spots : Nat → Int32) (t_speeds : Nat → Int32) (x1 : Int32) : Option (Int32) :=
  L_X5_targetsSeenBy_4 t_targetCount t_settings t_spots t_speeds fu_ x1 (0 : Int32) (0 : Int32)
set_option maxHeartbeats 4000000 in
set_option maxRecDepth 100000 in
theorem c_X5_targetsSeenBy (l : Launch) (D : va_G) (K : Nat → ClassId) (g_t : Nat → Nat) (t_gapCount : Int32) (t_targetCount : Int32) (t_lookCount : Int32) (t_time : Int32) (t_gone : Int32) (t_settings : Nat → Int32) (t_spots : Nat → Int32) (t_speeds : Nat → Int32) (x1 : Int32) (res : Int32) (hF : F_X5_targetsSeenBy t_targetCount t_settings t_spots t_speeds x1 = some res) :
    Mi_ l yX5_targetsSeenBy wsX5_targetsSeenBy rmX5_targetsSeenBy D K [.ref (g_t 0), .int x1] (w_X5_targetsSeenBy K g_t t_gapCount t_targetCount t_lookCount t_time t_gone t_settings t_spots t_speeds) (w_X5_targetsSeenBy K g_t t_gapCount t_targetCount t_lookCount t_time t_gone t_settings t_spots t_speeds) (res) := by
  refine en_i (cc := cX5_targetsSeenBy) (maxL := 4) (own := RX5) (by decide) rfl rfl (Nat.le_of_ble_eq_true rfl) ?_
  intro p e s m args below meth c A Q H locs ls C0 hP hD hS hl HR
  obtain ⟨⟨hx, hb, hml, hown, hts⟩, hK, -⟩ := id C0
  have hl : lv_has ls 4 [(0, .ref (g_t 0)), (1, .int x1)] := hl
  unfold F_X5_targetsSeenBy at hF
  refine lv_iconst (v := 0) hx hb dX5_targetsSeenBy_0 (by decide) ?_
  refine lv_istore_n (lv' := [(2, .int (0 : Int32)), (0, .ref (g_t 0)), (1, .int x1)]) hx hb dX5_targetsSeenBy_1 rfl hl (by decide) rfl (fun ls hl => ?_)
  refine lv_iconst (v := 0) hx hb dX5_targetsSeenBy_2 (by decide) ?_
  refine lv_istore_n (lv' := [(3, .int (0 : Int32)), (2, .int (0 : Int32)), (0, .ref (g_t 0)), (1, .int x1)]) hx hb dX5_targetsSeenBy_3 rfl hl (by decide) rfl (fun ls hl => ?_)
  exact w_X5_targetsSeenBy_4 C0 HR fu_ x1 (0 : Int32) (0 : Int32) H locs ls hP hD hS (lv_sub hl [2, 3, 1, 0] rfl) hF

/-! StaggerRadar.Speeds.countBlind(LStaggerRadar$Radar;I)I -/
abbrev rmX7_countBlind : Room := { frames := 2, cells := 0, slots := 0, locals := 45 }
theorem fl_X7_countBlind_23 : Cond.fieldLink RX7 23 "StaggerRadar$Radar" "settings" "[I" ∈ wsX7_countBlind := by decide +kernel
theorem iw_X7_countBlind_X5 : ∀ w ∈ u_ws RX5 TX5 13, w ∈ wsX7_countBlind := by decide +kernel
abbrev w_X7_countBlind (K : Nat → ClassId) (g_p0 : Nat → Nat) (p0_gapCount : Int32) (p0_targetCount : Int32) (p0_lookCount : Int32) (p0_time : Int32) (p0_gone : Int32) (p0_settings : Nat → Int32) : va_W := [((g_p0 0), .inr (5, [.ref (g_p0 1), .ref (g_p0 2), .ref (g_p0 3), .ref (g_p0 4), .ref (g_p0 5), .ref (g_p0 6), .ref (g_p0 7), .ref (g_p0 8), .int p0_gapCount, .int p0_targetCount, .int p0_lookCount, .int p0_time, .int p0_gone])), ((g_p0 2), .inl (K 0, 7, .inl p0_settings))]
def L_X7_countBlind_4 (p0_settings : Nat → Int32) : Nat → Int32 → Int32 → Int32 → Option (Int32)
  | 0, _, _, _ => none
  | n_ + 1, x1, x2, x3 =>
    if (p0_settings 5) < x3 then (some x2) else ((F_X5_hides p0_settings x3 x1).bind fun r_2 => (if r_2 = (0 : Int32) then (L_X7_countBlind_4 p0_settings n_ x1 x2 (x3 + (1 : Int32))) else (L_X7_countBlind_4 p0_settings n_ x1 (x2 + (1 : Int32)) (x3 + (1 : Int32)))))
set_option maxHeartbeats 4000000 in
set_option maxRecDepth 100000 in
theorem w_X7_countBlind_4 {p : Program} {l : Launch} {e : Env} {s : State} {m : MethodId} {args : Array Value} {below : List Frame} {meth : Method} {c : Code} {D : va_G} {K : Nat → ClassId} {A : Nat → Prop} {Q : State → Prop} (C0 : cx_ p s m args c cX7_countBlind 4 RX7 wsX7_countBlind D K A) {g_p0 : Nat → Nat} {p0_gapCount : Int32} {p0_targetCount : Int32} {p0_lookCount : Int32} {p0_time : Int32} {p0_gone : Int32} {p0_settings : Nat → Int32} {res : Int32} (HR : ∀ (pc : Nat) (H : Heap) (locs : List Loc) (ls : Array Slot), decode cX7_countBlind pc = .ok (.ireturn, 1) → va_P D vwCl (w_X7_countBlind K g_p0 p0_gapCount p0_targetCount p0_lookCount p0_time p0_gone p0_settings) H → va_D A (w_X7_countBlind K g_p0 p0_gapCount p0_targetCount p0_lookCount p0_time p0_gone p0_settings) → va_S A s.heap H locs → W p l e rmX7_countBlind s m args below meth c H locs 0 0 Q (F0 m pc ls [.int res]))  :
    ∀ (n_ : Nat) (x1 : Int32) (x2 : Int32) (x3 : Int32) (H : Heap) (locs : List Loc) (ls : Array Slot), va_P D vwCl (w_X7_countBlind K g_p0 p0_gapCount p0_targetCount p0_lookCount p0_time p0_gone p0_settings) H → va_D A (w_X7_countBlind K g_p0 p0_gapCount p0_targetCount p0_lookCount p0_time p0_gone p0_settings) → va_S A s.heap H locs → lv_has ls 4 [(0, .ref (g_p0 0)), (1, .int x1), (2, .int x2), (3, .int x3)] → L_X7_countBlind_4 p0_settings n_ x1 x2 x3 = some res → W p l e rmX7_countBlind s m args below meth c H locs 0 0 Q (F0 m 4 ls []) := by
  obtain ⟨⟨hx, hb, hml, hown, hts⟩, hK, -⟩ := id C0
  intro n_
  induction n_ with
  | zero =>
    intro x1 x2 x3 H locs ls hP hD hS hl hF
    exact no_s (show (none : Option (Int32)) = some res from hF)
  | succ n_ ih =>
    intro x1 x2 x3 H locs ls hP hD hS hl hF
    rw [L_X7_countBlind_4] at hF
    refine lv_iload_n hx hb dX7_countBlind_4 rfl (lv_at hl 3 rfl) ?_
    refine lv_aload_n hx hb dX7_countBlind_5 rfl (lv_at hl 0 rfl) ?_
    refine va_get (D := D) (ci := 5) (v := .ref (g_p0 2)) (C := RX5) (T := TX5) (N := 13) hx hb hts iw_X7_countBlind_X5 hown hK hP 0 rfl rfl 1 (by decide) (hts _ fl_X7_countBlind_23) (fun _ h9 => h9) rfl dX7_countBlind_6 ?_
    refine lv_iconst (v := 5) hx hb dX7_countBlind_9 (by decide) ?_
    refine xl_i (f := p0_settings) hx hb hK hP 1 0 rfl rfl (k := 5) (by decide) (in_v (by decide)) dX7_countBlind_10 ?_
    refine lv_icmp_gt (tgt := 32) hx hb dX7_countBlind_11 (by decide) (fun c_1 => ?_) (fun c_1 => ?_)
    · have hF := it_pos c_1 hF
      refine lv_iload_n hx hb dX7_countBlind_32 rfl (lv_at hl 2 rfl) ?_
      obtain rfl := Option.some.inj hF
      exact HR 33 H locs ls dX7_countBlind_33 hP hD hS
    · have hF := it_neg c_1 hF
      refine lv_aload_n hx hb dX7_countBlind_14 rfl (lv_at hl 0 rfl) ?_
      refine lv_iload_n hx hb dX7_countBlind_15 rfl (lv_at hl 3 rfl) ?_
      refine lv_iload_n hx hb dX7_countBlind_16 rfl (lv_at hl 1 rfl) ?_
      obtain ⟨r_2, hc_3, hF⟩ := bn_some hF
      refine xc_i (wn := (w_X7_countBlind K g_p0 p0_gapCount p0_targetCount p0_lookCount p0_time p0_gone p0_settings)) hP hD hS C0.2.2.1 [0, 1] [] [0, 1] rfl rfl (by decide) (by decide) rfl (by decide) (va_runV (As := [.int x3, .int x1]) (rest := []) C0.1 (c_X5_hides l D K g_p0 p0_gapCount p0_targetCount p0_lookCount p0_time p0_gone p0_settings x3 x1 r_2 hc_3 H.size) (cwV 2 hts gX7_countBlind_X5_hides rfl rfl rfl (by decide +kernel) ⟨Nat.le_of_ble_eq_true rfl, Nat.le_of_ble_eq_true rfl⟩) (xp_V C0.2 hP hD hS [0, 1] rfl (by decide) 5 0 rfl rfl rfl) rfl rfl hl.1 rfl (lv_room (Nat.le_of_ble_eq_true rfl)) dX7_countBlind_17 ⟨Nat.le_of_ble_eq_true rfl, Nat.le_of_ble_eq_true rfl⟩) (fun H locs hP hD hS => ?_)
      refine lv_if_eq (tgt := 26) hx hb dX7_countBlind_20 (by decide) (fun c_4 => ?_) (fun c_4 => ?_)
      · have hF := it_pos c_4 hF
        refine lv_iinc (v := (x3 + (1 : Int32))) (lv' := [(3, .int (x3 + (1 : Int32))), (0, .ref (g_p0 0)), (1, .int x1), (2, .int x2)]) hx hb dX7_countBlind_26 hl (k := 3) rfl (congrArg (fun z => x3 + z) (by decide)) (by decide) rfl (fun ls hl => ?_)
        refine lv_goto (tgt := 4) hx hb dX7_countBlind_29 (by decide) ?_
        exact ih x1 x2 (x3 + (1 : Int32)) H locs ls hP hD hS (lv_sub hl [1, 2, 3, 0] rfl) hF
      · have hF := it_neg c_4 hF
        refine lv_iinc (v := (x2 + (1 : Int32))) (lv' := [(2, .int (x2 + (1 : Int32))), (0, .ref (g_p0 0)), (1, .int x1), (3, .int x3)]) hx hb dX7_countBlind_23 hl (k := 2) rfl (congrArg (fun z => x2 + z) (by decide)) (by decide) rfl (fun ls hl => ?_)
        refine lv_iinc (v := (x3 + (1 : Int32))) (lv' := [(3, .int (x3 + (1 : Int32))), (2, .int (x2 + (1 : Int32))), (0, .ref (g_p0 0)), (1, .int x1)]) hx hb dX7_countBlind_26 hl (k := 3) rfl (congrArg (fun z => x3 + z) (by decide)) (by decide) rfl (fun ls hl => ?_)
        refine lv_goto (tgt := 4) hx hb dX7_countBlind_29 (by decide) ?_
        exact ih x1 (x2 + (1 : Int32)) (x3 + (1 : Int32)) H locs ls hP hD hS (lv_sub hl [2, 3, 1, 0] rfl) hF
def F_X7_countBlind (p0_settings : Nat → Int32) (x1 : Int32) : Option (Int32) :=
  L_X7_countBlind_4 p0_settings fu_ x1 (0 : Int32) (1 : Int32)
set_option maxHeartbeats 4000000 in
set_option maxRecDepth 100000 in
theorem c_X7_countBlind (l : Launch) (D : va_G) (K : Nat → ClassId) (g_p0 : Nat → Nat) (p0_gapCount : Int32) (p0_targetCount : Int32) (p0_lookCount : Int32) (p0_time : Int32) (p0_gone : Int32) (p0_settings : Nat → Int32) (x1 : Int32) (res : Int32) (hF : F_X7_countBlind p0_settings x1 = some res) :
    Mi_ l yX7_countBlind wsX7_countBlind rmX7_countBlind D K [.ref (g_p0 0), .int x1] (w_X7_countBlind K g_p0 p0_gapCount p0_targetCount p0_lookCount p0_time p0_gone p0_settings) (w_X7_countBlind K g_p0 p0_gapCount p0_targetCount p0_lookCount p0_time p0_gone p0_settings) (res) := by
  refine en_i (cc := cX7_countBlind) (maxL := 4) (own := RX7) (by decide) rfl rfl (Nat.le_of_ble_eq_true rfl) ?_
  intro p e s m args below meth c A Q H locs ls C0 hP hD hS hl HR
  obtain ⟨⟨hx, hb, hml, hown, hts⟩, hK, -⟩ := id C0
  have hl : lv_has ls 4 [(0, .ref (g_p0 0)), (1, .int x1)] := hl
  unfold F_X7_countBlind at hF
  refine lv_iconst (v := 0) hx hb dX7_countBlind_0 (by decide) ?_
  refine lv_istore_n (lv' := [(2, .int (0 : Int32)), (0, .ref (g_p0 0)), (1, .int x1)]) hx hb dX7_countBlind_1 rfl hl (by decide) rfl (fun ls hl => ?_)
  refine lv_iconst (v := 1) hx hb dX7_countBlind_2 (by decide) ?_
  refine lv_istore_n (lv' := [(3, .int (1 : Int32)), (2, .int (0 : Int32)), (0, .ref (g_p0 0)), (1, .int x1)]) hx hb dX7_countBlind_3 rfl hl (by decide) rfl (fun ls hl => ?_)
  exact w_X7_countBlind_4 C0 HR fu_ x1 (0 : Int32) (1 : Int32) H locs ls hP hD hS (lv_sub hl [2, 3, 1, 0] rfl) hF
