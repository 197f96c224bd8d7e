/-! StaggerRadarModel.read()I -/
abbrev rmX11_read : Room := { frames := 5, cells := 0, slots := 0, locals := 114 }
theorem fl_X11_read_7 : Cond.fieldLink RX11 7 "StaggerRadarModel" "all" "[I" ∈ wsX11_read := by decide +kernel
theorem fl_X11_read_66 : Cond.fieldLink RX11 66 "StaggerRadarModel" "raised" "I" ∈ wsX11_read := by decide +kernel
theorem fl_X11_read_83 : Cond.fieldLink RX11 83 "StaggerRadarModel" "length" "I" ∈ wsX11_read := by decide +kernel
theorem fl_X11_read_97 : Cond.fieldLink RX11 97 "StaggerRadarModel" "sort" "I" ∈ wsX11_read := by decide +kernel
theorem fl_X11_read_103 : Cond.fieldLink RX11 103 "StaggerRadarModel" "wrongAt" "I" ∈ wsX11_read := by decide +kernel
theorem fl_X11_read_106 : Cond.fieldLink RX11 106 "StaggerRadarModel" "bad" "I" ∈ wsX11_read := by decide +kernel
theorem fl_X11_read_109 : Cond.fieldLink RX11 109 "StaggerRadarModel" "badAt" "I" ∈ wsX11_read := by decide +kernel
theorem iw_X11_read_X11 : ∀ w ∈ u_ws RX11 TX11 30, w ∈ wsX11_read := by decide +kernel
abbrev w_X11_read (K : Nat → ClassId) (g_t : Nat → Nat) (t_raised : Int32) (t_undos : Int32) (t_reached : Int32) (t_length : Int32) (t_begin : Int32) (t_sort : Int32) (t_value : Int32) (t_word : Int64) (t_wrongAt : Int32) (t_badAt : Int32) (t_bad : Int32) (t_read : Int32) (t_pictured : Int32) (t_x : Int32) (t_all : Nat → Int32) (t_text : Nat → Int32) (t_told : Nat → Int32) : va_W := [((g_t 0), .inr (10, [.int t_raised, .ref (g_t 2), .ref (g_t 3), .ref (g_t 4), .ref (g_t 5), .int t_undos, .int t_reached, .int t_length, .int t_begin, .int t_sort, .int t_value, .long t_word, .int t_wrongAt, .int t_badAt, .int t_bad, .ref (g_t 16), .int t_read, .ref (g_t 18), .ref (g_t 19), .ref (g_t 20), .int t_pictured, .ref (g_t 22), .ref (g_t 23), .ref (g_t 24), .ref (g_t 25), .ref (g_t 26), .int t_x, .ref (g_t 28), .ref (g_t 29), .ref (g_t 30)])), ((g_t 2), .inl (K 0, 500, .inl t_all)), ((g_t 3), .inl (K 3, 1600, .inl t_text)), ((g_t 16), .inl (K 0, 97, .inl t_told))]
def J_X11_read_67 (t_text : Nat → Int32) (k_34 : Int32 → Int32 → Int32 → Int32 → Int32 → Int32 → Int32 → Int64 → Int32 → Int32 → Int32 → Int32 → (Nat → Int32) → (Nat → Int32) → Int32 → Option (Int32 × Int32 × Int32 × Int32 × Int32 × Int32 × Int32 × Int32 × Int64 × Int32 × Int32 × Int32 × Int32 × (Nat → Int32) × (Nat → Int32))) (t_raised : Int32) (t_undos : Int32) (t_reached : Int32) (t_length : Int32) (t_begin : Int32) (t_sort : Int32) (t_value : Int32) (t_word : Int64) (t_wrongAt : Int32) (t_badAt : Int32) (t_bad : Int32) (t_read : Int32) (t_all : Nat → Int32) (t_told : Nat → Int32) (x1 : Int32) : Option (Int32 × Int32 × Int32 × Int32 × Int32 × Int32 × Int32 × Int32 × Int64 × Int32 × Int32 × Int32 × Int32 × (Nat → Int32) × (Nat → Int32)) :=
  if x1 = (0 : Int32) then (k_34 t_raised t_undos t_reached t_length t_begin t_sort t_value t_word t_wrongAt t_badAt t_bad t_read t_all t_told x1) else ((F_X11_token t_reached t_length t_begin t_sort t_value t_word t_text).bind fun r_2 => (k_34 t_raised t_undos r_2.1 t_length r_2.2.1 r_2.2.2.1 r_2.2.2.2.1 r_2.2.2.2.2 t_wrongAt t_badAt t_bad t_read t_all t_told x1))
set_option maxHeartbeats 4000000 in
set_option maxRecDepth 100000 in
theorem w_X11_read_67 {p : Program} {l : Launch} {e : Env} {s : State} {m : MethodId} {args : Array Value} {below : List Frame} {meth : Method} {c : Code} {D : va_G} {K : Nat → ClassId} {A : Nat → Prop} {Q : State → Prop} (C0 : cx_ p s m args c cX11_read 2 RX11 wsX11_read D K A) {g_t : Nat → Nat} {t_pictured : Int32} {t_x : Int32} {t_text : Nat → Int32} {res : Int32 × Int32 × Int32 × Int32 × Int32 × Int32 × Int32 × Int32 × Int64 × Int32 × Int32 × Int32 × Int32 × (Nat → Int32) × (Nat → Int32)} (HR : ∀ (pc : Nat) (H : Heap) (locs : List Loc) (ls : Array Slot), decode cX11_read pc = .ok (.ireturn, 1) → va_P D vwCl (w_X11_read K g_t res.2.1 res.2.2.1 res.2.2.2.1 res.2.2.2.2.1 res.2.2.2.2.2.1 res.2.2.2.2.2.2.1 res.2.2.2.2.2.2.2.1 res.2.2.2.2.2.2.2.2.1 res.2.2.2.2.2.2.2.2.2.1 res.2.2.2.2.2.2.2.2.2.2.1 res.2.2.2.2.2.2.2.2.2.2.2.1 res.2.2.2.2.2.2.2.2.2.2.2.2.1 t_pictured t_x res.2.2.2.2.2.2.2.2.2.2.2.2.2.1 t_text res.2.2.2.2.2.2.2.2.2.2.2.2.2.2) H → va_D A (w_X11_read K g_t res.2.1 res.2.2.1 res.2.2.2.1 res.2.2.2.2.1 res.2.2.2.2.2.1 res.2.2.2.2.2.2.1 res.2.2.2.2.2.2.2.1 res.2.2.2.2.2.2.2.2.1 res.2.2.2.2.2.2.2.2.2.1 res.2.2.2.2.2.2.2.2.2.2.1 res.2.2.2.2.2.2.2.2.2.2.2.1 res.2.2.2.2.2.2.2.2.2.2.2.2.1 t_pictured t_x res.2.2.2.2.2.2.2.2.2.2.2.2.2.1 t_text res.2.2.2.2.2.2.2.2.2.2.2.2.2.2) → va_S A s.heap H locs → W p l e rmX11_read s m args below meth c H locs 0 0 Q (F0 m pc ls [.int res.1])) {k_34 : Int32 → Int32 → Int32 → Int32 → Int32 → Int32 → Int32 → Int64 → Int32 → Int32 → Int32 → Int32 → (Nat → Int32) → (Nat → Int32) → Int32 → Option (Int32 × Int32 × Int32 × Int32 × Int32 × Int32 × Int32 × Int32 × Int64 × Int32 × Int32 × Int32 × Int32 × (Nat → Int32) × (Nat → Int32))} (HK_34 : ∀ (t_raised : Int32) (t_undos : Int32) (t_reached : Int32) (t_length : Int32) (t_begin : Int32) (t_sort : Int32) (t_value : Int32) (t_word : Int64) (t_wrongAt : Int32) (t_badAt : Int32) (t_bad : Int32) (t_read : Int32) (t_all : Nat → Int32) (t_told : Nat → Int32) (x1 : Int32) (H : Heap) (locs : List Loc) (ls : Array Slot), va_P D vwCl (w_X11_read K g_t t_raised t_undos t_reached t_length t_begin t_sort t_value t_word t_wrongAt t_badAt t_bad t_read t_pictured t_x t_all t_text t_told) H → va_D A (w_X11_read K g_t t_raised t_undos t_reached t_length t_begin t_sort t_value t_word t_wrongAt t_badAt t_bad t_read t_pictured t_x t_all t_text t_told) → va_S A s.heap H locs → lv_has ls 2 [(0, .ref (g_t 0)), (1, .int x1)] → k_34 t_raised t_undos t_reached t_length t_begin t_sort t_value t_word t_wrongAt t_badAt t_bad t_read t_all t_told x1 = some res → W p l e rmX11_read s m args below meth c H locs 0 0 Q (F0 m 34 ls [])) :
    ∀ (t_raised : Int32) (t_undos : Int32) (t_reached : Int32) (t_length : Int32) (t_begin : Int32) (t_sort : Int32) (t_value : Int32) (t_word : Int64) (t_wrongAt : Int32) (t_badAt : Int32) (t_bad : Int32) (t_read : Int32) (t_all : Nat → Int32) (t_told : Nat → Int32) (x1 : Int32) (H : Heap) (locs : List Loc) (ls : Array Slot), va_P D vwCl (w_X11_read K g_t t_raised t_undos t_reached t_length t_begin t_sort t_value t_word t_wrongAt t_badAt t_bad t_read t_pictured t_x t_all t_text t_told) H → va_D A (w_X11_read K g_t t_raised t_undos t_reached t_length t_begin t_sort t_value t_word t_wrongAt t_badAt t_bad t_read t_pictured t_x t_all t_text t_told) → va_S A s.heap H locs → lv_has ls 2 [(0, .ref (g_t 0)), (1, .int x1)] → J_X11_read_67 t_text k_34 t_raised t_undos t_reached t_length t_begin t_sort t_value t_word t_wrongAt t_badAt t_bad t_read t_all t_told x1 = some res → W p l e rmX11_read s m args below meth c H locs 0 0 Q (F0 m 67 ls []) := by
  obtain ⟨⟨hx, hb, hml, hown, hts⟩, hK, -⟩ := id C0
  intro t_raised t_undos t_reached t_length t_begin t_sort t_value t_word t_wrongAt t_badAt t_bad t_read t_all t_told x1 H locs ls hP hD hS hl hF
  unfold J_X11_read_67 at hF
  refine lv_iload_n hx hb dX11_read_67 rfl (lv_at hl 1 rfl) ?_
  refine lv_if_eq (tgt := 34) hx hb dX11_read_68 (by decide) (fun c_1 => ?_) (fun c_1 => ?_)
  · have hF := it_pos c_1 hF
    exact HK_34 t_raised t_undos t_reached t_length t_begin t_sort t_value t_word t_wrongAt t_badAt t_bad t_read t_all t_told x1 H locs ls hP hD hS (lv_sub hl [0, 1] rfl) hF
  · have hF := it_neg c_1 hF
    refine lv_aload_n hx hb dX11_read_71 rfl (lv_at hl 0 rfl) ?_
    obtain ⟨r_2, hc_3, hF⟩ := bn_some hF
    refine xc_v (wn := (w_X11_read K g_t t_raised t_undos r_2.1 t_length r_2.2.1 r_2.2.2.1 r_2.2.2.2.1 r_2.2.2.2.2 t_wrongAt t_badAt t_bad t_read t_pictured t_x t_all t_text t_told)) hP hD hS C0.2.2.1 [0, 2] [1, 3] [2, 0, 3, 1] rfl rfl (by decide) (by decide) rfl (by decide) (va_runV (As := []) (rest := []) C0.1 (c_X11_token l D K g_t t_raised t_undos t_reached t_length t_begin t_sort t_value t_word t_wrongAt t_badAt t_bad t_read t_pictured t_x t_text r_2 hc_3 H.size) (cwV 0 hts gX11_read_X11_token rfl rfl rfl (by decide +kernel) ⟨Nat.le_of_ble_eq_true rfl, Nat.le_of_ble_eq_true rfl⟩) (xp_V C0.2 hP hD hS [0, 2] rfl (by decide) 10 0 rfl rfl rfl) rfl rfl hl.1 rfl (lv_room (Nat.le_of_ble_eq_true rfl)) dX11_read_72 ⟨Nat.le_of_ble_eq_true rfl, Nat.le_of_ble_eq_true rfl⟩) (fun H locs hP hD hS => ?_)
    refine lv_goto (tgt := 34) hx hb dX11_read_75 (by decide) ?_
    exact HK_34 t_raised t_undos r_2.1 t_length r_2.2.1 r_2.2.2.1 r_2.2.2.2.1 r_2.2.2.2.2 t_wrongAt t_badAt t_bad t_read t_all t_told x1 H locs ls hP hD hS (lv_sub hl [0, 1] rfl) hF
def J_X11_read_118 (t_text : Nat → Int32) (t_raised : Int32) (t_undos : Int32) (t_reached : Int32) (t_length : Int32) (t_begin : Int32) (t_sort : Int32) (t_value : Int32) (t_word : Int64) (t_wrongAt : Int32) (t_badAt : Int32) (t_bad : Int32) (t_read : Int32) (t_all : Nat → Int32) (t_told : Nat → Int32) (s1 : Int32) (s2 : Int32) : Option (Int32 × Int32 × Int32 × Int32 × Int32 × Int32 × Int32 × Int32 × Int64 × Int32 × Int32 × Int32 × Int32 × (Nat → Int32) × (Nat → Int32)) :=
  gd_ (in_b s1 500) (if ((upd t_all (s1).toNatClampNeg s2) 98) = (0 : Int32) then ((F_X11_taken t_undos (upd t_all (s1).toNatClampNeg s2) t_told).bind fun r_3 => (some ((r_3.2 0), t_raised, r_3.1, t_reached, t_length, t_begin, t_sort, t_value, t_word, t_wrongAt, t_badAt, t_bad, t_read, r_3.2, t_told))) else (some ((-1 : Int32), t_raised, t_undos, t_reached, t_length, t_begin, t_sort, t_value, t_word, t_wrongAt, t_badAt, t_bad, t_read, (upd t_all (s1).toNatClampNeg s2), t_told)))
set_option maxHeartbeats 4000000 in
set_option maxRecDepth 100000 in
theorem w_X11_read_118 {p : Program} {l : Launch} {e : Env} {s : State} {m : MethodId} {args : Array Value} {below : List Frame} {meth : Method} {c : Code} {D : va_G} {K : Nat → ClassId} {A : Nat → Prop} {Q : State → Prop} (C0 : cx_ p s m args c cX11_read 2 RX11 wsX11_read D K A) {g_t : Nat → Nat} {t_pictured : Int32} {t_x : Int32} {t_text : Nat → Int32} {res : Int32 × Int32 × Int32 × Int32 × Int32 × Int32 × Int32 × Int32 × Int64 × Int32 × Int32 × Int32 × Int32 × (Nat → Int32) × (Nat → Int32)} (HR : ∀ (pc : Nat) (H : Heap) (locs : List Loc) (ls : Array Slot), decode cX11_read pc = .ok (.ireturn, 1) → va_P D vwCl (w_X11_read K g_t res.2.1 res.2.2.1 res.2.2.2.1 res.2.2.2.2.1 res.2.2.2.2.2.1 res.2.2.2.2.2.2.1 res.2.2.2.2.2.2.2.1 res.2.2.2.2.2.2.2.2.1 res.2.2.2.2.2.2.2.2.2.1 res.2.2.2.2.2.2.2.2.2.2.1 res.2.2.2.2.2.2.2.2.2.2.2.1 res.2.2.2.2.2.2.2.2.2.2.2.2.1 t_pictured t_x res.2.2.2.2.2.2.2.2.2.2.2.2.2.1 t_text res.2.2.2.2.2.2.2.2.2.2.2.2.2.2) H → va_D A (w_X11_read K g_t res.2.1 res.2.2.1 res.2.2.2.1 res.2.2.2.2.1 res.2.2.2.2.2.1 res.2.2.2.2.2.2.1 res.2.2.2.2.2.2.2.1 res.2.2.2.2.2.2.2.2.1 res.2.2.2.2.2.2.2.2.2.1 res.2.2.2.2.2.2.2.2.2.2.1 res.2.2.2.2.2.2.2.2.2.2.2.1 res.2.2.2.2.2.2.2.2.2.2.2.2.1 t_pictured t_x res.2.2.2.2.2.2.2.2.2.2.2.2.2.1 t_text res.2.2.2.2.2.2.2.2.2.2.2.2.2.2) → va_S A s.heap H locs → W p l e rmX11_read s m args below meth c H locs 0 0 Q (F0 m pc ls [.int res.1]))  :
    ∀ (t_raised : Int32) (t_undos : Int32) (t_reached : Int32) (t_length : Int32) (t_begin : Int32) (t_sort : Int32) (t_value : Int32) (t_word : Int64) (t_wrongAt : Int32) (t_badAt : Int32) (t_bad : Int32) (t_read : Int32) (t_all : Nat → Int32) (t_told : Nat → Int32) (s1 : Int32) (s2 : Int32) (H : Heap) (locs : List Loc) (ls : Array Slot), va_P D vwCl (w_X11_read K g_t t_raised t_undos t_reached t_length t_begin t_sort t_value t_word t_wrongAt t_badAt t_bad t_read t_pictured t_x t_all t_text t_told) H → va_D A (w_X11_read K g_t t_raised t_undos t_reached t_length t_begin t_sort t_value t_word t_wrongAt t_badAt t_bad t_read t_pictured t_x t_all t_text t_told) → va_S A s.heap H locs → lv_has ls 2 [(0, .ref (g_t 0))] → J_X11_read_118 t_text t_raised t_undos t_reached t_length t_begin t_sort t_value t_word t_wrongAt t_badAt t_bad t_read t_all t_told s1 s2 = some res → W p l e rmX11_read s m args below meth c H locs 0 0 Q (F0 m 118 ls [.int s2, .int s1, .ref (g_t 2)]) := by
  obtain ⟨⟨hx, hb, hml, hown, hts⟩, hK, -⟩ := id C0
  intro t_raised t_undos t_reached t_length t_begin t_sort t_value t_word t_wrongAt t_badAt t_bad t_read t_all t_told s1 s2 H locs ls hP hD hS hl hF
  unfold J_X11_read_118 at hF
  obtain ⟨hg_1, hF⟩ := gd_some hF
  refine xs_i (f := t_all) hx hb hK hP hD hS 1 0 rfl rfl rfl (in_v hg_1) dX11_read_118 (fun H locs hP hD hS => ?_)
  have hP : va_P D vwCl (w_X11_read K g_t t_raised t_undos t_reached t_length t_begin t_sort t_value t_word t_wrongAt t_badAt t_bad t_read t_pictured t_x (upd t_all (s1).toNatClampNeg s2) t_text t_told) H := hP
  have hD : va_D A (w_X11_read K g_t t_raised t_undos t_reached t_length t_begin t_sort t_value t_word t_wrongAt t_badAt t_bad t_read t_pictured t_x (upd t_all (s1).toNatClampNeg s2) t_text t_told) := hD
  refine lv_aload_n hx hb dX11_read_119 rfl (lv_at hl 0 rfl) ?_
  refine va_get (D := D) (ci := 10) (v := .ref (g_t 2)) (C := RX11) (T := TX11) (N := 30) hx hb hts iw_X11_read_X11 hown hK hP 0 rfl rfl 1 (by decide) (hts _ fl_X11_read_7) (fun _ h9 => h9) rfl dX11_read_120 ?_
  refine lv_bipush (v := 98) hx hb dX11_read_123 (by decide) ?_
  refine xl_i (f := (upd t_all (s1).toNatClampNeg s2)) hx hb hK hP 1 0 rfl rfl (k := 98) (by decide) (in_v (by decide)) dX11_read_125 ?_
  refine lv_if_eq (tgt := 131) hx hb dX11_read_126 (by decide) (fun c_2 => ?_) (fun c_2 => ?_)
  · have hF := it_pos c_2 hF
    refine lv_aload_n hx hb dX11_read_131 rfl (lv_at hl 0 rfl) ?_
    obtain ⟨r_3, hc_4, hF⟩ := bn_some hF
    refine xc_v (wn := (w_X11_read K g_t t_raised r_3.1 t_reached t_length t_begin t_sort t_value t_word t_wrongAt t_badAt t_bad t_read t_pictured t_x r_3.2 t_text t_told)) hP hD hS C0.2.2.1 [0, 1, 3] [2] [1, 2, 0, 3] rfl rfl (by decide) (by decide) rfl (by decide) (va_runV (As := []) (rest := []) C0.1 (c_X11_taken l D K g_t t_raised t_undos t_reached t_length t_begin t_sort t_value t_word t_wrongAt t_badAt t_bad t_read t_pictured t_x (upd t_all (s1).toNatClampNeg s2) t_told r_3 hc_4 H.size) (cwV 0 hts gX11_read_X11_taken rfl rfl rfl (by decide +kernel) ⟨Nat.le_of_ble_eq_true rfl, Nat.le_of_ble_eq_true rfl⟩) (xp_V C0.2 hP hD hS [0, 1, 3] rfl (by decide) 10 0 rfl rfl rfl) rfl rfl hl.1 rfl (lv_room (Nat.le_of_ble_eq_true rfl)) dX11_read_132 ⟨Nat.le_of_ble_eq_true rfl, Nat.le_of_ble_eq_true rfl⟩) (fun H locs hP hD hS => ?_)
    refine lv_aload_n hx hb dX11_read_135 rfl (lv_at hl 0 rfl) ?_
    refine va_get (D := D) (ci := 10) (v := .ref (g_t 2)) (C := RX11) (T := TX11) (N := 30) hx hb hts iw_X11_read_X11 hown hK hP 0 rfl rfl 1 (by decide) (hts _ fl_X11_read_7) (fun _ h9 => h9) rfl dX11_read_136 ?_
    refine lv_iconst (v := 0) hx hb dX11_read_139 (by decide) ?_
    refine xl_i (f := r_3.2) hx hb hK hP 1 0 rfl rfl (k := 0) (by decide) (in_v (by decide)) dX11_read_140 ?_
    obtain rfl := Option.some.inj hF
    exact HR 141 H locs ls dX11_read_141 hP hD hS
  · have hF := it_neg c_2 hF
    refine lv_iconst (v := (-1)) hx hb dX11_read_129 (by decide) ?_
    obtain rfl := Option.some.inj hF
    exact HR 130 H locs ls dX11_read_130 hP hD hS
def J_X11_read_96 (t_text : Nat → Int32) (t_raised : Int32) (t_undos : Int32) (t_reached : Int32) (t_length : Int32) (t_begin : Int32) (t_sort : Int32) (t_value : Int32) (t_word : Int64) (t_wrongAt : Int32) (t_badAt : Int32) (t_bad : Int32) (t_read : Int32) (t_all : Nat → Int32) (t_told : Nat → Int32) (x1 : Int32) (s1 : Int32) (s2 : Int32) : Option (Int32 × Int32 × Int32 × Int32 × Int32 × Int32 × Int32 × Int32 × Int64 × Int32 × Int32 × Int32 × Int32 × (Nat → Int32) × (Nat → Int32)) :=
  gd_ (in_b s1 500) (if x1 = (0 : Int32) then (J_X11_read_118 t_text t_raised t_undos t_reached t_length t_begin t_sort t_value t_word t_wrongAt t_badAt t_bad t_read (upd t_all (s1).toNatClampNeg s2) t_told (99 : Int32) t_wrongAt) else (J_X11_read_118 t_text t_raised t_undos t_reached t_length t_begin t_sort t_value t_word t_wrongAt t_badAt t_bad t_read (upd t_all (s1).toNatClampNeg s2) t_told (99 : Int32) t_badAt))
set_option maxHeartbeats 4000000 in
set_option maxRecDepth 100000 in
theorem w_X11_read_96 {p : Program} {l : Launch} {e : Env} {s : State} {m : MethodId} {args : Array Value} {below : List Frame} {meth : Method} {c : Code} {D : va_G} {K : Nat → ClassId} {A : Nat → Prop} {Q : State → Prop} (C0 : cx_ p s m args c cX11_read 2 RX11 wsX11_read D K A) {g_t : Nat → Nat} {t_pictured : Int32} {t_x : Int32} {t_text : Nat → Int32} {res : Int32 × Int32 × Int32 × Int32 × Int32 × Int32 × Int32 × Int32 × Int64 × Int32 × Int32 × Int32 × Int32 × (Nat → Int32) × (Nat → Int32)} (HR : ∀ (pc : Nat) (H : Heap) (locs : List Loc) (ls : Array Slot), decode cX11_read pc = .ok (.ireturn, 1) → va_P D vwCl (w_X11_read K g_t res.2.1 res.2.2.1 res.2.2.2.1 res.2.2.2.2.1 res.2.2.2.2.2.1 res.2.2.2.2.2.2.1 res.2.2.2.2.2.2.2.1 res.2.2.2.2.2.2.2.2.1 res.2.2.2.2.2.2.2.2.2.1 res.2.2.2.2.2.2.2.2.2.2.1 res.2.2.2.2.2.2.2.2.2.2.2.1 res.2.2.2.2.2.2.2.2.2.2.2.2.1 t_pictured t_x res.2.2.2.2.2.2.2.2.2.2.2.2.2.1 t_text res.2.2.2.2.2.2.2.2.2.2.2.2.2.2) H → va_D A (w_X11_read K g_t res.2.1 res.2.2.1 res.2.2.2.1 res.2.2.2.2.1 res.2.2.2.2.2.1 res.2.2.2.2.2.2.1 res.2.2.2.2.2.2.2.1 res.2.2.2.2.2.2.2.2.1 res.2.2.2.2.2.2.2.2.2.1 res.2.2.2.2.2.2.2.2.2.2.1 res.2.2.2.2.2.2.2.2.2.2.2.1 res.2.2.2.2.2.2.2.2.2.2.2.2.1 t_pictured t_x res.2.2.2.2.2.2.2.2.2.2.2.2.2.1 t_text res.2.2.2.2.2.2.2.2.2.2.2.2.2.2) → va_S A s.heap H locs → W p l e rmX11_read s m args below meth c H locs 0 0 Q (F0 m pc ls [.int res.1]))  :
    ∀ (t_raised : Int32) (t_undos : Int32) (t_reached : Int32) (t_length : Int32) (t_begin : Int32) (t_sort : Int32) (t_value : Int32) (t_word : Int64) (t_wrongAt : Int32) (t_badAt : Int32) (t_bad : Int32) (t_read : Int32) (t_all : Nat → Int32) (t_told : Nat → Int32) (x1 : Int32) (s1 : Int32) (s2 : Int32) (H : Heap) (locs : List Loc) (ls : Array Slot), va_P D vwCl (w_X11_read K g_t t_raised t_undos t_reached t_length t_begin t_sort t_value t_word t_wrongAt t_badAt t_bad t_read t_pictured t_x t_all t_text t_told) H → va_D A (w_X11_read K g_t t_raised t_undos t_reached t_length t_begin t_sort t_value t_word t_wrongAt t_badAt t_bad t_read t_pictured t_x t_all t_text t_told) → va_S A s.heap H locs → lv_has ls 2 [(0, .ref (g_t 0)), (1, .int x1)] → J_X11_read_96 t_text t_raised t_undos t_reached t_length t_begin t_sort t_value t_word t_wrongAt t_badAt t_bad t_read t_all t_told x1 s1 s2 = some res → W p l e rmX11_read s m args below meth c H locs 0 0 Q (F0 m 96 ls [.int s2, .int s1, .ref (g_t 2)]) := by
  obtain ⟨⟨hx, hb, hml, hown, hts⟩, hK, -⟩ := id C0
  intro t_raised t_undos t_reached t_length t_begin t_sort t_value t_word t_wrongAt t_badAt t_bad t_read t_all t_told x1 s1 s2 H locs ls hP hD hS hl hF
  unfold J_X11_read_96 at hF
  obtain ⟨hg_1, hF⟩ := gd_some hF
  refine xs_i (f := t_all) hx hb hK hP hD hS 1 0 rfl rfl rfl (in_v hg_1) dX11_read_96 (fun H locs hP hD hS => ?_)
  have hP : va_P D vwCl (w_X11_read K g_t t_raised t_undos t_reached t_length t_begin t_sort t_value t_word t_wrongAt t_badAt t_bad t_read t_pictured t_x (upd t_all (s1).toNatClampNeg s2) t_text t_told) H := hP
  have hD : va_D A (w_X11_read K g_t t_raised t_undos t_reached t_length t_begin t_sort t_value t_word t_wrongAt t_badAt t_bad t_read t_pictured t_x (upd t_all (s1).toNatClampNeg s2) t_text t_told) := hD
  refine lv_aload_n hx hb dX11_read_97 rfl (lv_at hl 0 rfl) ?_
  refine va_get (D := D) (ci := 10) (v := .ref (g_t 2)) (C := RX11) (T := TX11) (N := 30) hx hb hts iw_X11_read_X11 hown hK hP 0 rfl rfl 1 (by decide) (hts _ fl_X11_read_7) (fun _ h9 => h9) rfl dX11_read_98 ?_
  refine lv_bipush (v := 99) hx hb dX11_read_101 (by decide) ?_
  refine lv_iload_n hx hb dX11_read_103 rfl (lv_at hl 1 rfl) ?_
  refine lv_if_eq (tgt := 114) hx hb dX11_read_104 (by decide) (fun c_2 => ?_) (fun c_2 => ?_)
  · have hF := it_pos c_2 hF
    refine lv_aload_n hx hb dX11_read_114 rfl (lv_at hl 0 rfl) ?_
    refine va_get (D := D) (ci := 10) (v := .int t_wrongAt) (C := RX11) (T := TX11) (N := 30) hx hb hts iw_X11_read_X11 hown hK hP 0 rfl rfl 12 (by decide) (hts _ fl_X11_read_103) (fun _ h9 => h9) rfl dX11_read_115 ?_
    exact w_X11_read_118 C0 HR t_raised t_undos t_reached t_length t_begin t_sort t_value t_word t_wrongAt t_badAt t_bad t_read (upd t_all (s1).toNatClampNeg s2) t_told (99 : Int32) t_wrongAt H locs ls hP hD hS (lv_sub hl [0] rfl) hF
  · have hF := it_neg c_2 hF
    refine lv_aload_n hx hb dX11_read_107 rfl (lv_at hl 0 rfl) ?_
    refine va_get (D := D) (ci := 10) (v := .int t_badAt) (C := RX11) (T := TX11) (N := 30) hx hb hts iw_X11_read_X11 hown hK hP 0 rfl rfl 13 (by decide) (hts _ fl_X11_read_109) (fun _ h9 => h9) rfl dX11_read_108 ?_
    refine lv_goto (tgt := 118) hx hb dX11_read_111 (by decide) ?_
    exact w_X11_read_118 C0 HR t_raised t_undos t_reached t_length t_begin t_sort t_value t_word t_wrongAt t_badAt t_bad t_read (upd t_all (s1).toNatClampNeg s2) t_told (99 : Int32) t_badAt H locs ls hP hD hS (lv_sub hl [0] rfl) hF
def J_X11_read_78 (t_text : Nat → Int32) (t_raised : Int32) (t_undos : Int32) (t_reached : Int32) (t_length : Int32) (t_begin : Int32) (t_sort : Int32) (t_value : Int32) (t_word : Int64) (t_wrongAt : Int32) (t_badAt : Int32) (t_bad : Int32) (t_read : Int32) (t_all : Nat → Int32) (t_told : Nat → Int32) (x1 : Int32) : Option (Int32 × Int32 × Int32 × Int32 × Int32 × Int32 × Int32 × Int32 × Int64 × Int32 × Int32 × Int32 × Int32 × (Nat → Int32) × (Nat → Int32)) :=
  if x1 = (0 : Int32) then (J_X11_read_96 t_text t_raised t_undos t_reached t_length t_begin t_sort t_value t_word t_wrongAt t_badAt t_bad t_read t_all t_told x1 (98 : Int32) (1 : Int32)) else (J_X11_read_96 t_text t_raised t_undos t_reached t_length t_begin t_sort t_value t_word t_wrongAt t_badAt t_bad t_read t_all t_told x1 (98 : Int32) t_bad)
set_option maxHeartbeats 4000000 in
set_option maxRecDepth 100000 in
theorem w_X11_read_78 {p : Program} {l : Launch} {e : Env} {s : State} {m : MethodId} {args : Array Value} {below : List Frame} {meth : Method} {c : Code} {D : va_G} {K : Nat → ClassId} {A : Nat → Prop} {Q : State → Prop} (C0 : cx_ p s m args c cX11_read 2 RX11 wsX11_read D K A) {g_t : Nat → Nat} {t_pictured : Int32} {t_x : Int32} {t_text : Nat → Int32} {res : Int32 × Int32 × Int32 × Int32 × Int32 × Int32 × Int32 × Int32 × Int64 × Int32 × Int32 × Int32 × Int32 × (Nat → Int32) × (Nat → Int32)} (HR : ∀ (pc : Nat) (H : Heap) (locs : List Loc) (ls : Array Slot), decode cX11_read pc = .ok (.ireturn, 1) → va_P D vwCl (w_X11_read K g_t res.2.1 res.2.2.1 res.2.2.2.1 res.2.2.2.2.1 res.2.2.2.2.2.1 res.2.2.2.2.2.2.1 res.2.2.2.2.2.2.2.1 res.2.2.2.2.2.2.2.2.1 res.2.2.2.2.2.2.2.2.2.1 res.2.2.2.2.2.2.2.2.2.2.1 res.2.2.2.2.2.2.2.2.2.2.2.1 res.2.2.2.2.2.2.2.2.2.2.2.2.1 t_pictured t_x res.2.2.2.2.2.2.2.2.2.2.2.2.2.1 t_text res.2.2.2.2.2.2.2.2.2.2.2.2.2.2) H → va_D A (w_X11_read K g_t res.2.1 res.2.2.1 res.2.2.2.1 res.2.2.2.2.1 res.2.2.2.2.2.1 res.2.2.2.2.2.2.1 res.2.2.2.2.2.2.2.1 res.2.2.2.2.2.2.2.2.1 res.2.2.2.2.2.2.2.2.2.1 res.2.2.2.2.2.2.2.2.2.2.1 res.2.2.2.2.2.2.2.2.2.2.2.1 res.2.2.2.2.2.2.2.2.2.2.2.2.1 t_pictured t_x res.2.2.2.2.2.2.2.2.2.2.2.2.2.1 t_text res.2.2.2.2.2.2.2.2.2.2.2.2.2.2) → va_S A s.heap H locs → W p l e rmX11_read s m args below meth c H locs 0 0 Q (F0 m pc ls [.int res.1]))  :
    ∀ (t_raised : Int32) (t_undos : Int32) (t_reached : Int32) (t_length : Int32) (t_begin : Int32) (t_sort : Int32) (t_value : Int32) (t_word : Int64) (t_wrongAt : Int32) (t_badAt : Int32) (t_bad : Int32) (t_read : Int32) (t_all : Nat → Int32) (t_told : Nat → Int32) (x1 : Int32) (H : Heap) (locs : List Loc) (ls : Array Slot), va_P D vwCl (w_X11_read K g_t t_raised t_undos t_reached t_length t_begin t_sort t_value t_word t_wrongAt t_badAt t_bad t_read t_pictured t_x t_all t_text t_told) H → va_D A (w_X11_read K g_t t_raised t_undos t_reached t_length t_begin t_sort t_value t_word t_wrongAt t_badAt t_bad t_read t_pictured t_x t_all t_text t_told) → va_S A s.heap H locs → lv_has ls 2 [(0, .ref (g_t 0)), (1, .int x1)] → J_X11_read_78 t_text t_raised t_undos t_reached t_length t_begin t_sort t_value t_word t_wrongAt t_badAt t_bad t_read t_all t_told x1 = some res → W p l e rmX11_read s m args below meth c H locs 0 0 Q (F0 m 78 ls []) := by
  obtain ⟨⟨hx, hb, hml, hown, hts⟩, hK, -⟩ := id C0
  intro t_raised t_undos t_reached t_length t_begin t_sort t_value t_word t_wrongAt t_badAt t_bad t_read t_all t_told x1 H locs ls hP hD hS hl hF
  unfold J_X11_read_78 at hF
  refine lv_aload_n hx hb dX11_read_78 rfl (lv_at hl 0 rfl) ?_
  refine va_get (D := D) (ci := 10) (v := .ref (g_t 2)) (C := RX11) (T := TX11) (N := 30) hx hb hts iw_X11_read_X11 hown hK hP 0 rfl rfl 1 (by decide) (hts _ fl_X11_read_7) (fun _ h9 => h9) rfl dX11_read_79 ?_
  refine lv_bipush (v := 98) hx hb dX11_read_82 (by decide) ?_
  refine lv_iload_n hx hb dX11_read_84 rfl (lv_at hl 1 rfl) ?_
  refine lv_if_eq (tgt := 95) hx hb dX11_read_85 (by decide) (fun c_1 => ?_) (fun c_1 => ?_)
  · have hF := it_pos c_1 hF
    refine lv_iconst (v := 1) hx hb dX11_read_95 (by decide) ?_
    exact w_X11_read_96 C0 HR t_raised t_undos t_reached t_length t_begin t_sort t_value t_word t_wrongAt t_badAt t_bad t_read t_all t_told x1 (98 : Int32) (1 : Int32) H locs ls hP hD hS (lv_sub hl [0, 1] rfl) hF
  · have hF := it_neg c_1 hF
    refine lv_aload_n hx hb dX11_read_88 rfl (lv_at hl 0 rfl) ?_
    refine va_get (D := D) (ci := 10) (v := .int t_bad) (C := RX11) (T := TX11) (N := 30) hx hb hts iw_X11_read_X11 hown hK hP 0 rfl rfl 14 (by decide) (hts _ fl_X11_read_106) (fun _ h9 => h9) rfl dX11_read_89 ?_
    refine lv_goto (tgt := 96) hx hb dX11_read_92 (by decide) ?_
    exact w_X11_read_96 C0 HR t_raised t_undos t_reached t_length t_begin t_sort t_value t_word t_wrongAt t_badAt t_bad t_read t_all t_told x1 (98 : Int32) t_bad H locs ls hP hD hS (lv_sub hl [0, 1] rfl) hF
def L_X11_read_34 (t_text : Nat → Int32) : Nat → Int32 → Int32 → Int32 → Int32 → Int32 → Int32 → Int32 → Int64 → Int32 → Int32 → Int32 → Int32 → (Nat → Int32) → (Nat → Int32) → Int32 → Option (Int32 × Int32 × Int32 × Int32 × Int32 × Int32 × Int32 × Int32 × Int64 × Int32 × Int32 × Int32 × Int32 × (Nat → Int32) × (Nat → Int32))
  | 0, _, _, _, _, _, _, _, _, _, _, _, _, _, _, _ => none
  | n_ + 1, t_raised, t_undos, t_reached, t_length, t_begin, t_sort, t_value, t_word, t_wrongAt, t_badAt, t_bad, t_read, t_all, t_told, x1 =>
    if x1 = (0 : Int32) then (J_X11_read_78 t_text t_raised t_undos t_reached t_length t_begin t_sort t_value t_word t_wrongAt t_badAt t_bad t_read t_all t_told x1) else (if t_sort = (0 : Int32) then (J_X11_read_78 t_text t_raised t_undos t_reached t_length t_begin t_sort t_value t_word t_wrongAt t_badAt t_bad t_read t_all t_told x1) else ((F_X11_line t_reached t_length t_begin t_sort t_value t_word t_wrongAt t_badAt t_bad t_read t_text t_told).bind fun r_3 => (if r_3.1 = (0 : Int32) then (J_X11_read_67 t_text (L_X11_read_34 t_text n_) t_raised t_undos r_3.2.1 t_length r_3.2.2.1 r_3.2.2.2.1 r_3.2.2.2.2.1 r_3.2.2.2.2.2.1 r_3.2.2.2.2.2.2.1 r_3.2.2.2.2.2.2.2.1 r_3.2.2.2.2.2.2.2.2.1 r_3.2.2.2.2.2.2.2.2.2.1 t_all r_3.2.2.2.2.2.2.2.2.2.2 r_3.1) else (if r_3.2.2.2.1 = (4 : Int32) then (J_X11_read_67 t_text (L_X11_read_34 t_text n_) t_raised t_undos r_3.2.1 t_length r_3.2.2.1 r_3.2.2.2.1 r_3.2.2.2.2.1 r_3.2.2.2.2.2.1 r_3.2.2.2.2.2.2.1 r_3.2.2.2.2.2.2.2.1 r_3.2.2.2.2.2.2.2.2.1 r_3.2.2.2.2.2.2.2.2.2.1 t_all r_3.2.2.2.2.2.2.2.2.2.2 r_3.1) else ((F_X11_fails r_3.2.2.1 r_3.2.2.2.2.2.2.1).bind fun r_7 => (J_X11_read_67 t_text (L_X11_read_34 t_text n_) t_raised t_undos r_3.2.1 t_length r_3.2.2.1 r_3.2.2.2.1 r_3.2.2.2.2.1 r_3.2.2.2.2.2.1 r_7.2 r_3.2.2.2.2.2.2.2.1 r_3.2.2.2.2.2.2.2.2.1 r_3.2.2.2.2.2.2.2.2.2.1 t_all r_3.2.2.2.2.2.2.2.2.2.2 r_7.1))))))
set_option maxHeartbeats 4000000 in
set_option maxRecDepth 100000 in
theorem w_X11_read_34 {p : Program} {l : Launch} {e : Env} {s : State} {m : MethodId} {args : Array Value} {below : List Frame} {meth : Method} {c : Code} {D : va_G} {K : Nat → ClassId} {A : Nat → Prop} {Q : State → Prop} (C0 : cx_ p s m args c cX11_read 2 RX11 wsX11_read D K A) {g_t : Nat → Nat} {t_pictured : Int32} {t_x : Int32} {t_text : Nat → Int32} {res : Int32 × Int32 × Int32 × Int32 × Int32 × Int32 × Int32 × Int32 × Int64 × Int32 × Int32 × Int32 × Int32 × (Nat → Int32) × (Nat → Int32)} (HR : ∀ (pc : Nat) (H : Heap) (locs : List Loc) (ls : Array Slot), decode cX11_read pc = .ok (.ireturn, 1) → va_P D vwCl (w_X11_read K g_t res.2.1 res.2.2.1 res.2.2.2.1 res.2.2.2.2.1 res.2.2.2.2.2.1 res.2.2.2.2.2.2.1 res.2.2.2.2.2.2.2.1 res.2.2.2.2.2.2.2.2.1 res.2.2.2.2.2.2.2.2.2.1 res.2.2.2.2.2.2.2.2.2.2.1 res.2.2.2.2.2.2.2.2.2.2.2.1 res.2.2.2.2.2.2.2.2.2.2.2.2.1 t_pictured t_x res.2.2.2.2.2.2.2.2.2.2.2.2.2.1 t_text res.2.2.2.2.2.2.2.2.2.2.2.2.2.2) H → va_D A (w_X11_read K g_t res.2.1 res.2.2.1 res.2.2.2.1 res.2.2.2.2.1 res.2.2.2.2.2.1 res.2.2.2.2.2.2.1 res.2.2.2.2.2.2.2.1 res.2.2.2.2.2.2.2.2.1 res.2.2.2.2.2.2.2.2.2.1 res.2.2.2.2.2.2.2.2.2.2.1 res.2.2.2.2.2.2.2.2.2.2.2.1 res.2.2.2.2.2.2.2.2.2.2.2.2.1 t_pictured t_x res.2.2.2.2.2.2.2.2.2.2.2.2.2.1 t_text res.2.2.2.2.2.2.2.2.2.2.2.2.2.2) → va_S A s.heap H locs → W p l e rmX11_read s m args below meth c H locs 0 0 Q (F0 m pc ls [.int res.1]))  :
    ∀ (n_ : Nat) (t_raised : Int32) (t_undos : Int32) (t_reached : Int32) (t_length : Int32) (t_begin : Int32) (t_sort : Int32) (t_value : Int32) (t_word : Int64) (t_wrongAt : Int32) (t_badAt : Int32) (t_bad : Int32) (t_read : Int32) (t_all : Nat → Int32) (t_told : Nat → Int32) (x1 : Int32) (H : Heap) (locs : List Loc) (ls : Array Slot), va_P D vwCl (w_X11_read K g_t t_raised t_undos t_reached t_length t_begin t_sort t_value t_word t_wrongAt t_badAt t_bad t_read t_pictured t_x t_all t_text t_told) H → va_D A (w_X11_read K g_t t_raised t_undos t_reached t_length t_begin t_sort t_value t_word t_wrongAt t_badAt t_bad t_read t_pictured t_x t_all t_text t_told) → va_S A s.heap H locs → lv_has ls 2 [(0, .ref (g_t 0)), (1, .int x1)] → L_X11_read_34 t_text n_ t_raised t_undos t_reached t_length t_begin t_sort t_value t_word t_wrongAt t_badAt t_bad t_read t_all t_told x1 = some res → W p l e rmX11_read s m args below meth c H locs 0 0 Q (F0 m 34 ls []) := by
  obtain ⟨⟨hx, hb, hml, hown, hts⟩, hK, -⟩ := id C0
  intro n_
  induction n_ with
  | zero =>
    intro t_raised t_undos t_reached t_length t_begin t_sort t_value t_word t_wrongAt t_badAt t_bad t_read t_all t_told x1 H locs ls hP hD hS hl hF
    exact no_s (show (none : Option (Int32 × Int32 × Int32 × Int32 × Int32 × Int32 × Int32 × Int32 × Int64 × Int32 × Int32 × Int32 × Int32 × (Nat → Int32) × (Nat → Int32))) = some res from hF)
  | succ n_ ih =>
    intro t_raised t_undos t_reached t_length t_begin t_sort t_value t_word t_wrongAt t_badAt t_bad t_read t_all t_told x1 H locs ls hP hD hS hl hF
    rw [L_X11_read_34] at hF
    refine lv_iload_n hx hb dX11_read_34 rfl (lv_at hl 1 rfl) ?_
    refine lv_if_eq (tgt := 78) hx hb dX11_read_35 (by decide) (fun c_1 => ?_) (fun c_1 => ?_)
    · have hF := it_pos c_1 hF
      exact w_X11_read_78 C0 HR t_raised t_undos t_reached t_length t_begin t_sort t_value t_word t_wrongAt t_badAt t_bad t_read t_all t_told x1 H locs ls hP hD hS (lv_sub hl [0, 1] rfl) hF
    · have hF := it_neg c_1 hF
      refine lv_aload_n hx hb dX11_read_38 rfl (lv_at hl 0 rfl) ?_
      refine va_get (D := D) (ci := 10) (v := .int t_sort) (C := RX11) (T := TX11) (N := 30) hx hb hts iw_X11_read_X11 hown hK hP 0 rfl rfl 9 (by decide) (hts _ fl_X11_read_97) (fun _ h9 => h9) rfl dX11_read_39 ?_
      refine lv_if_eq (tgt := 78) hx hb dX11_read_42 (by decide) (fun c_2 => ?_) (fun c_2 => ?_)
      · have hF := it_pos c_2 hF
        exact w_X11_read_78 C0 HR t_raised t_undos t_reached t_length t_begin t_sort t_value t_word t_wrongAt t_badAt t_bad t_read t_all t_told x1 H locs ls hP hD hS (lv_sub hl [0, 1] rfl) hF
      · have hF := it_neg c_2 hF
        refine lv_aload_n hx hb dX11_read_45 rfl (lv_at hl 0 rfl) ?_
        obtain ⟨r_3, hc_4, hF⟩ := bn_some hF
        refine xc_i (wn := (w_X11_read K g_t t_raised t_undos r_3.2.1 t_length r_3.2.2.1 r_3.2.2.2.1 r_3.2.2.2.2.1 r_3.2.2.2.2.2.1 r_3.2.2.2.2.2.2.1 r_3.2.2.2.2.2.2.2.1 r_3.2.2.2.2.2.2.2.2.1 r_3.2.2.2.2.2.2.2.2.2.1 t_pictured t_x t_all t_text r_3.2.2.2.2.2.2.2.2.2.2)) hP hD hS C0.2.2.1 [0, 2, 3] [1] [1, 0, 2, 3] rfl rfl (by decide) (by decide) rfl (by decide) (va_runV (As := []) (rest := []) C0.1 (c_X11_line l D K g_t t_raised t_undos t_reached t_length t_begin t_sort t_value t_word t_wrongAt t_badAt t_bad t_read t_pictured t_x t_text t_told r_3 hc_4 H.size) (cwV 0 hts gX11_read_X11_line rfl rfl rfl (by decide +kernel) ⟨Nat.le_of_ble_eq_true rfl, Nat.le_of_ble_eq_true rfl⟩) (xp_V C0.2 hP hD hS [0, 2, 3] rfl (by decide) 10 0 rfl rfl rfl) rfl rfl hl.1 rfl (lv_room (Nat.le_of_ble_eq_true rfl)) dX11_read_46 ⟨Nat.le_of_ble_eq_true rfl, Nat.le_of_ble_eq_true rfl⟩) (fun H locs hP hD hS => ?_)
        refine lv_istore_n (lv' := [(1, .int r_3.1), (0, .ref (g_t 0))]) hx hb dX11_read_49 rfl hl (by decide) rfl (fun ls hl => ?_)
        refine lv_iload_n hx hb dX11_read_50 rfl (lv_at hl 0 rfl) ?_
        refine lv_if_eq (tgt := 67) hx hb dX11_read_51 (by decide) (fun c_5 => ?_) (fun c_5 => ?_)
        · have hF := it_pos c_5 hF
          exact w_X11_read_67 C0 HR ih t_raised t_undos r_3.2.1 t_length r_3.2.2.1 r_3.2.2.2.1 r_3.2.2.2.2.1 r_3.2.2.2.2.2.1 r_3.2.2.2.2.2.2.1 r_3.2.2.2.2.2.2.2.1 r_3.2.2.2.2.2.2.2.2.1 r_3.2.2.2.2.2.2.2.2.2.1 t_all r_3.2.2.2.2.2.2.2.2.2.2 r_3.1 H locs ls hP hD hS (lv_sub hl [1, 0] rfl) hF
        · have hF := it_neg c_5 hF
          refine lv_aload_n hx hb dX11_read_54 rfl (lv_at hl 1 rfl) ?_
          refine va_get (D := D) (ci := 10) (v := .int r_3.2.2.2.1) (C := RX11) (T := TX11) (N := 30) hx hb hts iw_X11_read_X11 hown hK hP 0 rfl rfl 9 (by decide) (hts _ fl_X11_read_97) (fun _ h9 => h9) rfl dX11_read_55 ?_
          refine lv_iconst (v := 4) hx hb dX11_read_58 (by decide) ?_
          refine lv_icmp_eq (tgt := 67) hx hb dX11_read_59 (by decide) (fun c_6 => ?_) (fun c_6 => ?_)
          · have hF := it_pos c_6 hF
            exact w_X11_read_67 C0 HR ih t_raised t_undos r_3.2.1 t_length r_3.2.2.1 r_3.2.2.2.1 r_3.2.2.2.2.1 r_3.2.2.2.2.2.1 r_3.2.2.2.2.2.2.1 r_3.2.2.2.2.2.2.2.1 r_3.2.2.2.2.2.2.2.2.1 r_3.2.2.2.2.2.2.2.2.2.1 t_all r_3.2.2.2.2.2.2.2.2.2.2 r_3.1 H locs ls hP hD hS (lv_sub hl [1, 0] rfl) hF
          · have hF := it_neg c_6 hF
            refine lv_aload_n hx hb dX11_read_62 rfl (lv_at hl 1 rfl) ?_
            obtain ⟨r_7, hc_8, hF⟩ := bn_some hF
            refine xc_i (wn := (w_X11_read K g_t t_raised t_undos r_3.2.1 t_length r_3.2.2.1 r_3.2.2.2.1 r_3.2.2.2.2.1 r_3.2.2.2.2.2.1 r_7.2 r_3.2.2.2.2.2.2.2.1 r_3.2.2.2.2.2.2.2.2.1 r_3.2.2.2.2.2.2.2.2.2.1 t_pictured t_x t_all t_text r_3.2.2.2.2.2.2.2.2.2.2)) hP hD hS C0.2.2.1 [0] [1, 2, 3] [3, 0, 1, 2] rfl rfl (by decide) (by decide) rfl (by decide) (va_runV (As := []) (rest := []) C0.1 (c_X11_fails l D K g_t t_raised t_undos r_3.2.1 t_length r_3.2.2.1 r_3.2.2.2.1 r_3.2.2.2.2.1 r_3.2.2.2.2.2.1 r_3.2.2.2.2.2.2.1 r_3.2.2.2.2.2.2.2.1 r_3.2.2.2.2.2.2.2.2.1 r_3.2.2.2.2.2.2.2.2.2.1 t_pictured t_x r_7 hc_8 H.size) (cwV 0 hts gX11_read_X11_fails rfl rfl rfl (by decide +kernel) ⟨Nat.le_of_ble_eq_true rfl, Nat.le_of_ble_eq_true rfl⟩) (xp_V C0.2 hP hD hS [0] rfl (by decide) 10 0 rfl rfl rfl) rfl rfl hl.1 rfl (lv_room (Nat.le_of_ble_eq_true rfl)) dX11_read_63 ⟨Nat.le_of_ble_eq_true rfl, Nat.le_of_ble_eq_true rfl⟩) (fun H locs hP hD hS => ?_)
            refine lv_istore_n (lv' := [(1, .int r_7.1), (0, .ref (g_t 0))]) hx hb dX11_read_66 rfl hl (by decide) rfl (fun ls hl => ?_)
            exact w_X11_read_67 C0 HR ih t_raised t_undos r_3.2.1 t_length r_3.2.2.1 r_3.2.2.2.1 r_3.2.2.2.2.1 r_3.2.2.2.2.2.1 r_7.2 r_3.2.2.2.2.2.2.2.1 r_3.2.2.2.2.2.2.2.2.1 r_3.2.2.2.2.2.2.2.2.2.1 t_all r_3.2.2.2.2.2.2.2.2.2.2 r_7.1 H locs ls hP hD hS (lv_sub hl [1, 0] rfl) hF
def F_X11_read (t_raised : Int32) (t_undos : Int32) (t_reached : Int32) (t_length : Int32) (t_begin : Int32) (t_sort : Int32) (t_value : Int32) (t_word : Int64) (t_wrongAt : Int32) (t_badAt : Int32) (t_bad : Int32) (t_read : Int32) (t_all : Nat → Int32) (t_text : Nat → Int32) (t_told : Nat → Int32) : Option (Int32 × Int32 × Int32 × Int32 × Int32 × Int32 × Int32 × Int32 × Int64 × Int32 × Int32 × Int32 × Int32 × (Nat → Int32) × (Nat → Int32)) :=
  (F_X11_atFirst t_reached t_badAt t_bad t_told).bind fun r_1 => ((F_X11_token r_1.1 (t_all 97) t_begin t_sort t_value t_word t_text).bind fun r_3 => (L_X11_read_34 t_text fu_ (0 : Int32) t_undos r_3.1 (t_all 97) r_3.2.1 r_3.2.2.1 r_3.2.2.2.1 r_3.2.2.2.2 t_wrongAt r_1.2.1 r_1.2.2.1 t_read (upd t_all 97 (0 : Int32)) r_1.2.2.2 (1 : Int32)))
set_option maxHeartbeats 4000000 in
set_option maxRecDepth 100000 in
theorem c_X11_read (l : Launch) (D : va_G) (K : Nat → ClassId) (g_t : Nat → Nat) (t_raised : Int32) (t_undos : Int32) (t_reached : Int32) (t_length : Int32) (t_begin : Int32) (t_sort : Int32) (t_value : Int32) (t_word : Int64) (t_wrongAt : Int32) (t_badAt : Int32) (t_bad : Int32) (t_read : Int32) (t_pictured : Int32) (t_x : Int32) (t_all : Nat → Int32) (t_text : Nat → Int32) (t_told : Nat → Int32) (res : Int32 × Int32 × Int32 × Int32 × Int32 × Int32 × Int32 × Int32 × Int64 × Int32 × Int32 × Int32 × Int32 × (Nat → Int32) × (Nat → Int32)) (hF : F_X11_read t_raised t_undos t_reached t_length t_begin t_sort t_value t_word t_wrongAt t_badAt t_bad t_read t_all t_text t_told = some res) :
    Mi_ l yX11_read wsX11_read rmX11_read D K [.ref (g_t 0)] (w_X11_read K g_t t_raised t_undos t_reached t_length t_begin t_sort t_value t_word t_wrongAt t_badAt t_bad t_read t_pictured t_x t_all t_text t_told) (w_X11_read K g_t res.2.1 res.2.2.1 res.2.2.2.1 res.2.2.2.2.1 res.2.2.2.2.2.1 res.2.2.2.2.2.2.1 res.2.2.2.2.2.2.2.1 res.2.2.2.2.2.2.2.2.1 res.2.2.2.2.2.2.2.2.2.1 res.2.2.2.2.2.2.2.2.2.2.1 res.2.2.2.2.2.2.2.2.2.2.2.1 res.2.2.2.2.2.2.2.2.2.2.2.2.1 t_pictured t_x res.2.2.2.2.2.2.2.2.2.2.2.2.2.1 t_text res.2.2.2.2.2.2.2.2.2.2.2.2.2.2) (res.1) := by
  refine en_i (cc := cX11_read) (maxL := 2) (own := RX11) (by decide) rfl rfl (Nat.le_of_ble_eq_true rfl) ?_
  intro p e s m args below meth c A Q H locs ls C0 hP hD hS hl HR
  obtain ⟨⟨hx, hb, hml, hown, hts⟩, hK, -⟩ := id C0
  have hl : lv_has ls 2 [(0, .ref (g_t 0))] := hl
  unfold F_X11_read at hF
  refine lv_aload_n hx hb dX11_read_0 rfl (lv_at hl 0 rfl) ?_
  refine lv_iconst (v := 0) hx hb dX11_read_1 (by decide) ?_
  refine va_put (D := D) (ci := 10) (v := .int (0 : Int32)) (ty := .int) (C := RX11) (T := TX11) (N := 30) hx hb hts iw_X11_read_X11 tyX11 tyX11_ok nmX11 hown hK hP hD hS 0 rfl rfl 0 (by decide) (hts _ fl_X11_read_66) (fun _ h9 => h9) rfl (by decide +kernel) rfl rfl (Nat.le_of_ble_eq_true rfl) dX11_read_2 (fun H locs hP hD hS => ?_)
  have hP : va_P D vwCl (w_X11_read K g_t (0 : Int32) t_undos t_reached t_length t_begin t_sort t_value t_word t_wrongAt t_badAt t_bad t_read t_pictured t_x t_all t_text t_told) H := hP
  have hD : va_D A (w_X11_read K g_t (0 : Int32) t_undos t_reached t_length t_begin t_sort t_value t_word t_wrongAt t_badAt t_bad t_read t_pictured t_x t_all t_text t_told) := hD
  refine lv_aload_n hx hb dX11_read_5 rfl (lv_at hl 0 rfl) ?_
  refine lv_aload_n hx hb dX11_read_6 rfl (lv_at hl 0 rfl) ?_
  refine va_get (D := D) (ci := 10) (v := .ref (g_t 2)) (C := RX11) (T := TX11) (N := 30) hx hb hts iw_X11_read_X11 hown hK hP 0 rfl rfl 1 (by decide) (hts _ fl_X11_read_7) (fun _ h9 => h9) rfl dX11_read_7 ?_
  refine lv_bipush (v := 97) hx hb dX11_read_10 (by decide) ?_
  refine xl_i (f := t_all) hx hb hK hP 1 0 rfl rfl (k := 97) (by decide) (in_v (by decide)) dX11_read_12 ?_
  refine va_put (D := D) (ci := 10) (v := .int (t_all 97)) (ty := .int) (C := RX11) (T := TX11) (N := 30) hx hb hts iw_X11_read_X11 tyX11 tyX11_ok nmX11 hown hK hP hD hS 0 rfl rfl 7 (by decide) (hts _ fl_X11_read_83) (fun _ h9 => h9) rfl (by decide +kernel) rfl rfl (Nat.le_of_ble_eq_true rfl) dX11_read_13 (fun H locs hP hD hS => ?_)
  have hP : va_P D vwCl (w_X11_read K g_t (0 : Int32) t_undos t_reached (t_all 97) t_begin t_sort t_value t_word t_wrongAt t_badAt t_bad t_read t_pictured t_x t_all t_text t_told) H := hP
  have hD : va_D A (w_X11_read K g_t (0 : Int32) t_undos t_reached (t_all 97) t_begin t_sort t_value t_word t_wrongAt t_badAt t_bad t_read t_pictured t_x t_all t_text t_told) := hD
  refine lv_aload_n hx hb dX11_read_16 rfl (lv_at hl 0 rfl) ?_
  refine va_get (D := D) (ci := 10) (v := .ref (g_t 2)) (C := RX11) (T := TX11) (N := 30) hx hb hts iw_X11_read_X11 hown hK hP 0 rfl rfl 1 (by decide) (hts _ fl_X11_read_7) (fun _ h9 => h9) rfl dX11_read_17 ?_
  refine lv_bipush (v := 97) hx hb dX11_read_20 (by decide) ?_
  refine lv_iconst (v := 0) hx hb dX11_read_22 (by decide) ?_
  refine xs_i (f := t_all) hx hb hK hP hD hS 1 0 rfl rfl (k := 97) (by decide) (in_v (by decide)) dX11_read_23 (fun H locs hP hD hS => ?_)
  have hP : va_P D vwCl (w_X11_read K g_t (0 : Int32) t_undos t_reached (t_all 97) t_begin t_sort t_value t_word t_wrongAt t_badAt t_bad t_read t_pictured t_x (upd t_all 97 (0 : Int32)) t_text t_told) H := hP
  have hD : va_D A (w_X11_read K g_t (0 : Int32) t_undos t_reached (t_all 97) t_begin t_sort t_value t_word t_wrongAt t_badAt t_bad t_read t_pictured t_x (upd t_all 97 (0 : Int32)) t_text t_told) := hD
  refine lv_aload_n hx hb dX11_read_24 rfl (lv_at hl 0 rfl) ?_
  obtain ⟨r_1, hc_2, hF⟩ := bn_some hF
  refine xc_v (wn := (w_X11_read K g_t (0 : Int32) t_undos r_1.1 (t_all 97) t_begin t_sort t_value t_word t_wrongAt r_1.2.1 r_1.2.2.1 t_read t_pictured t_x (upd t_all 97 (0 : Int32)) t_text r_1.2.2.2)) hP hD hS C0.2.2.1 [0, 3] [1, 2] [2, 0, 1, 3] rfl rfl (by decide) (by decide) rfl (by decide) (va_runV (As := []) (rest := []) C0.1 (c_X11_atFirst l D K g_t (0 : Int32) t_undos t_reached (t_all 97) t_begin t_sort t_value t_word t_wrongAt t_badAt t_bad t_read t_pictured t_x t_told r_1 hc_2 H.size) (cwV 0 hts gX11_read_X11_atFirst rfl rfl rfl (by decide +kernel) ⟨Nat.le_of_ble_eq_true rfl, Nat.le_of_ble_eq_true rfl⟩) (xp_V C0.2 hP hD hS [0, 3] rfl (by decide) 10 0 rfl rfl rfl) rfl rfl hl.1 rfl (lv_room (Nat.le_of_ble_eq_true rfl)) dX11_read_25 ⟨Nat.le_of_ble_eq_true rfl, Nat.le_of_ble_eq_true rfl⟩) (fun H locs hP hD hS => ?_)
  refine lv_aload_n hx hb dX11_read_28 rfl (lv_at hl 0 rfl) ?_
  obtain ⟨r_3, hc_4, hF⟩ := bn_some hF
  refine xc_v (wn := (w_X11_read K g_t (0 : Int32) t_undos r_3.1 (t_all 97) r_3.2.1 r_3.2.2.1 r_3.2.2.2.1 r_3.2.2.2.2 t_wrongAt r_1.2.1 r_1.2.2.1 t_read t_pictured t_x (upd t_all 97 (0 : Int32)) t_text r_1.2.2.2)) hP hD hS C0.2.2.1 [0, 2] [1, 3] [2, 0, 3, 1] rfl rfl (by decide) (by decide) rfl (by decide) (va_runV (As := []) (rest := []) C0.1 (c_X11_token l D K g_t (0 : Int32) t_undos r_1.1 (t_all 97) t_begin t_sort t_value t_word t_wrongAt r_1.2.1 r_1.2.2.1 t_read t_pictured t_x t_text r_3 hc_4 H.size) (cwV 0 hts gX11_read_X11_token rfl rfl rfl (by decide +kernel) ⟨Nat.le_of_ble_eq_true rfl, Nat.le_of_ble_eq_true rfl⟩) (xp_V C0.2 hP hD hS [0, 2] rfl (by decide) 10 0 rfl rfl rfl) rfl rfl hl.1 rfl (lv_room (Nat.le_of_ble_eq_true rfl)) dX11_read_29 ⟨Nat.le_of_ble_eq_true rfl, Nat.le_of_ble_eq_true rfl⟩) (fun H locs hP hD hS => ?_)
  refine lv_iconst (v := 1) hx hb dX11_read_32 (by decide) ?_
  refine lv_istore_n (lv' := [(1, .int (1 : Int32)), (0, .ref (g_t 0))]) hx hb dX11_read_33 rfl hl (by decide) rfl (fun ls hl => ?_)
  exact w_X11_read_34 C0 HR fu_ (0 : Int32) t_undos r_3.1 (t_all 97) r_3.2.1 r_3.2.2.1 r_3.2.2.2.1 r_3.2.2.2.2 t_wrongAt r_1.2.1 r_1.2.2.1 t_read (upd t_all 97 (0 : Int32)) r_1.2.2.2 (1 : Int32) H locs ls hP hD hS (lv_sub hl [1, 0] rfl) hF

/-! StaggerRadarModel.seenBy(I)I -/
abbrev rmX11_seenBy : Room := { frames := 3, cells := 0, slots := 0, locals := 67 }
theorem fl_X11_seenBy_7 : Cond.fieldLink RX11 7 "StaggerRadarModel" "all" "[I" ∈ wsX11_seenBy := by decide +kernel
theorem iw_X11_seenBy_X11 : ∀ w ∈ u_ws RX11 TX11 30, w ∈ wsX11_seenBy := by decide +kernel
abbrev w_X11_seenBy (K : Nat → ClassId) (g_t : Nat → Nat) (t_raised : Int32) (t_undos : Int32) (t_reached : Int32) (t_length : Int32) (t_begin : Int32) (t_sort : Int32) (t_value : Int32) (t_word : Int64) (t_wrongAt : Int32) (t_badAt : Int32) (t_bad : Int32) (t_read : Int32) (t_pictured : Int32) (t_x : Int32) (t_all : Nat → Int32) : va_W := [((g_t 0), .inr (10, [.int t_raised, .ref (g_t 2), .ref (g_t 3), .ref (g_t 4), .ref (g_t 5), .int t_undos, .int t_reached, .int t_length, .int t_begin, .int t_sort, .int t_value, .long t_word, .int t_wrongAt, .int t_badAt, .int t_bad, .ref (g_t 16), .int t_read, .ref (g_t 18), .ref (g_t 19), .ref (g_t 20), .int t_pictured, .ref (g_t 22), .ref (g_t 23), .ref (g_t 24), .ref (g_t 25), .ref (g_t 26), .int t_x, .ref (g_t 28), .ref (g_t 29), .ref (g_t 30)])), ((g_t 2), .inl (K 0, 500, .inl t_all))]
def L_X11_seenBy_4 (t_all : Nat → Int32) : Nat → Int32 → Int32 → Int32 → Option (Int32)
  | 0, _, _, _ => none
  | n_ + 1, x1, x2, x3 =>
    if (t_all 0) ≤ x3 then (some x2) else ((F_X11_isSeen t_all x1 x3).bind fun r_2 => (if r_2 = (0 : Int32) then (L_X11_seenBy_4 t_all n_ x1 (x2 ||| (0 : Int32)) (x3 + (1 : Int32))) else (L_X11_seenBy_4 t_all n_ x1 (x2 ||| ((1 : Int32) <<< (x3 &&& 31))) (x3 + (1 : Int32)))))
set_option maxHeartbeats 4000000 in
set_option maxRecDepth 100000 in
theorem w_X11_seenBy_4 {p : Program} {l : Launch} {e : Env} {s : State} {m : MethodId} {args : Array Value} {below : List Frame} {meth : Method} {c : Code} {D : va_G} {K : Nat → ClassId} {A : Nat → Prop} {Q : State → Prop} (C0 : cx_ p s m args c cX11_seenBy 4 RX11 wsX11_seenBy D K A) {g_t : Nat → Nat} {t_raised : Int32} {t_undos : Int32} {t_reached : Int32} {t_length : Int32} {t_begin : Int32} {t_sort : Int32} {t_value : Int32} {t_word : Int64} {t_wrongAt : Int32} {t_badAt : Int32} {t_bad : Int32} {t_read : Int32} {t_pictured : Int32} {t_x : Int32} {t_all : Nat → Int32} {res : Int32} (HR : ∀ (pc : Nat) (H : Heap) (locs : List Loc) (ls : Array Slot), decode cX11_seenBy pc = .ok (.ireturn, 1) → va_P D vwCl (w_X11_seenBy K g_t t_raised t_undos t_reached t_length t_begin t_sort t_value t_word t_wrongAt t_badAt t_bad t_read t_pictured t_x t_all) H → va_D A (w_X11_seenBy K g_t t_raised t_undos t_reached t_length t_begin t_sort t_value t_word t_wrongAt t_badAt t_bad t_read t_pictured t_x t_all) → va_S A s.heap H locs → W p l e rmX11_seenBy s m args below meth c H locs 0 0 Q (F0 m pc ls [.int res]))  :
    ∀ (n_ : Nat) (x1 : Int32) (x2 : Int32) (x3 : Int32) (H : Heap) (locs : List Loc) (ls : Array Slot), va_P D vwCl (w_X11_seenBy K g_t t_raised t_undos t_reached t_length t_begin t_sort t_value t_word t_wrongAt t_badAt t_bad t_read t_pictured t_x t_all) H → va_D A (w_X11_seenBy K g_t t_raised t_undos t_reached t_length t_begin t_sort t_value t_word t_wrongAt t_badAt t_bad t_read t_pictured t_x t_all) → va_S A s.heap H locs → lv_has ls 4 [(0, .ref (g_t 0)), (1, .int x1), (2, .int x2), (3, .int x3)] → L_X11_seenBy_4 t_all n_ x1 x2 x3 = some res → W p l e rmX11_seenBy s m args below meth c H locs 0 0 Q (F0 m 4 ls []) := by
  obtain ⟨⟨hx, hb, hml, hown, hts⟩, hK, -⟩ := id C0
  intro n_
  induction n_ with
  | zero =>
    intro x1 x2 x3 H locs ls hP hD hS hl hF
    exact no_s (show (none : Option (Int32)) = some res from hF)
  | succ n_ ih =>
    intro x1 x2 x3 H locs ls hP hD hS hl hF
    rw [L_X11_seenBy_4] at hF
    refine lv_iload_n hx hb dX11_seenBy_4 rfl (lv_at hl 3 rfl) ?_
    refine lv_aload_n hx hb dX11_seenBy_5 rfl (lv_at hl 0 rfl) ?_
    refine va_get (D := D) (ci := 10) (v := .ref (g_t 2)) (C := RX11) (T := TX11) (N := 30) hx hb hts iw_X11_seenBy_X11 hown hK hP 0 rfl rfl 1 (by decide) (hts _ fl_X11_seenBy_7) (fun _ h9 => h9) rfl dX11_seenBy_6 ?_
    refine lv_iconst (v := 0) hx hb dX11_seenBy_9 (by decide) ?_
    refine xl_i (f := t_all) hx hb hK hP 1 0 rfl rfl (k := 0) (by decide) (in_v (by decide)) dX11_seenBy_10 ?_
    refine lv_icmp_ge (tgt := 39) hx hb dX11_seenBy_11 (by decide) (fun c_1 => ?_) (fun c_1 => ?_)
    · have hF := it_pos c_1 hF
      refine lv_iload_n hx hb dX11_seenBy_39 rfl (lv_at hl 2 rfl) ?_
      obtain rfl := Option.some.inj hF
      exact HR 40 H locs ls dX11_seenBy_40 hP hD hS
    · have hF := it_neg c_1 hF
      refine lv_iload_n hx hb dX11_seenBy_14 rfl (lv_at hl 2 rfl) ?_
      refine lv_aload_n hx hb dX11_seenBy_15 rfl (lv_at hl 0 rfl) ?_
      refine lv_iload_n hx hb dX11_seenBy_16 rfl (lv_at hl 1 rfl) ?_
      refine lv_iload_n hx hb dX11_seenBy_17 rfl (lv_at hl 3 rfl) ?_
      obtain ⟨r_2, hc_3, hF⟩ := bn_some hF
      refine xc_i (wn := (w_X11_seenBy K g_t t_raised t_undos t_reached t_length t_begin t_sort t_value t_word t_wrongAt t_badAt t_bad t_read t_pictured t_x t_all)) hP hD hS C0.2.2.1 [0, 1] [] [0, 1] rfl rfl (by decide) (by decide) rfl (by decide) (va_runV (As := [.int x1, .int x3]) (rest := [.int x2]) C0.1 (c_X11_isSeen l D K g_t t_raised t_undos t_reached t_length t_begin t_sort t_value t_word t_wrongAt t_badAt t_bad t_read t_pictured t_x t_all x1 x3 r_2 hc_3 H.size) (cwV 2 hts gX11_seenBy_X11_isSeen rfl rfl rfl (by decide +kernel) ⟨Nat.le_of_ble_eq_true rfl, Nat.le_of_ble_eq_true rfl⟩) (xp_V C0.2 hP hD hS [0, 1] rfl (by decide) 10 0 rfl rfl rfl) rfl rfl hl.1 rfl (lv_room (Nat.le_of_ble_eq_true rfl)) dX11_seenBy_18 ⟨Nat.le_of_ble_eq_true rfl, Nat.le_of_ble_eq_true rfl⟩) (fun H locs hP hD hS => ?_)
      refine lv_if_eq (tgt := 30) hx hb dX11_seenBy_21 (by decide) (fun c_4 => ?_) (fun c_4 => ?_)
      · have hF := it_pos c_4 hF
        refine lv_iconst (v := 0) hx hb dX11_seenBy_30 (by decide) ?_
        refine lv_ior hx hb dX11_seenBy_31 ?_
        refine lv_istore_n (lv' := [(2, .int (x2 ||| (0 : Int32))), (0, .ref (g_t 0)), (1, .int x1), (3, .int x3)]) hx hb dX11_seenBy_32 rfl hl (by decide) rfl (fun ls hl => ?_)
        refine lv_iinc (v := (x3 + (1 : Int32))) (lv' := [(3, .int (x3 + (1 : Int32))), (2, .int (x2 ||| (0 : Int32))), (0, .ref (g_t 0)), (1, .int x1)]) hx hb dX11_seenBy_33 hl (k := 3) rfl (congrArg (fun z => x3 + z) (by decide)) (by decide) rfl (fun ls hl => ?_)
        refine lv_goto (tgt := 4) hx hb dX11_seenBy_36 (by decide) ?_
        exact ih x1 (x2 ||| (0 : Int32)) (x3 + (1 : Int32)) H locs ls hP hD hS (lv_sub hl [2, 3, 1, 0] rfl) hF
      · have hF := it_neg c_4 hF
        refine lv_iconst (v := 1) hx hb dX11_seenBy_24 (by decide) ?_
        refine lv_iload_n hx hb dX11_seenBy_25 rfl (lv_at hl 3 rfl) ?_
        refine lv_ishl hx hb dX11_seenBy_26 ?_
        refine lv_goto (tgt := 31) hx hb dX11_seenBy_27 (by decide) ?_
        refine lv_ior hx hb dX11_seenBy_31 ?_
        refine lv_istore_n (lv' := [(2, .int (x2 ||| ((1 : Int32) <<< (x3 &&& 31)))), (0, .ref (g_t 0)), (1, .int x1), (3, .int x3)]) hx hb dX11_seenBy_32 rfl hl (by decide) rfl (fun ls hl => ?_)
        refine lv_iinc (v := (x3 + (1 : Int32))) (lv' := [(3, .int (x3 + (1 : Int32))), (2, .int (x2 ||| ((1 : Int32) <<< (x3 &&& 31)))), (0, .ref (g_t 0)), (1, .int x1)]) hx hb dX11_seenBy_33 hl (k := 3) rfl (congrArg (fun z => x3 + z) (by decide)) (by decide) rfl (fun ls hl => ?_)
        refine lv_goto (tgt := 4) hx hb dX11_seenBy_36 (by decide) ?_
        exact ih x1 (x2 ||| ((1 : Int32) <<< (x3 &&& 31))) (x3 + (1 : Int32)) H locs ls hP hD hS (lv_sub hl [2, 3, 1, 0] rfl) hF
def F_X11_seenBy (t_all : Nat → Int32) (x1 : Int32) : Option (Int32) :=
  L_X11_seenBy_4 t_all fu_ x1 (0 : Int32) (0 : Int32)
set_option maxHeartbeats 4000000 in
set_option maxRecDepth 100000 in
theorem c_X11_seenBy (l : Launch) (D : va_G) (K : Nat → ClassId) (g_t : Nat → Nat) (t_raised : Int32) (t_undos : Int32) (t_reached : Int32) (t_length : Int32) (t_begin : Int32) (t_sort : Int32) (t_value : Int32) (t_word : Int64) (t_wrongAt : Int32) (t_badAt : Int32) (t_bad : Int32) (t_read : Int32) (t_pictured : Int32) (t_x : Int32) (t_all : Nat → Int32) (x1 : Int32) (res : Int32) (hF : F_X11_seenBy t_all x1 = some res) :
    Mi_ l yX11_seenBy wsX11_seenBy rmX11_seenBy D K [.ref (g_t 0), .int x1] (w_X11_seenBy K g_t t_raised t_undos t_reached t_length t_begin t_sort t_value t_word t_wrongAt t_badAt t_bad t_read t_pictured t_x t_all) (w_X11_seenBy K g_t t_raised t_undos t_reached t_length t_begin t_sort t_value t_word t_wrongAt t_badAt t_bad t_read t_pictured t_x t_all) (res) := by
  refine en_i (cc := cX11_seenBy) (maxL := 4) (own := RX11) (by decide) rfl rfl (Nat.le_of_ble_eq_true rfl) ?_
  intro p e s m args below meth c A Q H locs ls C0 hP hD hS hl HR
  obtain ⟨⟨hx, hb, hml, hown, hts⟩, hK, -⟩ := id C0
  have hl : lv_has ls 4 [(0, .ref (g_t 0)), (1, .int x1)] := hl
  unfold F_X11_seenBy at hF
  refine lv_iconst (v := 0) hx hb dX11_seenBy_0 (by decide) ?_
  refine lv_istore_n (lv' := [(2, .int (0 : Int32)), (0, .ref (g_t 0)), (1, .int x1)]) hx hb dX11_seenBy_1 rfl hl (by decide) rfl (fun ls hl => ?_)
  refine lv_iconst (v := 0) hx hb dX11_seenBy_2 (by decide) ?_
  refine lv_istore_n (lv' := [(3, .int (0 : Int32)), (2, .int (0 : Int32)), (0, .ref (g_t 0)), (1, .int x1)]) hx hb dX11_seenBy_3 rfl hl (by decide) rfl (fun ls hl => ?_)
  exact w_X11_seenBy_4 C0 HR fu_ x1 (0 : Int32) (0 : Int32) H locs ls hP hD hS (lv_sub hl [2, 3, 1, 0] rfl) hF

/-! StaggerRadarModel.set(II)Z -/
abbrev rmX11_set : Room := { frames := 1, cells := 0, slots := 0, locals := 22 }
theorem fl_X11_set_7 : Cond.fieldLink RX11 7 "StaggerRadarModel" "all" "[I" ∈ wsX11_set := by decide +kernel
theorem fl_X11_set_66 : Cond.fieldLink RX11 66 "StaggerRadarModel" "raised" "I" ∈ wsX11_set := by decide +kernel
theorem iw_X11_set_X11 : ∀ w ∈ u_ws RX11 TX11 30, w ∈ wsX11_set := by decide +kernel
abbrev w_X11_set (K : Nat → ClassId) (g_t : Nat → Nat) (t_raised : Int32) (t_undos : Int32) (t_reached : Int32) (t_length : Int32) (t_begin : Int32) (t_sort : Int32) (t_value : Int32) (t_word : Int64) (t_wrongAt : Int32) (t_badAt : Int32) (t_bad : Int32) (t_read : Int32) (t_pictured : Int32) (t_x : Int32) (t_all : Nat → Int32) (t_undone : Nat → Int32) : va_W := [((g_t 0), .inr (10, [.int t_raised, .ref (g_t 2), .ref (g_t 3), .ref (g_t 4), .ref (g_t 5), .int t_undos, .int t_reached, .int t_length, .int t_begin, .int t_sort, .int t_value, .long t_word, .int t_wrongAt, .int t_badAt, .int t_bad, .ref (g_t 16), .int t_read, .ref (g_t 18), .ref (g_t 19), .ref (g_t 20), .int t_pictured, .ref (g_t 22), .ref (g_t 23), .ref (g_t 24), .ref (g_t 25), .ref (g_t 26), .int t_x, .ref (g_t 28), .ref (g_t 29), .ref (g_t 30)])), ((g_t 2), .inl (K 0, 500, .inl t_all)), ((g_t 5), .inl (K 0, 776, .inl t_undone))]
def F_X11_set (t_raised : Int32) (t_undos : Int32) (t_all : Nat → Int32) (t_undone : Nat → Int32) (x1 : Int32) (x2 : Int32) : Option (Int32 × Int32 × Int32 × (Nat → Int32) × (Nat → Int32)) :=
  (F_X11_in x1 (0 : Int32) (6 : Int32)).bind fun r_1 => (if r_1 = (0 : Int32) then (some ((0 : Int32), (0 : Int32), t_undos, t_all, t_undone)) else ((F_X11_leastOf x1).bind fun r_4 => ((F_X11_mostOf x1).bind fun r_6 => ((F_X11_in x2 r_4 r_6).bind fun r_8 => (if r_8 = (0 : Int32) then (some ((0 : Int32), (0 : Int32), t_undos, t_all, t_undone)) else (gd_ (in_b ((6 : Int32) + x1) 500) (if (t_all ((6 : Int32) + x1).toNatClampNeg) = x2 then (some ((0 : Int32), (0 : Int32), t_undos, t_all, t_undone)) else ((F_X11_keeps t_undos t_all t_undone).bind fun r_13 => (gd_ (in_b ((6 : Int32) + x1) 500) (some ((1 : Int32), (0 : Int32), r_13.1, (upd t_all ((6 : Int32) + x1).toNatClampNeg x2), r_13.2)))))))))))
set_option maxHeartbeats 4000000 in
set_option maxRecDepth 100000 in
theorem c_X11_set (l : Launch) (D : va_G) (K : Nat → ClassId) (g_t : Nat → Nat) (t_raised : Int32) (t_undos : Int32) (t_reached : Int32) (t_length : Int32) (t_begin : Int32) (t_sort : Int32) (t_value : Int32) (t_word : Int64) (t_wrongAt : Int32) (t_badAt : Int32) (t_bad : Int32) (t_read : Int32) (t_pictured : Int32) (t_x : Int32) (t_all : Nat → Int32) (t_undone : Nat → Int32) (x1 : Int32) (x2 : Int32) (res : Int32 × Int32 × Int32 × (Nat → Int32) × (Nat → Int32)) (hF : F_X11_set t_raised t_undos t_all t_undone x1 x2 = some res) :
    Mi_ l yX11_set wsX11_set rmX11_set D K [.ref (g_t 0), .int x1, .int x2] (w_X11_set K g_t t_raised t_undos t_reached t_length t_begin t_sort t_value t_word t_wrongAt t_badAt t_bad t_read t_pictured t_x t_all t_undone) (w_X11_set K g_t res.2.1 res.2.2.1 t_reached t_length t_begin t_sort t_value t_word t_wrongAt t_badAt t_bad t_read t_pictured t_x res.2.2.2.1 res.2.2.2.2) (res.1) := by
  refine en_z (cc := cX11_set) (maxL := 3) (own := RX11) (by decide) rfl rfl (Nat.le_of_ble_eq_true rfl) ?_
  intro p e s m args below meth c A Q H locs ls C0 hP hD hS hl HR
  obtain ⟨⟨hx, hb, hml, hown, hts⟩, hK, -⟩ := id C0
  have hl : lv_has ls 3 [(0, .ref (g_t 0)), (1, .int x1), (2, .int x2)] := hl
  unfold F_X11_set at hF
  refine lv_aload_n hx hb dX11_set_0 rfl (lv_at hl 0 rfl) ?_
  refine lv_iconst (v := 0) hx hb dX11_set_1 (by decide) ?_
  refine va_put (D := D) (ci := 10) (v := .int (0 : Int32)) (ty := .int) (C := RX11) (T := TX11) (N := 30) hx hb hts iw_X11_set_X11 tyX11 tyX11_ok nmX11 hown hK hP hD hS 0 rfl rfl 0 (by decide) (hts _ fl_X11_set_66) (fun _ h9 => h9) rfl (by decide +kernel) rfl rfl (Nat.le_of_ble_eq_true rfl) dX11_set_2 (fun H locs hP hD hS => ?_)
  have hP : va_P D vwCl (w_X11_set K g_t (0 : Int32) t_undos t_reached t_length t_begin t_sort t_value t_word t_wrongAt t_badAt t_bad t_read t_pictured t_x t_all t_undone) H := hP
  have hD : va_D A (w_X11_set K g_t (0 : Int32) t_undos t_reached t_length t_begin t_sort t_value t_word t_wrongAt t_badAt t_bad t_read t_pictured t_x t_all t_undone) := hD
  refine lv_iload_n hx hb dX11_set_5 rfl (lv_at hl 1 rfl) ?_
  refine lv_iconst (v := 0) hx hb dX11_set_6 (by decide) ?_
  refine lv_bipush (v := 6) hx hb dX11_set_7 (by decide) ?_
  obtain ⟨r_1, hc_2, hF⟩ := bn_some hF
  refine xc_i (wn := (w_X11_set K g_t (0 : Int32) t_undos t_reached t_length t_begin t_sort t_value t_word t_wrongAt t_badAt t_bad t_read t_pictured t_x t_all t_undone)) hP hD hS C0.2.2.1 [] [0, 1, 2] [0, 1, 2] rfl rfl (by decide) (by decide) rfl (by decide) (va_runS (As := [.int x1, .int (0 : Int32), .int (6 : Int32)]) (rest := []) C0.1 (c_X11_in l D K x1 (0 : Int32) (6 : Int32) r_1 hc_2 H.size) (va_cwS 3 hts gX11_set_X11_in rfl rfl rfl (by decide +kernel) ⟨Nat.le_of_ble_eq_true rfl, Nat.le_of_ble_eq_true rfl⟩) (xp_S C0.2 hP hD hS [] rfl (by decide)) rfl rfl hl.1 rfl (lv_room (Nat.le_of_ble_eq_true rfl)) dX11_set_9 ⟨Nat.le_of_ble_eq_true rfl, Nat.le_of_ble_eq_true rfl⟩) (fun H locs hP hD hS => ?_)
  refine lv_if_eq (tgt := 43) hx hb dX11_set_12 (by decide) (fun c_3 => ?_) (fun c_3 => ?_)
  · have hF := it_pos c_3 hF
    refine lv_iconst (v := 0) hx hb dX11_set_43 (by decide) ?_
    obtain rfl := Option.some.inj hF
    exact HR 44 H locs ls dX11_set_44 narrow_b0 hP hD hS
  · have hF := it_neg c_3 hF
    refine lv_iload_n hx hb dX11_set_15 rfl (lv_at hl 2 rfl) ?_
    refine lv_iload_n hx hb dX11_set_16 rfl (lv_at hl 1 rfl) ?_
    obtain ⟨r_4, hc_5, hF⟩ := bn_some hF
    refine xc_i (wn := (w_X11_set K g_t (0 : Int32) t_undos t_reached t_length t_begin t_sort t_value t_word t_wrongAt t_badAt t_bad t_read t_pictured t_x t_all t_undone)) hP hD hS C0.2.2.1 [] [0, 1, 2] [0, 1, 2] rfl rfl (by decide) (by decide) rfl (by decide) (va_runS (As := [.int x1]) (rest := [.int x2]) C0.1 (c_X11_leastOf l D K x1 r_4 hc_5 H.size) (va_cwS 1 hts gX11_set_X11_leastOf rfl rfl rfl (by decide +kernel) ⟨Nat.le_of_ble_eq_true rfl, Nat.le_of_ble_eq_true rfl⟩) (xp_S C0.2 hP hD hS [] rfl (by decide)) rfl rfl hl.1 rfl (lv_room (Nat.le_of_ble_eq_true rfl)) dX11_set_17 ⟨Nat.le_of_ble_eq_true rfl, Nat.le_of_ble_eq_true rfl⟩) (fun H locs hP hD hS => ?_)
    refine lv_iload_n hx hb dX11_set_20 rfl (lv_at hl 1 rfl) ?_
    obtain ⟨r_6, hc_7, hF⟩ := bn_some hF
    refine xc_i (wn := (w_X11_set K g_t (0 : Int32) t_undos t_reached t_length t_begin t_sort t_value t_word t_wrongAt t_badAt t_bad t_read t_pictured t_x t_all t_undone)) hP hD hS C0.2.2.1 [] [0, 1, 2] [0, 1, 2] rfl rfl (by decide) (by decide) rfl (by decide) (va_runS (As := [.int x1]) (rest := [.int r_4, .int x2]) C0.1 (c_X11_mostOf l D K x1 r_6 hc_7 H.size) (va_cwS 1 hts gX11_set_X11_mostOf rfl rfl rfl (by decide +kernel) ⟨Nat.le_of_ble_eq_true rfl, Nat.le_of_ble_eq_true rfl⟩) (xp_S C0.2 hP hD hS [] rfl (by decide)) rfl rfl hl.1 rfl (lv_room (Nat.le_of_ble_eq_true rfl)) dX11_set_21 ⟨Nat.le_of_ble_eq_true rfl, Nat.le_of_ble_eq_true rfl⟩) (fun H locs hP hD hS => ?_)
    obtain ⟨r_8, hc_9, hF⟩ := bn_some hF
    refine xc_i (wn := (w_X11_set K g_t (0 : Int32) t_undos t_reached t_length t_begin t_sort t_value t_word t_wrongAt t_badAt t_bad t_read t_pictured t_x t_all t_undone)) hP hD hS C0.2.2.1 [] [0, 1, 2] [0, 1, 2] rfl rfl (by decide) (by decide) rfl (by decide) (va_runS (As := [.int x2, .int r_4, .int r_6]) (rest := []) C0.1 (c_X11_in l D K x2 r_4 r_6 r_8 hc_9 H.size) (va_cwS 3 hts gX11_set_X11_in rfl rfl rfl (by decide +kernel) ⟨Nat.le_of_ble_eq_true rfl, Nat.le_of_ble_eq_true rfl⟩) (xp_S C0.2 hP hD hS [] rfl (by decide)) rfl rfl hl.1 rfl (lv_room (Nat.le_of_ble_eq_true rfl)) dX11_set_24 ⟨Nat.le_of_ble_eq_true rfl, Nat.le_of_ble_eq_true rfl⟩) (fun H locs hP hD hS => ?_)
    refine lv_if_eq (tgt := 43) hx hb dX11_set_27 (by decide) (fun c_10 => ?_) (fun c_10 => ?_)
    · have hF := it_pos c_10 hF
      refine lv_iconst (v := 0) hx hb dX11_set_43 (by decide) ?_
      obtain rfl := Option.some.inj hF
      exact HR 44 H locs ls dX11_set_44 narrow_b0 hP hD hS
    · have hF := it_neg c_10 hF
      refine lv_aload_n hx hb dX11_set_30 rfl (lv_at hl 0 rfl) ?_
      refine va_get (D := D) (ci := 10) (v := .ref (g_t 2)) (C := RX11) (T := TX11) (N := 30) hx hb hts iw_X11_set_X11 hown hK hP 0 rfl rfl 1 (by decide) (hts _ fl_X11_set_7) (fun _ h9 => h9) rfl dX11_set_31 ?_
      refine lv_bipush (v := 6) hx hb dX11_set_34 (by decide) ?_
      refine lv_iload_n hx hb dX11_set_36 rfl (lv_at hl 1 rfl) ?_
      refine lv_iadd hx hb dX11_set_37 ?_
      obtain ⟨hg_11, hF⟩ := gd_some hF
      refine xl_i (f := t_all) hx hb hK hP 1 0 rfl rfl rfl (in_v hg_11) dX11_set_38 ?_
      refine lv_iload_n hx hb dX11_set_39 rfl (lv_at hl 2 rfl) ?_
      refine lv_icmp_ne (tgt := 45) hx hb dX11_set_40 (by decide) (fun c_12 => ?_) (fun c_12 => ?_)
      · have hF := it_neg c_12 hF
        refine lv_aload_n hx hb dX11_set_45 rfl (lv_at hl 0 rfl) ?_
        obtain ⟨r_13, hc_14, hF⟩ := bn_some hF
        refine xc_v (wn := (w_X11_set K g_t (0 : Int32) r_13.1 t_reached t_length t_begin t_sort t_value t_word t_wrongAt t_badAt t_bad t_read t_pictured t_x t_all r_13.2)) hP hD hS C0.2.2.1 [0, 1, 2] [] [0, 1, 2] rfl rfl (by decide) (by decide) rfl (by decide) (va_runV (As := []) (rest := []) C0.1 (c_X11_keeps l D K g_t (0 : Int32) t_undos t_reached t_length t_begin t_sort t_value t_word t_wrongAt t_badAt t_bad t_read t_pictured t_x t_all t_undone r_13 hc_14 H.size) (cwV 0 hts gX11_set_X11_keeps rfl rfl rfl (by decide +kernel) ⟨Nat.le_of_ble_eq_true rfl, Nat.le_of_ble_eq_true rfl⟩) (xp_V C0.2 hP hD hS [0, 1, 2] rfl (by decide) 10 0 rfl rfl rfl) rfl rfl hl.1 rfl (lv_room (Nat.le_of_ble_eq_true rfl)) dX11_set_46 ⟨Nat.le_of_ble_eq_true rfl, Nat.le_of_ble_eq_true rfl⟩) (fun H locs hP hD hS => ?_)
        refine lv_aload_n hx hb dX11_set_49 rfl (lv_at hl 0 rfl) ?_
        refine va_get (D := D) (ci := 10) (v := .ref (g_t 2)) (C := RX11) (T := TX11) (N := 30) hx hb hts iw_X11_set_X11 hown hK hP 0 rfl rfl 1 (by decide) (hts _ fl_X11_set_7) (fun _ h9 => h9) rfl dX11_set_50 ?_
        refine lv_bipush (v := 6) hx hb dX11_set_53 (by decide) ?_
        refine lv_iload_n hx hb dX11_set_55 rfl (lv_at hl 1 rfl) ?_
        refine lv_iadd hx hb dX11_set_56 ?_
        refine lv_iload_n hx hb dX11_set_57 rfl (lv_at hl 2 rfl) ?_
        obtain ⟨hg_15, hF⟩ := gd_some hF
        refine xs_i (f := t_all) hx hb hK hP hD hS 1 0 rfl rfl rfl (in_v hg_15) dX11_set_58 (fun H locs hP hD hS => ?_)
        have hP : va_P D vwCl (w_X11_set K g_t (0 : Int32) r_13.1 t_reached t_length t_begin t_sort t_value t_word t_wrongAt t_badAt t_bad t_read t_pictured t_x (upd t_all ((6 : Int32) + x1).toNatClampNeg x2) r_13.2) H := hP
        have hD : va_D A (w_X11_set K g_t (0 : Int32) r_13.1 t_reached t_length t_begin t_sort t_value t_word t_wrongAt t_badAt t_bad t_read t_pictured t_x (upd t_all ((6 : Int32) + x1).toNatClampNeg x2) r_13.2) := hD
        refine lv_iconst (v := 1) hx hb dX11_set_59 (by decide) ?_
        obtain rfl := Option.some.inj hF
        exact HR 60 H locs ls dX11_set_60 narrow_b1 hP hD hS
      · have hF := it_pos c_12 hF
        refine lv_iconst (v := 0) hx hb dX11_set_43 (by decide) ?_
        obtain rfl := Option.some.inj hF
        exact HR 44 H locs ls dX11_set_44 narrow_b0 hP hD hS

/-! StaggerRadarModel.shaken(IZ)I -/
abbrev rmX11_shaken : Room := { frames := 2, cells := 0, slots := 0, locals := 45 }
theorem fl_X11_shaken_7 : Cond.fieldLink RX11 7 "StaggerRadarModel" "all" "[I" ∈ wsX11_shaken := by decide +kernel
theorem fl_X11_shaken_66 : Cond.fieldLink RX11 66 "StaggerRadarModel" "raised" "I" ∈ wsX11_shaken := by decide +kernel
theorem iw_X11_shaken_X11 : ∀ w ∈ u_ws RX11 TX11 30, w ∈ wsX11_shaken := by decide +kernel
abbrev w_X11_shaken (K : Nat → ClassId) (g_t : Nat → Nat) (t_raised : Int32) (t_undos : Int32) (t_reached : Int32) (t_length : Int32) (t_begin : Int32) (t_sort : Int32) (t_value : Int32) (t_word : Int64) (t_wrongAt : Int32) (t_badAt : Int32) (t_bad : Int32) (t_read : Int32) (t_pictured : Int32) (t_x : Int32) (t_all : Nat → Int32) : va_W := [((g_t 0), .inr (10, [.int t_raised, .ref (g_t 2), .ref (g_t 3), .ref (g_t 4), .ref (g_t 5), .int t_undos, .int t_reached, .int t_length, .int t_begin, .int t_sort, .int t_value, .long t_word, .int t_wrongAt, .int t_badAt, .int t_bad, .ref (g_t 16), .int t_read, .ref (g_t 18), .ref (g_t 19), .ref (g_t 20), .int t_pictured, .ref (g_t 22), .ref (g_t 23), .ref (g_t 24), .ref (g_t 25), .ref (g_t 26), .int t_x, .ref (g_t 28), .ref (g_t 29), .ref (g_t 30)])), ((g_t 2), .inl (K 0, 500, .inl t_all))]
def J_X11_shaken_97 (t_all : Nat → Int32) (k_21 : Int32 → Int32 → Int32 → Int32 → Int32 → Option (Int32 × Int32)) (k_39 : Int32 → Int32 → Int32 → Int32 → Int32 → Int32 → Int32 → Option (Int32 × Int32)) (t_raised : Int32) (x1 : Int32) (x2 : Int32) (x3 : Int32) (x4 : Int32) (x5 : Int32) (x6 : Int32) (x7 : Int32) : Option (Int32 × Int32) :=
  if x2 = (0 : Int32) then (if x7 = (((2 : Int32) * x1) + (1 : Int32)) then (k_39 t_raised x1 x2 x3 x4 (x5 + (1 : Int32)) (x6 + (1 : Int32))) else (k_39 t_raised x1 x2 x3 x4 (x5 + (0 : Int32)) (x6 + (1 : Int32)))) else (if x7 ≤ (0 : Int32) then (k_39 t_raised x1 x2 x3 x4 (x5 + (0 : Int32)) (x6 + (1 : Int32))) else (k_39 t_raised x1 x2 x3 x4 (x5 + (1 : Int32)) (x6 + (1 : Int32))))
set_option maxHeartbeats 4000000 in
set_option maxRecDepth 100000 in
theorem w_X11_shaken_97 {p : Program} {l : Launch} {e : Env} {s : State} {m : MethodId} {args : Array Value} {below : List Frame} {meth : Method} {c : Code} {D : va_G} {K : Nat → ClassId} {A : Nat → Prop} {Q : State → Prop} (C0 : cx_ p s m args c cX11_shaken 9 RX11 wsX11_shaken D K A) {g_t : Nat → Nat} {t_undos : Int32} {t_reached : Int32} {t_length : Int32} {t_begin : Int32} {t_sort : Int32} {t_value : Int32} {t_word : Int64} {t_wrongAt : Int32} {t_badAt : Int32} {t_bad : Int32} {t_read : Int32} {t_pictured : Int32} {t_x : Int32} {t_all : Nat → Int32} {res : Int32 × Int32} (HR : ∀ (pc : Nat) (H : Heap) (locs : List Loc) (ls : Array Slot), decode cX11_shaken pc = .ok (.ireturn, 1) → va_P D vwCl (w_X11_shaken K g_t res.2 t_undos t_reached t_length t_begin t_sort t_value t_word t_wrongAt t_badAt t_bad t_read t_pictured t_x t_all) H → va_D A (w_X11_shaken K g_t res.2 t_undos t_reached t_length t_begin t_sort t_value t_word t_wrongAt t_badAt t_bad t_read t_pictured t_x t_all) → va_S A s.heap H locs → W p l e rmX11_shaken s m args below meth c H locs 0 0 Q (F0 m pc ls [.int res.1])) {k_21 : Int32 → Int32 → Int32 → Int32 → Int32 → Option (Int32 × Int32)} (HK_21 : ∀ (t_raised : Int32) (x1 : Int32) (x2 : Int32) (x3 : Int32) (x4 : Int32) (H : Heap) (locs : List Loc) (ls : Array Slot), va_P D vwCl (w_X11_shaken K g_t t_raised t_undos t_reached t_length t_begin t_sort t_value t_word t_wrongAt t_badAt t_bad t_read t_pictured t_x t_all) H → va_D A (w_X11_shaken K g_t t_raised t_undos t_reached t_length t_begin t_sort t_value t_word t_wrongAt t_badAt t_bad t_read t_pictured t_x t_all) → va_S A s.heap H locs → lv_has ls 9 [(0, .ref (g_t 0)), (1, .int x1), (2, .int x2), (3, .int x3), (4, .int x4)] → k_21 t_raised x1 x2 x3 x4 = some res → W p l e rmX11_shaken s m args below meth c H locs 0 0 Q (F0 m 21 ls [])) {k_39 : Int32 → Int32 → Int32 → Int32 → Int32 → Int32 → Int32 → Option (Int32 × Int32)} (HK_39 : ∀ (t_raised : Int32) (x1 : Int32) (x2 : Int32) (x3 : Int32) (x4 : Int32) (x5 : Int32) (x6 : Int32) (H : Heap) (locs : List Loc) (ls : Array Slot), va_P D vwCl (w_X11_shaken K g_t t_raised t_undos t_reached t_length t_begin t_sort t_value t_word t_wrongAt t_badAt t_bad t_read t_pictured t_x t_all) H → va_D A (w_X11_shaken K g_t t_raised t_undos t_reached t_length t_begin t_sort t_value t_word t_wrongAt t_badAt t_bad t_read t_pictured t_x t_all) → va_S A s.heap H locs → lv_has ls 9 [(0, .ref (g_t 0)), (1, .int x1), (2, .int x2), (3, .int x3), (4, .int x4), (5, .int x5), (6, .int x6)] → k_39 t_raised x1 x2 x3 x4 x5 x6 = some res → W p l e rmX11_shaken s m args below meth c H locs 0 0 Q (F0 m 39 ls [])) :
    ∀ (t_raised : Int32) (x1 : Int32) (x2 : Int32) (x3 : Int32) (x4 : Int32) (x5 : Int32) (x6 : Int32) (x7 : Int32) (H : Heap) (locs : List Loc) (ls : Array Slot), va_P D vwCl (w_X11_shaken K g_t t_raised t_undos t_reached t_length t_begin t_sort t_value t_word t_wrongAt t_badAt t_bad t_read t_pictured t_x t_all) H → va_D A (w_X11_shaken K g_t t_raised t_undos t_reached t_length t_begin t_sort t_value t_word t_wrongAt t_badAt t_bad t_read t_pictured t_x t_all) → va_S A s.heap H locs → lv_has ls 9 [(0, .ref (g_t 0)), (1, .int x1), (2, .int x2), (3, .int x3), (4, .int x4), (5, .int x5), (6, .int x6), (7, .int x7)] → J_X11_shaken_97 t_all k_21 k_39 t_raised x1 x2 x3 x4 x5 x6 x7 = some res → W p l e rmX11_shaken s m args below meth c H locs 0 0 Q (F0 m 97 ls []) := by
  obtain ⟨⟨hx, hb, hml, hown, hts⟩, hK, -⟩ := id C0
  intro t_raised x1 x2 x3 x4 x5 x6 x7 H locs ls hP hD hS hl hF
  unfold J_X11_shaken_97 at hF
  refine lv_iload hx hb dX11_shaken_97 (lv_at hl 5 rfl) ?_
  refine lv_iload_n hx hb dX11_shaken_99 rfl (lv_at hl 2 rfl) ?_
  refine lv_if_eq (tgt := 111) hx hb dX11_shaken_100 (by decide) (fun c_1 => ?_) (fun c_1 => ?_)
  · have hF := it_pos c_1 hF
    refine lv_iload hx hb dX11_shaken_111 (lv_at hl 7 rfl) ?_
    refine lv_iconst (v := 2) hx hb dX11_shaken_113 (by decide) ?_
    refine lv_iload_n hx hb dX11_shaken_114 rfl (lv_at hl 1 rfl) ?_
    refine lv_imul hx hb dX11_shaken_115 ?_
    refine lv_iconst (v := 1) hx hb dX11_shaken_116 (by decide) ?_
    refine lv_iadd hx hb dX11_shaken_117 ?_
    refine lv_icmp_ne (tgt := 125) hx hb dX11_shaken_118 (by decide) (fun c_2 => ?_) (fun c_2 => ?_)
    · have hF := it_neg c_2 hF
      refine lv_iconst (v := 0) hx hb dX11_shaken_125 (by decide) ?_
      refine lv_iadd hx hb dX11_shaken_126 ?_
      refine lv_istore (lv' := [(5, .int (x5 + (0 : Int32))), (0, .ref (g_t 0)), (1, .int x1), (2, .int x2), (3, .int x3), (4, .int x4), (6, .int x6), (7, .int x7)]) hx hb dX11_shaken_127 hl (by decide) rfl (fun ls hl => ?_)
      refine lv_iinc (v := (x6 + (1 : Int32))) (lv' := [(6, .int (x6 + (1 : Int32))), (5, .int (x5 + (0 : Int32))), (0, .ref (g_t 0)), (1, .int x1), (2, .int x2), (3, .int x3), (4, .int x4), (7, .int x7)]) hx hb dX11_shaken_129 hl (k := 6) rfl (congrArg (fun z => x6 + z) (by decide)) (by decide) rfl (fun ls hl => ?_)
      refine lv_goto (tgt := 39) hx hb dX11_shaken_132 (by decide) ?_
      exact HK_39 t_raised x1 x2 x3 x4 (x5 + (0 : Int32)) (x6 + (1 : Int32)) H locs ls hP hD hS (lv_sub hl [2, 3, 4, 5, 6, 1, 0] rfl) hF
    · have hF := it_pos c_2 hF
      refine lv_iconst (v := 1) hx hb dX11_shaken_121 (by decide) ?_
      refine lv_goto (tgt := 126) hx hb dX11_shaken_122 (by decide) ?_
      refine lv_iadd hx hb dX11_shaken_126 ?_
      refine lv_istore (lv' := [(5, .int (x5 + (1 : Int32))), (0, .ref (g_t 0)), (1, .int x1), (2, .int x2), (3, .int x3), (4, .int x4), (6, .int x6), (7, .int x7)]) hx hb dX11_shaken_127 hl (by decide) rfl (fun ls hl => ?_)
      refine lv_iinc (v := (x6 + (1 : Int32))) (lv' := [(6, .int (x6 + (1 : Int32))), (5, .int (x5 + (1 : Int32))), (0, .ref (g_t 0)), (1, .int x1), (2, .int x2), (3, .int x3), (4, .int x4), (7, .int x7)]) hx hb dX11_shaken_129 hl (k := 6) rfl (congrArg (fun z => x6 + z) (by decide)) (by decide) rfl (fun ls hl => ?_)
      refine lv_goto (tgt := 39) hx hb dX11_shaken_132 (by decide) ?_
      exact HK_39 t_raised x1 x2 x3 x4 (x5 + (1 : Int32)) (x6 + (1 : Int32)) H locs ls hP hD hS (lv_sub hl [2, 3, 4, 5, 6, 1, 0] rfl) hF
  · have hF := it_neg c_1 hF
    refine lv_iload hx hb dX11_shaken_103 (lv_at hl 7 rfl) ?_
    refine lv_if_le (tgt := 125) hx hb dX11_shaken_105 (by decide) (fun c_3 => ?_) (fun c_3 => ?_)
    · have hF := it_pos c_3 hF
      refine lv_iconst (v := 0) hx hb dX11_shaken_125 (by decide) ?_
      refine lv_iadd hx hb dX11_shaken_126 ?_
      refine lv_istore (lv' := [(5, .int (x5 + (0 : Int32))), (0, .ref (g_t 0)), (1, .int x1), (2, .int x2), (3, .int x3), (4, .int x4), (6, .int x6), (7, .int x7)]) hx hb dX11_shaken_127 hl (by decide) rfl (fun ls hl => ?_)
      refine lv_iinc (v := (x6 + (1 : Int32))) (lv' := [(6, .int (x6 + (1 : Int32))), (5, .int (x5 + (0 : Int32))), (0, .ref (g_t 0)), (1, .int x1), (2, .int x2), (3, .int x3), (4, .int x4), (7, .int x7)]) hx hb dX11_shaken_129 hl (k := 6) rfl (congrArg (fun z => x6 + z) (by decide)) (by decide) rfl (fun ls hl => ?_)
      refine lv_goto (tgt := 39) hx hb dX11_shaken_132 (by decide) ?_
      exact HK_39 t_raised x1 x2 x3 x4 (x5 + (0 : Int32)) (x6 + (1 : Int32)) H locs ls hP hD hS (lv_sub hl [2, 3, 4, 5, 6, 1, 0] rfl) hF
    · have hF := it_neg c_3 hF
      refine lv_goto (tgt := 121) hx hb dX11_shaken_108 (by decide) ?_
      refine lv_iconst (v := 1) hx hb dX11_shaken_121 (by decide) ?_
      refine lv_goto (tgt := 126) hx hb dX11_shaken_122 (by decide) ?_
      refine lv_iadd hx hb dX11_shaken_126 ?_
      refine lv_istore (lv' := [(5, .int (x5 + (1 : Int32))), (0, .ref (g_t 0)), (1, .int x1), (2, .int x2), (3, .int x3), (4, .int x4), (6, .int x6), (7, .int x7)]) hx hb dX11_shaken_127 hl (by decide) rfl (fun ls hl => ?_)
      refine lv_iinc (v := (x6 + (1 : Int32))) (lv' := [(6, .int (x6 + (1 : Int32))), (5, .int (x5 + (1 : Int32))), (0, .ref (g_t 0)), (1, .int x1), (2, .int x2), (3, .int x3), (4, .int x4), (7, .int x7)]) hx hb dX11_shaken_129 hl (k := 6) rfl (congrArg (fun z => x6 + z) (by decide)) (by decide) rfl (fun ls hl => ?_)
      refine lv_goto (tgt := 39) hx hb dX11_shaken_132 (by decide) ?_
      exact HK_39 t_raised x1 x2 x3 x4 (x5 + (1 : Int32)) (x6 + (1 : Int32)) H locs ls hP hD hS (lv_sub hl [2, 3, 4, 5, 6, 1, 0] rfl) hF
def L_X11_shaken_57 (t_all : Nat → Int32) (k_21 : Int32 → Int32 → Int32 → Int32 → Int32 → Option (Int32 × Int32)) (k_39 : Int32 → Int32 → Int32 → Int32 → Int32 → Int32 → Int32 → Option (Int32 × Int32)) : Nat → Int32 → Int32 → Int32 → Int32 → Int32 → Int32 → Int32 → Int32 → Int32 → Option (Int32 × Int32)
  | 0, _, _, _, _, _, _, _, _, _ => none
  | n_ + 1, t_raised, x1, x2, x3, x4, x5, x6, x7, x8 =>
    if x1 < x8 then (J_X11_shaken_97 t_all k_21 k_39 t_raised x1 x2 x3 x4 x5 x6 x7) else ((F_X11_gapAt t_all x6).bind fun r_2 => ((F_X11_isBlind t_all x4 (r_2 + x8)).bind fun r_4 => (if r_4 = (0 : Int32) then (L_X11_shaken_57 t_all k_21 k_39 n_ t_raised x1 x2 x3 x4 x5 x6 (x7 + (1 : Int32)) (x8 + (1 : Int32))) else (L_X11_shaken_57 t_all k_21 k_39 n_ t_raised x1 x2 x3 x4 x5 x6 (x7 + (0 : Int32)) (x8 + (1 : Int32))))))
set_option maxHeartbeats 4000000 in
set_option maxRecDepth 100000 in
theorem w_X11_shaken_57 {p : Program} {l : Launch} {e : Env} {s : State} {m : MethodId} {args : Array Value} {below : List Frame} {meth : Method} {c : Code} {D : va_G} {K : Nat → ClassId} {A : Nat → Prop} {Q : State → Prop} (C0 : cx_ p s m args c cX11_shaken 9 RX11 wsX11_shaken D K A) {g_t : Nat → Nat} {t_undos : Int32} {t_reached : Int32} {t_length : Int32} {t_begin : Int32} {t_sort : Int32} {t_value : Int32} {t_word : Int64} {t_wrongAt : Int32} {t_badAt : Int32} {t_bad : Int32} {t_read : Int32} {t_pictured : Int32} {t_x : Int32} {t_all : Nat → Int32} {res : Int32 × Int32} (HR : ∀ (pc : Nat) (H : Heap) (locs : List Loc) (ls : Array Slot), decode cX11_shaken pc = .ok (.ireturn, 1) → va_P D vwCl (w_X11_shaken K g_t res.2 t_undos t_reached t_length t_begin t_sort t_value t_word t_wrongAt t_badAt t_bad t_read t_pictured t_x t_all) H → va_D A (w_X11_shaken K g_t res.2 t_undos t_reached t_length t_begin t_sort t_value t_word t_wrongAt t_badAt t_bad t_read t_pictured t_x t_all) → va_S A s.heap H locs → W p l e rmX11_shaken s m args below meth c H locs 0 0 Q (F0 m pc ls [.int res.1])) {k_21 : Int32 → Int32 → Int32 → Int32 → Int32 → Option (Int32 × Int32)} (HK_21 : ∀ (t_raised : Int32) (x1 : Int32) (x2 : Int32) (x3 : Int32) (x4 : Int32) (H : Heap) (locs : List Loc) (ls : Array Slot), va_P D vwCl (w_X11_shaken K g_t t_raised t_undos t_reached t_length t_begin t_sort t_value t_word t_wrongAt t_badAt t_bad t_read t_pictured t_x t_all) H → va_D A (w_X11_shaken K g_t t_raised t_undos t_reached t_length t_begin t_sort t_value t_word t_wrongAt t_badAt t_bad t_read t_pictured t_x t_all) → va_S A s.heap H locs → lv_has ls 9 [(0, .ref (g_t 0)), (1, .int x1), (2, .int x2), (3, .int x3), (4, .int x4)] → k_21 t_raised x1 x2 x3 x4 = some res → W p l e rmX11_shaken s m args below meth c H locs 0 0 Q (F0 m 21 ls [])) {k_39 : Int32 → Int32 → Int32 → Int32 → Int32 → Int32 → Int32 → Option (Int32 × Int32)} (HK_39 : ∀ (t_raised : Int32) (x1 : Int32) (x2 : Int32) (x3 : Int32) (x4 : Int32) (x5 : Int32) (x6 : Int32) (H : Heap) (locs : List Loc) (ls : Array Slot), va_P D vwCl (w_X11_shaken K g_t t_raised t_undos t_reached t_length t_begin t_sort t_value t_word t_wrongAt t_badAt t_bad t_read t_pictured t_x t_all) H → va_D A (w_X11_shaken K g_t t_raised t_undos t_reached t_length t_begin t_sort t_value t_word t_wrongAt t_badAt t_bad t_read t_pictured t_x t_all) → va_S A s.heap H locs → lv_has ls 9 [(0, .ref (g_t 0)), (1, .int x1), (2, .int x2), (3, .int x3), (4, .int x4), (5, .int x5), (6, .int x6)] → k_39 t_raised x1 x2 x3 x4 x5 x6 = some res → W p l e rmX11_shaken s m args below meth c H locs 0 0 Q (F0 m 39 ls [])) :
    ∀ (n_ : Nat) (t_raised : Int32) (x1 : Int32) (x2 : Int32) (x3 : Int32) (x4 : Int32) (x5 : Int32) (x6 : Int32) (x7 : Int32) (x8 : Int32) (H : Heap) (locs : List Loc) (ls : Array Slot), va_P D vwCl (w_X11_shaken K g_t t_raised t_undos t_reached t_length t_begin t_sort t_value t_word t_wrongAt t_badAt t_bad t_read t_pictured t_x t_all) H → va_D A (w_X11_shaken K g_t t_raised t_undos t_reached t_length t_begin t_sort t_value t_word t_wrongAt t_badAt t_bad t_read t_pictured t_x t_all) → va_S A s.heap H locs → lv_has ls 9 [(0, .ref (g_t 0)), (1, .int x1), (2, .int x2), (3, .int x3), (4, .int x4), (5, .int x5), (6, .int x6), (7, .int x7), (8, .int x8)] → L_X11_shaken_57 t_all k_21 k_39 n_ t_raised x1 x2 x3 x4 x5 x6 x7 x8 = some res → W p l e rmX11_shaken s m args below meth c H locs 0 0 Q (F0 m 57 ls []) := by
  obtain ⟨⟨hx, hb, hml, hown, hts⟩, hK, -⟩ := id C0
  intro n_
  induction n_ with
  | zero =>
    intro t_raised x1 x2 x3 x4 x5 x6 x7 x8 H locs ls hP hD hS hl hF
    exact no_s (show (none : Option (Int32 × Int32)) = some res from hF)
  | succ n_ ih =>
    intro t_raised x1 x2 x3 x4 x5 x6 x7 x8 H locs ls hP hD hS hl hF
    rw [L_X11_shaken_57] at hF
    refine lv_iload hx hb dX11_shaken_57 (lv_at hl 8 rfl) ?_
    refine lv_iload_n hx hb dX11_shaken_59 rfl (lv_at hl 1 rfl) ?_
    refine lv_icmp_gt (tgt := 97) hx hb dX11_shaken_60 (by decide) (fun c_1 => ?_) (fun c_1 => ?_)
    · have hF := it_pos c_1 hF
      exact w_X11_shaken_97 C0 HR HK_21 HK_39 t_raised x1 x2 x3 x4 x5 x6 x7 H locs ls hP hD hS (lv_sub hl [0, 1, 2, 3, 4, 5, 6, 7] rfl) hF
    · have hF := it_neg c_1 hF
      refine lv_iload hx hb dX11_shaken_63 (lv_at hl 7 rfl) ?_
      refine lv_aload_n hx hb dX11_shaken_65 rfl (lv_at hl 0 rfl) ?_
      refine lv_iload hx hb dX11_shaken_66 (lv_at hl 4 rfl) ?_
      refine lv_aload_n hx hb dX11_shaken_68 rfl (lv_at hl 0 rfl) ?_
      refine lv_iload hx hb dX11_shaken_69 (lv_at hl 6 rfl) ?_
      obtain ⟨r_2, hc_3, hF⟩ := bn_some hF
      refine xc_i (wn := (w_X11_shaken K g_t t_raised t_undos t_reached t_length t_begin t_sort t_value t_word t_wrongAt t_badAt t_bad t_read t_pictured t_x t_all)) hP hD hS C0.2.2.1 [0, 1] [] [0, 1] rfl rfl (by decide) (by decide) rfl (by decide) (va_runV (As := [.int x6]) (rest := [.int x4, .ref (g_t 0), .int x7]) C0.1 (c_X11_gapAt l D K g_t t_raised t_undos t_reached t_length t_begin t_sort t_value t_word t_wrongAt t_badAt t_bad t_read t_pictured t_x t_all x6 r_2 hc_3 H.size) (cwV 1 hts gX11_shaken_X11_gapAt rfl rfl rfl (by decide +kernel) ⟨Nat.le_of_ble_eq_true rfl, Nat.le_of_ble_eq_true rfl⟩) (xp_V C0.2 hP hD hS [0, 1] rfl (by decide) 10 0 rfl rfl rfl) rfl rfl hl.1 rfl (lv_room (Nat.le_of_ble_eq_true rfl)) dX11_shaken_71 ⟨Nat.le_of_ble_eq_true rfl, Nat.le_of_ble_eq_true rfl⟩) (fun H locs hP hD hS => ?_)
      refine lv_iload hx hb dX11_shaken_74 (lv_at hl 8 rfl) ?_
      refine lv_iadd hx hb dX11_shaken_76 ?_
      obtain ⟨r_4, hc_5, hF⟩ := bn_some hF
      refine xc_i (wn := (w_X11_shaken K g_t t_raised t_undos t_reached t_length t_begin t_sort t_value t_word t_wrongAt t_badAt t_bad t_read t_pictured t_x t_all)) hP hD hS C0.2.2.1 [0, 1] [] [0, 1] rfl rfl (by decide) (by decide) rfl (by decide) (va_runV (As := [.int x4, .int (r_2 + x8)]) (rest := [.int x7]) C0.1 (c_X11_isBlind l D K g_t t_raised t_undos t_reached t_length t_begin t_sort t_value t_word t_wrongAt t_badAt t_bad t_read t_pictured t_x t_all x4 (r_2 + x8) r_4 hc_5 H.size) (cwV 2 hts gX11_shaken_X11_isBlind rfl rfl rfl (by decide +kernel) ⟨Nat.le_of_ble_eq_true rfl, Nat.le_of_ble_eq_true rfl⟩) (xp_V C0.2 hP hD hS [0, 1] rfl (by decide) 10 0 rfl rfl rfl) rfl rfl hl.1 rfl (lv_room (Nat.le_of_ble_eq_true rfl)) dX11_shaken_77 ⟨Nat.le_of_ble_eq_true rfl, Nat.le_of_ble_eq_true rfl⟩) (fun H locs hP hD hS => ?_)
      refine lv_if_eq (tgt := 87) hx hb dX11_shaken_80 (by decide) (fun c_6 => ?_) (fun c_6 => ?_)
      · have hF := it_pos c_6 hF
        refine lv_iconst (v := 1) hx hb dX11_shaken_87 (by decide) ?_
        refine lv_iadd hx hb dX11_shaken_88 ?_
        refine lv_istore (lv' := [(7, .int (x7 + (1 : Int32))), (0, .ref (g_t 0)), (1, .int x1), (2, .int x2), (3, .int x3), (4, .int x4), (5, .int x5), (6, .int x6), (8, .int x8)]) hx hb dX11_shaken_89 hl (by decide) rfl (fun ls hl => ?_)
        refine lv_iinc (v := (x8 + (1 : Int32))) (lv' := [(8, .int (x8 + (1 : Int32))), (7, .int (x7 + (1 : Int32))), (0, .ref (g_t 0)), (1, .int x1), (2, .int x2), (3, .int x3), (4, .int x4), (5, .int x5), (6, .int x6)]) hx hb dX11_shaken_91 hl (k := 8) rfl (congrArg (fun z => x8 + z) (by decide)) (by decide) rfl (fun ls hl => ?_)
        refine lv_goto (tgt := 57) hx hb dX11_shaken_94 (by decide) ?_
        exact ih t_raised x1 x2 x3 x4 x5 x6 (x7 + (1 : Int32)) (x8 + (1 : Int32)) H locs ls hP hD hS (lv_sub hl [2, 3, 4, 5, 6, 7, 8, 1, 0] rfl) hF
      · have hF := it_neg c_6 hF
        refine lv_iconst (v := 0) hx hb dX11_shaken_83 (by decide) ?_
        refine lv_goto (tgt := 88) hx hb dX11_shaken_84 (by decide) ?_
        refine lv_iadd hx hb dX11_shaken_88 ?_
        refine lv_istore (lv' := [(7, .int (x7 + (0 : Int32))), (0, .ref (g_t 0)), (1, .int x1), (2, .int x2), (3, .int x3), (4, .int x4), (5, .int x5), (6, .int x6), (8, .int x8)]) hx hb dX11_shaken_89 hl (by decide) rfl (fun ls hl => ?_)
        refine lv_iinc (v := (x8 + (1 : Int32))) (lv' := [(8, .int (x8 + (1 : Int32))), (7, .int (x7 + (0 : Int32))), (0, .ref (g_t 0)), (1, .int x1), (2, .int x2), (3, .int x3), (4, .int x4), (5, .int x5), (6, .int x6)]) hx hb dX11_shaken_91 hl (k := 8) rfl (congrArg (fun z => x8 + z) (by decide)) (by decide) rfl (fun ls hl => ?_)
        refine lv_goto (tgt := 57) hx hb dX11_shaken_94 (by decide) ?_
        exact ih t_raised x1 x2 x3 x4 x5 x6 (x7 + (0 : Int32)) (x8 + (1 : Int32)) H locs ls hP hD hS (lv_sub hl [2, 3, 4, 5, 6, 7, 8, 1, 0] rfl) hF
def J_X11_shaken_135 (t_all : Nat → Int32) (k_21 : Int32 → Int32 → Int32 → Int32 → Int32 → Option (Int32 × Int32)) (t_raised : Int32) (x1 : Int32) (x2 : Int32) (x3 : Int32) (x4 : Int32) (x5 : Int32) : Option (Int32 × Int32) :=
  if x5 < (t_all 10) then (k_21 t_raised x1 x2 (x3 + (0 : Int32)) (x4 + (1 : Int32))) else (k_21 t_raised x1 x2 (x3 + (1 : Int32)) (x4 + (1 : Int32)))
set_option maxHeartbeats 4000000 in
set_option maxRecDepth 100000 in
theorem w_X11_shaken_135 {p : Program} {l : Launch} {e : Env} {s : State} {m : MethodId} {args : Array Value} {below : List Frame} {meth : Method} {c : Code} {D : va_G} {K : Nat → ClassId} {A : Nat → Prop} {Q : State → Prop} (C0 : cx_ p s m args c cX11_shaken 9 RX11 wsX11_shaken D K A) {g_t : Nat → Nat} {t_undos : Int32} {t_reached : Int32} {t_length : Int32} {t_begin : Int32} {t_sort : Int32} {t_value : Int32} {t_word : Int64} {t_wrongAt : Int32} {t_badAt : Int32} {t_bad : Int32} {t_read : Int32} {t_pictured : Int32} {t_x : Int32} {t_all : Nat → Int32} {res : Int32 × Int32} (HR : ∀ (pc : Nat) (H : Heap) (locs : List Loc) (ls : Array Slot), decode cX11_shaken pc = .ok (.ireturn, 1) → va_P D vwCl (w_X11_shaken K g_t res.2 t_undos t_reached t_length t_begin t_sort t_value t_word t_wrongAt t_badAt t_bad t_read t_pictured t_x t_all) H → va_D A (w_X11_shaken K g_t res.2 t_undos t_reached t_length t_begin t_sort t_value t_word t_wrongAt t_badAt t_bad t_read t_pictured t_x t_all) → va_S A s.heap H locs → W p l e rmX11_shaken s m args below meth c H locs 0 0 Q (F0 m pc ls [.int res.1])) {k_21 : Int32 → Int32 → Int32 → Int32 → Int32 → Option (Int32 × Int32)} (HK_21 : ∀ (t_raised : Int32) (x1 : Int32) (x2 : Int32) (x3 : Int32) (x4 : Int32) (H : Heap) (locs : List Loc) (ls : Array Slot), va_P D vwCl (w_X11_shaken K g_t t_raised t_undos t_reached t_length t_begin t_sort t_value t_word t_wrongAt t_badAt t_bad t_read t_pictured t_x t_all) H → va_D A (w_X11_shaken K g_t t_raised t_undos t_reached t_length t_begin t_sort t_value t_word t_wrongAt t_badAt t_bad t_read t_pictured t_x t_all) → va_S A s.heap H locs → lv_has ls 9 [(0, .ref (g_t 0)), (1, .int x1), (2, .int x2), (3, .int x3), (4, .int x4)] → k_21 t_raised x1 x2 x3 x4 = some res → W p l e rmX11_shaken s m args below meth c H locs 0 0 Q (F0 m 21 ls [])) :
    ∀ (t_raised : Int32) (x1 : Int32) (x2 : Int32) (x3 : Int32) (x4 : Int32) (x5 : Int32) (H : Heap) (locs : List Loc) (ls : Array Slot), va_P D vwCl (w_X11_shaken K g_t t_raised t_undos t_reached t_length t_begin t_sort t_value t_word t_wrongAt t_badAt t_bad t_read t_pictured t_x t_all) H → va_D A (w_X11_shaken K g_t t_raised t_undos t_reached t_length t_begin t_sort t_value t_word t_wrongAt t_badAt t_bad t_read t_pictured t_x t_all) → va_S A s.heap H locs → lv_has ls 9 [(0, .ref (g_t 0)), (1, .int x1), (2, .int x2), (3, .int x3), (4, .int x4), (5, .int x5)] → J_X11_shaken_135 t_all k_21 t_raised x1 x2 x3 x4 x5 = some res → W p l e rmX11_shaken s m args below meth c H locs 0 0 Q (F0 m 135 ls []) := by
  obtain ⟨⟨hx, hb, hml, hown, hts⟩, hK, -⟩ := id C0
  intro t_raised x1 x2 x3 x4 x5 H locs ls hP hD hS hl hF
  unfold J_X11_shaken_135 at hF
  refine lv_iload_n hx hb dX11_shaken_135 rfl (lv_at hl 3 rfl) ?_
  refine lv_iload hx hb dX11_shaken_136 (lv_at hl 5 rfl) ?_
  refine lv_aload_n hx hb dX11_shaken_138 rfl (lv_at hl 0 rfl) ?_
  refine va_get (D := D) (ci := 10) (v := .ref (g_t 2)) (C := RX11) (T := TX11) (N := 30) hx hb hts iw_X11_shaken_X11 hown hK hP 0 rfl rfl 1 (by decide) (hts _ fl_X11_shaken_7) (fun _ h9 => h9) rfl dX11_shaken_139 ?_
  refine lv_bipush (v := 10) hx hb dX11_shaken_142 (by decide) ?_
  refine xl_i (f := t_all) hx hb hK hP 1 0 rfl rfl (k := 10) (by decide) (in_v (by decide)) dX11_shaken_144 ?_
  refine lv_icmp_lt (tgt := 152) hx hb dX11_shaken_145 (by decide) (fun c_1 => ?_) (fun c_1 => ?_)
  · have hF := it_pos c_1 hF
    refine lv_iconst (v := 0) hx hb dX11_shaken_152 (by decide) ?_
    refine lv_iadd hx hb dX11_shaken_153 ?_
    refine lv_istore_n (lv' := [(3, .int (x3 + (0 : Int32))), (0, .ref (g_t 0)), (1, .int x1), (2, .int x2), (4, .int x4), (5, .int x5)]) hx hb dX11_shaken_154 rfl hl (by decide) rfl (fun ls hl => ?_)
    refine lv_iinc (v := (x4 + (1 : Int32))) (lv' := [(4, .int (x4 + (1 : Int32))), (3, .int (x3 + (0 : Int32))), (0, .ref (g_t 0)), (1, .int x1), (2, .int x2), (5, .int x5)]) hx hb dX11_shaken_155 hl (k := 4) rfl (congrArg (fun z => x4 + z) (by decide)) (by decide) rfl (fun ls hl => ?_)
    refine lv_goto (tgt := 21) hx hb dX11_shaken_158 (by decide) ?_
    exact HK_21 t_raised x1 x2 (x3 + (0 : Int32)) (x4 + (1 : Int32)) H locs ls hP hD hS (lv_sub hl [2, 3, 4, 1, 0] rfl) hF
  · have hF := it_neg c_1 hF
    refine lv_iconst (v := 1) hx hb dX11_shaken_148 (by decide) ?_
    refine lv_goto (tgt := 153) hx hb dX11_shaken_149 (by decide) ?_
    refine lv_iadd hx hb dX11_shaken_153 ?_
    refine lv_istore_n (lv' := [(3, .int (x3 + (1 : Int32))), (0, .ref (g_t 0)), (1, .int x1), (2, .int x2), (4, .int x4), (5, .int x5)]) hx hb dX11_shaken_154 rfl hl (by decide) rfl (fun ls hl => ?_)
    refine lv_iinc (v := (x4 + (1 : Int32))) (lv' := [(4, .int (x4 + (1 : Int32))), (3, .int (x3 + (1 : Int32))), (0, .ref (g_t 0)), (1, .int x1), (2, .int x2), (5, .int x5)]) hx hb dX11_shaken_155 hl (k := 4) rfl (congrArg (fun z => x4 + z) (by decide)) (by decide) rfl (fun ls hl => ?_)
    refine lv_goto (tgt := 21) hx hb dX11_shaken_158 (by decide) ?_
    exact HK_21 t_raised x1 x2 (x3 + (1 : Int32)) (x4 + (1 : Int32)) H locs ls hP hD hS (lv_sub hl [2, 3, 4, 1, 0] rfl) hF
def L_X11_shaken_39 (t_all : Nat → Int32) (k_21 : Int32 → Int32 → Int32 → Int32 → Int32 → Option (Int32 × Int32)) : Nat → Int32 → Int32 → Int32 → Int32 → Int32 → Int32 → Int32 → Option (Int32 × Int32)
  | 0, _, _, _, _, _, _, _ => none
  | n_ + 1, t_raised, x1, x2, x3, x4, x5, x6 =>
    if (t_all 0) ≤ x6 then (J_X11_shaken_135 t_all k_21 t_raised x1 x2 x3 x4 x5) else (L_X11_shaken_57 t_all k_21 (L_X11_shaken_39 t_all k_21 n_) fu_ t_raised x1 x2 x3 x4 x5 x6 (0 : Int32) (-x1))
set_option maxHeartbeats 4000000 in
set_option maxRecDepth 100000 in
theorem w_X11_shaken_39 {p : Program} {l : Launch} {e : Env} {s : State} {m : MethodId} {args : Array Value} {below : List Frame} {meth : Method} {c : Code} {D : va_G} {K : Nat → ClassId} {A : Nat → Prop} {Q : State → Prop} (C0 : cx_ p s m args c cX11_shaken 9 RX11 wsX11_shaken D K A) {g_t : Nat → Nat} {t_undos : Int32} {t_reached : Int32} {t_length : Int32} {t_begin : Int32} {t_sort : Int32} {t_value : Int32} {t_word : Int64} {t_wrongAt : Int32} {t_badAt : Int32} {t_bad : Int32} {t_read : Int32} {t_pictured : Int32} {t_x : Int32} {t_all : Nat → Int32} {res : Int32 × Int32} (HR : ∀ (pc : Nat) (H : Heap) (locs : List Loc) (ls : Array Slot), decode cX11_shaken pc = .ok (.ireturn, 1) → va_P D vwCl (w_X11_shaken K g_t res.2 t_undos t_reached t_length t_begin t_sort t_value t_word t_wrongAt t_badAt t_bad t_read t_pictured t_x t_all) H → va_D A (w_X11_shaken K g_t res.2 t_undos t_reached t_length t_begin t_sort t_value t_word t_wrongAt t_badAt t_bad t_read t_pictured t_x t_all) → va_S A s.heap H locs → W p l e rmX11_shaken s m args below meth c H locs 0 0 Q (F0 m pc ls [.int res.1])) {k_21 : Int32 → Int32 → Int32 → Int32 → Int32 → Option (Int32 × Int32)} (HK_21 : ∀ (t_raised : Int32) (x1 : Int32) (x2 : Int32) (x3 : Int32) (x4 : Int32) (H : Heap) (locs : List Loc) (ls : Array Slot), va_P D vwCl (w_X11_shaken K g_t t_raised t_undos t_reached t_length t_begin t_sort t_value t_word t_wrongAt t_badAt t_bad t_read t_pictured t_x t_all) H → va_D A (w_X11_shaken K g_t t_raised t_undos t_reached t_length t_begin t_sort t_value t_word t_wrongAt t_badAt t_bad t_read t_pictured t_x t_all) → va_S A s.heap H locs → lv_has ls 9 [(0, .ref (g_t 0)), (1, .int x1), (2, .int x2), (3, .int x3), (4, .int x4)] → k_21 t_raised x1 x2 x3 x4 = some res → W p l e rmX11_shaken s m args below meth c H locs 0 0 Q (F0 m 21 ls [])) :
    ∀ (n_ : Nat) (t_raised : Int32) (x1 : Int32) (x2 : Int32) (x3 : Int32) (x4 : Int32) (x5 : Int32) (x6 : Int32) (H : Heap) (locs : List Loc) (ls : Array Slot), va_P D vwCl (w_X11_shaken K g_t t_raised t_undos t_reached t_length t_begin t_sort t_value t_word t_wrongAt t_badAt t_bad t_read t_pictured t_x t_all) H → va_D A (w_X11_shaken K g_t t_raised t_undos t_reached t_length t_begin t_sort t_value t_word t_wrongAt t_badAt t_bad t_read t_pictured t_x t_all) → va_S A s.heap H locs → lv_has ls 9 [(0, .ref (g_t 0)), (1, .int x1), (2, .int x2), (3, .int x3), (4, .int x4), (5, .int x5), (6, .int x6)] → L_X11_shaken_39 t_all k_21 n_ t_raised x1 x2 x3 x4 x5 x6 = some res → W p l e rmX11_shaken s m args below meth c H locs 0 0 Q (F0 m 39 ls []) := by
  obtain ⟨⟨hx, hb, hml, hown, hts⟩, hK, -⟩ := id C0
  intro n_
  induction n_ with
  | zero =>
    intro t_raised x1 x2 x3 x4 x5 x6 H locs ls hP hD hS hl hF
    exact no_s (show (none : Option (Int32 × Int32)) = some res from hF)
  | succ n_ ih =>
    intro t_raised x1 x2 x3 x4 x5 x6 H locs ls hP hD hS hl hF
    rw [L_X11_shaken_39] at hF
    refine lv_iload hx hb dX11_shaken_39 (lv_at hl 6 rfl) ?_
    refine lv_aload_n hx hb dX11_shaken_41 rfl (lv_at hl 0 rfl) ?_
    refine va_get (D := D) (ci := 10) (v := .ref (g_t 2)) (C := RX11) (T := TX11) (N := 30) hx hb hts iw_X11_shaken_X11 hown hK hP 0 rfl rfl 1 (by decide) (hts _ fl_X11_shaken_7) (fun _ h9 => h9) rfl dX11_shaken_42 ?_
    refine lv_iconst (v := 0) hx hb dX11_shaken_45 (by decide) ?_
    refine xl_i (f := t_all) hx hb hK hP 1 0 rfl rfl (k := 0) (by decide) (in_v (by decide)) dX11_shaken_46 ?_
    refine lv_icmp_ge (tgt := 135) hx hb dX11_shaken_47 (by decide) (fun c_1 => ?_) (fun c_1 => ?_)
    · have hF := it_pos c_1 hF
      exact w_X11_shaken_135 C0 HR HK_21 t_raised x1 x2 x3 x4 x5 H locs ls hP hD hS (lv_sub hl [0, 1, 2, 3, 4, 5] rfl) hF
    · have hF := it_neg c_1 hF
      refine lv_iconst (v := 0) hx hb dX11_shaken_50 (by decide) ?_
      refine lv_istore (lv' := [(7, .int (0 : Int32)), (0, .ref (g_t 0)), (1, .int x1), (2, .int x2), (3, .int x3), (4, .int x4), (5, .int x5), (6, .int x6)]) hx hb dX11_shaken_51 hl (by decide) rfl (fun ls hl => ?_)
      refine lv_iload_n hx hb dX11_shaken_53 rfl (lv_at hl 2 rfl) ?_
      refine lv_ineg hx hb dX11_shaken_54 ?_
      refine lv_istore (lv' := [(8, .int (-x1)), (7, .int (0 : Int32)), (0, .ref (g_t 0)), (1, .int x1), (2, .int x2), (3, .int x3), (4, .int x4), (5, .int x5), (6, .int x6)]) hx hb dX11_shaken_55 hl (by decide) rfl (fun ls hl => ?_)
      exact w_X11_shaken_57 C0 HR HK_21 ih fu_ t_raised x1 x2 x3 x4 x5 x6 (0 : Int32) (-x1) H locs ls hP hD hS (lv_sub hl [2, 3, 4, 5, 6, 7, 8, 1, 0] rfl) hF
def L_X11_shaken_21 (t_all : Nat → Int32) : Nat → Int32 → Int32 → Int32 → Int32 → Int32 → Option (Int32 × Int32)
  | 0, _, _, _, _, _ => none
  | n_ + 1, t_raised, x1, x2, x3, x4 =>
    if (t_all 11) < x4 then (some (x3, t_raised)) else (L_X11_shaken_39 t_all (L_X11_shaken_21 t_all n_) fu_ t_raised x1 x2 x3 x4 (0 : Int32) (0 : Int32))
set_option maxHeartbeats 4000000 in
set_option maxRecDepth 100000 in
theorem w_X11_shaken_21 {p : Program} {l : Launch} {e : Env} {s : State} {m : MethodId} {args : Array Value} {below : List Frame} {meth : Method} {c : Code} {D : va_G} {K : Nat → ClassId} {A : Nat → Prop} {Q : State → Prop} (C0 : cx_ p s m args c cX11_shaken 9 RX11 wsX11_shaken D K A) {g_t : Nat → Nat} {t_undos : Int32} {t_reached : Int32} {t_length : Int32} {t_begin : Int32} {t_sort : Int32} {t_value : Int32} {t_word : Int64} {t_wrongAt : Int32} {t_badAt : Int32} {t_bad : Int32} {t_read : Int32} {t_pictured : Int32} {t_x : Int32} {t_all : Nat → Int32} {res : Int32 × Int32} (HR : ∀ (pc : Nat) (H : Heap) (locs : List Loc) (ls : Array Slot), decode cX11_shaken pc = .ok (.ireturn, 1) → va_P D vwCl (w_X11_shaken K g_t res.2 t_undos t_reached t_length t_begin t_sort t_value t_word t_wrongAt t_badAt t_bad t_read t_pictured t_x t_all) H → va_D A (w_X11_shaken K g_t res.2 t_undos t_reached t_length t_begin t_sort t_value t_word t_wrongAt t_badAt t_bad t_read t_pictured t_x t_all) → va_S A s.heap H locs → W p l e rmX11_shaken s m args below meth c H locs 0 0 Q (F0 m pc ls [.int res.1]))  :
    ∀ (n_ : Nat) (t_raised : Int32) (x1 : Int32) (x2 : Int32) (x3 : Int32) (x4 : Int32) (H : Heap) (locs : List Loc) (ls : Array Slot), va_P D vwCl (w_X11_shaken K g_t t_raised t_undos t_reached t_length t_begin t_sort t_value t_word t_wrongAt t_badAt t_bad t_read t_pictured t_x t_all) H → va_D A (w_X11_shaken K g_t t_raised t_undos t_reached t_length t_begin t_sort t_value t_word t_wrongAt t_badAt t_bad t_read t_pictured t_x t_all) → va_S A s.heap H locs → lv_has ls 9 [(0, .ref (g_t 0)), (1, .int x1), (2, .int x2), (3, .int x3), (4, .int x4)] → L_X11_shaken_21 t_all n_ t_raised x1 x2 x3 x4 = some res → W p l e rmX11_shaken s m args below meth c H locs 0 0 Q (F0 m 21 ls []) := by
  obtain ⟨⟨hx, hb, hml, hown, hts⟩, hK, -⟩ := id C0
  intro n_
  induction n_ with
  | zero =>
    intro t_raised x1 x2 x3 x4 H locs ls hP hD hS hl hF
    exact no_s (show (none : Option (Int32 × Int32)) = some res from hF)
  | succ n_ ih =>
    intro t_raised x1 x2 x3 x4 H locs ls hP hD hS hl hF
    rw [L_X11_shaken_21] at hF
    refine lv_iload hx hb dX11_shaken_21 (lv_at hl 4 rfl) ?_
    refine lv_aload_n hx hb dX11_shaken_23 rfl (lv_at hl 0 rfl) ?_
    refine va_get (D := D) (ci := 10) (v := .ref (g_t 2)) (C := RX11) (T := TX11) (N := 30) hx hb hts iw_X11_shaken_X11 hown hK hP 0 rfl rfl 1 (by decide) (hts _ fl_X11_shaken_7) (fun _ h9 => h9) rfl dX11_shaken_24 ?_
    refine lv_bipush (v := 11) hx hb dX11_shaken_27 (by decide) ?_
    refine xl_i (f := t_all) hx hb hK hP 1 0 rfl rfl (k := 11) (by decide) (in_v (by decide)) dX11_shaken_29 ?_
    refine lv_icmp_gt (tgt := 161) hx hb dX11_shaken_30 (by decide) (fun c_1 => ?_) (fun c_1 => ?_)
    · have hF := it_pos c_1 hF
      refine lv_iload_n hx hb dX11_shaken_161 rfl (lv_at hl 3 rfl) ?_
      obtain rfl := Option.some.inj hF
      exact HR 162 H locs ls dX11_shaken_162 hP hD hS
    · have hF := it_neg c_1 hF
      refine lv_iconst (v := 0) hx hb dX11_shaken_33 (by decide) ?_
      refine lv_istore (lv' := [(5, .int (0 : Int32)), (0, .ref (g_t 0)), (1, .int x1), (2, .int x2), (3, .int x3), (4, .int x4)]) hx hb dX11_shaken_34 hl (by decide) rfl (fun ls hl => ?_)
      refine lv_iconst (v := 0) hx hb dX11_shaken_36 (by decide) ?_
      refine lv_istore (lv' := [(6, .int (0 : Int32)), (5, .int (0 : Int32)), (0, .ref (g_t 0)), (1, .int x1), (2, .int x2), (3, .int x3), (4, .int x4)]) hx hb dX11_shaken_37 hl (by decide) rfl (fun ls hl => ?_)
      exact w_X11_shaken_39 C0 HR ih fu_ t_raised x1 x2 x3 x4 (0 : Int32) (0 : Int32) H locs ls hP hD hS (lv_sub hl [2, 3, 4, 5, 6, 1, 0] rfl) hF
def F_X11_shaken (t_raised : Int32) (t_all : Nat → Int32) (x1 : Int32) (x2 : Int32) : Option (Int32 × Int32) :=
  (F_X11_in x1 (0 : Int32) (3 : Int32)).bind fun r_1 => (if r_1 = (0 : Int32) then (some ((-1 : Int32), (0 : Int32))) else (L_X11_shaken_21 t_all fu_ (0 : Int32) x1 x2 (0 : Int32) (1 : Int32)))
set_option maxHeartbeats 4000000 in
set_option maxRecDepth 100000 in
theorem c_X11_shaken (l : Launch) (D : va_G) (K : Nat → ClassId) (g_t : Nat → Nat) (t_raised : Int32) (t_undos : Int32) (t_reached : Int32) (t_length : Int32) (t_begin : Int32) (t_sort : Int32) (t_value : Int32) (t_word : Int64) (t_wrongAt : Int32) (t_badAt : Int32) (t_bad : Int32) (t_read : Int32) (t_pictured : Int32) (t_x : Int32) (t_all : Nat → Int32) (x1 : Int32) (x2 : Int32) (res : Int32 × Int32) (hF : F_X11_shaken t_raised t_all x1 x2 = some res) :
    Mi_ l yX11_shaken wsX11_shaken rmX11_shaken D K [.ref (g_t 0), .int x1, .int x2] (w_X11_shaken K g_t t_raised t_undos t_reached t_length t_begin t_sort t_value t_word t_wrongAt t_badAt t_bad t_read t_pictured t_x t_all) (w_X11_shaken K g_t res.2 t_undos t_reached t_length t_begin t_sort t_value t_word t_wrongAt t_badAt t_bad t_read t_pictured t_x t_all) (res.1) := by
  refine en_i (cc := cX11_shaken) (maxL := 9) (own := RX11) (by decide) rfl rfl (Nat.le_of_ble_eq_true rfl) ?_
  intro p e s m args below meth c A Q H locs ls C0 hP hD hS hl HR
  obtain ⟨⟨hx, hb, hml, hown, hts⟩, hK, -⟩ := id C0
  have hl : lv_has ls 9 [(0, .ref (g_t 0)), (1, .int x1), (2, .int x2)] := hl
  unfold F_X11_shaken at hF
  refine lv_aload_n hx hb dX11_shaken_0 rfl (lv_at hl 0 rfl) ?_
  refine lv_iconst (v := 0) hx hb dX11_shaken_1 (by decide) ?_
  refine va_put (D := D) (ci := 10) (v := .int (0 : Int32)) (ty := .int) (C := RX11) (T := TX11) (N := 30) hx hb hts iw_X11_shaken_X11 tyX11 tyX11_ok nmX11 hown hK hP hD hS 0 rfl rfl 0 (by decide) (hts _ fl_X11_shaken_66) (fun _ h9 => h9) rfl (by decide +kernel) rfl rfl (Nat.le_of_ble_eq_true rfl) dX11_shaken_2 (fun H locs hP hD hS => ?_)
  have hP : va_P D vwCl (w_X11_shaken K g_t (0 : Int32) t_undos t_reached t_length t_begin t_sort t_value t_word t_wrongAt t_badAt t_bad t_read t_pictured t_x t_all) H := hP
  have hD : va_D A (w_X11_shaken K g_t (0 : Int32) t_undos t_reached t_length t_begin t_sort t_value t_word t_wrongAt t_badAt t_bad t_read t_pictured t_x t_all) := hD
  refine lv_iload_n hx hb dX11_shaken_5 rfl (lv_at hl 1 rfl) ?_
  refine lv_iconst (v := 0) hx hb dX11_shaken_6 (by decide) ?_
  refine lv_iconst (v := 3) hx hb dX11_shaken_7 (by decide) ?_
  obtain ⟨r_1, hc_2, hF⟩ := bn_some hF
  refine xc_i (wn := (w_X11_shaken K g_t (0 : Int32) t_undos t_reached t_length t_begin t_sort t_value t_word t_wrongAt t_badAt t_bad t_read t_pictured t_x t_all)) hP hD hS C0.2.2.1 [] [0, 1] [0, 1] rfl rfl (by decide) (by decide) rfl (by decide) (va_runS (As := [.int x1, .int (0 : Int32), .int (3 : Int32)]) (rest := []) C0.1 (c_X11_in l D K x1 (0 : Int32) (3 : Int32) r_1 hc_2 H.size) (va_cwS 3 hts gX11_shaken_X11_in rfl rfl rfl (by decide +kernel) ⟨Nat.le_of_ble_eq_true rfl, Nat.le_of_ble_eq_true rfl⟩) (xp_S C0.2 hP hD hS [] rfl (by decide)) rfl rfl hl.1 rfl (lv_room (Nat.le_of_ble_eq_true rfl)) dX11_shaken_8 ⟨Nat.le_of_ble_eq_true rfl, Nat.le_of_ble_eq_true rfl⟩) (fun H locs hP hD hS => ?_)
  refine lv_if_ne (tgt := 16) hx hb dX11_shaken_11 (by decide) (fun c_3 => ?_) (fun c_3 => ?_)
  · have hF := it_neg c_3 hF
    refine lv_iconst (v := 0) hx hb dX11_shaken_16 (by decide) ?_
    refine lv_istore_n (lv' := [(3, .int (0 : Int32)), (0, .ref (g_t 0)), (1, .int x1), (2, .int x2)]) hx hb dX11_shaken_17 rfl hl (by decide) rfl (fun ls hl => ?_)
    refine lv_iconst (v := 1) hx hb dX11_shaken_18 (by decide) ?_
    refine lv_istore (lv' := [(4, .int (1 : Int32)), (3, .int (0 : Int32)), (0, .ref (g_t 0)), (1, .int x1), (2, .int x2)]) hx hb dX11_shaken_19 hl (by decide) rfl (fun ls hl => ?_)
    exact w_X11_shaken_21 C0 HR fu_ (0 : Int32) x1 x2 (0 : Int32) (1 : Int32) H locs ls hP hD hS (lv_sub hl [2, 3, 4, 1, 0] rfl) hF
  · have hF := it_pos c_3 hF
    refine lv_iconst (v := (-1)) hx hb dX11_shaken_14 (by decide) ?_
    obtain rfl := Option.some.inj hF
    exact HR 15 H locs ls dX11_shaken_15 hP hD hS

/-! StaggerRadarModel.target(III)I -/
abbrev rmX11_target : Room := { frames := 1, cells := 0, slots := 0, locals := 22 }
theorem fl_X11_target_7 : Cond.fieldLink RX11 7 "StaggerRadarModel" "all" "[I" ∈ wsX11_target := by decide +kernel
theorem fl_X11_target_66 : Cond.fieldLink RX11 66 "StaggerRadarModel" "raised" "I" ∈ wsX11_target := by decide +kernel
theorem iw_X11_target_X11 : ∀ w ∈ u_ws RX11 TX11 30, w ∈ wsX11_target := by decide +kernel
abbrev w_X11_target (K : Nat → ClassId) (g_t : Nat → Nat) (t_raised : Int32) (t_undos : Int32) (t_reached : Int32) (t_length : Int32) (t_begin : Int32) (t_sort : Int32) (t_value : Int32) (t_word : Int64) (t_wrongAt : Int32) (t_badAt : Int32) (t_bad : Int32) (t_read : Int32) (t_pictured : Int32) (t_x : Int32) (t_all : Nat → Int32) (t_undone : Nat → Int32) : va_W := [((g_t 0), .inr (10, [.int t_raised, .ref (g_t 2), .ref (g_t 3), .ref (g_t 4), .ref (g_t 5), .int t_undos, .int t_reached, .int t_length, .int t_begin, .int t_sort, .int t_value, .long t_word, .int t_wrongAt, .int t_badAt, .int t_bad, .ref (g_t 16), .int t_read, .ref (g_t 18), .ref (g_t 19), .ref (g_t 20), .int t_pictured, .ref (g_t 22), .ref (g_t 23), .ref (g_t 24), .ref (g_t 25), .ref (g_t 26), .int t_x, .ref (g_t 28), .ref (g_t 29), .ref (g_t 30)])), ((g_t 2), .inl (K 0, 500, .inl t_all)), ((g_t 5), .inl (K 0, 776, .inl t_undone))]
def F_X11_target (t_raised : Int32) (t_undos : Int32) (t_all : Nat → Int32) (t_undone : Nat → Int32) (x1 : Int32) (x2 : Int32) (x3 : Int32) : Option (Int32 × Int32 × Int32 × (Nat → Int32) × (Nat → Int32)) :=
  (F_X11_in x1 (0 : Int32) (2999 : Int32)).bind fun r_1 => (if r_1 = (0 : Int32) then (some ((-1 : Int32), (0 : Int32), t_undos, t_all, t_undone)) else ((F_X11_in x2 (-500 : Int32) (500 : Int32)).bind fun r_4 => (if r_4 = (0 : Int32) then (some ((-1 : Int32), (0 : Int32), t_undos, t_all, t_undone)) else ((F_X11_in x3 (1 : Int32) (99 : Int32)).bind fun r_7 => (if r_7 = (0 : Int32) then (some ((-1 : Int32), (0 : Int32), t_undos, t_all, t_undone)) else (if (t_all 13) = (8 : Int32) then (some ((-1 : Int32), (0 : Int32), t_undos, t_all, t_undone)) else ((F_X11_keeps t_undos t_all t_undone).bind fun r_11 => (gd_ (in_b (((14 : Int32) + ((3 : Int32) * (t_all 13))) + (0 : Int32)) 500) (gd_ (in_b (((14 : Int32) + ((3 : Int32) * (t_all 13))) + (1 : Int32)) 500) (gd_ (in_b (((14 : Int32) + ((3 : Int32) * (t_all 13))) + (2 : Int32)) 500) (some ((((upd (upd (upd (upd t_all (((14 : Int32) + ((3 : Int32) * (t_all 13))) + (0 : Int32)).toNatClampNeg ((16 : Int32) * x1)) (((14 : Int32) + ((3 : Int32) * (t_all 13))) + (1 : Int32)).toNatClampNeg x2) (((14 : Int32) + ((3 : Int32) * (t_all 13))) + (2 : Int32)).toNatClampNeg x3) 13 (((upd (upd (upd t_all (((14 : Int32) + ((3 : Int32) * (t_all 13))) + (0 : Int32)).toNatClampNeg ((16 : Int32) * x1)) (((14 : Int32) + ((3 : Int32) * (t_all 13))) + (1 : Int32)).toNatClampNeg x2) (((14 : Int32) + ((3 : Int32) * (t_all 13))) + (2 : Int32)).toNatClampNeg x3) 13) + (1 : Int32))) 13) - (1 : Int32)), (0 : Int32), r_11.1, (upd (upd (upd (upd t_all (((14 : Int32) + ((3 : Int32) * (t_all 13))) + (0 : Int32)).toNatClampNeg ((16 : Int32) * x1)) (((14 : Int32) + ((3 : Int32) * (t_all 13))) + (1 : Int32)).toNatClampNeg x2) (((14 : Int32) + ((3 : Int32) * (t_all 13))) + (2 : Int32)).toNatClampNeg x3) 13 (((upd (upd (upd t_all (((14 : Int32) + ((3 : Int32) * (t_all 13))) + (0 : Int32)).toNatClampNeg ((16 : Int32) * x1)) (((14 : Int32) + ((3 : Int32) * (t_all 13))) + (1 : Int32)).toNatClampNeg x2) (((14 : Int32) + ((3 : Int32) * (t_all 13))) + (2 : Int32)).toNatClampNeg x3) 13) + (1 : Int32))), r_11.2))))))))))))
set_option maxHeartbeats 4000000 in
set_option maxRecDepth 100000 in
theorem c_X11_target (l : Launch) (D : va_G) (K : Nat → ClassId) (g_t : Nat → Nat) (t_raised : Int32) (t_undos : Int32) (t_reached : Int32) (t_length : Int32) (t_begin : Int32) (t_sort : Int32) (t_value : Int32) (t_word : Int64) (t_wrongAt : Int32) (t_badAt : Int32) (t_bad : Int32) (t_read : Int32) (t_pictured : Int32) (t_x : Int32) (t_all : Nat → Int32) (t_undone : Nat → Int32) (x1 : Int32) (x2 : Int32) (x3 : Int32) (res : Int32 × Int32 × Int32 × (Nat → Int32) × (Nat → Int32)) (hF : F_X11_target t_raised t_undos t_all t_undone x1 x2 x3 = some res) :
    Mi_ l yX11_target wsX11_target rmX11_target D K [.ref (g_t 0), .int x1, .int x2, .int x3] (w_X11_target K g_t t_raised t_undos t_reached t_length t_begin t_sort t_value t_word t_wrongAt t_badAt t_bad t_read t_pictured t_x t_all t_undone) (w_X11_target K g_t res.2.1 res.2.2.1 t_reached t_length t_begin t_sort t_value t_word t_wrongAt t_badAt t_bad t_read t_pictured t_x res.2.2.2.1 res.2.2.2.2) (res.1) := by
  refine en_i (cc := cX11_target) (maxL := 5) (own := RX11) (by decide) rfl rfl (Nat.le_of_ble_eq_true rfl) ?_
  intro p e s m args below meth c A Q H locs ls C0 hP hD hS hl HR
  obtain ⟨⟨hx, hb, hml, hown, hts⟩, hK, -⟩ := id C0
  have hl : lv_has ls 5 [(0, .ref (g_t 0)), (1, .int x1), (2, .int x2), (3, .int x3)] := hl
  unfold F_X11_target at hF
  refine lv_aload_n hx hb dX11_target_0 rfl (lv_at hl 0 rfl) ?_
  refine lv_iconst (v := 0) hx hb dX11_target_1 (by decide) ?_
  refine va_put (D := D) (ci := 10) (v := .int (0 : Int32)) (ty := .int) (C := RX11) (T := TX11) (N := 30) hx hb hts iw_X11_target_X11 tyX11 tyX11_ok nmX11 hown hK hP hD hS 0 rfl rfl 0 (by decide) (hts _ fl_X11_target_66) (fun _ h9 => h9) rfl (by decide +kernel) rfl rfl (Nat.le_of_ble_eq_true rfl) dX11_target_2 (fun H locs hP hD hS => ?_)
  have hP : va_P D vwCl (w_X11_target K g_t (0 : Int32) t_undos t_reached t_length t_begin t_sort t_value t_word t_wrongAt t_badAt t_bad t_read t_pictured t_x t_all t_undone) H := hP
  have hD : va_D A (w_X11_target K g_t (0 : Int32) t_undos t_reached t_length t_begin t_sort t_value t_word t_wrongAt t_badAt t_bad t_read t_pictured t_x t_all t_undone) := hD
  refine lv_iload_n hx hb dX11_target_5 rfl (lv_at hl 1 rfl) ?_
  refine lv_iconst (v := 0) hx hb dX11_target_6 (by decide) ?_
  refine lv_sipush (v := 2999) hx hb dX11_target_7 (by decide) ?_
  obtain ⟨r_1, hc_2, hF⟩ := bn_some hF
  refine xc_i (wn := (w_X11_target K g_t (0 : Int32) t_undos t_reached t_length t_begin t_sort t_value t_word t_wrongAt t_badAt t_bad t_read t_pictured t_x t_all t_undone)) hP hD hS C0.2.2.1 [] [0, 1, 2] [0, 1, 2] rfl rfl (by decide) (by decide) rfl (by decide) (va_runS (As := [.int x1, .int (0 : Int32), .int (2999 : Int32)]) (rest := []) C0.1 (c_X11_in l D K x1 (0 : Int32) (2999 : Int32) r_1 hc_2 H.size) (va_cwS 3 hts gX11_target_X11_in rfl rfl rfl (by decide +kernel) ⟨Nat.le_of_ble_eq_true rfl, Nat.le_of_ble_eq_true rfl⟩) (xp_S C0.2 hP hD hS [] rfl (by decide)) rfl rfl hl.1 rfl (lv_room (Nat.le_of_ble_eq_true rfl)) dX11_target_10 ⟨Nat.le_of_ble_eq_true rfl, Nat.le_of_ble_eq_true rfl⟩) (fun H locs hP hD hS => ?_)
  refine lv_if_eq (tgt := 51) hx hb dX11_target_13 (by decide) (fun c_3 => ?_) (fun c_3 => ?_)
  · have hF := it_pos c_3 hF
    refine lv_iconst (v := (-1)) hx hb dX11_target_51 (by decide) ?_
    obtain rfl := Option.some.inj hF
    exact HR 52 H locs ls dX11_target_52 hP hD hS
  · have hF := it_neg c_3 hF
    refine lv_iload_n hx hb dX11_target_16 rfl (lv_at hl 2 rfl) ?_
    refine lv_sipush (v := (-500)) hx hb dX11_target_17 (by decide) ?_
    refine lv_sipush (v := 500) hx hb dX11_target_20 (by decide) ?_
    obtain ⟨r_4, hc_5, hF⟩ := bn_some hF
    refine xc_i (wn := (w_X11_target K g_t (0 : Int32) t_undos t_reached t_length t_begin t_sort t_value t_word t_wrongAt t_badAt t_bad t_read t_pictured t_x t_all t_undone)) hP hD hS C0.2.2.1 [] [0, 1, 2] [0, 1, 2] rfl rfl (by decide) (by decide) rfl (by decide) (va_runS (As := [.int x2, .int (-500 : Int32), .int (500 : Int32)]) (rest := []) C0.1 (c_X11_in l D K x2 (-500 : Int32) (500 : Int32) r_4 hc_5 H.size) (va_cwS 3 hts gX11_target_X11_in rfl rfl rfl (by decide +kernel) ⟨Nat.le_of_ble_eq_true rfl, Nat.le_of_ble_eq_true rfl⟩) (xp_S C0.2 hP hD hS [] rfl (by decide)) rfl rfl hl.1 rfl (lv_room (Nat.le_of_ble_eq_true rfl)) dX11_target_23 ⟨Nat.le_of_ble_eq_true rfl, Nat.le_of_ble_eq_true rfl⟩) (fun H locs hP hD hS => ?_)
    refine lv_if_eq (tgt := 51) hx hb dX11_target_26 (by decide) (fun c_6 => ?_) (fun c_6 => ?_)
    · have hF := it_pos c_6 hF
      refine lv_iconst (v := (-1)) hx hb dX11_target_51 (by decide) ?_
      obtain rfl := Option.some.inj hF
      exact HR 52 H locs ls dX11_target_52 hP hD hS
    · have hF := it_neg c_6 hF
      refine lv_iload_n hx hb dX11_target_29 rfl (lv_at hl 3 rfl) ?_
      refine lv_iconst (v := 1) hx hb dX11_target_30 (by decide) ?_
      refine lv_bipush (v := 99) hx hb dX11_target_31 (by decide) ?_
      obtain ⟨r_7, hc_8, hF⟩ := bn_some hF
      refine xc_i (wn := (w_X11_target K g_t (0 : Int32) t_undos t_reached t_length t_begin t_sort t_value t_word t_wrongAt t_badAt t_bad t_read t_pictured t_x t_all t_undone)) hP hD hS C0.2.2.1 [] [0, 1, 2] [0, 1, 2] rfl rfl (by decide) (by decide) rfl (by decide) (va_runS (As := [.int x3, .int (1 : Int32), .int (99 : Int32)]) (rest := []) C0.1 (c_X11_in l D K x3 (1 : Int32) (99 : Int32) r_7 hc_8 H.size) (va_cwS 3 hts gX11_target_X11_in rfl rfl rfl (by decide +kernel) ⟨Nat.le_of_ble_eq_true rfl, Nat.le_of_ble_eq_true rfl⟩) (xp_S C0.2 hP hD hS [] rfl (by decide)) rfl rfl hl.1 rfl (lv_room (Nat.le_of_ble_eq_true rfl)) dX11_target_33 ⟨Nat.le_of_ble_eq_true rfl, Nat.le_of_ble_eq_true rfl⟩) (fun H locs hP hD hS => ?_)
      refine lv_if_eq (tgt := 51) hx hb dX11_target_36 (by decide) (fun c_9 => ?_) (fun c_9 => ?_)
      · have hF := it_pos c_9 hF
        refine lv_iconst (v := (-1)) hx hb dX11_target_51 (by decide) ?_
        obtain rfl := Option.some.inj hF
        exact HR 52 H locs ls dX11_target_52 hP hD hS
      · have hF := it_neg c_9 hF
        refine lv_aload_n hx hb dX11_target_39 rfl (lv_at hl 0 rfl) ?_
        refine va_get (D := D) (ci := 10) (v := .ref (g_t 2)) (C := RX11) (T := TX11) (N := 30) hx hb hts iw_X11_target_X11 hown hK hP 0 rfl rfl 1 (by decide) (hts _ fl_X11_target_7) (fun _ h9 => h9) rfl dX11_target_40 ?_
        refine lv_bipush (v := 13) hx hb dX11_target_43 (by decide) ?_
        refine xl_i (f := t_all) hx hb hK hP 1 0 rfl rfl (k := 13) (by decide) (in_v (by decide)) dX11_target_45 ?_
        refine lv_bipush (v := 8) hx hb dX11_target_46 (by decide) ?_
        refine lv_icmp_ne (tgt := 53) hx hb dX11_target_48 (by decide) (fun c_10 => ?_) (fun c_10 => ?_)
        · have hF := it_neg c_10 hF
          refine lv_aload_n hx hb dX11_target_53 rfl (lv_at hl 0 rfl) ?_
          obtain ⟨r_11, hc_12, hF⟩ := bn_some hF
          refine xc_v (wn := (w_X11_target K g_t (0 : Int32) r_11.1 t_reached t_length t_begin t_sort t_value t_word t_wrongAt t_badAt t_bad t_read t_pictured t_x t_all r_11.2)) hP hD hS C0.2.2.1 [0, 1, 2] [] [0, 1, 2] rfl rfl (by decide) (by decide) rfl (by decide) (va_runV (As := []) (rest := []) C0.1 (c_X11_keeps l D K g_t (0 : Int32) t_undos t_reached t_length t_begin t_sort t_value t_word t_wrongAt t_badAt t_bad t_read t_pictured t_x t_all t_undone r_11 hc_12 H.size) (cwV 0 hts gX11_target_X11_keeps rfl rfl rfl (by decide +kernel) ⟨Nat.le_of_ble_eq_true rfl, Nat.le_of_ble_eq_true rfl⟩) (xp_V C0.2 hP hD hS [0, 1, 2] rfl (by decide) 10 0 rfl rfl rfl) rfl rfl hl.1 rfl (lv_room (Nat.le_of_ble_eq_true rfl)) dX11_target_54 ⟨Nat.le_of_ble_eq_true rfl, Nat.le_of_ble_eq_true rfl⟩) (fun H locs hP hD hS => ?_)
          refine lv_bipush (v := 14) hx hb dX11_target_57 (by decide) ?_
          refine lv_iconst (v := 3) hx hb dX11_target_59 (by decide) ?_
          refine lv_aload_n hx hb dX11_target_60 rfl (lv_at hl 0 rfl) ?_
          refine va_get (D := D) (ci := 10) (v := .ref (g_t 2)) (C := RX11) (T := TX11) (N := 30) hx hb hts iw_X11_target_X11 hown hK hP 0 rfl rfl 1 (by decide) (hts _ fl_X11_target_7) (fun _ h9 => h9) rfl dX11_target_61 ?_
          refine lv_bipush (v := 13) hx hb dX11_target_64 (by decide) ?_
          refine xl_i (f := t_all) hx hb hK hP 1 0 rfl rfl (k := 13) (by decide) (in_v (by decide)) dX11_target_66 ?_
          refine lv_imul hx hb dX11_target_67 ?_
          refine lv_iadd hx hb dX11_target_68 ?_
          refine lv_istore (lv' := [(4, .int ((14 : Int32) + ((3 : Int32) * (t_all 13)))), (0, .ref (g_t 0)), (1, .int x1), (2, .int x2), (3, .int x3)]) hx hb dX11_target_69 hl (by decide) rfl (fun ls hl => ?_)
          refine lv_aload_n hx hb dX11_target_71 rfl (lv_at hl 1 rfl) ?_
          refine va_get (D := D) (ci := 10) (v := .ref (g_t 2)) (C := RX11) (T := TX11) (N := 30) hx hb hts iw_X11_target_X11 hown hK hP 0 rfl rfl 1 (by decide) (hts _ fl_X11_target_7) (fun _ h9 => h9) rfl dX11_target_72 ?_
          refine lv_iload hx hb dX11_target_75 (lv_at hl 0 rfl) ?_
          refine lv_iconst (v := 0) hx hb dX11_target_77 (by decide) ?_
          refine lv_iadd hx hb dX11_target_78 ?_
          refine lv_bipush (v := 16) hx hb dX11_target_79 (by decide) ?_
          refine lv_iload_n hx hb dX11_target_81 rfl (lv_at hl 2 rfl) ?_
          refine lv_imul hx hb dX11_target_82 ?_
          obtain ⟨hg_13, hF⟩ := gd_some hF
          refine xs_i (f := t_all) hx hb hK hP hD hS 1 0 rfl rfl rfl (in_v hg_13) dX11_target_83 (fun H locs hP hD hS => ?_)
          have hP : va_P D vwCl (w_X11_target K g_t (0 : Int32) r_11.1 t_reached t_length t_begin t_sort t_value t_word t_wrongAt t_badAt t_bad t_read t_pictured t_x (upd t_all (((14 : Int32) + ((3 : Int32) * (t_all 13))) + (0 : Int32)).toNatClampNeg ((16 : Int32) * x1)) r_11.2) H := hP
          have hD : va_D A (w_X11_target K g_t (0 : Int32) r_11.1 t_reached t_length t_begin t_sort t_value t_word t_wrongAt t_badAt t_bad t_read t_pictured t_x (upd t_all (((14 : Int32) + ((3 : Int32) * (t_all 13))) + (0 : Int32)).toNatClampNeg ((16 : Int32) * x1)) r_11.2) := hD
          refine lv_aload_n hx hb dX11_target_84 rfl (lv_at hl 1 rfl) ?_
          refine va_get (D := D) (ci := 10) (v := .ref (g_t 2)) (C := RX11) (T := TX11) (N := 30) hx hb hts iw_X11_target_X11 hown hK hP 0 rfl rfl 1 (by decide) (hts _ fl_X11_target_7) (fun _ h9 => h9) rfl dX11_target_85 ?_
          refine lv_iload hx hb dX11_target_88 (lv_at hl 0 rfl) ?_
          refine lv_iconst (v := 1) hx hb dX11_target_90 (by decide) ?_
          refine lv_iadd hx hb dX11_target_91 ?_
          refine lv_iload_n hx hb dX11_target_92 rfl (lv_at hl 3 rfl) ?_
          obtain ⟨hg_14, hF⟩ := gd_some hF
          refine xs_i (f := (upd t_all (((14 : Int32) + ((3 : Int32) * (t_all 13))) + (0 : Int32)).toNatClampNeg ((16 : Int32) * x1))) hx hb hK hP hD hS 1 0 rfl rfl rfl (in_v hg_14) dX11_target_93 (fun H locs hP hD hS => ?_)
          have hP : va_P D vwCl (w_X11_target K g_t (0 : Int32) r_11.1 t_reached t_length t_begin t_sort t_value t_word t_wrongAt t_badAt t_bad t_read t_pictured t_x (upd (upd t_all (((14 : Int32) + ((3 : Int32) * (t_all 13))) + (0 : Int32)).toNatClampNeg ((16 : Int32) * x1)) (((14 : Int32) + ((3 : Int32) * (t_all 13))) + (1 : Int32)).toNatClampNeg x2) r_11.2) H := hP
          have hD : va_D A (w_X11_target K g_t (0 : Int32) r_11.1 t_reached t_length t_begin t_sort t_value t_word t_wrongAt t_badAt t_bad t_read t_pictured t_x (upd (upd t_all (((14 : Int32) + ((3 : Int32) * (t_all 13))) + (0 : Int32)).toNatClampNeg ((16 : Int32) * x1)) (((14 : Int32) + ((3 : Int32) * (t_all 13))) + (1 : Int32)).toNatClampNeg x2) r_11.2) := hD
          refine lv_aload_n hx hb dX11_target_94 rfl (lv_at hl 1 rfl) ?_
          refine va_get (D := D) (ci := 10) (v := .ref (g_t 2)) (C := RX11) (T := TX11) (N := 30) hx hb hts iw_X11_target_X11 hown hK hP 0 rfl rfl 1 (by decide) (hts _ fl_X11_target_7) (fun _ h9 => h9) rfl dX11_target_95 ?_
          refine lv_iload hx hb dX11_target_98 (lv_at hl 0 rfl) ?_
          refine lv_iconst (v := 2) hx hb dX11_target_100 (by decide) ?_
          refine lv_iadd hx hb dX11_target_101 ?_
          refine lv_iload_n hx hb dX11_target_102 rfl (lv_at hl 4 rfl) ?_
          obtain ⟨hg_15, hF⟩ := gd_some hF
          refine xs_i (f := (upd (upd t_all (((14 : Int32) + ((3 : Int32) * (t_all 13))) + (0 : Int32)).toNatClampNeg ((16 : Int32) * x1)) (((14 : Int32) + ((3 : Int32) * (t_all 13))) + (1 : Int32)).toNatClampNeg x2)) hx hb hK hP hD hS 1 0 rfl rfl rfl (in_v hg_15) dX11_target_103 (fun H locs hP hD hS => ?_)
          have hP : va_P D vwCl (w_X11_target K g_t (0 : Int32) r_11.1 t_reached t_length t_begin t_sort t_value t_word t_wrongAt t_badAt t_bad t_read t_pictured t_x (upd (upd (upd t_all (((14 : Int32) + ((3 : Int32) * (t_all 13))) + (0 : Int32)).toNatClampNeg ((16 : Int32) * x1)) (((14 : Int32) + ((3 : Int32) * (t_all 13))) + (1 : Int32)).toNatClampNeg x2) (((14 : Int32) + ((3 : Int32) * (t_all 13))) + (2 : Int32)).toNatClampNeg x3) r_11.2) H := hP
          have hD : va_D A (w_X11_target K g_t (0 : Int32) r_11.1 t_reached t_length t_begin t_sort t_value t_word t_wrongAt t_badAt t_bad t_read t_pictured t_x (upd (upd (upd t_all (((14 : Int32) + ((3 : Int32) * (t_all 13))) + (0 : Int32)).toNatClampNeg ((16 : Int32) * x1)) (((14 : Int32) + ((3 : Int32) * (t_all 13))) + (1 : Int32)).toNatClampNeg x2) (((14 : Int32) + ((3 : Int32) * (t_all 13))) + (2 : Int32)).toNatClampNeg x3) r_11.2) := hD
          refine lv_aload_n hx hb dX11_target_104 rfl (lv_at hl 1 rfl) ?_
          refine va_get (D := D) (ci := 10) (v := .ref (g_t 2)) (C := RX11) (T := TX11) (N := 30) hx hb hts iw_X11_target_X11 hown hK hP 0 rfl rfl 1 (by decide) (hts _ fl_X11_target_7) (fun _ h9 => h9) rfl dX11_target_105 ?_
          refine lv_bipush (v := 13) hx hb dX11_target_108 (by decide) ?_
          refine lv_dup2_11 hx hb dX11_target_110 rfl rfl ?_
          refine xl_i (f := (upd (upd (upd t_all (((14 : Int32) + ((3 : Int32) * (t_all 13))) + (0 : Int32)).toNatClampNeg ((16 : Int32) * x1)) (((14 : Int32) + ((3 : Int32) * (t_all 13))) + (1 : Int32)).toNatClampNeg x2) (((14 : Int32) + ((3 : Int32) * (t_all 13))) + (2 : Int32)).toNatClampNeg x3)) hx hb hK hP 1 0 rfl rfl (k := 13) (by decide) (in_v (by decide)) dX11_target_111 ?_
          refine lv_iconst (v := 1) hx hb dX11_target_112 (by decide) ?_
          refine lv_iadd hx hb dX11_target_113 ?_
          refine xs_i (f := (upd (upd (upd t_all (((14 : Int32) + ((3 : Int32) * (t_all 13))) + (0 : Int32)).toNatClampNeg ((16 : Int32) * x1)) (((14 : Int32) + ((3 : Int32) * (t_all 13))) + (1 : Int32)).toNatClampNeg x2) (((14 : Int32) + ((3 : Int32) * (t_all 13))) + (2 : Int32)).toNatClampNeg x3)) hx hb hK hP hD hS 1 0 rfl rfl (k := 13) (by decide) (in_v (by decide)) dX11_target_114 (fun H locs hP hD hS => ?_)
          have hP : va_P D vwCl (w_X11_target K g_t (0 : Int32) r_11.1 t_reached t_length t_begin t_sort t_value t_word t_wrongAt t_badAt t_bad t_read t_pictured t_x (upd (upd (upd (upd t_all (((14 : Int32) + ((3 : Int32) * (t_all 13))) + (0 : Int32)).toNatClampNeg ((16 : Int32) * x1)) (((14 : Int32) + ((3 : Int32) * (t_all 13))) + (1 : Int32)).toNatClampNeg x2) (((14 : Int32) + ((3 : Int32) * (t_all 13))) + (2 : Int32)).toNatClampNeg x3) 13 (((upd (upd (upd t_all (((14 : Int32) + ((3 : Int32) * (t_all 13))) + (0 : Int32)).toNatClampNeg ((16 : Int32) * x1)) (((14 : Int32) + ((3 : Int32) * (t_all 13))) + (1 : Int32)).toNatClampNeg x2) (((14 : Int32) + ((3 : Int32) * (t_all 13))) + (2 : Int32)).toNatClampNeg x3) 13) + (1 : Int32))) r_11.2) H := hP
          have hD : va_D A (w_X11_target K g_t (0 : Int32) r_11.1 t_reached t_length t_begin t_sort t_value t_word t_wrongAt t_badAt t_bad t_read t_pictured t_x (upd (upd (upd (upd t_all (((14 : Int32) + ((3 : Int32) * (t_all 13))) + (0 : Int32)).toNatClampNeg ((16 : Int32) * x1)) (((14 : Int32) + ((3 : Int32) * (t_all 13))) + (1 : Int32)).toNatClampNeg x2) (((14 : Int32) + ((3 : Int32) * (t_all 13))) + (2 : Int32)).toNatClampNeg x3) 13 (((upd (upd (upd t_all (((14 : Int32) + ((3 : Int32) * (t_all 13))) + (0 : Int32)).toNatClampNeg ((16 : Int32) * x1)) (((14 : Int32) + ((3 : Int32) * (t_all 13))) + (1 : Int32)).toNatClampNeg x2) (((14 : Int32) + ((3 : Int32) * (t_all 13))) + (2 : Int32)).toNatClampNeg x3) 13) + (1 : Int32))) r_11.2) := hD
          refine lv_aload_n hx hb dX11_target_115 rfl (lv_at hl 1 rfl) ?_
          refine va_get (D := D) (ci := 10) (v := .ref (g_t 2)) (C := RX11) (T := TX11) (N := 30) hx hb hts iw_X11_target_X11 hown hK hP 0 rfl rfl 1 (by decide) (hts _ fl_X11_target_7) (fun _ h9 => h9) rfl dX11_target_116 ?_
          refine lv_bipush (v := 13) hx hb dX11_target_119 (by decide) ?_
          refine xl_i (f := (upd (upd (upd (upd t_all (((14 : Int32) + ((3 : Int32) * (t_all 13))) + (0 : Int32)).toNatClampNeg ((16 : Int32) * x1)) (((14 : Int32) + ((3 : Int32) * (t_all 13))) + (1 : Int32)).toNatClampNeg x2) (((14 : Int32) + ((3 : Int32) * (t_all 13))) + (2 : Int32)).toNatClampNeg x3) 13 (((upd (upd (upd t_all (((14 : Int32) + ((3 : Int32) * (t_all 13))) + (0 : Int32)).toNatClampNeg ((16 : Int32) * x1)) (((14 : Int32) + ((3 : Int32) * (t_all 13))) + (1 : Int32)).toNatClampNeg x2) (((14 : Int32) + ((3 : Int32) * (t_all 13))) + (2 : Int32)).toNatClampNeg x3) 13) + (1 : Int32)))) hx hb hK hP 1 0 rfl rfl (k := 13) (by decide) (in_v (by decide)) dX11_target_121 ?_
          refine lv_iconst (v := 1) hx hb dX11_target_122 (by decide) ?_
          refine lv_isub hx hb dX11_target_123 ?_
          obtain rfl := Option.some.inj hF
          exact HR 124 H locs ls dX11_target_124 hP hD hS
        · have hF := it_pos c_10 hF
          refine lv_iconst (v := (-1)) hx hb dX11_target_51 (by decide) ?_
          obtain rfl := Option.some.inj hF
          exact HR 52 H locs ls dX11_target_52 hP hD hS

/-! StaggerRadarModel.targetOf(II)I -/
abbrev rmX11_targetOf : Room := { frames := 4, cells := 0, slots := 0, locals := 90 }
theorem fl_X11_targetOf_7 : Cond.fieldLink RX11 7 "StaggerRadarModel" "all" "[I" ∈ wsX11_targetOf := by decide +kernel
theorem fl_X11_targetOf_66 : Cond.fieldLink RX11 66 "StaggerRadarModel" "raised" "I" ∈ wsX11_targetOf := by decide +kernel
theorem iw_X11_targetOf_X11 : ∀ w ∈ u_ws RX11 TX11 30, w ∈ wsX11_targetOf := by decide +kernel
abbrev w_X11_targetOf (K : Nat → ClassId) (g_t : Nat → Nat) (t_raised : Int32) (t_undos : Int32) (t_reached : Int32) (t_length : Int32) (t_begin : Int32) (t_sort : Int32) (t_value : Int32) (t_word : Int64) (t_wrongAt : Int32) (t_badAt : Int32) (t_bad : Int32) (t_read : Int32) (t_pictured : Int32) (t_x : Int32) (t_all : Nat → Int32) (t_loud : Nat → Int32) : va_W := [((g_t 0), .inr (10, [.int t_raised, .ref (g_t 2), .ref (g_t 3), .ref (g_t 4), .ref (g_t 5), .int t_undos, .int t_reached, .int t_length, .int t_begin, .int t_sort, .int t_value, .long t_word, .int t_wrongAt, .int t_badAt, .int t_bad, .ref (g_t 16), .int t_read, .ref (g_t 18), .ref (g_t 19), .ref (g_t 20), .int t_pictured, .ref (g_t 22), .ref (g_t 23), .ref (g_t 24), .ref (g_t 25), .ref (g_t 26), .int t_x, .ref (g_t 28), .ref (g_t 29), .ref (g_t 30)])), ((g_t 2), .inl (K 0, 500, .inl t_all)), ((g_t 18), .inl (K 0, 300, .inl t_loud))]
def J_X11_targetOf_24 (t_all : Nat → Int32) (t_raised : Int32) (t_loud : Nat → Int32) (x1 : Int32) (x2 : Int32) (s1 : Int32) : Option (Int32 × Int32 × (Nat → Int32)) :=
  if s1 ≤ (0 : Int32) then ((F_X11_laysLoud t_all t_loud).bind fun r_2 => (if x2 = (0 : Int32) then ((F_X11_rangeOf t_all x1).bind fun r_5 => (some (r_5, s1, r_2))) else (if x2 = (1 : Int32) then ((F_X11_of t_all x1 (x2 - (1 : Int32))).bind fun r_8 => (some (r_8, s1, r_2))) else (if x2 = (2 : Int32) then ((F_X11_of t_all x1 (x2 - (1 : Int32))).bind fun r_11 => (some (r_11, s1, r_2))) else (if x2 = (3 : Int32) then ((F_X11_of t_all x1 (x2 - (1 : Int32))).bind fun r_14 => (some (r_14, s1, r_2))) else (if x2 = (4 : Int32) then ((F_X11_seenBy t_all x1).bind fun r_17 => (some (r_17, s1, r_2))) else (if x2 = (5 : Int32) then ((F_X11_of t_all x1 (1 : Int32)).bind fun r_20 => ((F_X11_blindBits t_all r_20).bind fun r_22 => (some (r_22, s1, r_2)))) else ((F_X11_rangeOf t_all x1).bind fun r_25 => (if r_25 < (t_all 9) then ((F_X11_rangeOf t_all x1).bind fun r_28 => ((F_X11_isFound t_all r_2 r_28).bind fun r_30 => (if r_30 = (0 : Int32) then (some ((0 : Int32), s1, r_2)) else (some ((1 : Int32), s1, r_2))))) else (some ((2 : Int32), s1, r_2))))))))))) else (some ((0 : Int32), s1, t_loud))
set_option maxHeartbeats 4000000 in
set_option maxRecDepth 100000 in
theorem w_X11_targetOf_24 {p : Program} {l : Launch} {e : Env} {s : State} {m : MethodId} {args : Array Value} {below : List Frame} {meth : Method} {c : Code} {D : va_G} {K : Nat → ClassId} {A : Nat → Prop} {Q : State → Prop} (C0 : cx_ p s m args c cX11_targetOf 3 RX11 wsX11_targetOf D K A) {g_t : Nat → Nat} {t_undos : Int32} {t_reached : Int32} {t_length : Int32} {t_begin : Int32} {t_sort : Int32} {t_value : Int32} {t_word : Int64} {t_wrongAt : Int32} {t_badAt : Int32} {t_bad : Int32} {t_read : Int32} {t_pictured : Int32} {t_x : Int32} {t_all : Nat → Int32} {res : Int32 × Int32 × (Nat → Int32)} (HR : ∀ (pc : Nat) (H : Heap) (locs : List Loc) (ls : Array Slot), decode cX11_targetOf pc = .ok (.ireturn, 1) → va_P D vwCl (w_X11_targetOf K g_t res.2.1 t_undos t_reached t_length t_begin t_sort t_value t_word t_wrongAt t_badAt t_bad t_read t_pictured t_x t_all res.2.2) H → va_D A (w_X11_targetOf K g_t res.2.1 t_undos t_reached t_length t_begin t_sort t_value t_word t_wrongAt t_badAt t_bad t_read t_pictured t_x t_all res.2.2) → va_S A s.heap H locs → W p l e rmX11_targetOf s m args below meth c H locs 0 0 Q (F0 m pc ls [.int res.1]))  :
    ∀ (t_raised : Int32) (t_loud : Nat → Int32) (x1 : Int32) (x2 : Int32) (s1 : Int32) (H : Heap) (locs : List Loc) (ls : Array Slot), va_P D vwCl (w_X11_targetOf K g_t t_raised t_undos t_reached t_length t_begin t_sort t_value t_word t_wrongAt t_badAt t_bad t_read t_pictured t_x t_all t_loud) H → va_D A (w_X11_targetOf K g_t t_raised t_undos t_reached t_length t_begin t_sort t_value t_word t_wrongAt t_badAt t_bad t_read t_pictured t_x t_all t_loud) → va_S A s.heap H locs → lv_has ls 3 [(0, .ref (g_t 0)), (1, .int x1), (2, .int x2)] → J_X11_targetOf_24 t_all t_raised t_loud x1 x2 s1 = some res → W p l e rmX11_targetOf s m args below meth c H locs 0 0 Q (F0 m 24 ls [.int s1, .ref (g_t 0)]) := by
  obtain ⟨⟨hx, hb, hml, hown, hts⟩, hK, -⟩ := id C0
  intro t_raised t_loud x1 x2 s1 H locs ls hP hD hS hl hF
  unfold J_X11_targetOf_24 at hF
  refine va_put (D := D) (ci := 10) (v := .int s1) (ty := .int) (C := RX11) (T := TX11) (N := 30) hx hb hts iw_X11_targetOf_X11 tyX11 tyX11_ok nmX11 hown hK hP hD hS 0 rfl rfl 0 (by decide) (hts _ fl_X11_targetOf_66) (fun _ h9 => h9) rfl (by decide +kernel) rfl rfl (Nat.le_of_ble_eq_true rfl) dX11_targetOf_24 (fun H locs hP hD hS => ?_)
  have hP : va_P D vwCl (w_X11_targetOf K g_t s1 t_undos t_reached t_length t_begin t_sort t_value t_word t_wrongAt t_badAt t_bad t_read t_pictured t_x t_all t_loud) H := hP
  have hD : va_D A (w_X11_targetOf K g_t s1 t_undos t_reached t_length t_begin t_sort t_value t_word t_wrongAt t_badAt t_bad t_read t_pictured t_x t_all t_loud) := hD
  refine lv_aload_n hx hb dX11_targetOf_27 rfl (lv_at hl 0 rfl) ?_
  refine va_get (D := D) (ci := 10) (v := .int s1) (C := RX11) (T := TX11) (N := 30) hx hb hts iw_X11_targetOf_X11 hown hK hP 0 rfl rfl 0 (by decide) (hts _ fl_X11_targetOf_66) (fun _ h9 => h9) rfl dX11_targetOf_28 ?_
  refine lv_if_le (tgt := 36) hx hb dX11_targetOf_31 (by decide) (fun c_1 => ?_) (fun c_1 => ?_)
  · have hF := it_pos c_1 hF
    refine lv_aload_n hx hb dX11_targetOf_36 rfl (lv_at hl 0 rfl) ?_
    obtain ⟨r_2, hc_3, hF⟩ := bn_some hF
    refine xc_v (wn := (w_X11_targetOf K g_t s1 t_undos t_reached t_length t_begin t_sort t_value t_word t_wrongAt t_badAt t_bad t_read t_pictured t_x t_all r_2)) hP hD hS C0.2.2.1 [0, 1, 2] [] [0, 1, 2] rfl rfl (by decide) (by decide) rfl (by decide) (va_runV (As := []) (rest := []) C0.1 (c_X11_laysLoud l D K g_t s1 t_undos t_reached t_length t_begin t_sort t_value t_word t_wrongAt t_badAt t_bad t_read t_pictured t_x t_all t_loud r_2 hc_3 H.size) (cwV 0 hts gX11_targetOf_X11_laysLoud rfl rfl rfl (by decide +kernel) ⟨Nat.le_of_ble_eq_true rfl, Nat.le_of_ble_eq_true rfl⟩) (xp_V C0.2 hP hD hS [0, 1, 2] rfl (by decide) 10 0 rfl rfl rfl) rfl rfl hl.1 rfl (lv_room (Nat.le_of_ble_eq_true rfl)) dX11_targetOf_37 ⟨Nat.le_of_ble_eq_true rfl, Nat.le_of_ble_eq_true rfl⟩) (fun H locs hP hD hS => ?_)
    refine lv_iload_n hx hb dX11_targetOf_40 rfl (lv_at hl 2 rfl) ?_
    by_cases c_4 : x2 = (0 : Int32)
    · have hF := it_pos c_4 hF
      refine lv_tableIn (off := 39) (tgt := 80) hx hb dX11_targetOf_41 (by rw [c_4]; decide) (by rw [c_4]; decide) (by rw [c_4]; rfl) (by decide) ?_
      refine lv_aload_n hx hb dX11_targetOf_80 rfl (lv_at hl 0 rfl) ?_
      refine lv_iload_n hx hb dX11_targetOf_81 rfl (lv_at hl 1 rfl) ?_
      obtain ⟨r_5, hc_6, hF⟩ := bn_some hF
      refine xc_i (wn := (w_X11_targetOf K g_t s1 t_undos t_reached t_length t_begin t_sort t_value t_word t_wrongAt t_badAt t_bad t_read t_pictured t_x t_all r_2)) hP hD hS C0.2.2.1 [0, 1] [2] [1, 2, 0] rfl rfl (by decide) (by decide) rfl (by decide) (va_runV (As := [.int x1]) (rest := []) C0.1 (c_X11_rangeOf l D K g_t s1 t_undos t_reached t_length t_begin t_sort t_value t_word t_wrongAt t_badAt t_bad t_read t_pictured t_x t_all x1 r_5 hc_6 H.size) (cwV 1 hts gX11_targetOf_X11_rangeOf rfl rfl rfl (by decide +kernel) ⟨Nat.le_of_ble_eq_true rfl, Nat.le_of_ble_eq_true rfl⟩) (xp_V C0.2 hP hD hS [0, 1] rfl (by decide) 10 0 rfl rfl rfl) rfl rfl hl.1 rfl (lv_room (Nat.le_of_ble_eq_true rfl)) dX11_targetOf_82 ⟨Nat.le_of_ble_eq_true rfl, Nat.le_of_ble_eq_true rfl⟩) (fun H locs hP hD hS => ?_)
      obtain rfl := Option.some.inj hF
      exact HR 85 H locs ls dX11_targetOf_85 hP hD hS
    have hF := it_neg c_4 hF
    by_cases c_7 : x2 = (1 : Int32)
    · have hF := it_pos c_7 hF
      refine lv_tableIn (off := 45) (tgt := 86) hx hb dX11_targetOf_41 (by rw [c_7]; decide) (by rw [c_7]; decide) (by rw [c_7]; rfl) (by decide) ?_
      refine lv_aload_n hx hb dX11_targetOf_86 rfl (lv_at hl 0 rfl) ?_
      refine lv_iload_n hx hb dX11_targetOf_87 rfl (lv_at hl 1 rfl) ?_
      refine lv_iload_n hx hb dX11_targetOf_88 rfl (lv_at hl 2 rfl) ?_
      refine lv_iconst (v := 1) hx hb dX11_targetOf_89 (by decide) ?_
      refine lv_isub hx hb dX11_targetOf_90 ?_
      obtain ⟨r_8, hc_9, hF⟩ := bn_some hF
      refine xc_i (wn := (w_X11_targetOf K g_t s1 t_undos t_reached t_length t_begin t_sort t_value t_word t_wrongAt t_badAt t_bad t_read t_pictured t_x t_all r_2)) hP hD hS C0.2.2.1 [0, 1] [2] [1, 2, 0] rfl rfl (by decide) (by decide) rfl (by decide) (va_runV (As := [.int x1, .int (x2 - (1 : Int32))]) (rest := []) C0.1 (c_X11_of l D K g_t s1 t_undos t_reached t_length t_begin t_sort t_value t_word t_wrongAt t_badAt t_bad t_read t_pictured t_x t_all x1 (x2 - (1 : Int32)) r_8 hc_9 H.size) (cwV 2 hts gX11_targetOf_X11_of rfl rfl rfl (by decide +kernel) ⟨Nat.le_of_ble_eq_true rfl, Nat.le_of_ble_eq_true rfl⟩) (xp_V C0.2 hP hD hS [0, 1] rfl (by decide) 10 0 rfl rfl rfl) rfl rfl hl.1 rfl (lv_room (Nat.le_of_ble_eq_true rfl)) dX11_targetOf_91 ⟨Nat.le_of_ble_eq_true rfl, Nat.le_of_ble_eq_true rfl⟩) (fun H locs hP hD hS => ?_)
      obtain rfl := Option.some.inj hF
      exact HR 94 H locs ls dX11_targetOf_94 hP hD hS
    have hF := it_neg c_7 hF
    by_cases c_10 : x2 = (2 : Int32)
    · have hF := it_pos c_10 hF
      refine lv_tableIn (off := 45) (tgt := 86) hx hb dX11_targetOf_41 (by rw [c_10]; decide) (by rw [c_10]; decide) (by rw [c_10]; rfl) (by decide) ?_
      refine lv_aload_n hx hb dX11_targetOf_86 rfl (lv_at hl 0 rfl) ?_
      refine lv_iload_n hx hb dX11_targetOf_87 rfl (lv_at hl 1 rfl) ?_
      refine lv_iload_n hx hb dX11_targetOf_88 rfl (lv_at hl 2 rfl) ?_
      refine lv_iconst (v := 1) hx hb dX11_targetOf_89 (by decide) ?_
      refine lv_isub hx hb dX11_targetOf_90 ?_
      obtain ⟨r_11, hc_12, hF⟩ := bn_some hF
      refine xc_i (wn := (w_X11_targetOf K g_t s1 t_undos t_reached t_length t_begin t_sort t_value t_word t_wrongAt t_badAt t_bad t_read t_pictured t_x t_all r_2)) hP hD hS C0.2.2.1 [0, 1] [2] [1, 2, 0] rfl rfl (by decide) (by decide) rfl (by decide) (va_runV (As := [.int x1, .int (x2 - (1 : Int32))]) (rest := []) C0.1 (c_X11_of l D K g_t s1 t_undos t_reached t_length t_begin t_sort t_value t_word t_wrongAt t_badAt t_bad t_read t_pictured t_x t_all x1 (x2 - (1 : Int32)) r_11 hc_12 H.size) (cwV 2 hts gX11_targetOf_X11_of rfl rfl rfl (by decide +kernel) ⟨Nat.le_of_ble_eq_true rfl, Nat.le_of_ble_eq_true rfl⟩) (xp_V C0.2 hP hD hS [0, 1] rfl (by decide) 10 0 rfl rfl rfl) rfl rfl hl.1 rfl (lv_room (Nat.le_of_ble_eq_true rfl)) dX11_targetOf_91 ⟨Nat.le_of_ble_eq_true rfl, Nat.le_of_ble_eq_true rfl⟩) (fun H locs hP hD hS => ?_)
      obtain rfl := Option.some.inj hF
      exact HR 94 H locs ls dX11_targetOf_94 hP hD hS
    have hF := it_neg c_10 hF
    by_cases c_13 : x2 = (3 : Int32)
    · have hF := it_pos c_13 hF
      refine lv_tableIn (off := 45) (tgt := 86) hx hb dX11_targetOf_41 (by rw [c_13]; decide) (by rw [c_13]; decide) (by rw [c_13]; rfl) (by decide) ?_
      refine lv_aload_n hx hb dX11_targetOf_86 rfl (lv_at hl 0 rfl) ?_
      refine lv_iload_n hx hb dX11_targetOf_87 rfl (lv_at hl 1 rfl) ?_
      refine lv_iload_n hx hb dX11_targetOf_88 rfl (lv_at hl 2 rfl) ?_
      refine lv_iconst (v := 1) hx hb dX11_targetOf_89 (by decide) ?_
      refine lv_isub hx hb dX11_targetOf_90 ?_
      obtain ⟨r_14, hc_15, hF⟩ := bn_some hF
      refine xc_i (wn := (w_X11_targetOf K g_t s1 t_undos t_reached t_length t_begin t_sort t_value t_word t_wrongAt t_badAt t_bad t_read t_pictured t_x t_all r_2)) hP hD hS C0.2.2.1 [0, 1] [2] [1, 2, 0] rfl rfl (by decide) (by decide) rfl (by decide) (va_runV (As := [.int x1, .int (x2 - (1 : Int32))]) (rest := []) C0.1 (c_X11_of l D K g_t s1 t_undos t_reached t_length t_begin t_sort t_value t_word t_wrongAt t_badAt t_bad t_read t_pictured t_x t_all x1 (x2 - (1 : Int32)) r_14 hc_15 H.size) (cwV 2 hts gX11_targetOf_X11_of rfl rfl rfl (by decide +kernel) ⟨Nat.le_of_ble_eq_true rfl, Nat.le_of_ble_eq_true rfl⟩) (xp_V C0.2 hP hD hS [0, 1] rfl (by decide) 10 0 rfl rfl rfl) rfl rfl hl.1 rfl (lv_room (Nat.le_of_ble_eq_true rfl)) dX11_targetOf_91 ⟨Nat.le_of_ble_eq_true rfl, Nat.le_of_ble_eq_true rfl⟩) (fun H locs hP hD hS => ?_)
      obtain rfl := Option.some.inj hF
      exact HR 94 H locs ls dX11_targetOf_94 hP hD hS
    have hF := it_neg c_13 hF
    by_cases c_16 : x2 = (4 : Int32)
    · have hF := it_pos c_16 hF
      refine lv_tableIn (off := 54) (tgt := 95) hx hb dX11_targetOf_41 (by rw [c_16]; decide) (by rw [c_16]; decide) (by rw [c_16]; rfl) (by decide) ?_
      refine lv_aload_n hx hb dX11_targetOf_95 rfl (lv_at hl 0 rfl) ?_
      refine lv_iload_n hx hb dX11_targetOf_96 rfl (lv_at hl 1 rfl) ?_
      obtain ⟨r_17, hc_18, hF⟩ := bn_some hF
      refine xc_i (wn := (w_X11_targetOf K g_t s1 t_undos t_reached t_length t_begin t_sort t_value t_word t_wrongAt t_badAt t_bad t_read t_pictured t_x t_all r_2)) hP hD hS C0.2.2.1 [0, 1] [2] [1, 2, 0] rfl rfl (by decide) (by decide) rfl (by decide) (va_runV (As := [.int x1]) (rest := []) C0.1 (c_X11_seenBy l D K g_t s1 t_undos t_reached t_length t_begin t_sort t_value t_word t_wrongAt t_badAt t_bad t_read t_pictured t_x t_all x1 r_17 hc_18 H.size) (cwV 1 hts gX11_targetOf_X11_seenBy rfl rfl rfl (by decide +kernel) ⟨Nat.le_of_ble_eq_true rfl, Nat.le_of_ble_eq_true rfl⟩) (xp_V C0.2 hP hD hS [0, 1] rfl (by decide) 10 0 rfl rfl rfl) rfl rfl hl.1 rfl (lv_room (Nat.le_of_ble_eq_true rfl)) dX11_targetOf_97 ⟨Nat.le_of_ble_eq_true rfl, Nat.le_of_ble_eq_true rfl⟩) (fun H locs hP hD hS => ?_)
      obtain rfl := Option.some.inj hF
      exact HR 100 H locs ls dX11_targetOf_100 hP hD hS
    have hF := it_neg c_16 hF
    by_cases c_19 : x2 = (5 : Int32)
    · have hF := it_pos c_19 hF
      refine lv_tableIn (off := 60) (tgt := 101) hx hb dX11_targetOf_41 (by rw [c_19]; decide) (by rw [c_19]; decide) (by rw [c_19]; rfl) (by decide) ?_
      refine lv_aload_n hx hb dX11_targetOf_101 rfl (lv_at hl 0 rfl) ?_
      refine lv_aload_n hx hb dX11_targetOf_102 rfl (lv_at hl 0 rfl) ?_
      refine lv_iload_n hx hb dX11_targetOf_103 rfl (lv_at hl 1 rfl) ?_
      refine lv_iconst (v := 1) hx hb dX11_targetOf_104 (by decide) ?_
      obtain ⟨r_20, hc_21, hF⟩ := bn_some hF
      refine xc_i (wn := (w_X11_targetOf K g_t s1 t_undos t_reached t_length t_begin t_sort t_value t_word t_wrongAt t_badAt t_bad t_read t_pictured t_x t_all r_2)) hP hD hS C0.2.2.1 [0, 1] [2] [1, 2, 0] rfl rfl (by decide) (by decide) rfl (by decide) (va_runV (As := [.int x1, .int (1 : Int32)]) (rest := [.ref (g_t 0)]) C0.1 (c_X11_of l D K g_t s1 t_undos t_reached t_length t_begin t_sort t_value t_word t_wrongAt t_badAt t_bad t_read t_pictured t_x t_all x1 (1 : Int32) r_20 hc_21 H.size) (cwV 2 hts gX11_targetOf_X11_of rfl rfl rfl (by decide +kernel) ⟨Nat.le_of_ble_eq_true rfl, Nat.le_of_ble_eq_true rfl⟩) (xp_V C0.2 hP hD hS [0, 1] rfl (by decide) 10 0 rfl rfl rfl) rfl rfl hl.1 rfl (lv_room (Nat.le_of_ble_eq_true rfl)) dX11_targetOf_105 ⟨Nat.le_of_ble_eq_true rfl, Nat.le_of_ble_eq_true rfl⟩) (fun H locs hP hD hS => ?_)
      obtain ⟨r_22, hc_23, hF⟩ := bn_some hF
      refine xc_i (wn := (w_X11_targetOf K g_t s1 t_undos t_reached t_length t_begin t_sort t_value t_word t_wrongAt t_badAt t_bad t_read t_pictured t_x t_all r_2)) hP hD hS C0.2.2.1 [0, 1] [2] [1, 2, 0] rfl rfl (by decide) (by decide) rfl (by decide) (va_runV (As := [.int r_20]) (rest := []) C0.1 (c_X11_blindBits l D K g_t s1 t_undos t_reached t_length t_begin t_sort t_value t_word t_wrongAt t_badAt t_bad t_read t_pictured t_x t_all r_20 r_22 hc_23 H.size) (cwV 1 hts gX11_targetOf_X11_blindBits rfl rfl rfl (by decide +kernel) ⟨Nat.le_of_ble_eq_true rfl, Nat.le_of_ble_eq_true rfl⟩) (xp_V C0.2 hP hD hS [0, 1] rfl (by decide) 10 0 rfl rfl rfl) rfl rfl hl.1 rfl (lv_room (Nat.le_of_ble_eq_true rfl)) dX11_targetOf_108 ⟨Nat.le_of_ble_eq_true rfl, Nat.le_of_ble_eq_true rfl⟩) (fun H locs hP hD hS => ?_)
      obtain rfl := Option.some.inj hF
      exact HR 111 H locs ls dX11_targetOf_111 hP hD hS
    have hF := it_neg c_19 hF
    have qc_4 := lv_neT (a := 0) c_4 (by decide)
    have qc_7 := lv_neT (a := 1) c_7 (by decide)
    have qc_10 := lv_neT (a := 2) c_10 (by decide)
    have qc_13 := lv_neT (a := 3) c_13 (by decide)
    have qc_16 := lv_neT (a := 4) c_16 (by decide)
    have qc_19 := lv_neT (a := 5) c_19 (by decide)
    refine lv_tableOut (tgt := 112) hx hb dX11_targetOf_41 (by omega) (by decide) ?_
    refine lv_aload_n hx hb dX11_targetOf_112 rfl (lv_at hl 0 rfl) ?_
    refine lv_iload_n hx hb dX11_targetOf_113 rfl (lv_at hl 1 rfl) ?_
    obtain ⟨r_25, hc_26, hF⟩ := bn_some hF
    refine xc_i (wn := (w_X11_targetOf K g_t s1 t_undos t_reached t_length t_begin t_sort t_value t_word t_wrongAt t_badAt t_bad t_read t_pictured t_x t_all r_2)) hP hD hS C0.2.2.1 [0, 1] [2] [1, 2, 0] rfl rfl (by decide) (by decide) rfl (by decide) (va_runV (As := [.int x1]) (rest := []) C0.1 (c_X11_rangeOf l D K g_t s1 t_undos t_reached t_length t_begin t_sort t_value t_word t_wrongAt t_badAt t_bad t_read t_pictured t_x t_all x1 r_25 hc_26 H.size) (cwV 1 hts gX11_targetOf_X11_rangeOf rfl rfl rfl (by decide +kernel) ⟨Nat.le_of_ble_eq_true rfl, Nat.le_of_ble_eq_true rfl⟩) (xp_V C0.2 hP hD hS [0, 1] rfl (by decide) 10 0 rfl rfl rfl) rfl rfl hl.1 rfl (lv_room (Nat.le_of_ble_eq_true rfl)) dX11_targetOf_114 ⟨Nat.le_of_ble_eq_true rfl, Nat.le_of_ble_eq_true rfl⟩) (fun H locs hP hD hS => ?_)
    refine lv_aload_n hx hb dX11_targetOf_117 rfl (lv_at hl 0 rfl) ?_
    refine va_get (D := D) (ci := 10) (v := .ref (g_t 2)) (C := RX11) (T := TX11) (N := 30) hx hb hts iw_X11_targetOf_X11 hown hK hP 0 rfl rfl 1 (by decide) (hts _ fl_X11_targetOf_7) (fun _ h9 => h9) rfl dX11_targetOf_118 ?_
    refine lv_bipush (v := 9) hx hb dX11_targetOf_121 (by decide) ?_
    refine xl_i (f := t_all) hx hb hK hP 1 0 rfl rfl (k := 9) (by decide) (in_v (by decide)) dX11_targetOf_123 ?_
    refine lv_icmp_lt (tgt := 131) hx hb dX11_targetOf_124 (by decide) (fun c_27 => ?_) (fun c_27 => ?_)
    · have hF := it_pos c_27 hF
      refine lv_aload_n hx hb dX11_targetOf_131 rfl (lv_at hl 0 rfl) ?_
      refine lv_aload_n hx hb dX11_targetOf_132 rfl (lv_at hl 0 rfl) ?_
      refine lv_iload_n hx hb dX11_targetOf_133 rfl (lv_at hl 1 rfl) ?_
      obtain ⟨r_28, hc_29, hF⟩ := bn_some hF
      refine xc_i (wn := (w_X11_targetOf K g_t s1 t_undos t_reached t_length t_begin t_sort t_value t_word t_wrongAt t_badAt t_bad t_read t_pictured t_x t_all r_2)) hP hD hS C0.2.2.1 [0, 1] [2] [1, 2, 0] rfl rfl (by decide) (by decide) rfl (by decide) (va_runV (As := [.int x1]) (rest := [.ref (g_t 0)]) C0.1 (c_X11_rangeOf l D K g_t s1 t_undos t_reached t_length t_begin t_sort t_value t_word t_wrongAt t_badAt t_bad t_read t_pictured t_x t_all x1 r_28 hc_29 H.size) (cwV 1 hts gX11_targetOf_X11_rangeOf rfl rfl rfl (by decide +kernel) ⟨Nat.le_of_ble_eq_true rfl, Nat.le_of_ble_eq_true rfl⟩) (xp_V C0.2 hP hD hS [0, 1] rfl (by decide) 10 0 rfl rfl rfl) rfl rfl hl.1 rfl (lv_room (Nat.le_of_ble_eq_true rfl)) dX11_targetOf_134 ⟨Nat.le_of_ble_eq_true rfl, Nat.le_of_ble_eq_true rfl⟩) (fun H locs hP hD hS => ?_)
      obtain ⟨r_30, hc_31, hF⟩ := bn_some hF
      refine xc_i (wn := (w_X11_targetOf K g_t s1 t_undos t_reached t_length t_begin t_sort t_value t_word t_wrongAt t_badAt t_bad t_read t_pictured t_x t_all r_2)) hP hD hS C0.2.2.1 [0, 1, 2] [] [0, 1, 2] rfl rfl (by decide) (by decide) rfl (by decide) (va_runV (As := [.int r_28]) (rest := []) C0.1 (c_X11_isFound l D K g_t s1 t_undos t_reached t_length t_begin t_sort t_value t_word t_wrongAt t_badAt t_bad t_read t_pictured t_x t_all r_2 r_28 r_30 hc_31 H.size) (cwV 1 hts gX11_targetOf_X11_isFound rfl rfl rfl (by decide +kernel) ⟨Nat.le_of_ble_eq_true rfl, Nat.le_of_ble_eq_true rfl⟩) (xp_V C0.2 hP hD hS [0, 1, 2] rfl (by decide) 10 0 rfl rfl rfl) rfl rfl hl.1 rfl (lv_room (Nat.le_of_ble_eq_true rfl)) dX11_targetOf_137 ⟨Nat.le_of_ble_eq_true rfl, Nat.le_of_ble_eq_true rfl⟩) (fun H locs hP hD hS => ?_)
      refine lv_if_eq (tgt := 147) hx hb dX11_targetOf_140 (by decide) (fun c_32 => ?_) (fun c_32 => ?_)
      · have hF := it_pos c_32 hF
        refine lv_iconst (v := 0) hx hb dX11_targetOf_147 (by decide) ?_
        obtain rfl := Option.some.inj hF
        exact HR 148 H locs ls dX11_targetOf_148 hP hD hS
      · have hF := it_neg c_32 hF
        refine lv_iconst (v := 1) hx hb dX11_targetOf_143 (by decide) ?_
        refine lv_goto (tgt := 148) hx hb dX11_targetOf_144 (by decide) ?_
        obtain rfl := Option.some.inj hF
        exact HR 148 H locs ls dX11_targetOf_148 hP hD hS
    · have hF := it_neg c_27 hF
      refine lv_iconst (v := 2) hx hb dX11_targetOf_127 (by decide) ?_
      refine lv_goto (tgt := 148) hx hb dX11_targetOf_128 (by decide) ?_
      obtain rfl := Option.some.inj hF
      exact HR 148 H locs ls dX11_targetOf_148 hP hD hS
  · have hF := it_neg c_1 hF
    refine lv_iconst (v := 0) hx hb dX11_targetOf_34 (by decide) ?_
    obtain rfl := Option.some.inj hF
    exact HR 35 H locs ls dX11_targetOf_35 hP hD hS
def J_X11_targetOf_23 (t_all : Nat → Int32) (t_raised : Int32) (t_loud : Nat → Int32) (x1 : Int32) (x2 : Int32) : Option (Int32 × Int32 × (Nat → Int32)) :=
  J_X11_targetOf_24 t_all t_raised t_loud x1 x2 (1 : Int32)
set_option maxHeartbeats 4000000 in
set_option maxRecDepth 100000 in
theorem w_X11_targetOf_23 {p : Program} {l : Launch} {e : Env} {s : State} {m : MethodId} {args : Array Value} {below : List Frame} {meth : Method} {c : Code} {D : va_G} {K : Nat → ClassId} {A : Nat → Prop} {Q : State → Prop} (C0 : cx_ p s m args c cX11_targetOf 3 RX11 wsX11_targetOf D K A) {g_t : Nat → Nat} {t_undos : Int32} {t_reached : Int32} {t_length : Int32} {t_begin : Int32} {t_sort : Int32} {t_value : Int32} {t_word : Int64} {t_wrongAt : Int32} {t_badAt : Int32} {t_bad : Int32} {t_read : Int32} {t_pictured : Int32} {t_x : Int32} {t_all : Nat → Int32} {res : Int32 × Int32 × (Nat → Int32)} (HR : ∀ (pc : Nat) (H : Heap) (locs : List Loc) (ls : Array Slot), decode cX11_targetOf pc = .ok (.ireturn, 1) → va_P D vwCl (w_X11_targetOf K g_t res.2.1 t_undos t_reached t_length t_begin t_sort t_value t_word t_wrongAt t_badAt t_bad t_read t_pictured t_x t_all res.2.2) H → va_D A (w_X11_targetOf K g_t res.2.1 t_undos t_reached t_length t_begin t_sort t_value t_word t_wrongAt t_badAt t_bad t_read t_pictured t_x t_all res.2.2) → va_S A s.heap H locs → W p l e rmX11_targetOf s m args below meth c H locs 0 0 Q (F0 m pc ls [.int res.1]))  :
    ∀ (t_raised : Int32) (t_loud : Nat → Int32) (x1 : Int32) (x2 : Int32) (H : Heap) (locs : List Loc) (ls : Array Slot), va_P D vwCl (w_X11_targetOf K g_t t_raised t_undos t_reached t_length t_begin t_sort t_value t_word t_wrongAt t_badAt t_bad t_read t_pictured t_x t_all t_loud) H → va_D A (w_X11_targetOf K g_t t_raised t_undos t_reached t_length t_begin t_sort t_value t_word t_wrongAt t_badAt t_bad t_read t_pictured t_x t_all t_loud) → va_S A s.heap H locs → lv_has ls 3 [(0, .ref (g_t 0)), (1, .int x1), (2, .int x2)] → J_X11_targetOf_23 t_all t_raised t_loud x1 x2 = some res → W p l e rmX11_targetOf s m args below meth c H locs 0 0 Q (F0 m 23 ls [.ref (g_t 0)]) := by
  obtain ⟨⟨hx, hb, hml, hown, hts⟩, hK, -⟩ := id C0
  intro t_raised t_loud x1 x2 H locs ls hP hD hS hl hF
  unfold J_X11_targetOf_23 at hF
  refine lv_iconst (v := 1) hx hb dX11_targetOf_23 (by decide) ?_
  exact w_X11_targetOf_24 C0 HR t_raised t_loud x1 x2 (1 : Int32) H locs ls hP hD hS (lv_sub hl [0, 1, 2] rfl) hF
def F_X11_targetOf (t_raised : Int32) (t_all : Nat → Int32) (t_loud : Nat → Int32) (x1 : Int32) (x2 : Int32) : Option (Int32 × Int32 × (Nat → Int32)) :=
  (F_X11_isTarget t_all x1).bind fun r_1 => (if r_1 = (0 : Int32) then (J_X11_targetOf_23 t_all t_raised t_loud x1 x2) else ((F_X11_in x2 (0 : Int32) (6 : Int32)).bind fun r_4 => (if r_4 = (0 : Int32) then (J_X11_targetOf_23 t_all t_raised t_loud x1 x2) else (J_X11_targetOf_24 t_all t_raised t_loud x1 x2 (0 : Int32)))))
set_option maxHeartbeats 4000000 in
set_option maxRecDepth 100000 in
theorem c_X11_targetOf (l : Launch) (D : va_G) (K : Nat → ClassId) (g_t : Nat → Nat) (t_raised : Int32) (t_undos : Int32) (t_reached : Int32) (t_length : Int32) (t_begin : Int32) (t_sort : Int32) (t_value : Int32) (t_word : Int64) (t_wrongAt : Int32) (t_badAt : Int32) (t_bad : Int32) (t_read : Int32) (t_pictured : Int32) (t_x : Int32) (t_all : Nat → Int32) (t_loud : Nat → Int32) (x1 : Int32) (x2 : Int32) (res : Int32 × Int32 × (Nat → Int32)) (hF : F_X11_targetOf t_raised t_all t_loud x1 x2 = some res) :
    Mi_ l yX11_targetOf wsX11_targetOf rmX11_targetOf D K [.ref (g_t 0), .int x1, .int x2] (w_X11_targetOf K g_t t_raised t_undos t_reached t_length t_begin t_sort t_value t_word t_wrongAt t_badAt t_bad t_read t_pictured t_x t_all t_loud) (w_X11_targetOf K g_t res.2.1 t_undos t_reached t_length t_begin t_sort t_value t_word t_wrongAt t_badAt t_bad t_read t_pictured t_x t_all res.2.2) (res.1) := by
  refine en_i (cc := cX11_targetOf) (maxL := 3) (own := RX11) (by decide) rfl rfl (Nat.le_of_ble_eq_true rfl) ?_
  intro p e s m args below meth c A Q H locs ls C0 hP hD hS hl HR
  obtain ⟨⟨hx, hb, hml, hown, hts⟩, hK, -⟩ := id C0
  have hl : lv_has ls 3 [(0, .ref (g_t 0)), (1, .int x1), (2, .int x2)] := hl
  unfold F_X11_targetOf at hF
  refine lv_aload_n hx hb dX11_targetOf_0 rfl (lv_at hl 0 rfl) ?_
  refine lv_aload_n hx hb dX11_targetOf_1 rfl (lv_at hl 0 rfl) ?_
  refine lv_iload_n hx hb dX11_targetOf_2 rfl (lv_at hl 1 rfl) ?_
  obtain ⟨r_1, hc_2, hF⟩ := bn_some hF
  refine xc_i (wn := (w_X11_targetOf K g_t t_raised t_undos t_reached t_length t_begin t_sort t_value t_word t_wrongAt t_badAt t_bad t_read t_pictured t_x t_all t_loud)) hP hD hS C0.2.2.1 [0, 1] [2] [1, 2, 0] rfl rfl (by decide) (by decide) rfl (by decide) (va_runV (As := [.int x1]) (rest := [.ref (g_t 0)]) C0.1 (c_X11_isTarget l D K g_t t_raised t_undos t_reached t_length t_begin t_sort t_value t_word t_wrongAt t_badAt t_bad t_read t_pictured t_x t_all x1 r_1 hc_2 H.size) (cwV 1 hts gX11_targetOf_X11_isTarget rfl rfl rfl (by decide +kernel) ⟨Nat.le_of_ble_eq_true rfl, Nat.le_of_ble_eq_true rfl⟩) (xp_V C0.2 hP hD hS [0, 1] rfl (by decide) 10 0 rfl rfl rfl) rfl rfl hl.1 rfl (lv_room (Nat.le_of_ble_eq_true rfl)) dX11_targetOf_3 ⟨Nat.le_of_ble_eq_true rfl, Nat.le_of_ble_eq_true rfl⟩) (fun H locs hP hD hS => ?_)
  refine lv_if_eq (tgt := 23) hx hb dX11_targetOf_6 (by decide) (fun c_3 => ?_) (fun c_3 => ?_)
  · have hF := it_pos c_3 hF
    exact w_X11_targetOf_23 C0 HR t_raised t_loud x1 x2 H locs ls hP hD hS (lv_sub hl [0, 1, 2] rfl) hF
  · have hF := it_neg c_3 hF
    refine lv_iload_n hx hb dX11_targetOf_9 rfl (lv_at hl 2 rfl) ?_
    refine lv_iconst (v := 0) hx hb dX11_targetOf_10 (by decide) ?_
    refine lv_bipush (v := 6) hx hb dX11_targetOf_11 (by decide) ?_
    obtain ⟨r_4, hc_5, hF⟩ := bn_some hF
    refine xc_i (wn := (w_X11_targetOf K g_t t_raised t_undos t_reached t_length t_begin t_sort t_value t_word t_wrongAt t_badAt t_bad t_read t_pictured t_x t_all t_loud)) hP hD hS C0.2.2.1 [] [0, 1, 2] [0, 1, 2] rfl rfl (by decide) (by decide) rfl (by decide) (va_runS (As := [.int x2, .int (0 : Int32), .int (6 : Int32)]) (rest := [.ref (g_t 0)]) C0.1 (c_X11_in l D K x2 (0 : Int32) (6 : Int32) r_4 hc_5 H.size) (va_cwS 3 hts gX11_targetOf_X11_in rfl rfl rfl (by decide +kernel) ⟨Nat.le_of_ble_eq_true rfl, Nat.le_of_ble_eq_true rfl⟩) (xp_S C0.2 hP hD hS [] rfl (by decide)) rfl rfl hl.1 rfl (lv_room (Nat.le_of_ble_eq_true rfl)) dX11_targetOf_13 ⟨Nat.le_of_ble_eq_true rfl, Nat.le_of_ble_eq_true rfl⟩) (fun H locs hP hD hS => ?_)
    refine lv_if_eq (tgt := 23) hx hb dX11_targetOf_16 (by decide) (fun c_6 => ?_) (fun c_6 => ?_)
    · have hF := it_pos c_6 hF
      exact w_X11_targetOf_23 C0 HR t_raised t_loud x1 x2 H locs ls hP hD hS (lv_sub hl [0, 1, 2] rfl) hF
    · have hF := it_neg c_6 hF
      refine lv_iconst (v := 0) hx hb dX11_targetOf_19 (by decide) ?_
      refine lv_goto (tgt := 24) hx hb dX11_targetOf_20 (by decide) ?_
      exact w_X11_targetOf_24 C0 HR t_raised t_loud x1 x2 (0 : Int32) H locs ls hP hD hS (lv_sub hl [0, 1, 2] rfl) hF
