/-! StaggerRadarModel.thrown()I -/
abbrev rmX11_thrown : Room := { frames := 0, cells := 0, slots := 0, locals := 0 }
theorem fl_X11_thrown_66 : Cond.fieldLink RX11 66 "StaggerRadarModel" "raised" "I" ∈ wsX11_thrown := by decide +kernel
theorem iw_X11_thrown_X11 : ∀ w ∈ u_ws RX11 TX11 30, w ∈ wsX11_thrown := by decide +kernel
abbrev w_X11_thrown (K : Nat → ClassId) (g_t : Nat → Nat) (t_raised : Int32) (t_undos : Int32) (t_reached : Int32) (t_length : Int32) (t_begin : Int32) (t_sort : Int32) (t_value : Int32) (t_word : Int64) (t_wrongAt : Int32) (t_badAt : Int32) (t_bad : Int32) (t_read : Int32) (t_pictured : Int32) (t_x : Int32) : va_W := [((g_t 0), .inr (10, [.int t_raised, .ref (g_t 2), .ref (g_t 3), .ref (g_t 4), .ref (g_t 5), .int t_undos, .int t_reached, .int t_length, .int t_begin, .int t_sort, .int t_value, .long t_word, .int t_wrongAt, .int t_badAt, .int t_bad, .ref (g_t 16), .int t_read, .ref (g_t 18), .ref (g_t 19), .ref (g_t 20), .int t_pictured, .ref (g_t 22), .ref (g_t 23), .ref (g_t 24), .ref (g_t 25), .ref (g_t 26), .int t_x, .ref (g_t 28), .ref (g_t 29), .ref (g_t 30)]))]
def F_X11_thrown (t_raised : Int32) : Option (Int32) :=
  some t_raised
set_option maxHeartbeats 4000000 in
set_option maxRecDepth 100000 in
theorem c_X11_thrown (l : Launch) (D : va_G) (K : Nat → ClassId) (g_t : Nat → Nat) (t_raised : Int32) (t_undos : Int32) (t_reached : Int32) (t_length : Int32) (t_begin : Int32) (t_sort : Int32) (t_value : Int32) (t_word : Int64) (t_wrongAt : Int32) (t_badAt : Int32) (t_bad : Int32) (t_read : Int32) (t_pictured : Int32) (t_x : Int32) (res : Int32) (hF : F_X11_thrown t_raised = some res) :
    Mi_ l yX11_thrown wsX11_thrown rmX11_thrown D K [.ref (g_t 0)] (w_X11_thrown K g_t t_raised t_undos t_reached t_length t_begin t_sort t_value t_word t_wrongAt t_badAt t_bad t_read t_pictured t_x) (w_X11_thrown K g_t t_raised t_undos t_reached t_length t_begin t_sort t_value t_word t_wrongAt t_badAt t_bad t_read t_pictured t_x) (res) := by
  refine en_i (cc := cX11_thrown) (maxL := 1) (own := RX11) (by decide) rfl rfl (Nat.le_of_ble_eq_true rfl) ?_
  intro p e s m args below meth c A Q H locs ls C0 hP hD hS hl HR
  obtain ⟨⟨hx, hb, hml, hown, hts⟩, hK, -⟩ := id C0
  have hl : lv_has ls 1 [(0, .ref (g_t 0))] := hl
  unfold F_X11_thrown at hF
  refine lv_aload_n hx hb dX11_thrown_0 rfl (lv_at hl 0 rfl) ?_
  refine va_get (D := D) (ci := 10) (v := .int t_raised) (C := RX11) (T := TX11) (N := 30) hx hb hts iw_X11_thrown_X11 hown hK hP 0 rfl rfl 0 (by decide) (hts _ fl_X11_thrown_66) (fun _ h9 => h9) rfl dX11_thrown_1 ?_
  obtain rfl := Option.some.inj hF
  exact HR 4 H locs ls dX11_thrown_4 hP hD hS

/-! StaggerRadarModel.track(II)I -/
abbrev rmX11_track : Room := { frames := 3, cells := 0, slots := 0, locals := 71 }
theorem fl_X11_track_7 : Cond.fieldLink RX11 7 "StaggerRadarModel" "all" "[I" ∈ wsX11_track := by decide +kernel
theorem fl_X11_track_42 : Cond.fieldLink RX11 42 "StaggerRadarModel" "which" "[I" ∈ wsX11_track := by decide +kernel
theorem fl_X11_track_66 : Cond.fieldLink RX11 66 "StaggerRadarModel" "raised" "I" ∈ wsX11_track := by decide +kernel
theorem ld_X11_track_297 : Cond.constant RX11 297 (-100000) ∈ wsX11_track := by decide +kernel
theorem iw_X11_track_X11 : ∀ w ∈ u_ws RX11 TX11 30, w ∈ wsX11_track := by decide +kernel
abbrev w_X11_track (K : Nat → ClassId) (g_t : Nat → Nat) (t_raised : Int32) (t_undos : Int32) (t_reached : Int32) (t_length : Int32) (t_begin : Int32) (t_sort : Int32) (t_value : Int32) (t_word : Int64) (t_wrongAt : Int32) (t_badAt : Int32) (t_bad : Int32) (t_read : Int32) (t_pictured : Int32) (t_x : Int32) (t_all : Nat → Int32) (t_which : Nat → Int32) : va_W := [((g_t 0), .inr (10, [.int t_raised, .ref (g_t 2), .ref (g_t 3), .ref (g_t 4), .ref (g_t 5), .int t_undos, .int t_reached, .int t_length, .int t_begin, .int t_sort, .int t_value, .long t_word, .int t_wrongAt, .int t_badAt, .int t_bad, .ref (g_t 16), .int t_read, .ref (g_t 18), .ref (g_t 19), .ref (g_t 20), .int t_pictured, .ref (g_t 22), .ref (g_t 23), .ref (g_t 24), .ref (g_t 25), .ref (g_t 26), .int t_x, .ref (g_t 28), .ref (g_t 29), .ref (g_t 30)])), ((g_t 2), .inl (K 0, 500, .inl t_all)), ((g_t 24), .inl (K 0, 4, .inl t_which))]
def J_X11_track_153 (t_all : Nat → Int32) (t_raised : Int32) (t_which : Nat → Int32) (x2 : Int32) : Option (Int32 × Int32 × (Nat → Int32)) :=
  if (10 : Int32) ≤ x2 then ((F_X11_numberAt t_all t_which ((t_all 40) - (1 : Int32))).bind fun r_2 => ((F_X11_numberAt t_all t_which (0 : Int32)).bind fun r_4 => ((F_X11_lookAt t_all ((t_all 40) - (1 : Int32)) (0 : Int32)).bind fun r_6 => ((F_X11_lookAt t_all (0 : Int32) (0 : Int32)).bind fun r_8 => (gd_ (decide (¬ (r_6 - r_8) = 0)) (some ((((16 : Int32) * (r_2 - r_4)) / (r_6 - r_8)), t_raised, t_which))))))) else ((F_X11_numberAt t_all t_which x2).bind fun r_11 => (some (r_11, t_raised, t_which)))
set_option maxHeartbeats 4000000 in
set_option maxRecDepth 100000 in
theorem w_X11_track_153 {p : Program} {l : Launch} {e : Env} {s : State} {m : MethodId} {args : Array Value} {below : List Frame} {meth : Method} {c : Code} {D : va_G} {K : Nat → ClassId} {A : Nat → Prop} {Q : State → Prop} (C0 : cx_ p s m args c cX11_track 8 RX11 wsX11_track D K A) {g_t : Nat → Nat} {t_undos : Int32} {t_reached : Int32} {t_length : Int32} {t_begin : Int32} {t_sort : Int32} {t_value : Int32} {t_word : Int64} {t_wrongAt : Int32} {t_badAt : Int32} {t_bad : Int32} {t_read : Int32} {t_pictured : Int32} {t_x : Int32} {t_all : Nat → Int32} {res : Int32 × Int32 × (Nat → Int32)} (HR : ∀ (pc : Nat) (H : Heap) (locs : List Loc) (ls : Array Slot), decode cX11_track pc = .ok (.ireturn, 1) → va_P D vwCl (w_X11_track K g_t res.2.1 t_undos t_reached t_length t_begin t_sort t_value t_word t_wrongAt t_badAt t_bad t_read t_pictured t_x t_all res.2.2) H → va_D A (w_X11_track K g_t res.2.1 t_undos t_reached t_length t_begin t_sort t_value t_word t_wrongAt t_badAt t_bad t_read t_pictured t_x t_all res.2.2) → va_S A s.heap H locs → W p l e rmX11_track s m args below meth c H locs 0 0 Q (F0 m pc ls [.int res.1]))  :
    ∀ (t_raised : Int32) (t_which : Nat → Int32) (x2 : Int32) (H : Heap) (locs : List Loc) (ls : Array Slot), va_P D vwCl (w_X11_track K g_t t_raised t_undos t_reached t_length t_begin t_sort t_value t_word t_wrongAt t_badAt t_bad t_read t_pictured t_x t_all t_which) H → va_D A (w_X11_track K g_t t_raised t_undos t_reached t_length t_begin t_sort t_value t_word t_wrongAt t_badAt t_bad t_read t_pictured t_x t_all t_which) → va_S A s.heap H locs → lv_has ls 8 [(0, .ref (g_t 0)), (2, .int x2)] → J_X11_track_153 t_all t_raised t_which x2 = some res → W p l e rmX11_track s m args below meth c H locs 0 0 Q (F0 m 153 ls []) := by
  obtain ⟨⟨hx, hb, hml, hown, hts⟩, hK, -⟩ := id C0
  intro t_raised t_which x2 H locs ls hP hD hS hl hF
  unfold J_X11_track_153 at hF
  refine lv_aload_n hx hb dX11_track_153 rfl (lv_at hl 0 rfl) ?_
  refine va_get (D := D) (ci := 10) (v := .ref (g_t 2)) (C := RX11) (T := TX11) (N := 30) hx hb hts iw_X11_track_X11 hown hK hP 0 rfl rfl 1 (by decide) (hts _ fl_X11_track_7) (fun _ h9 => h9) rfl dX11_track_154 ?_
  refine lv_bipush (v := 40) hx hb dX11_track_157 (by decide) ?_
  refine xl_i (f := t_all) hx hb hK hP 1 0 rfl rfl (k := 40) (by decide) (in_v (by decide)) dX11_track_159 ?_
  refine lv_iconst (v := 1) hx hb dX11_track_160 (by decide) ?_
  refine lv_isub hx hb dX11_track_161 ?_
  refine lv_istore (lv' := [(7, .int ((t_all 40) - (1 : Int32))), (0, .ref (g_t 0)), (2, .int x2)]) hx hb dX11_track_162 hl (by decide) rfl (fun ls hl => ?_)
  refine lv_iload_n hx hb dX11_track_164 rfl (lv_at hl 2 rfl) ?_
  refine lv_bipush (v := 10) hx hb dX11_track_165 (by decide) ?_
  refine lv_icmp_ge (tgt := 178) hx hb dX11_track_167 (by decide) (fun c_1 => ?_) (fun c_1 => ?_)
  · have hF := it_pos c_1 hF
    refine lv_bipush (v := 16) hx hb dX11_track_178 (by decide) ?_
    refine lv_aload_n hx hb dX11_track_180 rfl (lv_at hl 1 rfl) ?_
    refine lv_iload hx hb dX11_track_181 (lv_at hl 0 rfl) ?_
    obtain ⟨r_2, hc_3, hF⟩ := bn_some hF
    refine xc_i (wn := (w_X11_track K g_t t_raised t_undos t_reached t_length t_begin t_sort t_value t_word t_wrongAt t_badAt t_bad t_read t_pictured t_x t_all t_which)) hP hD hS C0.2.2.1 [0, 1, 2] [] [0, 1, 2] rfl rfl (by decide) (by decide) rfl (by decide) (va_runV (As := [.int ((t_all 40) - (1 : Int32))]) (rest := [.int (16 : Int32)]) C0.1 (c_X11_numberAt l D K g_t t_raised t_undos t_reached t_length t_begin t_sort t_value t_word t_wrongAt t_badAt t_bad t_read t_pictured t_x t_all t_which ((t_all 40) - (1 : Int32)) r_2 hc_3 H.size) (cwV 1 hts gX11_track_X11_numberAt rfl rfl rfl (by decide +kernel) ⟨Nat.le_of_ble_eq_true rfl, Nat.le_of_ble_eq_true rfl⟩) (xp_V C0.2 hP hD hS [0, 1, 2] rfl (by decide) 10 0 rfl rfl rfl) rfl rfl hl.1 rfl (lv_room (Nat.le_of_ble_eq_true rfl)) dX11_track_183 ⟨Nat.le_of_ble_eq_true rfl, Nat.le_of_ble_eq_true rfl⟩) (fun H locs hP hD hS => ?_)
    refine lv_aload_n hx hb dX11_track_186 rfl (lv_at hl 1 rfl) ?_
    refine lv_iconst (v := 0) hx hb dX11_track_187 (by decide) ?_
    obtain ⟨r_4, hc_5, hF⟩ := bn_some hF
    refine xc_i (wn := (w_X11_track K g_t t_raised t_undos t_reached t_length t_begin t_sort t_value t_word t_wrongAt t_badAt t_bad t_read t_pictured t_x t_all t_which)) hP hD hS C0.2.2.1 [0, 1, 2] [] [0, 1, 2] rfl rfl (by decide) (by decide) rfl (by decide) (va_runV (As := [.int (0 : Int32)]) (rest := [.int r_2, .int (16 : Int32)]) C0.1 (c_X11_numberAt l D K g_t t_raised t_undos t_reached t_length t_begin t_sort t_value t_word t_wrongAt t_badAt t_bad t_read t_pictured t_x t_all t_which (0 : Int32) r_4 hc_5 H.size) (cwV 1 hts gX11_track_X11_numberAt rfl rfl rfl (by decide +kernel) ⟨Nat.le_of_ble_eq_true rfl, Nat.le_of_ble_eq_true rfl⟩) (xp_V C0.2 hP hD hS [0, 1, 2] rfl (by decide) 10 0 rfl rfl rfl) rfl rfl hl.1 rfl (lv_room (Nat.le_of_ble_eq_true rfl)) dX11_track_188 ⟨Nat.le_of_ble_eq_true rfl, Nat.le_of_ble_eq_true rfl⟩) (fun H locs hP hD hS => ?_)
    refine lv_isub hx hb dX11_track_191 ?_
    refine lv_imul hx hb dX11_track_192 ?_
    refine lv_aload_n hx hb dX11_track_193 rfl (lv_at hl 1 rfl) ?_
    refine lv_iload hx hb dX11_track_194 (lv_at hl 0 rfl) ?_
    refine lv_iconst (v := 0) hx hb dX11_track_196 (by decide) ?_
    obtain ⟨r_6, hc_7, hF⟩ := bn_some hF
    refine xc_i (wn := (w_X11_track K g_t t_raised t_undos t_reached t_length t_begin t_sort t_value t_word t_wrongAt t_badAt t_bad t_read t_pictured t_x t_all t_which)) hP hD hS C0.2.2.1 [0, 1] [2] [1, 2, 0] rfl rfl (by decide) (by decide) rfl (by decide) (va_runV (As := [.int ((t_all 40) - (1 : Int32)), .int (0 : Int32)]) (rest := [.int ((16 : Int32) * (r_2 - r_4))]) C0.1 (c_X11_lookAt l D K g_t t_raised t_undos t_reached t_length t_begin t_sort t_value t_word t_wrongAt t_badAt t_bad t_read t_pictured t_x t_all ((t_all 40) - (1 : Int32)) (0 : Int32) r_6 hc_7 H.size) (cwV 2 hts gX11_track_X11_lookAt rfl rfl rfl (by decide +kernel) ⟨Nat.le_of_ble_eq_true rfl, Nat.le_of_ble_eq_true rfl⟩) (xp_V C0.2 hP hD hS [0, 1] rfl (by decide) 10 0 rfl rfl rfl) rfl rfl hl.1 rfl (lv_room (Nat.le_of_ble_eq_true rfl)) dX11_track_197 ⟨Nat.le_of_ble_eq_true rfl, Nat.le_of_ble_eq_true rfl⟩) (fun H locs hP hD hS => ?_)
    refine lv_aload_n hx hb dX11_track_200 rfl (lv_at hl 1 rfl) ?_
    refine lv_iconst (v := 0) hx hb dX11_track_201 (by decide) ?_
    refine lv_iconst (v := 0) hx hb dX11_track_202 (by decide) ?_
    obtain ⟨r_8, hc_9, hF⟩ := bn_some hF
    refine xc_i (wn := (w_X11_track K g_t t_raised t_undos t_reached t_length t_begin t_sort t_value t_word t_wrongAt t_badAt t_bad t_read t_pictured t_x t_all t_which)) hP hD hS C0.2.2.1 [0, 1] [2] [1, 2, 0] rfl rfl (by decide) (by decide) rfl (by decide) (va_runV (As := [.int (0 : Int32), .int (0 : Int32)]) (rest := [.int r_6, .int ((16 : Int32) * (r_2 - r_4))]) C0.1 (c_X11_lookAt l D K g_t t_raised t_undos t_reached t_length t_begin t_sort t_value t_word t_wrongAt t_badAt t_bad t_read t_pictured t_x t_all (0 : Int32) (0 : Int32) r_8 hc_9 H.size) (cwV 2 hts gX11_track_X11_lookAt rfl rfl rfl (by decide +kernel) ⟨Nat.le_of_ble_eq_true rfl, Nat.le_of_ble_eq_true rfl⟩) (xp_V C0.2 hP hD hS [0, 1] rfl (by decide) 10 0 rfl rfl rfl) rfl rfl hl.1 rfl (lv_room (Nat.le_of_ble_eq_true rfl)) dX11_track_203 ⟨Nat.le_of_ble_eq_true rfl, Nat.le_of_ble_eq_true rfl⟩) (fun H locs hP hD hS => ?_)
    refine lv_isub hx hb dX11_track_206 ?_
    obtain ⟨hg_10, hF⟩ := gd_some hF
    refine lv_idiv hx hb dX11_track_207 (ne_of hg_10) ?_
    obtain rfl := Option.some.inj hF
    exact HR 208 H locs ls dX11_track_208 hP hD hS
  · have hF := it_neg c_1 hF
    refine lv_aload_n hx hb dX11_track_170 rfl (lv_at hl 1 rfl) ?_
    refine lv_iload_n hx hb dX11_track_171 rfl (lv_at hl 2 rfl) ?_
    obtain ⟨r_11, hc_12, hF⟩ := bn_some hF
    refine xc_i (wn := (w_X11_track K g_t t_raised t_undos t_reached t_length t_begin t_sort t_value t_word t_wrongAt t_badAt t_bad t_read t_pictured t_x t_all t_which)) hP hD hS C0.2.2.1 [0, 1, 2] [] [0, 1, 2] rfl rfl (by decide) (by decide) rfl (by decide) (va_runV (As := [.int x2]) (rest := []) C0.1 (c_X11_numberAt l D K g_t t_raised t_undos t_reached t_length t_begin t_sort t_value t_word t_wrongAt t_badAt t_bad t_read t_pictured t_x t_all t_which x2 r_11 hc_12 H.size) (cwV 1 hts gX11_track_X11_numberAt rfl rfl rfl (by decide +kernel) ⟨Nat.le_of_ble_eq_true rfl, Nat.le_of_ble_eq_true rfl⟩) (xp_V C0.2 hP hD hS [0, 1, 2] rfl (by decide) 10 0 rfl rfl rfl) rfl rfl hl.1 rfl (lv_room (Nat.le_of_ble_eq_true rfl)) dX11_track_172 ⟨Nat.le_of_ble_eq_true rfl, Nat.le_of_ble_eq_true rfl⟩) (fun H locs hP hD hS => ?_)
    refine lv_goto (tgt := 208) hx hb dX11_track_175 (by decide) ?_
    obtain rfl := Option.some.inj hF
    exact HR 208 H locs ls dX11_track_208 hP hD hS
def J_X11_track_212 (t_all : Nat → Int32) (k_126 : Int32 → (Nat → Int32) → Int32 → Int32 → Int32 → Int32 → Int32 → Int32 → Option (Int32 × Int32 × (Nat → Int32))) (t_raised : Int32) (t_which : Nat → Int32) (x1 : Int32) (x2 : Int32) (x3 : Int32) (x4 : Int32) (x6 : Int32) : Option (Int32 × Int32 × (Nat → Int32)) :=
  (F_X11_goesOn t_all t_which).bind fun r_1 => (k_126 t_raised r_1.2 x1 x2 x3 x4 r_1.1 x6)
set_option maxHeartbeats 4000000 in
set_option maxRecDepth 100000 in
theorem w_X11_track_212 {p : Program} {l : Launch} {e : Env} {s : State} {m : MethodId} {args : Array Value} {below : List Frame} {meth : Method} {c : Code} {D : va_G} {K : Nat → ClassId} {A : Nat → Prop} {Q : State → Prop} (C0 : cx_ p s m args c cX11_track 8 RX11 wsX11_track D K A) {g_t : Nat → Nat} {t_undos : Int32} {t_reached : Int32} {t_length : Int32} {t_begin : Int32} {t_sort : Int32} {t_value : Int32} {t_word : Int64} {t_wrongAt : Int32} {t_badAt : Int32} {t_bad : Int32} {t_read : Int32} {t_pictured : Int32} {t_x : Int32} {t_all : Nat → Int32} {res : Int32 × Int32 × (Nat → Int32)} (HR : ∀ (pc : Nat) (H : Heap) (locs : List Loc) (ls : Array Slot), decode cX11_track pc = .ok (.ireturn, 1) → va_P D vwCl (w_X11_track K g_t res.2.1 t_undos t_reached t_length t_begin t_sort t_value t_word t_wrongAt t_badAt t_bad t_read t_pictured t_x t_all res.2.2) H → va_D A (w_X11_track K g_t res.2.1 t_undos t_reached t_length t_begin t_sort t_value t_word t_wrongAt t_badAt t_bad t_read t_pictured t_x t_all res.2.2) → va_S A s.heap H locs → W p l e rmX11_track s m args below meth c H locs 0 0 Q (F0 m pc ls [.int res.1])) {k_126 : Int32 → (Nat → Int32) → Int32 → Int32 → Int32 → Int32 → Int32 → Int32 → Option (Int32 × Int32 × (Nat → Int32))} (HK_126 : ∀ (t_raised : Int32) (t_which : Nat → Int32) (x1 : Int32) (x2 : Int32) (x3 : Int32) (x4 : Int32) (x5 : Int32) (x6 : Int32) (H : Heap) (locs : List Loc) (ls : Array Slot), va_P D vwCl (w_X11_track K g_t t_raised t_undos t_reached t_length t_begin t_sort t_value t_word t_wrongAt t_badAt t_bad t_read t_pictured t_x t_all t_which) H → va_D A (w_X11_track K g_t t_raised t_undos t_reached t_length t_begin t_sort t_value t_word t_wrongAt t_badAt t_bad t_read t_pictured t_x t_all t_which) → va_S A s.heap H locs → lv_has ls 8 [(0, .ref (g_t 0)), (1, .int x1), (2, .int x2), (3, .int x3), (4, .int x4), (5, .int x5), (6, .int x6)] → k_126 t_raised t_which x1 x2 x3 x4 x5 x6 = some res → W p l e rmX11_track s m args below meth c H locs 0 0 Q (F0 m 126 ls [])) :
    ∀ (t_raised : Int32) (t_which : Nat → Int32) (x1 : Int32) (x2 : Int32) (x3 : Int32) (x4 : Int32) (x6 : Int32) (H : Heap) (locs : List Loc) (ls : Array Slot), va_P D vwCl (w_X11_track K g_t t_raised t_undos t_reached t_length t_begin t_sort t_value t_word t_wrongAt t_badAt t_bad t_read t_pictured t_x t_all t_which) H → va_D A (w_X11_track K g_t t_raised t_undos t_reached t_length t_begin t_sort t_value t_word t_wrongAt t_badAt t_bad t_read t_pictured t_x t_all t_which) → va_S A s.heap H locs → lv_has ls 8 [(0, .ref (g_t 0)), (1, .int x1), (2, .int x2), (3, .int x3), (4, .int x4), (6, .int x6)] → J_X11_track_212 t_all k_126 t_raised t_which x1 x2 x3 x4 x6 = some res → W p l e rmX11_track s m args below meth c H locs 0 0 Q (F0 m 212 ls []) := by
  obtain ⟨⟨hx, hb, hml, hown, hts⟩, hK, -⟩ := id C0
  intro t_raised t_which x1 x2 x3 x4 x6 H locs ls hP hD hS hl hF
  unfold J_X11_track_212 at hF
  refine lv_aload_n hx hb dX11_track_212 rfl (lv_at hl 0 rfl) ?_
  obtain ⟨r_1, hc_2, hF⟩ := bn_some hF
  refine xc_i (wn := (w_X11_track K g_t t_raised t_undos t_reached t_length t_begin t_sort t_value t_word t_wrongAt t_badAt t_bad t_read t_pictured t_x t_all r_1.2)) hP hD hS C0.2.2.1 [0, 1, 2] [] [0, 1, 2] rfl rfl (by decide) (by decide) rfl (by decide) (va_runV (As := []) (rest := []) C0.1 (c_X11_goesOn l D K g_t t_raised t_undos t_reached t_length t_begin t_sort t_value t_word t_wrongAt t_badAt t_bad t_read t_pictured t_x t_all t_which r_1 hc_2 H.size) (cwV 0 hts gX11_track_X11_goesOn rfl rfl rfl (by decide +kernel) ⟨Nat.le_of_ble_eq_true rfl, Nat.le_of_ble_eq_true rfl⟩) (xp_V C0.2 hP hD hS [0, 1, 2] rfl (by decide) 10 0 rfl rfl rfl) rfl rfl hl.1 rfl (lv_room (Nat.le_of_ble_eq_true rfl)) dX11_track_213 ⟨Nat.le_of_ble_eq_true rfl, Nat.le_of_ble_eq_true rfl⟩) (fun H locs hP hD hS => ?_)
  refine lv_istore (lv' := [(5, .int r_1.1), (0, .ref (g_t 0)), (1, .int x1), (2, .int x2), (3, .int x3), (4, .int x4), (6, .int x6)]) hx hb dX11_track_216 hl (by decide) rfl (fun ls hl => ?_)
  refine lv_goto (tgt := 126) hx hb dX11_track_218 (by decide) ?_
  exact HK_126 t_raised r_1.2 x1 x2 x3 x4 r_1.1 x6 H locs ls hP hD hS (lv_sub hl [1, 2, 3, 4, 5, 0, 6] rfl) hF
def J_X11_track_140 (t_all : Nat → Int32) (k_126 : Int32 → (Nat → Int32) → Int32 → Int32 → Int32 → Int32 → Int32 → Int32 → Option (Int32 × Int32 × (Nat → Int32))) (t_raised : Int32) (t_which : Nat → Int32) (x1 : Int32) (x2 : Int32) (x3 : Int32) (x4 : Int32) (x6 : Int32) : Option (Int32 × Int32 × (Nat → Int32)) :=
  (F_X11_isTrack t_all t_which).bind fun r_1 => (if r_1 = (0 : Int32) then (J_X11_track_212 t_all k_126 t_raised t_which x1 x2 x3 x4 x6) else (if x6 = x1 then (J_X11_track_153 t_all t_raised t_which x2) else (J_X11_track_212 t_all k_126 t_raised t_which x1 x2 x3 x4 (x6 + (1 : Int32)))))
set_option maxHeartbeats 4000000 in
set_option maxRecDepth 100000 in
theorem w_X11_track_140 {p : Program} {l : Launch} {e : Env} {s : State} {m : MethodId} {args : Array Value} {below : List Frame} {meth : Method} {c : Code} {D : va_G} {K : Nat → ClassId} {A : Nat → Prop} {Q : State → Prop} (C0 : cx_ p s m args c cX11_track 8 RX11 wsX11_track D K A) {g_t : Nat → Nat} {t_undos : Int32} {t_reached : Int32} {t_length : Int32} {t_begin : Int32} {t_sort : Int32} {t_value : Int32} {t_word : Int64} {t_wrongAt : Int32} {t_badAt : Int32} {t_bad : Int32} {t_read : Int32} {t_pictured : Int32} {t_x : Int32} {t_all : Nat → Int32} {res : Int32 × Int32 × (Nat → Int32)} (HR : ∀ (pc : Nat) (H : Heap) (locs : List Loc) (ls : Array Slot), decode cX11_track pc = .ok (.ireturn, 1) → va_P D vwCl (w_X11_track K g_t res.2.1 t_undos t_reached t_length t_begin t_sort t_value t_word t_wrongAt t_badAt t_bad t_read t_pictured t_x t_all res.2.2) H → va_D A (w_X11_track K g_t res.2.1 t_undos t_reached t_length t_begin t_sort t_value t_word t_wrongAt t_badAt t_bad t_read t_pictured t_x t_all res.2.2) → va_S A s.heap H locs → W p l e rmX11_track s m args below meth c H locs 0 0 Q (F0 m pc ls [.int res.1])) {k_126 : Int32 → (Nat → Int32) → Int32 → Int32 → Int32 → Int32 → Int32 → Int32 → Option (Int32 × Int32 × (Nat → Int32))} (HK_126 : ∀ (t_raised : Int32) (t_which : Nat → Int32) (x1 : Int32) (x2 : Int32) (x3 : Int32) (x4 : Int32) (x5 : Int32) (x6 : Int32) (H : Heap) (locs : List Loc) (ls : Array Slot), va_P D vwCl (w_X11_track K g_t t_raised t_undos t_reached t_length t_begin t_sort t_value t_word t_wrongAt t_badAt t_bad t_read t_pictured t_x t_all t_which) H → va_D A (w_X11_track K g_t t_raised t_undos t_reached t_length t_begin t_sort t_value t_word t_wrongAt t_badAt t_bad t_read t_pictured t_x t_all t_which) → va_S A s.heap H locs → lv_has ls 8 [(0, .ref (g_t 0)), (1, .int x1), (2, .int x2), (3, .int x3), (4, .int x4), (5, .int x5), (6, .int x6)] → k_126 t_raised t_which x1 x2 x3 x4 x5 x6 = some res → W p l e rmX11_track s m args below meth c H locs 0 0 Q (F0 m 126 ls [])) :
    ∀ (t_raised : Int32) (t_which : Nat → Int32) (x1 : Int32) (x2 : Int32) (x3 : Int32) (x4 : Int32) (x6 : Int32) (H : Heap) (locs : List Loc) (ls : Array Slot), va_P D vwCl (w_X11_track K g_t t_raised t_undos t_reached t_length t_begin t_sort t_value t_word t_wrongAt t_badAt t_bad t_read t_pictured t_x t_all t_which) H → va_D A (w_X11_track K g_t t_raised t_undos t_reached t_length t_begin t_sort t_value t_word t_wrongAt t_badAt t_bad t_read t_pictured t_x t_all t_which) → va_S A s.heap H locs → lv_has ls 8 [(0, .ref (g_t 0)), (1, .int x1), (2, .int x2), (3, .int x3), (4, .int x4), (6, .int x6)] → J_X11_track_140 t_all k_126 t_raised t_which x1 x2 x3 x4 x6 = some res → W p l e rmX11_track s m args below meth c H locs 0 0 Q (F0 m 140 ls []) := by
  obtain ⟨⟨hx, hb, hml, hown, hts⟩, hK, -⟩ := id C0
  intro t_raised t_which x1 x2 x3 x4 x6 H locs ls hP hD hS hl hF
  unfold J_X11_track_140 at hF
  refine lv_aload_n hx hb dX11_track_140 rfl (lv_at hl 0 rfl) ?_
  obtain ⟨r_1, hc_2, hF⟩ := bn_some hF
  refine xc_i (wn := (w_X11_track K g_t t_raised t_undos t_reached t_length t_begin t_sort t_value t_word t_wrongAt t_badAt t_bad t_read t_pictured t_x t_all t_which)) hP hD hS C0.2.2.1 [0, 1, 2] [] [0, 1, 2] rfl rfl (by decide) (by decide) rfl (by decide) (va_runV (As := []) (rest := []) C0.1 (c_X11_isTrack l D K g_t t_raised t_undos t_reached t_length t_begin t_sort t_value t_word t_wrongAt t_badAt t_bad t_read t_pictured t_x t_all t_which r_1 hc_2 H.size) (cwV 0 hts gX11_track_X11_isTrack rfl rfl rfl (by decide +kernel) ⟨Nat.le_of_ble_eq_true rfl, Nat.le_of_ble_eq_true rfl⟩) (xp_V C0.2 hP hD hS [0, 1, 2] rfl (by decide) 10 0 rfl rfl rfl) rfl rfl hl.1 rfl (lv_room (Nat.le_of_ble_eq_true rfl)) dX11_track_141 ⟨Nat.le_of_ble_eq_true rfl, Nat.le_of_ble_eq_true rfl⟩) (fun H locs hP hD hS => ?_)
  refine lv_if_eq (tgt := 212) hx hb dX11_track_144 (by decide) (fun c_3 => ?_) (fun c_3 => ?_)
  · have hF := it_pos c_3 hF
    exact w_X11_track_212 C0 HR HK_126 t_raised t_which x1 x2 x3 x4 x6 H locs ls hP hD hS (lv_sub hl [0, 1, 2, 3, 4, 5] rfl) hF
  · have hF := it_neg c_3 hF
    refine lv_iload hx hb dX11_track_147 (lv_at hl 5 rfl) ?_
    refine lv_iload_n hx hb dX11_track_149 rfl (lv_at hl 1 rfl) ?_
    refine lv_icmp_ne (tgt := 209) hx hb dX11_track_150 (by decide) (fun c_4 => ?_) (fun c_4 => ?_)
    · have hF := it_neg c_4 hF
      refine lv_iinc (v := (x6 + (1 : Int32))) (lv' := [(6, .int (x6 + (1 : Int32))), (0, .ref (g_t 0)), (1, .int x1), (2, .int x2), (3, .int x3), (4, .int x4)]) hx hb dX11_track_209 hl (k := 5) rfl (congrArg (fun z => x6 + z) (by decide)) (by decide) rfl (fun ls hl => ?_)
      exact w_X11_track_212 C0 HR HK_126 t_raised t_which x1 x2 x3 x4 (x6 + (1 : Int32)) H locs ls hP hD hS (lv_sub hl [1, 2, 3, 4, 5, 0] rfl) hF
    · have hF := it_pos c_4 hF
      exact w_X11_track_153 C0 HR t_raised t_which x2 H locs ls hP hD hS (lv_sub hl [0, 2] rfl) hF
def J_X11_track_221 (t_all : Nat → Int32) (t_raised : Int32) (t_which : Nat → Int32) (x3 : Int32) (x6 : Int32) : Option (Int32 × Int32 × (Nat → Int32)) :=
  if x3 = (0 : Int32) then (some ((-100000 : Int32), t_raised, t_which)) else (some (x6, t_raised, t_which))
set_option maxHeartbeats 4000000 in
set_option maxRecDepth 100000 in
theorem w_X11_track_221 {p : Program} {l : Launch} {e : Env} {s : State} {m : MethodId} {args : Array Value} {below : List Frame} {meth : Method} {c : Code} {D : va_G} {K : Nat → ClassId} {A : Nat → Prop} {Q : State → Prop} (C0 : cx_ p s m args c cX11_track 8 RX11 wsX11_track D K A) {g_t : Nat → Nat} {t_undos : Int32} {t_reached : Int32} {t_length : Int32} {t_begin : Int32} {t_sort : Int32} {t_value : Int32} {t_word : Int64} {t_wrongAt : Int32} {t_badAt : Int32} {t_bad : Int32} {t_read : Int32} {t_pictured : Int32} {t_x : Int32} {t_all : Nat → Int32} {res : Int32 × Int32 × (Nat → Int32)} (HR : ∀ (pc : Nat) (H : Heap) (locs : List Loc) (ls : Array Slot), decode cX11_track pc = .ok (.ireturn, 1) → va_P D vwCl (w_X11_track K g_t res.2.1 t_undos t_reached t_length t_begin t_sort t_value t_word t_wrongAt t_badAt t_bad t_read t_pictured t_x t_all res.2.2) H → va_D A (w_X11_track K g_t res.2.1 t_undos t_reached t_length t_begin t_sort t_value t_word t_wrongAt t_badAt t_bad t_read t_pictured t_x t_all res.2.2) → va_S A s.heap H locs → W p l e rmX11_track s m args below meth c H locs 0 0 Q (F0 m pc ls [.int res.1]))  :
    ∀ (t_raised : Int32) (t_which : Nat → Int32) (x3 : Int32) (x6 : Int32) (H : Heap) (locs : List Loc) (ls : Array Slot), va_P D vwCl (w_X11_track K g_t t_raised t_undos t_reached t_length t_begin t_sort t_value t_word t_wrongAt t_badAt t_bad t_read t_pictured t_x t_all t_which) H → va_D A (w_X11_track K g_t t_raised t_undos t_reached t_length t_begin t_sort t_value t_word t_wrongAt t_badAt t_bad t_read t_pictured t_x t_all t_which) → va_S A s.heap H locs → lv_has ls 8 [(3, .int x3), (6, .int x6)] → J_X11_track_221 t_all t_raised t_which x3 x6 = some res → W p l e rmX11_track s m args below meth c H locs 0 0 Q (F0 m 221 ls []) := by
  obtain ⟨⟨hx, hb, hml, hown, hts⟩, hK, -⟩ := id C0
  intro t_raised t_which x3 x6 H locs ls hP hD hS hl hF
  unfold J_X11_track_221 at hF
  refine lv_iload_n hx hb dX11_track_221 rfl (lv_at hl 0 rfl) ?_
  refine lv_if_eq (tgt := 230) hx hb dX11_track_222 (by decide) (fun c_1 => ?_) (fun c_1 => ?_)
  · have hF := it_pos c_1 hF
    refine lv_ldcw (v := -100000) hx hb hown (hts _ ld_X11_track_297) dX11_track_230 ?_
    obtain rfl := Option.some.inj hF
    exact HR 233 H locs ls dX11_track_233 hP hD hS
  · have hF := it_neg c_1 hF
    refine lv_iload hx hb dX11_track_225 (lv_at hl 1 rfl) ?_
    refine lv_goto (tgt := 233) hx hb dX11_track_227 (by decide) ?_
    obtain rfl := Option.some.inj hF
    exact HR 233 H locs ls dX11_track_233 hP hD hS
def L_X11_track_126 (t_all : Nat → Int32) : Nat → Int32 → (Nat → Int32) → Int32 → Int32 → Int32 → Int32 → Int32 → Int32 → Option (Int32 × Int32 × (Nat → Int32))
  | 0, _, _, _, _, _, _, _, _ => none
  | n_ + 1, t_raised, t_which, x1, x2, x3, x4, x5, x6 =>
    if x5 = (0 : Int32) then (J_X11_track_221 t_all t_raised t_which x3 x6) else (if x3 = (0 : Int32) then (if x4 = (0 : Int32) then (J_X11_track_221 t_all t_raised t_which x3 x6) else (J_X11_track_140 t_all (L_X11_track_126 t_all n_) t_raised t_which x1 x2 x3 x4 x6)) else (J_X11_track_140 t_all (L_X11_track_126 t_all n_) t_raised t_which x1 x2 x3 x4 x6))
set_option maxHeartbeats 4000000 in
set_option maxRecDepth 100000 in
theorem w_X11_track_126 {p : Program} {l : Launch} {e : Env} {s : State} {m : MethodId} {args : Array Value} {below : List Frame} {meth : Method} {c : Code} {D : va_G} {K : Nat → ClassId} {A : Nat → Prop} {Q : State → Prop} (C0 : cx_ p s m args c cX11_track 8 RX11 wsX11_track D K A) {g_t : Nat → Nat} {t_undos : Int32} {t_reached : Int32} {t_length : Int32} {t_begin : Int32} {t_sort : Int32} {t_value : Int32} {t_word : Int64} {t_wrongAt : Int32} {t_badAt : Int32} {t_bad : Int32} {t_read : Int32} {t_pictured : Int32} {t_x : Int32} {t_all : Nat → Int32} {res : Int32 × Int32 × (Nat → Int32)} (HR : ∀ (pc : Nat) (H : Heap) (locs : List Loc) (ls : Array Slot), decode cX11_track pc = .ok (.ireturn, 1) → va_P D vwCl (w_X11_track K g_t res.2.1 t_undos t_reached t_length t_begin t_sort t_value t_word t_wrongAt t_badAt t_bad t_read t_pictured t_x t_all res.2.2) H → va_D A (w_X11_track K g_t res.2.1 t_undos t_reached t_length t_begin t_sort t_value t_word t_wrongAt t_badAt t_bad t_read t_pictured t_x t_all res.2.2) → va_S A s.heap H locs → W p l e rmX11_track s m args below meth c H locs 0 0 Q (F0 m pc ls [.int res.1]))  :
    ∀ (n_ : Nat) (t_raised : Int32) (t_which : Nat → Int32) (x1 : Int32) (x2 : Int32) (x3 : Int32) (x4 : Int32) (x5 : Int32) (x6 : Int32) (H : Heap) (locs : List Loc) (ls : Array Slot), va_P D vwCl (w_X11_track K g_t t_raised t_undos t_reached t_length t_begin t_sort t_value t_word t_wrongAt t_badAt t_bad t_read t_pictured t_x t_all t_which) H → va_D A (w_X11_track K g_t t_raised t_undos t_reached t_length t_begin t_sort t_value t_word t_wrongAt t_badAt t_bad t_read t_pictured t_x t_all t_which) → va_S A s.heap H locs → lv_has ls 8 [(0, .ref (g_t 0)), (1, .int x1), (2, .int x2), (3, .int x3), (4, .int x4), (5, .int x5), (6, .int x6)] → L_X11_track_126 t_all n_ t_raised t_which x1 x2 x3 x4 x5 x6 = some res → W p l e rmX11_track s m args below meth c H locs 0 0 Q (F0 m 126 ls []) := by
  obtain ⟨⟨hx, hb, hml, hown, hts⟩, hK, -⟩ := id C0
  intro n_
  induction n_ with
  | zero =>
    intro t_raised t_which x1 x2 x3 x4 x5 x6 H locs ls hP hD hS hl hF
    exact no_s (show (none : Option (Int32 × Int32 × (Nat → Int32))) = some res from hF)
  | succ n_ ih =>
    intro t_raised t_which x1 x2 x3 x4 x5 x6 H locs ls hP hD hS hl hF
    rw [L_X11_track_126] at hF
    refine lv_iload hx hb dX11_track_126 (lv_at hl 5 rfl) ?_
    refine lv_if_eq (tgt := 221) hx hb dX11_track_128 (by decide) (fun c_1 => ?_) (fun c_1 => ?_)
    · have hF := it_pos c_1 hF
      exact w_X11_track_221 C0 HR t_raised t_which x3 x6 H locs ls hP hD hS (lv_sub hl [3, 6] rfl) hF
    · have hF := it_neg c_1 hF
      refine lv_iload_n hx hb dX11_track_131 rfl (lv_at hl 3 rfl) ?_
      refine lv_if_ne (tgt := 140) hx hb dX11_track_132 (by decide) (fun c_2 => ?_) (fun c_2 => ?_)
      · have hF := it_neg c_2 hF
        exact w_X11_track_140 C0 HR ih t_raised t_which x1 x2 x3 x4 x6 H locs ls hP hD hS (lv_sub hl [0, 1, 2, 3, 4, 6] rfl) hF
      · have hF := it_pos c_2 hF
        refine lv_iload hx hb dX11_track_135 (lv_at hl 4 rfl) ?_
        refine lv_if_eq (tgt := 221) hx hb dX11_track_137 (by decide) (fun c_3 => ?_) (fun c_3 => ?_)
        · have hF := it_pos c_3 hF
          exact w_X11_track_221 C0 HR t_raised t_which x3 x6 H locs ls hP hD hS (lv_sub hl [3, 6] rfl) hF
        · have hF := it_neg c_3 hF
          exact w_X11_track_140 C0 HR ih t_raised t_which x1 x2 x3 x4 x6 H locs ls hP hD hS (lv_sub hl [0, 1, 2, 3, 4, 6] rfl) hF
def L_X11_track_75 (t_all : Nat → Int32) : Nat → Int32 → (Nat → Int32) → Int32 → Int32 → Int32 → Int32 → Int32 → Int32 → Option (Int32 × Int32 × (Nat → Int32))
  | 0, _, _, _, _, _, _, _, _ => none
  | n_ + 1, t_raised, t_which, x1, x2, x3, x4, x5, x6 =>
    if (t_all 40) ≤ x6 then (L_X11_track_126 t_all fu_ t_raised t_which x1 x2 x3 x4 x5 (0 : Int32)) else (gd_ (in_b x6 4) (if x5 = (0 : Int32) then (L_X11_track_75 t_all n_ t_raised (upd t_which (x6).toNatClampNeg (0 : Int32)) x1 x2 x3 x4 (0 : Int32) (x6 + (1 : Int32))) else ((F_X11_lookAt t_all x6 (1 : Int32)).bind fun r_4 => (if r_4 ≤ (0 : Int32) then (L_X11_track_75 t_all n_ t_raised (upd t_which (x6).toNatClampNeg (0 : Int32)) x1 x2 x3 x4 (0 : Int32) (x6 + (1 : Int32))) else (L_X11_track_75 t_all n_ t_raised (upd t_which (x6).toNatClampNeg (0 : Int32)) x1 x2 x3 x4 (1 : Int32) (x6 + (1 : Int32)))))))
set_option maxHeartbeats 4000000 in
set_option maxRecDepth 100000 in
theorem w_X11_track_75 {p : Program} {l : Launch} {e : Env} {s : State} {m : MethodId} {args : Array Value} {below : List Frame} {meth : Method} {c : Code} {D : va_G} {K : Nat → ClassId} {A : Nat → Prop} {Q : State → Prop} (C0 : cx_ p s m args c cX11_track 8 RX11 wsX11_track D K A) {g_t : Nat → Nat} {t_undos : Int32} {t_reached : Int32} {t_length : Int32} {t_begin : Int32} {t_sort : Int32} {t_value : Int32} {t_word : Int64} {t_wrongAt : Int32} {t_badAt : Int32} {t_bad : Int32} {t_read : Int32} {t_pictured : Int32} {t_x : Int32} {t_all : Nat → Int32} {res : Int32 × Int32 × (Nat → Int32)} (HR : ∀ (pc : Nat) (H : Heap) (locs : List Loc) (ls : Array Slot), decode cX11_track pc = .ok (.ireturn, 1) → va_P D vwCl (w_X11_track K g_t res.2.1 t_undos t_reached t_length t_begin t_sort t_value t_word t_wrongAt t_badAt t_bad t_read t_pictured t_x t_all res.2.2) H → va_D A (w_X11_track K g_t res.2.1 t_undos t_reached t_length t_begin t_sort t_value t_word t_wrongAt t_badAt t_bad t_read t_pictured t_x t_all res.2.2) → va_S A s.heap H locs → W p l e rmX11_track s m args below meth c H locs 0 0 Q (F0 m pc ls [.int res.1]))  :
    ∀ (n_ : Nat) (t_raised : Int32) (t_which : Nat → Int32) (x1 : Int32) (x2 : Int32) (x3 : Int32) (x4 : Int32) (x5 : Int32) (x6 : Int32) (H : Heap) (locs : List Loc) (ls : Array Slot), va_P D vwCl (w_X11_track K g_t t_raised t_undos t_reached t_length t_begin t_sort t_value t_word t_wrongAt t_badAt t_bad t_read t_pictured t_x t_all t_which) H → va_D A (w_X11_track K g_t t_raised t_undos t_reached t_length t_begin t_sort t_value t_word t_wrongAt t_badAt t_bad t_read t_pictured t_x t_all t_which) → va_S A s.heap H locs → lv_has ls 8 [(0, .ref (g_t 0)), (1, .int x1), (2, .int x2), (3, .int x3), (4, .int x4), (5, .int x5), (6, .int x6)] → L_X11_track_75 t_all n_ t_raised t_which x1 x2 x3 x4 x5 x6 = some res → W p l e rmX11_track s m args below meth c H locs 0 0 Q (F0 m 75 ls []) := by
  obtain ⟨⟨hx, hb, hml, hown, hts⟩, hK, -⟩ := id C0
  intro n_
  induction n_ with
  | zero =>
    intro t_raised t_which x1 x2 x3 x4 x5 x6 H locs ls hP hD hS hl hF
    exact no_s (show (none : Option (Int32 × Int32 × (Nat → Int32))) = some res from hF)
  | succ n_ ih =>
    intro t_raised t_which x1 x2 x3 x4 x5 x6 H locs ls hP hD hS hl hF
    rw [L_X11_track_75] at hF
    refine lv_iload hx hb dX11_track_75 (lv_at hl 6 rfl) ?_
    refine lv_aload_n hx hb dX11_track_77 rfl (lv_at hl 0 rfl) ?_
    refine va_get (D := D) (ci := 10) (v := .ref (g_t 2)) (C := RX11) (T := TX11) (N := 30) hx hb hts iw_X11_track_X11 hown hK hP 0 rfl rfl 1 (by decide) (hts _ fl_X11_track_7) (fun _ h9 => h9) rfl dX11_track_78 ?_
    refine lv_bipush (v := 40) hx hb dX11_track_81 (by decide) ?_
    refine xl_i (f := t_all) hx hb hK hP 1 0 rfl rfl (k := 40) (by decide) (in_v (by decide)) dX11_track_83 ?_
    refine lv_icmp_ge (tgt := 123) hx hb dX11_track_84 (by decide) (fun c_1 => ?_) (fun c_1 => ?_)
    · have hF := it_pos c_1 hF
      refine lv_iconst (v := 0) hx hb dX11_track_123 (by decide) ?_
      refine lv_istore (lv' := [(6, .int (0 : Int32)), (0, .ref (g_t 0)), (1, .int x1), (2, .int x2), (3, .int x3), (4, .int x4), (5, .int x5)]) hx hb dX11_track_124 hl (by decide) rfl (fun ls hl => ?_)
      exact w_X11_track_126 C0 HR fu_ t_raised t_which x1 x2 x3 x4 x5 (0 : Int32) H locs ls hP hD hS (lv_sub hl [1, 2, 3, 4, 5, 6, 0] rfl) hF
    · have hF := it_neg c_1 hF
      refine lv_aload_n hx hb dX11_track_87 rfl (lv_at hl 0 rfl) ?_
      refine va_get (D := D) (ci := 10) (v := .ref (g_t 24)) (C := RX11) (T := TX11) (N := 30) hx hb hts iw_X11_track_X11 hown hK hP 0 rfl rfl 23 (by decide) (hts _ fl_X11_track_42) (fun _ h9 => h9) rfl dX11_track_88 ?_
      refine lv_iload hx hb dX11_track_91 (lv_at hl 6 rfl) ?_
      refine lv_iconst (v := 0) hx hb dX11_track_93 (by decide) ?_
      obtain ⟨hg_2, hF⟩ := gd_some hF
      refine xs_i (f := t_which) hx hb hK hP hD hS 2 0 rfl rfl rfl (in_v hg_2) dX11_track_94 (fun H locs hP hD hS => ?_)
      have hP : va_P D vwCl (w_X11_track K g_t t_raised t_undos t_reached t_length t_begin t_sort t_value t_word t_wrongAt t_badAt t_bad t_read t_pictured t_x t_all (upd t_which (x6).toNatClampNeg (0 : Int32))) H := hP
      have hD : va_D A (w_X11_track K g_t t_raised t_undos t_reached t_length t_begin t_sort t_value t_word t_wrongAt t_badAt t_bad t_read t_pictured t_x t_all (upd t_which (x6).toNatClampNeg (0 : Int32))) := hD
      refine lv_iload hx hb dX11_track_95 (lv_at hl 5 rfl) ?_
      refine lv_if_eq (tgt := 114) hx hb dX11_track_97 (by decide) (fun c_3 => ?_) (fun c_3 => ?_)
      · have hF := it_pos c_3 hF
        refine lv_iconst (v := 0) hx hb dX11_track_114 (by decide) ?_
        refine lv_istore (lv' := [(5, .int (0 : Int32)), (0, .ref (g_t 0)), (1, .int x1), (2, .int x2), (3, .int x3), (4, .int x4), (6, .int x6)]) hx hb dX11_track_115 hl (by decide) rfl (fun ls hl => ?_)
        refine lv_iinc (v := (x6 + (1 : Int32))) (lv' := [(6, .int (x6 + (1 : Int32))), (5, .int (0 : Int32)), (0, .ref (g_t 0)), (1, .int x1), (2, .int x2), (3, .int x3), (4, .int x4)]) hx hb dX11_track_117 hl (k := 6) rfl (congrArg (fun z => x6 + z) (by decide)) (by decide) rfl (fun ls hl => ?_)
        refine lv_goto (tgt := 75) hx hb dX11_track_120 (by decide) ?_
        exact ih t_raised (upd t_which (x6).toNatClampNeg (0 : Int32)) x1 x2 x3 x4 (0 : Int32) (x6 + (1 : Int32)) H locs ls hP hD hS (lv_sub hl [2, 3, 4, 5, 6, 1, 0] rfl) hF
      · have hF := it_neg c_3 hF
        refine lv_aload_n hx hb dX11_track_100 rfl (lv_at hl 0 rfl) ?_
        refine lv_iload hx hb dX11_track_101 (lv_at hl 6 rfl) ?_
        refine lv_iconst (v := 1) hx hb dX11_track_103 (by decide) ?_
        obtain ⟨r_4, hc_5, hF⟩ := bn_some hF
        refine xc_i (wn := (w_X11_track K g_t t_raised t_undos t_reached t_length t_begin t_sort t_value t_word t_wrongAt t_badAt t_bad t_read t_pictured t_x t_all (upd t_which (x6).toNatClampNeg (0 : Int32)))) hP hD hS C0.2.2.1 [0, 1] [2] [1, 2, 0] rfl rfl (by decide) (by decide) rfl (by decide) (va_runV (As := [.int x6, .int (1 : Int32)]) (rest := []) C0.1 (c_X11_lookAt l D K g_t t_raised t_undos t_reached t_length t_begin t_sort t_value t_word t_wrongAt t_badAt t_bad t_read t_pictured t_x t_all x6 (1 : Int32) r_4 hc_5 H.size) (cwV 2 hts gX11_track_X11_lookAt rfl rfl rfl (by decide +kernel) ⟨Nat.le_of_ble_eq_true rfl, Nat.le_of_ble_eq_true rfl⟩) (xp_V C0.2 hP hD hS [0, 1] rfl (by decide) 10 0 rfl rfl rfl) rfl rfl hl.1 rfl (lv_room (Nat.le_of_ble_eq_true rfl)) dX11_track_104 ⟨Nat.le_of_ble_eq_true rfl, Nat.le_of_ble_eq_true rfl⟩) (fun H locs hP hD hS => ?_)
        refine lv_if_le (tgt := 114) hx hb dX11_track_107 (by decide) (fun c_6 => ?_) (fun c_6 => ?_)
        · have hF := it_pos c_6 hF
          refine lv_iconst (v := 0) hx hb dX11_track_114 (by decide) ?_
          refine lv_istore (lv' := [(5, .int (0 : Int32)), (0, .ref (g_t 0)), (1, .int x1), (2, .int x2), (3, .int x3), (4, .int x4), (6, .int x6)]) hx hb dX11_track_115 hl (by decide) rfl (fun ls hl => ?_)
          refine lv_iinc (v := (x6 + (1 : Int32))) (lv' := [(6, .int (x6 + (1 : Int32))), (5, .int (0 : Int32)), (0, .ref (g_t 0)), (1, .int x1), (2, .int x2), (3, .int x3), (4, .int x4)]) hx hb dX11_track_117 hl (k := 6) rfl (congrArg (fun z => x6 + z) (by decide)) (by decide) rfl (fun ls hl => ?_)
          refine lv_goto (tgt := 75) hx hb dX11_track_120 (by decide) ?_
          exact ih t_raised (upd t_which (x6).toNatClampNeg (0 : Int32)) x1 x2 x3 x4 (0 : Int32) (x6 + (1 : Int32)) H locs ls hP hD hS (lv_sub hl [2, 3, 4, 5, 6, 1, 0] rfl) hF
        · have hF := it_neg c_6 hF
          refine lv_iconst (v := 1) hx hb dX11_track_110 (by decide) ?_
          refine lv_goto (tgt := 115) hx hb dX11_track_111 (by decide) ?_
          refine lv_istore (lv' := [(5, .int (1 : Int32)), (0, .ref (g_t 0)), (1, .int x1), (2, .int x2), (3, .int x3), (4, .int x4), (6, .int x6)]) hx hb dX11_track_115 hl (by decide) rfl (fun ls hl => ?_)
          refine lv_iinc (v := (x6 + (1 : Int32))) (lv' := [(6, .int (x6 + (1 : Int32))), (5, .int (1 : Int32)), (0, .ref (g_t 0)), (1, .int x1), (2, .int x2), (3, .int x3), (4, .int x4)]) hx hb dX11_track_117 hl (k := 6) rfl (congrArg (fun z => x6 + z) (by decide)) (by decide) rfl (fun ls hl => ?_)
          refine lv_goto (tgt := 75) hx hb dX11_track_120 (by decide) ?_
          exact ih t_raised (upd t_which (x6).toNatClampNeg (0 : Int32)) x1 x2 x3 x4 (1 : Int32) (x6 + (1 : Int32)) H locs ls hP hD hS (lv_sub hl [2, 3, 4, 5, 6, 1, 0] rfl) hF
def J_X11_track_52 (t_all : Nat → Int32) (t_raised : Int32) (t_which : Nat → Int32) (x1 : Int32) (x2 : Int32) (x3 : Int32) (s0 : Int32) : Option (Int32 × Int32 × (Nat → Int32)) :=
  if (t_all 40) ≤ (1 : Int32) then (L_X11_track_75 t_all fu_ t_raised t_which x1 x2 x3 s0 (0 : Int32) (0 : Int32)) else (L_X11_track_75 t_all fu_ t_raised t_which x1 x2 x3 s0 (1 : Int32) (0 : Int32))
set_option maxHeartbeats 4000000 in
set_option maxRecDepth 100000 in
theorem w_X11_track_52 {p : Program} {l : Launch} {e : Env} {s : State} {m : MethodId} {args : Array Value} {below : List Frame} {meth : Method} {c : Code} {D : va_G} {K : Nat → ClassId} {A : Nat → Prop} {Q : State → Prop} (C0 : cx_ p s m args c cX11_track 8 RX11 wsX11_track D K A) {g_t : Nat → Nat} {t_undos : Int32} {t_reached : Int32} {t_length : Int32} {t_begin : Int32} {t_sort : Int32} {t_value : Int32} {t_word : Int64} {t_wrongAt : Int32} {t_badAt : Int32} {t_bad : Int32} {t_read : Int32} {t_pictured : Int32} {t_x : Int32} {t_all : Nat → Int32} {res : Int32 × Int32 × (Nat → Int32)} (HR : ∀ (pc : Nat) (H : Heap) (locs : List Loc) (ls : Array Slot), decode cX11_track pc = .ok (.ireturn, 1) → va_P D vwCl (w_X11_track K g_t res.2.1 t_undos t_reached t_length t_begin t_sort t_value t_word t_wrongAt t_badAt t_bad t_read t_pictured t_x t_all res.2.2) H → va_D A (w_X11_track K g_t res.2.1 t_undos t_reached t_length t_begin t_sort t_value t_word t_wrongAt t_badAt t_bad t_read t_pictured t_x t_all res.2.2) → va_S A s.heap H locs → W p l e rmX11_track s m args below meth c H locs 0 0 Q (F0 m pc ls [.int res.1]))  :
    ∀ (t_raised : Int32) (t_which : Nat → Int32) (x1 : Int32) (x2 : Int32) (x3 : Int32) (s0 : Int32) (H : Heap) (locs : List Loc) (ls : Array Slot), va_P D vwCl (w_X11_track K g_t t_raised t_undos t_reached t_length t_begin t_sort t_value t_word t_wrongAt t_badAt t_bad t_read t_pictured t_x t_all t_which) H → va_D A (w_X11_track K g_t t_raised t_undos t_reached t_length t_begin t_sort t_value t_word t_wrongAt t_badAt t_bad t_read t_pictured t_x t_all t_which) → va_S A s.heap H locs → lv_has ls 8 [(0, .ref (g_t 0)), (1, .int x1), (2, .int x2), (3, .int x3)] → J_X11_track_52 t_all t_raised t_which x1 x2 x3 s0 = some res → W p l e rmX11_track s m args below meth c H locs 0 0 Q (F0 m 52 ls [.int s0]) := by
  obtain ⟨⟨hx, hb, hml, hown, hts⟩, hK, -⟩ := id C0
  intro t_raised t_which x1 x2 x3 s0 H locs ls hP hD hS hl hF
  unfold J_X11_track_52 at hF
  refine lv_istore (lv' := [(4, .int s0), (0, .ref (g_t 0)), (1, .int x1), (2, .int x2), (3, .int x3)]) hx hb dX11_track_52 hl (by decide) rfl (fun ls hl => ?_)
  refine lv_aload_n hx hb dX11_track_54 rfl (lv_at hl 1 rfl) ?_
  refine va_get (D := D) (ci := 10) (v := .ref (g_t 2)) (C := RX11) (T := TX11) (N := 30) hx hb hts iw_X11_track_X11 hown hK hP 0 rfl rfl 1 (by decide) (hts _ fl_X11_track_7) (fun _ h9 => h9) rfl dX11_track_55 ?_
  refine lv_bipush (v := 40) hx hb dX11_track_58 (by decide) ?_
  refine xl_i (f := t_all) hx hb hK hP 1 0 rfl rfl (k := 40) (by decide) (in_v (by decide)) dX11_track_60 ?_
  refine lv_iconst (v := 1) hx hb dX11_track_61 (by decide) ?_
  refine lv_icmp_le (tgt := 69) hx hb dX11_track_62 (by decide) (fun c_1 => ?_) (fun c_1 => ?_)
  · have hF := it_pos c_1 hF
    refine lv_iconst (v := 0) hx hb dX11_track_69 (by decide) ?_
    refine lv_istore (lv' := [(5, .int (0 : Int32)), (4, .int s0), (0, .ref (g_t 0)), (1, .int x1), (2, .int x2), (3, .int x3)]) hx hb dX11_track_70 hl (by decide) rfl (fun ls hl => ?_)
    refine lv_iconst (v := 0) hx hb dX11_track_72 (by decide) ?_
    refine lv_istore (lv' := [(6, .int (0 : Int32)), (5, .int (0 : Int32)), (4, .int s0), (0, .ref (g_t 0)), (1, .int x1), (2, .int x2), (3, .int x3)]) hx hb dX11_track_73 hl (by decide) rfl (fun ls hl => ?_)
    exact w_X11_track_75 C0 HR fu_ t_raised t_which x1 x2 x3 s0 (0 : Int32) (0 : Int32) H locs ls hP hD hS (lv_sub hl [3, 4, 5, 6, 2, 1, 0] rfl) hF
  · have hF := it_neg c_1 hF
    refine lv_iconst (v := 1) hx hb dX11_track_65 (by decide) ?_
    refine lv_goto (tgt := 70) hx hb dX11_track_66 (by decide) ?_
    refine lv_istore (lv' := [(5, .int (1 : Int32)), (4, .int s0), (0, .ref (g_t 0)), (1, .int x1), (2, .int x2), (3, .int x3)]) hx hb dX11_track_70 hl (by decide) rfl (fun ls hl => ?_)
    refine lv_iconst (v := 0) hx hb dX11_track_72 (by decide) ?_
    refine lv_istore (lv' := [(6, .int (0 : Int32)), (5, .int (1 : Int32)), (4, .int s0), (0, .ref (g_t 0)), (1, .int x1), (2, .int x2), (3, .int x3)]) hx hb dX11_track_73 hl (by decide) rfl (fun ls hl => ?_)
    exact w_X11_track_75 C0 HR fu_ t_raised t_which x1 x2 x3 s0 (1 : Int32) (0 : Int32) H locs ls hP hD hS (lv_sub hl [3, 4, 5, 6, 2, 1, 0] rfl) hF
def J_X11_track_51 (t_all : Nat → Int32) (t_raised : Int32) (t_which : Nat → Int32) (x1 : Int32) (x2 : Int32) (x3 : Int32) : Option (Int32 × Int32 × (Nat → Int32)) :=
  J_X11_track_52 t_all t_raised t_which x1 x2 x3 (0 : Int32)
set_option maxHeartbeats 4000000 in
set_option maxRecDepth 100000 in
theorem w_X11_track_51 {p : Program} {l : Launch} {e : Env} {s : State} {m : MethodId} {args : Array Value} {below : List Frame} {meth : Method} {c : Code} {D : va_G} {K : Nat → ClassId} {A : Nat → Prop} {Q : State → Prop} (C0 : cx_ p s m args c cX11_track 8 RX11 wsX11_track D K A) {g_t : Nat → Nat} {t_undos : Int32} {t_reached : Int32} {t_length : Int32} {t_begin : Int32} {t_sort : Int32} {t_value : Int32} {t_word : Int64} {t_wrongAt : Int32} {t_badAt : Int32} {t_bad : Int32} {t_read : Int32} {t_pictured : Int32} {t_x : Int32} {t_all : Nat → Int32} {res : Int32 × Int32 × (Nat → Int32)} (HR : ∀ (pc : Nat) (H : Heap) (locs : List Loc) (ls : Array Slot), decode cX11_track pc = .ok (.ireturn, 1) → va_P D vwCl (w_X11_track K g_t res.2.1 t_undos t_reached t_length t_begin t_sort t_value t_word t_wrongAt t_badAt t_bad t_read t_pictured t_x t_all res.2.2) H → va_D A (w_X11_track K g_t res.2.1 t_undos t_reached t_length t_begin t_sort t_value t_word t_wrongAt t_badAt t_bad t_read t_pictured t_x t_all res.2.2) → va_S A s.heap H locs → W p l e rmX11_track s m args below meth c H locs 0 0 Q (F0 m pc ls [.int res.1]))  :
    ∀ (t_raised : Int32) (t_which : Nat → Int32) (x1 : Int32) (x2 : Int32) (x3 : Int32) (H : Heap) (locs : List Loc) (ls : Array Slot), va_P D vwCl (w_X11_track K g_t t_raised t_undos t_reached t_length t_begin t_sort t_value t_word t_wrongAt t_badAt t_bad t_read t_pictured t_x t_all t_which) H → va_D A (w_X11_track K g_t t_raised t_undos t_reached t_length t_begin t_sort t_value t_word t_wrongAt t_badAt t_bad t_read t_pictured t_x t_all t_which) → va_S A s.heap H locs → lv_has ls 8 [(0, .ref (g_t 0)), (1, .int x1), (2, .int x2), (3, .int x3)] → J_X11_track_51 t_all t_raised t_which x1 x2 x3 = some res → W p l e rmX11_track s m args below meth c H locs 0 0 Q (F0 m 51 ls []) := by
  obtain ⟨⟨hx, hb, hml, hown, hts⟩, hK, -⟩ := id C0
  intro t_raised t_which x1 x2 x3 H locs ls hP hD hS hl hF
  unfold J_X11_track_51 at hF
  refine lv_iconst (v := 0) hx hb dX11_track_51 (by decide) ?_
  exact w_X11_track_52 C0 HR t_raised t_which x1 x2 x3 (0 : Int32) H locs ls hP hD hS (lv_sub hl [0, 1, 2, 3] rfl) hF
def J_X11_track_47 (t_all : Nat → Int32) (t_raised : Int32) (t_which : Nat → Int32) (x1 : Int32) (x2 : Int32) (x3 : Int32) : Option (Int32 × Int32 × (Nat → Int32)) :=
  J_X11_track_52 t_all t_raised t_which x1 x2 x3 (1 : Int32)
set_option maxHeartbeats 4000000 in
set_option maxRecDepth 100000 in
theorem w_X11_track_47 {p : Program} {l : Launch} {e : Env} {s : State} {m : MethodId} {args : Array Value} {below : List Frame} {meth : Method} {c : Code} {D : va_G} {K : Nat → ClassId} {A : Nat → Prop} {Q : State → Prop} (C0 : cx_ p s m args c cX11_track 8 RX11 wsX11_track D K A) {g_t : Nat → Nat} {t_undos : Int32} {t_reached : Int32} {t_length : Int32} {t_begin : Int32} {t_sort : Int32} {t_value : Int32} {t_word : Int64} {t_wrongAt : Int32} {t_badAt : Int32} {t_bad : Int32} {t_read : Int32} {t_pictured : Int32} {t_x : Int32} {t_all : Nat → Int32} {res : Int32 × Int32 × (Nat → Int32)} (HR : ∀ (pc : Nat) (H : Heap) (locs : List Loc) (ls : Array Slot), decode cX11_track pc = .ok (.ireturn, 1) → va_P D vwCl (w_X11_track K g_t res.2.1 t_undos t_reached t_length t_begin t_sort t_value t_word t_wrongAt t_badAt t_bad t_read t_pictured t_x t_all res.2.2) H → va_D A (w_X11_track K g_t res.2.1 t_undos t_reached t_length t_begin t_sort t_value t_word t_wrongAt t_badAt t_bad t_read t_pictured t_x t_all res.2.2) → va_S A s.heap H locs → W p l e rmX11_track s m args below meth c H locs 0 0 Q (F0 m pc ls [.int res.1]))  :
    ∀ (t_raised : Int32) (t_which : Nat → Int32) (x1 : Int32) (x2 : Int32) (x3 : Int32) (H : Heap) (locs : List Loc) (ls : Array Slot), va_P D vwCl (w_X11_track K g_t t_raised t_undos t_reached t_length t_begin t_sort t_value t_word t_wrongAt t_badAt t_bad t_read t_pictured t_x t_all t_which) H → va_D A (w_X11_track K g_t t_raised t_undos t_reached t_length t_begin t_sort t_value t_word t_wrongAt t_badAt t_bad t_read t_pictured t_x t_all t_which) → va_S A s.heap H locs → lv_has ls 8 [(0, .ref (g_t 0)), (1, .int x1), (2, .int x2), (3, .int x3)] → J_X11_track_47 t_all t_raised t_which x1 x2 x3 = some res → W p l e rmX11_track s m args below meth c H locs 0 0 Q (F0 m 47 ls []) := by
  obtain ⟨⟨hx, hb, hml, hown, hts⟩, hK, -⟩ := id C0
  intro t_raised t_which x1 x2 x3 H locs ls hP hD hS hl hF
  unfold J_X11_track_47 at hF
  refine lv_iconst (v := 1) hx hb dX11_track_47 (by decide) ?_
  refine lv_goto (tgt := 52) hx hb dX11_track_48 (by decide) ?_
  exact w_X11_track_52 C0 HR t_raised t_which x1 x2 x3 (1 : Int32) H locs ls hP hD hS (lv_sub hl [0, 1, 2, 3] rfl) hF
def J_X11_track_19 (t_all : Nat → Int32) (t_raised : Int32) (t_which : Nat → Int32) (x1 : Int32) (x2 : Int32) (s0 : Int32) : Option (Int32 × Int32 × (Nat → Int32)) :=
  if x1 < (0 : Int32) then (J_X11_track_51 t_all t_raised t_which x1 x2 s0) else (if x2 = (10 : Int32) then (J_X11_track_47 t_all t_raised t_which x1 x2 s0) else ((F_X11_in x2 (0 : Int32) ((t_all 40) - (1 : Int32))).bind fun r_3 => (if r_3 = (0 : Int32) then (J_X11_track_51 t_all t_raised t_which x1 x2 s0) else (J_X11_track_47 t_all t_raised t_which x1 x2 s0))))
set_option maxHeartbeats 4000000 in
set_option maxRecDepth 100000 in
theorem w_X11_track_19 {p : Program} {l : Launch} {e : Env} {s : State} {m : MethodId} {args : Array Value} {below : List Frame} {meth : Method} {c : Code} {D : va_G} {K : Nat → ClassId} {A : Nat → Prop} {Q : State → Prop} (C0 : cx_ p s m args c cX11_track 8 RX11 wsX11_track D K A) {g_t : Nat → Nat} {t_undos : Int32} {t_reached : Int32} {t_length : Int32} {t_begin : Int32} {t_sort : Int32} {t_value : Int32} {t_word : Int64} {t_wrongAt : Int32} {t_badAt : Int32} {t_bad : Int32} {t_read : Int32} {t_pictured : Int32} {t_x : Int32} {t_all : Nat → Int32} {res : Int32 × Int32 × (Nat → Int32)} (HR : ∀ (pc : Nat) (H : Heap) (locs : List Loc) (ls : Array Slot), decode cX11_track pc = .ok (.ireturn, 1) → va_P D vwCl (w_X11_track K g_t res.2.1 t_undos t_reached t_length t_begin t_sort t_value t_word t_wrongAt t_badAt t_bad t_read t_pictured t_x t_all res.2.2) H → va_D A (w_X11_track K g_t res.2.1 t_undos t_reached t_length t_begin t_sort t_value t_word t_wrongAt t_badAt t_bad t_read t_pictured t_x t_all res.2.2) → va_S A s.heap H locs → W p l e rmX11_track s m args below meth c H locs 0 0 Q (F0 m pc ls [.int res.1]))  :
    ∀ (t_raised : Int32) (t_which : Nat → Int32) (x1 : Int32) (x2 : Int32) (s0 : Int32) (H : Heap) (locs : List Loc) (ls : Array Slot), va_P D vwCl (w_X11_track K g_t t_raised t_undos t_reached t_length t_begin t_sort t_value t_word t_wrongAt t_badAt t_bad t_read t_pictured t_x t_all t_which) H → va_D A (w_X11_track K g_t t_raised t_undos t_reached t_length t_begin t_sort t_value t_word t_wrongAt t_badAt t_bad t_read t_pictured t_x t_all t_which) → va_S A s.heap H locs → lv_has ls 8 [(0, .ref (g_t 0)), (1, .int x1), (2, .int x2)] → J_X11_track_19 t_all t_raised t_which x1 x2 s0 = some res → W p l e rmX11_track s m args below meth c H locs 0 0 Q (F0 m 19 ls [.int s0]) := by
  obtain ⟨⟨hx, hb, hml, hown, hts⟩, hK, -⟩ := id C0
  intro t_raised t_which x1 x2 s0 H locs ls hP hD hS hl hF
  unfold J_X11_track_19 at hF
  refine lv_istore_n (lv' := [(3, .int s0), (0, .ref (g_t 0)), (1, .int x1), (2, .int x2)]) hx hb dX11_track_19 rfl hl (by decide) rfl (fun ls hl => ?_)
  refine lv_iload_n hx hb dX11_track_20 rfl (lv_at hl 2 rfl) ?_
  refine lv_if_lt (tgt := 51) hx hb dX11_track_21 (by decide) (fun c_1 => ?_) (fun c_1 => ?_)
  · have hF := it_pos c_1 hF
    exact w_X11_track_51 C0 HR t_raised t_which x1 x2 s0 H locs ls hP hD hS (lv_sub hl [1, 2, 3, 0] rfl) hF
  · have hF := it_neg c_1 hF
    refine lv_iload_n hx hb dX11_track_24 rfl (lv_at hl 3 rfl) ?_
    refine lv_bipush (v := 10) hx hb dX11_track_25 (by decide) ?_
    refine lv_icmp_eq (tgt := 47) hx hb dX11_track_27 (by decide) (fun c_2 => ?_) (fun c_2 => ?_)
    · have hF := it_pos c_2 hF
      exact w_X11_track_47 C0 HR t_raised t_which x1 x2 s0 H locs ls hP hD hS (lv_sub hl [1, 2, 3, 0] rfl) hF
    · have hF := it_neg c_2 hF
      refine lv_iload_n hx hb dX11_track_30 rfl (lv_at hl 3 rfl) ?_
      refine lv_iconst (v := 0) hx hb dX11_track_31 (by decide) ?_
      refine lv_aload_n hx hb dX11_track_32 rfl (lv_at hl 1 rfl) ?_
      refine va_get (D := D) (ci := 10) (v := .ref (g_t 2)) (C := RX11) (T := TX11) (N := 30) hx hb hts iw_X11_track_X11 hown hK hP 0 rfl rfl 1 (by decide) (hts _ fl_X11_track_7) (fun _ h9 => h9) rfl dX11_track_33 ?_
      refine lv_bipush (v := 40) hx hb dX11_track_36 (by decide) ?_
      refine xl_i (f := t_all) hx hb hK hP 1 0 rfl rfl (k := 40) (by decide) (in_v (by decide)) dX11_track_38 ?_
      refine lv_iconst (v := 1) hx hb dX11_track_39 (by decide) ?_
      refine lv_isub hx hb dX11_track_40 ?_
      obtain ⟨r_3, hc_4, hF⟩ := bn_some hF
      refine xc_i (wn := (w_X11_track K g_t t_raised t_undos t_reached t_length t_begin t_sort t_value t_word t_wrongAt t_badAt t_bad t_read t_pictured t_x t_all t_which)) hP hD hS C0.2.2.1 [] [0, 1, 2] [0, 1, 2] rfl rfl (by decide) (by decide) rfl (by decide) (va_runS (As := [.int x2, .int (0 : Int32), .int ((t_all 40) - (1 : Int32))]) (rest := []) C0.1 (c_X11_in l D K x2 (0 : Int32) ((t_all 40) - (1 : Int32)) r_3 hc_4 H.size) (va_cwS 3 hts gX11_track_X11_in rfl rfl rfl (by decide +kernel) ⟨Nat.le_of_ble_eq_true rfl, Nat.le_of_ble_eq_true rfl⟩) (xp_S C0.2 hP hD hS [] rfl (by decide)) rfl rfl hl.1 rfl (lv_room (Nat.le_of_ble_eq_true rfl)) dX11_track_41 ⟨Nat.le_of_ble_eq_true rfl, Nat.le_of_ble_eq_true rfl⟩) (fun H locs hP hD hS => ?_)
      refine lv_if_eq (tgt := 51) hx hb dX11_track_44 (by decide) (fun c_5 => ?_) (fun c_5 => ?_)
      · have hF := it_pos c_5 hF
        exact w_X11_track_51 C0 HR t_raised t_which x1 x2 s0 H locs ls hP hD hS (lv_sub hl [1, 2, 3, 0] rfl) hF
      · have hF := it_neg c_5 hF
        exact w_X11_track_47 C0 HR t_raised t_which x1 x2 s0 H locs ls hP hD hS (lv_sub hl [1, 2, 3, 0] rfl) hF
def J_X11_track_18 (t_all : Nat → Int32) (t_raised : Int32) (t_which : Nat → Int32) (x1 : Int32) (x2 : Int32) : Option (Int32 × Int32 × (Nat → Int32)) :=
  J_X11_track_19 t_all t_raised t_which x1 x2 (0 : Int32)
set_option maxHeartbeats 4000000 in
set_option maxRecDepth 100000 in
theorem w_X11_track_18 {p : Program} {l : Launch} {e : Env} {s : State} {m : MethodId} {args : Array Value} {below : List Frame} {meth : Method} {c : Code} {D : va_G} {K : Nat → ClassId} {A : Nat → Prop} {Q : State → Prop} (C0 : cx_ p s m args c cX11_track 8 RX11 wsX11_track D K A) {g_t : Nat → Nat} {t_undos : Int32} {t_reached : Int32} {t_length : Int32} {t_begin : Int32} {t_sort : Int32} {t_value : Int32} {t_word : Int64} {t_wrongAt : Int32} {t_badAt : Int32} {t_bad : Int32} {t_read : Int32} {t_pictured : Int32} {t_x : Int32} {t_all : Nat → Int32} {res : Int32 × Int32 × (Nat → Int32)} (HR : ∀ (pc : Nat) (H : Heap) (locs : List Loc) (ls : Array Slot), decode cX11_track pc = .ok (.ireturn, 1) → va_P D vwCl (w_X11_track K g_t res.2.1 t_undos t_reached t_length t_begin t_sort t_value t_word t_wrongAt t_badAt t_bad t_read t_pictured t_x t_all res.2.2) H → va_D A (w_X11_track K g_t res.2.1 t_undos t_reached t_length t_begin t_sort t_value t_word t_wrongAt t_badAt t_bad t_read t_pictured t_x t_all res.2.2) → va_S A s.heap H locs → W p l e rmX11_track s m args below meth c H locs 0 0 Q (F0 m pc ls [.int res.1]))  :
    ∀ (t_raised : Int32) (t_which : Nat → Int32) (x1 : Int32) (x2 : Int32) (H : Heap) (locs : List Loc) (ls : Array Slot), va_P D vwCl (w_X11_track K g_t t_raised t_undos t_reached t_length t_begin t_sort t_value t_word t_wrongAt t_badAt t_bad t_read t_pictured t_x t_all t_which) H → va_D A (w_X11_track K g_t t_raised t_undos t_reached t_length t_begin t_sort t_value t_word t_wrongAt t_badAt t_bad t_read t_pictured t_x t_all t_which) → va_S A s.heap H locs → lv_has ls 8 [(0, .ref (g_t 0)), (1, .int x1), (2, .int x2)] → J_X11_track_18 t_all t_raised t_which x1 x2 = some res → W p l e rmX11_track s m args below meth c H locs 0 0 Q (F0 m 18 ls []) := by
  obtain ⟨⟨hx, hb, hml, hown, hts⟩, hK, -⟩ := id C0
  intro t_raised t_which x1 x2 H locs ls hP hD hS hl hF
  unfold J_X11_track_18 at hF
  refine lv_iconst (v := 0) hx hb dX11_track_18 (by decide) ?_
  exact w_X11_track_19 C0 HR t_raised t_which x1 x2 (0 : Int32) H locs ls hP hD hS (lv_sub hl [0, 1, 2] rfl) hF
def F_X11_track (t_raised : Int32) (t_all : Nat → Int32) (t_which : Nat → Int32) (x1 : Int32) (x2 : Int32) : Option (Int32 × Int32 × (Nat → Int32)) :=
  if x1 = (-1 : Int32) then (if x2 = (0 : Int32) then (J_X11_track_19 t_all (0 : Int32) t_which x1 x2 (1 : Int32)) else (J_X11_track_18 t_all (0 : Int32) t_which x1 x2)) else (J_X11_track_18 t_all (0 : Int32) t_which x1 x2)
set_option maxHeartbeats 4000000 in
set_option maxRecDepth 100000 in
theorem c_X11_track (l : Launch) (D : va_G) (K : Nat → ClassId) (g_t : Nat → Nat) (t_raised : Int32) (t_undos : Int32) (t_reached : Int32) (t_length : Int32) (t_begin : Int32) (t_sort : Int32) (t_value : Int32) (t_word : Int64) (t_wrongAt : Int32) (t_badAt : Int32) (t_bad : Int32) (t_read : Int32) (t_pictured : Int32) (t_x : Int32) (t_all : Nat → Int32) (t_which : Nat → Int32) (x1 : Int32) (x2 : Int32) (res : Int32 × Int32 × (Nat → Int32)) (hF : F_X11_track t_raised t_all t_which x1 x2 = some res) :
    Mi_ l yX11_track wsX11_track rmX11_track D K [.ref (g_t 0), .int x1, .int x2] (w_X11_track K g_t t_raised t_undos t_reached t_length t_begin t_sort t_value t_word t_wrongAt t_badAt t_bad t_read t_pictured t_x t_all t_which) (w_X11_track K g_t res.2.1 t_undos t_reached t_length t_begin t_sort t_value t_word t_wrongAt t_badAt t_bad t_read t_pictured t_x t_all res.2.2) (res.1) := by
  refine en_i (cc := cX11_track) (maxL := 8) (own := RX11) (by decide) rfl rfl (Nat.le_of_ble_eq_true rfl) ?_
  intro p e s m args below meth c A Q H locs ls C0 hP hD hS hl HR
  obtain ⟨⟨hx, hb, hml, hown, hts⟩, hK, -⟩ := id C0
  have hl : lv_has ls 8 [(0, .ref (g_t 0)), (1, .int x1), (2, .int x2)] := hl
  unfold F_X11_track at hF
  refine lv_aload_n hx hb dX11_track_0 rfl (lv_at hl 0 rfl) ?_
  refine lv_iconst (v := 0) hx hb dX11_track_1 (by decide) ?_
  refine va_put (D := D) (ci := 10) (v := .int (0 : Int32)) (ty := .int) (C := RX11) (T := TX11) (N := 30) hx hb hts iw_X11_track_X11 tyX11 tyX11_ok nmX11 hown hK hP hD hS 0 rfl rfl 0 (by decide) (hts _ fl_X11_track_66) (fun _ h9 => h9) rfl (by decide +kernel) rfl rfl (Nat.le_of_ble_eq_true rfl) dX11_track_2 (fun H locs hP hD hS => ?_)
  have hP : va_P D vwCl (w_X11_track K g_t (0 : Int32) t_undos t_reached t_length t_begin t_sort t_value t_word t_wrongAt t_badAt t_bad t_read t_pictured t_x t_all t_which) H := hP
  have hD : va_D A (w_X11_track K g_t (0 : Int32) t_undos t_reached t_length t_begin t_sort t_value t_word t_wrongAt t_badAt t_bad t_read t_pictured t_x t_all t_which) := hD
  refine lv_iload_n hx hb dX11_track_5 rfl (lv_at hl 1 rfl) ?_
  refine lv_iconst (v := (-1)) hx hb dX11_track_6 (by decide) ?_
  refine lv_icmp_ne (tgt := 18) hx hb dX11_track_7 (by decide) (fun c_1 => ?_) (fun c_1 => ?_)
  · have hF := it_neg c_1 hF
    exact w_X11_track_18 C0 HR (0 : Int32) t_which x1 x2 H locs ls hP hD hS (lv_sub hl [0, 1, 2] rfl) hF
  · have hF := it_pos c_1 hF
    refine lv_iload_n hx hb dX11_track_10 rfl (lv_at hl 2 rfl) ?_
    refine lv_if_ne (tgt := 18) hx hb dX11_track_11 (by decide) (fun c_2 => ?_) (fun c_2 => ?_)
    · have hF := it_neg c_2 hF
      exact w_X11_track_18 C0 HR (0 : Int32) t_which x1 x2 H locs ls hP hD hS (lv_sub hl [0, 1, 2] rfl) hF
    · have hF := it_pos c_2 hF
      refine lv_iconst (v := 1) hx hb dX11_track_14 (by decide) ?_
      refine lv_goto (tgt := 19) hx hb dX11_track_15 (by decide) ?_
      exact w_X11_track_19 C0 HR (0 : Int32) t_which x1 x2 (1 : Int32) H locs ls hP hD hS (lv_sub hl [0, 1, 2] rfl) hF

/-! StaggerRadarModel.type(J)I -/
abbrev rmX11_type : Room := { frames := 0, cells := 0, slots := 0, locals := 0 }
theorem fl_X11_type_7 : Cond.fieldLink RX11 7 "StaggerRadarModel" "all" "[I" ∈ wsX11_type := by decide +kernel
theorem fl_X11_type_13 : Cond.fieldLink RX11 13 "StaggerRadarModel" "text" "[B" ∈ wsX11_type := by decide +kernel
theorem fl_X11_type_66 : Cond.fieldLink RX11 66 "StaggerRadarModel" "raised" "I" ∈ wsX11_type := by decide +kernel
theorem ld_X11_type_78 : Cond.constantLong RX11 78 (255) ∈ wsX11_type := by decide +kernel
theorem iw_X11_type_X11 : ∀ w ∈ u_ws RX11 TX11 30, w ∈ wsX11_type := by decide +kernel
abbrev w_X11_type (K : Nat → ClassId) (g_t : Nat → Nat) (t_raised : Int32) (t_undos : Int32) (t_reached : Int32) (t_length : Int32) (t_begin : Int32) (t_sort : Int32) (t_value : Int32) (t_word : Int64) (t_wrongAt : Int32) (t_badAt : Int32) (t_bad : Int32) (t_read : Int32) (t_pictured : Int32) (t_x : Int32) (t_all : Nat → Int32) (t_text : Nat → Int32) : va_W := [((g_t 0), .inr (10, [.int t_raised, .ref (g_t 2), .ref (g_t 3), .ref (g_t 4), .ref (g_t 5), .int t_undos, .int t_reached, .int t_length, .int t_begin, .int t_sort, .int t_value, .long t_word, .int t_wrongAt, .int t_badAt, .int t_bad, .ref (g_t 16), .int t_read, .ref (g_t 18), .ref (g_t 19), .ref (g_t 20), .int t_pictured, .ref (g_t 22), .ref (g_t 23), .ref (g_t 24), .ref (g_t 25), .ref (g_t 26), .int t_x, .ref (g_t 28), .ref (g_t 29), .ref (g_t 30)])), ((g_t 2), .inl (K 0, 500, .inl t_all)), ((g_t 3), .inl (K 3, 1600, .inl t_text))]
def J_X11_type_104 (t_raised : Int32) (t_all : Nat → Int32) (t_text : Nat → Int32) : Option (Int32 × Int32 × (Nat → Int32) × (Nat → Int32)) :=
  some ((t_all 97), t_raised, t_all, t_text)
set_option maxHeartbeats 4000000 in
set_option maxRecDepth 100000 in
theorem w_X11_type_104 {p : Program} {l : Launch} {e : Env} {s : State} {m : MethodId} {args : Array Value} {below : List Frame} {meth : Method} {c : Code} {D : va_G} {K : Nat → ClassId} {A : Nat → Prop} {Q : State → Prop} (C0 : cx_ p s m args c cX11_type 5 RX11 wsX11_type D K A) {g_t : Nat → Nat} {t_undos : Int32} {t_reached : Int32} {t_length : Int32} {t_begin : Int32} {t_sort : Int32} {t_value : Int32} {t_word : Int64} {t_wrongAt : Int32} {t_badAt : Int32} {t_bad : Int32} {t_read : Int32} {t_pictured : Int32} {t_x : Int32} {res : Int32 × Int32 × (Nat → Int32) × (Nat → Int32)} (HR : ∀ (pc : Nat) (H : Heap) (locs : List Loc) (ls : Array Slot), decode cX11_type pc = .ok (.ireturn, 1) → va_P D vwCl (w_X11_type K g_t res.2.1 t_undos t_reached t_length t_begin t_sort t_value t_word t_wrongAt t_badAt t_bad t_read t_pictured t_x res.2.2.1 res.2.2.2) H → va_D A (w_X11_type K g_t res.2.1 t_undos t_reached t_length t_begin t_sort t_value t_word t_wrongAt t_badAt t_bad t_read t_pictured t_x res.2.2.1 res.2.2.2) → va_S A s.heap H locs → W p l e rmX11_type s m args below meth c H locs 0 0 Q (F0 m pc ls [.int res.1]))  :
    ∀ (t_raised : Int32) (t_all : Nat → Int32) (t_text : Nat → Int32) (H : Heap) (locs : List Loc) (ls : Array Slot), va_P D vwCl (w_X11_type K g_t t_raised t_undos t_reached t_length t_begin t_sort t_value t_word t_wrongAt t_badAt t_bad t_read t_pictured t_x t_all t_text) H → va_D A (w_X11_type K g_t t_raised t_undos t_reached t_length t_begin t_sort t_value t_word t_wrongAt t_badAt t_bad t_read t_pictured t_x t_all t_text) → va_S A s.heap H locs → lv_has ls 5 [(0, .ref (g_t 0))] → J_X11_type_104 t_raised t_all t_text = some res → W p l e rmX11_type s m args below meth c H locs 0 0 Q (F0 m 104 ls []) := by
  obtain ⟨⟨hx, hb, hml, hown, hts⟩, hK, -⟩ := id C0
  intro t_raised t_all t_text H locs ls hP hD hS hl hF
  unfold J_X11_type_104 at hF
  refine lv_aload_n hx hb dX11_type_104 rfl (lv_at hl 0 rfl) ?_
  refine va_get (D := D) (ci := 10) (v := .ref (g_t 2)) (C := RX11) (T := TX11) (N := 30) hx hb hts iw_X11_type_X11 hown hK hP 0 rfl rfl 1 (by decide) (hts _ fl_X11_type_7) (fun _ h9 => h9) rfl dX11_type_105 ?_
  refine lv_bipush (v := 97) hx hb dX11_type_108 (by decide) ?_
  refine xl_i (f := t_all) hx hb hK hP 1 0 rfl rfl (k := 97) (by decide) (in_v (by decide)) dX11_type_110 ?_
  obtain rfl := Option.some.inj hF
  exact HR 111 H locs ls dX11_type_111 hP hD hS
def L_X11_type_57  : Nat → Int32 → (Nat → Int32) → (Nat → Int32) → Int64 → Int32 → Int32 → Option (Int32 × Int32 × (Nat → Int32) × (Nat → Int32))
  | 0, _, _, _, _, _, _ => none
  | n_ + 1, t_raised, t_all, t_text, x1, x3, x4 =>
    if x3 ≤ x4 then (J_X11_type_104 t_raised t_all t_text) else (gd_ (in_b (t_all 97) 1600) (L_X11_type_57 n_ t_raised (upd t_all 97 ((t_all 97) + (1 : Int32))) (upd t_text (t_all 97).toNatClampNeg (vp_nar .byte ((((x1 >>> ((((56 : Int32) - ((8 : Int32) * x4))).toInt64 &&& 63))).toInt32).toInt8.toInt32))) x1 x3 (x4 + (1 : Int32))))
set_option maxHeartbeats 4000000 in
set_option maxRecDepth 100000 in
theorem w_X11_type_57 {p : Program} {l : Launch} {e : Env} {s : State} {m : MethodId} {args : Array Value} {below : List Frame} {meth : Method} {c : Code} {D : va_G} {K : Nat → ClassId} {A : Nat → Prop} {Q : State → Prop} (C0 : cx_ p s m args c cX11_type 5 RX11 wsX11_type D K A) {g_t : Nat → Nat} {t_undos : Int32} {t_reached : Int32} {t_length : Int32} {t_begin : Int32} {t_sort : Int32} {t_value : Int32} {t_word : Int64} {t_wrongAt : Int32} {t_badAt : Int32} {t_bad : Int32} {t_read : Int32} {t_pictured : Int32} {t_x : Int32} {res : Int32 × Int32 × (Nat → Int32) × (Nat → Int32)} (HR : ∀ (pc : Nat) (H : Heap) (locs : List Loc) (ls : Array Slot), decode cX11_type pc = .ok (.ireturn, 1) → va_P D vwCl (w_X11_type K g_t res.2.1 t_undos t_reached t_length t_begin t_sort t_value t_word t_wrongAt t_badAt t_bad t_read t_pictured t_x res.2.2.1 res.2.2.2) H → va_D A (w_X11_type K g_t res.2.1 t_undos t_reached t_length t_begin t_sort t_value t_word t_wrongAt t_badAt t_bad t_read t_pictured t_x res.2.2.1 res.2.2.2) → va_S A s.heap H locs → W p l e rmX11_type s m args below meth c H locs 0 0 Q (F0 m pc ls [.int res.1]))  :
    ∀ (n_ : Nat) (t_raised : Int32) (t_all : Nat → Int32) (t_text : Nat → Int32) (x1 : Int64) (x3 : Int32) (x4 : Int32) (H : Heap) (locs : List Loc) (ls : Array Slot), va_P D vwCl (w_X11_type K g_t t_raised t_undos t_reached t_length t_begin t_sort t_value t_word t_wrongAt t_badAt t_bad t_read t_pictured t_x t_all t_text) H → va_D A (w_X11_type K g_t t_raised t_undos t_reached t_length t_begin t_sort t_value t_word t_wrongAt t_badAt t_bad t_read t_pictured t_x t_all t_text) → va_S A s.heap H locs → lv_has ls 5 [(0, .ref (g_t 0)), (1, .long x1), (3, .int x3), (4, .int x4)] → L_X11_type_57 n_ t_raised t_all t_text x1 x3 x4 = some res → W p l e rmX11_type s m args below meth c H locs 0 0 Q (F0 m 57 ls []) := by
  obtain ⟨⟨hx, hb, hml, hown, hts⟩, hK, -⟩ := id C0
  intro n_
  induction n_ with
  | zero =>
    intro t_raised t_all t_text x1 x3 x4 H locs ls hP hD hS hl hF
    exact no_s (show (none : Option (Int32 × Int32 × (Nat → Int32) × (Nat → Int32))) = some res from hF)
  | succ n_ ih =>
    intro t_raised t_all t_text x1 x3 x4 H locs ls hP hD hS hl hF
    rw [L_X11_type_57] at hF
    refine lv_iload hx hb dX11_type_57 (lv_at hl 3 rfl) ?_
    refine lv_iload_n hx hb dX11_type_59 rfl (lv_at hl 2 rfl) ?_
    refine lv_icmp_ge (tgt := 104) hx hb dX11_type_60 (by decide) (fun c_1 => ?_) (fun c_1 => ?_)
    · have hF := it_pos c_1 hF
      exact w_X11_type_104 C0 HR t_raised t_all t_text H locs ls hP hD hS (lv_sub hl [0] rfl) hF
    · have hF := it_neg c_1 hF
      refine lv_aload_n hx hb dX11_type_63 rfl (lv_at hl 0 rfl) ?_
      refine va_get (D := D) (ci := 10) (v := .ref (g_t 3)) (C := RX11) (T := TX11) (N := 30) hx hb hts iw_X11_type_X11 hown hK hP 0 rfl rfl 2 (by decide) (hts _ fl_X11_type_13) (fun _ h9 => h9) rfl dX11_type_64 ?_
      refine lv_aload_n hx hb dX11_type_67 rfl (lv_at hl 0 rfl) ?_
      refine va_get (D := D) (ci := 10) (v := .ref (g_t 2)) (C := RX11) (T := TX11) (N := 30) hx hb hts iw_X11_type_X11 hown hK hP 0 rfl rfl 1 (by decide) (hts _ fl_X11_type_7) (fun _ h9 => h9) rfl dX11_type_68 ?_
      refine lv_bipush (v := 97) hx hb dX11_type_71 (by decide) ?_
      refine xl_i (f := t_all) hx hb hK hP 1 0 rfl rfl (k := 97) (by decide) (in_v (by decide)) dX11_type_73 ?_
      refine lv_lload_n hx hb dX11_type_74 rfl (lv_at hl 1 rfl) ?_
      refine lv_bipush (v := 56) hx hb dX11_type_75 (by decide) ?_
      refine lv_bipush (v := 8) hx hb dX11_type_77 (by decide) ?_
      refine lv_iload hx hb dX11_type_79 (lv_at hl 3 rfl) ?_
      refine lv_imul hx hb dX11_type_81 ?_
      refine lv_isub hx hb dX11_type_82 ?_
      refine lv_lshr hx hb dX11_type_83 rfl ?_
      refine lv_l2i hx hb dX11_type_84 rfl ?_
      refine lv_i2b hx hb dX11_type_85 rfl ?_
      obtain ⟨hg_2, hF⟩ := gd_some hF
      refine xs_b (f := t_text) hx hb hK hP hD hS 2 3 rfl rfl rfl (in_v hg_2) dX11_type_86 (fun H locs hP hD hS => ?_)
      have hP : va_P D vwCl (w_X11_type K g_t t_raised t_undos t_reached t_length t_begin t_sort t_value t_word t_wrongAt t_badAt t_bad t_read t_pictured t_x t_all (upd t_text (t_all 97).toNatClampNeg (vp_nar .byte ((((x1 >>> ((((56 : Int32) - ((8 : Int32) * x4))).toInt64 &&& 63))).toInt32).toInt8.toInt32)))) H := hP
      have hD : va_D A (w_X11_type K g_t t_raised t_undos t_reached t_length t_begin t_sort t_value t_word t_wrongAt t_badAt t_bad t_read t_pictured t_x t_all (upd t_text (t_all 97).toNatClampNeg (vp_nar .byte ((((x1 >>> ((((56 : Int32) - ((8 : Int32) * x4))).toInt64 &&& 63))).toInt32).toInt8.toInt32)))) := hD
      refine lv_aload_n hx hb dX11_type_87 rfl (lv_at hl 0 rfl) ?_
      refine va_get (D := D) (ci := 10) (v := .ref (g_t 2)) (C := RX11) (T := TX11) (N := 30) hx hb hts iw_X11_type_X11 hown hK hP 0 rfl rfl 1 (by decide) (hts _ fl_X11_type_7) (fun _ h9 => h9) rfl dX11_type_88 ?_
      refine lv_bipush (v := 97) hx hb dX11_type_91 (by decide) ?_
      refine lv_dup2_11 hx hb dX11_type_93 rfl rfl ?_
      refine xl_i (f := t_all) hx hb hK hP 1 0 rfl rfl (k := 97) (by decide) (in_v (by decide)) dX11_type_94 ?_
      refine lv_iconst (v := 1) hx hb dX11_type_95 (by decide) ?_
      refine lv_iadd hx hb dX11_type_96 ?_
      refine xs_i (f := t_all) hx hb hK hP hD hS 1 0 rfl rfl (k := 97) (by decide) (in_v (by decide)) dX11_type_97 (fun H locs hP hD hS => ?_)
      have hP : va_P D vwCl (w_X11_type K g_t t_raised t_undos t_reached t_length t_begin t_sort t_value t_word t_wrongAt t_badAt t_bad t_read t_pictured t_x (upd t_all 97 ((t_all 97) + (1 : Int32))) (upd t_text (t_all 97).toNatClampNeg (vp_nar .byte ((((x1 >>> ((((56 : Int32) - ((8 : Int32) * x4))).toInt64 &&& 63))).toInt32).toInt8.toInt32)))) H := hP
      have hD : va_D A (w_X11_type K g_t t_raised t_undos t_reached t_length t_begin t_sort t_value t_word t_wrongAt t_badAt t_bad t_read t_pictured t_x (upd t_all 97 ((t_all 97) + (1 : Int32))) (upd t_text (t_all 97).toNatClampNeg (vp_nar .byte ((((x1 >>> ((((56 : Int32) - ((8 : Int32) * x4))).toInt64 &&& 63))).toInt32).toInt8.toInt32)))) := hD
      refine lv_iinc (v := (x4 + (1 : Int32))) (lv' := [(4, .int (x4 + (1 : Int32))), (0, .ref (g_t 0)), (1, .long x1), (3, .int x3)]) hx hb dX11_type_98 hl (k := 3) rfl (congrArg (fun z => x4 + z) (by decide)) (by decide) rfl (fun ls hl => ?_)
      refine lv_goto (tgt := 57) hx hb dX11_type_101 (by decide) ?_
      exact ih t_raised (upd t_all 97 ((t_all 97) + (1 : Int32))) (upd t_text (t_all 97).toNatClampNeg (vp_nar .byte ((((x1 >>> ((((56 : Int32) - ((8 : Int32) * x4))).toInt64 &&& 63))).toInt32).toInt8.toInt32))) x1 x3 (x4 + (1 : Int32)) H locs ls hP hD hS (lv_sub hl [1, 2, 3, 0] rfl) hF
def J_X11_type_37 (t_raised : Int32) (t_all : Nat → Int32) (t_text : Nat → Int32) (x1 : Int64) (x3 : Int32) : Option (Int32 × Int32 × (Nat → Int32) × (Nat → Int32)) :=
  if ((t_all 97) + x3) ≤ (400 : Int32) then (L_X11_type_57 fu_ t_raised t_all t_text x1 x3 (0 : Int32)) else (some ((-1 : Int32), t_raised, t_all, t_text))
set_option maxHeartbeats 4000000 in
set_option maxRecDepth 100000 in
theorem w_X11_type_37 {p : Program} {l : Launch} {e : Env} {s : State} {m : MethodId} {args : Array Value} {below : List Frame} {meth : Method} {c : Code} {D : va_G} {K : Nat → ClassId} {A : Nat → Prop} {Q : State → Prop} (C0 : cx_ p s m args c cX11_type 5 RX11 wsX11_type D K A) {g_t : Nat → Nat} {t_undos : Int32} {t_reached : Int32} {t_length : Int32} {t_begin : Int32} {t_sort : Int32} {t_value : Int32} {t_word : Int64} {t_wrongAt : Int32} {t_badAt : Int32} {t_bad : Int32} {t_read : Int32} {t_pictured : Int32} {t_x : Int32} {res : Int32 × Int32 × (Nat → Int32) × (Nat → Int32)} (HR : ∀ (pc : Nat) (H : Heap) (locs : List Loc) (ls : Array Slot), decode cX11_type pc = .ok (.ireturn, 1) → va_P D vwCl (w_X11_type K g_t res.2.1 t_undos t_reached t_length t_begin t_sort t_value t_word t_wrongAt t_badAt t_bad t_read t_pictured t_x res.2.2.1 res.2.2.2) H → va_D A (w_X11_type K g_t res.2.1 t_undos t_reached t_length t_begin t_sort t_value t_word t_wrongAt t_badAt t_bad t_read t_pictured t_x res.2.2.1 res.2.2.2) → va_S A s.heap H locs → W p l e rmX11_type s m args below meth c H locs 0 0 Q (F0 m pc ls [.int res.1]))  :
    ∀ (t_raised : Int32) (t_all : Nat → Int32) (t_text : Nat → Int32) (x1 : Int64) (x3 : Int32) (H : Heap) (locs : List Loc) (ls : Array Slot), va_P D vwCl (w_X11_type K g_t t_raised t_undos t_reached t_length t_begin t_sort t_value t_word t_wrongAt t_badAt t_bad t_read t_pictured t_x t_all t_text) H → va_D A (w_X11_type K g_t t_raised t_undos t_reached t_length t_begin t_sort t_value t_word t_wrongAt t_badAt t_bad t_read t_pictured t_x t_all t_text) → va_S A s.heap H locs → lv_has ls 5 [(0, .ref (g_t 0)), (1, .long x1), (3, .int x3)] → J_X11_type_37 t_raised t_all t_text x1 x3 = some res → W p l e rmX11_type s m args below meth c H locs 0 0 Q (F0 m 37 ls []) := by
  obtain ⟨⟨hx, hb, hml, hown, hts⟩, hK, -⟩ := id C0
  intro t_raised t_all t_text x1 x3 H locs ls hP hD hS hl hF
  unfold J_X11_type_37 at hF
  refine lv_aload_n hx hb dX11_type_37 rfl (lv_at hl 0 rfl) ?_
  refine va_get (D := D) (ci := 10) (v := .ref (g_t 2)) (C := RX11) (T := TX11) (N := 30) hx hb hts iw_X11_type_X11 hown hK hP 0 rfl rfl 1 (by decide) (hts _ fl_X11_type_7) (fun _ h9 => h9) rfl dX11_type_38 ?_
  refine lv_bipush (v := 97) hx hb dX11_type_41 (by decide) ?_
  refine xl_i (f := t_all) hx hb hK hP 1 0 rfl rfl (k := 97) (by decide) (in_v (by decide)) dX11_type_43 ?_
  refine lv_iload_n hx hb dX11_type_44 rfl (lv_at hl 2 rfl) ?_
  refine lv_iadd hx hb dX11_type_45 ?_
  refine lv_sipush (v := 400) hx hb dX11_type_46 (by decide) ?_
  refine lv_icmp_le (tgt := 54) hx hb dX11_type_49 (by decide) (fun c_1 => ?_) (fun c_1 => ?_)
  · have hF := it_pos c_1 hF
    refine lv_iconst (v := 0) hx hb dX11_type_54 (by decide) ?_
    refine lv_istore (lv' := [(4, .int (0 : Int32)), (0, .ref (g_t 0)), (1, .long x1), (3, .int x3)]) hx hb dX11_type_55 hl (by decide) rfl (fun ls hl => ?_)
    exact w_X11_type_57 C0 HR fu_ t_raised t_all t_text x1 x3 (0 : Int32) H locs ls hP hD hS (lv_sub hl [1, 2, 3, 0] rfl) hF
  · have hF := it_neg c_1 hF
    refine lv_iconst (v := (-1)) hx hb dX11_type_52 (by decide) ?_
    obtain rfl := Option.some.inj hF
    exact HR 53 H locs ls dX11_type_53 hP hD hS
def L_X11_type_7  : Nat → Int32 → (Nat → Int32) → (Nat → Int32) → Int64 → Int32 → Option (Int32 × Int32 × (Nat → Int32) × (Nat → Int32))
  | 0, _, _, _, _, _ => none
  | n_ + 1, t_raised, t_all, t_text, x1, x3 =>
    if (8 : Int32) ≤ x3 then (J_X11_type_37 t_raised t_all t_text x1 x3) else (if (lg_cmp ((x1 >>> ((((56 : Int32) - ((8 : Int32) * x3))).toInt64 &&& 63)) &&& (255 : Int64)) (0 : Int64)) = (0 : Int32) then (J_X11_type_37 t_raised t_all t_text x1 x3) else (L_X11_type_7 n_ t_raised t_all t_text x1 (x3 + (1 : Int32))))
set_option maxHeartbeats 4000000 in
set_option maxRecDepth 100000 in
theorem w_X11_type_7 {p : Program} {l : Launch} {e : Env} {s : State} {m : MethodId} {args : Array Value} {below : List Frame} {meth : Method} {c : Code} {D : va_G} {K : Nat → ClassId} {A : Nat → Prop} {Q : State → Prop} (C0 : cx_ p s m args c cX11_type 5 RX11 wsX11_type D K A) {g_t : Nat → Nat} {t_undos : Int32} {t_reached : Int32} {t_length : Int32} {t_begin : Int32} {t_sort : Int32} {t_value : Int32} {t_word : Int64} {t_wrongAt : Int32} {t_badAt : Int32} {t_bad : Int32} {t_read : Int32} {t_pictured : Int32} {t_x : Int32} {res : Int32 × Int32 × (Nat → Int32) × (Nat → Int32)} (HR : ∀ (pc : Nat) (H : Heap) (locs : List Loc) (ls : Array Slot), decode cX11_type pc = .ok (.ireturn, 1) → va_P D vwCl (w_X11_type K g_t res.2.1 t_undos t_reached t_length t_begin t_sort t_value t_word t_wrongAt t_badAt t_bad t_read t_pictured t_x res.2.2.1 res.2.2.2) H → va_D A (w_X11_type K g_t res.2.1 t_undos t_reached t_length t_begin t_sort t_value t_word t_wrongAt t_badAt t_bad t_read t_pictured t_x res.2.2.1 res.2.2.2) → va_S A s.heap H locs → W p l e rmX11_type s m args below meth c H locs 0 0 Q (F0 m pc ls [.int res.1]))  :
    ∀ (n_ : Nat) (t_raised : Int32) (t_all : Nat → Int32) (t_text : Nat → Int32) (x1 : Int64) (x3 : Int32) (H : Heap) (locs : List Loc) (ls : Array Slot), va_P D vwCl (w_X11_type K g_t t_raised t_undos t_reached t_length t_begin t_sort t_value t_word t_wrongAt t_badAt t_bad t_read t_pictured t_x t_all t_text) H → va_D A (w_X11_type K g_t t_raised t_undos t_reached t_length t_begin t_sort t_value t_word t_wrongAt t_badAt t_bad t_read t_pictured t_x t_all t_text) → va_S A s.heap H locs → lv_has ls 5 [(0, .ref (g_t 0)), (1, .long x1), (3, .int x3)] → L_X11_type_7 n_ t_raised t_all t_text x1 x3 = some res → W p l e rmX11_type s m args below meth c H locs 0 0 Q (F0 m 7 ls []) := by
  obtain ⟨⟨hx, hb, hml, hown, hts⟩, hK, -⟩ := id C0
  intro n_
  induction n_ with
  | zero =>
    intro t_raised t_all t_text x1 x3 H locs ls hP hD hS hl hF
    exact no_s (show (none : Option (Int32 × Int32 × (Nat → Int32) × (Nat → Int32))) = some res from hF)
  | succ n_ ih =>
    intro t_raised t_all t_text x1 x3 H locs ls hP hD hS hl hF
    rw [L_X11_type_7] at hF
    refine lv_iload_n hx hb dX11_type_7 rfl (lv_at hl 2 rfl) ?_
    refine lv_bipush (v := 8) hx hb dX11_type_8 (by decide) ?_
    refine lv_icmp_ge (tgt := 37) hx hb dX11_type_10 (by decide) (fun c_1 => ?_) (fun c_1 => ?_)
    · have hF := it_pos c_1 hF
      exact w_X11_type_37 C0 HR t_raised t_all t_text x1 x3 H locs ls hP hD hS (lv_sub hl [0, 1, 2] rfl) hF
    · have hF := it_neg c_1 hF
      refine lv_lload_n hx hb dX11_type_13 rfl (lv_at hl 1 rfl) ?_
      refine lv_bipush (v := 56) hx hb dX11_type_14 (by decide) ?_
      refine lv_bipush (v := 8) hx hb dX11_type_16 (by decide) ?_
      refine lv_iload_n hx hb dX11_type_18 rfl (lv_at hl 2 rfl) ?_
      refine lv_imul hx hb dX11_type_19 ?_
      refine lv_isub hx hb dX11_type_20 ?_
      refine lv_lshr hx hb dX11_type_21 rfl ?_
      refine lv_ldc2 (v := 255) hx hb hown (hts _ ld_X11_type_78) dX11_type_22 ?_
      refine lv_land hx hb dX11_type_25 ?_
      refine lv_lconst (v := 0) hx hb dX11_type_26 (by decide) ?_
      refine W.lcmp hx hb dX11_type_27 ?_
      refine lv_if_eq (tgt := 37) hx hb dX11_type_28 (by decide) (fun c_2 => ?_) (fun c_2 => ?_)
      · have hF := it_pos c_2 hF
        exact w_X11_type_37 C0 HR t_raised t_all t_text x1 x3 H locs ls hP hD hS (lv_sub hl [0, 1, 2] rfl) hF
      · have hF := it_neg c_2 hF
        refine lv_iinc (v := (x3 + (1 : Int32))) (lv' := [(3, .int (x3 + (1 : Int32))), (0, .ref (g_t 0)), (1, .long x1)]) hx hb dX11_type_31 hl (k := 2) rfl (congrArg (fun z => x3 + z) (by decide)) (by decide) rfl (fun ls hl => ?_)
        refine lv_goto (tgt := 7) hx hb dX11_type_34 (by decide) ?_
        exact ih t_raised t_all t_text x1 (x3 + (1 : Int32)) H locs ls hP hD hS (lv_sub hl [1, 2, 0] rfl) hF
def F_X11_type (t_raised : Int32) (t_all : Nat → Int32) (t_text : Nat → Int32) (x1 : Int64) : Option (Int32 × Int32 × (Nat → Int32) × (Nat → Int32)) :=
  L_X11_type_7 fu_ (0 : Int32) t_all t_text x1 (0 : Int32)
set_option maxHeartbeats 4000000 in
set_option maxRecDepth 100000 in
theorem c_X11_type (l : Launch) (D : va_G) (K : Nat → ClassId) (g_t : Nat → Nat) (t_raised : Int32) (t_undos : Int32) (t_reached : Int32) (t_length : Int32) (t_begin : Int32) (t_sort : Int32) (t_value : Int32) (t_word : Int64) (t_wrongAt : Int32) (t_badAt : Int32) (t_bad : Int32) (t_read : Int32) (t_pictured : Int32) (t_x : Int32) (t_all : Nat → Int32) (t_text : Nat → Int32) (x1 : Int64) (res : Int32 × Int32 × (Nat → Int32) × (Nat → Int32)) (hF : F_X11_type t_raised t_all t_text x1 = some res) :
    Mi_ l yX11_type wsX11_type rmX11_type D K [.ref (g_t 0), .long x1] (w_X11_type K g_t t_raised t_undos t_reached t_length t_begin t_sort t_value t_word t_wrongAt t_badAt t_bad t_read t_pictured t_x t_all t_text) (w_X11_type K g_t res.2.1 t_undos t_reached t_length t_begin t_sort t_value t_word t_wrongAt t_badAt t_bad t_read t_pictured t_x res.2.2.1 res.2.2.2) (res.1) := by
  refine en_i (cc := cX11_type) (maxL := 5) (own := RX11) (by decide) rfl rfl (Nat.le_of_ble_eq_true rfl) ?_
  intro p e s m args below meth c A Q H locs ls C0 hP hD hS hl HR
  obtain ⟨⟨hx, hb, hml, hown, hts⟩, hK, -⟩ := id C0
  have hl : lv_has ls 5 [(0, .ref (g_t 0)), (1, .long x1)] := hl
  unfold F_X11_type at hF
  refine lv_aload_n hx hb dX11_type_0 rfl (lv_at hl 0 rfl) ?_
  refine lv_iconst (v := 0) hx hb dX11_type_1 (by decide) ?_
  refine va_put (D := D) (ci := 10) (v := .int (0 : Int32)) (ty := .int) (C := RX11) (T := TX11) (N := 30) hx hb hts iw_X11_type_X11 tyX11 tyX11_ok nmX11 hown hK hP hD hS 0 rfl rfl 0 (by decide) (hts _ fl_X11_type_66) (fun _ h9 => h9) rfl (by decide +kernel) rfl rfl (Nat.le_of_ble_eq_true rfl) dX11_type_2 (fun H locs hP hD hS => ?_)
  have hP : va_P D vwCl (w_X11_type K g_t (0 : Int32) t_undos t_reached t_length t_begin t_sort t_value t_word t_wrongAt t_badAt t_bad t_read t_pictured t_x t_all t_text) H := hP
  have hD : va_D A (w_X11_type K g_t (0 : Int32) t_undos t_reached t_length t_begin t_sort t_value t_word t_wrongAt t_badAt t_bad t_read t_pictured t_x t_all t_text) := hD
  refine lv_iconst (v := 0) hx hb dX11_type_5 (by decide) ?_
  refine lv_istore_n (lv' := [(3, .int (0 : Int32)), (0, .ref (g_t 0)), (1, .long x1)]) hx hb dX11_type_6 rfl hl (by decide) rfl (fun ls hl => ?_)
  exact w_X11_type_7 C0 HR fu_ (0 : Int32) t_all t_text x1 (0 : Int32) H locs ls hP hD hS (lv_sub hl [1, 2, 0] rfl) hF

/-! StaggerRadarModel.undo()I -/
abbrev rmX11_undo : Room := { frames := 0, cells := 0, slots := 0, locals := 0 }
theorem fl_X11_undo_7 : Cond.fieldLink RX11 7 "StaggerRadarModel" "all" "[I" ∈ wsX11_undo := by decide +kernel
theorem fl_X11_undo_21 : Cond.fieldLink RX11 21 "StaggerRadarModel" "undone" "[I" ∈ wsX11_undo := by decide +kernel
theorem fl_X11_undo_66 : Cond.fieldLink RX11 66 "StaggerRadarModel" "raised" "I" ∈ wsX11_undo := by decide +kernel
theorem fl_X11_undo_176 : Cond.fieldLink RX11 176 "StaggerRadarModel" "undos" "I" ∈ wsX11_undo := by decide +kernel
theorem iw_X11_undo_X11 : ∀ w ∈ u_ws RX11 TX11 30, w ∈ wsX11_undo := by decide +kernel
abbrev w_X11_undo (K : Nat → ClassId) (g_t : Nat → Nat) (t_raised : Int32) (t_undos : Int32) (t_reached : Int32) (t_length : Int32) (t_begin : Int32) (t_sort : Int32) (t_value : Int32) (t_word : Int64) (t_wrongAt : Int32) (t_badAt : Int32) (t_bad : Int32) (t_read : Int32) (t_pictured : Int32) (t_x : Int32) (t_all : Nat → Int32) (t_undone : Nat → Int32) : va_W := [((g_t 0), .inr (10, [.int t_raised, .ref (g_t 2), .ref (g_t 3), .ref (g_t 4), .ref (g_t 5), .int t_undos, .int t_reached, .int t_length, .int t_begin, .int t_sort, .int t_value, .long t_word, .int t_wrongAt, .int t_badAt, .int t_bad, .ref (g_t 16), .int t_read, .ref (g_t 18), .ref (g_t 19), .ref (g_t 20), .int t_pictured, .ref (g_t 22), .ref (g_t 23), .ref (g_t 24), .ref (g_t 25), .ref (g_t 26), .int t_x, .ref (g_t 28), .ref (g_t 29), .ref (g_t 30)])), ((g_t 2), .inl (K 0, 500, .inl t_all)), ((g_t 5), .inl (K 0, 776, .inl t_undone))]
def L_X11_undo_26 (t_undone : Nat → Int32) : Nat → Int32 → Int32 → (Nat → Int32) → Int32 → Option (Int32 × Int32 × Int32 × (Nat → Int32))
  | 0, _, _, _, _ => none
  | n_ + 1, t_raised, t_undos, t_all, x1 =>
    if (97 : Int32) ≤ x1 then (some (t_undos, t_raised, t_undos, t_all)) else (gd_ (in_b (((97 : Int32) * t_undos) + x1) 776) (gd_ (in_b x1 500) (L_X11_undo_26 t_undone n_ t_raised t_undos (upd t_all (x1).toNatClampNeg (t_undone (((97 : Int32) * t_undos) + x1).toNatClampNeg)) (x1 + (1 : Int32)))))
set_option maxHeartbeats 4000000 in
set_option maxRecDepth 100000 in
theorem w_X11_undo_26 {p : Program} {l : Launch} {e : Env} {s : State} {m : MethodId} {args : Array Value} {below : List Frame} {meth : Method} {c : Code} {D : va_G} {K : Nat → ClassId} {A : Nat → Prop} {Q : State → Prop} (C0 : cx_ p s m args c cX11_undo 2 RX11 wsX11_undo D K A) {g_t : Nat → Nat} {t_reached : Int32} {t_length : Int32} {t_begin : Int32} {t_sort : Int32} {t_value : Int32} {t_word : Int64} {t_wrongAt : Int32} {t_badAt : Int32} {t_bad : Int32} {t_read : Int32} {t_pictured : Int32} {t_x : Int32} {t_undone : Nat → Int32} {res : Int32 × Int32 × Int32 × (Nat → Int32)} (HR : ∀ (pc : Nat) (H : Heap) (locs : List Loc) (ls : Array Slot), decode cX11_undo pc = .ok (.ireturn, 1) → va_P D vwCl (w_X11_undo K g_t res.2.1 res.2.2.1 t_reached t_length t_begin t_sort t_value t_word t_wrongAt t_badAt t_bad t_read t_pictured t_x res.2.2.2 t_undone) H → va_D A (w_X11_undo K g_t res.2.1 res.2.2.1 t_reached t_length t_begin t_sort t_value t_word t_wrongAt t_badAt t_bad t_read t_pictured t_x res.2.2.2 t_undone) → va_S A s.heap H locs → W p l e rmX11_undo s m args below meth c H locs 0 0 Q (F0 m pc ls [.int res.1]))  :
    ∀ (n_ : Nat) (t_raised : Int32) (t_undos : Int32) (t_all : Nat → Int32) (x1 : Int32) (H : Heap) (locs : List Loc) (ls : Array Slot), va_P D vwCl (w_X11_undo K g_t t_raised t_undos t_reached t_length t_begin t_sort t_value t_word t_wrongAt t_badAt t_bad t_read t_pictured t_x t_all t_undone) H → va_D A (w_X11_undo K g_t t_raised t_undos t_reached t_length t_begin t_sort t_value t_word t_wrongAt t_badAt t_bad t_read t_pictured t_x t_all t_undone) → va_S A s.heap H locs → lv_has ls 2 [(0, .ref (g_t 0)), (1, .int x1)] → L_X11_undo_26 t_undone n_ t_raised t_undos t_all x1 = some res → W p l e rmX11_undo s m args below meth c H locs 0 0 Q (F0 m 26 ls []) := by
  obtain ⟨⟨hx, hb, hml, hown, hts⟩, hK, -⟩ := id C0
  intro n_
  induction n_ with
  | zero =>
    intro t_raised t_undos t_all x1 H locs ls hP hD hS hl hF
    exact no_s (show (none : Option (Int32 × Int32 × Int32 × (Nat → Int32))) = some res from hF)
  | succ n_ ih =>
    intro t_raised t_undos t_all x1 H locs ls hP hD hS hl hF
    rw [L_X11_undo_26] at hF
    refine lv_iload_n hx hb dX11_undo_26 rfl (lv_at hl 1 rfl) ?_
    refine lv_bipush (v := 97) hx hb dX11_undo_27 (by decide) ?_
    refine lv_icmp_ge (tgt := 58) hx hb dX11_undo_29 (by decide) (fun c_1 => ?_) (fun c_1 => ?_)
    · have hF := it_pos c_1 hF
      refine lv_aload_n hx hb dX11_undo_58 rfl (lv_at hl 0 rfl) ?_
      refine va_get (D := D) (ci := 10) (v := .int t_undos) (C := RX11) (T := TX11) (N := 30) hx hb hts iw_X11_undo_X11 hown hK hP 0 rfl rfl 5 (by decide) (hts _ fl_X11_undo_176) (fun _ h9 => h9) rfl dX11_undo_59 ?_
      obtain rfl := Option.some.inj hF
      exact HR 62 H locs ls dX11_undo_62 hP hD hS
    · have hF := it_neg c_1 hF
      refine lv_aload_n hx hb dX11_undo_32 rfl (lv_at hl 0 rfl) ?_
      refine va_get (D := D) (ci := 10) (v := .ref (g_t 2)) (C := RX11) (T := TX11) (N := 30) hx hb hts iw_X11_undo_X11 hown hK hP 0 rfl rfl 1 (by decide) (hts _ fl_X11_undo_7) (fun _ h9 => h9) rfl dX11_undo_33 ?_
      refine lv_iload_n hx hb dX11_undo_36 rfl (lv_at hl 1 rfl) ?_
      refine lv_aload_n hx hb dX11_undo_37 rfl (lv_at hl 0 rfl) ?_
      refine va_get (D := D) (ci := 10) (v := .ref (g_t 5)) (C := RX11) (T := TX11) (N := 30) hx hb hts iw_X11_undo_X11 hown hK hP 0 rfl rfl 4 (by decide) (hts _ fl_X11_undo_21) (fun _ h9 => h9) rfl dX11_undo_38 ?_
      refine lv_bipush (v := 97) hx hb dX11_undo_41 (by decide) ?_
      refine lv_aload_n hx hb dX11_undo_43 rfl (lv_at hl 0 rfl) ?_
      refine va_get (D := D) (ci := 10) (v := .int t_undos) (C := RX11) (T := TX11) (N := 30) hx hb hts iw_X11_undo_X11 hown hK hP 0 rfl rfl 5 (by decide) (hts _ fl_X11_undo_176) (fun _ h9 => h9) rfl dX11_undo_44 ?_
      refine lv_imul hx hb dX11_undo_47 ?_
      refine lv_iload_n hx hb dX11_undo_48 rfl (lv_at hl 1 rfl) ?_
      refine lv_iadd hx hb dX11_undo_49 ?_
      obtain ⟨hg_2, hF⟩ := gd_some hF
      refine xl_i (f := t_undone) hx hb hK hP 2 0 rfl rfl rfl (in_v hg_2) dX11_undo_50 ?_
      obtain ⟨hg_3, hF⟩ := gd_some hF
      refine xs_i (f := t_all) hx hb hK hP hD hS 1 0 rfl rfl rfl (in_v hg_3) dX11_undo_51 (fun H locs hP hD hS => ?_)
      have hP : va_P D vwCl (w_X11_undo K g_t t_raised t_undos t_reached t_length t_begin t_sort t_value t_word t_wrongAt t_badAt t_bad t_read t_pictured t_x (upd t_all (x1).toNatClampNeg (t_undone (((97 : Int32) * t_undos) + x1).toNatClampNeg)) t_undone) H := hP
      have hD : va_D A (w_X11_undo K g_t t_raised t_undos t_reached t_length t_begin t_sort t_value t_word t_wrongAt t_badAt t_bad t_read t_pictured t_x (upd t_all (x1).toNatClampNeg (t_undone (((97 : Int32) * t_undos) + x1).toNatClampNeg)) t_undone) := hD
      refine lv_iinc (v := (x1 + (1 : Int32))) (lv' := [(1, .int (x1 + (1 : Int32))), (0, .ref (g_t 0))]) hx hb dX11_undo_52 hl (k := 1) rfl (congrArg (fun z => x1 + z) (by decide)) (by decide) rfl (fun ls hl => ?_)
      refine lv_goto (tgt := 26) hx hb dX11_undo_55 (by decide) ?_
      exact ih t_raised t_undos (upd t_all (x1).toNatClampNeg (t_undone (((97 : Int32) * t_undos) + x1).toNatClampNeg)) (x1 + (1 : Int32)) H locs ls hP hD hS (lv_sub hl [1, 0] rfl) hF
def F_X11_undo (t_raised : Int32) (t_undos : Int32) (t_all : Nat → Int32) (t_undone : Nat → Int32) : Option (Int32 × Int32 × Int32 × (Nat → Int32)) :=
  if t_undos = (0 : Int32) then (some ((-1 : Int32), (0 : Int32), t_undos, t_all)) else (L_X11_undo_26 t_undone fu_ (0 : Int32) (t_undos - (1 : Int32)) t_all (0 : Int32))
set_option maxHeartbeats 4000000 in
set_option maxRecDepth 100000 in
theorem c_X11_undo (l : Launch) (D : va_G) (K : Nat → ClassId) (g_t : Nat → Nat) (t_raised : Int32) (t_undos : Int32) (t_reached : Int32) (t_length : Int32) (t_begin : Int32) (t_sort : Int32) (t_value : Int32) (t_word : Int64) (t_wrongAt : Int32) (t_badAt : Int32) (t_bad : Int32) (t_read : Int32) (t_pictured : Int32) (t_x : Int32) (t_all : Nat → Int32) (t_undone : Nat → Int32) (res : Int32 × Int32 × Int32 × (Nat → Int32)) (hF : F_X11_undo t_raised t_undos t_all t_undone = some res) :
    Mi_ l yX11_undo wsX11_undo rmX11_undo D K [.ref (g_t 0)] (w_X11_undo K g_t t_raised t_undos t_reached t_length t_begin t_sort t_value t_word t_wrongAt t_badAt t_bad t_read t_pictured t_x t_all t_undone) (w_X11_undo K g_t res.2.1 res.2.2.1 t_reached t_length t_begin t_sort t_value t_word t_wrongAt t_badAt t_bad t_read t_pictured t_x res.2.2.2 t_undone) (res.1) := by
  refine en_i (cc := cX11_undo) (maxL := 2) (own := RX11) (by decide) rfl rfl (Nat.le_of_ble_eq_true rfl) ?_
  intro p e s m args below meth c A Q H locs ls C0 hP hD hS hl HR
  obtain ⟨⟨hx, hb, hml, hown, hts⟩, hK, -⟩ := id C0
  have hl : lv_has ls 2 [(0, .ref (g_t 0))] := hl
  unfold F_X11_undo at hF
  refine lv_aload_n hx hb dX11_undo_0 rfl (lv_at hl 0 rfl) ?_
  refine lv_iconst (v := 0) hx hb dX11_undo_1 (by decide) ?_
  refine va_put (D := D) (ci := 10) (v := .int (0 : Int32)) (ty := .int) (C := RX11) (T := TX11) (N := 30) hx hb hts iw_X11_undo_X11 tyX11 tyX11_ok nmX11 hown hK hP hD hS 0 rfl rfl 0 (by decide) (hts _ fl_X11_undo_66) (fun _ h9 => h9) rfl (by decide +kernel) rfl rfl (Nat.le_of_ble_eq_true rfl) dX11_undo_2 (fun H locs hP hD hS => ?_)
  have hP : va_P D vwCl (w_X11_undo K g_t (0 : Int32) t_undos t_reached t_length t_begin t_sort t_value t_word t_wrongAt t_badAt t_bad t_read t_pictured t_x t_all t_undone) H := hP
  have hD : va_D A (w_X11_undo K g_t (0 : Int32) t_undos t_reached t_length t_begin t_sort t_value t_word t_wrongAt t_badAt t_bad t_read t_pictured t_x t_all t_undone) := hD
  refine lv_aload_n hx hb dX11_undo_5 rfl (lv_at hl 0 rfl) ?_
  refine va_get (D := D) (ci := 10) (v := .int t_undos) (C := RX11) (T := TX11) (N := 30) hx hb hts iw_X11_undo_X11 hown hK hP 0 rfl rfl 5 (by decide) (hts _ fl_X11_undo_176) (fun _ h9 => h9) rfl dX11_undo_6 ?_
  refine lv_if_ne (tgt := 14) hx hb dX11_undo_9 (by decide) (fun c_1 => ?_) (fun c_1 => ?_)
  · have hF := it_neg c_1 hF
    refine lv_aload_n hx hb dX11_undo_14 rfl (lv_at hl 0 rfl) ?_
    refine lv_dup hx hb dX11_undo_15 rfl ?_
    refine va_get (D := D) (ci := 10) (v := .int t_undos) (C := RX11) (T := TX11) (N := 30) hx hb hts iw_X11_undo_X11 hown hK hP 0 rfl rfl 5 (by decide) (hts _ fl_X11_undo_176) (fun _ h9 => h9) rfl dX11_undo_16 ?_
    refine lv_iconst (v := 1) hx hb dX11_undo_19 (by decide) ?_
    refine lv_isub hx hb dX11_undo_20 ?_
    refine va_put (D := D) (ci := 10) (v := .int (t_undos - (1 : Int32))) (ty := .int) (C := RX11) (T := TX11) (N := 30) hx hb hts iw_X11_undo_X11 tyX11 tyX11_ok nmX11 hown hK hP hD hS 0 rfl rfl 5 (by decide) (hts _ fl_X11_undo_176) (fun _ h9 => h9) rfl (by decide +kernel) rfl rfl (Nat.le_of_ble_eq_true rfl) dX11_undo_21 (fun H locs hP hD hS => ?_)
    have hP : va_P D vwCl (w_X11_undo K g_t (0 : Int32) (t_undos - (1 : Int32)) t_reached t_length t_begin t_sort t_value t_word t_wrongAt t_badAt t_bad t_read t_pictured t_x t_all t_undone) H := hP
    have hD : va_D A (w_X11_undo K g_t (0 : Int32) (t_undos - (1 : Int32)) t_reached t_length t_begin t_sort t_value t_word t_wrongAt t_badAt t_bad t_read t_pictured t_x t_all t_undone) := hD
    refine lv_iconst (v := 0) hx hb dX11_undo_24 (by decide) ?_
    refine lv_istore_n (lv' := [(1, .int (0 : Int32)), (0, .ref (g_t 0))]) hx hb dX11_undo_25 rfl hl (by decide) rfl (fun ls hl => ?_)
    exact w_X11_undo_26 C0 HR fu_ (0 : Int32) (t_undos - (1 : Int32)) t_all (0 : Int32) H locs ls hP hD hS (lv_sub hl [1, 0] rfl) hF
  · have hF := it_pos c_1 hF
    refine lv_iconst (v := (-1)) hx hb dX11_undo_12 (by decide) ?_
    obtain rfl := Option.some.inj hF
    exact HR 13 H locs ls dX11_undo_13 hP hD hS

/-! StaggerRadarModel.until(II)I -/
abbrev rmX11_until : Room := { frames := 4, cells := 0, slots := 0, locals := 89 }
theorem fl_X11_until_66 : Cond.fieldLink RX11 66 "StaggerRadarModel" "raised" "I" ∈ wsX11_until := by decide +kernel
theorem iw_X11_until_X11 : ∀ w ∈ u_ws RX11 TX11 30, w ∈ wsX11_until := by decide +kernel
abbrev w_X11_until (K : Nat → ClassId) (g_t : Nat → Nat) (t_raised : Int32) (t_undos : Int32) (t_reached : Int32) (t_length : Int32) (t_begin : Int32) (t_sort : Int32) (t_value : Int32) (t_word : Int64) (t_wrongAt : Int32) (t_badAt : Int32) (t_bad : Int32) (t_read : Int32) (t_pictured : Int32) (t_x : Int32) (t_all : Nat → Int32) (t_loud : Nat → Int32) : va_W := [((g_t 0), .inr (10, [.int t_raised, .ref (g_t 2), .ref (g_t 3), .ref (g_t 4), .ref (g_t 5), .int t_undos, .int t_reached, .int t_length, .int t_begin, .int t_sort, .int t_value, .long t_word, .int t_wrongAt, .int t_badAt, .int t_bad, .ref (g_t 16), .int t_read, .ref (g_t 18), .ref (g_t 19), .ref (g_t 20), .int t_pictured, .ref (g_t 22), .ref (g_t 23), .ref (g_t 24), .ref (g_t 25), .ref (g_t 26), .int t_x, .ref (g_t 28), .ref (g_t 29), .ref (g_t 30)])), ((g_t 2), .inl (K 0, 500, .inl t_all)), ((g_t 18), .inl (K 0, 300, .inl t_loud))]
def J_X11_until_86 (k_37 : Int32 → (Nat → Int32) → (Nat → Int32) → Int32 → Int32 → Int32 → Int32 → Option (Int32 × Int32 × (Nat → Int32) × (Nat → Int32))) (t_raised : Int32) (t_all : Nat → Int32) (t_loud : Nat → Int32) (x1 : Int32) (x2 : Int32) (x4 : Int32) (s0 : Int32) : Option (Int32 × Int32 × (Nat → Int32) × (Nat → Int32)) :=
  (F_X11_copies t_all (4 : Int32) (0 : Int32)).bind fun r_1 => (k_37 t_raised r_1 t_loud x1 x2 s0 (x4 + (1 : Int32)))
set_option maxHeartbeats 4000000 in
set_option maxRecDepth 100000 in
theorem w_X11_until_86 {p : Program} {l : Launch} {e : Env} {s : State} {m : MethodId} {args : Array Value} {below : List Frame} {meth : Method} {c : Code} {D : va_G} {K : Nat → ClassId} {A : Nat → Prop} {Q : State → Prop} (C0 : cx_ p s m args c cX11_until 6 RX11 wsX11_until D K A) {g_t : Nat → Nat} {t_undos : Int32} {t_reached : Int32} {t_length : Int32} {t_begin : Int32} {t_sort : Int32} {t_value : Int32} {t_word : Int64} {t_wrongAt : Int32} {t_badAt : Int32} {t_bad : Int32} {t_read : Int32} {t_pictured : Int32} {t_x : Int32} {res : Int32 × Int32 × (Nat → Int32) × (Nat → Int32)} (HR : ∀ (pc : Nat) (H : Heap) (locs : List Loc) (ls : Array Slot), decode cX11_until pc = .ok (.ireturn, 1) → va_P D vwCl (w_X11_until K g_t res.2.1 t_undos t_reached t_length t_begin t_sort t_value t_word t_wrongAt t_badAt t_bad t_read t_pictured t_x res.2.2.1 res.2.2.2) H → va_D A (w_X11_until K g_t res.2.1 t_undos t_reached t_length t_begin t_sort t_value t_word t_wrongAt t_badAt t_bad t_read t_pictured t_x res.2.2.1 res.2.2.2) → va_S A s.heap H locs → W p l e rmX11_until s m args below meth c H locs 0 0 Q (F0 m pc ls [.int res.1])) {k_37 : Int32 → (Nat → Int32) → (Nat → Int32) → Int32 → Int32 → Int32 → Int32 → Option (Int32 × Int32 × (Nat → Int32) × (Nat → Int32))} (HK_37 : ∀ (t_raised : Int32) (t_all : Nat → Int32) (t_loud : Nat → Int32) (x1 : Int32) (x2 : Int32) (x3 : Int32) (x4 : Int32) (H : Heap) (locs : List Loc) (ls : Array Slot), va_P D vwCl (w_X11_until K g_t t_raised t_undos t_reached t_length t_begin t_sort t_value t_word t_wrongAt t_badAt t_bad t_read t_pictured t_x t_all t_loud) H → va_D A (w_X11_until K g_t t_raised t_undos t_reached t_length t_begin t_sort t_value t_word t_wrongAt t_badAt t_bad t_read t_pictured t_x t_all t_loud) → va_S A s.heap H locs → lv_has ls 6 [(0, .ref (g_t 0)), (1, .int x1), (2, .int x2), (3, .int x3), (4, .int x4)] → k_37 t_raised t_all t_loud x1 x2 x3 x4 = some res → W p l e rmX11_until s m args below meth c H locs 0 0 Q (F0 m 37 ls [])) :
    ∀ (t_raised : Int32) (t_all : Nat → Int32) (t_loud : Nat → Int32) (x1 : Int32) (x2 : Int32) (x4 : Int32) (s0 : Int32) (H : Heap) (locs : List Loc) (ls : Array Slot), va_P D vwCl (w_X11_until K g_t t_raised t_undos t_reached t_length t_begin t_sort t_value t_word t_wrongAt t_badAt t_bad t_read t_pictured t_x t_all t_loud) H → va_D A (w_X11_until K g_t t_raised t_undos t_reached t_length t_begin t_sort t_value t_word t_wrongAt t_badAt t_bad t_read t_pictured t_x t_all t_loud) → va_S A s.heap H locs → lv_has ls 6 [(0, .ref (g_t 0)), (1, .int x1), (2, .int x2), (4, .int x4)] → J_X11_until_86 k_37 t_raised t_all t_loud x1 x2 x4 s0 = some res → W p l e rmX11_until s m args below meth c H locs 0 0 Q (F0 m 86 ls [.int s0]) := by
  obtain ⟨⟨hx, hb, hml, hown, hts⟩, hK, -⟩ := id C0
  intro t_raised t_all t_loud x1 x2 x4 s0 H locs ls hP hD hS hl hF
  unfold J_X11_until_86 at hF
  refine lv_istore_n (lv' := [(3, .int s0), (0, .ref (g_t 0)), (1, .int x1), (2, .int x2), (4, .int x4)]) hx hb dX11_until_86 rfl hl (by decide) rfl (fun ls hl => ?_)
  refine lv_aload_n hx hb dX11_until_87 rfl (lv_at hl 1 rfl) ?_
  refine lv_iconst (v := 4) hx hb dX11_until_88 (by decide) ?_
  refine lv_iconst (v := 0) hx hb dX11_until_89 (by decide) ?_
  obtain ⟨r_1, hc_2, hF⟩ := bn_some hF
  refine xc_v (wn := (w_X11_until K g_t t_raised t_undos t_reached t_length t_begin t_sort t_value t_word t_wrongAt t_badAt t_bad t_read t_pictured t_x r_1 t_loud)) hP hD hS C0.2.2.1 [0, 1] [2] [1, 2, 0] rfl rfl (by decide) (by decide) rfl (by decide) (va_runV (As := [.int (4 : Int32), .int (0 : Int32)]) (rest := []) C0.1 (c_X11_copies l D K g_t t_raised t_undos t_reached t_length t_begin t_sort t_value t_word t_wrongAt t_badAt t_bad t_read t_pictured t_x t_all (4 : Int32) (0 : Int32) r_1 hc_2 H.size) (cwV 2 hts gX11_until_X11_copies rfl rfl rfl (by decide +kernel) ⟨Nat.le_of_ble_eq_true rfl, Nat.le_of_ble_eq_true rfl⟩) (xp_V C0.2 hP hD hS [0, 1] rfl (by decide) 10 0 rfl rfl rfl) rfl rfl hl.1 rfl (lv_room (Nat.le_of_ble_eq_true rfl)) dX11_until_90 ⟨Nat.le_of_ble_eq_true rfl, Nat.le_of_ble_eq_true rfl⟩) (fun H locs hP hD hS => ?_)
  refine lv_iinc (v := (x4 + (1 : Int32))) (lv' := [(4, .int (x4 + (1 : Int32))), (3, .int s0), (0, .ref (g_t 0)), (1, .int x1), (2, .int x2)]) hx hb dX11_until_93 hl (k := 4) rfl (congrArg (fun z => x4 + z) (by decide)) (by decide) rfl (fun ls hl => ?_)
  refine lv_goto (tgt := 37) hx hb dX11_until_96 (by decide) ?_
  exact HK_37 t_raised r_1 t_loud x1 x2 s0 (x4 + (1 : Int32)) H locs ls hP hD hS (lv_sub hl [2, 3, 4, 1, 0] rfl) hF
def J_X11_until_85 (k_37 : Int32 → (Nat → Int32) → (Nat → Int32) → Int32 → Int32 → Int32 → Int32 → Option (Int32 × Int32 × (Nat → Int32) × (Nat → Int32))) (t_raised : Int32) (t_all : Nat → Int32) (t_loud : Nat → Int32) (x1 : Int32) (x2 : Int32) (x4 : Int32) : Option (Int32 × Int32 × (Nat → Int32) × (Nat → Int32)) :=
  J_X11_until_86 k_37 t_raised t_all t_loud x1 x2 x4 (-1 : Int32)
set_option maxHeartbeats 4000000 in
set_option maxRecDepth 100000 in
theorem w_X11_until_85 {p : Program} {l : Launch} {e : Env} {s : State} {m : MethodId} {args : Array Value} {below : List Frame} {meth : Method} {c : Code} {D : va_G} {K : Nat → ClassId} {A : Nat → Prop} {Q : State → Prop} (C0 : cx_ p s m args c cX11_until 6 RX11 wsX11_until D K A) {g_t : Nat → Nat} {t_undos : Int32} {t_reached : Int32} {t_length : Int32} {t_begin : Int32} {t_sort : Int32} {t_value : Int32} {t_word : Int64} {t_wrongAt : Int32} {t_badAt : Int32} {t_bad : Int32} {t_read : Int32} {t_pictured : Int32} {t_x : Int32} {res : Int32 × Int32 × (Nat → Int32) × (Nat → Int32)} (HR : ∀ (pc : Nat) (H : Heap) (locs : List Loc) (ls : Array Slot), decode cX11_until pc = .ok (.ireturn, 1) → va_P D vwCl (w_X11_until K g_t res.2.1 t_undos t_reached t_length t_begin t_sort t_value t_word t_wrongAt t_badAt t_bad t_read t_pictured t_x res.2.2.1 res.2.2.2) H → va_D A (w_X11_until K g_t res.2.1 t_undos t_reached t_length t_begin t_sort t_value t_word t_wrongAt t_badAt t_bad t_read t_pictured t_x res.2.2.1 res.2.2.2) → va_S A s.heap H locs → W p l e rmX11_until s m args below meth c H locs 0 0 Q (F0 m pc ls [.int res.1])) {k_37 : Int32 → (Nat → Int32) → (Nat → Int32) → Int32 → Int32 → Int32 → Int32 → Option (Int32 × Int32 × (Nat → Int32) × (Nat → Int32))} (HK_37 : ∀ (t_raised : Int32) (t_all : Nat → Int32) (t_loud : Nat → Int32) (x1 : Int32) (x2 : Int32) (x3 : Int32) (x4 : Int32) (H : Heap) (locs : List Loc) (ls : Array Slot), va_P D vwCl (w_X11_until K g_t t_raised t_undos t_reached t_length t_begin t_sort t_value t_word t_wrongAt t_badAt t_bad t_read t_pictured t_x t_all t_loud) H → va_D A (w_X11_until K g_t t_raised t_undos t_reached t_length t_begin t_sort t_value t_word t_wrongAt t_badAt t_bad t_read t_pictured t_x t_all t_loud) → va_S A s.heap H locs → lv_has ls 6 [(0, .ref (g_t 0)), (1, .int x1), (2, .int x2), (3, .int x3), (4, .int x4)] → k_37 t_raised t_all t_loud x1 x2 x3 x4 = some res → W p l e rmX11_until s m args below meth c H locs 0 0 Q (F0 m 37 ls [])) :
    ∀ (t_raised : Int32) (t_all : Nat → Int32) (t_loud : Nat → Int32) (x1 : Int32) (x2 : Int32) (x4 : Int32) (H : Heap) (locs : List Loc) (ls : Array Slot), va_P D vwCl (w_X11_until K g_t t_raised t_undos t_reached t_length t_begin t_sort t_value t_word t_wrongAt t_badAt t_bad t_read t_pictured t_x t_all t_loud) H → va_D A (w_X11_until K g_t t_raised t_undos t_reached t_length t_begin t_sort t_value t_word t_wrongAt t_badAt t_bad t_read t_pictured t_x t_all t_loud) → va_S A s.heap H locs → lv_has ls 6 [(0, .ref (g_t 0)), (1, .int x1), (2, .int x2), (4, .int x4)] → J_X11_until_85 k_37 t_raised t_all t_loud x1 x2 x4 = some res → W p l e rmX11_until s m args below meth c H locs 0 0 Q (F0 m 85 ls []) := by
  obtain ⟨⟨hx, hb, hml, hown, hts⟩, hK, -⟩ := id C0
  intro t_raised t_all t_loud x1 x2 x4 H locs ls hP hD hS hl hF
  unfold J_X11_until_85 at hF
  refine lv_iconst (v := (-1)) hx hb dX11_until_85 (by decide) ?_
  exact w_X11_until_86 C0 HR HK_37 t_raised t_all t_loud x1 x2 x4 (-1 : Int32) H locs ls hP hD hS (lv_sub hl [0, 1, 2, 3] rfl) hF
def L_X11_until_37  : Nat → Int32 → (Nat → Int32) → (Nat → Int32) → Int32 → Int32 → Int32 → Int32 → Option (Int32 × Int32 × (Nat → Int32) × (Nat → Int32))
  | 0, _, _, _, _, _, _, _ => none
  | n_ + 1, t_raised, t_all, t_loud, x1, x2, x3, x4 =>
    if x2 < x4 then (some (x3, t_raised, t_all, t_loud)) else (if x3 = (-1 : Int32) then ((F_X11_goesOnBy t_all x1 x4).bind fun r_3 => ((F_X11_laysLoud r_3.2 t_loud).bind fun r_5 => (if r_3.1 = (-1 : Int32) then (J_X11_until_85 (L_X11_until_37 n_) t_raised r_3.2 r_5 x1 x2 x4) else ((F_X11_rangeOf r_3.2 r_3.1).bind fun r_8 => ((F_X11_isFound r_3.2 r_5 r_8).bind fun r_10 => (if r_10 = (0 : Int32) then (J_X11_until_85 (L_X11_until_37 n_) t_raised r_3.2 r_5 x1 x2 x4) else (J_X11_until_86 (L_X11_until_37 n_) t_raised r_3.2 r_5 x1 x2 x4 x4))))))) else (some (x3, t_raised, t_all, t_loud)))
set_option maxHeartbeats 4000000 in
set_option maxRecDepth 100000 in
theorem w_X11_until_37 {p : Program} {l : Launch} {e : Env} {s : State} {m : MethodId} {args : Array Value} {below : List Frame} {meth : Method} {c : Code} {D : va_G} {K : Nat → ClassId} {A : Nat → Prop} {Q : State → Prop} (C0 : cx_ p s m args c cX11_until 6 RX11 wsX11_until D K A) {g_t : Nat → Nat} {t_undos : Int32} {t_reached : Int32} {t_length : Int32} {t_begin : Int32} {t_sort : Int32} {t_value : Int32} {t_word : Int64} {t_wrongAt : Int32} {t_badAt : Int32} {t_bad : Int32} {t_read : Int32} {t_pictured : Int32} {t_x : Int32} {res : Int32 × Int32 × (Nat → Int32) × (Nat → Int32)} (HR : ∀ (pc : Nat) (H : Heap) (locs : List Loc) (ls : Array Slot), decode cX11_until pc = .ok (.ireturn, 1) → va_P D vwCl (w_X11_until K g_t res.2.1 t_undos t_reached t_length t_begin t_sort t_value t_word t_wrongAt t_badAt t_bad t_read t_pictured t_x res.2.2.1 res.2.2.2) H → va_D A (w_X11_until K g_t res.2.1 t_undos t_reached t_length t_begin t_sort t_value t_word t_wrongAt t_badAt t_bad t_read t_pictured t_x res.2.2.1 res.2.2.2) → va_S A s.heap H locs → W p l e rmX11_until s m args below meth c H locs 0 0 Q (F0 m pc ls [.int res.1]))  :
    ∀ (n_ : Nat) (t_raised : Int32) (t_all : Nat → Int32) (t_loud : Nat → Int32) (x1 : Int32) (x2 : Int32) (x3 : Int32) (x4 : Int32) (H : Heap) (locs : List Loc) (ls : Array Slot), va_P D vwCl (w_X11_until K g_t t_raised t_undos t_reached t_length t_begin t_sort t_value t_word t_wrongAt t_badAt t_bad t_read t_pictured t_x t_all t_loud) H → va_D A (w_X11_until K g_t t_raised t_undos t_reached t_length t_begin t_sort t_value t_word t_wrongAt t_badAt t_bad t_read t_pictured t_x t_all t_loud) → va_S A s.heap H locs → lv_has ls 6 [(0, .ref (g_t 0)), (1, .int x1), (2, .int x2), (3, .int x3), (4, .int x4)] → L_X11_until_37 n_ t_raised t_all t_loud x1 x2 x3 x4 = some res → W p l e rmX11_until s m args below meth c H locs 0 0 Q (F0 m 37 ls []) := by
  obtain ⟨⟨hx, hb, hml, hown, hts⟩, hK, -⟩ := id C0
  intro n_
  induction n_ with
  | zero =>
    intro t_raised t_all t_loud x1 x2 x3 x4 H locs ls hP hD hS hl hF
    exact no_s (show (none : Option (Int32 × Int32 × (Nat → Int32) × (Nat → Int32))) = some res from hF)
  | succ n_ ih =>
    intro t_raised t_all t_loud x1 x2 x3 x4 H locs ls hP hD hS hl hF
    rw [L_X11_until_37] at hF
    refine lv_iload hx hb dX11_until_37 (lv_at hl 4 rfl) ?_
    refine lv_iload_n hx hb dX11_until_39 rfl (lv_at hl 2 rfl) ?_
    refine lv_icmp_gt (tgt := 99) hx hb dX11_until_40 (by decide) (fun c_1 => ?_) (fun c_1 => ?_)
    · have hF := it_pos c_1 hF
      refine lv_iload_n hx hb dX11_until_99 rfl (lv_at hl 3 rfl) ?_
      obtain rfl := Option.some.inj hF
      exact HR 100 H locs ls dX11_until_100 hP hD hS
    · have hF := it_neg c_1 hF
      refine lv_iload_n hx hb dX11_until_43 rfl (lv_at hl 3 rfl) ?_
      refine lv_iconst (v := (-1)) hx hb dX11_until_44 (by decide) ?_
      refine lv_icmp_ne (tgt := 99) hx hb dX11_until_45 (by decide) (fun c_2 => ?_) (fun c_2 => ?_)
      · have hF := it_neg c_2 hF
        refine lv_iload_n hx hb dX11_until_99 rfl (lv_at hl 3 rfl) ?_
        obtain rfl := Option.some.inj hF
        exact HR 100 H locs ls dX11_until_100 hP hD hS
      · have hF := it_pos c_2 hF
        refine lv_aload_n hx hb dX11_until_48 rfl (lv_at hl 0 rfl) ?_
        refine lv_iload_n hx hb dX11_until_49 rfl (lv_at hl 1 rfl) ?_
        refine lv_iload hx hb dX11_until_50 (lv_at hl 4 rfl) ?_
        obtain ⟨r_3, hc_4, hF⟩ := bn_some hF
        refine xc_i (wn := (w_X11_until K g_t t_raised t_undos t_reached t_length t_begin t_sort t_value t_word t_wrongAt t_badAt t_bad t_read t_pictured t_x r_3.2 t_loud)) hP hD hS C0.2.2.1 [0, 1] [2] [1, 2, 0] rfl rfl (by decide) (by decide) rfl (by decide) (va_runV (As := [.int x1, .int x4]) (rest := []) C0.1 (c_X11_goesOnBy l D K g_t t_raised t_undos t_reached t_length t_begin t_sort t_value t_word t_wrongAt t_badAt t_bad t_read t_pictured t_x t_all x1 x4 r_3 hc_4 H.size) (cwV 2 hts gX11_until_X11_goesOnBy rfl rfl rfl (by decide +kernel) ⟨Nat.le_of_ble_eq_true rfl, Nat.le_of_ble_eq_true rfl⟩) (xp_V C0.2 hP hD hS [0, 1] rfl (by decide) 10 0 rfl rfl rfl) rfl rfl hl.1 rfl (lv_room (Nat.le_of_ble_eq_true rfl)) dX11_until_52 ⟨Nat.le_of_ble_eq_true rfl, Nat.le_of_ble_eq_true rfl⟩) (fun H locs hP hD hS => ?_)
        refine lv_istore (lv' := [(5, .int r_3.1), (0, .ref (g_t 0)), (1, .int x1), (2, .int x2), (3, .int x3), (4, .int x4)]) hx hb dX11_until_55 hl (by decide) rfl (fun ls hl => ?_)
        refine lv_aload_n hx hb dX11_until_57 rfl (lv_at hl 1 rfl) ?_
        obtain ⟨r_5, hc_6, hF⟩ := bn_some hF
        refine xc_v (wn := (w_X11_until K g_t t_raised t_undos t_reached t_length t_begin t_sort t_value t_word t_wrongAt t_badAt t_bad t_read t_pictured t_x r_3.2 r_5)) hP hD hS C0.2.2.1 [0, 1, 2] [] [0, 1, 2] rfl rfl (by decide) (by decide) rfl (by decide) (va_runV (As := []) (rest := []) C0.1 (c_X11_laysLoud l D K g_t t_raised t_undos t_reached t_length t_begin t_sort t_value t_word t_wrongAt t_badAt t_bad t_read t_pictured t_x r_3.2 t_loud r_5 hc_6 H.size) (cwV 0 hts gX11_until_X11_laysLoud rfl rfl rfl (by decide +kernel) ⟨Nat.le_of_ble_eq_true rfl, Nat.le_of_ble_eq_true rfl⟩) (xp_V C0.2 hP hD hS [0, 1, 2] rfl (by decide) 10 0 rfl rfl rfl) rfl rfl hl.1 rfl (lv_room (Nat.le_of_ble_eq_true rfl)) dX11_until_58 ⟨Nat.le_of_ble_eq_true rfl, Nat.le_of_ble_eq_true rfl⟩) (fun H locs hP hD hS => ?_)
        refine lv_iload hx hb dX11_until_61 (lv_at hl 0 rfl) ?_
        refine lv_iconst (v := (-1)) hx hb dX11_until_63 (by decide) ?_
        refine lv_icmp_eq (tgt := 85) hx hb dX11_until_64 (by decide) (fun c_7 => ?_) (fun c_7 => ?_)
        · have hF := it_pos c_7 hF
          exact w_X11_until_85 C0 HR ih t_raised r_3.2 r_5 x1 x2 x4 H locs ls hP hD hS (lv_sub hl [1, 2, 3, 5] rfl) hF
        · have hF := it_neg c_7 hF
          refine lv_aload_n hx hb dX11_until_67 rfl (lv_at hl 1 rfl) ?_
          refine lv_aload_n hx hb dX11_until_68 rfl (lv_at hl 1 rfl) ?_
          refine lv_iload hx hb dX11_until_69 (lv_at hl 0 rfl) ?_
          obtain ⟨r_8, hc_9, hF⟩ := bn_some hF
          refine xc_i (wn := (w_X11_until K g_t t_raised t_undos t_reached t_length t_begin t_sort t_value t_word t_wrongAt t_badAt t_bad t_read t_pictured t_x r_3.2 r_5)) hP hD hS C0.2.2.1 [0, 1] [2] [1, 2, 0] rfl rfl (by decide) (by decide) rfl (by decide) (va_runV (As := [.int r_3.1]) (rest := [.ref (g_t 0)]) C0.1 (c_X11_rangeOf l D K g_t t_raised t_undos t_reached t_length t_begin t_sort t_value t_word t_wrongAt t_badAt t_bad t_read t_pictured t_x r_3.2 r_3.1 r_8 hc_9 H.size) (cwV 1 hts gX11_until_X11_rangeOf rfl rfl rfl (by decide +kernel) ⟨Nat.le_of_ble_eq_true rfl, Nat.le_of_ble_eq_true rfl⟩) (xp_V C0.2 hP hD hS [0, 1] rfl (by decide) 10 0 rfl rfl rfl) rfl rfl hl.1 rfl (lv_room (Nat.le_of_ble_eq_true rfl)) dX11_until_71 ⟨Nat.le_of_ble_eq_true rfl, Nat.le_of_ble_eq_true rfl⟩) (fun H locs hP hD hS => ?_)
          obtain ⟨r_10, hc_11, hF⟩ := bn_some hF
          refine xc_i (wn := (w_X11_until K g_t t_raised t_undos t_reached t_length t_begin t_sort t_value t_word t_wrongAt t_badAt t_bad t_read t_pictured t_x r_3.2 r_5)) hP hD hS C0.2.2.1 [0, 1, 2] [] [0, 1, 2] rfl rfl (by decide) (by decide) rfl (by decide) (va_runV (As := [.int r_8]) (rest := []) C0.1 (c_X11_isFound l D K g_t t_raised t_undos t_reached t_length t_begin t_sort t_value t_word t_wrongAt t_badAt t_bad t_read t_pictured t_x r_3.2 r_5 r_8 r_10 hc_11 H.size) (cwV 1 hts gX11_until_X11_isFound rfl rfl rfl (by decide +kernel) ⟨Nat.le_of_ble_eq_true rfl, Nat.le_of_ble_eq_true rfl⟩) (xp_V C0.2 hP hD hS [0, 1, 2] rfl (by decide) 10 0 rfl rfl rfl) rfl rfl hl.1 rfl (lv_room (Nat.le_of_ble_eq_true rfl)) dX11_until_74 ⟨Nat.le_of_ble_eq_true rfl, Nat.le_of_ble_eq_true rfl⟩) (fun H locs hP hD hS => ?_)
          refine lv_if_eq (tgt := 85) hx hb dX11_until_77 (by decide) (fun c_12 => ?_) (fun c_12 => ?_)
          · have hF := it_pos c_12 hF
            exact w_X11_until_85 C0 HR ih t_raised r_3.2 r_5 x1 x2 x4 H locs ls hP hD hS (lv_sub hl [1, 2, 3, 5] rfl) hF
          · have hF := it_neg c_12 hF
            refine lv_iload hx hb dX11_until_80 (lv_at hl 5 rfl) ?_
            refine lv_goto (tgt := 86) hx hb dX11_until_82 (by decide) ?_
            exact w_X11_until_86 C0 HR ih t_raised r_3.2 r_5 x1 x2 x4 x4 H locs ls hP hD hS (lv_sub hl [1, 2, 3, 5] rfl) hF
def F_X11_until (t_raised : Int32) (t_all : Nat → Int32) (t_loud : Nat → Int32) (x1 : Int32) (x2 : Int32) : Option (Int32 × Int32 × (Nat → Int32) × (Nat → Int32)) :=
  (F_X11_isTarget t_all x1).bind fun r_1 => (if r_1 = (0 : Int32) then (some ((-1 : Int32), (0 : Int32), t_all, t_loud)) else ((F_X11_in x2 (0 : Int32) (200 : Int32)).bind fun r_4 => (if r_4 = (0 : Int32) then (some ((-1 : Int32), (0 : Int32), t_all, t_loud)) else ((F_X11_copies t_all (0 : Int32) (4 : Int32)).bind fun r_7 => (L_X11_until_37 fu_ (0 : Int32) r_7 t_loud x1 x2 (-1 : Int32) (0 : Int32))))))
set_option maxHeartbeats 4000000 in
set_option maxRecDepth 100000 in
theorem c_X11_until (l : Launch) (D : va_G) (K : Nat → ClassId) (g_t : Nat → Nat) (t_raised : Int32) (t_undos : Int32) (t_reached : Int32) (t_length : Int32) (t_begin : Int32) (t_sort : Int32) (t_value : Int32) (t_word : Int64) (t_wrongAt : Int32) (t_badAt : Int32) (t_bad : Int32) (t_read : Int32) (t_pictured : Int32) (t_x : Int32) (t_all : Nat → Int32) (t_loud : Nat → Int32) (x1 : Int32) (x2 : Int32) (res : Int32 × Int32 × (Nat → Int32) × (Nat → Int32)) (hF : F_X11_until t_raised t_all t_loud x1 x2 = some res) :
    Mi_ l yX11_until wsX11_until rmX11_until D K [.ref (g_t 0), .int x1, .int x2] (w_X11_until K g_t t_raised t_undos t_reached t_length t_begin t_sort t_value t_word t_wrongAt t_badAt t_bad t_read t_pictured t_x t_all t_loud) (w_X11_until K g_t res.2.1 t_undos t_reached t_length t_begin t_sort t_value t_word t_wrongAt t_badAt t_bad t_read t_pictured t_x res.2.2.1 res.2.2.2) (res.1) := by
  refine en_i (cc := cX11_until) (maxL := 6) (own := RX11) (by decide) rfl rfl (Nat.le_of_ble_eq_true rfl) ?_
  intro p e s m args below meth c A Q H locs ls C0 hP hD hS hl HR
  obtain ⟨⟨hx, hb, hml, hown, hts⟩, hK, -⟩ := id C0
  have hl : lv_has ls 6 [(0, .ref (g_t 0)), (1, .int x1), (2, .int x2)] := hl
  unfold F_X11_until at hF
  refine lv_aload_n hx hb dX11_until_0 rfl (lv_at hl 0 rfl) ?_
  refine lv_iconst (v := 0) hx hb dX11_until_1 (by decide) ?_
  refine va_put (D := D) (ci := 10) (v := .int (0 : Int32)) (ty := .int) (C := RX11) (T := TX11) (N := 30) hx hb hts iw_X11_until_X11 tyX11 tyX11_ok nmX11 hown hK hP hD hS 0 rfl rfl 0 (by decide) (hts _ fl_X11_until_66) (fun _ h9 => h9) rfl (by decide +kernel) rfl rfl (Nat.le_of_ble_eq_true rfl) dX11_until_2 (fun H locs hP hD hS => ?_)
  have hP : va_P D vwCl (w_X11_until K g_t (0 : Int32) t_undos t_reached t_length t_begin t_sort t_value t_word t_wrongAt t_badAt t_bad t_read t_pictured t_x t_all t_loud) H := hP
  have hD : va_D A (w_X11_until K g_t (0 : Int32) t_undos t_reached t_length t_begin t_sort t_value t_word t_wrongAt t_badAt t_bad t_read t_pictured t_x t_all t_loud) := hD
  refine lv_aload_n hx hb dX11_until_5 rfl (lv_at hl 0 rfl) ?_
  refine lv_iload_n hx hb dX11_until_6 rfl (lv_at hl 1 rfl) ?_
  obtain ⟨r_1, hc_2, hF⟩ := bn_some hF
  refine xc_i (wn := (w_X11_until K g_t (0 : Int32) t_undos t_reached t_length t_begin t_sort t_value t_word t_wrongAt t_badAt t_bad t_read t_pictured t_x t_all t_loud)) hP hD hS C0.2.2.1 [0, 1] [2] [1, 2, 0] rfl rfl (by decide) (by decide) rfl (by decide) (va_runV (As := [.int x1]) (rest := []) C0.1 (c_X11_isTarget l D K g_t (0 : Int32) t_undos t_reached t_length t_begin t_sort t_value t_word t_wrongAt t_badAt t_bad t_read t_pictured t_x t_all x1 r_1 hc_2 H.size) (cwV 1 hts gX11_until_X11_isTarget rfl rfl rfl (by decide +kernel) ⟨Nat.le_of_ble_eq_true rfl, Nat.le_of_ble_eq_true rfl⟩) (xp_V C0.2 hP hD hS [0, 1] rfl (by decide) 10 0 rfl rfl rfl) rfl rfl hl.1 rfl (lv_room (Nat.le_of_ble_eq_true rfl)) dX11_until_7 ⟨Nat.le_of_ble_eq_true rfl, Nat.le_of_ble_eq_true rfl⟩) (fun H locs hP hD hS => ?_)
  refine lv_if_eq (tgt := 24) hx hb dX11_until_10 (by decide) (fun c_3 => ?_) (fun c_3 => ?_)
  · have hF := it_pos c_3 hF
    refine lv_iconst (v := (-1)) hx hb dX11_until_24 (by decide) ?_
    obtain rfl := Option.some.inj hF
    exact HR 25 H locs ls dX11_until_25 hP hD hS
  · have hF := it_neg c_3 hF
    refine lv_iload_n hx hb dX11_until_13 rfl (lv_at hl 2 rfl) ?_
    refine lv_iconst (v := 0) hx hb dX11_until_14 (by decide) ?_
    refine lv_sipush (v := 200) hx hb dX11_until_15 (by decide) ?_
    obtain ⟨r_4, hc_5, hF⟩ := bn_some hF
    refine xc_i (wn := (w_X11_until K g_t (0 : Int32) t_undos t_reached t_length t_begin t_sort t_value t_word t_wrongAt t_badAt t_bad t_read t_pictured t_x t_all t_loud)) hP hD hS C0.2.2.1 [] [0, 1, 2] [0, 1, 2] rfl rfl (by decide) (by decide) rfl (by decide) (va_runS (As := [.int x2, .int (0 : Int32), .int (200 : Int32)]) (rest := []) C0.1 (c_X11_in l D K x2 (0 : Int32) (200 : Int32) r_4 hc_5 H.size) (va_cwS 3 hts gX11_until_X11_in rfl rfl rfl (by decide +kernel) ⟨Nat.le_of_ble_eq_true rfl, Nat.le_of_ble_eq_true rfl⟩) (xp_S C0.2 hP hD hS [] rfl (by decide)) rfl rfl hl.1 rfl (lv_room (Nat.le_of_ble_eq_true rfl)) dX11_until_18 ⟨Nat.le_of_ble_eq_true rfl, Nat.le_of_ble_eq_true rfl⟩) (fun H locs hP hD hS => ?_)
    refine lv_if_ne (tgt := 26) hx hb dX11_until_21 (by decide) (fun c_6 => ?_) (fun c_6 => ?_)
    · have hF := it_neg c_6 hF
      refine lv_aload_n hx hb dX11_until_26 rfl (lv_at hl 0 rfl) ?_
      refine lv_iconst (v := 0) hx hb dX11_until_27 (by decide) ?_
      refine lv_iconst (v := 4) hx hb dX11_until_28 (by decide) ?_
      obtain ⟨r_7, hc_8, hF⟩ := bn_some hF
      refine xc_v (wn := (w_X11_until K g_t (0 : Int32) t_undos t_reached t_length t_begin t_sort t_value t_word t_wrongAt t_badAt t_bad t_read t_pictured t_x r_7 t_loud)) hP hD hS C0.2.2.1 [0, 1] [2] [1, 2, 0] rfl rfl (by decide) (by decide) rfl (by decide) (va_runV (As := [.int (0 : Int32), .int (4 : Int32)]) (rest := []) C0.1 (c_X11_copies l D K g_t (0 : Int32) t_undos t_reached t_length t_begin t_sort t_value t_word t_wrongAt t_badAt t_bad t_read t_pictured t_x t_all (0 : Int32) (4 : Int32) r_7 hc_8 H.size) (cwV 2 hts gX11_until_X11_copies rfl rfl rfl (by decide +kernel) ⟨Nat.le_of_ble_eq_true rfl, Nat.le_of_ble_eq_true rfl⟩) (xp_V C0.2 hP hD hS [0, 1] rfl (by decide) 10 0 rfl rfl rfl) rfl rfl hl.1 rfl (lv_room (Nat.le_of_ble_eq_true rfl)) dX11_until_29 ⟨Nat.le_of_ble_eq_true rfl, Nat.le_of_ble_eq_true rfl⟩) (fun H locs hP hD hS => ?_)
      refine lv_iconst (v := (-1)) hx hb dX11_until_32 (by decide) ?_
      refine lv_istore_n (lv' := [(3, .int (-1 : Int32)), (0, .ref (g_t 0)), (1, .int x1), (2, .int x2)]) hx hb dX11_until_33 rfl hl (by decide) rfl (fun ls hl => ?_)
      refine lv_iconst (v := 0) hx hb dX11_until_34 (by decide) ?_
      refine lv_istore (lv' := [(4, .int (0 : Int32)), (3, .int (-1 : Int32)), (0, .ref (g_t 0)), (1, .int x1), (2, .int x2)]) hx hb dX11_until_35 hl (by decide) rfl (fun ls hl => ?_)
      exact w_X11_until_37 C0 HR fu_ (0 : Int32) r_7 t_loud x1 x2 (-1 : Int32) (0 : Int32) H locs ls hP hD hS (lv_sub hl [2, 3, 4, 1, 0] rfl) hF
    · have hF := it_pos c_6 hF
      refine lv_iconst (v := (-1)) hx hb dX11_until_24 (by decide) ?_
      obtain rfl := Option.some.inj hF
      exact HR 25 H locs ls dX11_until_25 hP hD hS
