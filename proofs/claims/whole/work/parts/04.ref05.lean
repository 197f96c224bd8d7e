/-! StaggerRadarModel.isBad(II)V -/
abbrev rmX11_isBad : Room := { frames := 0, cells := 0, slots := 0, locals := 0 }
theorem fl_X11_isBad_106 : Cond.fieldLink RX11 106 "StaggerRadarModel" "bad" "I" ∈ wsX11_isBad := by decide +kernel
theorem fl_X11_isBad_109 : Cond.fieldLink RX11 109 "StaggerRadarModel" "badAt" "I" ∈ wsX11_isBad := by decide +kernel
theorem iw_X11_isBad_X11 : ∀ w ∈ u_ws RX11 TX11 30, w ∈ wsX11_isBad := by decide +kernel
abbrev w_X11_isBad (K : Nat → ClassId) (g_t : Nat → Nat) (t_raised : Int32) (t_undos : Int32) (t_reached : Int32) (t_length : Int32) (t_begin : Int32) (t_sort : Int32) (t_value : Int32) (t_word : Int64) (t_wrongAt : Int32) (t_badAt : Int32) (t_bad : Int32) (t_read : Int32) (t_pictured : Int32) (t_x : Int32) : va_W := [((g_t 0), .inr (10, [.int t_raised, .ref (g_t 2), .ref (g_t 3), .ref (g_t 4), .ref (g_t 5), .int t_undos, .int t_reached, .int t_length, .int t_begin, .int t_sort, .int t_value, .long t_word, .int t_wrongAt, .int t_badAt, .int t_bad, .ref (g_t 16), .int t_read, .ref (g_t 18), .ref (g_t 19), .ref (g_t 20), .int t_pictured, .ref (g_t 22), .ref (g_t 23), .ref (g_t 24), .ref (g_t 25), .ref (g_t 26), .int t_x, .ref (g_t 28), .ref (g_t 29), .ref (g_t 30)]))]
def J_X11_isBad_31 (t_badAt : Int32) (t_bad : Int32) (x1 : Int32) (x2 : Int32) : Option (Int32 × Int32) :=
  some (x2, x1)
set_option maxHeartbeats 4000000 in
set_option maxRecDepth 100000 in
theorem w_X11_isBad_31 {p : Program} {l : Launch} {e : Env} {s : State} {m : MethodId} {args : Array Value} {below : List Frame} {meth : Method} {c : Code} {D : va_G} {K : Nat → ClassId} {A : Nat → Prop} {Q : State → Prop} (C0 : cx_ p s m args c cX11_isBad 3 RX11 wsX11_isBad D K A) {g_t : Nat → Nat} {t_raised : Int32} {t_undos : Int32} {t_reached : Int32} {t_length : Int32} {t_begin : Int32} {t_sort : Int32} {t_value : Int32} {t_word : Int64} {t_wrongAt : Int32} {t_read : Int32} {t_pictured : Int32} {t_x : Int32} {res : Int32 × Int32} (HR : ∀ (pc : Nat) (H : Heap) (locs : List Loc) (ls : Array Slot), decode cX11_isBad pc = .ok (.return_, 1) → va_P D vwCl (w_X11_isBad K g_t t_raised t_undos t_reached t_length t_begin t_sort t_value t_word t_wrongAt res.1 res.2 t_read t_pictured t_x) H → va_D A (w_X11_isBad K g_t t_raised t_undos t_reached t_length t_begin t_sort t_value t_word t_wrongAt res.1 res.2 t_read t_pictured t_x) → va_S A s.heap H locs → W p l e rmX11_isBad s m args below meth c H locs 0 0 Q (F0 m pc ls []))  :
    ∀ (t_badAt : Int32) (t_bad : Int32) (x1 : Int32) (x2 : Int32) (H : Heap) (locs : List Loc) (ls : Array Slot), va_P D vwCl (w_X11_isBad K g_t t_raised t_undos t_reached t_length t_begin t_sort t_value t_word t_wrongAt t_badAt t_bad t_read t_pictured t_x) H → va_D A (w_X11_isBad K g_t t_raised t_undos t_reached t_length t_begin t_sort t_value t_word t_wrongAt t_badAt t_bad t_read t_pictured t_x) → va_S A s.heap H locs → lv_has ls 3 [(0, .ref (g_t 0)), (1, .int x1), (2, .int x2)] → J_X11_isBad_31 t_badAt t_bad x1 x2 = some res → W p l e rmX11_isBad s m args below meth c H locs 0 0 Q (F0 m 31 ls []) := by
  obtain ⟨⟨hx, hb, hml, hown, hts⟩, hK, -⟩ := id C0
  intro t_badAt t_bad x1 x2 H locs ls hP hD hS hl hF
  unfold J_X11_isBad_31 at hF
  refine lv_aload_n hx hb dX11_isBad_31 rfl (lv_at hl 0 rfl) ?_
  refine lv_iload_n hx hb dX11_isBad_32 rfl (lv_at hl 1 rfl) ?_
  refine va_put (D := D) (ci := 10) (v := .int x1) (ty := .int) (C := RX11) (T := TX11) (N := 30) hx hb hts iw_X11_isBad_X11 tyX11 tyX11_ok nmX11 hown hK hP hD hS 0 rfl rfl 14 (by decide) (hts _ fl_X11_isBad_106) (fun _ h9 => h9) rfl (by decide +kernel) rfl rfl (Nat.le_of_ble_eq_true rfl) dX11_isBad_33 (fun H locs hP hD hS => ?_)
  have hP : va_P D vwCl (w_X11_isBad K g_t t_raised t_undos t_reached t_length t_begin t_sort t_value t_word t_wrongAt t_badAt x1 t_read t_pictured t_x) H := hP
  have hD : va_D A (w_X11_isBad K g_t t_raised t_undos t_reached t_length t_begin t_sort t_value t_word t_wrongAt t_badAt x1 t_read t_pictured t_x) := hD
  refine lv_aload_n hx hb dX11_isBad_36 rfl (lv_at hl 0 rfl) ?_
  refine lv_iload_n hx hb dX11_isBad_37 rfl (lv_at hl 2 rfl) ?_
  refine va_put (D := D) (ci := 10) (v := .int x2) (ty := .int) (C := RX11) (T := TX11) (N := 30) hx hb hts iw_X11_isBad_X11 tyX11 tyX11_ok nmX11 hown hK hP hD hS 0 rfl rfl 13 (by decide) (hts _ fl_X11_isBad_109) (fun _ h9 => h9) rfl (by decide +kernel) rfl rfl (Nat.le_of_ble_eq_true rfl) dX11_isBad_38 (fun H locs hP hD hS => ?_)
  have hP : va_P D vwCl (w_X11_isBad K g_t t_raised t_undos t_reached t_length t_begin t_sort t_value t_word t_wrongAt x2 x1 t_read t_pictured t_x) H := hP
  have hD : va_D A (w_X11_isBad K g_t t_raised t_undos t_reached t_length t_begin t_sort t_value t_word t_wrongAt x2 x1 t_read t_pictured t_x) := hD
  obtain rfl := Option.some.inj hF
  exact HR 41 H locs ls dX11_isBad_41 hP hD hS
def F_X11_isBad (t_badAt : Int32) (t_bad : Int32) (x1 : Int32) (x2 : Int32) : Option (Int32 × Int32) :=
  if t_bad = (0 : Int32) then (J_X11_isBad_31 t_badAt t_bad x1 x2) else (if x2 < t_badAt then (J_X11_isBad_31 t_badAt t_bad x1 x2) else (if x2 = t_badAt then (if t_bad ≤ x1 then (some (t_badAt, t_bad)) else (J_X11_isBad_31 t_badAt t_bad x1 x2)) else (some (t_badAt, t_bad))))
set_option maxHeartbeats 4000000 in
set_option maxRecDepth 100000 in
theorem c_X11_isBad (l : Launch) (D : va_G) (K : Nat → ClassId) (g_t : Nat → Nat) (t_raised : Int32) (t_undos : Int32) (t_reached : Int32) (t_length : Int32) (t_begin : Int32) (t_sort : Int32) (t_value : Int32) (t_word : Int64) (t_wrongAt : Int32) (t_badAt : Int32) (t_bad : Int32) (t_read : Int32) (t_pictured : Int32) (t_x : Int32) (x1 : Int32) (x2 : Int32) (res : Int32 × Int32) (hF : F_X11_isBad t_badAt t_bad x1 x2 = some res) :
    Mv_ l yX11_isBad wsX11_isBad rmX11_isBad D K [.ref (g_t 0), .int x1, .int x2] (w_X11_isBad K g_t t_raised t_undos t_reached t_length t_begin t_sort t_value t_word t_wrongAt t_badAt t_bad t_read t_pictured t_x) (w_X11_isBad K g_t t_raised t_undos t_reached t_length t_begin t_sort t_value t_word t_wrongAt res.1 res.2 t_read t_pictured t_x) := by
  refine en_v (cc := cX11_isBad) (maxL := 3) (own := RX11) (by decide) rfl rfl (Nat.le_of_ble_eq_true rfl) ?_
  intro p e s m args below meth c A Q H locs ls C0 hP hD hS hl HR
  obtain ⟨⟨hx, hb, hml, hown, hts⟩, hK, -⟩ := id C0
  have hl : lv_has ls 3 [(0, .ref (g_t 0)), (1, .int x1), (2, .int x2)] := hl
  unfold F_X11_isBad at hF
  refine lv_aload_n hx hb dX11_isBad_0 rfl (lv_at hl 0 rfl) ?_
  refine va_get (D := D) (ci := 10) (v := .int t_bad) (C := RX11) (T := TX11) (N := 30) hx hb hts iw_X11_isBad_X11 hown hK hP 0 rfl rfl 14 (by decide) (hts _ fl_X11_isBad_106) (fun _ h9 => h9) rfl dX11_isBad_1 ?_
  refine lv_if_eq (tgt := 31) hx hb dX11_isBad_4 (by decide) (fun c_1 => ?_) (fun c_1 => ?_)
  · have hF := it_pos c_1 hF
    exact w_X11_isBad_31 C0 HR t_badAt t_bad x1 x2 H locs ls hP hD hS (lv_sub hl [0, 1, 2] rfl) hF
  · have hF := it_neg c_1 hF
    refine lv_iload_n hx hb dX11_isBad_7 rfl (lv_at hl 2 rfl) ?_
    refine lv_aload_n hx hb dX11_isBad_8 rfl (lv_at hl 0 rfl) ?_
    refine va_get (D := D) (ci := 10) (v := .int t_badAt) (C := RX11) (T := TX11) (N := 30) hx hb hts iw_X11_isBad_X11 hown hK hP 0 rfl rfl 13 (by decide) (hts _ fl_X11_isBad_109) (fun _ h9 => h9) rfl dX11_isBad_9 ?_
    refine lv_icmp_lt (tgt := 31) hx hb dX11_isBad_12 (by decide) (fun c_2 => ?_) (fun c_2 => ?_)
    · have hF := it_pos c_2 hF
      exact w_X11_isBad_31 C0 HR t_badAt t_bad x1 x2 H locs ls hP hD hS (lv_sub hl [0, 1, 2] rfl) hF
    · have hF := it_neg c_2 hF
      refine lv_iload_n hx hb dX11_isBad_15 rfl (lv_at hl 2 rfl) ?_
      refine lv_aload_n hx hb dX11_isBad_16 rfl (lv_at hl 0 rfl) ?_
      refine va_get (D := D) (ci := 10) (v := .int t_badAt) (C := RX11) (T := TX11) (N := 30) hx hb hts iw_X11_isBad_X11 hown hK hP 0 rfl rfl 13 (by decide) (hts _ fl_X11_isBad_109) (fun _ h9 => h9) rfl dX11_isBad_17 ?_
      refine lv_icmp_ne (tgt := 41) hx hb dX11_isBad_20 (by decide) (fun c_3 => ?_) (fun c_3 => ?_)
      · have hF := it_neg c_3 hF
        obtain rfl := Option.some.inj hF
        exact HR 41 H locs ls dX11_isBad_41 hP hD hS
      · have hF := it_pos c_3 hF
        refine lv_iload_n hx hb dX11_isBad_23 rfl (lv_at hl 1 rfl) ?_
        refine lv_aload_n hx hb dX11_isBad_24 rfl (lv_at hl 0 rfl) ?_
        refine va_get (D := D) (ci := 10) (v := .int t_bad) (C := RX11) (T := TX11) (N := 30) hx hb hts iw_X11_isBad_X11 hown hK hP 0 rfl rfl 14 (by decide) (hts _ fl_X11_isBad_106) (fun _ h9 => h9) rfl dX11_isBad_25 ?_
        refine lv_icmp_ge (tgt := 41) hx hb dX11_isBad_28 (by decide) (fun c_4 => ?_) (fun c_4 => ?_)
        · have hF := it_pos c_4 hF
          obtain rfl := Option.some.inj hF
          exact HR 41 H locs ls dX11_isBad_41 hP hD hS
        · have hF := it_neg c_4 hF
          exact w_X11_isBad_31 C0 HR t_badAt t_bad x1 x2 H locs ls hP hD hS (lv_sub hl [0, 1, 2] rfl) hF

/-! StaggerRadarModel.see()I -/
abbrev rmX11_see : Room := { frames := 0, cells := 0, slots := 0, locals := 0 }
theorem fl_X11_see_13 : Cond.fieldLink RX11 13 "StaggerRadarModel" "text" "[B" ∈ wsX11_see := by decide +kernel
theorem fl_X11_see_80 : Cond.fieldLink RX11 80 "StaggerRadarModel" "reached" "I" ∈ wsX11_see := by decide +kernel
theorem fl_X11_see_83 : Cond.fieldLink RX11 83 "StaggerRadarModel" "length" "I" ∈ wsX11_see := by decide +kernel
theorem iw_X11_see_X11 : ∀ w ∈ u_ws RX11 TX11 30, w ∈ wsX11_see := by decide +kernel
abbrev w_X11_see (K : Nat → ClassId) (g_t : Nat → Nat) (t_raised : Int32) (t_undos : Int32) (t_reached : Int32) (t_length : Int32) (t_begin : Int32) (t_sort : Int32) (t_value : Int32) (t_word : Int64) (t_wrongAt : Int32) (t_badAt : Int32) (t_bad : Int32) (t_read : Int32) (t_pictured : Int32) (t_x : Int32) (t_text : Nat → Int32) : va_W := [((g_t 0), .inr (10, [.int t_raised, .ref (g_t 2), .ref (g_t 3), .ref (g_t 4), .ref (g_t 5), .int t_undos, .int t_reached, .int t_length, .int t_begin, .int t_sort, .int t_value, .long t_word, .int t_wrongAt, .int t_badAt, .int t_bad, .ref (g_t 16), .int t_read, .ref (g_t 18), .ref (g_t 19), .ref (g_t 20), .int t_pictured, .ref (g_t 22), .ref (g_t 23), .ref (g_t 24), .ref (g_t 25), .ref (g_t 26), .int t_x, .ref (g_t 28), .ref (g_t 29), .ref (g_t 30)])), ((g_t 3), .inl (K 3, 1600, .inl t_text))]
def F_X11_see (t_reached : Int32) (t_length : Int32) (t_text : Nat → Int32) : Option (Int32) :=
  if t_length ≤ t_reached then (some (-1 : Int32)) else (gd_ (in_b t_reached 1600) (some ((t_text (t_reached).toNatClampNeg) &&& (255 : Int32))))
set_option maxHeartbeats 4000000 in
set_option maxRecDepth 100000 in
theorem c_X11_see (l : Launch) (D : va_G) (K : Nat → ClassId) (g_t : Nat → Nat) (t_raised : Int32) (t_undos : Int32) (t_reached : Int32) (t_length : Int32) (t_begin : Int32) (t_sort : Int32) (t_value : Int32) (t_word : Int64) (t_wrongAt : Int32) (t_badAt : Int32) (t_bad : Int32) (t_read : Int32) (t_pictured : Int32) (t_x : Int32) (t_text : Nat → Int32) (res : Int32) (hF : F_X11_see t_reached t_length t_text = some res) :
    Mi_ l yX11_see wsX11_see rmX11_see D K [.ref (g_t 0)] (w_X11_see K g_t t_raised t_undos t_reached t_length t_begin t_sort t_value t_word t_wrongAt t_badAt t_bad t_read t_pictured t_x t_text) (w_X11_see K g_t t_raised t_undos t_reached t_length t_begin t_sort t_value t_word t_wrongAt t_badAt t_bad t_read t_pictured t_x t_text) (res) := by
  refine en_i (cc := cX11_see) (maxL := 1) (own := RX11) (by decide) rfl rfl (Nat.le_of_ble_eq_true rfl) ?_
  intro p e s m args below meth c A Q H locs ls C0 hP hD hS hl HR
  obtain ⟨⟨hx, hb, hml, hown, hts⟩, hK, -⟩ := id C0
  have hl : lv_has ls 1 [(0, .ref (g_t 0))] := hl
  unfold F_X11_see at hF
  refine lv_aload_n hx hb dX11_see_0 rfl (lv_at hl 0 rfl) ?_
  refine va_get (D := D) (ci := 10) (v := .int t_reached) (C := RX11) (T := TX11) (N := 30) hx hb hts iw_X11_see_X11 hown hK hP 0 rfl rfl 6 (by decide) (hts _ fl_X11_see_80) (fun _ h9 => h9) rfl dX11_see_1 ?_
  refine lv_aload_n hx hb dX11_see_4 rfl (lv_at hl 0 rfl) ?_
  refine va_get (D := D) (ci := 10) (v := .int t_length) (C := RX11) (T := TX11) (N := 30) hx hb hts iw_X11_see_X11 hown hK hP 0 rfl rfl 7 (by decide) (hts _ fl_X11_see_83) (fun _ h9 => h9) rfl dX11_see_5 ?_
  refine lv_icmp_ge (tgt := 27) hx hb dX11_see_8 (by decide) (fun c_1 => ?_) (fun c_1 => ?_)
  · have hF := it_pos c_1 hF
    refine lv_iconst (v := (-1)) hx hb dX11_see_27 (by decide) ?_
    obtain rfl := Option.some.inj hF
    exact HR 28 H locs ls dX11_see_28 hP hD hS
  · have hF := it_neg c_1 hF
    refine lv_aload_n hx hb dX11_see_11 rfl (lv_at hl 0 rfl) ?_
    refine va_get (D := D) (ci := 10) (v := .ref (g_t 3)) (C := RX11) (T := TX11) (N := 30) hx hb hts iw_X11_see_X11 hown hK hP 0 rfl rfl 2 (by decide) (hts _ fl_X11_see_13) (fun _ h9 => h9) rfl dX11_see_12 ?_
    refine lv_aload_n hx hb dX11_see_15 rfl (lv_at hl 0 rfl) ?_
    refine va_get (D := D) (ci := 10) (v := .int t_reached) (C := RX11) (T := TX11) (N := 30) hx hb hts iw_X11_see_X11 hown hK hP 0 rfl rfl 6 (by decide) (hts _ fl_X11_see_80) (fun _ h9 => h9) rfl dX11_see_16 ?_
    obtain ⟨hg_2, hF⟩ := gd_some hF
    refine xl_b (f := t_text) hx hb hK hP 1 3 rfl rfl rfl (in_v hg_2) dX11_see_19 ?_
    refine lv_sipush (v := 255) hx hb dX11_see_20 (by decide) ?_
    refine lv_iand hx hb dX11_see_23 ?_
    refine lv_goto (tgt := 28) hx hb dX11_see_24 (by decide) ?_
    obtain rfl := Option.some.inj hF
    exact HR 28 H locs ls dX11_see_28 hP hD hS

/-! StaggerRadarModel.token()V -/
abbrev rmX11_token : Room := { frames := 1, cells := 0, slots := 0, locals := 22 }
theorem fl_X11_token_80 : Cond.fieldLink RX11 80 "StaggerRadarModel" "reached" "I" ∈ wsX11_token := by decide +kernel
theorem fl_X11_token_90 : Cond.fieldLink RX11 90 "StaggerRadarModel" "begin" "I" ∈ wsX11_token := by decide +kernel
theorem fl_X11_token_93 : Cond.fieldLink RX11 93 "StaggerRadarModel" "word" "J" ∈ wsX11_token := by decide +kernel
theorem fl_X11_token_97 : Cond.fieldLink RX11 97 "StaggerRadarModel" "sort" "I" ∈ wsX11_token := by decide +kernel
theorem fl_X11_token_100 : Cond.fieldLink RX11 100 "StaggerRadarModel" "value" "I" ∈ wsX11_token := by decide +kernel
theorem iw_X11_token_X11 : ∀ w ∈ u_ws RX11 TX11 30, w ∈ wsX11_token := by decide +kernel
abbrev w_X11_token (K : Nat → ClassId) (g_t : Nat → Nat) (t_raised : Int32) (t_undos : Int32) (t_reached : Int32) (t_length : Int32) (t_begin : Int32) (t_sort : Int32) (t_value : Int32) (t_word : Int64) (t_wrongAt : Int32) (t_badAt : Int32) (t_bad : Int32) (t_read : Int32) (t_pictured : Int32) (t_x : Int32) (t_text : Nat → Int32) : va_W := [((g_t 0), .inr (10, [.int t_raised, .ref (g_t 2), .ref (g_t 3), .ref (g_t 4), .ref (g_t 5), .int t_undos, .int t_reached, .int t_length, .int t_begin, .int t_sort, .int t_value, .long t_word, .int t_wrongAt, .int t_badAt, .int t_bad, .ref (g_t 16), .int t_read, .ref (g_t 18), .ref (g_t 19), .ref (g_t 20), .int t_pictured, .ref (g_t 22), .ref (g_t 23), .ref (g_t 24), .ref (g_t 25), .ref (g_t 26), .int t_x, .ref (g_t 28), .ref (g_t 29), .ref (g_t 30)])), ((g_t 3), .inl (K 3, 1600, .inl t_text))]
def J_X11_token_18 (t_length : Int32) (t_text : Nat → Int32) (k_0 : Int32 → Int32 → Int32 → Int32 → Int64 → Option (Int32 × Int32 × Int32 × Int32 × Int64)) (t_reached : Int32) (t_begin : Int32) (t_sort : Int32) (t_value : Int32) (t_word : Int64) : Option (Int32 × Int32 × Int32 × Int32 × Int64) :=
  k_0 (t_reached + (1 : Int32)) t_begin t_sort t_value t_word
set_option maxHeartbeats 4000000 in
set_option maxRecDepth 100000 in
theorem w_X11_token_18 {p : Program} {l : Launch} {e : Env} {s : State} {m : MethodId} {args : Array Value} {below : List Frame} {meth : Method} {c : Code} {D : va_G} {K : Nat → ClassId} {A : Nat → Prop} {Q : State → Prop} (C0 : cx_ p s m args c cX11_token 3 RX11 wsX11_token D K A) {g_t : Nat → Nat} {t_raised : Int32} {t_undos : Int32} {t_length : Int32} {t_wrongAt : Int32} {t_badAt : Int32} {t_bad : Int32} {t_read : Int32} {t_pictured : Int32} {t_x : Int32} {t_text : Nat → Int32} {res : Int32 × Int32 × Int32 × Int32 × Int64} (HR : ∀ (pc : Nat) (H : Heap) (locs : List Loc) (ls : Array Slot), decode cX11_token pc = .ok (.return_, 1) → va_P D vwCl (w_X11_token K g_t t_raised t_undos res.1 t_length res.2.1 res.2.2.1 res.2.2.2.1 res.2.2.2.2 t_wrongAt t_badAt t_bad t_read t_pictured t_x t_text) H → va_D A (w_X11_token K g_t t_raised t_undos res.1 t_length res.2.1 res.2.2.1 res.2.2.2.1 res.2.2.2.2 t_wrongAt t_badAt t_bad t_read t_pictured t_x t_text) → va_S A s.heap H locs → W p l e rmX11_token s m args below meth c H locs 0 0 Q (F0 m pc ls [])) {k_0 : Int32 → Int32 → Int32 → Int32 → Int64 → Option (Int32 × Int32 × Int32 × Int32 × Int64)} (HK_0 : ∀ (t_reached : Int32) (t_begin : Int32) (t_sort : Int32) (t_value : Int32) (t_word : Int64) (H : Heap) (locs : List Loc) (ls : Array Slot), va_P D vwCl (w_X11_token K g_t t_raised t_undos t_reached t_length t_begin t_sort t_value t_word t_wrongAt t_badAt t_bad t_read t_pictured t_x t_text) H → va_D A (w_X11_token K g_t t_raised t_undos t_reached t_length t_begin t_sort t_value t_word t_wrongAt t_badAt t_bad t_read t_pictured t_x t_text) → va_S A s.heap H locs → lv_has ls 3 [(0, .ref (g_t 0))] → k_0 t_reached t_begin t_sort t_value t_word = some res → W p l e rmX11_token s m args below meth c H locs 0 0 Q (F0 m 0 ls [])) :
    ∀ (t_reached : Int32) (t_begin : Int32) (t_sort : Int32) (t_value : Int32) (t_word : Int64) (H : Heap) (locs : List Loc) (ls : Array Slot), va_P D vwCl (w_X11_token K g_t t_raised t_undos t_reached t_length t_begin t_sort t_value t_word t_wrongAt t_badAt t_bad t_read t_pictured t_x t_text) H → va_D A (w_X11_token K g_t t_raised t_undos t_reached t_length t_begin t_sort t_value t_word t_wrongAt t_badAt t_bad t_read t_pictured t_x t_text) → va_S A s.heap H locs → lv_has ls 3 [(0, .ref (g_t 0))] → J_X11_token_18 t_length t_text k_0 t_reached t_begin t_sort t_value t_word = some res → W p l e rmX11_token s m args below meth c H locs 0 0 Q (F0 m 18 ls []) := by
  obtain ⟨⟨hx, hb, hml, hown, hts⟩, hK, -⟩ := id C0
  intro t_reached t_begin t_sort t_value t_word H locs ls hP hD hS hl hF
  unfold J_X11_token_18 at hF
  refine lv_aload_n hx hb dX11_token_18 rfl (lv_at hl 0 rfl) ?_
  refine lv_dup hx hb dX11_token_19 rfl ?_
  refine va_get (D := D) (ci := 10) (v := .int t_reached) (C := RX11) (T := TX11) (N := 30) hx hb hts iw_X11_token_X11 hown hK hP 0 rfl rfl 6 (by decide) (hts _ fl_X11_token_80) (fun _ h9 => h9) rfl dX11_token_20 ?_
  refine lv_iconst (v := 1) hx hb dX11_token_23 (by decide) ?_
  refine lv_iadd hx hb dX11_token_24 ?_
  refine va_put (D := D) (ci := 10) (v := .int (t_reached + (1 : Int32))) (ty := .int) (C := RX11) (T := TX11) (N := 30) hx hb hts iw_X11_token_X11 tyX11 tyX11_ok nmX11 hown hK hP hD hS 0 rfl rfl 6 (by decide) (hts _ fl_X11_token_80) (fun _ h9 => h9) rfl (by decide +kernel) rfl rfl (Nat.le_of_ble_eq_true rfl) dX11_token_25 (fun H locs hP hD hS => ?_)
  have hP : va_P D vwCl (w_X11_token K g_t t_raised t_undos (t_reached + (1 : Int32)) t_length t_begin t_sort t_value t_word t_wrongAt t_badAt t_bad t_read t_pictured t_x t_text) H := hP
  have hD : va_D A (w_X11_token K g_t t_raised t_undos (t_reached + (1 : Int32)) t_length t_begin t_sort t_value t_word t_wrongAt t_badAt t_bad t_read t_pictured t_x t_text) := hD
  refine lv_goto (tgt := 0) hx hb dX11_token_28 (by decide) ?_
  exact HK_0 (t_reached + (1 : Int32)) t_begin t_sort t_value t_word H locs ls hP hD hS (lv_sub hl [0] rfl) hF
def J_X11_token_136 (t_length : Int32) (t_text : Nat → Int32) (t_reached : Int32) (t_begin : Int32) (t_sort : Int32) (t_value : Int32) (t_word : Int64) (s1 : Int64) : Option (Int32 × Int32 × Int32 × Int32 × Int64) :=
  some (t_reached, t_begin, (2 : Int32), t_value, s1)
set_option maxHeartbeats 4000000 in
set_option maxRecDepth 100000 in
theorem w_X11_token_136 {p : Program} {l : Launch} {e : Env} {s : State} {m : MethodId} {args : Array Value} {below : List Frame} {meth : Method} {c : Code} {D : va_G} {K : Nat → ClassId} {A : Nat → Prop} {Q : State → Prop} (C0 : cx_ p s m args c cX11_token 3 RX11 wsX11_token D K A) {g_t : Nat → Nat} {t_raised : Int32} {t_undos : Int32} {t_length : Int32} {t_wrongAt : Int32} {t_badAt : Int32} {t_bad : Int32} {t_read : Int32} {t_pictured : Int32} {t_x : Int32} {t_text : Nat → Int32} {res : Int32 × Int32 × Int32 × Int32 × Int64} (HR : ∀ (pc : Nat) (H : Heap) (locs : List Loc) (ls : Array Slot), decode cX11_token pc = .ok (.return_, 1) → va_P D vwCl (w_X11_token K g_t t_raised t_undos res.1 t_length res.2.1 res.2.2.1 res.2.2.2.1 res.2.2.2.2 t_wrongAt t_badAt t_bad t_read t_pictured t_x t_text) H → va_D A (w_X11_token K g_t t_raised t_undos res.1 t_length res.2.1 res.2.2.1 res.2.2.2.1 res.2.2.2.2 t_wrongAt t_badAt t_bad t_read t_pictured t_x t_text) → va_S A s.heap H locs → W p l e rmX11_token s m args below meth c H locs 0 0 Q (F0 m pc ls []))  :
    ∀ (t_reached : Int32) (t_begin : Int32) (t_sort : Int32) (t_value : Int32) (t_word : Int64) (s1 : Int64) (H : Heap) (locs : List Loc) (ls : Array Slot), va_P D vwCl (w_X11_token K g_t t_raised t_undos t_reached t_length t_begin t_sort t_value t_word t_wrongAt t_badAt t_bad t_read t_pictured t_x t_text) H → va_D A (w_X11_token K g_t t_raised t_undos t_reached t_length t_begin t_sort t_value t_word t_wrongAt t_badAt t_bad t_read t_pictured t_x t_text) → va_S A s.heap H locs → lv_has ls 3 [(0, .ref (g_t 0))] → J_X11_token_136 t_length t_text t_reached t_begin t_sort t_value t_word s1 = some res → W p l e rmX11_token s m args below meth c H locs 0 0 Q (F0 m 136 ls [.long s1, .ref (g_t 0)]) := by
  obtain ⟨⟨hx, hb, hml, hown, hts⟩, hK, -⟩ := id C0
  intro t_reached t_begin t_sort t_value t_word s1 H locs ls hP hD hS hl hF
  unfold J_X11_token_136 at hF
  refine va_put (D := D) (ci := 10) (v := .long s1) (ty := .long) (C := RX11) (T := TX11) (N := 30) hx hb hts iw_X11_token_X11 tyX11 tyX11_ok nmX11 hown hK hP hD hS 0 rfl rfl 11 (by decide) (hts _ fl_X11_token_93) (fun _ h9 => h9) rfl (by decide +kernel) rfl rfl (Nat.le_of_ble_eq_true rfl) dX11_token_136 (fun H locs hP hD hS => ?_)
  have hP : va_P D vwCl (w_X11_token K g_t t_raised t_undos t_reached t_length t_begin t_sort t_value s1 t_wrongAt t_badAt t_bad t_read t_pictured t_x t_text) H := hP
  have hD : va_D A (w_X11_token K g_t t_raised t_undos t_reached t_length t_begin t_sort t_value s1 t_wrongAt t_badAt t_bad t_read t_pictured t_x t_text) := hD
  refine lv_aload_n hx hb dX11_token_139 rfl (lv_at hl 0 rfl) ?_
  refine lv_iconst (v := 2) hx hb dX11_token_140 (by decide) ?_
  refine va_put (D := D) (ci := 10) (v := .int (2 : Int32)) (ty := .int) (C := RX11) (T := TX11) (N := 30) hx hb hts iw_X11_token_X11 tyX11 tyX11_ok nmX11 hown hK hP hD hS 0 rfl rfl 9 (by decide) (hts _ fl_X11_token_97) (fun _ h9 => h9) rfl (by decide +kernel) rfl rfl (Nat.le_of_ble_eq_true rfl) dX11_token_141 (fun H locs hP hD hS => ?_)
  have hP : va_P D vwCl (w_X11_token K g_t t_raised t_undos t_reached t_length t_begin (2 : Int32) t_value s1 t_wrongAt t_badAt t_bad t_read t_pictured t_x t_text) H := hP
  have hD : va_D A (w_X11_token K g_t t_raised t_undos t_reached t_length t_begin (2 : Int32) t_value s1 t_wrongAt t_badAt t_bad t_read t_pictured t_x t_text) := hD
  refine lv_goto (tgt := 266) hx hb dX11_token_144 (by decide) ?_
  obtain rfl := Option.some.inj hF
  exact HR 266 H locs ls dX11_token_266 hP hD hS
def J_X11_token_121 (t_length : Int32) (t_text : Nat → Int32) (t_reached : Int32) (t_begin : Int32) (t_sort : Int32) (t_value : Int32) (t_word : Int64) (x2 : Int32) : Option (Int32 × Int32 × Int32 × Int32 × Int64) :=
  if x2 ≤ (8 : Int32) then (J_X11_token_136 t_length t_text t_reached t_begin t_sort t_value t_word t_word) else (J_X11_token_136 t_length t_text t_reached t_begin t_sort t_value t_word (0 : Int64))
set_option maxHeartbeats 4000000 in
set_option maxRecDepth 100000 in
theorem w_X11_token_121 {p : Program} {l : Launch} {e : Env} {s : State} {m : MethodId} {args : Array Value} {below : List Frame} {meth : Method} {c : Code} {D : va_G} {K : Nat → ClassId} {A : Nat → Prop} {Q : State → Prop} (C0 : cx_ p s m args c cX11_token 3 RX11 wsX11_token D K A) {g_t : Nat → Nat} {t_raised : Int32} {t_undos : Int32} {t_length : Int32} {t_wrongAt : Int32} {t_badAt : Int32} {t_bad : Int32} {t_read : Int32} {t_pictured : Int32} {t_x : Int32} {t_text : Nat → Int32} {res : Int32 × Int32 × Int32 × Int32 × Int64} (HR : ∀ (pc : Nat) (H : Heap) (locs : List Loc) (ls : Array Slot), decode cX11_token pc = .ok (.return_, 1) → va_P D vwCl (w_X11_token K g_t t_raised t_undos res.1 t_length res.2.1 res.2.2.1 res.2.2.2.1 res.2.2.2.2 t_wrongAt t_badAt t_bad t_read t_pictured t_x t_text) H → va_D A (w_X11_token K g_t t_raised t_undos res.1 t_length res.2.1 res.2.2.1 res.2.2.2.1 res.2.2.2.2 t_wrongAt t_badAt t_bad t_read t_pictured t_x t_text) → va_S A s.heap H locs → W p l e rmX11_token s m args below meth c H locs 0 0 Q (F0 m pc ls []))  :
    ∀ (t_reached : Int32) (t_begin : Int32) (t_sort : Int32) (t_value : Int32) (t_word : Int64) (x2 : Int32) (H : Heap) (locs : List Loc) (ls : Array Slot), va_P D vwCl (w_X11_token K g_t t_raised t_undos t_reached t_length t_begin t_sort t_value t_word t_wrongAt t_badAt t_bad t_read t_pictured t_x t_text) H → va_D A (w_X11_token K g_t t_raised t_undos t_reached t_length t_begin t_sort t_value t_word t_wrongAt t_badAt t_bad t_read t_pictured t_x t_text) → va_S A s.heap H locs → lv_has ls 3 [(0, .ref (g_t 0)), (2, .int x2)] → J_X11_token_121 t_length t_text t_reached t_begin t_sort t_value t_word x2 = some res → W p l e rmX11_token s m args below meth c H locs 0 0 Q (F0 m 121 ls []) := by
  obtain ⟨⟨hx, hb, hml, hown, hts⟩, hK, -⟩ := id C0
  intro t_reached t_begin t_sort t_value t_word x2 H locs ls hP hD hS hl hF
  unfold J_X11_token_121 at hF
  refine lv_aload_n hx hb dX11_token_121 rfl (lv_at hl 0 rfl) ?_
  refine lv_iload_n hx hb dX11_token_122 rfl (lv_at hl 1 rfl) ?_
  refine lv_bipush (v := 8) hx hb dX11_token_123 (by decide) ?_
  refine lv_icmp_le (tgt := 132) hx hb dX11_token_125 (by decide) (fun c_1 => ?_) (fun c_1 => ?_)
  · have hF := it_pos c_1 hF
    refine lv_aload_n hx hb dX11_token_132 rfl (lv_at hl 0 rfl) ?_
    refine va_get (D := D) (ci := 10) (v := .long t_word) (C := RX11) (T := TX11) (N := 30) hx hb hts iw_X11_token_X11 hown hK hP 0 rfl rfl 11 (by decide) (hts _ fl_X11_token_93) (fun _ h9 => h9) rfl dX11_token_133 ?_
    exact w_X11_token_136 C0 HR t_reached t_begin t_sort t_value t_word t_word H locs ls hP hD hS (lv_sub hl [0] rfl) hF
  · have hF := it_neg c_1 hF
    refine lv_lconst (v := 0) hx hb dX11_token_128 (by decide) ?_
    refine lv_goto (tgt := 136) hx hb dX11_token_129 (by decide) ?_
    exact w_X11_token_136 C0 HR t_reached t_begin t_sort t_value t_word (0 : Int64) H locs ls hP hD hS (lv_sub hl [0] rfl) hF
def L_X11_token_74 (t_length : Int32) (t_text : Nat → Int32) : Nat → Int32 → Int32 → Int32 → Int32 → Int64 → Int32 → Option (Int32 × Int32 × Int32 × Int32 × Int64)
  | 0, _, _, _, _, _, _ => none
  | n_ + 1, t_reached, t_begin, t_sort, t_value, t_word, x2 =>
    (F_X11_see t_reached t_length t_text).bind fun r_1 => ((F_X11_in r_1 (97 : Int32) (122 : Int32)).bind fun r_3 => (if r_3 = (0 : Int32) then (J_X11_token_121 t_length t_text t_reached t_begin t_sort t_value t_word x2) else ((F_X11_see t_reached t_length t_text).bind fun r_6 => (L_X11_token_74 t_length t_text n_ (t_reached + (1 : Int32)) t_begin t_sort t_value ((t_word <<< (((8 : Int32)).toInt64 &&& 63)) ||| (r_6).toInt64) (x2 + (1 : Int32))))))
set_option maxHeartbeats 4000000 in
set_option maxRecDepth 100000 in
theorem w_X11_token_74 {p : Program} {l : Launch} {e : Env} {s : State} {m : MethodId} {args : Array Value} {below : List Frame} {meth : Method} {c : Code} {D : va_G} {K : Nat → ClassId} {A : Nat → Prop} {Q : State → Prop} (C0 : cx_ p s m args c cX11_token 3 RX11 wsX11_token D K A) {g_t : Nat → Nat} {t_raised : Int32} {t_undos : Int32} {t_length : Int32} {t_wrongAt : Int32} {t_badAt : Int32} {t_bad : Int32} {t_read : Int32} {t_pictured : Int32} {t_x : Int32} {t_text : Nat → Int32} {res : Int32 × Int32 × Int32 × Int32 × Int64} (HR : ∀ (pc : Nat) (H : Heap) (locs : List Loc) (ls : Array Slot), decode cX11_token pc = .ok (.return_, 1) → va_P D vwCl (w_X11_token K g_t t_raised t_undos res.1 t_length res.2.1 res.2.2.1 res.2.2.2.1 res.2.2.2.2 t_wrongAt t_badAt t_bad t_read t_pictured t_x t_text) H → va_D A (w_X11_token K g_t t_raised t_undos res.1 t_length res.2.1 res.2.2.1 res.2.2.2.1 res.2.2.2.2 t_wrongAt t_badAt t_bad t_read t_pictured t_x t_text) → va_S A s.heap H locs → W p l e rmX11_token s m args below meth c H locs 0 0 Q (F0 m pc ls []))  :
    ∀ (n_ : Nat) (t_reached : Int32) (t_begin : Int32) (t_sort : Int32) (t_value : Int32) (t_word : Int64) (x2 : Int32) (H : Heap) (locs : List Loc) (ls : Array Slot), va_P D vwCl (w_X11_token K g_t t_raised t_undos t_reached t_length t_begin t_sort t_value t_word t_wrongAt t_badAt t_bad t_read t_pictured t_x t_text) H → va_D A (w_X11_token K g_t t_raised t_undos t_reached t_length t_begin t_sort t_value t_word t_wrongAt t_badAt t_bad t_read t_pictured t_x t_text) → va_S A s.heap H locs → lv_has ls 3 [(0, .ref (g_t 0)), (2, .int x2)] → L_X11_token_74 t_length t_text n_ t_reached t_begin t_sort t_value t_word x2 = some res → W p l e rmX11_token s m args below meth c H locs 0 0 Q (F0 m 74 ls []) := by
  obtain ⟨⟨hx, hb, hml, hown, hts⟩, hK, -⟩ := id C0
  intro n_
  induction n_ with
  | zero =>
    intro t_reached t_begin t_sort t_value t_word x2 H locs ls hP hD hS hl hF
    exact no_s (show (none : Option (Int32 × Int32 × Int32 × Int32 × Int64)) = some res from hF)
  | succ n_ ih =>
    intro t_reached t_begin t_sort t_value t_word x2 H locs ls hP hD hS hl hF
    rw [L_X11_token_74] at hF
    refine lv_aload_n hx hb dX11_token_74 rfl (lv_at hl 0 rfl) ?_
    obtain ⟨r_1, hc_2, hF⟩ := bn_some hF
    refine xc_i (wn := (w_X11_token K g_t t_raised t_undos t_reached t_length t_begin t_sort t_value t_word t_wrongAt t_badAt t_bad t_read t_pictured t_x t_text)) hP hD hS C0.2.2.1 [0, 1] [] [0, 1] rfl rfl (by decide) (by decide) rfl (by decide) (va_runV (As := []) (rest := []) C0.1 (c_X11_see l D K g_t t_raised t_undos t_reached t_length t_begin t_sort t_value t_word t_wrongAt t_badAt t_bad t_read t_pictured t_x t_text r_1 hc_2 H.size) (cwV 0 hts gX11_token_X11_see rfl rfl rfl (by decide +kernel) ⟨Nat.le_of_ble_eq_true rfl, Nat.le_of_ble_eq_true rfl⟩) (xp_V C0.2 hP hD hS [0, 1] rfl (by decide) 10 0 rfl rfl rfl) rfl rfl hl.1 rfl (lv_room (Nat.le_of_ble_eq_true rfl)) dX11_token_75 ⟨Nat.le_of_ble_eq_true rfl, Nat.le_of_ble_eq_true rfl⟩) (fun H locs hP hD hS => ?_)
    refine lv_bipush (v := 97) hx hb dX11_token_78 (by decide) ?_
    refine lv_bipush (v := 122) hx hb dX11_token_80 (by decide) ?_
    obtain ⟨r_3, hc_4, hF⟩ := bn_some hF
    refine xc_i (wn := (w_X11_token K g_t t_raised t_undos t_reached t_length t_begin t_sort t_value t_word t_wrongAt t_badAt t_bad t_read t_pictured t_x t_text)) hP hD hS C0.2.2.1 [] [0, 1] [0, 1] rfl rfl (by decide) (by decide) rfl (by decide) (va_runS (As := [.int r_1, .int (97 : Int32), .int (122 : Int32)]) (rest := []) C0.1 (c_X11_in l D K r_1 (97 : Int32) (122 : Int32) r_3 hc_4 H.size) (va_cwS 3 hts gX11_token_X11_in rfl rfl rfl (by decide +kernel) ⟨Nat.le_of_ble_eq_true rfl, Nat.le_of_ble_eq_true rfl⟩) (xp_S C0.2 hP hD hS [] rfl (by decide)) rfl rfl hl.1 rfl (lv_room (Nat.le_of_ble_eq_true rfl)) dX11_token_82 ⟨Nat.le_of_ble_eq_true rfl, Nat.le_of_ble_eq_true rfl⟩) (fun H locs hP hD hS => ?_)
    refine lv_if_eq (tgt := 121) hx hb dX11_token_85 (by decide) (fun c_5 => ?_) (fun c_5 => ?_)
    · have hF := it_pos c_5 hF
      exact w_X11_token_121 C0 HR t_reached t_begin t_sort t_value t_word x2 H locs ls hP hD hS (lv_sub hl [0, 1] rfl) hF
    · have hF := it_neg c_5 hF
      refine lv_aload_n hx hb dX11_token_88 rfl (lv_at hl 0 rfl) ?_
      refine lv_aload_n hx hb dX11_token_89 rfl (lv_at hl 0 rfl) ?_
      refine va_get (D := D) (ci := 10) (v := .long t_word) (C := RX11) (T := TX11) (N := 30) hx hb hts iw_X11_token_X11 hown hK hP 0 rfl rfl 11 (by decide) (hts _ fl_X11_token_93) (fun _ h9 => h9) rfl dX11_token_90 ?_
      refine lv_bipush (v := 8) hx hb dX11_token_93 (by decide) ?_
      refine lv_lshl hx hb dX11_token_95 rfl ?_
      refine lv_aload_n hx hb dX11_token_96 rfl (lv_at hl 0 rfl) ?_
      obtain ⟨r_6, hc_7, hF⟩ := bn_some hF
      refine xc_i (wn := (w_X11_token K g_t t_raised t_undos t_reached t_length t_begin t_sort t_value t_word t_wrongAt t_badAt t_bad t_read t_pictured t_x t_text)) hP hD hS C0.2.2.1 [0, 1] [] [0, 1] rfl rfl (by decide) (by decide) rfl (by decide) (va_runV (As := []) (rest := [.long (t_word <<< (((8 : Int32)).toInt64 &&& 63)), .ref (g_t 0)]) C0.1 (c_X11_see l D K g_t t_raised t_undos t_reached t_length t_begin t_sort t_value t_word t_wrongAt t_badAt t_bad t_read t_pictured t_x t_text r_6 hc_7 H.size) (cwV 0 hts gX11_token_X11_see rfl rfl rfl (by decide +kernel) ⟨Nat.le_of_ble_eq_true rfl, Nat.le_of_ble_eq_true rfl⟩) (xp_V C0.2 hP hD hS [0, 1] rfl (by decide) 10 0 rfl rfl rfl) rfl rfl hl.1 rfl (lv_room (Nat.le_of_ble_eq_true rfl)) dX11_token_97 ⟨Nat.le_of_ble_eq_true rfl, Nat.le_of_ble_eq_true rfl⟩) (fun H locs hP hD hS => ?_)
      refine lv_i2l hx hb dX11_token_100 rfl ?_
      refine lv_lor hx hb dX11_token_101 ?_
      refine va_put (D := D) (ci := 10) (v := .long ((t_word <<< (((8 : Int32)).toInt64 &&& 63)) ||| (r_6).toInt64)) (ty := .long) (C := RX11) (T := TX11) (N := 30) hx hb hts iw_X11_token_X11 tyX11 tyX11_ok nmX11 hown hK hP hD hS 0 rfl rfl 11 (by decide) (hts _ fl_X11_token_93) (fun _ h9 => h9) rfl (by decide +kernel) rfl rfl (Nat.le_of_ble_eq_true rfl) dX11_token_102 (fun H locs hP hD hS => ?_)
      have hP : va_P D vwCl (w_X11_token K g_t t_raised t_undos t_reached t_length t_begin t_sort t_value ((t_word <<< (((8 : Int32)).toInt64 &&& 63)) ||| (r_6).toInt64) t_wrongAt t_badAt t_bad t_read t_pictured t_x t_text) H := hP
      have hD : va_D A (w_X11_token K g_t t_raised t_undos t_reached t_length t_begin t_sort t_value ((t_word <<< (((8 : Int32)).toInt64 &&& 63)) ||| (r_6).toInt64) t_wrongAt t_badAt t_bad t_read t_pictured t_x t_text) := hD
      refine lv_aload_n hx hb dX11_token_105 rfl (lv_at hl 0 rfl) ?_
      refine lv_dup hx hb dX11_token_106 rfl ?_
      refine va_get (D := D) (ci := 10) (v := .int t_reached) (C := RX11) (T := TX11) (N := 30) hx hb hts iw_X11_token_X11 hown hK hP 0 rfl rfl 6 (by decide) (hts _ fl_X11_token_80) (fun _ h9 => h9) rfl dX11_token_107 ?_
      refine lv_iconst (v := 1) hx hb dX11_token_110 (by decide) ?_
      refine lv_iadd hx hb dX11_token_111 ?_
      refine va_put (D := D) (ci := 10) (v := .int (t_reached + (1 : Int32))) (ty := .int) (C := RX11) (T := TX11) (N := 30) hx hb hts iw_X11_token_X11 tyX11 tyX11_ok nmX11 hown hK hP hD hS 0 rfl rfl 6 (by decide) (hts _ fl_X11_token_80) (fun _ h9 => h9) rfl (by decide +kernel) rfl rfl (Nat.le_of_ble_eq_true rfl) dX11_token_112 (fun H locs hP hD hS => ?_)
      have hP : va_P D vwCl (w_X11_token K g_t t_raised t_undos (t_reached + (1 : Int32)) t_length t_begin t_sort t_value ((t_word <<< (((8 : Int32)).toInt64 &&& 63)) ||| (r_6).toInt64) t_wrongAt t_badAt t_bad t_read t_pictured t_x t_text) H := hP
      have hD : va_D A (w_X11_token K g_t t_raised t_undos (t_reached + (1 : Int32)) t_length t_begin t_sort t_value ((t_word <<< (((8 : Int32)).toInt64 &&& 63)) ||| (r_6).toInt64) t_wrongAt t_badAt t_bad t_read t_pictured t_x t_text) := hD
      refine lv_iinc (v := (x2 + (1 : Int32))) (lv' := [(2, .int (x2 + (1 : Int32))), (0, .ref (g_t 0))]) hx hb dX11_token_115 hl (k := 1) rfl (congrArg (fun z => x2 + z) (by decide)) (by decide) rfl (fun ls hl => ?_)
      refine lv_goto (tgt := 74) hx hb dX11_token_118 (by decide) ?_
      exact ih (t_reached + (1 : Int32)) t_begin t_sort t_value ((t_word <<< (((8 : Int32)).toInt64 &&& 63)) ||| (r_6).toInt64) (x2 + (1 : Int32)) H locs ls hP hD hS (lv_sub hl [1, 0] rfl) hF
def J_X11_token_235 (t_length : Int32) (t_text : Nat → Int32) (t_reached : Int32) (t_begin : Int32) (t_sort : Int32) (t_value : Int32) (t_word : Int64) (s1 : Int32) : Option (Int32 × Int32 × Int32 × Int32 × Int64) :=
  some (t_reached, t_begin, s1, t_value, t_word)
set_option maxHeartbeats 4000000 in
set_option maxRecDepth 100000 in
theorem w_X11_token_235 {p : Program} {l : Launch} {e : Env} {s : State} {m : MethodId} {args : Array Value} {below : List Frame} {meth : Method} {c : Code} {D : va_G} {K : Nat → ClassId} {A : Nat → Prop} {Q : State → Prop} (C0 : cx_ p s m args c cX11_token 3 RX11 wsX11_token D K A) {g_t : Nat → Nat} {t_raised : Int32} {t_undos : Int32} {t_length : Int32} {t_wrongAt : Int32} {t_badAt : Int32} {t_bad : Int32} {t_read : Int32} {t_pictured : Int32} {t_x : Int32} {t_text : Nat → Int32} {res : Int32 × Int32 × Int32 × Int32 × Int64} (HR : ∀ (pc : Nat) (H : Heap) (locs : List Loc) (ls : Array Slot), decode cX11_token pc = .ok (.return_, 1) → va_P D vwCl (w_X11_token K g_t t_raised t_undos res.1 t_length res.2.1 res.2.2.1 res.2.2.2.1 res.2.2.2.2 t_wrongAt t_badAt t_bad t_read t_pictured t_x t_text) H → va_D A (w_X11_token K g_t t_raised t_undos res.1 t_length res.2.1 res.2.2.1 res.2.2.2.1 res.2.2.2.2 t_wrongAt t_badAt t_bad t_read t_pictured t_x t_text) → va_S A s.heap H locs → W p l e rmX11_token s m args below meth c H locs 0 0 Q (F0 m pc ls []))  :
    ∀ (t_reached : Int32) (t_begin : Int32) (t_sort : Int32) (t_value : Int32) (t_word : Int64) (s1 : Int32) (H : Heap) (locs : List Loc) (ls : Array Slot), va_P D vwCl (w_X11_token K g_t t_raised t_undos t_reached t_length t_begin t_sort t_value t_word t_wrongAt t_badAt t_bad t_read t_pictured t_x t_text) H → va_D A (w_X11_token K g_t t_raised t_undos t_reached t_length t_begin t_sort t_value t_word t_wrongAt t_badAt t_bad t_read t_pictured t_x t_text) → va_S A s.heap H locs → lv_has ls 3 [] → J_X11_token_235 t_length t_text t_reached t_begin t_sort t_value t_word s1 = some res → W p l e rmX11_token s m args below meth c H locs 0 0 Q (F0 m 235 ls [.int s1, .ref (g_t 0)]) := by
  obtain ⟨⟨hx, hb, hml, hown, hts⟩, hK, -⟩ := id C0
  intro t_reached t_begin t_sort t_value t_word s1 H locs ls hP hD hS hl hF
  unfold J_X11_token_235 at hF
  refine va_put (D := D) (ci := 10) (v := .int s1) (ty := .int) (C := RX11) (T := TX11) (N := 30) hx hb hts iw_X11_token_X11 tyX11 tyX11_ok nmX11 hown hK hP hD hS 0 rfl rfl 9 (by decide) (hts _ fl_X11_token_97) (fun _ h9 => h9) rfl (by decide +kernel) rfl rfl (Nat.le_of_ble_eq_true rfl) dX11_token_235 (fun H locs hP hD hS => ?_)
  have hP : va_P D vwCl (w_X11_token K g_t t_raised t_undos t_reached t_length t_begin s1 t_value t_word t_wrongAt t_badAt t_bad t_read t_pictured t_x t_text) H := hP
  have hD : va_D A (w_X11_token K g_t t_raised t_undos t_reached t_length t_begin s1 t_value t_word t_wrongAt t_badAt t_bad t_read t_pictured t_x t_text) := hD
  refine lv_goto (tgt := 266) hx hb dX11_token_238 (by decide) ?_
  obtain rfl := Option.some.inj hF
  exact HR 266 H locs ls dX11_token_266 hP hD hS
def J_X11_token_224 (t_length : Int32) (t_text : Nat → Int32) (t_reached : Int32) (t_begin : Int32) (t_sort : Int32) (t_value : Int32) (t_word : Int64) (x2 : Int32) : Option (Int32 × Int32 × Int32 × Int32 × Int64) :=
  if x2 ≤ (4 : Int32) then (J_X11_token_235 t_length t_text t_reached t_begin t_sort t_value t_word (3 : Int32)) else (J_X11_token_235 t_length t_text t_reached t_begin t_sort t_value t_word (1 : Int32))
set_option maxHeartbeats 4000000 in
set_option maxRecDepth 100000 in
theorem w_X11_token_224 {p : Program} {l : Launch} {e : Env} {s : State} {m : MethodId} {args : Array Value} {below : List Frame} {meth : Method} {c : Code} {D : va_G} {K : Nat → ClassId} {A : Nat → Prop} {Q : State → Prop} (C0 : cx_ p s m args c cX11_token 3 RX11 wsX11_token D K A) {g_t : Nat → Nat} {t_raised : Int32} {t_undos : Int32} {t_length : Int32} {t_wrongAt : Int32} {t_badAt : Int32} {t_bad : Int32} {t_read : Int32} {t_pictured : Int32} {t_x : Int32} {t_text : Nat → Int32} {res : Int32 × Int32 × Int32 × Int32 × Int64} (HR : ∀ (pc : Nat) (H : Heap) (locs : List Loc) (ls : Array Slot), decode cX11_token pc = .ok (.return_, 1) → va_P D vwCl (w_X11_token K g_t t_raised t_undos res.1 t_length res.2.1 res.2.2.1 res.2.2.2.1 res.2.2.2.2 t_wrongAt t_badAt t_bad t_read t_pictured t_x t_text) H → va_D A (w_X11_token K g_t t_raised t_undos res.1 t_length res.2.1 res.2.2.1 res.2.2.2.1 res.2.2.2.2 t_wrongAt t_badAt t_bad t_read t_pictured t_x t_text) → va_S A s.heap H locs → W p l e rmX11_token s m args below meth c H locs 0 0 Q (F0 m pc ls []))  :
    ∀ (t_reached : Int32) (t_begin : Int32) (t_sort : Int32) (t_value : Int32) (t_word : Int64) (x2 : Int32) (H : Heap) (locs : List Loc) (ls : Array Slot), va_P D vwCl (w_X11_token K g_t t_raised t_undos t_reached t_length t_begin t_sort t_value t_word t_wrongAt t_badAt t_bad t_read t_pictured t_x t_text) H → va_D A (w_X11_token K g_t t_raised t_undos t_reached t_length t_begin t_sort t_value t_word t_wrongAt t_badAt t_bad t_read t_pictured t_x t_text) → va_S A s.heap H locs → lv_has ls 3 [(0, .ref (g_t 0)), (2, .int x2)] → J_X11_token_224 t_length t_text t_reached t_begin t_sort t_value t_word x2 = some res → W p l e rmX11_token s m args below meth c H locs 0 0 Q (F0 m 224 ls []) := by
  obtain ⟨⟨hx, hb, hml, hown, hts⟩, hK, -⟩ := id C0
  intro t_reached t_begin t_sort t_value t_word x2 H locs ls hP hD hS hl hF
  unfold J_X11_token_224 at hF
  refine lv_aload_n hx hb dX11_token_224 rfl (lv_at hl 0 rfl) ?_
  refine lv_iload_n hx hb dX11_token_225 rfl (lv_at hl 1 rfl) ?_
  refine lv_iconst (v := 4) hx hb dX11_token_226 (by decide) ?_
  refine lv_icmp_le (tgt := 234) hx hb dX11_token_227 (by decide) (fun c_1 => ?_) (fun c_1 => ?_)
  · have hF := it_pos c_1 hF
    refine lv_iconst (v := 3) hx hb dX11_token_234 (by decide) ?_
    exact w_X11_token_235 C0 HR t_reached t_begin t_sort t_value t_word (3 : Int32) H locs ls hP hD hS (lv_sub hl [] rfl) hF
  · have hF := it_neg c_1 hF
    refine lv_iconst (v := 1) hx hb dX11_token_230 (by decide) ?_
    refine lv_goto (tgt := 235) hx hb dX11_token_231 (by decide) ?_
    exact w_X11_token_235 C0 HR t_reached t_begin t_sort t_value t_word (1 : Int32) H locs ls hP hD hS (lv_sub hl [] rfl) hF
def J_X11_token_205 (t_length : Int32) (t_text : Nat → Int32) (k_163 : Int32 → Int32 → Int32 → Int32 → Int64 → Int32 → Option (Int32 × Int32 × Int32 × Int32 × Int64)) (t_reached : Int32) (t_begin : Int32) (t_sort : Int32) (t_value : Int32) (t_word : Int64) (x2 : Int32) (s1 : Int32) : Option (Int32 × Int32 × Int32 × Int32 × Int64) :=
  k_163 (t_reached + (1 : Int32)) t_begin t_sort s1 t_word (x2 + (1 : Int32))
set_option maxHeartbeats 4000000 in
set_option maxRecDepth 100000 in
theorem w_X11_token_205 {p : Program} {l : Launch} {e : Env} {s : State} {m : MethodId} {args : Array Value} {below : List Frame} {meth : Method} {c : Code} {D : va_G} {K : Nat → ClassId} {A : Nat → Prop} {Q : State → Prop} (C0 : cx_ p s m args c cX11_token 3 RX11 wsX11_token D K A) {g_t : Nat → Nat} {t_raised : Int32} {t_undos : Int32} {t_length : Int32} {t_wrongAt : Int32} {t_badAt : Int32} {t_bad : Int32} {t_read : Int32} {t_pictured : Int32} {t_x : Int32} {t_text : Nat → Int32} {res : Int32 × Int32 × Int32 × Int32 × Int64} (HR : ∀ (pc : Nat) (H : Heap) (locs : List Loc) (ls : Array Slot), decode cX11_token pc = .ok (.return_, 1) → va_P D vwCl (w_X11_token K g_t t_raised t_undos res.1 t_length res.2.1 res.2.2.1 res.2.2.2.1 res.2.2.2.2 t_wrongAt t_badAt t_bad t_read t_pictured t_x t_text) H → va_D A (w_X11_token K g_t t_raised t_undos res.1 t_length res.2.1 res.2.2.1 res.2.2.2.1 res.2.2.2.2 t_wrongAt t_badAt t_bad t_read t_pictured t_x t_text) → va_S A s.heap H locs → W p l e rmX11_token s m args below meth c H locs 0 0 Q (F0 m pc ls [])) {k_163 : Int32 → Int32 → Int32 → Int32 → Int64 → Int32 → Option (Int32 × Int32 × Int32 × Int32 × Int64)} (HK_163 : ∀ (t_reached : Int32) (t_begin : Int32) (t_sort : Int32) (t_value : Int32) (t_word : Int64) (x2 : Int32) (H : Heap) (locs : List Loc) (ls : Array Slot), va_P D vwCl (w_X11_token K g_t t_raised t_undos t_reached t_length t_begin t_sort t_value t_word t_wrongAt t_badAt t_bad t_read t_pictured t_x t_text) H → va_D A (w_X11_token K g_t t_raised t_undos t_reached t_length t_begin t_sort t_value t_word t_wrongAt t_badAt t_bad t_read t_pictured t_x t_text) → va_S A s.heap H locs → lv_has ls 3 [(0, .ref (g_t 0)), (2, .int x2)] → k_163 t_reached t_begin t_sort t_value t_word x2 = some res → W p l e rmX11_token s m args below meth c H locs 0 0 Q (F0 m 163 ls [])) :
    ∀ (t_reached : Int32) (t_begin : Int32) (t_sort : Int32) (t_value : Int32) (t_word : Int64) (x2 : Int32) (s1 : Int32) (H : Heap) (locs : List Loc) (ls : Array Slot), va_P D vwCl (w_X11_token K g_t t_raised t_undos t_reached t_length t_begin t_sort t_value t_word t_wrongAt t_badAt t_bad t_read t_pictured t_x t_text) H → va_D A (w_X11_token K g_t t_raised t_undos t_reached t_length t_begin t_sort t_value t_word t_wrongAt t_badAt t_bad t_read t_pictured t_x t_text) → va_S A s.heap H locs → lv_has ls 3 [(0, .ref (g_t 0)), (2, .int x2)] → J_X11_token_205 t_length t_text k_163 t_reached t_begin t_sort t_value t_word x2 s1 = some res → W p l e rmX11_token s m args below meth c H locs 0 0 Q (F0 m 205 ls [.int s1, .ref (g_t 0)]) := by
  obtain ⟨⟨hx, hb, hml, hown, hts⟩, hK, -⟩ := id C0
  intro t_reached t_begin t_sort t_value t_word x2 s1 H locs ls hP hD hS hl hF
  unfold J_X11_token_205 at hF
  refine va_put (D := D) (ci := 10) (v := .int s1) (ty := .int) (C := RX11) (T := TX11) (N := 30) hx hb hts iw_X11_token_X11 tyX11 tyX11_ok nmX11 hown hK hP hD hS 0 rfl rfl 10 (by decide) (hts _ fl_X11_token_100) (fun _ h9 => h9) rfl (by decide +kernel) rfl rfl (Nat.le_of_ble_eq_true rfl) dX11_token_205 (fun H locs hP hD hS => ?_)
  have hP : va_P D vwCl (w_X11_token K g_t t_raised t_undos t_reached t_length t_begin t_sort s1 t_word t_wrongAt t_badAt t_bad t_read t_pictured t_x t_text) H := hP
  have hD : va_D A (w_X11_token K g_t t_raised t_undos t_reached t_length t_begin t_sort s1 t_word t_wrongAt t_badAt t_bad t_read t_pictured t_x t_text) := hD
  refine lv_aload_n hx hb dX11_token_208 rfl (lv_at hl 0 rfl) ?_
  refine lv_dup hx hb dX11_token_209 rfl ?_
  refine va_get (D := D) (ci := 10) (v := .int t_reached) (C := RX11) (T := TX11) (N := 30) hx hb hts iw_X11_token_X11 hown hK hP 0 rfl rfl 6 (by decide) (hts _ fl_X11_token_80) (fun _ h9 => h9) rfl dX11_token_210 ?_
  refine lv_iconst (v := 1) hx hb dX11_token_213 (by decide) ?_
  refine lv_iadd hx hb dX11_token_214 ?_
  refine va_put (D := D) (ci := 10) (v := .int (t_reached + (1 : Int32))) (ty := .int) (C := RX11) (T := TX11) (N := 30) hx hb hts iw_X11_token_X11 tyX11 tyX11_ok nmX11 hown hK hP hD hS 0 rfl rfl 6 (by decide) (hts _ fl_X11_token_80) (fun _ h9 => h9) rfl (by decide +kernel) rfl rfl (Nat.le_of_ble_eq_true rfl) dX11_token_215 (fun H locs hP hD hS => ?_)
  have hP : va_P D vwCl (w_X11_token K g_t t_raised t_undos (t_reached + (1 : Int32)) t_length t_begin t_sort s1 t_word t_wrongAt t_badAt t_bad t_read t_pictured t_x t_text) H := hP
  have hD : va_D A (w_X11_token K g_t t_raised t_undos (t_reached + (1 : Int32)) t_length t_begin t_sort s1 t_word t_wrongAt t_badAt t_bad t_read t_pictured t_x t_text) := hD
  refine lv_iinc (v := (x2 + (1 : Int32))) (lv' := [(2, .int (x2 + (1 : Int32))), (0, .ref (g_t 0))]) hx hb dX11_token_218 hl (k := 1) rfl (congrArg (fun z => x2 + z) (by decide)) (by decide) rfl (fun ls hl => ?_)
  refine lv_goto (tgt := 163) hx hb dX11_token_221 (by decide) ?_
  exact HK_163 (t_reached + (1 : Int32)) t_begin t_sort s1 t_word (x2 + (1 : Int32)) H locs ls hP hD hS (lv_sub hl [1, 0] rfl) hF
def L_X11_token_163 (t_length : Int32) (t_text : Nat → Int32) : Nat → Int32 → Int32 → Int32 → Int32 → Int64 → Int32 → Option (Int32 × Int32 × Int32 × Int32 × Int64)
  | 0, _, _, _, _, _, _ => none
  | n_ + 1, t_reached, t_begin, t_sort, t_value, t_word, x2 =>
    (F_X11_see t_reached t_length t_text).bind fun r_1 => ((F_X11_in r_1 (48 : Int32) (57 : Int32)).bind fun r_3 => (if r_3 = (0 : Int32) then (J_X11_token_224 t_length t_text t_reached t_begin t_sort t_value t_word x2) else (if (4 : Int32) ≤ x2 then (J_X11_token_205 t_length t_text (L_X11_token_163 t_length t_text n_) t_reached t_begin t_sort t_value t_word x2 t_value) else ((F_X11_see t_reached t_length t_text).bind fun r_7 => (J_X11_token_205 t_length t_text (L_X11_token_163 t_length t_text n_) t_reached t_begin t_sort t_value t_word x2 ((((10 : Int32) * t_value) + r_7) - (48 : Int32)))))))
set_option maxHeartbeats 4000000 in
set_option maxRecDepth 100000 in
theorem w_X11_token_163 {p : Program} {l : Launch} {e : Env} {s : State} {m : MethodId} {args : Array Value} {below : List Frame} {meth : Method} {c : Code} {D : va_G} {K : Nat → ClassId} {A : Nat → Prop} {Q : State → Prop} (C0 : cx_ p s m args c cX11_token 3 RX11 wsX11_token D K A) {g_t : Nat → Nat} {t_raised : Int32} {t_undos : Int32} {t_length : Int32} {t_wrongAt : Int32} {t_badAt : Int32} {t_bad : Int32} {t_read : Int32} {t_pictured : Int32} {t_x : Int32} {t_text : Nat → Int32} {res : Int32 × Int32 × Int32 × Int32 × Int64} (HR : ∀ (pc : Nat) (H : Heap) (locs : List Loc) (ls : Array Slot), decode cX11_token pc = .ok (.return_, 1) → va_P D vwCl (w_X11_token K g_t t_raised t_undos res.1 t_length res.2.1 res.2.2.1 res.2.2.2.1 res.2.2.2.2 t_wrongAt t_badAt t_bad t_read t_pictured t_x t_text) H → va_D A (w_X11_token K g_t t_raised t_undos res.1 t_length res.2.1 res.2.2.1 res.2.2.2.1 res.2.2.2.2 t_wrongAt t_badAt t_bad t_read t_pictured t_x t_text) → va_S A s.heap H locs → W p l e rmX11_token s m args below meth c H locs 0 0 Q (F0 m pc ls []))  :
    ∀ (n_ : Nat) (t_reached : Int32) (t_begin : Int32) (t_sort : Int32) (t_value : Int32) (t_word : Int64) (x2 : Int32) (H : Heap) (locs : List Loc) (ls : Array Slot), va_P D vwCl (w_X11_token K g_t t_raised t_undos t_reached t_length t_begin t_sort t_value t_word t_wrongAt t_badAt t_bad t_read t_pictured t_x t_text) H → va_D A (w_X11_token K g_t t_raised t_undos t_reached t_length t_begin t_sort t_value t_word t_wrongAt t_badAt t_bad t_read t_pictured t_x t_text) → va_S A s.heap H locs → lv_has ls 3 [(0, .ref (g_t 0)), (2, .int x2)] → L_X11_token_163 t_length t_text n_ t_reached t_begin t_sort t_value t_word x2 = some res → W p l e rmX11_token s m args below meth c H locs 0 0 Q (F0 m 163 ls []) := by
  obtain ⟨⟨hx, hb, hml, hown, hts⟩, hK, -⟩ := id C0
  intro n_
  induction n_ with
  | zero =>
    intro t_reached t_begin t_sort t_value t_word x2 H locs ls hP hD hS hl hF
    exact no_s (show (none : Option (Int32 × Int32 × Int32 × Int32 × Int64)) = some res from hF)
  | succ n_ ih =>
    intro t_reached t_begin t_sort t_value t_word x2 H locs ls hP hD hS hl hF
    rw [L_X11_token_163] at hF
    refine lv_aload_n hx hb dX11_token_163 rfl (lv_at hl 0 rfl) ?_
    obtain ⟨r_1, hc_2, hF⟩ := bn_some hF
    refine xc_i (wn := (w_X11_token K g_t t_raised t_undos t_reached t_length t_begin t_sort t_value t_word t_wrongAt t_badAt t_bad t_read t_pictured t_x t_text)) hP hD hS C0.2.2.1 [0, 1] [] [0, 1] rfl rfl (by decide) (by decide) rfl (by decide) (va_runV (As := []) (rest := []) C0.1 (c_X11_see l D K g_t t_raised t_undos t_reached t_length t_begin t_sort t_value t_word t_wrongAt t_badAt t_bad t_read t_pictured t_x t_text r_1 hc_2 H.size) (cwV 0 hts gX11_token_X11_see rfl rfl rfl (by decide +kernel) ⟨Nat.le_of_ble_eq_true rfl, Nat.le_of_ble_eq_true rfl⟩) (xp_V C0.2 hP hD hS [0, 1] rfl (by decide) 10 0 rfl rfl rfl) rfl rfl hl.1 rfl (lv_room (Nat.le_of_ble_eq_true rfl)) dX11_token_164 ⟨Nat.le_of_ble_eq_true rfl, Nat.le_of_ble_eq_true rfl⟩) (fun H locs hP hD hS => ?_)
    refine lv_bipush (v := 48) hx hb dX11_token_167 (by decide) ?_
    refine lv_bipush (v := 57) hx hb dX11_token_169 (by decide) ?_
    obtain ⟨r_3, hc_4, hF⟩ := bn_some hF
    refine xc_i (wn := (w_X11_token K g_t t_raised t_undos t_reached t_length t_begin t_sort t_value t_word t_wrongAt t_badAt t_bad t_read t_pictured t_x t_text)) hP hD hS C0.2.2.1 [] [0, 1] [0, 1] rfl rfl (by decide) (by decide) rfl (by decide) (va_runS (As := [.int r_1, .int (48 : Int32), .int (57 : Int32)]) (rest := []) C0.1 (c_X11_in l D K r_1 (48 : Int32) (57 : Int32) r_3 hc_4 H.size) (va_cwS 3 hts gX11_token_X11_in rfl rfl rfl (by decide +kernel) ⟨Nat.le_of_ble_eq_true rfl, Nat.le_of_ble_eq_true rfl⟩) (xp_S C0.2 hP hD hS [] rfl (by decide)) rfl rfl hl.1 rfl (lv_room (Nat.le_of_ble_eq_true rfl)) dX11_token_171 ⟨Nat.le_of_ble_eq_true rfl, Nat.le_of_ble_eq_true rfl⟩) (fun H locs hP hD hS => ?_)
    refine lv_if_eq (tgt := 224) hx hb dX11_token_174 (by decide) (fun c_5 => ?_) (fun c_5 => ?_)
    · have hF := it_pos c_5 hF
      exact w_X11_token_224 C0 HR t_reached t_begin t_sort t_value t_word x2 H locs ls hP hD hS (lv_sub hl [0, 1] rfl) hF
    · have hF := it_neg c_5 hF
      refine lv_aload_n hx hb dX11_token_177 rfl (lv_at hl 0 rfl) ?_
      refine lv_iload_n hx hb dX11_token_178 rfl (lv_at hl 1 rfl) ?_
      refine lv_iconst (v := 4) hx hb dX11_token_179 (by decide) ?_
      refine lv_icmp_ge (tgt := 201) hx hb dX11_token_180 (by decide) (fun c_6 => ?_) (fun c_6 => ?_)
      · have hF := it_pos c_6 hF
        refine lv_aload_n hx hb dX11_token_201 rfl (lv_at hl 0 rfl) ?_
        refine va_get (D := D) (ci := 10) (v := .int t_value) (C := RX11) (T := TX11) (N := 30) hx hb hts iw_X11_token_X11 hown hK hP 0 rfl rfl 10 (by decide) (hts _ fl_X11_token_100) (fun _ h9 => h9) rfl dX11_token_202 ?_
        exact w_X11_token_205 C0 HR ih t_reached t_begin t_sort t_value t_word x2 t_value H locs ls hP hD hS (lv_sub hl [0, 1] rfl) hF
      · have hF := it_neg c_6 hF
        refine lv_bipush (v := 10) hx hb dX11_token_183 (by decide) ?_
        refine lv_aload_n hx hb dX11_token_185 rfl (lv_at hl 0 rfl) ?_
        refine va_get (D := D) (ci := 10) (v := .int t_value) (C := RX11) (T := TX11) (N := 30) hx hb hts iw_X11_token_X11 hown hK hP 0 rfl rfl 10 (by decide) (hts _ fl_X11_token_100) (fun _ h9 => h9) rfl dX11_token_186 ?_
        refine lv_imul hx hb dX11_token_189 ?_
        refine lv_aload_n hx hb dX11_token_190 rfl (lv_at hl 0 rfl) ?_
        obtain ⟨r_7, hc_8, hF⟩ := bn_some hF
        refine xc_i (wn := (w_X11_token K g_t t_raised t_undos t_reached t_length t_begin t_sort t_value t_word t_wrongAt t_badAt t_bad t_read t_pictured t_x t_text)) hP hD hS C0.2.2.1 [0, 1] [] [0, 1] rfl rfl (by decide) (by decide) rfl (by decide) (va_runV (As := []) (rest := [.int ((10 : Int32) * t_value), .ref (g_t 0)]) C0.1 (c_X11_see l D K g_t t_raised t_undos t_reached t_length t_begin t_sort t_value t_word t_wrongAt t_badAt t_bad t_read t_pictured t_x t_text r_7 hc_8 H.size) (cwV 0 hts gX11_token_X11_see rfl rfl rfl (by decide +kernel) ⟨Nat.le_of_ble_eq_true rfl, Nat.le_of_ble_eq_true rfl⟩) (xp_V C0.2 hP hD hS [0, 1] rfl (by decide) 10 0 rfl rfl rfl) rfl rfl hl.1 rfl (lv_room (Nat.le_of_ble_eq_true rfl)) dX11_token_191 ⟨Nat.le_of_ble_eq_true rfl, Nat.le_of_ble_eq_true rfl⟩) (fun H locs hP hD hS => ?_)
        refine lv_iadd hx hb dX11_token_194 ?_
        refine lv_bipush (v := 48) hx hb dX11_token_195 (by decide) ?_
        refine lv_isub hx hb dX11_token_197 ?_
        refine lv_goto (tgt := 205) hx hb dX11_token_198 (by decide) ?_
        exact w_X11_token_205 C0 HR ih t_reached t_begin t_sort t_value t_word x2 ((((10 : Int32) * t_value) + r_7) - (48 : Int32)) H locs ls hP hD hS (lv_sub hl [0, 1] rfl) hF
def J_X11_token_263 (t_length : Int32) (t_text : Nat → Int32) (t_reached : Int32) (t_begin : Int32) (t_sort : Int32) (t_value : Int32) (t_word : Int64) (s1 : Int32) : Option (Int32 × Int32 × Int32 × Int32 × Int64) :=
  some (t_reached, t_begin, s1, t_value, t_word)
set_option maxHeartbeats 4000000 in
set_option maxRecDepth 100000 in
theorem w_X11_token_263 {p : Program} {l : Launch} {e : Env} {s : State} {m : MethodId} {args : Array Value} {below : List Frame} {meth : Method} {c : Code} {D : va_G} {K : Nat → ClassId} {A : Nat → Prop} {Q : State → Prop} (C0 : cx_ p s m args c cX11_token 3 RX11 wsX11_token D K A) {g_t : Nat → Nat} {t_raised : Int32} {t_undos : Int32} {t_length : Int32} {t_wrongAt : Int32} {t_badAt : Int32} {t_bad : Int32} {t_read : Int32} {t_pictured : Int32} {t_x : Int32} {t_text : Nat → Int32} {res : Int32 × Int32 × Int32 × Int32 × Int64} (HR : ∀ (pc : Nat) (H : Heap) (locs : List Loc) (ls : Array Slot), decode cX11_token pc = .ok (.return_, 1) → va_P D vwCl (w_X11_token K g_t t_raised t_undos res.1 t_length res.2.1 res.2.2.1 res.2.2.2.1 res.2.2.2.2 t_wrongAt t_badAt t_bad t_read t_pictured t_x t_text) H → va_D A (w_X11_token K g_t t_raised t_undos res.1 t_length res.2.1 res.2.2.1 res.2.2.2.1 res.2.2.2.2 t_wrongAt t_badAt t_bad t_read t_pictured t_x t_text) → va_S A s.heap H locs → W p l e rmX11_token s m args below meth c H locs 0 0 Q (F0 m pc ls []))  :
    ∀ (t_reached : Int32) (t_begin : Int32) (t_sort : Int32) (t_value : Int32) (t_word : Int64) (s1 : Int32) (H : Heap) (locs : List Loc) (ls : Array Slot), va_P D vwCl (w_X11_token K g_t t_raised t_undos t_reached t_length t_begin t_sort t_value t_word t_wrongAt t_badAt t_bad t_read t_pictured t_x t_text) H → va_D A (w_X11_token K g_t t_raised t_undos t_reached t_length t_begin t_sort t_value t_word t_wrongAt t_badAt t_bad t_read t_pictured t_x t_text) → va_S A s.heap H locs → lv_has ls 3 [] → J_X11_token_263 t_length t_text t_reached t_begin t_sort t_value t_word s1 = some res → W p l e rmX11_token s m args below meth c H locs 0 0 Q (F0 m 263 ls [.int s1, .ref (g_t 0)]) := by
  obtain ⟨⟨hx, hb, hml, hown, hts⟩, hK, -⟩ := id C0
  intro t_reached t_begin t_sort t_value t_word s1 H locs ls hP hD hS hl hF
  unfold J_X11_token_263 at hF
  refine va_put (D := D) (ci := 10) (v := .int s1) (ty := .int) (C := RX11) (T := TX11) (N := 30) hx hb hts iw_X11_token_X11 tyX11 tyX11_ok nmX11 hown hK hP hD hS 0 rfl rfl 9 (by decide) (hts _ fl_X11_token_97) (fun _ h9 => h9) rfl (by decide +kernel) rfl rfl (Nat.le_of_ble_eq_true rfl) dX11_token_263 (fun H locs hP hD hS => ?_)
  have hP : va_P D vwCl (w_X11_token K g_t t_raised t_undos t_reached t_length t_begin s1 t_value t_word t_wrongAt t_badAt t_bad t_read t_pictured t_x t_text) H := hP
  have hD : va_D A (w_X11_token K g_t t_raised t_undos t_reached t_length t_begin s1 t_value t_word t_wrongAt t_badAt t_bad t_read t_pictured t_x t_text) := hD
  obtain rfl := Option.some.inj hF
  exact HR 266 H locs ls dX11_token_266 hP hD hS
def J_X11_token_31 (t_length : Int32) (t_text : Nat → Int32) (t_reached : Int32) (t_begin : Int32) (t_sort : Int32) (t_value : Int32) (t_word : Int64) : Option (Int32 × Int32 × Int32 × Int32 × Int64) :=
  (F_X11_see t_reached t_length t_text).bind fun r_1 => (if (0 : Int32) ≤ r_1 then ((F_X11_in r_1 (97 : Int32) (122 : Int32)).bind fun r_4 => (if r_4 = (0 : Int32) then ((F_X11_in r_1 (48 : Int32) (57 : Int32)).bind fun r_7 => (if r_7 = (0 : Int32) then (if r_1 = (59 : Int32) then (J_X11_token_263 t_length t_text (t_reached + (1 : Int32)) t_reached t_sort t_value (0 : Int64) (4 : Int32)) else (J_X11_token_263 t_length t_text (t_reached + (1 : Int32)) t_reached t_sort t_value (0 : Int64) (1 : Int32))) else (L_X11_token_163 t_length t_text fu_ t_reached t_reached t_sort (0 : Int32) (0 : Int64) (0 : Int32)))) else (L_X11_token_74 t_length t_text fu_ t_reached t_reached t_sort t_value (0 : Int64) (0 : Int32)))) else (some (t_reached, t_reached, (0 : Int32), t_value, (0 : Int64))))
set_option maxHeartbeats 4000000 in
set_option maxRecDepth 100000 in
theorem w_X11_token_31 {p : Program} {l : Launch} {e : Env} {s : State} {m : MethodId} {args : Array Value} {below : List Frame} {meth : Method} {c : Code} {D : va_G} {K : Nat → ClassId} {A : Nat → Prop} {Q : State → Prop} (C0 : cx_ p s m args c cX11_token 3 RX11 wsX11_token D K A) {g_t : Nat → Nat} {t_raised : Int32} {t_undos : Int32} {t_length : Int32} {t_wrongAt : Int32} {t_badAt : Int32} {t_bad : Int32} {t_read : Int32} {t_pictured : Int32} {t_x : Int32} {t_text : Nat → Int32} {res : Int32 × Int32 × Int32 × Int32 × Int64} (HR : ∀ (pc : Nat) (H : Heap) (locs : List Loc) (ls : Array Slot), decode cX11_token pc = .ok (.return_, 1) → va_P D vwCl (w_X11_token K g_t t_raised t_undos res.1 t_length res.2.1 res.2.2.1 res.2.2.2.1 res.2.2.2.2 t_wrongAt t_badAt t_bad t_read t_pictured t_x t_text) H → va_D A (w_X11_token K g_t t_raised t_undos res.1 t_length res.2.1 res.2.2.1 res.2.2.2.1 res.2.2.2.2 t_wrongAt t_badAt t_bad t_read t_pictured t_x t_text) → va_S A s.heap H locs → W p l e rmX11_token s m args below meth c H locs 0 0 Q (F0 m pc ls []))  :
    ∀ (t_reached : Int32) (t_begin : Int32) (t_sort : Int32) (t_value : Int32) (t_word : Int64) (H : Heap) (locs : List Loc) (ls : Array Slot), va_P D vwCl (w_X11_token K g_t t_raised t_undos t_reached t_length t_begin t_sort t_value t_word t_wrongAt t_badAt t_bad t_read t_pictured t_x t_text) H → va_D A (w_X11_token K g_t t_raised t_undos t_reached t_length t_begin t_sort t_value t_word t_wrongAt t_badAt t_bad t_read t_pictured t_x t_text) → va_S A s.heap H locs → lv_has ls 3 [(0, .ref (g_t 0))] → J_X11_token_31 t_length t_text t_reached t_begin t_sort t_value t_word = some res → W p l e rmX11_token s m args below meth c H locs 0 0 Q (F0 m 31 ls []) := by
  obtain ⟨⟨hx, hb, hml, hown, hts⟩, hK, -⟩ := id C0
  intro t_reached t_begin t_sort t_value t_word H locs ls hP hD hS hl hF
  unfold J_X11_token_31 at hF
  refine lv_aload_n hx hb dX11_token_31 rfl (lv_at hl 0 rfl) ?_
  refine lv_aload_n hx hb dX11_token_32 rfl (lv_at hl 0 rfl) ?_
  refine va_get (D := D) (ci := 10) (v := .int t_reached) (C := RX11) (T := TX11) (N := 30) hx hb hts iw_X11_token_X11 hown hK hP 0 rfl rfl 6 (by decide) (hts _ fl_X11_token_80) (fun _ h9 => h9) rfl dX11_token_33 ?_
  refine va_put (D := D) (ci := 10) (v := .int t_reached) (ty := .int) (C := RX11) (T := TX11) (N := 30) hx hb hts iw_X11_token_X11 tyX11 tyX11_ok nmX11 hown hK hP hD hS 0 rfl rfl 8 (by decide) (hts _ fl_X11_token_90) (fun _ h9 => h9) rfl (by decide +kernel) rfl rfl (Nat.le_of_ble_eq_true rfl) dX11_token_36 (fun H locs hP hD hS => ?_)
  have hP : va_P D vwCl (w_X11_token K g_t t_raised t_undos t_reached t_length t_reached t_sort t_value t_word t_wrongAt t_badAt t_bad t_read t_pictured t_x t_text) H := hP
  have hD : va_D A (w_X11_token K g_t t_raised t_undos t_reached t_length t_reached t_sort t_value t_word t_wrongAt t_badAt t_bad t_read t_pictured t_x t_text) := hD
  refine lv_aload_n hx hb dX11_token_39 rfl (lv_at hl 0 rfl) ?_
  obtain ⟨r_1, hc_2, hF⟩ := bn_some hF
  refine xc_i (wn := (w_X11_token K g_t t_raised t_undos t_reached t_length t_reached t_sort t_value t_word t_wrongAt t_badAt t_bad t_read t_pictured t_x t_text)) hP hD hS C0.2.2.1 [0, 1] [] [0, 1] rfl rfl (by decide) (by decide) rfl (by decide) (va_runV (As := []) (rest := []) C0.1 (c_X11_see l D K g_t t_raised t_undos t_reached t_length t_reached t_sort t_value t_word t_wrongAt t_badAt t_bad t_read t_pictured t_x t_text r_1 hc_2 H.size) (cwV 0 hts gX11_token_X11_see rfl rfl rfl (by decide +kernel) ⟨Nat.le_of_ble_eq_true rfl, Nat.le_of_ble_eq_true rfl⟩) (xp_V C0.2 hP hD hS [0, 1] rfl (by decide) 10 0 rfl rfl rfl) rfl rfl hl.1 rfl (lv_room (Nat.le_of_ble_eq_true rfl)) dX11_token_40 ⟨Nat.le_of_ble_eq_true rfl, Nat.le_of_ble_eq_true rfl⟩) (fun H locs hP hD hS => ?_)
  refine lv_istore_n (lv' := [(1, .int r_1), (0, .ref (g_t 0))]) hx hb dX11_token_43 rfl hl (by decide) rfl (fun ls hl => ?_)
  refine lv_aload_n hx hb dX11_token_44 rfl (lv_at hl 1 rfl) ?_
  refine lv_lconst (v := 0) hx hb dX11_token_45 (by decide) ?_
  refine va_put (D := D) (ci := 10) (v := .long (0 : Int64)) (ty := .long) (C := RX11) (T := TX11) (N := 30) hx hb hts iw_X11_token_X11 tyX11 tyX11_ok nmX11 hown hK hP hD hS 0 rfl rfl 11 (by decide) (hts _ fl_X11_token_93) (fun _ h9 => h9) rfl (by decide +kernel) rfl rfl (Nat.le_of_ble_eq_true rfl) dX11_token_46 (fun H locs hP hD hS => ?_)
  have hP : va_P D vwCl (w_X11_token K g_t t_raised t_undos t_reached t_length t_reached t_sort t_value (0 : Int64) t_wrongAt t_badAt t_bad t_read t_pictured t_x t_text) H := hP
  have hD : va_D A (w_X11_token K g_t t_raised t_undos t_reached t_length t_reached t_sort t_value (0 : Int64) t_wrongAt t_badAt t_bad t_read t_pictured t_x t_text) := hD
  refine lv_iconst (v := 0) hx hb dX11_token_49 (by decide) ?_
  refine lv_istore_n (lv' := [(2, .int (0 : Int32)), (1, .int r_1), (0, .ref (g_t 0))]) hx hb dX11_token_50 rfl hl (by decide) rfl (fun ls hl => ?_)
  refine lv_iload_n hx hb dX11_token_51 rfl (lv_at hl 1 rfl) ?_
  refine lv_if_ge (tgt := 63) hx hb dX11_token_52 (by decide) (fun c_3 => ?_) (fun c_3 => ?_)
  · have hF := it_pos c_3 hF
    refine lv_iload_n hx hb dX11_token_63 rfl (lv_at hl 1 rfl) ?_
    refine lv_bipush (v := 97) hx hb dX11_token_64 (by decide) ?_
    refine lv_bipush (v := 122) hx hb dX11_token_66 (by decide) ?_
    obtain ⟨r_4, hc_5, hF⟩ := bn_some hF
    refine xc_i (wn := (w_X11_token K g_t t_raised t_undos t_reached t_length t_reached t_sort t_value (0 : Int64) t_wrongAt t_badAt t_bad t_read t_pictured t_x t_text)) hP hD hS C0.2.2.1 [] [0, 1] [0, 1] rfl rfl (by decide) (by decide) rfl (by decide) (va_runS (As := [.int r_1, .int (97 : Int32), .int (122 : Int32)]) (rest := []) C0.1 (c_X11_in l D K r_1 (97 : Int32) (122 : Int32) r_4 hc_5 H.size) (va_cwS 3 hts gX11_token_X11_in rfl rfl rfl (by decide +kernel) ⟨Nat.le_of_ble_eq_true rfl, Nat.le_of_ble_eq_true rfl⟩) (xp_S C0.2 hP hD hS [] rfl (by decide)) rfl rfl hl.1 rfl (lv_room (Nat.le_of_ble_eq_true rfl)) dX11_token_68 ⟨Nat.le_of_ble_eq_true rfl, Nat.le_of_ble_eq_true rfl⟩) (fun H locs hP hD hS => ?_)
    refine lv_if_eq (tgt := 147) hx hb dX11_token_71 (by decide) (fun c_6 => ?_) (fun c_6 => ?_)
    · have hF := it_pos c_6 hF
      refine lv_iload_n hx hb dX11_token_147 rfl (lv_at hl 1 rfl) ?_
      refine lv_bipush (v := 48) hx hb dX11_token_148 (by decide) ?_
      refine lv_bipush (v := 57) hx hb dX11_token_150 (by decide) ?_
      obtain ⟨r_7, hc_8, hF⟩ := bn_some hF
      refine xc_i (wn := (w_X11_token K g_t t_raised t_undos t_reached t_length t_reached t_sort t_value (0 : Int64) t_wrongAt t_badAt t_bad t_read t_pictured t_x t_text)) hP hD hS C0.2.2.1 [] [0, 1] [0, 1] rfl rfl (by decide) (by decide) rfl (by decide) (va_runS (As := [.int r_1, .int (48 : Int32), .int (57 : Int32)]) (rest := []) C0.1 (c_X11_in l D K r_1 (48 : Int32) (57 : Int32) r_7 hc_8 H.size) (va_cwS 3 hts gX11_token_X11_in rfl rfl rfl (by decide +kernel) ⟨Nat.le_of_ble_eq_true rfl, Nat.le_of_ble_eq_true rfl⟩) (xp_S C0.2 hP hD hS [] rfl (by decide)) rfl rfl hl.1 rfl (lv_room (Nat.le_of_ble_eq_true rfl)) dX11_token_152 ⟨Nat.le_of_ble_eq_true rfl, Nat.le_of_ble_eq_true rfl⟩) (fun H locs hP hD hS => ?_)
      refine lv_if_eq (tgt := 241) hx hb dX11_token_155 (by decide) (fun c_9 => ?_) (fun c_9 => ?_)
      · have hF := it_pos c_9 hF
        refine lv_aload_n hx hb dX11_token_241 rfl (lv_at hl 2 rfl) ?_
        refine lv_dup hx hb dX11_token_242 rfl ?_
        refine va_get (D := D) (ci := 10) (v := .int t_reached) (C := RX11) (T := TX11) (N := 30) hx hb hts iw_X11_token_X11 hown hK hP 0 rfl rfl 6 (by decide) (hts _ fl_X11_token_80) (fun _ h9 => h9) rfl dX11_token_243 ?_
        refine lv_iconst (v := 1) hx hb dX11_token_246 (by decide) ?_
        refine lv_iadd hx hb dX11_token_247 ?_
        refine va_put (D := D) (ci := 10) (v := .int (t_reached + (1 : Int32))) (ty := .int) (C := RX11) (T := TX11) (N := 30) hx hb hts iw_X11_token_X11 tyX11 tyX11_ok nmX11 hown hK hP hD hS 0 rfl rfl 6 (by decide) (hts _ fl_X11_token_80) (fun _ h9 => h9) rfl (by decide +kernel) rfl rfl (Nat.le_of_ble_eq_true rfl) dX11_token_248 (fun H locs hP hD hS => ?_)
        have hP : va_P D vwCl (w_X11_token K g_t t_raised t_undos (t_reached + (1 : Int32)) t_length t_reached t_sort t_value (0 : Int64) t_wrongAt t_badAt t_bad t_read t_pictured t_x t_text) H := hP
        have hD : va_D A (w_X11_token K g_t t_raised t_undos (t_reached + (1 : Int32)) t_length t_reached t_sort t_value (0 : Int64) t_wrongAt t_badAt t_bad t_read t_pictured t_x t_text) := hD
        refine lv_aload_n hx hb dX11_token_251 rfl (lv_at hl 2 rfl) ?_
        refine lv_iload_n hx hb dX11_token_252 rfl (lv_at hl 1 rfl) ?_
        refine lv_bipush (v := 59) hx hb dX11_token_253 (by decide) ?_
        refine lv_icmp_ne (tgt := 262) hx hb dX11_token_255 (by decide) (fun c_10 => ?_) (fun c_10 => ?_)
        · have hF := it_neg c_10 hF
          refine lv_iconst (v := 1) hx hb dX11_token_262 (by decide) ?_
          exact w_X11_token_263 C0 HR (t_reached + (1 : Int32)) t_reached t_sort t_value (0 : Int64) (1 : Int32) H locs ls hP hD hS (lv_sub hl [] rfl) hF
        · have hF := it_pos c_10 hF
          refine lv_iconst (v := 4) hx hb dX11_token_258 (by decide) ?_
          refine lv_goto (tgt := 263) hx hb dX11_token_259 (by decide) ?_
          exact w_X11_token_263 C0 HR (t_reached + (1 : Int32)) t_reached t_sort t_value (0 : Int64) (4 : Int32) H locs ls hP hD hS (lv_sub hl [] rfl) hF
      · have hF := it_neg c_9 hF
        refine lv_aload_n hx hb dX11_token_158 rfl (lv_at hl 2 rfl) ?_
        refine lv_iconst (v := 0) hx hb dX11_token_159 (by decide) ?_
        refine va_put (D := D) (ci := 10) (v := .int (0 : Int32)) (ty := .int) (C := RX11) (T := TX11) (N := 30) hx hb hts iw_X11_token_X11 tyX11 tyX11_ok nmX11 hown hK hP hD hS 0 rfl rfl 10 (by decide) (hts _ fl_X11_token_100) (fun _ h9 => h9) rfl (by decide +kernel) rfl rfl (Nat.le_of_ble_eq_true rfl) dX11_token_160 (fun H locs hP hD hS => ?_)
        have hP : va_P D vwCl (w_X11_token K g_t t_raised t_undos t_reached t_length t_reached t_sort (0 : Int32) (0 : Int64) t_wrongAt t_badAt t_bad t_read t_pictured t_x t_text) H := hP
        have hD : va_D A (w_X11_token K g_t t_raised t_undos t_reached t_length t_reached t_sort (0 : Int32) (0 : Int64) t_wrongAt t_badAt t_bad t_read t_pictured t_x t_text) := hD
        exact w_X11_token_163 C0 HR fu_ t_reached t_reached t_sort (0 : Int32) (0 : Int64) (0 : Int32) H locs ls hP hD hS (lv_sub hl [2, 0] rfl) hF
    · have hF := it_neg c_6 hF
      exact w_X11_token_74 C0 HR fu_ t_reached t_reached t_sort t_value (0 : Int64) (0 : Int32) H locs ls hP hD hS (lv_sub hl [2, 0] rfl) hF
  · have hF := it_neg c_3 hF
    refine lv_aload_n hx hb dX11_token_55 rfl (lv_at hl 2 rfl) ?_
    refine lv_iconst (v := 0) hx hb dX11_token_56 (by decide) ?_
    refine va_put (D := D) (ci := 10) (v := .int (0 : Int32)) (ty := .int) (C := RX11) (T := TX11) (N := 30) hx hb hts iw_X11_token_X11 tyX11 tyX11_ok nmX11 hown hK hP hD hS 0 rfl rfl 9 (by decide) (hts _ fl_X11_token_97) (fun _ h9 => h9) rfl (by decide +kernel) rfl rfl (Nat.le_of_ble_eq_true rfl) dX11_token_57 (fun H locs hP hD hS => ?_)
    have hP : va_P D vwCl (w_X11_token K g_t t_raised t_undos t_reached t_length t_reached (0 : Int32) t_value (0 : Int64) t_wrongAt t_badAt t_bad t_read t_pictured t_x t_text) H := hP
    have hD : va_D A (w_X11_token K g_t t_raised t_undos t_reached t_length t_reached (0 : Int32) t_value (0 : Int64) t_wrongAt t_badAt t_bad t_read t_pictured t_x t_text) := hD
    refine lv_goto (tgt := 266) hx hb dX11_token_60 (by decide) ?_
    obtain rfl := Option.some.inj hF
    exact HR 266 H locs ls dX11_token_266 hP hD hS
def L_X11_token_0 (t_length : Int32) (t_text : Nat → Int32) : Nat → Int32 → Int32 → Int32 → Int32 → Int64 → Option (Int32 × Int32 × Int32 × Int32 × Int64)
  | 0, _, _, _, _, _ => none
  | n_ + 1, t_reached, t_begin, t_sort, t_value, t_word =>
    (F_X11_see t_reached t_length t_text).bind fun r_1 => (if r_1 = (10 : Int32) then (J_X11_token_18 t_length t_text (L_X11_token_0 t_length t_text n_) t_reached t_begin t_sort t_value t_word) else ((F_X11_see t_reached t_length t_text).bind fun r_4 => (if r_4 = (32 : Int32) then (J_X11_token_18 t_length t_text (L_X11_token_0 t_length t_text n_) t_reached t_begin t_sort t_value t_word) else (J_X11_token_31 t_length t_text t_reached t_begin t_sort t_value t_word))))
set_option maxHeartbeats 4000000 in
set_option maxRecDepth 100000 in
theorem w_X11_token_0 {p : Program} {l : Launch} {e : Env} {s : State} {m : MethodId} {args : Array Value} {below : List Frame} {meth : Method} {c : Code} {D : va_G} {K : Nat → ClassId} {A : Nat → Prop} {Q : State → Prop} (C0 : cx_ p s m args c cX11_token 3 RX11 wsX11_token D K A) {g_t : Nat → Nat} {t_raised : Int32} {t_undos : Int32} {t_length : Int32} {t_wrongAt : Int32} {t_badAt : Int32} {t_bad : Int32} {t_read : Int32} {t_pictured : Int32} {t_x : Int32} {t_text : Nat → Int32} {res : Int32 × Int32 × Int32 × Int32 × Int64} (HR : ∀ (pc : Nat) (H : Heap) (locs : List Loc) (ls : Array Slot), decode cX11_token pc = .ok (.return_, 1) → va_P D vwCl (w_X11_token K g_t t_raised t_undos res.1 t_length res.2.1 res.2.2.1 res.2.2.2.1 res.2.2.2.2 t_wrongAt t_badAt t_bad t_read t_pictured t_x t_text) H → va_D A (w_X11_token K g_t t_raised t_undos res.1 t_length res.2.1 res.2.2.1 res.2.2.2.1 res.2.2.2.2 t_wrongAt t_badAt t_bad t_read t_pictured t_x t_text) → va_S A s.heap H locs → W p l e rmX11_token s m args below meth c H locs 0 0 Q (F0 m pc ls []))  :
    ∀ (n_ : Nat) (t_reached : Int32) (t_begin : Int32) (t_sort : Int32) (t_value : Int32) (t_word : Int64) (H : Heap) (locs : List Loc) (ls : Array Slot), va_P D vwCl (w_X11_token K g_t t_raised t_undos t_reached t_length t_begin t_sort t_value t_word t_wrongAt t_badAt t_bad t_read t_pictured t_x t_text) H → va_D A (w_X11_token K g_t t_raised t_undos t_reached t_length t_begin t_sort t_value t_word t_wrongAt t_badAt t_bad t_read t_pictured t_x t_text) → va_S A s.heap H locs → lv_has ls 3 [(0, .ref (g_t 0))] → L_X11_token_0 t_length t_text n_ t_reached t_begin t_sort t_value t_word = some res → W p l e rmX11_token s m args below meth c H locs 0 0 Q (F0 m 0 ls []) := by
  obtain ⟨⟨hx, hb, hml, hown, hts⟩, hK, -⟩ := id C0
  intro n_
  induction n_ with
  | zero =>
    intro t_reached t_begin t_sort t_value t_word H locs ls hP hD hS hl hF
    exact no_s (show (none : Option (Int32 × Int32 × Int32 × Int32 × Int64)) = some res from hF)
  | succ n_ ih =>
    intro t_reached t_begin t_sort t_value t_word H locs ls hP hD hS hl hF
    rw [L_X11_token_0] at hF
    refine lv_aload_n hx hb dX11_token_0 rfl (lv_at hl 0 rfl) ?_
    obtain ⟨r_1, hc_2, hF⟩ := bn_some hF
    refine xc_i (wn := (w_X11_token K g_t t_raised t_undos t_reached t_length t_begin t_sort t_value t_word t_wrongAt t_badAt t_bad t_read t_pictured t_x t_text)) hP hD hS C0.2.2.1 [0, 1] [] [0, 1] rfl rfl (by decide) (by decide) rfl (by decide) (va_runV (As := []) (rest := []) C0.1 (c_X11_see l D K g_t t_raised t_undos t_reached t_length t_begin t_sort t_value t_word t_wrongAt t_badAt t_bad t_read t_pictured t_x t_text r_1 hc_2 H.size) (cwV 0 hts gX11_token_X11_see rfl rfl rfl (by decide +kernel) ⟨Nat.le_of_ble_eq_true rfl, Nat.le_of_ble_eq_true rfl⟩) (xp_V C0.2 hP hD hS [0, 1] rfl (by decide) 10 0 rfl rfl rfl) rfl rfl hl.1 rfl (lv_room (Nat.le_of_ble_eq_true rfl)) dX11_token_1 ⟨Nat.le_of_ble_eq_true rfl, Nat.le_of_ble_eq_true rfl⟩) (fun H locs hP hD hS => ?_)
    refine lv_bipush (v := 10) hx hb dX11_token_4 (by decide) ?_
    refine lv_icmp_eq (tgt := 18) hx hb dX11_token_6 (by decide) (fun c_3 => ?_) (fun c_3 => ?_)
    · have hF := it_pos c_3 hF
      exact w_X11_token_18 C0 HR ih t_reached t_begin t_sort t_value t_word H locs ls hP hD hS (lv_sub hl [0] rfl) hF
    · have hF := it_neg c_3 hF
      refine lv_aload_n hx hb dX11_token_9 rfl (lv_at hl 0 rfl) ?_
      obtain ⟨r_4, hc_5, hF⟩ := bn_some hF
      refine xc_i (wn := (w_X11_token K g_t t_raised t_undos t_reached t_length t_begin t_sort t_value t_word t_wrongAt t_badAt t_bad t_read t_pictured t_x t_text)) hP hD hS C0.2.2.1 [0, 1] [] [0, 1] rfl rfl (by decide) (by decide) rfl (by decide) (va_runV (As := []) (rest := []) C0.1 (c_X11_see l D K g_t t_raised t_undos t_reached t_length t_begin t_sort t_value t_word t_wrongAt t_badAt t_bad t_read t_pictured t_x t_text r_4 hc_5 H.size) (cwV 0 hts gX11_token_X11_see rfl rfl rfl (by decide +kernel) ⟨Nat.le_of_ble_eq_true rfl, Nat.le_of_ble_eq_true rfl⟩) (xp_V C0.2 hP hD hS [0, 1] rfl (by decide) 10 0 rfl rfl rfl) rfl rfl hl.1 rfl (lv_room (Nat.le_of_ble_eq_true rfl)) dX11_token_10 ⟨Nat.le_of_ble_eq_true rfl, Nat.le_of_ble_eq_true rfl⟩) (fun H locs hP hD hS => ?_)
      refine lv_bipush (v := 32) hx hb dX11_token_13 (by decide) ?_
      refine lv_icmp_ne (tgt := 31) hx hb dX11_token_15 (by decide) (fun c_6 => ?_) (fun c_6 => ?_)
      · have hF := it_neg c_6 hF
        exact w_X11_token_31 C0 HR t_reached t_begin t_sort t_value t_word H locs ls hP hD hS (lv_sub hl [0] rfl) hF
      · have hF := it_pos c_6 hF
        exact w_X11_token_18 C0 HR ih t_reached t_begin t_sort t_value t_word H locs ls hP hD hS (lv_sub hl [0] rfl) hF
def F_X11_token (t_reached : Int32) (t_length : Int32) (t_begin : Int32) (t_sort : Int32) (t_value : Int32) (t_word : Int64) (t_text : Nat → Int32) : Option (Int32 × Int32 × Int32 × Int32 × Int64) :=
  L_X11_token_0 t_length t_text fu_ t_reached t_begin t_sort t_value t_word
set_option maxHeartbeats 4000000 in
set_option maxRecDepth 100000 in
theorem c_X11_token (l : Launch) (D : va_G) (K : Nat → ClassId) (g_t : Nat → Nat) (t_raised : Int32) (t_undos : Int32) (t_reached : Int32) (t_length : Int32) (t_begin : Int32) (t_sort : Int32) (t_value : Int32) (t_word : Int64) (t_wrongAt : Int32) (t_badAt : Int32) (t_bad : Int32) (t_read : Int32) (t_pictured : Int32) (t_x : Int32) (t_text : Nat → Int32) (res : Int32 × Int32 × Int32 × Int32 × Int64) (hF : F_X11_token t_reached t_length t_begin t_sort t_value t_word t_text = some res) :
    Mv_ l yX11_token wsX11_token rmX11_token D K [.ref (g_t 0)] (w_X11_token K g_t t_raised t_undos t_reached t_length t_begin t_sort t_value t_word t_wrongAt t_badAt t_bad t_read t_pictured t_x t_text) (w_X11_token K g_t t_raised t_undos res.1 t_length res.2.1 res.2.2.1 res.2.2.2.1 res.2.2.2.2 t_wrongAt t_badAt t_bad t_read t_pictured t_x t_text) := by
  refine en_v (cc := cX11_token) (maxL := 3) (own := RX11) (by decide) rfl rfl (Nat.le_of_ble_eq_true rfl) ?_
  intro p e s m args below meth c A Q H locs ls C0 hP hD hS hl HR
  obtain ⟨⟨hx, hb, hml, hown, hts⟩, hK, -⟩ := id C0
  have hl : lv_has ls 3 [(0, .ref (g_t 0))] := hl
  unfold F_X11_token at hF
  exact w_X11_token_0 C0 HR fu_ t_reached t_begin t_sort t_value t_word H locs ls hP hD hS (lv_sub hl [0] rfl) hF

/-! StaggerRadarModel.takes(II)Z -/
abbrev rmX11_takes : Room := { frames := 2, cells := 0, slots := 0, locals := 44 }
theorem fl_X11_takes_90 : Cond.fieldLink RX11 90 "StaggerRadarModel" "begin" "I" ∈ wsX11_takes := by decide +kernel
theorem fl_X11_takes_97 : Cond.fieldLink RX11 97 "StaggerRadarModel" "sort" "I" ∈ wsX11_takes := by decide +kernel
theorem fl_X11_takes_100 : Cond.fieldLink RX11 100 "StaggerRadarModel" "value" "I" ∈ wsX11_takes := by decide +kernel
theorem fl_X11_takes_116 : Cond.fieldLink RX11 116 "StaggerRadarModel" "read" "I" ∈ wsX11_takes := by decide +kernel
theorem iw_X11_takes_X11 : ∀ w ∈ u_ws RX11 TX11 30, w ∈ wsX11_takes := by decide +kernel
abbrev w_X11_takes (K : Nat → ClassId) (g_t : Nat → Nat) (t_raised : Int32) (t_undos : Int32) (t_reached : Int32) (t_length : Int32) (t_begin : Int32) (t_sort : Int32) (t_value : Int32) (t_word : Int64) (t_wrongAt : Int32) (t_badAt : Int32) (t_bad : Int32) (t_read : Int32) (t_pictured : Int32) (t_x : Int32) (t_text : Nat → Int32) : va_W := [((g_t 0), .inr (10, [.int t_raised, .ref (g_t 2), .ref (g_t 3), .ref (g_t 4), .ref (g_t 5), .int t_undos, .int t_reached, .int t_length, .int t_begin, .int t_sort, .int t_value, .long t_word, .int t_wrongAt, .int t_badAt, .int t_bad, .ref (g_t 16), .int t_read, .ref (g_t 18), .ref (g_t 19), .ref (g_t 20), .int t_pictured, .ref (g_t 22), .ref (g_t 23), .ref (g_t 24), .ref (g_t 25), .ref (g_t 26), .int t_x, .ref (g_t 28), .ref (g_t 29), .ref (g_t 30)])), ((g_t 3), .inl (K 3, 1600, .inl t_text))]
def J_X11_takes_42 (t_length : Int32) (t_text : Nat → Int32) (t_reached : Int32) (t_begin : Int32) (t_sort : Int32) (t_value : Int32) (t_word : Int64) (t_wrongAt : Int32) (t_badAt : Int32) (t_bad : Int32) (t_read : Int32) : Option (Int32 × Int32 × Int32 × Int32 × Int32 × Int64 × Int32 × Int32 × Int32 × Int32) :=
  (F_X11_token t_reached t_length t_begin t_sort t_value t_word t_text).bind fun r_1 => (some ((1 : Int32), r_1.1, r_1.2.1, r_1.2.2.1, r_1.2.2.2.1, r_1.2.2.2.2, t_wrongAt, t_badAt, t_bad, t_read))
set_option maxHeartbeats 4000000 in
set_option maxRecDepth 100000 in
theorem w_X11_takes_42 {p : Program} {l : Launch} {e : Env} {s : State} {m : MethodId} {args : Array Value} {below : List Frame} {meth : Method} {c : Code} {D : va_G} {K : Nat → ClassId} {A : Nat → Prop} {Q : State → Prop} (C0 : cx_ p s m args c cX11_takes 3 RX11 wsX11_takes D K A) {g_t : Nat → Nat} {t_raised : Int32} {t_undos : Int32} {t_length : Int32} {t_pictured : Int32} {t_x : Int32} {t_text : Nat → Int32} {res : Int32 × Int32 × Int32 × Int32 × Int32 × Int64 × Int32 × Int32 × Int32 × Int32} (HR : ∀ (pc : Nat) (H : Heap) (locs : List Loc) (ls : Array Slot), decode cX11_takes pc = .ok (.ireturn, 1) → narrow .boolean (.int res.1) = .int res.1 → va_P D vwCl (w_X11_takes K g_t t_raised t_undos res.2.1 t_length res.2.2.1 res.2.2.2.1 res.2.2.2.2.1 res.2.2.2.2.2.1 res.2.2.2.2.2.2.1 res.2.2.2.2.2.2.2.1 res.2.2.2.2.2.2.2.2.1 res.2.2.2.2.2.2.2.2.2 t_pictured t_x t_text) H → va_D A (w_X11_takes K g_t t_raised t_undos res.2.1 t_length res.2.2.1 res.2.2.2.1 res.2.2.2.2.1 res.2.2.2.2.2.1 res.2.2.2.2.2.2.1 res.2.2.2.2.2.2.2.1 res.2.2.2.2.2.2.2.2.1 res.2.2.2.2.2.2.2.2.2 t_pictured t_x t_text) → va_S A s.heap H locs → W p l e rmX11_takes s m args below meth c H locs 0 0 Q (F0 m pc ls [.int res.1]))  :
    ∀ (t_reached : Int32) (t_begin : Int32) (t_sort : Int32) (t_value : Int32) (t_word : Int64) (t_wrongAt : Int32) (t_badAt : Int32) (t_bad : Int32) (t_read : Int32) (H : Heap) (locs : List Loc) (ls : Array Slot), va_P D vwCl (w_X11_takes K g_t t_raised t_undos t_reached t_length t_begin t_sort t_value t_word t_wrongAt t_badAt t_bad t_read t_pictured t_x t_text) H → va_D A (w_X11_takes K g_t t_raised t_undos t_reached t_length t_begin t_sort t_value t_word t_wrongAt t_badAt t_bad t_read t_pictured t_x t_text) → va_S A s.heap H locs → lv_has ls 3 [(0, .ref (g_t 0))] → J_X11_takes_42 t_length t_text t_reached t_begin t_sort t_value t_word t_wrongAt t_badAt t_bad t_read = some res → W p l e rmX11_takes s m args below meth c H locs 0 0 Q (F0 m 42 ls []) := by
  obtain ⟨⟨hx, hb, hml, hown, hts⟩, hK, -⟩ := id C0
  intro t_reached t_begin t_sort t_value t_word t_wrongAt t_badAt t_bad t_read H locs ls hP hD hS hl hF
  unfold J_X11_takes_42 at hF
  refine lv_aload_n hx hb dX11_takes_42 rfl (lv_at hl 0 rfl) ?_
  obtain ⟨r_1, hc_2, hF⟩ := bn_some hF
  refine xc_v (wn := (w_X11_takes K g_t t_raised t_undos r_1.1 t_length r_1.2.1 r_1.2.2.1 r_1.2.2.2.1 r_1.2.2.2.2 t_wrongAt t_badAt t_bad t_read t_pictured t_x t_text)) hP hD hS C0.2.2.1 [0, 1] [] [0, 1] rfl rfl (by decide) (by decide) rfl (by decide) (va_runV (As := []) (rest := []) C0.1 (c_X11_token l D K g_t t_raised t_undos t_reached t_length t_begin t_sort t_value t_word t_wrongAt t_badAt t_bad t_read t_pictured t_x t_text r_1 hc_2 H.size) (cwV 0 hts gX11_takes_X11_token rfl rfl rfl (by decide +kernel) ⟨Nat.le_of_ble_eq_true rfl, Nat.le_of_ble_eq_true rfl⟩) (xp_V C0.2 hP hD hS [0, 1] rfl (by decide) 10 0 rfl rfl rfl) rfl rfl hl.1 rfl (lv_room (Nat.le_of_ble_eq_true rfl)) dX11_takes_43 ⟨Nat.le_of_ble_eq_true rfl, Nat.le_of_ble_eq_true rfl⟩) (fun H locs hP hD hS => ?_)
  refine lv_iconst (v := 1) hx hb dX11_takes_46 (by decide) ?_
  obtain rfl := Option.some.inj hF
  exact HR 47 H locs ls dX11_takes_47 narrow_b1 hP hD hS
def F_X11_takes (t_reached : Int32) (t_length : Int32) (t_begin : Int32) (t_sort : Int32) (t_value : Int32) (t_word : Int64) (t_wrongAt : Int32) (t_badAt : Int32) (t_bad : Int32) (t_read : Int32) (t_text : Nat → Int32) (x1 : Int32) (x2 : Int32) : Option (Int32 × Int32 × Int32 × Int32 × Int32 × Int64 × Int32 × Int32 × Int32 × Int32) :=
  if t_sort = (3 : Int32) then ((F_X11_in t_value x1 x2).bind fun r_2 => (if r_2 = (0 : Int32) then ((F_X11_isBad t_badAt t_bad (2 : Int32) t_begin).bind fun r_5 => (J_X11_takes_42 t_length t_text t_reached t_begin t_sort t_value t_word t_wrongAt r_5.1 r_5.2 t_value)) else (J_X11_takes_42 t_length t_text t_reached t_begin t_sort t_value t_word t_wrongAt t_badAt t_bad t_value))) else ((F_X11_fails t_begin t_wrongAt).bind fun r_7 => (gd_ (decide (r_7.1 &&& 1 = r_7.1)) (some (r_7.1, t_reached, t_begin, t_sort, t_value, t_word, r_7.2, t_badAt, t_bad, t_read))))
set_option maxHeartbeats 4000000 in
set_option maxRecDepth 100000 in
theorem c_X11_takes (l : Launch) (D : va_G) (K : Nat → ClassId) (g_t : Nat → Nat) (t_raised : Int32) (t_undos : Int32) (t_reached : Int32) (t_length : Int32) (t_begin : Int32) (t_sort : Int32) (t_value : Int32) (t_word : Int64) (t_wrongAt : Int32) (t_badAt : Int32) (t_bad : Int32) (t_read : Int32) (t_pictured : Int32) (t_x : Int32) (t_text : Nat → Int32) (x1 : Int32) (x2 : Int32) (res : Int32 × Int32 × Int32 × Int32 × Int32 × Int64 × Int32 × Int32 × Int32 × Int32) (hF : F_X11_takes t_reached t_length t_begin t_sort t_value t_word t_wrongAt t_badAt t_bad t_read t_text x1 x2 = some res) :
    Mi_ l yX11_takes wsX11_takes rmX11_takes D K [.ref (g_t 0), .int x1, .int x2] (w_X11_takes K g_t t_raised t_undos t_reached t_length t_begin t_sort t_value t_word t_wrongAt t_badAt t_bad t_read t_pictured t_x t_text) (w_X11_takes K g_t t_raised t_undos res.2.1 t_length res.2.2.1 res.2.2.2.1 res.2.2.2.2.1 res.2.2.2.2.2.1 res.2.2.2.2.2.2.1 res.2.2.2.2.2.2.2.1 res.2.2.2.2.2.2.2.2.1 res.2.2.2.2.2.2.2.2.2 t_pictured t_x t_text) (res.1) := by
  refine en_z (cc := cX11_takes) (maxL := 3) (own := RX11) (by decide) rfl rfl (Nat.le_of_ble_eq_true rfl) ?_
  intro p e s m args below meth c A Q H locs ls C0 hP hD hS hl HR
  obtain ⟨⟨hx, hb, hml, hown, hts⟩, hK, -⟩ := id C0
  have hl : lv_has ls 3 [(0, .ref (g_t 0)), (1, .int x1), (2, .int x2)] := hl
  unfold F_X11_takes at hF
  refine lv_aload_n hx hb dX11_takes_0 rfl (lv_at hl 0 rfl) ?_
  refine va_get (D := D) (ci := 10) (v := .int t_sort) (C := RX11) (T := TX11) (N := 30) hx hb hts iw_X11_takes_X11 hown hK hP 0 rfl rfl 9 (by decide) (hts _ fl_X11_takes_97) (fun _ h9 => h9) rfl dX11_takes_1 ?_
  refine lv_iconst (v := 3) hx hb dX11_takes_4 (by decide) ?_
  refine lv_icmp_eq (tgt := 13) hx hb dX11_takes_5 (by decide) (fun c_1 => ?_) (fun c_1 => ?_)
  · have hF := it_pos c_1 hF
    refine lv_aload_n hx hb dX11_takes_13 rfl (lv_at hl 0 rfl) ?_
    refine lv_aload_n hx hb dX11_takes_14 rfl (lv_at hl 0 rfl) ?_
    refine va_get (D := D) (ci := 10) (v := .int t_value) (C := RX11) (T := TX11) (N := 30) hx hb hts iw_X11_takes_X11 hown hK hP 0 rfl rfl 10 (by decide) (hts _ fl_X11_takes_100) (fun _ h9 => h9) rfl dX11_takes_15 ?_
    refine va_put (D := D) (ci := 10) (v := .int t_value) (ty := .int) (C := RX11) (T := TX11) (N := 30) hx hb hts iw_X11_takes_X11 tyX11 tyX11_ok nmX11 hown hK hP hD hS 0 rfl rfl 16 (by decide) (hts _ fl_X11_takes_116) (fun _ h9 => h9) rfl (by decide +kernel) rfl rfl (Nat.le_of_ble_eq_true rfl) dX11_takes_18 (fun H locs hP hD hS => ?_)
    have hP : va_P D vwCl (w_X11_takes K g_t t_raised t_undos t_reached t_length t_begin t_sort t_value t_word t_wrongAt t_badAt t_bad t_value t_pictured t_x t_text) H := hP
    have hD : va_D A (w_X11_takes K g_t t_raised t_undos t_reached t_length t_begin t_sort t_value t_word t_wrongAt t_badAt t_bad t_value t_pictured t_x t_text) := hD
    refine lv_aload_n hx hb dX11_takes_21 rfl (lv_at hl 0 rfl) ?_
    refine va_get (D := D) (ci := 10) (v := .int t_value) (C := RX11) (T := TX11) (N := 30) hx hb hts iw_X11_takes_X11 hown hK hP 0 rfl rfl 10 (by decide) (hts _ fl_X11_takes_100) (fun _ h9 => h9) rfl dX11_takes_22 ?_
    refine lv_iload_n hx hb dX11_takes_25 rfl (lv_at hl 1 rfl) ?_
    refine lv_iload_n hx hb dX11_takes_26 rfl (lv_at hl 2 rfl) ?_
    obtain ⟨r_2, hc_3, hF⟩ := bn_some hF
    refine xc_i (wn := (w_X11_takes K g_t t_raised t_undos t_reached t_length t_begin t_sort t_value t_word t_wrongAt t_badAt t_bad t_value t_pictured t_x t_text)) hP hD hS C0.2.2.1 [] [0, 1] [0, 1] rfl rfl (by decide) (by decide) rfl (by decide) (va_runS (As := [.int t_value, .int x1, .int x2]) (rest := []) C0.1 (c_X11_in l D K t_value x1 x2 r_2 hc_3 H.size) (va_cwS 3 hts gX11_takes_X11_in rfl rfl rfl (by decide +kernel) ⟨Nat.le_of_ble_eq_true rfl, Nat.le_of_ble_eq_true rfl⟩) (xp_S C0.2 hP hD hS [] rfl (by decide)) rfl rfl hl.1 rfl (lv_room (Nat.le_of_ble_eq_true rfl)) dX11_takes_27 ⟨Nat.le_of_ble_eq_true rfl, Nat.le_of_ble_eq_true rfl⟩) (fun H locs hP hD hS => ?_)
    refine lv_if_ne (tgt := 42) hx hb dX11_takes_30 (by decide) (fun c_4 => ?_) (fun c_4 => ?_)
    · have hF := it_neg c_4 hF
      exact w_X11_takes_42 C0 HR t_reached t_begin t_sort t_value t_word t_wrongAt t_badAt t_bad t_value H locs ls hP hD hS (lv_sub hl [0] rfl) hF
    · have hF := it_pos c_4 hF
      refine lv_aload_n hx hb dX11_takes_33 rfl (lv_at hl 0 rfl) ?_
      refine lv_iconst (v := 2) hx hb dX11_takes_34 (by decide) ?_
      refine lv_aload_n hx hb dX11_takes_35 rfl (lv_at hl 0 rfl) ?_
      refine va_get (D := D) (ci := 10) (v := .int t_begin) (C := RX11) (T := TX11) (N := 30) hx hb hts iw_X11_takes_X11 hown hK hP 0 rfl rfl 8 (by decide) (hts _ fl_X11_takes_90) (fun _ h9 => h9) rfl dX11_takes_36 ?_
      obtain ⟨r_5, hc_6, hF⟩ := bn_some hF
      refine xc_v (wn := (w_X11_takes K g_t t_raised t_undos t_reached t_length t_begin t_sort t_value t_word t_wrongAt r_5.1 r_5.2 t_value t_pictured t_x t_text)) hP hD hS C0.2.2.1 [0] [1] [1, 0] rfl rfl (by decide) (by decide) rfl (by decide) (va_runV (As := [.int (2 : Int32), .int t_begin]) (rest := []) C0.1 (c_X11_isBad l D K g_t t_raised t_undos t_reached t_length t_begin t_sort t_value t_word t_wrongAt t_badAt t_bad t_value t_pictured t_x (2 : Int32) t_begin r_5 hc_6 H.size) (cwV 2 hts gX11_takes_X11_isBad rfl rfl rfl (by decide +kernel) ⟨Nat.le_of_ble_eq_true rfl, Nat.le_of_ble_eq_true rfl⟩) (xp_V C0.2 hP hD hS [0] rfl (by decide) 10 0 rfl rfl rfl) rfl rfl hl.1 rfl (lv_room (Nat.le_of_ble_eq_true rfl)) dX11_takes_39 ⟨Nat.le_of_ble_eq_true rfl, Nat.le_of_ble_eq_true rfl⟩) (fun H locs hP hD hS => ?_)
      exact w_X11_takes_42 C0 HR t_reached t_begin t_sort t_value t_word t_wrongAt r_5.1 r_5.2 t_value H locs ls hP hD hS (lv_sub hl [0] rfl) hF
  · have hF := it_neg c_1 hF
    refine lv_aload_n hx hb dX11_takes_8 rfl (lv_at hl 0 rfl) ?_
    obtain ⟨r_7, hc_8, hF⟩ := bn_some hF
    refine xc_i (wn := (w_X11_takes K g_t t_raised t_undos t_reached t_length t_begin t_sort t_value t_word r_7.2 t_badAt t_bad t_read t_pictured t_x t_text)) hP hD hS C0.2.2.1 [0] [1] [1, 0] rfl rfl (by decide) (by decide) rfl (by decide) (va_runV (As := []) (rest := []) C0.1 (c_X11_fails l D K g_t t_raised t_undos t_reached t_length t_begin t_sort t_value t_word t_wrongAt t_badAt t_bad t_read t_pictured t_x r_7 hc_8 H.size) (cwV 0 hts gX11_takes_X11_fails rfl rfl rfl (by decide +kernel) ⟨Nat.le_of_ble_eq_true rfl, Nat.le_of_ble_eq_true rfl⟩) (xp_V C0.2 hP hD hS [0] rfl (by decide) 10 0 rfl rfl rfl) rfl rfl hl.1 rfl (lv_room (Nat.le_of_ble_eq_true rfl)) dX11_takes_9 ⟨Nat.le_of_ble_eq_true rfl, Nat.le_of_ble_eq_true rfl⟩) (fun H locs hP hD hS => ?_)
    obtain ⟨hg_9, hF⟩ := gd_some hF
    obtain rfl := Option.some.inj hF
    exact HR 12 H locs ls dX11_takes_12 (zn_of hg_9) hP hD hS

/-! StaggerRadarModel.gapLine()Z -/
abbrev rmX11_gapLine : Room := { frames := 3, cells := 0, slots := 0, locals := 66 }
theorem fl_X11_gapLine_24 : Cond.fieldLink RX11 24 "StaggerRadarModel" "told" "[I" ∈ wsX11_gapLine := by decide +kernel
theorem fl_X11_gapLine_90 : Cond.fieldLink RX11 90 "StaggerRadarModel" "begin" "I" ∈ wsX11_gapLine := by decide +kernel
theorem fl_X11_gapLine_116 : Cond.fieldLink RX11 116 "StaggerRadarModel" "read" "I" ∈ wsX11_gapLine := by decide +kernel
theorem iw_X11_gapLine_X11 : ∀ w ∈ u_ws RX11 TX11 30, w ∈ wsX11_gapLine := by decide +kernel
abbrev w_X11_gapLine (K : Nat → ClassId) (g_t : Nat → Nat) (t_raised : Int32) (t_undos : Int32) (t_reached : Int32) (t_length : Int32) (t_begin : Int32) (t_sort : Int32) (t_value : Int32) (t_word : Int64) (t_wrongAt : Int32) (t_badAt : Int32) (t_bad : Int32) (t_read : Int32) (t_pictured : Int32) (t_x : Int32) (t_text : Nat → Int32) (t_told : Nat → Int32) : va_W := [((g_t 0), .inr (10, [.int t_raised, .ref (g_t 2), .ref (g_t 3), .ref (g_t 4), .ref (g_t 5), .int t_undos, .int t_reached, .int t_length, .int t_begin, .int t_sort, .int t_value, .long t_word, .int t_wrongAt, .int t_badAt, .int t_bad, .ref (g_t 16), .int t_read, .ref (g_t 18), .ref (g_t 19), .ref (g_t 20), .int t_pictured, .ref (g_t 22), .ref (g_t 23), .ref (g_t 24), .ref (g_t 25), .ref (g_t 26), .int t_x, .ref (g_t 28), .ref (g_t 29), .ref (g_t 30)])), ((g_t 3), .inl (K 3, 1600, .inl t_text)), ((g_t 16), .inl (K 0, 97, .inl t_told))]
def J_X11_gapLine_19 (t_length : Int32) (t_text : Nat → Int32) (t_reached : Int32) (t_begin : Int32) (t_sort : Int32) (t_value : Int32) (t_word : Int64) (t_wrongAt : Int32) (t_badAt : Int32) (t_bad : Int32) (t_read : Int32) (t_told : Nat → Int32) : Option (Int32 × Int32 × Int32 × Int32 × Int32 × Int64 × Int32 × Int32 × Int32 × Int32 × (Nat → Int32)) :=
  (F_X11_token t_reached t_length t_begin t_sort t_value t_word t_text).bind fun r_1 => ((F_X11_takes r_1.1 t_length r_1.2.1 r_1.2.2.1 r_1.2.2.2.1 r_1.2.2.2.2 t_wrongAt t_badAt t_bad t_read t_text (4 : Int32) (60 : Int32)).bind fun r_3 => (if r_3.1 = (0 : Int32) then (some ((0 : Int32), r_3.2.1, r_3.2.2.1, r_3.2.2.2.1, r_3.2.2.2.2.1, r_3.2.2.2.2.2.1, r_3.2.2.2.2.2.2.1, r_3.2.2.2.2.2.2.2.1, r_3.2.2.2.2.2.2.2.2.1, r_3.2.2.2.2.2.2.2.2.2, t_told)) else ((F_X11_hasGap t_told 97 r_3.2.2.2.2.2.2.2.2.2).bind fun r_6 => (if r_6 = (0 : Int32) then (if (5 : Int32) ≤ (t_told 0) then (some ((1 : Int32), r_3.2.1, r_3.2.2.1, r_3.2.2.2.1, r_3.2.2.2.2.1, r_3.2.2.2.2.2.1, r_3.2.2.2.2.2.2.1, r_3.2.2.2.2.2.2.2.1, r_3.2.2.2.2.2.2.2.2.1, r_3.2.2.2.2.2.2.2.2.2, t_told)) else ((F_X11_putsGap t_told 97 r_3.2.2.2.2.2.2.2.2.2).bind fun r_10 => (some ((1 : Int32), r_3.2.1, r_3.2.2.1, r_3.2.2.2.1, r_3.2.2.2.2.1, r_3.2.2.2.2.2.1, r_3.2.2.2.2.2.2.1, r_3.2.2.2.2.2.2.2.1, r_3.2.2.2.2.2.2.2.2.1, r_3.2.2.2.2.2.2.2.2.2, r_10)))) else ((F_X11_isBad r_3.2.2.2.2.2.2.2.1 r_3.2.2.2.2.2.2.2.2.1 (3 : Int32) r_1.2.1).bind fun r_12 => (some ((1 : Int32), r_3.2.1, r_3.2.2.1, r_3.2.2.2.1, r_3.2.2.2.2.1, r_3.2.2.2.2.2.1, r_3.2.2.2.2.2.2.1, r_12.1, r_12.2, r_3.2.2.2.2.2.2.2.2.2, t_told)))))))
set_option maxHeartbeats 4000000 in
set_option maxRecDepth 100000 in
theorem w_X11_gapLine_19 {p : Program} {l : Launch} {e : Env} {s : State} {m : MethodId} {args : Array Value} {below : List Frame} {meth : Method} {c : Code} {D : va_G} {K : Nat → ClassId} {A : Nat → Prop} {Q : State → Prop} (C0 : cx_ p s m args c cX11_gapLine 2 RX11 wsX11_gapLine D K A) {g_t : Nat → Nat} {t_raised : Int32} {t_undos : Int32} {t_length : Int32} {t_pictured : Int32} {t_x : Int32} {t_text : Nat → Int32} {res : Int32 × Int32 × Int32 × Int32 × Int32 × Int64 × Int32 × Int32 × Int32 × Int32 × (Nat → Int32)} (HR : ∀ (pc : Nat) (H : Heap) (locs : List Loc) (ls : Array Slot), decode cX11_gapLine pc = .ok (.ireturn, 1) → narrow .boolean (.int res.1) = .int res.1 → va_P D vwCl (w_X11_gapLine K g_t t_raised t_undos res.2.1 t_length res.2.2.1 res.2.2.2.1 res.2.2.2.2.1 res.2.2.2.2.2.1 res.2.2.2.2.2.2.1 res.2.2.2.2.2.2.2.1 res.2.2.2.2.2.2.2.2.1 res.2.2.2.2.2.2.2.2.2.1 t_pictured t_x t_text res.2.2.2.2.2.2.2.2.2.2) H → va_D A (w_X11_gapLine K g_t t_raised t_undos res.2.1 t_length res.2.2.1 res.2.2.2.1 res.2.2.2.2.1 res.2.2.2.2.2.1 res.2.2.2.2.2.2.1 res.2.2.2.2.2.2.2.1 res.2.2.2.2.2.2.2.2.1 res.2.2.2.2.2.2.2.2.2.1 t_pictured t_x t_text res.2.2.2.2.2.2.2.2.2.2) → va_S A s.heap H locs → W p l e rmX11_gapLine s m args below meth c H locs 0 0 Q (F0 m pc ls [.int res.1]))  :
    ∀ (t_reached : Int32) (t_begin : Int32) (t_sort : Int32) (t_value : Int32) (t_word : Int64) (t_wrongAt : Int32) (t_badAt : Int32) (t_bad : Int32) (t_read : Int32) (t_told : Nat → Int32) (H : Heap) (locs : List Loc) (ls : Array Slot), va_P D vwCl (w_X11_gapLine K g_t t_raised t_undos t_reached t_length t_begin t_sort t_value t_word t_wrongAt t_badAt t_bad t_read t_pictured t_x t_text t_told) H → va_D A (w_X11_gapLine K g_t t_raised t_undos t_reached t_length t_begin t_sort t_value t_word t_wrongAt t_badAt t_bad t_read t_pictured t_x t_text t_told) → va_S A s.heap H locs → lv_has ls 2 [(0, .ref (g_t 0))] → J_X11_gapLine_19 t_length t_text t_reached t_begin t_sort t_value t_word t_wrongAt t_badAt t_bad t_read t_told = some res → W p l e rmX11_gapLine s m args below meth c H locs 0 0 Q (F0 m 19 ls []) := by
  obtain ⟨⟨hx, hb, hml, hown, hts⟩, hK, -⟩ := id C0
  intro t_reached t_begin t_sort t_value t_word t_wrongAt t_badAt t_bad t_read t_told H locs ls hP hD hS hl hF
  unfold J_X11_gapLine_19 at hF
  refine lv_aload_n hx hb dX11_gapLine_19 rfl (lv_at hl 0 rfl) ?_
  obtain ⟨r_1, hc_2, hF⟩ := bn_some hF
  refine xc_v (wn := (w_X11_gapLine K g_t t_raised t_undos r_1.1 t_length r_1.2.1 r_1.2.2.1 r_1.2.2.2.1 r_1.2.2.2.2 t_wrongAt t_badAt t_bad t_read t_pictured t_x t_text t_told)) hP hD hS C0.2.2.1 [0, 1] [2] [1, 2, 0] rfl rfl (by decide) (by decide) rfl (by decide) (va_runV (As := []) (rest := []) C0.1 (c_X11_token l D K g_t t_raised t_undos t_reached t_length t_begin t_sort t_value t_word t_wrongAt t_badAt t_bad t_read t_pictured t_x t_text r_1 hc_2 H.size) (cwV 0 hts gX11_gapLine_X11_token rfl rfl rfl (by decide +kernel) ⟨Nat.le_of_ble_eq_true rfl, Nat.le_of_ble_eq_true rfl⟩) (xp_V C0.2 hP hD hS [0, 1] rfl (by decide) 10 0 rfl rfl rfl) rfl rfl hl.1 rfl (lv_room (Nat.le_of_ble_eq_true rfl)) dX11_gapLine_20 ⟨Nat.le_of_ble_eq_true rfl, Nat.le_of_ble_eq_true rfl⟩) (fun H locs hP hD hS => ?_)
  refine lv_aload_n hx hb dX11_gapLine_23 rfl (lv_at hl 0 rfl) ?_
  refine va_get (D := D) (ci := 10) (v := .int r_1.2.1) (C := RX11) (T := TX11) (N := 30) hx hb hts iw_X11_gapLine_X11 hown hK hP 0 rfl rfl 8 (by decide) (hts _ fl_X11_gapLine_90) (fun _ h9 => h9) rfl dX11_gapLine_24 ?_
  refine lv_istore_n (lv' := [(1, .int r_1.2.1), (0, .ref (g_t 0))]) hx hb dX11_gapLine_27 rfl hl (by decide) rfl (fun ls hl => ?_)
  refine lv_aload_n hx hb dX11_gapLine_28 rfl (lv_at hl 1 rfl) ?_
  refine lv_iconst (v := 4) hx hb dX11_gapLine_29 (by decide) ?_
  refine lv_bipush (v := 60) hx hb dX11_gapLine_30 (by decide) ?_
  obtain ⟨r_3, hc_4, hF⟩ := bn_some hF
  refine xc_i (wn := (w_X11_gapLine K g_t t_raised t_undos r_3.2.1 t_length r_3.2.2.1 r_3.2.2.2.1 r_3.2.2.2.2.1 r_3.2.2.2.2.2.1 r_3.2.2.2.2.2.2.1 r_3.2.2.2.2.2.2.2.1 r_3.2.2.2.2.2.2.2.2.1 r_3.2.2.2.2.2.2.2.2.2 t_pictured t_x t_text t_told)) hP hD hS C0.2.2.1 [0, 1] [2] [1, 2, 0] rfl rfl (by decide) (by decide) rfl (by decide) (va_runV (As := [.int (4 : Int32), .int (60 : Int32)]) (rest := []) C0.1 (c_X11_takes l D K g_t t_raised t_undos r_1.1 t_length r_1.2.1 r_1.2.2.1 r_1.2.2.2.1 r_1.2.2.2.2 t_wrongAt t_badAt t_bad t_read t_pictured t_x t_text (4 : Int32) (60 : Int32) r_3 hc_4 H.size) (cwV 2 hts gX11_gapLine_X11_takes rfl rfl rfl (by decide +kernel) ⟨Nat.le_of_ble_eq_true rfl, Nat.le_of_ble_eq_true rfl⟩) (xp_V C0.2 hP hD hS [0, 1] rfl (by decide) 10 0 rfl rfl rfl) rfl rfl hl.1 rfl (lv_room (Nat.le_of_ble_eq_true rfl)) dX11_gapLine_32 ⟨Nat.le_of_ble_eq_true rfl, Nat.le_of_ble_eq_true rfl⟩) (fun H locs hP hD hS => ?_)
  refine lv_if_ne (tgt := 40) hx hb dX11_gapLine_35 (by decide) (fun c_5 => ?_) (fun c_5 => ?_)
  · have hF := it_neg c_5 hF
    refine lv_aload_n hx hb dX11_gapLine_40 rfl (lv_at hl 1 rfl) ?_
    refine va_get (D := D) (ci := 10) (v := .ref (g_t 16)) (C := RX11) (T := TX11) (N := 30) hx hb hts iw_X11_gapLine_X11 hown hK hP 0 rfl rfl 15 (by decide) (hts _ fl_X11_gapLine_24) (fun _ h9 => h9) rfl dX11_gapLine_41 ?_
    refine lv_aload_n hx hb dX11_gapLine_44 rfl (lv_at hl 1 rfl) ?_
    refine va_get (D := D) (ci := 10) (v := .int r_3.2.2.2.2.2.2.2.2.2) (C := RX11) (T := TX11) (N := 30) hx hb hts iw_X11_gapLine_X11 hown hK hP 0 rfl rfl 16 (by decide) (hts _ fl_X11_gapLine_116) (fun _ h9 => h9) rfl dX11_gapLine_45 ?_
    obtain ⟨r_6, hc_7, hF⟩ := bn_some hF
    refine xc_i (wn := (w_X11_gapLine K g_t t_raised t_undos r_3.2.1 t_length r_3.2.2.1 r_3.2.2.2.1 r_3.2.2.2.2.1 r_3.2.2.2.2.2.1 r_3.2.2.2.2.2.2.1 r_3.2.2.2.2.2.2.2.1 r_3.2.2.2.2.2.2.2.2.1 r_3.2.2.2.2.2.2.2.2.2 t_pictured t_x t_text t_told)) hP hD hS C0.2.2.1 [2] [0, 1] [0, 1, 2] rfl rfl (by decide) (by decide) rfl (by decide) (va_runS (As := [.ref (g_t 16), .int r_3.2.2.2.2.2.2.2.2.2]) (rest := []) C0.1 (c_X11_hasGap l D K (g_t 16) 97 t_told r_3.2.2.2.2.2.2.2.2.2 r_6 hc_7 H.size) (va_cwS 2 hts gX11_gapLine_X11_hasGap rfl rfl rfl (by decide +kernel) ⟨Nat.le_of_ble_eq_true rfl, Nat.le_of_ble_eq_true rfl⟩) (xp_S C0.2 hP hD hS [2] rfl (by decide)) rfl rfl hl.1 rfl (lv_room (Nat.le_of_ble_eq_true rfl)) dX11_gapLine_48 ⟨Nat.le_of_ble_eq_true rfl, Nat.le_of_ble_eq_true rfl⟩) (fun H locs hP hD hS => ?_)
    refine lv_if_eq (tgt := 63) hx hb dX11_gapLine_51 (by decide) (fun c_8 => ?_) (fun c_8 => ?_)
    · have hF := it_pos c_8 hF
      refine lv_aload_n hx hb dX11_gapLine_63 rfl (lv_at hl 1 rfl) ?_
      refine va_get (D := D) (ci := 10) (v := .ref (g_t 16)) (C := RX11) (T := TX11) (N := 30) hx hb hts iw_X11_gapLine_X11 hown hK hP 0 rfl rfl 15 (by decide) (hts _ fl_X11_gapLine_24) (fun _ h9 => h9) rfl dX11_gapLine_64 ?_
      refine lv_iconst (v := 0) hx hb dX11_gapLine_67 (by decide) ?_
      refine xl_i (f := t_told) hx hb hK hP 2 0 rfl rfl (k := 0) (by decide) (in_v (by decide)) dX11_gapLine_68 ?_
      refine lv_iconst (v := 5) hx hb dX11_gapLine_69 (by decide) ?_
      refine lv_icmp_ge (tgt := 84) hx hb dX11_gapLine_70 (by decide) (fun c_9 => ?_) (fun c_9 => ?_)
      · have hF := it_pos c_9 hF
        refine lv_iconst (v := 1) hx hb dX11_gapLine_84 (by decide) ?_
        obtain rfl := Option.some.inj hF
        exact HR 85 H locs ls dX11_gapLine_85 narrow_b1 hP hD hS
      · have hF := it_neg c_9 hF
        refine lv_aload_n hx hb dX11_gapLine_73 rfl (lv_at hl 1 rfl) ?_
        refine va_get (D := D) (ci := 10) (v := .ref (g_t 16)) (C := RX11) (T := TX11) (N := 30) hx hb hts iw_X11_gapLine_X11 hown hK hP 0 rfl rfl 15 (by decide) (hts _ fl_X11_gapLine_24) (fun _ h9 => h9) rfl dX11_gapLine_74 ?_
        refine lv_aload_n hx hb dX11_gapLine_77 rfl (lv_at hl 1 rfl) ?_
        refine va_get (D := D) (ci := 10) (v := .int r_3.2.2.2.2.2.2.2.2.2) (C := RX11) (T := TX11) (N := 30) hx hb hts iw_X11_gapLine_X11 hown hK hP 0 rfl rfl 16 (by decide) (hts _ fl_X11_gapLine_116) (fun _ h9 => h9) rfl dX11_gapLine_78 ?_
        obtain ⟨r_10, hc_11, hF⟩ := bn_some hF
        refine xc_v (wn := (w_X11_gapLine K g_t t_raised t_undos r_3.2.1 t_length r_3.2.2.1 r_3.2.2.2.1 r_3.2.2.2.2.1 r_3.2.2.2.2.2.1 r_3.2.2.2.2.2.2.1 r_3.2.2.2.2.2.2.2.1 r_3.2.2.2.2.2.2.2.2.1 r_3.2.2.2.2.2.2.2.2.2 t_pictured t_x t_text r_10)) hP hD hS C0.2.2.1 [2] [0, 1] [0, 1, 2] rfl rfl (by decide) (by decide) rfl (by decide) (va_runS (As := [.ref (g_t 16), .int r_3.2.2.2.2.2.2.2.2.2]) (rest := []) C0.1 (c_X11_putsGap l D K (g_t 16) 97 t_told r_3.2.2.2.2.2.2.2.2.2 r_10 hc_11 H.size) (va_cwS 2 hts gX11_gapLine_X11_putsGap rfl rfl rfl (by decide +kernel) ⟨Nat.le_of_ble_eq_true rfl, Nat.le_of_ble_eq_true rfl⟩) (xp_S C0.2 hP hD hS [2] rfl (by decide)) rfl rfl hl.1 rfl (lv_room (Nat.le_of_ble_eq_true rfl)) dX11_gapLine_81 ⟨Nat.le_of_ble_eq_true rfl, Nat.le_of_ble_eq_true rfl⟩) (fun H locs hP hD hS => ?_)
        refine lv_iconst (v := 1) hx hb dX11_gapLine_84 (by decide) ?_
        obtain rfl := Option.some.inj hF
        exact HR 85 H locs ls dX11_gapLine_85 narrow_b1 hP hD hS
    · have hF := it_neg c_8 hF
      refine lv_aload_n hx hb dX11_gapLine_54 rfl (lv_at hl 1 rfl) ?_
      refine lv_iconst (v := 3) hx hb dX11_gapLine_55 (by decide) ?_
      refine lv_iload_n hx hb dX11_gapLine_56 rfl (lv_at hl 0 rfl) ?_
      obtain ⟨r_12, hc_13, hF⟩ := bn_some hF
      refine xc_v (wn := (w_X11_gapLine K g_t t_raised t_undos r_3.2.1 t_length r_3.2.2.1 r_3.2.2.2.1 r_3.2.2.2.2.1 r_3.2.2.2.2.2.1 r_3.2.2.2.2.2.2.1 r_12.1 r_12.2 r_3.2.2.2.2.2.2.2.2.2 t_pictured t_x t_text t_told)) hP hD hS C0.2.2.1 [0] [1, 2] [2, 0, 1] rfl rfl (by decide) (by decide) rfl (by decide) (va_runV (As := [.int (3 : Int32), .int r_1.2.1]) (rest := []) C0.1 (c_X11_isBad l D K g_t t_raised t_undos r_3.2.1 t_length r_3.2.2.1 r_3.2.2.2.1 r_3.2.2.2.2.1 r_3.2.2.2.2.2.1 r_3.2.2.2.2.2.2.1 r_3.2.2.2.2.2.2.2.1 r_3.2.2.2.2.2.2.2.2.1 r_3.2.2.2.2.2.2.2.2.2 t_pictured t_x (3 : Int32) r_1.2.1 r_12 hc_13 H.size) (cwV 2 hts gX11_gapLine_X11_isBad rfl rfl rfl (by decide +kernel) ⟨Nat.le_of_ble_eq_true rfl, Nat.le_of_ble_eq_true rfl⟩) (xp_V C0.2 hP hD hS [0] rfl (by decide) 10 0 rfl rfl rfl) rfl rfl hl.1 rfl (lv_room (Nat.le_of_ble_eq_true rfl)) dX11_gapLine_57 ⟨Nat.le_of_ble_eq_true rfl, Nat.le_of_ble_eq_true rfl⟩) (fun H locs hP hD hS => ?_)
      refine lv_goto (tgt := 84) hx hb dX11_gapLine_60 (by decide) ?_
      refine lv_iconst (v := 1) hx hb dX11_gapLine_84 (by decide) ?_
      obtain rfl := Option.some.inj hF
      exact HR 85 H locs ls dX11_gapLine_85 narrow_b1 hP hD hS
  · have hF := it_pos c_5 hF
    refine lv_iconst (v := 0) hx hb dX11_gapLine_38 (by decide) ?_
    obtain rfl := Option.some.inj hF
    exact HR 39 H locs ls dX11_gapLine_39 narrow_b0 hP hD hS
def F_X11_gapLine (t_reached : Int32) (t_length : Int32) (t_begin : Int32) (t_sort : Int32) (t_value : Int32) (t_word : Int64) (t_wrongAt : Int32) (t_badAt : Int32) (t_bad : Int32) (t_read : Int32) (t_text : Nat → Int32) (t_told : Nat → Int32) : Option (Int32 × Int32 × Int32 × Int32 × Int32 × Int64 × Int32 × Int32 × Int32 × Int32 × (Nat → Int32)) :=
  if (t_told 0) = (5 : Int32) then ((F_X11_isBad t_badAt t_bad (4 : Int32) t_begin).bind fun r_2 => (J_X11_gapLine_19 t_length t_text t_reached t_begin t_sort t_value t_word t_wrongAt r_2.1 r_2.2 t_read t_told)) else (J_X11_gapLine_19 t_length t_text t_reached t_begin t_sort t_value t_word t_wrongAt t_badAt t_bad t_read t_told)
set_option maxHeartbeats 4000000 in
set_option maxRecDepth 100000 in
theorem c_X11_gapLine (l : Launch) (D : va_G) (K : Nat → ClassId) (g_t : Nat → Nat) (t_raised : Int32) (t_undos : Int32) (t_reached : Int32) (t_length : Int32) (t_begin : Int32) (t_sort : Int32) (t_value : Int32) (t_word : Int64) (t_wrongAt : Int32) (t_badAt : Int32) (t_bad : Int32) (t_read : Int32) (t_pictured : Int32) (t_x : Int32) (t_text : Nat → Int32) (t_told : Nat → Int32) (res : Int32 × Int32 × Int32 × Int32 × Int32 × Int64 × Int32 × Int32 × Int32 × Int32 × (Nat → Int32)) (hF : F_X11_gapLine t_reached t_length t_begin t_sort t_value t_word t_wrongAt t_badAt t_bad t_read t_text t_told = some res) :
    Mi_ l yX11_gapLine wsX11_gapLine rmX11_gapLine D K [.ref (g_t 0)] (w_X11_gapLine K g_t t_raised t_undos t_reached t_length t_begin t_sort t_value t_word t_wrongAt t_badAt t_bad t_read t_pictured t_x t_text t_told) (w_X11_gapLine K g_t t_raised t_undos res.2.1 t_length res.2.2.1 res.2.2.2.1 res.2.2.2.2.1 res.2.2.2.2.2.1 res.2.2.2.2.2.2.1 res.2.2.2.2.2.2.2.1 res.2.2.2.2.2.2.2.2.1 res.2.2.2.2.2.2.2.2.2.1 t_pictured t_x t_text res.2.2.2.2.2.2.2.2.2.2) (res.1) := by
  refine en_z (cc := cX11_gapLine) (maxL := 2) (own := RX11) (by decide) rfl rfl (Nat.le_of_ble_eq_true rfl) ?_
  intro p e s m args below meth c A Q H locs ls C0 hP hD hS hl HR
  obtain ⟨⟨hx, hb, hml, hown, hts⟩, hK, -⟩ := id C0
  have hl : lv_has ls 2 [(0, .ref (g_t 0))] := hl
  unfold F_X11_gapLine at hF
  refine lv_aload_n hx hb dX11_gapLine_0 rfl (lv_at hl 0 rfl) ?_
  refine va_get (D := D) (ci := 10) (v := .ref (g_t 16)) (C := RX11) (T := TX11) (N := 30) hx hb hts iw_X11_gapLine_X11 hown hK hP 0 rfl rfl 15 (by decide) (hts _ fl_X11_gapLine_24) (fun _ h9 => h9) rfl dX11_gapLine_1 ?_
  refine lv_iconst (v := 0) hx hb dX11_gapLine_4 (by decide) ?_
  refine xl_i (f := t_told) hx hb hK hP 2 0 rfl rfl (k := 0) (by decide) (in_v (by decide)) dX11_gapLine_5 ?_
  refine lv_iconst (v := 5) hx hb dX11_gapLine_6 (by decide) ?_
  refine lv_icmp_ne (tgt := 19) hx hb dX11_gapLine_7 (by decide) (fun c_1 => ?_) (fun c_1 => ?_)
  · have hF := it_neg c_1 hF
    exact w_X11_gapLine_19 C0 HR t_reached t_begin t_sort t_value t_word t_wrongAt t_badAt t_bad t_read t_told H locs ls hP hD hS (lv_sub hl [0] rfl) hF
  · have hF := it_pos c_1 hF
    refine lv_aload_n hx hb dX11_gapLine_10 rfl (lv_at hl 0 rfl) ?_
    refine lv_iconst (v := 4) hx hb dX11_gapLine_11 (by decide) ?_
    refine lv_aload_n hx hb dX11_gapLine_12 rfl (lv_at hl 0 rfl) ?_
    refine va_get (D := D) (ci := 10) (v := .int t_begin) (C := RX11) (T := TX11) (N := 30) hx hb hts iw_X11_gapLine_X11 hown hK hP 0 rfl rfl 8 (by decide) (hts _ fl_X11_gapLine_90) (fun _ h9 => h9) rfl dX11_gapLine_13 ?_
    obtain ⟨r_2, hc_3, hF⟩ := bn_some hF
    refine xc_v (wn := (w_X11_gapLine K g_t t_raised t_undos t_reached t_length t_begin t_sort t_value t_word t_wrongAt r_2.1 r_2.2 t_read t_pictured t_x t_text t_told)) hP hD hS C0.2.2.1 [0] [1, 2] [2, 0, 1] rfl rfl (by decide) (by decide) rfl (by decide) (va_runV (As := [.int (4 : Int32), .int t_begin]) (rest := []) C0.1 (c_X11_isBad l D K g_t t_raised t_undos t_reached t_length t_begin t_sort t_value t_word t_wrongAt t_badAt t_bad t_read t_pictured t_x (4 : Int32) t_begin r_2 hc_3 H.size) (cwV 2 hts gX11_gapLine_X11_isBad rfl rfl rfl (by decide +kernel) ⟨Nat.le_of_ble_eq_true rfl, Nat.le_of_ble_eq_true rfl⟩) (xp_V C0.2 hP hD hS [0] rfl (by decide) 10 0 rfl rfl rfl) rfl rfl hl.1 rfl (lv_room (Nat.le_of_ble_eq_true rfl)) dX11_gapLine_16 ⟨Nat.le_of_ble_eq_true rfl, Nat.le_of_ble_eq_true rfl⟩) (fun H locs hP hD hS => ?_)
    exact w_X11_gapLine_19 C0 HR t_reached t_begin t_sort t_value t_word t_wrongAt r_2.1 r_2.2 t_read t_told H locs ls hP hD hS (lv_sub hl [0] rfl) hF

/-! StaggerRadarModel.seenBits(I)I -/
abbrev rmX11_seenBits : Room := { frames := 3, cells := 0, slots := 0, locals := 67 }
theorem fl_X11_seenBits_7 : Cond.fieldLink RX11 7 "StaggerRadarModel" "all" "[I" ∈ wsX11_seenBits := by decide +kernel
theorem iw_X11_seenBits_X11 : ∀ w ∈ u_ws RX11 TX11 30, w ∈ wsX11_seenBits := by decide +kernel
abbrev w_X11_seenBits (K : Nat → ClassId) (g_t : Nat → Nat) (t_raised : Int32) (t_undos : Int32) (t_reached : Int32) (t_length : Int32) (t_begin : Int32) (t_sort : Int32) (t_value : Int32) (t_word : Int64) (t_wrongAt : Int32) (t_badAt : Int32) (t_bad : Int32) (t_read : Int32) (t_pictured : Int32) (t_x : Int32) (t_all : Nat → Int32) : va_W := [((g_t 0), .inr (10, [.int t_raised, .ref (g_t 2), .ref (g_t 3), .ref (g_t 4), .ref (g_t 5), .int t_undos, .int t_reached, .int t_length, .int t_begin, .int t_sort, .int t_value, .long t_word, .int t_wrongAt, .int t_badAt, .int t_bad, .ref (g_t 16), .int t_read, .ref (g_t 18), .ref (g_t 19), .ref (g_t 20), .int t_pictured, .ref (g_t 22), .ref (g_t 23), .ref (g_t 24), .ref (g_t 25), .ref (g_t 26), .int t_x, .ref (g_t 28), .ref (g_t 29), .ref (g_t 30)])), ((g_t 2), .inl (K 0, 500, .inl t_all))]
def L_X11_seenBits_4 (t_all : Nat → Int32) : Nat → Int32 → Int32 → Int32 → Option (Int32)
  | 0, _, _, _ => none
  | n_ + 1, x1, x2, x3 =>
    if (t_all 13) ≤ x3 then (some x2) else ((F_X11_isSeen t_all x3 x1).bind fun r_2 => (if r_2 = (0 : Int32) then (L_X11_seenBits_4 t_all n_ x1 (x2 ||| (0 : Int32)) (x3 + (1 : Int32))) else (L_X11_seenBits_4 t_all n_ x1 (x2 ||| ((1 : Int32) <<< (x3 &&& 31))) (x3 + (1 : Int32)))))
set_option maxHeartbeats 4000000 in
set_option maxRecDepth 100000 in
theorem w_X11_seenBits_4 {p : Program} {l : Launch} {e : Env} {s : State} {m : MethodId} {args : Array Value} {below : List Frame} {meth : Method} {c : Code} {D : va_G} {K : Nat → ClassId} {A : Nat → Prop} {Q : State → Prop} (C0 : cx_ p s m args c cX11_seenBits 4 RX11 wsX11_seenBits D K A) {g_t : Nat → Nat} {t_raised : Int32} {t_undos : Int32} {t_reached : Int32} {t_length : Int32} {t_begin : Int32} {t_sort : Int32} {t_value : Int32} {t_word : Int64} {t_wrongAt : Int32} {t_badAt : Int32} {t_bad : Int32} {t_read : Int32} {t_pictured : Int32} {t_x : Int32} {t_all : Nat → Int32} {res : Int32} (HR : ∀ (pc : Nat) (H : Heap) (locs : List Loc) (ls : Array Slot), decode cX11_seenBits pc = .ok (.ireturn, 1) → va_P D vwCl (w_X11_seenBits K g_t t_raised t_undos t_reached t_length t_begin t_sort t_value t_word t_wrongAt t_badAt t_bad t_read t_pictured t_x t_all) H → va_D A (w_X11_seenBits K g_t t_raised t_undos t_reached t_length t_begin t_sort t_value t_word t_wrongAt t_badAt t_bad t_read t_pictured t_x t_all) → va_S A s.heap H locs → W p l e rmX11_seenBits s m args below meth c H locs 0 0 Q (F0 m pc ls [.int res]))  :
    ∀ (n_ : Nat) (x1 : Int32) (x2 : Int32) (x3 : Int32) (H : Heap) (locs : List Loc) (ls : Array Slot), va_P D vwCl (w_X11_seenBits K g_t t_raised t_undos t_reached t_length t_begin t_sort t_value t_word t_wrongAt t_badAt t_bad t_read t_pictured t_x t_all) H → va_D A (w_X11_seenBits K g_t t_raised t_undos t_reached t_length t_begin t_sort t_value t_word t_wrongAt t_badAt t_bad t_read t_pictured t_x t_all) → va_S A s.heap H locs → lv_has ls 4 [(0, .ref (g_t 0)), (1, .int x1), (2, .int x2), (3, .int x3)] → L_X11_seenBits_4 t_all n_ x1 x2 x3 = some res → W p l e rmX11_seenBits s m args below meth c H locs 0 0 Q (F0 m 4 ls []) := by
  obtain ⟨⟨hx, hb, hml, hown, hts⟩, hK, -⟩ := id C0
  intro n_
  induction n_ with
  | zero =>
    intro x1 x2 x3 H locs ls hP hD hS hl hF
    exact no_s (show (none : Option (Int32)) = some res from hF)
  | succ n_ ih =>
    intro x1 x2 x3 H locs ls hP hD hS hl hF
    rw [L_X11_seenBits_4] at hF
    refine lv_iload_n hx hb dX11_seenBits_4 rfl (lv_at hl 3 rfl) ?_
    refine lv_aload_n hx hb dX11_seenBits_5 rfl (lv_at hl 0 rfl) ?_
    refine va_get (D := D) (ci := 10) (v := .ref (g_t 2)) (C := RX11) (T := TX11) (N := 30) hx hb hts iw_X11_seenBits_X11 hown hK hP 0 rfl rfl 1 (by decide) (hts _ fl_X11_seenBits_7) (fun _ h9 => h9) rfl dX11_seenBits_6 ?_
    refine lv_bipush (v := 13) hx hb dX11_seenBits_9 (by decide) ?_
    refine xl_i (f := t_all) hx hb hK hP 1 0 rfl rfl (k := 13) (by decide) (in_v (by decide)) dX11_seenBits_11 ?_
    refine lv_icmp_ge (tgt := 40) hx hb dX11_seenBits_12 (by decide) (fun c_1 => ?_) (fun c_1 => ?_)
    · have hF := it_pos c_1 hF
      refine lv_iload_n hx hb dX11_seenBits_40 rfl (lv_at hl 2 rfl) ?_
      obtain rfl := Option.some.inj hF
      exact HR 41 H locs ls dX11_seenBits_41 hP hD hS
    · have hF := it_neg c_1 hF
      refine lv_iload_n hx hb dX11_seenBits_15 rfl (lv_at hl 2 rfl) ?_
      refine lv_aload_n hx hb dX11_seenBits_16 rfl (lv_at hl 0 rfl) ?_
      refine lv_iload_n hx hb dX11_seenBits_17 rfl (lv_at hl 3 rfl) ?_
      refine lv_iload_n hx hb dX11_seenBits_18 rfl (lv_at hl 1 rfl) ?_
      obtain ⟨r_2, hc_3, hF⟩ := bn_some hF
      refine xc_i (wn := (w_X11_seenBits K g_t t_raised t_undos t_reached t_length t_begin t_sort t_value t_word t_wrongAt t_badAt t_bad t_read t_pictured t_x t_all)) hP hD hS C0.2.2.1 [0, 1] [] [0, 1] rfl rfl (by decide) (by decide) rfl (by decide) (va_runV (As := [.int x3, .int x1]) (rest := [.int x2]) C0.1 (c_X11_isSeen l D K g_t t_raised t_undos t_reached t_length t_begin t_sort t_value t_word t_wrongAt t_badAt t_bad t_read t_pictured t_x t_all x3 x1 r_2 hc_3 H.size) (cwV 2 hts gX11_seenBits_X11_isSeen rfl rfl rfl (by decide +kernel) ⟨Nat.le_of_ble_eq_true rfl, Nat.le_of_ble_eq_true rfl⟩) (xp_V C0.2 hP hD hS [0, 1] rfl (by decide) 10 0 rfl rfl rfl) rfl rfl hl.1 rfl (lv_room (Nat.le_of_ble_eq_true rfl)) dX11_seenBits_19 ⟨Nat.le_of_ble_eq_true rfl, Nat.le_of_ble_eq_true rfl⟩) (fun H locs hP hD hS => ?_)
      refine lv_if_eq (tgt := 31) hx hb dX11_seenBits_22 (by decide) (fun c_4 => ?_) (fun c_4 => ?_)
      · have hF := it_pos c_4 hF
        refine lv_iconst (v := 0) hx hb dX11_seenBits_31 (by decide) ?_
        refine lv_ior hx hb dX11_seenBits_32 ?_
        refine lv_istore_n (lv' := [(2, .int (x2 ||| (0 : Int32))), (0, .ref (g_t 0)), (1, .int x1), (3, .int x3)]) hx hb dX11_seenBits_33 rfl hl (by decide) rfl (fun ls hl => ?_)
        refine lv_iinc (v := (x3 + (1 : Int32))) (lv' := [(3, .int (x3 + (1 : Int32))), (2, .int (x2 ||| (0 : Int32))), (0, .ref (g_t 0)), (1, .int x1)]) hx hb dX11_seenBits_34 hl (k := 3) rfl (congrArg (fun z => x3 + z) (by decide)) (by decide) rfl (fun ls hl => ?_)
        refine lv_goto (tgt := 4) hx hb dX11_seenBits_37 (by decide) ?_
        exact ih x1 (x2 ||| (0 : Int32)) (x3 + (1 : Int32)) H locs ls hP hD hS (lv_sub hl [2, 3, 1, 0] rfl) hF
      · have hF := it_neg c_4 hF
        refine lv_iconst (v := 1) hx hb dX11_seenBits_25 (by decide) ?_
        refine lv_iload_n hx hb dX11_seenBits_26 rfl (lv_at hl 3 rfl) ?_
        refine lv_ishl hx hb dX11_seenBits_27 ?_
        refine lv_goto (tgt := 32) hx hb dX11_seenBits_28 (by decide) ?_
        refine lv_ior hx hb dX11_seenBits_32 ?_
        refine lv_istore_n (lv' := [(2, .int (x2 ||| ((1 : Int32) <<< (x3 &&& 31)))), (0, .ref (g_t 0)), (1, .int x1), (3, .int x3)]) hx hb dX11_seenBits_33 rfl hl (by decide) rfl (fun ls hl => ?_)
        refine lv_iinc (v := (x3 + (1 : Int32))) (lv' := [(3, .int (x3 + (1 : Int32))), (2, .int (x2 ||| ((1 : Int32) <<< (x3 &&& 31)))), (0, .ref (g_t 0)), (1, .int x1)]) hx hb dX11_seenBits_34 hl (k := 3) rfl (congrArg (fun z => x3 + z) (by decide)) (by decide) rfl (fun ls hl => ?_)
        refine lv_goto (tgt := 4) hx hb dX11_seenBits_37 (by decide) ?_
        exact ih x1 (x2 ||| ((1 : Int32) <<< (x3 &&& 31))) (x3 + (1 : Int32)) H locs ls hP hD hS (lv_sub hl [2, 3, 1, 0] rfl) hF
def F_X11_seenBits (t_all : Nat → Int32) (x1 : Int32) : Option (Int32) :=
  L_X11_seenBits_4 t_all fu_ x1 (0 : Int32) (0 : Int32)
set_option maxHeartbeats 4000000 in
set_option maxRecDepth 100000 in
theorem c_X11_seenBits (l : Launch) (D : va_G) (K : Nat → ClassId) (g_t : Nat → Nat) (t_raised : Int32) (t_undos : Int32) (t_reached : Int32) (t_length : Int32) (t_begin : Int32) (t_sort : Int32) (t_value : Int32) (t_word : Int64) (t_wrongAt : Int32) (t_badAt : Int32) (t_bad : Int32) (t_read : Int32) (t_pictured : Int32) (t_x : Int32) (t_all : Nat → Int32) (x1 : Int32) (res : Int32) (hF : F_X11_seenBits t_all x1 = some res) :
    Mi_ l yX11_seenBits wsX11_seenBits rmX11_seenBits D K [.ref (g_t 0), .int x1] (w_X11_seenBits K g_t t_raised t_undos t_reached t_length t_begin t_sort t_value t_word t_wrongAt t_badAt t_bad t_read t_pictured t_x t_all) (w_X11_seenBits K g_t t_raised t_undos t_reached t_length t_begin t_sort t_value t_word t_wrongAt t_badAt t_bad t_read t_pictured t_x t_all) (res) := by
  refine en_i (cc := cX11_seenBits) (maxL := 4) (own := RX11) (by decide) rfl rfl (Nat.le_of_ble_eq_true rfl) ?_
  intro p e s m args below meth c A Q H locs ls C0 hP hD hS hl HR
  obtain ⟨⟨hx, hb, hml, hown, hts⟩, hK, -⟩ := id C0
  have hl : lv_has ls 4 [(0, .ref (g_t 0)), (1, .int x1)] := hl
  unfold F_X11_seenBits at hF
  refine lv_iconst (v := 0) hx hb dX11_seenBits_0 (by decide) ?_
  refine lv_istore_n (lv' := [(2, .int (0 : Int32)), (0, .ref (g_t 0)), (1, .int x1)]) hx hb dX11_seenBits_1 rfl hl (by decide) rfl (fun ls hl => ?_)
  refine lv_iconst (v := 0) hx hb dX11_seenBits_2 (by decide) ?_
  refine lv_istore_n (lv' := [(3, .int (0 : Int32)), (2, .int (0 : Int32)), (0, .ref (g_t 0)), (1, .int x1)]) hx hb dX11_seenBits_3 rfl hl (by decide) rfl (fun ls hl => ?_)
  exact w_X11_seenBits_4 C0 HR fu_ x1 (0 : Int32) (0 : Int32) H locs ls hP hD hS (lv_sub hl [2, 3, 1, 0] rfl) hF

/-! StaggerRadarModel.gapOf(II)I -/
abbrev rmX11_gapOf : Room := { frames := 4, cells := 0, slots := 0, locals := 90 }
theorem fl_X11_gapOf_66 : Cond.fieldLink RX11 66 "StaggerRadarModel" "raised" "I" ∈ wsX11_gapOf := by decide +kernel
theorem iw_X11_gapOf_X11 : ∀ w ∈ u_ws RX11 TX11 30, w ∈ wsX11_gapOf := by decide +kernel
abbrev w_X11_gapOf (K : Nat → ClassId) (g_t : Nat → Nat) (t_raised : Int32) (t_undos : Int32) (t_reached : Int32) (t_length : Int32) (t_begin : Int32) (t_sort : Int32) (t_value : Int32) (t_word : Int64) (t_wrongAt : Int32) (t_badAt : Int32) (t_bad : Int32) (t_read : Int32) (t_pictured : Int32) (t_x : Int32) (t_all : Nat → Int32) (t_loud : Nat → Int32) : va_W := [((g_t 0), .inr (10, [.int t_raised, .ref (g_t 2), .ref (g_t 3), .ref (g_t 4), .ref (g_t 5), .int t_undos, .int t_reached, .int t_length, .int t_begin, .int t_sort, .int t_value, .long t_word, .int t_wrongAt, .int t_badAt, .int t_bad, .ref (g_t 16), .int t_read, .ref (g_t 18), .ref (g_t 19), .ref (g_t 20), .int t_pictured, .ref (g_t 22), .ref (g_t 23), .ref (g_t 24), .ref (g_t 25), .ref (g_t 26), .int t_x, .ref (g_t 28), .ref (g_t 29), .ref (g_t 30)])), ((g_t 2), .inl (K 0, 500, .inl t_all)), ((g_t 18), .inl (K 0, 300, .inl t_loud))]
def J_X11_gapOf_23 (t_all : Nat → Int32) (t_raised : Int32) (t_loud : Nat → Int32) (x1 : Int32) (x2 : Int32) (s1 : Int32) : Option (Int32 × Int32 × (Nat → Int32)) :=
  if s1 ≤ (0 : Int32) then ((F_X11_laysLoud t_all t_loud).bind fun r_2 => (if x2 = (0 : Int32) then ((F_X11_gapAt t_all x1).bind fun r_15 => (some (r_15, s1, r_2))) else (if x2 = (1 : Int32) then ((F_X11_echoesOf t_all r_2 x1).bind fun r_13 => (some (r_13, s1, r_2))) else (if x2 = (2 : Int32) then ((F_X11_seenBits t_all x1).bind fun r_11 => (some (r_11, s1, r_2))) else ((F_X11_gapAt t_all x1).bind fun r_7 => ((F_X11_blindMany t_all r_7).bind fun r_9 => (some (r_9, s1, r_2)))))))) else (some ((0 : Int32), s1, t_loud))
set_option maxHeartbeats 4000000 in
set_option maxRecDepth 100000 in
theorem w_X11_gapOf_23 {p : Program} {l : Launch} {e : Env} {s : State} {m : MethodId} {args : Array Value} {below : List Frame} {meth : Method} {c : Code} {D : va_G} {K : Nat → ClassId} {A : Nat → Prop} {Q : State → Prop} (C0 : cx_ p s m args c cX11_gapOf 3 RX11 wsX11_gapOf D K A) {g_t : Nat → Nat} {t_undos : Int32} {t_reached : Int32} {t_length : Int32} {t_begin : Int32} {t_sort : Int32} {t_value : Int32} {t_word : Int64} {t_wrongAt : Int32} {t_badAt : Int32} {t_bad : Int32} {t_read : Int32} {t_pictured : Int32} {t_x : Int32} {t_all : Nat → Int32} {res : Int32 × Int32 × (Nat → Int32)} (HR : ∀ (pc : Nat) (H : Heap) (locs : List Loc) (ls : Array Slot), decode cX11_gapOf pc = .ok (.ireturn, 1) → va_P D vwCl (w_X11_gapOf K g_t res.2.1 t_undos t_reached t_length t_begin t_sort t_value t_word t_wrongAt t_badAt t_bad t_read t_pictured t_x t_all res.2.2) H → va_D A (w_X11_gapOf K g_t res.2.1 t_undos t_reached t_length t_begin t_sort t_value t_word t_wrongAt t_badAt t_bad t_read t_pictured t_x t_all res.2.2) → va_S A s.heap H locs → W p l e rmX11_gapOf s m args below meth c H locs 0 0 Q (F0 m pc ls [.int res.1]))  :
    ∀ (t_raised : Int32) (t_loud : Nat → Int32) (x1 : Int32) (x2 : Int32) (s1 : Int32) (H : Heap) (locs : List Loc) (ls : Array Slot), va_P D vwCl (w_X11_gapOf K g_t t_raised t_undos t_reached t_length t_begin t_sort t_value t_word t_wrongAt t_badAt t_bad t_read t_pictured t_x t_all t_loud) H → va_D A (w_X11_gapOf K g_t t_raised t_undos t_reached t_length t_begin t_sort t_value t_word t_wrongAt t_badAt t_bad t_read t_pictured t_x t_all t_loud) → va_S A s.heap H locs → lv_has ls 3 [(0, .ref (g_t 0)), (1, .int x1), (2, .int x2)] → J_X11_gapOf_23 t_all t_raised t_loud x1 x2 s1 = some res → W p l e rmX11_gapOf s m args below meth c H locs 0 0 Q (F0 m 23 ls [.int s1, .ref (g_t 0)]) := by
  obtain ⟨⟨hx, hb, hml, hown, hts⟩, hK, -⟩ := id C0
  intro t_raised t_loud x1 x2 s1 H locs ls hP hD hS hl hF
  unfold J_X11_gapOf_23 at hF
  refine va_put (D := D) (ci := 10) (v := .int s1) (ty := .int) (C := RX11) (T := TX11) (N := 30) hx hb hts iw_X11_gapOf_X11 tyX11 tyX11_ok nmX11 hown hK hP hD hS 0 rfl rfl 0 (by decide) (hts _ fl_X11_gapOf_66) (fun _ h9 => h9) rfl (by decide +kernel) rfl rfl (Nat.le_of_ble_eq_true rfl) dX11_gapOf_23 (fun H locs hP hD hS => ?_)
  have hP : va_P D vwCl (w_X11_gapOf K g_t s1 t_undos t_reached t_length t_begin t_sort t_value t_word t_wrongAt t_badAt t_bad t_read t_pictured t_x t_all t_loud) H := hP
  have hD : va_D A (w_X11_gapOf K g_t s1 t_undos t_reached t_length t_begin t_sort t_value t_word t_wrongAt t_badAt t_bad t_read t_pictured t_x t_all t_loud) := hD
  refine lv_aload_n hx hb dX11_gapOf_26 rfl (lv_at hl 0 rfl) ?_
  refine va_get (D := D) (ci := 10) (v := .int s1) (C := RX11) (T := TX11) (N := 30) hx hb hts iw_X11_gapOf_X11 hown hK hP 0 rfl rfl 0 (by decide) (hts _ fl_X11_gapOf_66) (fun _ h9 => h9) rfl dX11_gapOf_27 ?_
  refine lv_if_le (tgt := 35) hx hb dX11_gapOf_30 (by decide) (fun c_1 => ?_) (fun c_1 => ?_)
  · have hF := it_pos c_1 hF
    refine lv_aload_n hx hb dX11_gapOf_35 rfl (lv_at hl 0 rfl) ?_
    obtain ⟨r_2, hc_3, hF⟩ := bn_some hF
    refine xc_v (wn := (w_X11_gapOf K g_t s1 t_undos t_reached t_length t_begin t_sort t_value t_word t_wrongAt t_badAt t_bad t_read t_pictured t_x t_all r_2)) hP hD hS C0.2.2.1 [0, 1, 2] [] [0, 1, 2] rfl rfl (by decide) (by decide) rfl (by decide) (va_runV (As := []) (rest := []) C0.1 (c_X11_laysLoud l D K g_t s1 t_undos t_reached t_length t_begin t_sort t_value t_word t_wrongAt t_badAt t_bad t_read t_pictured t_x t_all t_loud r_2 hc_3 H.size) (cwV 0 hts gX11_gapOf_X11_laysLoud rfl rfl rfl (by decide +kernel) ⟨Nat.le_of_ble_eq_true rfl, Nat.le_of_ble_eq_true rfl⟩) (xp_V C0.2 hP hD hS [0, 1, 2] rfl (by decide) 10 0 rfl rfl rfl) rfl rfl hl.1 rfl (lv_room (Nat.le_of_ble_eq_true rfl)) dX11_gapOf_36 ⟨Nat.le_of_ble_eq_true rfl, Nat.le_of_ble_eq_true rfl⟩) (fun H locs hP hD hS => ?_)
    refine lv_iload_n hx hb dX11_gapOf_39 rfl (lv_at hl 2 rfl) ?_
    refine lv_if_ne (tgt := 51) hx hb dX11_gapOf_40 (by decide) (fun c_4 => ?_) (fun c_4 => ?_)
    · have hF := it_neg c_4 hF
      refine lv_iload_n hx hb dX11_gapOf_51 rfl (lv_at hl 2 rfl) ?_
      refine lv_iconst (v := 1) hx hb dX11_gapOf_52 (by decide) ?_
      refine lv_icmp_ne (tgt := 64) hx hb dX11_gapOf_53 (by decide) (fun c_5 => ?_) (fun c_5 => ?_)
      · have hF := it_neg c_5 hF
        refine lv_iload_n hx hb dX11_gapOf_64 rfl (lv_at hl 2 rfl) ?_
        refine lv_iconst (v := 2) hx hb dX11_gapOf_65 (by decide) ?_
        refine lv_icmp_ne (tgt := 77) hx hb dX11_gapOf_66 (by decide) (fun c_6 => ?_) (fun c_6 => ?_)
        · have hF := it_neg c_6 hF
          refine lv_aload_n hx hb dX11_gapOf_77 rfl (lv_at hl 0 rfl) ?_
          refine lv_aload_n hx hb dX11_gapOf_78 rfl (lv_at hl 0 rfl) ?_
          refine lv_iload_n hx hb dX11_gapOf_79 rfl (lv_at hl 1 rfl) ?_
          obtain ⟨r_7, hc_8, hF⟩ := bn_some hF
          refine xc_i (wn := (w_X11_gapOf K g_t s1 t_undos t_reached t_length t_begin t_sort t_value t_word t_wrongAt t_badAt t_bad t_read t_pictured t_x t_all r_2)) hP hD hS C0.2.2.1 [0, 1] [2] [1, 2, 0] rfl rfl (by decide) (by decide) rfl (by decide) (va_runV (As := [.int x1]) (rest := [.ref (g_t 0)]) C0.1 (c_X11_gapAt l D K g_t s1 t_undos t_reached t_length t_begin t_sort t_value t_word t_wrongAt t_badAt t_bad t_read t_pictured t_x t_all x1 r_7 hc_8 H.size) (cwV 1 hts gX11_gapOf_X11_gapAt rfl rfl rfl (by decide +kernel) ⟨Nat.le_of_ble_eq_true rfl, Nat.le_of_ble_eq_true rfl⟩) (xp_V C0.2 hP hD hS [0, 1] rfl (by decide) 10 0 rfl rfl rfl) rfl rfl hl.1 rfl (lv_room (Nat.le_of_ble_eq_true rfl)) dX11_gapOf_80 ⟨Nat.le_of_ble_eq_true rfl, Nat.le_of_ble_eq_true rfl⟩) (fun H locs hP hD hS => ?_)
          obtain ⟨r_9, hc_10, hF⟩ := bn_some hF
          refine xc_i (wn := (w_X11_gapOf K g_t s1 t_undos t_reached t_length t_begin t_sort t_value t_word t_wrongAt t_badAt t_bad t_read t_pictured t_x t_all r_2)) hP hD hS C0.2.2.1 [0, 1] [2] [1, 2, 0] rfl rfl (by decide) (by decide) rfl (by decide) (va_runV (As := [.int r_7]) (rest := []) C0.1 (c_X11_blindMany l D K g_t s1 t_undos t_reached t_length t_begin t_sort t_value t_word t_wrongAt t_badAt t_bad t_read t_pictured t_x t_all r_7 r_9 hc_10 H.size) (cwV 1 hts gX11_gapOf_X11_blindMany rfl rfl rfl (by decide +kernel) ⟨Nat.le_of_ble_eq_true rfl, Nat.le_of_ble_eq_true rfl⟩) (xp_V C0.2 hP hD hS [0, 1] rfl (by decide) 10 0 rfl rfl rfl) rfl rfl hl.1 rfl (lv_room (Nat.le_of_ble_eq_true rfl)) dX11_gapOf_83 ⟨Nat.le_of_ble_eq_true rfl, Nat.le_of_ble_eq_true rfl⟩) (fun H locs hP hD hS => ?_)
          obtain rfl := Option.some.inj hF
          exact HR 86 H locs ls dX11_gapOf_86 hP hD hS
        · have hF := it_pos c_6 hF
          refine lv_aload_n hx hb dX11_gapOf_69 rfl (lv_at hl 0 rfl) ?_
          refine lv_iload_n hx hb dX11_gapOf_70 rfl (lv_at hl 1 rfl) ?_
          obtain ⟨r_11, hc_12, hF⟩ := bn_some hF
          refine xc_i (wn := (w_X11_gapOf K g_t s1 t_undos t_reached t_length t_begin t_sort t_value t_word t_wrongAt t_badAt t_bad t_read t_pictured t_x t_all r_2)) hP hD hS C0.2.2.1 [0, 1] [2] [1, 2, 0] rfl rfl (by decide) (by decide) rfl (by decide) (va_runV (As := [.int x1]) (rest := []) C0.1 (c_X11_seenBits l D K g_t s1 t_undos t_reached t_length t_begin t_sort t_value t_word t_wrongAt t_badAt t_bad t_read t_pictured t_x t_all x1 r_11 hc_12 H.size) (cwV 1 hts gX11_gapOf_X11_seenBits rfl rfl rfl (by decide +kernel) ⟨Nat.le_of_ble_eq_true rfl, Nat.le_of_ble_eq_true rfl⟩) (xp_V C0.2 hP hD hS [0, 1] rfl (by decide) 10 0 rfl rfl rfl) rfl rfl hl.1 rfl (lv_room (Nat.le_of_ble_eq_true rfl)) dX11_gapOf_71 ⟨Nat.le_of_ble_eq_true rfl, Nat.le_of_ble_eq_true rfl⟩) (fun H locs hP hD hS => ?_)
          refine lv_goto (tgt := 86) hx hb dX11_gapOf_74 (by decide) ?_
          obtain rfl := Option.some.inj hF
          exact HR 86 H locs ls dX11_gapOf_86 hP hD hS
      · have hF := it_pos c_5 hF
        refine lv_aload_n hx hb dX11_gapOf_56 rfl (lv_at hl 0 rfl) ?_
        refine lv_iload_n hx hb dX11_gapOf_57 rfl (lv_at hl 1 rfl) ?_
        obtain ⟨r_13, hc_14, hF⟩ := bn_some hF
        refine xc_i (wn := (w_X11_gapOf K g_t s1 t_undos t_reached t_length t_begin t_sort t_value t_word t_wrongAt t_badAt t_bad t_read t_pictured t_x t_all r_2)) hP hD hS C0.2.2.1 [0, 1, 2] [] [0, 1, 2] rfl rfl (by decide) (by decide) rfl (by decide) (va_runV (As := [.int x1]) (rest := []) C0.1 (c_X11_echoesOf l D K g_t s1 t_undos t_reached t_length t_begin t_sort t_value t_word t_wrongAt t_badAt t_bad t_read t_pictured t_x t_all r_2 x1 r_13 hc_14 H.size) (cwV 1 hts gX11_gapOf_X11_echoesOf rfl rfl rfl (by decide +kernel) ⟨Nat.le_of_ble_eq_true rfl, Nat.le_of_ble_eq_true rfl⟩) (xp_V C0.2 hP hD hS [0, 1, 2] rfl (by decide) 10 0 rfl rfl rfl) rfl rfl hl.1 rfl (lv_room (Nat.le_of_ble_eq_true rfl)) dX11_gapOf_58 ⟨Nat.le_of_ble_eq_true rfl, Nat.le_of_ble_eq_true rfl⟩) (fun H locs hP hD hS => ?_)
        refine lv_goto (tgt := 86) hx hb dX11_gapOf_61 (by decide) ?_
        obtain rfl := Option.some.inj hF
        exact HR 86 H locs ls dX11_gapOf_86 hP hD hS
    · have hF := it_pos c_4 hF
      refine lv_aload_n hx hb dX11_gapOf_43 rfl (lv_at hl 0 rfl) ?_
      refine lv_iload_n hx hb dX11_gapOf_44 rfl (lv_at hl 1 rfl) ?_
      obtain ⟨r_15, hc_16, hF⟩ := bn_some hF
      refine xc_i (wn := (w_X11_gapOf K g_t s1 t_undos t_reached t_length t_begin t_sort t_value t_word t_wrongAt t_badAt t_bad t_read t_pictured t_x t_all r_2)) hP hD hS C0.2.2.1 [0, 1] [2] [1, 2, 0] rfl rfl (by decide) (by decide) rfl (by decide) (va_runV (As := [.int x1]) (rest := []) C0.1 (c_X11_gapAt l D K g_t s1 t_undos t_reached t_length t_begin t_sort t_value t_word t_wrongAt t_badAt t_bad t_read t_pictured t_x t_all x1 r_15 hc_16 H.size) (cwV 1 hts gX11_gapOf_X11_gapAt rfl rfl rfl (by decide +kernel) ⟨Nat.le_of_ble_eq_true rfl, Nat.le_of_ble_eq_true rfl⟩) (xp_V C0.2 hP hD hS [0, 1] rfl (by decide) 10 0 rfl rfl rfl) rfl rfl hl.1 rfl (lv_room (Nat.le_of_ble_eq_true rfl)) dX11_gapOf_45 ⟨Nat.le_of_ble_eq_true rfl, Nat.le_of_ble_eq_true rfl⟩) (fun H locs hP hD hS => ?_)
      refine lv_goto (tgt := 86) hx hb dX11_gapOf_48 (by decide) ?_
      obtain rfl := Option.some.inj hF
      exact HR 86 H locs ls dX11_gapOf_86 hP hD hS
  · have hF := it_neg c_1 hF
    refine lv_iconst (v := 0) hx hb dX11_gapOf_33 (by decide) ?_
    obtain rfl := Option.some.inj hF
    exact HR 34 H locs ls dX11_gapOf_34 hP hD hS
def J_X11_gapOf_22 (t_all : Nat → Int32) (t_raised : Int32) (t_loud : Nat → Int32) (x1 : Int32) (x2 : Int32) : Option (Int32 × Int32 × (Nat → Int32)) :=
  J_X11_gapOf_23 t_all t_raised t_loud x1 x2 (1 : Int32)
set_option maxHeartbeats 4000000 in
set_option maxRecDepth 100000 in
theorem w_X11_gapOf_22 {p : Program} {l : Launch} {e : Env} {s : State} {m : MethodId} {args : Array Value} {below : List Frame} {meth : Method} {c : Code} {D : va_G} {K : Nat → ClassId} {A : Nat → Prop} {Q : State → Prop} (C0 : cx_ p s m args c cX11_gapOf 3 RX11 wsX11_gapOf D K A) {g_t : Nat → Nat} {t_undos : Int32} {t_reached : Int32} {t_length : Int32} {t_begin : Int32} {t_sort : Int32} {t_value : Int32} {t_word : Int64} {t_wrongAt : Int32} {t_badAt : Int32} {t_bad : Int32} {t_read : Int32} {t_pictured : Int32} {t_x : Int32} {t_all : Nat → Int32} {res : Int32 × Int32 × (Nat → Int32)} (HR : ∀ (pc : Nat) (H : Heap) (locs : List Loc) (ls : Array Slot), decode cX11_gapOf pc = .ok (.ireturn, 1) → va_P D vwCl (w_X11_gapOf K g_t res.2.1 t_undos t_reached t_length t_begin t_sort t_value t_word t_wrongAt t_badAt t_bad t_read t_pictured t_x t_all res.2.2) H → va_D A (w_X11_gapOf K g_t res.2.1 t_undos t_reached t_length t_begin t_sort t_value t_word t_wrongAt t_badAt t_bad t_read t_pictured t_x t_all res.2.2) → va_S A s.heap H locs → W p l e rmX11_gapOf s m args below meth c H locs 0 0 Q (F0 m pc ls [.int res.1]))  :
    ∀ (t_raised : Int32) (t_loud : Nat → Int32) (x1 : Int32) (x2 : Int32) (H : Heap) (locs : List Loc) (ls : Array Slot), va_P D vwCl (w_X11_gapOf K g_t t_raised t_undos t_reached t_length t_begin t_sort t_value t_word t_wrongAt t_badAt t_bad t_read t_pictured t_x t_all t_loud) H → va_D A (w_X11_gapOf K g_t t_raised t_undos t_reached t_length t_begin t_sort t_value t_word t_wrongAt t_badAt t_bad t_read t_pictured t_x t_all t_loud) → va_S A s.heap H locs → lv_has ls 3 [(0, .ref (g_t 0)), (1, .int x1), (2, .int x2)] → J_X11_gapOf_22 t_all t_raised t_loud x1 x2 = some res → W p l e rmX11_gapOf s m args below meth c H locs 0 0 Q (F0 m 22 ls [.ref (g_t 0)]) := by
  obtain ⟨⟨hx, hb, hml, hown, hts⟩, hK, -⟩ := id C0
  intro t_raised t_loud x1 x2 H locs ls hP hD hS hl hF
  unfold J_X11_gapOf_22 at hF
  refine lv_iconst (v := 1) hx hb dX11_gapOf_22 (by decide) ?_
  exact w_X11_gapOf_23 C0 HR t_raised t_loud x1 x2 (1 : Int32) H locs ls hP hD hS (lv_sub hl [0, 1, 2] rfl) hF
def F_X11_gapOf (t_raised : Int32) (t_all : Nat → Int32) (t_loud : Nat → Int32) (x1 : Int32) (x2 : Int32) : Option (Int32 × Int32 × (Nat → Int32)) :=
  (F_X11_isGap t_all x1).bind fun r_1 => (if r_1 = (0 : Int32) then (J_X11_gapOf_22 t_all t_raised t_loud x1 x2) else ((F_X11_in x2 (0 : Int32) (3 : Int32)).bind fun r_4 => (if r_4 = (0 : Int32) then (J_X11_gapOf_22 t_all t_raised t_loud x1 x2) else (J_X11_gapOf_23 t_all t_raised t_loud x1 x2 (0 : Int32)))))
set_option maxHeartbeats 4000000 in
set_option maxRecDepth 100000 in
theorem c_X11_gapOf (l : Launch) (D : va_G) (K : Nat → ClassId) (g_t : Nat → Nat) (t_raised : Int32) (t_undos : Int32) (t_reached : Int32) (t_length : Int32) (t_begin : Int32) (t_sort : Int32) (t_value : Int32) (t_word : Int64) (t_wrongAt : Int32) (t_badAt : Int32) (t_bad : Int32) (t_read : Int32) (t_pictured : Int32) (t_x : Int32) (t_all : Nat → Int32) (t_loud : Nat → Int32) (x1 : Int32) (x2 : Int32) (res : Int32 × Int32 × (Nat → Int32)) (hF : F_X11_gapOf t_raised t_all t_loud x1 x2 = some res) :
    Mi_ l yX11_gapOf wsX11_gapOf rmX11_gapOf D K [.ref (g_t 0), .int x1, .int x2] (w_X11_gapOf K g_t t_raised t_undos t_reached t_length t_begin t_sort t_value t_word t_wrongAt t_badAt t_bad t_read t_pictured t_x t_all t_loud) (w_X11_gapOf K g_t res.2.1 t_undos t_reached t_length t_begin t_sort t_value t_word t_wrongAt t_badAt t_bad t_read t_pictured t_x t_all res.2.2) (res.1) := by
  refine en_i (cc := cX11_gapOf) (maxL := 3) (own := RX11) (by decide) rfl rfl (Nat.le_of_ble_eq_true rfl) ?_
  intro p e s m args below meth c A Q H locs ls C0 hP hD hS hl HR
  obtain ⟨⟨hx, hb, hml, hown, hts⟩, hK, -⟩ := id C0
  have hl : lv_has ls 3 [(0, .ref (g_t 0)), (1, .int x1), (2, .int x2)] := hl
  unfold F_X11_gapOf at hF
  refine lv_aload_n hx hb dX11_gapOf_0 rfl (lv_at hl 0 rfl) ?_
  refine lv_aload_n hx hb dX11_gapOf_1 rfl (lv_at hl 0 rfl) ?_
  refine lv_iload_n hx hb dX11_gapOf_2 rfl (lv_at hl 1 rfl) ?_
  obtain ⟨r_1, hc_2, hF⟩ := bn_some hF
  refine xc_i (wn := (w_X11_gapOf K g_t t_raised t_undos t_reached t_length t_begin t_sort t_value t_word t_wrongAt t_badAt t_bad t_read t_pictured t_x t_all t_loud)) hP hD hS C0.2.2.1 [0, 1] [2] [1, 2, 0] rfl rfl (by decide) (by decide) rfl (by decide) (va_runV (As := [.int x1]) (rest := [.ref (g_t 0)]) C0.1 (c_X11_isGap l D K g_t t_raised t_undos t_reached t_length t_begin t_sort t_value t_word t_wrongAt t_badAt t_bad t_read t_pictured t_x t_all x1 r_1 hc_2 H.size) (cwV 1 hts gX11_gapOf_X11_isGap rfl rfl rfl (by decide +kernel) ⟨Nat.le_of_ble_eq_true rfl, Nat.le_of_ble_eq_true rfl⟩) (xp_V C0.2 hP hD hS [0, 1] rfl (by decide) 10 0 rfl rfl rfl) rfl rfl hl.1 rfl (lv_room (Nat.le_of_ble_eq_true rfl)) dX11_gapOf_3 ⟨Nat.le_of_ble_eq_true rfl, Nat.le_of_ble_eq_true rfl⟩) (fun H locs hP hD hS => ?_)
  refine lv_if_eq (tgt := 22) hx hb dX11_gapOf_6 (by decide) (fun c_3 => ?_) (fun c_3 => ?_)
  · have hF := it_pos c_3 hF
    exact w_X11_gapOf_22 C0 HR t_raised t_loud x1 x2 H locs ls hP hD hS (lv_sub hl [0, 1, 2] rfl) hF
  · have hF := it_neg c_3 hF
    refine lv_iload_n hx hb dX11_gapOf_9 rfl (lv_at hl 2 rfl) ?_
    refine lv_iconst (v := 0) hx hb dX11_gapOf_10 (by decide) ?_
    refine lv_iconst (v := 3) hx hb dX11_gapOf_11 (by decide) ?_
    obtain ⟨r_4, hc_5, hF⟩ := bn_some hF
    refine xc_i (wn := (w_X11_gapOf K g_t t_raised t_undos t_reached t_length t_begin t_sort t_value t_word t_wrongAt t_badAt t_bad t_read t_pictured t_x t_all t_loud)) hP hD hS C0.2.2.1 [] [0, 1, 2] [0, 1, 2] rfl rfl (by decide) (by decide) rfl (by decide) (va_runS (As := [.int x2, .int (0 : Int32), .int (3 : Int32)]) (rest := [.ref (g_t 0)]) C0.1 (c_X11_in l D K x2 (0 : Int32) (3 : Int32) r_4 hc_5 H.size) (va_cwS 3 hts gX11_gapOf_X11_in rfl rfl rfl (by decide +kernel) ⟨Nat.le_of_ble_eq_true rfl, Nat.le_of_ble_eq_true rfl⟩) (xp_S C0.2 hP hD hS [] rfl (by decide)) rfl rfl hl.1 rfl (lv_room (Nat.le_of_ble_eq_true rfl)) dX11_gapOf_12 ⟨Nat.le_of_ble_eq_true rfl, Nat.le_of_ble_eq_true rfl⟩) (fun H locs hP hD hS => ?_)
    refine lv_if_eq (tgt := 22) hx hb dX11_gapOf_15 (by decide) (fun c_6 => ?_) (fun c_6 => ?_)
    · have hF := it_pos c_6 hF
      exact w_X11_gapOf_22 C0 HR t_raised t_loud x1 x2 H locs ls hP hD hS (lv_sub hl [0, 1, 2] rfl) hF
    · have hF := it_neg c_6 hF
      refine lv_iconst (v := 0) hx hb dX11_gapOf_18 (by decide) ?_
      refine lv_goto (tgt := 23) hx hb dX11_gapOf_19 (by decide) ?_
      exact w_X11_gapOf_23 C0 HR t_raised t_loud x1 x2 (0 : Int32) H locs ls hP hD hS (lv_sub hl [0, 1, 2] rfl) hF

/-! StaggerRadarModel.goes(I)V -/
abbrev rmX11_goes : Room := { frames := 0, cells := 0, slots := 0, locals := 0 }
theorem fl_X11_goes_7 : Cond.fieldLink RX11 7 "StaggerRadarModel" "all" "[I" ∈ wsX11_goes := by decide +kernel
theorem iw_X11_goes_X11 : ∀ w ∈ u_ws RX11 TX11 30, w ∈ wsX11_goes := by decide +kernel
abbrev w_X11_goes (K : Nat → ClassId) (g_t : Nat → Nat) (t_raised : Int32) (t_undos : Int32) (t_reached : Int32) (t_length : Int32) (t_begin : Int32) (t_sort : Int32) (t_value : Int32) (t_word : Int64) (t_wrongAt : Int32) (t_badAt : Int32) (t_bad : Int32) (t_read : Int32) (t_pictured : Int32) (t_x : Int32) (t_all : Nat → Int32) : va_W := [((g_t 0), .inr (10, [.int t_raised, .ref (g_t 2), .ref (g_t 3), .ref (g_t 4), .ref (g_t 5), .int t_undos, .int t_reached, .int t_length, .int t_begin, .int t_sort, .int t_value, .long t_word, .int t_wrongAt, .int t_badAt, .int t_bad, .ref (g_t 16), .int t_read, .ref (g_t 18), .ref (g_t 19), .ref (g_t 20), .int t_pictured, .ref (g_t 22), .ref (g_t 23), .ref (g_t 24), .ref (g_t 25), .ref (g_t 26), .int t_x, .ref (g_t 28), .ref (g_t 29), .ref (g_t 30)])), ((g_t 2), .inl (K 0, 500, .inl t_all))]
def J_X11_goes_45 (t_all : Nat → Int32) : Option ((Nat → Int32)) :=
  some (upd t_all 13 ((t_all 13) - (1 : Int32)))
set_option maxHeartbeats 4000000 in
set_option maxRecDepth 100000 in
theorem w_X11_goes_45 {p : Program} {l : Launch} {e : Env} {s : State} {m : MethodId} {args : Array Value} {below : List Frame} {meth : Method} {c : Code} {D : va_G} {K : Nat → ClassId} {A : Nat → Prop} {Q : State → Prop} (C0 : cx_ p s m args c cX11_goes 3 RX11 wsX11_goes D K A) {g_t : Nat → Nat} {t_raised : Int32} {t_undos : Int32} {t_reached : Int32} {t_length : Int32} {t_begin : Int32} {t_sort : Int32} {t_value : Int32} {t_word : Int64} {t_wrongAt : Int32} {t_badAt : Int32} {t_bad : Int32} {t_read : Int32} {t_pictured : Int32} {t_x : Int32} {res : (Nat → Int32)} (HR : ∀ (pc : Nat) (H : Heap) (locs : List Loc) (ls : Array Slot), decode cX11_goes pc = .ok (.return_, 1) → va_P D vwCl (w_X11_goes K g_t t_raised t_undos t_reached t_length t_begin t_sort t_value t_word t_wrongAt t_badAt t_bad t_read t_pictured t_x res) H → va_D A (w_X11_goes K g_t t_raised t_undos t_reached t_length t_begin t_sort t_value t_word t_wrongAt t_badAt t_bad t_read t_pictured t_x res) → va_S A s.heap H locs → W p l e rmX11_goes s m args below meth c H locs 0 0 Q (F0 m pc ls []))  :
    ∀ (t_all : Nat → Int32) (H : Heap) (locs : List Loc) (ls : Array Slot), va_P D vwCl (w_X11_goes K g_t t_raised t_undos t_reached t_length t_begin t_sort t_value t_word t_wrongAt t_badAt t_bad t_read t_pictured t_x t_all) H → va_D A (w_X11_goes K g_t t_raised t_undos t_reached t_length t_begin t_sort t_value t_word t_wrongAt t_badAt t_bad t_read t_pictured t_x t_all) → va_S A s.heap H locs → lv_has ls 3 [(0, .ref (g_t 0))] → J_X11_goes_45 t_all = some res → W p l e rmX11_goes s m args below meth c H locs 0 0 Q (F0 m 45 ls []) := by
  obtain ⟨⟨hx, hb, hml, hown, hts⟩, hK, -⟩ := id C0
  intro t_all H locs ls hP hD hS hl hF
  unfold J_X11_goes_45 at hF
  refine lv_aload_n hx hb dX11_goes_45 rfl (lv_at hl 0 rfl) ?_
  refine va_get (D := D) (ci := 10) (v := .ref (g_t 2)) (C := RX11) (T := TX11) (N := 30) hx hb hts iw_X11_goes_X11 hown hK hP 0 rfl rfl 1 (by decide) (hts _ fl_X11_goes_7) (fun _ h9 => h9) rfl dX11_goes_46 ?_
  refine lv_bipush (v := 13) hx hb dX11_goes_49 (by decide) ?_
  refine lv_dup2_11 hx hb dX11_goes_51 rfl rfl ?_
  refine xl_i (f := t_all) hx hb hK hP 1 0 rfl rfl (k := 13) (by decide) (in_v (by decide)) dX11_goes_52 ?_
  refine lv_iconst (v := 1) hx hb dX11_goes_53 (by decide) ?_
  refine lv_isub hx hb dX11_goes_54 ?_
  refine xs_i (f := t_all) hx hb hK hP hD hS 1 0 rfl rfl (k := 13) (by decide) (in_v (by decide)) dX11_goes_55 (fun H locs hP hD hS => ?_)
  have hP : va_P D vwCl (w_X11_goes K g_t t_raised t_undos t_reached t_length t_begin t_sort t_value t_word t_wrongAt t_badAt t_bad t_read t_pictured t_x (upd t_all 13 ((t_all 13) - (1 : Int32)))) H := hP
  have hD : va_D A (w_X11_goes K g_t t_raised t_undos t_reached t_length t_begin t_sort t_value t_word t_wrongAt t_badAt t_bad t_read t_pictured t_x (upd t_all 13 ((t_all 13) - (1 : Int32)))) := hD
  obtain rfl := Option.some.inj hF
  exact HR 56 H locs ls dX11_goes_56 hP hD hS
def L_X11_goes_7  : Nat → (Nat → Int32) → Int32 → Option ((Nat → Int32))
  | 0, _, _ => none
  | n_ + 1, t_all, x2 =>
    if (((14 : Int32) + ((3 : Int32) * (t_all 13))) - (3 : Int32)) ≤ x2 then (J_X11_goes_45 t_all) else (gd_ (in_b (x2 + (3 : Int32)) 500) (gd_ (in_b x2 500) (L_X11_goes_7 n_ (upd t_all (x2).toNatClampNeg (t_all (x2 + (3 : Int32)).toNatClampNeg)) (x2 + (1 : Int32)))))
set_option maxHeartbeats 4000000 in
set_option maxRecDepth 100000 in
theorem w_X11_goes_7 {p : Program} {l : Launch} {e : Env} {s : State} {m : MethodId} {args : Array Value} {below : List Frame} {meth : Method} {c : Code} {D : va_G} {K : Nat → ClassId} {A : Nat → Prop} {Q : State → Prop} (C0 : cx_ p s m args c cX11_goes 3 RX11 wsX11_goes D K A) {g_t : Nat → Nat} {t_raised : Int32} {t_undos : Int32} {t_reached : Int32} {t_length : Int32} {t_begin : Int32} {t_sort : Int32} {t_value : Int32} {t_word : Int64} {t_wrongAt : Int32} {t_badAt : Int32} {t_bad : Int32} {t_read : Int32} {t_pictured : Int32} {t_x : Int32} {res : (Nat → Int32)} (HR : ∀ (pc : Nat) (H : Heap) (locs : List Loc) (ls : Array Slot), decode cX11_goes pc = .ok (.return_, 1) → va_P D vwCl (w_X11_goes K g_t t_raised t_undos t_reached t_length t_begin t_sort t_value t_word t_wrongAt t_badAt t_bad t_read t_pictured t_x res) H → va_D A (w_X11_goes K g_t t_raised t_undos t_reached t_length t_begin t_sort t_value t_word t_wrongAt t_badAt t_bad t_read t_pictured t_x res) → va_S A s.heap H locs → W p l e rmX11_goes s m args below meth c H locs 0 0 Q (F0 m pc ls []))  :
    ∀ (n_ : Nat) (t_all : Nat → Int32) (x2 : Int32) (H : Heap) (locs : List Loc) (ls : Array Slot), va_P D vwCl (w_X11_goes K g_t t_raised t_undos t_reached t_length t_begin t_sort t_value t_word t_wrongAt t_badAt t_bad t_read t_pictured t_x t_all) H → va_D A (w_X11_goes K g_t t_raised t_undos t_reached t_length t_begin t_sort t_value t_word t_wrongAt t_badAt t_bad t_read t_pictured t_x t_all) → va_S A s.heap H locs → lv_has ls 3 [(0, .ref (g_t 0)), (2, .int x2)] → L_X11_goes_7 n_ t_all x2 = some res → W p l e rmX11_goes s m args below meth c H locs 0 0 Q (F0 m 7 ls []) := by
  obtain ⟨⟨hx, hb, hml, hown, hts⟩, hK, -⟩ := id C0
  intro n_
  induction n_ with
  | zero =>
    intro t_all x2 H locs ls hP hD hS hl hF
    exact no_s (show (none : Option ((Nat → Int32))) = some res from hF)
  | succ n_ ih =>
    intro t_all x2 H locs ls hP hD hS hl hF
    rw [L_X11_goes_7] at hF
    refine lv_iload_n hx hb dX11_goes_7 rfl (lv_at hl 1 rfl) ?_
    refine lv_bipush (v := 14) hx hb dX11_goes_8 (by decide) ?_
    refine lv_iconst (v := 3) hx hb dX11_goes_10 (by decide) ?_
    refine lv_aload_n hx hb dX11_goes_11 rfl (lv_at hl 0 rfl) ?_
    refine va_get (D := D) (ci := 10) (v := .ref (g_t 2)) (C := RX11) (T := TX11) (N := 30) hx hb hts iw_X11_goes_X11 hown hK hP 0 rfl rfl 1 (by decide) (hts _ fl_X11_goes_7) (fun _ h9 => h9) rfl dX11_goes_12 ?_
    refine lv_bipush (v := 13) hx hb dX11_goes_15 (by decide) ?_
    refine xl_i (f := t_all) hx hb hK hP 1 0 rfl rfl (k := 13) (by decide) (in_v (by decide)) dX11_goes_17 ?_
    refine lv_imul hx hb dX11_goes_18 ?_
    refine lv_iadd hx hb dX11_goes_19 ?_
    refine lv_iconst (v := 3) hx hb dX11_goes_20 (by decide) ?_
    refine lv_isub hx hb dX11_goes_21 ?_
    refine lv_icmp_ge (tgt := 45) hx hb dX11_goes_22 (by decide) (fun c_1 => ?_) (fun c_1 => ?_)
    · have hF := it_pos c_1 hF
      exact w_X11_goes_45 C0 HR t_all H locs ls hP hD hS (lv_sub hl [0] rfl) hF
    · have hF := it_neg c_1 hF
      refine lv_aload_n hx hb dX11_goes_25 rfl (lv_at hl 0 rfl) ?_
      refine va_get (D := D) (ci := 10) (v := .ref (g_t 2)) (C := RX11) (T := TX11) (N := 30) hx hb hts iw_X11_goes_X11 hown hK hP 0 rfl rfl 1 (by decide) (hts _ fl_X11_goes_7) (fun _ h9 => h9) rfl dX11_goes_26 ?_
      refine lv_iload_n hx hb dX11_goes_29 rfl (lv_at hl 1 rfl) ?_
      refine lv_aload_n hx hb dX11_goes_30 rfl (lv_at hl 0 rfl) ?_
      refine va_get (D := D) (ci := 10) (v := .ref (g_t 2)) (C := RX11) (T := TX11) (N := 30) hx hb hts iw_X11_goes_X11 hown hK hP 0 rfl rfl 1 (by decide) (hts _ fl_X11_goes_7) (fun _ h9 => h9) rfl dX11_goes_31 ?_
      refine lv_iload_n hx hb dX11_goes_34 rfl (lv_at hl 1 rfl) ?_
      refine lv_iconst (v := 3) hx hb dX11_goes_35 (by decide) ?_
      refine lv_iadd hx hb dX11_goes_36 ?_
      obtain ⟨hg_2, hF⟩ := gd_some hF
      refine xl_i (f := t_all) hx hb hK hP 1 0 rfl rfl rfl (in_v hg_2) dX11_goes_37 ?_
      obtain ⟨hg_3, hF⟩ := gd_some hF
      refine xs_i (f := t_all) hx hb hK hP hD hS 1 0 rfl rfl rfl (in_v hg_3) dX11_goes_38 (fun H locs hP hD hS => ?_)
      have hP : va_P D vwCl (w_X11_goes K g_t t_raised t_undos t_reached t_length t_begin t_sort t_value t_word t_wrongAt t_badAt t_bad t_read t_pictured t_x (upd t_all (x2).toNatClampNeg (t_all (x2 + (3 : Int32)).toNatClampNeg))) H := hP
      have hD : va_D A (w_X11_goes K g_t t_raised t_undos t_reached t_length t_begin t_sort t_value t_word t_wrongAt t_badAt t_bad t_read t_pictured t_x (upd t_all (x2).toNatClampNeg (t_all (x2 + (3 : Int32)).toNatClampNeg))) := hD
      refine lv_iinc (v := (x2 + (1 : Int32))) (lv' := [(2, .int (x2 + (1 : Int32))), (0, .ref (g_t 0))]) hx hb dX11_goes_39 hl (k := 1) rfl (congrArg (fun z => x2 + z) (by decide)) (by decide) rfl (fun ls hl => ?_)
      refine lv_goto (tgt := 7) hx hb dX11_goes_42 (by decide) ?_
      exact ih (upd t_all (x2).toNatClampNeg (t_all (x2 + (3 : Int32)).toNatClampNeg)) (x2 + (1 : Int32)) H locs ls hP hD hS (lv_sub hl [1, 0] rfl) hF
def F_X11_goes (t_all : Nat → Int32) (x1 : Int32) : Option ((Nat → Int32)) :=
  L_X11_goes_7 fu_ t_all ((14 : Int32) + ((3 : Int32) * x1))
set_option maxHeartbeats 4000000 in
set_option maxRecDepth 100000 in
theorem c_X11_goes (l : Launch) (D : va_G) (K : Nat → ClassId) (g_t : Nat → Nat) (t_raised : Int32) (t_undos : Int32) (t_reached : Int32) (t_length : Int32) (t_begin : Int32) (t_sort : Int32) (t_value : Int32) (t_word : Int64) (t_wrongAt : Int32) (t_badAt : Int32) (t_bad : Int32) (t_read : Int32) (t_pictured : Int32) (t_x : Int32) (t_all : Nat → Int32) (x1 : Int32) (res : (Nat → Int32)) (hF : F_X11_goes t_all x1 = some res) :
    Mv_ l yX11_goes wsX11_goes rmX11_goes D K [.ref (g_t 0), .int x1] (w_X11_goes K g_t t_raised t_undos t_reached t_length t_begin t_sort t_value t_word t_wrongAt t_badAt t_bad t_read t_pictured t_x t_all) (w_X11_goes K g_t t_raised t_undos t_reached t_length t_begin t_sort t_value t_word t_wrongAt t_badAt t_bad t_read t_pictured t_x res) := by
  refine en_v (cc := cX11_goes) (maxL := 3) (own := RX11) (by decide) rfl rfl (Nat.le_of_ble_eq_true rfl) ?_
  intro p e s m args below meth c A Q H locs ls C0 hP hD hS hl HR
  obtain ⟨⟨hx, hb, hml, hown, hts⟩, hK, -⟩ := id C0
  have hl : lv_has ls 3 [(0, .ref (g_t 0)), (1, .int x1)] := hl
  unfold F_X11_goes at hF
  refine lv_bipush (v := 14) hx hb dX11_goes_0 (by decide) ?_
  refine lv_iconst (v := 3) hx hb dX11_goes_2 (by decide) ?_
  refine lv_iload_n hx hb dX11_goes_3 rfl (lv_at hl 1 rfl) ?_
  refine lv_imul hx hb dX11_goes_4 ?_
  refine lv_iadd hx hb dX11_goes_5 ?_
  refine lv_istore_n (lv' := [(2, .int ((14 : Int32) + ((3 : Int32) * x1))), (0, .ref (g_t 0)), (1, .int x1)]) hx hb dX11_goes_6 rfl hl (by decide) rfl (fun ls hl => ?_)
  exact w_X11_goes_7 C0 HR fu_ t_all ((14 : Int32) + ((3 : Int32) * x1)) H locs ls hP hD hS (lv_sub hl [1, 0] rfl) hF

/-! StaggerRadarModel.lookAt(II)I -/
abbrev rmX11_lookAt : Room := { frames := 0, cells := 0, slots := 0, locals := 0 }
theorem fl_X11_lookAt_7 : Cond.fieldLink RX11 7 "StaggerRadarModel" "all" "[I" ∈ wsX11_lookAt := by decide +kernel
theorem iw_X11_lookAt_X11 : ∀ w ∈ u_ws RX11 TX11 30, w ∈ wsX11_lookAt := by decide +kernel
abbrev w_X11_lookAt (K : Nat → ClassId) (g_t : Nat → Nat) (t_raised : Int32) (t_undos : Int32) (t_reached : Int32) (t_length : Int32) (t_begin : Int32) (t_sort : Int32) (t_value : Int32) (t_word : Int64) (t_wrongAt : Int32) (t_badAt : Int32) (t_bad : Int32) (t_read : Int32) (t_pictured : Int32) (t_x : Int32) (t_all : Nat → Int32) : va_W := [((g_t 0), .inr (10, [.int t_raised, .ref (g_t 2), .ref (g_t 3), .ref (g_t 4), .ref (g_t 5), .int t_undos, .int t_reached, .int t_length, .int t_begin, .int t_sort, .int t_value, .long t_word, .int t_wrongAt, .int t_badAt, .int t_bad, .ref (g_t 16), .int t_read, .ref (g_t 18), .ref (g_t 19), .ref (g_t 20), .int t_pictured, .ref (g_t 22), .ref (g_t 23), .ref (g_t 24), .ref (g_t 25), .ref (g_t 26), .int t_x, .ref (g_t 28), .ref (g_t 29), .ref (g_t 30)])), ((g_t 2), .inl (K 0, 500, .inl t_all))]
def F_X11_lookAt (t_all : Nat → Int32) (x1 : Int32) (x2 : Int32) : Option (Int32) :=
  gd_ (in_b (((41 : Int32) + ((14 : Int32) * x1)) + x2) 500) (some (t_all (((41 : Int32) + ((14 : Int32) * x1)) + x2).toNatClampNeg))
set_option maxHeartbeats 4000000 in
set_option maxRecDepth 100000 in
theorem c_X11_lookAt (l : Launch) (D : va_G) (K : Nat → ClassId) (g_t : Nat → Nat) (t_raised : Int32) (t_undos : Int32) (t_reached : Int32) (t_length : Int32) (t_begin : Int32) (t_sort : Int32) (t_value : Int32) (t_word : Int64) (t_wrongAt : Int32) (t_badAt : Int32) (t_bad : Int32) (t_read : Int32) (t_pictured : Int32) (t_x : Int32) (t_all : Nat → Int32) (x1 : Int32) (x2 : Int32) (res : Int32) (hF : F_X11_lookAt t_all x1 x2 = some res) :
    Mi_ l yX11_lookAt wsX11_lookAt rmX11_lookAt D K [.ref (g_t 0), .int x1, .int x2] (w_X11_lookAt K g_t t_raised t_undos t_reached t_length t_begin t_sort t_value t_word t_wrongAt t_badAt t_bad t_read t_pictured t_x t_all) (w_X11_lookAt K g_t t_raised t_undos t_reached t_length t_begin t_sort t_value t_word t_wrongAt t_badAt t_bad t_read t_pictured t_x t_all) (res) := by
  refine en_i (cc := cX11_lookAt) (maxL := 3) (own := RX11) (by decide) rfl rfl (Nat.le_of_ble_eq_true rfl) ?_
  intro p e s m args below meth c A Q H locs ls C0 hP hD hS hl HR
  obtain ⟨⟨hx, hb, hml, hown, hts⟩, hK, -⟩ := id C0
  have hl : lv_has ls 3 [(0, .ref (g_t 0)), (1, .int x1), (2, .int x2)] := hl
  unfold F_X11_lookAt at hF
  refine lv_aload_n hx hb dX11_lookAt_0 rfl (lv_at hl 0 rfl) ?_
  refine va_get (D := D) (ci := 10) (v := .ref (g_t 2)) (C := RX11) (T := TX11) (N := 30) hx hb hts iw_X11_lookAt_X11 hown hK hP 0 rfl rfl 1 (by decide) (hts _ fl_X11_lookAt_7) (fun _ h9 => h9) rfl dX11_lookAt_1 ?_
  refine lv_bipush (v := 41) hx hb dX11_lookAt_4 (by decide) ?_
  refine lv_bipush (v := 14) hx hb dX11_lookAt_6 (by decide) ?_
  refine lv_iload_n hx hb dX11_lookAt_8 rfl (lv_at hl 1 rfl) ?_
  refine lv_imul hx hb dX11_lookAt_9 ?_
  refine lv_iadd hx hb dX11_lookAt_10 ?_
  refine lv_iload_n hx hb dX11_lookAt_11 rfl (lv_at hl 2 rfl) ?_
  refine lv_iadd hx hb dX11_lookAt_12 ?_
  obtain ⟨hg_1, hF⟩ := gd_some hF
  refine xl_i (f := t_all) hx hb hK hP 1 0 rfl rfl rfl (in_v hg_1) dX11_lookAt_13 ?_
  obtain rfl := Option.some.inj hF
  exact HR 14 H locs ls dX11_lookAt_14 hP hD hS
