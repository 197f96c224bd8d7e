/-! StaggerRadarModel.in(III)Z -/
abbrev rmX11_in : Room := { frames := 0, cells := 0, slots := 0, locals := 0 }
abbrev w_X11_in (K : Nat → ClassId) : va_W := []
def F_X11_in (x0 : Int32) (x1 : Int32) (x2 : Int32) : Option (Int32) :=
  if x0 < x1 then (some (0 : Int32)) else (if x2 < x0 then (some (0 : Int32)) else (some (1 : Int32)))
set_option maxHeartbeats 4000000 in
set_option maxRecDepth 100000 in
theorem c_X11_in (l : Launch) (D : va_G) (K : Nat → ClassId) (x0 : Int32) (x1 : Int32) (x2 : Int32) (res : Int32) (hF : F_X11_in x0 x1 x2 = some res) :
    Mi_ l yX11_in wsX11_in rmX11_in D K [.int x0, .int x1, .int x2] (w_X11_in K) (w_X11_in K) (res) := by
  refine en_z (cc := cX11_in) (maxL := 3) (own := RX11) (by decide) rfl rfl (Nat.le_of_ble_eq_true rfl) ?_
  intro p e s m args below meth c A Q H locs ls C0 hP hD hS hl HR
  obtain ⟨⟨hx, hb, hml, hown, hts⟩, hK, -⟩ := id C0
  have hl : lv_has ls 3 [(0, .int x0), (1, .int x1), (2, .int x2)] := hl
  unfold F_X11_in at hF
  refine lv_iload_n hx hb dX11_in_0 rfl (lv_at hl 0 rfl) ?_
  refine lv_iload_n hx hb dX11_in_1 rfl (lv_at hl 1 rfl) ?_
  refine lv_icmp_lt (tgt := 14) hx hb dX11_in_2 (by decide) (fun c_1 => ?_) (fun c_1 => ?_)
  · have hF := it_pos c_1 hF
    refine lv_iconst (v := 0) hx hb dX11_in_14 (by decide) ?_
    obtain rfl := Option.some.inj hF
    exact HR 15 H locs ls dX11_in_15 narrow_b0 hP hD hS
  · have hF := it_neg c_1 hF
    refine lv_iload_n hx hb dX11_in_5 rfl (lv_at hl 0 rfl) ?_
    refine lv_iload_n hx hb dX11_in_6 rfl (lv_at hl 2 rfl) ?_
    refine lv_icmp_gt (tgt := 14) hx hb dX11_in_7 (by decide) (fun c_2 => ?_) (fun c_2 => ?_)
    · have hF := it_pos c_2 hF
      refine lv_iconst (v := 0) hx hb dX11_in_14 (by decide) ?_
      obtain rfl := Option.some.inj hF
      exact HR 15 H locs ls dX11_in_15 narrow_b0 hP hD hS
    · have hF := it_neg c_2 hF
      refine lv_iconst (v := 1) hx hb dX11_in_10 (by decide) ?_
      refine lv_goto (tgt := 15) hx hb dX11_in_11 (by decide) ?_
      obtain rfl := Option.some.inj hF
      exact HR 15 H locs ls dX11_in_15 narrow_b1 hP hD hS

/-! StaggerRadarModel.copies(II)V -/
abbrev rmX11_copies : Room := { frames := 0, cells := 0, slots := 0, locals := 0 }
theorem fl_X11_copies_7 : Cond.fieldLink RX11 7 "StaggerRadarModel" "all" "[I" ∈ wsX11_copies := by decide +kernel
theorem iw_X11_copies_X11 : ∀ w ∈ u_ws RX11 TX11 30, w ∈ wsX11_copies := by decide +kernel
abbrev w_X11_copies (K : Nat → ClassId) (g_t : Nat → Nat) (t_raised : Int32) (t_undos : Int32) (t_reached : Int32) (t_length : Int32) (t_begin : Int32) (t_sort : Int32) (t_value : Int32) (t_word : Int64) (t_wrongAt : Int32) (t_badAt : Int32) (t_bad : Int32) (t_read : Int32) (t_pictured : Int32) (t_x : Int32) (t_all : Nat → Int32) : va_W := [((g_t 0), .inr (10, [.int t_raised, .ref (g_t 2), .ref (g_t 3), .ref (g_t 4), .ref (g_t 5), .int t_undos, .int t_reached, .int t_length, .int t_begin, .int t_sort, .int t_value, .long t_word, .int t_wrongAt, .int t_badAt, .int t_bad, .ref (g_t 16), .int t_read, .ref (g_t 18), .ref (g_t 19), .ref (g_t 20), .int t_pictured, .ref (g_t 22), .ref (g_t 23), .ref (g_t 24), .ref (g_t 25), .ref (g_t 26), .int t_x, .ref (g_t 28), .ref (g_t 29), .ref (g_t 30)])), ((g_t 2), .inl (K 0, 500, .inl t_all))]
def L_X11_copies_2  : Nat → (Nat → Int32) → Int32 → Int32 → Int32 → Option ((Nat → Int32))
  | 0, _, _, _, _ => none
  | n_ + 1, t_all, x1, x2, x3 =>
    if (100 : Int32) ≤ x3 then (some t_all) else (gd_ (in_b (((100 : Int32) * x1) + x3) 500) (gd_ (in_b (((100 : Int32) * x2) + x3) 500) (L_X11_copies_2 n_ (upd t_all (((100 : Int32) * x2) + x3).toNatClampNeg (t_all (((100 : Int32) * x1) + x3).toNatClampNeg)) x1 x2 (x3 + (1 : Int32)))))
set_option maxHeartbeats 4000000 in
set_option maxRecDepth 100000 in
theorem w_X11_copies_2 {p : Program} {l : Launch} {e : Env} {s : State} {m : MethodId} {args : Array Value} {below : List Frame} {meth : Method} {c : Code} {D : va_G} {K : Nat → ClassId} {A : Nat → Prop} {Q : State → Prop} (C0 : cx_ p s m args c cX11_copies 4 RX11 wsX11_copies D K A) {g_t : Nat → Nat} {t_raised : Int32} {t_undos : Int32} {t_reached : Int32} {t_length : Int32} {t_begin : Int32} {t_sort : Int32} {t_value : Int32} {t_word : Int64} {t_wrongAt : Int32} {t_badAt : Int32} {t_bad : Int32} {t_read : Int32} {t_pictured : Int32} {t_x : Int32} {res : (Nat → Int32)} (HR : ∀ (pc : Nat) (H : Heap) (locs : List Loc) (ls : Array Slot), decode cX11_copies pc = .ok (.return_, 1) → va_P D vwCl (w_X11_copies K g_t t_raised t_undos t_reached t_length t_begin t_sort t_value t_word t_wrongAt t_badAt t_bad t_read t_pictured t_x res) H → va_D A (w_X11_copies K g_t t_raised t_undos t_reached t_length t_begin t_sort t_value t_word t_wrongAt t_badAt t_bad t_read t_pictured t_x res) → va_S A s.heap H locs → W p l e rmX11_copies s m args below meth c H locs 0 0 Q (F0 m pc ls []))  :
    ∀ (n_ : Nat) (t_all : Nat → Int32) (x1 : Int32) (x2 : Int32) (x3 : Int32) (H : Heap) (locs : List Loc) (ls : Array Slot), va_P D vwCl (w_X11_copies K g_t t_raised t_undos t_reached t_length t_begin t_sort t_value t_word t_wrongAt t_badAt t_bad t_read t_pictured t_x t_all) H → va_D A (w_X11_copies K g_t t_raised t_undos t_reached t_length t_begin t_sort t_value t_word t_wrongAt t_badAt t_bad t_read t_pictured t_x t_all) → va_S A s.heap H locs → lv_has ls 4 [(0, .ref (g_t 0)), (1, .int x1), (2, .int x2), (3, .int x3)] → L_X11_copies_2 n_ t_all x1 x2 x3 = some res → W p l e rmX11_copies s m args below meth c H locs 0 0 Q (F0 m 2 ls []) := by
  obtain ⟨⟨hx, hb, hml, hown, hts⟩, hK, -⟩ := id C0
  intro n_
  induction n_ with
  | zero =>
    intro t_all x1 x2 x3 H locs ls hP hD hS hl hF
    exact no_s (show (none : Option ((Nat → Int32))) = some res from hF)
  | succ n_ ih =>
    intro t_all x1 x2 x3 H locs ls hP hD hS hl hF
    rw [L_X11_copies_2] at hF
    refine lv_iload_n hx hb dX11_copies_2 rfl (lv_at hl 3 rfl) ?_
    refine lv_bipush (v := 100) hx hb dX11_copies_3 (by decide) ?_
    refine lv_icmp_ge (tgt := 36) hx hb dX11_copies_5 (by decide) (fun c_1 => ?_) (fun c_1 => ?_)
    · have hF := it_pos c_1 hF
      obtain rfl := Option.some.inj hF
      exact HR 36 H locs ls dX11_copies_36 hP hD hS
    · have hF := it_neg c_1 hF
      refine lv_aload_n hx hb dX11_copies_8 rfl (lv_at hl 0 rfl) ?_
      refine va_get (D := D) (ci := 10) (v := .ref (g_t 2)) (C := RX11) (T := TX11) (N := 30) hx hb hts iw_X11_copies_X11 hown hK hP 0 rfl rfl 1 (by decide) (hts _ fl_X11_copies_7) (fun _ h9 => h9) rfl dX11_copies_9 ?_
      refine lv_bipush (v := 100) hx hb dX11_copies_12 (by decide) ?_
      refine lv_iload_n hx hb dX11_copies_14 rfl (lv_at hl 2 rfl) ?_
      refine lv_imul hx hb dX11_copies_15 ?_
      refine lv_iload_n hx hb dX11_copies_16 rfl (lv_at hl 3 rfl) ?_
      refine lv_iadd hx hb dX11_copies_17 ?_
      refine lv_aload_n hx hb dX11_copies_18 rfl (lv_at hl 0 rfl) ?_
      refine va_get (D := D) (ci := 10) (v := .ref (g_t 2)) (C := RX11) (T := TX11) (N := 30) hx hb hts iw_X11_copies_X11 hown hK hP 0 rfl rfl 1 (by decide) (hts _ fl_X11_copies_7) (fun _ h9 => h9) rfl dX11_copies_19 ?_
      refine lv_bipush (v := 100) hx hb dX11_copies_22 (by decide) ?_
      refine lv_iload_n hx hb dX11_copies_24 rfl (lv_at hl 1 rfl) ?_
      refine lv_imul hx hb dX11_copies_25 ?_
      refine lv_iload_n hx hb dX11_copies_26 rfl (lv_at hl 3 rfl) ?_
      refine lv_iadd hx hb dX11_copies_27 ?_
      obtain ⟨hg_2, hF⟩ := gd_some hF
      refine xl_i (f := t_all) hx hb hK hP 1 0 rfl rfl rfl (in_v hg_2) dX11_copies_28 ?_
      obtain ⟨hg_3, hF⟩ := gd_some hF
      refine xs_i (f := t_all) hx hb hK hP hD hS 1 0 rfl rfl rfl (in_v hg_3) dX11_copies_29 (fun H locs hP hD hS => ?_)
      have hP : va_P D vwCl (w_X11_copies K g_t t_raised t_undos t_reached t_length t_begin t_sort t_value t_word t_wrongAt t_badAt t_bad t_read t_pictured t_x (upd t_all (((100 : Int32) * x2) + x3).toNatClampNeg (t_all (((100 : Int32) * x1) + x3).toNatClampNeg))) H := hP
      have hD : va_D A (w_X11_copies K g_t t_raised t_undos t_reached t_length t_begin t_sort t_value t_word t_wrongAt t_badAt t_bad t_read t_pictured t_x (upd t_all (((100 : Int32) * x2) + x3).toNatClampNeg (t_all (((100 : Int32) * x1) + x3).toNatClampNeg))) := hD
      refine lv_iinc (v := (x3 + (1 : Int32))) (lv' := [(3, .int (x3 + (1 : Int32))), (0, .ref (g_t 0)), (1, .int x1), (2, .int x2)]) hx hb dX11_copies_30 hl (k := 3) rfl (congrArg (fun z => x3 + z) (by decide)) (by decide) rfl (fun ls hl => ?_)
      refine lv_goto (tgt := 2) hx hb dX11_copies_33 (by decide) ?_
      exact ih (upd t_all (((100 : Int32) * x2) + x3).toNatClampNeg (t_all (((100 : Int32) * x1) + x3).toNatClampNeg)) x1 x2 (x3 + (1 : Int32)) H locs ls hP hD hS (lv_sub hl [1, 2, 3, 0] rfl) hF
def F_X11_copies (t_all : Nat → Int32) (x1 : Int32) (x2 : Int32) : Option ((Nat → Int32)) :=
  L_X11_copies_2 fu_ t_all x1 x2 (0 : Int32)
set_option maxHeartbeats 4000000 in
set_option maxRecDepth 100000 in
theorem c_X11_copies (l : Launch) (D : va_G) (K : Nat → ClassId) (g_t : Nat → Nat) (t_raised : Int32) (t_undos : Int32) (t_reached : Int32) (t_length : Int32) (t_begin : Int32) (t_sort : Int32) (t_value : Int32) (t_word : Int64) (t_wrongAt : Int32) (t_badAt : Int32) (t_bad : Int32) (t_read : Int32) (t_pictured : Int32) (t_x : Int32) (t_all : Nat → Int32) (x1 : Int32) (x2 : Int32) (res : (Nat → Int32)) (hF : F_X11_copies t_all x1 x2 = some res) :
    Mv_ l yX11_copies wsX11_copies rmX11_copies D K [.ref (g_t 0), .int x1, .int x2] (w_X11_copies K g_t t_raised t_undos t_reached t_length t_begin t_sort t_value t_word t_wrongAt t_badAt t_bad t_read t_pictured t_x t_all) (w_X11_copies K g_t t_raised t_undos t_reached t_length t_begin t_sort t_value t_word t_wrongAt t_badAt t_bad t_read t_pictured t_x res) := by
  refine en_v (cc := cX11_copies) (maxL := 4) (own := RX11) (by decide) rfl rfl (Nat.le_of_ble_eq_true rfl) ?_
  intro p e s m args below meth c A Q H locs ls C0 hP hD hS hl HR
  obtain ⟨⟨hx, hb, hml, hown, hts⟩, hK, -⟩ := id C0
  have hl : lv_has ls 4 [(0, .ref (g_t 0)), (1, .int x1), (2, .int x2)] := hl
  unfold F_X11_copies at hF
  refine lv_iconst (v := 0) hx hb dX11_copies_0 (by decide) ?_
  refine lv_istore_n (lv' := [(3, .int (0 : Int32)), (0, .ref (g_t 0)), (1, .int x1), (2, .int x2)]) hx hb dX11_copies_1 rfl hl (by decide) rfl (fun ls hl => ?_)
  exact w_X11_copies_2 C0 HR fu_ t_all x1 x2 (0 : Int32) H locs ls hP hD hS (lv_sub hl [1, 2, 3, 0] rfl) hF

/-! StaggerRadarModel.copiesText(II)V -/
abbrev rmX11_copiesText : Room := { frames := 1, cells := 0, slots := 0, locals := 23 }
theorem fl_X11_copiesText_13 : Cond.fieldLink RX11 13 "StaggerRadarModel" "text" "[B" ∈ wsX11_copiesText := by decide +kernel
theorem iw_X11_copiesText_X11 : ∀ w ∈ u_ws RX11 TX11 30, w ∈ wsX11_copiesText := by decide +kernel
abbrev w_X11_copiesText (K : Nat → ClassId) (g_t : Nat → Nat) (t_raised : Int32) (t_undos : Int32) (t_reached : Int32) (t_length : Int32) (t_begin : Int32) (t_sort : Int32) (t_value : Int32) (t_word : Int64) (t_wrongAt : Int32) (t_badAt : Int32) (t_bad : Int32) (t_read : Int32) (t_pictured : Int32) (t_x : Int32) (t_all : Nat → Int32) (t_text : Nat → Int32) : va_W := [((g_t 0), .inr (10, [.int t_raised, .ref (g_t 2), .ref (g_t 3), .ref (g_t 4), .ref (g_t 5), .int t_undos, .int t_reached, .int t_length, .int t_begin, .int t_sort, .int t_value, .long t_word, .int t_wrongAt, .int t_badAt, .int t_bad, .ref (g_t 16), .int t_read, .ref (g_t 18), .ref (g_t 19), .ref (g_t 20), .int t_pictured, .ref (g_t 22), .ref (g_t 23), .ref (g_t 24), .ref (g_t 25), .ref (g_t 26), .int t_x, .ref (g_t 28), .ref (g_t 29), .ref (g_t 30)])), ((g_t 2), .inl (K 0, 500, .inl t_all)), ((g_t 3), .inl (K 3, 1600, .inl t_text))]
def L_X11_copiesText_8  : Nat → (Nat → Int32) → (Nat → Int32) → Int32 → Int32 → Int32 → Option ((Nat → Int32) × (Nat → Int32))
  | 0, _, _, _, _, _ => none
  | n_ + 1, t_all, t_text, x1, x2, x3 =>
    if (400 : Int32) ≤ x3 then (some (t_all, t_text)) else (gd_ (in_b (((400 : Int32) * x1) + x3) 1600) (gd_ (in_b (((400 : Int32) * x2) + x3) 1600) (L_X11_copiesText_8 n_ t_all (upd t_text (((400 : Int32) * x2) + x3).toNatClampNeg (vp_nar .byte (t_text (((400 : Int32) * x1) + x3).toNatClampNeg))) x1 x2 (x3 + (1 : Int32)))))
set_option maxHeartbeats 4000000 in
set_option maxRecDepth 100000 in
theorem w_X11_copiesText_8 {p : Program} {l : Launch} {e : Env} {s : State} {m : MethodId} {args : Array Value} {below : List Frame} {meth : Method} {c : Code} {D : va_G} {K : Nat → ClassId} {A : Nat → Prop} {Q : State → Prop} (C0 : cx_ p s m args c cX11_copiesText 4 RX11 wsX11_copiesText D K A) {g_t : Nat → Nat} {t_raised : Int32} {t_undos : Int32} {t_reached : Int32} {t_length : Int32} {t_begin : Int32} {t_sort : Int32} {t_value : Int32} {t_word : Int64} {t_wrongAt : Int32} {t_badAt : Int32} {t_bad : Int32} {t_read : Int32} {t_pictured : Int32} {t_x : Int32} {res : (Nat → Int32) × (Nat → Int32)} (HR : ∀ (pc : Nat) (H : Heap) (locs : List Loc) (ls : Array Slot), decode cX11_copiesText pc = .ok (.return_, 1) → va_P D vwCl (w_X11_copiesText K g_t t_raised t_undos t_reached t_length t_begin t_sort t_value t_word t_wrongAt t_badAt t_bad t_read t_pictured t_x res.1 res.2) H → va_D A (w_X11_copiesText K g_t t_raised t_undos t_reached t_length t_begin t_sort t_value t_word t_wrongAt t_badAt t_bad t_read t_pictured t_x res.1 res.2) → va_S A s.heap H locs → W p l e rmX11_copiesText s m args below meth c H locs 0 0 Q (F0 m pc ls []))  :
    ∀ (n_ : Nat) (t_all : Nat → Int32) (t_text : Nat → Int32) (x1 : Int32) (x2 : Int32) (x3 : Int32) (H : Heap) (locs : List Loc) (ls : Array Slot), va_P D vwCl (w_X11_copiesText K g_t t_raised t_undos t_reached t_length t_begin t_sort t_value t_word t_wrongAt t_badAt t_bad t_read t_pictured t_x t_all t_text) H → va_D A (w_X11_copiesText K g_t t_raised t_undos t_reached t_length t_begin t_sort t_value t_word t_wrongAt t_badAt t_bad t_read t_pictured t_x t_all t_text) → va_S A s.heap H locs → lv_has ls 4 [(0, .ref (g_t 0)), (1, .int x1), (2, .int x2), (3, .int x3)] → L_X11_copiesText_8 n_ t_all t_text x1 x2 x3 = some res → W p l e rmX11_copiesText s m args below meth c H locs 0 0 Q (F0 m 8 ls []) := by
  obtain ⟨⟨hx, hb, hml, hown, hts⟩, hK, -⟩ := id C0
  intro n_
  induction n_ with
  | zero =>
    intro t_all t_text x1 x2 x3 H locs ls hP hD hS hl hF
    exact no_s (show (none : Option ((Nat → Int32) × (Nat → Int32))) = some res from hF)
  | succ n_ ih =>
    intro t_all t_text x1 x2 x3 H locs ls hP hD hS hl hF
    rw [L_X11_copiesText_8] at hF
    refine lv_iload_n hx hb dX11_copiesText_8 rfl (lv_at hl 3 rfl) ?_
    refine lv_sipush (v := 400) hx hb dX11_copiesText_9 (by decide) ?_
    refine lv_icmp_ge (tgt := 45) hx hb dX11_copiesText_12 (by decide) (fun c_1 => ?_) (fun c_1 => ?_)
    · have hF := it_pos c_1 hF
      obtain rfl := Option.some.inj hF
      exact HR 45 H locs ls dX11_copiesText_45 hP hD hS
    · have hF := it_neg c_1 hF
      refine lv_aload_n hx hb dX11_copiesText_15 rfl (lv_at hl 0 rfl) ?_
      refine va_get (D := D) (ci := 10) (v := .ref (g_t 3)) (C := RX11) (T := TX11) (N := 30) hx hb hts iw_X11_copiesText_X11 hown hK hP 0 rfl rfl 2 (by decide) (hts _ fl_X11_copiesText_13) (fun _ h9 => h9) rfl dX11_copiesText_16 ?_
      refine lv_sipush (v := 400) hx hb dX11_copiesText_19 (by decide) ?_
      refine lv_iload_n hx hb dX11_copiesText_22 rfl (lv_at hl 2 rfl) ?_
      refine lv_imul hx hb dX11_copiesText_23 ?_
      refine lv_iload_n hx hb dX11_copiesText_24 rfl (lv_at hl 3 rfl) ?_
      refine lv_iadd hx hb dX11_copiesText_25 ?_
      refine lv_aload_n hx hb dX11_copiesText_26 rfl (lv_at hl 0 rfl) ?_
      refine va_get (D := D) (ci := 10) (v := .ref (g_t 3)) (C := RX11) (T := TX11) (N := 30) hx hb hts iw_X11_copiesText_X11 hown hK hP 0 rfl rfl 2 (by decide) (hts _ fl_X11_copiesText_13) (fun _ h9 => h9) rfl dX11_copiesText_27 ?_
      refine lv_sipush (v := 400) hx hb dX11_copiesText_30 (by decide) ?_
      refine lv_iload_n hx hb dX11_copiesText_33 rfl (lv_at hl 1 rfl) ?_
      refine lv_imul hx hb dX11_copiesText_34 ?_
      refine lv_iload_n hx hb dX11_copiesText_35 rfl (lv_at hl 3 rfl) ?_
      refine lv_iadd hx hb dX11_copiesText_36 ?_
      obtain ⟨hg_2, hF⟩ := gd_some hF
      refine xl_b (f := t_text) hx hb hK hP 2 3 rfl rfl rfl (in_v hg_2) dX11_copiesText_37 ?_
      obtain ⟨hg_3, hF⟩ := gd_some hF
      refine xs_b (f := t_text) hx hb hK hP hD hS 2 3 rfl rfl rfl (in_v hg_3) dX11_copiesText_38 (fun H locs hP hD hS => ?_)
      have hP : va_P D vwCl (w_X11_copiesText K g_t t_raised t_undos t_reached t_length t_begin t_sort t_value t_word t_wrongAt t_badAt t_bad t_read t_pictured t_x t_all (upd t_text (((400 : Int32) * x2) + x3).toNatClampNeg (vp_nar .byte (t_text (((400 : Int32) * x1) + x3).toNatClampNeg)))) H := hP
      have hD : va_D A (w_X11_copiesText K g_t t_raised t_undos t_reached t_length t_begin t_sort t_value t_word t_wrongAt t_badAt t_bad t_read t_pictured t_x t_all (upd t_text (((400 : Int32) * x2) + x3).toNatClampNeg (vp_nar .byte (t_text (((400 : Int32) * x1) + x3).toNatClampNeg)))) := hD
      refine lv_iinc (v := (x3 + (1 : Int32))) (lv' := [(3, .int (x3 + (1 : Int32))), (0, .ref (g_t 0)), (1, .int x1), (2, .int x2)]) hx hb dX11_copiesText_39 hl (k := 3) rfl (congrArg (fun z => x3 + z) (by decide)) (by decide) rfl (fun ls hl => ?_)
      refine lv_goto (tgt := 8) hx hb dX11_copiesText_42 (by decide) ?_
      exact ih t_all (upd t_text (((400 : Int32) * x2) + x3).toNatClampNeg (vp_nar .byte (t_text (((400 : Int32) * x1) + x3).toNatClampNeg))) x1 x2 (x3 + (1 : Int32)) H locs ls hP hD hS (lv_sub hl [1, 2, 3, 0] rfl) hF
def F_X11_copiesText (t_all : Nat → Int32) (t_text : Nat → Int32) (x1 : Int32) (x2 : Int32) : Option ((Nat → Int32) × (Nat → Int32)) :=
  (F_X11_copies t_all x1 x2).bind fun r_1 => (L_X11_copiesText_8 fu_ r_1 t_text x1 x2 (0 : Int32))
set_option maxHeartbeats 4000000 in
set_option maxRecDepth 100000 in
theorem c_X11_copiesText (l : Launch) (D : va_G) (K : Nat → ClassId) (g_t : Nat → Nat) (t_raised : Int32) (t_undos : Int32) (t_reached : Int32) (t_length : Int32) (t_begin : Int32) (t_sort : Int32) (t_value : Int32) (t_word : Int64) (t_wrongAt : Int32) (t_badAt : Int32) (t_bad : Int32) (t_read : Int32) (t_pictured : Int32) (t_x : Int32) (t_all : Nat → Int32) (t_text : Nat → Int32) (x1 : Int32) (x2 : Int32) (res : (Nat → Int32) × (Nat → Int32)) (hF : F_X11_copiesText t_all t_text x1 x2 = some res) :
    Mv_ l yX11_copiesText wsX11_copiesText rmX11_copiesText D K [.ref (g_t 0), .int x1, .int x2] (w_X11_copiesText K g_t t_raised t_undos t_reached t_length t_begin t_sort t_value t_word t_wrongAt t_badAt t_bad t_read t_pictured t_x t_all t_text) (w_X11_copiesText K g_t t_raised t_undos t_reached t_length t_begin t_sort t_value t_word t_wrongAt t_badAt t_bad t_read t_pictured t_x res.1 res.2) := by
  refine en_v (cc := cX11_copiesText) (maxL := 4) (own := RX11) (by decide) rfl rfl (Nat.le_of_ble_eq_true rfl) ?_
  intro p e s m args below meth c A Q H locs ls C0 hP hD hS hl HR
  obtain ⟨⟨hx, hb, hml, hown, hts⟩, hK, -⟩ := id C0
  have hl : lv_has ls 4 [(0, .ref (g_t 0)), (1, .int x1), (2, .int x2)] := hl
  unfold F_X11_copiesText at hF
  refine lv_aload_n hx hb dX11_copiesText_0 rfl (lv_at hl 0 rfl) ?_
  refine lv_iload_n hx hb dX11_copiesText_1 rfl (lv_at hl 1 rfl) ?_
  refine lv_iload_n hx hb dX11_copiesText_2 rfl (lv_at hl 2 rfl) ?_
  obtain ⟨r_1, hc_2, hF⟩ := bn_some hF
  refine xc_v (wn := (w_X11_copiesText K g_t t_raised t_undos t_reached t_length t_begin t_sort t_value t_word t_wrongAt t_badAt t_bad t_read t_pictured t_x r_1 t_text)) hP hD hS C0.2.2.1 [0, 1] [2] [1, 2, 0] rfl rfl (by decide) (by decide) rfl (by decide) (va_runV (As := [.int x1, .int x2]) (rest := []) C0.1 (c_X11_copies l D K g_t t_raised t_undos t_reached t_length t_begin t_sort t_value t_word t_wrongAt t_badAt t_bad t_read t_pictured t_x t_all x1 x2 r_1 hc_2 H.size) (cwV 2 hts gX11_copiesText_X11_copies rfl rfl rfl (by decide +kernel) ⟨Nat.le_of_ble_eq_true rfl, Nat.le_of_ble_eq_true rfl⟩) (xp_V C0.2 hP hD hS [0, 1] rfl (by decide) 10 0 rfl rfl rfl) rfl rfl hl.1 rfl (lv_room (Nat.le_of_ble_eq_true rfl)) dX11_copiesText_3 ⟨Nat.le_of_ble_eq_true rfl, Nat.le_of_ble_eq_true rfl⟩) (fun H locs hP hD hS => ?_)
  refine lv_iconst (v := 0) hx hb dX11_copiesText_6 (by decide) ?_
  refine lv_istore_n (lv' := [(3, .int (0 : Int32)), (0, .ref (g_t 0)), (1, .int x1), (2, .int x2)]) hx hb dX11_copiesText_7 rfl hl (by decide) rfl (fun ls hl => ?_)
  exact w_X11_copiesText_8 C0 HR fu_ r_1 t_text x1 x2 (0 : Int32) H locs ls hP hD hS (lv_sub hl [1, 2, 3, 0] rfl) hF

/-! StaggerRadarModel.again(I)Z -/
abbrev rmX11_again : Room := { frames := 2, cells := 0, slots := 0, locals := 46 }
theorem fl_X11_again_17 : Cond.fieldLink RX11 17 "StaggerRadarModel" "saved" "[Z" ∈ wsX11_again := by decide +kernel
theorem fl_X11_again_66 : Cond.fieldLink RX11 66 "StaggerRadarModel" "raised" "I" ∈ wsX11_again := by decide +kernel
theorem fl_X11_again_176 : Cond.fieldLink RX11 176 "StaggerRadarModel" "undos" "I" ∈ wsX11_again := by decide +kernel
theorem iw_X11_again_X11 : ∀ w ∈ u_ws RX11 TX11 30, w ∈ wsX11_again := by decide +kernel
abbrev w_X11_again (K : Nat → ClassId) (g_t : Nat → Nat) (t_raised : Int32) (t_undos : Int32) (t_reached : Int32) (t_length : Int32) (t_begin : Int32) (t_sort : Int32) (t_value : Int32) (t_word : Int64) (t_wrongAt : Int32) (t_badAt : Int32) (t_bad : Int32) (t_read : Int32) (t_pictured : Int32) (t_x : Int32) (t_all : Nat → Int32) (t_text : Nat → Int32) (t_saved : Nat → Int32) : va_W := [((g_t 0), .inr (10, [.int t_raised, .ref (g_t 2), .ref (g_t 3), .ref (g_t 4), .ref (g_t 5), .int t_undos, .int t_reached, .int t_length, .int t_begin, .int t_sort, .int t_value, .long t_word, .int t_wrongAt, .int t_badAt, .int t_bad, .ref (g_t 16), .int t_read, .ref (g_t 18), .ref (g_t 19), .ref (g_t 20), .int t_pictured, .ref (g_t 22), .ref (g_t 23), .ref (g_t 24), .ref (g_t 25), .ref (g_t 26), .int t_x, .ref (g_t 28), .ref (g_t 29), .ref (g_t 30)])), ((g_t 2), .inl (K 0, 500, .inl t_all)), ((g_t 3), .inl (K 3, 1600, .inl t_text)), ((g_t 4), .inl (K 2, 3, .inl t_saved))]
def F_X11_again (t_raised : Int32) (t_undos : Int32) (t_all : Nat → Int32) (t_text : Nat → Int32) (t_saved : Nat → Int32) (x1 : Int32) : Option (Int32 × Int32 × Int32 × (Nat → Int32) × (Nat → Int32)) :=
  (F_X11_in x1 (0 : Int32) (2 : Int32)).bind fun r_1 => (if r_1 = (0 : Int32) then (some ((0 : Int32), (0 : Int32), t_undos, t_all, t_text)) else (gd_ (in_b x1 3) (if (t_saved (x1).toNatClampNeg) = (0 : Int32) then (some ((0 : Int32), (0 : Int32), t_undos, t_all, t_text)) else ((F_X11_copiesText t_all t_text (x1 + (1 : Int32)) (0 : Int32)).bind fun r_6 => (some ((1 : Int32), (0 : Int32), (0 : Int32), r_6.1, r_6.2))))))
set_option maxHeartbeats 4000000 in
set_option maxRecDepth 100000 in
theorem c_X11_again (l : Launch) (D : va_G) (K : Nat → ClassId) (g_t : Nat → Nat) (t_raised : Int32) (t_undos : Int32) (t_reached : Int32) (t_length : Int32) (t_begin : Int32) (t_sort : Int32) (t_value : Int32) (t_word : Int64) (t_wrongAt : Int32) (t_badAt : Int32) (t_bad : Int32) (t_read : Int32) (t_pictured : Int32) (t_x : Int32) (t_all : Nat → Int32) (t_text : Nat → Int32) (t_saved : Nat → Int32) (x1 : Int32) (res : Int32 × Int32 × Int32 × (Nat → Int32) × (Nat → Int32)) (hF : F_X11_again t_raised t_undos t_all t_text t_saved x1 = some res) :
    Mi_ l yX11_again wsX11_again rmX11_again D K [.ref (g_t 0), .int x1] (w_X11_again K g_t t_raised t_undos t_reached t_length t_begin t_sort t_value t_word t_wrongAt t_badAt t_bad t_read t_pictured t_x t_all t_text t_saved) (w_X11_again K g_t res.2.1 res.2.2.1 t_reached t_length t_begin t_sort t_value t_word t_wrongAt t_badAt t_bad t_read t_pictured t_x res.2.2.2.1 res.2.2.2.2 t_saved) (res.1) := by
  refine en_z (cc := cX11_again) (maxL := 2) (own := RX11) (by decide) rfl rfl (Nat.le_of_ble_eq_true rfl) ?_
  intro p e s m args below meth c A Q H locs ls C0 hP hD hS hl HR
  obtain ⟨⟨hx, hb, hml, hown, hts⟩, hK, -⟩ := id C0
  have hl : lv_has ls 2 [(0, .ref (g_t 0)), (1, .int x1)] := hl
  unfold F_X11_again at hF
  refine lv_aload_n hx hb dX11_again_0 rfl (lv_at hl 0 rfl) ?_
  refine lv_iconst (v := 0) hx hb dX11_again_1 (by decide) ?_
  refine va_put (D := D) (ci := 10) (v := .int (0 : Int32)) (ty := .int) (C := RX11) (T := TX11) (N := 30) hx hb hts iw_X11_again_X11 tyX11 tyX11_ok nmX11 hown hK hP hD hS 0 rfl rfl 0 (by decide) (hts _ fl_X11_again_66) (fun _ h9 => h9) rfl (by decide +kernel) rfl rfl (Nat.le_of_ble_eq_true rfl) dX11_again_2 (fun H locs hP hD hS => ?_)
  have hP : va_P D vwCl (w_X11_again K g_t (0 : Int32) t_undos t_reached t_length t_begin t_sort t_value t_word t_wrongAt t_badAt t_bad t_read t_pictured t_x t_all t_text t_saved) H := hP
  have hD : va_D A (w_X11_again K g_t (0 : Int32) t_undos t_reached t_length t_begin t_sort t_value t_word t_wrongAt t_badAt t_bad t_read t_pictured t_x t_all t_text t_saved) := hD
  refine lv_iload_n hx hb dX11_again_5 rfl (lv_at hl 1 rfl) ?_
  refine lv_iconst (v := 0) hx hb dX11_again_6 (by decide) ?_
  refine lv_iconst (v := 2) hx hb dX11_again_7 (by decide) ?_
  obtain ⟨r_1, hc_2, hF⟩ := bn_some hF
  refine xc_i (wn := (w_X11_again K g_t (0 : Int32) t_undos t_reached t_length t_begin t_sort t_value t_word t_wrongAt t_badAt t_bad t_read t_pictured t_x t_all t_text t_saved)) hP hD hS C0.2.2.1 [] [0, 1, 2, 3] [0, 1, 2, 3] rfl rfl (by decide) (by decide) rfl (by decide) (va_runS (As := [.int x1, .int (0 : Int32), .int (2 : Int32)]) (rest := []) C0.1 (c_X11_in l D K x1 (0 : Int32) (2 : Int32) r_1 hc_2 H.size) (va_cwS 3 hts gX11_again_X11_in rfl rfl rfl (by decide +kernel) ⟨Nat.le_of_ble_eq_true rfl, Nat.le_of_ble_eq_true rfl⟩) (xp_S C0.2 hP hD hS [] rfl (by decide)) rfl rfl hl.1 rfl (lv_room (Nat.le_of_ble_eq_true rfl)) dX11_again_8 ⟨Nat.le_of_ble_eq_true rfl, Nat.le_of_ble_eq_true rfl⟩) (fun H locs hP hD hS => ?_)
  refine lv_if_eq (tgt := 23) hx hb dX11_again_11 (by decide) (fun c_3 => ?_) (fun c_3 => ?_)
  · have hF := it_pos c_3 hF
    refine lv_iconst (v := 0) hx hb dX11_again_23 (by decide) ?_
    obtain rfl := Option.some.inj hF
    exact HR 24 H locs ls dX11_again_24 narrow_b0 hP hD hS
  · have hF := it_neg c_3 hF
    refine lv_aload_n hx hb dX11_again_14 rfl (lv_at hl 0 rfl) ?_
    refine va_get (D := D) (ci := 10) (v := .ref (g_t 4)) (C := RX11) (T := TX11) (N := 30) hx hb hts iw_X11_again_X11 hown hK hP 0 rfl rfl 3 (by decide) (hts _ fl_X11_again_17) (fun _ h9 => h9) rfl dX11_again_15 ?_
    refine lv_iload_n hx hb dX11_again_18 rfl (lv_at hl 1 rfl) ?_
    obtain ⟨hg_4, hF⟩ := gd_some hF
    refine xl_z (f := t_saved) hx hb hK hP 3 2 rfl rfl rfl (in_v hg_4) dX11_again_19 ?_
    refine lv_if_ne (tgt := 25) hx hb dX11_again_20 (by decide) (fun c_5 => ?_) (fun c_5 => ?_)
    · have hF := it_neg c_5 hF
      refine lv_aload_n hx hb dX11_again_25 rfl (lv_at hl 0 rfl) ?_
      refine lv_iload_n hx hb dX11_again_26 rfl (lv_at hl 1 rfl) ?_
      refine lv_iconst (v := 1) hx hb dX11_again_27 (by decide) ?_
      refine lv_iadd hx hb dX11_again_28 ?_
      refine lv_iconst (v := 0) hx hb dX11_again_29 (by decide) ?_
      obtain ⟨r_6, hc_7, hF⟩ := bn_some hF
      refine xc_v (wn := (w_X11_again K g_t (0 : Int32) t_undos t_reached t_length t_begin t_sort t_value t_word t_wrongAt t_badAt t_bad t_read t_pictured t_x r_6.1 r_6.2 t_saved)) hP hD hS C0.2.2.1 [0, 1, 2] [3] [1, 2, 3, 0] rfl rfl (by decide) (by decide) rfl (by decide) (va_runV (As := [.int (x1 + (1 : Int32)), .int (0 : Int32)]) (rest := []) C0.1 (c_X11_copiesText l D K g_t (0 : Int32) t_undos t_reached t_length t_begin t_sort t_value t_word t_wrongAt t_badAt t_bad t_read t_pictured t_x t_all t_text (x1 + (1 : Int32)) (0 : Int32) r_6 hc_7 H.size) (cwV 2 hts gX11_again_X11_copiesText rfl rfl rfl (by decide +kernel) ⟨Nat.le_of_ble_eq_true rfl, Nat.le_of_ble_eq_true rfl⟩) (xp_V C0.2 hP hD hS [0, 1, 2] rfl (by decide) 10 0 rfl rfl rfl) rfl rfl hl.1 rfl (lv_room (Nat.le_of_ble_eq_true rfl)) dX11_again_30 ⟨Nat.le_of_ble_eq_true rfl, Nat.le_of_ble_eq_true rfl⟩) (fun H locs hP hD hS => ?_)
      refine lv_aload_n hx hb dX11_again_33 rfl (lv_at hl 0 rfl) ?_
      refine lv_iconst (v := 0) hx hb dX11_again_34 (by decide) ?_
      refine va_put (D := D) (ci := 10) (v := .int (0 : Int32)) (ty := .int) (C := RX11) (T := TX11) (N := 30) hx hb hts iw_X11_again_X11 tyX11 tyX11_ok nmX11 hown hK hP hD hS 0 rfl rfl 5 (by decide) (hts _ fl_X11_again_176) (fun _ h9 => h9) rfl (by decide +kernel) rfl rfl (Nat.le_of_ble_eq_true rfl) dX11_again_35 (fun H locs hP hD hS => ?_)
      have hP : va_P D vwCl (w_X11_again K g_t (0 : Int32) (0 : Int32) t_reached t_length t_begin t_sort t_value t_word t_wrongAt t_badAt t_bad t_read t_pictured t_x r_6.1 r_6.2 t_saved) H := hP
      have hD : va_D A (w_X11_again K g_t (0 : Int32) (0 : Int32) t_reached t_length t_begin t_sort t_value t_word t_wrongAt t_badAt t_bad t_read t_pictured t_x r_6.1 r_6.2 t_saved) := hD
      refine lv_iconst (v := 1) hx hb dX11_again_38 (by decide) ?_
      obtain rfl := Option.some.inj hF
      exact HR 39 H locs ls dX11_again_39 narrow_b1 hP hD hS
    · have hF := it_pos c_5 hF
      refine lv_iconst (v := 0) hx hb dX11_again_23 (by decide) ?_
      obtain rfl := Option.some.inj hF
      exact HR 24 H locs ls dX11_again_24 narrow_b0 hP hD hS

/-! StaggerRadarModel.isGap(I)Z -/
abbrev rmX11_isGap : Room := { frames := 1, cells := 0, slots := 0, locals := 22 }
theorem fl_X11_isGap_7 : Cond.fieldLink RX11 7 "StaggerRadarModel" "all" "[I" ∈ wsX11_isGap := by decide +kernel
theorem iw_X11_isGap_X11 : ∀ w ∈ u_ws RX11 TX11 30, w ∈ wsX11_isGap := by decide +kernel
abbrev w_X11_isGap (K : Nat → ClassId) (g_t : Nat → Nat) (t_raised : Int32) (t_undos : Int32) (t_reached : Int32) (t_length : Int32) (t_begin : Int32) (t_sort : Int32) (t_value : Int32) (t_word : Int64) (t_wrongAt : Int32) (t_badAt : Int32) (t_bad : Int32) (t_read : Int32) (t_pictured : Int32) (t_x : Int32) (t_all : Nat → Int32) : va_W := [((g_t 0), .inr (10, [.int t_raised, .ref (g_t 2), .ref (g_t 3), .ref (g_t 4), .ref (g_t 5), .int t_undos, .int t_reached, .int t_length, .int t_begin, .int t_sort, .int t_value, .long t_word, .int t_wrongAt, .int t_badAt, .int t_bad, .ref (g_t 16), .int t_read, .ref (g_t 18), .ref (g_t 19), .ref (g_t 20), .int t_pictured, .ref (g_t 22), .ref (g_t 23), .ref (g_t 24), .ref (g_t 25), .ref (g_t 26), .int t_x, .ref (g_t 28), .ref (g_t 29), .ref (g_t 30)])), ((g_t 2), .inl (K 0, 500, .inl t_all))]
def F_X11_isGap (t_all : Nat → Int32) (x1 : Int32) : Option (Int32) :=
  (F_X11_in x1 (0 : Int32) ((t_all 0) - (1 : Int32))).bind fun r_1 => (gd_ (decide (r_1 &&& 1 = r_1)) (some r_1))
set_option maxHeartbeats 4000000 in
set_option maxRecDepth 100000 in
theorem c_X11_isGap (l : Launch) (D : va_G) (K : Nat → ClassId) (g_t : Nat → Nat) (t_raised : Int32) (t_undos : Int32) (t_reached : Int32) (t_length : Int32) (t_begin : Int32) (t_sort : Int32) (t_value : Int32) (t_word : Int64) (t_wrongAt : Int32) (t_badAt : Int32) (t_bad : Int32) (t_read : Int32) (t_pictured : Int32) (t_x : Int32) (t_all : Nat → Int32) (x1 : Int32) (res : Int32) (hF : F_X11_isGap t_all x1 = some res) :
    Mi_ l yX11_isGap wsX11_isGap rmX11_isGap D K [.ref (g_t 0), .int x1] (w_X11_isGap K g_t t_raised t_undos t_reached t_length t_begin t_sort t_value t_word t_wrongAt t_badAt t_bad t_read t_pictured t_x t_all) (w_X11_isGap K g_t t_raised t_undos t_reached t_length t_begin t_sort t_value t_word t_wrongAt t_badAt t_bad t_read t_pictured t_x t_all) (res) := by
  refine en_z (cc := cX11_isGap) (maxL := 2) (own := RX11) (by decide) rfl rfl (Nat.le_of_ble_eq_true rfl) ?_
  intro p e s m args below meth c A Q H locs ls C0 hP hD hS hl HR
  obtain ⟨⟨hx, hb, hml, hown, hts⟩, hK, -⟩ := id C0
  have hl : lv_has ls 2 [(0, .ref (g_t 0)), (1, .int x1)] := hl
  unfold F_X11_isGap at hF
  refine lv_iload_n hx hb dX11_isGap_0 rfl (lv_at hl 1 rfl) ?_
  refine lv_iconst (v := 0) hx hb dX11_isGap_1 (by decide) ?_
  refine lv_aload_n hx hb dX11_isGap_2 rfl (lv_at hl 0 rfl) ?_
  refine va_get (D := D) (ci := 10) (v := .ref (g_t 2)) (C := RX11) (T := TX11) (N := 30) hx hb hts iw_X11_isGap_X11 hown hK hP 0 rfl rfl 1 (by decide) (hts _ fl_X11_isGap_7) (fun _ h9 => h9) rfl dX11_isGap_3 ?_
  refine lv_iconst (v := 0) hx hb dX11_isGap_6 (by decide) ?_
  refine xl_i (f := t_all) hx hb hK hP 1 0 rfl rfl (k := 0) (by decide) (in_v (by decide)) dX11_isGap_7 ?_
  refine lv_iconst (v := 1) hx hb dX11_isGap_8 (by decide) ?_
  refine lv_isub hx hb dX11_isGap_9 ?_
  obtain ⟨r_1, hc_2, hF⟩ := bn_some hF
  refine xc_i (wn := (w_X11_isGap K g_t t_raised t_undos t_reached t_length t_begin t_sort t_value t_word t_wrongAt t_badAt t_bad t_read t_pictured t_x t_all)) hP hD hS C0.2.2.1 [] [0, 1] [0, 1] rfl rfl (by decide) (by decide) rfl (by decide) (va_runS (As := [.int x1, .int (0 : Int32), .int ((t_all 0) - (1 : Int32))]) (rest := []) C0.1 (c_X11_in l D K x1 (0 : Int32) ((t_all 0) - (1 : Int32)) r_1 hc_2 H.size) (va_cwS 3 hts gX11_isGap_X11_in rfl rfl rfl (by decide +kernel) ⟨Nat.le_of_ble_eq_true rfl, Nat.le_of_ble_eq_true rfl⟩) (xp_S C0.2 hP hD hS [] rfl (by decide)) rfl rfl hl.1 rfl (lv_room (Nat.le_of_ble_eq_true rfl)) dX11_isGap_10 ⟨Nat.le_of_ble_eq_true rfl, Nat.le_of_ble_eq_true rfl⟩) (fun H locs hP hD hS => ?_)
  obtain ⟨hg_3, hF⟩ := gd_some hF
  obtain rfl := Option.some.inj hF
  exact HR 13 H locs ls dX11_isGap_13 (zn_of hg_3) hP hD hS

/-! StaggerRadarModel.gapAt(I)I -/
abbrev rmX11_gapAt : Room := { frames := 0, cells := 0, slots := 0, locals := 0 }
theorem fl_X11_gapAt_7 : Cond.fieldLink RX11 7 "StaggerRadarModel" "all" "[I" ∈ wsX11_gapAt := by decide +kernel
theorem iw_X11_gapAt_X11 : ∀ w ∈ u_ws RX11 TX11 30, w ∈ wsX11_gapAt := by decide +kernel
abbrev w_X11_gapAt (K : Nat → ClassId) (g_t : Nat → Nat) (t_raised : Int32) (t_undos : Int32) (t_reached : Int32) (t_length : Int32) (t_begin : Int32) (t_sort : Int32) (t_value : Int32) (t_word : Int64) (t_wrongAt : Int32) (t_badAt : Int32) (t_bad : Int32) (t_read : Int32) (t_pictured : Int32) (t_x : Int32) (t_all : Nat → Int32) : va_W := [((g_t 0), .inr (10, [.int t_raised, .ref (g_t 2), .ref (g_t 3), .ref (g_t 4), .ref (g_t 5), .int t_undos, .int t_reached, .int t_length, .int t_begin, .int t_sort, .int t_value, .long t_word, .int t_wrongAt, .int t_badAt, .int t_bad, .ref (g_t 16), .int t_read, .ref (g_t 18), .ref (g_t 19), .ref (g_t 20), .int t_pictured, .ref (g_t 22), .ref (g_t 23), .ref (g_t 24), .ref (g_t 25), .ref (g_t 26), .int t_x, .ref (g_t 28), .ref (g_t 29), .ref (g_t 30)])), ((g_t 2), .inl (K 0, 500, .inl t_all))]
def F_X11_gapAt (t_all : Nat → Int32) (x1 : Int32) : Option (Int32) :=
  gd_ (in_b ((1 : Int32) + x1) 500) (some (t_all ((1 : Int32) + x1).toNatClampNeg))
set_option maxHeartbeats 4000000 in
set_option maxRecDepth 100000 in
theorem c_X11_gapAt (l : Launch) (D : va_G) (K : Nat → ClassId) (g_t : Nat → Nat) (t_raised : Int32) (t_undos : Int32) (t_reached : Int32) (t_length : Int32) (t_begin : Int32) (t_sort : Int32) (t_value : Int32) (t_word : Int64) (t_wrongAt : Int32) (t_badAt : Int32) (t_bad : Int32) (t_read : Int32) (t_pictured : Int32) (t_x : Int32) (t_all : Nat → Int32) (x1 : Int32) (res : Int32) (hF : F_X11_gapAt t_all x1 = some res) :
    Mi_ l yX11_gapAt wsX11_gapAt rmX11_gapAt D K [.ref (g_t 0), .int x1] (w_X11_gapAt K g_t t_raised t_undos t_reached t_length t_begin t_sort t_value t_word t_wrongAt t_badAt t_bad t_read t_pictured t_x t_all) (w_X11_gapAt K g_t t_raised t_undos t_reached t_length t_begin t_sort t_value t_word t_wrongAt t_badAt t_bad t_read t_pictured t_x t_all) (res) := by
  refine en_i (cc := cX11_gapAt) (maxL := 2) (own := RX11) (by decide) rfl rfl (Nat.le_of_ble_eq_true rfl) ?_
  intro p e s m args below meth c A Q H locs ls C0 hP hD hS hl HR
  obtain ⟨⟨hx, hb, hml, hown, hts⟩, hK, -⟩ := id C0
  have hl : lv_has ls 2 [(0, .ref (g_t 0)), (1, .int x1)] := hl
  unfold F_X11_gapAt at hF
  refine lv_aload_n hx hb dX11_gapAt_0 rfl (lv_at hl 0 rfl) ?_
  refine va_get (D := D) (ci := 10) (v := .ref (g_t 2)) (C := RX11) (T := TX11) (N := 30) hx hb hts iw_X11_gapAt_X11 hown hK hP 0 rfl rfl 1 (by decide) (hts _ fl_X11_gapAt_7) (fun _ h9 => h9) rfl dX11_gapAt_1 ?_
  refine lv_iconst (v := 1) hx hb dX11_gapAt_4 (by decide) ?_
  refine lv_iload_n hx hb dX11_gapAt_5 rfl (lv_at hl 1 rfl) ?_
  refine lv_iadd hx hb dX11_gapAt_6 ?_
  obtain ⟨hg_1, hF⟩ := gd_some hF
  refine xl_i (f := t_all) hx hb hK hP 1 0 rfl rfl rfl (in_v hg_1) dX11_gapAt_7 ?_
  obtain rfl := Option.some.inj hF
  exact HR 8 H locs ls dX11_gapAt_8 hP hD hS

/-! StaggerRadarModel.of(II)I -/
abbrev rmX11_of : Room := { frames := 0, cells := 0, slots := 0, locals := 0 }
theorem fl_X11_of_7 : Cond.fieldLink RX11 7 "StaggerRadarModel" "all" "[I" ∈ wsX11_of := by decide +kernel
theorem iw_X11_of_X11 : ∀ w ∈ u_ws RX11 TX11 30, w ∈ wsX11_of := by decide +kernel
abbrev w_X11_of (K : Nat → ClassId) (g_t : Nat → Nat) (t_raised : Int32) (t_undos : Int32) (t_reached : Int32) (t_length : Int32) (t_begin : Int32) (t_sort : Int32) (t_value : Int32) (t_word : Int64) (t_wrongAt : Int32) (t_badAt : Int32) (t_bad : Int32) (t_read : Int32) (t_pictured : Int32) (t_x : Int32) (t_all : Nat → Int32) : va_W := [((g_t 0), .inr (10, [.int t_raised, .ref (g_t 2), .ref (g_t 3), .ref (g_t 4), .ref (g_t 5), .int t_undos, .int t_reached, .int t_length, .int t_begin, .int t_sort, .int t_value, .long t_word, .int t_wrongAt, .int t_badAt, .int t_bad, .ref (g_t 16), .int t_read, .ref (g_t 18), .ref (g_t 19), .ref (g_t 20), .int t_pictured, .ref (g_t 22), .ref (g_t 23), .ref (g_t 24), .ref (g_t 25), .ref (g_t 26), .int t_x, .ref (g_t 28), .ref (g_t 29), .ref (g_t 30)])), ((g_t 2), .inl (K 0, 500, .inl t_all))]
def F_X11_of (t_all : Nat → Int32) (x1 : Int32) (x2 : Int32) : Option (Int32) :=
  gd_ (in_b (((14 : Int32) + ((3 : Int32) * x1)) + x2) 500) (some (t_all (((14 : Int32) + ((3 : Int32) * x1)) + x2).toNatClampNeg))
set_option maxHeartbeats 4000000 in
set_option maxRecDepth 100000 in
theorem c_X11_of (l : Launch) (D : va_G) (K : Nat → ClassId) (g_t : Nat → Nat) (t_raised : Int32) (t_undos : Int32) (t_reached : Int32) (t_length : Int32) (t_begin : Int32) (t_sort : Int32) (t_value : Int32) (t_word : Int64) (t_wrongAt : Int32) (t_badAt : Int32) (t_bad : Int32) (t_read : Int32) (t_pictured : Int32) (t_x : Int32) (t_all : Nat → Int32) (x1 : Int32) (x2 : Int32) (res : Int32) (hF : F_X11_of t_all x1 x2 = some res) :
    Mi_ l yX11_of wsX11_of rmX11_of D K [.ref (g_t 0), .int x1, .int x2] (w_X11_of K g_t t_raised t_undos t_reached t_length t_begin t_sort t_value t_word t_wrongAt t_badAt t_bad t_read t_pictured t_x t_all) (w_X11_of K g_t t_raised t_undos t_reached t_length t_begin t_sort t_value t_word t_wrongAt t_badAt t_bad t_read t_pictured t_x t_all) (res) := by
  refine en_i (cc := cX11_of) (maxL := 3) (own := RX11) (by decide) rfl rfl (Nat.le_of_ble_eq_true rfl) ?_
  intro p e s m args below meth c A Q H locs ls C0 hP hD hS hl HR
  obtain ⟨⟨hx, hb, hml, hown, hts⟩, hK, -⟩ := id C0
  have hl : lv_has ls 3 [(0, .ref (g_t 0)), (1, .int x1), (2, .int x2)] := hl
  unfold F_X11_of at hF
  refine lv_aload_n hx hb dX11_of_0 rfl (lv_at hl 0 rfl) ?_
  refine va_get (D := D) (ci := 10) (v := .ref (g_t 2)) (C := RX11) (T := TX11) (N := 30) hx hb hts iw_X11_of_X11 hown hK hP 0 rfl rfl 1 (by decide) (hts _ fl_X11_of_7) (fun _ h9 => h9) rfl dX11_of_1 ?_
  refine lv_bipush (v := 14) hx hb dX11_of_4 (by decide) ?_
  refine lv_iconst (v := 3) hx hb dX11_of_6 (by decide) ?_
  refine lv_iload_n hx hb dX11_of_7 rfl (lv_at hl 1 rfl) ?_
  refine lv_imul hx hb dX11_of_8 ?_
  refine lv_iadd hx hb dX11_of_9 ?_
  refine lv_iload_n hx hb dX11_of_10 rfl (lv_at hl 2 rfl) ?_
  refine lv_iadd hx hb dX11_of_11 ?_
  obtain ⟨hg_1, hF⟩ := gd_some hF
  refine xl_i (f := t_all) hx hb hK hP 1 0 rfl rfl rfl (in_v hg_1) dX11_of_12 ?_
  obtain rfl := Option.some.inj hF
  exact HR 13 H locs ls dX11_of_13 hP hD hS

/-! StaggerRadarModel.rest(II)I -/
abbrev rmX11_rest : Room := { frames := 0, cells := 0, slots := 0, locals := 0 }
abbrev w_X11_rest (K : Nat → ClassId) : va_W := []
def F_X11_rest (x0 : Int32) (x1 : Int32) : Option (Int32) :=
  gd_ (decide (¬ x1 = 0)) (if (0 : Int32) ≤ (x0 - x0 / x1 * x1) then (some (x0 - x0 / x1 * x1)) else (some ((x0 - x0 / x1 * x1) + x1)))
set_option maxHeartbeats 4000000 in
set_option maxRecDepth 100000 in
theorem c_X11_rest (l : Launch) (D : va_G) (K : Nat → ClassId) (x0 : Int32) (x1 : Int32) (res : Int32) (hF : F_X11_rest x0 x1 = some res) :
    Mi_ l yX11_rest wsX11_rest rmX11_rest D K [.int x0, .int x1] (w_X11_rest K) (w_X11_rest K) (res) := by
  refine en_i (cc := cX11_rest) (maxL := 3) (own := RX11) (by decide) rfl rfl (Nat.le_of_ble_eq_true rfl) ?_
  intro p e s m args below meth c A Q H locs ls C0 hP hD hS hl HR
  obtain ⟨⟨hx, hb, hml, hown, hts⟩, hK, -⟩ := id C0
  have hl : lv_has ls 3 [(0, .int x0), (1, .int x1)] := hl
  unfold F_X11_rest at hF
  refine lv_iload_n hx hb dX11_rest_0 rfl (lv_at hl 0 rfl) ?_
  refine lv_iload_n hx hb dX11_rest_1 rfl (lv_at hl 1 rfl) ?_
  obtain ⟨hg_1, hF⟩ := gd_some hF
  refine lv_irem hx hb dX11_rest_2 (ne_of hg_1) ?_
  refine lv_istore_n (lv' := [(2, .int (x0 - x0 / x1 * x1)), (0, .int x0), (1, .int x1)]) hx hb dX11_rest_3 rfl hl (by decide) rfl (fun ls hl => ?_)
  refine lv_iload_n hx hb dX11_rest_4 rfl (lv_at hl 0 rfl) ?_
  refine lv_if_ge (tgt := 14) hx hb dX11_rest_5 (by decide) (fun c_2 => ?_) (fun c_2 => ?_)
  · have hF := it_pos c_2 hF
    refine lv_iload_n hx hb dX11_rest_14 rfl (lv_at hl 0 rfl) ?_
    obtain rfl := Option.some.inj hF
    exact HR 15 H locs ls dX11_rest_15 hP hD hS
  · have hF := it_neg c_2 hF
    refine lv_iload_n hx hb dX11_rest_8 rfl (lv_at hl 0 rfl) ?_
    refine lv_iload_n hx hb dX11_rest_9 rfl (lv_at hl 2 rfl) ?_
    refine lv_iadd hx hb dX11_rest_10 ?_
    refine lv_goto (tgt := 15) hx hb dX11_rest_11 (by decide) ?_
    obtain rfl := Option.some.inj hF
    exact HR 15 H locs ls dX11_rest_15 hP hD hS

/-! StaggerRadarModel.isBlind(II)Z -/
abbrev rmX11_isBlind : Room := { frames := 1, cells := 0, slots := 0, locals := 22 }
theorem fl_X11_isBlind_7 : Cond.fieldLink RX11 7 "StaggerRadarModel" "all" "[I" ∈ wsX11_isBlind := by decide +kernel
theorem iw_X11_isBlind_X11 : ∀ w ∈ u_ws RX11 TX11 30, w ∈ wsX11_isBlind := by decide +kernel
abbrev w_X11_isBlind (K : Nat → ClassId) (g_t : Nat → Nat) (t_raised : Int32) (t_undos : Int32) (t_reached : Int32) (t_length : Int32) (t_begin : Int32) (t_sort : Int32) (t_value : Int32) (t_word : Int64) (t_wrongAt : Int32) (t_badAt : Int32) (t_bad : Int32) (t_read : Int32) (t_pictured : Int32) (t_x : Int32) (t_all : Nat → Int32) : va_W := [((g_t 0), .inr (10, [.int t_raised, .ref (g_t 2), .ref (g_t 3), .ref (g_t 4), .ref (g_t 5), .int t_undos, .int t_reached, .int t_length, .int t_begin, .int t_sort, .int t_value, .long t_word, .int t_wrongAt, .int t_badAt, .int t_bad, .ref (g_t 16), .int t_read, .ref (g_t 18), .ref (g_t 19), .ref (g_t 20), .int t_pictured, .ref (g_t 22), .ref (g_t 23), .ref (g_t 24), .ref (g_t 25), .ref (g_t 26), .int t_x, .ref (g_t 28), .ref (g_t 29), .ref (g_t 30)])), ((g_t 2), .inl (K 0, 500, .inl t_all))]
def F_X11_isBlind (t_all : Nat → Int32) (x1 : Int32) (x2 : Int32) : Option (Int32) :=
  (F_X11_rest (x1 * x2) (t_all 6)).bind fun r_1 => (if r_1 ≤ (t_all 7) then (some (1 : Int32)) else (if r_1 < ((t_all 6) - (t_all 7)) then (some (0 : Int32)) else (some (1 : Int32))))
set_option maxHeartbeats 4000000 in
set_option maxRecDepth 100000 in
theorem c_X11_isBlind (l : Launch) (D : va_G) (K : Nat → ClassId) (g_t : Nat → Nat) (t_raised : Int32) (t_undos : Int32) (t_reached : Int32) (t_length : Int32) (t_begin : Int32) (t_sort : Int32) (t_value : Int32) (t_word : Int64) (t_wrongAt : Int32) (t_badAt : Int32) (t_bad : Int32) (t_read : Int32) (t_pictured : Int32) (t_x : Int32) (t_all : Nat → Int32) (x1 : Int32) (x2 : Int32) (res : Int32) (hF : F_X11_isBlind t_all x1 x2 = some res) :
    Mi_ l yX11_isBlind wsX11_isBlind rmX11_isBlind D K [.ref (g_t 0), .int x1, .int x2] (w_X11_isBlind K g_t t_raised t_undos t_reached t_length t_begin t_sort t_value t_word t_wrongAt t_badAt t_bad t_read t_pictured t_x t_all) (w_X11_isBlind K g_t t_raised t_undos t_reached t_length t_begin t_sort t_value t_word t_wrongAt t_badAt t_bad t_read t_pictured t_x t_all) (res) := by
  refine en_z (cc := cX11_isBlind) (maxL := 4) (own := RX11) (by decide) rfl rfl (Nat.le_of_ble_eq_true rfl) ?_
  intro p e s m args below meth c A Q H locs ls C0 hP hD hS hl HR
  obtain ⟨⟨hx, hb, hml, hown, hts⟩, hK, -⟩ := id C0
  have hl : lv_has ls 4 [(0, .ref (g_t 0)), (1, .int x1), (2, .int x2)] := hl
  unfold F_X11_isBlind at hF
  refine lv_iload_n hx hb dX11_isBlind_0 rfl (lv_at hl 1 rfl) ?_
  refine lv_iload_n hx hb dX11_isBlind_1 rfl (lv_at hl 2 rfl) ?_
  refine lv_imul hx hb dX11_isBlind_2 ?_
  refine lv_aload_n hx hb dX11_isBlind_3 rfl (lv_at hl 0 rfl) ?_
  refine va_get (D := D) (ci := 10) (v := .ref (g_t 2)) (C := RX11) (T := TX11) (N := 30) hx hb hts iw_X11_isBlind_X11 hown hK hP 0 rfl rfl 1 (by decide) (hts _ fl_X11_isBlind_7) (fun _ h9 => h9) rfl dX11_isBlind_4 ?_
  refine lv_bipush (v := 6) hx hb dX11_isBlind_7 (by decide) ?_
  refine xl_i (f := t_all) hx hb hK hP 1 0 rfl rfl (k := 6) (by decide) (in_v (by decide)) dX11_isBlind_9 ?_
  obtain ⟨r_1, hc_2, hF⟩ := bn_some hF
  refine xc_i (wn := (w_X11_isBlind K g_t t_raised t_undos t_reached t_length t_begin t_sort t_value t_word t_wrongAt t_badAt t_bad t_read t_pictured t_x t_all)) hP hD hS C0.2.2.1 [] [0, 1] [0, 1] rfl rfl (by decide) (by decide) rfl (by decide) (va_runS (As := [.int (x1 * x2), .int (t_all 6)]) (rest := []) C0.1 (c_X11_rest l D K (x1 * x2) (t_all 6) r_1 hc_2 H.size) (va_cwS 2 hts gX11_isBlind_X11_rest rfl rfl rfl (by decide +kernel) ⟨Nat.le_of_ble_eq_true rfl, Nat.le_of_ble_eq_true rfl⟩) (xp_S C0.2 hP hD hS [] rfl (by decide)) rfl rfl hl.1 rfl (lv_room (Nat.le_of_ble_eq_true rfl)) dX11_isBlind_10 ⟨Nat.le_of_ble_eq_true rfl, Nat.le_of_ble_eq_true rfl⟩) (fun H locs hP hD hS => ?_)
  refine lv_istore_n (lv' := [(3, .int r_1), (0, .ref (g_t 0)), (1, .int x1), (2, .int x2)]) hx hb dX11_isBlind_13 rfl hl (by decide) rfl (fun ls hl => ?_)
  refine lv_iload_n hx hb dX11_isBlind_14 rfl (lv_at hl 0 rfl) ?_
  refine lv_aload_n hx hb dX11_isBlind_15 rfl (lv_at hl 1 rfl) ?_
  refine va_get (D := D) (ci := 10) (v := .ref (g_t 2)) (C := RX11) (T := TX11) (N := 30) hx hb hts iw_X11_isBlind_X11 hown hK hP 0 rfl rfl 1 (by decide) (hts _ fl_X11_isBlind_7) (fun _ h9 => h9) rfl dX11_isBlind_16 ?_
  refine lv_bipush (v := 7) hx hb dX11_isBlind_19 (by decide) ?_
  refine xl_i (f := t_all) hx hb hK hP 1 0 rfl rfl (k := 7) (by decide) (in_v (by decide)) dX11_isBlind_21 ?_
  refine lv_icmp_le (tgt := 44) hx hb dX11_isBlind_22 (by decide) (fun c_3 => ?_) (fun c_3 => ?_)
  · have hF := it_pos c_3 hF
    refine lv_iconst (v := 1) hx hb dX11_isBlind_44 (by decide) ?_
    refine lv_goto (tgt := 49) hx hb dX11_isBlind_45 (by decide) ?_
    obtain rfl := Option.some.inj hF
    exact HR 49 H locs ls dX11_isBlind_49 narrow_b1 hP hD hS
  · have hF := it_neg c_3 hF
    refine lv_iload_n hx hb dX11_isBlind_25 rfl (lv_at hl 0 rfl) ?_
    refine lv_aload_n hx hb dX11_isBlind_26 rfl (lv_at hl 1 rfl) ?_
    refine va_get (D := D) (ci := 10) (v := .ref (g_t 2)) (C := RX11) (T := TX11) (N := 30) hx hb hts iw_X11_isBlind_X11 hown hK hP 0 rfl rfl 1 (by decide) (hts _ fl_X11_isBlind_7) (fun _ h9 => h9) rfl dX11_isBlind_27 ?_
    refine lv_bipush (v := 6) hx hb dX11_isBlind_30 (by decide) ?_
    refine xl_i (f := t_all) hx hb hK hP 1 0 rfl rfl (k := 6) (by decide) (in_v (by decide)) dX11_isBlind_32 ?_
    refine lv_aload_n hx hb dX11_isBlind_33 rfl (lv_at hl 1 rfl) ?_
    refine va_get (D := D) (ci := 10) (v := .ref (g_t 2)) (C := RX11) (T := TX11) (N := 30) hx hb hts iw_X11_isBlind_X11 hown hK hP 0 rfl rfl 1 (by decide) (hts _ fl_X11_isBlind_7) (fun _ h9 => h9) rfl dX11_isBlind_34 ?_
    refine lv_bipush (v := 7) hx hb dX11_isBlind_37 (by decide) ?_
    refine xl_i (f := t_all) hx hb hK hP 1 0 rfl rfl (k := 7) (by decide) (in_v (by decide)) dX11_isBlind_39 ?_
    refine lv_isub hx hb dX11_isBlind_40 ?_
    refine lv_icmp_lt (tgt := 48) hx hb dX11_isBlind_41 (by decide) (fun c_4 => ?_) (fun c_4 => ?_)
    · have hF := it_pos c_4 hF
      refine lv_iconst (v := 0) hx hb dX11_isBlind_48 (by decide) ?_
      obtain rfl := Option.some.inj hF
      exact HR 49 H locs ls dX11_isBlind_49 narrow_b0 hP hD hS
    · have hF := it_neg c_4 hF
      refine lv_iconst (v := 1) hx hb dX11_isBlind_44 (by decide) ?_
      refine lv_goto (tgt := 49) hx hb dX11_isBlind_45 (by decide) ?_
      obtain rfl := Option.some.inj hF
      exact HR 49 H locs ls dX11_isBlind_49 narrow_b1 hP hD hS

/-! StaggerRadarModel.rangeOf(I)I -/
abbrev rmX11_rangeOf : Room := { frames := 1, cells := 0, slots := 0, locals := 22 }
theorem iw_X11_rangeOf_X11 : ∀ w ∈ u_ws RX11 TX11 30, w ∈ wsX11_rangeOf := by decide +kernel
abbrev w_X11_rangeOf (K : Nat → ClassId) (g_t : Nat → Nat) (t_raised : Int32) (t_undos : Int32) (t_reached : Int32) (t_length : Int32) (t_begin : Int32) (t_sort : Int32) (t_value : Int32) (t_word : Int64) (t_wrongAt : Int32) (t_badAt : Int32) (t_bad : Int32) (t_read : Int32) (t_pictured : Int32) (t_x : Int32) (t_all : Nat → Int32) : va_W := [((g_t 0), .inr (10, [.int t_raised, .ref (g_t 2), .ref (g_t 3), .ref (g_t 4), .ref (g_t 5), .int t_undos, .int t_reached, .int t_length, .int t_begin, .int t_sort, .int t_value, .long t_word, .int t_wrongAt, .int t_badAt, .int t_bad, .ref (g_t 16), .int t_read, .ref (g_t 18), .ref (g_t 19), .ref (g_t 20), .int t_pictured, .ref (g_t 22), .ref (g_t 23), .ref (g_t 24), .ref (g_t 25), .ref (g_t 26), .int t_x, .ref (g_t 28), .ref (g_t 29), .ref (g_t 30)])), ((g_t 2), .inl (K 0, 500, .inl t_all))]
def F_X11_rangeOf (t_all : Nat → Int32) (x1 : Int32) : Option (Int32) :=
  (F_X11_of t_all x1 (0 : Int32)).bind fun r_1 => (some (r_1 / (16 : Int32)))
set_option maxHeartbeats 4000000 in
set_option maxRecDepth 100000 in
theorem c_X11_rangeOf (l : Launch) (D : va_G) (K : Nat → ClassId) (g_t : Nat → Nat) (t_raised : Int32) (t_undos : Int32) (t_reached : Int32) (t_length : Int32) (t_begin : Int32) (t_sort : Int32) (t_value : Int32) (t_word : Int64) (t_wrongAt : Int32) (t_badAt : Int32) (t_bad : Int32) (t_read : Int32) (t_pictured : Int32) (t_x : Int32) (t_all : Nat → Int32) (x1 : Int32) (res : Int32) (hF : F_X11_rangeOf t_all x1 = some res) :
    Mi_ l yX11_rangeOf wsX11_rangeOf rmX11_rangeOf D K [.ref (g_t 0), .int x1] (w_X11_rangeOf K g_t t_raised t_undos t_reached t_length t_begin t_sort t_value t_word t_wrongAt t_badAt t_bad t_read t_pictured t_x t_all) (w_X11_rangeOf K g_t t_raised t_undos t_reached t_length t_begin t_sort t_value t_word t_wrongAt t_badAt t_bad t_read t_pictured t_x t_all) (res) := by
  refine en_i (cc := cX11_rangeOf) (maxL := 2) (own := RX11) (by decide) rfl rfl (Nat.le_of_ble_eq_true rfl) ?_
  intro p e s m args below meth c A Q H locs ls C0 hP hD hS hl HR
  obtain ⟨⟨hx, hb, hml, hown, hts⟩, hK, -⟩ := id C0
  have hl : lv_has ls 2 [(0, .ref (g_t 0)), (1, .int x1)] := hl
  unfold F_X11_rangeOf at hF
  refine lv_aload_n hx hb dX11_rangeOf_0 rfl (lv_at hl 0 rfl) ?_
  refine lv_iload_n hx hb dX11_rangeOf_1 rfl (lv_at hl 1 rfl) ?_
  refine lv_iconst (v := 0) hx hb dX11_rangeOf_2 (by decide) ?_
  obtain ⟨r_1, hc_2, hF⟩ := bn_some hF
  refine xc_i (wn := (w_X11_rangeOf K g_t t_raised t_undos t_reached t_length t_begin t_sort t_value t_word t_wrongAt t_badAt t_bad t_read t_pictured t_x t_all)) hP hD hS C0.2.2.1 [0, 1] [] [0, 1] rfl rfl (by decide) (by decide) rfl (by decide) (va_runV (As := [.int x1, .int (0 : Int32)]) (rest := []) C0.1 (c_X11_of l D K g_t t_raised t_undos t_reached t_length t_begin t_sort t_value t_word t_wrongAt t_badAt t_bad t_read t_pictured t_x t_all x1 (0 : Int32) r_1 hc_2 H.size) (cwV 2 hts gX11_rangeOf_X11_of rfl rfl rfl (by decide +kernel) ⟨Nat.le_of_ble_eq_true rfl, Nat.le_of_ble_eq_true rfl⟩) (xp_V C0.2 hP hD hS [0, 1] rfl (by decide) 10 0 rfl rfl rfl) rfl rfl hl.1 rfl (lv_room (Nat.le_of_ble_eq_true rfl)) dX11_rangeOf_3 ⟨Nat.le_of_ble_eq_true rfl, Nat.le_of_ble_eq_true rfl⟩) (fun H locs hP hD hS => ?_)
  refine lv_bipush (v := 16) hx hb dX11_rangeOf_6 (by decide) ?_
  refine lv_idiv hx hb dX11_rangeOf_8 (by decide) ?_
  obtain rfl := Option.some.inj hF
  exact HR 9 H locs ls dX11_rangeOf_9 hP hD hS

/-! StaggerRadarModel.isSeen(II)Z -/
abbrev rmX11_isSeen : Room := { frames := 2, cells := 0, slots := 0, locals := 45 }
theorem fl_X11_isSeen_7 : Cond.fieldLink RX11 7 "StaggerRadarModel" "all" "[I" ∈ wsX11_isSeen := by decide +kernel
theorem iw_X11_isSeen_X11 : ∀ w ∈ u_ws RX11 TX11 30, w ∈ wsX11_isSeen := by decide +kernel
abbrev w_X11_isSeen (K : Nat → ClassId) (g_t : Nat → Nat) (t_raised : Int32) (t_undos : Int32) (t_reached : Int32) (t_length : Int32) (t_begin : Int32) (t_sort : Int32) (t_value : Int32) (t_word : Int64) (t_wrongAt : Int32) (t_badAt : Int32) (t_bad : Int32) (t_read : Int32) (t_pictured : Int32) (t_x : Int32) (t_all : Nat → Int32) : va_W := [((g_t 0), .inr (10, [.int t_raised, .ref (g_t 2), .ref (g_t 3), .ref (g_t 4), .ref (g_t 5), .int t_undos, .int t_reached, .int t_length, .int t_begin, .int t_sort, .int t_value, .long t_word, .int t_wrongAt, .int t_badAt, .int t_bad, .ref (g_t 16), .int t_read, .ref (g_t 18), .ref (g_t 19), .ref (g_t 20), .int t_pictured, .ref (g_t 22), .ref (g_t 23), .ref (g_t 24), .ref (g_t 25), .ref (g_t 26), .int t_x, .ref (g_t 28), .ref (g_t 29), .ref (g_t 30)])), ((g_t 2), .inl (K 0, 500, .inl t_all))]
def F_X11_isSeen (t_all : Nat → Int32) (x1 : Int32) (x2 : Int32) : Option (Int32) :=
  (F_X11_of t_all x1 (1 : Int32)).bind fun r_1 => ((F_X11_gapAt t_all x2).bind fun r_3 => ((F_X11_isBlind t_all r_1 r_3).bind fun r_5 => (if r_5 = (0 : Int32) then ((F_X11_rangeOf t_all x1).bind fun r_8 => ((F_X11_gapAt t_all x2).bind fun r_10 => (gd_ (decide (¬ r_10 = 0)) (if (r_8 - r_8 / r_10 * r_10) < (t_all 8) then (some (0 : Int32)) else (some (1 : Int32)))))) else (some (0 : Int32)))))
set_option maxHeartbeats 4000000 in
set_option maxRecDepth 100000 in
theorem c_X11_isSeen (l : Launch) (D : va_G) (K : Nat → ClassId) (g_t : Nat → Nat) (t_raised : Int32) (t_undos : Int32) (t_reached : Int32) (t_length : Int32) (t_begin : Int32) (t_sort : Int32) (t_value : Int32) (t_word : Int64) (t_wrongAt : Int32) (t_badAt : Int32) (t_bad : Int32) (t_read : Int32) (t_pictured : Int32) (t_x : Int32) (t_all : Nat → Int32) (x1 : Int32) (x2 : Int32) (res : Int32) (hF : F_X11_isSeen t_all x1 x2 = some res) :
    Mi_ l yX11_isSeen wsX11_isSeen rmX11_isSeen D K [.ref (g_t 0), .int x1, .int x2] (w_X11_isSeen K g_t t_raised t_undos t_reached t_length t_begin t_sort t_value t_word t_wrongAt t_badAt t_bad t_read t_pictured t_x t_all) (w_X11_isSeen K g_t t_raised t_undos t_reached t_length t_begin t_sort t_value t_word t_wrongAt t_badAt t_bad t_read t_pictured t_x t_all) (res) := by
  refine en_z (cc := cX11_isSeen) (maxL := 3) (own := RX11) (by decide) rfl rfl (Nat.le_of_ble_eq_true rfl) ?_
  intro p e s m args below meth c A Q H locs ls C0 hP hD hS hl HR
  obtain ⟨⟨hx, hb, hml, hown, hts⟩, hK, -⟩ := id C0
  have hl : lv_has ls 3 [(0, .ref (g_t 0)), (1, .int x1), (2, .int x2)] := hl
  unfold F_X11_isSeen at hF
  refine lv_aload_n hx hb dX11_isSeen_0 rfl (lv_at hl 0 rfl) ?_
  refine lv_aload_n hx hb dX11_isSeen_1 rfl (lv_at hl 0 rfl) ?_
  refine lv_iload_n hx hb dX11_isSeen_2 rfl (lv_at hl 1 rfl) ?_
  refine lv_iconst (v := 1) hx hb dX11_isSeen_3 (by decide) ?_
  obtain ⟨r_1, hc_2, hF⟩ := bn_some hF
  refine xc_i (wn := (w_X11_isSeen K g_t t_raised t_undos t_reached t_length t_begin t_sort t_value t_word t_wrongAt t_badAt t_bad t_read t_pictured t_x t_all)) hP hD hS C0.2.2.1 [0, 1] [] [0, 1] rfl rfl (by decide) (by decide) rfl (by decide) (va_runV (As := [.int x1, .int (1 : Int32)]) (rest := [.ref (g_t 0)]) C0.1 (c_X11_of l D K g_t t_raised t_undos t_reached t_length t_begin t_sort t_value t_word t_wrongAt t_badAt t_bad t_read t_pictured t_x t_all x1 (1 : Int32) r_1 hc_2 H.size) (cwV 2 hts gX11_isSeen_X11_of rfl rfl rfl (by decide +kernel) ⟨Nat.le_of_ble_eq_true rfl, Nat.le_of_ble_eq_true rfl⟩) (xp_V C0.2 hP hD hS [0, 1] rfl (by decide) 10 0 rfl rfl rfl) rfl rfl hl.1 rfl (lv_room (Nat.le_of_ble_eq_true rfl)) dX11_isSeen_4 ⟨Nat.le_of_ble_eq_true rfl, Nat.le_of_ble_eq_true rfl⟩) (fun H locs hP hD hS => ?_)
  refine lv_aload_n hx hb dX11_isSeen_7 rfl (lv_at hl 0 rfl) ?_
  refine lv_iload_n hx hb dX11_isSeen_8 rfl (lv_at hl 2 rfl) ?_
  obtain ⟨r_3, hc_4, hF⟩ := bn_some hF
  refine xc_i (wn := (w_X11_isSeen K g_t t_raised t_undos t_reached t_length t_begin t_sort t_value t_word t_wrongAt t_badAt t_bad t_read t_pictured t_x t_all)) hP hD hS C0.2.2.1 [0, 1] [] [0, 1] rfl rfl (by decide) (by decide) rfl (by decide) (va_runV (As := [.int x2]) (rest := [.int r_1, .ref (g_t 0)]) C0.1 (c_X11_gapAt l D K g_t t_raised t_undos t_reached t_length t_begin t_sort t_value t_word t_wrongAt t_badAt t_bad t_read t_pictured t_x t_all x2 r_3 hc_4 H.size) (cwV 1 hts gX11_isSeen_X11_gapAt rfl rfl rfl (by decide +kernel) ⟨Nat.le_of_ble_eq_true rfl, Nat.le_of_ble_eq_true rfl⟩) (xp_V C0.2 hP hD hS [0, 1] rfl (by decide) 10 0 rfl rfl rfl) rfl rfl hl.1 rfl (lv_room (Nat.le_of_ble_eq_true rfl)) dX11_isSeen_9 ⟨Nat.le_of_ble_eq_true rfl, Nat.le_of_ble_eq_true rfl⟩) (fun H locs hP hD hS => ?_)
  obtain ⟨r_5, hc_6, hF⟩ := bn_some hF
  refine xc_i (wn := (w_X11_isSeen K g_t t_raised t_undos t_reached t_length t_begin t_sort t_value t_word t_wrongAt t_badAt t_bad t_read t_pictured t_x t_all)) hP hD hS C0.2.2.1 [0, 1] [] [0, 1] rfl rfl (by decide) (by decide) rfl (by decide) (va_runV (As := [.int r_1, .int r_3]) (rest := []) C0.1 (c_X11_isBlind l D K g_t t_raised t_undos t_reached t_length t_begin t_sort t_value t_word t_wrongAt t_badAt t_bad t_read t_pictured t_x t_all r_1 r_3 r_5 hc_6 H.size) (cwV 2 hts gX11_isSeen_X11_isBlind rfl rfl rfl (by decide +kernel) ⟨Nat.le_of_ble_eq_true rfl, Nat.le_of_ble_eq_true rfl⟩) (xp_V C0.2 hP hD hS [0, 1] rfl (by decide) 10 0 rfl rfl rfl) rfl rfl hl.1 rfl (lv_room (Nat.le_of_ble_eq_true rfl)) dX11_isSeen_12 ⟨Nat.le_of_ble_eq_true rfl, Nat.le_of_ble_eq_true rfl⟩) (fun H locs hP hD hS => ?_)
  refine lv_if_ne (tgt := 43) hx hb dX11_isSeen_15 (by decide) (fun c_7 => ?_) (fun c_7 => ?_)
  · have hF := it_neg c_7 hF
    refine lv_iconst (v := 0) hx hb dX11_isSeen_43 (by decide) ?_
    obtain rfl := Option.some.inj hF
    exact HR 44 H locs ls dX11_isSeen_44 narrow_b0 hP hD hS
  · have hF := it_pos c_7 hF
    refine lv_aload_n hx hb dX11_isSeen_18 rfl (lv_at hl 0 rfl) ?_
    refine lv_iload_n hx hb dX11_isSeen_19 rfl (lv_at hl 1 rfl) ?_
    obtain ⟨r_8, hc_9, hF⟩ := bn_some hF
    refine xc_i (wn := (w_X11_isSeen K g_t t_raised t_undos t_reached t_length t_begin t_sort t_value t_word t_wrongAt t_badAt t_bad t_read t_pictured t_x t_all)) hP hD hS C0.2.2.1 [0, 1] [] [0, 1] rfl rfl (by decide) (by decide) rfl (by decide) (va_runV (As := [.int x1]) (rest := []) C0.1 (c_X11_rangeOf l D K g_t t_raised t_undos t_reached t_length t_begin t_sort t_value t_word t_wrongAt t_badAt t_bad t_read t_pictured t_x t_all x1 r_8 hc_9 H.size) (cwV 1 hts gX11_isSeen_X11_rangeOf rfl rfl rfl (by decide +kernel) ⟨Nat.le_of_ble_eq_true rfl, Nat.le_of_ble_eq_true rfl⟩) (xp_V C0.2 hP hD hS [0, 1] rfl (by decide) 10 0 rfl rfl rfl) rfl rfl hl.1 rfl (lv_room (Nat.le_of_ble_eq_true rfl)) dX11_isSeen_20 ⟨Nat.le_of_ble_eq_true rfl, Nat.le_of_ble_eq_true rfl⟩) (fun H locs hP hD hS => ?_)
    refine lv_aload_n hx hb dX11_isSeen_23 rfl (lv_at hl 0 rfl) ?_
    refine lv_iload_n hx hb dX11_isSeen_24 rfl (lv_at hl 2 rfl) ?_
    obtain ⟨r_10, hc_11, hF⟩ := bn_some hF
    refine xc_i (wn := (w_X11_isSeen K g_t t_raised t_undos t_reached t_length t_begin t_sort t_value t_word t_wrongAt t_badAt t_bad t_read t_pictured t_x t_all)) hP hD hS C0.2.2.1 [0, 1] [] [0, 1] rfl rfl (by decide) (by decide) rfl (by decide) (va_runV (As := [.int x2]) (rest := [.int r_8]) C0.1 (c_X11_gapAt l D K g_t t_raised t_undos t_reached t_length t_begin t_sort t_value t_word t_wrongAt t_badAt t_bad t_read t_pictured t_x t_all x2 r_10 hc_11 H.size) (cwV 1 hts gX11_isSeen_X11_gapAt rfl rfl rfl (by decide +kernel) ⟨Nat.le_of_ble_eq_true rfl, Nat.le_of_ble_eq_true rfl⟩) (xp_V C0.2 hP hD hS [0, 1] rfl (by decide) 10 0 rfl rfl rfl) rfl rfl hl.1 rfl (lv_room (Nat.le_of_ble_eq_true rfl)) dX11_isSeen_25 ⟨Nat.le_of_ble_eq_true rfl, Nat.le_of_ble_eq_true rfl⟩) (fun H locs hP hD hS => ?_)
    obtain ⟨hg_12, hF⟩ := gd_some hF
    refine lv_irem hx hb dX11_isSeen_28 (ne_of hg_12) ?_
    refine lv_aload_n hx hb dX11_isSeen_29 rfl (lv_at hl 0 rfl) ?_
    refine va_get (D := D) (ci := 10) (v := .ref (g_t 2)) (C := RX11) (T := TX11) (N := 30) hx hb hts iw_X11_isSeen_X11 hown hK hP 0 rfl rfl 1 (by decide) (hts _ fl_X11_isSeen_7) (fun _ h9 => h9) rfl dX11_isSeen_30 ?_
    refine lv_bipush (v := 8) hx hb dX11_isSeen_33 (by decide) ?_
    refine xl_i (f := t_all) hx hb hK hP 1 0 rfl rfl (k := 8) (by decide) (in_v (by decide)) dX11_isSeen_35 ?_
    refine lv_icmp_lt (tgt := 43) hx hb dX11_isSeen_36 (by decide) (fun c_13 => ?_) (fun c_13 => ?_)
    · have hF := it_pos c_13 hF
      refine lv_iconst (v := 0) hx hb dX11_isSeen_43 (by decide) ?_
      obtain rfl := Option.some.inj hF
      exact HR 44 H locs ls dX11_isSeen_44 narrow_b0 hP hD hS
    · have hF := it_neg c_13 hF
      refine lv_iconst (v := 1) hx hb dX11_isSeen_39 (by decide) ?_
      refine lv_goto (tgt := 44) hx hb dX11_isSeen_40 (by decide) ?_
      obtain rfl := Option.some.inj hF
      exact HR 44 H locs ls dX11_isSeen_44 narrow_b1 hP hD hS

/-! StaggerRadarModel.at(IIZ)I -/
abbrev rmX11_at : Room := { frames := 3, cells := 0, slots := 0, locals := 67 }
theorem fl_X11_at_7 : Cond.fieldLink RX11 7 "StaggerRadarModel" "all" "[I" ∈ wsX11_at := by decide +kernel
theorem fl_X11_at_66 : Cond.fieldLink RX11 66 "StaggerRadarModel" "raised" "I" ∈ wsX11_at := by decide +kernel
theorem iw_X11_at_X11 : ∀ w ∈ u_ws RX11 TX11 30, w ∈ wsX11_at := by decide +kernel
abbrev w_X11_at (K : Nat → ClassId) (g_t : Nat → Nat) (t_raised : Int32) (t_undos : Int32) (t_reached : Int32) (t_length : Int32) (t_begin : Int32) (t_sort : Int32) (t_value : Int32) (t_word : Int64) (t_wrongAt : Int32) (t_badAt : Int32) (t_bad : Int32) (t_read : Int32) (t_pictured : Int32) (t_x : Int32) (t_all : Nat → Int32) : va_W := [((g_t 0), .inr (10, [.int t_raised, .ref (g_t 2), .ref (g_t 3), .ref (g_t 4), .ref (g_t 5), .int t_undos, .int t_reached, .int t_length, .int t_begin, .int t_sort, .int t_value, .long t_word, .int t_wrongAt, .int t_badAt, .int t_bad, .ref (g_t 16), .int t_read, .ref (g_t 18), .ref (g_t 19), .ref (g_t 20), .int t_pictured, .ref (g_t 22), .ref (g_t 23), .ref (g_t 24), .ref (g_t 25), .ref (g_t 26), .int t_x, .ref (g_t 28), .ref (g_t 29), .ref (g_t 30)])), ((g_t 2), .inl (K 0, 500, .inl t_all))]
def J_X11_at_99 (t_all : Nat → Int32) (k_39 : Int32 → Int32 → Int32 → Int32 → Int32 → Int32 → Int32 → Option (Int32 × Int32)) (t_raised : Int32) (x1 : Int32) (x2 : Int32) (x3 : Int32) (x5 : Int32) (x6 : Int32) (x7 : Int32) (s0 : Int32) (s1 : Int32) : Option (Int32 × Int32) :=
  if x7 = (0 : Int32) then (k_39 t_raised x1 x2 x3 (s0 ||| s1) (x5 + (0 : Int32)) (x6 + (1 : Int32))) else ((F_X11_of t_all x6 (2 : Int32)).bind fun r_2 => (k_39 t_raised x1 x2 x3 (s0 ||| s1) (x5 + r_2) (x6 + (1 : Int32))))
set_option maxHeartbeats 4000000 in
set_option maxRecDepth 100000 in
theorem w_X11_at_99 {p : Program} {l : Launch} {e : Env} {s : State} {m : MethodId} {args : Array Value} {below : List Frame} {meth : Method} {c : Code} {D : va_G} {K : Nat → ClassId} {A : Nat → Prop} {Q : State → Prop} (C0 : cx_ p s m args c cX11_at 8 RX11 wsX11_at D K A) {g_t : Nat → Nat} {t_undos : Int32} {t_reached : Int32} {t_length : Int32} {t_begin : Int32} {t_sort : Int32} {t_value : Int32} {t_word : Int64} {t_wrongAt : Int32} {t_badAt : Int32} {t_bad : Int32} {t_read : Int32} {t_pictured : Int32} {t_x : Int32} {t_all : Nat → Int32} {res : Int32 × Int32} (HR : ∀ (pc : Nat) (H : Heap) (locs : List Loc) (ls : Array Slot), decode cX11_at pc = .ok (.ireturn, 1) → va_P D vwCl (w_X11_at K g_t res.2 t_undos t_reached t_length t_begin t_sort t_value t_word t_wrongAt t_badAt t_bad t_read t_pictured t_x t_all) H → va_D A (w_X11_at K g_t res.2 t_undos t_reached t_length t_begin t_sort t_value t_word t_wrongAt t_badAt t_bad t_read t_pictured t_x t_all) → va_S A s.heap H locs → W p l e rmX11_at s m args below meth c H locs 0 0 Q (F0 m pc ls [.int res.1])) {k_39 : Int32 → Int32 → Int32 → Int32 → Int32 → Int32 → Int32 → Option (Int32 × Int32)} (HK_39 : ∀ (t_raised : Int32) (x1 : Int32) (x2 : Int32) (x3 : Int32) (x4 : Int32) (x5 : Int32) (x6 : Int32) (H : Heap) (locs : List Loc) (ls : Array Slot), va_P D vwCl (w_X11_at K g_t t_raised t_undos t_reached t_length t_begin t_sort t_value t_word t_wrongAt t_badAt t_bad t_read t_pictured t_x t_all) H → va_D A (w_X11_at K g_t t_raised t_undos t_reached t_length t_begin t_sort t_value t_word t_wrongAt t_badAt t_bad t_read t_pictured t_x t_all) → va_S A s.heap H locs → lv_has ls 8 [(0, .ref (g_t 0)), (1, .int x1), (2, .int x2), (3, .int x3), (4, .int x4), (5, .int x5), (6, .int x6)] → k_39 t_raised x1 x2 x3 x4 x5 x6 = some res → W p l e rmX11_at s m args below meth c H locs 0 0 Q (F0 m 39 ls [])) :
    ∀ (t_raised : Int32) (x1 : Int32) (x2 : Int32) (x3 : Int32) (x5 : Int32) (x6 : Int32) (x7 : Int32) (s0 : Int32) (s1 : Int32) (H : Heap) (locs : List Loc) (ls : Array Slot), va_P D vwCl (w_X11_at K g_t t_raised t_undos t_reached t_length t_begin t_sort t_value t_word t_wrongAt t_badAt t_bad t_read t_pictured t_x t_all) H → va_D A (w_X11_at K g_t t_raised t_undos t_reached t_length t_begin t_sort t_value t_word t_wrongAt t_badAt t_bad t_read t_pictured t_x t_all) → va_S A s.heap H locs → lv_has ls 8 [(0, .ref (g_t 0)), (1, .int x1), (2, .int x2), (3, .int x3), (5, .int x5), (6, .int x6), (7, .int x7)] → J_X11_at_99 t_all k_39 t_raised x1 x2 x3 x5 x6 x7 s0 s1 = some res → W p l e rmX11_at s m args below meth c H locs 0 0 Q (F0 m 99 ls [.int s1, .int s0]) := by
  obtain ⟨⟨hx, hb, hml, hown, hts⟩, hK, -⟩ := id C0
  intro t_raised x1 x2 x3 x5 x6 x7 s0 s1 H locs ls hP hD hS hl hF
  unfold J_X11_at_99 at hF
  refine lv_ior hx hb dX11_at_99 ?_
  refine lv_istore (lv' := [(4, .int (s0 ||| s1)), (0, .ref (g_t 0)), (1, .int x1), (2, .int x2), (3, .int x3), (5, .int x5), (6, .int x6), (7, .int x7)]) hx hb dX11_at_100 hl (by decide) rfl (fun ls hl => ?_)
  refine lv_iload hx hb dX11_at_102 (lv_at hl 5 rfl) ?_
  refine lv_iload hx hb dX11_at_104 (lv_at hl 7 rfl) ?_
  refine lv_if_eq (tgt := 119) hx hb dX11_at_106 (by decide) (fun c_1 => ?_) (fun c_1 => ?_)
  · have hF := it_pos c_1 hF
    refine lv_iconst (v := 0) hx hb dX11_at_119 (by decide) ?_
    refine lv_iadd hx hb dX11_at_120 ?_
    refine lv_istore (lv' := [(5, .int (x5 + (0 : Int32))), (4, .int (s0 ||| s1)), (0, .ref (g_t 0)), (1, .int x1), (2, .int x2), (3, .int x3), (6, .int x6), (7, .int x7)]) hx hb dX11_at_121 hl (by decide) rfl (fun ls hl => ?_)
    refine lv_iinc (v := (x6 + (1 : Int32))) (lv' := [(6, .int (x6 + (1 : Int32))), (5, .int (x5 + (0 : Int32))), (4, .int (s0 ||| s1)), (0, .ref (g_t 0)), (1, .int x1), (2, .int x2), (3, .int x3), (7, .int x7)]) hx hb dX11_at_123 hl (k := 6) rfl (congrArg (fun z => x6 + z) (by decide)) (by decide) rfl (fun ls hl => ?_)
    refine lv_goto (tgt := 39) hx hb dX11_at_126 (by decide) ?_
    exact HK_39 t_raised x1 x2 x3 (s0 ||| s1) (x5 + (0 : Int32)) (x6 + (1 : Int32)) H locs ls hP hD hS (lv_sub hl [3, 4, 5, 6, 2, 1, 0] rfl) hF
  · have hF := it_neg c_1 hF
    refine lv_aload_n hx hb dX11_at_109 rfl (lv_at hl 1 rfl) ?_
    refine lv_iload hx hb dX11_at_110 (lv_at hl 6 rfl) ?_
    refine lv_iconst (v := 2) hx hb dX11_at_112 (by decide) ?_
    obtain ⟨r_2, hc_3, hF⟩ := bn_some hF
    refine xc_i (wn := (w_X11_at K g_t t_raised t_undos t_reached t_length t_begin t_sort t_value t_word t_wrongAt t_badAt t_bad t_read t_pictured t_x t_all)) hP hD hS C0.2.2.1 [0, 1] [] [0, 1] rfl rfl (by decide) (by decide) rfl (by decide) (va_runV (As := [.int x6, .int (2 : Int32)]) (rest := [.int x5]) C0.1 (c_X11_of l D K g_t t_raised t_undos t_reached t_length t_begin t_sort t_value t_word t_wrongAt t_badAt t_bad t_read t_pictured t_x t_all x6 (2 : Int32) r_2 hc_3 H.size) (cwV 2 hts gX11_at_X11_of rfl rfl rfl (by decide +kernel) ⟨Nat.le_of_ble_eq_true rfl, Nat.le_of_ble_eq_true rfl⟩) (xp_V C0.2 hP hD hS [0, 1] rfl (by decide) 10 0 rfl rfl rfl) rfl rfl hl.1 rfl (lv_room (Nat.le_of_ble_eq_true rfl)) dX11_at_113 ⟨Nat.le_of_ble_eq_true rfl, Nat.le_of_ble_eq_true rfl⟩) (fun H locs hP hD hS => ?_)
    refine lv_goto (tgt := 120) hx hb dX11_at_116 (by decide) ?_
    refine lv_iadd hx hb dX11_at_120 ?_
    refine lv_istore (lv' := [(5, .int (x5 + r_2)), (4, .int (s0 ||| s1)), (0, .ref (g_t 0)), (1, .int x1), (2, .int x2), (3, .int x3), (6, .int x6), (7, .int x7)]) hx hb dX11_at_121 hl (by decide) rfl (fun ls hl => ?_)
    refine lv_iinc (v := (x6 + (1 : Int32))) (lv' := [(6, .int (x6 + (1 : Int32))), (5, .int (x5 + r_2)), (4, .int (s0 ||| s1)), (0, .ref (g_t 0)), (1, .int x1), (2, .int x2), (3, .int x3), (7, .int x7)]) hx hb dX11_at_123 hl (k := 6) rfl (congrArg (fun z => x6 + z) (by decide)) (by decide) rfl (fun ls hl => ?_)
    refine lv_goto (tgt := 39) hx hb dX11_at_126 (by decide) ?_
    exact HK_39 t_raised x1 x2 x3 (s0 ||| s1) (x5 + r_2) (x6 + (1 : Int32)) H locs ls hP hD hS (lv_sub hl [3, 4, 5, 6, 2, 1, 0] rfl) hF
def J_X11_at_82 (t_all : Nat → Int32) (k_39 : Int32 → Int32 → Int32 → Int32 → Int32 → Int32 → Int32 → Option (Int32 × Int32)) (t_raised : Int32) (x1 : Int32) (x2 : Int32) (x3 : Int32) (x4 : Int32) (x5 : Int32) (x6 : Int32) (s0 : Int32) : Option (Int32 × Int32) :=
  if s0 = (0 : Int32) then (J_X11_at_99 t_all k_39 t_raised x1 x2 x3 x5 x6 s0 x4 (0 : Int32)) else (J_X11_at_99 t_all k_39 t_raised x1 x2 x3 x5 x6 s0 x4 ((1 : Int32) <<< (x6 &&& 31)))
set_option maxHeartbeats 4000000 in
set_option maxRecDepth 100000 in
theorem w_X11_at_82 {p : Program} {l : Launch} {e : Env} {s : State} {m : MethodId} {args : Array Value} {below : List Frame} {meth : Method} {c : Code} {D : va_G} {K : Nat → ClassId} {A : Nat → Prop} {Q : State → Prop} (C0 : cx_ p s m args c cX11_at 8 RX11 wsX11_at D K A) {g_t : Nat → Nat} {t_undos : Int32} {t_reached : Int32} {t_length : Int32} {t_begin : Int32} {t_sort : Int32} {t_value : Int32} {t_word : Int64} {t_wrongAt : Int32} {t_badAt : Int32} {t_bad : Int32} {t_read : Int32} {t_pictured : Int32} {t_x : Int32} {t_all : Nat → Int32} {res : Int32 × Int32} (HR : ∀ (pc : Nat) (H : Heap) (locs : List Loc) (ls : Array Slot), decode cX11_at pc = .ok (.ireturn, 1) → va_P D vwCl (w_X11_at K g_t res.2 t_undos t_reached t_length t_begin t_sort t_value t_word t_wrongAt t_badAt t_bad t_read t_pictured t_x t_all) H → va_D A (w_X11_at K g_t res.2 t_undos t_reached t_length t_begin t_sort t_value t_word t_wrongAt t_badAt t_bad t_read t_pictured t_x t_all) → va_S A s.heap H locs → W p l e rmX11_at s m args below meth c H locs 0 0 Q (F0 m pc ls [.int res.1])) {k_39 : Int32 → Int32 → Int32 → Int32 → Int32 → Int32 → Int32 → Option (Int32 × Int32)} (HK_39 : ∀ (t_raised : Int32) (x1 : Int32) (x2 : Int32) (x3 : Int32) (x4 : Int32) (x5 : Int32) (x6 : Int32) (H : Heap) (locs : List Loc) (ls : Array Slot), va_P D vwCl (w_X11_at K g_t t_raised t_undos t_reached t_length t_begin t_sort t_value t_word t_wrongAt t_badAt t_bad t_read t_pictured t_x t_all) H → va_D A (w_X11_at K g_t t_raised t_undos t_reached t_length t_begin t_sort t_value t_word t_wrongAt t_badAt t_bad t_read t_pictured t_x t_all) → va_S A s.heap H locs → lv_has ls 8 [(0, .ref (g_t 0)), (1, .int x1), (2, .int x2), (3, .int x3), (4, .int x4), (5, .int x5), (6, .int x6)] → k_39 t_raised x1 x2 x3 x4 x5 x6 = some res → W p l e rmX11_at s m args below meth c H locs 0 0 Q (F0 m 39 ls [])) :
    ∀ (t_raised : Int32) (x1 : Int32) (x2 : Int32) (x3 : Int32) (x4 : Int32) (x5 : Int32) (x6 : Int32) (s0 : Int32) (H : Heap) (locs : List Loc) (ls : Array Slot), va_P D vwCl (w_X11_at K g_t t_raised t_undos t_reached t_length t_begin t_sort t_value t_word t_wrongAt t_badAt t_bad t_read t_pictured t_x t_all) H → va_D A (w_X11_at K g_t t_raised t_undos t_reached t_length t_begin t_sort t_value t_word t_wrongAt t_badAt t_bad t_read t_pictured t_x t_all) → va_S A s.heap H locs → lv_has ls 8 [(0, .ref (g_t 0)), (1, .int x1), (2, .int x2), (3, .int x3), (4, .int x4), (5, .int x5), (6, .int x6)] → J_X11_at_82 t_all k_39 t_raised x1 x2 x3 x4 x5 x6 s0 = some res → W p l e rmX11_at s m args below meth c H locs 0 0 Q (F0 m 82 ls [.int s0]) := by
  obtain ⟨⟨hx, hb, hml, hown, hts⟩, hK, -⟩ := id C0
  intro t_raised x1 x2 x3 x4 x5 x6 s0 H locs ls hP hD hS hl hF
  unfold J_X11_at_82 at hF
  refine lv_istore (lv' := [(7, .int s0), (0, .ref (g_t 0)), (1, .int x1), (2, .int x2), (3, .int x3), (4, .int x4), (5, .int x5), (6, .int x6)]) hx hb dX11_at_82 hl (by decide) rfl (fun ls hl => ?_)
  refine lv_iload hx hb dX11_at_84 (lv_at hl 5 rfl) ?_
  refine lv_iload hx hb dX11_at_86 (lv_at hl 0 rfl) ?_
  refine lv_if_eq (tgt := 98) hx hb dX11_at_88 (by decide) (fun c_1 => ?_) (fun c_1 => ?_)
  · have hF := it_pos c_1 hF
    refine lv_iconst (v := 0) hx hb dX11_at_98 (by decide) ?_
    exact w_X11_at_99 C0 HR HK_39 t_raised x1 x2 x3 x5 x6 s0 x4 (0 : Int32) H locs ls hP hD hS (lv_sub hl [1, 2, 3, 4, 6, 7, 0] rfl) hF
  · have hF := it_neg c_1 hF
    refine lv_iconst (v := 1) hx hb dX11_at_91 (by decide) ?_
    refine lv_iload hx hb dX11_at_92 (lv_at hl 7 rfl) ?_
    refine lv_ishl hx hb dX11_at_94 ?_
    refine lv_goto (tgt := 99) hx hb dX11_at_95 (by decide) ?_
    exact w_X11_at_99 C0 HR HK_39 t_raised x1 x2 x3 x5 x6 s0 x4 ((1 : Int32) <<< (x6 &&& 31)) H locs ls hP hD hS (lv_sub hl [1, 2, 3, 4, 6, 7, 0] rfl) hF
def J_X11_at_81 (t_all : Nat → Int32) (k_39 : Int32 → Int32 → Int32 → Int32 → Int32 → Int32 → Int32 → Option (Int32 × Int32)) (t_raised : Int32) (x1 : Int32) (x2 : Int32) (x3 : Int32) (x4 : Int32) (x5 : Int32) (x6 : Int32) : Option (Int32 × Int32) :=
  J_X11_at_82 t_all k_39 t_raised x1 x2 x3 x4 x5 x6 (0 : Int32)
set_option maxHeartbeats 4000000 in
set_option maxRecDepth 100000 in
theorem w_X11_at_81 {p : Program} {l : Launch} {e : Env} {s : State} {m : MethodId} {args : Array Value} {below : List Frame} {meth : Method} {c : Code} {D : va_G} {K : Nat → ClassId} {A : Nat → Prop} {Q : State → Prop} (C0 : cx_ p s m args c cX11_at 8 RX11 wsX11_at D K A) {g_t : Nat → Nat} {t_undos : Int32} {t_reached : Int32} {t_length : Int32} {t_begin : Int32} {t_sort : Int32} {t_value : Int32} {t_word : Int64} {t_wrongAt : Int32} {t_badAt : Int32} {t_bad : Int32} {t_read : Int32} {t_pictured : Int32} {t_x : Int32} {t_all : Nat → Int32} {res : Int32 × Int32} (HR : ∀ (pc : Nat) (H : Heap) (locs : List Loc) (ls : Array Slot), decode cX11_at pc = .ok (.ireturn, 1) → va_P D vwCl (w_X11_at K g_t res.2 t_undos t_reached t_length t_begin t_sort t_value t_word t_wrongAt t_badAt t_bad t_read t_pictured t_x t_all) H → va_D A (w_X11_at K g_t res.2 t_undos t_reached t_length t_begin t_sort t_value t_word t_wrongAt t_badAt t_bad t_read t_pictured t_x t_all) → va_S A s.heap H locs → W p l e rmX11_at s m args below meth c H locs 0 0 Q (F0 m pc ls [.int res.1])) {k_39 : Int32 → Int32 → Int32 → Int32 → Int32 → Int32 → Int32 → Option (Int32 × Int32)} (HK_39 : ∀ (t_raised : Int32) (x1 : Int32) (x2 : Int32) (x3 : Int32) (x4 : Int32) (x5 : Int32) (x6 : Int32) (H : Heap) (locs : List Loc) (ls : Array Slot), va_P D vwCl (w_X11_at K g_t t_raised t_undos t_reached t_length t_begin t_sort t_value t_word t_wrongAt t_badAt t_bad t_read t_pictured t_x t_all) H → va_D A (w_X11_at K g_t t_raised t_undos t_reached t_length t_begin t_sort t_value t_word t_wrongAt t_badAt t_bad t_read t_pictured t_x t_all) → va_S A s.heap H locs → lv_has ls 8 [(0, .ref (g_t 0)), (1, .int x1), (2, .int x2), (3, .int x3), (4, .int x4), (5, .int x5), (6, .int x6)] → k_39 t_raised x1 x2 x3 x4 x5 x6 = some res → W p l e rmX11_at s m args below meth c H locs 0 0 Q (F0 m 39 ls [])) :
    ∀ (t_raised : Int32) (x1 : Int32) (x2 : Int32) (x3 : Int32) (x4 : Int32) (x5 : Int32) (x6 : Int32) (H : Heap) (locs : List Loc) (ls : Array Slot), va_P D vwCl (w_X11_at K g_t t_raised t_undos t_reached t_length t_begin t_sort t_value t_word t_wrongAt t_badAt t_bad t_read t_pictured t_x t_all) H → va_D A (w_X11_at K g_t t_raised t_undos t_reached t_length t_begin t_sort t_value t_word t_wrongAt t_badAt t_bad t_read t_pictured t_x t_all) → va_S A s.heap H locs → lv_has ls 8 [(0, .ref (g_t 0)), (1, .int x1), (2, .int x2), (3, .int x3), (4, .int x4), (5, .int x5), (6, .int x6)] → J_X11_at_81 t_all k_39 t_raised x1 x2 x3 x4 x5 x6 = some res → W p l e rmX11_at s m args below meth c H locs 0 0 Q (F0 m 81 ls []) := by
  obtain ⟨⟨hx, hb, hml, hown, hts⟩, hK, -⟩ := id C0
  intro t_raised x1 x2 x3 x4 x5 x6 H locs ls hP hD hS hl hF
  unfold J_X11_at_81 at hF
  refine lv_iconst (v := 0) hx hb dX11_at_81 (by decide) ?_
  exact w_X11_at_82 C0 HR HK_39 t_raised x1 x2 x3 x4 x5 x6 (0 : Int32) H locs ls hP hD hS (lv_sub hl [0, 1, 2, 3, 4, 5, 6] rfl) hF
def J_X11_at_129 (t_all : Nat → Int32) (t_raised : Int32) (x3 : Int32) (x4 : Int32) (x5 : Int32) : Option (Int32 × Int32) :=
  if x3 = (0 : Int32) then (some (x4, t_raised)) else (some (x5, t_raised))
set_option maxHeartbeats 4000000 in
set_option maxRecDepth 100000 in
theorem w_X11_at_129 {p : Program} {l : Launch} {e : Env} {s : State} {m : MethodId} {args : Array Value} {below : List Frame} {meth : Method} {c : Code} {D : va_G} {K : Nat → ClassId} {A : Nat → Prop} {Q : State → Prop} (C0 : cx_ p s m args c cX11_at 8 RX11 wsX11_at D K A) {g_t : Nat → Nat} {t_undos : Int32} {t_reached : Int32} {t_length : Int32} {t_begin : Int32} {t_sort : Int32} {t_value : Int32} {t_word : Int64} {t_wrongAt : Int32} {t_badAt : Int32} {t_bad : Int32} {t_read : Int32} {t_pictured : Int32} {t_x : Int32} {t_all : Nat → Int32} {res : Int32 × Int32} (HR : ∀ (pc : Nat) (H : Heap) (locs : List Loc) (ls : Array Slot), decode cX11_at pc = .ok (.ireturn, 1) → va_P D vwCl (w_X11_at K g_t res.2 t_undos t_reached t_length t_begin t_sort t_value t_word t_wrongAt t_badAt t_bad t_read t_pictured t_x t_all) H → va_D A (w_X11_at K g_t res.2 t_undos t_reached t_length t_begin t_sort t_value t_word t_wrongAt t_badAt t_bad t_read t_pictured t_x t_all) → va_S A s.heap H locs → W p l e rmX11_at s m args below meth c H locs 0 0 Q (F0 m pc ls [.int res.1]))  :
    ∀ (t_raised : Int32) (x3 : Int32) (x4 : Int32) (x5 : Int32) (H : Heap) (locs : List Loc) (ls : Array Slot), va_P D vwCl (w_X11_at K g_t t_raised t_undos t_reached t_length t_begin t_sort t_value t_word t_wrongAt t_badAt t_bad t_read t_pictured t_x t_all) H → va_D A (w_X11_at K g_t t_raised t_undos t_reached t_length t_begin t_sort t_value t_word t_wrongAt t_badAt t_bad t_read t_pictured t_x t_all) → va_S A s.heap H locs → lv_has ls 8 [(3, .int x3), (4, .int x4), (5, .int x5)] → J_X11_at_129 t_all t_raised x3 x4 x5 = some res → W p l e rmX11_at s m args below meth c H locs 0 0 Q (F0 m 129 ls []) := by
  obtain ⟨⟨hx, hb, hml, hown, hts⟩, hK, -⟩ := id C0
  intro t_raised x3 x4 x5 H locs ls hP hD hS hl hF
  unfold J_X11_at_129 at hF
  refine lv_iload_n hx hb dX11_at_129 rfl (lv_at hl 0 rfl) ?_
  refine lv_if_eq (tgt := 138) hx hb dX11_at_130 (by decide) (fun c_1 => ?_) (fun c_1 => ?_)
  · have hF := it_pos c_1 hF
    refine lv_iload hx hb dX11_at_138 (lv_at hl 1 rfl) ?_
    obtain rfl := Option.some.inj hF
    exact HR 140 H locs ls dX11_at_140 hP hD hS
  · have hF := it_neg c_1 hF
    refine lv_iload hx hb dX11_at_133 (lv_at hl 2 rfl) ?_
    refine lv_goto (tgt := 140) hx hb dX11_at_135 (by decide) ?_
    obtain rfl := Option.some.inj hF
    exact HR 140 H locs ls dX11_at_140 hP hD hS
def L_X11_at_39 (t_all : Nat → Int32) : Nat → Int32 → Int32 → Int32 → Int32 → Int32 → Int32 → Int32 → Option (Int32 × Int32)
  | 0, _, _, _, _, _, _, _ => none
  | n_ + 1, t_raised, x1, x2, x3, x4, x5, x6 =>
    if (t_all 13) ≤ x6 then (J_X11_at_129 t_all t_raised x3 x4 x5) else ((F_X11_isSeen t_all x6 x1).bind fun r_2 => (if r_2 = (0 : Int32) then (J_X11_at_81 t_all (L_X11_at_39 t_all n_) t_raised x1 x2 x3 x4 x5 x6) else ((F_X11_rangeOf t_all x6).bind fun r_5 => ((F_X11_gapAt t_all x1).bind fun r_7 => (gd_ (decide (¬ r_7 = 0)) (if (r_5 - r_5 / r_7 * r_7) = x2 then (J_X11_at_82 t_all (L_X11_at_39 t_all n_) t_raised x1 x2 x3 x4 x5 x6 (1 : Int32)) else (J_X11_at_81 t_all (L_X11_at_39 t_all n_) t_raised x1 x2 x3 x4 x5 x6)))))))
set_option maxHeartbeats 4000000 in
set_option maxRecDepth 100000 in
theorem w_X11_at_39 {p : Program} {l : Launch} {e : Env} {s : State} {m : MethodId} {args : Array Value} {below : List Frame} {meth : Method} {c : Code} {D : va_G} {K : Nat → ClassId} {A : Nat → Prop} {Q : State → Prop} (C0 : cx_ p s m args c cX11_at 8 RX11 wsX11_at D K A) {g_t : Nat → Nat} {t_undos : Int32} {t_reached : Int32} {t_length : Int32} {t_begin : Int32} {t_sort : Int32} {t_value : Int32} {t_word : Int64} {t_wrongAt : Int32} {t_badAt : Int32} {t_bad : Int32} {t_read : Int32} {t_pictured : Int32} {t_x : Int32} {t_all : Nat → Int32} {res : Int32 × Int32} (HR : ∀ (pc : Nat) (H : Heap) (locs : List Loc) (ls : Array Slot), decode cX11_at pc = .ok (.ireturn, 1) → va_P D vwCl (w_X11_at K g_t res.2 t_undos t_reached t_length t_begin t_sort t_value t_word t_wrongAt t_badAt t_bad t_read t_pictured t_x t_all) H → va_D A (w_X11_at K g_t res.2 t_undos t_reached t_length t_begin t_sort t_value t_word t_wrongAt t_badAt t_bad t_read t_pictured t_x t_all) → va_S A s.heap H locs → W p l e rmX11_at s m args below meth c H locs 0 0 Q (F0 m pc ls [.int res.1]))  :
    ∀ (n_ : Nat) (t_raised : Int32) (x1 : Int32) (x2 : Int32) (x3 : Int32) (x4 : Int32) (x5 : Int32) (x6 : Int32) (H : Heap) (locs : List Loc) (ls : Array Slot), va_P D vwCl (w_X11_at K g_t t_raised t_undos t_reached t_length t_begin t_sort t_value t_word t_wrongAt t_badAt t_bad t_read t_pictured t_x t_all) H → va_D A (w_X11_at K g_t t_raised t_undos t_reached t_length t_begin t_sort t_value t_word t_wrongAt t_badAt t_bad t_read t_pictured t_x t_all) → va_S A s.heap H locs → lv_has ls 8 [(0, .ref (g_t 0)), (1, .int x1), (2, .int x2), (3, .int x3), (4, .int x4), (5, .int x5), (6, .int x6)] → L_X11_at_39 t_all n_ t_raised x1 x2 x3 x4 x5 x6 = some res → W p l e rmX11_at s m args below meth c H locs 0 0 Q (F0 m 39 ls []) := by
  obtain ⟨⟨hx, hb, hml, hown, hts⟩, hK, -⟩ := id C0
  intro n_
  induction n_ with
  | zero =>
    intro t_raised x1 x2 x3 x4 x5 x6 H locs ls hP hD hS hl hF
    exact no_s (show (none : Option (Int32 × Int32)) = some res from hF)
  | succ n_ ih =>
    intro t_raised x1 x2 x3 x4 x5 x6 H locs ls hP hD hS hl hF
    rw [L_X11_at_39] at hF
    refine lv_iload hx hb dX11_at_39 (lv_at hl 6 rfl) ?_
    refine lv_aload_n hx hb dX11_at_41 rfl (lv_at hl 0 rfl) ?_
    refine va_get (D := D) (ci := 10) (v := .ref (g_t 2)) (C := RX11) (T := TX11) (N := 30) hx hb hts iw_X11_at_X11 hown hK hP 0 rfl rfl 1 (by decide) (hts _ fl_X11_at_7) (fun _ h9 => h9) rfl dX11_at_42 ?_
    refine lv_bipush (v := 13) hx hb dX11_at_45 (by decide) ?_
    refine xl_i (f := t_all) hx hb hK hP 1 0 rfl rfl (k := 13) (by decide) (in_v (by decide)) dX11_at_47 ?_
    refine lv_icmp_ge (tgt := 129) hx hb dX11_at_48 (by decide) (fun c_1 => ?_) (fun c_1 => ?_)
    · have hF := it_pos c_1 hF
      exact w_X11_at_129 C0 HR t_raised x3 x4 x5 H locs ls hP hD hS (lv_sub hl [3, 4, 5] rfl) hF
    · have hF := it_neg c_1 hF
      refine lv_aload_n hx hb dX11_at_51 rfl (lv_at hl 0 rfl) ?_
      refine lv_iload hx hb dX11_at_52 (lv_at hl 6 rfl) ?_
      refine lv_iload_n hx hb dX11_at_54 rfl (lv_at hl 1 rfl) ?_
      obtain ⟨r_2, hc_3, hF⟩ := bn_some hF
      refine xc_i (wn := (w_X11_at K g_t t_raised t_undos t_reached t_length t_begin t_sort t_value t_word t_wrongAt t_badAt t_bad t_read t_pictured t_x t_all)) hP hD hS C0.2.2.1 [0, 1] [] [0, 1] rfl rfl (by decide) (by decide) rfl (by decide) (va_runV (As := [.int x6, .int x1]) (rest := []) C0.1 (c_X11_isSeen l D K g_t t_raised t_undos t_reached t_length t_begin t_sort t_value t_word t_wrongAt t_badAt t_bad t_read t_pictured t_x t_all x6 x1 r_2 hc_3 H.size) (cwV 2 hts gX11_at_X11_isSeen rfl rfl rfl (by decide +kernel) ⟨Nat.le_of_ble_eq_true rfl, Nat.le_of_ble_eq_true rfl⟩) (xp_V C0.2 hP hD hS [0, 1] rfl (by decide) 10 0 rfl rfl rfl) rfl rfl hl.1 rfl (lv_room (Nat.le_of_ble_eq_true rfl)) dX11_at_55 ⟨Nat.le_of_ble_eq_true rfl, Nat.le_of_ble_eq_true rfl⟩) (fun H locs hP hD hS => ?_)
      refine lv_if_eq (tgt := 81) hx hb dX11_at_58 (by decide) (fun c_4 => ?_) (fun c_4 => ?_)
      · have hF := it_pos c_4 hF
        exact w_X11_at_81 C0 HR ih t_raised x1 x2 x3 x4 x5 x6 H locs ls hP hD hS (lv_sub hl [0, 1, 2, 3, 4, 5, 6] rfl) hF
      · have hF := it_neg c_4 hF
        refine lv_aload_n hx hb dX11_at_61 rfl (lv_at hl 0 rfl) ?_
        refine lv_iload hx hb dX11_at_62 (lv_at hl 6 rfl) ?_
        obtain ⟨r_5, hc_6, hF⟩ := bn_some hF
        refine xc_i (wn := (w_X11_at K g_t t_raised t_undos t_reached t_length t_begin t_sort t_value t_word t_wrongAt t_badAt t_bad t_read t_pictured t_x t_all)) hP hD hS C0.2.2.1 [0, 1] [] [0, 1] rfl rfl (by decide) (by decide) rfl (by decide) (va_runV (As := [.int x6]) (rest := []) C0.1 (c_X11_rangeOf l D K g_t t_raised t_undos t_reached t_length t_begin t_sort t_value t_word t_wrongAt t_badAt t_bad t_read t_pictured t_x t_all x6 r_5 hc_6 H.size) (cwV 1 hts gX11_at_X11_rangeOf rfl rfl rfl (by decide +kernel) ⟨Nat.le_of_ble_eq_true rfl, Nat.le_of_ble_eq_true rfl⟩) (xp_V C0.2 hP hD hS [0, 1] rfl (by decide) 10 0 rfl rfl rfl) rfl rfl hl.1 rfl (lv_room (Nat.le_of_ble_eq_true rfl)) dX11_at_64 ⟨Nat.le_of_ble_eq_true rfl, Nat.le_of_ble_eq_true rfl⟩) (fun H locs hP hD hS => ?_)
        refine lv_aload_n hx hb dX11_at_67 rfl (lv_at hl 0 rfl) ?_
        refine lv_iload_n hx hb dX11_at_68 rfl (lv_at hl 1 rfl) ?_
        obtain ⟨r_7, hc_8, hF⟩ := bn_some hF
        refine xc_i (wn := (w_X11_at K g_t t_raised t_undos t_reached t_length t_begin t_sort t_value t_word t_wrongAt t_badAt t_bad t_read t_pictured t_x t_all)) hP hD hS C0.2.2.1 [0, 1] [] [0, 1] rfl rfl (by decide) (by decide) rfl (by decide) (va_runV (As := [.int x1]) (rest := [.int r_5]) C0.1 (c_X11_gapAt l D K g_t t_raised t_undos t_reached t_length t_begin t_sort t_value t_word t_wrongAt t_badAt t_bad t_read t_pictured t_x t_all x1 r_7 hc_8 H.size) (cwV 1 hts gX11_at_X11_gapAt rfl rfl rfl (by decide +kernel) ⟨Nat.le_of_ble_eq_true rfl, Nat.le_of_ble_eq_true rfl⟩) (xp_V C0.2 hP hD hS [0, 1] rfl (by decide) 10 0 rfl rfl rfl) rfl rfl hl.1 rfl (lv_room (Nat.le_of_ble_eq_true rfl)) dX11_at_69 ⟨Nat.le_of_ble_eq_true rfl, Nat.le_of_ble_eq_true rfl⟩) (fun H locs hP hD hS => ?_)
        obtain ⟨hg_9, hF⟩ := gd_some hF
        refine lv_irem hx hb dX11_at_72 (ne_of hg_9) ?_
        refine lv_iload_n hx hb dX11_at_73 rfl (lv_at hl 2 rfl) ?_
        refine lv_icmp_ne (tgt := 81) hx hb dX11_at_74 (by decide) (fun c_10 => ?_) (fun c_10 => ?_)
        · have hF := it_neg c_10 hF
          exact w_X11_at_81 C0 HR ih t_raised x1 x2 x3 x4 x5 x6 H locs ls hP hD hS (lv_sub hl [0, 1, 2, 3, 4, 5, 6] rfl) hF
        · have hF := it_pos c_10 hF
          refine lv_iconst (v := 1) hx hb dX11_at_77 (by decide) ?_
          refine lv_goto (tgt := 82) hx hb dX11_at_78 (by decide) ?_
          exact w_X11_at_82 C0 HR ih t_raised x1 x2 x3 x4 x5 x6 (1 : Int32) H locs ls hP hD hS (lv_sub hl [0, 1, 2, 3, 4, 5, 6] rfl) hF
def F_X11_at (t_raised : Int32) (t_all : Nat → Int32) (x1 : Int32) (x2 : Int32) (x3 : Int32) : Option (Int32 × Int32) :=
  (F_X11_isGap t_all x1).bind fun r_1 => (if r_1 = (0 : Int32) then (some ((-1 : Int32), (0 : Int32))) else ((F_X11_gapAt t_all x1).bind fun r_4 => ((F_X11_in x2 (0 : Int32) (r_4 - (1 : Int32))).bind fun r_6 => (if r_6 = (0 : Int32) then (some ((-1 : Int32), (0 : Int32))) else (L_X11_at_39 t_all fu_ (0 : Int32) x1 x2 x3 (0 : Int32) (0 : Int32) (0 : Int32))))))
set_option maxHeartbeats 4000000 in
set_option maxRecDepth 100000 in
theorem c_X11_at (l : Launch) (D : va_G) (K : Nat → ClassId) (g_t : Nat → Nat) (t_raised : Int32) (t_undos : Int32) (t_reached : Int32) (t_length : Int32) (t_begin : Int32) (t_sort : Int32) (t_value : Int32) (t_word : Int64) (t_wrongAt : Int32) (t_badAt : Int32) (t_bad : Int32) (t_read : Int32) (t_pictured : Int32) (t_x : Int32) (t_all : Nat → Int32) (x1 : Int32) (x2 : Int32) (x3 : Int32) (res : Int32 × Int32) (hF : F_X11_at t_raised t_all x1 x2 x3 = some res) :
    Mi_ l yX11_at wsX11_at rmX11_at D K [.ref (g_t 0), .int x1, .int x2, .int x3] (w_X11_at K g_t t_raised t_undos t_reached t_length t_begin t_sort t_value t_word t_wrongAt t_badAt t_bad t_read t_pictured t_x t_all) (w_X11_at K g_t res.2 t_undos t_reached t_length t_begin t_sort t_value t_word t_wrongAt t_badAt t_bad t_read t_pictured t_x t_all) (res.1) := by
  refine en_i (cc := cX11_at) (maxL := 8) (own := RX11) (by decide) rfl rfl (Nat.le_of_ble_eq_true rfl) ?_
  intro p e s m args below meth c A Q H locs ls C0 hP hD hS hl HR
  obtain ⟨⟨hx, hb, hml, hown, hts⟩, hK, -⟩ := id C0
  have hl : lv_has ls 8 [(0, .ref (g_t 0)), (1, .int x1), (2, .int x2), (3, .int x3)] := hl
  unfold F_X11_at at hF
  refine lv_aload_n hx hb dX11_at_0 rfl (lv_at hl 0 rfl) ?_
  refine lv_iconst (v := 0) hx hb dX11_at_1 (by decide) ?_
  refine va_put (D := D) (ci := 10) (v := .int (0 : Int32)) (ty := .int) (C := RX11) (T := TX11) (N := 30) hx hb hts iw_X11_at_X11 tyX11 tyX11_ok nmX11 hown hK hP hD hS 0 rfl rfl 0 (by decide) (hts _ fl_X11_at_66) (fun _ h9 => h9) rfl (by decide +kernel) rfl rfl (Nat.le_of_ble_eq_true rfl) dX11_at_2 (fun H locs hP hD hS => ?_)
  have hP : va_P D vwCl (w_X11_at K g_t (0 : Int32) t_undos t_reached t_length t_begin t_sort t_value t_word t_wrongAt t_badAt t_bad t_read t_pictured t_x t_all) H := hP
  have hD : va_D A (w_X11_at K g_t (0 : Int32) t_undos t_reached t_length t_begin t_sort t_value t_word t_wrongAt t_badAt t_bad t_read t_pictured t_x t_all) := hD
  refine lv_aload_n hx hb dX11_at_5 rfl (lv_at hl 0 rfl) ?_
  refine lv_iload_n hx hb dX11_at_6 rfl (lv_at hl 1 rfl) ?_
  obtain ⟨r_1, hc_2, hF⟩ := bn_some hF
  refine xc_i (wn := (w_X11_at K g_t (0 : Int32) t_undos t_reached t_length t_begin t_sort t_value t_word t_wrongAt t_badAt t_bad t_read t_pictured t_x t_all)) hP hD hS C0.2.2.1 [0, 1] [] [0, 1] rfl rfl (by decide) (by decide) rfl (by decide) (va_runV (As := [.int x1]) (rest := []) C0.1 (c_X11_isGap l D K g_t (0 : Int32) t_undos t_reached t_length t_begin t_sort t_value t_word t_wrongAt t_badAt t_bad t_read t_pictured t_x t_all x1 r_1 hc_2 H.size) (cwV 1 hts gX11_at_X11_isGap rfl rfl rfl (by decide +kernel) ⟨Nat.le_of_ble_eq_true rfl, Nat.le_of_ble_eq_true rfl⟩) (xp_V C0.2 hP hD hS [0, 1] rfl (by decide) 10 0 rfl rfl rfl) rfl rfl hl.1 rfl (lv_room (Nat.le_of_ble_eq_true rfl)) dX11_at_7 ⟨Nat.le_of_ble_eq_true rfl, Nat.le_of_ble_eq_true rfl⟩) (fun H locs hP hD hS => ?_)
  refine lv_if_eq (tgt := 28) hx hb dX11_at_10 (by decide) (fun c_3 => ?_) (fun c_3 => ?_)
  · have hF := it_pos c_3 hF
    refine lv_iconst (v := (-1)) hx hb dX11_at_28 (by decide) ?_
    obtain rfl := Option.some.inj hF
    exact HR 29 H locs ls dX11_at_29 hP hD hS
  · have hF := it_neg c_3 hF
    refine lv_iload_n hx hb dX11_at_13 rfl (lv_at hl 2 rfl) ?_
    refine lv_iconst (v := 0) hx hb dX11_at_14 (by decide) ?_
    refine lv_aload_n hx hb dX11_at_15 rfl (lv_at hl 0 rfl) ?_
    refine lv_iload_n hx hb dX11_at_16 rfl (lv_at hl 1 rfl) ?_
    obtain ⟨r_4, hc_5, hF⟩ := bn_some hF
    refine xc_i (wn := (w_X11_at K g_t (0 : Int32) t_undos t_reached t_length t_begin t_sort t_value t_word t_wrongAt t_badAt t_bad t_read t_pictured t_x t_all)) hP hD hS C0.2.2.1 [0, 1] [] [0, 1] rfl rfl (by decide) (by decide) rfl (by decide) (va_runV (As := [.int x1]) (rest := [.int (0 : Int32), .int x2]) C0.1 (c_X11_gapAt l D K g_t (0 : Int32) t_undos t_reached t_length t_begin t_sort t_value t_word t_wrongAt t_badAt t_bad t_read t_pictured t_x t_all x1 r_4 hc_5 H.size) (cwV 1 hts gX11_at_X11_gapAt rfl rfl rfl (by decide +kernel) ⟨Nat.le_of_ble_eq_true rfl, Nat.le_of_ble_eq_true rfl⟩) (xp_V C0.2 hP hD hS [0, 1] rfl (by decide) 10 0 rfl rfl rfl) rfl rfl hl.1 rfl (lv_room (Nat.le_of_ble_eq_true rfl)) dX11_at_17 ⟨Nat.le_of_ble_eq_true rfl, Nat.le_of_ble_eq_true rfl⟩) (fun H locs hP hD hS => ?_)
    refine lv_iconst (v := 1) hx hb dX11_at_20 (by decide) ?_
    refine lv_isub hx hb dX11_at_21 ?_
    obtain ⟨r_6, hc_7, hF⟩ := bn_some hF
    refine xc_i (wn := (w_X11_at K g_t (0 : Int32) t_undos t_reached t_length t_begin t_sort t_value t_word t_wrongAt t_badAt t_bad t_read t_pictured t_x t_all)) hP hD hS C0.2.2.1 [] [0, 1] [0, 1] rfl rfl (by decide) (by decide) rfl (by decide) (va_runS (As := [.int x2, .int (0 : Int32), .int (r_4 - (1 : Int32))]) (rest := []) C0.1 (c_X11_in l D K x2 (0 : Int32) (r_4 - (1 : Int32)) r_6 hc_7 H.size) (va_cwS 3 hts gX11_at_X11_in rfl rfl rfl (by decide +kernel) ⟨Nat.le_of_ble_eq_true rfl, Nat.le_of_ble_eq_true rfl⟩) (xp_S C0.2 hP hD hS [] rfl (by decide)) rfl rfl hl.1 rfl (lv_room (Nat.le_of_ble_eq_true rfl)) dX11_at_22 ⟨Nat.le_of_ble_eq_true rfl, Nat.le_of_ble_eq_true rfl⟩) (fun H locs hP hD hS => ?_)
    refine lv_if_ne (tgt := 30) hx hb dX11_at_25 (by decide) (fun c_8 => ?_) (fun c_8 => ?_)
    · have hF := it_neg c_8 hF
      refine lv_iconst (v := 0) hx hb dX11_at_30 (by decide) ?_
      refine lv_istore (lv' := [(4, .int (0 : Int32)), (0, .ref (g_t 0)), (1, .int x1), (2, .int x2), (3, .int x3)]) hx hb dX11_at_31 hl (by decide) rfl (fun ls hl => ?_)
      refine lv_iconst (v := 0) hx hb dX11_at_33 (by decide) ?_
      refine lv_istore (lv' := [(5, .int (0 : Int32)), (4, .int (0 : Int32)), (0, .ref (g_t 0)), (1, .int x1), (2, .int x2), (3, .int x3)]) hx hb dX11_at_34 hl (by decide) rfl (fun ls hl => ?_)
      refine lv_iconst (v := 0) hx hb dX11_at_36 (by decide) ?_
      refine lv_istore (lv' := [(6, .int (0 : Int32)), (5, .int (0 : Int32)), (4, .int (0 : Int32)), (0, .ref (g_t 0)), (1, .int x1), (2, .int x2), (3, .int x3)]) hx hb dX11_at_37 hl (by decide) rfl (fun ls hl => ?_)
      exact w_X11_at_39 C0 HR fu_ (0 : Int32) x1 x2 x3 (0 : Int32) (0 : Int32) (0 : Int32) H locs ls hP hD hS (lv_sub hl [3, 4, 5, 6, 2, 1, 0] rfl) hF
    · have hF := it_pos c_8 hF
      refine lv_iconst (v := (-1)) hx hb dX11_at_28 (by decide) ?_
      obtain rfl := Option.some.inj hF
      exact HR 29 H locs ls dX11_at_29 hP hD hS

/-! StaggerRadarModel.atFirst()V -/
abbrev rmX11_atFirst : Room := { frames := 0, cells := 0, slots := 0, locals := 0 }
theorem fl_X11_atFirst_24 : Cond.fieldLink RX11 24 "StaggerRadarModel" "told" "[I" ∈ wsX11_atFirst := by decide +kernel
theorem fl_X11_atFirst_80 : Cond.fieldLink RX11 80 "StaggerRadarModel" "reached" "I" ∈ wsX11_atFirst := by decide +kernel
theorem fl_X11_atFirst_106 : Cond.fieldLink RX11 106 "StaggerRadarModel" "bad" "I" ∈ wsX11_atFirst := by decide +kernel
theorem fl_X11_atFirst_109 : Cond.fieldLink RX11 109 "StaggerRadarModel" "badAt" "I" ∈ wsX11_atFirst := by decide +kernel
theorem iw_X11_atFirst_X11 : ∀ w ∈ u_ws RX11 TX11 30, w ∈ wsX11_atFirst := by decide +kernel
abbrev w_X11_atFirst (K : Nat → ClassId) (g_t : Nat → Nat) (t_raised : Int32) (t_undos : Int32) (t_reached : Int32) (t_length : Int32) (t_begin : Int32) (t_sort : Int32) (t_value : Int32) (t_word : Int64) (t_wrongAt : Int32) (t_badAt : Int32) (t_bad : Int32) (t_read : Int32) (t_pictured : Int32) (t_x : Int32) (t_told : Nat → Int32) : va_W := [((g_t 0), .inr (10, [.int t_raised, .ref (g_t 2), .ref (g_t 3), .ref (g_t 4), .ref (g_t 5), .int t_undos, .int t_reached, .int t_length, .int t_begin, .int t_sort, .int t_value, .long t_word, .int t_wrongAt, .int t_badAt, .int t_bad, .ref (g_t 16), .int t_read, .ref (g_t 18), .ref (g_t 19), .ref (g_t 20), .int t_pictured, .ref (g_t 22), .ref (g_t 23), .ref (g_t 24), .ref (g_t 25), .ref (g_t 26), .int t_x, .ref (g_t 28), .ref (g_t 29), .ref (g_t 30)])), ((g_t 16), .inl (K 0, 97, .inl t_told))]
def J_X11_atFirst_21 (t_reached : Int32) (t_badAt : Int32) (t_bad : Int32) (t_told : Nat → Int32) : Option (Int32 × Int32 × Int32 × (Nat → Int32)) :=
  some ((0 : Int32), (-1 : Int32), (0 : Int32), (upd (upd (upd (upd (upd (upd t_told 6 (60 : Int32)) 8 (1 : Int32)) 9 (500 : Int32)) 10 (2 : Int32)) 11 (100 : Int32)) 12 (1 : Int32)))
set_option maxHeartbeats 4000000 in
set_option maxRecDepth 100000 in
theorem w_X11_atFirst_21 {p : Program} {l : Launch} {e : Env} {s : State} {m : MethodId} {args : Array Value} {below : List Frame} {meth : Method} {c : Code} {D : va_G} {K : Nat → ClassId} {A : Nat → Prop} {Q : State → Prop} (C0 : cx_ p s m args c cX11_atFirst 2 RX11 wsX11_atFirst D K A) {g_t : Nat → Nat} {t_raised : Int32} {t_undos : Int32} {t_length : Int32} {t_begin : Int32} {t_sort : Int32} {t_value : Int32} {t_word : Int64} {t_wrongAt : Int32} {t_read : Int32} {t_pictured : Int32} {t_x : Int32} {res : Int32 × Int32 × Int32 × (Nat → Int32)} (HR : ∀ (pc : Nat) (H : Heap) (locs : List Loc) (ls : Array Slot), decode cX11_atFirst pc = .ok (.return_, 1) → va_P D vwCl (w_X11_atFirst K g_t t_raised t_undos res.1 t_length t_begin t_sort t_value t_word t_wrongAt res.2.1 res.2.2.1 t_read t_pictured t_x res.2.2.2) H → va_D A (w_X11_atFirst K g_t t_raised t_undos res.1 t_length t_begin t_sort t_value t_word t_wrongAt res.2.1 res.2.2.1 t_read t_pictured t_x res.2.2.2) → va_S A s.heap H locs → W p l e rmX11_atFirst s m args below meth c H locs 0 0 Q (F0 m pc ls []))  :
    ∀ (t_reached : Int32) (t_badAt : Int32) (t_bad : Int32) (t_told : Nat → Int32) (H : Heap) (locs : List Loc) (ls : Array Slot), va_P D vwCl (w_X11_atFirst K g_t t_raised t_undos t_reached t_length t_begin t_sort t_value t_word t_wrongAt t_badAt t_bad t_read t_pictured t_x t_told) H → va_D A (w_X11_atFirst K g_t t_raised t_undos t_reached t_length t_begin t_sort t_value t_word t_wrongAt t_badAt t_bad t_read t_pictured t_x t_told) → va_S A s.heap H locs → lv_has ls 2 [(0, .ref (g_t 0))] → J_X11_atFirst_21 t_reached t_badAt t_bad t_told = some res → W p l e rmX11_atFirst s m args below meth c H locs 0 0 Q (F0 m 21 ls []) := by
  obtain ⟨⟨hx, hb, hml, hown, hts⟩, hK, -⟩ := id C0
  intro t_reached t_badAt t_bad t_told H locs ls hP hD hS hl hF
  unfold J_X11_atFirst_21 at hF
  refine lv_aload_n hx hb dX11_atFirst_21 rfl (lv_at hl 0 rfl) ?_
  refine va_get (D := D) (ci := 10) (v := .ref (g_t 16)) (C := RX11) (T := TX11) (N := 30) hx hb hts iw_X11_atFirst_X11 hown hK hP 0 rfl rfl 15 (by decide) (hts _ fl_X11_atFirst_24) (fun _ h9 => h9) rfl dX11_atFirst_22 ?_
  refine lv_bipush (v := 6) hx hb dX11_atFirst_25 (by decide) ?_
  refine lv_bipush (v := 60) hx hb dX11_atFirst_27 (by decide) ?_
  refine xs_i (f := t_told) hx hb hK hP hD hS 1 0 rfl rfl (k := 6) (by decide) (in_v (by decide)) dX11_atFirst_29 (fun H locs hP hD hS => ?_)
  have hP : va_P D vwCl (w_X11_atFirst K g_t t_raised t_undos t_reached t_length t_begin t_sort t_value t_word t_wrongAt t_badAt t_bad t_read t_pictured t_x (upd t_told 6 (60 : Int32))) H := hP
  have hD : va_D A (w_X11_atFirst K g_t t_raised t_undos t_reached t_length t_begin t_sort t_value t_word t_wrongAt t_badAt t_bad t_read t_pictured t_x (upd t_told 6 (60 : Int32))) := hD
  refine lv_aload_n hx hb dX11_atFirst_30 rfl (lv_at hl 0 rfl) ?_
  refine va_get (D := D) (ci := 10) (v := .ref (g_t 16)) (C := RX11) (T := TX11) (N := 30) hx hb hts iw_X11_atFirst_X11 hown hK hP 0 rfl rfl 15 (by decide) (hts _ fl_X11_atFirst_24) (fun _ h9 => h9) rfl dX11_atFirst_31 ?_
  refine lv_bipush (v := 8) hx hb dX11_atFirst_34 (by decide) ?_
  refine lv_iconst (v := 1) hx hb dX11_atFirst_36 (by decide) ?_
  refine xs_i (f := (upd t_told 6 (60 : Int32))) hx hb hK hP hD hS 1 0 rfl rfl (k := 8) (by decide) (in_v (by decide)) dX11_atFirst_37 (fun H locs hP hD hS => ?_)
  have hP : va_P D vwCl (w_X11_atFirst K g_t t_raised t_undos t_reached t_length t_begin t_sort t_value t_word t_wrongAt t_badAt t_bad t_read t_pictured t_x (upd (upd t_told 6 (60 : Int32)) 8 (1 : Int32))) H := hP
  have hD : va_D A (w_X11_atFirst K g_t t_raised t_undos t_reached t_length t_begin t_sort t_value t_word t_wrongAt t_badAt t_bad t_read t_pictured t_x (upd (upd t_told 6 (60 : Int32)) 8 (1 : Int32))) := hD
  refine lv_aload_n hx hb dX11_atFirst_38 rfl (lv_at hl 0 rfl) ?_
  refine va_get (D := D) (ci := 10) (v := .ref (g_t 16)) (C := RX11) (T := TX11) (N := 30) hx hb hts iw_X11_atFirst_X11 hown hK hP 0 rfl rfl 15 (by decide) (hts _ fl_X11_atFirst_24) (fun _ h9 => h9) rfl dX11_atFirst_39 ?_
  refine lv_bipush (v := 9) hx hb dX11_atFirst_42 (by decide) ?_
  refine lv_sipush (v := 500) hx hb dX11_atFirst_44 (by decide) ?_
  refine xs_i (f := (upd (upd t_told 6 (60 : Int32)) 8 (1 : Int32))) hx hb hK hP hD hS 1 0 rfl rfl (k := 9) (by decide) (in_v (by decide)) dX11_atFirst_47 (fun H locs hP hD hS => ?_)
  have hP : va_P D vwCl (w_X11_atFirst K g_t t_raised t_undos t_reached t_length t_begin t_sort t_value t_word t_wrongAt t_badAt t_bad t_read t_pictured t_x (upd (upd (upd t_told 6 (60 : Int32)) 8 (1 : Int32)) 9 (500 : Int32))) H := hP
  have hD : va_D A (w_X11_atFirst K g_t t_raised t_undos t_reached t_length t_begin t_sort t_value t_word t_wrongAt t_badAt t_bad t_read t_pictured t_x (upd (upd (upd t_told 6 (60 : Int32)) 8 (1 : Int32)) 9 (500 : Int32))) := hD
  refine lv_aload_n hx hb dX11_atFirst_48 rfl (lv_at hl 0 rfl) ?_
  refine va_get (D := D) (ci := 10) (v := .ref (g_t 16)) (C := RX11) (T := TX11) (N := 30) hx hb hts iw_X11_atFirst_X11 hown hK hP 0 rfl rfl 15 (by decide) (hts _ fl_X11_atFirst_24) (fun _ h9 => h9) rfl dX11_atFirst_49 ?_
  refine lv_bipush (v := 10) hx hb dX11_atFirst_52 (by decide) ?_
  refine lv_iconst (v := 2) hx hb dX11_atFirst_54 (by decide) ?_
  refine xs_i (f := (upd (upd (upd t_told 6 (60 : Int32)) 8 (1 : Int32)) 9 (500 : Int32))) hx hb hK hP hD hS 1 0 rfl rfl (k := 10) (by decide) (in_v (by decide)) dX11_atFirst_55 (fun H locs hP hD hS => ?_)
  have hP : va_P D vwCl (w_X11_atFirst K g_t t_raised t_undos t_reached t_length t_begin t_sort t_value t_word t_wrongAt t_badAt t_bad t_read t_pictured t_x (upd (upd (upd (upd t_told 6 (60 : Int32)) 8 (1 : Int32)) 9 (500 : Int32)) 10 (2 : Int32))) H := hP
  have hD : va_D A (w_X11_atFirst K g_t t_raised t_undos t_reached t_length t_begin t_sort t_value t_word t_wrongAt t_badAt t_bad t_read t_pictured t_x (upd (upd (upd (upd t_told 6 (60 : Int32)) 8 (1 : Int32)) 9 (500 : Int32)) 10 (2 : Int32))) := hD
  refine lv_aload_n hx hb dX11_atFirst_56 rfl (lv_at hl 0 rfl) ?_
  refine va_get (D := D) (ci := 10) (v := .ref (g_t 16)) (C := RX11) (T := TX11) (N := 30) hx hb hts iw_X11_atFirst_X11 hown hK hP 0 rfl rfl 15 (by decide) (hts _ fl_X11_atFirst_24) (fun _ h9 => h9) rfl dX11_atFirst_57 ?_
  refine lv_bipush (v := 11) hx hb dX11_atFirst_60 (by decide) ?_
  refine lv_bipush (v := 100) hx hb dX11_atFirst_62 (by decide) ?_
  refine xs_i (f := (upd (upd (upd (upd t_told 6 (60 : Int32)) 8 (1 : Int32)) 9 (500 : Int32)) 10 (2 : Int32))) hx hb hK hP hD hS 1 0 rfl rfl (k := 11) (by decide) (in_v (by decide)) dX11_atFirst_64 (fun H locs hP hD hS => ?_)
  have hP : va_P D vwCl (w_X11_atFirst K g_t t_raised t_undos t_reached t_length t_begin t_sort t_value t_word t_wrongAt t_badAt t_bad t_read t_pictured t_x (upd (upd (upd (upd (upd t_told 6 (60 : Int32)) 8 (1 : Int32)) 9 (500 : Int32)) 10 (2 : Int32)) 11 (100 : Int32))) H := hP
  have hD : va_D A (w_X11_atFirst K g_t t_raised t_undos t_reached t_length t_begin t_sort t_value t_word t_wrongAt t_badAt t_bad t_read t_pictured t_x (upd (upd (upd (upd (upd t_told 6 (60 : Int32)) 8 (1 : Int32)) 9 (500 : Int32)) 10 (2 : Int32)) 11 (100 : Int32))) := hD
  refine lv_aload_n hx hb dX11_atFirst_65 rfl (lv_at hl 0 rfl) ?_
  refine va_get (D := D) (ci := 10) (v := .ref (g_t 16)) (C := RX11) (T := TX11) (N := 30) hx hb hts iw_X11_atFirst_X11 hown hK hP 0 rfl rfl 15 (by decide) (hts _ fl_X11_atFirst_24) (fun _ h9 => h9) rfl dX11_atFirst_66 ?_
  refine lv_bipush (v := 12) hx hb dX11_atFirst_69 (by decide) ?_
  refine lv_iconst (v := 1) hx hb dX11_atFirst_71 (by decide) ?_
  refine xs_i (f := (upd (upd (upd (upd (upd t_told 6 (60 : Int32)) 8 (1 : Int32)) 9 (500 : Int32)) 10 (2 : Int32)) 11 (100 : Int32))) hx hb hK hP hD hS 1 0 rfl rfl (k := 12) (by decide) (in_v (by decide)) dX11_atFirst_72 (fun H locs hP hD hS => ?_)
  have hP : va_P D vwCl (w_X11_atFirst K g_t t_raised t_undos t_reached t_length t_begin t_sort t_value t_word t_wrongAt t_badAt t_bad t_read t_pictured t_x (upd (upd (upd (upd (upd (upd t_told 6 (60 : Int32)) 8 (1 : Int32)) 9 (500 : Int32)) 10 (2 : Int32)) 11 (100 : Int32)) 12 (1 : Int32))) H := hP
  have hD : va_D A (w_X11_atFirst K g_t t_raised t_undos t_reached t_length t_begin t_sort t_value t_word t_wrongAt t_badAt t_bad t_read t_pictured t_x (upd (upd (upd (upd (upd (upd t_told 6 (60 : Int32)) 8 (1 : Int32)) 9 (500 : Int32)) 10 (2 : Int32)) 11 (100 : Int32)) 12 (1 : Int32))) := hD
  refine lv_aload_n hx hb dX11_atFirst_73 rfl (lv_at hl 0 rfl) ?_
  refine lv_iconst (v := 0) hx hb dX11_atFirst_74 (by decide) ?_
  refine va_put (D := D) (ci := 10) (v := .int (0 : Int32)) (ty := .int) (C := RX11) (T := TX11) (N := 30) hx hb hts iw_X11_atFirst_X11 tyX11 tyX11_ok nmX11 hown hK hP hD hS 0 rfl rfl 14 (by decide) (hts _ fl_X11_atFirst_106) (fun _ h9 => h9) rfl (by decide +kernel) rfl rfl (Nat.le_of_ble_eq_true rfl) dX11_atFirst_75 (fun H locs hP hD hS => ?_)
  have hP : va_P D vwCl (w_X11_atFirst K g_t t_raised t_undos t_reached t_length t_begin t_sort t_value t_word t_wrongAt t_badAt (0 : Int32) t_read t_pictured t_x (upd (upd (upd (upd (upd (upd t_told 6 (60 : Int32)) 8 (1 : Int32)) 9 (500 : Int32)) 10 (2 : Int32)) 11 (100 : Int32)) 12 (1 : Int32))) H := hP
  have hD : va_D A (w_X11_atFirst K g_t t_raised t_undos t_reached t_length t_begin t_sort t_value t_word t_wrongAt t_badAt (0 : Int32) t_read t_pictured t_x (upd (upd (upd (upd (upd (upd t_told 6 (60 : Int32)) 8 (1 : Int32)) 9 (500 : Int32)) 10 (2 : Int32)) 11 (100 : Int32)) 12 (1 : Int32))) := hD
  refine lv_aload_n hx hb dX11_atFirst_78 rfl (lv_at hl 0 rfl) ?_
  refine lv_iconst (v := (-1)) hx hb dX11_atFirst_79 (by decide) ?_
  refine va_put (D := D) (ci := 10) (v := .int (-1 : Int32)) (ty := .int) (C := RX11) (T := TX11) (N := 30) hx hb hts iw_X11_atFirst_X11 tyX11 tyX11_ok nmX11 hown hK hP hD hS 0 rfl rfl 13 (by decide) (hts _ fl_X11_atFirst_109) (fun _ h9 => h9) rfl (by decide +kernel) rfl rfl (Nat.le_of_ble_eq_true rfl) dX11_atFirst_80 (fun H locs hP hD hS => ?_)
  have hP : va_P D vwCl (w_X11_atFirst K g_t t_raised t_undos t_reached t_length t_begin t_sort t_value t_word t_wrongAt (-1 : Int32) (0 : Int32) t_read t_pictured t_x (upd (upd (upd (upd (upd (upd t_told 6 (60 : Int32)) 8 (1 : Int32)) 9 (500 : Int32)) 10 (2 : Int32)) 11 (100 : Int32)) 12 (1 : Int32))) H := hP
  have hD : va_D A (w_X11_atFirst K g_t t_raised t_undos t_reached t_length t_begin t_sort t_value t_word t_wrongAt (-1 : Int32) (0 : Int32) t_read t_pictured t_x (upd (upd (upd (upd (upd (upd t_told 6 (60 : Int32)) 8 (1 : Int32)) 9 (500 : Int32)) 10 (2 : Int32)) 11 (100 : Int32)) 12 (1 : Int32))) := hD
  refine lv_aload_n hx hb dX11_atFirst_83 rfl (lv_at hl 0 rfl) ?_
  refine lv_iconst (v := 0) hx hb dX11_atFirst_84 (by decide) ?_
  refine va_put (D := D) (ci := 10) (v := .int (0 : Int32)) (ty := .int) (C := RX11) (T := TX11) (N := 30) hx hb hts iw_X11_atFirst_X11 tyX11 tyX11_ok nmX11 hown hK hP hD hS 0 rfl rfl 6 (by decide) (hts _ fl_X11_atFirst_80) (fun _ h9 => h9) rfl (by decide +kernel) rfl rfl (Nat.le_of_ble_eq_true rfl) dX11_atFirst_85 (fun H locs hP hD hS => ?_)
  have hP : va_P D vwCl (w_X11_atFirst K g_t t_raised t_undos (0 : Int32) t_length t_begin t_sort t_value t_word t_wrongAt (-1 : Int32) (0 : Int32) t_read t_pictured t_x (upd (upd (upd (upd (upd (upd t_told 6 (60 : Int32)) 8 (1 : Int32)) 9 (500 : Int32)) 10 (2 : Int32)) 11 (100 : Int32)) 12 (1 : Int32))) H := hP
  have hD : va_D A (w_X11_atFirst K g_t t_raised t_undos (0 : Int32) t_length t_begin t_sort t_value t_word t_wrongAt (-1 : Int32) (0 : Int32) t_read t_pictured t_x (upd (upd (upd (upd (upd (upd t_told 6 (60 : Int32)) 8 (1 : Int32)) 9 (500 : Int32)) 10 (2 : Int32)) 11 (100 : Int32)) 12 (1 : Int32))) := hD
  obtain rfl := Option.some.inj hF
  exact HR 88 H locs ls dX11_atFirst_88 hP hD hS
def L_X11_atFirst_2  : Nat → Int32 → Int32 → Int32 → (Nat → Int32) → Int32 → Option (Int32 × Int32 × Int32 × (Nat → Int32))
  | 0, _, _, _, _, _ => none
  | n_ + 1, t_reached, t_badAt, t_bad, t_told, x1 =>
    if (97 : Int32) ≤ x1 then (J_X11_atFirst_21 t_reached t_badAt t_bad t_told) else (gd_ (in_b x1 97) (L_X11_atFirst_2 n_ t_reached t_badAt t_bad (upd t_told (x1).toNatClampNeg (0 : Int32)) (x1 + (1 : Int32))))
set_option maxHeartbeats 4000000 in
set_option maxRecDepth 100000 in
theorem w_X11_atFirst_2 {p : Program} {l : Launch} {e : Env} {s : State} {m : MethodId} {args : Array Value} {below : List Frame} {meth : Method} {c : Code} {D : va_G} {K : Nat → ClassId} {A : Nat → Prop} {Q : State → Prop} (C0 : cx_ p s m args c cX11_atFirst 2 RX11 wsX11_atFirst D K A) {g_t : Nat → Nat} {t_raised : Int32} {t_undos : Int32} {t_length : Int32} {t_begin : Int32} {t_sort : Int32} {t_value : Int32} {t_word : Int64} {t_wrongAt : Int32} {t_read : Int32} {t_pictured : Int32} {t_x : Int32} {res : Int32 × Int32 × Int32 × (Nat → Int32)} (HR : ∀ (pc : Nat) (H : Heap) (locs : List Loc) (ls : Array Slot), decode cX11_atFirst pc = .ok (.return_, 1) → va_P D vwCl (w_X11_atFirst K g_t t_raised t_undos res.1 t_length t_begin t_sort t_value t_word t_wrongAt res.2.1 res.2.2.1 t_read t_pictured t_x res.2.2.2) H → va_D A (w_X11_atFirst K g_t t_raised t_undos res.1 t_length t_begin t_sort t_value t_word t_wrongAt res.2.1 res.2.2.1 t_read t_pictured t_x res.2.2.2) → va_S A s.heap H locs → W p l e rmX11_atFirst s m args below meth c H locs 0 0 Q (F0 m pc ls []))  :
    ∀ (n_ : Nat) (t_reached : Int32) (t_badAt : Int32) (t_bad : Int32) (t_told : Nat → Int32) (x1 : Int32) (H : Heap) (locs : List Loc) (ls : Array Slot), va_P D vwCl (w_X11_atFirst K g_t t_raised t_undos t_reached t_length t_begin t_sort t_value t_word t_wrongAt t_badAt t_bad t_read t_pictured t_x t_told) H → va_D A (w_X11_atFirst K g_t t_raised t_undos t_reached t_length t_begin t_sort t_value t_word t_wrongAt t_badAt t_bad t_read t_pictured t_x t_told) → va_S A s.heap H locs → lv_has ls 2 [(0, .ref (g_t 0)), (1, .int x1)] → L_X11_atFirst_2 n_ t_reached t_badAt t_bad t_told x1 = some res → W p l e rmX11_atFirst s m args below meth c H locs 0 0 Q (F0 m 2 ls []) := by
  obtain ⟨⟨hx, hb, hml, hown, hts⟩, hK, -⟩ := id C0
  intro n_
  induction n_ with
  | zero =>
    intro t_reached t_badAt t_bad t_told x1 H locs ls hP hD hS hl hF
    exact no_s (show (none : Option (Int32 × Int32 × Int32 × (Nat → Int32))) = some res from hF)
  | succ n_ ih =>
    intro t_reached t_badAt t_bad t_told x1 H locs ls hP hD hS hl hF
    rw [L_X11_atFirst_2] at hF
    refine lv_iload_n hx hb dX11_atFirst_2 rfl (lv_at hl 1 rfl) ?_
    refine lv_bipush (v := 97) hx hb dX11_atFirst_3 (by decide) ?_
    refine lv_icmp_ge (tgt := 21) hx hb dX11_atFirst_5 (by decide) (fun c_1 => ?_) (fun c_1 => ?_)
    · have hF := it_pos c_1 hF
      exact w_X11_atFirst_21 C0 HR t_reached t_badAt t_bad t_told H locs ls hP hD hS (lv_sub hl [0] rfl) hF
    · have hF := it_neg c_1 hF
      refine lv_aload_n hx hb dX11_atFirst_8 rfl (lv_at hl 0 rfl) ?_
      refine va_get (D := D) (ci := 10) (v := .ref (g_t 16)) (C := RX11) (T := TX11) (N := 30) hx hb hts iw_X11_atFirst_X11 hown hK hP 0 rfl rfl 15 (by decide) (hts _ fl_X11_atFirst_24) (fun _ h9 => h9) rfl dX11_atFirst_9 ?_
      refine lv_iload_n hx hb dX11_atFirst_12 rfl (lv_at hl 1 rfl) ?_
      refine lv_iconst (v := 0) hx hb dX11_atFirst_13 (by decide) ?_
      obtain ⟨hg_2, hF⟩ := gd_some hF
      refine xs_i (f := t_told) hx hb hK hP hD hS 1 0 rfl rfl rfl (in_v hg_2) dX11_atFirst_14 (fun H locs hP hD hS => ?_)
      have hP : va_P D vwCl (w_X11_atFirst K g_t t_raised t_undos t_reached t_length t_begin t_sort t_value t_word t_wrongAt t_badAt t_bad t_read t_pictured t_x (upd t_told (x1).toNatClampNeg (0 : Int32))) H := hP
      have hD : va_D A (w_X11_atFirst K g_t t_raised t_undos t_reached t_length t_begin t_sort t_value t_word t_wrongAt t_badAt t_bad t_read t_pictured t_x (upd t_told (x1).toNatClampNeg (0 : Int32))) := hD
      refine lv_iinc (v := (x1 + (1 : Int32))) (lv' := [(1, .int (x1 + (1 : Int32))), (0, .ref (g_t 0))]) hx hb dX11_atFirst_15 hl (k := 1) rfl (congrArg (fun z => x1 + z) (by decide)) (by decide) rfl (fun ls hl => ?_)
      refine lv_goto (tgt := 2) hx hb dX11_atFirst_18 (by decide) ?_
      exact ih t_reached t_badAt t_bad (upd t_told (x1).toNatClampNeg (0 : Int32)) (x1 + (1 : Int32)) H locs ls hP hD hS (lv_sub hl [1, 0] rfl) hF
def F_X11_atFirst (t_reached : Int32) (t_badAt : Int32) (t_bad : Int32) (t_told : Nat → Int32) : Option (Int32 × Int32 × Int32 × (Nat → Int32)) :=
  L_X11_atFirst_2 fu_ t_reached t_badAt t_bad t_told (0 : Int32)
set_option maxHeartbeats 4000000 in
set_option maxRecDepth 100000 in
theorem c_X11_atFirst (l : Launch) (D : va_G) (K : Nat → ClassId) (g_t : Nat → Nat) (t_raised : Int32) (t_undos : Int32) (t_reached : Int32) (t_length : Int32) (t_begin : Int32) (t_sort : Int32) (t_value : Int32) (t_word : Int64) (t_wrongAt : Int32) (t_badAt : Int32) (t_bad : Int32) (t_read : Int32) (t_pictured : Int32) (t_x : Int32) (t_told : Nat → Int32) (res : Int32 × Int32 × Int32 × (Nat → Int32)) (hF : F_X11_atFirst t_reached t_badAt t_bad t_told = some res) :
    Mv_ l yX11_atFirst wsX11_atFirst rmX11_atFirst D K [.ref (g_t 0)] (w_X11_atFirst K g_t t_raised t_undos t_reached t_length t_begin t_sort t_value t_word t_wrongAt t_badAt t_bad t_read t_pictured t_x t_told) (w_X11_atFirst K g_t t_raised t_undos res.1 t_length t_begin t_sort t_value t_word t_wrongAt res.2.1 res.2.2.1 t_read t_pictured t_x res.2.2.2) := by
  refine en_v (cc := cX11_atFirst) (maxL := 2) (own := RX11) (by decide) rfl rfl (Nat.le_of_ble_eq_true rfl) ?_
  intro p e s m args below meth c A Q H locs ls C0 hP hD hS hl HR
  obtain ⟨⟨hx, hb, hml, hown, hts⟩, hK, -⟩ := id C0
  have hl : lv_has ls 2 [(0, .ref (g_t 0))] := hl
  unfold F_X11_atFirst at hF
  refine lv_iconst (v := 0) hx hb dX11_atFirst_0 (by decide) ?_
  refine lv_istore_n (lv' := [(1, .int (0 : Int32)), (0, .ref (g_t 0))]) hx hb dX11_atFirst_1 rfl hl (by decide) rfl (fun ls hl => ?_)
  exact w_X11_atFirst_2 C0 HR fu_ t_reached t_badAt t_bad t_told (0 : Int32) H locs ls hP hD hS (lv_sub hl [1, 0] rfl) hF

/-! StaggerRadarModel.blindBits(I)I -/
abbrev rmX11_blindBits : Room := { frames := 2, cells := 0, slots := 0, locals := 45 }
theorem fl_X11_blindBits_7 : Cond.fieldLink RX11 7 "StaggerRadarModel" "all" "[I" ∈ wsX11_blindBits := by decide +kernel
theorem iw_X11_blindBits_X11 : ∀ w ∈ u_ws RX11 TX11 30, w ∈ wsX11_blindBits := by decide +kernel
abbrev w_X11_blindBits (K : Nat → ClassId) (g_t : Nat → Nat) (t_raised : Int32) (t_undos : Int32) (t_reached : Int32) (t_length : Int32) (t_begin : Int32) (t_sort : Int32) (t_value : Int32) (t_word : Int64) (t_wrongAt : Int32) (t_badAt : Int32) (t_bad : Int32) (t_read : Int32) (t_pictured : Int32) (t_x : Int32) (t_all : Nat → Int32) : va_W := [((g_t 0), .inr (10, [.int t_raised, .ref (g_t 2), .ref (g_t 3), .ref (g_t 4), .ref (g_t 5), .int t_undos, .int t_reached, .int t_length, .int t_begin, .int t_sort, .int t_value, .long t_word, .int t_wrongAt, .int t_badAt, .int t_bad, .ref (g_t 16), .int t_read, .ref (g_t 18), .ref (g_t 19), .ref (g_t 20), .int t_pictured, .ref (g_t 22), .ref (g_t 23), .ref (g_t 24), .ref (g_t 25), .ref (g_t 26), .int t_x, .ref (g_t 28), .ref (g_t 29), .ref (g_t 30)])), ((g_t 2), .inl (K 0, 500, .inl t_all))]
def L_X11_blindBits_4 (t_all : Nat → Int32) : Nat → Int32 → Int32 → Int32 → Option (Int32)
  | 0, _, _, _ => none
  | n_ + 1, x1, x2, x3 =>
    if (t_all 0) ≤ x3 then (some x2) else ((F_X11_gapAt t_all x3).bind fun r_2 => ((F_X11_isBlind t_all x1 r_2).bind fun r_4 => (if r_4 = (0 : Int32) then (L_X11_blindBits_4 t_all n_ x1 (x2 ||| (0 : Int32)) (x3 + (1 : Int32))) else (L_X11_blindBits_4 t_all n_ x1 (x2 ||| ((1 : Int32) <<< (x3 &&& 31))) (x3 + (1 : Int32))))))
set_option maxHeartbeats 4000000 in
set_option maxRecDepth 100000 in
theorem w_X11_blindBits_4 {p : Program} {l : Launch} {e : Env} {s : State} {m : MethodId} {args : Array Value} {below : List Frame} {meth : Method} {c : Code} {D : va_G} {K : Nat → ClassId} {A : Nat → Prop} {Q : State → Prop} (C0 : cx_ p s m args c cX11_blindBits 4 RX11 wsX11_blindBits D K A) {g_t : Nat → Nat} {t_raised : Int32} {t_undos : Int32} {t_reached : Int32} {t_length : Int32} {t_begin : Int32} {t_sort : Int32} {t_value : Int32} {t_word : Int64} {t_wrongAt : Int32} {t_badAt : Int32} {t_bad : Int32} {t_read : Int32} {t_pictured : Int32} {t_x : Int32} {t_all : Nat → Int32} {res : Int32} (HR : ∀ (pc : Nat) (H : Heap) (locs : List Loc) (ls : Array Slot), decode cX11_blindBits pc = .ok (.ireturn, 1) → va_P D vwCl (w_X11_blindBits K g_t t_raised t_undos t_reached t_length t_begin t_sort t_value t_word t_wrongAt t_badAt t_bad t_read t_pictured t_x t_all) H → va_D A (w_X11_blindBits K g_t t_raised t_undos t_reached t_length t_begin t_sort t_value t_word t_wrongAt t_badAt t_bad t_read t_pictured t_x t_all) → va_S A s.heap H locs → W p l e rmX11_blindBits s m args below meth c H locs 0 0 Q (F0 m pc ls [.int res]))  :
    ∀ (n_ : Nat) (x1 : Int32) (x2 : Int32) (x3 : Int32) (H : Heap) (locs : List Loc) (ls : Array Slot), va_P D vwCl (w_X11_blindBits K g_t t_raised t_undos t_reached t_length t_begin t_sort t_value t_word t_wrongAt t_badAt t_bad t_read t_pictured t_x t_all) H → va_D A (w_X11_blindBits K g_t t_raised t_undos t_reached t_length t_begin t_sort t_value t_word t_wrongAt t_badAt t_bad t_read t_pictured t_x t_all) → va_S A s.heap H locs → lv_has ls 4 [(0, .ref (g_t 0)), (1, .int x1), (2, .int x2), (3, .int x3)] → L_X11_blindBits_4 t_all n_ x1 x2 x3 = some res → W p l e rmX11_blindBits s m args below meth c H locs 0 0 Q (F0 m 4 ls []) := by
  obtain ⟨⟨hx, hb, hml, hown, hts⟩, hK, -⟩ := id C0
  intro n_
  induction n_ with
  | zero =>
    intro x1 x2 x3 H locs ls hP hD hS hl hF
    exact no_s (show (none : Option (Int32)) = some res from hF)
  | succ n_ ih =>
    intro x1 x2 x3 H locs ls hP hD hS hl hF
    rw [L_X11_blindBits_4] at hF
    refine lv_iload_n hx hb dX11_blindBits_4 rfl (lv_at hl 3 rfl) ?_
    refine lv_aload_n hx hb dX11_blindBits_5 rfl (lv_at hl 0 rfl) ?_
    refine va_get (D := D) (ci := 10) (v := .ref (g_t 2)) (C := RX11) (T := TX11) (N := 30) hx hb hts iw_X11_blindBits_X11 hown hK hP 0 rfl rfl 1 (by decide) (hts _ fl_X11_blindBits_7) (fun _ h9 => h9) rfl dX11_blindBits_6 ?_
    refine lv_iconst (v := 0) hx hb dX11_blindBits_9 (by decide) ?_
    refine xl_i (f := t_all) hx hb hK hP 1 0 rfl rfl (k := 0) (by decide) (in_v (by decide)) dX11_blindBits_10 ?_
    refine lv_icmp_ge (tgt := 43) hx hb dX11_blindBits_11 (by decide) (fun c_1 => ?_) (fun c_1 => ?_)
    · have hF := it_pos c_1 hF
      refine lv_iload_n hx hb dX11_blindBits_43 rfl (lv_at hl 2 rfl) ?_
      obtain rfl := Option.some.inj hF
      exact HR 44 H locs ls dX11_blindBits_44 hP hD hS
    · have hF := it_neg c_1 hF
      refine lv_iload_n hx hb dX11_blindBits_14 rfl (lv_at hl 2 rfl) ?_
      refine lv_aload_n hx hb dX11_blindBits_15 rfl (lv_at hl 0 rfl) ?_
      refine lv_iload_n hx hb dX11_blindBits_16 rfl (lv_at hl 1 rfl) ?_
      refine lv_aload_n hx hb dX11_blindBits_17 rfl (lv_at hl 0 rfl) ?_
      refine lv_iload_n hx hb dX11_blindBits_18 rfl (lv_at hl 3 rfl) ?_
      obtain ⟨r_2, hc_3, hF⟩ := bn_some hF
      refine xc_i (wn := (w_X11_blindBits K g_t t_raised t_undos t_reached t_length t_begin t_sort t_value t_word t_wrongAt t_badAt t_bad t_read t_pictured t_x t_all)) hP hD hS C0.2.2.1 [0, 1] [] [0, 1] rfl rfl (by decide) (by decide) rfl (by decide) (va_runV (As := [.int x3]) (rest := [.int x1, .ref (g_t 0), .int x2]) C0.1 (c_X11_gapAt l D K g_t t_raised t_undos t_reached t_length t_begin t_sort t_value t_word t_wrongAt t_badAt t_bad t_read t_pictured t_x t_all x3 r_2 hc_3 H.size) (cwV 1 hts gX11_blindBits_X11_gapAt rfl rfl rfl (by decide +kernel) ⟨Nat.le_of_ble_eq_true rfl, Nat.le_of_ble_eq_true rfl⟩) (xp_V C0.2 hP hD hS [0, 1] rfl (by decide) 10 0 rfl rfl rfl) rfl rfl hl.1 rfl (lv_room (Nat.le_of_ble_eq_true rfl)) dX11_blindBits_19 ⟨Nat.le_of_ble_eq_true rfl, Nat.le_of_ble_eq_true rfl⟩) (fun H locs hP hD hS => ?_)
      obtain ⟨r_4, hc_5, hF⟩ := bn_some hF
      refine xc_i (wn := (w_X11_blindBits K g_t t_raised t_undos t_reached t_length t_begin t_sort t_value t_word t_wrongAt t_badAt t_bad t_read t_pictured t_x t_all)) hP hD hS C0.2.2.1 [0, 1] [] [0, 1] rfl rfl (by decide) (by decide) rfl (by decide) (va_runV (As := [.int x1, .int r_2]) (rest := [.int x2]) C0.1 (c_X11_isBlind l D K g_t t_raised t_undos t_reached t_length t_begin t_sort t_value t_word t_wrongAt t_badAt t_bad t_read t_pictured t_x t_all x1 r_2 r_4 hc_5 H.size) (cwV 2 hts gX11_blindBits_X11_isBlind rfl rfl rfl (by decide +kernel) ⟨Nat.le_of_ble_eq_true rfl, Nat.le_of_ble_eq_true rfl⟩) (xp_V C0.2 hP hD hS [0, 1] rfl (by decide) 10 0 rfl rfl rfl) rfl rfl hl.1 rfl (lv_room (Nat.le_of_ble_eq_true rfl)) dX11_blindBits_22 ⟨Nat.le_of_ble_eq_true rfl, Nat.le_of_ble_eq_true rfl⟩) (fun H locs hP hD hS => ?_)
      refine lv_if_eq (tgt := 34) hx hb dX11_blindBits_25 (by decide) (fun c_6 => ?_) (fun c_6 => ?_)
      · have hF := it_pos c_6 hF
        refine lv_iconst (v := 0) hx hb dX11_blindBits_34 (by decide) ?_
        refine lv_ior hx hb dX11_blindBits_35 ?_
        refine lv_istore_n (lv' := [(2, .int (x2 ||| (0 : Int32))), (0, .ref (g_t 0)), (1, .int x1), (3, .int x3)]) hx hb dX11_blindBits_36 rfl hl (by decide) rfl (fun ls hl => ?_)
        refine lv_iinc (v := (x3 + (1 : Int32))) (lv' := [(3, .int (x3 + (1 : Int32))), (2, .int (x2 ||| (0 : Int32))), (0, .ref (g_t 0)), (1, .int x1)]) hx hb dX11_blindBits_37 hl (k := 3) rfl (congrArg (fun z => x3 + z) (by decide)) (by decide) rfl (fun ls hl => ?_)
        refine lv_goto (tgt := 4) hx hb dX11_blindBits_40 (by decide) ?_
        exact ih x1 (x2 ||| (0 : Int32)) (x3 + (1 : Int32)) H locs ls hP hD hS (lv_sub hl [2, 3, 1, 0] rfl) hF
      · have hF := it_neg c_6 hF
        refine lv_iconst (v := 1) hx hb dX11_blindBits_28 (by decide) ?_
        refine lv_iload_n hx hb dX11_blindBits_29 rfl (lv_at hl 3 rfl) ?_
        refine lv_ishl hx hb dX11_blindBits_30 ?_
        refine lv_goto (tgt := 35) hx hb dX11_blindBits_31 (by decide) ?_
        refine lv_ior hx hb dX11_blindBits_35 ?_
        refine lv_istore_n (lv' := [(2, .int (x2 ||| ((1 : Int32) <<< (x3 &&& 31)))), (0, .ref (g_t 0)), (1, .int x1), (3, .int x3)]) hx hb dX11_blindBits_36 rfl hl (by decide) rfl (fun ls hl => ?_)
        refine lv_iinc (v := (x3 + (1 : Int32))) (lv' := [(3, .int (x3 + (1 : Int32))), (2, .int (x2 ||| ((1 : Int32) <<< (x3 &&& 31)))), (0, .ref (g_t 0)), (1, .int x1)]) hx hb dX11_blindBits_37 hl (k := 3) rfl (congrArg (fun z => x3 + z) (by decide)) (by decide) rfl (fun ls hl => ?_)
        refine lv_goto (tgt := 4) hx hb dX11_blindBits_40 (by decide) ?_
        exact ih x1 (x2 ||| ((1 : Int32) <<< (x3 &&& 31))) (x3 + (1 : Int32)) H locs ls hP hD hS (lv_sub hl [2, 3, 1, 0] rfl) hF
def F_X11_blindBits (t_all : Nat → Int32) (x1 : Int32) : Option (Int32) :=
  L_X11_blindBits_4 t_all fu_ x1 (0 : Int32) (0 : Int32)
set_option maxHeartbeats 4000000 in
set_option maxRecDepth 100000 in
theorem c_X11_blindBits (l : Launch) (D : va_G) (K : Nat → ClassId) (g_t : Nat → Nat) (t_raised : Int32) (t_undos : Int32) (t_reached : Int32) (t_length : Int32) (t_begin : Int32) (t_sort : Int32) (t_value : Int32) (t_word : Int64) (t_wrongAt : Int32) (t_badAt : Int32) (t_bad : Int32) (t_read : Int32) (t_pictured : Int32) (t_x : Int32) (t_all : Nat → Int32) (x1 : Int32) (res : Int32) (hF : F_X11_blindBits t_all x1 = some res) :
    Mi_ l yX11_blindBits wsX11_blindBits rmX11_blindBits D K [.ref (g_t 0), .int x1] (w_X11_blindBits K g_t t_raised t_undos t_reached t_length t_begin t_sort t_value t_word t_wrongAt t_badAt t_bad t_read t_pictured t_x t_all) (w_X11_blindBits K g_t t_raised t_undos t_reached t_length t_begin t_sort t_value t_word t_wrongAt t_badAt t_bad t_read t_pictured t_x t_all) (res) := by
  refine en_i (cc := cX11_blindBits) (maxL := 4) (own := RX11) (by decide) rfl rfl (Nat.le_of_ble_eq_true rfl) ?_
  intro p e s m args below meth c A Q H locs ls C0 hP hD hS hl HR
  obtain ⟨⟨hx, hb, hml, hown, hts⟩, hK, -⟩ := id C0
  have hl : lv_has ls 4 [(0, .ref (g_t 0)), (1, .int x1)] := hl
  unfold F_X11_blindBits at hF
  refine lv_iconst (v := 0) hx hb dX11_blindBits_0 (by decide) ?_
  refine lv_istore_n (lv' := [(2, .int (0 : Int32)), (0, .ref (g_t 0)), (1, .int x1)]) hx hb dX11_blindBits_1 rfl hl (by decide) rfl (fun ls hl => ?_)
  refine lv_iconst (v := 0) hx hb dX11_blindBits_2 (by decide) ?_
  refine lv_istore_n (lv' := [(3, .int (0 : Int32)), (2, .int (0 : Int32)), (0, .ref (g_t 0)), (1, .int x1)]) hx hb dX11_blindBits_3 rfl hl (by decide) rfl (fun ls hl => ?_)
  exact w_X11_blindBits_4 C0 HR fu_ x1 (0 : Int32) (0 : Int32) H locs ls hP hD hS (lv_sub hl [2, 3, 1, 0] rfl) hF

/-! StaggerRadarModel.blind(I)I -/
abbrev rmX11_blind : Room := { frames := 3, cells := 0, slots := 0, locals := 68 }
theorem fl_X11_blind_66 : Cond.fieldLink RX11 66 "StaggerRadarModel" "raised" "I" ∈ wsX11_blind := by decide +kernel
theorem iw_X11_blind_X11 : ∀ w ∈ u_ws RX11 TX11 30, w ∈ wsX11_blind := by decide +kernel
abbrev w_X11_blind (K : Nat → ClassId) (g_t : Nat → Nat) (t_raised : Int32) (t_undos : Int32) (t_reached : Int32) (t_length : Int32) (t_begin : Int32) (t_sort : Int32) (t_value : Int32) (t_word : Int64) (t_wrongAt : Int32) (t_badAt : Int32) (t_bad : Int32) (t_read : Int32) (t_pictured : Int32) (t_x : Int32) (t_all : Nat → Int32) : va_W := [((g_t 0), .inr (10, [.int t_raised, .ref (g_t 2), .ref (g_t 3), .ref (g_t 4), .ref (g_t 5), .int t_undos, .int t_reached, .int t_length, .int t_begin, .int t_sort, .int t_value, .long t_word, .int t_wrongAt, .int t_badAt, .int t_bad, .ref (g_t 16), .int t_read, .ref (g_t 18), .ref (g_t 19), .ref (g_t 20), .int t_pictured, .ref (g_t 22), .ref (g_t 23), .ref (g_t 24), .ref (g_t 25), .ref (g_t 26), .int t_x, .ref (g_t 28), .ref (g_t 29), .ref (g_t 30)])), ((g_t 2), .inl (K 0, 500, .inl t_all))]
def F_X11_blind (t_raised : Int32) (t_all : Nat → Int32) (x1 : Int32) : Option (Int32 × Int32) :=
  (F_X11_in x1 (-500 : Int32) (500 : Int32)).bind fun r_1 => (if r_1 = (0 : Int32) then (some ((-1 : Int32), (0 : Int32))) else ((F_X11_blindBits t_all x1).bind fun r_4 => (some (r_4, (0 : Int32)))))
set_option maxHeartbeats 4000000 in
set_option maxRecDepth 100000 in
theorem c_X11_blind (l : Launch) (D : va_G) (K : Nat → ClassId) (g_t : Nat → Nat) (t_raised : Int32) (t_undos : Int32) (t_reached : Int32) (t_length : Int32) (t_begin : Int32) (t_sort : Int32) (t_value : Int32) (t_word : Int64) (t_wrongAt : Int32) (t_badAt : Int32) (t_bad : Int32) (t_read : Int32) (t_pictured : Int32) (t_x : Int32) (t_all : Nat → Int32) (x1 : Int32) (res : Int32 × Int32) (hF : F_X11_blind t_raised t_all x1 = some res) :
    Mi_ l yX11_blind wsX11_blind rmX11_blind D K [.ref (g_t 0), .int x1] (w_X11_blind K g_t t_raised t_undos t_reached t_length t_begin t_sort t_value t_word t_wrongAt t_badAt t_bad t_read t_pictured t_x t_all) (w_X11_blind K g_t res.2 t_undos t_reached t_length t_begin t_sort t_value t_word t_wrongAt t_badAt t_bad t_read t_pictured t_x t_all) (res.1) := by
  refine en_i (cc := cX11_blind) (maxL := 2) (own := RX11) (by decide) rfl rfl (Nat.le_of_ble_eq_true rfl) ?_
  intro p e s m args below meth c A Q H locs ls C0 hP hD hS hl HR
  obtain ⟨⟨hx, hb, hml, hown, hts⟩, hK, -⟩ := id C0
  have hl : lv_has ls 2 [(0, .ref (g_t 0)), (1, .int x1)] := hl
  unfold F_X11_blind at hF
  refine lv_aload_n hx hb dX11_blind_0 rfl (lv_at hl 0 rfl) ?_
  refine lv_iconst (v := 0) hx hb dX11_blind_1 (by decide) ?_
  refine va_put (D := D) (ci := 10) (v := .int (0 : Int32)) (ty := .int) (C := RX11) (T := TX11) (N := 30) hx hb hts iw_X11_blind_X11 tyX11 tyX11_ok nmX11 hown hK hP hD hS 0 rfl rfl 0 (by decide) (hts _ fl_X11_blind_66) (fun _ h9 => h9) rfl (by decide +kernel) rfl rfl (Nat.le_of_ble_eq_true rfl) dX11_blind_2 (fun H locs hP hD hS => ?_)
  have hP : va_P D vwCl (w_X11_blind K g_t (0 : Int32) t_undos t_reached t_length t_begin t_sort t_value t_word t_wrongAt t_badAt t_bad t_read t_pictured t_x t_all) H := hP
  have hD : va_D A (w_X11_blind K g_t (0 : Int32) t_undos t_reached t_length t_begin t_sort t_value t_word t_wrongAt t_badAt t_bad t_read t_pictured t_x t_all) := hD
  refine lv_iload_n hx hb dX11_blind_5 rfl (lv_at hl 1 rfl) ?_
  refine lv_sipush (v := (-500)) hx hb dX11_blind_6 (by decide) ?_
  refine lv_sipush (v := 500) hx hb dX11_blind_9 (by decide) ?_
  obtain ⟨r_1, hc_2, hF⟩ := bn_some hF
  refine xc_i (wn := (w_X11_blind K g_t (0 : Int32) t_undos t_reached t_length t_begin t_sort t_value t_word t_wrongAt t_badAt t_bad t_read t_pictured t_x t_all)) hP hD hS C0.2.2.1 [] [0, 1] [0, 1] rfl rfl (by decide) (by decide) rfl (by decide) (va_runS (As := [.int x1, .int (-500 : Int32), .int (500 : Int32)]) (rest := []) C0.1 (c_X11_in l D K x1 (-500 : Int32) (500 : Int32) r_1 hc_2 H.size) (va_cwS 3 hts gX11_blind_X11_in rfl rfl rfl (by decide +kernel) ⟨Nat.le_of_ble_eq_true rfl, Nat.le_of_ble_eq_true rfl⟩) (xp_S C0.2 hP hD hS [] rfl (by decide)) rfl rfl hl.1 rfl (lv_room (Nat.le_of_ble_eq_true rfl)) dX11_blind_12 ⟨Nat.le_of_ble_eq_true rfl, Nat.le_of_ble_eq_true rfl⟩) (fun H locs hP hD hS => ?_)
  refine lv_if_eq (tgt := 26) hx hb dX11_blind_15 (by decide) (fun c_3 => ?_) (fun c_3 => ?_)
  · have hF := it_pos c_3 hF
    refine lv_iconst (v := (-1)) hx hb dX11_blind_26 (by decide) ?_
    obtain rfl := Option.some.inj hF
    exact HR 27 H locs ls dX11_blind_27 hP hD hS
  · have hF := it_neg c_3 hF
    refine lv_aload_n hx hb dX11_blind_18 rfl (lv_at hl 0 rfl) ?_
    refine lv_iload_n hx hb dX11_blind_19 rfl (lv_at hl 1 rfl) ?_
    obtain ⟨r_4, hc_5, hF⟩ := bn_some hF
    refine xc_i (wn := (w_X11_blind K g_t (0 : Int32) t_undos t_reached t_length t_begin t_sort t_value t_word t_wrongAt t_badAt t_bad t_read t_pictured t_x t_all)) hP hD hS C0.2.2.1 [0, 1] [] [0, 1] rfl rfl (by decide) (by decide) rfl (by decide) (va_runV (As := [.int x1]) (rest := []) C0.1 (c_X11_blindBits l D K g_t (0 : Int32) t_undos t_reached t_length t_begin t_sort t_value t_word t_wrongAt t_badAt t_bad t_read t_pictured t_x t_all x1 r_4 hc_5 H.size) (cwV 1 hts gX11_blind_X11_blindBits rfl rfl rfl (by decide +kernel) ⟨Nat.le_of_ble_eq_true rfl, Nat.le_of_ble_eq_true rfl⟩) (xp_V C0.2 hP hD hS [0, 1] rfl (by decide) 10 0 rfl rfl rfl) rfl rfl hl.1 rfl (lv_room (Nat.le_of_ble_eq_true rfl)) dX11_blind_20 ⟨Nat.le_of_ble_eq_true rfl, Nat.le_of_ble_eq_true rfl⟩) (fun H locs hP hD hS => ?_)
    refine lv_goto (tgt := 27) hx hb dX11_blind_23 (by decide) ?_
    obtain rfl := Option.some.inj hF
    exact HR 27 H locs ls dX11_blind_27 hP hD hS

/-! StaggerRadarModel.blindMany(I)I -/
abbrev rmX11_blindMany : Room := { frames := 2, cells := 0, slots := 0, locals := 45 }
theorem fl_X11_blindMany_7 : Cond.fieldLink RX11 7 "StaggerRadarModel" "all" "[I" ∈ wsX11_blindMany := by decide +kernel
theorem iw_X11_blindMany_X11 : ∀ w ∈ u_ws RX11 TX11 30, w ∈ wsX11_blindMany := by decide +kernel
abbrev w_X11_blindMany (K : Nat → ClassId) (g_t : Nat → Nat) (t_raised : Int32) (t_undos : Int32) (t_reached : Int32) (t_length : Int32) (t_begin : Int32) (t_sort : Int32) (t_value : Int32) (t_word : Int64) (t_wrongAt : Int32) (t_badAt : Int32) (t_bad : Int32) (t_read : Int32) (t_pictured : Int32) (t_x : Int32) (t_all : Nat → Int32) : va_W := [((g_t 0), .inr (10, [.int t_raised, .ref (g_t 2), .ref (g_t 3), .ref (g_t 4), .ref (g_t 5), .int t_undos, .int t_reached, .int t_length, .int t_begin, .int t_sort, .int t_value, .long t_word, .int t_wrongAt, .int t_badAt, .int t_bad, .ref (g_t 16), .int t_read, .ref (g_t 18), .ref (g_t 19), .ref (g_t 20), .int t_pictured, .ref (g_t 22), .ref (g_t 23), .ref (g_t 24), .ref (g_t 25), .ref (g_t 26), .int t_x, .ref (g_t 28), .ref (g_t 29), .ref (g_t 30)])), ((g_t 2), .inl (K 0, 500, .inl t_all))]
def L_X11_blindMany_4 (t_all : Nat → Int32) : Nat → Int32 → Int32 → Int32 → Option (Int32)
  | 0, _, _, _ => none
  | n_ + 1, x1, x2, x3 =>
    if (t_all 11) < x3 then (some x2) else ((F_X11_isBlind t_all x3 x1).bind fun r_2 => (if r_2 = (0 : Int32) then (L_X11_blindMany_4 t_all n_ x1 (x2 + (0 : Int32)) (x3 + (1 : Int32))) else (L_X11_blindMany_4 t_all n_ x1 (x2 + (1 : Int32)) (x3 + (1 : Int32)))))
set_option maxHeartbeats 4000000 in
set_option maxRecDepth 100000 in
theorem w_X11_blindMany_4 {p : Program} {l : Launch} {e : Env} {s : State} {m : MethodId} {args : Array Value} {below : List Frame} {meth : Method} {c : Code} {D : va_G} {K : Nat → ClassId} {A : Nat → Prop} {Q : State → Prop} (C0 : cx_ p s m args c cX11_blindMany 4 RX11 wsX11_blindMany D K A) {g_t : Nat → Nat} {t_raised : Int32} {t_undos : Int32} {t_reached : Int32} {t_length : Int32} {t_begin : Int32} {t_sort : Int32} {t_value : Int32} {t_word : Int64} {t_wrongAt : Int32} {t_badAt : Int32} {t_bad : Int32} {t_read : Int32} {t_pictured : Int32} {t_x : Int32} {t_all : Nat → Int32} {res : Int32} (HR : ∀ (pc : Nat) (H : Heap) (locs : List Loc) (ls : Array Slot), decode cX11_blindMany pc = .ok (.ireturn, 1) → va_P D vwCl (w_X11_blindMany K g_t t_raised t_undos t_reached t_length t_begin t_sort t_value t_word t_wrongAt t_badAt t_bad t_read t_pictured t_x t_all) H → va_D A (w_X11_blindMany K g_t t_raised t_undos t_reached t_length t_begin t_sort t_value t_word t_wrongAt t_badAt t_bad t_read t_pictured t_x t_all) → va_S A s.heap H locs → W p l e rmX11_blindMany s m args below meth c H locs 0 0 Q (F0 m pc ls [.int res]))  :
    ∀ (n_ : Nat) (x1 : Int32) (x2 : Int32) (x3 : Int32) (H : Heap) (locs : List Loc) (ls : Array Slot), va_P D vwCl (w_X11_blindMany K g_t t_raised t_undos t_reached t_length t_begin t_sort t_value t_word t_wrongAt t_badAt t_bad t_read t_pictured t_x t_all) H → va_D A (w_X11_blindMany K g_t t_raised t_undos t_reached t_length t_begin t_sort t_value t_word t_wrongAt t_badAt t_bad t_read t_pictured t_x t_all) → va_S A s.heap H locs → lv_has ls 4 [(0, .ref (g_t 0)), (1, .int x1), (2, .int x2), (3, .int x3)] → L_X11_blindMany_4 t_all n_ x1 x2 x3 = some res → W p l e rmX11_blindMany s m args below meth c H locs 0 0 Q (F0 m 4 ls []) := by
  obtain ⟨⟨hx, hb, hml, hown, hts⟩, hK, -⟩ := id C0
  intro n_
  induction n_ with
  | zero =>
    intro x1 x2 x3 H locs ls hP hD hS hl hF
    exact no_s (show (none : Option (Int32)) = some res from hF)
  | succ n_ ih =>
    intro x1 x2 x3 H locs ls hP hD hS hl hF
    rw [L_X11_blindMany_4] at hF
    refine lv_iload_n hx hb dX11_blindMany_4 rfl (lv_at hl 3 rfl) ?_
    refine lv_aload_n hx hb dX11_blindMany_5 rfl (lv_at hl 0 rfl) ?_
    refine va_get (D := D) (ci := 10) (v := .ref (g_t 2)) (C := RX11) (T := TX11) (N := 30) hx hb hts iw_X11_blindMany_X11 hown hK hP 0 rfl rfl 1 (by decide) (hts _ fl_X11_blindMany_7) (fun _ h9 => h9) rfl dX11_blindMany_6 ?_
    refine lv_bipush (v := 11) hx hb dX11_blindMany_9 (by decide) ?_
    refine xl_i (f := t_all) hx hb hK hP 1 0 rfl rfl (k := 11) (by decide) (in_v (by decide)) dX11_blindMany_11 ?_
    refine lv_icmp_gt (tgt := 38) hx hb dX11_blindMany_12 (by decide) (fun c_1 => ?_) (fun c_1 => ?_)
    · have hF := it_pos c_1 hF
      refine lv_iload_n hx hb dX11_blindMany_38 rfl (lv_at hl 2 rfl) ?_
      obtain rfl := Option.some.inj hF
      exact HR 39 H locs ls dX11_blindMany_39 hP hD hS
    · have hF := it_neg c_1 hF
      refine lv_iload_n hx hb dX11_blindMany_15 rfl (lv_at hl 2 rfl) ?_
      refine lv_aload_n hx hb dX11_blindMany_16 rfl (lv_at hl 0 rfl) ?_
      refine lv_iload_n hx hb dX11_blindMany_17 rfl (lv_at hl 3 rfl) ?_
      refine lv_iload_n hx hb dX11_blindMany_18 rfl (lv_at hl 1 rfl) ?_
      obtain ⟨r_2, hc_3, hF⟩ := bn_some hF
      refine xc_i (wn := (w_X11_blindMany K g_t t_raised t_undos t_reached t_length t_begin t_sort t_value t_word t_wrongAt t_badAt t_bad t_read t_pictured t_x t_all)) hP hD hS C0.2.2.1 [0, 1] [] [0, 1] rfl rfl (by decide) (by decide) rfl (by decide) (va_runV (As := [.int x3, .int x1]) (rest := [.int x2]) C0.1 (c_X11_isBlind l D K g_t t_raised t_undos t_reached t_length t_begin t_sort t_value t_word t_wrongAt t_badAt t_bad t_read t_pictured t_x t_all x3 x1 r_2 hc_3 H.size) (cwV 2 hts gX11_blindMany_X11_isBlind rfl rfl rfl (by decide +kernel) ⟨Nat.le_of_ble_eq_true rfl, Nat.le_of_ble_eq_true rfl⟩) (xp_V C0.2 hP hD hS [0, 1] rfl (by decide) 10 0 rfl rfl rfl) rfl rfl hl.1 rfl (lv_room (Nat.le_of_ble_eq_true rfl)) dX11_blindMany_19 ⟨Nat.le_of_ble_eq_true rfl, Nat.le_of_ble_eq_true rfl⟩) (fun H locs hP hD hS => ?_)
      refine lv_if_eq (tgt := 29) hx hb dX11_blindMany_22 (by decide) (fun c_4 => ?_) (fun c_4 => ?_)
      · have hF := it_pos c_4 hF
        refine lv_iconst (v := 0) hx hb dX11_blindMany_29 (by decide) ?_
        refine lv_iadd hx hb dX11_blindMany_30 ?_
        refine lv_istore_n (lv' := [(2, .int (x2 + (0 : Int32))), (0, .ref (g_t 0)), (1, .int x1), (3, .int x3)]) hx hb dX11_blindMany_31 rfl hl (by decide) rfl (fun ls hl => ?_)
        refine lv_iinc (v := (x3 + (1 : Int32))) (lv' := [(3, .int (x3 + (1 : Int32))), (2, .int (x2 + (0 : Int32))), (0, .ref (g_t 0)), (1, .int x1)]) hx hb dX11_blindMany_32 hl (k := 3) rfl (congrArg (fun z => x3 + z) (by decide)) (by decide) rfl (fun ls hl => ?_)
        refine lv_goto (tgt := 4) hx hb dX11_blindMany_35 (by decide) ?_
        exact ih x1 (x2 + (0 : Int32)) (x3 + (1 : Int32)) H locs ls hP hD hS (lv_sub hl [2, 3, 1, 0] rfl) hF
      · have hF := it_neg c_4 hF
        refine lv_iconst (v := 1) hx hb dX11_blindMany_25 (by decide) ?_
        refine lv_goto (tgt := 30) hx hb dX11_blindMany_26 (by decide) ?_
        refine lv_iadd hx hb dX11_blindMany_30 ?_
        refine lv_istore_n (lv' := [(2, .int (x2 + (1 : Int32))), (0, .ref (g_t 0)), (1, .int x1), (3, .int x3)]) hx hb dX11_blindMany_31 rfl hl (by decide) rfl (fun ls hl => ?_)
        refine lv_iinc (v := (x3 + (1 : Int32))) (lv' := [(3, .int (x3 + (1 : Int32))), (2, .int (x2 + (1 : Int32))), (0, .ref (g_t 0)), (1, .int x1)]) hx hb dX11_blindMany_32 hl (k := 3) rfl (congrArg (fun z => x3 + z) (by decide)) (by decide) rfl (fun ls hl => ?_)
        refine lv_goto (tgt := 4) hx hb dX11_blindMany_35 (by decide) ?_
        exact ih x1 (x2 + (1 : Int32)) (x3 + (1 : Int32)) H locs ls hP hD hS (lv_sub hl [2, 3, 1, 0] rfl) hF
def F_X11_blindMany (t_all : Nat → Int32) (x1 : Int32) : Option (Int32) :=
  L_X11_blindMany_4 t_all fu_ x1 (0 : Int32) (1 : Int32)
set_option maxHeartbeats 4000000 in
set_option maxRecDepth 100000 in
theorem c_X11_blindMany (l : Launch) (D : va_G) (K : Nat → ClassId) (g_t : Nat → Nat) (t_raised : Int32) (t_undos : Int32) (t_reached : Int32) (t_length : Int32) (t_begin : Int32) (t_sort : Int32) (t_value : Int32) (t_word : Int64) (t_wrongAt : Int32) (t_badAt : Int32) (t_bad : Int32) (t_read : Int32) (t_pictured : Int32) (t_x : Int32) (t_all : Nat → Int32) (x1 : Int32) (res : Int32) (hF : F_X11_blindMany t_all x1 = some res) :
    Mi_ l yX11_blindMany wsX11_blindMany rmX11_blindMany D K [.ref (g_t 0), .int x1] (w_X11_blindMany K g_t t_raised t_undos t_reached t_length t_begin t_sort t_value t_word t_wrongAt t_badAt t_bad t_read t_pictured t_x t_all) (w_X11_blindMany K g_t t_raised t_undos t_reached t_length t_begin t_sort t_value t_word t_wrongAt t_badAt t_bad t_read t_pictured t_x t_all) (res) := by
  refine en_i (cc := cX11_blindMany) (maxL := 4) (own := RX11) (by decide) rfl rfl (Nat.le_of_ble_eq_true rfl) ?_
  intro p e s m args below meth c A Q H locs ls C0 hP hD hS hl HR
  obtain ⟨⟨hx, hb, hml, hown, hts⟩, hK, -⟩ := id C0
  have hl : lv_has ls 4 [(0, .ref (g_t 0)), (1, .int x1)] := hl
  unfold F_X11_blindMany at hF
  refine lv_iconst (v := 0) hx hb dX11_blindMany_0 (by decide) ?_
  refine lv_istore_n (lv' := [(2, .int (0 : Int32)), (0, .ref (g_t 0)), (1, .int x1)]) hx hb dX11_blindMany_1 rfl hl (by decide) rfl (fun ls hl => ?_)
  refine lv_iconst (v := 1) hx hb dX11_blindMany_2 (by decide) ?_
  refine lv_istore_n (lv' := [(3, .int (1 : Int32)), (2, .int (0 : Int32)), (0, .ref (g_t 0)), (1, .int x1)]) hx hb dX11_blindMany_3 rfl hl (by decide) rfl (fun ls hl => ?_)
  exact w_X11_blindMany_4 C0 HR fu_ x1 (0 : Int32) (1 : Int32) H locs ls hP hD hS (lv_sub hl [2, 3, 1, 0] rfl) hF

/-! StaggerRadarModel.lesser(II)I -/
abbrev rmX11_lesser : Room := { frames := 0, cells := 0, slots := 0, locals := 0 }
abbrev w_X11_lesser (K : Nat → ClassId) : va_W := []
def F_X11_lesser (x0 : Int32) (x1 : Int32) : Option (Int32) :=
  if x1 ≤ x0 then (some x1) else (some x0)
set_option maxHeartbeats 4000000 in
set_option maxRecDepth 100000 in
theorem c_X11_lesser (l : Launch) (D : va_G) (K : Nat → ClassId) (x0 : Int32) (x1 : Int32) (res : Int32) (hF : F_X11_lesser x0 x1 = some res) :
    Mi_ l yX11_lesser wsX11_lesser rmX11_lesser D K [.int x0, .int x1] (w_X11_lesser K) (w_X11_lesser K) (res) := by
  refine en_i (cc := cX11_lesser) (maxL := 2) (own := RX11) (by decide) rfl rfl (Nat.le_of_ble_eq_true rfl) ?_
  intro p e s m args below meth c A Q H locs ls C0 hP hD hS hl HR
  obtain ⟨⟨hx, hb, hml, hown, hts⟩, hK, -⟩ := id C0
  have hl : lv_has ls 2 [(0, .int x0), (1, .int x1)] := hl
  unfold F_X11_lesser at hF
  refine lv_iload_n hx hb dX11_lesser_0 rfl (lv_at hl 0 rfl) ?_
  refine lv_iload_n hx hb dX11_lesser_1 rfl (lv_at hl 1 rfl) ?_
  refine lv_icmp_ge (tgt := 9) hx hb dX11_lesser_2 (by decide) (fun c_1 => ?_) (fun c_1 => ?_)
  · have hF := it_pos c_1 hF
    refine lv_iload_n hx hb dX11_lesser_9 rfl (lv_at hl 1 rfl) ?_
    obtain rfl := Option.some.inj hF
    exact HR 10 H locs ls dX11_lesser_10 hP hD hS
  · have hF := it_neg c_1 hF
    refine lv_iload_n hx hb dX11_lesser_5 rfl (lv_at hl 0 rfl) ?_
    refine lv_goto (tgt := 10) hx hb dX11_lesser_6 (by decide) ?_
    obtain rfl := Option.some.inj hF
    exact HR 10 H locs ls dX11_lesser_10 hP hD hS

/-! StaggerRadarModel.measure(JJ)J -/
abbrev rmX11_measure : Room := { frames := 0, cells := 0, slots := 0, locals := 0 }
abbrev w_X11_measure (K : Nat → ClassId) : va_W := []
def L_X11_measure_6  : Nat → Int64 → Int64 → Option (Int64)
  | 0, _, _ => none
  | n_ + 1, x4, x6 =>
    if (lg_cmp x6 (0 : Int64)) = (0 : Int32) then (some x4) else (gd_ (decide (¬ x6 = 0)) (L_X11_measure_6 n_ x6 (x4 - x4 / x6 * x6)))
set_option maxHeartbeats 4000000 in
set_option maxRecDepth 100000 in
theorem w_X11_measure_6 {p : Program} {l : Launch} {e : Env} {s : State} {m : MethodId} {args : Array Value} {below : List Frame} {meth : Method} {c : Code} {D : va_G} {K : Nat → ClassId} {A : Nat → Prop} {Q : State → Prop} (C0 : cx_ p s m args c cX11_measure 10 RX11 wsX11_measure D K A)   {res : Int64} (HR : ∀ (pc : Nat) (H : Heap) (locs : List Loc) (ls : Array Slot), decode cX11_measure pc = .ok (.lreturn, 1) → va_P D vwCl (w_X11_measure K) H → va_D A (w_X11_measure K) → va_S A s.heap H locs → W p l e rmX11_measure s m args below meth c H locs 0 0 Q (F0 m pc ls [.long res]))  :
    ∀ (n_ : Nat) (x4 : Int64) (x6 : Int64) (H : Heap) (locs : List Loc) (ls : Array Slot), va_P D vwCl (w_X11_measure K) H → va_D A (w_X11_measure K) → va_S A s.heap H locs → lv_has ls 10 [(4, .long x4), (6, .long x6)] → L_X11_measure_6 n_ x4 x6 = some res → W p l e rmX11_measure s m args below meth c H locs 0 0 Q (F0 m 6 ls []) := by
  obtain ⟨⟨hx, hb, hml, hown, hts⟩, hK, -⟩ := id C0
  intro n_
  induction n_ with
  | zero =>
    intro x4 x6 H locs ls hP hD hS hl hF
    exact no_s (show (none : Option (Int64)) = some res from hF)
  | succ n_ ih =>
    intro x4 x6 H locs ls hP hD hS hl hF
    rw [L_X11_measure_6] at hF
    refine lv_lload hx hb dX11_measure_6 (lv_at hl 1 rfl) ?_
    refine lv_lconst (v := 0) hx hb dX11_measure_8 (by decide) ?_
    refine W.lcmp hx hb dX11_measure_9 ?_
    refine lv_if_eq (tgt := 31) hx hb dX11_measure_10 (by decide) (fun c_1 => ?_) (fun c_1 => ?_)
    · have hF := it_pos c_1 hF
      refine lv_lload hx hb dX11_measure_31 (lv_at hl 0 rfl) ?_
      obtain rfl := Option.some.inj hF
      exact HR 33 H locs ls dX11_measure_33 hP hD hS
    · have hF := it_neg c_1 hF
      refine lv_lload hx hb dX11_measure_13 (lv_at hl 0 rfl) ?_
      refine lv_lload hx hb dX11_measure_15 (lv_at hl 1 rfl) ?_
      obtain ⟨hg_2, hF⟩ := gd_some hF
      refine lv_lrem hx hb dX11_measure_17 (nl_of hg_2) ?_
      refine lv_lstore (lv' := [(8, .long (x4 - x4 / x6 * x6)), (4, .long x4), (6, .long x6)]) hx hb dX11_measure_18 hl (by decide) rfl (fun ls hl => ?_)
      refine lv_lload hx hb dX11_measure_20 (lv_at hl 2 rfl) ?_
      refine lv_lstore (lv' := [(4, .long x6), (8, .long (x4 - x4 / x6 * x6)), (6, .long x6)]) hx hb dX11_measure_22 hl (by decide) rfl (fun ls hl => ?_)
      refine lv_lload hx hb dX11_measure_24 (lv_at hl 1 rfl) ?_
      refine lv_lstore (lv' := [(6, .long (x4 - x4 / x6 * x6)), (4, .long x6), (8, .long (x4 - x4 / x6 * x6))]) hx hb dX11_measure_26 hl (by decide) rfl (fun ls hl => ?_)
      refine lv_goto (tgt := 6) hx hb dX11_measure_28 (by decide) ?_
      exact ih x6 (x4 - x4 / x6 * x6) H locs ls hP hD hS (lv_sub hl [1, 0] rfl) hF
def F_X11_measure (x0 : Int64) (x2 : Int64) : Option (Int64) :=
  L_X11_measure_6 fu_ x0 x2
set_option maxHeartbeats 4000000 in
set_option maxRecDepth 100000 in
theorem c_X11_measure (l : Launch) (D : va_G) (K : Nat → ClassId) (x0 : Int64) (x2 : Int64) (res : Int64) (hF : F_X11_measure x0 x2 = some res) :
    Ml_ l yX11_measure wsX11_measure rmX11_measure D K [.long x0, .long x2] (w_X11_measure K) (w_X11_measure K) (res) := by
  refine en_l (cc := cX11_measure) (maxL := 10) (own := RX11) (by decide) rfl rfl (Nat.le_of_ble_eq_true rfl) ?_
  intro p e s m args below meth c A Q H locs ls C0 hP hD hS hl HR
  obtain ⟨⟨hx, hb, hml, hown, hts⟩, hK, -⟩ := id C0
  have hl : lv_has ls 10 [(0, .long x0), (2, .long x2)] := hl
  unfold F_X11_measure at hF
  refine lv_lload_n hx hb dX11_measure_0 rfl (lv_at hl 0 rfl) ?_
  refine lv_lstore (lv' := [(4, .long x0), (0, .long x0), (2, .long x2)]) hx hb dX11_measure_1 hl (by decide) rfl (fun ls hl => ?_)
  refine lv_lload_n hx hb dX11_measure_3 rfl (lv_at hl 2 rfl) ?_
  refine lv_lstore (lv' := [(6, .long x2), (4, .long x0), (0, .long x0), (2, .long x2)]) hx hb dX11_measure_4 hl (by decide) rfl (fun ls hl => ?_)
  exact w_X11_measure_6 C0 HR fu_ x0 x2 H locs ls hP hD hS (lv_sub hl [1, 0] rfl) hF

/-! StaggerRadarModel.isFit(I)Z -/
abbrev rmX11_isFit : Room := { frames := 2, cells := 0, slots := 0, locals := 45 }
theorem fl_X11_isFit_7 : Cond.fieldLink RX11 7 "StaggerRadarModel" "all" "[I" ∈ wsX11_isFit := by decide +kernel
theorem fl_X11_isFit_54 : Cond.fieldLink RX11 54 "StaggerRadarModel" "chosen" "[I" ∈ wsX11_isFit := by decide +kernel
theorem iw_X11_isFit_X11 : ∀ w ∈ u_ws RX11 TX11 30, w ∈ wsX11_isFit := by decide +kernel
abbrev w_X11_isFit (K : Nat → ClassId) (g_t : Nat → Nat) (t_raised : Int32) (t_undos : Int32) (t_reached : Int32) (t_length : Int32) (t_begin : Int32) (t_sort : Int32) (t_value : Int32) (t_word : Int64) (t_wrongAt : Int32) (t_badAt : Int32) (t_bad : Int32) (t_read : Int32) (t_pictured : Int32) (t_x : Int32) (t_all : Nat → Int32) (t_chosen : Nat → Int32) : va_W := [((g_t 0), .inr (10, [.int t_raised, .ref (g_t 2), .ref (g_t 3), .ref (g_t 4), .ref (g_t 5), .int t_undos, .int t_reached, .int t_length, .int t_begin, .int t_sort, .int t_value, .long t_word, .int t_wrongAt, .int t_badAt, .int t_bad, .ref (g_t 16), .int t_read, .ref (g_t 18), .ref (g_t 19), .ref (g_t 20), .int t_pictured, .ref (g_t 22), .ref (g_t 23), .ref (g_t 24), .ref (g_t 25), .ref (g_t 26), .int t_x, .ref (g_t 28), .ref (g_t 29), .ref (g_t 30)])), ((g_t 2), .inl (K 0, 500, .inl t_all)), ((g_t 29), .inl (K 0, 4, .inl t_chosen))]
def J_X11_isFit_138 (t_all : Nat → Int32) (t_chosen : Nat → Int32) (k_77 : Int32 → Int32 → Int32 → Int32 → Option (Int32)) (x1 : Int32) (x4 : Int32) (x6 : Int32) (x7 : Int32) : Option (Int32) :=
  if x7 < x4 then (k_77 x1 x4 (0 : Int32) (x6 + (1 : Int32))) else (k_77 x1 x4 (1 : Int32) (x6 + (1 : Int32)))
set_option maxHeartbeats 4000000 in
set_option maxRecDepth 100000 in
theorem w_X11_isFit_138 {p : Program} {l : Launch} {e : Env} {s : State} {m : MethodId} {args : Array Value} {below : List Frame} {meth : Method} {c : Code} {D : va_G} {K : Nat → ClassId} {A : Nat → Prop} {Q : State → Prop} (C0 : cx_ p s m args c cX11_isFit 9 RX11 wsX11_isFit D K A) {g_t : Nat → Nat} {t_raised : Int32} {t_undos : Int32} {t_reached : Int32} {t_length : Int32} {t_begin : Int32} {t_sort : Int32} {t_value : Int32} {t_word : Int64} {t_wrongAt : Int32} {t_badAt : Int32} {t_bad : Int32} {t_read : Int32} {t_pictured : Int32} {t_x : Int32} {t_all : Nat → Int32} {t_chosen : Nat → Int32} {res : Int32} (HR : ∀ (pc : Nat) (H : Heap) (locs : List Loc) (ls : Array Slot), decode cX11_isFit pc = .ok (.ireturn, 1) → narrow .boolean (.int res) = .int res → va_P D vwCl (w_X11_isFit K g_t t_raised t_undos t_reached t_length t_begin t_sort t_value t_word t_wrongAt t_badAt t_bad t_read t_pictured t_x t_all t_chosen) H → va_D A (w_X11_isFit K g_t t_raised t_undos t_reached t_length t_begin t_sort t_value t_word t_wrongAt t_badAt t_bad t_read t_pictured t_x t_all t_chosen) → va_S A s.heap H locs → W p l e rmX11_isFit s m args below meth c H locs 0 0 Q (F0 m pc ls [.int res])) {k_77 : Int32 → Int32 → Int32 → Int32 → Option (Int32)} (HK_77 : ∀ (x1 : Int32) (x4 : Int32) (x5 : Int32) (x6 : Int32) (H : Heap) (locs : List Loc) (ls : Array Slot), va_P D vwCl (w_X11_isFit K g_t t_raised t_undos t_reached t_length t_begin t_sort t_value t_word t_wrongAt t_badAt t_bad t_read t_pictured t_x t_all t_chosen) H → va_D A (w_X11_isFit K g_t t_raised t_undos t_reached t_length t_begin t_sort t_value t_word t_wrongAt t_badAt t_bad t_read t_pictured t_x t_all t_chosen) → va_S A s.heap H locs → lv_has ls 9 [(0, .ref (g_t 0)), (1, .int x1), (4, .int x4), (5, .int x5), (6, .int x6)] → k_77 x1 x4 x5 x6 = some res → W p l e rmX11_isFit s m args below meth c H locs 0 0 Q (F0 m 77 ls [])) :
    ∀ (x1 : Int32) (x4 : Int32) (x6 : Int32) (x7 : Int32) (H : Heap) (locs : List Loc) (ls : Array Slot), va_P D vwCl (w_X11_isFit K g_t t_raised t_undos t_reached t_length t_begin t_sort t_value t_word t_wrongAt t_badAt t_bad t_read t_pictured t_x t_all t_chosen) H → va_D A (w_X11_isFit K g_t t_raised t_undos t_reached t_length t_begin t_sort t_value t_word t_wrongAt t_badAt t_bad t_read t_pictured t_x t_all t_chosen) → va_S A s.heap H locs → lv_has ls 9 [(0, .ref (g_t 0)), (1, .int x1), (4, .int x4), (6, .int x6), (7, .int x7)] → J_X11_isFit_138 t_all t_chosen k_77 x1 x4 x6 x7 = some res → W p l e rmX11_isFit s m args below meth c H locs 0 0 Q (F0 m 138 ls []) := by
  obtain ⟨⟨hx, hb, hml, hown, hts⟩, hK, -⟩ := id C0
  intro x1 x4 x6 x7 H locs ls hP hD hS hl hF
  unfold J_X11_isFit_138 at hF
  refine lv_iload hx hb dX11_isFit_138 (lv_at hl 4 rfl) ?_
  refine lv_iload hx hb dX11_isFit_140 (lv_at hl 2 rfl) ?_
  refine lv_icmp_lt (tgt := 149) hx hb dX11_isFit_142 (by decide) (fun c_1 => ?_) (fun c_1 => ?_)
  · have hF := it_pos c_1 hF
    refine lv_iconst (v := 0) hx hb dX11_isFit_149 (by decide) ?_
    refine lv_istore (lv' := [(5, .int (0 : Int32)), (0, .ref (g_t 0)), (1, .int x1), (4, .int x4), (6, .int x6), (7, .int x7)]) hx hb dX11_isFit_150 hl (by decide) rfl (fun ls hl => ?_)
    refine lv_iinc (v := (x6 + (1 : Int32))) (lv' := [(6, .int (x6 + (1 : Int32))), (5, .int (0 : Int32)), (0, .ref (g_t 0)), (1, .int x1), (4, .int x4), (7, .int x7)]) hx hb dX11_isFit_152 hl (k := 4) rfl (congrArg (fun z => x6 + z) (by decide)) (by decide) rfl (fun ls hl => ?_)
    refine lv_goto (tgt := 77) hx hb dX11_isFit_155 (by decide) ?_
    exact HK_77 x1 x4 (0 : Int32) (x6 + (1 : Int32)) H locs ls hP hD hS (lv_sub hl [2, 3, 4, 1, 0] rfl) hF
  · have hF := it_neg c_1 hF
    refine lv_iconst (v := 1) hx hb dX11_isFit_145 (by decide) ?_
    refine lv_goto (tgt := 150) hx hb dX11_isFit_146 (by decide) ?_
    refine lv_istore (lv' := [(5, .int (1 : Int32)), (0, .ref (g_t 0)), (1, .int x1), (4, .int x4), (6, .int x6), (7, .int x7)]) hx hb dX11_isFit_150 hl (by decide) rfl (fun ls hl => ?_)
    refine lv_iinc (v := (x6 + (1 : Int32))) (lv' := [(6, .int (x6 + (1 : Int32))), (5, .int (1 : Int32)), (0, .ref (g_t 0)), (1, .int x1), (4, .int x4), (7, .int x7)]) hx hb dX11_isFit_152 hl (k := 4) rfl (congrArg (fun z => x6 + z) (by decide)) (by decide) rfl (fun ls hl => ?_)
    refine lv_goto (tgt := 77) hx hb dX11_isFit_155 (by decide) ?_
    exact HK_77 x1 x4 (1 : Int32) (x6 + (1 : Int32)) H locs ls hP hD hS (lv_sub hl [2, 3, 4, 1, 0] rfl) hF
def L_X11_isFit_100 (t_all : Nat → Int32) (t_chosen : Nat → Int32) (k_77 : Int32 → Int32 → Int32 → Int32 → Option (Int32)) : Nat → Int32 → Int32 → Int32 → Int32 → Int32 → Option (Int32)
  | 0, _, _, _, _, _ => none
  | n_ + 1, x1, x4, x6, x7, x8 =>
    if x1 ≤ x8 then (J_X11_isFit_138 t_all t_chosen k_77 x1 x4 x6 x7) else (gd_ (in_b x8 4) ((F_X11_isBlind t_all x6 (t_chosen (x8).toNatClampNeg)).bind fun r_3 => (if r_3 = (0 : Int32) then (L_X11_isFit_100 t_all t_chosen k_77 n_ x1 x4 x6 (x7 + (1 : Int32)) (x8 + (1 : Int32))) else (L_X11_isFit_100 t_all t_chosen k_77 n_ x1 x4 x6 (x7 + (0 : Int32)) (x8 + (1 : Int32))))))
set_option maxHeartbeats 4000000 in
set_option maxRecDepth 100000 in
theorem w_X11_isFit_100 {p : Program} {l : Launch} {e : Env} {s : State} {m : MethodId} {args : Array Value} {below : List Frame} {meth : Method} {c : Code} {D : va_G} {K : Nat → ClassId} {A : Nat → Prop} {Q : State → Prop} (C0 : cx_ p s m args c cX11_isFit 9 RX11 wsX11_isFit D K A) {g_t : Nat → Nat} {t_raised : Int32} {t_undos : Int32} {t_reached : Int32} {t_length : Int32} {t_begin : Int32} {t_sort : Int32} {t_value : Int32} {t_word : Int64} {t_wrongAt : Int32} {t_badAt : Int32} {t_bad : Int32} {t_read : Int32} {t_pictured : Int32} {t_x : Int32} {t_all : Nat → Int32} {t_chosen : Nat → Int32} {res : Int32} (HR : ∀ (pc : Nat) (H : Heap) (locs : List Loc) (ls : Array Slot), decode cX11_isFit pc = .ok (.ireturn, 1) → narrow .boolean (.int res) = .int res → va_P D vwCl (w_X11_isFit K g_t t_raised t_undos t_reached t_length t_begin t_sort t_value t_word t_wrongAt t_badAt t_bad t_read t_pictured t_x t_all t_chosen) H → va_D A (w_X11_isFit K g_t t_raised t_undos t_reached t_length t_begin t_sort t_value t_word t_wrongAt t_badAt t_bad t_read t_pictured t_x t_all t_chosen) → va_S A s.heap H locs → W p l e rmX11_isFit s m args below meth c H locs 0 0 Q (F0 m pc ls [.int res])) {k_77 : Int32 → Int32 → Int32 → Int32 → Option (Int32)} (HK_77 : ∀ (x1 : Int32) (x4 : Int32) (x5 : Int32) (x6 : Int32) (H : Heap) (locs : List Loc) (ls : Array Slot), va_P D vwCl (w_X11_isFit K g_t t_raised t_undos t_reached t_length t_begin t_sort t_value t_word t_wrongAt t_badAt t_bad t_read t_pictured t_x t_all t_chosen) H → va_D A (w_X11_isFit K g_t t_raised t_undos t_reached t_length t_begin t_sort t_value t_word t_wrongAt t_badAt t_bad t_read t_pictured t_x t_all t_chosen) → va_S A s.heap H locs → lv_has ls 9 [(0, .ref (g_t 0)), (1, .int x1), (4, .int x4), (5, .int x5), (6, .int x6)] → k_77 x1 x4 x5 x6 = some res → W p l e rmX11_isFit s m args below meth c H locs 0 0 Q (F0 m 77 ls [])) :
    ∀ (n_ : Nat) (x1 : Int32) (x4 : Int32) (x6 : Int32) (x7 : Int32) (x8 : Int32) (H : Heap) (locs : List Loc) (ls : Array Slot), va_P D vwCl (w_X11_isFit K g_t t_raised t_undos t_reached t_length t_begin t_sort t_value t_word t_wrongAt t_badAt t_bad t_read t_pictured t_x t_all t_chosen) H → va_D A (w_X11_isFit K g_t t_raised t_undos t_reached t_length t_begin t_sort t_value t_word t_wrongAt t_badAt t_bad t_read t_pictured t_x t_all t_chosen) → va_S A s.heap H locs → lv_has ls 9 [(0, .ref (g_t 0)), (1, .int x1), (4, .int x4), (6, .int x6), (7, .int x7), (8, .int x8)] → L_X11_isFit_100 t_all t_chosen k_77 n_ x1 x4 x6 x7 x8 = some res → W p l e rmX11_isFit s m args below meth c H locs 0 0 Q (F0 m 100 ls []) := by
  obtain ⟨⟨hx, hb, hml, hown, hts⟩, hK, -⟩ := id C0
  intro n_
  induction n_ with
  | zero =>
    intro x1 x4 x6 x7 x8 H locs ls hP hD hS hl hF
    exact no_s (show (none : Option (Int32)) = some res from hF)
  | succ n_ ih =>
    intro x1 x4 x6 x7 x8 H locs ls hP hD hS hl hF
    rw [L_X11_isFit_100] at hF
    refine lv_iload hx hb dX11_isFit_100 (lv_at hl 5 rfl) ?_
    refine lv_iload_n hx hb dX11_isFit_102 rfl (lv_at hl 1 rfl) ?_
    refine lv_icmp_ge (tgt := 138) hx hb dX11_isFit_103 (by decide) (fun c_1 => ?_) (fun c_1 => ?_)
    · have hF := it_pos c_1 hF
      exact w_X11_isFit_138 C0 HR HK_77 x1 x4 x6 x7 H locs ls hP hD hS (lv_sub hl [0, 1, 2, 3, 4] rfl) hF
    · have hF := it_neg c_1 hF
      refine lv_iload hx hb dX11_isFit_106 (lv_at hl 4 rfl) ?_
      refine lv_aload_n hx hb dX11_isFit_108 rfl (lv_at hl 0 rfl) ?_
      refine lv_iload hx hb dX11_isFit_109 (lv_at hl 3 rfl) ?_
      refine lv_aload_n hx hb dX11_isFit_111 rfl (lv_at hl 0 rfl) ?_
      refine va_get (D := D) (ci := 10) (v := .ref (g_t 29)) (C := RX11) (T := TX11) (N := 30) hx hb hts iw_X11_isFit_X11 hown hK hP 0 rfl rfl 28 (by decide) (hts _ fl_X11_isFit_54) (fun _ h9 => h9) rfl dX11_isFit_112 ?_
      refine lv_iload hx hb dX11_isFit_115 (lv_at hl 5 rfl) ?_
      obtain ⟨hg_2, hF⟩ := gd_some hF
      refine xl_i (f := t_chosen) hx hb hK hP 2 0 rfl rfl rfl (in_v hg_2) dX11_isFit_117 ?_
      obtain ⟨r_3, hc_4, hF⟩ := bn_some hF
      refine xc_i (wn := (w_X11_isFit K g_t t_raised t_undos t_reached t_length t_begin t_sort t_value t_word t_wrongAt t_badAt t_bad t_read t_pictured t_x t_all t_chosen)) hP hD hS C0.2.2.1 [0, 1] [2] [1, 2, 0] rfl rfl (by decide) (by decide) rfl (by decide) (va_runV (As := [.int x6, .int (t_chosen (x8).toNatClampNeg)]) (rest := [.int x7]) C0.1 (c_X11_isBlind l D K g_t t_raised t_undos t_reached t_length t_begin t_sort t_value t_word t_wrongAt t_badAt t_bad t_read t_pictured t_x t_all x6 (t_chosen (x8).toNatClampNeg) r_3 hc_4 H.size) (cwV 2 hts gX11_isFit_X11_isBlind rfl rfl rfl (by decide +kernel) ⟨Nat.le_of_ble_eq_true rfl, Nat.le_of_ble_eq_true rfl⟩) (xp_V C0.2 hP hD hS [0, 1] rfl (by decide) 10 0 rfl rfl rfl) rfl rfl hl.1 rfl (lv_room (Nat.le_of_ble_eq_true rfl)) dX11_isFit_118 ⟨Nat.le_of_ble_eq_true rfl, Nat.le_of_ble_eq_true rfl⟩) (fun H locs hP hD hS => ?_)
      refine lv_if_eq (tgt := 128) hx hb dX11_isFit_121 (by decide) (fun c_5 => ?_) (fun c_5 => ?_)
      · have hF := it_pos c_5 hF
        refine lv_iconst (v := 1) hx hb dX11_isFit_128 (by decide) ?_
        refine lv_iadd hx hb dX11_isFit_129 ?_
        refine lv_istore (lv' := [(7, .int (x7 + (1 : Int32))), (0, .ref (g_t 0)), (1, .int x1), (4, .int x4), (6, .int x6), (8, .int x8)]) hx hb dX11_isFit_130 hl (by decide) rfl (fun ls hl => ?_)
        refine lv_iinc (v := (x8 + (1 : Int32))) (lv' := [(8, .int (x8 + (1 : Int32))), (7, .int (x7 + (1 : Int32))), (0, .ref (g_t 0)), (1, .int x1), (4, .int x4), (6, .int x6)]) hx hb dX11_isFit_132 hl (k := 5) rfl (congrArg (fun z => x8 + z) (by decide)) (by decide) rfl (fun ls hl => ?_)
        refine lv_goto (tgt := 100) hx hb dX11_isFit_135 (by decide) ?_
        exact ih x1 x4 x6 (x7 + (1 : Int32)) (x8 + (1 : Int32)) H locs ls hP hD hS (lv_sub hl [2, 3, 4, 5, 1, 0] rfl) hF
      · have hF := it_neg c_5 hF
        refine lv_iconst (v := 0) hx hb dX11_isFit_124 (by decide) ?_
        refine lv_goto (tgt := 129) hx hb dX11_isFit_125 (by decide) ?_
        refine lv_iadd hx hb dX11_isFit_129 ?_
        refine lv_istore (lv' := [(7, .int (x7 + (0 : Int32))), (0, .ref (g_t 0)), (1, .int x1), (4, .int x4), (6, .int x6), (8, .int x8)]) hx hb dX11_isFit_130 hl (by decide) rfl (fun ls hl => ?_)
        refine lv_iinc (v := (x8 + (1 : Int32))) (lv' := [(8, .int (x8 + (1 : Int32))), (7, .int (x7 + (0 : Int32))), (0, .ref (g_t 0)), (1, .int x1), (4, .int x4), (6, .int x6)]) hx hb dX11_isFit_132 hl (k := 5) rfl (congrArg (fun z => x8 + z) (by decide)) (by decide) rfl (fun ls hl => ?_)
        refine lv_goto (tgt := 100) hx hb dX11_isFit_135 (by decide) ?_
        exact ih x1 x4 x6 (x7 + (0 : Int32)) (x8 + (1 : Int32)) H locs ls hP hD hS (lv_sub hl [2, 3, 4, 5, 1, 0] rfl) hF
def L_X11_isFit_77 (t_all : Nat → Int32) (t_chosen : Nat → Int32) : Nat → Int32 → Int32 → Int32 → Int32 → Option (Int32)
  | 0, _, _, _, _ => none
  | n_ + 1, x1, x4, x5, x6 =>
    if (t_all 11) < x6 then (gd_ (decide (x5 &&& 1 = x5)) (some x5)) else (if x5 = (0 : Int32) then (gd_ (decide (x5 &&& 1 = x5)) (some x5)) else (L_X11_isFit_100 t_all t_chosen (L_X11_isFit_77 t_all t_chosen n_) fu_ x1 x4 x6 (0 : Int32) (0 : Int32)))
set_option maxHeartbeats 4000000 in
set_option maxRecDepth 100000 in
theorem w_X11_isFit_77 {p : Program} {l : Launch} {e : Env} {s : State} {m : MethodId} {args : Array Value} {below : List Frame} {meth : Method} {c : Code} {D : va_G} {K : Nat → ClassId} {A : Nat → Prop} {Q : State → Prop} (C0 : cx_ p s m args c cX11_isFit 9 RX11 wsX11_isFit D K A) {g_t : Nat → Nat} {t_raised : Int32} {t_undos : Int32} {t_reached : Int32} {t_length : Int32} {t_begin : Int32} {t_sort : Int32} {t_value : Int32} {t_word : Int64} {t_wrongAt : Int32} {t_badAt : Int32} {t_bad : Int32} {t_read : Int32} {t_pictured : Int32} {t_x : Int32} {t_all : Nat → Int32} {t_chosen : Nat → Int32} {res : Int32} (HR : ∀ (pc : Nat) (H : Heap) (locs : List Loc) (ls : Array Slot), decode cX11_isFit pc = .ok (.ireturn, 1) → narrow .boolean (.int res) = .int res → va_P D vwCl (w_X11_isFit K g_t t_raised t_undos t_reached t_length t_begin t_sort t_value t_word t_wrongAt t_badAt t_bad t_read t_pictured t_x t_all t_chosen) H → va_D A (w_X11_isFit K g_t t_raised t_undos t_reached t_length t_begin t_sort t_value t_word t_wrongAt t_badAt t_bad t_read t_pictured t_x t_all t_chosen) → va_S A s.heap H locs → W p l e rmX11_isFit s m args below meth c H locs 0 0 Q (F0 m pc ls [.int res]))  :
    ∀ (n_ : Nat) (x1 : Int32) (x4 : Int32) (x5 : Int32) (x6 : Int32) (H : Heap) (locs : List Loc) (ls : Array Slot), va_P D vwCl (w_X11_isFit K g_t t_raised t_undos t_reached t_length t_begin t_sort t_value t_word t_wrongAt t_badAt t_bad t_read t_pictured t_x t_all t_chosen) H → va_D A (w_X11_isFit K g_t t_raised t_undos t_reached t_length t_begin t_sort t_value t_word t_wrongAt t_badAt t_bad t_read t_pictured t_x t_all t_chosen) → va_S A s.heap H locs → lv_has ls 9 [(0, .ref (g_t 0)), (1, .int x1), (4, .int x4), (5, .int x5), (6, .int x6)] → L_X11_isFit_77 t_all t_chosen n_ x1 x4 x5 x6 = some res → W p l e rmX11_isFit s m args below meth c H locs 0 0 Q (F0 m 77 ls []) := by
  obtain ⟨⟨hx, hb, hml, hown, hts⟩, hK, -⟩ := id C0
  intro n_
  induction n_ with
  | zero =>
    intro x1 x4 x5 x6 H locs ls hP hD hS hl hF
    exact no_s (show (none : Option (Int32)) = some res from hF)
  | succ n_ ih =>
    intro x1 x4 x5 x6 H locs ls hP hD hS hl hF
    rw [L_X11_isFit_77] at hF
    refine lv_iload hx hb dX11_isFit_77 (lv_at hl 4 rfl) ?_
    refine lv_aload_n hx hb dX11_isFit_79 rfl (lv_at hl 0 rfl) ?_
    refine va_get (D := D) (ci := 10) (v := .ref (g_t 2)) (C := RX11) (T := TX11) (N := 30) hx hb hts iw_X11_isFit_X11 hown hK hP 0 rfl rfl 1 (by decide) (hts _ fl_X11_isFit_7) (fun _ h9 => h9) rfl dX11_isFit_80 ?_
    refine lv_bipush (v := 11) hx hb dX11_isFit_83 (by decide) ?_
    refine xl_i (f := t_all) hx hb hK hP 1 0 rfl rfl (k := 11) (by decide) (in_v (by decide)) dX11_isFit_85 ?_
    refine lv_icmp_gt (tgt := 158) hx hb dX11_isFit_86 (by decide) (fun c_1 => ?_) (fun c_1 => ?_)
    · have hF := it_pos c_1 hF
      refine lv_iload hx hb dX11_isFit_158 (lv_at hl 3 rfl) ?_
      obtain ⟨hg_2, hF⟩ := gd_some hF
      obtain rfl := Option.some.inj hF
      exact HR 160 H locs ls dX11_isFit_160 (zn_of hg_2) hP hD hS
    · have hF := it_neg c_1 hF
      refine lv_iload hx hb dX11_isFit_89 (lv_at hl 3 rfl) ?_
      refine lv_if_eq (tgt := 158) hx hb dX11_isFit_91 (by decide) (fun c_3 => ?_) (fun c_3 => ?_)
      · have hF := it_pos c_3 hF
        refine lv_iload hx hb dX11_isFit_158 (lv_at hl 3 rfl) ?_
        obtain ⟨hg_4, hF⟩ := gd_some hF
        obtain rfl := Option.some.inj hF
        exact HR 160 H locs ls dX11_isFit_160 (zn_of hg_4) hP hD hS
      · have hF := it_neg c_3 hF
        refine lv_iconst (v := 0) hx hb dX11_isFit_94 (by decide) ?_
        refine lv_istore (lv' := [(7, .int (0 : Int32)), (0, .ref (g_t 0)), (1, .int x1), (4, .int x4), (5, .int x5), (6, .int x6)]) hx hb dX11_isFit_95 hl (by decide) rfl (fun ls hl => ?_)
        refine lv_iconst (v := 0) hx hb dX11_isFit_97 (by decide) ?_
        refine lv_istore (lv' := [(8, .int (0 : Int32)), (7, .int (0 : Int32)), (0, .ref (g_t 0)), (1, .int x1), (4, .int x4), (5, .int x5), (6, .int x6)]) hx hb dX11_isFit_98 hl (by decide) rfl (fun ls hl => ?_)
        exact w_X11_isFit_100 C0 HR ih fu_ x1 x4 x6 (0 : Int32) (0 : Int32) H locs ls hP hD hS (lv_sub hl [2, 3, 4, 6, 1, 0] rfl) hF
def J_X11_isFit_41 (t_all : Nat → Int32) (t_chosen : Nat → Int32) (x1 : Int32) (x2 : Int64) : Option (Int32) :=
  (F_X11_lesser (t_all 10) x1).bind fun r_1 => (if (lg_cmp x2 (((t_all 9)).toInt64)) < (0 : Int32) then (L_X11_isFit_77 t_all t_chosen fu_ x1 r_1 (0 : Int32) (1 : Int32)) else (L_X11_isFit_77 t_all t_chosen fu_ x1 r_1 (1 : Int32) (1 : Int32)))
set_option maxHeartbeats 4000000 in
set_option maxRecDepth 100000 in
theorem w_X11_isFit_41 {p : Program} {l : Launch} {e : Env} {s : State} {m : MethodId} {args : Array Value} {below : List Frame} {meth : Method} {c : Code} {D : va_G} {K : Nat → ClassId} {A : Nat → Prop} {Q : State → Prop} (C0 : cx_ p s m args c cX11_isFit 9 RX11 wsX11_isFit D K A) {g_t : Nat → Nat} {t_raised : Int32} {t_undos : Int32} {t_reached : Int32} {t_length : Int32} {t_begin : Int32} {t_sort : Int32} {t_value : Int32} {t_word : Int64} {t_wrongAt : Int32} {t_badAt : Int32} {t_bad : Int32} {t_read : Int32} {t_pictured : Int32} {t_x : Int32} {t_all : Nat → Int32} {t_chosen : Nat → Int32} {res : Int32} (HR : ∀ (pc : Nat) (H : Heap) (locs : List Loc) (ls : Array Slot), decode cX11_isFit pc = .ok (.ireturn, 1) → narrow .boolean (.int res) = .int res → va_P D vwCl (w_X11_isFit K g_t t_raised t_undos t_reached t_length t_begin t_sort t_value t_word t_wrongAt t_badAt t_bad t_read t_pictured t_x t_all t_chosen) H → va_D A (w_X11_isFit K g_t t_raised t_undos t_reached t_length t_begin t_sort t_value t_word t_wrongAt t_badAt t_bad t_read t_pictured t_x t_all t_chosen) → va_S A s.heap H locs → W p l e rmX11_isFit s m args below meth c H locs 0 0 Q (F0 m pc ls [.int res]))  :
    ∀ (x1 : Int32) (x2 : Int64) (H : Heap) (locs : List Loc) (ls : Array Slot), va_P D vwCl (w_X11_isFit K g_t t_raised t_undos t_reached t_length t_begin t_sort t_value t_word t_wrongAt t_badAt t_bad t_read t_pictured t_x t_all t_chosen) H → va_D A (w_X11_isFit K g_t t_raised t_undos t_reached t_length t_begin t_sort t_value t_word t_wrongAt t_badAt t_bad t_read t_pictured t_x t_all t_chosen) → va_S A s.heap H locs → lv_has ls 9 [(0, .ref (g_t 0)), (1, .int x1), (2, .long x2)] → J_X11_isFit_41 t_all t_chosen x1 x2 = some res → W p l e rmX11_isFit s m args below meth c H locs 0 0 Q (F0 m 41 ls []) := by
  obtain ⟨⟨hx, hb, hml, hown, hts⟩, hK, -⟩ := id C0
  intro x1 x2 H locs ls hP hD hS hl hF
  unfold J_X11_isFit_41 at hF
  refine lv_aload_n hx hb dX11_isFit_41 rfl (lv_at hl 0 rfl) ?_
  refine va_get (D := D) (ci := 10) (v := .ref (g_t 2)) (C := RX11) (T := TX11) (N := 30) hx hb hts iw_X11_isFit_X11 hown hK hP 0 rfl rfl 1 (by decide) (hts _ fl_X11_isFit_7) (fun _ h9 => h9) rfl dX11_isFit_42 ?_
  refine lv_bipush (v := 10) hx hb dX11_isFit_45 (by decide) ?_
  refine xl_i (f := t_all) hx hb hK hP 1 0 rfl rfl (k := 10) (by decide) (in_v (by decide)) dX11_isFit_47 ?_
  refine lv_iload_n hx hb dX11_isFit_48 rfl (lv_at hl 1 rfl) ?_
  obtain ⟨r_1, hc_2, hF⟩ := bn_some hF
  refine xc_i (wn := (w_X11_isFit K g_t t_raised t_undos t_reached t_length t_begin t_sort t_value t_word t_wrongAt t_badAt t_bad t_read t_pictured t_x t_all t_chosen)) hP hD hS C0.2.2.1 [] [0, 1, 2] [0, 1, 2] rfl rfl (by decide) (by decide) rfl (by decide) (va_runS (As := [.int (t_all 10), .int x1]) (rest := []) C0.1 (c_X11_lesser l D K (t_all 10) x1 r_1 hc_2 H.size) (va_cwS 2 hts gX11_isFit_X11_lesser rfl rfl rfl (by decide +kernel) ⟨Nat.le_of_ble_eq_true rfl, Nat.le_of_ble_eq_true rfl⟩) (xp_S C0.2 hP hD hS [] rfl (by decide)) rfl rfl hl.1 rfl (lv_room (Nat.le_of_ble_eq_true rfl)) dX11_isFit_49 ⟨Nat.le_of_ble_eq_true rfl, Nat.le_of_ble_eq_true rfl⟩) (fun H locs hP hD hS => ?_)
  refine lv_istore (lv' := [(4, .int r_1), (0, .ref (g_t 0)), (1, .int x1), (2, .long x2)]) hx hb dX11_isFit_52 hl (by decide) rfl (fun ls hl => ?_)
  refine lv_lload_n hx hb dX11_isFit_54 rfl (lv_at hl 3 rfl) ?_
  refine lv_aload_n hx hb dX11_isFit_55 rfl (lv_at hl 1 rfl) ?_
  refine va_get (D := D) (ci := 10) (v := .ref (g_t 2)) (C := RX11) (T := TX11) (N := 30) hx hb hts iw_X11_isFit_X11 hown hK hP 0 rfl rfl 1 (by decide) (hts _ fl_X11_isFit_7) (fun _ h9 => h9) rfl dX11_isFit_56 ?_
  refine lv_bipush (v := 9) hx hb dX11_isFit_59 (by decide) ?_
  refine xl_i (f := t_all) hx hb hK hP 1 0 rfl rfl (k := 9) (by decide) (in_v (by decide)) dX11_isFit_61 ?_
  refine lv_i2l hx hb dX11_isFit_62 rfl ?_
  refine W.lcmp hx hb dX11_isFit_63 ?_
  refine lv_if_lt (tgt := 71) hx hb dX11_isFit_64 (by decide) (fun c_3 => ?_) (fun c_3 => ?_)
  · have hF := it_pos c_3 hF
    refine lv_iconst (v := 0) hx hb dX11_isFit_71 (by decide) ?_
    refine lv_istore (lv' := [(5, .int (0 : Int32)), (4, .int r_1), (0, .ref (g_t 0)), (1, .int x1), (2, .long x2)]) hx hb dX11_isFit_72 hl (by decide) rfl (fun ls hl => ?_)
    refine lv_iconst (v := 1) hx hb dX11_isFit_74 (by decide) ?_
    refine lv_istore (lv' := [(6, .int (1 : Int32)), (5, .int (0 : Int32)), (4, .int r_1), (0, .ref (g_t 0)), (1, .int x1), (2, .long x2)]) hx hb dX11_isFit_75 hl (by decide) rfl (fun ls hl => ?_)
    exact w_X11_isFit_77 C0 HR fu_ x1 r_1 (0 : Int32) (1 : Int32) H locs ls hP hD hS (lv_sub hl [3, 4, 2, 1, 0] rfl) hF
  · have hF := it_neg c_3 hF
    refine lv_iconst (v := 1) hx hb dX11_isFit_67 (by decide) ?_
    refine lv_goto (tgt := 72) hx hb dX11_isFit_68 (by decide) ?_
    refine lv_istore (lv' := [(5, .int (1 : Int32)), (4, .int r_1), (0, .ref (g_t 0)), (1, .int x1), (2, .long x2)]) hx hb dX11_isFit_72 hl (by decide) rfl (fun ls hl => ?_)
    refine lv_iconst (v := 1) hx hb dX11_isFit_74 (by decide) ?_
    refine lv_istore (lv' := [(6, .int (1 : Int32)), (5, .int (1 : Int32)), (4, .int r_1), (0, .ref (g_t 0)), (1, .int x1), (2, .long x2)]) hx hb dX11_isFit_75 hl (by decide) rfl (fun ls hl => ?_)
    exact w_X11_isFit_77 C0 HR fu_ x1 r_1 (1 : Int32) (1 : Int32) H locs ls hP hD hS (lv_sub hl [3, 4, 2, 1, 0] rfl) hF
def L_X11_isFit_5 (t_all : Nat → Int32) (t_chosen : Nat → Int32) : Nat → Int32 → Int64 → Int32 → Option (Int32)
  | 0, _, _, _ => none
  | n_ + 1, x1, x2, x4 =>
    if x1 ≤ x4 then (J_X11_isFit_41 t_all t_chosen x1 x2) else (gd_ (in_b x4 4) ((F_X11_measure x2 (((t_chosen (x4).toNatClampNeg)).toInt64)).bind fun r_3 => (gd_ (decide (¬ r_3 = 0)) (gd_ (in_b x4 4) (L_X11_isFit_5 t_all t_chosen n_ x1 ((x2 / r_3) * ((t_chosen (x4).toNatClampNeg)).toInt64) (x4 + (1 : Int32)))))))
set_option maxHeartbeats 4000000 in
set_option maxRecDepth 100000 in
theorem w_X11_isFit_5 {p : Program} {l : Launch} {e : Env} {s : State} {m : MethodId} {args : Array Value} {below : List Frame} {meth : Method} {c : Code} {D : va_G} {K : Nat → ClassId} {A : Nat → Prop} {Q : State → Prop} (C0 : cx_ p s m args c cX11_isFit 9 RX11 wsX11_isFit D K A) {g_t : Nat → Nat} {t_raised : Int32} {t_undos : Int32} {t_reached : Int32} {t_length : Int32} {t_begin : Int32} {t_sort : Int32} {t_value : Int32} {t_word : Int64} {t_wrongAt : Int32} {t_badAt : Int32} {t_bad : Int32} {t_read : Int32} {t_pictured : Int32} {t_x : Int32} {t_all : Nat → Int32} {t_chosen : Nat → Int32} {res : Int32} (HR : ∀ (pc : Nat) (H : Heap) (locs : List Loc) (ls : Array Slot), decode cX11_isFit pc = .ok (.ireturn, 1) → narrow .boolean (.int res) = .int res → va_P D vwCl (w_X11_isFit K g_t t_raised t_undos t_reached t_length t_begin t_sort t_value t_word t_wrongAt t_badAt t_bad t_read t_pictured t_x t_all t_chosen) H → va_D A (w_X11_isFit K g_t t_raised t_undos t_reached t_length t_begin t_sort t_value t_word t_wrongAt t_badAt t_bad t_read t_pictured t_x t_all t_chosen) → va_S A s.heap H locs → W p l e rmX11_isFit s m args below meth c H locs 0 0 Q (F0 m pc ls [.int res]))  :
    ∀ (n_ : Nat) (x1 : Int32) (x2 : Int64) (x4 : Int32) (H : Heap) (locs : List Loc) (ls : Array Slot), va_P D vwCl (w_X11_isFit K g_t t_raised t_undos t_reached t_length t_begin t_sort t_value t_word t_wrongAt t_badAt t_bad t_read t_pictured t_x t_all t_chosen) H → va_D A (w_X11_isFit K g_t t_raised t_undos t_reached t_length t_begin t_sort t_value t_word t_wrongAt t_badAt t_bad t_read t_pictured t_x t_all t_chosen) → va_S A s.heap H locs → lv_has ls 9 [(0, .ref (g_t 0)), (1, .int x1), (2, .long x2), (4, .int x4)] → L_X11_isFit_5 t_all t_chosen n_ x1 x2 x4 = some res → W p l e rmX11_isFit s m args below meth c H locs 0 0 Q (F0 m 5 ls []) := by
  obtain ⟨⟨hx, hb, hml, hown, hts⟩, hK, -⟩ := id C0
  intro n_
  induction n_ with
  | zero =>
    intro x1 x2 x4 H locs ls hP hD hS hl hF
    exact no_s (show (none : Option (Int32)) = some res from hF)
  | succ n_ ih =>
    intro x1 x2 x4 H locs ls hP hD hS hl hF
    rw [L_X11_isFit_5] at hF
    refine lv_iload hx hb dX11_isFit_5 (lv_at hl 3 rfl) ?_
    refine lv_iload_n hx hb dX11_isFit_7 rfl (lv_at hl 1 rfl) ?_
    refine lv_icmp_ge (tgt := 41) hx hb dX11_isFit_8 (by decide) (fun c_1 => ?_) (fun c_1 => ?_)
    · have hF := it_pos c_1 hF
      exact w_X11_isFit_41 C0 HR x1 x2 H locs ls hP hD hS (lv_sub hl [0, 1, 2] rfl) hF
    · have hF := it_neg c_1 hF
      refine lv_lload_n hx hb dX11_isFit_11 rfl (lv_at hl 2 rfl) ?_
      refine lv_lload_n hx hb dX11_isFit_12 rfl (lv_at hl 2 rfl) ?_
      refine lv_aload_n hx hb dX11_isFit_13 rfl (lv_at hl 0 rfl) ?_
      refine va_get (D := D) (ci := 10) (v := .ref (g_t 29)) (C := RX11) (T := TX11) (N := 30) hx hb hts iw_X11_isFit_X11 hown hK hP 0 rfl rfl 28 (by decide) (hts _ fl_X11_isFit_54) (fun _ h9 => h9) rfl dX11_isFit_14 ?_
      refine lv_iload hx hb dX11_isFit_17 (lv_at hl 3 rfl) ?_
      obtain ⟨hg_2, hF⟩ := gd_some hF
      refine xl_i (f := t_chosen) hx hb hK hP 2 0 rfl rfl rfl (in_v hg_2) dX11_isFit_19 ?_
      refine lv_i2l hx hb dX11_isFit_20 rfl ?_
      obtain ⟨r_3, hc_4, hF⟩ := bn_some hF
      refine xc_l (wn := (w_X11_isFit K g_t t_raised t_undos t_reached t_length t_begin t_sort t_value t_word t_wrongAt t_badAt t_bad t_read t_pictured t_x t_all t_chosen)) hP hD hS C0.2.2.1 [] [0, 1, 2] [0, 1, 2] rfl rfl (by decide) (by decide) rfl (by decide) (va_runS (As := [.long x2, .long (((t_chosen (x4).toNatClampNeg)).toInt64)]) (rest := [.long x2]) C0.1 (c_X11_measure l D K x2 (((t_chosen (x4).toNatClampNeg)).toInt64) r_3 hc_4 H.size) (va_cwS 2 hts gX11_isFit_X11_measure rfl rfl rfl (by decide +kernel) ⟨Nat.le_of_ble_eq_true rfl, Nat.le_of_ble_eq_true rfl⟩) (xp_S C0.2 hP hD hS [] rfl (by decide)) rfl rfl hl.1 rfl (lv_room (Nat.le_of_ble_eq_true rfl)) dX11_isFit_21 ⟨Nat.le_of_ble_eq_true rfl, Nat.le_of_ble_eq_true rfl⟩) (fun H locs hP hD hS => ?_)
      obtain ⟨hg_5, hF⟩ := gd_some hF
      refine lv_ldiv hx hb dX11_isFit_24 (nl_of hg_5) ?_
      refine lv_aload_n hx hb dX11_isFit_25 rfl (lv_at hl 0 rfl) ?_
      refine va_get (D := D) (ci := 10) (v := .ref (g_t 29)) (C := RX11) (T := TX11) (N := 30) hx hb hts iw_X11_isFit_X11 hown hK hP 0 rfl rfl 28 (by decide) (hts _ fl_X11_isFit_54) (fun _ h9 => h9) rfl dX11_isFit_26 ?_
      refine lv_iload hx hb dX11_isFit_29 (lv_at hl 3 rfl) ?_
      obtain ⟨hg_6, hF⟩ := gd_some hF
      refine xl_i (f := t_chosen) hx hb hK hP 2 0 rfl rfl rfl (in_v hg_6) dX11_isFit_31 ?_
      refine lv_i2l hx hb dX11_isFit_32 rfl ?_
      refine lv_lmul hx hb dX11_isFit_33 ?_
      refine lv_lstore_n (lv' := [(2, .long ((x2 / r_3) * ((t_chosen (x4).toNatClampNeg)).toInt64)), (0, .ref (g_t 0)), (1, .int x1), (4, .int x4)]) hx hb dX11_isFit_34 rfl hl (by decide) rfl (fun ls hl => ?_)
      refine lv_iinc (v := (x4 + (1 : Int32))) (lv' := [(4, .int (x4 + (1 : Int32))), (2, .long ((x2 / r_3) * ((t_chosen (x4).toNatClampNeg)).toInt64)), (0, .ref (g_t 0)), (1, .int x1)]) hx hb dX11_isFit_35 hl (k := 3) rfl (congrArg (fun z => x4 + z) (by decide)) (by decide) rfl (fun ls hl => ?_)
      refine lv_goto (tgt := 5) hx hb dX11_isFit_38 (by decide) ?_
      exact ih x1 ((x2 / r_3) * ((t_chosen (x4).toNatClampNeg)).toInt64) (x4 + (1 : Int32)) H locs ls hP hD hS (lv_sub hl [2, 3, 1, 0] rfl) hF
def F_X11_isFit (t_all : Nat → Int32) (t_chosen : Nat → Int32) (x1 : Int32) : Option (Int32) :=
  L_X11_isFit_5 t_all t_chosen fu_ x1 (1 : Int64) (0 : Int32)
set_option maxHeartbeats 4000000 in
set_option maxRecDepth 100000 in
theorem c_X11_isFit (l : Launch) (D : va_G) (K : Nat → ClassId) (g_t : Nat → Nat) (t_raised : Int32) (t_undos : Int32) (t_reached : Int32) (t_length : Int32) (t_begin : Int32) (t_sort : Int32) (t_value : Int32) (t_word : Int64) (t_wrongAt : Int32) (t_badAt : Int32) (t_bad : Int32) (t_read : Int32) (t_pictured : Int32) (t_x : Int32) (t_all : Nat → Int32) (t_chosen : Nat → Int32) (x1 : Int32) (res : Int32) (hF : F_X11_isFit t_all t_chosen x1 = some res) :
    Mi_ l yX11_isFit wsX11_isFit rmX11_isFit D K [.ref (g_t 0), .int x1] (w_X11_isFit K g_t t_raised t_undos t_reached t_length t_begin t_sort t_value t_word t_wrongAt t_badAt t_bad t_read t_pictured t_x t_all t_chosen) (w_X11_isFit K g_t t_raised t_undos t_reached t_length t_begin t_sort t_value t_word t_wrongAt t_badAt t_bad t_read t_pictured t_x t_all t_chosen) (res) := by
  refine en_z (cc := cX11_isFit) (maxL := 9) (own := RX11) (by decide) rfl rfl (Nat.le_of_ble_eq_true rfl) ?_
  intro p e s m args below meth c A Q H locs ls C0 hP hD hS hl HR
  obtain ⟨⟨hx, hb, hml, hown, hts⟩, hK, -⟩ := id C0
  have hl : lv_has ls 9 [(0, .ref (g_t 0)), (1, .int x1)] := hl
  unfold F_X11_isFit at hF
  refine lv_lconst (v := 1) hx hb dX11_isFit_0 (by decide) ?_
  refine lv_lstore_n (lv' := [(2, .long (1 : Int64)), (0, .ref (g_t 0)), (1, .int x1)]) hx hb dX11_isFit_1 rfl hl (by decide) rfl (fun ls hl => ?_)
  refine lv_iconst (v := 0) hx hb dX11_isFit_2 (by decide) ?_
  refine lv_istore (lv' := [(4, .int (0 : Int32)), (2, .long (1 : Int64)), (0, .ref (g_t 0)), (1, .int x1)]) hx hb dX11_isFit_3 hl (by decide) rfl (fun ls hl => ?_)
  exact w_X11_isFit_5 C0 HR fu_ x1 (1 : Int64) (0 : Int32) H locs ls hP hD hS (lv_sub hl [2, 3, 1, 0] rfl) hF
