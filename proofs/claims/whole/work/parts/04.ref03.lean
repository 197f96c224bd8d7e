/-! StaggerRadarModel.isEcho(II)Z -/
abbrev rmX11_isEcho : Room := { frames := 0, cells := 0, slots := 0, locals := 0 }
theorem fl_X11_isEcho_7 : Cond.fieldLink RX11 7 "StaggerRadarModel" "all" "[I" ∈ wsX11_isEcho := by decide +kernel
theorem fl_X11_isEcho_27 : Cond.fieldLink RX11 27 "StaggerRadarModel" "loud" "[I" ∈ wsX11_isEcho := by decide +kernel
theorem iw_X11_isEcho_X11 : ∀ w ∈ u_ws RX11 TX11 30, w ∈ wsX11_isEcho := by decide +kernel
abbrev w_X11_isEcho (K : Nat → ClassId) (g_t : Nat → Nat) (t_raised : Int32) (t_undos : Int32) (t_reached : Int32) (t_length : Int32) (t_begin : Int32) (t_sort : Int32) (t_value : Int32) (t_word : Int64) (t_wrongAt : Int32) (t_badAt : Int32) (t_bad : Int32) (t_read : Int32) (t_pictured : Int32) (t_x : Int32) (t_all : Nat → Int32) (t_loud : Nat → Int32) : va_W := [((g_t 0), .inr (10, [.int t_raised, .ref (g_t 2), .ref (g_t 3), .ref (g_t 4), .ref (g_t 5), .int t_undos, .int t_reached, .int t_length, .int t_begin, .int t_sort, .int t_value, .long t_word, .int t_wrongAt, .int t_badAt, .int t_bad, .ref (g_t 16), .int t_read, .ref (g_t 18), .ref (g_t 19), .ref (g_t 20), .int t_pictured, .ref (g_t 22), .ref (g_t 23), .ref (g_t 24), .ref (g_t 25), .ref (g_t 26), .int t_x, .ref (g_t 28), .ref (g_t 29), .ref (g_t 30)])), ((g_t 2), .inl (K 0, 500, .inl t_all)), ((g_t 18), .inl (K 0, 300, .inl t_loud))]
def F_X11_isEcho (t_all : Nat → Int32) (t_loud : Nat → Int32) (x1 : Int32) (x2 : Int32) : Option (Int32) :=
  gd_ (in_b (((60 : Int32) * x1) + x2) 300) (if (t_loud (((60 : Int32) * x1) + x2).toNatClampNeg) < (t_all 12) then (some (0 : Int32)) else (some (1 : Int32)))
set_option maxHeartbeats 4000000 in
set_option maxRecDepth 100000 in
theorem c_X11_isEcho (l : Launch) (D : va_G) (K : Nat → ClassId) (g_t : Nat → Nat) (t_raised : Int32) (t_undos : Int32) (t_reached : Int32) (t_length : Int32) (t_begin : Int32) (t_sort : Int32) (t_value : Int32) (t_word : Int64) (t_wrongAt : Int32) (t_badAt : Int32) (t_bad : Int32) (t_read : Int32) (t_pictured : Int32) (t_x : Int32) (t_all : Nat → Int32) (t_loud : Nat → Int32) (x1 : Int32) (x2 : Int32) (res : Int32) (hF : F_X11_isEcho t_all t_loud x1 x2 = some res) :
    Mi_ l yX11_isEcho wsX11_isEcho rmX11_isEcho D K [.ref (g_t 0), .int x1, .int x2] (w_X11_isEcho K g_t t_raised t_undos t_reached t_length t_begin t_sort t_value t_word t_wrongAt t_badAt t_bad t_read t_pictured t_x t_all t_loud) (w_X11_isEcho K g_t t_raised t_undos t_reached t_length t_begin t_sort t_value t_word t_wrongAt t_badAt t_bad t_read t_pictured t_x t_all t_loud) (res) := by
  refine en_z (cc := cX11_isEcho) (maxL := 3) (own := RX11) (by decide) rfl rfl (Nat.le_of_ble_eq_true rfl) ?_
  intro p e s m args below meth c A Q H locs ls C0 hP hD hS hl HR
  obtain ⟨⟨hx, hb, hml, hown, hts⟩, hK, -⟩ := id C0
  have hl : lv_has ls 3 [(0, .ref (g_t 0)), (1, .int x1), (2, .int x2)] := hl
  unfold F_X11_isEcho at hF
  refine lv_aload_n hx hb dX11_isEcho_0 rfl (lv_at hl 0 rfl) ?_
  refine va_get (D := D) (ci := 10) (v := .ref (g_t 18)) (C := RX11) (T := TX11) (N := 30) hx hb hts iw_X11_isEcho_X11 hown hK hP 0 rfl rfl 17 (by decide) (hts _ fl_X11_isEcho_27) (fun _ h9 => h9) rfl dX11_isEcho_1 ?_
  refine lv_bipush (v := 60) hx hb dX11_isEcho_4 (by decide) ?_
  refine lv_iload_n hx hb dX11_isEcho_6 rfl (lv_at hl 1 rfl) ?_
  refine lv_imul hx hb dX11_isEcho_7 ?_
  refine lv_iload_n hx hb dX11_isEcho_8 rfl (lv_at hl 2 rfl) ?_
  refine lv_iadd hx hb dX11_isEcho_9 ?_
  obtain ⟨hg_1, hF⟩ := gd_some hF
  refine xl_i (f := t_loud) hx hb hK hP 2 0 rfl rfl rfl (in_v hg_1) dX11_isEcho_10 ?_
  refine lv_aload_n hx hb dX11_isEcho_11 rfl (lv_at hl 0 rfl) ?_
  refine va_get (D := D) (ci := 10) (v := .ref (g_t 2)) (C := RX11) (T := TX11) (N := 30) hx hb hts iw_X11_isEcho_X11 hown hK hP 0 rfl rfl 1 (by decide) (hts _ fl_X11_isEcho_7) (fun _ h9 => h9) rfl dX11_isEcho_12 ?_
  refine lv_bipush (v := 12) hx hb dX11_isEcho_15 (by decide) ?_
  refine xl_i (f := t_all) hx hb hK hP 1 0 rfl rfl (k := 12) (by decide) (in_v (by decide)) dX11_isEcho_17 ?_
  refine lv_icmp_lt (tgt := 25) hx hb dX11_isEcho_18 (by decide) (fun c_2 => ?_) (fun c_2 => ?_)
  · have hF := it_pos c_2 hF
    refine lv_iconst (v := 0) hx hb dX11_isEcho_25 (by decide) ?_
    obtain rfl := Option.some.inj hF
    exact HR 26 H locs ls dX11_isEcho_26 narrow_b0 hP hD hS
  · have hF := it_neg c_2 hF
    refine lv_iconst (v := 1) hx hb dX11_isEcho_21 (by decide) ?_
    refine lv_goto (tgt := 26) hx hb dX11_isEcho_22 (by decide) ?_
    obtain rfl := Option.some.inj hF
    exact HR 26 H locs ls dX11_isEcho_26 narrow_b1 hP hD hS

/-! StaggerRadarModel.hitBits(I)I -/
abbrev rmX11_hitBits : Room := { frames := 1, cells := 0, slots := 0, locals := 22 }
theorem fl_X11_hitBits_7 : Cond.fieldLink RX11 7 "StaggerRadarModel" "all" "[I" ∈ wsX11_hitBits := by decide +kernel
theorem iw_X11_hitBits_X11 : ∀ w ∈ u_ws RX11 TX11 30, w ∈ wsX11_hitBits := by decide +kernel
abbrev w_X11_hitBits (K : Nat → ClassId) (g_t : Nat → Nat) (t_raised : Int32) (t_undos : Int32) (t_reached : Int32) (t_length : Int32) (t_begin : Int32) (t_sort : Int32) (t_value : Int32) (t_word : Int64) (t_wrongAt : Int32) (t_badAt : Int32) (t_bad : Int32) (t_read : Int32) (t_pictured : Int32) (t_x : Int32) (t_all : Nat → Int32) (t_loud : Nat → Int32) : va_W := [((g_t 0), .inr (10, [.int t_raised, .ref (g_t 2), .ref (g_t 3), .ref (g_t 4), .ref (g_t 5), .int t_undos, .int t_reached, .int t_length, .int t_begin, .int t_sort, .int t_value, .long t_word, .int t_wrongAt, .int t_badAt, .int t_bad, .ref (g_t 16), .int t_read, .ref (g_t 18), .ref (g_t 19), .ref (g_t 20), .int t_pictured, .ref (g_t 22), .ref (g_t 23), .ref (g_t 24), .ref (g_t 25), .ref (g_t 26), .int t_x, .ref (g_t 28), .ref (g_t 29), .ref (g_t 30)])), ((g_t 2), .inl (K 0, 500, .inl t_all)), ((g_t 18), .inl (K 0, 300, .inl t_loud))]
def L_X11_hitBits_4 (t_all : Nat → Int32) (t_loud : Nat → Int32) : Nat → Int32 → Int32 → Int32 → Option (Int32)
  | 0, _, _, _ => none
  | n_ + 1, x1, x2, x3 =>
    if (t_all 0) ≤ x3 then (some x2) else ((F_X11_gapAt t_all x3).bind fun r_2 => (gd_ (decide (¬ r_2 = 0)) ((F_X11_isEcho t_all t_loud x3 (x1 - x1 / r_2 * r_2)).bind fun r_5 => (if r_5 = (0 : Int32) then (L_X11_hitBits_4 t_all t_loud n_ x1 (x2 ||| (0 : Int32)) (x3 + (1 : Int32))) else (L_X11_hitBits_4 t_all t_loud n_ x1 (x2 ||| ((1 : Int32) <<< (x3 &&& 31))) (x3 + (1 : Int32)))))))
set_option maxHeartbeats 4000000 in
set_option maxRecDepth 100000 in
theorem w_X11_hitBits_4 {p : Program} {l : Launch} {e : Env} {s : State} {m : MethodId} {args : Array Value} {below : List Frame} {meth : Method} {c : Code} {D : va_G} {K : Nat → ClassId} {A : Nat → Prop} {Q : State → Prop} (C0 : cx_ p s m args c cX11_hitBits 4 RX11 wsX11_hitBits D K A) {g_t : Nat → Nat} {t_raised : Int32} {t_undos : Int32} {t_reached : Int32} {t_length : Int32} {t_begin : Int32} {t_sort : Int32} {t_value : Int32} {t_word : Int64} {t_wrongAt : Int32} {t_badAt : Int32} {t_bad : Int32} {t_read : Int32} {t_pictured : Int32} {t_x : Int32} {t_all : Nat → Int32} {t_loud : Nat → Int32} {res : Int32} (HR : ∀ (pc : Nat) (H : Heap) (locs : List Loc) (ls : Array Slot), decode cX11_hitBits pc = .ok (.ireturn, 1) → va_P D vwCl (w_X11_hitBits K g_t t_raised t_undos t_reached t_length t_begin t_sort t_value t_word t_wrongAt t_badAt t_bad t_read t_pictured t_x t_all t_loud) H → va_D A (w_X11_hitBits K g_t t_raised t_undos t_reached t_length t_begin t_sort t_value t_word t_wrongAt t_badAt t_bad t_read t_pictured t_x t_all t_loud) → va_S A s.heap H locs → W p l e rmX11_hitBits s m args below meth c H locs 0 0 Q (F0 m pc ls [.int res]))  :
    ∀ (n_ : Nat) (x1 : Int32) (x2 : Int32) (x3 : Int32) (H : Heap) (locs : List Loc) (ls : Array Slot), va_P D vwCl (w_X11_hitBits K g_t t_raised t_undos t_reached t_length t_begin t_sort t_value t_word t_wrongAt t_badAt t_bad t_read t_pictured t_x t_all t_loud) H → va_D A (w_X11_hitBits K g_t t_raised t_undos t_reached t_length t_begin t_sort t_value t_word t_wrongAt t_badAt t_bad t_read t_pictured t_x t_all t_loud) → va_S A s.heap H locs → lv_has ls 4 [(0, .ref (g_t 0)), (1, .int x1), (2, .int x2), (3, .int x3)] → L_X11_hitBits_4 t_all t_loud n_ x1 x2 x3 = some res → W p l e rmX11_hitBits s m args below meth c H locs 0 0 Q (F0 m 4 ls []) := by
  obtain ⟨⟨hx, hb, hml, hown, hts⟩, hK, -⟩ := id C0
  intro n_
  induction n_ with
  | zero =>
    intro x1 x2 x3 H locs ls hP hD hS hl hF
    exact no_s (show (none : Option (Int32)) = some res from hF)
  | succ n_ ih =>
    intro x1 x2 x3 H locs ls hP hD hS hl hF
    rw [L_X11_hitBits_4] at hF
    refine lv_iload_n hx hb dX11_hitBits_4 rfl (lv_at hl 3 rfl) ?_
    refine lv_aload_n hx hb dX11_hitBits_5 rfl (lv_at hl 0 rfl) ?_
    refine va_get (D := D) (ci := 10) (v := .ref (g_t 2)) (C := RX11) (T := TX11) (N := 30) hx hb hts iw_X11_hitBits_X11 hown hK hP 0 rfl rfl 1 (by decide) (hts _ fl_X11_hitBits_7) (fun _ h9 => h9) rfl dX11_hitBits_6 ?_
    refine lv_iconst (v := 0) hx hb dX11_hitBits_9 (by decide) ?_
    refine xl_i (f := t_all) hx hb hK hP 1 0 rfl rfl (k := 0) (by decide) (in_v (by decide)) dX11_hitBits_10 ?_
    refine lv_icmp_ge (tgt := 45) hx hb dX11_hitBits_11 (by decide) (fun c_1 => ?_) (fun c_1 => ?_)
    · have hF := it_pos c_1 hF
      refine lv_iload_n hx hb dX11_hitBits_45 rfl (lv_at hl 2 rfl) ?_
      obtain rfl := Option.some.inj hF
      exact HR 46 H locs ls dX11_hitBits_46 hP hD hS
    · have hF := it_neg c_1 hF
      refine lv_iload_n hx hb dX11_hitBits_14 rfl (lv_at hl 2 rfl) ?_
      refine lv_aload_n hx hb dX11_hitBits_15 rfl (lv_at hl 0 rfl) ?_
      refine lv_iload_n hx hb dX11_hitBits_16 rfl (lv_at hl 3 rfl) ?_
      refine lv_iload_n hx hb dX11_hitBits_17 rfl (lv_at hl 1 rfl) ?_
      refine lv_aload_n hx hb dX11_hitBits_18 rfl (lv_at hl 0 rfl) ?_
      refine lv_iload_n hx hb dX11_hitBits_19 rfl (lv_at hl 3 rfl) ?_
      obtain ⟨r_2, hc_3, hF⟩ := bn_some hF
      refine xc_i (wn := (w_X11_hitBits K g_t t_raised t_undos t_reached t_length t_begin t_sort t_value t_word t_wrongAt t_badAt t_bad t_read t_pictured t_x t_all t_loud)) hP hD hS C0.2.2.1 [0, 1] [2] [1, 2, 0] rfl rfl (by decide) (by decide) rfl (by decide) (va_runV (As := [.int x3]) (rest := [.int x1, .int x3, .ref (g_t 0), .int x2]) C0.1 (c_X11_gapAt l D K g_t t_raised t_undos t_reached t_length t_begin t_sort t_value t_word t_wrongAt t_badAt t_bad t_read t_pictured t_x t_all x3 r_2 hc_3 H.size) (cwV 1 hts gX11_hitBits_X11_gapAt rfl rfl rfl (by decide +kernel) ⟨Nat.le_of_ble_eq_true rfl, Nat.le_of_ble_eq_true rfl⟩) (xp_V C0.2 hP hD hS [0, 1] rfl (by decide) 10 0 rfl rfl rfl) rfl rfl hl.1 rfl (lv_room (Nat.le_of_ble_eq_true rfl)) dX11_hitBits_20 ⟨Nat.le_of_ble_eq_true rfl, Nat.le_of_ble_eq_true rfl⟩) (fun H locs hP hD hS => ?_)
      obtain ⟨hg_4, hF⟩ := gd_some hF
      refine lv_irem hx hb dX11_hitBits_23 (ne_of hg_4) ?_
      obtain ⟨r_5, hc_6, hF⟩ := bn_some hF
      refine xc_i (wn := (w_X11_hitBits K g_t t_raised t_undos t_reached t_length t_begin t_sort t_value t_word t_wrongAt t_badAt t_bad t_read t_pictured t_x t_all t_loud)) hP hD hS C0.2.2.1 [0, 1, 2] [] [0, 1, 2] rfl rfl (by decide) (by decide) rfl (by decide) (va_runV (As := [.int x3, .int (x1 - x1 / r_2 * r_2)]) (rest := [.int x2]) C0.1 (c_X11_isEcho l D K g_t t_raised t_undos t_reached t_length t_begin t_sort t_value t_word t_wrongAt t_badAt t_bad t_read t_pictured t_x t_all t_loud x3 (x1 - x1 / r_2 * r_2) r_5 hc_6 H.size) (cwV 2 hts gX11_hitBits_X11_isEcho rfl rfl rfl (by decide +kernel) ⟨Nat.le_of_ble_eq_true rfl, Nat.le_of_ble_eq_true rfl⟩) (xp_V C0.2 hP hD hS [0, 1, 2] rfl (by decide) 10 0 rfl rfl rfl) rfl rfl hl.1 rfl (lv_room (Nat.le_of_ble_eq_true rfl)) dX11_hitBits_24 ⟨Nat.le_of_ble_eq_true rfl, Nat.le_of_ble_eq_true rfl⟩) (fun H locs hP hD hS => ?_)
      refine lv_if_eq (tgt := 36) hx hb dX11_hitBits_27 (by decide) (fun c_7 => ?_) (fun c_7 => ?_)
      · have hF := it_pos c_7 hF
        refine lv_iconst (v := 0) hx hb dX11_hitBits_36 (by decide) ?_
        refine lv_ior hx hb dX11_hitBits_37 ?_
        refine lv_istore_n (lv' := [(2, .int (x2 ||| (0 : Int32))), (0, .ref (g_t 0)), (1, .int x1), (3, .int x3)]) hx hb dX11_hitBits_38 rfl hl (by decide) rfl (fun ls hl => ?_)
        refine lv_iinc (v := (x3 + (1 : Int32))) (lv' := [(3, .int (x3 + (1 : Int32))), (2, .int (x2 ||| (0 : Int32))), (0, .ref (g_t 0)), (1, .int x1)]) hx hb dX11_hitBits_39 hl (k := 3) rfl (congrArg (fun z => x3 + z) (by decide)) (by decide) rfl (fun ls hl => ?_)
        refine lv_goto (tgt := 4) hx hb dX11_hitBits_42 (by decide) ?_
        exact ih x1 (x2 ||| (0 : Int32)) (x3 + (1 : Int32)) H locs ls hP hD hS (lv_sub hl [2, 3, 1, 0] rfl) hF
      · have hF := it_neg c_7 hF
        refine lv_iconst (v := 1) hx hb dX11_hitBits_30 (by decide) ?_
        refine lv_iload_n hx hb dX11_hitBits_31 rfl (lv_at hl 3 rfl) ?_
        refine lv_ishl hx hb dX11_hitBits_32 ?_
        refine lv_goto (tgt := 37) hx hb dX11_hitBits_33 (by decide) ?_
        refine lv_ior hx hb dX11_hitBits_37 ?_
        refine lv_istore_n (lv' := [(2, .int (x2 ||| ((1 : Int32) <<< (x3 &&& 31)))), (0, .ref (g_t 0)), (1, .int x1), (3, .int x3)]) hx hb dX11_hitBits_38 rfl hl (by decide) rfl (fun ls hl => ?_)
        refine lv_iinc (v := (x3 + (1 : Int32))) (lv' := [(3, .int (x3 + (1 : Int32))), (2, .int (x2 ||| ((1 : Int32) <<< (x3 &&& 31)))), (0, .ref (g_t 0)), (1, .int x1)]) hx hb dX11_hitBits_39 hl (k := 3) rfl (congrArg (fun z => x3 + z) (by decide)) (by decide) rfl (fun ls hl => ?_)
        refine lv_goto (tgt := 4) hx hb dX11_hitBits_42 (by decide) ?_
        exact ih x1 (x2 ||| ((1 : Int32) <<< (x3 &&& 31))) (x3 + (1 : Int32)) H locs ls hP hD hS (lv_sub hl [2, 3, 1, 0] rfl) hF
def F_X11_hitBits (t_all : Nat → Int32) (t_loud : Nat → Int32) (x1 : Int32) : Option (Int32) :=
  L_X11_hitBits_4 t_all t_loud fu_ x1 (0 : Int32) (0 : Int32)
set_option maxHeartbeats 4000000 in
set_option maxRecDepth 100000 in
theorem c_X11_hitBits (l : Launch) (D : va_G) (K : Nat → ClassId) (g_t : Nat → Nat) (t_raised : Int32) (t_undos : Int32) (t_reached : Int32) (t_length : Int32) (t_begin : Int32) (t_sort : Int32) (t_value : Int32) (t_word : Int64) (t_wrongAt : Int32) (t_badAt : Int32) (t_bad : Int32) (t_read : Int32) (t_pictured : Int32) (t_x : Int32) (t_all : Nat → Int32) (t_loud : Nat → Int32) (x1 : Int32) (res : Int32) (hF : F_X11_hitBits t_all t_loud x1 = some res) :
    Mi_ l yX11_hitBits wsX11_hitBits rmX11_hitBits D K [.ref (g_t 0), .int x1] (w_X11_hitBits K g_t t_raised t_undos t_reached t_length t_begin t_sort t_value t_word t_wrongAt t_badAt t_bad t_read t_pictured t_x t_all t_loud) (w_X11_hitBits K g_t t_raised t_undos t_reached t_length t_begin t_sort t_value t_word t_wrongAt t_badAt t_bad t_read t_pictured t_x t_all t_loud) (res) := by
  refine en_i (cc := cX11_hitBits) (maxL := 4) (own := RX11) (by decide) rfl rfl (Nat.le_of_ble_eq_true rfl) ?_
  intro p e s m args below meth c A Q H locs ls C0 hP hD hS hl HR
  obtain ⟨⟨hx, hb, hml, hown, hts⟩, hK, -⟩ := id C0
  have hl : lv_has ls 4 [(0, .ref (g_t 0)), (1, .int x1)] := hl
  unfold F_X11_hitBits at hF
  refine lv_iconst (v := 0) hx hb dX11_hitBits_0 (by decide) ?_
  refine lv_istore_n (lv' := [(2, .int (0 : Int32)), (0, .ref (g_t 0)), (1, .int x1)]) hx hb dX11_hitBits_1 rfl hl (by decide) rfl (fun ls hl => ?_)
  refine lv_iconst (v := 0) hx hb dX11_hitBits_2 (by decide) ?_
  refine lv_istore_n (lv' := [(3, .int (0 : Int32)), (2, .int (0 : Int32)), (0, .ref (g_t 0)), (1, .int x1)]) hx hb dX11_hitBits_3 rfl hl (by decide) rfl (fun ls hl => ?_)
  exact w_X11_hitBits_4 C0 HR fu_ x1 (0 : Int32) (0 : Int32) H locs ls hP hD hS (lv_sub hl [2, 3, 1, 0] rfl) hF

/-! StaggerRadarModel.ones(I)I -/
abbrev rmX11_ones : Room := { frames := 0, cells := 0, slots := 0, locals := 0 }
abbrev w_X11_ones (K : Nat → ClassId) : va_W := []
def L_X11_ones_4  : Nat → Int32 → Int32 → Int32 → Option (Int32)
  | 0, _, _, _ => none
  | n_ + 1, x0, x1, x2 =>
    if (8 : Int32) ≤ x2 then (some x1) else (L_X11_ones_4 n_ x0 (x1 + ((x0 >>> (x2 &&& 31)) &&& (1 : Int32))) (x2 + (1 : Int32)))
set_option maxHeartbeats 4000000 in
set_option maxRecDepth 100000 in
theorem w_X11_ones_4 {p : Program} {l : Launch} {e : Env} {s : State} {m : MethodId} {args : Array Value} {below : List Frame} {meth : Method} {c : Code} {D : va_G} {K : Nat → ClassId} {A : Nat → Prop} {Q : State → Prop} (C0 : cx_ p s m args c cX11_ones 3 RX11 wsX11_ones D K A)   {res : Int32} (HR : ∀ (pc : Nat) (H : Heap) (locs : List Loc) (ls : Array Slot), decode cX11_ones pc = .ok (.ireturn, 1) → va_P D vwCl (w_X11_ones K) H → va_D A (w_X11_ones K) → va_S A s.heap H locs → W p l e rmX11_ones s m args below meth c H locs 0 0 Q (F0 m pc ls [.int res]))  :
    ∀ (n_ : Nat) (x0 : Int32) (x1 : Int32) (x2 : Int32) (H : Heap) (locs : List Loc) (ls : Array Slot), va_P D vwCl (w_X11_ones K) H → va_D A (w_X11_ones K) → va_S A s.heap H locs → lv_has ls 3 [(0, .int x0), (1, .int x1), (2, .int x2)] → L_X11_ones_4 n_ x0 x1 x2 = some res → W p l e rmX11_ones s m args below meth c H locs 0 0 Q (F0 m 4 ls []) := by
  obtain ⟨⟨hx, hb, hml, hown, hts⟩, hK, -⟩ := id C0
  intro n_
  induction n_ with
  | zero =>
    intro x0 x1 x2 H locs ls hP hD hS hl hF
    exact no_s (show (none : Option (Int32)) = some res from hF)
  | succ n_ ih =>
    intro x0 x1 x2 H locs ls hP hD hS hl hF
    rw [L_X11_ones_4] at hF
    refine lv_iload_n hx hb dX11_ones_4 rfl (lv_at hl 2 rfl) ?_
    refine lv_bipush (v := 8) hx hb dX11_ones_5 (by decide) ?_
    refine lv_icmp_ge (tgt := 24) hx hb dX11_ones_7 (by decide) (fun c_1 => ?_) (fun c_1 => ?_)
    · have hF := it_pos c_1 hF
      refine lv_iload_n hx hb dX11_ones_24 rfl (lv_at hl 1 rfl) ?_
      obtain rfl := Option.some.inj hF
      exact HR 25 H locs ls dX11_ones_25 hP hD hS
    · have hF := it_neg c_1 hF
      refine lv_iload_n hx hb dX11_ones_10 rfl (lv_at hl 1 rfl) ?_
      refine lv_iload_n hx hb dX11_ones_11 rfl (lv_at hl 0 rfl) ?_
      refine lv_iload_n hx hb dX11_ones_12 rfl (lv_at hl 2 rfl) ?_
      refine lv_ishr hx hb dX11_ones_13 ?_
      refine lv_iconst (v := 1) hx hb dX11_ones_14 (by decide) ?_
      refine lv_iand hx hb dX11_ones_15 ?_
      refine lv_iadd hx hb dX11_ones_16 ?_
      refine lv_istore_n (lv' := [(1, .int (x1 + ((x0 >>> (x2 &&& 31)) &&& (1 : Int32)))), (0, .int x0), (2, .int x2)]) hx hb dX11_ones_17 rfl hl (by decide) rfl (fun ls hl => ?_)
      refine lv_iinc (v := (x2 + (1 : Int32))) (lv' := [(2, .int (x2 + (1 : Int32))), (1, .int (x1 + ((x0 >>> (x2 &&& 31)) &&& (1 : Int32)))), (0, .int x0)]) hx hb dX11_ones_18 hl (k := 2) rfl (congrArg (fun z => x2 + z) (by decide)) (by decide) rfl (fun ls hl => ?_)
      refine lv_goto (tgt := 4) hx hb dX11_ones_21 (by decide) ?_
      exact ih x0 (x1 + ((x0 >>> (x2 &&& 31)) &&& (1 : Int32))) (x2 + (1 : Int32)) H locs ls hP hD hS (lv_sub hl [2, 1, 0] rfl) hF
def F_X11_ones (x0 : Int32) : Option (Int32) :=
  L_X11_ones_4 fu_ x0 (0 : Int32) (0 : Int32)
set_option maxHeartbeats 4000000 in
set_option maxRecDepth 100000 in
theorem c_X11_ones (l : Launch) (D : va_G) (K : Nat → ClassId) (x0 : Int32) (res : Int32) (hF : F_X11_ones x0 = some res) :
    Mi_ l yX11_ones wsX11_ones rmX11_ones D K [.int x0] (w_X11_ones K) (w_X11_ones K) (res) := by
  refine en_i (cc := cX11_ones) (maxL := 3) (own := RX11) (by decide) rfl rfl (Nat.le_of_ble_eq_true rfl) ?_
  intro p e s m args below meth c A Q H locs ls C0 hP hD hS hl HR
  obtain ⟨⟨hx, hb, hml, hown, hts⟩, hK, -⟩ := id C0
  have hl : lv_has ls 3 [(0, .int x0)] := hl
  unfold F_X11_ones at hF
  refine lv_iconst (v := 0) hx hb dX11_ones_0 (by decide) ?_
  refine lv_istore_n (lv' := [(1, .int (0 : Int32)), (0, .int x0)]) hx hb dX11_ones_1 rfl hl (by decide) rfl (fun ls hl => ?_)
  refine lv_iconst (v := 0) hx hb dX11_ones_2 (by decide) ?_
  refine lv_istore_n (lv' := [(2, .int (0 : Int32)), (1, .int (0 : Int32)), (0, .int x0)]) hx hb dX11_ones_3 rfl hl (by decide) rfl (fun ls hl => ?_)
  exact w_X11_ones_4 C0 HR fu_ x0 (0 : Int32) (0 : Int32) H locs ls hP hD hS (lv_sub hl [2, 1, 0] rfl) hF

/-! StaggerRadarModel.isFound(I)Z -/
abbrev rmX11_isFound : Room := { frames := 2, cells := 0, slots := 0, locals := 45 }
theorem fl_X11_isFound_7 : Cond.fieldLink RX11 7 "StaggerRadarModel" "all" "[I" ∈ wsX11_isFound := by decide +kernel
theorem iw_X11_isFound_X11 : ∀ w ∈ u_ws RX11 TX11 30, w ∈ wsX11_isFound := by decide +kernel
abbrev w_X11_isFound (K : Nat → ClassId) (g_t : Nat → Nat) (t_raised : Int32) (t_undos : Int32) (t_reached : Int32) (t_length : Int32) (t_begin : Int32) (t_sort : Int32) (t_value : Int32) (t_word : Int64) (t_wrongAt : Int32) (t_badAt : Int32) (t_bad : Int32) (t_read : Int32) (t_pictured : Int32) (t_x : Int32) (t_all : Nat → Int32) (t_loud : Nat → Int32) : va_W := [((g_t 0), .inr (10, [.int t_raised, .ref (g_t 2), .ref (g_t 3), .ref (g_t 4), .ref (g_t 5), .int t_undos, .int t_reached, .int t_length, .int t_begin, .int t_sort, .int t_value, .long t_word, .int t_wrongAt, .int t_badAt, .int t_bad, .ref (g_t 16), .int t_read, .ref (g_t 18), .ref (g_t 19), .ref (g_t 20), .int t_pictured, .ref (g_t 22), .ref (g_t 23), .ref (g_t 24), .ref (g_t 25), .ref (g_t 26), .int t_x, .ref (g_t 28), .ref (g_t 29), .ref (g_t 30)])), ((g_t 2), .inl (K 0, 500, .inl t_all)), ((g_t 18), .inl (K 0, 300, .inl t_loud))]
def F_X11_isFound (t_all : Nat → Int32) (t_loud : Nat → Int32) (x1 : Int32) : Option (Int32) :=
  if (t_all 9) ≤ x1 then (some (0 : Int32)) else ((F_X11_hitBits t_all t_loud x1).bind fun r_2 => ((F_X11_ones r_2).bind fun r_4 => (if r_4 < (t_all 10) then (some (0 : Int32)) else (some (1 : Int32)))))
set_option maxHeartbeats 4000000 in
set_option maxRecDepth 100000 in
theorem c_X11_isFound (l : Launch) (D : va_G) (K : Nat → ClassId) (g_t : Nat → Nat) (t_raised : Int32) (t_undos : Int32) (t_reached : Int32) (t_length : Int32) (t_begin : Int32) (t_sort : Int32) (t_value : Int32) (t_word : Int64) (t_wrongAt : Int32) (t_badAt : Int32) (t_bad : Int32) (t_read : Int32) (t_pictured : Int32) (t_x : Int32) (t_all : Nat → Int32) (t_loud : Nat → Int32) (x1 : Int32) (res : Int32) (hF : F_X11_isFound t_all t_loud x1 = some res) :
    Mi_ l yX11_isFound wsX11_isFound rmX11_isFound D K [.ref (g_t 0), .int x1] (w_X11_isFound K g_t t_raised t_undos t_reached t_length t_begin t_sort t_value t_word t_wrongAt t_badAt t_bad t_read t_pictured t_x t_all t_loud) (w_X11_isFound K g_t t_raised t_undos t_reached t_length t_begin t_sort t_value t_word t_wrongAt t_badAt t_bad t_read t_pictured t_x t_all t_loud) (res) := by
  refine en_z (cc := cX11_isFound) (maxL := 2) (own := RX11) (by decide) rfl rfl (Nat.le_of_ble_eq_true rfl) ?_
  intro p e s m args below meth c A Q H locs ls C0 hP hD hS hl HR
  obtain ⟨⟨hx, hb, hml, hown, hts⟩, hK, -⟩ := id C0
  have hl : lv_has ls 2 [(0, .ref (g_t 0)), (1, .int x1)] := hl
  unfold F_X11_isFound at hF
  refine lv_iload_n hx hb dX11_isFound_0 rfl (lv_at hl 1 rfl) ?_
  refine lv_aload_n hx hb dX11_isFound_1 rfl (lv_at hl 0 rfl) ?_
  refine va_get (D := D) (ci := 10) (v := .ref (g_t 2)) (C := RX11) (T := TX11) (N := 30) hx hb hts iw_X11_isFound_X11 hown hK hP 0 rfl rfl 1 (by decide) (hts _ fl_X11_isFound_7) (fun _ h9 => h9) rfl dX11_isFound_2 ?_
  refine lv_bipush (v := 9) hx hb dX11_isFound_5 (by decide) ?_
  refine xl_i (f := t_all) hx hb hK hP 1 0 rfl rfl (k := 9) (by decide) (in_v (by decide)) dX11_isFound_7 ?_
  refine lv_icmp_ge (tgt := 33) hx hb dX11_isFound_8 (by decide) (fun c_1 => ?_) (fun c_1 => ?_)
  · have hF := it_pos c_1 hF
    refine lv_iconst (v := 0) hx hb dX11_isFound_33 (by decide) ?_
    obtain rfl := Option.some.inj hF
    exact HR 34 H locs ls dX11_isFound_34 narrow_b0 hP hD hS
  · have hF := it_neg c_1 hF
    refine lv_aload_n hx hb dX11_isFound_11 rfl (lv_at hl 0 rfl) ?_
    refine lv_iload_n hx hb dX11_isFound_12 rfl (lv_at hl 1 rfl) ?_
    obtain ⟨r_2, hc_3, hF⟩ := bn_some hF
    refine xc_i (wn := (w_X11_isFound K g_t t_raised t_undos t_reached t_length t_begin t_sort t_value t_word t_wrongAt t_badAt t_bad t_read t_pictured t_x t_all t_loud)) hP hD hS C0.2.2.1 [0, 1, 2] [] [0, 1, 2] rfl rfl (by decide) (by decide) rfl (by decide) (va_runV (As := [.int x1]) (rest := []) C0.1 (c_X11_hitBits l D K g_t t_raised t_undos t_reached t_length t_begin t_sort t_value t_word t_wrongAt t_badAt t_bad t_read t_pictured t_x t_all t_loud x1 r_2 hc_3 H.size) (cwV 1 hts gX11_isFound_X11_hitBits rfl rfl rfl (by decide +kernel) ⟨Nat.le_of_ble_eq_true rfl, Nat.le_of_ble_eq_true rfl⟩) (xp_V C0.2 hP hD hS [0, 1, 2] rfl (by decide) 10 0 rfl rfl rfl) rfl rfl hl.1 rfl (lv_room (Nat.le_of_ble_eq_true rfl)) dX11_isFound_13 ⟨Nat.le_of_ble_eq_true rfl, Nat.le_of_ble_eq_true rfl⟩) (fun H locs hP hD hS => ?_)
    obtain ⟨r_4, hc_5, hF⟩ := bn_some hF
    refine xc_i (wn := (w_X11_isFound K g_t t_raised t_undos t_reached t_length t_begin t_sort t_value t_word t_wrongAt t_badAt t_bad t_read t_pictured t_x t_all t_loud)) hP hD hS C0.2.2.1 [] [0, 1, 2] [0, 1, 2] rfl rfl (by decide) (by decide) rfl (by decide) (va_runS (As := [.int r_2]) (rest := []) C0.1 (c_X11_ones l D K r_2 r_4 hc_5 H.size) (va_cwS 1 hts gX11_isFound_X11_ones rfl rfl rfl (by decide +kernel) ⟨Nat.le_of_ble_eq_true rfl, Nat.le_of_ble_eq_true rfl⟩) (xp_S C0.2 hP hD hS [] rfl (by decide)) rfl rfl hl.1 rfl (lv_room (Nat.le_of_ble_eq_true rfl)) dX11_isFound_16 ⟨Nat.le_of_ble_eq_true rfl, Nat.le_of_ble_eq_true rfl⟩) (fun H locs hP hD hS => ?_)
    refine lv_aload_n hx hb dX11_isFound_19 rfl (lv_at hl 0 rfl) ?_
    refine va_get (D := D) (ci := 10) (v := .ref (g_t 2)) (C := RX11) (T := TX11) (N := 30) hx hb hts iw_X11_isFound_X11 hown hK hP 0 rfl rfl 1 (by decide) (hts _ fl_X11_isFound_7) (fun _ h9 => h9) rfl dX11_isFound_20 ?_
    refine lv_bipush (v := 10) hx hb dX11_isFound_23 (by decide) ?_
    refine xl_i (f := t_all) hx hb hK hP 1 0 rfl rfl (k := 10) (by decide) (in_v (by decide)) dX11_isFound_25 ?_
    refine lv_icmp_lt (tgt := 33) hx hb dX11_isFound_26 (by decide) (fun c_6 => ?_) (fun c_6 => ?_)
    · have hF := it_pos c_6 hF
      refine lv_iconst (v := 0) hx hb dX11_isFound_33 (by decide) ?_
      obtain rfl := Option.some.inj hF
      exact HR 34 H locs ls dX11_isFound_34 narrow_b0 hP hD hS
    · have hF := it_neg c_6 hF
      refine lv_iconst (v := 1) hx hb dX11_isFound_29 (by decide) ?_
      refine lv_goto (tgt := 34) hx hb dX11_isFound_30 (by decide) ?_
      obtain rfl := Option.some.inj hF
      exact HR 34 H locs ls dX11_isFound_34 narrow_b1 hP hD hS

/-! StaggerRadarModel.missedBits()I -/
abbrev rmX11_missedBits : Room := { frames := 3, cells := 0, slots := 0, locals := 66 }
theorem fl_X11_missedBits_7 : Cond.fieldLink RX11 7 "StaggerRadarModel" "all" "[I" ∈ wsX11_missedBits := by decide +kernel
theorem iw_X11_missedBits_X11 : ∀ w ∈ u_ws RX11 TX11 30, w ∈ wsX11_missedBits := by decide +kernel
abbrev w_X11_missedBits (K : Nat → ClassId) (g_t : Nat → Nat) (t_raised : Int32) (t_undos : Int32) (t_reached : Int32) (t_length : Int32) (t_begin : Int32) (t_sort : Int32) (t_value : Int32) (t_word : Int64) (t_wrongAt : Int32) (t_badAt : Int32) (t_bad : Int32) (t_read : Int32) (t_pictured : Int32) (t_x : Int32) (t_all : Nat → Int32) (t_loud : Nat → Int32) : va_W := [((g_t 0), .inr (10, [.int t_raised, .ref (g_t 2), .ref (g_t 3), .ref (g_t 4), .ref (g_t 5), .int t_undos, .int t_reached, .int t_length, .int t_begin, .int t_sort, .int t_value, .long t_word, .int t_wrongAt, .int t_badAt, .int t_bad, .ref (g_t 16), .int t_read, .ref (g_t 18), .ref (g_t 19), .ref (g_t 20), .int t_pictured, .ref (g_t 22), .ref (g_t 23), .ref (g_t 24), .ref (g_t 25), .ref (g_t 26), .int t_x, .ref (g_t 28), .ref (g_t 29), .ref (g_t 30)])), ((g_t 2), .inl (K 0, 500, .inl t_all)), ((g_t 18), .inl (K 0, 300, .inl t_loud))]
def L_X11_missedBits_4 (t_all : Nat → Int32) (t_loud : Nat → Int32) : Nat → Int32 → Int32 → Option (Int32)
  | 0, _, _ => none
  | n_ + 1, x1, x2 =>
    if (t_all 13) ≤ x2 then (some x1) else ((F_X11_rangeOf t_all x2).bind fun r_2 => (if (t_all 9) ≤ r_2 then (L_X11_missedBits_4 t_all t_loud n_ (x1 ||| (0 : Int32)) (x2 + (1 : Int32))) else ((F_X11_rangeOf t_all x2).bind fun r_5 => ((F_X11_isFound t_all t_loud r_5).bind fun r_7 => (if r_7 = (0 : Int32) then (L_X11_missedBits_4 t_all t_loud n_ (x1 ||| ((1 : Int32) <<< (x2 &&& 31))) (x2 + (1 : Int32))) else (L_X11_missedBits_4 t_all t_loud n_ (x1 ||| (0 : Int32)) (x2 + (1 : Int32))))))))
set_option maxHeartbeats 4000000 in
set_option maxRecDepth 100000 in
theorem w_X11_missedBits_4 {p : Program} {l : Launch} {e : Env} {s : State} {m : MethodId} {args : Array Value} {below : List Frame} {meth : Method} {c : Code} {D : va_G} {K : Nat → ClassId} {A : Nat → Prop} {Q : State → Prop} (C0 : cx_ p s m args c cX11_missedBits 3 RX11 wsX11_missedBits D K A) {g_t : Nat → Nat} {t_raised : Int32} {t_undos : Int32} {t_reached : Int32} {t_length : Int32} {t_begin : Int32} {t_sort : Int32} {t_value : Int32} {t_word : Int64} {t_wrongAt : Int32} {t_badAt : Int32} {t_bad : Int32} {t_read : Int32} {t_pictured : Int32} {t_x : Int32} {t_all : Nat → Int32} {t_loud : Nat → Int32} {res : Int32} (HR : ∀ (pc : Nat) (H : Heap) (locs : List Loc) (ls : Array Slot), decode cX11_missedBits pc = .ok (.ireturn, 1) → va_P D vwCl (w_X11_missedBits K g_t t_raised t_undos t_reached t_length t_begin t_sort t_value t_word t_wrongAt t_badAt t_bad t_read t_pictured t_x t_all t_loud) H → va_D A (w_X11_missedBits K g_t t_raised t_undos t_reached t_length t_begin t_sort t_value t_word t_wrongAt t_badAt t_bad t_read t_pictured t_x t_all t_loud) → va_S A s.heap H locs → W p l e rmX11_missedBits s m args below meth c H locs 0 0 Q (F0 m pc ls [.int res]))  :
    ∀ (n_ : Nat) (x1 : Int32) (x2 : Int32) (H : Heap) (locs : List Loc) (ls : Array Slot), va_P D vwCl (w_X11_missedBits K g_t t_raised t_undos t_reached t_length t_begin t_sort t_value t_word t_wrongAt t_badAt t_bad t_read t_pictured t_x t_all t_loud) H → va_D A (w_X11_missedBits K g_t t_raised t_undos t_reached t_length t_begin t_sort t_value t_word t_wrongAt t_badAt t_bad t_read t_pictured t_x t_all t_loud) → va_S A s.heap H locs → lv_has ls 3 [(0, .ref (g_t 0)), (1, .int x1), (2, .int x2)] → L_X11_missedBits_4 t_all t_loud n_ x1 x2 = some res → W p l e rmX11_missedBits s m args below meth c H locs 0 0 Q (F0 m 4 ls []) := by
  obtain ⟨⟨hx, hb, hml, hown, hts⟩, hK, -⟩ := id C0
  intro n_
  induction n_ with
  | zero =>
    intro x1 x2 H locs ls hP hD hS hl hF
    exact no_s (show (none : Option (Int32)) = some res from hF)
  | succ n_ ih =>
    intro x1 x2 H locs ls hP hD hS hl hF
    rw [L_X11_missedBits_4] at hF
    refine lv_iload_n hx hb dX11_missedBits_4 rfl (lv_at hl 2 rfl) ?_
    refine lv_aload_n hx hb dX11_missedBits_5 rfl (lv_at hl 0 rfl) ?_
    refine va_get (D := D) (ci := 10) (v := .ref (g_t 2)) (C := RX11) (T := TX11) (N := 30) hx hb hts iw_X11_missedBits_X11 hown hK hP 0 rfl rfl 1 (by decide) (hts _ fl_X11_missedBits_7) (fun _ h9 => h9) rfl dX11_missedBits_6 ?_
    refine lv_bipush (v := 13) hx hb dX11_missedBits_9 (by decide) ?_
    refine xl_i (f := t_all) hx hb hK hP 1 0 rfl rfl (k := 13) (by decide) (in_v (by decide)) dX11_missedBits_11 ?_
    refine lv_icmp_ge (tgt := 58) hx hb dX11_missedBits_12 (by decide) (fun c_1 => ?_) (fun c_1 => ?_)
    · have hF := it_pos c_1 hF
      refine lv_iload_n hx hb dX11_missedBits_58 rfl (lv_at hl 1 rfl) ?_
      obtain rfl := Option.some.inj hF
      exact HR 59 H locs ls dX11_missedBits_59 hP hD hS
    · have hF := it_neg c_1 hF
      refine lv_iload_n hx hb dX11_missedBits_15 rfl (lv_at hl 1 rfl) ?_
      refine lv_aload_n hx hb dX11_missedBits_16 rfl (lv_at hl 0 rfl) ?_
      refine lv_iload_n hx hb dX11_missedBits_17 rfl (lv_at hl 2 rfl) ?_
      obtain ⟨r_2, hc_3, hF⟩ := bn_some hF
      refine xc_i (wn := (w_X11_missedBits K g_t t_raised t_undos t_reached t_length t_begin t_sort t_value t_word t_wrongAt t_badAt t_bad t_read t_pictured t_x t_all t_loud)) hP hD hS C0.2.2.1 [0, 1] [2] [1, 2, 0] rfl rfl (by decide) (by decide) rfl (by decide) (va_runV (As := [.int x2]) (rest := [.int x1]) C0.1 (c_X11_rangeOf l D K g_t t_raised t_undos t_reached t_length t_begin t_sort t_value t_word t_wrongAt t_badAt t_bad t_read t_pictured t_x t_all x2 r_2 hc_3 H.size) (cwV 1 hts gX11_missedBits_X11_rangeOf rfl rfl rfl (by decide +kernel) ⟨Nat.le_of_ble_eq_true rfl, Nat.le_of_ble_eq_true rfl⟩) (xp_V C0.2 hP hD hS [0, 1] rfl (by decide) 10 0 rfl rfl rfl) rfl rfl hl.1 rfl (lv_room (Nat.le_of_ble_eq_true rfl)) dX11_missedBits_18 ⟨Nat.le_of_ble_eq_true rfl, Nat.le_of_ble_eq_true rfl⟩) (fun H locs hP hD hS => ?_)
      refine lv_aload_n hx hb dX11_missedBits_21 rfl (lv_at hl 0 rfl) ?_
      refine va_get (D := D) (ci := 10) (v := .ref (g_t 2)) (C := RX11) (T := TX11) (N := 30) hx hb hts iw_X11_missedBits_X11 hown hK hP 0 rfl rfl 1 (by decide) (hts _ fl_X11_missedBits_7) (fun _ h9 => h9) rfl dX11_missedBits_22 ?_
      refine lv_bipush (v := 9) hx hb dX11_missedBits_25 (by decide) ?_
      refine xl_i (f := t_all) hx hb hK hP 1 0 rfl rfl (k := 9) (by decide) (in_v (by decide)) dX11_missedBits_27 ?_
      refine lv_icmp_ge (tgt := 49) hx hb dX11_missedBits_28 (by decide) (fun c_4 => ?_) (fun c_4 => ?_)
      · have hF := it_pos c_4 hF
        refine lv_iconst (v := 0) hx hb dX11_missedBits_49 (by decide) ?_
        refine lv_ior hx hb dX11_missedBits_50 ?_
        refine lv_istore_n (lv' := [(1, .int (x1 ||| (0 : Int32))), (0, .ref (g_t 0)), (2, .int x2)]) hx hb dX11_missedBits_51 rfl hl (by decide) rfl (fun ls hl => ?_)
        refine lv_iinc (v := (x2 + (1 : Int32))) (lv' := [(2, .int (x2 + (1 : Int32))), (1, .int (x1 ||| (0 : Int32))), (0, .ref (g_t 0))]) hx hb dX11_missedBits_52 hl (k := 2) rfl (congrArg (fun z => x2 + z) (by decide)) (by decide) rfl (fun ls hl => ?_)
        refine lv_goto (tgt := 4) hx hb dX11_missedBits_55 (by decide) ?_
        exact ih (x1 ||| (0 : Int32)) (x2 + (1 : Int32)) H locs ls hP hD hS (lv_sub hl [2, 1, 0] rfl) hF
      · have hF := it_neg c_4 hF
        refine lv_aload_n hx hb dX11_missedBits_31 rfl (lv_at hl 0 rfl) ?_
        refine lv_aload_n hx hb dX11_missedBits_32 rfl (lv_at hl 0 rfl) ?_
        refine lv_iload_n hx hb dX11_missedBits_33 rfl (lv_at hl 2 rfl) ?_
        obtain ⟨r_5, hc_6, hF⟩ := bn_some hF
        refine xc_i (wn := (w_X11_missedBits K g_t t_raised t_undos t_reached t_length t_begin t_sort t_value t_word t_wrongAt t_badAt t_bad t_read t_pictured t_x t_all t_loud)) hP hD hS C0.2.2.1 [0, 1] [2] [1, 2, 0] rfl rfl (by decide) (by decide) rfl (by decide) (va_runV (As := [.int x2]) (rest := [.ref (g_t 0), .int x1]) C0.1 (c_X11_rangeOf l D K g_t t_raised t_undos t_reached t_length t_begin t_sort t_value t_word t_wrongAt t_badAt t_bad t_read t_pictured t_x t_all x2 r_5 hc_6 H.size) (cwV 1 hts gX11_missedBits_X11_rangeOf rfl rfl rfl (by decide +kernel) ⟨Nat.le_of_ble_eq_true rfl, Nat.le_of_ble_eq_true rfl⟩) (xp_V C0.2 hP hD hS [0, 1] rfl (by decide) 10 0 rfl rfl rfl) rfl rfl hl.1 rfl (lv_room (Nat.le_of_ble_eq_true rfl)) dX11_missedBits_34 ⟨Nat.le_of_ble_eq_true rfl, Nat.le_of_ble_eq_true rfl⟩) (fun H locs hP hD hS => ?_)
        obtain ⟨r_7, hc_8, hF⟩ := bn_some hF
        refine xc_i (wn := (w_X11_missedBits K g_t t_raised t_undos t_reached t_length t_begin t_sort t_value t_word t_wrongAt t_badAt t_bad t_read t_pictured t_x t_all t_loud)) hP hD hS C0.2.2.1 [0, 1, 2] [] [0, 1, 2] rfl rfl (by decide) (by decide) rfl (by decide) (va_runV (As := [.int r_5]) (rest := [.int x1]) C0.1 (c_X11_isFound l D K g_t t_raised t_undos t_reached t_length t_begin t_sort t_value t_word t_wrongAt t_badAt t_bad t_read t_pictured t_x t_all t_loud r_5 r_7 hc_8 H.size) (cwV 1 hts gX11_missedBits_X11_isFound rfl rfl rfl (by decide +kernel) ⟨Nat.le_of_ble_eq_true rfl, Nat.le_of_ble_eq_true rfl⟩) (xp_V C0.2 hP hD hS [0, 1, 2] rfl (by decide) 10 0 rfl rfl rfl) rfl rfl hl.1 rfl (lv_room (Nat.le_of_ble_eq_true rfl)) dX11_missedBits_37 ⟨Nat.le_of_ble_eq_true rfl, Nat.le_of_ble_eq_true rfl⟩) (fun H locs hP hD hS => ?_)
        refine lv_if_ne (tgt := 49) hx hb dX11_missedBits_40 (by decide) (fun c_9 => ?_) (fun c_9 => ?_)
        · have hF := it_neg c_9 hF
          refine lv_iconst (v := 0) hx hb dX11_missedBits_49 (by decide) ?_
          refine lv_ior hx hb dX11_missedBits_50 ?_
          refine lv_istore_n (lv' := [(1, .int (x1 ||| (0 : Int32))), (0, .ref (g_t 0)), (2, .int x2)]) hx hb dX11_missedBits_51 rfl hl (by decide) rfl (fun ls hl => ?_)
          refine lv_iinc (v := (x2 + (1 : Int32))) (lv' := [(2, .int (x2 + (1 : Int32))), (1, .int (x1 ||| (0 : Int32))), (0, .ref (g_t 0))]) hx hb dX11_missedBits_52 hl (k := 2) rfl (congrArg (fun z => x2 + z) (by decide)) (by decide) rfl (fun ls hl => ?_)
          refine lv_goto (tgt := 4) hx hb dX11_missedBits_55 (by decide) ?_
          exact ih (x1 ||| (0 : Int32)) (x2 + (1 : Int32)) H locs ls hP hD hS (lv_sub hl [2, 1, 0] rfl) hF
        · have hF := it_pos c_9 hF
          refine lv_iconst (v := 1) hx hb dX11_missedBits_43 (by decide) ?_
          refine lv_iload_n hx hb dX11_missedBits_44 rfl (lv_at hl 2 rfl) ?_
          refine lv_ishl hx hb dX11_missedBits_45 ?_
          refine lv_goto (tgt := 50) hx hb dX11_missedBits_46 (by decide) ?_
          refine lv_ior hx hb dX11_missedBits_50 ?_
          refine lv_istore_n (lv' := [(1, .int (x1 ||| ((1 : Int32) <<< (x2 &&& 31)))), (0, .ref (g_t 0)), (2, .int x2)]) hx hb dX11_missedBits_51 rfl hl (by decide) rfl (fun ls hl => ?_)
          refine lv_iinc (v := (x2 + (1 : Int32))) (lv' := [(2, .int (x2 + (1 : Int32))), (1, .int (x1 ||| ((1 : Int32) <<< (x2 &&& 31)))), (0, .ref (g_t 0))]) hx hb dX11_missedBits_52 hl (k := 2) rfl (congrArg (fun z => x2 + z) (by decide)) (by decide) rfl (fun ls hl => ?_)
          refine lv_goto (tgt := 4) hx hb dX11_missedBits_55 (by decide) ?_
          exact ih (x1 ||| ((1 : Int32) <<< (x2 &&& 31))) (x2 + (1 : Int32)) H locs ls hP hD hS (lv_sub hl [2, 1, 0] rfl) hF
def F_X11_missedBits (t_all : Nat → Int32) (t_loud : Nat → Int32) : Option (Int32) :=
  L_X11_missedBits_4 t_all t_loud fu_ (0 : Int32) (0 : Int32)
set_option maxHeartbeats 4000000 in
set_option maxRecDepth 100000 in
theorem c_X11_missedBits (l : Launch) (D : va_G) (K : Nat → ClassId) (g_t : Nat → Nat) (t_raised : Int32) (t_undos : Int32) (t_reached : Int32) (t_length : Int32) (t_begin : Int32) (t_sort : Int32) (t_value : Int32) (t_word : Int64) (t_wrongAt : Int32) (t_badAt : Int32) (t_bad : Int32) (t_read : Int32) (t_pictured : Int32) (t_x : Int32) (t_all : Nat → Int32) (t_loud : Nat → Int32) (res : Int32) (hF : F_X11_missedBits t_all t_loud = some res) :
    Mi_ l yX11_missedBits wsX11_missedBits rmX11_missedBits D K [.ref (g_t 0)] (w_X11_missedBits K g_t t_raised t_undos t_reached t_length t_begin t_sort t_value t_word t_wrongAt t_badAt t_bad t_read t_pictured t_x t_all t_loud) (w_X11_missedBits K g_t t_raised t_undos t_reached t_length t_begin t_sort t_value t_word t_wrongAt t_badAt t_bad t_read t_pictured t_x t_all t_loud) (res) := by
  refine en_i (cc := cX11_missedBits) (maxL := 3) (own := RX11) (by decide) rfl rfl (Nat.le_of_ble_eq_true rfl) ?_
  intro p e s m args below meth c A Q H locs ls C0 hP hD hS hl HR
  obtain ⟨⟨hx, hb, hml, hown, hts⟩, hK, -⟩ := id C0
  have hl : lv_has ls 3 [(0, .ref (g_t 0))] := hl
  unfold F_X11_missedBits at hF
  refine lv_iconst (v := 0) hx hb dX11_missedBits_0 (by decide) ?_
  refine lv_istore_n (lv' := [(1, .int (0 : Int32)), (0, .ref (g_t 0))]) hx hb dX11_missedBits_1 rfl hl (by decide) rfl (fun ls hl => ?_)
  refine lv_iconst (v := 0) hx hb dX11_missedBits_2 (by decide) ?_
  refine lv_istore_n (lv' := [(2, .int (0 : Int32)), (1, .int (0 : Int32)), (0, .ref (g_t 0))]) hx hb dX11_missedBits_3 rfl hl (by decide) rfl (fun ls hl => ?_)
  exact w_X11_missedBits_4 C0 HR fu_ (0 : Int32) (0 : Int32) H locs ls hP hD hS (lv_sub hl [2, 1, 0] rfl) hF

/-! StaggerRadarModel.isRange(I)Z -/
abbrev rmX11_isRange : Room := { frames := 2, cells := 0, slots := 0, locals := 43 }
theorem fl_X11_isRange_7 : Cond.fieldLink RX11 7 "StaggerRadarModel" "all" "[I" ∈ wsX11_isRange := by decide +kernel
theorem iw_X11_isRange_X11 : ∀ w ∈ u_ws RX11 TX11 30, w ∈ wsX11_isRange := by decide +kernel
abbrev w_X11_isRange (K : Nat → ClassId) (g_t : Nat → Nat) (t_raised : Int32) (t_undos : Int32) (t_reached : Int32) (t_length : Int32) (t_begin : Int32) (t_sort : Int32) (t_value : Int32) (t_word : Int64) (t_wrongAt : Int32) (t_badAt : Int32) (t_bad : Int32) (t_read : Int32) (t_pictured : Int32) (t_x : Int32) (t_all : Nat → Int32) : va_W := [((g_t 0), .inr (10, [.int t_raised, .ref (g_t 2), .ref (g_t 3), .ref (g_t 4), .ref (g_t 5), .int t_undos, .int t_reached, .int t_length, .int t_begin, .int t_sort, .int t_value, .long t_word, .int t_wrongAt, .int t_badAt, .int t_bad, .ref (g_t 16), .int t_read, .ref (g_t 18), .ref (g_t 19), .ref (g_t 20), .int t_pictured, .ref (g_t 22), .ref (g_t 23), .ref (g_t 24), .ref (g_t 25), .ref (g_t 26), .int t_x, .ref (g_t 28), .ref (g_t 29), .ref (g_t 30)])), ((g_t 2), .inl (K 0, 500, .inl t_all))]
def L_X11_isRange_2 (t_all : Nat → Int32) : Nat → Int32 → Int32 → Option (Int32)
  | 0, _, _ => none
  | n_ + 1, x1, x2 =>
    if (t_all 13) ≤ x2 then (some (0 : Int32)) else ((F_X11_rangeOf t_all x2).bind fun r_2 => (if r_2 = x1 then (some (1 : Int32)) else (L_X11_isRange_2 t_all n_ x1 (x2 + (1 : Int32)))))
set_option maxHeartbeats 4000000 in
set_option maxRecDepth 100000 in
theorem w_X11_isRange_2 {p : Program} {l : Launch} {e : Env} {s : State} {m : MethodId} {args : Array Value} {below : List Frame} {meth : Method} {c : Code} {D : va_G} {K : Nat → ClassId} {A : Nat → Prop} {Q : State → Prop} (C0 : cx_ p s m args c cX11_isRange 3 RX11 wsX11_isRange D K A) {g_t : Nat → Nat} {t_raised : Int32} {t_undos : Int32} {t_reached : Int32} {t_length : Int32} {t_begin : Int32} {t_sort : Int32} {t_value : Int32} {t_word : Int64} {t_wrongAt : Int32} {t_badAt : Int32} {t_bad : Int32} {t_read : Int32} {t_pictured : Int32} {t_x : Int32} {t_all : Nat → Int32} {res : Int32} (HR : ∀ (pc : Nat) (H : Heap) (locs : List Loc) (ls : Array Slot), decode cX11_isRange pc = .ok (.ireturn, 1) → narrow .boolean (.int res) = .int res → va_P D vwCl (w_X11_isRange K g_t t_raised t_undos t_reached t_length t_begin t_sort t_value t_word t_wrongAt t_badAt t_bad t_read t_pictured t_x t_all) H → va_D A (w_X11_isRange K g_t t_raised t_undos t_reached t_length t_begin t_sort t_value t_word t_wrongAt t_badAt t_bad t_read t_pictured t_x t_all) → va_S A s.heap H locs → W p l e rmX11_isRange s m args below meth c H locs 0 0 Q (F0 m pc ls [.int res]))  :
    ∀ (n_ : Nat) (x1 : Int32) (x2 : Int32) (H : Heap) (locs : List Loc) (ls : Array Slot), va_P D vwCl (w_X11_isRange K g_t t_raised t_undos t_reached t_length t_begin t_sort t_value t_word t_wrongAt t_badAt t_bad t_read t_pictured t_x t_all) H → va_D A (w_X11_isRange K g_t t_raised t_undos t_reached t_length t_begin t_sort t_value t_word t_wrongAt t_badAt t_bad t_read t_pictured t_x t_all) → va_S A s.heap H locs → lv_has ls 3 [(0, .ref (g_t 0)), (1, .int x1), (2, .int x2)] → L_X11_isRange_2 t_all n_ x1 x2 = some res → W p l e rmX11_isRange s m args below meth c H locs 0 0 Q (F0 m 2 ls []) := by
  obtain ⟨⟨hx, hb, hml, hown, hts⟩, hK, -⟩ := id C0
  intro n_
  induction n_ with
  | zero =>
    intro x1 x2 H locs ls hP hD hS hl hF
    exact no_s (show (none : Option (Int32)) = some res from hF)
  | succ n_ ih =>
    intro x1 x2 H locs ls hP hD hS hl hF
    rw [L_X11_isRange_2] at hF
    refine lv_iload_n hx hb dX11_isRange_2 rfl (lv_at hl 2 rfl) ?_
    refine lv_aload_n hx hb dX11_isRange_3 rfl (lv_at hl 0 rfl) ?_
    refine va_get (D := D) (ci := 10) (v := .ref (g_t 2)) (C := RX11) (T := TX11) (N := 30) hx hb hts iw_X11_isRange_X11 hown hK hP 0 rfl rfl 1 (by decide) (hts _ fl_X11_isRange_7) (fun _ h9 => h9) rfl dX11_isRange_4 ?_
    refine lv_bipush (v := 13) hx hb dX11_isRange_7 (by decide) ?_
    refine xl_i (f := t_all) hx hb hK hP 1 0 rfl rfl (k := 13) (by decide) (in_v (by decide)) dX11_isRange_9 ?_
    refine lv_icmp_ge (tgt := 30) hx hb dX11_isRange_10 (by decide) (fun c_1 => ?_) (fun c_1 => ?_)
    · have hF := it_pos c_1 hF
      refine lv_iconst (v := 0) hx hb dX11_isRange_30 (by decide) ?_
      obtain rfl := Option.some.inj hF
      exact HR 31 H locs ls dX11_isRange_31 narrow_b0 hP hD hS
    · have hF := it_neg c_1 hF
      refine lv_aload_n hx hb dX11_isRange_13 rfl (lv_at hl 0 rfl) ?_
      refine lv_iload_n hx hb dX11_isRange_14 rfl (lv_at hl 2 rfl) ?_
      obtain ⟨r_2, hc_3, hF⟩ := bn_some hF
      refine xc_i (wn := (w_X11_isRange K g_t t_raised t_undos t_reached t_length t_begin t_sort t_value t_word t_wrongAt t_badAt t_bad t_read t_pictured t_x t_all)) hP hD hS C0.2.2.1 [0, 1] [] [0, 1] rfl rfl (by decide) (by decide) rfl (by decide) (va_runV (As := [.int x2]) (rest := []) C0.1 (c_X11_rangeOf l D K g_t t_raised t_undos t_reached t_length t_begin t_sort t_value t_word t_wrongAt t_badAt t_bad t_read t_pictured t_x t_all x2 r_2 hc_3 H.size) (cwV 1 hts gX11_isRange_X11_rangeOf rfl rfl rfl (by decide +kernel) ⟨Nat.le_of_ble_eq_true rfl, Nat.le_of_ble_eq_true rfl⟩) (xp_V C0.2 hP hD hS [0, 1] rfl (by decide) 10 0 rfl rfl rfl) rfl rfl hl.1 rfl (lv_room (Nat.le_of_ble_eq_true rfl)) dX11_isRange_15 ⟨Nat.le_of_ble_eq_true rfl, Nat.le_of_ble_eq_true rfl⟩) (fun H locs hP hD hS => ?_)
      refine lv_iload_n hx hb dX11_isRange_18 rfl (lv_at hl 1 rfl) ?_
      refine lv_icmp_ne (tgt := 24) hx hb dX11_isRange_19 (by decide) (fun c_4 => ?_) (fun c_4 => ?_)
      · have hF := it_neg c_4 hF
        refine lv_iinc (v := (x2 + (1 : Int32))) (lv' := [(2, .int (x2 + (1 : Int32))), (0, .ref (g_t 0)), (1, .int x1)]) hx hb dX11_isRange_24 hl (k := 2) rfl (congrArg (fun z => x2 + z) (by decide)) (by decide) rfl (fun ls hl => ?_)
        refine lv_goto (tgt := 2) hx hb dX11_isRange_27 (by decide) ?_
        exact ih x1 (x2 + (1 : Int32)) H locs ls hP hD hS (lv_sub hl [1, 2, 0] rfl) hF
      · have hF := it_pos c_4 hF
        refine lv_iconst (v := 1) hx hb dX11_isRange_22 (by decide) ?_
        obtain rfl := Option.some.inj hF
        exact HR 23 H locs ls dX11_isRange_23 narrow_b1 hP hD hS
def F_X11_isRange (t_all : Nat → Int32) (x1 : Int32) : Option (Int32) :=
  L_X11_isRange_2 t_all fu_ x1 (0 : Int32)
set_option maxHeartbeats 4000000 in
set_option maxRecDepth 100000 in
theorem c_X11_isRange (l : Launch) (D : va_G) (K : Nat → ClassId) (g_t : Nat → Nat) (t_raised : Int32) (t_undos : Int32) (t_reached : Int32) (t_length : Int32) (t_begin : Int32) (t_sort : Int32) (t_value : Int32) (t_word : Int64) (t_wrongAt : Int32) (t_badAt : Int32) (t_bad : Int32) (t_read : Int32) (t_pictured : Int32) (t_x : Int32) (t_all : Nat → Int32) (x1 : Int32) (res : Int32) (hF : F_X11_isRange t_all x1 = some res) :
    Mi_ l yX11_isRange wsX11_isRange rmX11_isRange D K [.ref (g_t 0), .int x1] (w_X11_isRange K g_t t_raised t_undos t_reached t_length t_begin t_sort t_value t_word t_wrongAt t_badAt t_bad t_read t_pictured t_x t_all) (w_X11_isRange K g_t t_raised t_undos t_reached t_length t_begin t_sort t_value t_word t_wrongAt t_badAt t_bad t_read t_pictured t_x t_all) (res) := by
  refine en_z (cc := cX11_isRange) (maxL := 3) (own := RX11) (by decide) rfl rfl (Nat.le_of_ble_eq_true rfl) ?_
  intro p e s m args below meth c A Q H locs ls C0 hP hD hS hl HR
  obtain ⟨⟨hx, hb, hml, hown, hts⟩, hK, -⟩ := id C0
  have hl : lv_has ls 3 [(0, .ref (g_t 0)), (1, .int x1)] := hl
  unfold F_X11_isRange at hF
  refine lv_iconst (v := 0) hx hb dX11_isRange_0 (by decide) ?_
  refine lv_istore_n (lv' := [(2, .int (0 : Int32)), (0, .ref (g_t 0)), (1, .int x1)]) hx hb dX11_isRange_1 rfl hl (by decide) rfl (fun ls hl => ?_)
  exact w_X11_isRange_2 C0 HR fu_ x1 (0 : Int32) H locs ls hP hD hS (lv_sub hl [1, 2, 0] rfl) hF

/-! StaggerRadarModel.foundMany(Z)I -/
abbrev rmX11_foundMany : Room := { frames := 3, cells := 0, slots := 0, locals := 66 }
theorem fl_X11_foundMany_7 : Cond.fieldLink RX11 7 "StaggerRadarModel" "all" "[I" ∈ wsX11_foundMany := by decide +kernel
theorem iw_X11_foundMany_X11 : ∀ w ∈ u_ws RX11 TX11 30, w ∈ wsX11_foundMany := by decide +kernel
abbrev w_X11_foundMany (K : Nat → ClassId) (g_t : Nat → Nat) (t_raised : Int32) (t_undos : Int32) (t_reached : Int32) (t_length : Int32) (t_begin : Int32) (t_sort : Int32) (t_value : Int32) (t_word : Int64) (t_wrongAt : Int32) (t_badAt : Int32) (t_bad : Int32) (t_read : Int32) (t_pictured : Int32) (t_x : Int32) (t_all : Nat → Int32) (t_loud : Nat → Int32) : va_W := [((g_t 0), .inr (10, [.int t_raised, .ref (g_t 2), .ref (g_t 3), .ref (g_t 4), .ref (g_t 5), .int t_undos, .int t_reached, .int t_length, .int t_begin, .int t_sort, .int t_value, .long t_word, .int t_wrongAt, .int t_badAt, .int t_bad, .ref (g_t 16), .int t_read, .ref (g_t 18), .ref (g_t 19), .ref (g_t 20), .int t_pictured, .ref (g_t 22), .ref (g_t 23), .ref (g_t 24), .ref (g_t 25), .ref (g_t 26), .int t_x, .ref (g_t 28), .ref (g_t 29), .ref (g_t 30)])), ((g_t 2), .inl (K 0, 500, .inl t_all)), ((g_t 18), .inl (K 0, 300, .inl t_loud))]
def L_X11_foundMany_4 (t_all : Nat → Int32) (t_loud : Nat → Int32) : Nat → Int32 → Int32 → Int32 → Option (Int32)
  | 0, _, _, _ => none
  | n_ + 1, x1, x2, x3 =>
    if (t_all 9) ≤ x3 then (some x2) else ((F_X11_isFound t_all t_loud x3).bind fun r_2 => (if r_2 = (0 : Int32) then (L_X11_foundMany_4 t_all t_loud n_ x1 (x2 + (0 : Int32)) (x3 + (1 : Int32))) else (if x1 = (0 : Int32) then (L_X11_foundMany_4 t_all t_loud n_ x1 (x2 + (1 : Int32)) (x3 + (1 : Int32))) else ((F_X11_isRange t_all x3).bind fun r_6 => (if r_6 = (0 : Int32) then (L_X11_foundMany_4 t_all t_loud n_ x1 (x2 + (1 : Int32)) (x3 + (1 : Int32))) else (L_X11_foundMany_4 t_all t_loud n_ x1 (x2 + (0 : Int32)) (x3 + (1 : Int32))))))))
set_option maxHeartbeats 4000000 in
set_option maxRecDepth 100000 in
theorem w_X11_foundMany_4 {p : Program} {l : Launch} {e : Env} {s : State} {m : MethodId} {args : Array Value} {below : List Frame} {meth : Method} {c : Code} {D : va_G} {K : Nat → ClassId} {A : Nat → Prop} {Q : State → Prop} (C0 : cx_ p s m args c cX11_foundMany 4 RX11 wsX11_foundMany D K A) {g_t : Nat → Nat} {t_raised : Int32} {t_undos : Int32} {t_reached : Int32} {t_length : Int32} {t_begin : Int32} {t_sort : Int32} {t_value : Int32} {t_word : Int64} {t_wrongAt : Int32} {t_badAt : Int32} {t_bad : Int32} {t_read : Int32} {t_pictured : Int32} {t_x : Int32} {t_all : Nat → Int32} {t_loud : Nat → Int32} {res : Int32} (HR : ∀ (pc : Nat) (H : Heap) (locs : List Loc) (ls : Array Slot), decode cX11_foundMany pc = .ok (.ireturn, 1) → va_P D vwCl (w_X11_foundMany K g_t t_raised t_undos t_reached t_length t_begin t_sort t_value t_word t_wrongAt t_badAt t_bad t_read t_pictured t_x t_all t_loud) H → va_D A (w_X11_foundMany K g_t t_raised t_undos t_reached t_length t_begin t_sort t_value t_word t_wrongAt t_badAt t_bad t_read t_pictured t_x t_all t_loud) → va_S A s.heap H locs → W p l e rmX11_foundMany s m args below meth c H locs 0 0 Q (F0 m pc ls [.int res]))  :
    ∀ (n_ : Nat) (x1 : Int32) (x2 : Int32) (x3 : Int32) (H : Heap) (locs : List Loc) (ls : Array Slot), va_P D vwCl (w_X11_foundMany K g_t t_raised t_undos t_reached t_length t_begin t_sort t_value t_word t_wrongAt t_badAt t_bad t_read t_pictured t_x t_all t_loud) H → va_D A (w_X11_foundMany K g_t t_raised t_undos t_reached t_length t_begin t_sort t_value t_word t_wrongAt t_badAt t_bad t_read t_pictured t_x t_all t_loud) → va_S A s.heap H locs → lv_has ls 4 [(0, .ref (g_t 0)), (1, .int x1), (2, .int x2), (3, .int x3)] → L_X11_foundMany_4 t_all t_loud n_ x1 x2 x3 = some res → W p l e rmX11_foundMany s m args below meth c H locs 0 0 Q (F0 m 4 ls []) := by
  obtain ⟨⟨hx, hb, hml, hown, hts⟩, hK, -⟩ := id C0
  intro n_
  induction n_ with
  | zero =>
    intro x1 x2 x3 H locs ls hP hD hS hl hF
    exact no_s (show (none : Option (Int32)) = some res from hF)
  | succ n_ ih =>
    intro x1 x2 x3 H locs ls hP hD hS hl hF
    rw [L_X11_foundMany_4] at hF
    refine lv_iload_n hx hb dX11_foundMany_4 rfl (lv_at hl 3 rfl) ?_
    refine lv_aload_n hx hb dX11_foundMany_5 rfl (lv_at hl 0 rfl) ?_
    refine va_get (D := D) (ci := 10) (v := .ref (g_t 2)) (C := RX11) (T := TX11) (N := 30) hx hb hts iw_X11_foundMany_X11 hown hK hP 0 rfl rfl 1 (by decide) (hts _ fl_X11_foundMany_7) (fun _ h9 => h9) rfl dX11_foundMany_6 ?_
    refine lv_bipush (v := 9) hx hb dX11_foundMany_9 (by decide) ?_
    refine xl_i (f := t_all) hx hb hK hP 1 0 rfl rfl (k := 9) (by decide) (in_v (by decide)) dX11_foundMany_11 ?_
    refine lv_icmp_ge (tgt := 49) hx hb dX11_foundMany_12 (by decide) (fun c_1 => ?_) (fun c_1 => ?_)
    · have hF := it_pos c_1 hF
      refine lv_iload_n hx hb dX11_foundMany_49 rfl (lv_at hl 2 rfl) ?_
      obtain rfl := Option.some.inj hF
      exact HR 50 H locs ls dX11_foundMany_50 hP hD hS
    · have hF := it_neg c_1 hF
      refine lv_iload_n hx hb dX11_foundMany_15 rfl (lv_at hl 2 rfl) ?_
      refine lv_aload_n hx hb dX11_foundMany_16 rfl (lv_at hl 0 rfl) ?_
      refine lv_iload_n hx hb dX11_foundMany_17 rfl (lv_at hl 3 rfl) ?_
      obtain ⟨r_2, hc_3, hF⟩ := bn_some hF
      refine xc_i (wn := (w_X11_foundMany K g_t t_raised t_undos t_reached t_length t_begin t_sort t_value t_word t_wrongAt t_badAt t_bad t_read t_pictured t_x t_all t_loud)) hP hD hS C0.2.2.1 [0, 1, 2] [] [0, 1, 2] rfl rfl (by decide) (by decide) rfl (by decide) (va_runV (As := [.int x3]) (rest := [.int x2]) C0.1 (c_X11_isFound l D K g_t t_raised t_undos t_reached t_length t_begin t_sort t_value t_word t_wrongAt t_badAt t_bad t_read t_pictured t_x t_all t_loud x3 r_2 hc_3 H.size) (cwV 1 hts gX11_foundMany_X11_isFound rfl rfl rfl (by decide +kernel) ⟨Nat.le_of_ble_eq_true rfl, Nat.le_of_ble_eq_true rfl⟩) (xp_V C0.2 hP hD hS [0, 1, 2] rfl (by decide) 10 0 rfl rfl rfl) rfl rfl hl.1 rfl (lv_room (Nat.le_of_ble_eq_true rfl)) dX11_foundMany_18 ⟨Nat.le_of_ble_eq_true rfl, Nat.le_of_ble_eq_true rfl⟩) (fun H locs hP hD hS => ?_)
      refine lv_if_eq (tgt := 40) hx hb dX11_foundMany_21 (by decide) (fun c_4 => ?_) (fun c_4 => ?_)
      · have hF := it_pos c_4 hF
        refine lv_iconst (v := 0) hx hb dX11_foundMany_40 (by decide) ?_
        refine lv_iadd hx hb dX11_foundMany_41 ?_
        refine lv_istore_n (lv' := [(2, .int (x2 + (0 : Int32))), (0, .ref (g_t 0)), (1, .int x1), (3, .int x3)]) hx hb dX11_foundMany_42 rfl hl (by decide) rfl (fun ls hl => ?_)
        refine lv_iinc (v := (x3 + (1 : Int32))) (lv' := [(3, .int (x3 + (1 : Int32))), (2, .int (x2 + (0 : Int32))), (0, .ref (g_t 0)), (1, .int x1)]) hx hb dX11_foundMany_43 hl (k := 3) rfl (congrArg (fun z => x3 + z) (by decide)) (by decide) rfl (fun ls hl => ?_)
        refine lv_goto (tgt := 4) hx hb dX11_foundMany_46 (by decide) ?_
        exact ih x1 (x2 + (0 : Int32)) (x3 + (1 : Int32)) H locs ls hP hD hS (lv_sub hl [2, 3, 1, 0] rfl) hF
      · have hF := it_neg c_4 hF
        refine lv_iload_n hx hb dX11_foundMany_24 rfl (lv_at hl 1 rfl) ?_
        refine lv_if_eq (tgt := 36) hx hb dX11_foundMany_25 (by decide) (fun c_5 => ?_) (fun c_5 => ?_)
        · have hF := it_pos c_5 hF
          refine lv_iconst (v := 1) hx hb dX11_foundMany_36 (by decide) ?_
          refine lv_goto (tgt := 41) hx hb dX11_foundMany_37 (by decide) ?_
          refine lv_iadd hx hb dX11_foundMany_41 ?_
          refine lv_istore_n (lv' := [(2, .int (x2 + (1 : Int32))), (0, .ref (g_t 0)), (1, .int x1), (3, .int x3)]) hx hb dX11_foundMany_42 rfl hl (by decide) rfl (fun ls hl => ?_)
          refine lv_iinc (v := (x3 + (1 : Int32))) (lv' := [(3, .int (x3 + (1 : Int32))), (2, .int (x2 + (1 : Int32))), (0, .ref (g_t 0)), (1, .int x1)]) hx hb dX11_foundMany_43 hl (k := 3) rfl (congrArg (fun z => x3 + z) (by decide)) (by decide) rfl (fun ls hl => ?_)
          refine lv_goto (tgt := 4) hx hb dX11_foundMany_46 (by decide) ?_
          exact ih x1 (x2 + (1 : Int32)) (x3 + (1 : Int32)) H locs ls hP hD hS (lv_sub hl [2, 3, 1, 0] rfl) hF
        · have hF := it_neg c_5 hF
          refine lv_aload_n hx hb dX11_foundMany_28 rfl (lv_at hl 0 rfl) ?_
          refine lv_iload_n hx hb dX11_foundMany_29 rfl (lv_at hl 3 rfl) ?_
          obtain ⟨r_6, hc_7, hF⟩ := bn_some hF
          refine xc_i (wn := (w_X11_foundMany K g_t t_raised t_undos t_reached t_length t_begin t_sort t_value t_word t_wrongAt t_badAt t_bad t_read t_pictured t_x t_all t_loud)) hP hD hS C0.2.2.1 [0, 1] [2] [1, 2, 0] rfl rfl (by decide) (by decide) rfl (by decide) (va_runV (As := [.int x3]) (rest := [.int x2]) C0.1 (c_X11_isRange l D K g_t t_raised t_undos t_reached t_length t_begin t_sort t_value t_word t_wrongAt t_badAt t_bad t_read t_pictured t_x t_all x3 r_6 hc_7 H.size) (cwV 1 hts gX11_foundMany_X11_isRange rfl rfl rfl (by decide +kernel) ⟨Nat.le_of_ble_eq_true rfl, Nat.le_of_ble_eq_true rfl⟩) (xp_V C0.2 hP hD hS [0, 1] rfl (by decide) 10 0 rfl rfl rfl) rfl rfl hl.1 rfl (lv_room (Nat.le_of_ble_eq_true rfl)) dX11_foundMany_30 ⟨Nat.le_of_ble_eq_true rfl, Nat.le_of_ble_eq_true rfl⟩) (fun H locs hP hD hS => ?_)
          refine lv_if_ne (tgt := 40) hx hb dX11_foundMany_33 (by decide) (fun c_8 => ?_) (fun c_8 => ?_)
          · have hF := it_neg c_8 hF
            refine lv_iconst (v := 0) hx hb dX11_foundMany_40 (by decide) ?_
            refine lv_iadd hx hb dX11_foundMany_41 ?_
            refine lv_istore_n (lv' := [(2, .int (x2 + (0 : Int32))), (0, .ref (g_t 0)), (1, .int x1), (3, .int x3)]) hx hb dX11_foundMany_42 rfl hl (by decide) rfl (fun ls hl => ?_)
            refine lv_iinc (v := (x3 + (1 : Int32))) (lv' := [(3, .int (x3 + (1 : Int32))), (2, .int (x2 + (0 : Int32))), (0, .ref (g_t 0)), (1, .int x1)]) hx hb dX11_foundMany_43 hl (k := 3) rfl (congrArg (fun z => x3 + z) (by decide)) (by decide) rfl (fun ls hl => ?_)
            refine lv_goto (tgt := 4) hx hb dX11_foundMany_46 (by decide) ?_
            exact ih x1 (x2 + (0 : Int32)) (x3 + (1 : Int32)) H locs ls hP hD hS (lv_sub hl [2, 3, 1, 0] rfl) hF
          · have hF := it_pos c_8 hF
            refine lv_iconst (v := 1) hx hb dX11_foundMany_36 (by decide) ?_
            refine lv_goto (tgt := 41) hx hb dX11_foundMany_37 (by decide) ?_
            refine lv_iadd hx hb dX11_foundMany_41 ?_
            refine lv_istore_n (lv' := [(2, .int (x2 + (1 : Int32))), (0, .ref (g_t 0)), (1, .int x1), (3, .int x3)]) hx hb dX11_foundMany_42 rfl hl (by decide) rfl (fun ls hl => ?_)
            refine lv_iinc (v := (x3 + (1 : Int32))) (lv' := [(3, .int (x3 + (1 : Int32))), (2, .int (x2 + (1 : Int32))), (0, .ref (g_t 0)), (1, .int x1)]) hx hb dX11_foundMany_43 hl (k := 3) rfl (congrArg (fun z => x3 + z) (by decide)) (by decide) rfl (fun ls hl => ?_)
            refine lv_goto (tgt := 4) hx hb dX11_foundMany_46 (by decide) ?_
            exact ih x1 (x2 + (1 : Int32)) (x3 + (1 : Int32)) H locs ls hP hD hS (lv_sub hl [2, 3, 1, 0] rfl) hF
def F_X11_foundMany (t_all : Nat → Int32) (t_loud : Nat → Int32) (x1 : Int32) : Option (Int32) :=
  L_X11_foundMany_4 t_all t_loud fu_ x1 (0 : Int32) (0 : Int32)
set_option maxHeartbeats 4000000 in
set_option maxRecDepth 100000 in
theorem c_X11_foundMany (l : Launch) (D : va_G) (K : Nat → ClassId) (g_t : Nat → Nat) (t_raised : Int32) (t_undos : Int32) (t_reached : Int32) (t_length : Int32) (t_begin : Int32) (t_sort : Int32) (t_value : Int32) (t_word : Int64) (t_wrongAt : Int32) (t_badAt : Int32) (t_bad : Int32) (t_read : Int32) (t_pictured : Int32) (t_x : Int32) (t_all : Nat → Int32) (t_loud : Nat → Int32) (x1 : Int32) (res : Int32) (hF : F_X11_foundMany t_all t_loud x1 = some res) :
    Mi_ l yX11_foundMany wsX11_foundMany rmX11_foundMany D K [.ref (g_t 0), .int x1] (w_X11_foundMany K g_t t_raised t_undos t_reached t_length t_begin t_sort t_value t_word t_wrongAt t_badAt t_bad t_read t_pictured t_x t_all t_loud) (w_X11_foundMany K g_t t_raised t_undos t_reached t_length t_begin t_sort t_value t_word t_wrongAt t_badAt t_bad t_read t_pictured t_x t_all t_loud) (res) := by
  refine en_i (cc := cX11_foundMany) (maxL := 4) (own := RX11) (by decide) rfl rfl (Nat.le_of_ble_eq_true rfl) ?_
  intro p e s m args below meth c A Q H locs ls C0 hP hD hS hl HR
  obtain ⟨⟨hx, hb, hml, hown, hts⟩, hK, -⟩ := id C0
  have hl : lv_has ls 4 [(0, .ref (g_t 0)), (1, .int x1)] := hl
  unfold F_X11_foundMany at hF
  refine lv_iconst (v := 0) hx hb dX11_foundMany_0 (by decide) ?_
  refine lv_istore_n (lv' := [(2, .int (0 : Int32)), (0, .ref (g_t 0)), (1, .int x1)]) hx hb dX11_foundMany_1 rfl hl (by decide) rfl (fun ls hl => ?_)
  refine lv_iconst (v := 0) hx hb dX11_foundMany_2 (by decide) ?_
  refine lv_istore_n (lv' := [(3, .int (0 : Int32)), (2, .int (0 : Int32)), (0, .ref (g_t 0)), (1, .int x1)]) hx hb dX11_foundMany_3 rfl hl (by decide) rfl (fun ls hl => ?_)
  exact w_X11_foundMany_4 C0 HR fu_ x1 (0 : Int32) (0 : Int32) H locs ls hP hD hS (lv_sub hl [2, 3, 1, 0] rfl) hF

/-! StaggerRadarModel.echoesOf(I)I -/
abbrev rmX11_echoesOf : Room := { frames := 1, cells := 0, slots := 0, locals := 22 }
theorem iw_X11_echoesOf_X11 : ∀ w ∈ u_ws RX11 TX11 30, w ∈ wsX11_echoesOf := by decide +kernel
abbrev w_X11_echoesOf (K : Nat → ClassId) (g_t : Nat → Nat) (t_raised : Int32) (t_undos : Int32) (t_reached : Int32) (t_length : Int32) (t_begin : Int32) (t_sort : Int32) (t_value : Int32) (t_word : Int64) (t_wrongAt : Int32) (t_badAt : Int32) (t_bad : Int32) (t_read : Int32) (t_pictured : Int32) (t_x : Int32) (t_all : Nat → Int32) (t_loud : Nat → Int32) : va_W := [((g_t 0), .inr (10, [.int t_raised, .ref (g_t 2), .ref (g_t 3), .ref (g_t 4), .ref (g_t 5), .int t_undos, .int t_reached, .int t_length, .int t_begin, .int t_sort, .int t_value, .long t_word, .int t_wrongAt, .int t_badAt, .int t_bad, .ref (g_t 16), .int t_read, .ref (g_t 18), .ref (g_t 19), .ref (g_t 20), .int t_pictured, .ref (g_t 22), .ref (g_t 23), .ref (g_t 24), .ref (g_t 25), .ref (g_t 26), .int t_x, .ref (g_t 28), .ref (g_t 29), .ref (g_t 30)])), ((g_t 2), .inl (K 0, 500, .inl t_all)), ((g_t 18), .inl (K 0, 300, .inl t_loud))]
def L_X11_echoesOf_4 (t_all : Nat → Int32) (t_loud : Nat → Int32) : Nat → Int32 → Int32 → Int32 → Option (Int32)
  | 0, _, _, _ => none
  | n_ + 1, x1, x2, x3 =>
    (F_X11_gapAt t_all x1).bind fun r_1 => (if r_1 ≤ x3 then (some x2) else ((F_X11_isEcho t_all t_loud x1 x3).bind fun r_4 => (if r_4 = (0 : Int32) then (L_X11_echoesOf_4 t_all t_loud n_ x1 (x2 + (0 : Int32)) (x3 + (1 : Int32))) else (L_X11_echoesOf_4 t_all t_loud n_ x1 (x2 + (1 : Int32)) (x3 + (1 : Int32))))))
set_option maxHeartbeats 4000000 in
set_option maxRecDepth 100000 in
theorem w_X11_echoesOf_4 {p : Program} {l : Launch} {e : Env} {s : State} {m : MethodId} {args : Array Value} {below : List Frame} {meth : Method} {c : Code} {D : va_G} {K : Nat → ClassId} {A : Nat → Prop} {Q : State → Prop} (C0 : cx_ p s m args c cX11_echoesOf 4 RX11 wsX11_echoesOf D K A) {g_t : Nat → Nat} {t_raised : Int32} {t_undos : Int32} {t_reached : Int32} {t_length : Int32} {t_begin : Int32} {t_sort : Int32} {t_value : Int32} {t_word : Int64} {t_wrongAt : Int32} {t_badAt : Int32} {t_bad : Int32} {t_read : Int32} {t_pictured : Int32} {t_x : Int32} {t_all : Nat → Int32} {t_loud : Nat → Int32} {res : Int32} (HR : ∀ (pc : Nat) (H : Heap) (locs : List Loc) (ls : Array Slot), decode cX11_echoesOf pc = .ok (.ireturn, 1) → va_P D vwCl (w_X11_echoesOf K g_t t_raised t_undos t_reached t_length t_begin t_sort t_value t_word t_wrongAt t_badAt t_bad t_read t_pictured t_x t_all t_loud) H → va_D A (w_X11_echoesOf K g_t t_raised t_undos t_reached t_length t_begin t_sort t_value t_word t_wrongAt t_badAt t_bad t_read t_pictured t_x t_all t_loud) → va_S A s.heap H locs → W p l e rmX11_echoesOf s m args below meth c H locs 0 0 Q (F0 m pc ls [.int res]))  :
    ∀ (n_ : Nat) (x1 : Int32) (x2 : Int32) (x3 : Int32) (H : Heap) (locs : List Loc) (ls : Array Slot), va_P D vwCl (w_X11_echoesOf K g_t t_raised t_undos t_reached t_length t_begin t_sort t_value t_word t_wrongAt t_badAt t_bad t_read t_pictured t_x t_all t_loud) H → va_D A (w_X11_echoesOf K g_t t_raised t_undos t_reached t_length t_begin t_sort t_value t_word t_wrongAt t_badAt t_bad t_read t_pictured t_x t_all t_loud) → va_S A s.heap H locs → lv_has ls 4 [(0, .ref (g_t 0)), (1, .int x1), (2, .int x2), (3, .int x3)] → L_X11_echoesOf_4 t_all t_loud n_ x1 x2 x3 = some res → W p l e rmX11_echoesOf s m args below meth c H locs 0 0 Q (F0 m 4 ls []) := by
  obtain ⟨⟨hx, hb, hml, hown, hts⟩, hK, -⟩ := id C0
  intro n_
  induction n_ with
  | zero =>
    intro x1 x2 x3 H locs ls hP hD hS hl hF
    exact no_s (show (none : Option (Int32)) = some res from hF)
  | succ n_ ih =>
    intro x1 x2 x3 H locs ls hP hD hS hl hF
    rw [L_X11_echoesOf_4] at hF
    refine lv_iload_n hx hb dX11_echoesOf_4 rfl (lv_at hl 3 rfl) ?_
    refine lv_aload_n hx hb dX11_echoesOf_5 rfl (lv_at hl 0 rfl) ?_
    refine lv_iload_n hx hb dX11_echoesOf_6 rfl (lv_at hl 1 rfl) ?_
    obtain ⟨r_1, hc_2, hF⟩ := bn_some hF
    refine xc_i (wn := (w_X11_echoesOf K g_t t_raised t_undos t_reached t_length t_begin t_sort t_value t_word t_wrongAt t_badAt t_bad t_read t_pictured t_x t_all t_loud)) hP hD hS C0.2.2.1 [0, 1] [2] [1, 2, 0] rfl rfl (by decide) (by decide) rfl (by decide) (va_runV (As := [.int x1]) (rest := [.int x3]) C0.1 (c_X11_gapAt l D K g_t t_raised t_undos t_reached t_length t_begin t_sort t_value t_word t_wrongAt t_badAt t_bad t_read t_pictured t_x t_all x1 r_1 hc_2 H.size) (cwV 1 hts gX11_echoesOf_X11_gapAt rfl rfl rfl (by decide +kernel) ⟨Nat.le_of_ble_eq_true rfl, Nat.le_of_ble_eq_true rfl⟩) (xp_V C0.2 hP hD hS [0, 1] rfl (by decide) 10 0 rfl rfl rfl) rfl rfl hl.1 rfl (lv_room (Nat.le_of_ble_eq_true rfl)) dX11_echoesOf_7 ⟨Nat.le_of_ble_eq_true rfl, Nat.le_of_ble_eq_true rfl⟩) (fun H locs hP hD hS => ?_)
    refine lv_icmp_ge (tgt := 36) hx hb dX11_echoesOf_10 (by decide) (fun c_3 => ?_) (fun c_3 => ?_)
    · have hF := it_pos c_3 hF
      refine lv_iload_n hx hb dX11_echoesOf_36 rfl (lv_at hl 2 rfl) ?_
      obtain rfl := Option.some.inj hF
      exact HR 37 H locs ls dX11_echoesOf_37 hP hD hS
    · have hF := it_neg c_3 hF
      refine lv_iload_n hx hb dX11_echoesOf_13 rfl (lv_at hl 2 rfl) ?_
      refine lv_aload_n hx hb dX11_echoesOf_14 rfl (lv_at hl 0 rfl) ?_
      refine lv_iload_n hx hb dX11_echoesOf_15 rfl (lv_at hl 1 rfl) ?_
      refine lv_iload_n hx hb dX11_echoesOf_16 rfl (lv_at hl 3 rfl) ?_
      obtain ⟨r_4, hc_5, hF⟩ := bn_some hF
      refine xc_i (wn := (w_X11_echoesOf K g_t t_raised t_undos t_reached t_length t_begin t_sort t_value t_word t_wrongAt t_badAt t_bad t_read t_pictured t_x t_all t_loud)) hP hD hS C0.2.2.1 [0, 1, 2] [] [0, 1, 2] rfl rfl (by decide) (by decide) rfl (by decide) (va_runV (As := [.int x1, .int x3]) (rest := [.int x2]) C0.1 (c_X11_isEcho l D K g_t t_raised t_undos t_reached t_length t_begin t_sort t_value t_word t_wrongAt t_badAt t_bad t_read t_pictured t_x t_all t_loud x1 x3 r_4 hc_5 H.size) (cwV 2 hts gX11_echoesOf_X11_isEcho rfl rfl rfl (by decide +kernel) ⟨Nat.le_of_ble_eq_true rfl, Nat.le_of_ble_eq_true rfl⟩) (xp_V C0.2 hP hD hS [0, 1, 2] rfl (by decide) 10 0 rfl rfl rfl) rfl rfl hl.1 rfl (lv_room (Nat.le_of_ble_eq_true rfl)) dX11_echoesOf_17 ⟨Nat.le_of_ble_eq_true rfl, Nat.le_of_ble_eq_true rfl⟩) (fun H locs hP hD hS => ?_)
      refine lv_if_eq (tgt := 27) hx hb dX11_echoesOf_20 (by decide) (fun c_6 => ?_) (fun c_6 => ?_)
      · have hF := it_pos c_6 hF
        refine lv_iconst (v := 0) hx hb dX11_echoesOf_27 (by decide) ?_
        refine lv_iadd hx hb dX11_echoesOf_28 ?_
        refine lv_istore_n (lv' := [(2, .int (x2 + (0 : Int32))), (0, .ref (g_t 0)), (1, .int x1), (3, .int x3)]) hx hb dX11_echoesOf_29 rfl hl (by decide) rfl (fun ls hl => ?_)
        refine lv_iinc (v := (x3 + (1 : Int32))) (lv' := [(3, .int (x3 + (1 : Int32))), (2, .int (x2 + (0 : Int32))), (0, .ref (g_t 0)), (1, .int x1)]) hx hb dX11_echoesOf_30 hl (k := 3) rfl (congrArg (fun z => x3 + z) (by decide)) (by decide) rfl (fun ls hl => ?_)
        refine lv_goto (tgt := 4) hx hb dX11_echoesOf_33 (by decide) ?_
        exact ih x1 (x2 + (0 : Int32)) (x3 + (1 : Int32)) H locs ls hP hD hS (lv_sub hl [2, 3, 1, 0] rfl) hF
      · have hF := it_neg c_6 hF
        refine lv_iconst (v := 1) hx hb dX11_echoesOf_23 (by decide) ?_
        refine lv_goto (tgt := 28) hx hb dX11_echoesOf_24 (by decide) ?_
        refine lv_iadd hx hb dX11_echoesOf_28 ?_
        refine lv_istore_n (lv' := [(2, .int (x2 + (1 : Int32))), (0, .ref (g_t 0)), (1, .int x1), (3, .int x3)]) hx hb dX11_echoesOf_29 rfl hl (by decide) rfl (fun ls hl => ?_)
        refine lv_iinc (v := (x3 + (1 : Int32))) (lv' := [(3, .int (x3 + (1 : Int32))), (2, .int (x2 + (1 : Int32))), (0, .ref (g_t 0)), (1, .int x1)]) hx hb dX11_echoesOf_30 hl (k := 3) rfl (congrArg (fun z => x3 + z) (by decide)) (by decide) rfl (fun ls hl => ?_)
        refine lv_goto (tgt := 4) hx hb dX11_echoesOf_33 (by decide) ?_
        exact ih x1 (x2 + (1 : Int32)) (x3 + (1 : Int32)) H locs ls hP hD hS (lv_sub hl [2, 3, 1, 0] rfl) hF
def F_X11_echoesOf (t_all : Nat → Int32) (t_loud : Nat → Int32) (x1 : Int32) : Option (Int32) :=
  L_X11_echoesOf_4 t_all t_loud fu_ x1 (0 : Int32) (0 : Int32)
set_option maxHeartbeats 4000000 in
set_option maxRecDepth 100000 in
theorem c_X11_echoesOf (l : Launch) (D : va_G) (K : Nat → ClassId) (g_t : Nat → Nat) (t_raised : Int32) (t_undos : Int32) (t_reached : Int32) (t_length : Int32) (t_begin : Int32) (t_sort : Int32) (t_value : Int32) (t_word : Int64) (t_wrongAt : Int32) (t_badAt : Int32) (t_bad : Int32) (t_read : Int32) (t_pictured : Int32) (t_x : Int32) (t_all : Nat → Int32) (t_loud : Nat → Int32) (x1 : Int32) (res : Int32) (hF : F_X11_echoesOf t_all t_loud x1 = some res) :
    Mi_ l yX11_echoesOf wsX11_echoesOf rmX11_echoesOf D K [.ref (g_t 0), .int x1] (w_X11_echoesOf K g_t t_raised t_undos t_reached t_length t_begin t_sort t_value t_word t_wrongAt t_badAt t_bad t_read t_pictured t_x t_all t_loud) (w_X11_echoesOf K g_t t_raised t_undos t_reached t_length t_begin t_sort t_value t_word t_wrongAt t_badAt t_bad t_read t_pictured t_x t_all t_loud) (res) := by
  refine en_i (cc := cX11_echoesOf) (maxL := 4) (own := RX11) (by decide) rfl rfl (Nat.le_of_ble_eq_true rfl) ?_
  intro p e s m args below meth c A Q H locs ls C0 hP hD hS hl HR
  obtain ⟨⟨hx, hb, hml, hown, hts⟩, hK, -⟩ := id C0
  have hl : lv_has ls 4 [(0, .ref (g_t 0)), (1, .int x1)] := hl
  unfold F_X11_echoesOf at hF
  refine lv_iconst (v := 0) hx hb dX11_echoesOf_0 (by decide) ?_
  refine lv_istore_n (lv' := [(2, .int (0 : Int32)), (0, .ref (g_t 0)), (1, .int x1)]) hx hb dX11_echoesOf_1 rfl hl (by decide) rfl (fun ls hl => ?_)
  refine lv_iconst (v := 0) hx hb dX11_echoesOf_2 (by decide) ?_
  refine lv_istore_n (lv' := [(3, .int (0 : Int32)), (2, .int (0 : Int32)), (0, .ref (g_t 0)), (1, .int x1)]) hx hb dX11_echoesOf_3 rfl hl (by decide) rfl (fun ls hl => ?_)
  exact w_X11_echoesOf_4 C0 HR fu_ x1 (0 : Int32) (0 : Int32) H locs ls hP hD hS (lv_sub hl [2, 3, 1, 0] rfl) hF

/-! StaggerRadarModel.echoes()I -/
abbrev rmX11_echoes : Room := { frames := 2, cells := 0, slots := 0, locals := 45 }
theorem fl_X11_echoes_7 : Cond.fieldLink RX11 7 "StaggerRadarModel" "all" "[I" ∈ wsX11_echoes := by decide +kernel
theorem iw_X11_echoes_X11 : ∀ w ∈ u_ws RX11 TX11 30, w ∈ wsX11_echoes := by decide +kernel
abbrev w_X11_echoes (K : Nat → ClassId) (g_t : Nat → Nat) (t_raised : Int32) (t_undos : Int32) (t_reached : Int32) (t_length : Int32) (t_begin : Int32) (t_sort : Int32) (t_value : Int32) (t_word : Int64) (t_wrongAt : Int32) (t_badAt : Int32) (t_bad : Int32) (t_read : Int32) (t_pictured : Int32) (t_x : Int32) (t_all : Nat → Int32) (t_loud : Nat → Int32) : va_W := [((g_t 0), .inr (10, [.int t_raised, .ref (g_t 2), .ref (g_t 3), .ref (g_t 4), .ref (g_t 5), .int t_undos, .int t_reached, .int t_length, .int t_begin, .int t_sort, .int t_value, .long t_word, .int t_wrongAt, .int t_badAt, .int t_bad, .ref (g_t 16), .int t_read, .ref (g_t 18), .ref (g_t 19), .ref (g_t 20), .int t_pictured, .ref (g_t 22), .ref (g_t 23), .ref (g_t 24), .ref (g_t 25), .ref (g_t 26), .int t_x, .ref (g_t 28), .ref (g_t 29), .ref (g_t 30)])), ((g_t 2), .inl (K 0, 500, .inl t_all)), ((g_t 18), .inl (K 0, 300, .inl t_loud))]
def L_X11_echoes_4 (t_all : Nat → Int32) (t_loud : Nat → Int32) : Nat → Int32 → Int32 → Option (Int32)
  | 0, _, _ => none
  | n_ + 1, x1, x2 =>
    if (t_all 0) ≤ x2 then (some x1) else ((F_X11_echoesOf t_all t_loud x2).bind fun r_2 => (L_X11_echoes_4 t_all t_loud n_ (x1 + r_2) (x2 + (1 : Int32))))
set_option maxHeartbeats 4000000 in
set_option maxRecDepth 100000 in
theorem w_X11_echoes_4 {p : Program} {l : Launch} {e : Env} {s : State} {m : MethodId} {args : Array Value} {below : List Frame} {meth : Method} {c : Code} {D : va_G} {K : Nat → ClassId} {A : Nat → Prop} {Q : State → Prop} (C0 : cx_ p s m args c cX11_echoes 3 RX11 wsX11_echoes D K A) {g_t : Nat → Nat} {t_raised : Int32} {t_undos : Int32} {t_reached : Int32} {t_length : Int32} {t_begin : Int32} {t_sort : Int32} {t_value : Int32} {t_word : Int64} {t_wrongAt : Int32} {t_badAt : Int32} {t_bad : Int32} {t_read : Int32} {t_pictured : Int32} {t_x : Int32} {t_all : Nat → Int32} {t_loud : Nat → Int32} {res : Int32} (HR : ∀ (pc : Nat) (H : Heap) (locs : List Loc) (ls : Array Slot), decode cX11_echoes pc = .ok (.ireturn, 1) → va_P D vwCl (w_X11_echoes K g_t t_raised t_undos t_reached t_length t_begin t_sort t_value t_word t_wrongAt t_badAt t_bad t_read t_pictured t_x t_all t_loud) H → va_D A (w_X11_echoes K g_t t_raised t_undos t_reached t_length t_begin t_sort t_value t_word t_wrongAt t_badAt t_bad t_read t_pictured t_x t_all t_loud) → va_S A s.heap H locs → W p l e rmX11_echoes s m args below meth c H locs 0 0 Q (F0 m pc ls [.int res]))  :
    ∀ (n_ : Nat) (x1 : Int32) (x2 : Int32) (H : Heap) (locs : List Loc) (ls : Array Slot), va_P D vwCl (w_X11_echoes K g_t t_raised t_undos t_reached t_length t_begin t_sort t_value t_word t_wrongAt t_badAt t_bad t_read t_pictured t_x t_all t_loud) H → va_D A (w_X11_echoes K g_t t_raised t_undos t_reached t_length t_begin t_sort t_value t_word t_wrongAt t_badAt t_bad t_read t_pictured t_x t_all t_loud) → va_S A s.heap H locs → lv_has ls 3 [(0, .ref (g_t 0)), (1, .int x1), (2, .int x2)] → L_X11_echoes_4 t_all t_loud n_ x1 x2 = some res → W p l e rmX11_echoes s m args below meth c H locs 0 0 Q (F0 m 4 ls []) := by
  obtain ⟨⟨hx, hb, hml, hown, hts⟩, hK, -⟩ := id C0
  intro n_
  induction n_ with
  | zero =>
    intro x1 x2 H locs ls hP hD hS hl hF
    exact no_s (show (none : Option (Int32)) = some res from hF)
  | succ n_ ih =>
    intro x1 x2 H locs ls hP hD hS hl hF
    rw [L_X11_echoes_4] at hF
    refine lv_iload_n hx hb dX11_echoes_4 rfl (lv_at hl 2 rfl) ?_
    refine lv_aload_n hx hb dX11_echoes_5 rfl (lv_at hl 0 rfl) ?_
    refine va_get (D := D) (ci := 10) (v := .ref (g_t 2)) (C := RX11) (T := TX11) (N := 30) hx hb hts iw_X11_echoes_X11 hown hK hP 0 rfl rfl 1 (by decide) (hts _ fl_X11_echoes_7) (fun _ h9 => h9) rfl dX11_echoes_6 ?_
    refine lv_iconst (v := 0) hx hb dX11_echoes_9 (by decide) ?_
    refine xl_i (f := t_all) hx hb hK hP 1 0 rfl rfl (k := 0) (by decide) (in_v (by decide)) dX11_echoes_10 ?_
    refine lv_icmp_ge (tgt := 28) hx hb dX11_echoes_11 (by decide) (fun c_1 => ?_) (fun c_1 => ?_)
    · have hF := it_pos c_1 hF
      refine lv_iload_n hx hb dX11_echoes_28 rfl (lv_at hl 1 rfl) ?_
      obtain rfl := Option.some.inj hF
      exact HR 29 H locs ls dX11_echoes_29 hP hD hS
    · have hF := it_neg c_1 hF
      refine lv_iload_n hx hb dX11_echoes_14 rfl (lv_at hl 1 rfl) ?_
      refine lv_aload_n hx hb dX11_echoes_15 rfl (lv_at hl 0 rfl) ?_
      refine lv_iload_n hx hb dX11_echoes_16 rfl (lv_at hl 2 rfl) ?_
      obtain ⟨r_2, hc_3, hF⟩ := bn_some hF
      refine xc_i (wn := (w_X11_echoes K g_t t_raised t_undos t_reached t_length t_begin t_sort t_value t_word t_wrongAt t_badAt t_bad t_read t_pictured t_x t_all t_loud)) hP hD hS C0.2.2.1 [0, 1, 2] [] [0, 1, 2] rfl rfl (by decide) (by decide) rfl (by decide) (va_runV (As := [.int x2]) (rest := [.int x1]) C0.1 (c_X11_echoesOf l D K g_t t_raised t_undos t_reached t_length t_begin t_sort t_value t_word t_wrongAt t_badAt t_bad t_read t_pictured t_x t_all t_loud x2 r_2 hc_3 H.size) (cwV 1 hts gX11_echoes_X11_echoesOf rfl rfl rfl (by decide +kernel) ⟨Nat.le_of_ble_eq_true rfl, Nat.le_of_ble_eq_true rfl⟩) (xp_V C0.2 hP hD hS [0, 1, 2] rfl (by decide) 10 0 rfl rfl rfl) rfl rfl hl.1 rfl (lv_room (Nat.le_of_ble_eq_true rfl)) dX11_echoes_17 ⟨Nat.le_of_ble_eq_true rfl, Nat.le_of_ble_eq_true rfl⟩) (fun H locs hP hD hS => ?_)
      refine lv_iadd hx hb dX11_echoes_20 ?_
      refine lv_istore_n (lv' := [(1, .int (x1 + r_2)), (0, .ref (g_t 0)), (2, .int x2)]) hx hb dX11_echoes_21 rfl hl (by decide) rfl (fun ls hl => ?_)
      refine lv_iinc (v := (x2 + (1 : Int32))) (lv' := [(2, .int (x2 + (1 : Int32))), (1, .int (x1 + r_2)), (0, .ref (g_t 0))]) hx hb dX11_echoes_22 hl (k := 2) rfl (congrArg (fun z => x2 + z) (by decide)) (by decide) rfl (fun ls hl => ?_)
      refine lv_goto (tgt := 4) hx hb dX11_echoes_25 (by decide) ?_
      exact ih (x1 + r_2) (x2 + (1 : Int32)) H locs ls hP hD hS (lv_sub hl [2, 1, 0] rfl) hF
def F_X11_echoes (t_all : Nat → Int32) (t_loud : Nat → Int32) : Option (Int32) :=
  L_X11_echoes_4 t_all t_loud fu_ (0 : Int32) (0 : Int32)
set_option maxHeartbeats 4000000 in
set_option maxRecDepth 100000 in
theorem c_X11_echoes (l : Launch) (D : va_G) (K : Nat → ClassId) (g_t : Nat → Nat) (t_raised : Int32) (t_undos : Int32) (t_reached : Int32) (t_length : Int32) (t_begin : Int32) (t_sort : Int32) (t_value : Int32) (t_word : Int64) (t_wrongAt : Int32) (t_badAt : Int32) (t_bad : Int32) (t_read : Int32) (t_pictured : Int32) (t_x : Int32) (t_all : Nat → Int32) (t_loud : Nat → Int32) (res : Int32) (hF : F_X11_echoes t_all t_loud = some res) :
    Mi_ l yX11_echoes wsX11_echoes rmX11_echoes D K [.ref (g_t 0)] (w_X11_echoes K g_t t_raised t_undos t_reached t_length t_begin t_sort t_value t_word t_wrongAt t_badAt t_bad t_read t_pictured t_x t_all t_loud) (w_X11_echoes K g_t t_raised t_undos t_reached t_length t_begin t_sort t_value t_word t_wrongAt t_badAt t_bad t_read t_pictured t_x t_all t_loud) (res) := by
  refine en_i (cc := cX11_echoes) (maxL := 3) (own := RX11) (by decide) rfl rfl (Nat.le_of_ble_eq_true rfl) ?_
  intro p e s m args below meth c A Q H locs ls C0 hP hD hS hl HR
  obtain ⟨⟨hx, hb, hml, hown, hts⟩, hK, -⟩ := id C0
  have hl : lv_has ls 3 [(0, .ref (g_t 0))] := hl
  unfold F_X11_echoes at hF
  refine lv_iconst (v := 0) hx hb dX11_echoes_0 (by decide) ?_
  refine lv_istore_n (lv' := [(1, .int (0 : Int32)), (0, .ref (g_t 0))]) hx hb dX11_echoes_1 rfl hl (by decide) rfl (fun ls hl => ?_)
  refine lv_iconst (v := 0) hx hb dX11_echoes_2 (by decide) ?_
  refine lv_istore_n (lv' := [(2, .int (0 : Int32)), (1, .int (0 : Int32)), (0, .ref (g_t 0))]) hx hb dX11_echoes_3 rfl hl (by decide) rfl (fun ls hl => ?_)
  exact w_X11_echoes_4 C0 HR fu_ (0 : Int32) (0 : Int32) H locs ls hP hD hS (lv_sub hl [2, 1, 0] rfl) hF

/-! StaggerRadarModel.isDark(I)Z -/
abbrev rmX11_isDark : Room := { frames := 3, cells := 0, slots := 0, locals := 68 }
theorem fl_X11_isDark_7 : Cond.fieldLink RX11 7 "StaggerRadarModel" "all" "[I" ∈ wsX11_isDark := by decide +kernel
theorem iw_X11_isDark_X11 : ∀ w ∈ u_ws RX11 TX11 30, w ∈ wsX11_isDark := by decide +kernel
abbrev w_X11_isDark (K : Nat → ClassId) (g_t : Nat → Nat) (t_raised : Int32) (t_undos : Int32) (t_reached : Int32) (t_length : Int32) (t_begin : Int32) (t_sort : Int32) (t_value : Int32) (t_word : Int64) (t_wrongAt : Int32) (t_badAt : Int32) (t_bad : Int32) (t_read : Int32) (t_pictured : Int32) (t_x : Int32) (t_all : Nat → Int32) : va_W := [((g_t 0), .inr (10, [.int t_raised, .ref (g_t 2), .ref (g_t 3), .ref (g_t 4), .ref (g_t 5), .int t_undos, .int t_reached, .int t_length, .int t_begin, .int t_sort, .int t_value, .long t_word, .int t_wrongAt, .int t_badAt, .int t_bad, .ref (g_t 16), .int t_read, .ref (g_t 18), .ref (g_t 19), .ref (g_t 20), .int t_pictured, .ref (g_t 22), .ref (g_t 23), .ref (g_t 24), .ref (g_t 25), .ref (g_t 26), .int t_x, .ref (g_t 28), .ref (g_t 29), .ref (g_t 30)])), ((g_t 2), .inl (K 0, 500, .inl t_all))]
def F_X11_isDark (t_all : Nat → Int32) (x1 : Int32) : Option (Int32) :=
  (F_X11_blindBits t_all x1).bind fun r_1 => ((F_X11_ones r_1).bind fun r_3 => (if (t_all 10) ≤ ((t_all 0) - r_3) then (some (0 : Int32)) else (some (1 : Int32))))
set_option maxHeartbeats 4000000 in
set_option maxRecDepth 100000 in
theorem c_X11_isDark (l : Launch) (D : va_G) (K : Nat → ClassId) (g_t : Nat → Nat) (t_raised : Int32) (t_undos : Int32) (t_reached : Int32) (t_length : Int32) (t_begin : Int32) (t_sort : Int32) (t_value : Int32) (t_word : Int64) (t_wrongAt : Int32) (t_badAt : Int32) (t_bad : Int32) (t_read : Int32) (t_pictured : Int32) (t_x : Int32) (t_all : Nat → Int32) (x1 : Int32) (res : Int32) (hF : F_X11_isDark t_all x1 = some res) :
    Mi_ l yX11_isDark wsX11_isDark rmX11_isDark D K [.ref (g_t 0), .int x1] (w_X11_isDark K g_t t_raised t_undos t_reached t_length t_begin t_sort t_value t_word t_wrongAt t_badAt t_bad t_read t_pictured t_x t_all) (w_X11_isDark K g_t t_raised t_undos t_reached t_length t_begin t_sort t_value t_word t_wrongAt t_badAt t_bad t_read t_pictured t_x t_all) (res) := by
  refine en_z (cc := cX11_isDark) (maxL := 2) (own := RX11) (by decide) rfl rfl (Nat.le_of_ble_eq_true rfl) ?_
  intro p e s m args below meth c A Q H locs ls C0 hP hD hS hl HR
  obtain ⟨⟨hx, hb, hml, hown, hts⟩, hK, -⟩ := id C0
  have hl : lv_has ls 2 [(0, .ref (g_t 0)), (1, .int x1)] := hl
  unfold F_X11_isDark at hF
  refine lv_aload_n hx hb dX11_isDark_0 rfl (lv_at hl 0 rfl) ?_
  refine va_get (D := D) (ci := 10) (v := .ref (g_t 2)) (C := RX11) (T := TX11) (N := 30) hx hb hts iw_X11_isDark_X11 hown hK hP 0 rfl rfl 1 (by decide) (hts _ fl_X11_isDark_7) (fun _ h9 => h9) rfl dX11_isDark_1 ?_
  refine lv_iconst (v := 0) hx hb dX11_isDark_4 (by decide) ?_
  refine xl_i (f := t_all) hx hb hK hP 1 0 rfl rfl (k := 0) (by decide) (in_v (by decide)) dX11_isDark_5 ?_
  refine lv_aload_n hx hb dX11_isDark_6 rfl (lv_at hl 0 rfl) ?_
  refine lv_iload_n hx hb dX11_isDark_7 rfl (lv_at hl 1 rfl) ?_
  obtain ⟨r_1, hc_2, hF⟩ := bn_some hF
  refine xc_i (wn := (w_X11_isDark K g_t t_raised t_undos t_reached t_length t_begin t_sort t_value t_word t_wrongAt t_badAt t_bad t_read t_pictured t_x t_all)) hP hD hS C0.2.2.1 [0, 1] [] [0, 1] rfl rfl (by decide) (by decide) rfl (by decide) (va_runV (As := [.int x1]) (rest := [.int (t_all 0)]) C0.1 (c_X11_blindBits l D K g_t t_raised t_undos t_reached t_length t_begin t_sort t_value t_word t_wrongAt t_badAt t_bad t_read t_pictured t_x t_all x1 r_1 hc_2 H.size) (cwV 1 hts gX11_isDark_X11_blindBits rfl rfl rfl (by decide +kernel) ⟨Nat.le_of_ble_eq_true rfl, Nat.le_of_ble_eq_true rfl⟩) (xp_V C0.2 hP hD hS [0, 1] rfl (by decide) 10 0 rfl rfl rfl) rfl rfl hl.1 rfl (lv_room (Nat.le_of_ble_eq_true rfl)) dX11_isDark_8 ⟨Nat.le_of_ble_eq_true rfl, Nat.le_of_ble_eq_true rfl⟩) (fun H locs hP hD hS => ?_)
  obtain ⟨r_3, hc_4, hF⟩ := bn_some hF
  refine xc_i (wn := (w_X11_isDark K g_t t_raised t_undos t_reached t_length t_begin t_sort t_value t_word t_wrongAt t_badAt t_bad t_read t_pictured t_x t_all)) hP hD hS C0.2.2.1 [] [0, 1] [0, 1] rfl rfl (by decide) (by decide) rfl (by decide) (va_runS (As := [.int r_1]) (rest := [.int (t_all 0)]) C0.1 (c_X11_ones l D K r_1 r_3 hc_4 H.size) (va_cwS 1 hts gX11_isDark_X11_ones rfl rfl rfl (by decide +kernel) ⟨Nat.le_of_ble_eq_true rfl, Nat.le_of_ble_eq_true rfl⟩) (xp_S C0.2 hP hD hS [] rfl (by decide)) rfl rfl hl.1 rfl (lv_room (Nat.le_of_ble_eq_true rfl)) dX11_isDark_11 ⟨Nat.le_of_ble_eq_true rfl, Nat.le_of_ble_eq_true rfl⟩) (fun H locs hP hD hS => ?_)
  refine lv_isub hx hb dX11_isDark_14 ?_
  refine lv_aload_n hx hb dX11_isDark_15 rfl (lv_at hl 0 rfl) ?_
  refine va_get (D := D) (ci := 10) (v := .ref (g_t 2)) (C := RX11) (T := TX11) (N := 30) hx hb hts iw_X11_isDark_X11 hown hK hP 0 rfl rfl 1 (by decide) (hts _ fl_X11_isDark_7) (fun _ h9 => h9) rfl dX11_isDark_16 ?_
  refine lv_bipush (v := 10) hx hb dX11_isDark_19 (by decide) ?_
  refine xl_i (f := t_all) hx hb hK hP 1 0 rfl rfl (k := 10) (by decide) (in_v (by decide)) dX11_isDark_21 ?_
  refine lv_icmp_ge (tgt := 29) hx hb dX11_isDark_22 (by decide) (fun c_5 => ?_) (fun c_5 => ?_)
  · have hF := it_pos c_5 hF
    refine lv_iconst (v := 0) hx hb dX11_isDark_29 (by decide) ?_
    obtain rfl := Option.some.inj hF
    exact HR 30 H locs ls dX11_isDark_30 narrow_b0 hP hD hS
  · have hF := it_neg c_5 hF
    refine lv_iconst (v := 1) hx hb dX11_isDark_25 (by decide) ?_
    refine lv_goto (tgt := 30) hx hb dX11_isDark_26 (by decide) ?_
    obtain rfl := Option.some.inj hF
    exact HR 30 H locs ls dX11_isDark_30 narrow_b1 hP hD hS

/-! StaggerRadarModel.darkMany()I -/
abbrev rmX11_darkMany : Room := { frames := 4, cells := 0, slots := 0, locals := 89 }
theorem fl_X11_darkMany_7 : Cond.fieldLink RX11 7 "StaggerRadarModel" "all" "[I" ∈ wsX11_darkMany := by decide +kernel
theorem iw_X11_darkMany_X11 : ∀ w ∈ u_ws RX11 TX11 30, w ∈ wsX11_darkMany := by decide +kernel
abbrev w_X11_darkMany (K : Nat → ClassId) (g_t : Nat → Nat) (t_raised : Int32) (t_undos : Int32) (t_reached : Int32) (t_length : Int32) (t_begin : Int32) (t_sort : Int32) (t_value : Int32) (t_word : Int64) (t_wrongAt : Int32) (t_badAt : Int32) (t_bad : Int32) (t_read : Int32) (t_pictured : Int32) (t_x : Int32) (t_all : Nat → Int32) : va_W := [((g_t 0), .inr (10, [.int t_raised, .ref (g_t 2), .ref (g_t 3), .ref (g_t 4), .ref (g_t 5), .int t_undos, .int t_reached, .int t_length, .int t_begin, .int t_sort, .int t_value, .long t_word, .int t_wrongAt, .int t_badAt, .int t_bad, .ref (g_t 16), .int t_read, .ref (g_t 18), .ref (g_t 19), .ref (g_t 20), .int t_pictured, .ref (g_t 22), .ref (g_t 23), .ref (g_t 24), .ref (g_t 25), .ref (g_t 26), .int t_x, .ref (g_t 28), .ref (g_t 29), .ref (g_t 30)])), ((g_t 2), .inl (K 0, 500, .inl t_all))]
def L_X11_darkMany_4 (t_all : Nat → Int32) : Nat → Int32 → Int32 → Option (Int32)
  | 0, _, _ => none
  | n_ + 1, x1, x2 =>
    if (t_all 11) < x2 then (some x1) else ((F_X11_isDark t_all x2).bind fun r_2 => (if r_2 = (0 : Int32) then (L_X11_darkMany_4 t_all n_ (x1 + (0 : Int32)) (x2 + (1 : Int32))) else (L_X11_darkMany_4 t_all n_ (x1 + (1 : Int32)) (x2 + (1 : Int32)))))
set_option maxHeartbeats 4000000 in
set_option maxRecDepth 100000 in
theorem w_X11_darkMany_4 {p : Program} {l : Launch} {e : Env} {s : State} {m : MethodId} {args : Array Value} {below : List Frame} {meth : Method} {c : Code} {D : va_G} {K : Nat → ClassId} {A : Nat → Prop} {Q : State → Prop} (C0 : cx_ p s m args c cX11_darkMany 3 RX11 wsX11_darkMany D K A) {g_t : Nat → Nat} {t_raised : Int32} {t_undos : Int32} {t_reached : Int32} {t_length : Int32} {t_begin : Int32} {t_sort : Int32} {t_value : Int32} {t_word : Int64} {t_wrongAt : Int32} {t_badAt : Int32} {t_bad : Int32} {t_read : Int32} {t_pictured : Int32} {t_x : Int32} {t_all : Nat → Int32} {res : Int32} (HR : ∀ (pc : Nat) (H : Heap) (locs : List Loc) (ls : Array Slot), decode cX11_darkMany pc = .ok (.ireturn, 1) → va_P D vwCl (w_X11_darkMany K g_t t_raised t_undos t_reached t_length t_begin t_sort t_value t_word t_wrongAt t_badAt t_bad t_read t_pictured t_x t_all) H → va_D A (w_X11_darkMany K g_t t_raised t_undos t_reached t_length t_begin t_sort t_value t_word t_wrongAt t_badAt t_bad t_read t_pictured t_x t_all) → va_S A s.heap H locs → W p l e rmX11_darkMany s m args below meth c H locs 0 0 Q (F0 m pc ls [.int res]))  :
    ∀ (n_ : Nat) (x1 : Int32) (x2 : Int32) (H : Heap) (locs : List Loc) (ls : Array Slot), va_P D vwCl (w_X11_darkMany K g_t t_raised t_undos t_reached t_length t_begin t_sort t_value t_word t_wrongAt t_badAt t_bad t_read t_pictured t_x t_all) H → va_D A (w_X11_darkMany K g_t t_raised t_undos t_reached t_length t_begin t_sort t_value t_word t_wrongAt t_badAt t_bad t_read t_pictured t_x t_all) → va_S A s.heap H locs → lv_has ls 3 [(0, .ref (g_t 0)), (1, .int x1), (2, .int x2)] → L_X11_darkMany_4 t_all n_ x1 x2 = some res → W p l e rmX11_darkMany s m args below meth c H locs 0 0 Q (F0 m 4 ls []) := by
  obtain ⟨⟨hx, hb, hml, hown, hts⟩, hK, -⟩ := id C0
  intro n_
  induction n_ with
  | zero =>
    intro x1 x2 H locs ls hP hD hS hl hF
    exact no_s (show (none : Option (Int32)) = some res from hF)
  | succ n_ ih =>
    intro x1 x2 H locs ls hP hD hS hl hF
    rw [L_X11_darkMany_4] at hF
    refine lv_iload_n hx hb dX11_darkMany_4 rfl (lv_at hl 2 rfl) ?_
    refine lv_aload_n hx hb dX11_darkMany_5 rfl (lv_at hl 0 rfl) ?_
    refine va_get (D := D) (ci := 10) (v := .ref (g_t 2)) (C := RX11) (T := TX11) (N := 30) hx hb hts iw_X11_darkMany_X11 hown hK hP 0 rfl rfl 1 (by decide) (hts _ fl_X11_darkMany_7) (fun _ h9 => h9) rfl dX11_darkMany_6 ?_
    refine lv_bipush (v := 11) hx hb dX11_darkMany_9 (by decide) ?_
    refine xl_i (f := t_all) hx hb hK hP 1 0 rfl rfl (k := 11) (by decide) (in_v (by decide)) dX11_darkMany_11 ?_
    refine lv_icmp_gt (tgt := 37) hx hb dX11_darkMany_12 (by decide) (fun c_1 => ?_) (fun c_1 => ?_)
    · have hF := it_pos c_1 hF
      refine lv_iload_n hx hb dX11_darkMany_37 rfl (lv_at hl 1 rfl) ?_
      obtain rfl := Option.some.inj hF
      exact HR 38 H locs ls dX11_darkMany_38 hP hD hS
    · have hF := it_neg c_1 hF
      refine lv_iload_n hx hb dX11_darkMany_15 rfl (lv_at hl 1 rfl) ?_
      refine lv_aload_n hx hb dX11_darkMany_16 rfl (lv_at hl 0 rfl) ?_
      refine lv_iload_n hx hb dX11_darkMany_17 rfl (lv_at hl 2 rfl) ?_
      obtain ⟨r_2, hc_3, hF⟩ := bn_some hF
      refine xc_i (wn := (w_X11_darkMany K g_t t_raised t_undos t_reached t_length t_begin t_sort t_value t_word t_wrongAt t_badAt t_bad t_read t_pictured t_x t_all)) hP hD hS C0.2.2.1 [0, 1] [] [0, 1] rfl rfl (by decide) (by decide) rfl (by decide) (va_runV (As := [.int x2]) (rest := [.int x1]) C0.1 (c_X11_isDark l D K g_t t_raised t_undos t_reached t_length t_begin t_sort t_value t_word t_wrongAt t_badAt t_bad t_read t_pictured t_x t_all x2 r_2 hc_3 H.size) (cwV 1 hts gX11_darkMany_X11_isDark rfl rfl rfl (by decide +kernel) ⟨Nat.le_of_ble_eq_true rfl, Nat.le_of_ble_eq_true rfl⟩) (xp_V C0.2 hP hD hS [0, 1] rfl (by decide) 10 0 rfl rfl rfl) rfl rfl hl.1 rfl (lv_room (Nat.le_of_ble_eq_true rfl)) dX11_darkMany_18 ⟨Nat.le_of_ble_eq_true rfl, Nat.le_of_ble_eq_true rfl⟩) (fun H locs hP hD hS => ?_)
      refine lv_if_eq (tgt := 28) hx hb dX11_darkMany_21 (by decide) (fun c_4 => ?_) (fun c_4 => ?_)
      · have hF := it_pos c_4 hF
        refine lv_iconst (v := 0) hx hb dX11_darkMany_28 (by decide) ?_
        refine lv_iadd hx hb dX11_darkMany_29 ?_
        refine lv_istore_n (lv' := [(1, .int (x1 + (0 : Int32))), (0, .ref (g_t 0)), (2, .int x2)]) hx hb dX11_darkMany_30 rfl hl (by decide) rfl (fun ls hl => ?_)
        refine lv_iinc (v := (x2 + (1 : Int32))) (lv' := [(2, .int (x2 + (1 : Int32))), (1, .int (x1 + (0 : Int32))), (0, .ref (g_t 0))]) hx hb dX11_darkMany_31 hl (k := 2) rfl (congrArg (fun z => x2 + z) (by decide)) (by decide) rfl (fun ls hl => ?_)
        refine lv_goto (tgt := 4) hx hb dX11_darkMany_34 (by decide) ?_
        exact ih (x1 + (0 : Int32)) (x2 + (1 : Int32)) H locs ls hP hD hS (lv_sub hl [2, 1, 0] rfl) hF
      · have hF := it_neg c_4 hF
        refine lv_iconst (v := 1) hx hb dX11_darkMany_24 (by decide) ?_
        refine lv_goto (tgt := 29) hx hb dX11_darkMany_25 (by decide) ?_
        refine lv_iadd hx hb dX11_darkMany_29 ?_
        refine lv_istore_n (lv' := [(1, .int (x1 + (1 : Int32))), (0, .ref (g_t 0)), (2, .int x2)]) hx hb dX11_darkMany_30 rfl hl (by decide) rfl (fun ls hl => ?_)
        refine lv_iinc (v := (x2 + (1 : Int32))) (lv' := [(2, .int (x2 + (1 : Int32))), (1, .int (x1 + (1 : Int32))), (0, .ref (g_t 0))]) hx hb dX11_darkMany_31 hl (k := 2) rfl (congrArg (fun z => x2 + z) (by decide)) (by decide) rfl (fun ls hl => ?_)
        refine lv_goto (tgt := 4) hx hb dX11_darkMany_34 (by decide) ?_
        exact ih (x1 + (1 : Int32)) (x2 + (1 : Int32)) H locs ls hP hD hS (lv_sub hl [2, 1, 0] rfl) hF
def F_X11_darkMany (t_all : Nat → Int32) : Option (Int32) :=
  L_X11_darkMany_4 t_all fu_ (0 : Int32) (1 : Int32)
set_option maxHeartbeats 4000000 in
set_option maxRecDepth 100000 in
theorem c_X11_darkMany (l : Launch) (D : va_G) (K : Nat → ClassId) (g_t : Nat → Nat) (t_raised : Int32) (t_undos : Int32) (t_reached : Int32) (t_length : Int32) (t_begin : Int32) (t_sort : Int32) (t_value : Int32) (t_word : Int64) (t_wrongAt : Int32) (t_badAt : Int32) (t_bad : Int32) (t_read : Int32) (t_pictured : Int32) (t_x : Int32) (t_all : Nat → Int32) (res : Int32) (hF : F_X11_darkMany t_all = some res) :
    Mi_ l yX11_darkMany wsX11_darkMany rmX11_darkMany D K [.ref (g_t 0)] (w_X11_darkMany K g_t t_raised t_undos t_reached t_length t_begin t_sort t_value t_word t_wrongAt t_badAt t_bad t_read t_pictured t_x t_all) (w_X11_darkMany K g_t t_raised t_undos t_reached t_length t_begin t_sort t_value t_word t_wrongAt t_badAt t_bad t_read t_pictured t_x t_all) (res) := by
  refine en_i (cc := cX11_darkMany) (maxL := 3) (own := RX11) (by decide) rfl rfl (Nat.le_of_ble_eq_true rfl) ?_
  intro p e s m args below meth c A Q H locs ls C0 hP hD hS hl HR
  obtain ⟨⟨hx, hb, hml, hown, hts⟩, hK, -⟩ := id C0
  have hl : lv_has ls 3 [(0, .ref (g_t 0))] := hl
  unfold F_X11_darkMany at hF
  refine lv_iconst (v := 0) hx hb dX11_darkMany_0 (by decide) ?_
  refine lv_istore_n (lv' := [(1, .int (0 : Int32)), (0, .ref (g_t 0))]) hx hb dX11_darkMany_1 rfl hl (by decide) rfl (fun ls hl => ?_)
  refine lv_iconst (v := 1) hx hb dX11_darkMany_2 (by decide) ?_
  refine lv_istore_n (lv' := [(2, .int (1 : Int32)), (1, .int (0 : Int32)), (0, .ref (g_t 0))]) hx hb dX11_darkMany_3 rfl hl (by decide) rfl (fun ls hl => ?_)
  exact w_X11_darkMany_4 C0 HR fu_ (0 : Int32) (1 : Int32) H locs ls hP hD hS (lv_sub hl [2, 1, 0] rfl) hF

/-! StaggerRadarModel.count(I)I -/
abbrev rmX11_count : Room := { frames := 5, cells := 0, slots := 0, locals := 111 }
theorem fl_X11_count_7 : Cond.fieldLink RX11 7 "StaggerRadarModel" "all" "[I" ∈ wsX11_count := by decide +kernel
theorem fl_X11_count_66 : Cond.fieldLink RX11 66 "StaggerRadarModel" "raised" "I" ∈ wsX11_count := by decide +kernel
theorem fl_X11_count_176 : Cond.fieldLink RX11 176 "StaggerRadarModel" "undos" "I" ∈ wsX11_count := by decide +kernel
theorem fl_X11_count_206 : Cond.fieldLink RX11 206 "StaggerRadarModel" "pictured" "I" ∈ wsX11_count := by decide +kernel
theorem iw_X11_count_X11 : ∀ w ∈ u_ws RX11 TX11 30, w ∈ wsX11_count := by decide +kernel
abbrev w_X11_count (K : Nat → ClassId) (g_t : Nat → Nat) (t_raised : Int32) (t_undos : Int32) (t_reached : Int32) (t_length : Int32) (t_begin : Int32) (t_sort : Int32) (t_value : Int32) (t_word : Int64) (t_wrongAt : Int32) (t_badAt : Int32) (t_bad : Int32) (t_read : Int32) (t_pictured : Int32) (t_x : Int32) (t_all : Nat → Int32) (t_loud : Nat → Int32) (t_picture : Nat → Int32) (t_took : Nat → Int32) (t_free : Nat → Int32) : va_W := [((g_t 0), .inr (10, [.int t_raised, .ref (g_t 2), .ref (g_t 3), .ref (g_t 4), .ref (g_t 5), .int t_undos, .int t_reached, .int t_length, .int t_begin, .int t_sort, .int t_value, .long t_word, .int t_wrongAt, .int t_badAt, .int t_bad, .ref (g_t 16), .int t_read, .ref (g_t 18), .ref (g_t 19), .ref (g_t 20), .int t_pictured, .ref (g_t 22), .ref (g_t 23), .ref (g_t 24), .ref (g_t 25), .ref (g_t 26), .int t_x, .ref (g_t 28), .ref (g_t 29), .ref (g_t 30)])), ((g_t 2), .inl (K 0, 500, .inl t_all)), ((g_t 18), .inl (K 0, 300, .inl t_loud)), ((g_t 19), .inl (K 0, 300, .inl t_picture)), ((g_t 20), .inl (K 0, 300, .inl t_took)), ((g_t 22), .inl (K 2, 300, .inl t_free))]
def J_X11_count_169 (t_undos : Int32) (t_all : Nat → Int32) (t_raised : Int32) (t_pictured : Int32) (t_loud : Nat → Int32) (t_picture : Nat → Int32) (t_took : Nat → Int32) (t_free : Nat → Int32) (s1 : Int32) : Option (Int32 × Int32 × Int32 × (Nat → Int32) × (Nat → Int32) × (Nat → Int32) × (Nat → Int32)) :=
  (F_X11_foundMany t_all t_loud s1).bind fun r_1 => (some (r_1, t_raised, t_pictured, t_loud, t_picture, t_took, t_free))
set_option maxHeartbeats 4000000 in
set_option maxRecDepth 100000 in
theorem w_X11_count_169 {p : Program} {l : Launch} {e : Env} {s : State} {m : MethodId} {args : Array Value} {below : List Frame} {meth : Method} {c : Code} {D : va_G} {K : Nat → ClassId} {A : Nat → Prop} {Q : State → Prop} (C0 : cx_ p s m args c cX11_count 2 RX11 wsX11_count D K A) {g_t : Nat → Nat} {t_undos : Int32} {t_reached : Int32} {t_length : Int32} {t_begin : Int32} {t_sort : Int32} {t_value : Int32} {t_word : Int64} {t_wrongAt : Int32} {t_badAt : Int32} {t_bad : Int32} {t_read : Int32} {t_x : Int32} {t_all : Nat → Int32} {res : Int32 × Int32 × Int32 × (Nat → Int32) × (Nat → Int32) × (Nat → Int32) × (Nat → Int32)} (HR : ∀ (pc : Nat) (H : Heap) (locs : List Loc) (ls : Array Slot), decode cX11_count pc = .ok (.ireturn, 1) → va_P D vwCl (w_X11_count K g_t res.2.1 t_undos t_reached t_length t_begin t_sort t_value t_word t_wrongAt t_badAt t_bad t_read res.2.2.1 t_x t_all res.2.2.2.1 res.2.2.2.2.1 res.2.2.2.2.2.1 res.2.2.2.2.2.2) H → va_D A (w_X11_count K g_t res.2.1 t_undos t_reached t_length t_begin t_sort t_value t_word t_wrongAt t_badAt t_bad t_read res.2.2.1 t_x t_all res.2.2.2.1 res.2.2.2.2.1 res.2.2.2.2.2.1 res.2.2.2.2.2.2) → va_S A s.heap H locs → W p l e rmX11_count s m args below meth c H locs 0 0 Q (F0 m pc ls [.int res.1]))  :
    ∀ (t_raised : Int32) (t_pictured : Int32) (t_loud : Nat → Int32) (t_picture : Nat → Int32) (t_took : Nat → Int32) (t_free : Nat → Int32) (s1 : Int32) (H : Heap) (locs : List Loc) (ls : Array Slot), va_P D vwCl (w_X11_count K g_t t_raised t_undos t_reached t_length t_begin t_sort t_value t_word t_wrongAt t_badAt t_bad t_read t_pictured t_x t_all t_loud t_picture t_took t_free) H → va_D A (w_X11_count K g_t t_raised t_undos t_reached t_length t_begin t_sort t_value t_word t_wrongAt t_badAt t_bad t_read t_pictured t_x t_all t_loud t_picture t_took t_free) → va_S A s.heap H locs → lv_has ls 2 [] → J_X11_count_169 t_undos t_all t_raised t_pictured t_loud t_picture t_took t_free s1 = some res → W p l e rmX11_count s m args below meth c H locs 0 0 Q (F0 m 169 ls [.int s1, .ref (g_t 0)]) := by
  obtain ⟨⟨hx, hb, hml, hown, hts⟩, hK, -⟩ := id C0
  intro t_raised t_pictured t_loud t_picture t_took t_free s1 H locs ls hP hD hS hl hF
  unfold J_X11_count_169 at hF
  obtain ⟨r_1, hc_2, hF⟩ := bn_some hF
  refine xc_i (wn := (w_X11_count K g_t t_raised t_undos t_reached t_length t_begin t_sort t_value t_word t_wrongAt t_badAt t_bad t_read t_pictured t_x t_all t_loud t_picture t_took t_free)) hP hD hS C0.2.2.1 [0, 1, 2] [3, 4, 5] [3, 4, 5, 0, 1, 2] rfl rfl (by decide) (by decide) rfl (by decide) (va_runV (As := [.int s1]) (rest := []) C0.1 (c_X11_foundMany l D K g_t t_raised t_undos t_reached t_length t_begin t_sort t_value t_word t_wrongAt t_badAt t_bad t_read t_pictured t_x t_all t_loud s1 r_1 hc_2 H.size) (cwV 1 hts gX11_count_X11_foundMany rfl rfl rfl (by decide +kernel) ⟨Nat.le_of_ble_eq_true rfl, Nat.le_of_ble_eq_true rfl⟩) (xp_V C0.2 hP hD hS [0, 1, 2] rfl (by decide) 10 0 rfl rfl rfl) rfl rfl hl.1 rfl (lv_room (Nat.le_of_ble_eq_true rfl)) dX11_count_169 ⟨Nat.le_of_ble_eq_true rfl, Nat.le_of_ble_eq_true rfl⟩) (fun H locs hP hD hS => ?_)
  obtain rfl := Option.some.inj hF
  exact HR 172 H locs ls dX11_count_172 hP hD hS
def F_X11_count (t_raised : Int32) (t_undos : Int32) (t_pictured : Int32) (t_all : Nat → Int32) (t_loud : Nat → Int32) (t_picture : Nat → Int32) (t_took : Nat → Int32) (t_free : Nat → Int32) (x1 : Int32) : Option (Int32 × Int32 × Int32 × (Nat → Int32) × (Nat → Int32) × (Nat → Int32) × (Nat → Int32)) :=
  (F_X11_laysLoud t_all t_loud).bind fun r_1 => (if x1 = (0 : Int32) then (some ((t_all 0), (0 : Int32), t_pictured, r_1, t_picture, t_took, t_free)) else (if x1 = (1 : Int32) then (gd_ (in_b (((6 : Int32) + x1) - (1 : Int32)) 500) (some ((t_all (((6 : Int32) + x1) - (1 : Int32)).toNatClampNeg), (0 : Int32), t_pictured, r_1, t_picture, t_took, t_free))) else (if x1 = (2 : Int32) then (gd_ (in_b (((6 : Int32) + x1) - (1 : Int32)) 500) (some ((t_all (((6 : Int32) + x1) - (1 : Int32)).toNatClampNeg), (0 : Int32), t_pictured, r_1, t_picture, t_took, t_free))) else (if x1 = (3 : Int32) then (gd_ (in_b (((6 : Int32) + x1) - (1 : Int32)) 500) (some ((t_all (((6 : Int32) + x1) - (1 : Int32)).toNatClampNeg), (0 : Int32), t_pictured, r_1, t_picture, t_took, t_free))) else (if x1 = (4 : Int32) then (gd_ (in_b (((6 : Int32) + x1) - (1 : Int32)) 500) (some ((t_all (((6 : Int32) + x1) - (1 : Int32)).toNatClampNeg), (0 : Int32), t_pictured, r_1, t_picture, t_took, t_free))) else (if x1 = (5 : Int32) then (gd_ (in_b (((6 : Int32) + x1) - (1 : Int32)) 500) (some ((t_all (((6 : Int32) + x1) - (1 : Int32)).toNatClampNeg), (0 : Int32), t_pictured, r_1, t_picture, t_took, t_free))) else (if x1 = (6 : Int32) then (gd_ (in_b (((6 : Int32) + x1) - (1 : Int32)) 500) (some ((t_all (((6 : Int32) + x1) - (1 : Int32)).toNatClampNeg), (0 : Int32), t_pictured, r_1, t_picture, t_took, t_free))) else (if x1 = (7 : Int32) then (gd_ (in_b (((6 : Int32) + x1) - (1 : Int32)) 500) (some ((t_all (((6 : Int32) + x1) - (1 : Int32)).toNatClampNeg), (0 : Int32), t_pictured, r_1, t_picture, t_took, t_free))) else (if x1 = (8 : Int32) then (some ((t_all 13), (0 : Int32), t_pictured, r_1, t_picture, t_took, t_free)) else (if x1 = (9 : Int32) then (some ((t_all 38), (0 : Int32), t_pictured, r_1, t_picture, t_took, t_free)) else (if x1 = (10 : Int32) then (some ((t_all 39), (0 : Int32), t_pictured, r_1, t_picture, t_took, t_free)) else (if x1 = (11 : Int32) then ((F_X11_darkMany t_all).bind fun r_22 => (some (r_22, (0 : Int32), t_pictured, r_1, t_picture, t_took, t_free))) else (if x1 = (12 : Int32) then ((F_X11_echoes t_all r_1).bind fun r_25 => (some (r_25, (0 : Int32), t_pictured, r_1, t_picture, t_took, t_free))) else (if x1 = (13 : Int32) then (if x1 = (14 : Int32) then (J_X11_count_169 t_undos t_all (0 : Int32) t_pictured r_1 t_picture t_took t_free (1 : Int32)) else (J_X11_count_169 t_undos t_all (0 : Int32) t_pictured r_1 t_picture t_took t_free (0 : Int32))) else (if x1 = (14 : Int32) then (if x1 = (14 : Int32) then (J_X11_count_169 t_undos t_all (0 : Int32) t_pictured r_1 t_picture t_took t_free (1 : Int32)) else (J_X11_count_169 t_undos t_all (0 : Int32) t_pictured r_1 t_picture t_took t_free (0 : Int32))) else (if x1 = (15 : Int32) then ((F_X11_missedBits t_all r_1).bind fun r_32 => (some (r_32, (0 : Int32), t_pictured, r_1, t_picture, t_took, t_free))) else (if x1 = (16 : Int32) then ((F_X11_laysPicture t_pictured t_all r_1 t_picture t_took t_free).bind fun r_35 => (some (r_35.1, (0 : Int32), r_35.1, r_35.2.1, r_35.2.2.1, r_35.2.2.2.1, r_35.2.2.2.2))) else (if x1 = (17 : Int32) then (some (t_undos, (0 : Int32), t_pictured, r_1, t_picture, t_took, t_free)) else (if x1 = (18 : Int32) then (some ((t_all 97), (0 : Int32), t_pictured, r_1, t_picture, t_took, t_free)) else (if x1 = (19 : Int32) then (some ((t_all 40), (0 : Int32), t_pictured, r_1, t_picture, t_took, t_free)) else (some ((-1 : Int32), (0 : Int32), t_pictured, r_1, t_picture, t_took, t_free))))))))))))))))))))))
set_option maxHeartbeats 4000000 in
set_option maxRecDepth 100000 in
theorem c_X11_count (l : Launch) (D : va_G) (K : Nat → ClassId) (g_t : Nat → Nat) (t_raised : Int32) (t_undos : Int32) (t_reached : Int32) (t_length : Int32) (t_begin : Int32) (t_sort : Int32) (t_value : Int32) (t_word : Int64) (t_wrongAt : Int32) (t_badAt : Int32) (t_bad : Int32) (t_read : Int32) (t_pictured : Int32) (t_x : Int32) (t_all : Nat → Int32) (t_loud : Nat → Int32) (t_picture : Nat → Int32) (t_took : Nat → Int32) (t_free : Nat → Int32) (x1 : Int32) (res : Int32 × Int32 × Int32 × (Nat → Int32) × (Nat → Int32) × (Nat → Int32) × (Nat → Int32)) (hF : F_X11_count t_raised t_undos t_pictured t_all t_loud t_picture t_took t_free x1 = some res) :
    Mi_ l yX11_count wsX11_count rmX11_count D K [.ref (g_t 0), .int x1] (w_X11_count K g_t t_raised t_undos t_reached t_length t_begin t_sort t_value t_word t_wrongAt t_badAt t_bad t_read t_pictured t_x t_all t_loud t_picture t_took t_free) (w_X11_count K g_t res.2.1 t_undos t_reached t_length t_begin t_sort t_value t_word t_wrongAt t_badAt t_bad t_read res.2.2.1 t_x t_all res.2.2.2.1 res.2.2.2.2.1 res.2.2.2.2.2.1 res.2.2.2.2.2.2) (res.1) := by
  refine en_i (cc := cX11_count) (maxL := 2) (own := RX11) (by decide) rfl rfl (Nat.le_of_ble_eq_true rfl) ?_
  intro p e s m args below meth c A Q H locs ls C0 hP hD hS hl HR
  obtain ⟨⟨hx, hb, hml, hown, hts⟩, hK, -⟩ := id C0
  have hl : lv_has ls 2 [(0, .ref (g_t 0)), (1, .int x1)] := hl
  unfold F_X11_count at hF
  refine lv_aload_n hx hb dX11_count_0 rfl (lv_at hl 0 rfl) ?_
  refine lv_iconst (v := 0) hx hb dX11_count_1 (by decide) ?_
  refine va_put (D := D) (ci := 10) (v := .int (0 : Int32)) (ty := .int) (C := RX11) (T := TX11) (N := 30) hx hb hts iw_X11_count_X11 tyX11 tyX11_ok nmX11 hown hK hP hD hS 0 rfl rfl 0 (by decide) (hts _ fl_X11_count_66) (fun _ h9 => h9) rfl (by decide +kernel) rfl rfl (Nat.le_of_ble_eq_true rfl) dX11_count_2 (fun H locs hP hD hS => ?_)
  have hP : va_P D vwCl (w_X11_count K g_t (0 : Int32) t_undos t_reached t_length t_begin t_sort t_value t_word t_wrongAt t_badAt t_bad t_read t_pictured t_x t_all t_loud t_picture t_took t_free) H := hP
  have hD : va_D A (w_X11_count K g_t (0 : Int32) t_undos t_reached t_length t_begin t_sort t_value t_word t_wrongAt t_badAt t_bad t_read t_pictured t_x t_all t_loud t_picture t_took t_free) := hD
  refine lv_aload_n hx hb dX11_count_5 rfl (lv_at hl 0 rfl) ?_
  obtain ⟨r_1, hc_2, hF⟩ := bn_some hF
  refine xc_v (wn := (w_X11_count K g_t (0 : Int32) t_undos t_reached t_length t_begin t_sort t_value t_word t_wrongAt t_badAt t_bad t_read t_pictured t_x t_all r_1 t_picture t_took t_free)) hP hD hS C0.2.2.1 [0, 1, 2] [3, 4, 5] [3, 4, 5, 0, 1, 2] rfl rfl (by decide) (by decide) rfl (by decide) (va_runV (As := []) (rest := []) C0.1 (c_X11_laysLoud l D K g_t (0 : Int32) t_undos t_reached t_length t_begin t_sort t_value t_word t_wrongAt t_badAt t_bad t_read t_pictured t_x t_all t_loud r_1 hc_2 H.size) (cwV 0 hts gX11_count_X11_laysLoud rfl rfl rfl (by decide +kernel) ⟨Nat.le_of_ble_eq_true rfl, Nat.le_of_ble_eq_true rfl⟩) (xp_V C0.2 hP hD hS [0, 1, 2] rfl (by decide) 10 0 rfl rfl rfl) rfl rfl hl.1 rfl (lv_room (Nat.le_of_ble_eq_true rfl)) dX11_count_6 ⟨Nat.le_of_ble_eq_true rfl, Nat.le_of_ble_eq_true rfl⟩) (fun H locs hP hD hS => ?_)
  refine lv_iload_n hx hb dX11_count_9 rfl (lv_at hl 1 rfl) ?_
  by_cases c_3 : x1 = (0 : Int32)
  · have hF := it_pos c_3 hF
    refine lv_tableIn (off := 94) (tgt := 104) hx hb dX11_count_10 (by rw [c_3]; decide) (by rw [c_3]; decide) (by rw [c_3]; rfl) (by decide) ?_
    refine lv_aload_n hx hb dX11_count_104 rfl (lv_at hl 0 rfl) ?_
    refine va_get (D := D) (ci := 10) (v := .ref (g_t 2)) (C := RX11) (T := TX11) (N := 30) hx hb hts iw_X11_count_X11 hown hK hP 0 rfl rfl 1 (by decide) (hts _ fl_X11_count_7) (fun _ h9 => h9) rfl dX11_count_105 ?_
    refine lv_iconst (v := 0) hx hb dX11_count_108 (by decide) ?_
    refine xl_i (f := t_all) hx hb hK hP 1 0 rfl rfl (k := 0) (by decide) (in_v (by decide)) dX11_count_109 ?_
    obtain rfl := Option.some.inj hF
    exact HR 110 H locs ls dX11_count_110 hP hD hS
  have hF := it_neg c_3 hF
  by_cases c_4 : x1 = (1 : Int32)
  · have hF := it_pos c_4 hF
    refine lv_tableIn (off := 101) (tgt := 111) hx hb dX11_count_10 (by rw [c_4]; decide) (by rw [c_4]; decide) (by rw [c_4]; rfl) (by decide) ?_
    refine lv_aload_n hx hb dX11_count_111 rfl (lv_at hl 0 rfl) ?_
    refine va_get (D := D) (ci := 10) (v := .ref (g_t 2)) (C := RX11) (T := TX11) (N := 30) hx hb hts iw_X11_count_X11 hown hK hP 0 rfl rfl 1 (by decide) (hts _ fl_X11_count_7) (fun _ h9 => h9) rfl dX11_count_112 ?_
    refine lv_bipush (v := 6) hx hb dX11_count_115 (by decide) ?_
    refine lv_iload_n hx hb dX11_count_117 rfl (lv_at hl 1 rfl) ?_
    refine lv_iadd hx hb dX11_count_118 ?_
    refine lv_iconst (v := 1) hx hb dX11_count_119 (by decide) ?_
    refine lv_isub hx hb dX11_count_120 ?_
    obtain ⟨hg_5, hF⟩ := gd_some hF
    refine xl_i (f := t_all) hx hb hK hP 1 0 rfl rfl rfl (in_v hg_5) dX11_count_121 ?_
    obtain rfl := Option.some.inj hF
    exact HR 122 H locs ls dX11_count_122 hP hD hS
  have hF := it_neg c_4 hF
  by_cases c_6 : x1 = (2 : Int32)
  · have hF := it_pos c_6 hF
    refine lv_tableIn (off := 101) (tgt := 111) hx hb dX11_count_10 (by rw [c_6]; decide) (by rw [c_6]; decide) (by rw [c_6]; rfl) (by decide) ?_
    refine lv_aload_n hx hb dX11_count_111 rfl (lv_at hl 0 rfl) ?_
    refine va_get (D := D) (ci := 10) (v := .ref (g_t 2)) (C := RX11) (T := TX11) (N := 30) hx hb hts iw_X11_count_X11 hown hK hP 0 rfl rfl 1 (by decide) (hts _ fl_X11_count_7) (fun _ h9 => h9) rfl dX11_count_112 ?_
    refine lv_bipush (v := 6) hx hb dX11_count_115 (by decide) ?_
    refine lv_iload_n hx hb dX11_count_117 rfl (lv_at hl 1 rfl) ?_
    refine lv_iadd hx hb dX11_count_118 ?_
    refine lv_iconst (v := 1) hx hb dX11_count_119 (by decide) ?_
    refine lv_isub hx hb dX11_count_120 ?_
    obtain ⟨hg_7, hF⟩ := gd_some hF
    refine xl_i (f := t_all) hx hb hK hP 1 0 rfl rfl rfl (in_v hg_7) dX11_count_121 ?_
    obtain rfl := Option.some.inj hF
    exact HR 122 H locs ls dX11_count_122 hP hD hS
  have hF := it_neg c_6 hF
  by_cases c_8 : x1 = (3 : Int32)
  · have hF := it_pos c_8 hF
    refine lv_tableIn (off := 101) (tgt := 111) hx hb dX11_count_10 (by rw [c_8]; decide) (by rw [c_8]; decide) (by rw [c_8]; rfl) (by decide) ?_
    refine lv_aload_n hx hb dX11_count_111 rfl (lv_at hl 0 rfl) ?_
    refine va_get (D := D) (ci := 10) (v := .ref (g_t 2)) (C := RX11) (T := TX11) (N := 30) hx hb hts iw_X11_count_X11 hown hK hP 0 rfl rfl 1 (by decide) (hts _ fl_X11_count_7) (fun _ h9 => h9) rfl dX11_count_112 ?_
    refine lv_bipush (v := 6) hx hb dX11_count_115 (by decide) ?_
    refine lv_iload_n hx hb dX11_count_117 rfl (lv_at hl 1 rfl) ?_
    refine lv_iadd hx hb dX11_count_118 ?_
    refine lv_iconst (v := 1) hx hb dX11_count_119 (by decide) ?_
    refine lv_isub hx hb dX11_count_120 ?_
    obtain ⟨hg_9, hF⟩ := gd_some hF
    refine xl_i (f := t_all) hx hb hK hP 1 0 rfl rfl rfl (in_v hg_9) dX11_count_121 ?_
    obtain rfl := Option.some.inj hF
    exact HR 122 H locs ls dX11_count_122 hP hD hS
  have hF := it_neg c_8 hF
  by_cases c_10 : x1 = (4 : Int32)
  · have hF := it_pos c_10 hF
    refine lv_tableIn (off := 101) (tgt := 111) hx hb dX11_count_10 (by rw [c_10]; decide) (by rw [c_10]; decide) (by rw [c_10]; rfl) (by decide) ?_
    refine lv_aload_n hx hb dX11_count_111 rfl (lv_at hl 0 rfl) ?_
    refine va_get (D := D) (ci := 10) (v := .ref (g_t 2)) (C := RX11) (T := TX11) (N := 30) hx hb hts iw_X11_count_X11 hown hK hP 0 rfl rfl 1 (by decide) (hts _ fl_X11_count_7) (fun _ h9 => h9) rfl dX11_count_112 ?_
    refine lv_bipush (v := 6) hx hb dX11_count_115 (by decide) ?_
    refine lv_iload_n hx hb dX11_count_117 rfl (lv_at hl 1 rfl) ?_
    refine lv_iadd hx hb dX11_count_118 ?_
    refine lv_iconst (v := 1) hx hb dX11_count_119 (by decide) ?_
    refine lv_isub hx hb dX11_count_120 ?_
    obtain ⟨hg_11, hF⟩ := gd_some hF
    refine xl_i (f := t_all) hx hb hK hP 1 0 rfl rfl rfl (in_v hg_11) dX11_count_121 ?_
    obtain rfl := Option.some.inj hF
    exact HR 122 H locs ls dX11_count_122 hP hD hS
  have hF := it_neg c_10 hF
  by_cases c_12 : x1 = (5 : Int32)
  · have hF := it_pos c_12 hF
    refine lv_tableIn (off := 101) (tgt := 111) hx hb dX11_count_10 (by rw [c_12]; decide) (by rw [c_12]; decide) (by rw [c_12]; rfl) (by decide) ?_
    refine lv_aload_n hx hb dX11_count_111 rfl (lv_at hl 0 rfl) ?_
    refine va_get (D := D) (ci := 10) (v := .ref (g_t 2)) (C := RX11) (T := TX11) (N := 30) hx hb hts iw_X11_count_X11 hown hK hP 0 rfl rfl 1 (by decide) (hts _ fl_X11_count_7) (fun _ h9 => h9) rfl dX11_count_112 ?_
    refine lv_bipush (v := 6) hx hb dX11_count_115 (by decide) ?_
    refine lv_iload_n hx hb dX11_count_117 rfl (lv_at hl 1 rfl) ?_
    refine lv_iadd hx hb dX11_count_118 ?_
    refine lv_iconst (v := 1) hx hb dX11_count_119 (by decide) ?_
    refine lv_isub hx hb dX11_count_120 ?_
    obtain ⟨hg_13, hF⟩ := gd_some hF
    refine xl_i (f := t_all) hx hb hK hP 1 0 rfl rfl rfl (in_v hg_13) dX11_count_121 ?_
    obtain rfl := Option.some.inj hF
    exact HR 122 H locs ls dX11_count_122 hP hD hS
  have hF := it_neg c_12 hF
  by_cases c_14 : x1 = (6 : Int32)
  · have hF := it_pos c_14 hF
    refine lv_tableIn (off := 101) (tgt := 111) hx hb dX11_count_10 (by rw [c_14]; decide) (by rw [c_14]; decide) (by rw [c_14]; rfl) (by decide) ?_
    refine lv_aload_n hx hb dX11_count_111 rfl (lv_at hl 0 rfl) ?_
    refine va_get (D := D) (ci := 10) (v := .ref (g_t 2)) (C := RX11) (T := TX11) (N := 30) hx hb hts iw_X11_count_X11 hown hK hP 0 rfl rfl 1 (by decide) (hts _ fl_X11_count_7) (fun _ h9 => h9) rfl dX11_count_112 ?_
    refine lv_bipush (v := 6) hx hb dX11_count_115 (by decide) ?_
    refine lv_iload_n hx hb dX11_count_117 rfl (lv_at hl 1 rfl) ?_
    refine lv_iadd hx hb dX11_count_118 ?_
    refine lv_iconst (v := 1) hx hb dX11_count_119 (by decide) ?_
    refine lv_isub hx hb dX11_count_120 ?_
    obtain ⟨hg_15, hF⟩ := gd_some hF
    refine xl_i (f := t_all) hx hb hK hP 1 0 rfl rfl rfl (in_v hg_15) dX11_count_121 ?_
    obtain rfl := Option.some.inj hF
    exact HR 122 H locs ls dX11_count_122 hP hD hS
  have hF := it_neg c_14 hF
  by_cases c_16 : x1 = (7 : Int32)
  · have hF := it_pos c_16 hF
    refine lv_tableIn (off := 101) (tgt := 111) hx hb dX11_count_10 (by rw [c_16]; decide) (by rw [c_16]; decide) (by rw [c_16]; rfl) (by decide) ?_
    refine lv_aload_n hx hb dX11_count_111 rfl (lv_at hl 0 rfl) ?_
    refine va_get (D := D) (ci := 10) (v := .ref (g_t 2)) (C := RX11) (T := TX11) (N := 30) hx hb hts iw_X11_count_X11 hown hK hP 0 rfl rfl 1 (by decide) (hts _ fl_X11_count_7) (fun _ h9 => h9) rfl dX11_count_112 ?_
    refine lv_bipush (v := 6) hx hb dX11_count_115 (by decide) ?_
    refine lv_iload_n hx hb dX11_count_117 rfl (lv_at hl 1 rfl) ?_
    refine lv_iadd hx hb dX11_count_118 ?_
    refine lv_iconst (v := 1) hx hb dX11_count_119 (by decide) ?_
    refine lv_isub hx hb dX11_count_120 ?_
    obtain ⟨hg_17, hF⟩ := gd_some hF
    refine xl_i (f := t_all) hx hb hK hP 1 0 rfl rfl rfl (in_v hg_17) dX11_count_121 ?_
    obtain rfl := Option.some.inj hF
    exact HR 122 H locs ls dX11_count_122 hP hD hS
  have hF := it_neg c_16 hF
  by_cases c_18 : x1 = (8 : Int32)
  · have hF := it_pos c_18 hF
    refine lv_tableIn (off := 113) (tgt := 123) hx hb dX11_count_10 (by rw [c_18]; decide) (by rw [c_18]; decide) (by rw [c_18]; rfl) (by decide) ?_
    refine lv_aload_n hx hb dX11_count_123 rfl (lv_at hl 0 rfl) ?_
    refine va_get (D := D) (ci := 10) (v := .ref (g_t 2)) (C := RX11) (T := TX11) (N := 30) hx hb hts iw_X11_count_X11 hown hK hP 0 rfl rfl 1 (by decide) (hts _ fl_X11_count_7) (fun _ h9 => h9) rfl dX11_count_124 ?_
    refine lv_bipush (v := 13) hx hb dX11_count_127 (by decide) ?_
    refine xl_i (f := t_all) hx hb hK hP 1 0 rfl rfl (k := 13) (by decide) (in_v (by decide)) dX11_count_129 ?_
    obtain rfl := Option.some.inj hF
    exact HR 130 H locs ls dX11_count_130 hP hD hS
  have hF := it_neg c_18 hF
  by_cases c_19 : x1 = (9 : Int32)
  · have hF := it_pos c_19 hF
    refine lv_tableIn (off := 121) (tgt := 131) hx hb dX11_count_10 (by rw [c_19]; decide) (by rw [c_19]; decide) (by rw [c_19]; rfl) (by decide) ?_
    refine lv_aload_n hx hb dX11_count_131 rfl (lv_at hl 0 rfl) ?_
    refine va_get (D := D) (ci := 10) (v := .ref (g_t 2)) (C := RX11) (T := TX11) (N := 30) hx hb hts iw_X11_count_X11 hown hK hP 0 rfl rfl 1 (by decide) (hts _ fl_X11_count_7) (fun _ h9 => h9) rfl dX11_count_132 ?_
    refine lv_bipush (v := 38) hx hb dX11_count_135 (by decide) ?_
    refine xl_i (f := t_all) hx hb hK hP 1 0 rfl rfl (k := 38) (by decide) (in_v (by decide)) dX11_count_137 ?_
    obtain rfl := Option.some.inj hF
    exact HR 138 H locs ls dX11_count_138 hP hD hS
  have hF := it_neg c_19 hF
  by_cases c_20 : x1 = (10 : Int32)
  · have hF := it_pos c_20 hF
    refine lv_tableIn (off := 129) (tgt := 139) hx hb dX11_count_10 (by rw [c_20]; decide) (by rw [c_20]; decide) (by rw [c_20]; rfl) (by decide) ?_
    refine lv_aload_n hx hb dX11_count_139 rfl (lv_at hl 0 rfl) ?_
    refine va_get (D := D) (ci := 10) (v := .ref (g_t 2)) (C := RX11) (T := TX11) (N := 30) hx hb hts iw_X11_count_X11 hown hK hP 0 rfl rfl 1 (by decide) (hts _ fl_X11_count_7) (fun _ h9 => h9) rfl dX11_count_140 ?_
    refine lv_bipush (v := 39) hx hb dX11_count_143 (by decide) ?_
    refine xl_i (f := t_all) hx hb hK hP 1 0 rfl rfl (k := 39) (by decide) (in_v (by decide)) dX11_count_145 ?_
    obtain rfl := Option.some.inj hF
    exact HR 146 H locs ls dX11_count_146 hP hD hS
  have hF := it_neg c_20 hF
  by_cases c_21 : x1 = (11 : Int32)
  · have hF := it_pos c_21 hF
    refine lv_tableIn (off := 137) (tgt := 147) hx hb dX11_count_10 (by rw [c_21]; decide) (by rw [c_21]; decide) (by rw [c_21]; rfl) (by decide) ?_
    refine lv_aload_n hx hb dX11_count_147 rfl (lv_at hl 0 rfl) ?_
    obtain ⟨r_22, hc_23, hF⟩ := bn_some hF
    refine xc_i (wn := (w_X11_count K g_t (0 : Int32) t_undos t_reached t_length t_begin t_sort t_value t_word t_wrongAt t_badAt t_bad t_read t_pictured t_x t_all r_1 t_picture t_took t_free)) hP hD hS C0.2.2.1 [0, 1] [2, 3, 4, 5] [4, 5, 0, 1, 2, 3] rfl rfl (by decide) (by decide) rfl (by decide) (va_runV (As := []) (rest := []) C0.1 (c_X11_darkMany l D K g_t (0 : Int32) t_undos t_reached t_length t_begin t_sort t_value t_word t_wrongAt t_badAt t_bad t_read t_pictured t_x t_all r_22 hc_23 H.size) (cwV 0 hts gX11_count_X11_darkMany rfl rfl rfl (by decide +kernel) ⟨Nat.le_of_ble_eq_true rfl, Nat.le_of_ble_eq_true rfl⟩) (xp_V C0.2 hP hD hS [0, 1] rfl (by decide) 10 0 rfl rfl rfl) rfl rfl hl.1 rfl (lv_room (Nat.le_of_ble_eq_true rfl)) dX11_count_148 ⟨Nat.le_of_ble_eq_true rfl, Nat.le_of_ble_eq_true rfl⟩) (fun H locs hP hD hS => ?_)
    obtain rfl := Option.some.inj hF
    exact HR 151 H locs ls dX11_count_151 hP hD hS
  have hF := it_neg c_21 hF
  by_cases c_24 : x1 = (12 : Int32)
  · have hF := it_pos c_24 hF
    refine lv_tableIn (off := 142) (tgt := 152) hx hb dX11_count_10 (by rw [c_24]; decide) (by rw [c_24]; decide) (by rw [c_24]; rfl) (by decide) ?_
    refine lv_aload_n hx hb dX11_count_152 rfl (lv_at hl 0 rfl) ?_
    obtain ⟨r_25, hc_26, hF⟩ := bn_some hF
    refine xc_i (wn := (w_X11_count K g_t (0 : Int32) t_undos t_reached t_length t_begin t_sort t_value t_word t_wrongAt t_badAt t_bad t_read t_pictured t_x t_all r_1 t_picture t_took t_free)) hP hD hS C0.2.2.1 [0, 1, 2] [3, 4, 5] [3, 4, 5, 0, 1, 2] rfl rfl (by decide) (by decide) rfl (by decide) (va_runV (As := []) (rest := []) C0.1 (c_X11_echoes l D K g_t (0 : Int32) t_undos t_reached t_length t_begin t_sort t_value t_word t_wrongAt t_badAt t_bad t_read t_pictured t_x t_all r_1 r_25 hc_26 H.size) (cwV 0 hts gX11_count_X11_echoes rfl rfl rfl (by decide +kernel) ⟨Nat.le_of_ble_eq_true rfl, Nat.le_of_ble_eq_true rfl⟩) (xp_V C0.2 hP hD hS [0, 1, 2] rfl (by decide) 10 0 rfl rfl rfl) rfl rfl hl.1 rfl (lv_room (Nat.le_of_ble_eq_true rfl)) dX11_count_153 ⟨Nat.le_of_ble_eq_true rfl, Nat.le_of_ble_eq_true rfl⟩) (fun H locs hP hD hS => ?_)
    obtain rfl := Option.some.inj hF
    exact HR 156 H locs ls dX11_count_156 hP hD hS
  have hF := it_neg c_24 hF
  by_cases c_27 : x1 = (13 : Int32)
  · have hF := it_pos c_27 hF
    refine lv_tableIn (off := 147) (tgt := 157) hx hb dX11_count_10 (by rw [c_27]; decide) (by rw [c_27]; decide) (by rw [c_27]; rfl) (by decide) ?_
    refine lv_aload_n hx hb dX11_count_157 rfl (lv_at hl 0 rfl) ?_
    refine lv_iload_n hx hb dX11_count_158 rfl (lv_at hl 1 rfl) ?_
    refine lv_bipush (v := 14) hx hb dX11_count_159 (by decide) ?_
    refine lv_icmp_ne (tgt := 168) hx hb dX11_count_161 (by decide) (fun c_28 => ?_) (fun c_28 => ?_)
    · have hF := it_neg c_28 hF
      refine lv_iconst (v := 0) hx hb dX11_count_168 (by decide) ?_
      exact w_X11_count_169 C0 HR (0 : Int32) t_pictured r_1 t_picture t_took t_free (0 : Int32) H locs ls hP hD hS (lv_sub hl [] rfl) hF
    · have hF := it_pos c_28 hF
      refine lv_iconst (v := 1) hx hb dX11_count_164 (by decide) ?_
      refine lv_goto (tgt := 169) hx hb dX11_count_165 (by decide) ?_
      exact w_X11_count_169 C0 HR (0 : Int32) t_pictured r_1 t_picture t_took t_free (1 : Int32) H locs ls hP hD hS (lv_sub hl [] rfl) hF
  have hF := it_neg c_27 hF
  by_cases c_29 : x1 = (14 : Int32)
  · have hF := it_pos c_29 hF
    refine lv_tableIn (off := 147) (tgt := 157) hx hb dX11_count_10 (by rw [c_29]; decide) (by rw [c_29]; decide) (by rw [c_29]; rfl) (by decide) ?_
    refine lv_aload_n hx hb dX11_count_157 rfl (lv_at hl 0 rfl) ?_
    refine lv_iload_n hx hb dX11_count_158 rfl (lv_at hl 1 rfl) ?_
    refine lv_bipush (v := 14) hx hb dX11_count_159 (by decide) ?_
    refine lv_icmp_ne (tgt := 168) hx hb dX11_count_161 (by decide) (fun c_30 => ?_) (fun c_30 => ?_)
    · have hF := it_neg c_30 hF
      refine lv_iconst (v := 0) hx hb dX11_count_168 (by decide) ?_
      exact w_X11_count_169 C0 HR (0 : Int32) t_pictured r_1 t_picture t_took t_free (0 : Int32) H locs ls hP hD hS (lv_sub hl [] rfl) hF
    · have hF := it_pos c_30 hF
      refine lv_iconst (v := 1) hx hb dX11_count_164 (by decide) ?_
      refine lv_goto (tgt := 169) hx hb dX11_count_165 (by decide) ?_
      exact w_X11_count_169 C0 HR (0 : Int32) t_pictured r_1 t_picture t_took t_free (1 : Int32) H locs ls hP hD hS (lv_sub hl [] rfl) hF
  have hF := it_neg c_29 hF
  by_cases c_31 : x1 = (15 : Int32)
  · have hF := it_pos c_31 hF
    refine lv_tableIn (off := 163) (tgt := 173) hx hb dX11_count_10 (by rw [c_31]; decide) (by rw [c_31]; decide) (by rw [c_31]; rfl) (by decide) ?_
    refine lv_aload_n hx hb dX11_count_173 rfl (lv_at hl 0 rfl) ?_
    obtain ⟨r_32, hc_33, hF⟩ := bn_some hF
    refine xc_i (wn := (w_X11_count K g_t (0 : Int32) t_undos t_reached t_length t_begin t_sort t_value t_word t_wrongAt t_badAt t_bad t_read t_pictured t_x t_all r_1 t_picture t_took t_free)) hP hD hS C0.2.2.1 [0, 1, 2] [3, 4, 5] [3, 4, 5, 0, 1, 2] rfl rfl (by decide) (by decide) rfl (by decide) (va_runV (As := []) (rest := []) C0.1 (c_X11_missedBits l D K g_t (0 : Int32) t_undos t_reached t_length t_begin t_sort t_value t_word t_wrongAt t_badAt t_bad t_read t_pictured t_x t_all r_1 r_32 hc_33 H.size) (cwV 0 hts gX11_count_X11_missedBits rfl rfl rfl (by decide +kernel) ⟨Nat.le_of_ble_eq_true rfl, Nat.le_of_ble_eq_true rfl⟩) (xp_V C0.2 hP hD hS [0, 1, 2] rfl (by decide) 10 0 rfl rfl rfl) rfl rfl hl.1 rfl (lv_room (Nat.le_of_ble_eq_true rfl)) dX11_count_174 ⟨Nat.le_of_ble_eq_true rfl, Nat.le_of_ble_eq_true rfl⟩) (fun H locs hP hD hS => ?_)
    obtain rfl := Option.some.inj hF
    exact HR 177 H locs ls dX11_count_177 hP hD hS
  have hF := it_neg c_31 hF
  by_cases c_34 : x1 = (16 : Int32)
  · have hF := it_pos c_34 hF
    refine lv_tableIn (off := 168) (tgt := 178) hx hb dX11_count_10 (by rw [c_34]; decide) (by rw [c_34]; decide) (by rw [c_34]; rfl) (by decide) ?_
    refine lv_aload_n hx hb dX11_count_178 rfl (lv_at hl 0 rfl) ?_
    obtain ⟨r_35, hc_36, hF⟩ := bn_some hF
    refine xc_v (wn := (w_X11_count K g_t (0 : Int32) t_undos t_reached t_length t_begin t_sort t_value t_word t_wrongAt t_badAt t_bad t_read r_35.1 t_x t_all r_35.2.1 r_35.2.2.1 r_35.2.2.2.1 r_35.2.2.2.2)) hP hD hS C0.2.2.1 [0, 1, 2, 3, 4, 5] [] [0, 1, 2, 3, 4, 5] rfl rfl (by decide) (by decide) rfl (by decide) (va_runV (As := []) (rest := []) C0.1 (c_X11_laysPicture l D K g_t (0 : Int32) t_undos t_reached t_length t_begin t_sort t_value t_word t_wrongAt t_badAt t_bad t_read t_pictured t_x t_all r_1 t_picture t_took t_free r_35 hc_36 H.size) (cwV 0 hts gX11_count_X11_laysPicture rfl rfl rfl (by decide +kernel) ⟨Nat.le_of_ble_eq_true rfl, Nat.le_of_ble_eq_true rfl⟩) (xp_V C0.2 hP hD hS [0, 1, 2, 3, 4, 5] rfl (by decide) 10 0 rfl rfl rfl) rfl rfl hl.1 rfl (lv_room (Nat.le_of_ble_eq_true rfl)) dX11_count_179 ⟨Nat.le_of_ble_eq_true rfl, Nat.le_of_ble_eq_true rfl⟩) (fun H locs hP hD hS => ?_)
    refine lv_aload_n hx hb dX11_count_182 rfl (lv_at hl 0 rfl) ?_
    refine va_get (D := D) (ci := 10) (v := .int r_35.1) (C := RX11) (T := TX11) (N := 30) hx hb hts iw_X11_count_X11 hown hK hP 0 rfl rfl 20 (by decide) (hts _ fl_X11_count_206) (fun _ h9 => h9) rfl dX11_count_183 ?_
    obtain rfl := Option.some.inj hF
    exact HR 186 H locs ls dX11_count_186 hP hD hS
  have hF := it_neg c_34 hF
  by_cases c_37 : x1 = (17 : Int32)
  · have hF := it_pos c_37 hF
    refine lv_tableIn (off := 177) (tgt := 187) hx hb dX11_count_10 (by rw [c_37]; decide) (by rw [c_37]; decide) (by rw [c_37]; rfl) (by decide) ?_
    refine lv_aload_n hx hb dX11_count_187 rfl (lv_at hl 0 rfl) ?_
    refine va_get (D := D) (ci := 10) (v := .int t_undos) (C := RX11) (T := TX11) (N := 30) hx hb hts iw_X11_count_X11 hown hK hP 0 rfl rfl 5 (by decide) (hts _ fl_X11_count_176) (fun _ h9 => h9) rfl dX11_count_188 ?_
    obtain rfl := Option.some.inj hF
    exact HR 191 H locs ls dX11_count_191 hP hD hS
  have hF := it_neg c_37 hF
  by_cases c_38 : x1 = (18 : Int32)
  · have hF := it_pos c_38 hF
    refine lv_tableIn (off := 182) (tgt := 192) hx hb dX11_count_10 (by rw [c_38]; decide) (by rw [c_38]; decide) (by rw [c_38]; rfl) (by decide) ?_
    refine lv_aload_n hx hb dX11_count_192 rfl (lv_at hl 0 rfl) ?_
    refine va_get (D := D) (ci := 10) (v := .ref (g_t 2)) (C := RX11) (T := TX11) (N := 30) hx hb hts iw_X11_count_X11 hown hK hP 0 rfl rfl 1 (by decide) (hts _ fl_X11_count_7) (fun _ h9 => h9) rfl dX11_count_193 ?_
    refine lv_bipush (v := 97) hx hb dX11_count_196 (by decide) ?_
    refine xl_i (f := t_all) hx hb hK hP 1 0 rfl rfl (k := 97) (by decide) (in_v (by decide)) dX11_count_198 ?_
    obtain rfl := Option.some.inj hF
    exact HR 199 H locs ls dX11_count_199 hP hD hS
  have hF := it_neg c_38 hF
  by_cases c_39 : x1 = (19 : Int32)
  · have hF := it_pos c_39 hF
    refine lv_tableIn (off := 190) (tgt := 200) hx hb dX11_count_10 (by rw [c_39]; decide) (by rw [c_39]; decide) (by rw [c_39]; rfl) (by decide) ?_
    refine lv_aload_n hx hb dX11_count_200 rfl (lv_at hl 0 rfl) ?_
    refine va_get (D := D) (ci := 10) (v := .ref (g_t 2)) (C := RX11) (T := TX11) (N := 30) hx hb hts iw_X11_count_X11 hown hK hP 0 rfl rfl 1 (by decide) (hts _ fl_X11_count_7) (fun _ h9 => h9) rfl dX11_count_201 ?_
    refine lv_bipush (v := 40) hx hb dX11_count_204 (by decide) ?_
    refine xl_i (f := t_all) hx hb hK hP 1 0 rfl rfl (k := 40) (by decide) (in_v (by decide)) dX11_count_206 ?_
    obtain rfl := Option.some.inj hF
    exact HR 207 H locs ls dX11_count_207 hP hD hS
  have hF := it_neg c_39 hF
  have qc_3 := lv_neT (a := 0) c_3 (by decide)
  have qc_4 := lv_neT (a := 1) c_4 (by decide)
  have qc_6 := lv_neT (a := 2) c_6 (by decide)
  have qc_8 := lv_neT (a := 3) c_8 (by decide)
  have qc_10 := lv_neT (a := 4) c_10 (by decide)
  have qc_12 := lv_neT (a := 5) c_12 (by decide)
  have qc_14 := lv_neT (a := 6) c_14 (by decide)
  have qc_16 := lv_neT (a := 7) c_16 (by decide)
  have qc_18 := lv_neT (a := 8) c_18 (by decide)
  have qc_19 := lv_neT (a := 9) c_19 (by decide)
  have qc_20 := lv_neT (a := 10) c_20 (by decide)
  have qc_21 := lv_neT (a := 11) c_21 (by decide)
  have qc_24 := lv_neT (a := 12) c_24 (by decide)
  have qc_27 := lv_neT (a := 13) c_27 (by decide)
  have qc_29 := lv_neT (a := 14) c_29 (by decide)
  have qc_31 := lv_neT (a := 15) c_31 (by decide)
  have qc_34 := lv_neT (a := 16) c_34 (by decide)
  have qc_37 := lv_neT (a := 17) c_37 (by decide)
  have qc_38 := lv_neT (a := 18) c_38 (by decide)
  have qc_39 := lv_neT (a := 19) c_39 (by decide)
  refine lv_tableOut (tgt := 208) hx hb dX11_count_10 (by omega) (by decide) ?_
  refine lv_iconst (v := (-1)) hx hb dX11_count_208 (by decide) ?_
  obtain rfl := Option.some.inj hF
  exact HR 209 H locs ls dX11_count_209 hP hD hS

/-! StaggerRadarModel.dark(I)I -/
abbrev rmX11_dark : Room := { frames := 4, cells := 0, slots := 0, locals := 89 }
theorem fl_X11_dark_7 : Cond.fieldLink RX11 7 "StaggerRadarModel" "all" "[I" ∈ wsX11_dark := by decide +kernel
theorem fl_X11_dark_66 : Cond.fieldLink RX11 66 "StaggerRadarModel" "raised" "I" ∈ wsX11_dark := by decide +kernel
theorem iw_X11_dark_X11 : ∀ w ∈ u_ws RX11 TX11 30, w ∈ wsX11_dark := by decide +kernel
abbrev w_X11_dark (K : Nat → ClassId) (g_t : Nat → Nat) (t_raised : Int32) (t_undos : Int32) (t_reached : Int32) (t_length : Int32) (t_begin : Int32) (t_sort : Int32) (t_value : Int32) (t_word : Int64) (t_wrongAt : Int32) (t_badAt : Int32) (t_bad : Int32) (t_read : Int32) (t_pictured : Int32) (t_x : Int32) (t_all : Nat → Int32) : va_W := [((g_t 0), .inr (10, [.int t_raised, .ref (g_t 2), .ref (g_t 3), .ref (g_t 4), .ref (g_t 5), .int t_undos, .int t_reached, .int t_length, .int t_begin, .int t_sort, .int t_value, .long t_word, .int t_wrongAt, .int t_badAt, .int t_bad, .ref (g_t 16), .int t_read, .ref (g_t 18), .ref (g_t 19), .ref (g_t 20), .int t_pictured, .ref (g_t 22), .ref (g_t 23), .ref (g_t 24), .ref (g_t 25), .ref (g_t 26), .int t_x, .ref (g_t 28), .ref (g_t 29), .ref (g_t 30)])), ((g_t 2), .inl (K 0, 500, .inl t_all))]
def L_X11_dark_9 (t_all : Nat → Int32) : Nat → Int32 → Int32 → Int32 → Int32 → Option (Int32 × Int32)
  | 0, _, _, _, _ => none
  | n_ + 1, t_raised, x1, x2, x3 =>
    if (t_all 11) < x3 then (some ((-1 : Int32), t_raised)) else ((F_X11_isDark t_all x3).bind fun r_2 => (if r_2 = (0 : Int32) then (L_X11_dark_9 t_all n_ t_raised x1 x2 (x3 + (1 : Int32))) else (if x2 = x1 then (some (x3, t_raised)) else (L_X11_dark_9 t_all n_ t_raised x1 (x2 + (1 : Int32)) (x3 + (1 : Int32))))))
set_option maxHeartbeats 4000000 in
set_option maxRecDepth 100000 in
theorem w_X11_dark_9 {p : Program} {l : Launch} {e : Env} {s : State} {m : MethodId} {args : Array Value} {below : List Frame} {meth : Method} {c : Code} {D : va_G} {K : Nat → ClassId} {A : Nat → Prop} {Q : State → Prop} (C0 : cx_ p s m args c cX11_dark 4 RX11 wsX11_dark D K A) {g_t : Nat → Nat} {t_undos : Int32} {t_reached : Int32} {t_length : Int32} {t_begin : Int32} {t_sort : Int32} {t_value : Int32} {t_word : Int64} {t_wrongAt : Int32} {t_badAt : Int32} {t_bad : Int32} {t_read : Int32} {t_pictured : Int32} {t_x : Int32} {t_all : Nat → Int32} {res : Int32 × Int32} (HR : ∀ (pc : Nat) (H : Heap) (locs : List Loc) (ls : Array Slot), decode cX11_dark pc = .ok (.ireturn, 1) → va_P D vwCl (w_X11_dark K g_t res.2 t_undos t_reached t_length t_begin t_sort t_value t_word t_wrongAt t_badAt t_bad t_read t_pictured t_x t_all) H → va_D A (w_X11_dark K g_t res.2 t_undos t_reached t_length t_begin t_sort t_value t_word t_wrongAt t_badAt t_bad t_read t_pictured t_x t_all) → va_S A s.heap H locs → W p l e rmX11_dark s m args below meth c H locs 0 0 Q (F0 m pc ls [.int res.1]))  :
    ∀ (n_ : Nat) (t_raised : Int32) (x1 : Int32) (x2 : Int32) (x3 : Int32) (H : Heap) (locs : List Loc) (ls : Array Slot), va_P D vwCl (w_X11_dark K g_t t_raised t_undos t_reached t_length t_begin t_sort t_value t_word t_wrongAt t_badAt t_bad t_read t_pictured t_x t_all) H → va_D A (w_X11_dark K g_t t_raised t_undos t_reached t_length t_begin t_sort t_value t_word t_wrongAt t_badAt t_bad t_read t_pictured t_x t_all) → va_S A s.heap H locs → lv_has ls 4 [(0, .ref (g_t 0)), (1, .int x1), (2, .int x2), (3, .int x3)] → L_X11_dark_9 t_all n_ t_raised x1 x2 x3 = some res → W p l e rmX11_dark s m args below meth c H locs 0 0 Q (F0 m 9 ls []) := by
  obtain ⟨⟨hx, hb, hml, hown, hts⟩, hK, -⟩ := id C0
  intro n_
  induction n_ with
  | zero =>
    intro t_raised x1 x2 x3 H locs ls hP hD hS hl hF
    exact no_s (show (none : Option (Int32 × Int32)) = some res from hF)
  | succ n_ ih =>
    intro t_raised x1 x2 x3 H locs ls hP hD hS hl hF
    rw [L_X11_dark_9] at hF
    refine lv_iload_n hx hb dX11_dark_9 rfl (lv_at hl 3 rfl) ?_
    refine lv_aload_n hx hb dX11_dark_10 rfl (lv_at hl 0 rfl) ?_
    refine va_get (D := D) (ci := 10) (v := .ref (g_t 2)) (C := RX11) (T := TX11) (N := 30) hx hb hts iw_X11_dark_X11 hown hK hP 0 rfl rfl 1 (by decide) (hts _ fl_X11_dark_7) (fun _ h9 => h9) rfl dX11_dark_11 ?_
    refine lv_bipush (v := 11) hx hb dX11_dark_14 (by decide) ?_
    refine xl_i (f := t_all) hx hb hK hP 1 0 rfl rfl (k := 11) (by decide) (in_v (by decide)) dX11_dark_16 ?_
    refine lv_icmp_gt (tgt := 44) hx hb dX11_dark_17 (by decide) (fun c_1 => ?_) (fun c_1 => ?_)
    · have hF := it_pos c_1 hF
      refine lv_iconst (v := (-1)) hx hb dX11_dark_44 (by decide) ?_
      obtain rfl := Option.some.inj hF
      exact HR 45 H locs ls dX11_dark_45 hP hD hS
    · have hF := it_neg c_1 hF
      refine lv_aload_n hx hb dX11_dark_20 rfl (lv_at hl 0 rfl) ?_
      refine lv_iload_n hx hb dX11_dark_21 rfl (lv_at hl 3 rfl) ?_
      obtain ⟨r_2, hc_3, hF⟩ := bn_some hF
      refine xc_i (wn := (w_X11_dark K g_t t_raised t_undos t_reached t_length t_begin t_sort t_value t_word t_wrongAt t_badAt t_bad t_read t_pictured t_x t_all)) hP hD hS C0.2.2.1 [0, 1] [] [0, 1] rfl rfl (by decide) (by decide) rfl (by decide) (va_runV (As := [.int x3]) (rest := []) C0.1 (c_X11_isDark l D K g_t t_raised t_undos t_reached t_length t_begin t_sort t_value t_word t_wrongAt t_badAt t_bad t_read t_pictured t_x t_all x3 r_2 hc_3 H.size) (cwV 1 hts gX11_dark_X11_isDark rfl rfl rfl (by decide +kernel) ⟨Nat.le_of_ble_eq_true rfl, Nat.le_of_ble_eq_true rfl⟩) (xp_V C0.2 hP hD hS [0, 1] rfl (by decide) 10 0 rfl rfl rfl) rfl rfl hl.1 rfl (lv_room (Nat.le_of_ble_eq_true rfl)) dX11_dark_22 ⟨Nat.le_of_ble_eq_true rfl, Nat.le_of_ble_eq_true rfl⟩) (fun H locs hP hD hS => ?_)
      refine lv_if_eq (tgt := 38) hx hb dX11_dark_25 (by decide) (fun c_4 => ?_) (fun c_4 => ?_)
      · have hF := it_pos c_4 hF
        refine lv_iinc (v := (x3 + (1 : Int32))) (lv' := [(3, .int (x3 + (1 : Int32))), (0, .ref (g_t 0)), (1, .int x1), (2, .int x2)]) hx hb dX11_dark_38 hl (k := 3) rfl (congrArg (fun z => x3 + z) (by decide)) (by decide) rfl (fun ls hl => ?_)
        refine lv_goto (tgt := 9) hx hb dX11_dark_41 (by decide) ?_
        exact ih t_raised x1 x2 (x3 + (1 : Int32)) H locs ls hP hD hS (lv_sub hl [1, 2, 3, 0] rfl) hF
      · have hF := it_neg c_4 hF
        refine lv_iload_n hx hb dX11_dark_28 rfl (lv_at hl 2 rfl) ?_
        refine lv_iload_n hx hb dX11_dark_29 rfl (lv_at hl 1 rfl) ?_
        refine lv_icmp_ne (tgt := 35) hx hb dX11_dark_30 (by decide) (fun c_5 => ?_) (fun c_5 => ?_)
        · have hF := it_neg c_5 hF
          refine lv_iinc (v := (x2 + (1 : Int32))) (lv' := [(2, .int (x2 + (1 : Int32))), (0, .ref (g_t 0)), (1, .int x1), (3, .int x3)]) hx hb dX11_dark_35 hl (k := 2) rfl (congrArg (fun z => x2 + z) (by decide)) (by decide) rfl (fun ls hl => ?_)
          refine lv_iinc (v := (x3 + (1 : Int32))) (lv' := [(3, .int (x3 + (1 : Int32))), (2, .int (x2 + (1 : Int32))), (0, .ref (g_t 0)), (1, .int x1)]) hx hb dX11_dark_38 hl (k := 3) rfl (congrArg (fun z => x3 + z) (by decide)) (by decide) rfl (fun ls hl => ?_)
          refine lv_goto (tgt := 9) hx hb dX11_dark_41 (by decide) ?_
          exact ih t_raised x1 (x2 + (1 : Int32)) (x3 + (1 : Int32)) H locs ls hP hD hS (lv_sub hl [2, 3, 1, 0] rfl) hF
        · have hF := it_pos c_5 hF
          refine lv_iload_n hx hb dX11_dark_33 rfl (lv_at hl 3 rfl) ?_
          obtain rfl := Option.some.inj hF
          exact HR 34 H locs ls dX11_dark_34 hP hD hS
def F_X11_dark (t_raised : Int32) (t_all : Nat → Int32) (x1 : Int32) : Option (Int32 × Int32) :=
  L_X11_dark_9 t_all fu_ (0 : Int32) x1 (0 : Int32) (1 : Int32)
set_option maxHeartbeats 4000000 in
set_option maxRecDepth 100000 in
theorem c_X11_dark (l : Launch) (D : va_G) (K : Nat → ClassId) (g_t : Nat → Nat) (t_raised : Int32) (t_undos : Int32) (t_reached : Int32) (t_length : Int32) (t_begin : Int32) (t_sort : Int32) (t_value : Int32) (t_word : Int64) (t_wrongAt : Int32) (t_badAt : Int32) (t_bad : Int32) (t_read : Int32) (t_pictured : Int32) (t_x : Int32) (t_all : Nat → Int32) (x1 : Int32) (res : Int32 × Int32) (hF : F_X11_dark t_raised t_all x1 = some res) :
    Mi_ l yX11_dark wsX11_dark rmX11_dark D K [.ref (g_t 0), .int x1] (w_X11_dark K g_t t_raised t_undos t_reached t_length t_begin t_sort t_value t_word t_wrongAt t_badAt t_bad t_read t_pictured t_x t_all) (w_X11_dark K g_t res.2 t_undos t_reached t_length t_begin t_sort t_value t_word t_wrongAt t_badAt t_bad t_read t_pictured t_x t_all) (res.1) := by
  refine en_i (cc := cX11_dark) (maxL := 4) (own := RX11) (by decide) rfl rfl (Nat.le_of_ble_eq_true rfl) ?_
  intro p e s m args below meth c A Q H locs ls C0 hP hD hS hl HR
  obtain ⟨⟨hx, hb, hml, hown, hts⟩, hK, -⟩ := id C0
  have hl : lv_has ls 4 [(0, .ref (g_t 0)), (1, .int x1)] := hl
  unfold F_X11_dark at hF
  refine lv_aload_n hx hb dX11_dark_0 rfl (lv_at hl 0 rfl) ?_
  refine lv_iconst (v := 0) hx hb dX11_dark_1 (by decide) ?_
  refine va_put (D := D) (ci := 10) (v := .int (0 : Int32)) (ty := .int) (C := RX11) (T := TX11) (N := 30) hx hb hts iw_X11_dark_X11 tyX11 tyX11_ok nmX11 hown hK hP hD hS 0 rfl rfl 0 (by decide) (hts _ fl_X11_dark_66) (fun _ h9 => h9) rfl (by decide +kernel) rfl rfl (Nat.le_of_ble_eq_true rfl) dX11_dark_2 (fun H locs hP hD hS => ?_)
  have hP : va_P D vwCl (w_X11_dark K g_t (0 : Int32) t_undos t_reached t_length t_begin t_sort t_value t_word t_wrongAt t_badAt t_bad t_read t_pictured t_x t_all) H := hP
  have hD : va_D A (w_X11_dark K g_t (0 : Int32) t_undos t_reached t_length t_begin t_sort t_value t_word t_wrongAt t_badAt t_bad t_read t_pictured t_x t_all) := hD
  refine lv_iconst (v := 0) hx hb dX11_dark_5 (by decide) ?_
  refine lv_istore_n (lv' := [(2, .int (0 : Int32)), (0, .ref (g_t 0)), (1, .int x1)]) hx hb dX11_dark_6 rfl hl (by decide) rfl (fun ls hl => ?_)
  refine lv_iconst (v := 1) hx hb dX11_dark_7 (by decide) ?_
  refine lv_istore_n (lv' := [(3, .int (1 : Int32)), (2, .int (0 : Int32)), (0, .ref (g_t 0)), (1, .int x1)]) hx hb dX11_dark_8 rfl hl (by decide) rfl (fun ls hl => ?_)
  exact w_X11_dark_9 C0 HR fu_ (0 : Int32) x1 (0 : Int32) (1 : Int32) H locs ls hP hD hS (lv_sub hl [2, 3, 1, 0] rfl) hF

/-! StaggerRadarModel.doppler(II)I -/
abbrev rmX11_doppler : Room := { frames := 2, cells := 0, slots := 0, locals := 43 }
theorem fl_X11_doppler_7 : Cond.fieldLink RX11 7 "StaggerRadarModel" "all" "[I" ∈ wsX11_doppler := by decide +kernel
theorem fl_X11_doppler_66 : Cond.fieldLink RX11 66 "StaggerRadarModel" "raised" "I" ∈ wsX11_doppler := by decide +kernel
theorem iw_X11_doppler_X11 : ∀ w ∈ u_ws RX11 TX11 30, w ∈ wsX11_doppler := by decide +kernel
abbrev w_X11_doppler (K : Nat → ClassId) (g_t : Nat → Nat) (t_raised : Int32) (t_undos : Int32) (t_reached : Int32) (t_length : Int32) (t_begin : Int32) (t_sort : Int32) (t_value : Int32) (t_word : Int64) (t_wrongAt : Int32) (t_badAt : Int32) (t_bad : Int32) (t_read : Int32) (t_pictured : Int32) (t_x : Int32) (t_all : Nat → Int32) : va_W := [((g_t 0), .inr (10, [.int t_raised, .ref (g_t 2), .ref (g_t 3), .ref (g_t 4), .ref (g_t 5), .int t_undos, .int t_reached, .int t_length, .int t_begin, .int t_sort, .int t_value, .long t_word, .int t_wrongAt, .int t_badAt, .int t_bad, .ref (g_t 16), .int t_read, .ref (g_t 18), .ref (g_t 19), .ref (g_t 20), .int t_pictured, .ref (g_t 22), .ref (g_t 23), .ref (g_t 24), .ref (g_t 25), .ref (g_t 26), .int t_x, .ref (g_t 28), .ref (g_t 29), .ref (g_t 30)])), ((g_t 2), .inl (K 0, 500, .inl t_all))]
def F_X11_doppler (t_raised : Int32) (t_all : Nat → Int32) (x1 : Int32) (x2 : Int32) : Option (Int32 × Int32) :=
  (F_X11_in x1 (-500 : Int32) (500 : Int32)).bind fun r_1 => (if r_1 = (0 : Int32) then (some ((-1 : Int32), (0 : Int32))) else ((F_X11_isGap t_all x2).bind fun r_4 => (if r_4 = (0 : Int32) then (some ((-1 : Int32), (0 : Int32))) else ((F_X11_gapAt t_all x2).bind fun r_7 => ((F_X11_rest (x1 * r_7) (t_all 6)).bind fun r_9 => (some (r_9, (0 : Int32))))))))
set_option maxHeartbeats 4000000 in
set_option maxRecDepth 100000 in
theorem c_X11_doppler (l : Launch) (D : va_G) (K : Nat → ClassId) (g_t : Nat → Nat) (t_raised : Int32) (t_undos : Int32) (t_reached : Int32) (t_length : Int32) (t_begin : Int32) (t_sort : Int32) (t_value : Int32) (t_word : Int64) (t_wrongAt : Int32) (t_badAt : Int32) (t_bad : Int32) (t_read : Int32) (t_pictured : Int32) (t_x : Int32) (t_all : Nat → Int32) (x1 : Int32) (x2 : Int32) (res : Int32 × Int32) (hF : F_X11_doppler t_raised t_all x1 x2 = some res) :
    Mi_ l yX11_doppler wsX11_doppler rmX11_doppler D K [.ref (g_t 0), .int x1, .int x2] (w_X11_doppler K g_t t_raised t_undos t_reached t_length t_begin t_sort t_value t_word t_wrongAt t_badAt t_bad t_read t_pictured t_x t_all) (w_X11_doppler K g_t res.2 t_undos t_reached t_length t_begin t_sort t_value t_word t_wrongAt t_badAt t_bad t_read t_pictured t_x t_all) (res.1) := by
  refine en_i (cc := cX11_doppler) (maxL := 3) (own := RX11) (by decide) rfl rfl (Nat.le_of_ble_eq_true rfl) ?_
  intro p e s m args below meth c A Q H locs ls C0 hP hD hS hl HR
  obtain ⟨⟨hx, hb, hml, hown, hts⟩, hK, -⟩ := id C0
  have hl : lv_has ls 3 [(0, .ref (g_t 0)), (1, .int x1), (2, .int x2)] := hl
  unfold F_X11_doppler at hF
  refine lv_aload_n hx hb dX11_doppler_0 rfl (lv_at hl 0 rfl) ?_
  refine lv_iconst (v := 0) hx hb dX11_doppler_1 (by decide) ?_
  refine va_put (D := D) (ci := 10) (v := .int (0 : Int32)) (ty := .int) (C := RX11) (T := TX11) (N := 30) hx hb hts iw_X11_doppler_X11 tyX11 tyX11_ok nmX11 hown hK hP hD hS 0 rfl rfl 0 (by decide) (hts _ fl_X11_doppler_66) (fun _ h9 => h9) rfl (by decide +kernel) rfl rfl (Nat.le_of_ble_eq_true rfl) dX11_doppler_2 (fun H locs hP hD hS => ?_)
  have hP : va_P D vwCl (w_X11_doppler K g_t (0 : Int32) t_undos t_reached t_length t_begin t_sort t_value t_word t_wrongAt t_badAt t_bad t_read t_pictured t_x t_all) H := hP
  have hD : va_D A (w_X11_doppler K g_t (0 : Int32) t_undos t_reached t_length t_begin t_sort t_value t_word t_wrongAt t_badAt t_bad t_read t_pictured t_x t_all) := hD
  refine lv_iload_n hx hb dX11_doppler_5 rfl (lv_at hl 1 rfl) ?_
  refine lv_sipush (v := (-500)) hx hb dX11_doppler_6 (by decide) ?_
  refine lv_sipush (v := 500) hx hb dX11_doppler_9 (by decide) ?_
  obtain ⟨r_1, hc_2, hF⟩ := bn_some hF
  refine xc_i (wn := (w_X11_doppler K g_t (0 : Int32) t_undos t_reached t_length t_begin t_sort t_value t_word t_wrongAt t_badAt t_bad t_read t_pictured t_x t_all)) hP hD hS C0.2.2.1 [] [0, 1] [0, 1] rfl rfl (by decide) (by decide) rfl (by decide) (va_runS (As := [.int x1, .int (-500 : Int32), .int (500 : Int32)]) (rest := []) C0.1 (c_X11_in l D K x1 (-500 : Int32) (500 : Int32) r_1 hc_2 H.size) (va_cwS 3 hts gX11_doppler_X11_in rfl rfl rfl (by decide +kernel) ⟨Nat.le_of_ble_eq_true rfl, Nat.le_of_ble_eq_true rfl⟩) (xp_S C0.2 hP hD hS [] rfl (by decide)) rfl rfl hl.1 rfl (lv_room (Nat.le_of_ble_eq_true rfl)) dX11_doppler_12 ⟨Nat.le_of_ble_eq_true rfl, Nat.le_of_ble_eq_true rfl⟩) (fun H locs hP hD hS => ?_)
  refine lv_if_eq (tgt := 46) hx hb dX11_doppler_15 (by decide) (fun c_3 => ?_) (fun c_3 => ?_)
  · have hF := it_pos c_3 hF
    refine lv_iconst (v := (-1)) hx hb dX11_doppler_46 (by decide) ?_
    obtain rfl := Option.some.inj hF
    exact HR 47 H locs ls dX11_doppler_47 hP hD hS
  · have hF := it_neg c_3 hF
    refine lv_aload_n hx hb dX11_doppler_18 rfl (lv_at hl 0 rfl) ?_
    refine lv_iload_n hx hb dX11_doppler_19 rfl (lv_at hl 2 rfl) ?_
    obtain ⟨r_4, hc_5, hF⟩ := bn_some hF
    refine xc_i (wn := (w_X11_doppler K g_t (0 : Int32) t_undos t_reached t_length t_begin t_sort t_value t_word t_wrongAt t_badAt t_bad t_read t_pictured t_x t_all)) hP hD hS C0.2.2.1 [0, 1] [] [0, 1] rfl rfl (by decide) (by decide) rfl (by decide) (va_runV (As := [.int x2]) (rest := []) C0.1 (c_X11_isGap l D K g_t (0 : Int32) t_undos t_reached t_length t_begin t_sort t_value t_word t_wrongAt t_badAt t_bad t_read t_pictured t_x t_all x2 r_4 hc_5 H.size) (cwV 1 hts gX11_doppler_X11_isGap rfl rfl rfl (by decide +kernel) ⟨Nat.le_of_ble_eq_true rfl, Nat.le_of_ble_eq_true rfl⟩) (xp_V C0.2 hP hD hS [0, 1] rfl (by decide) 10 0 rfl rfl rfl) rfl rfl hl.1 rfl (lv_room (Nat.le_of_ble_eq_true rfl)) dX11_doppler_20 ⟨Nat.le_of_ble_eq_true rfl, Nat.le_of_ble_eq_true rfl⟩) (fun H locs hP hD hS => ?_)
    refine lv_if_eq (tgt := 46) hx hb dX11_doppler_23 (by decide) (fun c_6 => ?_) (fun c_6 => ?_)
    · have hF := it_pos c_6 hF
      refine lv_iconst (v := (-1)) hx hb dX11_doppler_46 (by decide) ?_
      obtain rfl := Option.some.inj hF
      exact HR 47 H locs ls dX11_doppler_47 hP hD hS
    · have hF := it_neg c_6 hF
      refine lv_iload_n hx hb dX11_doppler_26 rfl (lv_at hl 1 rfl) ?_
      refine lv_aload_n hx hb dX11_doppler_27 rfl (lv_at hl 0 rfl) ?_
      refine lv_iload_n hx hb dX11_doppler_28 rfl (lv_at hl 2 rfl) ?_
      obtain ⟨r_7, hc_8, hF⟩ := bn_some hF
      refine xc_i (wn := (w_X11_doppler K g_t (0 : Int32) t_undos t_reached t_length t_begin t_sort t_value t_word t_wrongAt t_badAt t_bad t_read t_pictured t_x t_all)) hP hD hS C0.2.2.1 [0, 1] [] [0, 1] rfl rfl (by decide) (by decide) rfl (by decide) (va_runV (As := [.int x2]) (rest := [.int x1]) C0.1 (c_X11_gapAt l D K g_t (0 : Int32) t_undos t_reached t_length t_begin t_sort t_value t_word t_wrongAt t_badAt t_bad t_read t_pictured t_x t_all x2 r_7 hc_8 H.size) (cwV 1 hts gX11_doppler_X11_gapAt rfl rfl rfl (by decide +kernel) ⟨Nat.le_of_ble_eq_true rfl, Nat.le_of_ble_eq_true rfl⟩) (xp_V C0.2 hP hD hS [0, 1] rfl (by decide) 10 0 rfl rfl rfl) rfl rfl hl.1 rfl (lv_room (Nat.le_of_ble_eq_true rfl)) dX11_doppler_29 ⟨Nat.le_of_ble_eq_true rfl, Nat.le_of_ble_eq_true rfl⟩) (fun H locs hP hD hS => ?_)
      refine lv_imul hx hb dX11_doppler_32 ?_
      refine lv_aload_n hx hb dX11_doppler_33 rfl (lv_at hl 0 rfl) ?_
      refine va_get (D := D) (ci := 10) (v := .ref (g_t 2)) (C := RX11) (T := TX11) (N := 30) hx hb hts iw_X11_doppler_X11 hown hK hP 0 rfl rfl 1 (by decide) (hts _ fl_X11_doppler_7) (fun _ h9 => h9) rfl dX11_doppler_34 ?_
      refine lv_bipush (v := 6) hx hb dX11_doppler_37 (by decide) ?_
      refine xl_i (f := t_all) hx hb hK hP 1 0 rfl rfl (k := 6) (by decide) (in_v (by decide)) dX11_doppler_39 ?_
      obtain ⟨r_9, hc_10, hF⟩ := bn_some hF
      refine xc_i (wn := (w_X11_doppler K g_t (0 : Int32) t_undos t_reached t_length t_begin t_sort t_value t_word t_wrongAt t_badAt t_bad t_read t_pictured t_x t_all)) hP hD hS C0.2.2.1 [] [0, 1] [0, 1] rfl rfl (by decide) (by decide) rfl (by decide) (va_runS (As := [.int (x1 * r_7), .int (t_all 6)]) (rest := []) C0.1 (c_X11_rest l D K (x1 * r_7) (t_all 6) r_9 hc_10 H.size) (va_cwS 2 hts gX11_doppler_X11_rest rfl rfl rfl (by decide +kernel) ⟨Nat.le_of_ble_eq_true rfl, Nat.le_of_ble_eq_true rfl⟩) (xp_S C0.2 hP hD hS [] rfl (by decide)) rfl rfl hl.1 rfl (lv_room (Nat.le_of_ble_eq_true rfl)) dX11_doppler_40 ⟨Nat.le_of_ble_eq_true rfl, Nat.le_of_ble_eq_true rfl⟩) (fun H locs hP hD hS => ?_)
      refine lv_goto (tgt := 47) hx hb dX11_doppler_43 (by decide) ?_
      obtain rfl := Option.some.inj hF
      exact HR 47 H locs ls dX11_doppler_47 hP hD hS

/-! StaggerRadarModel.inOrder()V -/
abbrev rmX11_inOrder : Room := { frames := 0, cells := 0, slots := 0, locals := 0 }
theorem fl_X11_inOrder_7 : Cond.fieldLink RX11 7 "StaggerRadarModel" "all" "[I" ∈ wsX11_inOrder := by decide +kernel
theorem fl_X11_inOrder_48 : Cond.fieldLink RX11 48 "StaggerRadarModel" "order" "[I" ∈ wsX11_inOrder := by decide +kernel
theorem iw_X11_inOrder_X11 : ∀ w ∈ u_ws RX11 TX11 30, w ∈ wsX11_inOrder := by decide +kernel
abbrev w_X11_inOrder (K : Nat → ClassId) (g_t : Nat → Nat) (t_raised : Int32) (t_undos : Int32) (t_reached : Int32) (t_length : Int32) (t_begin : Int32) (t_sort : Int32) (t_value : Int32) (t_word : Int64) (t_wrongAt : Int32) (t_badAt : Int32) (t_bad : Int32) (t_read : Int32) (t_pictured : Int32) (t_x : Int32) (t_all : Nat → Int32) (t_order : Nat → Int32) : va_W := [((g_t 0), .inr (10, [.int t_raised, .ref (g_t 2), .ref (g_t 3), .ref (g_t 4), .ref (g_t 5), .int t_undos, .int t_reached, .int t_length, .int t_begin, .int t_sort, .int t_value, .long t_word, .int t_wrongAt, .int t_badAt, .int t_bad, .ref (g_t 16), .int t_read, .ref (g_t 18), .ref (g_t 19), .ref (g_t 20), .int t_pictured, .ref (g_t 22), .ref (g_t 23), .ref (g_t 24), .ref (g_t 25), .ref (g_t 26), .int t_x, .ref (g_t 28), .ref (g_t 29), .ref (g_t 30)])), ((g_t 2), .inl (K 0, 500, .inl t_all)), ((g_t 26), .inl (K 0, 5, .inl t_order))]
def L_X11_inOrder_2 (t_all : Nat → Int32) : Nat → (Nat → Int32) → Int32 → Option ((Nat → Int32))
  | 0, _, _ => none
  | n_ + 1, t_order, x1 =>
    if (t_all 0) ≤ x1 then (some t_order) else (gd_ (in_b x1 5) (L_X11_inOrder_2 t_all n_ (upd t_order (x1).toNatClampNeg x1) (x1 + (1 : Int32))))
set_option maxHeartbeats 4000000 in
set_option maxRecDepth 100000 in
theorem w_X11_inOrder_2 {p : Program} {l : Launch} {e : Env} {s : State} {m : MethodId} {args : Array Value} {below : List Frame} {meth : Method} {c : Code} {D : va_G} {K : Nat → ClassId} {A : Nat → Prop} {Q : State → Prop} (C0 : cx_ p s m args c cX11_inOrder 2 RX11 wsX11_inOrder D K A) {g_t : Nat → Nat} {t_raised : Int32} {t_undos : Int32} {t_reached : Int32} {t_length : Int32} {t_begin : Int32} {t_sort : Int32} {t_value : Int32} {t_word : Int64} {t_wrongAt : Int32} {t_badAt : Int32} {t_bad : Int32} {t_read : Int32} {t_pictured : Int32} {t_x : Int32} {t_all : Nat → Int32} {res : (Nat → Int32)} (HR : ∀ (pc : Nat) (H : Heap) (locs : List Loc) (ls : Array Slot), decode cX11_inOrder pc = .ok (.return_, 1) → va_P D vwCl (w_X11_inOrder K g_t t_raised t_undos t_reached t_length t_begin t_sort t_value t_word t_wrongAt t_badAt t_bad t_read t_pictured t_x t_all res) H → va_D A (w_X11_inOrder K g_t t_raised t_undos t_reached t_length t_begin t_sort t_value t_word t_wrongAt t_badAt t_bad t_read t_pictured t_x t_all res) → va_S A s.heap H locs → W p l e rmX11_inOrder s m args below meth c H locs 0 0 Q (F0 m pc ls []))  :
    ∀ (n_ : Nat) (t_order : Nat → Int32) (x1 : Int32) (H : Heap) (locs : List Loc) (ls : Array Slot), va_P D vwCl (w_X11_inOrder K g_t t_raised t_undos t_reached t_length t_begin t_sort t_value t_word t_wrongAt t_badAt t_bad t_read t_pictured t_x t_all t_order) H → va_D A (w_X11_inOrder K g_t t_raised t_undos t_reached t_length t_begin t_sort t_value t_word t_wrongAt t_badAt t_bad t_read t_pictured t_x t_all t_order) → va_S A s.heap H locs → lv_has ls 2 [(0, .ref (g_t 0)), (1, .int x1)] → L_X11_inOrder_2 t_all n_ t_order x1 = some res → W p l e rmX11_inOrder s m args below meth c H locs 0 0 Q (F0 m 2 ls []) := by
  obtain ⟨⟨hx, hb, hml, hown, hts⟩, hK, -⟩ := id C0
  intro n_
  induction n_ with
  | zero =>
    intro t_order x1 H locs ls hP hD hS hl hF
    exact no_s (show (none : Option ((Nat → Int32))) = some res from hF)
  | succ n_ ih =>
    intro t_order x1 H locs ls hP hD hS hl hF
    rw [L_X11_inOrder_2] at hF
    refine lv_iload_n hx hb dX11_inOrder_2 rfl (lv_at hl 1 rfl) ?_
    refine lv_aload_n hx hb dX11_inOrder_3 rfl (lv_at hl 0 rfl) ?_
    refine va_get (D := D) (ci := 10) (v := .ref (g_t 2)) (C := RX11) (T := TX11) (N := 30) hx hb hts iw_X11_inOrder_X11 hown hK hP 0 rfl rfl 1 (by decide) (hts _ fl_X11_inOrder_7) (fun _ h9 => h9) rfl dX11_inOrder_4 ?_
    refine lv_iconst (v := 0) hx hb dX11_inOrder_7 (by decide) ?_
    refine xl_i (f := t_all) hx hb hK hP 1 0 rfl rfl (k := 0) (by decide) (in_v (by decide)) dX11_inOrder_8 ?_
    refine lv_icmp_ge (tgt := 25) hx hb dX11_inOrder_9 (by decide) (fun c_1 => ?_) (fun c_1 => ?_)
    · have hF := it_pos c_1 hF
      obtain rfl := Option.some.inj hF
      exact HR 25 H locs ls dX11_inOrder_25 hP hD hS
    · have hF := it_neg c_1 hF
      refine lv_aload_n hx hb dX11_inOrder_12 rfl (lv_at hl 0 rfl) ?_
      refine va_get (D := D) (ci := 10) (v := .ref (g_t 26)) (C := RX11) (T := TX11) (N := 30) hx hb hts iw_X11_inOrder_X11 hown hK hP 0 rfl rfl 25 (by decide) (hts _ fl_X11_inOrder_48) (fun _ h9 => h9) rfl dX11_inOrder_13 ?_
      refine lv_iload_n hx hb dX11_inOrder_16 rfl (lv_at hl 1 rfl) ?_
      refine lv_iload_n hx hb dX11_inOrder_17 rfl (lv_at hl 1 rfl) ?_
      obtain ⟨hg_2, hF⟩ := gd_some hF
      refine xs_i (f := t_order) hx hb hK hP hD hS 2 0 rfl rfl rfl (in_v hg_2) dX11_inOrder_18 (fun H locs hP hD hS => ?_)
      have hP : va_P D vwCl (w_X11_inOrder K g_t t_raised t_undos t_reached t_length t_begin t_sort t_value t_word t_wrongAt t_badAt t_bad t_read t_pictured t_x t_all (upd t_order (x1).toNatClampNeg x1)) H := hP
      have hD : va_D A (w_X11_inOrder K g_t t_raised t_undos t_reached t_length t_begin t_sort t_value t_word t_wrongAt t_badAt t_bad t_read t_pictured t_x t_all (upd t_order (x1).toNatClampNeg x1)) := hD
      refine lv_iinc (v := (x1 + (1 : Int32))) (lv' := [(1, .int (x1 + (1 : Int32))), (0, .ref (g_t 0))]) hx hb dX11_inOrder_19 hl (k := 1) rfl (congrArg (fun z => x1 + z) (by decide)) (by decide) rfl (fun ls hl => ?_)
      refine lv_goto (tgt := 2) hx hb dX11_inOrder_22 (by decide) ?_
      exact ih (upd t_order (x1).toNatClampNeg x1) (x1 + (1 : Int32)) H locs ls hP hD hS (lv_sub hl [1, 0] rfl) hF
def F_X11_inOrder (t_all : Nat → Int32) (t_order : Nat → Int32) : Option ((Nat → Int32)) :=
  L_X11_inOrder_2 t_all fu_ t_order (0 : Int32)
set_option maxHeartbeats 4000000 in
set_option maxRecDepth 100000 in
theorem c_X11_inOrder (l : Launch) (D : va_G) (K : Nat → ClassId) (g_t : Nat → Nat) (t_raised : Int32) (t_undos : Int32) (t_reached : Int32) (t_length : Int32) (t_begin : Int32) (t_sort : Int32) (t_value : Int32) (t_word : Int64) (t_wrongAt : Int32) (t_badAt : Int32) (t_bad : Int32) (t_read : Int32) (t_pictured : Int32) (t_x : Int32) (t_all : Nat → Int32) (t_order : Nat → Int32) (res : (Nat → Int32)) (hF : F_X11_inOrder t_all t_order = some res) :
    Mv_ l yX11_inOrder wsX11_inOrder rmX11_inOrder D K [.ref (g_t 0)] (w_X11_inOrder K g_t t_raised t_undos t_reached t_length t_begin t_sort t_value t_word t_wrongAt t_badAt t_bad t_read t_pictured t_x t_all t_order) (w_X11_inOrder K g_t t_raised t_undos t_reached t_length t_begin t_sort t_value t_word t_wrongAt t_badAt t_bad t_read t_pictured t_x t_all res) := by
  refine en_v (cc := cX11_inOrder) (maxL := 2) (own := RX11) (by decide) rfl rfl (Nat.le_of_ble_eq_true rfl) ?_
  intro p e s m args below meth c A Q H locs ls C0 hP hD hS hl HR
  obtain ⟨⟨hx, hb, hml, hown, hts⟩, hK, -⟩ := id C0
  have hl : lv_has ls 2 [(0, .ref (g_t 0))] := hl
  unfold F_X11_inOrder at hF
  refine lv_iconst (v := 0) hx hb dX11_inOrder_0 (by decide) ?_
  refine lv_istore_n (lv' := [(1, .int (0 : Int32)), (0, .ref (g_t 0))]) hx hb dX11_inOrder_1 rfl hl (by decide) rfl (fun ls hl => ?_)
  exact w_X11_inOrder_2 C0 HR fu_ t_order (0 : Int32) H locs ls hP hD hS (lv_sub hl [1, 0] rfl) hF
