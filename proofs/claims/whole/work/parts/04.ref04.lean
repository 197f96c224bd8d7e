/-! StaggerRadarModel.sends(III)V -/
abbrev rmX11_sends : Room := { frames := 1, cells := 0, slots := 0, locals := 21 }
theorem fl_X11_sends_7 : Cond.fieldLink RX11 7 "StaggerRadarModel" "all" "[I" ∈ wsX11_sends := by decide +kernel
theorem fl_X11_sends_45 : Cond.fieldLink RX11 45 "StaggerRadarModel" "sent" "[I" ∈ wsX11_sends := by decide +kernel
theorem fl_X11_sends_48 : Cond.fieldLink RX11 48 "StaggerRadarModel" "order" "[I" ∈ wsX11_sends := by decide +kernel
theorem fl_X11_sends_298 : Cond.fieldLink RX11 298 "StaggerRadarModel" "x" "I" ∈ wsX11_sends := by decide +kernel
theorem ld_X11_sends_301 : Cond.constant RX11 301 (1103515245) ∈ wsX11_sends := by decide +kernel
theorem iw_X11_sends_X11 : ∀ w ∈ u_ws RX11 TX11 30, w ∈ wsX11_sends := by decide +kernel
abbrev w_X11_sends (K : Nat → ClassId) (g_t : Nat → Nat) (t_raised : Int32) (t_undos : Int32) (t_reached : Int32) (t_length : Int32) (t_begin : Int32) (t_sort : Int32) (t_value : Int32) (t_word : Int64) (t_wrongAt : Int32) (t_badAt : Int32) (t_bad : Int32) (t_read : Int32) (t_pictured : Int32) (t_x : Int32) (t_all : Nat → Int32) (t_sent : Nat → Int32) (t_order : Nat → Int32) : va_W := [((g_t 0), .inr (10, [.int t_raised, .ref (g_t 2), .ref (g_t 3), .ref (g_t 4), .ref (g_t 5), .int t_undos, .int t_reached, .int t_length, .int t_begin, .int t_sort, .int t_value, .long t_word, .int t_wrongAt, .int t_badAt, .int t_bad, .ref (g_t 16), .int t_read, .ref (g_t 18), .ref (g_t 19), .ref (g_t 20), .int t_pictured, .ref (g_t 22), .ref (g_t 23), .ref (g_t 24), .ref (g_t 25), .ref (g_t 26), .int t_x, .ref (g_t 28), .ref (g_t 29), .ref (g_t 30)])), ((g_t 2), .inl (K 0, 500, .inl t_all)), ((g_t 25), .inl (K 0, 65, .inl t_sent)), ((g_t 26), .inl (K 0, 5, .inl t_order))]
def L_X11_sends_15 (t_all : Nat → Int32) (t_order : Nat → Int32) : Nat → Int32 → (Nat → Int32) → Int32 → Int32 → Int32 → Option (Int32 × (Nat → Int32))
  | 0, _, _, _, _, _ => none
  | n_ + 1, t_x, t_sent, x2, x3, x4 =>
    if x2 ≤ x4 then (some (t_x, t_sent)) else (gd_ (decide (¬ (((2 : Int32) * x3) + (1 : Int32)) = 0)) (gd_ (in_b x4 65) (gd_ (decide (¬ (t_all 0) = 0)) (gd_ (in_b (x4 - x4 / (t_all 0) * (t_all 0)) 5) ((F_X11_gapAt t_all (t_order (x4 - x4 / (t_all 0) * (t_all 0)).toNatClampNeg)).bind fun r_6 => (gd_ (in_b (x4 + (1 : Int32)) 65) (L_X11_sends_15 t_all t_order n_ ((t_x * (1103515245 : Int32)) + (12345 : Int32)) (upd t_sent (x4 + (1 : Int32)).toNatClampNeg (((t_sent (x4).toNatClampNeg) + r_6) + ((((((t_x * (1103515245 : Int32)) + (12345 : Int32))).toUInt32 >>> (((16 : Int32)).toUInt32 &&& Int32.toUInt32 31)).toInt32 - ((((t_x * (1103515245 : Int32)) + (12345 : Int32))).toUInt32 >>> (((16 : Int32)).toUInt32 &&& Int32.toUInt32 31)).toInt32 / (((2 : Int32) * x3) + (1 : Int32)) * (((2 : Int32) * x3) + (1 : Int32))) - x3))) x2 x3 (x4 + (1 : Int32)))))))))
set_option maxHeartbeats 4000000 in
set_option maxRecDepth 100000 in
theorem w_X11_sends_15 {p : Program} {l : Launch} {e : Env} {s : State} {m : MethodId} {args : Array Value} {below : List Frame} {meth : Method} {c : Code} {D : va_G} {K : Nat → ClassId} {A : Nat → Prop} {Q : State → Prop} (C0 : cx_ p s m args c cX11_sends 6 RX11 wsX11_sends D K A) {g_t : Nat → Nat} {t_raised : Int32} {t_undos : Int32} {t_reached : Int32} {t_length : Int32} {t_begin : Int32} {t_sort : Int32} {t_value : Int32} {t_word : Int64} {t_wrongAt : Int32} {t_badAt : Int32} {t_bad : Int32} {t_read : Int32} {t_pictured : Int32} {t_all : Nat → Int32} {t_order : Nat → Int32} {res : Int32 × (Nat → Int32)} (HR : ∀ (pc : Nat) (H : Heap) (locs : List Loc) (ls : Array Slot), decode cX11_sends pc = .ok (.return_, 1) → va_P D vwCl (w_X11_sends K g_t t_raised t_undos t_reached t_length t_begin t_sort t_value t_word t_wrongAt t_badAt t_bad t_read t_pictured res.1 t_all res.2 t_order) H → va_D A (w_X11_sends K g_t t_raised t_undos t_reached t_length t_begin t_sort t_value t_word t_wrongAt t_badAt t_bad t_read t_pictured res.1 t_all res.2 t_order) → va_S A s.heap H locs → W p l e rmX11_sends s m args below meth c H locs 0 0 Q (F0 m pc ls []))  :
    ∀ (n_ : Nat) (t_x : Int32) (t_sent : Nat → Int32) (x2 : Int32) (x3 : Int32) (x4 : Int32) (H : Heap) (locs : List Loc) (ls : Array Slot), va_P D vwCl (w_X11_sends K g_t t_raised t_undos t_reached t_length t_begin t_sort t_value t_word t_wrongAt t_badAt t_bad t_read t_pictured t_x t_all t_sent t_order) H → va_D A (w_X11_sends K g_t t_raised t_undos t_reached t_length t_begin t_sort t_value t_word t_wrongAt t_badAt t_bad t_read t_pictured t_x t_all t_sent t_order) → va_S A s.heap H locs → lv_has ls 6 [(0, .ref (g_t 0)), (2, .int x2), (3, .int x3), (4, .int x4)] → L_X11_sends_15 t_all t_order n_ t_x t_sent x2 x3 x4 = some res → W p l e rmX11_sends s m args below meth c H locs 0 0 Q (F0 m 15 ls []) := by
  obtain ⟨⟨hx, hb, hml, hown, hts⟩, hK, -⟩ := id C0
  intro n_
  induction n_ with
  | zero =>
    intro t_x t_sent x2 x3 x4 H locs ls hP hD hS hl hF
    exact no_s (show (none : Option (Int32 × (Nat → Int32))) = some res from hF)
  | succ n_ ih =>
    intro t_x t_sent x2 x3 x4 H locs ls hP hD hS hl hF
    rw [L_X11_sends_15] at hF
    refine lv_iload hx hb dX11_sends_15 (lv_at hl 3 rfl) ?_
    refine lv_iload_n hx hb dX11_sends_17 rfl (lv_at hl 1 rfl) ?_
    refine lv_icmp_ge (tgt := 98) hx hb dX11_sends_18 (by decide) (fun c_1 => ?_) (fun c_1 => ?_)
    · have hF := it_pos c_1 hF
      obtain rfl := Option.some.inj hF
      exact HR 98 H locs ls dX11_sends_98 hP hD hS
    · have hF := it_neg c_1 hF
      refine lv_aload_n hx hb dX11_sends_21 rfl (lv_at hl 0 rfl) ?_
      refine lv_aload_n hx hb dX11_sends_22 rfl (lv_at hl 0 rfl) ?_
      refine va_get (D := D) (ci := 10) (v := .int t_x) (C := RX11) (T := TX11) (N := 30) hx hb hts iw_X11_sends_X11 hown hK hP 0 rfl rfl 26 (by decide) (hts _ fl_X11_sends_298) (fun _ h9 => h9) rfl dX11_sends_23 ?_
      refine lv_ldcw (v := 1103515245) hx hb hown (hts _ ld_X11_sends_301) dX11_sends_26 ?_
      refine lv_imul hx hb dX11_sends_29 ?_
      refine lv_sipush (v := 12345) hx hb dX11_sends_30 (by decide) ?_
      refine lv_iadd hx hb dX11_sends_33 ?_
      refine va_put (D := D) (ci := 10) (v := .int ((t_x * (1103515245 : Int32)) + (12345 : Int32))) (ty := .int) (C := RX11) (T := TX11) (N := 30) hx hb hts iw_X11_sends_X11 tyX11 tyX11_ok nmX11 hown hK hP hD hS 0 rfl rfl 26 (by decide) (hts _ fl_X11_sends_298) (fun _ h9 => h9) rfl (by decide +kernel) rfl rfl (Nat.le_of_ble_eq_true rfl) dX11_sends_34 (fun H locs hP hD hS => ?_)
      have hP : va_P D vwCl (w_X11_sends K g_t t_raised t_undos t_reached t_length t_begin t_sort t_value t_word t_wrongAt t_badAt t_bad t_read t_pictured ((t_x * (1103515245 : Int32)) + (12345 : Int32)) t_all t_sent t_order) H := hP
      have hD : va_D A (w_X11_sends K g_t t_raised t_undos t_reached t_length t_begin t_sort t_value t_word t_wrongAt t_badAt t_bad t_read t_pictured ((t_x * (1103515245 : Int32)) + (12345 : Int32)) t_all t_sent t_order) := hD
      refine lv_aload_n hx hb dX11_sends_37 rfl (lv_at hl 0 rfl) ?_
      refine va_get (D := D) (ci := 10) (v := .int ((t_x * (1103515245 : Int32)) + (12345 : Int32))) (C := RX11) (T := TX11) (N := 30) hx hb hts iw_X11_sends_X11 hown hK hP 0 rfl rfl 26 (by decide) (hts _ fl_X11_sends_298) (fun _ h9 => h9) rfl dX11_sends_38 ?_
      refine lv_bipush (v := 16) hx hb dX11_sends_41 (by decide) ?_
      refine lv_iushr hx hb dX11_sends_43 rfl ?_
      refine lv_iconst (v := 2) hx hb dX11_sends_44 (by decide) ?_
      refine lv_iload_n hx hb dX11_sends_45 rfl (lv_at hl 2 rfl) ?_
      refine lv_imul hx hb dX11_sends_46 ?_
      refine lv_iconst (v := 1) hx hb dX11_sends_47 (by decide) ?_
      refine lv_iadd hx hb dX11_sends_48 ?_
      obtain ⟨hg_2, hF⟩ := gd_some hF
      refine lv_irem hx hb dX11_sends_49 (ne_of hg_2) ?_
      refine lv_iload_n hx hb dX11_sends_50 rfl (lv_at hl 2 rfl) ?_
      refine lv_isub hx hb dX11_sends_51 ?_
      refine lv_istore (lv' := [(5, .int ((((((t_x * (1103515245 : Int32)) + (12345 : Int32))).toUInt32 >>> (((16 : Int32)).toUInt32 &&& Int32.toUInt32 31)).toInt32 - ((((t_x * (1103515245 : Int32)) + (12345 : Int32))).toUInt32 >>> (((16 : Int32)).toUInt32 &&& Int32.toUInt32 31)).toInt32 / (((2 : Int32) * x3) + (1 : Int32)) * (((2 : Int32) * x3) + (1 : Int32))) - x3)), (0, .ref (g_t 0)), (2, .int x2), (3, .int x3), (4, .int x4)]) hx hb dX11_sends_52 hl (by decide) rfl (fun ls hl => ?_)
      refine lv_aload_n hx hb dX11_sends_54 rfl (lv_at hl 1 rfl) ?_
      refine va_get (D := D) (ci := 10) (v := .ref (g_t 25)) (C := RX11) (T := TX11) (N := 30) hx hb hts iw_X11_sends_X11 hown hK hP 0 rfl rfl 24 (by decide) (hts _ fl_X11_sends_45) (fun _ h9 => h9) rfl dX11_sends_55 ?_
      refine lv_iload hx hb dX11_sends_58 (lv_at hl 4 rfl) ?_
      refine lv_iconst (v := 1) hx hb dX11_sends_60 (by decide) ?_
      refine lv_iadd hx hb dX11_sends_61 ?_
      refine lv_aload_n hx hb dX11_sends_62 rfl (lv_at hl 1 rfl) ?_
      refine va_get (D := D) (ci := 10) (v := .ref (g_t 25)) (C := RX11) (T := TX11) (N := 30) hx hb hts iw_X11_sends_X11 hown hK hP 0 rfl rfl 24 (by decide) (hts _ fl_X11_sends_45) (fun _ h9 => h9) rfl dX11_sends_63 ?_
      refine lv_iload hx hb dX11_sends_66 (lv_at hl 4 rfl) ?_
      obtain ⟨hg_3, hF⟩ := gd_some hF
      refine xl_i (f := t_sent) hx hb hK hP 2 0 rfl rfl rfl (in_v hg_3) dX11_sends_68 ?_
      refine lv_aload_n hx hb dX11_sends_69 rfl (lv_at hl 1 rfl) ?_
      refine lv_aload_n hx hb dX11_sends_70 rfl (lv_at hl 1 rfl) ?_
      refine va_get (D := D) (ci := 10) (v := .ref (g_t 26)) (C := RX11) (T := TX11) (N := 30) hx hb hts iw_X11_sends_X11 hown hK hP 0 rfl rfl 25 (by decide) (hts _ fl_X11_sends_48) (fun _ h9 => h9) rfl dX11_sends_71 ?_
      refine lv_iload hx hb dX11_sends_74 (lv_at hl 4 rfl) ?_
      refine lv_aload_n hx hb dX11_sends_76 rfl (lv_at hl 1 rfl) ?_
      refine va_get (D := D) (ci := 10) (v := .ref (g_t 2)) (C := RX11) (T := TX11) (N := 30) hx hb hts iw_X11_sends_X11 hown hK hP 0 rfl rfl 1 (by decide) (hts _ fl_X11_sends_7) (fun _ h9 => h9) rfl dX11_sends_77 ?_
      refine lv_iconst (v := 0) hx hb dX11_sends_80 (by decide) ?_
      refine xl_i (f := t_all) hx hb hK hP 1 0 rfl rfl (k := 0) (by decide) (in_v (by decide)) dX11_sends_81 ?_
      obtain ⟨hg_4, hF⟩ := gd_some hF
      refine lv_irem hx hb dX11_sends_82 (ne_of hg_4) ?_
      obtain ⟨hg_5, hF⟩ := gd_some hF
      refine xl_i (f := t_order) hx hb hK hP 3 0 rfl rfl rfl (in_v hg_5) dX11_sends_83 ?_
      obtain ⟨r_6, hc_7, hF⟩ := bn_some hF
      refine xc_i (wn := (w_X11_sends K g_t t_raised t_undos t_reached t_length t_begin t_sort t_value t_word t_wrongAt t_badAt t_bad t_read t_pictured ((t_x * (1103515245 : Int32)) + (12345 : Int32)) t_all t_sent t_order)) hP hD hS C0.2.2.1 [0, 1] [2, 3] [2, 3, 0, 1] rfl rfl (by decide) (by decide) rfl (by decide) (va_runV (As := [.int (t_order (x4 - x4 / (t_all 0) * (t_all 0)).toNatClampNeg)]) (rest := [.int (t_sent (x4).toNatClampNeg), .int (x4 + (1 : Int32)), .ref (g_t 25)]) C0.1 (c_X11_gapAt l D K g_t t_raised t_undos t_reached t_length t_begin t_sort t_value t_word t_wrongAt t_badAt t_bad t_read t_pictured ((t_x * (1103515245 : Int32)) + (12345 : Int32)) t_all (t_order (x4 - x4 / (t_all 0) * (t_all 0)).toNatClampNeg) r_6 hc_7 H.size) (cwV 1 hts gX11_sends_X11_gapAt rfl rfl rfl (by decide +kernel) ⟨Nat.le_of_ble_eq_true rfl, Nat.le_of_ble_eq_true rfl⟩) (xp_V C0.2 hP hD hS [0, 1] rfl (by decide) 10 0 rfl rfl rfl) rfl rfl hl.1 rfl (lv_room (Nat.le_of_ble_eq_true rfl)) dX11_sends_84 ⟨Nat.le_of_ble_eq_true rfl, Nat.le_of_ble_eq_true rfl⟩) (fun H locs hP hD hS => ?_)
      refine lv_iadd hx hb dX11_sends_87 ?_
      refine lv_iload hx hb dX11_sends_88 (lv_at hl 0 rfl) ?_
      refine lv_iadd hx hb dX11_sends_90 ?_
      obtain ⟨hg_8, hF⟩ := gd_some hF
      refine xs_i (f := t_sent) hx hb hK hP hD hS 2 0 rfl rfl rfl (in_v hg_8) dX11_sends_91 (fun H locs hP hD hS => ?_)
      have hP : va_P D vwCl (w_X11_sends K g_t t_raised t_undos t_reached t_length t_begin t_sort t_value t_word t_wrongAt t_badAt t_bad t_read t_pictured ((t_x * (1103515245 : Int32)) + (12345 : Int32)) t_all (upd t_sent (x4 + (1 : Int32)).toNatClampNeg (((t_sent (x4).toNatClampNeg) + r_6) + ((((((t_x * (1103515245 : Int32)) + (12345 : Int32))).toUInt32 >>> (((16 : Int32)).toUInt32 &&& Int32.toUInt32 31)).toInt32 - ((((t_x * (1103515245 : Int32)) + (12345 : Int32))).toUInt32 >>> (((16 : Int32)).toUInt32 &&& Int32.toUInt32 31)).toInt32 / (((2 : Int32) * x3) + (1 : Int32)) * (((2 : Int32) * x3) + (1 : Int32))) - x3))) t_order) H := hP
      have hD : va_D A (w_X11_sends K g_t t_raised t_undos t_reached t_length t_begin t_sort t_value t_word t_wrongAt t_badAt t_bad t_read t_pictured ((t_x * (1103515245 : Int32)) + (12345 : Int32)) t_all (upd t_sent (x4 + (1 : Int32)).toNatClampNeg (((t_sent (x4).toNatClampNeg) + r_6) + ((((((t_x * (1103515245 : Int32)) + (12345 : Int32))).toUInt32 >>> (((16 : Int32)).toUInt32 &&& Int32.toUInt32 31)).toInt32 - ((((t_x * (1103515245 : Int32)) + (12345 : Int32))).toUInt32 >>> (((16 : Int32)).toUInt32 &&& Int32.toUInt32 31)).toInt32 / (((2 : Int32) * x3) + (1 : Int32)) * (((2 : Int32) * x3) + (1 : Int32))) - x3))) t_order) := hD
      refine lv_iinc (v := (x4 + (1 : Int32))) (lv' := [(4, .int (x4 + (1 : Int32))), (5, .int ((((((t_x * (1103515245 : Int32)) + (12345 : Int32))).toUInt32 >>> (((16 : Int32)).toUInt32 &&& Int32.toUInt32 31)).toInt32 - ((((t_x * (1103515245 : Int32)) + (12345 : Int32))).toUInt32 >>> (((16 : Int32)).toUInt32 &&& Int32.toUInt32 31)).toInt32 / (((2 : Int32) * x3) + (1 : Int32)) * (((2 : Int32) * x3) + (1 : Int32))) - x3)), (0, .ref (g_t 0)), (2, .int x2), (3, .int x3)]) hx hb dX11_sends_92 hl (k := 4) rfl (congrArg (fun z => x4 + z) (by decide)) (by decide) rfl (fun ls hl => ?_)
      refine lv_goto (tgt := 15) hx hb dX11_sends_95 (by decide) ?_
      exact ih ((t_x * (1103515245 : Int32)) + (12345 : Int32)) (upd t_sent (x4 + (1 : Int32)).toNatClampNeg (((t_sent (x4).toNatClampNeg) + r_6) + ((((((t_x * (1103515245 : Int32)) + (12345 : Int32))).toUInt32 >>> (((16 : Int32)).toUInt32 &&& Int32.toUInt32 31)).toInt32 - ((((t_x * (1103515245 : Int32)) + (12345 : Int32))).toUInt32 >>> (((16 : Int32)).toUInt32 &&& Int32.toUInt32 31)).toInt32 / (((2 : Int32) * x3) + (1 : Int32)) * (((2 : Int32) * x3) + (1 : Int32))) - x3))) x2 x3 (x4 + (1 : Int32)) H locs ls hP hD hS (lv_sub hl [2, 3, 4, 0] rfl) hF
def F_X11_sends (t_x : Int32) (t_all : Nat → Int32) (t_sent : Nat → Int32) (t_order : Nat → Int32) (x1 : Int32) (x2 : Int32) (x3 : Int32) : Option (Int32 × (Nat → Int32)) :=
  L_X11_sends_15 t_all t_order fu_ x1 (upd t_sent 0 (0 : Int32)) x2 x3 (0 : Int32)
set_option maxHeartbeats 4000000 in
set_option maxRecDepth 100000 in
theorem c_X11_sends (l : Launch) (D : va_G) (K : Nat → ClassId) (g_t : Nat → Nat) (t_raised : Int32) (t_undos : Int32) (t_reached : Int32) (t_length : Int32) (t_begin : Int32) (t_sort : Int32) (t_value : Int32) (t_word : Int64) (t_wrongAt : Int32) (t_badAt : Int32) (t_bad : Int32) (t_read : Int32) (t_pictured : Int32) (t_x : Int32) (t_all : Nat → Int32) (t_sent : Nat → Int32) (t_order : Nat → Int32) (x1 : Int32) (x2 : Int32) (x3 : Int32) (res : Int32 × (Nat → Int32)) (hF : F_X11_sends t_x t_all t_sent t_order x1 x2 x3 = some res) :
    Mv_ l yX11_sends wsX11_sends rmX11_sends D K [.ref (g_t 0), .int x1, .int x2, .int x3] (w_X11_sends K g_t t_raised t_undos t_reached t_length t_begin t_sort t_value t_word t_wrongAt t_badAt t_bad t_read t_pictured t_x t_all t_sent t_order) (w_X11_sends K g_t t_raised t_undos t_reached t_length t_begin t_sort t_value t_word t_wrongAt t_badAt t_bad t_read t_pictured res.1 t_all res.2 t_order) := by
  refine en_v (cc := cX11_sends) (maxL := 6) (own := RX11) (by decide) rfl rfl (Nat.le_of_ble_eq_true rfl) ?_
  intro p e s m args below meth c A Q H locs ls C0 hP hD hS hl HR
  obtain ⟨⟨hx, hb, hml, hown, hts⟩, hK, -⟩ := id C0
  have hl : lv_has ls 6 [(0, .ref (g_t 0)), (1, .int x1), (2, .int x2), (3, .int x3)] := hl
  unfold F_X11_sends at hF
  refine lv_aload_n hx hb dX11_sends_0 rfl (lv_at hl 0 rfl) ?_
  refine lv_iload_n hx hb dX11_sends_1 rfl (lv_at hl 1 rfl) ?_
  refine va_put (D := D) (ci := 10) (v := .int x1) (ty := .int) (C := RX11) (T := TX11) (N := 30) hx hb hts iw_X11_sends_X11 tyX11 tyX11_ok nmX11 hown hK hP hD hS 0 rfl rfl 26 (by decide) (hts _ fl_X11_sends_298) (fun _ h9 => h9) rfl (by decide +kernel) rfl rfl (Nat.le_of_ble_eq_true rfl) dX11_sends_2 (fun H locs hP hD hS => ?_)
  have hP : va_P D vwCl (w_X11_sends K g_t t_raised t_undos t_reached t_length t_begin t_sort t_value t_word t_wrongAt t_badAt t_bad t_read t_pictured x1 t_all t_sent t_order) H := hP
  have hD : va_D A (w_X11_sends K g_t t_raised t_undos t_reached t_length t_begin t_sort t_value t_word t_wrongAt t_badAt t_bad t_read t_pictured x1 t_all t_sent t_order) := hD
  refine lv_aload_n hx hb dX11_sends_5 rfl (lv_at hl 0 rfl) ?_
  refine va_get (D := D) (ci := 10) (v := .ref (g_t 25)) (C := RX11) (T := TX11) (N := 30) hx hb hts iw_X11_sends_X11 hown hK hP 0 rfl rfl 24 (by decide) (hts _ fl_X11_sends_45) (fun _ h9 => h9) rfl dX11_sends_6 ?_
  refine lv_iconst (v := 0) hx hb dX11_sends_9 (by decide) ?_
  refine lv_iconst (v := 0) hx hb dX11_sends_10 (by decide) ?_
  refine xs_i (f := t_sent) hx hb hK hP hD hS 2 0 rfl rfl (k := 0) (by decide) (in_v (by decide)) dX11_sends_11 (fun H locs hP hD hS => ?_)
  have hP : va_P D vwCl (w_X11_sends K g_t t_raised t_undos t_reached t_length t_begin t_sort t_value t_word t_wrongAt t_badAt t_bad t_read t_pictured x1 t_all (upd t_sent 0 (0 : Int32)) t_order) H := hP
  have hD : va_D A (w_X11_sends K g_t t_raised t_undos t_reached t_length t_begin t_sort t_value t_word t_wrongAt t_badAt t_bad t_read t_pictured x1 t_all (upd t_sent 0 (0 : Int32)) t_order) := hD
  refine lv_iconst (v := 0) hx hb dX11_sends_12 (by decide) ?_
  refine lv_istore (lv' := [(4, .int (0 : Int32)), (0, .ref (g_t 0)), (1, .int x1), (2, .int x2), (3, .int x3)]) hx hb dX11_sends_13 hl (by decide) rfl (fun ls hl => ?_)
  exact w_X11_sends_15 C0 HR fu_ x1 (upd t_sent 0 (0 : Int32)) x2 x3 (0 : Int32) H locs ls hP hD hS (lv_sub hl [1, 3, 4, 0] rfl) hF

/-! StaggerRadarModel.greater(II)I -/
abbrev rmX11_greater : Room := { frames := 0, cells := 0, slots := 0, locals := 0 }
abbrev w_X11_greater (K : Nat → ClassId) : va_W := []
def F_X11_greater (x0 : Int32) (x1 : Int32) : Option (Int32) :=
  if x0 ≤ x1 then (some x1) else (some x0)
set_option maxHeartbeats 4000000 in
set_option maxRecDepth 100000 in
theorem c_X11_greater (l : Launch) (D : va_G) (K : Nat → ClassId) (x0 : Int32) (x1 : Int32) (res : Int32) (hF : F_X11_greater x0 x1 = some res) :
    Mi_ l yX11_greater wsX11_greater rmX11_greater D K [.int x0, .int x1] (w_X11_greater K) (w_X11_greater K) (res) := by
  refine en_i (cc := cX11_greater) (maxL := 2) (own := RX11) (by decide) rfl rfl (Nat.le_of_ble_eq_true rfl) ?_
  intro p e s m args below meth c A Q H locs ls C0 hP hD hS hl HR
  obtain ⟨⟨hx, hb, hml, hown, hts⟩, hK, -⟩ := id C0
  have hl : lv_has ls 2 [(0, .int x0), (1, .int x1)] := hl
  unfold F_X11_greater at hF
  refine lv_iload_n hx hb dX11_greater_0 rfl (lv_at hl 0 rfl) ?_
  refine lv_iload_n hx hb dX11_greater_1 rfl (lv_at hl 1 rfl) ?_
  refine lv_icmp_le (tgt := 9) hx hb dX11_greater_2 (by decide) (fun c_1 => ?_) (fun c_1 => ?_)
  · have hF := it_pos c_1 hF
    refine lv_iload_n hx hb dX11_greater_9 rfl (lv_at hl 1 rfl) ?_
    obtain rfl := Option.some.inj hF
    exact HR 10 H locs ls dX11_greater_10 hP hD hS
  · have hF := it_neg c_1 hF
    refine lv_iload_n hx hb dX11_greater_5 rfl (lv_at hl 0 rfl) ?_
    refine lv_goto (tgt := 10) hx hb dX11_greater_6 (by decide) ?_
    obtain rfl := Option.some.inj hF
    exact HR 10 H locs ls dX11_greater_10 hP hD hS

/-! StaggerRadarModel.isHidden(II)Z -/
abbrev rmX11_isHidden : Room := { frames := 0, cells := 0, slots := 0, locals := 0 }
theorem fl_X11_isHidden_7 : Cond.fieldLink RX11 7 "StaggerRadarModel" "all" "[I" ∈ wsX11_isHidden := by decide +kernel
theorem fl_X11_isHidden_45 : Cond.fieldLink RX11 45 "StaggerRadarModel" "sent" "[I" ∈ wsX11_isHidden := by decide +kernel
theorem iw_X11_isHidden_X11 : ∀ w ∈ u_ws RX11 TX11 30, w ∈ wsX11_isHidden := by decide +kernel
abbrev w_X11_isHidden (K : Nat → ClassId) (g_t : Nat → Nat) (t_raised : Int32) (t_undos : Int32) (t_reached : Int32) (t_length : Int32) (t_begin : Int32) (t_sort : Int32) (t_value : Int32) (t_word : Int64) (t_wrongAt : Int32) (t_badAt : Int32) (t_bad : Int32) (t_read : Int32) (t_pictured : Int32) (t_x : Int32) (t_all : Nat → Int32) (t_sent : Nat → Int32) : va_W := [((g_t 0), .inr (10, [.int t_raised, .ref (g_t 2), .ref (g_t 3), .ref (g_t 4), .ref (g_t 5), .int t_undos, .int t_reached, .int t_length, .int t_begin, .int t_sort, .int t_value, .long t_word, .int t_wrongAt, .int t_badAt, .int t_bad, .ref (g_t 16), .int t_read, .ref (g_t 18), .ref (g_t 19), .ref (g_t 20), .int t_pictured, .ref (g_t 22), .ref (g_t 23), .ref (g_t 24), .ref (g_t 25), .ref (g_t 26), .int t_x, .ref (g_t 28), .ref (g_t 29), .ref (g_t 30)])), ((g_t 2), .inl (K 0, 500, .inl t_all)), ((g_t 25), .inl (K 0, 65, .inl t_sent))]
def L_X11_isHidden_2 (t_all : Nat → Int32) (t_sent : Nat → Int32) : Nat → Int32 → Int32 → Int32 → Option (Int32)
  | 0, _, _, _ => none
  | n_ + 1, x1, x2, x3 =>
    if x2 ≤ x3 then (some (0 : Int32)) else (gd_ (in_b x3 65) (if x1 = (t_sent (x3).toNatClampNeg) then (some (1 : Int32)) else (gd_ (in_b x3 65) (if x1 ≤ (t_sent (x3).toNatClampNeg) then (L_X11_isHidden_2 t_all t_sent n_ x1 x2 (x3 + (1 : Int32))) else (gd_ (in_b x3 65) (if (t_all 8) ≤ (x1 - (t_sent (x3).toNatClampNeg)) then (L_X11_isHidden_2 t_all t_sent n_ x1 x2 (x3 + (1 : Int32))) else (some (1 : Int32))))))))
set_option maxHeartbeats 4000000 in
set_option maxRecDepth 100000 in
theorem w_X11_isHidden_2 {p : Program} {l : Launch} {e : Env} {s : State} {m : MethodId} {args : Array Value} {below : List Frame} {meth : Method} {c : Code} {D : va_G} {K : Nat → ClassId} {A : Nat → Prop} {Q : State → Prop} (C0 : cx_ p s m args c cX11_isHidden 4 RX11 wsX11_isHidden D K A) {g_t : Nat → Nat} {t_raised : Int32} {t_undos : Int32} {t_reached : Int32} {t_length : Int32} {t_begin : Int32} {t_sort : Int32} {t_value : Int32} {t_word : Int64} {t_wrongAt : Int32} {t_badAt : Int32} {t_bad : Int32} {t_read : Int32} {t_pictured : Int32} {t_x : Int32} {t_all : Nat → Int32} {t_sent : Nat → Int32} {res : Int32} (HR : ∀ (pc : Nat) (H : Heap) (locs : List Loc) (ls : Array Slot), decode cX11_isHidden pc = .ok (.ireturn, 1) → narrow .boolean (.int res) = .int res → va_P D vwCl (w_X11_isHidden K g_t t_raised t_undos t_reached t_length t_begin t_sort t_value t_word t_wrongAt t_badAt t_bad t_read t_pictured t_x t_all t_sent) H → va_D A (w_X11_isHidden K g_t t_raised t_undos t_reached t_length t_begin t_sort t_value t_word t_wrongAt t_badAt t_bad t_read t_pictured t_x t_all t_sent) → va_S A s.heap H locs → W p l e rmX11_isHidden s m args below meth c H locs 0 0 Q (F0 m pc ls [.int res]))  :
    ∀ (n_ : Nat) (x1 : Int32) (x2 : Int32) (x3 : Int32) (H : Heap) (locs : List Loc) (ls : Array Slot), va_P D vwCl (w_X11_isHidden K g_t t_raised t_undos t_reached t_length t_begin t_sort t_value t_word t_wrongAt t_badAt t_bad t_read t_pictured t_x t_all t_sent) H → va_D A (w_X11_isHidden K g_t t_raised t_undos t_reached t_length t_begin t_sort t_value t_word t_wrongAt t_badAt t_bad t_read t_pictured t_x t_all t_sent) → va_S A s.heap H locs → lv_has ls 4 [(0, .ref (g_t 0)), (1, .int x1), (2, .int x2), (3, .int x3)] → L_X11_isHidden_2 t_all t_sent n_ x1 x2 x3 = some res → W p l e rmX11_isHidden s m args below meth c H locs 0 0 Q (F0 m 2 ls []) := by
  obtain ⟨⟨hx, hb, hml, hown, hts⟩, hK, -⟩ := id C0
  intro n_
  induction n_ with
  | zero =>
    intro x1 x2 x3 H locs ls hP hD hS hl hF
    exact no_s (show (none : Option (Int32)) = some res from hF)
  | succ n_ ih =>
    intro x1 x2 x3 H locs ls hP hD hS hl hF
    rw [L_X11_isHidden_2] at hF
    refine lv_iload_n hx hb dX11_isHidden_2 rfl (lv_at hl 3 rfl) ?_
    refine lv_iload_n hx hb dX11_isHidden_3 rfl (lv_at hl 2 rfl) ?_
    refine lv_icmp_ge (tgt := 53) hx hb dX11_isHidden_4 (by decide) (fun c_1 => ?_) (fun c_1 => ?_)
    · have hF := it_pos c_1 hF
      refine lv_iconst (v := 0) hx hb dX11_isHidden_53 (by decide) ?_
      obtain rfl := Option.some.inj hF
      exact HR 54 H locs ls dX11_isHidden_54 narrow_b0 hP hD hS
    · have hF := it_neg c_1 hF
      refine lv_iload_n hx hb dX11_isHidden_7 rfl (lv_at hl 1 rfl) ?_
      refine lv_aload_n hx hb dX11_isHidden_8 rfl (lv_at hl 0 rfl) ?_
      refine va_get (D := D) (ci := 10) (v := .ref (g_t 25)) (C := RX11) (T := TX11) (N := 30) hx hb hts iw_X11_isHidden_X11 hown hK hP 0 rfl rfl 24 (by decide) (hts _ fl_X11_isHidden_45) (fun _ h9 => h9) rfl dX11_isHidden_9 ?_
      refine lv_iload_n hx hb dX11_isHidden_12 rfl (lv_at hl 3 rfl) ?_
      obtain ⟨hg_2, hF⟩ := gd_some hF
      refine xl_i (f := t_sent) hx hb hK hP 2 0 rfl rfl rfl (in_v hg_2) dX11_isHidden_13 ?_
      refine lv_icmp_eq (tgt := 45) hx hb dX11_isHidden_14 (by decide) (fun c_3 => ?_) (fun c_3 => ?_)
      · have hF := it_pos c_3 hF
        refine lv_iconst (v := 1) hx hb dX11_isHidden_45 (by decide) ?_
        obtain rfl := Option.some.inj hF
        exact HR 46 H locs ls dX11_isHidden_46 narrow_b1 hP hD hS
      · have hF := it_neg c_3 hF
        refine lv_iload_n hx hb dX11_isHidden_17 rfl (lv_at hl 1 rfl) ?_
        refine lv_aload_n hx hb dX11_isHidden_18 rfl (lv_at hl 0 rfl) ?_
        refine va_get (D := D) (ci := 10) (v := .ref (g_t 25)) (C := RX11) (T := TX11) (N := 30) hx hb hts iw_X11_isHidden_X11 hown hK hP 0 rfl rfl 24 (by decide) (hts _ fl_X11_isHidden_45) (fun _ h9 => h9) rfl dX11_isHidden_19 ?_
        refine lv_iload_n hx hb dX11_isHidden_22 rfl (lv_at hl 3 rfl) ?_
        obtain ⟨hg_4, hF⟩ := gd_some hF
        refine xl_i (f := t_sent) hx hb hK hP 2 0 rfl rfl rfl (in_v hg_4) dX11_isHidden_23 ?_
        refine lv_icmp_le (tgt := 47) hx hb dX11_isHidden_24 (by decide) (fun c_5 => ?_) (fun c_5 => ?_)
        · have hF := it_pos c_5 hF
          refine lv_iinc (v := (x3 + (1 : Int32))) (lv' := [(3, .int (x3 + (1 : Int32))), (0, .ref (g_t 0)), (1, .int x1), (2, .int x2)]) hx hb dX11_isHidden_47 hl (k := 3) rfl (congrArg (fun z => x3 + z) (by decide)) (by decide) rfl (fun ls hl => ?_)
          refine lv_goto (tgt := 2) hx hb dX11_isHidden_50 (by decide) ?_
          exact ih x1 x2 (x3 + (1 : Int32)) H locs ls hP hD hS (lv_sub hl [1, 2, 3, 0] rfl) hF
        · have hF := it_neg c_5 hF
          refine lv_iload_n hx hb dX11_isHidden_27 rfl (lv_at hl 1 rfl) ?_
          refine lv_aload_n hx hb dX11_isHidden_28 rfl (lv_at hl 0 rfl) ?_
          refine va_get (D := D) (ci := 10) (v := .ref (g_t 25)) (C := RX11) (T := TX11) (N := 30) hx hb hts iw_X11_isHidden_X11 hown hK hP 0 rfl rfl 24 (by decide) (hts _ fl_X11_isHidden_45) (fun _ h9 => h9) rfl dX11_isHidden_29 ?_
          refine lv_iload_n hx hb dX11_isHidden_32 rfl (lv_at hl 3 rfl) ?_
          obtain ⟨hg_6, hF⟩ := gd_some hF
          refine xl_i (f := t_sent) hx hb hK hP 2 0 rfl rfl rfl (in_v hg_6) dX11_isHidden_33 ?_
          refine lv_isub hx hb dX11_isHidden_34 ?_
          refine lv_aload_n hx hb dX11_isHidden_35 rfl (lv_at hl 0 rfl) ?_
          refine va_get (D := D) (ci := 10) (v := .ref (g_t 2)) (C := RX11) (T := TX11) (N := 30) hx hb hts iw_X11_isHidden_X11 hown hK hP 0 rfl rfl 1 (by decide) (hts _ fl_X11_isHidden_7) (fun _ h9 => h9) rfl dX11_isHidden_36 ?_
          refine lv_bipush (v := 8) hx hb dX11_isHidden_39 (by decide) ?_
          refine xl_i (f := t_all) hx hb hK hP 1 0 rfl rfl (k := 8) (by decide) (in_v (by decide)) dX11_isHidden_41 ?_
          refine lv_icmp_ge (tgt := 47) hx hb dX11_isHidden_42 (by decide) (fun c_7 => ?_) (fun c_7 => ?_)
          · have hF := it_pos c_7 hF
            refine lv_iinc (v := (x3 + (1 : Int32))) (lv' := [(3, .int (x3 + (1 : Int32))), (0, .ref (g_t 0)), (1, .int x1), (2, .int x2)]) hx hb dX11_isHidden_47 hl (k := 3) rfl (congrArg (fun z => x3 + z) (by decide)) (by decide) rfl (fun ls hl => ?_)
            refine lv_goto (tgt := 2) hx hb dX11_isHidden_50 (by decide) ?_
            exact ih x1 x2 (x3 + (1 : Int32)) H locs ls hP hD hS (lv_sub hl [1, 2, 3, 0] rfl) hF
          · have hF := it_neg c_7 hF
            refine lv_iconst (v := 1) hx hb dX11_isHidden_45 (by decide) ?_
            obtain rfl := Option.some.inj hF
            exact HR 46 H locs ls dX11_isHidden_46 narrow_b1 hP hD hS
def F_X11_isHidden (t_all : Nat → Int32) (t_sent : Nat → Int32) (x1 : Int32) (x2 : Int32) : Option (Int32) :=
  L_X11_isHidden_2 t_all t_sent fu_ x1 x2 (0 : Int32)
set_option maxHeartbeats 4000000 in
set_option maxRecDepth 100000 in
theorem c_X11_isHidden (l : Launch) (D : va_G) (K : Nat → ClassId) (g_t : Nat → Nat) (t_raised : Int32) (t_undos : Int32) (t_reached : Int32) (t_length : Int32) (t_begin : Int32) (t_sort : Int32) (t_value : Int32) (t_word : Int64) (t_wrongAt : Int32) (t_badAt : Int32) (t_bad : Int32) (t_read : Int32) (t_pictured : Int32) (t_x : Int32) (t_all : Nat → Int32) (t_sent : Nat → Int32) (x1 : Int32) (x2 : Int32) (res : Int32) (hF : F_X11_isHidden t_all t_sent x1 x2 = some res) :
    Mi_ l yX11_isHidden wsX11_isHidden rmX11_isHidden D K [.ref (g_t 0), .int x1, .int x2] (w_X11_isHidden K g_t t_raised t_undos t_reached t_length t_begin t_sort t_value t_word t_wrongAt t_badAt t_bad t_read t_pictured t_x t_all t_sent) (w_X11_isHidden K g_t t_raised t_undos t_reached t_length t_begin t_sort t_value t_word t_wrongAt t_badAt t_bad t_read t_pictured t_x t_all t_sent) (res) := by
  refine en_z (cc := cX11_isHidden) (maxL := 4) (own := RX11) (by decide) rfl rfl (Nat.le_of_ble_eq_true rfl) ?_
  intro p e s m args below meth c A Q H locs ls C0 hP hD hS hl HR
  obtain ⟨⟨hx, hb, hml, hown, hts⟩, hK, -⟩ := id C0
  have hl : lv_has ls 4 [(0, .ref (g_t 0)), (1, .int x1), (2, .int x2)] := hl
  unfold F_X11_isHidden at hF
  refine lv_iconst (v := 0) hx hb dX11_isHidden_0 (by decide) ?_
  refine lv_istore_n (lv' := [(3, .int (0 : Int32)), (0, .ref (g_t 0)), (1, .int x1), (2, .int x2)]) hx hb dX11_isHidden_1 rfl hl (by decide) rfl (fun ls hl => ?_)
  exact w_X11_isHidden_2 C0 HR fu_ x1 x2 (0 : Int32) H locs ls hP hD hS (lv_sub hl [1, 2, 3, 0] rfl) hF

/-! StaggerRadarModel.heard(II)I -/
abbrev rmX11_heard : Room := { frames := 2, cells := 0, slots := 0, locals := 43 }
theorem fl_X11_heard_7 : Cond.fieldLink RX11 7 "StaggerRadarModel" "all" "[I" ∈ wsX11_heard := by decide +kernel
theorem fl_X11_heard_45 : Cond.fieldLink RX11 45 "StaggerRadarModel" "sent" "[I" ∈ wsX11_heard := by decide +kernel
theorem iw_X11_heard_X11 : ∀ w ∈ u_ws RX11 TX11 30, w ∈ wsX11_heard := by decide +kernel
abbrev w_X11_heard (K : Nat → ClassId) (g_t : Nat → Nat) (t_raised : Int32) (t_undos : Int32) (t_reached : Int32) (t_length : Int32) (t_begin : Int32) (t_sort : Int32) (t_value : Int32) (t_word : Int64) (t_wrongAt : Int32) (t_badAt : Int32) (t_bad : Int32) (t_read : Int32) (t_pictured : Int32) (t_x : Int32) (t_all : Nat → Int32) (t_sent : Nat → Int32) : va_W := [((g_t 0), .inr (10, [.int t_raised, .ref (g_t 2), .ref (g_t 3), .ref (g_t 4), .ref (g_t 5), .int t_undos, .int t_reached, .int t_length, .int t_begin, .int t_sort, .int t_value, .long t_word, .int t_wrongAt, .int t_badAt, .int t_bad, .ref (g_t 16), .int t_read, .ref (g_t 18), .ref (g_t 19), .ref (g_t 20), .int t_pictured, .ref (g_t 22), .ref (g_t 23), .ref (g_t 24), .ref (g_t 25), .ref (g_t 26), .int t_x, .ref (g_t 28), .ref (g_t 29), .ref (g_t 30)])), ((g_t 2), .inl (K 0, 500, .inl t_all)), ((g_t 25), .inl (K 0, 65, .inl t_sent))]
def J_X11_heard_94 (t_all : Nat → Int32) (t_sent : Nat → Int32) (k_5 : Int32 → Int32 → Int32 → Int32 → Option (Int32)) (k_14 : Int32 → Int32 → Int32 → Int32 → Int32 → Option (Int32)) (x1 : Int32) (x2 : Int32) (x3 : Int32) (x4 : Int32) (x5 : Int32) (s0 : Int32) : Option (Int32) :=
  if s0 = (0 : Int32) then (k_14 x1 x2 (x3 + (0 : Int32)) x4 (x5 + (1 : Int32))) else (k_14 x1 x2 (x3 + (1 : Int32)) x4 (x5 + (1 : Int32)))
set_option maxHeartbeats 4000000 in
set_option maxRecDepth 100000 in
theorem w_X11_heard_94 {p : Program} {l : Launch} {e : Env} {s : State} {m : MethodId} {args : Array Value} {below : List Frame} {meth : Method} {c : Code} {D : va_G} {K : Nat → ClassId} {A : Nat → Prop} {Q : State → Prop} (C0 : cx_ p s m args c cX11_heard 8 RX11 wsX11_heard D K A) {g_t : Nat → Nat} {t_raised : Int32} {t_undos : Int32} {t_reached : Int32} {t_length : Int32} {t_begin : Int32} {t_sort : Int32} {t_value : Int32} {t_word : Int64} {t_wrongAt : Int32} {t_badAt : Int32} {t_bad : Int32} {t_read : Int32} {t_pictured : Int32} {t_x : Int32} {t_all : Nat → Int32} {t_sent : Nat → Int32} {res : Int32} (HR : ∀ (pc : Nat) (H : Heap) (locs : List Loc) (ls : Array Slot), decode cX11_heard pc = .ok (.ireturn, 1) → va_P D vwCl (w_X11_heard K g_t t_raised t_undos t_reached t_length t_begin t_sort t_value t_word t_wrongAt t_badAt t_bad t_read t_pictured t_x t_all t_sent) H → va_D A (w_X11_heard K g_t t_raised t_undos t_reached t_length t_begin t_sort t_value t_word t_wrongAt t_badAt t_bad t_read t_pictured t_x t_all t_sent) → va_S A s.heap H locs → W p l e rmX11_heard s m args below meth c H locs 0 0 Q (F0 m pc ls [.int res])) {k_5 : Int32 → Int32 → Int32 → Int32 → Option (Int32)} (HK_5 : ∀ (x1 : Int32) (x2 : Int32) (x3 : Int32) (x4 : Int32) (H : Heap) (locs : List Loc) (ls : Array Slot), va_P D vwCl (w_X11_heard K g_t t_raised t_undos t_reached t_length t_begin t_sort t_value t_word t_wrongAt t_badAt t_bad t_read t_pictured t_x t_all t_sent) H → va_D A (w_X11_heard K g_t t_raised t_undos t_reached t_length t_begin t_sort t_value t_word t_wrongAt t_badAt t_bad t_read t_pictured t_x t_all t_sent) → va_S A s.heap H locs → lv_has ls 8 [(0, .ref (g_t 0)), (1, .int x1), (2, .int x2), (3, .int x3), (4, .int x4)] → k_5 x1 x2 x3 x4 = some res → W p l e rmX11_heard s m args below meth c H locs 0 0 Q (F0 m 5 ls [])) {k_14 : Int32 → Int32 → Int32 → Int32 → Int32 → Option (Int32)} (HK_14 : ∀ (x1 : Int32) (x2 : Int32) (x3 : Int32) (x4 : Int32) (x5 : Int32) (H : Heap) (locs : List Loc) (ls : Array Slot), va_P D vwCl (w_X11_heard K g_t t_raised t_undos t_reached t_length t_begin t_sort t_value t_word t_wrongAt t_badAt t_bad t_read t_pictured t_x t_all t_sent) H → va_D A (w_X11_heard K g_t t_raised t_undos t_reached t_length t_begin t_sort t_value t_word t_wrongAt t_badAt t_bad t_read t_pictured t_x t_all t_sent) → va_S A s.heap H locs → lv_has ls 8 [(0, .ref (g_t 0)), (1, .int x1), (2, .int x2), (3, .int x3), (4, .int x4), (5, .int x5)] → k_14 x1 x2 x3 x4 x5 = some res → W p l e rmX11_heard s m args below meth c H locs 0 0 Q (F0 m 14 ls [])) :
    ∀ (x1 : Int32) (x2 : Int32) (x3 : Int32) (x4 : Int32) (x5 : Int32) (s0 : Int32) (H : Heap) (locs : List Loc) (ls : Array Slot), va_P D vwCl (w_X11_heard K g_t t_raised t_undos t_reached t_length t_begin t_sort t_value t_word t_wrongAt t_badAt t_bad t_read t_pictured t_x t_all t_sent) H → va_D A (w_X11_heard K g_t t_raised t_undos t_reached t_length t_begin t_sort t_value t_word t_wrongAt t_badAt t_bad t_read t_pictured t_x t_all t_sent) → va_S A s.heap H locs → lv_has ls 8 [(0, .ref (g_t 0)), (1, .int x1), (2, .int x2), (3, .int x3), (4, .int x4), (5, .int x5)] → J_X11_heard_94 t_all t_sent k_5 k_14 x1 x2 x3 x4 x5 s0 = some res → W p l e rmX11_heard s m args below meth c H locs 0 0 Q (F0 m 94 ls [.int s0]) := by
  obtain ⟨⟨hx, hb, hml, hown, hts⟩, hK, -⟩ := id C0
  intro x1 x2 x3 x4 x5 s0 H locs ls hP hD hS hl hF
  unfold J_X11_heard_94 at hF
  refine lv_istore (lv' := [(7, .int s0), (0, .ref (g_t 0)), (1, .int x1), (2, .int x2), (3, .int x3), (4, .int x4), (5, .int x5)]) hx hb dX11_heard_94 hl (by decide) rfl (fun ls hl => ?_)
  refine lv_iload_n hx hb dX11_heard_96 rfl (lv_at hl 4 rfl) ?_
  refine lv_iload hx hb dX11_heard_97 (lv_at hl 0 rfl) ?_
  refine lv_if_eq (tgt := 106) hx hb dX11_heard_99 (by decide) (fun c_1 => ?_) (fun c_1 => ?_)
  · have hF := it_pos c_1 hF
    refine lv_iconst (v := 0) hx hb dX11_heard_106 (by decide) ?_
    refine lv_iadd hx hb dX11_heard_107 ?_
    refine lv_istore_n (lv' := [(3, .int (x3 + (0 : Int32))), (7, .int s0), (0, .ref (g_t 0)), (1, .int x1), (2, .int x2), (4, .int x4), (5, .int x5)]) hx hb dX11_heard_108 rfl hl (by decide) rfl (fun ls hl => ?_)
    refine lv_iinc (v := (x5 + (1 : Int32))) (lv' := [(5, .int (x5 + (1 : Int32))), (3, .int (x3 + (0 : Int32))), (7, .int s0), (0, .ref (g_t 0)), (1, .int x1), (2, .int x2), (4, .int x4)]) hx hb dX11_heard_109 hl (k := 6) rfl (congrArg (fun z => x5 + z) (by decide)) (by decide) rfl (fun ls hl => ?_)
    refine lv_goto (tgt := 14) hx hb dX11_heard_112 (by decide) ?_
    exact HK_14 x1 x2 (x3 + (0 : Int32)) x4 (x5 + (1 : Int32)) H locs ls hP hD hS (lv_sub hl [3, 4, 5, 1, 6, 0] rfl) hF
  · have hF := it_neg c_1 hF
    refine lv_iconst (v := 1) hx hb dX11_heard_102 (by decide) ?_
    refine lv_goto (tgt := 107) hx hb dX11_heard_103 (by decide) ?_
    refine lv_iadd hx hb dX11_heard_107 ?_
    refine lv_istore_n (lv' := [(3, .int (x3 + (1 : Int32))), (7, .int s0), (0, .ref (g_t 0)), (1, .int x1), (2, .int x2), (4, .int x4), (5, .int x5)]) hx hb dX11_heard_108 rfl hl (by decide) rfl (fun ls hl => ?_)
    refine lv_iinc (v := (x5 + (1 : Int32))) (lv' := [(5, .int (x5 + (1 : Int32))), (3, .int (x3 + (1 : Int32))), (7, .int s0), (0, .ref (g_t 0)), (1, .int x1), (2, .int x2), (4, .int x4)]) hx hb dX11_heard_109 hl (k := 6) rfl (congrArg (fun z => x5 + z) (by decide)) (by decide) rfl (fun ls hl => ?_)
    refine lv_goto (tgt := 14) hx hb dX11_heard_112 (by decide) ?_
    exact HK_14 x1 x2 (x3 + (1 : Int32)) x4 (x5 + (1 : Int32)) H locs ls hP hD hS (lv_sub hl [3, 4, 5, 1, 6, 0] rfl) hF
def J_X11_heard_86 (t_all : Nat → Int32) (t_sent : Nat → Int32) (k_5 : Int32 → Int32 → Int32 → Int32 → Option (Int32)) (k_14 : Int32 → Int32 → Int32 → Int32 → Int32 → Option (Int32)) (x1 : Int32) (x2 : Int32) (x3 : Int32) (x4 : Int32) (x5 : Int32) (s0 : Int32) (s1 : Int32) : Option (Int32) :=
  if s0 = s1 then (J_X11_heard_94 t_all t_sent k_5 k_14 x1 x2 x3 x4 x5 (1 : Int32)) else (J_X11_heard_94 t_all t_sent k_5 k_14 x1 x2 x3 x4 x5 (0 : Int32))
set_option maxHeartbeats 4000000 in
set_option maxRecDepth 100000 in
theorem w_X11_heard_86 {p : Program} {l : Launch} {e : Env} {s : State} {m : MethodId} {args : Array Value} {below : List Frame} {meth : Method} {c : Code} {D : va_G} {K : Nat → ClassId} {A : Nat → Prop} {Q : State → Prop} (C0 : cx_ p s m args c cX11_heard 8 RX11 wsX11_heard D K A) {g_t : Nat → Nat} {t_raised : Int32} {t_undos : Int32} {t_reached : Int32} {t_length : Int32} {t_begin : Int32} {t_sort : Int32} {t_value : Int32} {t_word : Int64} {t_wrongAt : Int32} {t_badAt : Int32} {t_bad : Int32} {t_read : Int32} {t_pictured : Int32} {t_x : Int32} {t_all : Nat → Int32} {t_sent : Nat → Int32} {res : Int32} (HR : ∀ (pc : Nat) (H : Heap) (locs : List Loc) (ls : Array Slot), decode cX11_heard pc = .ok (.ireturn, 1) → va_P D vwCl (w_X11_heard K g_t t_raised t_undos t_reached t_length t_begin t_sort t_value t_word t_wrongAt t_badAt t_bad t_read t_pictured t_x t_all t_sent) H → va_D A (w_X11_heard K g_t t_raised t_undos t_reached t_length t_begin t_sort t_value t_word t_wrongAt t_badAt t_bad t_read t_pictured t_x t_all t_sent) → va_S A s.heap H locs → W p l e rmX11_heard s m args below meth c H locs 0 0 Q (F0 m pc ls [.int res])) {k_5 : Int32 → Int32 → Int32 → Int32 → Option (Int32)} (HK_5 : ∀ (x1 : Int32) (x2 : Int32) (x3 : Int32) (x4 : Int32) (H : Heap) (locs : List Loc) (ls : Array Slot), va_P D vwCl (w_X11_heard K g_t t_raised t_undos t_reached t_length t_begin t_sort t_value t_word t_wrongAt t_badAt t_bad t_read t_pictured t_x t_all t_sent) H → va_D A (w_X11_heard K g_t t_raised t_undos t_reached t_length t_begin t_sort t_value t_word t_wrongAt t_badAt t_bad t_read t_pictured t_x t_all t_sent) → va_S A s.heap H locs → lv_has ls 8 [(0, .ref (g_t 0)), (1, .int x1), (2, .int x2), (3, .int x3), (4, .int x4)] → k_5 x1 x2 x3 x4 = some res → W p l e rmX11_heard s m args below meth c H locs 0 0 Q (F0 m 5 ls [])) {k_14 : Int32 → Int32 → Int32 → Int32 → Int32 → Option (Int32)} (HK_14 : ∀ (x1 : Int32) (x2 : Int32) (x3 : Int32) (x4 : Int32) (x5 : Int32) (H : Heap) (locs : List Loc) (ls : Array Slot), va_P D vwCl (w_X11_heard K g_t t_raised t_undos t_reached t_length t_begin t_sort t_value t_word t_wrongAt t_badAt t_bad t_read t_pictured t_x t_all t_sent) H → va_D A (w_X11_heard K g_t t_raised t_undos t_reached t_length t_begin t_sort t_value t_word t_wrongAt t_badAt t_bad t_read t_pictured t_x t_all t_sent) → va_S A s.heap H locs → lv_has ls 8 [(0, .ref (g_t 0)), (1, .int x1), (2, .int x2), (3, .int x3), (4, .int x4), (5, .int x5)] → k_14 x1 x2 x3 x4 x5 = some res → W p l e rmX11_heard s m args below meth c H locs 0 0 Q (F0 m 14 ls [])) :
    ∀ (x1 : Int32) (x2 : Int32) (x3 : Int32) (x4 : Int32) (x5 : Int32) (s0 : Int32) (s1 : Int32) (H : Heap) (locs : List Loc) (ls : Array Slot), va_P D vwCl (w_X11_heard K g_t t_raised t_undos t_reached t_length t_begin t_sort t_value t_word t_wrongAt t_badAt t_bad t_read t_pictured t_x t_all t_sent) H → va_D A (w_X11_heard K g_t t_raised t_undos t_reached t_length t_begin t_sort t_value t_word t_wrongAt t_badAt t_bad t_read t_pictured t_x t_all t_sent) → va_S A s.heap H locs → lv_has ls 8 [(0, .ref (g_t 0)), (1, .int x1), (2, .int x2), (3, .int x3), (4, .int x4), (5, .int x5)] → J_X11_heard_86 t_all t_sent k_5 k_14 x1 x2 x3 x4 x5 s0 s1 = some res → W p l e rmX11_heard s m args below meth c H locs 0 0 Q (F0 m 86 ls [.int s1, .int s0]) := by
  obtain ⟨⟨hx, hb, hml, hown, hts⟩, hK, -⟩ := id C0
  intro x1 x2 x3 x4 x5 s0 s1 H locs ls hP hD hS hl hF
  unfold J_X11_heard_86 at hF
  refine lv_icmp_ne (tgt := 93) hx hb dX11_heard_86 (by decide) (fun c_1 => ?_) (fun c_1 => ?_)
  · have hF := it_neg c_1 hF
    refine lv_iconst (v := 0) hx hb dX11_heard_93 (by decide) ?_
    exact w_X11_heard_94 C0 HR HK_5 HK_14 x1 x2 x3 x4 x5 (0 : Int32) H locs ls hP hD hS (lv_sub hl [0, 1, 2, 3, 4, 5] rfl) hF
  · have hF := it_pos c_1 hF
    refine lv_iconst (v := 1) hx hb dX11_heard_89 (by decide) ?_
    refine lv_goto (tgt := 94) hx hb dX11_heard_90 (by decide) ?_
    exact w_X11_heard_94 C0 HR HK_5 HK_14 x1 x2 x3 x4 x5 (1 : Int32) H locs ls hP hD hS (lv_sub hl [0, 1, 2, 3, 4, 5] rfl) hF
def J_X11_heard_76 (t_all : Nat → Int32) (t_sent : Nat → Int32) (k_5 : Int32 → Int32 → Int32 → Int32 → Option (Int32)) (k_14 : Int32 → Int32 → Int32 → Int32 → Int32 → Option (Int32)) (x1 : Int32) (x2 : Int32) (x3 : Int32) (x4 : Int32) (x5 : Int32) (s0 : Int32) : Option (Int32) :=
  if x2 = (1 : Int32) then (J_X11_heard_86 t_all t_sent k_5 k_14 x1 x2 x3 x4 x5 s0 (1 : Int32)) else (J_X11_heard_86 t_all t_sent k_5 k_14 x1 x2 x3 x4 x5 s0 (0 : Int32))
set_option maxHeartbeats 4000000 in
set_option maxRecDepth 100000 in
theorem w_X11_heard_76 {p : Program} {l : Launch} {e : Env} {s : State} {m : MethodId} {args : Array Value} {below : List Frame} {meth : Method} {c : Code} {D : va_G} {K : Nat → ClassId} {A : Nat → Prop} {Q : State → Prop} (C0 : cx_ p s m args c cX11_heard 8 RX11 wsX11_heard D K A) {g_t : Nat → Nat} {t_raised : Int32} {t_undos : Int32} {t_reached : Int32} {t_length : Int32} {t_begin : Int32} {t_sort : Int32} {t_value : Int32} {t_word : Int64} {t_wrongAt : Int32} {t_badAt : Int32} {t_bad : Int32} {t_read : Int32} {t_pictured : Int32} {t_x : Int32} {t_all : Nat → Int32} {t_sent : Nat → Int32} {res : Int32} (HR : ∀ (pc : Nat) (H : Heap) (locs : List Loc) (ls : Array Slot), decode cX11_heard pc = .ok (.ireturn, 1) → va_P D vwCl (w_X11_heard K g_t t_raised t_undos t_reached t_length t_begin t_sort t_value t_word t_wrongAt t_badAt t_bad t_read t_pictured t_x t_all t_sent) H → va_D A (w_X11_heard K g_t t_raised t_undos t_reached t_length t_begin t_sort t_value t_word t_wrongAt t_badAt t_bad t_read t_pictured t_x t_all t_sent) → va_S A s.heap H locs → W p l e rmX11_heard s m args below meth c H locs 0 0 Q (F0 m pc ls [.int res])) {k_5 : Int32 → Int32 → Int32 → Int32 → Option (Int32)} (HK_5 : ∀ (x1 : Int32) (x2 : Int32) (x3 : Int32) (x4 : Int32) (H : Heap) (locs : List Loc) (ls : Array Slot), va_P D vwCl (w_X11_heard K g_t t_raised t_undos t_reached t_length t_begin t_sort t_value t_word t_wrongAt t_badAt t_bad t_read t_pictured t_x t_all t_sent) H → va_D A (w_X11_heard K g_t t_raised t_undos t_reached t_length t_begin t_sort t_value t_word t_wrongAt t_badAt t_bad t_read t_pictured t_x t_all t_sent) → va_S A s.heap H locs → lv_has ls 8 [(0, .ref (g_t 0)), (1, .int x1), (2, .int x2), (3, .int x3), (4, .int x4)] → k_5 x1 x2 x3 x4 = some res → W p l e rmX11_heard s m args below meth c H locs 0 0 Q (F0 m 5 ls [])) {k_14 : Int32 → Int32 → Int32 → Int32 → Int32 → Option (Int32)} (HK_14 : ∀ (x1 : Int32) (x2 : Int32) (x3 : Int32) (x4 : Int32) (x5 : Int32) (H : Heap) (locs : List Loc) (ls : Array Slot), va_P D vwCl (w_X11_heard K g_t t_raised t_undos t_reached t_length t_begin t_sort t_value t_word t_wrongAt t_badAt t_bad t_read t_pictured t_x t_all t_sent) H → va_D A (w_X11_heard K g_t t_raised t_undos t_reached t_length t_begin t_sort t_value t_word t_wrongAt t_badAt t_bad t_read t_pictured t_x t_all t_sent) → va_S A s.heap H locs → lv_has ls 8 [(0, .ref (g_t 0)), (1, .int x1), (2, .int x2), (3, .int x3), (4, .int x4), (5, .int x5)] → k_14 x1 x2 x3 x4 x5 = some res → W p l e rmX11_heard s m args below meth c H locs 0 0 Q (F0 m 14 ls [])) :
    ∀ (x1 : Int32) (x2 : Int32) (x3 : Int32) (x4 : Int32) (x5 : Int32) (s0 : Int32) (H : Heap) (locs : List Loc) (ls : Array Slot), va_P D vwCl (w_X11_heard K g_t t_raised t_undos t_reached t_length t_begin t_sort t_value t_word t_wrongAt t_badAt t_bad t_read t_pictured t_x t_all t_sent) H → va_D A (w_X11_heard K g_t t_raised t_undos t_reached t_length t_begin t_sort t_value t_word t_wrongAt t_badAt t_bad t_read t_pictured t_x t_all t_sent) → va_S A s.heap H locs → lv_has ls 8 [(0, .ref (g_t 0)), (1, .int x1), (2, .int x2), (3, .int x3), (4, .int x4), (5, .int x5)] → J_X11_heard_76 t_all t_sent k_5 k_14 x1 x2 x3 x4 x5 s0 = some res → W p l e rmX11_heard s m args below meth c H locs 0 0 Q (F0 m 76 ls [.int s0]) := by
  obtain ⟨⟨hx, hb, hml, hown, hts⟩, hK, -⟩ := id C0
  intro x1 x2 x3 x4 x5 s0 H locs ls hP hD hS hl hF
  unfold J_X11_heard_76 at hF
  refine lv_iload_n hx hb dX11_heard_76 rfl (lv_at hl 2 rfl) ?_
  refine lv_iconst (v := 1) hx hb dX11_heard_77 (by decide) ?_
  refine lv_icmp_ne (tgt := 85) hx hb dX11_heard_78 (by decide) (fun c_1 => ?_) (fun c_1 => ?_)
  · have hF := it_neg c_1 hF
    refine lv_iconst (v := 0) hx hb dX11_heard_85 (by decide) ?_
    exact w_X11_heard_86 C0 HR HK_5 HK_14 x1 x2 x3 x4 x5 s0 (0 : Int32) H locs ls hP hD hS (lv_sub hl [0, 1, 2, 3, 4, 5] rfl) hF
  · have hF := it_pos c_1 hF
    refine lv_iconst (v := 1) hx hb dX11_heard_81 (by decide) ?_
    refine lv_goto (tgt := 86) hx hb dX11_heard_82 (by decide) ?_
    exact w_X11_heard_86 C0 HR HK_5 HK_14 x1 x2 x3 x4 x5 s0 (1 : Int32) H locs ls hP hD hS (lv_sub hl [0, 1, 2, 3, 4, 5] rfl) hF
def L_X11_heard_14 (t_all : Nat → Int32) (t_sent : Nat → Int32) (k_5 : Int32 → Int32 → Int32 → Int32 → Option (Int32)) : Nat → Int32 → Int32 → Int32 → Int32 → Int32 → Option (Int32)
  | 0, _, _, _, _, _ => none
  | n_ + 1, x1, x2, x3, x4, x5 =>
    if (t_all 13) ≤ x5 then (k_5 x1 x2 x3 (x4 + (1 : Int32))) else (gd_ (in_b x4 65) ((F_X11_rangeOf t_all x5).bind fun r_3 => (if x2 = (3 : Int32) then ((F_X11_isHidden t_all t_sent ((t_sent (x4).toNatClampNeg) + r_3) x1).bind fun r_8 => (J_X11_heard_94 t_all t_sent k_5 (L_X11_heard_14 t_all t_sent k_5 n_) x1 x2 x3 x4 x5 r_8)) else (gd_ (in_b (x4 + (1 : Int32)) 65) (if (t_sent (x4 + (1 : Int32)).toNatClampNeg) ≤ ((t_sent (x4).toNatClampNeg) + r_3) then (J_X11_heard_76 t_all t_sent k_5 (L_X11_heard_14 t_all t_sent k_5 n_) x1 x2 x3 x4 x5 (0 : Int32)) else (J_X11_heard_76 t_all t_sent k_5 (L_X11_heard_14 t_all t_sent k_5 n_) x1 x2 x3 x4 x5 (1 : Int32)))))))
set_option maxHeartbeats 4000000 in
set_option maxRecDepth 100000 in
theorem w_X11_heard_14 {p : Program} {l : Launch} {e : Env} {s : State} {m : MethodId} {args : Array Value} {below : List Frame} {meth : Method} {c : Code} {D : va_G} {K : Nat → ClassId} {A : Nat → Prop} {Q : State → Prop} (C0 : cx_ p s m args c cX11_heard 8 RX11 wsX11_heard D K A) {g_t : Nat → Nat} {t_raised : Int32} {t_undos : Int32} {t_reached : Int32} {t_length : Int32} {t_begin : Int32} {t_sort : Int32} {t_value : Int32} {t_word : Int64} {t_wrongAt : Int32} {t_badAt : Int32} {t_bad : Int32} {t_read : Int32} {t_pictured : Int32} {t_x : Int32} {t_all : Nat → Int32} {t_sent : Nat → Int32} {res : Int32} (HR : ∀ (pc : Nat) (H : Heap) (locs : List Loc) (ls : Array Slot), decode cX11_heard pc = .ok (.ireturn, 1) → va_P D vwCl (w_X11_heard K g_t t_raised t_undos t_reached t_length t_begin t_sort t_value t_word t_wrongAt t_badAt t_bad t_read t_pictured t_x t_all t_sent) H → va_D A (w_X11_heard K g_t t_raised t_undos t_reached t_length t_begin t_sort t_value t_word t_wrongAt t_badAt t_bad t_read t_pictured t_x t_all t_sent) → va_S A s.heap H locs → W p l e rmX11_heard s m args below meth c H locs 0 0 Q (F0 m pc ls [.int res])) {k_5 : Int32 → Int32 → Int32 → Int32 → Option (Int32)} (HK_5 : ∀ (x1 : Int32) (x2 : Int32) (x3 : Int32) (x4 : Int32) (H : Heap) (locs : List Loc) (ls : Array Slot), va_P D vwCl (w_X11_heard K g_t t_raised t_undos t_reached t_length t_begin t_sort t_value t_word t_wrongAt t_badAt t_bad t_read t_pictured t_x t_all t_sent) H → va_D A (w_X11_heard K g_t t_raised t_undos t_reached t_length t_begin t_sort t_value t_word t_wrongAt t_badAt t_bad t_read t_pictured t_x t_all t_sent) → va_S A s.heap H locs → lv_has ls 8 [(0, .ref (g_t 0)), (1, .int x1), (2, .int x2), (3, .int x3), (4, .int x4)] → k_5 x1 x2 x3 x4 = some res → W p l e rmX11_heard s m args below meth c H locs 0 0 Q (F0 m 5 ls [])) :
    ∀ (n_ : Nat) (x1 : Int32) (x2 : Int32) (x3 : Int32) (x4 : Int32) (x5 : Int32) (H : Heap) (locs : List Loc) (ls : Array Slot), va_P D vwCl (w_X11_heard K g_t t_raised t_undos t_reached t_length t_begin t_sort t_value t_word t_wrongAt t_badAt t_bad t_read t_pictured t_x t_all t_sent) H → va_D A (w_X11_heard K g_t t_raised t_undos t_reached t_length t_begin t_sort t_value t_word t_wrongAt t_badAt t_bad t_read t_pictured t_x t_all t_sent) → va_S A s.heap H locs → lv_has ls 8 [(0, .ref (g_t 0)), (1, .int x1), (2, .int x2), (3, .int x3), (4, .int x4), (5, .int x5)] → L_X11_heard_14 t_all t_sent k_5 n_ x1 x2 x3 x4 x5 = some res → W p l e rmX11_heard s m args below meth c H locs 0 0 Q (F0 m 14 ls []) := by
  obtain ⟨⟨hx, hb, hml, hown, hts⟩, hK, -⟩ := id C0
  intro n_
  induction n_ with
  | zero =>
    intro x1 x2 x3 x4 x5 H locs ls hP hD hS hl hF
    exact no_s (show (none : Option (Int32)) = some res from hF)
  | succ n_ ih =>
    intro x1 x2 x3 x4 x5 H locs ls hP hD hS hl hF
    rw [L_X11_heard_14] at hF
    refine lv_iload hx hb dX11_heard_14 (lv_at hl 5 rfl) ?_
    refine lv_aload_n hx hb dX11_heard_16 rfl (lv_at hl 0 rfl) ?_
    refine va_get (D := D) (ci := 10) (v := .ref (g_t 2)) (C := RX11) (T := TX11) (N := 30) hx hb hts iw_X11_heard_X11 hown hK hP 0 rfl rfl 1 (by decide) (hts _ fl_X11_heard_7) (fun _ h9 => h9) rfl dX11_heard_17 ?_
    refine lv_bipush (v := 13) hx hb dX11_heard_20 (by decide) ?_
    refine xl_i (f := t_all) hx hb hK hP 1 0 rfl rfl (k := 13) (by decide) (in_v (by decide)) dX11_heard_22 ?_
    refine lv_icmp_ge (tgt := 115) hx hb dX11_heard_23 (by decide) (fun c_1 => ?_) (fun c_1 => ?_)
    · have hF := it_pos c_1 hF
      refine lv_iinc (v := (x4 + (1 : Int32))) (lv' := [(4, .int (x4 + (1 : Int32))), (0, .ref (g_t 0)), (1, .int x1), (2, .int x2), (3, .int x3), (5, .int x5)]) hx hb dX11_heard_115 hl (k := 4) rfl (congrArg (fun z => x4 + z) (by decide)) (by decide) rfl (fun ls hl => ?_)
      refine lv_goto (tgt := 5) hx hb dX11_heard_118 (by decide) ?_
      exact HK_5 x1 x2 x3 (x4 + (1 : Int32)) H locs ls hP hD hS (lv_sub hl [1, 2, 3, 4, 0] rfl) hF
    · have hF := it_neg c_1 hF
      refine lv_aload_n hx hb dX11_heard_26 rfl (lv_at hl 0 rfl) ?_
      refine va_get (D := D) (ci := 10) (v := .ref (g_t 25)) (C := RX11) (T := TX11) (N := 30) hx hb hts iw_X11_heard_X11 hown hK hP 0 rfl rfl 24 (by decide) (hts _ fl_X11_heard_45) (fun _ h9 => h9) rfl dX11_heard_27 ?_
      refine lv_iload hx hb dX11_heard_30 (lv_at hl 4 rfl) ?_
      obtain ⟨hg_2, hF⟩ := gd_some hF
      refine xl_i (f := t_sent) hx hb hK hP 2 0 rfl rfl rfl (in_v hg_2) dX11_heard_32 ?_
      refine lv_aload_n hx hb dX11_heard_33 rfl (lv_at hl 0 rfl) ?_
      refine lv_iload hx hb dX11_heard_34 (lv_at hl 5 rfl) ?_
      obtain ⟨r_3, hc_4, hF⟩ := bn_some hF
      refine xc_i (wn := (w_X11_heard K g_t t_raised t_undos t_reached t_length t_begin t_sort t_value t_word t_wrongAt t_badAt t_bad t_read t_pictured t_x t_all t_sent)) hP hD hS C0.2.2.1 [0, 1] [2] [1, 2, 0] rfl rfl (by decide) (by decide) rfl (by decide) (va_runV (As := [.int x5]) (rest := [.int (t_sent (x4).toNatClampNeg)]) C0.1 (c_X11_rangeOf l D K g_t t_raised t_undos t_reached t_length t_begin t_sort t_value t_word t_wrongAt t_badAt t_bad t_read t_pictured t_x t_all x5 r_3 hc_4 H.size) (cwV 1 hts gX11_heard_X11_rangeOf rfl rfl rfl (by decide +kernel) ⟨Nat.le_of_ble_eq_true rfl, Nat.le_of_ble_eq_true rfl⟩) (xp_V C0.2 hP hD hS [0, 1] rfl (by decide) 10 0 rfl rfl rfl) rfl rfl hl.1 rfl (lv_room (Nat.le_of_ble_eq_true rfl)) dX11_heard_36 ⟨Nat.le_of_ble_eq_true rfl, Nat.le_of_ble_eq_true rfl⟩) (fun H locs hP hD hS => ?_)
      refine lv_iadd hx hb dX11_heard_39 ?_
      refine lv_istore (lv' := [(6, .int ((t_sent (x4).toNatClampNeg) + r_3)), (0, .ref (g_t 0)), (1, .int x1), (2, .int x2), (3, .int x3), (4, .int x4), (5, .int x5)]) hx hb dX11_heard_40 hl (by decide) rfl (fun ls hl => ?_)
      refine lv_iload_n hx hb dX11_heard_42 rfl (lv_at hl 3 rfl) ?_
      refine lv_iconst (v := 3) hx hb dX11_heard_43 (by decide) ?_
      refine lv_icmp_ne (tgt := 57) hx hb dX11_heard_44 (by decide) (fun c_5 => ?_) (fun c_5 => ?_)
      · have hF := it_neg c_5 hF
        refine lv_iload hx hb dX11_heard_57 (lv_at hl 0 rfl) ?_
        refine lv_aload_n hx hb dX11_heard_59 rfl (lv_at hl 1 rfl) ?_
        refine va_get (D := D) (ci := 10) (v := .ref (g_t 25)) (C := RX11) (T := TX11) (N := 30) hx hb hts iw_X11_heard_X11 hown hK hP 0 rfl rfl 24 (by decide) (hts _ fl_X11_heard_45) (fun _ h9 => h9) rfl dX11_heard_60 ?_
        refine lv_iload hx hb dX11_heard_63 (lv_at hl 5 rfl) ?_
        refine lv_iconst (v := 1) hx hb dX11_heard_65 (by decide) ?_
        refine lv_iadd hx hb dX11_heard_66 ?_
        obtain ⟨hg_6, hF⟩ := gd_some hF
        refine xl_i (f := t_sent) hx hb hK hP 2 0 rfl rfl rfl (in_v hg_6) dX11_heard_67 ?_
        refine lv_icmp_ge (tgt := 75) hx hb dX11_heard_68 (by decide) (fun c_7 => ?_) (fun c_7 => ?_)
        · have hF := it_pos c_7 hF
          refine lv_iconst (v := 0) hx hb dX11_heard_75 (by decide) ?_
          exact w_X11_heard_76 C0 HR HK_5 ih x1 x2 x3 x4 x5 (0 : Int32) H locs ls hP hD hS (lv_sub hl [1, 2, 3, 4, 5, 6] rfl) hF
        · have hF := it_neg c_7 hF
          refine lv_iconst (v := 1) hx hb dX11_heard_71 (by decide) ?_
          refine lv_goto (tgt := 76) hx hb dX11_heard_72 (by decide) ?_
          exact w_X11_heard_76 C0 HR HK_5 ih x1 x2 x3 x4 x5 (1 : Int32) H locs ls hP hD hS (lv_sub hl [1, 2, 3, 4, 5, 6] rfl) hF
      · have hF := it_pos c_5 hF
        refine lv_aload_n hx hb dX11_heard_47 rfl (lv_at hl 1 rfl) ?_
        refine lv_iload hx hb dX11_heard_48 (lv_at hl 0 rfl) ?_
        refine lv_iload_n hx hb dX11_heard_50 rfl (lv_at hl 2 rfl) ?_
        obtain ⟨r_8, hc_9, hF⟩ := bn_some hF
        refine xc_i (wn := (w_X11_heard K g_t t_raised t_undos t_reached t_length t_begin t_sort t_value t_word t_wrongAt t_badAt t_bad t_read t_pictured t_x t_all t_sent)) hP hD hS C0.2.2.1 [0, 1, 2] [] [0, 1, 2] rfl rfl (by decide) (by decide) rfl (by decide) (va_runV (As := [.int ((t_sent (x4).toNatClampNeg) + r_3), .int x1]) (rest := []) C0.1 (c_X11_isHidden l D K g_t t_raised t_undos t_reached t_length t_begin t_sort t_value t_word t_wrongAt t_badAt t_bad t_read t_pictured t_x t_all t_sent ((t_sent (x4).toNatClampNeg) + r_3) x1 r_8 hc_9 H.size) (cwV 2 hts gX11_heard_X11_isHidden rfl rfl rfl (by decide +kernel) ⟨Nat.le_of_ble_eq_true rfl, Nat.le_of_ble_eq_true rfl⟩) (xp_V C0.2 hP hD hS [0, 1, 2] rfl (by decide) 10 0 rfl rfl rfl) rfl rfl hl.1 rfl (lv_room (Nat.le_of_ble_eq_true rfl)) dX11_heard_51 ⟨Nat.le_of_ble_eq_true rfl, Nat.le_of_ble_eq_true rfl⟩) (fun H locs hP hD hS => ?_)
        refine lv_goto (tgt := 94) hx hb dX11_heard_54 (by decide) ?_
        exact w_X11_heard_94 C0 HR HK_5 ih x1 x2 x3 x4 x5 r_8 H locs ls hP hD hS (lv_sub hl [1, 2, 3, 4, 5, 6] rfl) hF
def L_X11_heard_5 (t_all : Nat → Int32) (t_sent : Nat → Int32) : Nat → Int32 → Int32 → Int32 → Int32 → Option (Int32)
  | 0, _, _, _, _ => none
  | n_ + 1, x1, x2, x3, x4 =>
    if x1 ≤ x4 then (some x3) else (L_X11_heard_14 t_all t_sent (L_X11_heard_5 t_all t_sent n_) fu_ x1 x2 x3 x4 (0 : Int32))
set_option maxHeartbeats 4000000 in
set_option maxRecDepth 100000 in
theorem w_X11_heard_5 {p : Program} {l : Launch} {e : Env} {s : State} {m : MethodId} {args : Array Value} {below : List Frame} {meth : Method} {c : Code} {D : va_G} {K : Nat → ClassId} {A : Nat → Prop} {Q : State → Prop} (C0 : cx_ p s m args c cX11_heard 8 RX11 wsX11_heard D K A) {g_t : Nat → Nat} {t_raised : Int32} {t_undos : Int32} {t_reached : Int32} {t_length : Int32} {t_begin : Int32} {t_sort : Int32} {t_value : Int32} {t_word : Int64} {t_wrongAt : Int32} {t_badAt : Int32} {t_bad : Int32} {t_read : Int32} {t_pictured : Int32} {t_x : Int32} {t_all : Nat → Int32} {t_sent : Nat → Int32} {res : Int32} (HR : ∀ (pc : Nat) (H : Heap) (locs : List Loc) (ls : Array Slot), decode cX11_heard pc = .ok (.ireturn, 1) → va_P D vwCl (w_X11_heard K g_t t_raised t_undos t_reached t_length t_begin t_sort t_value t_word t_wrongAt t_badAt t_bad t_read t_pictured t_x t_all t_sent) H → va_D A (w_X11_heard K g_t t_raised t_undos t_reached t_length t_begin t_sort t_value t_word t_wrongAt t_badAt t_bad t_read t_pictured t_x t_all t_sent) → va_S A s.heap H locs → W p l e rmX11_heard s m args below meth c H locs 0 0 Q (F0 m pc ls [.int res]))  :
    ∀ (n_ : Nat) (x1 : Int32) (x2 : Int32) (x3 : Int32) (x4 : Int32) (H : Heap) (locs : List Loc) (ls : Array Slot), va_P D vwCl (w_X11_heard K g_t t_raised t_undos t_reached t_length t_begin t_sort t_value t_word t_wrongAt t_badAt t_bad t_read t_pictured t_x t_all t_sent) H → va_D A (w_X11_heard K g_t t_raised t_undos t_reached t_length t_begin t_sort t_value t_word t_wrongAt t_badAt t_bad t_read t_pictured t_x t_all t_sent) → va_S A s.heap H locs → lv_has ls 8 [(0, .ref (g_t 0)), (1, .int x1), (2, .int x2), (3, .int x3), (4, .int x4)] → L_X11_heard_5 t_all t_sent n_ x1 x2 x3 x4 = some res → W p l e rmX11_heard s m args below meth c H locs 0 0 Q (F0 m 5 ls []) := by
  obtain ⟨⟨hx, hb, hml, hown, hts⟩, hK, -⟩ := id C0
  intro n_
  induction n_ with
  | zero =>
    intro x1 x2 x3 x4 H locs ls hP hD hS hl hF
    exact no_s (show (none : Option (Int32)) = some res from hF)
  | succ n_ ih =>
    intro x1 x2 x3 x4 H locs ls hP hD hS hl hF
    rw [L_X11_heard_5] at hF
    refine lv_iload hx hb dX11_heard_5 (lv_at hl 4 rfl) ?_
    refine lv_iload_n hx hb dX11_heard_7 rfl (lv_at hl 1 rfl) ?_
    refine lv_icmp_ge (tgt := 121) hx hb dX11_heard_8 (by decide) (fun c_1 => ?_) (fun c_1 => ?_)
    · have hF := it_pos c_1 hF
      refine lv_iload_n hx hb dX11_heard_121 rfl (lv_at hl 3 rfl) ?_
      obtain rfl := Option.some.inj hF
      exact HR 122 H locs ls dX11_heard_122 hP hD hS
    · have hF := it_neg c_1 hF
      refine lv_iconst (v := 0) hx hb dX11_heard_11 (by decide) ?_
      refine lv_istore (lv' := [(5, .int (0 : Int32)), (0, .ref (g_t 0)), (1, .int x1), (2, .int x2), (3, .int x3), (4, .int x4)]) hx hb dX11_heard_12 hl (by decide) rfl (fun ls hl => ?_)
      exact w_X11_heard_14 C0 HR ih fu_ x1 x2 x3 x4 (0 : Int32) H locs ls hP hD hS (lv_sub hl [1, 2, 3, 4, 5, 0] rfl) hF
def F_X11_heard (t_all : Nat → Int32) (t_sent : Nat → Int32) (x1 : Int32) (x2 : Int32) : Option (Int32) :=
  L_X11_heard_5 t_all t_sent fu_ x1 x2 (0 : Int32) (0 : Int32)
set_option maxHeartbeats 4000000 in
set_option maxRecDepth 100000 in
theorem c_X11_heard (l : Launch) (D : va_G) (K : Nat → ClassId) (g_t : Nat → Nat) (t_raised : Int32) (t_undos : Int32) (t_reached : Int32) (t_length : Int32) (t_begin : Int32) (t_sort : Int32) (t_value : Int32) (t_word : Int64) (t_wrongAt : Int32) (t_badAt : Int32) (t_bad : Int32) (t_read : Int32) (t_pictured : Int32) (t_x : Int32) (t_all : Nat → Int32) (t_sent : Nat → Int32) (x1 : Int32) (x2 : Int32) (res : Int32) (hF : F_X11_heard t_all t_sent x1 x2 = some res) :
    Mi_ l yX11_heard wsX11_heard rmX11_heard D K [.ref (g_t 0), .int x1, .int x2] (w_X11_heard K g_t t_raised t_undos t_reached t_length t_begin t_sort t_value t_word t_wrongAt t_badAt t_bad t_read t_pictured t_x t_all t_sent) (w_X11_heard K g_t t_raised t_undos t_reached t_length t_begin t_sort t_value t_word t_wrongAt t_badAt t_bad t_read t_pictured t_x t_all t_sent) (res) := by
  refine en_i (cc := cX11_heard) (maxL := 8) (own := RX11) (by decide) rfl rfl (Nat.le_of_ble_eq_true rfl) ?_
  intro p e s m args below meth c A Q H locs ls C0 hP hD hS hl HR
  obtain ⟨⟨hx, hb, hml, hown, hts⟩, hK, -⟩ := id C0
  have hl : lv_has ls 8 [(0, .ref (g_t 0)), (1, .int x1), (2, .int x2)] := hl
  unfold F_X11_heard at hF
  refine lv_iconst (v := 0) hx hb dX11_heard_0 (by decide) ?_
  refine lv_istore_n (lv' := [(3, .int (0 : Int32)), (0, .ref (g_t 0)), (1, .int x1), (2, .int x2)]) hx hb dX11_heard_1 rfl hl (by decide) rfl (fun ls hl => ?_)
  refine lv_iconst (v := 0) hx hb dX11_heard_2 (by decide) ?_
  refine lv_istore (lv' := [(4, .int (0 : Int32)), (3, .int (0 : Int32)), (0, .ref (g_t 0)), (1, .int x1), (2, .int x2)]) hx hb dX11_heard_3 hl (by decide) rfl (fun ls hl => ?_)
  exact w_X11_heard_5 C0 HR fu_ x1 x2 (0 : Int32) (0 : Int32) H locs ls hP hD hS (lv_sub hl [2, 3, 4, 1, 0] rfl) hF

/-! StaggerRadarModel.dwell(IIII)I -/
abbrev rmX11_dwell : Room := { frames := 3, cells := 0, slots := 0, locals := 70 }
theorem fl_X11_dwell_7 : Cond.fieldLink RX11 7 "StaggerRadarModel" "all" "[I" ∈ wsX11_dwell := by decide +kernel
theorem fl_X11_dwell_45 : Cond.fieldLink RX11 45 "StaggerRadarModel" "sent" "[I" ∈ wsX11_dwell := by decide +kernel
theorem fl_X11_dwell_66 : Cond.fieldLink RX11 66 "StaggerRadarModel" "raised" "I" ∈ wsX11_dwell := by decide +kernel
theorem iw_X11_dwell_X11 : ∀ w ∈ u_ws RX11 TX11 30, w ∈ wsX11_dwell := by decide +kernel
abbrev w_X11_dwell (K : Nat → ClassId) (g_t : Nat → Nat) (t_raised : Int32) (t_undos : Int32) (t_reached : Int32) (t_length : Int32) (t_begin : Int32) (t_sort : Int32) (t_value : Int32) (t_word : Int64) (t_wrongAt : Int32) (t_badAt : Int32) (t_bad : Int32) (t_read : Int32) (t_pictured : Int32) (t_x : Int32) (t_all : Nat → Int32) (t_sent : Nat → Int32) (t_order : Nat → Int32) : va_W := [((g_t 0), .inr (10, [.int t_raised, .ref (g_t 2), .ref (g_t 3), .ref (g_t 4), .ref (g_t 5), .int t_undos, .int t_reached, .int t_length, .int t_begin, .int t_sort, .int t_value, .long t_word, .int t_wrongAt, .int t_badAt, .int t_bad, .ref (g_t 16), .int t_read, .ref (g_t 18), .ref (g_t 19), .ref (g_t 20), .int t_pictured, .ref (g_t 22), .ref (g_t 23), .ref (g_t 24), .ref (g_t 25), .ref (g_t 26), .int t_x, .ref (g_t 28), .ref (g_t 29), .ref (g_t 30)])), ((g_t 2), .inl (K 0, 500, .inl t_all)), ((g_t 25), .inl (K 0, 65, .inl t_sent)), ((g_t 26), .inl (K 0, 5, .inl t_order))]
def J_X11_dwell_112 (t_all : Nat → Int32) (t_raised : Int32) (t_x : Int32) (t_sent : Nat → Int32) (t_order : Nat → Int32) (x2 : Int32) (x4 : Int32) (x5 : Int32) : Option (Int32 × Int32 × Int32 × (Nat → Int32) × (Nat → Int32)) :=
  if x4 = (4 : Int32) then (some (x5, t_raised, t_x, t_sent, t_order)) else ((F_X11_heard t_all t_sent x2 x4).bind fun r_2 => (some (r_2, t_raised, t_x, t_sent, t_order)))
set_option maxHeartbeats 4000000 in
set_option maxRecDepth 100000 in
theorem w_X11_dwell_112 {p : Program} {l : Launch} {e : Env} {s : State} {m : MethodId} {args : Array Value} {below : List Frame} {meth : Method} {c : Code} {D : va_G} {K : Nat → ClassId} {A : Nat → Prop} {Q : State → Prop} (C0 : cx_ p s m args c cX11_dwell 7 RX11 wsX11_dwell D K A) {g_t : Nat → Nat} {t_undos : Int32} {t_reached : Int32} {t_length : Int32} {t_begin : Int32} {t_sort : Int32} {t_value : Int32} {t_word : Int64} {t_wrongAt : Int32} {t_badAt : Int32} {t_bad : Int32} {t_read : Int32} {t_pictured : Int32} {t_all : Nat → Int32} {res : Int32 × Int32 × Int32 × (Nat → Int32) × (Nat → Int32)} (HR : ∀ (pc : Nat) (H : Heap) (locs : List Loc) (ls : Array Slot), decode cX11_dwell pc = .ok (.ireturn, 1) → va_P D vwCl (w_X11_dwell K g_t res.2.1 t_undos t_reached t_length t_begin t_sort t_value t_word t_wrongAt t_badAt t_bad t_read t_pictured res.2.2.1 t_all res.2.2.2.1 res.2.2.2.2) H → va_D A (w_X11_dwell K g_t res.2.1 t_undos t_reached t_length t_begin t_sort t_value t_word t_wrongAt t_badAt t_bad t_read t_pictured res.2.2.1 t_all res.2.2.2.1 res.2.2.2.2) → va_S A s.heap H locs → W p l e rmX11_dwell s m args below meth c H locs 0 0 Q (F0 m pc ls [.int res.1]))  :
    ∀ (t_raised : Int32) (t_x : Int32) (t_sent : Nat → Int32) (t_order : Nat → Int32) (x2 : Int32) (x4 : Int32) (x5 : Int32) (H : Heap) (locs : List Loc) (ls : Array Slot), va_P D vwCl (w_X11_dwell K g_t t_raised t_undos t_reached t_length t_begin t_sort t_value t_word t_wrongAt t_badAt t_bad t_read t_pictured t_x t_all t_sent t_order) H → va_D A (w_X11_dwell K g_t t_raised t_undos t_reached t_length t_begin t_sort t_value t_word t_wrongAt t_badAt t_bad t_read t_pictured t_x t_all t_sent t_order) → va_S A s.heap H locs → lv_has ls 7 [(0, .ref (g_t 0)), (2, .int x2), (4, .int x4), (5, .int x5)] → J_X11_dwell_112 t_all t_raised t_x t_sent t_order x2 x4 x5 = some res → W p l e rmX11_dwell s m args below meth c H locs 0 0 Q (F0 m 112 ls []) := by
  obtain ⟨⟨hx, hb, hml, hown, hts⟩, hK, -⟩ := id C0
  intro t_raised t_x t_sent t_order x2 x4 x5 H locs ls hP hD hS hl hF
  unfold J_X11_dwell_112 at hF
  refine lv_iload hx hb dX11_dwell_112 (lv_at hl 2 rfl) ?_
  refine lv_iconst (v := 4) hx hb dX11_dwell_114 (by decide) ?_
  refine lv_icmp_ne (tgt := 123) hx hb dX11_dwell_115 (by decide) (fun c_1 => ?_) (fun c_1 => ?_)
  · have hF := it_neg c_1 hF
    refine lv_aload_n hx hb dX11_dwell_123 rfl (lv_at hl 0 rfl) ?_
    refine lv_iload_n hx hb dX11_dwell_124 rfl (lv_at hl 1 rfl) ?_
    refine lv_iload hx hb dX11_dwell_125 (lv_at hl 2 rfl) ?_
    obtain ⟨r_2, hc_3, hF⟩ := bn_some hF
    refine xc_i (wn := (w_X11_dwell K g_t t_raised t_undos t_reached t_length t_begin t_sort t_value t_word t_wrongAt t_badAt t_bad t_read t_pictured t_x t_all t_sent t_order)) hP hD hS C0.2.2.1 [0, 1, 2] [3] [1, 2, 3, 0] rfl rfl (by decide) (by decide) rfl (by decide) (va_runV (As := [.int x2, .int x4]) (rest := []) C0.1 (c_X11_heard l D K g_t t_raised t_undos t_reached t_length t_begin t_sort t_value t_word t_wrongAt t_badAt t_bad t_read t_pictured t_x t_all t_sent x2 x4 r_2 hc_3 H.size) (cwV 2 hts gX11_dwell_X11_heard rfl rfl rfl (by decide +kernel) ⟨Nat.le_of_ble_eq_true rfl, Nat.le_of_ble_eq_true rfl⟩) (xp_V C0.2 hP hD hS [0, 1, 2] rfl (by decide) 10 0 rfl rfl rfl) rfl rfl hl.1 rfl (lv_room (Nat.le_of_ble_eq_true rfl)) dX11_dwell_127 ⟨Nat.le_of_ble_eq_true rfl, Nat.le_of_ble_eq_true rfl⟩) (fun H locs hP hD hS => ?_)
    obtain rfl := Option.some.inj hF
    exact HR 130 H locs ls dX11_dwell_130 hP hD hS
  · have hF := it_pos c_1 hF
    refine lv_iload hx hb dX11_dwell_118 (lv_at hl 3 rfl) ?_
    refine lv_goto (tgt := 130) hx hb dX11_dwell_120 (by decide) ?_
    obtain rfl := Option.some.inj hF
    exact HR 130 H locs ls dX11_dwell_130 hP hD hS
def L_X11_dwell_76 (t_all : Nat → Int32) : Nat → Int32 → Int32 → (Nat → Int32) → (Nat → Int32) → Int32 → Int32 → Int32 → Int32 → Option (Int32 × Int32 × Int32 × (Nat → Int32) × (Nat → Int32))
  | 0, _, _, _, _, _, _, _, _ => none
  | n_ + 1, t_raised, t_x, t_sent, t_order, x2, x4, x5, x6 =>
    if x2 ≤ x6 then (J_X11_dwell_112 t_all t_raised t_x t_sent t_order x2 x4 x5) else (gd_ (in_b x6 65) (gd_ (in_b (x6 - (1 : Int32)) 65) ((F_X11_greater x5 ((t_sent (x6).toNatClampNeg) - (t_sent (x6 - (1 : Int32)).toNatClampNeg))).bind fun r_4 => (L_X11_dwell_76 t_all n_ t_raised t_x t_sent t_order x2 x4 r_4 (x6 + (1 : Int32))))))
set_option maxHeartbeats 4000000 in
set_option maxRecDepth 100000 in
theorem w_X11_dwell_76 {p : Program} {l : Launch} {e : Env} {s : State} {m : MethodId} {args : Array Value} {below : List Frame} {meth : Method} {c : Code} {D : va_G} {K : Nat → ClassId} {A : Nat → Prop} {Q : State → Prop} (C0 : cx_ p s m args c cX11_dwell 7 RX11 wsX11_dwell D K A) {g_t : Nat → Nat} {t_undos : Int32} {t_reached : Int32} {t_length : Int32} {t_begin : Int32} {t_sort : Int32} {t_value : Int32} {t_word : Int64} {t_wrongAt : Int32} {t_badAt : Int32} {t_bad : Int32} {t_read : Int32} {t_pictured : Int32} {t_all : Nat → Int32} {res : Int32 × Int32 × Int32 × (Nat → Int32) × (Nat → Int32)} (HR : ∀ (pc : Nat) (H : Heap) (locs : List Loc) (ls : Array Slot), decode cX11_dwell pc = .ok (.ireturn, 1) → va_P D vwCl (w_X11_dwell K g_t res.2.1 t_undos t_reached t_length t_begin t_sort t_value t_word t_wrongAt t_badAt t_bad t_read t_pictured res.2.2.1 t_all res.2.2.2.1 res.2.2.2.2) H → va_D A (w_X11_dwell K g_t res.2.1 t_undos t_reached t_length t_begin t_sort t_value t_word t_wrongAt t_badAt t_bad t_read t_pictured res.2.2.1 t_all res.2.2.2.1 res.2.2.2.2) → va_S A s.heap H locs → W p l e rmX11_dwell s m args below meth c H locs 0 0 Q (F0 m pc ls [.int res.1]))  :
    ∀ (n_ : Nat) (t_raised : Int32) (t_x : Int32) (t_sent : Nat → Int32) (t_order : Nat → Int32) (x2 : Int32) (x4 : Int32) (x5 : Int32) (x6 : Int32) (H : Heap) (locs : List Loc) (ls : Array Slot), va_P D vwCl (w_X11_dwell K g_t t_raised t_undos t_reached t_length t_begin t_sort t_value t_word t_wrongAt t_badAt t_bad t_read t_pictured t_x t_all t_sent t_order) H → va_D A (w_X11_dwell K g_t t_raised t_undos t_reached t_length t_begin t_sort t_value t_word t_wrongAt t_badAt t_bad t_read t_pictured t_x t_all t_sent t_order) → va_S A s.heap H locs → lv_has ls 7 [(0, .ref (g_t 0)), (2, .int x2), (4, .int x4), (5, .int x5), (6, .int x6)] → L_X11_dwell_76 t_all n_ t_raised t_x t_sent t_order x2 x4 x5 x6 = some res → W p l e rmX11_dwell s m args below meth c H locs 0 0 Q (F0 m 76 ls []) := by
  obtain ⟨⟨hx, hb, hml, hown, hts⟩, hK, -⟩ := id C0
  intro n_
  induction n_ with
  | zero =>
    intro t_raised t_x t_sent t_order x2 x4 x5 x6 H locs ls hP hD hS hl hF
    exact no_s (show (none : Option (Int32 × Int32 × Int32 × (Nat → Int32) × (Nat → Int32))) = some res from hF)
  | succ n_ ih =>
    intro t_raised t_x t_sent t_order x2 x4 x5 x6 H locs ls hP hD hS hl hF
    rw [L_X11_dwell_76] at hF
    refine lv_iload hx hb dX11_dwell_76 (lv_at hl 4 rfl) ?_
    refine lv_iload_n hx hb dX11_dwell_78 rfl (lv_at hl 1 rfl) ?_
    refine lv_icmp_ge (tgt := 112) hx hb dX11_dwell_79 (by decide) (fun c_1 => ?_) (fun c_1 => ?_)
    · have hF := it_pos c_1 hF
      exact w_X11_dwell_112 C0 HR t_raised t_x t_sent t_order x2 x4 x5 H locs ls hP hD hS (lv_sub hl [0, 1, 2, 3] rfl) hF
    · have hF := it_neg c_1 hF
      refine lv_iload hx hb dX11_dwell_82 (lv_at hl 3 rfl) ?_
      refine lv_aload_n hx hb dX11_dwell_84 rfl (lv_at hl 0 rfl) ?_
      refine va_get (D := D) (ci := 10) (v := .ref (g_t 25)) (C := RX11) (T := TX11) (N := 30) hx hb hts iw_X11_dwell_X11 hown hK hP 0 rfl rfl 24 (by decide) (hts _ fl_X11_dwell_45) (fun _ h9 => h9) rfl dX11_dwell_85 ?_
      refine lv_iload hx hb dX11_dwell_88 (lv_at hl 4 rfl) ?_
      obtain ⟨hg_2, hF⟩ := gd_some hF
      refine xl_i (f := t_sent) hx hb hK hP 2 0 rfl rfl rfl (in_v hg_2) dX11_dwell_90 ?_
      refine lv_aload_n hx hb dX11_dwell_91 rfl (lv_at hl 0 rfl) ?_
      refine va_get (D := D) (ci := 10) (v := .ref (g_t 25)) (C := RX11) (T := TX11) (N := 30) hx hb hts iw_X11_dwell_X11 hown hK hP 0 rfl rfl 24 (by decide) (hts _ fl_X11_dwell_45) (fun _ h9 => h9) rfl dX11_dwell_92 ?_
      refine lv_iload hx hb dX11_dwell_95 (lv_at hl 4 rfl) ?_
      refine lv_iconst (v := 1) hx hb dX11_dwell_97 (by decide) ?_
      refine lv_isub hx hb dX11_dwell_98 ?_
      obtain ⟨hg_3, hF⟩ := gd_some hF
      refine xl_i (f := t_sent) hx hb hK hP 2 0 rfl rfl rfl (in_v hg_3) dX11_dwell_99 ?_
      refine lv_isub hx hb dX11_dwell_100 ?_
      obtain ⟨r_4, hc_5, hF⟩ := bn_some hF
      refine xc_i (wn := (w_X11_dwell K g_t t_raised t_undos t_reached t_length t_begin t_sort t_value t_word t_wrongAt t_badAt t_bad t_read t_pictured t_x t_all t_sent t_order)) hP hD hS C0.2.2.1 [] [0, 1, 2, 3] [0, 1, 2, 3] rfl rfl (by decide) (by decide) rfl (by decide) (va_runS (As := [.int x5, .int ((t_sent (x6).toNatClampNeg) - (t_sent (x6 - (1 : Int32)).toNatClampNeg))]) (rest := []) C0.1 (c_X11_greater l D K x5 ((t_sent (x6).toNatClampNeg) - (t_sent (x6 - (1 : Int32)).toNatClampNeg)) r_4 hc_5 H.size) (va_cwS 2 hts gX11_dwell_X11_greater rfl rfl rfl (by decide +kernel) ⟨Nat.le_of_ble_eq_true rfl, Nat.le_of_ble_eq_true rfl⟩) (xp_S C0.2 hP hD hS [] rfl (by decide)) rfl rfl hl.1 rfl (lv_room (Nat.le_of_ble_eq_true rfl)) dX11_dwell_101 ⟨Nat.le_of_ble_eq_true rfl, Nat.le_of_ble_eq_true rfl⟩) (fun H locs hP hD hS => ?_)
      refine lv_istore (lv' := [(5, .int r_4), (0, .ref (g_t 0)), (2, .int x2), (4, .int x4), (6, .int x6)]) hx hb dX11_dwell_104 hl (by decide) rfl (fun ls hl => ?_)
      refine lv_iinc (v := (x6 + (1 : Int32))) (lv' := [(6, .int (x6 + (1 : Int32))), (5, .int r_4), (0, .ref (g_t 0)), (2, .int x2), (4, .int x4)]) hx hb dX11_dwell_106 hl (k := 4) rfl (congrArg (fun z => x6 + z) (by decide)) (by decide) rfl (fun ls hl => ?_)
      refine lv_goto (tgt := 76) hx hb dX11_dwell_109 (by decide) ?_
      exact ih t_raised t_x t_sent t_order x2 x4 r_4 (x6 + (1 : Int32)) H locs ls hP hD hS (lv_sub hl [2, 3, 4, 1, 0] rfl) hF
def F_X11_dwell (t_raised : Int32) (t_x : Int32) (t_all : Nat → Int32) (t_sent : Nat → Int32) (t_order : Nat → Int32) (x1 : Int32) (x2 : Int32) (x3 : Int32) (x4 : Int32) : Option (Int32 × Int32 × Int32 × (Nat → Int32) × (Nat → Int32)) :=
  (F_X11_in x2 (1 : Int32) (64 : Int32)).bind fun r_1 => (if r_1 = (0 : Int32) then (some ((-1 : Int32), (0 : Int32), t_x, t_sent, t_order)) else ((F_X11_in x3 (0 : Int32) (3 : Int32)).bind fun r_4 => (if r_4 = (0 : Int32) then (some ((-1 : Int32), (0 : Int32), t_x, t_sent, t_order)) else ((F_X11_in x4 (0 : Int32) (4 : Int32)).bind fun r_7 => (if r_7 = (0 : Int32) then (some ((-1 : Int32), (0 : Int32), t_x, t_sent, t_order)) else (if (t_all 0) = (0 : Int32) then (some ((-1 : Int32), (0 : Int32), t_x, t_sent, t_order)) else ((F_X11_inOrder t_all t_order).bind fun r_11 => ((F_X11_sends t_x t_all t_sent r_11 x1 x2 x3).bind fun r_13 => (if x4 = (0 : Int32) then (gd_ (in_b (x2 - (1 : Int32)) 65) (some ((r_13.2 (x2 - (1 : Int32)).toNatClampNeg), (0 : Int32), r_13.1, r_13.2, r_11))) else (L_X11_dwell_76 t_all fu_ (0 : Int32) r_13.1 r_13.2 r_11 x2 x4 (0 : Int32) (1 : Int32)))))))))))
set_option maxHeartbeats 4000000 in
set_option maxRecDepth 100000 in
theorem c_X11_dwell (l : Launch) (D : va_G) (K : Nat → ClassId) (g_t : Nat → Nat) (t_raised : Int32) (t_undos : Int32) (t_reached : Int32) (t_length : Int32) (t_begin : Int32) (t_sort : Int32) (t_value : Int32) (t_word : Int64) (t_wrongAt : Int32) (t_badAt : Int32) (t_bad : Int32) (t_read : Int32) (t_pictured : Int32) (t_x : Int32) (t_all : Nat → Int32) (t_sent : Nat → Int32) (t_order : Nat → Int32) (x1 : Int32) (x2 : Int32) (x3 : Int32) (x4 : Int32) (res : Int32 × Int32 × Int32 × (Nat → Int32) × (Nat → Int32)) (hF : F_X11_dwell t_raised t_x t_all t_sent t_order x1 x2 x3 x4 = some res) :
    Mi_ l yX11_dwell wsX11_dwell rmX11_dwell D K [.ref (g_t 0), .int x1, .int x2, .int x3, .int x4] (w_X11_dwell K g_t t_raised t_undos t_reached t_length t_begin t_sort t_value t_word t_wrongAt t_badAt t_bad t_read t_pictured t_x t_all t_sent t_order) (w_X11_dwell K g_t res.2.1 t_undos t_reached t_length t_begin t_sort t_value t_word t_wrongAt t_badAt t_bad t_read t_pictured res.2.2.1 t_all res.2.2.2.1 res.2.2.2.2) (res.1) := by
  refine en_i (cc := cX11_dwell) (maxL := 7) (own := RX11) (by decide) rfl rfl (Nat.le_of_ble_eq_true rfl) ?_
  intro p e s m args below meth c A Q H locs ls C0 hP hD hS hl HR
  obtain ⟨⟨hx, hb, hml, hown, hts⟩, hK, -⟩ := id C0
  have hl : lv_has ls 7 [(0, .ref (g_t 0)), (1, .int x1), (2, .int x2), (3, .int x3), (4, .int x4)] := hl
  unfold F_X11_dwell at hF
  refine lv_aload_n hx hb dX11_dwell_0 rfl (lv_at hl 0 rfl) ?_
  refine lv_iconst (v := 0) hx hb dX11_dwell_1 (by decide) ?_
  refine va_put (D := D) (ci := 10) (v := .int (0 : Int32)) (ty := .int) (C := RX11) (T := TX11) (N := 30) hx hb hts iw_X11_dwell_X11 tyX11 tyX11_ok nmX11 hown hK hP hD hS 0 rfl rfl 0 (by decide) (hts _ fl_X11_dwell_66) (fun _ h9 => h9) rfl (by decide +kernel) rfl rfl (Nat.le_of_ble_eq_true rfl) dX11_dwell_2 (fun H locs hP hD hS => ?_)
  have hP : va_P D vwCl (w_X11_dwell K g_t (0 : Int32) t_undos t_reached t_length t_begin t_sort t_value t_word t_wrongAt t_badAt t_bad t_read t_pictured t_x t_all t_sent t_order) H := hP
  have hD : va_D A (w_X11_dwell K g_t (0 : Int32) t_undos t_reached t_length t_begin t_sort t_value t_word t_wrongAt t_badAt t_bad t_read t_pictured t_x t_all t_sent t_order) := hD
  refine lv_iload_n hx hb dX11_dwell_5 rfl (lv_at hl 2 rfl) ?_
  refine lv_iconst (v := 1) hx hb dX11_dwell_6 (by decide) ?_
  refine lv_bipush (v := 64) hx hb dX11_dwell_7 (by decide) ?_
  obtain ⟨r_1, hc_2, hF⟩ := bn_some hF
  refine xc_i (wn := (w_X11_dwell K g_t (0 : Int32) t_undos t_reached t_length t_begin t_sort t_value t_word t_wrongAt t_badAt t_bad t_read t_pictured t_x t_all t_sent t_order)) hP hD hS C0.2.2.1 [] [0, 1, 2, 3] [0, 1, 2, 3] rfl rfl (by decide) (by decide) rfl (by decide) (va_runS (As := [.int x2, .int (1 : Int32), .int (64 : Int32)]) (rest := []) C0.1 (c_X11_in l D K x2 (1 : Int32) (64 : Int32) r_1 hc_2 H.size) (va_cwS 3 hts gX11_dwell_X11_in rfl rfl rfl (by decide +kernel) ⟨Nat.le_of_ble_eq_true rfl, Nat.le_of_ble_eq_true rfl⟩) (xp_S C0.2 hP hD hS [] rfl (by decide)) rfl rfl hl.1 rfl (lv_room (Nat.le_of_ble_eq_true rfl)) dX11_dwell_9 ⟨Nat.le_of_ble_eq_true rfl, Nat.le_of_ble_eq_true rfl⟩) (fun H locs hP hD hS => ?_)
  refine lv_if_eq (tgt := 43) hx hb dX11_dwell_12 (by decide) (fun c_3 => ?_) (fun c_3 => ?_)
  · have hF := it_pos c_3 hF
    refine lv_iconst (v := (-1)) hx hb dX11_dwell_43 (by decide) ?_
    obtain rfl := Option.some.inj hF
    exact HR 44 H locs ls dX11_dwell_44 hP hD hS
  · have hF := it_neg c_3 hF
    refine lv_iload_n hx hb dX11_dwell_15 rfl (lv_at hl 3 rfl) ?_
    refine lv_iconst (v := 0) hx hb dX11_dwell_16 (by decide) ?_
    refine lv_iconst (v := 3) hx hb dX11_dwell_17 (by decide) ?_
    obtain ⟨r_4, hc_5, hF⟩ := bn_some hF
    refine xc_i (wn := (w_X11_dwell K g_t (0 : Int32) t_undos t_reached t_length t_begin t_sort t_value t_word t_wrongAt t_badAt t_bad t_read t_pictured t_x t_all t_sent t_order)) hP hD hS C0.2.2.1 [] [0, 1, 2, 3] [0, 1, 2, 3] rfl rfl (by decide) (by decide) rfl (by decide) (va_runS (As := [.int x3, .int (0 : Int32), .int (3 : Int32)]) (rest := []) C0.1 (c_X11_in l D K x3 (0 : Int32) (3 : Int32) r_4 hc_5 H.size) (va_cwS 3 hts gX11_dwell_X11_in rfl rfl rfl (by decide +kernel) ⟨Nat.le_of_ble_eq_true rfl, Nat.le_of_ble_eq_true rfl⟩) (xp_S C0.2 hP hD hS [] rfl (by decide)) rfl rfl hl.1 rfl (lv_room (Nat.le_of_ble_eq_true rfl)) dX11_dwell_18 ⟨Nat.le_of_ble_eq_true rfl, Nat.le_of_ble_eq_true rfl⟩) (fun H locs hP hD hS => ?_)
    refine lv_if_eq (tgt := 43) hx hb dX11_dwell_21 (by decide) (fun c_6 => ?_) (fun c_6 => ?_)
    · have hF := it_pos c_6 hF
      refine lv_iconst (v := (-1)) hx hb dX11_dwell_43 (by decide) ?_
      obtain rfl := Option.some.inj hF
      exact HR 44 H locs ls dX11_dwell_44 hP hD hS
    · have hF := it_neg c_6 hF
      refine lv_iload hx hb dX11_dwell_24 (lv_at hl 4 rfl) ?_
      refine lv_iconst (v := 0) hx hb dX11_dwell_26 (by decide) ?_
      refine lv_iconst (v := 4) hx hb dX11_dwell_27 (by decide) ?_
      obtain ⟨r_7, hc_8, hF⟩ := bn_some hF
      refine xc_i (wn := (w_X11_dwell K g_t (0 : Int32) t_undos t_reached t_length t_begin t_sort t_value t_word t_wrongAt t_badAt t_bad t_read t_pictured t_x t_all t_sent t_order)) hP hD hS C0.2.2.1 [] [0, 1, 2, 3] [0, 1, 2, 3] rfl rfl (by decide) (by decide) rfl (by decide) (va_runS (As := [.int x4, .int (0 : Int32), .int (4 : Int32)]) (rest := []) C0.1 (c_X11_in l D K x4 (0 : Int32) (4 : Int32) r_7 hc_8 H.size) (va_cwS 3 hts gX11_dwell_X11_in rfl rfl rfl (by decide +kernel) ⟨Nat.le_of_ble_eq_true rfl, Nat.le_of_ble_eq_true rfl⟩) (xp_S C0.2 hP hD hS [] rfl (by decide)) rfl rfl hl.1 rfl (lv_room (Nat.le_of_ble_eq_true rfl)) dX11_dwell_28 ⟨Nat.le_of_ble_eq_true rfl, Nat.le_of_ble_eq_true rfl⟩) (fun H locs hP hD hS => ?_)
      refine lv_if_eq (tgt := 43) hx hb dX11_dwell_31 (by decide) (fun c_9 => ?_) (fun c_9 => ?_)
      · have hF := it_pos c_9 hF
        refine lv_iconst (v := (-1)) hx hb dX11_dwell_43 (by decide) ?_
        obtain rfl := Option.some.inj hF
        exact HR 44 H locs ls dX11_dwell_44 hP hD hS
      · have hF := it_neg c_9 hF
        refine lv_aload_n hx hb dX11_dwell_34 rfl (lv_at hl 0 rfl) ?_
        refine va_get (D := D) (ci := 10) (v := .ref (g_t 2)) (C := RX11) (T := TX11) (N := 30) hx hb hts iw_X11_dwell_X11 hown hK hP 0 rfl rfl 1 (by decide) (hts _ fl_X11_dwell_7) (fun _ h9 => h9) rfl dX11_dwell_35 ?_
        refine lv_iconst (v := 0) hx hb dX11_dwell_38 (by decide) ?_
        refine xl_i (f := t_all) hx hb hK hP 1 0 rfl rfl (k := 0) (by decide) (in_v (by decide)) dX11_dwell_39 ?_
        refine lv_if_ne (tgt := 45) hx hb dX11_dwell_40 (by decide) (fun c_10 => ?_) (fun c_10 => ?_)
        · have hF := it_neg c_10 hF
          refine lv_aload_n hx hb dX11_dwell_45 rfl (lv_at hl 0 rfl) ?_
          obtain ⟨r_11, hc_12, hF⟩ := bn_some hF
          refine xc_v (wn := (w_X11_dwell K g_t (0 : Int32) t_undos t_reached t_length t_begin t_sort t_value t_word t_wrongAt t_badAt t_bad t_read t_pictured t_x t_all t_sent r_11)) hP hD hS C0.2.2.1 [0, 1, 3] [2] [1, 2, 0, 3] rfl rfl (by decide) (by decide) rfl (by decide) (va_runV (As := []) (rest := []) C0.1 (c_X11_inOrder l D K g_t (0 : Int32) t_undos t_reached t_length t_begin t_sort t_value t_word t_wrongAt t_badAt t_bad t_read t_pictured t_x t_all t_order r_11 hc_12 H.size) (cwV 0 hts gX11_dwell_X11_inOrder rfl rfl rfl (by decide +kernel) ⟨Nat.le_of_ble_eq_true rfl, Nat.le_of_ble_eq_true rfl⟩) (xp_V C0.2 hP hD hS [0, 1, 3] rfl (by decide) 10 0 rfl rfl rfl) rfl rfl hl.1 rfl (lv_room (Nat.le_of_ble_eq_true rfl)) dX11_dwell_46 ⟨Nat.le_of_ble_eq_true rfl, Nat.le_of_ble_eq_true rfl⟩) (fun H locs hP hD hS => ?_)
          refine lv_aload_n hx hb dX11_dwell_49 rfl (lv_at hl 0 rfl) ?_
          refine lv_iload_n hx hb dX11_dwell_50 rfl (lv_at hl 1 rfl) ?_
          refine lv_iload_n hx hb dX11_dwell_51 rfl (lv_at hl 2 rfl) ?_
          refine lv_iload_n hx hb dX11_dwell_52 rfl (lv_at hl 3 rfl) ?_
          obtain ⟨r_13, hc_14, hF⟩ := bn_some hF
          refine xc_v (wn := (w_X11_dwell K g_t (0 : Int32) t_undos t_reached t_length t_begin t_sort t_value t_word t_wrongAt t_badAt t_bad t_read t_pictured r_13.1 t_all r_13.2 r_11)) hP hD hS C0.2.2.1 [0, 1, 2, 3] [] [0, 1, 2, 3] rfl rfl (by decide) (by decide) rfl (by decide) (va_runV (As := [.int x1, .int x2, .int x3]) (rest := []) C0.1 (c_X11_sends l D K g_t (0 : Int32) t_undos t_reached t_length t_begin t_sort t_value t_word t_wrongAt t_badAt t_bad t_read t_pictured t_x t_all t_sent r_11 x1 x2 x3 r_13 hc_14 H.size) (cwV 3 hts gX11_dwell_X11_sends rfl rfl rfl (by decide +kernel) ⟨Nat.le_of_ble_eq_true rfl, Nat.le_of_ble_eq_true rfl⟩) (xp_V C0.2 hP hD hS [0, 1, 2, 3] rfl (by decide) 10 0 rfl rfl rfl) rfl rfl hl.1 rfl (lv_room (Nat.le_of_ble_eq_true rfl)) dX11_dwell_53 ⟨Nat.le_of_ble_eq_true rfl, Nat.le_of_ble_eq_true rfl⟩) (fun H locs hP hD hS => ?_)
          refine lv_iload hx hb dX11_dwell_56 (lv_at hl 4 rfl) ?_
          refine lv_if_ne (tgt := 70) hx hb dX11_dwell_58 (by decide) (fun c_15 => ?_) (fun c_15 => ?_)
          · have hF := it_neg c_15 hF
            refine lv_iconst (v := 0) hx hb dX11_dwell_70 (by decide) ?_
            refine lv_istore (lv' := [(5, .int (0 : Int32)), (0, .ref (g_t 0)), (1, .int x1), (2, .int x2), (3, .int x3), (4, .int x4)]) hx hb dX11_dwell_71 hl (by decide) rfl (fun ls hl => ?_)
            refine lv_iconst (v := 1) hx hb dX11_dwell_73 (by decide) ?_
            refine lv_istore (lv' := [(6, .int (1 : Int32)), (5, .int (0 : Int32)), (0, .ref (g_t 0)), (1, .int x1), (2, .int x2), (3, .int x3), (4, .int x4)]) hx hb dX11_dwell_74 hl (by decide) rfl (fun ls hl => ?_)
            exact w_X11_dwell_76 C0 HR fu_ (0 : Int32) r_13.1 r_13.2 r_11 x2 x4 (0 : Int32) (1 : Int32) H locs ls hP hD hS (lv_sub hl [2, 4, 6, 1, 0] rfl) hF
          · have hF := it_pos c_15 hF
            refine lv_aload_n hx hb dX11_dwell_61 rfl (lv_at hl 0 rfl) ?_
            refine va_get (D := D) (ci := 10) (v := .ref (g_t 25)) (C := RX11) (T := TX11) (N := 30) hx hb hts iw_X11_dwell_X11 hown hK hP 0 rfl rfl 24 (by decide) (hts _ fl_X11_dwell_45) (fun _ h9 => h9) rfl dX11_dwell_62 ?_
            refine lv_iload_n hx hb dX11_dwell_65 rfl (lv_at hl 2 rfl) ?_
            refine lv_iconst (v := 1) hx hb dX11_dwell_66 (by decide) ?_
            refine lv_isub hx hb dX11_dwell_67 ?_
            obtain ⟨hg_16, hF⟩ := gd_some hF
            refine xl_i (f := r_13.2) hx hb hK hP 2 0 rfl rfl rfl (in_v hg_16) dX11_dwell_68 ?_
            obtain rfl := Option.some.inj hF
            exact HR 69 H locs ls dX11_dwell_69 hP hD hS
        · have hF := it_pos c_10 hF
          refine lv_iconst (v := (-1)) hx hb dX11_dwell_43 (by decide) ?_
          obtain rfl := Option.some.inj hF
          exact HR 44 H locs ls dX11_dwell_44 hP hD hS

/-! StaggerRadarModel.fails()Z -/
abbrev rmX11_fails : Room := { frames := 0, cells := 0, slots := 0, locals := 0 }
theorem fl_X11_fails_90 : Cond.fieldLink RX11 90 "StaggerRadarModel" "begin" "I" ∈ wsX11_fails := by decide +kernel
theorem fl_X11_fails_103 : Cond.fieldLink RX11 103 "StaggerRadarModel" "wrongAt" "I" ∈ wsX11_fails := by decide +kernel
theorem iw_X11_fails_X11 : ∀ w ∈ u_ws RX11 TX11 30, w ∈ wsX11_fails := by decide +kernel
abbrev w_X11_fails (K : Nat → ClassId) (g_t : Nat → Nat) (t_raised : Int32) (t_undos : Int32) (t_reached : Int32) (t_length : Int32) (t_begin : Int32) (t_sort : Int32) (t_value : Int32) (t_word : Int64) (t_wrongAt : Int32) (t_badAt : Int32) (t_bad : Int32) (t_read : Int32) (t_pictured : Int32) (t_x : Int32) : va_W := [((g_t 0), .inr (10, [.int t_raised, .ref (g_t 2), .ref (g_t 3), .ref (g_t 4), .ref (g_t 5), .int t_undos, .int t_reached, .int t_length, .int t_begin, .int t_sort, .int t_value, .long t_word, .int t_wrongAt, .int t_badAt, .int t_bad, .ref (g_t 16), .int t_read, .ref (g_t 18), .ref (g_t 19), .ref (g_t 20), .int t_pictured, .ref (g_t 22), .ref (g_t 23), .ref (g_t 24), .ref (g_t 25), .ref (g_t 26), .int t_x, .ref (g_t 28), .ref (g_t 29), .ref (g_t 30)]))]
def F_X11_fails (t_begin : Int32) (t_wrongAt : Int32) : Option (Int32 × Int32) :=
  some ((0 : Int32), t_begin)
set_option maxHeartbeats 4000000 in
set_option maxRecDepth 100000 in
theorem c_X11_fails (l : Launch) (D : va_G) (K : Nat → ClassId) (g_t : Nat → Nat) (t_raised : Int32) (t_undos : Int32) (t_reached : Int32) (t_length : Int32) (t_begin : Int32) (t_sort : Int32) (t_value : Int32) (t_word : Int64) (t_wrongAt : Int32) (t_badAt : Int32) (t_bad : Int32) (t_read : Int32) (t_pictured : Int32) (t_x : Int32) (res : Int32 × Int32) (hF : F_X11_fails t_begin t_wrongAt = some res) :
    Mi_ l yX11_fails wsX11_fails rmX11_fails D K [.ref (g_t 0)] (w_X11_fails K g_t t_raised t_undos t_reached t_length t_begin t_sort t_value t_word t_wrongAt t_badAt t_bad t_read t_pictured t_x) (w_X11_fails K g_t t_raised t_undos t_reached t_length t_begin t_sort t_value t_word res.2 t_badAt t_bad t_read t_pictured t_x) (res.1) := by
  refine en_z (cc := cX11_fails) (maxL := 1) (own := RX11) (by decide) rfl rfl (Nat.le_of_ble_eq_true rfl) ?_
  intro p e s m args below meth c A Q H locs ls C0 hP hD hS hl HR
  obtain ⟨⟨hx, hb, hml, hown, hts⟩, hK, -⟩ := id C0
  have hl : lv_has ls 1 [(0, .ref (g_t 0))] := hl
  unfold F_X11_fails at hF
  refine lv_aload_n hx hb dX11_fails_0 rfl (lv_at hl 0 rfl) ?_
  refine lv_aload_n hx hb dX11_fails_1 rfl (lv_at hl 0 rfl) ?_
  refine va_get (D := D) (ci := 10) (v := .int t_begin) (C := RX11) (T := TX11) (N := 30) hx hb hts iw_X11_fails_X11 hown hK hP 0 rfl rfl 8 (by decide) (hts _ fl_X11_fails_90) (fun _ h9 => h9) rfl dX11_fails_2 ?_
  refine va_put (D := D) (ci := 10) (v := .int t_begin) (ty := .int) (C := RX11) (T := TX11) (N := 30) hx hb hts iw_X11_fails_X11 tyX11 tyX11_ok nmX11 hown hK hP hD hS 0 rfl rfl 12 (by decide) (hts _ fl_X11_fails_103) (fun _ h9 => h9) rfl (by decide +kernel) rfl rfl (Nat.le_of_ble_eq_true rfl) dX11_fails_5 (fun H locs hP hD hS => ?_)
  have hP : va_P D vwCl (w_X11_fails K g_t t_raised t_undos t_reached t_length t_begin t_sort t_value t_word t_begin t_badAt t_bad t_read t_pictured t_x) H := hP
  have hD : va_D A (w_X11_fails K g_t t_raised t_undos t_reached t_length t_begin t_sort t_value t_word t_begin t_badAt t_bad t_read t_pictured t_x) := hD
  refine lv_iconst (v := 0) hx hb dX11_fails_8 (by decide) ?_
  obtain rfl := Option.some.inj hF
  exact HR 9 H locs ls dX11_fails_9 narrow_b0 hP hD hS

/-! StaggerRadarModel.fault(Z)I -/
abbrev rmX11_fault : Room := { frames := 0, cells := 0, slots := 0, locals := 0 }
theorem fl_X11_fault_7 : Cond.fieldLink RX11 7 "StaggerRadarModel" "all" "[I" ∈ wsX11_fault := by decide +kernel
theorem fl_X11_fault_66 : Cond.fieldLink RX11 66 "StaggerRadarModel" "raised" "I" ∈ wsX11_fault := by decide +kernel
theorem iw_X11_fault_X11 : ∀ w ∈ u_ws RX11 TX11 30, w ∈ wsX11_fault := by decide +kernel
abbrev w_X11_fault (K : Nat → ClassId) (g_t : Nat → Nat) (t_raised : Int32) (t_undos : Int32) (t_reached : Int32) (t_length : Int32) (t_begin : Int32) (t_sort : Int32) (t_value : Int32) (t_word : Int64) (t_wrongAt : Int32) (t_badAt : Int32) (t_bad : Int32) (t_read : Int32) (t_pictured : Int32) (t_x : Int32) (t_all : Nat → Int32) : va_W := [((g_t 0), .inr (10, [.int t_raised, .ref (g_t 2), .ref (g_t 3), .ref (g_t 4), .ref (g_t 5), .int t_undos, .int t_reached, .int t_length, .int t_begin, .int t_sort, .int t_value, .long t_word, .int t_wrongAt, .int t_badAt, .int t_bad, .ref (g_t 16), .int t_read, .ref (g_t 18), .ref (g_t 19), .ref (g_t 20), .int t_pictured, .ref (g_t 22), .ref (g_t 23), .ref (g_t 24), .ref (g_t 25), .ref (g_t 26), .int t_x, .ref (g_t 28), .ref (g_t 29), .ref (g_t 30)])), ((g_t 2), .inl (K 0, 500, .inl t_all))]
def F_X11_fault (t_raised : Int32) (t_all : Nat → Int32) (x1 : Int32) : Option (Int32 × Int32) :=
  if x1 = (0 : Int32) then (some ((t_all 98), (0 : Int32))) else (some ((t_all 99), (0 : Int32)))
set_option maxHeartbeats 4000000 in
set_option maxRecDepth 100000 in
theorem c_X11_fault (l : Launch) (D : va_G) (K : Nat → ClassId) (g_t : Nat → Nat) (t_raised : Int32) (t_undos : Int32) (t_reached : Int32) (t_length : Int32) (t_begin : Int32) (t_sort : Int32) (t_value : Int32) (t_word : Int64) (t_wrongAt : Int32) (t_badAt : Int32) (t_bad : Int32) (t_read : Int32) (t_pictured : Int32) (t_x : Int32) (t_all : Nat → Int32) (x1 : Int32) (res : Int32 × Int32) (hF : F_X11_fault t_raised t_all x1 = some res) :
    Mi_ l yX11_fault wsX11_fault rmX11_fault D K [.ref (g_t 0), .int x1] (w_X11_fault K g_t t_raised t_undos t_reached t_length t_begin t_sort t_value t_word t_wrongAt t_badAt t_bad t_read t_pictured t_x t_all) (w_X11_fault K g_t res.2 t_undos t_reached t_length t_begin t_sort t_value t_word t_wrongAt t_badAt t_bad t_read t_pictured t_x t_all) (res.1) := by
  refine en_i (cc := cX11_fault) (maxL := 2) (own := RX11) (by decide) rfl rfl (Nat.le_of_ble_eq_true rfl) ?_
  intro p e s m args below meth c A Q H locs ls C0 hP hD hS hl HR
  obtain ⟨⟨hx, hb, hml, hown, hts⟩, hK, -⟩ := id C0
  have hl : lv_has ls 2 [(0, .ref (g_t 0)), (1, .int x1)] := hl
  unfold F_X11_fault at hF
  refine lv_aload_n hx hb dX11_fault_0 rfl (lv_at hl 0 rfl) ?_
  refine lv_iconst (v := 0) hx hb dX11_fault_1 (by decide) ?_
  refine va_put (D := D) (ci := 10) (v := .int (0 : Int32)) (ty := .int) (C := RX11) (T := TX11) (N := 30) hx hb hts iw_X11_fault_X11 tyX11 tyX11_ok nmX11 hown hK hP hD hS 0 rfl rfl 0 (by decide) (hts _ fl_X11_fault_66) (fun _ h9 => h9) rfl (by decide +kernel) rfl rfl (Nat.le_of_ble_eq_true rfl) dX11_fault_2 (fun H locs hP hD hS => ?_)
  have hP : va_P D vwCl (w_X11_fault K g_t (0 : Int32) t_undos t_reached t_length t_begin t_sort t_value t_word t_wrongAt t_badAt t_bad t_read t_pictured t_x t_all) H := hP
  have hD : va_D A (w_X11_fault K g_t (0 : Int32) t_undos t_reached t_length t_begin t_sort t_value t_word t_wrongAt t_badAt t_bad t_read t_pictured t_x t_all) := hD
  refine lv_iload_n hx hb dX11_fault_5 rfl (lv_at hl 1 rfl) ?_
  refine lv_if_eq (tgt := 19) hx hb dX11_fault_6 (by decide) (fun c_1 => ?_) (fun c_1 => ?_)
  · have hF := it_pos c_1 hF
    refine lv_aload_n hx hb dX11_fault_19 rfl (lv_at hl 0 rfl) ?_
    refine va_get (D := D) (ci := 10) (v := .ref (g_t 2)) (C := RX11) (T := TX11) (N := 30) hx hb hts iw_X11_fault_X11 hown hK hP 0 rfl rfl 1 (by decide) (hts _ fl_X11_fault_7) (fun _ h9 => h9) rfl dX11_fault_20 ?_
    refine lv_bipush (v := 98) hx hb dX11_fault_23 (by decide) ?_
    refine xl_i (f := t_all) hx hb hK hP 1 0 rfl rfl (k := 98) (by decide) (in_v (by decide)) dX11_fault_25 ?_
    obtain rfl := Option.some.inj hF
    exact HR 26 H locs ls dX11_fault_26 hP hD hS
  · have hF := it_neg c_1 hF
    refine lv_aload_n hx hb dX11_fault_9 rfl (lv_at hl 0 rfl) ?_
    refine va_get (D := D) (ci := 10) (v := .ref (g_t 2)) (C := RX11) (T := TX11) (N := 30) hx hb hts iw_X11_fault_X11 hown hK hP 0 rfl rfl 1 (by decide) (hts _ fl_X11_fault_7) (fun _ h9 => h9) rfl dX11_fault_10 ?_
    refine lv_bipush (v := 99) hx hb dX11_fault_13 (by decide) ?_
    refine xl_i (f := t_all) hx hb hK hP 1 0 rfl rfl (k := 99) (by decide) (in_v (by decide)) dX11_fault_15 ?_
    refine lv_goto (tgt := 26) hx hb dX11_fault_16 (by decide) ?_
    obtain rfl := Option.some.inj hF
    exact HR 26 H locs ls dX11_fault_26 hP hD hS

/-! StaggerRadarModel.found(IZ)I -/
abbrev rmX11_found : Room := { frames := 4, cells := 0, slots := 0, locals := 89 }
theorem fl_X11_found_7 : Cond.fieldLink RX11 7 "StaggerRadarModel" "all" "[I" ∈ wsX11_found := by decide +kernel
theorem fl_X11_found_66 : Cond.fieldLink RX11 66 "StaggerRadarModel" "raised" "I" ∈ wsX11_found := by decide +kernel
theorem iw_X11_found_X11 : ∀ w ∈ u_ws RX11 TX11 30, w ∈ wsX11_found := by decide +kernel
abbrev w_X11_found (K : Nat → ClassId) (g_t : Nat → Nat) (t_raised : Int32) (t_undos : Int32) (t_reached : Int32) (t_length : Int32) (t_begin : Int32) (t_sort : Int32) (t_value : Int32) (t_word : Int64) (t_wrongAt : Int32) (t_badAt : Int32) (t_bad : Int32) (t_read : Int32) (t_pictured : Int32) (t_x : Int32) (t_all : Nat → Int32) (t_loud : Nat → Int32) : va_W := [((g_t 0), .inr (10, [.int t_raised, .ref (g_t 2), .ref (g_t 3), .ref (g_t 4), .ref (g_t 5), .int t_undos, .int t_reached, .int t_length, .int t_begin, .int t_sort, .int t_value, .long t_word, .int t_wrongAt, .int t_badAt, .int t_bad, .ref (g_t 16), .int t_read, .ref (g_t 18), .ref (g_t 19), .ref (g_t 20), .int t_pictured, .ref (g_t 22), .ref (g_t 23), .ref (g_t 24), .ref (g_t 25), .ref (g_t 26), .int t_x, .ref (g_t 28), .ref (g_t 29), .ref (g_t 30)])), ((g_t 2), .inl (K 0, 500, .inl t_all)), ((g_t 18), .inl (K 0, 300, .inl t_loud))]
def J_X11_found_48 (t_all : Nat → Int32) (k_14 : Int32 → (Nat → Int32) → Int32 → Int32 → Int32 → Int32 → Option (Int32 × Int32 × (Nat → Int32))) (t_raised : Int32) (t_loud : Nat → Int32) (x1 : Int32) (x2 : Int32) (x3 : Int32) (x4 : Int32) : Option (Int32 × Int32 × (Nat → Int32)) :=
  if x3 = x1 then (some (x4, t_raised, t_loud)) else (k_14 t_raised t_loud x1 x2 (x3 + (1 : Int32)) (x4 + (1 : Int32)))
set_option maxHeartbeats 4000000 in
set_option maxRecDepth 100000 in
theorem w_X11_found_48 {p : Program} {l : Launch} {e : Env} {s : State} {m : MethodId} {args : Array Value} {below : List Frame} {meth : Method} {c : Code} {D : va_G} {K : Nat → ClassId} {A : Nat → Prop} {Q : State → Prop} (C0 : cx_ p s m args c cX11_found 5 RX11 wsX11_found D K A) {g_t : Nat → Nat} {t_undos : Int32} {t_reached : Int32} {t_length : Int32} {t_begin : Int32} {t_sort : Int32} {t_value : Int32} {t_word : Int64} {t_wrongAt : Int32} {t_badAt : Int32} {t_bad : Int32} {t_read : Int32} {t_pictured : Int32} {t_x : Int32} {t_all : Nat → Int32} {res : Int32 × Int32 × (Nat → Int32)} (HR : ∀ (pc : Nat) (H : Heap) (locs : List Loc) (ls : Array Slot), decode cX11_found pc = .ok (.ireturn, 1) → va_P D vwCl (w_X11_found K g_t res.2.1 t_undos t_reached t_length t_begin t_sort t_value t_word t_wrongAt t_badAt t_bad t_read t_pictured t_x t_all res.2.2) H → va_D A (w_X11_found K g_t res.2.1 t_undos t_reached t_length t_begin t_sort t_value t_word t_wrongAt t_badAt t_bad t_read t_pictured t_x t_all res.2.2) → va_S A s.heap H locs → W p l e rmX11_found s m args below meth c H locs 0 0 Q (F0 m pc ls [.int res.1])) {k_14 : Int32 → (Nat → Int32) → Int32 → Int32 → Int32 → Int32 → Option (Int32 × Int32 × (Nat → Int32))} (HK_14 : ∀ (t_raised : Int32) (t_loud : Nat → Int32) (x1 : Int32) (x2 : Int32) (x3 : Int32) (x4 : Int32) (H : Heap) (locs : List Loc) (ls : Array Slot), va_P D vwCl (w_X11_found K g_t t_raised t_undos t_reached t_length t_begin t_sort t_value t_word t_wrongAt t_badAt t_bad t_read t_pictured t_x t_all t_loud) H → va_D A (w_X11_found K g_t t_raised t_undos t_reached t_length t_begin t_sort t_value t_word t_wrongAt t_badAt t_bad t_read t_pictured t_x t_all t_loud) → va_S A s.heap H locs → lv_has ls 5 [(0, .ref (g_t 0)), (1, .int x1), (2, .int x2), (3, .int x3), (4, .int x4)] → k_14 t_raised t_loud x1 x2 x3 x4 = some res → W p l e rmX11_found s m args below meth c H locs 0 0 Q (F0 m 14 ls [])) :
    ∀ (t_raised : Int32) (t_loud : Nat → Int32) (x1 : Int32) (x2 : Int32) (x3 : Int32) (x4 : Int32) (H : Heap) (locs : List Loc) (ls : Array Slot), va_P D vwCl (w_X11_found K g_t t_raised t_undos t_reached t_length t_begin t_sort t_value t_word t_wrongAt t_badAt t_bad t_read t_pictured t_x t_all t_loud) H → va_D A (w_X11_found K g_t t_raised t_undos t_reached t_length t_begin t_sort t_value t_word t_wrongAt t_badAt t_bad t_read t_pictured t_x t_all t_loud) → va_S A s.heap H locs → lv_has ls 5 [(0, .ref (g_t 0)), (1, .int x1), (2, .int x2), (3, .int x3), (4, .int x4)] → J_X11_found_48 t_all k_14 t_raised t_loud x1 x2 x3 x4 = some res → W p l e rmX11_found s m args below meth c H locs 0 0 Q (F0 m 48 ls []) := by
  obtain ⟨⟨hx, hb, hml, hown, hts⟩, hK, -⟩ := id C0
  intro t_raised t_loud x1 x2 x3 x4 H locs ls hP hD hS hl hF
  unfold J_X11_found_48 at hF
  refine lv_iload_n hx hb dX11_found_48 rfl (lv_at hl 3 rfl) ?_
  refine lv_iload_n hx hb dX11_found_49 rfl (lv_at hl 1 rfl) ?_
  refine lv_icmp_ne (tgt := 56) hx hb dX11_found_50 (by decide) (fun c_1 => ?_) (fun c_1 => ?_)
  · have hF := it_neg c_1 hF
    refine lv_iinc (v := (x3 + (1 : Int32))) (lv' := [(3, .int (x3 + (1 : Int32))), (0, .ref (g_t 0)), (1, .int x1), (2, .int x2), (4, .int x4)]) hx hb dX11_found_56 hl (k := 3) rfl (congrArg (fun z => x3 + z) (by decide)) (by decide) rfl (fun ls hl => ?_)
    refine lv_iinc (v := (x4 + (1 : Int32))) (lv' := [(4, .int (x4 + (1 : Int32))), (3, .int (x3 + (1 : Int32))), (0, .ref (g_t 0)), (1, .int x1), (2, .int x2)]) hx hb dX11_found_59 hl (k := 4) rfl (congrArg (fun z => x4 + z) (by decide)) (by decide) rfl (fun ls hl => ?_)
    refine lv_goto (tgt := 14) hx hb dX11_found_62 (by decide) ?_
    exact HK_14 t_raised t_loud x1 x2 (x3 + (1 : Int32)) (x4 + (1 : Int32)) H locs ls hP hD hS (lv_sub hl [2, 3, 4, 1, 0] rfl) hF
  · have hF := it_pos c_1 hF
    refine lv_iload hx hb dX11_found_53 (lv_at hl 4 rfl) ?_
    obtain rfl := Option.some.inj hF
    exact HR 55 H locs ls dX11_found_55 hP hD hS
def L_X11_found_14 (t_all : Nat → Int32) : Nat → Int32 → (Nat → Int32) → Int32 → Int32 → Int32 → Int32 → Option (Int32 × Int32 × (Nat → Int32))
  | 0, _, _, _, _, _, _ => none
  | n_ + 1, t_raised, t_loud, x1, x2, x3, x4 =>
    if (t_all 9) ≤ x4 then (some ((-1 : Int32), t_raised, t_loud)) else ((F_X11_isFound t_all t_loud x4).bind fun r_2 => (if r_2 = (0 : Int32) then (L_X11_found_14 t_all n_ t_raised t_loud x1 x2 x3 (x4 + (1 : Int32))) else (if x2 = (0 : Int32) then (J_X11_found_48 t_all (L_X11_found_14 t_all n_) t_raised t_loud x1 x2 x3 x4) else ((F_X11_isRange t_all x4).bind fun r_6 => (if r_6 = (0 : Int32) then (J_X11_found_48 t_all (L_X11_found_14 t_all n_) t_raised t_loud x1 x2 x3 x4) else (L_X11_found_14 t_all n_ t_raised t_loud x1 x2 x3 (x4 + (1 : Int32))))))))
set_option maxHeartbeats 4000000 in
set_option maxRecDepth 100000 in
theorem w_X11_found_14 {p : Program} {l : Launch} {e : Env} {s : State} {m : MethodId} {args : Array Value} {below : List Frame} {meth : Method} {c : Code} {D : va_G} {K : Nat → ClassId} {A : Nat → Prop} {Q : State → Prop} (C0 : cx_ p s m args c cX11_found 5 RX11 wsX11_found D K A) {g_t : Nat → Nat} {t_undos : Int32} {t_reached : Int32} {t_length : Int32} {t_begin : Int32} {t_sort : Int32} {t_value : Int32} {t_word : Int64} {t_wrongAt : Int32} {t_badAt : Int32} {t_bad : Int32} {t_read : Int32} {t_pictured : Int32} {t_x : Int32} {t_all : Nat → Int32} {res : Int32 × Int32 × (Nat → Int32)} (HR : ∀ (pc : Nat) (H : Heap) (locs : List Loc) (ls : Array Slot), decode cX11_found pc = .ok (.ireturn, 1) → va_P D vwCl (w_X11_found K g_t res.2.1 t_undos t_reached t_length t_begin t_sort t_value t_word t_wrongAt t_badAt t_bad t_read t_pictured t_x t_all res.2.2) H → va_D A (w_X11_found K g_t res.2.1 t_undos t_reached t_length t_begin t_sort t_value t_word t_wrongAt t_badAt t_bad t_read t_pictured t_x t_all res.2.2) → va_S A s.heap H locs → W p l e rmX11_found s m args below meth c H locs 0 0 Q (F0 m pc ls [.int res.1]))  :
    ∀ (n_ : Nat) (t_raised : Int32) (t_loud : Nat → Int32) (x1 : Int32) (x2 : Int32) (x3 : Int32) (x4 : Int32) (H : Heap) (locs : List Loc) (ls : Array Slot), va_P D vwCl (w_X11_found K g_t t_raised t_undos t_reached t_length t_begin t_sort t_value t_word t_wrongAt t_badAt t_bad t_read t_pictured t_x t_all t_loud) H → va_D A (w_X11_found K g_t t_raised t_undos t_reached t_length t_begin t_sort t_value t_word t_wrongAt t_badAt t_bad t_read t_pictured t_x t_all t_loud) → va_S A s.heap H locs → lv_has ls 5 [(0, .ref (g_t 0)), (1, .int x1), (2, .int x2), (3, .int x3), (4, .int x4)] → L_X11_found_14 t_all n_ t_raised t_loud x1 x2 x3 x4 = some res → W p l e rmX11_found s m args below meth c H locs 0 0 Q (F0 m 14 ls []) := by
  obtain ⟨⟨hx, hb, hml, hown, hts⟩, hK, -⟩ := id C0
  intro n_
  induction n_ with
  | zero =>
    intro t_raised t_loud x1 x2 x3 x4 H locs ls hP hD hS hl hF
    exact no_s (show (none : Option (Int32 × Int32 × (Nat → Int32))) = some res from hF)
  | succ n_ ih =>
    intro t_raised t_loud x1 x2 x3 x4 H locs ls hP hD hS hl hF
    rw [L_X11_found_14] at hF
    refine lv_iload hx hb dX11_found_14 (lv_at hl 4 rfl) ?_
    refine lv_aload_n hx hb dX11_found_16 rfl (lv_at hl 0 rfl) ?_
    refine va_get (D := D) (ci := 10) (v := .ref (g_t 2)) (C := RX11) (T := TX11) (N := 30) hx hb hts iw_X11_found_X11 hown hK hP 0 rfl rfl 1 (by decide) (hts _ fl_X11_found_7) (fun _ h9 => h9) rfl dX11_found_17 ?_
    refine lv_bipush (v := 9) hx hb dX11_found_20 (by decide) ?_
    refine xl_i (f := t_all) hx hb hK hP 1 0 rfl rfl (k := 9) (by decide) (in_v (by decide)) dX11_found_22 ?_
    refine lv_icmp_ge (tgt := 65) hx hb dX11_found_23 (by decide) (fun c_1 => ?_) (fun c_1 => ?_)
    · have hF := it_pos c_1 hF
      refine lv_iconst (v := (-1)) hx hb dX11_found_65 (by decide) ?_
      obtain rfl := Option.some.inj hF
      exact HR 66 H locs ls dX11_found_66 hP hD hS
    · have hF := it_neg c_1 hF
      refine lv_aload_n hx hb dX11_found_26 rfl (lv_at hl 0 rfl) ?_
      refine lv_iload hx hb dX11_found_27 (lv_at hl 4 rfl) ?_
      obtain ⟨r_2, hc_3, hF⟩ := bn_some hF
      refine xc_i (wn := (w_X11_found K g_t t_raised t_undos t_reached t_length t_begin t_sort t_value t_word t_wrongAt t_badAt t_bad t_read t_pictured t_x t_all t_loud)) hP hD hS C0.2.2.1 [0, 1, 2] [] [0, 1, 2] rfl rfl (by decide) (by decide) rfl (by decide) (va_runV (As := [.int x4]) (rest := []) C0.1 (c_X11_isFound l D K g_t t_raised t_undos t_reached t_length t_begin t_sort t_value t_word t_wrongAt t_badAt t_bad t_read t_pictured t_x t_all t_loud x4 r_2 hc_3 H.size) (cwV 1 hts gX11_found_X11_isFound rfl rfl rfl (by decide +kernel) ⟨Nat.le_of_ble_eq_true rfl, Nat.le_of_ble_eq_true rfl⟩) (xp_V C0.2 hP hD hS [0, 1, 2] rfl (by decide) 10 0 rfl rfl rfl) rfl rfl hl.1 rfl (lv_room (Nat.le_of_ble_eq_true rfl)) dX11_found_29 ⟨Nat.le_of_ble_eq_true rfl, Nat.le_of_ble_eq_true rfl⟩) (fun H locs hP hD hS => ?_)
      refine lv_if_eq (tgt := 59) hx hb dX11_found_32 (by decide) (fun c_4 => ?_) (fun c_4 => ?_)
      · have hF := it_pos c_4 hF
        refine lv_iinc (v := (x4 + (1 : Int32))) (lv' := [(4, .int (x4 + (1 : Int32))), (0, .ref (g_t 0)), (1, .int x1), (2, .int x2), (3, .int x3)]) hx hb dX11_found_59 hl (k := 4) rfl (congrArg (fun z => x4 + z) (by decide)) (by decide) rfl (fun ls hl => ?_)
        refine lv_goto (tgt := 14) hx hb dX11_found_62 (by decide) ?_
        exact ih t_raised t_loud x1 x2 x3 (x4 + (1 : Int32)) H locs ls hP hD hS (lv_sub hl [1, 2, 3, 4, 0] rfl) hF
      · have hF := it_neg c_4 hF
        refine lv_iload_n hx hb dX11_found_35 rfl (lv_at hl 2 rfl) ?_
        refine lv_if_eq (tgt := 48) hx hb dX11_found_36 (by decide) (fun c_5 => ?_) (fun c_5 => ?_)
        · have hF := it_pos c_5 hF
          exact w_X11_found_48 C0 HR ih t_raised t_loud x1 x2 x3 x4 H locs ls hP hD hS (lv_sub hl [0, 1, 2, 3, 4] rfl) hF
        · have hF := it_neg c_5 hF
          refine lv_aload_n hx hb dX11_found_39 rfl (lv_at hl 0 rfl) ?_
          refine lv_iload hx hb dX11_found_40 (lv_at hl 4 rfl) ?_
          obtain ⟨r_6, hc_7, hF⟩ := bn_some hF
          refine xc_i (wn := (w_X11_found K g_t t_raised t_undos t_reached t_length t_begin t_sort t_value t_word t_wrongAt t_badAt t_bad t_read t_pictured t_x t_all t_loud)) hP hD hS C0.2.2.1 [0, 1] [2] [1, 2, 0] rfl rfl (by decide) (by decide) rfl (by decide) (va_runV (As := [.int x4]) (rest := []) C0.1 (c_X11_isRange l D K g_t t_raised t_undos t_reached t_length t_begin t_sort t_value t_word t_wrongAt t_badAt t_bad t_read t_pictured t_x t_all x4 r_6 hc_7 H.size) (cwV 1 hts gX11_found_X11_isRange rfl rfl rfl (by decide +kernel) ⟨Nat.le_of_ble_eq_true rfl, Nat.le_of_ble_eq_true rfl⟩) (xp_V C0.2 hP hD hS [0, 1] rfl (by decide) 10 0 rfl rfl rfl) rfl rfl hl.1 rfl (lv_room (Nat.le_of_ble_eq_true rfl)) dX11_found_42 ⟨Nat.le_of_ble_eq_true rfl, Nat.le_of_ble_eq_true rfl⟩) (fun H locs hP hD hS => ?_)
          refine lv_if_ne (tgt := 59) hx hb dX11_found_45 (by decide) (fun c_8 => ?_) (fun c_8 => ?_)
          · have hF := it_neg c_8 hF
            refine lv_iinc (v := (x4 + (1 : Int32))) (lv' := [(4, .int (x4 + (1 : Int32))), (0, .ref (g_t 0)), (1, .int x1), (2, .int x2), (3, .int x3)]) hx hb dX11_found_59 hl (k := 4) rfl (congrArg (fun z => x4 + z) (by decide)) (by decide) rfl (fun ls hl => ?_)
            refine lv_goto (tgt := 14) hx hb dX11_found_62 (by decide) ?_
            exact ih t_raised t_loud x1 x2 x3 (x4 + (1 : Int32)) H locs ls hP hD hS (lv_sub hl [1, 2, 3, 4, 0] rfl) hF
          · have hF := it_pos c_8 hF
            exact w_X11_found_48 C0 HR ih t_raised t_loud x1 x2 x3 x4 H locs ls hP hD hS (lv_sub hl [0, 1, 2, 3, 4] rfl) hF
def F_X11_found (t_raised : Int32) (t_all : Nat → Int32) (t_loud : Nat → Int32) (x1 : Int32) (x2 : Int32) : Option (Int32 × Int32 × (Nat → Int32)) :=
  (F_X11_laysLoud t_all t_loud).bind fun r_1 => (L_X11_found_14 t_all fu_ (0 : Int32) r_1 x1 x2 (0 : Int32) (0 : Int32))
set_option maxHeartbeats 4000000 in
set_option maxRecDepth 100000 in
theorem c_X11_found (l : Launch) (D : va_G) (K : Nat → ClassId) (g_t : Nat → Nat) (t_raised : Int32) (t_undos : Int32) (t_reached : Int32) (t_length : Int32) (t_begin : Int32) (t_sort : Int32) (t_value : Int32) (t_word : Int64) (t_wrongAt : Int32) (t_badAt : Int32) (t_bad : Int32) (t_read : Int32) (t_pictured : Int32) (t_x : Int32) (t_all : Nat → Int32) (t_loud : Nat → Int32) (x1 : Int32) (x2 : Int32) (res : Int32 × Int32 × (Nat → Int32)) (hF : F_X11_found t_raised t_all t_loud x1 x2 = some res) :
    Mi_ l yX11_found wsX11_found rmX11_found D K [.ref (g_t 0), .int x1, .int x2] (w_X11_found K g_t t_raised t_undos t_reached t_length t_begin t_sort t_value t_word t_wrongAt t_badAt t_bad t_read t_pictured t_x t_all t_loud) (w_X11_found K g_t res.2.1 t_undos t_reached t_length t_begin t_sort t_value t_word t_wrongAt t_badAt t_bad t_read t_pictured t_x t_all res.2.2) (res.1) := by
  refine en_i (cc := cX11_found) (maxL := 5) (own := RX11) (by decide) rfl rfl (Nat.le_of_ble_eq_true rfl) ?_
  intro p e s m args below meth c A Q H locs ls C0 hP hD hS hl HR
  obtain ⟨⟨hx, hb, hml, hown, hts⟩, hK, -⟩ := id C0
  have hl : lv_has ls 5 [(0, .ref (g_t 0)), (1, .int x1), (2, .int x2)] := hl
  unfold F_X11_found at hF
  refine lv_aload_n hx hb dX11_found_0 rfl (lv_at hl 0 rfl) ?_
  refine lv_iconst (v := 0) hx hb dX11_found_1 (by decide) ?_
  refine va_put (D := D) (ci := 10) (v := .int (0 : Int32)) (ty := .int) (C := RX11) (T := TX11) (N := 30) hx hb hts iw_X11_found_X11 tyX11 tyX11_ok nmX11 hown hK hP hD hS 0 rfl rfl 0 (by decide) (hts _ fl_X11_found_66) (fun _ h9 => h9) rfl (by decide +kernel) rfl rfl (Nat.le_of_ble_eq_true rfl) dX11_found_2 (fun H locs hP hD hS => ?_)
  have hP : va_P D vwCl (w_X11_found K g_t (0 : Int32) t_undos t_reached t_length t_begin t_sort t_value t_word t_wrongAt t_badAt t_bad t_read t_pictured t_x t_all t_loud) H := hP
  have hD : va_D A (w_X11_found K g_t (0 : Int32) t_undos t_reached t_length t_begin t_sort t_value t_word t_wrongAt t_badAt t_bad t_read t_pictured t_x t_all t_loud) := hD
  refine lv_aload_n hx hb dX11_found_5 rfl (lv_at hl 0 rfl) ?_
  obtain ⟨r_1, hc_2, hF⟩ := bn_some hF
  refine xc_v (wn := (w_X11_found K g_t (0 : Int32) t_undos t_reached t_length t_begin t_sort t_value t_word t_wrongAt t_badAt t_bad t_read t_pictured t_x t_all r_1)) hP hD hS C0.2.2.1 [0, 1, 2] [] [0, 1, 2] rfl rfl (by decide) (by decide) rfl (by decide) (va_runV (As := []) (rest := []) C0.1 (c_X11_laysLoud l D K g_t (0 : Int32) t_undos t_reached t_length t_begin t_sort t_value t_word t_wrongAt t_badAt t_bad t_read t_pictured t_x t_all t_loud r_1 hc_2 H.size) (cwV 0 hts gX11_found_X11_laysLoud rfl rfl rfl (by decide +kernel) ⟨Nat.le_of_ble_eq_true rfl, Nat.le_of_ble_eq_true rfl⟩) (xp_V C0.2 hP hD hS [0, 1, 2] rfl (by decide) 10 0 rfl rfl rfl) rfl rfl hl.1 rfl (lv_room (Nat.le_of_ble_eq_true rfl)) dX11_found_6 ⟨Nat.le_of_ble_eq_true rfl, Nat.le_of_ble_eq_true rfl⟩) (fun H locs hP hD hS => ?_)
  refine lv_iconst (v := 0) hx hb dX11_found_9 (by decide) ?_
  refine lv_istore_n (lv' := [(3, .int (0 : Int32)), (0, .ref (g_t 0)), (1, .int x1), (2, .int x2)]) hx hb dX11_found_10 rfl hl (by decide) rfl (fun ls hl => ?_)
  refine lv_iconst (v := 0) hx hb dX11_found_11 (by decide) ?_
  refine lv_istore (lv' := [(4, .int (0 : Int32)), (3, .int (0 : Int32)), (0, .ref (g_t 0)), (1, .int x1), (2, .int x2)]) hx hb dX11_found_12 hl (by decide) rfl (fun ls hl => ?_)
  exact w_X11_found_14 C0 HR fu_ (0 : Int32) r_1 x1 x2 (0 : Int32) (0 : Int32) H locs ls hP hD hS (lv_sub hl [2, 3, 4, 1, 0] rfl) hF

/-! StaggerRadarModel.hasGap([II)Z -/
abbrev rmX11_hasGap : Room := { frames := 0, cells := 0, slots := 0, locals := 0 }
abbrev w_X11_hasGap (K : Nat → ClassId) (a_p0 : Nat) (n_p0 : Nat) (p0 : Nat → Int32) : va_W := [(a_p0, .inl (K 0, n_p0, .inl p0))]
def L_X11_hasGap_2 (p0 : Nat → Int32) (n_p0 : Nat) : Nat → Int32 → Int32 → Option (Int32)
  | 0, _, _ => none
  | n_ + 1, x1, x2 =>
    gd_ (in_b (0 : Int32) n_p0) (if (p0 (0 : Int32).toNatClampNeg) ≤ x2 then (some (0 : Int32)) else (gd_ (in_b ((1 : Int32) + x2) n_p0) (if (p0 ((1 : Int32) + x2).toNatClampNeg) = x1 then (some (1 : Int32)) else (L_X11_hasGap_2 p0 n_p0 n_ x1 (x2 + (1 : Int32))))))
set_option maxHeartbeats 4000000 in
set_option maxRecDepth 100000 in
theorem w_X11_hasGap_2 {p : Program} {l : Launch} {e : Env} {s : State} {m : MethodId} {args : Array Value} {below : List Frame} {meth : Method} {c : Code} {D : va_G} {K : Nat → ClassId} {A : Nat → Prop} {Q : State → Prop} (C0 : cx_ p s m args c cX11_hasGap 3 RX11 wsX11_hasGap D K A) {a_p0 : Nat} {n_p0 : Nat} {p0 : Nat → Int32} {res : Int32} (HR : ∀ (pc : Nat) (H : Heap) (locs : List Loc) (ls : Array Slot), decode cX11_hasGap pc = .ok (.ireturn, 1) → narrow .boolean (.int res) = .int res → va_P D vwCl (w_X11_hasGap K a_p0 n_p0 p0) H → va_D A (w_X11_hasGap K a_p0 n_p0 p0) → va_S A s.heap H locs → W p l e rmX11_hasGap s m args below meth c H locs 0 0 Q (F0 m pc ls [.int res]))  :
    ∀ (n_ : Nat) (x1 : Int32) (x2 : Int32) (H : Heap) (locs : List Loc) (ls : Array Slot), va_P D vwCl (w_X11_hasGap K a_p0 n_p0 p0) H → va_D A (w_X11_hasGap K a_p0 n_p0 p0) → va_S A s.heap H locs → lv_has ls 3 [(0, .ref a_p0), (1, .int x1), (2, .int x2)] → L_X11_hasGap_2 p0 n_p0 n_ x1 x2 = some res → W p l e rmX11_hasGap s m args below meth c H locs 0 0 Q (F0 m 2 ls []) := by
  obtain ⟨⟨hx, hb, hml, hown, hts⟩, hK, -⟩ := id C0
  intro n_
  induction n_ with
  | zero =>
    intro x1 x2 H locs ls hP hD hS hl hF
    exact no_s (show (none : Option (Int32)) = some res from hF)
  | succ n_ ih =>
    intro x1 x2 H locs ls hP hD hS hl hF
    rw [L_X11_hasGap_2] at hF
    refine lv_iload_n hx hb dX11_hasGap_2 rfl (lv_at hl 2 rfl) ?_
    refine lv_aload_n hx hb dX11_hasGap_3 rfl (lv_at hl 0 rfl) ?_
    refine lv_iconst (v := 0) hx hb dX11_hasGap_4 (by decide) ?_
    obtain ⟨hg_1, hF⟩ := gd_some hF
    refine xl_i (f := p0) hx hb hK hP 0 0 rfl rfl rfl (in_v hg_1) dX11_hasGap_5 ?_
    refine lv_icmp_ge (tgt := 26) hx hb dX11_hasGap_6 (by decide) (fun c_2 => ?_) (fun c_2 => ?_)
    · have hF := it_pos c_2 hF
      refine lv_iconst (v := 0) hx hb dX11_hasGap_26 (by decide) ?_
      obtain rfl := Option.some.inj hF
      exact HR 27 H locs ls dX11_hasGap_27 narrow_b0 hP hD hS
    · have hF := it_neg c_2 hF
      refine lv_aload_n hx hb dX11_hasGap_9 rfl (lv_at hl 0 rfl) ?_
      refine lv_iconst (v := 1) hx hb dX11_hasGap_10 (by decide) ?_
      refine lv_iload_n hx hb dX11_hasGap_11 rfl (lv_at hl 2 rfl) ?_
      refine lv_iadd hx hb dX11_hasGap_12 ?_
      obtain ⟨hg_3, hF⟩ := gd_some hF
      refine xl_i (f := p0) hx hb hK hP 0 0 rfl rfl rfl (in_v hg_3) dX11_hasGap_13 ?_
      refine lv_iload_n hx hb dX11_hasGap_14 rfl (lv_at hl 1 rfl) ?_
      refine lv_icmp_ne (tgt := 20) hx hb dX11_hasGap_15 (by decide) (fun c_4 => ?_) (fun c_4 => ?_)
      · have hF := it_neg c_4 hF
        refine lv_iinc (v := (x2 + (1 : Int32))) (lv' := [(2, .int (x2 + (1 : Int32))), (0, .ref a_p0), (1, .int x1)]) hx hb dX11_hasGap_20 hl (k := 2) rfl (congrArg (fun z => x2 + z) (by decide)) (by decide) rfl (fun ls hl => ?_)
        refine lv_goto (tgt := 2) hx hb dX11_hasGap_23 (by decide) ?_
        exact ih x1 (x2 + (1 : Int32)) H locs ls hP hD hS (lv_sub hl [1, 2, 0] rfl) hF
      · have hF := it_pos c_4 hF
        refine lv_iconst (v := 1) hx hb dX11_hasGap_18 (by decide) ?_
        obtain rfl := Option.some.inj hF
        exact HR 19 H locs ls dX11_hasGap_19 narrow_b1 hP hD hS
def F_X11_hasGap (p0 : Nat → Int32) (n_p0 : Nat) (x1 : Int32) : Option (Int32) :=
  L_X11_hasGap_2 p0 n_p0 fu_ x1 (0 : Int32)
set_option maxHeartbeats 4000000 in
set_option maxRecDepth 100000 in
theorem c_X11_hasGap (l : Launch) (D : va_G) (K : Nat → ClassId) (a_p0 : Nat) (n_p0 : Nat) (p0 : Nat → Int32) (x1 : Int32) (res : Int32) (hF : F_X11_hasGap p0 n_p0 x1 = some res) :
    Mi_ l yX11_hasGap wsX11_hasGap rmX11_hasGap D K [.ref a_p0, .int x1] (w_X11_hasGap K a_p0 n_p0 p0) (w_X11_hasGap K a_p0 n_p0 p0) (res) := by
  refine en_z (cc := cX11_hasGap) (maxL := 3) (own := RX11) (by decide) rfl rfl (Nat.le_of_ble_eq_true rfl) ?_
  intro p e s m args below meth c A Q H locs ls C0 hP hD hS hl HR
  obtain ⟨⟨hx, hb, hml, hown, hts⟩, hK, -⟩ := id C0
  have hl : lv_has ls 3 [(0, .ref a_p0), (1, .int x1)] := hl
  unfold F_X11_hasGap at hF
  refine lv_iconst (v := 0) hx hb dX11_hasGap_0 (by decide) ?_
  refine lv_istore_n (lv' := [(2, .int (0 : Int32)), (0, .ref a_p0), (1, .int x1)]) hx hb dX11_hasGap_1 rfl hl (by decide) rfl (fun ls hl => ?_)
  exact w_X11_hasGap_2 C0 HR fu_ x1 (0 : Int32) H locs ls hP hD hS (lv_sub hl [1, 2, 0] rfl) hF

/-! StaggerRadarModel.keeps()V -/
abbrev rmX11_keeps : Room := { frames := 0, cells := 0, slots := 0, locals := 0 }
theorem fl_X11_keeps_7 : Cond.fieldLink RX11 7 "StaggerRadarModel" "all" "[I" ∈ wsX11_keeps := by decide +kernel
theorem fl_X11_keeps_21 : Cond.fieldLink RX11 21 "StaggerRadarModel" "undone" "[I" ∈ wsX11_keeps := by decide +kernel
theorem fl_X11_keeps_176 : Cond.fieldLink RX11 176 "StaggerRadarModel" "undos" "I" ∈ wsX11_keeps := by decide +kernel
theorem iw_X11_keeps_X11 : ∀ w ∈ u_ws RX11 TX11 30, w ∈ wsX11_keeps := by decide +kernel
abbrev w_X11_keeps (K : Nat → ClassId) (g_t : Nat → Nat) (t_raised : Int32) (t_undos : Int32) (t_reached : Int32) (t_length : Int32) (t_begin : Int32) (t_sort : Int32) (t_value : Int32) (t_word : Int64) (t_wrongAt : Int32) (t_badAt : Int32) (t_bad : Int32) (t_read : Int32) (t_pictured : Int32) (t_x : Int32) (t_all : Nat → Int32) (t_undone : Nat → Int32) : va_W := [((g_t 0), .inr (10, [.int t_raised, .ref (g_t 2), .ref (g_t 3), .ref (g_t 4), .ref (g_t 5), .int t_undos, .int t_reached, .int t_length, .int t_begin, .int t_sort, .int t_value, .long t_word, .int t_wrongAt, .int t_badAt, .int t_bad, .ref (g_t 16), .int t_read, .ref (g_t 18), .ref (g_t 19), .ref (g_t 20), .int t_pictured, .ref (g_t 22), .ref (g_t 23), .ref (g_t 24), .ref (g_t 25), .ref (g_t 26), .int t_x, .ref (g_t 28), .ref (g_t 29), .ref (g_t 30)])), ((g_t 2), .inl (K 0, 500, .inl t_all)), ((g_t 5), .inl (K 0, 776, .inl t_undone))]
def J_X11_keeps_83 (t_all : Nat → Int32) (t_undos : Int32) (t_undone : Nat → Int32) : Option (Int32 × (Nat → Int32)) :=
  some ((t_undos + (1 : Int32)), t_undone)
set_option maxHeartbeats 4000000 in
set_option maxRecDepth 100000 in
theorem w_X11_keeps_83 {p : Program} {l : Launch} {e : Env} {s : State} {m : MethodId} {args : Array Value} {below : List Frame} {meth : Method} {c : Code} {D : va_G} {K : Nat → ClassId} {A : Nat → Prop} {Q : State → Prop} (C0 : cx_ p s m args c cX11_keeps 2 RX11 wsX11_keeps D K A) {g_t : Nat → Nat} {t_raised : Int32} {t_reached : Int32} {t_length : Int32} {t_begin : Int32} {t_sort : Int32} {t_value : Int32} {t_word : Int64} {t_wrongAt : Int32} {t_badAt : Int32} {t_bad : Int32} {t_read : Int32} {t_pictured : Int32} {t_x : Int32} {t_all : Nat → Int32} {res : Int32 × (Nat → Int32)} (HR : ∀ (pc : Nat) (H : Heap) (locs : List Loc) (ls : Array Slot), decode cX11_keeps pc = .ok (.return_, 1) → va_P D vwCl (w_X11_keeps K g_t t_raised res.1 t_reached t_length t_begin t_sort t_value t_word t_wrongAt t_badAt t_bad t_read t_pictured t_x t_all res.2) H → va_D A (w_X11_keeps K g_t t_raised res.1 t_reached t_length t_begin t_sort t_value t_word t_wrongAt t_badAt t_bad t_read t_pictured t_x t_all res.2) → va_S A s.heap H locs → W p l e rmX11_keeps s m args below meth c H locs 0 0 Q (F0 m pc ls []))  :
    ∀ (t_undos : Int32) (t_undone : Nat → Int32) (H : Heap) (locs : List Loc) (ls : Array Slot), va_P D vwCl (w_X11_keeps K g_t t_raised t_undos t_reached t_length t_begin t_sort t_value t_word t_wrongAt t_badAt t_bad t_read t_pictured t_x t_all t_undone) H → va_D A (w_X11_keeps K g_t t_raised t_undos t_reached t_length t_begin t_sort t_value t_word t_wrongAt t_badAt t_bad t_read t_pictured t_x t_all t_undone) → va_S A s.heap H locs → lv_has ls 2 [(0, .ref (g_t 0))] → J_X11_keeps_83 t_all t_undos t_undone = some res → W p l e rmX11_keeps s m args below meth c H locs 0 0 Q (F0 m 83 ls []) := by
  obtain ⟨⟨hx, hb, hml, hown, hts⟩, hK, -⟩ := id C0
  intro t_undos t_undone H locs ls hP hD hS hl hF
  unfold J_X11_keeps_83 at hF
  refine lv_aload_n hx hb dX11_keeps_83 rfl (lv_at hl 0 rfl) ?_
  refine lv_dup hx hb dX11_keeps_84 rfl ?_
  refine va_get (D := D) (ci := 10) (v := .int t_undos) (C := RX11) (T := TX11) (N := 30) hx hb hts iw_X11_keeps_X11 hown hK hP 0 rfl rfl 5 (by decide) (hts _ fl_X11_keeps_176) (fun _ h9 => h9) rfl dX11_keeps_85 ?_
  refine lv_iconst (v := 1) hx hb dX11_keeps_88 (by decide) ?_
  refine lv_iadd hx hb dX11_keeps_89 ?_
  refine va_put (D := D) (ci := 10) (v := .int (t_undos + (1 : Int32))) (ty := .int) (C := RX11) (T := TX11) (N := 30) hx hb hts iw_X11_keeps_X11 tyX11 tyX11_ok nmX11 hown hK hP hD hS 0 rfl rfl 5 (by decide) (hts _ fl_X11_keeps_176) (fun _ h9 => h9) rfl (by decide +kernel) rfl rfl (Nat.le_of_ble_eq_true rfl) dX11_keeps_90 (fun H locs hP hD hS => ?_)
  have hP : va_P D vwCl (w_X11_keeps K g_t t_raised (t_undos + (1 : Int32)) t_reached t_length t_begin t_sort t_value t_word t_wrongAt t_badAt t_bad t_read t_pictured t_x t_all t_undone) H := hP
  have hD : va_D A (w_X11_keeps K g_t t_raised (t_undos + (1 : Int32)) t_reached t_length t_begin t_sort t_value t_word t_wrongAt t_badAt t_bad t_read t_pictured t_x t_all t_undone) := hD
  obtain rfl := Option.some.inj hF
  exact HR 93 H locs ls dX11_keeps_93 hP hD hS
def L_X11_keeps_51 (t_all : Nat → Int32) : Nat → Int32 → (Nat → Int32) → Int32 → Option (Int32 × (Nat → Int32))
  | 0, _, _, _ => none
  | n_ + 1, t_undos, t_undone, x1 =>
    if (97 : Int32) ≤ x1 then (J_X11_keeps_83 t_all t_undos t_undone) else (gd_ (in_b x1 500) (gd_ (in_b (((97 : Int32) * t_undos) + x1) 776) (L_X11_keeps_51 t_all n_ t_undos (upd t_undone (((97 : Int32) * t_undos) + x1).toNatClampNeg (t_all (x1).toNatClampNeg)) (x1 + (1 : Int32)))))
set_option maxHeartbeats 4000000 in
set_option maxRecDepth 100000 in
theorem w_X11_keeps_51 {p : Program} {l : Launch} {e : Env} {s : State} {m : MethodId} {args : Array Value} {below : List Frame} {meth : Method} {c : Code} {D : va_G} {K : Nat → ClassId} {A : Nat → Prop} {Q : State → Prop} (C0 : cx_ p s m args c cX11_keeps 2 RX11 wsX11_keeps D K A) {g_t : Nat → Nat} {t_raised : Int32} {t_reached : Int32} {t_length : Int32} {t_begin : Int32} {t_sort : Int32} {t_value : Int32} {t_word : Int64} {t_wrongAt : Int32} {t_badAt : Int32} {t_bad : Int32} {t_read : Int32} {t_pictured : Int32} {t_x : Int32} {t_all : Nat → Int32} {res : Int32 × (Nat → Int32)} (HR : ∀ (pc : Nat) (H : Heap) (locs : List Loc) (ls : Array Slot), decode cX11_keeps pc = .ok (.return_, 1) → va_P D vwCl (w_X11_keeps K g_t t_raised res.1 t_reached t_length t_begin t_sort t_value t_word t_wrongAt t_badAt t_bad t_read t_pictured t_x t_all res.2) H → va_D A (w_X11_keeps K g_t t_raised res.1 t_reached t_length t_begin t_sort t_value t_word t_wrongAt t_badAt t_bad t_read t_pictured t_x t_all res.2) → va_S A s.heap H locs → W p l e rmX11_keeps s m args below meth c H locs 0 0 Q (F0 m pc ls []))  :
    ∀ (n_ : Nat) (t_undos : Int32) (t_undone : Nat → Int32) (x1 : Int32) (H : Heap) (locs : List Loc) (ls : Array Slot), va_P D vwCl (w_X11_keeps K g_t t_raised t_undos t_reached t_length t_begin t_sort t_value t_word t_wrongAt t_badAt t_bad t_read t_pictured t_x t_all t_undone) H → va_D A (w_X11_keeps K g_t t_raised t_undos t_reached t_length t_begin t_sort t_value t_word t_wrongAt t_badAt t_bad t_read t_pictured t_x t_all t_undone) → va_S A s.heap H locs → lv_has ls 2 [(0, .ref (g_t 0)), (1, .int x1)] → L_X11_keeps_51 t_all n_ t_undos t_undone x1 = some res → W p l e rmX11_keeps s m args below meth c H locs 0 0 Q (F0 m 51 ls []) := by
  obtain ⟨⟨hx, hb, hml, hown, hts⟩, hK, -⟩ := id C0
  intro n_
  induction n_ with
  | zero =>
    intro t_undos t_undone x1 H locs ls hP hD hS hl hF
    exact no_s (show (none : Option (Int32 × (Nat → Int32))) = some res from hF)
  | succ n_ ih =>
    intro t_undos t_undone x1 H locs ls hP hD hS hl hF
    rw [L_X11_keeps_51] at hF
    refine lv_iload_n hx hb dX11_keeps_51 rfl (lv_at hl 1 rfl) ?_
    refine lv_bipush (v := 97) hx hb dX11_keeps_52 (by decide) ?_
    refine lv_icmp_ge (tgt := 83) hx hb dX11_keeps_54 (by decide) (fun c_1 => ?_) (fun c_1 => ?_)
    · have hF := it_pos c_1 hF
      exact w_X11_keeps_83 C0 HR t_undos t_undone H locs ls hP hD hS (lv_sub hl [0] rfl) hF
    · have hF := it_neg c_1 hF
      refine lv_aload_n hx hb dX11_keeps_57 rfl (lv_at hl 0 rfl) ?_
      refine va_get (D := D) (ci := 10) (v := .ref (g_t 5)) (C := RX11) (T := TX11) (N := 30) hx hb hts iw_X11_keeps_X11 hown hK hP 0 rfl rfl 4 (by decide) (hts _ fl_X11_keeps_21) (fun _ h9 => h9) rfl dX11_keeps_58 ?_
      refine lv_bipush (v := 97) hx hb dX11_keeps_61 (by decide) ?_
      refine lv_aload_n hx hb dX11_keeps_63 rfl (lv_at hl 0 rfl) ?_
      refine va_get (D := D) (ci := 10) (v := .int t_undos) (C := RX11) (T := TX11) (N := 30) hx hb hts iw_X11_keeps_X11 hown hK hP 0 rfl rfl 5 (by decide) (hts _ fl_X11_keeps_176) (fun _ h9 => h9) rfl dX11_keeps_64 ?_
      refine lv_imul hx hb dX11_keeps_67 ?_
      refine lv_iload_n hx hb dX11_keeps_68 rfl (lv_at hl 1 rfl) ?_
      refine lv_iadd hx hb dX11_keeps_69 ?_
      refine lv_aload_n hx hb dX11_keeps_70 rfl (lv_at hl 0 rfl) ?_
      refine va_get (D := D) (ci := 10) (v := .ref (g_t 2)) (C := RX11) (T := TX11) (N := 30) hx hb hts iw_X11_keeps_X11 hown hK hP 0 rfl rfl 1 (by decide) (hts _ fl_X11_keeps_7) (fun _ h9 => h9) rfl dX11_keeps_71 ?_
      refine lv_iload_n hx hb dX11_keeps_74 rfl (lv_at hl 1 rfl) ?_
      obtain ⟨hg_2, hF⟩ := gd_some hF
      refine xl_i (f := t_all) hx hb hK hP 1 0 rfl rfl rfl (in_v hg_2) dX11_keeps_75 ?_
      obtain ⟨hg_3, hF⟩ := gd_some hF
      refine xs_i (f := t_undone) hx hb hK hP hD hS 2 0 rfl rfl rfl (in_v hg_3) dX11_keeps_76 (fun H locs hP hD hS => ?_)
      have hP : va_P D vwCl (w_X11_keeps K g_t t_raised t_undos t_reached t_length t_begin t_sort t_value t_word t_wrongAt t_badAt t_bad t_read t_pictured t_x t_all (upd t_undone (((97 : Int32) * t_undos) + x1).toNatClampNeg (t_all (x1).toNatClampNeg))) H := hP
      have hD : va_D A (w_X11_keeps K g_t t_raised t_undos t_reached t_length t_begin t_sort t_value t_word t_wrongAt t_badAt t_bad t_read t_pictured t_x t_all (upd t_undone (((97 : Int32) * t_undos) + x1).toNatClampNeg (t_all (x1).toNatClampNeg))) := hD
      refine lv_iinc (v := (x1 + (1 : Int32))) (lv' := [(1, .int (x1 + (1 : Int32))), (0, .ref (g_t 0))]) hx hb dX11_keeps_77 hl (k := 1) rfl (congrArg (fun z => x1 + z) (by decide)) (by decide) rfl (fun ls hl => ?_)
      refine lv_goto (tgt := 51) hx hb dX11_keeps_80 (by decide) ?_
      exact ih t_undos (upd t_undone (((97 : Int32) * t_undos) + x1).toNatClampNeg (t_all (x1).toNatClampNeg)) (x1 + (1 : Int32)) H locs ls hP hD hS (lv_sub hl [1, 0] rfl) hF
def J_X11_keeps_39 (t_all : Nat → Int32) (t_undos : Int32) (t_undone : Nat → Int32) : Option (Int32 × (Nat → Int32)) :=
  L_X11_keeps_51 t_all fu_ (t_undos - (1 : Int32)) t_undone (0 : Int32)
set_option maxHeartbeats 4000000 in
set_option maxRecDepth 100000 in
theorem w_X11_keeps_39 {p : Program} {l : Launch} {e : Env} {s : State} {m : MethodId} {args : Array Value} {below : List Frame} {meth : Method} {c : Code} {D : va_G} {K : Nat → ClassId} {A : Nat → Prop} {Q : State → Prop} (C0 : cx_ p s m args c cX11_keeps 2 RX11 wsX11_keeps D K A) {g_t : Nat → Nat} {t_raised : Int32} {t_reached : Int32} {t_length : Int32} {t_begin : Int32} {t_sort : Int32} {t_value : Int32} {t_word : Int64} {t_wrongAt : Int32} {t_badAt : Int32} {t_bad : Int32} {t_read : Int32} {t_pictured : Int32} {t_x : Int32} {t_all : Nat → Int32} {res : Int32 × (Nat → Int32)} (HR : ∀ (pc : Nat) (H : Heap) (locs : List Loc) (ls : Array Slot), decode cX11_keeps pc = .ok (.return_, 1) → va_P D vwCl (w_X11_keeps K g_t t_raised res.1 t_reached t_length t_begin t_sort t_value t_word t_wrongAt t_badAt t_bad t_read t_pictured t_x t_all res.2) H → va_D A (w_X11_keeps K g_t t_raised res.1 t_reached t_length t_begin t_sort t_value t_word t_wrongAt t_badAt t_bad t_read t_pictured t_x t_all res.2) → va_S A s.heap H locs → W p l e rmX11_keeps s m args below meth c H locs 0 0 Q (F0 m pc ls []))  :
    ∀ (t_undos : Int32) (t_undone : Nat → Int32) (H : Heap) (locs : List Loc) (ls : Array Slot), va_P D vwCl (w_X11_keeps K g_t t_raised t_undos t_reached t_length t_begin t_sort t_value t_word t_wrongAt t_badAt t_bad t_read t_pictured t_x t_all t_undone) H → va_D A (w_X11_keeps K g_t t_raised t_undos t_reached t_length t_begin t_sort t_value t_word t_wrongAt t_badAt t_bad t_read t_pictured t_x t_all t_undone) → va_S A s.heap H locs → lv_has ls 2 [(0, .ref (g_t 0))] → J_X11_keeps_39 t_all t_undos t_undone = some res → W p l e rmX11_keeps s m args below meth c H locs 0 0 Q (F0 m 39 ls []) := by
  obtain ⟨⟨hx, hb, hml, hown, hts⟩, hK, -⟩ := id C0
  intro t_undos t_undone H locs ls hP hD hS hl hF
  unfold J_X11_keeps_39 at hF
  refine lv_aload_n hx hb dX11_keeps_39 rfl (lv_at hl 0 rfl) ?_
  refine lv_dup hx hb dX11_keeps_40 rfl ?_
  refine va_get (D := D) (ci := 10) (v := .int t_undos) (C := RX11) (T := TX11) (N := 30) hx hb hts iw_X11_keeps_X11 hown hK hP 0 rfl rfl 5 (by decide) (hts _ fl_X11_keeps_176) (fun _ h9 => h9) rfl dX11_keeps_41 ?_
  refine lv_iconst (v := 1) hx hb dX11_keeps_44 (by decide) ?_
  refine lv_isub hx hb dX11_keeps_45 ?_
  refine va_put (D := D) (ci := 10) (v := .int (t_undos - (1 : Int32))) (ty := .int) (C := RX11) (T := TX11) (N := 30) hx hb hts iw_X11_keeps_X11 tyX11 tyX11_ok nmX11 hown hK hP hD hS 0 rfl rfl 5 (by decide) (hts _ fl_X11_keeps_176) (fun _ h9 => h9) rfl (by decide +kernel) rfl rfl (Nat.le_of_ble_eq_true rfl) dX11_keeps_46 (fun H locs hP hD hS => ?_)
  have hP : va_P D vwCl (w_X11_keeps K g_t t_raised (t_undos - (1 : Int32)) t_reached t_length t_begin t_sort t_value t_word t_wrongAt t_badAt t_bad t_read t_pictured t_x t_all t_undone) H := hP
  have hD : va_D A (w_X11_keeps K g_t t_raised (t_undos - (1 : Int32)) t_reached t_length t_begin t_sort t_value t_word t_wrongAt t_badAt t_bad t_read t_pictured t_x t_all t_undone) := hD
  refine lv_iconst (v := 0) hx hb dX11_keeps_49 (by decide) ?_
  refine lv_istore_n (lv' := [(1, .int (0 : Int32)), (0, .ref (g_t 0))]) hx hb dX11_keeps_50 rfl hl (by decide) rfl (fun ls hl => ?_)
  exact w_X11_keeps_51 C0 HR fu_ (t_undos - (1 : Int32)) t_undone (0 : Int32) H locs ls hP hD hS (lv_sub hl [1, 0] rfl) hF
def L_X11_keeps_11 (t_all : Nat → Int32) : Nat → Int32 → (Nat → Int32) → Int32 → Option (Int32 × (Nat → Int32))
  | 0, _, _, _ => none
  | n_ + 1, t_undos, t_undone, x1 =>
    if (679 : Int32) ≤ x1 then (J_X11_keeps_39 t_all t_undos t_undone) else (gd_ (in_b (x1 + (97 : Int32)) 776) (gd_ (in_b x1 776) (L_X11_keeps_11 t_all n_ t_undos (upd t_undone (x1).toNatClampNeg (t_undone (x1 + (97 : Int32)).toNatClampNeg)) (x1 + (1 : Int32)))))
set_option maxHeartbeats 4000000 in
set_option maxRecDepth 100000 in
theorem w_X11_keeps_11 {p : Program} {l : Launch} {e : Env} {s : State} {m : MethodId} {args : Array Value} {below : List Frame} {meth : Method} {c : Code} {D : va_G} {K : Nat → ClassId} {A : Nat → Prop} {Q : State → Prop} (C0 : cx_ p s m args c cX11_keeps 2 RX11 wsX11_keeps D K A) {g_t : Nat → Nat} {t_raised : Int32} {t_reached : Int32} {t_length : Int32} {t_begin : Int32} {t_sort : Int32} {t_value : Int32} {t_word : Int64} {t_wrongAt : Int32} {t_badAt : Int32} {t_bad : Int32} {t_read : Int32} {t_pictured : Int32} {t_x : Int32} {t_all : Nat → Int32} {res : Int32 × (Nat → Int32)} (HR : ∀ (pc : Nat) (H : Heap) (locs : List Loc) (ls : Array Slot), decode cX11_keeps pc = .ok (.return_, 1) → va_P D vwCl (w_X11_keeps K g_t t_raised res.1 t_reached t_length t_begin t_sort t_value t_word t_wrongAt t_badAt t_bad t_read t_pictured t_x t_all res.2) H → va_D A (w_X11_keeps K g_t t_raised res.1 t_reached t_length t_begin t_sort t_value t_word t_wrongAt t_badAt t_bad t_read t_pictured t_x t_all res.2) → va_S A s.heap H locs → W p l e rmX11_keeps s m args below meth c H locs 0 0 Q (F0 m pc ls []))  :
    ∀ (n_ : Nat) (t_undos : Int32) (t_undone : Nat → Int32) (x1 : Int32) (H : Heap) (locs : List Loc) (ls : Array Slot), va_P D vwCl (w_X11_keeps K g_t t_raised t_undos t_reached t_length t_begin t_sort t_value t_word t_wrongAt t_badAt t_bad t_read t_pictured t_x t_all t_undone) H → va_D A (w_X11_keeps K g_t t_raised t_undos t_reached t_length t_begin t_sort t_value t_word t_wrongAt t_badAt t_bad t_read t_pictured t_x t_all t_undone) → va_S A s.heap H locs → lv_has ls 2 [(0, .ref (g_t 0)), (1, .int x1)] → L_X11_keeps_11 t_all n_ t_undos t_undone x1 = some res → W p l e rmX11_keeps s m args below meth c H locs 0 0 Q (F0 m 11 ls []) := by
  obtain ⟨⟨hx, hb, hml, hown, hts⟩, hK, -⟩ := id C0
  intro n_
  induction n_ with
  | zero =>
    intro t_undos t_undone x1 H locs ls hP hD hS hl hF
    exact no_s (show (none : Option (Int32 × (Nat → Int32))) = some res from hF)
  | succ n_ ih =>
    intro t_undos t_undone x1 H locs ls hP hD hS hl hF
    rw [L_X11_keeps_11] at hF
    refine lv_iload_n hx hb dX11_keeps_11 rfl (lv_at hl 1 rfl) ?_
    refine lv_sipush (v := 679) hx hb dX11_keeps_12 (by decide) ?_
    refine lv_icmp_ge (tgt := 39) hx hb dX11_keeps_15 (by decide) (fun c_1 => ?_) (fun c_1 => ?_)
    · have hF := it_pos c_1 hF
      exact w_X11_keeps_39 C0 HR t_undos t_undone H locs ls hP hD hS (lv_sub hl [0] rfl) hF
    · have hF := it_neg c_1 hF
      refine lv_aload_n hx hb dX11_keeps_18 rfl (lv_at hl 0 rfl) ?_
      refine va_get (D := D) (ci := 10) (v := .ref (g_t 5)) (C := RX11) (T := TX11) (N := 30) hx hb hts iw_X11_keeps_X11 hown hK hP 0 rfl rfl 4 (by decide) (hts _ fl_X11_keeps_21) (fun _ h9 => h9) rfl dX11_keeps_19 ?_
      refine lv_iload_n hx hb dX11_keeps_22 rfl (lv_at hl 1 rfl) ?_
      refine lv_aload_n hx hb dX11_keeps_23 rfl (lv_at hl 0 rfl) ?_
      refine va_get (D := D) (ci := 10) (v := .ref (g_t 5)) (C := RX11) (T := TX11) (N := 30) hx hb hts iw_X11_keeps_X11 hown hK hP 0 rfl rfl 4 (by decide) (hts _ fl_X11_keeps_21) (fun _ h9 => h9) rfl dX11_keeps_24 ?_
      refine lv_iload_n hx hb dX11_keeps_27 rfl (lv_at hl 1 rfl) ?_
      refine lv_bipush (v := 97) hx hb dX11_keeps_28 (by decide) ?_
      refine lv_iadd hx hb dX11_keeps_30 ?_
      obtain ⟨hg_2, hF⟩ := gd_some hF
      refine xl_i (f := t_undone) hx hb hK hP 2 0 rfl rfl rfl (in_v hg_2) dX11_keeps_31 ?_
      obtain ⟨hg_3, hF⟩ := gd_some hF
      refine xs_i (f := t_undone) hx hb hK hP hD hS 2 0 rfl rfl rfl (in_v hg_3) dX11_keeps_32 (fun H locs hP hD hS => ?_)
      have hP : va_P D vwCl (w_X11_keeps K g_t t_raised t_undos t_reached t_length t_begin t_sort t_value t_word t_wrongAt t_badAt t_bad t_read t_pictured t_x t_all (upd t_undone (x1).toNatClampNeg (t_undone (x1 + (97 : Int32)).toNatClampNeg))) H := hP
      have hD : va_D A (w_X11_keeps K g_t t_raised t_undos t_reached t_length t_begin t_sort t_value t_word t_wrongAt t_badAt t_bad t_read t_pictured t_x t_all (upd t_undone (x1).toNatClampNeg (t_undone (x1 + (97 : Int32)).toNatClampNeg))) := hD
      refine lv_iinc (v := (x1 + (1 : Int32))) (lv' := [(1, .int (x1 + (1 : Int32))), (0, .ref (g_t 0))]) hx hb dX11_keeps_33 hl (k := 1) rfl (congrArg (fun z => x1 + z) (by decide)) (by decide) rfl (fun ls hl => ?_)
      refine lv_goto (tgt := 11) hx hb dX11_keeps_36 (by decide) ?_
      exact ih t_undos (upd t_undone (x1).toNatClampNeg (t_undone (x1 + (97 : Int32)).toNatClampNeg)) (x1 + (1 : Int32)) H locs ls hP hD hS (lv_sub hl [1, 0] rfl) hF
def F_X11_keeps (t_undos : Int32) (t_all : Nat → Int32) (t_undone : Nat → Int32) : Option (Int32 × (Nat → Int32)) :=
  if t_undos = (8 : Int32) then (L_X11_keeps_11 t_all fu_ t_undos t_undone (0 : Int32)) else (L_X11_keeps_51 t_all fu_ t_undos t_undone (0 : Int32))
set_option maxHeartbeats 4000000 in
set_option maxRecDepth 100000 in
theorem c_X11_keeps (l : Launch) (D : va_G) (K : Nat → ClassId) (g_t : Nat → Nat) (t_raised : Int32) (t_undos : Int32) (t_reached : Int32) (t_length : Int32) (t_begin : Int32) (t_sort : Int32) (t_value : Int32) (t_word : Int64) (t_wrongAt : Int32) (t_badAt : Int32) (t_bad : Int32) (t_read : Int32) (t_pictured : Int32) (t_x : Int32) (t_all : Nat → Int32) (t_undone : Nat → Int32) (res : Int32 × (Nat → Int32)) (hF : F_X11_keeps t_undos t_all t_undone = some res) :
    Mv_ l yX11_keeps wsX11_keeps rmX11_keeps D K [.ref (g_t 0)] (w_X11_keeps K g_t t_raised t_undos t_reached t_length t_begin t_sort t_value t_word t_wrongAt t_badAt t_bad t_read t_pictured t_x t_all t_undone) (w_X11_keeps K g_t t_raised res.1 t_reached t_length t_begin t_sort t_value t_word t_wrongAt t_badAt t_bad t_read t_pictured t_x t_all res.2) := by
  refine en_v (cc := cX11_keeps) (maxL := 2) (own := RX11) (by decide) rfl rfl (Nat.le_of_ble_eq_true rfl) ?_
  intro p e s m args below meth c A Q H locs ls C0 hP hD hS hl HR
  obtain ⟨⟨hx, hb, hml, hown, hts⟩, hK, -⟩ := id C0
  have hl : lv_has ls 2 [(0, .ref (g_t 0))] := hl
  unfold F_X11_keeps at hF
  refine lv_aload_n hx hb dX11_keeps_0 rfl (lv_at hl 0 rfl) ?_
  refine va_get (D := D) (ci := 10) (v := .int t_undos) (C := RX11) (T := TX11) (N := 30) hx hb hts iw_X11_keeps_X11 hown hK hP 0 rfl rfl 5 (by decide) (hts _ fl_X11_keeps_176) (fun _ h9 => h9) rfl dX11_keeps_1 ?_
  refine lv_bipush (v := 8) hx hb dX11_keeps_4 (by decide) ?_
  refine lv_icmp_ne (tgt := 49) hx hb dX11_keeps_6 (by decide) (fun c_1 => ?_) (fun c_1 => ?_)
  · have hF := it_neg c_1 hF
    refine lv_iconst (v := 0) hx hb dX11_keeps_49 (by decide) ?_
    refine lv_istore_n (lv' := [(1, .int (0 : Int32)), (0, .ref (g_t 0))]) hx hb dX11_keeps_50 rfl hl (by decide) rfl (fun ls hl => ?_)
    exact w_X11_keeps_51 C0 HR fu_ t_undos t_undone (0 : Int32) H locs ls hP hD hS (lv_sub hl [1, 0] rfl) hF
  · have hF := it_pos c_1 hF
    refine lv_iconst (v := 0) hx hb dX11_keeps_9 (by decide) ?_
    refine lv_istore_n (lv' := [(1, .int (0 : Int32)), (0, .ref (g_t 0))]) hx hb dX11_keeps_10 rfl hl (by decide) rfl (fun ls hl => ?_)
    exact w_X11_keeps_11 C0 HR fu_ t_undos t_undone (0 : Int32) H locs ls hP hD hS (lv_sub hl [1, 0] rfl) hF

/-! StaggerRadarModel.putsGap([II)V -/
abbrev rmX11_putsGap : Room := { frames := 0, cells := 0, slots := 0, locals := 0 }
abbrev w_X11_putsGap (K : Nat → ClassId) (a_p0 : Nat) (n_p0 : Nat) (p0 : Nat → Int32) : va_W := [(a_p0, .inl (K 0, n_p0, .inl p0))]
def J_X11_putsGap_37 (n_p0 : Nat) (p0 : Nat → Int32) (x1 : Int32) (x2 : Int32) : Option ((Nat → Int32)) :=
  gd_ (in_b ((1 : Int32) + x2) n_p0) (gd_ (in_b (0 : Int32) n_p0) (gd_ (in_b (0 : Int32) n_p0) (some (upd (upd p0 ((1 : Int32) + x2).toNatClampNeg x1) (0 : Int32).toNatClampNeg (((upd p0 ((1 : Int32) + x2).toNatClampNeg x1) (0 : Int32).toNatClampNeg) + (1 : Int32))))))
set_option maxHeartbeats 4000000 in
set_option maxRecDepth 100000 in
theorem w_X11_putsGap_37 {p : Program} {l : Launch} {e : Env} {s : State} {m : MethodId} {args : Array Value} {below : List Frame} {meth : Method} {c : Code} {D : va_G} {K : Nat → ClassId} {A : Nat → Prop} {Q : State → Prop} (C0 : cx_ p s m args c cX11_putsGap 3 RX11 wsX11_putsGap D K A) {a_p0 : Nat} {n_p0 : Nat}  {res : (Nat → Int32)} (HR : ∀ (pc : Nat) (H : Heap) (locs : List Loc) (ls : Array Slot), decode cX11_putsGap pc = .ok (.return_, 1) → va_P D vwCl (w_X11_putsGap K a_p0 n_p0 res) H → va_D A (w_X11_putsGap K a_p0 n_p0 res) → va_S A s.heap H locs → W p l e rmX11_putsGap s m args below meth c H locs 0 0 Q (F0 m pc ls []))  :
    ∀ (p0 : Nat → Int32) (x1 : Int32) (x2 : Int32) (H : Heap) (locs : List Loc) (ls : Array Slot), va_P D vwCl (w_X11_putsGap K a_p0 n_p0 p0) H → va_D A (w_X11_putsGap K a_p0 n_p0 p0) → va_S A s.heap H locs → lv_has ls 3 [(0, .ref a_p0), (1, .int x1), (2, .int x2)] → J_X11_putsGap_37 n_p0 p0 x1 x2 = some res → W p l e rmX11_putsGap s m args below meth c H locs 0 0 Q (F0 m 37 ls []) := by
  obtain ⟨⟨hx, hb, hml, hown, hts⟩, hK, -⟩ := id C0
  intro p0 x1 x2 H locs ls hP hD hS hl hF
  unfold J_X11_putsGap_37 at hF
  refine lv_aload_n hx hb dX11_putsGap_37 rfl (lv_at hl 0 rfl) ?_
  refine lv_iconst (v := 1) hx hb dX11_putsGap_38 (by decide) ?_
  refine lv_iload_n hx hb dX11_putsGap_39 rfl (lv_at hl 2 rfl) ?_
  refine lv_iadd hx hb dX11_putsGap_40 ?_
  refine lv_iload_n hx hb dX11_putsGap_41 rfl (lv_at hl 1 rfl) ?_
  obtain ⟨hg_1, hF⟩ := gd_some hF
  refine xs_i (f := p0) hx hb hK hP hD hS 0 0 rfl rfl rfl (in_v hg_1) dX11_putsGap_42 (fun H locs hP hD hS => ?_)
  have hP : va_P D vwCl (w_X11_putsGap K a_p0 n_p0 (upd p0 ((1 : Int32) + x2).toNatClampNeg x1)) H := hP
  have hD : va_D A (w_X11_putsGap K a_p0 n_p0 (upd p0 ((1 : Int32) + x2).toNatClampNeg x1)) := hD
  refine lv_aload_n hx hb dX11_putsGap_43 rfl (lv_at hl 0 rfl) ?_
  refine lv_iconst (v := 0) hx hb dX11_putsGap_44 (by decide) ?_
  refine lv_dup2_11 hx hb dX11_putsGap_45 rfl rfl ?_
  obtain ⟨hg_2, hF⟩ := gd_some hF
  refine xl_i (f := (upd p0 ((1 : Int32) + x2).toNatClampNeg x1)) hx hb hK hP 0 0 rfl rfl rfl (in_v hg_2) dX11_putsGap_46 ?_
  refine lv_iconst (v := 1) hx hb dX11_putsGap_47 (by decide) ?_
  refine lv_iadd hx hb dX11_putsGap_48 ?_
  obtain ⟨hg_3, hF⟩ := gd_some hF
  refine xs_i (f := (upd p0 ((1 : Int32) + x2).toNatClampNeg x1)) hx hb hK hP hD hS 0 0 rfl rfl rfl (in_v hg_3) dX11_putsGap_49 (fun H locs hP hD hS => ?_)
  have hP : va_P D vwCl (w_X11_putsGap K a_p0 n_p0 (upd (upd p0 ((1 : Int32) + x2).toNatClampNeg x1) (0 : Int32).toNatClampNeg (((upd p0 ((1 : Int32) + x2).toNatClampNeg x1) (0 : Int32).toNatClampNeg) + (1 : Int32)))) H := hP
  have hD : va_D A (w_X11_putsGap K a_p0 n_p0 (upd (upd p0 ((1 : Int32) + x2).toNatClampNeg x1) (0 : Int32).toNatClampNeg (((upd p0 ((1 : Int32) + x2).toNatClampNeg x1) (0 : Int32).toNatClampNeg) + (1 : Int32)))) := hD
  obtain rfl := Option.some.inj hF
  exact HR 50 H locs ls dX11_putsGap_50 hP hD hS
def L_X11_putsGap_4 (n_p0 : Nat) : Nat → (Nat → Int32) → Int32 → Int32 → Option ((Nat → Int32))
  | 0, _, _, _ => none
  | n_ + 1, p0, x1, x2 =>
    if x2 ≤ (0 : Int32) then (J_X11_putsGap_37 n_p0 p0 x1 x2) else (gd_ (in_b (((1 : Int32) + x2) - (1 : Int32)) n_p0) (if (p0 (((1 : Int32) + x2) - (1 : Int32)).toNatClampNeg) ≤ x1 then (J_X11_putsGap_37 n_p0 p0 x1 x2) else (gd_ (in_b (((1 : Int32) + x2) - (1 : Int32)) n_p0) (gd_ (in_b ((1 : Int32) + x2) n_p0) (L_X11_putsGap_4 n_p0 n_ (upd p0 ((1 : Int32) + x2).toNatClampNeg (p0 (((1 : Int32) + x2) - (1 : Int32)).toNatClampNeg)) x1 (x2 + (-1 : Int32)))))))
set_option maxHeartbeats 4000000 in
set_option maxRecDepth 100000 in
theorem w_X11_putsGap_4 {p : Program} {l : Launch} {e : Env} {s : State} {m : MethodId} {args : Array Value} {below : List Frame} {meth : Method} {c : Code} {D : va_G} {K : Nat → ClassId} {A : Nat → Prop} {Q : State → Prop} (C0 : cx_ p s m args c cX11_putsGap 3 RX11 wsX11_putsGap D K A) {a_p0 : Nat} {n_p0 : Nat}  {res : (Nat → Int32)} (HR : ∀ (pc : Nat) (H : Heap) (locs : List Loc) (ls : Array Slot), decode cX11_putsGap pc = .ok (.return_, 1) → va_P D vwCl (w_X11_putsGap K a_p0 n_p0 res) H → va_D A (w_X11_putsGap K a_p0 n_p0 res) → va_S A s.heap H locs → W p l e rmX11_putsGap s m args below meth c H locs 0 0 Q (F0 m pc ls []))  :
    ∀ (n_ : Nat) (p0 : Nat → Int32) (x1 : Int32) (x2 : Int32) (H : Heap) (locs : List Loc) (ls : Array Slot), va_P D vwCl (w_X11_putsGap K a_p0 n_p0 p0) H → va_D A (w_X11_putsGap K a_p0 n_p0 p0) → va_S A s.heap H locs → lv_has ls 3 [(0, .ref a_p0), (1, .int x1), (2, .int x2)] → L_X11_putsGap_4 n_p0 n_ p0 x1 x2 = some res → W p l e rmX11_putsGap s m args below meth c H locs 0 0 Q (F0 m 4 ls []) := by
  obtain ⟨⟨hx, hb, hml, hown, hts⟩, hK, -⟩ := id C0
  intro n_
  induction n_ with
  | zero =>
    intro p0 x1 x2 H locs ls hP hD hS hl hF
    exact no_s (show (none : Option ((Nat → Int32))) = some res from hF)
  | succ n_ ih =>
    intro p0 x1 x2 H locs ls hP hD hS hl hF
    rw [L_X11_putsGap_4] at hF
    refine lv_iload_n hx hb dX11_putsGap_4 rfl (lv_at hl 2 rfl) ?_
    refine lv_if_le (tgt := 37) hx hb dX11_putsGap_5 (by decide) (fun c_1 => ?_) (fun c_1 => ?_)
    · have hF := it_pos c_1 hF
      exact w_X11_putsGap_37 C0 HR p0 x1 x2 H locs ls hP hD hS (lv_sub hl [0, 1, 2] rfl) hF
    · have hF := it_neg c_1 hF
      refine lv_aload_n hx hb dX11_putsGap_8 rfl (lv_at hl 0 rfl) ?_
      refine lv_iconst (v := 1) hx hb dX11_putsGap_9 (by decide) ?_
      refine lv_iload_n hx hb dX11_putsGap_10 rfl (lv_at hl 2 rfl) ?_
      refine lv_iadd hx hb dX11_putsGap_11 ?_
      refine lv_iconst (v := 1) hx hb dX11_putsGap_12 (by decide) ?_
      refine lv_isub hx hb dX11_putsGap_13 ?_
      obtain ⟨hg_2, hF⟩ := gd_some hF
      refine xl_i (f := p0) hx hb hK hP 0 0 rfl rfl rfl (in_v hg_2) dX11_putsGap_14 ?_
      refine lv_iload_n hx hb dX11_putsGap_15 rfl (lv_at hl 1 rfl) ?_
      refine lv_icmp_le (tgt := 37) hx hb dX11_putsGap_16 (by decide) (fun c_3 => ?_) (fun c_3 => ?_)
      · have hF := it_pos c_3 hF
        exact w_X11_putsGap_37 C0 HR p0 x1 x2 H locs ls hP hD hS (lv_sub hl [0, 1, 2] rfl) hF
      · have hF := it_neg c_3 hF
        refine lv_aload_n hx hb dX11_putsGap_19 rfl (lv_at hl 0 rfl) ?_
        refine lv_iconst (v := 1) hx hb dX11_putsGap_20 (by decide) ?_
        refine lv_iload_n hx hb dX11_putsGap_21 rfl (lv_at hl 2 rfl) ?_
        refine lv_iadd hx hb dX11_putsGap_22 ?_
        refine lv_aload_n hx hb dX11_putsGap_23 rfl (lv_at hl 0 rfl) ?_
        refine lv_iconst (v := 1) hx hb dX11_putsGap_24 (by decide) ?_
        refine lv_iload_n hx hb dX11_putsGap_25 rfl (lv_at hl 2 rfl) ?_
        refine lv_iadd hx hb dX11_putsGap_26 ?_
        refine lv_iconst (v := 1) hx hb dX11_putsGap_27 (by decide) ?_
        refine lv_isub hx hb dX11_putsGap_28 ?_
        obtain ⟨hg_4, hF⟩ := gd_some hF
        refine xl_i (f := p0) hx hb hK hP 0 0 rfl rfl rfl (in_v hg_4) dX11_putsGap_29 ?_
        obtain ⟨hg_5, hF⟩ := gd_some hF
        refine xs_i (f := p0) hx hb hK hP hD hS 0 0 rfl rfl rfl (in_v hg_5) dX11_putsGap_30 (fun H locs hP hD hS => ?_)
        have hP : va_P D vwCl (w_X11_putsGap K a_p0 n_p0 (upd p0 ((1 : Int32) + x2).toNatClampNeg (p0 (((1 : Int32) + x2) - (1 : Int32)).toNatClampNeg))) H := hP
        have hD : va_D A (w_X11_putsGap K a_p0 n_p0 (upd p0 ((1 : Int32) + x2).toNatClampNeg (p0 (((1 : Int32) + x2) - (1 : Int32)).toNatClampNeg))) := hD
        refine lv_iinc (v := (x2 + (-1 : Int32))) (lv' := [(2, .int (x2 + (-1 : Int32))), (0, .ref a_p0), (1, .int x1)]) hx hb dX11_putsGap_31 hl (k := 2) rfl (congrArg (fun z => x2 + z) (by decide)) (by decide) rfl (fun ls hl => ?_)
        refine lv_goto (tgt := 4) hx hb dX11_putsGap_34 (by decide) ?_
        exact ih (upd p0 ((1 : Int32) + x2).toNatClampNeg (p0 (((1 : Int32) + x2) - (1 : Int32)).toNatClampNeg)) x1 (x2 + (-1 : Int32)) H locs ls hP hD hS (lv_sub hl [1, 2, 0] rfl) hF
def F_X11_putsGap (p0 : Nat → Int32) (n_p0 : Nat) (x1 : Int32) : Option ((Nat → Int32)) :=
  gd_ (in_b (0 : Int32) n_p0) (L_X11_putsGap_4 n_p0 fu_ p0 x1 (p0 (0 : Int32).toNatClampNeg))
set_option maxHeartbeats 4000000 in
set_option maxRecDepth 100000 in
theorem c_X11_putsGap (l : Launch) (D : va_G) (K : Nat → ClassId) (a_p0 : Nat) (n_p0 : Nat) (p0 : Nat → Int32) (x1 : Int32) (res : (Nat → Int32)) (hF : F_X11_putsGap p0 n_p0 x1 = some res) :
    Mv_ l yX11_putsGap wsX11_putsGap rmX11_putsGap D K [.ref a_p0, .int x1] (w_X11_putsGap K a_p0 n_p0 p0) (w_X11_putsGap K a_p0 n_p0 res) := by
  refine en_v (cc := cX11_putsGap) (maxL := 3) (own := RX11) (by decide) rfl rfl (Nat.le_of_ble_eq_true rfl) ?_
  intro p e s m args below meth c A Q H locs ls C0 hP hD hS hl HR
  obtain ⟨⟨hx, hb, hml, hown, hts⟩, hK, -⟩ := id C0
  have hl : lv_has ls 3 [(0, .ref a_p0), (1, .int x1)] := hl
  unfold F_X11_putsGap at hF
  refine lv_aload_n hx hb dX11_putsGap_0 rfl (lv_at hl 0 rfl) ?_
  refine lv_iconst (v := 0) hx hb dX11_putsGap_1 (by decide) ?_
  obtain ⟨hg_1, hF⟩ := gd_some hF
  refine xl_i (f := p0) hx hb hK hP 0 0 rfl rfl rfl (in_v hg_1) dX11_putsGap_2 ?_
  refine lv_istore_n (lv' := [(2, .int (p0 (0 : Int32).toNatClampNeg)), (0, .ref a_p0), (1, .int x1)]) hx hb dX11_putsGap_3 rfl hl (by decide) rfl (fun ls hl => ?_)
  exact w_X11_putsGap_4 C0 HR fu_ p0 x1 (p0 (0 : Int32).toNatClampNeg) H locs ls hP hD hS (lv_sub hl [1, 2, 0] rfl) hF

/-! StaggerRadarModel.gap(IZ)I -/
abbrev rmX11_gap : Room := { frames := 1, cells := 0, slots := 0, locals := 22 }
theorem fl_X11_gap_7 : Cond.fieldLink RX11 7 "StaggerRadarModel" "all" "[I" ∈ wsX11_gap := by decide +kernel
theorem fl_X11_gap_66 : Cond.fieldLink RX11 66 "StaggerRadarModel" "raised" "I" ∈ wsX11_gap := by decide +kernel
theorem iw_X11_gap_X11 : ∀ w ∈ u_ws RX11 TX11 30, w ∈ wsX11_gap := by decide +kernel
abbrev w_X11_gap (K : Nat → ClassId) (g_t : Nat → Nat) (t_raised : Int32) (t_undos : Int32) (t_reached : Int32) (t_length : Int32) (t_begin : Int32) (t_sort : Int32) (t_value : Int32) (t_word : Int64) (t_wrongAt : Int32) (t_badAt : Int32) (t_bad : Int32) (t_read : Int32) (t_pictured : Int32) (t_x : Int32) (t_all : Nat → Int32) (t_undone : Nat → Int32) : va_W := [((g_t 0), .inr (10, [.int t_raised, .ref (g_t 2), .ref (g_t 3), .ref (g_t 4), .ref (g_t 5), .int t_undos, .int t_reached, .int t_length, .int t_begin, .int t_sort, .int t_value, .long t_word, .int t_wrongAt, .int t_badAt, .int t_bad, .ref (g_t 16), .int t_read, .ref (g_t 18), .ref (g_t 19), .ref (g_t 20), .int t_pictured, .ref (g_t 22), .ref (g_t 23), .ref (g_t 24), .ref (g_t 25), .ref (g_t 26), .int t_x, .ref (g_t 28), .ref (g_t 29), .ref (g_t 30)])), ((g_t 2), .inl (K 0, 500, .inl t_all)), ((g_t 5), .inl (K 0, 776, .inl t_undone))]
def J_X11_gap_120 (t_raised : Int32) (t_undos : Int32) (t_all : Nat → Int32) (t_undone : Nat → Int32) : Option (Int32 × Int32 × Int32 × (Nat → Int32) × (Nat → Int32)) :=
  some (((upd t_all 0 ((t_all 0) - (1 : Int32))) 0), t_raised, t_undos, (upd t_all 0 ((t_all 0) - (1 : Int32))), t_undone)
set_option maxHeartbeats 4000000 in
set_option maxRecDepth 100000 in
theorem w_X11_gap_120 {p : Program} {l : Launch} {e : Env} {s : State} {m : MethodId} {args : Array Value} {below : List Frame} {meth : Method} {c : Code} {D : va_G} {K : Nat → ClassId} {A : Nat → Prop} {Q : State → Prop} (C0 : cx_ p s m args c cX11_gap 5 RX11 wsX11_gap D K A) {g_t : Nat → Nat} {t_reached : Int32} {t_length : Int32} {t_begin : Int32} {t_sort : Int32} {t_value : Int32} {t_word : Int64} {t_wrongAt : Int32} {t_badAt : Int32} {t_bad : Int32} {t_read : Int32} {t_pictured : Int32} {t_x : Int32} {res : Int32 × Int32 × Int32 × (Nat → Int32) × (Nat → Int32)} (HR : ∀ (pc : Nat) (H : Heap) (locs : List Loc) (ls : Array Slot), decode cX11_gap pc = .ok (.ireturn, 1) → va_P D vwCl (w_X11_gap K g_t res.2.1 res.2.2.1 t_reached t_length t_begin t_sort t_value t_word t_wrongAt t_badAt t_bad t_read t_pictured t_x res.2.2.2.1 res.2.2.2.2) H → va_D A (w_X11_gap K g_t res.2.1 res.2.2.1 t_reached t_length t_begin t_sort t_value t_word t_wrongAt t_badAt t_bad t_read t_pictured t_x res.2.2.2.1 res.2.2.2.2) → va_S A s.heap H locs → W p l e rmX11_gap s m args below meth c H locs 0 0 Q (F0 m pc ls [.int res.1]))  :
    ∀ (t_raised : Int32) (t_undos : Int32) (t_all : Nat → Int32) (t_undone : Nat → Int32) (H : Heap) (locs : List Loc) (ls : Array Slot), va_P D vwCl (w_X11_gap K g_t t_raised t_undos t_reached t_length t_begin t_sort t_value t_word t_wrongAt t_badAt t_bad t_read t_pictured t_x t_all t_undone) H → va_D A (w_X11_gap K g_t t_raised t_undos t_reached t_length t_begin t_sort t_value t_word t_wrongAt t_badAt t_bad t_read t_pictured t_x t_all t_undone) → va_S A s.heap H locs → lv_has ls 5 [(0, .ref (g_t 0))] → J_X11_gap_120 t_raised t_undos t_all t_undone = some res → W p l e rmX11_gap s m args below meth c H locs 0 0 Q (F0 m 120 ls []) := by
  obtain ⟨⟨hx, hb, hml, hown, hts⟩, hK, -⟩ := id C0
  intro t_raised t_undos t_all t_undone H locs ls hP hD hS hl hF
  unfold J_X11_gap_120 at hF
  refine lv_aload_n hx hb dX11_gap_120 rfl (lv_at hl 0 rfl) ?_
  refine va_get (D := D) (ci := 10) (v := .ref (g_t 2)) (C := RX11) (T := TX11) (N := 30) hx hb hts iw_X11_gap_X11 hown hK hP 0 rfl rfl 1 (by decide) (hts _ fl_X11_gap_7) (fun _ h9 => h9) rfl dX11_gap_121 ?_
  refine lv_iconst (v := 0) hx hb dX11_gap_124 (by decide) ?_
  refine lv_dup2_11 hx hb dX11_gap_125 rfl rfl ?_
  refine xl_i (f := t_all) hx hb hK hP 1 0 rfl rfl (k := 0) (by decide) (in_v (by decide)) dX11_gap_126 ?_
  refine lv_iconst (v := 1) hx hb dX11_gap_127 (by decide) ?_
  refine lv_isub hx hb dX11_gap_128 ?_
  refine xs_i (f := t_all) hx hb hK hP hD hS 1 0 rfl rfl (k := 0) (by decide) (in_v (by decide)) dX11_gap_129 (fun H locs hP hD hS => ?_)
  have hP : va_P D vwCl (w_X11_gap K g_t t_raised t_undos t_reached t_length t_begin t_sort t_value t_word t_wrongAt t_badAt t_bad t_read t_pictured t_x (upd t_all 0 ((t_all 0) - (1 : Int32))) t_undone) H := hP
  have hD : va_D A (w_X11_gap K g_t t_raised t_undos t_reached t_length t_begin t_sort t_value t_word t_wrongAt t_badAt t_bad t_read t_pictured t_x (upd t_all 0 ((t_all 0) - (1 : Int32))) t_undone) := hD
  refine lv_aload_n hx hb dX11_gap_130 rfl (lv_at hl 0 rfl) ?_
  refine va_get (D := D) (ci := 10) (v := .ref (g_t 2)) (C := RX11) (T := TX11) (N := 30) hx hb hts iw_X11_gap_X11 hown hK hP 0 rfl rfl 1 (by decide) (hts _ fl_X11_gap_7) (fun _ h9 => h9) rfl dX11_gap_131 ?_
  refine lv_iconst (v := 0) hx hb dX11_gap_134 (by decide) ?_
  refine xl_i (f := (upd t_all 0 ((t_all 0) - (1 : Int32)))) hx hb hK hP 1 0 rfl rfl (k := 0) (by decide) (in_v (by decide)) dX11_gap_135 ?_
  obtain rfl := Option.some.inj hF
  exact HR 136 H locs ls dX11_gap_136 hP hD hS
def L_X11_gap_71  : Nat → Int32 → Int32 → (Nat → Int32) → (Nat → Int32) → Int32 → Int32 → Int32 → Option (Int32 × Int32 × Int32 × (Nat → Int32) × (Nat → Int32))
  | 0, _, _, _, _, _, _, _ => none
  | n_ + 1, t_raised, t_undos, t_all, t_undone, x1, x3, x4 =>
    if (t_all 0) ≤ x4 then (J_X11_gap_120 t_raised t_undos t_all t_undone) else ((F_X11_gapAt t_all x4).bind fun r_2 => (gd_ (in_b ((1 : Int32) + x3) 500) ((F_X11_gapAt (upd t_all ((1 : Int32) + x3).toNatClampNeg r_2) x4).bind fun r_5 => (if r_5 = x1 then (L_X11_gap_71 n_ t_raised t_undos (upd t_all ((1 : Int32) + x3).toNatClampNeg r_2) t_undone x1 (x3 + (0 : Int32)) (x4 + (1 : Int32))) else (L_X11_gap_71 n_ t_raised t_undos (upd t_all ((1 : Int32) + x3).toNatClampNeg r_2) t_undone x1 (x3 + (1 : Int32)) (x4 + (1 : Int32)))))))
set_option maxHeartbeats 4000000 in
set_option maxRecDepth 100000 in
theorem w_X11_gap_71 {p : Program} {l : Launch} {e : Env} {s : State} {m : MethodId} {args : Array Value} {below : List Frame} {meth : Method} {c : Code} {D : va_G} {K : Nat → ClassId} {A : Nat → Prop} {Q : State → Prop} (C0 : cx_ p s m args c cX11_gap 5 RX11 wsX11_gap D K A) {g_t : Nat → Nat} {t_reached : Int32} {t_length : Int32} {t_begin : Int32} {t_sort : Int32} {t_value : Int32} {t_word : Int64} {t_wrongAt : Int32} {t_badAt : Int32} {t_bad : Int32} {t_read : Int32} {t_pictured : Int32} {t_x : Int32} {res : Int32 × Int32 × Int32 × (Nat → Int32) × (Nat → Int32)} (HR : ∀ (pc : Nat) (H : Heap) (locs : List Loc) (ls : Array Slot), decode cX11_gap pc = .ok (.ireturn, 1) → va_P D vwCl (w_X11_gap K g_t res.2.1 res.2.2.1 t_reached t_length t_begin t_sort t_value t_word t_wrongAt t_badAt t_bad t_read t_pictured t_x res.2.2.2.1 res.2.2.2.2) H → va_D A (w_X11_gap K g_t res.2.1 res.2.2.1 t_reached t_length t_begin t_sort t_value t_word t_wrongAt t_badAt t_bad t_read t_pictured t_x res.2.2.2.1 res.2.2.2.2) → va_S A s.heap H locs → W p l e rmX11_gap s m args below meth c H locs 0 0 Q (F0 m pc ls [.int res.1]))  :
    ∀ (n_ : Nat) (t_raised : Int32) (t_undos : Int32) (t_all : Nat → Int32) (t_undone : Nat → Int32) (x1 : Int32) (x3 : Int32) (x4 : Int32) (H : Heap) (locs : List Loc) (ls : Array Slot), va_P D vwCl (w_X11_gap K g_t t_raised t_undos t_reached t_length t_begin t_sort t_value t_word t_wrongAt t_badAt t_bad t_read t_pictured t_x t_all t_undone) H → va_D A (w_X11_gap K g_t t_raised t_undos t_reached t_length t_begin t_sort t_value t_word t_wrongAt t_badAt t_bad t_read t_pictured t_x t_all t_undone) → va_S A s.heap H locs → lv_has ls 5 [(0, .ref (g_t 0)), (1, .int x1), (3, .int x3), (4, .int x4)] → L_X11_gap_71 n_ t_raised t_undos t_all t_undone x1 x3 x4 = some res → W p l e rmX11_gap s m args below meth c H locs 0 0 Q (F0 m 71 ls []) := by
  obtain ⟨⟨hx, hb, hml, hown, hts⟩, hK, -⟩ := id C0
  intro n_
  induction n_ with
  | zero =>
    intro t_raised t_undos t_all t_undone x1 x3 x4 H locs ls hP hD hS hl hF
    exact no_s (show (none : Option (Int32 × Int32 × Int32 × (Nat → Int32) × (Nat → Int32))) = some res from hF)
  | succ n_ ih =>
    intro t_raised t_undos t_all t_undone x1 x3 x4 H locs ls hP hD hS hl hF
    rw [L_X11_gap_71] at hF
    refine lv_iload hx hb dX11_gap_71 (lv_at hl 3 rfl) ?_
    refine lv_aload_n hx hb dX11_gap_73 rfl (lv_at hl 0 rfl) ?_
    refine va_get (D := D) (ci := 10) (v := .ref (g_t 2)) (C := RX11) (T := TX11) (N := 30) hx hb hts iw_X11_gap_X11 hown hK hP 0 rfl rfl 1 (by decide) (hts _ fl_X11_gap_7) (fun _ h9 => h9) rfl dX11_gap_74 ?_
    refine lv_iconst (v := 0) hx hb dX11_gap_77 (by decide) ?_
    refine xl_i (f := t_all) hx hb hK hP 1 0 rfl rfl (k := 0) (by decide) (in_v (by decide)) dX11_gap_78 ?_
    refine lv_icmp_ge (tgt := 120) hx hb dX11_gap_79 (by decide) (fun c_1 => ?_) (fun c_1 => ?_)
    · have hF := it_pos c_1 hF
      exact w_X11_gap_120 C0 HR t_raised t_undos t_all t_undone H locs ls hP hD hS (lv_sub hl [0] rfl) hF
    · have hF := it_neg c_1 hF
      refine lv_aload_n hx hb dX11_gap_82 rfl (lv_at hl 0 rfl) ?_
      refine va_get (D := D) (ci := 10) (v := .ref (g_t 2)) (C := RX11) (T := TX11) (N := 30) hx hb hts iw_X11_gap_X11 hown hK hP 0 rfl rfl 1 (by decide) (hts _ fl_X11_gap_7) (fun _ h9 => h9) rfl dX11_gap_83 ?_
      refine lv_iconst (v := 1) hx hb dX11_gap_86 (by decide) ?_
      refine lv_iload_n hx hb dX11_gap_87 rfl (lv_at hl 2 rfl) ?_
      refine lv_iadd hx hb dX11_gap_88 ?_
      refine lv_aload_n hx hb dX11_gap_89 rfl (lv_at hl 0 rfl) ?_
      refine lv_iload hx hb dX11_gap_90 (lv_at hl 3 rfl) ?_
      obtain ⟨r_2, hc_3, hF⟩ := bn_some hF
      refine xc_i (wn := (w_X11_gap K g_t t_raised t_undos t_reached t_length t_begin t_sort t_value t_word t_wrongAt t_badAt t_bad t_read t_pictured t_x t_all t_undone)) hP hD hS C0.2.2.1 [0, 1] [2] [1, 2, 0] rfl rfl (by decide) (by decide) rfl (by decide) (va_runV (As := [.int x4]) (rest := [.int ((1 : Int32) + x3), .ref (g_t 2)]) C0.1 (c_X11_gapAt l D K g_t t_raised t_undos t_reached t_length t_begin t_sort t_value t_word t_wrongAt t_badAt t_bad t_read t_pictured t_x t_all x4 r_2 hc_3 H.size) (cwV 1 hts gX11_gap_X11_gapAt rfl rfl rfl (by decide +kernel) ⟨Nat.le_of_ble_eq_true rfl, Nat.le_of_ble_eq_true rfl⟩) (xp_V C0.2 hP hD hS [0, 1] rfl (by decide) 10 0 rfl rfl rfl) rfl rfl hl.1 rfl (lv_room (Nat.le_of_ble_eq_true rfl)) dX11_gap_92 ⟨Nat.le_of_ble_eq_true rfl, Nat.le_of_ble_eq_true rfl⟩) (fun H locs hP hD hS => ?_)
      obtain ⟨hg_4, hF⟩ := gd_some hF
      refine xs_i (f := t_all) hx hb hK hP hD hS 1 0 rfl rfl rfl (in_v hg_4) dX11_gap_95 (fun H locs hP hD hS => ?_)
      have hP : va_P D vwCl (w_X11_gap K g_t t_raised t_undos t_reached t_length t_begin t_sort t_value t_word t_wrongAt t_badAt t_bad t_read t_pictured t_x (upd t_all ((1 : Int32) + x3).toNatClampNeg r_2) t_undone) H := hP
      have hD : va_D A (w_X11_gap K g_t t_raised t_undos t_reached t_length t_begin t_sort t_value t_word t_wrongAt t_badAt t_bad t_read t_pictured t_x (upd t_all ((1 : Int32) + x3).toNatClampNeg r_2) t_undone) := hD
      refine lv_iload_n hx hb dX11_gap_96 rfl (lv_at hl 2 rfl) ?_
      refine lv_aload_n hx hb dX11_gap_97 rfl (lv_at hl 0 rfl) ?_
      refine lv_iload hx hb dX11_gap_98 (lv_at hl 3 rfl) ?_
      obtain ⟨r_5, hc_6, hF⟩ := bn_some hF
      refine xc_i (wn := (w_X11_gap K g_t t_raised t_undos t_reached t_length t_begin t_sort t_value t_word t_wrongAt t_badAt t_bad t_read t_pictured t_x (upd t_all ((1 : Int32) + x3).toNatClampNeg r_2) t_undone)) hP hD hS C0.2.2.1 [0, 1] [2] [1, 2, 0] rfl rfl (by decide) (by decide) rfl (by decide) (va_runV (As := [.int x4]) (rest := [.int x3]) C0.1 (c_X11_gapAt l D K g_t t_raised t_undos t_reached t_length t_begin t_sort t_value t_word t_wrongAt t_badAt t_bad t_read t_pictured t_x (upd t_all ((1 : Int32) + x3).toNatClampNeg r_2) x4 r_5 hc_6 H.size) (cwV 1 hts gX11_gap_X11_gapAt rfl rfl rfl (by decide +kernel) ⟨Nat.le_of_ble_eq_true rfl, Nat.le_of_ble_eq_true rfl⟩) (xp_V C0.2 hP hD hS [0, 1] rfl (by decide) 10 0 rfl rfl rfl) rfl rfl hl.1 rfl (lv_room (Nat.le_of_ble_eq_true rfl)) dX11_gap_100 ⟨Nat.le_of_ble_eq_true rfl, Nat.le_of_ble_eq_true rfl⟩) (fun H locs hP hD hS => ?_)
      refine lv_iload_n hx hb dX11_gap_103 rfl (lv_at hl 1 rfl) ?_
      refine lv_icmp_ne (tgt := 111) hx hb dX11_gap_104 (by decide) (fun c_7 => ?_) (fun c_7 => ?_)
      · have hF := it_neg c_7 hF
        refine lv_iconst (v := 1) hx hb dX11_gap_111 (by decide) ?_
        refine lv_iadd hx hb dX11_gap_112 ?_
        refine lv_istore_n (lv' := [(3, .int (x3 + (1 : Int32))), (0, .ref (g_t 0)), (1, .int x1), (4, .int x4)]) hx hb dX11_gap_113 rfl hl (by decide) rfl (fun ls hl => ?_)
        refine lv_iinc (v := (x4 + (1 : Int32))) (lv' := [(4, .int (x4 + (1 : Int32))), (3, .int (x3 + (1 : Int32))), (0, .ref (g_t 0)), (1, .int x1)]) hx hb dX11_gap_114 hl (k := 3) rfl (congrArg (fun z => x4 + z) (by decide)) (by decide) rfl (fun ls hl => ?_)
        refine lv_goto (tgt := 71) hx hb dX11_gap_117 (by decide) ?_
        exact ih t_raised t_undos (upd t_all ((1 : Int32) + x3).toNatClampNeg r_2) t_undone x1 (x3 + (1 : Int32)) (x4 + (1 : Int32)) H locs ls hP hD hS (lv_sub hl [2, 3, 1, 0] rfl) hF
      · have hF := it_pos c_7 hF
        refine lv_iconst (v := 0) hx hb dX11_gap_107 (by decide) ?_
        refine lv_goto (tgt := 112) hx hb dX11_gap_108 (by decide) ?_
        refine lv_iadd hx hb dX11_gap_112 ?_
        refine lv_istore_n (lv' := [(3, .int (x3 + (0 : Int32))), (0, .ref (g_t 0)), (1, .int x1), (4, .int x4)]) hx hb dX11_gap_113 rfl hl (by decide) rfl (fun ls hl => ?_)
        refine lv_iinc (v := (x4 + (1 : Int32))) (lv' := [(4, .int (x4 + (1 : Int32))), (3, .int (x3 + (0 : Int32))), (0, .ref (g_t 0)), (1, .int x1)]) hx hb dX11_gap_114 hl (k := 3) rfl (congrArg (fun z => x4 + z) (by decide)) (by decide) rfl (fun ls hl => ?_)
        refine lv_goto (tgt := 71) hx hb dX11_gap_117 (by decide) ?_
        exact ih t_raised t_undos (upd t_all ((1 : Int32) + x3).toNatClampNeg r_2) t_undone x1 (x3 + (0 : Int32)) (x4 + (1 : Int32)) H locs ls hP hD hS (lv_sub hl [2, 3, 1, 0] rfl) hF
def J_X11_gap_43 (t_raised : Int32) (t_undos : Int32) (t_all : Nat → Int32) (t_undone : Nat → Int32) (x1 : Int32) (x2 : Int32) : Option (Int32 × Int32 × Int32 × (Nat → Int32) × (Nat → Int32)) :=
  (F_X11_keeps t_undos t_all t_undone).bind fun r_1 => (if x2 = (0 : Int32) then ((F_X11_putsGap t_all 500 x1).bind fun r_4 => (some ((r_4 0), t_raised, r_1.1, r_4, r_1.2))) else (L_X11_gap_71 fu_ t_raised r_1.1 t_all r_1.2 x1 (0 : Int32) (0 : Int32)))
set_option maxHeartbeats 4000000 in
set_option maxRecDepth 100000 in
theorem w_X11_gap_43 {p : Program} {l : Launch} {e : Env} {s : State} {m : MethodId} {args : Array Value} {below : List Frame} {meth : Method} {c : Code} {D : va_G} {K : Nat → ClassId} {A : Nat → Prop} {Q : State → Prop} (C0 : cx_ p s m args c cX11_gap 5 RX11 wsX11_gap D K A) {g_t : Nat → Nat} {t_reached : Int32} {t_length : Int32} {t_begin : Int32} {t_sort : Int32} {t_value : Int32} {t_word : Int64} {t_wrongAt : Int32} {t_badAt : Int32} {t_bad : Int32} {t_read : Int32} {t_pictured : Int32} {t_x : Int32} {res : Int32 × Int32 × Int32 × (Nat → Int32) × (Nat → Int32)} (HR : ∀ (pc : Nat) (H : Heap) (locs : List Loc) (ls : Array Slot), decode cX11_gap pc = .ok (.ireturn, 1) → va_P D vwCl (w_X11_gap K g_t res.2.1 res.2.2.1 t_reached t_length t_begin t_sort t_value t_word t_wrongAt t_badAt t_bad t_read t_pictured t_x res.2.2.2.1 res.2.2.2.2) H → va_D A (w_X11_gap K g_t res.2.1 res.2.2.1 t_reached t_length t_begin t_sort t_value t_word t_wrongAt t_badAt t_bad t_read t_pictured t_x res.2.2.2.1 res.2.2.2.2) → va_S A s.heap H locs → W p l e rmX11_gap s m args below meth c H locs 0 0 Q (F0 m pc ls [.int res.1]))  :
    ∀ (t_raised : Int32) (t_undos : Int32) (t_all : Nat → Int32) (t_undone : Nat → Int32) (x1 : Int32) (x2 : Int32) (H : Heap) (locs : List Loc) (ls : Array Slot), va_P D vwCl (w_X11_gap K g_t t_raised t_undos t_reached t_length t_begin t_sort t_value t_word t_wrongAt t_badAt t_bad t_read t_pictured t_x t_all t_undone) H → va_D A (w_X11_gap K g_t t_raised t_undos t_reached t_length t_begin t_sort t_value t_word t_wrongAt t_badAt t_bad t_read t_pictured t_x t_all t_undone) → va_S A s.heap H locs → lv_has ls 5 [(0, .ref (g_t 0)), (1, .int x1), (2, .int x2)] → J_X11_gap_43 t_raised t_undos t_all t_undone x1 x2 = some res → W p l e rmX11_gap s m args below meth c H locs 0 0 Q (F0 m 43 ls []) := by
  obtain ⟨⟨hx, hb, hml, hown, hts⟩, hK, -⟩ := id C0
  intro t_raised t_undos t_all t_undone x1 x2 H locs ls hP hD hS hl hF
  unfold J_X11_gap_43 at hF
  refine lv_aload_n hx hb dX11_gap_43 rfl (lv_at hl 0 rfl) ?_
  obtain ⟨r_1, hc_2, hF⟩ := bn_some hF
  refine xc_v (wn := (w_X11_gap K g_t t_raised r_1.1 t_reached t_length t_begin t_sort t_value t_word t_wrongAt t_badAt t_bad t_read t_pictured t_x t_all r_1.2)) hP hD hS C0.2.2.1 [0, 1, 2] [] [0, 1, 2] rfl rfl (by decide) (by decide) rfl (by decide) (va_runV (As := []) (rest := []) C0.1 (c_X11_keeps l D K g_t t_raised t_undos t_reached t_length t_begin t_sort t_value t_word t_wrongAt t_badAt t_bad t_read t_pictured t_x t_all t_undone r_1 hc_2 H.size) (cwV 0 hts gX11_gap_X11_keeps rfl rfl rfl (by decide +kernel) ⟨Nat.le_of_ble_eq_true rfl, Nat.le_of_ble_eq_true rfl⟩) (xp_V C0.2 hP hD hS [0, 1, 2] rfl (by decide) 10 0 rfl rfl rfl) rfl rfl hl.1 rfl (lv_room (Nat.le_of_ble_eq_true rfl)) dX11_gap_44 ⟨Nat.le_of_ble_eq_true rfl, Nat.le_of_ble_eq_true rfl⟩) (fun H locs hP hD hS => ?_)
  refine lv_iload_n hx hb dX11_gap_47 rfl (lv_at hl 2 rfl) ?_
  refine lv_if_ne (tgt := 66) hx hb dX11_gap_48 (by decide) (fun c_3 => ?_) (fun c_3 => ?_)
  · have hF := it_neg c_3 hF
    refine lv_iconst (v := 0) hx hb dX11_gap_66 (by decide) ?_
    refine lv_istore_n (lv' := [(3, .int (0 : Int32)), (0, .ref (g_t 0)), (1, .int x1), (2, .int x2)]) hx hb dX11_gap_67 rfl hl (by decide) rfl (fun ls hl => ?_)
    refine lv_iconst (v := 0) hx hb dX11_gap_68 (by decide) ?_
    refine lv_istore (lv' := [(4, .int (0 : Int32)), (3, .int (0 : Int32)), (0, .ref (g_t 0)), (1, .int x1), (2, .int x2)]) hx hb dX11_gap_69 hl (by decide) rfl (fun ls hl => ?_)
    exact w_X11_gap_71 C0 HR fu_ t_raised r_1.1 t_all r_1.2 x1 (0 : Int32) (0 : Int32) H locs ls hP hD hS (lv_sub hl [2, 3, 1, 0] rfl) hF
  · have hF := it_pos c_3 hF
    refine lv_aload_n hx hb dX11_gap_51 rfl (lv_at hl 0 rfl) ?_
    refine va_get (D := D) (ci := 10) (v := .ref (g_t 2)) (C := RX11) (T := TX11) (N := 30) hx hb hts iw_X11_gap_X11 hown hK hP 0 rfl rfl 1 (by decide) (hts _ fl_X11_gap_7) (fun _ h9 => h9) rfl dX11_gap_52 ?_
    refine lv_iload_n hx hb dX11_gap_55 rfl (lv_at hl 1 rfl) ?_
    obtain ⟨r_4, hc_5, hF⟩ := bn_some hF
    refine xc_v (wn := (w_X11_gap K g_t t_raised r_1.1 t_reached t_length t_begin t_sort t_value t_word t_wrongAt t_badAt t_bad t_read t_pictured t_x r_4 r_1.2)) hP hD hS C0.2.2.1 [1] [0, 2] [0, 2, 1] rfl rfl (by decide) (by decide) rfl (by decide) (va_runS (As := [.ref (g_t 2), .int x1]) (rest := []) C0.1 (c_X11_putsGap l D K (g_t 2) 500 t_all x1 r_4 hc_5 H.size) (va_cwS 2 hts gX11_gap_X11_putsGap rfl rfl rfl (by decide +kernel) ⟨Nat.le_of_ble_eq_true rfl, Nat.le_of_ble_eq_true rfl⟩) (xp_S C0.2 hP hD hS [1] rfl (by decide)) rfl rfl hl.1 rfl (lv_room (Nat.le_of_ble_eq_true rfl)) dX11_gap_56 ⟨Nat.le_of_ble_eq_true rfl, Nat.le_of_ble_eq_true rfl⟩) (fun H locs hP hD hS => ?_)
    refine lv_aload_n hx hb dX11_gap_59 rfl (lv_at hl 0 rfl) ?_
    refine va_get (D := D) (ci := 10) (v := .ref (g_t 2)) (C := RX11) (T := TX11) (N := 30) hx hb hts iw_X11_gap_X11 hown hK hP 0 rfl rfl 1 (by decide) (hts _ fl_X11_gap_7) (fun _ h9 => h9) rfl dX11_gap_60 ?_
    refine lv_iconst (v := 0) hx hb dX11_gap_63 (by decide) ?_
    refine xl_i (f := r_4) hx hb hK hP 1 0 rfl rfl (k := 0) (by decide) (in_v (by decide)) dX11_gap_64 ?_
    obtain rfl := Option.some.inj hF
    exact HR 65 H locs ls dX11_gap_65 hP hD hS
def F_X11_gap (t_raised : Int32) (t_undos : Int32) (t_all : Nat → Int32) (t_undone : Nat → Int32) (x1 : Int32) (x2 : Int32) : Option (Int32 × Int32 × Int32 × (Nat → Int32) × (Nat → Int32)) :=
  (F_X11_in x1 (4 : Int32) (60 : Int32)).bind fun r_1 => (if r_1 = (0 : Int32) then (some ((-1 : Int32), (0 : Int32), t_undos, t_all, t_undone)) else ((F_X11_hasGap t_all 500 x1).bind fun r_4 => (if r_4 = x2 then (if x2 = (0 : Int32) then (if (t_all 0) = (5 : Int32) then (some ((-1 : Int32), (0 : Int32), t_undos, t_all, t_undone)) else (J_X11_gap_43 (0 : Int32) t_undos t_all t_undone x1 x2)) else (J_X11_gap_43 (0 : Int32) t_undos t_all t_undone x1 x2)) else (some ((-1 : Int32), (0 : Int32), t_undos, t_all, t_undone)))))
set_option maxHeartbeats 4000000 in
set_option maxRecDepth 100000 in
theorem c_X11_gap (l : Launch) (D : va_G) (K : Nat → ClassId) (g_t : Nat → Nat) (t_raised : Int32) (t_undos : Int32) (t_reached : Int32) (t_length : Int32) (t_begin : Int32) (t_sort : Int32) (t_value : Int32) (t_word : Int64) (t_wrongAt : Int32) (t_badAt : Int32) (t_bad : Int32) (t_read : Int32) (t_pictured : Int32) (t_x : Int32) (t_all : Nat → Int32) (t_undone : Nat → Int32) (x1 : Int32) (x2 : Int32) (res : Int32 × Int32 × Int32 × (Nat → Int32) × (Nat → Int32)) (hF : F_X11_gap t_raised t_undos t_all t_undone x1 x2 = some res) :
    Mi_ l yX11_gap wsX11_gap rmX11_gap D K [.ref (g_t 0), .int x1, .int x2] (w_X11_gap K g_t t_raised t_undos t_reached t_length t_begin t_sort t_value t_word t_wrongAt t_badAt t_bad t_read t_pictured t_x t_all t_undone) (w_X11_gap K g_t res.2.1 res.2.2.1 t_reached t_length t_begin t_sort t_value t_word t_wrongAt t_badAt t_bad t_read t_pictured t_x res.2.2.2.1 res.2.2.2.2) (res.1) := by
  refine en_i (cc := cX11_gap) (maxL := 5) (own := RX11) (by decide) rfl rfl (Nat.le_of_ble_eq_true rfl) ?_
  intro p e s m args below meth c A Q H locs ls C0 hP hD hS hl HR
  obtain ⟨⟨hx, hb, hml, hown, hts⟩, hK, -⟩ := id C0
  have hl : lv_has ls 5 [(0, .ref (g_t 0)), (1, .int x1), (2, .int x2)] := hl
  unfold F_X11_gap at hF
  refine lv_aload_n hx hb dX11_gap_0 rfl (lv_at hl 0 rfl) ?_
  refine lv_iconst (v := 0) hx hb dX11_gap_1 (by decide) ?_
  refine va_put (D := D) (ci := 10) (v := .int (0 : Int32)) (ty := .int) (C := RX11) (T := TX11) (N := 30) hx hb hts iw_X11_gap_X11 tyX11 tyX11_ok nmX11 hown hK hP hD hS 0 rfl rfl 0 (by decide) (hts _ fl_X11_gap_66) (fun _ h9 => h9) rfl (by decide +kernel) rfl rfl (Nat.le_of_ble_eq_true rfl) dX11_gap_2 (fun H locs hP hD hS => ?_)
  have hP : va_P D vwCl (w_X11_gap K g_t (0 : Int32) t_undos t_reached t_length t_begin t_sort t_value t_word t_wrongAt t_badAt t_bad t_read t_pictured t_x t_all t_undone) H := hP
  have hD : va_D A (w_X11_gap K g_t (0 : Int32) t_undos t_reached t_length t_begin t_sort t_value t_word t_wrongAt t_badAt t_bad t_read t_pictured t_x t_all t_undone) := hD
  refine lv_iload_n hx hb dX11_gap_5 rfl (lv_at hl 1 rfl) ?_
  refine lv_iconst (v := 4) hx hb dX11_gap_6 (by decide) ?_
  refine lv_bipush (v := 60) hx hb dX11_gap_7 (by decide) ?_
  obtain ⟨r_1, hc_2, hF⟩ := bn_some hF
  refine xc_i (wn := (w_X11_gap K g_t (0 : Int32) t_undos t_reached t_length t_begin t_sort t_value t_word t_wrongAt t_badAt t_bad t_read t_pictured t_x t_all t_undone)) hP hD hS C0.2.2.1 [] [0, 1, 2] [0, 1, 2] rfl rfl (by decide) (by decide) rfl (by decide) (va_runS (As := [.int x1, .int (4 : Int32), .int (60 : Int32)]) (rest := []) C0.1 (c_X11_in l D K x1 (4 : Int32) (60 : Int32) r_1 hc_2 H.size) (va_cwS 3 hts gX11_gap_X11_in rfl rfl rfl (by decide +kernel) ⟨Nat.le_of_ble_eq_true rfl, Nat.le_of_ble_eq_true rfl⟩) (xp_S C0.2 hP hD hS [] rfl (by decide)) rfl rfl hl.1 rfl (lv_room (Nat.le_of_ble_eq_true rfl)) dX11_gap_9 ⟨Nat.le_of_ble_eq_true rfl, Nat.le_of_ble_eq_true rfl⟩) (fun H locs hP hD hS => ?_)
  refine lv_if_eq (tgt := 41) hx hb dX11_gap_12 (by decide) (fun c_3 => ?_) (fun c_3 => ?_)
  · have hF := it_pos c_3 hF
    refine lv_iconst (v := (-1)) hx hb dX11_gap_41 (by decide) ?_
    obtain rfl := Option.some.inj hF
    exact HR 42 H locs ls dX11_gap_42 hP hD hS
  · have hF := it_neg c_3 hF
    refine lv_aload_n hx hb dX11_gap_15 rfl (lv_at hl 0 rfl) ?_
    refine va_get (D := D) (ci := 10) (v := .ref (g_t 2)) (C := RX11) (T := TX11) (N := 30) hx hb hts iw_X11_gap_X11 hown hK hP 0 rfl rfl 1 (by decide) (hts _ fl_X11_gap_7) (fun _ h9 => h9) rfl dX11_gap_16 ?_
    refine lv_iload_n hx hb dX11_gap_19 rfl (lv_at hl 1 rfl) ?_
    obtain ⟨r_4, hc_5, hF⟩ := bn_some hF
    refine xc_i (wn := (w_X11_gap K g_t (0 : Int32) t_undos t_reached t_length t_begin t_sort t_value t_word t_wrongAt t_badAt t_bad t_read t_pictured t_x t_all t_undone)) hP hD hS C0.2.2.1 [1] [0, 2] [0, 2, 1] rfl rfl (by decide) (by decide) rfl (by decide) (va_runS (As := [.ref (g_t 2), .int x1]) (rest := []) C0.1 (c_X11_hasGap l D K (g_t 2) 500 t_all x1 r_4 hc_5 H.size) (va_cwS 2 hts gX11_gap_X11_hasGap rfl rfl rfl (by decide +kernel) ⟨Nat.le_of_ble_eq_true rfl, Nat.le_of_ble_eq_true rfl⟩) (xp_S C0.2 hP hD hS [1] rfl (by decide)) rfl rfl hl.1 rfl (lv_room (Nat.le_of_ble_eq_true rfl)) dX11_gap_20 ⟨Nat.le_of_ble_eq_true rfl, Nat.le_of_ble_eq_true rfl⟩) (fun H locs hP hD hS => ?_)
    refine lv_iload_n hx hb dX11_gap_23 rfl (lv_at hl 2 rfl) ?_
    refine lv_icmp_ne (tgt := 41) hx hb dX11_gap_24 (by decide) (fun c_6 => ?_) (fun c_6 => ?_)
    · have hF := it_neg c_6 hF
      refine lv_iconst (v := (-1)) hx hb dX11_gap_41 (by decide) ?_
      obtain rfl := Option.some.inj hF
      exact HR 42 H locs ls dX11_gap_42 hP hD hS
    · have hF := it_pos c_6 hF
      refine lv_iload_n hx hb dX11_gap_27 rfl (lv_at hl 2 rfl) ?_
      refine lv_if_ne (tgt := 43) hx hb dX11_gap_28 (by decide) (fun c_7 => ?_) (fun c_7 => ?_)
      · have hF := it_neg c_7 hF
        exact w_X11_gap_43 C0 HR (0 : Int32) t_undos t_all t_undone x1 x2 H locs ls hP hD hS (lv_sub hl [0, 1, 2] rfl) hF
      · have hF := it_pos c_7 hF
        refine lv_aload_n hx hb dX11_gap_31 rfl (lv_at hl 0 rfl) ?_
        refine va_get (D := D) (ci := 10) (v := .ref (g_t 2)) (C := RX11) (T := TX11) (N := 30) hx hb hts iw_X11_gap_X11 hown hK hP 0 rfl rfl 1 (by decide) (hts _ fl_X11_gap_7) (fun _ h9 => h9) rfl dX11_gap_32 ?_
        refine lv_iconst (v := 0) hx hb dX11_gap_35 (by decide) ?_
        refine xl_i (f := t_all) hx hb hK hP 1 0 rfl rfl (k := 0) (by decide) (in_v (by decide)) dX11_gap_36 ?_
        refine lv_iconst (v := 5) hx hb dX11_gap_37 (by decide) ?_
        refine lv_icmp_ne (tgt := 43) hx hb dX11_gap_38 (by decide) (fun c_8 => ?_) (fun c_8 => ?_)
        · have hF := it_neg c_8 hF
          exact w_X11_gap_43 C0 HR (0 : Int32) t_undos t_all t_undone x1 x2 H locs ls hP hD hS (lv_sub hl [0, 1, 2] rfl) hF
        · have hF := it_pos c_8 hF
          refine lv_iconst (v := (-1)) hx hb dX11_gap_41 (by decide) ?_
          obtain rfl := Option.some.inj hF
          exact HR 42 H locs ls dX11_gap_42 hP hD hS
