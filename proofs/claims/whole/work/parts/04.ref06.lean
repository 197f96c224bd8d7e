/-! StaggerRadarModel.goesOn()Z -/
abbrev rmX11_goesOn : Room := { frames := 1, cells := 0, slots := 0, locals := 22 }
theorem fl_X11_goesOn_7 : Cond.fieldLink RX11 7 "StaggerRadarModel" "all" "[I" ∈ wsX11_goesOn := by decide +kernel
theorem fl_X11_goesOn_42 : Cond.fieldLink RX11 42 "StaggerRadarModel" "which" "[I" ∈ wsX11_goesOn := by decide +kernel
theorem iw_X11_goesOn_X11 : ∀ w ∈ u_ws RX11 TX11 30, w ∈ wsX11_goesOn := by decide +kernel
abbrev w_X11_goesOn (K : Nat → ClassId) (g_t : Nat → Nat) (t_raised : Int32) (t_undos : Int32) (t_reached : Int32) (t_length : Int32) (t_begin : Int32) (t_sort : Int32) (t_value : Int32) (t_word : Int64) (t_wrongAt : Int32) (t_badAt : Int32) (t_bad : Int32) (t_read : Int32) (t_pictured : Int32) (t_x : Int32) (t_all : Nat → Int32) (t_which : Nat → Int32) : va_W := [((g_t 0), .inr (10, [.int t_raised, .ref (g_t 2), .ref (g_t 3), .ref (g_t 4), .ref (g_t 5), .int t_undos, .int t_reached, .int t_length, .int t_begin, .int t_sort, .int t_value, .long t_word, .int t_wrongAt, .int t_badAt, .int t_bad, .ref (g_t 16), .int t_read, .ref (g_t 18), .ref (g_t 19), .ref (g_t 20), .int t_pictured, .ref (g_t 22), .ref (g_t 23), .ref (g_t 24), .ref (g_t 25), .ref (g_t 26), .int t_x, .ref (g_t 28), .ref (g_t 29), .ref (g_t 30)])), ((g_t 2), .inl (K 0, 500, .inl t_all)), ((g_t 24), .inl (K 0, 4, .inl t_which))]
def L_X11_goesOn_10 (t_all : Nat → Int32) : Nat → (Nat → Int32) → Int32 → Option (Int32 × (Nat → Int32))
  | 0, _, _ => none
  | n_ + 1, t_which, x1 =>
    if x1 < (0 : Int32) then (some ((0 : Int32), t_which)) else (gd_ (in_b x1 4) (gd_ (in_b x1 4) (gd_ (in_b x1 4) ((F_X11_lookAt t_all x1 (1 : Int32)).bind fun r_5 => (if r_5 ≤ ((upd t_which (x1).toNatClampNeg ((t_which (x1).toNatClampNeg) + (1 : Int32))) (x1).toNatClampNeg) then (gd_ (in_b x1 4) (L_X11_goesOn_10 t_all n_ (upd (upd t_which (x1).toNatClampNeg ((t_which (x1).toNatClampNeg) + (1 : Int32))) (x1).toNatClampNeg (0 : Int32)) (x1 + (-1 : Int32)))) else (some ((1 : Int32), (upd t_which (x1).toNatClampNeg ((t_which (x1).toNatClampNeg) + (1 : Int32))))))))))
set_option maxHeartbeats 4000000 in
set_option maxRecDepth 100000 in
theorem w_X11_goesOn_10 {p : Program} {l : Launch} {e : Env} {s : State} {m : MethodId} {args : Array Value} {below : List Frame} {meth : Method} {c : Code} {D : va_G} {K : Nat → ClassId} {A : Nat → Prop} {Q : State → Prop} (C0 : cx_ p s m args c cX11_goesOn 2 RX11 wsX11_goesOn D K A) {g_t : Nat → Nat} {t_raised : Int32} {t_undos : Int32} {t_reached : Int32} {t_length : Int32} {t_begin : Int32} {t_sort : Int32} {t_value : Int32} {t_word : Int64} {t_wrongAt : Int32} {t_badAt : Int32} {t_bad : Int32} {t_read : Int32} {t_pictured : Int32} {t_x : Int32} {t_all : Nat → Int32} {res : Int32 × (Nat → Int32)} (HR : ∀ (pc : Nat) (H : Heap) (locs : List Loc) (ls : Array Slot), decode cX11_goesOn pc = .ok (.ireturn, 1) → narrow .boolean (.int res.1) = .int res.1 → va_P D vwCl (w_X11_goesOn K g_t t_raised t_undos t_reached t_length t_begin t_sort t_value t_word t_wrongAt t_badAt t_bad t_read t_pictured t_x t_all res.2) H → va_D A (w_X11_goesOn K g_t t_raised t_undos t_reached t_length t_begin t_sort t_value t_word t_wrongAt t_badAt t_bad t_read t_pictured t_x t_all res.2) → va_S A s.heap H locs → W p l e rmX11_goesOn s m args below meth c H locs 0 0 Q (F0 m pc ls [.int res.1]))  :
    ∀ (n_ : Nat) (t_which : Nat → Int32) (x1 : Int32) (H : Heap) (locs : List Loc) (ls : Array Slot), va_P D vwCl (w_X11_goesOn K g_t t_raised t_undos t_reached t_length t_begin t_sort t_value t_word t_wrongAt t_badAt t_bad t_read t_pictured t_x t_all t_which) H → va_D A (w_X11_goesOn K g_t t_raised t_undos t_reached t_length t_begin t_sort t_value t_word t_wrongAt t_badAt t_bad t_read t_pictured t_x t_all t_which) → va_S A s.heap H locs → lv_has ls 2 [(0, .ref (g_t 0)), (1, .int x1)] → L_X11_goesOn_10 t_all n_ t_which x1 = some res → W p l e rmX11_goesOn s m args below meth c H locs 0 0 Q (F0 m 10 ls []) := by
  obtain ⟨⟨hx, hb, hml, hown, hts⟩, hK, -⟩ := id C0
  intro n_
  induction n_ with
  | zero =>
    intro t_which x1 H locs ls hP hD hS hl hF
    exact no_s (show (none : Option (Int32 × (Nat → Int32))) = some res from hF)
  | succ n_ ih =>
    intro t_which x1 H locs ls hP hD hS hl hF
    rw [L_X11_goesOn_10] at hF
    refine lv_iload_n hx hb dX11_goesOn_10 rfl (lv_at hl 1 rfl) ?_
    refine lv_if_lt (tgt := 54) hx hb dX11_goesOn_11 (by decide) (fun c_1 => ?_) (fun c_1 => ?_)
    · have hF := it_pos c_1 hF
      refine lv_iconst (v := 0) hx hb dX11_goesOn_54 (by decide) ?_
      obtain rfl := Option.some.inj hF
      exact HR 55 H locs ls dX11_goesOn_55 narrow_b0 hP hD hS
    · have hF := it_neg c_1 hF
      refine lv_aload_n hx hb dX11_goesOn_14 rfl (lv_at hl 0 rfl) ?_
      refine va_get (D := D) (ci := 10) (v := .ref (g_t 24)) (C := RX11) (T := TX11) (N := 30) hx hb hts iw_X11_goesOn_X11 hown hK hP 0 rfl rfl 23 (by decide) (hts _ fl_X11_goesOn_42) (fun _ h9 => h9) rfl dX11_goesOn_15 ?_
      refine lv_iload_n hx hb dX11_goesOn_18 rfl (lv_at hl 1 rfl) ?_
      refine lv_dup2_11 hx hb dX11_goesOn_19 rfl rfl ?_
      obtain ⟨hg_2, hF⟩ := gd_some hF
      refine xl_i (f := t_which) hx hb hK hP 2 0 rfl rfl rfl (in_v hg_2) dX11_goesOn_20 ?_
      refine lv_iconst (v := 1) hx hb dX11_goesOn_21 (by decide) ?_
      refine lv_iadd hx hb dX11_goesOn_22 ?_
      obtain ⟨hg_3, hF⟩ := gd_some hF
      refine xs_i (f := t_which) hx hb hK hP hD hS 2 0 rfl rfl rfl (in_v hg_3) dX11_goesOn_23 (fun H locs hP hD hS => ?_)
      have hP : va_P D vwCl (w_X11_goesOn K g_t t_raised t_undos t_reached t_length t_begin t_sort t_value t_word t_wrongAt t_badAt t_bad t_read t_pictured t_x t_all (upd t_which (x1).toNatClampNeg ((t_which (x1).toNatClampNeg) + (1 : Int32)))) H := hP
      have hD : va_D A (w_X11_goesOn K g_t t_raised t_undos t_reached t_length t_begin t_sort t_value t_word t_wrongAt t_badAt t_bad t_read t_pictured t_x t_all (upd t_which (x1).toNatClampNeg ((t_which (x1).toNatClampNeg) + (1 : Int32)))) := hD
      refine lv_aload_n hx hb dX11_goesOn_24 rfl (lv_at hl 0 rfl) ?_
      refine va_get (D := D) (ci := 10) (v := .ref (g_t 24)) (C := RX11) (T := TX11) (N := 30) hx hb hts iw_X11_goesOn_X11 hown hK hP 0 rfl rfl 23 (by decide) (hts _ fl_X11_goesOn_42) (fun _ h9 => h9) rfl dX11_goesOn_25 ?_
      refine lv_iload_n hx hb dX11_goesOn_28 rfl (lv_at hl 1 rfl) ?_
      obtain ⟨hg_4, hF⟩ := gd_some hF
      refine xl_i (f := (upd t_which (x1).toNatClampNeg ((t_which (x1).toNatClampNeg) + (1 : Int32)))) hx hb hK hP 2 0 rfl rfl rfl (in_v hg_4) dX11_goesOn_29 ?_
      refine lv_aload_n hx hb dX11_goesOn_30 rfl (lv_at hl 0 rfl) ?_
      refine lv_iload_n hx hb dX11_goesOn_31 rfl (lv_at hl 1 rfl) ?_
      refine lv_iconst (v := 1) hx hb dX11_goesOn_32 (by decide) ?_
      obtain ⟨r_5, hc_6, hF⟩ := bn_some hF
      refine xc_i (wn := (w_X11_goesOn K g_t t_raised t_undos t_reached t_length t_begin t_sort t_value t_word t_wrongAt t_badAt t_bad t_read t_pictured t_x t_all (upd t_which (x1).toNatClampNeg ((t_which (x1).toNatClampNeg) + (1 : Int32))))) hP hD hS C0.2.2.1 [0, 1] [2] [1, 2, 0] rfl rfl (by decide) (by decide) rfl (by decide) (va_runV (As := [.int x1, .int (1 : Int32)]) (rest := [.int ((upd t_which (x1).toNatClampNeg ((t_which (x1).toNatClampNeg) + (1 : Int32))) (x1).toNatClampNeg)]) C0.1 (c_X11_lookAt l D K g_t t_raised t_undos t_reached t_length t_begin t_sort t_value t_word t_wrongAt t_badAt t_bad t_read t_pictured t_x t_all x1 (1 : Int32) r_5 hc_6 H.size) (cwV 2 hts gX11_goesOn_X11_lookAt rfl rfl rfl (by decide +kernel) ⟨Nat.le_of_ble_eq_true rfl, Nat.le_of_ble_eq_true rfl⟩) (xp_V C0.2 hP hD hS [0, 1] rfl (by decide) 10 0 rfl rfl rfl) rfl rfl hl.1 rfl (lv_room (Nat.le_of_ble_eq_true rfl)) dX11_goesOn_33 ⟨Nat.le_of_ble_eq_true rfl, Nat.le_of_ble_eq_true rfl⟩) (fun H locs hP hD hS => ?_)
      refine lv_icmp_ge (tgt := 41) hx hb dX11_goesOn_36 (by decide) (fun c_7 => ?_) (fun c_7 => ?_)
      · have hF := it_pos c_7 hF
        refine lv_aload_n hx hb dX11_goesOn_41 rfl (lv_at hl 0 rfl) ?_
        refine va_get (D := D) (ci := 10) (v := .ref (g_t 24)) (C := RX11) (T := TX11) (N := 30) hx hb hts iw_X11_goesOn_X11 hown hK hP 0 rfl rfl 23 (by decide) (hts _ fl_X11_goesOn_42) (fun _ h9 => h9) rfl dX11_goesOn_42 ?_
        refine lv_iload_n hx hb dX11_goesOn_45 rfl (lv_at hl 1 rfl) ?_
        refine lv_iconst (v := 0) hx hb dX11_goesOn_46 (by decide) ?_
        obtain ⟨hg_8, hF⟩ := gd_some hF
        refine xs_i (f := (upd t_which (x1).toNatClampNeg ((t_which (x1).toNatClampNeg) + (1 : Int32)))) hx hb hK hP hD hS 2 0 rfl rfl rfl (in_v hg_8) dX11_goesOn_47 (fun H locs hP hD hS => ?_)
        have hP : va_P D vwCl (w_X11_goesOn K g_t t_raised t_undos t_reached t_length t_begin t_sort t_value t_word t_wrongAt t_badAt t_bad t_read t_pictured t_x t_all (upd (upd t_which (x1).toNatClampNeg ((t_which (x1).toNatClampNeg) + (1 : Int32))) (x1).toNatClampNeg (0 : Int32))) H := hP
        have hD : va_D A (w_X11_goesOn K g_t t_raised t_undos t_reached t_length t_begin t_sort t_value t_word t_wrongAt t_badAt t_bad t_read t_pictured t_x t_all (upd (upd t_which (x1).toNatClampNeg ((t_which (x1).toNatClampNeg) + (1 : Int32))) (x1).toNatClampNeg (0 : Int32))) := hD
        refine lv_iinc (v := (x1 + (-1 : Int32))) (lv' := [(1, .int (x1 + (-1 : Int32))), (0, .ref (g_t 0))]) hx hb dX11_goesOn_48 hl (k := 1) rfl (congrArg (fun z => x1 + z) (by decide)) (by decide) rfl (fun ls hl => ?_)
        refine lv_goto (tgt := 10) hx hb dX11_goesOn_51 (by decide) ?_
        exact ih (upd (upd t_which (x1).toNatClampNeg ((t_which (x1).toNatClampNeg) + (1 : Int32))) (x1).toNatClampNeg (0 : Int32)) (x1 + (-1 : Int32)) H locs ls hP hD hS (lv_sub hl [1, 0] rfl) hF
      · have hF := it_neg c_7 hF
        refine lv_iconst (v := 1) hx hb dX11_goesOn_39 (by decide) ?_
        obtain rfl := Option.some.inj hF
        exact HR 40 H locs ls dX11_goesOn_40 narrow_b1 hP hD hS
def F_X11_goesOn (t_all : Nat → Int32) (t_which : Nat → Int32) : Option (Int32 × (Nat → Int32)) :=
  L_X11_goesOn_10 t_all fu_ t_which ((t_all 40) - (1 : Int32))
set_option maxHeartbeats 4000000 in
set_option maxRecDepth 100000 in
theorem c_X11_goesOn (l : Launch) (D : va_G) (K : Nat → ClassId) (g_t : Nat → Nat) (t_raised : Int32) (t_undos : Int32) (t_reached : Int32) (t_length : Int32) (t_begin : Int32) (t_sort : Int32) (t_value : Int32) (t_word : Int64) (t_wrongAt : Int32) (t_badAt : Int32) (t_bad : Int32) (t_read : Int32) (t_pictured : Int32) (t_x : Int32) (t_all : Nat → Int32) (t_which : Nat → Int32) (res : Int32 × (Nat → Int32)) (hF : F_X11_goesOn t_all t_which = some res) :
    Mi_ l yX11_goesOn wsX11_goesOn rmX11_goesOn D K [.ref (g_t 0)] (w_X11_goesOn K g_t t_raised t_undos t_reached t_length t_begin t_sort t_value t_word t_wrongAt t_badAt t_bad t_read t_pictured t_x t_all t_which) (w_X11_goesOn K g_t t_raised t_undos t_reached t_length t_begin t_sort t_value t_word t_wrongAt t_badAt t_bad t_read t_pictured t_x t_all res.2) (res.1) := by
  refine en_z (cc := cX11_goesOn) (maxL := 2) (own := RX11) (by decide) rfl rfl (Nat.le_of_ble_eq_true rfl) ?_
  intro p e s m args below meth c A Q H locs ls C0 hP hD hS hl HR
  obtain ⟨⟨hx, hb, hml, hown, hts⟩, hK, -⟩ := id C0
  have hl : lv_has ls 2 [(0, .ref (g_t 0))] := hl
  unfold F_X11_goesOn at hF
  refine lv_aload_n hx hb dX11_goesOn_0 rfl (lv_at hl 0 rfl) ?_
  refine va_get (D := D) (ci := 10) (v := .ref (g_t 2)) (C := RX11) (T := TX11) (N := 30) hx hb hts iw_X11_goesOn_X11 hown hK hP 0 rfl rfl 1 (by decide) (hts _ fl_X11_goesOn_7) (fun _ h9 => h9) rfl dX11_goesOn_1 ?_
  refine lv_bipush (v := 40) hx hb dX11_goesOn_4 (by decide) ?_
  refine xl_i (f := t_all) hx hb hK hP 1 0 rfl rfl (k := 40) (by decide) (in_v (by decide)) dX11_goesOn_6 ?_
  refine lv_iconst (v := 1) hx hb dX11_goesOn_7 (by decide) ?_
  refine lv_isub hx hb dX11_goesOn_8 ?_
  refine lv_istore_n (lv' := [(1, .int ((t_all 40) - (1 : Int32))), (0, .ref (g_t 0))]) hx hb dX11_goesOn_9 rfl hl (by decide) rfl (fun ls hl => ?_)
  exact w_X11_goesOn_10 C0 HR fu_ t_which ((t_all 40) - (1 : Int32)) H locs ls hP hD hS (lv_sub hl [1, 0] rfl) hF

/-! StaggerRadarModel.moves(I)I -/
abbrev rmX11_moves : Room := { frames := 1, cells := 0, slots := 0, locals := 22 }
theorem fl_X11_moves_7 : Cond.fieldLink RX11 7 "StaggerRadarModel" "all" "[I" ∈ wsX11_moves := by decide +kernel
theorem ld_X11_moves_195 : Cond.constant RX11 195 (47999) ∈ wsX11_moves := by decide +kernel
theorem iw_X11_moves_X11 : ∀ w ∈ u_ws RX11 TX11 30, w ∈ wsX11_moves := by decide +kernel
abbrev w_X11_moves (K : Nat → ClassId) (g_t : Nat → Nat) (t_raised : Int32) (t_undos : Int32) (t_reached : Int32) (t_length : Int32) (t_begin : Int32) (t_sort : Int32) (t_value : Int32) (t_word : Int64) (t_wrongAt : Int32) (t_badAt : Int32) (t_bad : Int32) (t_read : Int32) (t_pictured : Int32) (t_x : Int32) (t_all : Nat → Int32) : va_W := [((g_t 0), .inr (10, [.int t_raised, .ref (g_t 2), .ref (g_t 3), .ref (g_t 4), .ref (g_t 5), .int t_undos, .int t_reached, .int t_length, .int t_begin, .int t_sort, .int t_value, .long t_word, .int t_wrongAt, .int t_badAt, .int t_bad, .ref (g_t 16), .int t_read, .ref (g_t 18), .ref (g_t 19), .ref (g_t 20), .int t_pictured, .ref (g_t 22), .ref (g_t 23), .ref (g_t 24), .ref (g_t 25), .ref (g_t 26), .int t_x, .ref (g_t 28), .ref (g_t 29), .ref (g_t 30)])), ((g_t 2), .inl (K 0, 500, .inl t_all))]
def L_X11_moves_12  : Nat → (Nat → Int32) → Int32 → Int32 → Int32 → Option (Int32 × (Nat → Int32))
  | 0, _, _, _, _ => none
  | n_ + 1, t_all, x1, x2, x3 =>
    if x3 < (0 : Int32) then (some (x2, t_all)) else (gd_ (in_b (((14 : Int32) + ((3 : Int32) * x3)) + (0 : Int32)) 500) ((F_X11_of t_all x3 (1 : Int32)).bind fun r_3 => (gd_ (in_b (((14 : Int32) + ((3 : Int32) * x3)) + (0 : Int32)) 500) ((F_X11_of (upd t_all (((14 : Int32) + ((3 : Int32) * x3)) + (0 : Int32)).toNatClampNeg ((t_all (((14 : Int32) + ((3 : Int32) * x3)) + (0 : Int32)).toNatClampNeg) + (x1 * r_3))) x3 (0 : Int32)).bind fun r_6 => ((F_X11_in r_6 (0 : Int32) (47999 : Int32)).bind fun r_8 => (if r_8 = (0 : Int32) then ((F_X11_goes (upd t_all (((14 : Int32) + ((3 : Int32) * x3)) + (0 : Int32)).toNatClampNeg ((t_all (((14 : Int32) + ((3 : Int32) * x3)) + (0 : Int32)).toNatClampNeg) + (x1 * r_3))) x3).bind fun r_11 => (L_X11_moves_12 n_ r_11 x1 (x2 + (1 : Int32)) (x3 + (-1 : Int32)))) else (L_X11_moves_12 n_ (upd t_all (((14 : Int32) + ((3 : Int32) * x3)) + (0 : Int32)).toNatClampNeg ((t_all (((14 : Int32) + ((3 : Int32) * x3)) + (0 : Int32)).toNatClampNeg) + (x1 * r_3))) x1 x2 (x3 + (-1 : Int32)))))))))
set_option maxHeartbeats 4000000 in
set_option maxRecDepth 100000 in
theorem w_X11_moves_12 {p : Program} {l : Launch} {e : Env} {s : State} {m : MethodId} {args : Array Value} {below : List Frame} {meth : Method} {c : Code} {D : va_G} {K : Nat → ClassId} {A : Nat → Prop} {Q : State → Prop} (C0 : cx_ p s m args c cX11_moves 4 RX11 wsX11_moves D K A) {g_t : Nat → Nat} {t_raised : Int32} {t_undos : Int32} {t_reached : Int32} {t_length : Int32} {t_begin : Int32} {t_sort : Int32} {t_value : Int32} {t_word : Int64} {t_wrongAt : Int32} {t_badAt : Int32} {t_bad : Int32} {t_read : Int32} {t_pictured : Int32} {t_x : Int32} {res : Int32 × (Nat → Int32)} (HR : ∀ (pc : Nat) (H : Heap) (locs : List Loc) (ls : Array Slot), decode cX11_moves pc = .ok (.ireturn, 1) → va_P D vwCl (w_X11_moves K g_t t_raised t_undos t_reached t_length t_begin t_sort t_value t_word t_wrongAt t_badAt t_bad t_read t_pictured t_x res.2) H → va_D A (w_X11_moves K g_t t_raised t_undos t_reached t_length t_begin t_sort t_value t_word t_wrongAt t_badAt t_bad t_read t_pictured t_x res.2) → va_S A s.heap H locs → W p l e rmX11_moves s m args below meth c H locs 0 0 Q (F0 m pc ls [.int res.1]))  :
    ∀ (n_ : Nat) (t_all : Nat → Int32) (x1 : Int32) (x2 : Int32) (x3 : Int32) (H : Heap) (locs : List Loc) (ls : Array Slot), va_P D vwCl (w_X11_moves K g_t t_raised t_undos t_reached t_length t_begin t_sort t_value t_word t_wrongAt t_badAt t_bad t_read t_pictured t_x t_all) H → va_D A (w_X11_moves K g_t t_raised t_undos t_reached t_length t_begin t_sort t_value t_word t_wrongAt t_badAt t_bad t_read t_pictured t_x t_all) → va_S A s.heap H locs → lv_has ls 4 [(0, .ref (g_t 0)), (1, .int x1), (2, .int x2), (3, .int x3)] → L_X11_moves_12 n_ t_all x1 x2 x3 = some res → W p l e rmX11_moves s m args below meth c H locs 0 0 Q (F0 m 12 ls []) := by
  obtain ⟨⟨hx, hb, hml, hown, hts⟩, hK, -⟩ := id C0
  intro n_
  induction n_ with
  | zero =>
    intro t_all x1 x2 x3 H locs ls hP hD hS hl hF
    exact no_s (show (none : Option (Int32 × (Nat → Int32))) = some res from hF)
  | succ n_ ih =>
    intro t_all x1 x2 x3 H locs ls hP hD hS hl hF
    rw [L_X11_moves_12] at hF
    refine lv_iload_n hx hb dX11_moves_12 rfl (lv_at hl 3 rfl) ?_
    refine lv_if_lt (tgt := 69) hx hb dX11_moves_13 (by decide) (fun c_1 => ?_) (fun c_1 => ?_)
    · have hF := it_pos c_1 hF
      refine lv_iload_n hx hb dX11_moves_69 rfl (lv_at hl 2 rfl) ?_
      obtain rfl := Option.some.inj hF
      exact HR 70 H locs ls dX11_moves_70 hP hD hS
    · have hF := it_neg c_1 hF
      refine lv_aload_n hx hb dX11_moves_16 rfl (lv_at hl 0 rfl) ?_
      refine va_get (D := D) (ci := 10) (v := .ref (g_t 2)) (C := RX11) (T := TX11) (N := 30) hx hb hts iw_X11_moves_X11 hown hK hP 0 rfl rfl 1 (by decide) (hts _ fl_X11_moves_7) (fun _ h9 => h9) rfl dX11_moves_17 ?_
      refine lv_bipush (v := 14) hx hb dX11_moves_20 (by decide) ?_
      refine lv_iconst (v := 3) hx hb dX11_moves_22 (by decide) ?_
      refine lv_iload_n hx hb dX11_moves_23 rfl (lv_at hl 3 rfl) ?_
      refine lv_imul hx hb dX11_moves_24 ?_
      refine lv_iadd hx hb dX11_moves_25 ?_
      refine lv_iconst (v := 0) hx hb dX11_moves_26 (by decide) ?_
      refine lv_iadd hx hb dX11_moves_27 ?_
      refine lv_dup2_11 hx hb dX11_moves_28 rfl rfl ?_
      obtain ⟨hg_2, hF⟩ := gd_some hF
      refine xl_i (f := t_all) hx hb hK hP 1 0 rfl rfl rfl (in_v hg_2) dX11_moves_29 ?_
      refine lv_iload_n hx hb dX11_moves_30 rfl (lv_at hl 1 rfl) ?_
      refine lv_aload_n hx hb dX11_moves_31 rfl (lv_at hl 0 rfl) ?_
      refine lv_iload_n hx hb dX11_moves_32 rfl (lv_at hl 3 rfl) ?_
      refine lv_iconst (v := 1) hx hb dX11_moves_33 (by decide) ?_
      obtain ⟨r_3, hc_4, hF⟩ := bn_some hF
      refine xc_i (wn := (w_X11_moves K g_t t_raised t_undos t_reached t_length t_begin t_sort t_value t_word t_wrongAt t_badAt t_bad t_read t_pictured t_x t_all)) hP hD hS C0.2.2.1 [0, 1] [] [0, 1] rfl rfl (by decide) (by decide) rfl (by decide) (va_runV (As := [.int x3, .int (1 : Int32)]) (rest := [.int x1, .int (t_all (((14 : Int32) + ((3 : Int32) * x3)) + (0 : Int32)).toNatClampNeg), .int (((14 : Int32) + ((3 : Int32) * x3)) + (0 : Int32)), .ref (g_t 2)]) C0.1 (c_X11_of l D K g_t t_raised t_undos t_reached t_length t_begin t_sort t_value t_word t_wrongAt t_badAt t_bad t_read t_pictured t_x t_all x3 (1 : Int32) r_3 hc_4 H.size) (cwV 2 hts gX11_moves_X11_of rfl rfl rfl (by decide +kernel) ⟨Nat.le_of_ble_eq_true rfl, Nat.le_of_ble_eq_true rfl⟩) (xp_V C0.2 hP hD hS [0, 1] rfl (by decide) 10 0 rfl rfl rfl) rfl rfl hl.1 rfl (lv_room (Nat.le_of_ble_eq_true rfl)) dX11_moves_34 ⟨Nat.le_of_ble_eq_true rfl, Nat.le_of_ble_eq_true rfl⟩) (fun H locs hP hD hS => ?_)
      refine lv_imul hx hb dX11_moves_37 ?_
      refine lv_iadd hx hb dX11_moves_38 ?_
      obtain ⟨hg_5, hF⟩ := gd_some hF
      refine xs_i (f := t_all) hx hb hK hP hD hS 1 0 rfl rfl rfl (in_v hg_5) dX11_moves_39 (fun H locs hP hD hS => ?_)
      have hP : va_P D vwCl (w_X11_moves K g_t t_raised t_undos t_reached t_length t_begin t_sort t_value t_word t_wrongAt t_badAt t_bad t_read t_pictured t_x (upd t_all (((14 : Int32) + ((3 : Int32) * x3)) + (0 : Int32)).toNatClampNeg ((t_all (((14 : Int32) + ((3 : Int32) * x3)) + (0 : Int32)).toNatClampNeg) + (x1 * r_3)))) H := hP
      have hD : va_D A (w_X11_moves K g_t t_raised t_undos t_reached t_length t_begin t_sort t_value t_word t_wrongAt t_badAt t_bad t_read t_pictured t_x (upd t_all (((14 : Int32) + ((3 : Int32) * x3)) + (0 : Int32)).toNatClampNeg ((t_all (((14 : Int32) + ((3 : Int32) * x3)) + (0 : Int32)).toNatClampNeg) + (x1 * r_3)))) := hD
      refine lv_aload_n hx hb dX11_moves_40 rfl (lv_at hl 0 rfl) ?_
      refine lv_iload_n hx hb dX11_moves_41 rfl (lv_at hl 3 rfl) ?_
      refine lv_iconst (v := 0) hx hb dX11_moves_42 (by decide) ?_
      obtain ⟨r_6, hc_7, hF⟩ := bn_some hF
      refine xc_i (wn := (w_X11_moves K g_t t_raised t_undos t_reached t_length t_begin t_sort t_value t_word t_wrongAt t_badAt t_bad t_read t_pictured t_x (upd t_all (((14 : Int32) + ((3 : Int32) * x3)) + (0 : Int32)).toNatClampNeg ((t_all (((14 : Int32) + ((3 : Int32) * x3)) + (0 : Int32)).toNatClampNeg) + (x1 * r_3))))) hP hD hS C0.2.2.1 [0, 1] [] [0, 1] rfl rfl (by decide) (by decide) rfl (by decide) (va_runV (As := [.int x3, .int (0 : Int32)]) (rest := []) C0.1 (c_X11_of l D K g_t t_raised t_undos t_reached t_length t_begin t_sort t_value t_word t_wrongAt t_badAt t_bad t_read t_pictured t_x (upd t_all (((14 : Int32) + ((3 : Int32) * x3)) + (0 : Int32)).toNatClampNeg ((t_all (((14 : Int32) + ((3 : Int32) * x3)) + (0 : Int32)).toNatClampNeg) + (x1 * r_3))) x3 (0 : Int32) r_6 hc_7 H.size) (cwV 2 hts gX11_moves_X11_of rfl rfl rfl (by decide +kernel) ⟨Nat.le_of_ble_eq_true rfl, Nat.le_of_ble_eq_true rfl⟩) (xp_V C0.2 hP hD hS [0, 1] rfl (by decide) 10 0 rfl rfl rfl) rfl rfl hl.1 rfl (lv_room (Nat.le_of_ble_eq_true rfl)) dX11_moves_43 ⟨Nat.le_of_ble_eq_true rfl, Nat.le_of_ble_eq_true rfl⟩) (fun H locs hP hD hS => ?_)
      refine lv_iconst (v := 0) hx hb dX11_moves_46 (by decide) ?_
      refine lv_ldc (v := 47999) hx hb hown (hts _ ld_X11_moves_195) dX11_moves_47 ?_
      obtain ⟨r_8, hc_9, hF⟩ := bn_some hF
      refine xc_i (wn := (w_X11_moves K g_t t_raised t_undos t_reached t_length t_begin t_sort t_value t_word t_wrongAt t_badAt t_bad t_read t_pictured t_x (upd t_all (((14 : Int32) + ((3 : Int32) * x3)) + (0 : Int32)).toNatClampNeg ((t_all (((14 : Int32) + ((3 : Int32) * x3)) + (0 : Int32)).toNatClampNeg) + (x1 * r_3))))) hP hD hS C0.2.2.1 [] [0, 1] [0, 1] rfl rfl (by decide) (by decide) rfl (by decide) (va_runS (As := [.int r_6, .int (0 : Int32), .int (47999 : Int32)]) (rest := []) C0.1 (c_X11_in l D K r_6 (0 : Int32) (47999 : Int32) r_8 hc_9 H.size) (va_cwS 3 hts gX11_moves_X11_in rfl rfl rfl (by decide +kernel) ⟨Nat.le_of_ble_eq_true rfl, Nat.le_of_ble_eq_true rfl⟩) (xp_S C0.2 hP hD hS [] rfl (by decide)) rfl rfl hl.1 rfl (lv_room (Nat.le_of_ble_eq_true rfl)) dX11_moves_49 ⟨Nat.le_of_ble_eq_true rfl, Nat.le_of_ble_eq_true rfl⟩) (fun H locs hP hD hS => ?_)
      refine lv_if_ne (tgt := 63) hx hb dX11_moves_52 (by decide) (fun c_10 => ?_) (fun c_10 => ?_)
      · have hF := it_neg c_10 hF
        refine lv_iinc (v := (x3 + (-1 : Int32))) (lv' := [(3, .int (x3 + (-1 : Int32))), (0, .ref (g_t 0)), (1, .int x1), (2, .int x2)]) hx hb dX11_moves_63 hl (k := 3) rfl (congrArg (fun z => x3 + z) (by decide)) (by decide) rfl (fun ls hl => ?_)
        refine lv_goto (tgt := 12) hx hb dX11_moves_66 (by decide) ?_
        exact ih (upd t_all (((14 : Int32) + ((3 : Int32) * x3)) + (0 : Int32)).toNatClampNeg ((t_all (((14 : Int32) + ((3 : Int32) * x3)) + (0 : Int32)).toNatClampNeg) + (x1 * r_3))) x1 x2 (x3 + (-1 : Int32)) H locs ls hP hD hS (lv_sub hl [1, 2, 3, 0] rfl) hF
      · have hF := it_pos c_10 hF
        refine lv_aload_n hx hb dX11_moves_55 rfl (lv_at hl 0 rfl) ?_
        refine lv_iload_n hx hb dX11_moves_56 rfl (lv_at hl 3 rfl) ?_
        obtain ⟨r_11, hc_12, hF⟩ := bn_some hF
        refine xc_v (wn := (w_X11_moves K g_t t_raised t_undos t_reached t_length t_begin t_sort t_value t_word t_wrongAt t_badAt t_bad t_read t_pictured t_x r_11)) hP hD hS C0.2.2.1 [0, 1] [] [0, 1] rfl rfl (by decide) (by decide) rfl (by decide) (va_runV (As := [.int x3]) (rest := []) C0.1 (c_X11_goes l D K g_t t_raised t_undos t_reached t_length t_begin t_sort t_value t_word t_wrongAt t_badAt t_bad t_read t_pictured t_x (upd t_all (((14 : Int32) + ((3 : Int32) * x3)) + (0 : Int32)).toNatClampNeg ((t_all (((14 : Int32) + ((3 : Int32) * x3)) + (0 : Int32)).toNatClampNeg) + (x1 * r_3))) x3 r_11 hc_12 H.size) (cwV 1 hts gX11_moves_X11_goes rfl rfl rfl (by decide +kernel) ⟨Nat.le_of_ble_eq_true rfl, Nat.le_of_ble_eq_true rfl⟩) (xp_V C0.2 hP hD hS [0, 1] rfl (by decide) 10 0 rfl rfl rfl) rfl rfl hl.1 rfl (lv_room (Nat.le_of_ble_eq_true rfl)) dX11_moves_57 ⟨Nat.le_of_ble_eq_true rfl, Nat.le_of_ble_eq_true rfl⟩) (fun H locs hP hD hS => ?_)
        refine lv_iinc (v := (x2 + (1 : Int32))) (lv' := [(2, .int (x2 + (1 : Int32))), (0, .ref (g_t 0)), (1, .int x1), (3, .int x3)]) hx hb dX11_moves_60 hl (k := 2) rfl (congrArg (fun z => x2 + z) (by decide)) (by decide) rfl (fun ls hl => ?_)
        refine lv_iinc (v := (x3 + (-1 : Int32))) (lv' := [(3, .int (x3 + (-1 : Int32))), (2, .int (x2 + (1 : Int32))), (0, .ref (g_t 0)), (1, .int x1)]) hx hb dX11_moves_63 hl (k := 3) rfl (congrArg (fun z => x3 + z) (by decide)) (by decide) rfl (fun ls hl => ?_)
        refine lv_goto (tgt := 12) hx hb dX11_moves_66 (by decide) ?_
        exact ih r_11 x1 (x2 + (1 : Int32)) (x3 + (-1 : Int32)) H locs ls hP hD hS (lv_sub hl [2, 3, 1, 0] rfl) hF
def F_X11_moves (t_all : Nat → Int32) (x1 : Int32) : Option (Int32 × (Nat → Int32)) :=
  L_X11_moves_12 fu_ t_all x1 (0 : Int32) ((t_all 13) - (1 : Int32))
set_option maxHeartbeats 4000000 in
set_option maxRecDepth 100000 in
theorem c_X11_moves (l : Launch) (D : va_G) (K : Nat → ClassId) (g_t : Nat → Nat) (t_raised : Int32) (t_undos : Int32) (t_reached : Int32) (t_length : Int32) (t_begin : Int32) (t_sort : Int32) (t_value : Int32) (t_word : Int64) (t_wrongAt : Int32) (t_badAt : Int32) (t_bad : Int32) (t_read : Int32) (t_pictured : Int32) (t_x : Int32) (t_all : Nat → Int32) (x1 : Int32) (res : Int32 × (Nat → Int32)) (hF : F_X11_moves t_all x1 = some res) :
    Mi_ l yX11_moves wsX11_moves rmX11_moves D K [.ref (g_t 0), .int x1] (w_X11_moves K g_t t_raised t_undos t_reached t_length t_begin t_sort t_value t_word t_wrongAt t_badAt t_bad t_read t_pictured t_x t_all) (w_X11_moves K g_t t_raised t_undos t_reached t_length t_begin t_sort t_value t_word t_wrongAt t_badAt t_bad t_read t_pictured t_x res.2) (res.1) := by
  refine en_i (cc := cX11_moves) (maxL := 4) (own := RX11) (by decide) rfl rfl (Nat.le_of_ble_eq_true rfl) ?_
  intro p e s m args below meth c A Q H locs ls C0 hP hD hS hl HR
  obtain ⟨⟨hx, hb, hml, hown, hts⟩, hK, -⟩ := id C0
  have hl : lv_has ls 4 [(0, .ref (g_t 0)), (1, .int x1)] := hl
  unfold F_X11_moves at hF
  refine lv_iconst (v := 0) hx hb dX11_moves_0 (by decide) ?_
  refine lv_istore_n (lv' := [(2, .int (0 : Int32)), (0, .ref (g_t 0)), (1, .int x1)]) hx hb dX11_moves_1 rfl hl (by decide) rfl (fun ls hl => ?_)
  refine lv_aload_n hx hb dX11_moves_2 rfl (lv_at hl 1 rfl) ?_
  refine va_get (D := D) (ci := 10) (v := .ref (g_t 2)) (C := RX11) (T := TX11) (N := 30) hx hb hts iw_X11_moves_X11 hown hK hP 0 rfl rfl 1 (by decide) (hts _ fl_X11_moves_7) (fun _ h9 => h9) rfl dX11_moves_3 ?_
  refine lv_bipush (v := 13) hx hb dX11_moves_6 (by decide) ?_
  refine xl_i (f := t_all) hx hb hK hP 1 0 rfl rfl (k := 13) (by decide) (in_v (by decide)) dX11_moves_8 ?_
  refine lv_iconst (v := 1) hx hb dX11_moves_9 (by decide) ?_
  refine lv_isub hx hb dX11_moves_10 ?_
  refine lv_istore_n (lv' := [(3, .int ((t_all 13) - (1 : Int32))), (2, .int (0 : Int32)), (0, .ref (g_t 0)), (1, .int x1)]) hx hb dX11_moves_11 rfl hl (by decide) rfl (fun ls hl => ?_)
  exact w_X11_moves_12 C0 HR fu_ t_all x1 (0 : Int32) ((t_all 13) - (1 : Int32)) H locs ls hP hD hS (lv_sub hl [2, 3, 1, 0] rfl) hF

/-! StaggerRadarModel.goesOnBy(II)I -/
abbrev rmX11_goesOnBy : Room := { frames := 2, cells := 0, slots := 0, locals := 45 }
theorem ld_X11_goesOnBy_195 : Cond.constant RX11 195 (47999) ∈ wsX11_goesOnBy := by decide +kernel
theorem iw_X11_goesOnBy_X11 : ∀ w ∈ u_ws RX11 TX11 30, w ∈ wsX11_goesOnBy := by decide +kernel
abbrev w_X11_goesOnBy (K : Nat → ClassId) (g_t : Nat → Nat) (t_raised : Int32) (t_undos : Int32) (t_reached : Int32) (t_length : Int32) (t_begin : Int32) (t_sort : Int32) (t_value : Int32) (t_word : Int64) (t_wrongAt : Int32) (t_badAt : Int32) (t_bad : Int32) (t_read : Int32) (t_pictured : Int32) (t_x : Int32) (t_all : Nat → Int32) : va_W := [((g_t 0), .inr (10, [.int t_raised, .ref (g_t 2), .ref (g_t 3), .ref (g_t 4), .ref (g_t 5), .int t_undos, .int t_reached, .int t_length, .int t_begin, .int t_sort, .int t_value, .long t_word, .int t_wrongAt, .int t_badAt, .int t_bad, .ref (g_t 16), .int t_read, .ref (g_t 18), .ref (g_t 19), .ref (g_t 20), .int t_pictured, .ref (g_t 22), .ref (g_t 23), .ref (g_t 24), .ref (g_t 25), .ref (g_t 26), .int t_x, .ref (g_t 28), .ref (g_t 29), .ref (g_t 30)])), ((g_t 2), .inl (K 0, 500, .inl t_all))]
def J_X11_goesOnBy_51 (t_all : Nat → Int32) (x1 : Int32) (x2 : Int32) (x3 : Int32) : Option (Int32 × (Nat → Int32)) :=
  (F_X11_of t_all x1 (0 : Int32)).bind fun r_1 => ((F_X11_of t_all x1 (1 : Int32)).bind fun r_3 => ((F_X11_in (r_1 + (x2 * r_3)) (0 : Int32) (47999 : Int32)).bind fun r_5 => ((F_X11_moves t_all x2).bind fun r_7 => (if r_5 = (0 : Int32) then (some ((-1 : Int32), r_7.2)) else (some (x3, r_7.2))))))
set_option maxHeartbeats 4000000 in
set_option maxRecDepth 100000 in
theorem w_X11_goesOnBy_51 {p : Program} {l : Launch} {e : Env} {s : State} {m : MethodId} {args : Array Value} {below : List Frame} {meth : Method} {c : Code} {D : va_G} {K : Nat → ClassId} {A : Nat → Prop} {Q : State → Prop} (C0 : cx_ p s m args c cX11_goesOnBy 6 RX11 wsX11_goesOnBy D K A) {g_t : Nat → Nat} {t_raised : Int32} {t_undos : Int32} {t_reached : Int32} {t_length : Int32} {t_begin : Int32} {t_sort : Int32} {t_value : Int32} {t_word : Int64} {t_wrongAt : Int32} {t_badAt : Int32} {t_bad : Int32} {t_read : Int32} {t_pictured : Int32} {t_x : Int32} {res : Int32 × (Nat → Int32)} (HR : ∀ (pc : Nat) (H : Heap) (locs : List Loc) (ls : Array Slot), decode cX11_goesOnBy pc = .ok (.ireturn, 1) → va_P D vwCl (w_X11_goesOnBy K g_t t_raised t_undos t_reached t_length t_begin t_sort t_value t_word t_wrongAt t_badAt t_bad t_read t_pictured t_x res.2) H → va_D A (w_X11_goesOnBy K g_t t_raised t_undos t_reached t_length t_begin t_sort t_value t_word t_wrongAt t_badAt t_bad t_read t_pictured t_x res.2) → va_S A s.heap H locs → W p l e rmX11_goesOnBy s m args below meth c H locs 0 0 Q (F0 m pc ls [.int res.1]))  :
    ∀ (t_all : Nat → Int32) (x1 : Int32) (x2 : Int32) (x3 : Int32) (H : Heap) (locs : List Loc) (ls : Array Slot), va_P D vwCl (w_X11_goesOnBy K g_t t_raised t_undos t_reached t_length t_begin t_sort t_value t_word t_wrongAt t_badAt t_bad t_read t_pictured t_x t_all) H → va_D A (w_X11_goesOnBy K g_t t_raised t_undos t_reached t_length t_begin t_sort t_value t_word t_wrongAt t_badAt t_bad t_read t_pictured t_x t_all) → va_S A s.heap H locs → lv_has ls 6 [(0, .ref (g_t 0)), (1, .int x1), (2, .int x2), (3, .int x3)] → J_X11_goesOnBy_51 t_all x1 x2 x3 = some res → W p l e rmX11_goesOnBy s m args below meth c H locs 0 0 Q (F0 m 51 ls []) := by
  obtain ⟨⟨hx, hb, hml, hown, hts⟩, hK, -⟩ := id C0
  intro t_all x1 x2 x3 H locs ls hP hD hS hl hF
  unfold J_X11_goesOnBy_51 at hF
  refine lv_aload_n hx hb dX11_goesOnBy_51 rfl (lv_at hl 0 rfl) ?_
  refine lv_iload_n hx hb dX11_goesOnBy_52 rfl (lv_at hl 1 rfl) ?_
  refine lv_iconst (v := 0) hx hb dX11_goesOnBy_53 (by decide) ?_
  obtain ⟨r_1, hc_2, hF⟩ := bn_some hF
  refine xc_i (wn := (w_X11_goesOnBy K g_t t_raised t_undos t_reached t_length t_begin t_sort t_value t_word t_wrongAt t_badAt t_bad t_read t_pictured t_x t_all)) hP hD hS C0.2.2.1 [0, 1] [] [0, 1] rfl rfl (by decide) (by decide) rfl (by decide) (va_runV (As := [.int x1, .int (0 : Int32)]) (rest := []) C0.1 (c_X11_of l D K g_t t_raised t_undos t_reached t_length t_begin t_sort t_value t_word t_wrongAt t_badAt t_bad t_read t_pictured t_x t_all x1 (0 : Int32) r_1 hc_2 H.size) (cwV 2 hts gX11_goesOnBy_X11_of rfl rfl rfl (by decide +kernel) ⟨Nat.le_of_ble_eq_true rfl, Nat.le_of_ble_eq_true rfl⟩) (xp_V C0.2 hP hD hS [0, 1] rfl (by decide) 10 0 rfl rfl rfl) rfl rfl hl.1 rfl (lv_room (Nat.le_of_ble_eq_true rfl)) dX11_goesOnBy_54 ⟨Nat.le_of_ble_eq_true rfl, Nat.le_of_ble_eq_true rfl⟩) (fun H locs hP hD hS => ?_)
  refine lv_iload_n hx hb dX11_goesOnBy_57 rfl (lv_at hl 2 rfl) ?_
  refine lv_aload_n hx hb dX11_goesOnBy_58 rfl (lv_at hl 0 rfl) ?_
  refine lv_iload_n hx hb dX11_goesOnBy_59 rfl (lv_at hl 1 rfl) ?_
  refine lv_iconst (v := 1) hx hb dX11_goesOnBy_60 (by decide) ?_
  obtain ⟨r_3, hc_4, hF⟩ := bn_some hF
  refine xc_i (wn := (w_X11_goesOnBy K g_t t_raised t_undos t_reached t_length t_begin t_sort t_value t_word t_wrongAt t_badAt t_bad t_read t_pictured t_x t_all)) hP hD hS C0.2.2.1 [0, 1] [] [0, 1] rfl rfl (by decide) (by decide) rfl (by decide) (va_runV (As := [.int x1, .int (1 : Int32)]) (rest := [.int x2, .int r_1]) C0.1 (c_X11_of l D K g_t t_raised t_undos t_reached t_length t_begin t_sort t_value t_word t_wrongAt t_badAt t_bad t_read t_pictured t_x t_all x1 (1 : Int32) r_3 hc_4 H.size) (cwV 2 hts gX11_goesOnBy_X11_of rfl rfl rfl (by decide +kernel) ⟨Nat.le_of_ble_eq_true rfl, Nat.le_of_ble_eq_true rfl⟩) (xp_V C0.2 hP hD hS [0, 1] rfl (by decide) 10 0 rfl rfl rfl) rfl rfl hl.1 rfl (lv_room (Nat.le_of_ble_eq_true rfl)) dX11_goesOnBy_61 ⟨Nat.le_of_ble_eq_true rfl, Nat.le_of_ble_eq_true rfl⟩) (fun H locs hP hD hS => ?_)
  refine lv_imul hx hb dX11_goesOnBy_64 ?_
  refine lv_iadd hx hb dX11_goesOnBy_65 ?_
  refine lv_iconst (v := 0) hx hb dX11_goesOnBy_66 (by decide) ?_
  refine lv_ldc (v := 47999) hx hb hown (hts _ ld_X11_goesOnBy_195) dX11_goesOnBy_67 ?_
  obtain ⟨r_5, hc_6, hF⟩ := bn_some hF
  refine xc_i (wn := (w_X11_goesOnBy K g_t t_raised t_undos t_reached t_length t_begin t_sort t_value t_word t_wrongAt t_badAt t_bad t_read t_pictured t_x t_all)) hP hD hS C0.2.2.1 [] [0, 1] [0, 1] rfl rfl (by decide) (by decide) rfl (by decide) (va_runS (As := [.int (r_1 + (x2 * r_3)), .int (0 : Int32), .int (47999 : Int32)]) (rest := []) C0.1 (c_X11_in l D K (r_1 + (x2 * r_3)) (0 : Int32) (47999 : Int32) r_5 hc_6 H.size) (va_cwS 3 hts gX11_goesOnBy_X11_in rfl rfl rfl (by decide +kernel) ⟨Nat.le_of_ble_eq_true rfl, Nat.le_of_ble_eq_true rfl⟩) (xp_S C0.2 hP hD hS [] rfl (by decide)) rfl rfl hl.1 rfl (lv_room (Nat.le_of_ble_eq_true rfl)) dX11_goesOnBy_69 ⟨Nat.le_of_ble_eq_true rfl, Nat.le_of_ble_eq_true rfl⟩) (fun H locs hP hD hS => ?_)
  refine lv_istore (lv' := [(4, .int r_5), (0, .ref (g_t 0)), (1, .int x1), (2, .int x2), (3, .int x3)]) hx hb dX11_goesOnBy_72 hl (by decide) rfl (fun ls hl => ?_)
  refine lv_aload_n hx hb dX11_goesOnBy_74 rfl (lv_at hl 1 rfl) ?_
  refine lv_iload_n hx hb dX11_goesOnBy_75 rfl (lv_at hl 3 rfl) ?_
  obtain ⟨r_7, hc_8, hF⟩ := bn_some hF
  refine xc_i (wn := (w_X11_goesOnBy K g_t t_raised t_undos t_reached t_length t_begin t_sort t_value t_word t_wrongAt t_badAt t_bad t_read t_pictured t_x r_7.2)) hP hD hS C0.2.2.1 [0, 1] [] [0, 1] rfl rfl (by decide) (by decide) rfl (by decide) (va_runV (As := [.int x2]) (rest := []) C0.1 (c_X11_moves l D K g_t t_raised t_undos t_reached t_length t_begin t_sort t_value t_word t_wrongAt t_badAt t_bad t_read t_pictured t_x t_all x2 r_7 hc_8 H.size) (cwV 1 hts gX11_goesOnBy_X11_moves rfl rfl rfl (by decide +kernel) ⟨Nat.le_of_ble_eq_true rfl, Nat.le_of_ble_eq_true rfl⟩) (xp_V C0.2 hP hD hS [0, 1] rfl (by decide) 10 0 rfl rfl rfl) rfl rfl hl.1 rfl (lv_room (Nat.le_of_ble_eq_true rfl)) dX11_goesOnBy_76 ⟨Nat.le_of_ble_eq_true rfl, Nat.le_of_ble_eq_true rfl⟩) (fun H locs hP hD hS => ?_)
  refine lv_istore (lv' := [(5, .int r_7.1), (4, .int r_5), (0, .ref (g_t 0)), (1, .int x1), (2, .int x2), (3, .int x3)]) hx hb dX11_goesOnBy_79 hl (by decide) rfl (fun ls hl => ?_)
  refine lv_iload hx hb dX11_goesOnBy_81 (lv_at hl 1 rfl) ?_
  refine lv_if_eq (tgt := 90) hx hb dX11_goesOnBy_83 (by decide) (fun c_9 => ?_) (fun c_9 => ?_)
  · have hF := it_pos c_9 hF
    refine lv_iconst (v := (-1)) hx hb dX11_goesOnBy_90 (by decide) ?_
    obtain rfl := Option.some.inj hF
    exact HR 91 H locs ls dX11_goesOnBy_91 hP hD hS
  · have hF := it_neg c_9 hF
    refine lv_iload_n hx hb dX11_goesOnBy_86 rfl (lv_at hl 5 rfl) ?_
    refine lv_goto (tgt := 91) hx hb dX11_goesOnBy_87 (by decide) ?_
    obtain rfl := Option.some.inj hF
    exact HR 91 H locs ls dX11_goesOnBy_91 hP hD hS
def L_X11_goesOnBy_5  : Nat → (Nat → Int32) → Int32 → Int32 → Int32 → Int32 → Option (Int32 × (Nat → Int32))
  | 0, _, _, _, _, _ => none
  | n_ + 1, t_all, x1, x2, x3, x4 =>
    if x1 ≤ x4 then (J_X11_goesOnBy_51 t_all x1 x2 x3) else ((F_X11_of t_all x4 (0 : Int32)).bind fun r_2 => ((F_X11_of t_all x4 (1 : Int32)).bind fun r_4 => ((F_X11_in (r_2 + (x2 * r_4)) (0 : Int32) (47999 : Int32)).bind fun r_6 => (if r_6 = (0 : Int32) then (L_X11_goesOnBy_5 n_ t_all x1 x2 (x3 - (1 : Int32)) (x4 + (1 : Int32))) else (L_X11_goesOnBy_5 n_ t_all x1 x2 (x3 - (0 : Int32)) (x4 + (1 : Int32)))))))
set_option maxHeartbeats 4000000 in
set_option maxRecDepth 100000 in
theorem w_X11_goesOnBy_5 {p : Program} {l : Launch} {e : Env} {s : State} {m : MethodId} {args : Array Value} {below : List Frame} {meth : Method} {c : Code} {D : va_G} {K : Nat → ClassId} {A : Nat → Prop} {Q : State → Prop} (C0 : cx_ p s m args c cX11_goesOnBy 6 RX11 wsX11_goesOnBy D K A) {g_t : Nat → Nat} {t_raised : Int32} {t_undos : Int32} {t_reached : Int32} {t_length : Int32} {t_begin : Int32} {t_sort : Int32} {t_value : Int32} {t_word : Int64} {t_wrongAt : Int32} {t_badAt : Int32} {t_bad : Int32} {t_read : Int32} {t_pictured : Int32} {t_x : Int32} {res : Int32 × (Nat → Int32)} (HR : ∀ (pc : Nat) (H : Heap) (locs : List Loc) (ls : Array Slot), decode cX11_goesOnBy pc = .ok (.ireturn, 1) → va_P D vwCl (w_X11_goesOnBy K g_t t_raised t_undos t_reached t_length t_begin t_sort t_value t_word t_wrongAt t_badAt t_bad t_read t_pictured t_x res.2) H → va_D A (w_X11_goesOnBy K g_t t_raised t_undos t_reached t_length t_begin t_sort t_value t_word t_wrongAt t_badAt t_bad t_read t_pictured t_x res.2) → va_S A s.heap H locs → W p l e rmX11_goesOnBy s m args below meth c H locs 0 0 Q (F0 m pc ls [.int res.1]))  :
    ∀ (n_ : Nat) (t_all : Nat → Int32) (x1 : Int32) (x2 : Int32) (x3 : Int32) (x4 : Int32) (H : Heap) (locs : List Loc) (ls : Array Slot), va_P D vwCl (w_X11_goesOnBy K g_t t_raised t_undos t_reached t_length t_begin t_sort t_value t_word t_wrongAt t_badAt t_bad t_read t_pictured t_x t_all) H → va_D A (w_X11_goesOnBy K g_t t_raised t_undos t_reached t_length t_begin t_sort t_value t_word t_wrongAt t_badAt t_bad t_read t_pictured t_x t_all) → va_S A s.heap H locs → lv_has ls 6 [(0, .ref (g_t 0)), (1, .int x1), (2, .int x2), (3, .int x3), (4, .int x4)] → L_X11_goesOnBy_5 n_ t_all x1 x2 x3 x4 = some res → W p l e rmX11_goesOnBy s m args below meth c H locs 0 0 Q (F0 m 5 ls []) := by
  obtain ⟨⟨hx, hb, hml, hown, hts⟩, hK, -⟩ := id C0
  intro n_
  induction n_ with
  | zero =>
    intro t_all x1 x2 x3 x4 H locs ls hP hD hS hl hF
    exact no_s (show (none : Option (Int32 × (Nat → Int32))) = some res from hF)
  | succ n_ ih =>
    intro t_all x1 x2 x3 x4 H locs ls hP hD hS hl hF
    rw [L_X11_goesOnBy_5] at hF
    refine lv_iload hx hb dX11_goesOnBy_5 (lv_at hl 4 rfl) ?_
    refine lv_iload_n hx hb dX11_goesOnBy_7 rfl (lv_at hl 1 rfl) ?_
    refine lv_icmp_ge (tgt := 51) hx hb dX11_goesOnBy_8 (by decide) (fun c_1 => ?_) (fun c_1 => ?_)
    · have hF := it_pos c_1 hF
      exact w_X11_goesOnBy_51 C0 HR t_all x1 x2 x3 H locs ls hP hD hS (lv_sub hl [0, 1, 2, 3] rfl) hF
    · have hF := it_neg c_1 hF
      refine lv_iload_n hx hb dX11_goesOnBy_11 rfl (lv_at hl 3 rfl) ?_
      refine lv_aload_n hx hb dX11_goesOnBy_12 rfl (lv_at hl 0 rfl) ?_
      refine lv_iload hx hb dX11_goesOnBy_13 (lv_at hl 4 rfl) ?_
      refine lv_iconst (v := 0) hx hb dX11_goesOnBy_15 (by decide) ?_
      obtain ⟨r_2, hc_3, hF⟩ := bn_some hF
      refine xc_i (wn := (w_X11_goesOnBy K g_t t_raised t_undos t_reached t_length t_begin t_sort t_value t_word t_wrongAt t_badAt t_bad t_read t_pictured t_x t_all)) hP hD hS C0.2.2.1 [0, 1] [] [0, 1] rfl rfl (by decide) (by decide) rfl (by decide) (va_runV (As := [.int x4, .int (0 : Int32)]) (rest := [.int x3]) C0.1 (c_X11_of l D K g_t t_raised t_undos t_reached t_length t_begin t_sort t_value t_word t_wrongAt t_badAt t_bad t_read t_pictured t_x t_all x4 (0 : Int32) r_2 hc_3 H.size) (cwV 2 hts gX11_goesOnBy_X11_of rfl rfl rfl (by decide +kernel) ⟨Nat.le_of_ble_eq_true rfl, Nat.le_of_ble_eq_true rfl⟩) (xp_V C0.2 hP hD hS [0, 1] rfl (by decide) 10 0 rfl rfl rfl) rfl rfl hl.1 rfl (lv_room (Nat.le_of_ble_eq_true rfl)) dX11_goesOnBy_16 ⟨Nat.le_of_ble_eq_true rfl, Nat.le_of_ble_eq_true rfl⟩) (fun H locs hP hD hS => ?_)
      refine lv_iload_n hx hb dX11_goesOnBy_19 rfl (lv_at hl 2 rfl) ?_
      refine lv_aload_n hx hb dX11_goesOnBy_20 rfl (lv_at hl 0 rfl) ?_
      refine lv_iload hx hb dX11_goesOnBy_21 (lv_at hl 4 rfl) ?_
      refine lv_iconst (v := 1) hx hb dX11_goesOnBy_23 (by decide) ?_
      obtain ⟨r_4, hc_5, hF⟩ := bn_some hF
      refine xc_i (wn := (w_X11_goesOnBy K g_t t_raised t_undos t_reached t_length t_begin t_sort t_value t_word t_wrongAt t_badAt t_bad t_read t_pictured t_x t_all)) hP hD hS C0.2.2.1 [0, 1] [] [0, 1] rfl rfl (by decide) (by decide) rfl (by decide) (va_runV (As := [.int x4, .int (1 : Int32)]) (rest := [.int x2, .int r_2, .int x3]) C0.1 (c_X11_of l D K g_t t_raised t_undos t_reached t_length t_begin t_sort t_value t_word t_wrongAt t_badAt t_bad t_read t_pictured t_x t_all x4 (1 : Int32) r_4 hc_5 H.size) (cwV 2 hts gX11_goesOnBy_X11_of rfl rfl rfl (by decide +kernel) ⟨Nat.le_of_ble_eq_true rfl, Nat.le_of_ble_eq_true rfl⟩) (xp_V C0.2 hP hD hS [0, 1] rfl (by decide) 10 0 rfl rfl rfl) rfl rfl hl.1 rfl (lv_room (Nat.le_of_ble_eq_true rfl)) dX11_goesOnBy_24 ⟨Nat.le_of_ble_eq_true rfl, Nat.le_of_ble_eq_true rfl⟩) (fun H locs hP hD hS => ?_)
      refine lv_imul hx hb dX11_goesOnBy_27 ?_
      refine lv_iadd hx hb dX11_goesOnBy_28 ?_
      refine lv_iconst (v := 0) hx hb dX11_goesOnBy_29 (by decide) ?_
      refine lv_ldc (v := 47999) hx hb hown (hts _ ld_X11_goesOnBy_195) dX11_goesOnBy_30 ?_
      obtain ⟨r_6, hc_7, hF⟩ := bn_some hF
      refine xc_i (wn := (w_X11_goesOnBy K g_t t_raised t_undos t_reached t_length t_begin t_sort t_value t_word t_wrongAt t_badAt t_bad t_read t_pictured t_x t_all)) hP hD hS C0.2.2.1 [] [0, 1] [0, 1] rfl rfl (by decide) (by decide) rfl (by decide) (va_runS (As := [.int (r_2 + (x2 * r_4)), .int (0 : Int32), .int (47999 : Int32)]) (rest := [.int x3]) C0.1 (c_X11_in l D K (r_2 + (x2 * r_4)) (0 : Int32) (47999 : Int32) r_6 hc_7 H.size) (va_cwS 3 hts gX11_goesOnBy_X11_in rfl rfl rfl (by decide +kernel) ⟨Nat.le_of_ble_eq_true rfl, Nat.le_of_ble_eq_true rfl⟩) (xp_S C0.2 hP hD hS [] rfl (by decide)) rfl rfl hl.1 rfl (lv_room (Nat.le_of_ble_eq_true rfl)) dX11_goesOnBy_32 ⟨Nat.le_of_ble_eq_true rfl, Nat.le_of_ble_eq_true rfl⟩) (fun H locs hP hD hS => ?_)
      refine lv_if_eq (tgt := 42) hx hb dX11_goesOnBy_35 (by decide) (fun c_8 => ?_) (fun c_8 => ?_)
      · have hF := it_pos c_8 hF
        refine lv_iconst (v := 1) hx hb dX11_goesOnBy_42 (by decide) ?_
        refine lv_isub hx hb dX11_goesOnBy_43 ?_
        refine lv_istore_n (lv' := [(3, .int (x3 - (1 : Int32))), (0, .ref (g_t 0)), (1, .int x1), (2, .int x2), (4, .int x4)]) hx hb dX11_goesOnBy_44 rfl hl (by decide) rfl (fun ls hl => ?_)
        refine lv_iinc (v := (x4 + (1 : Int32))) (lv' := [(4, .int (x4 + (1 : Int32))), (3, .int (x3 - (1 : Int32))), (0, .ref (g_t 0)), (1, .int x1), (2, .int x2)]) hx hb dX11_goesOnBy_45 hl (k := 4) rfl (congrArg (fun z => x4 + z) (by decide)) (by decide) rfl (fun ls hl => ?_)
        refine lv_goto (tgt := 5) hx hb dX11_goesOnBy_48 (by decide) ?_
        exact ih t_all x1 x2 (x3 - (1 : Int32)) (x4 + (1 : Int32)) H locs ls hP hD hS (lv_sub hl [2, 3, 4, 1, 0] rfl) hF
      · have hF := it_neg c_8 hF
        refine lv_iconst (v := 0) hx hb dX11_goesOnBy_38 (by decide) ?_
        refine lv_goto (tgt := 43) hx hb dX11_goesOnBy_39 (by decide) ?_
        refine lv_isub hx hb dX11_goesOnBy_43 ?_
        refine lv_istore_n (lv' := [(3, .int (x3 - (0 : Int32))), (0, .ref (g_t 0)), (1, .int x1), (2, .int x2), (4, .int x4)]) hx hb dX11_goesOnBy_44 rfl hl (by decide) rfl (fun ls hl => ?_)
        refine lv_iinc (v := (x4 + (1 : Int32))) (lv' := [(4, .int (x4 + (1 : Int32))), (3, .int (x3 - (0 : Int32))), (0, .ref (g_t 0)), (1, .int x1), (2, .int x2)]) hx hb dX11_goesOnBy_45 hl (k := 4) rfl (congrArg (fun z => x4 + z) (by decide)) (by decide) rfl (fun ls hl => ?_)
        refine lv_goto (tgt := 5) hx hb dX11_goesOnBy_48 (by decide) ?_
        exact ih t_all x1 x2 (x3 - (0 : Int32)) (x4 + (1 : Int32)) H locs ls hP hD hS (lv_sub hl [2, 3, 4, 1, 0] rfl) hF
def F_X11_goesOnBy (t_all : Nat → Int32) (x1 : Int32) (x2 : Int32) : Option (Int32 × (Nat → Int32)) :=
  L_X11_goesOnBy_5 fu_ t_all x1 x2 x1 (0 : Int32)
set_option maxHeartbeats 4000000 in
set_option maxRecDepth 100000 in
theorem c_X11_goesOnBy (l : Launch) (D : va_G) (K : Nat → ClassId) (g_t : Nat → Nat) (t_raised : Int32) (t_undos : Int32) (t_reached : Int32) (t_length : Int32) (t_begin : Int32) (t_sort : Int32) (t_value : Int32) (t_word : Int64) (t_wrongAt : Int32) (t_badAt : Int32) (t_bad : Int32) (t_read : Int32) (t_pictured : Int32) (t_x : Int32) (t_all : Nat → Int32) (x1 : Int32) (x2 : Int32) (res : Int32 × (Nat → Int32)) (hF : F_X11_goesOnBy t_all x1 x2 = some res) :
    Mi_ l yX11_goesOnBy wsX11_goesOnBy rmX11_goesOnBy D K [.ref (g_t 0), .int x1, .int x2] (w_X11_goesOnBy K g_t t_raised t_undos t_reached t_length t_begin t_sort t_value t_word t_wrongAt t_badAt t_bad t_read t_pictured t_x t_all) (w_X11_goesOnBy K g_t t_raised t_undos t_reached t_length t_begin t_sort t_value t_word t_wrongAt t_badAt t_bad t_read t_pictured t_x res.2) (res.1) := by
  refine en_i (cc := cX11_goesOnBy) (maxL := 6) (own := RX11) (by decide) rfl rfl (Nat.le_of_ble_eq_true rfl) ?_
  intro p e s m args below meth c A Q H locs ls C0 hP hD hS hl HR
  obtain ⟨⟨hx, hb, hml, hown, hts⟩, hK, -⟩ := id C0
  have hl : lv_has ls 6 [(0, .ref (g_t 0)), (1, .int x1), (2, .int x2)] := hl
  unfold F_X11_goesOnBy at hF
  refine lv_iload_n hx hb dX11_goesOnBy_0 rfl (lv_at hl 1 rfl) ?_
  refine lv_istore_n (lv' := [(3, .int x1), (0, .ref (g_t 0)), (1, .int x1), (2, .int x2)]) hx hb dX11_goesOnBy_1 rfl hl (by decide) rfl (fun ls hl => ?_)
  refine lv_iconst (v := 0) hx hb dX11_goesOnBy_2 (by decide) ?_
  refine lv_istore (lv' := [(4, .int (0 : Int32)), (3, .int x1), (0, .ref (g_t 0)), (1, .int x1), (2, .int x2)]) hx hb dX11_goesOnBy_3 hl (by decide) rfl (fun ls hl => ?_)
  exact w_X11_goesOnBy_5 C0 HR fu_ t_all x1 x2 x1 (0 : Int32) H locs ls hP hD hS (lv_sub hl [2, 3, 4, 1, 0] rfl) hF

/-! StaggerRadarModel.hits(I)I -/
abbrev rmX11_hits : Room := { frames := 4, cells := 0, slots := 0, locals := 89 }
theorem fl_X11_hits_66 : Cond.fieldLink RX11 66 "StaggerRadarModel" "raised" "I" ∈ wsX11_hits := by decide +kernel
theorem iw_X11_hits_X11 : ∀ w ∈ u_ws RX11 TX11 30, w ∈ wsX11_hits := by decide +kernel
abbrev w_X11_hits (K : Nat → ClassId) (g_t : Nat → Nat) (t_raised : Int32) (t_undos : Int32) (t_reached : Int32) (t_length : Int32) (t_begin : Int32) (t_sort : Int32) (t_value : Int32) (t_word : Int64) (t_wrongAt : Int32) (t_badAt : Int32) (t_bad : Int32) (t_read : Int32) (t_pictured : Int32) (t_x : Int32) (t_all : Nat → Int32) (t_loud : Nat → Int32) : va_W := [((g_t 0), .inr (10, [.int t_raised, .ref (g_t 2), .ref (g_t 3), .ref (g_t 4), .ref (g_t 5), .int t_undos, .int t_reached, .int t_length, .int t_begin, .int t_sort, .int t_value, .long t_word, .int t_wrongAt, .int t_badAt, .int t_bad, .ref (g_t 16), .int t_read, .ref (g_t 18), .ref (g_t 19), .ref (g_t 20), .int t_pictured, .ref (g_t 22), .ref (g_t 23), .ref (g_t 24), .ref (g_t 25), .ref (g_t 26), .int t_x, .ref (g_t 28), .ref (g_t 29), .ref (g_t 30)])), ((g_t 2), .inl (K 0, 500, .inl t_all)), ((g_t 18), .inl (K 0, 300, .inl t_loud))]
def F_X11_hits (t_raised : Int32) (t_all : Nat → Int32) (t_loud : Nat → Int32) (x1 : Int32) : Option (Int32 × Int32 × (Nat → Int32)) :=
  (F_X11_in x1 (0 : Int32) (9999 : Int32)).bind fun r_1 => (if r_1 = (0 : Int32) then (some ((-1 : Int32), (0 : Int32), t_loud)) else ((F_X11_laysLoud t_all t_loud).bind fun r_4 => ((F_X11_hitBits t_all r_4 x1).bind fun r_6 => (some (r_6, (0 : Int32), r_4)))))
set_option maxHeartbeats 4000000 in
set_option maxRecDepth 100000 in
theorem c_X11_hits (l : Launch) (D : va_G) (K : Nat → ClassId) (g_t : Nat → Nat) (t_raised : Int32) (t_undos : Int32) (t_reached : Int32) (t_length : Int32) (t_begin : Int32) (t_sort : Int32) (t_value : Int32) (t_word : Int64) (t_wrongAt : Int32) (t_badAt : Int32) (t_bad : Int32) (t_read : Int32) (t_pictured : Int32) (t_x : Int32) (t_all : Nat → Int32) (t_loud : Nat → Int32) (x1 : Int32) (res : Int32 × Int32 × (Nat → Int32)) (hF : F_X11_hits t_raised t_all t_loud x1 = some res) :
    Mi_ l yX11_hits wsX11_hits rmX11_hits D K [.ref (g_t 0), .int x1] (w_X11_hits K g_t t_raised t_undos t_reached t_length t_begin t_sort t_value t_word t_wrongAt t_badAt t_bad t_read t_pictured t_x t_all t_loud) (w_X11_hits K g_t res.2.1 t_undos t_reached t_length t_begin t_sort t_value t_word t_wrongAt t_badAt t_bad t_read t_pictured t_x t_all res.2.2) (res.1) := by
  refine en_i (cc := cX11_hits) (maxL := 2) (own := RX11) (by decide) rfl rfl (Nat.le_of_ble_eq_true rfl) ?_
  intro p e s m args below meth c A Q H locs ls C0 hP hD hS hl HR
  obtain ⟨⟨hx, hb, hml, hown, hts⟩, hK, -⟩ := id C0
  have hl : lv_has ls 2 [(0, .ref (g_t 0)), (1, .int x1)] := hl
  unfold F_X11_hits at hF
  refine lv_aload_n hx hb dX11_hits_0 rfl (lv_at hl 0 rfl) ?_
  refine lv_iconst (v := 0) hx hb dX11_hits_1 (by decide) ?_
  refine va_put (D := D) (ci := 10) (v := .int (0 : Int32)) (ty := .int) (C := RX11) (T := TX11) (N := 30) hx hb hts iw_X11_hits_X11 tyX11 tyX11_ok nmX11 hown hK hP hD hS 0 rfl rfl 0 (by decide) (hts _ fl_X11_hits_66) (fun _ h9 => h9) rfl (by decide +kernel) rfl rfl (Nat.le_of_ble_eq_true rfl) dX11_hits_2 (fun H locs hP hD hS => ?_)
  have hP : va_P D vwCl (w_X11_hits K g_t (0 : Int32) t_undos t_reached t_length t_begin t_sort t_value t_word t_wrongAt t_badAt t_bad t_read t_pictured t_x t_all t_loud) H := hP
  have hD : va_D A (w_X11_hits K g_t (0 : Int32) t_undos t_reached t_length t_begin t_sort t_value t_word t_wrongAt t_badAt t_bad t_read t_pictured t_x t_all t_loud) := hD
  refine lv_iload_n hx hb dX11_hits_5 rfl (lv_at hl 1 rfl) ?_
  refine lv_iconst (v := 0) hx hb dX11_hits_6 (by decide) ?_
  refine lv_sipush (v := 9999) hx hb dX11_hits_7 (by decide) ?_
  obtain ⟨r_1, hc_2, hF⟩ := bn_some hF
  refine xc_i (wn := (w_X11_hits K g_t (0 : Int32) t_undos t_reached t_length t_begin t_sort t_value t_word t_wrongAt t_badAt t_bad t_read t_pictured t_x t_all t_loud)) hP hD hS C0.2.2.1 [] [0, 1, 2] [0, 1, 2] rfl rfl (by decide) (by decide) rfl (by decide) (va_runS (As := [.int x1, .int (0 : Int32), .int (9999 : Int32)]) (rest := []) C0.1 (c_X11_in l D K x1 (0 : Int32) (9999 : Int32) r_1 hc_2 H.size) (va_cwS 3 hts gX11_hits_X11_in rfl rfl rfl (by decide +kernel) ⟨Nat.le_of_ble_eq_true rfl, Nat.le_of_ble_eq_true rfl⟩) (xp_S C0.2 hP hD hS [] rfl (by decide)) rfl rfl hl.1 rfl (lv_room (Nat.le_of_ble_eq_true rfl)) dX11_hits_10 ⟨Nat.le_of_ble_eq_true rfl, Nat.le_of_ble_eq_true rfl⟩) (fun H locs hP hD hS => ?_)
  refine lv_if_ne (tgt := 18) hx hb dX11_hits_13 (by decide) (fun c_3 => ?_) (fun c_3 => ?_)
  · have hF := it_neg c_3 hF
    refine lv_aload_n hx hb dX11_hits_18 rfl (lv_at hl 0 rfl) ?_
    obtain ⟨r_4, hc_5, hF⟩ := bn_some hF
    refine xc_v (wn := (w_X11_hits K g_t (0 : Int32) t_undos t_reached t_length t_begin t_sort t_value t_word t_wrongAt t_badAt t_bad t_read t_pictured t_x t_all r_4)) hP hD hS C0.2.2.1 [0, 1, 2] [] [0, 1, 2] rfl rfl (by decide) (by decide) rfl (by decide) (va_runV (As := []) (rest := []) C0.1 (c_X11_laysLoud l D K g_t (0 : Int32) t_undos t_reached t_length t_begin t_sort t_value t_word t_wrongAt t_badAt t_bad t_read t_pictured t_x t_all t_loud r_4 hc_5 H.size) (cwV 0 hts gX11_hits_X11_laysLoud rfl rfl rfl (by decide +kernel) ⟨Nat.le_of_ble_eq_true rfl, Nat.le_of_ble_eq_true rfl⟩) (xp_V C0.2 hP hD hS [0, 1, 2] rfl (by decide) 10 0 rfl rfl rfl) rfl rfl hl.1 rfl (lv_room (Nat.le_of_ble_eq_true rfl)) dX11_hits_19 ⟨Nat.le_of_ble_eq_true rfl, Nat.le_of_ble_eq_true rfl⟩) (fun H locs hP hD hS => ?_)
    refine lv_aload_n hx hb dX11_hits_22 rfl (lv_at hl 0 rfl) ?_
    refine lv_iload_n hx hb dX11_hits_23 rfl (lv_at hl 1 rfl) ?_
    obtain ⟨r_6, hc_7, hF⟩ := bn_some hF
    refine xc_i (wn := (w_X11_hits K g_t (0 : Int32) t_undos t_reached t_length t_begin t_sort t_value t_word t_wrongAt t_badAt t_bad t_read t_pictured t_x t_all r_4)) hP hD hS C0.2.2.1 [0, 1, 2] [] [0, 1, 2] rfl rfl (by decide) (by decide) rfl (by decide) (va_runV (As := [.int x1]) (rest := []) C0.1 (c_X11_hitBits l D K g_t (0 : Int32) t_undos t_reached t_length t_begin t_sort t_value t_word t_wrongAt t_badAt t_bad t_read t_pictured t_x t_all r_4 x1 r_6 hc_7 H.size) (cwV 1 hts gX11_hits_X11_hitBits rfl rfl rfl (by decide +kernel) ⟨Nat.le_of_ble_eq_true rfl, Nat.le_of_ble_eq_true rfl⟩) (xp_V C0.2 hP hD hS [0, 1, 2] rfl (by decide) 10 0 rfl rfl rfl) rfl rfl hl.1 rfl (lv_room (Nat.le_of_ble_eq_true rfl)) dX11_hits_24 ⟨Nat.le_of_ble_eq_true rfl, Nat.le_of_ble_eq_true rfl⟩) (fun H locs hP hD hS => ?_)
    obtain rfl := Option.some.inj hF
    exact HR 27 H locs ls dX11_hits_27 hP hD hS
  · have hF := it_pos c_3 hF
    refine lv_iconst (v := (-1)) hx hb dX11_hits_16 (by decide) ?_
    obtain rfl := Option.some.inj hF
    exact HR 17 H locs ls dX11_hits_17 hP hD hS

/-! StaggerRadarModel.image(I)Z -/
abbrev rmX11_image : Room := { frames := 2, cells := 0, slots := 0, locals := 46 }
theorem fl_X11_image_17 : Cond.fieldLink RX11 17 "StaggerRadarModel" "saved" "[Z" ∈ wsX11_image := by decide +kernel
theorem fl_X11_image_66 : Cond.fieldLink RX11 66 "StaggerRadarModel" "raised" "I" ∈ wsX11_image := by decide +kernel
theorem iw_X11_image_X11 : ∀ w ∈ u_ws RX11 TX11 30, w ∈ wsX11_image := by decide +kernel
abbrev w_X11_image (K : Nat → ClassId) (g_t : Nat → Nat) (t_raised : Int32) (t_undos : Int32) (t_reached : Int32) (t_length : Int32) (t_begin : Int32) (t_sort : Int32) (t_value : Int32) (t_word : Int64) (t_wrongAt : Int32) (t_badAt : Int32) (t_bad : Int32) (t_read : Int32) (t_pictured : Int32) (t_x : Int32) (t_all : Nat → Int32) (t_text : Nat → Int32) (t_saved : Nat → Int32) : va_W := [((g_t 0), .inr (10, [.int t_raised, .ref (g_t 2), .ref (g_t 3), .ref (g_t 4), .ref (g_t 5), .int t_undos, .int t_reached, .int t_length, .int t_begin, .int t_sort, .int t_value, .long t_word, .int t_wrongAt, .int t_badAt, .int t_bad, .ref (g_t 16), .int t_read, .ref (g_t 18), .ref (g_t 19), .ref (g_t 20), .int t_pictured, .ref (g_t 22), .ref (g_t 23), .ref (g_t 24), .ref (g_t 25), .ref (g_t 26), .int t_x, .ref (g_t 28), .ref (g_t 29), .ref (g_t 30)])), ((g_t 2), .inl (K 0, 500, .inl t_all)), ((g_t 3), .inl (K 3, 1600, .inl t_text)), ((g_t 4), .inl (K 2, 3, .inl t_saved))]
def F_X11_image (t_raised : Int32) (t_all : Nat → Int32) (t_text : Nat → Int32) (t_saved : Nat → Int32) (x1 : Int32) : Option (Int32 × Int32 × (Nat → Int32) × (Nat → Int32) × (Nat → Int32)) :=
  (F_X11_in x1 (0 : Int32) (2 : Int32)).bind fun r_1 => (if r_1 = (0 : Int32) then (some ((0 : Int32), (0 : Int32), t_all, t_text, t_saved)) else ((F_X11_copiesText t_all t_text (0 : Int32) (x1 + (1 : Int32))).bind fun r_4 => (gd_ (in_b x1 3) (some ((1 : Int32), (0 : Int32), r_4.1, r_4.2, (upd t_saved (x1).toNatClampNeg (vp_nar .boolean (1 : Int32))))))))
set_option maxHeartbeats 4000000 in
set_option maxRecDepth 100000 in
theorem c_X11_image (l : Launch) (D : va_G) (K : Nat → ClassId) (g_t : Nat → Nat) (t_raised : Int32) (t_undos : Int32) (t_reached : Int32) (t_length : Int32) (t_begin : Int32) (t_sort : Int32) (t_value : Int32) (t_word : Int64) (t_wrongAt : Int32) (t_badAt : Int32) (t_bad : Int32) (t_read : Int32) (t_pictured : Int32) (t_x : Int32) (t_all : Nat → Int32) (t_text : Nat → Int32) (t_saved : Nat → Int32) (x1 : Int32) (res : Int32 × Int32 × (Nat → Int32) × (Nat → Int32) × (Nat → Int32)) (hF : F_X11_image t_raised t_all t_text t_saved x1 = some res) :
    Mi_ l yX11_image wsX11_image rmX11_image D K [.ref (g_t 0), .int x1] (w_X11_image K g_t t_raised t_undos t_reached t_length t_begin t_sort t_value t_word t_wrongAt t_badAt t_bad t_read t_pictured t_x t_all t_text t_saved) (w_X11_image K g_t res.2.1 t_undos t_reached t_length t_begin t_sort t_value t_word t_wrongAt t_badAt t_bad t_read t_pictured t_x res.2.2.1 res.2.2.2.1 res.2.2.2.2) (res.1) := by
  refine en_z (cc := cX11_image) (maxL := 2) (own := RX11) (by decide) rfl rfl (Nat.le_of_ble_eq_true rfl) ?_
  intro p e s m args below meth c A Q H locs ls C0 hP hD hS hl HR
  obtain ⟨⟨hx, hb, hml, hown, hts⟩, hK, -⟩ := id C0
  have hl : lv_has ls 2 [(0, .ref (g_t 0)), (1, .int x1)] := hl
  unfold F_X11_image at hF
  refine lv_aload_n hx hb dX11_image_0 rfl (lv_at hl 0 rfl) ?_
  refine lv_iconst (v := 0) hx hb dX11_image_1 (by decide) ?_
  refine va_put (D := D) (ci := 10) (v := .int (0 : Int32)) (ty := .int) (C := RX11) (T := TX11) (N := 30) hx hb hts iw_X11_image_X11 tyX11 tyX11_ok nmX11 hown hK hP hD hS 0 rfl rfl 0 (by decide) (hts _ fl_X11_image_66) (fun _ h9 => h9) rfl (by decide +kernel) rfl rfl (Nat.le_of_ble_eq_true rfl) dX11_image_2 (fun H locs hP hD hS => ?_)
  have hP : va_P D vwCl (w_X11_image K g_t (0 : Int32) t_undos t_reached t_length t_begin t_sort t_value t_word t_wrongAt t_badAt t_bad t_read t_pictured t_x t_all t_text t_saved) H := hP
  have hD : va_D A (w_X11_image K g_t (0 : Int32) t_undos t_reached t_length t_begin t_sort t_value t_word t_wrongAt t_badAt t_bad t_read t_pictured t_x t_all t_text t_saved) := hD
  refine lv_iload_n hx hb dX11_image_5 rfl (lv_at hl 1 rfl) ?_
  refine lv_iconst (v := 0) hx hb dX11_image_6 (by decide) ?_
  refine lv_iconst (v := 2) hx hb dX11_image_7 (by decide) ?_
  obtain ⟨r_1, hc_2, hF⟩ := bn_some hF
  refine xc_i (wn := (w_X11_image K g_t (0 : Int32) t_undos t_reached t_length t_begin t_sort t_value t_word t_wrongAt t_badAt t_bad t_read t_pictured t_x t_all t_text t_saved)) hP hD hS C0.2.2.1 [] [0, 1, 2, 3] [0, 1, 2, 3] rfl rfl (by decide) (by decide) rfl (by decide) (va_runS (As := [.int x1, .int (0 : Int32), .int (2 : Int32)]) (rest := []) C0.1 (c_X11_in l D K x1 (0 : Int32) (2 : Int32) r_1 hc_2 H.size) (va_cwS 3 hts gX11_image_X11_in rfl rfl rfl (by decide +kernel) ⟨Nat.le_of_ble_eq_true rfl, Nat.le_of_ble_eq_true rfl⟩) (xp_S C0.2 hP hD hS [] rfl (by decide)) rfl rfl hl.1 rfl (lv_room (Nat.le_of_ble_eq_true rfl)) dX11_image_8 ⟨Nat.le_of_ble_eq_true rfl, Nat.le_of_ble_eq_true rfl⟩) (fun H locs hP hD hS => ?_)
  refine lv_if_ne (tgt := 16) hx hb dX11_image_11 (by decide) (fun c_3 => ?_) (fun c_3 => ?_)
  · have hF := it_neg c_3 hF
    refine lv_aload_n hx hb dX11_image_16 rfl (lv_at hl 0 rfl) ?_
    refine lv_iconst (v := 0) hx hb dX11_image_17 (by decide) ?_
    refine lv_iload_n hx hb dX11_image_18 rfl (lv_at hl 1 rfl) ?_
    refine lv_iconst (v := 1) hx hb dX11_image_19 (by decide) ?_
    refine lv_iadd hx hb dX11_image_20 ?_
    obtain ⟨r_4, hc_5, hF⟩ := bn_some hF
    refine xc_v (wn := (w_X11_image K g_t (0 : Int32) t_undos t_reached t_length t_begin t_sort t_value t_word t_wrongAt t_badAt t_bad t_read t_pictured t_x r_4.1 r_4.2 t_saved)) hP hD hS C0.2.2.1 [0, 1, 2] [3] [1, 2, 3, 0] rfl rfl (by decide) (by decide) rfl (by decide) (va_runV (As := [.int (0 : Int32), .int (x1 + (1 : Int32))]) (rest := []) C0.1 (c_X11_copiesText l D K g_t (0 : Int32) t_undos t_reached t_length t_begin t_sort t_value t_word t_wrongAt t_badAt t_bad t_read t_pictured t_x t_all t_text (0 : Int32) (x1 + (1 : Int32)) r_4 hc_5 H.size) (cwV 2 hts gX11_image_X11_copiesText rfl rfl rfl (by decide +kernel) ⟨Nat.le_of_ble_eq_true rfl, Nat.le_of_ble_eq_true rfl⟩) (xp_V C0.2 hP hD hS [0, 1, 2] rfl (by decide) 10 0 rfl rfl rfl) rfl rfl hl.1 rfl (lv_room (Nat.le_of_ble_eq_true rfl)) dX11_image_21 ⟨Nat.le_of_ble_eq_true rfl, Nat.le_of_ble_eq_true rfl⟩) (fun H locs hP hD hS => ?_)
    refine lv_aload_n hx hb dX11_image_24 rfl (lv_at hl 0 rfl) ?_
    refine va_get (D := D) (ci := 10) (v := .ref (g_t 4)) (C := RX11) (T := TX11) (N := 30) hx hb hts iw_X11_image_X11 hown hK hP 0 rfl rfl 3 (by decide) (hts _ fl_X11_image_17) (fun _ h9 => h9) rfl dX11_image_25 ?_
    refine lv_iload_n hx hb dX11_image_28 rfl (lv_at hl 1 rfl) ?_
    refine lv_iconst (v := 1) hx hb dX11_image_29 (by decide) ?_
    obtain ⟨hg_6, hF⟩ := gd_some hF
    refine xs_z (f := t_saved) hx hb hK hP hD hS 3 2 rfl rfl rfl (in_v hg_6) dX11_image_30 (fun H locs hP hD hS => ?_)
    have hP : va_P D vwCl (w_X11_image K g_t (0 : Int32) t_undos t_reached t_length t_begin t_sort t_value t_word t_wrongAt t_badAt t_bad t_read t_pictured t_x r_4.1 r_4.2 (upd t_saved (x1).toNatClampNeg (vp_nar .boolean (1 : Int32)))) H := hP
    have hD : va_D A (w_X11_image K g_t (0 : Int32) t_undos t_reached t_length t_begin t_sort t_value t_word t_wrongAt t_badAt t_bad t_read t_pictured t_x r_4.1 r_4.2 (upd t_saved (x1).toNatClampNeg (vp_nar .boolean (1 : Int32)))) := hD
    refine lv_iconst (v := 1) hx hb dX11_image_31 (by decide) ?_
    obtain rfl := Option.some.inj hF
    exact HR 32 H locs ls dX11_image_32 narrow_b1 hP hD hS
  · have hF := it_pos c_3 hF
    refine lv_iconst (v := 0) hx hb dX11_image_14 (by decide) ?_
    obtain rfl := Option.some.inj hF
    exact HR 15 H locs ls dX11_image_15 narrow_b0 hP hD hS

/-! StaggerRadarModel.isTarget(I)Z -/
abbrev rmX11_isTarget : Room := { frames := 1, cells := 0, slots := 0, locals := 22 }
theorem fl_X11_isTarget_7 : Cond.fieldLink RX11 7 "StaggerRadarModel" "all" "[I" ∈ wsX11_isTarget := by decide +kernel
theorem iw_X11_isTarget_X11 : ∀ w ∈ u_ws RX11 TX11 30, w ∈ wsX11_isTarget := by decide +kernel
abbrev w_X11_isTarget (K : Nat → ClassId) (g_t : Nat → Nat) (t_raised : Int32) (t_undos : Int32) (t_reached : Int32) (t_length : Int32) (t_begin : Int32) (t_sort : Int32) (t_value : Int32) (t_word : Int64) (t_wrongAt : Int32) (t_badAt : Int32) (t_bad : Int32) (t_read : Int32) (t_pictured : Int32) (t_x : Int32) (t_all : Nat → Int32) : va_W := [((g_t 0), .inr (10, [.int t_raised, .ref (g_t 2), .ref (g_t 3), .ref (g_t 4), .ref (g_t 5), .int t_undos, .int t_reached, .int t_length, .int t_begin, .int t_sort, .int t_value, .long t_word, .int t_wrongAt, .int t_badAt, .int t_bad, .ref (g_t 16), .int t_read, .ref (g_t 18), .ref (g_t 19), .ref (g_t 20), .int t_pictured, .ref (g_t 22), .ref (g_t 23), .ref (g_t 24), .ref (g_t 25), .ref (g_t 26), .int t_x, .ref (g_t 28), .ref (g_t 29), .ref (g_t 30)])), ((g_t 2), .inl (K 0, 500, .inl t_all))]
def F_X11_isTarget (t_all : Nat → Int32) (x1 : Int32) : Option (Int32) :=
  (F_X11_in x1 (0 : Int32) ((t_all 13) - (1 : Int32))).bind fun r_1 => (gd_ (decide (r_1 &&& 1 = r_1)) (some r_1))
set_option maxHeartbeats 4000000 in
set_option maxRecDepth 100000 in
theorem c_X11_isTarget (l : Launch) (D : va_G) (K : Nat → ClassId) (g_t : Nat → Nat) (t_raised : Int32) (t_undos : Int32) (t_reached : Int32) (t_length : Int32) (t_begin : Int32) (t_sort : Int32) (t_value : Int32) (t_word : Int64) (t_wrongAt : Int32) (t_badAt : Int32) (t_bad : Int32) (t_read : Int32) (t_pictured : Int32) (t_x : Int32) (t_all : Nat → Int32) (x1 : Int32) (res : Int32) (hF : F_X11_isTarget t_all x1 = some res) :
    Mi_ l yX11_isTarget wsX11_isTarget rmX11_isTarget D K [.ref (g_t 0), .int x1] (w_X11_isTarget K g_t t_raised t_undos t_reached t_length t_begin t_sort t_value t_word t_wrongAt t_badAt t_bad t_read t_pictured t_x t_all) (w_X11_isTarget K g_t t_raised t_undos t_reached t_length t_begin t_sort t_value t_word t_wrongAt t_badAt t_bad t_read t_pictured t_x t_all) (res) := by
  refine en_z (cc := cX11_isTarget) (maxL := 2) (own := RX11) (by decide) rfl rfl (Nat.le_of_ble_eq_true rfl) ?_
  intro p e s m args below meth c A Q H locs ls C0 hP hD hS hl HR
  obtain ⟨⟨hx, hb, hml, hown, hts⟩, hK, -⟩ := id C0
  have hl : lv_has ls 2 [(0, .ref (g_t 0)), (1, .int x1)] := hl
  unfold F_X11_isTarget at hF
  refine lv_iload_n hx hb dX11_isTarget_0 rfl (lv_at hl 1 rfl) ?_
  refine lv_iconst (v := 0) hx hb dX11_isTarget_1 (by decide) ?_
  refine lv_aload_n hx hb dX11_isTarget_2 rfl (lv_at hl 0 rfl) ?_
  refine va_get (D := D) (ci := 10) (v := .ref (g_t 2)) (C := RX11) (T := TX11) (N := 30) hx hb hts iw_X11_isTarget_X11 hown hK hP 0 rfl rfl 1 (by decide) (hts _ fl_X11_isTarget_7) (fun _ h9 => h9) rfl dX11_isTarget_3 ?_
  refine lv_bipush (v := 13) hx hb dX11_isTarget_6 (by decide) ?_
  refine xl_i (f := t_all) hx hb hK hP 1 0 rfl rfl (k := 13) (by decide) (in_v (by decide)) dX11_isTarget_8 ?_
  refine lv_iconst (v := 1) hx hb dX11_isTarget_9 (by decide) ?_
  refine lv_isub hx hb dX11_isTarget_10 ?_
  obtain ⟨r_1, hc_2, hF⟩ := bn_some hF
  refine xc_i (wn := (w_X11_isTarget K g_t t_raised t_undos t_reached t_length t_begin t_sort t_value t_word t_wrongAt t_badAt t_bad t_read t_pictured t_x t_all)) hP hD hS C0.2.2.1 [] [0, 1] [0, 1] rfl rfl (by decide) (by decide) rfl (by decide) (va_runS (As := [.int x1, .int (0 : Int32), .int ((t_all 13) - (1 : Int32))]) (rest := []) C0.1 (c_X11_in l D K x1 (0 : Int32) ((t_all 13) - (1 : Int32)) r_1 hc_2 H.size) (va_cwS 3 hts gX11_isTarget_X11_in rfl rfl rfl (by decide +kernel) ⟨Nat.le_of_ble_eq_true rfl, Nat.le_of_ble_eq_true rfl⟩) (xp_S C0.2 hP hD hS [] rfl (by decide)) rfl rfl hl.1 rfl (lv_room (Nat.le_of_ble_eq_true rfl)) dX11_isTarget_11 ⟨Nat.le_of_ble_eq_true rfl, Nat.le_of_ble_eq_true rfl⟩) (fun H locs hP hD hS => ?_)
  obtain ⟨hg_3, hF⟩ := gd_some hF
  obtain rfl := Option.some.inj hF
  exact HR 14 H locs ls dX11_isTarget_14 (zn_of hg_3) hP hD hS

/-! StaggerRadarModel.numberAt(I)I -/
abbrev rmX11_numberAt : Room := { frames := 1, cells := 0, slots := 0, locals := 22 }
theorem fl_X11_numberAt_42 : Cond.fieldLink RX11 42 "StaggerRadarModel" "which" "[I" ∈ wsX11_numberAt := by decide +kernel
theorem iw_X11_numberAt_X11 : ∀ w ∈ u_ws RX11 TX11 30, w ∈ wsX11_numberAt := by decide +kernel
abbrev w_X11_numberAt (K : Nat → ClassId) (g_t : Nat → Nat) (t_raised : Int32) (t_undos : Int32) (t_reached : Int32) (t_length : Int32) (t_begin : Int32) (t_sort : Int32) (t_value : Int32) (t_word : Int64) (t_wrongAt : Int32) (t_badAt : Int32) (t_bad : Int32) (t_read : Int32) (t_pictured : Int32) (t_x : Int32) (t_all : Nat → Int32) (t_which : Nat → Int32) : va_W := [((g_t 0), .inr (10, [.int t_raised, .ref (g_t 2), .ref (g_t 3), .ref (g_t 4), .ref (g_t 5), .int t_undos, .int t_reached, .int t_length, .int t_begin, .int t_sort, .int t_value, .long t_word, .int t_wrongAt, .int t_badAt, .int t_bad, .ref (g_t 16), .int t_read, .ref (g_t 18), .ref (g_t 19), .ref (g_t 20), .int t_pictured, .ref (g_t 22), .ref (g_t 23), .ref (g_t 24), .ref (g_t 25), .ref (g_t 26), .int t_x, .ref (g_t 28), .ref (g_t 29), .ref (g_t 30)])), ((g_t 2), .inl (K 0, 500, .inl t_all)), ((g_t 24), .inl (K 0, 4, .inl t_which))]
def F_X11_numberAt (t_all : Nat → Int32) (t_which : Nat → Int32) (x1 : Int32) : Option (Int32) :=
  gd_ (in_b x1 4) ((F_X11_lookAt t_all x1 ((2 : Int32) + (t_which (x1).toNatClampNeg))).bind fun r_2 => (some r_2))
set_option maxHeartbeats 4000000 in
set_option maxRecDepth 100000 in
theorem c_X11_numberAt (l : Launch) (D : va_G) (K : Nat → ClassId) (g_t : Nat → Nat) (t_raised : Int32) (t_undos : Int32) (t_reached : Int32) (t_length : Int32) (t_begin : Int32) (t_sort : Int32) (t_value : Int32) (t_word : Int64) (t_wrongAt : Int32) (t_badAt : Int32) (t_bad : Int32) (t_read : Int32) (t_pictured : Int32) (t_x : Int32) (t_all : Nat → Int32) (t_which : Nat → Int32) (x1 : Int32) (res : Int32) (hF : F_X11_numberAt t_all t_which x1 = some res) :
    Mi_ l yX11_numberAt wsX11_numberAt rmX11_numberAt D K [.ref (g_t 0), .int x1] (w_X11_numberAt K g_t t_raised t_undos t_reached t_length t_begin t_sort t_value t_word t_wrongAt t_badAt t_bad t_read t_pictured t_x t_all t_which) (w_X11_numberAt K g_t t_raised t_undos t_reached t_length t_begin t_sort t_value t_word t_wrongAt t_badAt t_bad t_read t_pictured t_x t_all t_which) (res) := by
  refine en_i (cc := cX11_numberAt) (maxL := 2) (own := RX11) (by decide) rfl rfl (Nat.le_of_ble_eq_true rfl) ?_
  intro p e s m args below meth c A Q H locs ls C0 hP hD hS hl HR
  obtain ⟨⟨hx, hb, hml, hown, hts⟩, hK, -⟩ := id C0
  have hl : lv_has ls 2 [(0, .ref (g_t 0)), (1, .int x1)] := hl
  unfold F_X11_numberAt at hF
  refine lv_aload_n hx hb dX11_numberAt_0 rfl (lv_at hl 0 rfl) ?_
  refine lv_iload_n hx hb dX11_numberAt_1 rfl (lv_at hl 1 rfl) ?_
  refine lv_iconst (v := 2) hx hb dX11_numberAt_2 (by decide) ?_
  refine lv_aload_n hx hb dX11_numberAt_3 rfl (lv_at hl 0 rfl) ?_
  refine va_get (D := D) (ci := 10) (v := .ref (g_t 24)) (C := RX11) (T := TX11) (N := 30) hx hb hts iw_X11_numberAt_X11 hown hK hP 0 rfl rfl 23 (by decide) (hts _ fl_X11_numberAt_42) (fun _ h9 => h9) rfl dX11_numberAt_4 ?_
  refine lv_iload_n hx hb dX11_numberAt_7 rfl (lv_at hl 1 rfl) ?_
  obtain ⟨hg_1, hF⟩ := gd_some hF
  refine xl_i (f := t_which) hx hb hK hP 2 0 rfl rfl rfl (in_v hg_1) dX11_numberAt_8 ?_
  refine lv_iadd hx hb dX11_numberAt_9 ?_
  obtain ⟨r_2, hc_3, hF⟩ := bn_some hF
  refine xc_i (wn := (w_X11_numberAt K g_t t_raised t_undos t_reached t_length t_begin t_sort t_value t_word t_wrongAt t_badAt t_bad t_read t_pictured t_x t_all t_which)) hP hD hS C0.2.2.1 [0, 1] [2] [1, 2, 0] rfl rfl (by decide) (by decide) rfl (by decide) (va_runV (As := [.int x1, .int ((2 : Int32) + (t_which (x1).toNatClampNeg))]) (rest := []) C0.1 (c_X11_lookAt l D K g_t t_raised t_undos t_reached t_length t_begin t_sort t_value t_word t_wrongAt t_badAt t_bad t_read t_pictured t_x t_all x1 ((2 : Int32) + (t_which (x1).toNatClampNeg)) r_2 hc_3 H.size) (cwV 2 hts gX11_numberAt_X11_lookAt rfl rfl rfl (by decide +kernel) ⟨Nat.le_of_ble_eq_true rfl, Nat.le_of_ble_eq_true rfl⟩) (xp_V C0.2 hP hD hS [0, 1] rfl (by decide) 10 0 rfl rfl rfl) rfl rfl hl.1 rfl (lv_room (Nat.le_of_ble_eq_true rfl)) dX11_numberAt_10 ⟨Nat.le_of_ble_eq_true rfl, Nat.le_of_ble_eq_true rfl⟩) (fun H locs hP hD hS => ?_)
  obtain rfl := Option.some.inj hF
  exact HR 13 H locs ls dX11_numberAt_13 hP hD hS

/-! StaggerRadarModel.isTrack()Z -/
abbrev rmX11_isTrack : Room := { frames := 2, cells := 0, slots := 0, locals := 43 }
theorem fl_X11_isTrack_7 : Cond.fieldLink RX11 7 "StaggerRadarModel" "all" "[I" ∈ wsX11_isTrack := by decide +kernel
theorem iw_X11_isTrack_X11 : ∀ w ∈ u_ws RX11 TX11 30, w ∈ wsX11_isTrack := by decide +kernel
abbrev w_X11_isTrack (K : Nat → ClassId) (g_t : Nat → Nat) (t_raised : Int32) (t_undos : Int32) (t_reached : Int32) (t_length : Int32) (t_begin : Int32) (t_sort : Int32) (t_value : Int32) (t_word : Int64) (t_wrongAt : Int32) (t_badAt : Int32) (t_bad : Int32) (t_read : Int32) (t_pictured : Int32) (t_x : Int32) (t_all : Nat → Int32) (t_which : Nat → Int32) : va_W := [((g_t 0), .inr (10, [.int t_raised, .ref (g_t 2), .ref (g_t 3), .ref (g_t 4), .ref (g_t 5), .int t_undos, .int t_reached, .int t_length, .int t_begin, .int t_sort, .int t_value, .long t_word, .int t_wrongAt, .int t_badAt, .int t_bad, .ref (g_t 16), .int t_read, .ref (g_t 18), .ref (g_t 19), .ref (g_t 20), .int t_pictured, .ref (g_t 22), .ref (g_t 23), .ref (g_t 24), .ref (g_t 25), .ref (g_t 26), .int t_x, .ref (g_t 28), .ref (g_t 29), .ref (g_t 30)])), ((g_t 2), .inl (K 0, 500, .inl t_all)), ((g_t 24), .inl (K 0, 4, .inl t_which))]
def J_X11_isTrack_99 (t_all : Nat → Int32) (t_which : Nat → Int32) (k_42 : Int32 → Int64 → Int64 → Int32 → Option (Int32)) (x1 : Int32) (x2 : Int64) (x4 : Int64) (x6 : Int32) (s0 : Int64) : Option (Int32) :=
  if (lg_cmp s0 x2) ≤ (0 : Int32) then (k_42 x1 x2 x4 (x6 + (1 : Int32))) else (some (0 : Int32))
set_option maxHeartbeats 4000000 in
set_option maxRecDepth 100000 in
theorem w_X11_isTrack_99 {p : Program} {l : Launch} {e : Env} {s : State} {m : MethodId} {args : Array Value} {below : List Frame} {meth : Method} {c : Code} {D : va_G} {K : Nat → ClassId} {A : Nat → Prop} {Q : State → Prop} (C0 : cx_ p s m args c cX11_isTrack 9 RX11 wsX11_isTrack D K A) {g_t : Nat → Nat} {t_raised : Int32} {t_undos : Int32} {t_reached : Int32} {t_length : Int32} {t_begin : Int32} {t_sort : Int32} {t_value : Int32} {t_word : Int64} {t_wrongAt : Int32} {t_badAt : Int32} {t_bad : Int32} {t_read : Int32} {t_pictured : Int32} {t_x : Int32} {t_all : Nat → Int32} {t_which : Nat → Int32} {res : Int32} (HR : ∀ (pc : Nat) (H : Heap) (locs : List Loc) (ls : Array Slot), decode cX11_isTrack pc = .ok (.ireturn, 1) → narrow .boolean (.int res) = .int res → va_P D vwCl (w_X11_isTrack K g_t t_raised t_undos t_reached t_length t_begin t_sort t_value t_word t_wrongAt t_badAt t_bad t_read t_pictured t_x t_all t_which) H → va_D A (w_X11_isTrack K g_t t_raised t_undos t_reached t_length t_begin t_sort t_value t_word t_wrongAt t_badAt t_bad t_read t_pictured t_x t_all t_which) → va_S A s.heap H locs → W p l e rmX11_isTrack s m args below meth c H locs 0 0 Q (F0 m pc ls [.int res])) {k_42 : Int32 → Int64 → Int64 → Int32 → Option (Int32)} (HK_42 : ∀ (x1 : Int32) (x2 : Int64) (x4 : Int64) (x6 : Int32) (H : Heap) (locs : List Loc) (ls : Array Slot), va_P D vwCl (w_X11_isTrack K g_t t_raised t_undos t_reached t_length t_begin t_sort t_value t_word t_wrongAt t_badAt t_bad t_read t_pictured t_x t_all t_which) H → va_D A (w_X11_isTrack K g_t t_raised t_undos t_reached t_length t_begin t_sort t_value t_word t_wrongAt t_badAt t_bad t_read t_pictured t_x t_all t_which) → va_S A s.heap H locs → lv_has ls 9 [(0, .ref (g_t 0)), (1, .int x1), (2, .long x2), (4, .long x4), (6, .int x6)] → k_42 x1 x2 x4 x6 = some res → W p l e rmX11_isTrack s m args below meth c H locs 0 0 Q (F0 m 42 ls [])) :
    ∀ (x1 : Int32) (x2 : Int64) (x4 : Int64) (x6 : Int32) (s0 : Int64) (H : Heap) (locs : List Loc) (ls : Array Slot), va_P D vwCl (w_X11_isTrack K g_t t_raised t_undos t_reached t_length t_begin t_sort t_value t_word t_wrongAt t_badAt t_bad t_read t_pictured t_x t_all t_which) H → va_D A (w_X11_isTrack K g_t t_raised t_undos t_reached t_length t_begin t_sort t_value t_word t_wrongAt t_badAt t_bad t_read t_pictured t_x t_all t_which) → va_S A s.heap H locs → lv_has ls 9 [(0, .ref (g_t 0)), (1, .int x1), (2, .long x2), (4, .long x4), (6, .int x6)] → J_X11_isTrack_99 t_all t_which k_42 x1 x2 x4 x6 s0 = some res → W p l e rmX11_isTrack s m args below meth c H locs 0 0 Q (F0 m 99 ls [.long s0]) := by
  obtain ⟨⟨hx, hb, hml, hown, hts⟩, hK, -⟩ := id C0
  intro x1 x2 x4 x6 s0 H locs ls hP hD hS hl hF
  unfold J_X11_isTrack_99 at hF
  refine lv_lload_n hx hb dX11_isTrack_99 rfl (lv_at hl 2 rfl) ?_
  refine W.lcmp hx hb dX11_isTrack_100 ?_
  refine lv_if_le (tgt := 106) hx hb dX11_isTrack_101 (by decide) (fun c_1 => ?_) (fun c_1 => ?_)
  · have hF := it_pos c_1 hF
    refine lv_iinc (v := (x6 + (1 : Int32))) (lv' := [(6, .int (x6 + (1 : Int32))), (0, .ref (g_t 0)), (1, .int x1), (2, .long x2), (4, .long x4)]) hx hb dX11_isTrack_106 hl (k := 4) rfl (congrArg (fun z => x6 + z) (by decide)) (by decide) rfl (fun ls hl => ?_)
    refine lv_goto (tgt := 42) hx hb dX11_isTrack_109 (by decide) ?_
    exact HK_42 x1 x2 x4 (x6 + (1 : Int32)) H locs ls hP hD hS (lv_sub hl [1, 2, 3, 4, 0] rfl) hF
  · have hF := it_neg c_1 hF
    refine lv_iconst (v := 0) hx hb dX11_isTrack_104 (by decide) ?_
    obtain rfl := Option.some.inj hF
    exact HR 105 H locs ls dX11_isTrack_105 narrow_b0 hP hD hS
def L_X11_isTrack_42 (t_all : Nat → Int32) (t_which : Nat → Int32) : Nat → Int32 → Int64 → Int64 → Int32 → Option (Int32)
  | 0, _, _, _, _ => none
  | n_ + 1, x1, x2, x4, x6 =>
    if x1 < x6 then (some (1 : Int32)) else ((F_X11_numberAt t_all t_which x6).bind fun r_2 => ((F_X11_numberAt t_all t_which (0 : Int32)).bind fun r_4 => ((F_X11_lookAt t_all x6 (0 : Int32)).bind fun r_6 => ((F_X11_lookAt t_all (0 : Int32) (0 : Int32)).bind fun r_8 => (if (0 : Int32) ≤ (lg_cmp ((((r_2 - r_4)).toInt64 * x2) - (x4 * ((r_6 - r_8)).toInt64)) (0 : Int64)) then (J_X11_isTrack_99 t_all t_which (L_X11_isTrack_42 t_all t_which n_) x1 x2 x4 x6 ((((r_2 - r_4)).toInt64 * x2) - (x4 * ((r_6 - r_8)).toInt64))) else (J_X11_isTrack_99 t_all t_which (L_X11_isTrack_42 t_all t_which n_) x1 x2 x4 x6 (-((((r_2 - r_4)).toInt64 * x2) - (x4 * ((r_6 - r_8)).toInt64)))))))))
set_option maxHeartbeats 4000000 in
set_option maxRecDepth 100000 in
theorem w_X11_isTrack_42 {p : Program} {l : Launch} {e : Env} {s : State} {m : MethodId} {args : Array Value} {below : List Frame} {meth : Method} {c : Code} {D : va_G} {K : Nat → ClassId} {A : Nat → Prop} {Q : State → Prop} (C0 : cx_ p s m args c cX11_isTrack 9 RX11 wsX11_isTrack D K A) {g_t : Nat → Nat} {t_raised : Int32} {t_undos : Int32} {t_reached : Int32} {t_length : Int32} {t_begin : Int32} {t_sort : Int32} {t_value : Int32} {t_word : Int64} {t_wrongAt : Int32} {t_badAt : Int32} {t_bad : Int32} {t_read : Int32} {t_pictured : Int32} {t_x : Int32} {t_all : Nat → Int32} {t_which : Nat → Int32} {res : Int32} (HR : ∀ (pc : Nat) (H : Heap) (locs : List Loc) (ls : Array Slot), decode cX11_isTrack pc = .ok (.ireturn, 1) → narrow .boolean (.int res) = .int res → va_P D vwCl (w_X11_isTrack K g_t t_raised t_undos t_reached t_length t_begin t_sort t_value t_word t_wrongAt t_badAt t_bad t_read t_pictured t_x t_all t_which) H → va_D A (w_X11_isTrack K g_t t_raised t_undos t_reached t_length t_begin t_sort t_value t_word t_wrongAt t_badAt t_bad t_read t_pictured t_x t_all t_which) → va_S A s.heap H locs → W p l e rmX11_isTrack s m args below meth c H locs 0 0 Q (F0 m pc ls [.int res]))  :
    ∀ (n_ : Nat) (x1 : Int32) (x2 : Int64) (x4 : Int64) (x6 : Int32) (H : Heap) (locs : List Loc) (ls : Array Slot), va_P D vwCl (w_X11_isTrack K g_t t_raised t_undos t_reached t_length t_begin t_sort t_value t_word t_wrongAt t_badAt t_bad t_read t_pictured t_x t_all t_which) H → va_D A (w_X11_isTrack K g_t t_raised t_undos t_reached t_length t_begin t_sort t_value t_word t_wrongAt t_badAt t_bad t_read t_pictured t_x t_all t_which) → va_S A s.heap H locs → lv_has ls 9 [(0, .ref (g_t 0)), (1, .int x1), (2, .long x2), (4, .long x4), (6, .int x6)] → L_X11_isTrack_42 t_all t_which n_ x1 x2 x4 x6 = some res → W p l e rmX11_isTrack s m args below meth c H locs 0 0 Q (F0 m 42 ls []) := by
  obtain ⟨⟨hx, hb, hml, hown, hts⟩, hK, -⟩ := id C0
  intro n_
  induction n_ with
  | zero =>
    intro x1 x2 x4 x6 H locs ls hP hD hS hl hF
    exact no_s (show (none : Option (Int32)) = some res from hF)
  | succ n_ ih =>
    intro x1 x2 x4 x6 H locs ls hP hD hS hl hF
    rw [L_X11_isTrack_42] at hF
    refine lv_iload hx hb dX11_isTrack_42 (lv_at hl 4 rfl) ?_
    refine lv_iload_n hx hb dX11_isTrack_44 rfl (lv_at hl 1 rfl) ?_
    refine lv_icmp_gt (tgt := 112) hx hb dX11_isTrack_45 (by decide) (fun c_1 => ?_) (fun c_1 => ?_)
    · have hF := it_pos c_1 hF
      refine lv_iconst (v := 1) hx hb dX11_isTrack_112 (by decide) ?_
      obtain rfl := Option.some.inj hF
      exact HR 113 H locs ls dX11_isTrack_113 narrow_b1 hP hD hS
    · have hF := it_neg c_1 hF
      refine lv_aload_n hx hb dX11_isTrack_48 rfl (lv_at hl 0 rfl) ?_
      refine lv_iload hx hb dX11_isTrack_49 (lv_at hl 4 rfl) ?_
      obtain ⟨r_2, hc_3, hF⟩ := bn_some hF
      refine xc_i (wn := (w_X11_isTrack K g_t t_raised t_undos t_reached t_length t_begin t_sort t_value t_word t_wrongAt t_badAt t_bad t_read t_pictured t_x t_all t_which)) hP hD hS C0.2.2.1 [0, 1, 2] [] [0, 1, 2] rfl rfl (by decide) (by decide) rfl (by decide) (va_runV (As := [.int x6]) (rest := []) C0.1 (c_X11_numberAt l D K g_t t_raised t_undos t_reached t_length t_begin t_sort t_value t_word t_wrongAt t_badAt t_bad t_read t_pictured t_x t_all t_which x6 r_2 hc_3 H.size) (cwV 1 hts gX11_isTrack_X11_numberAt rfl rfl rfl (by decide +kernel) ⟨Nat.le_of_ble_eq_true rfl, Nat.le_of_ble_eq_true rfl⟩) (xp_V C0.2 hP hD hS [0, 1, 2] rfl (by decide) 10 0 rfl rfl rfl) rfl rfl hl.1 rfl (lv_room (Nat.le_of_ble_eq_true rfl)) dX11_isTrack_51 ⟨Nat.le_of_ble_eq_true rfl, Nat.le_of_ble_eq_true rfl⟩) (fun H locs hP hD hS => ?_)
      refine lv_aload_n hx hb dX11_isTrack_54 rfl (lv_at hl 0 rfl) ?_
      refine lv_iconst (v := 0) hx hb dX11_isTrack_55 (by decide) ?_
      obtain ⟨r_4, hc_5, hF⟩ := bn_some hF
      refine xc_i (wn := (w_X11_isTrack K g_t t_raised t_undos t_reached t_length t_begin t_sort t_value t_word t_wrongAt t_badAt t_bad t_read t_pictured t_x t_all t_which)) hP hD hS C0.2.2.1 [0, 1, 2] [] [0, 1, 2] rfl rfl (by decide) (by decide) rfl (by decide) (va_runV (As := [.int (0 : Int32)]) (rest := [.int r_2]) C0.1 (c_X11_numberAt l D K g_t t_raised t_undos t_reached t_length t_begin t_sort t_value t_word t_wrongAt t_badAt t_bad t_read t_pictured t_x t_all t_which (0 : Int32) r_4 hc_5 H.size) (cwV 1 hts gX11_isTrack_X11_numberAt rfl rfl rfl (by decide +kernel) ⟨Nat.le_of_ble_eq_true rfl, Nat.le_of_ble_eq_true rfl⟩) (xp_V C0.2 hP hD hS [0, 1, 2] rfl (by decide) 10 0 rfl rfl rfl) rfl rfl hl.1 rfl (lv_room (Nat.le_of_ble_eq_true rfl)) dX11_isTrack_56 ⟨Nat.le_of_ble_eq_true rfl, Nat.le_of_ble_eq_true rfl⟩) (fun H locs hP hD hS => ?_)
      refine lv_isub hx hb dX11_isTrack_59 ?_
      refine lv_i2l hx hb dX11_isTrack_60 rfl ?_
      refine lv_lload_n hx hb dX11_isTrack_61 rfl (lv_at hl 2 rfl) ?_
      refine lv_lmul hx hb dX11_isTrack_62 ?_
      refine lv_lload hx hb dX11_isTrack_63 (lv_at hl 3 rfl) ?_
      refine lv_aload_n hx hb dX11_isTrack_65 rfl (lv_at hl 0 rfl) ?_
      refine lv_iload hx hb dX11_isTrack_66 (lv_at hl 4 rfl) ?_
      refine lv_iconst (v := 0) hx hb dX11_isTrack_68 (by decide) ?_
      obtain ⟨r_6, hc_7, hF⟩ := bn_some hF
      refine xc_i (wn := (w_X11_isTrack K g_t t_raised t_undos t_reached t_length t_begin t_sort t_value t_word t_wrongAt t_badAt t_bad t_read t_pictured t_x t_all t_which)) hP hD hS C0.2.2.1 [0, 1] [2] [1, 2, 0] rfl rfl (by decide) (by decide) rfl (by decide) (va_runV (As := [.int x6, .int (0 : Int32)]) (rest := [.long x4, .long (((r_2 - r_4)).toInt64 * x2)]) C0.1 (c_X11_lookAt l D K g_t t_raised t_undos t_reached t_length t_begin t_sort t_value t_word t_wrongAt t_badAt t_bad t_read t_pictured t_x t_all x6 (0 : Int32) r_6 hc_7 H.size) (cwV 2 hts gX11_isTrack_X11_lookAt rfl rfl rfl (by decide +kernel) ⟨Nat.le_of_ble_eq_true rfl, Nat.le_of_ble_eq_true rfl⟩) (xp_V C0.2 hP hD hS [0, 1] rfl (by decide) 10 0 rfl rfl rfl) rfl rfl hl.1 rfl (lv_room (Nat.le_of_ble_eq_true rfl)) dX11_isTrack_69 ⟨Nat.le_of_ble_eq_true rfl, Nat.le_of_ble_eq_true rfl⟩) (fun H locs hP hD hS => ?_)
      refine lv_aload_n hx hb dX11_isTrack_72 rfl (lv_at hl 0 rfl) ?_
      refine lv_iconst (v := 0) hx hb dX11_isTrack_73 (by decide) ?_
      refine lv_iconst (v := 0) hx hb dX11_isTrack_74 (by decide) ?_
      obtain ⟨r_8, hc_9, hF⟩ := bn_some hF
      refine xc_i (wn := (w_X11_isTrack K g_t t_raised t_undos t_reached t_length t_begin t_sort t_value t_word t_wrongAt t_badAt t_bad t_read t_pictured t_x t_all t_which)) hP hD hS C0.2.2.1 [0, 1] [2] [1, 2, 0] rfl rfl (by decide) (by decide) rfl (by decide) (va_runV (As := [.int (0 : Int32), .int (0 : Int32)]) (rest := [.int r_6, .long x4, .long (((r_2 - r_4)).toInt64 * x2)]) C0.1 (c_X11_lookAt l D K g_t t_raised t_undos t_reached t_length t_begin t_sort t_value t_word t_wrongAt t_badAt t_bad t_read t_pictured t_x t_all (0 : Int32) (0 : Int32) r_8 hc_9 H.size) (cwV 2 hts gX11_isTrack_X11_lookAt rfl rfl rfl (by decide +kernel) ⟨Nat.le_of_ble_eq_true rfl, Nat.le_of_ble_eq_true rfl⟩) (xp_V C0.2 hP hD hS [0, 1] rfl (by decide) 10 0 rfl rfl rfl) rfl rfl hl.1 rfl (lv_room (Nat.le_of_ble_eq_true rfl)) dX11_isTrack_75 ⟨Nat.le_of_ble_eq_true rfl, Nat.le_of_ble_eq_true rfl⟩) (fun H locs hP hD hS => ?_)
      refine lv_isub hx hb dX11_isTrack_78 ?_
      refine lv_i2l hx hb dX11_isTrack_79 rfl ?_
      refine lv_lmul hx hb dX11_isTrack_80 ?_
      refine lv_lsub hx hb dX11_isTrack_81 ?_
      refine lv_lstore (lv' := [(7, .long ((((r_2 - r_4)).toInt64 * x2) - (x4 * ((r_6 - r_8)).toInt64))), (0, .ref (g_t 0)), (1, .int x1), (2, .long x2), (4, .long x4), (6, .int x6)]) hx hb dX11_isTrack_82 hl (by decide) rfl (fun ls hl => ?_)
      refine lv_lload hx hb dX11_isTrack_84 (lv_at hl 0 rfl) ?_
      refine lv_lconst (v := 0) hx hb dX11_isTrack_86 (by decide) ?_
      refine W.lcmp hx hb dX11_isTrack_87 ?_
      refine lv_if_ge (tgt := 97) hx hb dX11_isTrack_88 (by decide) (fun c_10 => ?_) (fun c_10 => ?_)
      · have hF := it_pos c_10 hF
        refine lv_lload hx hb dX11_isTrack_97 (lv_at hl 0 rfl) ?_
        exact w_X11_isTrack_99 C0 HR ih x1 x2 x4 x6 ((((r_2 - r_4)).toInt64 * x2) - (x4 * ((r_6 - r_8)).toInt64)) H locs ls hP hD hS (lv_sub hl [1, 2, 3, 4, 5] rfl) hF
      · have hF := it_neg c_10 hF
        refine lv_lload hx hb dX11_isTrack_91 (lv_at hl 0 rfl) ?_
        refine lv_lneg hx hb dX11_isTrack_93 ?_
        refine lv_goto (tgt := 99) hx hb dX11_isTrack_94 (by decide) ?_
        exact w_X11_isTrack_99 C0 HR ih x1 x2 x4 x6 (-((((r_2 - r_4)).toInt64 * x2) - (x4 * ((r_6 - r_8)).toInt64))) H locs ls hP hD hS (lv_sub hl [1, 2, 3, 4, 5] rfl) hF
def F_X11_isTrack (t_all : Nat → Int32) (t_which : Nat → Int32) : Option (Int32) :=
  (F_X11_lookAt t_all ((t_all 40) - (1 : Int32)) (0 : Int32)).bind fun r_1 => ((F_X11_lookAt t_all (0 : Int32) (0 : Int32)).bind fun r_3 => ((F_X11_numberAt t_all t_which ((t_all 40) - (1 : Int32))).bind fun r_5 => ((F_X11_numberAt t_all t_which (0 : Int32)).bind fun r_7 => (L_X11_isTrack_42 t_all t_which fu_ ((t_all 40) - (1 : Int32)) (((r_1 - r_3)).toInt64) (((r_5 - r_7)).toInt64) (0 : Int32)))))
set_option maxHeartbeats 4000000 in
set_option maxRecDepth 100000 in
theorem c_X11_isTrack (l : Launch) (D : va_G) (K : Nat → ClassId) (g_t : Nat → Nat) (t_raised : Int32) (t_undos : Int32) (t_reached : Int32) (t_length : Int32) (t_begin : Int32) (t_sort : Int32) (t_value : Int32) (t_word : Int64) (t_wrongAt : Int32) (t_badAt : Int32) (t_bad : Int32) (t_read : Int32) (t_pictured : Int32) (t_x : Int32) (t_all : Nat → Int32) (t_which : Nat → Int32) (res : Int32) (hF : F_X11_isTrack t_all t_which = some res) :
    Mi_ l yX11_isTrack wsX11_isTrack rmX11_isTrack D K [.ref (g_t 0)] (w_X11_isTrack K g_t t_raised t_undos t_reached t_length t_begin t_sort t_value t_word t_wrongAt t_badAt t_bad t_read t_pictured t_x t_all t_which) (w_X11_isTrack K g_t t_raised t_undos t_reached t_length t_begin t_sort t_value t_word t_wrongAt t_badAt t_bad t_read t_pictured t_x t_all t_which) (res) := by
  refine en_z (cc := cX11_isTrack) (maxL := 9) (own := RX11) (by decide) rfl rfl (Nat.le_of_ble_eq_true rfl) ?_
  intro p e s m args below meth c A Q H locs ls C0 hP hD hS hl HR
  obtain ⟨⟨hx, hb, hml, hown, hts⟩, hK, -⟩ := id C0
  have hl : lv_has ls 9 [(0, .ref (g_t 0))] := hl
  unfold F_X11_isTrack at hF
  refine lv_aload_n hx hb dX11_isTrack_0 rfl (lv_at hl 0 rfl) ?_
  refine va_get (D := D) (ci := 10) (v := .ref (g_t 2)) (C := RX11) (T := TX11) (N := 30) hx hb hts iw_X11_isTrack_X11 hown hK hP 0 rfl rfl 1 (by decide) (hts _ fl_X11_isTrack_7) (fun _ h9 => h9) rfl dX11_isTrack_1 ?_
  refine lv_bipush (v := 40) hx hb dX11_isTrack_4 (by decide) ?_
  refine xl_i (f := t_all) hx hb hK hP 1 0 rfl rfl (k := 40) (by decide) (in_v (by decide)) dX11_isTrack_6 ?_
  refine lv_iconst (v := 1) hx hb dX11_isTrack_7 (by decide) ?_
  refine lv_isub hx hb dX11_isTrack_8 ?_
  refine lv_istore_n (lv' := [(1, .int ((t_all 40) - (1 : Int32))), (0, .ref (g_t 0))]) hx hb dX11_isTrack_9 rfl hl (by decide) rfl (fun ls hl => ?_)
  refine lv_aload_n hx hb dX11_isTrack_10 rfl (lv_at hl 1 rfl) ?_
  refine lv_iload_n hx hb dX11_isTrack_11 rfl (lv_at hl 0 rfl) ?_
  refine lv_iconst (v := 0) hx hb dX11_isTrack_12 (by decide) ?_
  obtain ⟨r_1, hc_2, hF⟩ := bn_some hF
  refine xc_i (wn := (w_X11_isTrack K g_t t_raised t_undos t_reached t_length t_begin t_sort t_value t_word t_wrongAt t_badAt t_bad t_read t_pictured t_x t_all t_which)) hP hD hS C0.2.2.1 [0, 1] [2] [1, 2, 0] rfl rfl (by decide) (by decide) rfl (by decide) (va_runV (As := [.int ((t_all 40) - (1 : Int32)), .int (0 : Int32)]) (rest := []) C0.1 (c_X11_lookAt l D K g_t t_raised t_undos t_reached t_length t_begin t_sort t_value t_word t_wrongAt t_badAt t_bad t_read t_pictured t_x t_all ((t_all 40) - (1 : Int32)) (0 : Int32) r_1 hc_2 H.size) (cwV 2 hts gX11_isTrack_X11_lookAt rfl rfl rfl (by decide +kernel) ⟨Nat.le_of_ble_eq_true rfl, Nat.le_of_ble_eq_true rfl⟩) (xp_V C0.2 hP hD hS [0, 1] rfl (by decide) 10 0 rfl rfl rfl) rfl rfl hl.1 rfl (lv_room (Nat.le_of_ble_eq_true rfl)) dX11_isTrack_13 ⟨Nat.le_of_ble_eq_true rfl, Nat.le_of_ble_eq_true rfl⟩) (fun H locs hP hD hS => ?_)
  refine lv_aload_n hx hb dX11_isTrack_16 rfl (lv_at hl 1 rfl) ?_
  refine lv_iconst (v := 0) hx hb dX11_isTrack_17 (by decide) ?_
  refine lv_iconst (v := 0) hx hb dX11_isTrack_18 (by decide) ?_
  obtain ⟨r_3, hc_4, hF⟩ := bn_some hF
  refine xc_i (wn := (w_X11_isTrack K g_t t_raised t_undos t_reached t_length t_begin t_sort t_value t_word t_wrongAt t_badAt t_bad t_read t_pictured t_x t_all t_which)) hP hD hS C0.2.2.1 [0, 1] [2] [1, 2, 0] rfl rfl (by decide) (by decide) rfl (by decide) (va_runV (As := [.int (0 : Int32), .int (0 : Int32)]) (rest := [.int r_1]) C0.1 (c_X11_lookAt l D K g_t t_raised t_undos t_reached t_length t_begin t_sort t_value t_word t_wrongAt t_badAt t_bad t_read t_pictured t_x t_all (0 : Int32) (0 : Int32) r_3 hc_4 H.size) (cwV 2 hts gX11_isTrack_X11_lookAt rfl rfl rfl (by decide +kernel) ⟨Nat.le_of_ble_eq_true rfl, Nat.le_of_ble_eq_true rfl⟩) (xp_V C0.2 hP hD hS [0, 1] rfl (by decide) 10 0 rfl rfl rfl) rfl rfl hl.1 rfl (lv_room (Nat.le_of_ble_eq_true rfl)) dX11_isTrack_19 ⟨Nat.le_of_ble_eq_true rfl, Nat.le_of_ble_eq_true rfl⟩) (fun H locs hP hD hS => ?_)
  refine lv_isub hx hb dX11_isTrack_22 ?_
  refine lv_i2l hx hb dX11_isTrack_23 rfl ?_
  refine lv_lstore_n (lv' := [(2, .long (((r_1 - r_3)).toInt64)), (1, .int ((t_all 40) - (1 : Int32))), (0, .ref (g_t 0))]) hx hb dX11_isTrack_24 rfl hl (by decide) rfl (fun ls hl => ?_)
  refine lv_aload_n hx hb dX11_isTrack_25 rfl (lv_at hl 2 rfl) ?_
  refine lv_iload_n hx hb dX11_isTrack_26 rfl (lv_at hl 1 rfl) ?_
  obtain ⟨r_5, hc_6, hF⟩ := bn_some hF
  refine xc_i (wn := (w_X11_isTrack K g_t t_raised t_undos t_reached t_length t_begin t_sort t_value t_word t_wrongAt t_badAt t_bad t_read t_pictured t_x t_all t_which)) hP hD hS C0.2.2.1 [0, 1, 2] [] [0, 1, 2] rfl rfl (by decide) (by decide) rfl (by decide) (va_runV (As := [.int ((t_all 40) - (1 : Int32))]) (rest := []) C0.1 (c_X11_numberAt l D K g_t t_raised t_undos t_reached t_length t_begin t_sort t_value t_word t_wrongAt t_badAt t_bad t_read t_pictured t_x t_all t_which ((t_all 40) - (1 : Int32)) r_5 hc_6 H.size) (cwV 1 hts gX11_isTrack_X11_numberAt rfl rfl rfl (by decide +kernel) ⟨Nat.le_of_ble_eq_true rfl, Nat.le_of_ble_eq_true rfl⟩) (xp_V C0.2 hP hD hS [0, 1, 2] rfl (by decide) 10 0 rfl rfl rfl) rfl rfl hl.1 rfl (lv_room (Nat.le_of_ble_eq_true rfl)) dX11_isTrack_27 ⟨Nat.le_of_ble_eq_true rfl, Nat.le_of_ble_eq_true rfl⟩) (fun H locs hP hD hS => ?_)
  refine lv_aload_n hx hb dX11_isTrack_30 rfl (lv_at hl 2 rfl) ?_
  refine lv_iconst (v := 0) hx hb dX11_isTrack_31 (by decide) ?_
  obtain ⟨r_7, hc_8, hF⟩ := bn_some hF
  refine xc_i (wn := (w_X11_isTrack K g_t t_raised t_undos t_reached t_length t_begin t_sort t_value t_word t_wrongAt t_badAt t_bad t_read t_pictured t_x t_all t_which)) hP hD hS C0.2.2.1 [0, 1, 2] [] [0, 1, 2] rfl rfl (by decide) (by decide) rfl (by decide) (va_runV (As := [.int (0 : Int32)]) (rest := [.int r_5]) C0.1 (c_X11_numberAt l D K g_t t_raised t_undos t_reached t_length t_begin t_sort t_value t_word t_wrongAt t_badAt t_bad t_read t_pictured t_x t_all t_which (0 : Int32) r_7 hc_8 H.size) (cwV 1 hts gX11_isTrack_X11_numberAt rfl rfl rfl (by decide +kernel) ⟨Nat.le_of_ble_eq_true rfl, Nat.le_of_ble_eq_true rfl⟩) (xp_V C0.2 hP hD hS [0, 1, 2] rfl (by decide) 10 0 rfl rfl rfl) rfl rfl hl.1 rfl (lv_room (Nat.le_of_ble_eq_true rfl)) dX11_isTrack_32 ⟨Nat.le_of_ble_eq_true rfl, Nat.le_of_ble_eq_true rfl⟩) (fun H locs hP hD hS => ?_)
  refine lv_isub hx hb dX11_isTrack_35 ?_
  refine lv_i2l hx hb dX11_isTrack_36 rfl ?_
  refine lv_lstore (lv' := [(4, .long (((r_5 - r_7)).toInt64)), (2, .long (((r_1 - r_3)).toInt64)), (1, .int ((t_all 40) - (1 : Int32))), (0, .ref (g_t 0))]) hx hb dX11_isTrack_37 hl (by decide) rfl (fun ls hl => ?_)
  refine lv_iconst (v := 0) hx hb dX11_isTrack_39 (by decide) ?_
  refine lv_istore (lv' := [(6, .int (0 : Int32)), (4, .long (((r_5 - r_7)).toInt64)), (2, .long (((r_1 - r_3)).toInt64)), (1, .int ((t_all 40) - (1 : Int32))), (0, .ref (g_t 0))]) hx hb dX11_isTrack_40 hl (by decide) rfl (fun ls hl => ?_)
  exact w_X11_isTrack_42 C0 HR fu_ ((t_all 40) - (1 : Int32)) (((r_1 - r_3)).toInt64) (((r_5 - r_7)).toInt64) (0 : Int32) H locs ls hP hD hS (lv_sub hl [4, 3, 2, 1, 0] rfl) hF

/-! StaggerRadarModel.joined(IIIII)I -/
abbrev rmX11_joined : Room := { frames := 1, cells := 0, slots := 0, locals := 29 }
theorem fl_X11_joined_7 : Cond.fieldLink RX11 7 "StaggerRadarModel" "all" "[I" ∈ wsX11_joined := by decide +kernel
theorem fl_X11_joined_39 : Cond.fieldLink RX11 39 "StaggerRadarModel" "places" "[I" ∈ wsX11_joined := by decide +kernel
theorem fl_X11_joined_66 : Cond.fieldLink RX11 66 "StaggerRadarModel" "raised" "I" ∈ wsX11_joined := by decide +kernel
theorem iw_X11_joined_X11 : ∀ w ∈ u_ws RX11 TX11 30, w ∈ wsX11_joined := by decide +kernel
abbrev w_X11_joined (K : Nat → ClassId) (g_t : Nat → Nat) (t_raised : Int32) (t_undos : Int32) (t_reached : Int32) (t_length : Int32) (t_begin : Int32) (t_sort : Int32) (t_value : Int32) (t_word : Int64) (t_wrongAt : Int32) (t_badAt : Int32) (t_bad : Int32) (t_read : Int32) (t_pictured : Int32) (t_x : Int32) (t_all : Nat → Int32) (t_places : Nat → Int32) : va_W := [((g_t 0), .inr (10, [.int t_raised, .ref (g_t 2), .ref (g_t 3), .ref (g_t 4), .ref (g_t 5), .int t_undos, .int t_reached, .int t_length, .int t_begin, .int t_sort, .int t_value, .long t_word, .int t_wrongAt, .int t_badAt, .int t_bad, .ref (g_t 16), .int t_read, .ref (g_t 18), .ref (g_t 19), .ref (g_t 20), .int t_pictured, .ref (g_t 22), .ref (g_t 23), .ref (g_t 24), .ref (g_t 25), .ref (g_t 26), .int t_x, .ref (g_t 28), .ref (g_t 29), .ref (g_t 30)])), ((g_t 2), .inl (K 0, 500, .inl t_all)), ((g_t 23), .inl (K 0, 5, .inl t_places))]
def J_X11_joined_124 (t_all : Nat → Int32) (k_51 : Int32 → (Nat → Int32) → Int64 → Int64 → Int32 → Option (Int32 × Int32 × (Nat → Int32))) (t_raised : Int32) (t_places : Nat → Int32) (x6 : Int64) (x8 : Int64) (x10 : Int32) : Option (Int32 × Int32 × (Nat → Int32)) :=
  (F_X11_gapAt t_all x10).bind fun r_1 => (gd_ (decide (¬ (r_1).toInt64 = 0)) (gd_ (in_b x10 5) (if (lg_cmp (x6 - x6 / (r_1).toInt64 * (r_1).toInt64) (((t_places (x10).toNatClampNeg)).toInt64)) = (0 : Int32) then ((F_X11_gapAt t_all x10).bind fun r_6 => ((F_X11_measure x8 ((r_6).toInt64)).bind fun r_8 => (gd_ (decide (¬ r_8 = 0)) ((F_X11_gapAt t_all x10).bind fun r_11 => (gd_ (decide (¬ ((x8 / r_8) * (r_11).toInt64) = 0)) (k_51 t_raised t_places (x6 - x6 / ((x8 / r_8) * (r_11).toInt64) * ((x8 / r_8) * (r_11).toInt64)) ((x8 / r_8) * (r_11).toInt64) (x10 + (1 : Int32)))))))) else (some ((-1 : Int32), t_raised, t_places)))))
set_option maxHeartbeats 4000000 in
set_option maxRecDepth 100000 in
theorem w_X11_joined_124 {p : Program} {l : Launch} {e : Env} {s : State} {m : MethodId} {args : Array Value} {below : List Frame} {meth : Method} {c : Code} {D : va_G} {K : Nat → ClassId} {A : Nat → Prop} {Q : State → Prop} (C0 : cx_ p s m args c cX11_joined 12 RX11 wsX11_joined D K A) {g_t : Nat → Nat} {t_undos : Int32} {t_reached : Int32} {t_length : Int32} {t_begin : Int32} {t_sort : Int32} {t_value : Int32} {t_word : Int64} {t_wrongAt : Int32} {t_badAt : Int32} {t_bad : Int32} {t_read : Int32} {t_pictured : Int32} {t_x : Int32} {t_all : Nat → Int32} {res : Int32 × Int32 × (Nat → Int32)} (HR : ∀ (pc : Nat) (H : Heap) (locs : List Loc) (ls : Array Slot), decode cX11_joined pc = .ok (.ireturn, 1) → va_P D vwCl (w_X11_joined K g_t res.2.1 t_undos t_reached t_length t_begin t_sort t_value t_word t_wrongAt t_badAt t_bad t_read t_pictured t_x t_all res.2.2) H → va_D A (w_X11_joined K g_t res.2.1 t_undos t_reached t_length t_begin t_sort t_value t_word t_wrongAt t_badAt t_bad t_read t_pictured t_x t_all res.2.2) → va_S A s.heap H locs → W p l e rmX11_joined s m args below meth c H locs 0 0 Q (F0 m pc ls [.int res.1])) {k_51 : Int32 → (Nat → Int32) → Int64 → Int64 → Int32 → Option (Int32 × Int32 × (Nat → Int32))} (HK_51 : ∀ (t_raised : Int32) (t_places : Nat → Int32) (x6 : Int64) (x8 : Int64) (x10 : Int32) (H : Heap) (locs : List Loc) (ls : Array Slot), va_P D vwCl (w_X11_joined K g_t t_raised t_undos t_reached t_length t_begin t_sort t_value t_word t_wrongAt t_badAt t_bad t_read t_pictured t_x t_all t_places) H → va_D A (w_X11_joined K g_t t_raised t_undos t_reached t_length t_begin t_sort t_value t_word t_wrongAt t_badAt t_bad t_read t_pictured t_x t_all t_places) → va_S A s.heap H locs → lv_has ls 12 [(0, .ref (g_t 0)), (6, .long x6), (8, .long x8), (10, .int x10)] → k_51 t_raised t_places x6 x8 x10 = some res → W p l e rmX11_joined s m args below meth c H locs 0 0 Q (F0 m 51 ls [])) :
    ∀ (t_raised : Int32) (t_places : Nat → Int32) (x6 : Int64) (x8 : Int64) (x10 : Int32) (H : Heap) (locs : List Loc) (ls : Array Slot), va_P D vwCl (w_X11_joined K g_t t_raised t_undos t_reached t_length t_begin t_sort t_value t_word t_wrongAt t_badAt t_bad t_read t_pictured t_x t_all t_places) H → va_D A (w_X11_joined K g_t t_raised t_undos t_reached t_length t_begin t_sort t_value t_word t_wrongAt t_badAt t_bad t_read t_pictured t_x t_all t_places) → va_S A s.heap H locs → lv_has ls 12 [(0, .ref (g_t 0)), (6, .long x6), (8, .long x8), (10, .int x10)] → J_X11_joined_124 t_all k_51 t_raised t_places x6 x8 x10 = some res → W p l e rmX11_joined s m args below meth c H locs 0 0 Q (F0 m 124 ls []) := by
  obtain ⟨⟨hx, hb, hml, hown, hts⟩, hK, -⟩ := id C0
  intro t_raised t_places x6 x8 x10 H locs ls hP hD hS hl hF
  unfold J_X11_joined_124 at hF
  refine lv_lload hx hb dX11_joined_124 (lv_at hl 1 rfl) ?_
  refine lv_aload_n hx hb dX11_joined_126 rfl (lv_at hl 0 rfl) ?_
  refine lv_iload hx hb dX11_joined_127 (lv_at hl 3 rfl) ?_
  obtain ⟨r_1, hc_2, hF⟩ := bn_some hF
  refine xc_i (wn := (w_X11_joined K g_t t_raised t_undos t_reached t_length t_begin t_sort t_value t_word t_wrongAt t_badAt t_bad t_read t_pictured t_x t_all t_places)) hP hD hS C0.2.2.1 [0, 1] [2] [1, 2, 0] rfl rfl (by decide) (by decide) rfl (by decide) (va_runV (As := [.int x10]) (rest := [.long x6]) C0.1 (c_X11_gapAt l D K g_t t_raised t_undos t_reached t_length t_begin t_sort t_value t_word t_wrongAt t_badAt t_bad t_read t_pictured t_x t_all x10 r_1 hc_2 H.size) (cwV 1 hts gX11_joined_X11_gapAt rfl rfl rfl (by decide +kernel) ⟨Nat.le_of_ble_eq_true rfl, Nat.le_of_ble_eq_true rfl⟩) (xp_V C0.2 hP hD hS [0, 1] rfl (by decide) 10 0 rfl rfl rfl) rfl rfl hl.1 rfl (lv_room (Nat.le_of_ble_eq_true rfl)) dX11_joined_129 ⟨Nat.le_of_ble_eq_true rfl, Nat.le_of_ble_eq_true rfl⟩) (fun H locs hP hD hS => ?_)
  refine lv_i2l hx hb dX11_joined_132 rfl ?_
  obtain ⟨hg_3, hF⟩ := gd_some hF
  refine lv_lrem hx hb dX11_joined_133 (nl_of hg_3) ?_
  refine lv_aload_n hx hb dX11_joined_134 rfl (lv_at hl 0 rfl) ?_
  refine va_get (D := D) (ci := 10) (v := .ref (g_t 23)) (C := RX11) (T := TX11) (N := 30) hx hb hts iw_X11_joined_X11 hown hK hP 0 rfl rfl 22 (by decide) (hts _ fl_X11_joined_39) (fun _ h9 => h9) rfl dX11_joined_135 ?_
  refine lv_iload hx hb dX11_joined_138 (lv_at hl 3 rfl) ?_
  obtain ⟨hg_4, hF⟩ := gd_some hF
  refine xl_i (f := t_places) hx hb hK hP 2 0 rfl rfl rfl (in_v hg_4) dX11_joined_140 ?_
  refine lv_i2l hx hb dX11_joined_141 rfl ?_
  refine W.lcmp hx hb dX11_joined_142 ?_
  refine lv_if_eq (tgt := 148) hx hb dX11_joined_143 (by decide) (fun c_5 => ?_) (fun c_5 => ?_)
  · have hF := it_pos c_5 hF
    refine lv_lload hx hb dX11_joined_148 (lv_at hl 2 rfl) ?_
    refine lv_lload hx hb dX11_joined_150 (lv_at hl 2 rfl) ?_
    refine lv_aload_n hx hb dX11_joined_152 rfl (lv_at hl 0 rfl) ?_
    refine lv_iload hx hb dX11_joined_153 (lv_at hl 3 rfl) ?_
    obtain ⟨r_6, hc_7, hF⟩ := bn_some hF
    refine xc_i (wn := (w_X11_joined K g_t t_raised t_undos t_reached t_length t_begin t_sort t_value t_word t_wrongAt t_badAt t_bad t_read t_pictured t_x t_all t_places)) hP hD hS C0.2.2.1 [0, 1] [2] [1, 2, 0] rfl rfl (by decide) (by decide) rfl (by decide) (va_runV (As := [.int x10]) (rest := [.long x8, .long x8]) C0.1 (c_X11_gapAt l D K g_t t_raised t_undos t_reached t_length t_begin t_sort t_value t_word t_wrongAt t_badAt t_bad t_read t_pictured t_x t_all x10 r_6 hc_7 H.size) (cwV 1 hts gX11_joined_X11_gapAt rfl rfl rfl (by decide +kernel) ⟨Nat.le_of_ble_eq_true rfl, Nat.le_of_ble_eq_true rfl⟩) (xp_V C0.2 hP hD hS [0, 1] rfl (by decide) 10 0 rfl rfl rfl) rfl rfl hl.1 rfl (lv_room (Nat.le_of_ble_eq_true rfl)) dX11_joined_155 ⟨Nat.le_of_ble_eq_true rfl, Nat.le_of_ble_eq_true rfl⟩) (fun H locs hP hD hS => ?_)
    refine lv_i2l hx hb dX11_joined_158 rfl ?_
    obtain ⟨r_8, hc_9, hF⟩ := bn_some hF
    refine xc_l (wn := (w_X11_joined K g_t t_raised t_undos t_reached t_length t_begin t_sort t_value t_word t_wrongAt t_badAt t_bad t_read t_pictured t_x t_all t_places)) hP hD hS C0.2.2.1 [] [0, 1, 2] [0, 1, 2] rfl rfl (by decide) (by decide) rfl (by decide) (va_runS (As := [.long x8, .long ((r_6).toInt64)]) (rest := [.long x8]) C0.1 (c_X11_measure l D K x8 ((r_6).toInt64) r_8 hc_9 H.size) (va_cwS 2 hts gX11_joined_X11_measure rfl rfl rfl (by decide +kernel) ⟨Nat.le_of_ble_eq_true rfl, Nat.le_of_ble_eq_true rfl⟩) (xp_S C0.2 hP hD hS [] rfl (by decide)) rfl rfl hl.1 rfl (lv_room (Nat.le_of_ble_eq_true rfl)) dX11_joined_159 ⟨Nat.le_of_ble_eq_true rfl, Nat.le_of_ble_eq_true rfl⟩) (fun H locs hP hD hS => ?_)
    obtain ⟨hg_10, hF⟩ := gd_some hF
    refine lv_ldiv hx hb dX11_joined_162 (nl_of hg_10) ?_
    refine lv_aload_n hx hb dX11_joined_163 rfl (lv_at hl 0 rfl) ?_
    refine lv_iload hx hb dX11_joined_164 (lv_at hl 3 rfl) ?_
    obtain ⟨r_11, hc_12, hF⟩ := bn_some hF
    refine xc_i (wn := (w_X11_joined K g_t t_raised t_undos t_reached t_length t_begin t_sort t_value t_word t_wrongAt t_badAt t_bad t_read t_pictured t_x t_all t_places)) hP hD hS C0.2.2.1 [0, 1] [2] [1, 2, 0] rfl rfl (by decide) (by decide) rfl (by decide) (va_runV (As := [.int x10]) (rest := [.long (x8 / r_8)]) C0.1 (c_X11_gapAt l D K g_t t_raised t_undos t_reached t_length t_begin t_sort t_value t_word t_wrongAt t_badAt t_bad t_read t_pictured t_x t_all x10 r_11 hc_12 H.size) (cwV 1 hts gX11_joined_X11_gapAt rfl rfl rfl (by decide +kernel) ⟨Nat.le_of_ble_eq_true rfl, Nat.le_of_ble_eq_true rfl⟩) (xp_V C0.2 hP hD hS [0, 1] rfl (by decide) 10 0 rfl rfl rfl) rfl rfl hl.1 rfl (lv_room (Nat.le_of_ble_eq_true rfl)) dX11_joined_166 ⟨Nat.le_of_ble_eq_true rfl, Nat.le_of_ble_eq_true rfl⟩) (fun H locs hP hD hS => ?_)
    refine lv_i2l hx hb dX11_joined_169 rfl ?_
    refine lv_lmul hx hb dX11_joined_170 ?_
    refine lv_lstore (lv' := [(8, .long ((x8 / r_8) * (r_11).toInt64)), (0, .ref (g_t 0)), (6, .long x6), (10, .int x10)]) hx hb dX11_joined_171 hl (by decide) rfl (fun ls hl => ?_)
    refine lv_lload hx hb dX11_joined_173 (lv_at hl 2 rfl) ?_
    refine lv_lload hx hb dX11_joined_175 (lv_at hl 0 rfl) ?_
    obtain ⟨hg_13, hF⟩ := gd_some hF
    refine lv_lrem hx hb dX11_joined_177 (nl_of hg_13) ?_
    refine lv_lstore (lv' := [(6, .long (x6 - x6 / ((x8 / r_8) * (r_11).toInt64) * ((x8 / r_8) * (r_11).toInt64))), (8, .long ((x8 / r_8) * (r_11).toInt64)), (0, .ref (g_t 0)), (10, .int x10)]) hx hb dX11_joined_178 hl (by decide) rfl (fun ls hl => ?_)
    refine lv_iinc (v := (x10 + (1 : Int32))) (lv' := [(10, .int (x10 + (1 : Int32))), (6, .long (x6 - x6 / ((x8 / r_8) * (r_11).toInt64) * ((x8 / r_8) * (r_11).toInt64))), (8, .long ((x8 / r_8) * (r_11).toInt64)), (0, .ref (g_t 0))]) hx hb dX11_joined_180 hl (k := 3) rfl (congrArg (fun z => x10 + z) (by decide)) (by decide) rfl (fun ls hl => ?_)
    refine lv_goto (tgt := 51) hx hb dX11_joined_183 (by decide) ?_
    exact HK_51 t_raised t_places (x6 - x6 / ((x8 / r_8) * (r_11).toInt64) * ((x8 / r_8) * (r_11).toInt64)) ((x8 / r_8) * (r_11).toInt64) (x10 + (1 : Int32)) H locs ls hP hD hS (lv_sub hl [3, 1, 2, 0] rfl) hF
  · have hF := it_neg c_5 hF
    refine lv_iconst (v := (-1)) hx hb dX11_joined_146 (by decide) ?_
    obtain rfl := Option.some.inj hF
    exact HR 147 H locs ls dX11_joined_147 hP hD hS
def L_X11_joined_78 (t_all : Nat → Int32) (k_51 : Int32 → (Nat → Int32) → Int64 → Int64 → Int32 → Option (Int32 × Int32 × (Nat → Int32))) : Nat → Int32 → (Nat → Int32) → Int64 → Int64 → Int32 → Int32 → Option (Int32 × Int32 × (Nat → Int32))
  | 0, _, _, _, _, _, _ => none
  | n_ + 1, t_raised, t_places, x6, x8, x10, x11 =>
    (F_X11_gapAt t_all x10).bind fun r_1 => (if r_1 ≤ x11 then (J_X11_joined_124 t_all k_51 t_raised t_places x6 x8 x10) else ((F_X11_gapAt t_all x10).bind fun r_4 => (gd_ (decide (¬ (r_4).toInt64 = 0)) (gd_ (in_b x10 5) (if (lg_cmp (x6 - x6 / (r_4).toInt64 * (r_4).toInt64) (((t_places (x10).toNatClampNeg)).toInt64)) = (0 : Int32) then (J_X11_joined_124 t_all k_51 t_raised t_places x6 x8 x10) else (L_X11_joined_78 t_all k_51 n_ t_raised t_places (x6 + x8) x8 x10 (x11 + (1 : Int32))))))))
set_option maxHeartbeats 4000000 in
set_option maxRecDepth 100000 in
theorem w_X11_joined_78 {p : Program} {l : Launch} {e : Env} {s : State} {m : MethodId} {args : Array Value} {below : List Frame} {meth : Method} {c : Code} {D : va_G} {K : Nat → ClassId} {A : Nat → Prop} {Q : State → Prop} (C0 : cx_ p s m args c cX11_joined 12 RX11 wsX11_joined D K A) {g_t : Nat → Nat} {t_undos : Int32} {t_reached : Int32} {t_length : Int32} {t_begin : Int32} {t_sort : Int32} {t_value : Int32} {t_word : Int64} {t_wrongAt : Int32} {t_badAt : Int32} {t_bad : Int32} {t_read : Int32} {t_pictured : Int32} {t_x : Int32} {t_all : Nat → Int32} {res : Int32 × Int32 × (Nat → Int32)} (HR : ∀ (pc : Nat) (H : Heap) (locs : List Loc) (ls : Array Slot), decode cX11_joined pc = .ok (.ireturn, 1) → va_P D vwCl (w_X11_joined K g_t res.2.1 t_undos t_reached t_length t_begin t_sort t_value t_word t_wrongAt t_badAt t_bad t_read t_pictured t_x t_all res.2.2) H → va_D A (w_X11_joined K g_t res.2.1 t_undos t_reached t_length t_begin t_sort t_value t_word t_wrongAt t_badAt t_bad t_read t_pictured t_x t_all res.2.2) → va_S A s.heap H locs → W p l e rmX11_joined s m args below meth c H locs 0 0 Q (F0 m pc ls [.int res.1])) {k_51 : Int32 → (Nat → Int32) → Int64 → Int64 → Int32 → Option (Int32 × Int32 × (Nat → Int32))} (HK_51 : ∀ (t_raised : Int32) (t_places : Nat → Int32) (x6 : Int64) (x8 : Int64) (x10 : Int32) (H : Heap) (locs : List Loc) (ls : Array Slot), va_P D vwCl (w_X11_joined K g_t t_raised t_undos t_reached t_length t_begin t_sort t_value t_word t_wrongAt t_badAt t_bad t_read t_pictured t_x t_all t_places) H → va_D A (w_X11_joined K g_t t_raised t_undos t_reached t_length t_begin t_sort t_value t_word t_wrongAt t_badAt t_bad t_read t_pictured t_x t_all t_places) → va_S A s.heap H locs → lv_has ls 12 [(0, .ref (g_t 0)), (6, .long x6), (8, .long x8), (10, .int x10)] → k_51 t_raised t_places x6 x8 x10 = some res → W p l e rmX11_joined s m args below meth c H locs 0 0 Q (F0 m 51 ls [])) :
    ∀ (n_ : Nat) (t_raised : Int32) (t_places : Nat → Int32) (x6 : Int64) (x8 : Int64) (x10 : Int32) (x11 : Int32) (H : Heap) (locs : List Loc) (ls : Array Slot), va_P D vwCl (w_X11_joined K g_t t_raised t_undos t_reached t_length t_begin t_sort t_value t_word t_wrongAt t_badAt t_bad t_read t_pictured t_x t_all t_places) H → va_D A (w_X11_joined K g_t t_raised t_undos t_reached t_length t_begin t_sort t_value t_word t_wrongAt t_badAt t_bad t_read t_pictured t_x t_all t_places) → va_S A s.heap H locs → lv_has ls 12 [(0, .ref (g_t 0)), (6, .long x6), (8, .long x8), (10, .int x10), (11, .int x11)] → L_X11_joined_78 t_all k_51 n_ t_raised t_places x6 x8 x10 x11 = some res → W p l e rmX11_joined s m args below meth c H locs 0 0 Q (F0 m 78 ls []) := by
  obtain ⟨⟨hx, hb, hml, hown, hts⟩, hK, -⟩ := id C0
  intro n_
  induction n_ with
  | zero =>
    intro t_raised t_places x6 x8 x10 x11 H locs ls hP hD hS hl hF
    exact no_s (show (none : Option (Int32 × Int32 × (Nat → Int32))) = some res from hF)
  | succ n_ ih =>
    intro t_raised t_places x6 x8 x10 x11 H locs ls hP hD hS hl hF
    rw [L_X11_joined_78] at hF
    refine lv_iload hx hb dX11_joined_78 (lv_at hl 4 rfl) ?_
    refine lv_aload_n hx hb dX11_joined_80 rfl (lv_at hl 0 rfl) ?_
    refine lv_iload hx hb dX11_joined_81 (lv_at hl 3 rfl) ?_
    obtain ⟨r_1, hc_2, hF⟩ := bn_some hF
    refine xc_i (wn := (w_X11_joined K g_t t_raised t_undos t_reached t_length t_begin t_sort t_value t_word t_wrongAt t_badAt t_bad t_read t_pictured t_x t_all t_places)) hP hD hS C0.2.2.1 [0, 1] [2] [1, 2, 0] rfl rfl (by decide) (by decide) rfl (by decide) (va_runV (As := [.int x10]) (rest := [.int x11]) C0.1 (c_X11_gapAt l D K g_t t_raised t_undos t_reached t_length t_begin t_sort t_value t_word t_wrongAt t_badAt t_bad t_read t_pictured t_x t_all x10 r_1 hc_2 H.size) (cwV 1 hts gX11_joined_X11_gapAt rfl rfl rfl (by decide +kernel) ⟨Nat.le_of_ble_eq_true rfl, Nat.le_of_ble_eq_true rfl⟩) (xp_V C0.2 hP hD hS [0, 1] rfl (by decide) 10 0 rfl rfl rfl) rfl rfl hl.1 rfl (lv_room (Nat.le_of_ble_eq_true rfl)) dX11_joined_83 ⟨Nat.le_of_ble_eq_true rfl, Nat.le_of_ble_eq_true rfl⟩) (fun H locs hP hD hS => ?_)
    refine lv_icmp_ge (tgt := 124) hx hb dX11_joined_86 (by decide) (fun c_3 => ?_) (fun c_3 => ?_)
    · have hF := it_pos c_3 hF
      exact w_X11_joined_124 C0 HR HK_51 t_raised t_places x6 x8 x10 H locs ls hP hD hS (lv_sub hl [0, 1, 2, 3] rfl) hF
    · have hF := it_neg c_3 hF
      refine lv_lload hx hb dX11_joined_89 (lv_at hl 1 rfl) ?_
      refine lv_aload_n hx hb dX11_joined_91 rfl (lv_at hl 0 rfl) ?_
      refine lv_iload hx hb dX11_joined_92 (lv_at hl 3 rfl) ?_
      obtain ⟨r_4, hc_5, hF⟩ := bn_some hF
      refine xc_i (wn := (w_X11_joined K g_t t_raised t_undos t_reached t_length t_begin t_sort t_value t_word t_wrongAt t_badAt t_bad t_read t_pictured t_x t_all t_places)) hP hD hS C0.2.2.1 [0, 1] [2] [1, 2, 0] rfl rfl (by decide) (by decide) rfl (by decide) (va_runV (As := [.int x10]) (rest := [.long x6]) C0.1 (c_X11_gapAt l D K g_t t_raised t_undos t_reached t_length t_begin t_sort t_value t_word t_wrongAt t_badAt t_bad t_read t_pictured t_x t_all x10 r_4 hc_5 H.size) (cwV 1 hts gX11_joined_X11_gapAt rfl rfl rfl (by decide +kernel) ⟨Nat.le_of_ble_eq_true rfl, Nat.le_of_ble_eq_true rfl⟩) (xp_V C0.2 hP hD hS [0, 1] rfl (by decide) 10 0 rfl rfl rfl) rfl rfl hl.1 rfl (lv_room (Nat.le_of_ble_eq_true rfl)) dX11_joined_94 ⟨Nat.le_of_ble_eq_true rfl, Nat.le_of_ble_eq_true rfl⟩) (fun H locs hP hD hS => ?_)
      refine lv_i2l hx hb dX11_joined_97 rfl ?_
      obtain ⟨hg_6, hF⟩ := gd_some hF
      refine lv_lrem hx hb dX11_joined_98 (nl_of hg_6) ?_
      refine lv_aload_n hx hb dX11_joined_99 rfl (lv_at hl 0 rfl) ?_
      refine va_get (D := D) (ci := 10) (v := .ref (g_t 23)) (C := RX11) (T := TX11) (N := 30) hx hb hts iw_X11_joined_X11 hown hK hP 0 rfl rfl 22 (by decide) (hts _ fl_X11_joined_39) (fun _ h9 => h9) rfl dX11_joined_100 ?_
      refine lv_iload hx hb dX11_joined_103 (lv_at hl 3 rfl) ?_
      obtain ⟨hg_7, hF⟩ := gd_some hF
      refine xl_i (f := t_places) hx hb hK hP 2 0 rfl rfl rfl (in_v hg_7) dX11_joined_105 ?_
      refine lv_i2l hx hb dX11_joined_106 rfl ?_
      refine W.lcmp hx hb dX11_joined_107 ?_
      refine lv_if_eq (tgt := 124) hx hb dX11_joined_108 (by decide) (fun c_8 => ?_) (fun c_8 => ?_)
      · have hF := it_pos c_8 hF
        exact w_X11_joined_124 C0 HR HK_51 t_raised t_places x6 x8 x10 H locs ls hP hD hS (lv_sub hl [0, 1, 2, 3] rfl) hF
      · have hF := it_neg c_8 hF
        refine lv_lload hx hb dX11_joined_111 (lv_at hl 1 rfl) ?_
        refine lv_lload hx hb dX11_joined_113 (lv_at hl 2 rfl) ?_
        refine lv_ladd hx hb dX11_joined_115 ?_
        refine lv_lstore (lv' := [(6, .long (x6 + x8)), (0, .ref (g_t 0)), (8, .long x8), (10, .int x10), (11, .int x11)]) hx hb dX11_joined_116 hl (by decide) rfl (fun ls hl => ?_)
        refine lv_iinc (v := (x11 + (1 : Int32))) (lv' := [(11, .int (x11 + (1 : Int32))), (6, .long (x6 + x8)), (0, .ref (g_t 0)), (8, .long x8), (10, .int x10)]) hx hb dX11_joined_118 hl (k := 4) rfl (congrArg (fun z => x11 + z) (by decide)) (by decide) rfl (fun ls hl => ?_)
        refine lv_goto (tgt := 78) hx hb dX11_joined_121 (by decide) ?_
        exact ih t_raised t_places (x6 + x8) x8 x10 (x11 + (1 : Int32)) H locs ls hP hD hS (lv_sub hl [2, 1, 3, 4, 0] rfl) hF
def L_X11_joined_51 (t_all : Nat → Int32) : Nat → Int32 → (Nat → Int32) → Int64 → Int64 → Int32 → Option (Int32 × Int32 × (Nat → Int32))
  | 0, _, _, _, _, _ => none
  | n_ + 1, t_raised, t_places, x6, x8, x10 =>
    if (t_all 0) ≤ x10 then (some ((x6).toInt32, t_raised, t_places)) else (gd_ (in_b x10 5) (if (0 : Int32) ≤ (t_places (x10).toNatClampNeg) then (L_X11_joined_78 t_all (L_X11_joined_51 t_all n_) fu_ t_raised t_places x6 x8 x10 (0 : Int32)) else (L_X11_joined_51 t_all n_ t_raised t_places x6 x8 (x10 + (1 : Int32)))))
set_option maxHeartbeats 4000000 in
set_option maxRecDepth 100000 in
theorem w_X11_joined_51 {p : Program} {l : Launch} {e : Env} {s : State} {m : MethodId} {args : Array Value} {below : List Frame} {meth : Method} {c : Code} {D : va_G} {K : Nat → ClassId} {A : Nat → Prop} {Q : State → Prop} (C0 : cx_ p s m args c cX11_joined 12 RX11 wsX11_joined D K A) {g_t : Nat → Nat} {t_undos : Int32} {t_reached : Int32} {t_length : Int32} {t_begin : Int32} {t_sort : Int32} {t_value : Int32} {t_word : Int64} {t_wrongAt : Int32} {t_badAt : Int32} {t_bad : Int32} {t_read : Int32} {t_pictured : Int32} {t_x : Int32} {t_all : Nat → Int32} {res : Int32 × Int32 × (Nat → Int32)} (HR : ∀ (pc : Nat) (H : Heap) (locs : List Loc) (ls : Array Slot), decode cX11_joined pc = .ok (.ireturn, 1) → va_P D vwCl (w_X11_joined K g_t res.2.1 t_undos t_reached t_length t_begin t_sort t_value t_word t_wrongAt t_badAt t_bad t_read t_pictured t_x t_all res.2.2) H → va_D A (w_X11_joined K g_t res.2.1 t_undos t_reached t_length t_begin t_sort t_value t_word t_wrongAt t_badAt t_bad t_read t_pictured t_x t_all res.2.2) → va_S A s.heap H locs → W p l e rmX11_joined s m args below meth c H locs 0 0 Q (F0 m pc ls [.int res.1]))  :
    ∀ (n_ : Nat) (t_raised : Int32) (t_places : Nat → Int32) (x6 : Int64) (x8 : Int64) (x10 : Int32) (H : Heap) (locs : List Loc) (ls : Array Slot), va_P D vwCl (w_X11_joined K g_t t_raised t_undos t_reached t_length t_begin t_sort t_value t_word t_wrongAt t_badAt t_bad t_read t_pictured t_x t_all t_places) H → va_D A (w_X11_joined K g_t t_raised t_undos t_reached t_length t_begin t_sort t_value t_word t_wrongAt t_badAt t_bad t_read t_pictured t_x t_all t_places) → va_S A s.heap H locs → lv_has ls 12 [(0, .ref (g_t 0)), (6, .long x6), (8, .long x8), (10, .int x10)] → L_X11_joined_51 t_all n_ t_raised t_places x6 x8 x10 = some res → W p l e rmX11_joined s m args below meth c H locs 0 0 Q (F0 m 51 ls []) := by
  obtain ⟨⟨hx, hb, hml, hown, hts⟩, hK, -⟩ := id C0
  intro n_
  induction n_ with
  | zero =>
    intro t_raised t_places x6 x8 x10 H locs ls hP hD hS hl hF
    exact no_s (show (none : Option (Int32 × Int32 × (Nat → Int32))) = some res from hF)
  | succ n_ ih =>
    intro t_raised t_places x6 x8 x10 H locs ls hP hD hS hl hF
    rw [L_X11_joined_51] at hF
    refine lv_iload hx hb dX11_joined_51 (lv_at hl 3 rfl) ?_
    refine lv_aload_n hx hb dX11_joined_53 rfl (lv_at hl 0 rfl) ?_
    refine va_get (D := D) (ci := 10) (v := .ref (g_t 2)) (C := RX11) (T := TX11) (N := 30) hx hb hts iw_X11_joined_X11 hown hK hP 0 rfl rfl 1 (by decide) (hts _ fl_X11_joined_7) (fun _ h9 => h9) rfl dX11_joined_54 ?_
    refine lv_iconst (v := 0) hx hb dX11_joined_57 (by decide) ?_
    refine xl_i (f := t_all) hx hb hK hP 1 0 rfl rfl (k := 0) (by decide) (in_v (by decide)) dX11_joined_58 ?_
    refine lv_icmp_ge (tgt := 186) hx hb dX11_joined_59 (by decide) (fun c_1 => ?_) (fun c_1 => ?_)
    · have hF := it_pos c_1 hF
      refine lv_lload hx hb dX11_joined_186 (lv_at hl 1 rfl) ?_
      refine lv_l2i hx hb dX11_joined_188 rfl ?_
      obtain rfl := Option.some.inj hF
      exact HR 189 H locs ls dX11_joined_189 hP hD hS
    · have hF := it_neg c_1 hF
      refine lv_aload_n hx hb dX11_joined_62 rfl (lv_at hl 0 rfl) ?_
      refine va_get (D := D) (ci := 10) (v := .ref (g_t 23)) (C := RX11) (T := TX11) (N := 30) hx hb hts iw_X11_joined_X11 hown hK hP 0 rfl rfl 22 (by decide) (hts _ fl_X11_joined_39) (fun _ h9 => h9) rfl dX11_joined_63 ?_
      refine lv_iload hx hb dX11_joined_66 (lv_at hl 3 rfl) ?_
      obtain ⟨hg_2, hF⟩ := gd_some hF
      refine xl_i (f := t_places) hx hb hK hP 2 0 rfl rfl rfl (in_v hg_2) dX11_joined_68 ?_
      refine lv_if_ge (tgt := 75) hx hb dX11_joined_69 (by decide) (fun c_3 => ?_) (fun c_3 => ?_)
      · have hF := it_pos c_3 hF
        refine lv_iconst (v := 0) hx hb dX11_joined_75 (by decide) ?_
        refine lv_istore (lv' := [(11, .int (0 : Int32)), (0, .ref (g_t 0)), (6, .long x6), (8, .long x8), (10, .int x10)]) hx hb dX11_joined_76 hl (by decide) rfl (fun ls hl => ?_)
        exact w_X11_joined_78 C0 HR ih fu_ t_raised t_places x6 x8 x10 (0 : Int32) H locs ls hP hD hS (lv_sub hl [1, 2, 3, 4, 0] rfl) hF
      · have hF := it_neg c_3 hF
        refine lv_goto (tgt := 180) hx hb dX11_joined_72 (by decide) ?_
        refine lv_iinc (v := (x10 + (1 : Int32))) (lv' := [(10, .int (x10 + (1 : Int32))), (0, .ref (g_t 0)), (6, .long x6), (8, .long x8)]) hx hb dX11_joined_180 hl (k := 3) rfl (congrArg (fun z => x10 + z) (by decide)) (by decide) rfl (fun ls hl => ?_)
        refine lv_goto (tgt := 51) hx hb dX11_joined_183 (by decide) ?_
        exact ih t_raised t_places x6 x8 (x10 + (1 : Int32)) H locs ls hP hD hS (lv_sub hl [1, 2, 3, 0] rfl) hF
def F_X11_joined (t_raised : Int32) (t_all : Nat → Int32) (t_places : Nat → Int32) (x1 : Int32) (x2 : Int32) (x3 : Int32) (x4 : Int32) (x5 : Int32) : Option (Int32 × Int32 × (Nat → Int32)) :=
  L_X11_joined_51 t_all fu_ (0 : Int32) (upd (upd (upd (upd (upd t_places 0 x1) 1 x2) 2 x3) 3 x4) 4 x5) (0 : Int64) (1 : Int64) (0 : Int32)
set_option maxHeartbeats 4000000 in
set_option maxRecDepth 100000 in
theorem c_X11_joined (l : Launch) (D : va_G) (K : Nat → ClassId) (g_t : Nat → Nat) (t_raised : Int32) (t_undos : Int32) (t_reached : Int32) (t_length : Int32) (t_begin : Int32) (t_sort : Int32) (t_value : Int32) (t_word : Int64) (t_wrongAt : Int32) (t_badAt : Int32) (t_bad : Int32) (t_read : Int32) (t_pictured : Int32) (t_x : Int32) (t_all : Nat → Int32) (t_places : Nat → Int32) (x1 : Int32) (x2 : Int32) (x3 : Int32) (x4 : Int32) (x5 : Int32) (res : Int32 × Int32 × (Nat → Int32)) (hF : F_X11_joined t_raised t_all t_places x1 x2 x3 x4 x5 = some res) :
    Mi_ l yX11_joined wsX11_joined rmX11_joined D K [.ref (g_t 0), .int x1, .int x2, .int x3, .int x4, .int x5] (w_X11_joined K g_t t_raised t_undos t_reached t_length t_begin t_sort t_value t_word t_wrongAt t_badAt t_bad t_read t_pictured t_x t_all t_places) (w_X11_joined K g_t res.2.1 t_undos t_reached t_length t_begin t_sort t_value t_word t_wrongAt t_badAt t_bad t_read t_pictured t_x t_all res.2.2) (res.1) := by
  refine en_i (cc := cX11_joined) (maxL := 12) (own := RX11) (by decide) rfl rfl (Nat.le_of_ble_eq_true rfl) ?_
  intro p e s m args below meth c A Q H locs ls C0 hP hD hS hl HR
  obtain ⟨⟨hx, hb, hml, hown, hts⟩, hK, -⟩ := id C0
  have hl : lv_has ls 12 [(0, .ref (g_t 0)), (1, .int x1), (2, .int x2), (3, .int x3), (4, .int x4), (5, .int x5)] := hl
  unfold F_X11_joined at hF
  refine lv_aload_n hx hb dX11_joined_0 rfl (lv_at hl 0 rfl) ?_
  refine lv_iconst (v := 0) hx hb dX11_joined_1 (by decide) ?_
  refine va_put (D := D) (ci := 10) (v := .int (0 : Int32)) (ty := .int) (C := RX11) (T := TX11) (N := 30) hx hb hts iw_X11_joined_X11 tyX11 tyX11_ok nmX11 hown hK hP hD hS 0 rfl rfl 0 (by decide) (hts _ fl_X11_joined_66) (fun _ h9 => h9) rfl (by decide +kernel) rfl rfl (Nat.le_of_ble_eq_true rfl) dX11_joined_2 (fun H locs hP hD hS => ?_)
  have hP : va_P D vwCl (w_X11_joined K g_t (0 : Int32) t_undos t_reached t_length t_begin t_sort t_value t_word t_wrongAt t_badAt t_bad t_read t_pictured t_x t_all t_places) H := hP
  have hD : va_D A (w_X11_joined K g_t (0 : Int32) t_undos t_reached t_length t_begin t_sort t_value t_word t_wrongAt t_badAt t_bad t_read t_pictured t_x t_all t_places) := hD
  refine lv_aload_n hx hb dX11_joined_5 rfl (lv_at hl 0 rfl) ?_
  refine va_get (D := D) (ci := 10) (v := .ref (g_t 23)) (C := RX11) (T := TX11) (N := 30) hx hb hts iw_X11_joined_X11 hown hK hP 0 rfl rfl 22 (by decide) (hts _ fl_X11_joined_39) (fun _ h9 => h9) rfl dX11_joined_6 ?_
  refine lv_iconst (v := 0) hx hb dX11_joined_9 (by decide) ?_
  refine lv_iload_n hx hb dX11_joined_10 rfl (lv_at hl 1 rfl) ?_
  refine xs_i (f := t_places) hx hb hK hP hD hS 2 0 rfl rfl (k := 0) (by decide) (in_v (by decide)) dX11_joined_11 (fun H locs hP hD hS => ?_)
  have hP : va_P D vwCl (w_X11_joined K g_t (0 : Int32) t_undos t_reached t_length t_begin t_sort t_value t_word t_wrongAt t_badAt t_bad t_read t_pictured t_x t_all (upd t_places 0 x1)) H := hP
  have hD : va_D A (w_X11_joined K g_t (0 : Int32) t_undos t_reached t_length t_begin t_sort t_value t_word t_wrongAt t_badAt t_bad t_read t_pictured t_x t_all (upd t_places 0 x1)) := hD
  refine lv_aload_n hx hb dX11_joined_12 rfl (lv_at hl 0 rfl) ?_
  refine va_get (D := D) (ci := 10) (v := .ref (g_t 23)) (C := RX11) (T := TX11) (N := 30) hx hb hts iw_X11_joined_X11 hown hK hP 0 rfl rfl 22 (by decide) (hts _ fl_X11_joined_39) (fun _ h9 => h9) rfl dX11_joined_13 ?_
  refine lv_iconst (v := 1) hx hb dX11_joined_16 (by decide) ?_
  refine lv_iload_n hx hb dX11_joined_17 rfl (lv_at hl 2 rfl) ?_
  refine xs_i (f := (upd t_places 0 x1)) hx hb hK hP hD hS 2 0 rfl rfl (k := 1) (by decide) (in_v (by decide)) dX11_joined_18 (fun H locs hP hD hS => ?_)
  have hP : va_P D vwCl (w_X11_joined K g_t (0 : Int32) t_undos t_reached t_length t_begin t_sort t_value t_word t_wrongAt t_badAt t_bad t_read t_pictured t_x t_all (upd (upd t_places 0 x1) 1 x2)) H := hP
  have hD : va_D A (w_X11_joined K g_t (0 : Int32) t_undos t_reached t_length t_begin t_sort t_value t_word t_wrongAt t_badAt t_bad t_read t_pictured t_x t_all (upd (upd t_places 0 x1) 1 x2)) := hD
  refine lv_aload_n hx hb dX11_joined_19 rfl (lv_at hl 0 rfl) ?_
  refine va_get (D := D) (ci := 10) (v := .ref (g_t 23)) (C := RX11) (T := TX11) (N := 30) hx hb hts iw_X11_joined_X11 hown hK hP 0 rfl rfl 22 (by decide) (hts _ fl_X11_joined_39) (fun _ h9 => h9) rfl dX11_joined_20 ?_
  refine lv_iconst (v := 2) hx hb dX11_joined_23 (by decide) ?_
  refine lv_iload_n hx hb dX11_joined_24 rfl (lv_at hl 3 rfl) ?_
  refine xs_i (f := (upd (upd t_places 0 x1) 1 x2)) hx hb hK hP hD hS 2 0 rfl rfl (k := 2) (by decide) (in_v (by decide)) dX11_joined_25 (fun H locs hP hD hS => ?_)
  have hP : va_P D vwCl (w_X11_joined K g_t (0 : Int32) t_undos t_reached t_length t_begin t_sort t_value t_word t_wrongAt t_badAt t_bad t_read t_pictured t_x t_all (upd (upd (upd t_places 0 x1) 1 x2) 2 x3)) H := hP
  have hD : va_D A (w_X11_joined K g_t (0 : Int32) t_undos t_reached t_length t_begin t_sort t_value t_word t_wrongAt t_badAt t_bad t_read t_pictured t_x t_all (upd (upd (upd t_places 0 x1) 1 x2) 2 x3)) := hD
  refine lv_aload_n hx hb dX11_joined_26 rfl (lv_at hl 0 rfl) ?_
  refine va_get (D := D) (ci := 10) (v := .ref (g_t 23)) (C := RX11) (T := TX11) (N := 30) hx hb hts iw_X11_joined_X11 hown hK hP 0 rfl rfl 22 (by decide) (hts _ fl_X11_joined_39) (fun _ h9 => h9) rfl dX11_joined_27 ?_
  refine lv_iconst (v := 3) hx hb dX11_joined_30 (by decide) ?_
  refine lv_iload hx hb dX11_joined_31 (lv_at hl 4 rfl) ?_
  refine xs_i (f := (upd (upd (upd t_places 0 x1) 1 x2) 2 x3)) hx hb hK hP hD hS 2 0 rfl rfl (k := 3) (by decide) (in_v (by decide)) dX11_joined_33 (fun H locs hP hD hS => ?_)
  have hP : va_P D vwCl (w_X11_joined K g_t (0 : Int32) t_undos t_reached t_length t_begin t_sort t_value t_word t_wrongAt t_badAt t_bad t_read t_pictured t_x t_all (upd (upd (upd (upd t_places 0 x1) 1 x2) 2 x3) 3 x4)) H := hP
  have hD : va_D A (w_X11_joined K g_t (0 : Int32) t_undos t_reached t_length t_begin t_sort t_value t_word t_wrongAt t_badAt t_bad t_read t_pictured t_x t_all (upd (upd (upd (upd t_places 0 x1) 1 x2) 2 x3) 3 x4)) := hD
  refine lv_aload_n hx hb dX11_joined_34 rfl (lv_at hl 0 rfl) ?_
  refine va_get (D := D) (ci := 10) (v := .ref (g_t 23)) (C := RX11) (T := TX11) (N := 30) hx hb hts iw_X11_joined_X11 hown hK hP 0 rfl rfl 22 (by decide) (hts _ fl_X11_joined_39) (fun _ h9 => h9) rfl dX11_joined_35 ?_
  refine lv_iconst (v := 4) hx hb dX11_joined_38 (by decide) ?_
  refine lv_iload hx hb dX11_joined_39 (lv_at hl 5 rfl) ?_
  refine xs_i (f := (upd (upd (upd (upd t_places 0 x1) 1 x2) 2 x3) 3 x4)) hx hb hK hP hD hS 2 0 rfl rfl (k := 4) (by decide) (in_v (by decide)) dX11_joined_41 (fun H locs hP hD hS => ?_)
  have hP : va_P D vwCl (w_X11_joined K g_t (0 : Int32) t_undos t_reached t_length t_begin t_sort t_value t_word t_wrongAt t_badAt t_bad t_read t_pictured t_x t_all (upd (upd (upd (upd (upd t_places 0 x1) 1 x2) 2 x3) 3 x4) 4 x5)) H := hP
  have hD : va_D A (w_X11_joined K g_t (0 : Int32) t_undos t_reached t_length t_begin t_sort t_value t_word t_wrongAt t_badAt t_bad t_read t_pictured t_x t_all (upd (upd (upd (upd (upd t_places 0 x1) 1 x2) 2 x3) 3 x4) 4 x5)) := hD
  refine lv_lconst (v := 0) hx hb dX11_joined_42 (by decide) ?_
  refine lv_lstore (lv' := [(6, .long (0 : Int64)), (0, .ref (g_t 0)), (1, .int x1), (2, .int x2), (3, .int x3), (4, .int x4), (5, .int x5)]) hx hb dX11_joined_43 hl (by decide) rfl (fun ls hl => ?_)
  refine lv_lconst (v := 1) hx hb dX11_joined_45 (by decide) ?_
  refine lv_lstore (lv' := [(8, .long (1 : Int64)), (6, .long (0 : Int64)), (0, .ref (g_t 0)), (1, .int x1), (2, .int x2), (3, .int x3), (4, .int x4), (5, .int x5)]) hx hb dX11_joined_46 hl (by decide) rfl (fun ls hl => ?_)
  refine lv_iconst (v := 0) hx hb dX11_joined_48 (by decide) ?_
  refine lv_istore (lv' := [(10, .int (0 : Int32)), (8, .long (1 : Int64)), (6, .long (0 : Int64)), (0, .ref (g_t 0)), (1, .int x1), (2, .int x2), (3, .int x3), (4, .int x4), (5, .int x5)]) hx hb dX11_joined_49 hl (by decide) rfl (fun ls hl => ?_)
  exact w_X11_joined_51 C0 HR fu_ (0 : Int32) (upd (upd (upd (upd (upd t_places 0 x1) 1 x2) 2 x3) 3 x4) 4 x5) (0 : Int64) (1 : Int64) (0 : Int32) H locs ls hP hD hS (lv_sub hl [3, 2, 1, 0] rfl) hF

/-! StaggerRadarModel.leastOf(I)I -/
abbrev rmX11_leastOf : Room := { frames := 0, cells := 0, slots := 0, locals := 0 }
abbrev w_X11_leastOf (K : Nat → ClassId) : va_W := []
def F_X11_leastOf (x0 : Int32) : Option (Int32) :=
  if x0 = (0 : Int32) then (some (2 : Int32)) else (if x0 = (1 : Int32) then (some (0 : Int32)) else (if x0 = (2 : Int32) then (some (0 : Int32)) else (some (1 : Int32))))
set_option maxHeartbeats 4000000 in
set_option maxRecDepth 100000 in
theorem c_X11_leastOf (l : Launch) (D : va_G) (K : Nat → ClassId) (x0 : Int32) (res : Int32) (hF : F_X11_leastOf x0 = some res) :
    Mi_ l yX11_leastOf wsX11_leastOf rmX11_leastOf D K [.int x0] (w_X11_leastOf K) (w_X11_leastOf K) (res) := by
  refine en_i (cc := cX11_leastOf) (maxL := 1) (own := RX11) (by decide) rfl rfl (Nat.le_of_ble_eq_true rfl) ?_
  intro p e s m args below meth c A Q H locs ls C0 hP hD hS hl HR
  obtain ⟨⟨hx, hb, hml, hown, hts⟩, hK, -⟩ := id C0
  have hl : lv_has ls 1 [(0, .int x0)] := hl
  unfold F_X11_leastOf at hF
  refine lv_iload_n hx hb dX11_leastOf_0 rfl (lv_at hl 0 rfl) ?_
  refine lv_if_ne (tgt := 8) hx hb dX11_leastOf_1 (by decide) (fun c_1 => ?_) (fun c_1 => ?_)
  · have hF := it_neg c_1 hF
    refine lv_iload_n hx hb dX11_leastOf_8 rfl (lv_at hl 0 rfl) ?_
    refine lv_iconst (v := 1) hx hb dX11_leastOf_9 (by decide) ?_
    refine lv_icmp_eq (tgt := 18) hx hb dX11_leastOf_10 (by decide) (fun c_2 => ?_) (fun c_2 => ?_)
    · have hF := it_pos c_2 hF
      refine lv_iconst (v := 0) hx hb dX11_leastOf_18 (by decide) ?_
      refine lv_goto (tgt := 23) hx hb dX11_leastOf_19 (by decide) ?_
      obtain rfl := Option.some.inj hF
      exact HR 23 H locs ls dX11_leastOf_23 hP hD hS
    · have hF := it_neg c_2 hF
      refine lv_iload_n hx hb dX11_leastOf_13 rfl (lv_at hl 0 rfl) ?_
      refine lv_iconst (v := 2) hx hb dX11_leastOf_14 (by decide) ?_
      refine lv_icmp_ne (tgt := 22) hx hb dX11_leastOf_15 (by decide) (fun c_3 => ?_) (fun c_3 => ?_)
      · have hF := it_neg c_3 hF
        refine lv_iconst (v := 1) hx hb dX11_leastOf_22 (by decide) ?_
        obtain rfl := Option.some.inj hF
        exact HR 23 H locs ls dX11_leastOf_23 hP hD hS
      · have hF := it_pos c_3 hF
        refine lv_iconst (v := 0) hx hb dX11_leastOf_18 (by decide) ?_
        refine lv_goto (tgt := 23) hx hb dX11_leastOf_19 (by decide) ?_
        obtain rfl := Option.some.inj hF
        exact HR 23 H locs ls dX11_leastOf_23 hP hD hS
  · have hF := it_pos c_1 hF
    refine lv_iconst (v := 2) hx hb dX11_leastOf_4 (by decide) ?_
    refine lv_goto (tgt := 23) hx hb dX11_leastOf_5 (by decide) ?_
    obtain rfl := Option.some.inj hF
    exact HR 23 H locs ls dX11_leastOf_23 hP hD hS

/-! StaggerRadarModel.leave(I)I -/
abbrev rmX11_leave : Room := { frames := 2, cells := 0, slots := 0, locals := 43 }
theorem fl_X11_leave_7 : Cond.fieldLink RX11 7 "StaggerRadarModel" "all" "[I" ∈ wsX11_leave := by decide +kernel
theorem fl_X11_leave_66 : Cond.fieldLink RX11 66 "StaggerRadarModel" "raised" "I" ∈ wsX11_leave := by decide +kernel
theorem iw_X11_leave_X11 : ∀ w ∈ u_ws RX11 TX11 30, w ∈ wsX11_leave := by decide +kernel
abbrev w_X11_leave (K : Nat → ClassId) (g_t : Nat → Nat) (t_raised : Int32) (t_undos : Int32) (t_reached : Int32) (t_length : Int32) (t_begin : Int32) (t_sort : Int32) (t_value : Int32) (t_word : Int64) (t_wrongAt : Int32) (t_badAt : Int32) (t_bad : Int32) (t_read : Int32) (t_pictured : Int32) (t_x : Int32) (t_all : Nat → Int32) (t_undone : Nat → Int32) : va_W := [((g_t 0), .inr (10, [.int t_raised, .ref (g_t 2), .ref (g_t 3), .ref (g_t 4), .ref (g_t 5), .int t_undos, .int t_reached, .int t_length, .int t_begin, .int t_sort, .int t_value, .long t_word, .int t_wrongAt, .int t_badAt, .int t_bad, .ref (g_t 16), .int t_read, .ref (g_t 18), .ref (g_t 19), .ref (g_t 20), .int t_pictured, .ref (g_t 22), .ref (g_t 23), .ref (g_t 24), .ref (g_t 25), .ref (g_t 26), .int t_x, .ref (g_t 28), .ref (g_t 29), .ref (g_t 30)])), ((g_t 2), .inl (K 0, 500, .inl t_all)), ((g_t 5), .inl (K 0, 776, .inl t_undone))]
def F_X11_leave (t_raised : Int32) (t_undos : Int32) (t_all : Nat → Int32) (t_undone : Nat → Int32) (x1 : Int32) : Option (Int32 × Int32 × Int32 × (Nat → Int32) × (Nat → Int32)) :=
  (F_X11_isTarget t_all x1).bind fun r_1 => (if r_1 = (0 : Int32) then (some ((-1 : Int32), (0 : Int32), t_undos, t_all, t_undone)) else ((F_X11_keeps t_undos t_all t_undone).bind fun r_4 => ((F_X11_goes t_all x1).bind fun r_6 => (some ((r_6 13), (0 : Int32), r_4.1, r_6, r_4.2)))))
set_option maxHeartbeats 4000000 in
set_option maxRecDepth 100000 in
theorem c_X11_leave (l : Launch) (D : va_G) (K : Nat → ClassId) (g_t : Nat → Nat) (t_raised : Int32) (t_undos : Int32) (t_reached : Int32) (t_length : Int32) (t_begin : Int32) (t_sort : Int32) (t_value : Int32) (t_word : Int64) (t_wrongAt : Int32) (t_badAt : Int32) (t_bad : Int32) (t_read : Int32) (t_pictured : Int32) (t_x : Int32) (t_all : Nat → Int32) (t_undone : Nat → Int32) (x1 : Int32) (res : Int32 × Int32 × Int32 × (Nat → Int32) × (Nat → Int32)) (hF : F_X11_leave t_raised t_undos t_all t_undone x1 = some res) :
    Mi_ l yX11_leave wsX11_leave rmX11_leave D K [.ref (g_t 0), .int x1] (w_X11_leave K g_t t_raised t_undos t_reached t_length t_begin t_sort t_value t_word t_wrongAt t_badAt t_bad t_read t_pictured t_x t_all t_undone) (w_X11_leave K g_t res.2.1 res.2.2.1 t_reached t_length t_begin t_sort t_value t_word t_wrongAt t_badAt t_bad t_read t_pictured t_x res.2.2.2.1 res.2.2.2.2) (res.1) := by
  refine en_i (cc := cX11_leave) (maxL := 2) (own := RX11) (by decide) rfl rfl (Nat.le_of_ble_eq_true rfl) ?_
  intro p e s m args below meth c A Q H locs ls C0 hP hD hS hl HR
  obtain ⟨⟨hx, hb, hml, hown, hts⟩, hK, -⟩ := id C0
  have hl : lv_has ls 2 [(0, .ref (g_t 0)), (1, .int x1)] := hl
  unfold F_X11_leave at hF
  refine lv_aload_n hx hb dX11_leave_0 rfl (lv_at hl 0 rfl) ?_
  refine lv_iconst (v := 0) hx hb dX11_leave_1 (by decide) ?_
  refine va_put (D := D) (ci := 10) (v := .int (0 : Int32)) (ty := .int) (C := RX11) (T := TX11) (N := 30) hx hb hts iw_X11_leave_X11 tyX11 tyX11_ok nmX11 hown hK hP hD hS 0 rfl rfl 0 (by decide) (hts _ fl_X11_leave_66) (fun _ h9 => h9) rfl (by decide +kernel) rfl rfl (Nat.le_of_ble_eq_true rfl) dX11_leave_2 (fun H locs hP hD hS => ?_)
  have hP : va_P D vwCl (w_X11_leave K g_t (0 : Int32) t_undos t_reached t_length t_begin t_sort t_value t_word t_wrongAt t_badAt t_bad t_read t_pictured t_x t_all t_undone) H := hP
  have hD : va_D A (w_X11_leave K g_t (0 : Int32) t_undos t_reached t_length t_begin t_sort t_value t_word t_wrongAt t_badAt t_bad t_read t_pictured t_x t_all t_undone) := hD
  refine lv_aload_n hx hb dX11_leave_5 rfl (lv_at hl 0 rfl) ?_
  refine lv_iload_n hx hb dX11_leave_6 rfl (lv_at hl 1 rfl) ?_
  obtain ⟨r_1, hc_2, hF⟩ := bn_some hF
  refine xc_i (wn := (w_X11_leave K g_t (0 : Int32) t_undos t_reached t_length t_begin t_sort t_value t_word t_wrongAt t_badAt t_bad t_read t_pictured t_x t_all t_undone)) hP hD hS C0.2.2.1 [0, 1] [2] [1, 2, 0] rfl rfl (by decide) (by decide) rfl (by decide) (va_runV (As := [.int x1]) (rest := []) C0.1 (c_X11_isTarget l D K g_t (0 : Int32) t_undos t_reached t_length t_begin t_sort t_value t_word t_wrongAt t_badAt t_bad t_read t_pictured t_x t_all x1 r_1 hc_2 H.size) (cwV 1 hts gX11_leave_X11_isTarget rfl rfl rfl (by decide +kernel) ⟨Nat.le_of_ble_eq_true rfl, Nat.le_of_ble_eq_true rfl⟩) (xp_V C0.2 hP hD hS [0, 1] rfl (by decide) 10 0 rfl rfl rfl) rfl rfl hl.1 rfl (lv_room (Nat.le_of_ble_eq_true rfl)) dX11_leave_7 ⟨Nat.le_of_ble_eq_true rfl, Nat.le_of_ble_eq_true rfl⟩) (fun H locs hP hD hS => ?_)
  refine lv_if_ne (tgt := 15) hx hb dX11_leave_10 (by decide) (fun c_3 => ?_) (fun c_3 => ?_)
  · have hF := it_neg c_3 hF
    refine lv_aload_n hx hb dX11_leave_15 rfl (lv_at hl 0 rfl) ?_
    obtain ⟨r_4, hc_5, hF⟩ := bn_some hF
    refine xc_v (wn := (w_X11_leave K g_t (0 : Int32) r_4.1 t_reached t_length t_begin t_sort t_value t_word t_wrongAt t_badAt t_bad t_read t_pictured t_x t_all r_4.2)) hP hD hS C0.2.2.1 [0, 1, 2] [] [0, 1, 2] rfl rfl (by decide) (by decide) rfl (by decide) (va_runV (As := []) (rest := []) C0.1 (c_X11_keeps l D K g_t (0 : Int32) t_undos t_reached t_length t_begin t_sort t_value t_word t_wrongAt t_badAt t_bad t_read t_pictured t_x t_all t_undone r_4 hc_5 H.size) (cwV 0 hts gX11_leave_X11_keeps rfl rfl rfl (by decide +kernel) ⟨Nat.le_of_ble_eq_true rfl, Nat.le_of_ble_eq_true rfl⟩) (xp_V C0.2 hP hD hS [0, 1, 2] rfl (by decide) 10 0 rfl rfl rfl) rfl rfl hl.1 rfl (lv_room (Nat.le_of_ble_eq_true rfl)) dX11_leave_16 ⟨Nat.le_of_ble_eq_true rfl, Nat.le_of_ble_eq_true rfl⟩) (fun H locs hP hD hS => ?_)
    refine lv_aload_n hx hb dX11_leave_19 rfl (lv_at hl 0 rfl) ?_
    refine lv_iload_n hx hb dX11_leave_20 rfl (lv_at hl 1 rfl) ?_
    obtain ⟨r_6, hc_7, hF⟩ := bn_some hF
    refine xc_v (wn := (w_X11_leave K g_t (0 : Int32) r_4.1 t_reached t_length t_begin t_sort t_value t_word t_wrongAt t_badAt t_bad t_read t_pictured t_x r_6 r_4.2)) hP hD hS C0.2.2.1 [0, 1] [2] [1, 2, 0] rfl rfl (by decide) (by decide) rfl (by decide) (va_runV (As := [.int x1]) (rest := []) C0.1 (c_X11_goes l D K g_t (0 : Int32) r_4.1 t_reached t_length t_begin t_sort t_value t_word t_wrongAt t_badAt t_bad t_read t_pictured t_x t_all x1 r_6 hc_7 H.size) (cwV 1 hts gX11_leave_X11_goes rfl rfl rfl (by decide +kernel) ⟨Nat.le_of_ble_eq_true rfl, Nat.le_of_ble_eq_true rfl⟩) (xp_V C0.2 hP hD hS [0, 1] rfl (by decide) 10 0 rfl rfl rfl) rfl rfl hl.1 rfl (lv_room (Nat.le_of_ble_eq_true rfl)) dX11_leave_21 ⟨Nat.le_of_ble_eq_true rfl, Nat.le_of_ble_eq_true rfl⟩) (fun H locs hP hD hS => ?_)
    refine lv_aload_n hx hb dX11_leave_24 rfl (lv_at hl 0 rfl) ?_
    refine va_get (D := D) (ci := 10) (v := .ref (g_t 2)) (C := RX11) (T := TX11) (N := 30) hx hb hts iw_X11_leave_X11 hown hK hP 0 rfl rfl 1 (by decide) (hts _ fl_X11_leave_7) (fun _ h9 => h9) rfl dX11_leave_25 ?_
    refine lv_bipush (v := 13) hx hb dX11_leave_28 (by decide) ?_
    refine xl_i (f := r_6) hx hb hK hP 1 0 rfl rfl (k := 13) (by decide) (in_v (by decide)) dX11_leave_30 ?_
    obtain rfl := Option.some.inj hF
    exact HR 31 H locs ls dX11_leave_31 hP hD hS
  · have hF := it_pos c_3 hF
    refine lv_iconst (v := (-1)) hx hb dX11_leave_13 (by decide) ?_
    obtain rfl := Option.some.inj hF
    exact HR 14 H locs ls dX11_leave_14 hP hD hS

/-! StaggerRadarModel.targetLine(I)Z -/
abbrev rmX11_targetLine : Room := { frames := 3, cells := 0, slots := 0, locals := 66 }
theorem fl_X11_targetLine_24 : Cond.fieldLink RX11 24 "StaggerRadarModel" "told" "[I" ∈ wsX11_targetLine := by decide +kernel
theorem fl_X11_targetLine_90 : Cond.fieldLink RX11 90 "StaggerRadarModel" "begin" "I" ∈ wsX11_targetLine := by decide +kernel
theorem fl_X11_targetLine_116 : Cond.fieldLink RX11 116 "StaggerRadarModel" "read" "I" ∈ wsX11_targetLine := by decide +kernel
theorem iw_X11_targetLine_X11 : ∀ w ∈ u_ws RX11 TX11 30, w ∈ wsX11_targetLine := by decide +kernel
abbrev w_X11_targetLine (K : Nat → ClassId) (g_t : Nat → Nat) (t_raised : Int32) (t_undos : Int32) (t_reached : Int32) (t_length : Int32) (t_begin : Int32) (t_sort : Int32) (t_value : Int32) (t_word : Int64) (t_wrongAt : Int32) (t_badAt : Int32) (t_bad : Int32) (t_read : Int32) (t_pictured : Int32) (t_x : Int32) (t_text : Nat → Int32) (t_told : Nat → Int32) : va_W := [((g_t 0), .inr (10, [.int t_raised, .ref (g_t 2), .ref (g_t 3), .ref (g_t 4), .ref (g_t 5), .int t_undos, .int t_reached, .int t_length, .int t_begin, .int t_sort, .int t_value, .long t_word, .int t_wrongAt, .int t_badAt, .int t_bad, .ref (g_t 16), .int t_read, .ref (g_t 18), .ref (g_t 19), .ref (g_t 20), .int t_pictured, .ref (g_t 22), .ref (g_t 23), .ref (g_t 24), .ref (g_t 25), .ref (g_t 26), .int t_x, .ref (g_t 28), .ref (g_t 29), .ref (g_t 30)])), ((g_t 3), .inl (K 3, 1600, .inl t_text)), ((g_t 16), .inl (K 0, 97, .inl t_told))]
def J_X11_targetLine_21 (t_length : Int32) (t_text : Nat → Int32) (t_reached : Int32) (t_begin : Int32) (t_sort : Int32) (t_value : Int32) (t_word : Int64) (t_wrongAt : Int32) (t_badAt : Int32) (t_bad : Int32) (t_read : Int32) (t_told : Nat → Int32) (x1 : Int32) : Option (Int32 × Int32 × Int32 × Int32 × Int32 × Int64 × Int32 × Int32 × Int32 × Int32 × (Nat → Int32)) :=
  (F_X11_token t_reached t_length t_begin t_sort t_value t_word t_text).bind fun r_1 => ((F_X11_takes r_1.1 t_length r_1.2.1 r_1.2.2.1 r_1.2.2.2.1 r_1.2.2.2.2 t_wrongAt t_badAt t_bad t_read t_text (0 : Int32) (2999 : Int32)).bind fun r_3 => (if r_3.1 = (0 : Int32) then (some ((0 : Int32), r_3.2.1, r_3.2.2.1, r_3.2.2.2.1, r_3.2.2.2.2.1, r_3.2.2.2.2.2.1, r_3.2.2.2.2.2.2.1, r_3.2.2.2.2.2.2.2.1, r_3.2.2.2.2.2.2.2.2.1, r_3.2.2.2.2.2.2.2.2.2, t_told)) else ((F_X11_takes r_3.2.1 t_length r_3.2.2.1 r_3.2.2.2.1 r_3.2.2.2.2.1 r_3.2.2.2.2.2.1 r_3.2.2.2.2.2.2.1 r_3.2.2.2.2.2.2.2.1 r_3.2.2.2.2.2.2.2.2.1 r_3.2.2.2.2.2.2.2.2.2 t_text (0 : Int32) (500 : Int32)).bind fun r_6 => (if r_6.1 = (0 : Int32) then (some ((0 : Int32), r_6.2.1, r_6.2.2.1, r_6.2.2.2.1, r_6.2.2.2.2.1, r_6.2.2.2.2.2.1, r_6.2.2.2.2.2.2.1, r_6.2.2.2.2.2.2.2.1, r_6.2.2.2.2.2.2.2.2.1, r_6.2.2.2.2.2.2.2.2.2, t_told)) else ((F_X11_takes r_6.2.1 t_length r_6.2.2.1 r_6.2.2.2.1 r_6.2.2.2.2.1 r_6.2.2.2.2.2.1 r_6.2.2.2.2.2.2.1 r_6.2.2.2.2.2.2.2.1 r_6.2.2.2.2.2.2.2.2.1 r_6.2.2.2.2.2.2.2.2.2 t_text (1 : Int32) (99 : Int32)).bind fun r_9 => (if r_9.1 = (0 : Int32) then (some ((0 : Int32), r_9.2.1, r_9.2.2.1, r_9.2.2.2.1, r_9.2.2.2.2.1, r_9.2.2.2.2.2.1, r_9.2.2.2.2.2.2.1, r_9.2.2.2.2.2.2.2.1, r_9.2.2.2.2.2.2.2.2.1, r_9.2.2.2.2.2.2.2.2.2, t_told)) else (if (8 : Int32) ≤ (t_told 13) then (some ((1 : Int32), r_9.2.1, r_9.2.2.1, r_9.2.2.2.1, r_9.2.2.2.2.1, r_9.2.2.2.2.2.1, r_9.2.2.2.2.2.2.1, r_9.2.2.2.2.2.2.2.1, r_9.2.2.2.2.2.2.2.2.1, r_9.2.2.2.2.2.2.2.2.2, t_told)) else (gd_ (in_b (((14 : Int32) + ((3 : Int32) * (t_told 13))) + (0 : Int32)) 97) (gd_ (in_b (((14 : Int32) + ((3 : Int32) * (t_told 13))) + (1 : Int32)) 97) (gd_ (in_b (((14 : Int32) + ((3 : Int32) * (t_told 13))) + (2 : Int32)) 97) (some ((1 : Int32), r_9.2.1, r_9.2.2.1, r_9.2.2.2.1, r_9.2.2.2.2.1, r_9.2.2.2.2.2.1, r_9.2.2.2.2.2.2.1, r_9.2.2.2.2.2.2.2.1, r_9.2.2.2.2.2.2.2.2.1, r_9.2.2.2.2.2.2.2.2.2, (upd (upd (upd (upd t_told (((14 : Int32) + ((3 : Int32) * (t_told 13))) + (0 : Int32)).toNatClampNeg ((16 : Int32) * r_3.2.2.2.2.2.2.2.2.2)) (((14 : Int32) + ((3 : Int32) * (t_told 13))) + (1 : Int32)).toNatClampNeg (x1 * r_6.2.2.2.2.2.2.2.2.2)) (((14 : Int32) + ((3 : Int32) * (t_told 13))) + (2 : Int32)).toNatClampNeg r_9.2.2.2.2.2.2.2.2.2) 13 (((upd (upd (upd t_told (((14 : Int32) + ((3 : Int32) * (t_told 13))) + (0 : Int32)).toNatClampNeg ((16 : Int32) * r_3.2.2.2.2.2.2.2.2.2)) (((14 : Int32) + ((3 : Int32) * (t_told 13))) + (1 : Int32)).toNatClampNeg (x1 * r_6.2.2.2.2.2.2.2.2.2)) (((14 : Int32) + ((3 : Int32) * (t_told 13))) + (2 : Int32)).toNatClampNeg r_9.2.2.2.2.2.2.2.2.2) 13) + (1 : Int32)))))))))))))))
set_option maxHeartbeats 4000000 in
set_option maxRecDepth 100000 in
theorem w_X11_targetLine_21 {p : Program} {l : Launch} {e : Env} {s : State} {m : MethodId} {args : Array Value} {below : List Frame} {meth : Method} {c : Code} {D : va_G} {K : Nat → ClassId} {A : Nat → Prop} {Q : State → Prop} (C0 : cx_ p s m args c cX11_targetLine 5 RX11 wsX11_targetLine D K A) {g_t : Nat → Nat} {t_raised : Int32} {t_undos : Int32} {t_length : Int32} {t_pictured : Int32} {t_x : Int32} {t_text : Nat → Int32} {res : Int32 × Int32 × Int32 × Int32 × Int32 × Int64 × Int32 × Int32 × Int32 × Int32 × (Nat → Int32)} (HR : ∀ (pc : Nat) (H : Heap) (locs : List Loc) (ls : Array Slot), decode cX11_targetLine pc = .ok (.ireturn, 1) → narrow .boolean (.int res.1) = .int res.1 → va_P D vwCl (w_X11_targetLine K g_t t_raised t_undos res.2.1 t_length res.2.2.1 res.2.2.2.1 res.2.2.2.2.1 res.2.2.2.2.2.1 res.2.2.2.2.2.2.1 res.2.2.2.2.2.2.2.1 res.2.2.2.2.2.2.2.2.1 res.2.2.2.2.2.2.2.2.2.1 t_pictured t_x t_text res.2.2.2.2.2.2.2.2.2.2) H → va_D A (w_X11_targetLine K g_t t_raised t_undos res.2.1 t_length res.2.2.1 res.2.2.2.1 res.2.2.2.2.1 res.2.2.2.2.2.1 res.2.2.2.2.2.2.1 res.2.2.2.2.2.2.2.1 res.2.2.2.2.2.2.2.2.1 res.2.2.2.2.2.2.2.2.2.1 t_pictured t_x t_text res.2.2.2.2.2.2.2.2.2.2) → va_S A s.heap H locs → W p l e rmX11_targetLine s m args below meth c H locs 0 0 Q (F0 m pc ls [.int res.1]))  :
    ∀ (t_reached : Int32) (t_begin : Int32) (t_sort : Int32) (t_value : Int32) (t_word : Int64) (t_wrongAt : Int32) (t_badAt : Int32) (t_bad : Int32) (t_read : Int32) (t_told : Nat → Int32) (x1 : Int32) (H : Heap) (locs : List Loc) (ls : Array Slot), va_P D vwCl (w_X11_targetLine K g_t t_raised t_undos t_reached t_length t_begin t_sort t_value t_word t_wrongAt t_badAt t_bad t_read t_pictured t_x t_text t_told) H → va_D A (w_X11_targetLine K g_t t_raised t_undos t_reached t_length t_begin t_sort t_value t_word t_wrongAt t_badAt t_bad t_read t_pictured t_x t_text t_told) → va_S A s.heap H locs → lv_has ls 5 [(0, .ref (g_t 0)), (1, .int x1)] → J_X11_targetLine_21 t_length t_text t_reached t_begin t_sort t_value t_word t_wrongAt t_badAt t_bad t_read t_told x1 = some res → W p l e rmX11_targetLine s m args below meth c H locs 0 0 Q (F0 m 21 ls []) := by
  obtain ⟨⟨hx, hb, hml, hown, hts⟩, hK, -⟩ := id C0
  intro t_reached t_begin t_sort t_value t_word t_wrongAt t_badAt t_bad t_read t_told x1 H locs ls hP hD hS hl hF
  unfold J_X11_targetLine_21 at hF
  refine lv_aload_n hx hb dX11_targetLine_21 rfl (lv_at hl 0 rfl) ?_
  obtain ⟨r_1, hc_2, hF⟩ := bn_some hF
  refine xc_v (wn := (w_X11_targetLine K g_t t_raised t_undos r_1.1 t_length r_1.2.1 r_1.2.2.1 r_1.2.2.2.1 r_1.2.2.2.2 t_wrongAt t_badAt t_bad t_read t_pictured t_x t_text t_told)) hP hD hS C0.2.2.1 [0, 1] [2] [1, 2, 0] rfl rfl (by decide) (by decide) rfl (by decide) (va_runV (As := []) (rest := []) C0.1 (c_X11_token l D K g_t t_raised t_undos t_reached t_length t_begin t_sort t_value t_word t_wrongAt t_badAt t_bad t_read t_pictured t_x t_text r_1 hc_2 H.size) (cwV 0 hts gX11_targetLine_X11_token rfl rfl rfl (by decide +kernel) ⟨Nat.le_of_ble_eq_true rfl, Nat.le_of_ble_eq_true rfl⟩) (xp_V C0.2 hP hD hS [0, 1] rfl (by decide) 10 0 rfl rfl rfl) rfl rfl hl.1 rfl (lv_room (Nat.le_of_ble_eq_true rfl)) dX11_targetLine_22 ⟨Nat.le_of_ble_eq_true rfl, Nat.le_of_ble_eq_true rfl⟩) (fun H locs hP hD hS => ?_)
  refine lv_aload_n hx hb dX11_targetLine_25 rfl (lv_at hl 0 rfl) ?_
  refine lv_iconst (v := 0) hx hb dX11_targetLine_26 (by decide) ?_
  refine lv_sipush (v := 2999) hx hb dX11_targetLine_27 (by decide) ?_
  obtain ⟨r_3, hc_4, hF⟩ := bn_some hF
  refine xc_i (wn := (w_X11_targetLine K g_t t_raised t_undos r_3.2.1 t_length r_3.2.2.1 r_3.2.2.2.1 r_3.2.2.2.2.1 r_3.2.2.2.2.2.1 r_3.2.2.2.2.2.2.1 r_3.2.2.2.2.2.2.2.1 r_3.2.2.2.2.2.2.2.2.1 r_3.2.2.2.2.2.2.2.2.2 t_pictured t_x t_text t_told)) hP hD hS C0.2.2.1 [0, 1] [2] [1, 2, 0] rfl rfl (by decide) (by decide) rfl (by decide) (va_runV (As := [.int (0 : Int32), .int (2999 : Int32)]) (rest := []) C0.1 (c_X11_takes l D K g_t t_raised t_undos r_1.1 t_length r_1.2.1 r_1.2.2.1 r_1.2.2.2.1 r_1.2.2.2.2 t_wrongAt t_badAt t_bad t_read t_pictured t_x t_text (0 : Int32) (2999 : Int32) r_3 hc_4 H.size) (cwV 2 hts gX11_targetLine_X11_takes rfl rfl rfl (by decide +kernel) ⟨Nat.le_of_ble_eq_true rfl, Nat.le_of_ble_eq_true rfl⟩) (xp_V C0.2 hP hD hS [0, 1] rfl (by decide) 10 0 rfl rfl rfl) rfl rfl hl.1 rfl (lv_room (Nat.le_of_ble_eq_true rfl)) dX11_targetLine_30 ⟨Nat.le_of_ble_eq_true rfl, Nat.le_of_ble_eq_true rfl⟩) (fun H locs hP hD hS => ?_)
  refine lv_if_ne (tgt := 38) hx hb dX11_targetLine_33 (by decide) (fun c_5 => ?_) (fun c_5 => ?_)
  · have hF := it_neg c_5 hF
    refine lv_aload_n hx hb dX11_targetLine_38 rfl (lv_at hl 0 rfl) ?_
    refine va_get (D := D) (ci := 10) (v := .int r_3.2.2.2.2.2.2.2.2.2) (C := RX11) (T := TX11) (N := 30) hx hb hts iw_X11_targetLine_X11 hown hK hP 0 rfl rfl 16 (by decide) (hts _ fl_X11_targetLine_116) (fun _ h9 => h9) rfl dX11_targetLine_39 ?_
    refine lv_istore_n (lv' := [(2, .int r_3.2.2.2.2.2.2.2.2.2), (0, .ref (g_t 0)), (1, .int x1)]) hx hb dX11_targetLine_42 rfl hl (by decide) rfl (fun ls hl => ?_)
    refine lv_aload_n hx hb dX11_targetLine_43 rfl (lv_at hl 1 rfl) ?_
    refine lv_iconst (v := 0) hx hb dX11_targetLine_44 (by decide) ?_
    refine lv_sipush (v := 500) hx hb dX11_targetLine_45 (by decide) ?_
    obtain ⟨r_6, hc_7, hF⟩ := bn_some hF
    refine xc_i (wn := (w_X11_targetLine K g_t t_raised t_undos r_6.2.1 t_length r_6.2.2.1 r_6.2.2.2.1 r_6.2.2.2.2.1 r_6.2.2.2.2.2.1 r_6.2.2.2.2.2.2.1 r_6.2.2.2.2.2.2.2.1 r_6.2.2.2.2.2.2.2.2.1 r_6.2.2.2.2.2.2.2.2.2 t_pictured t_x t_text t_told)) hP hD hS C0.2.2.1 [0, 1] [2] [1, 2, 0] rfl rfl (by decide) (by decide) rfl (by decide) (va_runV (As := [.int (0 : Int32), .int (500 : Int32)]) (rest := []) C0.1 (c_X11_takes l D K g_t t_raised t_undos r_3.2.1 t_length r_3.2.2.1 r_3.2.2.2.1 r_3.2.2.2.2.1 r_3.2.2.2.2.2.1 r_3.2.2.2.2.2.2.1 r_3.2.2.2.2.2.2.2.1 r_3.2.2.2.2.2.2.2.2.1 r_3.2.2.2.2.2.2.2.2.2 t_pictured t_x t_text (0 : Int32) (500 : Int32) r_6 hc_7 H.size) (cwV 2 hts gX11_targetLine_X11_takes rfl rfl rfl (by decide +kernel) ⟨Nat.le_of_ble_eq_true rfl, Nat.le_of_ble_eq_true rfl⟩) (xp_V C0.2 hP hD hS [0, 1] rfl (by decide) 10 0 rfl rfl rfl) rfl rfl hl.1 rfl (lv_room (Nat.le_of_ble_eq_true rfl)) dX11_targetLine_48 ⟨Nat.le_of_ble_eq_true rfl, Nat.le_of_ble_eq_true rfl⟩) (fun H locs hP hD hS => ?_)
    refine lv_if_ne (tgt := 56) hx hb dX11_targetLine_51 (by decide) (fun c_8 => ?_) (fun c_8 => ?_)
    · have hF := it_neg c_8 hF
      refine lv_iload_n hx hb dX11_targetLine_56 rfl (lv_at hl 2 rfl) ?_
      refine lv_aload_n hx hb dX11_targetLine_57 rfl (lv_at hl 1 rfl) ?_
      refine va_get (D := D) (ci := 10) (v := .int r_6.2.2.2.2.2.2.2.2.2) (C := RX11) (T := TX11) (N := 30) hx hb hts iw_X11_targetLine_X11 hown hK hP 0 rfl rfl 16 (by decide) (hts _ fl_X11_targetLine_116) (fun _ h9 => h9) rfl dX11_targetLine_58 ?_
      refine lv_imul hx hb dX11_targetLine_61 ?_
      refine lv_istore_n (lv' := [(3, .int (x1 * r_6.2.2.2.2.2.2.2.2.2)), (2, .int r_3.2.2.2.2.2.2.2.2.2), (0, .ref (g_t 0)), (1, .int x1)]) hx hb dX11_targetLine_62 rfl hl (by decide) rfl (fun ls hl => ?_)
      refine lv_aload_n hx hb dX11_targetLine_63 rfl (lv_at hl 2 rfl) ?_
      refine lv_iconst (v := 1) hx hb dX11_targetLine_64 (by decide) ?_
      refine lv_bipush (v := 99) hx hb dX11_targetLine_65 (by decide) ?_
      obtain ⟨r_9, hc_10, hF⟩ := bn_some hF
      refine xc_i (wn := (w_X11_targetLine K g_t t_raised t_undos r_9.2.1 t_length r_9.2.2.1 r_9.2.2.2.1 r_9.2.2.2.2.1 r_9.2.2.2.2.2.1 r_9.2.2.2.2.2.2.1 r_9.2.2.2.2.2.2.2.1 r_9.2.2.2.2.2.2.2.2.1 r_9.2.2.2.2.2.2.2.2.2 t_pictured t_x t_text t_told)) hP hD hS C0.2.2.1 [0, 1] [2] [1, 2, 0] rfl rfl (by decide) (by decide) rfl (by decide) (va_runV (As := [.int (1 : Int32), .int (99 : Int32)]) (rest := []) C0.1 (c_X11_takes l D K g_t t_raised t_undos r_6.2.1 t_length r_6.2.2.1 r_6.2.2.2.1 r_6.2.2.2.2.1 r_6.2.2.2.2.2.1 r_6.2.2.2.2.2.2.1 r_6.2.2.2.2.2.2.2.1 r_6.2.2.2.2.2.2.2.2.1 r_6.2.2.2.2.2.2.2.2.2 t_pictured t_x t_text (1 : Int32) (99 : Int32) r_9 hc_10 H.size) (cwV 2 hts gX11_targetLine_X11_takes rfl rfl rfl (by decide +kernel) ⟨Nat.le_of_ble_eq_true rfl, Nat.le_of_ble_eq_true rfl⟩) (xp_V C0.2 hP hD hS [0, 1] rfl (by decide) 10 0 rfl rfl rfl) rfl rfl hl.1 rfl (lv_room (Nat.le_of_ble_eq_true rfl)) dX11_targetLine_67 ⟨Nat.le_of_ble_eq_true rfl, Nat.le_of_ble_eq_true rfl⟩) (fun H locs hP hD hS => ?_)
      refine lv_if_ne (tgt := 75) hx hb dX11_targetLine_70 (by decide) (fun c_11 => ?_) (fun c_11 => ?_)
      · have hF := it_neg c_11 hF
        refine lv_aload_n hx hb dX11_targetLine_75 rfl (lv_at hl 2 rfl) ?_
        refine va_get (D := D) (ci := 10) (v := .ref (g_t 16)) (C := RX11) (T := TX11) (N := 30) hx hb hts iw_X11_targetLine_X11 hown hK hP 0 rfl rfl 15 (by decide) (hts _ fl_X11_targetLine_24) (fun _ h9 => h9) rfl dX11_targetLine_76 ?_
        refine lv_bipush (v := 13) hx hb dX11_targetLine_79 (by decide) ?_
        refine xl_i (f := t_told) hx hb hK hP 2 0 rfl rfl (k := 13) (by decide) (in_v (by decide)) dX11_targetLine_81 ?_
        refine lv_bipush (v := 8) hx hb dX11_targetLine_82 (by decide) ?_
        refine lv_icmp_ge (tgt := 148) hx hb dX11_targetLine_84 (by decide) (fun c_12 => ?_) (fun c_12 => ?_)
        · have hF := it_pos c_12 hF
          refine lv_iconst (v := 1) hx hb dX11_targetLine_148 (by decide) ?_
          obtain rfl := Option.some.inj hF
          exact HR 149 H locs ls dX11_targetLine_149 narrow_b1 hP hD hS
        · have hF := it_neg c_12 hF
          refine lv_bipush (v := 14) hx hb dX11_targetLine_87 (by decide) ?_
          refine lv_iconst (v := 3) hx hb dX11_targetLine_89 (by decide) ?_
          refine lv_aload_n hx hb dX11_targetLine_90 rfl (lv_at hl 2 rfl) ?_
          refine va_get (D := D) (ci := 10) (v := .ref (g_t 16)) (C := RX11) (T := TX11) (N := 30) hx hb hts iw_X11_targetLine_X11 hown hK hP 0 rfl rfl 15 (by decide) (hts _ fl_X11_targetLine_24) (fun _ h9 => h9) rfl dX11_targetLine_91 ?_
          refine lv_bipush (v := 13) hx hb dX11_targetLine_94 (by decide) ?_
          refine xl_i (f := t_told) hx hb hK hP 2 0 rfl rfl (k := 13) (by decide) (in_v (by decide)) dX11_targetLine_96 ?_
          refine lv_imul hx hb dX11_targetLine_97 ?_
          refine lv_iadd hx hb dX11_targetLine_98 ?_
          refine lv_istore (lv' := [(4, .int ((14 : Int32) + ((3 : Int32) * (t_told 13)))), (3, .int (x1 * r_6.2.2.2.2.2.2.2.2.2)), (2, .int r_3.2.2.2.2.2.2.2.2.2), (0, .ref (g_t 0)), (1, .int x1)]) hx hb dX11_targetLine_99 hl (by decide) rfl (fun ls hl => ?_)
          refine lv_aload_n hx hb dX11_targetLine_101 rfl (lv_at hl 3 rfl) ?_
          refine va_get (D := D) (ci := 10) (v := .ref (g_t 16)) (C := RX11) (T := TX11) (N := 30) hx hb hts iw_X11_targetLine_X11 hown hK hP 0 rfl rfl 15 (by decide) (hts _ fl_X11_targetLine_24) (fun _ h9 => h9) rfl dX11_targetLine_102 ?_
          refine lv_iload hx hb dX11_targetLine_105 (lv_at hl 0 rfl) ?_
          refine lv_iconst (v := 0) hx hb dX11_targetLine_107 (by decide) ?_
          refine lv_iadd hx hb dX11_targetLine_108 ?_
          refine lv_bipush (v := 16) hx hb dX11_targetLine_109 (by decide) ?_
          refine lv_iload_n hx hb dX11_targetLine_111 rfl (lv_at hl 2 rfl) ?_
          refine lv_imul hx hb dX11_targetLine_112 ?_
          obtain ⟨hg_13, hF⟩ := gd_some hF
          refine xs_i (f := t_told) hx hb hK hP hD hS 2 0 rfl rfl rfl (in_v hg_13) dX11_targetLine_113 (fun H locs hP hD hS => ?_)
          have hP : va_P D vwCl (w_X11_targetLine K g_t t_raised t_undos r_9.2.1 t_length r_9.2.2.1 r_9.2.2.2.1 r_9.2.2.2.2.1 r_9.2.2.2.2.2.1 r_9.2.2.2.2.2.2.1 r_9.2.2.2.2.2.2.2.1 r_9.2.2.2.2.2.2.2.2.1 r_9.2.2.2.2.2.2.2.2.2 t_pictured t_x t_text (upd t_told (((14 : Int32) + ((3 : Int32) * (t_told 13))) + (0 : Int32)).toNatClampNeg ((16 : Int32) * r_3.2.2.2.2.2.2.2.2.2))) H := hP
          have hD : va_D A (w_X11_targetLine K g_t t_raised t_undos r_9.2.1 t_length r_9.2.2.1 r_9.2.2.2.1 r_9.2.2.2.2.1 r_9.2.2.2.2.2.1 r_9.2.2.2.2.2.2.1 r_9.2.2.2.2.2.2.2.1 r_9.2.2.2.2.2.2.2.2.1 r_9.2.2.2.2.2.2.2.2.2 t_pictured t_x t_text (upd t_told (((14 : Int32) + ((3 : Int32) * (t_told 13))) + (0 : Int32)).toNatClampNeg ((16 : Int32) * r_3.2.2.2.2.2.2.2.2.2))) := hD
          refine lv_aload_n hx hb dX11_targetLine_114 rfl (lv_at hl 3 rfl) ?_
          refine va_get (D := D) (ci := 10) (v := .ref (g_t 16)) (C := RX11) (T := TX11) (N := 30) hx hb hts iw_X11_targetLine_X11 hown hK hP 0 rfl rfl 15 (by decide) (hts _ fl_X11_targetLine_24) (fun _ h9 => h9) rfl dX11_targetLine_115 ?_
          refine lv_iload hx hb dX11_targetLine_118 (lv_at hl 0 rfl) ?_
          refine lv_iconst (v := 1) hx hb dX11_targetLine_120 (by decide) ?_
          refine lv_iadd hx hb dX11_targetLine_121 ?_
          refine lv_iload_n hx hb dX11_targetLine_122 rfl (lv_at hl 1 rfl) ?_
          obtain ⟨hg_14, hF⟩ := gd_some hF
          refine xs_i (f := (upd t_told (((14 : Int32) + ((3 : Int32) * (t_told 13))) + (0 : Int32)).toNatClampNeg ((16 : Int32) * r_3.2.2.2.2.2.2.2.2.2))) hx hb hK hP hD hS 2 0 rfl rfl rfl (in_v hg_14) dX11_targetLine_123 (fun H locs hP hD hS => ?_)
          have hP : va_P D vwCl (w_X11_targetLine K g_t t_raised t_undos r_9.2.1 t_length r_9.2.2.1 r_9.2.2.2.1 r_9.2.2.2.2.1 r_9.2.2.2.2.2.1 r_9.2.2.2.2.2.2.1 r_9.2.2.2.2.2.2.2.1 r_9.2.2.2.2.2.2.2.2.1 r_9.2.2.2.2.2.2.2.2.2 t_pictured t_x t_text (upd (upd t_told (((14 : Int32) + ((3 : Int32) * (t_told 13))) + (0 : Int32)).toNatClampNeg ((16 : Int32) * r_3.2.2.2.2.2.2.2.2.2)) (((14 : Int32) + ((3 : Int32) * (t_told 13))) + (1 : Int32)).toNatClampNeg (x1 * r_6.2.2.2.2.2.2.2.2.2))) H := hP
          have hD : va_D A (w_X11_targetLine K g_t t_raised t_undos r_9.2.1 t_length r_9.2.2.1 r_9.2.2.2.1 r_9.2.2.2.2.1 r_9.2.2.2.2.2.1 r_9.2.2.2.2.2.2.1 r_9.2.2.2.2.2.2.2.1 r_9.2.2.2.2.2.2.2.2.1 r_9.2.2.2.2.2.2.2.2.2 t_pictured t_x t_text (upd (upd t_told (((14 : Int32) + ((3 : Int32) * (t_told 13))) + (0 : Int32)).toNatClampNeg ((16 : Int32) * r_3.2.2.2.2.2.2.2.2.2)) (((14 : Int32) + ((3 : Int32) * (t_told 13))) + (1 : Int32)).toNatClampNeg (x1 * r_6.2.2.2.2.2.2.2.2.2))) := hD
          refine lv_aload_n hx hb dX11_targetLine_124 rfl (lv_at hl 3 rfl) ?_
          refine va_get (D := D) (ci := 10) (v := .ref (g_t 16)) (C := RX11) (T := TX11) (N := 30) hx hb hts iw_X11_targetLine_X11 hown hK hP 0 rfl rfl 15 (by decide) (hts _ fl_X11_targetLine_24) (fun _ h9 => h9) rfl dX11_targetLine_125 ?_
          refine lv_iload hx hb dX11_targetLine_128 (lv_at hl 0 rfl) ?_
          refine lv_iconst (v := 2) hx hb dX11_targetLine_130 (by decide) ?_
          refine lv_iadd hx hb dX11_targetLine_131 ?_
          refine lv_aload_n hx hb dX11_targetLine_132 rfl (lv_at hl 3 rfl) ?_
          refine va_get (D := D) (ci := 10) (v := .int r_9.2.2.2.2.2.2.2.2.2) (C := RX11) (T := TX11) (N := 30) hx hb hts iw_X11_targetLine_X11 hown hK hP 0 rfl rfl 16 (by decide) (hts _ fl_X11_targetLine_116) (fun _ h9 => h9) rfl dX11_targetLine_133 ?_
          obtain ⟨hg_15, hF⟩ := gd_some hF
          refine xs_i (f := (upd (upd t_told (((14 : Int32) + ((3 : Int32) * (t_told 13))) + (0 : Int32)).toNatClampNeg ((16 : Int32) * r_3.2.2.2.2.2.2.2.2.2)) (((14 : Int32) + ((3 : Int32) * (t_told 13))) + (1 : Int32)).toNatClampNeg (x1 * r_6.2.2.2.2.2.2.2.2.2))) hx hb hK hP hD hS 2 0 rfl rfl rfl (in_v hg_15) dX11_targetLine_136 (fun H locs hP hD hS => ?_)
          have hP : va_P D vwCl (w_X11_targetLine K g_t t_raised t_undos r_9.2.1 t_length r_9.2.2.1 r_9.2.2.2.1 r_9.2.2.2.2.1 r_9.2.2.2.2.2.1 r_9.2.2.2.2.2.2.1 r_9.2.2.2.2.2.2.2.1 r_9.2.2.2.2.2.2.2.2.1 r_9.2.2.2.2.2.2.2.2.2 t_pictured t_x t_text (upd (upd (upd t_told (((14 : Int32) + ((3 : Int32) * (t_told 13))) + (0 : Int32)).toNatClampNeg ((16 : Int32) * r_3.2.2.2.2.2.2.2.2.2)) (((14 : Int32) + ((3 : Int32) * (t_told 13))) + (1 : Int32)).toNatClampNeg (x1 * r_6.2.2.2.2.2.2.2.2.2)) (((14 : Int32) + ((3 : Int32) * (t_told 13))) + (2 : Int32)).toNatClampNeg r_9.2.2.2.2.2.2.2.2.2)) H := hP
          have hD : va_D A (w_X11_targetLine K g_t t_raised t_undos r_9.2.1 t_length r_9.2.2.1 r_9.2.2.2.1 r_9.2.2.2.2.1 r_9.2.2.2.2.2.1 r_9.2.2.2.2.2.2.1 r_9.2.2.2.2.2.2.2.1 r_9.2.2.2.2.2.2.2.2.1 r_9.2.2.2.2.2.2.2.2.2 t_pictured t_x t_text (upd (upd (upd t_told (((14 : Int32) + ((3 : Int32) * (t_told 13))) + (0 : Int32)).toNatClampNeg ((16 : Int32) * r_3.2.2.2.2.2.2.2.2.2)) (((14 : Int32) + ((3 : Int32) * (t_told 13))) + (1 : Int32)).toNatClampNeg (x1 * r_6.2.2.2.2.2.2.2.2.2)) (((14 : Int32) + ((3 : Int32) * (t_told 13))) + (2 : Int32)).toNatClampNeg r_9.2.2.2.2.2.2.2.2.2)) := hD
          refine lv_aload_n hx hb dX11_targetLine_137 rfl (lv_at hl 3 rfl) ?_
          refine va_get (D := D) (ci := 10) (v := .ref (g_t 16)) (C := RX11) (T := TX11) (N := 30) hx hb hts iw_X11_targetLine_X11 hown hK hP 0 rfl rfl 15 (by decide) (hts _ fl_X11_targetLine_24) (fun _ h9 => h9) rfl dX11_targetLine_138 ?_
          refine lv_bipush (v := 13) hx hb dX11_targetLine_141 (by decide) ?_
          refine lv_dup2_11 hx hb dX11_targetLine_143 rfl rfl ?_
          refine xl_i (f := (upd (upd (upd t_told (((14 : Int32) + ((3 : Int32) * (t_told 13))) + (0 : Int32)).toNatClampNeg ((16 : Int32) * r_3.2.2.2.2.2.2.2.2.2)) (((14 : Int32) + ((3 : Int32) * (t_told 13))) + (1 : Int32)).toNatClampNeg (x1 * r_6.2.2.2.2.2.2.2.2.2)) (((14 : Int32) + ((3 : Int32) * (t_told 13))) + (2 : Int32)).toNatClampNeg r_9.2.2.2.2.2.2.2.2.2)) hx hb hK hP 2 0 rfl rfl (k := 13) (by decide) (in_v (by decide)) dX11_targetLine_144 ?_
          refine lv_iconst (v := 1) hx hb dX11_targetLine_145 (by decide) ?_
          refine lv_iadd hx hb dX11_targetLine_146 ?_
          refine xs_i (f := (upd (upd (upd t_told (((14 : Int32) + ((3 : Int32) * (t_told 13))) + (0 : Int32)).toNatClampNeg ((16 : Int32) * r_3.2.2.2.2.2.2.2.2.2)) (((14 : Int32) + ((3 : Int32) * (t_told 13))) + (1 : Int32)).toNatClampNeg (x1 * r_6.2.2.2.2.2.2.2.2.2)) (((14 : Int32) + ((3 : Int32) * (t_told 13))) + (2 : Int32)).toNatClampNeg r_9.2.2.2.2.2.2.2.2.2)) hx hb hK hP hD hS 2 0 rfl rfl (k := 13) (by decide) (in_v (by decide)) dX11_targetLine_147 (fun H locs hP hD hS => ?_)
          have hP : va_P D vwCl (w_X11_targetLine K g_t t_raised t_undos r_9.2.1 t_length r_9.2.2.1 r_9.2.2.2.1 r_9.2.2.2.2.1 r_9.2.2.2.2.2.1 r_9.2.2.2.2.2.2.1 r_9.2.2.2.2.2.2.2.1 r_9.2.2.2.2.2.2.2.2.1 r_9.2.2.2.2.2.2.2.2.2 t_pictured t_x t_text (upd (upd (upd (upd t_told (((14 : Int32) + ((3 : Int32) * (t_told 13))) + (0 : Int32)).toNatClampNeg ((16 : Int32) * r_3.2.2.2.2.2.2.2.2.2)) (((14 : Int32) + ((3 : Int32) * (t_told 13))) + (1 : Int32)).toNatClampNeg (x1 * r_6.2.2.2.2.2.2.2.2.2)) (((14 : Int32) + ((3 : Int32) * (t_told 13))) + (2 : Int32)).toNatClampNeg r_9.2.2.2.2.2.2.2.2.2) 13 (((upd (upd (upd t_told (((14 : Int32) + ((3 : Int32) * (t_told 13))) + (0 : Int32)).toNatClampNeg ((16 : Int32) * r_3.2.2.2.2.2.2.2.2.2)) (((14 : Int32) + ((3 : Int32) * (t_told 13))) + (1 : Int32)).toNatClampNeg (x1 * r_6.2.2.2.2.2.2.2.2.2)) (((14 : Int32) + ((3 : Int32) * (t_told 13))) + (2 : Int32)).toNatClampNeg r_9.2.2.2.2.2.2.2.2.2) 13) + (1 : Int32)))) H := hP
          have hD : va_D A (w_X11_targetLine K g_t t_raised t_undos r_9.2.1 t_length r_9.2.2.1 r_9.2.2.2.1 r_9.2.2.2.2.1 r_9.2.2.2.2.2.1 r_9.2.2.2.2.2.2.1 r_9.2.2.2.2.2.2.2.1 r_9.2.2.2.2.2.2.2.2.1 r_9.2.2.2.2.2.2.2.2.2 t_pictured t_x t_text (upd (upd (upd (upd t_told (((14 : Int32) + ((3 : Int32) * (t_told 13))) + (0 : Int32)).toNatClampNeg ((16 : Int32) * r_3.2.2.2.2.2.2.2.2.2)) (((14 : Int32) + ((3 : Int32) * (t_told 13))) + (1 : Int32)).toNatClampNeg (x1 * r_6.2.2.2.2.2.2.2.2.2)) (((14 : Int32) + ((3 : Int32) * (t_told 13))) + (2 : Int32)).toNatClampNeg r_9.2.2.2.2.2.2.2.2.2) 13 (((upd (upd (upd t_told (((14 : Int32) + ((3 : Int32) * (t_told 13))) + (0 : Int32)).toNatClampNeg ((16 : Int32) * r_3.2.2.2.2.2.2.2.2.2)) (((14 : Int32) + ((3 : Int32) * (t_told 13))) + (1 : Int32)).toNatClampNeg (x1 * r_6.2.2.2.2.2.2.2.2.2)) (((14 : Int32) + ((3 : Int32) * (t_told 13))) + (2 : Int32)).toNatClampNeg r_9.2.2.2.2.2.2.2.2.2) 13) + (1 : Int32)))) := hD
          refine lv_iconst (v := 1) hx hb dX11_targetLine_148 (by decide) ?_
          obtain rfl := Option.some.inj hF
          exact HR 149 H locs ls dX11_targetLine_149 narrow_b1 hP hD hS
      · have hF := it_pos c_11 hF
        refine lv_iconst (v := 0) hx hb dX11_targetLine_73 (by decide) ?_
        obtain rfl := Option.some.inj hF
        exact HR 74 H locs ls dX11_targetLine_74 narrow_b0 hP hD hS
    · have hF := it_pos c_8 hF
      refine lv_iconst (v := 0) hx hb dX11_targetLine_54 (by decide) ?_
      obtain rfl := Option.some.inj hF
      exact HR 55 H locs ls dX11_targetLine_55 narrow_b0 hP hD hS
  · have hF := it_pos c_5 hF
    refine lv_iconst (v := 0) hx hb dX11_targetLine_36 (by decide) ?_
    obtain rfl := Option.some.inj hF
    exact HR 37 H locs ls dX11_targetLine_37 narrow_b0 hP hD hS
def F_X11_targetLine (t_reached : Int32) (t_length : Int32) (t_begin : Int32) (t_sort : Int32) (t_value : Int32) (t_word : Int64) (t_wrongAt : Int32) (t_badAt : Int32) (t_bad : Int32) (t_read : Int32) (t_text : Nat → Int32) (t_told : Nat → Int32) (x1 : Int32) : Option (Int32 × Int32 × Int32 × Int32 × Int32 × Int64 × Int32 × Int32 × Int32 × Int32 × (Nat → Int32)) :=
  if (t_told 13) = (8 : Int32) then ((F_X11_isBad t_badAt t_bad (4 : Int32) t_begin).bind fun r_2 => (J_X11_targetLine_21 t_length t_text t_reached t_begin t_sort t_value t_word t_wrongAt r_2.1 r_2.2 t_read t_told x1)) else (J_X11_targetLine_21 t_length t_text t_reached t_begin t_sort t_value t_word t_wrongAt t_badAt t_bad t_read t_told x1)
set_option maxHeartbeats 4000000 in
set_option maxRecDepth 100000 in
theorem c_X11_targetLine (l : Launch) (D : va_G) (K : Nat → ClassId) (g_t : Nat → Nat) (t_raised : Int32) (t_undos : Int32) (t_reached : Int32) (t_length : Int32) (t_begin : Int32) (t_sort : Int32) (t_value : Int32) (t_word : Int64) (t_wrongAt : Int32) (t_badAt : Int32) (t_bad : Int32) (t_read : Int32) (t_pictured : Int32) (t_x : Int32) (t_text : Nat → Int32) (t_told : Nat → Int32) (x1 : Int32) (res : Int32 × Int32 × Int32 × Int32 × Int32 × Int64 × Int32 × Int32 × Int32 × Int32 × (Nat → Int32)) (hF : F_X11_targetLine t_reached t_length t_begin t_sort t_value t_word t_wrongAt t_badAt t_bad t_read t_text t_told x1 = some res) :
    Mi_ l yX11_targetLine wsX11_targetLine rmX11_targetLine D K [.ref (g_t 0), .int x1] (w_X11_targetLine K g_t t_raised t_undos t_reached t_length t_begin t_sort t_value t_word t_wrongAt t_badAt t_bad t_read t_pictured t_x t_text t_told) (w_X11_targetLine K g_t t_raised t_undos res.2.1 t_length res.2.2.1 res.2.2.2.1 res.2.2.2.2.1 res.2.2.2.2.2.1 res.2.2.2.2.2.2.1 res.2.2.2.2.2.2.2.1 res.2.2.2.2.2.2.2.2.1 res.2.2.2.2.2.2.2.2.2.1 t_pictured t_x t_text res.2.2.2.2.2.2.2.2.2.2) (res.1) := by
  refine en_z (cc := cX11_targetLine) (maxL := 5) (own := RX11) (by decide) rfl rfl (Nat.le_of_ble_eq_true rfl) ?_
  intro p e s m args below meth c A Q H locs ls C0 hP hD hS hl HR
  obtain ⟨⟨hx, hb, hml, hown, hts⟩, hK, -⟩ := id C0
  have hl : lv_has ls 5 [(0, .ref (g_t 0)), (1, .int x1)] := hl
  unfold F_X11_targetLine at hF
  refine lv_aload_n hx hb dX11_targetLine_0 rfl (lv_at hl 0 rfl) ?_
  refine va_get (D := D) (ci := 10) (v := .ref (g_t 16)) (C := RX11) (T := TX11) (N := 30) hx hb hts iw_X11_targetLine_X11 hown hK hP 0 rfl rfl 15 (by decide) (hts _ fl_X11_targetLine_24) (fun _ h9 => h9) rfl dX11_targetLine_1 ?_
  refine lv_bipush (v := 13) hx hb dX11_targetLine_4 (by decide) ?_
  refine xl_i (f := t_told) hx hb hK hP 2 0 rfl rfl (k := 13) (by decide) (in_v (by decide)) dX11_targetLine_6 ?_
  refine lv_bipush (v := 8) hx hb dX11_targetLine_7 (by decide) ?_
  refine lv_icmp_ne (tgt := 21) hx hb dX11_targetLine_9 (by decide) (fun c_1 => ?_) (fun c_1 => ?_)
  · have hF := it_neg c_1 hF
    exact w_X11_targetLine_21 C0 HR t_reached t_begin t_sort t_value t_word t_wrongAt t_badAt t_bad t_read t_told x1 H locs ls hP hD hS (lv_sub hl [0, 1] rfl) hF
  · have hF := it_pos c_1 hF
    refine lv_aload_n hx hb dX11_targetLine_12 rfl (lv_at hl 0 rfl) ?_
    refine lv_iconst (v := 4) hx hb dX11_targetLine_13 (by decide) ?_
    refine lv_aload_n hx hb dX11_targetLine_14 rfl (lv_at hl 0 rfl) ?_
    refine va_get (D := D) (ci := 10) (v := .int t_begin) (C := RX11) (T := TX11) (N := 30) hx hb hts iw_X11_targetLine_X11 hown hK hP 0 rfl rfl 8 (by decide) (hts _ fl_X11_targetLine_90) (fun _ h9 => h9) rfl dX11_targetLine_15 ?_
    obtain ⟨r_2, hc_3, hF⟩ := bn_some hF
    refine xc_v (wn := (w_X11_targetLine K g_t t_raised t_undos t_reached t_length t_begin t_sort t_value t_word t_wrongAt r_2.1 r_2.2 t_read t_pictured t_x t_text t_told)) hP hD hS C0.2.2.1 [0] [1, 2] [2, 0, 1] rfl rfl (by decide) (by decide) rfl (by decide) (va_runV (As := [.int (4 : Int32), .int t_begin]) (rest := []) C0.1 (c_X11_isBad l D K g_t t_raised t_undos t_reached t_length t_begin t_sort t_value t_word t_wrongAt t_badAt t_bad t_read t_pictured t_x (4 : Int32) t_begin r_2 hc_3 H.size) (cwV 2 hts gX11_targetLine_X11_isBad rfl rfl rfl (by decide +kernel) ⟨Nat.le_of_ble_eq_true rfl, Nat.le_of_ble_eq_true rfl⟩) (xp_V C0.2 hP hD hS [0] rfl (by decide) 10 0 rfl rfl rfl) rfl rfl hl.1 rfl (lv_room (Nat.le_of_ble_eq_true rfl)) dX11_targetLine_18 ⟨Nat.le_of_ble_eq_true rfl, Nat.le_of_ble_eq_true rfl⟩) (fun H locs hP hD hS => ?_)
    exact w_X11_targetLine_21 C0 HR t_reached t_begin t_sort t_value t_word t_wrongAt r_2.1 r_2.2 t_read t_told x1 H locs ls hP hD hS (lv_sub hl [0, 1] rfl) hF
