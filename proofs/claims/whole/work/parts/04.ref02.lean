/-! StaggerRadarModel.nextChosen(II)Z -/
abbrev rmX11_nextChosen : Room := { frames := 0, cells := 0, slots := 0, locals := 0 }
theorem fl_X11_nextChosen_54 : Cond.fieldLink RX11 54 "StaggerRadarModel" "chosen" "[I" ∈ wsX11_nextChosen := by decide +kernel
theorem iw_X11_nextChosen_X11 : ∀ w ∈ u_ws RX11 TX11 30, w ∈ wsX11_nextChosen := by decide +kernel
abbrev w_X11_nextChosen (K : Nat → ClassId) (g_t : Nat → Nat) (t_raised : Int32) (t_undos : Int32) (t_reached : Int32) (t_length : Int32) (t_begin : Int32) (t_sort : Int32) (t_value : Int32) (t_word : Int64) (t_wrongAt : Int32) (t_badAt : Int32) (t_bad : Int32) (t_read : Int32) (t_pictured : Int32) (t_x : Int32) (t_chosen : Nat → Int32) : va_W := [((g_t 0), .inr (10, [.int t_raised, .ref (g_t 2), .ref (g_t 3), .ref (g_t 4), .ref (g_t 5), .int t_undos, .int t_reached, .int t_length, .int t_begin, .int t_sort, .int t_value, .long t_word, .int t_wrongAt, .int t_badAt, .int t_bad, .ref (g_t 16), .int t_read, .ref (g_t 18), .ref (g_t 19), .ref (g_t 20), .int t_pictured, .ref (g_t 22), .ref (g_t 23), .ref (g_t 24), .ref (g_t 25), .ref (g_t 26), .int t_x, .ref (g_t 28), .ref (g_t 29), .ref (g_t 30)])), ((g_t 29), .inl (K 0, 4, .inl t_chosen))]
def L_X11_nextChosen_51  : Nat → (Nat → Int32) → Int32 → Int32 → Option (Int32 × (Nat → Int32))
  | 0, _, _, _ => none
  | n_ + 1, t_chosen, x1, x4 =>
    if x1 ≤ x4 then (some ((1 : Int32), t_chosen)) else (gd_ (in_b (x4 - (1 : Int32)) 4) (gd_ (in_b x4 4) (L_X11_nextChosen_51 n_ (upd t_chosen (x4).toNatClampNeg ((t_chosen (x4 - (1 : Int32)).toNatClampNeg) + (1 : Int32))) x1 (x4 + (1 : Int32)))))
set_option maxHeartbeats 4000000 in
set_option maxRecDepth 100000 in
theorem w_X11_nextChosen_51 {p : Program} {l : Launch} {e : Env} {s : State} {m : MethodId} {args : Array Value} {below : List Frame} {meth : Method} {c : Code} {D : va_G} {K : Nat → ClassId} {A : Nat → Prop} {Q : State → Prop} (C0 : cx_ p s m args c cX11_nextChosen 5 RX11 wsX11_nextChosen D K A) {g_t : Nat → Nat} {t_raised : Int32} {t_undos : Int32} {t_reached : Int32} {t_length : Int32} {t_begin : Int32} {t_sort : Int32} {t_value : Int32} {t_word : Int64} {t_wrongAt : Int32} {t_badAt : Int32} {t_bad : Int32} {t_read : Int32} {t_pictured : Int32} {t_x : Int32} {res : Int32 × (Nat → Int32)} (HR : ∀ (pc : Nat) (H : Heap) (locs : List Loc) (ls : Array Slot), decode cX11_nextChosen pc = .ok (.ireturn, 1) → narrow .boolean (.int res.1) = .int res.1 → va_P D vwCl (w_X11_nextChosen K g_t t_raised t_undos t_reached t_length t_begin t_sort t_value t_word t_wrongAt t_badAt t_bad t_read t_pictured t_x res.2) H → va_D A (w_X11_nextChosen K g_t t_raised t_undos t_reached t_length t_begin t_sort t_value t_word t_wrongAt t_badAt t_bad t_read t_pictured t_x res.2) → va_S A s.heap H locs → W p l e rmX11_nextChosen s m args below meth c H locs 0 0 Q (F0 m pc ls [.int res.1]))  :
    ∀ (n_ : Nat) (t_chosen : Nat → Int32) (x1 : Int32) (x4 : Int32) (H : Heap) (locs : List Loc) (ls : Array Slot), va_P D vwCl (w_X11_nextChosen K g_t t_raised t_undos t_reached t_length t_begin t_sort t_value t_word t_wrongAt t_badAt t_bad t_read t_pictured t_x t_chosen) H → va_D A (w_X11_nextChosen K g_t t_raised t_undos t_reached t_length t_begin t_sort t_value t_word t_wrongAt t_badAt t_bad t_read t_pictured t_x t_chosen) → va_S A s.heap H locs → lv_has ls 5 [(0, .ref (g_t 0)), (1, .int x1), (4, .int x4)] → L_X11_nextChosen_51 n_ t_chosen x1 x4 = some res → W p l e rmX11_nextChosen s m args below meth c H locs 0 0 Q (F0 m 51 ls []) := by
  obtain ⟨⟨hx, hb, hml, hown, hts⟩, hK, -⟩ := id C0
  intro n_
  induction n_ with
  | zero =>
    intro t_chosen x1 x4 H locs ls hP hD hS hl hF
    exact no_s (show (none : Option (Int32 × (Nat → Int32))) = some res from hF)
  | succ n_ ih =>
    intro t_chosen x1 x4 H locs ls hP hD hS hl hF
    rw [L_X11_nextChosen_51] at hF
    refine lv_iload hx hb dX11_nextChosen_51 (lv_at hl 2 rfl) ?_
    refine lv_iload_n hx hb dX11_nextChosen_53 rfl (lv_at hl 1 rfl) ?_
    refine lv_icmp_ge (tgt := 81) hx hb dX11_nextChosen_54 (by decide) (fun c_1 => ?_) (fun c_1 => ?_)
    · have hF := it_pos c_1 hF
      refine lv_iconst (v := 1) hx hb dX11_nextChosen_81 (by decide) ?_
      obtain rfl := Option.some.inj hF
      exact HR 82 H locs ls dX11_nextChosen_82 narrow_b1 hP hD hS
    · have hF := it_neg c_1 hF
      refine lv_aload_n hx hb dX11_nextChosen_57 rfl (lv_at hl 0 rfl) ?_
      refine va_get (D := D) (ci := 10) (v := .ref (g_t 29)) (C := RX11) (T := TX11) (N := 30) hx hb hts iw_X11_nextChosen_X11 hown hK hP 0 rfl rfl 28 (by decide) (hts _ fl_X11_nextChosen_54) (fun _ h9 => h9) rfl dX11_nextChosen_58 ?_
      refine lv_iload hx hb dX11_nextChosen_61 (lv_at hl 2 rfl) ?_
      refine lv_aload_n hx hb dX11_nextChosen_63 rfl (lv_at hl 0 rfl) ?_
      refine va_get (D := D) (ci := 10) (v := .ref (g_t 29)) (C := RX11) (T := TX11) (N := 30) hx hb hts iw_X11_nextChosen_X11 hown hK hP 0 rfl rfl 28 (by decide) (hts _ fl_X11_nextChosen_54) (fun _ h9 => h9) rfl dX11_nextChosen_64 ?_
      refine lv_iload hx hb dX11_nextChosen_67 (lv_at hl 2 rfl) ?_
      refine lv_iconst (v := 1) hx hb dX11_nextChosen_69 (by decide) ?_
      refine lv_isub hx hb dX11_nextChosen_70 ?_
      obtain ⟨hg_2, hF⟩ := gd_some hF
      refine xl_i (f := t_chosen) hx hb hK hP 1 0 rfl rfl rfl (in_v hg_2) dX11_nextChosen_71 ?_
      refine lv_iconst (v := 1) hx hb dX11_nextChosen_72 (by decide) ?_
      refine lv_iadd hx hb dX11_nextChosen_73 ?_
      obtain ⟨hg_3, hF⟩ := gd_some hF
      refine xs_i (f := t_chosen) hx hb hK hP hD hS 1 0 rfl rfl rfl (in_v hg_3) dX11_nextChosen_74 (fun H locs hP hD hS => ?_)
      have hP : va_P D vwCl (w_X11_nextChosen K g_t t_raised t_undos t_reached t_length t_begin t_sort t_value t_word t_wrongAt t_badAt t_bad t_read t_pictured t_x (upd t_chosen (x4).toNatClampNeg ((t_chosen (x4 - (1 : Int32)).toNatClampNeg) + (1 : Int32)))) H := hP
      have hD : va_D A (w_X11_nextChosen K g_t t_raised t_undos t_reached t_length t_begin t_sort t_value t_word t_wrongAt t_badAt t_bad t_read t_pictured t_x (upd t_chosen (x4).toNatClampNeg ((t_chosen (x4 - (1 : Int32)).toNatClampNeg) + (1 : Int32)))) := hD
      refine lv_iinc (v := (x4 + (1 : Int32))) (lv' := [(4, .int (x4 + (1 : Int32))), (0, .ref (g_t 0)), (1, .int x1)]) hx hb dX11_nextChosen_75 hl (k := 2) rfl (congrArg (fun z => x4 + z) (by decide)) (by decide) rfl (fun ls hl => ?_)
      refine lv_goto (tgt := 51) hx hb dX11_nextChosen_78 (by decide) ?_
      exact ih (upd t_chosen (x4).toNatClampNeg ((t_chosen (x4 - (1 : Int32)).toNatClampNeg) + (1 : Int32))) x1 (x4 + (1 : Int32)) H locs ls hP hD hS (lv_sub hl [1, 2, 0] rfl) hF
def J_X11_nextChosen_30 (t_chosen : Nat → Int32) (x1 : Int32) (x3 : Int32) : Option (Int32 × (Nat → Int32)) :=
  if (0 : Int32) ≤ x3 then (gd_ (in_b x3 4) (gd_ (in_b x3 4) (L_X11_nextChosen_51 fu_ (upd t_chosen (x3).toNatClampNeg ((t_chosen (x3).toNatClampNeg) + (1 : Int32))) x1 (x3 + (1 : Int32))))) else (some ((0 : Int32), t_chosen))
set_option maxHeartbeats 4000000 in
set_option maxRecDepth 100000 in
theorem w_X11_nextChosen_30 {p : Program} {l : Launch} {e : Env} {s : State} {m : MethodId} {args : Array Value} {below : List Frame} {meth : Method} {c : Code} {D : va_G} {K : Nat → ClassId} {A : Nat → Prop} {Q : State → Prop} (C0 : cx_ p s m args c cX11_nextChosen 5 RX11 wsX11_nextChosen D K A) {g_t : Nat → Nat} {t_raised : Int32} {t_undos : Int32} {t_reached : Int32} {t_length : Int32} {t_begin : Int32} {t_sort : Int32} {t_value : Int32} {t_word : Int64} {t_wrongAt : Int32} {t_badAt : Int32} {t_bad : Int32} {t_read : Int32} {t_pictured : Int32} {t_x : Int32} {res : Int32 × (Nat → Int32)} (HR : ∀ (pc : Nat) (H : Heap) (locs : List Loc) (ls : Array Slot), decode cX11_nextChosen pc = .ok (.ireturn, 1) → narrow .boolean (.int res.1) = .int res.1 → va_P D vwCl (w_X11_nextChosen K g_t t_raised t_undos t_reached t_length t_begin t_sort t_value t_word t_wrongAt t_badAt t_bad t_read t_pictured t_x res.2) H → va_D A (w_X11_nextChosen K g_t t_raised t_undos t_reached t_length t_begin t_sort t_value t_word t_wrongAt t_badAt t_bad t_read t_pictured t_x res.2) → va_S A s.heap H locs → W p l e rmX11_nextChosen s m args below meth c H locs 0 0 Q (F0 m pc ls [.int res.1]))  :
    ∀ (t_chosen : Nat → Int32) (x1 : Int32) (x3 : Int32) (H : Heap) (locs : List Loc) (ls : Array Slot), va_P D vwCl (w_X11_nextChosen K g_t t_raised t_undos t_reached t_length t_begin t_sort t_value t_word t_wrongAt t_badAt t_bad t_read t_pictured t_x t_chosen) H → va_D A (w_X11_nextChosen K g_t t_raised t_undos t_reached t_length t_begin t_sort t_value t_word t_wrongAt t_badAt t_bad t_read t_pictured t_x t_chosen) → va_S A s.heap H locs → lv_has ls 5 [(0, .ref (g_t 0)), (1, .int x1), (3, .int x3)] → J_X11_nextChosen_30 t_chosen x1 x3 = some res → W p l e rmX11_nextChosen s m args below meth c H locs 0 0 Q (F0 m 30 ls []) := by
  obtain ⟨⟨hx, hb, hml, hown, hts⟩, hK, -⟩ := id C0
  intro t_chosen x1 x3 H locs ls hP hD hS hl hF
  unfold J_X11_nextChosen_30 at hF
  refine lv_iload_n hx hb dX11_nextChosen_30 rfl (lv_at hl 2 rfl) ?_
  refine lv_if_ge (tgt := 36) hx hb dX11_nextChosen_31 (by decide) (fun c_1 => ?_) (fun c_1 => ?_)
  · have hF := it_pos c_1 hF
    refine lv_aload_n hx hb dX11_nextChosen_36 rfl (lv_at hl 0 rfl) ?_
    refine va_get (D := D) (ci := 10) (v := .ref (g_t 29)) (C := RX11) (T := TX11) (N := 30) hx hb hts iw_X11_nextChosen_X11 hown hK hP 0 rfl rfl 28 (by decide) (hts _ fl_X11_nextChosen_54) (fun _ h9 => h9) rfl dX11_nextChosen_37 ?_
    refine lv_iload_n hx hb dX11_nextChosen_40 rfl (lv_at hl 2 rfl) ?_
    refine lv_dup2_11 hx hb dX11_nextChosen_41 rfl rfl ?_
    obtain ⟨hg_2, hF⟩ := gd_some hF
    refine xl_i (f := t_chosen) hx hb hK hP 1 0 rfl rfl rfl (in_v hg_2) dX11_nextChosen_42 ?_
    refine lv_iconst (v := 1) hx hb dX11_nextChosen_43 (by decide) ?_
    refine lv_iadd hx hb dX11_nextChosen_44 ?_
    obtain ⟨hg_3, hF⟩ := gd_some hF
    refine xs_i (f := t_chosen) hx hb hK hP hD hS 1 0 rfl rfl rfl (in_v hg_3) dX11_nextChosen_45 (fun H locs hP hD hS => ?_)
    have hP : va_P D vwCl (w_X11_nextChosen K g_t t_raised t_undos t_reached t_length t_begin t_sort t_value t_word t_wrongAt t_badAt t_bad t_read t_pictured t_x (upd t_chosen (x3).toNatClampNeg ((t_chosen (x3).toNatClampNeg) + (1 : Int32)))) H := hP
    have hD : va_D A (w_X11_nextChosen K g_t t_raised t_undos t_reached t_length t_begin t_sort t_value t_word t_wrongAt t_badAt t_bad t_read t_pictured t_x (upd t_chosen (x3).toNatClampNeg ((t_chosen (x3).toNatClampNeg) + (1 : Int32)))) := hD
    refine lv_iload_n hx hb dX11_nextChosen_46 rfl (lv_at hl 2 rfl) ?_
    refine lv_iconst (v := 1) hx hb dX11_nextChosen_47 (by decide) ?_
    refine lv_iadd hx hb dX11_nextChosen_48 ?_
    refine lv_istore (lv' := [(4, .int (x3 + (1 : Int32))), (0, .ref (g_t 0)), (1, .int x1), (3, .int x3)]) hx hb dX11_nextChosen_49 hl (by decide) rfl (fun ls hl => ?_)
    exact w_X11_nextChosen_51 C0 HR fu_ (upd t_chosen (x3).toNatClampNeg ((t_chosen (x3).toNatClampNeg) + (1 : Int32))) x1 (x3 + (1 : Int32)) H locs ls hP hD hS (lv_sub hl [1, 2, 0] rfl) hF
  · have hF := it_neg c_1 hF
    refine lv_iconst (v := 0) hx hb dX11_nextChosen_34 (by decide) ?_
    obtain rfl := Option.some.inj hF
    exact HR 35 H locs ls dX11_nextChosen_35 narrow_b0 hP hD hS
def L_X11_nextChosen_4  : Nat → (Nat → Int32) → Int32 → Int32 → Int32 → Option (Int32 × (Nat → Int32))
  | 0, _, _, _, _ => none
  | n_ + 1, t_chosen, x1, x2, x3 =>
    if x3 < (0 : Int32) then (J_X11_nextChosen_30 t_chosen x1 x3) else (gd_ (in_b x3 4) (if (t_chosen (x3).toNatClampNeg) = (x2 - ((x1 - (1 : Int32)) - x3)) then (L_X11_nextChosen_4 n_ t_chosen x1 x2 (x3 + (-1 : Int32))) else (J_X11_nextChosen_30 t_chosen x1 x3)))
set_option maxHeartbeats 4000000 in
set_option maxRecDepth 100000 in
theorem w_X11_nextChosen_4 {p : Program} {l : Launch} {e : Env} {s : State} {m : MethodId} {args : Array Value} {below : List Frame} {meth : Method} {c : Code} {D : va_G} {K : Nat → ClassId} {A : Nat → Prop} {Q : State → Prop} (C0 : cx_ p s m args c cX11_nextChosen 5 RX11 wsX11_nextChosen D K A) {g_t : Nat → Nat} {t_raised : Int32} {t_undos : Int32} {t_reached : Int32} {t_length : Int32} {t_begin : Int32} {t_sort : Int32} {t_value : Int32} {t_word : Int64} {t_wrongAt : Int32} {t_badAt : Int32} {t_bad : Int32} {t_read : Int32} {t_pictured : Int32} {t_x : Int32} {res : Int32 × (Nat → Int32)} (HR : ∀ (pc : Nat) (H : Heap) (locs : List Loc) (ls : Array Slot), decode cX11_nextChosen pc = .ok (.ireturn, 1) → narrow .boolean (.int res.1) = .int res.1 → va_P D vwCl (w_X11_nextChosen K g_t t_raised t_undos t_reached t_length t_begin t_sort t_value t_word t_wrongAt t_badAt t_bad t_read t_pictured t_x res.2) H → va_D A (w_X11_nextChosen K g_t t_raised t_undos t_reached t_length t_begin t_sort t_value t_word t_wrongAt t_badAt t_bad t_read t_pictured t_x res.2) → va_S A s.heap H locs → W p l e rmX11_nextChosen s m args below meth c H locs 0 0 Q (F0 m pc ls [.int res.1]))  :
    ∀ (n_ : Nat) (t_chosen : Nat → Int32) (x1 : Int32) (x2 : Int32) (x3 : Int32) (H : Heap) (locs : List Loc) (ls : Array Slot), va_P D vwCl (w_X11_nextChosen K g_t t_raised t_undos t_reached t_length t_begin t_sort t_value t_word t_wrongAt t_badAt t_bad t_read t_pictured t_x t_chosen) H → va_D A (w_X11_nextChosen K g_t t_raised t_undos t_reached t_length t_begin t_sort t_value t_word t_wrongAt t_badAt t_bad t_read t_pictured t_x t_chosen) → va_S A s.heap H locs → lv_has ls 5 [(0, .ref (g_t 0)), (1, .int x1), (2, .int x2), (3, .int x3)] → L_X11_nextChosen_4 n_ t_chosen x1 x2 x3 = some res → W p l e rmX11_nextChosen s m args below meth c H locs 0 0 Q (F0 m 4 ls []) := by
  obtain ⟨⟨hx, hb, hml, hown, hts⟩, hK, -⟩ := id C0
  intro n_
  induction n_ with
  | zero =>
    intro t_chosen x1 x2 x3 H locs ls hP hD hS hl hF
    exact no_s (show (none : Option (Int32 × (Nat → Int32))) = some res from hF)
  | succ n_ ih =>
    intro t_chosen x1 x2 x3 H locs ls hP hD hS hl hF
    rw [L_X11_nextChosen_4] at hF
    refine lv_iload_n hx hb dX11_nextChosen_4 rfl (lv_at hl 3 rfl) ?_
    refine lv_if_lt (tgt := 30) hx hb dX11_nextChosen_5 (by decide) (fun c_1 => ?_) (fun c_1 => ?_)
    · have hF := it_pos c_1 hF
      exact w_X11_nextChosen_30 C0 HR t_chosen x1 x3 H locs ls hP hD hS (lv_sub hl [0, 1, 3] rfl) hF
    · have hF := it_neg c_1 hF
      refine lv_aload_n hx hb dX11_nextChosen_8 rfl (lv_at hl 0 rfl) ?_
      refine va_get (D := D) (ci := 10) (v := .ref (g_t 29)) (C := RX11) (T := TX11) (N := 30) hx hb hts iw_X11_nextChosen_X11 hown hK hP 0 rfl rfl 28 (by decide) (hts _ fl_X11_nextChosen_54) (fun _ h9 => h9) rfl dX11_nextChosen_9 ?_
      refine lv_iload_n hx hb dX11_nextChosen_12 rfl (lv_at hl 3 rfl) ?_
      obtain ⟨hg_2, hF⟩ := gd_some hF
      refine xl_i (f := t_chosen) hx hb hK hP 1 0 rfl rfl rfl (in_v hg_2) dX11_nextChosen_13 ?_
      refine lv_iload_n hx hb dX11_nextChosen_14 rfl (lv_at hl 2 rfl) ?_
      refine lv_iload_n hx hb dX11_nextChosen_15 rfl (lv_at hl 1 rfl) ?_
      refine lv_iconst (v := 1) hx hb dX11_nextChosen_16 (by decide) ?_
      refine lv_isub hx hb dX11_nextChosen_17 ?_
      refine lv_iload_n hx hb dX11_nextChosen_18 rfl (lv_at hl 3 rfl) ?_
      refine lv_isub hx hb dX11_nextChosen_19 ?_
      refine lv_isub hx hb dX11_nextChosen_20 ?_
      refine lv_icmp_ne (tgt := 30) hx hb dX11_nextChosen_21 (by decide) (fun c_3 => ?_) (fun c_3 => ?_)
      · have hF := it_neg c_3 hF
        exact w_X11_nextChosen_30 C0 HR t_chosen x1 x3 H locs ls hP hD hS (lv_sub hl [0, 1, 3] rfl) hF
      · have hF := it_pos c_3 hF
        refine lv_iinc (v := (x3 + (-1 : Int32))) (lv' := [(3, .int (x3 + (-1 : Int32))), (0, .ref (g_t 0)), (1, .int x1), (2, .int x2)]) hx hb dX11_nextChosen_24 hl (k := 3) rfl (congrArg (fun z => x3 + z) (by decide)) (by decide) rfl (fun ls hl => ?_)
        refine lv_goto (tgt := 4) hx hb dX11_nextChosen_27 (by decide) ?_
        exact ih t_chosen x1 x2 (x3 + (-1 : Int32)) H locs ls hP hD hS (lv_sub hl [1, 2, 3, 0] rfl) hF
def F_X11_nextChosen (t_chosen : Nat → Int32) (x1 : Int32) (x2 : Int32) : Option (Int32 × (Nat → Int32)) :=
  L_X11_nextChosen_4 fu_ t_chosen x1 x2 (x1 - (1 : Int32))
set_option maxHeartbeats 4000000 in
set_option maxRecDepth 100000 in
theorem c_X11_nextChosen (l : Launch) (D : va_G) (K : Nat → ClassId) (g_t : Nat → Nat) (t_raised : Int32) (t_undos : Int32) (t_reached : Int32) (t_length : Int32) (t_begin : Int32) (t_sort : Int32) (t_value : Int32) (t_word : Int64) (t_wrongAt : Int32) (t_badAt : Int32) (t_bad : Int32) (t_read : Int32) (t_pictured : Int32) (t_x : Int32) (t_chosen : Nat → Int32) (x1 : Int32) (x2 : Int32) (res : Int32 × (Nat → Int32)) (hF : F_X11_nextChosen t_chosen x1 x2 = some res) :
    Mi_ l yX11_nextChosen wsX11_nextChosen rmX11_nextChosen D K [.ref (g_t 0), .int x1, .int x2] (w_X11_nextChosen K g_t t_raised t_undos t_reached t_length t_begin t_sort t_value t_word t_wrongAt t_badAt t_bad t_read t_pictured t_x t_chosen) (w_X11_nextChosen K g_t t_raised t_undos t_reached t_length t_begin t_sort t_value t_word t_wrongAt t_badAt t_bad t_read t_pictured t_x res.2) (res.1) := by
  refine en_z (cc := cX11_nextChosen) (maxL := 5) (own := RX11) (by decide) rfl rfl (Nat.le_of_ble_eq_true rfl) ?_
  intro p e s m args below meth c A Q H locs ls C0 hP hD hS hl HR
  obtain ⟨⟨hx, hb, hml, hown, hts⟩, hK, -⟩ := id C0
  have hl : lv_has ls 5 [(0, .ref (g_t 0)), (1, .int x1), (2, .int x2)] := hl
  unfold F_X11_nextChosen at hF
  refine lv_iload_n hx hb dX11_nextChosen_0 rfl (lv_at hl 1 rfl) ?_
  refine lv_iconst (v := 1) hx hb dX11_nextChosen_1 (by decide) ?_
  refine lv_isub hx hb dX11_nextChosen_2 ?_
  refine lv_istore_n (lv' := [(3, .int (x1 - (1 : Int32))), (0, .ref (g_t 0)), (1, .int x1), (2, .int x2)]) hx hb dX11_nextChosen_3 rfl hl (by decide) rfl (fun ls hl => ?_)
  exact w_X11_nextChosen_4 C0 HR fu_ t_chosen x1 x2 (x1 - (1 : Int32)) H locs ls hP hD hS (lv_sub hl [1, 2, 3, 0] rfl) hF

/-! StaggerRadarModel.choose(IIII)I -/
abbrev rmX11_choose : Room := { frames := 3, cells := 0, slots := 0, locals := 73 }
theorem fl_X11_choose_54 : Cond.fieldLink RX11 54 "StaggerRadarModel" "chosen" "[I" ∈ wsX11_choose := by decide +kernel
theorem fl_X11_choose_57 : Cond.fieldLink RX11 57 "StaggerRadarModel" "best" "[I" ∈ wsX11_choose := by decide +kernel
theorem fl_X11_choose_66 : Cond.fieldLink RX11 66 "StaggerRadarModel" "raised" "I" ∈ wsX11_choose := by decide +kernel
theorem iw_X11_choose_X11 : ∀ w ∈ u_ws RX11 TX11 30, w ∈ wsX11_choose := by decide +kernel
abbrev w_X11_choose (K : Nat → ClassId) (g_t : Nat → Nat) (t_raised : Int32) (t_undos : Int32) (t_reached : Int32) (t_length : Int32) (t_begin : Int32) (t_sort : Int32) (t_value : Int32) (t_word : Int64) (t_wrongAt : Int32) (t_badAt : Int32) (t_bad : Int32) (t_read : Int32) (t_pictured : Int32) (t_x : Int32) (t_all : Nat → Int32) (t_chosen : Nat → Int32) (t_best : Nat → Int32) : va_W := [((g_t 0), .inr (10, [.int t_raised, .ref (g_t 2), .ref (g_t 3), .ref (g_t 4), .ref (g_t 5), .int t_undos, .int t_reached, .int t_length, .int t_begin, .int t_sort, .int t_value, .long t_word, .int t_wrongAt, .int t_badAt, .int t_bad, .ref (g_t 16), .int t_read, .ref (g_t 18), .ref (g_t 19), .ref (g_t 20), .int t_pictured, .ref (g_t 22), .ref (g_t 23), .ref (g_t 24), .ref (g_t 25), .ref (g_t 26), .int t_x, .ref (g_t 28), .ref (g_t 29), .ref (g_t 30)])), ((g_t 2), .inl (K 0, 500, .inl t_all)), ((g_t 29), .inl (K 0, 4, .inl t_chosen)), ((g_t 30), .inl (K 0, 4, .inl t_best))]
def J_X11_choose_208 (t_all : Nat → Int32) (k_116 : Int32 → (Nat → Int32) → (Nat → Int32) → Int32 → Int32 → Int32 → Int32 → Int32 → Int32 → Option (Int32 × Int32 × (Nat → Int32) × (Nat → Int32))) (t_raised : Int32) (t_chosen : Nat → Int32) (t_best : Nat → Int32) (x1 : Int32) (x3 : Int32) (x4 : Int32) (x5 : Int32) (x6 : Int32) : Option (Int32 × Int32 × (Nat → Int32) × (Nat → Int32)) :=
  (F_X11_nextChosen t_chosen x1 x3).bind fun r_1 => (k_116 t_raised r_1.2 t_best x1 x3 x4 x5 x6 r_1.1)
set_option maxHeartbeats 4000000 in
set_option maxRecDepth 100000 in
theorem w_X11_choose_208 {p : Program} {l : Launch} {e : Env} {s : State} {m : MethodId} {args : Array Value} {below : List Frame} {meth : Method} {c : Code} {D : va_G} {K : Nat → ClassId} {A : Nat → Prop} {Q : State → Prop} (C0 : cx_ p s m args c cX11_choose 10 RX11 wsX11_choose D K A) {g_t : Nat → Nat} {t_undos : Int32} {t_reached : Int32} {t_length : Int32} {t_begin : Int32} {t_sort : Int32} {t_value : Int32} {t_word : Int64} {t_wrongAt : Int32} {t_badAt : Int32} {t_bad : Int32} {t_read : Int32} {t_pictured : Int32} {t_x : Int32} {t_all : Nat → Int32} {res : Int32 × Int32 × (Nat → Int32) × (Nat → Int32)} (HR : ∀ (pc : Nat) (H : Heap) (locs : List Loc) (ls : Array Slot), decode cX11_choose pc = .ok (.ireturn, 1) → va_P D vwCl (w_X11_choose K g_t res.2.1 t_undos t_reached t_length t_begin t_sort t_value t_word t_wrongAt t_badAt t_bad t_read t_pictured t_x t_all res.2.2.1 res.2.2.2) H → va_D A (w_X11_choose K g_t res.2.1 t_undos t_reached t_length t_begin t_sort t_value t_word t_wrongAt t_badAt t_bad t_read t_pictured t_x t_all res.2.2.1 res.2.2.2) → va_S A s.heap H locs → W p l e rmX11_choose s m args below meth c H locs 0 0 Q (F0 m pc ls [.int res.1])) {k_116 : Int32 → (Nat → Int32) → (Nat → Int32) → Int32 → Int32 → Int32 → Int32 → Int32 → Int32 → Option (Int32 × Int32 × (Nat → Int32) × (Nat → Int32))} (HK_116 : ∀ (t_raised : Int32) (t_chosen : Nat → Int32) (t_best : Nat → Int32) (x1 : Int32) (x3 : Int32) (x4 : Int32) (x5 : Int32) (x6 : Int32) (x7 : Int32) (H : Heap) (locs : List Loc) (ls : Array Slot), va_P D vwCl (w_X11_choose K g_t t_raised t_undos t_reached t_length t_begin t_sort t_value t_word t_wrongAt t_badAt t_bad t_read t_pictured t_x t_all t_chosen t_best) H → va_D A (w_X11_choose K g_t t_raised t_undos t_reached t_length t_begin t_sort t_value t_word t_wrongAt t_badAt t_bad t_read t_pictured t_x t_all t_chosen t_best) → va_S A s.heap H locs → lv_has ls 10 [(0, .ref (g_t 0)), (1, .int x1), (3, .int x3), (4, .int x4), (5, .int x5), (6, .int x6), (7, .int x7)] → k_116 t_raised t_chosen t_best x1 x3 x4 x5 x6 x7 = some res → W p l e rmX11_choose s m args below meth c H locs 0 0 Q (F0 m 116 ls [])) :
    ∀ (t_raised : Int32) (t_chosen : Nat → Int32) (t_best : Nat → Int32) (x1 : Int32) (x3 : Int32) (x4 : Int32) (x5 : Int32) (x6 : Int32) (H : Heap) (locs : List Loc) (ls : Array Slot), va_P D vwCl (w_X11_choose K g_t t_raised t_undos t_reached t_length t_begin t_sort t_value t_word t_wrongAt t_badAt t_bad t_read t_pictured t_x t_all t_chosen t_best) H → va_D A (w_X11_choose K g_t t_raised t_undos t_reached t_length t_begin t_sort t_value t_word t_wrongAt t_badAt t_bad t_read t_pictured t_x t_all t_chosen t_best) → va_S A s.heap H locs → lv_has ls 10 [(0, .ref (g_t 0)), (1, .int x1), (3, .int x3), (4, .int x4), (5, .int x5), (6, .int x6)] → J_X11_choose_208 t_all k_116 t_raised t_chosen t_best x1 x3 x4 x5 x6 = some res → W p l e rmX11_choose s m args below meth c H locs 0 0 Q (F0 m 208 ls []) := by
  obtain ⟨⟨hx, hb, hml, hown, hts⟩, hK, -⟩ := id C0
  intro t_raised t_chosen t_best x1 x3 x4 x5 x6 H locs ls hP hD hS hl hF
  unfold J_X11_choose_208 at hF
  refine lv_aload_n hx hb dX11_choose_208 rfl (lv_at hl 0 rfl) ?_
  refine lv_iload_n hx hb dX11_choose_209 rfl (lv_at hl 1 rfl) ?_
  refine lv_iload_n hx hb dX11_choose_210 rfl (lv_at hl 2 rfl) ?_
  obtain ⟨r_1, hc_2, hF⟩ := bn_some hF
  refine xc_i (wn := (w_X11_choose K g_t t_raised t_undos t_reached t_length t_begin t_sort t_value t_word t_wrongAt t_badAt t_bad t_read t_pictured t_x t_all r_1.2 t_best)) hP hD hS C0.2.2.1 [0, 2] [1, 3] [2, 0, 3, 1] rfl rfl (by decide) (by decide) rfl (by decide) (va_runV (As := [.int x1, .int x3]) (rest := []) C0.1 (c_X11_nextChosen l D K g_t t_raised t_undos t_reached t_length t_begin t_sort t_value t_word t_wrongAt t_badAt t_bad t_read t_pictured t_x t_chosen x1 x3 r_1 hc_2 H.size) (cwV 2 hts gX11_choose_X11_nextChosen rfl rfl rfl (by decide +kernel) ⟨Nat.le_of_ble_eq_true rfl, Nat.le_of_ble_eq_true rfl⟩) (xp_V C0.2 hP hD hS [0, 2] rfl (by decide) 10 0 rfl rfl rfl) rfl rfl hl.1 rfl (lv_room (Nat.le_of_ble_eq_true rfl)) dX11_choose_211 ⟨Nat.le_of_ble_eq_true rfl, Nat.le_of_ble_eq_true rfl⟩) (fun H locs hP hD hS => ?_)
  refine lv_istore (lv' := [(7, .int r_1.1), (0, .ref (g_t 0)), (1, .int x1), (3, .int x3), (4, .int x4), (5, .int x5), (6, .int x6)]) hx hb dX11_choose_214 hl (by decide) rfl (fun ls hl => ?_)
  refine lv_goto (tgt := 116) hx hb dX11_choose_216 (by decide) ?_
  exact HK_116 t_raised r_1.2 t_best x1 x3 x4 x5 x6 r_1.1 H locs ls hP hD hS (lv_sub hl [1, 2, 3, 4, 5, 6, 0] rfl) hF
def J_X11_choose_219 (t_all : Nat → Int32) (t_raised : Int32) (t_chosen : Nat → Int32) (t_best : Nat → Int32) (x4 : Int32) (x5 : Int32) (x6 : Int32) : Option (Int32 × Int32 × (Nat → Int32) × (Nat → Int32)) :=
  if x4 = (0 : Int32) then (some (x5, t_raised, t_chosen, t_best)) else (if x5 = (0 : Int32) then (some ((-1 : Int32), t_raised, t_chosen, t_best)) else (if x4 = (1 : Int32) then (some (x6, t_raised, t_chosen, t_best)) else (gd_ (in_b (x4 - (10 : Int32)) 4) (some ((t_best (x4 - (10 : Int32)).toNatClampNeg), t_raised, t_chosen, t_best)))))
set_option maxHeartbeats 4000000 in
set_option maxRecDepth 100000 in
theorem w_X11_choose_219 {p : Program} {l : Launch} {e : Env} {s : State} {m : MethodId} {args : Array Value} {below : List Frame} {meth : Method} {c : Code} {D : va_G} {K : Nat → ClassId} {A : Nat → Prop} {Q : State → Prop} (C0 : cx_ p s m args c cX11_choose 10 RX11 wsX11_choose D K A) {g_t : Nat → Nat} {t_undos : Int32} {t_reached : Int32} {t_length : Int32} {t_begin : Int32} {t_sort : Int32} {t_value : Int32} {t_word : Int64} {t_wrongAt : Int32} {t_badAt : Int32} {t_bad : Int32} {t_read : Int32} {t_pictured : Int32} {t_x : Int32} {t_all : Nat → Int32} {res : Int32 × Int32 × (Nat → Int32) × (Nat → Int32)} (HR : ∀ (pc : Nat) (H : Heap) (locs : List Loc) (ls : Array Slot), decode cX11_choose pc = .ok (.ireturn, 1) → va_P D vwCl (w_X11_choose K g_t res.2.1 t_undos t_reached t_length t_begin t_sort t_value t_word t_wrongAt t_badAt t_bad t_read t_pictured t_x t_all res.2.2.1 res.2.2.2) H → va_D A (w_X11_choose K g_t res.2.1 t_undos t_reached t_length t_begin t_sort t_value t_word t_wrongAt t_badAt t_bad t_read t_pictured t_x t_all res.2.2.1 res.2.2.2) → va_S A s.heap H locs → W p l e rmX11_choose s m args below meth c H locs 0 0 Q (F0 m pc ls [.int res.1]))  :
    ∀ (t_raised : Int32) (t_chosen : Nat → Int32) (t_best : Nat → Int32) (x4 : Int32) (x5 : Int32) (x6 : Int32) (H : Heap) (locs : List Loc) (ls : Array Slot), va_P D vwCl (w_X11_choose K g_t t_raised t_undos t_reached t_length t_begin t_sort t_value t_word t_wrongAt t_badAt t_bad t_read t_pictured t_x t_all t_chosen t_best) H → va_D A (w_X11_choose K g_t t_raised t_undos t_reached t_length t_begin t_sort t_value t_word t_wrongAt t_badAt t_bad t_read t_pictured t_x t_all t_chosen t_best) → va_S A s.heap H locs → lv_has ls 10 [(0, .ref (g_t 0)), (4, .int x4), (5, .int x5), (6, .int x6)] → J_X11_choose_219 t_all t_raised t_chosen t_best x4 x5 x6 = some res → W p l e rmX11_choose s m args below meth c H locs 0 0 Q (F0 m 219 ls []) := by
  obtain ⟨⟨hx, hb, hml, hown, hts⟩, hK, -⟩ := id C0
  intro t_raised t_chosen t_best x4 x5 x6 H locs ls hP hD hS hl hF
  unfold J_X11_choose_219 at hF
  refine lv_iload hx hb dX11_choose_219 (lv_at hl 1 rfl) ?_
  refine lv_if_ne (tgt := 229) hx hb dX11_choose_221 (by decide) (fun c_1 => ?_) (fun c_1 => ?_)
  · have hF := it_neg c_1 hF
    refine lv_iload hx hb dX11_choose_229 (lv_at hl 2 rfl) ?_
    refine lv_if_ne (tgt := 238) hx hb dX11_choose_231 (by decide) (fun c_2 => ?_) (fun c_2 => ?_)
    · have hF := it_neg c_2 hF
      refine lv_iload hx hb dX11_choose_238 (lv_at hl 1 rfl) ?_
      refine lv_iconst (v := 1) hx hb dX11_choose_240 (by decide) ?_
      refine lv_icmp_ne (tgt := 249) hx hb dX11_choose_241 (by decide) (fun c_3 => ?_) (fun c_3 => ?_)
      · have hF := it_neg c_3 hF
        refine lv_aload_n hx hb dX11_choose_249 rfl (lv_at hl 0 rfl) ?_
        refine va_get (D := D) (ci := 10) (v := .ref (g_t 30)) (C := RX11) (T := TX11) (N := 30) hx hb hts iw_X11_choose_X11 hown hK hP 0 rfl rfl 29 (by decide) (hts _ fl_X11_choose_57) (fun _ h9 => h9) rfl dX11_choose_250 ?_
        refine lv_iload hx hb dX11_choose_253 (lv_at hl 1 rfl) ?_
        refine lv_bipush (v := 10) hx hb dX11_choose_255 (by decide) ?_
        refine lv_isub hx hb dX11_choose_257 ?_
        obtain ⟨hg_4, hF⟩ := gd_some hF
        refine xl_i (f := t_best) hx hb hK hP 3 0 rfl rfl rfl (in_v hg_4) dX11_choose_258 ?_
        obtain rfl := Option.some.inj hF
        exact HR 259 H locs ls dX11_choose_259 hP hD hS
      · have hF := it_pos c_3 hF
        refine lv_iload hx hb dX11_choose_244 (lv_at hl 3 rfl) ?_
        refine lv_goto (tgt := 259) hx hb dX11_choose_246 (by decide) ?_
        obtain rfl := Option.some.inj hF
        exact HR 259 H locs ls dX11_choose_259 hP hD hS
    · have hF := it_pos c_2 hF
      refine lv_iconst (v := (-1)) hx hb dX11_choose_234 (by decide) ?_
      refine lv_goto (tgt := 259) hx hb dX11_choose_235 (by decide) ?_
      obtain rfl := Option.some.inj hF
      exact HR 259 H locs ls dX11_choose_259 hP hD hS
  · have hF := it_pos c_1 hF
    refine lv_iload hx hb dX11_choose_224 (lv_at hl 2 rfl) ?_
    refine lv_goto (tgt := 259) hx hb dX11_choose_226 (by decide) ?_
    obtain rfl := Option.some.inj hF
    exact HR 259 H locs ls dX11_choose_259 hP hD hS
def L_X11_choose_182 (t_all : Nat → Int32) (k_116 : Int32 → (Nat → Int32) → (Nat → Int32) → Int32 → Int32 → Int32 → Int32 → Int32 → Int32 → Option (Int32 × Int32 × (Nat → Int32) × (Nat → Int32))) : Nat → Int32 → (Nat → Int32) → (Nat → Int32) → Int32 → Int32 → Int32 → Int32 → Int32 → Int32 → Option (Int32 × Int32 × (Nat → Int32) × (Nat → Int32))
  | 0, _, _, _, _, _, _, _, _, _ => none
  | n_ + 1, t_raised, t_chosen, t_best, x1, x3, x4, x5, x6, x9 =>
    if x1 ≤ x9 then (J_X11_choose_208 t_all k_116 t_raised t_chosen t_best x1 x3 x4 x5 x6) else (gd_ (in_b x9 4) (gd_ (in_b x9 4) (L_X11_choose_182 t_all k_116 n_ t_raised t_chosen (upd t_best (x9).toNatClampNeg (t_chosen (x9).toNatClampNeg)) x1 x3 x4 x5 x6 (x9 + (1 : Int32)))))
set_option maxHeartbeats 4000000 in
set_option maxRecDepth 100000 in
theorem w_X11_choose_182 {p : Program} {l : Launch} {e : Env} {s : State} {m : MethodId} {args : Array Value} {below : List Frame} {meth : Method} {c : Code} {D : va_G} {K : Nat → ClassId} {A : Nat → Prop} {Q : State → Prop} (C0 : cx_ p s m args c cX11_choose 10 RX11 wsX11_choose D K A) {g_t : Nat → Nat} {t_undos : Int32} {t_reached : Int32} {t_length : Int32} {t_begin : Int32} {t_sort : Int32} {t_value : Int32} {t_word : Int64} {t_wrongAt : Int32} {t_badAt : Int32} {t_bad : Int32} {t_read : Int32} {t_pictured : Int32} {t_x : Int32} {t_all : Nat → Int32} {res : Int32 × Int32 × (Nat → Int32) × (Nat → Int32)} (HR : ∀ (pc : Nat) (H : Heap) (locs : List Loc) (ls : Array Slot), decode cX11_choose pc = .ok (.ireturn, 1) → va_P D vwCl (w_X11_choose K g_t res.2.1 t_undos t_reached t_length t_begin t_sort t_value t_word t_wrongAt t_badAt t_bad t_read t_pictured t_x t_all res.2.2.1 res.2.2.2) H → va_D A (w_X11_choose K g_t res.2.1 t_undos t_reached t_length t_begin t_sort t_value t_word t_wrongAt t_badAt t_bad t_read t_pictured t_x t_all res.2.2.1 res.2.2.2) → va_S A s.heap H locs → W p l e rmX11_choose s m args below meth c H locs 0 0 Q (F0 m pc ls [.int res.1])) {k_116 : Int32 → (Nat → Int32) → (Nat → Int32) → Int32 → Int32 → Int32 → Int32 → Int32 → Int32 → Option (Int32 × Int32 × (Nat → Int32) × (Nat → Int32))} (HK_116 : ∀ (t_raised : Int32) (t_chosen : Nat → Int32) (t_best : Nat → Int32) (x1 : Int32) (x3 : Int32) (x4 : Int32) (x5 : Int32) (x6 : Int32) (x7 : Int32) (H : Heap) (locs : List Loc) (ls : Array Slot), va_P D vwCl (w_X11_choose K g_t t_raised t_undos t_reached t_length t_begin t_sort t_value t_word t_wrongAt t_badAt t_bad t_read t_pictured t_x t_all t_chosen t_best) H → va_D A (w_X11_choose K g_t t_raised t_undos t_reached t_length t_begin t_sort t_value t_word t_wrongAt t_badAt t_bad t_read t_pictured t_x t_all t_chosen t_best) → va_S A s.heap H locs → lv_has ls 10 [(0, .ref (g_t 0)), (1, .int x1), (3, .int x3), (4, .int x4), (5, .int x5), (6, .int x6), (7, .int x7)] → k_116 t_raised t_chosen t_best x1 x3 x4 x5 x6 x7 = some res → W p l e rmX11_choose s m args below meth c H locs 0 0 Q (F0 m 116 ls [])) :
    ∀ (n_ : Nat) (t_raised : Int32) (t_chosen : Nat → Int32) (t_best : Nat → Int32) (x1 : Int32) (x3 : Int32) (x4 : Int32) (x5 : Int32) (x6 : Int32) (x9 : Int32) (H : Heap) (locs : List Loc) (ls : Array Slot), va_P D vwCl (w_X11_choose K g_t t_raised t_undos t_reached t_length t_begin t_sort t_value t_word t_wrongAt t_badAt t_bad t_read t_pictured t_x t_all t_chosen t_best) H → va_D A (w_X11_choose K g_t t_raised t_undos t_reached t_length t_begin t_sort t_value t_word t_wrongAt t_badAt t_bad t_read t_pictured t_x t_all t_chosen t_best) → va_S A s.heap H locs → lv_has ls 10 [(0, .ref (g_t 0)), (1, .int x1), (3, .int x3), (4, .int x4), (5, .int x5), (6, .int x6), (9, .int x9)] → L_X11_choose_182 t_all k_116 n_ t_raised t_chosen t_best x1 x3 x4 x5 x6 x9 = some res → W p l e rmX11_choose s m args below meth c H locs 0 0 Q (F0 m 182 ls []) := by
  obtain ⟨⟨hx, hb, hml, hown, hts⟩, hK, -⟩ := id C0
  intro n_
  induction n_ with
  | zero =>
    intro t_raised t_chosen t_best x1 x3 x4 x5 x6 x9 H locs ls hP hD hS hl hF
    exact no_s (show (none : Option (Int32 × Int32 × (Nat → Int32) × (Nat → Int32))) = some res from hF)
  | succ n_ ih =>
    intro t_raised t_chosen t_best x1 x3 x4 x5 x6 x9 H locs ls hP hD hS hl hF
    rw [L_X11_choose_182] at hF
    refine lv_iload hx hb dX11_choose_182 (lv_at hl 6 rfl) ?_
    refine lv_iload_n hx hb dX11_choose_184 rfl (lv_at hl 1 rfl) ?_
    refine lv_icmp_ge (tgt := 208) hx hb dX11_choose_185 (by decide) (fun c_1 => ?_) (fun c_1 => ?_)
    · have hF := it_pos c_1 hF
      exact w_X11_choose_208 C0 HR HK_116 t_raised t_chosen t_best x1 x3 x4 x5 x6 H locs ls hP hD hS (lv_sub hl [0, 1, 2, 3, 4, 5] rfl) hF
    · have hF := it_neg c_1 hF
      refine lv_aload_n hx hb dX11_choose_188 rfl (lv_at hl 0 rfl) ?_
      refine va_get (D := D) (ci := 10) (v := .ref (g_t 30)) (C := RX11) (T := TX11) (N := 30) hx hb hts iw_X11_choose_X11 hown hK hP 0 rfl rfl 29 (by decide) (hts _ fl_X11_choose_57) (fun _ h9 => h9) rfl dX11_choose_189 ?_
      refine lv_iload hx hb dX11_choose_192 (lv_at hl 6 rfl) ?_
      refine lv_aload_n hx hb dX11_choose_194 rfl (lv_at hl 0 rfl) ?_
      refine va_get (D := D) (ci := 10) (v := .ref (g_t 29)) (C := RX11) (T := TX11) (N := 30) hx hb hts iw_X11_choose_X11 hown hK hP 0 rfl rfl 28 (by decide) (hts _ fl_X11_choose_54) (fun _ h9 => h9) rfl dX11_choose_195 ?_
      refine lv_iload hx hb dX11_choose_198 (lv_at hl 6 rfl) ?_
      obtain ⟨hg_2, hF⟩ := gd_some hF
      refine xl_i (f := t_chosen) hx hb hK hP 2 0 rfl rfl rfl (in_v hg_2) dX11_choose_200 ?_
      obtain ⟨hg_3, hF⟩ := gd_some hF
      refine xs_i (f := t_best) hx hb hK hP hD hS 3 0 rfl rfl rfl (in_v hg_3) dX11_choose_201 (fun H locs hP hD hS => ?_)
      have hP : va_P D vwCl (w_X11_choose K g_t t_raised t_undos t_reached t_length t_begin t_sort t_value t_word t_wrongAt t_badAt t_bad t_read t_pictured t_x t_all t_chosen (upd t_best (x9).toNatClampNeg (t_chosen (x9).toNatClampNeg))) H := hP
      have hD : va_D A (w_X11_choose K g_t t_raised t_undos t_reached t_length t_begin t_sort t_value t_word t_wrongAt t_badAt t_bad t_read t_pictured t_x t_all t_chosen (upd t_best (x9).toNatClampNeg (t_chosen (x9).toNatClampNeg))) := hD
      refine lv_iinc (v := (x9 + (1 : Int32))) (lv' := [(9, .int (x9 + (1 : Int32))), (0, .ref (g_t 0)), (1, .int x1), (3, .int x3), (4, .int x4), (5, .int x5), (6, .int x6)]) hx hb dX11_choose_202 hl (k := 6) rfl (congrArg (fun z => x9 + z) (by decide)) (by decide) rfl (fun ls hl => ?_)
      refine lv_goto (tgt := 182) hx hb dX11_choose_205 (by decide) ?_
      exact ih t_raised t_chosen (upd t_best (x9).toNatClampNeg (t_chosen (x9).toNatClampNeg)) x1 x3 x4 x5 x6 (x9 + (1 : Int32)) H locs ls hP hD hS (lv_sub hl [1, 2, 3, 4, 5, 6, 0] rfl) hF
def J_X11_choose_159 (t_all : Nat → Int32) (k_116 : Int32 → (Nat → Int32) → (Nat → Int32) → Int32 → Int32 → Int32 → Int32 → Int32 → Int32 → Option (Int32 × Int32 × (Nat → Int32) × (Nat → Int32))) (t_raised : Int32) (t_chosen : Nat → Int32) (t_best : Nat → Int32) (x1 : Int32) (x3 : Int32) (x4 : Int32) (x5 : Int32) (x6 : Int32) (x8 : Int32) : Option (Int32 × Int32 × (Nat → Int32) × (Nat → Int32)) :=
  if x6 = (-1 : Int32) then (L_X11_choose_182 t_all k_116 fu_ t_raised t_chosen t_best x1 x3 x4 (x5 + (1 : Int32)) x8 (0 : Int32)) else (if x6 ≤ x8 then (J_X11_choose_208 t_all k_116 t_raised t_chosen t_best x1 x3 x4 (x5 + (1 : Int32)) x6) else (L_X11_choose_182 t_all k_116 fu_ t_raised t_chosen t_best x1 x3 x4 (x5 + (1 : Int32)) x8 (0 : Int32)))
set_option maxHeartbeats 4000000 in
set_option maxRecDepth 100000 in
theorem w_X11_choose_159 {p : Program} {l : Launch} {e : Env} {s : State} {m : MethodId} {args : Array Value} {below : List Frame} {meth : Method} {c : Code} {D : va_G} {K : Nat → ClassId} {A : Nat → Prop} {Q : State → Prop} (C0 : cx_ p s m args c cX11_choose 10 RX11 wsX11_choose D K A) {g_t : Nat → Nat} {t_undos : Int32} {t_reached : Int32} {t_length : Int32} {t_begin : Int32} {t_sort : Int32} {t_value : Int32} {t_word : Int64} {t_wrongAt : Int32} {t_badAt : Int32} {t_bad : Int32} {t_read : Int32} {t_pictured : Int32} {t_x : Int32} {t_all : Nat → Int32} {res : Int32 × Int32 × (Nat → Int32) × (Nat → Int32)} (HR : ∀ (pc : Nat) (H : Heap) (locs : List Loc) (ls : Array Slot), decode cX11_choose pc = .ok (.ireturn, 1) → va_P D vwCl (w_X11_choose K g_t res.2.1 t_undos t_reached t_length t_begin t_sort t_value t_word t_wrongAt t_badAt t_bad t_read t_pictured t_x t_all res.2.2.1 res.2.2.2) H → va_D A (w_X11_choose K g_t res.2.1 t_undos t_reached t_length t_begin t_sort t_value t_word t_wrongAt t_badAt t_bad t_read t_pictured t_x t_all res.2.2.1 res.2.2.2) → va_S A s.heap H locs → W p l e rmX11_choose s m args below meth c H locs 0 0 Q (F0 m pc ls [.int res.1])) {k_116 : Int32 → (Nat → Int32) → (Nat → Int32) → Int32 → Int32 → Int32 → Int32 → Int32 → Int32 → Option (Int32 × Int32 × (Nat → Int32) × (Nat → Int32))} (HK_116 : ∀ (t_raised : Int32) (t_chosen : Nat → Int32) (t_best : Nat → Int32) (x1 : Int32) (x3 : Int32) (x4 : Int32) (x5 : Int32) (x6 : Int32) (x7 : Int32) (H : Heap) (locs : List Loc) (ls : Array Slot), va_P D vwCl (w_X11_choose K g_t t_raised t_undos t_reached t_length t_begin t_sort t_value t_word t_wrongAt t_badAt t_bad t_read t_pictured t_x t_all t_chosen t_best) H → va_D A (w_X11_choose K g_t t_raised t_undos t_reached t_length t_begin t_sort t_value t_word t_wrongAt t_badAt t_bad t_read t_pictured t_x t_all t_chosen t_best) → va_S A s.heap H locs → lv_has ls 10 [(0, .ref (g_t 0)), (1, .int x1), (3, .int x3), (4, .int x4), (5, .int x5), (6, .int x6), (7, .int x7)] → k_116 t_raised t_chosen t_best x1 x3 x4 x5 x6 x7 = some res → W p l e rmX11_choose s m args below meth c H locs 0 0 Q (F0 m 116 ls [])) :
    ∀ (t_raised : Int32) (t_chosen : Nat → Int32) (t_best : Nat → Int32) (x1 : Int32) (x3 : Int32) (x4 : Int32) (x5 : Int32) (x6 : Int32) (x8 : Int32) (H : Heap) (locs : List Loc) (ls : Array Slot), va_P D vwCl (w_X11_choose K g_t t_raised t_undos t_reached t_length t_begin t_sort t_value t_word t_wrongAt t_badAt t_bad t_read t_pictured t_x t_all t_chosen t_best) H → va_D A (w_X11_choose K g_t t_raised t_undos t_reached t_length t_begin t_sort t_value t_word t_wrongAt t_badAt t_bad t_read t_pictured t_x t_all t_chosen t_best) → va_S A s.heap H locs → lv_has ls 10 [(0, .ref (g_t 0)), (1, .int x1), (3, .int x3), (4, .int x4), (5, .int x5), (6, .int x6), (8, .int x8)] → J_X11_choose_159 t_all k_116 t_raised t_chosen t_best x1 x3 x4 x5 x6 x8 = some res → W p l e rmX11_choose s m args below meth c H locs 0 0 Q (F0 m 159 ls []) := by
  obtain ⟨⟨hx, hb, hml, hown, hts⟩, hK, -⟩ := id C0
  intro t_raised t_chosen t_best x1 x3 x4 x5 x6 x8 H locs ls hP hD hS hl hF
  unfold J_X11_choose_159 at hF
  refine lv_iinc (v := (x5 + (1 : Int32))) (lv' := [(5, .int (x5 + (1 : Int32))), (0, .ref (g_t 0)), (1, .int x1), (3, .int x3), (4, .int x4), (6, .int x6), (8, .int x8)]) hx hb dX11_choose_159 hl (k := 4) rfl (congrArg (fun z => x5 + z) (by decide)) (by decide) rfl (fun ls hl => ?_)
  refine lv_iload hx hb dX11_choose_162 (lv_at hl 5 rfl) ?_
  refine lv_iconst (v := (-1)) hx hb dX11_choose_164 (by decide) ?_
  refine lv_icmp_eq (tgt := 175) hx hb dX11_choose_165 (by decide) (fun c_1 => ?_) (fun c_1 => ?_)
  · have hF := it_pos c_1 hF
    refine lv_iload hx hb dX11_choose_175 (lv_at hl 6 rfl) ?_
    refine lv_istore (lv' := [(6, .int x8), (5, .int (x5 + (1 : Int32))), (0, .ref (g_t 0)), (1, .int x1), (3, .int x3), (4, .int x4), (8, .int x8)]) hx hb dX11_choose_177 hl (by decide) rfl (fun ls hl => ?_)
    refine lv_iconst (v := 0) hx hb dX11_choose_179 (by decide) ?_
    refine lv_istore (lv' := [(9, .int (0 : Int32)), (6, .int x8), (5, .int (x5 + (1 : Int32))), (0, .ref (g_t 0)), (1, .int x1), (3, .int x3), (4, .int x4), (8, .int x8)]) hx hb dX11_choose_180 hl (by decide) rfl (fun ls hl => ?_)
    exact w_X11_choose_182 C0 HR HK_116 fu_ t_raised t_chosen t_best x1 x3 x4 (x5 + (1 : Int32)) x8 (0 : Int32) H locs ls hP hD hS (lv_sub hl [3, 4, 5, 6, 2, 1, 0] rfl) hF
  · have hF := it_neg c_1 hF
    refine lv_iload hx hb dX11_choose_168 (lv_at hl 6 rfl) ?_
    refine lv_iload hx hb dX11_choose_170 (lv_at hl 5 rfl) ?_
    refine lv_icmp_ge (tgt := 208) hx hb dX11_choose_172 (by decide) (fun c_2 => ?_) (fun c_2 => ?_)
    · have hF := it_pos c_2 hF
      exact w_X11_choose_208 C0 HR HK_116 t_raised t_chosen t_best x1 x3 x4 (x5 + (1 : Int32)) x6 H locs ls hP hD hS (lv_sub hl [1, 2, 3, 4, 0, 5] rfl) hF
    · have hF := it_neg c_2 hF
      refine lv_iload hx hb dX11_choose_175 (lv_at hl 6 rfl) ?_
      refine lv_istore (lv' := [(6, .int x8), (5, .int (x5 + (1 : Int32))), (0, .ref (g_t 0)), (1, .int x1), (3, .int x3), (4, .int x4), (8, .int x8)]) hx hb dX11_choose_177 hl (by decide) rfl (fun ls hl => ?_)
      refine lv_iconst (v := 0) hx hb dX11_choose_179 (by decide) ?_
      refine lv_istore (lv' := [(9, .int (0 : Int32)), (6, .int x8), (5, .int (x5 + (1 : Int32))), (0, .ref (g_t 0)), (1, .int x1), (3, .int x3), (4, .int x4), (8, .int x8)]) hx hb dX11_choose_180 hl (by decide) rfl (fun ls hl => ?_)
      exact w_X11_choose_182 C0 HR HK_116 fu_ t_raised t_chosen t_best x1 x3 x4 (x5 + (1 : Int32)) x8 (0 : Int32) H locs ls hP hD hS (lv_sub hl [3, 4, 5, 6, 2, 1, 0] rfl) hF
def L_X11_choose_135 (t_all : Nat → Int32) (k_116 : Int32 → (Nat → Int32) → (Nat → Int32) → Int32 → Int32 → Int32 → Int32 → Int32 → Int32 → Option (Int32 × Int32 × (Nat → Int32) × (Nat → Int32))) : Nat → Int32 → (Nat → Int32) → (Nat → Int32) → Int32 → Int32 → Int32 → Int32 → Int32 → Int32 → Int32 → Option (Int32 × Int32 × (Nat → Int32) × (Nat → Int32))
  | 0, _, _, _, _, _, _, _, _, _, _ => none
  | n_ + 1, t_raised, t_chosen, t_best, x1, x3, x4, x5, x6, x8, x9 =>
    if x1 ≤ x9 then (J_X11_choose_159 t_all k_116 t_raised t_chosen t_best x1 x3 x4 x5 x6 x8) else (gd_ (in_b x9 4) (L_X11_choose_135 t_all k_116 n_ t_raised t_chosen t_best x1 x3 x4 x5 x6 (x8 + (t_chosen (x9).toNatClampNeg)) (x9 + (1 : Int32))))
set_option maxHeartbeats 4000000 in
set_option maxRecDepth 100000 in
theorem w_X11_choose_135 {p : Program} {l : Launch} {e : Env} {s : State} {m : MethodId} {args : Array Value} {below : List Frame} {meth : Method} {c : Code} {D : va_G} {K : Nat → ClassId} {A : Nat → Prop} {Q : State → Prop} (C0 : cx_ p s m args c cX11_choose 10 RX11 wsX11_choose D K A) {g_t : Nat → Nat} {t_undos : Int32} {t_reached : Int32} {t_length : Int32} {t_begin : Int32} {t_sort : Int32} {t_value : Int32} {t_word : Int64} {t_wrongAt : Int32} {t_badAt : Int32} {t_bad : Int32} {t_read : Int32} {t_pictured : Int32} {t_x : Int32} {t_all : Nat → Int32} {res : Int32 × Int32 × (Nat → Int32) × (Nat → Int32)} (HR : ∀ (pc : Nat) (H : Heap) (locs : List Loc) (ls : Array Slot), decode cX11_choose pc = .ok (.ireturn, 1) → va_P D vwCl (w_X11_choose K g_t res.2.1 t_undos t_reached t_length t_begin t_sort t_value t_word t_wrongAt t_badAt t_bad t_read t_pictured t_x t_all res.2.2.1 res.2.2.2) H → va_D A (w_X11_choose K g_t res.2.1 t_undos t_reached t_length t_begin t_sort t_value t_word t_wrongAt t_badAt t_bad t_read t_pictured t_x t_all res.2.2.1 res.2.2.2) → va_S A s.heap H locs → W p l e rmX11_choose s m args below meth c H locs 0 0 Q (F0 m pc ls [.int res.1])) {k_116 : Int32 → (Nat → Int32) → (Nat → Int32) → Int32 → Int32 → Int32 → Int32 → Int32 → Int32 → Option (Int32 × Int32 × (Nat → Int32) × (Nat → Int32))} (HK_116 : ∀ (t_raised : Int32) (t_chosen : Nat → Int32) (t_best : Nat → Int32) (x1 : Int32) (x3 : Int32) (x4 : Int32) (x5 : Int32) (x6 : Int32) (x7 : Int32) (H : Heap) (locs : List Loc) (ls : Array Slot), va_P D vwCl (w_X11_choose K g_t t_raised t_undos t_reached t_length t_begin t_sort t_value t_word t_wrongAt t_badAt t_bad t_read t_pictured t_x t_all t_chosen t_best) H → va_D A (w_X11_choose K g_t t_raised t_undos t_reached t_length t_begin t_sort t_value t_word t_wrongAt t_badAt t_bad t_read t_pictured t_x t_all t_chosen t_best) → va_S A s.heap H locs → lv_has ls 10 [(0, .ref (g_t 0)), (1, .int x1), (3, .int x3), (4, .int x4), (5, .int x5), (6, .int x6), (7, .int x7)] → k_116 t_raised t_chosen t_best x1 x3 x4 x5 x6 x7 = some res → W p l e rmX11_choose s m args below meth c H locs 0 0 Q (F0 m 116 ls [])) :
    ∀ (n_ : Nat) (t_raised : Int32) (t_chosen : Nat → Int32) (t_best : Nat → Int32) (x1 : Int32) (x3 : Int32) (x4 : Int32) (x5 : Int32) (x6 : Int32) (x8 : Int32) (x9 : Int32) (H : Heap) (locs : List Loc) (ls : Array Slot), va_P D vwCl (w_X11_choose K g_t t_raised t_undos t_reached t_length t_begin t_sort t_value t_word t_wrongAt t_badAt t_bad t_read t_pictured t_x t_all t_chosen t_best) H → va_D A (w_X11_choose K g_t t_raised t_undos t_reached t_length t_begin t_sort t_value t_word t_wrongAt t_badAt t_bad t_read t_pictured t_x t_all t_chosen t_best) → va_S A s.heap H locs → lv_has ls 10 [(0, .ref (g_t 0)), (1, .int x1), (3, .int x3), (4, .int x4), (5, .int x5), (6, .int x6), (8, .int x8), (9, .int x9)] → L_X11_choose_135 t_all k_116 n_ t_raised t_chosen t_best x1 x3 x4 x5 x6 x8 x9 = some res → W p l e rmX11_choose s m args below meth c H locs 0 0 Q (F0 m 135 ls []) := by
  obtain ⟨⟨hx, hb, hml, hown, hts⟩, hK, -⟩ := id C0
  intro n_
  induction n_ with
  | zero =>
    intro t_raised t_chosen t_best x1 x3 x4 x5 x6 x8 x9 H locs ls hP hD hS hl hF
    exact no_s (show (none : Option (Int32 × Int32 × (Nat → Int32) × (Nat → Int32))) = some res from hF)
  | succ n_ ih =>
    intro t_raised t_chosen t_best x1 x3 x4 x5 x6 x8 x9 H locs ls hP hD hS hl hF
    rw [L_X11_choose_135] at hF
    refine lv_iload hx hb dX11_choose_135 (lv_at hl 7 rfl) ?_
    refine lv_iload_n hx hb dX11_choose_137 rfl (lv_at hl 1 rfl) ?_
    refine lv_icmp_ge (tgt := 159) hx hb dX11_choose_138 (by decide) (fun c_1 => ?_) (fun c_1 => ?_)
    · have hF := it_pos c_1 hF
      exact w_X11_choose_159 C0 HR HK_116 t_raised t_chosen t_best x1 x3 x4 x5 x6 x8 H locs ls hP hD hS (lv_sub hl [0, 1, 2, 3, 4, 5, 6] rfl) hF
    · have hF := it_neg c_1 hF
      refine lv_iload hx hb dX11_choose_141 (lv_at hl 6 rfl) ?_
      refine lv_aload_n hx hb dX11_choose_143 rfl (lv_at hl 0 rfl) ?_
      refine va_get (D := D) (ci := 10) (v := .ref (g_t 29)) (C := RX11) (T := TX11) (N := 30) hx hb hts iw_X11_choose_X11 hown hK hP 0 rfl rfl 28 (by decide) (hts _ fl_X11_choose_54) (fun _ h9 => h9) rfl dX11_choose_144 ?_
      refine lv_iload hx hb dX11_choose_147 (lv_at hl 7 rfl) ?_
      obtain ⟨hg_2, hF⟩ := gd_some hF
      refine xl_i (f := t_chosen) hx hb hK hP 2 0 rfl rfl rfl (in_v hg_2) dX11_choose_149 ?_
      refine lv_iadd hx hb dX11_choose_150 ?_
      refine lv_istore (lv' := [(8, .int (x8 + (t_chosen (x9).toNatClampNeg))), (0, .ref (g_t 0)), (1, .int x1), (3, .int x3), (4, .int x4), (5, .int x5), (6, .int x6), (9, .int x9)]) hx hb dX11_choose_151 hl (by decide) rfl (fun ls hl => ?_)
      refine lv_iinc (v := (x9 + (1 : Int32))) (lv' := [(9, .int (x9 + (1 : Int32))), (8, .int (x8 + (t_chosen (x9).toNatClampNeg))), (0, .ref (g_t 0)), (1, .int x1), (3, .int x3), (4, .int x4), (5, .int x5), (6, .int x6)]) hx hb dX11_choose_153 hl (k := 7) rfl (congrArg (fun z => x9 + z) (by decide)) (by decide) rfl (fun ls hl => ?_)
      refine lv_goto (tgt := 135) hx hb dX11_choose_156 (by decide) ?_
      exact ih t_raised t_chosen t_best x1 x3 x4 x5 x6 (x8 + (t_chosen (x9).toNatClampNeg)) (x9 + (1 : Int32)) H locs ls hP hD hS (lv_sub hl [2, 3, 4, 5, 6, 7, 1, 0] rfl) hF
def L_X11_choose_116 (t_all : Nat → Int32) : Nat → Int32 → (Nat → Int32) → (Nat → Int32) → Int32 → Int32 → Int32 → Int32 → Int32 → Int32 → Option (Int32 × Int32 × (Nat → Int32) × (Nat → Int32))
  | 0, _, _, _, _, _, _, _, _, _ => none
  | n_ + 1, t_raised, t_chosen, t_best, x1, x3, x4, x5, x6, x7 =>
    if x7 = (0 : Int32) then (J_X11_choose_219 t_all t_raised t_chosen t_best x4 x5 x6) else ((F_X11_isFit t_all t_chosen x1).bind fun r_2 => (if r_2 = (0 : Int32) then (J_X11_choose_208 t_all (L_X11_choose_116 t_all n_) t_raised t_chosen t_best x1 x3 x4 x5 x6) else (L_X11_choose_135 t_all (L_X11_choose_116 t_all n_) fu_ t_raised t_chosen t_best x1 x3 x4 x5 x6 (0 : Int32) (0 : Int32))))
set_option maxHeartbeats 4000000 in
set_option maxRecDepth 100000 in
theorem w_X11_choose_116 {p : Program} {l : Launch} {e : Env} {s : State} {m : MethodId} {args : Array Value} {below : List Frame} {meth : Method} {c : Code} {D : va_G} {K : Nat → ClassId} {A : Nat → Prop} {Q : State → Prop} (C0 : cx_ p s m args c cX11_choose 10 RX11 wsX11_choose D K A) {g_t : Nat → Nat} {t_undos : Int32} {t_reached : Int32} {t_length : Int32} {t_begin : Int32} {t_sort : Int32} {t_value : Int32} {t_word : Int64} {t_wrongAt : Int32} {t_badAt : Int32} {t_bad : Int32} {t_read : Int32} {t_pictured : Int32} {t_x : Int32} {t_all : Nat → Int32} {res : Int32 × Int32 × (Nat → Int32) × (Nat → Int32)} (HR : ∀ (pc : Nat) (H : Heap) (locs : List Loc) (ls : Array Slot), decode cX11_choose pc = .ok (.ireturn, 1) → va_P D vwCl (w_X11_choose K g_t res.2.1 t_undos t_reached t_length t_begin t_sort t_value t_word t_wrongAt t_badAt t_bad t_read t_pictured t_x t_all res.2.2.1 res.2.2.2) H → va_D A (w_X11_choose K g_t res.2.1 t_undos t_reached t_length t_begin t_sort t_value t_word t_wrongAt t_badAt t_bad t_read t_pictured t_x t_all res.2.2.1 res.2.2.2) → va_S A s.heap H locs → W p l e rmX11_choose s m args below meth c H locs 0 0 Q (F0 m pc ls [.int res.1]))  :
    ∀ (n_ : Nat) (t_raised : Int32) (t_chosen : Nat → Int32) (t_best : Nat → Int32) (x1 : Int32) (x3 : Int32) (x4 : Int32) (x5 : Int32) (x6 : Int32) (x7 : Int32) (H : Heap) (locs : List Loc) (ls : Array Slot), va_P D vwCl (w_X11_choose K g_t t_raised t_undos t_reached t_length t_begin t_sort t_value t_word t_wrongAt t_badAt t_bad t_read t_pictured t_x t_all t_chosen t_best) H → va_D A (w_X11_choose K g_t t_raised t_undos t_reached t_length t_begin t_sort t_value t_word t_wrongAt t_badAt t_bad t_read t_pictured t_x t_all t_chosen t_best) → va_S A s.heap H locs → lv_has ls 10 [(0, .ref (g_t 0)), (1, .int x1), (3, .int x3), (4, .int x4), (5, .int x5), (6, .int x6), (7, .int x7)] → L_X11_choose_116 t_all n_ t_raised t_chosen t_best x1 x3 x4 x5 x6 x7 = some res → W p l e rmX11_choose s m args below meth c H locs 0 0 Q (F0 m 116 ls []) := by
  obtain ⟨⟨hx, hb, hml, hown, hts⟩, hK, -⟩ := id C0
  intro n_
  induction n_ with
  | zero =>
    intro t_raised t_chosen t_best x1 x3 x4 x5 x6 x7 H locs ls hP hD hS hl hF
    exact no_s (show (none : Option (Int32 × Int32 × (Nat → Int32) × (Nat → Int32))) = some res from hF)
  | succ n_ ih =>
    intro t_raised t_chosen t_best x1 x3 x4 x5 x6 x7 H locs ls hP hD hS hl hF
    rw [L_X11_choose_116] at hF
    refine lv_iload hx hb dX11_choose_116 (lv_at hl 6 rfl) ?_
    refine lv_if_eq (tgt := 219) hx hb dX11_choose_118 (by decide) (fun c_1 => ?_) (fun c_1 => ?_)
    · have hF := it_pos c_1 hF
      exact w_X11_choose_219 C0 HR t_raised t_chosen t_best x4 x5 x6 H locs ls hP hD hS (lv_sub hl [0, 3, 4, 5] rfl) hF
    · have hF := it_neg c_1 hF
      refine lv_aload_n hx hb dX11_choose_121 rfl (lv_at hl 0 rfl) ?_
      refine lv_iload_n hx hb dX11_choose_122 rfl (lv_at hl 1 rfl) ?_
      obtain ⟨r_2, hc_3, hF⟩ := bn_some hF
      refine xc_i (wn := (w_X11_choose K g_t t_raised t_undos t_reached t_length t_begin t_sort t_value t_word t_wrongAt t_badAt t_bad t_read t_pictured t_x t_all t_chosen t_best)) hP hD hS C0.2.2.1 [0, 1, 2] [3] [1, 2, 3, 0] rfl rfl (by decide) (by decide) rfl (by decide) (va_runV (As := [.int x1]) (rest := []) C0.1 (c_X11_isFit l D K g_t t_raised t_undos t_reached t_length t_begin t_sort t_value t_word t_wrongAt t_badAt t_bad t_read t_pictured t_x t_all t_chosen x1 r_2 hc_3 H.size) (cwV 1 hts gX11_choose_X11_isFit rfl rfl rfl (by decide +kernel) ⟨Nat.le_of_ble_eq_true rfl, Nat.le_of_ble_eq_true rfl⟩) (xp_V C0.2 hP hD hS [0, 1, 2] rfl (by decide) 10 0 rfl rfl rfl) rfl rfl hl.1 rfl (lv_room (Nat.le_of_ble_eq_true rfl)) dX11_choose_123 ⟨Nat.le_of_ble_eq_true rfl, Nat.le_of_ble_eq_true rfl⟩) (fun H locs hP hD hS => ?_)
      refine lv_if_eq (tgt := 208) hx hb dX11_choose_126 (by decide) (fun c_4 => ?_) (fun c_4 => ?_)
      · have hF := it_pos c_4 hF
        exact w_X11_choose_208 C0 HR ih t_raised t_chosen t_best x1 x3 x4 x5 x6 H locs ls hP hD hS (lv_sub hl [0, 1, 2, 3, 4, 5] rfl) hF
      · have hF := it_neg c_4 hF
        refine lv_iconst (v := 0) hx hb dX11_choose_129 (by decide) ?_
        refine lv_istore (lv' := [(8, .int (0 : Int32)), (0, .ref (g_t 0)), (1, .int x1), (3, .int x3), (4, .int x4), (5, .int x5), (6, .int x6), (7, .int x7)]) hx hb dX11_choose_130 hl (by decide) rfl (fun ls hl => ?_)
        refine lv_iconst (v := 0) hx hb dX11_choose_132 (by decide) ?_
        refine lv_istore (lv' := [(9, .int (0 : Int32)), (8, .int (0 : Int32)), (0, .ref (g_t 0)), (1, .int x1), (3, .int x3), (4, .int x4), (5, .int x5), (6, .int x6), (7, .int x7)]) hx hb dX11_choose_133 hl (by decide) rfl (fun ls hl => ?_)
        exact w_X11_choose_135 C0 HR ih fu_ t_raised t_chosen t_best x1 x3 x4 x5 x6 (0 : Int32) (0 : Int32) H locs ls hP hD hS (lv_sub hl [2, 3, 4, 5, 6, 7, 1, 0] rfl) hF
def J_X11_choose_94 (t_all : Nat → Int32) (t_raised : Int32) (t_chosen : Nat → Int32) (t_best : Nat → Int32) (x1 : Int32) (x2 : Int32) (x3 : Int32) (x4 : Int32) : Option (Int32 × Int32 × (Nat → Int32) × (Nat → Int32)) :=
  if x3 < ((x2 + x1) - (1 : Int32)) then (L_X11_choose_116 t_all fu_ t_raised t_chosen t_best x1 x3 x4 (0 : Int32) (-1 : Int32) (0 : Int32)) else (L_X11_choose_116 t_all fu_ t_raised t_chosen t_best x1 x3 x4 (0 : Int32) (-1 : Int32) (1 : Int32))
set_option maxHeartbeats 4000000 in
set_option maxRecDepth 100000 in
theorem w_X11_choose_94 {p : Program} {l : Launch} {e : Env} {s : State} {m : MethodId} {args : Array Value} {below : List Frame} {meth : Method} {c : Code} {D : va_G} {K : Nat → ClassId} {A : Nat → Prop} {Q : State → Prop} (C0 : cx_ p s m args c cX11_choose 10 RX11 wsX11_choose D K A) {g_t : Nat → Nat} {t_undos : Int32} {t_reached : Int32} {t_length : Int32} {t_begin : Int32} {t_sort : Int32} {t_value : Int32} {t_word : Int64} {t_wrongAt : Int32} {t_badAt : Int32} {t_bad : Int32} {t_read : Int32} {t_pictured : Int32} {t_x : Int32} {t_all : Nat → Int32} {res : Int32 × Int32 × (Nat → Int32) × (Nat → Int32)} (HR : ∀ (pc : Nat) (H : Heap) (locs : List Loc) (ls : Array Slot), decode cX11_choose pc = .ok (.ireturn, 1) → va_P D vwCl (w_X11_choose K g_t res.2.1 t_undos t_reached t_length t_begin t_sort t_value t_word t_wrongAt t_badAt t_bad t_read t_pictured t_x t_all res.2.2.1 res.2.2.2) H → va_D A (w_X11_choose K g_t res.2.1 t_undos t_reached t_length t_begin t_sort t_value t_word t_wrongAt t_badAt t_bad t_read t_pictured t_x t_all res.2.2.1 res.2.2.2) → va_S A s.heap H locs → W p l e rmX11_choose s m args below meth c H locs 0 0 Q (F0 m pc ls [.int res.1]))  :
    ∀ (t_raised : Int32) (t_chosen : Nat → Int32) (t_best : Nat → Int32) (x1 : Int32) (x2 : Int32) (x3 : Int32) (x4 : Int32) (H : Heap) (locs : List Loc) (ls : Array Slot), va_P D vwCl (w_X11_choose K g_t t_raised t_undos t_reached t_length t_begin t_sort t_value t_word t_wrongAt t_badAt t_bad t_read t_pictured t_x t_all t_chosen t_best) H → va_D A (w_X11_choose K g_t t_raised t_undos t_reached t_length t_begin t_sort t_value t_word t_wrongAt t_badAt t_bad t_read t_pictured t_x t_all t_chosen t_best) → va_S A s.heap H locs → lv_has ls 10 [(0, .ref (g_t 0)), (1, .int x1), (2, .int x2), (3, .int x3), (4, .int x4)] → J_X11_choose_94 t_all t_raised t_chosen t_best x1 x2 x3 x4 = some res → W p l e rmX11_choose s m args below meth c H locs 0 0 Q (F0 m 94 ls []) := by
  obtain ⟨⟨hx, hb, hml, hown, hts⟩, hK, -⟩ := id C0
  intro t_raised t_chosen t_best x1 x2 x3 x4 H locs ls hP hD hS hl hF
  unfold J_X11_choose_94 at hF
  refine lv_iconst (v := 0) hx hb dX11_choose_94 (by decide) ?_
  refine lv_istore (lv' := [(5, .int (0 : Int32)), (0, .ref (g_t 0)), (1, .int x1), (2, .int x2), (3, .int x3), (4, .int x4)]) hx hb dX11_choose_95 hl (by decide) rfl (fun ls hl => ?_)
  refine lv_iconst (v := (-1)) hx hb dX11_choose_97 (by decide) ?_
  refine lv_istore (lv' := [(6, .int (-1 : Int32)), (5, .int (0 : Int32)), (0, .ref (g_t 0)), (1, .int x1), (2, .int x2), (3, .int x3), (4, .int x4)]) hx hb dX11_choose_98 hl (by decide) rfl (fun ls hl => ?_)
  refine lv_iload_n hx hb dX11_choose_100 rfl (lv_at hl 4 rfl) ?_
  refine lv_iload_n hx hb dX11_choose_101 rfl (lv_at hl 3 rfl) ?_
  refine lv_iadd hx hb dX11_choose_102 ?_
  refine lv_iconst (v := 1) hx hb dX11_choose_103 (by decide) ?_
  refine lv_isub hx hb dX11_choose_104 ?_
  refine lv_iload_n hx hb dX11_choose_105 rfl (lv_at hl 5 rfl) ?_
  refine lv_icmp_gt (tgt := 113) hx hb dX11_choose_106 (by decide) (fun c_1 => ?_) (fun c_1 => ?_)
  · have hF := it_pos c_1 hF
    refine lv_iconst (v := 0) hx hb dX11_choose_113 (by decide) ?_
    refine lv_istore (lv' := [(7, .int (0 : Int32)), (6, .int (-1 : Int32)), (5, .int (0 : Int32)), (0, .ref (g_t 0)), (1, .int x1), (2, .int x2), (3, .int x3), (4, .int x4)]) hx hb dX11_choose_114 hl (by decide) rfl (fun ls hl => ?_)
    exact w_X11_choose_116 C0 HR fu_ t_raised t_chosen t_best x1 x3 x4 (0 : Int32) (-1 : Int32) (0 : Int32) H locs ls hP hD hS (lv_sub hl [3, 4, 6, 7, 2, 1, 0] rfl) hF
  · have hF := it_neg c_1 hF
    refine lv_iconst (v := 1) hx hb dX11_choose_109 (by decide) ?_
    refine lv_goto (tgt := 114) hx hb dX11_choose_110 (by decide) ?_
    refine lv_istore (lv' := [(7, .int (1 : Int32)), (6, .int (-1 : Int32)), (5, .int (0 : Int32)), (0, .ref (g_t 0)), (1, .int x1), (2, .int x2), (3, .int x3), (4, .int x4)]) hx hb dX11_choose_114 hl (by decide) rfl (fun ls hl => ?_)
    exact w_X11_choose_116 C0 HR fu_ t_raised t_chosen t_best x1 x3 x4 (0 : Int32) (-1 : Int32) (1 : Int32) H locs ls hP hD hS (lv_sub hl [3, 4, 6, 7, 2, 1, 0] rfl) hF
def L_X11_choose_71 (t_all : Nat → Int32) : Nat → Int32 → (Nat → Int32) → (Nat → Int32) → Int32 → Int32 → Int32 → Int32 → Int32 → Option (Int32 × Int32 × (Nat → Int32) × (Nat → Int32))
  | 0, _, _, _, _, _, _, _, _ => none
  | n_ + 1, t_raised, t_chosen, t_best, x1, x2, x3, x4, x5 =>
    if x1 ≤ x5 then (J_X11_choose_94 t_all t_raised t_chosen t_best x1 x2 x3 x4) else (gd_ (in_b x5 4) (L_X11_choose_71 t_all n_ t_raised (upd t_chosen (x5).toNatClampNeg (x2 + x5)) t_best x1 x2 x3 x4 (x5 + (1 : Int32))))
set_option maxHeartbeats 4000000 in
set_option maxRecDepth 100000 in
theorem w_X11_choose_71 {p : Program} {l : Launch} {e : Env} {s : State} {m : MethodId} {args : Array Value} {below : List Frame} {meth : Method} {c : Code} {D : va_G} {K : Nat → ClassId} {A : Nat → Prop} {Q : State → Prop} (C0 : cx_ p s m args c cX11_choose 10 RX11 wsX11_choose D K A) {g_t : Nat → Nat} {t_undos : Int32} {t_reached : Int32} {t_length : Int32} {t_begin : Int32} {t_sort : Int32} {t_value : Int32} {t_word : Int64} {t_wrongAt : Int32} {t_badAt : Int32} {t_bad : Int32} {t_read : Int32} {t_pictured : Int32} {t_x : Int32} {t_all : Nat → Int32} {res : Int32 × Int32 × (Nat → Int32) × (Nat → Int32)} (HR : ∀ (pc : Nat) (H : Heap) (locs : List Loc) (ls : Array Slot), decode cX11_choose pc = .ok (.ireturn, 1) → va_P D vwCl (w_X11_choose K g_t res.2.1 t_undos t_reached t_length t_begin t_sort t_value t_word t_wrongAt t_badAt t_bad t_read t_pictured t_x t_all res.2.2.1 res.2.2.2) H → va_D A (w_X11_choose K g_t res.2.1 t_undos t_reached t_length t_begin t_sort t_value t_word t_wrongAt t_badAt t_bad t_read t_pictured t_x t_all res.2.2.1 res.2.2.2) → va_S A s.heap H locs → W p l e rmX11_choose s m args below meth c H locs 0 0 Q (F0 m pc ls [.int res.1]))  :
    ∀ (n_ : Nat) (t_raised : Int32) (t_chosen : Nat → Int32) (t_best : Nat → Int32) (x1 : Int32) (x2 : Int32) (x3 : Int32) (x4 : Int32) (x5 : Int32) (H : Heap) (locs : List Loc) (ls : Array Slot), va_P D vwCl (w_X11_choose K g_t t_raised t_undos t_reached t_length t_begin t_sort t_value t_word t_wrongAt t_badAt t_bad t_read t_pictured t_x t_all t_chosen t_best) H → va_D A (w_X11_choose K g_t t_raised t_undos t_reached t_length t_begin t_sort t_value t_word t_wrongAt t_badAt t_bad t_read t_pictured t_x t_all t_chosen t_best) → va_S A s.heap H locs → lv_has ls 10 [(0, .ref (g_t 0)), (1, .int x1), (2, .int x2), (3, .int x3), (4, .int x4), (5, .int x5)] → L_X11_choose_71 t_all n_ t_raised t_chosen t_best x1 x2 x3 x4 x5 = some res → W p l e rmX11_choose s m args below meth c H locs 0 0 Q (F0 m 71 ls []) := by
  obtain ⟨⟨hx, hb, hml, hown, hts⟩, hK, -⟩ := id C0
  intro n_
  induction n_ with
  | zero =>
    intro t_raised t_chosen t_best x1 x2 x3 x4 x5 H locs ls hP hD hS hl hF
    exact no_s (show (none : Option (Int32 × Int32 × (Nat → Int32) × (Nat → Int32))) = some res from hF)
  | succ n_ ih =>
    intro t_raised t_chosen t_best x1 x2 x3 x4 x5 H locs ls hP hD hS hl hF
    rw [L_X11_choose_71] at hF
    refine lv_iload hx hb dX11_choose_71 (lv_at hl 5 rfl) ?_
    refine lv_iload_n hx hb dX11_choose_73 rfl (lv_at hl 1 rfl) ?_
    refine lv_icmp_ge (tgt := 94) hx hb dX11_choose_74 (by decide) (fun c_1 => ?_) (fun c_1 => ?_)
    · have hF := it_pos c_1 hF
      exact w_X11_choose_94 C0 HR t_raised t_chosen t_best x1 x2 x3 x4 H locs ls hP hD hS (lv_sub hl [0, 1, 2, 3, 4] rfl) hF
    · have hF := it_neg c_1 hF
      refine lv_aload_n hx hb dX11_choose_77 rfl (lv_at hl 0 rfl) ?_
      refine va_get (D := D) (ci := 10) (v := .ref (g_t 29)) (C := RX11) (T := TX11) (N := 30) hx hb hts iw_X11_choose_X11 hown hK hP 0 rfl rfl 28 (by decide) (hts _ fl_X11_choose_54) (fun _ h9 => h9) rfl dX11_choose_78 ?_
      refine lv_iload hx hb dX11_choose_81 (lv_at hl 5 rfl) ?_
      refine lv_iload_n hx hb dX11_choose_83 rfl (lv_at hl 2 rfl) ?_
      refine lv_iload hx hb dX11_choose_84 (lv_at hl 5 rfl) ?_
      refine lv_iadd hx hb dX11_choose_86 ?_
      obtain ⟨hg_2, hF⟩ := gd_some hF
      refine xs_i (f := t_chosen) hx hb hK hP hD hS 2 0 rfl rfl rfl (in_v hg_2) dX11_choose_87 (fun H locs hP hD hS => ?_)
      have hP : va_P D vwCl (w_X11_choose K g_t t_raised t_undos t_reached t_length t_begin t_sort t_value t_word t_wrongAt t_badAt t_bad t_read t_pictured t_x t_all (upd t_chosen (x5).toNatClampNeg (x2 + x5)) t_best) H := hP
      have hD : va_D A (w_X11_choose K g_t t_raised t_undos t_reached t_length t_begin t_sort t_value t_word t_wrongAt t_badAt t_bad t_read t_pictured t_x t_all (upd t_chosen (x5).toNatClampNeg (x2 + x5)) t_best) := hD
      refine lv_iinc (v := (x5 + (1 : Int32))) (lv' := [(5, .int (x5 + (1 : Int32))), (0, .ref (g_t 0)), (1, .int x1), (2, .int x2), (3, .int x3), (4, .int x4)]) hx hb dX11_choose_88 hl (k := 5) rfl (congrArg (fun z => x5 + z) (by decide)) (by decide) rfl (fun ls hl => ?_)
      refine lv_goto (tgt := 71) hx hb dX11_choose_91 (by decide) ?_
      exact ih t_raised (upd t_chosen (x5).toNatClampNeg (x2 + x5)) t_best x1 x2 x3 x4 (x5 + (1 : Int32)) H locs ls hP hD hS (lv_sub hl [1, 2, 3, 4, 5, 0] rfl) hF
def F_X11_choose (t_raised : Int32) (t_all : Nat → Int32) (t_chosen : Nat → Int32) (t_best : Nat → Int32) (x1 : Int32) (x2 : Int32) (x3 : Int32) (x4 : Int32) : Option (Int32 × Int32 × (Nat → Int32) × (Nat → Int32)) :=
  (F_X11_in x1 (2 : Int32) (4 : Int32)).bind fun r_1 => (if r_1 = (0 : Int32) then (some ((-1 : Int32), (0 : Int32), t_chosen, t_best)) else ((F_X11_in x2 (4 : Int32) (60 : Int32)).bind fun r_4 => (if r_4 = (0 : Int32) then (some ((-1 : Int32), (0 : Int32), t_chosen, t_best)) else ((F_X11_lesser (60 : Int32) (x2 + (20 : Int32))).bind fun r_7 => ((F_X11_in x3 x2 r_7).bind fun r_9 => (if r_9 = (0 : Int32) then (some ((-1 : Int32), (0 : Int32), t_chosen, t_best)) else ((F_X11_in x4 (0 : Int32) (1 : Int32)).bind fun r_12 => (if r_12 = (0 : Int32) then ((F_X11_in (x4 - (10 : Int32)) (0 : Int32) (x1 - (1 : Int32))).bind fun r_15 => (if r_15 = (0 : Int32) then (some ((-1 : Int32), (0 : Int32), t_chosen, t_best)) else (L_X11_choose_71 t_all fu_ (0 : Int32) t_chosen t_best x1 x2 x3 x4 (0 : Int32)))) else (L_X11_choose_71 t_all fu_ (0 : Int32) t_chosen t_best x1 x2 x3 x4 (0 : Int32))))))))))
set_option maxHeartbeats 4000000 in
set_option maxRecDepth 100000 in
theorem c_X11_choose (l : Launch) (D : va_G) (K : Nat → ClassId) (g_t : Nat → Nat) (t_raised : Int32) (t_undos : Int32) (t_reached : Int32) (t_length : Int32) (t_begin : Int32) (t_sort : Int32) (t_value : Int32) (t_word : Int64) (t_wrongAt : Int32) (t_badAt : Int32) (t_bad : Int32) (t_read : Int32) (t_pictured : Int32) (t_x : Int32) (t_all : Nat → Int32) (t_chosen : Nat → Int32) (t_best : Nat → Int32) (x1 : Int32) (x2 : Int32) (x3 : Int32) (x4 : Int32) (res : Int32 × Int32 × (Nat → Int32) × (Nat → Int32)) (hF : F_X11_choose t_raised t_all t_chosen t_best x1 x2 x3 x4 = some res) :
    Mi_ l yX11_choose wsX11_choose rmX11_choose D K [.ref (g_t 0), .int x1, .int x2, .int x3, .int x4] (w_X11_choose K g_t t_raised t_undos t_reached t_length t_begin t_sort t_value t_word t_wrongAt t_badAt t_bad t_read t_pictured t_x t_all t_chosen t_best) (w_X11_choose K g_t res.2.1 t_undos t_reached t_length t_begin t_sort t_value t_word t_wrongAt t_badAt t_bad t_read t_pictured t_x t_all res.2.2.1 res.2.2.2) (res.1) := by
  refine en_i (cc := cX11_choose) (maxL := 10) (own := RX11) (by decide) rfl rfl (Nat.le_of_ble_eq_true rfl) ?_
  intro p e s m args below meth c A Q H locs ls C0 hP hD hS hl HR
  obtain ⟨⟨hx, hb, hml, hown, hts⟩, hK, -⟩ := id C0
  have hl : lv_has ls 10 [(0, .ref (g_t 0)), (1, .int x1), (2, .int x2), (3, .int x3), (4, .int x4)] := hl
  unfold F_X11_choose at hF
  refine lv_aload_n hx hb dX11_choose_0 rfl (lv_at hl 0 rfl) ?_
  refine lv_iconst (v := 0) hx hb dX11_choose_1 (by decide) ?_
  refine va_put (D := D) (ci := 10) (v := .int (0 : Int32)) (ty := .int) (C := RX11) (T := TX11) (N := 30) hx hb hts iw_X11_choose_X11 tyX11 tyX11_ok nmX11 hown hK hP hD hS 0 rfl rfl 0 (by decide) (hts _ fl_X11_choose_66) (fun _ h9 => h9) rfl (by decide +kernel) rfl rfl (Nat.le_of_ble_eq_true rfl) dX11_choose_2 (fun H locs hP hD hS => ?_)
  have hP : va_P D vwCl (w_X11_choose K g_t (0 : Int32) t_undos t_reached t_length t_begin t_sort t_value t_word t_wrongAt t_badAt t_bad t_read t_pictured t_x t_all t_chosen t_best) H := hP
  have hD : va_D A (w_X11_choose K g_t (0 : Int32) t_undos t_reached t_length t_begin t_sort t_value t_word t_wrongAt t_badAt t_bad t_read t_pictured t_x t_all t_chosen t_best) := hD
  refine lv_iload_n hx hb dX11_choose_5 rfl (lv_at hl 1 rfl) ?_
  refine lv_iconst (v := 2) hx hb dX11_choose_6 (by decide) ?_
  refine lv_iconst (v := 4) hx hb dX11_choose_7 (by decide) ?_
  obtain ⟨r_1, hc_2, hF⟩ := bn_some hF
  refine xc_i (wn := (w_X11_choose K g_t (0 : Int32) t_undos t_reached t_length t_begin t_sort t_value t_word t_wrongAt t_badAt t_bad t_read t_pictured t_x t_all t_chosen t_best)) hP hD hS C0.2.2.1 [] [0, 1, 2, 3] [0, 1, 2, 3] rfl rfl (by decide) (by decide) rfl (by decide) (va_runS (As := [.int x1, .int (2 : Int32), .int (4 : Int32)]) (rest := []) C0.1 (c_X11_in l D K x1 (2 : Int32) (4 : Int32) r_1 hc_2 H.size) (va_cwS 3 hts gX11_choose_X11_in rfl rfl rfl (by decide +kernel) ⟨Nat.le_of_ble_eq_true rfl, Nat.le_of_ble_eq_true rfl⟩) (xp_S C0.2 hP hD hS [] rfl (by decide)) rfl rfl hl.1 rfl (lv_room (Nat.le_of_ble_eq_true rfl)) dX11_choose_8 ⟨Nat.le_of_ble_eq_true rfl, Nat.le_of_ble_eq_true rfl⟩) (fun H locs hP hD hS => ?_)
  refine lv_if_eq (tgt := 66) hx hb dX11_choose_11 (by decide) (fun c_3 => ?_) (fun c_3 => ?_)
  · have hF := it_pos c_3 hF
    refine lv_iconst (v := (-1)) hx hb dX11_choose_66 (by decide) ?_
    obtain rfl := Option.some.inj hF
    exact HR 67 H locs ls dX11_choose_67 hP hD hS
  · have hF := it_neg c_3 hF
    refine lv_iload_n hx hb dX11_choose_14 rfl (lv_at hl 2 rfl) ?_
    refine lv_iconst (v := 4) hx hb dX11_choose_15 (by decide) ?_
    refine lv_bipush (v := 60) hx hb dX11_choose_16 (by decide) ?_
    obtain ⟨r_4, hc_5, hF⟩ := bn_some hF
    refine xc_i (wn := (w_X11_choose K g_t (0 : Int32) t_undos t_reached t_length t_begin t_sort t_value t_word t_wrongAt t_badAt t_bad t_read t_pictured t_x t_all t_chosen t_best)) hP hD hS C0.2.2.1 [] [0, 1, 2, 3] [0, 1, 2, 3] rfl rfl (by decide) (by decide) rfl (by decide) (va_runS (As := [.int x2, .int (4 : Int32), .int (60 : Int32)]) (rest := []) C0.1 (c_X11_in l D K x2 (4 : Int32) (60 : Int32) r_4 hc_5 H.size) (va_cwS 3 hts gX11_choose_X11_in rfl rfl rfl (by decide +kernel) ⟨Nat.le_of_ble_eq_true rfl, Nat.le_of_ble_eq_true rfl⟩) (xp_S C0.2 hP hD hS [] rfl (by decide)) rfl rfl hl.1 rfl (lv_room (Nat.le_of_ble_eq_true rfl)) dX11_choose_18 ⟨Nat.le_of_ble_eq_true rfl, Nat.le_of_ble_eq_true rfl⟩) (fun H locs hP hD hS => ?_)
    refine lv_if_eq (tgt := 66) hx hb dX11_choose_21 (by decide) (fun c_6 => ?_) (fun c_6 => ?_)
    · have hF := it_pos c_6 hF
      refine lv_iconst (v := (-1)) hx hb dX11_choose_66 (by decide) ?_
      obtain rfl := Option.some.inj hF
      exact HR 67 H locs ls dX11_choose_67 hP hD hS
    · have hF := it_neg c_6 hF
      refine lv_iload_n hx hb dX11_choose_24 rfl (lv_at hl 3 rfl) ?_
      refine lv_iload_n hx hb dX11_choose_25 rfl (lv_at hl 2 rfl) ?_
      refine lv_bipush (v := 60) hx hb dX11_choose_26 (by decide) ?_
      refine lv_iload_n hx hb dX11_choose_28 rfl (lv_at hl 2 rfl) ?_
      refine lv_bipush (v := 20) hx hb dX11_choose_29 (by decide) ?_
      refine lv_iadd hx hb dX11_choose_31 ?_
      obtain ⟨r_7, hc_8, hF⟩ := bn_some hF
      refine xc_i (wn := (w_X11_choose K g_t (0 : Int32) t_undos t_reached t_length t_begin t_sort t_value t_word t_wrongAt t_badAt t_bad t_read t_pictured t_x t_all t_chosen t_best)) hP hD hS C0.2.2.1 [] [0, 1, 2, 3] [0, 1, 2, 3] rfl rfl (by decide) (by decide) rfl (by decide) (va_runS (As := [.int (60 : Int32), .int (x2 + (20 : Int32))]) (rest := [.int x2, .int x3]) C0.1 (c_X11_lesser l D K (60 : Int32) (x2 + (20 : Int32)) r_7 hc_8 H.size) (va_cwS 2 hts gX11_choose_X11_lesser rfl rfl rfl (by decide +kernel) ⟨Nat.le_of_ble_eq_true rfl, Nat.le_of_ble_eq_true rfl⟩) (xp_S C0.2 hP hD hS [] rfl (by decide)) rfl rfl hl.1 rfl (lv_room (Nat.le_of_ble_eq_true rfl)) dX11_choose_32 ⟨Nat.le_of_ble_eq_true rfl, Nat.le_of_ble_eq_true rfl⟩) (fun H locs hP hD hS => ?_)
      obtain ⟨r_9, hc_10, hF⟩ := bn_some hF
      refine xc_i (wn := (w_X11_choose K g_t (0 : Int32) t_undos t_reached t_length t_begin t_sort t_value t_word t_wrongAt t_badAt t_bad t_read t_pictured t_x t_all t_chosen t_best)) hP hD hS C0.2.2.1 [] [0, 1, 2, 3] [0, 1, 2, 3] rfl rfl (by decide) (by decide) rfl (by decide) (va_runS (As := [.int x3, .int x2, .int r_7]) (rest := []) C0.1 (c_X11_in l D K x3 x2 r_7 r_9 hc_10 H.size) (va_cwS 3 hts gX11_choose_X11_in rfl rfl rfl (by decide +kernel) ⟨Nat.le_of_ble_eq_true rfl, Nat.le_of_ble_eq_true rfl⟩) (xp_S C0.2 hP hD hS [] rfl (by decide)) rfl rfl hl.1 rfl (lv_room (Nat.le_of_ble_eq_true rfl)) dX11_choose_35 ⟨Nat.le_of_ble_eq_true rfl, Nat.le_of_ble_eq_true rfl⟩) (fun H locs hP hD hS => ?_)
      refine lv_if_eq (tgt := 66) hx hb dX11_choose_38 (by decide) (fun c_11 => ?_) (fun c_11 => ?_)
      · have hF := it_pos c_11 hF
        refine lv_iconst (v := (-1)) hx hb dX11_choose_66 (by decide) ?_
        obtain rfl := Option.some.inj hF
        exact HR 67 H locs ls dX11_choose_67 hP hD hS
      · have hF := it_neg c_11 hF
        refine lv_iload hx hb dX11_choose_41 (lv_at hl 4 rfl) ?_
        refine lv_iconst (v := 0) hx hb dX11_choose_43 (by decide) ?_
        refine lv_iconst (v := 1) hx hb dX11_choose_44 (by decide) ?_
        obtain ⟨r_12, hc_13, hF⟩ := bn_some hF
        refine xc_i (wn := (w_X11_choose K g_t (0 : Int32) t_undos t_reached t_length t_begin t_sort t_value t_word t_wrongAt t_badAt t_bad t_read t_pictured t_x t_all t_chosen t_best)) hP hD hS C0.2.2.1 [] [0, 1, 2, 3] [0, 1, 2, 3] rfl rfl (by decide) (by decide) rfl (by decide) (va_runS (As := [.int x4, .int (0 : Int32), .int (1 : Int32)]) (rest := []) C0.1 (c_X11_in l D K x4 (0 : Int32) (1 : Int32) r_12 hc_13 H.size) (va_cwS 3 hts gX11_choose_X11_in rfl rfl rfl (by decide +kernel) ⟨Nat.le_of_ble_eq_true rfl, Nat.le_of_ble_eq_true rfl⟩) (xp_S C0.2 hP hD hS [] rfl (by decide)) rfl rfl hl.1 rfl (lv_room (Nat.le_of_ble_eq_true rfl)) dX11_choose_45 ⟨Nat.le_of_ble_eq_true rfl, Nat.le_of_ble_eq_true rfl⟩) (fun H locs hP hD hS => ?_)
        refine lv_if_ne (tgt := 68) hx hb dX11_choose_48 (by decide) (fun c_14 => ?_) (fun c_14 => ?_)
        · have hF := it_neg c_14 hF
          refine lv_iconst (v := 0) hx hb dX11_choose_68 (by decide) ?_
          refine lv_istore (lv' := [(5, .int (0 : Int32)), (0, .ref (g_t 0)), (1, .int x1), (2, .int x2), (3, .int x3), (4, .int x4)]) hx hb dX11_choose_69 hl (by decide) rfl (fun ls hl => ?_)
          exact w_X11_choose_71 C0 HR fu_ (0 : Int32) t_chosen t_best x1 x2 x3 x4 (0 : Int32) H locs ls hP hD hS (lv_sub hl [1, 2, 3, 4, 5, 0] rfl) hF
        · have hF := it_pos c_14 hF
          refine lv_iload hx hb dX11_choose_51 (lv_at hl 4 rfl) ?_
          refine lv_bipush (v := 10) hx hb dX11_choose_53 (by decide) ?_
          refine lv_isub hx hb dX11_choose_55 ?_
          refine lv_iconst (v := 0) hx hb dX11_choose_56 (by decide) ?_
          refine lv_iload_n hx hb dX11_choose_57 rfl (lv_at hl 1 rfl) ?_
          refine lv_iconst (v := 1) hx hb dX11_choose_58 (by decide) ?_
          refine lv_isub hx hb dX11_choose_59 ?_
          obtain ⟨r_15, hc_16, hF⟩ := bn_some hF
          refine xc_i (wn := (w_X11_choose K g_t (0 : Int32) t_undos t_reached t_length t_begin t_sort t_value t_word t_wrongAt t_badAt t_bad t_read t_pictured t_x t_all t_chosen t_best)) hP hD hS C0.2.2.1 [] [0, 1, 2, 3] [0, 1, 2, 3] rfl rfl (by decide) (by decide) rfl (by decide) (va_runS (As := [.int (x4 - (10 : Int32)), .int (0 : Int32), .int (x1 - (1 : Int32))]) (rest := []) C0.1 (c_X11_in l D K (x4 - (10 : Int32)) (0 : Int32) (x1 - (1 : Int32)) r_15 hc_16 H.size) (va_cwS 3 hts gX11_choose_X11_in rfl rfl rfl (by decide +kernel) ⟨Nat.le_of_ble_eq_true rfl, Nat.le_of_ble_eq_true rfl⟩) (xp_S C0.2 hP hD hS [] rfl (by decide)) rfl rfl hl.1 rfl (lv_room (Nat.le_of_ble_eq_true rfl)) dX11_choose_60 ⟨Nat.le_of_ble_eq_true rfl, Nat.le_of_ble_eq_true rfl⟩) (fun H locs hP hD hS => ?_)
          refine lv_if_ne (tgt := 68) hx hb dX11_choose_63 (by decide) (fun c_17 => ?_) (fun c_17 => ?_)
          · have hF := it_neg c_17 hF
            refine lv_iconst (v := 0) hx hb dX11_choose_68 (by decide) ?_
            refine lv_istore (lv' := [(5, .int (0 : Int32)), (0, .ref (g_t 0)), (1, .int x1), (2, .int x2), (3, .int x3), (4, .int x4)]) hx hb dX11_choose_69 hl (by decide) rfl (fun ls hl => ?_)
            exact w_X11_choose_71 C0 HR fu_ (0 : Int32) t_chosen t_best x1 x2 x3 x4 (0 : Int32) H locs ls hP hD hS (lv_sub hl [1, 2, 3, 4, 5, 0] rfl) hF
          · have hF := it_pos c_17 hF
            refine lv_iconst (v := (-1)) hx hb dX11_choose_66 (by decide) ?_
            obtain rfl := Option.some.inj hF
            exact HR 67 H locs ls dX11_choose_67 hP hD hS

/-! StaggerRadarModel.laysLoud()V -/
abbrev rmX11_laysLoud : Room := { frames := 3, cells := 0, slots := 0, locals := 67 }
theorem fl_X11_laysLoud_7 : Cond.fieldLink RX11 7 "StaggerRadarModel" "all" "[I" ∈ wsX11_laysLoud := by decide +kernel
theorem fl_X11_laysLoud_27 : Cond.fieldLink RX11 27 "StaggerRadarModel" "loud" "[I" ∈ wsX11_laysLoud := by decide +kernel
theorem iw_X11_laysLoud_X11 : ∀ w ∈ u_ws RX11 TX11 30, w ∈ wsX11_laysLoud := by decide +kernel
abbrev w_X11_laysLoud (K : Nat → ClassId) (g_t : Nat → Nat) (t_raised : Int32) (t_undos : Int32) (t_reached : Int32) (t_length : Int32) (t_begin : Int32) (t_sort : Int32) (t_value : Int32) (t_word : Int64) (t_wrongAt : Int32) (t_badAt : Int32) (t_bad : Int32) (t_read : Int32) (t_pictured : Int32) (t_x : Int32) (t_all : Nat → Int32) (t_loud : Nat → Int32) : va_W := [((g_t 0), .inr (10, [.int t_raised, .ref (g_t 2), .ref (g_t 3), .ref (g_t 4), .ref (g_t 5), .int t_undos, .int t_reached, .int t_length, .int t_begin, .int t_sort, .int t_value, .long t_word, .int t_wrongAt, .int t_badAt, .int t_bad, .ref (g_t 16), .int t_read, .ref (g_t 18), .ref (g_t 19), .ref (g_t 20), .int t_pictured, .ref (g_t 22), .ref (g_t 23), .ref (g_t 24), .ref (g_t 25), .ref (g_t 26), .int t_x, .ref (g_t 28), .ref (g_t 29), .ref (g_t 30)])), ((g_t 2), .inl (K 0, 500, .inl t_all)), ((g_t 18), .inl (K 0, 300, .inl t_loud))]
def J_X11_laysLoud_88 (t_all : Nat → Int32) (k_24 : (Nat → Int32) → Int32 → Option ((Nat → Int32))) (k_36 : (Nat → Int32) → Int32 → Int32 → Option ((Nat → Int32))) (t_loud : Nat → Int32) (x1 : Int32) (x2 : Int32) (s1 : Int32) (s2 : Int32) (s3 : Int32) : Option ((Nat → Int32)) :=
  gd_ (in_b s1 300) (k_36 (upd t_loud (s1).toNatClampNeg (s2 + s3)) x1 (x2 + (1 : Int32)))
set_option maxHeartbeats 4000000 in
set_option maxRecDepth 100000 in
theorem w_X11_laysLoud_88 {p : Program} {l : Launch} {e : Env} {s : State} {m : MethodId} {args : Array Value} {below : List Frame} {meth : Method} {c : Code} {D : va_G} {K : Nat → ClassId} {A : Nat → Prop} {Q : State → Prop} (C0 : cx_ p s m args c cX11_laysLoud 3 RX11 wsX11_laysLoud D K A) {g_t : Nat → Nat} {t_raised : Int32} {t_undos : Int32} {t_reached : Int32} {t_length : Int32} {t_begin : Int32} {t_sort : Int32} {t_value : Int32} {t_word : Int64} {t_wrongAt : Int32} {t_badAt : Int32} {t_bad : Int32} {t_read : Int32} {t_pictured : Int32} {t_x : Int32} {t_all : Nat → Int32} {res : (Nat → Int32)} (HR : ∀ (pc : Nat) (H : Heap) (locs : List Loc) (ls : Array Slot), decode cX11_laysLoud pc = .ok (.return_, 1) → va_P D vwCl (w_X11_laysLoud K g_t t_raised t_undos t_reached t_length t_begin t_sort t_value t_word t_wrongAt t_badAt t_bad t_read t_pictured t_x t_all res) H → va_D A (w_X11_laysLoud K g_t t_raised t_undos t_reached t_length t_begin t_sort t_value t_word t_wrongAt t_badAt t_bad t_read t_pictured t_x t_all res) → va_S A s.heap H locs → W p l e rmX11_laysLoud s m args below meth c H locs 0 0 Q (F0 m pc ls [])) {k_24 : (Nat → Int32) → Int32 → Option ((Nat → Int32))} (HK_24 : ∀ (t_loud : Nat → Int32) (x1 : Int32) (H : Heap) (locs : List Loc) (ls : Array Slot), va_P D vwCl (w_X11_laysLoud K g_t t_raised t_undos t_reached t_length t_begin t_sort t_value t_word t_wrongAt t_badAt t_bad t_read t_pictured t_x t_all t_loud) H → va_D A (w_X11_laysLoud K g_t t_raised t_undos t_reached t_length t_begin t_sort t_value t_word t_wrongAt t_badAt t_bad t_read t_pictured t_x t_all t_loud) → va_S A s.heap H locs → lv_has ls 3 [(0, .ref (g_t 0)), (1, .int x1)] → k_24 t_loud x1 = some res → W p l e rmX11_laysLoud s m args below meth c H locs 0 0 Q (F0 m 24 ls [])) {k_36 : (Nat → Int32) → Int32 → Int32 → Option ((Nat → Int32))} (HK_36 : ∀ (t_loud : Nat → Int32) (x1 : Int32) (x2 : Int32) (H : Heap) (locs : List Loc) (ls : Array Slot), va_P D vwCl (w_X11_laysLoud K g_t t_raised t_undos t_reached t_length t_begin t_sort t_value t_word t_wrongAt t_badAt t_bad t_read t_pictured t_x t_all t_loud) H → va_D A (w_X11_laysLoud K g_t t_raised t_undos t_reached t_length t_begin t_sort t_value t_word t_wrongAt t_badAt t_bad t_read t_pictured t_x t_all t_loud) → va_S A s.heap H locs → lv_has ls 3 [(0, .ref (g_t 0)), (1, .int x1), (2, .int x2)] → k_36 t_loud x1 x2 = some res → W p l e rmX11_laysLoud s m args below meth c H locs 0 0 Q (F0 m 36 ls [])) :
    ∀ (t_loud : Nat → Int32) (x1 : Int32) (x2 : Int32) (s1 : Int32) (s2 : Int32) (s3 : Int32) (H : Heap) (locs : List Loc) (ls : Array Slot), va_P D vwCl (w_X11_laysLoud K g_t t_raised t_undos t_reached t_length t_begin t_sort t_value t_word t_wrongAt t_badAt t_bad t_read t_pictured t_x t_all t_loud) H → va_D A (w_X11_laysLoud K g_t t_raised t_undos t_reached t_length t_begin t_sort t_value t_word t_wrongAt t_badAt t_bad t_read t_pictured t_x t_all t_loud) → va_S A s.heap H locs → lv_has ls 3 [(0, .ref (g_t 0)), (1, .int x1), (2, .int x2)] → J_X11_laysLoud_88 t_all k_24 k_36 t_loud x1 x2 s1 s2 s3 = some res → W p l e rmX11_laysLoud s m args below meth c H locs 0 0 Q (F0 m 88 ls [.int s3, .int s2, .int s1, .ref (g_t 18)]) := by
  obtain ⟨⟨hx, hb, hml, hown, hts⟩, hK, -⟩ := id C0
  intro t_loud x1 x2 s1 s2 s3 H locs ls hP hD hS hl hF
  unfold J_X11_laysLoud_88 at hF
  refine lv_iadd hx hb dX11_laysLoud_88 ?_
  obtain ⟨hg_1, hF⟩ := gd_some hF
  refine xs_i (f := t_loud) hx hb hK hP hD hS 2 0 rfl rfl rfl (in_v hg_1) dX11_laysLoud_89 (fun H locs hP hD hS => ?_)
  have hP : va_P D vwCl (w_X11_laysLoud K g_t t_raised t_undos t_reached t_length t_begin t_sort t_value t_word t_wrongAt t_badAt t_bad t_read t_pictured t_x t_all (upd t_loud (s1).toNatClampNeg (s2 + s3))) H := hP
  have hD : va_D A (w_X11_laysLoud K g_t t_raised t_undos t_reached t_length t_begin t_sort t_value t_word t_wrongAt t_badAt t_bad t_read t_pictured t_x t_all (upd t_loud (s1).toNatClampNeg (s2 + s3))) := hD
  refine lv_iinc (v := (x2 + (1 : Int32))) (lv' := [(2, .int (x2 + (1 : Int32))), (0, .ref (g_t 0)), (1, .int x1)]) hx hb dX11_laysLoud_90 hl (k := 2) rfl (congrArg (fun z => x2 + z) (by decide)) (by decide) rfl (fun ls hl => ?_)
  refine lv_goto (tgt := 36) hx hb dX11_laysLoud_93 (by decide) ?_
  exact HK_36 (upd t_loud (s1).toNatClampNeg (s2 + s3)) x1 (x2 + (1 : Int32)) H locs ls hP hD hS (lv_sub hl [1, 2, 0] rfl) hF
def L_X11_laysLoud_36 (t_all : Nat → Int32) (k_24 : (Nat → Int32) → Int32 → Option ((Nat → Int32))) : Nat → (Nat → Int32) → Int32 → Int32 → Option ((Nat → Int32))
  | 0, _, _, _ => none
  | n_ + 1, t_loud, x1, x2 =>
    if (t_all 13) ≤ x2 then (k_24 t_loud (x1 + (1 : Int32))) else ((F_X11_rangeOf t_all x2).bind fun r_2 => ((F_X11_gapAt t_all x1).bind fun r_4 => (gd_ (decide (¬ r_4 = 0)) (gd_ (in_b (((60 : Int32) * x1) + (r_2 - r_2 / r_4 * r_4)) 300) ((F_X11_isSeen t_all x2 x1).bind fun r_8 => (if r_8 = (0 : Int32) then (J_X11_laysLoud_88 t_all k_24 (L_X11_laysLoud_36 t_all k_24 n_) t_loud x1 x2 (((60 : Int32) * x1) + (r_2 - r_2 / r_4 * r_4)) (t_loud (((60 : Int32) * x1) + (r_2 - r_2 / r_4 * r_4)).toNatClampNeg) (0 : Int32)) else ((F_X11_of t_all x2 (2 : Int32)).bind fun r_11 => (J_X11_laysLoud_88 t_all k_24 (L_X11_laysLoud_36 t_all k_24 n_) t_loud x1 x2 (((60 : Int32) * x1) + (r_2 - r_2 / r_4 * r_4)) (t_loud (((60 : Int32) * x1) + (r_2 - r_2 / r_4 * r_4)).toNatClampNeg) r_11))))))))
set_option maxHeartbeats 4000000 in
set_option maxRecDepth 100000 in
theorem w_X11_laysLoud_36 {p : Program} {l : Launch} {e : Env} {s : State} {m : MethodId} {args : Array Value} {below : List Frame} {meth : Method} {c : Code} {D : va_G} {K : Nat → ClassId} {A : Nat → Prop} {Q : State → Prop} (C0 : cx_ p s m args c cX11_laysLoud 3 RX11 wsX11_laysLoud D K A) {g_t : Nat → Nat} {t_raised : Int32} {t_undos : Int32} {t_reached : Int32} {t_length : Int32} {t_begin : Int32} {t_sort : Int32} {t_value : Int32} {t_word : Int64} {t_wrongAt : Int32} {t_badAt : Int32} {t_bad : Int32} {t_read : Int32} {t_pictured : Int32} {t_x : Int32} {t_all : Nat → Int32} {res : (Nat → Int32)} (HR : ∀ (pc : Nat) (H : Heap) (locs : List Loc) (ls : Array Slot), decode cX11_laysLoud pc = .ok (.return_, 1) → va_P D vwCl (w_X11_laysLoud K g_t t_raised t_undos t_reached t_length t_begin t_sort t_value t_word t_wrongAt t_badAt t_bad t_read t_pictured t_x t_all res) H → va_D A (w_X11_laysLoud K g_t t_raised t_undos t_reached t_length t_begin t_sort t_value t_word t_wrongAt t_badAt t_bad t_read t_pictured t_x t_all res) → va_S A s.heap H locs → W p l e rmX11_laysLoud s m args below meth c H locs 0 0 Q (F0 m pc ls [])) {k_24 : (Nat → Int32) → Int32 → Option ((Nat → Int32))} (HK_24 : ∀ (t_loud : Nat → Int32) (x1 : Int32) (H : Heap) (locs : List Loc) (ls : Array Slot), va_P D vwCl (w_X11_laysLoud K g_t t_raised t_undos t_reached t_length t_begin t_sort t_value t_word t_wrongAt t_badAt t_bad t_read t_pictured t_x t_all t_loud) H → va_D A (w_X11_laysLoud K g_t t_raised t_undos t_reached t_length t_begin t_sort t_value t_word t_wrongAt t_badAt t_bad t_read t_pictured t_x t_all t_loud) → va_S A s.heap H locs → lv_has ls 3 [(0, .ref (g_t 0)), (1, .int x1)] → k_24 t_loud x1 = some res → W p l e rmX11_laysLoud s m args below meth c H locs 0 0 Q (F0 m 24 ls [])) :
    ∀ (n_ : Nat) (t_loud : Nat → Int32) (x1 : Int32) (x2 : Int32) (H : Heap) (locs : List Loc) (ls : Array Slot), va_P D vwCl (w_X11_laysLoud K g_t t_raised t_undos t_reached t_length t_begin t_sort t_value t_word t_wrongAt t_badAt t_bad t_read t_pictured t_x t_all t_loud) H → va_D A (w_X11_laysLoud K g_t t_raised t_undos t_reached t_length t_begin t_sort t_value t_word t_wrongAt t_badAt t_bad t_read t_pictured t_x t_all t_loud) → va_S A s.heap H locs → lv_has ls 3 [(0, .ref (g_t 0)), (1, .int x1), (2, .int x2)] → L_X11_laysLoud_36 t_all k_24 n_ t_loud x1 x2 = some res → W p l e rmX11_laysLoud s m args below meth c H locs 0 0 Q (F0 m 36 ls []) := by
  obtain ⟨⟨hx, hb, hml, hown, hts⟩, hK, -⟩ := id C0
  intro n_
  induction n_ with
  | zero =>
    intro t_loud x1 x2 H locs ls hP hD hS hl hF
    exact no_s (show (none : Option ((Nat → Int32))) = some res from hF)
  | succ n_ ih =>
    intro t_loud x1 x2 H locs ls hP hD hS hl hF
    rw [L_X11_laysLoud_36] at hF
    refine lv_iload_n hx hb dX11_laysLoud_36 rfl (lv_at hl 2 rfl) ?_
    refine lv_aload_n hx hb dX11_laysLoud_37 rfl (lv_at hl 0 rfl) ?_
    refine va_get (D := D) (ci := 10) (v := .ref (g_t 2)) (C := RX11) (T := TX11) (N := 30) hx hb hts iw_X11_laysLoud_X11 hown hK hP 0 rfl rfl 1 (by decide) (hts _ fl_X11_laysLoud_7) (fun _ h9 => h9) rfl dX11_laysLoud_38 ?_
    refine lv_bipush (v := 13) hx hb dX11_laysLoud_41 (by decide) ?_
    refine xl_i (f := t_all) hx hb hK hP 1 0 rfl rfl (k := 13) (by decide) (in_v (by decide)) dX11_laysLoud_43 ?_
    refine lv_icmp_ge (tgt := 96) hx hb dX11_laysLoud_44 (by decide) (fun c_1 => ?_) (fun c_1 => ?_)
    · have hF := it_pos c_1 hF
      refine lv_iinc (v := (x1 + (1 : Int32))) (lv' := [(1, .int (x1 + (1 : Int32))), (0, .ref (g_t 0)), (2, .int x2)]) hx hb dX11_laysLoud_96 hl (k := 1) rfl (congrArg (fun z => x1 + z) (by decide)) (by decide) rfl (fun ls hl => ?_)
      refine lv_goto (tgt := 24) hx hb dX11_laysLoud_99 (by decide) ?_
      exact HK_24 t_loud (x1 + (1 : Int32)) H locs ls hP hD hS (lv_sub hl [1, 0] rfl) hF
    · have hF := it_neg c_1 hF
      refine lv_aload_n hx hb dX11_laysLoud_47 rfl (lv_at hl 0 rfl) ?_
      refine va_get (D := D) (ci := 10) (v := .ref (g_t 18)) (C := RX11) (T := TX11) (N := 30) hx hb hts iw_X11_laysLoud_X11 hown hK hP 0 rfl rfl 17 (by decide) (hts _ fl_X11_laysLoud_27) (fun _ h9 => h9) rfl dX11_laysLoud_48 ?_
      refine lv_bipush (v := 60) hx hb dX11_laysLoud_51 (by decide) ?_
      refine lv_iload_n hx hb dX11_laysLoud_53 rfl (lv_at hl 1 rfl) ?_
      refine lv_imul hx hb dX11_laysLoud_54 ?_
      refine lv_aload_n hx hb dX11_laysLoud_55 rfl (lv_at hl 0 rfl) ?_
      refine lv_iload_n hx hb dX11_laysLoud_56 rfl (lv_at hl 2 rfl) ?_
      obtain ⟨r_2, hc_3, hF⟩ := bn_some hF
      refine xc_i (wn := (w_X11_laysLoud K g_t t_raised t_undos t_reached t_length t_begin t_sort t_value t_word t_wrongAt t_badAt t_bad t_read t_pictured t_x t_all t_loud)) hP hD hS C0.2.2.1 [0, 1] [2] [1, 2, 0] rfl rfl (by decide) (by decide) rfl (by decide) (va_runV (As := [.int x2]) (rest := [.int ((60 : Int32) * x1), .ref (g_t 18)]) C0.1 (c_X11_rangeOf l D K g_t t_raised t_undos t_reached t_length t_begin t_sort t_value t_word t_wrongAt t_badAt t_bad t_read t_pictured t_x t_all x2 r_2 hc_3 H.size) (cwV 1 hts gX11_laysLoud_X11_rangeOf rfl rfl rfl (by decide +kernel) ⟨Nat.le_of_ble_eq_true rfl, Nat.le_of_ble_eq_true rfl⟩) (xp_V C0.2 hP hD hS [0, 1] rfl (by decide) 10 0 rfl rfl rfl) rfl rfl hl.1 rfl (lv_room (Nat.le_of_ble_eq_true rfl)) dX11_laysLoud_57 ⟨Nat.le_of_ble_eq_true rfl, Nat.le_of_ble_eq_true rfl⟩) (fun H locs hP hD hS => ?_)
      refine lv_aload_n hx hb dX11_laysLoud_60 rfl (lv_at hl 0 rfl) ?_
      refine lv_iload_n hx hb dX11_laysLoud_61 rfl (lv_at hl 1 rfl) ?_
      obtain ⟨r_4, hc_5, hF⟩ := bn_some hF
      refine xc_i (wn := (w_X11_laysLoud K g_t t_raised t_undos t_reached t_length t_begin t_sort t_value t_word t_wrongAt t_badAt t_bad t_read t_pictured t_x t_all t_loud)) hP hD hS C0.2.2.1 [0, 1] [2] [1, 2, 0] rfl rfl (by decide) (by decide) rfl (by decide) (va_runV (As := [.int x1]) (rest := [.int r_2, .int ((60 : Int32) * x1), .ref (g_t 18)]) C0.1 (c_X11_gapAt l D K g_t t_raised t_undos t_reached t_length t_begin t_sort t_value t_word t_wrongAt t_badAt t_bad t_read t_pictured t_x t_all x1 r_4 hc_5 H.size) (cwV 1 hts gX11_laysLoud_X11_gapAt rfl rfl rfl (by decide +kernel) ⟨Nat.le_of_ble_eq_true rfl, Nat.le_of_ble_eq_true rfl⟩) (xp_V C0.2 hP hD hS [0, 1] rfl (by decide) 10 0 rfl rfl rfl) rfl rfl hl.1 rfl (lv_room (Nat.le_of_ble_eq_true rfl)) dX11_laysLoud_62 ⟨Nat.le_of_ble_eq_true rfl, Nat.le_of_ble_eq_true rfl⟩) (fun H locs hP hD hS => ?_)
      obtain ⟨hg_6, hF⟩ := gd_some hF
      refine lv_irem hx hb dX11_laysLoud_65 (ne_of hg_6) ?_
      refine lv_iadd hx hb dX11_laysLoud_66 ?_
      refine lv_dup2_11 hx hb dX11_laysLoud_67 rfl rfl ?_
      obtain ⟨hg_7, hF⟩ := gd_some hF
      refine xl_i (f := t_loud) hx hb hK hP 2 0 rfl rfl rfl (in_v hg_7) dX11_laysLoud_68 ?_
      refine lv_aload_n hx hb dX11_laysLoud_69 rfl (lv_at hl 0 rfl) ?_
      refine lv_iload_n hx hb dX11_laysLoud_70 rfl (lv_at hl 2 rfl) ?_
      refine lv_iload_n hx hb dX11_laysLoud_71 rfl (lv_at hl 1 rfl) ?_
      obtain ⟨r_8, hc_9, hF⟩ := bn_some hF
      refine xc_i (wn := (w_X11_laysLoud K g_t t_raised t_undos t_reached t_length t_begin t_sort t_value t_word t_wrongAt t_badAt t_bad t_read t_pictured t_x t_all t_loud)) hP hD hS C0.2.2.1 [0, 1] [2] [1, 2, 0] rfl rfl (by decide) (by decide) rfl (by decide) (va_runV (As := [.int x2, .int x1]) (rest := [.int (t_loud (((60 : Int32) * x1) + (r_2 - r_2 / r_4 * r_4)).toNatClampNeg), .int (((60 : Int32) * x1) + (r_2 - r_2 / r_4 * r_4)), .ref (g_t 18)]) C0.1 (c_X11_isSeen l D K g_t t_raised t_undos t_reached t_length t_begin t_sort t_value t_word t_wrongAt t_badAt t_bad t_read t_pictured t_x t_all x2 x1 r_8 hc_9 H.size) (cwV 2 hts gX11_laysLoud_X11_isSeen rfl rfl rfl (by decide +kernel) ⟨Nat.le_of_ble_eq_true rfl, Nat.le_of_ble_eq_true rfl⟩) (xp_V C0.2 hP hD hS [0, 1] rfl (by decide) 10 0 rfl rfl rfl) rfl rfl hl.1 rfl (lv_room (Nat.le_of_ble_eq_true rfl)) dX11_laysLoud_72 ⟨Nat.le_of_ble_eq_true rfl, Nat.le_of_ble_eq_true rfl⟩) (fun H locs hP hD hS => ?_)
      refine lv_if_eq (tgt := 87) hx hb dX11_laysLoud_75 (by decide) (fun c_10 => ?_) (fun c_10 => ?_)
      · have hF := it_pos c_10 hF
        refine lv_iconst (v := 0) hx hb dX11_laysLoud_87 (by decide) ?_
        exact w_X11_laysLoud_88 C0 HR HK_24 ih t_loud x1 x2 (((60 : Int32) * x1) + (r_2 - r_2 / r_4 * r_4)) (t_loud (((60 : Int32) * x1) + (r_2 - r_2 / r_4 * r_4)).toNatClampNeg) (0 : Int32) H locs ls hP hD hS (lv_sub hl [0, 1, 2] rfl) hF
      · have hF := it_neg c_10 hF
        refine lv_aload_n hx hb dX11_laysLoud_78 rfl (lv_at hl 0 rfl) ?_
        refine lv_iload_n hx hb dX11_laysLoud_79 rfl (lv_at hl 2 rfl) ?_
        refine lv_iconst (v := 2) hx hb dX11_laysLoud_80 (by decide) ?_
        obtain ⟨r_11, hc_12, hF⟩ := bn_some hF
        refine xc_i (wn := (w_X11_laysLoud K g_t t_raised t_undos t_reached t_length t_begin t_sort t_value t_word t_wrongAt t_badAt t_bad t_read t_pictured t_x t_all t_loud)) hP hD hS C0.2.2.1 [0, 1] [2] [1, 2, 0] rfl rfl (by decide) (by decide) rfl (by decide) (va_runV (As := [.int x2, .int (2 : Int32)]) (rest := [.int (t_loud (((60 : Int32) * x1) + (r_2 - r_2 / r_4 * r_4)).toNatClampNeg), .int (((60 : Int32) * x1) + (r_2 - r_2 / r_4 * r_4)), .ref (g_t 18)]) C0.1 (c_X11_of l D K g_t t_raised t_undos t_reached t_length t_begin t_sort t_value t_word t_wrongAt t_badAt t_bad t_read t_pictured t_x t_all x2 (2 : Int32) r_11 hc_12 H.size) (cwV 2 hts gX11_laysLoud_X11_of rfl rfl rfl (by decide +kernel) ⟨Nat.le_of_ble_eq_true rfl, Nat.le_of_ble_eq_true rfl⟩) (xp_V C0.2 hP hD hS [0, 1] rfl (by decide) 10 0 rfl rfl rfl) rfl rfl hl.1 rfl (lv_room (Nat.le_of_ble_eq_true rfl)) dX11_laysLoud_81 ⟨Nat.le_of_ble_eq_true rfl, Nat.le_of_ble_eq_true rfl⟩) (fun H locs hP hD hS => ?_)
        refine lv_goto (tgt := 88) hx hb dX11_laysLoud_84 (by decide) ?_
        exact w_X11_laysLoud_88 C0 HR HK_24 ih t_loud x1 x2 (((60 : Int32) * x1) + (r_2 - r_2 / r_4 * r_4)) (t_loud (((60 : Int32) * x1) + (r_2 - r_2 / r_4 * r_4)).toNatClampNeg) r_11 H locs ls hP hD hS (lv_sub hl [0, 1, 2] rfl) hF
def L_X11_laysLoud_24 (t_all : Nat → Int32) : Nat → (Nat → Int32) → Int32 → Option ((Nat → Int32))
  | 0, _, _ => none
  | n_ + 1, t_loud, x1 =>
    if (t_all 0) ≤ x1 then (some t_loud) else (L_X11_laysLoud_36 t_all (L_X11_laysLoud_24 t_all n_) fu_ t_loud x1 (0 : Int32))
set_option maxHeartbeats 4000000 in
set_option maxRecDepth 100000 in
theorem w_X11_laysLoud_24 {p : Program} {l : Launch} {e : Env} {s : State} {m : MethodId} {args : Array Value} {below : List Frame} {meth : Method} {c : Code} {D : va_G} {K : Nat → ClassId} {A : Nat → Prop} {Q : State → Prop} (C0 : cx_ p s m args c cX11_laysLoud 3 RX11 wsX11_laysLoud D K A) {g_t : Nat → Nat} {t_raised : Int32} {t_undos : Int32} {t_reached : Int32} {t_length : Int32} {t_begin : Int32} {t_sort : Int32} {t_value : Int32} {t_word : Int64} {t_wrongAt : Int32} {t_badAt : Int32} {t_bad : Int32} {t_read : Int32} {t_pictured : Int32} {t_x : Int32} {t_all : Nat → Int32} {res : (Nat → Int32)} (HR : ∀ (pc : Nat) (H : Heap) (locs : List Loc) (ls : Array Slot), decode cX11_laysLoud pc = .ok (.return_, 1) → va_P D vwCl (w_X11_laysLoud K g_t t_raised t_undos t_reached t_length t_begin t_sort t_value t_word t_wrongAt t_badAt t_bad t_read t_pictured t_x t_all res) H → va_D A (w_X11_laysLoud K g_t t_raised t_undos t_reached t_length t_begin t_sort t_value t_word t_wrongAt t_badAt t_bad t_read t_pictured t_x t_all res) → va_S A s.heap H locs → W p l e rmX11_laysLoud s m args below meth c H locs 0 0 Q (F0 m pc ls []))  :
    ∀ (n_ : Nat) (t_loud : Nat → Int32) (x1 : Int32) (H : Heap) (locs : List Loc) (ls : Array Slot), va_P D vwCl (w_X11_laysLoud K g_t t_raised t_undos t_reached t_length t_begin t_sort t_value t_word t_wrongAt t_badAt t_bad t_read t_pictured t_x t_all t_loud) H → va_D A (w_X11_laysLoud K g_t t_raised t_undos t_reached t_length t_begin t_sort t_value t_word t_wrongAt t_badAt t_bad t_read t_pictured t_x t_all t_loud) → va_S A s.heap H locs → lv_has ls 3 [(0, .ref (g_t 0)), (1, .int x1)] → L_X11_laysLoud_24 t_all n_ t_loud x1 = some res → W p l e rmX11_laysLoud s m args below meth c H locs 0 0 Q (F0 m 24 ls []) := by
  obtain ⟨⟨hx, hb, hml, hown, hts⟩, hK, -⟩ := id C0
  intro n_
  induction n_ with
  | zero =>
    intro t_loud x1 H locs ls hP hD hS hl hF
    exact no_s (show (none : Option ((Nat → Int32))) = some res from hF)
  | succ n_ ih =>
    intro t_loud x1 H locs ls hP hD hS hl hF
    rw [L_X11_laysLoud_24] at hF
    refine lv_iload_n hx hb dX11_laysLoud_24 rfl (lv_at hl 1 rfl) ?_
    refine lv_aload_n hx hb dX11_laysLoud_25 rfl (lv_at hl 0 rfl) ?_
    refine va_get (D := D) (ci := 10) (v := .ref (g_t 2)) (C := RX11) (T := TX11) (N := 30) hx hb hts iw_X11_laysLoud_X11 hown hK hP 0 rfl rfl 1 (by decide) (hts _ fl_X11_laysLoud_7) (fun _ h9 => h9) rfl dX11_laysLoud_26 ?_
    refine lv_iconst (v := 0) hx hb dX11_laysLoud_29 (by decide) ?_
    refine xl_i (f := t_all) hx hb hK hP 1 0 rfl rfl (k := 0) (by decide) (in_v (by decide)) dX11_laysLoud_30 ?_
    refine lv_icmp_ge (tgt := 102) hx hb dX11_laysLoud_31 (by decide) (fun c_1 => ?_) (fun c_1 => ?_)
    · have hF := it_pos c_1 hF
      obtain rfl := Option.some.inj hF
      exact HR 102 H locs ls dX11_laysLoud_102 hP hD hS
    · have hF := it_neg c_1 hF
      refine lv_iconst (v := 0) hx hb dX11_laysLoud_34 (by decide) ?_
      refine lv_istore_n (lv' := [(2, .int (0 : Int32)), (0, .ref (g_t 0)), (1, .int x1)]) hx hb dX11_laysLoud_35 rfl hl (by decide) rfl (fun ls hl => ?_)
      exact w_X11_laysLoud_36 C0 HR ih fu_ t_loud x1 (0 : Int32) H locs ls hP hD hS (lv_sub hl [1, 2, 0] rfl) hF
def L_X11_laysLoud_2 (t_all : Nat → Int32) : Nat → (Nat → Int32) → Int32 → Option ((Nat → Int32))
  | 0, _, _ => none
  | n_ + 1, t_loud, x1 =>
    if (300 : Int32) ≤ x1 then (L_X11_laysLoud_24 t_all fu_ t_loud (0 : Int32)) else (gd_ (in_b x1 300) (L_X11_laysLoud_2 t_all n_ (upd t_loud (x1).toNatClampNeg (0 : Int32)) (x1 + (1 : Int32))))
set_option maxHeartbeats 4000000 in
set_option maxRecDepth 100000 in
theorem w_X11_laysLoud_2 {p : Program} {l : Launch} {e : Env} {s : State} {m : MethodId} {args : Array Value} {below : List Frame} {meth : Method} {c : Code} {D : va_G} {K : Nat → ClassId} {A : Nat → Prop} {Q : State → Prop} (C0 : cx_ p s m args c cX11_laysLoud 3 RX11 wsX11_laysLoud D K A) {g_t : Nat → Nat} {t_raised : Int32} {t_undos : Int32} {t_reached : Int32} {t_length : Int32} {t_begin : Int32} {t_sort : Int32} {t_value : Int32} {t_word : Int64} {t_wrongAt : Int32} {t_badAt : Int32} {t_bad : Int32} {t_read : Int32} {t_pictured : Int32} {t_x : Int32} {t_all : Nat → Int32} {res : (Nat → Int32)} (HR : ∀ (pc : Nat) (H : Heap) (locs : List Loc) (ls : Array Slot), decode cX11_laysLoud pc = .ok (.return_, 1) → va_P D vwCl (w_X11_laysLoud K g_t t_raised t_undos t_reached t_length t_begin t_sort t_value t_word t_wrongAt t_badAt t_bad t_read t_pictured t_x t_all res) H → va_D A (w_X11_laysLoud K g_t t_raised t_undos t_reached t_length t_begin t_sort t_value t_word t_wrongAt t_badAt t_bad t_read t_pictured t_x t_all res) → va_S A s.heap H locs → W p l e rmX11_laysLoud s m args below meth c H locs 0 0 Q (F0 m pc ls []))  :
    ∀ (n_ : Nat) (t_loud : Nat → Int32) (x1 : Int32) (H : Heap) (locs : List Loc) (ls : Array Slot), va_P D vwCl (w_X11_laysLoud K g_t t_raised t_undos t_reached t_length t_begin t_sort t_value t_word t_wrongAt t_badAt t_bad t_read t_pictured t_x t_all t_loud) H → va_D A (w_X11_laysLoud K g_t t_raised t_undos t_reached t_length t_begin t_sort t_value t_word t_wrongAt t_badAt t_bad t_read t_pictured t_x t_all t_loud) → va_S A s.heap H locs → lv_has ls 3 [(0, .ref (g_t 0)), (1, .int x1)] → L_X11_laysLoud_2 t_all n_ t_loud x1 = some res → W p l e rmX11_laysLoud s m args below meth c H locs 0 0 Q (F0 m 2 ls []) := by
  obtain ⟨⟨hx, hb, hml, hown, hts⟩, hK, -⟩ := id C0
  intro n_
  induction n_ with
  | zero =>
    intro t_loud x1 H locs ls hP hD hS hl hF
    exact no_s (show (none : Option ((Nat → Int32))) = some res from hF)
  | succ n_ ih =>
    intro t_loud x1 H locs ls hP hD hS hl hF
    rw [L_X11_laysLoud_2] at hF
    refine lv_iload_n hx hb dX11_laysLoud_2 rfl (lv_at hl 1 rfl) ?_
    refine lv_sipush (v := 300) hx hb dX11_laysLoud_3 (by decide) ?_
    refine lv_icmp_ge (tgt := 22) hx hb dX11_laysLoud_6 (by decide) (fun c_1 => ?_) (fun c_1 => ?_)
    · have hF := it_pos c_1 hF
      refine lv_iconst (v := 0) hx hb dX11_laysLoud_22 (by decide) ?_
      refine lv_istore_n (lv' := [(1, .int (0 : Int32)), (0, .ref (g_t 0))]) hx hb dX11_laysLoud_23 rfl hl (by decide) rfl (fun ls hl => ?_)
      exact w_X11_laysLoud_24 C0 HR fu_ t_loud (0 : Int32) H locs ls hP hD hS (lv_sub hl [1, 0] rfl) hF
    · have hF := it_neg c_1 hF
      refine lv_aload_n hx hb dX11_laysLoud_9 rfl (lv_at hl 0 rfl) ?_
      refine va_get (D := D) (ci := 10) (v := .ref (g_t 18)) (C := RX11) (T := TX11) (N := 30) hx hb hts iw_X11_laysLoud_X11 hown hK hP 0 rfl rfl 17 (by decide) (hts _ fl_X11_laysLoud_27) (fun _ h9 => h9) rfl dX11_laysLoud_10 ?_
      refine lv_iload_n hx hb dX11_laysLoud_13 rfl (lv_at hl 1 rfl) ?_
      refine lv_iconst (v := 0) hx hb dX11_laysLoud_14 (by decide) ?_
      obtain ⟨hg_2, hF⟩ := gd_some hF
      refine xs_i (f := t_loud) hx hb hK hP hD hS 2 0 rfl rfl rfl (in_v hg_2) dX11_laysLoud_15 (fun H locs hP hD hS => ?_)
      have hP : va_P D vwCl (w_X11_laysLoud K g_t t_raised t_undos t_reached t_length t_begin t_sort t_value t_word t_wrongAt t_badAt t_bad t_read t_pictured t_x t_all (upd t_loud (x1).toNatClampNeg (0 : Int32))) H := hP
      have hD : va_D A (w_X11_laysLoud K g_t t_raised t_undos t_reached t_length t_begin t_sort t_value t_word t_wrongAt t_badAt t_bad t_read t_pictured t_x t_all (upd t_loud (x1).toNatClampNeg (0 : Int32))) := hD
      refine lv_iinc (v := (x1 + (1 : Int32))) (lv' := [(1, .int (x1 + (1 : Int32))), (0, .ref (g_t 0))]) hx hb dX11_laysLoud_16 hl (k := 1) rfl (congrArg (fun z => x1 + z) (by decide)) (by decide) rfl (fun ls hl => ?_)
      refine lv_goto (tgt := 2) hx hb dX11_laysLoud_19 (by decide) ?_
      exact ih (upd t_loud (x1).toNatClampNeg (0 : Int32)) (x1 + (1 : Int32)) H locs ls hP hD hS (lv_sub hl [1, 0] rfl) hF
def F_X11_laysLoud (t_all : Nat → Int32) (t_loud : Nat → Int32) : Option ((Nat → Int32)) :=
  L_X11_laysLoud_2 t_all fu_ t_loud (0 : Int32)
set_option maxHeartbeats 4000000 in
set_option maxRecDepth 100000 in
theorem c_X11_laysLoud (l : Launch) (D : va_G) (K : Nat → ClassId) (g_t : Nat → Nat) (t_raised : Int32) (t_undos : Int32) (t_reached : Int32) (t_length : Int32) (t_begin : Int32) (t_sort : Int32) (t_value : Int32) (t_word : Int64) (t_wrongAt : Int32) (t_badAt : Int32) (t_bad : Int32) (t_read : Int32) (t_pictured : Int32) (t_x : Int32) (t_all : Nat → Int32) (t_loud : Nat → Int32) (res : (Nat → Int32)) (hF : F_X11_laysLoud t_all t_loud = some res) :
    Mv_ l yX11_laysLoud wsX11_laysLoud rmX11_laysLoud D K [.ref (g_t 0)] (w_X11_laysLoud K g_t t_raised t_undos t_reached t_length t_begin t_sort t_value t_word t_wrongAt t_badAt t_bad t_read t_pictured t_x t_all t_loud) (w_X11_laysLoud K g_t t_raised t_undos t_reached t_length t_begin t_sort t_value t_word t_wrongAt t_badAt t_bad t_read t_pictured t_x t_all res) := by
  refine en_v (cc := cX11_laysLoud) (maxL := 3) (own := RX11) (by decide) rfl rfl (Nat.le_of_ble_eq_true rfl) ?_
  intro p e s m args below meth c A Q H locs ls C0 hP hD hS hl HR
  obtain ⟨⟨hx, hb, hml, hown, hts⟩, hK, -⟩ := id C0
  have hl : lv_has ls 3 [(0, .ref (g_t 0))] := hl
  unfold F_X11_laysLoud at hF
  refine lv_iconst (v := 0) hx hb dX11_laysLoud_0 (by decide) ?_
  refine lv_istore_n (lv' := [(1, .int (0 : Int32)), (0, .ref (g_t 0))]) hx hb dX11_laysLoud_1 rfl hl (by decide) rfl (fun ls hl => ?_)
  exact w_X11_laysLoud_2 C0 HR fu_ t_loud (0 : Int32) H locs ls hP hD hS (lv_sub hl [1, 0] rfl) hF

/-! StaggerRadarModel.freeHits(I)I -/
abbrev rmX11_freeHits : Room := { frames := 1, cells := 0, slots := 0, locals := 21 }
theorem fl_X11_freeHits_7 : Cond.fieldLink RX11 7 "StaggerRadarModel" "all" "[I" ∈ wsX11_freeHits := by decide +kernel
theorem fl_X11_freeHits_36 : Cond.fieldLink RX11 36 "StaggerRadarModel" "free" "[Z" ∈ wsX11_freeHits := by decide +kernel
theorem iw_X11_freeHits_X11 : ∀ w ∈ u_ws RX11 TX11 30, w ∈ wsX11_freeHits := by decide +kernel
abbrev w_X11_freeHits (K : Nat → ClassId) (g_t : Nat → Nat) (t_raised : Int32) (t_undos : Int32) (t_reached : Int32) (t_length : Int32) (t_begin : Int32) (t_sort : Int32) (t_value : Int32) (t_word : Int64) (t_wrongAt : Int32) (t_badAt : Int32) (t_bad : Int32) (t_read : Int32) (t_pictured : Int32) (t_x : Int32) (t_all : Nat → Int32) (t_free : Nat → Int32) : va_W := [((g_t 0), .inr (10, [.int t_raised, .ref (g_t 2), .ref (g_t 3), .ref (g_t 4), .ref (g_t 5), .int t_undos, .int t_reached, .int t_length, .int t_begin, .int t_sort, .int t_value, .long t_word, .int t_wrongAt, .int t_badAt, .int t_bad, .ref (g_t 16), .int t_read, .ref (g_t 18), .ref (g_t 19), .ref (g_t 20), .int t_pictured, .ref (g_t 22), .ref (g_t 23), .ref (g_t 24), .ref (g_t 25), .ref (g_t 26), .int t_x, .ref (g_t 28), .ref (g_t 29), .ref (g_t 30)])), ((g_t 2), .inl (K 0, 500, .inl t_all)), ((g_t 22), .inl (K 2, 300, .inl t_free))]
def L_X11_freeHits_4 (t_all : Nat → Int32) (t_free : Nat → Int32) : Nat → Int32 → Int32 → Int32 → Option (Int32)
  | 0, _, _, _ => none
  | n_ + 1, x1, x2, x3 =>
    if (t_all 0) ≤ x3 then (some x2) else ((F_X11_gapAt t_all x3).bind fun r_2 => (gd_ (decide (¬ r_2 = 0)) (gd_ (in_b (((60 : Int32) * x3) + (x1 - x1 / r_2 * r_2)) 300) (if (t_free (((60 : Int32) * x3) + (x1 - x1 / r_2 * r_2)).toNatClampNeg) = (0 : Int32) then (L_X11_freeHits_4 t_all t_free n_ x1 (x2 + (0 : Int32)) (x3 + (1 : Int32))) else (L_X11_freeHits_4 t_all t_free n_ x1 (x2 + (1 : Int32)) (x3 + (1 : Int32)))))))
set_option maxHeartbeats 4000000 in
set_option maxRecDepth 100000 in
theorem w_X11_freeHits_4 {p : Program} {l : Launch} {e : Env} {s : State} {m : MethodId} {args : Array Value} {below : List Frame} {meth : Method} {c : Code} {D : va_G} {K : Nat → ClassId} {A : Nat → Prop} {Q : State → Prop} (C0 : cx_ p s m args c cX11_freeHits 4 RX11 wsX11_freeHits D K A) {g_t : Nat → Nat} {t_raised : Int32} {t_undos : Int32} {t_reached : Int32} {t_length : Int32} {t_begin : Int32} {t_sort : Int32} {t_value : Int32} {t_word : Int64} {t_wrongAt : Int32} {t_badAt : Int32} {t_bad : Int32} {t_read : Int32} {t_pictured : Int32} {t_x : Int32} {t_all : Nat → Int32} {t_free : Nat → Int32} {res : Int32} (HR : ∀ (pc : Nat) (H : Heap) (locs : List Loc) (ls : Array Slot), decode cX11_freeHits pc = .ok (.ireturn, 1) → va_P D vwCl (w_X11_freeHits K g_t t_raised t_undos t_reached t_length t_begin t_sort t_value t_word t_wrongAt t_badAt t_bad t_read t_pictured t_x t_all t_free) H → va_D A (w_X11_freeHits K g_t t_raised t_undos t_reached t_length t_begin t_sort t_value t_word t_wrongAt t_badAt t_bad t_read t_pictured t_x t_all t_free) → va_S A s.heap H locs → W p l e rmX11_freeHits s m args below meth c H locs 0 0 Q (F0 m pc ls [.int res]))  :
    ∀ (n_ : Nat) (x1 : Int32) (x2 : Int32) (x3 : Int32) (H : Heap) (locs : List Loc) (ls : Array Slot), va_P D vwCl (w_X11_freeHits K g_t t_raised t_undos t_reached t_length t_begin t_sort t_value t_word t_wrongAt t_badAt t_bad t_read t_pictured t_x t_all t_free) H → va_D A (w_X11_freeHits K g_t t_raised t_undos t_reached t_length t_begin t_sort t_value t_word t_wrongAt t_badAt t_bad t_read t_pictured t_x t_all t_free) → va_S A s.heap H locs → lv_has ls 4 [(0, .ref (g_t 0)), (1, .int x1), (2, .int x2), (3, .int x3)] → L_X11_freeHits_4 t_all t_free n_ x1 x2 x3 = some res → W p l e rmX11_freeHits s m args below meth c H locs 0 0 Q (F0 m 4 ls []) := by
  obtain ⟨⟨hx, hb, hml, hown, hts⟩, hK, -⟩ := id C0
  intro n_
  induction n_ with
  | zero =>
    intro x1 x2 x3 H locs ls hP hD hS hl hF
    exact no_s (show (none : Option (Int32)) = some res from hF)
  | succ n_ ih =>
    intro x1 x2 x3 H locs ls hP hD hS hl hF
    rw [L_X11_freeHits_4] at hF
    refine lv_iload_n hx hb dX11_freeHits_4 rfl (lv_at hl 3 rfl) ?_
    refine lv_aload_n hx hb dX11_freeHits_5 rfl (lv_at hl 0 rfl) ?_
    refine va_get (D := D) (ci := 10) (v := .ref (g_t 2)) (C := RX11) (T := TX11) (N := 30) hx hb hts iw_X11_freeHits_X11 hown hK hP 0 rfl rfl 1 (by decide) (hts _ fl_X11_freeHits_7) (fun _ h9 => h9) rfl dX11_freeHits_6 ?_
    refine lv_iconst (v := 0) hx hb dX11_freeHits_9 (by decide) ?_
    refine xl_i (f := t_all) hx hb hK hP 1 0 rfl rfl (k := 0) (by decide) (in_v (by decide)) dX11_freeHits_10 ?_
    refine lv_icmp_ge (tgt := 48) hx hb dX11_freeHits_11 (by decide) (fun c_1 => ?_) (fun c_1 => ?_)
    · have hF := it_pos c_1 hF
      refine lv_iload_n hx hb dX11_freeHits_48 rfl (lv_at hl 2 rfl) ?_
      obtain rfl := Option.some.inj hF
      exact HR 49 H locs ls dX11_freeHits_49 hP hD hS
    · have hF := it_neg c_1 hF
      refine lv_iload_n hx hb dX11_freeHits_14 rfl (lv_at hl 2 rfl) ?_
      refine lv_aload_n hx hb dX11_freeHits_15 rfl (lv_at hl 0 rfl) ?_
      refine va_get (D := D) (ci := 10) (v := .ref (g_t 22)) (C := RX11) (T := TX11) (N := 30) hx hb hts iw_X11_freeHits_X11 hown hK hP 0 rfl rfl 21 (by decide) (hts _ fl_X11_freeHits_36) (fun _ h9 => h9) rfl dX11_freeHits_16 ?_
      refine lv_bipush (v := 60) hx hb dX11_freeHits_19 (by decide) ?_
      refine lv_iload_n hx hb dX11_freeHits_21 rfl (lv_at hl 3 rfl) ?_
      refine lv_imul hx hb dX11_freeHits_22 ?_
      refine lv_iload_n hx hb dX11_freeHits_23 rfl (lv_at hl 1 rfl) ?_
      refine lv_aload_n hx hb dX11_freeHits_24 rfl (lv_at hl 0 rfl) ?_
      refine lv_iload_n hx hb dX11_freeHits_25 rfl (lv_at hl 3 rfl) ?_
      obtain ⟨r_2, hc_3, hF⟩ := bn_some hF
      refine xc_i (wn := (w_X11_freeHits K g_t t_raised t_undos t_reached t_length t_begin t_sort t_value t_word t_wrongAt t_badAt t_bad t_read t_pictured t_x t_all t_free)) hP hD hS C0.2.2.1 [0, 1] [2] [1, 2, 0] rfl rfl (by decide) (by decide) rfl (by decide) (va_runV (As := [.int x3]) (rest := [.int x1, .int ((60 : Int32) * x3), .ref (g_t 22), .int x2]) C0.1 (c_X11_gapAt l D K g_t t_raised t_undos t_reached t_length t_begin t_sort t_value t_word t_wrongAt t_badAt t_bad t_read t_pictured t_x t_all x3 r_2 hc_3 H.size) (cwV 1 hts gX11_freeHits_X11_gapAt rfl rfl rfl (by decide +kernel) ⟨Nat.le_of_ble_eq_true rfl, Nat.le_of_ble_eq_true rfl⟩) (xp_V C0.2 hP hD hS [0, 1] rfl (by decide) 10 0 rfl rfl rfl) rfl rfl hl.1 rfl (lv_room (Nat.le_of_ble_eq_true rfl)) dX11_freeHits_26 ⟨Nat.le_of_ble_eq_true rfl, Nat.le_of_ble_eq_true rfl⟩) (fun H locs hP hD hS => ?_)
      obtain ⟨hg_4, hF⟩ := gd_some hF
      refine lv_irem hx hb dX11_freeHits_29 (ne_of hg_4) ?_
      refine lv_iadd hx hb dX11_freeHits_30 ?_
      obtain ⟨hg_5, hF⟩ := gd_some hF
      refine xl_z (f := t_free) hx hb hK hP 2 2 rfl rfl rfl (in_v hg_5) dX11_freeHits_31 ?_
      refine lv_if_eq (tgt := 39) hx hb dX11_freeHits_32 (by decide) (fun c_6 => ?_) (fun c_6 => ?_)
      · have hF := it_pos c_6 hF
        refine lv_iconst (v := 0) hx hb dX11_freeHits_39 (by decide) ?_
        refine lv_iadd hx hb dX11_freeHits_40 ?_
        refine lv_istore_n (lv' := [(2, .int (x2 + (0 : Int32))), (0, .ref (g_t 0)), (1, .int x1), (3, .int x3)]) hx hb dX11_freeHits_41 rfl hl (by decide) rfl (fun ls hl => ?_)
        refine lv_iinc (v := (x3 + (1 : Int32))) (lv' := [(3, .int (x3 + (1 : Int32))), (2, .int (x2 + (0 : Int32))), (0, .ref (g_t 0)), (1, .int x1)]) hx hb dX11_freeHits_42 hl (k := 3) rfl (congrArg (fun z => x3 + z) (by decide)) (by decide) rfl (fun ls hl => ?_)
        refine lv_goto (tgt := 4) hx hb dX11_freeHits_45 (by decide) ?_
        exact ih x1 (x2 + (0 : Int32)) (x3 + (1 : Int32)) H locs ls hP hD hS (lv_sub hl [2, 3, 1, 0] rfl) hF
      · have hF := it_neg c_6 hF
        refine lv_iconst (v := 1) hx hb dX11_freeHits_35 (by decide) ?_
        refine lv_goto (tgt := 40) hx hb dX11_freeHits_36 (by decide) ?_
        refine lv_iadd hx hb dX11_freeHits_40 ?_
        refine lv_istore_n (lv' := [(2, .int (x2 + (1 : Int32))), (0, .ref (g_t 0)), (1, .int x1), (3, .int x3)]) hx hb dX11_freeHits_41 rfl hl (by decide) rfl (fun ls hl => ?_)
        refine lv_iinc (v := (x3 + (1 : Int32))) (lv' := [(3, .int (x3 + (1 : Int32))), (2, .int (x2 + (1 : Int32))), (0, .ref (g_t 0)), (1, .int x1)]) hx hb dX11_freeHits_42 hl (k := 3) rfl (congrArg (fun z => x3 + z) (by decide)) (by decide) rfl (fun ls hl => ?_)
        refine lv_goto (tgt := 4) hx hb dX11_freeHits_45 (by decide) ?_
        exact ih x1 (x2 + (1 : Int32)) (x3 + (1 : Int32)) H locs ls hP hD hS (lv_sub hl [2, 3, 1, 0] rfl) hF
def F_X11_freeHits (t_all : Nat → Int32) (t_free : Nat → Int32) (x1 : Int32) : Option (Int32) :=
  L_X11_freeHits_4 t_all t_free fu_ x1 (0 : Int32) (0 : Int32)
set_option maxHeartbeats 4000000 in
set_option maxRecDepth 100000 in
theorem c_X11_freeHits (l : Launch) (D : va_G) (K : Nat → ClassId) (g_t : Nat → Nat) (t_raised : Int32) (t_undos : Int32) (t_reached : Int32) (t_length : Int32) (t_begin : Int32) (t_sort : Int32) (t_value : Int32) (t_word : Int64) (t_wrongAt : Int32) (t_badAt : Int32) (t_bad : Int32) (t_read : Int32) (t_pictured : Int32) (t_x : Int32) (t_all : Nat → Int32) (t_free : Nat → Int32) (x1 : Int32) (res : Int32) (hF : F_X11_freeHits t_all t_free x1 = some res) :
    Mi_ l yX11_freeHits wsX11_freeHits rmX11_freeHits D K [.ref (g_t 0), .int x1] (w_X11_freeHits K g_t t_raised t_undos t_reached t_length t_begin t_sort t_value t_word t_wrongAt t_badAt t_bad t_read t_pictured t_x t_all t_free) (w_X11_freeHits K g_t t_raised t_undos t_reached t_length t_begin t_sort t_value t_word t_wrongAt t_badAt t_bad t_read t_pictured t_x t_all t_free) (res) := by
  refine en_i (cc := cX11_freeHits) (maxL := 4) (own := RX11) (by decide) rfl rfl (Nat.le_of_ble_eq_true rfl) ?_
  intro p e s m args below meth c A Q H locs ls C0 hP hD hS hl HR
  obtain ⟨⟨hx, hb, hml, hown, hts⟩, hK, -⟩ := id C0
  have hl : lv_has ls 4 [(0, .ref (g_t 0)), (1, .int x1)] := hl
  unfold F_X11_freeHits at hF
  refine lv_iconst (v := 0) hx hb dX11_freeHits_0 (by decide) ?_
  refine lv_istore_n (lv' := [(2, .int (0 : Int32)), (0, .ref (g_t 0)), (1, .int x1)]) hx hb dX11_freeHits_1 rfl hl (by decide) rfl (fun ls hl => ?_)
  refine lv_iconst (v := 0) hx hb dX11_freeHits_2 (by decide) ?_
  refine lv_istore_n (lv' := [(3, .int (0 : Int32)), (2, .int (0 : Int32)), (0, .ref (g_t 0)), (1, .int x1)]) hx hb dX11_freeHits_3 rfl hl (by decide) rfl (fun ls hl => ?_)
  exact w_X11_freeHits_4 C0 HR fu_ x1 (0 : Int32) (0 : Int32) H locs ls hP hD hS (lv_sub hl [2, 3, 1, 0] rfl) hF

/-! StaggerRadarModel.laysPicture()V -/
abbrev rmX11_laysPicture : Room := { frames := 4, cells := 0, slots := 0, locals := 89 }
theorem fl_X11_laysPicture_7 : Cond.fieldLink RX11 7 "StaggerRadarModel" "all" "[I" ∈ wsX11_laysPicture := by decide +kernel
theorem fl_X11_laysPicture_27 : Cond.fieldLink RX11 27 "StaggerRadarModel" "loud" "[I" ∈ wsX11_laysPicture := by decide +kernel
theorem fl_X11_laysPicture_30 : Cond.fieldLink RX11 30 "StaggerRadarModel" "picture" "[I" ∈ wsX11_laysPicture := by decide +kernel
theorem fl_X11_laysPicture_33 : Cond.fieldLink RX11 33 "StaggerRadarModel" "took" "[I" ∈ wsX11_laysPicture := by decide +kernel
theorem fl_X11_laysPicture_36 : Cond.fieldLink RX11 36 "StaggerRadarModel" "free" "[Z" ∈ wsX11_laysPicture := by decide +kernel
theorem fl_X11_laysPicture_206 : Cond.fieldLink RX11 206 "StaggerRadarModel" "pictured" "I" ∈ wsX11_laysPicture := by decide +kernel
theorem iw_X11_laysPicture_X11 : ∀ w ∈ u_ws RX11 TX11 30, w ∈ wsX11_laysPicture := by decide +kernel
abbrev w_X11_laysPicture (K : Nat → ClassId) (g_t : Nat → Nat) (t_raised : Int32) (t_undos : Int32) (t_reached : Int32) (t_length : Int32) (t_begin : Int32) (t_sort : Int32) (t_value : Int32) (t_word : Int64) (t_wrongAt : Int32) (t_badAt : Int32) (t_bad : Int32) (t_read : Int32) (t_pictured : Int32) (t_x : Int32) (t_all : Nat → Int32) (t_loud : Nat → Int32) (t_picture : Nat → Int32) (t_took : Nat → Int32) (t_free : Nat → Int32) : va_W := [((g_t 0), .inr (10, [.int t_raised, .ref (g_t 2), .ref (g_t 3), .ref (g_t 4), .ref (g_t 5), .int t_undos, .int t_reached, .int t_length, .int t_begin, .int t_sort, .int t_value, .long t_word, .int t_wrongAt, .int t_badAt, .int t_bad, .ref (g_t 16), .int t_read, .ref (g_t 18), .ref (g_t 19), .ref (g_t 20), .int t_pictured, .ref (g_t 22), .ref (g_t 23), .ref (g_t 24), .ref (g_t 25), .ref (g_t 26), .int t_x, .ref (g_t 28), .ref (g_t 29), .ref (g_t 30)])), ((g_t 2), .inl (K 0, 500, .inl t_all)), ((g_t 18), .inl (K 0, 300, .inl t_loud)), ((g_t 19), .inl (K 0, 300, .inl t_picture)), ((g_t 20), .inl (K 0, 300, .inl t_took)), ((g_t 22), .inl (K 2, 300, .inl t_free))]
def L_X11_laysPicture_155 (t_all : Nat → Int32) (k_53 : Int32 → (Nat → Int32) → (Nat → Int32) → (Nat → Int32) → (Nat → Int32) → Int32 → Option (Int32 × (Nat → Int32) × (Nat → Int32) × (Nat → Int32) × (Nat → Int32))) : Nat → Int32 → (Nat → Int32) → (Nat → Int32) → (Nat → Int32) → (Nat → Int32) → Int32 → Int32 → Option (Int32 × (Nat → Int32) × (Nat → Int32) × (Nat → Int32) × (Nat → Int32))
  | 0, _, _, _, _, _, _, _ => none
  | n_ + 1, t_pictured, t_loud, t_picture, t_took, t_free, x1, x2 =>
    if (t_all 0) ≤ x2 then (k_53 t_pictured t_loud t_picture t_took t_free x1) else ((F_X11_gapAt t_all x2).bind fun r_2 => (gd_ (decide (¬ r_2 = 0)) (gd_ (in_b (((60 : Int32) * x2) + (x1 - x1 / r_2 * r_2)) 300) (L_X11_laysPicture_155 t_all k_53 n_ t_pictured t_loud t_picture t_took (upd t_free (((60 : Int32) * x2) + (x1 - x1 / r_2 * r_2)).toNatClampNeg (vp_nar .boolean (0 : Int32))) x1 (x2 + (1 : Int32))))))
set_option maxHeartbeats 4000000 in
set_option maxRecDepth 100000 in
theorem w_X11_laysPicture_155 {p : Program} {l : Launch} {e : Env} {s : State} {m : MethodId} {args : Array Value} {below : List Frame} {meth : Method} {c : Code} {D : va_G} {K : Nat → ClassId} {A : Nat → Prop} {Q : State → Prop} (C0 : cx_ p s m args c cX11_laysPicture 3 RX11 wsX11_laysPicture D K A) {g_t : Nat → Nat} {t_raised : Int32} {t_undos : Int32} {t_reached : Int32} {t_length : Int32} {t_begin : Int32} {t_sort : Int32} {t_value : Int32} {t_word : Int64} {t_wrongAt : Int32} {t_badAt : Int32} {t_bad : Int32} {t_read : Int32} {t_x : Int32} {t_all : Nat → Int32} {res : Int32 × (Nat → Int32) × (Nat → Int32) × (Nat → Int32) × (Nat → Int32)} (HR : ∀ (pc : Nat) (H : Heap) (locs : List Loc) (ls : Array Slot), decode cX11_laysPicture pc = .ok (.return_, 1) → va_P D vwCl (w_X11_laysPicture K g_t t_raised t_undos t_reached t_length t_begin t_sort t_value t_word t_wrongAt t_badAt t_bad t_read res.1 t_x t_all res.2.1 res.2.2.1 res.2.2.2.1 res.2.2.2.2) H → va_D A (w_X11_laysPicture K g_t t_raised t_undos t_reached t_length t_begin t_sort t_value t_word t_wrongAt t_badAt t_bad t_read res.1 t_x t_all res.2.1 res.2.2.1 res.2.2.2.1 res.2.2.2.2) → va_S A s.heap H locs → W p l e rmX11_laysPicture s m args below meth c H locs 0 0 Q (F0 m pc ls [])) {k_53 : Int32 → (Nat → Int32) → (Nat → Int32) → (Nat → Int32) → (Nat → Int32) → Int32 → Option (Int32 × (Nat → Int32) × (Nat → Int32) × (Nat → Int32) × (Nat → Int32))} (HK_53 : ∀ (t_pictured : Int32) (t_loud : Nat → Int32) (t_picture : Nat → Int32) (t_took : Nat → Int32) (t_free : Nat → Int32) (x1 : Int32) (H : Heap) (locs : List Loc) (ls : Array Slot), va_P D vwCl (w_X11_laysPicture K g_t t_raised t_undos t_reached t_length t_begin t_sort t_value t_word t_wrongAt t_badAt t_bad t_read t_pictured t_x t_all t_loud t_picture t_took t_free) H → va_D A (w_X11_laysPicture K g_t t_raised t_undos t_reached t_length t_begin t_sort t_value t_word t_wrongAt t_badAt t_bad t_read t_pictured t_x t_all t_loud t_picture t_took t_free) → va_S A s.heap H locs → lv_has ls 3 [(0, .ref (g_t 0)), (1, .int x1)] → k_53 t_pictured t_loud t_picture t_took t_free x1 = some res → W p l e rmX11_laysPicture s m args below meth c H locs 0 0 Q (F0 m 53 ls [])) :
    ∀ (n_ : Nat) (t_pictured : Int32) (t_loud : Nat → Int32) (t_picture : Nat → Int32) (t_took : Nat → Int32) (t_free : Nat → Int32) (x1 : Int32) (x2 : Int32) (H : Heap) (locs : List Loc) (ls : Array Slot), va_P D vwCl (w_X11_laysPicture K g_t t_raised t_undos t_reached t_length t_begin t_sort t_value t_word t_wrongAt t_badAt t_bad t_read t_pictured t_x t_all t_loud t_picture t_took t_free) H → va_D A (w_X11_laysPicture K g_t t_raised t_undos t_reached t_length t_begin t_sort t_value t_word t_wrongAt t_badAt t_bad t_read t_pictured t_x t_all t_loud t_picture t_took t_free) → va_S A s.heap H locs → lv_has ls 3 [(0, .ref (g_t 0)), (1, .int x1), (2, .int x2)] → L_X11_laysPicture_155 t_all k_53 n_ t_pictured t_loud t_picture t_took t_free x1 x2 = some res → W p l e rmX11_laysPicture s m args below meth c H locs 0 0 Q (F0 m 155 ls []) := by
  obtain ⟨⟨hx, hb, hml, hown, hts⟩, hK, -⟩ := id C0
  intro n_
  induction n_ with
  | zero =>
    intro t_pictured t_loud t_picture t_took t_free x1 x2 H locs ls hP hD hS hl hF
    exact no_s (show (none : Option (Int32 × (Nat → Int32) × (Nat → Int32) × (Nat → Int32) × (Nat → Int32))) = some res from hF)
  | succ n_ ih =>
    intro t_pictured t_loud t_picture t_took t_free x1 x2 H locs ls hP hD hS hl hF
    rw [L_X11_laysPicture_155] at hF
    refine lv_iload_n hx hb dX11_laysPicture_155 rfl (lv_at hl 2 rfl) ?_
    refine lv_aload_n hx hb dX11_laysPicture_156 rfl (lv_at hl 0 rfl) ?_
    refine va_get (D := D) (ci := 10) (v := .ref (g_t 2)) (C := RX11) (T := TX11) (N := 30) hx hb hts iw_X11_laysPicture_X11 hown hK hP 0 rfl rfl 1 (by decide) (hts _ fl_X11_laysPicture_7) (fun _ h9 => h9) rfl dX11_laysPicture_157 ?_
    refine lv_iconst (v := 0) hx hb dX11_laysPicture_160 (by decide) ?_
    refine xl_i (f := t_all) hx hb hK hP 1 0 rfl rfl (k := 0) (by decide) (in_v (by decide)) dX11_laysPicture_161 ?_
    refine lv_icmp_ge (tgt := 189) hx hb dX11_laysPicture_162 (by decide) (fun c_1 => ?_) (fun c_1 => ?_)
    · have hF := it_pos c_1 hF
      refine lv_goto (tgt := 53) hx hb dX11_laysPicture_189 (by decide) ?_
      exact HK_53 t_pictured t_loud t_picture t_took t_free x1 H locs ls hP hD hS (lv_sub hl [0, 1] rfl) hF
    · have hF := it_neg c_1 hF
      refine lv_aload_n hx hb dX11_laysPicture_165 rfl (lv_at hl 0 rfl) ?_
      refine va_get (D := D) (ci := 10) (v := .ref (g_t 22)) (C := RX11) (T := TX11) (N := 30) hx hb hts iw_X11_laysPicture_X11 hown hK hP 0 rfl rfl 21 (by decide) (hts _ fl_X11_laysPicture_36) (fun _ h9 => h9) rfl dX11_laysPicture_166 ?_
      refine lv_bipush (v := 60) hx hb dX11_laysPicture_169 (by decide) ?_
      refine lv_iload_n hx hb dX11_laysPicture_171 rfl (lv_at hl 2 rfl) ?_
      refine lv_imul hx hb dX11_laysPicture_172 ?_
      refine lv_iload_n hx hb dX11_laysPicture_173 rfl (lv_at hl 1 rfl) ?_
      refine lv_aload_n hx hb dX11_laysPicture_174 rfl (lv_at hl 0 rfl) ?_
      refine lv_iload_n hx hb dX11_laysPicture_175 rfl (lv_at hl 2 rfl) ?_
      obtain ⟨r_2, hc_3, hF⟩ := bn_some hF
      refine xc_i (wn := (w_X11_laysPicture K g_t t_raised t_undos t_reached t_length t_begin t_sort t_value t_word t_wrongAt t_badAt t_bad t_read t_pictured t_x t_all t_loud t_picture t_took t_free)) hP hD hS C0.2.2.1 [0, 1] [2, 3, 4, 5] [4, 5, 0, 1, 2, 3] rfl rfl (by decide) (by decide) rfl (by decide) (va_runV (As := [.int x2]) (rest := [.int x1, .int ((60 : Int32) * x2), .ref (g_t 22)]) C0.1 (c_X11_gapAt l D K g_t t_raised t_undos t_reached t_length t_begin t_sort t_value t_word t_wrongAt t_badAt t_bad t_read t_pictured t_x t_all x2 r_2 hc_3 H.size) (cwV 1 hts gX11_laysPicture_X11_gapAt rfl rfl rfl (by decide +kernel) ⟨Nat.le_of_ble_eq_true rfl, Nat.le_of_ble_eq_true rfl⟩) (xp_V C0.2 hP hD hS [0, 1] rfl (by decide) 10 0 rfl rfl rfl) rfl rfl hl.1 rfl (lv_room (Nat.le_of_ble_eq_true rfl)) dX11_laysPicture_176 ⟨Nat.le_of_ble_eq_true rfl, Nat.le_of_ble_eq_true rfl⟩) (fun H locs hP hD hS => ?_)
      obtain ⟨hg_4, hF⟩ := gd_some hF
      refine lv_irem hx hb dX11_laysPicture_179 (ne_of hg_4) ?_
      refine lv_iadd hx hb dX11_laysPicture_180 ?_
      refine lv_iconst (v := 0) hx hb dX11_laysPicture_181 (by decide) ?_
      obtain ⟨hg_5, hF⟩ := gd_some hF
      refine xs_z (f := t_free) hx hb hK hP hD hS 5 2 rfl rfl rfl (in_v hg_5) dX11_laysPicture_182 (fun H locs hP hD hS => ?_)
      have hP : va_P D vwCl (w_X11_laysPicture K g_t t_raised t_undos t_reached t_length t_begin t_sort t_value t_word t_wrongAt t_badAt t_bad t_read t_pictured t_x t_all t_loud t_picture t_took (upd t_free (((60 : Int32) * x2) + (x1 - x1 / r_2 * r_2)).toNatClampNeg (vp_nar .boolean (0 : Int32)))) H := hP
      have hD : va_D A (w_X11_laysPicture K g_t t_raised t_undos t_reached t_length t_begin t_sort t_value t_word t_wrongAt t_badAt t_bad t_read t_pictured t_x t_all t_loud t_picture t_took (upd t_free (((60 : Int32) * x2) + (x1 - x1 / r_2 * r_2)).toNatClampNeg (vp_nar .boolean (0 : Int32)))) := hD
      refine lv_iinc (v := (x2 + (1 : Int32))) (lv' := [(2, .int (x2 + (1 : Int32))), (0, .ref (g_t 0)), (1, .int x1)]) hx hb dX11_laysPicture_183 hl (k := 2) rfl (congrArg (fun z => x2 + z) (by decide)) (by decide) rfl (fun ls hl => ?_)
      refine lv_goto (tgt := 155) hx hb dX11_laysPicture_186 (by decide) ?_
      exact ih t_pictured t_loud t_picture t_took (upd t_free (((60 : Int32) * x2) + (x1 - x1 / r_2 * r_2)).toNatClampNeg (vp_nar .boolean (0 : Int32))) x1 (x2 + (1 : Int32)) H locs ls hP hD hS (lv_sub hl [1, 2, 0] rfl) hF
def J_X11_laysPicture_114 (t_all : Nat → Int32) (k_53 : Int32 → (Nat → Int32) → (Nat → Int32) → (Nat → Int32) → (Nat → Int32) → Int32 → Option (Int32 × (Nat → Int32) × (Nat → Int32) × (Nat → Int32) × (Nat → Int32))) (t_pictured : Int32) (t_loud : Nat → Int32) (t_picture : Nat → Int32) (t_took : Nat → Int32) (t_free : Nat → Int32) (x1 : Int32) : Option (Int32 × (Nat → Int32) × (Nat → Int32) × (Nat → Int32) × (Nat → Int32)) :=
  if x1 = (-1 : Int32) then (k_53 t_pictured t_loud t_picture t_took t_free x1) else (gd_ (in_b t_pictured 300) ((F_X11_freeHits t_all t_free x1).bind fun r_3 => (gd_ (in_b t_pictured 300) (L_X11_laysPicture_155 t_all k_53 fu_ (t_pictured + (1 : Int32)) t_loud (upd t_picture (t_pictured).toNatClampNeg x1) (upd t_took (t_pictured).toNatClampNeg r_3) t_free x1 (0 : Int32)))))
set_option maxHeartbeats 4000000 in
set_option maxRecDepth 100000 in
theorem w_X11_laysPicture_114 {p : Program} {l : Launch} {e : Env} {s : State} {m : MethodId} {args : Array Value} {below : List Frame} {meth : Method} {c : Code} {D : va_G} {K : Nat → ClassId} {A : Nat → Prop} {Q : State → Prop} (C0 : cx_ p s m args c cX11_laysPicture 3 RX11 wsX11_laysPicture D K A) {g_t : Nat → Nat} {t_raised : Int32} {t_undos : Int32} {t_reached : Int32} {t_length : Int32} {t_begin : Int32} {t_sort : Int32} {t_value : Int32} {t_word : Int64} {t_wrongAt : Int32} {t_badAt : Int32} {t_bad : Int32} {t_read : Int32} {t_x : Int32} {t_all : Nat → Int32} {res : Int32 × (Nat → Int32) × (Nat → Int32) × (Nat → Int32) × (Nat → Int32)} (HR : ∀ (pc : Nat) (H : Heap) (locs : List Loc) (ls : Array Slot), decode cX11_laysPicture pc = .ok (.return_, 1) → va_P D vwCl (w_X11_laysPicture K g_t t_raised t_undos t_reached t_length t_begin t_sort t_value t_word t_wrongAt t_badAt t_bad t_read res.1 t_x t_all res.2.1 res.2.2.1 res.2.2.2.1 res.2.2.2.2) H → va_D A (w_X11_laysPicture K g_t t_raised t_undos t_reached t_length t_begin t_sort t_value t_word t_wrongAt t_badAt t_bad t_read res.1 t_x t_all res.2.1 res.2.2.1 res.2.2.2.1 res.2.2.2.2) → va_S A s.heap H locs → W p l e rmX11_laysPicture s m args below meth c H locs 0 0 Q (F0 m pc ls [])) {k_53 : Int32 → (Nat → Int32) → (Nat → Int32) → (Nat → Int32) → (Nat → Int32) → Int32 → Option (Int32 × (Nat → Int32) × (Nat → Int32) × (Nat → Int32) × (Nat → Int32))} (HK_53 : ∀ (t_pictured : Int32) (t_loud : Nat → Int32) (t_picture : Nat → Int32) (t_took : Nat → Int32) (t_free : Nat → Int32) (x1 : Int32) (H : Heap) (locs : List Loc) (ls : Array Slot), va_P D vwCl (w_X11_laysPicture K g_t t_raised t_undos t_reached t_length t_begin t_sort t_value t_word t_wrongAt t_badAt t_bad t_read t_pictured t_x t_all t_loud t_picture t_took t_free) H → va_D A (w_X11_laysPicture K g_t t_raised t_undos t_reached t_length t_begin t_sort t_value t_word t_wrongAt t_badAt t_bad t_read t_pictured t_x t_all t_loud t_picture t_took t_free) → va_S A s.heap H locs → lv_has ls 3 [(0, .ref (g_t 0)), (1, .int x1)] → k_53 t_pictured t_loud t_picture t_took t_free x1 = some res → W p l e rmX11_laysPicture s m args below meth c H locs 0 0 Q (F0 m 53 ls [])) :
    ∀ (t_pictured : Int32) (t_loud : Nat → Int32) (t_picture : Nat → Int32) (t_took : Nat → Int32) (t_free : Nat → Int32) (x1 : Int32) (H : Heap) (locs : List Loc) (ls : Array Slot), va_P D vwCl (w_X11_laysPicture K g_t t_raised t_undos t_reached t_length t_begin t_sort t_value t_word t_wrongAt t_badAt t_bad t_read t_pictured t_x t_all t_loud t_picture t_took t_free) H → va_D A (w_X11_laysPicture K g_t t_raised t_undos t_reached t_length t_begin t_sort t_value t_word t_wrongAt t_badAt t_bad t_read t_pictured t_x t_all t_loud t_picture t_took t_free) → va_S A s.heap H locs → lv_has ls 3 [(0, .ref (g_t 0)), (1, .int x1)] → J_X11_laysPicture_114 t_all k_53 t_pictured t_loud t_picture t_took t_free x1 = some res → W p l e rmX11_laysPicture s m args below meth c H locs 0 0 Q (F0 m 114 ls []) := by
  obtain ⟨⟨hx, hb, hml, hown, hts⟩, hK, -⟩ := id C0
  intro t_pictured t_loud t_picture t_took t_free x1 H locs ls hP hD hS hl hF
  unfold J_X11_laysPicture_114 at hF
  refine lv_iload_n hx hb dX11_laysPicture_114 rfl (lv_at hl 1 rfl) ?_
  refine lv_iconst (v := (-1)) hx hb dX11_laysPicture_115 (by decide) ?_
  refine lv_icmp_eq (tgt := 53) hx hb dX11_laysPicture_116 (by decide) (fun c_1 => ?_) (fun c_1 => ?_)
  · have hF := it_pos c_1 hF
    exact HK_53 t_pictured t_loud t_picture t_took t_free x1 H locs ls hP hD hS (lv_sub hl [0, 1] rfl) hF
  · have hF := it_neg c_1 hF
    refine lv_aload_n hx hb dX11_laysPicture_119 rfl (lv_at hl 0 rfl) ?_
    refine va_get (D := D) (ci := 10) (v := .ref (g_t 19)) (C := RX11) (T := TX11) (N := 30) hx hb hts iw_X11_laysPicture_X11 hown hK hP 0 rfl rfl 18 (by decide) (hts _ fl_X11_laysPicture_30) (fun _ h9 => h9) rfl dX11_laysPicture_120 ?_
    refine lv_aload_n hx hb dX11_laysPicture_123 rfl (lv_at hl 0 rfl) ?_
    refine va_get (D := D) (ci := 10) (v := .int t_pictured) (C := RX11) (T := TX11) (N := 30) hx hb hts iw_X11_laysPicture_X11 hown hK hP 0 rfl rfl 20 (by decide) (hts _ fl_X11_laysPicture_206) (fun _ h9 => h9) rfl dX11_laysPicture_124 ?_
    refine lv_iload_n hx hb dX11_laysPicture_127 rfl (lv_at hl 1 rfl) ?_
    obtain ⟨hg_2, hF⟩ := gd_some hF
    refine xs_i (f := t_picture) hx hb hK hP hD hS 3 0 rfl rfl rfl (in_v hg_2) dX11_laysPicture_128 (fun H locs hP hD hS => ?_)
    have hP : va_P D vwCl (w_X11_laysPicture K g_t t_raised t_undos t_reached t_length t_begin t_sort t_value t_word t_wrongAt t_badAt t_bad t_read t_pictured t_x t_all t_loud (upd t_picture (t_pictured).toNatClampNeg x1) t_took t_free) H := hP
    have hD : va_D A (w_X11_laysPicture K g_t t_raised t_undos t_reached t_length t_begin t_sort t_value t_word t_wrongAt t_badAt t_bad t_read t_pictured t_x t_all t_loud (upd t_picture (t_pictured).toNatClampNeg x1) t_took t_free) := hD
    refine lv_aload_n hx hb dX11_laysPicture_129 rfl (lv_at hl 0 rfl) ?_
    refine va_get (D := D) (ci := 10) (v := .ref (g_t 20)) (C := RX11) (T := TX11) (N := 30) hx hb hts iw_X11_laysPicture_X11 hown hK hP 0 rfl rfl 19 (by decide) (hts _ fl_X11_laysPicture_33) (fun _ h9 => h9) rfl dX11_laysPicture_130 ?_
    refine lv_aload_n hx hb dX11_laysPicture_133 rfl (lv_at hl 0 rfl) ?_
    refine va_get (D := D) (ci := 10) (v := .int t_pictured) (C := RX11) (T := TX11) (N := 30) hx hb hts iw_X11_laysPicture_X11 hown hK hP 0 rfl rfl 20 (by decide) (hts _ fl_X11_laysPicture_206) (fun _ h9 => h9) rfl dX11_laysPicture_134 ?_
    refine lv_aload_n hx hb dX11_laysPicture_137 rfl (lv_at hl 0 rfl) ?_
    refine lv_iload_n hx hb dX11_laysPicture_138 rfl (lv_at hl 1 rfl) ?_
    obtain ⟨r_3, hc_4, hF⟩ := bn_some hF
    refine xc_i (wn := (w_X11_laysPicture K g_t t_raised t_undos t_reached t_length t_begin t_sort t_value t_word t_wrongAt t_badAt t_bad t_read t_pictured t_x t_all t_loud (upd t_picture (t_pictured).toNatClampNeg x1) t_took t_free)) hP hD hS C0.2.2.1 [0, 1, 5] [2, 3, 4] [3, 4, 0, 1, 2, 5] rfl rfl (by decide) (by decide) rfl (by decide) (va_runV (As := [.int x1]) (rest := [.int t_pictured, .ref (g_t 20)]) C0.1 (c_X11_freeHits l D K g_t t_raised t_undos t_reached t_length t_begin t_sort t_value t_word t_wrongAt t_badAt t_bad t_read t_pictured t_x t_all t_free x1 r_3 hc_4 H.size) (cwV 1 hts gX11_laysPicture_X11_freeHits rfl rfl rfl (by decide +kernel) ⟨Nat.le_of_ble_eq_true rfl, Nat.le_of_ble_eq_true rfl⟩) (xp_V C0.2 hP hD hS [0, 1, 5] rfl (by decide) 10 0 rfl rfl rfl) rfl rfl hl.1 rfl (lv_room (Nat.le_of_ble_eq_true rfl)) dX11_laysPicture_139 ⟨Nat.le_of_ble_eq_true rfl, Nat.le_of_ble_eq_true rfl⟩) (fun H locs hP hD hS => ?_)
    obtain ⟨hg_5, hF⟩ := gd_some hF
    refine xs_i (f := t_took) hx hb hK hP hD hS 4 0 rfl rfl rfl (in_v hg_5) dX11_laysPicture_142 (fun H locs hP hD hS => ?_)
    have hP : va_P D vwCl (w_X11_laysPicture K g_t t_raised t_undos t_reached t_length t_begin t_sort t_value t_word t_wrongAt t_badAt t_bad t_read t_pictured t_x t_all t_loud (upd t_picture (t_pictured).toNatClampNeg x1) (upd t_took (t_pictured).toNatClampNeg r_3) t_free) H := hP
    have hD : va_D A (w_X11_laysPicture K g_t t_raised t_undos t_reached t_length t_begin t_sort t_value t_word t_wrongAt t_badAt t_bad t_read t_pictured t_x t_all t_loud (upd t_picture (t_pictured).toNatClampNeg x1) (upd t_took (t_pictured).toNatClampNeg r_3) t_free) := hD
    refine lv_aload_n hx hb dX11_laysPicture_143 rfl (lv_at hl 0 rfl) ?_
    refine lv_dup hx hb dX11_laysPicture_144 rfl ?_
    refine va_get (D := D) (ci := 10) (v := .int t_pictured) (C := RX11) (T := TX11) (N := 30) hx hb hts iw_X11_laysPicture_X11 hown hK hP 0 rfl rfl 20 (by decide) (hts _ fl_X11_laysPicture_206) (fun _ h9 => h9) rfl dX11_laysPicture_145 ?_
    refine lv_iconst (v := 1) hx hb dX11_laysPicture_148 (by decide) ?_
    refine lv_iadd hx hb dX11_laysPicture_149 ?_
    refine va_put (D := D) (ci := 10) (v := .int (t_pictured + (1 : Int32))) (ty := .int) (C := RX11) (T := TX11) (N := 30) hx hb hts iw_X11_laysPicture_X11 tyX11 tyX11_ok nmX11 hown hK hP hD hS 0 rfl rfl 20 (by decide) (hts _ fl_X11_laysPicture_206) (fun _ h9 => h9) rfl (by decide +kernel) rfl rfl (Nat.le_of_ble_eq_true rfl) dX11_laysPicture_150 (fun H locs hP hD hS => ?_)
    have hP : va_P D vwCl (w_X11_laysPicture K g_t t_raised t_undos t_reached t_length t_begin t_sort t_value t_word t_wrongAt t_badAt t_bad t_read (t_pictured + (1 : Int32)) t_x t_all t_loud (upd t_picture (t_pictured).toNatClampNeg x1) (upd t_took (t_pictured).toNatClampNeg r_3) t_free) H := hP
    have hD : va_D A (w_X11_laysPicture K g_t t_raised t_undos t_reached t_length t_begin t_sort t_value t_word t_wrongAt t_badAt t_bad t_read (t_pictured + (1 : Int32)) t_x t_all t_loud (upd t_picture (t_pictured).toNatClampNeg x1) (upd t_took (t_pictured).toNatClampNeg r_3) t_free) := hD
    refine lv_iconst (v := 0) hx hb dX11_laysPicture_153 (by decide) ?_
    refine lv_istore_n (lv' := [(2, .int (0 : Int32)), (0, .ref (g_t 0)), (1, .int x1)]) hx hb dX11_laysPicture_154 rfl hl (by decide) rfl (fun ls hl => ?_)
    exact w_X11_laysPicture_155 C0 HR HK_53 fu_ (t_pictured + (1 : Int32)) t_loud (upd t_picture (t_pictured).toNatClampNeg x1) (upd t_took (t_pictured).toNatClampNeg r_3) t_free x1 (0 : Int32) H locs ls hP hD hS (lv_sub hl [1, 2, 0] rfl) hF
def L_X11_laysPicture_62 (t_all : Nat → Int32) (k_53 : Int32 → (Nat → Int32) → (Nat → Int32) → (Nat → Int32) → (Nat → Int32) → Int32 → Option (Int32 × (Nat → Int32) × (Nat → Int32) × (Nat → Int32) × (Nat → Int32))) : Nat → Int32 → (Nat → Int32) → (Nat → Int32) → (Nat → Int32) → (Nat → Int32) → Int32 → Int32 → Option (Int32 × (Nat → Int32) × (Nat → Int32) × (Nat → Int32) × (Nat → Int32))
  | 0, _, _, _, _, _, _, _ => none
  | n_ + 1, t_pictured, t_loud, t_picture, t_took, t_free, x1, x2 =>
    if (t_all 9) ≤ x2 then (J_X11_laysPicture_114 t_all k_53 t_pictured t_loud t_picture t_took t_free x1) else ((F_X11_freeHits t_all t_free x2).bind fun r_2 => (if r_2 < (t_all 10) then (L_X11_laysPicture_62 t_all k_53 n_ t_pictured t_loud t_picture t_took t_free x1 (x2 + (1 : Int32))) else (if x1 = (-1 : Int32) then (L_X11_laysPicture_62 t_all k_53 n_ t_pictured t_loud t_picture t_took t_free x2 (x2 + (1 : Int32))) else ((F_X11_freeHits t_all t_free x2).bind fun r_6 => ((F_X11_freeHits t_all t_free x1).bind fun r_8 => (if r_6 ≤ r_8 then (L_X11_laysPicture_62 t_all k_53 n_ t_pictured t_loud t_picture t_took t_free x1 (x2 + (1 : Int32))) else (L_X11_laysPicture_62 t_all k_53 n_ t_pictured t_loud t_picture t_took t_free x2 (x2 + (1 : Int32)))))))))
set_option maxHeartbeats 4000000 in
set_option maxRecDepth 100000 in
theorem w_X11_laysPicture_62 {p : Program} {l : Launch} {e : Env} {s : State} {m : MethodId} {args : Array Value} {below : List Frame} {meth : Method} {c : Code} {D : va_G} {K : Nat → ClassId} {A : Nat → Prop} {Q : State → Prop} (C0 : cx_ p s m args c cX11_laysPicture 3 RX11 wsX11_laysPicture D K A) {g_t : Nat → Nat} {t_raised : Int32} {t_undos : Int32} {t_reached : Int32} {t_length : Int32} {t_begin : Int32} {t_sort : Int32} {t_value : Int32} {t_word : Int64} {t_wrongAt : Int32} {t_badAt : Int32} {t_bad : Int32} {t_read : Int32} {t_x : Int32} {t_all : Nat → Int32} {res : Int32 × (Nat → Int32) × (Nat → Int32) × (Nat → Int32) × (Nat → Int32)} (HR : ∀ (pc : Nat) (H : Heap) (locs : List Loc) (ls : Array Slot), decode cX11_laysPicture pc = .ok (.return_, 1) → va_P D vwCl (w_X11_laysPicture K g_t t_raised t_undos t_reached t_length t_begin t_sort t_value t_word t_wrongAt t_badAt t_bad t_read res.1 t_x t_all res.2.1 res.2.2.1 res.2.2.2.1 res.2.2.2.2) H → va_D A (w_X11_laysPicture K g_t t_raised t_undos t_reached t_length t_begin t_sort t_value t_word t_wrongAt t_badAt t_bad t_read res.1 t_x t_all res.2.1 res.2.2.1 res.2.2.2.1 res.2.2.2.2) → va_S A s.heap H locs → W p l e rmX11_laysPicture s m args below meth c H locs 0 0 Q (F0 m pc ls [])) {k_53 : Int32 → (Nat → Int32) → (Nat → Int32) → (Nat → Int32) → (Nat → Int32) → Int32 → Option (Int32 × (Nat → Int32) × (Nat → Int32) × (Nat → Int32) × (Nat → Int32))} (HK_53 : ∀ (t_pictured : Int32) (t_loud : Nat → Int32) (t_picture : Nat → Int32) (t_took : Nat → Int32) (t_free : Nat → Int32) (x1 : Int32) (H : Heap) (locs : List Loc) (ls : Array Slot), va_P D vwCl (w_X11_laysPicture K g_t t_raised t_undos t_reached t_length t_begin t_sort t_value t_word t_wrongAt t_badAt t_bad t_read t_pictured t_x t_all t_loud t_picture t_took t_free) H → va_D A (w_X11_laysPicture K g_t t_raised t_undos t_reached t_length t_begin t_sort t_value t_word t_wrongAt t_badAt t_bad t_read t_pictured t_x t_all t_loud t_picture t_took t_free) → va_S A s.heap H locs → lv_has ls 3 [(0, .ref (g_t 0)), (1, .int x1)] → k_53 t_pictured t_loud t_picture t_took t_free x1 = some res → W p l e rmX11_laysPicture s m args below meth c H locs 0 0 Q (F0 m 53 ls [])) :
    ∀ (n_ : Nat) (t_pictured : Int32) (t_loud : Nat → Int32) (t_picture : Nat → Int32) (t_took : Nat → Int32) (t_free : Nat → Int32) (x1 : Int32) (x2 : Int32) (H : Heap) (locs : List Loc) (ls : Array Slot), va_P D vwCl (w_X11_laysPicture K g_t t_raised t_undos t_reached t_length t_begin t_sort t_value t_word t_wrongAt t_badAt t_bad t_read t_pictured t_x t_all t_loud t_picture t_took t_free) H → va_D A (w_X11_laysPicture K g_t t_raised t_undos t_reached t_length t_begin t_sort t_value t_word t_wrongAt t_badAt t_bad t_read t_pictured t_x t_all t_loud t_picture t_took t_free) → va_S A s.heap H locs → lv_has ls 3 [(0, .ref (g_t 0)), (1, .int x1), (2, .int x2)] → L_X11_laysPicture_62 t_all k_53 n_ t_pictured t_loud t_picture t_took t_free x1 x2 = some res → W p l e rmX11_laysPicture s m args below meth c H locs 0 0 Q (F0 m 62 ls []) := by
  obtain ⟨⟨hx, hb, hml, hown, hts⟩, hK, -⟩ := id C0
  intro n_
  induction n_ with
  | zero =>
    intro t_pictured t_loud t_picture t_took t_free x1 x2 H locs ls hP hD hS hl hF
    exact no_s (show (none : Option (Int32 × (Nat → Int32) × (Nat → Int32) × (Nat → Int32) × (Nat → Int32))) = some res from hF)
  | succ n_ ih =>
    intro t_pictured t_loud t_picture t_took t_free x1 x2 H locs ls hP hD hS hl hF
    rw [L_X11_laysPicture_62] at hF
    refine lv_iload_n hx hb dX11_laysPicture_62 rfl (lv_at hl 2 rfl) ?_
    refine lv_aload_n hx hb dX11_laysPicture_63 rfl (lv_at hl 0 rfl) ?_
    refine va_get (D := D) (ci := 10) (v := .ref (g_t 2)) (C := RX11) (T := TX11) (N := 30) hx hb hts iw_X11_laysPicture_X11 hown hK hP 0 rfl rfl 1 (by decide) (hts _ fl_X11_laysPicture_7) (fun _ h9 => h9) rfl dX11_laysPicture_64 ?_
    refine lv_bipush (v := 9) hx hb dX11_laysPicture_67 (by decide) ?_
    refine xl_i (f := t_all) hx hb hK hP 1 0 rfl rfl (k := 9) (by decide) (in_v (by decide)) dX11_laysPicture_69 ?_
    refine lv_icmp_ge (tgt := 114) hx hb dX11_laysPicture_70 (by decide) (fun c_1 => ?_) (fun c_1 => ?_)
    · have hF := it_pos c_1 hF
      exact w_X11_laysPicture_114 C0 HR HK_53 t_pictured t_loud t_picture t_took t_free x1 H locs ls hP hD hS (lv_sub hl [0, 1] rfl) hF
    · have hF := it_neg c_1 hF
      refine lv_aload_n hx hb dX11_laysPicture_73 rfl (lv_at hl 0 rfl) ?_
      refine lv_iload_n hx hb dX11_laysPicture_74 rfl (lv_at hl 2 rfl) ?_
      obtain ⟨r_2, hc_3, hF⟩ := bn_some hF
      refine xc_i (wn := (w_X11_laysPicture K g_t t_raised t_undos t_reached t_length t_begin t_sort t_value t_word t_wrongAt t_badAt t_bad t_read t_pictured t_x t_all t_loud t_picture t_took t_free)) hP hD hS C0.2.2.1 [0, 1, 5] [2, 3, 4] [3, 4, 0, 1, 2, 5] rfl rfl (by decide) (by decide) rfl (by decide) (va_runV (As := [.int x2]) (rest := []) C0.1 (c_X11_freeHits l D K g_t t_raised t_undos t_reached t_length t_begin t_sort t_value t_word t_wrongAt t_badAt t_bad t_read t_pictured t_x t_all t_free x2 r_2 hc_3 H.size) (cwV 1 hts gX11_laysPicture_X11_freeHits rfl rfl rfl (by decide +kernel) ⟨Nat.le_of_ble_eq_true rfl, Nat.le_of_ble_eq_true rfl⟩) (xp_V C0.2 hP hD hS [0, 1, 5] rfl (by decide) 10 0 rfl rfl rfl) rfl rfl hl.1 rfl (lv_room (Nat.le_of_ble_eq_true rfl)) dX11_laysPicture_75 ⟨Nat.le_of_ble_eq_true rfl, Nat.le_of_ble_eq_true rfl⟩) (fun H locs hP hD hS => ?_)
      refine lv_aload_n hx hb dX11_laysPicture_78 rfl (lv_at hl 0 rfl) ?_
      refine va_get (D := D) (ci := 10) (v := .ref (g_t 2)) (C := RX11) (T := TX11) (N := 30) hx hb hts iw_X11_laysPicture_X11 hown hK hP 0 rfl rfl 1 (by decide) (hts _ fl_X11_laysPicture_7) (fun _ h9 => h9) rfl dX11_laysPicture_79 ?_
      refine lv_bipush (v := 10) hx hb dX11_laysPicture_82 (by decide) ?_
      refine xl_i (f := t_all) hx hb hK hP 1 0 rfl rfl (k := 10) (by decide) (in_v (by decide)) dX11_laysPicture_84 ?_
      refine lv_icmp_lt (tgt := 108) hx hb dX11_laysPicture_85 (by decide) (fun c_4 => ?_) (fun c_4 => ?_)
      · have hF := it_pos c_4 hF
        refine lv_iinc (v := (x2 + (1 : Int32))) (lv' := [(2, .int (x2 + (1 : Int32))), (0, .ref (g_t 0)), (1, .int x1)]) hx hb dX11_laysPicture_108 hl (k := 2) rfl (congrArg (fun z => x2 + z) (by decide)) (by decide) rfl (fun ls hl => ?_)
        refine lv_goto (tgt := 62) hx hb dX11_laysPicture_111 (by decide) ?_
        exact ih t_pictured t_loud t_picture t_took t_free x1 (x2 + (1 : Int32)) H locs ls hP hD hS (lv_sub hl [1, 2, 0] rfl) hF
      · have hF := it_neg c_4 hF
        refine lv_iload_n hx hb dX11_laysPicture_88 rfl (lv_at hl 1 rfl) ?_
        refine lv_iconst (v := (-1)) hx hb dX11_laysPicture_89 (by decide) ?_
        refine lv_icmp_eq (tgt := 106) hx hb dX11_laysPicture_90 (by decide) (fun c_5 => ?_) (fun c_5 => ?_)
        · have hF := it_pos c_5 hF
          refine lv_iload_n hx hb dX11_laysPicture_106 rfl (lv_at hl 2 rfl) ?_
          refine lv_istore_n (lv' := [(1, .int x2), (0, .ref (g_t 0)), (2, .int x2)]) hx hb dX11_laysPicture_107 rfl hl (by decide) rfl (fun ls hl => ?_)
          refine lv_iinc (v := (x2 + (1 : Int32))) (lv' := [(2, .int (x2 + (1 : Int32))), (1, .int x2), (0, .ref (g_t 0))]) hx hb dX11_laysPicture_108 hl (k := 2) rfl (congrArg (fun z => x2 + z) (by decide)) (by decide) rfl (fun ls hl => ?_)
          refine lv_goto (tgt := 62) hx hb dX11_laysPicture_111 (by decide) ?_
          exact ih t_pictured t_loud t_picture t_took t_free x2 (x2 + (1 : Int32)) H locs ls hP hD hS (lv_sub hl [2, 1, 0] rfl) hF
        · have hF := it_neg c_5 hF
          refine lv_aload_n hx hb dX11_laysPicture_93 rfl (lv_at hl 0 rfl) ?_
          refine lv_iload_n hx hb dX11_laysPicture_94 rfl (lv_at hl 2 rfl) ?_
          obtain ⟨r_6, hc_7, hF⟩ := bn_some hF
          refine xc_i (wn := (w_X11_laysPicture K g_t t_raised t_undos t_reached t_length t_begin t_sort t_value t_word t_wrongAt t_badAt t_bad t_read t_pictured t_x t_all t_loud t_picture t_took t_free)) hP hD hS C0.2.2.1 [0, 1, 5] [2, 3, 4] [3, 4, 0, 1, 2, 5] rfl rfl (by decide) (by decide) rfl (by decide) (va_runV (As := [.int x2]) (rest := []) C0.1 (c_X11_freeHits l D K g_t t_raised t_undos t_reached t_length t_begin t_sort t_value t_word t_wrongAt t_badAt t_bad t_read t_pictured t_x t_all t_free x2 r_6 hc_7 H.size) (cwV 1 hts gX11_laysPicture_X11_freeHits rfl rfl rfl (by decide +kernel) ⟨Nat.le_of_ble_eq_true rfl, Nat.le_of_ble_eq_true rfl⟩) (xp_V C0.2 hP hD hS [0, 1, 5] rfl (by decide) 10 0 rfl rfl rfl) rfl rfl hl.1 rfl (lv_room (Nat.le_of_ble_eq_true rfl)) dX11_laysPicture_95 ⟨Nat.le_of_ble_eq_true rfl, Nat.le_of_ble_eq_true rfl⟩) (fun H locs hP hD hS => ?_)
          refine lv_aload_n hx hb dX11_laysPicture_98 rfl (lv_at hl 0 rfl) ?_
          refine lv_iload_n hx hb dX11_laysPicture_99 rfl (lv_at hl 1 rfl) ?_
          obtain ⟨r_8, hc_9, hF⟩ := bn_some hF
          refine xc_i (wn := (w_X11_laysPicture K g_t t_raised t_undos t_reached t_length t_begin t_sort t_value t_word t_wrongAt t_badAt t_bad t_read t_pictured t_x t_all t_loud t_picture t_took t_free)) hP hD hS C0.2.2.1 [0, 1, 5] [2, 3, 4] [3, 4, 0, 1, 2, 5] rfl rfl (by decide) (by decide) rfl (by decide) (va_runV (As := [.int x1]) (rest := [.int r_6]) C0.1 (c_X11_freeHits l D K g_t t_raised t_undos t_reached t_length t_begin t_sort t_value t_word t_wrongAt t_badAt t_bad t_read t_pictured t_x t_all t_free x1 r_8 hc_9 H.size) (cwV 1 hts gX11_laysPicture_X11_freeHits rfl rfl rfl (by decide +kernel) ⟨Nat.le_of_ble_eq_true rfl, Nat.le_of_ble_eq_true rfl⟩) (xp_V C0.2 hP hD hS [0, 1, 5] rfl (by decide) 10 0 rfl rfl rfl) rfl rfl hl.1 rfl (lv_room (Nat.le_of_ble_eq_true rfl)) dX11_laysPicture_100 ⟨Nat.le_of_ble_eq_true rfl, Nat.le_of_ble_eq_true rfl⟩) (fun H locs hP hD hS => ?_)
          refine lv_icmp_le (tgt := 108) hx hb dX11_laysPicture_103 (by decide) (fun c_10 => ?_) (fun c_10 => ?_)
          · have hF := it_pos c_10 hF
            refine lv_iinc (v := (x2 + (1 : Int32))) (lv' := [(2, .int (x2 + (1 : Int32))), (0, .ref (g_t 0)), (1, .int x1)]) hx hb dX11_laysPicture_108 hl (k := 2) rfl (congrArg (fun z => x2 + z) (by decide)) (by decide) rfl (fun ls hl => ?_)
            refine lv_goto (tgt := 62) hx hb dX11_laysPicture_111 (by decide) ?_
            exact ih t_pictured t_loud t_picture t_took t_free x1 (x2 + (1 : Int32)) H locs ls hP hD hS (lv_sub hl [1, 2, 0] rfl) hF
          · have hF := it_neg c_10 hF
            refine lv_iload_n hx hb dX11_laysPicture_106 rfl (lv_at hl 2 rfl) ?_
            refine lv_istore_n (lv' := [(1, .int x2), (0, .ref (g_t 0)), (2, .int x2)]) hx hb dX11_laysPicture_107 rfl hl (by decide) rfl (fun ls hl => ?_)
            refine lv_iinc (v := (x2 + (1 : Int32))) (lv' := [(2, .int (x2 + (1 : Int32))), (1, .int x2), (0, .ref (g_t 0))]) hx hb dX11_laysPicture_108 hl (k := 2) rfl (congrArg (fun z => x2 + z) (by decide)) (by decide) rfl (fun ls hl => ?_)
            refine lv_goto (tgt := 62) hx hb dX11_laysPicture_111 (by decide) ?_
            exact ih t_pictured t_loud t_picture t_took t_free x2 (x2 + (1 : Int32)) H locs ls hP hD hS (lv_sub hl [2, 1, 0] rfl) hF
def L_X11_laysPicture_53 (t_all : Nat → Int32) : Nat → Int32 → (Nat → Int32) → (Nat → Int32) → (Nat → Int32) → (Nat → Int32) → Int32 → Option (Int32 × (Nat → Int32) × (Nat → Int32) × (Nat → Int32) × (Nat → Int32))
  | 0, _, _, _, _, _, _ => none
  | n_ + 1, t_pictured, t_loud, t_picture, t_took, t_free, x1 =>
    if x1 = (-1 : Int32) then (some (t_pictured, t_loud, t_picture, t_took, t_free)) else (L_X11_laysPicture_62 t_all (L_X11_laysPicture_53 t_all n_) fu_ t_pictured t_loud t_picture t_took t_free (-1 : Int32) (0 : Int32))
set_option maxHeartbeats 4000000 in
set_option maxRecDepth 100000 in
theorem w_X11_laysPicture_53 {p : Program} {l : Launch} {e : Env} {s : State} {m : MethodId} {args : Array Value} {below : List Frame} {meth : Method} {c : Code} {D : va_G} {K : Nat → ClassId} {A : Nat → Prop} {Q : State → Prop} (C0 : cx_ p s m args c cX11_laysPicture 3 RX11 wsX11_laysPicture D K A) {g_t : Nat → Nat} {t_raised : Int32} {t_undos : Int32} {t_reached : Int32} {t_length : Int32} {t_begin : Int32} {t_sort : Int32} {t_value : Int32} {t_word : Int64} {t_wrongAt : Int32} {t_badAt : Int32} {t_bad : Int32} {t_read : Int32} {t_x : Int32} {t_all : Nat → Int32} {res : Int32 × (Nat → Int32) × (Nat → Int32) × (Nat → Int32) × (Nat → Int32)} (HR : ∀ (pc : Nat) (H : Heap) (locs : List Loc) (ls : Array Slot), decode cX11_laysPicture pc = .ok (.return_, 1) → va_P D vwCl (w_X11_laysPicture K g_t t_raised t_undos t_reached t_length t_begin t_sort t_value t_word t_wrongAt t_badAt t_bad t_read res.1 t_x t_all res.2.1 res.2.2.1 res.2.2.2.1 res.2.2.2.2) H → va_D A (w_X11_laysPicture K g_t t_raised t_undos t_reached t_length t_begin t_sort t_value t_word t_wrongAt t_badAt t_bad t_read res.1 t_x t_all res.2.1 res.2.2.1 res.2.2.2.1 res.2.2.2.2) → va_S A s.heap H locs → W p l e rmX11_laysPicture s m args below meth c H locs 0 0 Q (F0 m pc ls []))  :
    ∀ (n_ : Nat) (t_pictured : Int32) (t_loud : Nat → Int32) (t_picture : Nat → Int32) (t_took : Nat → Int32) (t_free : Nat → Int32) (x1 : Int32) (H : Heap) (locs : List Loc) (ls : Array Slot), va_P D vwCl (w_X11_laysPicture K g_t t_raised t_undos t_reached t_length t_begin t_sort t_value t_word t_wrongAt t_badAt t_bad t_read t_pictured t_x t_all t_loud t_picture t_took t_free) H → va_D A (w_X11_laysPicture K g_t t_raised t_undos t_reached t_length t_begin t_sort t_value t_word t_wrongAt t_badAt t_bad t_read t_pictured t_x t_all t_loud t_picture t_took t_free) → va_S A s.heap H locs → lv_has ls 3 [(0, .ref (g_t 0)), (1, .int x1)] → L_X11_laysPicture_53 t_all n_ t_pictured t_loud t_picture t_took t_free x1 = some res → W p l e rmX11_laysPicture s m args below meth c H locs 0 0 Q (F0 m 53 ls []) := by
  obtain ⟨⟨hx, hb, hml, hown, hts⟩, hK, -⟩ := id C0
  intro n_
  induction n_ with
  | zero =>
    intro t_pictured t_loud t_picture t_took t_free x1 H locs ls hP hD hS hl hF
    exact no_s (show (none : Option (Int32 × (Nat → Int32) × (Nat → Int32) × (Nat → Int32) × (Nat → Int32))) = some res from hF)
  | succ n_ ih =>
    intro t_pictured t_loud t_picture t_took t_free x1 H locs ls hP hD hS hl hF
    rw [L_X11_laysPicture_53] at hF
    refine lv_iload_n hx hb dX11_laysPicture_53 rfl (lv_at hl 1 rfl) ?_
    refine lv_iconst (v := (-1)) hx hb dX11_laysPicture_54 (by decide) ?_
    refine lv_icmp_eq (tgt := 192) hx hb dX11_laysPicture_55 (by decide) (fun c_1 => ?_) (fun c_1 => ?_)
    · have hF := it_pos c_1 hF
      obtain rfl := Option.some.inj hF
      exact HR 192 H locs ls dX11_laysPicture_192 hP hD hS
    · have hF := it_neg c_1 hF
      refine lv_iconst (v := (-1)) hx hb dX11_laysPicture_58 (by decide) ?_
      refine lv_istore_n (lv' := [(1, .int (-1 : Int32)), (0, .ref (g_t 0))]) hx hb dX11_laysPicture_59 rfl hl (by decide) rfl (fun ls hl => ?_)
      refine lv_iconst (v := 0) hx hb dX11_laysPicture_60 (by decide) ?_
      refine lv_istore_n (lv' := [(2, .int (0 : Int32)), (1, .int (-1 : Int32)), (0, .ref (g_t 0))]) hx hb dX11_laysPicture_61 rfl hl (by decide) rfl (fun ls hl => ?_)
      exact w_X11_laysPicture_62 C0 HR ih fu_ t_pictured t_loud t_picture t_took t_free (-1 : Int32) (0 : Int32) H locs ls hP hD hS (lv_sub hl [2, 1, 0] rfl) hF
def J_X11_laysPicture_46 (t_all : Nat → Int32) (t_pictured : Int32) (t_loud : Nat → Int32) (t_picture : Nat → Int32) (t_took : Nat → Int32) (t_free : Nat → Int32) : Option (Int32 × (Nat → Int32) × (Nat → Int32) × (Nat → Int32) × (Nat → Int32)) :=
  L_X11_laysPicture_53 t_all fu_ (0 : Int32) t_loud t_picture t_took t_free (0 : Int32)
set_option maxHeartbeats 4000000 in
set_option maxRecDepth 100000 in
theorem w_X11_laysPicture_46 {p : Program} {l : Launch} {e : Env} {s : State} {m : MethodId} {args : Array Value} {below : List Frame} {meth : Method} {c : Code} {D : va_G} {K : Nat → ClassId} {A : Nat → Prop} {Q : State → Prop} (C0 : cx_ p s m args c cX11_laysPicture 3 RX11 wsX11_laysPicture D K A) {g_t : Nat → Nat} {t_raised : Int32} {t_undos : Int32} {t_reached : Int32} {t_length : Int32} {t_begin : Int32} {t_sort : Int32} {t_value : Int32} {t_word : Int64} {t_wrongAt : Int32} {t_badAt : Int32} {t_bad : Int32} {t_read : Int32} {t_x : Int32} {t_all : Nat → Int32} {res : Int32 × (Nat → Int32) × (Nat → Int32) × (Nat → Int32) × (Nat → Int32)} (HR : ∀ (pc : Nat) (H : Heap) (locs : List Loc) (ls : Array Slot), decode cX11_laysPicture pc = .ok (.return_, 1) → va_P D vwCl (w_X11_laysPicture K g_t t_raised t_undos t_reached t_length t_begin t_sort t_value t_word t_wrongAt t_badAt t_bad t_read res.1 t_x t_all res.2.1 res.2.2.1 res.2.2.2.1 res.2.2.2.2) H → va_D A (w_X11_laysPicture K g_t t_raised t_undos t_reached t_length t_begin t_sort t_value t_word t_wrongAt t_badAt t_bad t_read res.1 t_x t_all res.2.1 res.2.2.1 res.2.2.2.1 res.2.2.2.2) → va_S A s.heap H locs → W p l e rmX11_laysPicture s m args below meth c H locs 0 0 Q (F0 m pc ls []))  :
    ∀ (t_pictured : Int32) (t_loud : Nat → Int32) (t_picture : Nat → Int32) (t_took : Nat → Int32) (t_free : Nat → Int32) (H : Heap) (locs : List Loc) (ls : Array Slot), va_P D vwCl (w_X11_laysPicture K g_t t_raised t_undos t_reached t_length t_begin t_sort t_value t_word t_wrongAt t_badAt t_bad t_read t_pictured t_x t_all t_loud t_picture t_took t_free) H → va_D A (w_X11_laysPicture K g_t t_raised t_undos t_reached t_length t_begin t_sort t_value t_word t_wrongAt t_badAt t_bad t_read t_pictured t_x t_all t_loud t_picture t_took t_free) → va_S A s.heap H locs → lv_has ls 3 [(0, .ref (g_t 0))] → J_X11_laysPicture_46 t_all t_pictured t_loud t_picture t_took t_free = some res → W p l e rmX11_laysPicture s m args below meth c H locs 0 0 Q (F0 m 46 ls []) := by
  obtain ⟨⟨hx, hb, hml, hown, hts⟩, hK, -⟩ := id C0
  intro t_pictured t_loud t_picture t_took t_free H locs ls hP hD hS hl hF
  unfold J_X11_laysPicture_46 at hF
  refine lv_aload_n hx hb dX11_laysPicture_46 rfl (lv_at hl 0 rfl) ?_
  refine lv_iconst (v := 0) hx hb dX11_laysPicture_47 (by decide) ?_
  refine va_put (D := D) (ci := 10) (v := .int (0 : Int32)) (ty := .int) (C := RX11) (T := TX11) (N := 30) hx hb hts iw_X11_laysPicture_X11 tyX11 tyX11_ok nmX11 hown hK hP hD hS 0 rfl rfl 20 (by decide) (hts _ fl_X11_laysPicture_206) (fun _ h9 => h9) rfl (by decide +kernel) rfl rfl (Nat.le_of_ble_eq_true rfl) dX11_laysPicture_48 (fun H locs hP hD hS => ?_)
  have hP : va_P D vwCl (w_X11_laysPicture K g_t t_raised t_undos t_reached t_length t_begin t_sort t_value t_word t_wrongAt t_badAt t_bad t_read (0 : Int32) t_x t_all t_loud t_picture t_took t_free) H := hP
  have hD : va_D A (w_X11_laysPicture K g_t t_raised t_undos t_reached t_length t_begin t_sort t_value t_word t_wrongAt t_badAt t_bad t_read (0 : Int32) t_x t_all t_loud t_picture t_took t_free) := hD
  refine lv_iconst (v := 0) hx hb dX11_laysPicture_51 (by decide) ?_
  refine lv_istore_n (lv' := [(1, .int (0 : Int32)), (0, .ref (g_t 0))]) hx hb dX11_laysPicture_52 rfl hl (by decide) rfl (fun ls hl => ?_)
  exact w_X11_laysPicture_53 C0 HR fu_ (0 : Int32) t_loud t_picture t_took t_free (0 : Int32) H locs ls hP hD hS (lv_sub hl [1, 0] rfl) hF
def J_X11_laysPicture_39 (t_all : Nat → Int32) (k_6 : Int32 → (Nat → Int32) → (Nat → Int32) → (Nat → Int32) → (Nat → Int32) → Int32 → Option (Int32 × (Nat → Int32) × (Nat → Int32) × (Nat → Int32) × (Nat → Int32))) (t_pictured : Int32) (t_loud : Nat → Int32) (t_picture : Nat → Int32) (t_took : Nat → Int32) (t_free : Nat → Int32) (x1 : Int32) (s1 : Int32) (s2 : Int32) : Option (Int32 × (Nat → Int32) × (Nat → Int32) × (Nat → Int32) × (Nat → Int32)) :=
  gd_ (in_b s1 300) (k_6 t_pictured t_loud t_picture t_took (upd t_free (s1).toNatClampNeg (vp_nar .boolean s2)) (x1 + (1 : Int32)))
set_option maxHeartbeats 4000000 in
set_option maxRecDepth 100000 in
theorem w_X11_laysPicture_39 {p : Program} {l : Launch} {e : Env} {s : State} {m : MethodId} {args : Array Value} {below : List Frame} {meth : Method} {c : Code} {D : va_G} {K : Nat → ClassId} {A : Nat → Prop} {Q : State → Prop} (C0 : cx_ p s m args c cX11_laysPicture 3 RX11 wsX11_laysPicture D K A) {g_t : Nat → Nat} {t_raised : Int32} {t_undos : Int32} {t_reached : Int32} {t_length : Int32} {t_begin : Int32} {t_sort : Int32} {t_value : Int32} {t_word : Int64} {t_wrongAt : Int32} {t_badAt : Int32} {t_bad : Int32} {t_read : Int32} {t_x : Int32} {t_all : Nat → Int32} {res : Int32 × (Nat → Int32) × (Nat → Int32) × (Nat → Int32) × (Nat → Int32)} (HR : ∀ (pc : Nat) (H : Heap) (locs : List Loc) (ls : Array Slot), decode cX11_laysPicture pc = .ok (.return_, 1) → va_P D vwCl (w_X11_laysPicture K g_t t_raised t_undos t_reached t_length t_begin t_sort t_value t_word t_wrongAt t_badAt t_bad t_read res.1 t_x t_all res.2.1 res.2.2.1 res.2.2.2.1 res.2.2.2.2) H → va_D A (w_X11_laysPicture K g_t t_raised t_undos t_reached t_length t_begin t_sort t_value t_word t_wrongAt t_badAt t_bad t_read res.1 t_x t_all res.2.1 res.2.2.1 res.2.2.2.1 res.2.2.2.2) → va_S A s.heap H locs → W p l e rmX11_laysPicture s m args below meth c H locs 0 0 Q (F0 m pc ls [])) {k_6 : Int32 → (Nat → Int32) → (Nat → Int32) → (Nat → Int32) → (Nat → Int32) → Int32 → Option (Int32 × (Nat → Int32) × (Nat → Int32) × (Nat → Int32) × (Nat → Int32))} (HK_6 : ∀ (t_pictured : Int32) (t_loud : Nat → Int32) (t_picture : Nat → Int32) (t_took : Nat → Int32) (t_free : Nat → Int32) (x1 : Int32) (H : Heap) (locs : List Loc) (ls : Array Slot), va_P D vwCl (w_X11_laysPicture K g_t t_raised t_undos t_reached t_length t_begin t_sort t_value t_word t_wrongAt t_badAt t_bad t_read t_pictured t_x t_all t_loud t_picture t_took t_free) H → va_D A (w_X11_laysPicture K g_t t_raised t_undos t_reached t_length t_begin t_sort t_value t_word t_wrongAt t_badAt t_bad t_read t_pictured t_x t_all t_loud t_picture t_took t_free) → va_S A s.heap H locs → lv_has ls 3 [(0, .ref (g_t 0)), (1, .int x1)] → k_6 t_pictured t_loud t_picture t_took t_free x1 = some res → W p l e rmX11_laysPicture s m args below meth c H locs 0 0 Q (F0 m 6 ls [])) :
    ∀ (t_pictured : Int32) (t_loud : Nat → Int32) (t_picture : Nat → Int32) (t_took : Nat → Int32) (t_free : Nat → Int32) (x1 : Int32) (s1 : Int32) (s2 : Int32) (H : Heap) (locs : List Loc) (ls : Array Slot), va_P D vwCl (w_X11_laysPicture K g_t t_raised t_undos t_reached t_length t_begin t_sort t_value t_word t_wrongAt t_badAt t_bad t_read t_pictured t_x t_all t_loud t_picture t_took t_free) H → va_D A (w_X11_laysPicture K g_t t_raised t_undos t_reached t_length t_begin t_sort t_value t_word t_wrongAt t_badAt t_bad t_read t_pictured t_x t_all t_loud t_picture t_took t_free) → va_S A s.heap H locs → lv_has ls 3 [(0, .ref (g_t 0)), (1, .int x1)] → J_X11_laysPicture_39 t_all k_6 t_pictured t_loud t_picture t_took t_free x1 s1 s2 = some res → W p l e rmX11_laysPicture s m args below meth c H locs 0 0 Q (F0 m 39 ls [.int s2, .int s1, .ref (g_t 22)]) := by
  obtain ⟨⟨hx, hb, hml, hown, hts⟩, hK, -⟩ := id C0
  intro t_pictured t_loud t_picture t_took t_free x1 s1 s2 H locs ls hP hD hS hl hF
  unfold J_X11_laysPicture_39 at hF
  obtain ⟨hg_1, hF⟩ := gd_some hF
  refine xs_z (f := t_free) hx hb hK hP hD hS 5 2 rfl rfl rfl (in_v hg_1) dX11_laysPicture_39 (fun H locs hP hD hS => ?_)
  have hP : va_P D vwCl (w_X11_laysPicture K g_t t_raised t_undos t_reached t_length t_begin t_sort t_value t_word t_wrongAt t_badAt t_bad t_read t_pictured t_x t_all t_loud t_picture t_took (upd t_free (s1).toNatClampNeg (vp_nar .boolean s2))) H := hP
  have hD : va_D A (w_X11_laysPicture K g_t t_raised t_undos t_reached t_length t_begin t_sort t_value t_word t_wrongAt t_badAt t_bad t_read t_pictured t_x t_all t_loud t_picture t_took (upd t_free (s1).toNatClampNeg (vp_nar .boolean s2))) := hD
  refine lv_iinc (v := (x1 + (1 : Int32))) (lv' := [(1, .int (x1 + (1 : Int32))), (0, .ref (g_t 0))]) hx hb dX11_laysPicture_40 hl (k := 1) rfl (congrArg (fun z => x1 + z) (by decide)) (by decide) rfl (fun ls hl => ?_)
  refine lv_goto (tgt := 6) hx hb dX11_laysPicture_43 (by decide) ?_
  exact HK_6 t_pictured t_loud t_picture t_took (upd t_free (s1).toNatClampNeg (vp_nar .boolean s2)) (x1 + (1 : Int32)) H locs ls hP hD hS (lv_sub hl [1, 0] rfl) hF
def L_X11_laysPicture_6 (t_all : Nat → Int32) : Nat → Int32 → (Nat → Int32) → (Nat → Int32) → (Nat → Int32) → (Nat → Int32) → Int32 → Option (Int32 × (Nat → Int32) × (Nat → Int32) × (Nat → Int32) × (Nat → Int32))
  | 0, _, _, _, _, _, _ => none
  | n_ + 1, t_pictured, t_loud, t_picture, t_took, t_free, x1 =>
    if (300 : Int32) ≤ x1 then (J_X11_laysPicture_46 t_all t_pictured t_loud t_picture t_took t_free) else (gd_ (in_b x1 300) (if (t_loud (x1).toNatClampNeg) < (t_all 12) then (J_X11_laysPicture_39 t_all (L_X11_laysPicture_6 t_all n_) t_pictured t_loud t_picture t_took t_free x1 x1 (0 : Int32)) else (J_X11_laysPicture_39 t_all (L_X11_laysPicture_6 t_all n_) t_pictured t_loud t_picture t_took t_free x1 x1 (1 : Int32))))
set_option maxHeartbeats 4000000 in
set_option maxRecDepth 100000 in
theorem w_X11_laysPicture_6 {p : Program} {l : Launch} {e : Env} {s : State} {m : MethodId} {args : Array Value} {below : List Frame} {meth : Method} {c : Code} {D : va_G} {K : Nat → ClassId} {A : Nat → Prop} {Q : State → Prop} (C0 : cx_ p s m args c cX11_laysPicture 3 RX11 wsX11_laysPicture D K A) {g_t : Nat → Nat} {t_raised : Int32} {t_undos : Int32} {t_reached : Int32} {t_length : Int32} {t_begin : Int32} {t_sort : Int32} {t_value : Int32} {t_word : Int64} {t_wrongAt : Int32} {t_badAt : Int32} {t_bad : Int32} {t_read : Int32} {t_x : Int32} {t_all : Nat → Int32} {res : Int32 × (Nat → Int32) × (Nat → Int32) × (Nat → Int32) × (Nat → Int32)} (HR : ∀ (pc : Nat) (H : Heap) (locs : List Loc) (ls : Array Slot), decode cX11_laysPicture pc = .ok (.return_, 1) → va_P D vwCl (w_X11_laysPicture K g_t t_raised t_undos t_reached t_length t_begin t_sort t_value t_word t_wrongAt t_badAt t_bad t_read res.1 t_x t_all res.2.1 res.2.2.1 res.2.2.2.1 res.2.2.2.2) H → va_D A (w_X11_laysPicture K g_t t_raised t_undos t_reached t_length t_begin t_sort t_value t_word t_wrongAt t_badAt t_bad t_read res.1 t_x t_all res.2.1 res.2.2.1 res.2.2.2.1 res.2.2.2.2) → va_S A s.heap H locs → W p l e rmX11_laysPicture s m args below meth c H locs 0 0 Q (F0 m pc ls []))  :
    ∀ (n_ : Nat) (t_pictured : Int32) (t_loud : Nat → Int32) (t_picture : Nat → Int32) (t_took : Nat → Int32) (t_free : Nat → Int32) (x1 : Int32) (H : Heap) (locs : List Loc) (ls : Array Slot), va_P D vwCl (w_X11_laysPicture K g_t t_raised t_undos t_reached t_length t_begin t_sort t_value t_word t_wrongAt t_badAt t_bad t_read t_pictured t_x t_all t_loud t_picture t_took t_free) H → va_D A (w_X11_laysPicture K g_t t_raised t_undos t_reached t_length t_begin t_sort t_value t_word t_wrongAt t_badAt t_bad t_read t_pictured t_x t_all t_loud t_picture t_took t_free) → va_S A s.heap H locs → lv_has ls 3 [(0, .ref (g_t 0)), (1, .int x1)] → L_X11_laysPicture_6 t_all n_ t_pictured t_loud t_picture t_took t_free x1 = some res → W p l e rmX11_laysPicture s m args below meth c H locs 0 0 Q (F0 m 6 ls []) := by
  obtain ⟨⟨hx, hb, hml, hown, hts⟩, hK, -⟩ := id C0
  intro n_
  induction n_ with
  | zero =>
    intro t_pictured t_loud t_picture t_took t_free x1 H locs ls hP hD hS hl hF
    exact no_s (show (none : Option (Int32 × (Nat → Int32) × (Nat → Int32) × (Nat → Int32) × (Nat → Int32))) = some res from hF)
  | succ n_ ih =>
    intro t_pictured t_loud t_picture t_took t_free x1 H locs ls hP hD hS hl hF
    rw [L_X11_laysPicture_6] at hF
    refine lv_iload_n hx hb dX11_laysPicture_6 rfl (lv_at hl 1 rfl) ?_
    refine lv_sipush (v := 300) hx hb dX11_laysPicture_7 (by decide) ?_
    refine lv_icmp_ge (tgt := 46) hx hb dX11_laysPicture_10 (by decide) (fun c_1 => ?_) (fun c_1 => ?_)
    · have hF := it_pos c_1 hF
      exact w_X11_laysPicture_46 C0 HR t_pictured t_loud t_picture t_took t_free H locs ls hP hD hS (lv_sub hl [0] rfl) hF
    · have hF := it_neg c_1 hF
      refine lv_aload_n hx hb dX11_laysPicture_13 rfl (lv_at hl 0 rfl) ?_
      refine va_get (D := D) (ci := 10) (v := .ref (g_t 22)) (C := RX11) (T := TX11) (N := 30) hx hb hts iw_X11_laysPicture_X11 hown hK hP 0 rfl rfl 21 (by decide) (hts _ fl_X11_laysPicture_36) (fun _ h9 => h9) rfl dX11_laysPicture_14 ?_
      refine lv_iload_n hx hb dX11_laysPicture_17 rfl (lv_at hl 1 rfl) ?_
      refine lv_aload_n hx hb dX11_laysPicture_18 rfl (lv_at hl 0 rfl) ?_
      refine va_get (D := D) (ci := 10) (v := .ref (g_t 18)) (C := RX11) (T := TX11) (N := 30) hx hb hts iw_X11_laysPicture_X11 hown hK hP 0 rfl rfl 17 (by decide) (hts _ fl_X11_laysPicture_27) (fun _ h9 => h9) rfl dX11_laysPicture_19 ?_
      refine lv_iload_n hx hb dX11_laysPicture_22 rfl (lv_at hl 1 rfl) ?_
      obtain ⟨hg_2, hF⟩ := gd_some hF
      refine xl_i (f := t_loud) hx hb hK hP 2 0 rfl rfl rfl (in_v hg_2) dX11_laysPicture_23 ?_
      refine lv_aload_n hx hb dX11_laysPicture_24 rfl (lv_at hl 0 rfl) ?_
      refine va_get (D := D) (ci := 10) (v := .ref (g_t 2)) (C := RX11) (T := TX11) (N := 30) hx hb hts iw_X11_laysPicture_X11 hown hK hP 0 rfl rfl 1 (by decide) (hts _ fl_X11_laysPicture_7) (fun _ h9 => h9) rfl dX11_laysPicture_25 ?_
      refine lv_bipush (v := 12) hx hb dX11_laysPicture_28 (by decide) ?_
      refine xl_i (f := t_all) hx hb hK hP 1 0 rfl rfl (k := 12) (by decide) (in_v (by decide)) dX11_laysPicture_30 ?_
      refine lv_icmp_lt (tgt := 38) hx hb dX11_laysPicture_31 (by decide) (fun c_3 => ?_) (fun c_3 => ?_)
      · have hF := it_pos c_3 hF
        refine lv_iconst (v := 0) hx hb dX11_laysPicture_38 (by decide) ?_
        exact w_X11_laysPicture_39 C0 HR ih t_pictured t_loud t_picture t_took t_free x1 x1 (0 : Int32) H locs ls hP hD hS (lv_sub hl [0, 1] rfl) hF
      · have hF := it_neg c_3 hF
        refine lv_iconst (v := 1) hx hb dX11_laysPicture_34 (by decide) ?_
        refine lv_goto (tgt := 39) hx hb dX11_laysPicture_35 (by decide) ?_
        exact w_X11_laysPicture_39 C0 HR ih t_pictured t_loud t_picture t_took t_free x1 x1 (1 : Int32) H locs ls hP hD hS (lv_sub hl [0, 1] rfl) hF
def F_X11_laysPicture (t_pictured : Int32) (t_all : Nat → Int32) (t_loud : Nat → Int32) (t_picture : Nat → Int32) (t_took : Nat → Int32) (t_free : Nat → Int32) : Option (Int32 × (Nat → Int32) × (Nat → Int32) × (Nat → Int32) × (Nat → Int32)) :=
  (F_X11_laysLoud t_all t_loud).bind fun r_1 => (L_X11_laysPicture_6 t_all fu_ t_pictured r_1 t_picture t_took t_free (0 : Int32))
set_option maxHeartbeats 4000000 in
set_option maxRecDepth 100000 in
theorem c_X11_laysPicture (l : Launch) (D : va_G) (K : Nat → ClassId) (g_t : Nat → Nat) (t_raised : Int32) (t_undos : Int32) (t_reached : Int32) (t_length : Int32) (t_begin : Int32) (t_sort : Int32) (t_value : Int32) (t_word : Int64) (t_wrongAt : Int32) (t_badAt : Int32) (t_bad : Int32) (t_read : Int32) (t_pictured : Int32) (t_x : Int32) (t_all : Nat → Int32) (t_loud : Nat → Int32) (t_picture : Nat → Int32) (t_took : Nat → Int32) (t_free : Nat → Int32) (res : Int32 × (Nat → Int32) × (Nat → Int32) × (Nat → Int32) × (Nat → Int32)) (hF : F_X11_laysPicture t_pictured t_all t_loud t_picture t_took t_free = some res) :
    Mv_ l yX11_laysPicture wsX11_laysPicture rmX11_laysPicture D K [.ref (g_t 0)] (w_X11_laysPicture K g_t t_raised t_undos t_reached t_length t_begin t_sort t_value t_word t_wrongAt t_badAt t_bad t_read t_pictured t_x t_all t_loud t_picture t_took t_free) (w_X11_laysPicture K g_t t_raised t_undos t_reached t_length t_begin t_sort t_value t_word t_wrongAt t_badAt t_bad t_read res.1 t_x t_all res.2.1 res.2.2.1 res.2.2.2.1 res.2.2.2.2) := by
  refine en_v (cc := cX11_laysPicture) (maxL := 3) (own := RX11) (by decide) rfl rfl (Nat.le_of_ble_eq_true rfl) ?_
  intro p e s m args below meth c A Q H locs ls C0 hP hD hS hl HR
  obtain ⟨⟨hx, hb, hml, hown, hts⟩, hK, -⟩ := id C0
  have hl : lv_has ls 3 [(0, .ref (g_t 0))] := hl
  unfold F_X11_laysPicture at hF
  refine lv_aload_n hx hb dX11_laysPicture_0 rfl (lv_at hl 0 rfl) ?_
  obtain ⟨r_1, hc_2, hF⟩ := bn_some hF
  refine xc_v (wn := (w_X11_laysPicture K g_t t_raised t_undos t_reached t_length t_begin t_sort t_value t_word t_wrongAt t_badAt t_bad t_read t_pictured t_x t_all r_1 t_picture t_took t_free)) hP hD hS C0.2.2.1 [0, 1, 2] [3, 4, 5] [3, 4, 5, 0, 1, 2] rfl rfl (by decide) (by decide) rfl (by decide) (va_runV (As := []) (rest := []) C0.1 (c_X11_laysLoud l D K g_t t_raised t_undos t_reached t_length t_begin t_sort t_value t_word t_wrongAt t_badAt t_bad t_read t_pictured t_x t_all t_loud r_1 hc_2 H.size) (cwV 0 hts gX11_laysPicture_X11_laysLoud rfl rfl rfl (by decide +kernel) ⟨Nat.le_of_ble_eq_true rfl, Nat.le_of_ble_eq_true rfl⟩) (xp_V C0.2 hP hD hS [0, 1, 2] rfl (by decide) 10 0 rfl rfl rfl) rfl rfl hl.1 rfl (lv_room (Nat.le_of_ble_eq_true rfl)) dX11_laysPicture_1 ⟨Nat.le_of_ble_eq_true rfl, Nat.le_of_ble_eq_true rfl⟩) (fun H locs hP hD hS => ?_)
  refine lv_iconst (v := 0) hx hb dX11_laysPicture_4 (by decide) ?_
  refine lv_istore_n (lv' := [(1, .int (0 : Int32)), (0, .ref (g_t 0))]) hx hb dX11_laysPicture_5 rfl hl (by decide) rfl (fun ls hl => ?_)
  exact w_X11_laysPicture_6 C0 HR fu_ t_pictured r_1 t_picture t_took t_free (0 : Int32) H locs ls hP hD hS (lv_sub hl [1, 0] rfl) hF
