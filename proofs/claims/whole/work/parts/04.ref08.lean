/-! StaggerRadarModel.nextOrder()Z -/
abbrev rmX11_nextOrder : Room := { frames := 0, cells := 0, slots := 0, locals := 0 }
theorem fl_X11_nextOrder_7 : Cond.fieldLink RX11 7 "StaggerRadarModel" "all" "[I" ∈ wsX11_nextOrder := by decide +kernel
theorem fl_X11_nextOrder_48 : Cond.fieldLink RX11 48 "StaggerRadarModel" "order" "[I" ∈ wsX11_nextOrder := by decide +kernel
theorem iw_X11_nextOrder_X11 : ∀ w ∈ u_ws RX11 TX11 30, w ∈ wsX11_nextOrder := by decide +kernel
abbrev w_X11_nextOrder (K : Nat → ClassId) (g_t : Nat → Nat) (t_raised : Int32) (t_undos : Int32) (t_reached : Int32) (t_length : Int32) (t_begin : Int32) (t_sort : Int32) (t_value : Int32) (t_word : Int64) (t_wrongAt : Int32) (t_badAt : Int32) (t_bad : Int32) (t_read : Int32) (t_pictured : Int32) (t_x : Int32) (t_all : Nat → Int32) (t_order : Nat → Int32) : va_W := [((g_t 0), .inr (10, [.int t_raised, .ref (g_t 2), .ref (g_t 3), .ref (g_t 4), .ref (g_t 5), .int t_undos, .int t_reached, .int t_length, .int t_begin, .int t_sort, .int t_value, .long t_word, .int t_wrongAt, .int t_badAt, .int t_bad, .ref (g_t 16), .int t_read, .ref (g_t 18), .ref (g_t 19), .ref (g_t 20), .int t_pictured, .ref (g_t 22), .ref (g_t 23), .ref (g_t 24), .ref (g_t 25), .ref (g_t 26), .int t_x, .ref (g_t 28), .ref (g_t 29), .ref (g_t 30)])), ((g_t 2), .inl (K 0, 500, .inl t_all)), ((g_t 26), .inl (K 0, 5, .inl t_order))]
def L_X11_nextOrder_103 (t_all : Nat → Int32) : Nat → (Nat → Int32) → Int32 → Int32 → Option (Int32 × (Nat → Int32))
  | 0, _, _, _ => none
  | n_ + 1, t_order, x1, x4 =>
    if (((t_all 0) - x4) + x1) ≤ x4 then (some ((1 : Int32), t_order)) else (gd_ (in_b x4 5) (gd_ (in_b (((t_all 0) - x4) + x1) 5) (gd_ (in_b x4 5) (gd_ (in_b (((t_all 0) - x4) + x1) 5) (L_X11_nextOrder_103 t_all n_ (upd (upd t_order (x4).toNatClampNeg (t_order (((t_all 0) - x4) + x1).toNatClampNeg)) (((t_all 0) - x4) + x1).toNatClampNeg (t_order (x4).toNatClampNeg)) x1 (x4 + (1 : Int32)))))))
set_option maxHeartbeats 4000000 in
set_option maxRecDepth 100000 in
theorem w_X11_nextOrder_103 {p : Program} {l : Launch} {e : Env} {s : State} {m : MethodId} {args : Array Value} {below : List Frame} {meth : Method} {c : Code} {D : va_G} {K : Nat → ClassId} {A : Nat → Prop} {Q : State → Prop} (C0 : cx_ p s m args c cX11_nextOrder 6 RX11 wsX11_nextOrder D K A) {g_t : Nat → Nat} {t_raised : Int32} {t_undos : Int32} {t_reached : Int32} {t_length : Int32} {t_begin : Int32} {t_sort : Int32} {t_value : Int32} {t_word : Int64} {t_wrongAt : Int32} {t_badAt : Int32} {t_bad : Int32} {t_read : Int32} {t_pictured : Int32} {t_x : Int32} {t_all : Nat → Int32} {res : Int32 × (Nat → Int32)} (HR : ∀ (pc : Nat) (H : Heap) (locs : List Loc) (ls : Array Slot), decode cX11_nextOrder pc = .ok (.ireturn, 1) → narrow .boolean (.int res.1) = .int res.1 → va_P D vwCl (w_X11_nextOrder K g_t t_raised t_undos t_reached t_length t_begin t_sort t_value t_word t_wrongAt t_badAt t_bad t_read t_pictured t_x t_all res.2) H → va_D A (w_X11_nextOrder K g_t t_raised t_undos t_reached t_length t_begin t_sort t_value t_word t_wrongAt t_badAt t_bad t_read t_pictured t_x t_all res.2) → va_S A s.heap H locs → W p l e rmX11_nextOrder s m args below meth c H locs 0 0 Q (F0 m pc ls [.int res.1]))  :
    ∀ (n_ : Nat) (t_order : Nat → Int32) (x1 : Int32) (x4 : Int32) (H : Heap) (locs : List Loc) (ls : Array Slot), va_P D vwCl (w_X11_nextOrder K g_t t_raised t_undos t_reached t_length t_begin t_sort t_value t_word t_wrongAt t_badAt t_bad t_read t_pictured t_x t_all t_order) H → va_D A (w_X11_nextOrder K g_t t_raised t_undos t_reached t_length t_begin t_sort t_value t_word t_wrongAt t_badAt t_bad t_read t_pictured t_x t_all t_order) → va_S A s.heap H locs → lv_has ls 6 [(0, .ref (g_t 0)), (1, .int x1), (4, .int x4)] → L_X11_nextOrder_103 t_all n_ t_order x1 x4 = some res → W p l e rmX11_nextOrder s m args below meth c H locs 0 0 Q (F0 m 103 ls []) := by
  obtain ⟨⟨hx, hb, hml, hown, hts⟩, hK, -⟩ := id C0
  intro n_
  induction n_ with
  | zero =>
    intro t_order x1 x4 H locs ls hP hD hS hl hF
    exact no_s (show (none : Option (Int32 × (Nat → Int32))) = some res from hF)
  | succ n_ ih =>
    intro t_order x1 x4 H locs ls hP hD hS hl hF
    rw [L_X11_nextOrder_103] at hF
    refine lv_iload hx hb dX11_nextOrder_103 (lv_at hl 2 rfl) ?_
    refine lv_aload_n hx hb dX11_nextOrder_105 rfl (lv_at hl 0 rfl) ?_
    refine va_get (D := D) (ci := 10) (v := .ref (g_t 2)) (C := RX11) (T := TX11) (N := 30) hx hb hts iw_X11_nextOrder_X11 hown hK hP 0 rfl rfl 1 (by decide) (hts _ fl_X11_nextOrder_7) (fun _ h9 => h9) rfl dX11_nextOrder_106 ?_
    refine lv_iconst (v := 0) hx hb dX11_nextOrder_109 (by decide) ?_
    refine xl_i (f := t_all) hx hb hK hP 1 0 rfl rfl (k := 0) (by decide) (in_v (by decide)) dX11_nextOrder_110 ?_
    refine lv_iload hx hb dX11_nextOrder_111 (lv_at hl 2 rfl) ?_
    refine lv_isub hx hb dX11_nextOrder_113 ?_
    refine lv_iload_n hx hb dX11_nextOrder_114 rfl (lv_at hl 1 rfl) ?_
    refine lv_iadd hx hb dX11_nextOrder_115 ?_
    refine lv_icmp_ge (tgt := 168) hx hb dX11_nextOrder_116 (by decide) (fun c_1 => ?_) (fun c_1 => ?_)
    · have hF := it_pos c_1 hF
      refine lv_iconst (v := 1) hx hb dX11_nextOrder_168 (by decide) ?_
      obtain rfl := Option.some.inj hF
      exact HR 169 H locs ls dX11_nextOrder_169 narrow_b1 hP hD hS
    · have hF := it_neg c_1 hF
      refine lv_aload_n hx hb dX11_nextOrder_119 rfl (lv_at hl 0 rfl) ?_
      refine va_get (D := D) (ci := 10) (v := .ref (g_t 2)) (C := RX11) (T := TX11) (N := 30) hx hb hts iw_X11_nextOrder_X11 hown hK hP 0 rfl rfl 1 (by decide) (hts _ fl_X11_nextOrder_7) (fun _ h9 => h9) rfl dX11_nextOrder_120 ?_
      refine lv_iconst (v := 0) hx hb dX11_nextOrder_123 (by decide) ?_
      refine xl_i (f := t_all) hx hb hK hP 1 0 rfl rfl (k := 0) (by decide) (in_v (by decide)) dX11_nextOrder_124 ?_
      refine lv_iload hx hb dX11_nextOrder_125 (lv_at hl 2 rfl) ?_
      refine lv_isub hx hb dX11_nextOrder_127 ?_
      refine lv_iload_n hx hb dX11_nextOrder_128 rfl (lv_at hl 1 rfl) ?_
      refine lv_iadd hx hb dX11_nextOrder_129 ?_
      refine lv_istore (lv' := [(5, .int (((t_all 0) - x4) + x1)), (0, .ref (g_t 0)), (1, .int x1), (4, .int x4)]) hx hb dX11_nextOrder_130 hl (by decide) rfl (fun ls hl => ?_)
      refine lv_aload_n hx hb dX11_nextOrder_132 rfl (lv_at hl 1 rfl) ?_
      refine va_get (D := D) (ci := 10) (v := .ref (g_t 26)) (C := RX11) (T := TX11) (N := 30) hx hb hts iw_X11_nextOrder_X11 hown hK hP 0 rfl rfl 25 (by decide) (hts _ fl_X11_nextOrder_48) (fun _ h9 => h9) rfl dX11_nextOrder_133 ?_
      refine lv_iload hx hb dX11_nextOrder_136 (lv_at hl 3 rfl) ?_
      obtain ⟨hg_2, hF⟩ := gd_some hF
      refine xl_i (f := t_order) hx hb hK hP 2 0 rfl rfl rfl (in_v hg_2) dX11_nextOrder_138 ?_
      refine lv_istore_n (lv' := [(3, .int (t_order (x4).toNatClampNeg)), (5, .int (((t_all 0) - x4) + x1)), (0, .ref (g_t 0)), (1, .int x1), (4, .int x4)]) hx hb dX11_nextOrder_139 rfl hl (by decide) rfl (fun ls hl => ?_)
      refine lv_aload_n hx hb dX11_nextOrder_140 rfl (lv_at hl 2 rfl) ?_
      refine va_get (D := D) (ci := 10) (v := .ref (g_t 26)) (C := RX11) (T := TX11) (N := 30) hx hb hts iw_X11_nextOrder_X11 hown hK hP 0 rfl rfl 25 (by decide) (hts _ fl_X11_nextOrder_48) (fun _ h9 => h9) rfl dX11_nextOrder_141 ?_
      refine lv_iload hx hb dX11_nextOrder_144 (lv_at hl 4 rfl) ?_
      refine lv_aload_n hx hb dX11_nextOrder_146 rfl (lv_at hl 2 rfl) ?_
      refine va_get (D := D) (ci := 10) (v := .ref (g_t 26)) (C := RX11) (T := TX11) (N := 30) hx hb hts iw_X11_nextOrder_X11 hown hK hP 0 rfl rfl 25 (by decide) (hts _ fl_X11_nextOrder_48) (fun _ h9 => h9) rfl dX11_nextOrder_147 ?_
      refine lv_iload hx hb dX11_nextOrder_150 (lv_at hl 1 rfl) ?_
      obtain ⟨hg_3, hF⟩ := gd_some hF
      refine xl_i (f := t_order) hx hb hK hP 2 0 rfl rfl rfl (in_v hg_3) dX11_nextOrder_152 ?_
      obtain ⟨hg_4, hF⟩ := gd_some hF
      refine xs_i (f := t_order) hx hb hK hP hD hS 2 0 rfl rfl rfl (in_v hg_4) dX11_nextOrder_153 (fun H locs hP hD hS => ?_)
      have hP : va_P D vwCl (w_X11_nextOrder K g_t t_raised t_undos t_reached t_length t_begin t_sort t_value t_word t_wrongAt t_badAt t_bad t_read t_pictured t_x t_all (upd t_order (x4).toNatClampNeg (t_order (((t_all 0) - x4) + x1).toNatClampNeg))) H := hP
      have hD : va_D A (w_X11_nextOrder K g_t t_raised t_undos t_reached t_length t_begin t_sort t_value t_word t_wrongAt t_badAt t_bad t_read t_pictured t_x t_all (upd t_order (x4).toNatClampNeg (t_order (((t_all 0) - x4) + x1).toNatClampNeg))) := hD
      refine lv_aload_n hx hb dX11_nextOrder_154 rfl (lv_at hl 2 rfl) ?_
      refine va_get (D := D) (ci := 10) (v := .ref (g_t 26)) (C := RX11) (T := TX11) (N := 30) hx hb hts iw_X11_nextOrder_X11 hown hK hP 0 rfl rfl 25 (by decide) (hts _ fl_X11_nextOrder_48) (fun _ h9 => h9) rfl dX11_nextOrder_155 ?_
      refine lv_iload hx hb dX11_nextOrder_158 (lv_at hl 1 rfl) ?_
      refine lv_iload_n hx hb dX11_nextOrder_160 rfl (lv_at hl 0 rfl) ?_
      obtain ⟨hg_5, hF⟩ := gd_some hF
      refine xs_i (f := (upd t_order (x4).toNatClampNeg (t_order (((t_all 0) - x4) + x1).toNatClampNeg))) hx hb hK hP hD hS 2 0 rfl rfl rfl (in_v hg_5) dX11_nextOrder_161 (fun H locs hP hD hS => ?_)
      have hP : va_P D vwCl (w_X11_nextOrder K g_t t_raised t_undos t_reached t_length t_begin t_sort t_value t_word t_wrongAt t_badAt t_bad t_read t_pictured t_x t_all (upd (upd t_order (x4).toNatClampNeg (t_order (((t_all 0) - x4) + x1).toNatClampNeg)) (((t_all 0) - x4) + x1).toNatClampNeg (t_order (x4).toNatClampNeg))) H := hP
      have hD : va_D A (w_X11_nextOrder K g_t t_raised t_undos t_reached t_length t_begin t_sort t_value t_word t_wrongAt t_badAt t_bad t_read t_pictured t_x t_all (upd (upd t_order (x4).toNatClampNeg (t_order (((t_all 0) - x4) + x1).toNatClampNeg)) (((t_all 0) - x4) + x1).toNatClampNeg (t_order (x4).toNatClampNeg))) := hD
      refine lv_iinc (v := (x4 + (1 : Int32))) (lv' := [(4, .int (x4 + (1 : Int32))), (3, .int (t_order (x4).toNatClampNeg)), (5, .int (((t_all 0) - x4) + x1)), (0, .ref (g_t 0)), (1, .int x1)]) hx hb dX11_nextOrder_162 hl (k := 4) rfl (congrArg (fun z => x4 + z) (by decide)) (by decide) rfl (fun ls hl => ?_)
      refine lv_goto (tgt := 103) hx hb dX11_nextOrder_165 (by decide) ?_
      exact ih (upd (upd t_order (x4).toNatClampNeg (t_order (((t_all 0) - x4) + x1).toNatClampNeg)) (((t_all 0) - x4) + x1).toNatClampNeg (t_order (x4).toNatClampNeg)) x1 (x4 + (1 : Int32)) H locs ls hP hD hS (lv_sub hl [3, 4, 0] rfl) hF
def J_X11_nextOrder_72 (t_all : Nat → Int32) (t_order : Nat → Int32) (x1 : Int32) (x2 : Int32) : Option (Int32 × (Nat → Int32)) :=
  gd_ (in_b x1 5) (gd_ (in_b x2 5) (gd_ (in_b x1 5) (gd_ (in_b x2 5) (L_X11_nextOrder_103 t_all fu_ (upd (upd t_order (x1).toNatClampNeg (t_order (x2).toNatClampNeg)) (x2).toNatClampNeg (t_order (x1).toNatClampNeg)) x1 (x1 + (1 : Int32))))))
set_option maxHeartbeats 4000000 in
set_option maxRecDepth 100000 in
theorem w_X11_nextOrder_72 {p : Program} {l : Launch} {e : Env} {s : State} {m : MethodId} {args : Array Value} {below : List Frame} {meth : Method} {c : Code} {D : va_G} {K : Nat → ClassId} {A : Nat → Prop} {Q : State → Prop} (C0 : cx_ p s m args c cX11_nextOrder 6 RX11 wsX11_nextOrder D K A) {g_t : Nat → Nat} {t_raised : Int32} {t_undos : Int32} {t_reached : Int32} {t_length : Int32} {t_begin : Int32} {t_sort : Int32} {t_value : Int32} {t_word : Int64} {t_wrongAt : Int32} {t_badAt : Int32} {t_bad : Int32} {t_read : Int32} {t_pictured : Int32} {t_x : Int32} {t_all : Nat → Int32} {res : Int32 × (Nat → Int32)} (HR : ∀ (pc : Nat) (H : Heap) (locs : List Loc) (ls : Array Slot), decode cX11_nextOrder pc = .ok (.ireturn, 1) → narrow .boolean (.int res.1) = .int res.1 → va_P D vwCl (w_X11_nextOrder K g_t t_raised t_undos t_reached t_length t_begin t_sort t_value t_word t_wrongAt t_badAt t_bad t_read t_pictured t_x t_all res.2) H → va_D A (w_X11_nextOrder K g_t t_raised t_undos t_reached t_length t_begin t_sort t_value t_word t_wrongAt t_badAt t_bad t_read t_pictured t_x t_all res.2) → va_S A s.heap H locs → W p l e rmX11_nextOrder s m args below meth c H locs 0 0 Q (F0 m pc ls [.int res.1]))  :
    ∀ (t_order : Nat → Int32) (x1 : Int32) (x2 : Int32) (H : Heap) (locs : List Loc) (ls : Array Slot), va_P D vwCl (w_X11_nextOrder K g_t t_raised t_undos t_reached t_length t_begin t_sort t_value t_word t_wrongAt t_badAt t_bad t_read t_pictured t_x t_all t_order) H → va_D A (w_X11_nextOrder K g_t t_raised t_undos t_reached t_length t_begin t_sort t_value t_word t_wrongAt t_badAt t_bad t_read t_pictured t_x t_all t_order) → va_S A s.heap H locs → lv_has ls 6 [(0, .ref (g_t 0)), (1, .int x1), (2, .int x2)] → J_X11_nextOrder_72 t_all t_order x1 x2 = some res → W p l e rmX11_nextOrder s m args below meth c H locs 0 0 Q (F0 m 72 ls []) := by
  obtain ⟨⟨hx, hb, hml, hown, hts⟩, hK, -⟩ := id C0
  intro t_order x1 x2 H locs ls hP hD hS hl hF
  unfold J_X11_nextOrder_72 at hF
  refine lv_aload_n hx hb dX11_nextOrder_72 rfl (lv_at hl 0 rfl) ?_
  refine va_get (D := D) (ci := 10) (v := .ref (g_t 26)) (C := RX11) (T := TX11) (N := 30) hx hb hts iw_X11_nextOrder_X11 hown hK hP 0 rfl rfl 25 (by decide) (hts _ fl_X11_nextOrder_48) (fun _ h9 => h9) rfl dX11_nextOrder_73 ?_
  refine lv_iload_n hx hb dX11_nextOrder_76 rfl (lv_at hl 1 rfl) ?_
  obtain ⟨hg_1, hF⟩ := gd_some hF
  refine xl_i (f := t_order) hx hb hK hP 2 0 rfl rfl rfl (in_v hg_1) dX11_nextOrder_77 ?_
  refine lv_istore_n (lv' := [(3, .int (t_order (x1).toNatClampNeg)), (0, .ref (g_t 0)), (1, .int x1), (2, .int x2)]) hx hb dX11_nextOrder_78 rfl hl (by decide) rfl (fun ls hl => ?_)
  refine lv_aload_n hx hb dX11_nextOrder_79 rfl (lv_at hl 1 rfl) ?_
  refine va_get (D := D) (ci := 10) (v := .ref (g_t 26)) (C := RX11) (T := TX11) (N := 30) hx hb hts iw_X11_nextOrder_X11 hown hK hP 0 rfl rfl 25 (by decide) (hts _ fl_X11_nextOrder_48) (fun _ h9 => h9) rfl dX11_nextOrder_80 ?_
  refine lv_iload_n hx hb dX11_nextOrder_83 rfl (lv_at hl 2 rfl) ?_
  refine lv_aload_n hx hb dX11_nextOrder_84 rfl (lv_at hl 1 rfl) ?_
  refine va_get (D := D) (ci := 10) (v := .ref (g_t 26)) (C := RX11) (T := TX11) (N := 30) hx hb hts iw_X11_nextOrder_X11 hown hK hP 0 rfl rfl 25 (by decide) (hts _ fl_X11_nextOrder_48) (fun _ h9 => h9) rfl dX11_nextOrder_85 ?_
  refine lv_iload_n hx hb dX11_nextOrder_88 rfl (lv_at hl 3 rfl) ?_
  obtain ⟨hg_2, hF⟩ := gd_some hF
  refine xl_i (f := t_order) hx hb hK hP 2 0 rfl rfl rfl (in_v hg_2) dX11_nextOrder_89 ?_
  obtain ⟨hg_3, hF⟩ := gd_some hF
  refine xs_i (f := t_order) hx hb hK hP hD hS 2 0 rfl rfl rfl (in_v hg_3) dX11_nextOrder_90 (fun H locs hP hD hS => ?_)
  have hP : va_P D vwCl (w_X11_nextOrder K g_t t_raised t_undos t_reached t_length t_begin t_sort t_value t_word t_wrongAt t_badAt t_bad t_read t_pictured t_x t_all (upd t_order (x1).toNatClampNeg (t_order (x2).toNatClampNeg))) H := hP
  have hD : va_D A (w_X11_nextOrder K g_t t_raised t_undos t_reached t_length t_begin t_sort t_value t_word t_wrongAt t_badAt t_bad t_read t_pictured t_x t_all (upd t_order (x1).toNatClampNeg (t_order (x2).toNatClampNeg))) := hD
  refine lv_aload_n hx hb dX11_nextOrder_91 rfl (lv_at hl 1 rfl) ?_
  refine va_get (D := D) (ci := 10) (v := .ref (g_t 26)) (C := RX11) (T := TX11) (N := 30) hx hb hts iw_X11_nextOrder_X11 hown hK hP 0 rfl rfl 25 (by decide) (hts _ fl_X11_nextOrder_48) (fun _ h9 => h9) rfl dX11_nextOrder_92 ?_
  refine lv_iload_n hx hb dX11_nextOrder_95 rfl (lv_at hl 3 rfl) ?_
  refine lv_iload_n hx hb dX11_nextOrder_96 rfl (lv_at hl 0 rfl) ?_
  obtain ⟨hg_4, hF⟩ := gd_some hF
  refine xs_i (f := (upd t_order (x1).toNatClampNeg (t_order (x2).toNatClampNeg))) hx hb hK hP hD hS 2 0 rfl rfl rfl (in_v hg_4) dX11_nextOrder_97 (fun H locs hP hD hS => ?_)
  have hP : va_P D vwCl (w_X11_nextOrder K g_t t_raised t_undos t_reached t_length t_begin t_sort t_value t_word t_wrongAt t_badAt t_bad t_read t_pictured t_x t_all (upd (upd t_order (x1).toNatClampNeg (t_order (x2).toNatClampNeg)) (x2).toNatClampNeg (t_order (x1).toNatClampNeg))) H := hP
  have hD : va_D A (w_X11_nextOrder K g_t t_raised t_undos t_reached t_length t_begin t_sort t_value t_word t_wrongAt t_badAt t_bad t_read t_pictured t_x t_all (upd (upd t_order (x1).toNatClampNeg (t_order (x2).toNatClampNeg)) (x2).toNatClampNeg (t_order (x1).toNatClampNeg))) := hD
  refine lv_iload_n hx hb dX11_nextOrder_98 rfl (lv_at hl 2 rfl) ?_
  refine lv_iconst (v := 1) hx hb dX11_nextOrder_99 (by decide) ?_
  refine lv_iadd hx hb dX11_nextOrder_100 ?_
  refine lv_istore (lv' := [(4, .int (x1 + (1 : Int32))), (3, .int (t_order (x1).toNatClampNeg)), (0, .ref (g_t 0)), (1, .int x1), (2, .int x2)]) hx hb dX11_nextOrder_101 hl (by decide) rfl (fun ls hl => ?_)
  exact w_X11_nextOrder_103 C0 HR fu_ (upd (upd t_order (x1).toNatClampNeg (t_order (x2).toNatClampNeg)) (x2).toNatClampNeg (t_order (x1).toNatClampNeg)) x1 (x1 + (1 : Int32)) H locs ls hP hD hS (lv_sub hl [2, 3, 0] rfl) hF
def L_X11_nextOrder_51 (t_all : Nat → Int32) : Nat → (Nat → Int32) → Int32 → Int32 → Option (Int32 × (Nat → Int32))
  | 0, _, _, _ => none
  | n_ + 1, t_order, x1, x2 =>
    gd_ (in_b x2 5) (gd_ (in_b x1 5) (if (t_order (x1).toNatClampNeg) ≤ (t_order (x2).toNatClampNeg) then (J_X11_nextOrder_72 t_all t_order x1 x2) else (L_X11_nextOrder_51 t_all n_ t_order x1 (x2 + (-1 : Int32)))))
set_option maxHeartbeats 4000000 in
set_option maxRecDepth 100000 in
theorem w_X11_nextOrder_51 {p : Program} {l : Launch} {e : Env} {s : State} {m : MethodId} {args : Array Value} {below : List Frame} {meth : Method} {c : Code} {D : va_G} {K : Nat → ClassId} {A : Nat → Prop} {Q : State → Prop} (C0 : cx_ p s m args c cX11_nextOrder 6 RX11 wsX11_nextOrder D K A) {g_t : Nat → Nat} {t_raised : Int32} {t_undos : Int32} {t_reached : Int32} {t_length : Int32} {t_begin : Int32} {t_sort : Int32} {t_value : Int32} {t_word : Int64} {t_wrongAt : Int32} {t_badAt : Int32} {t_bad : Int32} {t_read : Int32} {t_pictured : Int32} {t_x : Int32} {t_all : Nat → Int32} {res : Int32 × (Nat → Int32)} (HR : ∀ (pc : Nat) (H : Heap) (locs : List Loc) (ls : Array Slot), decode cX11_nextOrder pc = .ok (.ireturn, 1) → narrow .boolean (.int res.1) = .int res.1 → va_P D vwCl (w_X11_nextOrder K g_t t_raised t_undos t_reached t_length t_begin t_sort t_value t_word t_wrongAt t_badAt t_bad t_read t_pictured t_x t_all res.2) H → va_D A (w_X11_nextOrder K g_t t_raised t_undos t_reached t_length t_begin t_sort t_value t_word t_wrongAt t_badAt t_bad t_read t_pictured t_x t_all res.2) → va_S A s.heap H locs → W p l e rmX11_nextOrder s m args below meth c H locs 0 0 Q (F0 m pc ls [.int res.1]))  :
    ∀ (n_ : Nat) (t_order : Nat → Int32) (x1 : Int32) (x2 : Int32) (H : Heap) (locs : List Loc) (ls : Array Slot), va_P D vwCl (w_X11_nextOrder K g_t t_raised t_undos t_reached t_length t_begin t_sort t_value t_word t_wrongAt t_badAt t_bad t_read t_pictured t_x t_all t_order) H → va_D A (w_X11_nextOrder K g_t t_raised t_undos t_reached t_length t_begin t_sort t_value t_word t_wrongAt t_badAt t_bad t_read t_pictured t_x t_all t_order) → va_S A s.heap H locs → lv_has ls 6 [(0, .ref (g_t 0)), (1, .int x1), (2, .int x2)] → L_X11_nextOrder_51 t_all n_ t_order x1 x2 = some res → W p l e rmX11_nextOrder s m args below meth c H locs 0 0 Q (F0 m 51 ls []) := by
  obtain ⟨⟨hx, hb, hml, hown, hts⟩, hK, -⟩ := id C0
  intro n_
  induction n_ with
  | zero =>
    intro t_order x1 x2 H locs ls hP hD hS hl hF
    exact no_s (show (none : Option (Int32 × (Nat → Int32))) = some res from hF)
  | succ n_ ih =>
    intro t_order x1 x2 H locs ls hP hD hS hl hF
    rw [L_X11_nextOrder_51] at hF
    refine lv_aload_n hx hb dX11_nextOrder_51 rfl (lv_at hl 0 rfl) ?_
    refine va_get (D := D) (ci := 10) (v := .ref (g_t 26)) (C := RX11) (T := TX11) (N := 30) hx hb hts iw_X11_nextOrder_X11 hown hK hP 0 rfl rfl 25 (by decide) (hts _ fl_X11_nextOrder_48) (fun _ h9 => h9) rfl dX11_nextOrder_52 ?_
    refine lv_iload_n hx hb dX11_nextOrder_55 rfl (lv_at hl 2 rfl) ?_
    obtain ⟨hg_1, hF⟩ := gd_some hF
    refine xl_i (f := t_order) hx hb hK hP 2 0 rfl rfl rfl (in_v hg_1) dX11_nextOrder_56 ?_
    refine lv_aload_n hx hb dX11_nextOrder_57 rfl (lv_at hl 0 rfl) ?_
    refine va_get (D := D) (ci := 10) (v := .ref (g_t 26)) (C := RX11) (T := TX11) (N := 30) hx hb hts iw_X11_nextOrder_X11 hown hK hP 0 rfl rfl 25 (by decide) (hts _ fl_X11_nextOrder_48) (fun _ h9 => h9) rfl dX11_nextOrder_58 ?_
    refine lv_iload_n hx hb dX11_nextOrder_61 rfl (lv_at hl 1 rfl) ?_
    obtain ⟨hg_2, hF⟩ := gd_some hF
    refine xl_i (f := t_order) hx hb hK hP 2 0 rfl rfl rfl (in_v hg_2) dX11_nextOrder_62 ?_
    refine lv_icmp_ge (tgt := 72) hx hb dX11_nextOrder_63 (by decide) (fun c_3 => ?_) (fun c_3 => ?_)
    · have hF := it_pos c_3 hF
      exact w_X11_nextOrder_72 C0 HR t_order x1 x2 H locs ls hP hD hS (lv_sub hl [0, 1, 2] rfl) hF
    · have hF := it_neg c_3 hF
      refine lv_iinc (v := (x2 + (-1 : Int32))) (lv' := [(2, .int (x2 + (-1 : Int32))), (0, .ref (g_t 0)), (1, .int x1)]) hx hb dX11_nextOrder_66 hl (k := 2) rfl (congrArg (fun z => x2 + z) (by decide)) (by decide) rfl (fun ls hl => ?_)
      refine lv_goto (tgt := 51) hx hb dX11_nextOrder_69 (by decide) ?_
      exact ih t_order x1 (x2 + (-1 : Int32)) H locs ls hP hD hS (lv_sub hl [1, 2, 0] rfl) hF
def J_X11_nextOrder_36 (t_all : Nat → Int32) (t_order : Nat → Int32) (x1 : Int32) : Option (Int32 × (Nat → Int32)) :=
  if (0 : Int32) ≤ x1 then (L_X11_nextOrder_51 t_all fu_ t_order x1 ((t_all 0) - (1 : Int32))) else (some ((0 : Int32), t_order))
set_option maxHeartbeats 4000000 in
set_option maxRecDepth 100000 in
theorem w_X11_nextOrder_36 {p : Program} {l : Launch} {e : Env} {s : State} {m : MethodId} {args : Array Value} {below : List Frame} {meth : Method} {c : Code} {D : va_G} {K : Nat → ClassId} {A : Nat → Prop} {Q : State → Prop} (C0 : cx_ p s m args c cX11_nextOrder 6 RX11 wsX11_nextOrder D K A) {g_t : Nat → Nat} {t_raised : Int32} {t_undos : Int32} {t_reached : Int32} {t_length : Int32} {t_begin : Int32} {t_sort : Int32} {t_value : Int32} {t_word : Int64} {t_wrongAt : Int32} {t_badAt : Int32} {t_bad : Int32} {t_read : Int32} {t_pictured : Int32} {t_x : Int32} {t_all : Nat → Int32} {res : Int32 × (Nat → Int32)} (HR : ∀ (pc : Nat) (H : Heap) (locs : List Loc) (ls : Array Slot), decode cX11_nextOrder pc = .ok (.ireturn, 1) → narrow .boolean (.int res.1) = .int res.1 → va_P D vwCl (w_X11_nextOrder K g_t t_raised t_undos t_reached t_length t_begin t_sort t_value t_word t_wrongAt t_badAt t_bad t_read t_pictured t_x t_all res.2) H → va_D A (w_X11_nextOrder K g_t t_raised t_undos t_reached t_length t_begin t_sort t_value t_word t_wrongAt t_badAt t_bad t_read t_pictured t_x t_all res.2) → va_S A s.heap H locs → W p l e rmX11_nextOrder s m args below meth c H locs 0 0 Q (F0 m pc ls [.int res.1]))  :
    ∀ (t_order : Nat → Int32) (x1 : Int32) (H : Heap) (locs : List Loc) (ls : Array Slot), va_P D vwCl (w_X11_nextOrder K g_t t_raised t_undos t_reached t_length t_begin t_sort t_value t_word t_wrongAt t_badAt t_bad t_read t_pictured t_x t_all t_order) H → va_D A (w_X11_nextOrder K g_t t_raised t_undos t_reached t_length t_begin t_sort t_value t_word t_wrongAt t_badAt t_bad t_read t_pictured t_x t_all t_order) → va_S A s.heap H locs → lv_has ls 6 [(0, .ref (g_t 0)), (1, .int x1)] → J_X11_nextOrder_36 t_all t_order x1 = some res → W p l e rmX11_nextOrder s m args below meth c H locs 0 0 Q (F0 m 36 ls []) := by
  obtain ⟨⟨hx, hb, hml, hown, hts⟩, hK, -⟩ := id C0
  intro t_order x1 H locs ls hP hD hS hl hF
  unfold J_X11_nextOrder_36 at hF
  refine lv_iload_n hx hb dX11_nextOrder_36 rfl (lv_at hl 1 rfl) ?_
  refine lv_if_ge (tgt := 42) hx hb dX11_nextOrder_37 (by decide) (fun c_1 => ?_) (fun c_1 => ?_)
  · have hF := it_pos c_1 hF
    refine lv_aload_n hx hb dX11_nextOrder_42 rfl (lv_at hl 0 rfl) ?_
    refine va_get (D := D) (ci := 10) (v := .ref (g_t 2)) (C := RX11) (T := TX11) (N := 30) hx hb hts iw_X11_nextOrder_X11 hown hK hP 0 rfl rfl 1 (by decide) (hts _ fl_X11_nextOrder_7) (fun _ h9 => h9) rfl dX11_nextOrder_43 ?_
    refine lv_iconst (v := 0) hx hb dX11_nextOrder_46 (by decide) ?_
    refine xl_i (f := t_all) hx hb hK hP 1 0 rfl rfl (k := 0) (by decide) (in_v (by decide)) dX11_nextOrder_47 ?_
    refine lv_iconst (v := 1) hx hb dX11_nextOrder_48 (by decide) ?_
    refine lv_isub hx hb dX11_nextOrder_49 ?_
    refine lv_istore_n (lv' := [(2, .int ((t_all 0) - (1 : Int32))), (0, .ref (g_t 0)), (1, .int x1)]) hx hb dX11_nextOrder_50 rfl hl (by decide) rfl (fun ls hl => ?_)
    exact w_X11_nextOrder_51 C0 HR fu_ t_order x1 ((t_all 0) - (1 : Int32)) H locs ls hP hD hS (lv_sub hl [1, 2, 0] rfl) hF
  · have hF := it_neg c_1 hF
    refine lv_iconst (v := 0) hx hb dX11_nextOrder_40 (by decide) ?_
    obtain rfl := Option.some.inj hF
    exact HR 41 H locs ls dX11_nextOrder_41 narrow_b0 hP hD hS
def L_X11_nextOrder_9 (t_all : Nat → Int32) : Nat → (Nat → Int32) → Int32 → Option (Int32 × (Nat → Int32))
  | 0, _, _ => none
  | n_ + 1, t_order, x1 =>
    if x1 < (0 : Int32) then (J_X11_nextOrder_36 t_all t_order x1) else (gd_ (in_b x1 5) (gd_ (in_b (x1 + (1 : Int32)) 5) (if (t_order (x1).toNatClampNeg) ≤ (t_order (x1 + (1 : Int32)).toNatClampNeg) then (J_X11_nextOrder_36 t_all t_order x1) else (L_X11_nextOrder_9 t_all n_ t_order (x1 + (-1 : Int32))))))
set_option maxHeartbeats 4000000 in
set_option maxRecDepth 100000 in
theorem w_X11_nextOrder_9 {p : Program} {l : Launch} {e : Env} {s : State} {m : MethodId} {args : Array Value} {below : List Frame} {meth : Method} {c : Code} {D : va_G} {K : Nat → ClassId} {A : Nat → Prop} {Q : State → Prop} (C0 : cx_ p s m args c cX11_nextOrder 6 RX11 wsX11_nextOrder D K A) {g_t : Nat → Nat} {t_raised : Int32} {t_undos : Int32} {t_reached : Int32} {t_length : Int32} {t_begin : Int32} {t_sort : Int32} {t_value : Int32} {t_word : Int64} {t_wrongAt : Int32} {t_badAt : Int32} {t_bad : Int32} {t_read : Int32} {t_pictured : Int32} {t_x : Int32} {t_all : Nat → Int32} {res : Int32 × (Nat → Int32)} (HR : ∀ (pc : Nat) (H : Heap) (locs : List Loc) (ls : Array Slot), decode cX11_nextOrder pc = .ok (.ireturn, 1) → narrow .boolean (.int res.1) = .int res.1 → va_P D vwCl (w_X11_nextOrder K g_t t_raised t_undos t_reached t_length t_begin t_sort t_value t_word t_wrongAt t_badAt t_bad t_read t_pictured t_x t_all res.2) H → va_D A (w_X11_nextOrder K g_t t_raised t_undos t_reached t_length t_begin t_sort t_value t_word t_wrongAt t_badAt t_bad t_read t_pictured t_x t_all res.2) → va_S A s.heap H locs → W p l e rmX11_nextOrder s m args below meth c H locs 0 0 Q (F0 m pc ls [.int res.1]))  :
    ∀ (n_ : Nat) (t_order : Nat → Int32) (x1 : Int32) (H : Heap) (locs : List Loc) (ls : Array Slot), va_P D vwCl (w_X11_nextOrder K g_t t_raised t_undos t_reached t_length t_begin t_sort t_value t_word t_wrongAt t_badAt t_bad t_read t_pictured t_x t_all t_order) H → va_D A (w_X11_nextOrder K g_t t_raised t_undos t_reached t_length t_begin t_sort t_value t_word t_wrongAt t_badAt t_bad t_read t_pictured t_x t_all t_order) → va_S A s.heap H locs → lv_has ls 6 [(0, .ref (g_t 0)), (1, .int x1)] → L_X11_nextOrder_9 t_all n_ t_order x1 = some res → W p l e rmX11_nextOrder s m args below meth c H locs 0 0 Q (F0 m 9 ls []) := by
  obtain ⟨⟨hx, hb, hml, hown, hts⟩, hK, -⟩ := id C0
  intro n_
  induction n_ with
  | zero =>
    intro t_order x1 H locs ls hP hD hS hl hF
    exact no_s (show (none : Option (Int32 × (Nat → Int32))) = some res from hF)
  | succ n_ ih =>
    intro t_order x1 H locs ls hP hD hS hl hF
    rw [L_X11_nextOrder_9] at hF
    refine lv_iload_n hx hb dX11_nextOrder_9 rfl (lv_at hl 1 rfl) ?_
    refine lv_if_lt (tgt := 36) hx hb dX11_nextOrder_10 (by decide) (fun c_1 => ?_) (fun c_1 => ?_)
    · have hF := it_pos c_1 hF
      exact w_X11_nextOrder_36 C0 HR t_order x1 H locs ls hP hD hS (lv_sub hl [0, 1] rfl) hF
    · have hF := it_neg c_1 hF
      refine lv_aload_n hx hb dX11_nextOrder_13 rfl (lv_at hl 0 rfl) ?_
      refine va_get (D := D) (ci := 10) (v := .ref (g_t 26)) (C := RX11) (T := TX11) (N := 30) hx hb hts iw_X11_nextOrder_X11 hown hK hP 0 rfl rfl 25 (by decide) (hts _ fl_X11_nextOrder_48) (fun _ h9 => h9) rfl dX11_nextOrder_14 ?_
      refine lv_iload_n hx hb dX11_nextOrder_17 rfl (lv_at hl 1 rfl) ?_
      obtain ⟨hg_2, hF⟩ := gd_some hF
      refine xl_i (f := t_order) hx hb hK hP 2 0 rfl rfl rfl (in_v hg_2) dX11_nextOrder_18 ?_
      refine lv_aload_n hx hb dX11_nextOrder_19 rfl (lv_at hl 0 rfl) ?_
      refine va_get (D := D) (ci := 10) (v := .ref (g_t 26)) (C := RX11) (T := TX11) (N := 30) hx hb hts iw_X11_nextOrder_X11 hown hK hP 0 rfl rfl 25 (by decide) (hts _ fl_X11_nextOrder_48) (fun _ h9 => h9) rfl dX11_nextOrder_20 ?_
      refine lv_iload_n hx hb dX11_nextOrder_23 rfl (lv_at hl 1 rfl) ?_
      refine lv_iconst (v := 1) hx hb dX11_nextOrder_24 (by decide) ?_
      refine lv_iadd hx hb dX11_nextOrder_25 ?_
      obtain ⟨hg_3, hF⟩ := gd_some hF
      refine xl_i (f := t_order) hx hb hK hP 2 0 rfl rfl rfl (in_v hg_3) dX11_nextOrder_26 ?_
      refine lv_icmp_le (tgt := 36) hx hb dX11_nextOrder_27 (by decide) (fun c_4 => ?_) (fun c_4 => ?_)
      · have hF := it_pos c_4 hF
        exact w_X11_nextOrder_36 C0 HR t_order x1 H locs ls hP hD hS (lv_sub hl [0, 1] rfl) hF
      · have hF := it_neg c_4 hF
        refine lv_iinc (v := (x1 + (-1 : Int32))) (lv' := [(1, .int (x1 + (-1 : Int32))), (0, .ref (g_t 0))]) hx hb dX11_nextOrder_30 hl (k := 1) rfl (congrArg (fun z => x1 + z) (by decide)) (by decide) rfl (fun ls hl => ?_)
        refine lv_goto (tgt := 9) hx hb dX11_nextOrder_33 (by decide) ?_
        exact ih t_order (x1 + (-1 : Int32)) H locs ls hP hD hS (lv_sub hl [1, 0] rfl) hF
def F_X11_nextOrder (t_all : Nat → Int32) (t_order : Nat → Int32) : Option (Int32 × (Nat → Int32)) :=
  L_X11_nextOrder_9 t_all fu_ t_order ((t_all 0) - (2 : Int32))
set_option maxHeartbeats 4000000 in
set_option maxRecDepth 100000 in
theorem c_X11_nextOrder (l : Launch) (D : va_G) (K : Nat → ClassId) (g_t : Nat → Nat) (t_raised : Int32) (t_undos : Int32) (t_reached : Int32) (t_length : Int32) (t_begin : Int32) (t_sort : Int32) (t_value : Int32) (t_word : Int64) (t_wrongAt : Int32) (t_badAt : Int32) (t_bad : Int32) (t_read : Int32) (t_pictured : Int32) (t_x : Int32) (t_all : Nat → Int32) (t_order : Nat → Int32) (res : Int32 × (Nat → Int32)) (hF : F_X11_nextOrder t_all t_order = some res) :
    Mi_ l yX11_nextOrder wsX11_nextOrder rmX11_nextOrder D K [.ref (g_t 0)] (w_X11_nextOrder K g_t t_raised t_undos t_reached t_length t_begin t_sort t_value t_word t_wrongAt t_badAt t_bad t_read t_pictured t_x t_all t_order) (w_X11_nextOrder K g_t t_raised t_undos t_reached t_length t_begin t_sort t_value t_word t_wrongAt t_badAt t_bad t_read t_pictured t_x t_all res.2) (res.1) := by
  refine en_z (cc := cX11_nextOrder) (maxL := 6) (own := RX11) (by decide) rfl rfl (Nat.le_of_ble_eq_true rfl) ?_
  intro p e s m args below meth c A Q H locs ls C0 hP hD hS hl HR
  obtain ⟨⟨hx, hb, hml, hown, hts⟩, hK, -⟩ := id C0
  have hl : lv_has ls 6 [(0, .ref (g_t 0))] := hl
  unfold F_X11_nextOrder at hF
  refine lv_aload_n hx hb dX11_nextOrder_0 rfl (lv_at hl 0 rfl) ?_
  refine va_get (D := D) (ci := 10) (v := .ref (g_t 2)) (C := RX11) (T := TX11) (N := 30) hx hb hts iw_X11_nextOrder_X11 hown hK hP 0 rfl rfl 1 (by decide) (hts _ fl_X11_nextOrder_7) (fun _ h9 => h9) rfl dX11_nextOrder_1 ?_
  refine lv_iconst (v := 0) hx hb dX11_nextOrder_4 (by decide) ?_
  refine xl_i (f := t_all) hx hb hK hP 1 0 rfl rfl (k := 0) (by decide) (in_v (by decide)) dX11_nextOrder_5 ?_
  refine lv_iconst (v := 2) hx hb dX11_nextOrder_6 (by decide) ?_
  refine lv_isub hx hb dX11_nextOrder_7 ?_
  refine lv_istore_n (lv' := [(1, .int ((t_all 0) - (2 : Int32))), (0, .ref (g_t 0))]) hx hb dX11_nextOrder_8 rfl hl (by decide) rfl (fun ls hl => ?_)
  exact w_X11_nextOrder_9 C0 HR fu_ t_order ((t_all 0) - (2 : Int32)) H locs ls hP hD hS (lv_sub hl [1, 0] rfl) hF

/-! StaggerRadarModel.order(II)I -/
abbrev rmX11_order : Room := { frames := 3, cells := 0, slots := 0, locals := 70 }
theorem fl_X11_order_7 : Cond.fieldLink RX11 7 "StaggerRadarModel" "all" "[I" ∈ wsX11_order := by decide +kernel
theorem fl_X11_order_48 : Cond.fieldLink RX11 48 "StaggerRadarModel" "order" "[I" ∈ wsX11_order := by decide +kernel
theorem fl_X11_order_51 : Cond.fieldLink RX11 51 "StaggerRadarModel" "bestOrder" "[I" ∈ wsX11_order := by decide +kernel
theorem fl_X11_order_66 : Cond.fieldLink RX11 66 "StaggerRadarModel" "raised" "I" ∈ wsX11_order := by decide +kernel
theorem iw_X11_order_X11 : ∀ w ∈ u_ws RX11 TX11 30, w ∈ wsX11_order := by decide +kernel
abbrev w_X11_order (K : Nat → ClassId) (g_t : Nat → Nat) (t_raised : Int32) (t_undos : Int32) (t_reached : Int32) (t_length : Int32) (t_begin : Int32) (t_sort : Int32) (t_value : Int32) (t_word : Int64) (t_wrongAt : Int32) (t_badAt : Int32) (t_bad : Int32) (t_read : Int32) (t_pictured : Int32) (t_x : Int32) (t_all : Nat → Int32) (t_sent : Nat → Int32) (t_order : Nat → Int32) (t_bestOrder : Nat → Int32) : va_W := [((g_t 0), .inr (10, [.int t_raised, .ref (g_t 2), .ref (g_t 3), .ref (g_t 4), .ref (g_t 5), .int t_undos, .int t_reached, .int t_length, .int t_begin, .int t_sort, .int t_value, .long t_word, .int t_wrongAt, .int t_badAt, .int t_bad, .ref (g_t 16), .int t_read, .ref (g_t 18), .ref (g_t 19), .ref (g_t 20), .int t_pictured, .ref (g_t 22), .ref (g_t 23), .ref (g_t 24), .ref (g_t 25), .ref (g_t 26), .int t_x, .ref (g_t 28), .ref (g_t 29), .ref (g_t 30)])), ((g_t 2), .inl (K 0, 500, .inl t_all)), ((g_t 25), .inl (K 0, 65, .inl t_sent)), ((g_t 26), .inl (K 0, 5, .inl t_order)), ((g_t 28), .inl (K 0, 5, .inl t_bestOrder))]
def J_X11_order_135 (t_all : Nat → Int32) (t_raised : Int32) (t_x : Int32) (t_sent : Nat → Int32) (t_order : Nat → Int32) (t_bestOrder : Nat → Int32) (x2 : Int32) (x3 : Int32) : Option (Int32 × Int32 × Int32 × (Nat → Int32) × (Nat → Int32) × (Nat → Int32)) :=
  if x2 = (0 : Int32) then (some (x3, t_raised, t_x, t_sent, t_order, t_bestOrder)) else (gd_ (in_b (x2 - (10 : Int32)) 5) ((F_X11_gapAt t_all (t_bestOrder (x2 - (10 : Int32)).toNatClampNeg)).bind fun r_3 => (some (r_3, t_raised, t_x, t_sent, t_order, t_bestOrder))))
set_option maxHeartbeats 4000000 in
set_option maxRecDepth 100000 in
theorem w_X11_order_135 {p : Program} {l : Launch} {e : Env} {s : State} {m : MethodId} {args : Array Value} {below : List Frame} {meth : Method} {c : Code} {D : va_G} {K : Nat → ClassId} {A : Nat → Prop} {Q : State → Prop} (C0 : cx_ p s m args c cX11_order 7 RX11 wsX11_order D K A) {g_t : Nat → Nat} {t_undos : Int32} {t_reached : Int32} {t_length : Int32} {t_begin : Int32} {t_sort : Int32} {t_value : Int32} {t_word : Int64} {t_wrongAt : Int32} {t_badAt : Int32} {t_bad : Int32} {t_read : Int32} {t_pictured : Int32} {t_all : Nat → Int32} {res : Int32 × Int32 × Int32 × (Nat → Int32) × (Nat → Int32) × (Nat → Int32)} (HR : ∀ (pc : Nat) (H : Heap) (locs : List Loc) (ls : Array Slot), decode cX11_order pc = .ok (.ireturn, 1) → va_P D vwCl (w_X11_order K g_t res.2.1 t_undos t_reached t_length t_begin t_sort t_value t_word t_wrongAt t_badAt t_bad t_read t_pictured res.2.2.1 t_all res.2.2.2.1 res.2.2.2.2.1 res.2.2.2.2.2) H → va_D A (w_X11_order K g_t res.2.1 t_undos t_reached t_length t_begin t_sort t_value t_word t_wrongAt t_badAt t_bad t_read t_pictured res.2.2.1 t_all res.2.2.2.1 res.2.2.2.2.1 res.2.2.2.2.2) → va_S A s.heap H locs → W p l e rmX11_order s m args below meth c H locs 0 0 Q (F0 m pc ls [.int res.1]))  :
    ∀ (t_raised : Int32) (t_x : Int32) (t_sent : Nat → Int32) (t_order : Nat → Int32) (t_bestOrder : Nat → Int32) (x2 : Int32) (x3 : Int32) (H : Heap) (locs : List Loc) (ls : Array Slot), va_P D vwCl (w_X11_order K g_t t_raised t_undos t_reached t_length t_begin t_sort t_value t_word t_wrongAt t_badAt t_bad t_read t_pictured t_x t_all t_sent t_order t_bestOrder) H → va_D A (w_X11_order K g_t t_raised t_undos t_reached t_length t_begin t_sort t_value t_word t_wrongAt t_badAt t_bad t_read t_pictured t_x t_all t_sent t_order t_bestOrder) → va_S A s.heap H locs → lv_has ls 7 [(0, .ref (g_t 0)), (2, .int x2), (3, .int x3)] → J_X11_order_135 t_all t_raised t_x t_sent t_order t_bestOrder x2 x3 = some res → W p l e rmX11_order s m args below meth c H locs 0 0 Q (F0 m 135 ls []) := by
  obtain ⟨⟨hx, hb, hml, hown, hts⟩, hK, -⟩ := id C0
  intro t_raised t_x t_sent t_order t_bestOrder x2 x3 H locs ls hP hD hS hl hF
  unfold J_X11_order_135 at hF
  refine lv_iload_n hx hb dX11_order_135 rfl (lv_at hl 1 rfl) ?_
  refine lv_if_ne (tgt := 143) hx hb dX11_order_136 (by decide) (fun c_1 => ?_) (fun c_1 => ?_)
  · have hF := it_neg c_1 hF
    refine lv_aload_n hx hb dX11_order_143 rfl (lv_at hl 0 rfl) ?_
    refine lv_aload_n hx hb dX11_order_144 rfl (lv_at hl 0 rfl) ?_
    refine va_get (D := D) (ci := 10) (v := .ref (g_t 28)) (C := RX11) (T := TX11) (N := 30) hx hb hts iw_X11_order_X11 hown hK hP 0 rfl rfl 27 (by decide) (hts _ fl_X11_order_51) (fun _ h9 => h9) rfl dX11_order_145 ?_
    refine lv_iload_n hx hb dX11_order_148 rfl (lv_at hl 1 rfl) ?_
    refine lv_bipush (v := 10) hx hb dX11_order_149 (by decide) ?_
    refine lv_isub hx hb dX11_order_151 ?_
    obtain ⟨hg_2, hF⟩ := gd_some hF
    refine xl_i (f := t_bestOrder) hx hb hK hP 4 0 rfl rfl rfl (in_v hg_2) dX11_order_152 ?_
    obtain ⟨r_3, hc_4, hF⟩ := bn_some hF
    refine xc_i (wn := (w_X11_order K g_t t_raised t_undos t_reached t_length t_begin t_sort t_value t_word t_wrongAt t_badAt t_bad t_read t_pictured t_x t_all t_sent t_order t_bestOrder)) hP hD hS C0.2.2.1 [0, 1] [2, 3, 4] [3, 4, 0, 1, 2] rfl rfl (by decide) (by decide) rfl (by decide) (va_runV (As := [.int (t_bestOrder (x2 - (10 : Int32)).toNatClampNeg)]) (rest := []) C0.1 (c_X11_gapAt l D K g_t t_raised t_undos t_reached t_length t_begin t_sort t_value t_word t_wrongAt t_badAt t_bad t_read t_pictured t_x t_all (t_bestOrder (x2 - (10 : Int32)).toNatClampNeg) r_3 hc_4 H.size) (cwV 1 hts gX11_order_X11_gapAt rfl rfl rfl (by decide +kernel) ⟨Nat.le_of_ble_eq_true rfl, Nat.le_of_ble_eq_true rfl⟩) (xp_V C0.2 hP hD hS [0, 1] rfl (by decide) 10 0 rfl rfl rfl) rfl rfl hl.1 rfl (lv_room (Nat.le_of_ble_eq_true rfl)) dX11_order_153 ⟨Nat.le_of_ble_eq_true rfl, Nat.le_of_ble_eq_true rfl⟩) (fun H locs hP hD hS => ?_)
    obtain rfl := Option.some.inj hF
    exact HR 156 H locs ls dX11_order_156 hP hD hS
  · have hF := it_pos c_1 hF
    refine lv_iload_n hx hb dX11_order_139 rfl (lv_at hl 2 rfl) ?_
    refine lv_goto (tgt := 156) hx hb dX11_order_140 (by decide) ?_
    obtain rfl := Option.some.inj hF
    exact HR 156 H locs ls dX11_order_156 hP hD hS
def J_X11_order_126 (t_all : Nat → Int32) (k_58 : Int32 → Int32 → (Nat → Int32) → (Nat → Int32) → (Nat → Int32) → Int32 → Int32 → Int32 → Int32 → Option (Int32 × Int32 × Int32 × (Nat → Int32) × (Nat → Int32) × (Nat → Int32))) (t_raised : Int32) (t_x : Int32) (t_sent : Nat → Int32) (t_order : Nat → Int32) (t_bestOrder : Nat → Int32) (x1 : Int32) (x2 : Int32) (x3 : Int32) : Option (Int32 × Int32 × Int32 × (Nat → Int32) × (Nat → Int32) × (Nat → Int32)) :=
  (F_X11_nextOrder t_all t_order).bind fun r_1 => (k_58 t_raised t_x t_sent r_1.2 t_bestOrder x1 x2 x3 r_1.1)
set_option maxHeartbeats 4000000 in
set_option maxRecDepth 100000 in
theorem w_X11_order_126 {p : Program} {l : Launch} {e : Env} {s : State} {m : MethodId} {args : Array Value} {below : List Frame} {meth : Method} {c : Code} {D : va_G} {K : Nat → ClassId} {A : Nat → Prop} {Q : State → Prop} (C0 : cx_ p s m args c cX11_order 7 RX11 wsX11_order D K A) {g_t : Nat → Nat} {t_undos : Int32} {t_reached : Int32} {t_length : Int32} {t_begin : Int32} {t_sort : Int32} {t_value : Int32} {t_word : Int64} {t_wrongAt : Int32} {t_badAt : Int32} {t_bad : Int32} {t_read : Int32} {t_pictured : Int32} {t_all : Nat → Int32} {res : Int32 × Int32 × Int32 × (Nat → Int32) × (Nat → Int32) × (Nat → Int32)} (HR : ∀ (pc : Nat) (H : Heap) (locs : List Loc) (ls : Array Slot), decode cX11_order pc = .ok (.ireturn, 1) → va_P D vwCl (w_X11_order K g_t res.2.1 t_undos t_reached t_length t_begin t_sort t_value t_word t_wrongAt t_badAt t_bad t_read t_pictured res.2.2.1 t_all res.2.2.2.1 res.2.2.2.2.1 res.2.2.2.2.2) H → va_D A (w_X11_order K g_t res.2.1 t_undos t_reached t_length t_begin t_sort t_value t_word t_wrongAt t_badAt t_bad t_read t_pictured res.2.2.1 t_all res.2.2.2.1 res.2.2.2.2.1 res.2.2.2.2.2) → va_S A s.heap H locs → W p l e rmX11_order s m args below meth c H locs 0 0 Q (F0 m pc ls [.int res.1])) {k_58 : Int32 → Int32 → (Nat → Int32) → (Nat → Int32) → (Nat → Int32) → Int32 → Int32 → Int32 → Int32 → Option (Int32 × Int32 × Int32 × (Nat → Int32) × (Nat → Int32) × (Nat → Int32))} (HK_58 : ∀ (t_raised : Int32) (t_x : Int32) (t_sent : Nat → Int32) (t_order : Nat → Int32) (t_bestOrder : Nat → Int32) (x1 : Int32) (x2 : Int32) (x3 : Int32) (x4 : Int32) (H : Heap) (locs : List Loc) (ls : Array Slot), va_P D vwCl (w_X11_order K g_t t_raised t_undos t_reached t_length t_begin t_sort t_value t_word t_wrongAt t_badAt t_bad t_read t_pictured t_x t_all t_sent t_order t_bestOrder) H → va_D A (w_X11_order K g_t t_raised t_undos t_reached t_length t_begin t_sort t_value t_word t_wrongAt t_badAt t_bad t_read t_pictured t_x t_all t_sent t_order t_bestOrder) → va_S A s.heap H locs → lv_has ls 7 [(0, .ref (g_t 0)), (1, .int x1), (2, .int x2), (3, .int x3), (4, .int x4)] → k_58 t_raised t_x t_sent t_order t_bestOrder x1 x2 x3 x4 = some res → W p l e rmX11_order s m args below meth c H locs 0 0 Q (F0 m 58 ls [])) :
    ∀ (t_raised : Int32) (t_x : Int32) (t_sent : Nat → Int32) (t_order : Nat → Int32) (t_bestOrder : Nat → Int32) (x1 : Int32) (x2 : Int32) (x3 : Int32) (H : Heap) (locs : List Loc) (ls : Array Slot), va_P D vwCl (w_X11_order K g_t t_raised t_undos t_reached t_length t_begin t_sort t_value t_word t_wrongAt t_badAt t_bad t_read t_pictured t_x t_all t_sent t_order t_bestOrder) H → va_D A (w_X11_order K g_t t_raised t_undos t_reached t_length t_begin t_sort t_value t_word t_wrongAt t_badAt t_bad t_read t_pictured t_x t_all t_sent t_order t_bestOrder) → va_S A s.heap H locs → lv_has ls 7 [(0, .ref (g_t 0)), (1, .int x1), (2, .int x2), (3, .int x3)] → J_X11_order_126 t_all k_58 t_raised t_x t_sent t_order t_bestOrder x1 x2 x3 = some res → W p l e rmX11_order s m args below meth c H locs 0 0 Q (F0 m 126 ls []) := by
  obtain ⟨⟨hx, hb, hml, hown, hts⟩, hK, -⟩ := id C0
  intro t_raised t_x t_sent t_order t_bestOrder x1 x2 x3 H locs ls hP hD hS hl hF
  unfold J_X11_order_126 at hF
  refine lv_aload_n hx hb dX11_order_126 rfl (lv_at hl 0 rfl) ?_
  obtain ⟨r_1, hc_2, hF⟩ := bn_some hF
  refine xc_i (wn := (w_X11_order K g_t t_raised t_undos t_reached t_length t_begin t_sort t_value t_word t_wrongAt t_badAt t_bad t_read t_pictured t_x t_all t_sent r_1.2 t_bestOrder)) hP hD hS C0.2.2.1 [0, 1, 3] [2, 4] [2, 3, 0, 4, 1] rfl rfl (by decide) (by decide) rfl (by decide) (va_runV (As := []) (rest := []) C0.1 (c_X11_nextOrder l D K g_t t_raised t_undos t_reached t_length t_begin t_sort t_value t_word t_wrongAt t_badAt t_bad t_read t_pictured t_x t_all t_order r_1 hc_2 H.size) (cwV 0 hts gX11_order_X11_nextOrder rfl rfl rfl (by decide +kernel) ⟨Nat.le_of_ble_eq_true rfl, Nat.le_of_ble_eq_true rfl⟩) (xp_V C0.2 hP hD hS [0, 1, 3] rfl (by decide) 10 0 rfl rfl rfl) rfl rfl hl.1 rfl (lv_room (Nat.le_of_ble_eq_true rfl)) dX11_order_127 ⟨Nat.le_of_ble_eq_true rfl, Nat.le_of_ble_eq_true rfl⟩) (fun H locs hP hD hS => ?_)
  refine lv_istore (lv' := [(4, .int r_1.1), (0, .ref (g_t 0)), (1, .int x1), (2, .int x2), (3, .int x3)]) hx hb dX11_order_130 hl (by decide) rfl (fun ls hl => ?_)
  refine lv_goto (tgt := 58) hx hb dX11_order_132 (by decide) ?_
  exact HK_58 t_raised t_x t_sent r_1.2 t_bestOrder x1 x2 x3 r_1.1 H locs ls hP hD hS (lv_sub hl [1, 2, 3, 4, 0] rfl) hF
def L_X11_order_95 (t_all : Nat → Int32) (k_58 : Int32 → Int32 → (Nat → Int32) → (Nat → Int32) → (Nat → Int32) → Int32 → Int32 → Int32 → Int32 → Option (Int32 × Int32 × Int32 × (Nat → Int32) × (Nat → Int32) × (Nat → Int32))) : Nat → Int32 → Int32 → (Nat → Int32) → (Nat → Int32) → (Nat → Int32) → Int32 → Int32 → Int32 → Int32 → Option (Int32 × Int32 × Int32 × (Nat → Int32) × (Nat → Int32) × (Nat → Int32))
  | 0, _, _, _, _, _, _, _, _, _ => none
  | n_ + 1, t_raised, t_x, t_sent, t_order, t_bestOrder, x1, x2, x3, x6 =>
    if (t_all 0) ≤ x6 then (J_X11_order_126 t_all k_58 t_raised t_x t_sent t_order t_bestOrder x1 x2 x3) else (gd_ (in_b x6 5) (gd_ (in_b x6 5) (L_X11_order_95 t_all k_58 n_ t_raised t_x t_sent t_order (upd t_bestOrder (x6).toNatClampNeg (t_order (x6).toNatClampNeg)) x1 x2 x3 (x6 + (1 : Int32)))))
set_option maxHeartbeats 4000000 in
set_option maxRecDepth 100000 in
theorem w_X11_order_95 {p : Program} {l : Launch} {e : Env} {s : State} {m : MethodId} {args : Array Value} {below : List Frame} {meth : Method} {c : Code} {D : va_G} {K : Nat → ClassId} {A : Nat → Prop} {Q : State → Prop} (C0 : cx_ p s m args c cX11_order 7 RX11 wsX11_order D K A) {g_t : Nat → Nat} {t_undos : Int32} {t_reached : Int32} {t_length : Int32} {t_begin : Int32} {t_sort : Int32} {t_value : Int32} {t_word : Int64} {t_wrongAt : Int32} {t_badAt : Int32} {t_bad : Int32} {t_read : Int32} {t_pictured : Int32} {t_all : Nat → Int32} {res : Int32 × Int32 × Int32 × (Nat → Int32) × (Nat → Int32) × (Nat → Int32)} (HR : ∀ (pc : Nat) (H : Heap) (locs : List Loc) (ls : Array Slot), decode cX11_order pc = .ok (.ireturn, 1) → va_P D vwCl (w_X11_order K g_t res.2.1 t_undos t_reached t_length t_begin t_sort t_value t_word t_wrongAt t_badAt t_bad t_read t_pictured res.2.2.1 t_all res.2.2.2.1 res.2.2.2.2.1 res.2.2.2.2.2) H → va_D A (w_X11_order K g_t res.2.1 t_undos t_reached t_length t_begin t_sort t_value t_word t_wrongAt t_badAt t_bad t_read t_pictured res.2.2.1 t_all res.2.2.2.1 res.2.2.2.2.1 res.2.2.2.2.2) → va_S A s.heap H locs → W p l e rmX11_order s m args below meth c H locs 0 0 Q (F0 m pc ls [.int res.1])) {k_58 : Int32 → Int32 → (Nat → Int32) → (Nat → Int32) → (Nat → Int32) → Int32 → Int32 → Int32 → Int32 → Option (Int32 × Int32 × Int32 × (Nat → Int32) × (Nat → Int32) × (Nat → Int32))} (HK_58 : ∀ (t_raised : Int32) (t_x : Int32) (t_sent : Nat → Int32) (t_order : Nat → Int32) (t_bestOrder : Nat → Int32) (x1 : Int32) (x2 : Int32) (x3 : Int32) (x4 : Int32) (H : Heap) (locs : List Loc) (ls : Array Slot), va_P D vwCl (w_X11_order K g_t t_raised t_undos t_reached t_length t_begin t_sort t_value t_word t_wrongAt t_badAt t_bad t_read t_pictured t_x t_all t_sent t_order t_bestOrder) H → va_D A (w_X11_order K g_t t_raised t_undos t_reached t_length t_begin t_sort t_value t_word t_wrongAt t_badAt t_bad t_read t_pictured t_x t_all t_sent t_order t_bestOrder) → va_S A s.heap H locs → lv_has ls 7 [(0, .ref (g_t 0)), (1, .int x1), (2, .int x2), (3, .int x3), (4, .int x4)] → k_58 t_raised t_x t_sent t_order t_bestOrder x1 x2 x3 x4 = some res → W p l e rmX11_order s m args below meth c H locs 0 0 Q (F0 m 58 ls [])) :
    ∀ (n_ : Nat) (t_raised : Int32) (t_x : Int32) (t_sent : Nat → Int32) (t_order : Nat → Int32) (t_bestOrder : Nat → Int32) (x1 : Int32) (x2 : Int32) (x3 : Int32) (x6 : Int32) (H : Heap) (locs : List Loc) (ls : Array Slot), va_P D vwCl (w_X11_order K g_t t_raised t_undos t_reached t_length t_begin t_sort t_value t_word t_wrongAt t_badAt t_bad t_read t_pictured t_x t_all t_sent t_order t_bestOrder) H → va_D A (w_X11_order K g_t t_raised t_undos t_reached t_length t_begin t_sort t_value t_word t_wrongAt t_badAt t_bad t_read t_pictured t_x t_all t_sent t_order t_bestOrder) → va_S A s.heap H locs → lv_has ls 7 [(0, .ref (g_t 0)), (1, .int x1), (2, .int x2), (3, .int x3), (6, .int x6)] → L_X11_order_95 t_all k_58 n_ t_raised t_x t_sent t_order t_bestOrder x1 x2 x3 x6 = some res → W p l e rmX11_order s m args below meth c H locs 0 0 Q (F0 m 95 ls []) := by
  obtain ⟨⟨hx, hb, hml, hown, hts⟩, hK, -⟩ := id C0
  intro n_
  induction n_ with
  | zero =>
    intro t_raised t_x t_sent t_order t_bestOrder x1 x2 x3 x6 H locs ls hP hD hS hl hF
    exact no_s (show (none : Option (Int32 × Int32 × Int32 × (Nat → Int32) × (Nat → Int32) × (Nat → Int32))) = some res from hF)
  | succ n_ ih =>
    intro t_raised t_x t_sent t_order t_bestOrder x1 x2 x3 x6 H locs ls hP hD hS hl hF
    rw [L_X11_order_95] at hF
    refine lv_iload hx hb dX11_order_95 (lv_at hl 4 rfl) ?_
    refine lv_aload_n hx hb dX11_order_97 rfl (lv_at hl 0 rfl) ?_
    refine va_get (D := D) (ci := 10) (v := .ref (g_t 2)) (C := RX11) (T := TX11) (N := 30) hx hb hts iw_X11_order_X11 hown hK hP 0 rfl rfl 1 (by decide) (hts _ fl_X11_order_7) (fun _ h9 => h9) rfl dX11_order_98 ?_
    refine lv_iconst (v := 0) hx hb dX11_order_101 (by decide) ?_
    refine xl_i (f := t_all) hx hb hK hP 1 0 rfl rfl (k := 0) (by decide) (in_v (by decide)) dX11_order_102 ?_
    refine lv_icmp_ge (tgt := 126) hx hb dX11_order_103 (by decide) (fun c_1 => ?_) (fun c_1 => ?_)
    · have hF := it_pos c_1 hF
      exact w_X11_order_126 C0 HR HK_58 t_raised t_x t_sent t_order t_bestOrder x1 x2 x3 H locs ls hP hD hS (lv_sub hl [0, 1, 2, 3] rfl) hF
    · have hF := it_neg c_1 hF
      refine lv_aload_n hx hb dX11_order_106 rfl (lv_at hl 0 rfl) ?_
      refine va_get (D := D) (ci := 10) (v := .ref (g_t 28)) (C := RX11) (T := TX11) (N := 30) hx hb hts iw_X11_order_X11 hown hK hP 0 rfl rfl 27 (by decide) (hts _ fl_X11_order_51) (fun _ h9 => h9) rfl dX11_order_107 ?_
      refine lv_iload hx hb dX11_order_110 (lv_at hl 4 rfl) ?_
      refine lv_aload_n hx hb dX11_order_112 rfl (lv_at hl 0 rfl) ?_
      refine va_get (D := D) (ci := 10) (v := .ref (g_t 26)) (C := RX11) (T := TX11) (N := 30) hx hb hts iw_X11_order_X11 hown hK hP 0 rfl rfl 25 (by decide) (hts _ fl_X11_order_48) (fun _ h9 => h9) rfl dX11_order_113 ?_
      refine lv_iload hx hb dX11_order_116 (lv_at hl 4 rfl) ?_
      obtain ⟨hg_2, hF⟩ := gd_some hF
      refine xl_i (f := t_order) hx hb hK hP 3 0 rfl rfl rfl (in_v hg_2) dX11_order_118 ?_
      obtain ⟨hg_3, hF⟩ := gd_some hF
      refine xs_i (f := t_bestOrder) hx hb hK hP hD hS 4 0 rfl rfl rfl (in_v hg_3) dX11_order_119 (fun H locs hP hD hS => ?_)
      have hP : va_P D vwCl (w_X11_order K g_t t_raised t_undos t_reached t_length t_begin t_sort t_value t_word t_wrongAt t_badAt t_bad t_read t_pictured t_x t_all t_sent t_order (upd t_bestOrder (x6).toNatClampNeg (t_order (x6).toNatClampNeg))) H := hP
      have hD : va_D A (w_X11_order K g_t t_raised t_undos t_reached t_length t_begin t_sort t_value t_word t_wrongAt t_badAt t_bad t_read t_pictured t_x t_all t_sent t_order (upd t_bestOrder (x6).toNatClampNeg (t_order (x6).toNatClampNeg))) := hD
      refine lv_iinc (v := (x6 + (1 : Int32))) (lv' := [(6, .int (x6 + (1 : Int32))), (0, .ref (g_t 0)), (1, .int x1), (2, .int x2), (3, .int x3)]) hx hb dX11_order_120 hl (k := 4) rfl (congrArg (fun z => x6 + z) (by decide)) (by decide) rfl (fun ls hl => ?_)
      refine lv_goto (tgt := 95) hx hb dX11_order_123 (by decide) ?_
      exact ih t_raised t_x t_sent t_order (upd t_bestOrder (x6).toNatClampNeg (t_order (x6).toNatClampNeg)) x1 x2 x3 (x6 + (1 : Int32)) H locs ls hP hD hS (lv_sub hl [1, 2, 3, 4, 0] rfl) hF
def L_X11_order_58 (t_all : Nat → Int32) : Nat → Int32 → Int32 → (Nat → Int32) → (Nat → Int32) → (Nat → Int32) → Int32 → Int32 → Int32 → Int32 → Option (Int32 × Int32 × Int32 × (Nat → Int32) × (Nat → Int32) × (Nat → Int32))
  | 0, _, _, _, _, _, _, _, _, _ => none
  | n_ + 1, t_raised, t_x, t_sent, t_order, t_bestOrder, x1, x2, x3, x4 =>
    if x4 = (0 : Int32) then (J_X11_order_135 t_all t_raised t_x t_sent t_order t_bestOrder x2 x3) else ((F_X11_sends t_x t_all t_sent t_order (0 : Int32) x1 (0 : Int32)).bind fun r_2 => ((F_X11_heard t_all r_2.2 x1 (3 : Int32)).bind fun r_4 => (if x3 = (-1 : Int32) then (L_X11_order_95 t_all (L_X11_order_58 t_all n_) fu_ t_raised r_2.1 r_2.2 t_order t_bestOrder x1 x2 r_4 (0 : Int32)) else (if x3 ≤ r_4 then (J_X11_order_126 t_all (L_X11_order_58 t_all n_) t_raised r_2.1 r_2.2 t_order t_bestOrder x1 x2 x3) else (L_X11_order_95 t_all (L_X11_order_58 t_all n_) fu_ t_raised r_2.1 r_2.2 t_order t_bestOrder x1 x2 r_4 (0 : Int32))))))
set_option maxHeartbeats 4000000 in
set_option maxRecDepth 100000 in
theorem w_X11_order_58 {p : Program} {l : Launch} {e : Env} {s : State} {m : MethodId} {args : Array Value} {below : List Frame} {meth : Method} {c : Code} {D : va_G} {K : Nat → ClassId} {A : Nat → Prop} {Q : State → Prop} (C0 : cx_ p s m args c cX11_order 7 RX11 wsX11_order D K A) {g_t : Nat → Nat} {t_undos : Int32} {t_reached : Int32} {t_length : Int32} {t_begin : Int32} {t_sort : Int32} {t_value : Int32} {t_word : Int64} {t_wrongAt : Int32} {t_badAt : Int32} {t_bad : Int32} {t_read : Int32} {t_pictured : Int32} {t_all : Nat → Int32} {res : Int32 × Int32 × Int32 × (Nat → Int32) × (Nat → Int32) × (Nat → Int32)} (HR : ∀ (pc : Nat) (H : Heap) (locs : List Loc) (ls : Array Slot), decode cX11_order pc = .ok (.ireturn, 1) → va_P D vwCl (w_X11_order K g_t res.2.1 t_undos t_reached t_length t_begin t_sort t_value t_word t_wrongAt t_badAt t_bad t_read t_pictured res.2.2.1 t_all res.2.2.2.1 res.2.2.2.2.1 res.2.2.2.2.2) H → va_D A (w_X11_order K g_t res.2.1 t_undos t_reached t_length t_begin t_sort t_value t_word t_wrongAt t_badAt t_bad t_read t_pictured res.2.2.1 t_all res.2.2.2.1 res.2.2.2.2.1 res.2.2.2.2.2) → va_S A s.heap H locs → W p l e rmX11_order s m args below meth c H locs 0 0 Q (F0 m pc ls [.int res.1]))  :
    ∀ (n_ : Nat) (t_raised : Int32) (t_x : Int32) (t_sent : Nat → Int32) (t_order : Nat → Int32) (t_bestOrder : Nat → Int32) (x1 : Int32) (x2 : Int32) (x3 : Int32) (x4 : Int32) (H : Heap) (locs : List Loc) (ls : Array Slot), va_P D vwCl (w_X11_order K g_t t_raised t_undos t_reached t_length t_begin t_sort t_value t_word t_wrongAt t_badAt t_bad t_read t_pictured t_x t_all t_sent t_order t_bestOrder) H → va_D A (w_X11_order K g_t t_raised t_undos t_reached t_length t_begin t_sort t_value t_word t_wrongAt t_badAt t_bad t_read t_pictured t_x t_all t_sent t_order t_bestOrder) → va_S A s.heap H locs → lv_has ls 7 [(0, .ref (g_t 0)), (1, .int x1), (2, .int x2), (3, .int x3), (4, .int x4)] → L_X11_order_58 t_all n_ t_raised t_x t_sent t_order t_bestOrder x1 x2 x3 x4 = some res → W p l e rmX11_order s m args below meth c H locs 0 0 Q (F0 m 58 ls []) := by
  obtain ⟨⟨hx, hb, hml, hown, hts⟩, hK, -⟩ := id C0
  intro n_
  induction n_ with
  | zero =>
    intro t_raised t_x t_sent t_order t_bestOrder x1 x2 x3 x4 H locs ls hP hD hS hl hF
    exact no_s (show (none : Option (Int32 × Int32 × Int32 × (Nat → Int32) × (Nat → Int32) × (Nat → Int32))) = some res from hF)
  | succ n_ ih =>
    intro t_raised t_x t_sent t_order t_bestOrder x1 x2 x3 x4 H locs ls hP hD hS hl hF
    rw [L_X11_order_58] at hF
    refine lv_iload hx hb dX11_order_58 (lv_at hl 4 rfl) ?_
    refine lv_if_eq (tgt := 135) hx hb dX11_order_60 (by decide) (fun c_1 => ?_) (fun c_1 => ?_)
    · have hF := it_pos c_1 hF
      exact w_X11_order_135 C0 HR t_raised t_x t_sent t_order t_bestOrder x2 x3 H locs ls hP hD hS (lv_sub hl [0, 2, 3] rfl) hF
    · have hF := it_neg c_1 hF
      refine lv_aload_n hx hb dX11_order_63 rfl (lv_at hl 0 rfl) ?_
      refine lv_iconst (v := 0) hx hb dX11_order_64 (by decide) ?_
      refine lv_iload_n hx hb dX11_order_65 rfl (lv_at hl 1 rfl) ?_
      refine lv_iconst (v := 0) hx hb dX11_order_66 (by decide) ?_
      obtain ⟨r_2, hc_3, hF⟩ := bn_some hF
      refine xc_v (wn := (w_X11_order K g_t t_raised t_undos t_reached t_length t_begin t_sort t_value t_word t_wrongAt t_badAt t_bad t_read t_pictured r_2.1 t_all r_2.2 t_order t_bestOrder)) hP hD hS C0.2.2.1 [0, 1, 2, 3] [4] [1, 2, 3, 4, 0] rfl rfl (by decide) (by decide) rfl (by decide) (va_runV (As := [.int (0 : Int32), .int x1, .int (0 : Int32)]) (rest := []) C0.1 (c_X11_sends l D K g_t t_raised t_undos t_reached t_length t_begin t_sort t_value t_word t_wrongAt t_badAt t_bad t_read t_pictured t_x t_all t_sent t_order (0 : Int32) x1 (0 : Int32) r_2 hc_3 H.size) (cwV 3 hts gX11_order_X11_sends rfl rfl rfl (by decide +kernel) ⟨Nat.le_of_ble_eq_true rfl, Nat.le_of_ble_eq_true rfl⟩) (xp_V C0.2 hP hD hS [0, 1, 2, 3] rfl (by decide) 10 0 rfl rfl rfl) rfl rfl hl.1 rfl (lv_room (Nat.le_of_ble_eq_true rfl)) dX11_order_67 ⟨Nat.le_of_ble_eq_true rfl, Nat.le_of_ble_eq_true rfl⟩) (fun H locs hP hD hS => ?_)
      refine lv_aload_n hx hb dX11_order_70 rfl (lv_at hl 0 rfl) ?_
      refine lv_iload_n hx hb dX11_order_71 rfl (lv_at hl 1 rfl) ?_
      refine lv_iconst (v := 3) hx hb dX11_order_72 (by decide) ?_
      obtain ⟨r_4, hc_5, hF⟩ := bn_some hF
      refine xc_i (wn := (w_X11_order K g_t t_raised t_undos t_reached t_length t_begin t_sort t_value t_word t_wrongAt t_badAt t_bad t_read t_pictured r_2.1 t_all r_2.2 t_order t_bestOrder)) hP hD hS C0.2.2.1 [0, 1, 2] [3, 4] [2, 3, 4, 0, 1] rfl rfl (by decide) (by decide) rfl (by decide) (va_runV (As := [.int x1, .int (3 : Int32)]) (rest := []) C0.1 (c_X11_heard l D K g_t t_raised t_undos t_reached t_length t_begin t_sort t_value t_word t_wrongAt t_badAt t_bad t_read t_pictured r_2.1 t_all r_2.2 x1 (3 : Int32) r_4 hc_5 H.size) (cwV 2 hts gX11_order_X11_heard rfl rfl rfl (by decide +kernel) ⟨Nat.le_of_ble_eq_true rfl, Nat.le_of_ble_eq_true rfl⟩) (xp_V C0.2 hP hD hS [0, 1, 2] rfl (by decide) 10 0 rfl rfl rfl) rfl rfl hl.1 rfl (lv_room (Nat.le_of_ble_eq_true rfl)) dX11_order_73 ⟨Nat.le_of_ble_eq_true rfl, Nat.le_of_ble_eq_true rfl⟩) (fun H locs hP hD hS => ?_)
      refine lv_istore (lv' := [(5, .int r_4), (0, .ref (g_t 0)), (1, .int x1), (2, .int x2), (3, .int x3), (4, .int x4)]) hx hb dX11_order_76 hl (by decide) rfl (fun ls hl => ?_)
      refine lv_iload_n hx hb dX11_order_78 rfl (lv_at hl 4 rfl) ?_
      refine lv_iconst (v := (-1)) hx hb dX11_order_79 (by decide) ?_
      refine lv_icmp_eq (tgt := 89) hx hb dX11_order_80 (by decide) (fun c_6 => ?_) (fun c_6 => ?_)
      · have hF := it_pos c_6 hF
        refine lv_iload hx hb dX11_order_89 (lv_at hl 0 rfl) ?_
        refine lv_istore_n (lv' := [(3, .int r_4), (5, .int r_4), (0, .ref (g_t 0)), (1, .int x1), (2, .int x2), (4, .int x4)]) hx hb dX11_order_91 rfl hl (by decide) rfl (fun ls hl => ?_)
        refine lv_iconst (v := 0) hx hb dX11_order_92 (by decide) ?_
        refine lv_istore (lv' := [(6, .int (0 : Int32)), (3, .int r_4), (5, .int r_4), (0, .ref (g_t 0)), (1, .int x1), (2, .int x2), (4, .int x4)]) hx hb dX11_order_93 hl (by decide) rfl (fun ls hl => ?_)
        exact w_X11_order_95 C0 HR ih fu_ t_raised r_2.1 r_2.2 t_order t_bestOrder x1 x2 r_4 (0 : Int32) H locs ls hP hD hS (lv_sub hl [3, 4, 5, 1, 0] rfl) hF
      · have hF := it_neg c_6 hF
        refine lv_iload hx hb dX11_order_83 (lv_at hl 0 rfl) ?_
        refine lv_iload_n hx hb dX11_order_85 rfl (lv_at hl 4 rfl) ?_
        refine lv_icmp_ge (tgt := 126) hx hb dX11_order_86 (by decide) (fun c_7 => ?_) (fun c_7 => ?_)
        · have hF := it_pos c_7 hF
          exact w_X11_order_126 C0 HR ih t_raised r_2.1 r_2.2 t_order t_bestOrder x1 x2 x3 H locs ls hP hD hS (lv_sub hl [1, 2, 3, 4] rfl) hF
        · have hF := it_neg c_7 hF
          refine lv_iload hx hb dX11_order_89 (lv_at hl 0 rfl) ?_
          refine lv_istore_n (lv' := [(3, .int r_4), (5, .int r_4), (0, .ref (g_t 0)), (1, .int x1), (2, .int x2), (4, .int x4)]) hx hb dX11_order_91 rfl hl (by decide) rfl (fun ls hl => ?_)
          refine lv_iconst (v := 0) hx hb dX11_order_92 (by decide) ?_
          refine lv_istore (lv' := [(6, .int (0 : Int32)), (3, .int r_4), (5, .int r_4), (0, .ref (g_t 0)), (1, .int x1), (2, .int x2), (4, .int x4)]) hx hb dX11_order_93 hl (by decide) rfl (fun ls hl => ?_)
          exact w_X11_order_95 C0 HR ih fu_ t_raised r_2.1 r_2.2 t_order t_bestOrder x1 x2 r_4 (0 : Int32) H locs ls hP hD hS (lv_sub hl [3, 4, 5, 1, 0] rfl) hF
def J_X11_order_38 (t_all : Nat → Int32) (t_raised : Int32) (t_x : Int32) (t_sent : Nat → Int32) (t_order : Nat → Int32) (t_bestOrder : Nat → Int32) (x1 : Int32) (x2 : Int32) : Option (Int32 × Int32 × Int32 × (Nat → Int32) × (Nat → Int32) × (Nat → Int32)) :=
  if (t_all 0) = (0 : Int32) then (some ((-1 : Int32), t_raised, t_x, t_sent, t_order, t_bestOrder)) else ((F_X11_inOrder t_all t_order).bind fun r_2 => (L_X11_order_58 t_all fu_ t_raised t_x t_sent r_2 t_bestOrder x1 x2 (-1 : Int32) (1 : Int32)))
set_option maxHeartbeats 4000000 in
set_option maxRecDepth 100000 in
theorem w_X11_order_38 {p : Program} {l : Launch} {e : Env} {s : State} {m : MethodId} {args : Array Value} {below : List Frame} {meth : Method} {c : Code} {D : va_G} {K : Nat → ClassId} {A : Nat → Prop} {Q : State → Prop} (C0 : cx_ p s m args c cX11_order 7 RX11 wsX11_order D K A) {g_t : Nat → Nat} {t_undos : Int32} {t_reached : Int32} {t_length : Int32} {t_begin : Int32} {t_sort : Int32} {t_value : Int32} {t_word : Int64} {t_wrongAt : Int32} {t_badAt : Int32} {t_bad : Int32} {t_read : Int32} {t_pictured : Int32} {t_all : Nat → Int32} {res : Int32 × Int32 × Int32 × (Nat → Int32) × (Nat → Int32) × (Nat → Int32)} (HR : ∀ (pc : Nat) (H : Heap) (locs : List Loc) (ls : Array Slot), decode cX11_order pc = .ok (.ireturn, 1) → va_P D vwCl (w_X11_order K g_t res.2.1 t_undos t_reached t_length t_begin t_sort t_value t_word t_wrongAt t_badAt t_bad t_read t_pictured res.2.2.1 t_all res.2.2.2.1 res.2.2.2.2.1 res.2.2.2.2.2) H → va_D A (w_X11_order K g_t res.2.1 t_undos t_reached t_length t_begin t_sort t_value t_word t_wrongAt t_badAt t_bad t_read t_pictured res.2.2.1 t_all res.2.2.2.1 res.2.2.2.2.1 res.2.2.2.2.2) → va_S A s.heap H locs → W p l e rmX11_order s m args below meth c H locs 0 0 Q (F0 m pc ls [.int res.1]))  :
    ∀ (t_raised : Int32) (t_x : Int32) (t_sent : Nat → Int32) (t_order : Nat → Int32) (t_bestOrder : Nat → Int32) (x1 : Int32) (x2 : Int32) (H : Heap) (locs : List Loc) (ls : Array Slot), va_P D vwCl (w_X11_order K g_t t_raised t_undos t_reached t_length t_begin t_sort t_value t_word t_wrongAt t_badAt t_bad t_read t_pictured t_x t_all t_sent t_order t_bestOrder) H → va_D A (w_X11_order K g_t t_raised t_undos t_reached t_length t_begin t_sort t_value t_word t_wrongAt t_badAt t_bad t_read t_pictured t_x t_all t_sent t_order t_bestOrder) → va_S A s.heap H locs → lv_has ls 7 [(0, .ref (g_t 0)), (1, .int x1), (2, .int x2)] → J_X11_order_38 t_all t_raised t_x t_sent t_order t_bestOrder x1 x2 = some res → W p l e rmX11_order s m args below meth c H locs 0 0 Q (F0 m 38 ls []) := by
  obtain ⟨⟨hx, hb, hml, hown, hts⟩, hK, -⟩ := id C0
  intro t_raised t_x t_sent t_order t_bestOrder x1 x2 H locs ls hP hD hS hl hF
  unfold J_X11_order_38 at hF
  refine lv_aload_n hx hb dX11_order_38 rfl (lv_at hl 0 rfl) ?_
  refine va_get (D := D) (ci := 10) (v := .ref (g_t 2)) (C := RX11) (T := TX11) (N := 30) hx hb hts iw_X11_order_X11 hown hK hP 0 rfl rfl 1 (by decide) (hts _ fl_X11_order_7) (fun _ h9 => h9) rfl dX11_order_39 ?_
  refine lv_iconst (v := 0) hx hb dX11_order_42 (by decide) ?_
  refine xl_i (f := t_all) hx hb hK hP 1 0 rfl rfl (k := 0) (by decide) (in_v (by decide)) dX11_order_43 ?_
  refine lv_if_ne (tgt := 49) hx hb dX11_order_44 (by decide) (fun c_1 => ?_) (fun c_1 => ?_)
  · have hF := it_neg c_1 hF
    refine lv_aload_n hx hb dX11_order_49 rfl (lv_at hl 0 rfl) ?_
    obtain ⟨r_2, hc_3, hF⟩ := bn_some hF
    refine xc_v (wn := (w_X11_order K g_t t_raised t_undos t_reached t_length t_begin t_sort t_value t_word t_wrongAt t_badAt t_bad t_read t_pictured t_x t_all t_sent r_2 t_bestOrder)) hP hD hS C0.2.2.1 [0, 1, 3] [2, 4] [2, 3, 0, 4, 1] rfl rfl (by decide) (by decide) rfl (by decide) (va_runV (As := []) (rest := []) C0.1 (c_X11_inOrder l D K g_t t_raised t_undos t_reached t_length t_begin t_sort t_value t_word t_wrongAt t_badAt t_bad t_read t_pictured t_x t_all t_order r_2 hc_3 H.size) (cwV 0 hts gX11_order_X11_inOrder rfl rfl rfl (by decide +kernel) ⟨Nat.le_of_ble_eq_true rfl, Nat.le_of_ble_eq_true rfl⟩) (xp_V C0.2 hP hD hS [0, 1, 3] rfl (by decide) 10 0 rfl rfl rfl) rfl rfl hl.1 rfl (lv_room (Nat.le_of_ble_eq_true rfl)) dX11_order_50 ⟨Nat.le_of_ble_eq_true rfl, Nat.le_of_ble_eq_true rfl⟩) (fun H locs hP hD hS => ?_)
    refine lv_iconst (v := (-1)) hx hb dX11_order_53 (by decide) ?_
    refine lv_istore_n (lv' := [(3, .int (-1 : Int32)), (0, .ref (g_t 0)), (1, .int x1), (2, .int x2)]) hx hb dX11_order_54 rfl hl (by decide) rfl (fun ls hl => ?_)
    refine lv_iconst (v := 1) hx hb dX11_order_55 (by decide) ?_
    refine lv_istore (lv' := [(4, .int (1 : Int32)), (3, .int (-1 : Int32)), (0, .ref (g_t 0)), (1, .int x1), (2, .int x2)]) hx hb dX11_order_56 hl (by decide) rfl (fun ls hl => ?_)
    exact w_X11_order_58 C0 HR fu_ t_raised t_x t_sent r_2 t_bestOrder x1 x2 (-1 : Int32) (1 : Int32) H locs ls hP hD hS (lv_sub hl [2, 3, 4, 1, 0] rfl) hF
  · have hF := it_pos c_1 hF
    refine lv_iconst (v := (-1)) hx hb dX11_order_47 (by decide) ?_
    obtain rfl := Option.some.inj hF
    exact HR 48 H locs ls dX11_order_48 hP hD hS
def F_X11_order (t_raised : Int32) (t_x : Int32) (t_all : Nat → Int32) (t_sent : Nat → Int32) (t_order : Nat → Int32) (t_bestOrder : Nat → Int32) (x1 : Int32) (x2 : Int32) : Option (Int32 × Int32 × Int32 × (Nat → Int32) × (Nat → Int32) × (Nat → Int32)) :=
  (F_X11_in x1 (1 : Int32) (64 : Int32)).bind fun r_1 => (if r_1 = (0 : Int32) then (some ((-1 : Int32), (0 : Int32), t_x, t_sent, t_order, t_bestOrder)) else (if x2 = (0 : Int32) then (J_X11_order_38 t_all (0 : Int32) t_x t_sent t_order t_bestOrder x1 x2) else ((F_X11_in (x2 - (10 : Int32)) (0 : Int32) ((t_all 0) - (1 : Int32))).bind fun r_5 => (if r_5 = (0 : Int32) then (some ((-1 : Int32), (0 : Int32), t_x, t_sent, t_order, t_bestOrder)) else (J_X11_order_38 t_all (0 : Int32) t_x t_sent t_order t_bestOrder x1 x2)))))
set_option maxHeartbeats 4000000 in
set_option maxRecDepth 100000 in
theorem c_X11_order (l : Launch) (D : va_G) (K : Nat → ClassId) (g_t : Nat → Nat) (t_raised : Int32) (t_undos : Int32) (t_reached : Int32) (t_length : Int32) (t_begin : Int32) (t_sort : Int32) (t_value : Int32) (t_word : Int64) (t_wrongAt : Int32) (t_badAt : Int32) (t_bad : Int32) (t_read : Int32) (t_pictured : Int32) (t_x : Int32) (t_all : Nat → Int32) (t_sent : Nat → Int32) (t_order : Nat → Int32) (t_bestOrder : Nat → Int32) (x1 : Int32) (x2 : Int32) (res : Int32 × Int32 × Int32 × (Nat → Int32) × (Nat → Int32) × (Nat → Int32)) (hF : F_X11_order t_raised t_x t_all t_sent t_order t_bestOrder x1 x2 = some res) :
    Mi_ l yX11_order wsX11_order rmX11_order D K [.ref (g_t 0), .int x1, .int x2] (w_X11_order K g_t t_raised t_undos t_reached t_length t_begin t_sort t_value t_word t_wrongAt t_badAt t_bad t_read t_pictured t_x t_all t_sent t_order t_bestOrder) (w_X11_order K g_t res.2.1 t_undos t_reached t_length t_begin t_sort t_value t_word t_wrongAt t_badAt t_bad t_read t_pictured res.2.2.1 t_all res.2.2.2.1 res.2.2.2.2.1 res.2.2.2.2.2) (res.1) := by
  refine en_i (cc := cX11_order) (maxL := 7) (own := RX11) (by decide) rfl rfl (Nat.le_of_ble_eq_true rfl) ?_
  intro p e s m args below meth c A Q H locs ls C0 hP hD hS hl HR
  obtain ⟨⟨hx, hb, hml, hown, hts⟩, hK, -⟩ := id C0
  have hl : lv_has ls 7 [(0, .ref (g_t 0)), (1, .int x1), (2, .int x2)] := hl
  unfold F_X11_order at hF
  refine lv_aload_n hx hb dX11_order_0 rfl (lv_at hl 0 rfl) ?_
  refine lv_iconst (v := 0) hx hb dX11_order_1 (by decide) ?_
  refine va_put (D := D) (ci := 10) (v := .int (0 : Int32)) (ty := .int) (C := RX11) (T := TX11) (N := 30) hx hb hts iw_X11_order_X11 tyX11 tyX11_ok nmX11 hown hK hP hD hS 0 rfl rfl 0 (by decide) (hts _ fl_X11_order_66) (fun _ h9 => h9) rfl (by decide +kernel) rfl rfl (Nat.le_of_ble_eq_true rfl) dX11_order_2 (fun H locs hP hD hS => ?_)
  have hP : va_P D vwCl (w_X11_order K g_t (0 : Int32) t_undos t_reached t_length t_begin t_sort t_value t_word t_wrongAt t_badAt t_bad t_read t_pictured t_x t_all t_sent t_order t_bestOrder) H := hP
  have hD : va_D A (w_X11_order K g_t (0 : Int32) t_undos t_reached t_length t_begin t_sort t_value t_word t_wrongAt t_badAt t_bad t_read t_pictured t_x t_all t_sent t_order t_bestOrder) := hD
  refine lv_iload_n hx hb dX11_order_5 rfl (lv_at hl 1 rfl) ?_
  refine lv_iconst (v := 1) hx hb dX11_order_6 (by decide) ?_
  refine lv_bipush (v := 64) hx hb dX11_order_7 (by decide) ?_
  obtain ⟨r_1, hc_2, hF⟩ := bn_some hF
  refine xc_i (wn := (w_X11_order K g_t (0 : Int32) t_undos t_reached t_length t_begin t_sort t_value t_word t_wrongAt t_badAt t_bad t_read t_pictured t_x t_all t_sent t_order t_bestOrder)) hP hD hS C0.2.2.1 [] [0, 1, 2, 3, 4] [0, 1, 2, 3, 4] rfl rfl (by decide) (by decide) rfl (by decide) (va_runS (As := [.int x1, .int (1 : Int32), .int (64 : Int32)]) (rest := []) C0.1 (c_X11_in l D K x1 (1 : Int32) (64 : Int32) r_1 hc_2 H.size) (va_cwS 3 hts gX11_order_X11_in rfl rfl rfl (by decide +kernel) ⟨Nat.le_of_ble_eq_true rfl, Nat.le_of_ble_eq_true rfl⟩) (xp_S C0.2 hP hD hS [] rfl (by decide)) rfl rfl hl.1 rfl (lv_room (Nat.le_of_ble_eq_true rfl)) dX11_order_9 ⟨Nat.le_of_ble_eq_true rfl, Nat.le_of_ble_eq_true rfl⟩) (fun H locs hP hD hS => ?_)
  refine lv_if_eq (tgt := 47) hx hb dX11_order_12 (by decide) (fun c_3 => ?_) (fun c_3 => ?_)
  · have hF := it_pos c_3 hF
    refine lv_iconst (v := (-1)) hx hb dX11_order_47 (by decide) ?_
    obtain rfl := Option.some.inj hF
    exact HR 48 H locs ls dX11_order_48 hP hD hS
  · have hF := it_neg c_3 hF
    refine lv_iload_n hx hb dX11_order_15 rfl (lv_at hl 2 rfl) ?_
    refine lv_if_eq (tgt := 38) hx hb dX11_order_16 (by decide) (fun c_4 => ?_) (fun c_4 => ?_)
    · have hF := it_pos c_4 hF
      exact w_X11_order_38 C0 HR (0 : Int32) t_x t_sent t_order t_bestOrder x1 x2 H locs ls hP hD hS (lv_sub hl [0, 1, 2] rfl) hF
    · have hF := it_neg c_4 hF
      refine lv_iload_n hx hb dX11_order_19 rfl (lv_at hl 2 rfl) ?_
      refine lv_bipush (v := 10) hx hb dX11_order_20 (by decide) ?_
      refine lv_isub hx hb dX11_order_22 ?_
      refine lv_iconst (v := 0) hx hb dX11_order_23 (by decide) ?_
      refine lv_aload_n hx hb dX11_order_24 rfl (lv_at hl 0 rfl) ?_
      refine va_get (D := D) (ci := 10) (v := .ref (g_t 2)) (C := RX11) (T := TX11) (N := 30) hx hb hts iw_X11_order_X11 hown hK hP 0 rfl rfl 1 (by decide) (hts _ fl_X11_order_7) (fun _ h9 => h9) rfl dX11_order_25 ?_
      refine lv_iconst (v := 0) hx hb dX11_order_28 (by decide) ?_
      refine xl_i (f := t_all) hx hb hK hP 1 0 rfl rfl (k := 0) (by decide) (in_v (by decide)) dX11_order_29 ?_
      refine lv_iconst (v := 1) hx hb dX11_order_30 (by decide) ?_
      refine lv_isub hx hb dX11_order_31 ?_
      obtain ⟨r_5, hc_6, hF⟩ := bn_some hF
      refine xc_i (wn := (w_X11_order K g_t (0 : Int32) t_undos t_reached t_length t_begin t_sort t_value t_word t_wrongAt t_badAt t_bad t_read t_pictured t_x t_all t_sent t_order t_bestOrder)) hP hD hS C0.2.2.1 [] [0, 1, 2, 3, 4] [0, 1, 2, 3, 4] rfl rfl (by decide) (by decide) rfl (by decide) (va_runS (As := [.int (x2 - (10 : Int32)), .int (0 : Int32), .int ((t_all 0) - (1 : Int32))]) (rest := []) C0.1 (c_X11_in l D K (x2 - (10 : Int32)) (0 : Int32) ((t_all 0) - (1 : Int32)) r_5 hc_6 H.size) (va_cwS 3 hts gX11_order_X11_in rfl rfl rfl (by decide +kernel) ⟨Nat.le_of_ble_eq_true rfl, Nat.le_of_ble_eq_true rfl⟩) (xp_S C0.2 hP hD hS [] rfl (by decide)) rfl rfl hl.1 rfl (lv_room (Nat.le_of_ble_eq_true rfl)) dX11_order_32 ⟨Nat.le_of_ble_eq_true rfl, Nat.le_of_ble_eq_true rfl⟩) (fun H locs hP hD hS => ?_)
      refine lv_if_eq (tgt := 47) hx hb dX11_order_35 (by decide) (fun c_7 => ?_) (fun c_7 => ?_)
      · have hF := it_pos c_7 hF
        refine lv_iconst (v := (-1)) hx hb dX11_order_47 (by decide) ?_
        obtain rfl := Option.some.inj hF
        exact HR 48 H locs ls dX11_order_48 hP hD hS
      · have hF := it_neg c_7 hF
        exact w_X11_order_38 C0 HR (0 : Int32) t_x t_sent t_order t_bestOrder x1 x2 H locs ls hP hD hS (lv_sub hl [0, 1, 2] rfl) hF

/-! StaggerRadarModel.reachOf(I)J -/
abbrev rmX11_reachOf : Room := { frames := 1, cells := 0, slots := 0, locals := 29 }
theorem fl_X11_reachOf_7 : Cond.fieldLink RX11 7 "StaggerRadarModel" "all" "[I" ∈ wsX11_reachOf := by decide +kernel
theorem iw_X11_reachOf_X11 : ∀ w ∈ u_ws RX11 TX11 30, w ∈ wsX11_reachOf := by decide +kernel
abbrev w_X11_reachOf (K : Nat → ClassId) (g_t : Nat → Nat) (t_raised : Int32) (t_undos : Int32) (t_reached : Int32) (t_length : Int32) (t_begin : Int32) (t_sort : Int32) (t_value : Int32) (t_word : Int64) (t_wrongAt : Int32) (t_badAt : Int32) (t_bad : Int32) (t_read : Int32) (t_pictured : Int32) (t_x : Int32) (t_all : Nat → Int32) : va_W := [((g_t 0), .inr (10, [.int t_raised, .ref (g_t 2), .ref (g_t 3), .ref (g_t 4), .ref (g_t 5), .int t_undos, .int t_reached, .int t_length, .int t_begin, .int t_sort, .int t_value, .long t_word, .int t_wrongAt, .int t_badAt, .int t_bad, .ref (g_t 16), .int t_read, .ref (g_t 18), .ref (g_t 19), .ref (g_t 20), .int t_pictured, .ref (g_t 22), .ref (g_t 23), .ref (g_t 24), .ref (g_t 25), .ref (g_t 26), .int t_x, .ref (g_t 28), .ref (g_t 29), .ref (g_t 30)])), ((g_t 2), .inl (K 0, 500, .inl t_all))]
def L_X11_reachOf_5 (t_all : Nat → Int32) : Nat → Int32 → Int64 → Int32 → Option (Int64)
  | 0, _, _, _ => none
  | n_ + 1, x1, x2, x4 =>
    if (t_all 0) ≤ x4 then (some x2) else (if ((x1 >>> (x4 &&& 31)) &&& (1 : Int32)) = (1 : Int32) then ((F_X11_gapAt t_all x4).bind fun r_3 => ((F_X11_measure x2 ((r_3).toInt64)).bind fun r_5 => (gd_ (decide (¬ r_5 = 0)) ((F_X11_gapAt t_all x4).bind fun r_8 => (L_X11_reachOf_5 t_all n_ x1 ((x2 / r_5) * (r_8).toInt64) (x4 + (1 : Int32))))))) else (L_X11_reachOf_5 t_all n_ x1 x2 (x4 + (1 : Int32))))
set_option maxHeartbeats 4000000 in
set_option maxRecDepth 100000 in
theorem w_X11_reachOf_5 {p : Program} {l : Launch} {e : Env} {s : State} {m : MethodId} {args : Array Value} {below : List Frame} {meth : Method} {c : Code} {D : va_G} {K : Nat → ClassId} {A : Nat → Prop} {Q : State → Prop} (C0 : cx_ p s m args c cX11_reachOf 5 RX11 wsX11_reachOf D K A) {g_t : Nat → Nat} {t_raised : Int32} {t_undos : Int32} {t_reached : Int32} {t_length : Int32} {t_begin : Int32} {t_sort : Int32} {t_value : Int32} {t_word : Int64} {t_wrongAt : Int32} {t_badAt : Int32} {t_bad : Int32} {t_read : Int32} {t_pictured : Int32} {t_x : Int32} {t_all : Nat → Int32} {res : Int64} (HR : ∀ (pc : Nat) (H : Heap) (locs : List Loc) (ls : Array Slot), decode cX11_reachOf pc = .ok (.lreturn, 1) → va_P D vwCl (w_X11_reachOf K g_t t_raised t_undos t_reached t_length t_begin t_sort t_value t_word t_wrongAt t_badAt t_bad t_read t_pictured t_x t_all) H → va_D A (w_X11_reachOf K g_t t_raised t_undos t_reached t_length t_begin t_sort t_value t_word t_wrongAt t_badAt t_bad t_read t_pictured t_x t_all) → va_S A s.heap H locs → W p l e rmX11_reachOf s m args below meth c H locs 0 0 Q (F0 m pc ls [.long res]))  :
    ∀ (n_ : Nat) (x1 : Int32) (x2 : Int64) (x4 : Int32) (H : Heap) (locs : List Loc) (ls : Array Slot), va_P D vwCl (w_X11_reachOf K g_t t_raised t_undos t_reached t_length t_begin t_sort t_value t_word t_wrongAt t_badAt t_bad t_read t_pictured t_x t_all) H → va_D A (w_X11_reachOf K g_t t_raised t_undos t_reached t_length t_begin t_sort t_value t_word t_wrongAt t_badAt t_bad t_read t_pictured t_x t_all) → va_S A s.heap H locs → lv_has ls 5 [(0, .ref (g_t 0)), (1, .int x1), (2, .long x2), (4, .int x4)] → L_X11_reachOf_5 t_all n_ x1 x2 x4 = some res → W p l e rmX11_reachOf s m args below meth c H locs 0 0 Q (F0 m 5 ls []) := by
  obtain ⟨⟨hx, hb, hml, hown, hts⟩, hK, -⟩ := id C0
  intro n_
  induction n_ with
  | zero =>
    intro x1 x2 x4 H locs ls hP hD hS hl hF
    exact no_s (show (none : Option (Int64)) = some res from hF)
  | succ n_ ih =>
    intro x1 x2 x4 H locs ls hP hD hS hl hF
    rw [L_X11_reachOf_5] at hF
    refine lv_iload hx hb dX11_reachOf_5 (lv_at hl 3 rfl) ?_
    refine lv_aload_n hx hb dX11_reachOf_7 rfl (lv_at hl 0 rfl) ?_
    refine va_get (D := D) (ci := 10) (v := .ref (g_t 2)) (C := RX11) (T := TX11) (N := 30) hx hb hts iw_X11_reachOf_X11 hown hK hP 0 rfl rfl 1 (by decide) (hts _ fl_X11_reachOf_7) (fun _ h9 => h9) rfl dX11_reachOf_8 ?_
    refine lv_iconst (v := 0) hx hb dX11_reachOf_11 (by decide) ?_
    refine xl_i (f := t_all) hx hb hK hP 1 0 rfl rfl (k := 0) (by decide) (in_v (by decide)) dX11_reachOf_12 ?_
    refine lv_icmp_ge (tgt := 58) hx hb dX11_reachOf_13 (by decide) (fun c_1 => ?_) (fun c_1 => ?_)
    · have hF := it_pos c_1 hF
      refine lv_lload_n hx hb dX11_reachOf_58 rfl (lv_at hl 2 rfl) ?_
      obtain rfl := Option.some.inj hF
      exact HR 59 H locs ls dX11_reachOf_59 hP hD hS
    · have hF := it_neg c_1 hF
      refine lv_iload_n hx hb dX11_reachOf_16 rfl (lv_at hl 1 rfl) ?_
      refine lv_iload hx hb dX11_reachOf_17 (lv_at hl 3 rfl) ?_
      refine lv_ishr hx hb dX11_reachOf_19 ?_
      refine lv_iconst (v := 1) hx hb dX11_reachOf_20 (by decide) ?_
      refine lv_iand hx hb dX11_reachOf_21 ?_
      refine lv_iconst (v := 1) hx hb dX11_reachOf_22 (by decide) ?_
      refine lv_icmp_ne (tgt := 50) hx hb dX11_reachOf_23 (by decide) (fun c_2 => ?_) (fun c_2 => ?_)
      · have hF := it_neg c_2 hF
        refine lv_lload_n hx hb dX11_reachOf_50 rfl (lv_at hl 2 rfl) ?_
        refine lv_lstore_n (lv' := [(2, .long x2), (0, .ref (g_t 0)), (1, .int x1), (4, .int x4)]) hx hb dX11_reachOf_51 rfl hl (by decide) rfl (fun ls hl => ?_)
        refine lv_iinc (v := (x4 + (1 : Int32))) (lv' := [(4, .int (x4 + (1 : Int32))), (2, .long x2), (0, .ref (g_t 0)), (1, .int x1)]) hx hb dX11_reachOf_52 hl (k := 3) rfl (congrArg (fun z => x4 + z) (by decide)) (by decide) rfl (fun ls hl => ?_)
        refine lv_goto (tgt := 5) hx hb dX11_reachOf_55 (by decide) ?_
        exact ih x1 x2 (x4 + (1 : Int32)) H locs ls hP hD hS (lv_sub hl [2, 3, 1, 0] rfl) hF
      · have hF := it_pos c_2 hF
        refine lv_lload_n hx hb dX11_reachOf_26 rfl (lv_at hl 2 rfl) ?_
        refine lv_lload_n hx hb dX11_reachOf_27 rfl (lv_at hl 2 rfl) ?_
        refine lv_aload_n hx hb dX11_reachOf_28 rfl (lv_at hl 0 rfl) ?_
        refine lv_iload hx hb dX11_reachOf_29 (lv_at hl 3 rfl) ?_
        obtain ⟨r_3, hc_4, hF⟩ := bn_some hF
        refine xc_i (wn := (w_X11_reachOf K g_t t_raised t_undos t_reached t_length t_begin t_sort t_value t_word t_wrongAt t_badAt t_bad t_read t_pictured t_x t_all)) hP hD hS C0.2.2.1 [0, 1] [] [0, 1] rfl rfl (by decide) (by decide) rfl (by decide) (va_runV (As := [.int x4]) (rest := [.long x2, .long x2]) C0.1 (c_X11_gapAt l D K g_t t_raised t_undos t_reached t_length t_begin t_sort t_value t_word t_wrongAt t_badAt t_bad t_read t_pictured t_x t_all x4 r_3 hc_4 H.size) (cwV 1 hts gX11_reachOf_X11_gapAt rfl rfl rfl (by decide +kernel) ⟨Nat.le_of_ble_eq_true rfl, Nat.le_of_ble_eq_true rfl⟩) (xp_V C0.2 hP hD hS [0, 1] rfl (by decide) 10 0 rfl rfl rfl) rfl rfl hl.1 rfl (lv_room (Nat.le_of_ble_eq_true rfl)) dX11_reachOf_31 ⟨Nat.le_of_ble_eq_true rfl, Nat.le_of_ble_eq_true rfl⟩) (fun H locs hP hD hS => ?_)
        refine lv_i2l hx hb dX11_reachOf_34 rfl ?_
        obtain ⟨r_5, hc_6, hF⟩ := bn_some hF
        refine xc_l (wn := (w_X11_reachOf K g_t t_raised t_undos t_reached t_length t_begin t_sort t_value t_word t_wrongAt t_badAt t_bad t_read t_pictured t_x t_all)) hP hD hS C0.2.2.1 [] [0, 1] [0, 1] rfl rfl (by decide) (by decide) rfl (by decide) (va_runS (As := [.long x2, .long ((r_3).toInt64)]) (rest := [.long x2]) C0.1 (c_X11_measure l D K x2 ((r_3).toInt64) r_5 hc_6 H.size) (va_cwS 2 hts gX11_reachOf_X11_measure rfl rfl rfl (by decide +kernel) ⟨Nat.le_of_ble_eq_true rfl, Nat.le_of_ble_eq_true rfl⟩) (xp_S C0.2 hP hD hS [] rfl (by decide)) rfl rfl hl.1 rfl (lv_room (Nat.le_of_ble_eq_true rfl)) dX11_reachOf_35 ⟨Nat.le_of_ble_eq_true rfl, Nat.le_of_ble_eq_true rfl⟩) (fun H locs hP hD hS => ?_)
        obtain ⟨hg_7, hF⟩ := gd_some hF
        refine lv_ldiv hx hb dX11_reachOf_38 (nl_of hg_7) ?_
        refine lv_aload_n hx hb dX11_reachOf_39 rfl (lv_at hl 0 rfl) ?_
        refine lv_iload hx hb dX11_reachOf_40 (lv_at hl 3 rfl) ?_
        obtain ⟨r_8, hc_9, hF⟩ := bn_some hF
        refine xc_i (wn := (w_X11_reachOf K g_t t_raised t_undos t_reached t_length t_begin t_sort t_value t_word t_wrongAt t_badAt t_bad t_read t_pictured t_x t_all)) hP hD hS C0.2.2.1 [0, 1] [] [0, 1] rfl rfl (by decide) (by decide) rfl (by decide) (va_runV (As := [.int x4]) (rest := [.long (x2 / r_5)]) C0.1 (c_X11_gapAt l D K g_t t_raised t_undos t_reached t_length t_begin t_sort t_value t_word t_wrongAt t_badAt t_bad t_read t_pictured t_x t_all x4 r_8 hc_9 H.size) (cwV 1 hts gX11_reachOf_X11_gapAt rfl rfl rfl (by decide +kernel) ⟨Nat.le_of_ble_eq_true rfl, Nat.le_of_ble_eq_true rfl⟩) (xp_V C0.2 hP hD hS [0, 1] rfl (by decide) 10 0 rfl rfl rfl) rfl rfl hl.1 rfl (lv_room (Nat.le_of_ble_eq_true rfl)) dX11_reachOf_42 ⟨Nat.le_of_ble_eq_true rfl, Nat.le_of_ble_eq_true rfl⟩) (fun H locs hP hD hS => ?_)
        refine lv_i2l hx hb dX11_reachOf_45 rfl ?_
        refine lv_lmul hx hb dX11_reachOf_46 ?_
        refine lv_goto (tgt := 51) hx hb dX11_reachOf_47 (by decide) ?_
        refine lv_lstore_n (lv' := [(2, .long ((x2 / r_5) * (r_8).toInt64)), (0, .ref (g_t 0)), (1, .int x1), (4, .int x4)]) hx hb dX11_reachOf_51 rfl hl (by decide) rfl (fun ls hl => ?_)
        refine lv_iinc (v := (x4 + (1 : Int32))) (lv' := [(4, .int (x4 + (1 : Int32))), (2, .long ((x2 / r_5) * (r_8).toInt64)), (0, .ref (g_t 0)), (1, .int x1)]) hx hb dX11_reachOf_52 hl (k := 3) rfl (congrArg (fun z => x4 + z) (by decide)) (by decide) rfl (fun ls hl => ?_)
        refine lv_goto (tgt := 5) hx hb dX11_reachOf_55 (by decide) ?_
        exact ih x1 ((x2 / r_5) * (r_8).toInt64) (x4 + (1 : Int32)) H locs ls hP hD hS (lv_sub hl [2, 3, 1, 0] rfl) hF
def F_X11_reachOf (t_all : Nat → Int32) (x1 : Int32) : Option (Int64) :=
  L_X11_reachOf_5 t_all fu_ x1 (1 : Int64) (0 : Int32)
set_option maxHeartbeats 4000000 in
set_option maxRecDepth 100000 in
theorem c_X11_reachOf (l : Launch) (D : va_G) (K : Nat → ClassId) (g_t : Nat → Nat) (t_raised : Int32) (t_undos : Int32) (t_reached : Int32) (t_length : Int32) (t_begin : Int32) (t_sort : Int32) (t_value : Int32) (t_word : Int64) (t_wrongAt : Int32) (t_badAt : Int32) (t_bad : Int32) (t_read : Int32) (t_pictured : Int32) (t_x : Int32) (t_all : Nat → Int32) (x1 : Int32) (res : Int64) (hF : F_X11_reachOf t_all x1 = some res) :
    Ml_ l yX11_reachOf wsX11_reachOf rmX11_reachOf D K [.ref (g_t 0), .int x1] (w_X11_reachOf K g_t t_raised t_undos t_reached t_length t_begin t_sort t_value t_word t_wrongAt t_badAt t_bad t_read t_pictured t_x t_all) (w_X11_reachOf K g_t t_raised t_undos t_reached t_length t_begin t_sort t_value t_word t_wrongAt t_badAt t_bad t_read t_pictured t_x t_all) (res) := by
  refine en_l (cc := cX11_reachOf) (maxL := 5) (own := RX11) (by decide) rfl rfl (Nat.le_of_ble_eq_true rfl) ?_
  intro p e s m args below meth c A Q H locs ls C0 hP hD hS hl HR
  obtain ⟨⟨hx, hb, hml, hown, hts⟩, hK, -⟩ := id C0
  have hl : lv_has ls 5 [(0, .ref (g_t 0)), (1, .int x1)] := hl
  unfold F_X11_reachOf at hF
  refine lv_lconst (v := 1) hx hb dX11_reachOf_0 (by decide) ?_
  refine lv_lstore_n (lv' := [(2, .long (1 : Int64)), (0, .ref (g_t 0)), (1, .int x1)]) hx hb dX11_reachOf_1 rfl hl (by decide) rfl (fun ls hl => ?_)
  refine lv_iconst (v := 0) hx hb dX11_reachOf_2 (by decide) ?_
  refine lv_istore (lv' := [(4, .int (0 : Int32)), (2, .long (1 : Int64)), (0, .ref (g_t 0)), (1, .int x1)]) hx hb dX11_reachOf_3 hl (by decide) rfl (fun ls hl => ?_)
  exact w_X11_reachOf_5 C0 HR fu_ x1 (1 : Int64) (0 : Int32) H locs ls hP hD hS (lv_sub hl [2, 3, 1, 0] rfl) hF

/-! StaggerRadarModel.pairs(I)I -/
abbrev rmX11_pairs : Room := { frames := 4, cells := 0, slots := 0, locals := 89 }
theorem fl_X11_pairs_7 : Cond.fieldLink RX11 7 "StaggerRadarModel" "all" "[I" ∈ wsX11_pairs := by decide +kernel
theorem fl_X11_pairs_66 : Cond.fieldLink RX11 66 "StaggerRadarModel" "raised" "I" ∈ wsX11_pairs := by decide +kernel
theorem iw_X11_pairs_X11 : ∀ w ∈ u_ws RX11 TX11 30, w ∈ wsX11_pairs := by decide +kernel
abbrev w_X11_pairs (K : Nat → ClassId) (g_t : Nat → Nat) (t_raised : Int32) (t_undos : Int32) (t_reached : Int32) (t_length : Int32) (t_begin : Int32) (t_sort : Int32) (t_value : Int32) (t_word : Int64) (t_wrongAt : Int32) (t_badAt : Int32) (t_bad : Int32) (t_read : Int32) (t_pictured : Int32) (t_x : Int32) (t_all : Nat → Int32) (t_loud : Nat → Int32) : va_W := [((g_t 0), .inr (10, [.int t_raised, .ref (g_t 2), .ref (g_t 3), .ref (g_t 4), .ref (g_t 5), .int t_undos, .int t_reached, .int t_length, .int t_begin, .int t_sort, .int t_value, .long t_word, .int t_wrongAt, .int t_badAt, .int t_bad, .ref (g_t 16), .int t_read, .ref (g_t 18), .ref (g_t 19), .ref (g_t 20), .int t_pictured, .ref (g_t 22), .ref (g_t 23), .ref (g_t 24), .ref (g_t 25), .ref (g_t 26), .int t_x, .ref (g_t 28), .ref (g_t 29), .ref (g_t 30)])), ((g_t 2), .inl (K 0, 500, .inl t_all)), ((g_t 18), .inl (K 0, 300, .inl t_loud))]
def L_X11_pairs_95 (t_all : Nat → Int32) : Nat → Int32 → (Nat → Int32) → Int32 → Int32 → Int64 → Int32 → Int32 → Option (Int32 × Int32 × (Nat → Int32))
  | 0, _, _, _, _, _, _, _ => none
  | n_ + 1, t_raised, t_loud, x1, x3, x4, x6, x7 =>
    if (t_all 9) ≤ x7 then (some (x6, t_raised, t_loud)) else (if (0 : Int32) ≤ (lg_cmp ((x7).toInt64) x4) then (some (x6, t_raised, t_loud)) else ((F_X11_hitBits t_all t_loud x7).bind fun r_3 => (if r_3 = x3 then (if x1 = (2 : Int32) then ((F_X11_isRange t_all x7).bind fun r_7 => (if r_7 = (0 : Int32) then (L_X11_pairs_95 t_all n_ t_raised t_loud x1 x3 x4 (x6 + (1 : Int32)) (x7 + (1 : Int32))) else (L_X11_pairs_95 t_all n_ t_raised t_loud x1 x3 x4 (x6 + (0 : Int32)) (x7 + (1 : Int32))))) else (L_X11_pairs_95 t_all n_ t_raised t_loud x1 x3 x4 (x6 + (1 : Int32)) (x7 + (1 : Int32)))) else (L_X11_pairs_95 t_all n_ t_raised t_loud x1 x3 x4 (x6 + (0 : Int32)) (x7 + (1 : Int32))))))
set_option maxHeartbeats 4000000 in
set_option maxRecDepth 100000 in
theorem w_X11_pairs_95 {p : Program} {l : Launch} {e : Env} {s : State} {m : MethodId} {args : Array Value} {below : List Frame} {meth : Method} {c : Code} {D : va_G} {K : Nat → ClassId} {A : Nat → Prop} {Q : State → Prop} (C0 : cx_ p s m args c cX11_pairs 8 RX11 wsX11_pairs D K A) {g_t : Nat → Nat} {t_undos : Int32} {t_reached : Int32} {t_length : Int32} {t_begin : Int32} {t_sort : Int32} {t_value : Int32} {t_word : Int64} {t_wrongAt : Int32} {t_badAt : Int32} {t_bad : Int32} {t_read : Int32} {t_pictured : Int32} {t_x : Int32} {t_all : Nat → Int32} {res : Int32 × Int32 × (Nat → Int32)} (HR : ∀ (pc : Nat) (H : Heap) (locs : List Loc) (ls : Array Slot), decode cX11_pairs pc = .ok (.ireturn, 1) → va_P D vwCl (w_X11_pairs K g_t res.2.1 t_undos t_reached t_length t_begin t_sort t_value t_word t_wrongAt t_badAt t_bad t_read t_pictured t_x t_all res.2.2) H → va_D A (w_X11_pairs K g_t res.2.1 t_undos t_reached t_length t_begin t_sort t_value t_word t_wrongAt t_badAt t_bad t_read t_pictured t_x t_all res.2.2) → va_S A s.heap H locs → W p l e rmX11_pairs s m args below meth c H locs 0 0 Q (F0 m pc ls [.int res.1]))  :
    ∀ (n_ : Nat) (t_raised : Int32) (t_loud : Nat → Int32) (x1 : Int32) (x3 : Int32) (x4 : Int64) (x6 : Int32) (x7 : Int32) (H : Heap) (locs : List Loc) (ls : Array Slot), va_P D vwCl (w_X11_pairs K g_t t_raised t_undos t_reached t_length t_begin t_sort t_value t_word t_wrongAt t_badAt t_bad t_read t_pictured t_x t_all t_loud) H → va_D A (w_X11_pairs K g_t t_raised t_undos t_reached t_length t_begin t_sort t_value t_word t_wrongAt t_badAt t_bad t_read t_pictured t_x t_all t_loud) → va_S A s.heap H locs → lv_has ls 8 [(0, .ref (g_t 0)), (1, .int x1), (3, .int x3), (4, .long x4), (6, .int x6), (7, .int x7)] → L_X11_pairs_95 t_all n_ t_raised t_loud x1 x3 x4 x6 x7 = some res → W p l e rmX11_pairs s m args below meth c H locs 0 0 Q (F0 m 95 ls []) := by
  obtain ⟨⟨hx, hb, hml, hown, hts⟩, hK, -⟩ := id C0
  intro n_
  induction n_ with
  | zero =>
    intro t_raised t_loud x1 x3 x4 x6 x7 H locs ls hP hD hS hl hF
    exact no_s (show (none : Option (Int32 × Int32 × (Nat → Int32))) = some res from hF)
  | succ n_ ih =>
    intro t_raised t_loud x1 x3 x4 x6 x7 H locs ls hP hD hS hl hF
    rw [L_X11_pairs_95] at hF
    refine lv_iload hx hb dX11_pairs_95 (lv_at hl 5 rfl) ?_
    refine lv_aload_n hx hb dX11_pairs_97 rfl (lv_at hl 0 rfl) ?_
    refine va_get (D := D) (ci := 10) (v := .ref (g_t 2)) (C := RX11) (T := TX11) (N := 30) hx hb hts iw_X11_pairs_X11 hown hK hP 0 rfl rfl 1 (by decide) (hts _ fl_X11_pairs_7) (fun _ h9 => h9) rfl dX11_pairs_98 ?_
    refine lv_bipush (v := 9) hx hb dX11_pairs_101 (by decide) ?_
    refine xl_i (f := t_all) hx hb hK hP 1 0 rfl rfl (k := 9) (by decide) (in_v (by decide)) dX11_pairs_103 ?_
    refine lv_icmp_ge (tgt := 156) hx hb dX11_pairs_104 (by decide) (fun c_1 => ?_) (fun c_1 => ?_)
    · have hF := it_pos c_1 hF
      refine lv_iload hx hb dX11_pairs_156 (lv_at hl 4 rfl) ?_
      obtain rfl := Option.some.inj hF
      exact HR 158 H locs ls dX11_pairs_158 hP hD hS
    · have hF := it_neg c_1 hF
      refine lv_iload hx hb dX11_pairs_107 (lv_at hl 5 rfl) ?_
      refine lv_i2l hx hb dX11_pairs_109 rfl ?_
      refine lv_lload hx hb dX11_pairs_110 (lv_at hl 3 rfl) ?_
      refine W.lcmp hx hb dX11_pairs_112 ?_
      refine lv_if_ge (tgt := 156) hx hb dX11_pairs_113 (by decide) (fun c_2 => ?_) (fun c_2 => ?_)
      · have hF := it_pos c_2 hF
        refine lv_iload hx hb dX11_pairs_156 (lv_at hl 4 rfl) ?_
        obtain rfl := Option.some.inj hF
        exact HR 158 H locs ls dX11_pairs_158 hP hD hS
      · have hF := it_neg c_2 hF
        refine lv_iload hx hb dX11_pairs_116 (lv_at hl 4 rfl) ?_
        refine lv_aload_n hx hb dX11_pairs_118 rfl (lv_at hl 0 rfl) ?_
        refine lv_iload hx hb dX11_pairs_119 (lv_at hl 5 rfl) ?_
        obtain ⟨r_3, hc_4, hF⟩ := bn_some hF
        refine xc_i (wn := (w_X11_pairs K g_t t_raised t_undos t_reached t_length t_begin t_sort t_value t_word t_wrongAt t_badAt t_bad t_read t_pictured t_x t_all t_loud)) hP hD hS C0.2.2.1 [0, 1, 2] [] [0, 1, 2] rfl rfl (by decide) (by decide) rfl (by decide) (va_runV (As := [.int x7]) (rest := [.int x6]) C0.1 (c_X11_hitBits l D K g_t t_raised t_undos t_reached t_length t_begin t_sort t_value t_word t_wrongAt t_badAt t_bad t_read t_pictured t_x t_all t_loud x7 r_3 hc_4 H.size) (cwV 1 hts gX11_pairs_X11_hitBits rfl rfl rfl (by decide +kernel) ⟨Nat.le_of_ble_eq_true rfl, Nat.le_of_ble_eq_true rfl⟩) (xp_V C0.2 hP hD hS [0, 1, 2] rfl (by decide) 10 0 rfl rfl rfl) rfl rfl hl.1 rfl (lv_room (Nat.le_of_ble_eq_true rfl)) dX11_pairs_121 ⟨Nat.le_of_ble_eq_true rfl, Nat.le_of_ble_eq_true rfl⟩) (fun H locs hP hD hS => ?_)
        refine lv_iload_n hx hb dX11_pairs_124 rfl (lv_at hl 2 rfl) ?_
        refine lv_icmp_ne (tgt := 146) hx hb dX11_pairs_125 (by decide) (fun c_5 => ?_) (fun c_5 => ?_)
        · have hF := it_neg c_5 hF
          refine lv_iconst (v := 0) hx hb dX11_pairs_146 (by decide) ?_
          refine lv_iadd hx hb dX11_pairs_147 ?_
          refine lv_istore (lv' := [(6, .int (x6 + (0 : Int32))), (0, .ref (g_t 0)), (1, .int x1), (3, .int x3), (4, .long x4), (7, .int x7)]) hx hb dX11_pairs_148 hl (by decide) rfl (fun ls hl => ?_)
          refine lv_iinc (v := (x7 + (1 : Int32))) (lv' := [(7, .int (x7 + (1 : Int32))), (6, .int (x6 + (0 : Int32))), (0, .ref (g_t 0)), (1, .int x1), (3, .int x3), (4, .long x4)]) hx hb dX11_pairs_150 hl (k := 5) rfl (congrArg (fun z => x7 + z) (by decide)) (by decide) rfl (fun ls hl => ?_)
          refine lv_goto (tgt := 95) hx hb dX11_pairs_153 (by decide) ?_
          exact ih t_raised t_loud x1 x3 x4 (x6 + (0 : Int32)) (x7 + (1 : Int32)) H locs ls hP hD hS (lv_sub hl [2, 3, 4, 5, 1, 0] rfl) hF
        · have hF := it_pos c_5 hF
          refine lv_iload_n hx hb dX11_pairs_128 rfl (lv_at hl 1 rfl) ?_
          refine lv_iconst (v := 2) hx hb dX11_pairs_129 (by decide) ?_
          refine lv_icmp_ne (tgt := 142) hx hb dX11_pairs_130 (by decide) (fun c_6 => ?_) (fun c_6 => ?_)
          · have hF := it_neg c_6 hF
            refine lv_iconst (v := 1) hx hb dX11_pairs_142 (by decide) ?_
            refine lv_goto (tgt := 147) hx hb dX11_pairs_143 (by decide) ?_
            refine lv_iadd hx hb dX11_pairs_147 ?_
            refine lv_istore (lv' := [(6, .int (x6 + (1 : Int32))), (0, .ref (g_t 0)), (1, .int x1), (3, .int x3), (4, .long x4), (7, .int x7)]) hx hb dX11_pairs_148 hl (by decide) rfl (fun ls hl => ?_)
            refine lv_iinc (v := (x7 + (1 : Int32))) (lv' := [(7, .int (x7 + (1 : Int32))), (6, .int (x6 + (1 : Int32))), (0, .ref (g_t 0)), (1, .int x1), (3, .int x3), (4, .long x4)]) hx hb dX11_pairs_150 hl (k := 5) rfl (congrArg (fun z => x7 + z) (by decide)) (by decide) rfl (fun ls hl => ?_)
            refine lv_goto (tgt := 95) hx hb dX11_pairs_153 (by decide) ?_
            exact ih t_raised t_loud x1 x3 x4 (x6 + (1 : Int32)) (x7 + (1 : Int32)) H locs ls hP hD hS (lv_sub hl [2, 3, 4, 5, 1, 0] rfl) hF
          · have hF := it_pos c_6 hF
            refine lv_aload_n hx hb dX11_pairs_133 rfl (lv_at hl 0 rfl) ?_
            refine lv_iload hx hb dX11_pairs_134 (lv_at hl 5 rfl) ?_
            obtain ⟨r_7, hc_8, hF⟩ := bn_some hF
            refine xc_i (wn := (w_X11_pairs K g_t t_raised t_undos t_reached t_length t_begin t_sort t_value t_word t_wrongAt t_badAt t_bad t_read t_pictured t_x t_all t_loud)) hP hD hS C0.2.2.1 [0, 1] [2] [1, 2, 0] rfl rfl (by decide) (by decide) rfl (by decide) (va_runV (As := [.int x7]) (rest := [.int x6]) C0.1 (c_X11_isRange l D K g_t t_raised t_undos t_reached t_length t_begin t_sort t_value t_word t_wrongAt t_badAt t_bad t_read t_pictured t_x t_all x7 r_7 hc_8 H.size) (cwV 1 hts gX11_pairs_X11_isRange rfl rfl rfl (by decide +kernel) ⟨Nat.le_of_ble_eq_true rfl, Nat.le_of_ble_eq_true rfl⟩) (xp_V C0.2 hP hD hS [0, 1] rfl (by decide) 10 0 rfl rfl rfl) rfl rfl hl.1 rfl (lv_room (Nat.le_of_ble_eq_true rfl)) dX11_pairs_136 ⟨Nat.le_of_ble_eq_true rfl, Nat.le_of_ble_eq_true rfl⟩) (fun H locs hP hD hS => ?_)
            refine lv_if_ne (tgt := 146) hx hb dX11_pairs_139 (by decide) (fun c_9 => ?_) (fun c_9 => ?_)
            · have hF := it_neg c_9 hF
              refine lv_iconst (v := 0) hx hb dX11_pairs_146 (by decide) ?_
              refine lv_iadd hx hb dX11_pairs_147 ?_
              refine lv_istore (lv' := [(6, .int (x6 + (0 : Int32))), (0, .ref (g_t 0)), (1, .int x1), (3, .int x3), (4, .long x4), (7, .int x7)]) hx hb dX11_pairs_148 hl (by decide) rfl (fun ls hl => ?_)
              refine lv_iinc (v := (x7 + (1 : Int32))) (lv' := [(7, .int (x7 + (1 : Int32))), (6, .int (x6 + (0 : Int32))), (0, .ref (g_t 0)), (1, .int x1), (3, .int x3), (4, .long x4)]) hx hb dX11_pairs_150 hl (k := 5) rfl (congrArg (fun z => x7 + z) (by decide)) (by decide) rfl (fun ls hl => ?_)
              refine lv_goto (tgt := 95) hx hb dX11_pairs_153 (by decide) ?_
              exact ih t_raised t_loud x1 x3 x4 (x6 + (0 : Int32)) (x7 + (1 : Int32)) H locs ls hP hD hS (lv_sub hl [2, 3, 4, 5, 1, 0] rfl) hF
            · have hF := it_pos c_9 hF
              refine lv_iconst (v := 1) hx hb dX11_pairs_142 (by decide) ?_
              refine lv_goto (tgt := 147) hx hb dX11_pairs_143 (by decide) ?_
              refine lv_iadd hx hb dX11_pairs_147 ?_
              refine lv_istore (lv' := [(6, .int (x6 + (1 : Int32))), (0, .ref (g_t 0)), (1, .int x1), (3, .int x3), (4, .long x4), (7, .int x7)]) hx hb dX11_pairs_148 hl (by decide) rfl (fun ls hl => ?_)
              refine lv_iinc (v := (x7 + (1 : Int32))) (lv' := [(7, .int (x7 + (1 : Int32))), (6, .int (x6 + (1 : Int32))), (0, .ref (g_t 0)), (1, .int x1), (3, .int x3), (4, .long x4)]) hx hb dX11_pairs_150 hl (k := 5) rfl (congrArg (fun z => x7 + z) (by decide)) (by decide) rfl (fun ls hl => ?_)
              refine lv_goto (tgt := 95) hx hb dX11_pairs_153 (by decide) ?_
              exact ih t_raised t_loud x1 x3 x4 (x6 + (1 : Int32)) (x7 + (1 : Int32)) H locs ls hP hD hS (lv_sub hl [2, 3, 4, 5, 1, 0] rfl) hF
def J_X11_pairs_61 (t_all : Nat → Int32) (t_raised : Int32) (t_loud : Nat → Int32) (x1 : Int32) (x2 : Int32) : Option (Int32 × Int32 × (Nat → Int32)) :=
  if x1 = (0 : Int32) then (some (x2, t_raised, t_loud)) else (if x2 = (0 : Int32) then (some (x2, t_raised, t_loud)) else ((F_X11_reachOf t_all (((1 : Int32) <<< ((t_all 0) &&& 31)) - (1 : Int32))).bind fun r_3 => (L_X11_pairs_95 t_all fu_ t_raised t_loud x1 (((1 : Int32) <<< ((t_all 0) &&& 31)) - (1 : Int32)) r_3 (0 : Int32) (0 : Int32))))
set_option maxHeartbeats 4000000 in
set_option maxRecDepth 100000 in
theorem w_X11_pairs_61 {p : Program} {l : Launch} {e : Env} {s : State} {m : MethodId} {args : Array Value} {below : List Frame} {meth : Method} {c : Code} {D : va_G} {K : Nat → ClassId} {A : Nat → Prop} {Q : State → Prop} (C0 : cx_ p s m args c cX11_pairs 8 RX11 wsX11_pairs D K A) {g_t : Nat → Nat} {t_undos : Int32} {t_reached : Int32} {t_length : Int32} {t_begin : Int32} {t_sort : Int32} {t_value : Int32} {t_word : Int64} {t_wrongAt : Int32} {t_badAt : Int32} {t_bad : Int32} {t_read : Int32} {t_pictured : Int32} {t_x : Int32} {t_all : Nat → Int32} {res : Int32 × Int32 × (Nat → Int32)} (HR : ∀ (pc : Nat) (H : Heap) (locs : List Loc) (ls : Array Slot), decode cX11_pairs pc = .ok (.ireturn, 1) → va_P D vwCl (w_X11_pairs K g_t res.2.1 t_undos t_reached t_length t_begin t_sort t_value t_word t_wrongAt t_badAt t_bad t_read t_pictured t_x t_all res.2.2) H → va_D A (w_X11_pairs K g_t res.2.1 t_undos t_reached t_length t_begin t_sort t_value t_word t_wrongAt t_badAt t_bad t_read t_pictured t_x t_all res.2.2) → va_S A s.heap H locs → W p l e rmX11_pairs s m args below meth c H locs 0 0 Q (F0 m pc ls [.int res.1]))  :
    ∀ (t_raised : Int32) (t_loud : Nat → Int32) (x1 : Int32) (x2 : Int32) (H : Heap) (locs : List Loc) (ls : Array Slot), va_P D vwCl (w_X11_pairs K g_t t_raised t_undos t_reached t_length t_begin t_sort t_value t_word t_wrongAt t_badAt t_bad t_read t_pictured t_x t_all t_loud) H → va_D A (w_X11_pairs K g_t t_raised t_undos t_reached t_length t_begin t_sort t_value t_word t_wrongAt t_badAt t_bad t_read t_pictured t_x t_all t_loud) → va_S A s.heap H locs → lv_has ls 8 [(0, .ref (g_t 0)), (1, .int x1), (2, .int x2)] → J_X11_pairs_61 t_all t_raised t_loud x1 x2 = some res → W p l e rmX11_pairs s m args below meth c H locs 0 0 Q (F0 m 61 ls []) := by
  obtain ⟨⟨hx, hb, hml, hown, hts⟩, hK, -⟩ := id C0
  intro t_raised t_loud x1 x2 H locs ls hP hD hS hl hF
  unfold J_X11_pairs_61 at hF
  refine lv_iload_n hx hb dX11_pairs_61 rfl (lv_at hl 1 rfl) ?_
  refine lv_if_eq (tgt := 69) hx hb dX11_pairs_62 (by decide) (fun c_1 => ?_) (fun c_1 => ?_)
  · have hF := it_pos c_1 hF
    refine lv_iload_n hx hb dX11_pairs_69 rfl (lv_at hl 2 rfl) ?_
    obtain rfl := Option.some.inj hF
    exact HR 70 H locs ls dX11_pairs_70 hP hD hS
  · have hF := it_neg c_1 hF
    refine lv_iload_n hx hb dX11_pairs_65 rfl (lv_at hl 2 rfl) ?_
    refine lv_if_ne (tgt := 71) hx hb dX11_pairs_66 (by decide) (fun c_2 => ?_) (fun c_2 => ?_)
    · have hF := it_neg c_2 hF
      refine lv_iconst (v := 1) hx hb dX11_pairs_71 (by decide) ?_
      refine lv_aload_n hx hb dX11_pairs_72 rfl (lv_at hl 0 rfl) ?_
      refine va_get (D := D) (ci := 10) (v := .ref (g_t 2)) (C := RX11) (T := TX11) (N := 30) hx hb hts iw_X11_pairs_X11 hown hK hP 0 rfl rfl 1 (by decide) (hts _ fl_X11_pairs_7) (fun _ h9 => h9) rfl dX11_pairs_73 ?_
      refine lv_iconst (v := 0) hx hb dX11_pairs_76 (by decide) ?_
      refine xl_i (f := t_all) hx hb hK hP 1 0 rfl rfl (k := 0) (by decide) (in_v (by decide)) dX11_pairs_77 ?_
      refine lv_ishl hx hb dX11_pairs_78 ?_
      refine lv_iconst (v := 1) hx hb dX11_pairs_79 (by decide) ?_
      refine lv_isub hx hb dX11_pairs_80 ?_
      refine lv_istore_n (lv' := [(3, .int (((1 : Int32) <<< ((t_all 0) &&& 31)) - (1 : Int32))), (0, .ref (g_t 0)), (1, .int x1), (2, .int x2)]) hx hb dX11_pairs_81 rfl hl (by decide) rfl (fun ls hl => ?_)
      refine lv_aload_n hx hb dX11_pairs_82 rfl (lv_at hl 1 rfl) ?_
      refine lv_iload_n hx hb dX11_pairs_83 rfl (lv_at hl 0 rfl) ?_
      obtain ⟨r_3, hc_4, hF⟩ := bn_some hF
      refine xc_l (wn := (w_X11_pairs K g_t t_raised t_undos t_reached t_length t_begin t_sort t_value t_word t_wrongAt t_badAt t_bad t_read t_pictured t_x t_all t_loud)) hP hD hS C0.2.2.1 [0, 1] [2] [1, 2, 0] rfl rfl (by decide) (by decide) rfl (by decide) (va_runV (As := [.int (((1 : Int32) <<< ((t_all 0) &&& 31)) - (1 : Int32))]) (rest := []) C0.1 (c_X11_reachOf l D K g_t t_raised t_undos t_reached t_length t_begin t_sort t_value t_word t_wrongAt t_badAt t_bad t_read t_pictured t_x t_all (((1 : Int32) <<< ((t_all 0) &&& 31)) - (1 : Int32)) r_3 hc_4 H.size) (cwV 1 hts gX11_pairs_X11_reachOf rfl rfl rfl (by decide +kernel) ⟨Nat.le_of_ble_eq_true rfl, Nat.le_of_ble_eq_true rfl⟩) (xp_V C0.2 hP hD hS [0, 1] rfl (by decide) 10 0 rfl rfl rfl) rfl rfl hl.1 rfl (lv_room (Nat.le_of_ble_eq_true rfl)) dX11_pairs_84 ⟨Nat.le_of_ble_eq_true rfl, Nat.le_of_ble_eq_true rfl⟩) (fun H locs hP hD hS => ?_)
      refine lv_lstore (lv' := [(4, .long r_3), (3, .int (((1 : Int32) <<< ((t_all 0) &&& 31)) - (1 : Int32))), (0, .ref (g_t 0)), (1, .int x1), (2, .int x2)]) hx hb dX11_pairs_87 hl (by decide) rfl (fun ls hl => ?_)
      refine lv_iconst (v := 0) hx hb dX11_pairs_89 (by decide) ?_
      refine lv_istore (lv' := [(6, .int (0 : Int32)), (4, .long r_3), (3, .int (((1 : Int32) <<< ((t_all 0) &&& 31)) - (1 : Int32))), (0, .ref (g_t 0)), (1, .int x1), (2, .int x2)]) hx hb dX11_pairs_90 hl (by decide) rfl (fun ls hl => ?_)
      refine lv_iconst (v := 0) hx hb dX11_pairs_92 (by decide) ?_
      refine lv_istore (lv' := [(7, .int (0 : Int32)), (6, .int (0 : Int32)), (4, .long r_3), (3, .int (((1 : Int32) <<< ((t_all 0) &&& 31)) - (1 : Int32))), (0, .ref (g_t 0)), (1, .int x1), (2, .int x2)]) hx hb dX11_pairs_93 hl (by decide) rfl (fun ls hl => ?_)
      exact w_X11_pairs_95 C0 HR fu_ t_raised t_loud x1 (((1 : Int32) <<< ((t_all 0) &&& 31)) - (1 : Int32)) r_3 (0 : Int32) (0 : Int32) H locs ls hP hD hS (lv_sub hl [4, 5, 3, 2, 1, 0] rfl) hF
    · have hF := it_pos c_2 hF
      refine lv_iload_n hx hb dX11_pairs_69 rfl (lv_at hl 2 rfl) ?_
      obtain rfl := Option.some.inj hF
      exact HR 70 H locs ls dX11_pairs_70 hP hD hS
def L_X11_pairs_37 (t_all : Nat → Int32) : Nat → Int32 → (Nat → Int32) → Int32 → Int32 → Int32 → Option (Int32 × Int32 × (Nat → Int32))
  | 0, _, _, _, _, _ => none
  | n_ + 1, t_raised, t_loud, x1, x2, x3 =>
    if (t_all 0) ≤ x3 then (J_X11_pairs_61 t_all t_raised t_loud x1 x2) else ((F_X11_echoesOf t_all t_loud x3).bind fun r_2 => (L_X11_pairs_37 t_all n_ t_raised t_loud x1 (x2 * r_2) (x3 + (1 : Int32))))
set_option maxHeartbeats 4000000 in
set_option maxRecDepth 100000 in
theorem w_X11_pairs_37 {p : Program} {l : Launch} {e : Env} {s : State} {m : MethodId} {args : Array Value} {below : List Frame} {meth : Method} {c : Code} {D : va_G} {K : Nat → ClassId} {A : Nat → Prop} {Q : State → Prop} (C0 : cx_ p s m args c cX11_pairs 8 RX11 wsX11_pairs D K A) {g_t : Nat → Nat} {t_undos : Int32} {t_reached : Int32} {t_length : Int32} {t_begin : Int32} {t_sort : Int32} {t_value : Int32} {t_word : Int64} {t_wrongAt : Int32} {t_badAt : Int32} {t_bad : Int32} {t_read : Int32} {t_pictured : Int32} {t_x : Int32} {t_all : Nat → Int32} {res : Int32 × Int32 × (Nat → Int32)} (HR : ∀ (pc : Nat) (H : Heap) (locs : List Loc) (ls : Array Slot), decode cX11_pairs pc = .ok (.ireturn, 1) → va_P D vwCl (w_X11_pairs K g_t res.2.1 t_undos t_reached t_length t_begin t_sort t_value t_word t_wrongAt t_badAt t_bad t_read t_pictured t_x t_all res.2.2) H → va_D A (w_X11_pairs K g_t res.2.1 t_undos t_reached t_length t_begin t_sort t_value t_word t_wrongAt t_badAt t_bad t_read t_pictured t_x t_all res.2.2) → va_S A s.heap H locs → W p l e rmX11_pairs s m args below meth c H locs 0 0 Q (F0 m pc ls [.int res.1]))  :
    ∀ (n_ : Nat) (t_raised : Int32) (t_loud : Nat → Int32) (x1 : Int32) (x2 : Int32) (x3 : Int32) (H : Heap) (locs : List Loc) (ls : Array Slot), va_P D vwCl (w_X11_pairs K g_t t_raised t_undos t_reached t_length t_begin t_sort t_value t_word t_wrongAt t_badAt t_bad t_read t_pictured t_x t_all t_loud) H → va_D A (w_X11_pairs K g_t t_raised t_undos t_reached t_length t_begin t_sort t_value t_word t_wrongAt t_badAt t_bad t_read t_pictured t_x t_all t_loud) → va_S A s.heap H locs → lv_has ls 8 [(0, .ref (g_t 0)), (1, .int x1), (2, .int x2), (3, .int x3)] → L_X11_pairs_37 t_all n_ t_raised t_loud x1 x2 x3 = some res → W p l e rmX11_pairs s m args below meth c H locs 0 0 Q (F0 m 37 ls []) := by
  obtain ⟨⟨hx, hb, hml, hown, hts⟩, hK, -⟩ := id C0
  intro n_
  induction n_ with
  | zero =>
    intro t_raised t_loud x1 x2 x3 H locs ls hP hD hS hl hF
    exact no_s (show (none : Option (Int32 × Int32 × (Nat → Int32))) = some res from hF)
  | succ n_ ih =>
    intro t_raised t_loud x1 x2 x3 H locs ls hP hD hS hl hF
    rw [L_X11_pairs_37] at hF
    refine lv_iload_n hx hb dX11_pairs_37 rfl (lv_at hl 3 rfl) ?_
    refine lv_aload_n hx hb dX11_pairs_38 rfl (lv_at hl 0 rfl) ?_
    refine va_get (D := D) (ci := 10) (v := .ref (g_t 2)) (C := RX11) (T := TX11) (N := 30) hx hb hts iw_X11_pairs_X11 hown hK hP 0 rfl rfl 1 (by decide) (hts _ fl_X11_pairs_7) (fun _ h9 => h9) rfl dX11_pairs_39 ?_
    refine lv_iconst (v := 0) hx hb dX11_pairs_42 (by decide) ?_
    refine xl_i (f := t_all) hx hb hK hP 1 0 rfl rfl (k := 0) (by decide) (in_v (by decide)) dX11_pairs_43 ?_
    refine lv_icmp_ge (tgt := 61) hx hb dX11_pairs_44 (by decide) (fun c_1 => ?_) (fun c_1 => ?_)
    · have hF := it_pos c_1 hF
      exact w_X11_pairs_61 C0 HR t_raised t_loud x1 x2 H locs ls hP hD hS (lv_sub hl [0, 1, 2] rfl) hF
    · have hF := it_neg c_1 hF
      refine lv_iload_n hx hb dX11_pairs_47 rfl (lv_at hl 2 rfl) ?_
      refine lv_aload_n hx hb dX11_pairs_48 rfl (lv_at hl 0 rfl) ?_
      refine lv_iload_n hx hb dX11_pairs_49 rfl (lv_at hl 3 rfl) ?_
      obtain ⟨r_2, hc_3, hF⟩ := bn_some hF
      refine xc_i (wn := (w_X11_pairs K g_t t_raised t_undos t_reached t_length t_begin t_sort t_value t_word t_wrongAt t_badAt t_bad t_read t_pictured t_x t_all t_loud)) hP hD hS C0.2.2.1 [0, 1, 2] [] [0, 1, 2] rfl rfl (by decide) (by decide) rfl (by decide) (va_runV (As := [.int x3]) (rest := [.int x2]) C0.1 (c_X11_echoesOf l D K g_t t_raised t_undos t_reached t_length t_begin t_sort t_value t_word t_wrongAt t_badAt t_bad t_read t_pictured t_x t_all t_loud x3 r_2 hc_3 H.size) (cwV 1 hts gX11_pairs_X11_echoesOf rfl rfl rfl (by decide +kernel) ⟨Nat.le_of_ble_eq_true rfl, Nat.le_of_ble_eq_true rfl⟩) (xp_V C0.2 hP hD hS [0, 1, 2] rfl (by decide) 10 0 rfl rfl rfl) rfl rfl hl.1 rfl (lv_room (Nat.le_of_ble_eq_true rfl)) dX11_pairs_50 ⟨Nat.le_of_ble_eq_true rfl, Nat.le_of_ble_eq_true rfl⟩) (fun H locs hP hD hS => ?_)
      refine lv_imul hx hb dX11_pairs_53 ?_
      refine lv_istore_n (lv' := [(2, .int (x2 * r_2)), (0, .ref (g_t 0)), (1, .int x1), (3, .int x3)]) hx hb dX11_pairs_54 rfl hl (by decide) rfl (fun ls hl => ?_)
      refine lv_iinc (v := (x3 + (1 : Int32))) (lv' := [(3, .int (x3 + (1 : Int32))), (2, .int (x2 * r_2)), (0, .ref (g_t 0)), (1, .int x1)]) hx hb dX11_pairs_55 hl (k := 3) rfl (congrArg (fun z => x3 + z) (by decide)) (by decide) rfl (fun ls hl => ?_)
      refine lv_goto (tgt := 37) hx hb dX11_pairs_58 (by decide) ?_
      exact ih t_raised t_loud x1 (x2 * r_2) (x3 + (1 : Int32)) H locs ls hP hD hS (lv_sub hl [2, 3, 1, 0] rfl) hF
def F_X11_pairs (t_raised : Int32) (t_all : Nat → Int32) (t_loud : Nat → Int32) (x1 : Int32) : Option (Int32 × Int32 × (Nat → Int32)) :=
  (F_X11_in x1 (0 : Int32) (2 : Int32)).bind fun r_1 => (if r_1 = (0 : Int32) then (some ((-1 : Int32), (0 : Int32), t_loud)) else ((F_X11_laysLoud t_all t_loud).bind fun r_4 => (if (t_all 0) = (0 : Int32) then (L_X11_pairs_37 t_all fu_ (0 : Int32) r_4 x1 (0 : Int32) (0 : Int32)) else (L_X11_pairs_37 t_all fu_ (0 : Int32) r_4 x1 (1 : Int32) (0 : Int32)))))
set_option maxHeartbeats 4000000 in
set_option maxRecDepth 100000 in
theorem c_X11_pairs (l : Launch) (D : va_G) (K : Nat → ClassId) (g_t : Nat → Nat) (t_raised : Int32) (t_undos : Int32) (t_reached : Int32) (t_length : Int32) (t_begin : Int32) (t_sort : Int32) (t_value : Int32) (t_word : Int64) (t_wrongAt : Int32) (t_badAt : Int32) (t_bad : Int32) (t_read : Int32) (t_pictured : Int32) (t_x : Int32) (t_all : Nat → Int32) (t_loud : Nat → Int32) (x1 : Int32) (res : Int32 × Int32 × (Nat → Int32)) (hF : F_X11_pairs t_raised t_all t_loud x1 = some res) :
    Mi_ l yX11_pairs wsX11_pairs rmX11_pairs D K [.ref (g_t 0), .int x1] (w_X11_pairs K g_t t_raised t_undos t_reached t_length t_begin t_sort t_value t_word t_wrongAt t_badAt t_bad t_read t_pictured t_x t_all t_loud) (w_X11_pairs K g_t res.2.1 t_undos t_reached t_length t_begin t_sort t_value t_word t_wrongAt t_badAt t_bad t_read t_pictured t_x t_all res.2.2) (res.1) := by
  refine en_i (cc := cX11_pairs) (maxL := 8) (own := RX11) (by decide) rfl rfl (Nat.le_of_ble_eq_true rfl) ?_
  intro p e s m args below meth c A Q H locs ls C0 hP hD hS hl HR
  obtain ⟨⟨hx, hb, hml, hown, hts⟩, hK, -⟩ := id C0
  have hl : lv_has ls 8 [(0, .ref (g_t 0)), (1, .int x1)] := hl
  unfold F_X11_pairs at hF
  refine lv_aload_n hx hb dX11_pairs_0 rfl (lv_at hl 0 rfl) ?_
  refine lv_iconst (v := 0) hx hb dX11_pairs_1 (by decide) ?_
  refine va_put (D := D) (ci := 10) (v := .int (0 : Int32)) (ty := .int) (C := RX11) (T := TX11) (N := 30) hx hb hts iw_X11_pairs_X11 tyX11 tyX11_ok nmX11 hown hK hP hD hS 0 rfl rfl 0 (by decide) (hts _ fl_X11_pairs_66) (fun _ h9 => h9) rfl (by decide +kernel) rfl rfl (Nat.le_of_ble_eq_true rfl) dX11_pairs_2 (fun H locs hP hD hS => ?_)
  have hP : va_P D vwCl (w_X11_pairs K g_t (0 : Int32) t_undos t_reached t_length t_begin t_sort t_value t_word t_wrongAt t_badAt t_bad t_read t_pictured t_x t_all t_loud) H := hP
  have hD : va_D A (w_X11_pairs K g_t (0 : Int32) t_undos t_reached t_length t_begin t_sort t_value t_word t_wrongAt t_badAt t_bad t_read t_pictured t_x t_all t_loud) := hD
  refine lv_iload_n hx hb dX11_pairs_5 rfl (lv_at hl 1 rfl) ?_
  refine lv_iconst (v := 0) hx hb dX11_pairs_6 (by decide) ?_
  refine lv_iconst (v := 2) hx hb dX11_pairs_7 (by decide) ?_
  obtain ⟨r_1, hc_2, hF⟩ := bn_some hF
  refine xc_i (wn := (w_X11_pairs K g_t (0 : Int32) t_undos t_reached t_length t_begin t_sort t_value t_word t_wrongAt t_badAt t_bad t_read t_pictured t_x t_all t_loud)) hP hD hS C0.2.2.1 [] [0, 1, 2] [0, 1, 2] rfl rfl (by decide) (by decide) rfl (by decide) (va_runS (As := [.int x1, .int (0 : Int32), .int (2 : Int32)]) (rest := []) C0.1 (c_X11_in l D K x1 (0 : Int32) (2 : Int32) r_1 hc_2 H.size) (va_cwS 3 hts gX11_pairs_X11_in rfl rfl rfl (by decide +kernel) ⟨Nat.le_of_ble_eq_true rfl, Nat.le_of_ble_eq_true rfl⟩) (xp_S C0.2 hP hD hS [] rfl (by decide)) rfl rfl hl.1 rfl (lv_room (Nat.le_of_ble_eq_true rfl)) dX11_pairs_8 ⟨Nat.le_of_ble_eq_true rfl, Nat.le_of_ble_eq_true rfl⟩) (fun H locs hP hD hS => ?_)
  refine lv_if_ne (tgt := 16) hx hb dX11_pairs_11 (by decide) (fun c_3 => ?_) (fun c_3 => ?_)
  · have hF := it_neg c_3 hF
    refine lv_aload_n hx hb dX11_pairs_16 rfl (lv_at hl 0 rfl) ?_
    obtain ⟨r_4, hc_5, hF⟩ := bn_some hF
    refine xc_v (wn := (w_X11_pairs K g_t (0 : Int32) t_undos t_reached t_length t_begin t_sort t_value t_word t_wrongAt t_badAt t_bad t_read t_pictured t_x t_all r_4)) hP hD hS C0.2.2.1 [0, 1, 2] [] [0, 1, 2] rfl rfl (by decide) (by decide) rfl (by decide) (va_runV (As := []) (rest := []) C0.1 (c_X11_laysLoud l D K g_t (0 : Int32) t_undos t_reached t_length t_begin t_sort t_value t_word t_wrongAt t_badAt t_bad t_read t_pictured t_x t_all t_loud r_4 hc_5 H.size) (cwV 0 hts gX11_pairs_X11_laysLoud rfl rfl rfl (by decide +kernel) ⟨Nat.le_of_ble_eq_true rfl, Nat.le_of_ble_eq_true rfl⟩) (xp_V C0.2 hP hD hS [0, 1, 2] rfl (by decide) 10 0 rfl rfl rfl) rfl rfl hl.1 rfl (lv_room (Nat.le_of_ble_eq_true rfl)) dX11_pairs_17 ⟨Nat.le_of_ble_eq_true rfl, Nat.le_of_ble_eq_true rfl⟩) (fun H locs hP hD hS => ?_)
    refine lv_aload_n hx hb dX11_pairs_20 rfl (lv_at hl 0 rfl) ?_
    refine va_get (D := D) (ci := 10) (v := .ref (g_t 2)) (C := RX11) (T := TX11) (N := 30) hx hb hts iw_X11_pairs_X11 hown hK hP 0 rfl rfl 1 (by decide) (hts _ fl_X11_pairs_7) (fun _ h9 => h9) rfl dX11_pairs_21 ?_
    refine lv_iconst (v := 0) hx hb dX11_pairs_24 (by decide) ?_
    refine xl_i (f := t_all) hx hb hK hP 1 0 rfl rfl (k := 0) (by decide) (in_v (by decide)) dX11_pairs_25 ?_
    refine lv_if_ne (tgt := 33) hx hb dX11_pairs_26 (by decide) (fun c_6 => ?_) (fun c_6 => ?_)
    · have hF := it_neg c_6 hF
      refine lv_iconst (v := 1) hx hb dX11_pairs_33 (by decide) ?_
      refine lv_istore_n (lv' := [(2, .int (1 : Int32)), (0, .ref (g_t 0)), (1, .int x1)]) hx hb dX11_pairs_34 rfl hl (by decide) rfl (fun ls hl => ?_)
      refine lv_iconst (v := 0) hx hb dX11_pairs_35 (by decide) ?_
      refine lv_istore_n (lv' := [(3, .int (0 : Int32)), (2, .int (1 : Int32)), (0, .ref (g_t 0)), (1, .int x1)]) hx hb dX11_pairs_36 rfl hl (by decide) rfl (fun ls hl => ?_)
      exact w_X11_pairs_37 C0 HR fu_ (0 : Int32) r_4 x1 (1 : Int32) (0 : Int32) H locs ls hP hD hS (lv_sub hl [2, 3, 1, 0] rfl) hF
    · have hF := it_pos c_6 hF
      refine lv_iconst (v := 0) hx hb dX11_pairs_29 (by decide) ?_
      refine lv_goto (tgt := 34) hx hb dX11_pairs_30 (by decide) ?_
      refine lv_istore_n (lv' := [(2, .int (0 : Int32)), (0, .ref (g_t 0)), (1, .int x1)]) hx hb dX11_pairs_34 rfl hl (by decide) rfl (fun ls hl => ?_)
      refine lv_iconst (v := 0) hx hb dX11_pairs_35 (by decide) ?_
      refine lv_istore_n (lv' := [(3, .int (0 : Int32)), (2, .int (0 : Int32)), (0, .ref (g_t 0)), (1, .int x1)]) hx hb dX11_pairs_36 rfl hl (by decide) rfl (fun ls hl => ?_)
      exact w_X11_pairs_37 C0 HR fu_ (0 : Int32) r_4 x1 (0 : Int32) (0 : Int32) H locs ls hP hD hS (lv_sub hl [2, 3, 1, 0] rfl) hF
  · have hF := it_pos c_3 hF
    refine lv_iconst (v := (-1)) hx hb dX11_pairs_14 (by decide) ?_
    obtain rfl := Option.some.inj hF
    exact HR 15 H locs ls dX11_pairs_15 hP hD hS

/-! StaggerRadarModel.period()I -/
abbrev rmX11_period : Room := { frames := 1, cells := 0, slots := 0, locals := 21 }
theorem fl_X11_period_7 : Cond.fieldLink RX11 7 "StaggerRadarModel" "all" "[I" ∈ wsX11_period := by decide +kernel
theorem fl_X11_period_66 : Cond.fieldLink RX11 66 "StaggerRadarModel" "raised" "I" ∈ wsX11_period := by decide +kernel
theorem iw_X11_period_X11 : ∀ w ∈ u_ws RX11 TX11 30, w ∈ wsX11_period := by decide +kernel
abbrev w_X11_period (K : Nat → ClassId) (g_t : Nat → Nat) (t_raised : Int32) (t_undos : Int32) (t_reached : Int32) (t_length : Int32) (t_begin : Int32) (t_sort : Int32) (t_value : Int32) (t_word : Int64) (t_wrongAt : Int32) (t_badAt : Int32) (t_bad : Int32) (t_read : Int32) (t_pictured : Int32) (t_x : Int32) (t_all : Nat → Int32) : va_W := [((g_t 0), .inr (10, [.int t_raised, .ref (g_t 2), .ref (g_t 3), .ref (g_t 4), .ref (g_t 5), .int t_undos, .int t_reached, .int t_length, .int t_begin, .int t_sort, .int t_value, .long t_word, .int t_wrongAt, .int t_badAt, .int t_bad, .ref (g_t 16), .int t_read, .ref (g_t 18), .ref (g_t 19), .ref (g_t 20), .int t_pictured, .ref (g_t 22), .ref (g_t 23), .ref (g_t 24), .ref (g_t 25), .ref (g_t 26), .int t_x, .ref (g_t 28), .ref (g_t 29), .ref (g_t 30)])), ((g_t 2), .inl (K 0, 500, .inl t_all))]
def L_X11_period_20 (t_all : Nat → Int32) (k_9 : Int32 → Int32 → Int32 → Option (Int32 × Int32)) : Nat → Int32 → Int32 → Int32 → Int32 → Option (Int32 × Int32)
  | 0, _, _, _, _ => none
  | n_ + 1, t_raised, x1, x2, x3 =>
    if (t_all 0) ≤ x3 then (k_9 t_raised x1 x2) else (if x2 = (0 : Int32) then (L_X11_period_20 t_all k_9 n_ t_raised x1 (0 : Int32) (x3 + (1 : Int32))) else ((F_X11_gapAt t_all x3).bind fun r_3 => (gd_ (decide (¬ (t_all 6) = 0)) (if ((x1 * r_3) - (x1 * r_3) / (t_all 6) * (t_all 6)) = (0 : Int32) then (L_X11_period_20 t_all k_9 n_ t_raised x1 (1 : Int32) (x3 + (1 : Int32))) else (L_X11_period_20 t_all k_9 n_ t_raised x1 (0 : Int32) (x3 + (1 : Int32)))))))
set_option maxHeartbeats 4000000 in
set_option maxRecDepth 100000 in
theorem w_X11_period_20 {p : Program} {l : Launch} {e : Env} {s : State} {m : MethodId} {args : Array Value} {below : List Frame} {meth : Method} {c : Code} {D : va_G} {K : Nat → ClassId} {A : Nat → Prop} {Q : State → Prop} (C0 : cx_ p s m args c cX11_period 4 RX11 wsX11_period D K A) {g_t : Nat → Nat} {t_undos : Int32} {t_reached : Int32} {t_length : Int32} {t_begin : Int32} {t_sort : Int32} {t_value : Int32} {t_word : Int64} {t_wrongAt : Int32} {t_badAt : Int32} {t_bad : Int32} {t_read : Int32} {t_pictured : Int32} {t_x : Int32} {t_all : Nat → Int32} {res : Int32 × Int32} (HR : ∀ (pc : Nat) (H : Heap) (locs : List Loc) (ls : Array Slot), decode cX11_period pc = .ok (.ireturn, 1) → va_P D vwCl (w_X11_period K g_t res.2 t_undos t_reached t_length t_begin t_sort t_value t_word t_wrongAt t_badAt t_bad t_read t_pictured t_x t_all) H → va_D A (w_X11_period K g_t res.2 t_undos t_reached t_length t_begin t_sort t_value t_word t_wrongAt t_badAt t_bad t_read t_pictured t_x t_all) → va_S A s.heap H locs → W p l e rmX11_period s m args below meth c H locs 0 0 Q (F0 m pc ls [.int res.1])) {k_9 : Int32 → Int32 → Int32 → Option (Int32 × Int32)} (HK_9 : ∀ (t_raised : Int32) (x1 : Int32) (x2 : Int32) (H : Heap) (locs : List Loc) (ls : Array Slot), va_P D vwCl (w_X11_period K g_t t_raised t_undos t_reached t_length t_begin t_sort t_value t_word t_wrongAt t_badAt t_bad t_read t_pictured t_x t_all) H → va_D A (w_X11_period K g_t t_raised t_undos t_reached t_length t_begin t_sort t_value t_word t_wrongAt t_badAt t_bad t_read t_pictured t_x t_all) → va_S A s.heap H locs → lv_has ls 4 [(0, .ref (g_t 0)), (1, .int x1), (2, .int x2)] → k_9 t_raised x1 x2 = some res → W p l e rmX11_period s m args below meth c H locs 0 0 Q (F0 m 9 ls [])) :
    ∀ (n_ : Nat) (t_raised : Int32) (x1 : Int32) (x2 : Int32) (x3 : Int32) (H : Heap) (locs : List Loc) (ls : Array Slot), va_P D vwCl (w_X11_period K g_t t_raised t_undos t_reached t_length t_begin t_sort t_value t_word t_wrongAt t_badAt t_bad t_read t_pictured t_x t_all) H → va_D A (w_X11_period K g_t t_raised t_undos t_reached t_length t_begin t_sort t_value t_word t_wrongAt t_badAt t_bad t_read t_pictured t_x t_all) → va_S A s.heap H locs → lv_has ls 4 [(0, .ref (g_t 0)), (1, .int x1), (2, .int x2), (3, .int x3)] → L_X11_period_20 t_all k_9 n_ t_raised x1 x2 x3 = some res → W p l e rmX11_period s m args below meth c H locs 0 0 Q (F0 m 20 ls []) := by
  obtain ⟨⟨hx, hb, hml, hown, hts⟩, hK, -⟩ := id C0
  intro n_
  induction n_ with
  | zero =>
    intro t_raised x1 x2 x3 H locs ls hP hD hS hl hF
    exact no_s (show (none : Option (Int32 × Int32)) = some res from hF)
  | succ n_ ih =>
    intro t_raised x1 x2 x3 H locs ls hP hD hS hl hF
    rw [L_X11_period_20] at hF
    refine lv_iload_n hx hb dX11_period_20 rfl (lv_at hl 3 rfl) ?_
    refine lv_aload_n hx hb dX11_period_21 rfl (lv_at hl 0 rfl) ?_
    refine va_get (D := D) (ci := 10) (v := .ref (g_t 2)) (C := RX11) (T := TX11) (N := 30) hx hb hts iw_X11_period_X11 hown hK hP 0 rfl rfl 1 (by decide) (hts _ fl_X11_period_7) (fun _ h9 => h9) rfl dX11_period_22 ?_
    refine lv_iconst (v := 0) hx hb dX11_period_25 (by decide) ?_
    refine xl_i (f := t_all) hx hb hK hP 1 0 rfl rfl (k := 0) (by decide) (in_v (by decide)) dX11_period_26 ?_
    refine lv_icmp_ge (tgt := 64) hx hb dX11_period_27 (by decide) (fun c_1 => ?_) (fun c_1 => ?_)
    · have hF := it_pos c_1 hF
      refine lv_goto (tgt := 9) hx hb dX11_period_64 (by decide) ?_
      exact HK_9 t_raised x1 x2 H locs ls hP hD hS (lv_sub hl [0, 1, 2] rfl) hF
    · have hF := it_neg c_1 hF
      refine lv_iload_n hx hb dX11_period_30 rfl (lv_at hl 2 rfl) ?_
      refine lv_if_eq (tgt := 56) hx hb dX11_period_31 (by decide) (fun c_2 => ?_) (fun c_2 => ?_)
      · have hF := it_pos c_2 hF
        refine lv_iconst (v := 0) hx hb dX11_period_56 (by decide) ?_
        refine lv_istore_n (lv' := [(2, .int (0 : Int32)), (0, .ref (g_t 0)), (1, .int x1), (3, .int x3)]) hx hb dX11_period_57 rfl hl (by decide) rfl (fun ls hl => ?_)
        refine lv_iinc (v := (x3 + (1 : Int32))) (lv' := [(3, .int (x3 + (1 : Int32))), (2, .int (0 : Int32)), (0, .ref (g_t 0)), (1, .int x1)]) hx hb dX11_period_58 hl (k := 3) rfl (congrArg (fun z => x3 + z) (by decide)) (by decide) rfl (fun ls hl => ?_)
        refine lv_goto (tgt := 20) hx hb dX11_period_61 (by decide) ?_
        exact ih t_raised x1 (0 : Int32) (x3 + (1 : Int32)) H locs ls hP hD hS (lv_sub hl [2, 3, 1, 0] rfl) hF
      · have hF := it_neg c_2 hF
        refine lv_iload_n hx hb dX11_period_34 rfl (lv_at hl 1 rfl) ?_
        refine lv_aload_n hx hb dX11_period_35 rfl (lv_at hl 0 rfl) ?_
        refine lv_iload_n hx hb dX11_period_36 rfl (lv_at hl 3 rfl) ?_
        obtain ⟨r_3, hc_4, hF⟩ := bn_some hF
        refine xc_i (wn := (w_X11_period K g_t t_raised t_undos t_reached t_length t_begin t_sort t_value t_word t_wrongAt t_badAt t_bad t_read t_pictured t_x t_all)) hP hD hS C0.2.2.1 [0, 1] [] [0, 1] rfl rfl (by decide) (by decide) rfl (by decide) (va_runV (As := [.int x3]) (rest := [.int x1]) C0.1 (c_X11_gapAt l D K g_t t_raised t_undos t_reached t_length t_begin t_sort t_value t_word t_wrongAt t_badAt t_bad t_read t_pictured t_x t_all x3 r_3 hc_4 H.size) (cwV 1 hts gX11_period_X11_gapAt rfl rfl rfl (by decide +kernel) ⟨Nat.le_of_ble_eq_true rfl, Nat.le_of_ble_eq_true rfl⟩) (xp_V C0.2 hP hD hS [0, 1] rfl (by decide) 10 0 rfl rfl rfl) rfl rfl hl.1 rfl (lv_room (Nat.le_of_ble_eq_true rfl)) dX11_period_37 ⟨Nat.le_of_ble_eq_true rfl, Nat.le_of_ble_eq_true rfl⟩) (fun H locs hP hD hS => ?_)
        refine lv_imul hx hb dX11_period_40 ?_
        refine lv_aload_n hx hb dX11_period_41 rfl (lv_at hl 0 rfl) ?_
        refine va_get (D := D) (ci := 10) (v := .ref (g_t 2)) (C := RX11) (T := TX11) (N := 30) hx hb hts iw_X11_period_X11 hown hK hP 0 rfl rfl 1 (by decide) (hts _ fl_X11_period_7) (fun _ h9 => h9) rfl dX11_period_42 ?_
        refine lv_bipush (v := 6) hx hb dX11_period_45 (by decide) ?_
        refine xl_i (f := t_all) hx hb hK hP 1 0 rfl rfl (k := 6) (by decide) (in_v (by decide)) dX11_period_47 ?_
        obtain ⟨hg_5, hF⟩ := gd_some hF
        refine lv_irem hx hb dX11_period_48 (ne_of hg_5) ?_
        refine lv_if_ne (tgt := 56) hx hb dX11_period_49 (by decide) (fun c_6 => ?_) (fun c_6 => ?_)
        · have hF := it_neg c_6 hF
          refine lv_iconst (v := 0) hx hb dX11_period_56 (by decide) ?_
          refine lv_istore_n (lv' := [(2, .int (0 : Int32)), (0, .ref (g_t 0)), (1, .int x1), (3, .int x3)]) hx hb dX11_period_57 rfl hl (by decide) rfl (fun ls hl => ?_)
          refine lv_iinc (v := (x3 + (1 : Int32))) (lv' := [(3, .int (x3 + (1 : Int32))), (2, .int (0 : Int32)), (0, .ref (g_t 0)), (1, .int x1)]) hx hb dX11_period_58 hl (k := 3) rfl (congrArg (fun z => x3 + z) (by decide)) (by decide) rfl (fun ls hl => ?_)
          refine lv_goto (tgt := 20) hx hb dX11_period_61 (by decide) ?_
          exact ih t_raised x1 (0 : Int32) (x3 + (1 : Int32)) H locs ls hP hD hS (lv_sub hl [2, 3, 1, 0] rfl) hF
        · have hF := it_pos c_6 hF
          refine lv_iconst (v := 1) hx hb dX11_period_52 (by decide) ?_
          refine lv_goto (tgt := 57) hx hb dX11_period_53 (by decide) ?_
          refine lv_istore_n (lv' := [(2, .int (1 : Int32)), (0, .ref (g_t 0)), (1, .int x1), (3, .int x3)]) hx hb dX11_period_57 rfl hl (by decide) rfl (fun ls hl => ?_)
          refine lv_iinc (v := (x3 + (1 : Int32))) (lv' := [(3, .int (x3 + (1 : Int32))), (2, .int (1 : Int32)), (0, .ref (g_t 0)), (1, .int x1)]) hx hb dX11_period_58 hl (k := 3) rfl (congrArg (fun z => x3 + z) (by decide)) (by decide) rfl (fun ls hl => ?_)
          refine lv_goto (tgt := 20) hx hb dX11_period_61 (by decide) ?_
          exact ih t_raised x1 (1 : Int32) (x3 + (1 : Int32)) H locs ls hP hD hS (lv_sub hl [2, 3, 1, 0] rfl) hF
def L_X11_period_9 (t_all : Nat → Int32) : Nat → Int32 → Int32 → Int32 → Option (Int32 × Int32)
  | 0, _, _, _ => none
  | n_ + 1, t_raised, x1, x2 =>
    if x2 = (0 : Int32) then (L_X11_period_20 t_all (L_X11_period_9 t_all n_) fu_ t_raised (x1 + (1 : Int32)) (1 : Int32) (0 : Int32)) else (some (x1, t_raised))
set_option maxHeartbeats 4000000 in
set_option maxRecDepth 100000 in
theorem w_X11_period_9 {p : Program} {l : Launch} {e : Env} {s : State} {m : MethodId} {args : Array Value} {below : List Frame} {meth : Method} {c : Code} {D : va_G} {K : Nat → ClassId} {A : Nat → Prop} {Q : State → Prop} (C0 : cx_ p s m args c cX11_period 4 RX11 wsX11_period D K A) {g_t : Nat → Nat} {t_undos : Int32} {t_reached : Int32} {t_length : Int32} {t_begin : Int32} {t_sort : Int32} {t_value : Int32} {t_word : Int64} {t_wrongAt : Int32} {t_badAt : Int32} {t_bad : Int32} {t_read : Int32} {t_pictured : Int32} {t_x : Int32} {t_all : Nat → Int32} {res : Int32 × Int32} (HR : ∀ (pc : Nat) (H : Heap) (locs : List Loc) (ls : Array Slot), decode cX11_period pc = .ok (.ireturn, 1) → va_P D vwCl (w_X11_period K g_t res.2 t_undos t_reached t_length t_begin t_sort t_value t_word t_wrongAt t_badAt t_bad t_read t_pictured t_x t_all) H → va_D A (w_X11_period K g_t res.2 t_undos t_reached t_length t_begin t_sort t_value t_word t_wrongAt t_badAt t_bad t_read t_pictured t_x t_all) → va_S A s.heap H locs → W p l e rmX11_period s m args below meth c H locs 0 0 Q (F0 m pc ls [.int res.1]))  :
    ∀ (n_ : Nat) (t_raised : Int32) (x1 : Int32) (x2 : Int32) (H : Heap) (locs : List Loc) (ls : Array Slot), va_P D vwCl (w_X11_period K g_t t_raised t_undos t_reached t_length t_begin t_sort t_value t_word t_wrongAt t_badAt t_bad t_read t_pictured t_x t_all) H → va_D A (w_X11_period K g_t t_raised t_undos t_reached t_length t_begin t_sort t_value t_word t_wrongAt t_badAt t_bad t_read t_pictured t_x t_all) → va_S A s.heap H locs → lv_has ls 4 [(0, .ref (g_t 0)), (1, .int x1), (2, .int x2)] → L_X11_period_9 t_all n_ t_raised x1 x2 = some res → W p l e rmX11_period s m args below meth c H locs 0 0 Q (F0 m 9 ls []) := by
  obtain ⟨⟨hx, hb, hml, hown, hts⟩, hK, -⟩ := id C0
  intro n_
  induction n_ with
  | zero =>
    intro t_raised x1 x2 H locs ls hP hD hS hl hF
    exact no_s (show (none : Option (Int32 × Int32)) = some res from hF)
  | succ n_ ih =>
    intro t_raised x1 x2 H locs ls hP hD hS hl hF
    rw [L_X11_period_9] at hF
    refine lv_iload_n hx hb dX11_period_9 rfl (lv_at hl 2 rfl) ?_
    refine lv_if_ne (tgt := 67) hx hb dX11_period_10 (by decide) (fun c_1 => ?_) (fun c_1 => ?_)
    · have hF := it_neg c_1 hF
      refine lv_iload_n hx hb dX11_period_67 rfl (lv_at hl 1 rfl) ?_
      obtain rfl := Option.some.inj hF
      exact HR 68 H locs ls dX11_period_68 hP hD hS
    · have hF := it_pos c_1 hF
      refine lv_iinc (v := (x1 + (1 : Int32))) (lv' := [(1, .int (x1 + (1 : Int32))), (0, .ref (g_t 0)), (2, .int x2)]) hx hb dX11_period_13 hl (k := 1) rfl (congrArg (fun z => x1 + z) (by decide)) (by decide) rfl (fun ls hl => ?_)
      refine lv_iconst (v := 1) hx hb dX11_period_16 (by decide) ?_
      refine lv_istore_n (lv' := [(2, .int (1 : Int32)), (1, .int (x1 + (1 : Int32))), (0, .ref (g_t 0))]) hx hb dX11_period_17 rfl hl (by decide) rfl (fun ls hl => ?_)
      refine lv_iconst (v := 0) hx hb dX11_period_18 (by decide) ?_
      refine lv_istore_n (lv' := [(3, .int (0 : Int32)), (2, .int (1 : Int32)), (1, .int (x1 + (1 : Int32))), (0, .ref (g_t 0))]) hx hb dX11_period_19 rfl hl (by decide) rfl (fun ls hl => ?_)
      exact w_X11_period_20 C0 HR ih fu_ t_raised (x1 + (1 : Int32)) (1 : Int32) (0 : Int32) H locs ls hP hD hS (lv_sub hl [3, 2, 1, 0] rfl) hF
def F_X11_period (t_raised : Int32) (t_all : Nat → Int32) : Option (Int32 × Int32) :=
  L_X11_period_9 t_all fu_ (0 : Int32) (0 : Int32) (0 : Int32)
set_option maxHeartbeats 4000000 in
set_option maxRecDepth 100000 in
theorem c_X11_period (l : Launch) (D : va_G) (K : Nat → ClassId) (g_t : Nat → Nat) (t_raised : Int32) (t_undos : Int32) (t_reached : Int32) (t_length : Int32) (t_begin : Int32) (t_sort : Int32) (t_value : Int32) (t_word : Int64) (t_wrongAt : Int32) (t_badAt : Int32) (t_bad : Int32) (t_read : Int32) (t_pictured : Int32) (t_x : Int32) (t_all : Nat → Int32) (res : Int32 × Int32) (hF : F_X11_period t_raised t_all = some res) :
    Mi_ l yX11_period wsX11_period rmX11_period D K [.ref (g_t 0)] (w_X11_period K g_t t_raised t_undos t_reached t_length t_begin t_sort t_value t_word t_wrongAt t_badAt t_bad t_read t_pictured t_x t_all) (w_X11_period K g_t res.2 t_undos t_reached t_length t_begin t_sort t_value t_word t_wrongAt t_badAt t_bad t_read t_pictured t_x t_all) (res.1) := by
  refine en_i (cc := cX11_period) (maxL := 4) (own := RX11) (by decide) rfl rfl (Nat.le_of_ble_eq_true rfl) ?_
  intro p e s m args below meth c A Q H locs ls C0 hP hD hS hl HR
  obtain ⟨⟨hx, hb, hml, hown, hts⟩, hK, -⟩ := id C0
  have hl : lv_has ls 4 [(0, .ref (g_t 0))] := hl
  unfold F_X11_period at hF
  refine lv_aload_n hx hb dX11_period_0 rfl (lv_at hl 0 rfl) ?_
  refine lv_iconst (v := 0) hx hb dX11_period_1 (by decide) ?_
  refine va_put (D := D) (ci := 10) (v := .int (0 : Int32)) (ty := .int) (C := RX11) (T := TX11) (N := 30) hx hb hts iw_X11_period_X11 tyX11 tyX11_ok nmX11 hown hK hP hD hS 0 rfl rfl 0 (by decide) (hts _ fl_X11_period_66) (fun _ h9 => h9) rfl (by decide +kernel) rfl rfl (Nat.le_of_ble_eq_true rfl) dX11_period_2 (fun H locs hP hD hS => ?_)
  have hP : va_P D vwCl (w_X11_period K g_t (0 : Int32) t_undos t_reached t_length t_begin t_sort t_value t_word t_wrongAt t_badAt t_bad t_read t_pictured t_x t_all) H := hP
  have hD : va_D A (w_X11_period K g_t (0 : Int32) t_undos t_reached t_length t_begin t_sort t_value t_word t_wrongAt t_badAt t_bad t_read t_pictured t_x t_all) := hD
  refine lv_iconst (v := 0) hx hb dX11_period_5 (by decide) ?_
  refine lv_istore_n (lv' := [(1, .int (0 : Int32)), (0, .ref (g_t 0))]) hx hb dX11_period_6 rfl hl (by decide) rfl (fun ls hl => ?_)
  refine lv_iconst (v := 0) hx hb dX11_period_7 (by decide) ?_
  refine lv_istore_n (lv' := [(2, .int (0 : Int32)), (1, .int (0 : Int32)), (0, .ref (g_t 0))]) hx hb dX11_period_8 rfl hl (by decide) rfl (fun ls hl => ?_)
  exact w_X11_period_9 C0 HR fu_ (0 : Int32) (0 : Int32) (0 : Int32) H locs ls hP hD hS (lv_sub hl [2, 1, 0] rfl) hF

/-! StaggerRadarModel.picture(IZ)I -/
abbrev rmX11_picture : Room := { frames := 5, cells := 0, slots := 0, locals := 111 }
theorem fl_X11_picture_30 : Cond.fieldLink RX11 30 "StaggerRadarModel" "picture" "[I" ∈ wsX11_picture := by decide +kernel
theorem fl_X11_picture_33 : Cond.fieldLink RX11 33 "StaggerRadarModel" "took" "[I" ∈ wsX11_picture := by decide +kernel
theorem fl_X11_picture_66 : Cond.fieldLink RX11 66 "StaggerRadarModel" "raised" "I" ∈ wsX11_picture := by decide +kernel
theorem fl_X11_picture_206 : Cond.fieldLink RX11 206 "StaggerRadarModel" "pictured" "I" ∈ wsX11_picture := by decide +kernel
theorem iw_X11_picture_X11 : ∀ w ∈ u_ws RX11 TX11 30, w ∈ wsX11_picture := by decide +kernel
abbrev w_X11_picture (K : Nat → ClassId) (g_t : Nat → Nat) (t_raised : Int32) (t_undos : Int32) (t_reached : Int32) (t_length : Int32) (t_begin : Int32) (t_sort : Int32) (t_value : Int32) (t_word : Int64) (t_wrongAt : Int32) (t_badAt : Int32) (t_bad : Int32) (t_read : Int32) (t_pictured : Int32) (t_x : Int32) (t_all : Nat → Int32) (t_loud : Nat → Int32) (t_picture : Nat → Int32) (t_took : Nat → Int32) (t_free : Nat → Int32) : va_W := [((g_t 0), .inr (10, [.int t_raised, .ref (g_t 2), .ref (g_t 3), .ref (g_t 4), .ref (g_t 5), .int t_undos, .int t_reached, .int t_length, .int t_begin, .int t_sort, .int t_value, .long t_word, .int t_wrongAt, .int t_badAt, .int t_bad, .ref (g_t 16), .int t_read, .ref (g_t 18), .ref (g_t 19), .ref (g_t 20), .int t_pictured, .ref (g_t 22), .ref (g_t 23), .ref (g_t 24), .ref (g_t 25), .ref (g_t 26), .int t_x, .ref (g_t 28), .ref (g_t 29), .ref (g_t 30)])), ((g_t 2), .inl (K 0, 500, .inl t_all)), ((g_t 18), .inl (K 0, 300, .inl t_loud)), ((g_t 19), .inl (K 0, 300, .inl t_picture)), ((g_t 20), .inl (K 0, 300, .inl t_took)), ((g_t 22), .inl (K 2, 300, .inl t_free))]
def F_X11_picture (t_raised : Int32) (t_pictured : Int32) (t_all : Nat → Int32) (t_loud : Nat → Int32) (t_picture : Nat → Int32) (t_took : Nat → Int32) (t_free : Nat → Int32) (x1 : Int32) (x2 : Int32) : Option (Int32 × Int32 × Int32 × (Nat → Int32) × (Nat → Int32) × (Nat → Int32) × (Nat → Int32)) :=
  (F_X11_laysPicture t_pictured t_all t_loud t_picture t_took t_free).bind fun r_1 => ((F_X11_in x1 (0 : Int32) (r_1.1 - (1 : Int32))).bind fun r_3 => (if r_3 = (0 : Int32) then (some ((-1 : Int32), (0 : Int32), r_1.1, r_1.2.1, r_1.2.2.1, r_1.2.2.2.1, r_1.2.2.2.2)) else (if x2 = (0 : Int32) then (gd_ (in_b x1 300) (some ((r_1.2.2.1 (x1).toNatClampNeg), (0 : Int32), r_1.1, r_1.2.1, r_1.2.2.1, r_1.2.2.2.1, r_1.2.2.2.2))) else (gd_ (in_b x1 300) (some ((r_1.2.2.2.1 (x1).toNatClampNeg), (0 : Int32), r_1.1, r_1.2.1, r_1.2.2.1, r_1.2.2.2.1, r_1.2.2.2.2))))))
set_option maxHeartbeats 4000000 in
set_option maxRecDepth 100000 in
theorem c_X11_picture (l : Launch) (D : va_G) (K : Nat → ClassId) (g_t : Nat → Nat) (t_raised : Int32) (t_undos : Int32) (t_reached : Int32) (t_length : Int32) (t_begin : Int32) (t_sort : Int32) (t_value : Int32) (t_word : Int64) (t_wrongAt : Int32) (t_badAt : Int32) (t_bad : Int32) (t_read : Int32) (t_pictured : Int32) (t_x : Int32) (t_all : Nat → Int32) (t_loud : Nat → Int32) (t_picture : Nat → Int32) (t_took : Nat → Int32) (t_free : Nat → Int32) (x1 : Int32) (x2 : Int32) (res : Int32 × Int32 × Int32 × (Nat → Int32) × (Nat → Int32) × (Nat → Int32) × (Nat → Int32)) (hF : F_X11_picture t_raised t_pictured t_all t_loud t_picture t_took t_free x1 x2 = some res) :
    Mi_ l yX11_picture wsX11_picture rmX11_picture D K [.ref (g_t 0), .int x1, .int x2] (w_X11_picture K g_t t_raised t_undos t_reached t_length t_begin t_sort t_value t_word t_wrongAt t_badAt t_bad t_read t_pictured t_x t_all t_loud t_picture t_took t_free) (w_X11_picture K g_t res.2.1 t_undos t_reached t_length t_begin t_sort t_value t_word t_wrongAt t_badAt t_bad t_read res.2.2.1 t_x t_all res.2.2.2.1 res.2.2.2.2.1 res.2.2.2.2.2.1 res.2.2.2.2.2.2) (res.1) := by
  refine en_i (cc := cX11_picture) (maxL := 3) (own := RX11) (by decide) rfl rfl (Nat.le_of_ble_eq_true rfl) ?_
  intro p e s m args below meth c A Q H locs ls C0 hP hD hS hl HR
  obtain ⟨⟨hx, hb, hml, hown, hts⟩, hK, -⟩ := id C0
  have hl : lv_has ls 3 [(0, .ref (g_t 0)), (1, .int x1), (2, .int x2)] := hl
  unfold F_X11_picture at hF
  refine lv_aload_n hx hb dX11_picture_0 rfl (lv_at hl 0 rfl) ?_
  refine lv_iconst (v := 0) hx hb dX11_picture_1 (by decide) ?_
  refine va_put (D := D) (ci := 10) (v := .int (0 : Int32)) (ty := .int) (C := RX11) (T := TX11) (N := 30) hx hb hts iw_X11_picture_X11 tyX11 tyX11_ok nmX11 hown hK hP hD hS 0 rfl rfl 0 (by decide) (hts _ fl_X11_picture_66) (fun _ h9 => h9) rfl (by decide +kernel) rfl rfl (Nat.le_of_ble_eq_true rfl) dX11_picture_2 (fun H locs hP hD hS => ?_)
  have hP : va_P D vwCl (w_X11_picture K g_t (0 : Int32) t_undos t_reached t_length t_begin t_sort t_value t_word t_wrongAt t_badAt t_bad t_read t_pictured t_x t_all t_loud t_picture t_took t_free) H := hP
  have hD : va_D A (w_X11_picture K g_t (0 : Int32) t_undos t_reached t_length t_begin t_sort t_value t_word t_wrongAt t_badAt t_bad t_read t_pictured t_x t_all t_loud t_picture t_took t_free) := hD
  refine lv_aload_n hx hb dX11_picture_5 rfl (lv_at hl 0 rfl) ?_
  obtain ⟨r_1, hc_2, hF⟩ := bn_some hF
  refine xc_v (wn := (w_X11_picture K g_t (0 : Int32) t_undos t_reached t_length t_begin t_sort t_value t_word t_wrongAt t_badAt t_bad t_read r_1.1 t_x t_all r_1.2.1 r_1.2.2.1 r_1.2.2.2.1 r_1.2.2.2.2)) hP hD hS C0.2.2.1 [0, 1, 2, 3, 4, 5] [] [0, 1, 2, 3, 4, 5] rfl rfl (by decide) (by decide) rfl (by decide) (va_runV (As := []) (rest := []) C0.1 (c_X11_laysPicture l D K g_t (0 : Int32) t_undos t_reached t_length t_begin t_sort t_value t_word t_wrongAt t_badAt t_bad t_read t_pictured t_x t_all t_loud t_picture t_took t_free r_1 hc_2 H.size) (cwV 0 hts gX11_picture_X11_laysPicture rfl rfl rfl (by decide +kernel) ⟨Nat.le_of_ble_eq_true rfl, Nat.le_of_ble_eq_true rfl⟩) (xp_V C0.2 hP hD hS [0, 1, 2, 3, 4, 5] rfl (by decide) 10 0 rfl rfl rfl) rfl rfl hl.1 rfl (lv_room (Nat.le_of_ble_eq_true rfl)) dX11_picture_6 ⟨Nat.le_of_ble_eq_true rfl, Nat.le_of_ble_eq_true rfl⟩) (fun H locs hP hD hS => ?_)
  refine lv_iload_n hx hb dX11_picture_9 rfl (lv_at hl 1 rfl) ?_
  refine lv_iconst (v := 0) hx hb dX11_picture_10 (by decide) ?_
  refine lv_aload_n hx hb dX11_picture_11 rfl (lv_at hl 0 rfl) ?_
  refine va_get (D := D) (ci := 10) (v := .int r_1.1) (C := RX11) (T := TX11) (N := 30) hx hb hts iw_X11_picture_X11 hown hK hP 0 rfl rfl 20 (by decide) (hts _ fl_X11_picture_206) (fun _ h9 => h9) rfl dX11_picture_12 ?_
  refine lv_iconst (v := 1) hx hb dX11_picture_15 (by decide) ?_
  refine lv_isub hx hb dX11_picture_16 ?_
  obtain ⟨r_3, hc_4, hF⟩ := bn_some hF
  refine xc_i (wn := (w_X11_picture K g_t (0 : Int32) t_undos t_reached t_length t_begin t_sort t_value t_word t_wrongAt t_badAt t_bad t_read r_1.1 t_x t_all r_1.2.1 r_1.2.2.1 r_1.2.2.2.1 r_1.2.2.2.2)) hP hD hS C0.2.2.1 [] [0, 1, 2, 3, 4, 5] [0, 1, 2, 3, 4, 5] rfl rfl (by decide) (by decide) rfl (by decide) (va_runS (As := [.int x1, .int (0 : Int32), .int (r_1.1 - (1 : Int32))]) (rest := []) C0.1 (c_X11_in l D K x1 (0 : Int32) (r_1.1 - (1 : Int32)) r_3 hc_4 H.size) (va_cwS 3 hts gX11_picture_X11_in rfl rfl rfl (by decide +kernel) ⟨Nat.le_of_ble_eq_true rfl, Nat.le_of_ble_eq_true rfl⟩) (xp_S C0.2 hP hD hS [] rfl (by decide)) rfl rfl hl.1 rfl (lv_room (Nat.le_of_ble_eq_true rfl)) dX11_picture_17 ⟨Nat.le_of_ble_eq_true rfl, Nat.le_of_ble_eq_true rfl⟩) (fun H locs hP hD hS => ?_)
  refine lv_if_ne (tgt := 27) hx hb dX11_picture_20 (by decide) (fun c_5 => ?_) (fun c_5 => ?_)
  · have hF := it_neg c_5 hF
    refine lv_iload_n hx hb dX11_picture_27 rfl (lv_at hl 2 rfl) ?_
    refine lv_if_eq (tgt := 40) hx hb dX11_picture_28 (by decide) (fun c_6 => ?_) (fun c_6 => ?_)
    · have hF := it_pos c_6 hF
      refine lv_aload_n hx hb dX11_picture_40 rfl (lv_at hl 0 rfl) ?_
      refine va_get (D := D) (ci := 10) (v := .ref (g_t 19)) (C := RX11) (T := TX11) (N := 30) hx hb hts iw_X11_picture_X11 hown hK hP 0 rfl rfl 18 (by decide) (hts _ fl_X11_picture_30) (fun _ h9 => h9) rfl dX11_picture_41 ?_
      refine lv_iload_n hx hb dX11_picture_44 rfl (lv_at hl 1 rfl) ?_
      obtain ⟨hg_7, hF⟩ := gd_some hF
      refine xl_i (f := r_1.2.2.1) hx hb hK hP 3 0 rfl rfl rfl (in_v hg_7) dX11_picture_45 ?_
      obtain rfl := Option.some.inj hF
      exact HR 46 H locs ls dX11_picture_46 hP hD hS
    · have hF := it_neg c_6 hF
      refine lv_aload_n hx hb dX11_picture_31 rfl (lv_at hl 0 rfl) ?_
      refine va_get (D := D) (ci := 10) (v := .ref (g_t 20)) (C := RX11) (T := TX11) (N := 30) hx hb hts iw_X11_picture_X11 hown hK hP 0 rfl rfl 19 (by decide) (hts _ fl_X11_picture_33) (fun _ h9 => h9) rfl dX11_picture_32 ?_
      refine lv_iload_n hx hb dX11_picture_35 rfl (lv_at hl 1 rfl) ?_
      obtain ⟨hg_8, hF⟩ := gd_some hF
      refine xl_i (f := r_1.2.2.2.1) hx hb hK hP 4 0 rfl rfl rfl (in_v hg_8) dX11_picture_36 ?_
      refine lv_goto (tgt := 46) hx hb dX11_picture_37 (by decide) ?_
      obtain rfl := Option.some.inj hF
      exact HR 46 H locs ls dX11_picture_46 hP hD hS
  · have hF := it_pos c_5 hF
    refine lv_iconst (v := (-1)) hx hb dX11_picture_23 (by decide) ?_
    refine lv_goto (tgt := 46) hx hb dX11_picture_24 (by decide) ?_
    obtain rfl := Option.some.inj hF
    exact HR 46 H locs ls dX11_picture_46 hP hD hS

/-! StaggerRadarModel.reach(II)I -/
abbrev rmX11_reach : Room := { frames := 2, cells := 0, slots := 0, locals := 53 }
theorem fl_X11_reach_7 : Cond.fieldLink RX11 7 "StaggerRadarModel" "all" "[I" ∈ wsX11_reach := by decide +kernel
theorem fl_X11_reach_66 : Cond.fieldLink RX11 66 "StaggerRadarModel" "raised" "I" ∈ wsX11_reach := by decide +kernel
theorem ld_X11_reach_283 : Cond.constant RX11 283 (-2147483648) ∈ wsX11_reach := by decide +kernel
theorem iw_X11_reach_X11 : ∀ w ∈ u_ws RX11 TX11 30, w ∈ wsX11_reach := by decide +kernel
abbrev w_X11_reach (K : Nat → ClassId) (g_t : Nat → Nat) (t_raised : Int32) (t_undos : Int32) (t_reached : Int32) (t_length : Int32) (t_begin : Int32) (t_sort : Int32) (t_value : Int32) (t_word : Int64) (t_wrongAt : Int32) (t_badAt : Int32) (t_bad : Int32) (t_read : Int32) (t_pictured : Int32) (t_x : Int32) (t_all : Nat → Int32) : va_W := [((g_t 0), .inr (10, [.int t_raised, .ref (g_t 2), .ref (g_t 3), .ref (g_t 4), .ref (g_t 5), .int t_undos, .int t_reached, .int t_length, .int t_begin, .int t_sort, .int t_value, .long t_word, .int t_wrongAt, .int t_badAt, .int t_bad, .ref (g_t 16), .int t_read, .ref (g_t 18), .ref (g_t 19), .ref (g_t 20), .int t_pictured, .ref (g_t 22), .ref (g_t 23), .ref (g_t 24), .ref (g_t 25), .ref (g_t 26), .int t_x, .ref (g_t 28), .ref (g_t 29), .ref (g_t 30)])), ((g_t 2), .inl (K 0, 500, .inl t_all))]
def F_X11_reach (t_raised : Int32) (t_all : Nat → Int32) (x1 : Int32) (x2 : Int32) : Option (Int32 × Int32) :=
  (F_X11_in x1 (0 : Int32) (((1 : Int32) <<< ((t_all 0) &&& 31)) - (1 : Int32))).bind fun r_1 => (if r_1 = (0 : Int32) then (some ((-2147483648 : Int32), (0 : Int32))) else ((F_X11_reachOf t_all x1).bind fun r_4 => (if (lg_cmp (r_4 * (x2).toInt64) ((((r_4 * (x2).toInt64)).toInt32).toInt64)) = (0 : Int32) then (some (((r_4 * (x2).toInt64)).toInt32, (0 : Int32))) else (some ((-2147483648 : Int32), (0 : Int32))))))
set_option maxHeartbeats 4000000 in
set_option maxRecDepth 100000 in
theorem c_X11_reach (l : Launch) (D : va_G) (K : Nat → ClassId) (g_t : Nat → Nat) (t_raised : Int32) (t_undos : Int32) (t_reached : Int32) (t_length : Int32) (t_begin : Int32) (t_sort : Int32) (t_value : Int32) (t_word : Int64) (t_wrongAt : Int32) (t_badAt : Int32) (t_bad : Int32) (t_read : Int32) (t_pictured : Int32) (t_x : Int32) (t_all : Nat → Int32) (x1 : Int32) (x2 : Int32) (res : Int32 × Int32) (hF : F_X11_reach t_raised t_all x1 x2 = some res) :
    Mi_ l yX11_reach wsX11_reach rmX11_reach D K [.ref (g_t 0), .int x1, .int x2] (w_X11_reach K g_t t_raised t_undos t_reached t_length t_begin t_sort t_value t_word t_wrongAt t_badAt t_bad t_read t_pictured t_x t_all) (w_X11_reach K g_t res.2 t_undos t_reached t_length t_begin t_sort t_value t_word t_wrongAt t_badAt t_bad t_read t_pictured t_x t_all) (res.1) := by
  refine en_i (cc := cX11_reach) (maxL := 5) (own := RX11) (by decide) rfl rfl (Nat.le_of_ble_eq_true rfl) ?_
  intro p e s m args below meth c A Q H locs ls C0 hP hD hS hl HR
  obtain ⟨⟨hx, hb, hml, hown, hts⟩, hK, -⟩ := id C0
  have hl : lv_has ls 5 [(0, .ref (g_t 0)), (1, .int x1), (2, .int x2)] := hl
  unfold F_X11_reach at hF
  refine lv_aload_n hx hb dX11_reach_0 rfl (lv_at hl 0 rfl) ?_
  refine lv_iconst (v := 0) hx hb dX11_reach_1 (by decide) ?_
  refine va_put (D := D) (ci := 10) (v := .int (0 : Int32)) (ty := .int) (C := RX11) (T := TX11) (N := 30) hx hb hts iw_X11_reach_X11 tyX11 tyX11_ok nmX11 hown hK hP hD hS 0 rfl rfl 0 (by decide) (hts _ fl_X11_reach_66) (fun _ h9 => h9) rfl (by decide +kernel) rfl rfl (Nat.le_of_ble_eq_true rfl) dX11_reach_2 (fun H locs hP hD hS => ?_)
  have hP : va_P D vwCl (w_X11_reach K g_t (0 : Int32) t_undos t_reached t_length t_begin t_sort t_value t_word t_wrongAt t_badAt t_bad t_read t_pictured t_x t_all) H := hP
  have hD : va_D A (w_X11_reach K g_t (0 : Int32) t_undos t_reached t_length t_begin t_sort t_value t_word t_wrongAt t_badAt t_bad t_read t_pictured t_x t_all) := hD
  refine lv_iload_n hx hb dX11_reach_5 rfl (lv_at hl 1 rfl) ?_
  refine lv_iconst (v := 0) hx hb dX11_reach_6 (by decide) ?_
  refine lv_iconst (v := 1) hx hb dX11_reach_7 (by decide) ?_
  refine lv_aload_n hx hb dX11_reach_8 rfl (lv_at hl 0 rfl) ?_
  refine va_get (D := D) (ci := 10) (v := .ref (g_t 2)) (C := RX11) (T := TX11) (N := 30) hx hb hts iw_X11_reach_X11 hown hK hP 0 rfl rfl 1 (by decide) (hts _ fl_X11_reach_7) (fun _ h9 => h9) rfl dX11_reach_9 ?_
  refine lv_iconst (v := 0) hx hb dX11_reach_12 (by decide) ?_
  refine xl_i (f := t_all) hx hb hK hP 1 0 rfl rfl (k := 0) (by decide) (in_v (by decide)) dX11_reach_13 ?_
  refine lv_ishl hx hb dX11_reach_14 ?_
  refine lv_iconst (v := 1) hx hb dX11_reach_15 (by decide) ?_
  refine lv_isub hx hb dX11_reach_16 ?_
  obtain ⟨r_1, hc_2, hF⟩ := bn_some hF
  refine xc_i (wn := (w_X11_reach K g_t (0 : Int32) t_undos t_reached t_length t_begin t_sort t_value t_word t_wrongAt t_badAt t_bad t_read t_pictured t_x t_all)) hP hD hS C0.2.2.1 [] [0, 1] [0, 1] rfl rfl (by decide) (by decide) rfl (by decide) (va_runS (As := [.int x1, .int (0 : Int32), .int (((1 : Int32) <<< ((t_all 0) &&& 31)) - (1 : Int32))]) (rest := []) C0.1 (c_X11_in l D K x1 (0 : Int32) (((1 : Int32) <<< ((t_all 0) &&& 31)) - (1 : Int32)) r_1 hc_2 H.size) (va_cwS 3 hts gX11_reach_X11_in rfl rfl rfl (by decide +kernel) ⟨Nat.le_of_ble_eq_true rfl, Nat.le_of_ble_eq_true rfl⟩) (xp_S C0.2 hP hD hS [] rfl (by decide)) rfl rfl hl.1 rfl (lv_room (Nat.le_of_ble_eq_true rfl)) dX11_reach_17 ⟨Nat.le_of_ble_eq_true rfl, Nat.le_of_ble_eq_true rfl⟩) (fun H locs hP hD hS => ?_)
  refine lv_if_ne (tgt := 27) hx hb dX11_reach_20 (by decide) (fun c_3 => ?_) (fun c_3 => ?_)
  · have hF := it_neg c_3 hF
    refine lv_aload_n hx hb dX11_reach_27 rfl (lv_at hl 0 rfl) ?_
    refine lv_iload_n hx hb dX11_reach_28 rfl (lv_at hl 1 rfl) ?_
    obtain ⟨r_4, hc_5, hF⟩ := bn_some hF
    refine xc_l (wn := (w_X11_reach K g_t (0 : Int32) t_undos t_reached t_length t_begin t_sort t_value t_word t_wrongAt t_badAt t_bad t_read t_pictured t_x t_all)) hP hD hS C0.2.2.1 [0, 1] [] [0, 1] rfl rfl (by decide) (by decide) rfl (by decide) (va_runV (As := [.int x1]) (rest := []) C0.1 (c_X11_reachOf l D K g_t (0 : Int32) t_undos t_reached t_length t_begin t_sort t_value t_word t_wrongAt t_badAt t_bad t_read t_pictured t_x t_all x1 r_4 hc_5 H.size) (cwV 1 hts gX11_reach_X11_reachOf rfl rfl rfl (by decide +kernel) ⟨Nat.le_of_ble_eq_true rfl, Nat.le_of_ble_eq_true rfl⟩) (xp_V C0.2 hP hD hS [0, 1] rfl (by decide) 10 0 rfl rfl rfl) rfl rfl hl.1 rfl (lv_room (Nat.le_of_ble_eq_true rfl)) dX11_reach_29 ⟨Nat.le_of_ble_eq_true rfl, Nat.le_of_ble_eq_true rfl⟩) (fun H locs hP hD hS => ?_)
    refine lv_iload_n hx hb dX11_reach_32 rfl (lv_at hl 2 rfl) ?_
    refine lv_i2l hx hb dX11_reach_33 rfl ?_
    refine lv_lmul hx hb dX11_reach_34 ?_
    refine lv_lstore_n (lv' := [(3, .long (r_4 * (x2).toInt64)), (0, .ref (g_t 0)), (1, .int x1), (2, .int x2)]) hx hb dX11_reach_35 rfl hl (by decide) rfl (fun ls hl => ?_)
    refine lv_lload_n hx hb dX11_reach_36 rfl (lv_at hl 0 rfl) ?_
    refine lv_lload_n hx hb dX11_reach_37 rfl (lv_at hl 0 rfl) ?_
    refine lv_l2i hx hb dX11_reach_38 rfl ?_
    refine lv_i2l hx hb dX11_reach_39 rfl ?_
    refine W.lcmp hx hb dX11_reach_40 ?_
    refine lv_if_ne (tgt := 49) hx hb dX11_reach_41 (by decide) (fun c_6 => ?_) (fun c_6 => ?_)
    · have hF := it_neg c_6 hF
      refine lv_ldcw (v := -2147483648) hx hb hown (hts _ ld_X11_reach_283) dX11_reach_49 ?_
      obtain rfl := Option.some.inj hF
      exact HR 52 H locs ls dX11_reach_52 hP hD hS
    · have hF := it_pos c_6 hF
      refine lv_lload_n hx hb dX11_reach_44 rfl (lv_at hl 0 rfl) ?_
      refine lv_l2i hx hb dX11_reach_45 rfl ?_
      refine lv_goto (tgt := 52) hx hb dX11_reach_46 (by decide) ?_
      obtain rfl := Option.some.inj hF
      exact HR 52 H locs ls dX11_reach_52 hP hD hS
  · have hF := it_pos c_3 hF
    refine lv_ldcw (v := -2147483648) hx hb hown (hts _ ld_X11_reach_283) dX11_reach_23 ?_
    obtain rfl := Option.some.inj hF
    exact HR 26 H locs ls dX11_reach_26 hP hD hS

/-! StaggerRadarModel.taken()V -/
abbrev rmX11_taken : Room := { frames := 0, cells := 0, slots := 0, locals := 0 }
theorem fl_X11_taken_7 : Cond.fieldLink RX11 7 "StaggerRadarModel" "all" "[I" ∈ wsX11_taken := by decide +kernel
theorem fl_X11_taken_24 : Cond.fieldLink RX11 24 "StaggerRadarModel" "told" "[I" ∈ wsX11_taken := by decide +kernel
theorem fl_X11_taken_176 : Cond.fieldLink RX11 176 "StaggerRadarModel" "undos" "I" ∈ wsX11_taken := by decide +kernel
theorem iw_X11_taken_X11 : ∀ w ∈ u_ws RX11 TX11 30, w ∈ wsX11_taken := by decide +kernel
abbrev w_X11_taken (K : Nat → ClassId) (g_t : Nat → Nat) (t_raised : Int32) (t_undos : Int32) (t_reached : Int32) (t_length : Int32) (t_begin : Int32) (t_sort : Int32) (t_value : Int32) (t_word : Int64) (t_wrongAt : Int32) (t_badAt : Int32) (t_bad : Int32) (t_read : Int32) (t_pictured : Int32) (t_x : Int32) (t_all : Nat → Int32) (t_told : Nat → Int32) : va_W := [((g_t 0), .inr (10, [.int t_raised, .ref (g_t 2), .ref (g_t 3), .ref (g_t 4), .ref (g_t 5), .int t_undos, .int t_reached, .int t_length, .int t_begin, .int t_sort, .int t_value, .long t_word, .int t_wrongAt, .int t_badAt, .int t_bad, .ref (g_t 16), .int t_read, .ref (g_t 18), .ref (g_t 19), .ref (g_t 20), .int t_pictured, .ref (g_t 22), .ref (g_t 23), .ref (g_t 24), .ref (g_t 25), .ref (g_t 26), .int t_x, .ref (g_t 28), .ref (g_t 29), .ref (g_t 30)])), ((g_t 2), .inl (K 0, 500, .inl t_all)), ((g_t 16), .inl (K 0, 97, .inl t_told))]
def J_X11_taken_26 (t_told : Nat → Int32) (t_undos : Int32) (t_all : Nat → Int32) : Option (Int32 × (Nat → Int32)) :=
  some ((0 : Int32), t_all)
set_option maxHeartbeats 4000000 in
set_option maxRecDepth 100000 in
theorem w_X11_taken_26 {p : Program} {l : Launch} {e : Env} {s : State} {m : MethodId} {args : Array Value} {below : List Frame} {meth : Method} {c : Code} {D : va_G} {K : Nat → ClassId} {A : Nat → Prop} {Q : State → Prop} (C0 : cx_ p s m args c cX11_taken 2 RX11 wsX11_taken D K A) {g_t : Nat → Nat} {t_raised : Int32} {t_reached : Int32} {t_length : Int32} {t_begin : Int32} {t_sort : Int32} {t_value : Int32} {t_word : Int64} {t_wrongAt : Int32} {t_badAt : Int32} {t_bad : Int32} {t_read : Int32} {t_pictured : Int32} {t_x : Int32} {t_told : Nat → Int32} {res : Int32 × (Nat → Int32)} (HR : ∀ (pc : Nat) (H : Heap) (locs : List Loc) (ls : Array Slot), decode cX11_taken pc = .ok (.return_, 1) → va_P D vwCl (w_X11_taken K g_t t_raised res.1 t_reached t_length t_begin t_sort t_value t_word t_wrongAt t_badAt t_bad t_read t_pictured t_x res.2 t_told) H → va_D A (w_X11_taken K g_t t_raised res.1 t_reached t_length t_begin t_sort t_value t_word t_wrongAt t_badAt t_bad t_read t_pictured t_x res.2 t_told) → va_S A s.heap H locs → W p l e rmX11_taken s m args below meth c H locs 0 0 Q (F0 m pc ls []))  :
    ∀ (t_undos : Int32) (t_all : Nat → Int32) (H : Heap) (locs : List Loc) (ls : Array Slot), va_P D vwCl (w_X11_taken K g_t t_raised t_undos t_reached t_length t_begin t_sort t_value t_word t_wrongAt t_badAt t_bad t_read t_pictured t_x t_all t_told) H → va_D A (w_X11_taken K g_t t_raised t_undos t_reached t_length t_begin t_sort t_value t_word t_wrongAt t_badAt t_bad t_read t_pictured t_x t_all t_told) → va_S A s.heap H locs → lv_has ls 2 [(0, .ref (g_t 0))] → J_X11_taken_26 t_told t_undos t_all = some res → W p l e rmX11_taken s m args below meth c H locs 0 0 Q (F0 m 26 ls []) := by
  obtain ⟨⟨hx, hb, hml, hown, hts⟩, hK, -⟩ := id C0
  intro t_undos t_all H locs ls hP hD hS hl hF
  unfold J_X11_taken_26 at hF
  refine lv_aload_n hx hb dX11_taken_26 rfl (lv_at hl 0 rfl) ?_
  refine lv_iconst (v := 0) hx hb dX11_taken_27 (by decide) ?_
  refine va_put (D := D) (ci := 10) (v := .int (0 : Int32)) (ty := .int) (C := RX11) (T := TX11) (N := 30) hx hb hts iw_X11_taken_X11 tyX11 tyX11_ok nmX11 hown hK hP hD hS 0 rfl rfl 5 (by decide) (hts _ fl_X11_taken_176) (fun _ h9 => h9) rfl (by decide +kernel) rfl rfl (Nat.le_of_ble_eq_true rfl) dX11_taken_28 (fun H locs hP hD hS => ?_)
  have hP : va_P D vwCl (w_X11_taken K g_t t_raised (0 : Int32) t_reached t_length t_begin t_sort t_value t_word t_wrongAt t_badAt t_bad t_read t_pictured t_x t_all t_told) H := hP
  have hD : va_D A (w_X11_taken K g_t t_raised (0 : Int32) t_reached t_length t_begin t_sort t_value t_word t_wrongAt t_badAt t_bad t_read t_pictured t_x t_all t_told) := hD
  obtain rfl := Option.some.inj hF
  exact HR 31 H locs ls dX11_taken_31 hP hD hS
def L_X11_taken_2 (t_told : Nat → Int32) : Nat → Int32 → (Nat → Int32) → Int32 → Option (Int32 × (Nat → Int32))
  | 0, _, _, _ => none
  | n_ + 1, t_undos, t_all, x1 =>
    if (97 : Int32) ≤ x1 then (J_X11_taken_26 t_told t_undos t_all) else (gd_ (in_b x1 97) (gd_ (in_b x1 500) (L_X11_taken_2 t_told n_ t_undos (upd t_all (x1).toNatClampNeg (t_told (x1).toNatClampNeg)) (x1 + (1 : Int32)))))
set_option maxHeartbeats 4000000 in
set_option maxRecDepth 100000 in
theorem w_X11_taken_2 {p : Program} {l : Launch} {e : Env} {s : State} {m : MethodId} {args : Array Value} {below : List Frame} {meth : Method} {c : Code} {D : va_G} {K : Nat → ClassId} {A : Nat → Prop} {Q : State → Prop} (C0 : cx_ p s m args c cX11_taken 2 RX11 wsX11_taken D K A) {g_t : Nat → Nat} {t_raised : Int32} {t_reached : Int32} {t_length : Int32} {t_begin : Int32} {t_sort : Int32} {t_value : Int32} {t_word : Int64} {t_wrongAt : Int32} {t_badAt : Int32} {t_bad : Int32} {t_read : Int32} {t_pictured : Int32} {t_x : Int32} {t_told : Nat → Int32} {res : Int32 × (Nat → Int32)} (HR : ∀ (pc : Nat) (H : Heap) (locs : List Loc) (ls : Array Slot), decode cX11_taken pc = .ok (.return_, 1) → va_P D vwCl (w_X11_taken K g_t t_raised res.1 t_reached t_length t_begin t_sort t_value t_word t_wrongAt t_badAt t_bad t_read t_pictured t_x res.2 t_told) H → va_D A (w_X11_taken K g_t t_raised res.1 t_reached t_length t_begin t_sort t_value t_word t_wrongAt t_badAt t_bad t_read t_pictured t_x res.2 t_told) → va_S A s.heap H locs → W p l e rmX11_taken s m args below meth c H locs 0 0 Q (F0 m pc ls []))  :
    ∀ (n_ : Nat) (t_undos : Int32) (t_all : Nat → Int32) (x1 : Int32) (H : Heap) (locs : List Loc) (ls : Array Slot), va_P D vwCl (w_X11_taken K g_t t_raised t_undos t_reached t_length t_begin t_sort t_value t_word t_wrongAt t_badAt t_bad t_read t_pictured t_x t_all t_told) H → va_D A (w_X11_taken K g_t t_raised t_undos t_reached t_length t_begin t_sort t_value t_word t_wrongAt t_badAt t_bad t_read t_pictured t_x t_all t_told) → va_S A s.heap H locs → lv_has ls 2 [(0, .ref (g_t 0)), (1, .int x1)] → L_X11_taken_2 t_told n_ t_undos t_all x1 = some res → W p l e rmX11_taken s m args below meth c H locs 0 0 Q (F0 m 2 ls []) := by
  obtain ⟨⟨hx, hb, hml, hown, hts⟩, hK, -⟩ := id C0
  intro n_
  induction n_ with
  | zero =>
    intro t_undos t_all x1 H locs ls hP hD hS hl hF
    exact no_s (show (none : Option (Int32 × (Nat → Int32))) = some res from hF)
  | succ n_ ih =>
    intro t_undos t_all x1 H locs ls hP hD hS hl hF
    rw [L_X11_taken_2] at hF
    refine lv_iload_n hx hb dX11_taken_2 rfl (lv_at hl 1 rfl) ?_
    refine lv_bipush (v := 97) hx hb dX11_taken_3 (by decide) ?_
    refine lv_icmp_ge (tgt := 26) hx hb dX11_taken_5 (by decide) (fun c_1 => ?_) (fun c_1 => ?_)
    · have hF := it_pos c_1 hF
      exact w_X11_taken_26 C0 HR t_undos t_all H locs ls hP hD hS (lv_sub hl [0] rfl) hF
    · have hF := it_neg c_1 hF
      refine lv_aload_n hx hb dX11_taken_8 rfl (lv_at hl 0 rfl) ?_
      refine va_get (D := D) (ci := 10) (v := .ref (g_t 2)) (C := RX11) (T := TX11) (N := 30) hx hb hts iw_X11_taken_X11 hown hK hP 0 rfl rfl 1 (by decide) (hts _ fl_X11_taken_7) (fun _ h9 => h9) rfl dX11_taken_9 ?_
      refine lv_iload_n hx hb dX11_taken_12 rfl (lv_at hl 1 rfl) ?_
      refine lv_aload_n hx hb dX11_taken_13 rfl (lv_at hl 0 rfl) ?_
      refine va_get (D := D) (ci := 10) (v := .ref (g_t 16)) (C := RX11) (T := TX11) (N := 30) hx hb hts iw_X11_taken_X11 hown hK hP 0 rfl rfl 15 (by decide) (hts _ fl_X11_taken_24) (fun _ h9 => h9) rfl dX11_taken_14 ?_
      refine lv_iload_n hx hb dX11_taken_17 rfl (lv_at hl 1 rfl) ?_
      obtain ⟨hg_2, hF⟩ := gd_some hF
      refine xl_i (f := t_told) hx hb hK hP 2 0 rfl rfl rfl (in_v hg_2) dX11_taken_18 ?_
      obtain ⟨hg_3, hF⟩ := gd_some hF
      refine xs_i (f := t_all) hx hb hK hP hD hS 1 0 rfl rfl rfl (in_v hg_3) dX11_taken_19 (fun H locs hP hD hS => ?_)
      have hP : va_P D vwCl (w_X11_taken K g_t t_raised t_undos t_reached t_length t_begin t_sort t_value t_word t_wrongAt t_badAt t_bad t_read t_pictured t_x (upd t_all (x1).toNatClampNeg (t_told (x1).toNatClampNeg)) t_told) H := hP
      have hD : va_D A (w_X11_taken K g_t t_raised t_undos t_reached t_length t_begin t_sort t_value t_word t_wrongAt t_badAt t_bad t_read t_pictured t_x (upd t_all (x1).toNatClampNeg (t_told (x1).toNatClampNeg)) t_told) := hD
      refine lv_iinc (v := (x1 + (1 : Int32))) (lv' := [(1, .int (x1 + (1 : Int32))), (0, .ref (g_t 0))]) hx hb dX11_taken_20 hl (k := 1) rfl (congrArg (fun z => x1 + z) (by decide)) (by decide) rfl (fun ls hl => ?_)
      refine lv_goto (tgt := 2) hx hb dX11_taken_23 (by decide) ?_
      exact ih t_undos (upd t_all (x1).toNatClampNeg (t_told (x1).toNatClampNeg)) (x1 + (1 : Int32)) H locs ls hP hD hS (lv_sub hl [1, 0] rfl) hF
def F_X11_taken (t_undos : Int32) (t_all : Nat → Int32) (t_told : Nat → Int32) : Option (Int32 × (Nat → Int32)) :=
  L_X11_taken_2 t_told fu_ t_undos t_all (0 : Int32)
set_option maxHeartbeats 4000000 in
set_option maxRecDepth 100000 in
theorem c_X11_taken (l : Launch) (D : va_G) (K : Nat → ClassId) (g_t : Nat → Nat) (t_raised : Int32) (t_undos : Int32) (t_reached : Int32) (t_length : Int32) (t_begin : Int32) (t_sort : Int32) (t_value : Int32) (t_word : Int64) (t_wrongAt : Int32) (t_badAt : Int32) (t_bad : Int32) (t_read : Int32) (t_pictured : Int32) (t_x : Int32) (t_all : Nat → Int32) (t_told : Nat → Int32) (res : Int32 × (Nat → Int32)) (hF : F_X11_taken t_undos t_all t_told = some res) :
    Mv_ l yX11_taken wsX11_taken rmX11_taken D K [.ref (g_t 0)] (w_X11_taken K g_t t_raised t_undos t_reached t_length t_begin t_sort t_value t_word t_wrongAt t_badAt t_bad t_read t_pictured t_x t_all t_told) (w_X11_taken K g_t t_raised res.1 t_reached t_length t_begin t_sort t_value t_word t_wrongAt t_badAt t_bad t_read t_pictured t_x res.2 t_told) := by
  refine en_v (cc := cX11_taken) (maxL := 2) (own := RX11) (by decide) rfl rfl (Nat.le_of_ble_eq_true rfl) ?_
  intro p e s m args below meth c A Q H locs ls C0 hP hD hS hl HR
  obtain ⟨⟨hx, hb, hml, hown, hts⟩, hK, -⟩ := id C0
  have hl : lv_has ls 2 [(0, .ref (g_t 0))] := hl
  unfold F_X11_taken at hF
  refine lv_iconst (v := 0) hx hb dX11_taken_0 (by decide) ?_
  refine lv_istore_n (lv' := [(1, .int (0 : Int32)), (0, .ref (g_t 0))]) hx hb dX11_taken_1 rfl hl (by decide) rfl (fun ls hl => ?_)
  exact w_X11_taken_2 C0 HR fu_ t_undos t_all (0 : Int32) H locs ls hP hD hS (lv_sub hl [1, 0] rfl) hF
