/-! StaggerRadarModel.settingOf(J)I -/
abbrev rmX11_settingOf : Room := { frames := 0, cells := 0, slots := 0, locals := 0 }
theorem ld_X11_settingOf_126 : Cond.constantLong RX11 126 (2002876005) ∈ wsX11_settingOf := by decide +kernel
theorem ld_X11_settingOf_128 : Cond.constantLong RX11 128 (474316301160) ∈ wsX11_settingOf := by decide +kernel
theorem ld_X11_settingOf_130 : Cond.constantLong RX11 130 (483006378853) ∈ wsX11_settingOf := by decide +kernel
theorem ld_X11_settingOf_132 : Cond.constantLong RX11 132 (465625246068) ∈ wsX11_settingOf := by decide +kernel
theorem ld_X11_settingOf_134 : Cond.constantLong RX11 134 (1852138852) ∈ wsX11_settingOf := by decide +kernel
theorem ld_X11_settingOf_136 : Cond.constantLong RX11 136 (1936744814) ∈ wsX11_settingOf := by decide +kernel
theorem ld_X11_settingOf_138 : Cond.constantLong RX11 138 (439905906546) ∈ wsX11_settingOf := by decide +kernel
abbrev w_X11_settingOf (K : Nat → ClassId) : va_W := []
def F_X11_settingOf (x0 : Int64) : Option (Int32) :=
  if (lg_cmp x0 (2002876005 : Int64)) = (0 : Int32) then (some (0 : Int32)) else (if (lg_cmp x0 (474316301160 : Int64)) = (0 : Int32) then (some (1 : Int32)) else (if (lg_cmp x0 (483006378853 : Int64)) = (0 : Int32) then (some (2 : Int32)) else (if (lg_cmp x0 (465625246068 : Int64)) = (0 : Int32) then (some (3 : Int32)) else (if (lg_cmp x0 (1852138852 : Int64)) = (0 : Int32) then (some (4 : Int32)) else (if (lg_cmp x0 (1936744814 : Int64)) = (0 : Int32) then (some (5 : Int32)) else (if (lg_cmp x0 (439905906546 : Int64)) = (0 : Int32) then (some (6 : Int32)) else (some (-1 : Int32))))))))
set_option maxHeartbeats 4000000 in
set_option maxRecDepth 100000 in
theorem c_X11_settingOf (l : Launch) (D : va_G) (K : Nat → ClassId) (x0 : Int64) (res : Int32) (hF : F_X11_settingOf x0 = some res) :
    Mi_ l yX11_settingOf wsX11_settingOf rmX11_settingOf D K [.long x0] (w_X11_settingOf K) (w_X11_settingOf K) (res) := by
  refine en_i (cc := cX11_settingOf) (maxL := 2) (own := RX11) (by decide) rfl rfl (Nat.le_of_ble_eq_true rfl) ?_
  intro p e s m args below meth c A Q H locs ls C0 hP hD hS hl HR
  obtain ⟨⟨hx, hb, hml, hown, hts⟩, hK, -⟩ := id C0
  have hl : lv_has ls 2 [(0, .long x0)] := hl
  unfold F_X11_settingOf at hF
  refine lv_lload_n hx hb dX11_settingOf_0 rfl (lv_at hl 0 rfl) ?_
  refine lv_ldc2 (v := 2002876005) hx hb hown (hts _ ld_X11_settingOf_126) dX11_settingOf_1 ?_
  refine W.lcmp hx hb dX11_settingOf_4 ?_
  refine lv_if_ne (tgt := 12) hx hb dX11_settingOf_5 (by decide) (fun c_1 => ?_) (fun c_1 => ?_)
  · have hF := it_neg c_1 hF
    refine lv_lload_n hx hb dX11_settingOf_12 rfl (lv_at hl 0 rfl) ?_
    refine lv_ldc2 (v := 474316301160) hx hb hown (hts _ ld_X11_settingOf_128) dX11_settingOf_13 ?_
    refine W.lcmp hx hb dX11_settingOf_16 ?_
    refine lv_if_ne (tgt := 24) hx hb dX11_settingOf_17 (by decide) (fun c_2 => ?_) (fun c_2 => ?_)
    · have hF := it_neg c_2 hF
      refine lv_lload_n hx hb dX11_settingOf_24 rfl (lv_at hl 0 rfl) ?_
      refine lv_ldc2 (v := 483006378853) hx hb hown (hts _ ld_X11_settingOf_130) dX11_settingOf_25 ?_
      refine W.lcmp hx hb dX11_settingOf_28 ?_
      refine lv_if_ne (tgt := 36) hx hb dX11_settingOf_29 (by decide) (fun c_3 => ?_) (fun c_3 => ?_)
      · have hF := it_neg c_3 hF
        refine lv_lload_n hx hb dX11_settingOf_36 rfl (lv_at hl 0 rfl) ?_
        refine lv_ldc2 (v := 465625246068) hx hb hown (hts _ ld_X11_settingOf_132) dX11_settingOf_37 ?_
        refine W.lcmp hx hb dX11_settingOf_40 ?_
        refine lv_if_ne (tgt := 48) hx hb dX11_settingOf_41 (by decide) (fun c_4 => ?_) (fun c_4 => ?_)
        · have hF := it_neg c_4 hF
          refine lv_lload_n hx hb dX11_settingOf_48 rfl (lv_at hl 0 rfl) ?_
          refine lv_ldc2 (v := 1852138852) hx hb hown (hts _ ld_X11_settingOf_134) dX11_settingOf_49 ?_
          refine W.lcmp hx hb dX11_settingOf_52 ?_
          refine lv_if_ne (tgt := 60) hx hb dX11_settingOf_53 (by decide) (fun c_5 => ?_) (fun c_5 => ?_)
          · have hF := it_neg c_5 hF
            refine lv_lload_n hx hb dX11_settingOf_60 rfl (lv_at hl 0 rfl) ?_
            refine lv_ldc2 (v := 1936744814) hx hb hown (hts _ ld_X11_settingOf_136) dX11_settingOf_61 ?_
            refine W.lcmp hx hb dX11_settingOf_64 ?_
            refine lv_if_ne (tgt := 72) hx hb dX11_settingOf_65 (by decide) (fun c_6 => ?_) (fun c_6 => ?_)
            · have hF := it_neg c_6 hF
              refine lv_lload_n hx hb dX11_settingOf_72 rfl (lv_at hl 0 rfl) ?_
              refine lv_ldc2 (v := 439905906546) hx hb hown (hts _ ld_X11_settingOf_138) dX11_settingOf_73 ?_
              refine W.lcmp hx hb dX11_settingOf_76 ?_
              refine lv_if_ne (tgt := 85) hx hb dX11_settingOf_77 (by decide) (fun c_7 => ?_) (fun c_7 => ?_)
              · have hF := it_neg c_7 hF
                refine lv_iconst (v := (-1)) hx hb dX11_settingOf_85 (by decide) ?_
                obtain rfl := Option.some.inj hF
                exact HR 86 H locs ls dX11_settingOf_86 hP hD hS
              · have hF := it_pos c_7 hF
                refine lv_bipush (v := 6) hx hb dX11_settingOf_80 (by decide) ?_
                refine lv_goto (tgt := 86) hx hb dX11_settingOf_82 (by decide) ?_
                obtain rfl := Option.some.inj hF
                exact HR 86 H locs ls dX11_settingOf_86 hP hD hS
            · have hF := it_pos c_6 hF
              refine lv_iconst (v := 5) hx hb dX11_settingOf_68 (by decide) ?_
              refine lv_goto (tgt := 86) hx hb dX11_settingOf_69 (by decide) ?_
              obtain rfl := Option.some.inj hF
              exact HR 86 H locs ls dX11_settingOf_86 hP hD hS
          · have hF := it_pos c_5 hF
            refine lv_iconst (v := 4) hx hb dX11_settingOf_56 (by decide) ?_
            refine lv_goto (tgt := 86) hx hb dX11_settingOf_57 (by decide) ?_
            obtain rfl := Option.some.inj hF
            exact HR 86 H locs ls dX11_settingOf_86 hP hD hS
        · have hF := it_pos c_4 hF
          refine lv_iconst (v := 3) hx hb dX11_settingOf_44 (by decide) ?_
          refine lv_goto (tgt := 86) hx hb dX11_settingOf_45 (by decide) ?_
          obtain rfl := Option.some.inj hF
          exact HR 86 H locs ls dX11_settingOf_86 hP hD hS
      · have hF := it_pos c_3 hF
        refine lv_iconst (v := 2) hx hb dX11_settingOf_32 (by decide) ?_
        refine lv_goto (tgt := 86) hx hb dX11_settingOf_33 (by decide) ?_
        obtain rfl := Option.some.inj hF
        exact HR 86 H locs ls dX11_settingOf_86 hP hD hS
    · have hF := it_pos c_2 hF
      refine lv_iconst (v := 1) hx hb dX11_settingOf_20 (by decide) ?_
      refine lv_goto (tgt := 86) hx hb dX11_settingOf_21 (by decide) ?_
      obtain rfl := Option.some.inj hF
      exact HR 86 H locs ls dX11_settingOf_86 hP hD hS
  · have hF := it_pos c_1 hF
    refine lv_iconst (v := 0) hx hb dX11_settingOf_8 (by decide) ?_
    refine lv_goto (tgt := 86) hx hb dX11_settingOf_9 (by decide) ?_
    obtain rfl := Option.some.inj hF
    exact HR 86 H locs ls dX11_settingOf_86 hP hD hS

/-! StaggerRadarModel.mostOf(I)I -/
abbrev rmX11_mostOf : Room := { frames := 0, cells := 0, slots := 0, locals := 0 }
abbrev w_X11_mostOf (K : Nat → ClassId) : va_W := []
def F_X11_mostOf (x0 : Int32) : Option (Int32) :=
  if x0 = (0 : Int32) then (some (999 : Int32)) else (if x0 = (1 : Int32) then (some (49 : Int32)) else (if x0 = (2 : Int32) then (some (9 : Int32)) else (if x0 = (3 : Int32) then (some (1000 : Int32)) else (if x0 = (4 : Int32) then (some (5 : Int32)) else (some (200 : Int32))))))
set_option maxHeartbeats 4000000 in
set_option maxRecDepth 100000 in
theorem c_X11_mostOf (l : Launch) (D : va_G) (K : Nat → ClassId) (x0 : Int32) (res : Int32) (hF : F_X11_mostOf x0 = some res) :
    Mi_ l yX11_mostOf wsX11_mostOf rmX11_mostOf D K [.int x0] (w_X11_mostOf K) (w_X11_mostOf K) (res) := by
  refine en_i (cc := cX11_mostOf) (maxL := 1) (own := RX11) (by decide) rfl rfl (Nat.le_of_ble_eq_true rfl) ?_
  intro p e s m args below meth c A Q H locs ls C0 hP hD hS hl HR
  obtain ⟨⟨hx, hb, hml, hown, hts⟩, hK, -⟩ := id C0
  have hl : lv_has ls 1 [(0, .int x0)] := hl
  unfold F_X11_mostOf at hF
  refine lv_iload_n hx hb dX11_mostOf_0 rfl (lv_at hl 0 rfl) ?_
  by_cases c_1 : x0 = (0 : Int32)
  · have hF := it_pos c_1 hF
    refine lv_tableIn (off := 35) (tgt := 36) hx hb dX11_mostOf_1 (by rw [c_1]; decide) (by rw [c_1]; decide) (by rw [c_1]; rfl) (by decide) ?_
    refine lv_sipush (v := 999) hx hb dX11_mostOf_36 (by decide) ?_
    obtain rfl := Option.some.inj hF
    exact HR 39 H locs ls dX11_mostOf_39 hP hD hS
  have hF := it_neg c_1 hF
  by_cases c_2 : x0 = (1 : Int32)
  · have hF := it_pos c_2 hF
    refine lv_tableIn (off := 39) (tgt := 40) hx hb dX11_mostOf_1 (by rw [c_2]; decide) (by rw [c_2]; decide) (by rw [c_2]; rfl) (by decide) ?_
    refine lv_bipush (v := 49) hx hb dX11_mostOf_40 (by decide) ?_
    obtain rfl := Option.some.inj hF
    exact HR 42 H locs ls dX11_mostOf_42 hP hD hS
  have hF := it_neg c_2 hF
  by_cases c_3 : x0 = (2 : Int32)
  · have hF := it_pos c_3 hF
    refine lv_tableIn (off := 42) (tgt := 43) hx hb dX11_mostOf_1 (by rw [c_3]; decide) (by rw [c_3]; decide) (by rw [c_3]; rfl) (by decide) ?_
    refine lv_bipush (v := 9) hx hb dX11_mostOf_43 (by decide) ?_
    obtain rfl := Option.some.inj hF
    exact HR 45 H locs ls dX11_mostOf_45 hP hD hS
  have hF := it_neg c_3 hF
  by_cases c_4 : x0 = (3 : Int32)
  · have hF := it_pos c_4 hF
    refine lv_tableIn (off := 45) (tgt := 46) hx hb dX11_mostOf_1 (by rw [c_4]; decide) (by rw [c_4]; decide) (by rw [c_4]; rfl) (by decide) ?_
    refine lv_sipush (v := 1000) hx hb dX11_mostOf_46 (by decide) ?_
    obtain rfl := Option.some.inj hF
    exact HR 49 H locs ls dX11_mostOf_49 hP hD hS
  have hF := it_neg c_4 hF
  by_cases c_5 : x0 = (4 : Int32)
  · have hF := it_pos c_5 hF
    refine lv_tableIn (off := 49) (tgt := 50) hx hb dX11_mostOf_1 (by rw [c_5]; decide) (by rw [c_5]; decide) (by rw [c_5]; rfl) (by decide) ?_
    refine lv_iconst (v := 5) hx hb dX11_mostOf_50 (by decide) ?_
    obtain rfl := Option.some.inj hF
    exact HR 51 H locs ls dX11_mostOf_51 hP hD hS
  have hF := it_neg c_5 hF
  have qc_1 := lv_neT (a := 0) c_1 (by decide)
  have qc_2 := lv_neT (a := 1) c_2 (by decide)
  have qc_3 := lv_neT (a := 2) c_3 (by decide)
  have qc_4 := lv_neT (a := 3) c_4 (by decide)
  have qc_5 := lv_neT (a := 4) c_5 (by decide)
  refine lv_tableOut (tgt := 52) hx hb dX11_mostOf_1 (by omega) (by decide) ?_
  refine lv_sipush (v := 200) hx hb dX11_mostOf_52 (by decide) ?_
  obtain rfl := Option.some.inj hF
  exact HR 55 H locs ls dX11_mostOf_55 hP hD hS

/-! StaggerRadarModel.line()Z -/
abbrev rmX11_line : Room := { frames := 4, cells := 0, slots := 0, locals := 90 }
theorem fl_X11_line_24 : Cond.fieldLink RX11 24 "StaggerRadarModel" "told" "[I" ∈ wsX11_line := by decide +kernel
theorem fl_X11_line_93 : Cond.fieldLink RX11 93 "StaggerRadarModel" "word" "J" ∈ wsX11_line := by decide +kernel
theorem fl_X11_line_97 : Cond.fieldLink RX11 97 "StaggerRadarModel" "sort" "I" ∈ wsX11_line := by decide +kernel
theorem fl_X11_line_116 : Cond.fieldLink RX11 116 "StaggerRadarModel" "read" "I" ∈ wsX11_line := by decide +kernel
theorem ld_X11_line_152 : Cond.constantLong RX11 152 (6775152) ∈ wsX11_line := by decide +kernel
theorem ld_X11_line_157 : Cond.constantLong RX11 157 (1668246885) ∈ wsX11_line := by decide +kernel
theorem ld_X11_line_159 : Cond.constantLong RX11 159 (26479) ∈ wsX11_line := by decide +kernel
theorem iw_X11_line_X11 : ∀ w ∈ u_ws RX11 TX11 30, w ∈ wsX11_line := by decide +kernel
abbrev w_X11_line (K : Nat → ClassId) (g_t : Nat → Nat) (t_raised : Int32) (t_undos : Int32) (t_reached : Int32) (t_length : Int32) (t_begin : Int32) (t_sort : Int32) (t_value : Int32) (t_word : Int64) (t_wrongAt : Int32) (t_badAt : Int32) (t_bad : Int32) (t_read : Int32) (t_pictured : Int32) (t_x : Int32) (t_text : Nat → Int32) (t_told : Nat → Int32) : va_W := [((g_t 0), .inr (10, [.int t_raised, .ref (g_t 2), .ref (g_t 3), .ref (g_t 4), .ref (g_t 5), .int t_undos, .int t_reached, .int t_length, .int t_begin, .int t_sort, .int t_value, .long t_word, .int t_wrongAt, .int t_badAt, .int t_bad, .ref (g_t 16), .int t_read, .ref (g_t 18), .ref (g_t 19), .ref (g_t 20), .int t_pictured, .ref (g_t 22), .ref (g_t 23), .ref (g_t 24), .ref (g_t 25), .ref (g_t 26), .int t_x, .ref (g_t 28), .ref (g_t 29), .ref (g_t 30)])), ((g_t 3), .inl (K 3, 1600, .inl t_text)), ((g_t 16), .inl (K 0, 97, .inl t_told))]
def J_X11_line_60 (t_length : Int32) (t_text : Nat → Int32) (t_reached : Int32) (t_begin : Int32) (t_sort : Int32) (t_value : Int32) (t_word : Int64) (t_wrongAt : Int32) (t_badAt : Int32) (t_bad : Int32) (t_read : Int32) (t_told : Nat → Int32) (s1 : Int32) : Option (Int32 × Int32 × Int32 × Int32 × Int32 × Int64 × Int32 × Int32 × Int32 × Int32 × (Nat → Int32)) :=
  (F_X11_targetLine t_reached t_length t_begin t_sort t_value t_word t_wrongAt t_badAt t_bad t_read t_text t_told s1).bind fun r_1 => (gd_ (decide (r_1.1 &&& 1 = r_1.1)) (some (r_1.1, r_1.2.1, r_1.2.2.1, r_1.2.2.2.1, r_1.2.2.2.2.1, r_1.2.2.2.2.2.1, r_1.2.2.2.2.2.2.1, r_1.2.2.2.2.2.2.2.1, r_1.2.2.2.2.2.2.2.2.1, r_1.2.2.2.2.2.2.2.2.2.1, r_1.2.2.2.2.2.2.2.2.2.2)))
set_option maxHeartbeats 4000000 in
set_option maxRecDepth 100000 in
theorem w_X11_line_60 {p : Program} {l : Launch} {e : Env} {s : State} {m : MethodId} {args : Array Value} {below : List Frame} {meth : Method} {c : Code} {D : va_G} {K : Nat → ClassId} {A : Nat → Prop} {Q : State → Prop} (C0 : cx_ p s m args c cX11_line 5 RX11 wsX11_line D K A) {g_t : Nat → Nat} {t_raised : Int32} {t_undos : Int32} {t_length : Int32} {t_pictured : Int32} {t_x : Int32} {t_text : Nat → Int32} {res : Int32 × Int32 × Int32 × Int32 × Int32 × Int64 × Int32 × Int32 × Int32 × Int32 × (Nat → Int32)} (HR : ∀ (pc : Nat) (H : Heap) (locs : List Loc) (ls : Array Slot), decode cX11_line pc = .ok (.ireturn, 1) → narrow .boolean (.int res.1) = .int res.1 → va_P D vwCl (w_X11_line K g_t t_raised t_undos res.2.1 t_length res.2.2.1 res.2.2.2.1 res.2.2.2.2.1 res.2.2.2.2.2.1 res.2.2.2.2.2.2.1 res.2.2.2.2.2.2.2.1 res.2.2.2.2.2.2.2.2.1 res.2.2.2.2.2.2.2.2.2.1 t_pictured t_x t_text res.2.2.2.2.2.2.2.2.2.2) H → va_D A (w_X11_line K g_t t_raised t_undos res.2.1 t_length res.2.2.1 res.2.2.2.1 res.2.2.2.2.1 res.2.2.2.2.2.1 res.2.2.2.2.2.2.1 res.2.2.2.2.2.2.2.1 res.2.2.2.2.2.2.2.2.1 res.2.2.2.2.2.2.2.2.2.1 t_pictured t_x t_text res.2.2.2.2.2.2.2.2.2.2) → va_S A s.heap H locs → W p l e rmX11_line s m args below meth c H locs 0 0 Q (F0 m pc ls [.int res.1]))  :
    ∀ (t_reached : Int32) (t_begin : Int32) (t_sort : Int32) (t_value : Int32) (t_word : Int64) (t_wrongAt : Int32) (t_badAt : Int32) (t_bad : Int32) (t_read : Int32) (t_told : Nat → Int32) (s1 : Int32) (H : Heap) (locs : List Loc) (ls : Array Slot), va_P D vwCl (w_X11_line K g_t t_raised t_undos t_reached t_length t_begin t_sort t_value t_word t_wrongAt t_badAt t_bad t_read t_pictured t_x t_text t_told) H → va_D A (w_X11_line K g_t t_raised t_undos t_reached t_length t_begin t_sort t_value t_word t_wrongAt t_badAt t_bad t_read t_pictured t_x t_text t_told) → va_S A s.heap H locs → lv_has ls 5 [] → J_X11_line_60 t_length t_text t_reached t_begin t_sort t_value t_word t_wrongAt t_badAt t_bad t_read t_told s1 = some res → W p l e rmX11_line s m args below meth c H locs 0 0 Q (F0 m 60 ls [.int s1, .ref (g_t 0)]) := by
  obtain ⟨⟨hx, hb, hml, hown, hts⟩, hK, -⟩ := id C0
  intro t_reached t_begin t_sort t_value t_word t_wrongAt t_badAt t_bad t_read t_told s1 H locs ls hP hD hS hl hF
  unfold J_X11_line_60 at hF
  obtain ⟨r_1, hc_2, hF⟩ := bn_some hF
  refine xc_i (wn := (w_X11_line K g_t t_raised t_undos r_1.2.1 t_length r_1.2.2.1 r_1.2.2.2.1 r_1.2.2.2.2.1 r_1.2.2.2.2.2.1 r_1.2.2.2.2.2.2.1 r_1.2.2.2.2.2.2.2.1 r_1.2.2.2.2.2.2.2.2.1 r_1.2.2.2.2.2.2.2.2.2.1 t_pictured t_x t_text r_1.2.2.2.2.2.2.2.2.2.2)) hP hD hS C0.2.2.1 [0, 1, 2] [] [0, 1, 2] rfl rfl (by decide) (by decide) rfl (by decide) (va_runV (As := [.int s1]) (rest := []) C0.1 (c_X11_targetLine l D K g_t t_raised t_undos t_reached t_length t_begin t_sort t_value t_word t_wrongAt t_badAt t_bad t_read t_pictured t_x t_text t_told s1 r_1 hc_2 H.size) (cwV 1 hts gX11_line_X11_targetLine rfl rfl rfl (by decide +kernel) ⟨Nat.le_of_ble_eq_true rfl, Nat.le_of_ble_eq_true rfl⟩) (xp_V C0.2 hP hD hS [0, 1, 2] rfl (by decide) 10 0 rfl rfl rfl) rfl rfl hl.1 rfl (lv_room (Nat.le_of_ble_eq_true rfl)) dX11_line_60 ⟨Nat.le_of_ble_eq_true rfl, Nat.le_of_ble_eq_true rfl⟩) (fun H locs hP hD hS => ?_)
  obtain ⟨hg_3, hF⟩ := gd_some hF
  obtain rfl := Option.some.inj hF
  exact HR 63 H locs ls dX11_line_63 (zn_of hg_3) hP hD hS
def J_X11_line_46 (t_length : Int32) (t_text : Nat → Int32) (t_reached : Int32) (t_begin : Int32) (t_sort : Int32) (t_value : Int32) (t_word : Int64) (t_wrongAt : Int32) (t_badAt : Int32) (t_bad : Int32) (t_read : Int32) (t_told : Nat → Int32) (x1 : Int64) : Option (Int32 × Int32 × Int32 × Int32 × Int32 × Int64 × Int32 × Int32 × Int32 × Int32 × (Nat → Int32)) :=
  if (lg_cmp x1 (1668246885 : Int64)) = (0 : Int32) then (J_X11_line_60 t_length t_text t_reached t_begin t_sort t_value t_word t_wrongAt t_badAt t_bad t_read t_told (-1 : Int32)) else (J_X11_line_60 t_length t_text t_reached t_begin t_sort t_value t_word t_wrongAt t_badAt t_bad t_read t_told (1 : Int32))
set_option maxHeartbeats 4000000 in
set_option maxRecDepth 100000 in
theorem w_X11_line_46 {p : Program} {l : Launch} {e : Env} {s : State} {m : MethodId} {args : Array Value} {below : List Frame} {meth : Method} {c : Code} {D : va_G} {K : Nat → ClassId} {A : Nat → Prop} {Q : State → Prop} (C0 : cx_ p s m args c cX11_line 5 RX11 wsX11_line D K A) {g_t : Nat → Nat} {t_raised : Int32} {t_undos : Int32} {t_length : Int32} {t_pictured : Int32} {t_x : Int32} {t_text : Nat → Int32} {res : Int32 × Int32 × Int32 × Int32 × Int32 × Int64 × Int32 × Int32 × Int32 × Int32 × (Nat → Int32)} (HR : ∀ (pc : Nat) (H : Heap) (locs : List Loc) (ls : Array Slot), decode cX11_line pc = .ok (.ireturn, 1) → narrow .boolean (.int res.1) = .int res.1 → va_P D vwCl (w_X11_line K g_t t_raised t_undos res.2.1 t_length res.2.2.1 res.2.2.2.1 res.2.2.2.2.1 res.2.2.2.2.2.1 res.2.2.2.2.2.2.1 res.2.2.2.2.2.2.2.1 res.2.2.2.2.2.2.2.2.1 res.2.2.2.2.2.2.2.2.2.1 t_pictured t_x t_text res.2.2.2.2.2.2.2.2.2.2) H → va_D A (w_X11_line K g_t t_raised t_undos res.2.1 t_length res.2.2.1 res.2.2.2.1 res.2.2.2.2.1 res.2.2.2.2.2.1 res.2.2.2.2.2.2.1 res.2.2.2.2.2.2.2.1 res.2.2.2.2.2.2.2.2.1 res.2.2.2.2.2.2.2.2.2.1 t_pictured t_x t_text res.2.2.2.2.2.2.2.2.2.2) → va_S A s.heap H locs → W p l e rmX11_line s m args below meth c H locs 0 0 Q (F0 m pc ls [.int res.1]))  :
    ∀ (t_reached : Int32) (t_begin : Int32) (t_sort : Int32) (t_value : Int32) (t_word : Int64) (t_wrongAt : Int32) (t_badAt : Int32) (t_bad : Int32) (t_read : Int32) (t_told : Nat → Int32) (x1 : Int64) (H : Heap) (locs : List Loc) (ls : Array Slot), va_P D vwCl (w_X11_line K g_t t_raised t_undos t_reached t_length t_begin t_sort t_value t_word t_wrongAt t_badAt t_bad t_read t_pictured t_x t_text t_told) H → va_D A (w_X11_line K g_t t_raised t_undos t_reached t_length t_begin t_sort t_value t_word t_wrongAt t_badAt t_bad t_read t_pictured t_x t_text t_told) → va_S A s.heap H locs → lv_has ls 5 [(0, .ref (g_t 0)), (1, .long x1)] → J_X11_line_46 t_length t_text t_reached t_begin t_sort t_value t_word t_wrongAt t_badAt t_bad t_read t_told x1 = some res → W p l e rmX11_line s m args below meth c H locs 0 0 Q (F0 m 46 ls []) := by
  obtain ⟨⟨hx, hb, hml, hown, hts⟩, hK, -⟩ := id C0
  intro t_reached t_begin t_sort t_value t_word t_wrongAt t_badAt t_bad t_read t_told x1 H locs ls hP hD hS hl hF
  unfold J_X11_line_46 at hF
  refine lv_aload_n hx hb dX11_line_46 rfl (lv_at hl 0 rfl) ?_
  refine lv_lload_n hx hb dX11_line_47 rfl (lv_at hl 1 rfl) ?_
  refine lv_ldc2 (v := 1668246885) hx hb hown (hts _ ld_X11_line_157) dX11_line_48 ?_
  refine W.lcmp hx hb dX11_line_51 ?_
  refine lv_if_ne (tgt := 59) hx hb dX11_line_52 (by decide) (fun c_1 => ?_) (fun c_1 => ?_)
  · have hF := it_neg c_1 hF
    refine lv_iconst (v := 1) hx hb dX11_line_59 (by decide) ?_
    exact w_X11_line_60 C0 HR t_reached t_begin t_sort t_value t_word t_wrongAt t_badAt t_bad t_read t_told (1 : Int32) H locs ls hP hD hS (lv_sub hl [] rfl) hF
  · have hF := it_pos c_1 hF
    refine lv_iconst (v := (-1)) hx hb dX11_line_55 (by decide) ?_
    refine lv_goto (tgt := 60) hx hb dX11_line_56 (by decide) ?_
    exact w_X11_line_60 C0 HR t_reached t_begin t_sort t_value t_word t_wrongAt t_badAt t_bad t_read t_told (-1 : Int32) H locs ls hP hD hS (lv_sub hl [] rfl) hF
def J_X11_line_16 (t_length : Int32) (t_text : Nat → Int32) (t_reached : Int32) (t_begin : Int32) (t_sort : Int32) (t_value : Int32) (t_word : Int64) (t_wrongAt : Int32) (t_badAt : Int32) (t_bad : Int32) (t_read : Int32) (t_told : Nat → Int32) (s0 : Int64) : Option (Int32 × Int32 × Int32 × Int32 × Int32 × Int64 × Int32 × Int32 × Int32 × Int32 × (Nat → Int32)) :=
  if (lg_cmp s0 (6775152 : Int64)) = (0 : Int32) then ((F_X11_gapLine t_reached t_length t_begin t_sort t_value t_word t_wrongAt t_badAt t_bad t_read t_text t_told).bind fun r_20 => (gd_ (decide (r_20.1 &&& 1 = r_20.1)) (some (r_20.1, r_20.2.1, r_20.2.2.1, r_20.2.2.2.1, r_20.2.2.2.2.1, r_20.2.2.2.2.2.1, r_20.2.2.2.2.2.2.1, r_20.2.2.2.2.2.2.2.1, r_20.2.2.2.2.2.2.2.2.1, r_20.2.2.2.2.2.2.2.2.2.1, r_20.2.2.2.2.2.2.2.2.2.2)))) else (if (lg_cmp s0 (1668246885 : Int64)) = (0 : Int32) then (J_X11_line_46 t_length t_text t_reached t_begin t_sort t_value t_word t_wrongAt t_badAt t_bad t_read t_told s0) else (if (lg_cmp s0 (26479 : Int64)) = (0 : Int32) then (J_X11_line_46 t_length t_text t_reached t_begin t_sort t_value t_word t_wrongAt t_badAt t_bad t_read t_told s0) else ((F_X11_settingOf s0).bind fun r_4 => (if r_4 = (-1 : Int32) then ((F_X11_fails t_begin t_wrongAt).bind fun r_17 => (gd_ (decide (r_17.1 &&& 1 = r_17.1)) (some (r_17.1, t_reached, t_begin, t_sort, t_value, t_word, r_17.2, t_badAt, t_bad, t_read, t_told)))) else ((F_X11_token t_reached t_length t_begin t_sort t_value t_word t_text).bind fun r_7 => ((F_X11_leastOf r_4).bind fun r_9 => ((F_X11_mostOf r_4).bind fun r_11 => ((F_X11_takes r_7.1 t_length r_7.2.1 r_7.2.2.1 r_7.2.2.2.1 r_7.2.2.2.2 t_wrongAt t_badAt t_bad t_read t_text r_9 r_11).bind fun r_13 => (gd_ (in_b ((6 : Int32) + r_4) 97) (gd_ (decide (r_13.1 &&& 1 = r_13.1)) (some (r_13.1, r_13.2.1, r_13.2.2.1, r_13.2.2.2.1, r_13.2.2.2.2.1, r_13.2.2.2.2.2.1, r_13.2.2.2.2.2.2.1, r_13.2.2.2.2.2.2.2.1, r_13.2.2.2.2.2.2.2.2.1, r_13.2.2.2.2.2.2.2.2.2, (upd t_told ((6 : Int32) + r_4).toNatClampNeg r_13.2.2.2.2.2.2.2.2.2)))))))))))))
set_option maxHeartbeats 4000000 in
set_option maxRecDepth 100000 in
theorem w_X11_line_16 {p : Program} {l : Launch} {e : Env} {s : State} {m : MethodId} {args : Array Value} {below : List Frame} {meth : Method} {c : Code} {D : va_G} {K : Nat → ClassId} {A : Nat → Prop} {Q : State → Prop} (C0 : cx_ p s m args c cX11_line 5 RX11 wsX11_line D K A) {g_t : Nat → Nat} {t_raised : Int32} {t_undos : Int32} {t_length : Int32} {t_pictured : Int32} {t_x : Int32} {t_text : Nat → Int32} {res : Int32 × Int32 × Int32 × Int32 × Int32 × Int64 × Int32 × Int32 × Int32 × Int32 × (Nat → Int32)} (HR : ∀ (pc : Nat) (H : Heap) (locs : List Loc) (ls : Array Slot), decode cX11_line pc = .ok (.ireturn, 1) → narrow .boolean (.int res.1) = .int res.1 → va_P D vwCl (w_X11_line K g_t t_raised t_undos res.2.1 t_length res.2.2.1 res.2.2.2.1 res.2.2.2.2.1 res.2.2.2.2.2.1 res.2.2.2.2.2.2.1 res.2.2.2.2.2.2.2.1 res.2.2.2.2.2.2.2.2.1 res.2.2.2.2.2.2.2.2.2.1 t_pictured t_x t_text res.2.2.2.2.2.2.2.2.2.2) H → va_D A (w_X11_line K g_t t_raised t_undos res.2.1 t_length res.2.2.1 res.2.2.2.1 res.2.2.2.2.1 res.2.2.2.2.2.1 res.2.2.2.2.2.2.1 res.2.2.2.2.2.2.2.1 res.2.2.2.2.2.2.2.2.1 res.2.2.2.2.2.2.2.2.2.1 t_pictured t_x t_text res.2.2.2.2.2.2.2.2.2.2) → va_S A s.heap H locs → W p l e rmX11_line s m args below meth c H locs 0 0 Q (F0 m pc ls [.int res.1]))  :
    ∀ (t_reached : Int32) (t_begin : Int32) (t_sort : Int32) (t_value : Int32) (t_word : Int64) (t_wrongAt : Int32) (t_badAt : Int32) (t_bad : Int32) (t_read : Int32) (t_told : Nat → Int32) (s0 : Int64) (H : Heap) (locs : List Loc) (ls : Array Slot), va_P D vwCl (w_X11_line K g_t t_raised t_undos t_reached t_length t_begin t_sort t_value t_word t_wrongAt t_badAt t_bad t_read t_pictured t_x t_text t_told) H → va_D A (w_X11_line K g_t t_raised t_undos t_reached t_length t_begin t_sort t_value t_word t_wrongAt t_badAt t_bad t_read t_pictured t_x t_text t_told) → va_S A s.heap H locs → lv_has ls 5 [(0, .ref (g_t 0))] → J_X11_line_16 t_length t_text t_reached t_begin t_sort t_value t_word t_wrongAt t_badAt t_bad t_read t_told s0 = some res → W p l e rmX11_line s m args below meth c H locs 0 0 Q (F0 m 16 ls [.long s0]) := by
  obtain ⟨⟨hx, hb, hml, hown, hts⟩, hK, -⟩ := id C0
  intro t_reached t_begin t_sort t_value t_word t_wrongAt t_badAt t_bad t_read t_told s0 H locs ls hP hD hS hl hF
  unfold J_X11_line_16 at hF
  refine lv_lstore_n (lv' := [(1, .long s0), (0, .ref (g_t 0))]) hx hb dX11_line_16 rfl hl (by decide) rfl (fun ls hl => ?_)
  refine lv_lload_n hx hb dX11_line_17 rfl (lv_at hl 0 rfl) ?_
  refine lv_ldc2 (v := 6775152) hx hb hown (hts _ ld_X11_line_152) dX11_line_18 ?_
  refine W.lcmp hx hb dX11_line_21 ?_
  refine lv_if_ne (tgt := 30) hx hb dX11_line_22 (by decide) (fun c_1 => ?_) (fun c_1 => ?_)
  · have hF := it_neg c_1 hF
    refine lv_lload_n hx hb dX11_line_30 rfl (lv_at hl 0 rfl) ?_
    refine lv_ldc2 (v := 1668246885) hx hb hown (hts _ ld_X11_line_157) dX11_line_31 ?_
    refine W.lcmp hx hb dX11_line_34 ?_
    refine lv_if_eq (tgt := 46) hx hb dX11_line_35 (by decide) (fun c_2 => ?_) (fun c_2 => ?_)
    · have hF := it_pos c_2 hF
      exact w_X11_line_46 C0 HR t_reached t_begin t_sort t_value t_word t_wrongAt t_badAt t_bad t_read t_told s0 H locs ls hP hD hS (lv_sub hl [1, 0] rfl) hF
    · have hF := it_neg c_2 hF
      refine lv_lload_n hx hb dX11_line_38 rfl (lv_at hl 0 rfl) ?_
      refine lv_ldc2 (v := 26479) hx hb hown (hts _ ld_X11_line_159) dX11_line_39 ?_
      refine W.lcmp hx hb dX11_line_42 ?_
      refine lv_if_ne (tgt := 64) hx hb dX11_line_43 (by decide) (fun c_3 => ?_) (fun c_3 => ?_)
      · have hF := it_neg c_3 hF
        refine lv_lload_n hx hb dX11_line_64 rfl (lv_at hl 0 rfl) ?_
        obtain ⟨r_4, hc_5, hF⟩ := bn_some hF
        refine xc_i (wn := (w_X11_line K g_t t_raised t_undos t_reached t_length t_begin t_sort t_value t_word t_wrongAt t_badAt t_bad t_read t_pictured t_x t_text t_told)) hP hD hS C0.2.2.1 [] [0, 1, 2] [0, 1, 2] rfl rfl (by decide) (by decide) rfl (by decide) (va_runS (As := [.long s0]) (rest := []) C0.1 (c_X11_settingOf l D K s0 r_4 hc_5 H.size) (va_cwS 1 hts gX11_line_X11_settingOf rfl rfl rfl (by decide +kernel) ⟨Nat.le_of_ble_eq_true rfl, Nat.le_of_ble_eq_true rfl⟩) (xp_S C0.2 hP hD hS [] rfl (by decide)) rfl rfl hl.1 rfl (lv_room (Nat.le_of_ble_eq_true rfl)) dX11_line_65 ⟨Nat.le_of_ble_eq_true rfl, Nat.le_of_ble_eq_true rfl⟩) (fun H locs hP hD hS => ?_)
        refine lv_istore_n (lv' := [(3, .int r_4), (1, .long s0), (0, .ref (g_t 0))]) hx hb dX11_line_68 rfl hl (by decide) rfl (fun ls hl => ?_)
        refine lv_iload_n hx hb dX11_line_69 rfl (lv_at hl 0 rfl) ?_
        refine lv_iconst (v := (-1)) hx hb dX11_line_70 (by decide) ?_
        refine lv_icmp_ne (tgt := 79) hx hb dX11_line_71 (by decide) (fun c_6 => ?_) (fun c_6 => ?_)
        · have hF := it_neg c_6 hF
          refine lv_aload_n hx hb dX11_line_79 rfl (lv_at hl 2 rfl) ?_
          obtain ⟨r_7, hc_8, hF⟩ := bn_some hF
          refine xc_v (wn := (w_X11_line K g_t t_raised t_undos r_7.1 t_length r_7.2.1 r_7.2.2.1 r_7.2.2.2.1 r_7.2.2.2.2 t_wrongAt t_badAt t_bad t_read t_pictured t_x t_text t_told)) hP hD hS C0.2.2.1 [0, 1] [2] [1, 2, 0] rfl rfl (by decide) (by decide) rfl (by decide) (va_runV (As := []) (rest := []) C0.1 (c_X11_token l D K g_t t_raised t_undos t_reached t_length t_begin t_sort t_value t_word t_wrongAt t_badAt t_bad t_read t_pictured t_x t_text r_7 hc_8 H.size) (cwV 0 hts gX11_line_X11_token rfl rfl rfl (by decide +kernel) ⟨Nat.le_of_ble_eq_true rfl, Nat.le_of_ble_eq_true rfl⟩) (xp_V C0.2 hP hD hS [0, 1] rfl (by decide) 10 0 rfl rfl rfl) rfl rfl hl.1 rfl (lv_room (Nat.le_of_ble_eq_true rfl)) dX11_line_80 ⟨Nat.le_of_ble_eq_true rfl, Nat.le_of_ble_eq_true rfl⟩) (fun H locs hP hD hS => ?_)
          refine lv_aload_n hx hb dX11_line_83 rfl (lv_at hl 2 rfl) ?_
          refine lv_iload_n hx hb dX11_line_84 rfl (lv_at hl 0 rfl) ?_
          obtain ⟨r_9, hc_10, hF⟩ := bn_some hF
          refine xc_i (wn := (w_X11_line K g_t t_raised t_undos r_7.1 t_length r_7.2.1 r_7.2.2.1 r_7.2.2.2.1 r_7.2.2.2.2 t_wrongAt t_badAt t_bad t_read t_pictured t_x t_text t_told)) hP hD hS C0.2.2.1 [] [0, 1, 2] [0, 1, 2] rfl rfl (by decide) (by decide) rfl (by decide) (va_runS (As := [.int r_4]) (rest := [.ref (g_t 0)]) C0.1 (c_X11_leastOf l D K r_4 r_9 hc_10 H.size) (va_cwS 1 hts gX11_line_X11_leastOf rfl rfl rfl (by decide +kernel) ⟨Nat.le_of_ble_eq_true rfl, Nat.le_of_ble_eq_true rfl⟩) (xp_S C0.2 hP hD hS [] rfl (by decide)) rfl rfl hl.1 rfl (lv_room (Nat.le_of_ble_eq_true rfl)) dX11_line_85 ⟨Nat.le_of_ble_eq_true rfl, Nat.le_of_ble_eq_true rfl⟩) (fun H locs hP hD hS => ?_)
          refine lv_iload_n hx hb dX11_line_88 rfl (lv_at hl 0 rfl) ?_
          obtain ⟨r_11, hc_12, hF⟩ := bn_some hF
          refine xc_i (wn := (w_X11_line K g_t t_raised t_undos r_7.1 t_length r_7.2.1 r_7.2.2.1 r_7.2.2.2.1 r_7.2.2.2.2 t_wrongAt t_badAt t_bad t_read t_pictured t_x t_text t_told)) hP hD hS C0.2.2.1 [] [0, 1, 2] [0, 1, 2] rfl rfl (by decide) (by decide) rfl (by decide) (va_runS (As := [.int r_4]) (rest := [.int r_9, .ref (g_t 0)]) C0.1 (c_X11_mostOf l D K r_4 r_11 hc_12 H.size) (va_cwS 1 hts gX11_line_X11_mostOf rfl rfl rfl (by decide +kernel) ⟨Nat.le_of_ble_eq_true rfl, Nat.le_of_ble_eq_true rfl⟩) (xp_S C0.2 hP hD hS [] rfl (by decide)) rfl rfl hl.1 rfl (lv_room (Nat.le_of_ble_eq_true rfl)) dX11_line_89 ⟨Nat.le_of_ble_eq_true rfl, Nat.le_of_ble_eq_true rfl⟩) (fun H locs hP hD hS => ?_)
          obtain ⟨r_13, hc_14, hF⟩ := bn_some hF
          refine xc_i (wn := (w_X11_line K g_t t_raised t_undos r_13.2.1 t_length r_13.2.2.1 r_13.2.2.2.1 r_13.2.2.2.2.1 r_13.2.2.2.2.2.1 r_13.2.2.2.2.2.2.1 r_13.2.2.2.2.2.2.2.1 r_13.2.2.2.2.2.2.2.2.1 r_13.2.2.2.2.2.2.2.2.2 t_pictured t_x t_text t_told)) hP hD hS C0.2.2.1 [0, 1] [2] [1, 2, 0] rfl rfl (by decide) (by decide) rfl (by decide) (va_runV (As := [.int r_9, .int r_11]) (rest := []) C0.1 (c_X11_takes l D K g_t t_raised t_undos r_7.1 t_length r_7.2.1 r_7.2.2.1 r_7.2.2.2.1 r_7.2.2.2.2 t_wrongAt t_badAt t_bad t_read t_pictured t_x t_text r_9 r_11 r_13 hc_14 H.size) (cwV 2 hts gX11_line_X11_takes rfl rfl rfl (by decide +kernel) ⟨Nat.le_of_ble_eq_true rfl, Nat.le_of_ble_eq_true rfl⟩) (xp_V C0.2 hP hD hS [0, 1] rfl (by decide) 10 0 rfl rfl rfl) rfl rfl hl.1 rfl (lv_room (Nat.le_of_ble_eq_true rfl)) dX11_line_92 ⟨Nat.le_of_ble_eq_true rfl, Nat.le_of_ble_eq_true rfl⟩) (fun H locs hP hD hS => ?_)
          refine lv_istore (lv' := [(4, .int r_13.1), (3, .int r_4), (1, .long s0), (0, .ref (g_t 0))]) hx hb dX11_line_95 hl (by decide) rfl (fun ls hl => ?_)
          refine lv_aload_n hx hb dX11_line_97 rfl (lv_at hl 3 rfl) ?_
          refine va_get (D := D) (ci := 10) (v := .ref (g_t 16)) (C := RX11) (T := TX11) (N := 30) hx hb hts iw_X11_line_X11 hown hK hP 0 rfl rfl 15 (by decide) (hts _ fl_X11_line_24) (fun _ h9 => h9) rfl dX11_line_98 ?_
          refine lv_bipush (v := 6) hx hb dX11_line_101 (by decide) ?_
          refine lv_iload_n hx hb dX11_line_103 rfl (lv_at hl 1 rfl) ?_
          refine lv_iadd hx hb dX11_line_104 ?_
          refine lv_aload_n hx hb dX11_line_105 rfl (lv_at hl 3 rfl) ?_
          refine va_get (D := D) (ci := 10) (v := .int r_13.2.2.2.2.2.2.2.2.2) (C := RX11) (T := TX11) (N := 30) hx hb hts iw_X11_line_X11 hown hK hP 0 rfl rfl 16 (by decide) (hts _ fl_X11_line_116) (fun _ h9 => h9) rfl dX11_line_106 ?_
          obtain ⟨hg_15, hF⟩ := gd_some hF
          refine xs_i (f := t_told) hx hb hK hP hD hS 2 0 rfl rfl rfl (in_v hg_15) dX11_line_109 (fun H locs hP hD hS => ?_)
          have hP : va_P D vwCl (w_X11_line K g_t t_raised t_undos r_13.2.1 t_length r_13.2.2.1 r_13.2.2.2.1 r_13.2.2.2.2.1 r_13.2.2.2.2.2.1 r_13.2.2.2.2.2.2.1 r_13.2.2.2.2.2.2.2.1 r_13.2.2.2.2.2.2.2.2.1 r_13.2.2.2.2.2.2.2.2.2 t_pictured t_x t_text (upd t_told ((6 : Int32) + r_4).toNatClampNeg r_13.2.2.2.2.2.2.2.2.2)) H := hP
          have hD : va_D A (w_X11_line K g_t t_raised t_undos r_13.2.1 t_length r_13.2.2.1 r_13.2.2.2.1 r_13.2.2.2.2.1 r_13.2.2.2.2.2.1 r_13.2.2.2.2.2.2.1 r_13.2.2.2.2.2.2.2.1 r_13.2.2.2.2.2.2.2.2.1 r_13.2.2.2.2.2.2.2.2.2 t_pictured t_x t_text (upd t_told ((6 : Int32) + r_4).toNatClampNeg r_13.2.2.2.2.2.2.2.2.2)) := hD
          refine lv_iload hx hb dX11_line_110 (lv_at hl 0 rfl) ?_
          obtain ⟨hg_16, hF⟩ := gd_some hF
          obtain rfl := Option.some.inj hF
          exact HR 112 H locs ls dX11_line_112 (zn_of hg_16) hP hD hS
        · have hF := it_pos c_6 hF
          refine lv_aload_n hx hb dX11_line_74 rfl (lv_at hl 2 rfl) ?_
          obtain ⟨r_17, hc_18, hF⟩ := bn_some hF
          refine xc_i (wn := (w_X11_line K g_t t_raised t_undos t_reached t_length t_begin t_sort t_value t_word r_17.2 t_badAt t_bad t_read t_pictured t_x t_text t_told)) hP hD hS C0.2.2.1 [0] [1, 2] [2, 0, 1] rfl rfl (by decide) (by decide) rfl (by decide) (va_runV (As := []) (rest := []) C0.1 (c_X11_fails l D K g_t t_raised t_undos t_reached t_length t_begin t_sort t_value t_word t_wrongAt t_badAt t_bad t_read t_pictured t_x r_17 hc_18 H.size) (cwV 0 hts gX11_line_X11_fails rfl rfl rfl (by decide +kernel) ⟨Nat.le_of_ble_eq_true rfl, Nat.le_of_ble_eq_true rfl⟩) (xp_V C0.2 hP hD hS [0] rfl (by decide) 10 0 rfl rfl rfl) rfl rfl hl.1 rfl (lv_room (Nat.le_of_ble_eq_true rfl)) dX11_line_75 ⟨Nat.le_of_ble_eq_true rfl, Nat.le_of_ble_eq_true rfl⟩) (fun H locs hP hD hS => ?_)
          obtain ⟨hg_19, hF⟩ := gd_some hF
          obtain rfl := Option.some.inj hF
          exact HR 78 H locs ls dX11_line_78 (zn_of hg_19) hP hD hS
      · have hF := it_pos c_3 hF
        exact w_X11_line_46 C0 HR t_reached t_begin t_sort t_value t_word t_wrongAt t_badAt t_bad t_read t_told s0 H locs ls hP hD hS (lv_sub hl [1, 0] rfl) hF
  · have hF := it_pos c_1 hF
    refine lv_aload_n hx hb dX11_line_25 rfl (lv_at hl 1 rfl) ?_
    obtain ⟨r_20, hc_21, hF⟩ := bn_some hF
    refine xc_i (wn := (w_X11_line K g_t t_raised t_undos r_20.2.1 t_length r_20.2.2.1 r_20.2.2.2.1 r_20.2.2.2.2.1 r_20.2.2.2.2.2.1 r_20.2.2.2.2.2.2.1 r_20.2.2.2.2.2.2.2.1 r_20.2.2.2.2.2.2.2.2.1 r_20.2.2.2.2.2.2.2.2.2.1 t_pictured t_x t_text r_20.2.2.2.2.2.2.2.2.2.2)) hP hD hS C0.2.2.1 [0, 1, 2] [] [0, 1, 2] rfl rfl (by decide) (by decide) rfl (by decide) (va_runV (As := []) (rest := []) C0.1 (c_X11_gapLine l D K g_t t_raised t_undos t_reached t_length t_begin t_sort t_value t_word t_wrongAt t_badAt t_bad t_read t_pictured t_x t_text t_told r_20 hc_21 H.size) (cwV 0 hts gX11_line_X11_gapLine rfl rfl rfl (by decide +kernel) ⟨Nat.le_of_ble_eq_true rfl, Nat.le_of_ble_eq_true rfl⟩) (xp_V C0.2 hP hD hS [0, 1, 2] rfl (by decide) 10 0 rfl rfl rfl) rfl rfl hl.1 rfl (lv_room (Nat.le_of_ble_eq_true rfl)) dX11_line_26 ⟨Nat.le_of_ble_eq_true rfl, Nat.le_of_ble_eq_true rfl⟩) (fun H locs hP hD hS => ?_)
    obtain ⟨hg_22, hF⟩ := gd_some hF
    obtain rfl := Option.some.inj hF
    exact HR 29 H locs ls dX11_line_29 (zn_of hg_22) hP hD hS
def F_X11_line (t_reached : Int32) (t_length : Int32) (t_begin : Int32) (t_sort : Int32) (t_value : Int32) (t_word : Int64) (t_wrongAt : Int32) (t_badAt : Int32) (t_bad : Int32) (t_read : Int32) (t_text : Nat → Int32) (t_told : Nat → Int32) : Option (Int32 × Int32 × Int32 × Int32 × Int32 × Int64 × Int32 × Int32 × Int32 × Int32 × (Nat → Int32)) :=
  if t_sort = (2 : Int32) then (J_X11_line_16 t_length t_text t_reached t_begin t_sort t_value t_word t_wrongAt t_badAt t_bad t_read t_told t_word) else (J_X11_line_16 t_length t_text t_reached t_begin t_sort t_value t_word t_wrongAt t_badAt t_bad t_read t_told (0 : Int64))
set_option maxHeartbeats 4000000 in
set_option maxRecDepth 100000 in
theorem c_X11_line (l : Launch) (D : va_G) (K : Nat → ClassId) (g_t : Nat → Nat) (t_raised : Int32) (t_undos : Int32) (t_reached : Int32) (t_length : Int32) (t_begin : Int32) (t_sort : Int32) (t_value : Int32) (t_word : Int64) (t_wrongAt : Int32) (t_badAt : Int32) (t_bad : Int32) (t_read : Int32) (t_pictured : Int32) (t_x : Int32) (t_text : Nat → Int32) (t_told : Nat → Int32) (res : Int32 × Int32 × Int32 × Int32 × Int32 × Int64 × Int32 × Int32 × Int32 × Int32 × (Nat → Int32)) (hF : F_X11_line t_reached t_length t_begin t_sort t_value t_word t_wrongAt t_badAt t_bad t_read t_text t_told = some res) :
    Mi_ l yX11_line wsX11_line rmX11_line D K [.ref (g_t 0)] (w_X11_line K g_t t_raised t_undos t_reached t_length t_begin t_sort t_value t_word t_wrongAt t_badAt t_bad t_read t_pictured t_x t_text t_told) (w_X11_line K g_t t_raised t_undos res.2.1 t_length res.2.2.1 res.2.2.2.1 res.2.2.2.2.1 res.2.2.2.2.2.1 res.2.2.2.2.2.2.1 res.2.2.2.2.2.2.2.1 res.2.2.2.2.2.2.2.2.1 res.2.2.2.2.2.2.2.2.2.1 t_pictured t_x t_text res.2.2.2.2.2.2.2.2.2.2) (res.1) := by
  refine en_z (cc := cX11_line) (maxL := 5) (own := RX11) (by decide) rfl rfl (Nat.le_of_ble_eq_true rfl) ?_
  intro p e s m args below meth c A Q H locs ls C0 hP hD hS hl HR
  obtain ⟨⟨hx, hb, hml, hown, hts⟩, hK, -⟩ := id C0
  have hl : lv_has ls 5 [(0, .ref (g_t 0))] := hl
  unfold F_X11_line at hF
  refine lv_aload_n hx hb dX11_line_0 rfl (lv_at hl 0 rfl) ?_
  refine va_get (D := D) (ci := 10) (v := .int t_sort) (C := RX11) (T := TX11) (N := 30) hx hb hts iw_X11_line_X11 hown hK hP 0 rfl rfl 9 (by decide) (hts _ fl_X11_line_97) (fun _ h9 => h9) rfl dX11_line_1 ?_
  refine lv_iconst (v := 2) hx hb dX11_line_4 (by decide) ?_
  refine lv_icmp_ne (tgt := 15) hx hb dX11_line_5 (by decide) (fun c_1 => ?_) (fun c_1 => ?_)
  · have hF := it_neg c_1 hF
    refine lv_lconst (v := 0) hx hb dX11_line_15 (by decide) ?_
    exact w_X11_line_16 C0 HR t_reached t_begin t_sort t_value t_word t_wrongAt t_badAt t_bad t_read t_told (0 : Int64) H locs ls hP hD hS (lv_sub hl [0] rfl) hF
  · have hF := it_pos c_1 hF
    refine lv_aload_n hx hb dX11_line_8 rfl (lv_at hl 0 rfl) ?_
    refine va_get (D := D) (ci := 10) (v := .long t_word) (C := RX11) (T := TX11) (N := 30) hx hb hts iw_X11_line_X11 hown hK hP 0 rfl rfl 11 (by decide) (hts _ fl_X11_line_93) (fun _ h9 => h9) rfl dX11_line_9 ?_
    refine lv_goto (tgt := 16) hx hb dX11_line_12 (by decide) ?_
    exact w_X11_line_16 C0 HR t_reached t_begin t_sort t_value t_word t_wrongAt t_badAt t_bad t_read t_told t_word H locs ls hP hD hS (lv_sub hl [0] rfl) hF

/-! StaggerRadarModel.look()I -/
abbrev rmX11_look : Room := { frames := 5, cells := 0, slots := 0, locals := 111 }
theorem fl_X11_look_7 : Cond.fieldLink RX11 7 "StaggerRadarModel" "all" "[I" ∈ wsX11_look := by decide +kernel
theorem fl_X11_look_30 : Cond.fieldLink RX11 30 "StaggerRadarModel" "picture" "[I" ∈ wsX11_look := by decide +kernel
theorem fl_X11_look_66 : Cond.fieldLink RX11 66 "StaggerRadarModel" "raised" "I" ∈ wsX11_look := by decide +kernel
theorem fl_X11_look_206 : Cond.fieldLink RX11 206 "StaggerRadarModel" "pictured" "I" ∈ wsX11_look := by decide +kernel
theorem iw_X11_look_X11 : ∀ w ∈ u_ws RX11 TX11 30, w ∈ wsX11_look := by decide +kernel
abbrev w_X11_look (K : Nat → ClassId) (g_t : Nat → Nat) (t_raised : Int32) (t_undos : Int32) (t_reached : Int32) (t_length : Int32) (t_begin : Int32) (t_sort : Int32) (t_value : Int32) (t_word : Int64) (t_wrongAt : Int32) (t_badAt : Int32) (t_bad : Int32) (t_read : Int32) (t_pictured : Int32) (t_x : Int32) (t_all : Nat → Int32) (t_undone : Nat → Int32) (t_loud : Nat → Int32) (t_picture : Nat → Int32) (t_took : Nat → Int32) (t_free : Nat → Int32) : va_W := [((g_t 0), .inr (10, [.int t_raised, .ref (g_t 2), .ref (g_t 3), .ref (g_t 4), .ref (g_t 5), .int t_undos, .int t_reached, .int t_length, .int t_begin, .int t_sort, .int t_value, .long t_word, .int t_wrongAt, .int t_badAt, .int t_bad, .ref (g_t 16), .int t_read, .ref (g_t 18), .ref (g_t 19), .ref (g_t 20), .int t_pictured, .ref (g_t 22), .ref (g_t 23), .ref (g_t 24), .ref (g_t 25), .ref (g_t 26), .int t_x, .ref (g_t 28), .ref (g_t 29), .ref (g_t 30)])), ((g_t 2), .inl (K 0, 500, .inl t_all)), ((g_t 5), .inl (K 0, 776, .inl t_undone)), ((g_t 18), .inl (K 0, 300, .inl t_loud)), ((g_t 19), .inl (K 0, 300, .inl t_picture)), ((g_t 20), .inl (K 0, 300, .inl t_took)), ((g_t 22), .inl (K 2, 300, .inl t_free))]
def J_X11_look_184 (k_154 : Int32 → Int32 → Int32 → (Nat → Int32) → (Nat → Int32) → (Nat → Int32) → (Nat → Int32) → (Nat → Int32) → (Nat → Int32) → Int32 → Int32 → Int32 → Option (Int32 × Int32 × Int32 × Int32 × (Nat → Int32) × (Nat → Int32) × (Nat → Int32) × (Nat → Int32) × (Nat → Int32) × (Nat → Int32))) (t_raised : Int32) (t_undos : Int32) (t_pictured : Int32) (t_all : Nat → Int32) (t_undone : Nat → Int32) (t_loud : Nat → Int32) (t_picture : Nat → Int32) (t_took : Nat → Int32) (t_free : Nat → Int32) (x1 : Int32) (x2 : Int32) (x3 : Int32) (s1 : Int32) (s2 : Int32) : Option (Int32 × Int32 × Int32 × Int32 × (Nat → Int32) × (Nat → Int32) × (Nat → Int32) × (Nat → Int32) × (Nat → Int32) × (Nat → Int32)) :=
  gd_ (in_b s1 500) (k_154 t_raised t_undos t_pictured (upd t_all (s1).toNatClampNeg s2) t_undone t_loud t_picture t_took t_free x1 x2 (x3 + (1 : Int32)))
set_option maxHeartbeats 4000000 in
set_option maxRecDepth 100000 in
theorem w_X11_look_184 {p : Program} {l : Launch} {e : Env} {s : State} {m : MethodId} {args : Array Value} {below : List Frame} {meth : Method} {c : Code} {D : va_G} {K : Nat → ClassId} {A : Nat → Prop} {Q : State → Prop} (C0 : cx_ p s m args c cX11_look 4 RX11 wsX11_look D K A) {g_t : Nat → Nat} {t_reached : Int32} {t_length : Int32} {t_begin : Int32} {t_sort : Int32} {t_value : Int32} {t_word : Int64} {t_wrongAt : Int32} {t_badAt : Int32} {t_bad : Int32} {t_read : Int32} {t_x : Int32} {res : Int32 × Int32 × Int32 × Int32 × (Nat → Int32) × (Nat → Int32) × (Nat → Int32) × (Nat → Int32) × (Nat → Int32) × (Nat → Int32)} (HR : ∀ (pc : Nat) (H : Heap) (locs : List Loc) (ls : Array Slot), decode cX11_look pc = .ok (.ireturn, 1) → va_P D vwCl (w_X11_look K g_t res.2.1 res.2.2.1 t_reached t_length t_begin t_sort t_value t_word t_wrongAt t_badAt t_bad t_read res.2.2.2.1 t_x res.2.2.2.2.1 res.2.2.2.2.2.1 res.2.2.2.2.2.2.1 res.2.2.2.2.2.2.2.1 res.2.2.2.2.2.2.2.2.1 res.2.2.2.2.2.2.2.2.2) H → va_D A (w_X11_look K g_t res.2.1 res.2.2.1 t_reached t_length t_begin t_sort t_value t_word t_wrongAt t_badAt t_bad t_read res.2.2.2.1 t_x res.2.2.2.2.1 res.2.2.2.2.2.1 res.2.2.2.2.2.2.1 res.2.2.2.2.2.2.2.1 res.2.2.2.2.2.2.2.2.1 res.2.2.2.2.2.2.2.2.2) → va_S A s.heap H locs → W p l e rmX11_look s m args below meth c H locs 0 0 Q (F0 m pc ls [.int res.1])) {k_154 : Int32 → Int32 → Int32 → (Nat → Int32) → (Nat → Int32) → (Nat → Int32) → (Nat → Int32) → (Nat → Int32) → (Nat → Int32) → Int32 → Int32 → Int32 → Option (Int32 × Int32 × Int32 × Int32 × (Nat → Int32) × (Nat → Int32) × (Nat → Int32) × (Nat → Int32) × (Nat → Int32) × (Nat → Int32))} (HK_154 : ∀ (t_raised : Int32) (t_undos : Int32) (t_pictured : Int32) (t_all : Nat → Int32) (t_undone : Nat → Int32) (t_loud : Nat → Int32) (t_picture : Nat → Int32) (t_took : Nat → Int32) (t_free : Nat → Int32) (x1 : Int32) (x2 : Int32) (x3 : Int32) (H : Heap) (locs : List Loc) (ls : Array Slot), va_P D vwCl (w_X11_look K g_t t_raised t_undos t_reached t_length t_begin t_sort t_value t_word t_wrongAt t_badAt t_bad t_read t_pictured t_x t_all t_undone t_loud t_picture t_took t_free) H → va_D A (w_X11_look K g_t t_raised t_undos t_reached t_length t_begin t_sort t_value t_word t_wrongAt t_badAt t_bad t_read t_pictured t_x t_all t_undone t_loud t_picture t_took t_free) → va_S A s.heap H locs → lv_has ls 4 [(0, .ref (g_t 0)), (1, .int x1), (2, .int x2), (3, .int x3)] → k_154 t_raised t_undos t_pictured t_all t_undone t_loud t_picture t_took t_free x1 x2 x3 = some res → W p l e rmX11_look s m args below meth c H locs 0 0 Q (F0 m 154 ls [])) :
    ∀ (t_raised : Int32) (t_undos : Int32) (t_pictured : Int32) (t_all : Nat → Int32) (t_undone : Nat → Int32) (t_loud : Nat → Int32) (t_picture : Nat → Int32) (t_took : Nat → Int32) (t_free : Nat → Int32) (x1 : Int32) (x2 : Int32) (x3 : Int32) (s1 : Int32) (s2 : Int32) (H : Heap) (locs : List Loc) (ls : Array Slot), va_P D vwCl (w_X11_look K g_t t_raised t_undos t_reached t_length t_begin t_sort t_value t_word t_wrongAt t_badAt t_bad t_read t_pictured t_x t_all t_undone t_loud t_picture t_took t_free) H → va_D A (w_X11_look K g_t t_raised t_undos t_reached t_length t_begin t_sort t_value t_word t_wrongAt t_badAt t_bad t_read t_pictured t_x t_all t_undone t_loud t_picture t_took t_free) → va_S A s.heap H locs → lv_has ls 4 [(0, .ref (g_t 0)), (1, .int x1), (2, .int x2), (3, .int x3)] → J_X11_look_184 k_154 t_raised t_undos t_pictured t_all t_undone t_loud t_picture t_took t_free x1 x2 x3 s1 s2 = some res → W p l e rmX11_look s m args below meth c H locs 0 0 Q (F0 m 184 ls [.int s2, .int s1, .ref (g_t 2)]) := by
  obtain ⟨⟨hx, hb, hml, hown, hts⟩, hK, -⟩ := id C0
  intro t_raised t_undos t_pictured t_all t_undone t_loud t_picture t_took t_free x1 x2 x3 s1 s2 H locs ls hP hD hS hl hF
  unfold J_X11_look_184 at hF
  obtain ⟨hg_1, hF⟩ := gd_some hF
  refine xs_i (f := t_all) hx hb hK hP hD hS 1 0 rfl rfl rfl (in_v hg_1) dX11_look_184 (fun H locs hP hD hS => ?_)
  have hP : va_P D vwCl (w_X11_look K g_t t_raised t_undos t_reached t_length t_begin t_sort t_value t_word t_wrongAt t_badAt t_bad t_read t_pictured t_x (upd t_all (s1).toNatClampNeg s2) t_undone t_loud t_picture t_took t_free) H := hP
  have hD : va_D A (w_X11_look K g_t t_raised t_undos t_reached t_length t_begin t_sort t_value t_word t_wrongAt t_badAt t_bad t_read t_pictured t_x (upd t_all (s1).toNatClampNeg s2) t_undone t_loud t_picture t_took t_free) := hD
  refine lv_iinc (v := (x3 + (1 : Int32))) (lv' := [(3, .int (x3 + (1 : Int32))), (0, .ref (g_t 0)), (1, .int x1), (2, .int x2)]) hx hb dX11_look_185 hl (k := 3) rfl (congrArg (fun z => x3 + z) (by decide)) (by decide) rfl (fun ls hl => ?_)
  refine lv_goto (tgt := 154) hx hb dX11_look_188 (by decide) ?_
  exact HK_154 t_raised t_undos t_pictured (upd t_all (s1).toNatClampNeg s2) t_undone t_loud t_picture t_took t_free x1 x2 (x3 + (1 : Int32)) H locs ls hP hD hS (lv_sub hl [1, 2, 3, 0] rfl) hF
def J_X11_look_191 (t_raised : Int32) (t_undos : Int32) (t_pictured : Int32) (t_all : Nat → Int32) (t_undone : Nat → Int32) (t_loud : Nat → Int32) (t_picture : Nat → Int32) (t_took : Nat → Int32) (t_free : Nat → Int32) (x2 : Int32) : Option (Int32 × Int32 × Int32 × Int32 × (Nat → Int32) × (Nat → Int32) × (Nat → Int32) × (Nat → Int32) × (Nat → Int32) × (Nat → Int32)) :=
  some (x2, t_raised, t_undos, t_pictured, (upd t_all 40 ((t_all 40) + (1 : Int32))), t_undone, t_loud, t_picture, t_took, t_free)
set_option maxHeartbeats 4000000 in
set_option maxRecDepth 100000 in
theorem w_X11_look_191 {p : Program} {l : Launch} {e : Env} {s : State} {m : MethodId} {args : Array Value} {below : List Frame} {meth : Method} {c : Code} {D : va_G} {K : Nat → ClassId} {A : Nat → Prop} {Q : State → Prop} (C0 : cx_ p s m args c cX11_look 4 RX11 wsX11_look D K A) {g_t : Nat → Nat} {t_reached : Int32} {t_length : Int32} {t_begin : Int32} {t_sort : Int32} {t_value : Int32} {t_word : Int64} {t_wrongAt : Int32} {t_badAt : Int32} {t_bad : Int32} {t_read : Int32} {t_x : Int32} {res : Int32 × Int32 × Int32 × Int32 × (Nat → Int32) × (Nat → Int32) × (Nat → Int32) × (Nat → Int32) × (Nat → Int32) × (Nat → Int32)} (HR : ∀ (pc : Nat) (H : Heap) (locs : List Loc) (ls : Array Slot), decode cX11_look pc = .ok (.ireturn, 1) → va_P D vwCl (w_X11_look K g_t res.2.1 res.2.2.1 t_reached t_length t_begin t_sort t_value t_word t_wrongAt t_badAt t_bad t_read res.2.2.2.1 t_x res.2.2.2.2.1 res.2.2.2.2.2.1 res.2.2.2.2.2.2.1 res.2.2.2.2.2.2.2.1 res.2.2.2.2.2.2.2.2.1 res.2.2.2.2.2.2.2.2.2) H → va_D A (w_X11_look K g_t res.2.1 res.2.2.1 t_reached t_length t_begin t_sort t_value t_word t_wrongAt t_badAt t_bad t_read res.2.2.2.1 t_x res.2.2.2.2.1 res.2.2.2.2.2.1 res.2.2.2.2.2.2.1 res.2.2.2.2.2.2.2.1 res.2.2.2.2.2.2.2.2.1 res.2.2.2.2.2.2.2.2.2) → va_S A s.heap H locs → W p l e rmX11_look s m args below meth c H locs 0 0 Q (F0 m pc ls [.int res.1]))  :
    ∀ (t_raised : Int32) (t_undos : Int32) (t_pictured : Int32) (t_all : Nat → Int32) (t_undone : Nat → Int32) (t_loud : Nat → Int32) (t_picture : Nat → Int32) (t_took : Nat → Int32) (t_free : Nat → Int32) (x2 : Int32) (H : Heap) (locs : List Loc) (ls : Array Slot), va_P D vwCl (w_X11_look K g_t t_raised t_undos t_reached t_length t_begin t_sort t_value t_word t_wrongAt t_badAt t_bad t_read t_pictured t_x t_all t_undone t_loud t_picture t_took t_free) H → va_D A (w_X11_look K g_t t_raised t_undos t_reached t_length t_begin t_sort t_value t_word t_wrongAt t_badAt t_bad t_read t_pictured t_x t_all t_undone t_loud t_picture t_took t_free) → va_S A s.heap H locs → lv_has ls 4 [(0, .ref (g_t 0)), (2, .int x2)] → J_X11_look_191 t_raised t_undos t_pictured t_all t_undone t_loud t_picture t_took t_free x2 = some res → W p l e rmX11_look s m args below meth c H locs 0 0 Q (F0 m 191 ls []) := by
  obtain ⟨⟨hx, hb, hml, hown, hts⟩, hK, -⟩ := id C0
  intro t_raised t_undos t_pictured t_all t_undone t_loud t_picture t_took t_free x2 H locs ls hP hD hS hl hF
  unfold J_X11_look_191 at hF
  refine lv_aload_n hx hb dX11_look_191 rfl (lv_at hl 0 rfl) ?_
  refine va_get (D := D) (ci := 10) (v := .ref (g_t 2)) (C := RX11) (T := TX11) (N := 30) hx hb hts iw_X11_look_X11 hown hK hP 0 rfl rfl 1 (by decide) (hts _ fl_X11_look_7) (fun _ h9 => h9) rfl dX11_look_192 ?_
  refine lv_bipush (v := 40) hx hb dX11_look_195 (by decide) ?_
  refine lv_dup2_11 hx hb dX11_look_197 rfl rfl ?_
  refine xl_i (f := t_all) hx hb hK hP 1 0 rfl rfl (k := 40) (by decide) (in_v (by decide)) dX11_look_198 ?_
  refine lv_iconst (v := 1) hx hb dX11_look_199 (by decide) ?_
  refine lv_iadd hx hb dX11_look_200 ?_
  refine xs_i (f := t_all) hx hb hK hP hD hS 1 0 rfl rfl (k := 40) (by decide) (in_v (by decide)) dX11_look_201 (fun H locs hP hD hS => ?_)
  have hP : va_P D vwCl (w_X11_look K g_t t_raised t_undos t_reached t_length t_begin t_sort t_value t_word t_wrongAt t_badAt t_bad t_read t_pictured t_x (upd t_all 40 ((t_all 40) + (1 : Int32))) t_undone t_loud t_picture t_took t_free) H := hP
  have hD : va_D A (w_X11_look K g_t t_raised t_undos t_reached t_length t_begin t_sort t_value t_word t_wrongAt t_badAt t_bad t_read t_pictured t_x (upd t_all 40 ((t_all 40) + (1 : Int32))) t_undone t_loud t_picture t_took t_free) := hD
  refine lv_iload_n hx hb dX11_look_202 rfl (lv_at hl 1 rfl) ?_
  obtain rfl := Option.some.inj hF
  exact HR 203 H locs ls dX11_look_203 hP hD hS
def L_X11_look_154  : Nat → Int32 → Int32 → Int32 → (Nat → Int32) → (Nat → Int32) → (Nat → Int32) → (Nat → Int32) → (Nat → Int32) → (Nat → Int32) → Int32 → Int32 → Int32 → Option (Int32 × Int32 × Int32 × Int32 × (Nat → Int32) × (Nat → Int32) × (Nat → Int32) × (Nat → Int32) × (Nat → Int32) × (Nat → Int32))
  | 0, _, _, _, _, _, _, _, _, _, _, _, _ => none
  | n_ + 1, t_raised, t_undos, t_pictured, t_all, t_undone, t_loud, t_picture, t_took, t_free, x1, x2, x3 =>
    if (12 : Int32) ≤ x3 then (J_X11_look_191 t_raised t_undos t_pictured t_all t_undone t_loud t_picture t_took t_free x2) else (if x2 ≤ x3 then (J_X11_look_184 (L_X11_look_154 n_) t_raised t_undos t_pictured t_all t_undone t_loud t_picture t_took t_free x1 x2 x3 ((x1 + (2 : Int32)) + x3) (0 : Int32)) else (gd_ (in_b x3 300) (J_X11_look_184 (L_X11_look_154 n_) t_raised t_undos t_pictured t_all t_undone t_loud t_picture t_took t_free x1 x2 x3 ((x1 + (2 : Int32)) + x3) (t_picture (x3).toNatClampNeg))))
set_option maxHeartbeats 4000000 in
set_option maxRecDepth 100000 in
theorem w_X11_look_154 {p : Program} {l : Launch} {e : Env} {s : State} {m : MethodId} {args : Array Value} {below : List Frame} {meth : Method} {c : Code} {D : va_G} {K : Nat → ClassId} {A : Nat → Prop} {Q : State → Prop} (C0 : cx_ p s m args c cX11_look 4 RX11 wsX11_look D K A) {g_t : Nat → Nat} {t_reached : Int32} {t_length : Int32} {t_begin : Int32} {t_sort : Int32} {t_value : Int32} {t_word : Int64} {t_wrongAt : Int32} {t_badAt : Int32} {t_bad : Int32} {t_read : Int32} {t_x : Int32} {res : Int32 × Int32 × Int32 × Int32 × (Nat → Int32) × (Nat → Int32) × (Nat → Int32) × (Nat → Int32) × (Nat → Int32) × (Nat → Int32)} (HR : ∀ (pc : Nat) (H : Heap) (locs : List Loc) (ls : Array Slot), decode cX11_look pc = .ok (.ireturn, 1) → va_P D vwCl (w_X11_look K g_t res.2.1 res.2.2.1 t_reached t_length t_begin t_sort t_value t_word t_wrongAt t_badAt t_bad t_read res.2.2.2.1 t_x res.2.2.2.2.1 res.2.2.2.2.2.1 res.2.2.2.2.2.2.1 res.2.2.2.2.2.2.2.1 res.2.2.2.2.2.2.2.2.1 res.2.2.2.2.2.2.2.2.2) H → va_D A (w_X11_look K g_t res.2.1 res.2.2.1 t_reached t_length t_begin t_sort t_value t_word t_wrongAt t_badAt t_bad t_read res.2.2.2.1 t_x res.2.2.2.2.1 res.2.2.2.2.2.1 res.2.2.2.2.2.2.1 res.2.2.2.2.2.2.2.1 res.2.2.2.2.2.2.2.2.1 res.2.2.2.2.2.2.2.2.2) → va_S A s.heap H locs → W p l e rmX11_look s m args below meth c H locs 0 0 Q (F0 m pc ls [.int res.1]))  :
    ∀ (n_ : Nat) (t_raised : Int32) (t_undos : Int32) (t_pictured : Int32) (t_all : Nat → Int32) (t_undone : Nat → Int32) (t_loud : Nat → Int32) (t_picture : Nat → Int32) (t_took : Nat → Int32) (t_free : Nat → Int32) (x1 : Int32) (x2 : Int32) (x3 : Int32) (H : Heap) (locs : List Loc) (ls : Array Slot), va_P D vwCl (w_X11_look K g_t t_raised t_undos t_reached t_length t_begin t_sort t_value t_word t_wrongAt t_badAt t_bad t_read t_pictured t_x t_all t_undone t_loud t_picture t_took t_free) H → va_D A (w_X11_look K g_t t_raised t_undos t_reached t_length t_begin t_sort t_value t_word t_wrongAt t_badAt t_bad t_read t_pictured t_x t_all t_undone t_loud t_picture t_took t_free) → va_S A s.heap H locs → lv_has ls 4 [(0, .ref (g_t 0)), (1, .int x1), (2, .int x2), (3, .int x3)] → L_X11_look_154 n_ t_raised t_undos t_pictured t_all t_undone t_loud t_picture t_took t_free x1 x2 x3 = some res → W p l e rmX11_look s m args below meth c H locs 0 0 Q (F0 m 154 ls []) := by
  obtain ⟨⟨hx, hb, hml, hown, hts⟩, hK, -⟩ := id C0
  intro n_
  induction n_ with
  | zero =>
    intro t_raised t_undos t_pictured t_all t_undone t_loud t_picture t_took t_free x1 x2 x3 H locs ls hP hD hS hl hF
    exact no_s (show (none : Option (Int32 × Int32 × Int32 × Int32 × (Nat → Int32) × (Nat → Int32) × (Nat → Int32) × (Nat → Int32) × (Nat → Int32) × (Nat → Int32))) = some res from hF)
  | succ n_ ih =>
    intro t_raised t_undos t_pictured t_all t_undone t_loud t_picture t_took t_free x1 x2 x3 H locs ls hP hD hS hl hF
    rw [L_X11_look_154] at hF
    refine lv_iload_n hx hb dX11_look_154 rfl (lv_at hl 3 rfl) ?_
    refine lv_bipush (v := 12) hx hb dX11_look_155 (by decide) ?_
    refine lv_icmp_ge (tgt := 191) hx hb dX11_look_157 (by decide) (fun c_1 => ?_) (fun c_1 => ?_)
    · have hF := it_pos c_1 hF
      exact w_X11_look_191 C0 HR t_raised t_undos t_pictured t_all t_undone t_loud t_picture t_took t_free x2 H locs ls hP hD hS (lv_sub hl [0, 2] rfl) hF
    · have hF := it_neg c_1 hF
      refine lv_aload_n hx hb dX11_look_160 rfl (lv_at hl 0 rfl) ?_
      refine va_get (D := D) (ci := 10) (v := .ref (g_t 2)) (C := RX11) (T := TX11) (N := 30) hx hb hts iw_X11_look_X11 hown hK hP 0 rfl rfl 1 (by decide) (hts _ fl_X11_look_7) (fun _ h9 => h9) rfl dX11_look_161 ?_
      refine lv_iload_n hx hb dX11_look_164 rfl (lv_at hl 1 rfl) ?_
      refine lv_iconst (v := 2) hx hb dX11_look_165 (by decide) ?_
      refine lv_iadd hx hb dX11_look_166 ?_
      refine lv_iload_n hx hb dX11_look_167 rfl (lv_at hl 3 rfl) ?_
      refine lv_iadd hx hb dX11_look_168 ?_
      refine lv_iload_n hx hb dX11_look_169 rfl (lv_at hl 3 rfl) ?_
      refine lv_iload_n hx hb dX11_look_170 rfl (lv_at hl 2 rfl) ?_
      refine lv_icmp_ge (tgt := 183) hx hb dX11_look_171 (by decide) (fun c_2 => ?_) (fun c_2 => ?_)
      · have hF := it_pos c_2 hF
        refine lv_iconst (v := 0) hx hb dX11_look_183 (by decide) ?_
        exact w_X11_look_184 C0 HR ih t_raised t_undos t_pictured t_all t_undone t_loud t_picture t_took t_free x1 x2 x3 ((x1 + (2 : Int32)) + x3) (0 : Int32) H locs ls hP hD hS (lv_sub hl [0, 1, 2, 3] rfl) hF
      · have hF := it_neg c_2 hF
        refine lv_aload_n hx hb dX11_look_174 rfl (lv_at hl 0 rfl) ?_
        refine va_get (D := D) (ci := 10) (v := .ref (g_t 19)) (C := RX11) (T := TX11) (N := 30) hx hb hts iw_X11_look_X11 hown hK hP 0 rfl rfl 18 (by decide) (hts _ fl_X11_look_30) (fun _ h9 => h9) rfl dX11_look_175 ?_
        refine lv_iload_n hx hb dX11_look_178 rfl (lv_at hl 3 rfl) ?_
        obtain ⟨hg_3, hF⟩ := gd_some hF
        refine xl_i (f := t_picture) hx hb hK hP 4 0 rfl rfl rfl (in_v hg_3) dX11_look_179 ?_
        refine lv_goto (tgt := 184) hx hb dX11_look_180 (by decide) ?_
        exact w_X11_look_184 C0 HR ih t_raised t_undos t_pictured t_all t_undone t_loud t_picture t_took t_free x1 x2 x3 ((x1 + (2 : Int32)) + x3) (t_picture (x3).toNatClampNeg) H locs ls hP hD hS (lv_sub hl [0, 1, 2, 3] rfl) hF
def J_X11_look_102 (t_raised : Int32) (t_undos : Int32) (t_pictured : Int32) (t_all : Nat → Int32) (t_undone : Nat → Int32) (t_loud : Nat → Int32) (t_picture : Nat → Int32) (t_took : Nat → Int32) (t_free : Nat → Int32) : Option (Int32 × Int32 × Int32 × Int32 × (Nat → Int32) × (Nat → Int32) × (Nat → Int32) × (Nat → Int32) × (Nat → Int32) × (Nat → Int32)) :=
  (F_X11_laysPicture t_pictured t_all t_loud t_picture t_took t_free).bind fun r_1 => ((F_X11_lesser (12 : Int32) r_1.1).bind fun r_3 => (gd_ (in_b ((41 : Int32) + ((14 : Int32) * (t_all 40))) 500) (gd_ (in_b (((41 : Int32) + ((14 : Int32) * (t_all 40))) + (1 : Int32)) 500) (L_X11_look_154 fu_ t_raised t_undos r_1.1 (upd (upd t_all ((41 : Int32) + ((14 : Int32) * (t_all 40))).toNatClampNeg (t_all 38)) (((41 : Int32) + ((14 : Int32) * (t_all 40))) + (1 : Int32)).toNatClampNeg r_3) t_undone r_1.2.1 r_1.2.2.1 r_1.2.2.2.1 r_1.2.2.2.2 ((41 : Int32) + ((14 : Int32) * (t_all 40))) r_3 (0 : Int32)))))
set_option maxHeartbeats 4000000 in
set_option maxRecDepth 100000 in
theorem w_X11_look_102 {p : Program} {l : Launch} {e : Env} {s : State} {m : MethodId} {args : Array Value} {below : List Frame} {meth : Method} {c : Code} {D : va_G} {K : Nat → ClassId} {A : Nat → Prop} {Q : State → Prop} (C0 : cx_ p s m args c cX11_look 4 RX11 wsX11_look D K A) {g_t : Nat → Nat} {t_reached : Int32} {t_length : Int32} {t_begin : Int32} {t_sort : Int32} {t_value : Int32} {t_word : Int64} {t_wrongAt : Int32} {t_badAt : Int32} {t_bad : Int32} {t_read : Int32} {t_x : Int32} {res : Int32 × Int32 × Int32 × Int32 × (Nat → Int32) × (Nat → Int32) × (Nat → Int32) × (Nat → Int32) × (Nat → Int32) × (Nat → Int32)} (HR : ∀ (pc : Nat) (H : Heap) (locs : List Loc) (ls : Array Slot), decode cX11_look pc = .ok (.ireturn, 1) → va_P D vwCl (w_X11_look K g_t res.2.1 res.2.2.1 t_reached t_length t_begin t_sort t_value t_word t_wrongAt t_badAt t_bad t_read res.2.2.2.1 t_x res.2.2.2.2.1 res.2.2.2.2.2.1 res.2.2.2.2.2.2.1 res.2.2.2.2.2.2.2.1 res.2.2.2.2.2.2.2.2.1 res.2.2.2.2.2.2.2.2.2) H → va_D A (w_X11_look K g_t res.2.1 res.2.2.1 t_reached t_length t_begin t_sort t_value t_word t_wrongAt t_badAt t_bad t_read res.2.2.2.1 t_x res.2.2.2.2.1 res.2.2.2.2.2.1 res.2.2.2.2.2.2.1 res.2.2.2.2.2.2.2.1 res.2.2.2.2.2.2.2.2.1 res.2.2.2.2.2.2.2.2.2) → va_S A s.heap H locs → W p l e rmX11_look s m args below meth c H locs 0 0 Q (F0 m pc ls [.int res.1]))  :
    ∀ (t_raised : Int32) (t_undos : Int32) (t_pictured : Int32) (t_all : Nat → Int32) (t_undone : Nat → Int32) (t_loud : Nat → Int32) (t_picture : Nat → Int32) (t_took : Nat → Int32) (t_free : Nat → Int32) (H : Heap) (locs : List Loc) (ls : Array Slot), va_P D vwCl (w_X11_look K g_t t_raised t_undos t_reached t_length t_begin t_sort t_value t_word t_wrongAt t_badAt t_bad t_read t_pictured t_x t_all t_undone t_loud t_picture t_took t_free) H → va_D A (w_X11_look K g_t t_raised t_undos t_reached t_length t_begin t_sort t_value t_word t_wrongAt t_badAt t_bad t_read t_pictured t_x t_all t_undone t_loud t_picture t_took t_free) → va_S A s.heap H locs → lv_has ls 4 [(0, .ref (g_t 0))] → J_X11_look_102 t_raised t_undos t_pictured t_all t_undone t_loud t_picture t_took t_free = some res → W p l e rmX11_look s m args below meth c H locs 0 0 Q (F0 m 102 ls []) := by
  obtain ⟨⟨hx, hb, hml, hown, hts⟩, hK, -⟩ := id C0
  intro t_raised t_undos t_pictured t_all t_undone t_loud t_picture t_took t_free H locs ls hP hD hS hl hF
  unfold J_X11_look_102 at hF
  refine lv_aload_n hx hb dX11_look_102 rfl (lv_at hl 0 rfl) ?_
  obtain ⟨r_1, hc_2, hF⟩ := bn_some hF
  refine xc_v (wn := (w_X11_look K g_t t_raised t_undos t_reached t_length t_begin t_sort t_value t_word t_wrongAt t_badAt t_bad t_read r_1.1 t_x t_all t_undone r_1.2.1 r_1.2.2.1 r_1.2.2.2.1 r_1.2.2.2.2)) hP hD hS C0.2.2.1 [0, 1, 3, 4, 5, 6] [2] [1, 2, 0, 3, 4, 5, 6] rfl rfl (by decide) (by decide) rfl (by decide) (va_runV (As := []) (rest := []) C0.1 (c_X11_laysPicture l D K g_t t_raised t_undos t_reached t_length t_begin t_sort t_value t_word t_wrongAt t_badAt t_bad t_read t_pictured t_x t_all t_loud t_picture t_took t_free r_1 hc_2 H.size) (cwV 0 hts gX11_look_X11_laysPicture rfl rfl rfl (by decide +kernel) ⟨Nat.le_of_ble_eq_true rfl, Nat.le_of_ble_eq_true rfl⟩) (xp_V C0.2 hP hD hS [0, 1, 3, 4, 5, 6] rfl (by decide) 10 0 rfl rfl rfl) rfl rfl hl.1 rfl (lv_room (Nat.le_of_ble_eq_true rfl)) dX11_look_103 ⟨Nat.le_of_ble_eq_true rfl, Nat.le_of_ble_eq_true rfl⟩) (fun H locs hP hD hS => ?_)
  refine lv_bipush (v := 41) hx hb dX11_look_106 (by decide) ?_
  refine lv_bipush (v := 14) hx hb dX11_look_108 (by decide) ?_
  refine lv_aload_n hx hb dX11_look_110 rfl (lv_at hl 0 rfl) ?_
  refine va_get (D := D) (ci := 10) (v := .ref (g_t 2)) (C := RX11) (T := TX11) (N := 30) hx hb hts iw_X11_look_X11 hown hK hP 0 rfl rfl 1 (by decide) (hts _ fl_X11_look_7) (fun _ h9 => h9) rfl dX11_look_111 ?_
  refine lv_bipush (v := 40) hx hb dX11_look_114 (by decide) ?_
  refine xl_i (f := t_all) hx hb hK hP 1 0 rfl rfl (k := 40) (by decide) (in_v (by decide)) dX11_look_116 ?_
  refine lv_imul hx hb dX11_look_117 ?_
  refine lv_iadd hx hb dX11_look_118 ?_
  refine lv_istore_n (lv' := [(1, .int ((41 : Int32) + ((14 : Int32) * (t_all 40)))), (0, .ref (g_t 0))]) hx hb dX11_look_119 rfl hl (by decide) rfl (fun ls hl => ?_)
  refine lv_bipush (v := 12) hx hb dX11_look_120 (by decide) ?_
  refine lv_aload_n hx hb dX11_look_122 rfl (lv_at hl 1 rfl) ?_
  refine va_get (D := D) (ci := 10) (v := .int r_1.1) (C := RX11) (T := TX11) (N := 30) hx hb hts iw_X11_look_X11 hown hK hP 0 rfl rfl 20 (by decide) (hts _ fl_X11_look_206) (fun _ h9 => h9) rfl dX11_look_123 ?_
  obtain ⟨r_3, hc_4, hF⟩ := bn_some hF
  refine xc_i (wn := (w_X11_look K g_t t_raised t_undos t_reached t_length t_begin t_sort t_value t_word t_wrongAt t_badAt t_bad t_read r_1.1 t_x t_all t_undone r_1.2.1 r_1.2.2.1 r_1.2.2.2.1 r_1.2.2.2.2)) hP hD hS C0.2.2.1 [] [0, 1, 2, 3, 4, 5, 6] [0, 1, 2, 3, 4, 5, 6] rfl rfl (by decide) (by decide) rfl (by decide) (va_runS (As := [.int (12 : Int32), .int r_1.1]) (rest := []) C0.1 (c_X11_lesser l D K (12 : Int32) r_1.1 r_3 hc_4 H.size) (va_cwS 2 hts gX11_look_X11_lesser rfl rfl rfl (by decide +kernel) ⟨Nat.le_of_ble_eq_true rfl, Nat.le_of_ble_eq_true rfl⟩) (xp_S C0.2 hP hD hS [] rfl (by decide)) rfl rfl hl.1 rfl (lv_room (Nat.le_of_ble_eq_true rfl)) dX11_look_126 ⟨Nat.le_of_ble_eq_true rfl, Nat.le_of_ble_eq_true rfl⟩) (fun H locs hP hD hS => ?_)
  refine lv_istore_n (lv' := [(2, .int r_3), (1, .int ((41 : Int32) + ((14 : Int32) * (t_all 40)))), (0, .ref (g_t 0))]) hx hb dX11_look_129 rfl hl (by decide) rfl (fun ls hl => ?_)
  refine lv_aload_n hx hb dX11_look_130 rfl (lv_at hl 2 rfl) ?_
  refine va_get (D := D) (ci := 10) (v := .ref (g_t 2)) (C := RX11) (T := TX11) (N := 30) hx hb hts iw_X11_look_X11 hown hK hP 0 rfl rfl 1 (by decide) (hts _ fl_X11_look_7) (fun _ h9 => h9) rfl dX11_look_131 ?_
  refine lv_iload_n hx hb dX11_look_134 rfl (lv_at hl 1 rfl) ?_
  refine lv_aload_n hx hb dX11_look_135 rfl (lv_at hl 2 rfl) ?_
  refine va_get (D := D) (ci := 10) (v := .ref (g_t 2)) (C := RX11) (T := TX11) (N := 30) hx hb hts iw_X11_look_X11 hown hK hP 0 rfl rfl 1 (by decide) (hts _ fl_X11_look_7) (fun _ h9 => h9) rfl dX11_look_136 ?_
  refine lv_bipush (v := 38) hx hb dX11_look_139 (by decide) ?_
  refine xl_i (f := t_all) hx hb hK hP 1 0 rfl rfl (k := 38) (by decide) (in_v (by decide)) dX11_look_141 ?_
  obtain ⟨hg_5, hF⟩ := gd_some hF
  refine xs_i (f := t_all) hx hb hK hP hD hS 1 0 rfl rfl rfl (in_v hg_5) dX11_look_142 (fun H locs hP hD hS => ?_)
  have hP : va_P D vwCl (w_X11_look K g_t t_raised t_undos t_reached t_length t_begin t_sort t_value t_word t_wrongAt t_badAt t_bad t_read r_1.1 t_x (upd t_all ((41 : Int32) + ((14 : Int32) * (t_all 40))).toNatClampNeg (t_all 38)) t_undone r_1.2.1 r_1.2.2.1 r_1.2.2.2.1 r_1.2.2.2.2) H := hP
  have hD : va_D A (w_X11_look K g_t t_raised t_undos t_reached t_length t_begin t_sort t_value t_word t_wrongAt t_badAt t_bad t_read r_1.1 t_x (upd t_all ((41 : Int32) + ((14 : Int32) * (t_all 40))).toNatClampNeg (t_all 38)) t_undone r_1.2.1 r_1.2.2.1 r_1.2.2.2.1 r_1.2.2.2.2) := hD
  refine lv_aload_n hx hb dX11_look_143 rfl (lv_at hl 2 rfl) ?_
  refine va_get (D := D) (ci := 10) (v := .ref (g_t 2)) (C := RX11) (T := TX11) (N := 30) hx hb hts iw_X11_look_X11 hown hK hP 0 rfl rfl 1 (by decide) (hts _ fl_X11_look_7) (fun _ h9 => h9) rfl dX11_look_144 ?_
  refine lv_iload_n hx hb dX11_look_147 rfl (lv_at hl 1 rfl) ?_
  refine lv_iconst (v := 1) hx hb dX11_look_148 (by decide) ?_
  refine lv_iadd hx hb dX11_look_149 ?_
  refine lv_iload_n hx hb dX11_look_150 rfl (lv_at hl 0 rfl) ?_
  obtain ⟨hg_6, hF⟩ := gd_some hF
  refine xs_i (f := (upd t_all ((41 : Int32) + ((14 : Int32) * (t_all 40))).toNatClampNeg (t_all 38))) hx hb hK hP hD hS 1 0 rfl rfl rfl (in_v hg_6) dX11_look_151 (fun H locs hP hD hS => ?_)
  have hP : va_P D vwCl (w_X11_look K g_t t_raised t_undos t_reached t_length t_begin t_sort t_value t_word t_wrongAt t_badAt t_bad t_read r_1.1 t_x (upd (upd t_all ((41 : Int32) + ((14 : Int32) * (t_all 40))).toNatClampNeg (t_all 38)) (((41 : Int32) + ((14 : Int32) * (t_all 40))) + (1 : Int32)).toNatClampNeg r_3) t_undone r_1.2.1 r_1.2.2.1 r_1.2.2.2.1 r_1.2.2.2.2) H := hP
  have hD : va_D A (w_X11_look K g_t t_raised t_undos t_reached t_length t_begin t_sort t_value t_word t_wrongAt t_badAt t_bad t_read r_1.1 t_x (upd (upd t_all ((41 : Int32) + ((14 : Int32) * (t_all 40))).toNatClampNeg (t_all 38)) (((41 : Int32) + ((14 : Int32) * (t_all 40))) + (1 : Int32)).toNatClampNeg r_3) t_undone r_1.2.1 r_1.2.2.1 r_1.2.2.2.1 r_1.2.2.2.2) := hD
  refine lv_iconst (v := 0) hx hb dX11_look_152 (by decide) ?_
  refine lv_istore_n (lv' := [(3, .int (0 : Int32)), (2, .int r_3), (1, .int ((41 : Int32) + ((14 : Int32) * (t_all 40)))), (0, .ref (g_t 0))]) hx hb dX11_look_153 rfl hl (by decide) rfl (fun ls hl => ?_)
  exact w_X11_look_154 C0 HR fu_ t_raised t_undos r_1.1 (upd (upd t_all ((41 : Int32) + ((14 : Int32) * (t_all 40))).toNatClampNeg (t_all 38)) (((41 : Int32) + ((14 : Int32) * (t_all 40))) + (1 : Int32)).toNatClampNeg r_3) t_undone r_1.2.1 r_1.2.2.1 r_1.2.2.2.1 r_1.2.2.2.2 ((41 : Int32) + ((14 : Int32) * (t_all 40))) r_3 (0 : Int32) H locs ls hP hD hS (lv_sub hl [3, 2, 1, 0] rfl) hF
def J_X11_look_91 (t_raised : Int32) (t_undos : Int32) (t_pictured : Int32) (t_all : Nat → Int32) (t_undone : Nat → Int32) (t_loud : Nat → Int32) (t_picture : Nat → Int32) (t_took : Nat → Int32) (t_free : Nat → Int32) : Option (Int32 × Int32 × Int32 × Int32 × (Nat → Int32) × (Nat → Int32) × (Nat → Int32) × (Nat → Int32) × (Nat → Int32) × (Nat → Int32)) :=
  J_X11_look_102 t_raised t_undos t_pictured (upd t_all 40 ((t_all 40) - (1 : Int32))) t_undone t_loud t_picture t_took t_free
set_option maxHeartbeats 4000000 in
set_option maxRecDepth 100000 in
theorem w_X11_look_91 {p : Program} {l : Launch} {e : Env} {s : State} {m : MethodId} {args : Array Value} {below : List Frame} {meth : Method} {c : Code} {D : va_G} {K : Nat → ClassId} {A : Nat → Prop} {Q : State → Prop} (C0 : cx_ p s m args c cX11_look 4 RX11 wsX11_look D K A) {g_t : Nat → Nat} {t_reached : Int32} {t_length : Int32} {t_begin : Int32} {t_sort : Int32} {t_value : Int32} {t_word : Int64} {t_wrongAt : Int32} {t_badAt : Int32} {t_bad : Int32} {t_read : Int32} {t_x : Int32} {res : Int32 × Int32 × Int32 × Int32 × (Nat → Int32) × (Nat → Int32) × (Nat → Int32) × (Nat → Int32) × (Nat → Int32) × (Nat → Int32)} (HR : ∀ (pc : Nat) (H : Heap) (locs : List Loc) (ls : Array Slot), decode cX11_look pc = .ok (.ireturn, 1) → va_P D vwCl (w_X11_look K g_t res.2.1 res.2.2.1 t_reached t_length t_begin t_sort t_value t_word t_wrongAt t_badAt t_bad t_read res.2.2.2.1 t_x res.2.2.2.2.1 res.2.2.2.2.2.1 res.2.2.2.2.2.2.1 res.2.2.2.2.2.2.2.1 res.2.2.2.2.2.2.2.2.1 res.2.2.2.2.2.2.2.2.2) H → va_D A (w_X11_look K g_t res.2.1 res.2.2.1 t_reached t_length t_begin t_sort t_value t_word t_wrongAt t_badAt t_bad t_read res.2.2.2.1 t_x res.2.2.2.2.1 res.2.2.2.2.2.1 res.2.2.2.2.2.2.1 res.2.2.2.2.2.2.2.1 res.2.2.2.2.2.2.2.2.1 res.2.2.2.2.2.2.2.2.2) → va_S A s.heap H locs → W p l e rmX11_look s m args below meth c H locs 0 0 Q (F0 m pc ls [.int res.1]))  :
    ∀ (t_raised : Int32) (t_undos : Int32) (t_pictured : Int32) (t_all : Nat → Int32) (t_undone : Nat → Int32) (t_loud : Nat → Int32) (t_picture : Nat → Int32) (t_took : Nat → Int32) (t_free : Nat → Int32) (H : Heap) (locs : List Loc) (ls : Array Slot), va_P D vwCl (w_X11_look K g_t t_raised t_undos t_reached t_length t_begin t_sort t_value t_word t_wrongAt t_badAt t_bad t_read t_pictured t_x t_all t_undone t_loud t_picture t_took t_free) H → va_D A (w_X11_look K g_t t_raised t_undos t_reached t_length t_begin t_sort t_value t_word t_wrongAt t_badAt t_bad t_read t_pictured t_x t_all t_undone t_loud t_picture t_took t_free) → va_S A s.heap H locs → lv_has ls 4 [(0, .ref (g_t 0))] → J_X11_look_91 t_raised t_undos t_pictured t_all t_undone t_loud t_picture t_took t_free = some res → W p l e rmX11_look s m args below meth c H locs 0 0 Q (F0 m 91 ls []) := by
  obtain ⟨⟨hx, hb, hml, hown, hts⟩, hK, -⟩ := id C0
  intro t_raised t_undos t_pictured t_all t_undone t_loud t_picture t_took t_free H locs ls hP hD hS hl hF
  unfold J_X11_look_91 at hF
  refine lv_aload_n hx hb dX11_look_91 rfl (lv_at hl 0 rfl) ?_
  refine va_get (D := D) (ci := 10) (v := .ref (g_t 2)) (C := RX11) (T := TX11) (N := 30) hx hb hts iw_X11_look_X11 hown hK hP 0 rfl rfl 1 (by decide) (hts _ fl_X11_look_7) (fun _ h9 => h9) rfl dX11_look_92 ?_
  refine lv_bipush (v := 40) hx hb dX11_look_95 (by decide) ?_
  refine lv_dup2_11 hx hb dX11_look_97 rfl rfl ?_
  refine xl_i (f := t_all) hx hb hK hP 1 0 rfl rfl (k := 40) (by decide) (in_v (by decide)) dX11_look_98 ?_
  refine lv_iconst (v := 1) hx hb dX11_look_99 (by decide) ?_
  refine lv_isub hx hb dX11_look_100 ?_
  refine xs_i (f := t_all) hx hb hK hP hD hS 1 0 rfl rfl (k := 40) (by decide) (in_v (by decide)) dX11_look_101 (fun H locs hP hD hS => ?_)
  have hP : va_P D vwCl (w_X11_look K g_t t_raised t_undos t_reached t_length t_begin t_sort t_value t_word t_wrongAt t_badAt t_bad t_read t_pictured t_x (upd t_all 40 ((t_all 40) - (1 : Int32))) t_undone t_loud t_picture t_took t_free) H := hP
  have hD : va_D A (w_X11_look K g_t t_raised t_undos t_reached t_length t_begin t_sort t_value t_word t_wrongAt t_badAt t_bad t_read t_pictured t_x (upd t_all 40 ((t_all 40) - (1 : Int32))) t_undone t_loud t_picture t_took t_free) := hD
  exact w_X11_look_102 C0 HR t_raised t_undos t_pictured (upd t_all 40 ((t_all 40) - (1 : Int32))) t_undone t_loud t_picture t_took t_free H locs ls hP hD hS (lv_sub hl [0] rfl) hF
def L_X11_look_58  : Nat → Int32 → Int32 → Int32 → (Nat → Int32) → (Nat → Int32) → (Nat → Int32) → (Nat → Int32) → (Nat → Int32) → (Nat → Int32) → Int32 → Option (Int32 × Int32 × Int32 × Int32 × (Nat → Int32) × (Nat → Int32) × (Nat → Int32) × (Nat → Int32) × (Nat → Int32) × (Nat → Int32))
  | 0, _, _, _, _, _, _, _, _, _, _ => none
  | n_ + 1, t_raised, t_undos, t_pictured, t_all, t_undone, t_loud, t_picture, t_took, t_free, x1 =>
    if (42 : Int32) ≤ x1 then (J_X11_look_91 t_raised t_undos t_pictured t_all t_undone t_loud t_picture t_took t_free) else (gd_ (in_b (((41 : Int32) + x1) + (14 : Int32)) 500) (gd_ (in_b ((41 : Int32) + x1) 500) (L_X11_look_58 n_ t_raised t_undos t_pictured (upd t_all ((41 : Int32) + x1).toNatClampNeg (t_all (((41 : Int32) + x1) + (14 : Int32)).toNatClampNeg)) t_undone t_loud t_picture t_took t_free (x1 + (1 : Int32)))))
set_option maxHeartbeats 4000000 in
set_option maxRecDepth 100000 in
theorem w_X11_look_58 {p : Program} {l : Launch} {e : Env} {s : State} {m : MethodId} {args : Array Value} {below : List Frame} {meth : Method} {c : Code} {D : va_G} {K : Nat → ClassId} {A : Nat → Prop} {Q : State → Prop} (C0 : cx_ p s m args c cX11_look 4 RX11 wsX11_look D K A) {g_t : Nat → Nat} {t_reached : Int32} {t_length : Int32} {t_begin : Int32} {t_sort : Int32} {t_value : Int32} {t_word : Int64} {t_wrongAt : Int32} {t_badAt : Int32} {t_bad : Int32} {t_read : Int32} {t_x : Int32} {res : Int32 × Int32 × Int32 × Int32 × (Nat → Int32) × (Nat → Int32) × (Nat → Int32) × (Nat → Int32) × (Nat → Int32) × (Nat → Int32)} (HR : ∀ (pc : Nat) (H : Heap) (locs : List Loc) (ls : Array Slot), decode cX11_look pc = .ok (.ireturn, 1) → va_P D vwCl (w_X11_look K g_t res.2.1 res.2.2.1 t_reached t_length t_begin t_sort t_value t_word t_wrongAt t_badAt t_bad t_read res.2.2.2.1 t_x res.2.2.2.2.1 res.2.2.2.2.2.1 res.2.2.2.2.2.2.1 res.2.2.2.2.2.2.2.1 res.2.2.2.2.2.2.2.2.1 res.2.2.2.2.2.2.2.2.2) H → va_D A (w_X11_look K g_t res.2.1 res.2.2.1 t_reached t_length t_begin t_sort t_value t_word t_wrongAt t_badAt t_bad t_read res.2.2.2.1 t_x res.2.2.2.2.1 res.2.2.2.2.2.1 res.2.2.2.2.2.2.1 res.2.2.2.2.2.2.2.1 res.2.2.2.2.2.2.2.2.1 res.2.2.2.2.2.2.2.2.2) → va_S A s.heap H locs → W p l e rmX11_look s m args below meth c H locs 0 0 Q (F0 m pc ls [.int res.1]))  :
    ∀ (n_ : Nat) (t_raised : Int32) (t_undos : Int32) (t_pictured : Int32) (t_all : Nat → Int32) (t_undone : Nat → Int32) (t_loud : Nat → Int32) (t_picture : Nat → Int32) (t_took : Nat → Int32) (t_free : Nat → Int32) (x1 : Int32) (H : Heap) (locs : List Loc) (ls : Array Slot), va_P D vwCl (w_X11_look K g_t t_raised t_undos t_reached t_length t_begin t_sort t_value t_word t_wrongAt t_badAt t_bad t_read t_pictured t_x t_all t_undone t_loud t_picture t_took t_free) H → va_D A (w_X11_look K g_t t_raised t_undos t_reached t_length t_begin t_sort t_value t_word t_wrongAt t_badAt t_bad t_read t_pictured t_x t_all t_undone t_loud t_picture t_took t_free) → va_S A s.heap H locs → lv_has ls 4 [(0, .ref (g_t 0)), (1, .int x1)] → L_X11_look_58 n_ t_raised t_undos t_pictured t_all t_undone t_loud t_picture t_took t_free x1 = some res → W p l e rmX11_look s m args below meth c H locs 0 0 Q (F0 m 58 ls []) := by
  obtain ⟨⟨hx, hb, hml, hown, hts⟩, hK, -⟩ := id C0
  intro n_
  induction n_ with
  | zero =>
    intro t_raised t_undos t_pictured t_all t_undone t_loud t_picture t_took t_free x1 H locs ls hP hD hS hl hF
    exact no_s (show (none : Option (Int32 × Int32 × Int32 × Int32 × (Nat → Int32) × (Nat → Int32) × (Nat → Int32) × (Nat → Int32) × (Nat → Int32) × (Nat → Int32))) = some res from hF)
  | succ n_ ih =>
    intro t_raised t_undos t_pictured t_all t_undone t_loud t_picture t_took t_free x1 H locs ls hP hD hS hl hF
    rw [L_X11_look_58] at hF
    refine lv_iload_n hx hb dX11_look_58 rfl (lv_at hl 1 rfl) ?_
    refine lv_bipush (v := 42) hx hb dX11_look_59 (by decide) ?_
    refine lv_icmp_ge (tgt := 91) hx hb dX11_look_61 (by decide) (fun c_1 => ?_) (fun c_1 => ?_)
    · have hF := it_pos c_1 hF
      exact w_X11_look_91 C0 HR t_raised t_undos t_pictured t_all t_undone t_loud t_picture t_took t_free H locs ls hP hD hS (lv_sub hl [0] rfl) hF
    · have hF := it_neg c_1 hF
      refine lv_aload_n hx hb dX11_look_64 rfl (lv_at hl 0 rfl) ?_
      refine va_get (D := D) (ci := 10) (v := .ref (g_t 2)) (C := RX11) (T := TX11) (N := 30) hx hb hts iw_X11_look_X11 hown hK hP 0 rfl rfl 1 (by decide) (hts _ fl_X11_look_7) (fun _ h9 => h9) rfl dX11_look_65 ?_
      refine lv_bipush (v := 41) hx hb dX11_look_68 (by decide) ?_
      refine lv_iload_n hx hb dX11_look_70 rfl (lv_at hl 1 rfl) ?_
      refine lv_iadd hx hb dX11_look_71 ?_
      refine lv_aload_n hx hb dX11_look_72 rfl (lv_at hl 0 rfl) ?_
      refine va_get (D := D) (ci := 10) (v := .ref (g_t 2)) (C := RX11) (T := TX11) (N := 30) hx hb hts iw_X11_look_X11 hown hK hP 0 rfl rfl 1 (by decide) (hts _ fl_X11_look_7) (fun _ h9 => h9) rfl dX11_look_73 ?_
      refine lv_bipush (v := 41) hx hb dX11_look_76 (by decide) ?_
      refine lv_iload_n hx hb dX11_look_78 rfl (lv_at hl 1 rfl) ?_
      refine lv_iadd hx hb dX11_look_79 ?_
      refine lv_bipush (v := 14) hx hb dX11_look_80 (by decide) ?_
      refine lv_iadd hx hb dX11_look_82 ?_
      obtain ⟨hg_2, hF⟩ := gd_some hF
      refine xl_i (f := t_all) hx hb hK hP 1 0 rfl rfl rfl (in_v hg_2) dX11_look_83 ?_
      obtain ⟨hg_3, hF⟩ := gd_some hF
      refine xs_i (f := t_all) hx hb hK hP hD hS 1 0 rfl rfl rfl (in_v hg_3) dX11_look_84 (fun H locs hP hD hS => ?_)
      have hP : va_P D vwCl (w_X11_look K g_t t_raised t_undos t_reached t_length t_begin t_sort t_value t_word t_wrongAt t_badAt t_bad t_read t_pictured t_x (upd t_all ((41 : Int32) + x1).toNatClampNeg (t_all (((41 : Int32) + x1) + (14 : Int32)).toNatClampNeg)) t_undone t_loud t_picture t_took t_free) H := hP
      have hD : va_D A (w_X11_look K g_t t_raised t_undos t_reached t_length t_begin t_sort t_value t_word t_wrongAt t_badAt t_bad t_read t_pictured t_x (upd t_all ((41 : Int32) + x1).toNatClampNeg (t_all (((41 : Int32) + x1) + (14 : Int32)).toNatClampNeg)) t_undone t_loud t_picture t_took t_free) := hD
      refine lv_iinc (v := (x1 + (1 : Int32))) (lv' := [(1, .int (x1 + (1 : Int32))), (0, .ref (g_t 0))]) hx hb dX11_look_85 hl (k := 1) rfl (congrArg (fun z => x1 + z) (by decide)) (by decide) rfl (fun ls hl => ?_)
      refine lv_goto (tgt := 58) hx hb dX11_look_88 (by decide) ?_
      exact ih t_raised t_undos t_pictured (upd t_all ((41 : Int32) + x1).toNatClampNeg (t_all (((41 : Int32) + x1) + (14 : Int32)).toNatClampNeg)) t_undone t_loud t_picture t_took t_free (x1 + (1 : Int32)) H locs ls hP hD hS (lv_sub hl [1, 0] rfl) hF
def J_X11_look_41 (t_raised : Int32) (t_undos : Int32) (t_pictured : Int32) (t_all : Nat → Int32) (t_undone : Nat → Int32) (t_loud : Nat → Int32) (t_picture : Nat → Int32) (t_took : Nat → Int32) (t_free : Nat → Int32) : Option (Int32 × Int32 × Int32 × Int32 × (Nat → Int32) × (Nat → Int32) × (Nat → Int32) × (Nat → Int32) × (Nat → Int32) × (Nat → Int32)) :=
  (F_X11_keeps t_undos t_all t_undone).bind fun r_1 => (if (t_all 40) = (4 : Int32) then (L_X11_look_58 fu_ t_raised r_1.1 t_pictured t_all r_1.2 t_loud t_picture t_took t_free (0 : Int32)) else (J_X11_look_102 t_raised r_1.1 t_pictured t_all r_1.2 t_loud t_picture t_took t_free))
set_option maxHeartbeats 4000000 in
set_option maxRecDepth 100000 in
theorem w_X11_look_41 {p : Program} {l : Launch} {e : Env} {s : State} {m : MethodId} {args : Array Value} {below : List Frame} {meth : Method} {c : Code} {D : va_G} {K : Nat → ClassId} {A : Nat → Prop} {Q : State → Prop} (C0 : cx_ p s m args c cX11_look 4 RX11 wsX11_look D K A) {g_t : Nat → Nat} {t_reached : Int32} {t_length : Int32} {t_begin : Int32} {t_sort : Int32} {t_value : Int32} {t_word : Int64} {t_wrongAt : Int32} {t_badAt : Int32} {t_bad : Int32} {t_read : Int32} {t_x : Int32} {res : Int32 × Int32 × Int32 × Int32 × (Nat → Int32) × (Nat → Int32) × (Nat → Int32) × (Nat → Int32) × (Nat → Int32) × (Nat → Int32)} (HR : ∀ (pc : Nat) (H : Heap) (locs : List Loc) (ls : Array Slot), decode cX11_look pc = .ok (.ireturn, 1) → va_P D vwCl (w_X11_look K g_t res.2.1 res.2.2.1 t_reached t_length t_begin t_sort t_value t_word t_wrongAt t_badAt t_bad t_read res.2.2.2.1 t_x res.2.2.2.2.1 res.2.2.2.2.2.1 res.2.2.2.2.2.2.1 res.2.2.2.2.2.2.2.1 res.2.2.2.2.2.2.2.2.1 res.2.2.2.2.2.2.2.2.2) H → va_D A (w_X11_look K g_t res.2.1 res.2.2.1 t_reached t_length t_begin t_sort t_value t_word t_wrongAt t_badAt t_bad t_read res.2.2.2.1 t_x res.2.2.2.2.1 res.2.2.2.2.2.1 res.2.2.2.2.2.2.1 res.2.2.2.2.2.2.2.1 res.2.2.2.2.2.2.2.2.1 res.2.2.2.2.2.2.2.2.2) → va_S A s.heap H locs → W p l e rmX11_look s m args below meth c H locs 0 0 Q (F0 m pc ls [.int res.1]))  :
    ∀ (t_raised : Int32) (t_undos : Int32) (t_pictured : Int32) (t_all : Nat → Int32) (t_undone : Nat → Int32) (t_loud : Nat → Int32) (t_picture : Nat → Int32) (t_took : Nat → Int32) (t_free : Nat → Int32) (H : Heap) (locs : List Loc) (ls : Array Slot), va_P D vwCl (w_X11_look K g_t t_raised t_undos t_reached t_length t_begin t_sort t_value t_word t_wrongAt t_badAt t_bad t_read t_pictured t_x t_all t_undone t_loud t_picture t_took t_free) H → va_D A (w_X11_look K g_t t_raised t_undos t_reached t_length t_begin t_sort t_value t_word t_wrongAt t_badAt t_bad t_read t_pictured t_x t_all t_undone t_loud t_picture t_took t_free) → va_S A s.heap H locs → lv_has ls 4 [(0, .ref (g_t 0))] → J_X11_look_41 t_raised t_undos t_pictured t_all t_undone t_loud t_picture t_took t_free = some res → W p l e rmX11_look s m args below meth c H locs 0 0 Q (F0 m 41 ls []) := by
  obtain ⟨⟨hx, hb, hml, hown, hts⟩, hK, -⟩ := id C0
  intro t_raised t_undos t_pictured t_all t_undone t_loud t_picture t_took t_free H locs ls hP hD hS hl hF
  unfold J_X11_look_41 at hF
  refine lv_aload_n hx hb dX11_look_41 rfl (lv_at hl 0 rfl) ?_
  obtain ⟨r_1, hc_2, hF⟩ := bn_some hF
  refine xc_v (wn := (w_X11_look K g_t t_raised r_1.1 t_reached t_length t_begin t_sort t_value t_word t_wrongAt t_badAt t_bad t_read t_pictured t_x t_all r_1.2 t_loud t_picture t_took t_free)) hP hD hS C0.2.2.1 [0, 1, 2] [3, 4, 5, 6] [4, 5, 6, 0, 1, 2, 3] rfl rfl (by decide) (by decide) rfl (by decide) (va_runV (As := []) (rest := []) C0.1 (c_X11_keeps l D K g_t t_raised t_undos t_reached t_length t_begin t_sort t_value t_word t_wrongAt t_badAt t_bad t_read t_pictured t_x t_all t_undone r_1 hc_2 H.size) (cwV 0 hts gX11_look_X11_keeps rfl rfl rfl (by decide +kernel) ⟨Nat.le_of_ble_eq_true rfl, Nat.le_of_ble_eq_true rfl⟩) (xp_V C0.2 hP hD hS [0, 1, 2] rfl (by decide) 10 0 rfl rfl rfl) rfl rfl hl.1 rfl (lv_room (Nat.le_of_ble_eq_true rfl)) dX11_look_42 ⟨Nat.le_of_ble_eq_true rfl, Nat.le_of_ble_eq_true rfl⟩) (fun H locs hP hD hS => ?_)
  refine lv_aload_n hx hb dX11_look_45 rfl (lv_at hl 0 rfl) ?_
  refine va_get (D := D) (ci := 10) (v := .ref (g_t 2)) (C := RX11) (T := TX11) (N := 30) hx hb hts iw_X11_look_X11 hown hK hP 0 rfl rfl 1 (by decide) (hts _ fl_X11_look_7) (fun _ h9 => h9) rfl dX11_look_46 ?_
  refine lv_bipush (v := 40) hx hb dX11_look_49 (by decide) ?_
  refine xl_i (f := t_all) hx hb hK hP 1 0 rfl rfl (k := 40) (by decide) (in_v (by decide)) dX11_look_51 ?_
  refine lv_iconst (v := 4) hx hb dX11_look_52 (by decide) ?_
  refine lv_icmp_ne (tgt := 102) hx hb dX11_look_53 (by decide) (fun c_3 => ?_) (fun c_3 => ?_)
  · have hF := it_neg c_3 hF
    exact w_X11_look_102 C0 HR t_raised r_1.1 t_pictured t_all r_1.2 t_loud t_picture t_took t_free H locs ls hP hD hS (lv_sub hl [0] rfl) hF
  · have hF := it_pos c_3 hF
    refine lv_iconst (v := 0) hx hb dX11_look_56 (by decide) ?_
    refine lv_istore_n (lv' := [(1, .int (0 : Int32)), (0, .ref (g_t 0))]) hx hb dX11_look_57 rfl hl (by decide) rfl (fun ls hl => ?_)
    exact w_X11_look_58 C0 HR fu_ t_raised r_1.1 t_pictured t_all r_1.2 t_loud t_picture t_took t_free (0 : Int32) H locs ls hP hD hS (lv_sub hl [1, 0] rfl) hF
def F_X11_look (t_raised : Int32) (t_undos : Int32) (t_pictured : Int32) (t_all : Nat → Int32) (t_undone : Nat → Int32) (t_loud : Nat → Int32) (t_picture : Nat → Int32) (t_took : Nat → Int32) (t_free : Nat → Int32) : Option (Int32 × Int32 × Int32 × Int32 × (Nat → Int32) × (Nat → Int32) × (Nat → Int32) × (Nat → Int32) × (Nat → Int32) × (Nat → Int32)) :=
  if (t_all 40) ≤ (0 : Int32) then (J_X11_look_41 (0 : Int32) t_undos t_pictured t_all t_undone t_loud t_picture t_took t_free) else ((F_X11_lookAt t_all ((t_all 40) - (1 : Int32)) (0 : Int32)).bind fun r_2 => (if r_2 = (t_all 38) then (some ((-1 : Int32), (0 : Int32), t_undos, t_pictured, t_all, t_undone, t_loud, t_picture, t_took, t_free)) else (J_X11_look_41 (0 : Int32) t_undos t_pictured t_all t_undone t_loud t_picture t_took t_free)))
set_option maxHeartbeats 4000000 in
set_option maxRecDepth 100000 in
theorem c_X11_look (l : Launch) (D : va_G) (K : Nat → ClassId) (g_t : Nat → Nat) (t_raised : Int32) (t_undos : Int32) (t_reached : Int32) (t_length : Int32) (t_begin : Int32) (t_sort : Int32) (t_value : Int32) (t_word : Int64) (t_wrongAt : Int32) (t_badAt : Int32) (t_bad : Int32) (t_read : Int32) (t_pictured : Int32) (t_x : Int32) (t_all : Nat → Int32) (t_undone : Nat → Int32) (t_loud : Nat → Int32) (t_picture : Nat → Int32) (t_took : Nat → Int32) (t_free : Nat → Int32) (res : Int32 × Int32 × Int32 × Int32 × (Nat → Int32) × (Nat → Int32) × (Nat → Int32) × (Nat → Int32) × (Nat → Int32) × (Nat → Int32)) (hF : F_X11_look t_raised t_undos t_pictured t_all t_undone t_loud t_picture t_took t_free = some res) :
    Mi_ l yX11_look wsX11_look rmX11_look D K [.ref (g_t 0)] (w_X11_look K g_t t_raised t_undos t_reached t_length t_begin t_sort t_value t_word t_wrongAt t_badAt t_bad t_read t_pictured t_x t_all t_undone t_loud t_picture t_took t_free) (w_X11_look K g_t res.2.1 res.2.2.1 t_reached t_length t_begin t_sort t_value t_word t_wrongAt t_badAt t_bad t_read res.2.2.2.1 t_x res.2.2.2.2.1 res.2.2.2.2.2.1 res.2.2.2.2.2.2.1 res.2.2.2.2.2.2.2.1 res.2.2.2.2.2.2.2.2.1 res.2.2.2.2.2.2.2.2.2) (res.1) := by
  refine en_i (cc := cX11_look) (maxL := 4) (own := RX11) (by decide) rfl rfl (Nat.le_of_ble_eq_true rfl) ?_
  intro p e s m args below meth c A Q H locs ls C0 hP hD hS hl HR
  obtain ⟨⟨hx, hb, hml, hown, hts⟩, hK, -⟩ := id C0
  have hl : lv_has ls 4 [(0, .ref (g_t 0))] := hl
  unfold F_X11_look at hF
  refine lv_aload_n hx hb dX11_look_0 rfl (lv_at hl 0 rfl) ?_
  refine lv_iconst (v := 0) hx hb dX11_look_1 (by decide) ?_
  refine va_put (D := D) (ci := 10) (v := .int (0 : Int32)) (ty := .int) (C := RX11) (T := TX11) (N := 30) hx hb hts iw_X11_look_X11 tyX11 tyX11_ok nmX11 hown hK hP hD hS 0 rfl rfl 0 (by decide) (hts _ fl_X11_look_66) (fun _ h9 => h9) rfl (by decide +kernel) rfl rfl (Nat.le_of_ble_eq_true rfl) dX11_look_2 (fun H locs hP hD hS => ?_)
  have hP : va_P D vwCl (w_X11_look K g_t (0 : Int32) t_undos t_reached t_length t_begin t_sort t_value t_word t_wrongAt t_badAt t_bad t_read t_pictured t_x t_all t_undone t_loud t_picture t_took t_free) H := hP
  have hD : va_D A (w_X11_look K g_t (0 : Int32) t_undos t_reached t_length t_begin t_sort t_value t_word t_wrongAt t_badAt t_bad t_read t_pictured t_x t_all t_undone t_loud t_picture t_took t_free) := hD
  refine lv_aload_n hx hb dX11_look_5 rfl (lv_at hl 0 rfl) ?_
  refine va_get (D := D) (ci := 10) (v := .ref (g_t 2)) (C := RX11) (T := TX11) (N := 30) hx hb hts iw_X11_look_X11 hown hK hP 0 rfl rfl 1 (by decide) (hts _ fl_X11_look_7) (fun _ h9 => h9) rfl dX11_look_6 ?_
  refine lv_bipush (v := 40) hx hb dX11_look_9 (by decide) ?_
  refine xl_i (f := t_all) hx hb hK hP 1 0 rfl rfl (k := 40) (by decide) (in_v (by decide)) dX11_look_11 ?_
  refine lv_if_le (tgt := 41) hx hb dX11_look_12 (by decide) (fun c_1 => ?_) (fun c_1 => ?_)
  · have hF := it_pos c_1 hF
    exact w_X11_look_41 C0 HR (0 : Int32) t_undos t_pictured t_all t_undone t_loud t_picture t_took t_free H locs ls hP hD hS (lv_sub hl [0] rfl) hF
  · have hF := it_neg c_1 hF
    refine lv_aload_n hx hb dX11_look_15 rfl (lv_at hl 0 rfl) ?_
    refine lv_aload_n hx hb dX11_look_16 rfl (lv_at hl 0 rfl) ?_
    refine va_get (D := D) (ci := 10) (v := .ref (g_t 2)) (C := RX11) (T := TX11) (N := 30) hx hb hts iw_X11_look_X11 hown hK hP 0 rfl rfl 1 (by decide) (hts _ fl_X11_look_7) (fun _ h9 => h9) rfl dX11_look_17 ?_
    refine lv_bipush (v := 40) hx hb dX11_look_20 (by decide) ?_
    refine xl_i (f := t_all) hx hb hK hP 1 0 rfl rfl (k := 40) (by decide) (in_v (by decide)) dX11_look_22 ?_
    refine lv_iconst (v := 1) hx hb dX11_look_23 (by decide) ?_
    refine lv_isub hx hb dX11_look_24 ?_
    refine lv_iconst (v := 0) hx hb dX11_look_25 (by decide) ?_
    obtain ⟨r_2, hc_3, hF⟩ := bn_some hF
    refine xc_i (wn := (w_X11_look K g_t (0 : Int32) t_undos t_reached t_length t_begin t_sort t_value t_word t_wrongAt t_badAt t_bad t_read t_pictured t_x t_all t_undone t_loud t_picture t_took t_free)) hP hD hS C0.2.2.1 [0, 1] [2, 3, 4, 5, 6] [5, 6, 0, 1, 2, 3, 4] rfl rfl (by decide) (by decide) rfl (by decide) (va_runV (As := [.int ((t_all 40) - (1 : Int32)), .int (0 : Int32)]) (rest := []) C0.1 (c_X11_lookAt l D K g_t (0 : Int32) t_undos t_reached t_length t_begin t_sort t_value t_word t_wrongAt t_badAt t_bad t_read t_pictured t_x t_all ((t_all 40) - (1 : Int32)) (0 : Int32) r_2 hc_3 H.size) (cwV 2 hts gX11_look_X11_lookAt rfl rfl rfl (by decide +kernel) ⟨Nat.le_of_ble_eq_true rfl, Nat.le_of_ble_eq_true rfl⟩) (xp_V C0.2 hP hD hS [0, 1] rfl (by decide) 10 0 rfl rfl rfl) rfl rfl hl.1 rfl (lv_room (Nat.le_of_ble_eq_true rfl)) dX11_look_26 ⟨Nat.le_of_ble_eq_true rfl, Nat.le_of_ble_eq_true rfl⟩) (fun H locs hP hD hS => ?_)
    refine lv_aload_n hx hb dX11_look_29 rfl (lv_at hl 0 rfl) ?_
    refine va_get (D := D) (ci := 10) (v := .ref (g_t 2)) (C := RX11) (T := TX11) (N := 30) hx hb hts iw_X11_look_X11 hown hK hP 0 rfl rfl 1 (by decide) (hts _ fl_X11_look_7) (fun _ h9 => h9) rfl dX11_look_30 ?_
    refine lv_bipush (v := 38) hx hb dX11_look_33 (by decide) ?_
    refine xl_i (f := t_all) hx hb hK hP 1 0 rfl rfl (k := 38) (by decide) (in_v (by decide)) dX11_look_35 ?_
    refine lv_icmp_ne (tgt := 41) hx hb dX11_look_36 (by decide) (fun c_4 => ?_) (fun c_4 => ?_)
    · have hF := it_neg c_4 hF
      exact w_X11_look_41 C0 HR (0 : Int32) t_undos t_pictured t_all t_undone t_loud t_picture t_took t_free H locs ls hP hD hS (lv_sub hl [0] rfl) hF
    · have hF := it_pos c_4 hF
      refine lv_iconst (v := (-1)) hx hb dX11_look_39 (by decide) ?_
      obtain rfl := Option.some.inj hF
      exact HR 40 H locs ls dX11_look_40 hP hD hS

/-! StaggerRadarModel.makers(I)I -/
abbrev rmX11_makers : Room := { frames := 4, cells := 0, slots := 0, locals := 89 }
theorem fl_X11_makers_7 : Cond.fieldLink RX11 7 "StaggerRadarModel" "all" "[I" ∈ wsX11_makers := by decide +kernel
theorem fl_X11_makers_66 : Cond.fieldLink RX11 66 "StaggerRadarModel" "raised" "I" ∈ wsX11_makers := by decide +kernel
theorem iw_X11_makers_X11 : ∀ w ∈ u_ws RX11 TX11 30, w ∈ wsX11_makers := by decide +kernel
abbrev w_X11_makers (K : Nat → ClassId) (g_t : Nat → Nat) (t_raised : Int32) (t_undos : Int32) (t_reached : Int32) (t_length : Int32) (t_begin : Int32) (t_sort : Int32) (t_value : Int32) (t_word : Int64) (t_wrongAt : Int32) (t_badAt : Int32) (t_bad : Int32) (t_read : Int32) (t_pictured : Int32) (t_x : Int32) (t_all : Nat → Int32) (t_loud : Nat → Int32) : va_W := [((g_t 0), .inr (10, [.int t_raised, .ref (g_t 2), .ref (g_t 3), .ref (g_t 4), .ref (g_t 5), .int t_undos, .int t_reached, .int t_length, .int t_begin, .int t_sort, .int t_value, .long t_word, .int t_wrongAt, .int t_badAt, .int t_bad, .ref (g_t 16), .int t_read, .ref (g_t 18), .ref (g_t 19), .ref (g_t 20), .int t_pictured, .ref (g_t 22), .ref (g_t 23), .ref (g_t 24), .ref (g_t 25), .ref (g_t 26), .int t_x, .ref (g_t 28), .ref (g_t 29), .ref (g_t 30)])), ((g_t 2), .inl (K 0, 500, .inl t_all)), ((g_t 18), .inl (K 0, 300, .inl t_loud))]
def L_X11_makers_48 (t_all : Nat → Int32) (k_26 : Int32 → (Nat → Int32) → Int32 → Int32 → Int32 → Option (Int32 × Int32 × (Nat → Int32))) : Nat → Int32 → (Nat → Int32) → Int32 → Int32 → Int32 → Int32 → Int32 → Option (Int32 × Int32 × (Nat → Int32))
  | 0, _, _, _, _, _, _, _ => none
  | n_ + 1, t_raised, t_loud, x1, x2, x3, x4, x5 =>
    if (t_all 13) ≤ x5 then (k_26 t_raised t_loud x1 x2 (x3 + (1 : Int32))) else ((F_X11_isEcho t_all t_loud x3 x4).bind fun r_2 => (if r_2 = (0 : Int32) then (k_26 t_raised t_loud x1 x2 (x3 + (1 : Int32))) else ((F_X11_isSeen t_all x5 x3).bind fun r_5 => (if r_5 = (0 : Int32) then (L_X11_makers_48 t_all k_26 n_ t_raised t_loud x1 (x2 ||| (0 : Int32)) x3 x4 (x5 + (1 : Int32))) else ((F_X11_rangeOf t_all x5).bind fun r_8 => ((F_X11_gapAt t_all x3).bind fun r_10 => (gd_ (decide (¬ r_10 = 0)) (if (r_8 - r_8 / r_10 * r_10) = x4 then (L_X11_makers_48 t_all k_26 n_ t_raised t_loud x1 (x2 ||| ((1 : Int32) <<< (x5 &&& 31))) x3 x4 (x5 + (1 : Int32))) else (L_X11_makers_48 t_all k_26 n_ t_raised t_loud x1 (x2 ||| (0 : Int32)) x3 x4 (x5 + (1 : Int32)))))))))))
set_option maxHeartbeats 4000000 in
set_option maxRecDepth 100000 in
theorem w_X11_makers_48 {p : Program} {l : Launch} {e : Env} {s : State} {m : MethodId} {args : Array Value} {below : List Frame} {meth : Method} {c : Code} {D : va_G} {K : Nat → ClassId} {A : Nat → Prop} {Q : State → Prop} (C0 : cx_ p s m args c cX11_makers 6 RX11 wsX11_makers D K A) {g_t : Nat → Nat} {t_undos : Int32} {t_reached : Int32} {t_length : Int32} {t_begin : Int32} {t_sort : Int32} {t_value : Int32} {t_word : Int64} {t_wrongAt : Int32} {t_badAt : Int32} {t_bad : Int32} {t_read : Int32} {t_pictured : Int32} {t_x : Int32} {t_all : Nat → Int32} {res : Int32 × Int32 × (Nat → Int32)} (HR : ∀ (pc : Nat) (H : Heap) (locs : List Loc) (ls : Array Slot), decode cX11_makers pc = .ok (.ireturn, 1) → va_P D vwCl (w_X11_makers K g_t res.2.1 t_undos t_reached t_length t_begin t_sort t_value t_word t_wrongAt t_badAt t_bad t_read t_pictured t_x t_all res.2.2) H → va_D A (w_X11_makers K g_t res.2.1 t_undos t_reached t_length t_begin t_sort t_value t_word t_wrongAt t_badAt t_bad t_read t_pictured t_x t_all res.2.2) → va_S A s.heap H locs → W p l e rmX11_makers s m args below meth c H locs 0 0 Q (F0 m pc ls [.int res.1])) {k_26 : Int32 → (Nat → Int32) → Int32 → Int32 → Int32 → Option (Int32 × Int32 × (Nat → Int32))} (HK_26 : ∀ (t_raised : Int32) (t_loud : Nat → Int32) (x1 : Int32) (x2 : Int32) (x3 : Int32) (H : Heap) (locs : List Loc) (ls : Array Slot), va_P D vwCl (w_X11_makers K g_t t_raised t_undos t_reached t_length t_begin t_sort t_value t_word t_wrongAt t_badAt t_bad t_read t_pictured t_x t_all t_loud) H → va_D A (w_X11_makers K g_t t_raised t_undos t_reached t_length t_begin t_sort t_value t_word t_wrongAt t_badAt t_bad t_read t_pictured t_x t_all t_loud) → va_S A s.heap H locs → lv_has ls 6 [(0, .ref (g_t 0)), (1, .int x1), (2, .int x2), (3, .int x3)] → k_26 t_raised t_loud x1 x2 x3 = some res → W p l e rmX11_makers s m args below meth c H locs 0 0 Q (F0 m 26 ls [])) :
    ∀ (n_ : Nat) (t_raised : Int32) (t_loud : Nat → Int32) (x1 : Int32) (x2 : Int32) (x3 : Int32) (x4 : Int32) (x5 : Int32) (H : Heap) (locs : List Loc) (ls : Array Slot), va_P D vwCl (w_X11_makers K g_t t_raised t_undos t_reached t_length t_begin t_sort t_value t_word t_wrongAt t_badAt t_bad t_read t_pictured t_x t_all t_loud) H → va_D A (w_X11_makers K g_t t_raised t_undos t_reached t_length t_begin t_sort t_value t_word t_wrongAt t_badAt t_bad t_read t_pictured t_x t_all t_loud) → va_S A s.heap H locs → lv_has ls 6 [(0, .ref (g_t 0)), (1, .int x1), (2, .int x2), (3, .int x3), (4, .int x4), (5, .int x5)] → L_X11_makers_48 t_all k_26 n_ t_raised t_loud x1 x2 x3 x4 x5 = some res → W p l e rmX11_makers s m args below meth c H locs 0 0 Q (F0 m 48 ls []) := by
  obtain ⟨⟨hx, hb, hml, hown, hts⟩, hK, -⟩ := id C0
  intro n_
  induction n_ with
  | zero =>
    intro t_raised t_loud x1 x2 x3 x4 x5 H locs ls hP hD hS hl hF
    exact no_s (show (none : Option (Int32 × Int32 × (Nat → Int32))) = some res from hF)
  | succ n_ ih =>
    intro t_raised t_loud x1 x2 x3 x4 x5 H locs ls hP hD hS hl hF
    rw [L_X11_makers_48] at hF
    refine lv_iload hx hb dX11_makers_48 (lv_at hl 5 rfl) ?_
    refine lv_aload_n hx hb dX11_makers_50 rfl (lv_at hl 0 rfl) ?_
    refine va_get (D := D) (ci := 10) (v := .ref (g_t 2)) (C := RX11) (T := TX11) (N := 30) hx hb hts iw_X11_makers_X11 hown hK hP 0 rfl rfl 1 (by decide) (hts _ fl_X11_makers_7) (fun _ h9 => h9) rfl dX11_makers_51 ?_
    refine lv_bipush (v := 13) hx hb dX11_makers_54 (by decide) ?_
    refine xl_i (f := t_all) hx hb hK hP 1 0 rfl rfl (k := 13) (by decide) (in_v (by decide)) dX11_makers_56 ?_
    refine lv_icmp_ge (tgt := 114) hx hb dX11_makers_57 (by decide) (fun c_1 => ?_) (fun c_1 => ?_)
    · have hF := it_pos c_1 hF
      refine lv_iinc (v := (x3 + (1 : Int32))) (lv' := [(3, .int (x3 + (1 : Int32))), (0, .ref (g_t 0)), (1, .int x1), (2, .int x2), (4, .int x4), (5, .int x5)]) hx hb dX11_makers_114 hl (k := 3) rfl (congrArg (fun z => x3 + z) (by decide)) (by decide) rfl (fun ls hl => ?_)
      refine lv_goto (tgt := 26) hx hb dX11_makers_117 (by decide) ?_
      exact HK_26 t_raised t_loud x1 x2 (x3 + (1 : Int32)) H locs ls hP hD hS (lv_sub hl [1, 2, 3, 0] rfl) hF
    · have hF := it_neg c_1 hF
      refine lv_aload_n hx hb dX11_makers_60 rfl (lv_at hl 0 rfl) ?_
      refine lv_iload_n hx hb dX11_makers_61 rfl (lv_at hl 3 rfl) ?_
      refine lv_iload hx hb dX11_makers_62 (lv_at hl 4 rfl) ?_
      obtain ⟨r_2, hc_3, hF⟩ := bn_some hF
      refine xc_i (wn := (w_X11_makers K g_t t_raised t_undos t_reached t_length t_begin t_sort t_value t_word t_wrongAt t_badAt t_bad t_read t_pictured t_x t_all t_loud)) hP hD hS C0.2.2.1 [0, 1, 2] [] [0, 1, 2] rfl rfl (by decide) (by decide) rfl (by decide) (va_runV (As := [.int x3, .int x4]) (rest := []) C0.1 (c_X11_isEcho l D K g_t t_raised t_undos t_reached t_length t_begin t_sort t_value t_word t_wrongAt t_badAt t_bad t_read t_pictured t_x t_all t_loud x3 x4 r_2 hc_3 H.size) (cwV 2 hts gX11_makers_X11_isEcho rfl rfl rfl (by decide +kernel) ⟨Nat.le_of_ble_eq_true rfl, Nat.le_of_ble_eq_true rfl⟩) (xp_V C0.2 hP hD hS [0, 1, 2] rfl (by decide) 10 0 rfl rfl rfl) rfl rfl hl.1 rfl (lv_room (Nat.le_of_ble_eq_true rfl)) dX11_makers_64 ⟨Nat.le_of_ble_eq_true rfl, Nat.le_of_ble_eq_true rfl⟩) (fun H locs hP hD hS => ?_)
      refine lv_if_eq (tgt := 114) hx hb dX11_makers_67 (by decide) (fun c_4 => ?_) (fun c_4 => ?_)
      · have hF := it_pos c_4 hF
        refine lv_iinc (v := (x3 + (1 : Int32))) (lv' := [(3, .int (x3 + (1 : Int32))), (0, .ref (g_t 0)), (1, .int x1), (2, .int x2), (4, .int x4), (5, .int x5)]) hx hb dX11_makers_114 hl (k := 3) rfl (congrArg (fun z => x3 + z) (by decide)) (by decide) rfl (fun ls hl => ?_)
        refine lv_goto (tgt := 26) hx hb dX11_makers_117 (by decide) ?_
        exact HK_26 t_raised t_loud x1 x2 (x3 + (1 : Int32)) H locs ls hP hD hS (lv_sub hl [1, 2, 3, 0] rfl) hF
      · have hF := it_neg c_4 hF
        refine lv_iload_n hx hb dX11_makers_70 rfl (lv_at hl 2 rfl) ?_
        refine lv_aload_n hx hb dX11_makers_71 rfl (lv_at hl 0 rfl) ?_
        refine lv_iload hx hb dX11_makers_72 (lv_at hl 5 rfl) ?_
        refine lv_iload_n hx hb dX11_makers_74 rfl (lv_at hl 3 rfl) ?_
        obtain ⟨r_5, hc_6, hF⟩ := bn_some hF
        refine xc_i (wn := (w_X11_makers K g_t t_raised t_undos t_reached t_length t_begin t_sort t_value t_word t_wrongAt t_badAt t_bad t_read t_pictured t_x t_all t_loud)) hP hD hS C0.2.2.1 [0, 1] [2] [1, 2, 0] rfl rfl (by decide) (by decide) rfl (by decide) (va_runV (As := [.int x5, .int x3]) (rest := [.int x2]) C0.1 (c_X11_isSeen l D K g_t t_raised t_undos t_reached t_length t_begin t_sort t_value t_word t_wrongAt t_badAt t_bad t_read t_pictured t_x t_all x5 x3 r_5 hc_6 H.size) (cwV 2 hts gX11_makers_X11_isSeen rfl rfl rfl (by decide +kernel) ⟨Nat.le_of_ble_eq_true rfl, Nat.le_of_ble_eq_true rfl⟩) (xp_V C0.2 hP hD hS [0, 1] rfl (by decide) 10 0 rfl rfl rfl) rfl rfl hl.1 rfl (lv_room (Nat.le_of_ble_eq_true rfl)) dX11_makers_75 ⟨Nat.le_of_ble_eq_true rfl, Nat.le_of_ble_eq_true rfl⟩) (fun H locs hP hD hS => ?_)
        refine lv_if_eq (tgt := 105) hx hb dX11_makers_78 (by decide) (fun c_7 => ?_) (fun c_7 => ?_)
        · have hF := it_pos c_7 hF
          refine lv_iconst (v := 0) hx hb dX11_makers_105 (by decide) ?_
          refine lv_ior hx hb dX11_makers_106 ?_
          refine lv_istore_n (lv' := [(2, .int (x2 ||| (0 : Int32))), (0, .ref (g_t 0)), (1, .int x1), (3, .int x3), (4, .int x4), (5, .int x5)]) hx hb dX11_makers_107 rfl hl (by decide) rfl (fun ls hl => ?_)
          refine lv_iinc (v := (x5 + (1 : Int32))) (lv' := [(5, .int (x5 + (1 : Int32))), (2, .int (x2 ||| (0 : Int32))), (0, .ref (g_t 0)), (1, .int x1), (3, .int x3), (4, .int x4)]) hx hb dX11_makers_108 hl (k := 5) rfl (congrArg (fun z => x5 + z) (by decide)) (by decide) rfl (fun ls hl => ?_)
          refine lv_goto (tgt := 48) hx hb dX11_makers_111 (by decide) ?_
          exact ih t_raised t_loud x1 (x2 ||| (0 : Int32)) x3 x4 (x5 + (1 : Int32)) H locs ls hP hD hS (lv_sub hl [2, 3, 1, 4, 5, 0] rfl) hF
        · have hF := it_neg c_7 hF
          refine lv_aload_n hx hb dX11_makers_81 rfl (lv_at hl 0 rfl) ?_
          refine lv_iload hx hb dX11_makers_82 (lv_at hl 5 rfl) ?_
          obtain ⟨r_8, hc_9, hF⟩ := bn_some hF
          refine xc_i (wn := (w_X11_makers K g_t t_raised t_undos t_reached t_length t_begin t_sort t_value t_word t_wrongAt t_badAt t_bad t_read t_pictured t_x t_all t_loud)) hP hD hS C0.2.2.1 [0, 1] [2] [1, 2, 0] rfl rfl (by decide) (by decide) rfl (by decide) (va_runV (As := [.int x5]) (rest := [.int x2]) C0.1 (c_X11_rangeOf l D K g_t t_raised t_undos t_reached t_length t_begin t_sort t_value t_word t_wrongAt t_badAt t_bad t_read t_pictured t_x t_all x5 r_8 hc_9 H.size) (cwV 1 hts gX11_makers_X11_rangeOf rfl rfl rfl (by decide +kernel) ⟨Nat.le_of_ble_eq_true rfl, Nat.le_of_ble_eq_true rfl⟩) (xp_V C0.2 hP hD hS [0, 1] rfl (by decide) 10 0 rfl rfl rfl) rfl rfl hl.1 rfl (lv_room (Nat.le_of_ble_eq_true rfl)) dX11_makers_84 ⟨Nat.le_of_ble_eq_true rfl, Nat.le_of_ble_eq_true rfl⟩) (fun H locs hP hD hS => ?_)
          refine lv_aload_n hx hb dX11_makers_87 rfl (lv_at hl 0 rfl) ?_
          refine lv_iload_n hx hb dX11_makers_88 rfl (lv_at hl 3 rfl) ?_
          obtain ⟨r_10, hc_11, hF⟩ := bn_some hF
          refine xc_i (wn := (w_X11_makers K g_t t_raised t_undos t_reached t_length t_begin t_sort t_value t_word t_wrongAt t_badAt t_bad t_read t_pictured t_x t_all t_loud)) hP hD hS C0.2.2.1 [0, 1] [2] [1, 2, 0] rfl rfl (by decide) (by decide) rfl (by decide) (va_runV (As := [.int x3]) (rest := [.int r_8, .int x2]) C0.1 (c_X11_gapAt l D K g_t t_raised t_undos t_reached t_length t_begin t_sort t_value t_word t_wrongAt t_badAt t_bad t_read t_pictured t_x t_all x3 r_10 hc_11 H.size) (cwV 1 hts gX11_makers_X11_gapAt rfl rfl rfl (by decide +kernel) ⟨Nat.le_of_ble_eq_true rfl, Nat.le_of_ble_eq_true rfl⟩) (xp_V C0.2 hP hD hS [0, 1] rfl (by decide) 10 0 rfl rfl rfl) rfl rfl hl.1 rfl (lv_room (Nat.le_of_ble_eq_true rfl)) dX11_makers_89 ⟨Nat.le_of_ble_eq_true rfl, Nat.le_of_ble_eq_true rfl⟩) (fun H locs hP hD hS => ?_)
          obtain ⟨hg_12, hF⟩ := gd_some hF
          refine lv_irem hx hb dX11_makers_92 (ne_of hg_12) ?_
          refine lv_iload hx hb dX11_makers_93 (lv_at hl 4 rfl) ?_
          refine lv_icmp_ne (tgt := 105) hx hb dX11_makers_95 (by decide) (fun c_13 => ?_) (fun c_13 => ?_)
          · have hF := it_neg c_13 hF
            refine lv_iconst (v := 0) hx hb dX11_makers_105 (by decide) ?_
            refine lv_ior hx hb dX11_makers_106 ?_
            refine lv_istore_n (lv' := [(2, .int (x2 ||| (0 : Int32))), (0, .ref (g_t 0)), (1, .int x1), (3, .int x3), (4, .int x4), (5, .int x5)]) hx hb dX11_makers_107 rfl hl (by decide) rfl (fun ls hl => ?_)
            refine lv_iinc (v := (x5 + (1 : Int32))) (lv' := [(5, .int (x5 + (1 : Int32))), (2, .int (x2 ||| (0 : Int32))), (0, .ref (g_t 0)), (1, .int x1), (3, .int x3), (4, .int x4)]) hx hb dX11_makers_108 hl (k := 5) rfl (congrArg (fun z => x5 + z) (by decide)) (by decide) rfl (fun ls hl => ?_)
            refine lv_goto (tgt := 48) hx hb dX11_makers_111 (by decide) ?_
            exact ih t_raised t_loud x1 (x2 ||| (0 : Int32)) x3 x4 (x5 + (1 : Int32)) H locs ls hP hD hS (lv_sub hl [2, 3, 1, 4, 5, 0] rfl) hF
          · have hF := it_pos c_13 hF
            refine lv_iconst (v := 1) hx hb dX11_makers_98 (by decide) ?_
            refine lv_iload hx hb dX11_makers_99 (lv_at hl 5 rfl) ?_
            refine lv_ishl hx hb dX11_makers_101 ?_
            refine lv_goto (tgt := 106) hx hb dX11_makers_102 (by decide) ?_
            refine lv_ior hx hb dX11_makers_106 ?_
            refine lv_istore_n (lv' := [(2, .int (x2 ||| ((1 : Int32) <<< (x5 &&& 31)))), (0, .ref (g_t 0)), (1, .int x1), (3, .int x3), (4, .int x4), (5, .int x5)]) hx hb dX11_makers_107 rfl hl (by decide) rfl (fun ls hl => ?_)
            refine lv_iinc (v := (x5 + (1 : Int32))) (lv' := [(5, .int (x5 + (1 : Int32))), (2, .int (x2 ||| ((1 : Int32) <<< (x5 &&& 31)))), (0, .ref (g_t 0)), (1, .int x1), (3, .int x3), (4, .int x4)]) hx hb dX11_makers_108 hl (k := 5) rfl (congrArg (fun z => x5 + z) (by decide)) (by decide) rfl (fun ls hl => ?_)
            refine lv_goto (tgt := 48) hx hb dX11_makers_111 (by decide) ?_
            exact ih t_raised t_loud x1 (x2 ||| ((1 : Int32) <<< (x5 &&& 31))) x3 x4 (x5 + (1 : Int32)) H locs ls hP hD hS (lv_sub hl [2, 3, 1, 4, 5, 0] rfl) hF
def L_X11_makers_26 (t_all : Nat → Int32) : Nat → Int32 → (Nat → Int32) → Int32 → Int32 → Int32 → Option (Int32 × Int32 × (Nat → Int32))
  | 0, _, _, _, _, _ => none
  | n_ + 1, t_raised, t_loud, x1, x2, x3 =>
    if (t_all 0) ≤ x3 then (some (x2, t_raised, t_loud)) else ((F_X11_gapAt t_all x3).bind fun r_2 => (gd_ (decide (¬ r_2 = 0)) (L_X11_makers_48 t_all (L_X11_makers_26 t_all n_) fu_ t_raised t_loud x1 x2 x3 (x1 - x1 / r_2 * r_2) (0 : Int32))))
set_option maxHeartbeats 4000000 in
set_option maxRecDepth 100000 in
theorem w_X11_makers_26 {p : Program} {l : Launch} {e : Env} {s : State} {m : MethodId} {args : Array Value} {below : List Frame} {meth : Method} {c : Code} {D : va_G} {K : Nat → ClassId} {A : Nat → Prop} {Q : State → Prop} (C0 : cx_ p s m args c cX11_makers 6 RX11 wsX11_makers D K A) {g_t : Nat → Nat} {t_undos : Int32} {t_reached : Int32} {t_length : Int32} {t_begin : Int32} {t_sort : Int32} {t_value : Int32} {t_word : Int64} {t_wrongAt : Int32} {t_badAt : Int32} {t_bad : Int32} {t_read : Int32} {t_pictured : Int32} {t_x : Int32} {t_all : Nat → Int32} {res : Int32 × Int32 × (Nat → Int32)} (HR : ∀ (pc : Nat) (H : Heap) (locs : List Loc) (ls : Array Slot), decode cX11_makers pc = .ok (.ireturn, 1) → va_P D vwCl (w_X11_makers K g_t res.2.1 t_undos t_reached t_length t_begin t_sort t_value t_word t_wrongAt t_badAt t_bad t_read t_pictured t_x t_all res.2.2) H → va_D A (w_X11_makers K g_t res.2.1 t_undos t_reached t_length t_begin t_sort t_value t_word t_wrongAt t_badAt t_bad t_read t_pictured t_x t_all res.2.2) → va_S A s.heap H locs → W p l e rmX11_makers s m args below meth c H locs 0 0 Q (F0 m pc ls [.int res.1]))  :
    ∀ (n_ : Nat) (t_raised : Int32) (t_loud : Nat → Int32) (x1 : Int32) (x2 : Int32) (x3 : Int32) (H : Heap) (locs : List Loc) (ls : Array Slot), va_P D vwCl (w_X11_makers K g_t t_raised t_undos t_reached t_length t_begin t_sort t_value t_word t_wrongAt t_badAt t_bad t_read t_pictured t_x t_all t_loud) H → va_D A (w_X11_makers K g_t t_raised t_undos t_reached t_length t_begin t_sort t_value t_word t_wrongAt t_badAt t_bad t_read t_pictured t_x t_all t_loud) → va_S A s.heap H locs → lv_has ls 6 [(0, .ref (g_t 0)), (1, .int x1), (2, .int x2), (3, .int x3)] → L_X11_makers_26 t_all n_ t_raised t_loud x1 x2 x3 = some res → W p l e rmX11_makers s m args below meth c H locs 0 0 Q (F0 m 26 ls []) := by
  obtain ⟨⟨hx, hb, hml, hown, hts⟩, hK, -⟩ := id C0
  intro n_
  induction n_ with
  | zero =>
    intro t_raised t_loud x1 x2 x3 H locs ls hP hD hS hl hF
    exact no_s (show (none : Option (Int32 × Int32 × (Nat → Int32))) = some res from hF)
  | succ n_ ih =>
    intro t_raised t_loud x1 x2 x3 H locs ls hP hD hS hl hF
    rw [L_X11_makers_26] at hF
    refine lv_iload_n hx hb dX11_makers_26 rfl (lv_at hl 3 rfl) ?_
    refine lv_aload_n hx hb dX11_makers_27 rfl (lv_at hl 0 rfl) ?_
    refine va_get (D := D) (ci := 10) (v := .ref (g_t 2)) (C := RX11) (T := TX11) (N := 30) hx hb hts iw_X11_makers_X11 hown hK hP 0 rfl rfl 1 (by decide) (hts _ fl_X11_makers_7) (fun _ h9 => h9) rfl dX11_makers_28 ?_
    refine lv_iconst (v := 0) hx hb dX11_makers_31 (by decide) ?_
    refine xl_i (f := t_all) hx hb hK hP 1 0 rfl rfl (k := 0) (by decide) (in_v (by decide)) dX11_makers_32 ?_
    refine lv_icmp_ge (tgt := 120) hx hb dX11_makers_33 (by decide) (fun c_1 => ?_) (fun c_1 => ?_)
    · have hF := it_pos c_1 hF
      refine lv_iload_n hx hb dX11_makers_120 rfl (lv_at hl 2 rfl) ?_
      obtain rfl := Option.some.inj hF
      exact HR 121 H locs ls dX11_makers_121 hP hD hS
    · have hF := it_neg c_1 hF
      refine lv_iload_n hx hb dX11_makers_36 rfl (lv_at hl 1 rfl) ?_
      refine lv_aload_n hx hb dX11_makers_37 rfl (lv_at hl 0 rfl) ?_
      refine lv_iload_n hx hb dX11_makers_38 rfl (lv_at hl 3 rfl) ?_
      obtain ⟨r_2, hc_3, hF⟩ := bn_some hF
      refine xc_i (wn := (w_X11_makers K g_t t_raised t_undos t_reached t_length t_begin t_sort t_value t_word t_wrongAt t_badAt t_bad t_read t_pictured t_x t_all t_loud)) hP hD hS C0.2.2.1 [0, 1] [2] [1, 2, 0] rfl rfl (by decide) (by decide) rfl (by decide) (va_runV (As := [.int x3]) (rest := [.int x1]) C0.1 (c_X11_gapAt l D K g_t t_raised t_undos t_reached t_length t_begin t_sort t_value t_word t_wrongAt t_badAt t_bad t_read t_pictured t_x t_all x3 r_2 hc_3 H.size) (cwV 1 hts gX11_makers_X11_gapAt rfl rfl rfl (by decide +kernel) ⟨Nat.le_of_ble_eq_true rfl, Nat.le_of_ble_eq_true rfl⟩) (xp_V C0.2 hP hD hS [0, 1] rfl (by decide) 10 0 rfl rfl rfl) rfl rfl hl.1 rfl (lv_room (Nat.le_of_ble_eq_true rfl)) dX11_makers_39 ⟨Nat.le_of_ble_eq_true rfl, Nat.le_of_ble_eq_true rfl⟩) (fun H locs hP hD hS => ?_)
      obtain ⟨hg_4, hF⟩ := gd_some hF
      refine lv_irem hx hb dX11_makers_42 (ne_of hg_4) ?_
      refine lv_istore (lv' := [(4, .int (x1 - x1 / r_2 * r_2)), (0, .ref (g_t 0)), (1, .int x1), (2, .int x2), (3, .int x3)]) hx hb dX11_makers_43 hl (by decide) rfl (fun ls hl => ?_)
      refine lv_iconst (v := 0) hx hb dX11_makers_45 (by decide) ?_
      refine lv_istore (lv' := [(5, .int (0 : Int32)), (4, .int (x1 - x1 / r_2 * r_2)), (0, .ref (g_t 0)), (1, .int x1), (2, .int x2), (3, .int x3)]) hx hb dX11_makers_46 hl (by decide) rfl (fun ls hl => ?_)
      exact w_X11_makers_48 C0 HR ih fu_ t_raised t_loud x1 x2 x3 (x1 - x1 / r_2 * r_2) (0 : Int32) H locs ls hP hD hS (lv_sub hl [2, 3, 4, 5, 1, 0] rfl) hF
def F_X11_makers (t_raised : Int32) (t_all : Nat → Int32) (t_loud : Nat → Int32) (x1 : Int32) : Option (Int32 × Int32 × (Nat → Int32)) :=
  (F_X11_in x1 (0 : Int32) (9999 : Int32)).bind fun r_1 => (if r_1 = (0 : Int32) then (some ((-1 : Int32), (0 : Int32), t_loud)) else ((F_X11_laysLoud t_all t_loud).bind fun r_4 => (L_X11_makers_26 t_all fu_ (0 : Int32) r_4 x1 (0 : Int32) (0 : Int32))))
set_option maxHeartbeats 4000000 in
set_option maxRecDepth 100000 in
theorem c_X11_makers (l : Launch) (D : va_G) (K : Nat → ClassId) (g_t : Nat → Nat) (t_raised : Int32) (t_undos : Int32) (t_reached : Int32) (t_length : Int32) (t_begin : Int32) (t_sort : Int32) (t_value : Int32) (t_word : Int64) (t_wrongAt : Int32) (t_badAt : Int32) (t_bad : Int32) (t_read : Int32) (t_pictured : Int32) (t_x : Int32) (t_all : Nat → Int32) (t_loud : Nat → Int32) (x1 : Int32) (res : Int32 × Int32 × (Nat → Int32)) (hF : F_X11_makers t_raised t_all t_loud x1 = some res) :
    Mi_ l yX11_makers wsX11_makers rmX11_makers D K [.ref (g_t 0), .int x1] (w_X11_makers K g_t t_raised t_undos t_reached t_length t_begin t_sort t_value t_word t_wrongAt t_badAt t_bad t_read t_pictured t_x t_all t_loud) (w_X11_makers K g_t res.2.1 t_undos t_reached t_length t_begin t_sort t_value t_word t_wrongAt t_badAt t_bad t_read t_pictured t_x t_all res.2.2) (res.1) := by
  refine en_i (cc := cX11_makers) (maxL := 6) (own := RX11) (by decide) rfl rfl (Nat.le_of_ble_eq_true rfl) ?_
  intro p e s m args below meth c A Q H locs ls C0 hP hD hS hl HR
  obtain ⟨⟨hx, hb, hml, hown, hts⟩, hK, -⟩ := id C0
  have hl : lv_has ls 6 [(0, .ref (g_t 0)), (1, .int x1)] := hl
  unfold F_X11_makers at hF
  refine lv_aload_n hx hb dX11_makers_0 rfl (lv_at hl 0 rfl) ?_
  refine lv_iconst (v := 0) hx hb dX11_makers_1 (by decide) ?_
  refine va_put (D := D) (ci := 10) (v := .int (0 : Int32)) (ty := .int) (C := RX11) (T := TX11) (N := 30) hx hb hts iw_X11_makers_X11 tyX11 tyX11_ok nmX11 hown hK hP hD hS 0 rfl rfl 0 (by decide) (hts _ fl_X11_makers_66) (fun _ h9 => h9) rfl (by decide +kernel) rfl rfl (Nat.le_of_ble_eq_true rfl) dX11_makers_2 (fun H locs hP hD hS => ?_)
  have hP : va_P D vwCl (w_X11_makers K g_t (0 : Int32) t_undos t_reached t_length t_begin t_sort t_value t_word t_wrongAt t_badAt t_bad t_read t_pictured t_x t_all t_loud) H := hP
  have hD : va_D A (w_X11_makers K g_t (0 : Int32) t_undos t_reached t_length t_begin t_sort t_value t_word t_wrongAt t_badAt t_bad t_read t_pictured t_x t_all t_loud) := hD
  refine lv_iload_n hx hb dX11_makers_5 rfl (lv_at hl 1 rfl) ?_
  refine lv_iconst (v := 0) hx hb dX11_makers_6 (by decide) ?_
  refine lv_sipush (v := 9999) hx hb dX11_makers_7 (by decide) ?_
  obtain ⟨r_1, hc_2, hF⟩ := bn_some hF
  refine xc_i (wn := (w_X11_makers K g_t (0 : Int32) t_undos t_reached t_length t_begin t_sort t_value t_word t_wrongAt t_badAt t_bad t_read t_pictured t_x t_all t_loud)) hP hD hS C0.2.2.1 [] [0, 1, 2] [0, 1, 2] rfl rfl (by decide) (by decide) rfl (by decide) (va_runS (As := [.int x1, .int (0 : Int32), .int (9999 : Int32)]) (rest := []) C0.1 (c_X11_in l D K x1 (0 : Int32) (9999 : Int32) r_1 hc_2 H.size) (va_cwS 3 hts gX11_makers_X11_in rfl rfl rfl (by decide +kernel) ⟨Nat.le_of_ble_eq_true rfl, Nat.le_of_ble_eq_true rfl⟩) (xp_S C0.2 hP hD hS [] rfl (by decide)) rfl rfl hl.1 rfl (lv_room (Nat.le_of_ble_eq_true rfl)) dX11_makers_10 ⟨Nat.le_of_ble_eq_true rfl, Nat.le_of_ble_eq_true rfl⟩) (fun H locs hP hD hS => ?_)
  refine lv_if_ne (tgt := 18) hx hb dX11_makers_13 (by decide) (fun c_3 => ?_) (fun c_3 => ?_)
  · have hF := it_neg c_3 hF
    refine lv_aload_n hx hb dX11_makers_18 rfl (lv_at hl 0 rfl) ?_
    obtain ⟨r_4, hc_5, hF⟩ := bn_some hF
    refine xc_v (wn := (w_X11_makers K g_t (0 : Int32) t_undos t_reached t_length t_begin t_sort t_value t_word t_wrongAt t_badAt t_bad t_read t_pictured t_x t_all r_4)) hP hD hS C0.2.2.1 [0, 1, 2] [] [0, 1, 2] rfl rfl (by decide) (by decide) rfl (by decide) (va_runV (As := []) (rest := []) C0.1 (c_X11_laysLoud l D K g_t (0 : Int32) t_undos t_reached t_length t_begin t_sort t_value t_word t_wrongAt t_badAt t_bad t_read t_pictured t_x t_all t_loud r_4 hc_5 H.size) (cwV 0 hts gX11_makers_X11_laysLoud rfl rfl rfl (by decide +kernel) ⟨Nat.le_of_ble_eq_true rfl, Nat.le_of_ble_eq_true rfl⟩) (xp_V C0.2 hP hD hS [0, 1, 2] rfl (by decide) 10 0 rfl rfl rfl) rfl rfl hl.1 rfl (lv_room (Nat.le_of_ble_eq_true rfl)) dX11_makers_19 ⟨Nat.le_of_ble_eq_true rfl, Nat.le_of_ble_eq_true rfl⟩) (fun H locs hP hD hS => ?_)
    refine lv_iconst (v := 0) hx hb dX11_makers_22 (by decide) ?_
    refine lv_istore_n (lv' := [(2, .int (0 : Int32)), (0, .ref (g_t 0)), (1, .int x1)]) hx hb dX11_makers_23 rfl hl (by decide) rfl (fun ls hl => ?_)
    refine lv_iconst (v := 0) hx hb dX11_makers_24 (by decide) ?_
    refine lv_istore_n (lv' := [(3, .int (0 : Int32)), (2, .int (0 : Int32)), (0, .ref (g_t 0)), (1, .int x1)]) hx hb dX11_makers_25 rfl hl (by decide) rfl (fun ls hl => ?_)
    exact w_X11_makers_26 C0 HR fu_ (0 : Int32) r_4 x1 (0 : Int32) (0 : Int32) H locs ls hP hD hS (lv_sub hl [2, 3, 1, 0] rfl) hF
  · have hF := it_pos c_3 hF
    refine lv_iconst (v := (-1)) hx hb dX11_makers_16 (by decide) ?_
    obtain rfl := Option.some.inj hF
    exact HR 17 H locs ls dX11_makers_17 hP hD hS

/-! StaggerRadarModel.more(Z)I -/
abbrev rmX11_more : Room := { frames := 5, cells := 0, slots := 0, locals := 111 }
theorem fl_X11_more_7 : Cond.fieldLink RX11 7 "StaggerRadarModel" "all" "[I" ∈ wsX11_more := by decide +kernel
theorem fl_X11_more_66 : Cond.fieldLink RX11 66 "StaggerRadarModel" "raised" "I" ∈ wsX11_more := by decide +kernel
theorem iw_X11_more_X11 : ∀ w ∈ u_ws RX11 TX11 30, w ∈ wsX11_more := by decide +kernel
abbrev w_X11_more (K : Nat → ClassId) (g_t : Nat → Nat) (t_raised : Int32) (t_undos : Int32) (t_reached : Int32) (t_length : Int32) (t_begin : Int32) (t_sort : Int32) (t_value : Int32) (t_word : Int64) (t_wrongAt : Int32) (t_badAt : Int32) (t_bad : Int32) (t_read : Int32) (t_pictured : Int32) (t_x : Int32) (t_all : Nat → Int32) (t_loud : Nat → Int32) : va_W := [((g_t 0), .inr (10, [.int t_raised, .ref (g_t 2), .ref (g_t 3), .ref (g_t 4), .ref (g_t 5), .int t_undos, .int t_reached, .int t_length, .int t_begin, .int t_sort, .int t_value, .long t_word, .int t_wrongAt, .int t_badAt, .int t_bad, .ref (g_t 16), .int t_read, .ref (g_t 18), .ref (g_t 19), .ref (g_t 20), .int t_pictured, .ref (g_t 22), .ref (g_t 23), .ref (g_t 24), .ref (g_t 25), .ref (g_t 26), .int t_x, .ref (g_t 28), .ref (g_t 29), .ref (g_t 30)])), ((g_t 2), .inl (K 0, 500, .inl t_all)), ((g_t 18), .inl (K 0, 300, .inl t_loud))]
def J_X11_more_100 (k_30 : Int32 → (Nat → Int32) → (Nat → Int32) → Int32 → Int32 → Int32 → Int32 → Option (Int32 × Int32 × (Nat → Int32) × (Nat → Int32))) (t_raised : Int32) (t_all : Nat → Int32) (t_loud : Nat → Int32) (x1 : Int32) (x2 : Int32) (x3 : Int32) (x4 : Int32) : Option (Int32 × Int32 × (Nat → Int32) × (Nat → Int32)) :=
  (F_X11_copies t_all (4 : Int32) (0 : Int32)).bind fun r_1 => (k_30 t_raised r_1 t_loud x1 x2 x3 (x4 + (1 : Int32)))
set_option maxHeartbeats 4000000 in
set_option maxRecDepth 100000 in
theorem w_X11_more_100 {p : Program} {l : Launch} {e : Env} {s : State} {m : MethodId} {args : Array Value} {below : List Frame} {meth : Method} {c : Code} {D : va_G} {K : Nat → ClassId} {A : Nat → Prop} {Q : State → Prop} (C0 : cx_ p s m args c cX11_more 6 RX11 wsX11_more D K A) {g_t : Nat → Nat} {t_undos : Int32} {t_reached : Int32} {t_length : Int32} {t_begin : Int32} {t_sort : Int32} {t_value : Int32} {t_word : Int64} {t_wrongAt : Int32} {t_badAt : Int32} {t_bad : Int32} {t_read : Int32} {t_pictured : Int32} {t_x : Int32} {res : Int32 × Int32 × (Nat → Int32) × (Nat → Int32)} (HR : ∀ (pc : Nat) (H : Heap) (locs : List Loc) (ls : Array Slot), decode cX11_more pc = .ok (.ireturn, 1) → va_P D vwCl (w_X11_more K g_t res.2.1 t_undos t_reached t_length t_begin t_sort t_value t_word t_wrongAt t_badAt t_bad t_read t_pictured t_x res.2.2.1 res.2.2.2) H → va_D A (w_X11_more K g_t res.2.1 t_undos t_reached t_length t_begin t_sort t_value t_word t_wrongAt t_badAt t_bad t_read t_pictured t_x res.2.2.1 res.2.2.2) → va_S A s.heap H locs → W p l e rmX11_more s m args below meth c H locs 0 0 Q (F0 m pc ls [.int res.1])) {k_30 : Int32 → (Nat → Int32) → (Nat → Int32) → Int32 → Int32 → Int32 → Int32 → Option (Int32 × Int32 × (Nat → Int32) × (Nat → Int32))} (HK_30 : ∀ (t_raised : Int32) (t_all : Nat → Int32) (t_loud : Nat → Int32) (x1 : Int32) (x2 : Int32) (x3 : Int32) (x4 : Int32) (H : Heap) (locs : List Loc) (ls : Array Slot), va_P D vwCl (w_X11_more K g_t t_raised t_undos t_reached t_length t_begin t_sort t_value t_word t_wrongAt t_badAt t_bad t_read t_pictured t_x t_all t_loud) H → va_D A (w_X11_more K g_t t_raised t_undos t_reached t_length t_begin t_sort t_value t_word t_wrongAt t_badAt t_bad t_read t_pictured t_x t_all t_loud) → va_S A s.heap H locs → lv_has ls 6 [(0, .ref (g_t 0)), (1, .int x1), (2, .int x2), (3, .int x3), (4, .int x4)] → k_30 t_raised t_all t_loud x1 x2 x3 x4 = some res → W p l e rmX11_more s m args below meth c H locs 0 0 Q (F0 m 30 ls [])) :
    ∀ (t_raised : Int32) (t_all : Nat → Int32) (t_loud : Nat → Int32) (x1 : Int32) (x2 : Int32) (x3 : Int32) (x4 : Int32) (H : Heap) (locs : List Loc) (ls : Array Slot), va_P D vwCl (w_X11_more K g_t t_raised t_undos t_reached t_length t_begin t_sort t_value t_word t_wrongAt t_badAt t_bad t_read t_pictured t_x t_all t_loud) H → va_D A (w_X11_more K g_t t_raised t_undos t_reached t_length t_begin t_sort t_value t_word t_wrongAt t_badAt t_bad t_read t_pictured t_x t_all t_loud) → va_S A s.heap H locs → lv_has ls 6 [(0, .ref (g_t 0)), (1, .int x1), (2, .int x2), (3, .int x3), (4, .int x4)] → J_X11_more_100 k_30 t_raised t_all t_loud x1 x2 x3 x4 = some res → W p l e rmX11_more s m args below meth c H locs 0 0 Q (F0 m 100 ls []) := by
  obtain ⟨⟨hx, hb, hml, hown, hts⟩, hK, -⟩ := id C0
  intro t_raised t_all t_loud x1 x2 x3 x4 H locs ls hP hD hS hl hF
  unfold J_X11_more_100 at hF
  refine lv_aload_n hx hb dX11_more_100 rfl (lv_at hl 0 rfl) ?_
  refine lv_iconst (v := 4) hx hb dX11_more_101 (by decide) ?_
  refine lv_iconst (v := 0) hx hb dX11_more_102 (by decide) ?_
  obtain ⟨r_1, hc_2, hF⟩ := bn_some hF
  refine xc_v (wn := (w_X11_more K g_t t_raised t_undos t_reached t_length t_begin t_sort t_value t_word t_wrongAt t_badAt t_bad t_read t_pictured t_x r_1 t_loud)) hP hD hS C0.2.2.1 [0, 1] [2] [1, 2, 0] rfl rfl (by decide) (by decide) rfl (by decide) (va_runV (As := [.int (4 : Int32), .int (0 : Int32)]) (rest := []) C0.1 (c_X11_copies l D K g_t t_raised t_undos t_reached t_length t_begin t_sort t_value t_word t_wrongAt t_badAt t_bad t_read t_pictured t_x t_all (4 : Int32) (0 : Int32) r_1 hc_2 H.size) (cwV 2 hts gX11_more_X11_copies rfl rfl rfl (by decide +kernel) ⟨Nat.le_of_ble_eq_true rfl, Nat.le_of_ble_eq_true rfl⟩) (xp_V C0.2 hP hD hS [0, 1] rfl (by decide) 10 0 rfl rfl rfl) rfl rfl hl.1 rfl (lv_room (Nat.le_of_ble_eq_true rfl)) dX11_more_103 ⟨Nat.le_of_ble_eq_true rfl, Nat.le_of_ble_eq_true rfl⟩) (fun H locs hP hD hS => ?_)
  refine lv_iinc (v := (x4 + (1 : Int32))) (lv' := [(4, .int (x4 + (1 : Int32))), (0, .ref (g_t 0)), (1, .int x1), (2, .int x2), (3, .int x3)]) hx hb dX11_more_106 hl (k := 4) rfl (congrArg (fun z => x4 + z) (by decide)) (by decide) rfl (fun ls hl => ?_)
  refine lv_goto (tgt := 30) hx hb dX11_more_109 (by decide) ?_
  exact HK_30 t_raised r_1 t_loud x1 x2 x3 (x4 + (1 : Int32)) H locs ls hP hD hS (lv_sub hl [1, 2, 3, 4, 0] rfl) hF
def J_X11_more_94 (k_30 : Int32 → (Nat → Int32) → (Nat → Int32) → Int32 → Int32 → Int32 → Int32 → Option (Int32 × Int32 × (Nat → Int32) × (Nat → Int32))) (t_raised : Int32) (t_all : Nat → Int32) (t_loud : Nat → Int32) (x1 : Int32) (x4 : Int32) (x5 : Int32) : Option (Int32 × Int32 × (Nat → Int32) × (Nat → Int32)) :=
  J_X11_more_100 k_30 t_raised t_all t_loud x1 x4 x5 x4
set_option maxHeartbeats 4000000 in
set_option maxRecDepth 100000 in
theorem w_X11_more_94 {p : Program} {l : Launch} {e : Env} {s : State} {m : MethodId} {args : Array Value} {below : List Frame} {meth : Method} {c : Code} {D : va_G} {K : Nat → ClassId} {A : Nat → Prop} {Q : State → Prop} (C0 : cx_ p s m args c cX11_more 6 RX11 wsX11_more D K A) {g_t : Nat → Nat} {t_undos : Int32} {t_reached : Int32} {t_length : Int32} {t_begin : Int32} {t_sort : Int32} {t_value : Int32} {t_word : Int64} {t_wrongAt : Int32} {t_badAt : Int32} {t_bad : Int32} {t_read : Int32} {t_pictured : Int32} {t_x : Int32} {res : Int32 × Int32 × (Nat → Int32) × (Nat → Int32)} (HR : ∀ (pc : Nat) (H : Heap) (locs : List Loc) (ls : Array Slot), decode cX11_more pc = .ok (.ireturn, 1) → va_P D vwCl (w_X11_more K g_t res.2.1 t_undos t_reached t_length t_begin t_sort t_value t_word t_wrongAt t_badAt t_bad t_read t_pictured t_x res.2.2.1 res.2.2.2) H → va_D A (w_X11_more K g_t res.2.1 t_undos t_reached t_length t_begin t_sort t_value t_word t_wrongAt t_badAt t_bad t_read t_pictured t_x res.2.2.1 res.2.2.2) → va_S A s.heap H locs → W p l e rmX11_more s m args below meth c H locs 0 0 Q (F0 m pc ls [.int res.1])) {k_30 : Int32 → (Nat → Int32) → (Nat → Int32) → Int32 → Int32 → Int32 → Int32 → Option (Int32 × Int32 × (Nat → Int32) × (Nat → Int32))} (HK_30 : ∀ (t_raised : Int32) (t_all : Nat → Int32) (t_loud : Nat → Int32) (x1 : Int32) (x2 : Int32) (x3 : Int32) (x4 : Int32) (H : Heap) (locs : List Loc) (ls : Array Slot), va_P D vwCl (w_X11_more K g_t t_raised t_undos t_reached t_length t_begin t_sort t_value t_word t_wrongAt t_badAt t_bad t_read t_pictured t_x t_all t_loud) H → va_D A (w_X11_more K g_t t_raised t_undos t_reached t_length t_begin t_sort t_value t_word t_wrongAt t_badAt t_bad t_read t_pictured t_x t_all t_loud) → va_S A s.heap H locs → lv_has ls 6 [(0, .ref (g_t 0)), (1, .int x1), (2, .int x2), (3, .int x3), (4, .int x4)] → k_30 t_raised t_all t_loud x1 x2 x3 x4 = some res → W p l e rmX11_more s m args below meth c H locs 0 0 Q (F0 m 30 ls [])) :
    ∀ (t_raised : Int32) (t_all : Nat → Int32) (t_loud : Nat → Int32) (x1 : Int32) (x4 : Int32) (x5 : Int32) (H : Heap) (locs : List Loc) (ls : Array Slot), va_P D vwCl (w_X11_more K g_t t_raised t_undos t_reached t_length t_begin t_sort t_value t_word t_wrongAt t_badAt t_bad t_read t_pictured t_x t_all t_loud) H → va_D A (w_X11_more K g_t t_raised t_undos t_reached t_length t_begin t_sort t_value t_word t_wrongAt t_badAt t_bad t_read t_pictured t_x t_all t_loud) → va_S A s.heap H locs → lv_has ls 6 [(0, .ref (g_t 0)), (1, .int x1), (4, .int x4), (5, .int x5)] → J_X11_more_94 k_30 t_raised t_all t_loud x1 x4 x5 = some res → W p l e rmX11_more s m args below meth c H locs 0 0 Q (F0 m 94 ls []) := by
  obtain ⟨⟨hx, hb, hml, hown, hts⟩, hK, -⟩ := id C0
  intro t_raised t_all t_loud x1 x4 x5 H locs ls hP hD hS hl hF
  unfold J_X11_more_94 at hF
  refine lv_iload hx hb dX11_more_94 (lv_at hl 2 rfl) ?_
  refine lv_istore_n (lv' := [(2, .int x4), (0, .ref (g_t 0)), (1, .int x1), (4, .int x4), (5, .int x5)]) hx hb dX11_more_96 rfl hl (by decide) rfl (fun ls hl => ?_)
  refine lv_iload hx hb dX11_more_97 (lv_at hl 4 rfl) ?_
  refine lv_istore_n (lv' := [(3, .int x5), (2, .int x4), (0, .ref (g_t 0)), (1, .int x1), (4, .int x4), (5, .int x5)]) hx hb dX11_more_99 rfl hl (by decide) rfl (fun ls hl => ?_)
  exact w_X11_more_100 C0 HR HK_30 t_raised t_all t_loud x1 x4 x5 x4 H locs ls hP hD hS (lv_sub hl [2, 3, 1, 0, 4] rfl) hF
def J_X11_more_81 (k_30 : Int32 → (Nat → Int32) → (Nat → Int32) → Int32 → Int32 → Int32 → Int32 → Option (Int32 × Int32 × (Nat → Int32) × (Nat → Int32))) (t_raised : Int32) (t_all : Nat → Int32) (t_loud : Nat → Int32) (x1 : Int32) (x2 : Int32) (x3 : Int32) (x4 : Int32) (s0 : Int32) : Option (Int32 × Int32 × (Nat → Int32) × (Nat → Int32)) :=
  if x2 = (-1 : Int32) then (J_X11_more_94 k_30 t_raised t_all t_loud x1 x4 s0) else (if x3 ≤ s0 then (J_X11_more_100 k_30 t_raised t_all t_loud x1 x2 x3 x4) else (J_X11_more_94 k_30 t_raised t_all t_loud x1 x4 s0))
set_option maxHeartbeats 4000000 in
set_option maxRecDepth 100000 in
theorem w_X11_more_81 {p : Program} {l : Launch} {e : Env} {s : State} {m : MethodId} {args : Array Value} {below : List Frame} {meth : Method} {c : Code} {D : va_G} {K : Nat → ClassId} {A : Nat → Prop} {Q : State → Prop} (C0 : cx_ p s m args c cX11_more 6 RX11 wsX11_more D K A) {g_t : Nat → Nat} {t_undos : Int32} {t_reached : Int32} {t_length : Int32} {t_begin : Int32} {t_sort : Int32} {t_value : Int32} {t_word : Int64} {t_wrongAt : Int32} {t_badAt : Int32} {t_bad : Int32} {t_read : Int32} {t_pictured : Int32} {t_x : Int32} {res : Int32 × Int32 × (Nat → Int32) × (Nat → Int32)} (HR : ∀ (pc : Nat) (H : Heap) (locs : List Loc) (ls : Array Slot), decode cX11_more pc = .ok (.ireturn, 1) → va_P D vwCl (w_X11_more K g_t res.2.1 t_undos t_reached t_length t_begin t_sort t_value t_word t_wrongAt t_badAt t_bad t_read t_pictured t_x res.2.2.1 res.2.2.2) H → va_D A (w_X11_more K g_t res.2.1 t_undos t_reached t_length t_begin t_sort t_value t_word t_wrongAt t_badAt t_bad t_read t_pictured t_x res.2.2.1 res.2.2.2) → va_S A s.heap H locs → W p l e rmX11_more s m args below meth c H locs 0 0 Q (F0 m pc ls [.int res.1])) {k_30 : Int32 → (Nat → Int32) → (Nat → Int32) → Int32 → Int32 → Int32 → Int32 → Option (Int32 × Int32 × (Nat → Int32) × (Nat → Int32))} (HK_30 : ∀ (t_raised : Int32) (t_all : Nat → Int32) (t_loud : Nat → Int32) (x1 : Int32) (x2 : Int32) (x3 : Int32) (x4 : Int32) (H : Heap) (locs : List Loc) (ls : Array Slot), va_P D vwCl (w_X11_more K g_t t_raised t_undos t_reached t_length t_begin t_sort t_value t_word t_wrongAt t_badAt t_bad t_read t_pictured t_x t_all t_loud) H → va_D A (w_X11_more K g_t t_raised t_undos t_reached t_length t_begin t_sort t_value t_word t_wrongAt t_badAt t_bad t_read t_pictured t_x t_all t_loud) → va_S A s.heap H locs → lv_has ls 6 [(0, .ref (g_t 0)), (1, .int x1), (2, .int x2), (3, .int x3), (4, .int x4)] → k_30 t_raised t_all t_loud x1 x2 x3 x4 = some res → W p l e rmX11_more s m args below meth c H locs 0 0 Q (F0 m 30 ls [])) :
    ∀ (t_raised : Int32) (t_all : Nat → Int32) (t_loud : Nat → Int32) (x1 : Int32) (x2 : Int32) (x3 : Int32) (x4 : Int32) (s0 : Int32) (H : Heap) (locs : List Loc) (ls : Array Slot), va_P D vwCl (w_X11_more K g_t t_raised t_undos t_reached t_length t_begin t_sort t_value t_word t_wrongAt t_badAt t_bad t_read t_pictured t_x t_all t_loud) H → va_D A (w_X11_more K g_t t_raised t_undos t_reached t_length t_begin t_sort t_value t_word t_wrongAt t_badAt t_bad t_read t_pictured t_x t_all t_loud) → va_S A s.heap H locs → lv_has ls 6 [(0, .ref (g_t 0)), (1, .int x1), (2, .int x2), (3, .int x3), (4, .int x4)] → J_X11_more_81 k_30 t_raised t_all t_loud x1 x2 x3 x4 s0 = some res → W p l e rmX11_more s m args below meth c H locs 0 0 Q (F0 m 81 ls [.int s0]) := by
  obtain ⟨⟨hx, hb, hml, hown, hts⟩, hK, -⟩ := id C0
  intro t_raised t_all t_loud x1 x2 x3 x4 s0 H locs ls hP hD hS hl hF
  unfold J_X11_more_81 at hF
  refine lv_istore (lv' := [(5, .int s0), (0, .ref (g_t 0)), (1, .int x1), (2, .int x2), (3, .int x3), (4, .int x4)]) hx hb dX11_more_81 hl (by decide) rfl (fun ls hl => ?_)
  refine lv_iload_n hx hb dX11_more_83 rfl (lv_at hl 3 rfl) ?_
  refine lv_iconst (v := (-1)) hx hb dX11_more_84 (by decide) ?_
  refine lv_icmp_eq (tgt := 94) hx hb dX11_more_85 (by decide) (fun c_1 => ?_) (fun c_1 => ?_)
  · have hF := it_pos c_1 hF
    exact w_X11_more_94 C0 HR HK_30 t_raised t_all t_loud x1 x4 s0 H locs ls hP hD hS (lv_sub hl [1, 2, 5, 0] rfl) hF
  · have hF := it_neg c_1 hF
    refine lv_iload hx hb dX11_more_88 (lv_at hl 0 rfl) ?_
    refine lv_iload_n hx hb dX11_more_90 rfl (lv_at hl 4 rfl) ?_
    refine lv_icmp_ge (tgt := 100) hx hb dX11_more_91 (by decide) (fun c_2 => ?_) (fun c_2 => ?_)
    · have hF := it_pos c_2 hF
      exact w_X11_more_100 C0 HR HK_30 t_raised t_all t_loud x1 x2 x3 x4 H locs ls hP hD hS (lv_sub hl [1, 2, 3, 4, 5] rfl) hF
    · have hF := it_neg c_2 hF
      exact w_X11_more_94 C0 HR HK_30 t_raised t_all t_loud x1 x4 s0 H locs ls hP hD hS (lv_sub hl [1, 2, 5, 0] rfl) hF
def L_X11_more_30  : Nat → Int32 → (Nat → Int32) → (Nat → Int32) → Int32 → Int32 → Int32 → Int32 → Option (Int32 × Int32 × (Nat → Int32) × (Nat → Int32))
  | 0, _, _, _, _, _, _, _ => none
  | n_ + 1, t_raised, t_all, t_loud, x1, x2, x3, x4 =>
    if (60 : Int32) < x4 then (some (x2, t_raised, t_all, t_loud)) else ((F_X11_hasGap t_all 500 x4).bind fun r_2 => (if r_2 = (0 : Int32) then ((F_X11_putsGap t_all 500 x4).bind fun r_5 => ((F_X11_laysLoud r_5 t_loud).bind fun r_7 => (if x1 = (0 : Int32) then ((F_X11_darkMany r_5).bind fun r_10 => (J_X11_more_81 (L_X11_more_30 n_) t_raised r_5 r_7 x1 x2 x3 x4 r_10)) else ((F_X11_foundMany r_5 r_7 (1 : Int32)).bind fun r_12 => (J_X11_more_81 (L_X11_more_30 n_) t_raised r_5 r_7 x1 x2 x3 x4 r_12))))) else (L_X11_more_30 n_ t_raised t_all t_loud x1 x2 x3 (x4 + (1 : Int32)))))
set_option maxHeartbeats 4000000 in
set_option maxRecDepth 100000 in
theorem w_X11_more_30 {p : Program} {l : Launch} {e : Env} {s : State} {m : MethodId} {args : Array Value} {below : List Frame} {meth : Method} {c : Code} {D : va_G} {K : Nat → ClassId} {A : Nat → Prop} {Q : State → Prop} (C0 : cx_ p s m args c cX11_more 6 RX11 wsX11_more D K A) {g_t : Nat → Nat} {t_undos : Int32} {t_reached : Int32} {t_length : Int32} {t_begin : Int32} {t_sort : Int32} {t_value : Int32} {t_word : Int64} {t_wrongAt : Int32} {t_badAt : Int32} {t_bad : Int32} {t_read : Int32} {t_pictured : Int32} {t_x : Int32} {res : Int32 × Int32 × (Nat → Int32) × (Nat → Int32)} (HR : ∀ (pc : Nat) (H : Heap) (locs : List Loc) (ls : Array Slot), decode cX11_more pc = .ok (.ireturn, 1) → va_P D vwCl (w_X11_more K g_t res.2.1 t_undos t_reached t_length t_begin t_sort t_value t_word t_wrongAt t_badAt t_bad t_read t_pictured t_x res.2.2.1 res.2.2.2) H → va_D A (w_X11_more K g_t res.2.1 t_undos t_reached t_length t_begin t_sort t_value t_word t_wrongAt t_badAt t_bad t_read t_pictured t_x res.2.2.1 res.2.2.2) → va_S A s.heap H locs → W p l e rmX11_more s m args below meth c H locs 0 0 Q (F0 m pc ls [.int res.1]))  :
    ∀ (n_ : Nat) (t_raised : Int32) (t_all : Nat → Int32) (t_loud : Nat → Int32) (x1 : Int32) (x2 : Int32) (x3 : Int32) (x4 : Int32) (H : Heap) (locs : List Loc) (ls : Array Slot), va_P D vwCl (w_X11_more K g_t t_raised t_undos t_reached t_length t_begin t_sort t_value t_word t_wrongAt t_badAt t_bad t_read t_pictured t_x t_all t_loud) H → va_D A (w_X11_more K g_t t_raised t_undos t_reached t_length t_begin t_sort t_value t_word t_wrongAt t_badAt t_bad t_read t_pictured t_x t_all t_loud) → va_S A s.heap H locs → lv_has ls 6 [(0, .ref (g_t 0)), (1, .int x1), (2, .int x2), (3, .int x3), (4, .int x4)] → L_X11_more_30 n_ t_raised t_all t_loud x1 x2 x3 x4 = some res → W p l e rmX11_more s m args below meth c H locs 0 0 Q (F0 m 30 ls []) := by
  obtain ⟨⟨hx, hb, hml, hown, hts⟩, hK, -⟩ := id C0
  intro n_
  induction n_ with
  | zero =>
    intro t_raised t_all t_loud x1 x2 x3 x4 H locs ls hP hD hS hl hF
    exact no_s (show (none : Option (Int32 × Int32 × (Nat → Int32) × (Nat → Int32))) = some res from hF)
  | succ n_ ih =>
    intro t_raised t_all t_loud x1 x2 x3 x4 H locs ls hP hD hS hl hF
    rw [L_X11_more_30] at hF
    refine lv_iload hx hb dX11_more_30 (lv_at hl 4 rfl) ?_
    refine lv_bipush (v := 60) hx hb dX11_more_32 (by decide) ?_
    refine lv_icmp_gt (tgt := 112) hx hb dX11_more_34 (by decide) (fun c_1 => ?_) (fun c_1 => ?_)
    · have hF := it_pos c_1 hF
      refine lv_iload_n hx hb dX11_more_112 rfl (lv_at hl 2 rfl) ?_
      obtain rfl := Option.some.inj hF
      exact HR 113 H locs ls dX11_more_113 hP hD hS
    · have hF := it_neg c_1 hF
      refine lv_aload_n hx hb dX11_more_37 rfl (lv_at hl 0 rfl) ?_
      refine va_get (D := D) (ci := 10) (v := .ref (g_t 2)) (C := RX11) (T := TX11) (N := 30) hx hb hts iw_X11_more_X11 hown hK hP 0 rfl rfl 1 (by decide) (hts _ fl_X11_more_7) (fun _ h9 => h9) rfl dX11_more_38 ?_
      refine lv_iload hx hb dX11_more_41 (lv_at hl 4 rfl) ?_
      obtain ⟨r_2, hc_3, hF⟩ := bn_some hF
      refine xc_i (wn := (w_X11_more K g_t t_raised t_undos t_reached t_length t_begin t_sort t_value t_word t_wrongAt t_badAt t_bad t_read t_pictured t_x t_all t_loud)) hP hD hS C0.2.2.1 [1] [0, 2] [0, 2, 1] rfl rfl (by decide) (by decide) rfl (by decide) (va_runS (As := [.ref (g_t 2), .int x4]) (rest := []) C0.1 (c_X11_hasGap l D K (g_t 2) 500 t_all x4 r_2 hc_3 H.size) (va_cwS 2 hts gX11_more_X11_hasGap rfl rfl rfl (by decide +kernel) ⟨Nat.le_of_ble_eq_true rfl, Nat.le_of_ble_eq_true rfl⟩) (xp_S C0.2 hP hD hS [1] rfl (by decide)) rfl rfl hl.1 rfl (lv_room (Nat.le_of_ble_eq_true rfl)) dX11_more_43 ⟨Nat.le_of_ble_eq_true rfl, Nat.le_of_ble_eq_true rfl⟩) (fun H locs hP hD hS => ?_)
      refine lv_if_eq (tgt := 52) hx hb dX11_more_46 (by decide) (fun c_4 => ?_) (fun c_4 => ?_)
      · have hF := it_pos c_4 hF
        refine lv_aload_n hx hb dX11_more_52 rfl (lv_at hl 0 rfl) ?_
        refine va_get (D := D) (ci := 10) (v := .ref (g_t 2)) (C := RX11) (T := TX11) (N := 30) hx hb hts iw_X11_more_X11 hown hK hP 0 rfl rfl 1 (by decide) (hts _ fl_X11_more_7) (fun _ h9 => h9) rfl dX11_more_53 ?_
        refine lv_iload hx hb dX11_more_56 (lv_at hl 4 rfl) ?_
        obtain ⟨r_5, hc_6, hF⟩ := bn_some hF
        refine xc_v (wn := (w_X11_more K g_t t_raised t_undos t_reached t_length t_begin t_sort t_value t_word t_wrongAt t_badAt t_bad t_read t_pictured t_x r_5 t_loud)) hP hD hS C0.2.2.1 [1] [0, 2] [0, 2, 1] rfl rfl (by decide) (by decide) rfl (by decide) (va_runS (As := [.ref (g_t 2), .int x4]) (rest := []) C0.1 (c_X11_putsGap l D K (g_t 2) 500 t_all x4 r_5 hc_6 H.size) (va_cwS 2 hts gX11_more_X11_putsGap rfl rfl rfl (by decide +kernel) ⟨Nat.le_of_ble_eq_true rfl, Nat.le_of_ble_eq_true rfl⟩) (xp_S C0.2 hP hD hS [1] rfl (by decide)) rfl rfl hl.1 rfl (lv_room (Nat.le_of_ble_eq_true rfl)) dX11_more_58 ⟨Nat.le_of_ble_eq_true rfl, Nat.le_of_ble_eq_true rfl⟩) (fun H locs hP hD hS => ?_)
        refine lv_aload_n hx hb dX11_more_61 rfl (lv_at hl 0 rfl) ?_
        obtain ⟨r_7, hc_8, hF⟩ := bn_some hF
        refine xc_v (wn := (w_X11_more K g_t t_raised t_undos t_reached t_length t_begin t_sort t_value t_word t_wrongAt t_badAt t_bad t_read t_pictured t_x r_5 r_7)) hP hD hS C0.2.2.1 [0, 1, 2] [] [0, 1, 2] rfl rfl (by decide) (by decide) rfl (by decide) (va_runV (As := []) (rest := []) C0.1 (c_X11_laysLoud l D K g_t t_raised t_undos t_reached t_length t_begin t_sort t_value t_word t_wrongAt t_badAt t_bad t_read t_pictured t_x r_5 t_loud r_7 hc_8 H.size) (cwV 0 hts gX11_more_X11_laysLoud rfl rfl rfl (by decide +kernel) ⟨Nat.le_of_ble_eq_true rfl, Nat.le_of_ble_eq_true rfl⟩) (xp_V C0.2 hP hD hS [0, 1, 2] rfl (by decide) 10 0 rfl rfl rfl) rfl rfl hl.1 rfl (lv_room (Nat.le_of_ble_eq_true rfl)) dX11_more_62 ⟨Nat.le_of_ble_eq_true rfl, Nat.le_of_ble_eq_true rfl⟩) (fun H locs hP hD hS => ?_)
        refine lv_iload_n hx hb dX11_more_65 rfl (lv_at hl 1 rfl) ?_
        refine lv_if_eq (tgt := 77) hx hb dX11_more_66 (by decide) (fun c_9 => ?_) (fun c_9 => ?_)
        · have hF := it_pos c_9 hF
          refine lv_aload_n hx hb dX11_more_77 rfl (lv_at hl 0 rfl) ?_
          obtain ⟨r_10, hc_11, hF⟩ := bn_some hF
          refine xc_i (wn := (w_X11_more K g_t t_raised t_undos t_reached t_length t_begin t_sort t_value t_word t_wrongAt t_badAt t_bad t_read t_pictured t_x r_5 r_7)) hP hD hS C0.2.2.1 [0, 1] [2] [1, 2, 0] rfl rfl (by decide) (by decide) rfl (by decide) (va_runV (As := []) (rest := []) C0.1 (c_X11_darkMany l D K g_t t_raised t_undos t_reached t_length t_begin t_sort t_value t_word t_wrongAt t_badAt t_bad t_read t_pictured t_x r_5 r_10 hc_11 H.size) (cwV 0 hts gX11_more_X11_darkMany rfl rfl rfl (by decide +kernel) ⟨Nat.le_of_ble_eq_true rfl, Nat.le_of_ble_eq_true rfl⟩) (xp_V C0.2 hP hD hS [0, 1] rfl (by decide) 10 0 rfl rfl rfl) rfl rfl hl.1 rfl (lv_room (Nat.le_of_ble_eq_true rfl)) dX11_more_78 ⟨Nat.le_of_ble_eq_true rfl, Nat.le_of_ble_eq_true rfl⟩) (fun H locs hP hD hS => ?_)
          exact w_X11_more_81 C0 HR ih t_raised r_5 r_7 x1 x2 x3 x4 r_10 H locs ls hP hD hS (lv_sub hl [0, 1, 2, 3, 4] rfl) hF
        · have hF := it_neg c_9 hF
          refine lv_aload_n hx hb dX11_more_69 rfl (lv_at hl 0 rfl) ?_
          refine lv_iconst (v := 1) hx hb dX11_more_70 (by decide) ?_
          obtain ⟨r_12, hc_13, hF⟩ := bn_some hF
          refine xc_i (wn := (w_X11_more K g_t t_raised t_undos t_reached t_length t_begin t_sort t_value t_word t_wrongAt t_badAt t_bad t_read t_pictured t_x r_5 r_7)) hP hD hS C0.2.2.1 [0, 1, 2] [] [0, 1, 2] rfl rfl (by decide) (by decide) rfl (by decide) (va_runV (As := [.int (1 : Int32)]) (rest := []) C0.1 (c_X11_foundMany l D K g_t t_raised t_undos t_reached t_length t_begin t_sort t_value t_word t_wrongAt t_badAt t_bad t_read t_pictured t_x r_5 r_7 (1 : Int32) r_12 hc_13 H.size) (cwV 1 hts gX11_more_X11_foundMany rfl rfl rfl (by decide +kernel) ⟨Nat.le_of_ble_eq_true rfl, Nat.le_of_ble_eq_true rfl⟩) (xp_V C0.2 hP hD hS [0, 1, 2] rfl (by decide) 10 0 rfl rfl rfl) rfl rfl hl.1 rfl (lv_room (Nat.le_of_ble_eq_true rfl)) dX11_more_71 ⟨Nat.le_of_ble_eq_true rfl, Nat.le_of_ble_eq_true rfl⟩) (fun H locs hP hD hS => ?_)
          refine lv_goto (tgt := 81) hx hb dX11_more_74 (by decide) ?_
          exact w_X11_more_81 C0 HR ih t_raised r_5 r_7 x1 x2 x3 x4 r_12 H locs ls hP hD hS (lv_sub hl [0, 1, 2, 3, 4] rfl) hF
      · have hF := it_neg c_4 hF
        refine lv_goto (tgt := 106) hx hb dX11_more_49 (by decide) ?_
        refine lv_iinc (v := (x4 + (1 : Int32))) (lv' := [(4, .int (x4 + (1 : Int32))), (0, .ref (g_t 0)), (1, .int x1), (2, .int x2), (3, .int x3)]) hx hb dX11_more_106 hl (k := 4) rfl (congrArg (fun z => x4 + z) (by decide)) (by decide) rfl (fun ls hl => ?_)
        refine lv_goto (tgt := 30) hx hb dX11_more_109 (by decide) ?_
        exact ih t_raised t_all t_loud x1 x2 x3 (x4 + (1 : Int32)) H locs ls hP hD hS (lv_sub hl [1, 2, 3, 4, 0] rfl) hF
def F_X11_more (t_raised : Int32) (t_all : Nat → Int32) (t_loud : Nat → Int32) (x1 : Int32) : Option (Int32 × Int32 × (Nat → Int32) × (Nat → Int32)) :=
  if (t_all 0) = (5 : Int32) then (some ((-1 : Int32), (0 : Int32), t_all, t_loud)) else ((F_X11_copies t_all (0 : Int32) (4 : Int32)).bind fun r_2 => (L_X11_more_30 fu_ (0 : Int32) r_2 t_loud x1 (-1 : Int32) (0 : Int32) (4 : Int32)))
set_option maxHeartbeats 4000000 in
set_option maxRecDepth 100000 in
theorem c_X11_more (l : Launch) (D : va_G) (K : Nat → ClassId) (g_t : Nat → Nat) (t_raised : Int32) (t_undos : Int32) (t_reached : Int32) (t_length : Int32) (t_begin : Int32) (t_sort : Int32) (t_value : Int32) (t_word : Int64) (t_wrongAt : Int32) (t_badAt : Int32) (t_bad : Int32) (t_read : Int32) (t_pictured : Int32) (t_x : Int32) (t_all : Nat → Int32) (t_loud : Nat → Int32) (x1 : Int32) (res : Int32 × Int32 × (Nat → Int32) × (Nat → Int32)) (hF : F_X11_more t_raised t_all t_loud x1 = some res) :
    Mi_ l yX11_more wsX11_more rmX11_more D K [.ref (g_t 0), .int x1] (w_X11_more K g_t t_raised t_undos t_reached t_length t_begin t_sort t_value t_word t_wrongAt t_badAt t_bad t_read t_pictured t_x t_all t_loud) (w_X11_more K g_t res.2.1 t_undos t_reached t_length t_begin t_sort t_value t_word t_wrongAt t_badAt t_bad t_read t_pictured t_x res.2.2.1 res.2.2.2) (res.1) := by
  refine en_i (cc := cX11_more) (maxL := 6) (own := RX11) (by decide) rfl rfl (Nat.le_of_ble_eq_true rfl) ?_
  intro p e s m args below meth c A Q H locs ls C0 hP hD hS hl HR
  obtain ⟨⟨hx, hb, hml, hown, hts⟩, hK, -⟩ := id C0
  have hl : lv_has ls 6 [(0, .ref (g_t 0)), (1, .int x1)] := hl
  unfold F_X11_more at hF
  refine lv_aload_n hx hb dX11_more_0 rfl (lv_at hl 0 rfl) ?_
  refine lv_iconst (v := 0) hx hb dX11_more_1 (by decide) ?_
  refine va_put (D := D) (ci := 10) (v := .int (0 : Int32)) (ty := .int) (C := RX11) (T := TX11) (N := 30) hx hb hts iw_X11_more_X11 tyX11 tyX11_ok nmX11 hown hK hP hD hS 0 rfl rfl 0 (by decide) (hts _ fl_X11_more_66) (fun _ h9 => h9) rfl (by decide +kernel) rfl rfl (Nat.le_of_ble_eq_true rfl) dX11_more_2 (fun H locs hP hD hS => ?_)
  have hP : va_P D vwCl (w_X11_more K g_t (0 : Int32) t_undos t_reached t_length t_begin t_sort t_value t_word t_wrongAt t_badAt t_bad t_read t_pictured t_x t_all t_loud) H := hP
  have hD : va_D A (w_X11_more K g_t (0 : Int32) t_undos t_reached t_length t_begin t_sort t_value t_word t_wrongAt t_badAt t_bad t_read t_pictured t_x t_all t_loud) := hD
  refine lv_aload_n hx hb dX11_more_5 rfl (lv_at hl 0 rfl) ?_
  refine va_get (D := D) (ci := 10) (v := .ref (g_t 2)) (C := RX11) (T := TX11) (N := 30) hx hb hts iw_X11_more_X11 hown hK hP 0 rfl rfl 1 (by decide) (hts _ fl_X11_more_7) (fun _ h9 => h9) rfl dX11_more_6 ?_
  refine lv_iconst (v := 0) hx hb dX11_more_9 (by decide) ?_
  refine xl_i (f := t_all) hx hb hK hP 1 0 rfl rfl (k := 0) (by decide) (in_v (by decide)) dX11_more_10 ?_
  refine lv_iconst (v := 5) hx hb dX11_more_11 (by decide) ?_
  refine lv_icmp_ne (tgt := 17) hx hb dX11_more_12 (by decide) (fun c_1 => ?_) (fun c_1 => ?_)
  · have hF := it_neg c_1 hF
    refine lv_aload_n hx hb dX11_more_17 rfl (lv_at hl 0 rfl) ?_
    refine lv_iconst (v := 0) hx hb dX11_more_18 (by decide) ?_
    refine lv_iconst (v := 4) hx hb dX11_more_19 (by decide) ?_
    obtain ⟨r_2, hc_3, hF⟩ := bn_some hF
    refine xc_v (wn := (w_X11_more K g_t (0 : Int32) t_undos t_reached t_length t_begin t_sort t_value t_word t_wrongAt t_badAt t_bad t_read t_pictured t_x r_2 t_loud)) hP hD hS C0.2.2.1 [0, 1] [2] [1, 2, 0] rfl rfl (by decide) (by decide) rfl (by decide) (va_runV (As := [.int (0 : Int32), .int (4 : Int32)]) (rest := []) C0.1 (c_X11_copies l D K g_t (0 : Int32) t_undos t_reached t_length t_begin t_sort t_value t_word t_wrongAt t_badAt t_bad t_read t_pictured t_x t_all (0 : Int32) (4 : Int32) r_2 hc_3 H.size) (cwV 2 hts gX11_more_X11_copies rfl rfl rfl (by decide +kernel) ⟨Nat.le_of_ble_eq_true rfl, Nat.le_of_ble_eq_true rfl⟩) (xp_V C0.2 hP hD hS [0, 1] rfl (by decide) 10 0 rfl rfl rfl) rfl rfl hl.1 rfl (lv_room (Nat.le_of_ble_eq_true rfl)) dX11_more_20 ⟨Nat.le_of_ble_eq_true rfl, Nat.le_of_ble_eq_true rfl⟩) (fun H locs hP hD hS => ?_)
    refine lv_iconst (v := (-1)) hx hb dX11_more_23 (by decide) ?_
    refine lv_istore_n (lv' := [(2, .int (-1 : Int32)), (0, .ref (g_t 0)), (1, .int x1)]) hx hb dX11_more_24 rfl hl (by decide) rfl (fun ls hl => ?_)
    refine lv_iconst (v := 0) hx hb dX11_more_25 (by decide) ?_
    refine lv_istore_n (lv' := [(3, .int (0 : Int32)), (2, .int (-1 : Int32)), (0, .ref (g_t 0)), (1, .int x1)]) hx hb dX11_more_26 rfl hl (by decide) rfl (fun ls hl => ?_)
    refine lv_iconst (v := 4) hx hb dX11_more_27 (by decide) ?_
    refine lv_istore (lv' := [(4, .int (4 : Int32)), (3, .int (0 : Int32)), (2, .int (-1 : Int32)), (0, .ref (g_t 0)), (1, .int x1)]) hx hb dX11_more_28 hl (by decide) rfl (fun ls hl => ?_)
    exact w_X11_more_30 C0 HR fu_ (0 : Int32) r_2 t_loud x1 (-1 : Int32) (0 : Int32) (4 : Int32) H locs ls hP hD hS (lv_sub hl [3, 4, 2, 1, 0] rfl) hF
  · have hF := it_pos c_1 hF
    refine lv_iconst (v := (-1)) hx hb dX11_more_15 (by decide) ?_
    obtain rfl := Option.some.inj hF
    exact HR 16 H locs ls dX11_more_16 hP hD hS

/-! StaggerRadarModel.move(I)I -/
abbrev rmX11_move : Room := { frames := 2, cells := 0, slots := 0, locals := 45 }
theorem fl_X11_move_7 : Cond.fieldLink RX11 7 "StaggerRadarModel" "all" "[I" ∈ wsX11_move := by decide +kernel
theorem fl_X11_move_66 : Cond.fieldLink RX11 66 "StaggerRadarModel" "raised" "I" ∈ wsX11_move := by decide +kernel
theorem ld_X11_move_196 : Cond.constant RX11 196 (999999) ∈ wsX11_move := by decide +kernel
theorem iw_X11_move_X11 : ∀ w ∈ u_ws RX11 TX11 30, w ∈ wsX11_move := by decide +kernel
abbrev w_X11_move (K : Nat → ClassId) (g_t : Nat → Nat) (t_raised : Int32) (t_undos : Int32) (t_reached : Int32) (t_length : Int32) (t_begin : Int32) (t_sort : Int32) (t_value : Int32) (t_word : Int64) (t_wrongAt : Int32) (t_badAt : Int32) (t_bad : Int32) (t_read : Int32) (t_pictured : Int32) (t_x : Int32) (t_all : Nat → Int32) (t_undone : Nat → Int32) : va_W := [((g_t 0), .inr (10, [.int t_raised, .ref (g_t 2), .ref (g_t 3), .ref (g_t 4), .ref (g_t 5), .int t_undos, .int t_reached, .int t_length, .int t_begin, .int t_sort, .int t_value, .long t_word, .int t_wrongAt, .int t_badAt, .int t_bad, .ref (g_t 16), .int t_read, .ref (g_t 18), .ref (g_t 19), .ref (g_t 20), .int t_pictured, .ref (g_t 22), .ref (g_t 23), .ref (g_t 24), .ref (g_t 25), .ref (g_t 26), .int t_x, .ref (g_t 28), .ref (g_t 29), .ref (g_t 30)])), ((g_t 2), .inl (K 0, 500, .inl t_all)), ((g_t 5), .inl (K 0, 776, .inl t_undone))]
def F_X11_move (t_raised : Int32) (t_undos : Int32) (t_all : Nat → Int32) (t_undone : Nat → Int32) (x1 : Int32) : Option (Int32 × Int32 × Int32 × (Nat → Int32) × (Nat → Int32)) :=
  (F_X11_in x1 (1 : Int32) (1000 : Int32)).bind fun r_1 => (if r_1 = (0 : Int32) then (some ((-1 : Int32), (0 : Int32), t_undos, t_all, t_undone)) else (if ((t_all 38) + x1) ≤ (999999 : Int32) then ((F_X11_keeps t_undos t_all t_undone).bind fun r_5 => ((F_X11_moves t_all x1).bind fun r_7 => (some (r_7.1, (0 : Int32), r_5.1, (upd (upd r_7.2 38 ((r_7.2 38) + x1)) 39 (((upd r_7.2 38 ((r_7.2 38) + x1)) 39) + r_7.1)), r_5.2)))) else (some ((-1 : Int32), (0 : Int32), t_undos, t_all, t_undone))))
set_option maxHeartbeats 4000000 in
set_option maxRecDepth 100000 in
theorem c_X11_move (l : Launch) (D : va_G) (K : Nat → ClassId) (g_t : Nat → Nat) (t_raised : Int32) (t_undos : Int32) (t_reached : Int32) (t_length : Int32) (t_begin : Int32) (t_sort : Int32) (t_value : Int32) (t_word : Int64) (t_wrongAt : Int32) (t_badAt : Int32) (t_bad : Int32) (t_read : Int32) (t_pictured : Int32) (t_x : Int32) (t_all : Nat → Int32) (t_undone : Nat → Int32) (x1 : Int32) (res : Int32 × Int32 × Int32 × (Nat → Int32) × (Nat → Int32)) (hF : F_X11_move t_raised t_undos t_all t_undone x1 = some res) :
    Mi_ l yX11_move wsX11_move rmX11_move D K [.ref (g_t 0), .int x1] (w_X11_move K g_t t_raised t_undos t_reached t_length t_begin t_sort t_value t_word t_wrongAt t_badAt t_bad t_read t_pictured t_x t_all t_undone) (w_X11_move K g_t res.2.1 res.2.2.1 t_reached t_length t_begin t_sort t_value t_word t_wrongAt t_badAt t_bad t_read t_pictured t_x res.2.2.2.1 res.2.2.2.2) (res.1) := by
  refine en_i (cc := cX11_move) (maxL := 3) (own := RX11) (by decide) rfl rfl (Nat.le_of_ble_eq_true rfl) ?_
  intro p e s m args below meth c A Q H locs ls C0 hP hD hS hl HR
  obtain ⟨⟨hx, hb, hml, hown, hts⟩, hK, -⟩ := id C0
  have hl : lv_has ls 3 [(0, .ref (g_t 0)), (1, .int x1)] := hl
  unfold F_X11_move at hF
  refine lv_aload_n hx hb dX11_move_0 rfl (lv_at hl 0 rfl) ?_
  refine lv_iconst (v := 0) hx hb dX11_move_1 (by decide) ?_
  refine va_put (D := D) (ci := 10) (v := .int (0 : Int32)) (ty := .int) (C := RX11) (T := TX11) (N := 30) hx hb hts iw_X11_move_X11 tyX11 tyX11_ok nmX11 hown hK hP hD hS 0 rfl rfl 0 (by decide) (hts _ fl_X11_move_66) (fun _ h9 => h9) rfl (by decide +kernel) rfl rfl (Nat.le_of_ble_eq_true rfl) dX11_move_2 (fun H locs hP hD hS => ?_)
  have hP : va_P D vwCl (w_X11_move K g_t (0 : Int32) t_undos t_reached t_length t_begin t_sort t_value t_word t_wrongAt t_badAt t_bad t_read t_pictured t_x t_all t_undone) H := hP
  have hD : va_D A (w_X11_move K g_t (0 : Int32) t_undos t_reached t_length t_begin t_sort t_value t_word t_wrongAt t_badAt t_bad t_read t_pictured t_x t_all t_undone) := hD
  refine lv_iload_n hx hb dX11_move_5 rfl (lv_at hl 1 rfl) ?_
  refine lv_iconst (v := 1) hx hb dX11_move_6 (by decide) ?_
  refine lv_sipush (v := 1000) hx hb dX11_move_7 (by decide) ?_
  obtain ⟨r_1, hc_2, hF⟩ := bn_some hF
  refine xc_i (wn := (w_X11_move K g_t (0 : Int32) t_undos t_reached t_length t_begin t_sort t_value t_word t_wrongAt t_badAt t_bad t_read t_pictured t_x t_all t_undone)) hP hD hS C0.2.2.1 [] [0, 1, 2] [0, 1, 2] rfl rfl (by decide) (by decide) rfl (by decide) (va_runS (As := [.int x1, .int (1 : Int32), .int (1000 : Int32)]) (rest := []) C0.1 (c_X11_in l D K x1 (1 : Int32) (1000 : Int32) r_1 hc_2 H.size) (va_cwS 3 hts gX11_move_X11_in rfl rfl rfl (by decide +kernel) ⟨Nat.le_of_ble_eq_true rfl, Nat.le_of_ble_eq_true rfl⟩) (xp_S C0.2 hP hD hS [] rfl (by decide)) rfl rfl hl.1 rfl (lv_room (Nat.le_of_ble_eq_true rfl)) dX11_move_10 ⟨Nat.le_of_ble_eq_true rfl, Nat.le_of_ble_eq_true rfl⟩) (fun H locs hP hD hS => ?_)
  refine lv_if_eq (tgt := 30) hx hb dX11_move_13 (by decide) (fun c_3 => ?_) (fun c_3 => ?_)
  · have hF := it_pos c_3 hF
    refine lv_iconst (v := (-1)) hx hb dX11_move_30 (by decide) ?_
    obtain rfl := Option.some.inj hF
    exact HR 31 H locs ls dX11_move_31 hP hD hS
  · have hF := it_neg c_3 hF
    refine lv_aload_n hx hb dX11_move_16 rfl (lv_at hl 0 rfl) ?_
    refine va_get (D := D) (ci := 10) (v := .ref (g_t 2)) (C := RX11) (T := TX11) (N := 30) hx hb hts iw_X11_move_X11 hown hK hP 0 rfl rfl 1 (by decide) (hts _ fl_X11_move_7) (fun _ h9 => h9) rfl dX11_move_17 ?_
    refine lv_bipush (v := 38) hx hb dX11_move_20 (by decide) ?_
    refine xl_i (f := t_all) hx hb hK hP 1 0 rfl rfl (k := 38) (by decide) (in_v (by decide)) dX11_move_22 ?_
    refine lv_iload_n hx hb dX11_move_23 rfl (lv_at hl 1 rfl) ?_
    refine lv_iadd hx hb dX11_move_24 ?_
    refine lv_ldc (v := 999999) hx hb hown (hts _ ld_X11_move_196) dX11_move_25 ?_
    refine lv_icmp_le (tgt := 32) hx hb dX11_move_27 (by decide) (fun c_4 => ?_) (fun c_4 => ?_)
    · have hF := it_pos c_4 hF
      refine lv_aload_n hx hb dX11_move_32 rfl (lv_at hl 0 rfl) ?_
      obtain ⟨r_5, hc_6, hF⟩ := bn_some hF
      refine xc_v (wn := (w_X11_move K g_t (0 : Int32) r_5.1 t_reached t_length t_begin t_sort t_value t_word t_wrongAt t_badAt t_bad t_read t_pictured t_x t_all r_5.2)) hP hD hS C0.2.2.1 [0, 1, 2] [] [0, 1, 2] rfl rfl (by decide) (by decide) rfl (by decide) (va_runV (As := []) (rest := []) C0.1 (c_X11_keeps l D K g_t (0 : Int32) t_undos t_reached t_length t_begin t_sort t_value t_word t_wrongAt t_badAt t_bad t_read t_pictured t_x t_all t_undone r_5 hc_6 H.size) (cwV 0 hts gX11_move_X11_keeps rfl rfl rfl (by decide +kernel) ⟨Nat.le_of_ble_eq_true rfl, Nat.le_of_ble_eq_true rfl⟩) (xp_V C0.2 hP hD hS [0, 1, 2] rfl (by decide) 10 0 rfl rfl rfl) rfl rfl hl.1 rfl (lv_room (Nat.le_of_ble_eq_true rfl)) dX11_move_33 ⟨Nat.le_of_ble_eq_true rfl, Nat.le_of_ble_eq_true rfl⟩) (fun H locs hP hD hS => ?_)
      refine lv_aload_n hx hb dX11_move_36 rfl (lv_at hl 0 rfl) ?_
      refine lv_iload_n hx hb dX11_move_37 rfl (lv_at hl 1 rfl) ?_
      obtain ⟨r_7, hc_8, hF⟩ := bn_some hF
      refine xc_i (wn := (w_X11_move K g_t (0 : Int32) r_5.1 t_reached t_length t_begin t_sort t_value t_word t_wrongAt t_badAt t_bad t_read t_pictured t_x r_7.2 r_5.2)) hP hD hS C0.2.2.1 [0, 1] [2] [1, 2, 0] rfl rfl (by decide) (by decide) rfl (by decide) (va_runV (As := [.int x1]) (rest := []) C0.1 (c_X11_moves l D K g_t (0 : Int32) r_5.1 t_reached t_length t_begin t_sort t_value t_word t_wrongAt t_badAt t_bad t_read t_pictured t_x t_all x1 r_7 hc_8 H.size) (cwV 1 hts gX11_move_X11_moves rfl rfl rfl (by decide +kernel) ⟨Nat.le_of_ble_eq_true rfl, Nat.le_of_ble_eq_true rfl⟩) (xp_V C0.2 hP hD hS [0, 1] rfl (by decide) 10 0 rfl rfl rfl) rfl rfl hl.1 rfl (lv_room (Nat.le_of_ble_eq_true rfl)) dX11_move_38 ⟨Nat.le_of_ble_eq_true rfl, Nat.le_of_ble_eq_true rfl⟩) (fun H locs hP hD hS => ?_)
      refine lv_istore_n (lv' := [(2, .int r_7.1), (0, .ref (g_t 0)), (1, .int x1)]) hx hb dX11_move_41 rfl hl (by decide) rfl (fun ls hl => ?_)
      refine lv_aload_n hx hb dX11_move_42 rfl (lv_at hl 1 rfl) ?_
      refine va_get (D := D) (ci := 10) (v := .ref (g_t 2)) (C := RX11) (T := TX11) (N := 30) hx hb hts iw_X11_move_X11 hown hK hP 0 rfl rfl 1 (by decide) (hts _ fl_X11_move_7) (fun _ h9 => h9) rfl dX11_move_43 ?_
      refine lv_bipush (v := 38) hx hb dX11_move_46 (by decide) ?_
      refine lv_dup2_11 hx hb dX11_move_48 rfl rfl ?_
      refine xl_i (f := r_7.2) hx hb hK hP 1 0 rfl rfl (k := 38) (by decide) (in_v (by decide)) dX11_move_49 ?_
      refine lv_iload_n hx hb dX11_move_50 rfl (lv_at hl 2 rfl) ?_
      refine lv_iadd hx hb dX11_move_51 ?_
      refine xs_i (f := r_7.2) hx hb hK hP hD hS 1 0 rfl rfl (k := 38) (by decide) (in_v (by decide)) dX11_move_52 (fun H locs hP hD hS => ?_)
      have hP : va_P D vwCl (w_X11_move K g_t (0 : Int32) r_5.1 t_reached t_length t_begin t_sort t_value t_word t_wrongAt t_badAt t_bad t_read t_pictured t_x (upd r_7.2 38 ((r_7.2 38) + x1)) r_5.2) H := hP
      have hD : va_D A (w_X11_move K g_t (0 : Int32) r_5.1 t_reached t_length t_begin t_sort t_value t_word t_wrongAt t_badAt t_bad t_read t_pictured t_x (upd r_7.2 38 ((r_7.2 38) + x1)) r_5.2) := hD
      refine lv_aload_n hx hb dX11_move_53 rfl (lv_at hl 1 rfl) ?_
      refine va_get (D := D) (ci := 10) (v := .ref (g_t 2)) (C := RX11) (T := TX11) (N := 30) hx hb hts iw_X11_move_X11 hown hK hP 0 rfl rfl 1 (by decide) (hts _ fl_X11_move_7) (fun _ h9 => h9) rfl dX11_move_54 ?_
      refine lv_bipush (v := 39) hx hb dX11_move_57 (by decide) ?_
      refine lv_dup2_11 hx hb dX11_move_59 rfl rfl ?_
      refine xl_i (f := (upd r_7.2 38 ((r_7.2 38) + x1))) hx hb hK hP 1 0 rfl rfl (k := 39) (by decide) (in_v (by decide)) dX11_move_60 ?_
      refine lv_iload_n hx hb dX11_move_61 rfl (lv_at hl 0 rfl) ?_
      refine lv_iadd hx hb dX11_move_62 ?_
      refine xs_i (f := (upd r_7.2 38 ((r_7.2 38) + x1))) hx hb hK hP hD hS 1 0 rfl rfl (k := 39) (by decide) (in_v (by decide)) dX11_move_63 (fun H locs hP hD hS => ?_)
      have hP : va_P D vwCl (w_X11_move K g_t (0 : Int32) r_5.1 t_reached t_length t_begin t_sort t_value t_word t_wrongAt t_badAt t_bad t_read t_pictured t_x (upd (upd r_7.2 38 ((r_7.2 38) + x1)) 39 (((upd r_7.2 38 ((r_7.2 38) + x1)) 39) + r_7.1)) r_5.2) H := hP
      have hD : va_D A (w_X11_move K g_t (0 : Int32) r_5.1 t_reached t_length t_begin t_sort t_value t_word t_wrongAt t_badAt t_bad t_read t_pictured t_x (upd (upd r_7.2 38 ((r_7.2 38) + x1)) 39 (((upd r_7.2 38 ((r_7.2 38) + x1)) 39) + r_7.1)) r_5.2) := hD
      refine lv_iload_n hx hb dX11_move_64 rfl (lv_at hl 0 rfl) ?_
      obtain rfl := Option.some.inj hF
      exact HR 65 H locs ls dX11_move_65 hP hD hS
    · have hF := it_neg c_4 hF
      refine lv_iconst (v := (-1)) hx hb dX11_move_30 (by decide) ?_
      obtain rfl := Option.some.inj hF
      exact HR 31 H locs ls dX11_move_31 hP hD hS
