/-! StaggerRadar.Radar.dropGap(I)V -/
abbrev rmX5_dropGap : Room := { frames := 1, cells := 0, slots := 0, locals := 21 }
theorem fl_X5_dropGap_9 : Cond.fieldLink RX5 9 "StaggerRadar$Radar" "gaps" "[I" ∈ wsX5_dropGap := by decide +kernel
theorem fl_X5_dropGap_45 : Cond.fieldLink RX5 45 "StaggerRadar$Radar" "gapCount" "I" ∈ wsX5_dropGap := by decide +kernel
theorem iw_X5_dropGap_X5 : ∀ w ∈ u_ws RX5 TX5 13, w ∈ wsX5_dropGap := by decide +kernel
abbrev w_X5_dropGap (K : Nat → ClassId) (g_t : Nat → Nat) (t_gapCount : Int32) (t_targetCount : Int32) (t_lookCount : Int32) (t_time : Int32) (t_gone : Int32) (t_gaps : Nat → Int32) : va_W := [((g_t 0), .inr (5, [.ref (g_t 1), .ref (g_t 2), .ref (g_t 3), .ref (g_t 4), .ref (g_t 5), .ref (g_t 6), .ref (g_t 7), .ref (g_t 8), .int t_gapCount, .int t_targetCount, .int t_lookCount, .int t_time, .int t_gone])), ((g_t 1), .inl (K 0, 5, .inl t_gaps))]
def L_X5_dropGap_21  : Nat → Int32 → (Nat → Int32) → Int32 → Option (Int32 × (Nat → Int32))
  | 0, _, _, _ => none
  | n_ + 1, t_gapCount, t_gaps, x2 =>
    if t_gapCount ≤ x2 then (some (t_gapCount, t_gaps)) else (gd_ (in_b (x2 + (1 : Int32)) 5) (gd_ (in_b x2 5) (L_X5_dropGap_21 n_ t_gapCount (upd t_gaps (x2).toNatClampNeg (t_gaps (x2 + (1 : Int32)).toNatClampNeg)) (x2 + (1 : Int32)))))
set_option maxHeartbeats 4000000 in
set_option maxRecDepth 100000 in
theorem w_X5_dropGap_21 {p : Program} {l : Launch} {e : Env} {s : State} {m : MethodId} {args : Array Value} {below : List Frame} {meth : Method} {c : Code} {D : va_G} {K : Nat → ClassId} {A : Nat → Prop} {Q : State → Prop} (C0 : cx_ p s m args c cX5_dropGap 3 RX5 wsX5_dropGap D K A) {g_t : Nat → Nat} {t_targetCount : Int32} {t_lookCount : Int32} {t_time : Int32} {t_gone : Int32} {res : Int32 × (Nat → Int32)} (HR : ∀ (pc : Nat) (H : Heap) (locs : List Loc) (ls : Array Slot), decode cX5_dropGap pc = .ok (.return_, 1) → va_P D vwCl (w_X5_dropGap K g_t res.1 t_targetCount t_lookCount t_time t_gone res.2) H → va_D A (w_X5_dropGap K g_t res.1 t_targetCount t_lookCount t_time t_gone res.2) → va_S A s.heap H locs → W p l e rmX5_dropGap s m args below meth c H locs 0 0 Q (F0 m pc ls []))  :
    ∀ (n_ : Nat) (t_gapCount : Int32) (t_gaps : Nat → Int32) (x2 : Int32) (H : Heap) (locs : List Loc) (ls : Array Slot), va_P D vwCl (w_X5_dropGap K g_t t_gapCount t_targetCount t_lookCount t_time t_gone t_gaps) H → va_D A (w_X5_dropGap K g_t t_gapCount t_targetCount t_lookCount t_time t_gone t_gaps) → va_S A s.heap H locs → lv_has ls 3 [(0, .ref (g_t 0)), (2, .int x2)] → L_X5_dropGap_21 n_ t_gapCount t_gaps x2 = some res → W p l e rmX5_dropGap s m args below meth c H locs 0 0 Q (F0 m 21 ls []) := by
  obtain ⟨⟨hx, hb, hml, hown, hts⟩, hK, -⟩ := id C0
  intro n_
  induction n_ with
  | zero =>
    intro t_gapCount t_gaps x2 H locs ls hP hD hS hl hF
    exact no_s (show (none : Option (Int32 × (Nat → Int32))) = some res from hF)
  | succ n_ ih =>
    intro t_gapCount t_gaps x2 H locs ls hP hD hS hl hF
    rw [L_X5_dropGap_21] at hF
    refine lv_iload_n hx hb dX5_dropGap_21 rfl (lv_at hl 1 rfl) ?_
    refine lv_aload_n hx hb dX5_dropGap_22 rfl (lv_at hl 0 rfl) ?_
    refine va_get (D := D) (ci := 5) (v := .int t_gapCount) (C := RX5) (T := TX5) (N := 13) hx hb hts iw_X5_dropGap_X5 hown hK hP 0 rfl rfl 8 (by decide) (hts _ fl_X5_dropGap_45) (fun _ h9 => h9) rfl dX5_dropGap_23 ?_
    refine lv_icmp_ge (tgt := 49) hx hb dX5_dropGap_26 (by decide) (fun c_1 => ?_) (fun c_1 => ?_)
    · have hF := it_pos c_1 hF
      obtain rfl := Option.some.inj hF
      exact HR 49 H locs ls dX5_dropGap_49 hP hD hS
    · have hF := it_neg c_1 hF
      refine lv_aload_n hx hb dX5_dropGap_29 rfl (lv_at hl 0 rfl) ?_
      refine va_get (D := D) (ci := 5) (v := .ref (g_t 1)) (C := RX5) (T := TX5) (N := 13) hx hb hts iw_X5_dropGap_X5 hown hK hP 0 rfl rfl 0 (by decide) (hts _ fl_X5_dropGap_9) (fun _ h9 => h9) rfl dX5_dropGap_30 ?_
      refine lv_iload_n hx hb dX5_dropGap_33 rfl (lv_at hl 1 rfl) ?_
      refine lv_aload_n hx hb dX5_dropGap_34 rfl (lv_at hl 0 rfl) ?_
      refine va_get (D := D) (ci := 5) (v := .ref (g_t 1)) (C := RX5) (T := TX5) (N := 13) hx hb hts iw_X5_dropGap_X5 hown hK hP 0 rfl rfl 0 (by decide) (hts _ fl_X5_dropGap_9) (fun _ h9 => h9) rfl dX5_dropGap_35 ?_
      refine lv_iload_n hx hb dX5_dropGap_38 rfl (lv_at hl 1 rfl) ?_
      refine lv_iconst (v := 1) hx hb dX5_dropGap_39 (by decide) ?_
      refine lv_iadd hx hb dX5_dropGap_40 ?_
      obtain ⟨hg_2, hF⟩ := gd_some hF
      refine xl_i (f := t_gaps) hx hb hK hP 1 0 rfl rfl rfl (in_v hg_2) dX5_dropGap_41 ?_
      obtain ⟨hg_3, hF⟩ := gd_some hF
      refine xs_i (f := t_gaps) hx hb hK hP hD hS 1 0 rfl rfl rfl (in_v hg_3) dX5_dropGap_42 (fun H locs hP hD hS => ?_)
      have hP : va_P D vwCl (w_X5_dropGap K g_t t_gapCount t_targetCount t_lookCount t_time t_gone (upd t_gaps (x2).toNatClampNeg (t_gaps (x2 + (1 : Int32)).toNatClampNeg))) H := hP
      have hD : va_D A (w_X5_dropGap K g_t t_gapCount t_targetCount t_lookCount t_time t_gone (upd t_gaps (x2).toNatClampNeg (t_gaps (x2 + (1 : Int32)).toNatClampNeg))) := hD
      refine lv_iinc (v := (x2 + (1 : Int32))) (lv' := [(2, .int (x2 + (1 : Int32))), (0, .ref (g_t 0))]) hx hb dX5_dropGap_43 hl (k := 1) rfl (congrArg (fun z => x2 + z) (by decide)) (by decide) rfl (fun ls hl => ?_)
      refine lv_goto (tgt := 21) hx hb dX5_dropGap_46 (by decide) ?_
      exact ih t_gapCount (upd t_gaps (x2).toNatClampNeg (t_gaps (x2 + (1 : Int32)).toNatClampNeg)) (x2 + (1 : Int32)) H locs ls hP hD hS (lv_sub hl [1, 0] rfl) hF
def F_X5_dropGap (t_gapCount : Int32) (t_gaps : Nat → Int32) (x1 : Int32) : Option (Int32 × (Nat → Int32)) :=
  (F_X5_hasGap t_gapCount x1).bind fun r_1 => (if r_1 = (0 : Int32) then (some (t_gapCount, t_gaps)) else (L_X5_dropGap_21 fu_ (t_gapCount - (1 : Int32)) t_gaps x1))
set_option maxHeartbeats 4000000 in
set_option maxRecDepth 100000 in
theorem c_X5_dropGap (l : Launch) (D : va_G) (K : Nat → ClassId) (g_t : Nat → Nat) (t_gapCount : Int32) (t_targetCount : Int32) (t_lookCount : Int32) (t_time : Int32) (t_gone : Int32) (t_gaps : Nat → Int32) (x1 : Int32) (res : Int32 × (Nat → Int32)) (hF : F_X5_dropGap t_gapCount t_gaps x1 = some res) :
    Mv_ l yX5_dropGap wsX5_dropGap rmX5_dropGap D K [.ref (g_t 0), .int x1] (w_X5_dropGap K g_t t_gapCount t_targetCount t_lookCount t_time t_gone t_gaps) (w_X5_dropGap K g_t res.1 t_targetCount t_lookCount t_time t_gone res.2) := by
  refine en_v (cc := cX5_dropGap) (maxL := 3) (own := RX5) (by decide) rfl rfl (Nat.le_of_ble_eq_true rfl) ?_
  intro p e s m args below meth c A Q H locs ls C0 hP hD hS hl HR
  obtain ⟨⟨hx, hb, hml, hown, hts⟩, hK, -⟩ := id C0
  have hl : lv_has ls 3 [(0, .ref (g_t 0)), (1, .int x1)] := hl
  unfold F_X5_dropGap at hF
  refine lv_aload_n hx hb dX5_dropGap_0 rfl (lv_at hl 0 rfl) ?_
  refine lv_iload_n hx hb dX5_dropGap_1 rfl (lv_at hl 1 rfl) ?_
  obtain ⟨r_1, hc_2, hF⟩ := bn_some hF
  refine xc_i (wn := (w_X5_dropGap K g_t t_gapCount t_targetCount t_lookCount t_time t_gone t_gaps)) hP hD hS C0.2.2.1 [0] [1] [1, 0] rfl rfl (by decide) (by decide) rfl (by decide) (va_runV (As := [.int x1]) (rest := []) C0.1 (c_X5_hasGap l D K g_t t_gapCount t_targetCount t_lookCount t_time t_gone x1 r_1 hc_2 H.size) (cwV 1 hts gX5_dropGap_X5_hasGap rfl rfl rfl (by decide +kernel) ⟨Nat.le_of_ble_eq_true rfl, Nat.le_of_ble_eq_true rfl⟩) (xp_V C0.2 hP hD hS [0] rfl (by decide) 5 0 rfl rfl rfl) rfl rfl hl.1 rfl (lv_room (Nat.le_of_ble_eq_true rfl)) dX5_dropGap_2 ⟨Nat.le_of_ble_eq_true rfl, Nat.le_of_ble_eq_true rfl⟩) (fun H locs hP hD hS => ?_)
  refine lv_if_ne (tgt := 9) hx hb dX5_dropGap_5 (by decide) (fun c_3 => ?_) (fun c_3 => ?_)
  · have hF := it_neg c_3 hF
    refine lv_aload_n hx hb dX5_dropGap_9 rfl (lv_at hl 0 rfl) ?_
    refine lv_dup hx hb dX5_dropGap_10 rfl ?_
    refine va_get (D := D) (ci := 5) (v := .int t_gapCount) (C := RX5) (T := TX5) (N := 13) hx hb hts iw_X5_dropGap_X5 hown hK hP 0 rfl rfl 8 (by decide) (hts _ fl_X5_dropGap_45) (fun _ h9 => h9) rfl dX5_dropGap_11 ?_
    refine lv_iconst (v := 1) hx hb dX5_dropGap_14 (by decide) ?_
    refine lv_isub hx hb dX5_dropGap_15 ?_
    refine va_put (D := D) (ci := 5) (v := .int (t_gapCount - (1 : Int32))) (ty := .int) (C := RX5) (T := TX5) (N := 13) hx hb hts iw_X5_dropGap_X5 tyX5 tyX5_ok nmX5 hown hK hP hD hS 0 rfl rfl 8 (by decide) (hts _ fl_X5_dropGap_45) (fun _ h9 => h9) rfl (by decide +kernel) rfl rfl (Nat.le_of_ble_eq_true rfl) dX5_dropGap_16 (fun H locs hP hD hS => ?_)
    have hP : va_P D vwCl (w_X5_dropGap K g_t (t_gapCount - (1 : Int32)) t_targetCount t_lookCount t_time t_gone t_gaps) H := hP
    have hD : va_D A (w_X5_dropGap K g_t (t_gapCount - (1 : Int32)) t_targetCount t_lookCount t_time t_gone t_gaps) := hD
    refine lv_iload_n hx hb dX5_dropGap_19 rfl (lv_at hl 1 rfl) ?_
    refine lv_istore_n (lv' := [(2, .int x1), (0, .ref (g_t 0)), (1, .int x1)]) hx hb dX5_dropGap_20 rfl hl (by decide) rfl (fun ls hl => ?_)
    exact w_X5_dropGap_21 C0 HR fu_ (t_gapCount - (1 : Int32)) t_gaps x1 H locs ls hP hD hS (lv_sub hl [1, 0] rfl) hF
  · have hF := it_pos c_3 hF
    obtain rfl := Option.some.inj hF
    exact HR 8 H locs ls dX5_dropGap_8 hP hD hS

/-! StaggerRadar.Radar.addGap(I)V -/
abbrev rmX5_addGap : Room := { frames := 0, cells := 0, slots := 0, locals := 0 }
theorem fl_X5_addGap_9 : Cond.fieldLink RX5 9 "StaggerRadar$Radar" "gaps" "[I" ∈ wsX5_addGap := by decide +kernel
theorem fl_X5_addGap_45 : Cond.fieldLink RX5 45 "StaggerRadar$Radar" "gapCount" "I" ∈ wsX5_addGap := by decide +kernel
theorem iw_X5_addGap_X5 : ∀ w ∈ u_ws RX5 TX5 13, w ∈ wsX5_addGap := by decide +kernel
abbrev w_X5_addGap (K : Nat → ClassId) (g_t : Nat → Nat) (t_gapCount : Int32) (t_targetCount : Int32) (t_lookCount : Int32) (t_time : Int32) (t_gone : Int32) (t_gaps : Nat → Int32) : va_W := [((g_t 0), .inr (5, [.ref (g_t 1), .ref (g_t 2), .ref (g_t 3), .ref (g_t 4), .ref (g_t 5), .ref (g_t 6), .ref (g_t 7), .ref (g_t 8), .int t_gapCount, .int t_targetCount, .int t_lookCount, .int t_time, .int t_gone])), ((g_t 1), .inl (K 0, 5, .inl t_gaps))]
def J_X5_addGap_50 (t_gapCount : Int32) (t_gaps : Nat → Int32) (x1 : Int32) (x2 : Int32) : Option (Int32 × (Nat → Int32)) :=
  gd_ (in_b x2 5) (some ((t_gapCount + (1 : Int32)), (upd t_gaps (x2).toNatClampNeg x1)))
set_option maxHeartbeats 4000000 in
set_option maxRecDepth 100000 in
theorem w_X5_addGap_50 {p : Program} {l : Launch} {e : Env} {s : State} {m : MethodId} {args : Array Value} {below : List Frame} {meth : Method} {c : Code} {D : va_G} {K : Nat → ClassId} {A : Nat → Prop} {Q : State → Prop} (C0 : cx_ p s m args c cX5_addGap 3 RX5 wsX5_addGap D K A) {g_t : Nat → Nat} {t_targetCount : Int32} {t_lookCount : Int32} {t_time : Int32} {t_gone : Int32} {res : Int32 × (Nat → Int32)} (HR : ∀ (pc : Nat) (H : Heap) (locs : List Loc) (ls : Array Slot), decode cX5_addGap pc = .ok (.return_, 1) → va_P D vwCl (w_X5_addGap K g_t res.1 t_targetCount t_lookCount t_time t_gone res.2) H → va_D A (w_X5_addGap K g_t res.1 t_targetCount t_lookCount t_time t_gone res.2) → va_S A s.heap H locs → W p l e rmX5_addGap s m args below meth c H locs 0 0 Q (F0 m pc ls []))  :
    ∀ (t_gapCount : Int32) (t_gaps : Nat → Int32) (x1 : Int32) (x2 : Int32) (H : Heap) (locs : List Loc) (ls : Array Slot), va_P D vwCl (w_X5_addGap K g_t t_gapCount t_targetCount t_lookCount t_time t_gone t_gaps) H → va_D A (w_X5_addGap K g_t t_gapCount t_targetCount t_lookCount t_time t_gone t_gaps) → va_S A s.heap H locs → lv_has ls 3 [(0, .ref (g_t 0)), (1, .int x1), (2, .int x2)] → J_X5_addGap_50 t_gapCount t_gaps x1 x2 = some res → W p l e rmX5_addGap s m args below meth c H locs 0 0 Q (F0 m 50 ls []) := by
  obtain ⟨⟨hx, hb, hml, hown, hts⟩, hK, -⟩ := id C0
  intro t_gapCount t_gaps x1 x2 H locs ls hP hD hS hl hF
  unfold J_X5_addGap_50 at hF
  refine lv_aload_n hx hb dX5_addGap_50 rfl (lv_at hl 0 rfl) ?_
  refine va_get (D := D) (ci := 5) (v := .ref (g_t 1)) (C := RX5) (T := TX5) (N := 13) hx hb hts iw_X5_addGap_X5 hown hK hP 0 rfl rfl 0 (by decide) (hts _ fl_X5_addGap_9) (fun _ h9 => h9) rfl dX5_addGap_51 ?_
  refine lv_iload_n hx hb dX5_addGap_54 rfl (lv_at hl 2 rfl) ?_
  refine lv_iload_n hx hb dX5_addGap_55 rfl (lv_at hl 1 rfl) ?_
  obtain ⟨hg_1, hF⟩ := gd_some hF
  refine xs_i (f := t_gaps) hx hb hK hP hD hS 1 0 rfl rfl rfl (in_v hg_1) dX5_addGap_56 (fun H locs hP hD hS => ?_)
  have hP : va_P D vwCl (w_X5_addGap K g_t t_gapCount t_targetCount t_lookCount t_time t_gone (upd t_gaps (x2).toNatClampNeg x1)) H := hP
  have hD : va_D A (w_X5_addGap K g_t t_gapCount t_targetCount t_lookCount t_time t_gone (upd t_gaps (x2).toNatClampNeg x1)) := hD
  refine lv_aload_n hx hb dX5_addGap_57 rfl (lv_at hl 0 rfl) ?_
  refine lv_dup hx hb dX5_addGap_58 rfl ?_
  refine va_get (D := D) (ci := 5) (v := .int t_gapCount) (C := RX5) (T := TX5) (N := 13) hx hb hts iw_X5_addGap_X5 hown hK hP 0 rfl rfl 8 (by decide) (hts _ fl_X5_addGap_45) (fun _ h9 => h9) rfl dX5_addGap_59 ?_
  refine lv_iconst (v := 1) hx hb dX5_addGap_62 (by decide) ?_
  refine lv_iadd hx hb dX5_addGap_63 ?_
  refine va_put (D := D) (ci := 5) (v := .int (t_gapCount + (1 : Int32))) (ty := .int) (C := RX5) (T := TX5) (N := 13) hx hb hts iw_X5_addGap_X5 tyX5 tyX5_ok nmX5 hown hK hP hD hS 0 rfl rfl 8 (by decide) (hts _ fl_X5_addGap_45) (fun _ h9 => h9) rfl (by decide +kernel) rfl rfl (Nat.le_of_ble_eq_true rfl) dX5_addGap_64 (fun H locs hP hD hS => ?_)
  have hP : va_P D vwCl (w_X5_addGap K g_t (t_gapCount + (1 : Int32)) t_targetCount t_lookCount t_time t_gone (upd t_gaps (x2).toNatClampNeg x1)) H := hP
  have hD : va_D A (w_X5_addGap K g_t (t_gapCount + (1 : Int32)) t_targetCount t_lookCount t_time t_gone (upd t_gaps (x2).toNatClampNeg x1)) := hD
  obtain rfl := Option.some.inj hF
  exact HR 67 H locs ls dX5_addGap_67 hP hD hS
def L_X5_addGap_14  : Nat → Int32 → (Nat → Int32) → Int32 → Int32 → Option (Int32 × (Nat → Int32))
  | 0, _, _, _, _ => none
  | n_ + 1, t_gapCount, t_gaps, x1, x2 =>
    if x2 ≤ (0 : Int32) then (J_X5_addGap_50 t_gapCount t_gaps x1 x2) else (gd_ (in_b (x2 - (1 : Int32)) 5) (if (t_gaps (x2 - (1 : Int32)).toNatClampNeg) ≤ x1 then (J_X5_addGap_50 t_gapCount t_gaps x1 x2) else (gd_ (in_b (x2 - (1 : Int32)) 5) (gd_ (in_b x2 5) (L_X5_addGap_14 n_ t_gapCount (upd t_gaps (x2).toNatClampNeg (t_gaps (x2 - (1 : Int32)).toNatClampNeg)) x1 (x2 + (-1 : Int32)))))))
set_option maxHeartbeats 4000000 in
set_option maxRecDepth 100000 in
theorem w_X5_addGap_14 {p : Program} {l : Launch} {e : Env} {s : State} {m : MethodId} {args : Array Value} {below : List Frame} {meth : Method} {c : Code} {D : va_G} {K : Nat → ClassId} {A : Nat → Prop} {Q : State → Prop} (C0 : cx_ p s m args c cX5_addGap 3 RX5 wsX5_addGap D K A) {g_t : Nat → Nat} {t_targetCount : Int32} {t_lookCount : Int32} {t_time : Int32} {t_gone : Int32} {res : Int32 × (Nat → Int32)} (HR : ∀ (pc : Nat) (H : Heap) (locs : List Loc) (ls : Array Slot), decode cX5_addGap pc = .ok (.return_, 1) → va_P D vwCl (w_X5_addGap K g_t res.1 t_targetCount t_lookCount t_time t_gone res.2) H → va_D A (w_X5_addGap K g_t res.1 t_targetCount t_lookCount t_time t_gone res.2) → va_S A s.heap H locs → W p l e rmX5_addGap s m args below meth c H locs 0 0 Q (F0 m pc ls []))  :
    ∀ (n_ : Nat) (t_gapCount : Int32) (t_gaps : Nat → Int32) (x1 : Int32) (x2 : Int32) (H : Heap) (locs : List Loc) (ls : Array Slot), va_P D vwCl (w_X5_addGap K g_t t_gapCount t_targetCount t_lookCount t_time t_gone t_gaps) H → va_D A (w_X5_addGap K g_t t_gapCount t_targetCount t_lookCount t_time t_gone t_gaps) → va_S A s.heap H locs → lv_has ls 3 [(0, .ref (g_t 0)), (1, .int x1), (2, .int x2)] → L_X5_addGap_14 n_ t_gapCount t_gaps x1 x2 = some res → W p l e rmX5_addGap s m args below meth c H locs 0 0 Q (F0 m 14 ls []) := by
  obtain ⟨⟨hx, hb, hml, hown, hts⟩, hK, -⟩ := id C0
  intro n_
  induction n_ with
  | zero =>
    intro t_gapCount t_gaps x1 x2 H locs ls hP hD hS hl hF
    exact no_s (show (none : Option (Int32 × (Nat → Int32))) = some res from hF)
  | succ n_ ih =>
    intro t_gapCount t_gaps x1 x2 H locs ls hP hD hS hl hF
    rw [L_X5_addGap_14] at hF
    refine lv_iload_n hx hb dX5_addGap_14 rfl (lv_at hl 2 rfl) ?_
    refine lv_if_le (tgt := 50) hx hb dX5_addGap_15 (by decide) (fun c_1 => ?_) (fun c_1 => ?_)
    · have hF := it_pos c_1 hF
      exact w_X5_addGap_50 C0 HR t_gapCount t_gaps x1 x2 H locs ls hP hD hS (lv_sub hl [0, 1, 2] rfl) hF
    · have hF := it_neg c_1 hF
      refine lv_aload_n hx hb dX5_addGap_18 rfl (lv_at hl 0 rfl) ?_
      refine va_get (D := D) (ci := 5) (v := .ref (g_t 1)) (C := RX5) (T := TX5) (N := 13) hx hb hts iw_X5_addGap_X5 hown hK hP 0 rfl rfl 0 (by decide) (hts _ fl_X5_addGap_9) (fun _ h9 => h9) rfl dX5_addGap_19 ?_
      refine lv_iload_n hx hb dX5_addGap_22 rfl (lv_at hl 2 rfl) ?_
      refine lv_iconst (v := 1) hx hb dX5_addGap_23 (by decide) ?_
      refine lv_isub hx hb dX5_addGap_24 ?_
      obtain ⟨hg_2, hF⟩ := gd_some hF
      refine xl_i (f := t_gaps) hx hb hK hP 1 0 rfl rfl rfl (in_v hg_2) dX5_addGap_25 ?_
      refine lv_iload_n hx hb dX5_addGap_26 rfl (lv_at hl 1 rfl) ?_
      refine lv_icmp_le (tgt := 50) hx hb dX5_addGap_27 (by decide) (fun c_3 => ?_) (fun c_3 => ?_)
      · have hF := it_pos c_3 hF
        exact w_X5_addGap_50 C0 HR t_gapCount t_gaps x1 x2 H locs ls hP hD hS (lv_sub hl [0, 1, 2] rfl) hF
      · have hF := it_neg c_3 hF
        refine lv_aload_n hx hb dX5_addGap_30 rfl (lv_at hl 0 rfl) ?_
        refine va_get (D := D) (ci := 5) (v := .ref (g_t 1)) (C := RX5) (T := TX5) (N := 13) hx hb hts iw_X5_addGap_X5 hown hK hP 0 rfl rfl 0 (by decide) (hts _ fl_X5_addGap_9) (fun _ h9 => h9) rfl dX5_addGap_31 ?_
        refine lv_iload_n hx hb dX5_addGap_34 rfl (lv_at hl 2 rfl) ?_
        refine lv_aload_n hx hb dX5_addGap_35 rfl (lv_at hl 0 rfl) ?_
        refine va_get (D := D) (ci := 5) (v := .ref (g_t 1)) (C := RX5) (T := TX5) (N := 13) hx hb hts iw_X5_addGap_X5 hown hK hP 0 rfl rfl 0 (by decide) (hts _ fl_X5_addGap_9) (fun _ h9 => h9) rfl dX5_addGap_36 ?_
        refine lv_iload_n hx hb dX5_addGap_39 rfl (lv_at hl 2 rfl) ?_
        refine lv_iconst (v := 1) hx hb dX5_addGap_40 (by decide) ?_
        refine lv_isub hx hb dX5_addGap_41 ?_
        obtain ⟨hg_4, hF⟩ := gd_some hF
        refine xl_i (f := t_gaps) hx hb hK hP 1 0 rfl rfl rfl (in_v hg_4) dX5_addGap_42 ?_
        obtain ⟨hg_5, hF⟩ := gd_some hF
        refine xs_i (f := t_gaps) hx hb hK hP hD hS 1 0 rfl rfl rfl (in_v hg_5) dX5_addGap_43 (fun H locs hP hD hS => ?_)
        have hP : va_P D vwCl (w_X5_addGap K g_t t_gapCount t_targetCount t_lookCount t_time t_gone (upd t_gaps (x2).toNatClampNeg (t_gaps (x2 - (1 : Int32)).toNatClampNeg))) H := hP
        have hD : va_D A (w_X5_addGap K g_t t_gapCount t_targetCount t_lookCount t_time t_gone (upd t_gaps (x2).toNatClampNeg (t_gaps (x2 - (1 : Int32)).toNatClampNeg))) := hD
        refine lv_iinc (v := (x2 + (-1 : Int32))) (lv' := [(2, .int (x2 + (-1 : Int32))), (0, .ref (g_t 0)), (1, .int x1)]) hx hb dX5_addGap_44 hl (k := 2) rfl (congrArg (fun z => x2 + z) (by decide)) (by decide) rfl (fun ls hl => ?_)
        refine lv_goto (tgt := 14) hx hb dX5_addGap_47 (by decide) ?_
        exact ih t_gapCount (upd t_gaps (x2).toNatClampNeg (t_gaps (x2 - (1 : Int32)).toNatClampNeg)) x1 (x2 + (-1 : Int32)) H locs ls hP hD hS (lv_sub hl [1, 2, 0] rfl) hF
def F_X5_addGap (t_gapCount : Int32) (t_gaps : Nat → Int32) (x1 : Int32) : Option (Int32 × (Nat → Int32)) :=
  if t_gapCount < (5 : Int32) then (L_X5_addGap_14 fu_ t_gapCount t_gaps x1 t_gapCount) else (some (t_gapCount, t_gaps))
set_option maxHeartbeats 4000000 in
set_option maxRecDepth 100000 in
theorem c_X5_addGap (l : Launch) (D : va_G) (K : Nat → ClassId) (g_t : Nat → Nat) (t_gapCount : Int32) (t_targetCount : Int32) (t_lookCount : Int32) (t_time : Int32) (t_gone : Int32) (t_gaps : Nat → Int32) (x1 : Int32) (res : Int32 × (Nat → Int32)) (hF : F_X5_addGap t_gapCount t_gaps x1 = some res) :
    Mv_ l yX5_addGap wsX5_addGap rmX5_addGap D K [.ref (g_t 0), .int x1] (w_X5_addGap K g_t t_gapCount t_targetCount t_lookCount t_time t_gone t_gaps) (w_X5_addGap K g_t res.1 t_targetCount t_lookCount t_time t_gone res.2) := by
  refine en_v (cc := cX5_addGap) (maxL := 3) (own := RX5) (by decide) rfl rfl (Nat.le_of_ble_eq_true rfl) ?_
  intro p e s m args below meth c A Q H locs ls C0 hP hD hS hl HR
  obtain ⟨⟨hx, hb, hml, hown, hts⟩, hK, -⟩ := id C0
  have hl : lv_has ls 3 [(0, .ref (g_t 0)), (1, .int x1)] := hl
  unfold F_X5_addGap at hF
  refine lv_aload_n hx hb dX5_addGap_0 rfl (lv_at hl 0 rfl) ?_
  refine va_get (D := D) (ci := 5) (v := .int t_gapCount) (C := RX5) (T := TX5) (N := 13) hx hb hts iw_X5_addGap_X5 hown hK hP 0 rfl rfl 8 (by decide) (hts _ fl_X5_addGap_45) (fun _ h9 => h9) rfl dX5_addGap_1 ?_
  refine lv_iconst (v := 5) hx hb dX5_addGap_4 (by decide) ?_
  refine lv_icmp_lt (tgt := 9) hx hb dX5_addGap_5 (by decide) (fun c_1 => ?_) (fun c_1 => ?_)
  · have hF := it_pos c_1 hF
    refine lv_aload_n hx hb dX5_addGap_9 rfl (lv_at hl 0 rfl) ?_
    refine va_get (D := D) (ci := 5) (v := .int t_gapCount) (C := RX5) (T := TX5) (N := 13) hx hb hts iw_X5_addGap_X5 hown hK hP 0 rfl rfl 8 (by decide) (hts _ fl_X5_addGap_45) (fun _ h9 => h9) rfl dX5_addGap_10 ?_
    refine lv_istore_n (lv' := [(2, .int t_gapCount), (0, .ref (g_t 0)), (1, .int x1)]) hx hb dX5_addGap_13 rfl hl (by decide) rfl (fun ls hl => ?_)
    exact w_X5_addGap_14 C0 HR fu_ t_gapCount t_gaps x1 t_gapCount H locs ls hP hD hS (lv_sub hl [1, 2, 0] rfl) hF
  · have hF := it_neg c_1 hF
    obtain rfl := Option.some.inj hF
    exact HR 8 H locs ls dX5_addGap_8 hP hD hS

/-! StaggerRadar.gap(IZ)I -/
abbrev rmX10_gap : Room := { frames := 3, cells := 0, slots := 0, locals := 102 }
theorem fl_X10_gap_10 : Cond.fieldLink RX10 10 "StaggerRadar" "radar" "LStaggerRadar$Radar;" ∈ wsX10_gap := by decide +kernel
theorem fl_X10_gap_36 : Cond.fieldLink RX10 36 "StaggerRadar" "history" "LStaggerRadar$History;" ∈ wsX10_gap := by decide +kernel
theorem fl_X10_gap_122 : Cond.fieldLink RX10 122 "StaggerRadar$Radar" "gapCount" "I" ∈ wsX10_gap := by decide +kernel
theorem iw_X10_gap_X10 : ∀ w ∈ u_ws RX10 TX10 14, w ∈ wsX10_gap := by decide +kernel
theorem iw_X10_gap_X4 : ∀ w ∈ u_ws RX4 TX4 3, w ∈ wsX10_gap := by decide +kernel
theorem iw_X10_gap_X5 : ∀ w ∈ u_ws RX5 TX5 13, w ∈ wsX10_gap := by decide +kernel
abbrev w_X10_gap (K : Nat → ClassId) (g_t : Nat → Nat) (g_t_radar : Nat → Nat) (g_t_draft : Nat → Nat) (g_t_text : Nat → Nat) (g_t_reader : Nat → Nat) (g_t_history : Nat → Nat) (g_t_echoes : Nat → Nat) (g_t_tracks : Nat → Nat) (g_t_dwelling : Nat → Nat) (g_t_chooser : Nat → Nat) (g_t_adviser : Nat → Nat) (g_t_history_ring : Nat → Nat → Nat) (t_radar_gapCount : Int32) (t_radar_targetCount : Int32) (t_radar_lookCount : Int32) (t_radar_time : Int32) (t_radar_gone : Int32) (t_radar_gaps : Nat → Int32) (t_radar_settings : Nat → Int32) (t_radar_spots : Nat → Int32) (t_radar_speeds : Nat → Int32) (t_radar_strengths : Nat → Int32) (t_radar_lookTimes : Nat → Int32) (t_radar_lookSizes : Nat → Int32) (t_radar_lookNumbers : Nat → Int32) (t_history_oldest : Int32) (t_history_size : Int32) (t_history_ring_e : Nat → RT_X5) : va_W := [((g_t 0), .inr (9, [.ref (g_t_radar 0), .ref (g_t_draft 0), .ref (g_t_text 0), .ref (g_t_reader 0), .ref (g_t_history 0), .ref (g_t 6), .ref (g_t 7), .ref (g_t 8), .ref (g_t_echoes 0), .ref (g_t_tracks 0), .ref (g_t_dwelling 0), .ref (g_t_chooser 0), .ref (g_t_adviser 0), .ref (g_t 14)])), ((g_t_radar 0), .inr (5, [.ref (g_t_radar 1), .ref (g_t_radar 2), .ref (g_t_radar 3), .ref (g_t_radar 4), .ref (g_t_radar 5), .ref (g_t_radar 6), .ref (g_t_radar 7), .ref (g_t_radar 8), .int t_radar_gapCount, .int t_radar_targetCount, .int t_radar_lookCount, .int t_radar_time, .int t_radar_gone])), ((g_t_radar 1), .inl (K 0, 5, .inl t_radar_gaps)), ((g_t_radar 2), .inl (K 0, 7, .inl t_radar_settings)), ((g_t_radar 3), .inl (K 0, 8, .inl t_radar_spots)), ((g_t_radar 4), .inl (K 0, 8, .inl t_radar_speeds)), ((g_t_radar 5), .inl (K 0, 8, .inl t_radar_strengths)), ((g_t_radar 6), .inl (K 0, 4, .inl t_radar_lookTimes)), ((g_t_radar 7), .inl (K 0, 4, .inl t_radar_lookSizes)), ((g_t_radar 8), .inl (K 0, 48, .inl t_radar_lookNumbers)), ((g_t_history 0), .inr (4, [.ref (g_t_history 1), .int t_history_oldest, .int t_history_size])), ((g_t_history 1), .inl (K 4, 8, .inr (.inr (.inr (.inr (fun i_ => some (g_t_history_ring i_ 0)))))))] ++ (rc_X5 K (g_t_history_ring 0) (t_history_ring_e 0) ++ (rc_X5 K (g_t_history_ring 1) (t_history_ring_e 1) ++ (rc_X5 K (g_t_history_ring 2) (t_history_ring_e 2) ++ (rc_X5 K (g_t_history_ring 3) (t_history_ring_e 3) ++ (rc_X5 K (g_t_history_ring 4) (t_history_ring_e 4) ++ (rc_X5 K (g_t_history_ring 5) (t_history_ring_e 5) ++ (rc_X5 K (g_t_history_ring 6) (t_history_ring_e 6) ++ (rc_X5 K (g_t_history_ring 7) (t_history_ring_e 7)))))))))
def F_X10_gap (t_radar_gapCount : Int32) (t_radar_targetCount : Int32) (t_radar_lookCount : Int32) (t_radar_time : Int32) (t_radar_gone : Int32) (t_radar_gaps : Nat → Int32) (t_radar_settings : Nat → Int32) (t_radar_spots : Nat → Int32) (t_radar_speeds : Nat → Int32) (t_radar_strengths : Nat → Int32) (t_radar_lookTimes : Nat → Int32) (t_radar_lookSizes : Nat → Int32) (t_radar_lookNumbers : Nat → Int32) (t_history_oldest : Int32) (t_history_size : Int32) (t_history_ring_e : Nat → RT_X5) (x1 : Int32) (x2 : Int32) : Option (Int32 × Int32 × (Nat → Int32) × Int32 × Int32 × (Nat → RT_X5)) :=
  (F_X5_indexOfGap t_radar_gapCount t_radar_gaps x1).bind fun r_1 => (if x2 = (0 : Int32) then ((F_X10_isGap x1).bind fun r_4 => (if r_4 = (0 : Int32) then (some ((-1 : Int32), t_radar_gapCount, t_radar_gaps, t_history_oldest, t_history_size, t_history_ring_e)) else (if r_1 = (-1 : Int32) then (if t_radar_gapCount < (5 : Int32) then ((F_X4_save t_history_oldest t_history_size t_history_ring_e t_radar_gapCount t_radar_targetCount t_radar_lookCount t_radar_time t_radar_gone t_radar_gaps t_radar_settings t_radar_spots t_radar_speeds t_radar_strengths t_radar_lookTimes t_radar_lookSizes t_radar_lookNumbers).bind fun r_9 => ((F_X5_addGap t_radar_gapCount t_radar_gaps x1).bind fun r_11 => (some (r_11.1, r_11.1, r_11.2, r_9.1, r_9.2.1, r_9.2.2)))) else (some ((-1 : Int32), t_radar_gapCount, t_radar_gaps, t_history_oldest, t_history_size, t_history_ring_e))) else (some ((-1 : Int32), t_radar_gapCount, t_radar_gaps, t_history_oldest, t_history_size, t_history_ring_e))))) else (if r_1 = (-1 : Int32) then (some ((-1 : Int32), t_radar_gapCount, t_radar_gaps, t_history_oldest, t_history_size, t_history_ring_e)) else ((F_X4_save t_history_oldest t_history_size t_history_ring_e t_radar_gapCount t_radar_targetCount t_radar_lookCount t_radar_time t_radar_gone t_radar_gaps t_radar_settings t_radar_spots t_radar_speeds t_radar_strengths t_radar_lookTimes t_radar_lookSizes t_radar_lookNumbers).bind fun r_14 => ((F_X5_dropGap t_radar_gapCount t_radar_gaps r_1).bind fun r_16 => (some (r_16.1, r_16.1, r_16.2, r_14.1, r_14.2.1, r_14.2.2))))))
set_option maxHeartbeats 4000000 in
set_option maxRecDepth 100000 in
theorem c_X10_gap (l : Launch) (D : va_G) (K : Nat → ClassId) (g_t : Nat → Nat) (g_t_radar : Nat → Nat) (g_t_draft : Nat → Nat) (g_t_text : Nat → Nat) (g_t_reader : Nat → Nat) (g_t_history : Nat → Nat) (g_t_echoes : Nat → Nat) (g_t_tracks : Nat → Nat) (g_t_dwelling : Nat → Nat) (g_t_chooser : Nat → Nat) (g_t_adviser : Nat → Nat) (g_t_history_ring : Nat → Nat → Nat) (t_radar_gapCount : Int32) (t_radar_targetCount : Int32) (t_radar_lookCount : Int32) (t_radar_time : Int32) (t_radar_gone : Int32) (t_radar_gaps : Nat → Int32) (t_radar_settings : Nat → Int32) (t_radar_spots : Nat → Int32) (t_radar_speeds : Nat → Int32) (t_radar_strengths : Nat → Int32) (t_radar_lookTimes : Nat → Int32) (t_radar_lookSizes : Nat → Int32) (t_radar_lookNumbers : Nat → Int32) (t_history_oldest : Int32) (t_history_size : Int32) (t_history_ring_e : Nat → RT_X5) (x1 : Int32) (x2 : Int32) (res : Int32 × Int32 × (Nat → Int32) × Int32 × Int32 × (Nat → RT_X5)) (hF : F_X10_gap t_radar_gapCount t_radar_targetCount t_radar_lookCount t_radar_time t_radar_gone t_radar_gaps t_radar_settings t_radar_spots t_radar_speeds t_radar_strengths t_radar_lookTimes t_radar_lookSizes t_radar_lookNumbers t_history_oldest t_history_size t_history_ring_e x1 x2 = some res) :
    Mi_ l yX10_gap wsX10_gap rmX10_gap D K [.ref (g_t 0), .int x1, .int x2] (w_X10_gap K g_t g_t_radar g_t_draft g_t_text g_t_reader g_t_history g_t_echoes g_t_tracks g_t_dwelling g_t_chooser g_t_adviser g_t_history_ring t_radar_gapCount t_radar_targetCount t_radar_lookCount t_radar_time t_radar_gone t_radar_gaps t_radar_settings t_radar_spots t_radar_speeds t_radar_strengths t_radar_lookTimes t_radar_lookSizes t_radar_lookNumbers t_history_oldest t_history_size t_history_ring_e) (w_X10_gap K g_t g_t_radar g_t_draft g_t_text g_t_reader g_t_history g_t_echoes g_t_tracks g_t_dwelling g_t_chooser g_t_adviser g_t_history_ring res.2.1 t_radar_targetCount t_radar_lookCount t_radar_time t_radar_gone res.2.2.1 t_radar_settings t_radar_spots t_radar_speeds t_radar_strengths t_radar_lookTimes t_radar_lookSizes t_radar_lookNumbers res.2.2.2.1 res.2.2.2.2.1 res.2.2.2.2.2) (res.1) := by
  refine en_i (cc := cX10_gap) (maxL := 4) (own := RX10) (by decide) rfl rfl (Nat.le_of_ble_eq_true rfl) ?_
  intro p e s m args below meth c A Q H locs ls C0 hP hD hS hl HR
  obtain ⟨⟨hx, hb, hml, hown, hts⟩, hK, -⟩ := id C0
  have hl : lv_has ls 4 [(0, .ref (g_t 0)), (1, .int x1), (2, .int x2)] := hl
  unfold F_X10_gap at hF
  refine lv_aload_n hx hb dX10_gap_0 rfl (lv_at hl 0 rfl) ?_
  refine va_get (D := D) (ci := 9) (v := .ref (g_t_radar 0)) (C := RX10) (T := TX10) (N := 14) hx hb hts iw_X10_gap_X10 hown hK hP 0 rfl rfl 0 (by decide) (hts _ fl_X10_gap_10) (fun _ h9 => h9) rfl dX10_gap_1 ?_
  refine lv_iload_n hx hb dX10_gap_4 rfl (lv_at hl 1 rfl) ?_
  obtain ⟨r_1, hc_2, hF⟩ := bn_some hF
  refine xc_i (wn := (w_X10_gap K g_t g_t_radar g_t_draft g_t_text g_t_reader g_t_history g_t_echoes g_t_tracks g_t_dwelling g_t_chooser g_t_adviser g_t_history_ring t_radar_gapCount t_radar_targetCount t_radar_lookCount t_radar_time t_radar_gone t_radar_gaps t_radar_settings t_radar_spots t_radar_speeds t_radar_strengths t_radar_lookTimes t_radar_lookSizes t_radar_lookNumbers t_history_oldest t_history_size t_history_ring_e)) hP hD hS C0.2.2.1 [1, 2] [0, 3, 4, 5, 6, 7, 8, 9, 10, 11, 12, 13, 14, 15, 16, 17, 18, 19, 20, 21, 22, 23, 24, 25, 26, 27, 28, 29, 30, 31, 32, 33, 34, 35, 36, 37, 38, 39, 40, 41, 42, 43, 44, 45, 46, 47, 48, 49, 50, 51, 52, 53, 54, 55, 56, 57, 58, 59, 60, 61, 62, 63, 64, 65, 66, 67, 68, 69, 70, 71, 72, 73, 74, 75, 76, 77, 78, 79, 80, 81, 82, 83] [0, 82, 83, 1, 2, 3, 4, 5, 6, 7, 8, 9, 10, 11, 12, 13, 14, 15, 16, 17, 18, 19, 20, 21, 22, 23, 24, 25, 26, 27, 28, 29, 30, 31, 32, 33, 34, 35, 36, 37, 38, 39, 40, 41, 42, 43, 44, 45, 46, 47, 48, 49, 50, 51, 52, 53, 54, 55, 56, 57, 58, 59, 60, 61, 62, 63, 64, 65, 66, 67, 68, 69, 70, 71, 72, 73, 74, 75, 76, 77, 78, 79, 80, 81] rfl rfl (by decide) (by decide) rfl (by decide) (va_runV (As := [.int x1]) (rest := []) C0.1 (c_X5_indexOfGap l D K g_t_radar t_radar_gapCount t_radar_targetCount t_radar_lookCount t_radar_time t_radar_gone t_radar_gaps x1 r_1 hc_2 H.size) (cwV 1 hts gX10_gap_X5_indexOfGap rfl rfl rfl (by decide +kernel) ⟨Nat.le_of_ble_eq_true rfl, Nat.le_of_ble_eq_true rfl⟩) (xp_V C0.2 hP hD hS [1, 2] rfl (by decide) 5 0 rfl rfl rfl) rfl rfl hl.1 rfl (lv_room (Nat.le_of_ble_eq_true rfl)) dX10_gap_5 ⟨Nat.le_of_ble_eq_true rfl, Nat.le_of_ble_eq_true rfl⟩) (fun H locs hP hD hS => ?_)
  refine lv_istore_n (lv' := [(3, .int r_1), (0, .ref (g_t 0)), (1, .int x1), (2, .int x2)]) hx hb dX10_gap_8 rfl hl (by decide) rfl (fun ls hl => ?_)
  refine lv_iload_n hx hb dX10_gap_9 rfl (lv_at hl 3 rfl) ?_
  refine lv_if_eq (tgt := 47) hx hb dX10_gap_10 (by decide) (fun c_3 => ?_) (fun c_3 => ?_)
  · have hF := it_pos c_3 hF
    refine lv_iload_n hx hb dX10_gap_47 rfl (lv_at hl 2 rfl) ?_
    obtain ⟨r_4, hc_5, hF⟩ := bn_some hF
    refine xc_i (wn := (w_X10_gap K g_t g_t_radar g_t_draft g_t_text g_t_reader g_t_history g_t_echoes g_t_tracks g_t_dwelling g_t_chooser g_t_adviser g_t_history_ring t_radar_gapCount t_radar_targetCount t_radar_lookCount t_radar_time t_radar_gone t_radar_gaps t_radar_settings t_radar_spots t_radar_speeds t_radar_strengths t_radar_lookTimes t_radar_lookSizes t_radar_lookNumbers t_history_oldest t_history_size t_history_ring_e)) hP hD hS C0.2.2.1 [] [0, 1, 2, 3, 4, 5, 6, 7, 8, 9, 10, 11, 12, 13, 14, 15, 16, 17, 18, 19, 20, 21, 22, 23, 24, 25, 26, 27, 28, 29, 30, 31, 32, 33, 34, 35, 36, 37, 38, 39, 40, 41, 42, 43, 44, 45, 46, 47, 48, 49, 50, 51, 52, 53, 54, 55, 56, 57, 58, 59, 60, 61, 62, 63, 64, 65, 66, 67, 68, 69, 70, 71, 72, 73, 74, 75, 76, 77, 78, 79, 80, 81, 82, 83] [0, 1, 2, 3, 4, 5, 6, 7, 8, 9, 10, 11, 12, 13, 14, 15, 16, 17, 18, 19, 20, 21, 22, 23, 24, 25, 26, 27, 28, 29, 30, 31, 32, 33, 34, 35, 36, 37, 38, 39, 40, 41, 42, 43, 44, 45, 46, 47, 48, 49, 50, 51, 52, 53, 54, 55, 56, 57, 58, 59, 60, 61, 62, 63, 64, 65, 66, 67, 68, 69, 70, 71, 72, 73, 74, 75, 76, 77, 78, 79, 80, 81, 82, 83] rfl rfl (by decide) (by decide) rfl (by decide) (va_runS (As := [.int x1]) (rest := []) C0.1 (c_X10_isGap l D K x1 r_4 hc_5 H.size) (va_cwS 1 hts gX10_gap_X10_isGap rfl rfl rfl (by decide +kernel) ⟨Nat.le_of_ble_eq_true rfl, Nat.le_of_ble_eq_true rfl⟩) (xp_S C0.2 hP hD hS [] rfl (by decide)) rfl rfl hl.1 rfl (lv_room (Nat.le_of_ble_eq_true rfl)) dX10_gap_48 ⟨Nat.le_of_ble_eq_true rfl, Nat.le_of_ble_eq_true rfl⟩) (fun H locs hP hD hS => ?_)
    refine lv_if_eq (tgt := 70) hx hb dX10_gap_51 (by decide) (fun c_6 => ?_) (fun c_6 => ?_)
    · have hF := it_pos c_6 hF
      refine lv_iconst (v := (-1)) hx hb dX10_gap_70 (by decide) ?_
      obtain rfl := Option.some.inj hF
      exact HR 71 H locs ls dX10_gap_71 hP hD hS
    · have hF := it_neg c_6 hF
      refine lv_iload_n hx hb dX10_gap_54 rfl (lv_at hl 0 rfl) ?_
      refine lv_iconst (v := (-1)) hx hb dX10_gap_55 (by decide) ?_
      refine lv_icmp_ne (tgt := 70) hx hb dX10_gap_56 (by decide) (fun c_7 => ?_) (fun c_7 => ?_)
      · have hF := it_neg c_7 hF
        refine lv_iconst (v := (-1)) hx hb dX10_gap_70 (by decide) ?_
        obtain rfl := Option.some.inj hF
        exact HR 71 H locs ls dX10_gap_71 hP hD hS
      · have hF := it_pos c_7 hF
        refine lv_aload_n hx hb dX10_gap_59 rfl (lv_at hl 1 rfl) ?_
        refine va_get (D := D) (ci := 9) (v := .ref (g_t_radar 0)) (C := RX10) (T := TX10) (N := 14) hx hb hts iw_X10_gap_X10 hown hK hP 0 rfl rfl 0 (by decide) (hts _ fl_X10_gap_10) (fun _ h9 => h9) rfl dX10_gap_60 ?_
        refine va_get (D := D) (ci := 5) (v := .int t_radar_gapCount) (C := RX5) (T := TX5) (N := 13) hx hb hts iw_X10_gap_X5 hown hK hP 1 rfl rfl 8 (by decide) (hts _ fl_X10_gap_122) (fun _ h9 => h9) rfl dX10_gap_63 ?_
        refine lv_iconst (v := 5) hx hb dX10_gap_66 (by decide) ?_
        refine lv_icmp_lt (tgt := 72) hx hb dX10_gap_67 (by decide) (fun c_8 => ?_) (fun c_8 => ?_)
        · have hF := it_pos c_8 hF
          refine lv_aload_n hx hb dX10_gap_72 rfl (lv_at hl 1 rfl) ?_
          refine va_get (D := D) (ci := 9) (v := .ref (g_t_history 0)) (C := RX10) (T := TX10) (N := 14) hx hb hts iw_X10_gap_X10 hown hK hP 0 rfl rfl 4 (by decide) (hts _ fl_X10_gap_36) (fun _ h9 => h9) rfl dX10_gap_73 ?_
          refine lv_aload_n hx hb dX10_gap_76 rfl (lv_at hl 1 rfl) ?_
          refine va_get (D := D) (ci := 9) (v := .ref (g_t_radar 0)) (C := RX10) (T := TX10) (N := 14) hx hb hts iw_X10_gap_X10 hown hK hP 0 rfl rfl 0 (by decide) (hts _ fl_X10_gap_10) (fun _ h9 => h9) rfl dX10_gap_77 ?_
          obtain ⟨r_9, hc_10, hF⟩ := bn_some hF
          refine xc_v (wn := (w_X10_gap K g_t g_t_radar g_t_draft g_t_text g_t_reader g_t_history g_t_echoes g_t_tracks g_t_dwelling g_t_chooser g_t_adviser g_t_history_ring t_radar_gapCount t_radar_targetCount t_radar_lookCount t_radar_time t_radar_gone t_radar_gaps t_radar_settings t_radar_spots t_radar_speeds t_radar_strengths t_radar_lookTimes t_radar_lookSizes t_radar_lookNumbers r_9.1 r_9.2.1 r_9.2.2)) hP hD hS C0.2.2.1 [10, 11, 12, 13, 14, 15, 16, 17, 18, 19, 20, 21, 22, 23, 24, 25, 26, 27, 28, 29, 30, 31, 32, 33, 34, 35, 36, 37, 38, 39, 40, 41, 42, 43, 44, 45, 46, 47, 48, 49, 50, 51, 52, 53, 54, 55, 56, 57, 58, 59, 60, 61, 62, 63, 64, 65, 66, 67, 68, 69, 70, 71, 72, 73, 74, 75, 76, 77, 78, 79, 80, 81, 82, 83, 1, 2, 3, 4, 5, 6, 7, 8, 9] [0] [0, 75, 76, 77, 78, 79, 80, 81, 82, 83, 1, 2, 3, 4, 5, 6, 7, 8, 9, 10, 11, 12, 13, 14, 15, 16, 17, 18, 19, 20, 21, 22, 23, 24, 25, 26, 27, 28, 29, 30, 31, 32, 33, 34, 35, 36, 37, 38, 39, 40, 41, 42, 43, 44, 45, 46, 47, 48, 49, 50, 51, 52, 53, 54, 55, 56, 57, 58, 59, 60, 61, 62, 63, 64, 65, 66, 67, 68, 69, 70, 71, 72, 73, 74] rfl rfl (by decide) (by decide) rfl (by decide) (va_runV (As := [.ref (g_t_radar 0)]) (rest := []) C0.1 (c_X4_save l D K g_t_history g_t_history_ring g_t_radar t_history_oldest t_history_size t_history_ring_e t_radar_gapCount t_radar_targetCount t_radar_lookCount t_radar_time t_radar_gone t_radar_gaps t_radar_settings t_radar_spots t_radar_speeds t_radar_strengths t_radar_lookTimes t_radar_lookSizes t_radar_lookNumbers r_9 hc_10 H.size) (cwV 1 hts gX10_gap_X4_save rfl rfl rfl (by decide +kernel) ⟨Nat.le_of_ble_eq_true rfl, Nat.le_of_ble_eq_true rfl⟩) (xp_V C0.2 hP hD hS [10, 11, 12, 13, 14, 15, 16, 17, 18, 19, 20, 21, 22, 23, 24, 25, 26, 27, 28, 29, 30, 31, 32, 33, 34, 35, 36, 37, 38, 39, 40, 41, 42, 43, 44, 45, 46, 47, 48, 49, 50, 51, 52, 53, 54, 55, 56, 57, 58, 59, 60, 61, 62, 63, 64, 65, 66, 67, 68, 69, 70, 71, 72, 73, 74, 75, 76, 77, 78, 79, 80, 81, 82, 83, 1, 2, 3, 4, 5, 6, 7, 8, 9] rfl (by decide) 4 0 rfl rfl rfl) rfl rfl hl.1 rfl (lv_room (Nat.le_of_ble_eq_true rfl)) dX10_gap_80 ⟨Nat.le_of_ble_eq_true rfl, Nat.le_of_ble_eq_true rfl⟩) (fun H locs hP hD hS => ?_)
          refine lv_aload_n hx hb dX10_gap_83 rfl (lv_at hl 1 rfl) ?_
          refine va_get (D := D) (ci := 9) (v := .ref (g_t_radar 0)) (C := RX10) (T := TX10) (N := 14) hx hb hts iw_X10_gap_X10 hown hK hP 0 rfl rfl 0 (by decide) (hts _ fl_X10_gap_10) (fun _ h9 => h9) rfl dX10_gap_84 ?_
          refine lv_iload_n hx hb dX10_gap_87 rfl (lv_at hl 2 rfl) ?_
          obtain ⟨r_11, hc_12, hF⟩ := bn_some hF
          refine xc_v (wn := (w_X10_gap K g_t g_t_radar g_t_draft g_t_text g_t_reader g_t_history g_t_echoes g_t_tracks g_t_dwelling g_t_chooser g_t_adviser g_t_history_ring r_11.1 t_radar_targetCount t_radar_lookCount t_radar_time t_radar_gone r_11.2 t_radar_settings t_radar_spots t_radar_speeds t_radar_strengths t_radar_lookTimes t_radar_lookSizes t_radar_lookNumbers r_9.1 r_9.2.1 r_9.2.2)) hP hD hS C0.2.2.1 [1, 2] [0, 3, 4, 5, 6, 7, 8, 9, 10, 11, 12, 13, 14, 15, 16, 17, 18, 19, 20, 21, 22, 23, 24, 25, 26, 27, 28, 29, 30, 31, 32, 33, 34, 35, 36, 37, 38, 39, 40, 41, 42, 43, 44, 45, 46, 47, 48, 49, 50, 51, 52, 53, 54, 55, 56, 57, 58, 59, 60, 61, 62, 63, 64, 65, 66, 67, 68, 69, 70, 71, 72, 73, 74, 75, 76, 77, 78, 79, 80, 81, 82, 83] [0, 82, 83, 1, 2, 3, 4, 5, 6, 7, 8, 9, 10, 11, 12, 13, 14, 15, 16, 17, 18, 19, 20, 21, 22, 23, 24, 25, 26, 27, 28, 29, 30, 31, 32, 33, 34, 35, 36, 37, 38, 39, 40, 41, 42, 43, 44, 45, 46, 47, 48, 49, 50, 51, 52, 53, 54, 55, 56, 57, 58, 59, 60, 61, 62, 63, 64, 65, 66, 67, 68, 69, 70, 71, 72, 73, 74, 75, 76, 77, 78, 79, 80, 81] rfl rfl (by decide) (by decide) rfl (by decide) (va_runV (As := [.int x1]) (rest := []) C0.1 (c_X5_addGap l D K g_t_radar t_radar_gapCount t_radar_targetCount t_radar_lookCount t_radar_time t_radar_gone t_radar_gaps x1 r_11 hc_12 H.size) (cwV 1 hts gX10_gap_X5_addGap rfl rfl rfl (by decide +kernel) ⟨Nat.le_of_ble_eq_true rfl, Nat.le_of_ble_eq_true rfl⟩) (xp_V C0.2 hP hD hS [1, 2] rfl (by decide) 5 0 rfl rfl rfl) rfl rfl hl.1 rfl (lv_room (Nat.le_of_ble_eq_true rfl)) dX10_gap_88 ⟨Nat.le_of_ble_eq_true rfl, Nat.le_of_ble_eq_true rfl⟩) (fun H locs hP hD hS => ?_)
          refine lv_aload_n hx hb dX10_gap_91 rfl (lv_at hl 1 rfl) ?_
          refine va_get (D := D) (ci := 9) (v := .ref (g_t_radar 0)) (C := RX10) (T := TX10) (N := 14) hx hb hts iw_X10_gap_X10 hown hK hP 0 rfl rfl 0 (by decide) (hts _ fl_X10_gap_10) (fun _ h9 => h9) rfl dX10_gap_92 ?_
          refine va_get (D := D) (ci := 5) (v := .int r_11.1) (C := RX5) (T := TX5) (N := 13) hx hb hts iw_X10_gap_X5 hown hK hP 1 rfl rfl 8 (by decide) (hts _ fl_X10_gap_122) (fun _ h9 => h9) rfl dX10_gap_95 ?_
          obtain rfl := Option.some.inj hF
          exact HR 98 H locs ls dX10_gap_98 hP hD hS
        · have hF := it_neg c_8 hF
          refine lv_iconst (v := (-1)) hx hb dX10_gap_70 (by decide) ?_
          obtain rfl := Option.some.inj hF
          exact HR 71 H locs ls dX10_gap_71 hP hD hS
  · have hF := it_neg c_3 hF
    refine lv_iload_n hx hb dX10_gap_13 rfl (lv_at hl 0 rfl) ?_
    refine lv_iconst (v := (-1)) hx hb dX10_gap_14 (by decide) ?_
    refine lv_icmp_ne (tgt := 20) hx hb dX10_gap_15 (by decide) (fun c_13 => ?_) (fun c_13 => ?_)
    · have hF := it_neg c_13 hF
      refine lv_aload_n hx hb dX10_gap_20 rfl (lv_at hl 1 rfl) ?_
      refine va_get (D := D) (ci := 9) (v := .ref (g_t_history 0)) (C := RX10) (T := TX10) (N := 14) hx hb hts iw_X10_gap_X10 hown hK hP 0 rfl rfl 4 (by decide) (hts _ fl_X10_gap_36) (fun _ h9 => h9) rfl dX10_gap_21 ?_
      refine lv_aload_n hx hb dX10_gap_24 rfl (lv_at hl 1 rfl) ?_
      refine va_get (D := D) (ci := 9) (v := .ref (g_t_radar 0)) (C := RX10) (T := TX10) (N := 14) hx hb hts iw_X10_gap_X10 hown hK hP 0 rfl rfl 0 (by decide) (hts _ fl_X10_gap_10) (fun _ h9 => h9) rfl dX10_gap_25 ?_
      obtain ⟨r_14, hc_15, hF⟩ := bn_some hF
      refine xc_v (wn := (w_X10_gap K g_t g_t_radar g_t_draft g_t_text g_t_reader g_t_history g_t_echoes g_t_tracks g_t_dwelling g_t_chooser g_t_adviser g_t_history_ring t_radar_gapCount t_radar_targetCount t_radar_lookCount t_radar_time t_radar_gone t_radar_gaps t_radar_settings t_radar_spots t_radar_speeds t_radar_strengths t_radar_lookTimes t_radar_lookSizes t_radar_lookNumbers r_14.1 r_14.2.1 r_14.2.2)) hP hD hS C0.2.2.1 [10, 11, 12, 13, 14, 15, 16, 17, 18, 19, 20, 21, 22, 23, 24, 25, 26, 27, 28, 29, 30, 31, 32, 33, 34, 35, 36, 37, 38, 39, 40, 41, 42, 43, 44, 45, 46, 47, 48, 49, 50, 51, 52, 53, 54, 55, 56, 57, 58, 59, 60, 61, 62, 63, 64, 65, 66, 67, 68, 69, 70, 71, 72, 73, 74, 75, 76, 77, 78, 79, 80, 81, 82, 83, 1, 2, 3, 4, 5, 6, 7, 8, 9] [0] [0, 75, 76, 77, 78, 79, 80, 81, 82, 83, 1, 2, 3, 4, 5, 6, 7, 8, 9, 10, 11, 12, 13, 14, 15, 16, 17, 18, 19, 20, 21, 22, 23, 24, 25, 26, 27, 28, 29, 30, 31, 32, 33, 34, 35, 36, 37, 38, 39, 40, 41, 42, 43, 44, 45, 46, 47, 48, 49, 50, 51, 52, 53, 54, 55, 56, 57, 58, 59, 60, 61, 62, 63, 64, 65, 66, 67, 68, 69, 70, 71, 72, 73, 74] rfl rfl (by decide) (by decide) rfl (by decide) (va_runV (As := [.ref (g_t_radar 0)]) (rest := []) C0.1 (c_X4_save l D K g_t_history g_t_history_ring g_t_radar t_history_oldest t_history_size t_history_ring_e t_radar_gapCount t_radar_targetCount t_radar_lookCount t_radar_time t_radar_gone t_radar_gaps t_radar_settings t_radar_spots t_radar_speeds t_radar_strengths t_radar_lookTimes t_radar_lookSizes t_radar_lookNumbers r_14 hc_15 H.size) (cwV 1 hts gX10_gap_X4_save rfl rfl rfl (by decide +kernel) ⟨Nat.le_of_ble_eq_true rfl, Nat.le_of_ble_eq_true rfl⟩) (xp_V C0.2 hP hD hS [10, 11, 12, 13, 14, 15, 16, 17, 18, 19, 20, 21, 22, 23, 24, 25, 26, 27, 28, 29, 30, 31, 32, 33, 34, 35, 36, 37, 38, 39, 40, 41, 42, 43, 44, 45, 46, 47, 48, 49, 50, 51, 52, 53, 54, 55, 56, 57, 58, 59, 60, 61, 62, 63, 64, 65, 66, 67, 68, 69, 70, 71, 72, 73, 74, 75, 76, 77, 78, 79, 80, 81, 82, 83, 1, 2, 3, 4, 5, 6, 7, 8, 9] rfl (by decide) 4 0 rfl rfl rfl) rfl rfl hl.1 rfl (lv_room (Nat.le_of_ble_eq_true rfl)) dX10_gap_28 ⟨Nat.le_of_ble_eq_true rfl, Nat.le_of_ble_eq_true rfl⟩) (fun H locs hP hD hS => ?_)
      refine lv_aload_n hx hb dX10_gap_31 rfl (lv_at hl 1 rfl) ?_
      refine va_get (D := D) (ci := 9) (v := .ref (g_t_radar 0)) (C := RX10) (T := TX10) (N := 14) hx hb hts iw_X10_gap_X10 hown hK hP 0 rfl rfl 0 (by decide) (hts _ fl_X10_gap_10) (fun _ h9 => h9) rfl dX10_gap_32 ?_
      refine lv_iload_n hx hb dX10_gap_35 rfl (lv_at hl 0 rfl) ?_
      obtain ⟨r_16, hc_17, hF⟩ := bn_some hF
      refine xc_v (wn := (w_X10_gap K g_t g_t_radar g_t_draft g_t_text g_t_reader g_t_history g_t_echoes g_t_tracks g_t_dwelling g_t_chooser g_t_adviser g_t_history_ring r_16.1 t_radar_targetCount t_radar_lookCount t_radar_time t_radar_gone r_16.2 t_radar_settings t_radar_spots t_radar_speeds t_radar_strengths t_radar_lookTimes t_radar_lookSizes t_radar_lookNumbers r_14.1 r_14.2.1 r_14.2.2)) hP hD hS C0.2.2.1 [1, 2] [0, 3, 4, 5, 6, 7, 8, 9, 10, 11, 12, 13, 14, 15, 16, 17, 18, 19, 20, 21, 22, 23, 24, 25, 26, 27, 28, 29, 30, 31, 32, 33, 34, 35, 36, 37, 38, 39, 40, 41, 42, 43, 44, 45, 46, 47, 48, 49, 50, 51, 52, 53, 54, 55, 56, 57, 58, 59, 60, 61, 62, 63, 64, 65, 66, 67, 68, 69, 70, 71, 72, 73, 74, 75, 76, 77, 78, 79, 80, 81, 82, 83] [0, 82, 83, 1, 2, 3, 4, 5, 6, 7, 8, 9, 10, 11, 12, 13, 14, 15, 16, 17, 18, 19, 20, 21, 22, 23, 24, 25, 26, 27, 28, 29, 30, 31, 32, 33, 34, 35, 36, 37, 38, 39, 40, 41, 42, 43, 44, 45, 46, 47, 48, 49, 50, 51, 52, 53, 54, 55, 56, 57, 58, 59, 60, 61, 62, 63, 64, 65, 66, 67, 68, 69, 70, 71, 72, 73, 74, 75, 76, 77, 78, 79, 80, 81] rfl rfl (by decide) (by decide) rfl (by decide) (va_runV (As := [.int r_1]) (rest := []) C0.1 (c_X5_dropGap l D K g_t_radar t_radar_gapCount t_radar_targetCount t_radar_lookCount t_radar_time t_radar_gone t_radar_gaps r_1 r_16 hc_17 H.size) (cwV 1 hts gX10_gap_X5_dropGap rfl rfl rfl (by decide +kernel) ⟨Nat.le_of_ble_eq_true rfl, Nat.le_of_ble_eq_true rfl⟩) (xp_V C0.2 hP hD hS [1, 2] rfl (by decide) 5 0 rfl rfl rfl) rfl rfl hl.1 rfl (lv_room (Nat.le_of_ble_eq_true rfl)) dX10_gap_36 ⟨Nat.le_of_ble_eq_true rfl, Nat.le_of_ble_eq_true rfl⟩) (fun H locs hP hD hS => ?_)
      refine lv_aload_n hx hb dX10_gap_39 rfl (lv_at hl 1 rfl) ?_
      refine va_get (D := D) (ci := 9) (v := .ref (g_t_radar 0)) (C := RX10) (T := TX10) (N := 14) hx hb hts iw_X10_gap_X10 hown hK hP 0 rfl rfl 0 (by decide) (hts _ fl_X10_gap_10) (fun _ h9 => h9) rfl dX10_gap_40 ?_
      refine va_get (D := D) (ci := 5) (v := .int r_16.1) (C := RX5) (T := TX5) (N := 13) hx hb hts iw_X10_gap_X5 hown hK hP 1 rfl rfl 8 (by decide) (hts _ fl_X10_gap_122) (fun _ h9 => h9) rfl dX10_gap_43 ?_
      obtain rfl := Option.some.inj hF
      exact HR 46 H locs ls dX10_gap_46 hP hD hS
    · have hF := it_pos c_13 hF
      refine lv_iconst (v := (-1)) hx hb dX10_gap_18 (by decide) ?_
      obtain rfl := Option.some.inj hF
      exact HR 19 H locs ls dX10_gap_19 hP hD hS

/-! StaggerRadar.hits(I)I -/
abbrev rmX10_hits : Room := { frames := 5, cells := 0, slots := 0, locals := 115 }
theorem fl_X10_hits_10 : Cond.fieldLink RX10 10 "StaggerRadar" "radar" "LStaggerRadar$Radar;" ∈ wsX10_hits := by decide +kernel
theorem fl_X10_hits_55 : Cond.fieldLink RX10 55 "StaggerRadar" "echoes" "LStaggerRadar$Echoes;" ∈ wsX10_hits := by decide +kernel
theorem iw_X10_hits_X10 : ∀ w ∈ u_ws RX10 TX10 14, w ∈ wsX10_hits := by decide +kernel
theorem iw_X10_hits_X3 : ∀ w ∈ u_ws RX3 TX3 6, w ∈ wsX10_hits := by decide +kernel
theorem iw_X10_hits_X5 : ∀ w ∈ u_ws RX5 TX5 13, w ∈ wsX10_hits := by decide +kernel
abbrev w_X10_hits (K : Nat → ClassId) (g_t : Nat → Nat) (g_t_radar : Nat → Nat) (g_t_draft : Nat → Nat) (g_t_text : Nat → Nat) (g_t_reader : Nat → Nat) (g_t_history : Nat → Nat) (g_t_echoes : Nat → Nat) (g_t_tracks : Nat → Nat) (g_t_dwelling : Nat → Nat) (g_t_chooser : Nat → Nat) (g_t_adviser : Nat → Nat) (t_radar_gapCount : Int32) (t_radar_targetCount : Int32) (t_radar_lookCount : Int32) (t_radar_time : Int32) (t_radar_gone : Int32) (t_radar_gaps : Nat → Int32) (t_radar_settings : Nat → Int32) (t_radar_spots : Nat → Int32) (t_radar_speeds : Nat → Int32) (t_radar_strengths : Nat → Int32) (t_echoes_shownCount : Int32) (t_echoes_targets : Nat → Int32) (t_echoes_loud : Nat → Int32) : va_W := [((g_t 0), .inr (9, [.ref (g_t_radar 0), .ref (g_t_draft 0), .ref (g_t_text 0), .ref (g_t_reader 0), .ref (g_t_history 0), .ref (g_t 6), .ref (g_t 7), .ref (g_t 8), .ref (g_t_echoes 0), .ref (g_t_tracks 0), .ref (g_t_dwelling 0), .ref (g_t_chooser 0), .ref (g_t_adviser 0), .ref (g_t 14)])), ((g_t_radar 0), .inr (5, [.ref (g_t_radar 1), .ref (g_t_radar 2), .ref (g_t_radar 3), .ref (g_t_radar 4), .ref (g_t_radar 5), .ref (g_t_radar 6), .ref (g_t_radar 7), .ref (g_t_radar 8), .int t_radar_gapCount, .int t_radar_targetCount, .int t_radar_lookCount, .int t_radar_time, .int t_radar_gone])), ((g_t_radar 1), .inl (K 0, 5, .inl t_radar_gaps)), ((g_t_radar 2), .inl (K 0, 7, .inl t_radar_settings)), ((g_t_radar 3), .inl (K 0, 8, .inl t_radar_spots)), ((g_t_radar 4), .inl (K 0, 8, .inl t_radar_speeds)), ((g_t_radar 5), .inl (K 0, 8, .inl t_radar_strengths)), ((g_t_echoes 0), .inr (3, [.ref (g_t_echoes 1), .ref (g_t_echoes 2), .ref (g_t_echoes 3), .ref (g_t_echoes 4), .ref (g_t_echoes 5), .int t_echoes_shownCount])), ((g_t_echoes 1), .inl (K 0, 300, .inl t_echoes_targets)), ((g_t_echoes 2), .inl (K 0, 300, .inl t_echoes_loud))]
def F_X10_hits (t_radar_gapCount : Int32) (t_radar_targetCount : Int32) (t_radar_gaps : Nat → Int32) (t_radar_settings : Nat → Int32) (t_radar_spots : Nat → Int32) (t_radar_speeds : Nat → Int32) (t_radar_strengths : Nat → Int32) (t_echoes_targets : Nat → Int32) (t_echoes_loud : Nat → Int32) (x1 : Int32) : Option (Int32 × (Nat → Int32) × (Nat → Int32)) :=
  (F_X10_isWithin x1 (0 : Int32) (9999 : Int32)).bind fun r_1 => (if r_1 = (0 : Int32) then (some ((-1 : Int32), t_echoes_targets, t_echoes_loud)) else ((F_X3_listen t_echoes_targets t_echoes_loud t_radar_gapCount t_radar_targetCount t_radar_gaps t_radar_settings t_radar_spots t_radar_speeds t_radar_strengths).bind fun r_4 => ((F_X3_hitsOf r_4.2 t_radar_gapCount t_radar_gaps t_radar_settings x1).bind fun r_6 => (some (r_6, r_4.1, r_4.2)))))
set_option maxHeartbeats 4000000 in
set_option maxRecDepth 100000 in
theorem c_X10_hits (l : Launch) (D : va_G) (K : Nat → ClassId) (g_t : Nat → Nat) (g_t_radar : Nat → Nat) (g_t_draft : Nat → Nat) (g_t_text : Nat → Nat) (g_t_reader : Nat → Nat) (g_t_history : Nat → Nat) (g_t_echoes : Nat → Nat) (g_t_tracks : Nat → Nat) (g_t_dwelling : Nat → Nat) (g_t_chooser : Nat → Nat) (g_t_adviser : Nat → Nat) (t_radar_gapCount : Int32) (t_radar_targetCount : Int32) (t_radar_lookCount : Int32) (t_radar_time : Int32) (t_radar_gone : Int32) (t_radar_gaps : Nat → Int32) (t_radar_settings : Nat → Int32) (t_radar_spots : Nat → Int32) (t_radar_speeds : Nat → Int32) (t_radar_strengths : Nat → Int32) (t_echoes_shownCount : Int32) (t_echoes_targets : Nat → Int32) (t_echoes_loud : Nat → Int32) (x1 : Int32) (res : Int32 × (Nat → Int32) × (Nat → Int32)) (hF : F_X10_hits t_radar_gapCount t_radar_targetCount t_radar_gaps t_radar_settings t_radar_spots t_radar_speeds t_radar_strengths t_echoes_targets t_echoes_loud x1 = some res) :
    Mi_ l yX10_hits wsX10_hits rmX10_hits D K [.ref (g_t 0), .int x1] (w_X10_hits K g_t g_t_radar g_t_draft g_t_text g_t_reader g_t_history g_t_echoes g_t_tracks g_t_dwelling g_t_chooser g_t_adviser t_radar_gapCount t_radar_targetCount t_radar_lookCount t_radar_time t_radar_gone t_radar_gaps t_radar_settings t_radar_spots t_radar_speeds t_radar_strengths t_echoes_shownCount t_echoes_targets t_echoes_loud) (w_X10_hits K g_t g_t_radar g_t_draft g_t_text g_t_reader g_t_history g_t_echoes g_t_tracks g_t_dwelling g_t_chooser g_t_adviser t_radar_gapCount t_radar_targetCount t_radar_lookCount t_radar_time t_radar_gone t_radar_gaps t_radar_settings t_radar_spots t_radar_speeds t_radar_strengths t_echoes_shownCount res.2.1 res.2.2) (res.1) := by
  refine en_i (cc := cX10_hits) (maxL := 2) (own := RX10) (by decide) rfl rfl (Nat.le_of_ble_eq_true rfl) ?_
  intro p e s m args below meth c A Q H locs ls C0 hP hD hS hl HR
  obtain ⟨⟨hx, hb, hml, hown, hts⟩, hK, -⟩ := id C0
  have hl : lv_has ls 2 [(0, .ref (g_t 0)), (1, .int x1)] := hl
  unfold F_X10_hits at hF
  refine lv_iload_n hx hb dX10_hits_0 rfl (lv_at hl 1 rfl) ?_
  refine lv_iconst (v := 0) hx hb dX10_hits_1 (by decide) ?_
  refine lv_sipush (v := 9999) hx hb dX10_hits_2 (by decide) ?_
  obtain ⟨r_1, hc_2, hF⟩ := bn_some hF
  refine xc_i (wn := (w_X10_hits K g_t g_t_radar g_t_draft g_t_text g_t_reader g_t_history g_t_echoes g_t_tracks g_t_dwelling g_t_chooser g_t_adviser t_radar_gapCount t_radar_targetCount t_radar_lookCount t_radar_time t_radar_gone t_radar_gaps t_radar_settings t_radar_spots t_radar_speeds t_radar_strengths t_echoes_shownCount t_echoes_targets t_echoes_loud)) hP hD hS C0.2.2.1 [] [0, 1, 2, 3, 4, 5, 6, 7, 8, 9] [0, 1, 2, 3, 4, 5, 6, 7, 8, 9] rfl rfl (by decide) (by decide) rfl (by decide) (va_runS (As := [.int x1, .int (0 : Int32), .int (9999 : Int32)]) (rest := []) C0.1 (c_X10_isWithin l D K x1 (0 : Int32) (9999 : Int32) r_1 hc_2 H.size) (va_cwS 3 hts gX10_hits_X10_isWithin rfl rfl rfl (by decide +kernel) ⟨Nat.le_of_ble_eq_true rfl, Nat.le_of_ble_eq_true rfl⟩) (xp_S C0.2 hP hD hS [] rfl (by decide)) rfl rfl hl.1 rfl (lv_room (Nat.le_of_ble_eq_true rfl)) dX10_hits_5 ⟨Nat.le_of_ble_eq_true rfl, Nat.le_of_ble_eq_true rfl⟩) (fun H locs hP hD hS => ?_)
  refine lv_if_ne (tgt := 13) hx hb dX10_hits_8 (by decide) (fun c_3 => ?_) (fun c_3 => ?_)
  · have hF := it_neg c_3 hF
    refine lv_aload_n hx hb dX10_hits_13 rfl (lv_at hl 0 rfl) ?_
    refine va_get (D := D) (ci := 9) (v := .ref (g_t_echoes 0)) (C := RX10) (T := TX10) (N := 14) hx hb hts iw_X10_hits_X10 hown hK hP 0 rfl rfl 8 (by decide) (hts _ fl_X10_hits_55) (fun _ h9 => h9) rfl dX10_hits_14 ?_
    refine lv_aload_n hx hb dX10_hits_17 rfl (lv_at hl 0 rfl) ?_
    refine va_get (D := D) (ci := 9) (v := .ref (g_t_radar 0)) (C := RX10) (T := TX10) (N := 14) hx hb hts iw_X10_hits_X10 hown hK hP 0 rfl rfl 0 (by decide) (hts _ fl_X10_hits_10) (fun _ h9 => h9) rfl dX10_hits_18 ?_
    obtain ⟨r_4, hc_5, hF⟩ := bn_some hF
    refine xc_v (wn := (w_X10_hits K g_t g_t_radar g_t_draft g_t_text g_t_reader g_t_history g_t_echoes g_t_tracks g_t_dwelling g_t_chooser g_t_adviser t_radar_gapCount t_radar_targetCount t_radar_lookCount t_radar_time t_radar_gone t_radar_gaps t_radar_settings t_radar_spots t_radar_speeds t_radar_strengths t_echoes_shownCount r_4.1 r_4.2)) hP hD hS C0.2.2.1 [7, 8, 9, 1, 2, 3, 4, 5, 6] [0] [0, 4, 5, 6, 7, 8, 9, 1, 2, 3] rfl rfl (by decide) (by decide) rfl (by decide) (va_runV (As := [.ref (g_t_radar 0)]) (rest := []) C0.1 (c_X3_listen l D K g_t_echoes g_t_radar t_echoes_shownCount t_echoes_targets t_echoes_loud t_radar_gapCount t_radar_targetCount t_radar_lookCount t_radar_time t_radar_gone t_radar_gaps t_radar_settings t_radar_spots t_radar_speeds t_radar_strengths r_4 hc_5 H.size) (cwV 1 hts gX10_hits_X3_listen rfl rfl rfl (by decide +kernel) ⟨Nat.le_of_ble_eq_true rfl, Nat.le_of_ble_eq_true rfl⟩) (xp_V C0.2 hP hD hS [7, 8, 9, 1, 2, 3, 4, 5, 6] rfl (by decide) 3 0 rfl rfl rfl) rfl rfl hl.1 rfl (lv_room (Nat.le_of_ble_eq_true rfl)) dX10_hits_21 ⟨Nat.le_of_ble_eq_true rfl, Nat.le_of_ble_eq_true rfl⟩) (fun H locs hP hD hS => ?_)
    refine lv_aload_n hx hb dX10_hits_24 rfl (lv_at hl 0 rfl) ?_
    refine va_get (D := D) (ci := 9) (v := .ref (g_t_echoes 0)) (C := RX10) (T := TX10) (N := 14) hx hb hts iw_X10_hits_X10 hown hK hP 0 rfl rfl 8 (by decide) (hts _ fl_X10_hits_55) (fun _ h9 => h9) rfl dX10_hits_25 ?_
    refine lv_aload_n hx hb dX10_hits_28 rfl (lv_at hl 0 rfl) ?_
    refine va_get (D := D) (ci := 9) (v := .ref (g_t_radar 0)) (C := RX10) (T := TX10) (N := 14) hx hb hts iw_X10_hits_X10 hown hK hP 0 rfl rfl 0 (by decide) (hts _ fl_X10_hits_10) (fun _ h9 => h9) rfl dX10_hits_29 ?_
    refine lv_iload_n hx hb dX10_hits_32 rfl (lv_at hl 1 rfl) ?_
    obtain ⟨r_6, hc_7, hF⟩ := bn_some hF
    refine xc_i (wn := (w_X10_hits K g_t g_t_radar g_t_draft g_t_text g_t_reader g_t_history g_t_echoes g_t_tracks g_t_dwelling g_t_chooser g_t_adviser t_radar_gapCount t_radar_targetCount t_radar_lookCount t_radar_time t_radar_gone t_radar_gaps t_radar_settings t_radar_spots t_radar_speeds t_radar_strengths t_echoes_shownCount r_4.1 r_4.2)) hP hD hS C0.2.2.1 [7, 9, 1, 2, 3] [0, 4, 5, 6, 8] [0, 7, 8, 9, 1, 2, 3, 5, 4, 6] rfl rfl (by decide) (by decide) rfl (by decide) (va_runV (As := [.ref (g_t_radar 0), .int x1]) (rest := []) C0.1 (c_X3_hitsOf l D K g_t_echoes g_t_radar t_echoes_shownCount r_4.2 t_radar_gapCount t_radar_targetCount t_radar_lookCount t_radar_time t_radar_gone t_radar_gaps t_radar_settings x1 r_6 hc_7 H.size) (cwV 2 hts gX10_hits_X3_hitsOf rfl rfl rfl (by decide +kernel) ⟨Nat.le_of_ble_eq_true rfl, Nat.le_of_ble_eq_true rfl⟩) (xp_V C0.2 hP hD hS [7, 9, 1, 2, 3] rfl (by decide) 3 0 rfl rfl rfl) rfl rfl hl.1 rfl (lv_room (Nat.le_of_ble_eq_true rfl)) dX10_hits_33 ⟨Nat.le_of_ble_eq_true rfl, Nat.le_of_ble_eq_true rfl⟩) (fun H locs hP hD hS => ?_)
    obtain rfl := Option.some.inj hF
    exact HR 36 H locs ls dX10_hits_36 hP hD hS
  · have hF := it_pos c_3 hF
    refine lv_iconst (v := (-1)) hx hb dX10_hits_11 (by decide) ?_
    obtain rfl := Option.some.inj hF
    exact HR 12 H locs ls dX10_hits_12 hP hD hS

/-! StaggerRadar.image(I)Z -/
abbrev rmX10_image : Room := { frames := 2, cells := 0, slots := 0, locals := 81 }
theorem fl_X10_image_10 : Cond.fieldLink RX10 10 "StaggerRadar" "radar" "LStaggerRadar$Radar;" ∈ wsX10_image := by decide +kernel
theorem fl_X10_image_22 : Cond.fieldLink RX10 22 "StaggerRadar" "text" "LStaggerRadar$Text;" ∈ wsX10_image := by decide +kernel
theorem fl_X10_image_40 : Cond.fieldLink RX10 40 "StaggerRadar" "keptRadars" "[LStaggerRadar$Radar;" ∈ wsX10_image := by decide +kernel
theorem fl_X10_image_44 : Cond.fieldLink RX10 44 "StaggerRadar" "keptTexts" "[LStaggerRadar$Text;" ∈ wsX10_image := by decide +kernel
theorem fl_X10_image_48 : Cond.fieldLink RX10 48 "StaggerRadar" "kept" "[Z" ∈ wsX10_image := by decide +kernel
theorem iw_X10_image_X10 : ∀ w ∈ u_ws RX10 TX10 14, w ∈ wsX10_image := by decide +kernel
theorem iw_X10_image_X5 : ∀ w ∈ u_ws RX5 TX5 13, w ∈ wsX10_image := by decide +kernel
theorem iw_X10_image_X8 : ∀ w ∈ u_ws RX8 TX8 4, w ∈ wsX10_image := by decide +kernel
abbrev w_X10_image (K : Nat → ClassId) (g_t : Nat → Nat) (g_t_radar : Nat → Nat) (g_t_draft : Nat → Nat) (g_t_text : Nat → Nat) (g_t_reader : Nat → Nat) (g_t_history : Nat → Nat) (g_t_echoes : Nat → Nat) (g_t_tracks : Nat → Nat) (g_t_dwelling : Nat → Nat) (g_t_chooser : Nat → Nat) (g_t_adviser : Nat → Nat) (g_t_keptRadars : Nat → Nat → Nat) (g_t_keptTexts : Nat → Nat → Nat) (t_radar_gapCount : Int32) (t_radar_targetCount : Int32) (t_radar_lookCount : Int32) (t_radar_time : Int32) (t_radar_gone : Int32) (t_radar_gaps : Nat → Int32) (t_radar_settings : Nat → Int32) (t_radar_spots : Nat → Int32) (t_radar_speeds : Nat → Int32) (t_radar_strengths : Nat → Int32) (t_radar_lookTimes : Nat → Int32) (t_radar_lookSizes : Nat → Int32) (t_radar_lookNumbers : Nat → Int32) (t_text_size : Int32) (t_text_faultKind : Int32) (t_text_faultPlace : Int32) (t_text_bytes : Nat → Int32) (t_keptRadars_e : Nat → RT_X5) (t_keptTexts_e : Nat → RT_X8) (t_kept : Nat → Int32) : va_W := [((g_t 0), .inr (9, [.ref (g_t_radar 0), .ref (g_t_draft 0), .ref (g_t_text 0), .ref (g_t_reader 0), .ref (g_t_history 0), .ref (g_t 6), .ref (g_t 7), .ref (g_t 8), .ref (g_t_echoes 0), .ref (g_t_tracks 0), .ref (g_t_dwelling 0), .ref (g_t_chooser 0), .ref (g_t_adviser 0), .ref (g_t 14)])), ((g_t_radar 0), .inr (5, [.ref (g_t_radar 1), .ref (g_t_radar 2), .ref (g_t_radar 3), .ref (g_t_radar 4), .ref (g_t_radar 5), .ref (g_t_radar 6), .ref (g_t_radar 7), .ref (g_t_radar 8), .int t_radar_gapCount, .int t_radar_targetCount, .int t_radar_lookCount, .int t_radar_time, .int t_radar_gone])), ((g_t_radar 1), .inl (K 0, 5, .inl t_radar_gaps)), ((g_t_radar 2), .inl (K 0, 7, .inl t_radar_settings)), ((g_t_radar 3), .inl (K 0, 8, .inl t_radar_spots)), ((g_t_radar 4), .inl (K 0, 8, .inl t_radar_speeds)), ((g_t_radar 5), .inl (K 0, 8, .inl t_radar_strengths)), ((g_t_radar 6), .inl (K 0, 4, .inl t_radar_lookTimes)), ((g_t_radar 7), .inl (K 0, 4, .inl t_radar_lookSizes)), ((g_t_radar 8), .inl (K 0, 48, .inl t_radar_lookNumbers)), ((g_t_text 0), .inr (7, [.ref (g_t_text 1), .int t_text_size, .int t_text_faultKind, .int t_text_faultPlace])), ((g_t_text 1), .inl (K 0, 400, .inl t_text_bytes)), ((g_t 6), .inl (K 4, 3, .inr (.inr (.inr (.inr (fun i_ => some (g_t_keptRadars i_ 0)))))))] ++ (rc_X5 K (g_t_keptRadars 0) (t_keptRadars_e 0) ++ (rc_X5 K (g_t_keptRadars 1) (t_keptRadars_e 1) ++ (rc_X5 K (g_t_keptRadars 2) (t_keptRadars_e 2) ++ ([((g_t 7), .inl (K 5, 3, .inr (.inr (.inr (.inr (fun i_ => some (g_t_keptTexts i_ 0)))))))] ++ (rc_X8 K (g_t_keptTexts 0) (t_keptTexts_e 0) ++ (rc_X8 K (g_t_keptTexts 1) (t_keptTexts_e 1) ++ (rc_X8 K (g_t_keptTexts 2) (t_keptTexts_e 2) ++ ([((g_t 8), .inl (K 2, 3, .inl t_kept))]))))))))
def F_X10_image (t_radar_gapCount : Int32) (t_radar_targetCount : Int32) (t_radar_lookCount : Int32) (t_radar_time : Int32) (t_radar_gone : Int32) (t_radar_gaps : Nat → Int32) (t_radar_settings : Nat → Int32) (t_radar_spots : Nat → Int32) (t_radar_speeds : Nat → Int32) (t_radar_strengths : Nat → Int32) (t_radar_lookTimes : Nat → Int32) (t_radar_lookSizes : Nat → Int32) (t_radar_lookNumbers : Nat → Int32) (t_text_size : Int32) (t_text_faultKind : Int32) (t_text_faultPlace : Int32) (t_text_bytes : Nat → Int32) (t_keptRadars_e : Nat → RT_X5) (t_keptTexts_e : Nat → RT_X8) (t_kept : Nat → Int32) (x1 : Int32) : Option (Int32 × (Nat → RT_X5) × (Nat → RT_X8) × (Nat → Int32)) :=
  (F_X10_isWithin x1 (0 : Int32) (2 : Int32)).bind fun r_1 => (if r_1 = (0 : Int32) then (some ((0 : Int32), t_keptRadars_e, t_keptTexts_e, t_kept)) else (gd_ (in_b x1 3) ((F_X5_copyFrom ((t_keptRadars_e (x1).toNatClampNeg).1) ((t_keptRadars_e (x1).toNatClampNeg).2.1) ((t_keptRadars_e (x1).toNatClampNeg).2.2.1) ((t_keptRadars_e (x1).toNatClampNeg).2.2.2.1) ((t_keptRadars_e (x1).toNatClampNeg).2.2.2.2.1) ((t_keptRadars_e (x1).toNatClampNeg).2.2.2.2.2.1) ((t_keptRadars_e (x1).toNatClampNeg).2.2.2.2.2.2.1) ((t_keptRadars_e (x1).toNatClampNeg).2.2.2.2.2.2.2.1) ((t_keptRadars_e (x1).toNatClampNeg).2.2.2.2.2.2.2.2.1) ((t_keptRadars_e (x1).toNatClampNeg).2.2.2.2.2.2.2.2.2.1) ((t_keptRadars_e (x1).toNatClampNeg).2.2.2.2.2.2.2.2.2.2.1) ((t_keptRadars_e (x1).toNatClampNeg).2.2.2.2.2.2.2.2.2.2.2.1) ((t_keptRadars_e (x1).toNatClampNeg).2.2.2.2.2.2.2.2.2.2.2.2) t_radar_gapCount t_radar_targetCount t_radar_lookCount t_radar_time t_radar_gone t_radar_gaps t_radar_settings t_radar_spots t_radar_speeds t_radar_strengths t_radar_lookTimes t_radar_lookSizes t_radar_lookNumbers).bind fun r_5 => (gd_ (in_b x1 3) ((F_X8_copyFrom ((t_keptTexts_e (x1).toNatClampNeg).1) ((t_keptTexts_e (x1).toNatClampNeg).2.1) ((t_keptTexts_e (x1).toNatClampNeg).2.2.1) ((t_keptTexts_e (x1).toNatClampNeg).2.2.2) t_text_size t_text_faultKind t_text_faultPlace t_text_bytes).bind fun r_8 => (gd_ (in_b x1 3) (some ((1 : Int32), (va_up t_keptRadars_e (x1).toNatClampNeg (r_5.1, r_5.2.1, r_5.2.2.1, r_5.2.2.2.1, r_5.2.2.2.2.1, r_5.2.2.2.2.2.1, r_5.2.2.2.2.2.2.1, r_5.2.2.2.2.2.2.2.1, r_5.2.2.2.2.2.2.2.2.1, r_5.2.2.2.2.2.2.2.2.2.1, r_5.2.2.2.2.2.2.2.2.2.2.1, r_5.2.2.2.2.2.2.2.2.2.2.2.1, r_5.2.2.2.2.2.2.2.2.2.2.2.2)), (va_up t_keptTexts_e (x1).toNatClampNeg (r_8.1, r_8.2.1, r_8.2.2.1, r_8.2.2.2)), (upd t_kept (x1).toNatClampNeg (vp_nar .boolean (1 : Int32)))))))))))
set_option maxHeartbeats 4000000 in
set_option maxRecDepth 100000 in
theorem c_X10_image (l : Launch) (D : va_G) (K : Nat → ClassId) (g_t : Nat → Nat) (g_t_radar : Nat → Nat) (g_t_draft : Nat → Nat) (g_t_text : Nat → Nat) (g_t_reader : Nat → Nat) (g_t_history : Nat → Nat) (g_t_echoes : Nat → Nat) (g_t_tracks : Nat → Nat) (g_t_dwelling : Nat → Nat) (g_t_chooser : Nat → Nat) (g_t_adviser : Nat → Nat) (g_t_keptRadars : Nat → Nat → Nat) (g_t_keptTexts : Nat → Nat → Nat) (t_radar_gapCount : Int32) (t_radar_targetCount : Int32) (t_radar_lookCount : Int32) (t_radar_time : Int32) (t_radar_gone : Int32) (t_radar_gaps : Nat → Int32) (t_radar_settings : Nat → Int32) (t_radar_spots : Nat → Int32) (t_radar_speeds : Nat → Int32) (t_radar_strengths : Nat → Int32) (t_radar_lookTimes : Nat → Int32) (t_radar_lookSizes : Nat → Int32) (t_radar_lookNumbers : Nat → Int32) (t_text_size : Int32) (t_text_faultKind : Int32) (t_text_faultPlace : Int32) (t_text_bytes : Nat → Int32) (t_keptRadars_e : Nat → RT_X5) (t_keptTexts_e : Nat → RT_X8) (t_kept : Nat → Int32) (x1 : Int32) (res : Int32 × (Nat → RT_X5) × (Nat → RT_X8) × (Nat → Int32)) (hF : F_X10_image t_radar_gapCount t_radar_targetCount t_radar_lookCount t_radar_time t_radar_gone t_radar_gaps t_radar_settings t_radar_spots t_radar_speeds t_radar_strengths t_radar_lookTimes t_radar_lookSizes t_radar_lookNumbers t_text_size t_text_faultKind t_text_faultPlace t_text_bytes t_keptRadars_e t_keptTexts_e t_kept x1 = some res) :
    Mi_ l yX10_image wsX10_image rmX10_image D K [.ref (g_t 0), .int x1] (w_X10_image K g_t g_t_radar g_t_draft g_t_text g_t_reader g_t_history g_t_echoes g_t_tracks g_t_dwelling g_t_chooser g_t_adviser g_t_keptRadars g_t_keptTexts t_radar_gapCount t_radar_targetCount t_radar_lookCount t_radar_time t_radar_gone t_radar_gaps t_radar_settings t_radar_spots t_radar_speeds t_radar_strengths t_radar_lookTimes t_radar_lookSizes t_radar_lookNumbers t_text_size t_text_faultKind t_text_faultPlace t_text_bytes t_keptRadars_e t_keptTexts_e t_kept) (w_X10_image K g_t g_t_radar g_t_draft g_t_text g_t_reader g_t_history g_t_echoes g_t_tracks g_t_dwelling g_t_chooser g_t_adviser g_t_keptRadars g_t_keptTexts t_radar_gapCount t_radar_targetCount t_radar_lookCount t_radar_time t_radar_gone t_radar_gaps t_radar_settings t_radar_spots t_radar_speeds t_radar_strengths t_radar_lookTimes t_radar_lookSizes t_radar_lookNumbers t_text_size t_text_faultKind t_text_faultPlace t_text_bytes res.2.1 res.2.2.1 res.2.2.2) (res.1) := by
  refine en_z (cc := cX10_image) (maxL := 2) (own := RX10) (by decide) rfl rfl (Nat.le_of_ble_eq_true rfl) ?_
  intro p e s m args below meth c A Q H locs ls C0 hP hD hS hl HR
  obtain ⟨⟨hx, hb, hml, hown, hts⟩, hK, -⟩ := id C0
  have hl : lv_has ls 2 [(0, .ref (g_t 0)), (1, .int x1)] := hl
  unfold F_X10_image at hF
  refine lv_iload_n hx hb dX10_image_0 rfl (lv_at hl 1 rfl) ?_
  refine lv_iconst (v := 0) hx hb dX10_image_1 (by decide) ?_
  refine lv_iconst (v := 2) hx hb dX10_image_2 (by decide) ?_
  obtain ⟨r_1, hc_2, hF⟩ := bn_some hF
  refine xc_i (wn := (w_X10_image K g_t g_t_radar g_t_draft g_t_text g_t_reader g_t_history g_t_echoes g_t_tracks g_t_dwelling g_t_chooser g_t_adviser g_t_keptRadars g_t_keptTexts t_radar_gapCount t_radar_targetCount t_radar_lookCount t_radar_time t_radar_gone t_radar_gaps t_radar_settings t_radar_spots t_radar_speeds t_radar_strengths t_radar_lookTimes t_radar_lookSizes t_radar_lookNumbers t_text_size t_text_faultKind t_text_faultPlace t_text_bytes t_keptRadars_e t_keptTexts_e t_kept)) hP hD hS C0.2.2.1 [] [0, 1, 2, 3, 4, 5, 6, 7, 8, 9, 10, 11, 12, 13, 14, 15, 16, 17, 18, 19, 20, 21, 22, 23, 24, 25, 26, 27, 28, 29, 30, 31, 32, 33, 34, 35, 36, 37, 38, 39, 40, 41, 42, 43, 44, 45, 46, 47] [0, 1, 2, 3, 4, 5, 6, 7, 8, 9, 10, 11, 12, 13, 14, 15, 16, 17, 18, 19, 20, 21, 22, 23, 24, 25, 26, 27, 28, 29, 30, 31, 32, 33, 34, 35, 36, 37, 38, 39, 40, 41, 42, 43, 44, 45, 46, 47] rfl rfl (by decide) (by decide) rfl (by decide) (va_runS (As := [.int x1, .int (0 : Int32), .int (2 : Int32)]) (rest := []) C0.1 (c_X10_isWithin l D K x1 (0 : Int32) (2 : Int32) r_1 hc_2 H.size) (va_cwS 3 hts gX10_image_X10_isWithin rfl rfl rfl (by decide +kernel) ⟨Nat.le_of_ble_eq_true rfl, Nat.le_of_ble_eq_true rfl⟩) (xp_S C0.2 hP hD hS [] rfl (by decide)) rfl rfl hl.1 rfl (lv_room (Nat.le_of_ble_eq_true rfl)) dX10_image_3 ⟨Nat.le_of_ble_eq_true rfl, Nat.le_of_ble_eq_true rfl⟩) (fun H locs hP hD hS => ?_)
  refine lv_if_ne (tgt := 11) hx hb dX10_image_6 (by decide) (fun c_3 => ?_) (fun c_3 => ?_)
  · have hF := it_neg c_3 hF
    refine lv_aload_n hx hb dX10_image_11 rfl (lv_at hl 0 rfl) ?_
    refine va_get (D := D) (ci := 9) (v := .ref (g_t 6)) (C := RX10) (T := TX10) (N := 14) hx hb hts iw_X10_image_X10 hown hK hP 0 rfl rfl 5 (by decide) (hts _ fl_X10_image_40) (fun _ h9 => h9) rfl dX10_image_12 ?_
    refine lv_iload_n hx hb dX10_image_15 rfl (lv_at hl 1 rfl) ?_
    obtain ⟨hg_4, hF⟩ := gd_some hF
    refine va_aldq hx hb hK hP 12 4 rfl rfl (in_v hg_4) dX10_image_16 ?_
    obtain ⟨j_62, hj_61⟩ : ∃ j : Nat, (x1).toNatClampNeg = j := ⟨_, rfl⟩
    have hj_61l : j_62 < 3 := by rw [← hj_61]; exact in_lt hg_4
    rw [hj_61] at hF ⊢
    by_cases hj_61q : j_62 = 0
    · subst hj_61q
      refine lv_aload_n hx hb dX10_image_17 rfl (lv_at hl 0 rfl) ?_
      refine va_get (D := D) (ci := 9) (v := .ref (g_t_radar 0)) (C := RX10) (T := TX10) (N := 14) hx hb hts iw_X10_image_X10 hown hK hP 0 rfl rfl 0 (by decide) (hts _ fl_X10_image_10) (fun _ h9 => h9) rfl dX10_image_18 ?_
      obtain ⟨r_55, hc_56, hF⟩ := bn_some hF
      refine xc_v (wn := (w_X10_image K g_t g_t_radar g_t_draft g_t_text g_t_reader g_t_history g_t_echoes g_t_tracks g_t_dwelling g_t_chooser g_t_adviser g_t_keptRadars g_t_keptTexts t_radar_gapCount t_radar_targetCount t_radar_lookCount t_radar_time t_radar_gone t_radar_gaps t_radar_settings t_radar_spots t_radar_speeds t_radar_strengths t_radar_lookTimes t_radar_lookSizes t_radar_lookNumbers t_text_size t_text_faultKind t_text_faultPlace t_text_bytes (va_up t_keptRadars_e 0 (r_55.1, r_55.2.1, r_55.2.2.1, r_55.2.2.2.1, r_55.2.2.2.2.1, r_55.2.2.2.2.2.1, r_55.2.2.2.2.2.2.1, r_55.2.2.2.2.2.2.2.1, r_55.2.2.2.2.2.2.2.2.1, r_55.2.2.2.2.2.2.2.2.2.1, r_55.2.2.2.2.2.2.2.2.2.2.1, r_55.2.2.2.2.2.2.2.2.2.2.2.1, r_55.2.2.2.2.2.2.2.2.2.2.2.2)) t_keptTexts_e t_kept)) hP hD hS C0.2.2.1 [13, 14, 15, 16, 17, 18, 19, 20, 21, 1, 2, 3, 4, 5, 6, 7, 8, 9] [0, 10, 11, 12, 22, 23, 24, 25, 26, 27, 28, 29, 30, 31, 32, 33, 34, 35, 36, 37, 38, 39, 40, 41, 42, 43, 44, 45, 46, 47] [0, 39, 40, 41, 42, 43, 44, 45, 46, 47, 1, 2, 3, 30, 31, 32, 33, 34, 35, 36, 37, 38, 4, 5, 6, 7, 8, 9, 10, 11, 12, 13, 14, 15, 16, 17, 18, 19, 20, 21, 22, 23, 24, 25, 26, 27, 28, 29] rfl rfl (by decide) (by decide) rfl (by decide) (va_runV (As := [.ref (g_t_radar 0)]) (rest := []) C0.1 (c_X5_copyFrom l D K (g_t_keptRadars 0) g_t_radar ((t_keptRadars_e 0).1) ((t_keptRadars_e 0).2.1) ((t_keptRadars_e 0).2.2.1) ((t_keptRadars_e 0).2.2.2.1) ((t_keptRadars_e 0).2.2.2.2.1) ((t_keptRadars_e 0).2.2.2.2.2.1) ((t_keptRadars_e 0).2.2.2.2.2.2.1) ((t_keptRadars_e 0).2.2.2.2.2.2.2.1) ((t_keptRadars_e 0).2.2.2.2.2.2.2.2.1) ((t_keptRadars_e 0).2.2.2.2.2.2.2.2.2.1) ((t_keptRadars_e 0).2.2.2.2.2.2.2.2.2.2.1) ((t_keptRadars_e 0).2.2.2.2.2.2.2.2.2.2.2.1) ((t_keptRadars_e 0).2.2.2.2.2.2.2.2.2.2.2.2) t_radar_gapCount t_radar_targetCount t_radar_lookCount t_radar_time t_radar_gone t_radar_gaps t_radar_settings t_radar_spots t_radar_speeds t_radar_strengths t_radar_lookTimes t_radar_lookSizes t_radar_lookNumbers r_55 hc_56 H.size) (cwV 1 hts gX10_image_X5_copyFrom rfl rfl rfl (by decide +kernel) ⟨Nat.le_of_ble_eq_true rfl, Nat.le_of_ble_eq_true rfl⟩) (xp_V C0.2 hP hD hS [13, 14, 15, 16, 17, 18, 19, 20, 21, 1, 2, 3, 4, 5, 6, 7, 8, 9] rfl (by decide) 5 0 rfl rfl rfl) rfl rfl hl.1 rfl (lv_room (Nat.le_of_ble_eq_true rfl)) dX10_image_21 ⟨Nat.le_of_ble_eq_true rfl, Nat.le_of_ble_eq_true rfl⟩) (fun H locs hP hD hS => ?_)
      refine lv_aload_n hx hb dX10_image_24 rfl (lv_at hl 0 rfl) ?_
      refine va_get (D := D) (ci := 9) (v := .ref (g_t 7)) (C := RX10) (T := TX10) (N := 14) hx hb hts iw_X10_image_X10 hown hK hP 0 rfl rfl 6 (by decide) (hts _ fl_X10_image_44) (fun _ h9 => h9) rfl dX10_image_25 ?_
      refine lv_iload_n hx hb dX10_image_28 rfl (lv_at hl 1 rfl) ?_
      obtain ⟨hg_57, hF⟩ := gd_some hF
      refine va_aldq hx hb hK hP 40 5 rfl rfl (in_v hg_57) dX10_image_29 ?_
      rw [hj_61]
      refine lv_aload_n hx hb dX10_image_30 rfl (lv_at hl 0 rfl) ?_
      refine va_get (D := D) (ci := 9) (v := .ref (g_t_text 0)) (C := RX10) (T := TX10) (N := 14) hx hb hts iw_X10_image_X10 hown hK hP 0 rfl rfl 2 (by decide) (hts _ fl_X10_image_22) (fun _ h9 => h9) rfl dX10_image_31 ?_
      obtain ⟨r_58, hc_59, hF⟩ := bn_some hF
      refine xc_v (wn := (w_X10_image K g_t g_t_radar g_t_draft g_t_text g_t_reader g_t_history g_t_echoes g_t_tracks g_t_dwelling g_t_chooser g_t_adviser g_t_keptRadars g_t_keptTexts t_radar_gapCount t_radar_targetCount t_radar_lookCount t_radar_time t_radar_gone t_radar_gaps t_radar_settings t_radar_spots t_radar_speeds t_radar_strengths t_radar_lookTimes t_radar_lookSizes t_radar_lookNumbers t_text_size t_text_faultKind t_text_faultPlace t_text_bytes (va_up t_keptRadars_e 0 (r_55.1, r_55.2.1, r_55.2.2.1, r_55.2.2.2.1, r_55.2.2.2.2.1, r_55.2.2.2.2.2.1, r_55.2.2.2.2.2.2.1, r_55.2.2.2.2.2.2.2.1, r_55.2.2.2.2.2.2.2.2.1, r_55.2.2.2.2.2.2.2.2.2.1, r_55.2.2.2.2.2.2.2.2.2.2.1, r_55.2.2.2.2.2.2.2.2.2.2.2.1, r_55.2.2.2.2.2.2.2.2.2.2.2.2)) (va_up t_keptTexts_e 0 (r_58.1, r_58.2.1, r_58.2.2.1, r_58.2.2.2)) t_kept)) hP hD hS C0.2.2.1 [41, 42, 10, 11] [0, 1, 2, 3, 4, 5, 6, 7, 8, 9, 12, 13, 14, 15, 16, 17, 18, 19, 20, 21, 22, 23, 24, 25, 26, 27, 28, 29, 30, 31, 32, 33, 34, 35, 36, 37, 38, 39, 40, 43, 44, 45, 46, 47] [0, 1, 2, 3, 4, 5, 6, 7, 8, 9, 46, 47, 10, 11, 12, 13, 14, 15, 16, 17, 18, 19, 20, 21, 22, 23, 24, 25, 26, 27, 28, 29, 30, 31, 32, 33, 34, 35, 36, 37, 38, 44, 45, 39, 40, 41, 42, 43] rfl rfl (by decide) (by decide) rfl (by decide) (va_runV (As := [.ref (g_t_text 0)]) (rest := []) C0.1 (c_X8_copyFrom l D K (g_t_keptTexts 0) g_t_text ((t_keptTexts_e 0).1) ((t_keptTexts_e 0).2.1) ((t_keptTexts_e 0).2.2.1) ((t_keptTexts_e 0).2.2.2) t_text_size t_text_faultKind t_text_faultPlace t_text_bytes r_58 hc_59 H.size) (cwV 1 hts gX10_image_X8_copyFrom rfl rfl rfl (by decide +kernel) ⟨Nat.le_of_ble_eq_true rfl, Nat.le_of_ble_eq_true rfl⟩) (xp_V C0.2 hP hD hS [41, 42, 10, 11] rfl (by decide) 7 0 rfl rfl rfl) rfl rfl hl.1 rfl (lv_room (Nat.le_of_ble_eq_true rfl)) dX10_image_34 ⟨Nat.le_of_ble_eq_true rfl, Nat.le_of_ble_eq_true rfl⟩) (fun H locs hP hD hS => ?_)
      refine lv_aload_n hx hb dX10_image_37 rfl (lv_at hl 0 rfl) ?_
      refine va_get (D := D) (ci := 9) (v := .ref (g_t 8)) (C := RX10) (T := TX10) (N := 14) hx hb hts iw_X10_image_X10 hown hK hP 0 rfl rfl 7 (by decide) (hts _ fl_X10_image_48) (fun _ h9 => h9) rfl dX10_image_38 ?_
      refine lv_iload_n hx hb dX10_image_41 rfl (lv_at hl 1 rfl) ?_
      refine lv_iconst (v := 1) hx hb dX10_image_42 (by decide) ?_
      obtain ⟨hg_60, hF⟩ := gd_some hF
      refine xs_z (f := t_kept) hx hb hK hP hD hS 47 2 rfl rfl (k := 0) hj_61 (in_v hg_60) dX10_image_43 (fun H locs hP hD hS => ?_)
      have hP : va_P D vwCl (w_X10_image K g_t g_t_radar g_t_draft g_t_text g_t_reader g_t_history g_t_echoes g_t_tracks g_t_dwelling g_t_chooser g_t_adviser g_t_keptRadars g_t_keptTexts t_radar_gapCount t_radar_targetCount t_radar_lookCount t_radar_time t_radar_gone t_radar_gaps t_radar_settings t_radar_spots t_radar_speeds t_radar_strengths t_radar_lookTimes t_radar_lookSizes t_radar_lookNumbers t_text_size t_text_faultKind t_text_faultPlace t_text_bytes (va_up t_keptRadars_e 0 (r_55.1, r_55.2.1, r_55.2.2.1, r_55.2.2.2.1, r_55.2.2.2.2.1, r_55.2.2.2.2.2.1, r_55.2.2.2.2.2.2.1, r_55.2.2.2.2.2.2.2.1, r_55.2.2.2.2.2.2.2.2.1, r_55.2.2.2.2.2.2.2.2.2.1, r_55.2.2.2.2.2.2.2.2.2.2.1, r_55.2.2.2.2.2.2.2.2.2.2.2.1, r_55.2.2.2.2.2.2.2.2.2.2.2.2)) (va_up t_keptTexts_e 0 (r_58.1, r_58.2.1, r_58.2.2.1, r_58.2.2.2)) (upd t_kept 0 (vp_nar .boolean (1 : Int32)))) H := hP
      have hD : va_D A (w_X10_image K g_t g_t_radar g_t_draft g_t_text g_t_reader g_t_history g_t_echoes g_t_tracks g_t_dwelling g_t_chooser g_t_adviser g_t_keptRadars g_t_keptTexts t_radar_gapCount t_radar_targetCount t_radar_lookCount t_radar_time t_radar_gone t_radar_gaps t_radar_settings t_radar_spots t_radar_speeds t_radar_strengths t_radar_lookTimes t_radar_lookSizes t_radar_lookNumbers t_text_size t_text_faultKind t_text_faultPlace t_text_bytes (va_up t_keptRadars_e 0 (r_55.1, r_55.2.1, r_55.2.2.1, r_55.2.2.2.1, r_55.2.2.2.2.1, r_55.2.2.2.2.2.1, r_55.2.2.2.2.2.2.1, r_55.2.2.2.2.2.2.2.1, r_55.2.2.2.2.2.2.2.2.1, r_55.2.2.2.2.2.2.2.2.2.1, r_55.2.2.2.2.2.2.2.2.2.2.1, r_55.2.2.2.2.2.2.2.2.2.2.2.1, r_55.2.2.2.2.2.2.2.2.2.2.2.2)) (va_up t_keptTexts_e 0 (r_58.1, r_58.2.1, r_58.2.2.1, r_58.2.2.2)) (upd t_kept 0 (vp_nar .boolean (1 : Int32)))) := hD
      refine lv_iconst (v := 1) hx hb dX10_image_44 (by decide) ?_
      obtain rfl := Option.some.inj hF
      exact HR 45 H locs ls dX10_image_45 narrow_b1 hP hD hS
    by_cases hj_61q : j_62 = 1
    · subst hj_61q
      refine lv_aload_n hx hb dX10_image_17 rfl (lv_at hl 0 rfl) ?_
      refine va_get (D := D) (ci := 9) (v := .ref (g_t_radar 0)) (C := RX10) (T := TX10) (N := 14) hx hb hts iw_X10_image_X10 hown hK hP 0 rfl rfl 0 (by decide) (hts _ fl_X10_image_10) (fun _ h9 => h9) rfl dX10_image_18 ?_
      obtain ⟨r_55, hc_56, hF⟩ := bn_some hF
      refine xc_v (wn := (w_X10_image K g_t g_t_radar g_t_draft g_t_text g_t_reader g_t_history g_t_echoes g_t_tracks g_t_dwelling g_t_chooser g_t_adviser g_t_keptRadars g_t_keptTexts t_radar_gapCount t_radar_targetCount t_radar_lookCount t_radar_time t_radar_gone t_radar_gaps t_radar_settings t_radar_spots t_radar_speeds t_radar_strengths t_radar_lookTimes t_radar_lookSizes t_radar_lookNumbers t_text_size t_text_faultKind t_text_faultPlace t_text_bytes (va_up t_keptRadars_e 1 (r_55.1, r_55.2.1, r_55.2.2.1, r_55.2.2.2.1, r_55.2.2.2.2.1, r_55.2.2.2.2.2.1, r_55.2.2.2.2.2.2.1, r_55.2.2.2.2.2.2.2.1, r_55.2.2.2.2.2.2.2.2.1, r_55.2.2.2.2.2.2.2.2.2.1, r_55.2.2.2.2.2.2.2.2.2.2.1, r_55.2.2.2.2.2.2.2.2.2.2.2.1, r_55.2.2.2.2.2.2.2.2.2.2.2.2)) t_keptTexts_e t_kept)) hP hD hS C0.2.2.1 [22, 23, 24, 25, 26, 27, 28, 29, 30, 1, 2, 3, 4, 5, 6, 7, 8, 9] [0, 10, 11, 12, 13, 14, 15, 16, 17, 18, 19, 20, 21, 31, 32, 33, 34, 35, 36, 37, 38, 39, 40, 41, 42, 43, 44, 45, 46, 47] [0, 39, 40, 41, 42, 43, 44, 45, 46, 47, 1, 2, 3, 4, 5, 6, 7, 8, 9, 10, 11, 12, 30, 31, 32, 33, 34, 35, 36, 37, 38, 13, 14, 15, 16, 17, 18, 19, 20, 21, 22, 23, 24, 25, 26, 27, 28, 29] rfl rfl (by decide) (by decide) rfl (by decide) (va_runV (As := [.ref (g_t_radar 0)]) (rest := []) C0.1 (c_X5_copyFrom l D K (g_t_keptRadars 1) g_t_radar ((t_keptRadars_e 1).1) ((t_keptRadars_e 1).2.1) ((t_keptRadars_e 1).2.2.1) ((t_keptRadars_e 1).2.2.2.1) ((t_keptRadars_e 1).2.2.2.2.1) ((t_keptRadars_e 1).2.2.2.2.2.1) ((t_keptRadars_e 1).2.2.2.2.2.2.1) ((t_keptRadars_e 1).2.2.2.2.2.2.2.1) ((t_keptRadars_e 1).2.2.2.2.2.2.2.2.1) ((t_keptRadars_e 1).2.2.2.2.2.2.2.2.2.1) ((t_keptRadars_e 1).2.2.2.2.2.2.2.2.2.2.1) ((t_keptRadars_e 1).2.2.2.2.2.2.2.2.2.2.2.1) ((t_keptRadars_e 1).2.2.2.2.2.2.2.2.2.2.2.2) t_radar_gapCount t_radar_targetCount t_radar_lookCount t_radar_time t_radar_gone t_radar_gaps t_radar_settings t_radar_spots t_radar_speeds t_radar_strengths t_radar_lookTimes t_radar_lookSizes t_radar_lookNumbers r_55 hc_56 H.size) (cwV 1 hts gX10_image_X5_copyFrom rfl rfl rfl (by decide +kernel) ⟨Nat.le_of_ble_eq_true rfl, Nat.le_of_ble_eq_true rfl⟩) (xp_V C0.2 hP hD hS [22, 23, 24, 25, 26, 27, 28, 29, 30, 1, 2, 3, 4, 5, 6, 7, 8, 9] rfl (by decide) 5 0 rfl rfl rfl) rfl rfl hl.1 rfl (lv_room (Nat.le_of_ble_eq_true rfl)) dX10_image_21 ⟨Nat.le_of_ble_eq_true rfl, Nat.le_of_ble_eq_true rfl⟩) (fun H locs hP hD hS => ?_)
      refine lv_aload_n hx hb dX10_image_24 rfl (lv_at hl 0 rfl) ?_
      refine va_get (D := D) (ci := 9) (v := .ref (g_t 7)) (C := RX10) (T := TX10) (N := 14) hx hb hts iw_X10_image_X10 hown hK hP 0 rfl rfl 6 (by decide) (hts _ fl_X10_image_44) (fun _ h9 => h9) rfl dX10_image_25 ?_
      refine lv_iload_n hx hb dX10_image_28 rfl (lv_at hl 1 rfl) ?_
      obtain ⟨hg_57, hF⟩ := gd_some hF
      refine va_aldq hx hb hK hP 40 5 rfl rfl (in_v hg_57) dX10_image_29 ?_
      rw [hj_61]
      refine lv_aload_n hx hb dX10_image_30 rfl (lv_at hl 0 rfl) ?_
      refine va_get (D := D) (ci := 9) (v := .ref (g_t_text 0)) (C := RX10) (T := TX10) (N := 14) hx hb hts iw_X10_image_X10 hown hK hP 0 rfl rfl 2 (by decide) (hts _ fl_X10_image_22) (fun _ h9 => h9) rfl dX10_image_31 ?_
      obtain ⟨r_58, hc_59, hF⟩ := bn_some hF
      refine xc_v (wn := (w_X10_image K g_t g_t_radar g_t_draft g_t_text g_t_reader g_t_history g_t_echoes g_t_tracks g_t_dwelling g_t_chooser g_t_adviser g_t_keptRadars g_t_keptTexts t_radar_gapCount t_radar_targetCount t_radar_lookCount t_radar_time t_radar_gone t_radar_gaps t_radar_settings t_radar_spots t_radar_speeds t_radar_strengths t_radar_lookTimes t_radar_lookSizes t_radar_lookNumbers t_text_size t_text_faultKind t_text_faultPlace t_text_bytes (va_up t_keptRadars_e 1 (r_55.1, r_55.2.1, r_55.2.2.1, r_55.2.2.2.1, r_55.2.2.2.2.1, r_55.2.2.2.2.2.1, r_55.2.2.2.2.2.2.1, r_55.2.2.2.2.2.2.2.1, r_55.2.2.2.2.2.2.2.2.1, r_55.2.2.2.2.2.2.2.2.2.1, r_55.2.2.2.2.2.2.2.2.2.2.1, r_55.2.2.2.2.2.2.2.2.2.2.2.1, r_55.2.2.2.2.2.2.2.2.2.2.2.2)) (va_up t_keptTexts_e 1 (r_58.1, r_58.2.1, r_58.2.2.1, r_58.2.2.2)) t_kept)) hP hD hS C0.2.2.1 [43, 44, 10, 11] [0, 1, 2, 3, 4, 5, 6, 7, 8, 9, 12, 13, 14, 15, 16, 17, 18, 19, 20, 21, 22, 23, 24, 25, 26, 27, 28, 29, 30, 31, 32, 33, 34, 35, 36, 37, 38, 39, 40, 41, 42, 45, 46, 47] [0, 1, 2, 3, 4, 5, 6, 7, 8, 9, 46, 47, 10, 11, 12, 13, 14, 15, 16, 17, 18, 19, 20, 21, 22, 23, 24, 25, 26, 27, 28, 29, 30, 31, 32, 33, 34, 35, 36, 37, 38, 39, 40, 44, 45, 41, 42, 43] rfl rfl (by decide) (by decide) rfl (by decide) (va_runV (As := [.ref (g_t_text 0)]) (rest := []) C0.1 (c_X8_copyFrom l D K (g_t_keptTexts 1) g_t_text ((t_keptTexts_e 1).1) ((t_keptTexts_e 1).2.1) ((t_keptTexts_e 1).2.2.1) ((t_keptTexts_e 1).2.2.2) t_text_size t_text_faultKind t_text_faultPlace t_text_bytes r_58 hc_59 H.size) (cwV 1 hts gX10_image_X8_copyFrom rfl rfl rfl (by decide +kernel) ⟨Nat.le_of_ble_eq_true rfl, Nat.le_of_ble_eq_true rfl⟩) (xp_V C0.2 hP hD hS [43, 44, 10, 11] rfl (by decide) 7 0 rfl rfl rfl) rfl rfl hl.1 rfl (lv_room (Nat.le_of_ble_eq_true rfl)) dX10_image_34 ⟨Nat.le_of_ble_eq_true rfl, Nat.le_of_ble_eq_true rfl⟩) (fun H locs hP hD hS => ?_)
      refine lv_aload_n hx hb dX10_image_37 rfl (lv_at hl 0 rfl) ?_
      refine va_get (D := D) (ci := 9) (v := .ref (g_t 8)) (C := RX10) (T := TX10) (N := 14) hx hb hts iw_X10_image_X10 hown hK hP 0 rfl rfl 7 (by decide) (hts _ fl_X10_image_48) (fun _ h9 => h9) rfl dX10_image_38 ?_
      refine lv_iload_n hx hb dX10_image_41 rfl (lv_at hl 1 rfl) ?_
      refine lv_iconst (v := 1) hx hb dX10_image_42 (by decide) ?_
      obtain ⟨hg_60, hF⟩ := gd_some hF
      refine xs_z (f := t_kept) hx hb hK hP hD hS 47 2 rfl rfl (k := 1) hj_61 (in_v hg_60) dX10_image_43 (fun H locs hP hD hS => ?_)
      have hP : va_P D vwCl (w_X10_image K g_t g_t_radar g_t_draft g_t_text g_t_reader g_t_history g_t_echoes g_t_tracks g_t_dwelling g_t_chooser g_t_adviser g_t_keptRadars g_t_keptTexts t_radar_gapCount t_radar_targetCount t_radar_lookCount t_radar_time t_radar_gone t_radar_gaps t_radar_settings t_radar_spots t_radar_speeds t_radar_strengths t_radar_lookTimes t_radar_lookSizes t_radar_lookNumbers t_text_size t_text_faultKind t_text_faultPlace t_text_bytes (va_up t_keptRadars_e 1 (r_55.1, r_55.2.1, r_55.2.2.1, r_55.2.2.2.1, r_55.2.2.2.2.1, r_55.2.2.2.2.2.1, r_55.2.2.2.2.2.2.1, r_55.2.2.2.2.2.2.2.1, r_55.2.2.2.2.2.2.2.2.1, r_55.2.2.2.2.2.2.2.2.2.1, r_55.2.2.2.2.2.2.2.2.2.2.1, r_55.2.2.2.2.2.2.2.2.2.2.2.1, r_55.2.2.2.2.2.2.2.2.2.2.2.2)) (va_up t_keptTexts_e 1 (r_58.1, r_58.2.1, r_58.2.2.1, r_58.2.2.2)) (upd t_kept 1 (vp_nar .boolean (1 : Int32)))) H := hP
      have hD : va_D A (w_X10_image K g_t g_t_radar g_t_draft g_t_text g_t_reader g_t_history g_t_echoes g_t_tracks g_t_dwelling g_t_chooser g_t_adviser g_t_keptRadars g_t_keptTexts t_radar_gapCount t_radar_targetCount t_radar_lookCount t_radar_time t_radar_gone t_radar_gaps t_radar_settings t_radar_spots t_radar_speeds t_radar_strengths t_radar_lookTimes t_radar_lookSizes t_radar_lookNumbers t_text_size t_text_faultKind t_text_faultPlace t_text_bytes (va_up t_keptRadars_e 1 (r_55.1, r_55.2.1, r_55.2.2.1, r_55.2.2.2.1, r_55.2.2.2.2.1, r_55.2.2.2.2.2.1, r_55.2.2.2.2.2.2.1, r_55.2.2.2.2.2.2.2.1, r_55.2.2.2.2.2.2.2.2.1, r_55.2.2.2.2.2.2.2.2.2.1, r_55.2.2.2.2.2.2.2.2.2.2.1, r_55.2.2.2.2.2.2.2.2.2.2.2.1, r_55.2.2.2.2.2.2.2.2.2.2.2.2)) (va_up t_keptTexts_e 1 (r_58.1, r_58.2.1, r_58.2.2.1, r_58.2.2.2)) (upd t_kept 1 (vp_nar .boolean (1 : Int32)))) := hD
      refine lv_iconst (v := 1) hx hb dX10_image_44 (by decide) ?_
      obtain rfl := Option.some.inj hF
      exact HR 45 H locs ls dX10_image_45 narrow_b1 hP hD hS
    by_cases hj_61q : j_62 = 2
    · subst hj_61q
      refine lv_aload_n hx hb dX10_image_17 rfl (lv_at hl 0 rfl) ?_
      refine va_get (D := D) (ci := 9) (v := .ref (g_t_radar 0)) (C := RX10) (T := TX10) (N := 14) hx hb hts iw_X10_image_X10 hown hK hP 0 rfl rfl 0 (by decide) (hts _ fl_X10_image_10) (fun _ h9 => h9) rfl dX10_image_18 ?_
      obtain ⟨r_55, hc_56, hF⟩ := bn_some hF
      refine xc_v (wn := (w_X10_image K g_t g_t_radar g_t_draft g_t_text g_t_reader g_t_history g_t_echoes g_t_tracks g_t_dwelling g_t_chooser g_t_adviser g_t_keptRadars g_t_keptTexts t_radar_gapCount t_radar_targetCount t_radar_lookCount t_radar_time t_radar_gone t_radar_gaps t_radar_settings t_radar_spots t_radar_speeds t_radar_strengths t_radar_lookTimes t_radar_lookSizes t_radar_lookNumbers t_text_size t_text_faultKind t_text_faultPlace t_text_bytes (va_up t_keptRadars_e 2 (r_55.1, r_55.2.1, r_55.2.2.1, r_55.2.2.2.1, r_55.2.2.2.2.1, r_55.2.2.2.2.2.1, r_55.2.2.2.2.2.2.1, r_55.2.2.2.2.2.2.2.1, r_55.2.2.2.2.2.2.2.2.1, r_55.2.2.2.2.2.2.2.2.2.1, r_55.2.2.2.2.2.2.2.2.2.2.1, r_55.2.2.2.2.2.2.2.2.2.2.2.1, r_55.2.2.2.2.2.2.2.2.2.2.2.2)) t_keptTexts_e t_kept)) hP hD hS C0.2.2.1 [31, 32, 33, 34, 35, 36, 37, 38, 39, 1, 2, 3, 4, 5, 6, 7, 8, 9] [0, 10, 11, 12, 13, 14, 15, 16, 17, 18, 19, 20, 21, 22, 23, 24, 25, 26, 27, 28, 29, 30, 40, 41, 42, 43, 44, 45, 46, 47] [0, 39, 40, 41, 42, 43, 44, 45, 46, 47, 1, 2, 3, 4, 5, 6, 7, 8, 9, 10, 11, 12, 13, 14, 15, 16, 17, 18, 19, 20, 21, 30, 31, 32, 33, 34, 35, 36, 37, 38, 22, 23, 24, 25, 26, 27, 28, 29] rfl rfl (by decide) (by decide) rfl (by decide) (va_runV (As := [.ref (g_t_radar 0)]) (rest := []) C0.1 (c_X5_copyFrom l D K (g_t_keptRadars 2) g_t_radar ((t_keptRadars_e 2).1) ((t_keptRadars_e 2).2.1) ((t_keptRadars_e 2).2.2.1) ((t_keptRadars_e 2).2.2.2.1) ((t_keptRadars_e 2).2.2.2.2.1) ((t_keptRadars_e 2).2.2.2.2.2.1) ((t_keptRadars_e 2).2.2.2.2.2.2.1) ((t_keptRadars_e 2).2.2.2.2.2.2.2.1) ((t_keptRadars_e 2).2.2.2.2.2.2.2.2.1) ((t_keptRadars_e 2).2.2.2.2.2.2.2.2.2.1) ((t_keptRadars_e 2).2.2.2.2.2.2.2.2.2.2.1) ((t_keptRadars_e 2).2.2.2.2.2.2.2.2.2.2.2.1) ((t_keptRadars_e 2).2.2.2.2.2.2.2.2.2.2.2.2) t_radar_gapCount t_radar_targetCount t_radar_lookCount t_radar_time t_radar_gone t_radar_gaps t_radar_settings t_radar_spots t_radar_speeds t_radar_strengths t_radar_lookTimes t_radar_lookSizes t_radar_lookNumbers r_55 hc_56 H.size) (cwV 1 hts gX10_image_X5_copyFrom rfl rfl rfl (by decide +kernel) ⟨Nat.le_of_ble_eq_true rfl, Nat.le_of_ble_eq_true rfl⟩) (xp_V C0.2 hP hD hS [31, 32, 33, 34, 35, 36, 37, 38, 39, 1, 2, 3, 4, 5, 6, 7, 8, 9] rfl (by decide) 5 0 rfl rfl rfl) rfl rfl hl.1 rfl (lv_room (Nat.le_of_ble_eq_true rfl)) dX10_image_21 ⟨Nat.le_of_ble_eq_true rfl, Nat.le_of_ble_eq_true rfl⟩) (fun H locs hP hD hS => ?_)
      refine lv_aload_n hx hb dX10_image_24 rfl (lv_at hl 0 rfl) ?_
      refine va_get (D := D) (ci := 9) (v := .ref (g_t 7)) (C := RX10) (T := TX10) (N := 14) hx hb hts iw_X10_image_X10 hown hK hP 0 rfl rfl 6 (by decide) (hts _ fl_X10_image_44) (fun _ h9 => h9) rfl dX10_image_25 ?_
      refine lv_iload_n hx hb dX10_image_28 rfl (lv_at hl 1 rfl) ?_
      obtain ⟨hg_57, hF⟩ := gd_some hF
      refine va_aldq hx hb hK hP 40 5 rfl rfl (in_v hg_57) dX10_image_29 ?_
      rw [hj_61]
      refine lv_aload_n hx hb dX10_image_30 rfl (lv_at hl 0 rfl) ?_
      refine va_get (D := D) (ci := 9) (v := .ref (g_t_text 0)) (C := RX10) (T := TX10) (N := 14) hx hb hts iw_X10_image_X10 hown hK hP 0 rfl rfl 2 (by decide) (hts _ fl_X10_image_22) (fun _ h9 => h9) rfl dX10_image_31 ?_
      obtain ⟨r_58, hc_59, hF⟩ := bn_some hF
      refine xc_v (wn := (w_X10_image K g_t g_t_radar g_t_draft g_t_text g_t_reader g_t_history g_t_echoes g_t_tracks g_t_dwelling g_t_chooser g_t_adviser g_t_keptRadars g_t_keptTexts t_radar_gapCount t_radar_targetCount t_radar_lookCount t_radar_time t_radar_gone t_radar_gaps t_radar_settings t_radar_spots t_radar_speeds t_radar_strengths t_radar_lookTimes t_radar_lookSizes t_radar_lookNumbers t_text_size t_text_faultKind t_text_faultPlace t_text_bytes (va_up t_keptRadars_e 2 (r_55.1, r_55.2.1, r_55.2.2.1, r_55.2.2.2.1, r_55.2.2.2.2.1, r_55.2.2.2.2.2.1, r_55.2.2.2.2.2.2.1, r_55.2.2.2.2.2.2.2.1, r_55.2.2.2.2.2.2.2.2.1, r_55.2.2.2.2.2.2.2.2.2.1, r_55.2.2.2.2.2.2.2.2.2.2.1, r_55.2.2.2.2.2.2.2.2.2.2.2.1, r_55.2.2.2.2.2.2.2.2.2.2.2.2)) (va_up t_keptTexts_e 2 (r_58.1, r_58.2.1, r_58.2.2.1, r_58.2.2.2)) t_kept)) hP hD hS C0.2.2.1 [45, 46, 10, 11] [0, 1, 2, 3, 4, 5, 6, 7, 8, 9, 12, 13, 14, 15, 16, 17, 18, 19, 20, 21, 22, 23, 24, 25, 26, 27, 28, 29, 30, 31, 32, 33, 34, 35, 36, 37, 38, 39, 40, 41, 42, 43, 44, 47] [0, 1, 2, 3, 4, 5, 6, 7, 8, 9, 46, 47, 10, 11, 12, 13, 14, 15, 16, 17, 18, 19, 20, 21, 22, 23, 24, 25, 26, 27, 28, 29, 30, 31, 32, 33, 34, 35, 36, 37, 38, 39, 40, 41, 42, 44, 45, 43] rfl rfl (by decide) (by decide) rfl (by decide) (va_runV (As := [.ref (g_t_text 0)]) (rest := []) C0.1 (c_X8_copyFrom l D K (g_t_keptTexts 2) g_t_text ((t_keptTexts_e 2).1) ((t_keptTexts_e 2).2.1) ((t_keptTexts_e 2).2.2.1) ((t_keptTexts_e 2).2.2.2) t_text_size t_text_faultKind t_text_faultPlace t_text_bytes r_58 hc_59 H.size) (cwV 1 hts gX10_image_X8_copyFrom rfl rfl rfl (by decide +kernel) ⟨Nat.le_of_ble_eq_true rfl, Nat.le_of_ble_eq_true rfl⟩) (xp_V C0.2 hP hD hS [45, 46, 10, 11] rfl (by decide) 7 0 rfl rfl rfl) rfl rfl hl.1 rfl (lv_room (Nat.le_of_ble_eq_true rfl)) dX10_image_34 ⟨Nat.le_of_ble_eq_true rfl, Nat.le_of_ble_eq_true rfl⟩) (fun H locs hP hD hS => ?_)
      refine lv_aload_n hx hb dX10_image_37 rfl (lv_at hl 0 rfl) ?_
      refine va_get (D := D) (ci := 9) (v := .ref (g_t 8)) (C := RX10) (T := TX10) (N := 14) hx hb hts iw_X10_image_X10 hown hK hP 0 rfl rfl 7 (by decide) (hts _ fl_X10_image_48) (fun _ h9 => h9) rfl dX10_image_38 ?_
      refine lv_iload_n hx hb dX10_image_41 rfl (lv_at hl 1 rfl) ?_
      refine lv_iconst (v := 1) hx hb dX10_image_42 (by decide) ?_
      obtain ⟨hg_60, hF⟩ := gd_some hF
      refine xs_z (f := t_kept) hx hb hK hP hD hS 47 2 rfl rfl (k := 2) hj_61 (in_v hg_60) dX10_image_43 (fun H locs hP hD hS => ?_)
      have hP : va_P D vwCl (w_X10_image K g_t g_t_radar g_t_draft g_t_text g_t_reader g_t_history g_t_echoes g_t_tracks g_t_dwelling g_t_chooser g_t_adviser g_t_keptRadars g_t_keptTexts t_radar_gapCount t_radar_targetCount t_radar_lookCount t_radar_time t_radar_gone t_radar_gaps t_radar_settings t_radar_spots t_radar_speeds t_radar_strengths t_radar_lookTimes t_radar_lookSizes t_radar_lookNumbers t_text_size t_text_faultKind t_text_faultPlace t_text_bytes (va_up t_keptRadars_e 2 (r_55.1, r_55.2.1, r_55.2.2.1, r_55.2.2.2.1, r_55.2.2.2.2.1, r_55.2.2.2.2.2.1, r_55.2.2.2.2.2.2.1, r_55.2.2.2.2.2.2.2.1, r_55.2.2.2.2.2.2.2.2.1, r_55.2.2.2.2.2.2.2.2.2.1, r_55.2.2.2.2.2.2.2.2.2.2.1, r_55.2.2.2.2.2.2.2.2.2.2.2.1, r_55.2.2.2.2.2.2.2.2.2.2.2.2)) (va_up t_keptTexts_e 2 (r_58.1, r_58.2.1, r_58.2.2.1, r_58.2.2.2)) (upd t_kept 2 (vp_nar .boolean (1 : Int32)))) H := hP
      have hD : va_D A (w_X10_image K g_t g_t_radar g_t_draft g_t_text g_t_reader g_t_history g_t_echoes g_t_tracks g_t_dwelling g_t_chooser g_t_adviser g_t_keptRadars g_t_keptTexts t_radar_gapCount t_radar_targetCount t_radar_lookCount t_radar_time t_radar_gone t_radar_gaps t_radar_settings t_radar_spots t_radar_speeds t_radar_strengths t_radar_lookTimes t_radar_lookSizes t_radar_lookNumbers t_text_size t_text_faultKind t_text_faultPlace t_text_bytes (va_up t_keptRadars_e 2 (r_55.1, r_55.2.1, r_55.2.2.1, r_55.2.2.2.1, r_55.2.2.2.2.1, r_55.2.2.2.2.2.1, r_55.2.2.2.2.2.2.1, r_55.2.2.2.2.2.2.2.1, r_55.2.2.2.2.2.2.2.2.1, r_55.2.2.2.2.2.2.2.2.2.1, r_55.2.2.2.2.2.2.2.2.2.2.1, r_55.2.2.2.2.2.2.2.2.2.2.2.1, r_55.2.2.2.2.2.2.2.2.2.2.2.2)) (va_up t_keptTexts_e 2 (r_58.1, r_58.2.1, r_58.2.2.1, r_58.2.2.2)) (upd t_kept 2 (vp_nar .boolean (1 : Int32)))) := hD
      refine lv_iconst (v := 1) hx hb dX10_image_44 (by decide) ?_
      obtain rfl := Option.some.inj hF
      exact HR 45 H locs ls dX10_image_45 narrow_b1 hP hD hS
    omega
  · have hF := it_pos c_3 hF
    refine lv_iconst (v := 0) hx hb dX10_image_9 (by decide) ?_
    obtain rfl := Option.some.inj hF
    exact HR 10 H locs ls dX10_image_10 narrow_b0 hP hD hS

/-! StaggerRadar.nextAtPlace(IIII)I -/
abbrev rmX10_nextAtPlace : Room := { frames := 0, cells := 0, slots := 0, locals := 0 }
abbrev w_X10_nextAtPlace (K : Nat → ClassId) : va_W := []
def L_X10_nextAtPlace_7  : Nat → Int32 → Int32 → Int32 → Int64 → Int32 → Option (Int32)
  | 0, _, _, _, _, _ => none
  | n_ + 1, x1, x2, x3, x4, x6 =>
    if x2 ≤ x6 then (some (-1 : Int32)) else (gd_ (decide (¬ (x2).toInt64 = 0)) (if (lg_cmp (x4 - x4 / (x2).toInt64 * (x2).toInt64) ((x3).toInt64)) = (0 : Int32) then (some ((x4).toInt32)) else (L_X10_nextAtPlace_7 n_ x1 x2 x3 (x4 + (x1).toInt64) (x6 + (1 : Int32)))))
set_option maxHeartbeats 4000000 in
set_option maxRecDepth 100000 in
theorem w_X10_nextAtPlace_7 {p : Program} {l : Launch} {e : Env} {s : State} {m : MethodId} {args : Array Value} {below : List Frame} {meth : Method} {c : Code} {D : va_G} {K : Nat → ClassId} {A : Nat → Prop} {Q : State → Prop} (C0 : cx_ p s m args c cX10_nextAtPlace 7 RX10 wsX10_nextAtPlace D K A)   {res : Int32} (HR : ∀ (pc : Nat) (H : Heap) (locs : List Loc) (ls : Array Slot), decode cX10_nextAtPlace pc = .ok (.ireturn, 1) → va_P D vwCl (w_X10_nextAtPlace K) H → va_D A (w_X10_nextAtPlace K) → va_S A s.heap H locs → W p l e rmX10_nextAtPlace s m args below meth c H locs 0 0 Q (F0 m pc ls [.int res]))  :
    ∀ (n_ : Nat) (x1 : Int32) (x2 : Int32) (x3 : Int32) (x4 : Int64) (x6 : Int32) (H : Heap) (locs : List Loc) (ls : Array Slot), va_P D vwCl (w_X10_nextAtPlace K) H → va_D A (w_X10_nextAtPlace K) → va_S A s.heap H locs → lv_has ls 7 [(1, .int x1), (2, .int x2), (3, .int x3), (4, .long x4), (6, .int x6)] → L_X10_nextAtPlace_7 n_ x1 x2 x3 x4 x6 = some res → W p l e rmX10_nextAtPlace s m args below meth c H locs 0 0 Q (F0 m 7 ls []) := by
  obtain ⟨⟨hx, hb, hml, hown, hts⟩, hK, -⟩ := id C0
  intro n_
  induction n_ with
  | zero =>
    intro x1 x2 x3 x4 x6 H locs ls hP hD hS hl hF
    exact no_s (show (none : Option (Int32)) = some res from hF)
  | succ n_ ih =>
    intro x1 x2 x3 x4 x6 H locs ls hP hD hS hl hF
    rw [L_X10_nextAtPlace_7] at hF
    refine lv_iload hx hb dX10_nextAtPlace_7 (lv_at hl 4 rfl) ?_
    refine lv_iload_n hx hb dX10_nextAtPlace_9 rfl (lv_at hl 1 rfl) ?_
    refine lv_icmp_ge (tgt := 41) hx hb dX10_nextAtPlace_10 (by decide) (fun c_1 => ?_) (fun c_1 => ?_)
    · have hF := it_pos c_1 hF
      refine lv_iconst (v := (-1)) hx hb dX10_nextAtPlace_41 (by decide) ?_
      obtain rfl := Option.some.inj hF
      exact HR 42 H locs ls dX10_nextAtPlace_42 hP hD hS
    · have hF := it_neg c_1 hF
      refine lv_lload hx hb dX10_nextAtPlace_13 (lv_at hl 3 rfl) ?_
      refine lv_iload_n hx hb dX10_nextAtPlace_15 rfl (lv_at hl 1 rfl) ?_
      refine lv_i2l hx hb dX10_nextAtPlace_16 rfl ?_
      obtain ⟨hg_2, hF⟩ := gd_some hF
      refine lv_lrem hx hb dX10_nextAtPlace_17 (nl_of hg_2) ?_
      refine lv_iload_n hx hb dX10_nextAtPlace_18 rfl (lv_at hl 2 rfl) ?_
      refine lv_i2l hx hb dX10_nextAtPlace_19 rfl ?_
      refine W.lcmp hx hb dX10_nextAtPlace_20 ?_
      refine lv_if_ne (tgt := 28) hx hb dX10_nextAtPlace_21 (by decide) (fun c_3 => ?_) (fun c_3 => ?_)
      · have hF := it_neg c_3 hF
        refine lv_lload hx hb dX10_nextAtPlace_28 (lv_at hl 3 rfl) ?_
        refine lv_iload_n hx hb dX10_nextAtPlace_30 rfl (lv_at hl 0 rfl) ?_
        refine lv_i2l hx hb dX10_nextAtPlace_31 rfl ?_
        refine lv_ladd hx hb dX10_nextAtPlace_32 ?_
        refine lv_lstore (lv' := [(4, .long (x4 + (x1).toInt64)), (1, .int x1), (2, .int x2), (3, .int x3), (6, .int x6)]) hx hb dX10_nextAtPlace_33 hl (by decide) rfl (fun ls hl => ?_)
        refine lv_iinc (v := (x6 + (1 : Int32))) (lv' := [(6, .int (x6 + (1 : Int32))), (4, .long (x4 + (x1).toInt64)), (1, .int x1), (2, .int x2), (3, .int x3)]) hx hb dX10_nextAtPlace_35 hl (k := 4) rfl (congrArg (fun z => x6 + z) (by decide)) (by decide) rfl (fun ls hl => ?_)
        refine lv_goto (tgt := 7) hx hb dX10_nextAtPlace_38 (by decide) ?_
        exact ih x1 x2 x3 (x4 + (x1).toInt64) (x6 + (1 : Int32)) H locs ls hP hD hS (lv_sub hl [2, 3, 4, 1, 0] rfl) hF
      · have hF := it_pos c_3 hF
        refine lv_lload hx hb dX10_nextAtPlace_24 (lv_at hl 3 rfl) ?_
        refine lv_l2i hx hb dX10_nextAtPlace_26 rfl ?_
        obtain rfl := Option.some.inj hF
        exact HR 27 H locs ls dX10_nextAtPlace_27 hP hD hS
def F_X10_nextAtPlace (x0 : Int32) (x1 : Int32) (x2 : Int32) (x3 : Int32) : Option (Int32) :=
  L_X10_nextAtPlace_7 fu_ x1 x2 x3 ((x0).toInt64) (0 : Int32)
set_option maxHeartbeats 4000000 in
set_option maxRecDepth 100000 in
theorem c_X10_nextAtPlace (l : Launch) (D : va_G) (K : Nat → ClassId) (x0 : Int32) (x1 : Int32) (x2 : Int32) (x3 : Int32) (res : Int32) (hF : F_X10_nextAtPlace x0 x1 x2 x3 = some res) :
    Mi_ l yX10_nextAtPlace wsX10_nextAtPlace rmX10_nextAtPlace D K [.int x0, .int x1, .int x2, .int x3] (w_X10_nextAtPlace K) (w_X10_nextAtPlace K) (res) := by
  refine en_i (cc := cX10_nextAtPlace) (maxL := 7) (own := RX10) (by decide) rfl rfl (Nat.le_of_ble_eq_true rfl) ?_
  intro p e s m args below meth c A Q H locs ls C0 hP hD hS hl HR
  obtain ⟨⟨hx, hb, hml, hown, hts⟩, hK, -⟩ := id C0
  have hl : lv_has ls 7 [(0, .int x0), (1, .int x1), (2, .int x2), (3, .int x3)] := hl
  unfold F_X10_nextAtPlace at hF
  refine lv_iload_n hx hb dX10_nextAtPlace_0 rfl (lv_at hl 0 rfl) ?_
  refine lv_i2l hx hb dX10_nextAtPlace_1 rfl ?_
  refine lv_lstore (lv' := [(4, .long ((x0).toInt64)), (0, .int x0), (1, .int x1), (2, .int x2), (3, .int x3)]) hx hb dX10_nextAtPlace_2 hl (by decide) rfl (fun ls hl => ?_)
  refine lv_iconst (v := 0) hx hb dX10_nextAtPlace_4 (by decide) ?_
  refine lv_istore (lv' := [(6, .int (0 : Int32)), (4, .long ((x0).toInt64)), (0, .int x0), (1, .int x1), (2, .int x2), (3, .int x3)]) hx hb dX10_nextAtPlace_5 hl (by decide) rfl (fun ls hl => ?_)
  exact w_X10_nextAtPlace_7 C0 HR fu_ x1 x2 x3 ((x0).toInt64) (0 : Int32) H locs ls hP hD hS (lv_sub hl [3, 4, 5, 1, 0] rfl) hF

/-! StaggerRadar.joined(IIIII)I -/
abbrev rmX10_joined : Room := { frames := 2, cells := 0, slots := 0, locals := 47 }
theorem fl_X10_joined_10 : Cond.fieldLink RX10 10 "StaggerRadar" "radar" "LStaggerRadar$Radar;" ∈ wsX10_joined := by decide +kernel
theorem fl_X10_joined_87 : Cond.fieldLink RX10 87 "StaggerRadar" "places" "[I" ∈ wsX10_joined := by decide +kernel
theorem fl_X10_joined_122 : Cond.fieldLink RX10 122 "StaggerRadar$Radar" "gapCount" "I" ∈ wsX10_joined := by decide +kernel
theorem fl_X10_joined_238 : Cond.fieldLink RX10 238 "StaggerRadar$Radar" "gaps" "[I" ∈ wsX10_joined := by decide +kernel
theorem iw_X10_joined_X10 : ∀ w ∈ u_ws RX10 TX10 14, w ∈ wsX10_joined := by decide +kernel
theorem iw_X10_joined_X5 : ∀ w ∈ u_ws RX5 TX5 13, w ∈ wsX10_joined := by decide +kernel
abbrev w_X10_joined (K : Nat → ClassId) (g_t : Nat → Nat) (g_t_radar : Nat → Nat) (g_t_draft : Nat → Nat) (g_t_text : Nat → Nat) (g_t_reader : Nat → Nat) (g_t_history : Nat → Nat) (g_t_echoes : Nat → Nat) (g_t_tracks : Nat → Nat) (g_t_dwelling : Nat → Nat) (g_t_chooser : Nat → Nat) (g_t_adviser : Nat → Nat) (t_radar_gapCount : Int32) (t_radar_targetCount : Int32) (t_radar_lookCount : Int32) (t_radar_time : Int32) (t_radar_gone : Int32) (t_radar_gaps : Nat → Int32) (t_places : Nat → Int32) : va_W := [((g_t 0), .inr (9, [.ref (g_t_radar 0), .ref (g_t_draft 0), .ref (g_t_text 0), .ref (g_t_reader 0), .ref (g_t_history 0), .ref (g_t 6), .ref (g_t 7), .ref (g_t 8), .ref (g_t_echoes 0), .ref (g_t_tracks 0), .ref (g_t_dwelling 0), .ref (g_t_chooser 0), .ref (g_t_adviser 0), .ref (g_t 14)])), ((g_t_radar 0), .inr (5, [.ref (g_t_radar 1), .ref (g_t_radar 2), .ref (g_t_radar 3), .ref (g_t_radar 4), .ref (g_t_radar 5), .ref (g_t_radar 6), .ref (g_t_radar 7), .ref (g_t_radar 8), .int t_radar_gapCount, .int t_radar_targetCount, .int t_radar_lookCount, .int t_radar_time, .int t_radar_gone])), ((g_t_radar 1), .inl (K 0, 5, .inl t_radar_gaps)), ((g_t 14), .inl (K 0, 5, .inl t_places))]
def L_X10_joined_46 (t_radar_gapCount : Int32) (t_radar_gaps : Nat → Int32) : Nat → (Nat → Int32) → Int32 → Int32 → Int32 → Option (Int32 × (Nat → Int32))
  | 0, _, _, _, _ => none
  | n_ + 1, t_places, x6, x7, x8 =>
    if t_radar_gapCount ≤ x8 then (some (x6, t_places)) else (gd_ (in_b x8 5) (if (t_places (x8).toNatClampNeg) < (0 : Int32) then (L_X10_joined_46 t_radar_gapCount t_radar_gaps n_ t_places x6 x7 (x8 + (1 : Int32))) else (gd_ (in_b x8 5) (gd_ (in_b x8 5) ((F_X10_nextAtPlace x6 x7 (t_radar_gaps (x8).toNatClampNeg) (t_places (x8).toNatClampNeg)).bind fun r_6 => (if r_6 = (-1 : Int32) then (some ((-1 : Int32), t_places)) else (gd_ (in_b x8 5) ((F_X10_leastCommon x7 (t_radar_gaps (x8).toNatClampNeg)).bind fun r_10 => (L_X10_joined_46 t_radar_gapCount t_radar_gaps n_ t_places r_6 r_10 (x8 + (1 : Int32)))))))))))
set_option maxHeartbeats 4000000 in
set_option maxRecDepth 100000 in
theorem w_X10_joined_46 {p : Program} {l : Launch} {e : Env} {s : State} {m : MethodId} {args : Array Value} {below : List Frame} {meth : Method} {c : Code} {D : va_G} {K : Nat → ClassId} {A : Nat → Prop} {Q : State → Prop} (C0 : cx_ p s m args c cX10_joined 9 RX10 wsX10_joined D K A) {g_t : Nat → Nat} {g_t_radar : Nat → Nat} {g_t_draft : Nat → Nat} {g_t_text : Nat → Nat} {g_t_reader : Nat → Nat} {g_t_history : Nat → Nat} {g_t_echoes : Nat → Nat} {g_t_tracks : Nat → Nat} {g_t_dwelling : Nat → Nat} {g_t_chooser : Nat → Nat} {g_t_adviser : Nat → Nat} {t_radar_gapCount : Int32} {t_radar_targetCount : Int32} {t_radar_lookCount : Int32} {t_radar_time : Int32} {t_radar_gone : Int32} {t_radar_gaps : Nat → Int32} {res : Int32 × (Nat → Int32)} (HR : ∀ (pc : Nat) (H : Heap) (locs : List Loc) (ls : Array Slot), decode cX10_joined pc = .ok (.ireturn, 1) → va_P D vwCl (w_X10_joined K g_t g_t_radar g_t_draft g_t_text g_t_reader g_t_history g_t_echoes g_t_tracks g_t_dwelling g_t_chooser g_t_adviser t_radar_gapCount t_radar_targetCount t_radar_lookCount t_radar_time t_radar_gone t_radar_gaps res.2) H → va_D A (w_X10_joined K g_t g_t_radar g_t_draft g_t_text g_t_reader g_t_history g_t_echoes g_t_tracks g_t_dwelling g_t_chooser g_t_adviser t_radar_gapCount t_radar_targetCount t_radar_lookCount t_radar_time t_radar_gone t_radar_gaps res.2) → va_S A s.heap H locs → W p l e rmX10_joined s m args below meth c H locs 0 0 Q (F0 m pc ls [.int res.1]))  :
    ∀ (n_ : Nat) (t_places : Nat → Int32) (x6 : Int32) (x7 : Int32) (x8 : Int32) (H : Heap) (locs : List Loc) (ls : Array Slot), va_P D vwCl (w_X10_joined K g_t g_t_radar g_t_draft g_t_text g_t_reader g_t_history g_t_echoes g_t_tracks g_t_dwelling g_t_chooser g_t_adviser t_radar_gapCount t_radar_targetCount t_radar_lookCount t_radar_time t_radar_gone t_radar_gaps t_places) H → va_D A (w_X10_joined K g_t g_t_radar g_t_draft g_t_text g_t_reader g_t_history g_t_echoes g_t_tracks g_t_dwelling g_t_chooser g_t_adviser t_radar_gapCount t_radar_targetCount t_radar_lookCount t_radar_time t_radar_gone t_radar_gaps t_places) → va_S A s.heap H locs → lv_has ls 9 [(0, .ref (g_t 0)), (6, .int x6), (7, .int x7), (8, .int x8)] → L_X10_joined_46 t_radar_gapCount t_radar_gaps n_ t_places x6 x7 x8 = some res → W p l e rmX10_joined s m args below meth c H locs 0 0 Q (F0 m 46 ls []) := by
  obtain ⟨⟨hx, hb, hml, hown, hts⟩, hK, -⟩ := id C0
  intro n_
  induction n_ with
  | zero =>
    intro t_places x6 x7 x8 H locs ls hP hD hS hl hF
    exact no_s (show (none : Option (Int32 × (Nat → Int32))) = some res from hF)
  | succ n_ ih =>
    intro t_places x6 x7 x8 H locs ls hP hD hS hl hF
    rw [L_X10_joined_46] at hF
    refine lv_iload hx hb dX10_joined_46 (lv_at hl 3 rfl) ?_
    refine lv_aload_n hx hb dX10_joined_48 rfl (lv_at hl 0 rfl) ?_
    refine va_get (D := D) (ci := 9) (v := .ref (g_t_radar 0)) (C := RX10) (T := TX10) (N := 14) hx hb hts iw_X10_joined_X10 hown hK hP 0 rfl rfl 0 (by decide) (hts _ fl_X10_joined_10) (fun _ h9 => h9) rfl dX10_joined_49 ?_
    refine va_get (D := D) (ci := 5) (v := .int t_radar_gapCount) (C := RX5) (T := TX5) (N := 13) hx hb hts iw_X10_joined_X5 hown hK hP 1 rfl rfl 8 (by decide) (hts _ fl_X10_joined_122) (fun _ h9 => h9) rfl dX10_joined_52 ?_
    refine lv_icmp_ge (tgt := 125) hx hb dX10_joined_55 (by decide) (fun c_1 => ?_) (fun c_1 => ?_)
    · have hF := it_pos c_1 hF
      refine lv_iload hx hb dX10_joined_125 (lv_at hl 1 rfl) ?_
      obtain rfl := Option.some.inj hF
      exact HR 127 H locs ls dX10_joined_127 hP hD hS
    · have hF := it_neg c_1 hF
      refine lv_aload_n hx hb dX10_joined_58 rfl (lv_at hl 0 rfl) ?_
      refine va_get (D := D) (ci := 9) (v := .ref (g_t 14)) (C := RX10) (T := TX10) (N := 14) hx hb hts iw_X10_joined_X10 hown hK hP 0 rfl rfl 13 (by decide) (hts _ fl_X10_joined_87) (fun _ h9 => h9) rfl dX10_joined_59 ?_
      refine lv_iload hx hb dX10_joined_62 (lv_at hl 3 rfl) ?_
      obtain ⟨hg_2, hF⟩ := gd_some hF
      refine xl_i (f := t_places) hx hb hK hP 3 0 rfl rfl rfl (in_v hg_2) dX10_joined_64 ?_
      refine lv_if_lt (tgt := 119) hx hb dX10_joined_65 (by decide) (fun c_3 => ?_) (fun c_3 => ?_)
      · have hF := it_pos c_3 hF
        refine lv_iinc (v := (x8 + (1 : Int32))) (lv' := [(8, .int (x8 + (1 : Int32))), (0, .ref (g_t 0)), (6, .int x6), (7, .int x7)]) hx hb dX10_joined_119 hl (k := 3) rfl (congrArg (fun z => x8 + z) (by decide)) (by decide) rfl (fun ls hl => ?_)
        refine lv_goto (tgt := 46) hx hb dX10_joined_122 (by decide) ?_
        exact ih t_places x6 x7 (x8 + (1 : Int32)) H locs ls hP hD hS (lv_sub hl [1, 2, 3, 0] rfl) hF
      · have hF := it_neg c_3 hF
        refine lv_iload hx hb dX10_joined_68 (lv_at hl 1 rfl) ?_
        refine lv_iload hx hb dX10_joined_70 (lv_at hl 2 rfl) ?_
        refine lv_aload_n hx hb dX10_joined_72 rfl (lv_at hl 0 rfl) ?_
        refine va_get (D := D) (ci := 9) (v := .ref (g_t_radar 0)) (C := RX10) (T := TX10) (N := 14) hx hb hts iw_X10_joined_X10 hown hK hP 0 rfl rfl 0 (by decide) (hts _ fl_X10_joined_10) (fun _ h9 => h9) rfl dX10_joined_73 ?_
        refine va_get (D := D) (ci := 5) (v := .ref (g_t_radar 1)) (C := RX5) (T := TX5) (N := 13) hx hb hts iw_X10_joined_X5 hown hK hP 1 rfl rfl 0 (by decide) (hts _ fl_X10_joined_238) (fun _ h9 => h9) rfl dX10_joined_76 ?_
        refine lv_iload hx hb dX10_joined_79 (lv_at hl 3 rfl) ?_
        obtain ⟨hg_4, hF⟩ := gd_some hF
        refine xl_i (f := t_radar_gaps) hx hb hK hP 2 0 rfl rfl rfl (in_v hg_4) dX10_joined_81 ?_
        refine lv_aload_n hx hb dX10_joined_82 rfl (lv_at hl 0 rfl) ?_
        refine va_get (D := D) (ci := 9) (v := .ref (g_t 14)) (C := RX10) (T := TX10) (N := 14) hx hb hts iw_X10_joined_X10 hown hK hP 0 rfl rfl 13 (by decide) (hts _ fl_X10_joined_87) (fun _ h9 => h9) rfl dX10_joined_83 ?_
        refine lv_iload hx hb dX10_joined_86 (lv_at hl 3 rfl) ?_
        obtain ⟨hg_5, hF⟩ := gd_some hF
        refine xl_i (f := t_places) hx hb hK hP 3 0 rfl rfl rfl (in_v hg_5) dX10_joined_88 ?_
        obtain ⟨r_6, hc_7, hF⟩ := bn_some hF
        refine xc_i (wn := (w_X10_joined K g_t g_t_radar g_t_draft g_t_text g_t_reader g_t_history g_t_echoes g_t_tracks g_t_dwelling g_t_chooser g_t_adviser t_radar_gapCount t_radar_targetCount t_radar_lookCount t_radar_time t_radar_gone t_radar_gaps t_places)) hP hD hS C0.2.2.1 [] [0, 1, 2, 3] [0, 1, 2, 3] rfl rfl (by decide) (by decide) rfl (by decide) (va_runS (As := [.int x6, .int x7, .int (t_radar_gaps (x8).toNatClampNeg), .int (t_places (x8).toNatClampNeg)]) (rest := []) C0.1 (c_X10_nextAtPlace l D K x6 x7 (t_radar_gaps (x8).toNatClampNeg) (t_places (x8).toNatClampNeg) r_6 hc_7 H.size) (va_cwS 4 hts gX10_joined_X10_nextAtPlace rfl rfl rfl (by decide +kernel) ⟨Nat.le_of_ble_eq_true rfl, Nat.le_of_ble_eq_true rfl⟩) (xp_S C0.2 hP hD hS [] rfl (by decide)) rfl rfl hl.1 rfl (lv_room (Nat.le_of_ble_eq_true rfl)) dX10_joined_89 ⟨Nat.le_of_ble_eq_true rfl, Nat.le_of_ble_eq_true rfl⟩) (fun H locs hP hD hS => ?_)
        refine lv_istore (lv' := [(6, .int r_6), (0, .ref (g_t 0)), (7, .int x7), (8, .int x8)]) hx hb dX10_joined_92 hl (by decide) rfl (fun ls hl => ?_)
        refine lv_iload hx hb dX10_joined_94 (lv_at hl 0 rfl) ?_
        refine lv_iconst (v := (-1)) hx hb dX10_joined_96 (by decide) ?_
        refine lv_icmp_ne (tgt := 102) hx hb dX10_joined_97 (by decide) (fun c_8 => ?_) (fun c_8 => ?_)
        · have hF := it_neg c_8 hF
          refine lv_iload hx hb dX10_joined_102 (lv_at hl 2 rfl) ?_
          refine lv_aload_n hx hb dX10_joined_104 rfl (lv_at hl 1 rfl) ?_
          refine va_get (D := D) (ci := 9) (v := .ref (g_t_radar 0)) (C := RX10) (T := TX10) (N := 14) hx hb hts iw_X10_joined_X10 hown hK hP 0 rfl rfl 0 (by decide) (hts _ fl_X10_joined_10) (fun _ h9 => h9) rfl dX10_joined_105 ?_
          refine va_get (D := D) (ci := 5) (v := .ref (g_t_radar 1)) (C := RX5) (T := TX5) (N := 13) hx hb hts iw_X10_joined_X5 hown hK hP 1 rfl rfl 0 (by decide) (hts _ fl_X10_joined_238) (fun _ h9 => h9) rfl dX10_joined_108 ?_
          refine lv_iload hx hb dX10_joined_111 (lv_at hl 3 rfl) ?_
          obtain ⟨hg_9, hF⟩ := gd_some hF
          refine xl_i (f := t_radar_gaps) hx hb hK hP 2 0 rfl rfl rfl (in_v hg_9) dX10_joined_113 ?_
          obtain ⟨r_10, hc_11, hF⟩ := bn_some hF
          refine xc_i (wn := (w_X10_joined K g_t g_t_radar g_t_draft g_t_text g_t_reader g_t_history g_t_echoes g_t_tracks g_t_dwelling g_t_chooser g_t_adviser t_radar_gapCount t_radar_targetCount t_radar_lookCount t_radar_time t_radar_gone t_radar_gaps t_places)) hP hD hS C0.2.2.1 [] [0, 1, 2, 3] [0, 1, 2, 3] rfl rfl (by decide) (by decide) rfl (by decide) (va_runS (As := [.int x7, .int (t_radar_gaps (x8).toNatClampNeg)]) (rest := []) C0.1 (c_X10_leastCommon l D K x7 (t_radar_gaps (x8).toNatClampNeg) r_10 hc_11 H.size) (va_cwS 2 hts gX10_joined_X10_leastCommon rfl rfl rfl (by decide +kernel) ⟨Nat.le_of_ble_eq_true rfl, Nat.le_of_ble_eq_true rfl⟩) (xp_S C0.2 hP hD hS [] rfl (by decide)) rfl rfl hl.1 rfl (lv_room (Nat.le_of_ble_eq_true rfl)) dX10_joined_114 ⟨Nat.le_of_ble_eq_true rfl, Nat.le_of_ble_eq_true rfl⟩) (fun H locs hP hD hS => ?_)
          refine lv_istore (lv' := [(7, .int r_10), (6, .int r_6), (0, .ref (g_t 0)), (8, .int x8)]) hx hb dX10_joined_117 hl (by decide) rfl (fun ls hl => ?_)
          refine lv_iinc (v := (x8 + (1 : Int32))) (lv' := [(8, .int (x8 + (1 : Int32))), (7, .int r_10), (6, .int r_6), (0, .ref (g_t 0))]) hx hb dX10_joined_119 hl (k := 3) rfl (congrArg (fun z => x8 + z) (by decide)) (by decide) rfl (fun ls hl => ?_)
          refine lv_goto (tgt := 46) hx hb dX10_joined_122 (by decide) ?_
          exact ih t_places r_6 r_10 (x8 + (1 : Int32)) H locs ls hP hD hS (lv_sub hl [3, 2, 1, 0] rfl) hF
        · have hF := it_pos c_8 hF
          refine lv_iconst (v := (-1)) hx hb dX10_joined_100 (by decide) ?_
          obtain rfl := Option.some.inj hF
          exact HR 101 H locs ls dX10_joined_101 hP hD hS
def F_X10_joined (t_radar_gapCount : Int32) (t_radar_gaps : Nat → Int32) (t_places : Nat → Int32) (x1 : Int32) (x2 : Int32) (x3 : Int32) (x4 : Int32) (x5 : Int32) : Option (Int32 × (Nat → Int32)) :=
  L_X10_joined_46 t_radar_gapCount t_radar_gaps fu_ (upd (upd (upd (upd (upd t_places 0 x1) 1 x2) 2 x3) 3 x4) 4 x5) (0 : Int32) (1 : Int32) (0 : Int32)
set_option maxHeartbeats 4000000 in
set_option maxRecDepth 100000 in
theorem c_X10_joined (l : Launch) (D : va_G) (K : Nat → ClassId) (g_t : Nat → Nat) (g_t_radar : Nat → Nat) (g_t_draft : Nat → Nat) (g_t_text : Nat → Nat) (g_t_reader : Nat → Nat) (g_t_history : Nat → Nat) (g_t_echoes : Nat → Nat) (g_t_tracks : Nat → Nat) (g_t_dwelling : Nat → Nat) (g_t_chooser : Nat → Nat) (g_t_adviser : Nat → Nat) (t_radar_gapCount : Int32) (t_radar_targetCount : Int32) (t_radar_lookCount : Int32) (t_radar_time : Int32) (t_radar_gone : Int32) (t_radar_gaps : Nat → Int32) (t_places : Nat → Int32) (x1 : Int32) (x2 : Int32) (x3 : Int32) (x4 : Int32) (x5 : Int32) (res : Int32 × (Nat → Int32)) (hF : F_X10_joined t_radar_gapCount t_radar_gaps t_places x1 x2 x3 x4 x5 = some res) :
    Mi_ l yX10_joined wsX10_joined rmX10_joined D K [.ref (g_t 0), .int x1, .int x2, .int x3, .int x4, .int x5] (w_X10_joined K g_t g_t_radar g_t_draft g_t_text g_t_reader g_t_history g_t_echoes g_t_tracks g_t_dwelling g_t_chooser g_t_adviser t_radar_gapCount t_radar_targetCount t_radar_lookCount t_radar_time t_radar_gone t_radar_gaps t_places) (w_X10_joined K g_t g_t_radar g_t_draft g_t_text g_t_reader g_t_history g_t_echoes g_t_tracks g_t_dwelling g_t_chooser g_t_adviser t_radar_gapCount t_radar_targetCount t_radar_lookCount t_radar_time t_radar_gone t_radar_gaps res.2) (res.1) := by
  refine en_i (cc := cX10_joined) (maxL := 9) (own := RX10) (by decide) rfl rfl (Nat.le_of_ble_eq_true rfl) ?_
  intro p e s m args below meth c A Q H locs ls C0 hP hD hS hl HR
  obtain ⟨⟨hx, hb, hml, hown, hts⟩, hK, -⟩ := id C0
  have hl : lv_has ls 9 [(0, .ref (g_t 0)), (1, .int x1), (2, .int x2), (3, .int x3), (4, .int x4), (5, .int x5)] := hl
  unfold F_X10_joined at hF
  refine lv_aload_n hx hb dX10_joined_0 rfl (lv_at hl 0 rfl) ?_
  refine va_get (D := D) (ci := 9) (v := .ref (g_t 14)) (C := RX10) (T := TX10) (N := 14) hx hb hts iw_X10_joined_X10 hown hK hP 0 rfl rfl 13 (by decide) (hts _ fl_X10_joined_87) (fun _ h9 => h9) rfl dX10_joined_1 ?_
  refine lv_iconst (v := 0) hx hb dX10_joined_4 (by decide) ?_
  refine lv_iload_n hx hb dX10_joined_5 rfl (lv_at hl 1 rfl) ?_
  refine xs_i (f := t_places) hx hb hK hP hD hS 3 0 rfl rfl (k := 0) (by decide) (in_v (by decide)) dX10_joined_6 (fun H locs hP hD hS => ?_)
  have hP : va_P D vwCl (w_X10_joined K g_t g_t_radar g_t_draft g_t_text g_t_reader g_t_history g_t_echoes g_t_tracks g_t_dwelling g_t_chooser g_t_adviser t_radar_gapCount t_radar_targetCount t_radar_lookCount t_radar_time t_radar_gone t_radar_gaps (upd t_places 0 x1)) H := hP
  have hD : va_D A (w_X10_joined K g_t g_t_radar g_t_draft g_t_text g_t_reader g_t_history g_t_echoes g_t_tracks g_t_dwelling g_t_chooser g_t_adviser t_radar_gapCount t_radar_targetCount t_radar_lookCount t_radar_time t_radar_gone t_radar_gaps (upd t_places 0 x1)) := hD
  refine lv_aload_n hx hb dX10_joined_7 rfl (lv_at hl 0 rfl) ?_
  refine va_get (D := D) (ci := 9) (v := .ref (g_t 14)) (C := RX10) (T := TX10) (N := 14) hx hb hts iw_X10_joined_X10 hown hK hP 0 rfl rfl 13 (by decide) (hts _ fl_X10_joined_87) (fun _ h9 => h9) rfl dX10_joined_8 ?_
  refine lv_iconst (v := 1) hx hb dX10_joined_11 (by decide) ?_
  refine lv_iload_n hx hb dX10_joined_12 rfl (lv_at hl 2 rfl) ?_
  refine xs_i (f := (upd t_places 0 x1)) hx hb hK hP hD hS 3 0 rfl rfl (k := 1) (by decide) (in_v (by decide)) dX10_joined_13 (fun H locs hP hD hS => ?_)
  have hP : va_P D vwCl (w_X10_joined K g_t g_t_radar g_t_draft g_t_text g_t_reader g_t_history g_t_echoes g_t_tracks g_t_dwelling g_t_chooser g_t_adviser t_radar_gapCount t_radar_targetCount t_radar_lookCount t_radar_time t_radar_gone t_radar_gaps (upd (upd t_places 0 x1) 1 x2)) H := hP
  have hD : va_D A (w_X10_joined K g_t g_t_radar g_t_draft g_t_text g_t_reader g_t_history g_t_echoes g_t_tracks g_t_dwelling g_t_chooser g_t_adviser t_radar_gapCount t_radar_targetCount t_radar_lookCount t_radar_time t_radar_gone t_radar_gaps (upd (upd t_places 0 x1) 1 x2)) := hD
  refine lv_aload_n hx hb dX10_joined_14 rfl (lv_at hl 0 rfl) ?_
  refine va_get (D := D) (ci := 9) (v := .ref (g_t 14)) (C := RX10) (T := TX10) (N := 14) hx hb hts iw_X10_joined_X10 hown hK hP 0 rfl rfl 13 (by decide) (hts _ fl_X10_joined_87) (fun _ h9 => h9) rfl dX10_joined_15 ?_
  refine lv_iconst (v := 2) hx hb dX10_joined_18 (by decide) ?_
  refine lv_iload_n hx hb dX10_joined_19 rfl (lv_at hl 3 rfl) ?_
  refine xs_i (f := (upd (upd t_places 0 x1) 1 x2)) hx hb hK hP hD hS 3 0 rfl rfl (k := 2) (by decide) (in_v (by decide)) dX10_joined_20 (fun H locs hP hD hS => ?_)
  have hP : va_P D vwCl (w_X10_joined K g_t g_t_radar g_t_draft g_t_text g_t_reader g_t_history g_t_echoes g_t_tracks g_t_dwelling g_t_chooser g_t_adviser t_radar_gapCount t_radar_targetCount t_radar_lookCount t_radar_time t_radar_gone t_radar_gaps (upd (upd (upd t_places 0 x1) 1 x2) 2 x3)) H := hP
  have hD : va_D A (w_X10_joined K g_t g_t_radar g_t_draft g_t_text g_t_reader g_t_history g_t_echoes g_t_tracks g_t_dwelling g_t_chooser g_t_adviser t_radar_gapCount t_radar_targetCount t_radar_lookCount t_radar_time t_radar_gone t_radar_gaps (upd (upd (upd t_places 0 x1) 1 x2) 2 x3)) := hD
  refine lv_aload_n hx hb dX10_joined_21 rfl (lv_at hl 0 rfl) ?_
  refine va_get (D := D) (ci := 9) (v := .ref (g_t 14)) (C := RX10) (T := TX10) (N := 14) hx hb hts iw_X10_joined_X10 hown hK hP 0 rfl rfl 13 (by decide) (hts _ fl_X10_joined_87) (fun _ h9 => h9) rfl dX10_joined_22 ?_
  refine lv_iconst (v := 3) hx hb dX10_joined_25 (by decide) ?_
  refine lv_iload hx hb dX10_joined_26 (lv_at hl 4 rfl) ?_
  refine xs_i (f := (upd (upd (upd t_places 0 x1) 1 x2) 2 x3)) hx hb hK hP hD hS 3 0 rfl rfl (k := 3) (by decide) (in_v (by decide)) dX10_joined_28 (fun H locs hP hD hS => ?_)
  have hP : va_P D vwCl (w_X10_joined K g_t g_t_radar g_t_draft g_t_text g_t_reader g_t_history g_t_echoes g_t_tracks g_t_dwelling g_t_chooser g_t_adviser t_radar_gapCount t_radar_targetCount t_radar_lookCount t_radar_time t_radar_gone t_radar_gaps (upd (upd (upd (upd t_places 0 x1) 1 x2) 2 x3) 3 x4)) H := hP
  have hD : va_D A (w_X10_joined K g_t g_t_radar g_t_draft g_t_text g_t_reader g_t_history g_t_echoes g_t_tracks g_t_dwelling g_t_chooser g_t_adviser t_radar_gapCount t_radar_targetCount t_radar_lookCount t_radar_time t_radar_gone t_radar_gaps (upd (upd (upd (upd t_places 0 x1) 1 x2) 2 x3) 3 x4)) := hD
  refine lv_aload_n hx hb dX10_joined_29 rfl (lv_at hl 0 rfl) ?_
  refine va_get (D := D) (ci := 9) (v := .ref (g_t 14)) (C := RX10) (T := TX10) (N := 14) hx hb hts iw_X10_joined_X10 hown hK hP 0 rfl rfl 13 (by decide) (hts _ fl_X10_joined_87) (fun _ h9 => h9) rfl dX10_joined_30 ?_
  refine lv_iconst (v := 4) hx hb dX10_joined_33 (by decide) ?_
  refine lv_iload hx hb dX10_joined_34 (lv_at hl 5 rfl) ?_
  refine xs_i (f := (upd (upd (upd (upd t_places 0 x1) 1 x2) 2 x3) 3 x4)) hx hb hK hP hD hS 3 0 rfl rfl (k := 4) (by decide) (in_v (by decide)) dX10_joined_36 (fun H locs hP hD hS => ?_)
  have hP : va_P D vwCl (w_X10_joined K g_t g_t_radar g_t_draft g_t_text g_t_reader g_t_history g_t_echoes g_t_tracks g_t_dwelling g_t_chooser g_t_adviser t_radar_gapCount t_radar_targetCount t_radar_lookCount t_radar_time t_radar_gone t_radar_gaps (upd (upd (upd (upd (upd t_places 0 x1) 1 x2) 2 x3) 3 x4) 4 x5)) H := hP
  have hD : va_D A (w_X10_joined K g_t g_t_radar g_t_draft g_t_text g_t_reader g_t_history g_t_echoes g_t_tracks g_t_dwelling g_t_chooser g_t_adviser t_radar_gapCount t_radar_targetCount t_radar_lookCount t_radar_time t_radar_gone t_radar_gaps (upd (upd (upd (upd (upd t_places 0 x1) 1 x2) 2 x3) 3 x4) 4 x5)) := hD
  refine lv_iconst (v := 0) hx hb dX10_joined_37 (by decide) ?_
  refine lv_istore (lv' := [(6, .int (0 : Int32)), (0, .ref (g_t 0)), (1, .int x1), (2, .int x2), (3, .int x3), (4, .int x4), (5, .int x5)]) hx hb dX10_joined_38 hl (by decide) rfl (fun ls hl => ?_)
  refine lv_iconst (v := 1) hx hb dX10_joined_40 (by decide) ?_
  refine lv_istore (lv' := [(7, .int (1 : Int32)), (6, .int (0 : Int32)), (0, .ref (g_t 0)), (1, .int x1), (2, .int x2), (3, .int x3), (4, .int x4), (5, .int x5)]) hx hb dX10_joined_41 hl (by decide) rfl (fun ls hl => ?_)
  refine lv_iconst (v := 0) hx hb dX10_joined_43 (by decide) ?_
  refine lv_istore (lv' := [(8, .int (0 : Int32)), (7, .int (1 : Int32)), (6, .int (0 : Int32)), (0, .ref (g_t 0)), (1, .int x1), (2, .int x2), (3, .int x3), (4, .int x4), (5, .int x5)]) hx hb dX10_joined_44 hl (by decide) rfl (fun ls hl => ?_)
  exact w_X10_joined_46 C0 HR fu_ (upd (upd (upd (upd (upd t_places 0 x1) 1 x2) 2 x3) 3 x4) 4 x5) (0 : Int32) (1 : Int32) (0 : Int32) H locs ls hP hD hS (lv_sub hl [3, 2, 1, 0] rfl) hF

/-! StaggerRadar.Radar.hasTarget(I)Z -/
abbrev rmX5_hasTarget : Room := { frames := 0, cells := 0, slots := 0, locals := 0 }
theorem fl_X5_hasTarget_49 : Cond.fieldLink RX5 49 "StaggerRadar$Radar" "targetCount" "I" ∈ wsX5_hasTarget := by decide +kernel
theorem iw_X5_hasTarget_X5 : ∀ w ∈ u_ws RX5 TX5 13, w ∈ wsX5_hasTarget := by decide +kernel
abbrev w_X5_hasTarget (K : Nat → ClassId) (g_t : Nat → Nat) (t_gapCount : Int32) (t_targetCount : Int32) (t_lookCount : Int32) (t_time : Int32) (t_gone : Int32) : va_W := [((g_t 0), .inr (5, [.ref (g_t 1), .ref (g_t 2), .ref (g_t 3), .ref (g_t 4), .ref (g_t 5), .ref (g_t 6), .ref (g_t 7), .ref (g_t 8), .int t_gapCount, .int t_targetCount, .int t_lookCount, .int t_time, .int t_gone]))]
def F_X5_hasTarget (t_targetCount : Int32) (x1 : Int32) : Option (Int32) :=
  if x1 < (0 : Int32) then (some (0 : Int32)) else (if t_targetCount ≤ x1 then (some (0 : Int32)) else (some (1 : Int32)))
set_option maxHeartbeats 4000000 in
set_option maxRecDepth 100000 in
theorem c_X5_hasTarget (l : Launch) (D : va_G) (K : Nat → ClassId) (g_t : Nat → Nat) (t_gapCount : Int32) (t_targetCount : Int32) (t_lookCount : Int32) (t_time : Int32) (t_gone : Int32) (x1 : Int32) (res : Int32) (hF : F_X5_hasTarget t_targetCount x1 = some res) :
    Mi_ l yX5_hasTarget wsX5_hasTarget rmX5_hasTarget D K [.ref (g_t 0), .int x1] (w_X5_hasTarget K g_t t_gapCount t_targetCount t_lookCount t_time t_gone) (w_X5_hasTarget K g_t t_gapCount t_targetCount t_lookCount t_time t_gone) (res) := by
  refine en_z (cc := cX5_hasTarget) (maxL := 2) (own := RX5) (by decide) rfl rfl (Nat.le_of_ble_eq_true rfl) ?_
  intro p e s m args below meth c A Q H locs ls C0 hP hD hS hl HR
  obtain ⟨⟨hx, hb, hml, hown, hts⟩, hK, -⟩ := id C0
  have hl : lv_has ls 2 [(0, .ref (g_t 0)), (1, .int x1)] := hl
  unfold F_X5_hasTarget at hF
  refine lv_iload_n hx hb dX5_hasTarget_0 rfl (lv_at hl 1 rfl) ?_
  refine lv_if_lt (tgt := 16) hx hb dX5_hasTarget_1 (by decide) (fun c_1 => ?_) (fun c_1 => ?_)
  · have hF := it_pos c_1 hF
    refine lv_iconst (v := 0) hx hb dX5_hasTarget_16 (by decide) ?_
    obtain rfl := Option.some.inj hF
    exact HR 17 H locs ls dX5_hasTarget_17 narrow_b0 hP hD hS
  · have hF := it_neg c_1 hF
    refine lv_iload_n hx hb dX5_hasTarget_4 rfl (lv_at hl 1 rfl) ?_
    refine lv_aload_n hx hb dX5_hasTarget_5 rfl (lv_at hl 0 rfl) ?_
    refine va_get (D := D) (ci := 5) (v := .int t_targetCount) (C := RX5) (T := TX5) (N := 13) hx hb hts iw_X5_hasTarget_X5 hown hK hP 0 rfl rfl 9 (by decide) (hts _ fl_X5_hasTarget_49) (fun _ h9 => h9) rfl dX5_hasTarget_6 ?_
    refine lv_icmp_ge (tgt := 16) hx hb dX5_hasTarget_9 (by decide) (fun c_2 => ?_) (fun c_2 => ?_)
    · have hF := it_pos c_2 hF
      refine lv_iconst (v := 0) hx hb dX5_hasTarget_16 (by decide) ?_
      obtain rfl := Option.some.inj hF
      exact HR 17 H locs ls dX5_hasTarget_17 narrow_b0 hP hD hS
    · have hF := it_neg c_2 hF
      refine lv_iconst (v := 1) hx hb dX5_hasTarget_12 (by decide) ?_
      refine lv_goto (tgt := 17) hx hb dX5_hasTarget_13 (by decide) ?_
      obtain rfl := Option.some.inj hF
      exact HR 17 H locs ls dX5_hasTarget_17 narrow_b1 hP hD hS

/-! StaggerRadar.Radar.dropTarget(I)V -/
abbrev rmX5_dropTarget : Room := { frames := 1, cells := 0, slots := 0, locals := 21 }
theorem fl_X5_dropTarget_18 : Cond.fieldLink RX5 18 "StaggerRadar$Radar" "spots" "[I" ∈ wsX5_dropTarget := by decide +kernel
theorem fl_X5_dropTarget_21 : Cond.fieldLink RX5 21 "StaggerRadar$Radar" "speeds" "[I" ∈ wsX5_dropTarget := by decide +kernel
theorem fl_X5_dropTarget_24 : Cond.fieldLink RX5 24 "StaggerRadar$Radar" "strengths" "[I" ∈ wsX5_dropTarget := by decide +kernel
theorem fl_X5_dropTarget_49 : Cond.fieldLink RX5 49 "StaggerRadar$Radar" "targetCount" "I" ∈ wsX5_dropTarget := by decide +kernel
theorem iw_X5_dropTarget_X5 : ∀ w ∈ u_ws RX5 TX5 13, w ∈ wsX5_dropTarget := by decide +kernel
abbrev w_X5_dropTarget (K : Nat → ClassId) (g_t : Nat → Nat) (t_gapCount : Int32) (t_targetCount : Int32) (t_lookCount : Int32) (t_time : Int32) (t_gone : Int32) (t_spots : Nat → Int32) (t_speeds : Nat → Int32) (t_strengths : Nat → Int32) : va_W := [((g_t 0), .inr (5, [.ref (g_t 1), .ref (g_t 2), .ref (g_t 3), .ref (g_t 4), .ref (g_t 5), .ref (g_t 6), .ref (g_t 7), .ref (g_t 8), .int t_gapCount, .int t_targetCount, .int t_lookCount, .int t_time, .int t_gone])), ((g_t 3), .inl (K 0, 8, .inl t_spots)), ((g_t 4), .inl (K 0, 8, .inl t_speeds)), ((g_t 5), .inl (K 0, 8, .inl t_strengths))]
def L_X5_dropTarget_21  : Nat → Int32 → (Nat → Int32) → (Nat → Int32) → (Nat → Int32) → Int32 → Option (Int32 × (Nat → Int32) × (Nat → Int32) × (Nat → Int32))
  | 0, _, _, _, _, _ => none
  | n_ + 1, t_targetCount, t_spots, t_speeds, t_strengths, x2 =>
    if t_targetCount ≤ x2 then (some (t_targetCount, t_spots, t_speeds, t_strengths)) else (gd_ (in_b (x2 + (1 : Int32)) 8) (gd_ (in_b x2 8) (gd_ (in_b (x2 + (1 : Int32)) 8) (gd_ (in_b x2 8) (gd_ (in_b (x2 + (1 : Int32)) 8) (gd_ (in_b x2 8) (L_X5_dropTarget_21 n_ t_targetCount (upd t_spots (x2).toNatClampNeg (t_spots (x2 + (1 : Int32)).toNatClampNeg)) (upd t_speeds (x2).toNatClampNeg (t_speeds (x2 + (1 : Int32)).toNatClampNeg)) (upd t_strengths (x2).toNatClampNeg (t_strengths (x2 + (1 : Int32)).toNatClampNeg)) (x2 + (1 : Int32)))))))))
set_option maxHeartbeats 4000000 in
set_option maxRecDepth 100000 in
theorem w_X5_dropTarget_21 {p : Program} {l : Launch} {e : Env} {s : State} {m : MethodId} {args : Array Value} {below : List Frame} {meth : Method} {c : Code} {D : va_G} {K : Nat → ClassId} {A : Nat → Prop} {Q : State → Prop} (C0 : cx_ p s m args c cX5_dropTarget 3 RX5 wsX5_dropTarget D K A) {g_t : Nat → Nat} {t_gapCount : Int32} {t_lookCount : Int32} {t_time : Int32} {t_gone : Int32} {res : Int32 × (Nat → Int32) × (Nat → Int32) × (Nat → Int32)} (HR : ∀ (pc : Nat) (H : Heap) (locs : List Loc) (ls : Array Slot), decode cX5_dropTarget pc = .ok (.return_, 1) → va_P D vwCl (w_X5_dropTarget K g_t t_gapCount res.1 t_lookCount t_time t_gone res.2.1 res.2.2.1 res.2.2.2) H → va_D A (w_X5_dropTarget K g_t t_gapCount res.1 t_lookCount t_time t_gone res.2.1 res.2.2.1 res.2.2.2) → va_S A s.heap H locs → W p l e rmX5_dropTarget s m args below meth c H locs 0 0 Q (F0 m pc ls []))  :
    ∀ (n_ : Nat) (t_targetCount : Int32) (t_spots : Nat → Int32) (t_speeds : Nat → Int32) (t_strengths : Nat → Int32) (x2 : Int32) (H : Heap) (locs : List Loc) (ls : Array Slot), va_P D vwCl (w_X5_dropTarget K g_t t_gapCount t_targetCount t_lookCount t_time t_gone t_spots t_speeds t_strengths) H → va_D A (w_X5_dropTarget K g_t t_gapCount t_targetCount t_lookCount t_time t_gone t_spots t_speeds t_strengths) → va_S A s.heap H locs → lv_has ls 3 [(0, .ref (g_t 0)), (2, .int x2)] → L_X5_dropTarget_21 n_ t_targetCount t_spots t_speeds t_strengths x2 = some res → W p l e rmX5_dropTarget s m args below meth c H locs 0 0 Q (F0 m 21 ls []) := by
  obtain ⟨⟨hx, hb, hml, hown, hts⟩, hK, -⟩ := id C0
  intro n_
  induction n_ with
  | zero =>
    intro t_targetCount t_spots t_speeds t_strengths x2 H locs ls hP hD hS hl hF
    exact no_s (show (none : Option (Int32 × (Nat → Int32) × (Nat → Int32) × (Nat → Int32))) = some res from hF)
  | succ n_ ih =>
    intro t_targetCount t_spots t_speeds t_strengths x2 H locs ls hP hD hS hl hF
    rw [L_X5_dropTarget_21] at hF
    refine lv_iload_n hx hb dX5_dropTarget_21 rfl (lv_at hl 1 rfl) ?_
    refine lv_aload_n hx hb dX5_dropTarget_22 rfl (lv_at hl 0 rfl) ?_
    refine va_get (D := D) (ci := 5) (v := .int t_targetCount) (C := RX5) (T := TX5) (N := 13) hx hb hts iw_X5_dropTarget_X5 hown hK hP 0 rfl rfl 9 (by decide) (hts _ fl_X5_dropTarget_49) (fun _ h9 => h9) rfl dX5_dropTarget_23 ?_
    refine lv_icmp_ge (tgt := 77) hx hb dX5_dropTarget_26 (by decide) (fun c_1 => ?_) (fun c_1 => ?_)
    · have hF := it_pos c_1 hF
      obtain rfl := Option.some.inj hF
      exact HR 77 H locs ls dX5_dropTarget_77 hP hD hS
    · have hF := it_neg c_1 hF
      refine lv_aload_n hx hb dX5_dropTarget_29 rfl (lv_at hl 0 rfl) ?_
      refine va_get (D := D) (ci := 5) (v := .ref (g_t 3)) (C := RX5) (T := TX5) (N := 13) hx hb hts iw_X5_dropTarget_X5 hown hK hP 0 rfl rfl 2 (by decide) (hts _ fl_X5_dropTarget_18) (fun _ h9 => h9) rfl dX5_dropTarget_30 ?_
      refine lv_iload_n hx hb dX5_dropTarget_33 rfl (lv_at hl 1 rfl) ?_
      refine lv_aload_n hx hb dX5_dropTarget_34 rfl (lv_at hl 0 rfl) ?_
      refine va_get (D := D) (ci := 5) (v := .ref (g_t 3)) (C := RX5) (T := TX5) (N := 13) hx hb hts iw_X5_dropTarget_X5 hown hK hP 0 rfl rfl 2 (by decide) (hts _ fl_X5_dropTarget_18) (fun _ h9 => h9) rfl dX5_dropTarget_35 ?_
      refine lv_iload_n hx hb dX5_dropTarget_38 rfl (lv_at hl 1 rfl) ?_
      refine lv_iconst (v := 1) hx hb dX5_dropTarget_39 (by decide) ?_
      refine lv_iadd hx hb dX5_dropTarget_40 ?_
      obtain ⟨hg_2, hF⟩ := gd_some hF
      refine xl_i (f := t_spots) hx hb hK hP 1 0 rfl rfl rfl (in_v hg_2) dX5_dropTarget_41 ?_
      obtain ⟨hg_3, hF⟩ := gd_some hF
      refine xs_i (f := t_spots) hx hb hK hP hD hS 1 0 rfl rfl rfl (in_v hg_3) dX5_dropTarget_42 (fun H locs hP hD hS => ?_)
      have hP : va_P D vwCl (w_X5_dropTarget K g_t t_gapCount t_targetCount t_lookCount t_time t_gone (upd t_spots (x2).toNatClampNeg (t_spots (x2 + (1 : Int32)).toNatClampNeg)) t_speeds t_strengths) H := hP
      have hD : va_D A (w_X5_dropTarget K g_t t_gapCount t_targetCount t_lookCount t_time t_gone (upd t_spots (x2).toNatClampNeg (t_spots (x2 + (1 : Int32)).toNatClampNeg)) t_speeds t_strengths) := hD
      refine lv_aload_n hx hb dX5_dropTarget_43 rfl (lv_at hl 0 rfl) ?_
      refine va_get (D := D) (ci := 5) (v := .ref (g_t 4)) (C := RX5) (T := TX5) (N := 13) hx hb hts iw_X5_dropTarget_X5 hown hK hP 0 rfl rfl 3 (by decide) (hts _ fl_X5_dropTarget_21) (fun _ h9 => h9) rfl dX5_dropTarget_44 ?_
      refine lv_iload_n hx hb dX5_dropTarget_47 rfl (lv_at hl 1 rfl) ?_
      refine lv_aload_n hx hb dX5_dropTarget_48 rfl (lv_at hl 0 rfl) ?_
      refine va_get (D := D) (ci := 5) (v := .ref (g_t 4)) (C := RX5) (T := TX5) (N := 13) hx hb hts iw_X5_dropTarget_X5 hown hK hP 0 rfl rfl 3 (by decide) (hts _ fl_X5_dropTarget_21) (fun _ h9 => h9) rfl dX5_dropTarget_49 ?_
      refine lv_iload_n hx hb dX5_dropTarget_52 rfl (lv_at hl 1 rfl) ?_
      refine lv_iconst (v := 1) hx hb dX5_dropTarget_53 (by decide) ?_
      refine lv_iadd hx hb dX5_dropTarget_54 ?_
      obtain ⟨hg_4, hF⟩ := gd_some hF
      refine xl_i (f := t_speeds) hx hb hK hP 2 0 rfl rfl rfl (in_v hg_4) dX5_dropTarget_55 ?_
      obtain ⟨hg_5, hF⟩ := gd_some hF
      refine xs_i (f := t_speeds) hx hb hK hP hD hS 2 0 rfl rfl rfl (in_v hg_5) dX5_dropTarget_56 (fun H locs hP hD hS => ?_)
      have hP : va_P D vwCl (w_X5_dropTarget K g_t t_gapCount t_targetCount t_lookCount t_time t_gone (upd t_spots (x2).toNatClampNeg (t_spots (x2 + (1 : Int32)).toNatClampNeg)) (upd t_speeds (x2).toNatClampNeg (t_speeds (x2 + (1 : Int32)).toNatClampNeg)) t_strengths) H := hP
      have hD : va_D A (w_X5_dropTarget K g_t t_gapCount t_targetCount t_lookCount t_time t_gone (upd t_spots (x2).toNatClampNeg (t_spots (x2 + (1 : Int32)).toNatClampNeg)) (upd t_speeds (x2).toNatClampNeg (t_speeds (x2 + (1 : Int32)).toNatClampNeg)) t_strengths) := hD
      refine lv_aload_n hx hb dX5_dropTarget_57 rfl (lv_at hl 0 rfl) ?_
      refine va_get (D := D) (ci := 5) (v := .ref (g_t 5)) (C := RX5) (T := TX5) (N := 13) hx hb hts iw_X5_dropTarget_X5 hown hK hP 0 rfl rfl 4 (by decide) (hts _ fl_X5_dropTarget_24) (fun _ h9 => h9) rfl dX5_dropTarget_58 ?_
      refine lv_iload_n hx hb dX5_dropTarget_61 rfl (lv_at hl 1 rfl) ?_
      refine lv_aload_n hx hb dX5_dropTarget_62 rfl (lv_at hl 0 rfl) ?_
      refine va_get (D := D) (ci := 5) (v := .ref (g_t 5)) (C := RX5) (T := TX5) (N := 13) hx hb hts iw_X5_dropTarget_X5 hown hK hP 0 rfl rfl 4 (by decide) (hts _ fl_X5_dropTarget_24) (fun _ h9 => h9) rfl dX5_dropTarget_63 ?_
      refine lv_iload_n hx hb dX5_dropTarget_66 rfl (lv_at hl 1 rfl) ?_
      refine lv_iconst (v := 1) hx hb dX5_dropTarget_67 (by decide) ?_
      refine lv_iadd hx hb dX5_dropTarget_68 ?_
      obtain ⟨hg_6, hF⟩ := gd_some hF
      refine xl_i (f := t_strengths) hx hb hK hP 3 0 rfl rfl rfl (in_v hg_6) dX5_dropTarget_69 ?_
      obtain ⟨hg_7, hF⟩ := gd_some hF
      refine xs_i (f := t_strengths) hx hb hK hP hD hS 3 0 rfl rfl rfl (in_v hg_7) dX5_dropTarget_70 (fun H locs hP hD hS => ?_)
      have hP : va_P D vwCl (w_X5_dropTarget K g_t t_gapCount t_targetCount t_lookCount t_time t_gone (upd t_spots (x2).toNatClampNeg (t_spots (x2 + (1 : Int32)).toNatClampNeg)) (upd t_speeds (x2).toNatClampNeg (t_speeds (x2 + (1 : Int32)).toNatClampNeg)) (upd t_strengths (x2).toNatClampNeg (t_strengths (x2 + (1 : Int32)).toNatClampNeg))) H := hP
      have hD : va_D A (w_X5_dropTarget K g_t t_gapCount t_targetCount t_lookCount t_time t_gone (upd t_spots (x2).toNatClampNeg (t_spots (x2 + (1 : Int32)).toNatClampNeg)) (upd t_speeds (x2).toNatClampNeg (t_speeds (x2 + (1 : Int32)).toNatClampNeg)) (upd t_strengths (x2).toNatClampNeg (t_strengths (x2 + (1 : Int32)).toNatClampNeg))) := hD
      refine lv_iinc (v := (x2 + (1 : Int32))) (lv' := [(2, .int (x2 + (1 : Int32))), (0, .ref (g_t 0))]) hx hb dX5_dropTarget_71 hl (k := 1) rfl (congrArg (fun z => x2 + z) (by decide)) (by decide) rfl (fun ls hl => ?_)
      refine lv_goto (tgt := 21) hx hb dX5_dropTarget_74 (by decide) ?_
      exact ih t_targetCount (upd t_spots (x2).toNatClampNeg (t_spots (x2 + (1 : Int32)).toNatClampNeg)) (upd t_speeds (x2).toNatClampNeg (t_speeds (x2 + (1 : Int32)).toNatClampNeg)) (upd t_strengths (x2).toNatClampNeg (t_strengths (x2 + (1 : Int32)).toNatClampNeg)) (x2 + (1 : Int32)) H locs ls hP hD hS (lv_sub hl [1, 0] rfl) hF
def F_X5_dropTarget (t_targetCount : Int32) (t_spots : Nat → Int32) (t_speeds : Nat → Int32) (t_strengths : Nat → Int32) (x1 : Int32) : Option (Int32 × (Nat → Int32) × (Nat → Int32) × (Nat → Int32)) :=
  (F_X5_hasTarget t_targetCount x1).bind fun r_1 => (if r_1 = (0 : Int32) then (some (t_targetCount, t_spots, t_speeds, t_strengths)) else (L_X5_dropTarget_21 fu_ (t_targetCount - (1 : Int32)) t_spots t_speeds t_strengths x1))
set_option maxHeartbeats 4000000 in
set_option maxRecDepth 100000 in
theorem c_X5_dropTarget (l : Launch) (D : va_G) (K : Nat → ClassId) (g_t : Nat → Nat) (t_gapCount : Int32) (t_targetCount : Int32) (t_lookCount : Int32) (t_time : Int32) (t_gone : Int32) (t_spots : Nat → Int32) (t_speeds : Nat → Int32) (t_strengths : Nat → Int32) (x1 : Int32) (res : Int32 × (Nat → Int32) × (Nat → Int32) × (Nat → Int32)) (hF : F_X5_dropTarget t_targetCount t_spots t_speeds t_strengths x1 = some res) :
    Mv_ l yX5_dropTarget wsX5_dropTarget rmX5_dropTarget D K [.ref (g_t 0), .int x1] (w_X5_dropTarget K g_t t_gapCount t_targetCount t_lookCount t_time t_gone t_spots t_speeds t_strengths) (w_X5_dropTarget K g_t t_gapCount res.1 t_lookCount t_time t_gone res.2.1 res.2.2.1 res.2.2.2) := by
  refine en_v (cc := cX5_dropTarget) (maxL := 3) (own := RX5) (by decide) rfl rfl (Nat.le_of_ble_eq_true rfl) ?_
  intro p e s m args below meth c A Q H locs ls C0 hP hD hS hl HR
  obtain ⟨⟨hx, hb, hml, hown, hts⟩, hK, -⟩ := id C0
  have hl : lv_has ls 3 [(0, .ref (g_t 0)), (1, .int x1)] := hl
  unfold F_X5_dropTarget at hF
  refine lv_aload_n hx hb dX5_dropTarget_0 rfl (lv_at hl 0 rfl) ?_
  refine lv_iload_n hx hb dX5_dropTarget_1 rfl (lv_at hl 1 rfl) ?_
  obtain ⟨r_1, hc_2, hF⟩ := bn_some hF
  refine xc_i (wn := (w_X5_dropTarget K g_t t_gapCount t_targetCount t_lookCount t_time t_gone t_spots t_speeds t_strengths)) hP hD hS C0.2.2.1 [0] [1, 2, 3] [3, 0, 1, 2] rfl rfl (by decide) (by decide) rfl (by decide) (va_runV (As := [.int x1]) (rest := []) C0.1 (c_X5_hasTarget l D K g_t t_gapCount t_targetCount t_lookCount t_time t_gone x1 r_1 hc_2 H.size) (cwV 1 hts gX5_dropTarget_X5_hasTarget rfl rfl rfl (by decide +kernel) ⟨Nat.le_of_ble_eq_true rfl, Nat.le_of_ble_eq_true rfl⟩) (xp_V C0.2 hP hD hS [0] rfl (by decide) 5 0 rfl rfl rfl) rfl rfl hl.1 rfl (lv_room (Nat.le_of_ble_eq_true rfl)) dX5_dropTarget_2 ⟨Nat.le_of_ble_eq_true rfl, Nat.le_of_ble_eq_true rfl⟩) (fun H locs hP hD hS => ?_)
  refine lv_if_ne (tgt := 9) hx hb dX5_dropTarget_5 (by decide) (fun c_3 => ?_) (fun c_3 => ?_)
  · have hF := it_neg c_3 hF
    refine lv_aload_n hx hb dX5_dropTarget_9 rfl (lv_at hl 0 rfl) ?_
    refine lv_dup hx hb dX5_dropTarget_10 rfl ?_
    refine va_get (D := D) (ci := 5) (v := .int t_targetCount) (C := RX5) (T := TX5) (N := 13) hx hb hts iw_X5_dropTarget_X5 hown hK hP 0 rfl rfl 9 (by decide) (hts _ fl_X5_dropTarget_49) (fun _ h9 => h9) rfl dX5_dropTarget_11 ?_
    refine lv_iconst (v := 1) hx hb dX5_dropTarget_14 (by decide) ?_
    refine lv_isub hx hb dX5_dropTarget_15 ?_
    refine va_put (D := D) (ci := 5) (v := .int (t_targetCount - (1 : Int32))) (ty := .int) (C := RX5) (T := TX5) (N := 13) hx hb hts iw_X5_dropTarget_X5 tyX5 tyX5_ok nmX5 hown hK hP hD hS 0 rfl rfl 9 (by decide) (hts _ fl_X5_dropTarget_49) (fun _ h9 => h9) rfl (by decide +kernel) rfl rfl (Nat.le_of_ble_eq_true rfl) dX5_dropTarget_16 (fun H locs hP hD hS => ?_)
    have hP : va_P D vwCl (w_X5_dropTarget K g_t t_gapCount (t_targetCount - (1 : Int32)) t_lookCount t_time t_gone t_spots t_speeds t_strengths) H := hP
    have hD : va_D A (w_X5_dropTarget K g_t t_gapCount (t_targetCount - (1 : Int32)) t_lookCount t_time t_gone t_spots t_speeds t_strengths) := hD
    refine lv_iload_n hx hb dX5_dropTarget_19 rfl (lv_at hl 1 rfl) ?_
    refine lv_istore_n (lv' := [(2, .int x1), (0, .ref (g_t 0)), (1, .int x1)]) hx hb dX5_dropTarget_20 rfl hl (by decide) rfl (fun ls hl => ?_)
    exact w_X5_dropTarget_21 C0 HR fu_ (t_targetCount - (1 : Int32)) t_spots t_speeds t_strengths x1 H locs ls hP hD hS (lv_sub hl [1, 0] rfl) hF
  · have hF := it_pos c_3 hF
    obtain rfl := Option.some.inj hF
    exact HR 8 H locs ls dX5_dropTarget_8 hP hD hS

/-! StaggerRadar.leave(I)I -/
abbrev rmX10_leave : Room := { frames := 3, cells := 0, slots := 0, locals := 102 }
theorem fl_X10_leave_10 : Cond.fieldLink RX10 10 "StaggerRadar" "radar" "LStaggerRadar$Radar;" ∈ wsX10_leave := by decide +kernel
theorem fl_X10_leave_36 : Cond.fieldLink RX10 36 "StaggerRadar" "history" "LStaggerRadar$History;" ∈ wsX10_leave := by decide +kernel
theorem fl_X10_leave_158 : Cond.fieldLink RX10 158 "StaggerRadar$Radar" "targetCount" "I" ∈ wsX10_leave := by decide +kernel
theorem iw_X10_leave_X10 : ∀ w ∈ u_ws RX10 TX10 14, w ∈ wsX10_leave := by decide +kernel
theorem iw_X10_leave_X4 : ∀ w ∈ u_ws RX4 TX4 3, w ∈ wsX10_leave := by decide +kernel
theorem iw_X10_leave_X5 : ∀ w ∈ u_ws RX5 TX5 13, w ∈ wsX10_leave := by decide +kernel
abbrev w_X10_leave (K : Nat → ClassId) (g_t : Nat → Nat) (g_t_radar : Nat → Nat) (g_t_draft : Nat → Nat) (g_t_text : Nat → Nat) (g_t_reader : Nat → Nat) (g_t_history : Nat → Nat) (g_t_echoes : Nat → Nat) (g_t_tracks : Nat → Nat) (g_t_dwelling : Nat → Nat) (g_t_chooser : Nat → Nat) (g_t_adviser : Nat → Nat) (g_t_history_ring : Nat → Nat → Nat) (t_radar_gapCount : Int32) (t_radar_targetCount : Int32) (t_radar_lookCount : Int32) (t_radar_time : Int32) (t_radar_gone : Int32) (t_radar_gaps : Nat → Int32) (t_radar_settings : Nat → Int32) (t_radar_spots : Nat → Int32) (t_radar_speeds : Nat → Int32) (t_radar_strengths : Nat → Int32) (t_radar_lookTimes : Nat → Int32) (t_radar_lookSizes : Nat → Int32) (t_radar_lookNumbers : Nat → Int32) (t_history_oldest : Int32) (t_history_size : Int32) (t_history_ring_e : Nat → RT_X5) : va_W := [((g_t 0), .inr (9, [.ref (g_t_radar 0), .ref (g_t_draft 0), .ref (g_t_text 0), .ref (g_t_reader 0), .ref (g_t_history 0), .ref (g_t 6), .ref (g_t 7), .ref (g_t 8), .ref (g_t_echoes 0), .ref (g_t_tracks 0), .ref (g_t_dwelling 0), .ref (g_t_chooser 0), .ref (g_t_adviser 0), .ref (g_t 14)])), ((g_t_radar 0), .inr (5, [.ref (g_t_radar 1), .ref (g_t_radar 2), .ref (g_t_radar 3), .ref (g_t_radar 4), .ref (g_t_radar 5), .ref (g_t_radar 6), .ref (g_t_radar 7), .ref (g_t_radar 8), .int t_radar_gapCount, .int t_radar_targetCount, .int t_radar_lookCount, .int t_radar_time, .int t_radar_gone])), ((g_t_radar 1), .inl (K 0, 5, .inl t_radar_gaps)), ((g_t_radar 2), .inl (K 0, 7, .inl t_radar_settings)), ((g_t_radar 3), .inl (K 0, 8, .inl t_radar_spots)), ((g_t_radar 4), .inl (K 0, 8, .inl t_radar_speeds)), ((g_t_radar 5), .inl (K 0, 8, .inl t_radar_strengths)), ((g_t_radar 6), .inl (K 0, 4, .inl t_radar_lookTimes)), ((g_t_radar 7), .inl (K 0, 4, .inl t_radar_lookSizes)), ((g_t_radar 8), .inl (K 0, 48, .inl t_radar_lookNumbers)), ((g_t_history 0), .inr (4, [.ref (g_t_history 1), .int t_history_oldest, .int t_history_size])), ((g_t_history 1), .inl (K 4, 8, .inr (.inr (.inr (.inr (fun i_ => some (g_t_history_ring i_ 0)))))))] ++ (rc_X5 K (g_t_history_ring 0) (t_history_ring_e 0) ++ (rc_X5 K (g_t_history_ring 1) (t_history_ring_e 1) ++ (rc_X5 K (g_t_history_ring 2) (t_history_ring_e 2) ++ (rc_X5 K (g_t_history_ring 3) (t_history_ring_e 3) ++ (rc_X5 K (g_t_history_ring 4) (t_history_ring_e 4) ++ (rc_X5 K (g_t_history_ring 5) (t_history_ring_e 5) ++ (rc_X5 K (g_t_history_ring 6) (t_history_ring_e 6) ++ (rc_X5 K (g_t_history_ring 7) (t_history_ring_e 7)))))))))
def F_X10_leave (t_radar_gapCount : Int32) (t_radar_targetCount : Int32) (t_radar_lookCount : Int32) (t_radar_time : Int32) (t_radar_gone : Int32) (t_radar_gaps : Nat → Int32) (t_radar_settings : Nat → Int32) (t_radar_spots : Nat → Int32) (t_radar_speeds : Nat → Int32) (t_radar_strengths : Nat → Int32) (t_radar_lookTimes : Nat → Int32) (t_radar_lookSizes : Nat → Int32) (t_radar_lookNumbers : Nat → Int32) (t_history_oldest : Int32) (t_history_size : Int32) (t_history_ring_e : Nat → RT_X5) (x1 : Int32) : Option (Int32 × Int32 × (Nat → Int32) × (Nat → Int32) × (Nat → Int32) × Int32 × Int32 × (Nat → RT_X5)) :=
  (F_X5_hasTarget t_radar_targetCount x1).bind fun r_1 => (if r_1 = (0 : Int32) then (some ((-1 : Int32), t_radar_targetCount, t_radar_spots, t_radar_speeds, t_radar_strengths, t_history_oldest, t_history_size, t_history_ring_e)) else ((F_X4_save t_history_oldest t_history_size t_history_ring_e t_radar_gapCount t_radar_targetCount t_radar_lookCount t_radar_time t_radar_gone t_radar_gaps t_radar_settings t_radar_spots t_radar_speeds t_radar_strengths t_radar_lookTimes t_radar_lookSizes t_radar_lookNumbers).bind fun r_4 => ((F_X5_dropTarget t_radar_targetCount t_radar_spots t_radar_speeds t_radar_strengths x1).bind fun r_6 => (some (r_6.1, r_6.1, r_6.2.1, r_6.2.2.1, r_6.2.2.2, r_4.1, r_4.2.1, r_4.2.2)))))
set_option maxHeartbeats 4000000 in
set_option maxRecDepth 100000 in
theorem c_X10_leave (l : Launch) (D : va_G) (K : Nat → ClassId) (g_t : Nat → Nat) (g_t_radar : Nat → Nat) (g_t_draft : Nat → Nat) (g_t_text : Nat → Nat) (g_t_reader : Nat → Nat) (g_t_history : Nat → Nat) (g_t_echoes : Nat → Nat) (g_t_tracks : Nat → Nat) (g_t_dwelling : Nat → Nat) (g_t_chooser : Nat → Nat) (g_t_adviser : Nat → Nat) (g_t_history_ring : Nat → Nat → Nat) (t_radar_gapCount : Int32) (t_radar_targetCount : Int32) (t_radar_lookCount : Int32) (t_radar_time : Int32) (t_radar_gone : Int32) (t_radar_gaps : Nat → Int32) (t_radar_settings : Nat → Int32) (t_radar_spots : Nat → Int32) (t_radar_speeds : Nat → Int32) (t_radar_strengths : Nat → Int32) (t_radar_lookTimes : Nat → Int32) (t_radar_lookSizes : Nat → Int32) (t_radar_lookNumbers : Nat → Int32) (t_history_oldest : Int32) (t_history_size : Int32) (t_history_ring_e : Nat → RT_X5) (x1 : Int32) (res : Int32 × Int32 × (Nat → Int32) × (Nat → Int32) × (Nat → Int32) × Int32 × Int32 × (Nat → RT_X5)) (hF : F_X10_leave t_radar_gapCount t_radar_targetCount t_radar_lookCount t_radar_time t_radar_gone t_radar_gaps t_radar_settings t_radar_spots t_radar_speeds t_radar_strengths t_radar_lookTimes t_radar_lookSizes t_radar_lookNumbers t_history_oldest t_history_size t_history_ring_e x1 = some res) :
    Mi_ l yX10_leave wsX10_leave rmX10_leave D K [.ref (g_t 0), .int x1] (w_X10_leave K g_t g_t_radar g_t_draft g_t_text g_t_reader g_t_history g_t_echoes g_t_tracks g_t_dwelling g_t_chooser g_t_adviser g_t_history_ring t_radar_gapCount t_radar_targetCount t_radar_lookCount t_radar_time t_radar_gone t_radar_gaps t_radar_settings t_radar_spots t_radar_speeds t_radar_strengths t_radar_lookTimes t_radar_lookSizes t_radar_lookNumbers t_history_oldest t_history_size t_history_ring_e) (w_X10_leave K g_t g_t_radar g_t_draft g_t_text g_t_reader g_t_history g_t_echoes g_t_tracks g_t_dwelling g_t_chooser g_t_adviser g_t_history_ring t_radar_gapCount res.2.1 t_radar_lookCount t_radar_time t_radar_gone t_radar_gaps t_radar_settings res.2.2.1 res.2.2.2.1 res.2.2.2.2.1 t_radar_lookTimes t_radar_lookSizes t_radar_lookNumbers res.2.2.2.2.2.1 res.2.2.2.2.2.2.1 res.2.2.2.2.2.2.2) (res.1) := by
  refine en_i (cc := cX10_leave) (maxL := 2) (own := RX10) (by decide) rfl rfl (Nat.le_of_ble_eq_true rfl) ?_
  intro p e s m args below meth c A Q H locs ls C0 hP hD hS hl HR
  obtain ⟨⟨hx, hb, hml, hown, hts⟩, hK, -⟩ := id C0
  have hl : lv_has ls 2 [(0, .ref (g_t 0)), (1, .int x1)] := hl
  unfold F_X10_leave at hF
  refine lv_aload_n hx hb dX10_leave_0 rfl (lv_at hl 0 rfl) ?_
  refine va_get (D := D) (ci := 9) (v := .ref (g_t_radar 0)) (C := RX10) (T := TX10) (N := 14) hx hb hts iw_X10_leave_X10 hown hK hP 0 rfl rfl 0 (by decide) (hts _ fl_X10_leave_10) (fun _ h9 => h9) rfl dX10_leave_1 ?_
  refine lv_iload_n hx hb dX10_leave_4 rfl (lv_at hl 1 rfl) ?_
  obtain ⟨r_1, hc_2, hF⟩ := bn_some hF
  refine xc_i (wn := (w_X10_leave K g_t g_t_radar g_t_draft g_t_text g_t_reader g_t_history g_t_echoes g_t_tracks g_t_dwelling g_t_chooser g_t_adviser g_t_history_ring t_radar_gapCount t_radar_targetCount t_radar_lookCount t_radar_time t_radar_gone t_radar_gaps t_radar_settings t_radar_spots t_radar_speeds t_radar_strengths t_radar_lookTimes t_radar_lookSizes t_radar_lookNumbers t_history_oldest t_history_size t_history_ring_e)) hP hD hS C0.2.2.1 [1] [0, 2, 3, 4, 5, 6, 7, 8, 9, 10, 11, 12, 13, 14, 15, 16, 17, 18, 19, 20, 21, 22, 23, 24, 25, 26, 27, 28, 29, 30, 31, 32, 33, 34, 35, 36, 37, 38, 39, 40, 41, 42, 43, 44, 45, 46, 47, 48, 49, 50, 51, 52, 53, 54, 55, 56, 57, 58, 59, 60, 61, 62, 63, 64, 65, 66, 67, 68, 69, 70, 71, 72, 73, 74, 75, 76, 77, 78, 79, 80, 81, 82, 83] [0, 83, 1, 2, 3, 4, 5, 6, 7, 8, 9, 10, 11, 12, 13, 14, 15, 16, 17, 18, 19, 20, 21, 22, 23, 24, 25, 26, 27, 28, 29, 30, 31, 32, 33, 34, 35, 36, 37, 38, 39, 40, 41, 42, 43, 44, 45, 46, 47, 48, 49, 50, 51, 52, 53, 54, 55, 56, 57, 58, 59, 60, 61, 62, 63, 64, 65, 66, 67, 68, 69, 70, 71, 72, 73, 74, 75, 76, 77, 78, 79, 80, 81, 82] rfl rfl (by decide) (by decide) rfl (by decide) (va_runV (As := [.int x1]) (rest := []) C0.1 (c_X5_hasTarget l D K g_t_radar t_radar_gapCount t_radar_targetCount t_radar_lookCount t_radar_time t_radar_gone x1 r_1 hc_2 H.size) (cwV 1 hts gX10_leave_X5_hasTarget rfl rfl rfl (by decide +kernel) ⟨Nat.le_of_ble_eq_true rfl, Nat.le_of_ble_eq_true rfl⟩) (xp_V C0.2 hP hD hS [1] rfl (by decide) 5 0 rfl rfl rfl) rfl rfl hl.1 rfl (lv_room (Nat.le_of_ble_eq_true rfl)) dX10_leave_5 ⟨Nat.le_of_ble_eq_true rfl, Nat.le_of_ble_eq_true rfl⟩) (fun H locs hP hD hS => ?_)
  refine lv_if_ne (tgt := 13) hx hb dX10_leave_8 (by decide) (fun c_3 => ?_) (fun c_3 => ?_)
  · have hF := it_neg c_3 hF
    refine lv_aload_n hx hb dX10_leave_13 rfl (lv_at hl 0 rfl) ?_
    refine va_get (D := D) (ci := 9) (v := .ref (g_t_history 0)) (C := RX10) (T := TX10) (N := 14) hx hb hts iw_X10_leave_X10 hown hK hP 0 rfl rfl 4 (by decide) (hts _ fl_X10_leave_36) (fun _ h9 => h9) rfl dX10_leave_14 ?_
    refine lv_aload_n hx hb dX10_leave_17 rfl (lv_at hl 0 rfl) ?_
    refine va_get (D := D) (ci := 9) (v := .ref (g_t_radar 0)) (C := RX10) (T := TX10) (N := 14) hx hb hts iw_X10_leave_X10 hown hK hP 0 rfl rfl 0 (by decide) (hts _ fl_X10_leave_10) (fun _ h9 => h9) rfl dX10_leave_18 ?_
    obtain ⟨r_4, hc_5, hF⟩ := bn_some hF
    refine xc_v (wn := (w_X10_leave K g_t g_t_radar g_t_draft g_t_text g_t_reader g_t_history g_t_echoes g_t_tracks g_t_dwelling g_t_chooser g_t_adviser g_t_history_ring t_radar_gapCount t_radar_targetCount t_radar_lookCount t_radar_time t_radar_gone t_radar_gaps t_radar_settings t_radar_spots t_radar_speeds t_radar_strengths t_radar_lookTimes t_radar_lookSizes t_radar_lookNumbers r_4.1 r_4.2.1 r_4.2.2)) hP hD hS C0.2.2.1 [10, 11, 12, 13, 14, 15, 16, 17, 18, 19, 20, 21, 22, 23, 24, 25, 26, 27, 28, 29, 30, 31, 32, 33, 34, 35, 36, 37, 38, 39, 40, 41, 42, 43, 44, 45, 46, 47, 48, 49, 50, 51, 52, 53, 54, 55, 56, 57, 58, 59, 60, 61, 62, 63, 64, 65, 66, 67, 68, 69, 70, 71, 72, 73, 74, 75, 76, 77, 78, 79, 80, 81, 82, 83, 1, 2, 3, 4, 5, 6, 7, 8, 9] [0] [0, 75, 76, 77, 78, 79, 80, 81, 82, 83, 1, 2, 3, 4, 5, 6, 7, 8, 9, 10, 11, 12, 13, 14, 15, 16, 17, 18, 19, 20, 21, 22, 23, 24, 25, 26, 27, 28, 29, 30, 31, 32, 33, 34, 35, 36, 37, 38, 39, 40, 41, 42, 43, 44, 45, 46, 47, 48, 49, 50, 51, 52, 53, 54, 55, 56, 57, 58, 59, 60, 61, 62, 63, 64, 65, 66, 67, 68, 69, 70, 71, 72, 73, 74] rfl rfl (by decide) (by decide) rfl (by decide) (va_runV (As := [.ref (g_t_radar 0)]) (rest := []) C0.1 (c_X4_save l D K g_t_history g_t_history_ring g_t_radar t_history_oldest t_history_size t_history_ring_e t_radar_gapCount t_radar_targetCount t_radar_lookCount t_radar_time t_radar_gone t_radar_gaps t_radar_settings t_radar_spots t_radar_speeds t_radar_strengths t_radar_lookTimes t_radar_lookSizes t_radar_lookNumbers r_4 hc_5 H.size) (cwV 1 hts gX10_leave_X4_save rfl rfl rfl (by decide +kernel) ⟨Nat.le_of_ble_eq_true rfl, Nat.le_of_ble_eq_true rfl⟩) (xp_V C0.2 hP hD hS [10, 11, 12, 13, 14, 15, 16, 17, 18, 19, 20, 21, 22, 23, 24, 25, 26, 27, 28, 29, 30, 31, 32, 33, 34, 35, 36, 37, 38, 39, 40, 41, 42, 43, 44, 45, 46, 47, 48, 49, 50, 51, 52, 53, 54, 55, 56, 57, 58, 59, 60, 61, 62, 63, 64, 65, 66, 67, 68, 69, 70, 71, 72, 73, 74, 75, 76, 77, 78, 79, 80, 81, 82, 83, 1, 2, 3, 4, 5, 6, 7, 8, 9] rfl (by decide) 4 0 rfl rfl rfl) rfl rfl hl.1 rfl (lv_room (Nat.le_of_ble_eq_true rfl)) dX10_leave_21 ⟨Nat.le_of_ble_eq_true rfl, Nat.le_of_ble_eq_true rfl⟩) (fun H locs hP hD hS => ?_)
    refine lv_aload_n hx hb dX10_leave_24 rfl (lv_at hl 0 rfl) ?_
    refine va_get (D := D) (ci := 9) (v := .ref (g_t_radar 0)) (C := RX10) (T := TX10) (N := 14) hx hb hts iw_X10_leave_X10 hown hK hP 0 rfl rfl 0 (by decide) (hts _ fl_X10_leave_10) (fun _ h9 => h9) rfl dX10_leave_25 ?_
    refine lv_iload_n hx hb dX10_leave_28 rfl (lv_at hl 1 rfl) ?_
    obtain ⟨r_6, hc_7, hF⟩ := bn_some hF
    refine xc_v (wn := (w_X10_leave K g_t g_t_radar g_t_draft g_t_text g_t_reader g_t_history g_t_echoes g_t_tracks g_t_dwelling g_t_chooser g_t_adviser g_t_history_ring t_radar_gapCount r_6.1 t_radar_lookCount t_radar_time t_radar_gone t_radar_gaps t_radar_settings r_6.2.1 r_6.2.2.1 r_6.2.2.2 t_radar_lookTimes t_radar_lookSizes t_radar_lookNumbers r_4.1 r_4.2.1 r_4.2.2)) hP hD hS C0.2.2.1 [1, 4, 5, 6] [0, 2, 3, 7, 8, 9, 10, 11, 12, 13, 14, 15, 16, 17, 18, 19, 20, 21, 22, 23, 24, 25, 26, 27, 28, 29, 30, 31, 32, 33, 34, 35, 36, 37, 38, 39, 40, 41, 42, 43, 44, 45, 46, 47, 48, 49, 50, 51, 52, 53, 54, 55, 56, 57, 58, 59, 60, 61, 62, 63, 64, 65, 66, 67, 68, 69, 70, 71, 72, 73, 74, 75, 76, 77, 78, 79, 80, 81, 82, 83] [0, 80, 1, 2, 81, 82, 83, 3, 4, 5, 6, 7, 8, 9, 10, 11, 12, 13, 14, 15, 16, 17, 18, 19, 20, 21, 22, 23, 24, 25, 26, 27, 28, 29, 30, 31, 32, 33, 34, 35, 36, 37, 38, 39, 40, 41, 42, 43, 44, 45, 46, 47, 48, 49, 50, 51, 52, 53, 54, 55, 56, 57, 58, 59, 60, 61, 62, 63, 64, 65, 66, 67, 68, 69, 70, 71, 72, 73, 74, 75, 76, 77, 78, 79] rfl rfl (by decide) (by decide) rfl (by decide) (va_runV (As := [.int x1]) (rest := []) C0.1 (c_X5_dropTarget l D K g_t_radar t_radar_gapCount t_radar_targetCount t_radar_lookCount t_radar_time t_radar_gone t_radar_spots t_radar_speeds t_radar_strengths x1 r_6 hc_7 H.size) (cwV 1 hts gX10_leave_X5_dropTarget rfl rfl rfl (by decide +kernel) ⟨Nat.le_of_ble_eq_true rfl, Nat.le_of_ble_eq_true rfl⟩) (xp_V C0.2 hP hD hS [1, 4, 5, 6] rfl (by decide) 5 0 rfl rfl rfl) rfl rfl hl.1 rfl (lv_room (Nat.le_of_ble_eq_true rfl)) dX10_leave_29 ⟨Nat.le_of_ble_eq_true rfl, Nat.le_of_ble_eq_true rfl⟩) (fun H locs hP hD hS => ?_)
    refine lv_aload_n hx hb dX10_leave_32 rfl (lv_at hl 0 rfl) ?_
    refine va_get (D := D) (ci := 9) (v := .ref (g_t_radar 0)) (C := RX10) (T := TX10) (N := 14) hx hb hts iw_X10_leave_X10 hown hK hP 0 rfl rfl 0 (by decide) (hts _ fl_X10_leave_10) (fun _ h9 => h9) rfl dX10_leave_33 ?_
    refine va_get (D := D) (ci := 5) (v := .int r_6.1) (C := RX5) (T := TX5) (N := 13) hx hb hts iw_X10_leave_X5 hown hK hP 1 rfl rfl 9 (by decide) (hts _ fl_X10_leave_158) (fun _ h9 => h9) rfl dX10_leave_36 ?_
    obtain rfl := Option.some.inj hF
    exact HR 39 H locs ls dX10_leave_39 hP hD hS
  · have hF := it_pos c_3 hF
    refine lv_iconst (v := (-1)) hx hb dX10_leave_11 (by decide) ?_
    obtain rfl := Option.some.inj hF
    exact HR 12 H locs ls dX10_leave_12 hP hD hS
