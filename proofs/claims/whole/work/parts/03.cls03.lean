/-! StaggerRadar.Chooser.cellOf(II)I -/
abbrev rmX1_cellOf : Room := { frames := 0, cells := 0, slots := 0, locals := 0 }
abbrev w_X1_cellOf (K : Nat → ClassId) : va_W := []
def F_X1_cellOf (x0 : Int32) (x1 : Int32) : Option (Int32) :=
  some (((x0 * (5 : Int32)) + x1) * (4 : Int32))
set_option maxHeartbeats 4000000 in
set_option maxRecDepth 100000 in
theorem c_X1_cellOf (l : Launch) (D : va_G) (K : Nat → ClassId) (x0 : Int32) (x1 : Int32) (res : Int32) (hF : F_X1_cellOf x0 x1 = some res) :
    Mi_ l yX1_cellOf wsX1_cellOf rmX1_cellOf D K [.int x0, .int x1] (w_X1_cellOf K) (w_X1_cellOf K) (res) := by
  refine en_i (cc := cX1_cellOf) (maxL := 2) (own := RX1) (by decide) rfl rfl (Nat.le_of_ble_eq_true rfl) ?_
  intro p e s m args below meth c A Q H locs ls C0 hP hD hS hl HR
  obtain ⟨⟨hx, hb, hml, hown, hts⟩, hK, -⟩ := id C0
  have hl : lv_has ls 2 [(0, .int x0), (1, .int x1)] := hl
  unfold F_X1_cellOf at hF
  refine lv_iload_n hx hb dX1_cellOf_0 rfl (lv_at hl 0 rfl) ?_
  refine lv_iconst (v := 5) hx hb dX1_cellOf_1 (by decide) ?_
  refine lv_imul hx hb dX1_cellOf_2 ?_
  refine lv_iload_n hx hb dX1_cellOf_3 rfl (lv_at hl 1 rfl) ?_
  refine lv_iadd hx hb dX1_cellOf_4 ?_
  refine lv_iconst (v := 4) hx hb dX1_cellOf_5 (by decide) ?_
  refine lv_imul hx hb dX1_cellOf_6 ?_
  obtain rfl := Option.some.inj hF
  exact HR 7 H locs ls dX1_cellOf_7 hP hD hS

/-! StaggerRadar.Chooser.addChoice(II)V -/
abbrev rmX1_addChoice : Room := { frames := 1, cells := 0, slots := 0, locals := 21 }
theorem fl_X1_addChoice_11 : Cond.fieldLink RX1 11 "StaggerRadar$Chooser" "open" "[J" ∈ wsX1_addChoice := by decide +kernel
theorem fl_X1_addChoice_15 : Cond.fieldLink RX1 15 "StaggerRadar$Chooser" "enough" "[J" ∈ wsX1_addChoice := by decide +kernel
theorem fl_X1_addChoice_52 : Cond.fieldLink RX1 52 "StaggerRadar$Chooser" "needed" "I" ∈ wsX1_addChoice := by decide +kernel
theorem fl_X1_addChoice_55 : Cond.fieldLink RX1 55 "StaggerRadar$Chooser" "parts" "I" ∈ wsX1_addChoice := by decide +kernel
theorem iw_X1_addChoice_X1 : ∀ w ∈ u_ws RX1 TX1 13, w ∈ wsX1_addChoice := by decide +kernel
abbrev w_X1_addChoice (K : Nat → ClassId) (g_t : Nat → Nat) (t_size : Int32) (t_low : Int32) (t_width : Int32) (t_limit : Int32) (t_needed : Int32) (t_parts : Int32) (t_leastSum : Int32) (t_fitCount : Int32) (t_open : Nat → Int64) (t_enough : Nat → Int64) : va_W := [((g_t 0), .inr (1, [.ref (g_t 1), .ref (g_t 2), .ref (g_t 3), .ref (g_t 4), .int t_size, .int t_low, .int t_width, .int t_limit, .int t_needed, .int t_parts, .ref (g_t 11), .int t_leastSum, .int t_fitCount])), ((g_t 1), .inl (K 1, 84, .inr (.inl t_open))), ((g_t 2), .inl (K 1, 80, .inr (.inl t_enough)))]
def L_X1_addChoice_46 (t_needed : Int32) (t_parts : Int32) (t_open : Nat → Int64) (k_10 : (Nat → Int64) → Int32 → Int32 → Int32 → Option ((Nat → Int64))) : Nat → (Nat → Int64) → Int32 → Int32 → Int32 → Int32 → Int32 → Int32 → Int32 → Option ((Nat → Int64))
  | 0, _, _, _, _, _, _, _, _ => none
  | n_ + 1, t_enough, x1, x2, x3, x4, x5, x6, x7 =>
    if t_parts ≤ x7 then (k_10 t_enough x1 x2 (x3 + (1 : Int32))) else (gd_ (in_b (x5 + x7) 80) (gd_ (in_b (x6 + x7) 80) (gd_ (in_b ((x2 * (4 : Int32)) + x7) 84) (gd_ (in_b (x4 + x7) 80) (L_X1_addChoice_46 t_needed t_parts t_open k_10 n_ (vp_updL t_enough (x4 + x7).toNatClampNeg ((t_enough (x5 + x7).toNatClampNeg) ||| ((t_enough (x6 + x7).toNatClampNeg) &&& (t_open ((x2 * (4 : Int32)) + x7).toNatClampNeg)))) x1 x2 x3 x4 x5 x6 (x7 + (1 : Int32)))))))
set_option maxHeartbeats 4000000 in
set_option maxRecDepth 100000 in
theorem w_X1_addChoice_46 {p : Program} {l : Launch} {e : Env} {s : State} {m : MethodId} {args : Array Value} {below : List Frame} {meth : Method} {c : Code} {D : va_G} {K : Nat → ClassId} {A : Nat → Prop} {Q : State → Prop} (C0 : cx_ p s m args c cX1_addChoice 8 RX1 wsX1_addChoice D K A) {g_t : Nat → Nat} {t_size : Int32} {t_low : Int32} {t_width : Int32} {t_limit : Int32} {t_needed : Int32} {t_parts : Int32} {t_leastSum : Int32} {t_fitCount : Int32} {t_open : Nat → Int64} {res : (Nat → Int64)} (HR : ∀ (pc : Nat) (H : Heap) (locs : List Loc) (ls : Array Slot), decode cX1_addChoice pc = .ok (.return_, 1) → va_P D vwCl (w_X1_addChoice K g_t t_size t_low t_width t_limit t_needed t_parts t_leastSum t_fitCount t_open res) H → va_D A (w_X1_addChoice K g_t t_size t_low t_width t_limit t_needed t_parts t_leastSum t_fitCount t_open res) → va_S A s.heap H locs → W p l e rmX1_addChoice s m args below meth c H locs 0 0 Q (F0 m pc ls [])) {k_10 : (Nat → Int64) → Int32 → Int32 → Int32 → Option ((Nat → Int64))} (HK_10 : ∀ (t_enough : Nat → Int64) (x1 : Int32) (x2 : Int32) (x3 : Int32) (H : Heap) (locs : List Loc) (ls : Array Slot), va_P D vwCl (w_X1_addChoice K g_t t_size t_low t_width t_limit t_needed t_parts t_leastSum t_fitCount t_open t_enough) H → va_D A (w_X1_addChoice K g_t t_size t_low t_width t_limit t_needed t_parts t_leastSum t_fitCount t_open t_enough) → va_S A s.heap H locs → lv_has ls 8 [(0, .ref (g_t 0)), (1, .int x1), (2, .int x2), (3, .int x3)] → k_10 t_enough x1 x2 x3 = some res → W p l e rmX1_addChoice s m args below meth c H locs 0 0 Q (F0 m 10 ls [])) :
    ∀ (n_ : Nat) (t_enough : Nat → Int64) (x1 : Int32) (x2 : Int32) (x3 : Int32) (x4 : Int32) (x5 : Int32) (x6 : Int32) (x7 : Int32) (H : Heap) (locs : List Loc) (ls : Array Slot), va_P D vwCl (w_X1_addChoice K g_t t_size t_low t_width t_limit t_needed t_parts t_leastSum t_fitCount t_open t_enough) H → va_D A (w_X1_addChoice K g_t t_size t_low t_width t_limit t_needed t_parts t_leastSum t_fitCount t_open t_enough) → va_S A s.heap H locs → lv_has ls 8 [(0, .ref (g_t 0)), (1, .int x1), (2, .int x2), (3, .int x3), (4, .int x4), (5, .int x5), (6, .int x6), (7, .int x7)] → L_X1_addChoice_46 t_needed t_parts t_open k_10 n_ t_enough x1 x2 x3 x4 x5 x6 x7 = some res → W p l e rmX1_addChoice s m args below meth c H locs 0 0 Q (F0 m 46 ls []) := by
  obtain ⟨⟨hx, hb, hml, hown, hts⟩, hK, -⟩ := id C0
  intro n_
  induction n_ with
  | zero =>
    intro t_enough x1 x2 x3 x4 x5 x6 x7 H locs ls hP hD hS hl hF
    exact no_s (show (none : Option ((Nat → Int64))) = some res from hF)
  | succ n_ ih =>
    intro t_enough x1 x2 x3 x4 x5 x6 x7 H locs ls hP hD hS hl hF
    rw [L_X1_addChoice_46] at hF
    refine lv_iload hx hb dX1_addChoice_46 (lv_at hl 7 rfl) ?_
    refine lv_aload_n hx hb dX1_addChoice_48 rfl (lv_at hl 0 rfl) ?_
    refine va_get (D := D) (ci := 1) (v := .int t_parts) (C := RX1) (T := TX1) (N := 13) hx hb hts iw_X1_addChoice_X1 hown hK hP 0 rfl rfl 9 (by decide) (hts _ fl_X1_addChoice_55) (fun _ h9 => h9) rfl dX1_addChoice_49 ?_
    refine lv_icmp_ge (tgt := 104) hx hb dX1_addChoice_52 (by decide) (fun c_1 => ?_) (fun c_1 => ?_)
    · have hF := it_pos c_1 hF
      refine lv_iinc (v := (x3 + (1 : Int32))) (lv' := [(3, .int (x3 + (1 : Int32))), (0, .ref (g_t 0)), (1, .int x1), (2, .int x2), (4, .int x4), (5, .int x5), (6, .int x6), (7, .int x7)]) hx hb dX1_addChoice_104 hl (k := 3) rfl (congrArg (fun z => x3 + z) (by decide)) (by decide) rfl (fun ls hl => ?_)
      refine lv_goto (tgt := 10) hx hb dX1_addChoice_107 (by decide) ?_
      exact HK_10 t_enough x1 x2 (x3 + (1 : Int32)) H locs ls hP hD hS (lv_sub hl [1, 2, 3, 0] rfl) hF
    · have hF := it_neg c_1 hF
      refine lv_aload_n hx hb dX1_addChoice_55 rfl (lv_at hl 0 rfl) ?_
      refine va_get (D := D) (ci := 1) (v := .ref (g_t 2)) (C := RX1) (T := TX1) (N := 13) hx hb hts iw_X1_addChoice_X1 hown hK hP 0 rfl rfl 1 (by decide) (hts _ fl_X1_addChoice_15) (fun _ h9 => h9) rfl dX1_addChoice_56 ?_
      refine lv_iload hx hb dX1_addChoice_59 (lv_at hl 4 rfl) ?_
      refine lv_iload hx hb dX1_addChoice_61 (lv_at hl 7 rfl) ?_
      refine lv_iadd hx hb dX1_addChoice_63 ?_
      refine lv_aload_n hx hb dX1_addChoice_64 rfl (lv_at hl 0 rfl) ?_
      refine va_get (D := D) (ci := 1) (v := .ref (g_t 2)) (C := RX1) (T := TX1) (N := 13) hx hb hts iw_X1_addChoice_X1 hown hK hP 0 rfl rfl 1 (by decide) (hts _ fl_X1_addChoice_15) (fun _ h9 => h9) rfl dX1_addChoice_65 ?_
      refine lv_iload hx hb dX1_addChoice_68 (lv_at hl 5 rfl) ?_
      refine lv_iload hx hb dX1_addChoice_70 (lv_at hl 7 rfl) ?_
      refine lv_iadd hx hb dX1_addChoice_72 ?_
      obtain ⟨hg_2, hF⟩ := gd_some hF
      refine xl_l (f := t_enough) hx hb hK hP 2 1 rfl rfl rfl (in_v hg_2) dX1_addChoice_73 ?_
      refine lv_aload_n hx hb dX1_addChoice_74 rfl (lv_at hl 0 rfl) ?_
      refine va_get (D := D) (ci := 1) (v := .ref (g_t 2)) (C := RX1) (T := TX1) (N := 13) hx hb hts iw_X1_addChoice_X1 hown hK hP 0 rfl rfl 1 (by decide) (hts _ fl_X1_addChoice_15) (fun _ h9 => h9) rfl dX1_addChoice_75 ?_
      refine lv_iload hx hb dX1_addChoice_78 (lv_at hl 6 rfl) ?_
      refine lv_iload hx hb dX1_addChoice_80 (lv_at hl 7 rfl) ?_
      refine lv_iadd hx hb dX1_addChoice_82 ?_
      obtain ⟨hg_3, hF⟩ := gd_some hF
      refine xl_l (f := t_enough) hx hb hK hP 2 1 rfl rfl rfl (in_v hg_3) dX1_addChoice_83 ?_
      refine lv_aload_n hx hb dX1_addChoice_84 rfl (lv_at hl 0 rfl) ?_
      refine va_get (D := D) (ci := 1) (v := .ref (g_t 1)) (C := RX1) (T := TX1) (N := 13) hx hb hts iw_X1_addChoice_X1 hown hK hP 0 rfl rfl 0 (by decide) (hts _ fl_X1_addChoice_11) (fun _ h9 => h9) rfl dX1_addChoice_85 ?_
      refine lv_iload_n hx hb dX1_addChoice_88 rfl (lv_at hl 2 rfl) ?_
      refine lv_iconst (v := 4) hx hb dX1_addChoice_89 (by decide) ?_
      refine lv_imul hx hb dX1_addChoice_90 ?_
      refine lv_iload hx hb dX1_addChoice_91 (lv_at hl 7 rfl) ?_
      refine lv_iadd hx hb dX1_addChoice_93 ?_
      obtain ⟨hg_4, hF⟩ := gd_some hF
      refine xl_l (f := t_open) hx hb hK hP 1 1 rfl rfl rfl (in_v hg_4) dX1_addChoice_94 ?_
      refine lv_land hx hb dX1_addChoice_95 ?_
      refine lv_lor hx hb dX1_addChoice_96 ?_
      obtain ⟨hg_5, hF⟩ := gd_some hF
      refine xs_l (f := t_enough) hx hb hK hP hD hS 2 1 rfl rfl rfl (in_v hg_5) dX1_addChoice_97 (fun H locs hP hD hS => ?_)
      have hP : va_P D vwCl (w_X1_addChoice K g_t t_size t_low t_width t_limit t_needed t_parts t_leastSum t_fitCount t_open (vp_updL t_enough (x4 + x7).toNatClampNeg ((t_enough (x5 + x7).toNatClampNeg) ||| ((t_enough (x6 + x7).toNatClampNeg) &&& (t_open ((x2 * (4 : Int32)) + x7).toNatClampNeg))))) H := hP
      have hD : va_D A (w_X1_addChoice K g_t t_size t_low t_width t_limit t_needed t_parts t_leastSum t_fitCount t_open (vp_updL t_enough (x4 + x7).toNatClampNeg ((t_enough (x5 + x7).toNatClampNeg) ||| ((t_enough (x6 + x7).toNatClampNeg) &&& (t_open ((x2 * (4 : Int32)) + x7).toNatClampNeg))))) := hD
      refine lv_iinc (v := (x7 + (1 : Int32))) (lv' := [(7, .int (x7 + (1 : Int32))), (0, .ref (g_t 0)), (1, .int x1), (2, .int x2), (3, .int x3), (4, .int x4), (5, .int x5), (6, .int x6)]) hx hb dX1_addChoice_98 hl (k := 7) rfl (congrArg (fun z => x7 + z) (by decide)) (by decide) rfl (fun ls hl => ?_)
      refine lv_goto (tgt := 46) hx hb dX1_addChoice_101 (by decide) ?_
      exact ih (vp_updL t_enough (x4 + x7).toNatClampNeg ((t_enough (x5 + x7).toNatClampNeg) ||| ((t_enough (x6 + x7).toNatClampNeg) &&& (t_open ((x2 * (4 : Int32)) + x7).toNatClampNeg)))) x1 x2 x3 x4 x5 x6 (x7 + (1 : Int32)) H locs ls hP hD hS (lv_sub hl [1, 2, 3, 4, 5, 6, 7, 0] rfl) hF
def L_X1_addChoice_10 (t_needed : Int32) (t_parts : Int32) (t_open : Nat → Int64) : Nat → (Nat → Int64) → Int32 → Int32 → Int32 → Option ((Nat → Int64))
  | 0, _, _, _, _ => none
  | n_ + 1, t_enough, x1, x2, x3 =>
    if t_needed < x3 then (some t_enough) else ((F_X1_cellOf (x1 + (1 : Int32)) x3).bind fun r_2 => ((F_X1_cellOf x1 x3).bind fun r_4 => ((F_X1_cellOf x1 (x3 - (1 : Int32))).bind fun r_6 => (L_X1_addChoice_46 t_needed t_parts t_open (L_X1_addChoice_10 t_needed t_parts t_open n_) fu_ t_enough x1 x2 x3 r_2 r_4 r_6 (0 : Int32)))))
set_option maxHeartbeats 4000000 in
set_option maxRecDepth 100000 in
theorem w_X1_addChoice_10 {p : Program} {l : Launch} {e : Env} {s : State} {m : MethodId} {args : Array Value} {below : List Frame} {meth : Method} {c : Code} {D : va_G} {K : Nat → ClassId} {A : Nat → Prop} {Q : State → Prop} (C0 : cx_ p s m args c cX1_addChoice 8 RX1 wsX1_addChoice D K A) {g_t : Nat → Nat} {t_size : Int32} {t_low : Int32} {t_width : Int32} {t_limit : Int32} {t_needed : Int32} {t_parts : Int32} {t_leastSum : Int32} {t_fitCount : Int32} {t_open : Nat → Int64} {res : (Nat → Int64)} (HR : ∀ (pc : Nat) (H : Heap) (locs : List Loc) (ls : Array Slot), decode cX1_addChoice pc = .ok (.return_, 1) → va_P D vwCl (w_X1_addChoice K g_t t_size t_low t_width t_limit t_needed t_parts t_leastSum t_fitCount t_open res) H → va_D A (w_X1_addChoice K g_t t_size t_low t_width t_limit t_needed t_parts t_leastSum t_fitCount t_open res) → va_S A s.heap H locs → W p l e rmX1_addChoice s m args below meth c H locs 0 0 Q (F0 m pc ls []))  :
    ∀ (n_ : Nat) (t_enough : Nat → Int64) (x1 : Int32) (x2 : Int32) (x3 : Int32) (H : Heap) (locs : List Loc) (ls : Array Slot), va_P D vwCl (w_X1_addChoice K g_t t_size t_low t_width t_limit t_needed t_parts t_leastSum t_fitCount t_open t_enough) H → va_D A (w_X1_addChoice K g_t t_size t_low t_width t_limit t_needed t_parts t_leastSum t_fitCount t_open t_enough) → va_S A s.heap H locs → lv_has ls 8 [(0, .ref (g_t 0)), (1, .int x1), (2, .int x2), (3, .int x3)] → L_X1_addChoice_10 t_needed t_parts t_open n_ t_enough x1 x2 x3 = some res → W p l e rmX1_addChoice s m args below meth c H locs 0 0 Q (F0 m 10 ls []) := by
  obtain ⟨⟨hx, hb, hml, hown, hts⟩, hK, -⟩ := id C0
  intro n_
  induction n_ with
  | zero =>
    intro t_enough x1 x2 x3 H locs ls hP hD hS hl hF
    exact no_s (show (none : Option ((Nat → Int64))) = some res from hF)
  | succ n_ ih =>
    intro t_enough x1 x2 x3 H locs ls hP hD hS hl hF
    rw [L_X1_addChoice_10] at hF
    refine lv_iload_n hx hb dX1_addChoice_10 rfl (lv_at hl 3 rfl) ?_
    refine lv_aload_n hx hb dX1_addChoice_11 rfl (lv_at hl 0 rfl) ?_
    refine va_get (D := D) (ci := 1) (v := .int t_needed) (C := RX1) (T := TX1) (N := 13) hx hb hts iw_X1_addChoice_X1 hown hK hP 0 rfl rfl 8 (by decide) (hts _ fl_X1_addChoice_52) (fun _ h9 => h9) rfl dX1_addChoice_12 ?_
    refine lv_icmp_gt (tgt := 110) hx hb dX1_addChoice_15 (by decide) (fun c_1 => ?_) (fun c_1 => ?_)
    · have hF := it_pos c_1 hF
      obtain rfl := Option.some.inj hF
      exact HR 110 H locs ls dX1_addChoice_110 hP hD hS
    · have hF := it_neg c_1 hF
      refine lv_iload_n hx hb dX1_addChoice_18 rfl (lv_at hl 1 rfl) ?_
      refine lv_iconst (v := 1) hx hb dX1_addChoice_19 (by decide) ?_
      refine lv_iadd hx hb dX1_addChoice_20 ?_
      refine lv_iload_n hx hb dX1_addChoice_21 rfl (lv_at hl 3 rfl) ?_
      obtain ⟨r_2, hc_3, hF⟩ := bn_some hF
      refine xc_i (wn := (w_X1_addChoice K g_t t_size t_low t_width t_limit t_needed t_parts t_leastSum t_fitCount t_open t_enough)) hP hD hS C0.2.2.1 [] [0, 1, 2] [0, 1, 2] rfl rfl (by decide) (by decide) rfl (by decide) (va_runS (As := [.int (x1 + (1 : Int32)), .int x3]) (rest := []) C0.1 (c_X1_cellOf l D K (x1 + (1 : Int32)) x3 r_2 hc_3 H.size) (va_cwS 2 hts gX1_addChoice_X1_cellOf rfl rfl rfl (by decide +kernel) ⟨Nat.le_of_ble_eq_true rfl, Nat.le_of_ble_eq_true rfl⟩) (xp_S C0.2 hP hD hS [] rfl (by decide)) rfl rfl hl.1 rfl (lv_room (Nat.le_of_ble_eq_true rfl)) dX1_addChoice_22 ⟨Nat.le_of_ble_eq_true rfl, Nat.le_of_ble_eq_true rfl⟩) (fun H locs hP hD hS => ?_)
      refine lv_istore (lv' := [(4, .int r_2), (0, .ref (g_t 0)), (1, .int x1), (2, .int x2), (3, .int x3)]) hx hb dX1_addChoice_25 hl (by decide) rfl (fun ls hl => ?_)
      refine lv_iload_n hx hb dX1_addChoice_27 rfl (lv_at hl 2 rfl) ?_
      refine lv_iload_n hx hb dX1_addChoice_28 rfl (lv_at hl 4 rfl) ?_
      obtain ⟨r_4, hc_5, hF⟩ := bn_some hF
      refine xc_i (wn := (w_X1_addChoice K g_t t_size t_low t_width t_limit t_needed t_parts t_leastSum t_fitCount t_open t_enough)) hP hD hS C0.2.2.1 [] [0, 1, 2] [0, 1, 2] rfl rfl (by decide) (by decide) rfl (by decide) (va_runS (As := [.int x1, .int x3]) (rest := []) C0.1 (c_X1_cellOf l D K x1 x3 r_4 hc_5 H.size) (va_cwS 2 hts gX1_addChoice_X1_cellOf rfl rfl rfl (by decide +kernel) ⟨Nat.le_of_ble_eq_true rfl, Nat.le_of_ble_eq_true rfl⟩) (xp_S C0.2 hP hD hS [] rfl (by decide)) rfl rfl hl.1 rfl (lv_room (Nat.le_of_ble_eq_true rfl)) dX1_addChoice_29 ⟨Nat.le_of_ble_eq_true rfl, Nat.le_of_ble_eq_true rfl⟩) (fun H locs hP hD hS => ?_)
      refine lv_istore (lv' := [(5, .int r_4), (4, .int r_2), (0, .ref (g_t 0)), (1, .int x1), (2, .int x2), (3, .int x3)]) hx hb dX1_addChoice_32 hl (by decide) rfl (fun ls hl => ?_)
      refine lv_iload_n hx hb dX1_addChoice_34 rfl (lv_at hl 3 rfl) ?_
      refine lv_iload_n hx hb dX1_addChoice_35 rfl (lv_at hl 5 rfl) ?_
      refine lv_iconst (v := 1) hx hb dX1_addChoice_36 (by decide) ?_
      refine lv_isub hx hb dX1_addChoice_37 ?_
      obtain ⟨r_6, hc_7, hF⟩ := bn_some hF
      refine xc_i (wn := (w_X1_addChoice K g_t t_size t_low t_width t_limit t_needed t_parts t_leastSum t_fitCount t_open t_enough)) hP hD hS C0.2.2.1 [] [0, 1, 2] [0, 1, 2] rfl rfl (by decide) (by decide) rfl (by decide) (va_runS (As := [.int x1, .int (x3 - (1 : Int32))]) (rest := []) C0.1 (c_X1_cellOf l D K x1 (x3 - (1 : Int32)) r_6 hc_7 H.size) (va_cwS 2 hts gX1_addChoice_X1_cellOf rfl rfl rfl (by decide +kernel) ⟨Nat.le_of_ble_eq_true rfl, Nat.le_of_ble_eq_true rfl⟩) (xp_S C0.2 hP hD hS [] rfl (by decide)) rfl rfl hl.1 rfl (lv_room (Nat.le_of_ble_eq_true rfl)) dX1_addChoice_38 ⟨Nat.le_of_ble_eq_true rfl, Nat.le_of_ble_eq_true rfl⟩) (fun H locs hP hD hS => ?_)
      refine lv_istore (lv' := [(6, .int r_6), (5, .int r_4), (4, .int r_2), (0, .ref (g_t 0)), (1, .int x1), (2, .int x2), (3, .int x3)]) hx hb dX1_addChoice_41 hl (by decide) rfl (fun ls hl => ?_)
      refine lv_iconst (v := 0) hx hb dX1_addChoice_43 (by decide) ?_
      refine lv_istore (lv' := [(7, .int (0 : Int32)), (6, .int r_6), (5, .int r_4), (4, .int r_2), (0, .ref (g_t 0)), (1, .int x1), (2, .int x2), (3, .int x3)]) hx hb dX1_addChoice_44 hl (by decide) rfl (fun ls hl => ?_)
      exact w_X1_addChoice_46 C0 HR ih fu_ t_enough x1 x2 x3 r_2 r_4 r_6 (0 : Int32) H locs ls hP hD hS (lv_sub hl [4, 5, 6, 7, 3, 2, 1, 0] rfl) hF
def F_X1_addChoice (t_needed : Int32) (t_parts : Int32) (t_open : Nat → Int64) (t_enough : Nat → Int64) (x1 : Int32) (x2 : Int32) : Option ((Nat → Int64)) :=
  if (x1 + (1 : Int32)) < (4 : Int32) then (L_X1_addChoice_10 t_needed t_parts t_open fu_ t_enough x1 x2 (1 : Int32)) else (some t_enough)
set_option maxHeartbeats 4000000 in
set_option maxRecDepth 100000 in
theorem c_X1_addChoice (l : Launch) (D : va_G) (K : Nat → ClassId) (g_t : Nat → Nat) (t_size : Int32) (t_low : Int32) (t_width : Int32) (t_limit : Int32) (t_needed : Int32) (t_parts : Int32) (t_leastSum : Int32) (t_fitCount : Int32) (t_open : Nat → Int64) (t_enough : Nat → Int64) (x1 : Int32) (x2 : Int32) (res : (Nat → Int64)) (hF : F_X1_addChoice t_needed t_parts t_open t_enough x1 x2 = some res) :
    Mv_ l yX1_addChoice wsX1_addChoice rmX1_addChoice D K [.ref (g_t 0), .int x1, .int x2] (w_X1_addChoice K g_t t_size t_low t_width t_limit t_needed t_parts t_leastSum t_fitCount t_open t_enough) (w_X1_addChoice K g_t t_size t_low t_width t_limit t_needed t_parts t_leastSum t_fitCount t_open res) := by
  refine en_v (cc := cX1_addChoice) (maxL := 8) (own := RX1) (by decide) rfl rfl (Nat.le_of_ble_eq_true rfl) ?_
  intro p e s m args below meth c A Q H locs ls C0 hP hD hS hl HR
  obtain ⟨⟨hx, hb, hml, hown, hts⟩, hK, -⟩ := id C0
  have hl : lv_has ls 8 [(0, .ref (g_t 0)), (1, .int x1), (2, .int x2)] := hl
  unfold F_X1_addChoice at hF
  refine lv_iload_n hx hb dX1_addChoice_0 rfl (lv_at hl 1 rfl) ?_
  refine lv_iconst (v := 1) hx hb dX1_addChoice_1 (by decide) ?_
  refine lv_iadd hx hb dX1_addChoice_2 ?_
  refine lv_iconst (v := 4) hx hb dX1_addChoice_3 (by decide) ?_
  refine lv_icmp_lt (tgt := 8) hx hb dX1_addChoice_4 (by decide) (fun c_1 => ?_) (fun c_1 => ?_)
  · have hF := it_pos c_1 hF
    refine lv_iconst (v := 1) hx hb dX1_addChoice_8 (by decide) ?_
    refine lv_istore_n (lv' := [(3, .int (1 : Int32)), (0, .ref (g_t 0)), (1, .int x1), (2, .int x2)]) hx hb dX1_addChoice_9 rfl hl (by decide) rfl (fun ls hl => ?_)
    exact w_X1_addChoice_10 C0 HR fu_ t_enough x1 x2 (1 : Int32) H locs ls hP hD hS (lv_sub hl [1, 2, 3, 0] rfl) hF
  · have hF := it_neg c_1 hF
    obtain rfl := Option.some.inj hF
    exact HR 7 H locs ls dX1_addChoice_7 hP hD hS

/-! X1_descend_k0: the floor -/
abbrev rmX1_descend_k0 : Room := { frames := 0, cells := 0, slots := 0, locals := 0 }
abbrev w_X1_descend_k0 (K : Nat → ClassId) (g_t : Nat → Nat) (t_size : Int32) (t_low : Int32) (t_width : Int32) (t_limit : Int32) (t_needed : Int32) (t_parts : Int32) (t_leastSum : Int32) (t_fitCount : Int32) (t_open : Nat → Int64) (t_enough : Nat → Int64) (t_all : Nat → Int64) (t_chosen : Nat → Int32) (t_best : Nat → Int32) : va_W := [((g_t 0), .inr (1, [.ref (g_t 1), .ref (g_t 2), .ref (g_t 3), .ref (g_t 4), .int t_size, .int t_low, .int t_width, .int t_limit, .int t_needed, .int t_parts, .ref (g_t 11), .int t_leastSum, .int t_fitCount])), ((g_t 1), .inl (K 1, 84, .inr (.inl t_open))), ((g_t 2), .inl (K 1, 80, .inr (.inl t_enough))), ((g_t 3), .inl (K 1, 4, .inr (.inl t_all))), ((g_t 4), .inl (K 0, 4, .inl t_chosen)), ((g_t 11), .inl (K 0, 4, .inl t_best))]
def F_X1_descend_k0 (_t_size : Int32) (_t_low : Int32) (_t_width : Int32) (_t_limit : Int32) (_t_needed : Int32) (_t_parts : Int32) (_t_leastSum : Int32) (_t_fitCount : Int32) (_t_open : Nat → Int64) (_t_enough : Nat → Int64) (_t_all : Nat → Int64) (_t_chosen : Nat → Int32) (_t_best : Nat → Int32) (_x1 : Int32) (_x2 : Int32) (_x3 : Int32) (_x4 : Int32) : Option (Int32 × Int32 × (Nat → Int64) × (Nat → Int32) × (Nat → Int32)) := none
theorem c_X1_descend_k0 (l : Launch) (D : va_G) (K : Nat → ClassId) (g_t : Nat → Nat) (t_size : Int32) (t_low : Int32) (t_width : Int32) (t_limit : Int32) (t_needed : Int32) (t_parts : Int32) (t_leastSum : Int32) (t_fitCount : Int32) (t_open : Nat → Int64) (t_enough : Nat → Int64) (t_all : Nat → Int64) (t_chosen : Nat → Int32) (t_best : Nat → Int32) (x1 : Int32) (x2 : Int32) (x3 : Int32) (x4 : Int32) (res : Int32 × Int32 × (Nat → Int64) × (Nat → Int32) × (Nat → Int32)) (hF : F_X1_descend_k0 t_size t_low t_width t_limit t_needed t_parts t_leastSum t_fitCount t_open t_enough t_all t_chosen t_best x1 x2 x3 x4 = some res) :
    Mv_ l yX1_descend wsX1_descend rmX1_descend_k0 D K [.ref (g_t 0), .int x1, .int x2, .int x3, .int x4] (w_X1_descend_k0 K g_t t_size t_low t_width t_limit t_needed t_parts t_leastSum t_fitCount t_open t_enough t_all t_chosen t_best) (w_X1_descend_k0 K g_t t_size t_low t_width t_limit t_needed t_parts res.1 res.2.1 t_open res.2.2.1 t_all res.2.2.2.1 res.2.2.2.2) := by
  exact no_s (show (none : Option (Int32 × Int32 × (Nat → Int64) × (Nat → Int32) × (Nat → Int32))) = some res from hF)

/-! StaggerRadar.Chooser.opensAll(II)Z -/
abbrev rmX1_opensAll : Room := { frames := 1, cells := 0, slots := 0, locals := 21 }
theorem fl_X1_opensAll_11 : Cond.fieldLink RX1 11 "StaggerRadar$Chooser" "open" "[J" ∈ wsX1_opensAll := by decide +kernel
theorem fl_X1_opensAll_15 : Cond.fieldLink RX1 15 "StaggerRadar$Chooser" "enough" "[J" ∈ wsX1_opensAll := by decide +kernel
theorem fl_X1_opensAll_18 : Cond.fieldLink RX1 18 "StaggerRadar$Chooser" "all" "[J" ∈ wsX1_opensAll := by decide +kernel
theorem fl_X1_opensAll_52 : Cond.fieldLink RX1 52 "StaggerRadar$Chooser" "needed" "I" ∈ wsX1_opensAll := by decide +kernel
theorem fl_X1_opensAll_55 : Cond.fieldLink RX1 55 "StaggerRadar$Chooser" "parts" "I" ∈ wsX1_opensAll := by decide +kernel
theorem iw_X1_opensAll_X1 : ∀ w ∈ u_ws RX1 TX1 13, w ∈ wsX1_opensAll := by decide +kernel
abbrev w_X1_opensAll (K : Nat → ClassId) (g_t : Nat → Nat) (t_size : Int32) (t_low : Int32) (t_width : Int32) (t_limit : Int32) (t_needed : Int32) (t_parts : Int32) (t_leastSum : Int32) (t_fitCount : Int32) (t_open : Nat → Int64) (t_enough : Nat → Int64) (t_all : Nat → Int64) : va_W := [((g_t 0), .inr (1, [.ref (g_t 1), .ref (g_t 2), .ref (g_t 3), .ref (g_t 4), .int t_size, .int t_low, .int t_width, .int t_limit, .int t_needed, .int t_parts, .ref (g_t 11), .int t_leastSum, .int t_fitCount])), ((g_t 1), .inl (K 1, 84, .inr (.inl t_open))), ((g_t 2), .inl (K 1, 80, .inr (.inl t_enough))), ((g_t 3), .inl (K 1, 4, .inr (.inl t_all)))]
def L_X1_opensAll_24 (t_needed : Int32) (t_parts : Int32) (t_open : Nat → Int64) (t_enough : Nat → Int64) (t_all : Nat → Int64) : Nat → Int32 → Int32 → Int32 → Int32 → Option (Int32)
  | 0, _, _, _, _ => none
  | n_ + 1, x2, x3, x4, x5 =>
    if t_parts ≤ x5 then (some (1 : Int32)) else (gd_ (in_b (x3 + x5) 80) (gd_ (in_b (x4 + x5) 80) (gd_ (in_b ((x2 * (4 : Int32)) + x5) 84) (gd_ (in_b x5 4) (if (lg_cmp ((t_enough (x3 + x5).toNatClampNeg) ||| ((t_enough (x4 + x5).toNatClampNeg) &&& (t_open ((x2 * (4 : Int32)) + x5).toNatClampNeg))) (t_all (x5).toNatClampNeg)) = (0 : Int32) then (L_X1_opensAll_24 t_needed t_parts t_open t_enough t_all n_ x2 x3 x4 (x5 + (1 : Int32))) else (some (0 : Int32)))))))
set_option maxHeartbeats 4000000 in
set_option maxRecDepth 100000 in
theorem w_X1_opensAll_24 {p : Program} {l : Launch} {e : Env} {s : State} {m : MethodId} {args : Array Value} {below : List Frame} {meth : Method} {c : Code} {D : va_G} {K : Nat → ClassId} {A : Nat → Prop} {Q : State → Prop} (C0 : cx_ p s m args c cX1_opensAll 8 RX1 wsX1_opensAll D K A) {g_t : Nat → Nat} {t_size : Int32} {t_low : Int32} {t_width : Int32} {t_limit : Int32} {t_needed : Int32} {t_parts : Int32} {t_leastSum : Int32} {t_fitCount : Int32} {t_open : Nat → Int64} {t_enough : Nat → Int64} {t_all : Nat → Int64} {res : Int32} (HR : ∀ (pc : Nat) (H : Heap) (locs : List Loc) (ls : Array Slot), decode cX1_opensAll pc = .ok (.ireturn, 1) → narrow .boolean (.int res) = .int res → va_P D vwCl (w_X1_opensAll K g_t t_size t_low t_width t_limit t_needed t_parts t_leastSum t_fitCount t_open t_enough t_all) H → va_D A (w_X1_opensAll K g_t t_size t_low t_width t_limit t_needed t_parts t_leastSum t_fitCount t_open t_enough t_all) → va_S A s.heap H locs → W p l e rmX1_opensAll s m args below meth c H locs 0 0 Q (F0 m pc ls [.int res]))  :
    ∀ (n_ : Nat) (x2 : Int32) (x3 : Int32) (x4 : Int32) (x5 : Int32) (H : Heap) (locs : List Loc) (ls : Array Slot), va_P D vwCl (w_X1_opensAll K g_t t_size t_low t_width t_limit t_needed t_parts t_leastSum t_fitCount t_open t_enough t_all) H → va_D A (w_X1_opensAll K g_t t_size t_low t_width t_limit t_needed t_parts t_leastSum t_fitCount t_open t_enough t_all) → va_S A s.heap H locs → lv_has ls 8 [(0, .ref (g_t 0)), (2, .int x2), (3, .int x3), (4, .int x4), (5, .int x5)] → L_X1_opensAll_24 t_needed t_parts t_open t_enough t_all n_ x2 x3 x4 x5 = some res → W p l e rmX1_opensAll s m args below meth c H locs 0 0 Q (F0 m 24 ls []) := by
  obtain ⟨⟨hx, hb, hml, hown, hts⟩, hK, -⟩ := id C0
  intro n_
  induction n_ with
  | zero =>
    intro x2 x3 x4 x5 H locs ls hP hD hS hl hF
    exact no_s (show (none : Option (Int32)) = some res from hF)
  | succ n_ ih =>
    intro x2 x3 x4 x5 H locs ls hP hD hS hl hF
    rw [L_X1_opensAll_24] at hF
    refine lv_iload hx hb dX1_opensAll_24 (lv_at hl 4 rfl) ?_
    refine lv_aload_n hx hb dX1_opensAll_26 rfl (lv_at hl 0 rfl) ?_
    refine va_get (D := D) (ci := 1) (v := .int t_parts) (C := RX1) (T := TX1) (N := 13) hx hb hts iw_X1_opensAll_X1 hown hK hP 0 rfl rfl 9 (by decide) (hts _ fl_X1_opensAll_55) (fun _ h9 => h9) rfl dX1_opensAll_27 ?_
    refine lv_icmp_ge (tgt := 88) hx hb dX1_opensAll_30 (by decide) (fun c_1 => ?_) (fun c_1 => ?_)
    · have hF := it_pos c_1 hF
      refine lv_iconst (v := 1) hx hb dX1_opensAll_88 (by decide) ?_
      obtain rfl := Option.some.inj hF
      exact HR 89 H locs ls dX1_opensAll_89 narrow_b1 hP hD hS
    · have hF := it_neg c_1 hF
      refine lv_aload_n hx hb dX1_opensAll_33 rfl (lv_at hl 0 rfl) ?_
      refine va_get (D := D) (ci := 1) (v := .ref (g_t 2)) (C := RX1) (T := TX1) (N := 13) hx hb hts iw_X1_opensAll_X1 hown hK hP 0 rfl rfl 1 (by decide) (hts _ fl_X1_opensAll_15) (fun _ h9 => h9) rfl dX1_opensAll_34 ?_
      refine lv_iload_n hx hb dX1_opensAll_37 rfl (lv_at hl 2 rfl) ?_
      refine lv_iload hx hb dX1_opensAll_38 (lv_at hl 4 rfl) ?_
      refine lv_iadd hx hb dX1_opensAll_40 ?_
      obtain ⟨hg_2, hF⟩ := gd_some hF
      refine xl_l (f := t_enough) hx hb hK hP 2 1 rfl rfl rfl (in_v hg_2) dX1_opensAll_41 ?_
      refine lv_aload_n hx hb dX1_opensAll_42 rfl (lv_at hl 0 rfl) ?_
      refine va_get (D := D) (ci := 1) (v := .ref (g_t 2)) (C := RX1) (T := TX1) (N := 13) hx hb hts iw_X1_opensAll_X1 hown hK hP 0 rfl rfl 1 (by decide) (hts _ fl_X1_opensAll_15) (fun _ h9 => h9) rfl dX1_opensAll_43 ?_
      refine lv_iload hx hb dX1_opensAll_46 (lv_at hl 3 rfl) ?_
      refine lv_iload hx hb dX1_opensAll_48 (lv_at hl 4 rfl) ?_
      refine lv_iadd hx hb dX1_opensAll_50 ?_
      obtain ⟨hg_3, hF⟩ := gd_some hF
      refine xl_l (f := t_enough) hx hb hK hP 2 1 rfl rfl rfl (in_v hg_3) dX1_opensAll_51 ?_
      refine lv_aload_n hx hb dX1_opensAll_52 rfl (lv_at hl 0 rfl) ?_
      refine va_get (D := D) (ci := 1) (v := .ref (g_t 1)) (C := RX1) (T := TX1) (N := 13) hx hb hts iw_X1_opensAll_X1 hown hK hP 0 rfl rfl 0 (by decide) (hts _ fl_X1_opensAll_11) (fun _ h9 => h9) rfl dX1_opensAll_53 ?_
      refine lv_iload_n hx hb dX1_opensAll_56 rfl (lv_at hl 1 rfl) ?_
      refine lv_iconst (v := 4) hx hb dX1_opensAll_57 (by decide) ?_
      refine lv_imul hx hb dX1_opensAll_58 ?_
      refine lv_iload hx hb dX1_opensAll_59 (lv_at hl 4 rfl) ?_
      refine lv_iadd hx hb dX1_opensAll_61 ?_
      obtain ⟨hg_4, hF⟩ := gd_some hF
      refine xl_l (f := t_open) hx hb hK hP 1 1 rfl rfl rfl (in_v hg_4) dX1_opensAll_62 ?_
      refine lv_land hx hb dX1_opensAll_63 ?_
      refine lv_lor hx hb dX1_opensAll_64 ?_
      refine lv_lstore (lv' := [(6, .long ((t_enough (x3 + x5).toNatClampNeg) ||| ((t_enough (x4 + x5).toNatClampNeg) &&& (t_open ((x2 * (4 : Int32)) + x5).toNatClampNeg)))), (0, .ref (g_t 0)), (2, .int x2), (3, .int x3), (4, .int x4), (5, .int x5)]) hx hb dX1_opensAll_65 hl (by decide) rfl (fun ls hl => ?_)
      refine lv_lload hx hb dX1_opensAll_67 (lv_at hl 0 rfl) ?_
      refine lv_aload_n hx hb dX1_opensAll_69 rfl (lv_at hl 1 rfl) ?_
      refine va_get (D := D) (ci := 1) (v := .ref (g_t 3)) (C := RX1) (T := TX1) (N := 13) hx hb hts iw_X1_opensAll_X1 hown hK hP 0 rfl rfl 2 (by decide) (hts _ fl_X1_opensAll_18) (fun _ h9 => h9) rfl dX1_opensAll_70 ?_
      refine lv_iload hx hb dX1_opensAll_73 (lv_at hl 5 rfl) ?_
      obtain ⟨hg_5, hF⟩ := gd_some hF
      refine xl_l (f := t_all) hx hb hK hP 3 1 rfl rfl rfl (in_v hg_5) dX1_opensAll_75 ?_
      refine W.lcmp hx hb dX1_opensAll_76 ?_
      refine lv_if_eq (tgt := 82) hx hb dX1_opensAll_77 (by decide) (fun c_6 => ?_) (fun c_6 => ?_)
      · have hF := it_pos c_6 hF
        refine lv_iinc (v := (x5 + (1 : Int32))) (lv' := [(5, .int (x5 + (1 : Int32))), (6, .long ((t_enough (x3 + x5).toNatClampNeg) ||| ((t_enough (x4 + x5).toNatClampNeg) &&& (t_open ((x2 * (4 : Int32)) + x5).toNatClampNeg)))), (0, .ref (g_t 0)), (2, .int x2), (3, .int x3), (4, .int x4)]) hx hb dX1_opensAll_82 hl (k := 5) rfl (congrArg (fun z => x5 + z) (by decide)) (by decide) rfl (fun ls hl => ?_)
        refine lv_goto (tgt := 24) hx hb dX1_opensAll_85 (by decide) ?_
        exact ih x2 x3 x4 (x5 + (1 : Int32)) H locs ls hP hD hS (lv_sub hl [2, 3, 4, 5, 0] rfl) hF
      · have hF := it_neg c_6 hF
        refine lv_iconst (v := 0) hx hb dX1_opensAll_80 (by decide) ?_
        obtain rfl := Option.some.inj hF
        exact HR 81 H locs ls dX1_opensAll_81 narrow_b0 hP hD hS
def F_X1_opensAll (t_needed : Int32) (t_parts : Int32) (t_open : Nat → Int64) (t_enough : Nat → Int64) (t_all : Nat → Int64) (x1 : Int32) (x2 : Int32) : Option (Int32) :=
  (F_X1_cellOf x1 t_needed).bind fun r_1 => ((F_X1_cellOf x1 (t_needed - (1 : Int32))).bind fun r_3 => (L_X1_opensAll_24 t_needed t_parts t_open t_enough t_all fu_ x2 r_1 r_3 (0 : Int32)))
set_option maxHeartbeats 4000000 in
set_option maxRecDepth 100000 in
theorem c_X1_opensAll (l : Launch) (D : va_G) (K : Nat → ClassId) (g_t : Nat → Nat) (t_size : Int32) (t_low : Int32) (t_width : Int32) (t_limit : Int32) (t_needed : Int32) (t_parts : Int32) (t_leastSum : Int32) (t_fitCount : Int32) (t_open : Nat → Int64) (t_enough : Nat → Int64) (t_all : Nat → Int64) (x1 : Int32) (x2 : Int32) (res : Int32) (hF : F_X1_opensAll t_needed t_parts t_open t_enough t_all x1 x2 = some res) :
    Mi_ l yX1_opensAll wsX1_opensAll rmX1_opensAll D K [.ref (g_t 0), .int x1, .int x2] (w_X1_opensAll K g_t t_size t_low t_width t_limit t_needed t_parts t_leastSum t_fitCount t_open t_enough t_all) (w_X1_opensAll K g_t t_size t_low t_width t_limit t_needed t_parts t_leastSum t_fitCount t_open t_enough t_all) (res) := by
  refine en_z (cc := cX1_opensAll) (maxL := 8) (own := RX1) (by decide) rfl rfl (Nat.le_of_ble_eq_true rfl) ?_
  intro p e s m args below meth c A Q H locs ls C0 hP hD hS hl HR
  obtain ⟨⟨hx, hb, hml, hown, hts⟩, hK, -⟩ := id C0
  have hl : lv_has ls 8 [(0, .ref (g_t 0)), (1, .int x1), (2, .int x2)] := hl
  unfold F_X1_opensAll at hF
  refine lv_iload_n hx hb dX1_opensAll_0 rfl (lv_at hl 1 rfl) ?_
  refine lv_aload_n hx hb dX1_opensAll_1 rfl (lv_at hl 0 rfl) ?_
  refine va_get (D := D) (ci := 1) (v := .int t_needed) (C := RX1) (T := TX1) (N := 13) hx hb hts iw_X1_opensAll_X1 hown hK hP 0 rfl rfl 8 (by decide) (hts _ fl_X1_opensAll_52) (fun _ h9 => h9) rfl dX1_opensAll_2 ?_
  obtain ⟨r_1, hc_2, hF⟩ := bn_some hF
  refine xc_i (wn := (w_X1_opensAll K g_t t_size t_low t_width t_limit t_needed t_parts t_leastSum t_fitCount t_open t_enough t_all)) hP hD hS C0.2.2.1 [] [0, 1, 2, 3] [0, 1, 2, 3] rfl rfl (by decide) (by decide) rfl (by decide) (va_runS (As := [.int x1, .int t_needed]) (rest := []) C0.1 (c_X1_cellOf l D K x1 t_needed r_1 hc_2 H.size) (va_cwS 2 hts gX1_opensAll_X1_cellOf rfl rfl rfl (by decide +kernel) ⟨Nat.le_of_ble_eq_true rfl, Nat.le_of_ble_eq_true rfl⟩) (xp_S C0.2 hP hD hS [] rfl (by decide)) rfl rfl hl.1 rfl (lv_room (Nat.le_of_ble_eq_true rfl)) dX1_opensAll_5 ⟨Nat.le_of_ble_eq_true rfl, Nat.le_of_ble_eq_true rfl⟩) (fun H locs hP hD hS => ?_)
  refine lv_istore_n (lv' := [(3, .int r_1), (0, .ref (g_t 0)), (1, .int x1), (2, .int x2)]) hx hb dX1_opensAll_8 rfl hl (by decide) rfl (fun ls hl => ?_)
  refine lv_iload_n hx hb dX1_opensAll_9 rfl (lv_at hl 2 rfl) ?_
  refine lv_aload_n hx hb dX1_opensAll_10 rfl (lv_at hl 1 rfl) ?_
  refine va_get (D := D) (ci := 1) (v := .int t_needed) (C := RX1) (T := TX1) (N := 13) hx hb hts iw_X1_opensAll_X1 hown hK hP 0 rfl rfl 8 (by decide) (hts _ fl_X1_opensAll_52) (fun _ h9 => h9) rfl dX1_opensAll_11 ?_
  refine lv_iconst (v := 1) hx hb dX1_opensAll_14 (by decide) ?_
  refine lv_isub hx hb dX1_opensAll_15 ?_
  obtain ⟨r_3, hc_4, hF⟩ := bn_some hF
  refine xc_i (wn := (w_X1_opensAll K g_t t_size t_low t_width t_limit t_needed t_parts t_leastSum t_fitCount t_open t_enough t_all)) hP hD hS C0.2.2.1 [] [0, 1, 2, 3] [0, 1, 2, 3] rfl rfl (by decide) (by decide) rfl (by decide) (va_runS (As := [.int x1, .int (t_needed - (1 : Int32))]) (rest := []) C0.1 (c_X1_cellOf l D K x1 (t_needed - (1 : Int32)) r_3 hc_4 H.size) (va_cwS 2 hts gX1_opensAll_X1_cellOf rfl rfl rfl (by decide +kernel) ⟨Nat.le_of_ble_eq_true rfl, Nat.le_of_ble_eq_true rfl⟩) (xp_S C0.2 hP hD hS [] rfl (by decide)) rfl rfl hl.1 rfl (lv_room (Nat.le_of_ble_eq_true rfl)) dX1_opensAll_16 ⟨Nat.le_of_ble_eq_true rfl, Nat.le_of_ble_eq_true rfl⟩) (fun H locs hP hD hS => ?_)
  refine lv_istore (lv' := [(4, .int r_3), (3, .int r_1), (0, .ref (g_t 0)), (1, .int x1), (2, .int x2)]) hx hb dX1_opensAll_19 hl (by decide) rfl (fun ls hl => ?_)
  refine lv_iconst (v := 0) hx hb dX1_opensAll_21 (by decide) ?_
  refine lv_istore (lv' := [(5, .int (0 : Int32)), (4, .int r_3), (3, .int r_1), (0, .ref (g_t 0)), (1, .int x1), (2, .int x2)]) hx hb dX1_opensAll_22 hl (by decide) rfl (fun ls hl => ?_)
  exact w_X1_opensAll_24 C0 HR fu_ x2 r_1 r_3 (0 : Int32) H locs ls hP hD hS (lv_sub hl [3, 5, 2, 1, 0] rfl) hF

/-! StaggerRadar.Chooser.keepFit(I)V -/
abbrev rmX1_keepFit : Room := { frames := 1, cells := 0, slots := 0, locals := 60 }
theorem fl_X1_keepFit_21 : Cond.fieldLink RX1 21 "StaggerRadar$Chooser" "chosen" "[I" ∈ wsX1_keepFit := by decide +kernel
theorem fl_X1_keepFit_25 : Cond.fieldLink RX1 25 "StaggerRadar$Chooser" "best" "[I" ∈ wsX1_keepFit := by decide +kernel
theorem fl_X1_keepFit_58 : Cond.fieldLink RX1 58 "StaggerRadar$Chooser" "fitCount" "I" ∈ wsX1_keepFit := by decide +kernel
theorem fl_X1_keepFit_64 : Cond.fieldLink RX1 64 "StaggerRadar$Chooser" "leastSum" "I" ∈ wsX1_keepFit := by decide +kernel
theorem iw_X1_keepFit_X1 : ∀ w ∈ u_ws RX1 TX1 13, w ∈ wsX1_keepFit := by decide +kernel
abbrev w_X1_keepFit (K : Nat → ClassId) (g_t : Nat → Nat) (t_size : Int32) (t_low : Int32) (t_width : Int32) (t_limit : Int32) (t_needed : Int32) (t_parts : Int32) (t_leastSum : Int32) (t_fitCount : Int32) (t_chosen : Nat → Int32) (t_best : Nat → Int32) : va_W := [((g_t 0), .inr (1, [.ref (g_t 1), .ref (g_t 2), .ref (g_t 3), .ref (g_t 4), .int t_size, .int t_low, .int t_width, .int t_limit, .int t_needed, .int t_parts, .ref (g_t 11), .int t_leastSum, .int t_fitCount])), ((g_t 4), .inl (K 0, 4, .inl t_chosen)), ((g_t 11), .inl (K 0, 4, .inl t_best))]
def F_X1_keepFit (t_leastSum : Int32) (t_fitCount : Int32) (t_chosen : Nat → Int32) (t_best : Nat → Int32) (x1 : Int32) : Option (Int32 × Int32 × (Nat → Int32)) :=
  if t_leastSum ≤ x1 then (some (t_leastSum, (t_fitCount + (1 : Int32)), t_best)) else (some (x1, (t_fitCount + (1 : Int32)), (va_cpy t_chosen t_best 0 0 4)))
set_option maxHeartbeats 4000000 in
set_option maxRecDepth 100000 in
theorem c_X1_keepFit (l : Launch) (D : va_G) (K : Nat → ClassId) (g_t : Nat → Nat) (t_size : Int32) (t_low : Int32) (t_width : Int32) (t_limit : Int32) (t_needed : Int32) (t_parts : Int32) (t_leastSum : Int32) (t_fitCount : Int32) (t_chosen : Nat → Int32) (t_best : Nat → Int32) (x1 : Int32) (res : Int32 × Int32 × (Nat → Int32)) (hF : F_X1_keepFit t_leastSum t_fitCount t_chosen t_best x1 = some res) :
    Mv_ l yX1_keepFit wsX1_keepFit rmX1_keepFit D K [.ref (g_t 0), .int x1] (w_X1_keepFit K g_t t_size t_low t_width t_limit t_needed t_parts t_leastSum t_fitCount t_chosen t_best) (w_X1_keepFit K g_t t_size t_low t_width t_limit t_needed t_parts res.1 res.2.1 t_chosen res.2.2) := by
  refine en_v (cc := cX1_keepFit) (maxL := 2) (own := RX1) (by decide) rfl rfl (Nat.le_of_ble_eq_true rfl) ?_
  intro p e s m args below meth c A Q H locs ls C0 hP hD hS hl HR
  obtain ⟨⟨hx, hb, hml, hown, hts⟩, hK, -⟩ := id C0
  have hl : lv_has ls 2 [(0, .ref (g_t 0)), (1, .int x1)] := hl
  unfold F_X1_keepFit at hF
  refine lv_aload_n hx hb dX1_keepFit_0 rfl (lv_at hl 0 rfl) ?_
  refine lv_dup hx hb dX1_keepFit_1 rfl ?_
  refine va_get (D := D) (ci := 1) (v := .int t_fitCount) (C := RX1) (T := TX1) (N := 13) hx hb hts iw_X1_keepFit_X1 hown hK hP 0 rfl rfl 12 (by decide) (hts _ fl_X1_keepFit_58) (fun _ h9 => h9) rfl dX1_keepFit_2 ?_
  refine lv_iconst (v := 1) hx hb dX1_keepFit_5 (by decide) ?_
  refine lv_iadd hx hb dX1_keepFit_6 ?_
  refine va_put (D := D) (ci := 1) (v := .int (t_fitCount + (1 : Int32))) (ty := .int) (C := RX1) (T := TX1) (N := 13) hx hb hts iw_X1_keepFit_X1 tyX1 tyX1_ok nmX1 hown hK hP hD hS 0 rfl rfl 12 (by decide) (hts _ fl_X1_keepFit_58) (fun _ h9 => h9) rfl (by decide +kernel) rfl rfl (Nat.le_of_ble_eq_true rfl) dX1_keepFit_7 (fun H locs hP hD hS => ?_)
  have hP : va_P D vwCl (w_X1_keepFit K g_t t_size t_low t_width t_limit t_needed t_parts t_leastSum (t_fitCount + (1 : Int32)) t_chosen t_best) H := hP
  have hD : va_D A (w_X1_keepFit K g_t t_size t_low t_width t_limit t_needed t_parts t_leastSum (t_fitCount + (1 : Int32)) t_chosen t_best) := hD
  refine lv_iload_n hx hb dX1_keepFit_10 rfl (lv_at hl 1 rfl) ?_
  refine lv_aload_n hx hb dX1_keepFit_11 rfl (lv_at hl 0 rfl) ?_
  refine va_get (D := D) (ci := 1) (v := .int t_leastSum) (C := RX1) (T := TX1) (N := 13) hx hb hts iw_X1_keepFit_X1 hown hK hP 0 rfl rfl 11 (by decide) (hts _ fl_X1_keepFit_64) (fun _ h9 => h9) rfl dX1_keepFit_12 ?_
  refine lv_icmp_ge (tgt := 37) hx hb dX1_keepFit_15 (by decide) (fun c_1 => ?_) (fun c_1 => ?_)
  · have hF := it_pos c_1 hF
    obtain rfl := Option.some.inj hF
    exact HR 37 H locs ls dX1_keepFit_37 hP hD hS
  · have hF := it_neg c_1 hF
    refine lv_aload_n hx hb dX1_keepFit_18 rfl (lv_at hl 0 rfl) ?_
    refine lv_iload_n hx hb dX1_keepFit_19 rfl (lv_at hl 1 rfl) ?_
    refine va_put (D := D) (ci := 1) (v := .int x1) (ty := .int) (C := RX1) (T := TX1) (N := 13) hx hb hts iw_X1_keepFit_X1 tyX1 tyX1_ok nmX1 hown hK hP hD hS 0 rfl rfl 11 (by decide) (hts _ fl_X1_keepFit_64) (fun _ h9 => h9) rfl (by decide +kernel) rfl rfl (Nat.le_of_ble_eq_true rfl) dX1_keepFit_20 (fun H locs hP hD hS => ?_)
    have hP : va_P D vwCl (w_X1_keepFit K g_t t_size t_low t_width t_limit t_needed t_parts x1 (t_fitCount + (1 : Int32)) t_chosen t_best) H := hP
    have hD : va_D A (w_X1_keepFit K g_t t_size t_low t_width t_limit t_needed t_parts x1 (t_fitCount + (1 : Int32)) t_chosen t_best) := hD
    refine lv_aload_n hx hb dX1_keepFit_23 rfl (lv_at hl 0 rfl) ?_
    refine va_get (D := D) (ci := 1) (v := .ref (g_t 4)) (C := RX1) (T := TX1) (N := 13) hx hb hts iw_X1_keepFit_X1 hown hK hP 0 rfl rfl 3 (by decide) (hts _ fl_X1_keepFit_21) (fun _ h9 => h9) rfl dX1_keepFit_24 ?_
    refine lv_iconst (v := 0) hx hb dX1_keepFit_27 (by decide) ?_
    refine lv_aload_n hx hb dX1_keepFit_28 rfl (lv_at hl 0 rfl) ?_
    refine va_get (D := D) (ci := 1) (v := .ref (g_t 11)) (C := RX1) (T := TX1) (N := 13) hx hb hts iw_X1_keepFit_X1 hown hK hP 0 rfl rfl 10 (by decide) (hts _ fl_X1_keepFit_25) (fun _ h9 => h9) rfl dX1_keepFit_29 ?_
    refine lv_iconst (v := 0) hx hb dX1_keepFit_32 (by decide) ?_
    refine lv_iconst (v := 4) hx hb dX1_keepFit_33 (by decide) ?_
    refine xy_i (f := t_chosen) (g := t_best) hx hb (hml.trans hl.1.symm) hown (hts (.methodLink RX1 80 arraycopyName) (by decide +kernel)) (hts (.native arraycopyName) (by decide +kernel)) (hts (.static arraycopyName) (by decide +kernel)) (hts (.initialized "java/lang/System") (by decide +kernel)) hK hP hD hS 1 2 0 0 rfl rfl rfl rfl (by decide) (by decide) (by decide) (k1 := 0) (k2 := 0) (k3 := 4) (by decide) (by decide) (by decide) (Nat.le_of_ble_eq_true rfl) (Nat.le_of_ble_eq_true rfl) (Nat.le_of_ble_eq_true rfl) (Nat.le_of_ble_eq_true rfl) dX1_keepFit_34 (fun H locs hP hD hS => ?_)
    have hP : va_P D vwCl (w_X1_keepFit K g_t t_size t_low t_width t_limit t_needed t_parts x1 (t_fitCount + (1 : Int32)) t_chosen (va_cpy t_chosen t_best 0 0 4)) H := hP
    have hD : va_D A (w_X1_keepFit K g_t t_size t_low t_width t_limit t_needed t_parts x1 (t_fitCount + (1 : Int32)) t_chosen (va_cpy t_chosen t_best 0 0 4)) := hD
    obtain rfl := Option.some.inj hF
    exact HR 37 H locs ls dX1_keepFit_37 hP hD hS

/-! StaggerRadar.commonDivisor(II)I -/
abbrev rmX10_commonDivisor : Room := { frames := 0, cells := 0, slots := 0, locals := 0 }
abbrev w_X10_commonDivisor (K : Nat → ClassId) : va_W := []
def L_X10_commonDivisor_7  : Nat → Int32 → Int32 → Int32 → Option (Int32)
  | 0, _, _, _ => none
  | n_ + 1, x2, x3, x4 =>
    if (64 : Int32) ≤ x4 then (some x2) else (if x3 ≤ (0 : Int32) then (some x2) else (gd_ (decide (¬ x3 = 0)) (L_X10_commonDivisor_7 n_ x3 (x2 - x2 / x3 * x3) (x4 + (1 : Int32)))))
set_option maxHeartbeats 4000000 in
set_option maxRecDepth 100000 in
theorem w_X10_commonDivisor_7 {p : Program} {l : Launch} {e : Env} {s : State} {m : MethodId} {args : Array Value} {below : List Frame} {meth : Method} {c : Code} {D : va_G} {K : Nat → ClassId} {A : Nat → Prop} {Q : State → Prop} (C0 : cx_ p s m args c cX10_commonDivisor 6 RX10 wsX10_commonDivisor D K A)   {res : Int32} (HR : ∀ (pc : Nat) (H : Heap) (locs : List Loc) (ls : Array Slot), decode cX10_commonDivisor pc = .ok (.ireturn, 1) → va_P D vwCl (w_X10_commonDivisor K) H → va_D A (w_X10_commonDivisor K) → va_S A s.heap H locs → W p l e rmX10_commonDivisor s m args below meth c H locs 0 0 Q (F0 m pc ls [.int res]))  :
    ∀ (n_ : Nat) (x2 : Int32) (x3 : Int32) (x4 : Int32) (H : Heap) (locs : List Loc) (ls : Array Slot), va_P D vwCl (w_X10_commonDivisor K) H → va_D A (w_X10_commonDivisor K) → va_S A s.heap H locs → lv_has ls 6 [(2, .int x2), (3, .int x3), (4, .int x4)] → L_X10_commonDivisor_7 n_ x2 x3 x4 = some res → W p l e rmX10_commonDivisor s m args below meth c H locs 0 0 Q (F0 m 7 ls []) := by
  obtain ⟨⟨hx, hb, hml, hown, hts⟩, hK, -⟩ := id C0
  intro n_
  induction n_ with
  | zero =>
    intro x2 x3 x4 H locs ls hP hD hS hl hF
    exact no_s (show (none : Option (Int32)) = some res from hF)
  | succ n_ ih =>
    intro x2 x3 x4 H locs ls hP hD hS hl hF
    rw [L_X10_commonDivisor_7] at hF
    refine lv_iload hx hb dX10_commonDivisor_7 (lv_at hl 2 rfl) ?_
    refine lv_bipush (v := 64) hx hb dX10_commonDivisor_9 (by decide) ?_
    refine lv_icmp_ge (tgt := 34) hx hb dX10_commonDivisor_11 (by decide) (fun c_1 => ?_) (fun c_1 => ?_)
    · have hF := it_pos c_1 hF
      refine lv_iload_n hx hb dX10_commonDivisor_34 rfl (lv_at hl 0 rfl) ?_
      obtain rfl := Option.some.inj hF
      exact HR 35 H locs ls dX10_commonDivisor_35 hP hD hS
    · have hF := it_neg c_1 hF
      refine lv_iload_n hx hb dX10_commonDivisor_14 rfl (lv_at hl 1 rfl) ?_
      refine lv_if_le (tgt := 34) hx hb dX10_commonDivisor_15 (by decide) (fun c_2 => ?_) (fun c_2 => ?_)
      · have hF := it_pos c_2 hF
        refine lv_iload_n hx hb dX10_commonDivisor_34 rfl (lv_at hl 0 rfl) ?_
        obtain rfl := Option.some.inj hF
        exact HR 35 H locs ls dX10_commonDivisor_35 hP hD hS
      · have hF := it_neg c_2 hF
        refine lv_iload_n hx hb dX10_commonDivisor_18 rfl (lv_at hl 0 rfl) ?_
        refine lv_iload_n hx hb dX10_commonDivisor_19 rfl (lv_at hl 1 rfl) ?_
        obtain ⟨hg_3, hF⟩ := gd_some hF
        refine lv_irem hx hb dX10_commonDivisor_20 (ne_of hg_3) ?_
        refine lv_istore (lv' := [(5, .int (x2 - x2 / x3 * x3)), (2, .int x2), (3, .int x3), (4, .int x4)]) hx hb dX10_commonDivisor_21 hl (by decide) rfl (fun ls hl => ?_)
        refine lv_iload_n hx hb dX10_commonDivisor_23 rfl (lv_at hl 2 rfl) ?_
        refine lv_istore_n (lv' := [(2, .int x3), (5, .int (x2 - x2 / x3 * x3)), (3, .int x3), (4, .int x4)]) hx hb dX10_commonDivisor_24 rfl hl (by decide) rfl (fun ls hl => ?_)
        refine lv_iload hx hb dX10_commonDivisor_25 (lv_at hl 1 rfl) ?_
        refine lv_istore_n (lv' := [(3, .int (x2 - x2 / x3 * x3)), (2, .int x3), (5, .int (x2 - x2 / x3 * x3)), (4, .int x4)]) hx hb dX10_commonDivisor_27 rfl hl (by decide) rfl (fun ls hl => ?_)
        refine lv_iinc (v := (x4 + (1 : Int32))) (lv' := [(4, .int (x4 + (1 : Int32))), (3, .int (x2 - x2 / x3 * x3)), (2, .int x3), (5, .int (x2 - x2 / x3 * x3))]) hx hb dX10_commonDivisor_28 hl (k := 3) rfl (congrArg (fun z => x4 + z) (by decide)) (by decide) rfl (fun ls hl => ?_)
        refine lv_goto (tgt := 7) hx hb dX10_commonDivisor_31 (by decide) ?_
        exact ih x3 (x2 - x2 / x3 * x3) (x4 + (1 : Int32)) H locs ls hP hD hS (lv_sub hl [2, 1, 0] rfl) hF
def F_X10_commonDivisor (x0 : Int32) (x1 : Int32) : Option (Int32) :=
  L_X10_commonDivisor_7 fu_ x0 x1 (0 : Int32)
set_option maxHeartbeats 4000000 in
set_option maxRecDepth 100000 in
theorem c_X10_commonDivisor (l : Launch) (D : va_G) (K : Nat → ClassId) (x0 : Int32) (x1 : Int32) (res : Int32) (hF : F_X10_commonDivisor x0 x1 = some res) :
    Mi_ l yX10_commonDivisor wsX10_commonDivisor rmX10_commonDivisor D K [.int x0, .int x1] (w_X10_commonDivisor K) (w_X10_commonDivisor K) (res) := by
  refine en_i (cc := cX10_commonDivisor) (maxL := 6) (own := RX10) (by decide) rfl rfl (Nat.le_of_ble_eq_true rfl) ?_
  intro p e s m args below meth c A Q H locs ls C0 hP hD hS hl HR
  obtain ⟨⟨hx, hb, hml, hown, hts⟩, hK, -⟩ := id C0
  have hl : lv_has ls 6 [(0, .int x0), (1, .int x1)] := hl
  unfold F_X10_commonDivisor at hF
  refine lv_iload_n hx hb dX10_commonDivisor_0 rfl (lv_at hl 0 rfl) ?_
  refine lv_istore_n (lv' := [(2, .int x0), (0, .int x0), (1, .int x1)]) hx hb dX10_commonDivisor_1 rfl hl (by decide) rfl (fun ls hl => ?_)
  refine lv_iload_n hx hb dX10_commonDivisor_2 rfl (lv_at hl 2 rfl) ?_
  refine lv_istore_n (lv' := [(3, .int x1), (2, .int x0), (0, .int x0), (1, .int x1)]) hx hb dX10_commonDivisor_3 rfl hl (by decide) rfl (fun ls hl => ?_)
  refine lv_iconst (v := 0) hx hb dX10_commonDivisor_4 (by decide) ?_
  refine lv_istore (lv' := [(4, .int (0 : Int32)), (3, .int x1), (2, .int x0), (0, .int x0), (1, .int x1)]) hx hb dX10_commonDivisor_5 hl (by decide) rfl (fun ls hl => ?_)
  exact w_X10_commonDivisor_7 C0 HR fu_ x0 x1 (0 : Int32) H locs ls hP hD hS (lv_sub hl [2, 1, 0] rfl) hF

/-! StaggerRadar.leastCommon(II)I -/
abbrev rmX10_leastCommon : Room := { frames := 1, cells := 0, slots := 0, locals := 25 }
abbrev w_X10_leastCommon (K : Nat → ClassId) : va_W := []
def F_X10_leastCommon (x0 : Int32) (x1 : Int32) : Option (Int32) :=
  (F_X10_commonDivisor x0 x1).bind fun r_1 => (if r_1 ≤ (0 : Int32) then (some (0 : Int32)) else (gd_ (decide (¬ r_1 = 0)) (some ((x0 / r_1) * x1))))
set_option maxHeartbeats 4000000 in
set_option maxRecDepth 100000 in
theorem c_X10_leastCommon (l : Launch) (D : va_G) (K : Nat → ClassId) (x0 : Int32) (x1 : Int32) (res : Int32) (hF : F_X10_leastCommon x0 x1 = some res) :
    Mi_ l yX10_leastCommon wsX10_leastCommon rmX10_leastCommon D K [.int x0, .int x1] (w_X10_leastCommon K) (w_X10_leastCommon K) (res) := by
  refine en_i (cc := cX10_leastCommon) (maxL := 3) (own := RX10) (by decide) rfl rfl (Nat.le_of_ble_eq_true rfl) ?_
  intro p e s m args below meth c A Q H locs ls C0 hP hD hS hl HR
  obtain ⟨⟨hx, hb, hml, hown, hts⟩, hK, -⟩ := id C0
  have hl : lv_has ls 3 [(0, .int x0), (1, .int x1)] := hl
  unfold F_X10_leastCommon at hF
  refine lv_iload_n hx hb dX10_leastCommon_0 rfl (lv_at hl 0 rfl) ?_
  refine lv_iload_n hx hb dX10_leastCommon_1 rfl (lv_at hl 1 rfl) ?_
  obtain ⟨r_1, hc_2, hF⟩ := bn_some hF
  refine xc_i (wn := (w_X10_leastCommon K)) hP hD hS C0.2.2.1 [] [] [] rfl rfl (by decide) (by decide) rfl (by decide) (va_runS (As := [.int x0, .int x1]) (rest := []) C0.1 (c_X10_commonDivisor l D K x0 x1 r_1 hc_2 H.size) (va_cwS 2 hts gX10_leastCommon_X10_commonDivisor rfl rfl rfl (by decide +kernel) ⟨Nat.le_of_ble_eq_true rfl, Nat.le_of_ble_eq_true rfl⟩) (xp_S C0.2 hP hD hS [] rfl (by decide)) rfl rfl hl.1 rfl (lv_room (Nat.le_of_ble_eq_true rfl)) dX10_leastCommon_2 ⟨Nat.le_of_ble_eq_true rfl, Nat.le_of_ble_eq_true rfl⟩) (fun H locs hP hD hS => ?_)
  refine lv_istore_n (lv' := [(2, .int r_1), (0, .int x0), (1, .int x1)]) hx hb dX10_leastCommon_5 rfl hl (by decide) rfl (fun ls hl => ?_)
  refine lv_iload_n hx hb dX10_leastCommon_6 rfl (lv_at hl 0 rfl) ?_
  refine lv_if_le (tgt := 18) hx hb dX10_leastCommon_7 (by decide) (fun c_3 => ?_) (fun c_3 => ?_)
  · have hF := it_pos c_3 hF
    refine lv_iconst (v := 0) hx hb dX10_leastCommon_18 (by decide) ?_
    obtain rfl := Option.some.inj hF
    exact HR 19 H locs ls dX10_leastCommon_19 hP hD hS
  · have hF := it_neg c_3 hF
    refine lv_iload_n hx hb dX10_leastCommon_10 rfl (lv_at hl 1 rfl) ?_
    refine lv_iload_n hx hb dX10_leastCommon_11 rfl (lv_at hl 0 rfl) ?_
    obtain ⟨hg_4, hF⟩ := gd_some hF
    refine lv_idiv hx hb dX10_leastCommon_12 (ne_of hg_4) ?_
    refine lv_iload_n hx hb dX10_leastCommon_13 rfl (lv_at hl 2 rfl) ?_
    refine lv_imul hx hb dX10_leastCommon_14 ?_
    refine lv_goto (tgt := 19) hx hb dX10_leastCommon_15 (by decide) ?_
    obtain rfl := Option.some.inj hF
    exact HR 19 H locs ls dX10_leastCommon_19 hP hD hS

/-! StaggerRadar.Chooser.descend(IIII)V -/
abbrev rmX1_descend_k1 : Room := { frames := 2, cells := 0, slots := 0, locals := 81 }
theorem fl_X1_descend_k1_21 : Cond.fieldLink RX1 21 "StaggerRadar$Chooser" "chosen" "[I" ∈ wsX1_descend := by decide +kernel
theorem fl_X1_descend_k1_28 : Cond.fieldLink RX1 28 "StaggerRadar$Chooser" "size" "I" ∈ wsX1_descend := by decide +kernel
theorem fl_X1_descend_k1_32 : Cond.fieldLink RX1 32 "StaggerRadar$Chooser" "low" "I" ∈ wsX1_descend := by decide +kernel
theorem fl_X1_descend_k1_41 : Cond.fieldLink RX1 41 "StaggerRadar$Chooser" "width" "I" ∈ wsX1_descend := by decide +kernel
theorem fl_X1_descend_k1_49 : Cond.fieldLink RX1 49 "StaggerRadar$Chooser" "limit" "I" ∈ wsX1_descend := by decide +kernel
theorem iw_X1_descend_k1_X1 : ∀ w ∈ u_ws RX1 TX1 13, w ∈ wsX1_descend := by decide +kernel
abbrev w_X1_descend_k1 (K : Nat → ClassId) (g_t : Nat → Nat) (t_size : Int32) (t_low : Int32) (t_width : Int32) (t_limit : Int32) (t_needed : Int32) (t_parts : Int32) (t_leastSum : Int32) (t_fitCount : Int32) (t_open : Nat → Int64) (t_enough : Nat → Int64) (t_all : Nat → Int64) (t_chosen : Nat → Int32) (t_best : Nat → Int32) : va_W := [((g_t 0), .inr (1, [.ref (g_t 1), .ref (g_t 2), .ref (g_t 3), .ref (g_t 4), .int t_size, .int t_low, .int t_width, .int t_limit, .int t_needed, .int t_parts, .ref (g_t 11), .int t_leastSum, .int t_fitCount])), ((g_t 1), .inl (K 1, 84, .inr (.inl t_open))), ((g_t 2), .inl (K 1, 80, .inr (.inl t_enough))), ((g_t 3), .inl (K 1, 4, .inr (.inl t_all))), ((g_t 4), .inl (K 0, 4, .inl t_chosen)), ((g_t 11), .inl (K 0, 4, .inl t_best))]
def J_X1_descend_k1_53 (t_size : Int32) (t_low : Int32) (t_width : Int32) (t_limit : Int32) (t_needed : Int32) (t_parts : Int32) (t_open : Nat → Int64) (t_all : Nat → Int64) (k_17 : Int32 → Int32 → (Nat → Int64) → (Nat → Int32) → (Nat → Int32) → Int32 → Int32 → Int32 → Int32 → Option (Int32 × Int32 × (Nat → Int64) × (Nat → Int32) × (Nat → Int32))) (t_leastSum : Int32) (t_fitCount : Int32) (t_enough : Nat → Int64) (t_chosen : Nat → Int32) (t_best : Nat → Int32) (x1 : Int32) (x3 : Int32) (x4 : Int32) (x5 : Int32) (x6 : Int32) (s0 : Int32) : Option (Int32 × Int32 × (Nat → Int64) × (Nat → Int32) × (Nat → Int32)) :=
  gd_ (in_b x1 4) (if t_size ≤ (x1 + (1 : Int32)) then (if s0 < t_limit then (k_17 t_leastSum t_fitCount t_enough (upd t_chosen (x1).toNatClampNeg x6) t_best x1 x3 x4 (x5 + (1 : Int32))) else ((F_X1_opensAll t_needed t_parts t_open t_enough t_all x1 x5).bind fun r_4 => (if r_4 = (0 : Int32) then (k_17 t_leastSum t_fitCount t_enough (upd t_chosen (x1).toNatClampNeg x6) t_best x1 x3 x4 (x5 + (1 : Int32))) else ((F_X1_keepFit t_leastSum t_fitCount (upd t_chosen (x1).toNatClampNeg x6) t_best (x4 + x6)).bind fun r_7 => (k_17 r_7.1 r_7.2.1 t_enough (upd t_chosen (x1).toNatClampNeg x6) r_7.2.2 x1 x3 x4 (x5 + (1 : Int32))))))) else ((F_X1_addChoice t_needed t_parts t_open t_enough x1 x5).bind fun r_9 => ((F_X1_descend_k0 t_size t_low t_width t_limit t_needed t_parts t_leastSum t_fitCount t_open r_9 t_all (upd t_chosen (x1).toNatClampNeg x6) t_best (x1 + (1 : Int32)) (x5 + (1 : Int32)) s0 (x4 + x6)).bind fun r_11 => (k_17 r_11.1 r_11.2.1 r_11.2.2.1 r_11.2.2.2.1 r_11.2.2.2.2 x1 x3 x4 (x5 + (1 : Int32))))))
set_option maxHeartbeats 4000000 in
set_option maxRecDepth 100000 in
theorem w_X1_descend_k1_53 {p : Program} {l : Launch} {e : Env} {s : State} {m : MethodId} {args : Array Value} {below : List Frame} {meth : Method} {c : Code} {D : va_G} {K : Nat → ClassId} {A : Nat → Prop} {Q : State → Prop} (C0 : cx_ p s m args c cX1_descend 8 RX1 wsX1_descend D K A) {g_t : Nat → Nat} {t_size : Int32} {t_low : Int32} {t_width : Int32} {t_limit : Int32} {t_needed : Int32} {t_parts : Int32} {t_open : Nat → Int64} {t_all : Nat → Int64} {res : Int32 × Int32 × (Nat → Int64) × (Nat → Int32) × (Nat → Int32)} (HR : ∀ (pc : Nat) (H : Heap) (locs : List Loc) (ls : Array Slot), decode cX1_descend pc = .ok (.return_, 1) → va_P D vwCl (w_X1_descend_k1 K g_t t_size t_low t_width t_limit t_needed t_parts res.1 res.2.1 t_open res.2.2.1 t_all res.2.2.2.1 res.2.2.2.2) H → va_D A (w_X1_descend_k1 K g_t t_size t_low t_width t_limit t_needed t_parts res.1 res.2.1 t_open res.2.2.1 t_all res.2.2.2.1 res.2.2.2.2) → va_S A s.heap H locs → W p l e rmX1_descend_k1 s m args below meth c H locs 0 0 Q (F0 m pc ls [])) {k_17 : Int32 → Int32 → (Nat → Int64) → (Nat → Int32) → (Nat → Int32) → Int32 → Int32 → Int32 → Int32 → Option (Int32 × Int32 × (Nat → Int64) × (Nat → Int32) × (Nat → Int32))} (HK_17 : ∀ (t_leastSum : Int32) (t_fitCount : Int32) (t_enough : Nat → Int64) (t_chosen : Nat → Int32) (t_best : Nat → Int32) (x1 : Int32) (x3 : Int32) (x4 : Int32) (x5 : Int32) (H : Heap) (locs : List Loc) (ls : Array Slot), va_P D vwCl (w_X1_descend_k1 K g_t t_size t_low t_width t_limit t_needed t_parts t_leastSum t_fitCount t_open t_enough t_all t_chosen t_best) H → va_D A (w_X1_descend_k1 K g_t t_size t_low t_width t_limit t_needed t_parts t_leastSum t_fitCount t_open t_enough t_all t_chosen t_best) → va_S A s.heap H locs → lv_has ls 8 [(0, .ref (g_t 0)), (1, .int x1), (3, .int x3), (4, .int x4), (5, .int x5)] → k_17 t_leastSum t_fitCount t_enough t_chosen t_best x1 x3 x4 x5 = some res → W p l e rmX1_descend_k1 s m args below meth c H locs 0 0 Q (F0 m 17 ls [])) :
    ∀ (t_leastSum : Int32) (t_fitCount : Int32) (t_enough : Nat → Int64) (t_chosen : Nat → Int32) (t_best : Nat → Int32) (x1 : Int32) (x3 : Int32) (x4 : Int32) (x5 : Int32) (x6 : Int32) (s0 : Int32) (H : Heap) (locs : List Loc) (ls : Array Slot), va_P D vwCl (w_X1_descend_k1 K g_t t_size t_low t_width t_limit t_needed t_parts t_leastSum t_fitCount t_open t_enough t_all t_chosen t_best) H → va_D A (w_X1_descend_k1 K g_t t_size t_low t_width t_limit t_needed t_parts t_leastSum t_fitCount t_open t_enough t_all t_chosen t_best) → va_S A s.heap H locs → lv_has ls 8 [(0, .ref (g_t 0)), (1, .int x1), (3, .int x3), (4, .int x4), (5, .int x5), (6, .int x6)] → J_X1_descend_k1_53 t_size t_low t_width t_limit t_needed t_parts t_open t_all k_17 t_leastSum t_fitCount t_enough t_chosen t_best x1 x3 x4 x5 x6 s0 = some res → W p l e rmX1_descend_k1 s m args below meth c H locs 0 0 Q (F0 m 53 ls [.int s0]) := by
  obtain ⟨⟨hx, hb, hml, hown, hts⟩, hK, -⟩ := id C0
  intro t_leastSum t_fitCount t_enough t_chosen t_best x1 x3 x4 x5 x6 s0 H locs ls hP hD hS hl hF
  unfold J_X1_descend_k1_53 at hF
  refine lv_istore (lv' := [(7, .int s0), (0, .ref (g_t 0)), (1, .int x1), (3, .int x3), (4, .int x4), (5, .int x5), (6, .int x6)]) hx hb dX1_descend_53 hl (by decide) rfl (fun ls hl => ?_)
  refine lv_aload_n hx hb dX1_descend_55 rfl (lv_at hl 1 rfl) ?_
  refine va_get (D := D) (ci := 1) (v := .ref (g_t 4)) (C := RX1) (T := TX1) (N := 13) hx hb hts iw_X1_descend_k1_X1 hown hK hP 0 rfl rfl 3 (by decide) (hts _ fl_X1_descend_k1_21) (fun _ h9 => h9) rfl dX1_descend_56 ?_
  refine lv_iload_n hx hb dX1_descend_59 rfl (lv_at hl 2 rfl) ?_
  refine lv_iload hx hb dX1_descend_60 (lv_at hl 6 rfl) ?_
  obtain ⟨hg_1, hF⟩ := gd_some hF
  refine xs_i (f := t_chosen) hx hb hK hP hD hS 4 0 rfl rfl rfl (in_v hg_1) dX1_descend_62 (fun H locs hP hD hS => ?_)
  have hP : va_P D vwCl (w_X1_descend_k1 K g_t t_size t_low t_width t_limit t_needed t_parts t_leastSum t_fitCount t_open t_enough t_all (upd t_chosen (x1).toNatClampNeg x6) t_best) H := hP
  have hD : va_D A (w_X1_descend_k1 K g_t t_size t_low t_width t_limit t_needed t_parts t_leastSum t_fitCount t_open t_enough t_all (upd t_chosen (x1).toNatClampNeg x6) t_best) := hD
  refine lv_iload_n hx hb dX1_descend_63 rfl (lv_at hl 2 rfl) ?_
  refine lv_iconst (v := 1) hx hb dX1_descend_64 (by decide) ?_
  refine lv_iadd hx hb dX1_descend_65 ?_
  refine lv_aload_n hx hb dX1_descend_66 rfl (lv_at hl 1 rfl) ?_
  refine va_get (D := D) (ci := 1) (v := .int t_size) (C := RX1) (T := TX1) (N := 13) hx hb hts iw_X1_descend_k1_X1 hown hK hP 0 rfl rfl 4 (by decide) (hts _ fl_X1_descend_k1_28) (fun _ h9 => h9) rfl dX1_descend_67 ?_
  refine lv_icmp_ge (tgt := 101) hx hb dX1_descend_70 (by decide) (fun c_2 => ?_) (fun c_2 => ?_)
  · have hF := it_pos c_2 hF
    refine lv_iload hx hb dX1_descend_101 (lv_at hl 0 rfl) ?_
    refine lv_aload_n hx hb dX1_descend_103 rfl (lv_at hl 1 rfl) ?_
    refine va_get (D := D) (ci := 1) (v := .int t_limit) (C := RX1) (T := TX1) (N := 13) hx hb hts iw_X1_descend_k1_X1 hown hK hP 0 rfl rfl 7 (by decide) (hts _ fl_X1_descend_k1_49) (fun _ h9 => h9) rfl dX1_descend_104 ?_
    refine lv_icmp_lt (tgt := 129) hx hb dX1_descend_107 (by decide) (fun c_3 => ?_) (fun c_3 => ?_)
    · have hF := it_pos c_3 hF
      refine lv_iinc (v := (x5 + (1 : Int32))) (lv' := [(5, .int (x5 + (1 : Int32))), (7, .int s0), (0, .ref (g_t 0)), (1, .int x1), (3, .int x3), (4, .int x4), (6, .int x6)]) hx hb dX1_descend_129 hl (k := 5) rfl (congrArg (fun z => x5 + z) (by decide)) (by decide) rfl (fun ls hl => ?_)
      refine lv_goto (tgt := 17) hx hb dX1_descend_132 (by decide) ?_
      exact HK_17 t_leastSum t_fitCount t_enough (upd t_chosen (x1).toNatClampNeg x6) t_best x1 x3 x4 (x5 + (1 : Int32)) H locs ls hP hD hS (lv_sub hl [2, 3, 4, 5, 0] rfl) hF
    · have hF := it_neg c_3 hF
      refine lv_aload_n hx hb dX1_descend_110 rfl (lv_at hl 1 rfl) ?_
      refine lv_iload_n hx hb dX1_descend_111 rfl (lv_at hl 2 rfl) ?_
      refine lv_iload hx hb dX1_descend_112 (lv_at hl 5 rfl) ?_
      obtain ⟨r_4, hc_5, hF⟩ := bn_some hF
      refine xc_i (wn := (w_X1_descend_k1 K g_t t_size t_low t_width t_limit t_needed t_parts t_leastSum t_fitCount t_open t_enough t_all (upd t_chosen (x1).toNatClampNeg x6) t_best)) hP hD hS C0.2.2.1 [0, 1, 2, 3] [4, 5] [2, 3, 4, 5, 0, 1] rfl rfl (by decide) (by decide) rfl (by decide) (va_runV (As := [.int x1, .int x5]) (rest := []) C0.1 (c_X1_opensAll l D K g_t t_size t_low t_width t_limit t_needed t_parts t_leastSum t_fitCount t_open t_enough t_all x1 x5 r_4 hc_5 H.size) (cwV 2 hts gX1_descend_X1_opensAll rfl rfl rfl (by decide +kernel) ⟨Nat.le_of_ble_eq_true rfl, Nat.le_of_ble_eq_true rfl⟩) (xp_V C0.2 hP hD hS [0, 1, 2, 3] rfl (by decide) 1 0 rfl rfl rfl) rfl rfl hl.1 rfl (lv_room (Nat.le_of_ble_eq_true rfl)) dX1_descend_114 ⟨Nat.le_of_ble_eq_true rfl, Nat.le_of_ble_eq_true rfl⟩) (fun H locs hP hD hS => ?_)
      refine lv_if_eq (tgt := 129) hx hb dX1_descend_117 (by decide) (fun c_6 => ?_) (fun c_6 => ?_)
      · have hF := it_pos c_6 hF
        refine lv_iinc (v := (x5 + (1 : Int32))) (lv' := [(5, .int (x5 + (1 : Int32))), (7, .int s0), (0, .ref (g_t 0)), (1, .int x1), (3, .int x3), (4, .int x4), (6, .int x6)]) hx hb dX1_descend_129 hl (k := 5) rfl (congrArg (fun z => x5 + z) (by decide)) (by decide) rfl (fun ls hl => ?_)
        refine lv_goto (tgt := 17) hx hb dX1_descend_132 (by decide) ?_
        exact HK_17 t_leastSum t_fitCount t_enough (upd t_chosen (x1).toNatClampNeg x6) t_best x1 x3 x4 (x5 + (1 : Int32)) H locs ls hP hD hS (lv_sub hl [2, 3, 4, 5, 0] rfl) hF
      · have hF := it_neg c_6 hF
        refine lv_aload_n hx hb dX1_descend_120 rfl (lv_at hl 1 rfl) ?_
        refine lv_iload hx hb dX1_descend_121 (lv_at hl 4 rfl) ?_
        refine lv_iload hx hb dX1_descend_123 (lv_at hl 6 rfl) ?_
        refine lv_iadd hx hb dX1_descend_125 ?_
        obtain ⟨r_7, hc_8, hF⟩ := bn_some hF
        refine xc_v (wn := (w_X1_descend_k1 K g_t t_size t_low t_width t_limit t_needed t_parts r_7.1 r_7.2.1 t_open t_enough t_all (upd t_chosen (x1).toNatClampNeg x6) r_7.2.2)) hP hD hS C0.2.2.1 [0, 4, 5] [1, 2, 3] [3, 0, 1, 2, 4, 5] rfl rfl (by decide) (by decide) rfl (by decide) (va_runV (As := [.int (x4 + x6)]) (rest := []) C0.1 (c_X1_keepFit l D K g_t t_size t_low t_width t_limit t_needed t_parts t_leastSum t_fitCount (upd t_chosen (x1).toNatClampNeg x6) t_best (x4 + x6) r_7 hc_8 H.size) (cwV 1 hts gX1_descend_X1_keepFit rfl rfl rfl (by decide +kernel) ⟨Nat.le_of_ble_eq_true rfl, Nat.le_of_ble_eq_true rfl⟩) (xp_V C0.2 hP hD hS [0, 4, 5] rfl (by decide) 1 0 rfl rfl rfl) rfl rfl hl.1 rfl (lv_room (Nat.le_of_ble_eq_true rfl)) dX1_descend_126 ⟨Nat.le_of_ble_eq_true rfl, Nat.le_of_ble_eq_true rfl⟩) (fun H locs hP hD hS => ?_)
        refine lv_iinc (v := (x5 + (1 : Int32))) (lv' := [(5, .int (x5 + (1 : Int32))), (7, .int s0), (0, .ref (g_t 0)), (1, .int x1), (3, .int x3), (4, .int x4), (6, .int x6)]) hx hb dX1_descend_129 hl (k := 5) rfl (congrArg (fun z => x5 + z) (by decide)) (by decide) rfl (fun ls hl => ?_)
        refine lv_goto (tgt := 17) hx hb dX1_descend_132 (by decide) ?_
        exact HK_17 r_7.1 r_7.2.1 t_enough (upd t_chosen (x1).toNatClampNeg x6) r_7.2.2 x1 x3 x4 (x5 + (1 : Int32)) H locs ls hP hD hS (lv_sub hl [2, 3, 4, 5, 0] rfl) hF
  · have hF := it_neg c_2 hF
    refine lv_aload_n hx hb dX1_descend_73 rfl (lv_at hl 1 rfl) ?_
    refine lv_iload_n hx hb dX1_descend_74 rfl (lv_at hl 2 rfl) ?_
    refine lv_iload hx hb dX1_descend_75 (lv_at hl 5 rfl) ?_
    obtain ⟨r_9, hc_10, hF⟩ := bn_some hF
    refine xc_v (wn := (w_X1_descend_k1 K g_t t_size t_low t_width t_limit t_needed t_parts t_leastSum t_fitCount t_open r_9 t_all (upd t_chosen (x1).toNatClampNeg x6) t_best)) hP hD hS C0.2.2.1 [0, 1, 2] [3, 4, 5] [3, 4, 5, 0, 1, 2] rfl rfl (by decide) (by decide) rfl (by decide) (va_runV (As := [.int x1, .int x5]) (rest := []) C0.1 (c_X1_addChoice l D K g_t t_size t_low t_width t_limit t_needed t_parts t_leastSum t_fitCount t_open t_enough x1 x5 r_9 hc_10 H.size) (cwV 2 hts gX1_descend_X1_addChoice rfl rfl rfl (by decide +kernel) ⟨Nat.le_of_ble_eq_true rfl, Nat.le_of_ble_eq_true rfl⟩) (xp_V C0.2 hP hD hS [0, 1, 2] rfl (by decide) 1 0 rfl rfl rfl) rfl rfl hl.1 rfl (lv_room (Nat.le_of_ble_eq_true rfl)) dX1_descend_77 ⟨Nat.le_of_ble_eq_true rfl, Nat.le_of_ble_eq_true rfl⟩) (fun H locs hP hD hS => ?_)
    refine lv_aload_n hx hb dX1_descend_80 rfl (lv_at hl 1 rfl) ?_
    refine lv_iload_n hx hb dX1_descend_81 rfl (lv_at hl 2 rfl) ?_
    refine lv_iconst (v := 1) hx hb dX1_descend_82 (by decide) ?_
    refine lv_iadd hx hb dX1_descend_83 ?_
    refine lv_iload hx hb dX1_descend_84 (lv_at hl 5 rfl) ?_
    refine lv_iconst (v := 1) hx hb dX1_descend_86 (by decide) ?_
    refine lv_iadd hx hb dX1_descend_87 ?_
    refine lv_iload hx hb dX1_descend_88 (lv_at hl 0 rfl) ?_
    refine lv_iload hx hb dX1_descend_90 (lv_at hl 4 rfl) ?_
    refine lv_iload hx hb dX1_descend_92 (lv_at hl 6 rfl) ?_
    refine lv_iadd hx hb dX1_descend_94 ?_
    obtain ⟨r_11, hc_12, hF⟩ := bn_some hF
    refine xc_v (wn := (w_X1_descend_k1 K g_t t_size t_low t_width t_limit t_needed t_parts r_11.1 r_11.2.1 t_open r_11.2.2.1 t_all r_11.2.2.2.1 r_11.2.2.2.2)) hP hD hS C0.2.2.1 [0, 1, 2, 3, 4, 5] [] [0, 1, 2, 3, 4, 5] rfl rfl (by decide) (by decide) rfl (by decide) (va_runV (As := [.int (x1 + (1 : Int32)), .int (x5 + (1 : Int32)), .int s0, .int (x4 + x6)]) (rest := []) C0.1 (c_X1_descend_k0 l D K g_t t_size t_low t_width t_limit t_needed t_parts t_leastSum t_fitCount t_open r_9 t_all (upd t_chosen (x1).toNatClampNeg x6) t_best (x1 + (1 : Int32)) (x5 + (1 : Int32)) s0 (x4 + x6) r_11 hc_12 H.size) (cwV 4 hts gX1_descend_X1_descend rfl rfl rfl (by decide +kernel) ⟨Nat.le_of_ble_eq_true rfl, Nat.le_of_ble_eq_true rfl⟩) (xp_V C0.2 hP hD hS [0, 1, 2, 3, 4, 5] rfl (by decide) 1 0 rfl rfl rfl) rfl rfl hl.1 rfl (lv_room (Nat.le_of_ble_eq_true rfl)) dX1_descend_95 ⟨Nat.le_of_ble_eq_true rfl, Nat.le_of_ble_eq_true rfl⟩) (fun H locs hP hD hS => ?_)
    refine lv_goto (tgt := 129) hx hb dX1_descend_98 (by decide) ?_
    refine lv_iinc (v := (x5 + (1 : Int32))) (lv' := [(5, .int (x5 + (1 : Int32))), (7, .int s0), (0, .ref (g_t 0)), (1, .int x1), (3, .int x3), (4, .int x4), (6, .int x6)]) hx hb dX1_descend_129 hl (k := 5) rfl (congrArg (fun z => x5 + z) (by decide)) (by decide) rfl (fun ls hl => ?_)
    refine lv_goto (tgt := 17) hx hb dX1_descend_132 (by decide) ?_
    exact HK_17 r_11.1 r_11.2.1 r_11.2.2.1 r_11.2.2.2.1 r_11.2.2.2.2 x1 x3 x4 (x5 + (1 : Int32)) H locs ls hP hD hS (lv_sub hl [2, 3, 4, 5, 0] rfl) hF
def L_X1_descend_k1_17 (t_size : Int32) (t_low : Int32) (t_width : Int32) (t_limit : Int32) (t_needed : Int32) (t_parts : Int32) (t_open : Nat → Int64) (t_all : Nat → Int64) : Nat → Int32 → Int32 → (Nat → Int64) → (Nat → Int32) → (Nat → Int32) → Int32 → Int32 → Int32 → Int32 → Option (Int32 × Int32 × (Nat → Int64) × (Nat → Int32) × (Nat → Int32))
  | 0, _, _, _, _, _, _, _, _, _ => none
  | n_ + 1, t_leastSum, t_fitCount, t_enough, t_chosen, t_best, x1, x3, x4, x5 =>
    if t_width ≤ x5 then (some (t_leastSum, t_fitCount, t_enough, t_chosen, t_best)) else (if x3 < t_limit then ((F_X10_leastCommon x3 (t_low + x5)).bind fun r_3 => (J_X1_descend_k1_53 t_size t_low t_width t_limit t_needed t_parts t_open t_all (L_X1_descend_k1_17 t_size t_low t_width t_limit t_needed t_parts t_open t_all n_) t_leastSum t_fitCount t_enough t_chosen t_best x1 x3 x4 x5 (t_low + x5) r_3)) else (J_X1_descend_k1_53 t_size t_low t_width t_limit t_needed t_parts t_open t_all (L_X1_descend_k1_17 t_size t_low t_width t_limit t_needed t_parts t_open t_all n_) t_leastSum t_fitCount t_enough t_chosen t_best x1 x3 x4 x5 (t_low + x5) x3))
set_option maxHeartbeats 4000000 in
set_option maxRecDepth 100000 in
theorem w_X1_descend_k1_17 {p : Program} {l : Launch} {e : Env} {s : State} {m : MethodId} {args : Array Value} {below : List Frame} {meth : Method} {c : Code} {D : va_G} {K : Nat → ClassId} {A : Nat → Prop} {Q : State → Prop} (C0 : cx_ p s m args c cX1_descend 8 RX1 wsX1_descend D K A) {g_t : Nat → Nat} {t_size : Int32} {t_low : Int32} {t_width : Int32} {t_limit : Int32} {t_needed : Int32} {t_parts : Int32} {t_open : Nat → Int64} {t_all : Nat → Int64} {res : Int32 × Int32 × (Nat → Int64) × (Nat → Int32) × (Nat → Int32)} (HR : ∀ (pc : Nat) (H : Heap) (locs : List Loc) (ls : Array Slot), decode cX1_descend pc = .ok (.return_, 1) → va_P D vwCl (w_X1_descend_k1 K g_t t_size t_low t_width t_limit t_needed t_parts res.1 res.2.1 t_open res.2.2.1 t_all res.2.2.2.1 res.2.2.2.2) H → va_D A (w_X1_descend_k1 K g_t t_size t_low t_width t_limit t_needed t_parts res.1 res.2.1 t_open res.2.2.1 t_all res.2.2.2.1 res.2.2.2.2) → va_S A s.heap H locs → W p l e rmX1_descend_k1 s m args below meth c H locs 0 0 Q (F0 m pc ls []))  :
    ∀ (n_ : Nat) (t_leastSum : Int32) (t_fitCount : Int32) (t_enough : Nat → Int64) (t_chosen : Nat → Int32) (t_best : Nat → Int32) (x1 : Int32) (x3 : Int32) (x4 : Int32) (x5 : Int32) (H : Heap) (locs : List Loc) (ls : Array Slot), va_P D vwCl (w_X1_descend_k1 K g_t t_size t_low t_width t_limit t_needed t_parts t_leastSum t_fitCount t_open t_enough t_all t_chosen t_best) H → va_D A (w_X1_descend_k1 K g_t t_size t_low t_width t_limit t_needed t_parts t_leastSum t_fitCount t_open t_enough t_all t_chosen t_best) → va_S A s.heap H locs → lv_has ls 8 [(0, .ref (g_t 0)), (1, .int x1), (3, .int x3), (4, .int x4), (5, .int x5)] → L_X1_descend_k1_17 t_size t_low t_width t_limit t_needed t_parts t_open t_all n_ t_leastSum t_fitCount t_enough t_chosen t_best x1 x3 x4 x5 = some res → W p l e rmX1_descend_k1 s m args below meth c H locs 0 0 Q (F0 m 17 ls []) := by
  obtain ⟨⟨hx, hb, hml, hown, hts⟩, hK, -⟩ := id C0
  intro n_
  induction n_ with
  | zero =>
    intro t_leastSum t_fitCount t_enough t_chosen t_best x1 x3 x4 x5 H locs ls hP hD hS hl hF
    exact no_s (show (none : Option (Int32 × Int32 × (Nat → Int64) × (Nat → Int32) × (Nat → Int32))) = some res from hF)
  | succ n_ ih =>
    intro t_leastSum t_fitCount t_enough t_chosen t_best x1 x3 x4 x5 H locs ls hP hD hS hl hF
    rw [L_X1_descend_k1_17] at hF
    refine lv_iload hx hb dX1_descend_17 (lv_at hl 4 rfl) ?_
    refine lv_aload_n hx hb dX1_descend_19 rfl (lv_at hl 0 rfl) ?_
    refine va_get (D := D) (ci := 1) (v := .int t_width) (C := RX1) (T := TX1) (N := 13) hx hb hts iw_X1_descend_k1_X1 hown hK hP 0 rfl rfl 6 (by decide) (hts _ fl_X1_descend_k1_41) (fun _ h9 => h9) rfl dX1_descend_20 ?_
    refine lv_icmp_ge (tgt := 135) hx hb dX1_descend_23 (by decide) (fun c_1 => ?_) (fun c_1 => ?_)
    · have hF := it_pos c_1 hF
      obtain rfl := Option.some.inj hF
      exact HR 135 H locs ls dX1_descend_135 hP hD hS
    · have hF := it_neg c_1 hF
      refine lv_aload_n hx hb dX1_descend_26 rfl (lv_at hl 0 rfl) ?_
      refine va_get (D := D) (ci := 1) (v := .int t_low) (C := RX1) (T := TX1) (N := 13) hx hb hts iw_X1_descend_k1_X1 hown hK hP 0 rfl rfl 5 (by decide) (hts _ fl_X1_descend_k1_32) (fun _ h9 => h9) rfl dX1_descend_27 ?_
      refine lv_iload hx hb dX1_descend_30 (lv_at hl 4 rfl) ?_
      refine lv_iadd hx hb dX1_descend_32 ?_
      refine lv_istore (lv' := [(6, .int (t_low + x5)), (0, .ref (g_t 0)), (1, .int x1), (3, .int x3), (4, .int x4), (5, .int x5)]) hx hb dX1_descend_33 hl (by decide) rfl (fun ls hl => ?_)
      refine lv_iload_n hx hb dX1_descend_35 rfl (lv_at hl 3 rfl) ?_
      refine lv_aload_n hx hb dX1_descend_36 rfl (lv_at hl 1 rfl) ?_
      refine va_get (D := D) (ci := 1) (v := .int t_limit) (C := RX1) (T := TX1) (N := 13) hx hb hts iw_X1_descend_k1_X1 hown hK hP 0 rfl rfl 7 (by decide) (hts _ fl_X1_descend_k1_49) (fun _ h9 => h9) rfl dX1_descend_37 ?_
      refine lv_icmp_lt (tgt := 47) hx hb dX1_descend_40 (by decide) (fun c_2 => ?_) (fun c_2 => ?_)
      · have hF := it_pos c_2 hF
        refine lv_iload_n hx hb dX1_descend_47 rfl (lv_at hl 3 rfl) ?_
        refine lv_iload hx hb dX1_descend_48 (lv_at hl 0 rfl) ?_
        obtain ⟨r_3, hc_4, hF⟩ := bn_some hF
        refine xc_i (wn := (w_X1_descend_k1 K g_t t_size t_low t_width t_limit t_needed t_parts t_leastSum t_fitCount t_open t_enough t_all t_chosen t_best)) hP hD hS C0.2.2.1 [] [0, 1, 2, 3, 4, 5] [0, 1, 2, 3, 4, 5] rfl rfl (by decide) (by decide) rfl (by decide) (va_runSN (host := "StaggerRadar") (As := [.int x3, .int (t_low + x5)]) (rest := []) C0.1 (c_X10_leastCommon l D K x3 (t_low + x5) r_3 hc_4 H.size) ⟨va_cnB 2 hts gX1_descend_X10_leastCommon_n94 rfl rfl rfl (C0.2.2.2.1.1 ("StaggerRadar$Chooser", 94, ⟨"StaggerRadar", "leastCommon", "(II)I"⟩, "StaggerRadar") (by decide +kernel)) (hts (.initialized RX10) (by decide +kernel)) (by decide +kernel) ⟨Nat.le_of_ble_eq_true rfl, Nat.le_of_ble_eq_true rfl⟩, hts (.static yX10_leastCommon) (by decide +kernel), trivial⟩ (xp_S C0.2 hP hD hS [] rfl (by decide)) rfl rfl hl.1 rfl (lv_room (Nat.le_of_ble_eq_true rfl)) dX1_descend_50 ⟨Nat.le_of_ble_eq_true rfl, Nat.le_of_ble_eq_true rfl⟩) (fun H locs hP hD hS => ?_)
        exact w_X1_descend_k1_53 C0 HR ih t_leastSum t_fitCount t_enough t_chosen t_best x1 x3 x4 x5 (t_low + x5) r_3 H locs ls hP hD hS (lv_sub hl [1, 2, 3, 4, 5, 0] rfl) hF
      · have hF := it_neg c_2 hF
        refine lv_iload_n hx hb dX1_descend_43 rfl (lv_at hl 3 rfl) ?_
        refine lv_goto (tgt := 53) hx hb dX1_descend_44 (by decide) ?_
        exact w_X1_descend_k1_53 C0 HR ih t_leastSum t_fitCount t_enough t_chosen t_best x1 x3 x4 x5 (t_low + x5) x3 H locs ls hP hD hS (lv_sub hl [1, 2, 3, 4, 5, 0] rfl) hF
def F_X1_descend_k1 (t_size : Int32) (t_low : Int32) (t_width : Int32) (t_limit : Int32) (t_needed : Int32) (t_parts : Int32) (t_leastSum : Int32) (t_fitCount : Int32) (t_open : Nat → Int64) (t_enough : Nat → Int64) (t_all : Nat → Int64) (t_chosen : Nat → Int32) (t_best : Nat → Int32) (x1 : Int32) (x2 : Int32) (x3 : Int32) (x4 : Int32) : Option (Int32 × Int32 × (Nat → Int64) × (Nat → Int32) × (Nat → Int32)) :=
  if t_size ≤ x1 then (some (t_leastSum, t_fitCount, t_enough, t_chosen, t_best)) else (if x1 < (4 : Int32) then (L_X1_descend_k1_17 t_size t_low t_width t_limit t_needed t_parts t_open t_all fu_ t_leastSum t_fitCount t_enough t_chosen t_best x1 x3 x4 x2) else (some (t_leastSum, t_fitCount, t_enough, t_chosen, t_best)))
set_option maxHeartbeats 4000000 in
set_option maxRecDepth 100000 in
theorem c_X1_descend_k1 (l : Launch) (D : va_G) (K : Nat → ClassId) (g_t : Nat → Nat) (t_size : Int32) (t_low : Int32) (t_width : Int32) (t_limit : Int32) (t_needed : Int32) (t_parts : Int32) (t_leastSum : Int32) (t_fitCount : Int32) (t_open : Nat → Int64) (t_enough : Nat → Int64) (t_all : Nat → Int64) (t_chosen : Nat → Int32) (t_best : Nat → Int32) (x1 : Int32) (x2 : Int32) (x3 : Int32) (x4 : Int32) (res : Int32 × Int32 × (Nat → Int64) × (Nat → Int32) × (Nat → Int32)) (hF : F_X1_descend_k1 t_size t_low t_width t_limit t_needed t_parts t_leastSum t_fitCount t_open t_enough t_all t_chosen t_best x1 x2 x3 x4 = some res) :
    Mv_ l yX1_descend wsX1_descend rmX1_descend_k1 D K [.ref (g_t 0), .int x1, .int x2, .int x3, .int x4] (w_X1_descend_k1 K g_t t_size t_low t_width t_limit t_needed t_parts t_leastSum t_fitCount t_open t_enough t_all t_chosen t_best) (w_X1_descend_k1 K g_t t_size t_low t_width t_limit t_needed t_parts res.1 res.2.1 t_open res.2.2.1 t_all res.2.2.2.1 res.2.2.2.2) := by
  refine en_v (cc := cX1_descend) (maxL := 8) (own := RX1) (by decide) rfl rfl (Nat.le_of_ble_eq_true rfl) ?_
  intro p e s m args below meth c A Q H locs ls C0 hP hD hS hl HR
  obtain ⟨⟨hx, hb, hml, hown, hts⟩, hK, -⟩ := id C0
  have hl : lv_has ls 8 [(0, .ref (g_t 0)), (1, .int x1), (2, .int x2), (3, .int x3), (4, .int x4)] := hl
  unfold F_X1_descend_k1 at hF
  refine lv_iload_n hx hb dX1_descend_0 rfl (lv_at hl 1 rfl) ?_
  refine lv_aload_n hx hb dX1_descend_1 rfl (lv_at hl 0 rfl) ?_
  refine va_get (D := D) (ci := 1) (v := .int t_size) (C := RX1) (T := TX1) (N := 13) hx hb hts iw_X1_descend_k1_X1 hown hK hP 0 rfl rfl 4 (by decide) (hts _ fl_X1_descend_k1_28) (fun _ h9 => h9) rfl dX1_descend_2 ?_
  refine lv_icmp_ge (tgt := 13) hx hb dX1_descend_5 (by decide) (fun c_1 => ?_) (fun c_1 => ?_)
  · have hF := it_pos c_1 hF
    obtain rfl := Option.some.inj hF
    exact HR 13 H locs ls dX1_descend_13 hP hD hS
  · have hF := it_neg c_1 hF
    refine lv_iload_n hx hb dX1_descend_8 rfl (lv_at hl 1 rfl) ?_
    refine lv_iconst (v := 4) hx hb dX1_descend_9 (by decide) ?_
    refine lv_icmp_lt (tgt := 14) hx hb dX1_descend_10 (by decide) (fun c_2 => ?_) (fun c_2 => ?_)
    · have hF := it_pos c_2 hF
      refine lv_iload_n hx hb dX1_descend_14 rfl (lv_at hl 2 rfl) ?_
      refine lv_istore (lv' := [(5, .int x2), (0, .ref (g_t 0)), (1, .int x1), (2, .int x2), (3, .int x3), (4, .int x4)]) hx hb dX1_descend_15 hl (by decide) rfl (fun ls hl => ?_)
      exact w_X1_descend_k1_17 C0 HR fu_ t_leastSum t_fitCount t_enough t_chosen t_best x1 x3 x4 x2 H locs ls hP hD hS (lv_sub hl [1, 2, 4, 5, 0] rfl) hF
    · have hF := it_neg c_2 hF
      obtain rfl := Option.some.inj hF
      exact HR 13 H locs ls dX1_descend_13 hP hD hS

/-! StaggerRadar.Chooser.descend(IIII)V -/
abbrev rmX1_descend_k2 : Room := { frames := 3, cells := 0, slots := 0, locals := 108 }
theorem fl_X1_descend_k2_21 : Cond.fieldLink RX1 21 "StaggerRadar$Chooser" "chosen" "[I" ∈ wsX1_descend := by decide +kernel
theorem fl_X1_descend_k2_28 : Cond.fieldLink RX1 28 "StaggerRadar$Chooser" "size" "I" ∈ wsX1_descend := by decide +kernel
theorem fl_X1_descend_k2_32 : Cond.fieldLink RX1 32 "StaggerRadar$Chooser" "low" "I" ∈ wsX1_descend := by decide +kernel
theorem fl_X1_descend_k2_41 : Cond.fieldLink RX1 41 "StaggerRadar$Chooser" "width" "I" ∈ wsX1_descend := by decide +kernel
theorem fl_X1_descend_k2_49 : Cond.fieldLink RX1 49 "StaggerRadar$Chooser" "limit" "I" ∈ wsX1_descend := by decide +kernel
theorem iw_X1_descend_k2_X1 : ∀ w ∈ u_ws RX1 TX1 13, w ∈ wsX1_descend := by decide +kernel
abbrev w_X1_descend_k2 (K : Nat → ClassId) (g_t : Nat → Nat) (t_size : Int32) (t_low : Int32) (t_width : Int32) (t_limit : Int32) (t_needed : Int32) (t_parts : Int32) (t_leastSum : Int32) (t_fitCount : Int32) (t_open : Nat → Int64) (t_enough : Nat → Int64) (t_all : Nat → Int64) (t_chosen : Nat → Int32) (t_best : Nat → Int32) : va_W := [((g_t 0), .inr (1, [.ref (g_t 1), .ref (g_t 2), .ref (g_t 3), .ref (g_t 4), .int t_size, .int t_low, .int t_width, .int t_limit, .int t_needed, .int t_parts, .ref (g_t 11), .int t_leastSum, .int t_fitCount])), ((g_t 1), .inl (K 1, 84, .inr (.inl t_open))), ((g_t 2), .inl (K 1, 80, .inr (.inl t_enough))), ((g_t 3), .inl (K 1, 4, .inr (.inl t_all))), ((g_t 4), .inl (K 0, 4, .inl t_chosen)), ((g_t 11), .inl (K 0, 4, .inl t_best))]
def J_X1_descend_k2_53 (t_size : Int32) (t_low : Int32) (t_width : Int32) (t_limit : Int32) (t_needed : Int32) (t_parts : Int32) (t_open : Nat → Int64) (t_all : Nat → Int64) (k_17 : Int32 → Int32 → (Nat → Int64) → (Nat → Int32) → (Nat → Int32) → Int32 → Int32 → Int32 → Int32 → Option (Int32 × Int32 × (Nat → Int64) × (Nat → Int32) × (Nat → Int32))) (t_leastSum : Int32) (t_fitCount : Int32) (t_enough : Nat → Int64) (t_chosen : Nat → Int32) (t_best : Nat → Int32) (x1 : Int32) (x3 : Int32) (x4 : Int32) (x5 : Int32) (x6 : Int32) (s0 : Int32) : Option (Int32 × Int32 × (Nat → Int64) × (Nat → Int32) × (Nat → Int32)) :=
  gd_ (in_b x1 4) (if t_size ≤ (x1 + (1 : Int32)) then (if s0 < t_limit then (k_17 t_leastSum t_fitCount t_enough (upd t_chosen (x1).toNatClampNeg x6) t_best x1 x3 x4 (x5 + (1 : Int32))) else ((F_X1_opensAll t_needed t_parts t_open t_enough t_all x1 x5).bind fun r_4 => (if r_4 = (0 : Int32) then (k_17 t_leastSum t_fitCount t_enough (upd t_chosen (x1).toNatClampNeg x6) t_best x1 x3 x4 (x5 + (1 : Int32))) else ((F_X1_keepFit t_leastSum t_fitCount (upd t_chosen (x1).toNatClampNeg x6) t_best (x4 + x6)).bind fun r_7 => (k_17 r_7.1 r_7.2.1 t_enough (upd t_chosen (x1).toNatClampNeg x6) r_7.2.2 x1 x3 x4 (x5 + (1 : Int32))))))) else ((F_X1_addChoice t_needed t_parts t_open t_enough x1 x5).bind fun r_9 => ((F_X1_descend_k1 t_size t_low t_width t_limit t_needed t_parts t_leastSum t_fitCount t_open r_9 t_all (upd t_chosen (x1).toNatClampNeg x6) t_best (x1 + (1 : Int32)) (x5 + (1 : Int32)) s0 (x4 + x6)).bind fun r_11 => (k_17 r_11.1 r_11.2.1 r_11.2.2.1 r_11.2.2.2.1 r_11.2.2.2.2 x1 x3 x4 (x5 + (1 : Int32))))))
set_option maxHeartbeats 4000000 in
set_option maxRecDepth 100000 in
theorem w_X1_descend_k2_53 {p : Program} {l : Launch} {e : Env} {s : State} {m : MethodId} {args : Array Value} {below : List Frame} {meth : Method} {c : Code} {D : va_G} {K : Nat → ClassId} {A : Nat → Prop} {Q : State → Prop} (C0 : cx_ p s m args c cX1_descend 8 RX1 wsX1_descend D K A) {g_t : Nat → Nat} {t_size : Int32} {t_low : Int32} {t_width : Int32} {t_limit : Int32} {t_needed : Int32} {t_parts : Int32} {t_open : Nat → Int64} {t_all : Nat → Int64} {res : Int32 × Int32 × (Nat → Int64) × (Nat → Int32) × (Nat → Int32)} (HR : ∀ (pc : Nat) (H : Heap) (locs : List Loc) (ls : Array Slot), decode cX1_descend pc = .ok (.return_, 1) → va_P D vwCl (w_X1_descend_k2 K g_t t_size t_low t_width t_limit t_needed t_parts res.1 res.2.1 t_open res.2.2.1 t_all res.2.2.2.1 res.2.2.2.2) H → va_D A (w_X1_descend_k2 K g_t t_size t_low t_width t_limit t_needed t_parts res.1 res.2.1 t_open res.2.2.1 t_all res.2.2.2.1 res.2.2.2.2) → va_S A s.heap H locs → W p l e rmX1_descend_k2 s m args below meth c H locs 0 0 Q (F0 m pc ls [])) {k_17 : Int32 → Int32 → (Nat → Int64) → (Nat → Int32) → (Nat → Int32) → Int32 → Int32 → Int32 → Int32 → Option (Int32 × Int32 × (Nat → Int64) × (Nat → Int32) × (Nat → Int32))} (HK_17 : ∀ (t_leastSum : Int32) (t_fitCount : Int32) (t_enough : Nat → Int64) (t_chosen : Nat → Int32) (t_best : Nat → Int32) (x1 : Int32) (x3 : Int32) (x4 : Int32) (x5 : Int32) (H : Heap) (locs : List Loc) (ls : Array Slot), va_P D vwCl (w_X1_descend_k2 K g_t t_size t_low t_width t_limit t_needed t_parts t_leastSum t_fitCount t_open t_enough t_all t_chosen t_best) H → va_D A (w_X1_descend_k2 K g_t t_size t_low t_width t_limit t_needed t_parts t_leastSum t_fitCount t_open t_enough t_all t_chosen t_best) → va_S A s.heap H locs → lv_has ls 8 [(0, .ref (g_t 0)), (1, .int x1), (3, .int x3), (4, .int x4), (5, .int x5)] → k_17 t_leastSum t_fitCount t_enough t_chosen t_best x1 x3 x4 x5 = some res → W p l e rmX1_descend_k2 s m args below meth c H locs 0 0 Q (F0 m 17 ls [])) :
    ∀ (t_leastSum : Int32) (t_fitCount : Int32) (t_enough : Nat → Int64) (t_chosen : Nat → Int32) (t_best : Nat → Int32) (x1 : Int32) (x3 : Int32) (x4 : Int32) (x5 : Int32) (x6 : Int32) (s0 : Int32) (H : Heap) (locs : List Loc) (ls : Array Slot), va_P D vwCl (w_X1_descend_k2 K g_t t_size t_low t_width t_limit t_needed t_parts t_leastSum t_fitCount t_open t_enough t_all t_chosen t_best) H → va_D A (w_X1_descend_k2 K g_t t_size t_low t_width t_limit t_needed t_parts t_leastSum t_fitCount t_open t_enough t_all t_chosen t_best) → va_S A s.heap H locs → lv_has ls 8 [(0, .ref (g_t 0)), (1, .int x1), (3, .int x3), (4, .int x4), (5, .int x5), (6, .int x6)] → J_X1_descend_k2_53 t_size t_low t_width t_limit t_needed t_parts t_open t_all k_17 t_leastSum t_fitCount t_enough t_chosen t_best x1 x3 x4 x5 x6 s0 = some res → W p l e rmX1_descend_k2 s m args below meth c H locs 0 0 Q (F0 m 53 ls [.int s0]) := by
  obtain ⟨⟨hx, hb, hml, hown, hts⟩, hK, -⟩ := id C0
  intro t_leastSum t_fitCount t_enough t_chosen t_best x1 x3 x4 x5 x6 s0 H locs ls hP hD hS hl hF
  unfold J_X1_descend_k2_53 at hF
  refine lv_istore (lv' := [(7, .int s0), (0, .ref (g_t 0)), (1, .int x1), (3, .int x3), (4, .int x4), (5, .int x5), (6, .int x6)]) hx hb dX1_descend_53 hl (by decide) rfl (fun ls hl => ?_)
  refine lv_aload_n hx hb dX1_descend_55 rfl (lv_at hl 1 rfl) ?_
  refine va_get (D := D) (ci := 1) (v := .ref (g_t 4)) (C := RX1) (T := TX1) (N := 13) hx hb hts iw_X1_descend_k2_X1 hown hK hP 0 rfl rfl 3 (by decide) (hts _ fl_X1_descend_k2_21) (fun _ h9 => h9) rfl dX1_descend_56 ?_
  refine lv_iload_n hx hb dX1_descend_59 rfl (lv_at hl 2 rfl) ?_
  refine lv_iload hx hb dX1_descend_60 (lv_at hl 6 rfl) ?_
  obtain ⟨hg_1, hF⟩ := gd_some hF
  refine xs_i (f := t_chosen) hx hb hK hP hD hS 4 0 rfl rfl rfl (in_v hg_1) dX1_descend_62 (fun H locs hP hD hS => ?_)
  have hP : va_P D vwCl (w_X1_descend_k2 K g_t t_size t_low t_width t_limit t_needed t_parts t_leastSum t_fitCount t_open t_enough t_all (upd t_chosen (x1).toNatClampNeg x6) t_best) H := hP
  have hD : va_D A (w_X1_descend_k2 K g_t t_size t_low t_width t_limit t_needed t_parts t_leastSum t_fitCount t_open t_enough t_all (upd t_chosen (x1).toNatClampNeg x6) t_best) := hD
  refine lv_iload_n hx hb dX1_descend_63 rfl (lv_at hl 2 rfl) ?_
  refine lv_iconst (v := 1) hx hb dX1_descend_64 (by decide) ?_
  refine lv_iadd hx hb dX1_descend_65 ?_
  refine lv_aload_n hx hb dX1_descend_66 rfl (lv_at hl 1 rfl) ?_
  refine va_get (D := D) (ci := 1) (v := .int t_size) (C := RX1) (T := TX1) (N := 13) hx hb hts iw_X1_descend_k2_X1 hown hK hP 0 rfl rfl 4 (by decide) (hts _ fl_X1_descend_k2_28) (fun _ h9 => h9) rfl dX1_descend_67 ?_
  refine lv_icmp_ge (tgt := 101) hx hb dX1_descend_70 (by decide) (fun c_2 => ?_) (fun c_2 => ?_)
  · have hF := it_pos c_2 hF
    refine lv_iload hx hb dX1_descend_101 (lv_at hl 0 rfl) ?_
    refine lv_aload_n hx hb dX1_descend_103 rfl (lv_at hl 1 rfl) ?_
    refine va_get (D := D) (ci := 1) (v := .int t_limit) (C := RX1) (T := TX1) (N := 13) hx hb hts iw_X1_descend_k2_X1 hown hK hP 0 rfl rfl 7 (by decide) (hts _ fl_X1_descend_k2_49) (fun _ h9 => h9) rfl dX1_descend_104 ?_
    refine lv_icmp_lt (tgt := 129) hx hb dX1_descend_107 (by decide) (fun c_3 => ?_) (fun c_3 => ?_)
    · have hF := it_pos c_3 hF
      refine lv_iinc (v := (x5 + (1 : Int32))) (lv' := [(5, .int (x5 + (1 : Int32))), (7, .int s0), (0, .ref (g_t 0)), (1, .int x1), (3, .int x3), (4, .int x4), (6, .int x6)]) hx hb dX1_descend_129 hl (k := 5) rfl (congrArg (fun z => x5 + z) (by decide)) (by decide) rfl (fun ls hl => ?_)
      refine lv_goto (tgt := 17) hx hb dX1_descend_132 (by decide) ?_
      exact HK_17 t_leastSum t_fitCount t_enough (upd t_chosen (x1).toNatClampNeg x6) t_best x1 x3 x4 (x5 + (1 : Int32)) H locs ls hP hD hS (lv_sub hl [2, 3, 4, 5, 0] rfl) hF
    · have hF := it_neg c_3 hF
      refine lv_aload_n hx hb dX1_descend_110 rfl (lv_at hl 1 rfl) ?_
      refine lv_iload_n hx hb dX1_descend_111 rfl (lv_at hl 2 rfl) ?_
      refine lv_iload hx hb dX1_descend_112 (lv_at hl 5 rfl) ?_
      obtain ⟨r_4, hc_5, hF⟩ := bn_some hF
      refine xc_i (wn := (w_X1_descend_k2 K g_t t_size t_low t_width t_limit t_needed t_parts t_leastSum t_fitCount t_open t_enough t_all (upd t_chosen (x1).toNatClampNeg x6) t_best)) hP hD hS C0.2.2.1 [0, 1, 2, 3] [4, 5] [2, 3, 4, 5, 0, 1] rfl rfl (by decide) (by decide) rfl (by decide) (va_runV (As := [.int x1, .int x5]) (rest := []) C0.1 (c_X1_opensAll l D K g_t t_size t_low t_width t_limit t_needed t_parts t_leastSum t_fitCount t_open t_enough t_all x1 x5 r_4 hc_5 H.size) (cwV 2 hts gX1_descend_X1_opensAll rfl rfl rfl (by decide +kernel) ⟨Nat.le_of_ble_eq_true rfl, Nat.le_of_ble_eq_true rfl⟩) (xp_V C0.2 hP hD hS [0, 1, 2, 3] rfl (by decide) 1 0 rfl rfl rfl) rfl rfl hl.1 rfl (lv_room (Nat.le_of_ble_eq_true rfl)) dX1_descend_114 ⟨Nat.le_of_ble_eq_true rfl, Nat.le_of_ble_eq_true rfl⟩) (fun H locs hP hD hS => ?_)
      refine lv_if_eq (tgt := 129) hx hb dX1_descend_117 (by decide) (fun c_6 => ?_) (fun c_6 => ?_)
      · have hF := it_pos c_6 hF
        refine lv_iinc (v := (x5 + (1 : Int32))) (lv' := [(5, .int (x5 + (1 : Int32))), (7, .int s0), (0, .ref (g_t 0)), (1, .int x1), (3, .int x3), (4, .int x4), (6, .int x6)]) hx hb dX1_descend_129 hl (k := 5) rfl (congrArg (fun z => x5 + z) (by decide)) (by decide) rfl (fun ls hl => ?_)
        refine lv_goto (tgt := 17) hx hb dX1_descend_132 (by decide) ?_
        exact HK_17 t_leastSum t_fitCount t_enough (upd t_chosen (x1).toNatClampNeg x6) t_best x1 x3 x4 (x5 + (1 : Int32)) H locs ls hP hD hS (lv_sub hl [2, 3, 4, 5, 0] rfl) hF
      · have hF := it_neg c_6 hF
        refine lv_aload_n hx hb dX1_descend_120 rfl (lv_at hl 1 rfl) ?_
        refine lv_iload hx hb dX1_descend_121 (lv_at hl 4 rfl) ?_
        refine lv_iload hx hb dX1_descend_123 (lv_at hl 6 rfl) ?_
        refine lv_iadd hx hb dX1_descend_125 ?_
        obtain ⟨r_7, hc_8, hF⟩ := bn_some hF
        refine xc_v (wn := (w_X1_descend_k2 K g_t t_size t_low t_width t_limit t_needed t_parts r_7.1 r_7.2.1 t_open t_enough t_all (upd t_chosen (x1).toNatClampNeg x6) r_7.2.2)) hP hD hS C0.2.2.1 [0, 4, 5] [1, 2, 3] [3, 0, 1, 2, 4, 5] rfl rfl (by decide) (by decide) rfl (by decide) (va_runV (As := [.int (x4 + x6)]) (rest := []) C0.1 (c_X1_keepFit l D K g_t t_size t_low t_width t_limit t_needed t_parts t_leastSum t_fitCount (upd t_chosen (x1).toNatClampNeg x6) t_best (x4 + x6) r_7 hc_8 H.size) (cwV 1 hts gX1_descend_X1_keepFit rfl rfl rfl (by decide +kernel) ⟨Nat.le_of_ble_eq_true rfl, Nat.le_of_ble_eq_true rfl⟩) (xp_V C0.2 hP hD hS [0, 4, 5] rfl (by decide) 1 0 rfl rfl rfl) rfl rfl hl.1 rfl (lv_room (Nat.le_of_ble_eq_true rfl)) dX1_descend_126 ⟨Nat.le_of_ble_eq_true rfl, Nat.le_of_ble_eq_true rfl⟩) (fun H locs hP hD hS => ?_)
        refine lv_iinc (v := (x5 + (1 : Int32))) (lv' := [(5, .int (x5 + (1 : Int32))), (7, .int s0), (0, .ref (g_t 0)), (1, .int x1), (3, .int x3), (4, .int x4), (6, .int x6)]) hx hb dX1_descend_129 hl (k := 5) rfl (congrArg (fun z => x5 + z) (by decide)) (by decide) rfl (fun ls hl => ?_)
        refine lv_goto (tgt := 17) hx hb dX1_descend_132 (by decide) ?_
        exact HK_17 r_7.1 r_7.2.1 t_enough (upd t_chosen (x1).toNatClampNeg x6) r_7.2.2 x1 x3 x4 (x5 + (1 : Int32)) H locs ls hP hD hS (lv_sub hl [2, 3, 4, 5, 0] rfl) hF
  · have hF := it_neg c_2 hF
    refine lv_aload_n hx hb dX1_descend_73 rfl (lv_at hl 1 rfl) ?_
    refine lv_iload_n hx hb dX1_descend_74 rfl (lv_at hl 2 rfl) ?_
    refine lv_iload hx hb dX1_descend_75 (lv_at hl 5 rfl) ?_
    obtain ⟨r_9, hc_10, hF⟩ := bn_some hF
    refine xc_v (wn := (w_X1_descend_k2 K g_t t_size t_low t_width t_limit t_needed t_parts t_leastSum t_fitCount t_open r_9 t_all (upd t_chosen (x1).toNatClampNeg x6) t_best)) hP hD hS C0.2.2.1 [0, 1, 2] [3, 4, 5] [3, 4, 5, 0, 1, 2] rfl rfl (by decide) (by decide) rfl (by decide) (va_runV (As := [.int x1, .int x5]) (rest := []) C0.1 (c_X1_addChoice l D K g_t t_size t_low t_width t_limit t_needed t_parts t_leastSum t_fitCount t_open t_enough x1 x5 r_9 hc_10 H.size) (cwV 2 hts gX1_descend_X1_addChoice rfl rfl rfl (by decide +kernel) ⟨Nat.le_of_ble_eq_true rfl, Nat.le_of_ble_eq_true rfl⟩) (xp_V C0.2 hP hD hS [0, 1, 2] rfl (by decide) 1 0 rfl rfl rfl) rfl rfl hl.1 rfl (lv_room (Nat.le_of_ble_eq_true rfl)) dX1_descend_77 ⟨Nat.le_of_ble_eq_true rfl, Nat.le_of_ble_eq_true rfl⟩) (fun H locs hP hD hS => ?_)
    refine lv_aload_n hx hb dX1_descend_80 rfl (lv_at hl 1 rfl) ?_
    refine lv_iload_n hx hb dX1_descend_81 rfl (lv_at hl 2 rfl) ?_
    refine lv_iconst (v := 1) hx hb dX1_descend_82 (by decide) ?_
    refine lv_iadd hx hb dX1_descend_83 ?_
    refine lv_iload hx hb dX1_descend_84 (lv_at hl 5 rfl) ?_
    refine lv_iconst (v := 1) hx hb dX1_descend_86 (by decide) ?_
    refine lv_iadd hx hb dX1_descend_87 ?_
    refine lv_iload hx hb dX1_descend_88 (lv_at hl 0 rfl) ?_
    refine lv_iload hx hb dX1_descend_90 (lv_at hl 4 rfl) ?_
    refine lv_iload hx hb dX1_descend_92 (lv_at hl 6 rfl) ?_
    refine lv_iadd hx hb dX1_descend_94 ?_
    obtain ⟨r_11, hc_12, hF⟩ := bn_some hF
    refine xc_v (wn := (w_X1_descend_k2 K g_t t_size t_low t_width t_limit t_needed t_parts r_11.1 r_11.2.1 t_open r_11.2.2.1 t_all r_11.2.2.2.1 r_11.2.2.2.2)) hP hD hS C0.2.2.1 [0, 1, 2, 3, 4, 5] [] [0, 1, 2, 3, 4, 5] rfl rfl (by decide) (by decide) rfl (by decide) (va_runV (As := [.int (x1 + (1 : Int32)), .int (x5 + (1 : Int32)), .int s0, .int (x4 + x6)]) (rest := []) C0.1 (c_X1_descend_k1 l D K g_t t_size t_low t_width t_limit t_needed t_parts t_leastSum t_fitCount t_open r_9 t_all (upd t_chosen (x1).toNatClampNeg x6) t_best (x1 + (1 : Int32)) (x5 + (1 : Int32)) s0 (x4 + x6) r_11 hc_12 H.size) (cwV 4 hts gX1_descend_X1_descend rfl rfl rfl (by decide +kernel) ⟨Nat.le_of_ble_eq_true rfl, Nat.le_of_ble_eq_true rfl⟩) (xp_V C0.2 hP hD hS [0, 1, 2, 3, 4, 5] rfl (by decide) 1 0 rfl rfl rfl) rfl rfl hl.1 rfl (lv_room (Nat.le_of_ble_eq_true rfl)) dX1_descend_95 ⟨Nat.le_of_ble_eq_true rfl, Nat.le_of_ble_eq_true rfl⟩) (fun H locs hP hD hS => ?_)
    refine lv_goto (tgt := 129) hx hb dX1_descend_98 (by decide) ?_
    refine lv_iinc (v := (x5 + (1 : Int32))) (lv' := [(5, .int (x5 + (1 : Int32))), (7, .int s0), (0, .ref (g_t 0)), (1, .int x1), (3, .int x3), (4, .int x4), (6, .int x6)]) hx hb dX1_descend_129 hl (k := 5) rfl (congrArg (fun z => x5 + z) (by decide)) (by decide) rfl (fun ls hl => ?_)
    refine lv_goto (tgt := 17) hx hb dX1_descend_132 (by decide) ?_
    exact HK_17 r_11.1 r_11.2.1 r_11.2.2.1 r_11.2.2.2.1 r_11.2.2.2.2 x1 x3 x4 (x5 + (1 : Int32)) H locs ls hP hD hS (lv_sub hl [2, 3, 4, 5, 0] rfl) hF
def L_X1_descend_k2_17 (t_size : Int32) (t_low : Int32) (t_width : Int32) (t_limit : Int32) (t_needed : Int32) (t_parts : Int32) (t_open : Nat → Int64) (t_all : Nat → Int64) : Nat → Int32 → Int32 → (Nat → Int64) → (Nat → Int32) → (Nat → Int32) → Int32 → Int32 → Int32 → Int32 → Option (Int32 × Int32 × (Nat → Int64) × (Nat → Int32) × (Nat → Int32))
  | 0, _, _, _, _, _, _, _, _, _ => none
  | n_ + 1, t_leastSum, t_fitCount, t_enough, t_chosen, t_best, x1, x3, x4, x5 =>
    if t_width ≤ x5 then (some (t_leastSum, t_fitCount, t_enough, t_chosen, t_best)) else (if x3 < t_limit then ((F_X10_leastCommon x3 (t_low + x5)).bind fun r_3 => (J_X1_descend_k2_53 t_size t_low t_width t_limit t_needed t_parts t_open t_all (L_X1_descend_k2_17 t_size t_low t_width t_limit t_needed t_parts t_open t_all n_) t_leastSum t_fitCount t_enough t_chosen t_best x1 x3 x4 x5 (t_low + x5) r_3)) else (J_X1_descend_k2_53 t_size t_low t_width t_limit t_needed t_parts t_open t_all (L_X1_descend_k2_17 t_size t_low t_width t_limit t_needed t_parts t_open t_all n_) t_leastSum t_fitCount t_enough t_chosen t_best x1 x3 x4 x5 (t_low + x5) x3))
set_option maxHeartbeats 4000000 in
set_option maxRecDepth 100000 in
theorem w_X1_descend_k2_17 {p : Program} {l : Launch} {e : Env} {s : State} {m : MethodId} {args : Array Value} {below : List Frame} {meth : Method} {c : Code} {D : va_G} {K : Nat → ClassId} {A : Nat → Prop} {Q : State → Prop} (C0 : cx_ p s m args c cX1_descend 8 RX1 wsX1_descend D K A) {g_t : Nat → Nat} {t_size : Int32} {t_low : Int32} {t_width : Int32} {t_limit : Int32} {t_needed : Int32} {t_parts : Int32} {t_open : Nat → Int64} {t_all : Nat → Int64} {res : Int32 × Int32 × (Nat → Int64) × (Nat → Int32) × (Nat → Int32)} (HR : ∀ (pc : Nat) (H : Heap) (locs : List Loc) (ls : Array Slot), decode cX1_descend pc = .ok (.return_, 1) → va_P D vwCl (w_X1_descend_k2 K g_t t_size t_low t_width t_limit t_needed t_parts res.1 res.2.1 t_open res.2.2.1 t_all res.2.2.2.1 res.2.2.2.2) H → va_D A (w_X1_descend_k2 K g_t t_size t_low t_width t_limit t_needed t_parts res.1 res.2.1 t_open res.2.2.1 t_all res.2.2.2.1 res.2.2.2.2) → va_S A s.heap H locs → W p l e rmX1_descend_k2 s m args below meth c H locs 0 0 Q (F0 m pc ls []))  :
    ∀ (n_ : Nat) (t_leastSum : Int32) (t_fitCount : Int32) (t_enough : Nat → Int64) (t_chosen : Nat → Int32) (t_best : Nat → Int32) (x1 : Int32) (x3 : Int32) (x4 : Int32) (x5 : Int32) (H : Heap) (locs : List Loc) (ls : Array Slot), va_P D vwCl (w_X1_descend_k2 K g_t t_size t_low t_width t_limit t_needed t_parts t_leastSum t_fitCount t_open t_enough t_all t_chosen t_best) H → va_D A (w_X1_descend_k2 K g_t t_size t_low t_width t_limit t_needed t_parts t_leastSum t_fitCount t_open t_enough t_all t_chosen t_best) → va_S A s.heap H locs → lv_has ls 8 [(0, .ref (g_t 0)), (1, .int x1), (3, .int x3), (4, .int x4), (5, .int x5)] → L_X1_descend_k2_17 t_size t_low t_width t_limit t_needed t_parts t_open t_all n_ t_leastSum t_fitCount t_enough t_chosen t_best x1 x3 x4 x5 = some res → W p l e rmX1_descend_k2 s m args below meth c H locs 0 0 Q (F0 m 17 ls []) := by
  obtain ⟨⟨hx, hb, hml, hown, hts⟩, hK, -⟩ := id C0
  intro n_
  induction n_ with
  | zero =>
    intro t_leastSum t_fitCount t_enough t_chosen t_best x1 x3 x4 x5 H locs ls hP hD hS hl hF
    exact no_s (show (none : Option (Int32 × Int32 × (Nat → Int64) × (Nat → Int32) × (Nat → Int32))) = some res from hF)
  | succ n_ ih =>
    intro t_leastSum t_fitCount t_enough t_chosen t_best x1 x3 x4 x5 H locs ls hP hD hS hl hF
    rw [L_X1_descend_k2_17] at hF
    refine lv_iload hx hb dX1_descend_17 (lv_at hl 4 rfl) ?_
    refine lv_aload_n hx hb dX1_descend_19 rfl (lv_at hl 0 rfl) ?_
    refine va_get (D := D) (ci := 1) (v := .int t_width) (C := RX1) (T := TX1) (N := 13) hx hb hts iw_X1_descend_k2_X1 hown hK hP 0 rfl rfl 6 (by decide) (hts _ fl_X1_descend_k2_41) (fun _ h9 => h9) rfl dX1_descend_20 ?_
    refine lv_icmp_ge (tgt := 135) hx hb dX1_descend_23 (by decide) (fun c_1 => ?_) (fun c_1 => ?_)
    · have hF := it_pos c_1 hF
      obtain rfl := Option.some.inj hF
      exact HR 135 H locs ls dX1_descend_135 hP hD hS
    · have hF := it_neg c_1 hF
      refine lv_aload_n hx hb dX1_descend_26 rfl (lv_at hl 0 rfl) ?_
      refine va_get (D := D) (ci := 1) (v := .int t_low) (C := RX1) (T := TX1) (N := 13) hx hb hts iw_X1_descend_k2_X1 hown hK hP 0 rfl rfl 5 (by decide) (hts _ fl_X1_descend_k2_32) (fun _ h9 => h9) rfl dX1_descend_27 ?_
      refine lv_iload hx hb dX1_descend_30 (lv_at hl 4 rfl) ?_
      refine lv_iadd hx hb dX1_descend_32 ?_
      refine lv_istore (lv' := [(6, .int (t_low + x5)), (0, .ref (g_t 0)), (1, .int x1), (3, .int x3), (4, .int x4), (5, .int x5)]) hx hb dX1_descend_33 hl (by decide) rfl (fun ls hl => ?_)
      refine lv_iload_n hx hb dX1_descend_35 rfl (lv_at hl 3 rfl) ?_
      refine lv_aload_n hx hb dX1_descend_36 rfl (lv_at hl 1 rfl) ?_
      refine va_get (D := D) (ci := 1) (v := .int t_limit) (C := RX1) (T := TX1) (N := 13) hx hb hts iw_X1_descend_k2_X1 hown hK hP 0 rfl rfl 7 (by decide) (hts _ fl_X1_descend_k2_49) (fun _ h9 => h9) rfl dX1_descend_37 ?_
      refine lv_icmp_lt (tgt := 47) hx hb dX1_descend_40 (by decide) (fun c_2 => ?_) (fun c_2 => ?_)
      · have hF := it_pos c_2 hF
        refine lv_iload_n hx hb dX1_descend_47 rfl (lv_at hl 3 rfl) ?_
        refine lv_iload hx hb dX1_descend_48 (lv_at hl 0 rfl) ?_
        obtain ⟨r_3, hc_4, hF⟩ := bn_some hF
        refine xc_i (wn := (w_X1_descend_k2 K g_t t_size t_low t_width t_limit t_needed t_parts t_leastSum t_fitCount t_open t_enough t_all t_chosen t_best)) hP hD hS C0.2.2.1 [] [0, 1, 2, 3, 4, 5] [0, 1, 2, 3, 4, 5] rfl rfl (by decide) (by decide) rfl (by decide) (va_runSN (host := "StaggerRadar") (As := [.int x3, .int (t_low + x5)]) (rest := []) C0.1 (c_X10_leastCommon l D K x3 (t_low + x5) r_3 hc_4 H.size) ⟨va_cnB 2 hts gX1_descend_X10_leastCommon_n94 rfl rfl rfl (C0.2.2.2.1.1 ("StaggerRadar$Chooser", 94, ⟨"StaggerRadar", "leastCommon", "(II)I"⟩, "StaggerRadar") (by decide +kernel)) (hts (.initialized RX10) (by decide +kernel)) (by decide +kernel) ⟨Nat.le_of_ble_eq_true rfl, Nat.le_of_ble_eq_true rfl⟩, hts (.static yX10_leastCommon) (by decide +kernel), trivial⟩ (xp_S C0.2 hP hD hS [] rfl (by decide)) rfl rfl hl.1 rfl (lv_room (Nat.le_of_ble_eq_true rfl)) dX1_descend_50 ⟨Nat.le_of_ble_eq_true rfl, Nat.le_of_ble_eq_true rfl⟩) (fun H locs hP hD hS => ?_)
        exact w_X1_descend_k2_53 C0 HR ih t_leastSum t_fitCount t_enough t_chosen t_best x1 x3 x4 x5 (t_low + x5) r_3 H locs ls hP hD hS (lv_sub hl [1, 2, 3, 4, 5, 0] rfl) hF
      · have hF := it_neg c_2 hF
        refine lv_iload_n hx hb dX1_descend_43 rfl (lv_at hl 3 rfl) ?_
        refine lv_goto (tgt := 53) hx hb dX1_descend_44 (by decide) ?_
        exact w_X1_descend_k2_53 C0 HR ih t_leastSum t_fitCount t_enough t_chosen t_best x1 x3 x4 x5 (t_low + x5) x3 H locs ls hP hD hS (lv_sub hl [1, 2, 3, 4, 5, 0] rfl) hF
def F_X1_descend_k2 (t_size : Int32) (t_low : Int32) (t_width : Int32) (t_limit : Int32) (t_needed : Int32) (t_parts : Int32) (t_leastSum : Int32) (t_fitCount : Int32) (t_open : Nat → Int64) (t_enough : Nat → Int64) (t_all : Nat → Int64) (t_chosen : Nat → Int32) (t_best : Nat → Int32) (x1 : Int32) (x2 : Int32) (x3 : Int32) (x4 : Int32) : Option (Int32 × Int32 × (Nat → Int64) × (Nat → Int32) × (Nat → Int32)) :=
  if t_size ≤ x1 then (some (t_leastSum, t_fitCount, t_enough, t_chosen, t_best)) else (if x1 < (4 : Int32) then (L_X1_descend_k2_17 t_size t_low t_width t_limit t_needed t_parts t_open t_all fu_ t_leastSum t_fitCount t_enough t_chosen t_best x1 x3 x4 x2) else (some (t_leastSum, t_fitCount, t_enough, t_chosen, t_best)))
set_option maxHeartbeats 4000000 in
set_option maxRecDepth 100000 in
theorem c_X1_descend_k2 (l : Launch) (D : va_G) (K : Nat → ClassId) (g_t : Nat → Nat) (t_size : Int32) (t_low : Int32) (t_width : Int32) (t_limit : Int32) (t_needed : Int32) (t_parts : Int32) (t_leastSum : Int32) (t_fitCount : Int32) (t_open : Nat → Int64) (t_enough : Nat → Int64) (t_all : Nat → Int64) (t_chosen : Nat → Int32) (t_best : Nat → Int32) (x1 : Int32) (x2 : Int32) (x3 : Int32) (x4 : Int32) (res : Int32 × Int32 × (Nat → Int64) × (Nat → Int32) × (Nat → Int32)) (hF : F_X1_descend_k2 t_size t_low t_width t_limit t_needed t_parts t_leastSum t_fitCount t_open t_enough t_all t_chosen t_best x1 x2 x3 x4 = some res) :
    Mv_ l yX1_descend wsX1_descend rmX1_descend_k2 D K [.ref (g_t 0), .int x1, .int x2, .int x3, .int x4] (w_X1_descend_k2 K g_t t_size t_low t_width t_limit t_needed t_parts t_leastSum t_fitCount t_open t_enough t_all t_chosen t_best) (w_X1_descend_k2 K g_t t_size t_low t_width t_limit t_needed t_parts res.1 res.2.1 t_open res.2.2.1 t_all res.2.2.2.1 res.2.2.2.2) := by
  refine en_v (cc := cX1_descend) (maxL := 8) (own := RX1) (by decide) rfl rfl (Nat.le_of_ble_eq_true rfl) ?_
  intro p e s m args below meth c A Q H locs ls C0 hP hD hS hl HR
  obtain ⟨⟨hx, hb, hml, hown, hts⟩, hK, -⟩ := id C0
  have hl : lv_has ls 8 [(0, .ref (g_t 0)), (1, .int x1), (2, .int x2), (3, .int x3), (4, .int x4)] := hl
  unfold F_X1_descend_k2 at hF
  refine lv_iload_n hx hb dX1_descend_0 rfl (lv_at hl 1 rfl) ?_
  refine lv_aload_n hx hb dX1_descend_1 rfl (lv_at hl 0 rfl) ?_
  refine va_get (D := D) (ci := 1) (v := .int t_size) (C := RX1) (T := TX1) (N := 13) hx hb hts iw_X1_descend_k2_X1 hown hK hP 0 rfl rfl 4 (by decide) (hts _ fl_X1_descend_k2_28) (fun _ h9 => h9) rfl dX1_descend_2 ?_
  refine lv_icmp_ge (tgt := 13) hx hb dX1_descend_5 (by decide) (fun c_1 => ?_) (fun c_1 => ?_)
  · have hF := it_pos c_1 hF
    obtain rfl := Option.some.inj hF
    exact HR 13 H locs ls dX1_descend_13 hP hD hS
  · have hF := it_neg c_1 hF
    refine lv_iload_n hx hb dX1_descend_8 rfl (lv_at hl 1 rfl) ?_
    refine lv_iconst (v := 4) hx hb dX1_descend_9 (by decide) ?_
    refine lv_icmp_lt (tgt := 14) hx hb dX1_descend_10 (by decide) (fun c_2 => ?_) (fun c_2 => ?_)
    · have hF := it_pos c_2 hF
      refine lv_iload_n hx hb dX1_descend_14 rfl (lv_at hl 2 rfl) ?_
      refine lv_istore (lv' := [(5, .int x2), (0, .ref (g_t 0)), (1, .int x1), (2, .int x2), (3, .int x3), (4, .int x4)]) hx hb dX1_descend_15 hl (by decide) rfl (fun ls hl => ?_)
      exact w_X1_descend_k2_17 C0 HR fu_ t_leastSum t_fitCount t_enough t_chosen t_best x1 x3 x4 x2 H locs ls hP hD hS (lv_sub hl [1, 2, 4, 5, 0] rfl) hF
    · have hF := it_neg c_2 hF
      obtain rfl := Option.some.inj hF
      exact HR 13 H locs ls dX1_descend_13 hP hD hS

/-! StaggerRadar.Chooser.descend(IIII)V -/
abbrev rmX1_descend_k3 : Room := { frames := 4, cells := 0, slots := 0, locals := 135 }
theorem fl_X1_descend_k3_21 : Cond.fieldLink RX1 21 "StaggerRadar$Chooser" "chosen" "[I" ∈ wsX1_descend := by decide +kernel
theorem fl_X1_descend_k3_28 : Cond.fieldLink RX1 28 "StaggerRadar$Chooser" "size" "I" ∈ wsX1_descend := by decide +kernel
theorem fl_X1_descend_k3_32 : Cond.fieldLink RX1 32 "StaggerRadar$Chooser" "low" "I" ∈ wsX1_descend := by decide +kernel
theorem fl_X1_descend_k3_41 : Cond.fieldLink RX1 41 "StaggerRadar$Chooser" "width" "I" ∈ wsX1_descend := by decide +kernel
theorem fl_X1_descend_k3_49 : Cond.fieldLink RX1 49 "StaggerRadar$Chooser" "limit" "I" ∈ wsX1_descend := by decide +kernel
theorem iw_X1_descend_k3_X1 : ∀ w ∈ u_ws RX1 TX1 13, w ∈ wsX1_descend := by decide +kernel
abbrev w_X1_descend_k3 (K : Nat → ClassId) (g_t : Nat → Nat) (t_size : Int32) (t_low : Int32) (t_width : Int32) (t_limit : Int32) (t_needed : Int32) (t_parts : Int32) (t_leastSum : Int32) (t_fitCount : Int32) (t_open : Nat → Int64) (t_enough : Nat → Int64) (t_all : Nat → Int64) (t_chosen : Nat → Int32) (t_best : Nat → Int32) : va_W := [((g_t 0), .inr (1, [.ref (g_t 1), .ref (g_t 2), .ref (g_t 3), .ref (g_t 4), .int t_size, .int t_low, .int t_width, .int t_limit, .int t_needed, .int t_parts, .ref (g_t 11), .int t_leastSum, .int t_fitCount])), ((g_t 1), .inl (K 1, 84, .inr (.inl t_open))), ((g_t 2), .inl (K 1, 80, .inr (.inl t_enough))), ((g_t 3), .inl (K 1, 4, .inr (.inl t_all))), ((g_t 4), .inl (K 0, 4, .inl t_chosen)), ((g_t 11), .inl (K 0, 4, .inl t_best))]
def J_X1_descend_k3_53 (t_size : Int32) (t_low : Int32) (t_width : Int32) (t_limit : Int32) (t_needed : Int32) (t_parts : Int32) (t_open : Nat → Int64) (t_all : Nat → Int64) (k_17 : Int32 → Int32 → (Nat → Int64) → (Nat → Int32) → (Nat → Int32) → Int32 → Int32 → Int32 → Int32 → Option (Int32 × Int32 × (Nat → Int64) × (Nat → Int32) × (Nat → Int32))) (t_leastSum : Int32) (t_fitCount : Int32) (t_enough : Nat → Int64) (t_chosen : Nat → Int32) (t_best : Nat → Int32) (x1 : Int32) (x3 : Int32) (x4 : Int32) (x5 : Int32) (x6 : Int32) (s0 : Int32) : Option (Int32 × Int32 × (Nat → Int64) × (Nat → Int32) × (Nat → Int32)) :=
  gd_ (in_b x1 4) (if t_size ≤ (x1 + (1 : Int32)) then (if s0 < t_limit then (k_17 t_leastSum t_fitCount t_enough (upd t_chosen (x1).toNatClampNeg x6) t_best x1 x3 x4 (x5 + (1 : Int32))) else ((F_X1_opensAll t_needed t_parts t_open t_enough t_all x1 x5).bind fun r_4 => (if r_4 = (0 : Int32) then (k_17 t_leastSum t_fitCount t_enough (upd t_chosen (x1).toNatClampNeg x6) t_best x1 x3 x4 (x5 + (1 : Int32))) else ((F_X1_keepFit t_leastSum t_fitCount (upd t_chosen (x1).toNatClampNeg x6) t_best (x4 + x6)).bind fun r_7 => (k_17 r_7.1 r_7.2.1 t_enough (upd t_chosen (x1).toNatClampNeg x6) r_7.2.2 x1 x3 x4 (x5 + (1 : Int32))))))) else ((F_X1_addChoice t_needed t_parts t_open t_enough x1 x5).bind fun r_9 => ((F_X1_descend_k2 t_size t_low t_width t_limit t_needed t_parts t_leastSum t_fitCount t_open r_9 t_all (upd t_chosen (x1).toNatClampNeg x6) t_best (x1 + (1 : Int32)) (x5 + (1 : Int32)) s0 (x4 + x6)).bind fun r_11 => (k_17 r_11.1 r_11.2.1 r_11.2.2.1 r_11.2.2.2.1 r_11.2.2.2.2 x1 x3 x4 (x5 + (1 : Int32))))))
set_option maxHeartbeats 4000000 in
set_option maxRecDepth 100000 in
theorem w_X1_descend_k3_53 {p : Program} {l : Launch} {e : Env} {s : State} {m : MethodId} {args : Array Value} {below : List Frame} {meth : Method} {c : Code} {D : va_G} {K : Nat → ClassId} {A : Nat → Prop} {Q : State → Prop} (C0 : cx_ p s m args c cX1_descend 8 RX1 wsX1_descend D K A) {g_t : Nat → Nat} {t_size : Int32} {t_low : Int32} {t_width : Int32} {t_limit : Int32} {t_needed : Int32} {t_parts : Int32} {t_open : Nat → Int64} {t_all : Nat → Int64} {res : Int32 × Int32 × (Nat → Int64) × (Nat → Int32) × (Nat → Int32)} (HR : ∀ (pc : Nat) (H : Heap) (locs : List Loc) (ls : Array Slot), decode cX1_descend pc = .ok (.return_, 1) → va_P D vwCl (w_X1_descend_k3 K g_t t_size t_low t_width t_limit t_needed t_parts res.1 res.2.1 t_open res.2.2.1 t_all res.2.2.2.1 res.2.2.2.2) H → va_D A (w_X1_descend_k3 K g_t t_size t_low t_width t_limit t_needed t_parts res.1 res.2.1 t_open res.2.2.1 t_all res.2.2.2.1 res.2.2.2.2) → va_S A s.heap H locs → W p l e rmX1_descend_k3 s m args below meth c H locs 0 0 Q (F0 m pc ls [])) {k_17 : Int32 → Int32 → (Nat → Int64) → (Nat → Int32) → (Nat → Int32) → Int32 → Int32 → Int32 → Int32 → Option (Int32 × Int32 × (Nat → Int64) × (Nat → Int32) × (Nat → Int32))} (HK_17 : ∀ (t_leastSum : Int32) (t_fitCount : Int32) (t_enough : Nat → Int64) (t_chosen : Nat → Int32) (t_best : Nat → Int32) (x1 : Int32) (x3 : Int32) (x4 : Int32) (x5 : Int32) (H : Heap) (locs : List Loc) (ls : Array Slot), va_P D vwCl (w_X1_descend_k3 K g_t t_size t_low t_width t_limit t_needed t_parts t_leastSum t_fitCount t_open t_enough t_all t_chosen t_best) H → va_D A (w_X1_descend_k3 K g_t t_size t_low t_width t_limit t_needed t_parts t_leastSum t_fitCount t_open t_enough t_all t_chosen t_best) → va_S A s.heap H locs → lv_has ls 8 [(0, .ref (g_t 0)), (1, .int x1), (3, .int x3), (4, .int x4), (5, .int x5)] → k_17 t_leastSum t_fitCount t_enough t_chosen t_best x1 x3 x4 x5 = some res → W p l e rmX1_descend_k3 s m args below meth c H locs 0 0 Q (F0 m 17 ls [])) :
    ∀ (t_leastSum : Int32) (t_fitCount : Int32) (t_enough : Nat → Int64) (t_chosen : Nat → Int32) (t_best : Nat → Int32) (x1 : Int32) (x3 : Int32) (x4 : Int32) (x5 : Int32) (x6 : Int32) (s0 : Int32) (H : Heap) (locs : List Loc) (ls : Array Slot), va_P D vwCl (w_X1_descend_k3 K g_t t_size t_low t_width t_limit t_needed t_parts t_leastSum t_fitCount t_open t_enough t_all t_chosen t_best) H → va_D A (w_X1_descend_k3 K g_t t_size t_low t_width t_limit t_needed t_parts t_leastSum t_fitCount t_open t_enough t_all t_chosen t_best) → va_S A s.heap H locs → lv_has ls 8 [(0, .ref (g_t 0)), (1, .int x1), (3, .int x3), (4, .int x4), (5, .int x5), (6, .int x6)] → J_X1_descend_k3_53 t_size t_low t_width t_limit t_needed t_parts t_open t_all k_17 t_leastSum t_fitCount t_enough t_chosen t_best x1 x3 x4 x5 x6 s0 = some res → W p l e rmX1_descend_k3 s m args below meth c H locs 0 0 Q (F0 m 53 ls [.int s0]) := by
  obtain ⟨⟨hx, hb, hml, hown, hts⟩, hK, -⟩ := id C0
  intro t_leastSum t_fitCount t_enough t_chosen t_best x1 x3 x4 x5 x6 s0 H locs ls hP hD hS hl hF
  unfold J_X1_descend_k3_53 at hF
  refine lv_istore (lv' := [(7, .int s0), (0, .ref (g_t 0)), (1, .int x1), (3, .int x3), (4, .int x4), (5, .int x5), (6, .int x6)]) hx hb dX1_descend_53 hl (by decide) rfl (fun ls hl => ?_)
  refine lv_aload_n hx hb dX1_descend_55 rfl (lv_at hl 1 rfl) ?_
  refine va_get (D := D) (ci := 1) (v := .ref (g_t 4)) (C := RX1) (T := TX1) (N := 13) hx hb hts iw_X1_descend_k3_X1 hown hK hP 0 rfl rfl 3 (by decide) (hts _ fl_X1_descend_k3_21) (fun _ h9 => h9) rfl dX1_descend_56 ?_
  refine lv_iload_n hx hb dX1_descend_59 rfl (lv_at hl 2 rfl) ?_
  refine lv_iload hx hb dX1_descend_60 (lv_at hl 6 rfl) ?_
  obtain ⟨hg_1, hF⟩ := gd_some hF
  refine xs_i (f := t_chosen) hx hb hK hP hD hS 4 0 rfl rfl rfl (in_v hg_1) dX1_descend_62 (fun H locs hP hD hS => ?_)
  have hP : va_P D vwCl (w_X1_descend_k3 K g_t t_size t_low t_width t_limit t_needed t_parts t_leastSum t_fitCount t_open t_enough t_all (upd t_chosen (x1).toNatClampNeg x6) t_best) H := hP
  have hD : va_D A (w_X1_descend_k3 K g_t t_size t_low t_width t_limit t_needed t_parts t_leastSum t_fitCount t_open t_enough t_all (upd t_chosen (x1).toNatClampNeg x6) t_best) := hD
  refine lv_iload_n hx hb dX1_descend_63 rfl (lv_at hl 2 rfl) ?_
  refine lv_iconst (v := 1) hx hb dX1_descend_64 (by decide) ?_
  refine lv_iadd hx hb dX1_descend_65 ?_
  refine lv_aload_n hx hb dX1_descend_66 rfl (lv_at hl 1 rfl) ?_
  refine va_get (D := D) (ci := 1) (v := .int t_size) (C := RX1) (T := TX1) (N := 13) hx hb hts iw_X1_descend_k3_X1 hown hK hP 0 rfl rfl 4 (by decide) (hts _ fl_X1_descend_k3_28) (fun _ h9 => h9) rfl dX1_descend_67 ?_
  refine lv_icmp_ge (tgt := 101) hx hb dX1_descend_70 (by decide) (fun c_2 => ?_) (fun c_2 => ?_)
  · have hF := it_pos c_2 hF
    refine lv_iload hx hb dX1_descend_101 (lv_at hl 0 rfl) ?_
    refine lv_aload_n hx hb dX1_descend_103 rfl (lv_at hl 1 rfl) ?_
    refine va_get (D := D) (ci := 1) (v := .int t_limit) (C := RX1) (T := TX1) (N := 13) hx hb hts iw_X1_descend_k3_X1 hown hK hP 0 rfl rfl 7 (by decide) (hts _ fl_X1_descend_k3_49) (fun _ h9 => h9) rfl dX1_descend_104 ?_
    refine lv_icmp_lt (tgt := 129) hx hb dX1_descend_107 (by decide) (fun c_3 => ?_) (fun c_3 => ?_)
    · have hF := it_pos c_3 hF
      refine lv_iinc (v := (x5 + (1 : Int32))) (lv' := [(5, .int (x5 + (1 : Int32))), (7, .int s0), (0, .ref (g_t 0)), (1, .int x1), (3, .int x3), (4, .int x4), (6, .int x6)]) hx hb dX1_descend_129 hl (k := 5) rfl (congrArg (fun z => x5 + z) (by decide)) (by decide) rfl (fun ls hl => ?_)
      refine lv_goto (tgt := 17) hx hb dX1_descend_132 (by decide) ?_
      exact HK_17 t_leastSum t_fitCount t_enough (upd t_chosen (x1).toNatClampNeg x6) t_best x1 x3 x4 (x5 + (1 : Int32)) H locs ls hP hD hS (lv_sub hl [2, 3, 4, 5, 0] rfl) hF
    · have hF := it_neg c_3 hF
      refine lv_aload_n hx hb dX1_descend_110 rfl (lv_at hl 1 rfl) ?_
      refine lv_iload_n hx hb dX1_descend_111 rfl (lv_at hl 2 rfl) ?_
      refine lv_iload hx hb dX1_descend_112 (lv_at hl 5 rfl) ?_
      obtain ⟨r_4, hc_5, hF⟩ := bn_some hF
      refine xc_i (wn := (w_X1_descend_k3 K g_t t_size t_low t_width t_limit t_needed t_parts t_leastSum t_fitCount t_open t_enough t_all (upd t_chosen (x1).toNatClampNeg x6) t_best)) hP hD hS C0.2.2.1 [0, 1, 2, 3] [4, 5] [2, 3, 4, 5, 0, 1] rfl rfl (by decide) (by decide) rfl (by decide) (va_runV (As := [.int x1, .int x5]) (rest := []) C0.1 (c_X1_opensAll l D K g_t t_size t_low t_width t_limit t_needed t_parts t_leastSum t_fitCount t_open t_enough t_all x1 x5 r_4 hc_5 H.size) (cwV 2 hts gX1_descend_X1_opensAll rfl rfl rfl (by decide +kernel) ⟨Nat.le_of_ble_eq_true rfl, Nat.le_of_ble_eq_true rfl⟩) (xp_V C0.2 hP hD hS [0, 1, 2, 3] rfl (by decide) 1 0 rfl rfl rfl) rfl rfl hl.1 rfl (lv_room (Nat.le_of_ble_eq_true rfl)) dX1_descend_114 ⟨Nat.le_of_ble_eq_true rfl, Nat.le_of_ble_eq_true rfl⟩) (fun H locs hP hD hS => ?_)
      refine lv_if_eq (tgt := 129) hx hb dX1_descend_117 (by decide) (fun c_6 => ?_) (fun c_6 => ?_)
      · have hF := it_pos c_6 hF
        refine lv_iinc (v := (x5 + (1 : Int32))) (lv' := [(5, .int (x5 + (1 : Int32))), (7, .int s0), (0, .ref (g_t 0)), (1, .int x1), (3, .int x3), (4, .int x4), (6, .int x6)]) hx hb dX1_descend_129 hl (k := 5) rfl (congrArg (fun z => x5 + z) (by decide)) (by decide) rfl (fun ls hl => ?_)
        refine lv_goto (tgt := 17) hx hb dX1_descend_132 (by decide) ?_
        exact HK_17 t_leastSum t_fitCount t_enough (upd t_chosen (x1).toNatClampNeg x6) t_best x1 x3 x4 (x5 + (1 : Int32)) H locs ls hP hD hS (lv_sub hl [2, 3, 4, 5, 0] rfl) hF
      · have hF := it_neg c_6 hF
        refine lv_aload_n hx hb dX1_descend_120 rfl (lv_at hl 1 rfl) ?_
        refine lv_iload hx hb dX1_descend_121 (lv_at hl 4 rfl) ?_
        refine lv_iload hx hb dX1_descend_123 (lv_at hl 6 rfl) ?_
        refine lv_iadd hx hb dX1_descend_125 ?_
        obtain ⟨r_7, hc_8, hF⟩ := bn_some hF
        refine xc_v (wn := (w_X1_descend_k3 K g_t t_size t_low t_width t_limit t_needed t_parts r_7.1 r_7.2.1 t_open t_enough t_all (upd t_chosen (x1).toNatClampNeg x6) r_7.2.2)) hP hD hS C0.2.2.1 [0, 4, 5] [1, 2, 3] [3, 0, 1, 2, 4, 5] rfl rfl (by decide) (by decide) rfl (by decide) (va_runV (As := [.int (x4 + x6)]) (rest := []) C0.1 (c_X1_keepFit l D K g_t t_size t_low t_width t_limit t_needed t_parts t_leastSum t_fitCount (upd t_chosen (x1).toNatClampNeg x6) t_best (x4 + x6) r_7 hc_8 H.size) (cwV 1 hts gX1_descend_X1_keepFit rfl rfl rfl (by decide +kernel) ⟨Nat.le_of_ble_eq_true rfl, Nat.le_of_ble_eq_true rfl⟩) (xp_V C0.2 hP hD hS [0, 4, 5] rfl (by decide) 1 0 rfl rfl rfl) rfl rfl hl.1 rfl (lv_room (Nat.le_of_ble_eq_true rfl)) dX1_descend_126 ⟨Nat.le_of_ble_eq_true rfl, Nat.le_of_ble_eq_true rfl⟩) (fun H locs hP hD hS => ?_)
        refine lv_iinc (v := (x5 + (1 : Int32))) (lv' := [(5, .int (x5 + (1 : Int32))), (7, .int s0), (0, .ref (g_t 0)), (1, .int x1), (3, .int x3), (4, .int x4), (6, .int x6)]) hx hb dX1_descend_129 hl (k := 5) rfl (congrArg (fun z => x5 + z) (by decide)) (by decide) rfl (fun ls hl => ?_)
        refine lv_goto (tgt := 17) hx hb dX1_descend_132 (by decide) ?_
        exact HK_17 r_7.1 r_7.2.1 t_enough (upd t_chosen (x1).toNatClampNeg x6) r_7.2.2 x1 x3 x4 (x5 + (1 : Int32)) H locs ls hP hD hS (lv_sub hl [2, 3, 4, 5, 0] rfl) hF
  · have hF := it_neg c_2 hF
    refine lv_aload_n hx hb dX1_descend_73 rfl (lv_at hl 1 rfl) ?_
    refine lv_iload_n hx hb dX1_descend_74 rfl (lv_at hl 2 rfl) ?_
    refine lv_iload hx hb dX1_descend_75 (lv_at hl 5 rfl) ?_
    obtain ⟨r_9, hc_10, hF⟩ := bn_some hF
    refine xc_v (wn := (w_X1_descend_k3 K g_t t_size t_low t_width t_limit t_needed t_parts t_leastSum t_fitCount t_open r_9 t_all (upd t_chosen (x1).toNatClampNeg x6) t_best)) hP hD hS C0.2.2.1 [0, 1, 2] [3, 4, 5] [3, 4, 5, 0, 1, 2] rfl rfl (by decide) (by decide) rfl (by decide) (va_runV (As := [.int x1, .int x5]) (rest := []) C0.1 (c_X1_addChoice l D K g_t t_size t_low t_width t_limit t_needed t_parts t_leastSum t_fitCount t_open t_enough x1 x5 r_9 hc_10 H.size) (cwV 2 hts gX1_descend_X1_addChoice rfl rfl rfl (by decide +kernel) ⟨Nat.le_of_ble_eq_true rfl, Nat.le_of_ble_eq_true rfl⟩) (xp_V C0.2 hP hD hS [0, 1, 2] rfl (by decide) 1 0 rfl rfl rfl) rfl rfl hl.1 rfl (lv_room (Nat.le_of_ble_eq_true rfl)) dX1_descend_77 ⟨Nat.le_of_ble_eq_true rfl, Nat.le_of_ble_eq_true rfl⟩) (fun H locs hP hD hS => ?_)
    refine lv_aload_n hx hb dX1_descend_80 rfl (lv_at hl 1 rfl) ?_
    refine lv_iload_n hx hb dX1_descend_81 rfl (lv_at hl 2 rfl) ?_
    refine lv_iconst (v := 1) hx hb dX1_descend_82 (by decide) ?_
    refine lv_iadd hx hb dX1_descend_83 ?_
    refine lv_iload hx hb dX1_descend_84 (lv_at hl 5 rfl) ?_
    refine lv_iconst (v := 1) hx hb dX1_descend_86 (by decide) ?_
    refine lv_iadd hx hb dX1_descend_87 ?_
    refine lv_iload hx hb dX1_descend_88 (lv_at hl 0 rfl) ?_
    refine lv_iload hx hb dX1_descend_90 (lv_at hl 4 rfl) ?_
    refine lv_iload hx hb dX1_descend_92 (lv_at hl 6 rfl) ?_
    refine lv_iadd hx hb dX1_descend_94 ?_
    obtain ⟨r_11, hc_12, hF⟩ := bn_some hF
    refine xc_v (wn := (w_X1_descend_k3 K g_t t_size t_low t_width t_limit t_needed t_parts r_11.1 r_11.2.1 t_open r_11.2.2.1 t_all r_11.2.2.2.1 r_11.2.2.2.2)) hP hD hS C0.2.2.1 [0, 1, 2, 3, 4, 5] [] [0, 1, 2, 3, 4, 5] rfl rfl (by decide) (by decide) rfl (by decide) (va_runV (As := [.int (x1 + (1 : Int32)), .int (x5 + (1 : Int32)), .int s0, .int (x4 + x6)]) (rest := []) C0.1 (c_X1_descend_k2 l D K g_t t_size t_low t_width t_limit t_needed t_parts t_leastSum t_fitCount t_open r_9 t_all (upd t_chosen (x1).toNatClampNeg x6) t_best (x1 + (1 : Int32)) (x5 + (1 : Int32)) s0 (x4 + x6) r_11 hc_12 H.size) (cwV 4 hts gX1_descend_X1_descend rfl rfl rfl (by decide +kernel) ⟨Nat.le_of_ble_eq_true rfl, Nat.le_of_ble_eq_true rfl⟩) (xp_V C0.2 hP hD hS [0, 1, 2, 3, 4, 5] rfl (by decide) 1 0 rfl rfl rfl) rfl rfl hl.1 rfl (lv_room (Nat.le_of_ble_eq_true rfl)) dX1_descend_95 ⟨Nat.le_of_ble_eq_true rfl, Nat.le_of_ble_eq_true rfl⟩) (fun H locs hP hD hS => ?_)
    refine lv_goto (tgt := 129) hx hb dX1_descend_98 (by decide) ?_
    refine lv_iinc (v := (x5 + (1 : Int32))) (lv' := [(5, .int (x5 + (1 : Int32))), (7, .int s0), (0, .ref (g_t 0)), (1, .int x1), (3, .int x3), (4, .int x4), (6, .int x6)]) hx hb dX1_descend_129 hl (k := 5) rfl (congrArg (fun z => x5 + z) (by decide)) (by decide) rfl (fun ls hl => ?_)
    refine lv_goto (tgt := 17) hx hb dX1_descend_132 (by decide) ?_
    exact HK_17 r_11.1 r_11.2.1 r_11.2.2.1 r_11.2.2.2.1 r_11.2.2.2.2 x1 x3 x4 (x5 + (1 : Int32)) H locs ls hP hD hS (lv_sub hl [2, 3, 4, 5, 0] rfl) hF
def L_X1_descend_k3_17 (t_size : Int32) (t_low : Int32) (t_width : Int32) (t_limit : Int32) (t_needed : Int32) (t_parts : Int32) (t_open : Nat → Int64) (t_all : Nat → Int64) : Nat → Int32 → Int32 → (Nat → Int64) → (Nat → Int32) → (Nat → Int32) → Int32 → Int32 → Int32 → Int32 → Option (Int32 × Int32 × (Nat → Int64) × (Nat → Int32) × (Nat → Int32))
  | 0, _, _, _, _, _, _, _, _, _ => none
  | n_ + 1, t_leastSum, t_fitCount, t_enough, t_chosen, t_best, x1, x3, x4, x5 =>
    if t_width ≤ x5 then (some (t_leastSum, t_fitCount, t_enough, t_chosen, t_best)) else (if x3 < t_limit then ((F_X10_leastCommon x3 (t_low + x5)).bind fun r_3 => (J_X1_descend_k3_53 t_size t_low t_width t_limit t_needed t_parts t_open t_all (L_X1_descend_k3_17 t_size t_low t_width t_limit t_needed t_parts t_open t_all n_) t_leastSum t_fitCount t_enough t_chosen t_best x1 x3 x4 x5 (t_low + x5) r_3)) else (J_X1_descend_k3_53 t_size t_low t_width t_limit t_needed t_parts t_open t_all (L_X1_descend_k3_17 t_size t_low t_width t_limit t_needed t_parts t_open t_all n_) t_leastSum t_fitCount t_enough t_chosen t_best x1 x3 x4 x5 (t_low + x5) x3))
set_option maxHeartbeats 4000000 in
set_option maxRecDepth 100000 in
theorem w_X1_descend_k3_17 {p : Program} {l : Launch} {e : Env} {s : State} {m : MethodId} {args : Array Value} {below : List Frame} {meth : Method} {c : Code} {D : va_G} {K : Nat → ClassId} {A : Nat → Prop} {Q : State → Prop} (C0 : cx_ p s m args c cX1_descend 8 RX1 wsX1_descend D K A) {g_t : Nat → Nat} {t_size : Int32} {t_low : Int32} {t_width : Int32} {t_limit : Int32} {t_needed : Int32} {t_parts : Int32} {t_open : Nat → Int64} {t_all : Nat → Int64} {res : Int32 × Int32 × (Nat → Int64) × (Nat → Int32) × (Nat → Int32)} (HR : ∀ (pc : Nat) (H : Heap) (locs : List Loc) (ls : Array Slot), decode cX1_descend pc = .ok (.return_, 1) → va_P D vwCl (w_X1_descend_k3 K g_t t_size t_low t_width t_limit t_needed t_parts res.1 res.2.1 t_open res.2.2.1 t_all res.2.2.2.1 res.2.2.2.2) H → va_D A (w_X1_descend_k3 K g_t t_size t_low t_width t_limit t_needed t_parts res.1 res.2.1 t_open res.2.2.1 t_all res.2.2.2.1 res.2.2.2.2) → va_S A s.heap H locs → W p l e rmX1_descend_k3 s m args below meth c H locs 0 0 Q (F0 m pc ls []))  :
    ∀ (n_ : Nat) (t_leastSum : Int32) (t_fitCount : Int32) (t_enough : Nat → Int64) (t_chosen : Nat → Int32) (t_best : Nat → Int32) (x1 : Int32) (x3 : Int32) (x4 : Int32) (x5 : Int32) (H : Heap) (locs : List Loc) (ls : Array Slot), va_P D vwCl (w_X1_descend_k3 K g_t t_size t_low t_width t_limit t_needed t_parts t_leastSum t_fitCount t_open t_enough t_all t_chosen t_best) H → va_D A (w_X1_descend_k3 K g_t t_size t_low t_width t_limit t_needed t_parts t_leastSum t_fitCount t_open t_enough t_all t_chosen t_best) → va_S A s.heap H locs → lv_has ls 8 [(0, .ref (g_t 0)), (1, .int x1), (3, .int x3), (4, .int x4), (5, .int x5)] → L_X1_descend_k3_17 t_size t_low t_width t_limit t_needed t_parts t_open t_all n_ t_leastSum t_fitCount t_enough t_chosen t_best x1 x3 x4 x5 = some res → W p l e rmX1_descend_k3 s m args below meth c H locs 0 0 Q (F0 m 17 ls []) := by
  obtain ⟨⟨hx, hb, hml, hown, hts⟩, hK, -⟩ := id C0
  intro n_
  induction n_ with
  | zero =>
    intro t_leastSum t_fitCount t_enough t_chosen t_best x1 x3 x4 x5 H locs ls hP hD hS hl hF
    exact no_s (show (none : Option (Int32 × Int32 × (Nat → Int64) × (Nat → Int32) × (Nat → Int32))) = some res from hF)
  | succ n_ ih =>
    intro t_leastSum t_fitCount t_enough t_chosen t_best x1 x3 x4 x5 H locs ls hP hD hS hl hF
    rw [L_X1_descend_k3_17] at hF
    refine lv_iload hx hb dX1_descend_17 (lv_at hl 4 rfl) ?_
    refine lv_aload_n hx hb dX1_descend_19 rfl (lv_at hl 0 rfl) ?_
    refine va_get (D := D) (ci := 1) (v := .int t_width) (C := RX1) (T := TX1) (N := 13) hx hb hts iw_X1_descend_k3_X1 hown hK hP 0 rfl rfl 6 (by decide) (hts _ fl_X1_descend_k3_41) (fun _ h9 => h9) rfl dX1_descend_20 ?_
    refine lv_icmp_ge (tgt := 135) hx hb dX1_descend_23 (by decide) (fun c_1 => ?_) (fun c_1 => ?_)
    · have hF := it_pos c_1 hF
      obtain rfl := Option.some.inj hF
      exact HR 135 H locs ls dX1_descend_135 hP hD hS
    · have hF := it_neg c_1 hF
      refine lv_aload_n hx hb dX1_descend_26 rfl (lv_at hl 0 rfl) ?_
      refine va_get (D := D) (ci := 1) (v := .int t_low) (C := RX1) (T := TX1) (N := 13) hx hb hts iw_X1_descend_k3_X1 hown hK hP 0 rfl rfl 5 (by decide) (hts _ fl_X1_descend_k3_32) (fun _ h9 => h9) rfl dX1_descend_27 ?_
      refine lv_iload hx hb dX1_descend_30 (lv_at hl 4 rfl) ?_
      refine lv_iadd hx hb dX1_descend_32 ?_
      refine lv_istore (lv' := [(6, .int (t_low + x5)), (0, .ref (g_t 0)), (1, .int x1), (3, .int x3), (4, .int x4), (5, .int x5)]) hx hb dX1_descend_33 hl (by decide) rfl (fun ls hl => ?_)
      refine lv_iload_n hx hb dX1_descend_35 rfl (lv_at hl 3 rfl) ?_
      refine lv_aload_n hx hb dX1_descend_36 rfl (lv_at hl 1 rfl) ?_
      refine va_get (D := D) (ci := 1) (v := .int t_limit) (C := RX1) (T := TX1) (N := 13) hx hb hts iw_X1_descend_k3_X1 hown hK hP 0 rfl rfl 7 (by decide) (hts _ fl_X1_descend_k3_49) (fun _ h9 => h9) rfl dX1_descend_37 ?_
      refine lv_icmp_lt (tgt := 47) hx hb dX1_descend_40 (by decide) (fun c_2 => ?_) (fun c_2 => ?_)
      · have hF := it_pos c_2 hF
        refine lv_iload_n hx hb dX1_descend_47 rfl (lv_at hl 3 rfl) ?_
        refine lv_iload hx hb dX1_descend_48 (lv_at hl 0 rfl) ?_
        obtain ⟨r_3, hc_4, hF⟩ := bn_some hF
        refine xc_i (wn := (w_X1_descend_k3 K g_t t_size t_low t_width t_limit t_needed t_parts t_leastSum t_fitCount t_open t_enough t_all t_chosen t_best)) hP hD hS C0.2.2.1 [] [0, 1, 2, 3, 4, 5] [0, 1, 2, 3, 4, 5] rfl rfl (by decide) (by decide) rfl (by decide) (va_runSN (host := "StaggerRadar") (As := [.int x3, .int (t_low + x5)]) (rest := []) C0.1 (c_X10_leastCommon l D K x3 (t_low + x5) r_3 hc_4 H.size) ⟨va_cnB 2 hts gX1_descend_X10_leastCommon_n94 rfl rfl rfl (C0.2.2.2.1.1 ("StaggerRadar$Chooser", 94, ⟨"StaggerRadar", "leastCommon", "(II)I"⟩, "StaggerRadar") (by decide +kernel)) (hts (.initialized RX10) (by decide +kernel)) (by decide +kernel) ⟨Nat.le_of_ble_eq_true rfl, Nat.le_of_ble_eq_true rfl⟩, hts (.static yX10_leastCommon) (by decide +kernel), trivial⟩ (xp_S C0.2 hP hD hS [] rfl (by decide)) rfl rfl hl.1 rfl (lv_room (Nat.le_of_ble_eq_true rfl)) dX1_descend_50 ⟨Nat.le_of_ble_eq_true rfl, Nat.le_of_ble_eq_true rfl⟩) (fun H locs hP hD hS => ?_)
        exact w_X1_descend_k3_53 C0 HR ih t_leastSum t_fitCount t_enough t_chosen t_best x1 x3 x4 x5 (t_low + x5) r_3 H locs ls hP hD hS (lv_sub hl [1, 2, 3, 4, 5, 0] rfl) hF
      · have hF := it_neg c_2 hF
        refine lv_iload_n hx hb dX1_descend_43 rfl (lv_at hl 3 rfl) ?_
        refine lv_goto (tgt := 53) hx hb dX1_descend_44 (by decide) ?_
        exact w_X1_descend_k3_53 C0 HR ih t_leastSum t_fitCount t_enough t_chosen t_best x1 x3 x4 x5 (t_low + x5) x3 H locs ls hP hD hS (lv_sub hl [1, 2, 3, 4, 5, 0] rfl) hF
def F_X1_descend_k3 (t_size : Int32) (t_low : Int32) (t_width : Int32) (t_limit : Int32) (t_needed : Int32) (t_parts : Int32) (t_leastSum : Int32) (t_fitCount : Int32) (t_open : Nat → Int64) (t_enough : Nat → Int64) (t_all : Nat → Int64) (t_chosen : Nat → Int32) (t_best : Nat → Int32) (x1 : Int32) (x2 : Int32) (x3 : Int32) (x4 : Int32) : Option (Int32 × Int32 × (Nat → Int64) × (Nat → Int32) × (Nat → Int32)) :=
  if t_size ≤ x1 then (some (t_leastSum, t_fitCount, t_enough, t_chosen, t_best)) else (if x1 < (4 : Int32) then (L_X1_descend_k3_17 t_size t_low t_width t_limit t_needed t_parts t_open t_all fu_ t_leastSum t_fitCount t_enough t_chosen t_best x1 x3 x4 x2) else (some (t_leastSum, t_fitCount, t_enough, t_chosen, t_best)))
set_option maxHeartbeats 4000000 in
set_option maxRecDepth 100000 in
theorem c_X1_descend_k3 (l : Launch) (D : va_G) (K : Nat → ClassId) (g_t : Nat → Nat) (t_size : Int32) (t_low : Int32) (t_width : Int32) (t_limit : Int32) (t_needed : Int32) (t_parts : Int32) (t_leastSum : Int32) (t_fitCount : Int32) (t_open : Nat → Int64) (t_enough : Nat → Int64) (t_all : Nat → Int64) (t_chosen : Nat → Int32) (t_best : Nat → Int32) (x1 : Int32) (x2 : Int32) (x3 : Int32) (x4 : Int32) (res : Int32 × Int32 × (Nat → Int64) × (Nat → Int32) × (Nat → Int32)) (hF : F_X1_descend_k3 t_size t_low t_width t_limit t_needed t_parts t_leastSum t_fitCount t_open t_enough t_all t_chosen t_best x1 x2 x3 x4 = some res) :
    Mv_ l yX1_descend wsX1_descend rmX1_descend_k3 D K [.ref (g_t 0), .int x1, .int x2, .int x3, .int x4] (w_X1_descend_k3 K g_t t_size t_low t_width t_limit t_needed t_parts t_leastSum t_fitCount t_open t_enough t_all t_chosen t_best) (w_X1_descend_k3 K g_t t_size t_low t_width t_limit t_needed t_parts res.1 res.2.1 t_open res.2.2.1 t_all res.2.2.2.1 res.2.2.2.2) := by
  refine en_v (cc := cX1_descend) (maxL := 8) (own := RX1) (by decide) rfl rfl (Nat.le_of_ble_eq_true rfl) ?_
  intro p e s m args below meth c A Q H locs ls C0 hP hD hS hl HR
  obtain ⟨⟨hx, hb, hml, hown, hts⟩, hK, -⟩ := id C0
  have hl : lv_has ls 8 [(0, .ref (g_t 0)), (1, .int x1), (2, .int x2), (3, .int x3), (4, .int x4)] := hl
  unfold F_X1_descend_k3 at hF
  refine lv_iload_n hx hb dX1_descend_0 rfl (lv_at hl 1 rfl) ?_
  refine lv_aload_n hx hb dX1_descend_1 rfl (lv_at hl 0 rfl) ?_
  refine va_get (D := D) (ci := 1) (v := .int t_size) (C := RX1) (T := TX1) (N := 13) hx hb hts iw_X1_descend_k3_X1 hown hK hP 0 rfl rfl 4 (by decide) (hts _ fl_X1_descend_k3_28) (fun _ h9 => h9) rfl dX1_descend_2 ?_
  refine lv_icmp_ge (tgt := 13) hx hb dX1_descend_5 (by decide) (fun c_1 => ?_) (fun c_1 => ?_)
  · have hF := it_pos c_1 hF
    obtain rfl := Option.some.inj hF
    exact HR 13 H locs ls dX1_descend_13 hP hD hS
  · have hF := it_neg c_1 hF
    refine lv_iload_n hx hb dX1_descend_8 rfl (lv_at hl 1 rfl) ?_
    refine lv_iconst (v := 4) hx hb dX1_descend_9 (by decide) ?_
    refine lv_icmp_lt (tgt := 14) hx hb dX1_descend_10 (by decide) (fun c_2 => ?_) (fun c_2 => ?_)
    · have hF := it_pos c_2 hF
      refine lv_iload_n hx hb dX1_descend_14 rfl (lv_at hl 2 rfl) ?_
      refine lv_istore (lv' := [(5, .int x2), (0, .ref (g_t 0)), (1, .int x1), (2, .int x2), (3, .int x3), (4, .int x4)]) hx hb dX1_descend_15 hl (by decide) rfl (fun ls hl => ?_)
      exact w_X1_descend_k3_17 C0 HR fu_ t_leastSum t_fitCount t_enough t_chosen t_best x1 x3 x4 x2 H locs ls hP hD hS (lv_sub hl [1, 2, 4, 5, 0] rfl) hF
    · have hF := it_neg c_2 hF
      obtain rfl := Option.some.inj hF
      exact HR 13 H locs ls dX1_descend_13 hP hD hS

/-! StaggerRadar.Chooser.descend(IIII)V -/
abbrev rmX1_descend_k4 : Room := { frames := 5, cells := 0, slots := 0, locals := 162 }
theorem fl_X1_descend_k4_21 : Cond.fieldLink RX1 21 "StaggerRadar$Chooser" "chosen" "[I" ∈ wsX1_descend := by decide +kernel
theorem fl_X1_descend_k4_28 : Cond.fieldLink RX1 28 "StaggerRadar$Chooser" "size" "I" ∈ wsX1_descend := by decide +kernel
theorem fl_X1_descend_k4_32 : Cond.fieldLink RX1 32 "StaggerRadar$Chooser" "low" "I" ∈ wsX1_descend := by decide +kernel
theorem fl_X1_descend_k4_41 : Cond.fieldLink RX1 41 "StaggerRadar$Chooser" "width" "I" ∈ wsX1_descend := by decide +kernel
theorem fl_X1_descend_k4_49 : Cond.fieldLink RX1 49 "StaggerRadar$Chooser" "limit" "I" ∈ wsX1_descend := by decide +kernel
theorem iw_X1_descend_k4_X1 : ∀ w ∈ u_ws RX1 TX1 13, w ∈ wsX1_descend := by decide +kernel
abbrev w_X1_descend_k4 (K : Nat → ClassId) (g_t : Nat → Nat) (t_size : Int32) (t_low : Int32) (t_width : Int32) (t_limit : Int32) (t_needed : Int32) (t_parts : Int32) (t_leastSum : Int32) (t_fitCount : Int32) (t_open : Nat → Int64) (t_enough : Nat → Int64) (t_all : Nat → Int64) (t_chosen : Nat → Int32) (t_best : Nat → Int32) : va_W := [((g_t 0), .inr (1, [.ref (g_t 1), .ref (g_t 2), .ref (g_t 3), .ref (g_t 4), .int t_size, .int t_low, .int t_width, .int t_limit, .int t_needed, .int t_parts, .ref (g_t 11), .int t_leastSum, .int t_fitCount])), ((g_t 1), .inl (K 1, 84, .inr (.inl t_open))), ((g_t 2), .inl (K 1, 80, .inr (.inl t_enough))), ((g_t 3), .inl (K 1, 4, .inr (.inl t_all))), ((g_t 4), .inl (K 0, 4, .inl t_chosen)), ((g_t 11), .inl (K 0, 4, .inl t_best))]
def J_X1_descend_k4_53 (t_size : Int32) (t_low : Int32) (t_width : Int32) (t_limit : Int32) (t_needed : Int32) (t_parts : Int32) (t_open : Nat → Int64) (t_all : Nat → Int64) (k_17 : Int32 → Int32 → (Nat → Int64) → (Nat → Int32) → (Nat → Int32) → Int32 → Int32 → Int32 → Int32 → Option (Int32 × Int32 × (Nat → Int64) × (Nat → Int32) × (Nat → Int32))) (t_leastSum : Int32) (t_fitCount : Int32) (t_enough : Nat → Int64) (t_chosen : Nat → Int32) (t_best : Nat → Int32) (x1 : Int32) (x3 : Int32) (x4 : Int32) (x5 : Int32) (x6 : Int32) (s0 : Int32) : Option (Int32 × Int32 × (Nat → Int64) × (Nat → Int32) × (Nat → Int32)) :=
  gd_ (in_b x1 4) (if t_size ≤ (x1 + (1 : Int32)) then (if s0 < t_limit then (k_17 t_leastSum t_fitCount t_enough (upd t_chosen (x1).toNatClampNeg x6) t_best x1 x3 x4 (x5 + (1 : Int32))) else ((F_X1_opensAll t_needed t_parts t_open t_enough t_all x1 x5).bind fun r_4 => (if r_4 = (0 : Int32) then (k_17 t_leastSum t_fitCount t_enough (upd t_chosen (x1).toNatClampNeg x6) t_best x1 x3 x4 (x5 + (1 : Int32))) else ((F_X1_keepFit t_leastSum t_fitCount (upd t_chosen (x1).toNatClampNeg x6) t_best (x4 + x6)).bind fun r_7 => (k_17 r_7.1 r_7.2.1 t_enough (upd t_chosen (x1).toNatClampNeg x6) r_7.2.2 x1 x3 x4 (x5 + (1 : Int32))))))) else ((F_X1_addChoice t_needed t_parts t_open t_enough x1 x5).bind fun r_9 => ((F_X1_descend_k3 t_size t_low t_width t_limit t_needed t_parts t_leastSum t_fitCount t_open r_9 t_all (upd t_chosen (x1).toNatClampNeg x6) t_best (x1 + (1 : Int32)) (x5 + (1 : Int32)) s0 (x4 + x6)).bind fun r_11 => (k_17 r_11.1 r_11.2.1 r_11.2.2.1 r_11.2.2.2.1 r_11.2.2.2.2 x1 x3 x4 (x5 + (1 : Int32))))))
set_option maxHeartbeats 4000000 in
set_option maxRecDepth 100000 in
theorem w_X1_descend_k4_53 {p : Program} {l : Launch} {e : Env} {s : State} {m : MethodId} {args : Array Value} {below : List Frame} {meth : Method} {c : Code} {D : va_G} {K : Nat → ClassId} {A : Nat → Prop} {Q : State → Prop} (C0 : cx_ p s m args c cX1_descend 8 RX1 wsX1_descend D K A) {g_t : Nat → Nat} {t_size : Int32} {t_low : Int32} {t_width : Int32} {t_limit : Int32} {t_needed : Int32} {t_parts : Int32} {t_open : Nat → Int64} {t_all : Nat → Int64} {res : Int32 × Int32 × (Nat → Int64) × (Nat → Int32) × (Nat → Int32)} (HR : ∀ (pc : Nat) (H : Heap) (locs : List Loc) (ls : Array Slot), decode cX1_descend pc = .ok (.return_, 1) → va_P D vwCl (w_X1_descend_k4 K g_t t_size t_low t_width t_limit t_needed t_parts res.1 res.2.1 t_open res.2.2.1 t_all res.2.2.2.1 res.2.2.2.2) H → va_D A (w_X1_descend_k4 K g_t t_size t_low t_width t_limit t_needed t_parts res.1 res.2.1 t_open res.2.2.1 t_all res.2.2.2.1 res.2.2.2.2) → va_S A s.heap H locs → W p l e rmX1_descend_k4 s m args below meth c H locs 0 0 Q (F0 m pc ls [])) {k_17 : Int32 → Int32 → (Nat → Int64) → (Nat → Int32) → (Nat → Int32) → Int32 → Int32 → Int32 → Int32 → Option (Int32 × Int32 × (Nat → Int64) × (Nat → Int32) × (Nat → Int32))} (HK_17 : ∀ (t_leastSum : Int32) (t_fitCount : Int32) (t_enough : Nat → Int64) (t_chosen : Nat → Int32) (t_best : Nat → Int32) (x1 : Int32) (x3 : Int32) (x4 : Int32) (x5 : Int32) (H : Heap) (locs : List Loc) (ls : Array Slot), va_P D vwCl (w_X1_descend_k4 K g_t t_size t_low t_width t_limit t_needed t_parts t_leastSum t_fitCount t_open t_enough t_all t_chosen t_best) H → va_D A (w_X1_descend_k4 K g_t t_size t_low t_width t_limit t_needed t_parts t_leastSum t_fitCount t_open t_enough t_all t_chosen t_best) → va_S A s.heap H locs → lv_has ls 8 [(0, .ref (g_t 0)), (1, .int x1), (3, .int x3), (4, .int x4), (5, .int x5)] → k_17 t_leastSum t_fitCount t_enough t_chosen t_best x1 x3 x4 x5 = some res → W p l e rmX1_descend_k4 s m args below meth c H locs 0 0 Q (F0 m 17 ls [])) :
    ∀ (t_leastSum : Int32) (t_fitCount : Int32) (t_enough : Nat → Int64) (t_chosen : Nat → Int32) (t_best : Nat → Int32) (x1 : Int32) (x3 : Int32) (x4 : Int32) (x5 : Int32) (x6 : Int32) (s0 : Int32) (H : Heap) (locs : List Loc) (ls : Array Slot), va_P D vwCl (w_X1_descend_k4 K g_t t_size t_low t_width t_limit t_needed t_parts t_leastSum t_fitCount t_open t_enough t_all t_chosen t_best) H → va_D A (w_X1_descend_k4 K g_t t_size t_low t_width t_limit t_needed t_parts t_leastSum t_fitCount t_open t_enough t_all t_chosen t_best) → va_S A s.heap H locs → lv_has ls 8 [(0, .ref (g_t 0)), (1, .int x1), (3, .int x3), (4, .int x4), (5, .int x5), (6, .int x6)] → J_X1_descend_k4_53 t_size t_low t_width t_limit t_needed t_parts t_open t_all k_17 t_leastSum t_fitCount t_enough t_chosen t_best x1 x3 x4 x5 x6 s0 = some res → W p l e rmX1_descend_k4 s m args below meth c H locs 0 0 Q (F0 m 53 ls [.int s0]) := by
  obtain ⟨⟨hx, hb, hml, hown, hts⟩, hK, -⟩ := id C0
  intro t_leastSum t_fitCount t_enough t_chosen t_best x1 x3 x4 x5 x6 s0 H locs ls hP hD hS hl hF
  unfold J_X1_descend_k4_53 at hF
  refine lv_istore (lv' := [(7, .int s0), (0, .ref (g_t 0)), (1, .int x1), (3, .int x3), (4, .int x4), (5, .int x5), (6, .int x6)]) hx hb dX1_descend_53 hl (by decide) rfl (fun ls hl => ?_)
  refine lv_aload_n hx hb dX1_descend_55 rfl (lv_at hl 1 rfl) ?_
  refine va_get (D := D) (ci := 1) (v := .ref (g_t 4)) (C := RX1) (T := TX1) (N := 13) hx hb hts iw_X1_descend_k4_X1 hown hK hP 0 rfl rfl 3 (by decide) (hts _ fl_X1_descend_k4_21) (fun _ h9 => h9) rfl dX1_descend_56 ?_
  refine lv_iload_n hx hb dX1_descend_59 rfl (lv_at hl 2 rfl) ?_
  refine lv_iload hx hb dX1_descend_60 (lv_at hl 6 rfl) ?_
  obtain ⟨hg_1, hF⟩ := gd_some hF
  refine xs_i (f := t_chosen) hx hb hK hP hD hS 4 0 rfl rfl rfl (in_v hg_1) dX1_descend_62 (fun H locs hP hD hS => ?_)
  have hP : va_P D vwCl (w_X1_descend_k4 K g_t t_size t_low t_width t_limit t_needed t_parts t_leastSum t_fitCount t_open t_enough t_all (upd t_chosen (x1).toNatClampNeg x6) t_best) H := hP
  have hD : va_D A (w_X1_descend_k4 K g_t t_size t_low t_width t_limit t_needed t_parts t_leastSum t_fitCount t_open t_enough t_all (upd t_chosen (x1).toNatClampNeg x6) t_best) := hD
  refine lv_iload_n hx hb dX1_descend_63 rfl (lv_at hl 2 rfl) ?_
  refine lv_iconst (v := 1) hx hb dX1_descend_64 (by decide) ?_
  refine lv_iadd hx hb dX1_descend_65 ?_
  refine lv_aload_n hx hb dX1_descend_66 rfl (lv_at hl 1 rfl) ?_
  refine va_get (D := D) (ci := 1) (v := .int t_size) (C := RX1) (T := TX1) (N := 13) hx hb hts iw_X1_descend_k4_X1 hown hK hP 0 rfl rfl 4 (by decide) (hts _ fl_X1_descend_k4_28) (fun _ h9 => h9) rfl dX1_descend_67 ?_
  refine lv_icmp_ge (tgt := 101) hx hb dX1_descend_70 (by decide) (fun c_2 => ?_) (fun c_2 => ?_)
  · have hF := it_pos c_2 hF
    refine lv_iload hx hb dX1_descend_101 (lv_at hl 0 rfl) ?_
    refine lv_aload_n hx hb dX1_descend_103 rfl (lv_at hl 1 rfl) ?_
    refine va_get (D := D) (ci := 1) (v := .int t_limit) (C := RX1) (T := TX1) (N := 13) hx hb hts iw_X1_descend_k4_X1 hown hK hP 0 rfl rfl 7 (by decide) (hts _ fl_X1_descend_k4_49) (fun _ h9 => h9) rfl dX1_descend_104 ?_
    refine lv_icmp_lt (tgt := 129) hx hb dX1_descend_107 (by decide) (fun c_3 => ?_) (fun c_3 => ?_)
    · have hF := it_pos c_3 hF
      refine lv_iinc (v := (x5 + (1 : Int32))) (lv' := [(5, .int (x5 + (1 : Int32))), (7, .int s0), (0, .ref (g_t 0)), (1, .int x1), (3, .int x3), (4, .int x4), (6, .int x6)]) hx hb dX1_descend_129 hl (k := 5) rfl (congrArg (fun z => x5 + z) (by decide)) (by decide) rfl (fun ls hl => ?_)
      refine lv_goto (tgt := 17) hx hb dX1_descend_132 (by decide) ?_
      exact HK_17 t_leastSum t_fitCount t_enough (upd t_chosen (x1).toNatClampNeg x6) t_best x1 x3 x4 (x5 + (1 : Int32)) H locs ls hP hD hS (lv_sub hl [2, 3, 4, 5, 0] rfl) hF
    · have hF := it_neg c_3 hF
      refine lv_aload_n hx hb dX1_descend_110 rfl (lv_at hl 1 rfl) ?_
      refine lv_iload_n hx hb dX1_descend_111 rfl (lv_at hl 2 rfl) ?_
      refine lv_iload hx hb dX1_descend_112 (lv_at hl 5 rfl) ?_
      obtain ⟨r_4, hc_5, hF⟩ := bn_some hF
      refine xc_i (wn := (w_X1_descend_k4 K g_t t_size t_low t_width t_limit t_needed t_parts t_leastSum t_fitCount t_open t_enough t_all (upd t_chosen (x1).toNatClampNeg x6) t_best)) hP hD hS C0.2.2.1 [0, 1, 2, 3] [4, 5] [2, 3, 4, 5, 0, 1] rfl rfl (by decide) (by decide) rfl (by decide) (va_runV (As := [.int x1, .int x5]) (rest := []) C0.1 (c_X1_opensAll l D K g_t t_size t_low t_width t_limit t_needed t_parts t_leastSum t_fitCount t_open t_enough t_all x1 x5 r_4 hc_5 H.size) (cwV 2 hts gX1_descend_X1_opensAll rfl rfl rfl (by decide +kernel) ⟨Nat.le_of_ble_eq_true rfl, Nat.le_of_ble_eq_true rfl⟩) (xp_V C0.2 hP hD hS [0, 1, 2, 3] rfl (by decide) 1 0 rfl rfl rfl) rfl rfl hl.1 rfl (lv_room (Nat.le_of_ble_eq_true rfl)) dX1_descend_114 ⟨Nat.le_of_ble_eq_true rfl, Nat.le_of_ble_eq_true rfl⟩) (fun H locs hP hD hS => ?_)
      refine lv_if_eq (tgt := 129) hx hb dX1_descend_117 (by decide) (fun c_6 => ?_) (fun c_6 => ?_)
      · have hF := it_pos c_6 hF
        refine lv_iinc (v := (x5 + (1 : Int32))) (lv' := [(5, .int (x5 + (1 : Int32))), (7, .int s0), (0, .ref (g_t 0)), (1, .int x1), (3, .int x3), (4, .int x4), (6, .int x6)]) hx hb dX1_descend_129 hl (k := 5) rfl (congrArg (fun z => x5 + z) (by decide)) (by decide) rfl (fun ls hl => ?_)
        refine lv_goto (tgt := 17) hx hb dX1_descend_132 (by decide) ?_
        exact HK_17 t_leastSum t_fitCount t_enough (upd t_chosen (x1).toNatClampNeg x6) t_best x1 x3 x4 (x5 + (1 : Int32)) H locs ls hP hD hS (lv_sub hl [2, 3, 4, 5, 0] rfl) hF
      · have hF := it_neg c_6 hF
        refine lv_aload_n hx hb dX1_descend_120 rfl (lv_at hl 1 rfl) ?_
        refine lv_iload hx hb dX1_descend_121 (lv_at hl 4 rfl) ?_
        refine lv_iload hx hb dX1_descend_123 (lv_at hl 6 rfl) ?_
        refine lv_iadd hx hb dX1_descend_125 ?_
        obtain ⟨r_7, hc_8, hF⟩ := bn_some hF
        refine xc_v (wn := (w_X1_descend_k4 K g_t t_size t_low t_width t_limit t_needed t_parts r_7.1 r_7.2.1 t_open t_enough t_all (upd t_chosen (x1).toNatClampNeg x6) r_7.2.2)) hP hD hS C0.2.2.1 [0, 4, 5] [1, 2, 3] [3, 0, 1, 2, 4, 5] rfl rfl (by decide) (by decide) rfl (by decide) (va_runV (As := [.int (x4 + x6)]) (rest := []) C0.1 (c_X1_keepFit l D K g_t t_size t_low t_width t_limit t_needed t_parts t_leastSum t_fitCount (upd t_chosen (x1).toNatClampNeg x6) t_best (x4 + x6) r_7 hc_8 H.size) (cwV 1 hts gX1_descend_X1_keepFit rfl rfl rfl (by decide +kernel) ⟨Nat.le_of_ble_eq_true rfl, Nat.le_of_ble_eq_true rfl⟩) (xp_V C0.2 hP hD hS [0, 4, 5] rfl (by decide) 1 0 rfl rfl rfl) rfl rfl hl.1 rfl (lv_room (Nat.le_of_ble_eq_true rfl)) dX1_descend_126 ⟨Nat.le_of_ble_eq_true rfl, Nat.le_of_ble_eq_true rfl⟩) (fun H locs hP hD hS => ?_)
        refine lv_iinc (v := (x5 + (1 : Int32))) (lv' := [(5, .int (x5 + (1 : Int32))), (7, .int s0), (0, .ref (g_t 0)), (1, .int x1), (3, .int x3), (4, .int x4), (6, .int x6)]) hx hb dX1_descend_129 hl (k := 5) rfl (congrArg (fun z => x5 + z) (by decide)) (by decide) rfl (fun ls hl => ?_)
        refine lv_goto (tgt := 17) hx hb dX1_descend_132 (by decide) ?_
        exact HK_17 r_7.1 r_7.2.1 t_enough (upd t_chosen (x1).toNatClampNeg x6) r_7.2.2 x1 x3 x4 (x5 + (1 : Int32)) H locs ls hP hD hS (lv_sub hl [2, 3, 4, 5, 0] rfl) hF
  · have hF := it_neg c_2 hF
    refine lv_aload_n hx hb dX1_descend_73 rfl (lv_at hl 1 rfl) ?_
    refine lv_iload_n hx hb dX1_descend_74 rfl (lv_at hl 2 rfl) ?_
    refine lv_iload hx hb dX1_descend_75 (lv_at hl 5 rfl) ?_
    obtain ⟨r_9, hc_10, hF⟩ := bn_some hF
    refine xc_v (wn := (w_X1_descend_k4 K g_t t_size t_low t_width t_limit t_needed t_parts t_leastSum t_fitCount t_open r_9 t_all (upd t_chosen (x1).toNatClampNeg x6) t_best)) hP hD hS C0.2.2.1 [0, 1, 2] [3, 4, 5] [3, 4, 5, 0, 1, 2] rfl rfl (by decide) (by decide) rfl (by decide) (va_runV (As := [.int x1, .int x5]) (rest := []) C0.1 (c_X1_addChoice l D K g_t t_size t_low t_width t_limit t_needed t_parts t_leastSum t_fitCount t_open t_enough x1 x5 r_9 hc_10 H.size) (cwV 2 hts gX1_descend_X1_addChoice rfl rfl rfl (by decide +kernel) ⟨Nat.le_of_ble_eq_true rfl, Nat.le_of_ble_eq_true rfl⟩) (xp_V C0.2 hP hD hS [0, 1, 2] rfl (by decide) 1 0 rfl rfl rfl) rfl rfl hl.1 rfl (lv_room (Nat.le_of_ble_eq_true rfl)) dX1_descend_77 ⟨Nat.le_of_ble_eq_true rfl, Nat.le_of_ble_eq_true rfl⟩) (fun H locs hP hD hS => ?_)
    refine lv_aload_n hx hb dX1_descend_80 rfl (lv_at hl 1 rfl) ?_
    refine lv_iload_n hx hb dX1_descend_81 rfl (lv_at hl 2 rfl) ?_
    refine lv_iconst (v := 1) hx hb dX1_descend_82 (by decide) ?_
    refine lv_iadd hx hb dX1_descend_83 ?_
    refine lv_iload hx hb dX1_descend_84 (lv_at hl 5 rfl) ?_
    refine lv_iconst (v := 1) hx hb dX1_descend_86 (by decide) ?_
    refine lv_iadd hx hb dX1_descend_87 ?_
    refine lv_iload hx hb dX1_descend_88 (lv_at hl 0 rfl) ?_
    refine lv_iload hx hb dX1_descend_90 (lv_at hl 4 rfl) ?_
    refine lv_iload hx hb dX1_descend_92 (lv_at hl 6 rfl) ?_
    refine lv_iadd hx hb dX1_descend_94 ?_
    obtain ⟨r_11, hc_12, hF⟩ := bn_some hF
    refine xc_v (wn := (w_X1_descend_k4 K g_t t_size t_low t_width t_limit t_needed t_parts r_11.1 r_11.2.1 t_open r_11.2.2.1 t_all r_11.2.2.2.1 r_11.2.2.2.2)) hP hD hS C0.2.2.1 [0, 1, 2, 3, 4, 5] [] [0, 1, 2, 3, 4, 5] rfl rfl (by decide) (by decide) rfl (by decide) (va_runV (As := [.int (x1 + (1 : Int32)), .int (x5 + (1 : Int32)), .int s0, .int (x4 + x6)]) (rest := []) C0.1 (c_X1_descend_k3 l D K g_t t_size t_low t_width t_limit t_needed t_parts t_leastSum t_fitCount t_open r_9 t_all (upd t_chosen (x1).toNatClampNeg x6) t_best (x1 + (1 : Int32)) (x5 + (1 : Int32)) s0 (x4 + x6) r_11 hc_12 H.size) (cwV 4 hts gX1_descend_X1_descend rfl rfl rfl (by decide +kernel) ⟨Nat.le_of_ble_eq_true rfl, Nat.le_of_ble_eq_true rfl⟩) (xp_V C0.2 hP hD hS [0, 1, 2, 3, 4, 5] rfl (by decide) 1 0 rfl rfl rfl) rfl rfl hl.1 rfl (lv_room (Nat.le_of_ble_eq_true rfl)) dX1_descend_95 ⟨Nat.le_of_ble_eq_true rfl, Nat.le_of_ble_eq_true rfl⟩) (fun H locs hP hD hS => ?_)
    refine lv_goto (tgt := 129) hx hb dX1_descend_98 (by decide) ?_
    refine lv_iinc (v := (x5 + (1 : Int32))) (lv' := [(5, .int (x5 + (1 : Int32))), (7, .int s0), (0, .ref (g_t 0)), (1, .int x1), (3, .int x3), (4, .int x4), (6, .int x6)]) hx hb dX1_descend_129 hl (k := 5) rfl (congrArg (fun z => x5 + z) (by decide)) (by decide) rfl (fun ls hl => ?_)
    refine lv_goto (tgt := 17) hx hb dX1_descend_132 (by decide) ?_
    exact HK_17 r_11.1 r_11.2.1 r_11.2.2.1 r_11.2.2.2.1 r_11.2.2.2.2 x1 x3 x4 (x5 + (1 : Int32)) H locs ls hP hD hS (lv_sub hl [2, 3, 4, 5, 0] rfl) hF
def L_X1_descend_k4_17 (t_size : Int32) (t_low : Int32) (t_width : Int32) (t_limit : Int32) (t_needed : Int32) (t_parts : Int32) (t_open : Nat → Int64) (t_all : Nat → Int64) : Nat → Int32 → Int32 → (Nat → Int64) → (Nat → Int32) → (Nat → Int32) → Int32 → Int32 → Int32 → Int32 → Option (Int32 × Int32 × (Nat → Int64) × (Nat → Int32) × (Nat → Int32))
  | 0, _, _, _, _, _, _, _, _, _ => none
  | n_ + 1, t_leastSum, t_fitCount, t_enough, t_chosen, t_best, x1, x3, x4, x5 =>
    if t_width ≤ x5 then (some (t_leastSum, t_fitCount, t_enough, t_chosen, t_best)) else (if x3 < t_limit then ((F_X10_leastCommon x3 (t_low + x5)).bind fun r_3 => (J_X1_descend_k4_53 t_size t_low t_width t_limit t_needed t_parts t_open t_all (L_X1_descend_k4_17 t_size t_low t_width t_limit t_needed t_parts t_open t_all n_) t_leastSum t_fitCount t_enough t_chosen t_best x1 x3 x4 x5 (t_low + x5) r_3)) else (J_X1_descend_k4_53 t_size t_low t_width t_limit t_needed t_parts t_open t_all (L_X1_descend_k4_17 t_size t_low t_width t_limit t_needed t_parts t_open t_all n_) t_leastSum t_fitCount t_enough t_chosen t_best x1 x3 x4 x5 (t_low + x5) x3))
set_option maxHeartbeats 4000000 in
set_option maxRecDepth 100000 in
theorem w_X1_descend_k4_17 {p : Program} {l : Launch} {e : Env} {s : State} {m : MethodId} {args : Array Value} {below : List Frame} {meth : Method} {c : Code} {D : va_G} {K : Nat → ClassId} {A : Nat → Prop} {Q : State → Prop} (C0 : cx_ p s m args c cX1_descend 8 RX1 wsX1_descend D K A) {g_t : Nat → Nat} {t_size : Int32} {t_low : Int32} {t_width : Int32} {t_limit : Int32} {t_needed : Int32} {t_parts : Int32} {t_open : Nat → Int64} {t_all : Nat → Int64} {res : Int32 × Int32 × (Nat → Int64) × (Nat → Int32) × (Nat → Int32)} (HR : ∀ (pc : Nat) (H : Heap) (locs : List Loc) (ls : Array Slot), decode cX1_descend pc = .ok (.return_, 1) → va_P D vwCl (w_X1_descend_k4 K g_t t_size t_low t_width t_limit t_needed t_parts res.1 res.2.1 t_open res.2.2.1 t_all res.2.2.2.1 res.2.2.2.2) H → va_D A (w_X1_descend_k4 K g_t t_size t_low t_width t_limit t_needed t_parts res.1 res.2.1 t_open res.2.2.1 t_all res.2.2.2.1 res.2.2.2.2) → va_S A s.heap H locs → W p l e rmX1_descend_k4 s m args below meth c H locs 0 0 Q (F0 m pc ls []))  :
    ∀ (n_ : Nat) (t_leastSum : Int32) (t_fitCount : Int32) (t_enough : Nat → Int64) (t_chosen : Nat → Int32) (t_best : Nat → Int32) (x1 : Int32) (x3 : Int32) (x4 : Int32) (x5 : Int32) (H : Heap) (locs : List Loc) (ls : Array Slot), va_P D vwCl (w_X1_descend_k4 K g_t t_size t_low t_width t_limit t_needed t_parts t_leastSum t_fitCount t_open t_enough t_all t_chosen t_best) H → va_D A (w_X1_descend_k4 K g_t t_size t_low t_width t_limit t_needed t_parts t_leastSum t_fitCount t_open t_enough t_all t_chosen t_best) → va_S A s.heap H locs → lv_has ls 8 [(0, .ref (g_t 0)), (1, .int x1), (3, .int x3), (4, .int x4), (5, .int x5)] → L_X1_descend_k4_17 t_size t_low t_width t_limit t_needed t_parts t_open t_all n_ t_leastSum t_fitCount t_enough t_chosen t_best x1 x3 x4 x5 = some res → W p l e rmX1_descend_k4 s m args below meth c H locs 0 0 Q (F0 m 17 ls []) := by
  obtain ⟨⟨hx, hb, hml, hown, hts⟩, hK, -⟩ := id C0
  intro n_
  induction n_ with
  | zero =>
    intro t_leastSum t_fitCount t_enough t_chosen t_best x1 x3 x4 x5 H locs ls hP hD hS hl hF
    exact no_s (show (none : Option (Int32 × Int32 × (Nat → Int64) × (Nat → Int32) × (Nat → Int32))) = some res from hF)
  | succ n_ ih =>
    intro t_leastSum t_fitCount t_enough t_chosen t_best x1 x3 x4 x5 H locs ls hP hD hS hl hF
    rw [L_X1_descend_k4_17] at hF
    refine lv_iload hx hb dX1_descend_17 (lv_at hl 4 rfl) ?_
    refine lv_aload_n hx hb dX1_descend_19 rfl (lv_at hl 0 rfl) ?_
    refine va_get (D := D) (ci := 1) (v := .int t_width) (C := RX1) (T := TX1) (N := 13) hx hb hts iw_X1_descend_k4_X1 hown hK hP 0 rfl rfl 6 (by decide) (hts _ fl_X1_descend_k4_41) (fun _ h9 => h9) rfl dX1_descend_20 ?_
    refine lv_icmp_ge (tgt := 135) hx hb dX1_descend_23 (by decide) (fun c_1 => ?_) (fun c_1 => ?_)
    · have hF := it_pos c_1 hF
      obtain rfl := Option.some.inj hF
      exact HR 135 H locs ls dX1_descend_135 hP hD hS
    · have hF := it_neg c_1 hF
      refine lv_aload_n hx hb dX1_descend_26 rfl (lv_at hl 0 rfl) ?_
      refine va_get (D := D) (ci := 1) (v := .int t_low) (C := RX1) (T := TX1) (N := 13) hx hb hts iw_X1_descend_k4_X1 hown hK hP 0 rfl rfl 5 (by decide) (hts _ fl_X1_descend_k4_32) (fun _ h9 => h9) rfl dX1_descend_27 ?_
      refine lv_iload hx hb dX1_descend_30 (lv_at hl 4 rfl) ?_
      refine lv_iadd hx hb dX1_descend_32 ?_
      refine lv_istore (lv' := [(6, .int (t_low + x5)), (0, .ref (g_t 0)), (1, .int x1), (3, .int x3), (4, .int x4), (5, .int x5)]) hx hb dX1_descend_33 hl (by decide) rfl (fun ls hl => ?_)
      refine lv_iload_n hx hb dX1_descend_35 rfl (lv_at hl 3 rfl) ?_
      refine lv_aload_n hx hb dX1_descend_36 rfl (lv_at hl 1 rfl) ?_
      refine va_get (D := D) (ci := 1) (v := .int t_limit) (C := RX1) (T := TX1) (N := 13) hx hb hts iw_X1_descend_k4_X1 hown hK hP 0 rfl rfl 7 (by decide) (hts _ fl_X1_descend_k4_49) (fun _ h9 => h9) rfl dX1_descend_37 ?_
      refine lv_icmp_lt (tgt := 47) hx hb dX1_descend_40 (by decide) (fun c_2 => ?_) (fun c_2 => ?_)
      · have hF := it_pos c_2 hF
        refine lv_iload_n hx hb dX1_descend_47 rfl (lv_at hl 3 rfl) ?_
        refine lv_iload hx hb dX1_descend_48 (lv_at hl 0 rfl) ?_
        obtain ⟨r_3, hc_4, hF⟩ := bn_some hF
        refine xc_i (wn := (w_X1_descend_k4 K g_t t_size t_low t_width t_limit t_needed t_parts t_leastSum t_fitCount t_open t_enough t_all t_chosen t_best)) hP hD hS C0.2.2.1 [] [0, 1, 2, 3, 4, 5] [0, 1, 2, 3, 4, 5] rfl rfl (by decide) (by decide) rfl (by decide) (va_runSN (host := "StaggerRadar") (As := [.int x3, .int (t_low + x5)]) (rest := []) C0.1 (c_X10_leastCommon l D K x3 (t_low + x5) r_3 hc_4 H.size) ⟨va_cnB 2 hts gX1_descend_X10_leastCommon_n94 rfl rfl rfl (C0.2.2.2.1.1 ("StaggerRadar$Chooser", 94, ⟨"StaggerRadar", "leastCommon", "(II)I"⟩, "StaggerRadar") (by decide +kernel)) (hts (.initialized RX10) (by decide +kernel)) (by decide +kernel) ⟨Nat.le_of_ble_eq_true rfl, Nat.le_of_ble_eq_true rfl⟩, hts (.static yX10_leastCommon) (by decide +kernel), trivial⟩ (xp_S C0.2 hP hD hS [] rfl (by decide)) rfl rfl hl.1 rfl (lv_room (Nat.le_of_ble_eq_true rfl)) dX1_descend_50 ⟨Nat.le_of_ble_eq_true rfl, Nat.le_of_ble_eq_true rfl⟩) (fun H locs hP hD hS => ?_)
        exact w_X1_descend_k4_53 C0 HR ih t_leastSum t_fitCount t_enough t_chosen t_best x1 x3 x4 x5 (t_low + x5) r_3 H locs ls hP hD hS (lv_sub hl [1, 2, 3, 4, 5, 0] rfl) hF
      · have hF := it_neg c_2 hF
        refine lv_iload_n hx hb dX1_descend_43 rfl (lv_at hl 3 rfl) ?_
        refine lv_goto (tgt := 53) hx hb dX1_descend_44 (by decide) ?_
        exact w_X1_descend_k4_53 C0 HR ih t_leastSum t_fitCount t_enough t_chosen t_best x1 x3 x4 x5 (t_low + x5) x3 H locs ls hP hD hS (lv_sub hl [1, 2, 3, 4, 5, 0] rfl) hF
def F_X1_descend_k4 (t_size : Int32) (t_low : Int32) (t_width : Int32) (t_limit : Int32) (t_needed : Int32) (t_parts : Int32) (t_leastSum : Int32) (t_fitCount : Int32) (t_open : Nat → Int64) (t_enough : Nat → Int64) (t_all : Nat → Int64) (t_chosen : Nat → Int32) (t_best : Nat → Int32) (x1 : Int32) (x2 : Int32) (x3 : Int32) (x4 : Int32) : Option (Int32 × Int32 × (Nat → Int64) × (Nat → Int32) × (Nat → Int32)) :=
  if t_size ≤ x1 then (some (t_leastSum, t_fitCount, t_enough, t_chosen, t_best)) else (if x1 < (4 : Int32) then (L_X1_descend_k4_17 t_size t_low t_width t_limit t_needed t_parts t_open t_all fu_ t_leastSum t_fitCount t_enough t_chosen t_best x1 x3 x4 x2) else (some (t_leastSum, t_fitCount, t_enough, t_chosen, t_best)))
set_option maxHeartbeats 4000000 in
set_option maxRecDepth 100000 in
theorem c_X1_descend_k4 (l : Launch) (D : va_G) (K : Nat → ClassId) (g_t : Nat → Nat) (t_size : Int32) (t_low : Int32) (t_width : Int32) (t_limit : Int32) (t_needed : Int32) (t_parts : Int32) (t_leastSum : Int32) (t_fitCount : Int32) (t_open : Nat → Int64) (t_enough : Nat → Int64) (t_all : Nat → Int64) (t_chosen : Nat → Int32) (t_best : Nat → Int32) (x1 : Int32) (x2 : Int32) (x3 : Int32) (x4 : Int32) (res : Int32 × Int32 × (Nat → Int64) × (Nat → Int32) × (Nat → Int32)) (hF : F_X1_descend_k4 t_size t_low t_width t_limit t_needed t_parts t_leastSum t_fitCount t_open t_enough t_all t_chosen t_best x1 x2 x3 x4 = some res) :
    Mv_ l yX1_descend wsX1_descend rmX1_descend_k4 D K [.ref (g_t 0), .int x1, .int x2, .int x3, .int x4] (w_X1_descend_k4 K g_t t_size t_low t_width t_limit t_needed t_parts t_leastSum t_fitCount t_open t_enough t_all t_chosen t_best) (w_X1_descend_k4 K g_t t_size t_low t_width t_limit t_needed t_parts res.1 res.2.1 t_open res.2.2.1 t_all res.2.2.2.1 res.2.2.2.2) := by
  refine en_v (cc := cX1_descend) (maxL := 8) (own := RX1) (by decide) rfl rfl (Nat.le_of_ble_eq_true rfl) ?_
  intro p e s m args below meth c A Q H locs ls C0 hP hD hS hl HR
  obtain ⟨⟨hx, hb, hml, hown, hts⟩, hK, -⟩ := id C0
  have hl : lv_has ls 8 [(0, .ref (g_t 0)), (1, .int x1), (2, .int x2), (3, .int x3), (4, .int x4)] := hl
  unfold F_X1_descend_k4 at hF
  refine lv_iload_n hx hb dX1_descend_0 rfl (lv_at hl 1 rfl) ?_
  refine lv_aload_n hx hb dX1_descend_1 rfl (lv_at hl 0 rfl) ?_
  refine va_get (D := D) (ci := 1) (v := .int t_size) (C := RX1) (T := TX1) (N := 13) hx hb hts iw_X1_descend_k4_X1 hown hK hP 0 rfl rfl 4 (by decide) (hts _ fl_X1_descend_k4_28) (fun _ h9 => h9) rfl dX1_descend_2 ?_
  refine lv_icmp_ge (tgt := 13) hx hb dX1_descend_5 (by decide) (fun c_1 => ?_) (fun c_1 => ?_)
  · have hF := it_pos c_1 hF
    obtain rfl := Option.some.inj hF
    exact HR 13 H locs ls dX1_descend_13 hP hD hS
  · have hF := it_neg c_1 hF
    refine lv_iload_n hx hb dX1_descend_8 rfl (lv_at hl 1 rfl) ?_
    refine lv_iconst (v := 4) hx hb dX1_descend_9 (by decide) ?_
    refine lv_icmp_lt (tgt := 14) hx hb dX1_descend_10 (by decide) (fun c_2 => ?_) (fun c_2 => ?_)
    · have hF := it_pos c_2 hF
      refine lv_iload_n hx hb dX1_descend_14 rfl (lv_at hl 2 rfl) ?_
      refine lv_istore (lv' := [(5, .int x2), (0, .ref (g_t 0)), (1, .int x1), (2, .int x2), (3, .int x3), (4, .int x4)]) hx hb dX1_descend_15 hl (by decide) rfl (fun ls hl => ?_)
      exact w_X1_descend_k4_17 C0 HR fu_ t_leastSum t_fitCount t_enough t_chosen t_best x1 x3 x4 x2 H locs ls hP hD hS (lv_sub hl [1, 2, 4, 5, 0] rfl) hF
    · have hF := it_neg c_2 hF
      obtain rfl := Option.some.inj hF
      exact HR 13 H locs ls dX1_descend_13 hP hD hS
