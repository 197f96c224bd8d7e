/-! StaggerRadar.Chooser.descend(IIII)V -/
abbrev rmX1_descend_k5 : Room := { frames := 6, cells := 0, slots := 0, locals := 189 }
theorem fl_X1_descend_k5_21 : Cond.fieldLink RX1 21 "StaggerRadar$Chooser" "chosen" "[I" ∈ wsX1_descend := by decide +kernel
theorem fl_X1_descend_k5_28 : Cond.fieldLink RX1 28 "StaggerRadar$Chooser" "size" "I" ∈ wsX1_descend := by decide +kernel
theorem fl_X1_descend_k5_32 : Cond.fieldLink RX1 32 "StaggerRadar$Chooser" "low" "I" ∈ wsX1_descend := by decide +kernel
theorem fl_X1_descend_k5_41 : Cond.fieldLink RX1 41 "StaggerRadar$Chooser" "width" "I" ∈ wsX1_descend := by decide +kernel
theorem fl_X1_descend_k5_49 : Cond.fieldLink RX1 49 "StaggerRadar$Chooser" "limit" "I" ∈ wsX1_descend := by decide +kernel
theorem iw_X1_descend_k5_X1 : ∀ w ∈ u_ws RX1 TX1 13, w ∈ wsX1_descend := by decide +kernel
abbrev w_X1_descend_k5 (K : Nat → ClassId) (g_t : Nat → Nat) (t_size : Int32) (t_low : Int32) (t_width : Int32) (t_limit : Int32) (t_needed : Int32) (t_parts : Int32) (t_leastSum : Int32) (t_fitCount : Int32) (t_open : Nat → Int64) (t_enough : Nat → Int64) (t_all : Nat → Int64) (t_chosen : Nat → Int32) (t_best : Nat → Int32) : va_W := [((g_t 0), .inr (1, [.ref (g_t 1), .ref (g_t 2), .ref (g_t 3), .ref (g_t 4), .int t_size, .int t_low, .int t_width, .int t_limit, .int t_needed, .int t_parts, .ref (g_t 11), .int t_leastSum, .int t_fitCount])), ((g_t 1), .inl (K 1, 84, .inr (.inl t_open))), ((g_t 2), .inl (K 1, 80, .inr (.inl t_enough))), ((g_t 3), .inl (K 1, 4, .inr (.inl t_all))), ((g_t 4), .inl (K 0, 4, .inl t_chosen)), ((g_t 11), .inl (K 0, 4, .inl t_best))]
def J_X1_descend_k5_53 (t_size : Int32) (t_low : Int32) (t_width : Int32) (t_limit : Int32) (t_needed : Int32) (t_parts : Int32) (t_open : Nat → Int64) (t_all : Nat → Int64) (k_17 : Int32 → Int32 → (Nat → Int64) → (Nat → Int32) → (Nat → Int32) → Int32 → Int32 → Int32 → Int32 → Option (Int32 × Int32 × (Nat → Int64) × (Nat → Int32) × (Nat → Int32))) (t_leastSum : Int32) (t_fitCount : Int32) (t_enough : Nat → Int64) (t_chosen : Nat → Int32) (t_best : Nat → Int32) (x1 : Int32) (x3 : Int32) (x4 : Int32) (x5 : Int32) (x6 : Int32) (s0 : Int32) : Option (Int32 × Int32 × (Nat → Int64) × (Nat → Int32) × (Nat → Int32)) :=
  gd_ (in_b x1 4) (if t_size ≤ (x1 + (1 : Int32)) then (if s0 < t_limit then (k_17 t_leastSum t_fitCount t_enough (upd t_chosen (x1).toNatClampNeg x6) t_best x1 x3 x4 (x5 + (1 : Int32))) else ((F_X1_opensAll t_needed t_parts t_open t_enough t_all x1 x5).bind fun r_4 => (if r_4 = (0 : Int32) then (k_17 t_leastSum t_fitCount t_enough (upd t_chosen (x1).toNatClampNeg x6) t_best x1 x3 x4 (x5 + (1 : Int32))) else ((F_X1_keepFit t_leastSum t_fitCount (upd t_chosen (x1).toNatClampNeg x6) t_best (x4 + x6)).bind fun r_7 => (k_17 r_7.1 r_7.2.1 t_enough (upd t_chosen (x1).toNatClampNeg x6) r_7.2.2 x1 x3 x4 (x5 + (1 : Int32))))))) else ((F_X1_addChoice t_needed t_parts t_open t_enough x1 x5).bind fun r_9 => ((F_X1_descend_k4 t_size t_low t_width t_limit t_needed t_parts t_leastSum t_fitCount t_open r_9 t_all (upd t_chosen (x1).toNatClampNeg x6) t_best (x1 + (1 : Int32)) (x5 + (1 : Int32)) s0 (x4 + x6)).bind fun r_11 => (k_17 r_11.1 r_11.2.1 r_11.2.2.1 r_11.2.2.2.1 r_11.2.2.2.2 x1 x3 x4 (x5 + (1 : Int32))))))
set_option maxHeartbeats 4000000 in
set_option maxRecDepth 100000 in
theorem w_X1_descend_k5_53 {p : Program} {l : Launch} {e : Env} {s : State} {m : MethodId} {args : Array Value} {below : List Frame} {meth : Method} {c : Code} {D : va_G} {K : Nat → ClassId} {A : Nat → Prop} {Q : State → Prop} (C0 : cx_ p s m args c cX1_descend 8 RX1 wsX1_descend D K A) {g_t : Nat → Nat} {t_size : Int32} {t_low : Int32} {t_width : Int32} {t_limit : Int32} {t_needed : Int32} {t_parts : Int32} {t_open : Nat → Int64} {t_all : Nat → Int64} {res : Int32 × Int32 × (Nat → Int64) × (Nat → Int32) × (Nat → Int32)} (HR : ∀ (pc : Nat) (H : Heap) (locs : List Loc) (ls : Array Slot), decode cX1_descend pc = .ok (.return_, 1) → va_P D vwCl (w_X1_descend_k5 K g_t t_size t_low t_width t_limit t_needed t_parts res.1 res.2.1 t_open res.2.2.1 t_all res.2.2.2.1 res.2.2.2.2) H → va_D A (w_X1_descend_k5 K g_t t_size t_low t_width t_limit t_needed t_parts res.1 res.2.1 t_open res.2.2.1 t_all res.2.2.2.1 res.2.2.2.2) → va_S A s.heap H locs → W p l e rmX1_descend_k5 s m args below meth c H locs 0 0 Q (F0 m pc ls [])) {k_17 : Int32 → Int32 → (Nat → Int64) → (Nat → Int32) → (Nat → Int32) → Int32 → Int32 → Int32 → Int32 → Option (Int32 × Int32 × (Nat → Int64) × (Nat → Int32) × (Nat → Int32))} (HK_17 : ∀ (t_leastSum : Int32) (t_fitCount : Int32) (t_enough : Nat → Int64) (t_chosen : Nat → Int32) (t_best : Nat → Int32) (x1 : Int32) (x3 : Int32) (x4 : Int32) (x5 : Int32) (H : Heap) (locs : List Loc) (ls : Array Slot), va_P D vwCl (w_X1_descend_k5 K g_t t_size t_low t_width t_limit t_needed t_parts t_leastSum t_fitCount t_open t_enough t_all t_chosen t_best) H → va_D A (w_X1_descend_k5 K g_t t_size t_low t_width t_limit t_needed t_parts t_leastSum t_fitCount t_open t_enough t_all t_chosen t_best) → va_S A s.heap H locs → lv_has ls 8 [(0, .ref (g_t 0)), (1, .int x1), (3, .int x3), (4, .int x4), (5, .int x5)] → k_17 t_leastSum t_fitCount t_enough t_chosen t_best x1 x3 x4 x5 = some res → W p l e rmX1_descend_k5 s m args below meth c H locs 0 0 Q (F0 m 17 ls [])) :
    ∀ (t_leastSum : Int32) (t_fitCount : Int32) (t_enough : Nat → Int64) (t_chosen : Nat → Int32) (t_best : Nat → Int32) (x1 : Int32) (x3 : Int32) (x4 : Int32) (x5 : Int32) (x6 : Int32) (s0 : Int32) (H : Heap) (locs : List Loc) (ls : Array Slot), va_P D vwCl (w_X1_descend_k5 K g_t t_size t_low t_width t_limit t_needed t_parts t_leastSum t_fitCount t_open t_enough t_all t_chosen t_best) H → va_D A (w_X1_descend_k5 K g_t t_size t_low t_width t_limit t_needed t_parts t_leastSum t_fitCount t_open t_enough t_all t_chosen t_best) → va_S A s.heap H locs → lv_has ls 8 [(0, .ref (g_t 0)), (1, .int x1), (3, .int x3), (4, .int x4), (5, .int x5), (6, .int x6)] → J_X1_descend_k5_53 t_size t_low t_width t_limit t_needed t_parts t_open t_all k_17 t_leastSum t_fitCount t_enough t_chosen t_best x1 x3 x4 x5 x6 s0 = some res → W p l e rmX1_descend_k5 s m args below meth c H locs 0 0 Q (F0 m 53 ls [.int s0]) := by
  obtain ⟨⟨hx, hb, hml, hown, hts⟩, hK, -⟩ := id C0
  intro t_leastSum t_fitCount t_enough t_chosen t_best x1 x3 x4 x5 x6 s0 H locs ls hP hD hS hl hF
  unfold J_X1_descend_k5_53 at hF
  refine lv_istore (lv' := [(7, .int s0), (0, .ref (g_t 0)), (1, .int x1), (3, .int x3), (4, .int x4), (5, .int x5), (6, .int x6)]) hx hb dX1_descend_53 hl (by decide) rfl (fun ls hl => ?_)
  refine lv_aload_n hx hb dX1_descend_55 rfl (lv_at hl 1 rfl) ?_
  refine va_get (D := D) (ci := 1) (v := .ref (g_t 4)) (C := RX1) (T := TX1) (N := 13) hx hb hts iw_X1_descend_k5_X1 hown hK hP 0 rfl rfl 3 (by decide) (hts _ fl_X1_descend_k5_21) (fun _ h9 => h9) rfl dX1_descend_56 ?_
  refine lv_iload_n hx hb dX1_descend_59 rfl (lv_at hl 2 rfl) ?_
  refine lv_iload hx hb dX1_descend_60 (lv_at hl 6 rfl) ?_
  obtain ⟨hg_1, hF⟩ := gd_some hF
  refine xs_i (f := t_chosen) hx hb hK hP hD hS 4 0 rfl rfl rfl (in_v hg_1) dX1_descend_62 (fun H locs hP hD hS => ?_)
  have hP : va_P D vwCl (w_X1_descend_k5 K g_t t_size t_low t_width t_limit t_needed t_parts t_leastSum t_fitCount t_open t_enough t_all (upd t_chosen (x1).toNatClampNeg x6) t_best) H := hP
  have hD : va_D A (w_X1_descend_k5 K g_t t_size t_low t_width t_limit t_needed t_parts t_leastSum t_fitCount t_open t_enough t_all (upd t_chosen (x1).toNatClampNeg x6) t_best) := hD
  refine lv_iload_n hx hb dX1_descend_63 rfl (lv_at hl 2 rfl) ?_
  refine lv_iconst (v := 1) hx hb dX1_descend_64 (by decide) ?_
  refine lv_iadd hx hb dX1_descend_65 ?_
  refine lv_aload_n hx hb dX1_descend_66 rfl (lv_at hl 1 rfl) ?_
  refine va_get (D := D) (ci := 1) (v := .int t_size) (C := RX1) (T := TX1) (N := 13) hx hb hts iw_X1_descend_k5_X1 hown hK hP 0 rfl rfl 4 (by decide) (hts _ fl_X1_descend_k5_28) (fun _ h9 => h9) rfl dX1_descend_67 ?_
  refine lv_icmp_ge (tgt := 101) hx hb dX1_descend_70 (by decide) (fun c_2 => ?_) (fun c_2 => ?_)
  · have hF := it_pos c_2 hF
    refine lv_iload hx hb dX1_descend_101 (lv_at hl 0 rfl) ?_
    refine lv_aload_n hx hb dX1_descend_103 rfl (lv_at hl 1 rfl) ?_
    refine va_get (D := D) (ci := 1) (v := .int t_limit) (C := RX1) (T := TX1) (N := 13) hx hb hts iw_X1_descend_k5_X1 hown hK hP 0 rfl rfl 7 (by decide) (hts _ fl_X1_descend_k5_49) (fun _ h9 => h9) rfl dX1_descend_104 ?_
    refine lv_icmp_lt (tgt := 129) hx hb dX1_descend_107 (by decide) (fun c_3 => ?_) (fun c_3 => ?_)
    · have hF := it_pos c_3 hF
      refine lv_iinc (v := (x5 + (1 : Int32))) (lv' := [(5, .int (x5 + (1 : Int32))), (7, .int s0), (0, .ref (g_t 0)), (1, .int x1), (3, .int x3), (4, .int x4), (6, .int x6)]) hx hb dX1_descend_129 hl (k := 5) rfl (congrArg (fun z => x5 + z) (by decide)) (by decide) rfl (fun ls hl => ?_)
      refine lv_goto (tgt := 17) hx hb dX1_descend_132 (by decide) ?_
      exact HK_17 t_leastSum t_fitCount t_enough (upd t_chosen (x1).toNatClampNeg x6) t_best x1 x3 x4 (x5 + (1 : Int32)) H locs ls hP hD hS (lv_sub hl [2, 3, 4, 5, 0] rfl) hF
    · have hF := it_neg c_3 hF
      refine lv_aload_n hx hb dX1_descend_110 rfl (lv_at hl 1 rfl) ?_
      refine lv_iload_n hx hb dX1_descend_111 rfl (lv_at hl 2 rfl) ?_
      refine lv_iload hx hb dX1_descend_112 (lv_at hl 5 rfl) ?_
      obtain ⟨r_4, hc_5, hF⟩ := bn_some hF
      refine xc_i (wn := (w_X1_descend_k5 K g_t t_size t_low t_width t_limit t_needed t_parts t_leastSum t_fitCount t_open t_enough t_all (upd t_chosen (x1).toNatClampNeg x6) t_best)) hP hD hS C0.2.2.1 [0, 1, 2, 3] [4, 5] [2, 3, 4, 5, 0, 1] rfl rfl (by decide) (by decide) rfl (by decide) (va_runV (As := [.int x1, .int x5]) (rest := []) C0.1 (c_X1_opensAll l D K g_t t_size t_low t_width t_limit t_needed t_parts t_leastSum t_fitCount t_open t_enough t_all x1 x5 r_4 hc_5 H.size) (cwV 2 hts gX1_descend_X1_opensAll rfl rfl rfl (by decide +kernel) ⟨Nat.le_of_ble_eq_true rfl, Nat.le_of_ble_eq_true rfl⟩) (xp_V C0.2 hP hD hS [0, 1, 2, 3] rfl (by decide) 1 0 rfl rfl rfl) rfl rfl hl.1 rfl (lv_room (Nat.le_of_ble_eq_true rfl)) dX1_descend_114 ⟨Nat.le_of_ble_eq_true rfl, Nat.le_of_ble_eq_true rfl⟩) (fun H locs hP hD hS => ?_)
      refine lv_if_eq (tgt := 129) hx hb dX1_descend_117 (by decide) (fun c_6 => ?_) (fun c_6 => ?_)
      · have hF := it_pos c_6 hF
        refine lv_iinc (v := (x5 + (1 : Int32))) (lv' := [(5, .int (x5 + (1 : Int32))), (7, .int s0), (0, .ref (g_t 0)), (1, .int x1), (3, .int x3), (4, .int x4), (6, .int x6)]) hx hb dX1_descend_129 hl (k := 5) rfl (congrArg (fun z => x5 + z) (by decide)) (by decide) rfl (fun ls hl => ?_)
        refine lv_goto (tgt := 17) hx hb dX1_descend_132 (by decide) ?_
        exact HK_17 t_leastSum t_fitCount t_enough (upd t_chosen (x1).toNatClampNeg x6) t_best x1 x3 x4 (x5 + (1 : Int32)) H locs ls hP hD hS (lv_sub hl [2, 3, 4, 5, 0] rfl) hF
      · have hF := it_neg c_6 hF
        refine lv_aload_n hx hb dX1_descend_120 rfl (lv_at hl 1 rfl) ?_
        refine lv_iload hx hb dX1_descend_121 (lv_at hl 4 rfl) ?_
        refine lv_iload hx hb dX1_descend_123 (lv_at hl 6 rfl) ?_
        refine lv_iadd hx hb dX1_descend_125 ?_
        obtain ⟨r_7, hc_8, hF⟩ := bn_some hF
        refine xc_v (wn := (w_X1_descend_k5 K g_t t_size t_low t_width t_limit t_needed t_parts r_7.1 r_7.2.1 t_open t_enough t_all (upd t_chosen (x1).toNatClampNeg x6) r_7.2.2)) hP hD hS C0.2.2.1 [0, 4, 5] [1, 2, 3] [3, 0, 1, 2, 4, 5] rfl rfl (by decide) (by decide) rfl (by decide) (va_runV (As := [.int (x4 + x6)]) (rest := []) C0.1 (c_X1_keepFit l D K g_t t_size t_low t_width t_limit t_needed t_parts t_leastSum t_fitCount (upd t_chosen (x1).toNatClampNeg x6) t_best (x4 + x6) r_7 hc_8 H.size) (cwV 1 hts gX1_descend_X1_keepFit rfl rfl rfl (by decide +kernel) ⟨Nat.le_of_ble_eq_true rfl, Nat.le_of_ble_eq_true rfl⟩) (xp_V C0.2 hP hD hS [0, 4, 5] rfl (by decide) 1 0 rfl rfl rfl) rfl rfl hl.1 rfl (lv_room (Nat.le_of_ble_eq_true rfl)) dX1_descend_126 ⟨Nat.le_of_ble_eq_true rfl, Nat.le_of_ble_eq_true rfl⟩) (fun H locs hP hD hS => ?_)
        refine lv_iinc (v := (x5 + (1 : Int32))) (lv' := [(5, .int (x5 + (1 : Int32))), (7, .int s0), (0, .ref (g_t 0)), (1, .int x1), (3, .int x3), (4, .int x4), (6, .int x6)]) hx hb dX1_descend_129 hl (k := 5) rfl (congrArg (fun z => x5 + z) (by decide)) (by decide) rfl (fun ls hl => ?_)
        refine lv_goto (tgt := 17) hx hb dX1_descend_132 (by decide) ?_
        exact HK_17 r_7.1 r_7.2.1 t_enough (upd t_chosen (x1).toNatClampNeg x6) r_7.2.2 x1 x3 x4 (x5 + (1 : Int32)) H locs ls hP hD hS (lv_sub hl [2, 3, 4, 5, 0] rfl) hF
  · have hF := it_neg c_2 hF
    refine lv_aload_n hx hb dX1_descend_73 rfl (lv_at hl 1 rfl) ?_
    refine lv_iload_n hx hb dX1_descend_74 rfl (lv_at hl 2 rfl) ?_
    refine lv_iload hx hb dX1_descend_75 (lv_at hl 5 rfl) ?_
    obtain ⟨r_9, hc_10, hF⟩ := bn_some hF
    refine xc_v (wn := (w_X1_descend_k5 K g_t t_size t_low t_width t_limit t_needed t_parts t_leastSum t_fitCount t_open r_9 t_all (upd t_chosen (x1).toNatClampNeg x6) t_best)) hP hD hS C0.2.2.1 [0, 1, 2] [3, 4, 5] [3, 4, 5, 0, 1, 2] rfl rfl (by decide) (by decide) rfl (by decide) (va_runV (As := [.int x1, .int x5]) (rest := []) C0.1 (c_X1_addChoice l D K g_t t_size t_low t_width t_limit t_needed t_parts t_leastSum t_fitCount t_open t_enough x1 x5 r_9 hc_10 H.size) (cwV 2 hts gX1_descend_X1_addChoice rfl rfl rfl (by decide +kernel) ⟨Nat.le_of_ble_eq_true rfl, Nat.le_of_ble_eq_true rfl⟩) (xp_V C0.2 hP hD hS [0, 1, 2] rfl (by decide) 1 0 rfl rfl rfl) rfl rfl hl.1 rfl (lv_room (Nat.le_of_ble_eq_true rfl)) dX1_descend_77 ⟨Nat.le_of_ble_eq_true rfl, Nat.le_of_ble_eq_true rfl⟩) (fun H locs hP hD hS => ?_)
    refine lv_aload_n hx hb dX1_descend_80 rfl (lv_at hl 1 rfl) ?_
    refine lv_iload_n hx hb dX1_descend_81 rfl (lv_at hl 2 rfl) ?_
    refine lv_iconst (v := 1) hx hb dX1_descend_82 (by decide) ?_
    refine lv_iadd hx hb dX1_descend_83 ?_
    refine lv_iload hx hb dX1_descend_84 (lv_at hl 5 rfl) ?_
    refine lv_iconst (v := 1) hx hb dX1_descend_86 (by decide) ?_
    refine lv_iadd hx hb dX1_descend_87 ?_
    refine lv_iload hx hb dX1_descend_88 (lv_at hl 0 rfl) ?_
    refine lv_iload hx hb dX1_descend_90 (lv_at hl 4 rfl) ?_
    refine lv_iload hx hb dX1_descend_92 (lv_at hl 6 rfl) ?_
    refine lv_iadd hx hb dX1_descend_94 ?_
    obtain ⟨r_11, hc_12, hF⟩ := bn_some hF
    refine xc_v (wn := (w_X1_descend_k5 K g_t t_size t_low t_width t_limit t_needed t_parts r_11.1 r_11.2.1 t_open r_11.2.2.1 t_all r_11.2.2.2.1 r_11.2.2.2.2)) hP hD hS C0.2.2.1 [0, 1, 2, 3, 4, 5] [] [0, 1, 2, 3, 4, 5] rfl rfl (by decide) (by decide) rfl (by decide) (va_runV (As := [.int (x1 + (1 : Int32)), .int (x5 + (1 : Int32)), .int s0, .int (x4 + x6)]) (rest := []) C0.1 (c_X1_descend_k4 l D K g_t t_size t_low t_width t_limit t_needed t_parts t_leastSum t_fitCount t_open r_9 t_all (upd t_chosen (x1).toNatClampNeg x6) t_best (x1 + (1 : Int32)) (x5 + (1 : Int32)) s0 (x4 + x6) r_11 hc_12 H.size) (cwV 4 hts gX1_descend_X1_descend rfl rfl rfl (by decide +kernel) ⟨Nat.le_of_ble_eq_true rfl, Nat.le_of_ble_eq_true rfl⟩) (xp_V C0.2 hP hD hS [0, 1, 2, 3, 4, 5] rfl (by decide) 1 0 rfl rfl rfl) rfl rfl hl.1 rfl (lv_room (Nat.le_of_ble_eq_true rfl)) dX1_descend_95 ⟨Nat.le_of_ble_eq_true rfl, Nat.le_of_ble_eq_true rfl⟩) (fun H locs hP hD hS => ?_)
    refine lv_goto (tgt := 129) hx hb dX1_descend_98 (by decide) ?_
    refine lv_iinc (v := (x5 + (1 : Int32))) (lv' := [(5, .int (x5 + (1 : Int32))), (7, .int s0), (0, .ref (g_t 0)), (1, .int x1), (3, .int x3), (4, .int x4), (6, .int x6)]) hx hb dX1_descend_129 hl (k := 5) rfl (congrArg (fun z => x5 + z) (by decide)) (by decide) rfl (fun ls hl => ?_)
    refine lv_goto (tgt := 17) hx hb dX1_descend_132 (by decide) ?_
    exact HK_17 r_11.1 r_11.2.1 r_11.2.2.1 r_11.2.2.2.1 r_11.2.2.2.2 x1 x3 x4 (x5 + (1 : Int32)) H locs ls hP hD hS (lv_sub hl [2, 3, 4, 5, 0] rfl) hF
def L_X1_descend_k5_17 (t_size : Int32) (t_low : Int32) (t_width : Int32) (t_limit : Int32) (t_needed : Int32) (t_parts : Int32) (t_open : Nat → Int64) (t_all : Nat → Int64) : Nat → Int32 → Int32 → (Nat → Int64) → (Nat → Int32) → (Nat → Int32) → Int32 → Int32 → Int32 → Int32 → Option (Int32 × Int32 × (Nat → Int64) × (Nat → Int32) × (Nat → Int32))
  | 0, _, _, _, _, _, _, _, _, _ => none
  | n_ + 1, t_leastSum, t_fitCount, t_enough, t_chosen, t_best, x1, x3, x4, x5 =>
    if t_width ≤ x5 then (some (t_leastSum, t_fitCount, t_enough, t_chosen, t_best)) else (if x3 < t_limit then ((F_X10_leastCommon x3 (t_low + x5)).bind fun r_3 => (J_X1_descend_k5_53 t_size t_low t_width t_limit t_needed t_parts t_open t_all (L_X1_descend_k5_17 t_size t_low t_width t_limit t_needed t_parts t_open t_all n_) t_leastSum t_fitCount t_enough t_chosen t_best x1 x3 x4 x5 (t_low + x5) r_3)) else (J_X1_descend_k5_53 t_size t_low t_width t_limit t_needed t_parts t_open t_all (L_X1_descend_k5_17 t_size t_low t_width t_limit t_needed t_parts t_open t_all n_) t_leastSum t_fitCount t_enough t_chosen t_best x1 x3 x4 x5 (t_low + x5) x3))
set_option maxHeartbeats 4000000 in
set_option maxRecDepth 100000 in
theorem w_X1_descend_k5_17 {p : Program} {l : Launch} {e : Env} {s : State} {m : MethodId} {args : Array Value} {below : List Frame} {meth : Method} {c : Code} {D : va_G} {K : Nat → ClassId} {A : Nat → Prop} {Q : State → Prop} (C0 : cx_ p s m args c cX1_descend 8 RX1 wsX1_descend D K A) {g_t : Nat → Nat} {t_size : Int32} {t_low : Int32} {t_width : Int32} {t_limit : Int32} {t_needed : Int32} {t_parts : Int32} {t_open : Nat → Int64} {t_all : Nat → Int64} {res : Int32 × Int32 × (Nat → Int64) × (Nat → Int32) × (Nat → Int32)} (HR : ∀ (pc : Nat) (H : Heap) (locs : List Loc) (ls : Array Slot), decode cX1_descend pc = .ok (.return_, 1) → va_P D vwCl (w_X1_descend_k5 K g_t t_size t_low t_width t_limit t_needed t_parts res.1 res.2.1 t_open res.2.2.1 t_all res.2.2.2.1 res.2.2.2.2) H → va_D A (w_X1_descend_k5 K g_t t_size t_low t_width t_limit t_needed t_parts res.1 res.2.1 t_open res.2.2.1 t_all res.2.2.2.1 res.2.2.2.2) → va_S A s.heap H locs → W p l e rmX1_descend_k5 s m args below meth c H locs 0 0 Q (F0 m pc ls []))  :
    ∀ (n_ : Nat) (t_leastSum : Int32) (t_fitCount : Int32) (t_enough : Nat → Int64) (t_chosen : Nat → Int32) (t_best : Nat → Int32) (x1 : Int32) (x3 : Int32) (x4 : Int32) (x5 : Int32) (H : Heap) (locs : List Loc) (ls : Array Slot), va_P D vwCl (w_X1_descend_k5 K g_t t_size t_low t_width t_limit t_needed t_parts t_leastSum t_fitCount t_open t_enough t_all t_chosen t_best) H → va_D A (w_X1_descend_k5 K g_t t_size t_low t_width t_limit t_needed t_parts t_leastSum t_fitCount t_open t_enough t_all t_chosen t_best) → va_S A s.heap H locs → lv_has ls 8 [(0, .ref (g_t 0)), (1, .int x1), (3, .int x3), (4, .int x4), (5, .int x5)] → L_X1_descend_k5_17 t_size t_low t_width t_limit t_needed t_parts t_open t_all n_ t_leastSum t_fitCount t_enough t_chosen t_best x1 x3 x4 x5 = some res → W p l e rmX1_descend_k5 s m args below meth c H locs 0 0 Q (F0 m 17 ls []) := by
  obtain ⟨⟨hx, hb, hml, hown, hts⟩, hK, -⟩ := id C0
  intro n_
  induction n_ with
  | zero =>
    intro t_leastSum t_fitCount t_enough t_chosen t_best x1 x3 x4 x5 H locs ls hP hD hS hl hF
    exact no_s (show (none : Option (Int32 × Int32 × (Nat → Int64) × (Nat → Int32) × (Nat → Int32))) = some res from hF)
  | succ n_ ih =>
    intro t_leastSum t_fitCount t_enough t_chosen t_best x1 x3 x4 x5 H locs ls hP hD hS hl hF
    rw [L_X1_descend_k5_17] at hF
    refine lv_iload hx hb dX1_descend_17 (lv_at hl 4 rfl) ?_
    refine lv_aload_n hx hb dX1_descend_19 rfl (lv_at hl 0 rfl) ?_
    refine va_get (D := D) (ci := 1) (v := .int t_width) (C := RX1) (T := TX1) (N := 13) hx hb hts iw_X1_descend_k5_X1 hown hK hP 0 rfl rfl 6 (by decide) (hts _ fl_X1_descend_k5_41) (fun _ h9 => h9) rfl dX1_descend_20 ?_
    refine lv_icmp_ge (tgt := 135) hx hb dX1_descend_23 (by decide) (fun c_1 => ?_) (fun c_1 => ?_)
    · have hF := it_pos c_1 hF
      obtain rfl := Option.some.inj hF
      exact HR 135 H locs ls dX1_descend_135 hP hD hS
    · have hF := it_neg c_1 hF
      refine lv_aload_n hx hb dX1_descend_26 rfl (lv_at hl 0 rfl) ?_
      refine va_get (D := D) (ci := 1) (v := .int t_low) (C := RX1) (T := TX1) (N := 13) hx hb hts iw_X1_descend_k5_X1 hown hK hP 0 rfl rfl 5 (by decide) (hts _ fl_X1_descend_k5_32) (fun _ h9 => h9) rfl dX1_descend_27 ?_
      refine lv_iload hx hb dX1_descend_30 (lv_at hl 4 rfl) ?_
      refine lv_iadd hx hb dX1_descend_32 ?_
      refine lv_istore (lv' := [(6, .int (t_low + x5)), (0, .ref (g_t 0)), (1, .int x1), (3, .int x3), (4, .int x4), (5, .int x5)]) hx hb dX1_descend_33 hl (by decide) rfl (fun ls hl => ?_)
      refine lv_iload_n hx hb dX1_descend_35 rfl (lv_at hl 3 rfl) ?_
      refine lv_aload_n hx hb dX1_descend_36 rfl (lv_at hl 1 rfl) ?_
      refine va_get (D := D) (ci := 1) (v := .int t_limit) (C := RX1) (T := TX1) (N := 13) hx hb hts iw_X1_descend_k5_X1 hown hK hP 0 rfl rfl 7 (by decide) (hts _ fl_X1_descend_k5_49) (fun _ h9 => h9) rfl dX1_descend_37 ?_
      refine lv_icmp_lt (tgt := 47) hx hb dX1_descend_40 (by decide) (fun c_2 => ?_) (fun c_2 => ?_)
      · have hF := it_pos c_2 hF
        refine lv_iload_n hx hb dX1_descend_47 rfl (lv_at hl 3 rfl) ?_
        refine lv_iload hx hb dX1_descend_48 (lv_at hl 0 rfl) ?_
        obtain ⟨r_3, hc_4, hF⟩ := bn_some hF
        refine xc_i (wn := (w_X1_descend_k5 K g_t t_size t_low t_width t_limit t_needed t_parts t_leastSum t_fitCount t_open t_enough t_all t_chosen t_best)) hP hD hS C0.2.2.1 [] [0, 1, 2, 3, 4, 5] [0, 1, 2, 3, 4, 5] rfl rfl (by decide) (by decide) rfl (by decide) (va_runSN (host := "StaggerRadar") (As := [.int x3, .int (t_low + x5)]) (rest := []) C0.1 (c_X10_leastCommon l D K x3 (t_low + x5) r_3 hc_4 H.size) ⟨va_cnB 2 hts gX1_descend_X10_leastCommon_n94 rfl rfl rfl (C0.2.2.2.1.1 ("StaggerRadar$Chooser", 94, ⟨"StaggerRadar", "leastCommon", "(II)I"⟩, "StaggerRadar") (by decide +kernel)) (hts (.initialized RX10) (by decide +kernel)) (by decide +kernel) ⟨Nat.le_of_ble_eq_true rfl, Nat.le_of_ble_eq_true rfl⟩, hts (.static yX10_leastCommon) (by decide +kernel), trivial⟩ (xp_S C0.2 hP hD hS [] rfl (by decide)) rfl rfl hl.1 rfl (lv_room (Nat.le_of_ble_eq_true rfl)) dX1_descend_50 ⟨Nat.le_of_ble_eq_true rfl, Nat.le_of_ble_eq_true rfl⟩) (fun H locs hP hD hS => ?_)
        exact w_X1_descend_k5_53 C0 HR ih t_leastSum t_fitCount t_enough t_chosen t_best x1 x3 x4 x5 (t_low + x5) r_3 H locs ls hP hD hS (lv_sub hl [1, 2, 3, 4, 5, 0] rfl) hF
      · have hF := it_neg c_2 hF
        refine lv_iload_n hx hb dX1_descend_43 rfl (lv_at hl 3 rfl) ?_
        refine lv_goto (tgt := 53) hx hb dX1_descend_44 (by decide) ?_
        exact w_X1_descend_k5_53 C0 HR ih t_leastSum t_fitCount t_enough t_chosen t_best x1 x3 x4 x5 (t_low + x5) x3 H locs ls hP hD hS (lv_sub hl [1, 2, 3, 4, 5, 0] rfl) hF
def F_X1_descend_k5 (t_size : Int32) (t_low : Int32) (t_width : Int32) (t_limit : Int32) (t_needed : Int32) (t_parts : Int32) (t_leastSum : Int32) (t_fitCount : Int32) (t_open : Nat → Int64) (t_enough : Nat → Int64) (t_all : Nat → Int64) (t_chosen : Nat → Int32) (t_best : Nat → Int32) (x1 : Int32) (x2 : Int32) (x3 : Int32) (x4 : Int32) : Option (Int32 × Int32 × (Nat → Int64) × (Nat → Int32) × (Nat → Int32)) :=
  if t_size ≤ x1 then (some (t_leastSum, t_fitCount, t_enough, t_chosen, t_best)) else (if x1 < (4 : Int32) then (L_X1_descend_k5_17 t_size t_low t_width t_limit t_needed t_parts t_open t_all fu_ t_leastSum t_fitCount t_enough t_chosen t_best x1 x3 x4 x2) else (some (t_leastSum, t_fitCount, t_enough, t_chosen, t_best)))
set_option maxHeartbeats 4000000 in
set_option maxRecDepth 100000 in
theorem c_X1_descend_k5 (l : Launch) (D : va_G) (K : Nat → ClassId) (g_t : Nat → Nat) (t_size : Int32) (t_low : Int32) (t_width : Int32) (t_limit : Int32) (t_needed : Int32) (t_parts : Int32) (t_leastSum : Int32) (t_fitCount : Int32) (t_open : Nat → Int64) (t_enough : Nat → Int64) (t_all : Nat → Int64) (t_chosen : Nat → Int32) (t_best : Nat → Int32) (x1 : Int32) (x2 : Int32) (x3 : Int32) (x4 : Int32) (res : Int32 × Int32 × (Nat → Int64) × (Nat → Int32) × (Nat → Int32)) (hF : F_X1_descend_k5 t_size t_low t_width t_limit t_needed t_parts t_leastSum t_fitCount t_open t_enough t_all t_chosen t_best x1 x2 x3 x4 = some res) :
    Mv_ l yX1_descend wsX1_descend rmX1_descend_k5 D K [.ref (g_t 0), .int x1, .int x2, .int x3, .int x4] (w_X1_descend_k5 K g_t t_size t_low t_width t_limit t_needed t_parts t_leastSum t_fitCount t_open t_enough t_all t_chosen t_best) (w_X1_descend_k5 K g_t t_size t_low t_width t_limit t_needed t_parts res.1 res.2.1 t_open res.2.2.1 t_all res.2.2.2.1 res.2.2.2.2) := by
  refine en_v (cc := cX1_descend) (maxL := 8) (own := RX1) (by decide) rfl rfl (Nat.le_of_ble_eq_true rfl) ?_
  intro p e s m args below meth c A Q H locs ls C0 hP hD hS hl HR
  obtain ⟨⟨hx, hb, hml, hown, hts⟩, hK, -⟩ := id C0
  have hl : lv_has ls 8 [(0, .ref (g_t 0)), (1, .int x1), (2, .int x2), (3, .int x3), (4, .int x4)] := hl
  unfold F_X1_descend_k5 at hF
  refine lv_iload_n hx hb dX1_descend_0 rfl (lv_at hl 1 rfl) ?_
  refine lv_aload_n hx hb dX1_descend_1 rfl (lv_at hl 0 rfl) ?_
  refine va_get (D := D) (ci := 1) (v := .int t_size) (C := RX1) (T := TX1) (N := 13) hx hb hts iw_X1_descend_k5_X1 hown hK hP 0 rfl rfl 4 (by decide) (hts _ fl_X1_descend_k5_28) (fun _ h9 => h9) rfl dX1_descend_2 ?_
  refine lv_icmp_ge (tgt := 13) hx hb dX1_descend_5 (by decide) (fun c_1 => ?_) (fun c_1 => ?_)
  · have hF := it_pos c_1 hF
    obtain rfl := Option.some.inj hF
    exact HR 13 H locs ls dX1_descend_13 hP hD hS
  · have hF := it_neg c_1 hF
    refine lv_iload_n hx hb dX1_descend_8 rfl (lv_at hl 1 rfl) ?_
    refine lv_iconst (v := 4) hx hb dX1_descend_9 (by decide) ?_
    refine lv_icmp_lt (tgt := 14) hx hb dX1_descend_10 (by decide) (fun c_2 => ?_) (fun c_2 => ?_)
    · have hF := it_pos c_2 hF
      refine lv_iload_n hx hb dX1_descend_14 rfl (lv_at hl 2 rfl) ?_
      refine lv_istore (lv' := [(5, .int x2), (0, .ref (g_t 0)), (1, .int x1), (2, .int x2), (3, .int x3), (4, .int x4)]) hx hb dX1_descend_15 hl (by decide) rfl (fun ls hl => ?_)
      exact w_X1_descend_k5_17 C0 HR fu_ t_leastSum t_fitCount t_enough t_chosen t_best x1 x3 x4 x2 H locs ls hP hD hS (lv_sub hl [1, 2, 4, 5, 0] rfl) hF
    · have hF := it_neg c_2 hF
      obtain rfl := Option.some.inj hF
      exact HR 13 H locs ls dX1_descend_13 hP hD hS

/-! StaggerRadar.Chooser.searchAll(LStaggerRadar$Radar;III)V -/
abbrev rmX1_searchAll : Room := { frames := 7, cells := 0, slots := 0, locals := 216 }
theorem fl_X1_searchAll_15 : Cond.fieldLink RX1 15 "StaggerRadar$Chooser" "enough" "[J" ∈ wsX1_searchAll := by decide +kernel
theorem fl_X1_searchAll_18 : Cond.fieldLink RX1 18 "StaggerRadar$Chooser" "all" "[J" ∈ wsX1_searchAll := by decide +kernel
theorem fl_X1_searchAll_28 : Cond.fieldLink RX1 28 "StaggerRadar$Chooser" "size" "I" ∈ wsX1_searchAll := by decide +kernel
theorem fl_X1_searchAll_32 : Cond.fieldLink RX1 32 "StaggerRadar$Chooser" "low" "I" ∈ wsX1_searchAll := by decide +kernel
theorem fl_X1_searchAll_41 : Cond.fieldLink RX1 41 "StaggerRadar$Chooser" "width" "I" ∈ wsX1_searchAll := by decide +kernel
theorem fl_X1_searchAll_44 : Cond.fieldLink RX1 44 "StaggerRadar$Radar" "settings" "[I" ∈ wsX1_searchAll := by decide +kernel
theorem fl_X1_searchAll_49 : Cond.fieldLink RX1 49 "StaggerRadar$Chooser" "limit" "I" ∈ wsX1_searchAll := by decide +kernel
theorem fl_X1_searchAll_52 : Cond.fieldLink RX1 52 "StaggerRadar$Chooser" "needed" "I" ∈ wsX1_searchAll := by decide +kernel
theorem fl_X1_searchAll_55 : Cond.fieldLink RX1 55 "StaggerRadar$Chooser" "parts" "I" ∈ wsX1_searchAll := by decide +kernel
theorem fl_X1_searchAll_58 : Cond.fieldLink RX1 58 "StaggerRadar$Chooser" "fitCount" "I" ∈ wsX1_searchAll := by decide +kernel
theorem fl_X1_searchAll_64 : Cond.fieldLink RX1 64 "StaggerRadar$Chooser" "leastSum" "I" ∈ wsX1_searchAll := by decide +kernel
theorem ld_X1_searchAll_63 : Cond.constant RX1 63 (2147483647) ∈ wsX1_searchAll := by decide +kernel
theorem iw_X1_searchAll_X1 : ∀ w ∈ u_ws RX1 TX1 13, w ∈ wsX1_searchAll := by decide +kernel
theorem iw_X1_searchAll_X5 : ∀ w ∈ u_ws RX5 TX5 13, w ∈ wsX1_searchAll := by decide +kernel
abbrev w_X1_searchAll (K : Nat → ClassId) (g_t : Nat → Nat) (g_p1 : Nat → Nat) (t_size : Int32) (t_low : Int32) (t_width : Int32) (t_limit : Int32) (t_needed : Int32) (t_parts : Int32) (t_leastSum : Int32) (t_fitCount : Int32) (t_open : Nat → Int64) (t_enough : Nat → Int64) (t_all : Nat → Int64) (t_chosen : Nat → Int32) (t_best : Nat → Int32) (p1_gapCount : Int32) (p1_targetCount : Int32) (p1_lookCount : Int32) (p1_time : Int32) (p1_gone : Int32) (p1_settings : Nat → Int32) : va_W := [((g_t 0), .inr (1, [.ref (g_t 1), .ref (g_t 2), .ref (g_t 3), .ref (g_t 4), .int t_size, .int t_low, .int t_width, .int t_limit, .int t_needed, .int t_parts, .ref (g_t 11), .int t_leastSum, .int t_fitCount])), ((g_t 1), .inl (K 1, 84, .inr (.inl t_open))), ((g_t 2), .inl (K 1, 80, .inr (.inl t_enough))), ((g_t 3), .inl (K 1, 4, .inr (.inl t_all))), ((g_t 4), .inl (K 0, 4, .inl t_chosen)), ((g_t 11), .inl (K 0, 4, .inl t_best)), ((g_p1 0), .inr (5, [.ref (g_p1 1), .ref (g_p1 2), .ref (g_p1 3), .ref (g_p1 4), .ref (g_p1 5), .ref (g_p1 6), .ref (g_p1 7), .ref (g_p1 8), .int p1_gapCount, .int p1_targetCount, .int p1_lookCount, .int p1_time, .int p1_gone])), ((g_p1 2), .inl (K 0, 7, .inl p1_settings))]
def J_X1_searchAll_127 (p1_settings : Nat → Int32) (t_size : Int32) (t_low : Int32) (t_width : Int32) (t_limit : Int32) (t_needed : Int32) (t_parts : Int32) (t_leastSum : Int32) (t_fitCount : Int32) (t_open : Nat → Int64) (t_enough : Nat → Int64) (t_all : Nat → Int64) (t_chosen : Nat → Int32) (t_best : Nat → Int32) : Option (Int32 × Int32 × Int32 × Int32 × Int32 × Int32 × Int32 × Int32 × (Nat → Int64) × (Nat → Int64) × (Nat → Int64) × (Nat → Int32) × (Nat → Int32)) :=
  (F_X1_descend_k5 t_size t_low t_width t_limit t_needed t_parts t_leastSum t_fitCount t_open t_enough t_all t_chosen t_best (0 : Int32) (0 : Int32) (1 : Int32) (0 : Int32)).bind fun r_1 => (some (t_size, t_low, t_width, t_limit, t_needed, t_parts, r_1.1, r_1.2.1, t_open, r_1.2.2.1, t_all, r_1.2.2.2.1, r_1.2.2.2.2))
set_option maxHeartbeats 4000000 in
set_option maxRecDepth 100000 in
theorem w_X1_searchAll_127 {p : Program} {l : Launch} {e : Env} {s : State} {m : MethodId} {args : Array Value} {below : List Frame} {meth : Method} {c : Code} {D : va_G} {K : Nat → ClassId} {A : Nat → Prop} {Q : State → Prop} (C0 : cx_ p s m args c cX1_searchAll 6 RX1 wsX1_searchAll D K A) {g_t : Nat → Nat} {g_p1 : Nat → Nat} {p1_gapCount : Int32} {p1_targetCount : Int32} {p1_lookCount : Int32} {p1_time : Int32} {p1_gone : Int32} {p1_settings : Nat → Int32} {res : Int32 × Int32 × Int32 × Int32 × Int32 × Int32 × Int32 × Int32 × (Nat → Int64) × (Nat → Int64) × (Nat → Int64) × (Nat → Int32) × (Nat → Int32)} (HR : ∀ (pc : Nat) (H : Heap) (locs : List Loc) (ls : Array Slot), decode cX1_searchAll pc = .ok (.return_, 1) → va_P D vwCl (w_X1_searchAll K g_t g_p1 res.1 res.2.1 res.2.2.1 res.2.2.2.1 res.2.2.2.2.1 res.2.2.2.2.2.1 res.2.2.2.2.2.2.1 res.2.2.2.2.2.2.2.1 res.2.2.2.2.2.2.2.2.1 res.2.2.2.2.2.2.2.2.2.1 res.2.2.2.2.2.2.2.2.2.2.1 res.2.2.2.2.2.2.2.2.2.2.2.1 res.2.2.2.2.2.2.2.2.2.2.2.2 p1_gapCount p1_targetCount p1_lookCount p1_time p1_gone p1_settings) H → va_D A (w_X1_searchAll K g_t g_p1 res.1 res.2.1 res.2.2.1 res.2.2.2.1 res.2.2.2.2.1 res.2.2.2.2.2.1 res.2.2.2.2.2.2.1 res.2.2.2.2.2.2.2.1 res.2.2.2.2.2.2.2.2.1 res.2.2.2.2.2.2.2.2.2.1 res.2.2.2.2.2.2.2.2.2.2.1 res.2.2.2.2.2.2.2.2.2.2.2.1 res.2.2.2.2.2.2.2.2.2.2.2.2 p1_gapCount p1_targetCount p1_lookCount p1_time p1_gone p1_settings) → va_S A s.heap H locs → W p l e rmX1_searchAll s m args below meth c H locs 0 0 Q (F0 m pc ls []))  :
    ∀ (t_size : Int32) (t_low : Int32) (t_width : Int32) (t_limit : Int32) (t_needed : Int32) (t_parts : Int32) (t_leastSum : Int32) (t_fitCount : Int32) (t_open : Nat → Int64) (t_enough : Nat → Int64) (t_all : Nat → Int64) (t_chosen : Nat → Int32) (t_best : Nat → Int32) (H : Heap) (locs : List Loc) (ls : Array Slot), va_P D vwCl (w_X1_searchAll K g_t g_p1 t_size t_low t_width t_limit t_needed t_parts t_leastSum t_fitCount t_open t_enough t_all t_chosen t_best p1_gapCount p1_targetCount p1_lookCount p1_time p1_gone p1_settings) H → va_D A (w_X1_searchAll K g_t g_p1 t_size t_low t_width t_limit t_needed t_parts t_leastSum t_fitCount t_open t_enough t_all t_chosen t_best p1_gapCount p1_targetCount p1_lookCount p1_time p1_gone p1_settings) → va_S A s.heap H locs → lv_has ls 6 [(0, .ref (g_t 0))] → J_X1_searchAll_127 p1_settings t_size t_low t_width t_limit t_needed t_parts t_leastSum t_fitCount t_open t_enough t_all t_chosen t_best = some res → W p l e rmX1_searchAll s m args below meth c H locs 0 0 Q (F0 m 127 ls []) := by
  obtain ⟨⟨hx, hb, hml, hown, hts⟩, hK, -⟩ := id C0
  intro t_size t_low t_width t_limit t_needed t_parts t_leastSum t_fitCount t_open t_enough t_all t_chosen t_best H locs ls hP hD hS hl hF
  unfold J_X1_searchAll_127 at hF
  refine lv_aload_n hx hb dX1_searchAll_127 rfl (lv_at hl 0 rfl) ?_
  refine lv_iconst (v := 0) hx hb dX1_searchAll_128 (by decide) ?_
  refine lv_iconst (v := 0) hx hb dX1_searchAll_129 (by decide) ?_
  refine lv_iconst (v := 1) hx hb dX1_searchAll_130 (by decide) ?_
  refine lv_iconst (v := 0) hx hb dX1_searchAll_131 (by decide) ?_
  obtain ⟨r_1, hc_2, hF⟩ := bn_some hF
  refine xc_v (wn := (w_X1_searchAll K g_t g_p1 t_size t_low t_width t_limit t_needed t_parts r_1.1 r_1.2.1 t_open r_1.2.2.1 t_all r_1.2.2.2.1 r_1.2.2.2.2 p1_gapCount p1_targetCount p1_lookCount p1_time p1_gone p1_settings)) hP hD hS C0.2.2.1 [0, 1, 2, 3, 4, 5] [6, 7] [2, 3, 4, 5, 6, 7, 0, 1] rfl rfl (by decide) (by decide) rfl (by decide) (va_runV (As := [.int (0 : Int32), .int (0 : Int32), .int (1 : Int32), .int (0 : Int32)]) (rest := []) C0.1 (c_X1_descend_k5 l D K g_t t_size t_low t_width t_limit t_needed t_parts t_leastSum t_fitCount t_open t_enough t_all t_chosen t_best (0 : Int32) (0 : Int32) (1 : Int32) (0 : Int32) r_1 hc_2 H.size) (cwV 4 hts gX1_searchAll_X1_descend rfl rfl rfl (by decide +kernel) ⟨Nat.le_of_ble_eq_true rfl, Nat.le_of_ble_eq_true rfl⟩) (xp_V C0.2 hP hD hS [0, 1, 2, 3, 4, 5] rfl (by decide) 1 0 rfl rfl rfl) rfl rfl hl.1 rfl (lv_room (Nat.le_of_ble_eq_true rfl)) dX1_searchAll_132 ⟨Nat.le_of_ble_eq_true rfl, Nat.le_of_ble_eq_true rfl⟩) (fun H locs hP hD hS => ?_)
  obtain rfl := Option.some.inj hF
  exact HR 135 H locs ls dX1_searchAll_135 hP hD hS
def L_X1_searchAll_96 (p1_settings : Nat → Int32) : Nat → Int32 → Int32 → Int32 → Int32 → Int32 → Int32 → Int32 → Int32 → (Nat → Int64) → (Nat → Int64) → (Nat → Int64) → (Nat → Int32) → (Nat → Int32) → Int32 → Option (Int32 × Int32 × Int32 × Int32 × Int32 × Int32 × Int32 × Int32 × (Nat → Int64) × (Nat → Int64) × (Nat → Int64) × (Nat → Int32) × (Nat → Int32))
  | 0, _, _, _, _, _, _, _, _, _, _, _, _, _, _ => none
  | n_ + 1, t_size, t_low, t_width, t_limit, t_needed, t_parts, t_leastSum, t_fitCount, t_open, t_enough, t_all, t_chosen, t_best, x5 =>
    if (4 : Int32) ≤ x5 then (J_X1_searchAll_127 p1_settings t_size t_low t_width t_limit t_needed t_parts t_leastSum t_fitCount t_open t_enough t_all t_chosen t_best) else ((F_X1_cellOf x5 (0 : Int32)).bind fun r_2 => (gd_ (cp_b r_2 4 80) (L_X1_searchAll_96 p1_settings n_ t_size t_low t_width t_limit t_needed t_parts t_leastSum t_fitCount t_open (va_cpy t_all t_enough 0 (r_2).toNatClampNeg 4) t_all t_chosen t_best (x5 + (1 : Int32)))))
set_option maxHeartbeats 4000000 in
set_option maxRecDepth 100000 in
theorem w_X1_searchAll_96 {p : Program} {l : Launch} {e : Env} {s : State} {m : MethodId} {args : Array Value} {below : List Frame} {meth : Method} {c : Code} {D : va_G} {K : Nat → ClassId} {A : Nat → Prop} {Q : State → Prop} (C0 : cx_ p s m args c cX1_searchAll 6 RX1 wsX1_searchAll D K A) {g_t : Nat → Nat} {g_p1 : Nat → Nat} {p1_gapCount : Int32} {p1_targetCount : Int32} {p1_lookCount : Int32} {p1_time : Int32} {p1_gone : Int32} {p1_settings : Nat → Int32} {res : Int32 × Int32 × Int32 × Int32 × Int32 × Int32 × Int32 × Int32 × (Nat → Int64) × (Nat → Int64) × (Nat → Int64) × (Nat → Int32) × (Nat → Int32)} (HR : ∀ (pc : Nat) (H : Heap) (locs : List Loc) (ls : Array Slot), decode cX1_searchAll pc = .ok (.return_, 1) → va_P D vwCl (w_X1_searchAll K g_t g_p1 res.1 res.2.1 res.2.2.1 res.2.2.2.1 res.2.2.2.2.1 res.2.2.2.2.2.1 res.2.2.2.2.2.2.1 res.2.2.2.2.2.2.2.1 res.2.2.2.2.2.2.2.2.1 res.2.2.2.2.2.2.2.2.2.1 res.2.2.2.2.2.2.2.2.2.2.1 res.2.2.2.2.2.2.2.2.2.2.2.1 res.2.2.2.2.2.2.2.2.2.2.2.2 p1_gapCount p1_targetCount p1_lookCount p1_time p1_gone p1_settings) H → va_D A (w_X1_searchAll K g_t g_p1 res.1 res.2.1 res.2.2.1 res.2.2.2.1 res.2.2.2.2.1 res.2.2.2.2.2.1 res.2.2.2.2.2.2.1 res.2.2.2.2.2.2.2.1 res.2.2.2.2.2.2.2.2.1 res.2.2.2.2.2.2.2.2.2.1 res.2.2.2.2.2.2.2.2.2.2.1 res.2.2.2.2.2.2.2.2.2.2.2.1 res.2.2.2.2.2.2.2.2.2.2.2.2 p1_gapCount p1_targetCount p1_lookCount p1_time p1_gone p1_settings) → va_S A s.heap H locs → W p l e rmX1_searchAll s m args below meth c H locs 0 0 Q (F0 m pc ls []))  :
    ∀ (n_ : Nat) (t_size : Int32) (t_low : Int32) (t_width : Int32) (t_limit : Int32) (t_needed : Int32) (t_parts : Int32) (t_leastSum : Int32) (t_fitCount : Int32) (t_open : Nat → Int64) (t_enough : Nat → Int64) (t_all : Nat → Int64) (t_chosen : Nat → Int32) (t_best : Nat → Int32) (x5 : Int32) (H : Heap) (locs : List Loc) (ls : Array Slot), va_P D vwCl (w_X1_searchAll K g_t g_p1 t_size t_low t_width t_limit t_needed t_parts t_leastSum t_fitCount t_open t_enough t_all t_chosen t_best p1_gapCount p1_targetCount p1_lookCount p1_time p1_gone p1_settings) H → va_D A (w_X1_searchAll K g_t g_p1 t_size t_low t_width t_limit t_needed t_parts t_leastSum t_fitCount t_open t_enough t_all t_chosen t_best p1_gapCount p1_targetCount p1_lookCount p1_time p1_gone p1_settings) → va_S A s.heap H locs → lv_has ls 6 [(0, .ref (g_t 0)), (5, .int x5)] → L_X1_searchAll_96 p1_settings n_ t_size t_low t_width t_limit t_needed t_parts t_leastSum t_fitCount t_open t_enough t_all t_chosen t_best x5 = some res → W p l e rmX1_searchAll s m args below meth c H locs 0 0 Q (F0 m 96 ls []) := by
  obtain ⟨⟨hx, hb, hml, hown, hts⟩, hK, -⟩ := id C0
  intro n_
  induction n_ with
  | zero =>
    intro t_size t_low t_width t_limit t_needed t_parts t_leastSum t_fitCount t_open t_enough t_all t_chosen t_best x5 H locs ls hP hD hS hl hF
    exact no_s (show (none : Option (Int32 × Int32 × Int32 × Int32 × Int32 × Int32 × Int32 × Int32 × (Nat → Int64) × (Nat → Int64) × (Nat → Int64) × (Nat → Int32) × (Nat → Int32))) = some res from hF)
  | succ n_ ih =>
    intro t_size t_low t_width t_limit t_needed t_parts t_leastSum t_fitCount t_open t_enough t_all t_chosen t_best x5 H locs ls hP hD hS hl hF
    rw [L_X1_searchAll_96] at hF
    refine lv_iload hx hb dX1_searchAll_96 (lv_at hl 1 rfl) ?_
    refine lv_iconst (v := 4) hx hb dX1_searchAll_98 (by decide) ?_
    refine lv_icmp_ge (tgt := 127) hx hb dX1_searchAll_99 (by decide) (fun c_1 => ?_) (fun c_1 => ?_)
    · have hF := it_pos c_1 hF
      exact w_X1_searchAll_127 C0 HR t_size t_low t_width t_limit t_needed t_parts t_leastSum t_fitCount t_open t_enough t_all t_chosen t_best H locs ls hP hD hS (lv_sub hl [0] rfl) hF
    · have hF := it_neg c_1 hF
      refine lv_aload_n hx hb dX1_searchAll_102 rfl (lv_at hl 0 rfl) ?_
      refine va_get (D := D) (ci := 1) (v := .ref (g_t 3)) (C := RX1) (T := TX1) (N := 13) hx hb hts iw_X1_searchAll_X1 hown hK hP 0 rfl rfl 2 (by decide) (hts _ fl_X1_searchAll_18) (fun _ h9 => h9) rfl dX1_searchAll_103 ?_
      refine lv_iconst (v := 0) hx hb dX1_searchAll_106 (by decide) ?_
      refine lv_aload_n hx hb dX1_searchAll_107 rfl (lv_at hl 0 rfl) ?_
      refine va_get (D := D) (ci := 1) (v := .ref (g_t 2)) (C := RX1) (T := TX1) (N := 13) hx hb hts iw_X1_searchAll_X1 hown hK hP 0 rfl rfl 1 (by decide) (hts _ fl_X1_searchAll_15) (fun _ h9 => h9) rfl dX1_searchAll_108 ?_
      refine lv_iload hx hb dX1_searchAll_111 (lv_at hl 1 rfl) ?_
      refine lv_iconst (v := 0) hx hb dX1_searchAll_113 (by decide) ?_
      obtain ⟨r_2, hc_3, hF⟩ := bn_some hF
      refine xc_i (wn := (w_X1_searchAll K g_t g_p1 t_size t_low t_width t_limit t_needed t_parts t_leastSum t_fitCount t_open t_enough t_all t_chosen t_best p1_gapCount p1_targetCount p1_lookCount p1_time p1_gone p1_settings)) hP hD hS C0.2.2.1 [] [0, 1, 2, 3, 4, 5, 6, 7] [0, 1, 2, 3, 4, 5, 6, 7] rfl rfl (by decide) (by decide) rfl (by decide) (va_runS (As := [.int x5, .int (0 : Int32)]) (rest := [.ref (g_t 2), .int (0 : Int32), .ref (g_t 3)]) C0.1 (c_X1_cellOf l D K x5 (0 : Int32) r_2 hc_3 H.size) (va_cwS 2 hts gX1_searchAll_X1_cellOf rfl rfl rfl (by decide +kernel) ⟨Nat.le_of_ble_eq_true rfl, Nat.le_of_ble_eq_true rfl⟩) (xp_S C0.2 hP hD hS [] rfl (by decide)) rfl rfl hl.1 rfl (lv_room (Nat.le_of_ble_eq_true rfl)) dX1_searchAll_114 ⟨Nat.le_of_ble_eq_true rfl, Nat.le_of_ble_eq_true rfl⟩) (fun H locs hP hD hS => ?_)
      refine lv_iconst (v := 4) hx hb dX1_searchAll_117 (by decide) ?_
      obtain ⟨hg_4, hF⟩ := gd_some hF
      refine xy_l (f := t_all) (g := t_enough) hx hb (hml.trans hl.1.symm) hown (hts (.methodLink RX1 80 arraycopyName) (by decide +kernel)) (hts (.native arraycopyName) (by decide +kernel)) (hts (.static arraycopyName) (by decide +kernel)) (hts (.initialized "java/lang/System") (by decide +kernel)) hK hP hD hS 3 2 1 1 rfl rfl rfl rfl (by decide) (cp_1 hg_4) (by decide) (k1 := 0) (k2 := (r_2).toNatClampNeg) (k3 := 4) (by decide) rfl (by decide) (Nat.le_of_ble_eq_true rfl) (cp_2 hg_4) (Nat.le_of_ble_eq_true rfl) (Nat.le_of_ble_eq_true rfl) dX1_searchAll_118 (fun H locs hP hD hS => ?_)
      have hP : va_P D vwCl (w_X1_searchAll K g_t g_p1 t_size t_low t_width t_limit t_needed t_parts t_leastSum t_fitCount t_open (va_cpy t_all t_enough 0 (r_2).toNatClampNeg 4) t_all t_chosen t_best p1_gapCount p1_targetCount p1_lookCount p1_time p1_gone p1_settings) H := hP
      have hD : va_D A (w_X1_searchAll K g_t g_p1 t_size t_low t_width t_limit t_needed t_parts t_leastSum t_fitCount t_open (va_cpy t_all t_enough 0 (r_2).toNatClampNeg 4) t_all t_chosen t_best p1_gapCount p1_targetCount p1_lookCount p1_time p1_gone p1_settings) := hD
      refine lv_iinc (v := (x5 + (1 : Int32))) (lv' := [(5, .int (x5 + (1 : Int32))), (0, .ref (g_t 0))]) hx hb dX1_searchAll_121 hl (k := 1) rfl (congrArg (fun z => x5 + z) (by decide)) (by decide) rfl (fun ls hl => ?_)
      refine lv_goto (tgt := 96) hx hb dX1_searchAll_124 (by decide) ?_
      exact ih t_size t_low t_width t_limit t_needed t_parts t_leastSum t_fitCount t_open (va_cpy t_all t_enough 0 (r_2).toNatClampNeg 4) t_all t_chosen t_best (x5 + (1 : Int32)) H locs ls hP hD hS (lv_sub hl [1, 0] rfl) hF
def F_X1_searchAll (t_size : Int32) (t_low : Int32) (t_width : Int32) (t_limit : Int32) (t_needed : Int32) (t_parts : Int32) (t_leastSum : Int32) (t_fitCount : Int32) (t_open : Nat → Int64) (t_enough : Nat → Int64) (t_all : Nat → Int64) (t_chosen : Nat → Int32) (t_best : Nat → Int32) (p1_settings : Nat → Int32) (x2 : Int32) (x3 : Int32) (x4 : Int32) : Option (Int32 × Int32 × Int32 × Int32 × Int32 × Int32 × Int32 × Int32 × (Nat → Int64) × (Nat → Int64) × (Nat → Int64) × (Nat → Int32) × (Nat → Int32)) :=
  (F_X1_openAll x3 (if (21 : Int32) < ((x4 - x3) + (1 : Int32)) then (21 : Int32) else ((x4 - x3) + (1 : Int32))) t_open t_all p1_settings).bind fun r_1 => ((F_J7_fill_d0a16 t_enough 80 (0 : Int64)).bind fun r_3 => (L_X1_searchAll_96 p1_settings fu_ x2 x3 (if (21 : Int32) < ((x4 - x3) + (1 : Int32)) then (21 : Int32) else ((x4 - x3) + (1 : Int32))) (p1_settings 3) (if x2 < (p1_settings 4) then x2 else (p1_settings 4)) (if (4 : Int32) < (((p1_settings 5) + (63 : Int32)) / (64 : Int32)) then (4 : Int32) else (((p1_settings 5) + (63 : Int32)) / (64 : Int32))) (2147483647 : Int32) (0 : Int32) r_1.1 r_3 r_1.2 t_chosen t_best (0 : Int32)))
set_option maxHeartbeats 4000000 in
set_option maxRecDepth 100000 in
theorem c_X1_searchAll (l : Launch) (D : va_G) (K : Nat → ClassId) (g_t : Nat → Nat) (g_p1 : Nat → Nat) (t_size : Int32) (t_low : Int32) (t_width : Int32) (t_limit : Int32) (t_needed : Int32) (t_parts : Int32) (t_leastSum : Int32) (t_fitCount : Int32) (t_open : Nat → Int64) (t_enough : Nat → Int64) (t_all : Nat → Int64) (t_chosen : Nat → Int32) (t_best : Nat → Int32) (p1_gapCount : Int32) (p1_targetCount : Int32) (p1_lookCount : Int32) (p1_time : Int32) (p1_gone : Int32) (p1_settings : Nat → Int32) (x2 : Int32) (x3 : Int32) (x4 : Int32) (res : Int32 × Int32 × Int32 × Int32 × Int32 × Int32 × Int32 × Int32 × (Nat → Int64) × (Nat → Int64) × (Nat → Int64) × (Nat → Int32) × (Nat → Int32)) (hF : F_X1_searchAll t_size t_low t_width t_limit t_needed t_parts t_leastSum t_fitCount t_open t_enough t_all t_chosen t_best p1_settings x2 x3 x4 = some res) :
    Mv_ l yX1_searchAll wsX1_searchAll rmX1_searchAll D K [.ref (g_t 0), .ref (g_p1 0), .int x2, .int x3, .int x4] (w_X1_searchAll K g_t g_p1 t_size t_low t_width t_limit t_needed t_parts t_leastSum t_fitCount t_open t_enough t_all t_chosen t_best p1_gapCount p1_targetCount p1_lookCount p1_time p1_gone p1_settings) (w_X1_searchAll K g_t g_p1 res.1 res.2.1 res.2.2.1 res.2.2.2.1 res.2.2.2.2.1 res.2.2.2.2.2.1 res.2.2.2.2.2.2.1 res.2.2.2.2.2.2.2.1 res.2.2.2.2.2.2.2.2.1 res.2.2.2.2.2.2.2.2.2.1 res.2.2.2.2.2.2.2.2.2.2.1 res.2.2.2.2.2.2.2.2.2.2.2.1 res.2.2.2.2.2.2.2.2.2.2.2.2 p1_gapCount p1_targetCount p1_lookCount p1_time p1_gone p1_settings) := by
  refine en_v (cc := cX1_searchAll) (maxL := 6) (own := RX1) (by decide) rfl rfl (Nat.le_of_ble_eq_true rfl) ?_
  intro p e s m args below meth c A Q H locs ls C0 hP hD hS hl HR
  obtain ⟨⟨hx, hb, hml, hown, hts⟩, hK, -⟩ := id C0
  have hl : lv_has ls 6 [(0, .ref (g_t 0)), (1, .ref (g_p1 0)), (2, .int x2), (3, .int x3), (4, .int x4)] := hl
  unfold F_X1_searchAll at hF
  refine lv_aload_n hx hb dX1_searchAll_0 rfl (lv_at hl 0 rfl) ?_
  refine lv_iload_n hx hb dX1_searchAll_1 rfl (lv_at hl 2 rfl) ?_
  refine va_put (D := D) (ci := 1) (v := .int x2) (ty := .int) (C := RX1) (T := TX1) (N := 13) hx hb hts iw_X1_searchAll_X1 tyX1 tyX1_ok nmX1 hown hK hP hD hS 0 rfl rfl 4 (by decide) (hts _ fl_X1_searchAll_28) (fun _ h9 => h9) rfl (by decide +kernel) rfl rfl (Nat.le_of_ble_eq_true rfl) dX1_searchAll_2 (fun H locs hP hD hS => ?_)
  have hP : va_P D vwCl (w_X1_searchAll K g_t g_p1 x2 t_low t_width t_limit t_needed t_parts t_leastSum t_fitCount t_open t_enough t_all t_chosen t_best p1_gapCount p1_targetCount p1_lookCount p1_time p1_gone p1_settings) H := hP
  have hD : va_D A (w_X1_searchAll K g_t g_p1 x2 t_low t_width t_limit t_needed t_parts t_leastSum t_fitCount t_open t_enough t_all t_chosen t_best p1_gapCount p1_targetCount p1_lookCount p1_time p1_gone p1_settings) := hD
  refine lv_aload_n hx hb dX1_searchAll_5 rfl (lv_at hl 0 rfl) ?_
  refine lv_iload_n hx hb dX1_searchAll_6 rfl (lv_at hl 3 rfl) ?_
  refine va_put (D := D) (ci := 1) (v := .int x3) (ty := .int) (C := RX1) (T := TX1) (N := 13) hx hb hts iw_X1_searchAll_X1 tyX1 tyX1_ok nmX1 hown hK hP hD hS 0 rfl rfl 5 (by decide) (hts _ fl_X1_searchAll_32) (fun _ h9 => h9) rfl (by decide +kernel) rfl rfl (Nat.le_of_ble_eq_true rfl) dX1_searchAll_7 (fun H locs hP hD hS => ?_)
  have hP : va_P D vwCl (w_X1_searchAll K g_t g_p1 x2 x3 t_width t_limit t_needed t_parts t_leastSum t_fitCount t_open t_enough t_all t_chosen t_best p1_gapCount p1_targetCount p1_lookCount p1_time p1_gone p1_settings) H := hP
  have hD : va_D A (w_X1_searchAll K g_t g_p1 x2 x3 t_width t_limit t_needed t_parts t_leastSum t_fitCount t_open t_enough t_all t_chosen t_best p1_gapCount p1_targetCount p1_lookCount p1_time p1_gone p1_settings) := hD
  refine lv_aload_n hx hb dX1_searchAll_10 rfl (lv_at hl 0 rfl) ?_
  refine lv_iload hx hb dX1_searchAll_11 (lv_at hl 4 rfl) ?_
  refine lv_iload_n hx hb dX1_searchAll_13 rfl (lv_at hl 3 rfl) ?_
  refine lv_isub hx hb dX1_searchAll_14 ?_
  refine lv_iconst (v := 1) hx hb dX1_searchAll_15 (by decide) ?_
  refine lv_iadd hx hb dX1_searchAll_16 ?_
  refine lv_bipush (v := 21) hx hb dX1_searchAll_17 (by decide) ?_
  refine va_mmin hx hb (hml.trans hl.1.symm) hown (hts (.methodLink RX1 35 Lib.Math.min.name) (by decide +kernel)) (hts (.static Lib.Math.min.name) (by decide +kernel)) (hts (.initialized "java/lang/Math") (by decide +kernel)) (hts (.code Lib.Math.min.name Lib.Math.min.code 2 (some .int)) (by decide +kernel)) (Nat.le_of_ble_eq_true rfl) (Nat.le_of_ble_eq_true rfl) (Nat.le_of_ble_eq_true rfl) (Nat.le_of_ble_eq_true rfl) dX1_searchAll_19 ?_
  refine va_put (D := D) (ci := 1) (v := .int (if (21 : Int32) < ((x4 - x3) + (1 : Int32)) then (21 : Int32) else ((x4 - x3) + (1 : Int32)))) (ty := .int) (C := RX1) (T := TX1) (N := 13) hx hb hts iw_X1_searchAll_X1 tyX1 tyX1_ok nmX1 hown hK hP hD hS 0 rfl rfl 6 (by decide) (hts _ fl_X1_searchAll_41) (fun _ h9 => h9) rfl (by decide +kernel) rfl rfl (Nat.le_of_ble_eq_true rfl) dX1_searchAll_22 (fun H locs hP hD hS => ?_)
  have hP : va_P D vwCl (w_X1_searchAll K g_t g_p1 x2 x3 (if (21 : Int32) < ((x4 - x3) + (1 : Int32)) then (21 : Int32) else ((x4 - x3) + (1 : Int32))) t_limit t_needed t_parts t_leastSum t_fitCount t_open t_enough t_all t_chosen t_best p1_gapCount p1_targetCount p1_lookCount p1_time p1_gone p1_settings) H := hP
  have hD : va_D A (w_X1_searchAll K g_t g_p1 x2 x3 (if (21 : Int32) < ((x4 - x3) + (1 : Int32)) then (21 : Int32) else ((x4 - x3) + (1 : Int32))) t_limit t_needed t_parts t_leastSum t_fitCount t_open t_enough t_all t_chosen t_best p1_gapCount p1_targetCount p1_lookCount p1_time p1_gone p1_settings) := hD
  refine lv_aload_n hx hb dX1_searchAll_25 rfl (lv_at hl 0 rfl) ?_
  refine lv_aload_n hx hb dX1_searchAll_26 rfl (lv_at hl 1 rfl) ?_
  refine va_get (D := D) (ci := 5) (v := .ref (g_p1 2)) (C := RX5) (T := TX5) (N := 13) hx hb hts iw_X1_searchAll_X5 hown hK hP 6 rfl rfl 1 (by decide) (hts _ fl_X1_searchAll_44) (fun _ h9 => h9) rfl dX1_searchAll_27 ?_
  refine lv_iconst (v := 3) hx hb dX1_searchAll_30 (by decide) ?_
  refine xl_i (f := p1_settings) hx hb hK hP 7 0 rfl rfl (k := 3) (by decide) (in_v (by decide)) dX1_searchAll_31 ?_
  refine va_put (D := D) (ci := 1) (v := .int (p1_settings 3)) (ty := .int) (C := RX1) (T := TX1) (N := 13) hx hb hts iw_X1_searchAll_X1 tyX1 tyX1_ok nmX1 hown hK hP hD hS 0 rfl rfl 7 (by decide) (hts _ fl_X1_searchAll_49) (fun _ h9 => h9) rfl (by decide +kernel) rfl rfl (Nat.le_of_ble_eq_true rfl) dX1_searchAll_32 (fun H locs hP hD hS => ?_)
  have hP : va_P D vwCl (w_X1_searchAll K g_t g_p1 x2 x3 (if (21 : Int32) < ((x4 - x3) + (1 : Int32)) then (21 : Int32) else ((x4 - x3) + (1 : Int32))) (p1_settings 3) t_needed t_parts t_leastSum t_fitCount t_open t_enough t_all t_chosen t_best p1_gapCount p1_targetCount p1_lookCount p1_time p1_gone p1_settings) H := hP
  have hD : va_D A (w_X1_searchAll K g_t g_p1 x2 x3 (if (21 : Int32) < ((x4 - x3) + (1 : Int32)) then (21 : Int32) else ((x4 - x3) + (1 : Int32))) (p1_settings 3) t_needed t_parts t_leastSum t_fitCount t_open t_enough t_all t_chosen t_best p1_gapCount p1_targetCount p1_lookCount p1_time p1_gone p1_settings) := hD
  refine lv_aload_n hx hb dX1_searchAll_35 rfl (lv_at hl 0 rfl) ?_
  refine lv_aload_n hx hb dX1_searchAll_36 rfl (lv_at hl 1 rfl) ?_
  refine va_get (D := D) (ci := 5) (v := .ref (g_p1 2)) (C := RX5) (T := TX5) (N := 13) hx hb hts iw_X1_searchAll_X5 hown hK hP 6 rfl rfl 1 (by decide) (hts _ fl_X1_searchAll_44) (fun _ h9 => h9) rfl dX1_searchAll_37 ?_
  refine lv_iconst (v := 4) hx hb dX1_searchAll_40 (by decide) ?_
  refine xl_i (f := p1_settings) hx hb hK hP 7 0 rfl rfl (k := 4) (by decide) (in_v (by decide)) dX1_searchAll_41 ?_
  refine lv_iload_n hx hb dX1_searchAll_42 rfl (lv_at hl 2 rfl) ?_
  refine va_mmin hx hb (hml.trans hl.1.symm) hown (hts (.methodLink RX1 35 Lib.Math.min.name) (by decide +kernel)) (hts (.static Lib.Math.min.name) (by decide +kernel)) (hts (.initialized "java/lang/Math") (by decide +kernel)) (hts (.code Lib.Math.min.name Lib.Math.min.code 2 (some .int)) (by decide +kernel)) (Nat.le_of_ble_eq_true rfl) (Nat.le_of_ble_eq_true rfl) (Nat.le_of_ble_eq_true rfl) (Nat.le_of_ble_eq_true rfl) dX1_searchAll_43 ?_
  refine va_put (D := D) (ci := 1) (v := .int (if x2 < (p1_settings 4) then x2 else (p1_settings 4))) (ty := .int) (C := RX1) (T := TX1) (N := 13) hx hb hts iw_X1_searchAll_X1 tyX1 tyX1_ok nmX1 hown hK hP hD hS 0 rfl rfl 8 (by decide) (hts _ fl_X1_searchAll_52) (fun _ h9 => h9) rfl (by decide +kernel) rfl rfl (Nat.le_of_ble_eq_true rfl) dX1_searchAll_46 (fun H locs hP hD hS => ?_)
  have hP : va_P D vwCl (w_X1_searchAll K g_t g_p1 x2 x3 (if (21 : Int32) < ((x4 - x3) + (1 : Int32)) then (21 : Int32) else ((x4 - x3) + (1 : Int32))) (p1_settings 3) (if x2 < (p1_settings 4) then x2 else (p1_settings 4)) t_parts t_leastSum t_fitCount t_open t_enough t_all t_chosen t_best p1_gapCount p1_targetCount p1_lookCount p1_time p1_gone p1_settings) H := hP
  have hD : va_D A (w_X1_searchAll K g_t g_p1 x2 x3 (if (21 : Int32) < ((x4 - x3) + (1 : Int32)) then (21 : Int32) else ((x4 - x3) + (1 : Int32))) (p1_settings 3) (if x2 < (p1_settings 4) then x2 else (p1_settings 4)) t_parts t_leastSum t_fitCount t_open t_enough t_all t_chosen t_best p1_gapCount p1_targetCount p1_lookCount p1_time p1_gone p1_settings) := hD
  refine lv_aload_n hx hb dX1_searchAll_49 rfl (lv_at hl 0 rfl) ?_
  refine lv_aload_n hx hb dX1_searchAll_50 rfl (lv_at hl 1 rfl) ?_
  refine va_get (D := D) (ci := 5) (v := .ref (g_p1 2)) (C := RX5) (T := TX5) (N := 13) hx hb hts iw_X1_searchAll_X5 hown hK hP 6 rfl rfl 1 (by decide) (hts _ fl_X1_searchAll_44) (fun _ h9 => h9) rfl dX1_searchAll_51 ?_
  refine lv_iconst (v := 5) hx hb dX1_searchAll_54 (by decide) ?_
  refine xl_i (f := p1_settings) hx hb hK hP 7 0 rfl rfl (k := 5) (by decide) (in_v (by decide)) dX1_searchAll_55 ?_
  refine lv_bipush (v := 63) hx hb dX1_searchAll_56 (by decide) ?_
  refine lv_iadd hx hb dX1_searchAll_58 ?_
  refine lv_bipush (v := 64) hx hb dX1_searchAll_59 (by decide) ?_
  refine lv_idiv hx hb dX1_searchAll_61 (by decide) ?_
  refine lv_iconst (v := 4) hx hb dX1_searchAll_62 (by decide) ?_
  refine va_mmin hx hb (hml.trans hl.1.symm) hown (hts (.methodLink RX1 35 Lib.Math.min.name) (by decide +kernel)) (hts (.static Lib.Math.min.name) (by decide +kernel)) (hts (.initialized "java/lang/Math") (by decide +kernel)) (hts (.code Lib.Math.min.name Lib.Math.min.code 2 (some .int)) (by decide +kernel)) (Nat.le_of_ble_eq_true rfl) (Nat.le_of_ble_eq_true rfl) (Nat.le_of_ble_eq_true rfl) (Nat.le_of_ble_eq_true rfl) dX1_searchAll_63 ?_
  refine va_put (D := D) (ci := 1) (v := .int (if (4 : Int32) < (((p1_settings 5) + (63 : Int32)) / (64 : Int32)) then (4 : Int32) else (((p1_settings 5) + (63 : Int32)) / (64 : Int32)))) (ty := .int) (C := RX1) (T := TX1) (N := 13) hx hb hts iw_X1_searchAll_X1 tyX1 tyX1_ok nmX1 hown hK hP hD hS 0 rfl rfl 9 (by decide) (hts _ fl_X1_searchAll_55) (fun _ h9 => h9) rfl (by decide +kernel) rfl rfl (Nat.le_of_ble_eq_true rfl) dX1_searchAll_66 (fun H locs hP hD hS => ?_)
  have hP : va_P D vwCl (w_X1_searchAll K g_t g_p1 x2 x3 (if (21 : Int32) < ((x4 - x3) + (1 : Int32)) then (21 : Int32) else ((x4 - x3) + (1 : Int32))) (p1_settings 3) (if x2 < (p1_settings 4) then x2 else (p1_settings 4)) (if (4 : Int32) < (((p1_settings 5) + (63 : Int32)) / (64 : Int32)) then (4 : Int32) else (((p1_settings 5) + (63 : Int32)) / (64 : Int32))) t_leastSum t_fitCount t_open t_enough t_all t_chosen t_best p1_gapCount p1_targetCount p1_lookCount p1_time p1_gone p1_settings) H := hP
  have hD : va_D A (w_X1_searchAll K g_t g_p1 x2 x3 (if (21 : Int32) < ((x4 - x3) + (1 : Int32)) then (21 : Int32) else ((x4 - x3) + (1 : Int32))) (p1_settings 3) (if x2 < (p1_settings 4) then x2 else (p1_settings 4)) (if (4 : Int32) < (((p1_settings 5) + (63 : Int32)) / (64 : Int32)) then (4 : Int32) else (((p1_settings 5) + (63 : Int32)) / (64 : Int32))) t_leastSum t_fitCount t_open t_enough t_all t_chosen t_best p1_gapCount p1_targetCount p1_lookCount p1_time p1_gone p1_settings) := hD
  refine lv_aload_n hx hb dX1_searchAll_69 rfl (lv_at hl 0 rfl) ?_
  refine lv_iconst (v := 0) hx hb dX1_searchAll_70 (by decide) ?_
  refine va_put (D := D) (ci := 1) (v := .int (0 : Int32)) (ty := .int) (C := RX1) (T := TX1) (N := 13) hx hb hts iw_X1_searchAll_X1 tyX1 tyX1_ok nmX1 hown hK hP hD hS 0 rfl rfl 12 (by decide) (hts _ fl_X1_searchAll_58) (fun _ h9 => h9) rfl (by decide +kernel) rfl rfl (Nat.le_of_ble_eq_true rfl) dX1_searchAll_71 (fun H locs hP hD hS => ?_)
  have hP : va_P D vwCl (w_X1_searchAll K g_t g_p1 x2 x3 (if (21 : Int32) < ((x4 - x3) + (1 : Int32)) then (21 : Int32) else ((x4 - x3) + (1 : Int32))) (p1_settings 3) (if x2 < (p1_settings 4) then x2 else (p1_settings 4)) (if (4 : Int32) < (((p1_settings 5) + (63 : Int32)) / (64 : Int32)) then (4 : Int32) else (((p1_settings 5) + (63 : Int32)) / (64 : Int32))) t_leastSum (0 : Int32) t_open t_enough t_all t_chosen t_best p1_gapCount p1_targetCount p1_lookCount p1_time p1_gone p1_settings) H := hP
  have hD : va_D A (w_X1_searchAll K g_t g_p1 x2 x3 (if (21 : Int32) < ((x4 - x3) + (1 : Int32)) then (21 : Int32) else ((x4 - x3) + (1 : Int32))) (p1_settings 3) (if x2 < (p1_settings 4) then x2 else (p1_settings 4)) (if (4 : Int32) < (((p1_settings 5) + (63 : Int32)) / (64 : Int32)) then (4 : Int32) else (((p1_settings 5) + (63 : Int32)) / (64 : Int32))) t_leastSum (0 : Int32) t_open t_enough t_all t_chosen t_best p1_gapCount p1_targetCount p1_lookCount p1_time p1_gone p1_settings) := hD
  refine lv_aload_n hx hb dX1_searchAll_74 rfl (lv_at hl 0 rfl) ?_
  refine lv_ldc (v := 2147483647) hx hb hown (hts _ ld_X1_searchAll_63) dX1_searchAll_75 ?_
  refine va_put (D := D) (ci := 1) (v := .int (2147483647 : Int32)) (ty := .int) (C := RX1) (T := TX1) (N := 13) hx hb hts iw_X1_searchAll_X1 tyX1 tyX1_ok nmX1 hown hK hP hD hS 0 rfl rfl 11 (by decide) (hts _ fl_X1_searchAll_64) (fun _ h9 => h9) rfl (by decide +kernel) rfl rfl (Nat.le_of_ble_eq_true rfl) dX1_searchAll_77 (fun H locs hP hD hS => ?_)
  have hP : va_P D vwCl (w_X1_searchAll K g_t g_p1 x2 x3 (if (21 : Int32) < ((x4 - x3) + (1 : Int32)) then (21 : Int32) else ((x4 - x3) + (1 : Int32))) (p1_settings 3) (if x2 < (p1_settings 4) then x2 else (p1_settings 4)) (if (4 : Int32) < (((p1_settings 5) + (63 : Int32)) / (64 : Int32)) then (4 : Int32) else (((p1_settings 5) + (63 : Int32)) / (64 : Int32))) (2147483647 : Int32) (0 : Int32) t_open t_enough t_all t_chosen t_best p1_gapCount p1_targetCount p1_lookCount p1_time p1_gone p1_settings) H := hP
  have hD : va_D A (w_X1_searchAll K g_t g_p1 x2 x3 (if (21 : Int32) < ((x4 - x3) + (1 : Int32)) then (21 : Int32) else ((x4 - x3) + (1 : Int32))) (p1_settings 3) (if x2 < (p1_settings 4) then x2 else (p1_settings 4)) (if (4 : Int32) < (((p1_settings 5) + (63 : Int32)) / (64 : Int32)) then (4 : Int32) else (((p1_settings 5) + (63 : Int32)) / (64 : Int32))) (2147483647 : Int32) (0 : Int32) t_open t_enough t_all t_chosen t_best p1_gapCount p1_targetCount p1_lookCount p1_time p1_gone p1_settings) := hD
  refine lv_aload_n hx hb dX1_searchAll_80 rfl (lv_at hl 0 rfl) ?_
  refine lv_aload_n hx hb dX1_searchAll_81 rfl (lv_at hl 1 rfl) ?_
  obtain ⟨r_1, hc_2, hF⟩ := bn_some hF
  refine xc_v (wn := (w_X1_searchAll K g_t g_p1 x2 x3 (if (21 : Int32) < ((x4 - x3) + (1 : Int32)) then (21 : Int32) else ((x4 - x3) + (1 : Int32))) (p1_settings 3) (if x2 < (p1_settings 4) then x2 else (p1_settings 4)) (if (4 : Int32) < (((p1_settings 5) + (63 : Int32)) / (64 : Int32)) then (4 : Int32) else (((p1_settings 5) + (63 : Int32)) / (64 : Int32))) (2147483647 : Int32) (0 : Int32) r_1.1 t_enough r_1.2 t_chosen t_best p1_gapCount p1_targetCount p1_lookCount p1_time p1_gone p1_settings)) hP hD hS C0.2.2.1 [0, 1, 3, 6, 7] [2, 4, 5] [3, 4, 0, 5, 1, 2, 6, 7] rfl rfl (by decide) (by decide) rfl (by decide) (va_runV (As := [.ref (g_p1 0)]) (rest := []) C0.1 (c_X1_openAll l D K g_t g_p1 x2 x3 (if (21 : Int32) < ((x4 - x3) + (1 : Int32)) then (21 : Int32) else ((x4 - x3) + (1 : Int32))) (p1_settings 3) (if x2 < (p1_settings 4) then x2 else (p1_settings 4)) (if (4 : Int32) < (((p1_settings 5) + (63 : Int32)) / (64 : Int32)) then (4 : Int32) else (((p1_settings 5) + (63 : Int32)) / (64 : Int32))) (2147483647 : Int32) (0 : Int32) t_open t_all p1_gapCount p1_targetCount p1_lookCount p1_time p1_gone p1_settings r_1 hc_2 H.size) (cwV 1 hts gX1_searchAll_X1_openAll rfl rfl rfl (by decide +kernel) ⟨Nat.le_of_ble_eq_true rfl, Nat.le_of_ble_eq_true rfl⟩) (xp_V C0.2 hP hD hS [0, 1, 3, 6, 7] rfl (by decide) 1 0 rfl rfl rfl) rfl rfl hl.1 rfl (lv_room (Nat.le_of_ble_eq_true rfl)) dX1_searchAll_82 ⟨Nat.le_of_ble_eq_true rfl, Nat.le_of_ble_eq_true rfl⟩) (fun H locs hP hD hS => ?_)
  refine lv_aload_n hx hb dX1_searchAll_85 rfl (lv_at hl 0 rfl) ?_
  refine va_get (D := D) (ci := 1) (v := .ref (g_t 2)) (C := RX1) (T := TX1) (N := 13) hx hb hts iw_X1_searchAll_X1 hown hK hP 0 rfl rfl 1 (by decide) (hts _ fl_X1_searchAll_15) (fun _ h9 => h9) rfl dX1_searchAll_86 ?_
  refine lv_lconst (v := 0) hx hb dX1_searchAll_89 (by decide) ?_
  obtain ⟨r_3, hc_4, hF⟩ := bn_some hF
  refine xc_v (wn := (w_X1_searchAll K g_t g_p1 x2 x3 (if (21 : Int32) < ((x4 - x3) + (1 : Int32)) then (21 : Int32) else ((x4 - x3) + (1 : Int32))) (p1_settings 3) (if x2 < (p1_settings 4) then x2 else (p1_settings 4)) (if (4 : Int32) < (((p1_settings 5) + (63 : Int32)) / (64 : Int32)) then (4 : Int32) else (((p1_settings 5) + (63 : Int32)) / (64 : Int32))) (2147483647 : Int32) (0 : Int32) r_1.1 r_3 r_1.2 t_chosen t_best p1_gapCount p1_targetCount p1_lookCount p1_time p1_gone p1_settings)) hP hD hS C0.2.2.1 [2] [0, 1, 3, 4, 5, 6, 7] [0, 1, 7, 2, 3, 4, 5, 6] rfl rfl (by decide) (by decide) rfl (by decide) (va_runS (As := [.ref (g_t 2), .long (0 : Int64)]) (rest := []) C0.1 (c_J7_fill_d0a16 l D K (g_t 2) 80 t_enough (0 : Int64) r_3 hc_4 H.size) (va_cwS 2 hts gX1_searchAll_J7_fill_d0a16 rfl rfl rfl (by decide +kernel) ⟨Nat.le_of_ble_eq_true rfl, Nat.le_of_ble_eq_true rfl⟩) (xp_S C0.2 hP hD hS [2] rfl (by decide)) rfl rfl hl.1 rfl (lv_room (Nat.le_of_ble_eq_true rfl)) dX1_searchAll_90 ⟨Nat.le_of_ble_eq_true rfl, Nat.le_of_ble_eq_true rfl⟩) (fun H locs hP hD hS => ?_)
  refine lv_iconst (v := 0) hx hb dX1_searchAll_93 (by decide) ?_
  refine lv_istore (lv' := [(5, .int (0 : Int32)), (0, .ref (g_t 0)), (1, .ref (g_p1 0)), (2, .int x2), (3, .int x3), (4, .int x4)]) hx hb dX1_searchAll_94 hl (by decide) rfl (fun ls hl => ?_)
  exact w_X1_searchAll_96 C0 HR fu_ x2 x3 (if (21 : Int32) < ((x4 - x3) + (1 : Int32)) then (21 : Int32) else ((x4 - x3) + (1 : Int32))) (p1_settings 3) (if x2 < (p1_settings 4) then x2 else (p1_settings 4)) (if (4 : Int32) < (((p1_settings 5) + (63 : Int32)) / (64 : Int32)) then (4 : Int32) else (((p1_settings 5) + (63 : Int32)) / (64 : Int32))) (2147483647 : Int32) (0 : Int32) r_1.1 r_3 r_1.2 t_chosen t_best (0 : Int32) H locs ls hP hD hS (lv_sub hl [1, 0] rfl) hF

/-! StaggerRadar.choose(IIII)I -/
abbrev rmX10_choose : Room := { frames := 8, cells := 0, slots := 0, locals := 241 }
theorem fl_X10_choose_10 : Cond.fieldLink RX10 10 "StaggerRadar" "radar" "LStaggerRadar$Radar;" ∈ wsX10_choose := by decide +kernel
theorem fl_X10_choose_76 : Cond.fieldLink RX10 76 "StaggerRadar" "chooser" "LStaggerRadar$Chooser;" ∈ wsX10_choose := by decide +kernel
theorem fl_X10_choose_342 : Cond.fieldLink RX10 342 "StaggerRadar$Chooser" "fitCount" "I" ∈ wsX10_choose := by decide +kernel
theorem fl_X10_choose_345 : Cond.fieldLink RX10 345 "StaggerRadar$Chooser" "leastSum" "I" ∈ wsX10_choose := by decide +kernel
theorem fl_X10_choose_348 : Cond.fieldLink RX10 348 "StaggerRadar$Chooser" "best" "[I" ∈ wsX10_choose := by decide +kernel
theorem iw_X10_choose_X1 : ∀ w ∈ u_ws RX1 TX1 13, w ∈ wsX10_choose := by decide +kernel
theorem iw_X10_choose_X10 : ∀ w ∈ u_ws RX10 TX10 14, w ∈ wsX10_choose := by decide +kernel
theorem iw_X10_choose_X5 : ∀ w ∈ u_ws RX5 TX5 13, w ∈ wsX10_choose := by decide +kernel
abbrev w_X10_choose (K : Nat → ClassId) (g_t : Nat → Nat) (g_t_radar : Nat → Nat) (g_t_draft : Nat → Nat) (g_t_text : Nat → Nat) (g_t_reader : Nat → Nat) (g_t_history : Nat → Nat) (g_t_echoes : Nat → Nat) (g_t_tracks : Nat → Nat) (g_t_dwelling : Nat → Nat) (g_t_chooser : Nat → Nat) (g_t_adviser : Nat → Nat) (t_radar_gapCount : Int32) (t_radar_targetCount : Int32) (t_radar_lookCount : Int32) (t_radar_time : Int32) (t_radar_gone : Int32) (t_radar_settings : Nat → Int32) (t_chooser_size : Int32) (t_chooser_low : Int32) (t_chooser_width : Int32) (t_chooser_limit : Int32) (t_chooser_needed : Int32) (t_chooser_parts : Int32) (t_chooser_leastSum : Int32) (t_chooser_fitCount : Int32) (t_chooser_open : Nat → Int64) (t_chooser_enough : Nat → Int64) (t_chooser_all : Nat → Int64) (t_chooser_chosen : Nat → Int32) (t_chooser_best : Nat → Int32) : va_W := [((g_t 0), .inr (9, [.ref (g_t_radar 0), .ref (g_t_draft 0), .ref (g_t_text 0), .ref (g_t_reader 0), .ref (g_t_history 0), .ref (g_t 6), .ref (g_t 7), .ref (g_t 8), .ref (g_t_echoes 0), .ref (g_t_tracks 0), .ref (g_t_dwelling 0), .ref (g_t_chooser 0), .ref (g_t_adviser 0), .ref (g_t 14)])), ((g_t_radar 0), .inr (5, [.ref (g_t_radar 1), .ref (g_t_radar 2), .ref (g_t_radar 3), .ref (g_t_radar 4), .ref (g_t_radar 5), .ref (g_t_radar 6), .ref (g_t_radar 7), .ref (g_t_radar 8), .int t_radar_gapCount, .int t_radar_targetCount, .int t_radar_lookCount, .int t_radar_time, .int t_radar_gone])), ((g_t_radar 2), .inl (K 0, 7, .inl t_radar_settings)), ((g_t_chooser 0), .inr (1, [.ref (g_t_chooser 1), .ref (g_t_chooser 2), .ref (g_t_chooser 3), .ref (g_t_chooser 4), .int t_chooser_size, .int t_chooser_low, .int t_chooser_width, .int t_chooser_limit, .int t_chooser_needed, .int t_chooser_parts, .ref (g_t_chooser 11), .int t_chooser_leastSum, .int t_chooser_fitCount])), ((g_t_chooser 1), .inl (K 1, 84, .inr (.inl t_chooser_open))), ((g_t_chooser 2), .inl (K 1, 80, .inr (.inl t_chooser_enough))), ((g_t_chooser 3), .inl (K 1, 4, .inr (.inl t_chooser_all))), ((g_t_chooser 4), .inl (K 0, 4, .inl t_chooser_chosen)), ((g_t_chooser 11), .inl (K 0, 4, .inl t_chooser_best))]
def J_X10_choose_67 (t_radar_settings : Nat → Int32) (t_chooser_size : Int32) (t_chooser_low : Int32) (t_chooser_width : Int32) (t_chooser_limit : Int32) (t_chooser_needed : Int32) (t_chooser_parts : Int32) (t_chooser_leastSum : Int32) (t_chooser_fitCount : Int32) (t_chooser_open : Nat → Int64) (t_chooser_enough : Nat → Int64) (t_chooser_all : Nat → Int64) (t_chooser_chosen : Nat → Int32) (t_chooser_best : Nat → Int32) (x1 : Int32) (x2 : Int32) (x3 : Int32) (x4 : Int32) : Option (Int32 × Int32 × Int32 × Int32 × Int32 × Int32 × Int32 × Int32 × Int32 × (Nat → Int64) × (Nat → Int64) × (Nat → Int64) × (Nat → Int32) × (Nat → Int32)) :=
  (F_X1_searchAll t_chooser_size t_chooser_low t_chooser_width t_chooser_limit t_chooser_needed t_chooser_parts t_chooser_leastSum t_chooser_fitCount t_chooser_open t_chooser_enough t_chooser_all t_chooser_chosen t_chooser_best t_radar_settings x1 x2 x3).bind fun r_1 => (if x4 = (0 : Int32) then (some (r_1.2.2.2.2.2.2.2.1, r_1.1, r_1.2.1, r_1.2.2.1, r_1.2.2.2.1, r_1.2.2.2.2.1, r_1.2.2.2.2.2.1, r_1.2.2.2.2.2.2.1, r_1.2.2.2.2.2.2.2.1, r_1.2.2.2.2.2.2.2.2.1, r_1.2.2.2.2.2.2.2.2.2.1, r_1.2.2.2.2.2.2.2.2.2.2.1, r_1.2.2.2.2.2.2.2.2.2.2.2.1, r_1.2.2.2.2.2.2.2.2.2.2.2.2)) else (if r_1.2.2.2.2.2.2.2.1 = (0 : Int32) then (some ((-1 : Int32), r_1.1, r_1.2.1, r_1.2.2.1, r_1.2.2.2.1, r_1.2.2.2.2.1, r_1.2.2.2.2.2.1, r_1.2.2.2.2.2.2.1, r_1.2.2.2.2.2.2.2.1, r_1.2.2.2.2.2.2.2.2.1, r_1.2.2.2.2.2.2.2.2.2.1, r_1.2.2.2.2.2.2.2.2.2.2.1, r_1.2.2.2.2.2.2.2.2.2.2.2.1, r_1.2.2.2.2.2.2.2.2.2.2.2.2)) else (if x4 = (1 : Int32) then (some (r_1.2.2.2.2.2.2.1, r_1.1, r_1.2.1, r_1.2.2.1, r_1.2.2.2.1, r_1.2.2.2.2.1, r_1.2.2.2.2.2.1, r_1.2.2.2.2.2.2.1, r_1.2.2.2.2.2.2.2.1, r_1.2.2.2.2.2.2.2.2.1, r_1.2.2.2.2.2.2.2.2.2.1, r_1.2.2.2.2.2.2.2.2.2.2.1, r_1.2.2.2.2.2.2.2.2.2.2.2.1, r_1.2.2.2.2.2.2.2.2.2.2.2.2)) else (gd_ (in_b (x4 - (10 : Int32)) 4) (some ((r_1.2.2.2.2.2.2.2.2.2.2.2.2 (x4 - (10 : Int32)).toNatClampNeg), r_1.1, r_1.2.1, r_1.2.2.1, r_1.2.2.2.1, r_1.2.2.2.2.1, r_1.2.2.2.2.2.1, r_1.2.2.2.2.2.2.1, r_1.2.2.2.2.2.2.2.1, r_1.2.2.2.2.2.2.2.2.1, r_1.2.2.2.2.2.2.2.2.2.1, r_1.2.2.2.2.2.2.2.2.2.2.1, r_1.2.2.2.2.2.2.2.2.2.2.2.1, r_1.2.2.2.2.2.2.2.2.2.2.2.2))))))
set_option maxHeartbeats 4000000 in
set_option maxRecDepth 100000 in
theorem w_X10_choose_67 {p : Program} {l : Launch} {e : Env} {s : State} {m : MethodId} {args : Array Value} {below : List Frame} {meth : Method} {c : Code} {D : va_G} {K : Nat → ClassId} {A : Nat → Prop} {Q : State → Prop} (C0 : cx_ p s m args c cX10_choose 5 RX10 wsX10_choose D K A) {g_t : Nat → Nat} {g_t_radar : Nat → Nat} {g_t_draft : Nat → Nat} {g_t_text : Nat → Nat} {g_t_reader : Nat → Nat} {g_t_history : Nat → Nat} {g_t_echoes : Nat → Nat} {g_t_tracks : Nat → Nat} {g_t_dwelling : Nat → Nat} {g_t_chooser : Nat → Nat} {g_t_adviser : Nat → Nat} {t_radar_gapCount : Int32} {t_radar_targetCount : Int32} {t_radar_lookCount : Int32} {t_radar_time : Int32} {t_radar_gone : Int32} {t_radar_settings : Nat → Int32} {res : Int32 × Int32 × Int32 × Int32 × Int32 × Int32 × Int32 × Int32 × Int32 × (Nat → Int64) × (Nat → Int64) × (Nat → Int64) × (Nat → Int32) × (Nat → Int32)} (HR : ∀ (pc : Nat) (H : Heap) (locs : List Loc) (ls : Array Slot), decode cX10_choose pc = .ok (.ireturn, 1) → va_P D vwCl (w_X10_choose K g_t g_t_radar g_t_draft g_t_text g_t_reader g_t_history g_t_echoes g_t_tracks g_t_dwelling g_t_chooser g_t_adviser t_radar_gapCount t_radar_targetCount t_radar_lookCount t_radar_time t_radar_gone t_radar_settings res.2.1 res.2.2.1 res.2.2.2.1 res.2.2.2.2.1 res.2.2.2.2.2.1 res.2.2.2.2.2.2.1 res.2.2.2.2.2.2.2.1 res.2.2.2.2.2.2.2.2.1 res.2.2.2.2.2.2.2.2.2.1 res.2.2.2.2.2.2.2.2.2.2.1 res.2.2.2.2.2.2.2.2.2.2.2.1 res.2.2.2.2.2.2.2.2.2.2.2.2.1 res.2.2.2.2.2.2.2.2.2.2.2.2.2) H → va_D A (w_X10_choose K g_t g_t_radar g_t_draft g_t_text g_t_reader g_t_history g_t_echoes g_t_tracks g_t_dwelling g_t_chooser g_t_adviser t_radar_gapCount t_radar_targetCount t_radar_lookCount t_radar_time t_radar_gone t_radar_settings res.2.1 res.2.2.1 res.2.2.2.1 res.2.2.2.2.1 res.2.2.2.2.2.1 res.2.2.2.2.2.2.1 res.2.2.2.2.2.2.2.1 res.2.2.2.2.2.2.2.2.1 res.2.2.2.2.2.2.2.2.2.1 res.2.2.2.2.2.2.2.2.2.2.1 res.2.2.2.2.2.2.2.2.2.2.2.1 res.2.2.2.2.2.2.2.2.2.2.2.2.1 res.2.2.2.2.2.2.2.2.2.2.2.2.2) → va_S A s.heap H locs → W p l e rmX10_choose s m args below meth c H locs 0 0 Q (F0 m pc ls [.int res.1]))  :
    ∀ (t_chooser_size : Int32) (t_chooser_low : Int32) (t_chooser_width : Int32) (t_chooser_limit : Int32) (t_chooser_needed : Int32) (t_chooser_parts : Int32) (t_chooser_leastSum : Int32) (t_chooser_fitCount : Int32) (t_chooser_open : Nat → Int64) (t_chooser_enough : Nat → Int64) (t_chooser_all : Nat → Int64) (t_chooser_chosen : Nat → Int32) (t_chooser_best : Nat → Int32) (x1 : Int32) (x2 : Int32) (x3 : Int32) (x4 : Int32) (H : Heap) (locs : List Loc) (ls : Array Slot), va_P D vwCl (w_X10_choose K g_t g_t_radar g_t_draft g_t_text g_t_reader g_t_history g_t_echoes g_t_tracks g_t_dwelling g_t_chooser g_t_adviser t_radar_gapCount t_radar_targetCount t_radar_lookCount t_radar_time t_radar_gone t_radar_settings t_chooser_size t_chooser_low t_chooser_width t_chooser_limit t_chooser_needed t_chooser_parts t_chooser_leastSum t_chooser_fitCount t_chooser_open t_chooser_enough t_chooser_all t_chooser_chosen t_chooser_best) H → va_D A (w_X10_choose K g_t g_t_radar g_t_draft g_t_text g_t_reader g_t_history g_t_echoes g_t_tracks g_t_dwelling g_t_chooser g_t_adviser t_radar_gapCount t_radar_targetCount t_radar_lookCount t_radar_time t_radar_gone t_radar_settings t_chooser_size t_chooser_low t_chooser_width t_chooser_limit t_chooser_needed t_chooser_parts t_chooser_leastSum t_chooser_fitCount t_chooser_open t_chooser_enough t_chooser_all t_chooser_chosen t_chooser_best) → va_S A s.heap H locs → lv_has ls 5 [(0, .ref (g_t 0)), (1, .int x1), (2, .int x2), (3, .int x3), (4, .int x4)] → J_X10_choose_67 t_radar_settings t_chooser_size t_chooser_low t_chooser_width t_chooser_limit t_chooser_needed t_chooser_parts t_chooser_leastSum t_chooser_fitCount t_chooser_open t_chooser_enough t_chooser_all t_chooser_chosen t_chooser_best x1 x2 x3 x4 = some res → W p l e rmX10_choose s m args below meth c H locs 0 0 Q (F0 m 67 ls []) := by
  obtain ⟨⟨hx, hb, hml, hown, hts⟩, hK, -⟩ := id C0
  intro t_chooser_size t_chooser_low t_chooser_width t_chooser_limit t_chooser_needed t_chooser_parts t_chooser_leastSum t_chooser_fitCount t_chooser_open t_chooser_enough t_chooser_all t_chooser_chosen t_chooser_best x1 x2 x3 x4 H locs ls hP hD hS hl hF
  unfold J_X10_choose_67 at hF
  refine lv_aload_n hx hb dX10_choose_67 rfl (lv_at hl 0 rfl) ?_
  refine va_get (D := D) (ci := 9) (v := .ref (g_t_chooser 0)) (C := RX10) (T := TX10) (N := 14) hx hb hts iw_X10_choose_X10 hown hK hP 0 rfl rfl 11 (by decide) (hts _ fl_X10_choose_76) (fun _ h9 => h9) rfl dX10_choose_68 ?_
  refine lv_aload_n hx hb dX10_choose_71 rfl (lv_at hl 0 rfl) ?_
  refine va_get (D := D) (ci := 9) (v := .ref (g_t_radar 0)) (C := RX10) (T := TX10) (N := 14) hx hb hts iw_X10_choose_X10 hown hK hP 0 rfl rfl 0 (by decide) (hts _ fl_X10_choose_10) (fun _ h9 => h9) rfl dX10_choose_72 ?_
  refine lv_iload_n hx hb dX10_choose_75 rfl (lv_at hl 1 rfl) ?_
  refine lv_iload_n hx hb dX10_choose_76 rfl (lv_at hl 2 rfl) ?_
  refine lv_iload_n hx hb dX10_choose_77 rfl (lv_at hl 3 rfl) ?_
  obtain ⟨r_1, hc_2, hF⟩ := bn_some hF
  refine xc_v (wn := (w_X10_choose K g_t g_t_radar g_t_draft g_t_text g_t_reader g_t_history g_t_echoes g_t_tracks g_t_dwelling g_t_chooser g_t_adviser t_radar_gapCount t_radar_targetCount t_radar_lookCount t_radar_time t_radar_gone t_radar_settings r_1.1 r_1.2.1 r_1.2.2.1 r_1.2.2.2.1 r_1.2.2.2.2.1 r_1.2.2.2.2.2.1 r_1.2.2.2.2.2.2.1 r_1.2.2.2.2.2.2.2.1 r_1.2.2.2.2.2.2.2.2.1 r_1.2.2.2.2.2.2.2.2.2.1 r_1.2.2.2.2.2.2.2.2.2.2.1 r_1.2.2.2.2.2.2.2.2.2.2.2.1 r_1.2.2.2.2.2.2.2.2.2.2.2.2)) hP hD hS C0.2.2.1 [3, 4, 5, 6, 7, 8, 1, 2] [0] [0, 7, 8, 1, 2, 3, 4, 5, 6] rfl rfl (by decide) (by decide) rfl (by decide) (va_runV (As := [.ref (g_t_radar 0), .int x1, .int x2, .int x3]) (rest := []) C0.1 (c_X1_searchAll l D K g_t_chooser g_t_radar t_chooser_size t_chooser_low t_chooser_width t_chooser_limit t_chooser_needed t_chooser_parts t_chooser_leastSum t_chooser_fitCount t_chooser_open t_chooser_enough t_chooser_all t_chooser_chosen t_chooser_best t_radar_gapCount t_radar_targetCount t_radar_lookCount t_radar_time t_radar_gone t_radar_settings x1 x2 x3 r_1 hc_2 H.size) (cwV 4 hts gX10_choose_X1_searchAll rfl rfl rfl (by decide +kernel) ⟨Nat.le_of_ble_eq_true rfl, Nat.le_of_ble_eq_true rfl⟩) (xp_V C0.2 hP hD hS [3, 4, 5, 6, 7, 8, 1, 2] rfl (by decide) 1 0 rfl rfl rfl) rfl rfl hl.1 rfl (lv_room (Nat.le_of_ble_eq_true rfl)) dX10_choose_78 ⟨Nat.le_of_ble_eq_true rfl, Nat.le_of_ble_eq_true rfl⟩) (fun H locs hP hD hS => ?_)
  refine lv_iload hx hb dX10_choose_81 (lv_at hl 4 rfl) ?_
  refine lv_if_ne (tgt := 94) hx hb dX10_choose_83 (by decide) (fun c_3 => ?_) (fun c_3 => ?_)
  · have hF := it_neg c_3 hF
    refine lv_aload_n hx hb dX10_choose_94 rfl (lv_at hl 0 rfl) ?_
    refine va_get (D := D) (ci := 9) (v := .ref (g_t_chooser 0)) (C := RX10) (T := TX10) (N := 14) hx hb hts iw_X10_choose_X10 hown hK hP 0 rfl rfl 11 (by decide) (hts _ fl_X10_choose_76) (fun _ h9 => h9) rfl dX10_choose_95 ?_
    refine va_get (D := D) (ci := 1) (v := .int r_1.2.2.2.2.2.2.2.1) (C := RX1) (T := TX1) (N := 13) hx hb hts iw_X10_choose_X1 hown hK hP 3 rfl rfl 12 (by decide) (hts _ fl_X10_choose_342) (fun _ h9 => h9) rfl dX10_choose_98 ?_
    refine lv_if_ne (tgt := 106) hx hb dX10_choose_101 (by decide) (fun c_4 => ?_) (fun c_4 => ?_)
    · have hF := it_neg c_4 hF
      refine lv_iload hx hb dX10_choose_106 (lv_at hl 4 rfl) ?_
      refine lv_iconst (v := 1) hx hb dX10_choose_108 (by decide) ?_
      refine lv_icmp_ne (tgt := 122) hx hb dX10_choose_109 (by decide) (fun c_5 => ?_) (fun c_5 => ?_)
      · have hF := it_neg c_5 hF
        refine lv_aload_n hx hb dX10_choose_122 rfl (lv_at hl 0 rfl) ?_
        refine va_get (D := D) (ci := 9) (v := .ref (g_t_chooser 0)) (C := RX10) (T := TX10) (N := 14) hx hb hts iw_X10_choose_X10 hown hK hP 0 rfl rfl 11 (by decide) (hts _ fl_X10_choose_76) (fun _ h9 => h9) rfl dX10_choose_123 ?_
        refine va_get (D := D) (ci := 1) (v := .ref (g_t_chooser 11)) (C := RX1) (T := TX1) (N := 13) hx hb hts iw_X10_choose_X1 hown hK hP 3 rfl rfl 10 (by decide) (hts _ fl_X10_choose_348) (fun _ h9 => h9) rfl dX10_choose_126 ?_
        refine lv_iload hx hb dX10_choose_129 (lv_at hl 4 rfl) ?_
        refine lv_bipush (v := 10) hx hb dX10_choose_131 (by decide) ?_
        refine lv_isub hx hb dX10_choose_133 ?_
        obtain ⟨hg_6, hF⟩ := gd_some hF
        refine xl_i (f := r_1.2.2.2.2.2.2.2.2.2.2.2.2) hx hb hK hP 8 0 rfl rfl rfl (in_v hg_6) dX10_choose_134 ?_
        obtain rfl := Option.some.inj hF
        exact HR 135 H locs ls dX10_choose_135 hP hD hS
      · have hF := it_pos c_5 hF
        refine lv_aload_n hx hb dX10_choose_112 rfl (lv_at hl 0 rfl) ?_
        refine va_get (D := D) (ci := 9) (v := .ref (g_t_chooser 0)) (C := RX10) (T := TX10) (N := 14) hx hb hts iw_X10_choose_X10 hown hK hP 0 rfl rfl 11 (by decide) (hts _ fl_X10_choose_76) (fun _ h9 => h9) rfl dX10_choose_113 ?_
        refine va_get (D := D) (ci := 1) (v := .int r_1.2.2.2.2.2.2.1) (C := RX1) (T := TX1) (N := 13) hx hb hts iw_X10_choose_X1 hown hK hP 3 rfl rfl 11 (by decide) (hts _ fl_X10_choose_345) (fun _ h9 => h9) rfl dX10_choose_116 ?_
        refine lv_goto (tgt := 135) hx hb dX10_choose_119 (by decide) ?_
        obtain rfl := Option.some.inj hF
        exact HR 135 H locs ls dX10_choose_135 hP hD hS
    · have hF := it_pos c_4 hF
      refine lv_iconst (v := (-1)) hx hb dX10_choose_104 (by decide) ?_
      obtain rfl := Option.some.inj hF
      exact HR 105 H locs ls dX10_choose_105 hP hD hS
  · have hF := it_pos c_3 hF
    refine lv_aload_n hx hb dX10_choose_86 rfl (lv_at hl 0 rfl) ?_
    refine va_get (D := D) (ci := 9) (v := .ref (g_t_chooser 0)) (C := RX10) (T := TX10) (N := 14) hx hb hts iw_X10_choose_X10 hown hK hP 0 rfl rfl 11 (by decide) (hts _ fl_X10_choose_76) (fun _ h9 => h9) rfl dX10_choose_87 ?_
    refine va_get (D := D) (ci := 1) (v := .int r_1.2.2.2.2.2.2.2.1) (C := RX1) (T := TX1) (N := 13) hx hb hts iw_X10_choose_X1 hown hK hP 3 rfl rfl 12 (by decide) (hts _ fl_X10_choose_342) (fun _ h9 => h9) rfl dX10_choose_90 ?_
    obtain rfl := Option.some.inj hF
    exact HR 93 H locs ls dX10_choose_93 hP hD hS
def F_X10_choose (t_radar_settings : Nat → Int32) (t_chooser_size : Int32) (t_chooser_low : Int32) (t_chooser_width : Int32) (t_chooser_limit : Int32) (t_chooser_needed : Int32) (t_chooser_parts : Int32) (t_chooser_leastSum : Int32) (t_chooser_fitCount : Int32) (t_chooser_open : Nat → Int64) (t_chooser_enough : Nat → Int64) (t_chooser_all : Nat → Int64) (t_chooser_chosen : Nat → Int32) (t_chooser_best : Nat → Int32) (x1 : Int32) (x2 : Int32) (x3 : Int32) (x4 : Int32) : Option (Int32 × Int32 × Int32 × Int32 × Int32 × Int32 × Int32 × Int32 × Int32 × (Nat → Int64) × (Nat → Int64) × (Nat → Int64) × (Nat → Int32) × (Nat → Int32)) :=
  (F_X10_isWithin x1 (2 : Int32) (4 : Int32)).bind fun r_1 => (if r_1 = (0 : Int32) then (some ((-1 : Int32), t_chooser_size, t_chooser_low, t_chooser_width, t_chooser_limit, t_chooser_needed, t_chooser_parts, t_chooser_leastSum, t_chooser_fitCount, t_chooser_open, t_chooser_enough, t_chooser_all, t_chooser_chosen, t_chooser_best)) else ((F_X10_isGap x2).bind fun r_4 => (if r_4 = (0 : Int32) then (some ((-1 : Int32), t_chooser_size, t_chooser_low, t_chooser_width, t_chooser_limit, t_chooser_needed, t_chooser_parts, t_chooser_leastSum, t_chooser_fitCount, t_chooser_open, t_chooser_enough, t_chooser_all, t_chooser_chosen, t_chooser_best)) else ((F_X10_isGap x3).bind fun r_7 => (if r_7 = (0 : Int32) then (some ((-1 : Int32), t_chooser_size, t_chooser_low, t_chooser_width, t_chooser_limit, t_chooser_needed, t_chooser_parts, t_chooser_leastSum, t_chooser_fitCount, t_chooser_open, t_chooser_enough, t_chooser_all, t_chooser_chosen, t_chooser_best)) else ((F_X10_isWithin (x3 - x2) (0 : Int32) (20 : Int32)).bind fun r_10 => (if r_10 = (0 : Int32) then (some ((-1 : Int32), t_chooser_size, t_chooser_low, t_chooser_width, t_chooser_limit, t_chooser_needed, t_chooser_parts, t_chooser_leastSum, t_chooser_fitCount, t_chooser_open, t_chooser_enough, t_chooser_all, t_chooser_chosen, t_chooser_best)) else ((F_X10_isWithin x4 (0 : Int32) (1 : Int32)).bind fun r_13 => (if r_13 = (0 : Int32) then ((F_X10_isWithin x4 (10 : Int32) (((10 : Int32) + x1) - (1 : Int32))).bind fun r_16 => (if r_16 = (0 : Int32) then (some ((-1 : Int32), t_chooser_size, t_chooser_low, t_chooser_width, t_chooser_limit, t_chooser_needed, t_chooser_parts, t_chooser_leastSum, t_chooser_fitCount, t_chooser_open, t_chooser_enough, t_chooser_all, t_chooser_chosen, t_chooser_best)) else (J_X10_choose_67 t_radar_settings t_chooser_size t_chooser_low t_chooser_width t_chooser_limit t_chooser_needed t_chooser_parts t_chooser_leastSum t_chooser_fitCount t_chooser_open t_chooser_enough t_chooser_all t_chooser_chosen t_chooser_best x1 x2 x3 x4))) else (J_X10_choose_67 t_radar_settings t_chooser_size t_chooser_low t_chooser_width t_chooser_limit t_chooser_needed t_chooser_parts t_chooser_leastSum t_chooser_fitCount t_chooser_open t_chooser_enough t_chooser_all t_chooser_chosen t_chooser_best x1 x2 x3 x4))))))))))
set_option maxHeartbeats 4000000 in
set_option maxRecDepth 100000 in
theorem c_X10_choose (l : Launch) (D : va_G) (K : Nat → ClassId) (g_t : Nat → Nat) (g_t_radar : Nat → Nat) (g_t_draft : Nat → Nat) (g_t_text : Nat → Nat) (g_t_reader : Nat → Nat) (g_t_history : Nat → Nat) (g_t_echoes : Nat → Nat) (g_t_tracks : Nat → Nat) (g_t_dwelling : Nat → Nat) (g_t_chooser : Nat → Nat) (g_t_adviser : Nat → Nat) (t_radar_gapCount : Int32) (t_radar_targetCount : Int32) (t_radar_lookCount : Int32) (t_radar_time : Int32) (t_radar_gone : Int32) (t_radar_settings : Nat → Int32) (t_chooser_size : Int32) (t_chooser_low : Int32) (t_chooser_width : Int32) (t_chooser_limit : Int32) (t_chooser_needed : Int32) (t_chooser_parts : Int32) (t_chooser_leastSum : Int32) (t_chooser_fitCount : Int32) (t_chooser_open : Nat → Int64) (t_chooser_enough : Nat → Int64) (t_chooser_all : Nat → Int64) (t_chooser_chosen : Nat → Int32) (t_chooser_best : Nat → Int32) (x1 : Int32) (x2 : Int32) (x3 : Int32) (x4 : Int32) (res : Int32 × Int32 × Int32 × Int32 × Int32 × Int32 × Int32 × Int32 × Int32 × (Nat → Int64) × (Nat → Int64) × (Nat → Int64) × (Nat → Int32) × (Nat → Int32)) (hF : F_X10_choose t_radar_settings t_chooser_size t_chooser_low t_chooser_width t_chooser_limit t_chooser_needed t_chooser_parts t_chooser_leastSum t_chooser_fitCount t_chooser_open t_chooser_enough t_chooser_all t_chooser_chosen t_chooser_best x1 x2 x3 x4 = some res) :
    Mi_ l yX10_choose wsX10_choose rmX10_choose D K [.ref (g_t 0), .int x1, .int x2, .int x3, .int x4] (w_X10_choose K g_t g_t_radar g_t_draft g_t_text g_t_reader g_t_history g_t_echoes g_t_tracks g_t_dwelling g_t_chooser g_t_adviser t_radar_gapCount t_radar_targetCount t_radar_lookCount t_radar_time t_radar_gone t_radar_settings t_chooser_size t_chooser_low t_chooser_width t_chooser_limit t_chooser_needed t_chooser_parts t_chooser_leastSum t_chooser_fitCount t_chooser_open t_chooser_enough t_chooser_all t_chooser_chosen t_chooser_best) (w_X10_choose K g_t g_t_radar g_t_draft g_t_text g_t_reader g_t_history g_t_echoes g_t_tracks g_t_dwelling g_t_chooser g_t_adviser t_radar_gapCount t_radar_targetCount t_radar_lookCount t_radar_time t_radar_gone t_radar_settings res.2.1 res.2.2.1 res.2.2.2.1 res.2.2.2.2.1 res.2.2.2.2.2.1 res.2.2.2.2.2.2.1 res.2.2.2.2.2.2.2.1 res.2.2.2.2.2.2.2.2.1 res.2.2.2.2.2.2.2.2.2.1 res.2.2.2.2.2.2.2.2.2.2.1 res.2.2.2.2.2.2.2.2.2.2.2.1 res.2.2.2.2.2.2.2.2.2.2.2.2.1 res.2.2.2.2.2.2.2.2.2.2.2.2.2) (res.1) := by
  refine en_i (cc := cX10_choose) (maxL := 5) (own := RX10) (by decide) rfl rfl (Nat.le_of_ble_eq_true rfl) ?_
  intro p e s m args below meth c A Q H locs ls C0 hP hD hS hl HR
  obtain ⟨⟨hx, hb, hml, hown, hts⟩, hK, -⟩ := id C0
  have hl : lv_has ls 5 [(0, .ref (g_t 0)), (1, .int x1), (2, .int x2), (3, .int x3), (4, .int x4)] := hl
  unfold F_X10_choose at hF
  refine lv_iload_n hx hb dX10_choose_0 rfl (lv_at hl 1 rfl) ?_
  refine lv_iconst (v := 2) hx hb dX10_choose_1 (by decide) ?_
  refine lv_iconst (v := 4) hx hb dX10_choose_2 (by decide) ?_
  obtain ⟨r_1, hc_2, hF⟩ := bn_some hF
  refine xc_i (wn := (w_X10_choose K g_t g_t_radar g_t_draft g_t_text g_t_reader g_t_history g_t_echoes g_t_tracks g_t_dwelling g_t_chooser g_t_adviser t_radar_gapCount t_radar_targetCount t_radar_lookCount t_radar_time t_radar_gone t_radar_settings t_chooser_size t_chooser_low t_chooser_width t_chooser_limit t_chooser_needed t_chooser_parts t_chooser_leastSum t_chooser_fitCount t_chooser_open t_chooser_enough t_chooser_all t_chooser_chosen t_chooser_best)) hP hD hS C0.2.2.1 [] [0, 1, 2, 3, 4, 5, 6, 7, 8] [0, 1, 2, 3, 4, 5, 6, 7, 8] rfl rfl (by decide) (by decide) rfl (by decide) (va_runS (As := [.int x1, .int (2 : Int32), .int (4 : Int32)]) (rest := []) C0.1 (c_X10_isWithin l D K x1 (2 : Int32) (4 : Int32) r_1 hc_2 H.size) (va_cwS 3 hts gX10_choose_X10_isWithin rfl rfl rfl (by decide +kernel) ⟨Nat.le_of_ble_eq_true rfl, Nat.le_of_ble_eq_true rfl⟩) (xp_S C0.2 hP hD hS [] rfl (by decide)) rfl rfl hl.1 rfl (lv_room (Nat.le_of_ble_eq_true rfl)) dX10_choose_3 ⟨Nat.le_of_ble_eq_true rfl, Nat.le_of_ble_eq_true rfl⟩) (fun H locs hP hD hS => ?_)
  refine lv_if_eq (tgt := 23) hx hb dX10_choose_6 (by decide) (fun c_3 => ?_) (fun c_3 => ?_)
  · have hF := it_pos c_3 hF
    refine lv_iconst (v := (-1)) hx hb dX10_choose_23 (by decide) ?_
    obtain rfl := Option.some.inj hF
    exact HR 24 H locs ls dX10_choose_24 hP hD hS
  · have hF := it_neg c_3 hF
    refine lv_iload_n hx hb dX10_choose_9 rfl (lv_at hl 2 rfl) ?_
    obtain ⟨r_4, hc_5, hF⟩ := bn_some hF
    refine xc_i (wn := (w_X10_choose K g_t g_t_radar g_t_draft g_t_text g_t_reader g_t_history g_t_echoes g_t_tracks g_t_dwelling g_t_chooser g_t_adviser t_radar_gapCount t_radar_targetCount t_radar_lookCount t_radar_time t_radar_gone t_radar_settings t_chooser_size t_chooser_low t_chooser_width t_chooser_limit t_chooser_needed t_chooser_parts t_chooser_leastSum t_chooser_fitCount t_chooser_open t_chooser_enough t_chooser_all t_chooser_chosen t_chooser_best)) hP hD hS C0.2.2.1 [] [0, 1, 2, 3, 4, 5, 6, 7, 8] [0, 1, 2, 3, 4, 5, 6, 7, 8] rfl rfl (by decide) (by decide) rfl (by decide) (va_runS (As := [.int x2]) (rest := []) C0.1 (c_X10_isGap l D K x2 r_4 hc_5 H.size) (va_cwS 1 hts gX10_choose_X10_isGap rfl rfl rfl (by decide +kernel) ⟨Nat.le_of_ble_eq_true rfl, Nat.le_of_ble_eq_true rfl⟩) (xp_S C0.2 hP hD hS [] rfl (by decide)) rfl rfl hl.1 rfl (lv_room (Nat.le_of_ble_eq_true rfl)) dX10_choose_10 ⟨Nat.le_of_ble_eq_true rfl, Nat.le_of_ble_eq_true rfl⟩) (fun H locs hP hD hS => ?_)
    refine lv_if_eq (tgt := 23) hx hb dX10_choose_13 (by decide) (fun c_6 => ?_) (fun c_6 => ?_)
    · have hF := it_pos c_6 hF
      refine lv_iconst (v := (-1)) hx hb dX10_choose_23 (by decide) ?_
      obtain rfl := Option.some.inj hF
      exact HR 24 H locs ls dX10_choose_24 hP hD hS
    · have hF := it_neg c_6 hF
      refine lv_iload_n hx hb dX10_choose_16 rfl (lv_at hl 3 rfl) ?_
      obtain ⟨r_7, hc_8, hF⟩ := bn_some hF
      refine xc_i (wn := (w_X10_choose K g_t g_t_radar g_t_draft g_t_text g_t_reader g_t_history g_t_echoes g_t_tracks g_t_dwelling g_t_chooser g_t_adviser t_radar_gapCount t_radar_targetCount t_radar_lookCount t_radar_time t_radar_gone t_radar_settings t_chooser_size t_chooser_low t_chooser_width t_chooser_limit t_chooser_needed t_chooser_parts t_chooser_leastSum t_chooser_fitCount t_chooser_open t_chooser_enough t_chooser_all t_chooser_chosen t_chooser_best)) hP hD hS C0.2.2.1 [] [0, 1, 2, 3, 4, 5, 6, 7, 8] [0, 1, 2, 3, 4, 5, 6, 7, 8] rfl rfl (by decide) (by decide) rfl (by decide) (va_runS (As := [.int x3]) (rest := []) C0.1 (c_X10_isGap l D K x3 r_7 hc_8 H.size) (va_cwS 1 hts gX10_choose_X10_isGap rfl rfl rfl (by decide +kernel) ⟨Nat.le_of_ble_eq_true rfl, Nat.le_of_ble_eq_true rfl⟩) (xp_S C0.2 hP hD hS [] rfl (by decide)) rfl rfl hl.1 rfl (lv_room (Nat.le_of_ble_eq_true rfl)) dX10_choose_17 ⟨Nat.le_of_ble_eq_true rfl, Nat.le_of_ble_eq_true rfl⟩) (fun H locs hP hD hS => ?_)
      refine lv_if_ne (tgt := 25) hx hb dX10_choose_20 (by decide) (fun c_9 => ?_) (fun c_9 => ?_)
      · have hF := it_neg c_9 hF
        refine lv_iload_n hx hb dX10_choose_25 rfl (lv_at hl 3 rfl) ?_
        refine lv_iload_n hx hb dX10_choose_26 rfl (lv_at hl 2 rfl) ?_
        refine lv_isub hx hb dX10_choose_27 ?_
        refine lv_iconst (v := 0) hx hb dX10_choose_28 (by decide) ?_
        refine lv_bipush (v := 20) hx hb dX10_choose_29 (by decide) ?_
        obtain ⟨r_10, hc_11, hF⟩ := bn_some hF
        refine xc_i (wn := (w_X10_choose K g_t g_t_radar g_t_draft g_t_text g_t_reader g_t_history g_t_echoes g_t_tracks g_t_dwelling g_t_chooser g_t_adviser t_radar_gapCount t_radar_targetCount t_radar_lookCount t_radar_time t_radar_gone t_radar_settings t_chooser_size t_chooser_low t_chooser_width t_chooser_limit t_chooser_needed t_chooser_parts t_chooser_leastSum t_chooser_fitCount t_chooser_open t_chooser_enough t_chooser_all t_chooser_chosen t_chooser_best)) hP hD hS C0.2.2.1 [] [0, 1, 2, 3, 4, 5, 6, 7, 8] [0, 1, 2, 3, 4, 5, 6, 7, 8] rfl rfl (by decide) (by decide) rfl (by decide) (va_runS (As := [.int (x3 - x2), .int (0 : Int32), .int (20 : Int32)]) (rest := []) C0.1 (c_X10_isWithin l D K (x3 - x2) (0 : Int32) (20 : Int32) r_10 hc_11 H.size) (va_cwS 3 hts gX10_choose_X10_isWithin rfl rfl rfl (by decide +kernel) ⟨Nat.le_of_ble_eq_true rfl, Nat.le_of_ble_eq_true rfl⟩) (xp_S C0.2 hP hD hS [] rfl (by decide)) rfl rfl hl.1 rfl (lv_room (Nat.le_of_ble_eq_true rfl)) dX10_choose_31 ⟨Nat.le_of_ble_eq_true rfl, Nat.le_of_ble_eq_true rfl⟩) (fun H locs hP hD hS => ?_)
        refine lv_if_ne (tgt := 39) hx hb dX10_choose_34 (by decide) (fun c_12 => ?_) (fun c_12 => ?_)
        · have hF := it_neg c_12 hF
          refine lv_iload hx hb dX10_choose_39 (lv_at hl 4 rfl) ?_
          refine lv_iconst (v := 0) hx hb dX10_choose_41 (by decide) ?_
          refine lv_iconst (v := 1) hx hb dX10_choose_42 (by decide) ?_
          obtain ⟨r_13, hc_14, hF⟩ := bn_some hF
          refine xc_i (wn := (w_X10_choose K g_t g_t_radar g_t_draft g_t_text g_t_reader g_t_history g_t_echoes g_t_tracks g_t_dwelling g_t_chooser g_t_adviser t_radar_gapCount t_radar_targetCount t_radar_lookCount t_radar_time t_radar_gone t_radar_settings t_chooser_size t_chooser_low t_chooser_width t_chooser_limit t_chooser_needed t_chooser_parts t_chooser_leastSum t_chooser_fitCount t_chooser_open t_chooser_enough t_chooser_all t_chooser_chosen t_chooser_best)) hP hD hS C0.2.2.1 [] [0, 1, 2, 3, 4, 5, 6, 7, 8] [0, 1, 2, 3, 4, 5, 6, 7, 8] rfl rfl (by decide) (by decide) rfl (by decide) (va_runS (As := [.int x4, .int (0 : Int32), .int (1 : Int32)]) (rest := []) C0.1 (c_X10_isWithin l D K x4 (0 : Int32) (1 : Int32) r_13 hc_14 H.size) (va_cwS 3 hts gX10_choose_X10_isWithin rfl rfl rfl (by decide +kernel) ⟨Nat.le_of_ble_eq_true rfl, Nat.le_of_ble_eq_true rfl⟩) (xp_S C0.2 hP hD hS [] rfl (by decide)) rfl rfl hl.1 rfl (lv_room (Nat.le_of_ble_eq_true rfl)) dX10_choose_43 ⟨Nat.le_of_ble_eq_true rfl, Nat.le_of_ble_eq_true rfl⟩) (fun H locs hP hD hS => ?_)
          refine lv_if_ne (tgt := 67) hx hb dX10_choose_46 (by decide) (fun c_15 => ?_) (fun c_15 => ?_)
          · have hF := it_neg c_15 hF
            exact w_X10_choose_67 C0 HR t_chooser_size t_chooser_low t_chooser_width t_chooser_limit t_chooser_needed t_chooser_parts t_chooser_leastSum t_chooser_fitCount t_chooser_open t_chooser_enough t_chooser_all t_chooser_chosen t_chooser_best x1 x2 x3 x4 H locs ls hP hD hS (lv_sub hl [0, 1, 2, 3, 4] rfl) hF
          · have hF := it_pos c_15 hF
            refine lv_iload hx hb dX10_choose_49 (lv_at hl 4 rfl) ?_
            refine lv_bipush (v := 10) hx hb dX10_choose_51 (by decide) ?_
            refine lv_bipush (v := 10) hx hb dX10_choose_53 (by decide) ?_
            refine lv_iload_n hx hb dX10_choose_55 rfl (lv_at hl 1 rfl) ?_
            refine lv_iadd hx hb dX10_choose_56 ?_
            refine lv_iconst (v := 1) hx hb dX10_choose_57 (by decide) ?_
            refine lv_isub hx hb dX10_choose_58 ?_
            obtain ⟨r_16, hc_17, hF⟩ := bn_some hF
            refine xc_i (wn := (w_X10_choose K g_t g_t_radar g_t_draft g_t_text g_t_reader g_t_history g_t_echoes g_t_tracks g_t_dwelling g_t_chooser g_t_adviser t_radar_gapCount t_radar_targetCount t_radar_lookCount t_radar_time t_radar_gone t_radar_settings t_chooser_size t_chooser_low t_chooser_width t_chooser_limit t_chooser_needed t_chooser_parts t_chooser_leastSum t_chooser_fitCount t_chooser_open t_chooser_enough t_chooser_all t_chooser_chosen t_chooser_best)) hP hD hS C0.2.2.1 [] [0, 1, 2, 3, 4, 5, 6, 7, 8] [0, 1, 2, 3, 4, 5, 6, 7, 8] rfl rfl (by decide) (by decide) rfl (by decide) (va_runS (As := [.int x4, .int (10 : Int32), .int (((10 : Int32) + x1) - (1 : Int32))]) (rest := []) C0.1 (c_X10_isWithin l D K x4 (10 : Int32) (((10 : Int32) + x1) - (1 : Int32)) r_16 hc_17 H.size) (va_cwS 3 hts gX10_choose_X10_isWithin rfl rfl rfl (by decide +kernel) ⟨Nat.le_of_ble_eq_true rfl, Nat.le_of_ble_eq_true rfl⟩) (xp_S C0.2 hP hD hS [] rfl (by decide)) rfl rfl hl.1 rfl (lv_room (Nat.le_of_ble_eq_true rfl)) dX10_choose_59 ⟨Nat.le_of_ble_eq_true rfl, Nat.le_of_ble_eq_true rfl⟩) (fun H locs hP hD hS => ?_)
            refine lv_if_ne (tgt := 67) hx hb dX10_choose_62 (by decide) (fun c_18 => ?_) (fun c_18 => ?_)
            · have hF := it_neg c_18 hF
              exact w_X10_choose_67 C0 HR t_chooser_size t_chooser_low t_chooser_width t_chooser_limit t_chooser_needed t_chooser_parts t_chooser_leastSum t_chooser_fitCount t_chooser_open t_chooser_enough t_chooser_all t_chooser_chosen t_chooser_best x1 x2 x3 x4 H locs ls hP hD hS (lv_sub hl [0, 1, 2, 3, 4] rfl) hF
            · have hF := it_pos c_18 hF
              refine lv_iconst (v := (-1)) hx hb dX10_choose_65 (by decide) ?_
              obtain rfl := Option.some.inj hF
              exact HR 66 H locs ls dX10_choose_66 hP hD hS
        · have hF := it_pos c_12 hF
          refine lv_iconst (v := (-1)) hx hb dX10_choose_37 (by decide) ?_
          obtain rfl := Option.some.inj hF
          exact HR 38 H locs ls dX10_choose_38 hP hD hS
      · have hF := it_pos c_9 hF
        refine lv_iconst (v := (-1)) hx hb dX10_choose_23 (by decide) ?_
        obtain rfl := Option.some.inj hF
        exact HR 24 H locs ls dX10_choose_24 hP hD hS

/-! StaggerRadar.Speeds.countDark(LStaggerRadar$Radar;)I -/
abbrev rmX7_countDark : Room := { frames := 4, cells := 0, slots := 0, locals := 89 }
theorem fl_X7_countDark_23 : Cond.fieldLink RX7 23 "StaggerRadar$Radar" "settings" "[I" ∈ wsX7_countDark := by decide +kernel
theorem iw_X7_countDark_X5 : ∀ w ∈ u_ws RX5 TX5 13, w ∈ wsX7_countDark := by decide +kernel
abbrev w_X7_countDark (K : Nat → ClassId) (g_p0 : Nat → Nat) (p0_gapCount : Int32) (p0_targetCount : Int32) (p0_lookCount : Int32) (p0_time : Int32) (p0_gone : Int32) (p0_gaps : Nat → Int32) (p0_settings : Nat → Int32) : va_W := [((g_p0 0), .inr (5, [.ref (g_p0 1), .ref (g_p0 2), .ref (g_p0 3), .ref (g_p0 4), .ref (g_p0 5), .ref (g_p0 6), .ref (g_p0 7), .ref (g_p0 8), .int p0_gapCount, .int p0_targetCount, .int p0_lookCount, .int p0_time, .int p0_gone])), ((g_p0 1), .inl (K 0, 5, .inl p0_gaps)), ((g_p0 2), .inl (K 0, 7, .inl p0_settings))]
def L_X7_countDark_4 (p0_gapCount : Int32) (p0_gaps : Nat → Int32) (p0_settings : Nat → Int32) : Nat → Int32 → Int32 → Option (Int32)
  | 0, _, _ => none
  | n_ + 1, x1, x2 =>
    if (p0_settings 5) < x2 then (some x1) else ((F_X7_countOpen p0_gapCount p0_gaps p0_settings x2).bind fun r_2 => (if (p0_settings 4) ≤ r_2 then (L_X7_countDark_4 p0_gapCount p0_gaps p0_settings n_ x1 (x2 + (1 : Int32))) else (L_X7_countDark_4 p0_gapCount p0_gaps p0_settings n_ (x1 + (1 : Int32)) (x2 + (1 : Int32)))))
set_option maxHeartbeats 4000000 in
set_option maxRecDepth 100000 in
theorem w_X7_countDark_4 {p : Program} {l : Launch} {e : Env} {s : State} {m : MethodId} {args : Array Value} {below : List Frame} {meth : Method} {c : Code} {D : va_G} {K : Nat → ClassId} {A : Nat → Prop} {Q : State → Prop} (C0 : cx_ p s m args c cX7_countDark 3 RX7 wsX7_countDark D K A) {g_p0 : Nat → Nat} {p0_gapCount : Int32} {p0_targetCount : Int32} {p0_lookCount : Int32} {p0_time : Int32} {p0_gone : Int32} {p0_gaps : Nat → Int32} {p0_settings : Nat → Int32} {res : Int32} (HR : ∀ (pc : Nat) (H : Heap) (locs : List Loc) (ls : Array Slot), decode cX7_countDark pc = .ok (.ireturn, 1) → va_P D vwCl (w_X7_countDark K g_p0 p0_gapCount p0_targetCount p0_lookCount p0_time p0_gone p0_gaps p0_settings) H → va_D A (w_X7_countDark K g_p0 p0_gapCount p0_targetCount p0_lookCount p0_time p0_gone p0_gaps p0_settings) → va_S A s.heap H locs → W p l e rmX7_countDark s m args below meth c H locs 0 0 Q (F0 m pc ls [.int res]))  :
    ∀ (n_ : Nat) (x1 : Int32) (x2 : Int32) (H : Heap) (locs : List Loc) (ls : Array Slot), va_P D vwCl (w_X7_countDark K g_p0 p0_gapCount p0_targetCount p0_lookCount p0_time p0_gone p0_gaps p0_settings) H → va_D A (w_X7_countDark K g_p0 p0_gapCount p0_targetCount p0_lookCount p0_time p0_gone p0_gaps p0_settings) → va_S A s.heap H locs → lv_has ls 3 [(0, .ref (g_p0 0)), (1, .int x1), (2, .int x2)] → L_X7_countDark_4 p0_gapCount p0_gaps p0_settings n_ x1 x2 = some res → W p l e rmX7_countDark s m args below meth c H locs 0 0 Q (F0 m 4 ls []) := by
  obtain ⟨⟨hx, hb, hml, hown, hts⟩, hK, -⟩ := id C0
  intro n_
  induction n_ with
  | zero =>
    intro x1 x2 H locs ls hP hD hS hl hF
    exact no_s (show (none : Option (Int32)) = some res from hF)
  | succ n_ ih =>
    intro x1 x2 H locs ls hP hD hS hl hF
    rw [L_X7_countDark_4] at hF
    refine lv_iload_n hx hb dX7_countDark_4 rfl (lv_at hl 2 rfl) ?_
    refine lv_aload_n hx hb dX7_countDark_5 rfl (lv_at hl 0 rfl) ?_
    refine va_get (D := D) (ci := 5) (v := .ref (g_p0 2)) (C := RX5) (T := TX5) (N := 13) hx hb hts iw_X7_countDark_X5 hown hK hP 0 rfl rfl 1 (by decide) (hts _ fl_X7_countDark_23) (fun _ h9 => h9) rfl dX7_countDark_6 ?_
    refine lv_iconst (v := 5) hx hb dX7_countDark_9 (by decide) ?_
    refine xl_i (f := p0_settings) hx hb hK hP 2 0 rfl rfl (k := 5) (by decide) (in_v (by decide)) dX7_countDark_10 ?_
    refine lv_icmp_gt (tgt := 37) hx hb dX7_countDark_11 (by decide) (fun c_1 => ?_) (fun c_1 => ?_)
    · have hF := it_pos c_1 hF
      refine lv_iload_n hx hb dX7_countDark_37 rfl (lv_at hl 1 rfl) ?_
      obtain rfl := Option.some.inj hF
      exact HR 38 H locs ls dX7_countDark_38 hP hD hS
    · have hF := it_neg c_1 hF
      refine lv_aload_n hx hb dX7_countDark_14 rfl (lv_at hl 0 rfl) ?_
      refine lv_iload_n hx hb dX7_countDark_15 rfl (lv_at hl 2 rfl) ?_
      obtain ⟨r_2, hc_3, hF⟩ := bn_some hF
      refine xc_i (wn := (w_X7_countDark K g_p0 p0_gapCount p0_targetCount p0_lookCount p0_time p0_gone p0_gaps p0_settings)) hP hD hS C0.2.2.1 [0, 1, 2] [] [0, 1, 2] rfl rfl (by decide) (by decide) rfl (by decide) (va_runS (As := [.ref (g_p0 0), .int x2]) (rest := []) C0.1 (c_X7_countOpen l D K g_p0 p0_gapCount p0_targetCount p0_lookCount p0_time p0_gone p0_gaps p0_settings x2 r_2 hc_3 H.size) (va_cwS 2 hts gX7_countDark_X7_countOpen rfl rfl rfl (by decide +kernel) ⟨Nat.le_of_ble_eq_true rfl, Nat.le_of_ble_eq_true rfl⟩) (xp_S C0.2 hP hD hS [0, 1, 2] rfl (by decide)) rfl rfl hl.1 rfl (lv_room (Nat.le_of_ble_eq_true rfl)) dX7_countDark_16 ⟨Nat.le_of_ble_eq_true rfl, Nat.le_of_ble_eq_true rfl⟩) (fun H locs hP hD hS => ?_)
      refine lv_aload_n hx hb dX7_countDark_19 rfl (lv_at hl 0 rfl) ?_
      refine va_get (D := D) (ci := 5) (v := .ref (g_p0 2)) (C := RX5) (T := TX5) (N := 13) hx hb hts iw_X7_countDark_X5 hown hK hP 0 rfl rfl 1 (by decide) (hts _ fl_X7_countDark_23) (fun _ h9 => h9) rfl dX7_countDark_20 ?_
      refine lv_iconst (v := 4) hx hb dX7_countDark_23 (by decide) ?_
      refine xl_i (f := p0_settings) hx hb hK hP 2 0 rfl rfl (k := 4) (by decide) (in_v (by decide)) dX7_countDark_24 ?_
      refine lv_icmp_ge (tgt := 31) hx hb dX7_countDark_25 (by decide) (fun c_4 => ?_) (fun c_4 => ?_)
      · have hF := it_pos c_4 hF
        refine lv_iinc (v := (x2 + (1 : Int32))) (lv' := [(2, .int (x2 + (1 : Int32))), (0, .ref (g_p0 0)), (1, .int x1)]) hx hb dX7_countDark_31 hl (k := 2) rfl (congrArg (fun z => x2 + z) (by decide)) (by decide) rfl (fun ls hl => ?_)
        refine lv_goto (tgt := 4) hx hb dX7_countDark_34 (by decide) ?_
        exact ih x1 (x2 + (1 : Int32)) H locs ls hP hD hS (lv_sub hl [1, 2, 0] rfl) hF
      · have hF := it_neg c_4 hF
        refine lv_iinc (v := (x1 + (1 : Int32))) (lv' := [(1, .int (x1 + (1 : Int32))), (0, .ref (g_p0 0)), (2, .int x2)]) hx hb dX7_countDark_28 hl (k := 1) rfl (congrArg (fun z => x1 + z) (by decide)) (by decide) rfl (fun ls hl => ?_)
        refine lv_iinc (v := (x2 + (1 : Int32))) (lv' := [(2, .int (x2 + (1 : Int32))), (1, .int (x1 + (1 : Int32))), (0, .ref (g_p0 0))]) hx hb dX7_countDark_31 hl (k := 2) rfl (congrArg (fun z => x2 + z) (by decide)) (by decide) rfl (fun ls hl => ?_)
        refine lv_goto (tgt := 4) hx hb dX7_countDark_34 (by decide) ?_
        exact ih (x1 + (1 : Int32)) (x2 + (1 : Int32)) H locs ls hP hD hS (lv_sub hl [2, 1, 0] rfl) hF
def F_X7_countDark (p0_gapCount : Int32) (p0_gaps : Nat → Int32) (p0_settings : Nat → Int32) : Option (Int32) :=
  L_X7_countDark_4 p0_gapCount p0_gaps p0_settings fu_ (0 : Int32) (1 : Int32)
set_option maxHeartbeats 4000000 in
set_option maxRecDepth 100000 in
theorem c_X7_countDark (l : Launch) (D : va_G) (K : Nat → ClassId) (g_p0 : Nat → Nat) (p0_gapCount : Int32) (p0_targetCount : Int32) (p0_lookCount : Int32) (p0_time : Int32) (p0_gone : Int32) (p0_gaps : Nat → Int32) (p0_settings : Nat → Int32) (res : Int32) (hF : F_X7_countDark p0_gapCount p0_gaps p0_settings = some res) :
    Mi_ l yX7_countDark wsX7_countDark rmX7_countDark D K [.ref (g_p0 0)] (w_X7_countDark K g_p0 p0_gapCount p0_targetCount p0_lookCount p0_time p0_gone p0_gaps p0_settings) (w_X7_countDark K g_p0 p0_gapCount p0_targetCount p0_lookCount p0_time p0_gone p0_gaps p0_settings) (res) := by
  refine en_i (cc := cX7_countDark) (maxL := 3) (own := RX7) (by decide) rfl rfl (Nat.le_of_ble_eq_true rfl) ?_
  intro p e s m args below meth c A Q H locs ls C0 hP hD hS hl HR
  obtain ⟨⟨hx, hb, hml, hown, hts⟩, hK, -⟩ := id C0
  have hl : lv_has ls 3 [(0, .ref (g_p0 0))] := hl
  unfold F_X7_countDark at hF
  refine lv_iconst (v := 0) hx hb dX7_countDark_0 (by decide) ?_
  refine lv_istore_n (lv' := [(1, .int (0 : Int32)), (0, .ref (g_p0 0))]) hx hb dX7_countDark_1 rfl hl (by decide) rfl (fun ls hl => ?_)
  refine lv_iconst (v := 1) hx hb dX7_countDark_2 (by decide) ?_
  refine lv_istore_n (lv' := [(2, .int (1 : Int32)), (1, .int (0 : Int32)), (0, .ref (g_p0 0))]) hx hb dX7_countDark_3 rfl hl (by decide) rfl (fun ls hl => ?_)
  exact w_X7_countDark_4 C0 HR fu_ (0 : Int32) (1 : Int32) H locs ls hP hD hS (lv_sub hl [2, 1, 0] rfl) hF

/-! StaggerRadar.Echoes.takeEcho(LStaggerRadar$Radar;II)V -/
abbrev rmX3_takeEcho : Room := { frames := 1, cells := 0, slots := 0, locals := 21 }
theorem fl_X3_takeEcho_18 : Cond.fieldLink RX3 18 "StaggerRadar$Echoes" "hitBits" "[I" ∈ wsX3_takeEcho := by decide +kernel
theorem fl_X3_takeEcho_33 : Cond.fieldLink RX3 33 "StaggerRadar$Radar" "gaps" "[I" ∈ wsX3_takeEcho := by decide +kernel
theorem fl_X3_takeEcho_66 : Cond.fieldLink RX3 66 "StaggerRadar$Radar" "settings" "[I" ∈ wsX3_takeEcho := by decide +kernel
theorem iw_X3_takeEcho_X3 : ∀ w ∈ u_ws RX3 TX3 6, w ∈ wsX3_takeEcho := by decide +kernel
theorem iw_X3_takeEcho_X5 : ∀ w ∈ u_ws RX5 TX5 13, w ∈ wsX3_takeEcho := by decide +kernel
abbrev w_X3_takeEcho (K : Nat → ClassId) (g_t : Nat → Nat) (g_p1 : Nat → Nat) (t_shownCount : Int32) (t_hitBits : Nat → Int32) (p1_gapCount : Int32) (p1_targetCount : Int32) (p1_lookCount : Int32) (p1_time : Int32) (p1_gone : Int32) (p1_gaps : Nat → Int32) (p1_settings : Nat → Int32) : va_W := [((g_t 0), .inr (3, [.ref (g_t 1), .ref (g_t 2), .ref (g_t 3), .ref (g_t 4), .ref (g_t 5), .int t_shownCount])), ((g_t 3), .inl (K 0, 1000, .inl t_hitBits)), ((g_p1 0), .inr (5, [.ref (g_p1 1), .ref (g_p1 2), .ref (g_p1 3), .ref (g_p1 4), .ref (g_p1 5), .ref (g_p1 6), .ref (g_p1 7), .ref (g_p1 8), .int p1_gapCount, .int p1_targetCount, .int p1_lookCount, .int p1_time, .int p1_gone])), ((g_p1 1), .inl (K 0, 5, .inl p1_gaps)), ((g_p1 2), .inl (K 0, 7, .inl p1_settings))]
def L_X3_takeEcho_15 (p1_gaps : Nat → Int32) (p1_settings : Nat → Int32) : Nat → (Nat → Int32) → Int32 → Int32 → Int32 → Option ((Nat → Int32))
  | 0, _, _, _, _ => none
  | n_ + 1, t_hitBits, x2, x4, x5 =>
    if (p1_settings 3) ≤ x5 then (some t_hitBits) else (gd_ (in_b x5 1000) (gd_ (in_b x5 1000) (L_X3_takeEcho_15 p1_gaps p1_settings n_ (upd t_hitBits (x5).toNatClampNeg ((t_hitBits (x5).toNatClampNeg) &&& (((1 : Int32) <<< (x2 &&& 31)) ^^^ (-1 : Int32)))) x2 x4 (x5 + x4))))
set_option maxHeartbeats 4000000 in
set_option maxRecDepth 100000 in
theorem w_X3_takeEcho_15 {p : Program} {l : Launch} {e : Env} {s : State} {m : MethodId} {args : Array Value} {below : List Frame} {meth : Method} {c : Code} {D : va_G} {K : Nat → ClassId} {A : Nat → Prop} {Q : State → Prop} (C0 : cx_ p s m args c cX3_takeEcho 6 RX3 wsX3_takeEcho D K A) {g_t : Nat → Nat} {g_p1 : Nat → Nat} {t_shownCount : Int32} {p1_gapCount : Int32} {p1_targetCount : Int32} {p1_lookCount : Int32} {p1_time : Int32} {p1_gone : Int32} {p1_gaps : Nat → Int32} {p1_settings : Nat → Int32} {res : (Nat → Int32)} (HR : ∀ (pc : Nat) (H : Heap) (locs : List Loc) (ls : Array Slot), decode cX3_takeEcho pc = .ok (.return_, 1) → va_P D vwCl (w_X3_takeEcho K g_t g_p1 t_shownCount res p1_gapCount p1_targetCount p1_lookCount p1_time p1_gone p1_gaps p1_settings) H → va_D A (w_X3_takeEcho K g_t g_p1 t_shownCount res p1_gapCount p1_targetCount p1_lookCount p1_time p1_gone p1_gaps p1_settings) → va_S A s.heap H locs → W p l e rmX3_takeEcho s m args below meth c H locs 0 0 Q (F0 m pc ls []))  :
    ∀ (n_ : Nat) (t_hitBits : Nat → Int32) (x2 : Int32) (x4 : Int32) (x5 : Int32) (H : Heap) (locs : List Loc) (ls : Array Slot), va_P D vwCl (w_X3_takeEcho K g_t g_p1 t_shownCount t_hitBits p1_gapCount p1_targetCount p1_lookCount p1_time p1_gone p1_gaps p1_settings) H → va_D A (w_X3_takeEcho K g_t g_p1 t_shownCount t_hitBits p1_gapCount p1_targetCount p1_lookCount p1_time p1_gone p1_gaps p1_settings) → va_S A s.heap H locs → lv_has ls 6 [(0, .ref (g_t 0)), (1, .ref (g_p1 0)), (2, .int x2), (4, .int x4), (5, .int x5)] → L_X3_takeEcho_15 p1_gaps p1_settings n_ t_hitBits x2 x4 x5 = some res → W p l e rmX3_takeEcho s m args below meth c H locs 0 0 Q (F0 m 15 ls []) := by
  obtain ⟨⟨hx, hb, hml, hown, hts⟩, hK, -⟩ := id C0
  intro n_
  induction n_ with
  | zero =>
    intro t_hitBits x2 x4 x5 H locs ls hP hD hS hl hF
    exact no_s (show (none : Option ((Nat → Int32))) = some res from hF)
  | succ n_ ih =>
    intro t_hitBits x2 x4 x5 H locs ls hP hD hS hl hF
    rw [L_X3_takeEcho_15] at hF
    refine lv_iload hx hb dX3_takeEcho_15 (lv_at hl 4 rfl) ?_
    refine lv_aload_n hx hb dX3_takeEcho_17 rfl (lv_at hl 1 rfl) ?_
    refine va_get (D := D) (ci := 5) (v := .ref (g_p1 2)) (C := RX5) (T := TX5) (N := 13) hx hb hts iw_X3_takeEcho_X5 hown hK hP 2 rfl rfl 1 (by decide) (hts _ fl_X3_takeEcho_66) (fun _ h9 => h9) rfl dX3_takeEcho_18 ?_
    refine lv_iconst (v := 3) hx hb dX3_takeEcho_21 (by decide) ?_
    refine xl_i (f := p1_settings) hx hb hK hP 4 0 rfl rfl (k := 3) (by decide) (in_v (by decide)) dX3_takeEcho_22 ?_
    refine lv_icmp_ge (tgt := 51) hx hb dX3_takeEcho_23 (by decide) (fun c_1 => ?_) (fun c_1 => ?_)
    · have hF := it_pos c_1 hF
      obtain rfl := Option.some.inj hF
      exact HR 51 H locs ls dX3_takeEcho_51 hP hD hS
    · have hF := it_neg c_1 hF
      refine lv_aload_n hx hb dX3_takeEcho_26 rfl (lv_at hl 0 rfl) ?_
      refine va_get (D := D) (ci := 3) (v := .ref (g_t 3)) (C := RX3) (T := TX3) (N := 6) hx hb hts iw_X3_takeEcho_X3 hown hK hP 0 rfl rfl 2 (by decide) (hts _ fl_X3_takeEcho_18) (fun _ h9 => h9) rfl dX3_takeEcho_27 ?_
      refine lv_iload hx hb dX3_takeEcho_30 (lv_at hl 4 rfl) ?_
      refine lv_dup2_11 hx hb dX3_takeEcho_32 rfl rfl ?_
      obtain ⟨hg_2, hF⟩ := gd_some hF
      refine xl_i (f := t_hitBits) hx hb hK hP 1 0 rfl rfl rfl (in_v hg_2) dX3_takeEcho_33 ?_
      refine lv_iconst (v := 1) hx hb dX3_takeEcho_34 (by decide) ?_
      refine lv_iload_n hx hb dX3_takeEcho_35 rfl (lv_at hl 2 rfl) ?_
      refine lv_ishl hx hb dX3_takeEcho_36 ?_
      refine lv_iconst (v := (-1)) hx hb dX3_takeEcho_37 (by decide) ?_
      refine lv_ixor hx hb dX3_takeEcho_38 ?_
      refine lv_iand hx hb dX3_takeEcho_39 ?_
      obtain ⟨hg_3, hF⟩ := gd_some hF
      refine xs_i (f := t_hitBits) hx hb hK hP hD hS 1 0 rfl rfl rfl (in_v hg_3) dX3_takeEcho_40 (fun H locs hP hD hS => ?_)
      have hP : va_P D vwCl (w_X3_takeEcho K g_t g_p1 t_shownCount (upd t_hitBits (x5).toNatClampNeg ((t_hitBits (x5).toNatClampNeg) &&& (((1 : Int32) <<< (x2 &&& 31)) ^^^ (-1 : Int32)))) p1_gapCount p1_targetCount p1_lookCount p1_time p1_gone p1_gaps p1_settings) H := hP
      have hD : va_D A (w_X3_takeEcho K g_t g_p1 t_shownCount (upd t_hitBits (x5).toNatClampNeg ((t_hitBits (x5).toNatClampNeg) &&& (((1 : Int32) <<< (x2 &&& 31)) ^^^ (-1 : Int32)))) p1_gapCount p1_targetCount p1_lookCount p1_time p1_gone p1_gaps p1_settings) := hD
      refine lv_iload hx hb dX3_takeEcho_41 (lv_at hl 4 rfl) ?_
      refine lv_iload hx hb dX3_takeEcho_43 (lv_at hl 3 rfl) ?_
      refine lv_iadd hx hb dX3_takeEcho_45 ?_
      refine lv_istore (lv' := [(5, .int (x5 + x4)), (0, .ref (g_t 0)), (1, .ref (g_p1 0)), (2, .int x2), (4, .int x4)]) hx hb dX3_takeEcho_46 hl (by decide) rfl (fun ls hl => ?_)
      refine lv_goto (tgt := 15) hx hb dX3_takeEcho_48 (by decide) ?_
      exact ih (upd t_hitBits (x5).toNatClampNeg ((t_hitBits (x5).toNatClampNeg) &&& (((1 : Int32) <<< (x2 &&& 31)) ^^^ (-1 : Int32)))) x2 x4 (x5 + x4) H locs ls hP hD hS (lv_sub hl [1, 2, 3, 4, 0] rfl) hF
def F_X3_takeEcho (t_hitBits : Nat → Int32) (p1_gaps : Nat → Int32) (p1_settings : Nat → Int32) (x2 : Int32) (x3 : Int32) : Option ((Nat → Int32)) :=
  gd_ (in_b x2 5) (L_X3_takeEcho_15 p1_gaps p1_settings fu_ t_hitBits x2 (if (p1_gaps (x2).toNatClampNeg) < (4 : Int32) then (4 : Int32) else (p1_gaps (x2).toNatClampNeg)) x3)
set_option maxHeartbeats 4000000 in
set_option maxRecDepth 100000 in
theorem c_X3_takeEcho (l : Launch) (D : va_G) (K : Nat → ClassId) (g_t : Nat → Nat) (g_p1 : Nat → Nat) (t_shownCount : Int32) (t_hitBits : Nat → Int32) (p1_gapCount : Int32) (p1_targetCount : Int32) (p1_lookCount : Int32) (p1_time : Int32) (p1_gone : Int32) (p1_gaps : Nat → Int32) (p1_settings : Nat → Int32) (x2 : Int32) (x3 : Int32) (res : (Nat → Int32)) (hF : F_X3_takeEcho t_hitBits p1_gaps p1_settings x2 x3 = some res) :
    Mv_ l yX3_takeEcho wsX3_takeEcho rmX3_takeEcho D K [.ref (g_t 0), .ref (g_p1 0), .int x2, .int x3] (w_X3_takeEcho K g_t g_p1 t_shownCount t_hitBits p1_gapCount p1_targetCount p1_lookCount p1_time p1_gone p1_gaps p1_settings) (w_X3_takeEcho K g_t g_p1 t_shownCount res p1_gapCount p1_targetCount p1_lookCount p1_time p1_gone p1_gaps p1_settings) := by
  refine en_v (cc := cX3_takeEcho) (maxL := 6) (own := RX3) (by decide) rfl rfl (Nat.le_of_ble_eq_true rfl) ?_
  intro p e s m args below meth c A Q H locs ls C0 hP hD hS hl HR
  obtain ⟨⟨hx, hb, hml, hown, hts⟩, hK, -⟩ := id C0
  have hl : lv_has ls 6 [(0, .ref (g_t 0)), (1, .ref (g_p1 0)), (2, .int x2), (3, .int x3)] := hl
  unfold F_X3_takeEcho at hF
  refine lv_aload_n hx hb dX3_takeEcho_0 rfl (lv_at hl 1 rfl) ?_
  refine va_get (D := D) (ci := 5) (v := .ref (g_p1 1)) (C := RX5) (T := TX5) (N := 13) hx hb hts iw_X3_takeEcho_X5 hown hK hP 2 rfl rfl 0 (by decide) (hts _ fl_X3_takeEcho_33) (fun _ h9 => h9) rfl dX3_takeEcho_1 ?_
  refine lv_iload_n hx hb dX3_takeEcho_4 rfl (lv_at hl 2 rfl) ?_
  obtain ⟨hg_1, hF⟩ := gd_some hF
  refine xl_i (f := p1_gaps) hx hb hK hP 3 0 rfl rfl rfl (in_v hg_1) dX3_takeEcho_5 ?_
  refine lv_iconst (v := 4) hx hb dX3_takeEcho_6 (by decide) ?_
  refine va_mmax hx hb (hml.trans hl.1.symm) hown (hts (.methodLink RX3 104 Lib.Math.max.name) (by decide +kernel)) (hts (.static Lib.Math.max.name) (by decide +kernel)) (hts (.initialized "java/lang/Math") (by decide +kernel)) (hts (.code Lib.Math.max.name Lib.Math.max.code 2 (some .int)) (by decide +kernel)) (Nat.le_of_ble_eq_true rfl) (Nat.le_of_ble_eq_true rfl) (Nat.le_of_ble_eq_true rfl) (Nat.le_of_ble_eq_true rfl) dX3_takeEcho_7 ?_
  refine lv_istore (lv' := [(4, .int (if (p1_gaps (x2).toNatClampNeg) < (4 : Int32) then (4 : Int32) else (p1_gaps (x2).toNatClampNeg))), (0, .ref (g_t 0)), (1, .ref (g_p1 0)), (2, .int x2), (3, .int x3)]) hx hb dX3_takeEcho_10 hl (by decide) rfl (fun ls hl => ?_)
  refine lv_iload_n hx hb dX3_takeEcho_12 rfl (lv_at hl 4 rfl) ?_
  refine lv_istore (lv' := [(5, .int x3), (4, .int (if (p1_gaps (x2).toNatClampNeg) < (4 : Int32) then (4 : Int32) else (p1_gaps (x2).toNatClampNeg))), (0, .ref (g_t 0)), (1, .ref (g_p1 0)), (2, .int x2), (3, .int x3)]) hx hb dX3_takeEcho_13 hl (by decide) rfl (fun ls hl => ?_)
  exact w_X3_takeEcho_15 C0 HR fu_ t_hitBits x2 (if (p1_gaps (x2).toNatClampNeg) < (4 : Int32) then (4 : Int32) else (p1_gaps (x2).toNatClampNeg)) x3 H locs ls hP hD hS (lv_sub hl [2, 3, 4, 1, 0] rfl) hF

/-! StaggerRadar.Echoes.show(LStaggerRadar$Radar;II)V -/
abbrev rmX3_show : Room := { frames := 2, cells := 0, slots := 0, locals := 46 }
theorem fl_X3_show_18 : Cond.fieldLink RX3 18 "StaggerRadar$Echoes" "hitBits" "[I" ∈ wsX3_show := by decide +kernel
theorem fl_X3_show_21 : Cond.fieldLink RX3 21 "StaggerRadar$Echoes" "shown" "[I" ∈ wsX3_show := by decide +kernel
theorem fl_X3_show_24 : Cond.fieldLink RX3 24 "StaggerRadar$Echoes" "took" "[I" ∈ wsX3_show := by decide +kernel
theorem fl_X3_show_27 : Cond.fieldLink RX3 27 "StaggerRadar$Radar" "gapCount" "I" ∈ wsX3_show := by decide +kernel
theorem fl_X3_show_33 : Cond.fieldLink RX3 33 "StaggerRadar$Radar" "gaps" "[I" ∈ wsX3_show := by decide +kernel
theorem fl_X3_show_120 : Cond.fieldLink RX3 120 "StaggerRadar$Echoes" "shownCount" "I" ∈ wsX3_show := by decide +kernel
theorem iw_X3_show_X3 : ∀ w ∈ u_ws RX3 TX3 6, w ∈ wsX3_show := by decide +kernel
theorem iw_X3_show_X5 : ∀ w ∈ u_ws RX5 TX5 13, w ∈ wsX3_show := by decide +kernel
abbrev w_X3_show (K : Nat → ClassId) (g_t : Nat → Nat) (g_p1 : Nat → Nat) (t_shownCount : Int32) (t_hitBits : Nat → Int32) (t_shown : Nat → Int32) (t_took : Nat → Int32) (p1_gapCount : Int32) (p1_targetCount : Int32) (p1_lookCount : Int32) (p1_time : Int32) (p1_gone : Int32) (p1_gaps : Nat → Int32) (p1_settings : Nat → Int32) : va_W := [((g_t 0), .inr (3, [.ref (g_t 1), .ref (g_t 2), .ref (g_t 3), .ref (g_t 4), .ref (g_t 5), .int t_shownCount])), ((g_t 3), .inl (K 0, 1000, .inl t_hitBits)), ((g_t 4), .inl (K 0, 40, .inl t_shown)), ((g_t 5), .inl (K 0, 40, .inl t_took)), ((g_p1 0), .inr (5, [.ref (g_p1 1), .ref (g_p1 2), .ref (g_p1 3), .ref (g_p1 4), .ref (g_p1 5), .ref (g_p1 6), .ref (g_p1 7), .ref (g_p1 8), .int p1_gapCount, .int p1_targetCount, .int p1_lookCount, .int p1_time, .int p1_gone])), ((g_p1 1), .inl (K 0, 5, .inl p1_gaps)), ((g_p1 2), .inl (K 0, 7, .inl p1_settings))]
def L_X3_show_41 (p1_gapCount : Int32) (p1_gaps : Nat → Int32) (p1_settings : Nat → Int32) : Nat → Int32 → (Nat → Int32) → (Nat → Int32) → (Nat → Int32) → Int32 → Int32 → Int32 → Option (Int32 × (Nat → Int32) × (Nat → Int32) × (Nat → Int32))
  | 0, _, _, _, _, _, _, _ => none
  | n_ + 1, t_shownCount, t_hitBits, t_shown, t_took, x2, x4, x5 =>
    if p1_gapCount ≤ x5 then (some (t_shownCount, t_hitBits, t_shown, t_took)) else (if ((x4 >>> (x5 &&& 31)) &&& (1 : Int32)) = (0 : Int32) then (L_X3_show_41 p1_gapCount p1_gaps p1_settings n_ t_shownCount t_hitBits t_shown t_took x2 x4 (x5 + (1 : Int32))) else (gd_ (in_b x5 5) ((F_X10_rest x2 (p1_gaps (x5).toNatClampNeg)).bind fun r_4 => ((F_X3_takeEcho t_hitBits p1_gaps p1_settings x5 r_4).bind fun r_6 => (L_X3_show_41 p1_gapCount p1_gaps p1_settings n_ t_shownCount r_6 t_shown t_took x2 x4 (x5 + (1 : Int32)))))))
set_option maxHeartbeats 4000000 in
set_option maxRecDepth 100000 in
theorem w_X3_show_41 {p : Program} {l : Launch} {e : Env} {s : State} {m : MethodId} {args : Array Value} {below : List Frame} {meth : Method} {c : Code} {D : va_G} {K : Nat → ClassId} {A : Nat → Prop} {Q : State → Prop} (C0 : cx_ p s m args c cX3_show 6 RX3 wsX3_show D K A) {g_t : Nat → Nat} {g_p1 : Nat → Nat} {p1_gapCount : Int32} {p1_targetCount : Int32} {p1_lookCount : Int32} {p1_time : Int32} {p1_gone : Int32} {p1_gaps : Nat → Int32} {p1_settings : Nat → Int32} {res : Int32 × (Nat → Int32) × (Nat → Int32) × (Nat → Int32)} (HR : ∀ (pc : Nat) (H : Heap) (locs : List Loc) (ls : Array Slot), decode cX3_show pc = .ok (.return_, 1) → va_P D vwCl (w_X3_show K g_t g_p1 res.1 res.2.1 res.2.2.1 res.2.2.2 p1_gapCount p1_targetCount p1_lookCount p1_time p1_gone p1_gaps p1_settings) H → va_D A (w_X3_show K g_t g_p1 res.1 res.2.1 res.2.2.1 res.2.2.2 p1_gapCount p1_targetCount p1_lookCount p1_time p1_gone p1_gaps p1_settings) → va_S A s.heap H locs → W p l e rmX3_show s m args below meth c H locs 0 0 Q (F0 m pc ls []))  :
    ∀ (n_ : Nat) (t_shownCount : Int32) (t_hitBits : Nat → Int32) (t_shown : Nat → Int32) (t_took : Nat → Int32) (x2 : Int32) (x4 : Int32) (x5 : Int32) (H : Heap) (locs : List Loc) (ls : Array Slot), va_P D vwCl (w_X3_show K g_t g_p1 t_shownCount t_hitBits t_shown t_took p1_gapCount p1_targetCount p1_lookCount p1_time p1_gone p1_gaps p1_settings) H → va_D A (w_X3_show K g_t g_p1 t_shownCount t_hitBits t_shown t_took p1_gapCount p1_targetCount p1_lookCount p1_time p1_gone p1_gaps p1_settings) → va_S A s.heap H locs → lv_has ls 6 [(0, .ref (g_t 0)), (1, .ref (g_p1 0)), (2, .int x2), (4, .int x4), (5, .int x5)] → L_X3_show_41 p1_gapCount p1_gaps p1_settings n_ t_shownCount t_hitBits t_shown t_took x2 x4 x5 = some res → W p l e rmX3_show s m args below meth c H locs 0 0 Q (F0 m 41 ls []) := by
  obtain ⟨⟨hx, hb, hml, hown, hts⟩, hK, -⟩ := id C0
  intro n_
  induction n_ with
  | zero =>
    intro t_shownCount t_hitBits t_shown t_took x2 x4 x5 H locs ls hP hD hS hl hF
    exact no_s (show (none : Option (Int32 × (Nat → Int32) × (Nat → Int32) × (Nat → Int32))) = some res from hF)
  | succ n_ ih =>
    intro t_shownCount t_hitBits t_shown t_took x2 x4 x5 H locs ls hP hD hS hl hF
    rw [L_X3_show_41] at hF
    refine lv_iload hx hb dX3_show_41 (lv_at hl 4 rfl) ?_
    refine lv_aload_n hx hb dX3_show_43 rfl (lv_at hl 1 rfl) ?_
    refine va_get (D := D) (ci := 5) (v := .int p1_gapCount) (C := RX5) (T := TX5) (N := 13) hx hb hts iw_X3_show_X5 hown hK hP 4 rfl rfl 8 (by decide) (hts _ fl_X3_show_27) (fun _ h9 => h9) rfl dX3_show_44 ?_
    refine lv_icmp_ge (tgt := 84) hx hb dX3_show_47 (by decide) (fun c_1 => ?_) (fun c_1 => ?_)
    · have hF := it_pos c_1 hF
      obtain rfl := Option.some.inj hF
      exact HR 84 H locs ls dX3_show_84 hP hD hS
    · have hF := it_neg c_1 hF
      refine lv_iload hx hb dX3_show_50 (lv_at hl 3 rfl) ?_
      refine lv_iload hx hb dX3_show_52 (lv_at hl 4 rfl) ?_
      refine lv_ishr hx hb dX3_show_54 ?_
      refine lv_iconst (v := 1) hx hb dX3_show_55 (by decide) ?_
      refine lv_iand hx hb dX3_show_56 ?_
      refine lv_if_eq (tgt := 78) hx hb dX3_show_57 (by decide) (fun c_2 => ?_) (fun c_2 => ?_)
      · have hF := it_pos c_2 hF
        refine lv_iinc (v := (x5 + (1 : Int32))) (lv' := [(5, .int (x5 + (1 : Int32))), (0, .ref (g_t 0)), (1, .ref (g_p1 0)), (2, .int x2), (4, .int x4)]) hx hb dX3_show_78 hl (k := 4) rfl (congrArg (fun z => x5 + z) (by decide)) (by decide) rfl (fun ls hl => ?_)
        refine lv_goto (tgt := 41) hx hb dX3_show_81 (by decide) ?_
        exact ih t_shownCount t_hitBits t_shown t_took x2 x4 (x5 + (1 : Int32)) H locs ls hP hD hS (lv_sub hl [1, 2, 3, 4, 0] rfl) hF
      · have hF := it_neg c_2 hF
        refine lv_aload_n hx hb dX3_show_60 rfl (lv_at hl 0 rfl) ?_
        refine lv_aload_n hx hb dX3_show_61 rfl (lv_at hl 1 rfl) ?_
        refine lv_iload hx hb dX3_show_62 (lv_at hl 4 rfl) ?_
        refine lv_iload_n hx hb dX3_show_64 rfl (lv_at hl 2 rfl) ?_
        refine lv_aload_n hx hb dX3_show_65 rfl (lv_at hl 1 rfl) ?_
        refine va_get (D := D) (ci := 5) (v := .ref (g_p1 1)) (C := RX5) (T := TX5) (N := 13) hx hb hts iw_X3_show_X5 hown hK hP 4 rfl rfl 0 (by decide) (hts _ fl_X3_show_33) (fun _ h9 => h9) rfl dX3_show_66 ?_
        refine lv_iload hx hb dX3_show_69 (lv_at hl 4 rfl) ?_
        obtain ⟨hg_3, hF⟩ := gd_some hF
        refine xl_i (f := p1_gaps) hx hb hK hP 5 0 rfl rfl rfl (in_v hg_3) dX3_show_71 ?_
        obtain ⟨r_4, hc_5, hF⟩ := bn_some hF
        refine xc_i (wn := (w_X3_show K g_t g_p1 t_shownCount t_hitBits t_shown t_took p1_gapCount p1_targetCount p1_lookCount p1_time p1_gone p1_gaps p1_settings)) hP hD hS C0.2.2.1 [] [0, 1, 2, 3, 4, 5, 6] [0, 1, 2, 3, 4, 5, 6] rfl rfl (by decide) (by decide) rfl (by decide) (va_runSN (host := "StaggerRadar") (As := [.int x2, .int (p1_gaps (x5).toNatClampNeg)]) (rest := [.int x5, .ref (g_p1 0), .ref (g_t 0)]) C0.1 (c_X10_rest l D K x2 (p1_gaps (x5).toNatClampNeg) r_4 hc_5 H.size) ⟨va_cnB 2 hts gX3_show_X10_rest_n59 rfl rfl rfl (C0.2.2.2.1.1 ("StaggerRadar$Echoes", 59, ⟨"StaggerRadar", "rest", "(II)I"⟩, "StaggerRadar") (by decide +kernel)) (hts (.initialized RX10) (by decide +kernel)) (by decide +kernel) ⟨Nat.le_of_ble_eq_true rfl, Nat.le_of_ble_eq_true rfl⟩, hts (.static yX10_rest) (by decide +kernel), trivial⟩ (xp_S C0.2 hP hD hS [] rfl (by decide)) rfl rfl hl.1 rfl (lv_room (Nat.le_of_ble_eq_true rfl)) dX3_show_72 ⟨Nat.le_of_ble_eq_true rfl, Nat.le_of_ble_eq_true rfl⟩) (fun H locs hP hD hS => ?_)
        obtain ⟨r_6, hc_7, hF⟩ := bn_some hF
        refine xc_v (wn := (w_X3_show K g_t g_p1 t_shownCount r_6 t_shown t_took p1_gapCount p1_targetCount p1_lookCount p1_time p1_gone p1_gaps p1_settings)) hP hD hS C0.2.2.1 [0, 1, 4, 5, 6] [2, 3] [2, 3, 0, 1, 4, 5, 6] rfl rfl (by decide) (by decide) rfl (by decide) (va_runV (As := [.ref (g_p1 0), .int x5, .int r_4]) (rest := []) C0.1 (c_X3_takeEcho l D K g_t g_p1 t_shownCount t_hitBits p1_gapCount p1_targetCount p1_lookCount p1_time p1_gone p1_gaps p1_settings x5 r_4 r_6 hc_7 H.size) (cwV 3 hts gX3_show_X3_takeEcho rfl rfl rfl (by decide +kernel) ⟨Nat.le_of_ble_eq_true rfl, Nat.le_of_ble_eq_true rfl⟩) (xp_V C0.2 hP hD hS [0, 1, 4, 5, 6] rfl (by decide) 3 0 rfl rfl rfl) rfl rfl hl.1 rfl (lv_room (Nat.le_of_ble_eq_true rfl)) dX3_show_75 ⟨Nat.le_of_ble_eq_true rfl, Nat.le_of_ble_eq_true rfl⟩) (fun H locs hP hD hS => ?_)
        refine lv_iinc (v := (x5 + (1 : Int32))) (lv' := [(5, .int (x5 + (1 : Int32))), (0, .ref (g_t 0)), (1, .ref (g_p1 0)), (2, .int x2), (4, .int x4)]) hx hb dX3_show_78 hl (k := 4) rfl (congrArg (fun z => x5 + z) (by decide)) (by decide) rfl (fun ls hl => ?_)
        refine lv_goto (tgt := 41) hx hb dX3_show_81 (by decide) ?_
        exact ih t_shownCount r_6 t_shown t_took x2 x4 (x5 + (1 : Int32)) H locs ls hP hD hS (lv_sub hl [1, 2, 3, 4, 0] rfl) hF
def F_X3_show (t_shownCount : Int32) (t_hitBits : Nat → Int32) (t_shown : Nat → Int32) (t_took : Nat → Int32) (p1_gapCount : Int32) (p1_gaps : Nat → Int32) (p1_settings : Nat → Int32) (x2 : Int32) (x3 : Int32) : Option (Int32 × (Nat → Int32) × (Nat → Int32) × (Nat → Int32)) :=
  gd_ (in_b t_shownCount 40) (gd_ (in_b t_shownCount 40) (gd_ (in_b x2 1000) (L_X3_show_41 p1_gapCount p1_gaps p1_settings fu_ (t_shownCount + (1 : Int32)) t_hitBits (upd t_shown (t_shownCount).toNatClampNeg x2) (upd t_took (t_shownCount).toNatClampNeg x3) x2 (t_hitBits (x2).toNatClampNeg) (0 : Int32))))
set_option maxHeartbeats 4000000 in
set_option maxRecDepth 100000 in
theorem c_X3_show (l : Launch) (D : va_G) (K : Nat → ClassId) (g_t : Nat → Nat) (g_p1 : Nat → Nat) (t_shownCount : Int32) (t_hitBits : Nat → Int32) (t_shown : Nat → Int32) (t_took : Nat → Int32) (p1_gapCount : Int32) (p1_targetCount : Int32) (p1_lookCount : Int32) (p1_time : Int32) (p1_gone : Int32) (p1_gaps : Nat → Int32) (p1_settings : Nat → Int32) (x2 : Int32) (x3 : Int32) (res : Int32 × (Nat → Int32) × (Nat → Int32) × (Nat → Int32)) (hF : F_X3_show t_shownCount t_hitBits t_shown t_took p1_gapCount p1_gaps p1_settings x2 x3 = some res) :
    Mv_ l yX3_show wsX3_show rmX3_show D K [.ref (g_t 0), .ref (g_p1 0), .int x2, .int x3] (w_X3_show K g_t g_p1 t_shownCount t_hitBits t_shown t_took p1_gapCount p1_targetCount p1_lookCount p1_time p1_gone p1_gaps p1_settings) (w_X3_show K g_t g_p1 res.1 res.2.1 res.2.2.1 res.2.2.2 p1_gapCount p1_targetCount p1_lookCount p1_time p1_gone p1_gaps p1_settings) := by
  refine en_v (cc := cX3_show) (maxL := 6) (own := RX3) (by decide) rfl rfl (Nat.le_of_ble_eq_true rfl) ?_
  intro p e s m args below meth c A Q H locs ls C0 hP hD hS hl HR
  obtain ⟨⟨hx, hb, hml, hown, hts⟩, hK, -⟩ := id C0
  have hl : lv_has ls 6 [(0, .ref (g_t 0)), (1, .ref (g_p1 0)), (2, .int x2), (3, .int x3)] := hl
  unfold F_X3_show at hF
  refine lv_aload_n hx hb dX3_show_0 rfl (lv_at hl 0 rfl) ?_
  refine va_get (D := D) (ci := 3) (v := .ref (g_t 4)) (C := RX3) (T := TX3) (N := 6) hx hb hts iw_X3_show_X3 hown hK hP 0 rfl rfl 3 (by decide) (hts _ fl_X3_show_21) (fun _ h9 => h9) rfl dX3_show_1 ?_
  refine lv_aload_n hx hb dX3_show_4 rfl (lv_at hl 0 rfl) ?_
  refine va_get (D := D) (ci := 3) (v := .int t_shownCount) (C := RX3) (T := TX3) (N := 6) hx hb hts iw_X3_show_X3 hown hK hP 0 rfl rfl 5 (by decide) (hts _ fl_X3_show_120) (fun _ h9 => h9) rfl dX3_show_5 ?_
  refine lv_iload_n hx hb dX3_show_8 rfl (lv_at hl 2 rfl) ?_
  obtain ⟨hg_1, hF⟩ := gd_some hF
  refine xs_i (f := t_shown) hx hb hK hP hD hS 2 0 rfl rfl rfl (in_v hg_1) dX3_show_9 (fun H locs hP hD hS => ?_)
  have hP : va_P D vwCl (w_X3_show K g_t g_p1 t_shownCount t_hitBits (upd t_shown (t_shownCount).toNatClampNeg x2) t_took p1_gapCount p1_targetCount p1_lookCount p1_time p1_gone p1_gaps p1_settings) H := hP
  have hD : va_D A (w_X3_show K g_t g_p1 t_shownCount t_hitBits (upd t_shown (t_shownCount).toNatClampNeg x2) t_took p1_gapCount p1_targetCount p1_lookCount p1_time p1_gone p1_gaps p1_settings) := hD
  refine lv_aload_n hx hb dX3_show_10 rfl (lv_at hl 0 rfl) ?_
  refine va_get (D := D) (ci := 3) (v := .ref (g_t 5)) (C := RX3) (T := TX3) (N := 6) hx hb hts iw_X3_show_X3 hown hK hP 0 rfl rfl 4 (by decide) (hts _ fl_X3_show_24) (fun _ h9 => h9) rfl dX3_show_11 ?_
  refine lv_aload_n hx hb dX3_show_14 rfl (lv_at hl 0 rfl) ?_
  refine va_get (D := D) (ci := 3) (v := .int t_shownCount) (C := RX3) (T := TX3) (N := 6) hx hb hts iw_X3_show_X3 hown hK hP 0 rfl rfl 5 (by decide) (hts _ fl_X3_show_120) (fun _ h9 => h9) rfl dX3_show_15 ?_
  refine lv_iload_n hx hb dX3_show_18 rfl (lv_at hl 3 rfl) ?_
  obtain ⟨hg_2, hF⟩ := gd_some hF
  refine xs_i (f := t_took) hx hb hK hP hD hS 3 0 rfl rfl rfl (in_v hg_2) dX3_show_19 (fun H locs hP hD hS => ?_)
  have hP : va_P D vwCl (w_X3_show K g_t g_p1 t_shownCount t_hitBits (upd t_shown (t_shownCount).toNatClampNeg x2) (upd t_took (t_shownCount).toNatClampNeg x3) p1_gapCount p1_targetCount p1_lookCount p1_time p1_gone p1_gaps p1_settings) H := hP
  have hD : va_D A (w_X3_show K g_t g_p1 t_shownCount t_hitBits (upd t_shown (t_shownCount).toNatClampNeg x2) (upd t_took (t_shownCount).toNatClampNeg x3) p1_gapCount p1_targetCount p1_lookCount p1_time p1_gone p1_gaps p1_settings) := hD
  refine lv_aload_n hx hb dX3_show_20 rfl (lv_at hl 0 rfl) ?_
  refine lv_dup hx hb dX3_show_21 rfl ?_
  refine va_get (D := D) (ci := 3) (v := .int t_shownCount) (C := RX3) (T := TX3) (N := 6) hx hb hts iw_X3_show_X3 hown hK hP 0 rfl rfl 5 (by decide) (hts _ fl_X3_show_120) (fun _ h9 => h9) rfl dX3_show_22 ?_
  refine lv_iconst (v := 1) hx hb dX3_show_25 (by decide) ?_
  refine lv_iadd hx hb dX3_show_26 ?_
  refine va_put (D := D) (ci := 3) (v := .int (t_shownCount + (1 : Int32))) (ty := .int) (C := RX3) (T := TX3) (N := 6) hx hb hts iw_X3_show_X3 tyX3 tyX3_ok nmX3 hown hK hP hD hS 0 rfl rfl 5 (by decide) (hts _ fl_X3_show_120) (fun _ h9 => h9) rfl (by decide +kernel) rfl rfl (Nat.le_of_ble_eq_true rfl) dX3_show_27 (fun H locs hP hD hS => ?_)
  have hP : va_P D vwCl (w_X3_show K g_t g_p1 (t_shownCount + (1 : Int32)) t_hitBits (upd t_shown (t_shownCount).toNatClampNeg x2) (upd t_took (t_shownCount).toNatClampNeg x3) p1_gapCount p1_targetCount p1_lookCount p1_time p1_gone p1_gaps p1_settings) H := hP
  have hD : va_D A (w_X3_show K g_t g_p1 (t_shownCount + (1 : Int32)) t_hitBits (upd t_shown (t_shownCount).toNatClampNeg x2) (upd t_took (t_shownCount).toNatClampNeg x3) p1_gapCount p1_targetCount p1_lookCount p1_time p1_gone p1_gaps p1_settings) := hD
  refine lv_aload_n hx hb dX3_show_30 rfl (lv_at hl 0 rfl) ?_
  refine va_get (D := D) (ci := 3) (v := .ref (g_t 3)) (C := RX3) (T := TX3) (N := 6) hx hb hts iw_X3_show_X3 hown hK hP 0 rfl rfl 2 (by decide) (hts _ fl_X3_show_18) (fun _ h9 => h9) rfl dX3_show_31 ?_
  refine lv_iload_n hx hb dX3_show_34 rfl (lv_at hl 2 rfl) ?_
  obtain ⟨hg_3, hF⟩ := gd_some hF
  refine xl_i (f := t_hitBits) hx hb hK hP 1 0 rfl rfl rfl (in_v hg_3) dX3_show_35 ?_
  refine lv_istore (lv' := [(4, .int (t_hitBits (x2).toNatClampNeg)), (0, .ref (g_t 0)), (1, .ref (g_p1 0)), (2, .int x2), (3, .int x3)]) hx hb dX3_show_36 hl (by decide) rfl (fun ls hl => ?_)
  refine lv_iconst (v := 0) hx hb dX3_show_38 (by decide) ?_
  refine lv_istore (lv' := [(5, .int (0 : Int32)), (4, .int (t_hitBits (x2).toNatClampNeg)), (0, .ref (g_t 0)), (1, .ref (g_p1 0)), (2, .int x2), (3, .int x3)]) hx hb dX3_show_39 hl (by decide) rfl (fun ls hl => ?_)
  exact w_X3_show_41 C0 HR fu_ (t_shownCount + (1 : Int32)) t_hitBits (upd t_shown (t_shownCount).toNatClampNeg x2) (upd t_took (t_shownCount).toNatClampNeg x3) x2 (t_hitBits (x2).toNatClampNeg) (0 : Int32) H locs ls hP hD hS (lv_sub hl [2, 3, 4, 1, 0] rfl) hF

/-! StaggerRadar.Echoes.paint(LStaggerRadar$Radar;)V -/
abbrev rmX3_paint : Room := { frames := 3, cells := 0, slots := 0, locals := 71 }
theorem fl_X3_paint_18 : Cond.fieldLink RX3 18 "StaggerRadar$Echoes" "hitBits" "[I" ∈ wsX3_paint := by decide +kernel
theorem fl_X3_paint_27 : Cond.fieldLink RX3 27 "StaggerRadar$Radar" "gapCount" "I" ∈ wsX3_paint := by decide +kernel
theorem fl_X3_paint_66 : Cond.fieldLink RX3 66 "StaggerRadar$Radar" "settings" "[I" ∈ wsX3_paint := by decide +kernel
theorem fl_X3_paint_120 : Cond.fieldLink RX3 120 "StaggerRadar$Echoes" "shownCount" "I" ∈ wsX3_paint := by decide +kernel
theorem iw_X3_paint_X3 : ∀ w ∈ u_ws RX3 TX3 6, w ∈ wsX3_paint := by decide +kernel
theorem iw_X3_paint_X5 : ∀ w ∈ u_ws RX5 TX5 13, w ∈ wsX3_paint := by decide +kernel
abbrev w_X3_paint (K : Nat → ClassId) (g_t : Nat → Nat) (g_p1 : Nat → Nat) (t_shownCount : Int32) (t_loud : Nat → Int32) (t_hitBits : Nat → Int32) (t_shown : Nat → Int32) (t_took : Nat → Int32) (p1_gapCount : Int32) (p1_targetCount : Int32) (p1_lookCount : Int32) (p1_time : Int32) (p1_gone : Int32) (p1_gaps : Nat → Int32) (p1_settings : Nat → Int32) : va_W := [((g_t 0), .inr (3, [.ref (g_t 1), .ref (g_t 2), .ref (g_t 3), .ref (g_t 4), .ref (g_t 5), .int t_shownCount])), ((g_t 2), .inl (K 0, 300, .inl t_loud)), ((g_t 3), .inl (K 0, 1000, .inl t_hitBits)), ((g_t 4), .inl (K 0, 40, .inl t_shown)), ((g_t 5), .inl (K 0, 40, .inl t_took)), ((g_p1 0), .inr (5, [.ref (g_p1 1), .ref (g_p1 2), .ref (g_p1 3), .ref (g_p1 4), .ref (g_p1 5), .ref (g_p1 6), .ref (g_p1 7), .ref (g_p1 8), .int p1_gapCount, .int p1_targetCount, .int p1_lookCount, .int p1_time, .int p1_gone])), ((g_p1 1), .inl (K 0, 5, .inl p1_gaps)), ((g_p1 2), .inl (K 0, 7, .inl p1_settings))]
def L_X3_paint_27 (t_loud : Nat → Int32) (p1_gapCount : Int32) (p1_gaps : Nat → Int32) (p1_settings : Nat → Int32) (k_15 : Int32 → (Nat → Int32) → (Nat → Int32) → (Nat → Int32) → Int32 → Option (Int32 × (Nat → Int32) × (Nat → Int32) × (Nat → Int32))) : Nat → Int32 → (Nat → Int32) → (Nat → Int32) → (Nat → Int32) → Int32 → Int32 → Option (Int32 × (Nat → Int32) × (Nat → Int32) × (Nat → Int32))
  | 0, _, _, _, _, _, _ => none
  | n_ + 1, t_shownCount, t_hitBits, t_shown, t_took, x2, x3 =>
    if (p1_settings 3) ≤ x3 then (k_15 t_shownCount t_hitBits t_shown t_took (x2 + (-1 : Int32))) else (gd_ (in_b x3 1000) ((F_J6_bitCount_0f7a4 (t_hitBits (x3).toNatClampNeg)).bind fun r_3 => (if r_3 = x2 then (if (40 : Int32) ≤ t_shownCount then (L_X3_paint_27 t_loud p1_gapCount p1_gaps p1_settings k_15 n_ t_shownCount t_hitBits t_shown t_took x2 (x3 + (1 : Int32))) else ((F_X3_show t_shownCount t_hitBits t_shown t_took p1_gapCount p1_gaps p1_settings x3 x2).bind fun r_7 => (L_X3_paint_27 t_loud p1_gapCount p1_gaps p1_settings k_15 n_ r_7.1 r_7.2.1 r_7.2.2.1 r_7.2.2.2 x2 (x3 + (1 : Int32))))) else (L_X3_paint_27 t_loud p1_gapCount p1_gaps p1_settings k_15 n_ t_shownCount t_hitBits t_shown t_took x2 (x3 + (1 : Int32))))))
set_option maxHeartbeats 4000000 in
set_option maxRecDepth 100000 in
theorem w_X3_paint_27 {p : Program} {l : Launch} {e : Env} {s : State} {m : MethodId} {args : Array Value} {below : List Frame} {meth : Method} {c : Code} {D : va_G} {K : Nat → ClassId} {A : Nat → Prop} {Q : State → Prop} (C0 : cx_ p s m args c cX3_paint 4 RX3 wsX3_paint D K A) {g_t : Nat → Nat} {g_p1 : Nat → Nat} {t_loud : Nat → Int32} {p1_gapCount : Int32} {p1_targetCount : Int32} {p1_lookCount : Int32} {p1_time : Int32} {p1_gone : Int32} {p1_gaps : Nat → Int32} {p1_settings : Nat → Int32} {res : Int32 × (Nat → Int32) × (Nat → Int32) × (Nat → Int32)} (HR : ∀ (pc : Nat) (H : Heap) (locs : List Loc) (ls : Array Slot), decode cX3_paint pc = .ok (.return_, 1) → va_P D vwCl (w_X3_paint K g_t g_p1 res.1 t_loud res.2.1 res.2.2.1 res.2.2.2 p1_gapCount p1_targetCount p1_lookCount p1_time p1_gone p1_gaps p1_settings) H → va_D A (w_X3_paint K g_t g_p1 res.1 t_loud res.2.1 res.2.2.1 res.2.2.2 p1_gapCount p1_targetCount p1_lookCount p1_time p1_gone p1_gaps p1_settings) → va_S A s.heap H locs → W p l e rmX3_paint s m args below meth c H locs 0 0 Q (F0 m pc ls [])) {k_15 : Int32 → (Nat → Int32) → (Nat → Int32) → (Nat → Int32) → Int32 → Option (Int32 × (Nat → Int32) × (Nat → Int32) × (Nat → Int32))} (HK_15 : ∀ (t_shownCount : Int32) (t_hitBits : Nat → Int32) (t_shown : Nat → Int32) (t_took : Nat → Int32) (x2 : Int32) (H : Heap) (locs : List Loc) (ls : Array Slot), va_P D vwCl (w_X3_paint K g_t g_p1 t_shownCount t_loud t_hitBits t_shown t_took p1_gapCount p1_targetCount p1_lookCount p1_time p1_gone p1_gaps p1_settings) H → va_D A (w_X3_paint K g_t g_p1 t_shownCount t_loud t_hitBits t_shown t_took p1_gapCount p1_targetCount p1_lookCount p1_time p1_gone p1_gaps p1_settings) → va_S A s.heap H locs → lv_has ls 4 [(0, .ref (g_t 0)), (1, .ref (g_p1 0)), (2, .int x2)] → k_15 t_shownCount t_hitBits t_shown t_took x2 = some res → W p l e rmX3_paint s m args below meth c H locs 0 0 Q (F0 m 15 ls [])) :
    ∀ (n_ : Nat) (t_shownCount : Int32) (t_hitBits : Nat → Int32) (t_shown : Nat → Int32) (t_took : Nat → Int32) (x2 : Int32) (x3 : Int32) (H : Heap) (locs : List Loc) (ls : Array Slot), va_P D vwCl (w_X3_paint K g_t g_p1 t_shownCount t_loud t_hitBits t_shown t_took p1_gapCount p1_targetCount p1_lookCount p1_time p1_gone p1_gaps p1_settings) H → va_D A (w_X3_paint K g_t g_p1 t_shownCount t_loud t_hitBits t_shown t_took p1_gapCount p1_targetCount p1_lookCount p1_time p1_gone p1_gaps p1_settings) → va_S A s.heap H locs → lv_has ls 4 [(0, .ref (g_t 0)), (1, .ref (g_p1 0)), (2, .int x2), (3, .int x3)] → L_X3_paint_27 t_loud p1_gapCount p1_gaps p1_settings k_15 n_ t_shownCount t_hitBits t_shown t_took x2 x3 = some res → W p l e rmX3_paint s m args below meth c H locs 0 0 Q (F0 m 27 ls []) := by
  obtain ⟨⟨hx, hb, hml, hown, hts⟩, hK, -⟩ := id C0
  intro n_
  induction n_ with
  | zero =>
    intro t_shownCount t_hitBits t_shown t_took x2 x3 H locs ls hP hD hS hl hF
    exact no_s (show (none : Option (Int32 × (Nat → Int32) × (Nat → Int32) × (Nat → Int32))) = some res from hF)
  | succ n_ ih =>
    intro t_shownCount t_hitBits t_shown t_took x2 x3 H locs ls hP hD hS hl hF
    rw [L_X3_paint_27] at hF
    refine lv_iload_n hx hb dX3_paint_27 rfl (lv_at hl 3 rfl) ?_
    refine lv_aload_n hx hb dX3_paint_28 rfl (lv_at hl 1 rfl) ?_
    refine va_get (D := D) (ci := 5) (v := .ref (g_p1 2)) (C := RX5) (T := TX5) (N := 13) hx hb hts iw_X3_paint_X5 hown hK hP 5 rfl rfl 1 (by decide) (hts _ fl_X3_paint_66) (fun _ h9 => h9) rfl dX3_paint_29 ?_
    refine lv_iconst (v := 3) hx hb dX3_paint_32 (by decide) ?_
    refine xl_i (f := p1_settings) hx hb hK hP 7 0 rfl rfl (k := 3) (by decide) (in_v (by decide)) dX3_paint_33 ?_
    refine lv_icmp_ge (tgt := 72) hx hb dX3_paint_34 (by decide) (fun c_1 => ?_) (fun c_1 => ?_)
    · have hF := it_pos c_1 hF
      refine lv_iinc (v := (x2 + (-1 : Int32))) (lv' := [(2, .int (x2 + (-1 : Int32))), (0, .ref (g_t 0)), (1, .ref (g_p1 0)), (3, .int x3)]) hx hb dX3_paint_72 hl (k := 2) rfl (congrArg (fun z => x2 + z) (by decide)) (by decide) rfl (fun ls hl => ?_)
      refine lv_goto (tgt := 15) hx hb dX3_paint_75 (by decide) ?_
      exact HK_15 t_shownCount t_hitBits t_shown t_took (x2 + (-1 : Int32)) H locs ls hP hD hS (lv_sub hl [1, 2, 0] rfl) hF
    · have hF := it_neg c_1 hF
      refine lv_aload_n hx hb dX3_paint_37 rfl (lv_at hl 0 rfl) ?_
      refine va_get (D := D) (ci := 3) (v := .ref (g_t 3)) (C := RX3) (T := TX3) (N := 6) hx hb hts iw_X3_paint_X3 hown hK hP 0 rfl rfl 2 (by decide) (hts _ fl_X3_paint_18) (fun _ h9 => h9) rfl dX3_paint_38 ?_
      refine lv_iload_n hx hb dX3_paint_41 rfl (lv_at hl 3 rfl) ?_
      obtain ⟨hg_2, hF⟩ := gd_some hF
      refine xl_i (f := t_hitBits) hx hb hK hP 2 0 rfl rfl rfl (in_v hg_2) dX3_paint_42 ?_
      obtain ⟨r_3, hc_4, hF⟩ := bn_some hF
      refine xc_i (wn := (w_X3_paint K g_t g_p1 t_shownCount t_loud t_hitBits t_shown t_took p1_gapCount p1_targetCount p1_lookCount p1_time p1_gone p1_gaps p1_settings)) hP hD hS C0.2.2.1 [] [0, 1, 2, 3, 4, 5, 6, 7] [0, 1, 2, 3, 4, 5, 6, 7] rfl rfl (by decide) (by decide) rfl (by decide) (va_runS (As := [.int (t_hitBits (x3).toNatClampNeg)]) (rest := []) C0.1 (c_J6_bitCount_0f7a4 l D K (t_hitBits (x3).toNatClampNeg) r_3 hc_4 H.size) (va_cwS 1 hts gX3_paint_J6_bitCount_0f7a4 rfl rfl rfl (by decide +kernel) ⟨Nat.le_of_ble_eq_true rfl, Nat.le_of_ble_eq_true rfl⟩) (xp_S C0.2 hP hD hS [] rfl (by decide)) rfl rfl hl.1 rfl (lv_room (Nat.le_of_ble_eq_true rfl)) dX3_paint_43 ⟨Nat.le_of_ble_eq_true rfl, Nat.le_of_ble_eq_true rfl⟩) (fun H locs hP hD hS => ?_)
      refine lv_iload_n hx hb dX3_paint_46 rfl (lv_at hl 2 rfl) ?_
      refine lv_icmp_ne (tgt := 66) hx hb dX3_paint_47 (by decide) (fun c_5 => ?_) (fun c_5 => ?_)
      · have hF := it_neg c_5 hF
        refine lv_iinc (v := (x3 + (1 : Int32))) (lv' := [(3, .int (x3 + (1 : Int32))), (0, .ref (g_t 0)), (1, .ref (g_p1 0)), (2, .int x2)]) hx hb dX3_paint_66 hl (k := 3) rfl (congrArg (fun z => x3 + z) (by decide)) (by decide) rfl (fun ls hl => ?_)
        refine lv_goto (tgt := 27) hx hb dX3_paint_69 (by decide) ?_
        exact ih t_shownCount t_hitBits t_shown t_took x2 (x3 + (1 : Int32)) H locs ls hP hD hS (lv_sub hl [1, 2, 3, 0] rfl) hF
      · have hF := it_pos c_5 hF
        refine lv_aload_n hx hb dX3_paint_50 rfl (lv_at hl 0 rfl) ?_
        refine va_get (D := D) (ci := 3) (v := .int t_shownCount) (C := RX3) (T := TX3) (N := 6) hx hb hts iw_X3_paint_X3 hown hK hP 0 rfl rfl 5 (by decide) (hts _ fl_X3_paint_120) (fun _ h9 => h9) rfl dX3_paint_51 ?_
        refine lv_bipush (v := 40) hx hb dX3_paint_54 (by decide) ?_
        refine lv_icmp_ge (tgt := 66) hx hb dX3_paint_56 (by decide) (fun c_6 => ?_) (fun c_6 => ?_)
        · have hF := it_pos c_6 hF
          refine lv_iinc (v := (x3 + (1 : Int32))) (lv' := [(3, .int (x3 + (1 : Int32))), (0, .ref (g_t 0)), (1, .ref (g_p1 0)), (2, .int x2)]) hx hb dX3_paint_66 hl (k := 3) rfl (congrArg (fun z => x3 + z) (by decide)) (by decide) rfl (fun ls hl => ?_)
          refine lv_goto (tgt := 27) hx hb dX3_paint_69 (by decide) ?_
          exact ih t_shownCount t_hitBits t_shown t_took x2 (x3 + (1 : Int32)) H locs ls hP hD hS (lv_sub hl [1, 2, 3, 0] rfl) hF
        · have hF := it_neg c_6 hF
          refine lv_aload_n hx hb dX3_paint_59 rfl (lv_at hl 0 rfl) ?_
          refine lv_aload_n hx hb dX3_paint_60 rfl (lv_at hl 1 rfl) ?_
          refine lv_iload_n hx hb dX3_paint_61 rfl (lv_at hl 3 rfl) ?_
          refine lv_iload_n hx hb dX3_paint_62 rfl (lv_at hl 2 rfl) ?_
          obtain ⟨r_7, hc_8, hF⟩ := bn_some hF
          refine xc_v (wn := (w_X3_paint K g_t g_p1 r_7.1 t_loud r_7.2.1 r_7.2.2.1 r_7.2.2.2 p1_gapCount p1_targetCount p1_lookCount p1_time p1_gone p1_gaps p1_settings)) hP hD hS C0.2.2.1 [0, 2, 3, 4, 5, 6, 7] [1] [1, 0, 2, 3, 4, 5, 6, 7] rfl rfl (by decide) (by decide) rfl (by decide) (va_runV (As := [.ref (g_p1 0), .int x3, .int x2]) (rest := []) C0.1 (c_X3_show l D K g_t g_p1 t_shownCount t_hitBits t_shown t_took p1_gapCount p1_targetCount p1_lookCount p1_time p1_gone p1_gaps p1_settings x3 x2 r_7 hc_8 H.size) (cwV 3 hts gX3_paint_X3_show rfl rfl rfl (by decide +kernel) ⟨Nat.le_of_ble_eq_true rfl, Nat.le_of_ble_eq_true rfl⟩) (xp_V C0.2 hP hD hS [0, 2, 3, 4, 5, 6, 7] rfl (by decide) 3 0 rfl rfl rfl) rfl rfl hl.1 rfl (lv_room (Nat.le_of_ble_eq_true rfl)) dX3_paint_63 ⟨Nat.le_of_ble_eq_true rfl, Nat.le_of_ble_eq_true rfl⟩) (fun H locs hP hD hS => ?_)
          refine lv_iinc (v := (x3 + (1 : Int32))) (lv' := [(3, .int (x3 + (1 : Int32))), (0, .ref (g_t 0)), (1, .ref (g_p1 0)), (2, .int x2)]) hx hb dX3_paint_66 hl (k := 3) rfl (congrArg (fun z => x3 + z) (by decide)) (by decide) rfl (fun ls hl => ?_)
          refine lv_goto (tgt := 27) hx hb dX3_paint_69 (by decide) ?_
          exact ih r_7.1 r_7.2.1 r_7.2.2.1 r_7.2.2.2 x2 (x3 + (1 : Int32)) H locs ls hP hD hS (lv_sub hl [1, 2, 3, 0] rfl) hF
def L_X3_paint_15 (t_loud : Nat → Int32) (p1_gapCount : Int32) (p1_gaps : Nat → Int32) (p1_settings : Nat → Int32) : Nat → Int32 → (Nat → Int32) → (Nat → Int32) → (Nat → Int32) → Int32 → Option (Int32 × (Nat → Int32) × (Nat → Int32) × (Nat → Int32))
  | 0, _, _, _, _, _ => none
  | n_ + 1, t_shownCount, t_hitBits, t_shown, t_took, x2 =>
    if x2 < (p1_settings 4) then (some (t_shownCount, t_hitBits, t_shown, t_took)) else (L_X3_paint_27 t_loud p1_gapCount p1_gaps p1_settings (L_X3_paint_15 t_loud p1_gapCount p1_gaps p1_settings n_) fu_ t_shownCount t_hitBits t_shown t_took x2 (0 : Int32))
set_option maxHeartbeats 4000000 in
set_option maxRecDepth 100000 in
theorem w_X3_paint_15 {p : Program} {l : Launch} {e : Env} {s : State} {m : MethodId} {args : Array Value} {below : List Frame} {meth : Method} {c : Code} {D : va_G} {K : Nat → ClassId} {A : Nat → Prop} {Q : State → Prop} (C0 : cx_ p s m args c cX3_paint 4 RX3 wsX3_paint D K A) {g_t : Nat → Nat} {g_p1 : Nat → Nat} {t_loud : Nat → Int32} {p1_gapCount : Int32} {p1_targetCount : Int32} {p1_lookCount : Int32} {p1_time : Int32} {p1_gone : Int32} {p1_gaps : Nat → Int32} {p1_settings : Nat → Int32} {res : Int32 × (Nat → Int32) × (Nat → Int32) × (Nat → Int32)} (HR : ∀ (pc : Nat) (H : Heap) (locs : List Loc) (ls : Array Slot), decode cX3_paint pc = .ok (.return_, 1) → va_P D vwCl (w_X3_paint K g_t g_p1 res.1 t_loud res.2.1 res.2.2.1 res.2.2.2 p1_gapCount p1_targetCount p1_lookCount p1_time p1_gone p1_gaps p1_settings) H → va_D A (w_X3_paint K g_t g_p1 res.1 t_loud res.2.1 res.2.2.1 res.2.2.2 p1_gapCount p1_targetCount p1_lookCount p1_time p1_gone p1_gaps p1_settings) → va_S A s.heap H locs → W p l e rmX3_paint s m args below meth c H locs 0 0 Q (F0 m pc ls []))  :
    ∀ (n_ : Nat) (t_shownCount : Int32) (t_hitBits : Nat → Int32) (t_shown : Nat → Int32) (t_took : Nat → Int32) (x2 : Int32) (H : Heap) (locs : List Loc) (ls : Array Slot), va_P D vwCl (w_X3_paint K g_t g_p1 t_shownCount t_loud t_hitBits t_shown t_took p1_gapCount p1_targetCount p1_lookCount p1_time p1_gone p1_gaps p1_settings) H → va_D A (w_X3_paint K g_t g_p1 t_shownCount t_loud t_hitBits t_shown t_took p1_gapCount p1_targetCount p1_lookCount p1_time p1_gone p1_gaps p1_settings) → va_S A s.heap H locs → lv_has ls 4 [(0, .ref (g_t 0)), (1, .ref (g_p1 0)), (2, .int x2)] → L_X3_paint_15 t_loud p1_gapCount p1_gaps p1_settings n_ t_shownCount t_hitBits t_shown t_took x2 = some res → W p l e rmX3_paint s m args below meth c H locs 0 0 Q (F0 m 15 ls []) := by
  obtain ⟨⟨hx, hb, hml, hown, hts⟩, hK, -⟩ := id C0
  intro n_
  induction n_ with
  | zero =>
    intro t_shownCount t_hitBits t_shown t_took x2 H locs ls hP hD hS hl hF
    exact no_s (show (none : Option (Int32 × (Nat → Int32) × (Nat → Int32) × (Nat → Int32))) = some res from hF)
  | succ n_ ih =>
    intro t_shownCount t_hitBits t_shown t_took x2 H locs ls hP hD hS hl hF
    rw [L_X3_paint_15] at hF
    refine lv_iload_n hx hb dX3_paint_15 rfl (lv_at hl 2 rfl) ?_
    refine lv_aload_n hx hb dX3_paint_16 rfl (lv_at hl 1 rfl) ?_
    refine va_get (D := D) (ci := 5) (v := .ref (g_p1 2)) (C := RX5) (T := TX5) (N := 13) hx hb hts iw_X3_paint_X5 hown hK hP 5 rfl rfl 1 (by decide) (hts _ fl_X3_paint_66) (fun _ h9 => h9) rfl dX3_paint_17 ?_
    refine lv_iconst (v := 4) hx hb dX3_paint_20 (by decide) ?_
    refine xl_i (f := p1_settings) hx hb hK hP 7 0 rfl rfl (k := 4) (by decide) (in_v (by decide)) dX3_paint_21 ?_
    refine lv_icmp_lt (tgt := 78) hx hb dX3_paint_22 (by decide) (fun c_1 => ?_) (fun c_1 => ?_)
    · have hF := it_pos c_1 hF
      obtain rfl := Option.some.inj hF
      exact HR 78 H locs ls dX3_paint_78 hP hD hS
    · have hF := it_neg c_1 hF
      refine lv_iconst (v := 0) hx hb dX3_paint_25 (by decide) ?_
      refine lv_istore_n (lv' := [(3, .int (0 : Int32)), (0, .ref (g_t 0)), (1, .ref (g_p1 0)), (2, .int x2)]) hx hb dX3_paint_26 rfl hl (by decide) rfl (fun ls hl => ?_)
      exact w_X3_paint_27 C0 HR ih fu_ t_shownCount t_hitBits t_shown t_took x2 (0 : Int32) H locs ls hP hD hS (lv_sub hl [1, 2, 3, 0] rfl) hF
def F_X3_paint (t_shownCount : Int32) (t_loud : Nat → Int32) (t_hitBits : Nat → Int32) (t_shown : Nat → Int32) (t_took : Nat → Int32) (p1_gapCount : Int32) (p1_gaps : Nat → Int32) (p1_settings : Nat → Int32) : Option (Int32 × (Nat → Int32) × (Nat → Int32) × (Nat → Int32)) :=
  (F_X3_markHits t_loud t_hitBits p1_gapCount p1_gaps p1_settings).bind fun r_1 => (L_X3_paint_15 t_loud p1_gapCount p1_gaps p1_settings fu_ (0 : Int32) r_1 t_shown t_took p1_gapCount)
set_option maxHeartbeats 4000000 in
set_option maxRecDepth 100000 in
theorem c_X3_paint (l : Launch) (D : va_G) (K : Nat → ClassId) (g_t : Nat → Nat) (g_p1 : Nat → Nat) (t_shownCount : Int32) (t_loud : Nat → Int32) (t_hitBits : Nat → Int32) (t_shown : Nat → Int32) (t_took : Nat → Int32) (p1_gapCount : Int32) (p1_targetCount : Int32) (p1_lookCount : Int32) (p1_time : Int32) (p1_gone : Int32) (p1_gaps : Nat → Int32) (p1_settings : Nat → Int32) (res : Int32 × (Nat → Int32) × (Nat → Int32) × (Nat → Int32)) (hF : F_X3_paint t_shownCount t_loud t_hitBits t_shown t_took p1_gapCount p1_gaps p1_settings = some res) :
    Mv_ l yX3_paint wsX3_paint rmX3_paint D K [.ref (g_t 0), .ref (g_p1 0)] (w_X3_paint K g_t g_p1 t_shownCount t_loud t_hitBits t_shown t_took p1_gapCount p1_targetCount p1_lookCount p1_time p1_gone p1_gaps p1_settings) (w_X3_paint K g_t g_p1 res.1 t_loud res.2.1 res.2.2.1 res.2.2.2 p1_gapCount p1_targetCount p1_lookCount p1_time p1_gone p1_gaps p1_settings) := by
  refine en_v (cc := cX3_paint) (maxL := 4) (own := RX3) (by decide) rfl rfl (Nat.le_of_ble_eq_true rfl) ?_
  intro p e s m args below meth c A Q H locs ls C0 hP hD hS hl HR
  obtain ⟨⟨hx, hb, hml, hown, hts⟩, hK, -⟩ := id C0
  have hl : lv_has ls 4 [(0, .ref (g_t 0)), (1, .ref (g_p1 0))] := hl
  unfold F_X3_paint at hF
  refine lv_aload_n hx hb dX3_paint_0 rfl (lv_at hl 0 rfl) ?_
  refine lv_aload_n hx hb dX3_paint_1 rfl (lv_at hl 1 rfl) ?_
  obtain ⟨r_1, hc_2, hF⟩ := bn_some hF
  refine xc_v (wn := (w_X3_paint K g_t g_p1 t_shownCount t_loud r_1 t_shown t_took p1_gapCount p1_targetCount p1_lookCount p1_time p1_gone p1_gaps p1_settings)) hP hD hS C0.2.2.1 [0, 1, 2, 5, 6, 7] [3, 4] [2, 3, 4, 0, 1, 5, 6, 7] rfl rfl (by decide) (by decide) rfl (by decide) (va_runV (As := [.ref (g_p1 0)]) (rest := []) C0.1 (c_X3_markHits l D K g_t g_p1 t_shownCount t_loud t_hitBits p1_gapCount p1_targetCount p1_lookCount p1_time p1_gone p1_gaps p1_settings r_1 hc_2 H.size) (cwV 1 hts gX3_paint_X3_markHits rfl rfl rfl (by decide +kernel) ⟨Nat.le_of_ble_eq_true rfl, Nat.le_of_ble_eq_true rfl⟩) (xp_V C0.2 hP hD hS [0, 1, 2, 5, 6, 7] rfl (by decide) 3 0 rfl rfl rfl) rfl rfl hl.1 rfl (lv_room (Nat.le_of_ble_eq_true rfl)) dX3_paint_2 ⟨Nat.le_of_ble_eq_true rfl, Nat.le_of_ble_eq_true rfl⟩) (fun H locs hP hD hS => ?_)
  refine lv_aload_n hx hb dX3_paint_5 rfl (lv_at hl 0 rfl) ?_
  refine lv_iconst (v := 0) hx hb dX3_paint_6 (by decide) ?_
  refine va_put (D := D) (ci := 3) (v := .int (0 : Int32)) (ty := .int) (C := RX3) (T := TX3) (N := 6) hx hb hts iw_X3_paint_X3 tyX3 tyX3_ok nmX3 hown hK hP hD hS 0 rfl rfl 5 (by decide) (hts _ fl_X3_paint_120) (fun _ h9 => h9) rfl (by decide +kernel) rfl rfl (Nat.le_of_ble_eq_true rfl) dX3_paint_7 (fun H locs hP hD hS => ?_)
  have hP : va_P D vwCl (w_X3_paint K g_t g_p1 (0 : Int32) t_loud r_1 t_shown t_took p1_gapCount p1_targetCount p1_lookCount p1_time p1_gone p1_gaps p1_settings) H := hP
  have hD : va_D A (w_X3_paint K g_t g_p1 (0 : Int32) t_loud r_1 t_shown t_took p1_gapCount p1_targetCount p1_lookCount p1_time p1_gone p1_gaps p1_settings) := hD
  refine lv_aload_n hx hb dX3_paint_10 rfl (lv_at hl 1 rfl) ?_
  refine va_get (D := D) (ci := 5) (v := .int p1_gapCount) (C := RX5) (T := TX5) (N := 13) hx hb hts iw_X3_paint_X5 hown hK hP 5 rfl rfl 8 (by decide) (hts _ fl_X3_paint_27) (fun _ h9 => h9) rfl dX3_paint_11 ?_
  refine lv_istore_n (lv' := [(2, .int p1_gapCount), (0, .ref (g_t 0)), (1, .ref (g_p1 0))]) hx hb dX3_paint_14 rfl hl (by decide) rfl (fun ls hl => ?_)
  exact w_X3_paint_15 C0 HR fu_ (0 : Int32) r_1 t_shown t_took p1_gapCount H locs ls hP hD hS (lv_sub hl [1, 2, 0] rfl) hF

/-! StaggerRadar.Echoes.hitsOf(LStaggerRadar$Radar;I)I -/
abbrev rmX3_hitsOf : Room := { frames := 1, cells := 0, slots := 0, locals := 23 }
theorem fl_X3_hitsOf_27 : Cond.fieldLink RX3 27 "StaggerRadar$Radar" "gapCount" "I" ∈ wsX3_hitsOf := by decide +kernel
theorem fl_X3_hitsOf_33 : Cond.fieldLink RX3 33 "StaggerRadar$Radar" "gaps" "[I" ∈ wsX3_hitsOf := by decide +kernel
theorem iw_X3_hitsOf_X3 : ∀ w ∈ u_ws RX3 TX3 6, w ∈ wsX3_hitsOf := by decide +kernel
theorem iw_X3_hitsOf_X5 : ∀ w ∈ u_ws RX5 TX5 13, w ∈ wsX3_hitsOf := by decide +kernel
abbrev w_X3_hitsOf (K : Nat → ClassId) (g_t : Nat → Nat) (g_p1 : Nat → Nat) (t_shownCount : Int32) (t_loud : Nat → Int32) (p1_gapCount : Int32) (p1_targetCount : Int32) (p1_lookCount : Int32) (p1_time : Int32) (p1_gone : Int32) (p1_gaps : Nat → Int32) (p1_settings : Nat → Int32) : va_W := [((g_t 0), .inr (3, [.ref (g_t 1), .ref (g_t 2), .ref (g_t 3), .ref (g_t 4), .ref (g_t 5), .int t_shownCount])), ((g_t 2), .inl (K 0, 300, .inl t_loud)), ((g_p1 0), .inr (5, [.ref (g_p1 1), .ref (g_p1 2), .ref (g_p1 3), .ref (g_p1 4), .ref (g_p1 5), .ref (g_p1 6), .ref (g_p1 7), .ref (g_p1 8), .int p1_gapCount, .int p1_targetCount, .int p1_lookCount, .int p1_time, .int p1_gone])), ((g_p1 1), .inl (K 0, 5, .inl p1_gaps)), ((g_p1 2), .inl (K 0, 7, .inl p1_settings))]
def L_X3_hitsOf_5 (t_loud : Nat → Int32) (p1_gapCount : Int32) (p1_gaps : Nat → Int32) (p1_settings : Nat → Int32) : Nat → Int32 → Int32 → Int32 → Option (Int32)
  | 0, _, _, _ => none
  | n_ + 1, x2, x3, x4 =>
    if p1_gapCount ≤ x4 then (some x3) else (gd_ (in_b x4 5) ((F_X10_rest x2 (p1_gaps (x4).toNatClampNeg)).bind fun r_3 => ((F_X3_isEcho t_loud p1_settings x4 r_3).bind fun r_5 => (if r_5 = (0 : Int32) then (L_X3_hitsOf_5 t_loud p1_gapCount p1_gaps p1_settings n_ x2 x3 (x4 + (1 : Int32))) else (L_X3_hitsOf_5 t_loud p1_gapCount p1_gaps p1_settings n_ x2 (x3 ||| ((1 : Int32) <<< (x4 &&& 31))) (x4 + (1 : Int32)))))))
set_option maxHeartbeats 4000000 in
set_option maxRecDepth 100000 in
theorem w_X3_hitsOf_5 {p : Program} {l : Launch} {e : Env} {s : State} {m : MethodId} {args : Array Value} {below : List Frame} {meth : Method} {c : Code} {D : va_G} {K : Nat → ClassId} {A : Nat → Prop} {Q : State → Prop} (C0 : cx_ p s m args c cX3_hitsOf 5 RX3 wsX3_hitsOf D K A) {g_t : Nat → Nat} {g_p1 : Nat → Nat} {t_shownCount : Int32} {t_loud : Nat → Int32} {p1_gapCount : Int32} {p1_targetCount : Int32} {p1_lookCount : Int32} {p1_time : Int32} {p1_gone : Int32} {p1_gaps : Nat → Int32} {p1_settings : Nat → Int32} {res : Int32} (HR : ∀ (pc : Nat) (H : Heap) (locs : List Loc) (ls : Array Slot), decode cX3_hitsOf pc = .ok (.ireturn, 1) → va_P D vwCl (w_X3_hitsOf K g_t g_p1 t_shownCount t_loud p1_gapCount p1_targetCount p1_lookCount p1_time p1_gone p1_gaps p1_settings) H → va_D A (w_X3_hitsOf K g_t g_p1 t_shownCount t_loud p1_gapCount p1_targetCount p1_lookCount p1_time p1_gone p1_gaps p1_settings) → va_S A s.heap H locs → W p l e rmX3_hitsOf s m args below meth c H locs 0 0 Q (F0 m pc ls [.int res]))  :
    ∀ (n_ : Nat) (x2 : Int32) (x3 : Int32) (x4 : Int32) (H : Heap) (locs : List Loc) (ls : Array Slot), va_P D vwCl (w_X3_hitsOf K g_t g_p1 t_shownCount t_loud p1_gapCount p1_targetCount p1_lookCount p1_time p1_gone p1_gaps p1_settings) H → va_D A (w_X3_hitsOf K g_t g_p1 t_shownCount t_loud p1_gapCount p1_targetCount p1_lookCount p1_time p1_gone p1_gaps p1_settings) → va_S A s.heap H locs → lv_has ls 5 [(0, .ref (g_t 0)), (1, .ref (g_p1 0)), (2, .int x2), (3, .int x3), (4, .int x4)] → L_X3_hitsOf_5 t_loud p1_gapCount p1_gaps p1_settings n_ x2 x3 x4 = some res → W p l e rmX3_hitsOf s m args below meth c H locs 0 0 Q (F0 m 5 ls []) := by
  obtain ⟨⟨hx, hb, hml, hown, hts⟩, hK, -⟩ := id C0
  intro n_
  induction n_ with
  | zero =>
    intro x2 x3 x4 H locs ls hP hD hS hl hF
    exact no_s (show (none : Option (Int32)) = some res from hF)
  | succ n_ ih =>
    intro x2 x3 x4 H locs ls hP hD hS hl hF
    rw [L_X3_hitsOf_5] at hF
    refine lv_iload hx hb dX3_hitsOf_5 (lv_at hl 4 rfl) ?_
    refine lv_aload_n hx hb dX3_hitsOf_7 rfl (lv_at hl 1 rfl) ?_
    refine va_get (D := D) (ci := 5) (v := .int p1_gapCount) (C := RX5) (T := TX5) (N := 13) hx hb hts iw_X3_hitsOf_X5 hown hK hP 2 rfl rfl 8 (by decide) (hts _ fl_X3_hitsOf_27) (fun _ h9 => h9) rfl dX3_hitsOf_8 ?_
    refine lv_icmp_ge (tgt := 48) hx hb dX3_hitsOf_11 (by decide) (fun c_1 => ?_) (fun c_1 => ?_)
    · have hF := it_pos c_1 hF
      refine lv_iload_n hx hb dX3_hitsOf_48 rfl (lv_at hl 3 rfl) ?_
      obtain rfl := Option.some.inj hF
      exact HR 49 H locs ls dX3_hitsOf_49 hP hD hS
    · have hF := it_neg c_1 hF
      refine lv_aload_n hx hb dX3_hitsOf_14 rfl (lv_at hl 0 rfl) ?_
      refine lv_aload_n hx hb dX3_hitsOf_15 rfl (lv_at hl 1 rfl) ?_
      refine lv_iload hx hb dX3_hitsOf_16 (lv_at hl 4 rfl) ?_
      refine lv_iload_n hx hb dX3_hitsOf_18 rfl (lv_at hl 2 rfl) ?_
      refine lv_aload_n hx hb dX3_hitsOf_19 rfl (lv_at hl 1 rfl) ?_
      refine va_get (D := D) (ci := 5) (v := .ref (g_p1 1)) (C := RX5) (T := TX5) (N := 13) hx hb hts iw_X3_hitsOf_X5 hown hK hP 2 rfl rfl 0 (by decide) (hts _ fl_X3_hitsOf_33) (fun _ h9 => h9) rfl dX3_hitsOf_20 ?_
      refine lv_iload hx hb dX3_hitsOf_23 (lv_at hl 4 rfl) ?_
      obtain ⟨hg_2, hF⟩ := gd_some hF
      refine xl_i (f := p1_gaps) hx hb hK hP 3 0 rfl rfl rfl (in_v hg_2) dX3_hitsOf_25 ?_
      obtain ⟨r_3, hc_4, hF⟩ := bn_some hF
      refine xc_i (wn := (w_X3_hitsOf K g_t g_p1 t_shownCount t_loud p1_gapCount p1_targetCount p1_lookCount p1_time p1_gone p1_gaps p1_settings)) hP hD hS C0.2.2.1 [] [0, 1, 2, 3, 4] [0, 1, 2, 3, 4] rfl rfl (by decide) (by decide) rfl (by decide) (va_runSN (host := "StaggerRadar") (As := [.int x2, .int (p1_gaps (x4).toNatClampNeg)]) (rest := [.int x4, .ref (g_p1 0), .ref (g_t 0)]) C0.1 (c_X10_rest l D K x2 (p1_gaps (x4).toNatClampNeg) r_3 hc_4 H.size) ⟨va_cnB 2 hts gX3_hitsOf_X10_rest_n59 rfl rfl rfl (C0.2.2.2.1.1 ("StaggerRadar$Echoes", 59, ⟨"StaggerRadar", "rest", "(II)I"⟩, "StaggerRadar") (by decide +kernel)) (hts (.initialized RX10) (by decide +kernel)) (by decide +kernel) ⟨Nat.le_of_ble_eq_true rfl, Nat.le_of_ble_eq_true rfl⟩, hts (.static yX10_rest) (by decide +kernel), trivial⟩ (xp_S C0.2 hP hD hS [] rfl (by decide)) rfl rfl hl.1 rfl (lv_room (Nat.le_of_ble_eq_true rfl)) dX3_hitsOf_26 ⟨Nat.le_of_ble_eq_true rfl, Nat.le_of_ble_eq_true rfl⟩) (fun H locs hP hD hS => ?_)
      obtain ⟨r_5, hc_6, hF⟩ := bn_some hF
      refine xc_i (wn := (w_X3_hitsOf K g_t g_p1 t_shownCount t_loud p1_gapCount p1_targetCount p1_lookCount p1_time p1_gone p1_gaps p1_settings)) hP hD hS C0.2.2.1 [0, 1, 2, 4] [3] [1, 2, 3, 0, 4] rfl rfl (by decide) (by decide) rfl (by decide) (va_runV (As := [.ref (g_p1 0), .int x4, .int r_3]) (rest := []) C0.1 (c_X3_isEcho l D K g_t g_p1 t_shownCount t_loud p1_gapCount p1_targetCount p1_lookCount p1_time p1_gone p1_settings x4 r_3 r_5 hc_6 H.size) (cwV 3 hts gX3_hitsOf_X3_isEcho rfl rfl rfl (by decide +kernel) ⟨Nat.le_of_ble_eq_true rfl, Nat.le_of_ble_eq_true rfl⟩) (xp_V C0.2 hP hD hS [0, 1, 2, 4] rfl (by decide) 3 0 rfl rfl rfl) rfl rfl hl.1 rfl (lv_room (Nat.le_of_ble_eq_true rfl)) dX3_hitsOf_29 ⟨Nat.le_of_ble_eq_true rfl, Nat.le_of_ble_eq_true rfl⟩) (fun H locs hP hD hS => ?_)
      refine lv_if_eq (tgt := 42) hx hb dX3_hitsOf_32 (by decide) (fun c_7 => ?_) (fun c_7 => ?_)
      · have hF := it_pos c_7 hF
        refine lv_iinc (v := (x4 + (1 : Int32))) (lv' := [(4, .int (x4 + (1 : Int32))), (0, .ref (g_t 0)), (1, .ref (g_p1 0)), (2, .int x2), (3, .int x3)]) hx hb dX3_hitsOf_42 hl (k := 4) rfl (congrArg (fun z => x4 + z) (by decide)) (by decide) rfl (fun ls hl => ?_)
        refine lv_goto (tgt := 5) hx hb dX3_hitsOf_45 (by decide) ?_
        exact ih x2 x3 (x4 + (1 : Int32)) H locs ls hP hD hS (lv_sub hl [1, 2, 3, 4, 0] rfl) hF
      · have hF := it_neg c_7 hF
        refine lv_iload_n hx hb dX3_hitsOf_35 rfl (lv_at hl 3 rfl) ?_
        refine lv_iconst (v := 1) hx hb dX3_hitsOf_36 (by decide) ?_
        refine lv_iload hx hb dX3_hitsOf_37 (lv_at hl 4 rfl) ?_
        refine lv_ishl hx hb dX3_hitsOf_39 ?_
        refine lv_ior hx hb dX3_hitsOf_40 ?_
        refine lv_istore_n (lv' := [(3, .int (x3 ||| ((1 : Int32) <<< (x4 &&& 31)))), (0, .ref (g_t 0)), (1, .ref (g_p1 0)), (2, .int x2), (4, .int x4)]) hx hb dX3_hitsOf_41 rfl hl (by decide) rfl (fun ls hl => ?_)
        refine lv_iinc (v := (x4 + (1 : Int32))) (lv' := [(4, .int (x4 + (1 : Int32))), (3, .int (x3 ||| ((1 : Int32) <<< (x4 &&& 31)))), (0, .ref (g_t 0)), (1, .ref (g_p1 0)), (2, .int x2)]) hx hb dX3_hitsOf_42 hl (k := 4) rfl (congrArg (fun z => x4 + z) (by decide)) (by decide) rfl (fun ls hl => ?_)
        refine lv_goto (tgt := 5) hx hb dX3_hitsOf_45 (by decide) ?_
        exact ih x2 (x3 ||| ((1 : Int32) <<< (x4 &&& 31))) (x4 + (1 : Int32)) H locs ls hP hD hS (lv_sub hl [2, 3, 4, 1, 0] rfl) hF
def F_X3_hitsOf (t_loud : Nat → Int32) (p1_gapCount : Int32) (p1_gaps : Nat → Int32) (p1_settings : Nat → Int32) (x2 : Int32) : Option (Int32) :=
  L_X3_hitsOf_5 t_loud p1_gapCount p1_gaps p1_settings fu_ x2 (0 : Int32) (0 : Int32)
set_option maxHeartbeats 4000000 in
set_option maxRecDepth 100000 in
theorem c_X3_hitsOf (l : Launch) (D : va_G) (K : Nat → ClassId) (g_t : Nat → Nat) (g_p1 : Nat → Nat) (t_shownCount : Int32) (t_loud : Nat → Int32) (p1_gapCount : Int32) (p1_targetCount : Int32) (p1_lookCount : Int32) (p1_time : Int32) (p1_gone : Int32) (p1_gaps : Nat → Int32) (p1_settings : Nat → Int32) (x2 : Int32) (res : Int32) (hF : F_X3_hitsOf t_loud p1_gapCount p1_gaps p1_settings x2 = some res) :
    Mi_ l yX3_hitsOf wsX3_hitsOf rmX3_hitsOf D K [.ref (g_t 0), .ref (g_p1 0), .int x2] (w_X3_hitsOf K g_t g_p1 t_shownCount t_loud p1_gapCount p1_targetCount p1_lookCount p1_time p1_gone p1_gaps p1_settings) (w_X3_hitsOf K g_t g_p1 t_shownCount t_loud p1_gapCount p1_targetCount p1_lookCount p1_time p1_gone p1_gaps p1_settings) (res) := by
  refine en_i (cc := cX3_hitsOf) (maxL := 5) (own := RX3) (by decide) rfl rfl (Nat.le_of_ble_eq_true rfl) ?_
  intro p e s m args below meth c A Q H locs ls C0 hP hD hS hl HR
  obtain ⟨⟨hx, hb, hml, hown, hts⟩, hK, -⟩ := id C0
  have hl : lv_has ls 5 [(0, .ref (g_t 0)), (1, .ref (g_p1 0)), (2, .int x2)] := hl
  unfold F_X3_hitsOf at hF
  refine lv_iconst (v := 0) hx hb dX3_hitsOf_0 (by decide) ?_
  refine lv_istore_n (lv' := [(3, .int (0 : Int32)), (0, .ref (g_t 0)), (1, .ref (g_p1 0)), (2, .int x2)]) hx hb dX3_hitsOf_1 rfl hl (by decide) rfl (fun ls hl => ?_)
  refine lv_iconst (v := 0) hx hb dX3_hitsOf_2 (by decide) ?_
  refine lv_istore (lv' := [(4, .int (0 : Int32)), (3, .int (0 : Int32)), (0, .ref (g_t 0)), (1, .ref (g_p1 0)), (2, .int x2)]) hx hb dX3_hitsOf_3 hl (by decide) rfl (fun ls hl => ?_)
  exact w_X3_hitsOf_5 C0 HR fu_ x2 (0 : Int32) (0 : Int32) H locs ls hP hD hS (lv_sub hl [2, 3, 4, 1, 0] rfl) hF
