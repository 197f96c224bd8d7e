/-! StaggerRadar.Reader.isBlank(I)Z -/
abbrev rmX6_isBlank : Room := { frames := 0, cells := 0, slots := 0, locals := 0 }
abbrev w_X6_isBlank (K : Nat → ClassId) : va_W := []
def F_X6_isBlank (x0 : Int32) : Option (Int32) :=
  if x0 = (32 : Int32) then (some (1 : Int32)) else (if x0 = (10 : Int32) then (some (1 : Int32)) else (some (0 : Int32)))
set_option maxHeartbeats 4000000 in
set_option maxRecDepth 100000 in
theorem c_X6_isBlank (l : Launch) (D : va_G) (K : Nat → ClassId) (x0 : Int32) (res : Int32) (hF : F_X6_isBlank x0 = some res) :
    Mi_ l yX6_isBlank wsX6_isBlank rmX6_isBlank D K [.int x0] (w_X6_isBlank K) (w_X6_isBlank K) (res) := by
  refine en_z (cc := cX6_isBlank) (maxL := 1) (own := RX6) (by decide) rfl rfl (Nat.le_of_ble_eq_true rfl) ?_
  intro p e s m args below meth c A Q H locs ls C0 hP hD hS hl HR
  obtain ⟨⟨hx, hb, hml, hown, hts⟩, hK, -⟩ := id C0
  have hl : lv_has ls 1 [(0, .int x0)] := hl
  unfold F_X6_isBlank at hF
  refine lv_iload_n hx hb dX6_isBlank_0 rfl (lv_at hl 0 rfl) ?_
  refine lv_bipush (v := 32) hx hb dX6_isBlank_1 (by decide) ?_
  refine lv_icmp_eq (tgt := 12) hx hb dX6_isBlank_3 (by decide) (fun c_1 => ?_) (fun c_1 => ?_)
  · have hF := it_pos c_1 hF
    refine lv_iconst (v := 1) hx hb dX6_isBlank_12 (by decide) ?_
    refine lv_goto (tgt := 17) hx hb dX6_isBlank_13 (by decide) ?_
    obtain rfl := Option.some.inj hF
    exact HR 17 H locs ls dX6_isBlank_17 narrow_b1 hP hD hS
  · have hF := it_neg c_1 hF
    refine lv_iload_n hx hb dX6_isBlank_6 rfl (lv_at hl 0 rfl) ?_
    refine lv_bipush (v := 10) hx hb dX6_isBlank_7 (by decide) ?_
    refine lv_icmp_ne (tgt := 16) hx hb dX6_isBlank_9 (by decide) (fun c_2 => ?_) (fun c_2 => ?_)
    · have hF := it_neg c_2 hF
      refine lv_iconst (v := 0) hx hb dX6_isBlank_16 (by decide) ?_
      obtain rfl := Option.some.inj hF
      exact HR 17 H locs ls dX6_isBlank_17 narrow_b0 hP hD hS
    · have hF := it_pos c_2 hF
      refine lv_iconst (v := 1) hx hb dX6_isBlank_12 (by decide) ?_
      refine lv_goto (tgt := 17) hx hb dX6_isBlank_13 (by decide) ?_
      obtain rfl := Option.some.inj hF
      exact HR 17 H locs ls dX6_isBlank_17 narrow_b1 hP hD hS

/-! StaggerRadar.Reader.isLetter(I)Z -/
abbrev rmX6_isLetter : Room := { frames := 0, cells := 0, slots := 0, locals := 0 }
abbrev w_X6_isLetter (K : Nat → ClassId) : va_W := []
def F_X6_isLetter (x0 : Int32) : Option (Int32) :=
  if x0 < (97 : Int32) then (some (0 : Int32)) else (if (122 : Int32) < x0 then (some (0 : Int32)) else (some (1 : Int32)))
set_option maxHeartbeats 4000000 in
set_option maxRecDepth 100000 in
theorem c_X6_isLetter (l : Launch) (D : va_G) (K : Nat → ClassId) (x0 : Int32) (res : Int32) (hF : F_X6_isLetter x0 = some res) :
    Mi_ l yX6_isLetter wsX6_isLetter rmX6_isLetter D K [.int x0] (w_X6_isLetter K) (w_X6_isLetter K) (res) := by
  refine en_z (cc := cX6_isLetter) (maxL := 1) (own := RX6) (by decide) rfl rfl (Nat.le_of_ble_eq_true rfl) ?_
  intro p e s m args below meth c A Q H locs ls C0 hP hD hS hl HR
  obtain ⟨⟨hx, hb, hml, hown, hts⟩, hK, -⟩ := id C0
  have hl : lv_has ls 1 [(0, .int x0)] := hl
  unfold F_X6_isLetter at hF
  refine lv_iload_n hx hb dX6_isLetter_0 rfl (lv_at hl 0 rfl) ?_
  refine lv_bipush (v := 97) hx hb dX6_isLetter_1 (by decide) ?_
  refine lv_icmp_lt (tgt := 16) hx hb dX6_isLetter_3 (by decide) (fun c_1 => ?_) (fun c_1 => ?_)
  · have hF := it_pos c_1 hF
    refine lv_iconst (v := 0) hx hb dX6_isLetter_16 (by decide) ?_
    obtain rfl := Option.some.inj hF
    exact HR 17 H locs ls dX6_isLetter_17 narrow_b0 hP hD hS
  · have hF := it_neg c_1 hF
    refine lv_iload_n hx hb dX6_isLetter_6 rfl (lv_at hl 0 rfl) ?_
    refine lv_bipush (v := 122) hx hb dX6_isLetter_7 (by decide) ?_
    refine lv_icmp_gt (tgt := 16) hx hb dX6_isLetter_9 (by decide) (fun c_2 => ?_) (fun c_2 => ?_)
    · have hF := it_pos c_2 hF
      refine lv_iconst (v := 0) hx hb dX6_isLetter_16 (by decide) ?_
      obtain rfl := Option.some.inj hF
      exact HR 17 H locs ls dX6_isLetter_17 narrow_b0 hP hD hS
    · have hF := it_neg c_2 hF
      refine lv_iconst (v := 1) hx hb dX6_isLetter_12 (by decide) ?_
      refine lv_goto (tgt := 17) hx hb dX6_isLetter_13 (by decide) ?_
      obtain rfl := Option.some.inj hF
      exact HR 17 H locs ls dX6_isLetter_17 narrow_b1 hP hD hS

/-! StaggerRadar.Reader.isDigit(I)Z -/
abbrev rmX6_isDigit : Room := { frames := 0, cells := 0, slots := 0, locals := 0 }
abbrev w_X6_isDigit (K : Nat → ClassId) : va_W := []
def F_X6_isDigit (x0 : Int32) : Option (Int32) :=
  if x0 < (48 : Int32) then (some (0 : Int32)) else (if (57 : Int32) < x0 then (some (0 : Int32)) else (some (1 : Int32)))
set_option maxHeartbeats 4000000 in
set_option maxRecDepth 100000 in
theorem c_X6_isDigit (l : Launch) (D : va_G) (K : Nat → ClassId) (x0 : Int32) (res : Int32) (hF : F_X6_isDigit x0 = some res) :
    Mi_ l yX6_isDigit wsX6_isDigit rmX6_isDigit D K [.int x0] (w_X6_isDigit K) (w_X6_isDigit K) (res) := by
  refine en_z (cc := cX6_isDigit) (maxL := 1) (own := RX6) (by decide) rfl rfl (Nat.le_of_ble_eq_true rfl) ?_
  intro p e s m args below meth c A Q H locs ls C0 hP hD hS hl HR
  obtain ⟨⟨hx, hb, hml, hown, hts⟩, hK, -⟩ := id C0
  have hl : lv_has ls 1 [(0, .int x0)] := hl
  unfold F_X6_isDigit at hF
  refine lv_iload_n hx hb dX6_isDigit_0 rfl (lv_at hl 0 rfl) ?_
  refine lv_bipush (v := 48) hx hb dX6_isDigit_1 (by decide) ?_
  refine lv_icmp_lt (tgt := 16) hx hb dX6_isDigit_3 (by decide) (fun c_1 => ?_) (fun c_1 => ?_)
  · have hF := it_pos c_1 hF
    refine lv_iconst (v := 0) hx hb dX6_isDigit_16 (by decide) ?_
    obtain rfl := Option.some.inj hF
    exact HR 17 H locs ls dX6_isDigit_17 narrow_b0 hP hD hS
  · have hF := it_neg c_1 hF
    refine lv_iload_n hx hb dX6_isDigit_6 rfl (lv_at hl 0 rfl) ?_
    refine lv_bipush (v := 57) hx hb dX6_isDigit_7 (by decide) ?_
    refine lv_icmp_gt (tgt := 16) hx hb dX6_isDigit_9 (by decide) (fun c_2 => ?_) (fun c_2 => ?_)
    · have hF := it_pos c_2 hF
      refine lv_iconst (v := 0) hx hb dX6_isDigit_16 (by decide) ?_
      obtain rfl := Option.some.inj hF
      exact HR 17 H locs ls dX6_isDigit_17 narrow_b0 hP hD hS
    · have hF := it_neg c_2 hF
      refine lv_iconst (v := 1) hx hb dX6_isDigit_12 (by decide) ?_
      refine lv_goto (tgt := 17) hx hb dX6_isDigit_13 (by decide) ?_
      obtain rfl := Option.some.inj hF
      exact HR 17 H locs ls dX6_isDigit_17 narrow_b1 hP hD hS

/-! StaggerRadar.Reader.stepOverDigits(LStaggerRadar$Text;)V -/
abbrev rmX6_stepOverDigits : Room := { frames := 1, cells := 0, slots := 0, locals := 20 }
theorem fl_X6_stepOverDigits_22 : Cond.fieldLink RX6 22 "StaggerRadar$Reader" "next" "I" ∈ wsX6_stepOverDigits := by decide +kernel
theorem fl_X6_stepOverDigits_34 : Cond.fieldLink RX6 34 "StaggerRadar$Reader" "kind" "I" ∈ wsX6_stepOverDigits := by decide +kernel
theorem fl_X6_stepOverDigits_60 : Cond.fieldLink RX6 60 "StaggerRadar$Reader" "value" "I" ∈ wsX6_stepOverDigits := by decide +kernel
theorem fl_X6_stepOverDigits_67 : Cond.fieldLink RX6 67 "StaggerRadar$Reader" "start" "I" ∈ wsX6_stepOverDigits := by decide +kernel
theorem fl_X6_stepOverDigits_108 : Cond.fieldLink RX6 108 "StaggerRadar$Text" "size" "I" ∈ wsX6_stepOverDigits := by decide +kernel
theorem fl_X6_stepOverDigits_113 : Cond.fieldLink RX6 113 "StaggerRadar$Text" "bytes" "[I" ∈ wsX6_stepOverDigits := by decide +kernel
theorem iw_X6_stepOverDigits_X6 : ∀ w ∈ u_ws RX6 TX6 7, w ∈ wsX6_stepOverDigits := by decide +kernel
theorem iw_X6_stepOverDigits_X8 : ∀ w ∈ u_ws RX8 TX8 4, w ∈ wsX6_stepOverDigits := by decide +kernel
abbrev w_X6_stepOverDigits (K : Nat → ClassId) (g_t : Nat → Nat) (g_p1 : Nat → Nat) (t_next : Int32) (t_kind : Int32) (t_start : Int32) (t_value : Int32) (t_faultKind : Int32) (t_faultPlace : Int32) (p1_size : Int32) (p1_faultKind : Int32) (p1_faultPlace : Int32) (p1_bytes : Nat → Int32) : va_W := [((g_t 0), .inr (6, [.ref (g_t 1), .int t_next, .int t_kind, .int t_start, .int t_value, .int t_faultKind, .int t_faultPlace])), ((g_p1 0), .inr (7, [.ref (g_p1 1), .int p1_size, .int p1_faultKind, .int p1_faultPlace])), ((g_p1 1), .inl (K 0, 400, .inl p1_bytes))]
def J_X6_stepOverDigits_100 (t_start : Int32) (p1_size : Int32) (p1_bytes : Nat → Int32) (t_next : Int32) (t_kind : Int32) (t_value : Int32) (s1 : Int32) : Option (Int32 × Int32 × Int32) :=
  some (t_next, s1, t_value)
set_option maxHeartbeats 4000000 in
set_option maxRecDepth 100000 in
theorem w_X6_stepOverDigits_100 {p : Program} {l : Launch} {e : Env} {s : State} {m : MethodId} {args : Array Value} {below : List Frame} {meth : Method} {c : Code} {D : va_G} {K : Nat → ClassId} {A : Nat → Prop} {Q : State → Prop} (C0 : cx_ p s m args c cX6_stepOverDigits 2 RX6 wsX6_stepOverDigits D K A) {g_t : Nat → Nat} {g_p1 : Nat → Nat} {t_start : Int32} {t_faultKind : Int32} {t_faultPlace : Int32} {p1_size : Int32} {p1_faultKind : Int32} {p1_faultPlace : Int32} {p1_bytes : Nat → Int32} {res : Int32 × Int32 × Int32} (HR : ∀ (pc : Nat) (H : Heap) (locs : List Loc) (ls : Array Slot), decode cX6_stepOverDigits pc = .ok (.return_, 1) → va_P D vwCl (w_X6_stepOverDigits K g_t g_p1 res.1 res.2.1 t_start res.2.2 t_faultKind t_faultPlace p1_size p1_faultKind p1_faultPlace p1_bytes) H → va_D A (w_X6_stepOverDigits K g_t g_p1 res.1 res.2.1 t_start res.2.2 t_faultKind t_faultPlace p1_size p1_faultKind p1_faultPlace p1_bytes) → va_S A s.heap H locs → W p l e rmX6_stepOverDigits s m args below meth c H locs 0 0 Q (F0 m pc ls []))  :
    ∀ (t_next : Int32) (t_kind : Int32) (t_value : Int32) (s1 : Int32) (H : Heap) (locs : List Loc) (ls : Array Slot), va_P D vwCl (w_X6_stepOverDigits K g_t g_p1 t_next t_kind t_start t_value t_faultKind t_faultPlace p1_size p1_faultKind p1_faultPlace p1_bytes) H → va_D A (w_X6_stepOverDigits K g_t g_p1 t_next t_kind t_start t_value t_faultKind t_faultPlace p1_size p1_faultKind p1_faultPlace p1_bytes) → va_S A s.heap H locs → lv_has ls 2 [] → J_X6_stepOverDigits_100 t_start p1_size p1_bytes t_next t_kind t_value s1 = some res → W p l e rmX6_stepOverDigits s m args below meth c H locs 0 0 Q (F0 m 100 ls [.int s1, .ref (g_t 0)]) := by
  obtain ⟨⟨hx, hb, hml, hown, hts⟩, hK, -⟩ := id C0
  intro t_next t_kind t_value s1 H locs ls hP hD hS hl hF
  unfold J_X6_stepOverDigits_100 at hF
  refine va_put (D := D) (ci := 6) (v := .int s1) (ty := .int) (C := RX6) (T := TX6) (N := 7) hx hb hts iw_X6_stepOverDigits_X6 tyX6 tyX6_ok nmX6 hown hK hP hD hS 0 rfl rfl 2 (by decide) (hts _ fl_X6_stepOverDigits_34) (fun _ h9 => h9) rfl (by decide +kernel) rfl rfl (Nat.le_of_ble_eq_true rfl) dX6_stepOverDigits_100 (fun H locs hP hD hS => ?_)
  have hP : va_P D vwCl (w_X6_stepOverDigits K g_t g_p1 t_next s1 t_start t_value t_faultKind t_faultPlace p1_size p1_faultKind p1_faultPlace p1_bytes) H := hP
  have hD : va_D A (w_X6_stepOverDigits K g_t g_p1 t_next s1 t_start t_value t_faultKind t_faultPlace p1_size p1_faultKind p1_faultPlace p1_bytes) := hD
  obtain rfl := Option.some.inj hF
  exact HR 103 H locs ls dX6_stepOverDigits_103 hP hD hS
def J_X6_stepOverDigits_81 (t_start : Int32) (p1_size : Int32) (p1_bytes : Nat → Int32) (t_next : Int32) (t_kind : Int32) (t_value : Int32) : Option (Int32 × Int32 × Int32) :=
  if (4 : Int32) < (t_next - t_start) then (J_X6_stepOverDigits_100 t_start p1_size p1_bytes t_next t_kind t_value (4 : Int32)) else (J_X6_stepOverDigits_100 t_start p1_size p1_bytes t_next t_kind t_value (2 : Int32))
set_option maxHeartbeats 4000000 in
set_option maxRecDepth 100000 in
theorem w_X6_stepOverDigits_81 {p : Program} {l : Launch} {e : Env} {s : State} {m : MethodId} {args : Array Value} {below : List Frame} {meth : Method} {c : Code} {D : va_G} {K : Nat → ClassId} {A : Nat → Prop} {Q : State → Prop} (C0 : cx_ p s m args c cX6_stepOverDigits 2 RX6 wsX6_stepOverDigits D K A) {g_t : Nat → Nat} {g_p1 : Nat → Nat} {t_start : Int32} {t_faultKind : Int32} {t_faultPlace : Int32} {p1_size : Int32} {p1_faultKind : Int32} {p1_faultPlace : Int32} {p1_bytes : Nat → Int32} {res : Int32 × Int32 × Int32} (HR : ∀ (pc : Nat) (H : Heap) (locs : List Loc) (ls : Array Slot), decode cX6_stepOverDigits pc = .ok (.return_, 1) → va_P D vwCl (w_X6_stepOverDigits K g_t g_p1 res.1 res.2.1 t_start res.2.2 t_faultKind t_faultPlace p1_size p1_faultKind p1_faultPlace p1_bytes) H → va_D A (w_X6_stepOverDigits K g_t g_p1 res.1 res.2.1 t_start res.2.2 t_faultKind t_faultPlace p1_size p1_faultKind p1_faultPlace p1_bytes) → va_S A s.heap H locs → W p l e rmX6_stepOverDigits s m args below meth c H locs 0 0 Q (F0 m pc ls []))  :
    ∀ (t_next : Int32) (t_kind : Int32) (t_value : Int32) (H : Heap) (locs : List Loc) (ls : Array Slot), va_P D vwCl (w_X6_stepOverDigits K g_t g_p1 t_next t_kind t_start t_value t_faultKind t_faultPlace p1_size p1_faultKind p1_faultPlace p1_bytes) H → va_D A (w_X6_stepOverDigits K g_t g_p1 t_next t_kind t_start t_value t_faultKind t_faultPlace p1_size p1_faultKind p1_faultPlace p1_bytes) → va_S A s.heap H locs → lv_has ls 2 [(0, .ref (g_t 0))] → J_X6_stepOverDigits_81 t_start p1_size p1_bytes t_next t_kind t_value = some res → W p l e rmX6_stepOverDigits s m args below meth c H locs 0 0 Q (F0 m 81 ls []) := by
  obtain ⟨⟨hx, hb, hml, hown, hts⟩, hK, -⟩ := id C0
  intro t_next t_kind t_value H locs ls hP hD hS hl hF
  unfold J_X6_stepOverDigits_81 at hF
  refine lv_aload_n hx hb dX6_stepOverDigits_81 rfl (lv_at hl 0 rfl) ?_
  refine lv_aload_n hx hb dX6_stepOverDigits_82 rfl (lv_at hl 0 rfl) ?_
  refine va_get (D := D) (ci := 6) (v := .int t_next) (C := RX6) (T := TX6) (N := 7) hx hb hts iw_X6_stepOverDigits_X6 hown hK hP 0 rfl rfl 1 (by decide) (hts _ fl_X6_stepOverDigits_22) (fun _ h9 => h9) rfl dX6_stepOverDigits_83 ?_
  refine lv_aload_n hx hb dX6_stepOverDigits_86 rfl (lv_at hl 0 rfl) ?_
  refine va_get (D := D) (ci := 6) (v := .int t_start) (C := RX6) (T := TX6) (N := 7) hx hb hts iw_X6_stepOverDigits_X6 hown hK hP 0 rfl rfl 3 (by decide) (hts _ fl_X6_stepOverDigits_67) (fun _ h9 => h9) rfl dX6_stepOverDigits_87 ?_
  refine lv_isub hx hb dX6_stepOverDigits_90 ?_
  refine lv_iconst (v := 4) hx hb dX6_stepOverDigits_91 (by decide) ?_
  refine lv_icmp_gt (tgt := 99) hx hb dX6_stepOverDigits_92 (by decide) (fun c_1 => ?_) (fun c_1 => ?_)
  · have hF := it_pos c_1 hF
    refine lv_iconst (v := 4) hx hb dX6_stepOverDigits_99 (by decide) ?_
    exact w_X6_stepOverDigits_100 C0 HR t_next t_kind t_value (4 : Int32) H locs ls hP hD hS (lv_sub hl [] rfl) hF
  · have hF := it_neg c_1 hF
    refine lv_iconst (v := 2) hx hb dX6_stepOverDigits_95 (by decide) ?_
    refine lv_goto (tgt := 100) hx hb dX6_stepOverDigits_96 (by decide) ?_
    exact w_X6_stepOverDigits_100 C0 HR t_next t_kind t_value (2 : Int32) H locs ls hP hD hS (lv_sub hl [] rfl) hF
def J_X6_stepOverDigits_68 (t_start : Int32) (p1_size : Int32) (p1_bytes : Nat → Int32) (k_5 : Int32 → Int32 → Int32 → Option (Int32 × Int32 × Int32)) (t_next : Int32) (t_kind : Int32) (t_value : Int32) : Option (Int32 × Int32 × Int32) :=
  k_5 (t_next + (1 : Int32)) t_kind t_value
set_option maxHeartbeats 4000000 in
set_option maxRecDepth 100000 in
theorem w_X6_stepOverDigits_68 {p : Program} {l : Launch} {e : Env} {s : State} {m : MethodId} {args : Array Value} {below : List Frame} {meth : Method} {c : Code} {D : va_G} {K : Nat → ClassId} {A : Nat → Prop} {Q : State → Prop} (C0 : cx_ p s m args c cX6_stepOverDigits 2 RX6 wsX6_stepOverDigits D K A) {g_t : Nat → Nat} {g_p1 : Nat → Nat} {t_start : Int32} {t_faultKind : Int32} {t_faultPlace : Int32} {p1_size : Int32} {p1_faultKind : Int32} {p1_faultPlace : Int32} {p1_bytes : Nat → Int32} {res : Int32 × Int32 × Int32} (HR : ∀ (pc : Nat) (H : Heap) (locs : List Loc) (ls : Array Slot), decode cX6_stepOverDigits pc = .ok (.return_, 1) → va_P D vwCl (w_X6_stepOverDigits K g_t g_p1 res.1 res.2.1 t_start res.2.2 t_faultKind t_faultPlace p1_size p1_faultKind p1_faultPlace p1_bytes) H → va_D A (w_X6_stepOverDigits K g_t g_p1 res.1 res.2.1 t_start res.2.2 t_faultKind t_faultPlace p1_size p1_faultKind p1_faultPlace p1_bytes) → va_S A s.heap H locs → W p l e rmX6_stepOverDigits s m args below meth c H locs 0 0 Q (F0 m pc ls [])) {k_5 : Int32 → Int32 → Int32 → Option (Int32 × Int32 × Int32)} (HK_5 : ∀ (t_next : Int32) (t_kind : Int32) (t_value : Int32) (H : Heap) (locs : List Loc) (ls : Array Slot), va_P D vwCl (w_X6_stepOverDigits K g_t g_p1 t_next t_kind t_start t_value t_faultKind t_faultPlace p1_size p1_faultKind p1_faultPlace p1_bytes) H → va_D A (w_X6_stepOverDigits K g_t g_p1 t_next t_kind t_start t_value t_faultKind t_faultPlace p1_size p1_faultKind p1_faultPlace p1_bytes) → va_S A s.heap H locs → lv_has ls 2 [(0, .ref (g_t 0)), (1, .ref (g_p1 0))] → k_5 t_next t_kind t_value = some res → W p l e rmX6_stepOverDigits s m args below meth c H locs 0 0 Q (F0 m 5 ls [])) :
    ∀ (t_next : Int32) (t_kind : Int32) (t_value : Int32) (H : Heap) (locs : List Loc) (ls : Array Slot), va_P D vwCl (w_X6_stepOverDigits K g_t g_p1 t_next t_kind t_start t_value t_faultKind t_faultPlace p1_size p1_faultKind p1_faultPlace p1_bytes) H → va_D A (w_X6_stepOverDigits K g_t g_p1 t_next t_kind t_start t_value t_faultKind t_faultPlace p1_size p1_faultKind p1_faultPlace p1_bytes) → va_S A s.heap H locs → lv_has ls 2 [(0, .ref (g_t 0)), (1, .ref (g_p1 0))] → J_X6_stepOverDigits_68 t_start p1_size p1_bytes k_5 t_next t_kind t_value = some res → W p l e rmX6_stepOverDigits s m args below meth c H locs 0 0 Q (F0 m 68 ls []) := by
  obtain ⟨⟨hx, hb, hml, hown, hts⟩, hK, -⟩ := id C0
  intro t_next t_kind t_value H locs ls hP hD hS hl hF
  unfold J_X6_stepOverDigits_68 at hF
  refine lv_aload_n hx hb dX6_stepOverDigits_68 rfl (lv_at hl 0 rfl) ?_
  refine lv_dup hx hb dX6_stepOverDigits_69 rfl ?_
  refine va_get (D := D) (ci := 6) (v := .int t_next) (C := RX6) (T := TX6) (N := 7) hx hb hts iw_X6_stepOverDigits_X6 hown hK hP 0 rfl rfl 1 (by decide) (hts _ fl_X6_stepOverDigits_22) (fun _ h9 => h9) rfl dX6_stepOverDigits_70 ?_
  refine lv_iconst (v := 1) hx hb dX6_stepOverDigits_73 (by decide) ?_
  refine lv_iadd hx hb dX6_stepOverDigits_74 ?_
  refine va_put (D := D) (ci := 6) (v := .int (t_next + (1 : Int32))) (ty := .int) (C := RX6) (T := TX6) (N := 7) hx hb hts iw_X6_stepOverDigits_X6 tyX6 tyX6_ok nmX6 hown hK hP hD hS 0 rfl rfl 1 (by decide) (hts _ fl_X6_stepOverDigits_22) (fun _ h9 => h9) rfl (by decide +kernel) rfl rfl (Nat.le_of_ble_eq_true rfl) dX6_stepOverDigits_75 (fun H locs hP hD hS => ?_)
  have hP : va_P D vwCl (w_X6_stepOverDigits K g_t g_p1 (t_next + (1 : Int32)) t_kind t_start t_value t_faultKind t_faultPlace p1_size p1_faultKind p1_faultPlace p1_bytes) H := hP
  have hD : va_D A (w_X6_stepOverDigits K g_t g_p1 (t_next + (1 : Int32)) t_kind t_start t_value t_faultKind t_faultPlace p1_size p1_faultKind p1_faultPlace p1_bytes) := hD
  refine lv_goto (tgt := 5) hx hb dX6_stepOverDigits_78 (by decide) ?_
  exact HK_5 (t_next + (1 : Int32)) t_kind t_value H locs ls hP hD hS (lv_sub hl [0, 1] rfl) hF
def L_X6_stepOverDigits_5 (t_start : Int32) (p1_size : Int32) (p1_bytes : Nat → Int32) : Nat → Int32 → Int32 → Int32 → Option (Int32 × Int32 × Int32)
  | 0, _, _, _ => none
  | n_ + 1, t_next, t_kind, t_value =>
    if p1_size ≤ t_next then (J_X6_stepOverDigits_81 t_start p1_size p1_bytes t_next t_kind t_value) else (gd_ (in_b t_next 400) ((F_X6_isDigit (p1_bytes (t_next).toNatClampNeg)).bind fun r_3 => (if r_3 = (0 : Int32) then (J_X6_stepOverDigits_81 t_start p1_size p1_bytes t_next t_kind t_value) else (if (4 : Int32) ≤ (t_next - t_start) then (J_X6_stepOverDigits_68 t_start p1_size p1_bytes (L_X6_stepOverDigits_5 t_start p1_size p1_bytes n_) t_next t_kind t_value) else (gd_ (in_b t_next 400) (J_X6_stepOverDigits_68 t_start p1_size p1_bytes (L_X6_stepOverDigits_5 t_start p1_size p1_bytes n_) t_next t_kind (((t_value * (10 : Int32)) + (p1_bytes (t_next).toNatClampNeg)) - (48 : Int32))))))))
set_option maxHeartbeats 4000000 in
set_option maxRecDepth 100000 in
theorem w_X6_stepOverDigits_5 {p : Program} {l : Launch} {e : Env} {s : State} {m : MethodId} {args : Array Value} {below : List Frame} {meth : Method} {c : Code} {D : va_G} {K : Nat → ClassId} {A : Nat → Prop} {Q : State → Prop} (C0 : cx_ p s m args c cX6_stepOverDigits 2 RX6 wsX6_stepOverDigits D K A) {g_t : Nat → Nat} {g_p1 : Nat → Nat} {t_start : Int32} {t_faultKind : Int32} {t_faultPlace : Int32} {p1_size : Int32} {p1_faultKind : Int32} {p1_faultPlace : Int32} {p1_bytes : Nat → Int32} {res : Int32 × Int32 × Int32} (HR : ∀ (pc : Nat) (H : Heap) (locs : List Loc) (ls : Array Slot), decode cX6_stepOverDigits pc = .ok (.return_, 1) → va_P D vwCl (w_X6_stepOverDigits K g_t g_p1 res.1 res.2.1 t_start res.2.2 t_faultKind t_faultPlace p1_size p1_faultKind p1_faultPlace p1_bytes) H → va_D A (w_X6_stepOverDigits K g_t g_p1 res.1 res.2.1 t_start res.2.2 t_faultKind t_faultPlace p1_size p1_faultKind p1_faultPlace p1_bytes) → va_S A s.heap H locs → W p l e rmX6_stepOverDigits s m args below meth c H locs 0 0 Q (F0 m pc ls []))  :
    ∀ (n_ : Nat) (t_next : Int32) (t_kind : Int32) (t_value : Int32) (H : Heap) (locs : List Loc) (ls : Array Slot), va_P D vwCl (w_X6_stepOverDigits K g_t g_p1 t_next t_kind t_start t_value t_faultKind t_faultPlace p1_size p1_faultKind p1_faultPlace p1_bytes) H → va_D A (w_X6_stepOverDigits K g_t g_p1 t_next t_kind t_start t_value t_faultKind t_faultPlace p1_size p1_faultKind p1_faultPlace p1_bytes) → va_S A s.heap H locs → lv_has ls 2 [(0, .ref (g_t 0)), (1, .ref (g_p1 0))] → L_X6_stepOverDigits_5 t_start p1_size p1_bytes n_ t_next t_kind t_value = some res → W p l e rmX6_stepOverDigits s m args below meth c H locs 0 0 Q (F0 m 5 ls []) := by
  obtain ⟨⟨hx, hb, hml, hown, hts⟩, hK, -⟩ := id C0
  intro n_
  induction n_ with
  | zero =>
    intro t_next t_kind t_value H locs ls hP hD hS hl hF
    exact no_s (show (none : Option (Int32 × Int32 × Int32)) = some res from hF)
  | succ n_ ih =>
    intro t_next t_kind t_value H locs ls hP hD hS hl hF
    rw [L_X6_stepOverDigits_5] at hF
    refine lv_aload_n hx hb dX6_stepOverDigits_5 rfl (lv_at hl 0 rfl) ?_
    refine va_get (D := D) (ci := 6) (v := .int t_next) (C := RX6) (T := TX6) (N := 7) hx hb hts iw_X6_stepOverDigits_X6 hown hK hP 0 rfl rfl 1 (by decide) (hts _ fl_X6_stepOverDigits_22) (fun _ h9 => h9) rfl dX6_stepOverDigits_6 ?_
    refine lv_aload_n hx hb dX6_stepOverDigits_9 rfl (lv_at hl 1 rfl) ?_
    refine va_get (D := D) (ci := 7) (v := .int p1_size) (C := RX8) (T := TX8) (N := 4) hx hb hts iw_X6_stepOverDigits_X8 hown hK hP 1 rfl rfl 1 (by decide) (hts _ fl_X6_stepOverDigits_108) (fun _ h9 => h9) rfl dX6_stepOverDigits_10 ?_
    refine lv_icmp_ge (tgt := 81) hx hb dX6_stepOverDigits_13 (by decide) (fun c_1 => ?_) (fun c_1 => ?_)
    · have hF := it_pos c_1 hF
      exact w_X6_stepOverDigits_81 C0 HR t_next t_kind t_value H locs ls hP hD hS (lv_sub hl [0] rfl) hF
    · have hF := it_neg c_1 hF
      refine lv_aload_n hx hb dX6_stepOverDigits_16 rfl (lv_at hl 1 rfl) ?_
      refine va_get (D := D) (ci := 7) (v := .ref (g_p1 1)) (C := RX8) (T := TX8) (N := 4) hx hb hts iw_X6_stepOverDigits_X8 hown hK hP 1 rfl rfl 0 (by decide) (hts _ fl_X6_stepOverDigits_113) (fun _ h9 => h9) rfl dX6_stepOverDigits_17 ?_
      refine lv_aload_n hx hb dX6_stepOverDigits_20 rfl (lv_at hl 0 rfl) ?_
      refine va_get (D := D) (ci := 6) (v := .int t_next) (C := RX6) (T := TX6) (N := 7) hx hb hts iw_X6_stepOverDigits_X6 hown hK hP 0 rfl rfl 1 (by decide) (hts _ fl_X6_stepOverDigits_22) (fun _ h9 => h9) rfl dX6_stepOverDigits_21 ?_
      obtain ⟨hg_2, hF⟩ := gd_some hF
      refine xl_i (f := p1_bytes) hx hb hK hP 2 0 rfl rfl rfl (in_v hg_2) dX6_stepOverDigits_24 ?_
      obtain ⟨r_3, hc_4, hF⟩ := bn_some hF
      refine xc_i (wn := (w_X6_stepOverDigits K g_t g_p1 t_next t_kind t_start t_value t_faultKind t_faultPlace p1_size p1_faultKind p1_faultPlace p1_bytes)) hP hD hS C0.2.2.1 [] [0, 1, 2] [0, 1, 2] rfl rfl (by decide) (by decide) rfl (by decide) (va_runS (As := [.int (p1_bytes (t_next).toNatClampNeg)]) (rest := []) C0.1 (c_X6_isDigit l D K (p1_bytes (t_next).toNatClampNeg) r_3 hc_4 H.size) (va_cwS 1 hts gX6_stepOverDigits_X6_isDigit rfl rfl rfl (by decide +kernel) ⟨Nat.le_of_ble_eq_true rfl, Nat.le_of_ble_eq_true rfl⟩) (xp_S C0.2 hP hD hS [] rfl (by decide)) rfl rfl hl.1 rfl (lv_room (Nat.le_of_ble_eq_true rfl)) dX6_stepOverDigits_25 ⟨Nat.le_of_ble_eq_true rfl, Nat.le_of_ble_eq_true rfl⟩) (fun H locs hP hD hS => ?_)
      refine lv_if_eq (tgt := 81) hx hb dX6_stepOverDigits_28 (by decide) (fun c_5 => ?_) (fun c_5 => ?_)
      · have hF := it_pos c_5 hF
        exact w_X6_stepOverDigits_81 C0 HR t_next t_kind t_value H locs ls hP hD hS (lv_sub hl [0] rfl) hF
      · have hF := it_neg c_5 hF
        refine lv_aload_n hx hb dX6_stepOverDigits_31 rfl (lv_at hl 0 rfl) ?_
        refine va_get (D := D) (ci := 6) (v := .int t_next) (C := RX6) (T := TX6) (N := 7) hx hb hts iw_X6_stepOverDigits_X6 hown hK hP 0 rfl rfl 1 (by decide) (hts _ fl_X6_stepOverDigits_22) (fun _ h9 => h9) rfl dX6_stepOverDigits_32 ?_
        refine lv_aload_n hx hb dX6_stepOverDigits_35 rfl (lv_at hl 0 rfl) ?_
        refine va_get (D := D) (ci := 6) (v := .int t_start) (C := RX6) (T := TX6) (N := 7) hx hb hts iw_X6_stepOverDigits_X6 hown hK hP 0 rfl rfl 3 (by decide) (hts _ fl_X6_stepOverDigits_67) (fun _ h9 => h9) rfl dX6_stepOverDigits_36 ?_
        refine lv_isub hx hb dX6_stepOverDigits_39 ?_
        refine lv_iconst (v := 4) hx hb dX6_stepOverDigits_40 (by decide) ?_
        refine lv_icmp_ge (tgt := 68) hx hb dX6_stepOverDigits_41 (by decide) (fun c_6 => ?_) (fun c_6 => ?_)
        · have hF := it_pos c_6 hF
          exact w_X6_stepOverDigits_68 C0 HR ih t_next t_kind t_value H locs ls hP hD hS (lv_sub hl [0, 1] rfl) hF
        · have hF := it_neg c_6 hF
          refine lv_aload_n hx hb dX6_stepOverDigits_44 rfl (lv_at hl 0 rfl) ?_
          refine lv_aload_n hx hb dX6_stepOverDigits_45 rfl (lv_at hl 0 rfl) ?_
          refine va_get (D := D) (ci := 6) (v := .int t_value) (C := RX6) (T := TX6) (N := 7) hx hb hts iw_X6_stepOverDigits_X6 hown hK hP 0 rfl rfl 4 (by decide) (hts _ fl_X6_stepOverDigits_60) (fun _ h9 => h9) rfl dX6_stepOverDigits_46 ?_
          refine lv_bipush (v := 10) hx hb dX6_stepOverDigits_49 (by decide) ?_
          refine lv_imul hx hb dX6_stepOverDigits_51 ?_
          refine lv_aload_n hx hb dX6_stepOverDigits_52 rfl (lv_at hl 1 rfl) ?_
          refine va_get (D := D) (ci := 7) (v := .ref (g_p1 1)) (C := RX8) (T := TX8) (N := 4) hx hb hts iw_X6_stepOverDigits_X8 hown hK hP 1 rfl rfl 0 (by decide) (hts _ fl_X6_stepOverDigits_113) (fun _ h9 => h9) rfl dX6_stepOverDigits_53 ?_
          refine lv_aload_n hx hb dX6_stepOverDigits_56 rfl (lv_at hl 0 rfl) ?_
          refine va_get (D := D) (ci := 6) (v := .int t_next) (C := RX6) (T := TX6) (N := 7) hx hb hts iw_X6_stepOverDigits_X6 hown hK hP 0 rfl rfl 1 (by decide) (hts _ fl_X6_stepOverDigits_22) (fun _ h9 => h9) rfl dX6_stepOverDigits_57 ?_
          obtain ⟨hg_7, hF⟩ := gd_some hF
          refine xl_i (f := p1_bytes) hx hb hK hP 2 0 rfl rfl rfl (in_v hg_7) dX6_stepOverDigits_60 ?_
          refine lv_iadd hx hb dX6_stepOverDigits_61 ?_
          refine lv_bipush (v := 48) hx hb dX6_stepOverDigits_62 (by decide) ?_
          refine lv_isub hx hb dX6_stepOverDigits_64 ?_
          refine va_put (D := D) (ci := 6) (v := .int (((t_value * (10 : Int32)) + (p1_bytes (t_next).toNatClampNeg)) - (48 : Int32))) (ty := .int) (C := RX6) (T := TX6) (N := 7) hx hb hts iw_X6_stepOverDigits_X6 tyX6 tyX6_ok nmX6 hown hK hP hD hS 0 rfl rfl 4 (by decide) (hts _ fl_X6_stepOverDigits_60) (fun _ h9 => h9) rfl (by decide +kernel) rfl rfl (Nat.le_of_ble_eq_true rfl) dX6_stepOverDigits_65 (fun H locs hP hD hS => ?_)
          have hP : va_P D vwCl (w_X6_stepOverDigits K g_t g_p1 t_next t_kind t_start (((t_value * (10 : Int32)) + (p1_bytes (t_next).toNatClampNeg)) - (48 : Int32)) t_faultKind t_faultPlace p1_size p1_faultKind p1_faultPlace p1_bytes) H := hP
          have hD : va_D A (w_X6_stepOverDigits K g_t g_p1 t_next t_kind t_start (((t_value * (10 : Int32)) + (p1_bytes (t_next).toNatClampNeg)) - (48 : Int32)) t_faultKind t_faultPlace p1_size p1_faultKind p1_faultPlace p1_bytes) := hD
          exact w_X6_stepOverDigits_68 C0 HR ih t_next t_kind (((t_value * (10 : Int32)) + (p1_bytes (t_next).toNatClampNeg)) - (48 : Int32)) H locs ls hP hD hS (lv_sub hl [0, 1] rfl) hF
def F_X6_stepOverDigits (t_next : Int32) (t_kind : Int32) (t_start : Int32) (t_value : Int32) (p1_size : Int32) (p1_bytes : Nat → Int32) : Option (Int32 × Int32 × Int32) :=
  L_X6_stepOverDigits_5 t_start p1_size p1_bytes fu_ t_next t_kind (0 : Int32)
set_option maxHeartbeats 4000000 in
set_option maxRecDepth 100000 in
theorem c_X6_stepOverDigits (l : Launch) (D : va_G) (K : Nat → ClassId) (g_t : Nat → Nat) (g_p1 : Nat → Nat) (t_next : Int32) (t_kind : Int32) (t_start : Int32) (t_value : Int32) (t_faultKind : Int32) (t_faultPlace : Int32) (p1_size : Int32) (p1_faultKind : Int32) (p1_faultPlace : Int32) (p1_bytes : Nat → Int32) (res : Int32 × Int32 × Int32) (hF : F_X6_stepOverDigits t_next t_kind t_start t_value p1_size p1_bytes = some res) :
    Mv_ l yX6_stepOverDigits wsX6_stepOverDigits rmX6_stepOverDigits D K [.ref (g_t 0), .ref (g_p1 0)] (w_X6_stepOverDigits K g_t g_p1 t_next t_kind t_start t_value t_faultKind t_faultPlace p1_size p1_faultKind p1_faultPlace p1_bytes) (w_X6_stepOverDigits K g_t g_p1 res.1 res.2.1 t_start res.2.2 t_faultKind t_faultPlace p1_size p1_faultKind p1_faultPlace p1_bytes) := by
  refine en_v (cc := cX6_stepOverDigits) (maxL := 2) (own := RX6) (by decide) rfl rfl (Nat.le_of_ble_eq_true rfl) ?_
  intro p e s m args below meth c A Q H locs ls C0 hP hD hS hl HR
  obtain ⟨⟨hx, hb, hml, hown, hts⟩, hK, -⟩ := id C0
  have hl : lv_has ls 2 [(0, .ref (g_t 0)), (1, .ref (g_p1 0))] := hl
  unfold F_X6_stepOverDigits at hF
  refine lv_aload_n hx hb dX6_stepOverDigits_0 rfl (lv_at hl 0 rfl) ?_
  refine lv_iconst (v := 0) hx hb dX6_stepOverDigits_1 (by decide) ?_
  refine va_put (D := D) (ci := 6) (v := .int (0 : Int32)) (ty := .int) (C := RX6) (T := TX6) (N := 7) hx hb hts iw_X6_stepOverDigits_X6 tyX6 tyX6_ok nmX6 hown hK hP hD hS 0 rfl rfl 4 (by decide) (hts _ fl_X6_stepOverDigits_60) (fun _ h9 => h9) rfl (by decide +kernel) rfl rfl (Nat.le_of_ble_eq_true rfl) dX6_stepOverDigits_2 (fun H locs hP hD hS => ?_)
  have hP : va_P D vwCl (w_X6_stepOverDigits K g_t g_p1 t_next t_kind t_start (0 : Int32) t_faultKind t_faultPlace p1_size p1_faultKind p1_faultPlace p1_bytes) H := hP
  have hD : va_D A (w_X6_stepOverDigits K g_t g_p1 t_next t_kind t_start (0 : Int32) t_faultKind t_faultPlace p1_size p1_faultKind p1_faultPlace p1_bytes) := hD
  exact w_X6_stepOverDigits_5 C0 HR fu_ t_next t_kind (0 : Int32) H locs ls hP hD hS (lv_sub hl [0, 1] rfl) hF

/-! StaggerRadar.Reader.step(LStaggerRadar$Text;)V -/
abbrev rmX6_step : Room := { frames := 2, cells := 0, slots := 0, locals := 41 }
theorem fl_X6_step_22 : Cond.fieldLink RX6 22 "StaggerRadar$Reader" "next" "I" ∈ wsX6_step := by decide +kernel
theorem fl_X6_step_34 : Cond.fieldLink RX6 34 "StaggerRadar$Reader" "kind" "I" ∈ wsX6_step := by decide +kernel
theorem fl_X6_step_67 : Cond.fieldLink RX6 67 "StaggerRadar$Reader" "start" "I" ∈ wsX6_step := by decide +kernel
theorem fl_X6_step_108 : Cond.fieldLink RX6 108 "StaggerRadar$Text" "size" "I" ∈ wsX6_step := by decide +kernel
theorem fl_X6_step_113 : Cond.fieldLink RX6 113 "StaggerRadar$Text" "bytes" "[I" ∈ wsX6_step := by decide +kernel
theorem iw_X6_step_X6 : ∀ w ∈ u_ws RX6 TX6 7, w ∈ wsX6_step := by decide +kernel
theorem iw_X6_step_X8 : ∀ w ∈ u_ws RX8 TX8 4, w ∈ wsX6_step := by decide +kernel
abbrev w_X6_step (K : Nat → ClassId) (g_t : Nat → Nat) (g_p1 : Nat → Nat) (t_next : Int32) (t_kind : Int32) (t_start : Int32) (t_value : Int32) (t_faultKind : Int32) (t_faultPlace : Int32) (p1_size : Int32) (p1_faultKind : Int32) (p1_faultPlace : Int32) (p1_bytes : Nat → Int32) : va_W := [((g_t 0), .inr (6, [.ref (g_t 1), .int t_next, .int t_kind, .int t_start, .int t_value, .int t_faultKind, .int t_faultPlace])), ((g_p1 0), .inr (7, [.ref (g_p1 1), .int p1_size, .int p1_faultKind, .int p1_faultPlace])), ((g_p1 1), .inl (K 0, 400, .inl p1_bytes))]
def J_X6_step_168 (p1_size : Int32) (p1_bytes : Nat → Int32) (t_next : Int32) (t_kind : Int32) (t_start : Int32) (t_value : Int32) (s1 : Int32) : Option (Int32 × Int32 × Int32 × Int32) :=
  some ((t_next + (1 : Int32)), s1, t_start, t_value)
set_option maxHeartbeats 4000000 in
set_option maxRecDepth 100000 in
theorem w_X6_step_168 {p : Program} {l : Launch} {e : Env} {s : State} {m : MethodId} {args : Array Value} {below : List Frame} {meth : Method} {c : Code} {D : va_G} {K : Nat → ClassId} {A : Nat → Prop} {Q : State → Prop} (C0 : cx_ p s m args c cX6_step 2 RX6 wsX6_step D K A) {g_t : Nat → Nat} {g_p1 : Nat → Nat} {t_faultKind : Int32} {t_faultPlace : Int32} {p1_size : Int32} {p1_faultKind : Int32} {p1_faultPlace : Int32} {p1_bytes : Nat → Int32} {res : Int32 × Int32 × Int32 × Int32} (HR : ∀ (pc : Nat) (H : Heap) (locs : List Loc) (ls : Array Slot), decode cX6_step pc = .ok (.return_, 1) → va_P D vwCl (w_X6_step K g_t g_p1 res.1 res.2.1 res.2.2.1 res.2.2.2 t_faultKind t_faultPlace p1_size p1_faultKind p1_faultPlace p1_bytes) H → va_D A (w_X6_step K g_t g_p1 res.1 res.2.1 res.2.2.1 res.2.2.2 t_faultKind t_faultPlace p1_size p1_faultKind p1_faultPlace p1_bytes) → va_S A s.heap H locs → W p l e rmX6_step s m args below meth c H locs 0 0 Q (F0 m pc ls []))  :
    ∀ (t_next : Int32) (t_kind : Int32) (t_start : Int32) (t_value : Int32) (s1 : Int32) (H : Heap) (locs : List Loc) (ls : Array Slot), va_P D vwCl (w_X6_step K g_t g_p1 t_next t_kind t_start t_value t_faultKind t_faultPlace p1_size p1_faultKind p1_faultPlace p1_bytes) H → va_D A (w_X6_step K g_t g_p1 t_next t_kind t_start t_value t_faultKind t_faultPlace p1_size p1_faultKind p1_faultPlace p1_bytes) → va_S A s.heap H locs → lv_has ls 2 [(0, .ref (g_t 0))] → J_X6_step_168 p1_size p1_bytes t_next t_kind t_start t_value s1 = some res → W p l e rmX6_step s m args below meth c H locs 0 0 Q (F0 m 168 ls [.int s1, .ref (g_t 0)]) := by
  obtain ⟨⟨hx, hb, hml, hown, hts⟩, hK, -⟩ := id C0
  intro t_next t_kind t_start t_value s1 H locs ls hP hD hS hl hF
  unfold J_X6_step_168 at hF
  refine va_put (D := D) (ci := 6) (v := .int s1) (ty := .int) (C := RX6) (T := TX6) (N := 7) hx hb hts iw_X6_step_X6 tyX6 tyX6_ok nmX6 hown hK hP hD hS 0 rfl rfl 2 (by decide) (hts _ fl_X6_step_34) (fun _ h9 => h9) rfl (by decide +kernel) rfl rfl (Nat.le_of_ble_eq_true rfl) dX6_step_168 (fun H locs hP hD hS => ?_)
  have hP : va_P D vwCl (w_X6_step K g_t g_p1 t_next s1 t_start t_value t_faultKind t_faultPlace p1_size p1_faultKind p1_faultPlace p1_bytes) H := hP
  have hD : va_D A (w_X6_step K g_t g_p1 t_next s1 t_start t_value t_faultKind t_faultPlace p1_size p1_faultKind p1_faultPlace p1_bytes) := hD
  refine lv_aload_n hx hb dX6_step_171 rfl (lv_at hl 0 rfl) ?_
  refine lv_dup hx hb dX6_step_172 rfl ?_
  refine va_get (D := D) (ci := 6) (v := .int t_next) (C := RX6) (T := TX6) (N := 7) hx hb hts iw_X6_step_X6 hown hK hP 0 rfl rfl 1 (by decide) (hts _ fl_X6_step_22) (fun _ h9 => h9) rfl dX6_step_173 ?_
  refine lv_iconst (v := 1) hx hb dX6_step_176 (by decide) ?_
  refine lv_iadd hx hb dX6_step_177 ?_
  refine va_put (D := D) (ci := 6) (v := .int (t_next + (1 : Int32))) (ty := .int) (C := RX6) (T := TX6) (N := 7) hx hb hts iw_X6_step_X6 tyX6 tyX6_ok nmX6 hown hK hP hD hS 0 rfl rfl 1 (by decide) (hts _ fl_X6_step_22) (fun _ h9 => h9) rfl (by decide +kernel) rfl rfl (Nat.le_of_ble_eq_true rfl) dX6_step_178 (fun H locs hP hD hS => ?_)
  have hP : va_P D vwCl (w_X6_step K g_t g_p1 (t_next + (1 : Int32)) s1 t_start t_value t_faultKind t_faultPlace p1_size p1_faultKind p1_faultPlace p1_bytes) H := hP
  have hD : va_D A (w_X6_step K g_t g_p1 (t_next + (1 : Int32)) s1 t_start t_value t_faultKind t_faultPlace p1_size p1_faultKind p1_faultPlace p1_bytes) := hD
  obtain rfl := Option.some.inj hF
  exact HR 181 H locs ls dX6_step_181 hP hD hS
def L_X6_step_86 (p1_size : Int32) (p1_bytes : Nat → Int32) : Nat → Int32 → Int32 → Int32 → Int32 → Option (Int32 × Int32 × Int32 × Int32)
  | 0, _, _, _, _ => none
  | n_ + 1, t_next, t_kind, t_start, t_value =>
    if p1_size ≤ t_next then (some (t_next, t_kind, t_start, t_value)) else (gd_ (in_b t_next 400) ((F_X6_isLetter (p1_bytes (t_next).toNatClampNeg)).bind fun r_3 => (if r_3 = (0 : Int32) then (some (t_next, t_kind, t_start, t_value)) else (L_X6_step_86 p1_size p1_bytes n_ (t_next + (1 : Int32)) t_kind t_start t_value))))
set_option maxHeartbeats 4000000 in
set_option maxRecDepth 100000 in
theorem w_X6_step_86 {p : Program} {l : Launch} {e : Env} {s : State} {m : MethodId} {args : Array Value} {below : List Frame} {meth : Method} {c : Code} {D : va_G} {K : Nat → ClassId} {A : Nat → Prop} {Q : State → Prop} (C0 : cx_ p s m args c cX6_step 2 RX6 wsX6_step D K A) {g_t : Nat → Nat} {g_p1 : Nat → Nat} {t_faultKind : Int32} {t_faultPlace : Int32} {p1_size : Int32} {p1_faultKind : Int32} {p1_faultPlace : Int32} {p1_bytes : Nat → Int32} {res : Int32 × Int32 × Int32 × Int32} (HR : ∀ (pc : Nat) (H : Heap) (locs : List Loc) (ls : Array Slot), decode cX6_step pc = .ok (.return_, 1) → va_P D vwCl (w_X6_step K g_t g_p1 res.1 res.2.1 res.2.2.1 res.2.2.2 t_faultKind t_faultPlace p1_size p1_faultKind p1_faultPlace p1_bytes) H → va_D A (w_X6_step K g_t g_p1 res.1 res.2.1 res.2.2.1 res.2.2.2 t_faultKind t_faultPlace p1_size p1_faultKind p1_faultPlace p1_bytes) → va_S A s.heap H locs → W p l e rmX6_step s m args below meth c H locs 0 0 Q (F0 m pc ls []))  :
    ∀ (n_ : Nat) (t_next : Int32) (t_kind : Int32) (t_start : Int32) (t_value : Int32) (H : Heap) (locs : List Loc) (ls : Array Slot), va_P D vwCl (w_X6_step K g_t g_p1 t_next t_kind t_start t_value t_faultKind t_faultPlace p1_size p1_faultKind p1_faultPlace p1_bytes) H → va_D A (w_X6_step K g_t g_p1 t_next t_kind t_start t_value t_faultKind t_faultPlace p1_size p1_faultKind p1_faultPlace p1_bytes) → va_S A s.heap H locs → lv_has ls 2 [(0, .ref (g_t 0)), (1, .ref (g_p1 0))] → L_X6_step_86 p1_size p1_bytes n_ t_next t_kind t_start t_value = some res → W p l e rmX6_step s m args below meth c H locs 0 0 Q (F0 m 86 ls []) := by
  obtain ⟨⟨hx, hb, hml, hown, hts⟩, hK, -⟩ := id C0
  intro n_
  induction n_ with
  | zero =>
    intro t_next t_kind t_start t_value H locs ls hP hD hS hl hF
    exact no_s (show (none : Option (Int32 × Int32 × Int32 × Int32)) = some res from hF)
  | succ n_ ih =>
    intro t_next t_kind t_start t_value H locs ls hP hD hS hl hF
    rw [L_X6_step_86] at hF
    refine lv_aload_n hx hb dX6_step_86 rfl (lv_at hl 0 rfl) ?_
    refine va_get (D := D) (ci := 6) (v := .int t_next) (C := RX6) (T := TX6) (N := 7) hx hb hts iw_X6_step_X6 hown hK hP 0 rfl rfl 1 (by decide) (hts _ fl_X6_step_22) (fun _ h9 => h9) rfl dX6_step_87 ?_
    refine lv_aload_n hx hb dX6_step_90 rfl (lv_at hl 1 rfl) ?_
    refine va_get (D := D) (ci := 7) (v := .int p1_size) (C := RX8) (T := TX8) (N := 4) hx hb hts iw_X6_step_X8 hown hK hP 1 rfl rfl 1 (by decide) (hts _ fl_X6_step_108) (fun _ h9 => h9) rfl dX6_step_91 ?_
    refine lv_icmp_ge (tgt := 181) hx hb dX6_step_94 (by decide) (fun c_1 => ?_) (fun c_1 => ?_)
    · have hF := it_pos c_1 hF
      obtain rfl := Option.some.inj hF
      exact HR 181 H locs ls dX6_step_181 hP hD hS
    · have hF := it_neg c_1 hF
      refine lv_aload_n hx hb dX6_step_97 rfl (lv_at hl 1 rfl) ?_
      refine va_get (D := D) (ci := 7) (v := .ref (g_p1 1)) (C := RX8) (T := TX8) (N := 4) hx hb hts iw_X6_step_X8 hown hK hP 1 rfl rfl 0 (by decide) (hts _ fl_X6_step_113) (fun _ h9 => h9) rfl dX6_step_98 ?_
      refine lv_aload_n hx hb dX6_step_101 rfl (lv_at hl 0 rfl) ?_
      refine va_get (D := D) (ci := 6) (v := .int t_next) (C := RX6) (T := TX6) (N := 7) hx hb hts iw_X6_step_X6 hown hK hP 0 rfl rfl 1 (by decide) (hts _ fl_X6_step_22) (fun _ h9 => h9) rfl dX6_step_102 ?_
      obtain ⟨hg_2, hF⟩ := gd_some hF
      refine xl_i (f := p1_bytes) hx hb hK hP 2 0 rfl rfl rfl (in_v hg_2) dX6_step_105 ?_
      obtain ⟨r_3, hc_4, hF⟩ := bn_some hF
      refine xc_i (wn := (w_X6_step K g_t g_p1 t_next t_kind t_start t_value t_faultKind t_faultPlace p1_size p1_faultKind p1_faultPlace p1_bytes)) hP hD hS C0.2.2.1 [] [0, 1, 2] [0, 1, 2] rfl rfl (by decide) (by decide) rfl (by decide) (va_runS (As := [.int (p1_bytes (t_next).toNatClampNeg)]) (rest := []) C0.1 (c_X6_isLetter l D K (p1_bytes (t_next).toNatClampNeg) r_3 hc_4 H.size) (va_cwS 1 hts gX6_step_X6_isLetter rfl rfl rfl (by decide +kernel) ⟨Nat.le_of_ble_eq_true rfl, Nat.le_of_ble_eq_true rfl⟩) (xp_S C0.2 hP hD hS [] rfl (by decide)) rfl rfl hl.1 rfl (lv_room (Nat.le_of_ble_eq_true rfl)) dX6_step_106 ⟨Nat.le_of_ble_eq_true rfl, Nat.le_of_ble_eq_true rfl⟩) (fun H locs hP hD hS => ?_)
      refine lv_if_eq (tgt := 181) hx hb dX6_step_109 (by decide) (fun c_5 => ?_) (fun c_5 => ?_)
      · have hF := it_pos c_5 hF
        obtain rfl := Option.some.inj hF
        exact HR 181 H locs ls dX6_step_181 hP hD hS
      · have hF := it_neg c_5 hF
        refine lv_aload_n hx hb dX6_step_112 rfl (lv_at hl 0 rfl) ?_
        refine lv_dup hx hb dX6_step_113 rfl ?_
        refine va_get (D := D) (ci := 6) (v := .int t_next) (C := RX6) (T := TX6) (N := 7) hx hb hts iw_X6_step_X6 hown hK hP 0 rfl rfl 1 (by decide) (hts _ fl_X6_step_22) (fun _ h9 => h9) rfl dX6_step_114 ?_
        refine lv_iconst (v := 1) hx hb dX6_step_117 (by decide) ?_
        refine lv_iadd hx hb dX6_step_118 ?_
        refine va_put (D := D) (ci := 6) (v := .int (t_next + (1 : Int32))) (ty := .int) (C := RX6) (T := TX6) (N := 7) hx hb hts iw_X6_step_X6 tyX6 tyX6_ok nmX6 hown hK hP hD hS 0 rfl rfl 1 (by decide) (hts _ fl_X6_step_22) (fun _ h9 => h9) rfl (by decide +kernel) rfl rfl (Nat.le_of_ble_eq_true rfl) dX6_step_119 (fun H locs hP hD hS => ?_)
        have hP : va_P D vwCl (w_X6_step K g_t g_p1 (t_next + (1 : Int32)) t_kind t_start t_value t_faultKind t_faultPlace p1_size p1_faultKind p1_faultPlace p1_bytes) H := hP
        have hD : va_D A (w_X6_step K g_t g_p1 (t_next + (1 : Int32)) t_kind t_start t_value t_faultKind t_faultPlace p1_size p1_faultKind p1_faultPlace p1_bytes) := hD
        refine lv_goto (tgt := 86) hx hb dX6_step_122 (by decide) ?_
        exact ih (t_next + (1 : Int32)) t_kind t_start t_value H locs ls hP hD hS (lv_sub hl [0, 1] rfl) hF
def J_X6_step_39 (p1_size : Int32) (p1_bytes : Nat → Int32) (t_next : Int32) (t_kind : Int32) (t_start : Int32) (t_value : Int32) : Option (Int32 × Int32 × Int32 × Int32) :=
  if t_next < p1_size then (gd_ (in_b t_next 400) ((F_X6_isLetter (p1_bytes (t_next).toNatClampNeg)).bind fun r_3 => (if r_3 = (0 : Int32) then (gd_ (in_b t_next 400) ((F_X6_isDigit (p1_bytes (t_next).toNatClampNeg)).bind fun r_7 => (if r_7 = (0 : Int32) then (gd_ (in_b t_next 400) (if (p1_bytes (t_next).toNatClampNeg) = (59 : Int32) then (J_X6_step_168 p1_size p1_bytes t_next t_kind t_next t_value (3 : Int32)) else (J_X6_step_168 p1_size p1_bytes t_next t_kind t_next t_value (4 : Int32)))) else ((F_X6_stepOverDigits t_next t_kind t_next t_value p1_size p1_bytes).bind fun r_12 => (some (r_12.1, r_12.2.1, t_next, r_12.2.2)))))) else (L_X6_step_86 p1_size p1_bytes fu_ t_next (1 : Int32) t_next t_value)))) else (some (t_next, (0 : Int32), t_next, t_value))
set_option maxHeartbeats 4000000 in
set_option maxRecDepth 100000 in
theorem w_X6_step_39 {p : Program} {l : Launch} {e : Env} {s : State} {m : MethodId} {args : Array Value} {below : List Frame} {meth : Method} {c : Code} {D : va_G} {K : Nat → ClassId} {A : Nat → Prop} {Q : State → Prop} (C0 : cx_ p s m args c cX6_step 2 RX6 wsX6_step D K A) {g_t : Nat → Nat} {g_p1 : Nat → Nat} {t_faultKind : Int32} {t_faultPlace : Int32} {p1_size : Int32} {p1_faultKind : Int32} {p1_faultPlace : Int32} {p1_bytes : Nat → Int32} {res : Int32 × Int32 × Int32 × Int32} (HR : ∀ (pc : Nat) (H : Heap) (locs : List Loc) (ls : Array Slot), decode cX6_step pc = .ok (.return_, 1) → va_P D vwCl (w_X6_step K g_t g_p1 res.1 res.2.1 res.2.2.1 res.2.2.2 t_faultKind t_faultPlace p1_size p1_faultKind p1_faultPlace p1_bytes) H → va_D A (w_X6_step K g_t g_p1 res.1 res.2.1 res.2.2.1 res.2.2.2 t_faultKind t_faultPlace p1_size p1_faultKind p1_faultPlace p1_bytes) → va_S A s.heap H locs → W p l e rmX6_step s m args below meth c H locs 0 0 Q (F0 m pc ls []))  :
    ∀ (t_next : Int32) (t_kind : Int32) (t_start : Int32) (t_value : Int32) (H : Heap) (locs : List Loc) (ls : Array Slot), va_P D vwCl (w_X6_step K g_t g_p1 t_next t_kind t_start t_value t_faultKind t_faultPlace p1_size p1_faultKind p1_faultPlace p1_bytes) H → va_D A (w_X6_step K g_t g_p1 t_next t_kind t_start t_value t_faultKind t_faultPlace p1_size p1_faultKind p1_faultPlace p1_bytes) → va_S A s.heap H locs → lv_has ls 2 [(0, .ref (g_t 0)), (1, .ref (g_p1 0))] → J_X6_step_39 p1_size p1_bytes t_next t_kind t_start t_value = some res → W p l e rmX6_step s m args below meth c H locs 0 0 Q (F0 m 39 ls []) := by
  obtain ⟨⟨hx, hb, hml, hown, hts⟩, hK, -⟩ := id C0
  intro t_next t_kind t_start t_value H locs ls hP hD hS hl hF
  unfold J_X6_step_39 at hF
  refine lv_aload_n hx hb dX6_step_39 rfl (lv_at hl 0 rfl) ?_
  refine lv_aload_n hx hb dX6_step_40 rfl (lv_at hl 0 rfl) ?_
  refine va_get (D := D) (ci := 6) (v := .int t_next) (C := RX6) (T := TX6) (N := 7) hx hb hts iw_X6_step_X6 hown hK hP 0 rfl rfl 1 (by decide) (hts _ fl_X6_step_22) (fun _ h9 => h9) rfl dX6_step_41 ?_
  refine va_put (D := D) (ci := 6) (v := .int t_next) (ty := .int) (C := RX6) (T := TX6) (N := 7) hx hb hts iw_X6_step_X6 tyX6 tyX6_ok nmX6 hown hK hP hD hS 0 rfl rfl 3 (by decide) (hts _ fl_X6_step_67) (fun _ h9 => h9) rfl (by decide +kernel) rfl rfl (Nat.le_of_ble_eq_true rfl) dX6_step_44 (fun H locs hP hD hS => ?_)
  have hP : va_P D vwCl (w_X6_step K g_t g_p1 t_next t_kind t_next t_value t_faultKind t_faultPlace p1_size p1_faultKind p1_faultPlace p1_bytes) H := hP
  have hD : va_D A (w_X6_step K g_t g_p1 t_next t_kind t_next t_value t_faultKind t_faultPlace p1_size p1_faultKind p1_faultPlace p1_bytes) := hD
  refine lv_aload_n hx hb dX6_step_47 rfl (lv_at hl 0 rfl) ?_
  refine va_get (D := D) (ci := 6) (v := .int t_next) (C := RX6) (T := TX6) (N := 7) hx hb hts iw_X6_step_X6 hown hK hP 0 rfl rfl 1 (by decide) (hts _ fl_X6_step_22) (fun _ h9 => h9) rfl dX6_step_48 ?_
  refine lv_aload_n hx hb dX6_step_51 rfl (lv_at hl 1 rfl) ?_
  refine va_get (D := D) (ci := 7) (v := .int p1_size) (C := RX8) (T := TX8) (N := 4) hx hb hts iw_X6_step_X8 hown hK hP 1 rfl rfl 1 (by decide) (hts _ fl_X6_step_108) (fun _ h9 => h9) rfl dX6_step_52 ?_
  refine lv_icmp_lt (tgt := 66) hx hb dX6_step_55 (by decide) (fun c_1 => ?_) (fun c_1 => ?_)
  · have hF := it_pos c_1 hF
    refine lv_aload_n hx hb dX6_step_66 rfl (lv_at hl 1 rfl) ?_
    refine va_get (D := D) (ci := 7) (v := .ref (g_p1 1)) (C := RX8) (T := TX8) (N := 4) hx hb hts iw_X6_step_X8 hown hK hP 1 rfl rfl 0 (by decide) (hts _ fl_X6_step_113) (fun _ h9 => h9) rfl dX6_step_67 ?_
    refine lv_aload_n hx hb dX6_step_70 rfl (lv_at hl 0 rfl) ?_
    refine va_get (D := D) (ci := 6) (v := .int t_next) (C := RX6) (T := TX6) (N := 7) hx hb hts iw_X6_step_X6 hown hK hP 0 rfl rfl 1 (by decide) (hts _ fl_X6_step_22) (fun _ h9 => h9) rfl dX6_step_71 ?_
    obtain ⟨hg_2, hF⟩ := gd_some hF
    refine xl_i (f := p1_bytes) hx hb hK hP 2 0 rfl rfl rfl (in_v hg_2) dX6_step_74 ?_
    obtain ⟨r_3, hc_4, hF⟩ := bn_some hF
    refine xc_i (wn := (w_X6_step K g_t g_p1 t_next t_kind t_next t_value t_faultKind t_faultPlace p1_size p1_faultKind p1_faultPlace p1_bytes)) hP hD hS C0.2.2.1 [] [0, 1, 2] [0, 1, 2] rfl rfl (by decide) (by decide) rfl (by decide) (va_runS (As := [.int (p1_bytes (t_next).toNatClampNeg)]) (rest := []) C0.1 (c_X6_isLetter l D K (p1_bytes (t_next).toNatClampNeg) r_3 hc_4 H.size) (va_cwS 1 hts gX6_step_X6_isLetter rfl rfl rfl (by decide +kernel) ⟨Nat.le_of_ble_eq_true rfl, Nat.le_of_ble_eq_true rfl⟩) (xp_S C0.2 hP hD hS [] rfl (by decide)) rfl rfl hl.1 rfl (lv_room (Nat.le_of_ble_eq_true rfl)) dX6_step_75 ⟨Nat.le_of_ble_eq_true rfl, Nat.le_of_ble_eq_true rfl⟩) (fun H locs hP hD hS => ?_)
    refine lv_if_eq (tgt := 125) hx hb dX6_step_78 (by decide) (fun c_5 => ?_) (fun c_5 => ?_)
    · have hF := it_pos c_5 hF
      refine lv_aload_n hx hb dX6_step_125 rfl (lv_at hl 1 rfl) ?_
      refine va_get (D := D) (ci := 7) (v := .ref (g_p1 1)) (C := RX8) (T := TX8) (N := 4) hx hb hts iw_X6_step_X8 hown hK hP 1 rfl rfl 0 (by decide) (hts _ fl_X6_step_113) (fun _ h9 => h9) rfl dX6_step_126 ?_
      refine lv_aload_n hx hb dX6_step_129 rfl (lv_at hl 0 rfl) ?_
      refine va_get (D := D) (ci := 6) (v := .int t_next) (C := RX6) (T := TX6) (N := 7) hx hb hts iw_X6_step_X6 hown hK hP 0 rfl rfl 1 (by decide) (hts _ fl_X6_step_22) (fun _ h9 => h9) rfl dX6_step_130 ?_
      obtain ⟨hg_6, hF⟩ := gd_some hF
      refine xl_i (f := p1_bytes) hx hb hK hP 2 0 rfl rfl rfl (in_v hg_6) dX6_step_133 ?_
      obtain ⟨r_7, hc_8, hF⟩ := bn_some hF
      refine xc_i (wn := (w_X6_step K g_t g_p1 t_next t_kind t_next t_value t_faultKind t_faultPlace p1_size p1_faultKind p1_faultPlace p1_bytes)) hP hD hS C0.2.2.1 [] [0, 1, 2] [0, 1, 2] rfl rfl (by decide) (by decide) rfl (by decide) (va_runS (As := [.int (p1_bytes (t_next).toNatClampNeg)]) (rest := []) C0.1 (c_X6_isDigit l D K (p1_bytes (t_next).toNatClampNeg) r_7 hc_8 H.size) (va_cwS 1 hts gX6_step_X6_isDigit rfl rfl rfl (by decide +kernel) ⟨Nat.le_of_ble_eq_true rfl, Nat.le_of_ble_eq_true rfl⟩) (xp_S C0.2 hP hD hS [] rfl (by decide)) rfl rfl hl.1 rfl (lv_room (Nat.le_of_ble_eq_true rfl)) dX6_step_134 ⟨Nat.le_of_ble_eq_true rfl, Nat.le_of_ble_eq_true rfl⟩) (fun H locs hP hD hS => ?_)
      refine lv_if_eq (tgt := 148) hx hb dX6_step_137 (by decide) (fun c_9 => ?_) (fun c_9 => ?_)
      · have hF := it_pos c_9 hF
        refine lv_aload_n hx hb dX6_step_148 rfl (lv_at hl 0 rfl) ?_
        refine lv_aload_n hx hb dX6_step_149 rfl (lv_at hl 1 rfl) ?_
        refine va_get (D := D) (ci := 7) (v := .ref (g_p1 1)) (C := RX8) (T := TX8) (N := 4) hx hb hts iw_X6_step_X8 hown hK hP 1 rfl rfl 0 (by decide) (hts _ fl_X6_step_113) (fun _ h9 => h9) rfl dX6_step_150 ?_
        refine lv_aload_n hx hb dX6_step_153 rfl (lv_at hl 0 rfl) ?_
        refine va_get (D := D) (ci := 6) (v := .int t_next) (C := RX6) (T := TX6) (N := 7) hx hb hts iw_X6_step_X6 hown hK hP 0 rfl rfl 1 (by decide) (hts _ fl_X6_step_22) (fun _ h9 => h9) rfl dX6_step_154 ?_
        obtain ⟨hg_10, hF⟩ := gd_some hF
        refine xl_i (f := p1_bytes) hx hb hK hP 2 0 rfl rfl rfl (in_v hg_10) dX6_step_157 ?_
        refine lv_bipush (v := 59) hx hb dX6_step_158 (by decide) ?_
        refine lv_icmp_ne (tgt := 167) hx hb dX6_step_160 (by decide) (fun c_11 => ?_) (fun c_11 => ?_)
        · have hF := it_neg c_11 hF
          refine lv_iconst (v := 4) hx hb dX6_step_167 (by decide) ?_
          exact w_X6_step_168 C0 HR t_next t_kind t_next t_value (4 : Int32) H locs ls hP hD hS (lv_sub hl [0] rfl) hF
        · have hF := it_pos c_11 hF
          refine lv_iconst (v := 3) hx hb dX6_step_163 (by decide) ?_
          refine lv_goto (tgt := 168) hx hb dX6_step_164 (by decide) ?_
          exact w_X6_step_168 C0 HR t_next t_kind t_next t_value (3 : Int32) H locs ls hP hD hS (lv_sub hl [0] rfl) hF
      · have hF := it_neg c_9 hF
        refine lv_aload_n hx hb dX6_step_140 rfl (lv_at hl 0 rfl) ?_
        refine lv_aload_n hx hb dX6_step_141 rfl (lv_at hl 1 rfl) ?_
        obtain ⟨r_12, hc_13, hF⟩ := bn_some hF
        refine xc_v (wn := (w_X6_step K g_t g_p1 r_12.1 r_12.2.1 t_next r_12.2.2 t_faultKind t_faultPlace p1_size p1_faultKind p1_faultPlace p1_bytes)) hP hD hS C0.2.2.1 [0, 1, 2] [] [0, 1, 2] rfl rfl (by decide) (by decide) rfl (by decide) (va_runV (As := [.ref (g_p1 0)]) (rest := []) C0.1 (c_X6_stepOverDigits l D K g_t g_p1 t_next t_kind t_next t_value t_faultKind t_faultPlace p1_size p1_faultKind p1_faultPlace p1_bytes r_12 hc_13 H.size) (cwV 1 hts gX6_step_X6_stepOverDigits rfl rfl rfl (by decide +kernel) ⟨Nat.le_of_ble_eq_true rfl, Nat.le_of_ble_eq_true rfl⟩) (xp_V C0.2 hP hD hS [0, 1, 2] rfl (by decide) 6 0 rfl rfl rfl) rfl rfl hl.1 rfl (lv_room (Nat.le_of_ble_eq_true rfl)) dX6_step_142 ⟨Nat.le_of_ble_eq_true rfl, Nat.le_of_ble_eq_true rfl⟩) (fun H locs hP hD hS => ?_)
        refine lv_goto (tgt := 181) hx hb dX6_step_145 (by decide) ?_
        obtain rfl := Option.some.inj hF
        exact HR 181 H locs ls dX6_step_181 hP hD hS
    · have hF := it_neg c_5 hF
      refine lv_aload_n hx hb dX6_step_81 rfl (lv_at hl 0 rfl) ?_
      refine lv_iconst (v := 1) hx hb dX6_step_82 (by decide) ?_
      refine va_put (D := D) (ci := 6) (v := .int (1 : Int32)) (ty := .int) (C := RX6) (T := TX6) (N := 7) hx hb hts iw_X6_step_X6 tyX6 tyX6_ok nmX6 hown hK hP hD hS 0 rfl rfl 2 (by decide) (hts _ fl_X6_step_34) (fun _ h9 => h9) rfl (by decide +kernel) rfl rfl (Nat.le_of_ble_eq_true rfl) dX6_step_83 (fun H locs hP hD hS => ?_)
      have hP : va_P D vwCl (w_X6_step K g_t g_p1 t_next (1 : Int32) t_next t_value t_faultKind t_faultPlace p1_size p1_faultKind p1_faultPlace p1_bytes) H := hP
      have hD : va_D A (w_X6_step K g_t g_p1 t_next (1 : Int32) t_next t_value t_faultKind t_faultPlace p1_size p1_faultKind p1_faultPlace p1_bytes) := hD
      exact w_X6_step_86 C0 HR fu_ t_next (1 : Int32) t_next t_value H locs ls hP hD hS (lv_sub hl [0, 1] rfl) hF
  · have hF := it_neg c_1 hF
    refine lv_aload_n hx hb dX6_step_58 rfl (lv_at hl 0 rfl) ?_
    refine lv_iconst (v := 0) hx hb dX6_step_59 (by decide) ?_
    refine va_put (D := D) (ci := 6) (v := .int (0 : Int32)) (ty := .int) (C := RX6) (T := TX6) (N := 7) hx hb hts iw_X6_step_X6 tyX6 tyX6_ok nmX6 hown hK hP hD hS 0 rfl rfl 2 (by decide) (hts _ fl_X6_step_34) (fun _ h9 => h9) rfl (by decide +kernel) rfl rfl (Nat.le_of_ble_eq_true rfl) dX6_step_60 (fun H locs hP hD hS => ?_)
    have hP : va_P D vwCl (w_X6_step K g_t g_p1 t_next (0 : Int32) t_next t_value t_faultKind t_faultPlace p1_size p1_faultKind p1_faultPlace p1_bytes) H := hP
    have hD : va_D A (w_X6_step K g_t g_p1 t_next (0 : Int32) t_next t_value t_faultKind t_faultPlace p1_size p1_faultKind p1_faultPlace p1_bytes) := hD
    refine lv_goto (tgt := 181) hx hb dX6_step_63 (by decide) ?_
    obtain rfl := Option.some.inj hF
    exact HR 181 H locs ls dX6_step_181 hP hD hS
def L_X6_step_0 (p1_size : Int32) (p1_bytes : Nat → Int32) : Nat → Int32 → Int32 → Int32 → Int32 → Option (Int32 × Int32 × Int32 × Int32)
  | 0, _, _, _, _ => none
  | n_ + 1, t_next, t_kind, t_start, t_value =>
    if p1_size ≤ t_next then (J_X6_step_39 p1_size p1_bytes t_next t_kind t_start t_value) else (gd_ (in_b t_next 400) ((F_X6_isBlank (p1_bytes (t_next).toNatClampNeg)).bind fun r_3 => (if r_3 = (0 : Int32) then (J_X6_step_39 p1_size p1_bytes t_next t_kind t_start t_value) else (L_X6_step_0 p1_size p1_bytes n_ (t_next + (1 : Int32)) t_kind t_start t_value))))
set_option maxHeartbeats 4000000 in
set_option maxRecDepth 100000 in
theorem w_X6_step_0 {p : Program} {l : Launch} {e : Env} {s : State} {m : MethodId} {args : Array Value} {below : List Frame} {meth : Method} {c : Code} {D : va_G} {K : Nat → ClassId} {A : Nat → Prop} {Q : State → Prop} (C0 : cx_ p s m args c cX6_step 2 RX6 wsX6_step D K A) {g_t : Nat → Nat} {g_p1 : Nat → Nat} {t_faultKind : Int32} {t_faultPlace : Int32} {p1_size : Int32} {p1_faultKind : Int32} {p1_faultPlace : Int32} {p1_bytes : Nat → Int32} {res : Int32 × Int32 × Int32 × Int32} (HR : ∀ (pc : Nat) (H : Heap) (locs : List Loc) (ls : Array Slot), decode cX6_step pc = .ok (.return_, 1) → va_P D vwCl (w_X6_step K g_t g_p1 res.1 res.2.1 res.2.2.1 res.2.2.2 t_faultKind t_faultPlace p1_size p1_faultKind p1_faultPlace p1_bytes) H → va_D A (w_X6_step K g_t g_p1 res.1 res.2.1 res.2.2.1 res.2.2.2 t_faultKind t_faultPlace p1_size p1_faultKind p1_faultPlace p1_bytes) → va_S A s.heap H locs → W p l e rmX6_step s m args below meth c H locs 0 0 Q (F0 m pc ls []))  :
    ∀ (n_ : Nat) (t_next : Int32) (t_kind : Int32) (t_start : Int32) (t_value : Int32) (H : Heap) (locs : List Loc) (ls : Array Slot), va_P D vwCl (w_X6_step K g_t g_p1 t_next t_kind t_start t_value t_faultKind t_faultPlace p1_size p1_faultKind p1_faultPlace p1_bytes) H → va_D A (w_X6_step K g_t g_p1 t_next t_kind t_start t_value t_faultKind t_faultPlace p1_size p1_faultKind p1_faultPlace p1_bytes) → va_S A s.heap H locs → lv_has ls 2 [(0, .ref (g_t 0)), (1, .ref (g_p1 0))] → L_X6_step_0 p1_size p1_bytes n_ t_next t_kind t_start t_value = some res → W p l e rmX6_step s m args below meth c H locs 0 0 Q (F0 m 0 ls []) := by
  obtain ⟨⟨hx, hb, hml, hown, hts⟩, hK, -⟩ := id C0
  intro n_
  induction n_ with
  | zero =>
    intro t_next t_kind t_start t_value H locs ls hP hD hS hl hF
    exact no_s (show (none : Option (Int32 × Int32 × Int32 × Int32)) = some res from hF)
  | succ n_ ih =>
    intro t_next t_kind t_start t_value H locs ls hP hD hS hl hF
    rw [L_X6_step_0] at hF
    refine lv_aload_n hx hb dX6_step_0 rfl (lv_at hl 0 rfl) ?_
    refine va_get (D := D) (ci := 6) (v := .int t_next) (C := RX6) (T := TX6) (N := 7) hx hb hts iw_X6_step_X6 hown hK hP 0 rfl rfl 1 (by decide) (hts _ fl_X6_step_22) (fun _ h9 => h9) rfl dX6_step_1 ?_
    refine lv_aload_n hx hb dX6_step_4 rfl (lv_at hl 1 rfl) ?_
    refine va_get (D := D) (ci := 7) (v := .int p1_size) (C := RX8) (T := TX8) (N := 4) hx hb hts iw_X6_step_X8 hown hK hP 1 rfl rfl 1 (by decide) (hts _ fl_X6_step_108) (fun _ h9 => h9) rfl dX6_step_5 ?_
    refine lv_icmp_ge (tgt := 39) hx hb dX6_step_8 (by decide) (fun c_1 => ?_) (fun c_1 => ?_)
    · have hF := it_pos c_1 hF
      exact w_X6_step_39 C0 HR t_next t_kind t_start t_value H locs ls hP hD hS (lv_sub hl [0, 1] rfl) hF
    · have hF := it_neg c_1 hF
      refine lv_aload_n hx hb dX6_step_11 rfl (lv_at hl 1 rfl) ?_
      refine va_get (D := D) (ci := 7) (v := .ref (g_p1 1)) (C := RX8) (T := TX8) (N := 4) hx hb hts iw_X6_step_X8 hown hK hP 1 rfl rfl 0 (by decide) (hts _ fl_X6_step_113) (fun _ h9 => h9) rfl dX6_step_12 ?_
      refine lv_aload_n hx hb dX6_step_15 rfl (lv_at hl 0 rfl) ?_
      refine va_get (D := D) (ci := 6) (v := .int t_next) (C := RX6) (T := TX6) (N := 7) hx hb hts iw_X6_step_X6 hown hK hP 0 rfl rfl 1 (by decide) (hts _ fl_X6_step_22) (fun _ h9 => h9) rfl dX6_step_16 ?_
      obtain ⟨hg_2, hF⟩ := gd_some hF
      refine xl_i (f := p1_bytes) hx hb hK hP 2 0 rfl rfl rfl (in_v hg_2) dX6_step_19 ?_
      obtain ⟨r_3, hc_4, hF⟩ := bn_some hF
      refine xc_i (wn := (w_X6_step K g_t g_p1 t_next t_kind t_start t_value t_faultKind t_faultPlace p1_size p1_faultKind p1_faultPlace p1_bytes)) hP hD hS C0.2.2.1 [] [0, 1, 2] [0, 1, 2] rfl rfl (by decide) (by decide) rfl (by decide) (va_runS (As := [.int (p1_bytes (t_next).toNatClampNeg)]) (rest := []) C0.1 (c_X6_isBlank l D K (p1_bytes (t_next).toNatClampNeg) r_3 hc_4 H.size) (va_cwS 1 hts gX6_step_X6_isBlank rfl rfl rfl (by decide +kernel) ⟨Nat.le_of_ble_eq_true rfl, Nat.le_of_ble_eq_true rfl⟩) (xp_S C0.2 hP hD hS [] rfl (by decide)) rfl rfl hl.1 rfl (lv_room (Nat.le_of_ble_eq_true rfl)) dX6_step_20 ⟨Nat.le_of_ble_eq_true rfl, Nat.le_of_ble_eq_true rfl⟩) (fun H locs hP hD hS => ?_)
      refine lv_if_eq (tgt := 39) hx hb dX6_step_23 (by decide) (fun c_5 => ?_) (fun c_5 => ?_)
      · have hF := it_pos c_5 hF
        exact w_X6_step_39 C0 HR t_next t_kind t_start t_value H locs ls hP hD hS (lv_sub hl [0, 1] rfl) hF
      · have hF := it_neg c_5 hF
        refine lv_aload_n hx hb dX6_step_26 rfl (lv_at hl 0 rfl) ?_
        refine lv_dup hx hb dX6_step_27 rfl ?_
        refine va_get (D := D) (ci := 6) (v := .int t_next) (C := RX6) (T := TX6) (N := 7) hx hb hts iw_X6_step_X6 hown hK hP 0 rfl rfl 1 (by decide) (hts _ fl_X6_step_22) (fun _ h9 => h9) rfl dX6_step_28 ?_
        refine lv_iconst (v := 1) hx hb dX6_step_31 (by decide) ?_
        refine lv_iadd hx hb dX6_step_32 ?_
        refine va_put (D := D) (ci := 6) (v := .int (t_next + (1 : Int32))) (ty := .int) (C := RX6) (T := TX6) (N := 7) hx hb hts iw_X6_step_X6 tyX6 tyX6_ok nmX6 hown hK hP hD hS 0 rfl rfl 1 (by decide) (hts _ fl_X6_step_22) (fun _ h9 => h9) rfl (by decide +kernel) rfl rfl (Nat.le_of_ble_eq_true rfl) dX6_step_33 (fun H locs hP hD hS => ?_)
        have hP : va_P D vwCl (w_X6_step K g_t g_p1 (t_next + (1 : Int32)) t_kind t_start t_value t_faultKind t_faultPlace p1_size p1_faultKind p1_faultPlace p1_bytes) H := hP
        have hD : va_D A (w_X6_step K g_t g_p1 (t_next + (1 : Int32)) t_kind t_start t_value t_faultKind t_faultPlace p1_size p1_faultKind p1_faultPlace p1_bytes) := hD
        refine lv_goto (tgt := 0) hx hb dX6_step_36 (by decide) ?_
        exact ih (t_next + (1 : Int32)) t_kind t_start t_value H locs ls hP hD hS (lv_sub hl [0, 1] rfl) hF
def F_X6_step (t_next : Int32) (t_kind : Int32) (t_start : Int32) (t_value : Int32) (p1_size : Int32) (p1_bytes : Nat → Int32) : Option (Int32 × Int32 × Int32 × Int32) :=
  L_X6_step_0 p1_size p1_bytes fu_ t_next t_kind t_start t_value
set_option maxHeartbeats 4000000 in
set_option maxRecDepth 100000 in
theorem c_X6_step (l : Launch) (D : va_G) (K : Nat → ClassId) (g_t : Nat → Nat) (g_p1 : Nat → Nat) (t_next : Int32) (t_kind : Int32) (t_start : Int32) (t_value : Int32) (t_faultKind : Int32) (t_faultPlace : Int32) (p1_size : Int32) (p1_faultKind : Int32) (p1_faultPlace : Int32) (p1_bytes : Nat → Int32) (res : Int32 × Int32 × Int32 × Int32) (hF : F_X6_step t_next t_kind t_start t_value p1_size p1_bytes = some res) :
    Mv_ l yX6_step wsX6_step rmX6_step D K [.ref (g_t 0), .ref (g_p1 0)] (w_X6_step K g_t g_p1 t_next t_kind t_start t_value t_faultKind t_faultPlace p1_size p1_faultKind p1_faultPlace p1_bytes) (w_X6_step K g_t g_p1 res.1 res.2.1 res.2.2.1 res.2.2.2 t_faultKind t_faultPlace p1_size p1_faultKind p1_faultPlace p1_bytes) := by
  refine en_v (cc := cX6_step) (maxL := 2) (own := RX6) (by decide) rfl rfl (Nat.le_of_ble_eq_true rfl) ?_
  intro p e s m args below meth c A Q H locs ls C0 hP hD hS hl HR
  obtain ⟨⟨hx, hb, hml, hown, hts⟩, hK, -⟩ := id C0
  have hl : lv_has ls 2 [(0, .ref (g_t 0)), (1, .ref (g_p1 0))] := hl
  unfold F_X6_step at hF
  exact w_X6_step_0 C0 HR fu_ t_next t_kind t_start t_value H locs ls hP hD hS (lv_sub hl [0, 1] rfl) hF

/-! StaggerRadar.Reader.refuseToken()V -/
abbrev rmX6_refuseToken : Room := { frames := 0, cells := 0, slots := 0, locals := 0 }
theorem fl_X6_refuseToken_15 : Cond.fieldLink RX6 15 "StaggerRadar$Reader" "faultKind" "I" ∈ wsX6_refuseToken := by decide +kernel
theorem fl_X6_refuseToken_19 : Cond.fieldLink RX6 19 "StaggerRadar$Reader" "faultPlace" "I" ∈ wsX6_refuseToken := by decide +kernel
theorem fl_X6_refuseToken_67 : Cond.fieldLink RX6 67 "StaggerRadar$Reader" "start" "I" ∈ wsX6_refuseToken := by decide +kernel
theorem iw_X6_refuseToken_X6 : ∀ w ∈ u_ws RX6 TX6 7, w ∈ wsX6_refuseToken := by decide +kernel
abbrev w_X6_refuseToken (K : Nat → ClassId) (g_t : Nat → Nat) (t_next : Int32) (t_kind : Int32) (t_start : Int32) (t_value : Int32) (t_faultKind : Int32) (t_faultPlace : Int32) : va_W := [((g_t 0), .inr (6, [.ref (g_t 1), .int t_next, .int t_kind, .int t_start, .int t_value, .int t_faultKind, .int t_faultPlace]))]
def F_X6_refuseToken (t_start : Int32) (t_faultKind : Int32) (t_faultPlace : Int32) : Option (Int32 × Int32) :=
  some ((1 : Int32), t_start)
set_option maxHeartbeats 4000000 in
set_option maxRecDepth 100000 in
theorem c_X6_refuseToken (l : Launch) (D : va_G) (K : Nat → ClassId) (g_t : Nat → Nat) (t_next : Int32) (t_kind : Int32) (t_start : Int32) (t_value : Int32) (t_faultKind : Int32) (t_faultPlace : Int32) (res : Int32 × Int32) (hF : F_X6_refuseToken t_start t_faultKind t_faultPlace = some res) :
    Mv_ l yX6_refuseToken wsX6_refuseToken rmX6_refuseToken D K [.ref (g_t 0)] (w_X6_refuseToken K g_t t_next t_kind t_start t_value t_faultKind t_faultPlace) (w_X6_refuseToken K g_t t_next t_kind t_start t_value res.1 res.2) := by
  refine en_v (cc := cX6_refuseToken) (maxL := 1) (own := RX6) (by decide) rfl rfl (Nat.le_of_ble_eq_true rfl) ?_
  intro p e s m args below meth c A Q H locs ls C0 hP hD hS hl HR
  obtain ⟨⟨hx, hb, hml, hown, hts⟩, hK, -⟩ := id C0
  have hl : lv_has ls 1 [(0, .ref (g_t 0))] := hl
  unfold F_X6_refuseToken at hF
  refine lv_aload_n hx hb dX6_refuseToken_0 rfl (lv_at hl 0 rfl) ?_
  refine lv_iconst (v := 1) hx hb dX6_refuseToken_1 (by decide) ?_
  refine va_put (D := D) (ci := 6) (v := .int (1 : Int32)) (ty := .int) (C := RX6) (T := TX6) (N := 7) hx hb hts iw_X6_refuseToken_X6 tyX6 tyX6_ok nmX6 hown hK hP hD hS 0 rfl rfl 5 (by decide) (hts _ fl_X6_refuseToken_15) (fun _ h9 => h9) rfl (by decide +kernel) rfl rfl (Nat.le_of_ble_eq_true rfl) dX6_refuseToken_2 (fun H locs hP hD hS => ?_)
  have hP : va_P D vwCl (w_X6_refuseToken K g_t t_next t_kind t_start t_value (1 : Int32) t_faultPlace) H := hP
  have hD : va_D A (w_X6_refuseToken K g_t t_next t_kind t_start t_value (1 : Int32) t_faultPlace) := hD
  refine lv_aload_n hx hb dX6_refuseToken_5 rfl (lv_at hl 0 rfl) ?_
  refine lv_aload_n hx hb dX6_refuseToken_6 rfl (lv_at hl 0 rfl) ?_
  refine va_get (D := D) (ci := 6) (v := .int t_start) (C := RX6) (T := TX6) (N := 7) hx hb hts iw_X6_refuseToken_X6 hown hK hP 0 rfl rfl 3 (by decide) (hts _ fl_X6_refuseToken_67) (fun _ h9 => h9) rfl dX6_refuseToken_7 ?_
  refine va_put (D := D) (ci := 6) (v := .int t_start) (ty := .int) (C := RX6) (T := TX6) (N := 7) hx hb hts iw_X6_refuseToken_X6 tyX6 tyX6_ok nmX6 hown hK hP hD hS 0 rfl rfl 6 (by decide) (hts _ fl_X6_refuseToken_19) (fun _ h9 => h9) rfl (by decide +kernel) rfl rfl (Nat.le_of_ble_eq_true rfl) dX6_refuseToken_10 (fun H locs hP hD hS => ?_)
  have hP : va_P D vwCl (w_X6_refuseToken K g_t t_next t_kind t_start t_value (1 : Int32) t_start) H := hP
  have hD : va_D A (w_X6_refuseToken K g_t t_next t_kind t_start t_value (1 : Int32) t_start) := hD
  obtain rfl := Option.some.inj hF
  exact HR 13 H locs ls dX6_refuseToken_13 hP hD hS

/-! StaggerRadar.Reader.isFull(LStaggerRadar$Radar;I)Z -/
abbrev rmX6_isFull : Room := { frames := 0, cells := 0, slots := 0, locals := 0 }
theorem fl_X6_isFull_70 : Cond.fieldLink RX6 70 "StaggerRadar$Radar" "gapCount" "I" ∈ wsX6_isFull := by decide +kernel
theorem fl_X6_isFull_73 : Cond.fieldLink RX6 73 "StaggerRadar$Radar" "targetCount" "I" ∈ wsX6_isFull := by decide +kernel
theorem iw_X6_isFull_X5 : ∀ w ∈ u_ws RX5 TX5 13, w ∈ wsX6_isFull := by decide +kernel
abbrev w_X6_isFull (K : Nat → ClassId) (g_p0 : Nat → Nat) (p0_gapCount : Int32) (p0_targetCount : Int32) (p0_lookCount : Int32) (p0_time : Int32) (p0_gone : Int32) : va_W := [((g_p0 0), .inr (5, [.ref (g_p0 1), .ref (g_p0 2), .ref (g_p0 3), .ref (g_p0 4), .ref (g_p0 5), .ref (g_p0 6), .ref (g_p0 7), .ref (g_p0 8), .int p0_gapCount, .int p0_targetCount, .int p0_lookCount, .int p0_time, .int p0_gone]))]
def J_X6_isFull_32 (p0_gapCount : Int32) (p0_targetCount : Int32) : Option (Int32) :=
  if p0_targetCount < (8 : Int32) then (some (0 : Int32)) else (some (1 : Int32))
set_option maxHeartbeats 4000000 in
set_option maxRecDepth 100000 in
theorem w_X6_isFull_32 {p : Program} {l : Launch} {e : Env} {s : State} {m : MethodId} {args : Array Value} {below : List Frame} {meth : Method} {c : Code} {D : va_G} {K : Nat → ClassId} {A : Nat → Prop} {Q : State → Prop} (C0 : cx_ p s m args c cX6_isFull 2 RX6 wsX6_isFull D K A) {g_p0 : Nat → Nat} {p0_gapCount : Int32} {p0_targetCount : Int32} {p0_lookCount : Int32} {p0_time : Int32} {p0_gone : Int32} {res : Int32} (HR : ∀ (pc : Nat) (H : Heap) (locs : List Loc) (ls : Array Slot), decode cX6_isFull pc = .ok (.ireturn, 1) → narrow .boolean (.int res) = .int res → va_P D vwCl (w_X6_isFull K g_p0 p0_gapCount p0_targetCount p0_lookCount p0_time p0_gone) H → va_D A (w_X6_isFull K g_p0 p0_gapCount p0_targetCount p0_lookCount p0_time p0_gone) → va_S A s.heap H locs → W p l e rmX6_isFull s m args below meth c H locs 0 0 Q (F0 m pc ls [.int res]))  :
    ∀  (H : Heap) (locs : List Loc) (ls : Array Slot), va_P D vwCl (w_X6_isFull K g_p0 p0_gapCount p0_targetCount p0_lookCount p0_time p0_gone) H → va_D A (w_X6_isFull K g_p0 p0_gapCount p0_targetCount p0_lookCount p0_time p0_gone) → va_S A s.heap H locs → lv_has ls 2 [(0, .ref (g_p0 0))] → J_X6_isFull_32 p0_gapCount p0_targetCount = some res → W p l e rmX6_isFull s m args below meth c H locs 0 0 Q (F0 m 32 ls []) := by
  obtain ⟨⟨hx, hb, hml, hown, hts⟩, hK, -⟩ := id C0
  intro H locs ls hP hD hS hl hF
  unfold J_X6_isFull_32 at hF
  refine lv_aload_n hx hb dX6_isFull_32 rfl (lv_at hl 0 rfl) ?_
  refine va_get (D := D) (ci := 5) (v := .int p0_targetCount) (C := RX5) (T := TX5) (N := 13) hx hb hts iw_X6_isFull_X5 hown hK hP 0 rfl rfl 9 (by decide) (hts _ fl_X6_isFull_73) (fun _ h9 => h9) rfl dX6_isFull_33 ?_
  refine lv_bipush (v := 8) hx hb dX6_isFull_36 (by decide) ?_
  refine lv_icmp_lt (tgt := 45) hx hb dX6_isFull_38 (by decide) (fun c_1 => ?_) (fun c_1 => ?_)
  · have hF := it_pos c_1 hF
    refine lv_iconst (v := 0) hx hb dX6_isFull_45 (by decide) ?_
    obtain rfl := Option.some.inj hF
    exact HR 46 H locs ls dX6_isFull_46 narrow_b0 hP hD hS
  · have hF := it_neg c_1 hF
    refine lv_iconst (v := 1) hx hb dX6_isFull_41 (by decide) ?_
    refine lv_goto (tgt := 46) hx hb dX6_isFull_42 (by decide) ?_
    obtain rfl := Option.some.inj hF
    exact HR 46 H locs ls dX6_isFull_46 narrow_b1 hP hD hS
def F_X6_isFull (p0_gapCount : Int32) (p0_targetCount : Int32) (x1 : Int32) : Option (Int32) :=
  if x1 = (7 : Int32) then (if p0_gapCount < (5 : Int32) then (some (0 : Int32)) else (some (1 : Int32))) else (if x1 = (8 : Int32) then (J_X6_isFull_32 p0_gapCount p0_targetCount) else (if x1 = (9 : Int32) then (J_X6_isFull_32 p0_gapCount p0_targetCount) else (some (0 : Int32))))
set_option maxHeartbeats 4000000 in
set_option maxRecDepth 100000 in
theorem c_X6_isFull (l : Launch) (D : va_G) (K : Nat → ClassId) (g_p0 : Nat → Nat) (p0_gapCount : Int32) (p0_targetCount : Int32) (p0_lookCount : Int32) (p0_time : Int32) (p0_gone : Int32) (x1 : Int32) (res : Int32) (hF : F_X6_isFull p0_gapCount p0_targetCount x1 = some res) :
    Mi_ l yX6_isFull wsX6_isFull rmX6_isFull D K [.ref (g_p0 0), .int x1] (w_X6_isFull K g_p0 p0_gapCount p0_targetCount p0_lookCount p0_time p0_gone) (w_X6_isFull K g_p0 p0_gapCount p0_targetCount p0_lookCount p0_time p0_gone) (res) := by
  refine en_z (cc := cX6_isFull) (maxL := 2) (own := RX6) (by decide) rfl rfl (Nat.le_of_ble_eq_true rfl) ?_
  intro p e s m args below meth c A Q H locs ls C0 hP hD hS hl HR
  obtain ⟨⟨hx, hb, hml, hown, hts⟩, hK, -⟩ := id C0
  have hl : lv_has ls 2 [(0, .ref (g_p0 0)), (1, .int x1)] := hl
  unfold F_X6_isFull at hF
  refine lv_iload_n hx hb dX6_isFull_0 rfl (lv_at hl 1 rfl) ?_
  refine lv_bipush (v := 7) hx hb dX6_isFull_1 (by decide) ?_
  refine lv_icmp_ne (tgt := 20) hx hb dX6_isFull_3 (by decide) (fun c_1 => ?_) (fun c_1 => ?_)
  · have hF := it_neg c_1 hF
    refine lv_iload_n hx hb dX6_isFull_20 rfl (lv_at hl 1 rfl) ?_
    refine lv_bipush (v := 8) hx hb dX6_isFull_21 (by decide) ?_
    refine lv_icmp_eq (tgt := 32) hx hb dX6_isFull_23 (by decide) (fun c_2 => ?_) (fun c_2 => ?_)
    · have hF := it_pos c_2 hF
      exact w_X6_isFull_32 C0 HR H locs ls hP hD hS (lv_sub hl [0] rfl) hF
    · have hF := it_neg c_2 hF
      refine lv_iload_n hx hb dX6_isFull_26 rfl (lv_at hl 1 rfl) ?_
      refine lv_bipush (v := 9) hx hb dX6_isFull_27 (by decide) ?_
      refine lv_icmp_ne (tgt := 45) hx hb dX6_isFull_29 (by decide) (fun c_3 => ?_) (fun c_3 => ?_)
      · have hF := it_neg c_3 hF
        refine lv_iconst (v := 0) hx hb dX6_isFull_45 (by decide) ?_
        obtain rfl := Option.some.inj hF
        exact HR 46 H locs ls dX6_isFull_46 narrow_b0 hP hD hS
      · have hF := it_pos c_3 hF
        exact w_X6_isFull_32 C0 HR H locs ls hP hD hS (lv_sub hl [0] rfl) hF
  · have hF := it_pos c_1 hF
    refine lv_aload_n hx hb dX6_isFull_6 rfl (lv_at hl 0 rfl) ?_
    refine va_get (D := D) (ci := 5) (v := .int p0_gapCount) (C := RX5) (T := TX5) (N := 13) hx hb hts iw_X6_isFull_X5 hown hK hP 0 rfl rfl 8 (by decide) (hts _ fl_X6_isFull_70) (fun _ h9 => h9) rfl dX6_isFull_7 ?_
    refine lv_iconst (v := 5) hx hb dX6_isFull_10 (by decide) ?_
    refine lv_icmp_lt (tgt := 18) hx hb dX6_isFull_11 (by decide) (fun c_4 => ?_) (fun c_4 => ?_)
    · have hF := it_pos c_4 hF
      refine lv_iconst (v := 0) hx hb dX6_isFull_18 (by decide) ?_
      obtain rfl := Option.some.inj hF
      exact HR 19 H locs ls dX6_isFull_19 narrow_b0 hP hD hS
    · have hF := it_neg c_4 hF
      refine lv_iconst (v := 1) hx hb dX6_isFull_14 (by decide) ?_
      refine lv_goto (tgt := 19) hx hb dX6_isFull_15 (by decide) ?_
      obtain rfl := Option.some.inj hF
      exact HR 19 H locs ls dX6_isFull_19 narrow_b1 hP hD hS

/-! StaggerRadar.Reader.noteFault(I)V -/
abbrev rmX6_noteFault : Room := { frames := 0, cells := 0, slots := 0, locals := 0 }
theorem fl_X6_noteFault_15 : Cond.fieldLink RX6 15 "StaggerRadar$Reader" "faultKind" "I" ∈ wsX6_noteFault := by decide +kernel
theorem fl_X6_noteFault_19 : Cond.fieldLink RX6 19 "StaggerRadar$Reader" "faultPlace" "I" ∈ wsX6_noteFault := by decide +kernel
theorem fl_X6_noteFault_67 : Cond.fieldLink RX6 67 "StaggerRadar$Reader" "start" "I" ∈ wsX6_noteFault := by decide +kernel
theorem iw_X6_noteFault_X6 : ∀ w ∈ u_ws RX6 TX6 7, w ∈ wsX6_noteFault := by decide +kernel
abbrev w_X6_noteFault (K : Nat → ClassId) (g_t : Nat → Nat) (t_next : Int32) (t_kind : Int32) (t_start : Int32) (t_value : Int32) (t_faultKind : Int32) (t_faultPlace : Int32) : va_W := [((g_t 0), .inr (6, [.ref (g_t 1), .int t_next, .int t_kind, .int t_start, .int t_value, .int t_faultKind, .int t_faultPlace]))]
def F_X6_noteFault (t_start : Int32) (t_faultKind : Int32) (t_faultPlace : Int32) (x1 : Int32) : Option (Int32 × Int32) :=
  if t_faultKind = (0 : Int32) then (some (x1, t_start)) else (some (t_faultKind, t_faultPlace))
set_option maxHeartbeats 4000000 in
set_option maxRecDepth 100000 in
theorem c_X6_noteFault (l : Launch) (D : va_G) (K : Nat → ClassId) (g_t : Nat → Nat) (t_next : Int32) (t_kind : Int32) (t_start : Int32) (t_value : Int32) (t_faultKind : Int32) (t_faultPlace : Int32) (x1 : Int32) (res : Int32 × Int32) (hF : F_X6_noteFault t_start t_faultKind t_faultPlace x1 = some res) :
    Mv_ l yX6_noteFault wsX6_noteFault rmX6_noteFault D K [.ref (g_t 0), .int x1] (w_X6_noteFault K g_t t_next t_kind t_start t_value t_faultKind t_faultPlace) (w_X6_noteFault K g_t t_next t_kind t_start t_value res.1 res.2) := by
  refine en_v (cc := cX6_noteFault) (maxL := 2) (own := RX6) (by decide) rfl rfl (Nat.le_of_ble_eq_true rfl) ?_
  intro p e s m args below meth c A Q H locs ls C0 hP hD hS hl HR
  obtain ⟨⟨hx, hb, hml, hown, hts⟩, hK, -⟩ := id C0
  have hl : lv_has ls 2 [(0, .ref (g_t 0)), (1, .int x1)] := hl
  unfold F_X6_noteFault at hF
  refine lv_aload_n hx hb dX6_noteFault_0 rfl (lv_at hl 0 rfl) ?_
  refine va_get (D := D) (ci := 6) (v := .int t_faultKind) (C := RX6) (T := TX6) (N := 7) hx hb hts iw_X6_noteFault_X6 hown hK hP 0 rfl rfl 5 (by decide) (hts _ fl_X6_noteFault_15) (fun _ h9 => h9) rfl dX6_noteFault_1 ?_
  refine lv_if_ne (tgt := 20) hx hb dX6_noteFault_4 (by decide) (fun c_1 => ?_) (fun c_1 => ?_)
  · have hF := it_neg c_1 hF
    obtain rfl := Option.some.inj hF
    exact HR 20 H locs ls dX6_noteFault_20 hP hD hS
  · have hF := it_pos c_1 hF
    refine lv_aload_n hx hb dX6_noteFault_7 rfl (lv_at hl 0 rfl) ?_
    refine lv_iload_n hx hb dX6_noteFault_8 rfl (lv_at hl 1 rfl) ?_
    refine va_put (D := D) (ci := 6) (v := .int x1) (ty := .int) (C := RX6) (T := TX6) (N := 7) hx hb hts iw_X6_noteFault_X6 tyX6 tyX6_ok nmX6 hown hK hP hD hS 0 rfl rfl 5 (by decide) (hts _ fl_X6_noteFault_15) (fun _ h9 => h9) rfl (by decide +kernel) rfl rfl (Nat.le_of_ble_eq_true rfl) dX6_noteFault_9 (fun H locs hP hD hS => ?_)
    have hP : va_P D vwCl (w_X6_noteFault K g_t t_next t_kind t_start t_value x1 t_faultPlace) H := hP
    have hD : va_D A (w_X6_noteFault K g_t t_next t_kind t_start t_value x1 t_faultPlace) := hD
    refine lv_aload_n hx hb dX6_noteFault_12 rfl (lv_at hl 0 rfl) ?_
    refine lv_aload_n hx hb dX6_noteFault_13 rfl (lv_at hl 0 rfl) ?_
    refine va_get (D := D) (ci := 6) (v := .int t_start) (C := RX6) (T := TX6) (N := 7) hx hb hts iw_X6_noteFault_X6 hown hK hP 0 rfl rfl 3 (by decide) (hts _ fl_X6_noteFault_67) (fun _ h9 => h9) rfl dX6_noteFault_14 ?_
    refine va_put (D := D) (ci := 6) (v := .int t_start) (ty := .int) (C := RX6) (T := TX6) (N := 7) hx hb hts iw_X6_noteFault_X6 tyX6 tyX6_ok nmX6 hown hK hP hD hS 0 rfl rfl 6 (by decide) (hts _ fl_X6_noteFault_19) (fun _ h9 => h9) rfl (by decide +kernel) rfl rfl (Nat.le_of_ble_eq_true rfl) dX6_noteFault_17 (fun H locs hP hD hS => ?_)
    have hP : va_P D vwCl (w_X6_noteFault K g_t t_next t_kind t_start t_value x1 t_start) H := hP
    have hD : va_D A (w_X6_noteFault K g_t t_next t_kind t_start t_value x1 t_start) := hD
    obtain rfl := Option.some.inj hF
    exact HR 20 H locs ls dX6_noteFault_20 hP hD hS

/-! StaggerRadar.Reader.canBe(II)Z -/
abbrev rmX6_canBe : Room := { frames := 2, cells := 0, slots := 0, locals := 42 }
theorem fl_X6_canBe_60 : Cond.fieldLink RX6 60 "StaggerRadar$Reader" "value" "I" ∈ wsX6_canBe := by decide +kernel
theorem iw_X6_canBe_X6 : ∀ w ∈ u_ws RX6 TX6 7, w ∈ wsX6_canBe := by decide +kernel
abbrev w_X6_canBe (K : Nat → ClassId) (g_t : Nat → Nat) (t_next : Int32) (t_kind : Int32) (t_start : Int32) (t_value : Int32) (t_faultKind : Int32) (t_faultPlace : Int32) : va_W := [((g_t 0), .inr (6, [.ref (g_t 1), .int t_next, .int t_kind, .int t_start, .int t_value, .int t_faultKind, .int t_faultPlace]))]
def F_X6_canBe (t_value : Int32) (x1 : Int32) (x2 : Int32) : Option (Int32) :=
  if x1 = (7 : Int32) then ((F_X10_isGap t_value).bind fun r_19 => (gd_ (decide (r_19 &&& 1 = r_19)) (some r_19))) else (if (7 : Int32) ≤ x1 then (if x2 = (0 : Int32) then ((F_X10_isWithin t_value (0 : Int32) (2999 : Int32)).bind fun r_4 => (gd_ (decide (r_4 &&& 1 = r_4)) (some r_4))) else (if x2 = (1 : Int32) then ((F_X10_isWithin t_value (0 : Int32) (500 : Int32)).bind fun r_8 => (gd_ (decide (r_8 &&& 1 = r_8)) (some r_8))) else ((F_X10_isWithin t_value (1 : Int32) (99 : Int32)).bind fun r_11 => (gd_ (decide (r_11 &&& 1 = r_11)) (some r_11))))) else (gd_ (in_b x1 7) (gd_ (in_b x1 7) ((F_X10_isWithin t_value (tb_L.getD (x1).toNatClampNeg 0) (tb_M.getD (x1).toNatClampNeg 0)).bind fun r_16 => (gd_ (decide (r_16 &&& 1 = r_16)) (some r_16))))))
set_option maxHeartbeats 4000000 in
set_option maxRecDepth 100000 in
theorem c_X6_canBe (l : Launch) (D : va_G) (K : Nat → ClassId) (g_t : Nat → Nat) (t_next : Int32) (t_kind : Int32) (t_start : Int32) (t_value : Int32) (t_faultKind : Int32) (t_faultPlace : Int32) (x1 : Int32) (x2 : Int32) (res : Int32) (hF : F_X6_canBe t_value x1 x2 = some res) :
    Mi_ l yX6_canBe wsX6_canBe rmX6_canBe D K [.ref (g_t 0), .int x1, .int x2] (w_X6_canBe K g_t t_next t_kind t_start t_value t_faultKind t_faultPlace) (w_X6_canBe K g_t t_next t_kind t_start t_value t_faultKind t_faultPlace) (res) := by
  refine en_z (cc := cX6_canBe) (maxL := 3) (own := RX6) (by decide) rfl rfl (Nat.le_of_ble_eq_true rfl) ?_
  intro p e s m args below meth c A Q H locs ls C0 hP hD hS hl HR
  obtain ⟨⟨hx, hb, hml, hown, hts⟩, hK, -⟩ := id C0
  obtain ⟨-, ⟨aA, zA, tA⟩, ⟨aL, zL, tL⟩, ⟨aM, zM, tM⟩, -⟩ := id C0.2.2.2
  have hl : lv_has ls 3 [(0, .ref (g_t 0)), (1, .int x1), (2, .int x2)] := hl
  unfold F_X6_canBe at hF
  refine lv_iload_n hx hb dX6_canBe_0 rfl (lv_at hl 1 rfl) ?_
  refine lv_bipush (v := 7) hx hb dX6_canBe_1 (by decide) ?_
  refine lv_icmp_ne (tgt := 14) hx hb dX6_canBe_3 (by decide) (fun c_1 => ?_) (fun c_1 => ?_)
  · have hF := it_neg c_1 hF
    refine lv_iload_n hx hb dX6_canBe_14 rfl (lv_at hl 1 rfl) ?_
    refine lv_bipush (v := 7) hx hb dX6_canBe_15 (by decide) ?_
    refine lv_icmp_ge (tgt := 38) hx hb dX6_canBe_17 (by decide) (fun c_2 => ?_) (fun c_2 => ?_)
    · have hF := it_pos c_2 hF
      refine lv_iload_n hx hb dX6_canBe_38 rfl (lv_at hl 2 rfl) ?_
      by_cases c_3 : x2 = (0 : Int32)
      · have hF := it_pos c_3 hF
        refine lv_lookup (off := 25) (tgt := 64) hx hb dX6_canBe_39 (by decide) (by rw [c_3]; decide) (by decide) ?_
        refine lv_aload_n hx hb dX6_canBe_64 rfl (lv_at hl 0 rfl) ?_
        refine va_get (D := D) (ci := 6) (v := .int t_value) (C := RX6) (T := TX6) (N := 7) hx hb hts iw_X6_canBe_X6 hown hK hP 0 rfl rfl 4 (by decide) (hts _ fl_X6_canBe_60) (fun _ h9 => h9) rfl dX6_canBe_65 ?_
        refine lv_iconst (v := 0) hx hb dX6_canBe_68 (by decide) ?_
        refine lv_sipush (v := 2999) hx hb dX6_canBe_69 (by decide) ?_
        obtain ⟨r_4, hc_5, hF⟩ := bn_some hF
        refine xc_i (wn := (w_X6_canBe K g_t t_next t_kind t_start t_value t_faultKind t_faultPlace)) hP hD hS C0.2.2.1 [] [0] [0] rfl rfl (by decide) (by decide) rfl (by decide) (va_runSN (host := "StaggerRadar") (As := [.int t_value, .int (0 : Int32), .int (2999 : Int32)]) (rest := []) C0.1 (c_X10_isWithin l D K t_value (0 : Int32) (2999 : Int32) r_4 hc_5 H.size) ⟨va_cnB 3 hts gX6_canBe_X10_isWithin_n94 rfl rfl rfl (C0.2.2.2.1.1 ("StaggerRadar$Reader", 94, ⟨"StaggerRadar", "isWithin", "(III)Z"⟩, "StaggerRadar") (by decide +kernel)) (hts (.initialized RX10) (by decide +kernel)) (by decide +kernel) ⟨Nat.le_of_ble_eq_true rfl, Nat.le_of_ble_eq_true rfl⟩, hts (.static yX10_isWithin) (by decide +kernel), trivial⟩ (xp_S C0.2 hP hD hS [] rfl (by decide)) rfl rfl hl.1 rfl (lv_room (Nat.le_of_ble_eq_true rfl)) dX6_canBe_72 ⟨Nat.le_of_ble_eq_true rfl, Nat.le_of_ble_eq_true rfl⟩) (fun H locs hP hD hS => ?_)
        obtain ⟨hg_6, hF⟩ := gd_some hF
        obtain rfl := Option.some.inj hF
        exact HR 75 H locs ls dX6_canBe_75 (zn_of hg_6) hP hD hS
      have hF := it_neg c_3 hF
      by_cases c_7 : x2 = (1 : Int32)
      · have hF := it_pos c_7 hF
        refine lv_lookup (off := 37) (tgt := 76) hx hb dX6_canBe_39 (by decide) (by rw [c_7]; decide) (by decide) ?_
        refine lv_aload_n hx hb dX6_canBe_76 rfl (lv_at hl 0 rfl) ?_
        refine va_get (D := D) (ci := 6) (v := .int t_value) (C := RX6) (T := TX6) (N := 7) hx hb hts iw_X6_canBe_X6 hown hK hP 0 rfl rfl 4 (by decide) (hts _ fl_X6_canBe_60) (fun _ h9 => h9) rfl dX6_canBe_77 ?_
        refine lv_iconst (v := 0) hx hb dX6_canBe_80 (by decide) ?_
        refine lv_sipush (v := 500) hx hb dX6_canBe_81 (by decide) ?_
        obtain ⟨r_8, hc_9, hF⟩ := bn_some hF
        refine xc_i (wn := (w_X6_canBe K g_t t_next t_kind t_start t_value t_faultKind t_faultPlace)) hP hD hS C0.2.2.1 [] [0] [0] rfl rfl (by decide) (by decide) rfl (by decide) (va_runSN (host := "StaggerRadar") (As := [.int t_value, .int (0 : Int32), .int (500 : Int32)]) (rest := []) C0.1 (c_X10_isWithin l D K t_value (0 : Int32) (500 : Int32) r_8 hc_9 H.size) ⟨va_cnB 3 hts gX6_canBe_X10_isWithin_n94 rfl rfl rfl (C0.2.2.2.1.1 ("StaggerRadar$Reader", 94, ⟨"StaggerRadar", "isWithin", "(III)Z"⟩, "StaggerRadar") (by decide +kernel)) (hts (.initialized RX10) (by decide +kernel)) (by decide +kernel) ⟨Nat.le_of_ble_eq_true rfl, Nat.le_of_ble_eq_true rfl⟩, hts (.static yX10_isWithin) (by decide +kernel), trivial⟩ (xp_S C0.2 hP hD hS [] rfl (by decide)) rfl rfl hl.1 rfl (lv_room (Nat.le_of_ble_eq_true rfl)) dX6_canBe_84 ⟨Nat.le_of_ble_eq_true rfl, Nat.le_of_ble_eq_true rfl⟩) (fun H locs hP hD hS => ?_)
        obtain ⟨hg_10, hF⟩ := gd_some hF
        obtain rfl := Option.some.inj hF
        exact HR 87 H locs ls dX6_canBe_87 (zn_of hg_10) hP hD hS
      have hF := it_neg c_7 hF
      refine lv_lookup (off := 49) (tgt := 88) hx hb dX6_canBe_39 (by decide) ((lv_osw c_3 (by decide)).trans ((lv_osw c_7 (by decide)).trans rfl)) (by decide) ?_
      refine lv_aload_n hx hb dX6_canBe_88 rfl (lv_at hl 0 rfl) ?_
      refine va_get (D := D) (ci := 6) (v := .int t_value) (C := RX6) (T := TX6) (N := 7) hx hb hts iw_X6_canBe_X6 hown hK hP 0 rfl rfl 4 (by decide) (hts _ fl_X6_canBe_60) (fun _ h9 => h9) rfl dX6_canBe_89 ?_
      refine lv_iconst (v := 1) hx hb dX6_canBe_92 (by decide) ?_
      refine lv_bipush (v := 99) hx hb dX6_canBe_93 (by decide) ?_
      obtain ⟨r_11, hc_12, hF⟩ := bn_some hF
      refine xc_i (wn := (w_X6_canBe K g_t t_next t_kind t_start t_value t_faultKind t_faultPlace)) hP hD hS C0.2.2.1 [] [0] [0] rfl rfl (by decide) (by decide) rfl (by decide) (va_runSN (host := "StaggerRadar") (As := [.int t_value, .int (1 : Int32), .int (99 : Int32)]) (rest := []) C0.1 (c_X10_isWithin l D K t_value (1 : Int32) (99 : Int32) r_11 hc_12 H.size) ⟨va_cnB 3 hts gX6_canBe_X10_isWithin_n94 rfl rfl rfl (C0.2.2.2.1.1 ("StaggerRadar$Reader", 94, ⟨"StaggerRadar", "isWithin", "(III)Z"⟩, "StaggerRadar") (by decide +kernel)) (hts (.initialized RX10) (by decide +kernel)) (by decide +kernel) ⟨Nat.le_of_ble_eq_true rfl, Nat.le_of_ble_eq_true rfl⟩, hts (.static yX10_isWithin) (by decide +kernel), trivial⟩ (xp_S C0.2 hP hD hS [] rfl (by decide)) rfl rfl hl.1 rfl (lv_room (Nat.le_of_ble_eq_true rfl)) dX6_canBe_95 ⟨Nat.le_of_ble_eq_true rfl, Nat.le_of_ble_eq_true rfl⟩) (fun H locs hP hD hS => ?_)
      obtain ⟨hg_13, hF⟩ := gd_some hF
      obtain rfl := Option.some.inj hF
      exact HR 98 H locs ls dX6_canBe_98 (zn_of hg_13) hP hD hS
    · have hF := it_neg c_2 hF
      refine lv_aload_n hx hb dX6_canBe_20 rfl (lv_at hl 0 rfl) ?_
      refine va_get (D := D) (ci := 6) (v := .int t_value) (C := RX6) (T := TX6) (N := 7) hx hb hts iw_X6_canBe_X6 hown hK hP 0 rfl rfl 4 (by decide) (hts _ fl_X6_canBe_60) (fun _ h9 => h9) rfl dX6_canBe_21 ?_
      refine va_getsN hx hb zL hS hown (va_Nw.use rfl C0.2.2.2.1.2.2.1) (fun _ h9 => h9) dX6_canBe_24 ?_
      refine lv_iload_n hx hb dX6_canBe_27 rfl (lv_at hl 1 rfl) ?_
      obtain ⟨hg_14, hF⟩ := gd_some hF
      refine va_ti (v := .int (tb_L.getD (x1).toNatClampNeg 0)) hx hb tL hS (in_v hg_14) rfl dX6_canBe_28 ?_
      refine va_getsN hx hb zM hS hown (va_Nw.use rfl C0.2.2.2.1.2.2.2) (fun _ h9 => h9) dX6_canBe_29 ?_
      refine lv_iload_n hx hb dX6_canBe_32 rfl (lv_at hl 1 rfl) ?_
      obtain ⟨hg_15, hF⟩ := gd_some hF
      refine va_ti (v := .int (tb_M.getD (x1).toNatClampNeg 0)) hx hb tM hS (in_v hg_15) rfl dX6_canBe_33 ?_
      obtain ⟨r_16, hc_17, hF⟩ := bn_some hF
      refine xc_i (wn := (w_X6_canBe K g_t t_next t_kind t_start t_value t_faultKind t_faultPlace)) hP hD hS C0.2.2.1 [] [0] [0] rfl rfl (by decide) (by decide) rfl (by decide) (va_runSN (host := "StaggerRadar") (As := [.int t_value, .int (tb_L.getD (x1).toNatClampNeg 0), .int (tb_M.getD (x1).toNatClampNeg 0)]) (rest := []) C0.1 (c_X10_isWithin l D K t_value (tb_L.getD (x1).toNatClampNeg 0) (tb_M.getD (x1).toNatClampNeg 0) r_16 hc_17 H.size) ⟨va_cnB 3 hts gX6_canBe_X10_isWithin_n94 rfl rfl rfl (C0.2.2.2.1.1 ("StaggerRadar$Reader", 94, ⟨"StaggerRadar", "isWithin", "(III)Z"⟩, "StaggerRadar") (by decide +kernel)) (hts (.initialized RX10) (by decide +kernel)) (by decide +kernel) ⟨Nat.le_of_ble_eq_true rfl, Nat.le_of_ble_eq_true rfl⟩, hts (.static yX10_isWithin) (by decide +kernel), trivial⟩ (xp_S C0.2 hP hD hS [] rfl (by decide)) rfl rfl hl.1 rfl (lv_room (Nat.le_of_ble_eq_true rfl)) dX6_canBe_34 ⟨Nat.le_of_ble_eq_true rfl, Nat.le_of_ble_eq_true rfl⟩) (fun H locs hP hD hS => ?_)
      obtain ⟨hg_18, hF⟩ := gd_some hF
      obtain rfl := Option.some.inj hF
      exact HR 37 H locs ls dX6_canBe_37 (zn_of hg_18) hP hD hS
  · have hF := it_pos c_1 hF
    refine lv_aload_n hx hb dX6_canBe_6 rfl (lv_at hl 0 rfl) ?_
    refine va_get (D := D) (ci := 6) (v := .int t_value) (C := RX6) (T := TX6) (N := 7) hx hb hts iw_X6_canBe_X6 hown hK hP 0 rfl rfl 4 (by decide) (hts _ fl_X6_canBe_60) (fun _ h9 => h9) rfl dX6_canBe_7 ?_
    obtain ⟨r_19, hc_20, hF⟩ := bn_some hF
    refine xc_i (wn := (w_X6_canBe K g_t t_next t_kind t_start t_value t_faultKind t_faultPlace)) hP hD hS C0.2.2.1 [] [0] [0] rfl rfl (by decide) (by decide) rfl (by decide) (va_runSN (host := "StaggerRadar") (As := [.int t_value]) (rest := []) C0.1 (c_X10_isGap l D K t_value r_19 hc_20 H.size) ⟨va_cnB 1 hts gX6_canBe_X10_isGap_n84 rfl rfl rfl (C0.2.2.2.1.1 ("StaggerRadar$Reader", 84, ⟨"StaggerRadar", "isGap", "(I)Z"⟩, "StaggerRadar") (by decide +kernel)) (hts (.initialized RX10) (by decide +kernel)) (by decide +kernel) ⟨Nat.le_of_ble_eq_true rfl, Nat.le_of_ble_eq_true rfl⟩, hts (.static yX10_isGap) (by decide +kernel), trivial⟩ (xp_S C0.2 hP hD hS [] rfl (by decide)) rfl rfl hl.1 rfl (lv_room (Nat.le_of_ble_eq_true rfl)) dX6_canBe_10 ⟨Nat.le_of_ble_eq_true rfl, Nat.le_of_ble_eq_true rfl⟩) (fun H locs hP hD hS => ?_)
    obtain ⟨hg_21, hF⟩ := gd_some hF
    obtain rfl := Option.some.inj hF
    exact HR 13 H locs ls dX6_canBe_13 (zn_of hg_21) hP hD hS

/-! StaggerRadar.Reader.checkNumber(LStaggerRadar$Radar;II)V -/
abbrev rmX6_checkNumber : Room := { frames := 3, cells := 0, slots := 0, locals := 64 }
theorem fl_X6_checkNumber_60 : Cond.fieldLink RX6 60 "StaggerRadar$Reader" "value" "I" ∈ wsX6_checkNumber := by decide +kernel
theorem iw_X6_checkNumber_X5 : ∀ w ∈ u_ws RX5 TX5 13, w ∈ wsX6_checkNumber := by decide +kernel
theorem iw_X6_checkNumber_X6 : ∀ w ∈ u_ws RX6 TX6 7, w ∈ wsX6_checkNumber := by decide +kernel
abbrev w_X6_checkNumber (K : Nat → ClassId) (g_t : Nat → Nat) (g_p1 : Nat → Nat) (t_next : Int32) (t_kind : Int32) (t_start : Int32) (t_value : Int32) (t_faultKind : Int32) (t_faultPlace : Int32) (p1_gapCount : Int32) (p1_targetCount : Int32) (p1_lookCount : Int32) (p1_time : Int32) (p1_gone : Int32) (p1_gaps : Nat → Int32) : va_W := [((g_t 0), .inr (6, [.ref (g_t 1), .int t_next, .int t_kind, .int t_start, .int t_value, .int t_faultKind, .int t_faultPlace])), ((g_p1 0), .inr (5, [.ref (g_p1 1), .ref (g_p1 2), .ref (g_p1 3), .ref (g_p1 4), .ref (g_p1 5), .ref (g_p1 6), .ref (g_p1 7), .ref (g_p1 8), .int p1_gapCount, .int p1_targetCount, .int p1_lookCount, .int p1_time, .int p1_gone])), ((g_p1 1), .inl (K 0, 5, .inl p1_gaps))]
def F_X6_checkNumber (t_start : Int32) (t_value : Int32) (t_faultKind : Int32) (t_faultPlace : Int32) (p1_gapCount : Int32) (p1_gaps : Nat → Int32) (x2 : Int32) (x3 : Int32) : Option (Int32 × Int32) :=
  (F_X6_canBe t_value x2 x3).bind fun r_1 => (if r_1 = (0 : Int32) then ((F_X6_noteFault t_start t_faultKind t_faultPlace (2 : Int32)).bind fun r_10 => (some (r_10.1, r_10.2))) else (if x2 = (7 : Int32) then ((F_X5_indexOfGap p1_gapCount p1_gaps t_value).bind fun r_5 => (if r_5 = (-1 : Int32) then (some (t_faultKind, t_faultPlace)) else ((F_X6_noteFault t_start t_faultKind t_faultPlace (3 : Int32)).bind fun r_8 => (some (r_8.1, r_8.2))))) else (some (t_faultKind, t_faultPlace))))
set_option maxHeartbeats 4000000 in
set_option maxRecDepth 100000 in
theorem c_X6_checkNumber (l : Launch) (D : va_G) (K : Nat → ClassId) (g_t : Nat → Nat) (g_p1 : Nat → Nat) (t_next : Int32) (t_kind : Int32) (t_start : Int32) (t_value : Int32) (t_faultKind : Int32) (t_faultPlace : Int32) (p1_gapCount : Int32) (p1_targetCount : Int32) (p1_lookCount : Int32) (p1_time : Int32) (p1_gone : Int32) (p1_gaps : Nat → Int32) (x2 : Int32) (x3 : Int32) (res : Int32 × Int32) (hF : F_X6_checkNumber t_start t_value t_faultKind t_faultPlace p1_gapCount p1_gaps x2 x3 = some res) :
    Mv_ l yX6_checkNumber wsX6_checkNumber rmX6_checkNumber D K [.ref (g_t 0), .ref (g_p1 0), .int x2, .int x3] (w_X6_checkNumber K g_t g_p1 t_next t_kind t_start t_value t_faultKind t_faultPlace p1_gapCount p1_targetCount p1_lookCount p1_time p1_gone p1_gaps) (w_X6_checkNumber K g_t g_p1 t_next t_kind t_start t_value res.1 res.2 p1_gapCount p1_targetCount p1_lookCount p1_time p1_gone p1_gaps) := by
  refine en_v (cc := cX6_checkNumber) (maxL := 4) (own := RX6) (by decide) rfl rfl (Nat.le_of_ble_eq_true rfl) ?_
  intro p e s m args below meth c A Q H locs ls C0 hP hD hS hl HR
  obtain ⟨⟨hx, hb, hml, hown, hts⟩, hK, -⟩ := id C0
  obtain ⟨-, ⟨aA, zA, tA⟩, ⟨aL, zL, tL⟩, ⟨aM, zM, tM⟩, -⟩ := id C0.2.2.2
  have hl : lv_has ls 4 [(0, .ref (g_t 0)), (1, .ref (g_p1 0)), (2, .int x2), (3, .int x3)] := hl
  unfold F_X6_checkNumber at hF
  refine lv_aload_n hx hb dX6_checkNumber_0 rfl (lv_at hl 0 rfl) ?_
  refine lv_iload_n hx hb dX6_checkNumber_1 rfl (lv_at hl 2 rfl) ?_
  refine lv_iload_n hx hb dX6_checkNumber_2 rfl (lv_at hl 3 rfl) ?_
  obtain ⟨r_1, hc_2, hF⟩ := bn_some hF
  refine xc_i (wn := (w_X6_checkNumber K g_t g_p1 t_next t_kind t_start t_value t_faultKind t_faultPlace p1_gapCount p1_targetCount p1_lookCount p1_time p1_gone p1_gaps)) hP hD hS C0.2.2.1 [0] [1, 2] [2, 0, 1] rfl rfl (by decide) (by decide) rfl (by decide) (va_runV (As := [.int x2, .int x3]) (rest := []) C0.1 (c_X6_canBe l D K g_t t_next t_kind t_start t_value t_faultKind t_faultPlace x2 x3 r_1 hc_2 H.size) (cwV 2 hts gX6_checkNumber_X6_canBe rfl rfl rfl (by decide +kernel) ⟨Nat.le_of_ble_eq_true rfl, Nat.le_of_ble_eq_true rfl⟩) (xp_V C0.2 hP hD hS [0] rfl (by decide) 6 0 rfl rfl rfl) rfl rfl hl.1 rfl (lv_room (Nat.le_of_ble_eq_true rfl)) dX6_checkNumber_3 ⟨Nat.le_of_ble_eq_true rfl, Nat.le_of_ble_eq_true rfl⟩) (fun H locs hP hD hS => ?_)
  refine lv_if_ne (tgt := 17) hx hb dX6_checkNumber_6 (by decide) (fun c_3 => ?_) (fun c_3 => ?_)
  · have hF := it_neg c_3 hF
    refine lv_iload_n hx hb dX6_checkNumber_17 rfl (lv_at hl 2 rfl) ?_
    refine lv_bipush (v := 7) hx hb dX6_checkNumber_18 (by decide) ?_
    refine lv_icmp_ne (tgt := 40) hx hb dX6_checkNumber_20 (by decide) (fun c_4 => ?_) (fun c_4 => ?_)
    · have hF := it_neg c_4 hF
      obtain rfl := Option.some.inj hF
      exact HR 40 H locs ls dX6_checkNumber_40 hP hD hS
    · have hF := it_pos c_4 hF
      refine lv_aload_n hx hb dX6_checkNumber_23 rfl (lv_at hl 1 rfl) ?_
      refine lv_aload_n hx hb dX6_checkNumber_24 rfl (lv_at hl 0 rfl) ?_
      refine va_get (D := D) (ci := 6) (v := .int t_value) (C := RX6) (T := TX6) (N := 7) hx hb hts iw_X6_checkNumber_X6 hown hK hP 0 rfl rfl 4 (by decide) (hts _ fl_X6_checkNumber_60) (fun _ h9 => h9) rfl dX6_checkNumber_25 ?_
      obtain ⟨r_5, hc_6, hF⟩ := bn_some hF
      refine xc_i (wn := (w_X6_checkNumber K g_t g_p1 t_next t_kind t_start t_value t_faultKind t_faultPlace p1_gapCount p1_targetCount p1_lookCount p1_time p1_gone p1_gaps)) hP hD hS C0.2.2.1 [1, 2] [0] [0, 1, 2] rfl rfl (by decide) (by decide) rfl (by decide) (va_runV (As := [.int t_value]) (rest := []) C0.1 (c_X5_indexOfGap l D K g_p1 p1_gapCount p1_targetCount p1_lookCount p1_time p1_gone p1_gaps t_value r_5 hc_6 H.size) (cwV 1 hts gX6_checkNumber_X5_indexOfGap rfl rfl rfl (by decide +kernel) ⟨Nat.le_of_ble_eq_true rfl, Nat.le_of_ble_eq_true rfl⟩) (xp_V C0.2 hP hD hS [1, 2] rfl (by decide) 5 0 rfl rfl rfl) rfl rfl hl.1 rfl (lv_room (Nat.le_of_ble_eq_true rfl)) dX6_checkNumber_28 ⟨Nat.le_of_ble_eq_true rfl, Nat.le_of_ble_eq_true rfl⟩) (fun H locs hP hD hS => ?_)
      refine lv_iconst (v := (-1)) hx hb dX6_checkNumber_31 (by decide) ?_
      refine lv_icmp_eq (tgt := 40) hx hb dX6_checkNumber_32 (by decide) (fun c_7 => ?_) (fun c_7 => ?_)
      · have hF := it_pos c_7 hF
        obtain rfl := Option.some.inj hF
        exact HR 40 H locs ls dX6_checkNumber_40 hP hD hS
      · have hF := it_neg c_7 hF
        refine lv_aload_n hx hb dX6_checkNumber_35 rfl (lv_at hl 0 rfl) ?_
        refine lv_iconst (v := 3) hx hb dX6_checkNumber_36 (by decide) ?_
        obtain ⟨r_8, hc_9, hF⟩ := bn_some hF
        refine xc_v (wn := (w_X6_checkNumber K g_t g_p1 t_next t_kind t_start t_value r_8.1 r_8.2 p1_gapCount p1_targetCount p1_lookCount p1_time p1_gone p1_gaps)) hP hD hS C0.2.2.1 [0] [1, 2] [2, 0, 1] rfl rfl (by decide) (by decide) rfl (by decide) (va_runV (As := [.int (3 : Int32)]) (rest := []) C0.1 (c_X6_noteFault l D K g_t t_next t_kind t_start t_value t_faultKind t_faultPlace (3 : Int32) r_8 hc_9 H.size) (cwV 1 hts gX6_checkNumber_X6_noteFault rfl rfl rfl (by decide +kernel) ⟨Nat.le_of_ble_eq_true rfl, Nat.le_of_ble_eq_true rfl⟩) (xp_V C0.2 hP hD hS [0] rfl (by decide) 6 0 rfl rfl rfl) rfl rfl hl.1 rfl (lv_room (Nat.le_of_ble_eq_true rfl)) dX6_checkNumber_37 ⟨Nat.le_of_ble_eq_true rfl, Nat.le_of_ble_eq_true rfl⟩) (fun H locs hP hD hS => ?_)
        obtain rfl := Option.some.inj hF
        exact HR 40 H locs ls dX6_checkNumber_40 hP hD hS
  · have hF := it_pos c_3 hF
    refine lv_aload_n hx hb dX6_checkNumber_9 rfl (lv_at hl 0 rfl) ?_
    refine lv_iconst (v := 2) hx hb dX6_checkNumber_10 (by decide) ?_
    obtain ⟨r_10, hc_11, hF⟩ := bn_some hF
    refine xc_v (wn := (w_X6_checkNumber K g_t g_p1 t_next t_kind t_start t_value r_10.1 r_10.2 p1_gapCount p1_targetCount p1_lookCount p1_time p1_gone p1_gaps)) hP hD hS C0.2.2.1 [0] [1, 2] [2, 0, 1] rfl rfl (by decide) (by decide) rfl (by decide) (va_runV (As := [.int (2 : Int32)]) (rest := []) C0.1 (c_X6_noteFault l D K g_t t_next t_kind t_start t_value t_faultKind t_faultPlace (2 : Int32) r_10 hc_11 H.size) (cwV 1 hts gX6_checkNumber_X6_noteFault rfl rfl rfl (by decide +kernel) ⟨Nat.le_of_ble_eq_true rfl, Nat.le_of_ble_eq_true rfl⟩) (xp_V C0.2 hP hD hS [0] rfl (by decide) 6 0 rfl rfl rfl) rfl rfl hl.1 rfl (lv_room (Nat.le_of_ble_eq_true rfl)) dX6_checkNumber_11 ⟨Nat.le_of_ble_eq_true rfl, Nat.le_of_ble_eq_true rfl⟩) (fun H locs hP hD hS => ?_)
    refine lv_goto (tgt := 40) hx hb dX6_checkNumber_14 (by decide) ?_
    obtain rfl := Option.some.inj hF
    exact HR 40 H locs ls dX6_checkNumber_40 hP hD hS

/-! StaggerRadar.Radar.addTarget(III)V -/
abbrev rmX5_addTarget : Room := { frames := 0, cells := 0, slots := 0, locals := 0 }
theorem fl_X5_addTarget_18 : Cond.fieldLink RX5 18 "StaggerRadar$Radar" "spots" "[I" ∈ wsX5_addTarget := by decide +kernel
theorem fl_X5_addTarget_21 : Cond.fieldLink RX5 21 "StaggerRadar$Radar" "speeds" "[I" ∈ wsX5_addTarget := by decide +kernel
theorem fl_X5_addTarget_24 : Cond.fieldLink RX5 24 "StaggerRadar$Radar" "strengths" "[I" ∈ wsX5_addTarget := by decide +kernel
theorem fl_X5_addTarget_49 : Cond.fieldLink RX5 49 "StaggerRadar$Radar" "targetCount" "I" ∈ wsX5_addTarget := by decide +kernel
theorem iw_X5_addTarget_X5 : ∀ w ∈ u_ws RX5 TX5 13, w ∈ wsX5_addTarget := by decide +kernel
abbrev w_X5_addTarget (K : Nat → ClassId) (g_t : Nat → Nat) (t_gapCount : Int32) (t_targetCount : Int32) (t_lookCount : Int32) (t_time : Int32) (t_gone : Int32) (t_spots : Nat → Int32) (t_speeds : Nat → Int32) (t_strengths : Nat → Int32) : va_W := [((g_t 0), .inr (5, [.ref (g_t 1), .ref (g_t 2), .ref (g_t 3), .ref (g_t 4), .ref (g_t 5), .ref (g_t 6), .ref (g_t 7), .ref (g_t 8), .int t_gapCount, .int t_targetCount, .int t_lookCount, .int t_time, .int t_gone])), ((g_t 3), .inl (K 0, 8, .inl t_spots)), ((g_t 4), .inl (K 0, 8, .inl t_speeds)), ((g_t 5), .inl (K 0, 8, .inl t_strengths))]
def F_X5_addTarget (t_targetCount : Int32) (t_spots : Nat → Int32) (t_speeds : Nat → Int32) (t_strengths : Nat → Int32) (x1 : Int32) (x2 : Int32) (x3 : Int32) : Option (Int32 × (Nat → Int32) × (Nat → Int32) × (Nat → Int32)) :=
  if t_targetCount < (8 : Int32) then (gd_ (in_b t_targetCount 8) (gd_ (in_b t_targetCount 8) (gd_ (in_b t_targetCount 8) (some ((t_targetCount + (1 : Int32)), (upd t_spots (t_targetCount).toNatClampNeg (x1 * (16 : Int32))), (upd t_speeds (t_targetCount).toNatClampNeg x2), (upd t_strengths (t_targetCount).toNatClampNeg x3)))))) else (some (t_targetCount, t_spots, t_speeds, t_strengths))
set_option maxHeartbeats 4000000 in
set_option maxRecDepth 100000 in
theorem c_X5_addTarget (l : Launch) (D : va_G) (K : Nat → ClassId) (g_t : Nat → Nat) (t_gapCount : Int32) (t_targetCount : Int32) (t_lookCount : Int32) (t_time : Int32) (t_gone : Int32) (t_spots : Nat → Int32) (t_speeds : Nat → Int32) (t_strengths : Nat → Int32) (x1 : Int32) (x2 : Int32) (x3 : Int32) (res : Int32 × (Nat → Int32) × (Nat → Int32) × (Nat → Int32)) (hF : F_X5_addTarget t_targetCount t_spots t_speeds t_strengths x1 x2 x3 = some res) :
    Mv_ l yX5_addTarget wsX5_addTarget rmX5_addTarget D K [.ref (g_t 0), .int x1, .int x2, .int x3] (w_X5_addTarget K g_t t_gapCount t_targetCount t_lookCount t_time t_gone t_spots t_speeds t_strengths) (w_X5_addTarget K g_t t_gapCount res.1 t_lookCount t_time t_gone res.2.1 res.2.2.1 res.2.2.2) := by
  refine en_v (cc := cX5_addTarget) (maxL := 4) (own := RX5) (by decide) rfl rfl (Nat.le_of_ble_eq_true rfl) ?_
  intro p e s m args below meth c A Q H locs ls C0 hP hD hS hl HR
  obtain ⟨⟨hx, hb, hml, hown, hts⟩, hK, -⟩ := id C0
  have hl : lv_has ls 4 [(0, .ref (g_t 0)), (1, .int x1), (2, .int x2), (3, .int x3)] := hl
  unfold F_X5_addTarget at hF
  refine lv_aload_n hx hb dX5_addTarget_0 rfl (lv_at hl 0 rfl) ?_
  refine va_get (D := D) (ci := 5) (v := .int t_targetCount) (C := RX5) (T := TX5) (N := 13) hx hb hts iw_X5_addTarget_X5 hown hK hP 0 rfl rfl 9 (by decide) (hts _ fl_X5_addTarget_49) (fun _ h9 => h9) rfl dX5_addTarget_1 ?_
  refine lv_bipush (v := 8) hx hb dX5_addTarget_4 (by decide) ?_
  refine lv_icmp_lt (tgt := 10) hx hb dX5_addTarget_6 (by decide) (fun c_1 => ?_) (fun c_1 => ?_)
  · have hF := it_pos c_1 hF
    refine lv_aload_n hx hb dX5_addTarget_10 rfl (lv_at hl 0 rfl) ?_
    refine va_get (D := D) (ci := 5) (v := .ref (g_t 3)) (C := RX5) (T := TX5) (N := 13) hx hb hts iw_X5_addTarget_X5 hown hK hP 0 rfl rfl 2 (by decide) (hts _ fl_X5_addTarget_18) (fun _ h9 => h9) rfl dX5_addTarget_11 ?_
    refine lv_aload_n hx hb dX5_addTarget_14 rfl (lv_at hl 0 rfl) ?_
    refine va_get (D := D) (ci := 5) (v := .int t_targetCount) (C := RX5) (T := TX5) (N := 13) hx hb hts iw_X5_addTarget_X5 hown hK hP 0 rfl rfl 9 (by decide) (hts _ fl_X5_addTarget_49) (fun _ h9 => h9) rfl dX5_addTarget_15 ?_
    refine lv_iload_n hx hb dX5_addTarget_18 rfl (lv_at hl 1 rfl) ?_
    refine lv_bipush (v := 16) hx hb dX5_addTarget_19 (by decide) ?_
    refine lv_imul hx hb dX5_addTarget_21 ?_
    obtain ⟨hg_2, hF⟩ := gd_some hF
    refine xs_i (f := t_spots) hx hb hK hP hD hS 1 0 rfl rfl rfl (in_v hg_2) dX5_addTarget_22 (fun H locs hP hD hS => ?_)
    have hP : va_P D vwCl (w_X5_addTarget K g_t t_gapCount t_targetCount t_lookCount t_time t_gone (upd t_spots (t_targetCount).toNatClampNeg (x1 * (16 : Int32))) t_speeds t_strengths) H := hP
    have hD : va_D A (w_X5_addTarget K g_t t_gapCount t_targetCount t_lookCount t_time t_gone (upd t_spots (t_targetCount).toNatClampNeg (x1 * (16 : Int32))) t_speeds t_strengths) := hD
    refine lv_aload_n hx hb dX5_addTarget_23 rfl (lv_at hl 0 rfl) ?_
    refine va_get (D := D) (ci := 5) (v := .ref (g_t 4)) (C := RX5) (T := TX5) (N := 13) hx hb hts iw_X5_addTarget_X5 hown hK hP 0 rfl rfl 3 (by decide) (hts _ fl_X5_addTarget_21) (fun _ h9 => h9) rfl dX5_addTarget_24 ?_
    refine lv_aload_n hx hb dX5_addTarget_27 rfl (lv_at hl 0 rfl) ?_
    refine va_get (D := D) (ci := 5) (v := .int t_targetCount) (C := RX5) (T := TX5) (N := 13) hx hb hts iw_X5_addTarget_X5 hown hK hP 0 rfl rfl 9 (by decide) (hts _ fl_X5_addTarget_49) (fun _ h9 => h9) rfl dX5_addTarget_28 ?_
    refine lv_iload_n hx hb dX5_addTarget_31 rfl (lv_at hl 2 rfl) ?_
    obtain ⟨hg_3, hF⟩ := gd_some hF
    refine xs_i (f := t_speeds) hx hb hK hP hD hS 2 0 rfl rfl rfl (in_v hg_3) dX5_addTarget_32 (fun H locs hP hD hS => ?_)
    have hP : va_P D vwCl (w_X5_addTarget K g_t t_gapCount t_targetCount t_lookCount t_time t_gone (upd t_spots (t_targetCount).toNatClampNeg (x1 * (16 : Int32))) (upd t_speeds (t_targetCount).toNatClampNeg x2) t_strengths) H := hP
    have hD : va_D A (w_X5_addTarget K g_t t_gapCount t_targetCount t_lookCount t_time t_gone (upd t_spots (t_targetCount).toNatClampNeg (x1 * (16 : Int32))) (upd t_speeds (t_targetCount).toNatClampNeg x2) t_strengths) := hD
    refine lv_aload_n hx hb dX5_addTarget_33 rfl (lv_at hl 0 rfl) ?_
    refine va_get (D := D) (ci := 5) (v := .ref (g_t 5)) (C := RX5) (T := TX5) (N := 13) hx hb hts iw_X5_addTarget_X5 hown hK hP 0 rfl rfl 4 (by decide) (hts _ fl_X5_addTarget_24) (fun _ h9 => h9) rfl dX5_addTarget_34 ?_
    refine lv_aload_n hx hb dX5_addTarget_37 rfl (lv_at hl 0 rfl) ?_
    refine va_get (D := D) (ci := 5) (v := .int t_targetCount) (C := RX5) (T := TX5) (N := 13) hx hb hts iw_X5_addTarget_X5 hown hK hP 0 rfl rfl 9 (by decide) (hts _ fl_X5_addTarget_49) (fun _ h9 => h9) rfl dX5_addTarget_38 ?_
    refine lv_iload_n hx hb dX5_addTarget_41 rfl (lv_at hl 3 rfl) ?_
    obtain ⟨hg_4, hF⟩ := gd_some hF
    refine xs_i (f := t_strengths) hx hb hK hP hD hS 3 0 rfl rfl rfl (in_v hg_4) dX5_addTarget_42 (fun H locs hP hD hS => ?_)
    have hP : va_P D vwCl (w_X5_addTarget K g_t t_gapCount t_targetCount t_lookCount t_time t_gone (upd t_spots (t_targetCount).toNatClampNeg (x1 * (16 : Int32))) (upd t_speeds (t_targetCount).toNatClampNeg x2) (upd t_strengths (t_targetCount).toNatClampNeg x3)) H := hP
    have hD : va_D A (w_X5_addTarget K g_t t_gapCount t_targetCount t_lookCount t_time t_gone (upd t_spots (t_targetCount).toNatClampNeg (x1 * (16 : Int32))) (upd t_speeds (t_targetCount).toNatClampNeg x2) (upd t_strengths (t_targetCount).toNatClampNeg x3)) := hD
    refine lv_aload_n hx hb dX5_addTarget_43 rfl (lv_at hl 0 rfl) ?_
    refine lv_dup hx hb dX5_addTarget_44 rfl ?_
    refine va_get (D := D) (ci := 5) (v := .int t_targetCount) (C := RX5) (T := TX5) (N := 13) hx hb hts iw_X5_addTarget_X5 hown hK hP 0 rfl rfl 9 (by decide) (hts _ fl_X5_addTarget_49) (fun _ h9 => h9) rfl dX5_addTarget_45 ?_
    refine lv_iconst (v := 1) hx hb dX5_addTarget_48 (by decide) ?_
    refine lv_iadd hx hb dX5_addTarget_49 ?_
    refine va_put (D := D) (ci := 5) (v := .int (t_targetCount + (1 : Int32))) (ty := .int) (C := RX5) (T := TX5) (N := 13) hx hb hts iw_X5_addTarget_X5 tyX5 tyX5_ok nmX5 hown hK hP hD hS 0 rfl rfl 9 (by decide) (hts _ fl_X5_addTarget_49) (fun _ h9 => h9) rfl (by decide +kernel) rfl rfl (Nat.le_of_ble_eq_true rfl) dX5_addTarget_50 (fun H locs hP hD hS => ?_)
    have hP : va_P D vwCl (w_X5_addTarget K g_t t_gapCount (t_targetCount + (1 : Int32)) t_lookCount t_time t_gone (upd t_spots (t_targetCount).toNatClampNeg (x1 * (16 : Int32))) (upd t_speeds (t_targetCount).toNatClampNeg x2) (upd t_strengths (t_targetCount).toNatClampNeg x3)) H := hP
    have hD : va_D A (w_X5_addTarget K g_t t_gapCount (t_targetCount + (1 : Int32)) t_lookCount t_time t_gone (upd t_spots (t_targetCount).toNatClampNeg (x1 * (16 : Int32))) (upd t_speeds (t_targetCount).toNatClampNeg x2) (upd t_strengths (t_targetCount).toNatClampNeg x3)) := hD
    obtain rfl := Option.some.inj hF
    exact HR 53 H locs ls dX5_addTarget_53 hP hD hS
  · have hF := it_neg c_1 hF
    obtain rfl := Option.some.inj hF
    exact HR 9 H locs ls dX5_addTarget_9 hP hD hS

/-! StaggerRadar.Reader.apply(LStaggerRadar$Radar;I)V -/
abbrev rmX6_apply : Room := { frames := 1, cells := 0, slots := 0, locals := 23 }
theorem fl_X6_apply_9 : Cond.fieldLink RX6 9 "StaggerRadar$Reader" "numbers" "[I" ∈ wsX6_apply := by decide +kernel
theorem fl_X6_apply_101 : Cond.fieldLink RX6 101 "StaggerRadar$Radar" "settings" "[I" ∈ wsX6_apply := by decide +kernel
theorem iw_X6_apply_X5 : ∀ w ∈ u_ws RX5 TX5 13, w ∈ wsX6_apply := by decide +kernel
theorem iw_X6_apply_X6 : ∀ w ∈ u_ws RX6 TX6 7, w ∈ wsX6_apply := by decide +kernel
abbrev w_X6_apply (K : Nat → ClassId) (g_t : Nat → Nat) (g_p1 : Nat → Nat) (t_next : Int32) (t_kind : Int32) (t_start : Int32) (t_value : Int32) (t_faultKind : Int32) (t_faultPlace : Int32) (t_numbers : Nat → Int32) (p1_gapCount : Int32) (p1_targetCount : Int32) (p1_lookCount : Int32) (p1_time : Int32) (p1_gone : Int32) (p1_gaps : Nat → Int32) (p1_settings : Nat → Int32) (p1_spots : Nat → Int32) (p1_speeds : Nat → Int32) (p1_strengths : Nat → Int32) : va_W := [((g_t 0), .inr (6, [.ref (g_t 1), .int t_next, .int t_kind, .int t_start, .int t_value, .int t_faultKind, .int t_faultPlace])), ((g_t 1), .inl (K 0, 3, .inl t_numbers)), ((g_p1 0), .inr (5, [.ref (g_p1 1), .ref (g_p1 2), .ref (g_p1 3), .ref (g_p1 4), .ref (g_p1 5), .ref (g_p1 6), .ref (g_p1 7), .ref (g_p1 8), .int p1_gapCount, .int p1_targetCount, .int p1_lookCount, .int p1_time, .int p1_gone])), ((g_p1 1), .inl (K 0, 5, .inl p1_gaps)), ((g_p1 2), .inl (K 0, 7, .inl p1_settings)), ((g_p1 3), .inl (K 0, 8, .inl p1_spots)), ((g_p1 4), .inl (K 0, 8, .inl p1_speeds)), ((g_p1 5), .inl (K 0, 8, .inl p1_strengths))]
def J_X6_apply_62 (t_numbers : Nat → Int32) (p1_gapCount : Int32) (p1_targetCount : Int32) (p1_gaps : Nat → Int32) (p1_settings : Nat → Int32) (p1_spots : Nat → Int32) (p1_speeds : Nat → Int32) (p1_strengths : Nat → Int32) (s0 : Int32) : Option (Int32 × Int32 × (Nat → Int32) × (Nat → Int32) × (Nat → Int32) × (Nat → Int32) × (Nat → Int32)) :=
  (F_X5_addTarget p1_targetCount p1_spots p1_speeds p1_strengths (t_numbers 0) s0 (t_numbers 2)).bind fun r_1 => (some (p1_gapCount, r_1.1, p1_gaps, p1_settings, r_1.2.1, r_1.2.2.1, r_1.2.2.2))
set_option maxHeartbeats 4000000 in
set_option maxRecDepth 100000 in
theorem w_X6_apply_62 {p : Program} {l : Launch} {e : Env} {s : State} {m : MethodId} {args : Array Value} {below : List Frame} {meth : Method} {c : Code} {D : va_G} {K : Nat → ClassId} {A : Nat → Prop} {Q : State → Prop} (C0 : cx_ p s m args c cX6_apply 4 RX6 wsX6_apply D K A) {g_t : Nat → Nat} {g_p1 : Nat → Nat} {t_next : Int32} {t_kind : Int32} {t_start : Int32} {t_value : Int32} {t_faultKind : Int32} {t_faultPlace : Int32} {t_numbers : Nat → Int32} {p1_lookCount : Int32} {p1_time : Int32} {p1_gone : Int32} {res : Int32 × Int32 × (Nat → Int32) × (Nat → Int32) × (Nat → Int32) × (Nat → Int32) × (Nat → Int32)} (HR : ∀ (pc : Nat) (H : Heap) (locs : List Loc) (ls : Array Slot), decode cX6_apply pc = .ok (.return_, 1) → va_P D vwCl (w_X6_apply K g_t g_p1 t_next t_kind t_start t_value t_faultKind t_faultPlace t_numbers res.1 res.2.1 p1_lookCount p1_time p1_gone res.2.2.1 res.2.2.2.1 res.2.2.2.2.1 res.2.2.2.2.2.1 res.2.2.2.2.2.2) H → va_D A (w_X6_apply K g_t g_p1 t_next t_kind t_start t_value t_faultKind t_faultPlace t_numbers res.1 res.2.1 p1_lookCount p1_time p1_gone res.2.2.1 res.2.2.2.1 res.2.2.2.2.1 res.2.2.2.2.2.1 res.2.2.2.2.2.2) → va_S A s.heap H locs → W p l e rmX6_apply s m args below meth c H locs 0 0 Q (F0 m pc ls []))  :
    ∀ (p1_gapCount : Int32) (p1_targetCount : Int32) (p1_gaps : Nat → Int32) (p1_settings : Nat → Int32) (p1_spots : Nat → Int32) (p1_speeds : Nat → Int32) (p1_strengths : Nat → Int32) (s0 : Int32) (H : Heap) (locs : List Loc) (ls : Array Slot), va_P D vwCl (w_X6_apply K g_t g_p1 t_next t_kind t_start t_value t_faultKind t_faultPlace t_numbers p1_gapCount p1_targetCount p1_lookCount p1_time p1_gone p1_gaps p1_settings p1_spots p1_speeds p1_strengths) H → va_D A (w_X6_apply K g_t g_p1 t_next t_kind t_start t_value t_faultKind t_faultPlace t_numbers p1_gapCount p1_targetCount p1_lookCount p1_time p1_gone p1_gaps p1_settings p1_spots p1_speeds p1_strengths) → va_S A s.heap H locs → lv_has ls 4 [(0, .ref (g_t 0)), (1, .ref (g_p1 0))] → J_X6_apply_62 t_numbers p1_gapCount p1_targetCount p1_gaps p1_settings p1_spots p1_speeds p1_strengths s0 = some res → W p l e rmX6_apply s m args below meth c H locs 0 0 Q (F0 m 62 ls [.int s0]) := by
  obtain ⟨⟨hx, hb, hml, hown, hts⟩, hK, -⟩ := id C0
  intro p1_gapCount p1_targetCount p1_gaps p1_settings p1_spots p1_speeds p1_strengths s0 H locs ls hP hD hS hl hF
  unfold J_X6_apply_62 at hF
  refine lv_istore_n (lv' := [(3, .int s0), (0, .ref (g_t 0)), (1, .ref (g_p1 0))]) hx hb dX6_apply_62 rfl hl (by decide) rfl (fun ls hl => ?_)
  refine lv_aload_n hx hb dX6_apply_63 rfl (lv_at hl 2 rfl) ?_
  refine lv_aload_n hx hb dX6_apply_64 rfl (lv_at hl 1 rfl) ?_
  refine va_get (D := D) (ci := 6) (v := .ref (g_t 1)) (C := RX6) (T := TX6) (N := 7) hx hb hts iw_X6_apply_X6 hown hK hP 0 rfl rfl 0 (by decide) (hts _ fl_X6_apply_9) (fun _ h9 => h9) rfl dX6_apply_65 ?_
  refine lv_iconst (v := 0) hx hb dX6_apply_68 (by decide) ?_
  refine xl_i (f := t_numbers) hx hb hK hP 1 0 rfl rfl (k := 0) (by decide) (in_v (by decide)) dX6_apply_69 ?_
  refine lv_iload_n hx hb dX6_apply_70 rfl (lv_at hl 0 rfl) ?_
  refine lv_aload_n hx hb dX6_apply_71 rfl (lv_at hl 1 rfl) ?_
  refine va_get (D := D) (ci := 6) (v := .ref (g_t 1)) (C := RX6) (T := TX6) (N := 7) hx hb hts iw_X6_apply_X6 hown hK hP 0 rfl rfl 0 (by decide) (hts _ fl_X6_apply_9) (fun _ h9 => h9) rfl dX6_apply_72 ?_
  refine lv_iconst (v := 2) hx hb dX6_apply_75 (by decide) ?_
  refine xl_i (f := t_numbers) hx hb hK hP 1 0 rfl rfl (k := 2) (by decide) (in_v (by decide)) dX6_apply_76 ?_
  obtain ⟨r_1, hc_2, hF⟩ := bn_some hF
  refine xc_v (wn := (w_X6_apply K g_t g_p1 t_next t_kind t_start t_value t_faultKind t_faultPlace t_numbers p1_gapCount r_1.1 p1_lookCount p1_time p1_gone p1_gaps p1_settings r_1.2.1 r_1.2.2.1 r_1.2.2.2)) hP hD hS C0.2.2.1 [2, 5, 6, 7] [0, 1, 3, 4] [0, 1, 4, 2, 3, 5, 6, 7] rfl rfl (by decide) (by decide) rfl (by decide) (va_runV (As := [.int (t_numbers 0), .int s0, .int (t_numbers 2)]) (rest := []) C0.1 (c_X5_addTarget l D K g_p1 p1_gapCount p1_targetCount p1_lookCount p1_time p1_gone p1_spots p1_speeds p1_strengths (t_numbers 0) s0 (t_numbers 2) r_1 hc_2 H.size) (cwV 3 hts gX6_apply_X5_addTarget rfl rfl rfl (by decide +kernel) ⟨Nat.le_of_ble_eq_true rfl, Nat.le_of_ble_eq_true rfl⟩) (xp_V C0.2 hP hD hS [2, 5, 6, 7] rfl (by decide) 5 0 rfl rfl rfl) rfl rfl hl.1 rfl (lv_room (Nat.le_of_ble_eq_true rfl)) dX6_apply_77 ⟨Nat.le_of_ble_eq_true rfl, Nat.le_of_ble_eq_true rfl⟩) (fun H locs hP hD hS => ?_)
  obtain rfl := Option.some.inj hF
  exact HR 80 H locs ls dX6_apply_80 hP hD hS
def F_X6_apply (t_numbers : Nat → Int32) (p1_gapCount : Int32) (p1_targetCount : Int32) (p1_gaps : Nat → Int32) (p1_settings : Nat → Int32) (p1_spots : Nat → Int32) (p1_speeds : Nat → Int32) (p1_strengths : Nat → Int32) (x2 : Int32) : Option (Int32 × Int32 × (Nat → Int32) × (Nat → Int32) × (Nat → Int32) × (Nat → Int32) × (Nat → Int32)) :=
  if x2 = (7 : Int32) then ((F_X5_addGap p1_gapCount p1_gaps (t_numbers 0)).bind fun r_5 => (some (r_5.1, p1_targetCount, r_5.2, p1_settings, p1_spots, p1_speeds, p1_strengths))) else (if (7 : Int32) ≤ x2 then (if x2 = (8 : Int32) then (J_X6_apply_62 t_numbers p1_gapCount p1_targetCount p1_gaps p1_settings p1_spots p1_speeds p1_strengths (-(t_numbers 1))) else (J_X6_apply_62 t_numbers p1_gapCount p1_targetCount p1_gaps p1_settings p1_spots p1_speeds p1_strengths (t_numbers 1))) else (gd_ (in_b x2 7) (some (p1_gapCount, p1_targetCount, p1_gaps, (upd p1_settings (x2).toNatClampNeg (t_numbers 0)), p1_spots, p1_speeds, p1_strengths))))
set_option maxHeartbeats 4000000 in
set_option maxRecDepth 100000 in
theorem c_X6_apply (l : Launch) (D : va_G) (K : Nat → ClassId) (g_t : Nat → Nat) (g_p1 : Nat → Nat) (t_next : Int32) (t_kind : Int32) (t_start : Int32) (t_value : Int32) (t_faultKind : Int32) (t_faultPlace : Int32) (t_numbers : Nat → Int32) (p1_gapCount : Int32) (p1_targetCount : Int32) (p1_lookCount : Int32) (p1_time : Int32) (p1_gone : Int32) (p1_gaps : Nat → Int32) (p1_settings : Nat → Int32) (p1_spots : Nat → Int32) (p1_speeds : Nat → Int32) (p1_strengths : Nat → Int32) (x2 : Int32) (res : Int32 × Int32 × (Nat → Int32) × (Nat → Int32) × (Nat → Int32) × (Nat → Int32) × (Nat → Int32)) (hF : F_X6_apply t_numbers p1_gapCount p1_targetCount p1_gaps p1_settings p1_spots p1_speeds p1_strengths x2 = some res) :
    Mv_ l yX6_apply wsX6_apply rmX6_apply D K [.ref (g_t 0), .ref (g_p1 0), .int x2] (w_X6_apply K g_t g_p1 t_next t_kind t_start t_value t_faultKind t_faultPlace t_numbers p1_gapCount p1_targetCount p1_lookCount p1_time p1_gone p1_gaps p1_settings p1_spots p1_speeds p1_strengths) (w_X6_apply K g_t g_p1 t_next t_kind t_start t_value t_faultKind t_faultPlace t_numbers res.1 res.2.1 p1_lookCount p1_time p1_gone res.2.2.1 res.2.2.2.1 res.2.2.2.2.1 res.2.2.2.2.2.1 res.2.2.2.2.2.2) := by
  refine en_v (cc := cX6_apply) (maxL := 4) (own := RX6) (by decide) rfl rfl (Nat.le_of_ble_eq_true rfl) ?_
  intro p e s m args below meth c A Q H locs ls C0 hP hD hS hl HR
  obtain ⟨⟨hx, hb, hml, hown, hts⟩, hK, -⟩ := id C0
  have hl : lv_has ls 4 [(0, .ref (g_t 0)), (1, .ref (g_p1 0)), (2, .int x2)] := hl
  unfold F_X6_apply at hF
  refine lv_iload_n hx hb dX6_apply_0 rfl (lv_at hl 2 rfl) ?_
  refine lv_bipush (v := 7) hx hb dX6_apply_1 (by decide) ?_
  refine lv_icmp_ne (tgt := 19) hx hb dX6_apply_3 (by decide) (fun c_1 => ?_) (fun c_1 => ?_)
  · have hF := it_neg c_1 hF
    refine lv_iload_n hx hb dX6_apply_19 rfl (lv_at hl 2 rfl) ?_
    refine lv_bipush (v := 7) hx hb dX6_apply_20 (by decide) ?_
    refine lv_icmp_ge (tgt := 40) hx hb dX6_apply_22 (by decide) (fun c_2 => ?_) (fun c_2 => ?_)
    · have hF := it_pos c_2 hF
      refine lv_iload_n hx hb dX6_apply_40 rfl (lv_at hl 2 rfl) ?_
      refine lv_bipush (v := 8) hx hb dX6_apply_41 (by decide) ?_
      refine lv_icmp_ne (tgt := 56) hx hb dX6_apply_43 (by decide) (fun c_3 => ?_) (fun c_3 => ?_)
      · have hF := it_neg c_3 hF
        refine lv_aload_n hx hb dX6_apply_56 rfl (lv_at hl 0 rfl) ?_
        refine va_get (D := D) (ci := 6) (v := .ref (g_t 1)) (C := RX6) (T := TX6) (N := 7) hx hb hts iw_X6_apply_X6 hown hK hP 0 rfl rfl 0 (by decide) (hts _ fl_X6_apply_9) (fun _ h9 => h9) rfl dX6_apply_57 ?_
        refine lv_iconst (v := 1) hx hb dX6_apply_60 (by decide) ?_
        refine xl_i (f := t_numbers) hx hb hK hP 1 0 rfl rfl (k := 1) (by decide) (in_v (by decide)) dX6_apply_61 ?_
        exact w_X6_apply_62 C0 HR p1_gapCount p1_targetCount p1_gaps p1_settings p1_spots p1_speeds p1_strengths (t_numbers 1) H locs ls hP hD hS (lv_sub hl [0, 1] rfl) hF
      · have hF := it_pos c_3 hF
        refine lv_aload_n hx hb dX6_apply_46 rfl (lv_at hl 0 rfl) ?_
        refine va_get (D := D) (ci := 6) (v := .ref (g_t 1)) (C := RX6) (T := TX6) (N := 7) hx hb hts iw_X6_apply_X6 hown hK hP 0 rfl rfl 0 (by decide) (hts _ fl_X6_apply_9) (fun _ h9 => h9) rfl dX6_apply_47 ?_
        refine lv_iconst (v := 1) hx hb dX6_apply_50 (by decide) ?_
        refine xl_i (f := t_numbers) hx hb hK hP 1 0 rfl rfl (k := 1) (by decide) (in_v (by decide)) dX6_apply_51 ?_
        refine lv_ineg hx hb dX6_apply_52 ?_
        refine lv_goto (tgt := 62) hx hb dX6_apply_53 (by decide) ?_
        exact w_X6_apply_62 C0 HR p1_gapCount p1_targetCount p1_gaps p1_settings p1_spots p1_speeds p1_strengths (-(t_numbers 1)) H locs ls hP hD hS (lv_sub hl [0, 1] rfl) hF
    · have hF := it_neg c_2 hF
      refine lv_aload_n hx hb dX6_apply_25 rfl (lv_at hl 1 rfl) ?_
      refine va_get (D := D) (ci := 5) (v := .ref (g_p1 2)) (C := RX5) (T := TX5) (N := 13) hx hb hts iw_X6_apply_X5 hown hK hP 2 rfl rfl 1 (by decide) (hts _ fl_X6_apply_101) (fun _ h9 => h9) rfl dX6_apply_26 ?_
      refine lv_iload_n hx hb dX6_apply_29 rfl (lv_at hl 2 rfl) ?_
      refine lv_aload_n hx hb dX6_apply_30 rfl (lv_at hl 0 rfl) ?_
      refine va_get (D := D) (ci := 6) (v := .ref (g_t 1)) (C := RX6) (T := TX6) (N := 7) hx hb hts iw_X6_apply_X6 hown hK hP 0 rfl rfl 0 (by decide) (hts _ fl_X6_apply_9) (fun _ h9 => h9) rfl dX6_apply_31 ?_
      refine lv_iconst (v := 0) hx hb dX6_apply_34 (by decide) ?_
      refine xl_i (f := t_numbers) hx hb hK hP 1 0 rfl rfl (k := 0) (by decide) (in_v (by decide)) dX6_apply_35 ?_
      obtain ⟨hg_4, hF⟩ := gd_some hF
      refine xs_i (f := p1_settings) hx hb hK hP hD hS 4 0 rfl rfl rfl (in_v hg_4) dX6_apply_36 (fun H locs hP hD hS => ?_)
      have hP : va_P D vwCl (w_X6_apply K g_t g_p1 t_next t_kind t_start t_value t_faultKind t_faultPlace t_numbers p1_gapCount p1_targetCount p1_lookCount p1_time p1_gone p1_gaps (upd p1_settings (x2).toNatClampNeg (t_numbers 0)) p1_spots p1_speeds p1_strengths) H := hP
      have hD : va_D A (w_X6_apply K g_t g_p1 t_next t_kind t_start t_value t_faultKind t_faultPlace t_numbers p1_gapCount p1_targetCount p1_lookCount p1_time p1_gone p1_gaps (upd p1_settings (x2).toNatClampNeg (t_numbers 0)) p1_spots p1_speeds p1_strengths) := hD
      refine lv_goto (tgt := 80) hx hb dX6_apply_37 (by decide) ?_
      obtain rfl := Option.some.inj hF
      exact HR 80 H locs ls dX6_apply_80 hP hD hS
  · have hF := it_pos c_1 hF
    refine lv_aload_n hx hb dX6_apply_6 rfl (lv_at hl 1 rfl) ?_
    refine lv_aload_n hx hb dX6_apply_7 rfl (lv_at hl 0 rfl) ?_
    refine va_get (D := D) (ci := 6) (v := .ref (g_t 1)) (C := RX6) (T := TX6) (N := 7) hx hb hts iw_X6_apply_X6 hown hK hP 0 rfl rfl 0 (by decide) (hts _ fl_X6_apply_9) (fun _ h9 => h9) rfl dX6_apply_8 ?_
    refine lv_iconst (v := 0) hx hb dX6_apply_11 (by decide) ?_
    refine xl_i (f := t_numbers) hx hb hK hP 1 0 rfl rfl (k := 0) (by decide) (in_v (by decide)) dX6_apply_12 ?_
    obtain ⟨r_5, hc_6, hF⟩ := bn_some hF
    refine xc_v (wn := (w_X6_apply K g_t g_p1 t_next t_kind t_start t_value t_faultKind t_faultPlace t_numbers r_5.1 p1_targetCount p1_lookCount p1_time p1_gone r_5.2 p1_settings p1_spots p1_speeds p1_strengths)) hP hD hS C0.2.2.1 [2, 3] [0, 1, 4, 5, 6, 7] [0, 1, 6, 7, 2, 3, 4, 5] rfl rfl (by decide) (by decide) rfl (by decide) (va_runV (As := [.int (t_numbers 0)]) (rest := []) C0.1 (c_X5_addGap l D K g_p1 p1_gapCount p1_targetCount p1_lookCount p1_time p1_gone p1_gaps (t_numbers 0) r_5 hc_6 H.size) (cwV 1 hts gX6_apply_X5_addGap rfl rfl rfl (by decide +kernel) ⟨Nat.le_of_ble_eq_true rfl, Nat.le_of_ble_eq_true rfl⟩) (xp_V C0.2 hP hD hS [2, 3] rfl (by decide) 5 0 rfl rfl rfl) rfl rfl hl.1 rfl (lv_room (Nat.le_of_ble_eq_true rfl)) dX6_apply_13 ⟨Nat.le_of_ble_eq_true rfl, Nat.le_of_ble_eq_true rfl⟩) (fun H locs hP hD hS => ?_)
    refine lv_goto (tgt := 80) hx hb dX6_apply_16 (by decide) ?_
    obtain rfl := Option.some.inj hF
    exact HR 80 H locs ls dX6_apply_80 hP hD hS

/-! StaggerRadar.Speeds.countOpenShaken(LStaggerRadar$Radar;III)I -/
abbrev rmX7_countOpenShaken : Room := { frames := 2, cells := 0, slots := 0, locals := 45 }
theorem iw_X7_countOpenShaken_X5 : ∀ w ∈ u_ws RX5 TX5 13, w ∈ wsX7_countOpenShaken := by decide +kernel
abbrev w_X7_countOpenShaken (K : Nat → ClassId) (g_p0 : Nat → Nat) (p0_gapCount : Int32) (p0_targetCount : Int32) (p0_lookCount : Int32) (p0_time : Int32) (p0_gone : Int32) (p0_settings : Nat → Int32) : va_W := [((g_p0 0), .inr (5, [.ref (g_p0 1), .ref (g_p0 2), .ref (g_p0 3), .ref (g_p0 4), .ref (g_p0 5), .ref (g_p0 6), .ref (g_p0 7), .ref (g_p0 8), .int p0_gapCount, .int p0_targetCount, .int p0_lookCount, .int p0_time, .int p0_gone])), ((g_p0 2), .inl (K 0, 7, .inl p0_settings))]
def L_X7_countOpenShaken_7 (p0_settings : Nat → Int32) : Nat → Int32 → Int32 → Int32 → Int32 → Int32 → Option (Int32)
  | 0, _, _, _, _, _ => none
  | n_ + 1, x1, x2, x3, x4, x5 =>
    if x3 < x5 then (some x4) else ((F_X5_hides p0_settings x1 (x2 + x5)).bind fun r_2 => (if r_2 = (0 : Int32) then (L_X7_countOpenShaken_7 p0_settings n_ x1 x2 x3 (x4 + (1 : Int32)) (x5 + (1 : Int32))) else (L_X7_countOpenShaken_7 p0_settings n_ x1 x2 x3 x4 (x5 + (1 : Int32)))))
set_option maxHeartbeats 4000000 in
set_option maxRecDepth 100000 in
theorem w_X7_countOpenShaken_7 {p : Program} {l : Launch} {e : Env} {s : State} {m : MethodId} {args : Array Value} {below : List Frame} {meth : Method} {c : Code} {D : va_G} {K : Nat → ClassId} {A : Nat → Prop} {Q : State → Prop} (C0 : cx_ p s m args c cX7_countOpenShaken 6 RX7 wsX7_countOpenShaken D K A) {g_p0 : Nat → Nat} {p0_gapCount : Int32} {p0_targetCount : Int32} {p0_lookCount : Int32} {p0_time : Int32} {p0_gone : Int32} {p0_settings : Nat → Int32} {res : Int32} (HR : ∀ (pc : Nat) (H : Heap) (locs : List Loc) (ls : Array Slot), decode cX7_countOpenShaken pc = .ok (.ireturn, 1) → va_P D vwCl (w_X7_countOpenShaken K g_p0 p0_gapCount p0_targetCount p0_lookCount p0_time p0_gone p0_settings) H → va_D A (w_X7_countOpenShaken K g_p0 p0_gapCount p0_targetCount p0_lookCount p0_time p0_gone p0_settings) → va_S A s.heap H locs → W p l e rmX7_countOpenShaken s m args below meth c H locs 0 0 Q (F0 m pc ls [.int res]))  :
    ∀ (n_ : Nat) (x1 : Int32) (x2 : Int32) (x3 : Int32) (x4 : Int32) (x5 : Int32) (H : Heap) (locs : List Loc) (ls : Array Slot), va_P D vwCl (w_X7_countOpenShaken K g_p0 p0_gapCount p0_targetCount p0_lookCount p0_time p0_gone p0_settings) H → va_D A (w_X7_countOpenShaken K g_p0 p0_gapCount p0_targetCount p0_lookCount p0_time p0_gone p0_settings) → va_S A s.heap H locs → lv_has ls 6 [(0, .ref (g_p0 0)), (1, .int x1), (2, .int x2), (3, .int x3), (4, .int x4), (5, .int x5)] → L_X7_countOpenShaken_7 p0_settings n_ x1 x2 x3 x4 x5 = some res → W p l e rmX7_countOpenShaken s m args below meth c H locs 0 0 Q (F0 m 7 ls []) := by
  obtain ⟨⟨hx, hb, hml, hown, hts⟩, hK, -⟩ := id C0
  intro n_
  induction n_ with
  | zero =>
    intro x1 x2 x3 x4 x5 H locs ls hP hD hS hl hF
    exact no_s (show (none : Option (Int32)) = some res from hF)
  | succ n_ ih =>
    intro x1 x2 x3 x4 x5 H locs ls hP hD hS hl hF
    rw [L_X7_countOpenShaken_7] at hF
    refine lv_iload hx hb dX7_countOpenShaken_7 (lv_at hl 5 rfl) ?_
    refine lv_iload_n hx hb dX7_countOpenShaken_9 rfl (lv_at hl 3 rfl) ?_
    refine lv_icmp_gt (tgt := 34) hx hb dX7_countOpenShaken_10 (by decide) (fun c_1 => ?_) (fun c_1 => ?_)
    · have hF := it_pos c_1 hF
      refine lv_iload hx hb dX7_countOpenShaken_34 (lv_at hl 4 rfl) ?_
      obtain rfl := Option.some.inj hF
      exact HR 36 H locs ls dX7_countOpenShaken_36 hP hD hS
    · have hF := it_neg c_1 hF
      refine lv_aload_n hx hb dX7_countOpenShaken_13 rfl (lv_at hl 0 rfl) ?_
      refine lv_iload_n hx hb dX7_countOpenShaken_14 rfl (lv_at hl 1 rfl) ?_
      refine lv_iload_n hx hb dX7_countOpenShaken_15 rfl (lv_at hl 2 rfl) ?_
      refine lv_iload hx hb dX7_countOpenShaken_16 (lv_at hl 5 rfl) ?_
      refine lv_iadd hx hb dX7_countOpenShaken_18 ?_
      obtain ⟨r_2, hc_3, hF⟩ := bn_some hF
      refine xc_i (wn := (w_X7_countOpenShaken K g_p0 p0_gapCount p0_targetCount p0_lookCount p0_time p0_gone p0_settings)) hP hD hS C0.2.2.1 [0, 1] [] [0, 1] rfl rfl (by decide) (by decide) rfl (by decide) (va_runV (As := [.int x1, .int (x2 + x5)]) (rest := []) C0.1 (c_X5_hides l D K g_p0 p0_gapCount p0_targetCount p0_lookCount p0_time p0_gone p0_settings x1 (x2 + x5) r_2 hc_3 H.size) (cwV 2 hts gX7_countOpenShaken_X5_hides rfl rfl rfl (by decide +kernel) ⟨Nat.le_of_ble_eq_true rfl, Nat.le_of_ble_eq_true rfl⟩) (xp_V C0.2 hP hD hS [0, 1] rfl (by decide) 5 0 rfl rfl rfl) rfl rfl hl.1 rfl (lv_room (Nat.le_of_ble_eq_true rfl)) dX7_countOpenShaken_19 ⟨Nat.le_of_ble_eq_true rfl, Nat.le_of_ble_eq_true rfl⟩) (fun H locs hP hD hS => ?_)
      refine lv_if_ne (tgt := 28) hx hb dX7_countOpenShaken_22 (by decide) (fun c_4 => ?_) (fun c_4 => ?_)
      · have hF := it_neg c_4 hF
        refine lv_iinc (v := (x5 + (1 : Int32))) (lv' := [(5, .int (x5 + (1 : Int32))), (0, .ref (g_p0 0)), (1, .int x1), (2, .int x2), (3, .int x3), (4, .int x4)]) hx hb dX7_countOpenShaken_28 hl (k := 5) rfl (congrArg (fun z => x5 + z) (by decide)) (by decide) rfl (fun ls hl => ?_)
        refine lv_goto (tgt := 7) hx hb dX7_countOpenShaken_31 (by decide) ?_
        exact ih x1 x2 x3 x4 (x5 + (1 : Int32)) H locs ls hP hD hS (lv_sub hl [1, 2, 3, 4, 5, 0] rfl) hF
      · have hF := it_pos c_4 hF
        refine lv_iinc (v := (x4 + (1 : Int32))) (lv' := [(4, .int (x4 + (1 : Int32))), (0, .ref (g_p0 0)), (1, .int x1), (2, .int x2), (3, .int x3), (5, .int x5)]) hx hb dX7_countOpenShaken_25 hl (k := 4) rfl (congrArg (fun z => x4 + z) (by decide)) (by decide) rfl (fun ls hl => ?_)
        refine lv_iinc (v := (x5 + (1 : Int32))) (lv' := [(5, .int (x5 + (1 : Int32))), (4, .int (x4 + (1 : Int32))), (0, .ref (g_p0 0)), (1, .int x1), (2, .int x2), (3, .int x3)]) hx hb dX7_countOpenShaken_28 hl (k := 5) rfl (congrArg (fun z => x5 + z) (by decide)) (by decide) rfl (fun ls hl => ?_)
        refine lv_goto (tgt := 7) hx hb dX7_countOpenShaken_31 (by decide) ?_
        exact ih x1 x2 x3 (x4 + (1 : Int32)) (x5 + (1 : Int32)) H locs ls hP hD hS (lv_sub hl [2, 3, 4, 5, 1, 0] rfl) hF
def F_X7_countOpenShaken (p0_settings : Nat → Int32) (x1 : Int32) (x2 : Int32) (x3 : Int32) : Option (Int32) :=
  L_X7_countOpenShaken_7 p0_settings fu_ x1 x2 x3 (0 : Int32) (-x3)
set_option maxHeartbeats 4000000 in
set_option maxRecDepth 100000 in
theorem c_X7_countOpenShaken (l : Launch) (D : va_G) (K : Nat → ClassId) (g_p0 : Nat → Nat) (p0_gapCount : Int32) (p0_targetCount : Int32) (p0_lookCount : Int32) (p0_time : Int32) (p0_gone : Int32) (p0_settings : Nat → Int32) (x1 : Int32) (x2 : Int32) (x3 : Int32) (res : Int32) (hF : F_X7_countOpenShaken p0_settings x1 x2 x3 = some res) :
    Mi_ l yX7_countOpenShaken wsX7_countOpenShaken rmX7_countOpenShaken D K [.ref (g_p0 0), .int x1, .int x2, .int x3] (w_X7_countOpenShaken K g_p0 p0_gapCount p0_targetCount p0_lookCount p0_time p0_gone p0_settings) (w_X7_countOpenShaken K g_p0 p0_gapCount p0_targetCount p0_lookCount p0_time p0_gone p0_settings) (res) := by
  refine en_i (cc := cX7_countOpenShaken) (maxL := 6) (own := RX7) (by decide) rfl rfl (Nat.le_of_ble_eq_true rfl) ?_
  intro p e s m args below meth c A Q H locs ls C0 hP hD hS hl HR
  obtain ⟨⟨hx, hb, hml, hown, hts⟩, hK, -⟩ := id C0
  have hl : lv_has ls 6 [(0, .ref (g_p0 0)), (1, .int x1), (2, .int x2), (3, .int x3)] := hl
  unfold F_X7_countOpenShaken at hF
  refine lv_iconst (v := 0) hx hb dX7_countOpenShaken_0 (by decide) ?_
  refine lv_istore (lv' := [(4, .int (0 : Int32)), (0, .ref (g_p0 0)), (1, .int x1), (2, .int x2), (3, .int x3)]) hx hb dX7_countOpenShaken_1 hl (by decide) rfl (fun ls hl => ?_)
  refine lv_iload_n hx hb dX7_countOpenShaken_3 rfl (lv_at hl 4 rfl) ?_
  refine lv_ineg hx hb dX7_countOpenShaken_4 ?_
  refine lv_istore (lv' := [(5, .int (-x3)), (4, .int (0 : Int32)), (0, .ref (g_p0 0)), (1, .int x1), (2, .int x2), (3, .int x3)]) hx hb dX7_countOpenShaken_5 hl (by decide) rfl (fun ls hl => ?_)
  exact w_X7_countOpenShaken_7 C0 HR fu_ x1 x2 x3 (0 : Int32) (-x3) H locs ls hP hD hS (lv_sub hl [2, 3, 4, 5, 1, 0] rfl) hF

/-! StaggerRadar.Speeds.countShaken(LStaggerRadar$Radar;IZ)I -/
abbrev rmX7_countShaken : Room := { frames := 3, cells := 0, slots := 0, locals := 70 }
theorem fl_X7_countShaken_9 : Cond.fieldLink RX7 9 "StaggerRadar$Radar" "gapCount" "I" ∈ wsX7_countShaken := by decide +kernel
theorem fl_X7_countShaken_15 : Cond.fieldLink RX7 15 "StaggerRadar$Radar" "gaps" "[I" ∈ wsX7_countShaken := by decide +kernel
theorem fl_X7_countShaken_23 : Cond.fieldLink RX7 23 "StaggerRadar$Radar" "settings" "[I" ∈ wsX7_countShaken := by decide +kernel
theorem iw_X7_countShaken_X5 : ∀ w ∈ u_ws RX5 TX5 13, w ∈ wsX7_countShaken := by decide +kernel
abbrev w_X7_countShaken (K : Nat → ClassId) (g_p0 : Nat → Nat) (p0_gapCount : Int32) (p0_targetCount : Int32) (p0_lookCount : Int32) (p0_time : Int32) (p0_gone : Int32) (p0_gaps : Nat → Int32) (p0_settings : Nat → Int32) : va_W := [((g_p0 0), .inr (5, [.ref (g_p0 1), .ref (g_p0 2), .ref (g_p0 3), .ref (g_p0 4), .ref (g_p0 5), .ref (g_p0 6), .ref (g_p0 7), .ref (g_p0 8), .int p0_gapCount, .int p0_targetCount, .int p0_lookCount, .int p0_time, .int p0_gone])), ((g_p0 1), .inl (K 0, 5, .inl p0_gaps)), ((g_p0 2), .inl (K 0, 7, .inl p0_settings))]
def J_X7_countShaken_76 (p0_gapCount : Int32) (p0_gaps : Nat → Int32) (p0_settings : Nat → Int32) (k_5 : Int32 → Int32 → Int32 → Int32 → Option (Int32)) (x1 : Int32) (x2 : Int32) (x3 : Int32) (x4 : Int32) (x5 : Int32) : Option (Int32) :=
  if x5 < (p0_settings 4) then (k_5 x1 x2 x3 (x4 + (1 : Int32))) else (k_5 x1 x2 (x3 + (1 : Int32)) (x4 + (1 : Int32)))
set_option maxHeartbeats 4000000 in
set_option maxRecDepth 100000 in
theorem w_X7_countShaken_76 {p : Program} {l : Launch} {e : Env} {s : State} {m : MethodId} {args : Array Value} {below : List Frame} {meth : Method} {c : Code} {D : va_G} {K : Nat → ClassId} {A : Nat → Prop} {Q : State → Prop} (C0 : cx_ p s m args c cX7_countShaken 8 RX7 wsX7_countShaken D K A) {g_p0 : Nat → Nat} {p0_gapCount : Int32} {p0_targetCount : Int32} {p0_lookCount : Int32} {p0_time : Int32} {p0_gone : Int32} {p0_gaps : Nat → Int32} {p0_settings : Nat → Int32} {res : Int32} (HR : ∀ (pc : Nat) (H : Heap) (locs : List Loc) (ls : Array Slot), decode cX7_countShaken pc = .ok (.ireturn, 1) → va_P D vwCl (w_X7_countShaken K g_p0 p0_gapCount p0_targetCount p0_lookCount p0_time p0_gone p0_gaps p0_settings) H → va_D A (w_X7_countShaken K g_p0 p0_gapCount p0_targetCount p0_lookCount p0_time p0_gone p0_gaps p0_settings) → va_S A s.heap H locs → W p l e rmX7_countShaken s m args below meth c H locs 0 0 Q (F0 m pc ls [.int res])) {k_5 : Int32 → Int32 → Int32 → Int32 → Option (Int32)} (HK_5 : ∀ (x1 : Int32) (x2 : Int32) (x3 : Int32) (x4 : Int32) (H : Heap) (locs : List Loc) (ls : Array Slot), va_P D vwCl (w_X7_countShaken K g_p0 p0_gapCount p0_targetCount p0_lookCount p0_time p0_gone p0_gaps p0_settings) H → va_D A (w_X7_countShaken K g_p0 p0_gapCount p0_targetCount p0_lookCount p0_time p0_gone p0_gaps p0_settings) → va_S A s.heap H locs → lv_has ls 8 [(0, .ref (g_p0 0)), (1, .int x1), (2, .int x2), (3, .int x3), (4, .int x4)] → k_5 x1 x2 x3 x4 = some res → W p l e rmX7_countShaken s m args below meth c H locs 0 0 Q (F0 m 5 ls [])) :
    ∀ (x1 : Int32) (x2 : Int32) (x3 : Int32) (x4 : Int32) (x5 : Int32) (H : Heap) (locs : List Loc) (ls : Array Slot), va_P D vwCl (w_X7_countShaken K g_p0 p0_gapCount p0_targetCount p0_lookCount p0_time p0_gone p0_gaps p0_settings) H → va_D A (w_X7_countShaken K g_p0 p0_gapCount p0_targetCount p0_lookCount p0_time p0_gone p0_gaps p0_settings) → va_S A s.heap H locs → lv_has ls 8 [(0, .ref (g_p0 0)), (1, .int x1), (2, .int x2), (3, .int x3), (4, .int x4), (5, .int x5)] → J_X7_countShaken_76 p0_gapCount p0_gaps p0_settings k_5 x1 x2 x3 x4 x5 = some res → W p l e rmX7_countShaken s m args below meth c H locs 0 0 Q (F0 m 76 ls []) := by
  obtain ⟨⟨hx, hb, hml, hown, hts⟩, hK, -⟩ := id C0
  intro x1 x2 x3 x4 x5 H locs ls hP hD hS hl hF
  unfold J_X7_countShaken_76 at hF
  refine lv_iload hx hb dX7_countShaken_76 (lv_at hl 5 rfl) ?_
  refine lv_aload_n hx hb dX7_countShaken_78 rfl (lv_at hl 0 rfl) ?_
  refine va_get (D := D) (ci := 5) (v := .ref (g_p0 2)) (C := RX5) (T := TX5) (N := 13) hx hb hts iw_X7_countShaken_X5 hown hK hP 0 rfl rfl 1 (by decide) (hts _ fl_X7_countShaken_23) (fun _ h9 => h9) rfl dX7_countShaken_79 ?_
  refine lv_iconst (v := 4) hx hb dX7_countShaken_82 (by decide) ?_
  refine xl_i (f := p0_settings) hx hb hK hP 2 0 rfl rfl (k := 4) (by decide) (in_v (by decide)) dX7_countShaken_83 ?_
  refine lv_icmp_lt (tgt := 90) hx hb dX7_countShaken_84 (by decide) (fun c_1 => ?_) (fun c_1 => ?_)
  · have hF := it_pos c_1 hF
    refine lv_iinc (v := (x4 + (1 : Int32))) (lv' := [(4, .int (x4 + (1 : Int32))), (0, .ref (g_p0 0)), (1, .int x1), (2, .int x2), (3, .int x3), (5, .int x5)]) hx hb dX7_countShaken_90 hl (k := 4) rfl (congrArg (fun z => x4 + z) (by decide)) (by decide) rfl (fun ls hl => ?_)
    refine lv_goto (tgt := 5) hx hb dX7_countShaken_93 (by decide) ?_
    exact HK_5 x1 x2 x3 (x4 + (1 : Int32)) H locs ls hP hD hS (lv_sub hl [1, 2, 3, 4, 0] rfl) hF
  · have hF := it_neg c_1 hF
    refine lv_iinc (v := (x3 + (1 : Int32))) (lv' := [(3, .int (x3 + (1 : Int32))), (0, .ref (g_p0 0)), (1, .int x1), (2, .int x2), (4, .int x4), (5, .int x5)]) hx hb dX7_countShaken_87 hl (k := 3) rfl (congrArg (fun z => x3 + z) (by decide)) (by decide) rfl (fun ls hl => ?_)
    refine lv_iinc (v := (x4 + (1 : Int32))) (lv' := [(4, .int (x4 + (1 : Int32))), (3, .int (x3 + (1 : Int32))), (0, .ref (g_p0 0)), (1, .int x1), (2, .int x2), (5, .int x5)]) hx hb dX7_countShaken_90 hl (k := 4) rfl (congrArg (fun z => x4 + z) (by decide)) (by decide) rfl (fun ls hl => ?_)
    refine lv_goto (tgt := 5) hx hb dX7_countShaken_93 (by decide) ?_
    exact HK_5 x1 x2 (x3 + (1 : Int32)) (x4 + (1 : Int32)) H locs ls hP hD hS (lv_sub hl [2, 3, 4, 1, 0] rfl) hF
def L_X7_countShaken_22 (p0_gapCount : Int32) (p0_gaps : Nat → Int32) (p0_settings : Nat → Int32) (k_5 : Int32 → Int32 → Int32 → Int32 → Option (Int32)) : Nat → Int32 → Int32 → Int32 → Int32 → Int32 → Int32 → Option (Int32)
  | 0, _, _, _, _, _, _ => none
  | n_ + 1, x1, x2, x3, x4, x5, x6 =>
    if p0_gapCount ≤ x6 then (J_X7_countShaken_76 p0_gapCount p0_gaps p0_settings k_5 x1 x2 x3 x4 x5) else (gd_ (in_b x6 5) ((F_X7_countOpenShaken p0_settings x4 (p0_gaps (x6).toNatClampNeg) x1).bind fun r_3 => (if x2 = (0 : Int32) then (if r_3 ≤ ((2 : Int32) * x1) then (L_X7_countShaken_22 p0_gapCount p0_gaps p0_settings k_5 n_ x1 x2 x3 x4 x5 (x6 + (1 : Int32))) else (L_X7_countShaken_22 p0_gapCount p0_gaps p0_settings k_5 n_ x1 x2 x3 x4 (x5 + (1 : Int32)) (x6 + (1 : Int32)))) else (if r_3 ≤ (0 : Int32) then (L_X7_countShaken_22 p0_gapCount p0_gaps p0_settings k_5 n_ x1 x2 x3 x4 x5 (x6 + (1 : Int32))) else (L_X7_countShaken_22 p0_gapCount p0_gaps p0_settings k_5 n_ x1 x2 x3 x4 (x5 + (1 : Int32)) (x6 + (1 : Int32)))))))
set_option maxHeartbeats 4000000 in
set_option maxRecDepth 100000 in
theorem w_X7_countShaken_22 {p : Program} {l : Launch} {e : Env} {s : State} {m : MethodId} {args : Array Value} {below : List Frame} {meth : Method} {c : Code} {D : va_G} {K : Nat → ClassId} {A : Nat → Prop} {Q : State → Prop} (C0 : cx_ p s m args c cX7_countShaken 8 RX7 wsX7_countShaken D K A) {g_p0 : Nat → Nat} {p0_gapCount : Int32} {p0_targetCount : Int32} {p0_lookCount : Int32} {p0_time : Int32} {p0_gone : Int32} {p0_gaps : Nat → Int32} {p0_settings : Nat → Int32} {res : Int32} (HR : ∀ (pc : Nat) (H : Heap) (locs : List Loc) (ls : Array Slot), decode cX7_countShaken pc = .ok (.ireturn, 1) → va_P D vwCl (w_X7_countShaken K g_p0 p0_gapCount p0_targetCount p0_lookCount p0_time p0_gone p0_gaps p0_settings) H → va_D A (w_X7_countShaken K g_p0 p0_gapCount p0_targetCount p0_lookCount p0_time p0_gone p0_gaps p0_settings) → va_S A s.heap H locs → W p l e rmX7_countShaken s m args below meth c H locs 0 0 Q (F0 m pc ls [.int res])) {k_5 : Int32 → Int32 → Int32 → Int32 → Option (Int32)} (HK_5 : ∀ (x1 : Int32) (x2 : Int32) (x3 : Int32) (x4 : Int32) (H : Heap) (locs : List Loc) (ls : Array Slot), va_P D vwCl (w_X7_countShaken K g_p0 p0_gapCount p0_targetCount p0_lookCount p0_time p0_gone p0_gaps p0_settings) H → va_D A (w_X7_countShaken K g_p0 p0_gapCount p0_targetCount p0_lookCount p0_time p0_gone p0_gaps p0_settings) → va_S A s.heap H locs → lv_has ls 8 [(0, .ref (g_p0 0)), (1, .int x1), (2, .int x2), (3, .int x3), (4, .int x4)] → k_5 x1 x2 x3 x4 = some res → W p l e rmX7_countShaken s m args below meth c H locs 0 0 Q (F0 m 5 ls [])) :
    ∀ (n_ : Nat) (x1 : Int32) (x2 : Int32) (x3 : Int32) (x4 : Int32) (x5 : Int32) (x6 : Int32) (H : Heap) (locs : List Loc) (ls : Array Slot), va_P D vwCl (w_X7_countShaken K g_p0 p0_gapCount p0_targetCount p0_lookCount p0_time p0_gone p0_gaps p0_settings) H → va_D A (w_X7_countShaken K g_p0 p0_gapCount p0_targetCount p0_lookCount p0_time p0_gone p0_gaps p0_settings) → va_S A s.heap H locs → lv_has ls 8 [(0, .ref (g_p0 0)), (1, .int x1), (2, .int x2), (3, .int x3), (4, .int x4), (5, .int x5), (6, .int x6)] → L_X7_countShaken_22 p0_gapCount p0_gaps p0_settings k_5 n_ x1 x2 x3 x4 x5 x6 = some res → W p l e rmX7_countShaken s m args below meth c H locs 0 0 Q (F0 m 22 ls []) := by
  obtain ⟨⟨hx, hb, hml, hown, hts⟩, hK, -⟩ := id C0
  intro n_
  induction n_ with
  | zero =>
    intro x1 x2 x3 x4 x5 x6 H locs ls hP hD hS hl hF
    exact no_s (show (none : Option (Int32)) = some res from hF)
  | succ n_ ih =>
    intro x1 x2 x3 x4 x5 x6 H locs ls hP hD hS hl hF
    rw [L_X7_countShaken_22] at hF
    refine lv_iload hx hb dX7_countShaken_22 (lv_at hl 6 rfl) ?_
    refine lv_aload_n hx hb dX7_countShaken_24 rfl (lv_at hl 0 rfl) ?_
    refine va_get (D := D) (ci := 5) (v := .int p0_gapCount) (C := RX5) (T := TX5) (N := 13) hx hb hts iw_X7_countShaken_X5 hown hK hP 0 rfl rfl 8 (by decide) (hts _ fl_X7_countShaken_9) (fun _ h9 => h9) rfl dX7_countShaken_25 ?_
    refine lv_icmp_ge (tgt := 76) hx hb dX7_countShaken_28 (by decide) (fun c_1 => ?_) (fun c_1 => ?_)
    · have hF := it_pos c_1 hF
      exact w_X7_countShaken_76 C0 HR HK_5 x1 x2 x3 x4 x5 H locs ls hP hD hS (lv_sub hl [0, 1, 2, 3, 4, 5] rfl) hF
    · have hF := it_neg c_1 hF
      refine lv_aload_n hx hb dX7_countShaken_31 rfl (lv_at hl 0 rfl) ?_
      refine lv_iload hx hb dX7_countShaken_32 (lv_at hl 4 rfl) ?_
      refine lv_aload_n hx hb dX7_countShaken_34 rfl (lv_at hl 0 rfl) ?_
      refine va_get (D := D) (ci := 5) (v := .ref (g_p0 1)) (C := RX5) (T := TX5) (N := 13) hx hb hts iw_X7_countShaken_X5 hown hK hP 0 rfl rfl 0 (by decide) (hts _ fl_X7_countShaken_15) (fun _ h9 => h9) rfl dX7_countShaken_35 ?_
      refine lv_iload hx hb dX7_countShaken_38 (lv_at hl 6 rfl) ?_
      obtain ⟨hg_2, hF⟩ := gd_some hF
      refine xl_i (f := p0_gaps) hx hb hK hP 1 0 rfl rfl rfl (in_v hg_2) dX7_countShaken_40 ?_
      refine lv_iload_n hx hb dX7_countShaken_41 rfl (lv_at hl 1 rfl) ?_
      obtain ⟨r_3, hc_4, hF⟩ := bn_some hF
      refine xc_i (wn := (w_X7_countShaken K g_p0 p0_gapCount p0_targetCount p0_lookCount p0_time p0_gone p0_gaps p0_settings)) hP hD hS C0.2.2.1 [0, 2] [1] [1, 0, 2] rfl rfl (by decide) (by decide) rfl (by decide) (va_runS (As := [.ref (g_p0 0), .int x4, .int (p0_gaps (x6).toNatClampNeg), .int x1]) (rest := []) C0.1 (c_X7_countOpenShaken l D K g_p0 p0_gapCount p0_targetCount p0_lookCount p0_time p0_gone p0_settings x4 (p0_gaps (x6).toNatClampNeg) x1 r_3 hc_4 H.size) (va_cwS 4 hts gX7_countShaken_X7_countOpenShaken rfl rfl rfl (by decide +kernel) ⟨Nat.le_of_ble_eq_true rfl, Nat.le_of_ble_eq_true rfl⟩) (xp_S C0.2 hP hD hS [0, 2] rfl (by decide)) rfl rfl hl.1 rfl (lv_room (Nat.le_of_ble_eq_true rfl)) dX7_countShaken_42 ⟨Nat.le_of_ble_eq_true rfl, Nat.le_of_ble_eq_true rfl⟩) (fun H locs hP hD hS => ?_)
      refine lv_istore (lv' := [(7, .int r_3), (0, .ref (g_p0 0)), (1, .int x1), (2, .int x2), (3, .int x3), (4, .int x4), (5, .int x5), (6, .int x6)]) hx hb dX7_countShaken_45 hl (by decide) rfl (fun ls hl => ?_)
      refine lv_iload_n hx hb dX7_countShaken_47 rfl (lv_at hl 3 rfl) ?_
      refine lv_if_eq (tgt := 59) hx hb dX7_countShaken_48 (by decide) (fun c_5 => ?_) (fun c_5 => ?_)
      · have hF := it_pos c_5 hF
        refine lv_iload hx hb dX7_countShaken_59 (lv_at hl 0 rfl) ?_
        refine lv_iconst (v := 2) hx hb dX7_countShaken_61 (by decide) ?_
        refine lv_iload_n hx hb dX7_countShaken_62 rfl (lv_at hl 2 rfl) ?_
        refine lv_imul hx hb dX7_countShaken_63 ?_
        refine lv_icmp_le (tgt := 70) hx hb dX7_countShaken_64 (by decide) (fun c_6 => ?_) (fun c_6 => ?_)
        · have hF := it_pos c_6 hF
          refine lv_iinc (v := (x6 + (1 : Int32))) (lv' := [(6, .int (x6 + (1 : Int32))), (7, .int r_3), (0, .ref (g_p0 0)), (1, .int x1), (2, .int x2), (3, .int x3), (4, .int x4), (5, .int x5)]) hx hb dX7_countShaken_70 hl (k := 7) rfl (congrArg (fun z => x6 + z) (by decide)) (by decide) rfl (fun ls hl => ?_)
          refine lv_goto (tgt := 22) hx hb dX7_countShaken_73 (by decide) ?_
          exact ih x1 x2 x3 x4 x5 (x6 + (1 : Int32)) H locs ls hP hD hS (lv_sub hl [2, 3, 4, 5, 6, 7, 0] rfl) hF
        · have hF := it_neg c_6 hF
          refine lv_iinc (v := (x5 + (1 : Int32))) (lv' := [(5, .int (x5 + (1 : Int32))), (7, .int r_3), (0, .ref (g_p0 0)), (1, .int x1), (2, .int x2), (3, .int x3), (4, .int x4), (6, .int x6)]) hx hb dX7_countShaken_67 hl (k := 6) rfl (congrArg (fun z => x5 + z) (by decide)) (by decide) rfl (fun ls hl => ?_)
          refine lv_iinc (v := (x6 + (1 : Int32))) (lv' := [(6, .int (x6 + (1 : Int32))), (5, .int (x5 + (1 : Int32))), (7, .int r_3), (0, .ref (g_p0 0)), (1, .int x1), (2, .int x2), (3, .int x3), (4, .int x4)]) hx hb dX7_countShaken_70 hl (k := 7) rfl (congrArg (fun z => x6 + z) (by decide)) (by decide) rfl (fun ls hl => ?_)
          refine lv_goto (tgt := 22) hx hb dX7_countShaken_73 (by decide) ?_
          exact ih x1 x2 x3 x4 (x5 + (1 : Int32)) (x6 + (1 : Int32)) H locs ls hP hD hS (lv_sub hl [3, 4, 5, 6, 7, 1, 0] rfl) hF
      · have hF := it_neg c_5 hF
        refine lv_iload hx hb dX7_countShaken_51 (lv_at hl 0 rfl) ?_
        refine lv_if_le (tgt := 70) hx hb dX7_countShaken_53 (by decide) (fun c_7 => ?_) (fun c_7 => ?_)
        · have hF := it_pos c_7 hF
          refine lv_iinc (v := (x6 + (1 : Int32))) (lv' := [(6, .int (x6 + (1 : Int32))), (7, .int r_3), (0, .ref (g_p0 0)), (1, .int x1), (2, .int x2), (3, .int x3), (4, .int x4), (5, .int x5)]) hx hb dX7_countShaken_70 hl (k := 7) rfl (congrArg (fun z => x6 + z) (by decide)) (by decide) rfl (fun ls hl => ?_)
          refine lv_goto (tgt := 22) hx hb dX7_countShaken_73 (by decide) ?_
          exact ih x1 x2 x3 x4 x5 (x6 + (1 : Int32)) H locs ls hP hD hS (lv_sub hl [2, 3, 4, 5, 6, 7, 0] rfl) hF
        · have hF := it_neg c_7 hF
          refine lv_goto (tgt := 67) hx hb dX7_countShaken_56 (by decide) ?_
          refine lv_iinc (v := (x5 + (1 : Int32))) (lv' := [(5, .int (x5 + (1 : Int32))), (7, .int r_3), (0, .ref (g_p0 0)), (1, .int x1), (2, .int x2), (3, .int x3), (4, .int x4), (6, .int x6)]) hx hb dX7_countShaken_67 hl (k := 6) rfl (congrArg (fun z => x5 + z) (by decide)) (by decide) rfl (fun ls hl => ?_)
          refine lv_iinc (v := (x6 + (1 : Int32))) (lv' := [(6, .int (x6 + (1 : Int32))), (5, .int (x5 + (1 : Int32))), (7, .int r_3), (0, .ref (g_p0 0)), (1, .int x1), (2, .int x2), (3, .int x3), (4, .int x4)]) hx hb dX7_countShaken_70 hl (k := 7) rfl (congrArg (fun z => x6 + z) (by decide)) (by decide) rfl (fun ls hl => ?_)
          refine lv_goto (tgt := 22) hx hb dX7_countShaken_73 (by decide) ?_
          exact ih x1 x2 x3 x4 (x5 + (1 : Int32)) (x6 + (1 : Int32)) H locs ls hP hD hS (lv_sub hl [3, 4, 5, 6, 7, 1, 0] rfl) hF
def L_X7_countShaken_5 (p0_gapCount : Int32) (p0_gaps : Nat → Int32) (p0_settings : Nat → Int32) : Nat → Int32 → Int32 → Int32 → Int32 → Option (Int32)
  | 0, _, _, _, _ => none
  | n_ + 1, x1, x2, x3, x4 =>
    if (p0_settings 5) < x4 then (some x3) else (L_X7_countShaken_22 p0_gapCount p0_gaps p0_settings (L_X7_countShaken_5 p0_gapCount p0_gaps p0_settings n_) fu_ x1 x2 x3 x4 (0 : Int32) (0 : Int32))
set_option maxHeartbeats 4000000 in
set_option maxRecDepth 100000 in
theorem w_X7_countShaken_5 {p : Program} {l : Launch} {e : Env} {s : State} {m : MethodId} {args : Array Value} {below : List Frame} {meth : Method} {c : Code} {D : va_G} {K : Nat → ClassId} {A : Nat → Prop} {Q : State → Prop} (C0 : cx_ p s m args c cX7_countShaken 8 RX7 wsX7_countShaken D K A) {g_p0 : Nat → Nat} {p0_gapCount : Int32} {p0_targetCount : Int32} {p0_lookCount : Int32} {p0_time : Int32} {p0_gone : Int32} {p0_gaps : Nat → Int32} {p0_settings : Nat → Int32} {res : Int32} (HR : ∀ (pc : Nat) (H : Heap) (locs : List Loc) (ls : Array Slot), decode cX7_countShaken pc = .ok (.ireturn, 1) → va_P D vwCl (w_X7_countShaken K g_p0 p0_gapCount p0_targetCount p0_lookCount p0_time p0_gone p0_gaps p0_settings) H → va_D A (w_X7_countShaken K g_p0 p0_gapCount p0_targetCount p0_lookCount p0_time p0_gone p0_gaps p0_settings) → va_S A s.heap H locs → W p l e rmX7_countShaken s m args below meth c H locs 0 0 Q (F0 m pc ls [.int res]))  :
    ∀ (n_ : Nat) (x1 : Int32) (x2 : Int32) (x3 : Int32) (x4 : Int32) (H : Heap) (locs : List Loc) (ls : Array Slot), va_P D vwCl (w_X7_countShaken K g_p0 p0_gapCount p0_targetCount p0_lookCount p0_time p0_gone p0_gaps p0_settings) H → va_D A (w_X7_countShaken K g_p0 p0_gapCount p0_targetCount p0_lookCount p0_time p0_gone p0_gaps p0_settings) → va_S A s.heap H locs → lv_has ls 8 [(0, .ref (g_p0 0)), (1, .int x1), (2, .int x2), (3, .int x3), (4, .int x4)] → L_X7_countShaken_5 p0_gapCount p0_gaps p0_settings n_ x1 x2 x3 x4 = some res → W p l e rmX7_countShaken s m args below meth c H locs 0 0 Q (F0 m 5 ls []) := by
  obtain ⟨⟨hx, hb, hml, hown, hts⟩, hK, -⟩ := id C0
  intro n_
  induction n_ with
  | zero =>
    intro x1 x2 x3 x4 H locs ls hP hD hS hl hF
    exact no_s (show (none : Option (Int32)) = some res from hF)
  | succ n_ ih =>
    intro x1 x2 x3 x4 H locs ls hP hD hS hl hF
    rw [L_X7_countShaken_5] at hF
    refine lv_iload hx hb dX7_countShaken_5 (lv_at hl 4 rfl) ?_
    refine lv_aload_n hx hb dX7_countShaken_7 rfl (lv_at hl 0 rfl) ?_
    refine va_get (D := D) (ci := 5) (v := .ref (g_p0 2)) (C := RX5) (T := TX5) (N := 13) hx hb hts iw_X7_countShaken_X5 hown hK hP 0 rfl rfl 1 (by decide) (hts _ fl_X7_countShaken_23) (fun _ h9 => h9) rfl dX7_countShaken_8 ?_
    refine lv_iconst (v := 5) hx hb dX7_countShaken_11 (by decide) ?_
    refine xl_i (f := p0_settings) hx hb hK hP 2 0 rfl rfl (k := 5) (by decide) (in_v (by decide)) dX7_countShaken_12 ?_
    refine lv_icmp_gt (tgt := 96) hx hb dX7_countShaken_13 (by decide) (fun c_1 => ?_) (fun c_1 => ?_)
    · have hF := it_pos c_1 hF
      refine lv_iload_n hx hb dX7_countShaken_96 rfl (lv_at hl 3 rfl) ?_
      obtain rfl := Option.some.inj hF
      exact HR 97 H locs ls dX7_countShaken_97 hP hD hS
    · have hF := it_neg c_1 hF
      refine lv_iconst (v := 0) hx hb dX7_countShaken_16 (by decide) ?_
      refine lv_istore (lv' := [(5, .int (0 : Int32)), (0, .ref (g_p0 0)), (1, .int x1), (2, .int x2), (3, .int x3), (4, .int x4)]) hx hb dX7_countShaken_17 hl (by decide) rfl (fun ls hl => ?_)
      refine lv_iconst (v := 0) hx hb dX7_countShaken_19 (by decide) ?_
      refine lv_istore (lv' := [(6, .int (0 : Int32)), (5, .int (0 : Int32)), (0, .ref (g_p0 0)), (1, .int x1), (2, .int x2), (3, .int x3), (4, .int x4)]) hx hb dX7_countShaken_20 hl (by decide) rfl (fun ls hl => ?_)
      exact w_X7_countShaken_22 C0 HR ih fu_ x1 x2 x3 x4 (0 : Int32) (0 : Int32) H locs ls hP hD hS (lv_sub hl [2, 3, 4, 5, 6, 1, 0] rfl) hF
def F_X7_countShaken (p0_gapCount : Int32) (p0_gaps : Nat → Int32) (p0_settings : Nat → Int32) (x1 : Int32) (x2 : Int32) : Option (Int32) :=
  L_X7_countShaken_5 p0_gapCount p0_gaps p0_settings fu_ x1 x2 (0 : Int32) (1 : Int32)
set_option maxHeartbeats 4000000 in
set_option maxRecDepth 100000 in
theorem c_X7_countShaken (l : Launch) (D : va_G) (K : Nat → ClassId) (g_p0 : Nat → Nat) (p0_gapCount : Int32) (p0_targetCount : Int32) (p0_lookCount : Int32) (p0_time : Int32) (p0_gone : Int32) (p0_gaps : Nat → Int32) (p0_settings : Nat → Int32) (x1 : Int32) (x2 : Int32) (res : Int32) (hF : F_X7_countShaken p0_gapCount p0_gaps p0_settings x1 x2 = some res) :
    Mi_ l yX7_countShaken wsX7_countShaken rmX7_countShaken D K [.ref (g_p0 0), .int x1, .int x2] (w_X7_countShaken K g_p0 p0_gapCount p0_targetCount p0_lookCount p0_time p0_gone p0_gaps p0_settings) (w_X7_countShaken K g_p0 p0_gapCount p0_targetCount p0_lookCount p0_time p0_gone p0_gaps p0_settings) (res) := by
  refine en_i (cc := cX7_countShaken) (maxL := 8) (own := RX7) (by decide) rfl rfl (Nat.le_of_ble_eq_true rfl) ?_
  intro p e s m args below meth c A Q H locs ls C0 hP hD hS hl HR
  obtain ⟨⟨hx, hb, hml, hown, hts⟩, hK, -⟩ := id C0
  have hl : lv_has ls 8 [(0, .ref (g_p0 0)), (1, .int x1), (2, .int x2)] := hl
  unfold F_X7_countShaken at hF
  refine lv_iconst (v := 0) hx hb dX7_countShaken_0 (by decide) ?_
  refine lv_istore_n (lv' := [(3, .int (0 : Int32)), (0, .ref (g_p0 0)), (1, .int x1), (2, .int x2)]) hx hb dX7_countShaken_1 rfl hl (by decide) rfl (fun ls hl => ?_)
  refine lv_iconst (v := 1) hx hb dX7_countShaken_2 (by decide) ?_
  refine lv_istore (lv' := [(4, .int (1 : Int32)), (3, .int (0 : Int32)), (0, .ref (g_p0 0)), (1, .int x1), (2, .int x2)]) hx hb dX7_countShaken_3 hl (by decide) rfl (fun ls hl => ?_)
  exact w_X7_countShaken_5 C0 HR fu_ x1 x2 (0 : Int32) (1 : Int32) H locs ls hP hD hS (lv_sub hl [2, 3, 4, 1, 0] rfl) hF
