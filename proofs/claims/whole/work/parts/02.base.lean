/-! ===== BEGIN base: partial answers, the standard contract, the ways into a method and over a call ===== -/
/-- an index that lies in a row of n -/
def in_b (i : Int32) (n : Nat) : Bool := !(decide (i < 0)) && Nat.blt i.toNatClampNeg n
theorem in_v {i : Int32} {n : Nat} (h : in_b i n = true) : vp_in i n := by
  unfold in_b at h
  unfold vp_in
  intro hc
  simp only [Bool.and_eq_true, Bool.not_eq_true', decide_eq_false_iff_not] at h
  rcases hc with h1 | h1
  · exact h.1 h1
  · exact absurd (Nat.le_of_ble_eq_true h.2) (by omega)
/-- a guard of a partial answer -/
def gd_ {α : Type} (b : Bool) (k : Option α) : Option α := if b = true then k else none
theorem gd_some {α : Type} {b : Bool} {k : Option α} {r : α} (h : gd_ b k = some r) : b = true ∧ k = some r := by
  unfold gd_ at h
  by_cases hb : b = true
  · rw [if_pos hb] at h; exact ⟨hb, h⟩
  · rw [if_neg hb] at h; cases h
theorem gd_ok {α : Type} {b : Bool} {k : Option α} (h : b = true) : gd_ b k = k := by unfold gd_; rw [if_pos h]
theorem bn_some {α β : Type} {x : Option α} {f : α → Option β} {r : β} (h : x.bind f = some r) : ∃ a, x = some a ∧ f a = some r := by
  cases x with
  | none => cases h
  | some a => exact ⟨a, rfl, h⟩
theorem no_s {α : Type} {r : α} {P : Prop} (h : (none : Option α) = some r) : P := by cases h
theorem it_pos {α : Type} {c : Prop} {i : Decidable c} {a b : Option α} {r : Option α} (hc : c) (h : @ite _ c i a b = r) : a = r := by rw [if_pos hc] at h; exact h
theorem it_neg {α : Type} {c : Prop} {i : Decidable c} {a b : Option α} {r : Option α} (hc : ¬ c) (h : @ite _ c i a b = r) : b = r := by rw [if_neg hc] at h; exact h
theorem ne_of {y : Int32} (h : decide (¬ y = 0) = true) : ¬ y = 0 := of_decide_eq_true h
theorem nl_of {y : Int64} (h : decide (¬ y = 0) = true) : ¬ y = 0 := of_decide_eq_true h
theorem zn_of {v : Int32} (h : decide (v &&& 1 = v) = true) : narrow .boolean (.int v) = .int v := by
  show Value.int (v &&& 1) = .int v
  rw [of_decide_eq_true h]
/-- how often a loop may go round -/
def fu_ : Nat := 1000000
/-- the array classes -/
abbrev ty_ (K : Nat → ClassId) : List (ClassId × FieldType) := [(K 0, .int), (K 1, .long), (K 2, .boolean), (K 3, .byte), (K 4, .object "StaggerRadar$Radar"), (K 5, .object "StaggerRadar$Text")]
/-- the private members of nest mates that are called -/
def nm_l : List (String × Nat × MethodName × String) := [("StaggerRadar", 21, ⟨"StaggerRadar$Text", "<init>", "()V"⟩, "StaggerRadar"), ("StaggerRadar", 28, ⟨"StaggerRadar$Reader", "<init>", "()V"⟩, "StaggerRadar"), ("StaggerRadar", 54, ⟨"StaggerRadar$Echoes", "<init>", "()V"⟩, "StaggerRadar"), ("StaggerRadar", 61, ⟨"StaggerRadar$Tracks", "<init>", "()V"⟩, "StaggerRadar"), ("StaggerRadar", 68, ⟨"StaggerRadar$Dwell", "<init>", "()V"⟩, "StaggerRadar"), ("StaggerRadar", 75, ⟨"StaggerRadar$Chooser", "<init>", "()V"⟩, "StaggerRadar"), ("StaggerRadar", 82, ⟨"StaggerRadar$Adviser", "<init>", "()V"⟩, "StaggerRadar"), ("StaggerRadar$Reader", 84, ⟨"StaggerRadar", "isGap", "(I)Z"⟩, "StaggerRadar"), ("StaggerRadar$Reader", 94, ⟨"StaggerRadar", "isWithin", "(III)Z"⟩, "StaggerRadar"), ("StaggerRadar$Radar", 73, ⟨"StaggerRadar", "isWithin", "(III)Z"⟩, "StaggerRadar"), ("StaggerRadar$Echoes", 40, ⟨"StaggerRadar", "isWithin", "(III)Z"⟩, "StaggerRadar"), ("StaggerRadar$Echoes", 44, ⟨"StaggerRadar", "isGap", "(I)Z"⟩, "StaggerRadar"), ("StaggerRadar$Radar", 88, ⟨"StaggerRadar", "rest", "(II)I"⟩, "StaggerRadar"), ("StaggerRadar$Echoes", 59, ⟨"StaggerRadar", "rest", "(II)I"⟩, "StaggerRadar"), ("StaggerRadar$Speeds", 41, ⟨"StaggerRadar", "commonDivisor", "(II)I"⟩, "StaggerRadar"), ("StaggerRadar$Echoes", 129, ⟨"StaggerRadar", "leastCommon", "(II)I"⟩, "StaggerRadar"), ("StaggerRadar$Dwell", 43, ⟨"StaggerRadar", "rest", "(II)I"⟩, "StaggerRadar"), ("StaggerRadar$Chooser", 94, ⟨"StaggerRadar", "leastCommon", "(II)I"⟩, "StaggerRadar")]
def NW_ (U : State) : Prop := (∀ q ∈ nm_l, va_Nw (.methodLinkNest q.1 q.2.1 q.2.2.1 q.2.2.2) U) ∧ va_Nw (.fieldLinkNest "StaggerRadar$Radar" 36 "StaggerRadar" "AT_FIRST" "[I" "StaggerRadar") U ∧ va_Nw (.fieldLinkNest "StaggerRadar$Reader" 88 "StaggerRadar" "LEAST" "[I" "StaggerRadar") U ∧ va_Nw (.fieldLinkNest "StaggerRadar$Reader" 91 "StaggerRadar" "MOST" "[I" "StaggerRadar") U
theorem NW_.warm {s U : State} (hW : s.WarmedH U.vm) (h : NW_ s) : NW_ U := ⟨fun q hq => va_Nw.warmM hW (h.1 q hq), va_Nw.warmF hW h.2.1, va_Nw.warmF hW h.2.2.1, va_Nw.warmF hW h.2.2.2⟩
theorem NW_.same {u U : State} (hv : u.vm = U.vm) (h : NW_ u) : NW_ U := ⟨fun q hq => va_Nw.same rfl hv (h.1 q hq), va_Nw.same rfl hv h.2.1, va_Nw.same rfl hv h.2.2.1, va_Nw.same rfl hv h.2.2.2⟩
def tb_A : List Int32 := [60, 0, 1, 500, 2, 100, 1]
def tb_L : List Int32 := [2, 0, 0, 1, 1, 1, 1]
def tb_M : List Int32 := [999, 49, 9, 1000, 5, 200, 200]
def tv_ (t : List Int32) : Nat → Value := fun j => .int (t.getD j 0)
def st_tx : List (Nat × String) := [(146, "wave"), (148, "notch"), (150, "pulse"), (152, "limit"), (154, "need"), (156, "span"), (158, "floor"), (160, "gap"), (162, "come"), (164, "go")]
def st_len : List Nat := [4, 5, 5, 5, 4, 4, 5, 3, 4, 2]
def st_byt : List (List Int32) := [[119, 97, 118, 101], [110, 111, 116, 99, 104], [112, 117, 108, 115, 101], [108, 105, 109, 105, 116], [110, 101, 101, 100], [115, 112, 97, 110], [102, 108, 111, 111, 114], [103, 97, 112], [99, 111, 109, 101], [103, 111]]
/-- a static row of the class: the field, the row -/
def sr_ (n : String) (t : List Int32) (A : Nat → Prop) (U : State) (H : Heap) : Prop := ∃ a : Nat, va_Z "StaggerRadar" n "[I" (.ref a) A U H ∧ va_T .int a 7 (tv_ t) A U H
/-- the words of the texts -/
def sx_ (K : Nat → ClassId) (A : Nat → Prop) (U : State) (H : Heap) : Prop := vk_S 10 st_len st_byt (fun i => K (100 + i)) (fun i => K (200 + i)) A U H ∧ ∀ i : Nat, i < 10 → vk_R "StaggerRadar$Reader" (st_tx.getD i (0, "")).1 (st_tx.getD i (0, "")).2 (K (100 + i)) U
/-- all that stays outside the worlds: what is linked, static rows, the words of the texts, what a throw reads -/
def ST_ (K : Nat → ClassId) (A : Nat → Prop) (U : State) (H : Heap) : Prop := NW_ U ∧ sr_ "AT_FIRST" tb_A A U H ∧ sr_ "LEAST" tb_L A U H ∧ sr_ "MOST" tb_M A U H ∧ sx_ K A U H ∧ va_Z "java/lang/String" "COMPACT_STRINGS" "Z" (.int 1) A U H ∧ vx_Zq Bundle.tN "UNASSIGNED_STACK" Bundle.steD A U H ∧ vx_Zq Bundle.tN "SUPPRESSED_SENTINEL" Bundle.listD A U H ∧ va_Zq "jdk/internal/util/Preconditions" "SIOOBE_FORMATTER" "Ljava/util/function/BiFunction;" A U H
theorem sr_.go {n : String} {t : List Int32} {A B : Nat → Prop} {s U : State} {H H1 : Heap} (hvm : s.vm.Alike U.vm) (hq : ∀ a : Nat, a < H.size → ¬ A a → H1[a]? = H[a]?) (hAB : ∀ q, B q → A q) (h : sr_ n t A s H) : sr_ n t B U H1 := by
  obtain ⟨a, h1, h2⟩ := h
  exact ⟨a, va_Z.moved hvm ((h1.kept hq).narrow hAB), va_T.moved hvm ((h2.kept hq).narrow hAB)⟩
theorem ST_.go {K : Nat → ClassId} {A B : Nat → Prop} {s U : State} {H : Heap} {locs : List Loc} (hW : s.WarmedH U.vm) (hU : U.heap = H) (hS : va_S A s.heap H locs) (hAB : ∀ q, B q → A q) (h : ST_ K A s s.heap) : ST_ K B U U.heap := by
  obtain ⟨h1, h2, h3, h4, ⟨h5, h6⟩, h7, h8, h9, h10⟩ := h
  have hq : ∀ a : Nat, a < s.heap.size → ¬ A a → U.heap[a]? = s.heap[a]? := fun a ha hn => by rw [hU]; exact hS.2.1 a ha hn
  have hvm := hW.alike
  exact ⟨h1.warm hW, h2.go hvm hq hAB, h3.go hvm hq hAB, h4.go hvm hq hAB, ⟨vk_S.moved hvm ((h5.kept hq).narrow hAB), fun i hi => (h6 i hi).warm hW⟩, va_Z.moved hvm ((h7.kept hq).narrow hAB), vx_Zq.moved hvm ((h8.kept hq).narrow hAB), vx_Zq.moved hvm ((h9.kept hq).narrow hAB), va_Zq.moved hvm ((h10.kept hq).narrow hAB)⟩
theorem ST_.same {K : Nat → ClassId} {A : Nat → Prop} {u U : State} (hv : u.vm = U.vm) (hh : u.heap = U.heap) (h : ST_ K A u u.heap) : ST_ K A U U.heap := by
  obtain ⟨h1, h2, h3, h4, ⟨h5, h6⟩, h7, h8, h9, h10⟩ := h
  have hq : ∀ a : Nat, a < u.heap.size → ¬ A a → U.heap[a]? = u.heap[a]? := fun a _ _ => by rw [hh]
  have hvm : u.vm.Alike U.vm := hv ▸ Vm.Alike.refl u.vm
  exact ⟨h1.same hv, h2.go hvm hq (fun _ h => h), h3.go hvm hq (fun _ h => h), h4.go hvm hq (fun _ h => h), ⟨vk_S.moved hvm (h5.kept hq), fun i hi => (h6 i hi).same hv.symm⟩, va_Z.moved hvm (h7.kept hq), vx_Zq.moved hvm (h8.kept hq), vx_Zq.moved hvm (h9.kept hq), va_Zq.moved hvm (h10.kept hq)⟩
def cx_ (p : Program) (s : State) (m : MethodId) (args : Array Value) (c : Code) (cc : ByteArray) (nL : Nat) (own : String) (Ts : List Cond) (D : va_G) (K : Nat → ClassId) (A : Nat → Prop) : Prop :=
  CallFix p m c cc nL s args Ts own ∧ va_K D vwCl (ty_ K) s ∧ (∀ q : Nat, s.heap.size ≤ q → A q) ∧ ST_ K A s s.heap
def Bp_ (D : va_G) (K : Nat → ClassId) (wc : va_W) (sz : Nat) : State → Prop := fun U => U.heap.size = sz ∧ va_P D vwCl wc U.heap ∧ va_K D vwCl (ty_ K) U ∧ va_D (fun _ => True) wc ∧ ST_ K (va_A wc sz) U U.heap
def Bq_ (D : va_G) (K : Nat → ClassId) (A : Nat → Prop) (w1 : va_W) : Unit → State → Prop := fun _ t => va_P D vwCl w1 t.heap ∧ va_K D vwCl (ty_ K) t ∧ va_D A w1
def Mi_ (l : Launch) (y : MethodName) (ws : List Cond) (rm : Room) (D : va_G) (K : Nat → ClassId) (avs : List Value) (wc w1 : va_W) (r : Int32) : Prop :=
  ∀ sz : Nat, Met l y ws rm (va_Pc avs (Bp_ D K wc sz)) (va_Qi (fun z (_ : Unit) => z = r) (Bq_ D K (va_A wc sz) w1) (va_A wc sz)) 0 0 (va_A wc sz)
def Ml_ (l : Launch) (y : MethodName) (ws : List Cond) (rm : Room) (D : va_G) (K : Nat → ClassId) (avs : List Value) (wc w1 : va_W) (r : Int64) : Prop :=
  ∀ sz : Nat, Met l y ws rm (va_Pc avs (Bp_ D K wc sz)) (va_Ql (fun z (_ : Unit) => z = r) (Bq_ D K (va_A wc sz) w1) (va_A wc sz)) 0 0 (va_A wc sz)
def Mv_ (l : Launch) (y : MethodName) (ws : List Cond) (rm : Room) (D : va_G) (K : Nat → ClassId) (avs : List Value) (wc w1 : va_W) : Prop :=
  ∀ sz : Nat, Met l y ws rm (va_Pc avs (Bp_ D K wc sz)) (va_Qv (fun (_ : Unit) => True) (Bq_ D K (va_A wc sz) w1) (va_A wc sz)) 0 0 (va_A wc sz)
section ENT
variable {l : Launch} {y : MethodName} {ws ws' : List Cond} {rm : Room} {D : va_G} {K : Nat → ClassId} {avs : List Value} {wc w1 : va_W} {cc : ByteArray} {maxL : Nat}
theorem en_i {r : Int32} {own : String} (hy : plainName y.cls = true) (hw : ws = Cond.code y cc maxL (some .int) :: ws') (ho : y.cls = own) (hz : (lg_sl avs).length ≤ maxL)
    (body : ∀ (p : Program) (e : Env) (s : State) (m : MethodId) (args : Array Value) (below : List Frame) (meth : Method) (c : Code) (A : Nat → Prop) (Q : State → Prop) (H : Heap) (locs : List Loc) (ls : Array Slot),
      cx_ p s m args c cc maxL own ws D K A → va_P D vwCl wc H → va_D A wc → va_S A s.heap H locs → lv_has ls maxL (lv_args 0 avs) →
      (∀ (pc : Nat) (H : Heap) (locs : List Loc) (ls : Array Slot), decode cc pc = .ok (.ireturn, 1) → va_P D vwCl w1 H → va_D A w1 → va_S A s.heap H locs → W p l e rm s m args below meth c H locs 0 0 Q (F0 m pc ls [.int r])) →
      W p l e rm s m args below meth c H locs 0 0 Q (F0 m 0 ls [])) : Mi_ l y ws rm D K avs wc w1 r := by
  intro sz
  refine Met.ofW (cc := cc) (maxL := maxL) (ret := some .int) hy hw ?_
  intro p e s m args below meth c s₁ B hml hv
  obtain ⟨rfl, hsz, hP, hK, hD0, hT⟩ := hv
  have hx := B.exec
  have hb := B.bytes
  have hr := B.returns
  have hts := atoms_spec (ws := ws) B.pre
  have hown : s.vm.findClass own = some m.cls := ho ▸ findClass_of_methodNamed B.named
  have hlocks := B.notSynchronized
  subst hsz
  have hD := hD0.self (sz := s.heap.size)
  have hA : ∀ q : Nat, s.heap.size ≤ q → va_A wc s.heap.size q := fun q h => Or.inr h
  have hl := lv_entry avs (n := maxL) hz
  rw [lg_entry_eq]
  refine body p e s m avs.toArray below meth c (va_A wc s.heap.size) _ s.heap [] _ ⟨⟨hx, hb, hml, hown, hts⟩, hK, hA, hT⟩ hP hD va_S.rf hl ?_
  intro pc H locs ls hd hP1 hD1 hS1
  exact W.iret (v := r) hx hb hr (fun t ht hW => ⟨⟨r, (), rfl, rfl, by rw [ht]; exact hP1, va_K.moved hW.alike hK, hD1⟩, hS1.F ht⟩) hS1.2.2 hd
theorem en_z {r : Int32} {own : String} (hy : plainName y.cls = true) (hw : ws = Cond.code y cc maxL (some .boolean) :: ws') (ho : y.cls = own) (hz : (lg_sl avs).length ≤ maxL)
    (body : ∀ (p : Program) (e : Env) (s : State) (m : MethodId) (args : Array Value) (below : List Frame) (meth : Method) (c : Code) (A : Nat → Prop) (Q : State → Prop) (H : Heap) (locs : List Loc) (ls : Array Slot),
      cx_ p s m args c cc maxL own ws D K A → va_P D vwCl wc H → va_D A wc → va_S A s.heap H locs → lv_has ls maxL (lv_args 0 avs) →
      (∀ (pc : Nat) (H : Heap) (locs : List Loc) (ls : Array Slot), decode cc pc = .ok (.ireturn, 1) → narrow .boolean (.int r) = .int r → va_P D vwCl w1 H → va_D A w1 → va_S A s.heap H locs → W p l e rm s m args below meth c H locs 0 0 Q (F0 m pc ls [.int r])) →
      W p l e rm s m args below meth c H locs 0 0 Q (F0 m 0 ls [])) : Mi_ l y ws rm D K avs wc w1 r := by
  intro sz
  refine Met.ofW (cc := cc) (maxL := maxL) (ret := some .boolean) hy hw ?_
  intro p e s m args below meth c s₁ B hml hv
  obtain ⟨rfl, hsz, hP, hK, hD0, hT⟩ := hv
  have hx := B.exec
  have hb := B.bytes
  have hr := B.returns
  have hts := atoms_spec (ws := ws) B.pre
  have hown : s.vm.findClass own = some m.cls := ho ▸ findClass_of_methodNamed B.named
  have hlocks := B.notSynchronized
  subst hsz
  have hD := hD0.self (sz := s.heap.size)
  have hA : ∀ q : Nat, s.heap.size ≤ q → va_A wc s.heap.size q := fun q h => Or.inr h
  have hl := lv_entry avs (n := maxL) hz
  rw [lg_entry_eq]
  refine body p e s m avs.toArray below meth c (va_A wc s.heap.size) _ s.heap [] _ ⟨⟨hx, hb, hml, hown, hts⟩, hK, hA, hT⟩ hP hD va_S.rf hl ?_
  intro pc H locs ls hd hn hP1 hD1 hS1
  exact W.zret (v := r) (ty := .boolean) hx hb hr hn (fun t ht hW => ⟨⟨r, (), rfl, rfl, by rw [ht]; exact hP1, va_K.moved hW.alike hK, hD1⟩, hS1.F ht⟩) hS1.2.2 hd
theorem en_l {r : Int64} {own : String} (hy : plainName y.cls = true) (hw : ws = Cond.code y cc maxL (some .long) :: ws') (ho : y.cls = own) (hz : (lg_sl avs).length ≤ maxL)
    (body : ∀ (p : Program) (e : Env) (s : State) (m : MethodId) (args : Array Value) (below : List Frame) (meth : Method) (c : Code) (A : Nat → Prop) (Q : State → Prop) (H : Heap) (locs : List Loc) (ls : Array Slot),
      cx_ p s m args c cc maxL own ws D K A → va_P D vwCl wc H → va_D A wc → va_S A s.heap H locs → lv_has ls maxL (lv_args 0 avs) →
      (∀ (pc : Nat) (H : Heap) (locs : List Loc) (ls : Array Slot), decode cc pc = .ok (.lreturn, 1) → va_P D vwCl w1 H → va_D A w1 → va_S A s.heap H locs → W p l e rm s m args below meth c H locs 0 0 Q (F0 m pc ls [.long r])) →
      W p l e rm s m args below meth c H locs 0 0 Q (F0 m 0 ls [])) : Ml_ l y ws rm D K avs wc w1 r := by
  intro sz
  refine Met.ofW (cc := cc) (maxL := maxL) (ret := some .long) hy hw ?_
  intro p e s m args below meth c s₁ B hml hv
  obtain ⟨rfl, hsz, hP, hK, hD0, hT⟩ := hv
  have hx := B.exec
  have hb := B.bytes
  have hr := B.returns
  have hts := atoms_spec (ws := ws) B.pre
  have hown : s.vm.findClass own = some m.cls := ho ▸ findClass_of_methodNamed B.named
  have hlocks := B.notSynchronized
  subst hsz
  have hD := hD0.self (sz := s.heap.size)
  have hA : ∀ q : Nat, s.heap.size ≤ q → va_A wc s.heap.size q := fun q h => Or.inr h
  have hl := lv_entry avs (n := maxL) hz
  rw [lg_entry_eq]
  refine body p e s m avs.toArray below meth c (va_A wc s.heap.size) _ s.heap [] _ ⟨⟨hx, hb, hml, hown, hts⟩, hK, hA, hT⟩ hP hD va_S.rf hl ?_
  intro pc H locs ls hd hP1 hD1 hS1
  exact W.lret (v := r) hx hb hr (fun t ht hW => ⟨⟨r, (), rfl, rfl, by rw [ht]; exact hP1, va_K.moved hW.alike hK, hD1⟩, hS1.F ht⟩) hS1.2.2 hd
theorem en_v {own : String} (hy : plainName y.cls = true) (hw : ws = Cond.code y cc maxL none :: ws') (ho : y.cls = own) (hz : (lg_sl avs).length ≤ maxL)
    (body : ∀ (p : Program) (e : Env) (s : State) (m : MethodId) (args : Array Value) (below : List Frame) (meth : Method) (c : Code) (A : Nat → Prop) (Q : State → Prop) (H : Heap) (locs : List Loc) (ls : Array Slot),
      cx_ p s m args c cc maxL own ws D K A → va_P D vwCl wc H → va_D A wc → va_S A s.heap H locs → lv_has ls maxL (lv_args 0 avs) →
      (∀ (pc : Nat) (H : Heap) (locs : List Loc) (ls : Array Slot), decode cc pc = .ok (.return_, 1) → va_P D vwCl w1 H → va_D A w1 → va_S A s.heap H locs → W p l e rm s m args below meth c H locs 0 0 Q (F0 m pc ls [])) →
      W p l e rm s m args below meth c H locs 0 0 Q (F0 m 0 ls [])) : Mv_ l y ws rm D K avs wc w1 := by
  intro sz
  refine Met.ofW (cc := cc) (maxL := maxL) (ret := none) hy hw ?_
  intro p e s m args below meth c s₁ B hml hv
  obtain ⟨rfl, hsz, hP, hK, hD0, hT⟩ := hv
  have hx := B.exec
  have hb := B.bytes
  have hr := B.returns
  have hts := atoms_spec (ws := ws) B.pre
  have hown : s.vm.findClass own = some m.cls := ho ▸ findClass_of_methodNamed B.named
  have hlocks := B.notSynchronized
  subst hsz
  have hD := hD0.self (sz := s.heap.size)
  have hA : ∀ q : Nat, s.heap.size ≤ q → va_A wc s.heap.size q := fun q h => Or.inr h
  have hl := lv_entry avs (n := maxL) hz
  rw [lg_entry_eq]
  refine body p e s m avs.toArray below meth c (va_A wc s.heap.size) _ s.heap [] _ ⟨⟨hx, hb, hml, hown, hts⟩, hK, hA, hT⟩ hP hD va_S.rf hl ?_
  intro pc H locs ls hd hP1 hD1 hS1
  exact W.vret hx hb hr (fun t ht hW => ⟨⟨(), rfl, trivial, by rw [ht]; exact hP1, va_K.moved hW.alike hK, hD1⟩, hS1.F ht⟩) hS1.2.2 hd
end ENT
theorem fm_map {α : Type} {f : Nat → Option α} : ∀ {l : List Nat} {w : List α}, l.map f = w.map some → l.filterMap f = w
  | [], [], _ => rfl
  | [], _ :: _, h => by simp at h
  | _ :: _, [], h => by simp at h
  | a :: l, b :: w, h => by
    simp only [List.map_cons, List.cons.injEq] at h
    rw [List.filterMap_cons_some h.1, fm_map h.2]
theorem fm_in {α : Type} {ws : List α} : ∀ {l : List Nat}, l.all (fun i => Nat.blt i ws.length) = true → l.map (fun i => ws[i]?) = (l.filterMap (fun i => ws[i]?)).map some
  | [], _ => rfl
  | a :: l, h => by
    simp only [List.all_cons, Bool.and_eq_true] at h
    have hlt : a < ws.length := Nat.le_of_ble_eq_true h.1
    have ha : ws[a]? = some ws[a] := List.getElem?_eq_getElem hlt
    rw [List.map_cons, List.filterMap_cons_some ha, List.map_cons, ← fm_in h.2, ha]
section CAL
variable {p : Program} {l : Launch} {e : Env} {R : Room} {s : State} {m : MethodId} {args : Array Value} {below : List Frame} {meth : Method} {c : Code} {H : Heap} {locs : List Loc} {Q : State → Prop}
variable {pc : Nat} {ls : Array Slot} {rest st0 : List Value} {a : Array Value} {D : va_G} {K : Nat → ClassId} {A : Nat → Prop} {ws0 wc w1 wn : va_W}
theorem xp_V {C : String} {b : Nat} {As : List Value} (hX : va_K D vwCl (ty_ K) s ∧ (∀ q : Nat, s.heap.size ≤ q → A q) ∧ ST_ K A s s.heap) (hP : va_P D vwCl ws0 H) (hD : va_D A ws0) (hS : va_S A s.heap H locs) (isC : List Nat) (hC : isC.map (fun i => ws0[i]?) = wc.map some) (hn : va_nd isC = true) (ci q0 : Nat) {fs : List Value} {q : vw_C} (hc : vwCl[ci]? = some q) (he : wc[q0]? = some (b, .inr (ci, fs))) (hq : q.1 = C) :
    PreV s H C b (va_Pc (.ref b :: As) (Bp_ D K wc H.size)) As := by
  have hPc := hP.sub isC (fm_map hC)
  have hDc := hD.sub isC hn hC
  obtain ⟨hK, hA, hT⟩ := hX
  have hFc := va_free (wc := wc) hD hS hA isC hC
  refine ⟨fun a U g mk h => ?_, ?_, fun U hU hW => ⟨rfl, by rw [hU], by rw [hU]; exact hPc, va_K.moved hW.alike hK, hDc.weaken (fun _ _ _ _ => trivial), hT.go hW hU hS hFc⟩⟩
  · obtain ⟨h0, h1, h2, h3, h4, h5⟩ := h
    exact ⟨h0, h1, h2, va_K.moved (u := U) (U := U.calling g mk a) (Vm.Alike.refl U.vm) h3, h4, ST_.same (u := U) rfl rfl h5⟩
  · rw [← hq]; exact va_recv hK hPc hc he
theorem xp_S {As : List Value} (hX : va_K D vwCl (ty_ K) s ∧ (∀ q : Nat, s.heap.size ≤ q → A q) ∧ ST_ K A s s.heap) (hP : va_P D vwCl ws0 H) (hD : va_D A ws0) (hS : va_S A s.heap H locs) (isC : List Nat) (hC : isC.map (fun i => ws0[i]?) = wc.map some) (hn : va_nd isC = true) :
    PreS s H (va_Pc As (Bp_ D K wc H.size)) As := by
  have hPc := hP.sub isC (fm_map hC)
  have hDc := hD.sub isC hn hC
  obtain ⟨hK, hA, hT⟩ := hX
  have hFc := va_free (wc := wc) hD hS hA isC hC
  refine ⟨fun a U g mk h => ?_, fun U hU hW => ⟨rfl, by rw [hU], by rw [hU]; exact hPc, va_K.moved hW.alike hK, hDc.weaken (fun _ _ _ _ => trivial), hT.go hW hU hS hFc⟩⟩
  obtain ⟨h0, h1, h2, h3, h4, h5⟩ := h
  exact ⟨h0, h1, h2, va_K.moved (u := U) (U := U.calling g mk a) (Vm.Alike.refl U.vm) h3, h4, ST_.same (u := U) rfl rfl h5⟩
theorem xc_i {res : Int32} (hP : va_P D vwCl ws0 H) (hD : va_D A ws0) (hS : va_S A s.heap H locs) (hA : ∀ q : Nat, s.heap.size ≤ q → A q) (isC isR isN : List Nat)
    (hC : isC.map (fun i => ws0[i]?) = wc.map some) (hR : isR.all (fun i => Nat.blt i ws0.length) = true) (hn : va_nd isR = true) (hdis : ∀ i ∈ isR, i ∉ isC)
    (hN : isN.map (fun i => (isR.filterMap (fun i => ws0[i]?) ++ w1)[i]?) = wn.map some) (hn2 : va_nd isN = true)
    (hr : va_Run p l e R s m args below meth c H locs 0 0 0 0 (F0 m pc ls st0) rest (va_Qi (fun z (_ : Unit) => z = res) (Bq_ D K (va_A wc H.size) w1) (va_A wc H.size) a) (va_A wc H.size))
    (kk : ∀ (H : Heap) (locs : List Loc), va_P D vwCl wn H → va_D A wn → va_S A s.heap H locs → W p l e R s m args below meth c H locs 0 0 Q (F0 m (pc + 3) ls (.int res :: rest))) : W p l e R s m args below meth c H locs 0 0 Q (F0 m pc ls st0) := by
  have hFc := va_free (wc := wc) hD hS hA isC hC
  refine va_calli hr hS (fun q _ h => hFc q h) hFc (fun r_1 u t H1 locs1 ht hvm hw hB hz1 hk1 hS1 => ?_)
  obtain ⟨hP1, hK1, hD1⟩ := hB
  rw [ht] at hP1
  obtain ⟨hP2, hD2⟩ := va_join hP hD isC isR hC (fm_in hR) hn hdis hk1 hFc hP1 hD1
  rw [hw]
  exact kk H1 locs1 (hP2.sub isN (fm_map hN)) (hD2.sub isN hn2 hN) hS1
theorem xc_l {res : Int64} (hP : va_P D vwCl ws0 H) (hD : va_D A ws0) (hS : va_S A s.heap H locs) (hA : ∀ q : Nat, s.heap.size ≤ q → A q) (isC isR isN : List Nat)
    (hC : isC.map (fun i => ws0[i]?) = wc.map some) (hR : isR.all (fun i => Nat.blt i ws0.length) = true) (hn : va_nd isR = true) (hdis : ∀ i ∈ isR, i ∉ isC)
    (hN : isN.map (fun i => (isR.filterMap (fun i => ws0[i]?) ++ w1)[i]?) = wn.map some) (hn2 : va_nd isN = true)
    (hr : va_Run p l e R s m args below meth c H locs 0 0 0 0 (F0 m pc ls st0) rest (va_Ql (fun z (_ : Unit) => z = res) (Bq_ D K (va_A wc H.size) w1) (va_A wc H.size) a) (va_A wc H.size))
    (kk : ∀ (H : Heap) (locs : List Loc), va_P D vwCl wn H → va_D A wn → va_S A s.heap H locs → W p l e R s m args below meth c H locs 0 0 Q (F0 m (pc + 3) ls (.long res :: rest))) : W p l e R s m args below meth c H locs 0 0 Q (F0 m pc ls st0) := by
  have hFc := va_free (wc := wc) hD hS hA isC hC
  refine va_calll hr hS (fun q _ h => hFc q h) hFc (fun r_1 u t H1 locs1 ht hvm hw hB hz1 hk1 hS1 => ?_)
  obtain ⟨hP1, hK1, hD1⟩ := hB
  rw [ht] at hP1
  obtain ⟨hP2, hD2⟩ := va_join hP hD isC isR hC (fm_in hR) hn hdis hk1 hFc hP1 hD1
  rw [hw]
  exact kk H1 locs1 (hP2.sub isN (fm_map hN)) (hD2.sub isN hn2 hN) hS1
theorem xc_v (hP : va_P D vwCl ws0 H) (hD : va_D A ws0) (hS : va_S A s.heap H locs) (hA : ∀ q : Nat, s.heap.size ≤ q → A q) (isC isR isN : List Nat)
    (hC : isC.map (fun i => ws0[i]?) = wc.map some) (hR : isR.all (fun i => Nat.blt i ws0.length) = true) (hn : va_nd isR = true) (hdis : ∀ i ∈ isR, i ∉ isC)
    (hN : isN.map (fun i => (isR.filterMap (fun i => ws0[i]?) ++ w1)[i]?) = wn.map some) (hn2 : va_nd isN = true)
    (hr : va_Run p l e R s m args below meth c H locs 0 0 0 0 (F0 m pc ls st0) rest (va_Qv (fun (_ : Unit) => True) (Bq_ D K (va_A wc H.size) w1) (va_A wc H.size) a) (va_A wc H.size))
    (kk : ∀ (H : Heap) (locs : List Loc), va_P D vwCl wn H → va_D A wn → va_S A s.heap H locs → W p l e R s m args below meth c H locs 0 0 Q (F0 m (pc + 3) ls rest)) : W p l e R s m args below meth c H locs 0 0 Q (F0 m pc ls st0) := by
  have hFc := va_free (wc := wc) hD hS hA isC hC
  refine va_callv hr hS (fun q _ h => hFc q h) hFc (fun u t H1 locs1 ht hvm hw hB hz1 hk1 hS1 => ?_)
  obtain ⟨hP1, hK1, hD1⟩ := hB
  rw [ht] at hP1
  obtain ⟨hP2, hD2⟩ := va_join hP hD isC isR hC (fm_in hR) hn hdis hk1 hFc hP1 hD1
  exact kk H1 locs1 (hP2.sub isN (fm_map hN)) (hD2.sub isN hn2 hN) hS1
end CAL
section LDS
variable {p : Program} {l : Launch} {e : Env} {R : Room} {s : State} {m : MethodId} {args : Array Value} {below : List Frame} {meth : Method} {c : Code} {H : Heap} {locs : List Loc} {cells slots : Nat} {Q : State → Prop}
variable {cc : ByteArray} {pc : Nat} {ls : Array Slot} {rest : List Value} {D : va_G} {cl : List vw_C} {tys : List (ClassId × FieldType)} {ws : va_W} {a : Nat} {A : Nat → Prop} {H0 : Heap} {cA : ClassId} {n : Nat}
theorem xl_i (hexec : p.tables.exec = Jvm.exec) (hb : c.code = cc) (hK : va_K D cl tys s) (hP : va_P D cl ws H) (q0 t0 : Nat) {f : Nat → Int32} (ha : ws[q0]? = some (a, .inl (cA, n, .inl f))) (ht : tys[t0]? = some (cA, .int)) {i : Int32} {k : Nat} (hk : i.toNatClampNeg = k) (hin : vp_in i n) (hdg : decode cc pc = .ok (.iaload, 1))
    (kk : W p l e R s m args below meth c H locs cells slots Q (F0 m (pc + 1) ls (.int (f k) :: rest))) : W p l e R s m args below meth c H locs cells slots Q (F0 m pc ls (.int i :: .ref a :: rest)) := by
  subst hk
  exact va_iald hexec hb hK hP q0 t0 ha ht hin hdg kk
theorem xl_z (hexec : p.tables.exec = Jvm.exec) (hb : c.code = cc) (hK : va_K D cl tys s) (hP : va_P D cl ws H) (q0 t0 : Nat) {f : Nat → Int32} (ha : ws[q0]? = some (a, .inl (cA, n, .inl f))) (ht : tys[t0]? = some (cA, .boolean)) {i : Int32} {k : Nat} (hk : i.toNatClampNeg = k) (hin : vp_in i n) (hdg : decode cc pc = .ok (.baload, 1))
    (kk : W p l e R s m args below meth c H locs cells slots Q (F0 m (pc + 1) ls (.int (f k) :: rest))) : W p l e R s m args below meth c H locs cells slots Q (F0 m pc ls (.int i :: .ref a :: rest)) := by
  subst hk
  exact va_zald hexec hb hK hP q0 t0 ha ht hin hdg kk
theorem xl_b (hexec : p.tables.exec = Jvm.exec) (hb : c.code = cc) (hK : va_K D cl tys s) (hP : va_P D cl ws H) (q0 t0 : Nat) {f : Nat → Int32} (ha : ws[q0]? = some (a, .inl (cA, n, .inl f))) (ht : tys[t0]? = some (cA, .byte)) {i : Int32} {k : Nat} (hk : i.toNatClampNeg = k) (hin : vp_in i n) (hdg : decode cc pc = .ok (.baload, 1))
    (kk : W p l e R s m args below meth c H locs cells slots Q (F0 m (pc + 1) ls (.int (f k) :: rest))) : W p l e R s m args below meth c H locs cells slots Q (F0 m pc ls (.int i :: .ref a :: rest)) := by
  subst hk
  exact va_bald hexec hb hK hP q0 t0 ha ht hin hdg kk
theorem xl_l (hexec : p.tables.exec = Jvm.exec) (hb : c.code = cc) (hK : va_K D cl tys s) (hP : va_P D cl ws H) (q0 t0 : Nat) {f : Nat → Int64} (ha : ws[q0]? = some (a, .inl (cA, n, .inr (.inl f)))) (ht : tys[t0]? = some (cA, .long)) {i : Int32} {k : Nat} (hk : i.toNatClampNeg = k) (hin : vp_in i n) (hdg : decode cc pc = .ok (.laload, 1))
    (kk : W p l e R s m args below meth c H locs cells slots Q (F0 m (pc + 1) ls (.long (f k) :: rest))) : W p l e R s m args below meth c H locs cells slots Q (F0 m pc ls (.int i :: .ref a :: rest)) := by
  subst hk
  exact va_lald hexec hb hK hP q0 t0 ha ht hin hdg kk
theorem xs_i (hexec : p.tables.exec = Jvm.exec) (hb : c.code = cc) (hK : va_K D cl tys s) (hP : va_P D cl ws H) (hD : va_D A ws) (hS : va_S A H0 H locs) (q0 t0 : Nat) {f : Nat → Int32} (ha : ws[q0]? = some (a, .inl (cA, n, .inl (f)))) (ht : tys[t0]? = some (cA, .int)) {i : Int32} {x : Int32} {k : Nat} (hk : i.toNatClampNeg = k) (hin : vp_in i n) (hdg : decode cc pc = .ok (.iastore, 1))
    (kk : ∀ (H1 : Heap) (locs1 : List Loc), va_P D cl (ws.set q0 (a, .inl (cA, n, .inl (upd f k x)))) H1 → va_D A (ws.set q0 (a, .inl (cA, n, .inl (upd f k x)))) → va_S A H0 H1 locs1 → W p l e R s m args below meth c H1 locs1 cells slots Q (F0 m (pc + 1) ls rest)) : W p l e R s m args below meth c H locs cells slots Q (F0 m pc ls (.int x :: .int i :: .ref a :: rest)) := by
  subst hk
  exact va_iast hexec hb hK hP hD hS q0 t0 ha ht hin hdg kk
theorem xs_z (hexec : p.tables.exec = Jvm.exec) (hb : c.code = cc) (hK : va_K D cl tys s) (hP : va_P D cl ws H) (hD : va_D A ws) (hS : va_S A H0 H locs) (q0 t0 : Nat) {f : Nat → Int32} (ha : ws[q0]? = some (a, .inl (cA, n, .inl (f)))) (ht : tys[t0]? = some (cA, .boolean)) {i : Int32} {x : Int32} {k : Nat} (hk : i.toNatClampNeg = k) (hin : vp_in i n) (hdg : decode cc pc = .ok (.bastore, 1))
    (kk : ∀ (H1 : Heap) (locs1 : List Loc), va_P D cl (ws.set q0 (a, .inl (cA, n, .inl (upd f k (vp_nar .boolean x))))) H1 → va_D A (ws.set q0 (a, .inl (cA, n, .inl (upd f k (vp_nar .boolean x))))) → va_S A H0 H1 locs1 → W p l e R s m args below meth c H1 locs1 cells slots Q (F0 m (pc + 1) ls rest)) : W p l e R s m args below meth c H locs cells slots Q (F0 m pc ls (.int x :: .int i :: .ref a :: rest)) := by
  subst hk
  exact va_zast hexec hb hK hP hD hS q0 t0 ha ht hin hdg kk
theorem xs_b (hexec : p.tables.exec = Jvm.exec) (hb : c.code = cc) (hK : va_K D cl tys s) (hP : va_P D cl ws H) (hD : va_D A ws) (hS : va_S A H0 H locs) (q0 t0 : Nat) {f : Nat → Int32} (ha : ws[q0]? = some (a, .inl (cA, n, .inl (f)))) (ht : tys[t0]? = some (cA, .byte)) {i : Int32} {x : Int32} {k : Nat} (hk : i.toNatClampNeg = k) (hin : vp_in i n) (hdg : decode cc pc = .ok (.bastore, 1))
    (kk : ∀ (H1 : Heap) (locs1 : List Loc), va_P D cl (ws.set q0 (a, .inl (cA, n, .inl (upd f k (vp_nar .byte x))))) H1 → va_D A (ws.set q0 (a, .inl (cA, n, .inl (upd f k (vp_nar .byte x))))) → va_S A H0 H1 locs1 → W p l e R s m args below meth c H1 locs1 cells slots Q (F0 m (pc + 1) ls rest)) : W p l e R s m args below meth c H locs cells slots Q (F0 m pc ls (.int x :: .int i :: .ref a :: rest)) := by
  subst hk
  exact va_bast hexec hb hK hP hD hS q0 t0 ha ht hin hdg kk
theorem xs_l (hexec : p.tables.exec = Jvm.exec) (hb : c.code = cc) (hK : va_K D cl tys s) (hP : va_P D cl ws H) (hD : va_D A ws) (hS : va_S A H0 H locs) (q0 t0 : Nat) {f : Nat → Int64} (ha : ws[q0]? = some (a, .inl (cA, n, .inr (.inl (f))))) (ht : tys[t0]? = some (cA, .long)) {i : Int32} {x : Int64} {k : Nat} (hk : i.toNatClampNeg = k) (hin : vp_in i n) (hdg : decode cc pc = .ok (.lastore, 1))
    (kk : ∀ (H1 : Heap) (locs1 : List Loc), va_P D cl (ws.set q0 (a, .inl (cA, n, .inr (.inl (vp_updL f k x))))) H1 → va_D A (ws.set q0 (a, .inl (cA, n, .inr (.inl (vp_updL f k x))))) → va_S A H0 H1 locs1 → W p l e R s m args below meth c H1 locs1 cells slots Q (F0 m (pc + 1) ls rest)) : W p l e R s m args below meth c H locs cells slots Q (F0 m pc ls (.long x :: .int i :: .ref a :: rest)) := by
  subst hk
  exact va_last hexec hb hK hP hD hS q0 t0 ha ht hin hdg kk
theorem xy_i (hexec : p.tables.exec = Jvm.exec) (hb : c.code = cc) (hml : c.maxLocals = ls.size) {own : String} {index : Nat} (hown : s.vm.findClass own = some m.cls) (hlink : (Cond.methodLink own index arraycopyName).before args s = true) (hnat : (Cond.native arraycopyName).before args s = true) (hstat : (Cond.static arraycopyName).before args s = true) (hini : (Cond.initialized "java/lang/System").before args s = true)
    (hK : va_K D cl tys s) (hP : va_P D cl ws H) (hD : va_D A ws) (hS : va_S A H0 H locs) (q0 q1 t0 t1 : Nat) {a0 : Nat} {c0 c1 : ClassId} {n0 n1 : Nat} {f g : Nat → Int32} (ha0 : ws[q0]? = some (a0, .inl (c0, n0, .inl f))) (ha1 : ws[q1]? = some (a, .inl (c1, n1, .inl g))) (ht0 : tys[t0]? = some (c0, .int)) (ht1 : tys[t1]? = some (c1, .int))
    {sp dp n : Int32} {k1 k2 k3 : Nat} (h1 : ¬ sp < 0) (h2 : ¬ dp < 0) (h3 : ¬ n < 0) (e1 : sp.toNatClampNeg = k1) (e2 : dp.toNatClampNeg = k2) (e3 : n.toNatClampNeg = k3) (h4 : k1 + k3 ≤ n0) (h5 : k2 + k3 ≤ n1)
    (hframes : 1 ≤ R.frames) (hlocals : (rest.map fun v => v.category).sum + (nativeFrameWords "java/lang/System" "arraycopy" 5 + 11) ≤ R.locals) (hdg : decode cc pc = .ok (.invokestatic index, 3))
    (kk : ∀ (H1 : Heap) (locs1 : List Loc), va_P D cl (ws.set q1 (a, .inl (c1, n1, .inl (va_cpy f g k1 k2 k3)))) H1 → va_D A (ws.set q1 (a, .inl (c1, n1, .inl (va_cpy f g k1 k2 k3)))) → va_S A H0 H1 locs1 → W p l e R s m args below meth c H1 locs1 cells slots Q (F0 m (pc + 3) ls rest)) : W p l e R s m args below meth c H locs cells slots Q (F0 m pc ls (.int n :: .int dp :: .ref a :: .int sp :: .ref a0 :: rest)) := by
  subst e1; subst e2; subst e3
  exact va_copyi hexec hb hml hown hlink hnat hstat hini hK hP hD hS q0 q1 t0 t1 ha0 ha1 ht0 ht1 rfl h1 h2 h3 h4 h5 (fun _ _ => rfl) hframes hlocals hdg kk
theorem xy_l (hexec : p.tables.exec = Jvm.exec) (hb : c.code = cc) (hml : c.maxLocals = ls.size) {own : String} {index : Nat} (hown : s.vm.findClass own = some m.cls) (hlink : (Cond.methodLink own index arraycopyName).before args s = true) (hnat : (Cond.native arraycopyName).before args s = true) (hstat : (Cond.static arraycopyName).before args s = true) (hini : (Cond.initialized "java/lang/System").before args s = true)
    (hK : va_K D cl tys s) (hP : va_P D cl ws H) (hD : va_D A ws) (hS : va_S A H0 H locs) (q0 q1 t0 t1 : Nat) {a0 : Nat} {c0 c1 : ClassId} {n0 n1 : Nat} {f g : Nat → Int64} (ha0 : ws[q0]? = some (a0, .inl (c0, n0, .inr (.inl f)))) (ha1 : ws[q1]? = some (a, .inl (c1, n1, .inr (.inl g)))) (ht0 : tys[t0]? = some (c0, .long)) (ht1 : tys[t1]? = some (c1, .long))
    {sp dp n : Int32} {k1 k2 k3 : Nat} (h1 : ¬ sp < 0) (h2 : ¬ dp < 0) (h3 : ¬ n < 0) (e1 : sp.toNatClampNeg = k1) (e2 : dp.toNatClampNeg = k2) (e3 : n.toNatClampNeg = k3) (h4 : k1 + k3 ≤ n0) (h5 : k2 + k3 ≤ n1)
    (hframes : 1 ≤ R.frames) (hlocals : (rest.map fun v => v.category).sum + (nativeFrameWords "java/lang/System" "arraycopy" 5 + 11) ≤ R.locals) (hdg : decode cc pc = .ok (.invokestatic index, 3))
    (kk : ∀ (H1 : Heap) (locs1 : List Loc), va_P D cl (ws.set q1 (a, .inl (c1, n1, .inr (.inl (va_cpy f g k1 k2 k3))))) H1 → va_D A (ws.set q1 (a, .inl (c1, n1, .inr (.inl (va_cpy f g k1 k2 k3))))) → va_S A H0 H1 locs1 → W p l e R s m args below meth c H1 locs1 cells slots Q (F0 m (pc + 3) ls rest)) : W p l e R s m args below meth c H locs cells slots Q (F0 m pc ls (.int n :: .int dp :: .ref a :: .int sp :: .ref a0 :: rest)) := by
  subst e1; subst e2; subst e3
  exact va_copyl hexec hb hml hown hlink hnat hstat hini hK hP hD hS q0 q1 t0 t1 ha0 ha1 ht0 ht1 rfl h1 h2 h3 h4 h5 (fun _ _ => rfl) hframes hlocals hdg kk
end LDS
theorem in_lt {i : Int32} {n : Nat} (h : in_b i n = true) : i.toNatClampNeg < n := by
  unfold in_b at h
  simp only [Bool.and_eq_true] at h
  exact Nat.le_of_ble_eq_true h.2
def cp_b (d : Int32) (k n : Nat) : Bool := !(decide (d < 0)) && Nat.ble (d.toNatClampNeg + k) n
theorem cp_1 {d : Int32} {k n : Nat} (h : cp_b d k n = true) : ¬ d < 0 := by
  unfold cp_b at h
  simp only [Bool.and_eq_true, Bool.not_eq_true', decide_eq_false_iff_not] at h
  exact h.1
theorem cp_2 {d : Int32} {k n : Nat} (h : cp_b d k n = true) : d.toNatClampNeg + k ≤ n := by
  unfold cp_b at h
  simp only [Bool.and_eq_true] at h
  exact Nat.le_of_ble_eq_true h.2
section CPT
variable {p : Program} {l : Launch} {e : Env} {R : Room} {s : State} {m : MethodId} {args : Array Value} {below : List Frame} {meth : Method} {c : Code} {H : Heap} {locs : List Loc} {cells slots : Nat} {Q : State → Prop}
variable {cc : ByteArray} {pc : Nat} {ls : Array Slot} {rest : List Value} {D : va_G} {cl : List vw_C} {tys : List (ClassId × FieldType)} {ws : va_W} {a : Nat} {A : Nat → Prop}
/-- a static row of ints copied into a row of the world (after the kit's vk_copyt) -/
theorem xy_t (hexec : p.tables.exec = Jvm.exec) (hb : c.code = cc) (hml : c.maxLocals = ls.size) {own : String} {index : Nat} (hown : s.vm.findClass own = some m.cls) (hlink : (Cond.methodLink own index arraycopyName).before args s = true) (hnat : (Cond.native arraycopyName).before args s = true) (hstat : (Cond.static arraycopyName).before args s = true) (hini : (Cond.initialized "java/lang/System").before args s = true)
    (hK : va_K D cl tys s) (hP : va_P D cl ws H) (hD : va_D A ws) (hS : va_S A s.heap H locs) {b0 n0 : Nat} {t : List Int32} (hX : va_T .int b0 n0 (tv_ t) A s s.heap) (q1 t1 : Nat) {c1 : ClassId} {n1 : Nat} {g : Nat → Int32} (ha1 : ws[q1]? = some (a, .inl (c1, n1, .inl g))) (ht1 : tys[t1]? = some (c1, .int))
    {sp dp n : Int32} {k1 k2 k3 : Nat} (h1 : ¬ sp < 0) (h2 : ¬ dp < 0) (h3 : ¬ n < 0) (e1 : sp.toNatClampNeg = k1) (e2 : dp.toNatClampNeg = k2) (e3 : n.toNatClampNeg = k3) (h4 : k1 + k3 ≤ n0) (h5 : k2 + k3 ≤ n1)
    (hframes : 1 ≤ R.frames) (hlocals : (rest.map fun v => v.category).sum + (nativeFrameWords "java/lang/System" "arraycopy" 5 + 11) ≤ R.locals) (hdg : decode cc pc = .ok (.invokestatic index, 3))
    (kk : ∀ (H1 : Heap) (locs1 : List Loc), va_P D cl (ws.set q1 (a, .inl (c1, n1, .inl (va_cpy (fun j => t.getD j 0) g k1 k2 k3)))) H1 → va_D A (ws.set q1 (a, .inl (c1, n1, .inl (va_cpy (fun j => t.getD j 0) g k1 k2 k3)))) → va_S A s.heap H1 locs1 → W p l e R s m args below meth c H1 locs1 cells slots Q (F0 m (pc + 3) ls rest)) : W p l e R s m args below meth c H locs cells slots Q (F0 m pc ls (.int n :: .int dp :: .ref a :: .int sp :: .ref b0 :: rest)) := by
  subst e1; subst e2; subst e3
  have nn : ∀ z : Int32, ¬ z < 0 → z.toInt = (z.toNatClampNeg : Int) := by
    intro z hz
    have hz0 : (0 : Int) ≤ z.toInt := by
      have := Int32.not_lt.mp hz
      simpa using Int32.le_iff_toInt_le.mp this
    show z.toInt = ((z.toInt.toNat : Nat) : Int)
    omega
  intro T hT X
  obtain ⟨scr, hs1, hs2, hs3, hs4, -, hs5, hs7⟩ := hX
  have hs5 : ∀ j : Nat, j < n0 → scr.slots[j]? = some (.int ((fun j => t.getD j 0) j)) := hs5
  have hc0 : H[b0]? = some scr := by rw [hS.2.1 b0 (Array.getElem?_eq_some_iff.mp hs1).1 hs7]; exact hs1
  have hc1 : H[a]? = some (vp_cell c1 (n1, .inl g)) := hP q1 _ ha1
  obtain ⟨hs6, k0, hk0, cm0, hkk0⟩ := hs2
  obtain ⟨-, k1, hk1, cm1, hkk1⟩ := (hK.2 t1 _ ht1).1 n1 (fun j => .int (g j))
  obtain ⟨vm', X', step⟩ := X.arraycopy hexec hown hlink hnat hstat hini (src := b0) (dst := a) (cs := scr) (cd := vp_cell c1 (n1, .inl g)) (srcPos := sp) (destPos := dp) (n := n) (by rw [hT]; exact hc0) (by rw [hT]; exact hc1)
    hs6 (fun _ h => by cases h) hs3 (fun h => by cases h) hk0 hk1 hkk0 hkk1 (by simp [refKind]) h1 h2 h3
    (by rw [nn sp h1, nn n h3]; omega)
    (by rw [nn dp h2, nn n h3]; show ¬ _ > ((arrV c1 n1 (fun j => .int (g j))).slots.size : Int); rw [arrV_size]; omega)
    (fun vm₁ _ i hi => by
      have e : scr.slots.getD (sp.toNatClampNeg + i) .null = .int ((fun j => t.getD j 0) (sp.toNatClampNeg + i)) := by
        rw [Array.getD_eq_getD_getElem?, hs5 _ (by omega)]
        rfl
      refine ⟨?_, ?_⟩
      · rw [e]
        rfl
      · rw [e]
        exact trivial)
    (g := F0 m pc ls (.int n :: .int dp :: .ref a :: .int sp :: .ref b0 :: rest)) rfl (by rw [hml]) (rest := rest) rfl (by rw [hb]; exact hdg) hframes (by show 2 * 0 + _ + _ ≤ _; omega)
  have e1 : copied scr (vp_cell c1 (n1, .inl g)) sp dp n = vp_cell c1 (n1, .inl (va_cpy (fun j => t.getD j 0) g sp.toNatClampNeg dp.toNatClampNeg n.toNatClampNeg)) := va_copiedX (fun z => .int z) scr c1 (fun j => t.getD j 0) g hs5 h4
  rw [e1] at X' step
  have hl : a < H.size := (Array.getElem?_eq_some_iff.mp hc1).1
  have hheap : ((T.setVm vm').setCell a (vp_cell c1 (n1, .inl (va_cpy (fun j => t.getD j 0) g sp.toNatClampNeg dp.toNatClampNeg n.toNatClampNeg)))).heap = H.setIfInBounds a (vp_cell c1 (n1, .inl (va_cpy (fun j => t.getD j 0) g sp.toNatClampNeg dp.toNatClampNeg n.toNatClampNeg))) := by rw [← hT]; rfl
  have oq : ∀ q : Nat, q ≠ a → (H.setIfInBounds a (vp_cell c1 (n1, .inl (va_cpy (fun j => t.getD j 0) g sp.toNatClampNeg dp.toNatClampNeg n.toNatClampNeg))))[q]? = H[q]? := fun q hq => by simp [Array.getElem?_setIfInBounds, Ne.symm hq]
  obtain ⟨t, a1, b1⟩ := kk _ _ (hP.set hD ha1 (show (H.setIfInBounds a _)[a]? = some _ by simp [Array.getElem?_setIfInBounds, hl]) oq) (hD.set ha1) ⟨by simp; exact hS.1, fun q g1 g2 => by
      rw [oq q (fun e => g2 (by rw [e]; exact hD.2 q1 _ ha1))]
      exact hS.2.1 q g1 g2, fun q hq => by
      rcases List.mem_append.mp hq with h | h
      · exact hS.2.2 q h
      · obtain ⟨z, -, hz⟩ := List.mem_map.mp h
        rw [← hz]
        exact hD.2 q1 _ ha1⟩ _ hheap X'
  exact ⟨t, step t a1, b1⟩
end CPT
/-- what an object of StaggerRadar$Radar holds -/
abbrev RT_X5 : Type := Int32 × Int32 × Int32 × Int32 × Int32 × (Nat → Int32) × (Nat → Int32) × (Nat → Int32) × (Nat → Int32) × (Nat → Int32) × (Nat → Int32) × (Nat → Int32) × (Nat → Int32)
abbrev rc_X5 (K : Nat → ClassId) (g : Nat → Nat) (r : RT_X5) : va_W := [(g 0, .inr (5, [.ref (g 1), .ref (g 2), .ref (g 3), .ref (g 4), .ref (g 5), .ref (g 6), .ref (g 7), .ref (g 8), .int r.1, .int r.2.1, .int r.2.2.1, .int r.2.2.2.1, .int r.2.2.2.2.1])), (g 1, .inl (K 0, 5, .inl r.2.2.2.2.2.1)), (g 2, .inl (K 0, 7, .inl r.2.2.2.2.2.2.1)), (g 3, .inl (K 0, 8, .inl r.2.2.2.2.2.2.2.1)), (g 4, .inl (K 0, 8, .inl r.2.2.2.2.2.2.2.2.1)), (g 5, .inl (K 0, 8, .inl r.2.2.2.2.2.2.2.2.2.1)), (g 6, .inl (K 0, 4, .inl r.2.2.2.2.2.2.2.2.2.2.1)), (g 7, .inl (K 0, 4, .inl r.2.2.2.2.2.2.2.2.2.2.2.1)), (g 8, .inl (K 0, 48, .inl r.2.2.2.2.2.2.2.2.2.2.2.2))]
/-- what an object of StaggerRadar$Text holds -/
abbrev RT_X8 : Type := Int32 × Int32 × Int32 × (Nat → Int32)
abbrev rc_X8 (K : Nat → ClassId) (g : Nat → Nat) (r : RT_X8) : va_W := [(g 0, .inr (7, [.ref (g 1), .int r.1, .int r.2.1, .int r.2.2.1])), (g 1, .inl (K 0, 400, .inl r.2.2.2))]
/-! ===== END ===== -/
