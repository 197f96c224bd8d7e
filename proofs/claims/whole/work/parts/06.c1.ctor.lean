/-! ===== BEGIN constructors ===== -/
def Mc_ {S : Type} (l : Launch) (y : MethodName) (ws : List Cond) (rm : Room) (D : va_G) (K : Nat → ClassId) (avs : List Value) (wc : va_W) (post : S → Prop) (B : S → va_W) (mc ms : Nat) : Prop :=
  ∀ sz : Nat, Met l y ws rm (va_Pc avs (Bp_ D K wc sz)) (va_Qv post (fun u t => va_P D vwCl (B u) t.heap ∧ va_K D vwCl (ty_ K) t ∧ va_D (va_A wc sz) (B u)) (va_A wc sz)) mc ms (va_A wc sz)
section ENC
variable {l : Launch} {y : MethodName} {ws ws' : List Cond} {rm : Room} {D : va_G} {K : Nat → ClassId} {avs : List Value} {wc : va_W} {cc : ByteArray} {maxL mc ms : Nat}
theorem en_c {S : Type} {post : S → Prop} {B : S → va_W} {own : String} (hy : plainName y.cls = true) (hw : ws = Cond.code y cc maxL none :: ws') (ho : y.cls = own) (hi : y.name = "<init>") (hz : (lg_sl avs).length ≤ maxL)
    (body : ∀ (p : Program) (e : Env) (s : State) (m : MethodId) (args : Array Value) (below : List Frame) (meth : Method) (c : Code) (A : Nat → Prop) (Q : State → Prop) (H : Heap) (locs : List Loc) (ls : Array Slot),
      cx_ p s m args c cc maxL own ws D K A → meth.name = "<init>" → va_P D vwCl wc H → va_D A wc → va_S A s.heap H locs → lv_has ls maxL (lv_args 0 avs) →
      (∀ (u : S) (pc : Nat) (H : Heap) (locs : List Loc) (ls : Array Slot), decode cc pc = .ok (.return_, 1) → post u → va_P D vwCl (B u) H → va_D A (B u) → va_S A s.heap H locs → W p l e rm s m args below meth c H locs mc ms Q (F0 m pc ls [])) →
      W p l e rm s m args below meth c H locs 0 0 Q (F0 m 0 ls [])) : Mc_ l y ws rm D K avs wc post B mc ms := by
  intro sz
  refine Met.ofW (cc := cc) (maxL := maxL) (ret := none) hy hw ?_
  intro p e s m args below meth c s₁ B1 hml hv
  obtain ⟨rfl, hsz, hP, hK, hD0, hT⟩ := hv
  have hx := B1.exec
  have hb := B1.bytes
  have hr := B1.returns
  have hts := atoms_spec (ws := ws) B1.pre
  have hown : s.vm.findClass own = some m.cls := ho ▸ findClass_of_methodNamed B1.named
  have hlocks := B1.notSynchronized
  have hin : meth.name = "<init>" := (name_of_methodNamed B1.named B1.method).1.trans hi
  subst hsz
  have hD := hD0.self (sz := s.heap.size)
  have hA : ∀ q : Nat, s.heap.size ≤ q → va_A wc s.heap.size q := fun q h => Or.inr h
  have hl := lv_entry avs (n := maxL) hz
  rw [lg_entry_eq]
  refine body p e s m avs.toArray below meth c (va_A wc s.heap.size) _ s.heap [] _ ⟨⟨hx, hb, hml, hown, hts⟩, hK, hA, hT⟩ hin hP hD va_S.rf hl ?_
  intro u pc H locs ls hd hpo hP1 hD1 hS1
  exact W.vret hx hb hr (fun t ht hW => ⟨⟨u, rfl, hpo, by rw [ht]; exact hP1, va_K.moved hW.alike hK, hD1⟩, hS1.F ht⟩) hS1.2.2 hd
end ENC
section CTR
variable {p : Program} {l : Launch} {e : Env} {R : Room} {s : State} {m : MethodId} {args : Array Value} {below : List Frame} {meth : Method} {c : Code} {H : Heap} {locs : List Loc} {cells slots : Nat} {Q : State → Prop}
variable {cc : ByteArray} {pc : Nat} {ls : Array Slot} {rest st0 : List Value} {a : Array Value} {D : va_G} {K : Nat → ClassId} {A : Nat → Prop} {ws0 wc w1 wn ws : va_W}
theorem xk_c {S : Type} {post : S → Prop} {B : S → va_W} {mc ms : Nat} (hP : va_P D vwCl ws0 H) (hD : va_D A ws0) (hS : va_S A s.heap H locs) (hA : ∀ q : Nat, s.heap.size ≤ q → A q) (isC isR : List Nat)
    (hC : isC.map (fun i => ws0[i]?) = wc.map some) (hR : isR.all (fun i => Nat.blt i ws0.length) = true) (hn : va_nd isR = true) (hdis : ∀ i ∈ isR, i ∉ isC)
    (hr : va_Run p l e R s m args below meth c H locs cells slots mc ms (F0 m pc ls st0) rest (va_Qv post (fun u t => va_P D vwCl (B u) t.heap ∧ va_K D vwCl (ty_ K) t ∧ va_D (va_A wc H.size) (B u)) (va_A wc H.size) a) (va_A wc H.size))
    (kk : ∀ (u : S) (H : Heap) (locs : List Loc), post u → va_P D vwCl (isR.filterMap (fun i => ws0[i]?) ++ B u) H → va_D A (isR.filterMap (fun i => ws0[i]?) ++ B u) → va_S A s.heap H locs → W p l e R s m args below meth c H locs (cells + mc) (slots + ms) Q (F0 m (pc + 3) ls rest)) : W p l e R s m args below meth c H locs cells slots Q (F0 m pc ls st0) := by
  have hFc := va_free (wc := wc) hD hS hA isC hC
  refine va_callv hr hS (fun q _ h => hFc q h) hFc (fun u t H1 locs1 ht hvm hw hB hz1 hk1 hS1 => ?_)
  obtain ⟨hP1, hK1, hD1⟩ := hB
  rw [ht] at hP1
  obtain ⟨hP2, hD2⟩ := va_join hP hD isC isR hC (fm_in hR) hn hdis hk1 hFc hP1 hD1
  exact kk u H1 locs1 hw hP2 hD2 hS1
/-- a void call in a constructor -/
theorem xk_v (hP : va_P D vwCl ws0 H) (hD : va_D A ws0) (hS : va_S A s.heap H locs) (hA : ∀ q : Nat, s.heap.size ≤ q → A q) (isC isR isN : List Nat)
    (hC : isC.map (fun i => ws0[i]?) = wc.map some) (hR : isR.all (fun i => Nat.blt i ws0.length) = true) (hn : va_nd isR = true) (hdis : ∀ i ∈ isR, i ∉ isC)
    (hN : isN.map (fun i => (isR.filterMap (fun i => ws0[i]?) ++ w1)[i]?) = wn.map some) (hn2 : va_nd isN = true)
    (hr : va_Run p l e R s m args below meth c H locs cells slots 0 0 (F0 m pc ls st0) rest (va_Qv (fun (_ : Unit) => True) (Bq_ D K (va_A wc H.size) w1) (va_A wc H.size) a) (va_A wc H.size))
    (kk : ∀ (H : Heap) (locs : List Loc), va_P D vwCl wn H → va_D A wn → va_S A s.heap H locs → W p l e R s m args below meth c H locs cells slots Q (F0 m (pc + 3) ls rest)) : W p l e R s m args below meth c H locs cells slots Q (F0 m pc ls st0) := by
  have hFc := va_free (wc := wc) hD hS hA isC hC
  refine va_callv hr hS (fun q _ h => hFc q h) hFc (fun u t H1 locs1 ht hvm hw hB hz1 hk1 hS1 => ?_)
  obtain ⟨hP1, hK1, hD1⟩ := hB
  rw [ht] at hP1
  obtain ⟨hP2, hD2⟩ := va_join hP hD isC isR hC (fm_in hR) hn hdis hk1 hFc hP1 hD1
  exact kk H1 locs1 (hP2.sub isN (fm_map hN)) (hD2.sub isN hn2 hN) hS1
/-- a new row of numbers, its class as the tables have it -/
theorem xn_a {tys : List (ClassId × FieldType)} (hexec : p.tables.exec = Jvm.exec) (hb : c.code = cc) {atype : ArrayType} (harr : (Cond.arrayClass (newarray.typeOf atype)).before args s = true) {ty : FieldType} (hty : newarray.typeOf atype = ty) (hpr : ∀ C, ty ≠ .object C) (hK : va_K D vwCl tys s) (hP : va_P D vwCl ws H) (hD : va_D A ws) (hS : va_S A s.heap H locs) (hA : ∀ q : Nat, s.heap.size ≤ q → A q)
    (t0 : Nat) {cK : ClassId} (ht : tys[t0]? = some (cK, ty)) {n : Int32} {N' : Nat} {a0 : vp_A} (ha : ∀ cA : ClassId, vp_cell cA a0 = arrV cA N' (fun _ => defaultValue ty)) (hn : ¬ n < 0) (hN : n.toNatClampNeg = N') (hbytes : N' * componentBytes ty ≤ 536870912) (hcells : cells + 1 ≤ R.cells) (hslots : slots + N' ≤ R.slots) (hdg : decode cc pc = .ok (.newarray atype, 2))
    (kk : ∀ (q : Nat) (H : Heap), va_P D vwCl (ws ++ [(q, .inl (cK, a0))]) H → va_D A (ws ++ [(q, .inl (cK, a0))]) → va_S A s.heap H locs →
      W p l e R s m args below meth c H locs (cells + 1) (slots + N') Q (F0 m (pc + 2) ls (.ref q :: rest))) : W p l e R s m args below meth c H locs cells slots Q (F0 m pc ls (.int n :: rest)) := by
  refine va_newa hexec hb harr hty hK hP hD hS hA ha hn hN hbytes hcells hslots hdg (fun q cA H1 hK1 hP1 hD1 hS1 => ?_)
  have h1 := (hK.2 t0 _ ht).2
  have h2 := (hK1.2 tys.length (cA, ty) (by simp)).2
  have e1 : cA = cK := by
    cases ty with
    | object C => exact absurd rfl (hpr C)
    | _ => exact Option.some.inj (h2.symm.trans h1)
  subst e1
  exact kk q H1 hP1 hD1 hS1
/-- a new row of references -/
theorem xn_q {tys : List (ClassId × FieldType)} (hexec : p.tables.exec = Jvm.exec) (hb : c.code = cc) {own C : String} {index : Nat} (hown : s.vm.findClass own = some m.cls) (hclink : (Cond.classLink own index C).before args s = true) (hover : va_AO C s) (hK : va_K D vwCl tys s) (hP : va_P D vwCl ws H) (hD : va_D A ws) (hS : va_S A s.heap H locs) (hA : ∀ q : Nat, s.heap.size ≤ q → A q)
    (t0 : Nat) {cK : ClassId} (ht : tys[t0]? = some (cK, .object C)) {n : Int32} {N' : Nat} (hn : ¬ n < 0) (hN : n.toNatClampNeg = N') (hbytes : N' * 4 ≤ 536870912) (hcells : cells + 1 ≤ R.cells) (hslots : slots + N' ≤ R.slots) (hdg : decode cc pc = .ok (.anewarray index, 3))
    (kk : ∀ (q : Nat) (H : Heap), va_P D vwCl (ws ++ [(q, .inl (cK, N', .inr (.inr (.inr (.inr (fun _ => none))))))]) H → va_D A (ws ++ [(q, .inl (cK, N', .inr (.inr (.inr (.inr (fun _ => none))))))]) → va_S A s.heap H locs →
      W p l e R s m args below meth c H locs (cells + 1) (slots + N') Q (F0 m (pc + 3) ls (.ref q :: rest))) : W p l e R s m args below meth c H locs cells slots Q (F0 m pc ls (.int n :: rest)) := by
  refine va_newq hexec hb hown hclink hover hK hP hD hS hA hn hN hbytes hcells hslots hdg (fun q cA H1 hK1 hP1 hD1 hS1 => ?_)
  have h1 := (hK.2 t0 _ ht).2
  have h2 := (hK1.2 tys.length (cA, .object C) (by simp)).2
  obtain ⟨-, -, -, -, -, h1⟩ := h1
  obtain ⟨-, -, -, -, -, h2⟩ := h2
  have e1 : cA = cK := Option.some.inj (h2.symm.trans h1)
  subst e1
  exact kk q H1 hP1 hD1 hS1
/-- a row of references told by another function that agrees on its places -/
theorem xq_P {q0 b n : Nat} {cA : ClassId} {f f' : Nat → Option Nat} (hD : va_D A ws) (ha : ws[q0]? = some (b, .inl (cA, n, .inr (.inr (.inr (.inr f)))))) (hf : ∀ i : Nat, i < n → f i = f' i) (hP : va_P D vwCl ws H) :
    va_P D vwCl (ws.set q0 (b, .inl (cA, n, .inr (.inr (.inr (.inr f')))))) H := by
  refine hP.set hD ha ?_ (fun _ _ => rfl)
  have h := hP q0 _ ha
  show H[b]? = some (vp_cell cA (n, .inr (.inr (.inr (.inr f')))))
  have h : H[b]? = some (vp_cell cA (n, .inr (.inr (.inr (.inr f))))) := h
  rw [h]
  congr 1
  show arrV cA n (fun j => va_rf (f j)) = arrV cA n (fun j => va_rf (f' j))
  unfold arrV
  congr 1
  congr 1
  funext j
  show va_rf (f j.1) = va_rf (f' j.1)
  rw [hf j.1 j.2]
end CTR

abbrev RT_X0 : Type := (Nat → Int32)
abbrev rc_X0 (K : Nat → ClassId) (g : Nat → Nat) (r : RT_X0) : va_W := [(g 0, .inr (0, [.ref (g 1)])), (g 1, .inl (K 0, 61, .inl r))]

abbrev RT_X1 : Type := Int32 × Int32 × Int32 × Int32 × Int32 × Int32 × Int32 × Int32 × (Nat → Int64) × (Nat → Int64) × (Nat → Int64) × (Nat → Int32) × (Nat → Int32)
abbrev rc_X1 (K : Nat → ClassId) (g : Nat → Nat) (r : RT_X1) : va_W := [(g 0, .inr (1, [.ref (g 1), .ref (g 2), .ref (g 3), .ref (g 4), .int r.1, .int r.2.1, .int r.2.2.1, .int r.2.2.2.1, .int r.2.2.2.2.1, .int r.2.2.2.2.2.1, .ref (g 11), .int r.2.2.2.2.2.2.1, .int r.2.2.2.2.2.2.2.1])), (g 1, .inl (K 1, 84, .inr (.inl r.2.2.2.2.2.2.2.2.1))), (g 2, .inl (K 1, 80, .inr (.inl r.2.2.2.2.2.2.2.2.2.1))), (g 3, .inl (K 1, 4, .inr (.inl r.2.2.2.2.2.2.2.2.2.2.1))), (g 4, .inl (K 0, 4, .inl r.2.2.2.2.2.2.2.2.2.2.2.1)), (g 11, .inl (K 0, 4, .inl r.2.2.2.2.2.2.2.2.2.2.2.2))]

abbrev RT_X2 : Type := Int32 × Int32 × Int32 × (Nat → Int32) × (Nat → Int32) × (Nat → Int32)
abbrev rc_X2 (K : Nat → ClassId) (g : Nat → Nat) (r : RT_X2) : va_W := [(g 0, .inr (2, [.ref (g 1), .int r.1, .ref (g 3), .int r.2.1, .ref (g 5), .int r.2.2.1])), (g 1, .inl (K 0, 5, .inl r.2.2.2.1)), (g 3, .inl (K 0, 65, .inl r.2.2.2.2.1)), (g 5, .inl (K 0, 5, .inl r.2.2.2.2.2))]

abbrev RT_X3 : Type := Int32 × (Nat → Int32) × (Nat → Int32) × (Nat → Int32) × (Nat → Int32) × (Nat → Int32)
abbrev rc_X3 (K : Nat → ClassId) (g : Nat → Nat) (r : RT_X3) : va_W := [(g 0, .inr (3, [.ref (g 1), .ref (g 2), .ref (g 3), .ref (g 4), .ref (g 5), .int r.1])), (g 1, .inl (K 0, 300, .inl r.2.1)), (g 2, .inl (K 0, 300, .inl r.2.2.1)), (g 3, .inl (K 0, 1000, .inl r.2.2.2.1)), (g 4, .inl (K 0, 40, .inl r.2.2.2.2.1)), (g 5, .inl (K 0, 40, .inl r.2.2.2.2.2))]

abbrev RT_X6 : Type := Int32 × Int32 × Int32 × Int32 × Int32 × Int32 × (Nat → Int32)
abbrev rc_X6 (K : Nat → ClassId) (g : Nat → Nat) (r : RT_X6) : va_W := [(g 0, .inr (6, [.ref (g 1), .int r.1, .int r.2.1, .int r.2.2.1, .int r.2.2.2.1, .int r.2.2.2.2.1, .int r.2.2.2.2.2.1])), (g 1, .inl (K 0, 3, .inl r.2.2.2.2.2.2))]

abbrev RT_X9 : Type := Int32 × (Nat → Int32) × (Nat → Int32)
abbrev rc_X9 (K : Nat → ClassId) (g : Nat → Nat) (r : RT_X9) : va_W := [(g 0, .inr (8, [.ref (g 1), .ref (g 2), .int r.1])), (g 1, .inl (K 0, 48, .inl r.2.1)), (g 2, .inl (K 0, 4, .inl r.2.2))]

abbrev RT_X11 : Type := Int32 × Int32 × Int32 × Int32 × Int32 × Int32 × Int32 × Int64 × Int32 × Int32 × Int32 × Int32 × Int32 × Int32 × (Nat → Int32) × (Nat → Int32) × (Nat → Int32) × (Nat → Int32) × (Nat → Int32) × (Nat → Int32) × (Nat → Int32) × (Nat → Int32) × (Nat → Int32) × (Nat → Int32) × (Nat → Int32) × (Nat → Int32) × (Nat → Int32) × (Nat → Int32) × (Nat → Int32) × (Nat → Int32)
abbrev rc_X11 (K : Nat → ClassId) (g : Nat → Nat) (r : RT_X11) : va_W := [(g 0, .inr (10, [.int r.1, .ref (g 2), .ref (g 3), .ref (g 4), .ref (g 5), .int r.2.1, .int r.2.2.1, .int r.2.2.2.1, .int r.2.2.2.2.1, .int r.2.2.2.2.2.1, .int r.2.2.2.2.2.2.1, .long r.2.2.2.2.2.2.2.1, .int r.2.2.2.2.2.2.2.2.1, .int r.2.2.2.2.2.2.2.2.2.1, .int r.2.2.2.2.2.2.2.2.2.2.1, .ref (g 16), .int r.2.2.2.2.2.2.2.2.2.2.2.1, .ref (g 18), .ref (g 19), .ref (g 20), .int r.2.2.2.2.2.2.2.2.2.2.2.2.1, .ref (g 22), .ref (g 23), .ref (g 24), .ref (g 25), .ref (g 26), .int r.2.2.2.2.2.2.2.2.2.2.2.2.2.1, .ref (g 28), .ref (g 29), .ref (g 30)])), (g 2, .inl (K 0, 500, .inl r.2.2.2.2.2.2.2.2.2.2.2.2.2.2.1)), (g 3, .inl (K 3, 1600, .inl r.2.2.2.2.2.2.2.2.2.2.2.2.2.2.2.1)), (g 4, .inl (K 2, 3, .inl r.2.2.2.2.2.2.2.2.2.2.2.2.2.2.2.2.1)), (g 5, .inl (K 0, 776, .inl r.2.2.2.2.2.2.2.2.2.2.2.2.2.2.2.2.2.1)), (g 16, .inl (K 0, 97, .inl r.2.2.2.2.2.2.2.2.2.2.2.2.2.2.2.2.2.2.1)), (g 18, .inl (K 0, 300, .inl r.2.2.2.2.2.2.2.2.2.2.2.2.2.2.2.2.2.2.2.1)), (g 19, .inl (K 0, 300, .inl r.2.2.2.2.2.2.2.2.2.2.2.2.2.2.2.2.2.2.2.2.1)), (g 20, .inl (K 0, 300, .inl r.2.2.2.2.2.2.2.2.2.2.2.2.2.2.2.2.2.2.2.2.2.1)), (g 22, .inl (K 2, 300, .inl r.2.2.2.2.2.2.2.2.2.2.2.2.2.2.2.2.2.2.2.2.2.2.1)), (g 23, .inl (K 0, 5, .inl r.2.2.2.2.2.2.2.2.2.2.2.2.2.2.2.2.2.2.2.2.2.2.2.1)), (g 24, .inl (K 0, 4, .inl r.2.2.2.2.2.2.2.2.2.2.2.2.2.2.2.2.2.2.2.2.2.2.2.2.1)), (g 25, .inl (K 0, 65, .inl r.2.2.2.2.2.2.2.2.2.2.2.2.2.2.2.2.2.2.2.2.2.2.2.2.2.1)), (g 26, .inl (K 0, 5, .inl r.2.2.2.2.2.2.2.2.2.2.2.2.2.2.2.2.2.2.2.2.2.2.2.2.2.2.1)), (g 28, .inl (K 0, 5, .inl r.2.2.2.2.2.2.2.2.2.2.2.2.2.2.2.2.2.2.2.2.2.2.2.2.2.2.2.1)), (g 29, .inl (K 0, 4, .inl r.2.2.2.2.2.2.2.2.2.2.2.2.2.2.2.2.2.2.2.2.2.2.2.2.2.2.2.2.1)), (g 30, .inl (K 0, 4, .inl r.2.2.2.2.2.2.2.2.2.2.2.2.2.2.2.2.2.2.2.2.2.2.2.2.2.2.2.2.2))]

abbrev r0_X0 : RT_X0 := (fun _ => 0)
abbrev rmX0_init : Room := { frames := 1, cells := 1, slots := 61, locals := 12 }
set_option maxHeartbeats 8000000 in
set_option maxRecDepth 100000 in
theorem c_X0_init (l : Launch) (D : va_G) (K : Nat → ClassId) (h0 : Nat) : Mc_ (S := Nat → Nat) l yX0_init wsX0_init rmX0_init D K [.ref h0] [(h0, .inr (0, [.null]))] (fun u => u 0 = h0) (fun u => rc_X0 K u r0_X0) 1 61 := by
  refine en_c (cc := cX0_init) (maxL := 1) (own := RX0) (by decide) rfl rfl rfl (Nat.le_of_ble_eq_true rfl) ?_
  intro p e s m args below meth c A Q H locs ls C0 hin hP hD hS hl HR
  obtain ⟨⟨hx, hb, hml, hown, hts⟩, hK, hA, hT⟩ := id C0
  obtain ⟨-, ⟨aA, zA, tA⟩, -⟩ := id hT
  have hl : lv_has ls 1 [(0, .ref h0)] := hl
  refine lv_aload_n hx hb dX0_init_0 rfl (lv_at hl 0 rfl) ?_
  refine W.objInit hx hb hown (hts (.methodLink RX0 3 objectInit) (by decide +kernel)) (hts (.instanceMethod objectInit) (by decide +kernel)) (hts (.code objectInit ⟨#[0xb1]⟩ 1 none) (by decide +kernel)) rfl (by rw [hml]; exact hl.1) rfl dX0_init_1 (Nat.le_of_ble_eq_true rfl) (Nat.le_of_ble_eq_true rfl) ?_
  refine W.eq (g2 := F0 m 4 ls []) rfl ?_
  refine lv_aload_n hx hb dX0_init_4 rfl (lv_at hl 0 rfl) ?_
  refine lv_bipush (v := 61) hx hb dX0_init_5 (by decide) ?_
  refine xn_a (atype := .int) (ty := .int) (a0 := (61, .inl (fun _ => 0))) (N' := 61) hx hb (hts (.arrayClass .int) (by decide +kernel)) rfl (fun _ h => by cases h) hK hP hD hS hA 0 rfl (fun _ => rfl) (by decide) (by decide) (Nat.le_of_ble_eq_true rfl) (Nat.le_of_ble_eq_true rfl) (Nat.le_of_ble_eq_true rfl) dX0_init_7 (fun q1 H hP hD hS => ?_)
  refine W.widen (k := 1) (n := 61) (Nat.le_of_ble_eq_true rfl) (Nat.le_of_ble_eq_true rfl) ?_
  have hP : va_P D vwCl [(h0, .inr (0, [.null])), (q1, .inl (K 0, 61, .inl (fun _ => 0)))] H := hP
  have hD : va_D A [(h0, .inr (0, [.null])), (q1, .inl (K 0, 61, .inl (fun _ => 0)))] := hD
  refine va_putF (D := D) (ci := 0) (v := .ref q1) (ty := .array .int) (C := RX0) (T := TX0) (N := 1) hx hb hts (by decide +kernel) tyX0 tyX0_ok nmX0 hown hK hP hD hS 0 rfl rfl 0 (by decide) (hts (.fieldLink RX0 9 "StaggerRadar$Adviser" "weight" "[I") (by decide +kernel)) (fun _ h9 => h9) rfl hin rfl (by decide +kernel) rfl rfl (Nat.le_of_ble_eq_true rfl) dX0_init_9 (fun H locs hP hD hS => ?_)
  have hP : va_P D vwCl [(h0, .inr (0, [.ref q1])), (q1, .inl (K 0, 61, .inl (fun _ => 0)))] H := hP
  have hD : va_D A [(h0, .inr (0, [.ref q1])), (q1, .inl (K 0, 61, .inl (fun _ => 0)))] := hD
  refine HR (fun k => match k with | 0 => h0 | 1 => q1 | _ => 0) 12 H locs ls dX0_init_12 rfl (hP.sub [0, 1] rfl) (hD.sub [0, 1] (by decide) rfl) hS

abbrev r0_X1 : RT_X1 := (0, 0, 0, 0, 0, 0, 0, 0, (fun _ => 0), (fun _ => 0), (fun _ => 0), (fun _ => 0), (fun _ => 0))
abbrev rmX1_init : Room := { frames := 1, cells := 5, slots := 176, locals := 12 }
set_option maxHeartbeats 8000000 in
set_option maxRecDepth 100000 in
theorem c_X1_init (l : Launch) (D : va_G) (K : Nat → ClassId) (h0 : Nat) : Mc_ (S := Nat → Nat) l yX1_init wsX1_init rmX1_init D K [.ref h0] [(h0, .inr (1, [.null, .null, .null, .null, .int 0, .int 0, .int 0, .int 0, .int 0, .int 0, .null, .int 0, .int 0]))] (fun u => u 0 = h0) (fun u => rc_X1 K u r0_X1) 5 176 := by
  refine en_c (cc := cX1_init) (maxL := 1) (own := RX1) (by decide) rfl rfl rfl (Nat.le_of_ble_eq_true rfl) ?_
  intro p e s m args below meth c A Q H locs ls C0 hin hP hD hS hl HR
  obtain ⟨⟨hx, hb, hml, hown, hts⟩, hK, hA, hT⟩ := id C0
  obtain ⟨-, ⟨aA, zA, tA⟩, -⟩ := id hT
  have hl : lv_has ls 1 [(0, .ref h0)] := hl
  refine lv_aload_n hx hb dX1_init_0 rfl (lv_at hl 0 rfl) ?_
  refine W.objInit hx hb hown (hts (.methodLink RX1 3 objectInit) (by decide +kernel)) (hts (.instanceMethod objectInit) (by decide +kernel)) (hts (.code objectInit ⟨#[0xb1]⟩ 1 none) (by decide +kernel)) rfl (by rw [hml]; exact hl.1) rfl dX1_init_1 (Nat.le_of_ble_eq_true rfl) (Nat.le_of_ble_eq_true rfl) ?_
  refine W.eq (g2 := F0 m 4 ls []) rfl ?_
  refine lv_aload_n hx hb dX1_init_4 rfl (lv_at hl 0 rfl) ?_
  refine lv_bipush (v := 84) hx hb dX1_init_5 (by decide) ?_
  refine xn_a (atype := .long) (ty := .long) (a0 := (84, .inr (.inl (fun _ => 0)))) (N' := 84) hx hb (hts (.arrayClass .long) (by decide +kernel)) rfl (fun _ h => by cases h) hK hP hD hS hA 1 rfl (fun _ => rfl) (by decide) (by decide) (Nat.le_of_ble_eq_true rfl) (Nat.le_of_ble_eq_true rfl) (Nat.le_of_ble_eq_true rfl) dX1_init_7 (fun q1 H hP hD hS => ?_)
  refine W.widen (k := 1) (n := 84) (Nat.le_of_ble_eq_true rfl) (Nat.le_of_ble_eq_true rfl) ?_
  have hP : va_P D vwCl [(h0, .inr (1, [.null, .null, .null, .null, .int 0, .int 0, .int 0, .int 0, .int 0, .int 0, .null, .int 0, .int 0])), (q1, .inl (K 1, 84, .inr (.inl (fun _ => 0))))] H := hP
  have hD : va_D A [(h0, .inr (1, [.null, .null, .null, .null, .int 0, .int 0, .int 0, .int 0, .int 0, .int 0, .null, .int 0, .int 0])), (q1, .inl (K 1, 84, .inr (.inl (fun _ => 0))))] := hD
  refine va_putF (D := D) (ci := 1) (v := .ref q1) (ty := .array .long) (C := RX1) (T := TX1) (N := 13) hx hb hts (by decide +kernel) tyX1 tyX1_ok nmX1 hown hK hP hD hS 0 rfl rfl 0 (by decide) (hts (.fieldLink RX1 11 "StaggerRadar$Chooser" "open" "[J") (by decide +kernel)) (fun _ h9 => h9) rfl hin rfl (by decide +kernel) rfl rfl (Nat.le_of_ble_eq_true rfl) dX1_init_9 (fun H locs hP hD hS => ?_)
  have hP : va_P D vwCl [(h0, .inr (1, [.ref q1, .null, .null, .null, .int 0, .int 0, .int 0, .int 0, .int 0, .int 0, .null, .int 0, .int 0])), (q1, .inl (K 1, 84, .inr (.inl (fun _ => 0))))] H := hP
  have hD : va_D A [(h0, .inr (1, [.ref q1, .null, .null, .null, .int 0, .int 0, .int 0, .int 0, .int 0, .int 0, .null, .int 0, .int 0])), (q1, .inl (K 1, 84, .inr (.inl (fun _ => 0))))] := hD
  refine lv_aload_n hx hb dX1_init_12 rfl (lv_at hl 0 rfl) ?_
  refine lv_bipush (v := 80) hx hb dX1_init_13 (by decide) ?_
  refine xn_a (atype := .long) (ty := .long) (a0 := (80, .inr (.inl (fun _ => 0)))) (N' := 80) hx hb (hts (.arrayClass .long) (by decide +kernel)) rfl (fun _ h => by cases h) hK hP hD hS hA 1 rfl (fun _ => rfl) (by decide) (by decide) (Nat.le_of_ble_eq_true rfl) (Nat.le_of_ble_eq_true rfl) (Nat.le_of_ble_eq_true rfl) dX1_init_15 (fun q2 H hP hD hS => ?_)
  refine W.widen (k := 2) (n := 164) (Nat.le_of_ble_eq_true rfl) (Nat.le_of_ble_eq_true rfl) ?_
  have hP : va_P D vwCl [(h0, .inr (1, [.ref q1, .null, .null, .null, .int 0, .int 0, .int 0, .int 0, .int 0, .int 0, .null, .int 0, .int 0])), (q1, .inl (K 1, 84, .inr (.inl (fun _ => 0)))), (q2, .inl (K 1, 80, .inr (.inl (fun _ => 0))))] H := hP
  have hD : va_D A [(h0, .inr (1, [.ref q1, .null, .null, .null, .int 0, .int 0, .int 0, .int 0, .int 0, .int 0, .null, .int 0, .int 0])), (q1, .inl (K 1, 84, .inr (.inl (fun _ => 0)))), (q2, .inl (K 1, 80, .inr (.inl (fun _ => 0))))] := hD
  refine va_putF (D := D) (ci := 1) (v := .ref q2) (ty := .array .long) (C := RX1) (T := TX1) (N := 13) hx hb hts (by decide +kernel) tyX1 tyX1_ok nmX1 hown hK hP hD hS 0 rfl rfl 1 (by decide) (hts (.fieldLink RX1 15 "StaggerRadar$Chooser" "enough" "[J") (by decide +kernel)) (fun _ h9 => h9) rfl hin rfl (by decide +kernel) rfl rfl (Nat.le_of_ble_eq_true rfl) dX1_init_17 (fun H locs hP hD hS => ?_)
  have hP : va_P D vwCl [(h0, .inr (1, [.ref q1, .ref q2, .null, .null, .int 0, .int 0, .int 0, .int 0, .int 0, .int 0, .null, .int 0, .int 0])), (q1, .inl (K 1, 84, .inr (.inl (fun _ => 0)))), (q2, .inl (K 1, 80, .inr (.inl (fun _ => 0))))] H := hP
  have hD : va_D A [(h0, .inr (1, [.ref q1, .ref q2, .null, .null, .int 0, .int 0, .int 0, .int 0, .int 0, .int 0, .null, .int 0, .int 0])), (q1, .inl (K 1, 84, .inr (.inl (fun _ => 0)))), (q2, .inl (K 1, 80, .inr (.inl (fun _ => 0))))] := hD
  refine lv_aload_n hx hb dX1_init_20 rfl (lv_at hl 0 rfl) ?_
  refine lv_iconst (v := 4) hx hb dX1_init_21 (by decide) ?_
  refine xn_a (atype := .long) (ty := .long) (a0 := (4, .inr (.inl (fun _ => 0)))) (N' := 4) hx hb (hts (.arrayClass .long) (by decide +kernel)) rfl (fun _ h => by cases h) hK hP hD hS hA 1 rfl (fun _ => rfl) (by decide) (by decide) (Nat.le_of_ble_eq_true rfl) (Nat.le_of_ble_eq_true rfl) (Nat.le_of_ble_eq_true rfl) dX1_init_22 (fun q3 H hP hD hS => ?_)
  refine W.widen (k := 3) (n := 168) (Nat.le_of_ble_eq_true rfl) (Nat.le_of_ble_eq_true rfl) ?_
  have hP : va_P D vwCl [(h0, .inr (1, [.ref q1, .ref q2, .null, .null, .int 0, .int 0, .int 0, .int 0, .int 0, .int 0, .null, .int 0, .int 0])), (q1, .inl (K 1, 84, .inr (.inl (fun _ => 0)))), (q2, .inl (K 1, 80, .inr (.inl (fun _ => 0)))), (q3, .inl (K 1, 4, .inr (.inl (fun _ => 0))))] H := hP
  have hD : va_D A [(h0, .inr (1, [.ref q1, .ref q2, .null, .null, .int 0, .int 0, .int 0, .int 0, .int 0, .int 0, .null, .int 0, .int 0])), (q1, .inl (K 1, 84, .inr (.inl (fun _ => 0)))), (q2, .inl (K 1, 80, .inr (.inl (fun _ => 0)))), (q3, .inl (K 1, 4, .inr (.inl (fun _ => 0))))] := hD
  refine va_putF (D := D) (ci := 1) (v := .ref q3) (ty := .array .long) (C := RX1) (T := TX1) (N := 13) hx hb hts (by decide +kernel) tyX1 tyX1_ok nmX1 hown hK hP hD hS 0 rfl rfl 2 (by decide) (hts (.fieldLink RX1 18 "StaggerRadar$Chooser" "all" "[J") (by decide +kernel)) (fun _ h9 => h9) rfl hin rfl (by decide +kernel) rfl rfl (Nat.le_of_ble_eq_true rfl) dX1_init_24 (fun H locs hP hD hS => ?_)
  have hP : va_P D vwCl [(h0, .inr (1, [.ref q1, .ref q2, .ref q3, .null, .int 0, .int 0, .int 0, .int 0, .int 0, .int 0, .null, .int 0, .int 0])), (q1, .inl (K 1, 84, .inr (.inl (fun _ => 0)))), (q2, .inl (K 1, 80, .inr (.inl (fun _ => 0)))), (q3, .inl (K 1, 4, .inr (.inl (fun _ => 0))))] H := hP
  have hD : va_D A [(h0, .inr (1, [.ref q1, .ref q2, .ref q3, .null, .int 0, .int 0, .int 0, .int 0, .int 0, .int 0, .null, .int 0, .int 0])), (q1, .inl (K 1, 84, .inr (.inl (fun _ => 0)))), (q2, .inl (K 1, 80, .inr (.inl (fun _ => 0)))), (q3, .inl (K 1, 4, .inr (.inl (fun _ => 0))))] := hD
  refine lv_aload_n hx hb dX1_init_27 rfl (lv_at hl 0 rfl) ?_
  refine lv_iconst (v := 4) hx hb dX1_init_28 (by decide) ?_
  refine xn_a (atype := .int) (ty := .int) (a0 := (4, .inl (fun _ => 0))) (N' := 4) hx hb (hts (.arrayClass .int) (by decide +kernel)) rfl (fun _ h => by cases h) hK hP hD hS hA 0 rfl (fun _ => rfl) (by decide) (by decide) (Nat.le_of_ble_eq_true rfl) (Nat.le_of_ble_eq_true rfl) (Nat.le_of_ble_eq_true rfl) dX1_init_29 (fun q4 H hP hD hS => ?_)
  refine W.widen (k := 4) (n := 172) (Nat.le_of_ble_eq_true rfl) (Nat.le_of_ble_eq_true rfl) ?_
  have hP : va_P D vwCl [(h0, .inr (1, [.ref q1, .ref q2, .ref q3, .null, .int 0, .int 0, .int 0, .int 0, .int 0, .int 0, .null, .int 0, .int 0])), (q1, .inl (K 1, 84, .inr (.inl (fun _ => 0)))), (q2, .inl (K 1, 80, .inr (.inl (fun _ => 0)))), (q3, .inl (K 1, 4, .inr (.inl (fun _ => 0)))), (q4, .inl (K 0, 4, .inl (fun _ => 0)))] H := hP
  have hD : va_D A [(h0, .inr (1, [.ref q1, .ref q2, .ref q3, .null, .int 0, .int 0, .int 0, .int 0, .int 0, .int 0, .null, .int 0, .int 0])), (q1, .inl (K 1, 84, .inr (.inl (fun _ => 0)))), (q2, .inl (K 1, 80, .inr (.inl (fun _ => 0)))), (q3, .inl (K 1, 4, .inr (.inl (fun _ => 0)))), (q4, .inl (K 0, 4, .inl (fun _ => 0)))] := hD
  refine va_putF (D := D) (ci := 1) (v := .ref q4) (ty := .array .int) (C := RX1) (T := TX1) (N := 13) hx hb hts (by decide +kernel) tyX1 tyX1_ok nmX1 hown hK hP hD hS 0 rfl rfl 3 (by decide) (hts (.fieldLink RX1 21 "StaggerRadar$Chooser" "chosen" "[I") (by decide +kernel)) (fun _ h9 => h9) rfl hin rfl (by decide +kernel) rfl rfl (Nat.le_of_ble_eq_true rfl) dX1_init_31 (fun H locs hP hD hS => ?_)
  have hP : va_P D vwCl [(h0, .inr (1, [.ref q1, .ref q2, .ref q3, .ref q4, .int 0, .int 0, .int 0, .int 0, .int 0, .int 0, .null, .int 0, .int 0])), (q1, .inl (K 1, 84, .inr (.inl (fun _ => 0)))), (q2, .inl (K 1, 80, .inr (.inl (fun _ => 0)))), (q3, .inl (K 1, 4, .inr (.inl (fun _ => 0)))), (q4, .inl (K 0, 4, .inl (fun _ => 0)))] H := hP
  have hD : va_D A [(h0, .inr (1, [.ref q1, .ref q2, .ref q3, .ref q4, .int 0, .int 0, .int 0, .int 0, .int 0, .int 0, .null, .int 0, .int 0])), (q1, .inl (K 1, 84, .inr (.inl (fun _ => 0)))), (q2, .inl (K 1, 80, .inr (.inl (fun _ => 0)))), (q3, .inl (K 1, 4, .inr (.inl (fun _ => 0)))), (q4, .inl (K 0, 4, .inl (fun _ => 0)))] := hD
  refine lv_aload_n hx hb dX1_init_34 rfl (lv_at hl 0 rfl) ?_
  refine lv_iconst (v := 4) hx hb dX1_init_35 (by decide) ?_
  refine xn_a (atype := .int) (ty := .int) (a0 := (4, .inl (fun _ => 0))) (N' := 4) hx hb (hts (.arrayClass .int) (by decide +kernel)) rfl (fun _ h => by cases h) hK hP hD hS hA 0 rfl (fun _ => rfl) (by decide) (by decide) (Nat.le_of_ble_eq_true rfl) (Nat.le_of_ble_eq_true rfl) (Nat.le_of_ble_eq_true rfl) dX1_init_36 (fun q5 H hP hD hS => ?_)
  refine W.widen (k := 5) (n := 176) (Nat.le_of_ble_eq_true rfl) (Nat.le_of_ble_eq_true rfl) ?_
  have hP : va_P D vwCl [(h0, .inr (1, [.ref q1, .ref q2, .ref q3, .ref q4, .int 0, .int 0, .int 0, .int 0, .int 0, .int 0, .null, .int 0, .int 0])), (q1, .inl (K 1, 84, .inr (.inl (fun _ => 0)))), (q2, .inl (K 1, 80, .inr (.inl (fun _ => 0)))), (q3, .inl (K 1, 4, .inr (.inl (fun _ => 0)))), (q4, .inl (K 0, 4, .inl (fun _ => 0))), (q5, .inl (K 0, 4, .inl (fun _ => 0)))] H := hP
  have hD : va_D A [(h0, .inr (1, [.ref q1, .ref q2, .ref q3, .ref q4, .int 0, .int 0, .int 0, .int 0, .int 0, .int 0, .null, .int 0, .int 0])), (q1, .inl (K 1, 84, .inr (.inl (fun _ => 0)))), (q2, .inl (K 1, 80, .inr (.inl (fun _ => 0)))), (q3, .inl (K 1, 4, .inr (.inl (fun _ => 0)))), (q4, .inl (K 0, 4, .inl (fun _ => 0))), (q5, .inl (K 0, 4, .inl (fun _ => 0)))] := hD
  refine va_putF (D := D) (ci := 1) (v := .ref q5) (ty := .array .int) (C := RX1) (T := TX1) (N := 13) hx hb hts (by decide +kernel) tyX1 tyX1_ok nmX1 hown hK hP hD hS 0 rfl rfl 10 (by decide) (hts (.fieldLink RX1 25 "StaggerRadar$Chooser" "best" "[I") (by decide +kernel)) (fun _ h9 => h9) rfl hin rfl (by decide +kernel) rfl rfl (Nat.le_of_ble_eq_true rfl) dX1_init_38 (fun H locs hP hD hS => ?_)
  have hP : va_P D vwCl [(h0, .inr (1, [.ref q1, .ref q2, .ref q3, .ref q4, .int 0, .int 0, .int 0, .int 0, .int 0, .int 0, .ref q5, .int 0, .int 0])), (q1, .inl (K 1, 84, .inr (.inl (fun _ => 0)))), (q2, .inl (K 1, 80, .inr (.inl (fun _ => 0)))), (q3, .inl (K 1, 4, .inr (.inl (fun _ => 0)))), (q4, .inl (K 0, 4, .inl (fun _ => 0))), (q5, .inl (K 0, 4, .inl (fun _ => 0)))] H := hP
  have hD : va_D A [(h0, .inr (1, [.ref q1, .ref q2, .ref q3, .ref q4, .int 0, .int 0, .int 0, .int 0, .int 0, .int 0, .ref q5, .int 0, .int 0])), (q1, .inl (K 1, 84, .inr (.inl (fun _ => 0)))), (q2, .inl (K 1, 80, .inr (.inl (fun _ => 0)))), (q3, .inl (K 1, 4, .inr (.inl (fun _ => 0)))), (q4, .inl (K 0, 4, .inl (fun _ => 0))), (q5, .inl (K 0, 4, .inl (fun _ => 0)))] := hD
  refine HR (fun k => match k with | 0 => h0 | 1 => q1 | 2 => q2 | 3 => q3 | 4 => q4 | 11 => q5 | _ => 0) 41 H locs ls dX1_init_41 rfl (hP.sub [0, 1, 2, 3, 4, 5] rfl) (hD.sub [0, 1, 2, 3, 4, 5] (by decide) rfl) hS

abbrev r0_X2 : RT_X2 := (0, 0, 0, (fun _ => 0), (fun _ => 0), (fun _ => 0))
abbrev rmX2_init : Room := { frames := 1, cells := 3, slots := 75, locals := 12 }
set_option maxHeartbeats 8000000 in
set_option maxRecDepth 100000 in
theorem c_X2_init (l : Launch) (D : va_G) (K : Nat → ClassId) (h0 : Nat) : Mc_ (S := Nat → Nat) l yX2_init wsX2_init rmX2_init D K [.ref h0] [(h0, .inr (2, [.null, .int 0, .null, .int 0, .null, .int 0]))] (fun u => u 0 = h0) (fun u => rc_X2 K u r0_X2) 3 75 := by
  refine en_c (cc := cX2_init) (maxL := 1) (own := RX2) (by decide) rfl rfl rfl (Nat.le_of_ble_eq_true rfl) ?_
  intro p e s m args below meth c A Q H locs ls C0 hin hP hD hS hl HR
  obtain ⟨⟨hx, hb, hml, hown, hts⟩, hK, hA, hT⟩ := id C0
  obtain ⟨-, ⟨aA, zA, tA⟩, -⟩ := id hT
  have hl : lv_has ls 1 [(0, .ref h0)] := hl
  refine lv_aload_n hx hb dX2_init_0 rfl (lv_at hl 0 rfl) ?_
  refine W.objInit hx hb hown (hts (.methodLink RX2 3 objectInit) (by decide +kernel)) (hts (.instanceMethod objectInit) (by decide +kernel)) (hts (.code objectInit ⟨#[0xb1]⟩ 1 none) (by decide +kernel)) rfl (by rw [hml]; exact hl.1) rfl dX2_init_1 (Nat.le_of_ble_eq_true rfl) (Nat.le_of_ble_eq_true rfl) ?_
  refine W.eq (g2 := F0 m 4 ls []) rfl ?_
  refine lv_aload_n hx hb dX2_init_4 rfl (lv_at hl 0 rfl) ?_
  refine lv_iconst (v := 5) hx hb dX2_init_5 (by decide) ?_
  refine xn_a (atype := .int) (ty := .int) (a0 := (5, .inl (fun _ => 0))) (N' := 5) hx hb (hts (.arrayClass .int) (by decide +kernel)) rfl (fun _ h => by cases h) hK hP hD hS hA 0 rfl (fun _ => rfl) (by decide) (by decide) (Nat.le_of_ble_eq_true rfl) (Nat.le_of_ble_eq_true rfl) (Nat.le_of_ble_eq_true rfl) dX2_init_6 (fun q1 H hP hD hS => ?_)
  refine W.widen (k := 1) (n := 5) (Nat.le_of_ble_eq_true rfl) (Nat.le_of_ble_eq_true rfl) ?_
  have hP : va_P D vwCl [(h0, .inr (2, [.null, .int 0, .null, .int 0, .null, .int 0])), (q1, .inl (K 0, 5, .inl (fun _ => 0)))] H := hP
  have hD : va_D A [(h0, .inr (2, [.null, .int 0, .null, .int 0, .null, .int 0])), (q1, .inl (K 0, 5, .inl (fun _ => 0)))] := hD
  refine va_putF (D := D) (ci := 2) (v := .ref q1) (ty := .array .int) (C := RX2) (T := TX2) (N := 6) hx hb hts (by decide +kernel) tyX2 tyX2_ok nmX2 hown hK hP hD hS 0 rfl rfl 0 (by decide) (hts (.fieldLink RX2 9 "StaggerRadar$Dwell" "row" "[I") (by decide +kernel)) (fun _ h9 => h9) rfl hin rfl (by decide +kernel) rfl rfl (Nat.le_of_ble_eq_true rfl) dX2_init_8 (fun H locs hP hD hS => ?_)
  have hP : va_P D vwCl [(h0, .inr (2, [.ref q1, .int 0, .null, .int 0, .null, .int 0])), (q1, .inl (K 0, 5, .inl (fun _ => 0)))] H := hP
  have hD : va_D A [(h0, .inr (2, [.ref q1, .int 0, .null, .int 0, .null, .int 0])), (q1, .inl (K 0, 5, .inl (fun _ => 0)))] := hD
  refine lv_aload_n hx hb dX2_init_11 rfl (lv_at hl 0 rfl) ?_
  refine lv_bipush (v := 65) hx hb dX2_init_12 (by decide) ?_
  refine xn_a (atype := .int) (ty := .int) (a0 := (65, .inl (fun _ => 0))) (N' := 65) hx hb (hts (.arrayClass .int) (by decide +kernel)) rfl (fun _ h => by cases h) hK hP hD hS hA 0 rfl (fun _ => rfl) (by decide) (by decide) (Nat.le_of_ble_eq_true rfl) (Nat.le_of_ble_eq_true rfl) (Nat.le_of_ble_eq_true rfl) dX2_init_14 (fun q2 H hP hD hS => ?_)
  refine W.widen (k := 2) (n := 70) (Nat.le_of_ble_eq_true rfl) (Nat.le_of_ble_eq_true rfl) ?_
  have hP : va_P D vwCl [(h0, .inr (2, [.ref q1, .int 0, .null, .int 0, .null, .int 0])), (q1, .inl (K 0, 5, .inl (fun _ => 0))), (q2, .inl (K 0, 65, .inl (fun _ => 0)))] H := hP
  have hD : va_D A [(h0, .inr (2, [.ref q1, .int 0, .null, .int 0, .null, .int 0])), (q1, .inl (K 0, 5, .inl (fun _ => 0))), (q2, .inl (K 0, 65, .inl (fun _ => 0)))] := hD
  refine va_putF (D := D) (ci := 2) (v := .ref q2) (ty := .array .int) (C := RX2) (T := TX2) (N := 6) hx hb hts (by decide +kernel) tyX2 tyX2_ok nmX2 hown hK hP hD hS 0 rfl rfl 2 (by decide) (hts (.fieldLink RX2 15 "StaggerRadar$Dwell" "sent" "[I") (by decide +kernel)) (fun _ h9 => h9) rfl hin rfl (by decide +kernel) rfl rfl (Nat.le_of_ble_eq_true rfl) dX2_init_16 (fun H locs hP hD hS => ?_)
  have hP : va_P D vwCl [(h0, .inr (2, [.ref q1, .int 0, .ref q2, .int 0, .null, .int 0])), (q1, .inl (K 0, 5, .inl (fun _ => 0))), (q2, .inl (K 0, 65, .inl (fun _ => 0)))] H := hP
  have hD : va_D A [(h0, .inr (2, [.ref q1, .int 0, .ref q2, .int 0, .null, .int 0])), (q1, .inl (K 0, 5, .inl (fun _ => 0))), (q2, .inl (K 0, 65, .inl (fun _ => 0)))] := hD
  refine lv_aload_n hx hb dX2_init_19 rfl (lv_at hl 0 rfl) ?_
  refine lv_iconst (v := 5) hx hb dX2_init_20 (by decide) ?_
  refine xn_a (atype := .int) (ty := .int) (a0 := (5, .inl (fun _ => 0))) (N' := 5) hx hb (hts (.arrayClass .int) (by decide +kernel)) rfl (fun _ h => by cases h) hK hP hD hS hA 0 rfl (fun _ => rfl) (by decide) (by decide) (Nat.le_of_ble_eq_true rfl) (Nat.le_of_ble_eq_true rfl) (Nat.le_of_ble_eq_true rfl) dX2_init_21 (fun q3 H hP hD hS => ?_)
  refine W.widen (k := 3) (n := 75) (Nat.le_of_ble_eq_true rfl) (Nat.le_of_ble_eq_true rfl) ?_
  have hP : va_P D vwCl [(h0, .inr (2, [.ref q1, .int 0, .ref q2, .int 0, .null, .int 0])), (q1, .inl (K 0, 5, .inl (fun _ => 0))), (q2, .inl (K 0, 65, .inl (fun _ => 0))), (q3, .inl (K 0, 5, .inl (fun _ => 0)))] H := hP
  have hD : va_D A [(h0, .inr (2, [.ref q1, .int 0, .ref q2, .int 0, .null, .int 0])), (q1, .inl (K 0, 5, .inl (fun _ => 0))), (q2, .inl (K 0, 65, .inl (fun _ => 0))), (q3, .inl (K 0, 5, .inl (fun _ => 0)))] := hD
  refine va_putF (D := D) (ci := 2) (v := .ref q3) (ty := .array .int) (C := RX2) (T := TX2) (N := 6) hx hb hts (by decide +kernel) tyX2 tyX2_ok nmX2 hown hK hP hD hS 0 rfl rfl 4 (by decide) (hts (.fieldLink RX2 18 "StaggerRadar$Dwell" "best" "[I") (by decide +kernel)) (fun _ h9 => h9) rfl hin rfl (by decide +kernel) rfl rfl (Nat.le_of_ble_eq_true rfl) dX2_init_23 (fun H locs hP hD hS => ?_)
  have hP : va_P D vwCl [(h0, .inr (2, [.ref q1, .int 0, .ref q2, .int 0, .ref q3, .int 0])), (q1, .inl (K 0, 5, .inl (fun _ => 0))), (q2, .inl (K 0, 65, .inl (fun _ => 0))), (q3, .inl (K 0, 5, .inl (fun _ => 0)))] H := hP
  have hD : va_D A [(h0, .inr (2, [.ref q1, .int 0, .ref q2, .int 0, .ref q3, .int 0])), (q1, .inl (K 0, 5, .inl (fun _ => 0))), (q2, .inl (K 0, 65, .inl (fun _ => 0))), (q3, .inl (K 0, 5, .inl (fun _ => 0)))] := hD
  refine HR (fun k => match k with | 0 => h0 | 1 => q1 | 3 => q2 | 5 => q3 | _ => 0) 26 H locs ls dX2_init_26 rfl (hP.sub [0, 1, 2, 3] rfl) (hD.sub [0, 1, 2, 3] (by decide) rfl) hS

abbrev r0_X3 : RT_X3 := (0, (fun _ => 0), (fun _ => 0), (fun _ => 0), (fun _ => 0), (fun _ => 0))
abbrev rmX3_init : Room := { frames := 1, cells := 5, slots := 1680, locals := 12 }
set_option maxHeartbeats 8000000 in
set_option maxRecDepth 100000 in
theorem c_X3_init (l : Launch) (D : va_G) (K : Nat → ClassId) (h0 : Nat) : Mc_ (S := Nat → Nat) l yX3_init wsX3_init rmX3_init D K [.ref h0] [(h0, .inr (3, [.null, .null, .null, .null, .null, .int 0]))] (fun u => u 0 = h0) (fun u => rc_X3 K u r0_X3) 5 1680 := by
  refine en_c (cc := cX3_init) (maxL := 1) (own := RX3) (by decide) rfl rfl rfl (Nat.le_of_ble_eq_true rfl) ?_
  intro p e s m args below meth c A Q H locs ls C0 hin hP hD hS hl HR
  obtain ⟨⟨hx, hb, hml, hown, hts⟩, hK, hA, hT⟩ := id C0
  obtain ⟨-, ⟨aA, zA, tA⟩, -⟩ := id hT
  have hl : lv_has ls 1 [(0, .ref h0)] := hl
  refine lv_aload_n hx hb dX3_init_0 rfl (lv_at hl 0 rfl) ?_
  refine W.objInit hx hb hown (hts (.methodLink RX3 3 objectInit) (by decide +kernel)) (hts (.instanceMethod objectInit) (by decide +kernel)) (hts (.code objectInit ⟨#[0xb1]⟩ 1 none) (by decide +kernel)) rfl (by rw [hml]; exact hl.1) rfl dX3_init_1 (Nat.le_of_ble_eq_true rfl) (Nat.le_of_ble_eq_true rfl) ?_
  refine W.eq (g2 := F0 m 4 ls []) rfl ?_
  refine lv_aload_n hx hb dX3_init_4 rfl (lv_at hl 0 rfl) ?_
  refine lv_sipush (v := 300) hx hb dX3_init_5 (by decide) ?_
  refine xn_a (atype := .int) (ty := .int) (a0 := (300, .inl (fun _ => 0))) (N' := 300) hx hb (hts (.arrayClass .int) (by decide +kernel)) rfl (fun _ h => by cases h) hK hP hD hS hA 0 rfl (fun _ => rfl) (by decide) (by decide) (Nat.le_of_ble_eq_true rfl) (Nat.le_of_ble_eq_true rfl) (Nat.le_of_ble_eq_true rfl) dX3_init_8 (fun q1 H hP hD hS => ?_)
  refine W.widen (k := 1) (n := 300) (Nat.le_of_ble_eq_true rfl) (Nat.le_of_ble_eq_true rfl) ?_
  have hP : va_P D vwCl [(h0, .inr (3, [.null, .null, .null, .null, .null, .int 0])), (q1, .inl (K 0, 300, .inl (fun _ => 0)))] H := hP
  have hD : va_D A [(h0, .inr (3, [.null, .null, .null, .null, .null, .int 0])), (q1, .inl (K 0, 300, .inl (fun _ => 0)))] := hD
  refine va_putF (D := D) (ci := 3) (v := .ref q1) (ty := .array .int) (C := RX3) (T := TX3) (N := 6) hx hb hts (by decide +kernel) tyX3 tyX3_ok nmX3 hown hK hP hD hS 0 rfl rfl 0 (by decide) (hts (.fieldLink RX3 11 "StaggerRadar$Echoes" "targets" "[I") (by decide +kernel)) (fun _ h9 => h9) rfl hin rfl (by decide +kernel) rfl rfl (Nat.le_of_ble_eq_true rfl) dX3_init_10 (fun H locs hP hD hS => ?_)
  have hP : va_P D vwCl [(h0, .inr (3, [.ref q1, .null, .null, .null, .null, .int 0])), (q1, .inl (K 0, 300, .inl (fun _ => 0)))] H := hP
  have hD : va_D A [(h0, .inr (3, [.ref q1, .null, .null, .null, .null, .int 0])), (q1, .inl (K 0, 300, .inl (fun _ => 0)))] := hD
  refine lv_aload_n hx hb dX3_init_13 rfl (lv_at hl 0 rfl) ?_
  refine lv_sipush (v := 300) hx hb dX3_init_14 (by decide) ?_
  refine xn_a (atype := .int) (ty := .int) (a0 := (300, .inl (fun _ => 0))) (N' := 300) hx hb (hts (.arrayClass .int) (by decide +kernel)) rfl (fun _ h => by cases h) hK hP hD hS hA 0 rfl (fun _ => rfl) (by decide) (by decide) (Nat.le_of_ble_eq_true rfl) (Nat.le_of_ble_eq_true rfl) (Nat.le_of_ble_eq_true rfl) dX3_init_17 (fun q2 H hP hD hS => ?_)
  refine W.widen (k := 2) (n := 600) (Nat.le_of_ble_eq_true rfl) (Nat.le_of_ble_eq_true rfl) ?_
  have hP : va_P D vwCl [(h0, .inr (3, [.ref q1, .null, .null, .null, .null, .int 0])), (q1, .inl (K 0, 300, .inl (fun _ => 0))), (q2, .inl (K 0, 300, .inl (fun _ => 0)))] H := hP
  have hD : va_D A [(h0, .inr (3, [.ref q1, .null, .null, .null, .null, .int 0])), (q1, .inl (K 0, 300, .inl (fun _ => 0))), (q2, .inl (K 0, 300, .inl (fun _ => 0)))] := hD
  refine va_putF (D := D) (ci := 3) (v := .ref q2) (ty := .array .int) (C := RX3) (T := TX3) (N := 6) hx hb hts (by decide +kernel) tyX3 tyX3_ok nmX3 hown hK hP hD hS 0 rfl rfl 1 (by decide) (hts (.fieldLink RX3 15 "StaggerRadar$Echoes" "loud" "[I") (by decide +kernel)) (fun _ h9 => h9) rfl hin rfl (by decide +kernel) rfl rfl (Nat.le_of_ble_eq_true rfl) dX3_init_19 (fun H locs hP hD hS => ?_)
  have hP : va_P D vwCl [(h0, .inr (3, [.ref q1, .ref q2, .null, .null, .null, .int 0])), (q1, .inl (K 0, 300, .inl (fun _ => 0))), (q2, .inl (K 0, 300, .inl (fun _ => 0)))] H := hP
  have hD : va_D A [(h0, .inr (3, [.ref q1, .ref q2, .null, .null, .null, .int 0])), (q1, .inl (K 0, 300, .inl (fun _ => 0))), (q2, .inl (K 0, 300, .inl (fun _ => 0)))] := hD
  refine lv_aload_n hx hb dX3_init_22 rfl (lv_at hl 0 rfl) ?_
  refine lv_sipush (v := 1000) hx hb dX3_init_23 (by decide) ?_
  refine xn_a (atype := .int) (ty := .int) (a0 := (1000, .inl (fun _ => 0))) (N' := 1000) hx hb (hts (.arrayClass .int) (by decide +kernel)) rfl (fun _ h => by cases h) hK hP hD hS hA 0 rfl (fun _ => rfl) (by decide) (by decide) (Nat.le_of_ble_eq_true rfl) (Nat.le_of_ble_eq_true rfl) (Nat.le_of_ble_eq_true rfl) dX3_init_26 (fun q3 H hP hD hS => ?_)
  refine W.widen (k := 3) (n := 1600) (Nat.le_of_ble_eq_true rfl) (Nat.le_of_ble_eq_true rfl) ?_
  have hP : va_P D vwCl [(h0, .inr (3, [.ref q1, .ref q2, .null, .null, .null, .int 0])), (q1, .inl (K 0, 300, .inl (fun _ => 0))), (q2, .inl (K 0, 300, .inl (fun _ => 0))), (q3, .inl (K 0, 1000, .inl (fun _ => 0)))] H := hP
  have hD : va_D A [(h0, .inr (3, [.ref q1, .ref q2, .null, .null, .null, .int 0])), (q1, .inl (K 0, 300, .inl (fun _ => 0))), (q2, .inl (K 0, 300, .inl (fun _ => 0))), (q3, .inl (K 0, 1000, .inl (fun _ => 0)))] := hD
  refine va_putF (D := D) (ci := 3) (v := .ref q3) (ty := .array .int) (C := RX3) (T := TX3) (N := 6) hx hb hts (by decide +kernel) tyX3 tyX3_ok nmX3 hown hK hP hD hS 0 rfl rfl 2 (by decide) (hts (.fieldLink RX3 18 "StaggerRadar$Echoes" "hitBits" "[I") (by decide +kernel)) (fun _ h9 => h9) rfl hin rfl (by decide +kernel) rfl rfl (Nat.le_of_ble_eq_true rfl) dX3_init_28 (fun H locs hP hD hS => ?_)
  have hP : va_P D vwCl [(h0, .inr (3, [.ref q1, .ref q2, .ref q3, .null, .null, .int 0])), (q1, .inl (K 0, 300, .inl (fun _ => 0))), (q2, .inl (K 0, 300, .inl (fun _ => 0))), (q3, .inl (K 0, 1000, .inl (fun _ => 0)))] H := hP
  have hD : va_D A [(h0, .inr (3, [.ref q1, .ref q2, .ref q3, .null, .null, .int 0])), (q1, .inl (K 0, 300, .inl (fun _ => 0))), (q2, .inl (K 0, 300, .inl (fun _ => 0))), (q3, .inl (K 0, 1000, .inl (fun _ => 0)))] := hD
  refine lv_aload_n hx hb dX3_init_31 rfl (lv_at hl 0 rfl) ?_
  refine lv_bipush (v := 40) hx hb dX3_init_32 (by decide) ?_
  refine xn_a (atype := .int) (ty := .int) (a0 := (40, .inl (fun _ => 0))) (N' := 40) hx hb (hts (.arrayClass .int) (by decide +kernel)) rfl (fun _ h => by cases h) hK hP hD hS hA 0 rfl (fun _ => rfl) (by decide) (by decide) (Nat.le_of_ble_eq_true rfl) (Nat.le_of_ble_eq_true rfl) (Nat.le_of_ble_eq_true rfl) dX3_init_34 (fun q4 H hP hD hS => ?_)
  refine W.widen (k := 4) (n := 1640) (Nat.le_of_ble_eq_true rfl) (Nat.le_of_ble_eq_true rfl) ?_
  have hP : va_P D vwCl [(h0, .inr (3, [.ref q1, .ref q2, .ref q3, .null, .null, .int 0])), (q1, .inl (K 0, 300, .inl (fun _ => 0))), (q2, .inl (K 0, 300, .inl (fun _ => 0))), (q3, .inl (K 0, 1000, .inl (fun _ => 0))), (q4, .inl (K 0, 40, .inl (fun _ => 0)))] H := hP
  have hD : va_D A [(h0, .inr (3, [.ref q1, .ref q2, .ref q3, .null, .null, .int 0])), (q1, .inl (K 0, 300, .inl (fun _ => 0))), (q2, .inl (K 0, 300, .inl (fun _ => 0))), (q3, .inl (K 0, 1000, .inl (fun _ => 0))), (q4, .inl (K 0, 40, .inl (fun _ => 0)))] := hD
  refine va_putF (D := D) (ci := 3) (v := .ref q4) (ty := .array .int) (C := RX3) (T := TX3) (N := 6) hx hb hts (by decide +kernel) tyX3 tyX3_ok nmX3 hown hK hP hD hS 0 rfl rfl 3 (by decide) (hts (.fieldLink RX3 21 "StaggerRadar$Echoes" "shown" "[I") (by decide +kernel)) (fun _ h9 => h9) rfl hin rfl (by decide +kernel) rfl rfl (Nat.le_of_ble_eq_true rfl) dX3_init_36 (fun H locs hP hD hS => ?_)
  have hP : va_P D vwCl [(h0, .inr (3, [.ref q1, .ref q2, .ref q3, .ref q4, .null, .int 0])), (q1, .inl (K 0, 300, .inl (fun _ => 0))), (q2, .inl (K 0, 300, .inl (fun _ => 0))), (q3, .inl (K 0, 1000, .inl (fun _ => 0))), (q4, .inl (K 0, 40, .inl (fun _ => 0)))] H := hP
  have hD : va_D A [(h0, .inr (3, [.ref q1, .ref q2, .ref q3, .ref q4, .null, .int 0])), (q1, .inl (K 0, 300, .inl (fun _ => 0))), (q2, .inl (K 0, 300, .inl (fun _ => 0))), (q3, .inl (K 0, 1000, .inl (fun _ => 0))), (q4, .inl (K 0, 40, .inl (fun _ => 0)))] := hD
  refine lv_aload_n hx hb dX3_init_39 rfl (lv_at hl 0 rfl) ?_
  refine lv_bipush (v := 40) hx hb dX3_init_40 (by decide) ?_
  refine xn_a (atype := .int) (ty := .int) (a0 := (40, .inl (fun _ => 0))) (N' := 40) hx hb (hts (.arrayClass .int) (by decide +kernel)) rfl (fun _ h => by cases h) hK hP hD hS hA 0 rfl (fun _ => rfl) (by decide) (by decide) (Nat.le_of_ble_eq_true rfl) (Nat.le_of_ble_eq_true rfl) (Nat.le_of_ble_eq_true rfl) dX3_init_42 (fun q5 H hP hD hS => ?_)
  refine W.widen (k := 5) (n := 1680) (Nat.le_of_ble_eq_true rfl) (Nat.le_of_ble_eq_true rfl) ?_
  have hP : va_P D vwCl [(h0, .inr (3, [.ref q1, .ref q2, .ref q3, .ref q4, .null, .int 0])), (q1, .inl (K 0, 300, .inl (fun _ => 0))), (q2, .inl (K 0, 300, .inl (fun _ => 0))), (q3, .inl (K 0, 1000, .inl (fun _ => 0))), (q4, .inl (K 0, 40, .inl (fun _ => 0))), (q5, .inl (K 0, 40, .inl (fun _ => 0)))] H := hP
  have hD : va_D A [(h0, .inr (3, [.ref q1, .ref q2, .ref q3, .ref q4, .null, .int 0])), (q1, .inl (K 0, 300, .inl (fun _ => 0))), (q2, .inl (K 0, 300, .inl (fun _ => 0))), (q3, .inl (K 0, 1000, .inl (fun _ => 0))), (q4, .inl (K 0, 40, .inl (fun _ => 0))), (q5, .inl (K 0, 40, .inl (fun _ => 0)))] := hD
  refine va_putF (D := D) (ci := 3) (v := .ref q5) (ty := .array .int) (C := RX3) (T := TX3) (N := 6) hx hb hts (by decide +kernel) tyX3 tyX3_ok nmX3 hown hK hP hD hS 0 rfl rfl 4 (by decide) (hts (.fieldLink RX3 24 "StaggerRadar$Echoes" "took" "[I") (by decide +kernel)) (fun _ h9 => h9) rfl hin rfl (by decide +kernel) rfl rfl (Nat.le_of_ble_eq_true rfl) dX3_init_44 (fun H locs hP hD hS => ?_)
  have hP : va_P D vwCl [(h0, .inr (3, [.ref q1, .ref q2, .ref q3, .ref q4, .ref q5, .int 0])), (q1, .inl (K 0, 300, .inl (fun _ => 0))), (q2, .inl (K 0, 300, .inl (fun _ => 0))), (q3, .inl (K 0, 1000, .inl (fun _ => 0))), (q4, .inl (K 0, 40, .inl (fun _ => 0))), (q5, .inl (K 0, 40, .inl (fun _ => 0)))] H := hP
  have hD : va_D A [(h0, .inr (3, [.ref q1, .ref q2, .ref q3, .ref q4, .ref q5, .int 0])), (q1, .inl (K 0, 300, .inl (fun _ => 0))), (q2, .inl (K 0, 300, .inl (fun _ => 0))), (q3, .inl (K 0, 1000, .inl (fun _ => 0))), (q4, .inl (K 0, 40, .inl (fun _ => 0))), (q5, .inl (K 0, 40, .inl (fun _ => 0)))] := hD
  refine HR (fun k => match k with | 0 => h0 | 1 => q1 | 2 => q2 | 3 => q3 | 4 => q4 | 5 => q5 | _ => 0) 47 H locs ls dX3_init_47 rfl (hP.sub [0, 1, 2, 3, 4, 5] rfl) (hD.sub [0, 1, 2, 3, 4, 5] (by decide) rfl) hS

abbrev r0_X5 : RT_X5 := (0, 0, 0, 0, 0, (fun _ => 0), (va_cpy (fun j => tb_A.getD j 0) (fun _ => 0) 0 0 7), (fun _ => 0), (fun _ => 0), (fun _ => 0), (fun _ => 0), (fun _ => 0), (fun _ => 0))
abbrev rmX5_init : Room := { frames := 1, cells := 8, slots := 92, locals := 60 }
set_option maxHeartbeats 8000000 in
set_option maxRecDepth 100000 in
theorem c_X5_init (l : Launch) (D : va_G) (K : Nat → ClassId) (h0 : Nat) : Mc_ (S := Nat → Nat) l yX5_init wsX5_init rmX5_init D K [.ref h0] [(h0, .inr (5, [.null, .null, .null, .null, .null, .null, .null, .null, .int 0, .int 0, .int 0, .int 0, .int 0]))] (fun u => u 0 = h0) (fun u => rc_X5 K u r0_X5) 8 92 := by
  refine en_c (cc := cX5_init) (maxL := 1) (own := RX5) (by decide) rfl rfl rfl (Nat.le_of_ble_eq_true rfl) ?_
  intro p e s m args below meth c A Q H locs ls C0 hin hP hD hS hl HR
  obtain ⟨⟨hx, hb, hml, hown, hts⟩, hK, hA, hT⟩ := id C0
  obtain ⟨-, ⟨aA, zA, tA⟩, -⟩ := id hT
  have hl : lv_has ls 1 [(0, .ref h0)] := hl
  refine lv_aload_n hx hb dX5_init_0 rfl (lv_at hl 0 rfl) ?_
  refine W.objInit hx hb hown (hts (.methodLink RX5 3 objectInit) (by decide +kernel)) (hts (.instanceMethod objectInit) (by decide +kernel)) (hts (.code objectInit ⟨#[0xb1]⟩ 1 none) (by decide +kernel)) rfl (by rw [hml]; exact hl.1) rfl dX5_init_1 (Nat.le_of_ble_eq_true rfl) (Nat.le_of_ble_eq_true rfl) ?_
  refine W.eq (g2 := F0 m 4 ls []) rfl ?_
  refine lv_aload_n hx hb dX5_init_4 rfl (lv_at hl 0 rfl) ?_
  refine lv_iconst (v := 5) hx hb dX5_init_5 (by decide) ?_
  refine xn_a (atype := .int) (ty := .int) (a0 := (5, .inl (fun _ => 0))) (N' := 5) hx hb (hts (.arrayClass .int) (by decide +kernel)) rfl (fun _ h => by cases h) hK hP hD hS hA 0 rfl (fun _ => rfl) (by decide) (by decide) (Nat.le_of_ble_eq_true rfl) (Nat.le_of_ble_eq_true rfl) (Nat.le_of_ble_eq_true rfl) dX5_init_6 (fun q1 H hP hD hS => ?_)
  refine W.widen (k := 1) (n := 5) (Nat.le_of_ble_eq_true rfl) (Nat.le_of_ble_eq_true rfl) ?_
  have hP : va_P D vwCl [(h0, .inr (5, [.null, .null, .null, .null, .null, .null, .null, .null, .int 0, .int 0, .int 0, .int 0, .int 0])), (q1, .inl (K 0, 5, .inl (fun _ => 0)))] H := hP
  have hD : va_D A [(h0, .inr (5, [.null, .null, .null, .null, .null, .null, .null, .null, .int 0, .int 0, .int 0, .int 0, .int 0])), (q1, .inl (K 0, 5, .inl (fun _ => 0)))] := hD
  refine va_putF (D := D) (ci := 5) (v := .ref q1) (ty := .array .int) (C := RX5) (T := TX5) (N := 13) hx hb hts (by decide +kernel) tyX5 tyX5_ok nmX5 hown hK hP hD hS 0 rfl rfl 0 (by decide) (hts (.fieldLink RX5 9 "StaggerRadar$Radar" "gaps" "[I") (by decide +kernel)) (fun _ h9 => h9) rfl hin rfl (by decide +kernel) rfl rfl (Nat.le_of_ble_eq_true rfl) dX5_init_8 (fun H locs hP hD hS => ?_)
  have hP : va_P D vwCl [(h0, .inr (5, [.ref q1, .null, .null, .null, .null, .null, .null, .null, .int 0, .int 0, .int 0, .int 0, .int 0])), (q1, .inl (K 0, 5, .inl (fun _ => 0)))] H := hP
  have hD : va_D A [(h0, .inr (5, [.ref q1, .null, .null, .null, .null, .null, .null, .null, .int 0, .int 0, .int 0, .int 0, .int 0])), (q1, .inl (K 0, 5, .inl (fun _ => 0)))] := hD
  refine lv_aload_n hx hb dX5_init_11 rfl (lv_at hl 0 rfl) ?_
  refine lv_bipush (v := 7) hx hb dX5_init_12 (by decide) ?_
  refine xn_a (atype := .int) (ty := .int) (a0 := (7, .inl (fun _ => 0))) (N' := 7) hx hb (hts (.arrayClass .int) (by decide +kernel)) rfl (fun _ h => by cases h) hK hP hD hS hA 0 rfl (fun _ => rfl) (by decide) (by decide) (Nat.le_of_ble_eq_true rfl) (Nat.le_of_ble_eq_true rfl) (Nat.le_of_ble_eq_true rfl) dX5_init_14 (fun q2 H hP hD hS => ?_)
  refine W.widen (k := 2) (n := 12) (Nat.le_of_ble_eq_true rfl) (Nat.le_of_ble_eq_true rfl) ?_
  have hP : va_P D vwCl [(h0, .inr (5, [.ref q1, .null, .null, .null, .null, .null, .null, .null, .int 0, .int 0, .int 0, .int 0, .int 0])), (q1, .inl (K 0, 5, .inl (fun _ => 0))), (q2, .inl (K 0, 7, .inl (fun _ => 0)))] H := hP
  have hD : va_D A [(h0, .inr (5, [.ref q1, .null, .null, .null, .null, .null, .null, .null, .int 0, .int 0, .int 0, .int 0, .int 0])), (q1, .inl (K 0, 5, .inl (fun _ => 0))), (q2, .inl (K 0, 7, .inl (fun _ => 0)))] := hD
  refine va_putF (D := D) (ci := 5) (v := .ref q2) (ty := .array .int) (C := RX5) (T := TX5) (N := 13) hx hb hts (by decide +kernel) tyX5 tyX5_ok nmX5 hown hK hP hD hS 0 rfl rfl 1 (by decide) (hts (.fieldLink RX5 15 "StaggerRadar$Radar" "settings" "[I") (by decide +kernel)) (fun _ h9 => h9) rfl hin rfl (by decide +kernel) rfl rfl (Nat.le_of_ble_eq_true rfl) dX5_init_16 (fun H locs hP hD hS => ?_)
  have hP : va_P D vwCl [(h0, .inr (5, [.ref q1, .ref q2, .null, .null, .null, .null, .null, .null, .int 0, .int 0, .int 0, .int 0, .int 0])), (q1, .inl (K 0, 5, .inl (fun _ => 0))), (q2, .inl (K 0, 7, .inl (fun _ => 0)))] H := hP
  have hD : va_D A [(h0, .inr (5, [.ref q1, .ref q2, .null, .null, .null, .null, .null, .null, .int 0, .int 0, .int 0, .int 0, .int 0])), (q1, .inl (K 0, 5, .inl (fun _ => 0))), (q2, .inl (K 0, 7, .inl (fun _ => 0)))] := hD
  refine lv_aload_n hx hb dX5_init_19 rfl (lv_at hl 0 rfl) ?_
  refine lv_bipush (v := 8) hx hb dX5_init_20 (by decide) ?_
  refine xn_a (atype := .int) (ty := .int) (a0 := (8, .inl (fun _ => 0))) (N' := 8) hx hb (hts (.arrayClass .int) (by decide +kernel)) rfl (fun _ h => by cases h) hK hP hD hS hA 0 rfl (fun _ => rfl) (by decide) (by decide) (Nat.le_of_ble_eq_true rfl) (Nat.le_of_ble_eq_true rfl) (Nat.le_of_ble_eq_true rfl) dX5_init_22 (fun q3 H hP hD hS => ?_)
  refine W.widen (k := 3) (n := 20) (Nat.le_of_ble_eq_true rfl) (Nat.le_of_ble_eq_true rfl) ?_
  have hP : va_P D vwCl [(h0, .inr (5, [.ref q1, .ref q2, .null, .null, .null, .null, .null, .null, .int 0, .int 0, .int 0, .int 0, .int 0])), (q1, .inl (K 0, 5, .inl (fun _ => 0))), (q2, .inl (K 0, 7, .inl (fun _ => 0))), (q3, .inl (K 0, 8, .inl (fun _ => 0)))] H := hP
  have hD : va_D A [(h0, .inr (5, [.ref q1, .ref q2, .null, .null, .null, .null, .null, .null, .int 0, .int 0, .int 0, .int 0, .int 0])), (q1, .inl (K 0, 5, .inl (fun _ => 0))), (q2, .inl (K 0, 7, .inl (fun _ => 0))), (q3, .inl (K 0, 8, .inl (fun _ => 0)))] := hD
  refine va_putF (D := D) (ci := 5) (v := .ref q3) (ty := .array .int) (C := RX5) (T := TX5) (N := 13) hx hb hts (by decide +kernel) tyX5 tyX5_ok nmX5 hown hK hP hD hS 0 rfl rfl 2 (by decide) (hts (.fieldLink RX5 18 "StaggerRadar$Radar" "spots" "[I") (by decide +kernel)) (fun _ h9 => h9) rfl hin rfl (by decide +kernel) rfl rfl (Nat.le_of_ble_eq_true rfl) dX5_init_24 (fun H locs hP hD hS => ?_)
  have hP : va_P D vwCl [(h0, .inr (5, [.ref q1, .ref q2, .ref q3, .null, .null, .null, .null, .null, .int 0, .int 0, .int 0, .int 0, .int 0])), (q1, .inl (K 0, 5, .inl (fun _ => 0))), (q2, .inl (K 0, 7, .inl (fun _ => 0))), (q3, .inl (K 0, 8, .inl (fun _ => 0)))] H := hP
  have hD : va_D A [(h0, .inr (5, [.ref q1, .ref q2, .ref q3, .null, .null, .null, .null, .null, .int 0, .int 0, .int 0, .int 0, .int 0])), (q1, .inl (K 0, 5, .inl (fun _ => 0))), (q2, .inl (K 0, 7, .inl (fun _ => 0))), (q3, .inl (K 0, 8, .inl (fun _ => 0)))] := hD
  refine lv_aload_n hx hb dX5_init_27 rfl (lv_at hl 0 rfl) ?_
  refine lv_bipush (v := 8) hx hb dX5_init_28 (by decide) ?_
  refine xn_a (atype := .int) (ty := .int) (a0 := (8, .inl (fun _ => 0))) (N' := 8) hx hb (hts (.arrayClass .int) (by decide +kernel)) rfl (fun _ h => by cases h) hK hP hD hS hA 0 rfl (fun _ => rfl) (by decide) (by decide) (Nat.le_of_ble_eq_true rfl) (Nat.le_of_ble_eq_true rfl) (Nat.le_of_ble_eq_true rfl) dX5_init_30 (fun q4 H hP hD hS => ?_)
  refine W.widen (k := 4) (n := 28) (Nat.le_of_ble_eq_true rfl) (Nat.le_of_ble_eq_true rfl) ?_
  have hP : va_P D vwCl [(h0, .inr (5, [.ref q1, .ref q2, .ref q3, .null, .null, .null, .null, .null, .int 0, .int 0, .int 0, .int 0, .int 0])), (q1, .inl (K 0, 5, .inl (fun _ => 0))), (q2, .inl (K 0, 7, .inl (fun _ => 0))), (q3, .inl (K 0, 8, .inl (fun _ => 0))), (q4, .inl (K 0, 8, .inl (fun _ => 0)))] H := hP
  have hD : va_D A [(h0, .inr (5, [.ref q1, .ref q2, .ref q3, .null, .null, .null, .null, .null, .int 0, .int 0, .int 0, .int 0, .int 0])), (q1, .inl (K 0, 5, .inl (fun _ => 0))), (q2, .inl (K 0, 7, .inl (fun _ => 0))), (q3, .inl (K 0, 8, .inl (fun _ => 0))), (q4, .inl (K 0, 8, .inl (fun _ => 0)))] := hD
  refine va_putF (D := D) (ci := 5) (v := .ref q4) (ty := .array .int) (C := RX5) (T := TX5) (N := 13) hx hb hts (by decide +kernel) tyX5 tyX5_ok nmX5 hown hK hP hD hS 0 rfl rfl 3 (by decide) (hts (.fieldLink RX5 21 "StaggerRadar$Radar" "speeds" "[I") (by decide +kernel)) (fun _ h9 => h9) rfl hin rfl (by decide +kernel) rfl rfl (Nat.le_of_ble_eq_true rfl) dX5_init_32 (fun H locs hP hD hS => ?_)
  have hP : va_P D vwCl [(h0, .inr (5, [.ref q1, .ref q2, .ref q3, .ref q4, .null, .null, .null, .null, .int 0, .int 0, .int 0, .int 0, .int 0])), (q1, .inl (K 0, 5, .inl (fun _ => 0))), (q2, .inl (K 0, 7, .inl (fun _ => 0))), (q3, .inl (K 0, 8, .inl (fun _ => 0))), (q4, .inl (K 0, 8, .inl (fun _ => 0)))] H := hP
  have hD : va_D A [(h0, .inr (5, [.ref q1, .ref q2, .ref q3, .ref q4, .null, .null, .null, .null, .int 0, .int 0, .int 0, .int 0, .int 0])), (q1, .inl (K 0, 5, .inl (fun _ => 0))), (q2, .inl (K 0, 7, .inl (fun _ => 0))), (q3, .inl (K 0, 8, .inl (fun _ => 0))), (q4, .inl (K 0, 8, .inl (fun _ => 0)))] := hD
  refine lv_aload_n hx hb dX5_init_35 rfl (lv_at hl 0 rfl) ?_
  refine lv_bipush (v := 8) hx hb dX5_init_36 (by decide) ?_
  refine xn_a (atype := .int) (ty := .int) (a0 := (8, .inl (fun _ => 0))) (N' := 8) hx hb (hts (.arrayClass .int) (by decide +kernel)) rfl (fun _ h => by cases h) hK hP hD hS hA 0 rfl (fun _ => rfl) (by decide) (by decide) (Nat.le_of_ble_eq_true rfl) (Nat.le_of_ble_eq_true rfl) (Nat.le_of_ble_eq_true rfl) dX5_init_38 (fun q5 H hP hD hS => ?_)
  refine W.widen (k := 5) (n := 36) (Nat.le_of_ble_eq_true rfl) (Nat.le_of_ble_eq_true rfl) ?_
  have hP : va_P D vwCl [(h0, .inr (5, [.ref q1, .ref q2, .ref q3, .ref q4, .null, .null, .null, .null, .int 0, .int 0, .int 0, .int 0, .int 0])), (q1, .inl (K 0, 5, .inl (fun _ => 0))), (q2, .inl (K 0, 7, .inl (fun _ => 0))), (q3, .inl (K 0, 8, .inl (fun _ => 0))), (q4, .inl (K 0, 8, .inl (fun _ => 0))), (q5, .inl (K 0, 8, .inl (fun _ => 0)))] H := hP
  have hD : va_D A [(h0, .inr (5, [.ref q1, .ref q2, .ref q3, .ref q4, .null, .null, .null, .null, .int 0, .int 0, .int 0, .int 0, .int 0])), (q1, .inl (K 0, 5, .inl (fun _ => 0))), (q2, .inl (K 0, 7, .inl (fun _ => 0))), (q3, .inl (K 0, 8, .inl (fun _ => 0))), (q4, .inl (K 0, 8, .inl (fun _ => 0))), (q5, .inl (K 0, 8, .inl (fun _ => 0)))] := hD
  refine va_putF (D := D) (ci := 5) (v := .ref q5) (ty := .array .int) (C := RX5) (T := TX5) (N := 13) hx hb hts (by decide +kernel) tyX5 tyX5_ok nmX5 hown hK hP hD hS 0 rfl rfl 4 (by decide) (hts (.fieldLink RX5 24 "StaggerRadar$Radar" "strengths" "[I") (by decide +kernel)) (fun _ h9 => h9) rfl hin rfl (by decide +kernel) rfl rfl (Nat.le_of_ble_eq_true rfl) dX5_init_40 (fun H locs hP hD hS => ?_)
  have hP : va_P D vwCl [(h0, .inr (5, [.ref q1, .ref q2, .ref q3, .ref q4, .ref q5, .null, .null, .null, .int 0, .int 0, .int 0, .int 0, .int 0])), (q1, .inl (K 0, 5, .inl (fun _ => 0))), (q2, .inl (K 0, 7, .inl (fun _ => 0))), (q3, .inl (K 0, 8, .inl (fun _ => 0))), (q4, .inl (K 0, 8, .inl (fun _ => 0))), (q5, .inl (K 0, 8, .inl (fun _ => 0)))] H := hP
  have hD : va_D A [(h0, .inr (5, [.ref q1, .ref q2, .ref q3, .ref q4, .ref q5, .null, .null, .null, .int 0, .int 0, .int 0, .int 0, .int 0])), (q1, .inl (K 0, 5, .inl (fun _ => 0))), (q2, .inl (K 0, 7, .inl (fun _ => 0))), (q3, .inl (K 0, 8, .inl (fun _ => 0))), (q4, .inl (K 0, 8, .inl (fun _ => 0))), (q5, .inl (K 0, 8, .inl (fun _ => 0)))] := hD
  refine lv_aload_n hx hb dX5_init_43 rfl (lv_at hl 0 rfl) ?_
  refine lv_iconst (v := 4) hx hb dX5_init_44 (by decide) ?_
  refine xn_a (atype := .int) (ty := .int) (a0 := (4, .inl (fun _ => 0))) (N' := 4) hx hb (hts (.arrayClass .int) (by decide +kernel)) rfl (fun _ h => by cases h) hK hP hD hS hA 0 rfl (fun _ => rfl) (by decide) (by decide) (Nat.le_of_ble_eq_true rfl) (Nat.le_of_ble_eq_true rfl) (Nat.le_of_ble_eq_true rfl) dX5_init_45 (fun q6 H hP hD hS => ?_)
  refine W.widen (k := 6) (n := 40) (Nat.le_of_ble_eq_true rfl) (Nat.le_of_ble_eq_true rfl) ?_
  have hP : va_P D vwCl [(h0, .inr (5, [.ref q1, .ref q2, .ref q3, .ref q4, .ref q5, .null, .null, .null, .int 0, .int 0, .int 0, .int 0, .int 0])), (q1, .inl (K 0, 5, .inl (fun _ => 0))), (q2, .inl (K 0, 7, .inl (fun _ => 0))), (q3, .inl (K 0, 8, .inl (fun _ => 0))), (q4, .inl (K 0, 8, .inl (fun _ => 0))), (q5, .inl (K 0, 8, .inl (fun _ => 0))), (q6, .inl (K 0, 4, .inl (fun _ => 0)))] H := hP
  have hD : va_D A [(h0, .inr (5, [.ref q1, .ref q2, .ref q3, .ref q4, .ref q5, .null, .null, .null, .int 0, .int 0, .int 0, .int 0, .int 0])), (q1, .inl (K 0, 5, .inl (fun _ => 0))), (q2, .inl (K 0, 7, .inl (fun _ => 0))), (q3, .inl (K 0, 8, .inl (fun _ => 0))), (q4, .inl (K 0, 8, .inl (fun _ => 0))), (q5, .inl (K 0, 8, .inl (fun _ => 0))), (q6, .inl (K 0, 4, .inl (fun _ => 0)))] := hD
  refine va_putF (D := D) (ci := 5) (v := .ref q6) (ty := .array .int) (C := RX5) (T := TX5) (N := 13) hx hb hts (by decide +kernel) tyX5 tyX5_ok nmX5 hown hK hP hD hS 0 rfl rfl 5 (by decide) (hts (.fieldLink RX5 27 "StaggerRadar$Radar" "lookTimes" "[I") (by decide +kernel)) (fun _ h9 => h9) rfl hin rfl (by decide +kernel) rfl rfl (Nat.le_of_ble_eq_true rfl) dX5_init_47 (fun H locs hP hD hS => ?_)
  have hP : va_P D vwCl [(h0, .inr (5, [.ref q1, .ref q2, .ref q3, .ref q4, .ref q5, .ref q6, .null, .null, .int 0, .int 0, .int 0, .int 0, .int 0])), (q1, .inl (K 0, 5, .inl (fun _ => 0))), (q2, .inl (K 0, 7, .inl (fun _ => 0))), (q3, .inl (K 0, 8, .inl (fun _ => 0))), (q4, .inl (K 0, 8, .inl (fun _ => 0))), (q5, .inl (K 0, 8, .inl (fun _ => 0))), (q6, .inl (K 0, 4, .inl (fun _ => 0)))] H := hP
  have hD : va_D A [(h0, .inr (5, [.ref q1, .ref q2, .ref q3, .ref q4, .ref q5, .ref q6, .null, .null, .int 0, .int 0, .int 0, .int 0, .int 0])), (q1, .inl (K 0, 5, .inl (fun _ => 0))), (q2, .inl (K 0, 7, .inl (fun _ => 0))), (q3, .inl (K 0, 8, .inl (fun _ => 0))), (q4, .inl (K 0, 8, .inl (fun _ => 0))), (q5, .inl (K 0, 8, .inl (fun _ => 0))), (q6, .inl (K 0, 4, .inl (fun _ => 0)))] := hD
  refine lv_aload_n hx hb dX5_init_50 rfl (lv_at hl 0 rfl) ?_
  refine lv_iconst (v := 4) hx hb dX5_init_51 (by decide) ?_
  refine xn_a (atype := .int) (ty := .int) (a0 := (4, .inl (fun _ => 0))) (N' := 4) hx hb (hts (.arrayClass .int) (by decide +kernel)) rfl (fun _ h => by cases h) hK hP hD hS hA 0 rfl (fun _ => rfl) (by decide) (by decide) (Nat.le_of_ble_eq_true rfl) (Nat.le_of_ble_eq_true rfl) (Nat.le_of_ble_eq_true rfl) dX5_init_52 (fun q7 H hP hD hS => ?_)
  refine W.widen (k := 7) (n := 44) (Nat.le_of_ble_eq_true rfl) (Nat.le_of_ble_eq_true rfl) ?_
  have hP : va_P D vwCl [(h0, .inr (5, [.ref q1, .ref q2, .ref q3, .ref q4, .ref q5, .ref q6, .null, .null, .int 0, .int 0, .int 0, .int 0, .int 0])), (q1, .inl (K 0, 5, .inl (fun _ => 0))), (q2, .inl (K 0, 7, .inl (fun _ => 0))), (q3, .inl (K 0, 8, .inl (fun _ => 0))), (q4, .inl (K 0, 8, .inl (fun _ => 0))), (q5, .inl (K 0, 8, .inl (fun _ => 0))), (q6, .inl (K 0, 4, .inl (fun _ => 0))), (q7, .inl (K 0, 4, .inl (fun _ => 0)))] H := hP
  have hD : va_D A [(h0, .inr (5, [.ref q1, .ref q2, .ref q3, .ref q4, .ref q5, .ref q6, .null, .null, .int 0, .int 0, .int 0, .int 0, .int 0])), (q1, .inl (K 0, 5, .inl (fun _ => 0))), (q2, .inl (K 0, 7, .inl (fun _ => 0))), (q3, .inl (K 0, 8, .inl (fun _ => 0))), (q4, .inl (K 0, 8, .inl (fun _ => 0))), (q5, .inl (K 0, 8, .inl (fun _ => 0))), (q6, .inl (K 0, 4, .inl (fun _ => 0))), (q7, .inl (K 0, 4, .inl (fun _ => 0)))] := hD
  refine va_putF (D := D) (ci := 5) (v := .ref q7) (ty := .array .int) (C := RX5) (T := TX5) (N := 13) hx hb hts (by decide +kernel) tyX5 tyX5_ok nmX5 hown hK hP hD hS 0 rfl rfl 6 (by decide) (hts (.fieldLink RX5 30 "StaggerRadar$Radar" "lookSizes" "[I") (by decide +kernel)) (fun _ h9 => h9) rfl hin rfl (by decide +kernel) rfl rfl (Nat.le_of_ble_eq_true rfl) dX5_init_54 (fun H locs hP hD hS => ?_)
  have hP : va_P D vwCl [(h0, .inr (5, [.ref q1, .ref q2, .ref q3, .ref q4, .ref q5, .ref q6, .ref q7, .null, .int 0, .int 0, .int 0, .int 0, .int 0])), (q1, .inl (K 0, 5, .inl (fun _ => 0))), (q2, .inl (K 0, 7, .inl (fun _ => 0))), (q3, .inl (K 0, 8, .inl (fun _ => 0))), (q4, .inl (K 0, 8, .inl (fun _ => 0))), (q5, .inl (K 0, 8, .inl (fun _ => 0))), (q6, .inl (K 0, 4, .inl (fun _ => 0))), (q7, .inl (K 0, 4, .inl (fun _ => 0)))] H := hP
  have hD : va_D A [(h0, .inr (5, [.ref q1, .ref q2, .ref q3, .ref q4, .ref q5, .ref q6, .ref q7, .null, .int 0, .int 0, .int 0, .int 0, .int 0])), (q1, .inl (K 0, 5, .inl (fun _ => 0))), (q2, .inl (K 0, 7, .inl (fun _ => 0))), (q3, .inl (K 0, 8, .inl (fun _ => 0))), (q4, .inl (K 0, 8, .inl (fun _ => 0))), (q5, .inl (K 0, 8, .inl (fun _ => 0))), (q6, .inl (K 0, 4, .inl (fun _ => 0))), (q7, .inl (K 0, 4, .inl (fun _ => 0)))] := hD
  refine lv_aload_n hx hb dX5_init_57 rfl (lv_at hl 0 rfl) ?_
  refine lv_bipush (v := 48) hx hb dX5_init_58 (by decide) ?_
  refine xn_a (atype := .int) (ty := .int) (a0 := (48, .inl (fun _ => 0))) (N' := 48) hx hb (hts (.arrayClass .int) (by decide +kernel)) rfl (fun _ h => by cases h) hK hP hD hS hA 0 rfl (fun _ => rfl) (by decide) (by decide) (Nat.le_of_ble_eq_true rfl) (Nat.le_of_ble_eq_true rfl) (Nat.le_of_ble_eq_true rfl) dX5_init_60 (fun q8 H hP hD hS => ?_)
  refine W.widen (k := 8) (n := 92) (Nat.le_of_ble_eq_true rfl) (Nat.le_of_ble_eq_true rfl) ?_
  have hP : va_P D vwCl [(h0, .inr (5, [.ref q1, .ref q2, .ref q3, .ref q4, .ref q5, .ref q6, .ref q7, .null, .int 0, .int 0, .int 0, .int 0, .int 0])), (q1, .inl (K 0, 5, .inl (fun _ => 0))), (q2, .inl (K 0, 7, .inl (fun _ => 0))), (q3, .inl (K 0, 8, .inl (fun _ => 0))), (q4, .inl (K 0, 8, .inl (fun _ => 0))), (q5, .inl (K 0, 8, .inl (fun _ => 0))), (q6, .inl (K 0, 4, .inl (fun _ => 0))), (q7, .inl (K 0, 4, .inl (fun _ => 0))), (q8, .inl (K 0, 48, .inl (fun _ => 0)))] H := hP
  have hD : va_D A [(h0, .inr (5, [.ref q1, .ref q2, .ref q3, .ref q4, .ref q5, .ref q6, .ref q7, .null, .int 0, .int 0, .int 0, .int 0, .int 0])), (q1, .inl (K 0, 5, .inl (fun _ => 0))), (q2, .inl (K 0, 7, .inl (fun _ => 0))), (q3, .inl (K 0, 8, .inl (fun _ => 0))), (q4, .inl (K 0, 8, .inl (fun _ => 0))), (q5, .inl (K 0, 8, .inl (fun _ => 0))), (q6, .inl (K 0, 4, .inl (fun _ => 0))), (q7, .inl (K 0, 4, .inl (fun _ => 0))), (q8, .inl (K 0, 48, .inl (fun _ => 0)))] := hD
  refine va_putF (D := D) (ci := 5) (v := .ref q8) (ty := .array .int) (C := RX5) (T := TX5) (N := 13) hx hb hts (by decide +kernel) tyX5 tyX5_ok nmX5 hown hK hP hD hS 0 rfl rfl 7 (by decide) (hts (.fieldLink RX5 33 "StaggerRadar$Radar" "lookNumbers" "[I") (by decide +kernel)) (fun _ h9 => h9) rfl hin rfl (by decide +kernel) rfl rfl (Nat.le_of_ble_eq_true rfl) dX5_init_62 (fun H locs hP hD hS => ?_)
  have hP : va_P D vwCl [(h0, .inr (5, [.ref q1, .ref q2, .ref q3, .ref q4, .ref q5, .ref q6, .ref q7, .ref q8, .int 0, .int 0, .int 0, .int 0, .int 0])), (q1, .inl (K 0, 5, .inl (fun _ => 0))), (q2, .inl (K 0, 7, .inl (fun _ => 0))), (q3, .inl (K 0, 8, .inl (fun _ => 0))), (q4, .inl (K 0, 8, .inl (fun _ => 0))), (q5, .inl (K 0, 8, .inl (fun _ => 0))), (q6, .inl (K 0, 4, .inl (fun _ => 0))), (q7, .inl (K 0, 4, .inl (fun _ => 0))), (q8, .inl (K 0, 48, .inl (fun _ => 0)))] H := hP
  have hD : va_D A [(h0, .inr (5, [.ref q1, .ref q2, .ref q3, .ref q4, .ref q5, .ref q6, .ref q7, .ref q8, .int 0, .int 0, .int 0, .int 0, .int 0])), (q1, .inl (K 0, 5, .inl (fun _ => 0))), (q2, .inl (K 0, 7, .inl (fun _ => 0))), (q3, .inl (K 0, 8, .inl (fun _ => 0))), (q4, .inl (K 0, 8, .inl (fun _ => 0))), (q5, .inl (K 0, 8, .inl (fun _ => 0))), (q6, .inl (K 0, 4, .inl (fun _ => 0))), (q7, .inl (K 0, 4, .inl (fun _ => 0))), (q8, .inl (K 0, 48, .inl (fun _ => 0)))] := hD
  refine va_getsN hx hb zA hS hown (va_Nw.use rfl C0.2.2.2.1.2.1) (fun _ h9 => h9) dX5_init_65 ?_
  refine lv_iconst (v := 0) hx hb dX5_init_68 (by decide) ?_
  refine lv_aload_n hx hb dX5_init_69 rfl (lv_at hl 0 rfl) ?_
  refine va_get (D := D) (ci := 5) (v := .ref q2) (C := RX5) (T := TX5) (N := 13) hx hb hts (by decide +kernel) hown hK hP 0 rfl rfl 1 (by decide) (hts (.fieldLink RX5 15 "StaggerRadar$Radar" "settings" "[I") (by decide +kernel)) (fun _ h9 => h9) rfl dX5_init_70 ?_
  refine lv_iconst (v := 0) hx hb dX5_init_73 (by decide) ?_
  refine lv_bipush (v := 7) hx hb dX5_init_74 (by decide) ?_
  refine xy_t (g := (fun _ => 0)) hx hb (hml.trans hl.1.symm) hown (hts (.methodLink RX5 39 arraycopyName) (by decide +kernel)) (hts (.native arraycopyName) (by decide +kernel)) (hts (.static arraycopyName) (by decide +kernel)) (hts (.initialized "java/lang/System") (by decide +kernel)) hK hP hD hS tA 2 0 rfl rfl (by decide) (by decide) (by decide) (k1 := 0) (k2 := 0) (k3 := 7) (by decide) (by decide) (by decide) (Nat.le_of_ble_eq_true rfl) (Nat.le_of_ble_eq_true rfl) (Nat.le_of_ble_eq_true rfl) (Nat.le_of_ble_eq_true rfl) dX5_init_76 (fun H locs hP hD hS => ?_)
  have hP : va_P D vwCl [(h0, .inr (5, [.ref q1, .ref q2, .ref q3, .ref q4, .ref q5, .ref q6, .ref q7, .ref q8, .int 0, .int 0, .int 0, .int 0, .int 0])), (q1, .inl (K 0, 5, .inl (fun _ => 0))), (q2, .inl (K 0, 7, .inl (va_cpy (fun j => tb_A.getD j 0) (fun _ => 0) 0 0 7))), (q3, .inl (K 0, 8, .inl (fun _ => 0))), (q4, .inl (K 0, 8, .inl (fun _ => 0))), (q5, .inl (K 0, 8, .inl (fun _ => 0))), (q6, .inl (K 0, 4, .inl (fun _ => 0))), (q7, .inl (K 0, 4, .inl (fun _ => 0))), (q8, .inl (K 0, 48, .inl (fun _ => 0)))] H := hP
  have hD : va_D A [(h0, .inr (5, [.ref q1, .ref q2, .ref q3, .ref q4, .ref q5, .ref q6, .ref q7, .ref q8, .int 0, .int 0, .int 0, .int 0, .int 0])), (q1, .inl (K 0, 5, .inl (fun _ => 0))), (q2, .inl (K 0, 7, .inl (va_cpy (fun j => tb_A.getD j 0) (fun _ => 0) 0 0 7))), (q3, .inl (K 0, 8, .inl (fun _ => 0))), (q4, .inl (K 0, 8, .inl (fun _ => 0))), (q5, .inl (K 0, 8, .inl (fun _ => 0))), (q6, .inl (K 0, 4, .inl (fun _ => 0))), (q7, .inl (K 0, 4, .inl (fun _ => 0))), (q8, .inl (K 0, 48, .inl (fun _ => 0)))] := hD
  refine HR (fun k => match k with | 0 => h0 | 1 => q1 | 2 => q2 | 3 => q3 | 4 => q4 | 5 => q5 | 6 => q6 | 7 => q7 | 8 => q8 | _ => 0) 79 H locs ls dX5_init_79 rfl (hP.sub [0, 1, 2, 3, 4, 5, 6, 7, 8] rfl) (hD.sub [0, 1, 2, 3, 4, 5, 6, 7, 8] (by decide) rfl) hS

abbrev r0_X6 : RT_X6 := (0, 0, 0, 0, 0, 0, (fun _ => 0))
abbrev rmX6_init : Room := { frames := 1, cells := 1, slots := 3, locals := 12 }
set_option maxHeartbeats 8000000 in
set_option maxRecDepth 100000 in
theorem c_X6_init (l : Launch) (D : va_G) (K : Nat → ClassId) (h0 : Nat) : Mc_ (S := Nat → Nat) l yX6_init wsX6_init rmX6_init D K [.ref h0] [(h0, .inr (6, [.null, .int 0, .int 0, .int 0, .int 0, .int 0, .int 0]))] (fun u => u 0 = h0) (fun u => rc_X6 K u r0_X6) 1 3 := by
  refine en_c (cc := cX6_init) (maxL := 1) (own := RX6) (by decide) rfl rfl rfl (Nat.le_of_ble_eq_true rfl) ?_
  intro p e s m args below meth c A Q H locs ls C0 hin hP hD hS hl HR
  obtain ⟨⟨hx, hb, hml, hown, hts⟩, hK, hA, hT⟩ := id C0
  obtain ⟨-, ⟨aA, zA, tA⟩, -⟩ := id hT
  have hl : lv_has ls 1 [(0, .ref h0)] := hl
  refine lv_aload_n hx hb dX6_init_0 rfl (lv_at hl 0 rfl) ?_
  refine W.objInit hx hb hown (hts (.methodLink RX6 3 objectInit) (by decide +kernel)) (hts (.instanceMethod objectInit) (by decide +kernel)) (hts (.code objectInit ⟨#[0xb1]⟩ 1 none) (by decide +kernel)) rfl (by rw [hml]; exact hl.1) rfl dX6_init_1 (Nat.le_of_ble_eq_true rfl) (Nat.le_of_ble_eq_true rfl) ?_
  refine W.eq (g2 := F0 m 4 ls []) rfl ?_
  refine lv_aload_n hx hb dX6_init_4 rfl (lv_at hl 0 rfl) ?_
  refine lv_iconst (v := 3) hx hb dX6_init_5 (by decide) ?_
  refine xn_a (atype := .int) (ty := .int) (a0 := (3, .inl (fun _ => 0))) (N' := 3) hx hb (hts (.arrayClass .int) (by decide +kernel)) rfl (fun _ h => by cases h) hK hP hD hS hA 0 rfl (fun _ => rfl) (by decide) (by decide) (Nat.le_of_ble_eq_true rfl) (Nat.le_of_ble_eq_true rfl) (Nat.le_of_ble_eq_true rfl) dX6_init_6 (fun q1 H hP hD hS => ?_)
  refine W.widen (k := 1) (n := 3) (Nat.le_of_ble_eq_true rfl) (Nat.le_of_ble_eq_true rfl) ?_
  have hP : va_P D vwCl [(h0, .inr (6, [.null, .int 0, .int 0, .int 0, .int 0, .int 0, .int 0])), (q1, .inl (K 0, 3, .inl (fun _ => 0)))] H := hP
  have hD : va_D A [(h0, .inr (6, [.null, .int 0, .int 0, .int 0, .int 0, .int 0, .int 0])), (q1, .inl (K 0, 3, .inl (fun _ => 0)))] := hD
  refine va_putF (D := D) (ci := 6) (v := .ref q1) (ty := .array .int) (C := RX6) (T := TX6) (N := 7) hx hb hts (by decide +kernel) tyX6 tyX6_ok nmX6 hown hK hP hD hS 0 rfl rfl 0 (by decide) (hts (.fieldLink RX6 9 "StaggerRadar$Reader" "numbers" "[I") (by decide +kernel)) (fun _ h9 => h9) rfl hin rfl (by decide +kernel) rfl rfl (Nat.le_of_ble_eq_true rfl) dX6_init_8 (fun H locs hP hD hS => ?_)
  have hP : va_P D vwCl [(h0, .inr (6, [.ref q1, .int 0, .int 0, .int 0, .int 0, .int 0, .int 0])), (q1, .inl (K 0, 3, .inl (fun _ => 0)))] H := hP
  have hD : va_D A [(h0, .inr (6, [.ref q1, .int 0, .int 0, .int 0, .int 0, .int 0, .int 0])), (q1, .inl (K 0, 3, .inl (fun _ => 0)))] := hD
  refine HR (fun k => match k with | 0 => h0 | 1 => q1 | _ => 0) 11 H locs ls dX6_init_11 rfl (hP.sub [0, 1] rfl) (hD.sub [0, 1] (by decide) rfl) hS

abbrev r0_X8 : RT_X8 := (0, 0, (-1), (fun _ => 0))
abbrev rmX8_init : Room := { frames := 1, cells := 1, slots := 400, locals := 12 }
set_option maxHeartbeats 8000000 in
set_option maxRecDepth 100000 in
theorem c_X8_init (l : Launch) (D : va_G) (K : Nat → ClassId) (h0 : Nat) : Mc_ (S := Nat → Nat) l yX8_init wsX8_init rmX8_init D K [.ref h0] [(h0, .inr (7, [.null, .int 0, .int 0, .int 0]))] (fun u => u 0 = h0) (fun u => rc_X8 K u r0_X8) 1 400 := by
  refine en_c (cc := cX8_init) (maxL := 1) (own := RX8) (by decide) rfl rfl rfl (Nat.le_of_ble_eq_true rfl) ?_
  intro p e s m args below meth c A Q H locs ls C0 hin hP hD hS hl HR
  obtain ⟨⟨hx, hb, hml, hown, hts⟩, hK, hA, hT⟩ := id C0
  obtain ⟨-, ⟨aA, zA, tA⟩, -⟩ := id hT
  have hl : lv_has ls 1 [(0, .ref h0)] := hl
  refine lv_aload_n hx hb dX8_init_0 rfl (lv_at hl 0 rfl) ?_
  refine W.objInit hx hb hown (hts (.methodLink RX8 3 objectInit) (by decide +kernel)) (hts (.instanceMethod objectInit) (by decide +kernel)) (hts (.code objectInit ⟨#[0xb1]⟩ 1 none) (by decide +kernel)) rfl (by rw [hml]; exact hl.1) rfl dX8_init_1 (Nat.le_of_ble_eq_true rfl) (Nat.le_of_ble_eq_true rfl) ?_
  refine W.eq (g2 := F0 m 4 ls []) rfl ?_
  refine lv_aload_n hx hb dX8_init_4 rfl (lv_at hl 0 rfl) ?_
  refine lv_sipush (v := 400) hx hb dX8_init_5 (by decide) ?_
  refine xn_a (atype := .int) (ty := .int) (a0 := (400, .inl (fun _ => 0))) (N' := 400) hx hb (hts (.arrayClass .int) (by decide +kernel)) rfl (fun _ h => by cases h) hK hP hD hS hA 0 rfl (fun _ => rfl) (by decide) (by decide) (Nat.le_of_ble_eq_true rfl) (Nat.le_of_ble_eq_true rfl) (Nat.le_of_ble_eq_true rfl) dX8_init_8 (fun q1 H hP hD hS => ?_)
  refine W.widen (k := 1) (n := 400) (Nat.le_of_ble_eq_true rfl) (Nat.le_of_ble_eq_true rfl) ?_
  have hP : va_P D vwCl [(h0, .inr (7, [.null, .int 0, .int 0, .int 0])), (q1, .inl (K 0, 400, .inl (fun _ => 0)))] H := hP
  have hD : va_D A [(h0, .inr (7, [.null, .int 0, .int 0, .int 0])), (q1, .inl (K 0, 400, .inl (fun _ => 0)))] := hD
  refine va_putF (D := D) (ci := 7) (v := .ref q1) (ty := .array .int) (C := RX8) (T := TX8) (N := 4) hx hb hts (by decide +kernel) tyX8 tyX8_ok nmX8 hown hK hP hD hS 0 rfl rfl 0 (by decide) (hts (.fieldLink RX8 9 "StaggerRadar$Text" "bytes" "[I") (by decide +kernel)) (fun _ h9 => h9) rfl hin rfl (by decide +kernel) rfl rfl (Nat.le_of_ble_eq_true rfl) dX8_init_10 (fun H locs hP hD hS => ?_)
  have hP : va_P D vwCl [(h0, .inr (7, [.ref q1, .int 0, .int 0, .int 0])), (q1, .inl (K 0, 400, .inl (fun _ => 0)))] H := hP
  have hD : va_D A [(h0, .inr (7, [.ref q1, .int 0, .int 0, .int 0])), (q1, .inl (K 0, 400, .inl (fun _ => 0)))] := hD
  refine lv_aload_n hx hb dX8_init_13 rfl (lv_at hl 0 rfl) ?_
  refine lv_iconst (v := (-1)) hx hb dX8_init_14 (by decide) ?_
  refine va_put (D := D) (ci := 7) (v := .int (-1)) (ty := .int) (C := RX8) (T := TX8) (N := 4) hx hb hts (by decide +kernel) tyX8 tyX8_ok nmX8 hown hK hP hD hS 0 rfl rfl 3 (by decide) (hts (.fieldLink RX8 15 "StaggerRadar$Text" "faultPlace" "I") (by decide +kernel)) (fun _ h9 => h9) rfl (by decide +kernel) rfl rfl (Nat.le_of_ble_eq_true rfl) dX8_init_15 (fun H locs hP hD hS => ?_)
  have hP : va_P D vwCl [(h0, .inr (7, [.ref q1, .int 0, .int 0, .int (-1)])), (q1, .inl (K 0, 400, .inl (fun _ => 0)))] H := hP
  have hD : va_D A [(h0, .inr (7, [.ref q1, .int 0, .int 0, .int (-1)])), (q1, .inl (K 0, 400, .inl (fun _ => 0)))] := hD
  refine HR (fun k => match k with | 0 => h0 | 1 => q1 | _ => 0) 18 H locs ls dX8_init_18 rfl (hP.sub [0, 1] rfl) (hD.sub [0, 1] (by decide) rfl) hS

abbrev r0_X9 : RT_X9 := (0, (fun _ => 0), (fun _ => 0))
abbrev rmX9_init : Room := { frames := 1, cells := 2, slots := 52, locals := 12 }
set_option maxHeartbeats 8000000 in
set_option maxRecDepth 100000 in
theorem c_X9_init (l : Launch) (D : va_G) (K : Nat → ClassId) (h0 : Nat) : Mc_ (S := Nat → Nat) l yX9_init wsX9_init rmX9_init D K [.ref h0] [(h0, .inr (8, [.null, .null, .int 0]))] (fun u => u 0 = h0) (fun u => rc_X9 K u r0_X9) 2 52 := by
  refine en_c (cc := cX9_init) (maxL := 1) (own := RX9) (by decide) rfl rfl rfl (Nat.le_of_ble_eq_true rfl) ?_
  intro p e s m args below meth c A Q H locs ls C0 hin hP hD hS hl HR
  obtain ⟨⟨hx, hb, hml, hown, hts⟩, hK, hA, hT⟩ := id C0
  obtain ⟨-, ⟨aA, zA, tA⟩, -⟩ := id hT
  have hl : lv_has ls 1 [(0, .ref h0)] := hl
  refine lv_aload_n hx hb dX9_init_0 rfl (lv_at hl 0 rfl) ?_
  refine W.objInit hx hb hown (hts (.methodLink RX9 3 objectInit) (by decide +kernel)) (hts (.instanceMethod objectInit) (by decide +kernel)) (hts (.code objectInit ⟨#[0xb1]⟩ 1 none) (by decide +kernel)) rfl (by rw [hml]; exact hl.1) rfl dX9_init_1 (Nat.le_of_ble_eq_true rfl) (Nat.le_of_ble_eq_true rfl) ?_
  refine W.eq (g2 := F0 m 4 ls []) rfl ?_
  refine lv_aload_n hx hb dX9_init_4 rfl (lv_at hl 0 rfl) ?_
  refine lv_bipush (v := 48) hx hb dX9_init_5 (by decide) ?_
  refine xn_a (atype := .int) (ty := .int) (a0 := (48, .inl (fun _ => 0))) (N' := 48) hx hb (hts (.arrayClass .int) (by decide +kernel)) rfl (fun _ h => by cases h) hK hP hD hS hA 0 rfl (fun _ => rfl) (by decide) (by decide) (Nat.le_of_ble_eq_true rfl) (Nat.le_of_ble_eq_true rfl) (Nat.le_of_ble_eq_true rfl) dX9_init_7 (fun q1 H hP hD hS => ?_)
  refine W.widen (k := 1) (n := 48) (Nat.le_of_ble_eq_true rfl) (Nat.le_of_ble_eq_true rfl) ?_
  have hP : va_P D vwCl [(h0, .inr (8, [.null, .null, .int 0])), (q1, .inl (K 0, 48, .inl (fun _ => 0)))] H := hP
  have hD : va_D A [(h0, .inr (8, [.null, .null, .int 0])), (q1, .inl (K 0, 48, .inl (fun _ => 0)))] := hD
  refine va_putF (D := D) (ci := 8) (v := .ref q1) (ty := .array .int) (C := RX9) (T := TX9) (N := 3) hx hb hts (by decide +kernel) tyX9 tyX9_ok nmX9 hown hK hP hD hS 0 rfl rfl 0 (by decide) (hts (.fieldLink RX9 9 "StaggerRadar$Tracks" "lasts" "[I") (by decide +kernel)) (fun _ h9 => h9) rfl hin rfl (by decide +kernel) rfl rfl (Nat.le_of_ble_eq_true rfl) dX9_init_9 (fun H locs hP hD hS => ?_)
  have hP : va_P D vwCl [(h0, .inr (8, [.ref q1, .null, .int 0])), (q1, .inl (K 0, 48, .inl (fun _ => 0)))] H := hP
  have hD : va_D A [(h0, .inr (8, [.ref q1, .null, .int 0])), (q1, .inl (K 0, 48, .inl (fun _ => 0)))] := hD
  refine lv_aload_n hx hb dX9_init_12 rfl (lv_at hl 0 rfl) ?_
  refine lv_iconst (v := 4) hx hb dX9_init_13 (by decide) ?_
  refine xn_a (atype := .int) (ty := .int) (a0 := (4, .inl (fun _ => 0))) (N' := 4) hx hb (hts (.arrayClass .int) (by decide +kernel)) rfl (fun _ h => by cases h) hK hP hD hS hA 0 rfl (fun _ => rfl) (by decide) (by decide) (Nat.le_of_ble_eq_true rfl) (Nat.le_of_ble_eq_true rfl) (Nat.le_of_ble_eq_true rfl) dX9_init_14 (fun q2 H hP hD hS => ?_)
  refine W.widen (k := 2) (n := 52) (Nat.le_of_ble_eq_true rfl) (Nat.le_of_ble_eq_true rfl) ?_
  have hP : va_P D vwCl [(h0, .inr (8, [.ref q1, .null, .int 0])), (q1, .inl (K 0, 48, .inl (fun _ => 0))), (q2, .inl (K 0, 4, .inl (fun _ => 0)))] H := hP
  have hD : va_D A [(h0, .inr (8, [.ref q1, .null, .int 0])), (q1, .inl (K 0, 48, .inl (fun _ => 0))), (q2, .inl (K 0, 4, .inl (fun _ => 0)))] := hD
  refine va_putF (D := D) (ci := 8) (v := .ref q2) (ty := .array .int) (C := RX9) (T := TX9) (N := 3) hx hb hts (by decide +kernel) tyX9 tyX9_ok nmX9 hown hK hP hD hS 0 rfl rfl 1 (by decide) (hts (.fieldLink RX9 15 "StaggerRadar$Tracks" "path" "[I") (by decide +kernel)) (fun _ h9 => h9) rfl hin rfl (by decide +kernel) rfl rfl (Nat.le_of_ble_eq_true rfl) dX9_init_16 (fun H locs hP hD hS => ?_)
  have hP : va_P D vwCl [(h0, .inr (8, [.ref q1, .ref q2, .int 0])), (q1, .inl (K 0, 48, .inl (fun _ => 0))), (q2, .inl (K 0, 4, .inl (fun _ => 0)))] H := hP
  have hD : va_D A [(h0, .inr (8, [.ref q1, .ref q2, .int 0])), (q1, .inl (K 0, 48, .inl (fun _ => 0))), (q2, .inl (K 0, 4, .inl (fun _ => 0)))] := hD
  refine HR (fun k => match k with | 0 => h0 | 1 => q1 | 2 => q2 | _ => 0) 19 H locs ls dX9_init_19 rfl (hP.sub [0, 1, 2] rfl) (hD.sub [0, 1, 2] (by decide) rfl) hS

