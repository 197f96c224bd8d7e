/-! ===== BEGIN the constructors of the history and of the class ===== -/
section CTQ
variable {p : Program} {l : Launch} {e : Env} {R : Room} {s : State} {m : MethodId} {args : Array Value} {below : List Frame} {meth : Method} {c : Code} {H : Heap} {locs : List Loc} {cells slots : Nat} {Q : State → Prop}
variable {cc : ByteArray} {pc : Nat} {ls : Array Slot} {rest st0 : List Value} {a : Array Value} {D : va_G} {K : Nat → ClassId} {A : Nat → Prop} {ws0 wc wr : va_W}
theorem xk_p {S : Type} {post : S → Prop} {B : S → va_W} {mc ms : Nat} (hp : ws0.Perm (wc ++ wr)) (hP : va_P D vwCl ws0 H) (hD : va_D A ws0) (hS : va_S A s.heap H locs) (hA : ∀ q : Nat, s.heap.size ≤ q → A q)
    (hr : va_Run p l e R s m args below meth c H locs cells slots mc ms (F0 m pc ls st0) rest (va_Qv post (fun u t => va_P D vwCl (B u) t.heap ∧ va_K D vwCl (ty_ K) t ∧ va_D (va_A wc H.size) (B u)) (va_A wc H.size) a) (va_A wc H.size))
    (kk : ∀ (u : S) (H : Heap) (locs : List Loc), post u → va_P D vwCl (wr ++ B u) H → va_D A (wr ++ B u) → va_S A s.heap H locs → W p l e R s m args below meth c H locs (cells + mc) (slots + ms) Q (F0 m (pc + 3) ls rest)) : W p l e R s m args below meth c H locs cells slots Q (F0 m pc ls st0) := by
  have hFc := gf_ hp hD hS hA
  refine va_callv hr hS (fun q _ h => hFc q h) hFc (fun u t H1 locs1 ht hvm hw hB hz1 hk1 hS1 => ?_)
  obtain ⟨hP1, hK1, hD1⟩ := hB
  rw [ht] at hP1
  obtain ⟨hP2, hD2⟩ := gj_ hp hP hD hk1 hFc hP1 hD1
  exact kk u H1 locs1 hw hP2 hD2 hS1
theorem yq_S {As : List Value} (hX : va_K D vwCl (ty_ K) s ∧ (∀ q : Nat, s.heap.size ≤ q → A q) ∧ ST_ K A s s.heap) (hP : va_P D vwCl ws0 H) (hD : va_D A ws0) (hS : va_S A s.heap H locs) (hpp : ws0.Perm (wc ++ wr)) :
    PreS s H (va_Pc As (Bp_ D K wc H.size)) As := by
  have hPc : va_P D vwCl wc H := pm_P.mpr (fun q hq => pm_P.mp (pr_P hpp hP) q (List.mem_append_left _ hq))
  have hDc : va_D A wc := by
    have h := pm_D.mp (pr_D hpp hD)
    rw [List.map_append, List.nodup_append] at h
    exact pm_D.mpr ⟨h.1.1, fun q hq => h.2 q (List.mem_append_left _ hq)⟩
  obtain ⟨hK, hA, hT⟩ := hX
  have hFc := gf_ hpp hD hS hA
  refine ⟨fun a U g mk h => ?_, fun U hU hW => ⟨rfl, by rw [hU], by rw [hU]; exact hPc, va_K.moved hW.alike hK, hDc.weaken (fun _ _ _ _ => trivial), hT.go hW hU hS hFc⟩⟩
  obtain ⟨h0, h1, h2, h3, h4, h5⟩ := h
  exact ⟨h0, h1, h2, va_K.moved (u := U) (U := U.calling g mk a) (Vm.Alike.refl U.vm) h3, h4, ST_.same (u := U) rfl rfl h5⟩
def BpO (D : va_G) (K : Nat → ClassId) (wc : va_W) (sz : Nat) : State → Prop := fun U => Bp_ D K wc sz U ∧ va_AO "StaggerRadar$Radar" U ∧ va_AO "StaggerRadar$Text" U
theorem yq_O {As : List Value} (hO : va_AO "StaggerRadar$Radar" s ∧ va_AO "StaggerRadar$Text" s) (hX : va_K D vwCl (ty_ K) s ∧ (∀ q : Nat, s.heap.size ≤ q → A q) ∧ ST_ K A s s.heap) (hP : va_P D vwCl ws0 H) (hD : va_D A ws0) (hS : va_S A s.heap H locs) (hpp : ws0.Perm (wc ++ wr)) :
    PreS s H (va_Pc As (BpO D K wc H.size)) As := by
  have h := yq_S (As := As) hX hP hD hS hpp
  refine ⟨fun a U g mk q => ?_, fun U hU hW => ⟨rfl, (h.2 U hU hW).2, va_AO.moved hW.alike hO.1, va_AO.moved hW.alike hO.2⟩⟩
  obtain ⟨q0, q1, q2, q3⟩ := q
  exact ⟨q0, (h.1 a U g mk ⟨q0, q1⟩).2, va_AO.moved (u := U) (U := U.calling g mk a) (Vm.Alike.refl U.vm) q2, va_AO.moved (u := U) (U := U.calling g mk a) (Vm.Alike.refl U.vm) q3⟩
theorem mt_p {f t b : va_W} : ((f ++ t) ++ b).Perm (f ++ (b ++ t)) := by
  rw [List.append_assoc]
  exact List.Perm.append_left f List.perm_append_comm
end CTQ
def Mo_ {S : Type} (l : Launch) (y : MethodName) (ws : List Cond) (rm : Room) (D : va_G) (K : Nat → ClassId) (avs : List Value) (wc : va_W) (post : S → Prop) (B : S → va_W) (mc ms : Nat) : Prop :=
  ∀ sz : Nat, Met l y ws rm (va_Pc avs (BpO D K wc sz)) (va_Qv post (fun u t => va_P D vwCl (B u) t.heap ∧ va_K D vwCl (ty_ K) t ∧ va_D (va_A wc sz) (B u)) (va_A wc sz)) mc ms (va_A wc sz)
section ENO
variable {l : Launch} {y : MethodName} {ws ws' : List Cond} {rm : Room} {D : va_G} {K : Nat → ClassId} {avs : List Value} {wc : va_W} {cc : ByteArray} {maxL mc ms : Nat}
theorem en_o {S : Type} {post : S → Prop} {B : S → va_W} {own : String} (hy : plainName y.cls = true) (hw : ws = Cond.code y cc maxL none :: ws') (ho : y.cls = own) (hi : y.name = "<init>") (hz : (lg_sl avs).length ≤ maxL)
    (body : ∀ (p : Program) (e : Env) (s : State) (m : MethodId) (args : Array Value) (below : List Frame) (meth : Method) (c : Code) (A : Nat → Prop) (Q : State → Prop) (H : Heap) (locs : List Loc) (ls : Array Slot),
      cx_ p s m args c cc maxL own ws D K A → meth.name = "<init>" → (va_AO "StaggerRadar$Radar" s ∧ va_AO "StaggerRadar$Text" s) → va_P D vwCl wc H → va_D A wc → va_S A s.heap H locs → lv_has ls maxL (lv_args 0 avs) →
      (∀ (u : S) (pc : Nat) (H : Heap) (locs : List Loc) (ls : Array Slot), decode cc pc = .ok (.return_, 1) → post u → va_P D vwCl (B u) H → va_D A (B u) → va_S A s.heap H locs → W p l e rm s m args below meth c H locs mc ms Q (F0 m pc ls [])) →
      W p l e rm s m args below meth c H locs 0 0 Q (F0 m 0 ls [])) : Mo_ l y ws rm D K avs wc post B mc ms := by
  intro sz
  refine Met.ofW (cc := cc) (maxL := maxL) (ret := none) hy hw ?_
  intro p e s m args below meth c s₁ B1 hml hv
  obtain ⟨rfl, ⟨hsz, hP, hK, hD0, hT⟩, hO⟩ := hv
  have hx := B1.exec
  have hb := B1.bytes
  have hr := B1.returns
  have hts := atoms_spec (ws := ws) B1.pre
  have hown : s.vm.findClass own = some m.cls := ho ▸ findClass_of_methodNamed B1.named
  have hlocks := B1.notSynchronized
  have hin : meth.name = "<init>" := (name_of_methodNamed B1.named B1.method).1.trans hi
  subst hsz
  have hD := hD0.self (sz := s.heap.size)
  have hA : ∀ q : Nat, s.heap.size ≤ q → va_A wc s.heap.size q := fun q h => Or.inr h
  have hl := lv_entry avs (n := maxL) hz
  rw [lg_entry_eq]
  refine body p e s m avs.toArray below meth c (va_A wc s.heap.size) _ s.heap [] _ ⟨⟨hx, hb, hml, hown, hts⟩, hK, hA, hT⟩ hin hO hP hD va_S.rf hl ?_
  intro u pc H locs ls hd hpo hP1 hD1 hS1
  exact W.vret hx hb hr (fun t ht hW => ⟨⟨u, rfl, hpo, by rw [ht]; exact hP1, va_K.moved hW.alike hK, hD1⟩, hS1.F ht⟩) hS1.2.2 hd
end ENO
abbrev rmX4_init : Room := { frames := 2, cells := 73, slots := 848, locals := 80 }
set_option maxHeartbeats 8000000 in
set_option maxRecDepth 100000 in
theorem c_X4_init (l : Launch) (D : va_G) (K : Nat → ClassId) (h0 : Nat) : Mo_ (S := (Nat → Nat) × (Nat → Nat → Nat)) l yX4_init wsX4_init rmX4_init D K [.ref h0] [(h0, .inr (4, [.null, .int 0, .int 0]))] (fun u => u.1 0 = h0) (fun u => ([(u.1 0, .inr (4, [.ref (u.1 1), .int 0, .int 0])), (u.1 1, .inl (K 4, 8, .inr (.inr (.inr (.inr (fun i_ => some (u.2 i_ 0)))))))] ++ gr_ 8 (fun i_ => rc_X5 K (u.2 i_) r0_X5))) 73 848 := by
  refine en_o (cc := cX4_init) (maxL := 2) (own := RX4) (by decide) rfl rfl rfl (Nat.le_of_ble_eq_true rfl) ?_
  intro p e s m args below meth c A Q H locs ls C0 hin hO hP hD hS hl HR
  obtain ⟨⟨hx, hb, hml, hown, hts⟩, hK, hA, hT⟩ := id C0
  obtain ⟨-, ⟨aA, zA, tA⟩, -⟩ := id hT
  have hl : lv_has ls 2 [(0, .ref h0)] := hl
  have hP : va_P D vwCl ([(h0, .inr (4, [.null, .int 0, .int 0]))] ++ []) H := hP
  have hD : va_D A ([(h0, .inr (4, [.null, .int 0, .int 0]))] ++ []) := hD
  refine lv_aload_n hx hb dX4_init_0 rfl (lv_at hl 0 rfl) ?_
  refine W.objInit hx hb hown (hts (.methodLink RX4 3 objectInit) (by decide +kernel)) (hts (.instanceMethod objectInit) (by decide +kernel)) (hts (.code objectInit ⟨#[0xb1]⟩ 1 none) (by decide +kernel)) rfl (by rw [hml]; exact hl.1) rfl dX4_init_1 (Nat.le_of_ble_eq_true rfl) (Nat.le_of_ble_eq_true rfl) ?_
  refine W.eq (g2 := F0 m 4 ls []) rfl ?_
  refine lv_aload_n hx hb dX4_init_4 rfl (lv_at hl 0 rfl) ?_
  refine lv_bipush (v := 8) hx hb dX4_init_5 (by decide) ?_
  refine xn_q (N' := 8) (C := "StaggerRadar$Radar") hx hb hown (hts (.classLink RX4 9 "StaggerRadar$Radar") (by decide +kernel)) hO.1 hK hP hD hS hA 4 rfl (by decide) (by decide) (Nat.le_of_ble_eq_true rfl) (Nat.le_of_ble_eq_true rfl) (Nat.le_of_ble_eq_true rfl) dX4_init_7 (fun q1 H hP hD hS => ?_)
  refine W.widen (k := 1) (n := 8) (Nat.le_of_ble_eq_true rfl) (Nat.le_of_ble_eq_true rfl) ?_
  have hP := pr_P List.perm_append_comm hP
  have hD := pr_D List.perm_append_comm hD
  have hP : va_P D vwCl ([(q1, .inl (K 4, 8, .inr (.inr (.inr (.inr (fun _ => none)))))), (h0, .inr (4, [.null, .int 0, .int 0]))] ++ []) H := hP
  have hD : va_D A ([(q1, .inl (K 4, 8, .inr (.inr (.inr (.inr (fun _ => none)))))), (h0, .inr (4, [.null, .int 0, .int 0]))] ++ []) := hD
  refine va_putF (D := D) (ci := 4) (v := .ref q1) (ty := .array (.object "StaggerRadar$Radar")) (C := RX4) (T := TX4) (N := 3) hx hb hts (by decide +kernel) tyX4 tyX4_ok nmX4 hown hK hP hD hS 1 rfl rfl 0 (by decide) (hts (.fieldLink RX4 11 "StaggerRadar$History" "ring" "[LStaggerRadar$Radar;") (by decide +kernel)) (fun _ h9 => h9) rfl hin rfl (by decide +kernel) rfl rfl (Nat.le_of_ble_eq_true rfl) dX4_init_10 (fun H locs hP hD hS => ?_)
  have hP : va_P D vwCl ([(q1, .inl (K 4, 8, .inr (.inr (.inr (.inr (fun _ => none)))))), (h0, .inr (4, [.ref q1, .int 0, .int 0]))] ++ []) H := hP
  have hD : va_D A ([(q1, .inl (K 4, 8, .inr (.inr (.inr (.inr (fun _ => none)))))), (h0, .inr (4, [.ref q1, .int 0, .int 0]))] ++ []) := hD
  refine lv_iconst (v := 0) hx hb dX4_init_13 (by decide) ?_
  refine lv_istore_n (lv' := [(1, .int 0), (0, .ref h0)]) hx hb dX4_init_14 rfl hl (by decide) rfl (fun ls hl => ?_)
  refine lv_iload_n hx hb dX4_init_15 rfl (lv_at hl 0 rfl) ?_
  refine lv_bipush (v := 8) hx hb dX4_init_16 (by decide) ?_
  refine lv_icmp_ge (tgt := 40) hx hb dX4_init_18 (by decide) (fun c_1 => absurd c_1 (by decide)) (fun c_1 => ?_)
  refine lv_aload_n hx hb dX4_init_21 rfl (lv_at hl 1 rfl) ?_
  refine va_get (D := D) (ci := 4) (v := .ref q1) (C := RX4) (T := TX4) (N := 3) hx hb hts (by decide +kernel) hown hK hP 1 rfl rfl 0 (by decide) (hts (.fieldLink RX4 11 "StaggerRadar$History" "ring" "[LStaggerRadar$Radar;") (by decide +kernel)) (fun _ h9 => h9) rfl dX4_init_22 ?_
  refine lv_iload_n hx hb dX4_init_25 rfl (lv_at hl 0 rfl) ?_
  refine va_new (ci := 5) (fs := [.null, .null, .null, .null, .null, .null, .null, .null, .int 0, .int 0, .int 0, .int 0, .int 0]) (C := RX5) (T := TX5) (N := 13) hx hb hts (by decide +kernel) tyX5 tyX5_ok hown (hts (.classLink RX4 9 RX5) (by decide +kernel)) (hts (.instantiable RX5 13) (by decide +kernel)) (hts (.initialized RX5) (by decide +kernel)) hK hP hD hS hA rfl (fun j hj => by rcases (show j = 0 ∨ j = 1 ∨ j = 2 ∨ j = 3 ∨ j = 4 ∨ j = 5 ∨ j = 6 ∨ j = 7 ∨ j = 8 ∨ j = 9 ∨ j = 10 ∨ j = 11 ∨ j = 12 by omega) with rfl | rfl | rfl | rfl | rfl | rfl | rfl | rfl | rfl | rfl | rfl | rfl | rfl <;> rfl) (Nat.le_of_ble_eq_true rfl) (Nat.le_of_ble_eq_true rfl) dX4_init_26 (fun q2 H hP hD hS => ?_)
  refine W.widen (k := 2) (n := 21) (Nat.le_of_ble_eq_true rfl) (Nat.le_of_ble_eq_true rfl) ?_
  refine lv_dup hx hb dX4_init_29 rfl ?_
  refine xk_p List.perm_append_comm hP hD hS hA (va_runI (As := []) (rest := [.ref q2, .int 0, .ref q1]) C0.1 (c_X5_init l D K q2 H.size) (cwI 0 hts gX4_init_X5_init rfl rfl rfl (hts (.initialized RX5) (by decide +kernel)) (hts (.methodLink RX4 17 yX5_init) (by decide +kernel)) (hts (.instanceMethod yX5_init) (by decide +kernel)) rfl (by decide +kernel) ⟨Nat.le_of_ble_eq_true rfl, Nat.le_of_ble_eq_true rfl⟩) (yq_S C0.2 hP hD hS List.perm_append_comm) rfl rfl hl.1 rfl (lv_room (Nat.le_of_ble_eq_true rfl)) dX4_init_30 ⟨Nat.le_of_ble_eq_true rfl, Nat.le_of_ble_eq_true rfl⟩) (fun u3 H locs hw hPn hDn hS => ?_)
  have hw : (u3 0) = q2 := hw
  subst hw
  have hP := pr_P mt_p hPn
  have hD := pr_D mt_p hDn
  refine W.widen (k := 10) (n := 113) (Nat.le_of_ble_eq_true rfl) (Nat.le_of_ble_eq_true rfl) ?_
  have hP : va_P D vwCl ([(q1, .inl (K 4, 8, .inr (.inr (.inr (.inr (fun _ => none)))))), (h0, .inr (4, [.ref q1, .int 0, .int 0]))] ++ (rc_X5 K u3 r0_X5 ++ [])) H := hP
  have hD : va_D A ([(q1, .inl (K 4, 8, .inr (.inr (.inr (.inr (fun _ => none)))))), (h0, .inr (4, [.ref q1, .int 0, .int 0]))] ++ (rc_X5 K u3 r0_X5 ++ [])) := hD
  refine va_astq (f := (fun _ => none)) hx hb hK hP hD hS 0 4 2 5 rfl rfl rfl rfl (in_v (by decide)) dX4_init_33 (fun H locs hP hD hS => ?_)
  have hP : va_P D vwCl ([(q1, .inl (K 4, 8, .inr (.inr (.inr (.inr (va_up (fun _ => none) 0 (some (u3 0)))))))), (h0, .inr (4, [.ref q1, .int 0, .int 0]))] ++ (rc_X5 K u3 r0_X5 ++ [])) H := hP
  have hD : va_D A ([(q1, .inl (K 4, 8, .inr (.inr (.inr (.inr (va_up (fun _ => none) 0 (some (u3 0)))))))), (h0, .inr (4, [.ref q1, .int 0, .int 0]))] ++ (rc_X5 K u3 r0_X5 ++ [])) := hD
  refine lv_iinc (v := 1) (lv' := [(1, .int 1), (0, .ref h0)]) hx hb dX4_init_34 hl (k := 0) rfl (by decide) (by decide) rfl (fun ls hl => ?_)
  refine lv_goto (tgt := 15) hx hb dX4_init_37 (by decide) ?_
  refine lv_iload_n hx hb dX4_init_15 rfl (lv_at hl 0 rfl) ?_
  refine lv_bipush (v := 8) hx hb dX4_init_16 (by decide) ?_
  refine lv_icmp_ge (tgt := 40) hx hb dX4_init_18 (by decide) (fun c_1 => absurd c_1 (by decide)) (fun c_1 => ?_)
  refine lv_aload_n hx hb dX4_init_21 rfl (lv_at hl 1 rfl) ?_
  refine va_get (D := D) (ci := 4) (v := .ref q1) (C := RX4) (T := TX4) (N := 3) hx hb hts (by decide +kernel) hown hK hP 1 rfl rfl 0 (by decide) (hts (.fieldLink RX4 11 "StaggerRadar$History" "ring" "[LStaggerRadar$Radar;") (by decide +kernel)) (fun _ h9 => h9) rfl dX4_init_22 ?_
  refine lv_iload_n hx hb dX4_init_25 rfl (lv_at hl 0 rfl) ?_
  refine va_new (ci := 5) (fs := [.null, .null, .null, .null, .null, .null, .null, .null, .int 0, .int 0, .int 0, .int 0, .int 0]) (C := RX5) (T := TX5) (N := 13) hx hb hts (by decide +kernel) tyX5 tyX5_ok hown (hts (.classLink RX4 9 RX5) (by decide +kernel)) (hts (.instantiable RX5 13) (by decide +kernel)) (hts (.initialized RX5) (by decide +kernel)) hK hP hD hS hA rfl (fun j hj => by rcases (show j = 0 ∨ j = 1 ∨ j = 2 ∨ j = 3 ∨ j = 4 ∨ j = 5 ∨ j = 6 ∨ j = 7 ∨ j = 8 ∨ j = 9 ∨ j = 10 ∨ j = 11 ∨ j = 12 by omega) with rfl | rfl | rfl | rfl | rfl | rfl | rfl | rfl | rfl | rfl | rfl | rfl | rfl <;> rfl) (Nat.le_of_ble_eq_true rfl) (Nat.le_of_ble_eq_true rfl) dX4_init_26 (fun q4 H hP hD hS => ?_)
  refine W.widen (k := 11) (n := 126) (Nat.le_of_ble_eq_true rfl) (Nat.le_of_ble_eq_true rfl) ?_
  refine lv_dup hx hb dX4_init_29 rfl ?_
  refine xk_p List.perm_append_comm hP hD hS hA (va_runI (As := []) (rest := [.ref q4, .int 1, .ref q1]) C0.1 (c_X5_init l D K q4 H.size) (cwI 0 hts gX4_init_X5_init rfl rfl rfl (hts (.initialized RX5) (by decide +kernel)) (hts (.methodLink RX4 17 yX5_init) (by decide +kernel)) (hts (.instanceMethod yX5_init) (by decide +kernel)) rfl (by decide +kernel) ⟨Nat.le_of_ble_eq_true rfl, Nat.le_of_ble_eq_true rfl⟩) (yq_S C0.2 hP hD hS List.perm_append_comm) rfl rfl hl.1 rfl (lv_room (Nat.le_of_ble_eq_true rfl)) dX4_init_30 ⟨Nat.le_of_ble_eq_true rfl, Nat.le_of_ble_eq_true rfl⟩) (fun u5 H locs hw hPn hDn hS => ?_)
  have hw : (u5 0) = q4 := hw
  subst hw
  have hP := pr_P mt_p hPn
  have hD := pr_D mt_p hDn
  refine W.widen (k := 19) (n := 218) (Nat.le_of_ble_eq_true rfl) (Nat.le_of_ble_eq_true rfl) ?_
  have hP : va_P D vwCl ([(q1, .inl (K 4, 8, .inr (.inr (.inr (.inr (va_up (fun _ => none) 0 (some (u3 0)))))))), (h0, .inr (4, [.ref q1, .int 0, .int 0]))] ++ (rc_X5 K u5 r0_X5 ++ (rc_X5 K u3 r0_X5 ++ []))) H := hP
  have hD : va_D A ([(q1, .inl (K 4, 8, .inr (.inr (.inr (.inr (va_up (fun _ => none) 0 (some (u3 0)))))))), (h0, .inr (4, [.ref q1, .int 0, .int 0]))] ++ (rc_X5 K u5 r0_X5 ++ (rc_X5 K u3 r0_X5 ++ []))) := hD
  refine va_astq (f := (va_up (fun _ => none) 0 (some (u3 0)))) hx hb hK hP hD hS 0 4 2 5 rfl rfl rfl rfl (in_v (by decide)) dX4_init_33 (fun H locs hP hD hS => ?_)
  have hP : va_P D vwCl ([(q1, .inl (K 4, 8, .inr (.inr (.inr (.inr (va_up (va_up (fun _ => none) 0 (some (u3 0))) 1 (some (u5 0)))))))), (h0, .inr (4, [.ref q1, .int 0, .int 0]))] ++ (rc_X5 K u5 r0_X5 ++ (rc_X5 K u3 r0_X5 ++ []))) H := hP
  have hD : va_D A ([(q1, .inl (K 4, 8, .inr (.inr (.inr (.inr (va_up (va_up (fun _ => none) 0 (some (u3 0))) 1 (some (u5 0)))))))), (h0, .inr (4, [.ref q1, .int 0, .int 0]))] ++ (rc_X5 K u5 r0_X5 ++ (rc_X5 K u3 r0_X5 ++ []))) := hD
  refine lv_iinc (v := 2) (lv' := [(1, .int 2), (0, .ref h0)]) hx hb dX4_init_34 hl (k := 0) rfl (by decide) (by decide) rfl (fun ls hl => ?_)
  refine lv_goto (tgt := 15) hx hb dX4_init_37 (by decide) ?_
  refine lv_iload_n hx hb dX4_init_15 rfl (lv_at hl 0 rfl) ?_
  refine lv_bipush (v := 8) hx hb dX4_init_16 (by decide) ?_
  refine lv_icmp_ge (tgt := 40) hx hb dX4_init_18 (by decide) (fun c_1 => absurd c_1 (by decide)) (fun c_1 => ?_)
  refine lv_aload_n hx hb dX4_init_21 rfl (lv_at hl 1 rfl) ?_
  refine va_get (D := D) (ci := 4) (v := .ref q1) (C := RX4) (T := TX4) (N := 3) hx hb hts (by decide +kernel) hown hK hP 1 rfl rfl 0 (by decide) (hts (.fieldLink RX4 11 "StaggerRadar$History" "ring" "[LStaggerRadar$Radar;") (by decide +kernel)) (fun _ h9 => h9) rfl dX4_init_22 ?_
  refine lv_iload_n hx hb dX4_init_25 rfl (lv_at hl 0 rfl) ?_
  refine va_new (ci := 5) (fs := [.null, .null, .null, .null, .null, .null, .null, .null, .int 0, .int 0, .int 0, .int 0, .int 0]) (C := RX5) (T := TX5) (N := 13) hx hb hts (by decide +kernel) tyX5 tyX5_ok hown (hts (.classLink RX4 9 RX5) (by decide +kernel)) (hts (.instantiable RX5 13) (by decide +kernel)) (hts (.initialized RX5) (by decide +kernel)) hK hP hD hS hA rfl (fun j hj => by rcases (show j = 0 ∨ j = 1 ∨ j = 2 ∨ j = 3 ∨ j = 4 ∨ j = 5 ∨ j = 6 ∨ j = 7 ∨ j = 8 ∨ j = 9 ∨ j = 10 ∨ j = 11 ∨ j = 12 by omega) with rfl | rfl | rfl | rfl | rfl | rfl | rfl | rfl | rfl | rfl | rfl | rfl | rfl <;> rfl) (Nat.le_of_ble_eq_true rfl) (Nat.le_of_ble_eq_true rfl) dX4_init_26 (fun q6 H hP hD hS => ?_)
  refine W.widen (k := 20) (n := 231) (Nat.le_of_ble_eq_true rfl) (Nat.le_of_ble_eq_true rfl) ?_
  refine lv_dup hx hb dX4_init_29 rfl ?_
  refine xk_p List.perm_append_comm hP hD hS hA (va_runI (As := []) (rest := [.ref q6, .int 2, .ref q1]) C0.1 (c_X5_init l D K q6 H.size) (cwI 0 hts gX4_init_X5_init rfl rfl rfl (hts (.initialized RX5) (by decide +kernel)) (hts (.methodLink RX4 17 yX5_init) (by decide +kernel)) (hts (.instanceMethod yX5_init) (by decide +kernel)) rfl (by decide +kernel) ⟨Nat.le_of_ble_eq_true rfl, Nat.le_of_ble_eq_true rfl⟩) (yq_S C0.2 hP hD hS List.perm_append_comm) rfl rfl hl.1 rfl (lv_room (Nat.le_of_ble_eq_true rfl)) dX4_init_30 ⟨Nat.le_of_ble_eq_true rfl, Nat.le_of_ble_eq_true rfl⟩) (fun u7 H locs hw hPn hDn hS => ?_)
  have hw : (u7 0) = q6 := hw
  subst hw
  have hP := pr_P mt_p hPn
  have hD := pr_D mt_p hDn
  refine W.widen (k := 28) (n := 323) (Nat.le_of_ble_eq_true rfl) (Nat.le_of_ble_eq_true rfl) ?_
  have hP : va_P D vwCl ([(q1, .inl (K 4, 8, .inr (.inr (.inr (.inr (va_up (va_up (fun _ => none) 0 (some (u3 0))) 1 (some (u5 0)))))))), (h0, .inr (4, [.ref q1, .int 0, .int 0]))] ++ (rc_X5 K u7 r0_X5 ++ (rc_X5 K u5 r0_X5 ++ (rc_X5 K u3 r0_X5 ++ [])))) H := hP
  have hD : va_D A ([(q1, .inl (K 4, 8, .inr (.inr (.inr (.inr (va_up (va_up (fun _ => none) 0 (some (u3 0))) 1 (some (u5 0)))))))), (h0, .inr (4, [.ref q1, .int 0, .int 0]))] ++ (rc_X5 K u7 r0_X5 ++ (rc_X5 K u5 r0_X5 ++ (rc_X5 K u3 r0_X5 ++ [])))) := hD
  refine va_astq (f := (va_up (va_up (fun _ => none) 0 (some (u3 0))) 1 (some (u5 0)))) hx hb hK hP hD hS 0 4 2 5 rfl rfl rfl rfl (in_v (by decide)) dX4_init_33 (fun H locs hP hD hS => ?_)
  have hP : va_P D vwCl ([(q1, .inl (K 4, 8, .inr (.inr (.inr (.inr (va_up (va_up (va_up (fun _ => none) 0 (some (u3 0))) 1 (some (u5 0))) 2 (some (u7 0)))))))), (h0, .inr (4, [.ref q1, .int 0, .int 0]))] ++ (rc_X5 K u7 r0_X5 ++ (rc_X5 K u5 r0_X5 ++ (rc_X5 K u3 r0_X5 ++ [])))) H := hP
  have hD : va_D A ([(q1, .inl (K 4, 8, .inr (.inr (.inr (.inr (va_up (va_up (va_up (fun _ => none) 0 (some (u3 0))) 1 (some (u5 0))) 2 (some (u7 0)))))))), (h0, .inr (4, [.ref q1, .int 0, .int 0]))] ++ (rc_X5 K u7 r0_X5 ++ (rc_X5 K u5 r0_X5 ++ (rc_X5 K u3 r0_X5 ++ [])))) := hD
  refine lv_iinc (v := 3) (lv' := [(1, .int 3), (0, .ref h0)]) hx hb dX4_init_34 hl (k := 0) rfl (by decide) (by decide) rfl (fun ls hl => ?_)
  refine lv_goto (tgt := 15) hx hb dX4_init_37 (by decide) ?_
  refine lv_iload_n hx hb dX4_init_15 rfl (lv_at hl 0 rfl) ?_
  refine lv_bipush (v := 8) hx hb dX4_init_16 (by decide) ?_
  refine lv_icmp_ge (tgt := 40) hx hb dX4_init_18 (by decide) (fun c_1 => absurd c_1 (by decide)) (fun c_1 => ?_)
  refine lv_aload_n hx hb dX4_init_21 rfl (lv_at hl 1 rfl) ?_
  refine va_get (D := D) (ci := 4) (v := .ref q1) (C := RX4) (T := TX4) (N := 3) hx hb hts (by decide +kernel) hown hK hP 1 rfl rfl 0 (by decide) (hts (.fieldLink RX4 11 "StaggerRadar$History" "ring" "[LStaggerRadar$Radar;") (by decide +kernel)) (fun _ h9 => h9) rfl dX4_init_22 ?_
  refine lv_iload_n hx hb dX4_init_25 rfl (lv_at hl 0 rfl) ?_
  refine va_new (ci := 5) (fs := [.null, .null, .null, .null, .null, .null, .null, .null, .int 0, .int 0, .int 0, .int 0, .int 0]) (C := RX5) (T := TX5) (N := 13) hx hb hts (by decide +kernel) tyX5 tyX5_ok hown (hts (.classLink RX4 9 RX5) (by decide +kernel)) (hts (.instantiable RX5 13) (by decide +kernel)) (hts (.initialized RX5) (by decide +kernel)) hK hP hD hS hA rfl (fun j hj => by rcases (show j = 0 ∨ j = 1 ∨ j = 2 ∨ j = 3 ∨ j = 4 ∨ j = 5 ∨ j = 6 ∨ j = 7 ∨ j = 8 ∨ j = 9 ∨ j = 10 ∨ j = 11 ∨ j = 12 by omega) with rfl | rfl | rfl | rfl | rfl | rfl | rfl | rfl | rfl | rfl | rfl | rfl | rfl <;> rfl) (Nat.le_of_ble_eq_true rfl) (Nat.le_of_ble_eq_true rfl) dX4_init_26 (fun q8 H hP hD hS => ?_)
  refine W.widen (k := 29) (n := 336) (Nat.le_of_ble_eq_true rfl) (Nat.le_of_ble_eq_true rfl) ?_
  refine lv_dup hx hb dX4_init_29 rfl ?_
  refine xk_p List.perm_append_comm hP hD hS hA (va_runI (As := []) (rest := [.ref q8, .int 3, .ref q1]) C0.1 (c_X5_init l D K q8 H.size) (cwI 0 hts gX4_init_X5_init rfl rfl rfl (hts (.initialized RX5) (by decide +kernel)) (hts (.methodLink RX4 17 yX5_init) (by decide +kernel)) (hts (.instanceMethod yX5_init) (by decide +kernel)) rfl (by decide +kernel) ⟨Nat.le_of_ble_eq_true rfl, Nat.le_of_ble_eq_true rfl⟩) (yq_S C0.2 hP hD hS List.perm_append_comm) rfl rfl hl.1 rfl (lv_room (Nat.le_of_ble_eq_true rfl)) dX4_init_30 ⟨Nat.le_of_ble_eq_true rfl, Nat.le_of_ble_eq_true rfl⟩) (fun u9 H locs hw hPn hDn hS => ?_)
  have hw : (u9 0) = q8 := hw
  subst hw
  have hP := pr_P mt_p hPn
  have hD := pr_D mt_p hDn
  refine W.widen (k := 37) (n := 428) (Nat.le_of_ble_eq_true rfl) (Nat.le_of_ble_eq_true rfl) ?_
  have hP : va_P D vwCl ([(q1, .inl (K 4, 8, .inr (.inr (.inr (.inr (va_up (va_up (va_up (fun _ => none) 0 (some (u3 0))) 1 (some (u5 0))) 2 (some (u7 0)))))))), (h0, .inr (4, [.ref q1, .int 0, .int 0]))] ++ (rc_X5 K u9 r0_X5 ++ (rc_X5 K u7 r0_X5 ++ (rc_X5 K u5 r0_X5 ++ (rc_X5 K u3 r0_X5 ++ []))))) H := hP
  have hD : va_D A ([(q1, .inl (K 4, 8, .inr (.inr (.inr (.inr (va_up (va_up (va_up (fun _ => none) 0 (some (u3 0))) 1 (some (u5 0))) 2 (some (u7 0)))))))), (h0, .inr (4, [.ref q1, .int 0, .int 0]))] ++ (rc_X5 K u9 r0_X5 ++ (rc_X5 K u7 r0_X5 ++ (rc_X5 K u5 r0_X5 ++ (rc_X5 K u3 r0_X5 ++ []))))) := hD
  refine va_astq (f := (va_up (va_up (va_up (fun _ => none) 0 (some (u3 0))) 1 (some (u5 0))) 2 (some (u7 0)))) hx hb hK hP hD hS 0 4 2 5 rfl rfl rfl rfl (in_v (by decide)) dX4_init_33 (fun H locs hP hD hS => ?_)
  have hP : va_P D vwCl ([(q1, .inl (K 4, 8, .inr (.inr (.inr (.inr (va_up (va_up (va_up (va_up (fun _ => none) 0 (some (u3 0))) 1 (some (u5 0))) 2 (some (u7 0))) 3 (some (u9 0)))))))), (h0, .inr (4, [.ref q1, .int 0, .int 0]))] ++ (rc_X5 K u9 r0_X5 ++ (rc_X5 K u7 r0_X5 ++ (rc_X5 K u5 r0_X5 ++ (rc_X5 K u3 r0_X5 ++ []))))) H := hP
  have hD : va_D A ([(q1, .inl (K 4, 8, .inr (.inr (.inr (.inr (va_up (va_up (va_up (va_up (fun _ => none) 0 (some (u3 0))) 1 (some (u5 0))) 2 (some (u7 0))) 3 (some (u9 0)))))))), (h0, .inr (4, [.ref q1, .int 0, .int 0]))] ++ (rc_X5 K u9 r0_X5 ++ (rc_X5 K u7 r0_X5 ++ (rc_X5 K u5 r0_X5 ++ (rc_X5 K u3 r0_X5 ++ []))))) := hD
  refine lv_iinc (v := 4) (lv' := [(1, .int 4), (0, .ref h0)]) hx hb dX4_init_34 hl (k := 0) rfl (by decide) (by decide) rfl (fun ls hl => ?_)
  refine lv_goto (tgt := 15) hx hb dX4_init_37 (by decide) ?_
  refine lv_iload_n hx hb dX4_init_15 rfl (lv_at hl 0 rfl) ?_
  refine lv_bipush (v := 8) hx hb dX4_init_16 (by decide) ?_
  refine lv_icmp_ge (tgt := 40) hx hb dX4_init_18 (by decide) (fun c_1 => absurd c_1 (by decide)) (fun c_1 => ?_)
  refine lv_aload_n hx hb dX4_init_21 rfl (lv_at hl 1 rfl) ?_
  refine va_get (D := D) (ci := 4) (v := .ref q1) (C := RX4) (T := TX4) (N := 3) hx hb hts (by decide +kernel) hown hK hP 1 rfl rfl 0 (by decide) (hts (.fieldLink RX4 11 "StaggerRadar$History" "ring" "[LStaggerRadar$Radar;") (by decide +kernel)) (fun _ h9 => h9) rfl dX4_init_22 ?_
  refine lv_iload_n hx hb dX4_init_25 rfl (lv_at hl 0 rfl) ?_
  refine va_new (ci := 5) (fs := [.null, .null, .null, .null, .null, .null, .null, .null, .int 0, .int 0, .int 0, .int 0, .int 0]) (C := RX5) (T := TX5) (N := 13) hx hb hts (by decide +kernel) tyX5 tyX5_ok hown (hts (.classLink RX4 9 RX5) (by decide +kernel)) (hts (.instantiable RX5 13) (by decide +kernel)) (hts (.initialized RX5) (by decide +kernel)) hK hP hD hS hA rfl (fun j hj => by rcases (show j = 0 ∨ j = 1 ∨ j = 2 ∨ j = 3 ∨ j = 4 ∨ j = 5 ∨ j = 6 ∨ j = 7 ∨ j = 8 ∨ j = 9 ∨ j = 10 ∨ j = 11 ∨ j = 12 by omega) with rfl | rfl | rfl | rfl | rfl | rfl | rfl | rfl | rfl | rfl | rfl | rfl | rfl <;> rfl) (Nat.le_of_ble_eq_true rfl) (Nat.le_of_ble_eq_true rfl) dX4_init_26 (fun q10 H hP hD hS => ?_)
  refine W.widen (k := 38) (n := 441) (Nat.le_of_ble_eq_true rfl) (Nat.le_of_ble_eq_true rfl) ?_
  refine lv_dup hx hb dX4_init_29 rfl ?_
  refine xk_p List.perm_append_comm hP hD hS hA (va_runI (As := []) (rest := [.ref q10, .int 4, .ref q1]) C0.1 (c_X5_init l D K q10 H.size) (cwI 0 hts gX4_init_X5_init rfl rfl rfl (hts (.initialized RX5) (by decide +kernel)) (hts (.methodLink RX4 17 yX5_init) (by decide +kernel)) (hts (.instanceMethod yX5_init) (by decide +kernel)) rfl (by decide +kernel) ⟨Nat.le_of_ble_eq_true rfl, Nat.le_of_ble_eq_true rfl⟩) (yq_S C0.2 hP hD hS List.perm_append_comm) rfl rfl hl.1 rfl (lv_room (Nat.le_of_ble_eq_true rfl)) dX4_init_30 ⟨Nat.le_of_ble_eq_true rfl, Nat.le_of_ble_eq_true rfl⟩) (fun u11 H locs hw hPn hDn hS => ?_)
  have hw : (u11 0) = q10 := hw
  subst hw
  have hP := pr_P mt_p hPn
  have hD := pr_D mt_p hDn
  refine W.widen (k := 46) (n := 533) (Nat.le_of_ble_eq_true rfl) (Nat.le_of_ble_eq_true rfl) ?_
  have hP : va_P D vwCl ([(q1, .inl (K 4, 8, .inr (.inr (.inr (.inr (va_up (va_up (va_up (va_up (fun _ => none) 0 (some (u3 0))) 1 (some (u5 0))) 2 (some (u7 0))) 3 (some (u9 0)))))))), (h0, .inr (4, [.ref q1, .int 0, .int 0]))] ++ (rc_X5 K u11 r0_X5 ++ (rc_X5 K u9 r0_X5 ++ (rc_X5 K u7 r0_X5 ++ (rc_X5 K u5 r0_X5 ++ (rc_X5 K u3 r0_X5 ++ [])))))) H := hP
  have hD : va_D A ([(q1, .inl (K 4, 8, .inr (.inr (.inr (.inr (va_up (va_up (va_up (va_up (fun _ => none) 0 (some (u3 0))) 1 (some (u5 0))) 2 (some (u7 0))) 3 (some (u9 0)))))))), (h0, .inr (4, [.ref q1, .int 0, .int 0]))] ++ (rc_X5 K u11 r0_X5 ++ (rc_X5 K u9 r0_X5 ++ (rc_X5 K u7 r0_X5 ++ (rc_X5 K u5 r0_X5 ++ (rc_X5 K u3 r0_X5 ++ [])))))) := hD
  refine va_astq (f := (va_up (va_up (va_up (va_up (fun _ => none) 0 (some (u3 0))) 1 (some (u5 0))) 2 (some (u7 0))) 3 (some (u9 0)))) hx hb hK hP hD hS 0 4 2 5 rfl rfl rfl rfl (in_v (by decide)) dX4_init_33 (fun H locs hP hD hS => ?_)
  have hP : va_P D vwCl ([(q1, .inl (K 4, 8, .inr (.inr (.inr (.inr (va_up (va_up (va_up (va_up (va_up (fun _ => none) 0 (some (u3 0))) 1 (some (u5 0))) 2 (some (u7 0))) 3 (some (u9 0))) 4 (some (u11 0)))))))), (h0, .inr (4, [.ref q1, .int 0, .int 0]))] ++ (rc_X5 K u11 r0_X5 ++ (rc_X5 K u9 r0_X5 ++ (rc_X5 K u7 r0_X5 ++ (rc_X5 K u5 r0_X5 ++ (rc_X5 K u3 r0_X5 ++ [])))))) H := hP
  have hD : va_D A ([(q1, .inl (K 4, 8, .inr (.inr (.inr (.inr (va_up (va_up (va_up (va_up (va_up (fun _ => none) 0 (some (u3 0))) 1 (some (u5 0))) 2 (some (u7 0))) 3 (some (u9 0))) 4 (some (u11 0)))))))), (h0, .inr (4, [.ref q1, .int 0, .int 0]))] ++ (rc_X5 K u11 r0_X5 ++ (rc_X5 K u9 r0_X5 ++ (rc_X5 K u7 r0_X5 ++ (rc_X5 K u5 r0_X5 ++ (rc_X5 K u3 r0_X5 ++ [])))))) := hD
  refine lv_iinc (v := 5) (lv' := [(1, .int 5), (0, .ref h0)]) hx hb dX4_init_34 hl (k := 0) rfl (by decide) (by decide) rfl (fun ls hl => ?_)
  refine lv_goto (tgt := 15) hx hb dX4_init_37 (by decide) ?_
  refine lv_iload_n hx hb dX4_init_15 rfl (lv_at hl 0 rfl) ?_
  refine lv_bipush (v := 8) hx hb dX4_init_16 (by decide) ?_
  refine lv_icmp_ge (tgt := 40) hx hb dX4_init_18 (by decide) (fun c_1 => absurd c_1 (by decide)) (fun c_1 => ?_)
  refine lv_aload_n hx hb dX4_init_21 rfl (lv_at hl 1 rfl) ?_
  refine va_get (D := D) (ci := 4) (v := .ref q1) (C := RX4) (T := TX4) (N := 3) hx hb hts (by decide +kernel) hown hK hP 1 rfl rfl 0 (by decide) (hts (.fieldLink RX4 11 "StaggerRadar$History" "ring" "[LStaggerRadar$Radar;") (by decide +kernel)) (fun _ h9 => h9) rfl dX4_init_22 ?_
  refine lv_iload_n hx hb dX4_init_25 rfl (lv_at hl 0 rfl) ?_
  refine va_new (ci := 5) (fs := [.null, .null, .null, .null, .null, .null, .null, .null, .int 0, .int 0, .int 0, .int 0, .int 0]) (C := RX5) (T := TX5) (N := 13) hx hb hts (by decide +kernel) tyX5 tyX5_ok hown (hts (.classLink RX4 9 RX5) (by decide +kernel)) (hts (.instantiable RX5 13) (by decide +kernel)) (hts (.initialized RX5) (by decide +kernel)) hK hP hD hS hA rfl (fun j hj => by rcases (show j = 0 ∨ j = 1 ∨ j = 2 ∨ j = 3 ∨ j = 4 ∨ j = 5 ∨ j = 6 ∨ j = 7 ∨ j = 8 ∨ j = 9 ∨ j = 10 ∨ j = 11 ∨ j = 12 by omega) with rfl | rfl | rfl | rfl | rfl | rfl | rfl | rfl | rfl | rfl | rfl | rfl | rfl <;> rfl) (Nat.le_of_ble_eq_true rfl) (Nat.le_of_ble_eq_true rfl) dX4_init_26 (fun q12 H hP hD hS => ?_)
  refine W.widen (k := 47) (n := 546) (Nat.le_of_ble_eq_true rfl) (Nat.le_of_ble_eq_true rfl) ?_
  refine lv_dup hx hb dX4_init_29 rfl ?_
  refine xk_p List.perm_append_comm hP hD hS hA (va_runI (As := []) (rest := [.ref q12, .int 5, .ref q1]) C0.1 (c_X5_init l D K q12 H.size) (cwI 0 hts gX4_init_X5_init rfl rfl rfl (hts (.initialized RX5) (by decide +kernel)) (hts (.methodLink RX4 17 yX5_init) (by decide +kernel)) (hts (.instanceMethod yX5_init) (by decide +kernel)) rfl (by decide +kernel) ⟨Nat.le_of_ble_eq_true rfl, Nat.le_of_ble_eq_true rfl⟩) (yq_S C0.2 hP hD hS List.perm_append_comm) rfl rfl hl.1 rfl (lv_room (Nat.le_of_ble_eq_true rfl)) dX4_init_30 ⟨Nat.le_of_ble_eq_true rfl, Nat.le_of_ble_eq_true rfl⟩) (fun u13 H locs hw hPn hDn hS => ?_)
  have hw : (u13 0) = q12 := hw
  subst hw
  have hP := pr_P mt_p hPn
  have hD := pr_D mt_p hDn
  refine W.widen (k := 55) (n := 638) (Nat.le_of_ble_eq_true rfl) (Nat.le_of_ble_eq_true rfl) ?_
  have hP : va_P D vwCl ([(q1, .inl (K 4, 8, .inr (.inr (.inr (.inr (va_up (va_up (va_up (va_up (va_up (fun _ => none) 0 (some (u3 0))) 1 (some (u5 0))) 2 (some (u7 0))) 3 (some (u9 0))) 4 (some (u11 0)))))))), (h0, .inr (4, [.ref q1, .int 0, .int 0]))] ++ (rc_X5 K u13 r0_X5 ++ (rc_X5 K u11 r0_X5 ++ (rc_X5 K u9 r0_X5 ++ (rc_X5 K u7 r0_X5 ++ (rc_X5 K u5 r0_X5 ++ (rc_X5 K u3 r0_X5 ++ []))))))) H := hP
  have hD : va_D A ([(q1, .inl (K 4, 8, .inr (.inr (.inr (.inr (va_up (va_up (va_up (va_up (va_up (fun _ => none) 0 (some (u3 0))) 1 (some (u5 0))) 2 (some (u7 0))) 3 (some (u9 0))) 4 (some (u11 0)))))))), (h0, .inr (4, [.ref q1, .int 0, .int 0]))] ++ (rc_X5 K u13 r0_X5 ++ (rc_X5 K u11 r0_X5 ++ (rc_X5 K u9 r0_X5 ++ (rc_X5 K u7 r0_X5 ++ (rc_X5 K u5 r0_X5 ++ (rc_X5 K u3 r0_X5 ++ []))))))) := hD
  refine va_astq (f := (va_up (va_up (va_up (va_up (va_up (fun _ => none) 0 (some (u3 0))) 1 (some (u5 0))) 2 (some (u7 0))) 3 (some (u9 0))) 4 (some (u11 0)))) hx hb hK hP hD hS 0 4 2 5 rfl rfl rfl rfl (in_v (by decide)) dX4_init_33 (fun H locs hP hD hS => ?_)
  have hP : va_P D vwCl ([(q1, .inl (K 4, 8, .inr (.inr (.inr (.inr (va_up (va_up (va_up (va_up (va_up (va_up (fun _ => none) 0 (some (u3 0))) 1 (some (u5 0))) 2 (some (u7 0))) 3 (some (u9 0))) 4 (some (u11 0))) 5 (some (u13 0)))))))), (h0, .inr (4, [.ref q1, .int 0, .int 0]))] ++ (rc_X5 K u13 r0_X5 ++ (rc_X5 K u11 r0_X5 ++ (rc_X5 K u9 r0_X5 ++ (rc_X5 K u7 r0_X5 ++ (rc_X5 K u5 r0_X5 ++ (rc_X5 K u3 r0_X5 ++ []))))))) H := hP
  have hD : va_D A ([(q1, .inl (K 4, 8, .inr (.inr (.inr (.inr (va_up (va_up (va_up (va_up (va_up (va_up (fun _ => none) 0 (some (u3 0))) 1 (some (u5 0))) 2 (some (u7 0))) 3 (some (u9 0))) 4 (some (u11 0))) 5 (some (u13 0)))))))), (h0, .inr (4, [.ref q1, .int 0, .int 0]))] ++ (rc_X5 K u13 r0_X5 ++ (rc_X5 K u11 r0_X5 ++ (rc_X5 K u9 r0_X5 ++ (rc_X5 K u7 r0_X5 ++ (rc_X5 K u5 r0_X5 ++ (rc_X5 K u3 r0_X5 ++ []))))))) := hD
  refine lv_iinc (v := 6) (lv' := [(1, .int 6), (0, .ref h0)]) hx hb dX4_init_34 hl (k := 0) rfl (by decide) (by decide) rfl (fun ls hl => ?_)
  refine lv_goto (tgt := 15) hx hb dX4_init_37 (by decide) ?_
  refine lv_iload_n hx hb dX4_init_15 rfl (lv_at hl 0 rfl) ?_
  refine lv_bipush (v := 8) hx hb dX4_init_16 (by decide) ?_
  refine lv_icmp_ge (tgt := 40) hx hb dX4_init_18 (by decide) (fun c_1 => absurd c_1 (by decide)) (fun c_1 => ?_)
  refine lv_aload_n hx hb dX4_init_21 rfl (lv_at hl 1 rfl) ?_
  refine va_get (D := D) (ci := 4) (v := .ref q1) (C := RX4) (T := TX4) (N := 3) hx hb hts (by decide +kernel) hown hK hP 1 rfl rfl 0 (by decide) (hts (.fieldLink RX4 11 "StaggerRadar$History" "ring" "[LStaggerRadar$Radar;") (by decide +kernel)) (fun _ h9 => h9) rfl dX4_init_22 ?_
  refine lv_iload_n hx hb dX4_init_25 rfl (lv_at hl 0 rfl) ?_
  refine va_new (ci := 5) (fs := [.null, .null, .null, .null, .null, .null, .null, .null, .int 0, .int 0, .int 0, .int 0, .int 0]) (C := RX5) (T := TX5) (N := 13) hx hb hts (by decide +kernel) tyX5 tyX5_ok hown (hts (.classLink RX4 9 RX5) (by decide +kernel)) (hts (.instantiable RX5 13) (by decide +kernel)) (hts (.initialized RX5) (by decide +kernel)) hK hP hD hS hA rfl (fun j hj => by rcases (show j = 0 ∨ j = 1 ∨ j = 2 ∨ j = 3 ∨ j = 4 ∨ j = 5 ∨ j = 6 ∨ j = 7 ∨ j = 8 ∨ j = 9 ∨ j = 10 ∨ j = 11 ∨ j = 12 by omega) with rfl | rfl | rfl | rfl | rfl | rfl | rfl | rfl | rfl | rfl | rfl | rfl | rfl <;> rfl) (Nat.le_of_ble_eq_true rfl) (Nat.le_of_ble_eq_true rfl) dX4_init_26 (fun q14 H hP hD hS => ?_)
  refine W.widen (k := 56) (n := 651) (Nat.le_of_ble_eq_true rfl) (Nat.le_of_ble_eq_true rfl) ?_
  refine lv_dup hx hb dX4_init_29 rfl ?_
  refine xk_p List.perm_append_comm hP hD hS hA (va_runI (As := []) (rest := [.ref q14, .int 6, .ref q1]) C0.1 (c_X5_init l D K q14 H.size) (cwI 0 hts gX4_init_X5_init rfl rfl rfl (hts (.initialized RX5) (by decide +kernel)) (hts (.methodLink RX4 17 yX5_init) (by decide +kernel)) (hts (.instanceMethod yX5_init) (by decide +kernel)) rfl (by decide +kernel) ⟨Nat.le_of_ble_eq_true rfl, Nat.le_of_ble_eq_true rfl⟩) (yq_S C0.2 hP hD hS List.perm_append_comm) rfl rfl hl.1 rfl (lv_room (Nat.le_of_ble_eq_true rfl)) dX4_init_30 ⟨Nat.le_of_ble_eq_true rfl, Nat.le_of_ble_eq_true rfl⟩) (fun u15 H locs hw hPn hDn hS => ?_)
  have hw : (u15 0) = q14 := hw
  subst hw
  have hP := pr_P mt_p hPn
  have hD := pr_D mt_p hDn
  refine W.widen (k := 64) (n := 743) (Nat.le_of_ble_eq_true rfl) (Nat.le_of_ble_eq_true rfl) ?_
  have hP : va_P D vwCl ([(q1, .inl (K 4, 8, .inr (.inr (.inr (.inr (va_up (va_up (va_up (va_up (va_up (va_up (fun _ => none) 0 (some (u3 0))) 1 (some (u5 0))) 2 (some (u7 0))) 3 (some (u9 0))) 4 (some (u11 0))) 5 (some (u13 0)))))))), (h0, .inr (4, [.ref q1, .int 0, .int 0]))] ++ (rc_X5 K u15 r0_X5 ++ (rc_X5 K u13 r0_X5 ++ (rc_X5 K u11 r0_X5 ++ (rc_X5 K u9 r0_X5 ++ (rc_X5 K u7 r0_X5 ++ (rc_X5 K u5 r0_X5 ++ (rc_X5 K u3 r0_X5 ++ [])))))))) H := hP
  have hD : va_D A ([(q1, .inl (K 4, 8, .inr (.inr (.inr (.inr (va_up (va_up (va_up (va_up (va_up (va_up (fun _ => none) 0 (some (u3 0))) 1 (some (u5 0))) 2 (some (u7 0))) 3 (some (u9 0))) 4 (some (u11 0))) 5 (some (u13 0)))))))), (h0, .inr (4, [.ref q1, .int 0, .int 0]))] ++ (rc_X5 K u15 r0_X5 ++ (rc_X5 K u13 r0_X5 ++ (rc_X5 K u11 r0_X5 ++ (rc_X5 K u9 r0_X5 ++ (rc_X5 K u7 r0_X5 ++ (rc_X5 K u5 r0_X5 ++ (rc_X5 K u3 r0_X5 ++ [])))))))) := hD
  refine va_astq (f := (va_up (va_up (va_up (va_up (va_up (va_up (fun _ => none) 0 (some (u3 0))) 1 (some (u5 0))) 2 (some (u7 0))) 3 (some (u9 0))) 4 (some (u11 0))) 5 (some (u13 0)))) hx hb hK hP hD hS 0 4 2 5 rfl rfl rfl rfl (in_v (by decide)) dX4_init_33 (fun H locs hP hD hS => ?_)
  have hP : va_P D vwCl ([(q1, .inl (K 4, 8, .inr (.inr (.inr (.inr (va_up (va_up (va_up (va_up (va_up (va_up (va_up (fun _ => none) 0 (some (u3 0))) 1 (some (u5 0))) 2 (some (u7 0))) 3 (some (u9 0))) 4 (some (u11 0))) 5 (some (u13 0))) 6 (some (u15 0)))))))), (h0, .inr (4, [.ref q1, .int 0, .int 0]))] ++ (rc_X5 K u15 r0_X5 ++ (rc_X5 K u13 r0_X5 ++ (rc_X5 K u11 r0_X5 ++ (rc_X5 K u9 r0_X5 ++ (rc_X5 K u7 r0_X5 ++ (rc_X5 K u5 r0_X5 ++ (rc_X5 K u3 r0_X5 ++ [])))))))) H := hP
  have hD : va_D A ([(q1, .inl (K 4, 8, .inr (.inr (.inr (.inr (va_up (va_up (va_up (va_up (va_up (va_up (va_up (fun _ => none) 0 (some (u3 0))) 1 (some (u5 0))) 2 (some (u7 0))) 3 (some (u9 0))) 4 (some (u11 0))) 5 (some (u13 0))) 6 (some (u15 0)))))))), (h0, .inr (4, [.ref q1, .int 0, .int 0]))] ++ (rc_X5 K u15 r0_X5 ++ (rc_X5 K u13 r0_X5 ++ (rc_X5 K u11 r0_X5 ++ (rc_X5 K u9 r0_X5 ++ (rc_X5 K u7 r0_X5 ++ (rc_X5 K u5 r0_X5 ++ (rc_X5 K u3 r0_X5 ++ [])))))))) := hD
  refine lv_iinc (v := 7) (lv' := [(1, .int 7), (0, .ref h0)]) hx hb dX4_init_34 hl (k := 0) rfl (by decide) (by decide) rfl (fun ls hl => ?_)
  refine lv_goto (tgt := 15) hx hb dX4_init_37 (by decide) ?_
  refine lv_iload_n hx hb dX4_init_15 rfl (lv_at hl 0 rfl) ?_
  refine lv_bipush (v := 8) hx hb dX4_init_16 (by decide) ?_
  refine lv_icmp_ge (tgt := 40) hx hb dX4_init_18 (by decide) (fun c_1 => absurd c_1 (by decide)) (fun c_1 => ?_)
  refine lv_aload_n hx hb dX4_init_21 rfl (lv_at hl 1 rfl) ?_
  refine va_get (D := D) (ci := 4) (v := .ref q1) (C := RX4) (T := TX4) (N := 3) hx hb hts (by decide +kernel) hown hK hP 1 rfl rfl 0 (by decide) (hts (.fieldLink RX4 11 "StaggerRadar$History" "ring" "[LStaggerRadar$Radar;") (by decide +kernel)) (fun _ h9 => h9) rfl dX4_init_22 ?_
  refine lv_iload_n hx hb dX4_init_25 rfl (lv_at hl 0 rfl) ?_
  refine va_new (ci := 5) (fs := [.null, .null, .null, .null, .null, .null, .null, .null, .int 0, .int 0, .int 0, .int 0, .int 0]) (C := RX5) (T := TX5) (N := 13) hx hb hts (by decide +kernel) tyX5 tyX5_ok hown (hts (.classLink RX4 9 RX5) (by decide +kernel)) (hts (.instantiable RX5 13) (by decide +kernel)) (hts (.initialized RX5) (by decide +kernel)) hK hP hD hS hA rfl (fun j hj => by rcases (show j = 0 ∨ j = 1 ∨ j = 2 ∨ j = 3 ∨ j = 4 ∨ j = 5 ∨ j = 6 ∨ j = 7 ∨ j = 8 ∨ j = 9 ∨ j = 10 ∨ j = 11 ∨ j = 12 by omega) with rfl | rfl | rfl | rfl | rfl | rfl | rfl | rfl | rfl | rfl | rfl | rfl | rfl <;> rfl) (Nat.le_of_ble_eq_true rfl) (Nat.le_of_ble_eq_true rfl) dX4_init_26 (fun q16 H hP hD hS => ?_)
  refine W.widen (k := 65) (n := 756) (Nat.le_of_ble_eq_true rfl) (Nat.le_of_ble_eq_true rfl) ?_
  refine lv_dup hx hb dX4_init_29 rfl ?_
  refine xk_p List.perm_append_comm hP hD hS hA (va_runI (As := []) (rest := [.ref q16, .int 7, .ref q1]) C0.1 (c_X5_init l D K q16 H.size) (cwI 0 hts gX4_init_X5_init rfl rfl rfl (hts (.initialized RX5) (by decide +kernel)) (hts (.methodLink RX4 17 yX5_init) (by decide +kernel)) (hts (.instanceMethod yX5_init) (by decide +kernel)) rfl (by decide +kernel) ⟨Nat.le_of_ble_eq_true rfl, Nat.le_of_ble_eq_true rfl⟩) (yq_S C0.2 hP hD hS List.perm_append_comm) rfl rfl hl.1 rfl (lv_room (Nat.le_of_ble_eq_true rfl)) dX4_init_30 ⟨Nat.le_of_ble_eq_true rfl, Nat.le_of_ble_eq_true rfl⟩) (fun u17 H locs hw hPn hDn hS => ?_)
  have hw : (u17 0) = q16 := hw
  subst hw
  have hP := pr_P mt_p hPn
  have hD := pr_D mt_p hDn
  refine W.widen (k := 73) (n := 848) (Nat.le_of_ble_eq_true rfl) (Nat.le_of_ble_eq_true rfl) ?_
  have hP : va_P D vwCl ([(q1, .inl (K 4, 8, .inr (.inr (.inr (.inr (va_up (va_up (va_up (va_up (va_up (va_up (va_up (fun _ => none) 0 (some (u3 0))) 1 (some (u5 0))) 2 (some (u7 0))) 3 (some (u9 0))) 4 (some (u11 0))) 5 (some (u13 0))) 6 (some (u15 0)))))))), (h0, .inr (4, [.ref q1, .int 0, .int 0]))] ++ (rc_X5 K u17 r0_X5 ++ (rc_X5 K u15 r0_X5 ++ (rc_X5 K u13 r0_X5 ++ (rc_X5 K u11 r0_X5 ++ (rc_X5 K u9 r0_X5 ++ (rc_X5 K u7 r0_X5 ++ (rc_X5 K u5 r0_X5 ++ (rc_X5 K u3 r0_X5 ++ []))))))))) H := hP
  have hD : va_D A ([(q1, .inl (K 4, 8, .inr (.inr (.inr (.inr (va_up (va_up (va_up (va_up (va_up (va_up (va_up (fun _ => none) 0 (some (u3 0))) 1 (some (u5 0))) 2 (some (u7 0))) 3 (some (u9 0))) 4 (some (u11 0))) 5 (some (u13 0))) 6 (some (u15 0)))))))), (h0, .inr (4, [.ref q1, .int 0, .int 0]))] ++ (rc_X5 K u17 r0_X5 ++ (rc_X5 K u15 r0_X5 ++ (rc_X5 K u13 r0_X5 ++ (rc_X5 K u11 r0_X5 ++ (rc_X5 K u9 r0_X5 ++ (rc_X5 K u7 r0_X5 ++ (rc_X5 K u5 r0_X5 ++ (rc_X5 K u3 r0_X5 ++ []))))))))) := hD
  refine va_astq (f := (va_up (va_up (va_up (va_up (va_up (va_up (va_up (fun _ => none) 0 (some (u3 0))) 1 (some (u5 0))) 2 (some (u7 0))) 3 (some (u9 0))) 4 (some (u11 0))) 5 (some (u13 0))) 6 (some (u15 0)))) hx hb hK hP hD hS 0 4 2 5 rfl rfl rfl rfl (in_v (by decide)) dX4_init_33 (fun H locs hP hD hS => ?_)
  have hP : va_P D vwCl ([(q1, .inl (K 4, 8, .inr (.inr (.inr (.inr (va_up (va_up (va_up (va_up (va_up (va_up (va_up (va_up (fun _ => none) 0 (some (u3 0))) 1 (some (u5 0))) 2 (some (u7 0))) 3 (some (u9 0))) 4 (some (u11 0))) 5 (some (u13 0))) 6 (some (u15 0))) 7 (some (u17 0)))))))), (h0, .inr (4, [.ref q1, .int 0, .int 0]))] ++ (rc_X5 K u17 r0_X5 ++ (rc_X5 K u15 r0_X5 ++ (rc_X5 K u13 r0_X5 ++ (rc_X5 K u11 r0_X5 ++ (rc_X5 K u9 r0_X5 ++ (rc_X5 K u7 r0_X5 ++ (rc_X5 K u5 r0_X5 ++ (rc_X5 K u3 r0_X5 ++ []))))))))) H := hP
  have hD : va_D A ([(q1, .inl (K 4, 8, .inr (.inr (.inr (.inr (va_up (va_up (va_up (va_up (va_up (va_up (va_up (va_up (fun _ => none) 0 (some (u3 0))) 1 (some (u5 0))) 2 (some (u7 0))) 3 (some (u9 0))) 4 (some (u11 0))) 5 (some (u13 0))) 6 (some (u15 0))) 7 (some (u17 0)))))))), (h0, .inr (4, [.ref q1, .int 0, .int 0]))] ++ (rc_X5 K u17 r0_X5 ++ (rc_X5 K u15 r0_X5 ++ (rc_X5 K u13 r0_X5 ++ (rc_X5 K u11 r0_X5 ++ (rc_X5 K u9 r0_X5 ++ (rc_X5 K u7 r0_X5 ++ (rc_X5 K u5 r0_X5 ++ (rc_X5 K u3 r0_X5 ++ []))))))))) := hD
  refine lv_iinc (v := 8) (lv' := [(1, .int 8), (0, .ref h0)]) hx hb dX4_init_34 hl (k := 0) rfl (by decide) (by decide) rfl (fun ls hl => ?_)
  refine lv_goto (tgt := 15) hx hb dX4_init_37 (by decide) ?_
  refine lv_iload_n hx hb dX4_init_15 rfl (lv_at hl 0 rfl) ?_
  refine lv_bipush (v := 8) hx hb dX4_init_16 (by decide) ?_
  refine lv_icmp_ge (tgt := 40) hx hb dX4_init_18 (by decide) (fun c_1 => ?_) (fun c_1 => absurd (by decide) c_1)
  have hf : ∀ i : Nat, i < 8 → (va_up (va_up (va_up (va_up (va_up (va_up (va_up (va_up (fun _ => none) 0 (some (u3 0))) 1 (some (u5 0))) 2 (some (u7 0))) 3 (some (u9 0))) 4 (some (u11 0))) 5 (some (u13 0))) 6 (some (u15 0))) 7 (some (u17 0))) i = (fun i_ => some (((fun k => match k with | 0 => u3 | 1 => u5 | 2 => u7 | 3 => u9 | 4 => u11 | 5 => u13 | 6 => u15 | _ => u17) : Nat → Nat → Nat) i_ 0)) i := by
    intro i hi
    rcases (show i = 0 ∨ i = 1 ∨ i = 2 ∨ i = 3 ∨ i = 4 ∨ i = 5 ∨ i = 6 ∨ i = 7 by omega) with rfl | rfl | rfl | rfl | rfl | rfl | rfl | rfl <;> rfl
  have hP := xq_P (q0 := 0) hD rfl hf hP
  have hD := hD.set (p := 0) (e := .inl (K 4, 8, .inr (.inr (.inr (.inr (fun i_ => some (((fun k => match k with | 0 => u3 | 1 => u5 | 2 => u7 | 3 => u9 | 4 => u11 | 5 => u13 | 6 => u15 | _ => u17) : Nat → Nat → Nat) i_ 0))))))) rfl
  have hP : va_P D vwCl ([(q1, .inl (K 4, 8, .inr (.inr (.inr (.inr (fun i_ => some (((fun k => match k with | 0 => u3 | 1 => u5 | 2 => u7 | 3 => u9 | 4 => u11 | 5 => u13 | 6 => u15 | _ => u17) : Nat → Nat → Nat) i_ 0))))))), (h0, .inr (4, [.ref q1, .int 0, .int 0]))] ++ (rc_X5 K u17 r0_X5 ++ (rc_X5 K u15 r0_X5 ++ (rc_X5 K u13 r0_X5 ++ (rc_X5 K u11 r0_X5 ++ (rc_X5 K u9 r0_X5 ++ (rc_X5 K u7 r0_X5 ++ (rc_X5 K u5 r0_X5 ++ (rc_X5 K u3 r0_X5 ++ []))))))))) H := hP
  have hD : va_D A ([(q1, .inl (K 4, 8, .inr (.inr (.inr (.inr (fun i_ => some (((fun k => match k with | 0 => u3 | 1 => u5 | 2 => u7 | 3 => u9 | 4 => u11 | 5 => u13 | 6 => u15 | _ => u17) : Nat → Nat → Nat) i_ 0))))))), (h0, .inr (4, [.ref q1, .int 0, .int 0]))] ++ (rc_X5 K u17 r0_X5 ++ (rc_X5 K u15 r0_X5 ++ (rc_X5 K u13 r0_X5 ++ (rc_X5 K u11 r0_X5 ++ (rc_X5 K u9 r0_X5 ++ (rc_X5 K u7 r0_X5 ++ (rc_X5 K u5 r0_X5 ++ (rc_X5 K u3 r0_X5 ++ []))))))))) := hD
  have hperm : (([(q1, .inl (K 4, 8, .inr (.inr (.inr (.inr (fun i_ => some (((fun k => match k with | 0 => u3 | 1 => u5 | 2 => u7 | 3 => u9 | 4 => u11 | 5 => u13 | 6 => u15 | _ => u17) : Nat → Nat → Nat) i_ 0))))))), (h0, .inr (4, [.ref q1, .int 0, .int 0]))] ++ (rc_X5 K u17 r0_X5 ++ (rc_X5 K u15 r0_X5 ++ (rc_X5 K u13 r0_X5 ++ (rc_X5 K u11 r0_X5 ++ (rc_X5 K u9 r0_X5 ++ (rc_X5 K u7 r0_X5 ++ (rc_X5 K u5 r0_X5 ++ (rc_X5 K u3 r0_X5 ++ []))))))))) : va_W).Perm ([(((((fun k => match k with | 0 => h0 | 1 => q1 | _ => 0) : Nat → Nat), ((fun k => match k with | 0 => u3 | 1 => u5 | 2 => u7 | 3 => u9 | 4 => u11 | 5 => u13 | 6 => u15 | _ => u17) : Nat → Nat → Nat)) : (Nat → Nat) × (Nat → Nat → Nat)).1 0, .inr (4, [.ref (((((fun k => match k with | 0 => h0 | 1 => q1 | _ => 0) : Nat → Nat), ((fun k => match k with | 0 => u3 | 1 => u5 | 2 => u7 | 3 => u9 | 4 => u11 | 5 => u13 | 6 => u15 | _ => u17) : Nat → Nat → Nat)) : (Nat → Nat) × (Nat → Nat → Nat)).1 1), .int 0, .int 0])), (((((fun k => match k with | 0 => h0 | 1 => q1 | _ => 0) : Nat → Nat), ((fun k => match k with | 0 => u3 | 1 => u5 | 2 => u7 | 3 => u9 | 4 => u11 | 5 => u13 | 6 => u15 | _ => u17) : Nat → Nat → Nat)) : (Nat → Nat) × (Nat → Nat → Nat)).1 1, .inl (K 4, 8, .inr (.inr (.inr (.inr (fun i_ => some (((((fun k => match k with | 0 => h0 | 1 => q1 | _ => 0) : Nat → Nat), ((fun k => match k with | 0 => u3 | 1 => u5 | 2 => u7 | 3 => u9 | 4 => u11 | 5 => u13 | 6 => u15 | _ => u17) : Nat → Nat → Nat)) : (Nat → Nat) × (Nat → Nat → Nat)).2 i_ 0)))))))] ++ gr_ 8 (fun i_ => rc_X5 K (((((fun k => match k with | 0 => h0 | 1 => q1 | _ => 0) : Nat → Nat), ((fun k => match k with | 0 => u3 | 1 => u5 | 2 => u7 | 3 => u9 | 4 => u11 | 5 => u13 | 6 => u15 | _ => u17) : Nat → Nat → Nat)) : (Nat → Nat) × (Nat → Nat → Nat)).2 i_) r0_X5)) := (sg_perm (sg := [[(q1, .inl (K 4, 8, .inr (.inr (.inr (.inr (fun i_ => some (((fun k => match k with | 0 => u3 | 1 => u5 | 2 => u7 | 3 => u9 | 4 => u11 | 5 => u13 | 6 => u15 | _ => u17) : Nat → Nat → Nat) i_ 0)))))))], [(h0, .inr (4, [.ref q1, .int 0, .int 0]))], rc_X5 K u17 r0_X5, rc_X5 K u15 r0_X5, rc_X5 K u13 r0_X5, rc_X5 K u11 r0_X5, rc_X5 K u9 r0_X5, rc_X5 K u7 r0_X5, rc_X5 K u5 r0_X5, rc_X5 K u3 r0_X5]) (is := [1, 0, 9, 8, 7, 6, 5, 4, 3, 2]) (n := 10) rfl (by decide)).flatten.symm
  exact HR (((fun k => match k with | 0 => h0 | 1 => q1 | _ => 0) : Nat → Nat), ((fun k => match k with | 0 => u3 | 1 => u5 | 2 => u7 | 3 => u9 | 4 => u11 | 5 => u13 | 6 => u15 | _ => u17) : Nat → Nat → Nat)) 40 H locs ls dX4_init_40 rfl (pr_P hperm hP) (pr_D hperm hD) hS

/-! ===== END ===== -/
