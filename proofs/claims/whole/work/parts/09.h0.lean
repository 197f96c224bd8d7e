/-! ===== BEGIN the law: what its cases share ===== -/
def bz (v : Int32) : Int32 := if v = 0 then 0 else 1
/-- what stands through the law's loop -/
def LC (p : Program) (s : State) (m : MethodId) (c : Code) (b L : Nat) (xs : Nat → Int32) (D : va_G) (K : Nat → ClassId) : Prop :=
  cx_ p s m #[Value.ref b] c cL_law 7 RL wsL_law D K (fun q : Nat => s.heap.size ≤ q) ∧ TX_ s ∧ va_X b L xs s s.heap ∧ b < s.heap.size ∧ L ≤ 3072
theorem pX (oc : Nat × va_E) (Wc Wr : va_W) : (oc :: (Wc ++ Wr)).Perm (Wc ++ (oc :: Wr)) := List.perm_middle.symm
theorem qX (oc : Nat × va_E) (Wc Wr : va_W) : ((oc :: Wr) ++ Wc).Perm (oc :: (Wc ++ Wr)) := List.Perm.cons _ List.perm_append_comm
theorem pM (oc : Nat × va_E) (Wc Wr : va_W) : (oc :: (Wc ++ Wr)).Perm (Wr ++ (oc :: Wc)) := (List.Perm.cons _ List.perm_append_comm).trans List.perm_middle.symm
theorem qM (oc : Nat × va_E) (Wc Wr : va_W) : ((oc :: Wc) ++ Wr).Perm (oc :: (Wc ++ Wr)) := List.Perm.refl _
theorem pL (oc : Nat × va_E) (Wc Wr : va_W) : (oc :: (Wc ++ Wr)).Perm ((oc :: Wc) ++ Wr) := List.Perm.refl _
theorem qL (oc : Nat × va_E) (Wc Wr : va_W) : (Wr ++ (oc :: Wc)).Perm (oc :: (Wc ++ Wr)) := List.perm_append_comm
theorem li_ {i L j : Nat} (h : i + j < L) (hL : L ≤ 3072) : vp_in (nI i + nI j) L := by
  have e : nI i + nI j = nI (i + j) := by
    rw [iI_nI, iI_nI j, iI_add, iI_nI (i + j)]
    congr 1
  rw [e]
  exact vp_in_nI h (by omega)
section LWB
variable {p : Program} {l : Launch} {e : Env} {R : Room} {s : State} {m : MethodId} {args : Array Value} {below : List Frame} {meth : Method} {c : Code} {H : Heap} {locs : List Loc} {cells slots : Nat} {Q : State → Prop} {cc : ByteArray} {ls : Array Slot} {rest : List Value}
theorem lw_b {pc : Nat} {v : Int32} (hx : p.tables.exec = Jvm.exec) (hb : c.code = cc) (d0 : decode cc pc = .ok (.ifCond .eq 7, 3)) (d3 : decode cc (pc + 3) = .ok (.iconst 1, 1)) (d4 : decode cc (pc + 4) = .ok (.goto 4, 3)) (d7 : decode cc (pc + 7) = .ok (.iconst 0, 1))
    (kk : W p l e R s m args below meth c H locs cells slots Q (F0 m (pc + 8) ls (.int (bz v) :: rest))) : W p l e R s m args below meth c H locs cells slots Q (F0 m pc ls (.int v :: rest)) := by
  refine lv_if_eq (tgt := pc + 7) hx hb d0 (by omega) (fun c1 => ?_) (fun c1 => ?_)
  · rw [show bz v = 0 from if_pos c1] at kk
    exact lv_iconst (v := 0) hx hb d7 (by decide) kk
  · rw [show bz v = 1 from if_neg c1] at kk
    refine lv_iconst (v := 1) hx hb d3 (by decide) ?_
    exact lv_goto (tgt := pc + 8) hx hb d4 (by omega) kk
end LWB
theorem ld_L_22 : Cond.constantLong RL 22 (4294967295) ∈ wsL_law := List.mem_of_getElem? (i := 7) (by decide +kernel)
theorem lg_cmp_rf (x : Int64) : lg_cmp x x = 0 := (lg_cmp_eq x x).mpr rfl
/-! ===== END ===== -/
