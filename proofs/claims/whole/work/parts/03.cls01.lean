/-! java/lang/Integer.bitCount(I)I -/
abbrev rmJ6_bitCount_0f7a4 : Room := { frames := 0, cells := 0, slots := 0, locals := 0 }
theorem ld_J6_bitCount_0f7a4_265 : Cond.constant RJ6 265 (1431655765) ∈ wsJ6_bitCount_0f7a4 := by decide +kernel
theorem ld_J6_bitCount_0f7a4_266 : Cond.constant RJ6 266 (858993459) ∈ wsJ6_bitCount_0f7a4 := by decide +kernel
theorem ld_J6_bitCount_0f7a4_267 : Cond.constant RJ6 267 (252645135) ∈ wsJ6_bitCount_0f7a4 := by decide +kernel
abbrev w_J6_bitCount_0f7a4 (K : Nat → ClassId) : va_W := []
def F_J6_bitCount_0f7a4 (x0 : Int32) : Option (Int32) :=
  some ((((((((x0 - (((x0).toUInt32 >>> (((1 : Int32)).toUInt32 &&& Int32.toUInt32 31)).toInt32 &&& (1431655765 : Int32))) &&& (858993459 : Int32)) + ((((x0 - (((x0).toUInt32 >>> (((1 : Int32)).toUInt32 &&& Int32.toUInt32 31)).toInt32 &&& (1431655765 : Int32)))).toUInt32 >>> (((2 : Int32)).toUInt32 &&& Int32.toUInt32 31)).toInt32 &&& (858993459 : Int32))) + (((((x0 - (((x0).toUInt32 >>> (((1 : Int32)).toUInt32 &&& Int32.toUInt32 31)).toInt32 &&& (1431655765 : Int32))) &&& (858993459 : Int32)) + ((((x0 - (((x0).toUInt32 >>> (((1 : Int32)).toUInt32 &&& Int32.toUInt32 31)).toInt32 &&& (1431655765 : Int32)))).toUInt32 >>> (((2 : Int32)).toUInt32 &&& Int32.toUInt32 31)).toInt32 &&& (858993459 : Int32)))).toUInt32 >>> (((4 : Int32)).toUInt32 &&& Int32.toUInt32 31)).toInt32) &&& (252645135 : Int32)) + (((((((x0 - (((x0).toUInt32 >>> (((1 : Int32)).toUInt32 &&& Int32.toUInt32 31)).toInt32 &&& (1431655765 : Int32))) &&& (858993459 : Int32)) + ((((x0 - (((x0).toUInt32 >>> (((1 : Int32)).toUInt32 &&& Int32.toUInt32 31)).toInt32 &&& (1431655765 : Int32)))).toUInt32 >>> (((2 : Int32)).toUInt32 &&& Int32.toUInt32 31)).toInt32 &&& (858993459 : Int32))) + (((((x0 - (((x0).toUInt32 >>> (((1 : Int32)).toUInt32 &&& Int32.toUInt32 31)).toInt32 &&& (1431655765 : Int32))) &&& (858993459 : Int32)) + ((((x0 - (((x0).toUInt32 >>> (((1 : Int32)).toUInt32 &&& Int32.toUInt32 31)).toInt32 &&& (1431655765 : Int32)))).toUInt32 >>> (((2 : Int32)).toUInt32 &&& Int32.toUInt32 31)).toInt32 &&& (858993459 : Int32)))).toUInt32 >>> (((4 : Int32)).toUInt32 &&& Int32.toUInt32 31)).toInt32) &&& (252645135 : Int32))).toUInt32 >>> (((8 : Int32)).toUInt32 &&& Int32.toUInt32 31)).toInt32) + ((((((((x0 - (((x0).toUInt32 >>> (((1 : Int32)).toUInt32 &&& Int32.toUInt32 31)).toInt32 &&& (1431655765 : Int32))) &&& (858993459 : Int32)) + ((((x0 - (((x0).toUInt32 >>> (((1 : Int32)).toUInt32 &&& Int32.toUInt32 31)).toInt32 &&& (1431655765 : Int32)))).toUInt32 >>> (((2 : Int32)).toUInt32 &&& Int32.toUInt32 31)).toInt32 &&& (858993459 : Int32))) + (((((x0 - (((x0).toUInt32 >>> (((1 : Int32)).toUInt32 &&& Int32.toUInt32 31)).toInt32 &&& (1431655765 : Int32))) &&& (858993459 : Int32)) + ((((x0 - (((x0).toUInt32 >>> (((1 : Int32)).toUInt32 &&& Int32.toUInt32 31)).toInt32 &&& (1431655765 : Int32)))).toUInt32 >>> (((2 : Int32)).toUInt32 &&& Int32.toUInt32 31)).toInt32 &&& (858993459 : Int32)))).toUInt32 >>> (((4 : Int32)).toUInt32 &&& Int32.toUInt32 31)).toInt32) &&& (252645135 : Int32)) + (((((((x0 - (((x0).toUInt32 >>> (((1 : Int32)).toUInt32 &&& Int32.toUInt32 31)).toInt32 &&& (1431655765 : Int32))) &&& (858993459 : Int32)) + ((((x0 - (((x0).toUInt32 >>> (((1 : Int32)).toUInt32 &&& Int32.toUInt32 31)).toInt32 &&& (1431655765 : Int32)))).toUInt32 >>> (((2 : Int32)).toUInt32 &&& Int32.toUInt32 31)).toInt32 &&& (858993459 : Int32))) + (((((x0 - (((x0).toUInt32 >>> (((1 : Int32)).toUInt32 &&& Int32.toUInt32 31)).toInt32 &&& (1431655765 : Int32))) &&& (858993459 : Int32)) + ((((x0 - (((x0).toUInt32 >>> (((1 : Int32)).toUInt32 &&& Int32.toUInt32 31)).toInt32 &&& (1431655765 : Int32)))).toUInt32 >>> (((2 : Int32)).toUInt32 &&& Int32.toUInt32 31)).toInt32 &&& (858993459 : Int32)))).toUInt32 >>> (((4 : Int32)).toUInt32 &&& Int32.toUInt32 31)).toInt32) &&& (252645135 : Int32))).toUInt32 >>> (((8 : Int32)).toUInt32 &&& Int32.toUInt32 31)).toInt32)).toUInt32 >>> (((16 : Int32)).toUInt32 &&& Int32.toUInt32 31)).toInt32) &&& (63 : Int32))
set_option maxHeartbeats 4000000 in
set_option maxRecDepth 100000 in
theorem c_J6_bitCount_0f7a4 (l : Launch) (D : va_G) (K : Nat → ClassId) (x0 : Int32) (res : Int32) (hF : F_J6_bitCount_0f7a4 x0 = some res) :
    Mi_ l yJ6_bitCount_0f7a4 wsJ6_bitCount_0f7a4 rmJ6_bitCount_0f7a4 D K [.int x0] (w_J6_bitCount_0f7a4 K) (w_J6_bitCount_0f7a4 K) (res) := by
  refine en_i (cc := cJ6_bitCount_0f7a4) (maxL := 1) (own := RJ6) (by decide) rfl rfl (Nat.le_of_ble_eq_true rfl) ?_
  intro p e s m args below meth c A Q H locs ls C0 hP hD hS hl HR
  obtain ⟨⟨hx, hb, hml, hown, hts⟩, hK, -⟩ := id C0
  have hl : lv_has ls 1 [(0, .int x0)] := hl
  unfold F_J6_bitCount_0f7a4 at hF
  refine lv_iload_n hx hb dJ6_bitCount_0f7a4_0 rfl (lv_at hl 0 rfl) ?_
  refine lv_iload_n hx hb dJ6_bitCount_0f7a4_1 rfl (lv_at hl 0 rfl) ?_
  refine lv_iconst (v := 1) hx hb dJ6_bitCount_0f7a4_2 (by decide) ?_
  refine lv_iushr hx hb dJ6_bitCount_0f7a4_3 rfl ?_
  refine lv_ldcw (v := 1431655765) hx hb hown (hts _ ld_J6_bitCount_0f7a4_265) dJ6_bitCount_0f7a4_4 ?_
  refine lv_iand hx hb dJ6_bitCount_0f7a4_7 ?_
  refine lv_isub hx hb dJ6_bitCount_0f7a4_8 ?_
  refine lv_istore_n (lv' := [(0, .int (x0 - (((x0).toUInt32 >>> (((1 : Int32)).toUInt32 &&& Int32.toUInt32 31)).toInt32 &&& (1431655765 : Int32))))]) hx hb dJ6_bitCount_0f7a4_9 rfl hl (by decide) rfl (fun ls hl => ?_)
  refine lv_iload_n hx hb dJ6_bitCount_0f7a4_10 rfl (lv_at hl 0 rfl) ?_
  refine lv_ldcw (v := 858993459) hx hb hown (hts _ ld_J6_bitCount_0f7a4_266) dJ6_bitCount_0f7a4_11 ?_
  refine lv_iand hx hb dJ6_bitCount_0f7a4_14 ?_
  refine lv_iload_n hx hb dJ6_bitCount_0f7a4_15 rfl (lv_at hl 0 rfl) ?_
  refine lv_iconst (v := 2) hx hb dJ6_bitCount_0f7a4_16 (by decide) ?_
  refine lv_iushr hx hb dJ6_bitCount_0f7a4_17 rfl ?_
  refine lv_ldcw (v := 858993459) hx hb hown (hts _ ld_J6_bitCount_0f7a4_266) dJ6_bitCount_0f7a4_18 ?_
  refine lv_iand hx hb dJ6_bitCount_0f7a4_21 ?_
  refine lv_iadd hx hb dJ6_bitCount_0f7a4_22 ?_
  refine lv_istore_n (lv' := [(0, .int (((x0 - (((x0).toUInt32 >>> (((1 : Int32)).toUInt32 &&& Int32.toUInt32 31)).toInt32 &&& (1431655765 : Int32))) &&& (858993459 : Int32)) + ((((x0 - (((x0).toUInt32 >>> (((1 : Int32)).toUInt32 &&& Int32.toUInt32 31)).toInt32 &&& (1431655765 : Int32)))).toUInt32 >>> (((2 : Int32)).toUInt32 &&& Int32.toUInt32 31)).toInt32 &&& (858993459 : Int32))))]) hx hb dJ6_bitCount_0f7a4_23 rfl hl (by decide) rfl (fun ls hl => ?_)
  refine lv_iload_n hx hb dJ6_bitCount_0f7a4_24 rfl (lv_at hl 0 rfl) ?_
  refine lv_iload_n hx hb dJ6_bitCount_0f7a4_25 rfl (lv_at hl 0 rfl) ?_
  refine lv_iconst (v := 4) hx hb dJ6_bitCount_0f7a4_26 (by decide) ?_
  refine lv_iushr hx hb dJ6_bitCount_0f7a4_27 rfl ?_
  refine lv_iadd hx hb dJ6_bitCount_0f7a4_28 ?_
  refine lv_ldcw (v := 252645135) hx hb hown (hts _ ld_J6_bitCount_0f7a4_267) dJ6_bitCount_0f7a4_29 ?_
  refine lv_iand hx hb dJ6_bitCount_0f7a4_32 ?_
  refine lv_istore_n (lv' := [(0, .int (((((x0 - (((x0).toUInt32 >>> (((1 : Int32)).toUInt32 &&& Int32.toUInt32 31)).toInt32 &&& (1431655765 : Int32))) &&& (858993459 : Int32)) + ((((x0 - (((x0).toUInt32 >>> (((1 : Int32)).toUInt32 &&& Int32.toUInt32 31)).toInt32 &&& (1431655765 : Int32)))).toUInt32 >>> (((2 : Int32)).toUInt32 &&& Int32.toUInt32 31)).toInt32 &&& (858993459 : Int32))) + (((((x0 - (((x0).toUInt32 >>> (((1 : Int32)).toUInt32 &&& Int32.toUInt32 31)).toInt32 &&& (1431655765 : Int32))) &&& (858993459 : Int32)) + ((((x0 - (((x0).toUInt32 >>> (((1 : Int32)).toUInt32 &&& Int32.toUInt32 31)).toInt32 &&& (1431655765 : Int32)))).toUInt32 >>> (((2 : Int32)).toUInt32 &&& Int32.toUInt32 31)).toInt32 &&& (858993459 : Int32)))).toUInt32 >>> (((4 : Int32)).toUInt32 &&& Int32.toUInt32 31)).toInt32) &&& (252645135 : Int32)))]) hx hb dJ6_bitCount_0f7a4_33 rfl hl (by decide) rfl (fun ls hl => ?_)
  refine lv_iload_n hx hb dJ6_bitCount_0f7a4_34 rfl (lv_at hl 0 rfl) ?_
  refine lv_iload_n hx hb dJ6_bitCount_0f7a4_35 rfl (lv_at hl 0 rfl) ?_
  refine lv_bipush (v := 8) hx hb dJ6_bitCount_0f7a4_36 (by decide) ?_
  refine lv_iushr hx hb dJ6_bitCount_0f7a4_38 rfl ?_
  refine lv_iadd hx hb dJ6_bitCount_0f7a4_39 ?_
  refine lv_istore_n (lv' := [(0, .int ((((((x0 - (((x0).toUInt32 >>> (((1 : Int32)).toUInt32 &&& Int32.toUInt32 31)).toInt32 &&& (1431655765 : Int32))) &&& (858993459 : Int32)) + ((((x0 - (((x0).toUInt32 >>> (((1 : Int32)).toUInt32 &&& Int32.toUInt32 31)).toInt32 &&& (1431655765 : Int32)))).toUInt32 >>> (((2 : Int32)).toUInt32 &&& Int32.toUInt32 31)).toInt32 &&& (858993459 : Int32))) + (((((x0 - (((x0).toUInt32 >>> (((1 : Int32)).toUInt32 &&& Int32.toUInt32 31)).toInt32 &&& (1431655765 : Int32))) &&& (858993459 : Int32)) + ((((x0 - (((x0).toUInt32 >>> (((1 : Int32)).toUInt32 &&& Int32.toUInt32 31)).toInt32 &&& (1431655765 : Int32)))).toUInt32 >>> (((2 : Int32)).toUInt32 &&& Int32.toUInt32 31)).toInt32 &&& (858993459 : Int32)))).toUInt32 >>> (((4 : Int32)).toUInt32 &&& Int32.toUInt32 31)).toInt32) &&& (252645135 : Int32)) + (((((((x0 - (((x0).toUInt32 >>> (((1 : Int32)).toUInt32 &&& Int32.toUInt32 31)).toInt32 &&& (1431655765 : Int32))) &&& (858993459 : Int32)) + ((((x0 - (((x0).toUInt32 >>> (((1 : Int32)).toUInt32 &&& Int32.toUInt32 31)).toInt32 &&& (1431655765 : Int32)))).toUInt32 >>> (((2 : Int32)).toUInt32 &&& Int32.toUInt32 31)).toInt32 &&& (858993459 : Int32))) + (((((x0 - (((x0).toUInt32 >>> (((1 : Int32)).toUInt32 &&& Int32.toUInt32 31)).toInt32 &&& (1431655765 : Int32))) &&& (858993459 : Int32)) + ((((x0 - (((x0).toUInt32 >>> (((1 : Int32)).toUInt32 &&& Int32.toUInt32 31)).toInt32 &&& (1431655765 : Int32)))).toUInt32 >>> (((2 : Int32)).toUInt32 &&& Int32.toUInt32 31)).toInt32 &&& (858993459 : Int32)))).toUInt32 >>> (((4 : Int32)).toUInt32 &&& Int32.toUInt32 31)).toInt32) &&& (252645135 : Int32))).toUInt32 >>> (((8 : Int32)).toUInt32 &&& Int32.toUInt32 31)).toInt32))]) hx hb dJ6_bitCount_0f7a4_40 rfl hl (by decide) rfl (fun ls hl => ?_)
  refine lv_iload_n hx hb dJ6_bitCount_0f7a4_41 rfl (lv_at hl 0 rfl) ?_
  refine lv_iload_n hx hb dJ6_bitCount_0f7a4_42 rfl (lv_at hl 0 rfl) ?_
  refine lv_bipush (v := 16) hx hb dJ6_bitCount_0f7a4_43 (by decide) ?_
  refine lv_iushr hx hb dJ6_bitCount_0f7a4_45 rfl ?_
  refine lv_iadd hx hb dJ6_bitCount_0f7a4_46 ?_
  refine lv_istore_n (lv' := [(0, .int (((((((x0 - (((x0).toUInt32 >>> (((1 : Int32)).toUInt32 &&& Int32.toUInt32 31)).toInt32 &&& (1431655765 : Int32))) &&& (858993459 : Int32)) + ((((x0 - (((x0).toUInt32 >>> (((1 : Int32)).toUInt32 &&& Int32.toUInt32 31)).toInt32 &&& (1431655765 : Int32)))).toUInt32 >>> (((2 : Int32)).toUInt32 &&& Int32.toUInt32 31)).toInt32 &&& (858993459 : Int32))) + (((((x0 - (((x0).toUInt32 >>> (((1 : Int32)).toUInt32 &&& Int32.toUInt32 31)).toInt32 &&& (1431655765 : Int32))) &&& (858993459 : Int32)) + ((((x0 - (((x0).toUInt32 >>> (((1 : Int32)).toUInt32 &&& Int32.toUInt32 31)).toInt32 &&& (1431655765 : Int32)))).toUInt32 >>> (((2 : Int32)).toUInt32 &&& Int32.toUInt32 31)).toInt32 &&& (858993459 : Int32)))).toUInt32 >>> (((4 : Int32)).toUInt32 &&& Int32.toUInt32 31)).toInt32) &&& (252645135 : Int32)) + (((((((x0 - (((x0).toUInt32 >>> (((1 : Int32)).toUInt32 &&& Int32.toUInt32 31)).toInt32 &&& (1431655765 : Int32))) &&& (858993459 : Int32)) + ((((x0 - (((x0).toUInt32 >>> (((1 : Int32)).toUInt32 &&& Int32.toUInt32 31)).toInt32 &&& (1431655765 : Int32)))).toUInt32 >>> (((2 : Int32)).toUInt32 &&& Int32.toUInt32 31)).toInt32 &&& (858993459 : Int32))) + (((((x0 - (((x0).toUInt32 >>> (((1 : Int32)).toUInt32 &&& Int32.toUInt32 31)).toInt32 &&& (1431655765 : Int32))) &&& (858993459 : Int32)) + ((((x0 - (((x0).toUInt32 >>> (((1 : Int32)).toUInt32 &&& Int32.toUInt32 31)).toInt32 &&& (1431655765 : Int32)))).toUInt32 >>> (((2 : Int32)).toUInt32 &&& Int32.toUInt32 31)).toInt32 &&& (858993459 : Int32)))).toUInt32 >>> (((4 : Int32)).toUInt32 &&& Int32.toUInt32 31)).toInt32) &&& (252645135 : Int32))).toUInt32 >>> (((8 : Int32)).toUInt32 &&& Int32.toUInt32 31)).toInt32) + ((((((((x0 - (((x0).toUInt32 >>> (((1 : Int32)).toUInt32 &&& Int32.toUInt32 31)).toInt32 &&& (1431655765 : Int32))) &&& (858993459 : Int32)) + ((((x0 - (((x0).toUInt32 >>> (((1 : Int32)).toUInt32 &&& Int32.toUInt32 31)).toInt32 &&& (1431655765 : Int32)))).toUInt32 >>> (((2 : Int32)).toUInt32 &&& Int32.toUInt32 31)).toInt32 &&& (858993459 : Int32))) + (((((x0 - (((x0).toUInt32 >>> (((1 : Int32)).toUInt32 &&& Int32.toUInt32 31)).toInt32 &&& (1431655765 : Int32))) &&& (858993459 : Int32)) + ((((x0 - (((x0).toUInt32 >>> (((1 : Int32)).toUInt32 &&& Int32.toUInt32 31)).toInt32 &&& (1431655765 : Int32)))).toUInt32 >>> (((2 : Int32)).toUInt32 &&& Int32.toUInt32 31)).toInt32 &&& (858993459 : Int32)))).toUInt32 >>> (((4 : Int32)).toUInt32 &&& Int32.toUInt32 31)).toInt32) &&& (252645135 : Int32)) + (((((((x0 - (((x0).toUInt32 >>> (((1 : Int32)).toUInt32 &&& Int32.toUInt32 31)).toInt32 &&& (1431655765 : Int32))) &&& (858993459 : Int32)) + ((((x0 - (((x0).toUInt32 >>> (((1 : Int32)).toUInt32 &&& Int32.toUInt32 31)).toInt32 &&& (1431655765 : Int32)))).toUInt32 >>> (((2 : Int32)).toUInt32 &&& Int32.toUInt32 31)).toInt32 &&& (858993459 : Int32))) + (((((x0 - (((x0).toUInt32 >>> (((1 : Int32)).toUInt32 &&& Int32.toUInt32 31)).toInt32 &&& (1431655765 : Int32))) &&& (858993459 : Int32)) + ((((x0 - (((x0).toUInt32 >>> (((1 : Int32)).toUInt32 &&& Int32.toUInt32 31)).toInt32 &&& (1431655765 : Int32)))).toUInt32 >>> (((2 : Int32)).toUInt32 &&& Int32.toUInt32 31)).toInt32 &&& (858993459 : Int32)))).toUInt32 >>> (((4 : Int32)).toUInt32 &&& Int32.toUInt32 31)).toInt32) &&& (252645135 : Int32))).toUInt32 >>> (((8 : Int32)).toUInt32 &&& Int32.toUInt32 31)).toInt32)).toUInt32 >>> (((16 : Int32)).toUInt32 &&& Int32.toUInt32 31)).toInt32))]) hx hb dJ6_bitCount_0f7a4_47 rfl hl (by decide) rfl (fun ls hl => ?_)
  refine lv_iload_n hx hb dJ6_bitCount_0f7a4_48 rfl (lv_at hl 0 rfl) ?_
  refine lv_bipush (v := 63) hx hb dJ6_bitCount_0f7a4_49 (by decide) ?_
  refine lv_iand hx hb dJ6_bitCount_0f7a4_51 ?_
  obtain rfl := Option.some.inj hF
  exact HR 52 H locs ls dJ6_bitCount_0f7a4_52 hP hD hS

/-! java/util/Arrays.fill([II)V -/
abbrev rmJ7_fill_53178 : Room := { frames := 0, cells := 0, slots := 0, locals := 0 }
abbrev w_J7_fill_53178 (K : Nat → ClassId) (a_p0 : Nat) (n_p0 : Nat) (p0 : Nat → Int32) : va_W := [(a_p0, .inl (K 0, n_p0, .inl p0))]
def L_J7_fill_53178_5 (n_p0 : Nat) : Nat → (Nat → Int32) → Int32 → Int32 → Int32 → Option ((Nat → Int32))
  | 0, _, _, _, _ => none
  | n_ + 1, p0, x1, x2, x3 =>
    if x3 ≤ x2 then (some p0) else (gd_ (in_b x2 n_p0) (L_J7_fill_53178_5 n_p0 n_ (upd p0 (x2).toNatClampNeg x1) x1 (x2 + (1 : Int32)) x3))
set_option maxHeartbeats 4000000 in
set_option maxRecDepth 100000 in
theorem w_J7_fill_53178_5 {p : Program} {l : Launch} {e : Env} {s : State} {m : MethodId} {args : Array Value} {below : List Frame} {meth : Method} {c : Code} {D : va_G} {K : Nat → ClassId} {A : Nat → Prop} {Q : State → Prop} (C0 : cx_ p s m args c cJ7_fill_53178 4 RJ7 wsJ7_fill_53178 D K A) {a_p0 : Nat} {n_p0 : Nat}  {res : (Nat → Int32)} (HR : ∀ (pc : Nat) (H : Heap) (locs : List Loc) (ls : Array Slot), decode cJ7_fill_53178 pc = .ok (.return_, 1) → va_P D vwCl (w_J7_fill_53178 K a_p0 n_p0 res) H → va_D A (w_J7_fill_53178 K a_p0 n_p0 res) → va_S A s.heap H locs → W p l e rmJ7_fill_53178 s m args below meth c H locs 0 0 Q (F0 m pc ls []))  :
    ∀ (n_ : Nat) (p0 : Nat → Int32) (x1 : Int32) (x2 : Int32) (x3 : Int32) (H : Heap) (locs : List Loc) (ls : Array Slot), va_P D vwCl (w_J7_fill_53178 K a_p0 n_p0 p0) H → va_D A (w_J7_fill_53178 K a_p0 n_p0 p0) → va_S A s.heap H locs → lv_has ls 4 [(0, .ref a_p0), (1, .int x1), (2, .int x2), (3, .int x3)] → L_J7_fill_53178_5 n_p0 n_ p0 x1 x2 x3 = some res → W p l e rmJ7_fill_53178 s m args below meth c H locs 0 0 Q (F0 m 5 ls []) := by
  obtain ⟨⟨hx, hb, hml, hown, hts⟩, hK, -⟩ := id C0
  intro n_
  induction n_ with
  | zero =>
    intro p0 x1 x2 x3 H locs ls hP hD hS hl hF
    exact no_s (show (none : Option ((Nat → Int32))) = some res from hF)
  | succ n_ ih =>
    intro p0 x1 x2 x3 H locs ls hP hD hS hl hF
    rw [L_J7_fill_53178_5] at hF
    refine lv_iload_n hx hb dJ7_fill_53178_5 rfl (lv_at hl 2 rfl) ?_
    refine lv_iload_n hx hb dJ7_fill_53178_6 rfl (lv_at hl 3 rfl) ?_
    refine lv_icmp_ge (tgt := 20) hx hb dJ7_fill_53178_7 (by decide) (fun c_1 => ?_) (fun c_1 => ?_)
    · have hF := it_pos c_1 hF
      obtain rfl := Option.some.inj hF
      exact HR 20 H locs ls dJ7_fill_53178_20 hP hD hS
    · have hF := it_neg c_1 hF
      refine lv_aload_n hx hb dJ7_fill_53178_10 rfl (lv_at hl 0 rfl) ?_
      refine lv_iload_n hx hb dJ7_fill_53178_11 rfl (lv_at hl 2 rfl) ?_
      refine lv_iload_n hx hb dJ7_fill_53178_12 rfl (lv_at hl 1 rfl) ?_
      obtain ⟨hg_2, hF⟩ := gd_some hF
      refine xs_i (f := p0) hx hb hK hP hD hS 0 0 rfl rfl rfl (in_v hg_2) dJ7_fill_53178_13 (fun H locs hP hD hS => ?_)
      have hP : va_P D vwCl (w_J7_fill_53178 K a_p0 n_p0 (upd p0 (x2).toNatClampNeg x1)) H := hP
      have hD : va_D A (w_J7_fill_53178 K a_p0 n_p0 (upd p0 (x2).toNatClampNeg x1)) := hD
      refine lv_iinc (v := (x2 + (1 : Int32))) (lv' := [(2, .int (x2 + (1 : Int32))), (0, .ref a_p0), (1, .int x1), (3, .int x3)]) hx hb dJ7_fill_53178_14 hl (k := 2) rfl (congrArg (fun z => x2 + z) (by decide)) (by decide) rfl (fun ls hl => ?_)
      refine lv_goto (tgt := 5) hx hb dJ7_fill_53178_17 (by decide) ?_
      exact ih (upd p0 (x2).toNatClampNeg x1) x1 (x2 + (1 : Int32)) x3 H locs ls hP hD hS (lv_sub hl [1, 2, 0, 3] rfl) hF
def F_J7_fill_53178 (p0 : Nat → Int32) (n_p0 : Nat) (x1 : Int32) : Option ((Nat → Int32)) :=
  L_J7_fill_53178_5 n_p0 fu_ p0 x1 (0 : Int32) (nI n_p0)
set_option maxHeartbeats 4000000 in
set_option maxRecDepth 100000 in
theorem c_J7_fill_53178 (l : Launch) (D : va_G) (K : Nat → ClassId) (a_p0 : Nat) (n_p0 : Nat) (p0 : Nat → Int32) (x1 : Int32) (res : (Nat → Int32)) (hF : F_J7_fill_53178 p0 n_p0 x1 = some res) :
    Mv_ l yJ7_fill_53178 wsJ7_fill_53178 rmJ7_fill_53178 D K [.ref a_p0, .int x1] (w_J7_fill_53178 K a_p0 n_p0 p0) (w_J7_fill_53178 K a_p0 n_p0 res) := by
  refine en_v (cc := cJ7_fill_53178) (maxL := 4) (own := RJ7) (by decide) rfl rfl (Nat.le_of_ble_eq_true rfl) ?_
  intro p e s m args below meth c A Q H locs ls C0 hP hD hS hl HR
  obtain ⟨⟨hx, hb, hml, hown, hts⟩, hK, -⟩ := id C0
  have hl : lv_has ls 4 [(0, .ref a_p0), (1, .int x1)] := hl
  unfold F_J7_fill_53178 at hF
  refine lv_iconst (v := 0) hx hb dJ7_fill_53178_0 (by decide) ?_
  refine lv_istore_n (lv' := [(2, .int (0 : Int32)), (0, .ref a_p0), (1, .int x1)]) hx hb dJ7_fill_53178_1 rfl hl (by decide) rfl (fun ls hl => ?_)
  refine lv_aload_n hx hb dJ7_fill_53178_2 rfl (lv_at hl 1 rfl) ?_
  refine va_alen (ty := .int) (v := nI n_p0) hx hb hK hP 0 0 rfl rfl rfl dJ7_fill_53178_3 ?_
  refine lv_istore_n (lv' := [(3, .int (nI n_p0)), (2, .int (0 : Int32)), (0, .ref a_p0), (1, .int x1)]) hx hb dJ7_fill_53178_4 rfl hl (by decide) rfl (fun ls hl => ?_)
  exact w_J7_fill_53178_5 C0 HR fu_ p0 x1 (0 : Int32) (nI n_p0) H locs ls hP hD hS (lv_sub hl [2, 3, 1, 0] rfl) hF

/-! java/util/Arrays.fill([JJ)V -/
abbrev rmJ7_fill_d0a16 : Room := { frames := 0, cells := 0, slots := 0, locals := 0 }
abbrev w_J7_fill_d0a16 (K : Nat → ClassId) (a_p0 : Nat) (n_p0 : Nat) (p0 : Nat → Int64) : va_W := [(a_p0, .inl (K 1, n_p0, .inr (.inl p0)))]
def L_J7_fill_d0a16_6 (n_p0 : Nat) : Nat → (Nat → Int64) → Int64 → Int32 → Int32 → Option ((Nat → Int64))
  | 0, _, _, _, _ => none
  | n_ + 1, p0, x1, x3, x4 =>
    if x4 ≤ x3 then (some p0) else (gd_ (in_b x3 n_p0) (L_J7_fill_d0a16_6 n_p0 n_ (vp_updL p0 (x3).toNatClampNeg x1) x1 (x3 + (1 : Int32)) x4))
set_option maxHeartbeats 4000000 in
set_option maxRecDepth 100000 in
theorem w_J7_fill_d0a16_6 {p : Program} {l : Launch} {e : Env} {s : State} {m : MethodId} {args : Array Value} {below : List Frame} {meth : Method} {c : Code} {D : va_G} {K : Nat → ClassId} {A : Nat → Prop} {Q : State → Prop} (C0 : cx_ p s m args c cJ7_fill_d0a16 5 RJ7 wsJ7_fill_d0a16 D K A) {a_p0 : Nat} {n_p0 : Nat}  {res : (Nat → Int64)} (HR : ∀ (pc : Nat) (H : Heap) (locs : List Loc) (ls : Array Slot), decode cJ7_fill_d0a16 pc = .ok (.return_, 1) → va_P D vwCl (w_J7_fill_d0a16 K a_p0 n_p0 res) H → va_D A (w_J7_fill_d0a16 K a_p0 n_p0 res) → va_S A s.heap H locs → W p l e rmJ7_fill_d0a16 s m args below meth c H locs 0 0 Q (F0 m pc ls []))  :
    ∀ (n_ : Nat) (p0 : Nat → Int64) (x1 : Int64) (x3 : Int32) (x4 : Int32) (H : Heap) (locs : List Loc) (ls : Array Slot), va_P D vwCl (w_J7_fill_d0a16 K a_p0 n_p0 p0) H → va_D A (w_J7_fill_d0a16 K a_p0 n_p0 p0) → va_S A s.heap H locs → lv_has ls 5 [(0, .ref a_p0), (1, .long x1), (3, .int x3), (4, .int x4)] → L_J7_fill_d0a16_6 n_p0 n_ p0 x1 x3 x4 = some res → W p l e rmJ7_fill_d0a16 s m args below meth c H locs 0 0 Q (F0 m 6 ls []) := by
  obtain ⟨⟨hx, hb, hml, hown, hts⟩, hK, -⟩ := id C0
  intro n_
  induction n_ with
  | zero =>
    intro p0 x1 x3 x4 H locs ls hP hD hS hl hF
    exact no_s (show (none : Option ((Nat → Int64))) = some res from hF)
  | succ n_ ih =>
    intro p0 x1 x3 x4 H locs ls hP hD hS hl hF
    rw [L_J7_fill_d0a16_6] at hF
    refine lv_iload_n hx hb dJ7_fill_d0a16_6 rfl (lv_at hl 2 rfl) ?_
    refine lv_iload hx hb dJ7_fill_d0a16_7 (lv_at hl 3 rfl) ?_
    refine lv_icmp_ge (tgt := 22) hx hb dJ7_fill_d0a16_9 (by decide) (fun c_1 => ?_) (fun c_1 => ?_)
    · have hF := it_pos c_1 hF
      obtain rfl := Option.some.inj hF
      exact HR 22 H locs ls dJ7_fill_d0a16_22 hP hD hS
    · have hF := it_neg c_1 hF
      refine lv_aload_n hx hb dJ7_fill_d0a16_12 rfl (lv_at hl 0 rfl) ?_
      refine lv_iload_n hx hb dJ7_fill_d0a16_13 rfl (lv_at hl 2 rfl) ?_
      refine lv_lload_n hx hb dJ7_fill_d0a16_14 rfl (lv_at hl 1 rfl) ?_
      obtain ⟨hg_2, hF⟩ := gd_some hF
      refine xs_l (f := p0) hx hb hK hP hD hS 0 1 rfl rfl rfl (in_v hg_2) dJ7_fill_d0a16_15 (fun H locs hP hD hS => ?_)
      have hP : va_P D vwCl (w_J7_fill_d0a16 K a_p0 n_p0 (vp_updL p0 (x3).toNatClampNeg x1)) H := hP
      have hD : va_D A (w_J7_fill_d0a16 K a_p0 n_p0 (vp_updL p0 (x3).toNatClampNeg x1)) := hD
      refine lv_iinc (v := (x3 + (1 : Int32))) (lv' := [(3, .int (x3 + (1 : Int32))), (0, .ref a_p0), (1, .long x1), (4, .int x4)]) hx hb dJ7_fill_d0a16_16 hl (k := 2) rfl (congrArg (fun z => x3 + z) (by decide)) (by decide) rfl (fun ls hl => ?_)
      refine lv_goto (tgt := 6) hx hb dJ7_fill_d0a16_19 (by decide) ?_
      exact ih (vp_updL p0 (x3).toNatClampNeg x1) x1 (x3 + (1 : Int32)) x4 H locs ls hP hD hS (lv_sub hl [1, 2, 0, 3] rfl) hF
def F_J7_fill_d0a16 (p0 : Nat → Int64) (n_p0 : Nat) (x1 : Int64) : Option ((Nat → Int64)) :=
  L_J7_fill_d0a16_6 n_p0 fu_ p0 x1 (0 : Int32) (nI n_p0)
set_option maxHeartbeats 4000000 in
set_option maxRecDepth 100000 in
theorem c_J7_fill_d0a16 (l : Launch) (D : va_G) (K : Nat → ClassId) (a_p0 : Nat) (n_p0 : Nat) (p0 : Nat → Int64) (x1 : Int64) (res : (Nat → Int64)) (hF : F_J7_fill_d0a16 p0 n_p0 x1 = some res) :
    Mv_ l yJ7_fill_d0a16 wsJ7_fill_d0a16 rmJ7_fill_d0a16 D K [.ref a_p0, .long x1] (w_J7_fill_d0a16 K a_p0 n_p0 p0) (w_J7_fill_d0a16 K a_p0 n_p0 res) := by
  refine en_v (cc := cJ7_fill_d0a16) (maxL := 5) (own := RJ7) (by decide) rfl rfl (Nat.le_of_ble_eq_true rfl) ?_
  intro p e s m args below meth c A Q H locs ls C0 hP hD hS hl HR
  obtain ⟨⟨hx, hb, hml, hown, hts⟩, hK, -⟩ := id C0
  have hl : lv_has ls 5 [(0, .ref a_p0), (1, .long x1)] := hl
  unfold F_J7_fill_d0a16 at hF
  refine lv_iconst (v := 0) hx hb dJ7_fill_d0a16_0 (by decide) ?_
  refine lv_istore_n (lv' := [(3, .int (0 : Int32)), (0, .ref a_p0), (1, .long x1)]) hx hb dJ7_fill_d0a16_1 rfl hl (by decide) rfl (fun ls hl => ?_)
  refine lv_aload_n hx hb dJ7_fill_d0a16_2 rfl (lv_at hl 1 rfl) ?_
  refine va_alen (ty := .long) (v := nI n_p0) hx hb hK hP 0 1 rfl rfl rfl dJ7_fill_d0a16_3 ?_
  refine lv_istore (lv' := [(4, .int (nI n_p0)), (3, .int (0 : Int32)), (0, .ref a_p0), (1, .long x1)]) hx hb dJ7_fill_d0a16_4 hl (by decide) rfl (fun ls hl => ?_)
  exact w_J7_fill_d0a16_6 C0 HR fu_ p0 x1 (0 : Int32) (nI n_p0) H locs ls hP hD hS (lv_sub hl [2, 3, 1, 0] rfl) hF

/-! StaggerRadar.Radar.indexOfGap(I)I -/
abbrev rmX5_indexOfGap : Room := { frames := 0, cells := 0, slots := 0, locals := 0 }
theorem fl_X5_indexOfGap_9 : Cond.fieldLink RX5 9 "StaggerRadar$Radar" "gaps" "[I" ∈ wsX5_indexOfGap := by decide +kernel
theorem fl_X5_indexOfGap_45 : Cond.fieldLink RX5 45 "StaggerRadar$Radar" "gapCount" "I" ∈ wsX5_indexOfGap := by decide +kernel
theorem iw_X5_indexOfGap_X5 : ∀ w ∈ u_ws RX5 TX5 13, w ∈ wsX5_indexOfGap := by decide +kernel
abbrev w_X5_indexOfGap (K : Nat → ClassId) (g_t : Nat → Nat) (t_gapCount : Int32) (t_targetCount : Int32) (t_lookCount : Int32) (t_time : Int32) (t_gone : Int32) (t_gaps : Nat → Int32) : va_W := [((g_t 0), .inr (5, [.ref (g_t 1), .ref (g_t 2), .ref (g_t 3), .ref (g_t 4), .ref (g_t 5), .ref (g_t 6), .ref (g_t 7), .ref (g_t 8), .int t_gapCount, .int t_targetCount, .int t_lookCount, .int t_time, .int t_gone])), ((g_t 1), .inl (K 0, 5, .inl t_gaps))]
def L_X5_indexOfGap_2 (t_gapCount : Int32) (t_gaps : Nat → Int32) : Nat → Int32 → Int32 → Option (Int32)
  | 0, _, _ => none
  | n_ + 1, x1, x2 =>
    if t_gapCount ≤ x2 then (some (-1 : Int32)) else (gd_ (in_b x2 5) (if (t_gaps (x2).toNatClampNeg) = x1 then (some x2) else (L_X5_indexOfGap_2 t_gapCount t_gaps n_ x1 (x2 + (1 : Int32)))))
set_option maxHeartbeats 4000000 in
set_option maxRecDepth 100000 in
theorem w_X5_indexOfGap_2 {p : Program} {l : Launch} {e : Env} {s : State} {m : MethodId} {args : Array Value} {below : List Frame} {meth : Method} {c : Code} {D : va_G} {K : Nat → ClassId} {A : Nat → Prop} {Q : State → Prop} (C0 : cx_ p s m args c cX5_indexOfGap 3 RX5 wsX5_indexOfGap D K A) {g_t : Nat → Nat} {t_gapCount : Int32} {t_targetCount : Int32} {t_lookCount : Int32} {t_time : Int32} {t_gone : Int32} {t_gaps : Nat → Int32} {res : Int32} (HR : ∀ (pc : Nat) (H : Heap) (locs : List Loc) (ls : Array Slot), decode cX5_indexOfGap pc = .ok (.ireturn, 1) → va_P D vwCl (w_X5_indexOfGap K g_t t_gapCount t_targetCount t_lookCount t_time t_gone t_gaps) H → va_D A (w_X5_indexOfGap K g_t t_gapCount t_targetCount t_lookCount t_time t_gone t_gaps) → va_S A s.heap H locs → W p l e rmX5_indexOfGap s m args below meth c H locs 0 0 Q (F0 m pc ls [.int res]))  :
    ∀ (n_ : Nat) (x1 : Int32) (x2 : Int32) (H : Heap) (locs : List Loc) (ls : Array Slot), va_P D vwCl (w_X5_indexOfGap K g_t t_gapCount t_targetCount t_lookCount t_time t_gone t_gaps) H → va_D A (w_X5_indexOfGap K g_t t_gapCount t_targetCount t_lookCount t_time t_gone t_gaps) → va_S A s.heap H locs → lv_has ls 3 [(0, .ref (g_t 0)), (1, .int x1), (2, .int x2)] → L_X5_indexOfGap_2 t_gapCount t_gaps n_ x1 x2 = some res → W p l e rmX5_indexOfGap s m args below meth c H locs 0 0 Q (F0 m 2 ls []) := by
  obtain ⟨⟨hx, hb, hml, hown, hts⟩, hK, -⟩ := id C0
  intro n_
  induction n_ with
  | zero =>
    intro x1 x2 H locs ls hP hD hS hl hF
    exact no_s (show (none : Option (Int32)) = some res from hF)
  | succ n_ ih =>
    intro x1 x2 H locs ls hP hD hS hl hF
    rw [L_X5_indexOfGap_2] at hF
    refine lv_iload_n hx hb dX5_indexOfGap_2 rfl (lv_at hl 2 rfl) ?_
    refine lv_aload_n hx hb dX5_indexOfGap_3 rfl (lv_at hl 0 rfl) ?_
    refine va_get (D := D) (ci := 5) (v := .int t_gapCount) (C := RX5) (T := TX5) (N := 13) hx hb hts iw_X5_indexOfGap_X5 hown hK hP 0 rfl rfl 8 (by decide) (hts _ fl_X5_indexOfGap_45) (fun _ h9 => h9) rfl dX5_indexOfGap_4 ?_
    refine lv_icmp_ge (tgt := 28) hx hb dX5_indexOfGap_7 (by decide) (fun c_1 => ?_) (fun c_1 => ?_)
    · have hF := it_pos c_1 hF
      refine lv_iconst (v := (-1)) hx hb dX5_indexOfGap_28 (by decide) ?_
      obtain rfl := Option.some.inj hF
      exact HR 29 H locs ls dX5_indexOfGap_29 hP hD hS
    · have hF := it_neg c_1 hF
      refine lv_aload_n hx hb dX5_indexOfGap_10 rfl (lv_at hl 0 rfl) ?_
      refine va_get (D := D) (ci := 5) (v := .ref (g_t 1)) (C := RX5) (T := TX5) (N := 13) hx hb hts iw_X5_indexOfGap_X5 hown hK hP 0 rfl rfl 0 (by decide) (hts _ fl_X5_indexOfGap_9) (fun _ h9 => h9) rfl dX5_indexOfGap_11 ?_
      refine lv_iload_n hx hb dX5_indexOfGap_14 rfl (lv_at hl 2 rfl) ?_
      obtain ⟨hg_2, hF⟩ := gd_some hF
      refine xl_i (f := t_gaps) hx hb hK hP 1 0 rfl rfl rfl (in_v hg_2) dX5_indexOfGap_15 ?_
      refine lv_iload_n hx hb dX5_indexOfGap_16 rfl (lv_at hl 1 rfl) ?_
      refine lv_icmp_ne (tgt := 22) hx hb dX5_indexOfGap_17 (by decide) (fun c_3 => ?_) (fun c_3 => ?_)
      · have hF := it_neg c_3 hF
        refine lv_iinc (v := (x2 + (1 : Int32))) (lv' := [(2, .int (x2 + (1 : Int32))), (0, .ref (g_t 0)), (1, .int x1)]) hx hb dX5_indexOfGap_22 hl (k := 2) rfl (congrArg (fun z => x2 + z) (by decide)) (by decide) rfl (fun ls hl => ?_)
        refine lv_goto (tgt := 2) hx hb dX5_indexOfGap_25 (by decide) ?_
        exact ih x1 (x2 + (1 : Int32)) H locs ls hP hD hS (lv_sub hl [1, 2, 0] rfl) hF
      · have hF := it_pos c_3 hF
        refine lv_iload_n hx hb dX5_indexOfGap_20 rfl (lv_at hl 2 rfl) ?_
        obtain rfl := Option.some.inj hF
        exact HR 21 H locs ls dX5_indexOfGap_21 hP hD hS
def F_X5_indexOfGap (t_gapCount : Int32) (t_gaps : Nat → Int32) (x1 : Int32) : Option (Int32) :=
  L_X5_indexOfGap_2 t_gapCount t_gaps fu_ x1 (0 : Int32)
set_option maxHeartbeats 4000000 in
set_option maxRecDepth 100000 in
theorem c_X5_indexOfGap (l : Launch) (D : va_G) (K : Nat → ClassId) (g_t : Nat → Nat) (t_gapCount : Int32) (t_targetCount : Int32) (t_lookCount : Int32) (t_time : Int32) (t_gone : Int32) (t_gaps : Nat → Int32) (x1 : Int32) (res : Int32) (hF : F_X5_indexOfGap t_gapCount t_gaps x1 = some res) :
    Mi_ l yX5_indexOfGap wsX5_indexOfGap rmX5_indexOfGap D K [.ref (g_t 0), .int x1] (w_X5_indexOfGap K g_t t_gapCount t_targetCount t_lookCount t_time t_gone t_gaps) (w_X5_indexOfGap K g_t t_gapCount t_targetCount t_lookCount t_time t_gone t_gaps) (res) := by
  refine en_i (cc := cX5_indexOfGap) (maxL := 3) (own := RX5) (by decide) rfl rfl (Nat.le_of_ble_eq_true rfl) ?_
  intro p e s m args below meth c A Q H locs ls C0 hP hD hS hl HR
  obtain ⟨⟨hx, hb, hml, hown, hts⟩, hK, -⟩ := id C0
  have hl : lv_has ls 3 [(0, .ref (g_t 0)), (1, .int x1)] := hl
  unfold F_X5_indexOfGap at hF
  refine lv_iconst (v := 0) hx hb dX5_indexOfGap_0 (by decide) ?_
  refine lv_istore_n (lv' := [(2, .int (0 : Int32)), (0, .ref (g_t 0)), (1, .int x1)]) hx hb dX5_indexOfGap_1 rfl hl (by decide) rfl (fun ls hl => ?_)
  exact w_X5_indexOfGap_2 C0 HR fu_ x1 (0 : Int32) H locs ls hP hD hS (lv_sub hl [1, 2, 0] rfl) hF

/-! StaggerRadar.Adviser.bestGap(LStaggerRadar$Radar;)I -/
abbrev rmX0_bestGap : Room := { frames := 1, cells := 0, slots := 0, locals := 22 }
theorem fl_X0_bestGap_9 : Cond.fieldLink RX0 9 "StaggerRadar$Adviser" "weight" "[I" ∈ wsX0_bestGap := by decide +kernel
theorem iw_X0_bestGap_X0 : ∀ w ∈ u_ws RX0 TX0 1, w ∈ wsX0_bestGap := by decide +kernel
theorem iw_X0_bestGap_X5 : ∀ w ∈ u_ws RX5 TX5 13, w ∈ wsX0_bestGap := by decide +kernel
abbrev w_X0_bestGap (K : Nat → ClassId) (g_t : Nat → Nat) (g_p1 : Nat → Nat) (t_weight : Nat → Int32) (p1_gapCount : Int32) (p1_targetCount : Int32) (p1_lookCount : Int32) (p1_time : Int32) (p1_gone : Int32) (p1_gaps : Nat → Int32) : va_W := [((g_t 0), .inr (0, [.ref (g_t 1)])), ((g_t 1), .inl (K 0, 61, .inl t_weight)), ((g_p1 0), .inr (5, [.ref (g_p1 1), .ref (g_p1 2), .ref (g_p1 3), .ref (g_p1 4), .ref (g_p1 5), .ref (g_p1 6), .ref (g_p1 7), .ref (g_p1 8), .int p1_gapCount, .int p1_targetCount, .int p1_lookCount, .int p1_time, .int p1_gone])), ((g_p1 1), .inl (K 0, 5, .inl p1_gaps))]
def L_X0_bestGap_4 (t_weight : Nat → Int32) (p1_gapCount : Int32) (p1_gaps : Nat → Int32) : Nat → Int32 → Int32 → Option (Int32)
  | 0, _, _ => none
  | n_ + 1, x2, x3 =>
    if (60 : Int32) < x3 then (some x2) else ((F_X5_indexOfGap p1_gapCount p1_gaps x3).bind fun r_2 => (if r_2 = (-1 : Int32) then (if x2 = (-1 : Int32) then (L_X0_bestGap_4 t_weight p1_gapCount p1_gaps n_ x3 (x3 + (1 : Int32))) else (gd_ (in_b x3 61) (gd_ (in_b x2 61) (if (t_weight (x2).toNatClampNeg) ≤ (t_weight (x3).toNatClampNeg) then (L_X0_bestGap_4 t_weight p1_gapCount p1_gaps n_ x2 (x3 + (1 : Int32))) else (L_X0_bestGap_4 t_weight p1_gapCount p1_gaps n_ x3 (x3 + (1 : Int32))))))) else (L_X0_bestGap_4 t_weight p1_gapCount p1_gaps n_ x2 (x3 + (1 : Int32)))))
set_option maxHeartbeats 4000000 in
set_option maxRecDepth 100000 in
theorem w_X0_bestGap_4 {p : Program} {l : Launch} {e : Env} {s : State} {m : MethodId} {args : Array Value} {below : List Frame} {meth : Method} {c : Code} {D : va_G} {K : Nat → ClassId} {A : Nat → Prop} {Q : State → Prop} (C0 : cx_ p s m args c cX0_bestGap 4 RX0 wsX0_bestGap D K A) {g_t : Nat → Nat} {g_p1 : Nat → Nat} {t_weight : Nat → Int32} {p1_gapCount : Int32} {p1_targetCount : Int32} {p1_lookCount : Int32} {p1_time : Int32} {p1_gone : Int32} {p1_gaps : Nat → Int32} {res : Int32} (HR : ∀ (pc : Nat) (H : Heap) (locs : List Loc) (ls : Array Slot), decode cX0_bestGap pc = .ok (.ireturn, 1) → va_P D vwCl (w_X0_bestGap K g_t g_p1 t_weight p1_gapCount p1_targetCount p1_lookCount p1_time p1_gone p1_gaps) H → va_D A (w_X0_bestGap K g_t g_p1 t_weight p1_gapCount p1_targetCount p1_lookCount p1_time p1_gone p1_gaps) → va_S A s.heap H locs → W p l e rmX0_bestGap s m args below meth c H locs 0 0 Q (F0 m pc ls [.int res]))  :
    ∀ (n_ : Nat) (x2 : Int32) (x3 : Int32) (H : Heap) (locs : List Loc) (ls : Array Slot), va_P D vwCl (w_X0_bestGap K g_t g_p1 t_weight p1_gapCount p1_targetCount p1_lookCount p1_time p1_gone p1_gaps) H → va_D A (w_X0_bestGap K g_t g_p1 t_weight p1_gapCount p1_targetCount p1_lookCount p1_time p1_gone p1_gaps) → va_S A s.heap H locs → lv_has ls 4 [(0, .ref (g_t 0)), (1, .ref (g_p1 0)), (2, .int x2), (3, .int x3)] → L_X0_bestGap_4 t_weight p1_gapCount p1_gaps n_ x2 x3 = some res → W p l e rmX0_bestGap s m args below meth c H locs 0 0 Q (F0 m 4 ls []) := by
  obtain ⟨⟨hx, hb, hml, hown, hts⟩, hK, -⟩ := id C0
  intro n_
  induction n_ with
  | zero =>
    intro x2 x3 H locs ls hP hD hS hl hF
    exact no_s (show (none : Option (Int32)) = some res from hF)
  | succ n_ ih =>
    intro x2 x3 H locs ls hP hD hS hl hF
    rw [L_X0_bestGap_4] at hF
    refine lv_iload_n hx hb dX0_bestGap_4 rfl (lv_at hl 3 rfl) ?_
    refine lv_bipush (v := 60) hx hb dX0_bestGap_5 (by decide) ?_
    refine lv_icmp_gt (tgt := 47) hx hb dX0_bestGap_7 (by decide) (fun c_1 => ?_) (fun c_1 => ?_)
    · have hF := it_pos c_1 hF
      refine lv_iload_n hx hb dX0_bestGap_47 rfl (lv_at hl 2 rfl) ?_
      obtain rfl := Option.some.inj hF
      exact HR 48 H locs ls dX0_bestGap_48 hP hD hS
    · have hF := it_neg c_1 hF
      refine lv_aload_n hx hb dX0_bestGap_10 rfl (lv_at hl 1 rfl) ?_
      refine lv_iload_n hx hb dX0_bestGap_11 rfl (lv_at hl 3 rfl) ?_
      obtain ⟨r_2, hc_3, hF⟩ := bn_some hF
      refine xc_i (wn := (w_X0_bestGap K g_t g_p1 t_weight p1_gapCount p1_targetCount p1_lookCount p1_time p1_gone p1_gaps)) hP hD hS C0.2.2.1 [2, 3] [0, 1] [0, 1, 2, 3] rfl rfl (by decide) (by decide) rfl (by decide) (va_runV (As := [.int x3]) (rest := []) C0.1 (c_X5_indexOfGap l D K g_p1 p1_gapCount p1_targetCount p1_lookCount p1_time p1_gone p1_gaps x3 r_2 hc_3 H.size) (cwV 1 hts gX0_bestGap_X5_indexOfGap rfl rfl rfl (by decide +kernel) ⟨Nat.le_of_ble_eq_true rfl, Nat.le_of_ble_eq_true rfl⟩) (xp_V C0.2 hP hD hS [2, 3] rfl (by decide) 5 0 rfl rfl rfl) rfl rfl hl.1 rfl (lv_room (Nat.le_of_ble_eq_true rfl)) dX0_bestGap_12 ⟨Nat.le_of_ble_eq_true rfl, Nat.le_of_ble_eq_true rfl⟩) (fun H locs hP hD hS => ?_)
      refine lv_iconst (v := (-1)) hx hb dX0_bestGap_15 (by decide) ?_
      refine lv_icmp_ne (tgt := 41) hx hb dX0_bestGap_16 (by decide) (fun c_4 => ?_) (fun c_4 => ?_)
      · have hF := it_neg c_4 hF
        refine lv_iinc (v := (x3 + (1 : Int32))) (lv' := [(3, .int (x3 + (1 : Int32))), (0, .ref (g_t 0)), (1, .ref (g_p1 0)), (2, .int x2)]) hx hb dX0_bestGap_41 hl (k := 3) rfl (congrArg (fun z => x3 + z) (by decide)) (by decide) rfl (fun ls hl => ?_)
        refine lv_goto (tgt := 4) hx hb dX0_bestGap_44 (by decide) ?_
        exact ih x2 (x3 + (1 : Int32)) H locs ls hP hD hS (lv_sub hl [1, 2, 3, 0] rfl) hF
      · have hF := it_pos c_4 hF
        refine lv_iload_n hx hb dX0_bestGap_19 rfl (lv_at hl 2 rfl) ?_
        refine lv_iconst (v := (-1)) hx hb dX0_bestGap_20 (by decide) ?_
        refine lv_icmp_eq (tgt := 39) hx hb dX0_bestGap_21 (by decide) (fun c_5 => ?_) (fun c_5 => ?_)
        · have hF := it_pos c_5 hF
          refine lv_iload_n hx hb dX0_bestGap_39 rfl (lv_at hl 3 rfl) ?_
          refine lv_istore_n (lv' := [(2, .int x3), (0, .ref (g_t 0)), (1, .ref (g_p1 0)), (3, .int x3)]) hx hb dX0_bestGap_40 rfl hl (by decide) rfl (fun ls hl => ?_)
          refine lv_iinc (v := (x3 + (1 : Int32))) (lv' := [(3, .int (x3 + (1 : Int32))), (2, .int x3), (0, .ref (g_t 0)), (1, .ref (g_p1 0))]) hx hb dX0_bestGap_41 hl (k := 3) rfl (congrArg (fun z => x3 + z) (by decide)) (by decide) rfl (fun ls hl => ?_)
          refine lv_goto (tgt := 4) hx hb dX0_bestGap_44 (by decide) ?_
          exact ih x3 (x3 + (1 : Int32)) H locs ls hP hD hS (lv_sub hl [2, 3, 1, 0] rfl) hF
        · have hF := it_neg c_5 hF
          refine lv_aload_n hx hb dX0_bestGap_24 rfl (lv_at hl 0 rfl) ?_
          refine va_get (D := D) (ci := 0) (v := .ref (g_t 1)) (C := RX0) (T := TX0) (N := 1) hx hb hts iw_X0_bestGap_X0 hown hK hP 0 rfl rfl 0 (by decide) (hts _ fl_X0_bestGap_9) (fun _ h9 => h9) rfl dX0_bestGap_25 ?_
          refine lv_iload_n hx hb dX0_bestGap_28 rfl (lv_at hl 3 rfl) ?_
          obtain ⟨hg_6, hF⟩ := gd_some hF
          refine xl_i (f := t_weight) hx hb hK hP 1 0 rfl rfl rfl (in_v hg_6) dX0_bestGap_29 ?_
          refine lv_aload_n hx hb dX0_bestGap_30 rfl (lv_at hl 0 rfl) ?_
          refine va_get (D := D) (ci := 0) (v := .ref (g_t 1)) (C := RX0) (T := TX0) (N := 1) hx hb hts iw_X0_bestGap_X0 hown hK hP 0 rfl rfl 0 (by decide) (hts _ fl_X0_bestGap_9) (fun _ h9 => h9) rfl dX0_bestGap_31 ?_
          refine lv_iload_n hx hb dX0_bestGap_34 rfl (lv_at hl 2 rfl) ?_
          obtain ⟨hg_7, hF⟩ := gd_some hF
          refine xl_i (f := t_weight) hx hb hK hP 1 0 rfl rfl rfl (in_v hg_7) dX0_bestGap_35 ?_
          refine lv_icmp_ge (tgt := 41) hx hb dX0_bestGap_36 (by decide) (fun c_8 => ?_) (fun c_8 => ?_)
          · have hF := it_pos c_8 hF
            refine lv_iinc (v := (x3 + (1 : Int32))) (lv' := [(3, .int (x3 + (1 : Int32))), (0, .ref (g_t 0)), (1, .ref (g_p1 0)), (2, .int x2)]) hx hb dX0_bestGap_41 hl (k := 3) rfl (congrArg (fun z => x3 + z) (by decide)) (by decide) rfl (fun ls hl => ?_)
            refine lv_goto (tgt := 4) hx hb dX0_bestGap_44 (by decide) ?_
            exact ih x2 (x3 + (1 : Int32)) H locs ls hP hD hS (lv_sub hl [1, 2, 3, 0] rfl) hF
          · have hF := it_neg c_8 hF
            refine lv_iload_n hx hb dX0_bestGap_39 rfl (lv_at hl 3 rfl) ?_
            refine lv_istore_n (lv' := [(2, .int x3), (0, .ref (g_t 0)), (1, .ref (g_p1 0)), (3, .int x3)]) hx hb dX0_bestGap_40 rfl hl (by decide) rfl (fun ls hl => ?_)
            refine lv_iinc (v := (x3 + (1 : Int32))) (lv' := [(3, .int (x3 + (1 : Int32))), (2, .int x3), (0, .ref (g_t 0)), (1, .ref (g_p1 0))]) hx hb dX0_bestGap_41 hl (k := 3) rfl (congrArg (fun z => x3 + z) (by decide)) (by decide) rfl (fun ls hl => ?_)
            refine lv_goto (tgt := 4) hx hb dX0_bestGap_44 (by decide) ?_
            exact ih x3 (x3 + (1 : Int32)) H locs ls hP hD hS (lv_sub hl [2, 3, 1, 0] rfl) hF
def F_X0_bestGap (t_weight : Nat → Int32) (p1_gapCount : Int32) (p1_gaps : Nat → Int32) : Option (Int32) :=
  L_X0_bestGap_4 t_weight p1_gapCount p1_gaps fu_ (-1 : Int32) (4 : Int32)
set_option maxHeartbeats 4000000 in
set_option maxRecDepth 100000 in
theorem c_X0_bestGap (l : Launch) (D : va_G) (K : Nat → ClassId) (g_t : Nat → Nat) (g_p1 : Nat → Nat) (t_weight : Nat → Int32) (p1_gapCount : Int32) (p1_targetCount : Int32) (p1_lookCount : Int32) (p1_time : Int32) (p1_gone : Int32) (p1_gaps : Nat → Int32) (res : Int32) (hF : F_X0_bestGap t_weight p1_gapCount p1_gaps = some res) :
    Mi_ l yX0_bestGap wsX0_bestGap rmX0_bestGap D K [.ref (g_t 0), .ref (g_p1 0)] (w_X0_bestGap K g_t g_p1 t_weight p1_gapCount p1_targetCount p1_lookCount p1_time p1_gone p1_gaps) (w_X0_bestGap K g_t g_p1 t_weight p1_gapCount p1_targetCount p1_lookCount p1_time p1_gone p1_gaps) (res) := by
  refine en_i (cc := cX0_bestGap) (maxL := 4) (own := RX0) (by decide) rfl rfl (Nat.le_of_ble_eq_true rfl) ?_
  intro p e s m args below meth c A Q H locs ls C0 hP hD hS hl HR
  obtain ⟨⟨hx, hb, hml, hown, hts⟩, hK, -⟩ := id C0
  have hl : lv_has ls 4 [(0, .ref (g_t 0)), (1, .ref (g_p1 0))] := hl
  unfold F_X0_bestGap at hF
  refine lv_iconst (v := (-1)) hx hb dX0_bestGap_0 (by decide) ?_
  refine lv_istore_n (lv' := [(2, .int (-1 : Int32)), (0, .ref (g_t 0)), (1, .ref (g_p1 0))]) hx hb dX0_bestGap_1 rfl hl (by decide) rfl (fun ls hl => ?_)
  refine lv_iconst (v := 4) hx hb dX0_bestGap_2 (by decide) ?_
  refine lv_istore_n (lv' := [(3, .int (4 : Int32)), (2, .int (-1 : Int32)), (0, .ref (g_t 0)), (1, .ref (g_p1 0))]) hx hb dX0_bestGap_3 rfl hl (by decide) rfl (fun ls hl => ?_)
  exact w_X0_bestGap_4 C0 HR fu_ (-1 : Int32) (4 : Int32) H locs ls hP hD hS (lv_sub hl [2, 3, 1, 0] rfl) hF

/-! StaggerRadar.rest(II)I -/
abbrev rmX10_rest : Room := { frames := 0, cells := 0, slots := 0, locals := 0 }
abbrev w_X10_rest (K : Nat → ClassId) : va_W := []
def F_X10_rest (x0 : Int32) (x1 : Int32) : Option (Int32) :=
  if (0 : Int32) < x1 then (gd_ (decide (¬ x1 = 0)) (if (0 : Int32) ≤ (x0 - x0 / x1 * x1) then (some (x0 - x0 / x1 * x1)) else (some ((x0 - x0 / x1 * x1) + x1)))) else (some (0 : Int32))
set_option maxHeartbeats 4000000 in
set_option maxRecDepth 100000 in
theorem c_X10_rest (l : Launch) (D : va_G) (K : Nat → ClassId) (x0 : Int32) (x1 : Int32) (res : Int32) (hF : F_X10_rest x0 x1 = some res) :
    Mi_ l yX10_rest wsX10_rest rmX10_rest D K [.int x0, .int x1] (w_X10_rest K) (w_X10_rest K) (res) := by
  refine en_i (cc := cX10_rest) (maxL := 3) (own := RX10) (by decide) rfl rfl (Nat.le_of_ble_eq_true rfl) ?_
  intro p e s m args below meth c A Q H locs ls C0 hP hD hS hl HR
  obtain ⟨⟨hx, hb, hml, hown, hts⟩, hK, -⟩ := id C0
  have hl : lv_has ls 3 [(0, .int x0), (1, .int x1)] := hl
  unfold F_X10_rest at hF
  refine lv_iload_n hx hb dX10_rest_0 rfl (lv_at hl 1 rfl) ?_
  refine lv_if_gt (tgt := 6) hx hb dX10_rest_1 (by decide) (fun c_1 => ?_) (fun c_1 => ?_)
  · have hF := it_pos c_1 hF
    refine lv_iload_n hx hb dX10_rest_6 rfl (lv_at hl 0 rfl) ?_
    refine lv_iload_n hx hb dX10_rest_7 rfl (lv_at hl 1 rfl) ?_
    obtain ⟨hg_2, hF⟩ := gd_some hF
    refine lv_irem hx hb dX10_rest_8 (ne_of hg_2) ?_
    refine lv_istore_n (lv' := [(2, .int (x0 - x0 / x1 * x1)), (0, .int x0), (1, .int x1)]) hx hb dX10_rest_9 rfl hl (by decide) rfl (fun ls hl => ?_)
    refine lv_iload_n hx hb dX10_rest_10 rfl (lv_at hl 0 rfl) ?_
    refine lv_if_ge (tgt := 20) hx hb dX10_rest_11 (by decide) (fun c_3 => ?_) (fun c_3 => ?_)
    · have hF := it_pos c_3 hF
      refine lv_iload_n hx hb dX10_rest_20 rfl (lv_at hl 0 rfl) ?_
      obtain rfl := Option.some.inj hF
      exact HR 21 H locs ls dX10_rest_21 hP hD hS
    · have hF := it_neg c_3 hF
      refine lv_iload_n hx hb dX10_rest_14 rfl (lv_at hl 0 rfl) ?_
      refine lv_iload_n hx hb dX10_rest_15 rfl (lv_at hl 2 rfl) ?_
      refine lv_iadd hx hb dX10_rest_16 ?_
      refine lv_goto (tgt := 21) hx hb dX10_rest_17 (by decide) ?_
      obtain rfl := Option.some.inj hF
      exact HR 21 H locs ls dX10_rest_21 hP hD hS
  · have hF := it_neg c_1 hF
    refine lv_iconst (v := 0) hx hb dX10_rest_4 (by decide) ?_
    obtain rfl := Option.some.inj hF
    exact HR 5 H locs ls dX10_rest_5 hP hD hS

/-! StaggerRadar.Radar.hides(II)Z -/
abbrev rmX5_hides : Room := { frames := 1, cells := 0, slots := 0, locals := 22 }
theorem fl_X5_hides_15 : Cond.fieldLink RX5 15 "StaggerRadar$Radar" "settings" "[I" ∈ wsX5_hides := by decide +kernel
theorem iw_X5_hides_X5 : ∀ w ∈ u_ws RX5 TX5 13, w ∈ wsX5_hides := by decide +kernel
abbrev w_X5_hides (K : Nat → ClassId) (g_t : Nat → Nat) (t_gapCount : Int32) (t_targetCount : Int32) (t_lookCount : Int32) (t_time : Int32) (t_gone : Int32) (t_settings : Nat → Int32) : va_W := [((g_t 0), .inr (5, [.ref (g_t 1), .ref (g_t 2), .ref (g_t 3), .ref (g_t 4), .ref (g_t 5), .ref (g_t 6), .ref (g_t 7), .ref (g_t 8), .int t_gapCount, .int t_targetCount, .int t_lookCount, .int t_time, .int t_gone])), ((g_t 2), .inl (K 0, 7, .inl t_settings))]
def F_X5_hides (t_settings : Nat → Int32) (x1 : Int32) (x2 : Int32) : Option (Int32) :=
  (F_X10_rest (x1 * x2) (t_settings 0)).bind fun r_1 => (if r_1 ≤ (t_settings 1) then (some (1 : Int32)) else (if (t_settings 1) < ((t_settings 0) - r_1) then (some (0 : Int32)) else (some (1 : Int32))))
set_option maxHeartbeats 4000000 in
set_option maxRecDepth 100000 in
theorem c_X5_hides (l : Launch) (D : va_G) (K : Nat → ClassId) (g_t : Nat → Nat) (t_gapCount : Int32) (t_targetCount : Int32) (t_lookCount : Int32) (t_time : Int32) (t_gone : Int32) (t_settings : Nat → Int32) (x1 : Int32) (x2 : Int32) (res : Int32) (hF : F_X5_hides t_settings x1 x2 = some res) :
    Mi_ l yX5_hides wsX5_hides rmX5_hides D K [.ref (g_t 0), .int x1, .int x2] (w_X5_hides K g_t t_gapCount t_targetCount t_lookCount t_time t_gone t_settings) (w_X5_hides K g_t t_gapCount t_targetCount t_lookCount t_time t_gone t_settings) (res) := by
  refine en_z (cc := cX5_hides) (maxL := 4) (own := RX5) (by decide) rfl rfl (Nat.le_of_ble_eq_true rfl) ?_
  intro p e s m args below meth c A Q H locs ls C0 hP hD hS hl HR
  obtain ⟨⟨hx, hb, hml, hown, hts⟩, hK, -⟩ := id C0
  have hl : lv_has ls 4 [(0, .ref (g_t 0)), (1, .int x1), (2, .int x2)] := hl
  unfold F_X5_hides at hF
  refine lv_iload_n hx hb dX5_hides_0 rfl (lv_at hl 1 rfl) ?_
  refine lv_iload_n hx hb dX5_hides_1 rfl (lv_at hl 2 rfl) ?_
  refine lv_imul hx hb dX5_hides_2 ?_
  refine lv_aload_n hx hb dX5_hides_3 rfl (lv_at hl 0 rfl) ?_
  refine va_get (D := D) (ci := 5) (v := .ref (g_t 2)) (C := RX5) (T := TX5) (N := 13) hx hb hts iw_X5_hides_X5 hown hK hP 0 rfl rfl 1 (by decide) (hts _ fl_X5_hides_15) (fun _ h9 => h9) rfl dX5_hides_4 ?_
  refine lv_iconst (v := 0) hx hb dX5_hides_7 (by decide) ?_
  refine xl_i (f := t_settings) hx hb hK hP 1 0 rfl rfl (k := 0) (by decide) (in_v (by decide)) dX5_hides_8 ?_
  obtain ⟨r_1, hc_2, hF⟩ := bn_some hF
  refine xc_i (wn := (w_X5_hides K g_t t_gapCount t_targetCount t_lookCount t_time t_gone t_settings)) hP hD hS C0.2.2.1 [] [0, 1] [0, 1] rfl rfl (by decide) (by decide) rfl (by decide) (va_runSN (host := "StaggerRadar") (As := [.int (x1 * x2), .int (t_settings 0)]) (rest := []) C0.1 (c_X10_rest l D K (x1 * x2) (t_settings 0) r_1 hc_2 H.size) ⟨va_cnB 2 hts gX5_hides_X10_rest_n88 rfl rfl rfl (C0.2.2.2.1.1 ("StaggerRadar$Radar", 88, ⟨"StaggerRadar", "rest", "(II)I"⟩, "StaggerRadar") (by decide +kernel)) (hts (.initialized RX10) (by decide +kernel)) (by decide +kernel) ⟨Nat.le_of_ble_eq_true rfl, Nat.le_of_ble_eq_true rfl⟩, hts (.static yX10_rest) (by decide +kernel), trivial⟩ (xp_S C0.2 hP hD hS [] rfl (by decide)) rfl rfl hl.1 rfl (lv_room (Nat.le_of_ble_eq_true rfl)) dX5_hides_9 ⟨Nat.le_of_ble_eq_true rfl, Nat.le_of_ble_eq_true rfl⟩) (fun H locs hP hD hS => ?_)
  refine lv_istore_n (lv' := [(3, .int r_1), (0, .ref (g_t 0)), (1, .int x1), (2, .int x2)]) hx hb dX5_hides_12 rfl hl (by decide) rfl (fun ls hl => ?_)
  refine lv_iload_n hx hb dX5_hides_13 rfl (lv_at hl 0 rfl) ?_
  refine lv_aload_n hx hb dX5_hides_14 rfl (lv_at hl 1 rfl) ?_
  refine va_get (D := D) (ci := 5) (v := .ref (g_t 2)) (C := RX5) (T := TX5) (N := 13) hx hb hts iw_X5_hides_X5 hown hK hP 0 rfl rfl 1 (by decide) (hts _ fl_X5_hides_15) (fun _ h9 => h9) rfl dX5_hides_15 ?_
  refine lv_iconst (v := 1) hx hb dX5_hides_18 (by decide) ?_
  refine xl_i (f := t_settings) hx hb hK hP 1 0 rfl rfl (k := 1) (by decide) (in_v (by decide)) dX5_hides_19 ?_
  refine lv_icmp_le (tgt := 40) hx hb dX5_hides_20 (by decide) (fun c_3 => ?_) (fun c_3 => ?_)
  · have hF := it_pos c_3 hF
    refine lv_iconst (v := 1) hx hb dX5_hides_40 (by decide) ?_
    refine lv_goto (tgt := 45) hx hb dX5_hides_41 (by decide) ?_
    obtain rfl := Option.some.inj hF
    exact HR 45 H locs ls dX5_hides_45 narrow_b1 hP hD hS
  · have hF := it_neg c_3 hF
    refine lv_aload_n hx hb dX5_hides_23 rfl (lv_at hl 1 rfl) ?_
    refine va_get (D := D) (ci := 5) (v := .ref (g_t 2)) (C := RX5) (T := TX5) (N := 13) hx hb hts iw_X5_hides_X5 hown hK hP 0 rfl rfl 1 (by decide) (hts _ fl_X5_hides_15) (fun _ h9 => h9) rfl dX5_hides_24 ?_
    refine lv_iconst (v := 0) hx hb dX5_hides_27 (by decide) ?_
    refine xl_i (f := t_settings) hx hb hK hP 1 0 rfl rfl (k := 0) (by decide) (in_v (by decide)) dX5_hides_28 ?_
    refine lv_iload_n hx hb dX5_hides_29 rfl (lv_at hl 0 rfl) ?_
    refine lv_isub hx hb dX5_hides_30 ?_
    refine lv_aload_n hx hb dX5_hides_31 rfl (lv_at hl 1 rfl) ?_
    refine va_get (D := D) (ci := 5) (v := .ref (g_t 2)) (C := RX5) (T := TX5) (N := 13) hx hb hts iw_X5_hides_X5 hown hK hP 0 rfl rfl 1 (by decide) (hts _ fl_X5_hides_15) (fun _ h9 => h9) rfl dX5_hides_32 ?_
    refine lv_iconst (v := 1) hx hb dX5_hides_35 (by decide) ?_
    refine xl_i (f := t_settings) hx hb hK hP 1 0 rfl rfl (k := 1) (by decide) (in_v (by decide)) dX5_hides_36 ?_
    refine lv_icmp_gt (tgt := 44) hx hb dX5_hides_37 (by decide) (fun c_4 => ?_) (fun c_4 => ?_)
    · have hF := it_pos c_4 hF
      refine lv_iconst (v := 0) hx hb dX5_hides_44 (by decide) ?_
      obtain rfl := Option.some.inj hF
      exact HR 45 H locs ls dX5_hides_45 narrow_b0 hP hD hS
    · have hF := it_neg c_4 hF
      refine lv_iconst (v := 1) hx hb dX5_hides_40 (by decide) ?_
      refine lv_goto (tgt := 45) hx hb dX5_hides_41 (by decide) ?_
      obtain rfl := Option.some.inj hF
      exact HR 45 H locs ls dX5_hides_45 narrow_b1 hP hD hS

/-! StaggerRadar.Speeds.blindGaps(LStaggerRadar$Radar;I)I -/
abbrev rmX7_blindGaps : Room := { frames := 2, cells := 0, slots := 0, locals := 45 }
theorem fl_X7_blindGaps_9 : Cond.fieldLink RX7 9 "StaggerRadar$Radar" "gapCount" "I" ∈ wsX7_blindGaps := by decide +kernel
theorem fl_X7_blindGaps_15 : Cond.fieldLink RX7 15 "StaggerRadar$Radar" "gaps" "[I" ∈ wsX7_blindGaps := by decide +kernel
theorem iw_X7_blindGaps_X5 : ∀ w ∈ u_ws RX5 TX5 13, w ∈ wsX7_blindGaps := by decide +kernel
abbrev w_X7_blindGaps (K : Nat → ClassId) (g_p0 : Nat → Nat) (p0_gapCount : Int32) (p0_targetCount : Int32) (p0_lookCount : Int32) (p0_time : Int32) (p0_gone : Int32) (p0_gaps : Nat → Int32) (p0_settings : Nat → Int32) : va_W := [((g_p0 0), .inr (5, [.ref (g_p0 1), .ref (g_p0 2), .ref (g_p0 3), .ref (g_p0 4), .ref (g_p0 5), .ref (g_p0 6), .ref (g_p0 7), .ref (g_p0 8), .int p0_gapCount, .int p0_targetCount, .int p0_lookCount, .int p0_time, .int p0_gone])), ((g_p0 1), .inl (K 0, 5, .inl p0_gaps)), ((g_p0 2), .inl (K 0, 7, .inl p0_settings))]
def L_X7_blindGaps_4 (p0_gapCount : Int32) (p0_gaps : Nat → Int32) (p0_settings : Nat → Int32) : Nat → Int32 → Int32 → Int32 → Option (Int32)
  | 0, _, _, _ => none
  | n_ + 1, x1, x2, x3 =>
    if p0_gapCount ≤ x3 then (some x2) else (gd_ (in_b x3 5) ((F_X5_hides p0_settings x1 (p0_gaps (x3).toNatClampNeg)).bind fun r_3 => (if r_3 = (0 : Int32) then (L_X7_blindGaps_4 p0_gapCount p0_gaps p0_settings n_ x1 x2 (x3 + (1 : Int32))) else (L_X7_blindGaps_4 p0_gapCount p0_gaps p0_settings n_ x1 (x2 ||| ((1 : Int32) <<< (x3 &&& 31))) (x3 + (1 : Int32))))))
set_option maxHeartbeats 4000000 in
set_option maxRecDepth 100000 in
theorem w_X7_blindGaps_4 {p : Program} {l : Launch} {e : Env} {s : State} {m : MethodId} {args : Array Value} {below : List Frame} {meth : Method} {c : Code} {D : va_G} {K : Nat → ClassId} {A : Nat → Prop} {Q : State → Prop} (C0 : cx_ p s m args c cX7_blindGaps 4 RX7 wsX7_blindGaps D K A) {g_p0 : Nat → Nat} {p0_gapCount : Int32} {p0_targetCount : Int32} {p0_lookCount : Int32} {p0_time : Int32} {p0_gone : Int32} {p0_gaps : Nat → Int32} {p0_settings : Nat → Int32} {res : Int32} (HR : ∀ (pc : Nat) (H : Heap) (locs : List Loc) (ls : Array Slot), decode cX7_blindGaps pc = .ok (.ireturn, 1) → va_P D vwCl (w_X7_blindGaps K g_p0 p0_gapCount p0_targetCount p0_lookCount p0_time p0_gone p0_gaps p0_settings) H → va_D A (w_X7_blindGaps K g_p0 p0_gapCount p0_targetCount p0_lookCount p0_time p0_gone p0_gaps p0_settings) → va_S A s.heap H locs → W p l e rmX7_blindGaps s m args below meth c H locs 0 0 Q (F0 m pc ls [.int res]))  :
    ∀ (n_ : Nat) (x1 : Int32) (x2 : Int32) (x3 : Int32) (H : Heap) (locs : List Loc) (ls : Array Slot), va_P D vwCl (w_X7_blindGaps K g_p0 p0_gapCount p0_targetCount p0_lookCount p0_time p0_gone p0_gaps p0_settings) H → va_D A (w_X7_blindGaps K g_p0 p0_gapCount p0_targetCount p0_lookCount p0_time p0_gone p0_gaps p0_settings) → va_S A s.heap H locs → lv_has ls 4 [(0, .ref (g_p0 0)), (1, .int x1), (2, .int x2), (3, .int x3)] → L_X7_blindGaps_4 p0_gapCount p0_gaps p0_settings n_ x1 x2 x3 = some res → W p l e rmX7_blindGaps s m args below meth c H locs 0 0 Q (F0 m 4 ls []) := by
  obtain ⟨⟨hx, hb, hml, hown, hts⟩, hK, -⟩ := id C0
  intro n_
  induction n_ with
  | zero =>
    intro x1 x2 x3 H locs ls hP hD hS hl hF
    exact no_s (show (none : Option (Int32)) = some res from hF)
  | succ n_ ih =>
    intro x1 x2 x3 H locs ls hP hD hS hl hF
    rw [L_X7_blindGaps_4] at hF
    refine lv_iload_n hx hb dX7_blindGaps_4 rfl (lv_at hl 3 rfl) ?_
    refine lv_aload_n hx hb dX7_blindGaps_5 rfl (lv_at hl 0 rfl) ?_
    refine va_get (D := D) (ci := 5) (v := .int p0_gapCount) (C := RX5) (T := TX5) (N := 13) hx hb hts iw_X7_blindGaps_X5 hown hK hP 0 rfl rfl 8 (by decide) (hts _ fl_X7_blindGaps_9) (fun _ h9 => h9) rfl dX7_blindGaps_6 ?_
    refine lv_icmp_ge (tgt := 38) hx hb dX7_blindGaps_9 (by decide) (fun c_1 => ?_) (fun c_1 => ?_)
    · have hF := it_pos c_1 hF
      refine lv_iload_n hx hb dX7_blindGaps_38 rfl (lv_at hl 2 rfl) ?_
      obtain rfl := Option.some.inj hF
      exact HR 39 H locs ls dX7_blindGaps_39 hP hD hS
    · have hF := it_neg c_1 hF
      refine lv_aload_n hx hb dX7_blindGaps_12 rfl (lv_at hl 0 rfl) ?_
      refine lv_iload_n hx hb dX7_blindGaps_13 rfl (lv_at hl 1 rfl) ?_
      refine lv_aload_n hx hb dX7_blindGaps_14 rfl (lv_at hl 0 rfl) ?_
      refine va_get (D := D) (ci := 5) (v := .ref (g_p0 1)) (C := RX5) (T := TX5) (N := 13) hx hb hts iw_X7_blindGaps_X5 hown hK hP 0 rfl rfl 0 (by decide) (hts _ fl_X7_blindGaps_15) (fun _ h9 => h9) rfl dX7_blindGaps_15 ?_
      refine lv_iload_n hx hb dX7_blindGaps_18 rfl (lv_at hl 3 rfl) ?_
      obtain ⟨hg_2, hF⟩ := gd_some hF
      refine xl_i (f := p0_gaps) hx hb hK hP 1 0 rfl rfl rfl (in_v hg_2) dX7_blindGaps_19 ?_
      obtain ⟨r_3, hc_4, hF⟩ := bn_some hF
      refine xc_i (wn := (w_X7_blindGaps K g_p0 p0_gapCount p0_targetCount p0_lookCount p0_time p0_gone p0_gaps p0_settings)) hP hD hS C0.2.2.1 [0, 2] [1] [1, 0, 2] rfl rfl (by decide) (by decide) rfl (by decide) (va_runV (As := [.int x1, .int (p0_gaps (x3).toNatClampNeg)]) (rest := []) C0.1 (c_X5_hides l D K g_p0 p0_gapCount p0_targetCount p0_lookCount p0_time p0_gone p0_settings x1 (p0_gaps (x3).toNatClampNeg) r_3 hc_4 H.size) (cwV 2 hts gX7_blindGaps_X5_hides rfl rfl rfl (by decide +kernel) ⟨Nat.le_of_ble_eq_true rfl, Nat.le_of_ble_eq_true rfl⟩) (xp_V C0.2 hP hD hS [0, 2] rfl (by decide) 5 0 rfl rfl rfl) rfl rfl hl.1 rfl (lv_room (Nat.le_of_ble_eq_true rfl)) dX7_blindGaps_20 ⟨Nat.le_of_ble_eq_true rfl, Nat.le_of_ble_eq_true rfl⟩) (fun H locs hP hD hS => ?_)
      refine lv_if_eq (tgt := 32) hx hb dX7_blindGaps_23 (by decide) (fun c_5 => ?_) (fun c_5 => ?_)
      · have hF := it_pos c_5 hF
        refine lv_iinc (v := (x3 + (1 : Int32))) (lv' := [(3, .int (x3 + (1 : Int32))), (0, .ref (g_p0 0)), (1, .int x1), (2, .int x2)]) hx hb dX7_blindGaps_32 hl (k := 3) rfl (congrArg (fun z => x3 + z) (by decide)) (by decide) rfl (fun ls hl => ?_)
        refine lv_goto (tgt := 4) hx hb dX7_blindGaps_35 (by decide) ?_
        exact ih x1 x2 (x3 + (1 : Int32)) H locs ls hP hD hS (lv_sub hl [1, 2, 3, 0] rfl) hF
      · have hF := it_neg c_5 hF
        refine lv_iload_n hx hb dX7_blindGaps_26 rfl (lv_at hl 2 rfl) ?_
        refine lv_iconst (v := 1) hx hb dX7_blindGaps_27 (by decide) ?_
        refine lv_iload_n hx hb dX7_blindGaps_28 rfl (lv_at hl 3 rfl) ?_
        refine lv_ishl hx hb dX7_blindGaps_29 ?_
        refine lv_ior hx hb dX7_blindGaps_30 ?_
        refine lv_istore_n (lv' := [(2, .int (x2 ||| ((1 : Int32) <<< (x3 &&& 31)))), (0, .ref (g_p0 0)), (1, .int x1), (3, .int x3)]) hx hb dX7_blindGaps_31 rfl hl (by decide) rfl (fun ls hl => ?_)
        refine lv_iinc (v := (x3 + (1 : Int32))) (lv' := [(3, .int (x3 + (1 : Int32))), (2, .int (x2 ||| ((1 : Int32) <<< (x3 &&& 31)))), (0, .ref (g_p0 0)), (1, .int x1)]) hx hb dX7_blindGaps_32 hl (k := 3) rfl (congrArg (fun z => x3 + z) (by decide)) (by decide) rfl (fun ls hl => ?_)
        refine lv_goto (tgt := 4) hx hb dX7_blindGaps_35 (by decide) ?_
        exact ih x1 (x2 ||| ((1 : Int32) <<< (x3 &&& 31))) (x3 + (1 : Int32)) H locs ls hP hD hS (lv_sub hl [2, 3, 1, 0] rfl) hF
def F_X7_blindGaps (p0_gapCount : Int32) (p0_gaps : Nat → Int32) (p0_settings : Nat → Int32) (x1 : Int32) : Option (Int32) :=
  L_X7_blindGaps_4 p0_gapCount p0_gaps p0_settings fu_ x1 (0 : Int32) (0 : Int32)
set_option maxHeartbeats 4000000 in
set_option maxRecDepth 100000 in
theorem c_X7_blindGaps (l : Launch) (D : va_G) (K : Nat → ClassId) (g_p0 : Nat → Nat) (p0_gapCount : Int32) (p0_targetCount : Int32) (p0_lookCount : Int32) (p0_time : Int32) (p0_gone : Int32) (p0_gaps : Nat → Int32) (p0_settings : Nat → Int32) (x1 : Int32) (res : Int32) (hF : F_X7_blindGaps p0_gapCount p0_gaps p0_settings x1 = some res) :
    Mi_ l yX7_blindGaps wsX7_blindGaps rmX7_blindGaps D K [.ref (g_p0 0), .int x1] (w_X7_blindGaps K g_p0 p0_gapCount p0_targetCount p0_lookCount p0_time p0_gone p0_gaps p0_settings) (w_X7_blindGaps K g_p0 p0_gapCount p0_targetCount p0_lookCount p0_time p0_gone p0_gaps p0_settings) (res) := by
  refine en_i (cc := cX7_blindGaps) (maxL := 4) (own := RX7) (by decide) rfl rfl (Nat.le_of_ble_eq_true rfl) ?_
  intro p e s m args below meth c A Q H locs ls C0 hP hD hS hl HR
  obtain ⟨⟨hx, hb, hml, hown, hts⟩, hK, -⟩ := id C0
  have hl : lv_has ls 4 [(0, .ref (g_p0 0)), (1, .int x1)] := hl
  unfold F_X7_blindGaps at hF
  refine lv_iconst (v := 0) hx hb dX7_blindGaps_0 (by decide) ?_
  refine lv_istore_n (lv' := [(2, .int (0 : Int32)), (0, .ref (g_p0 0)), (1, .int x1)]) hx hb dX7_blindGaps_1 rfl hl (by decide) rfl (fun ls hl => ?_)
  refine lv_iconst (v := 0) hx hb dX7_blindGaps_2 (by decide) ?_
  refine lv_istore_n (lv' := [(3, .int (0 : Int32)), (2, .int (0 : Int32)), (0, .ref (g_p0 0)), (1, .int x1)]) hx hb dX7_blindGaps_3 rfl hl (by decide) rfl (fun ls hl => ?_)
  exact w_X7_blindGaps_4 C0 HR fu_ x1 (0 : Int32) (0 : Int32) H locs ls hP hD hS (lv_sub hl [2, 3, 1, 0] rfl) hF

/-! StaggerRadar.Speeds.countOpen(LStaggerRadar$Radar;I)I -/
abbrev rmX7_countOpen : Room := { frames := 3, cells := 0, slots := 0, locals := 68 }
theorem fl_X7_countOpen_9 : Cond.fieldLink RX7 9 "StaggerRadar$Radar" "gapCount" "I" ∈ wsX7_countOpen := by decide +kernel
theorem iw_X7_countOpen_X5 : ∀ w ∈ u_ws RX5 TX5 13, w ∈ wsX7_countOpen := by decide +kernel
abbrev w_X7_countOpen (K : Nat → ClassId) (g_p0 : Nat → Nat) (p0_gapCount : Int32) (p0_targetCount : Int32) (p0_lookCount : Int32) (p0_time : Int32) (p0_gone : Int32) (p0_gaps : Nat → Int32) (p0_settings : Nat → Int32) : va_W := [((g_p0 0), .inr (5, [.ref (g_p0 1), .ref (g_p0 2), .ref (g_p0 3), .ref (g_p0 4), .ref (g_p0 5), .ref (g_p0 6), .ref (g_p0 7), .ref (g_p0 8), .int p0_gapCount, .int p0_targetCount, .int p0_lookCount, .int p0_time, .int p0_gone])), ((g_p0 1), .inl (K 0, 5, .inl p0_gaps)), ((g_p0 2), .inl (K 0, 7, .inl p0_settings))]
def F_X7_countOpen (p0_gapCount : Int32) (p0_gaps : Nat → Int32) (p0_settings : Nat → Int32) (x1 : Int32) : Option (Int32) :=
  (F_X7_blindGaps p0_gapCount p0_gaps p0_settings x1).bind fun r_1 => ((F_J6_bitCount_0f7a4 r_1).bind fun r_3 => (some (p0_gapCount - r_3)))
set_option maxHeartbeats 4000000 in
set_option maxRecDepth 100000 in
theorem c_X7_countOpen (l : Launch) (D : va_G) (K : Nat → ClassId) (g_p0 : Nat → Nat) (p0_gapCount : Int32) (p0_targetCount : Int32) (p0_lookCount : Int32) (p0_time : Int32) (p0_gone : Int32) (p0_gaps : Nat → Int32) (p0_settings : Nat → Int32) (x1 : Int32) (res : Int32) (hF : F_X7_countOpen p0_gapCount p0_gaps p0_settings x1 = some res) :
    Mi_ l yX7_countOpen wsX7_countOpen rmX7_countOpen D K [.ref (g_p0 0), .int x1] (w_X7_countOpen K g_p0 p0_gapCount p0_targetCount p0_lookCount p0_time p0_gone p0_gaps p0_settings) (w_X7_countOpen K g_p0 p0_gapCount p0_targetCount p0_lookCount p0_time p0_gone p0_gaps p0_settings) (res) := by
  refine en_i (cc := cX7_countOpen) (maxL := 2) (own := RX7) (by decide) rfl rfl (Nat.le_of_ble_eq_true rfl) ?_
  intro p e s m args below meth c A Q H locs ls C0 hP hD hS hl HR
  obtain ⟨⟨hx, hb, hml, hown, hts⟩, hK, -⟩ := id C0
  have hl : lv_has ls 2 [(0, .ref (g_p0 0)), (1, .int x1)] := hl
  unfold F_X7_countOpen at hF
  refine lv_aload_n hx hb dX7_countOpen_0 rfl (lv_at hl 0 rfl) ?_
  refine va_get (D := D) (ci := 5) (v := .int p0_gapCount) (C := RX5) (T := TX5) (N := 13) hx hb hts iw_X7_countOpen_X5 hown hK hP 0 rfl rfl 8 (by decide) (hts _ fl_X7_countOpen_9) (fun _ h9 => h9) rfl dX7_countOpen_1 ?_
  refine lv_aload_n hx hb dX7_countOpen_4 rfl (lv_at hl 0 rfl) ?_
  refine lv_iload_n hx hb dX7_countOpen_5 rfl (lv_at hl 1 rfl) ?_
  obtain ⟨r_1, hc_2, hF⟩ := bn_some hF
  refine xc_i (wn := (w_X7_countOpen K g_p0 p0_gapCount p0_targetCount p0_lookCount p0_time p0_gone p0_gaps p0_settings)) hP hD hS C0.2.2.1 [0, 1, 2] [] [0, 1, 2] rfl rfl (by decide) (by decide) rfl (by decide) (va_runS (As := [.ref (g_p0 0), .int x1]) (rest := [.int p0_gapCount]) C0.1 (c_X7_blindGaps l D K g_p0 p0_gapCount p0_targetCount p0_lookCount p0_time p0_gone p0_gaps p0_settings x1 r_1 hc_2 H.size) (va_cwS 2 hts gX7_countOpen_X7_blindGaps rfl rfl rfl (by decide +kernel) ⟨Nat.le_of_ble_eq_true rfl, Nat.le_of_ble_eq_true rfl⟩) (xp_S C0.2 hP hD hS [0, 1, 2] rfl (by decide)) rfl rfl hl.1 rfl (lv_room (Nat.le_of_ble_eq_true rfl)) dX7_countOpen_6 ⟨Nat.le_of_ble_eq_true rfl, Nat.le_of_ble_eq_true rfl⟩) (fun H locs hP hD hS => ?_)
  obtain ⟨r_3, hc_4, hF⟩ := bn_some hF
  refine xc_i (wn := (w_X7_countOpen K g_p0 p0_gapCount p0_targetCount p0_lookCount p0_time p0_gone p0_gaps p0_settings)) hP hD hS C0.2.2.1 [] [0, 1, 2] [0, 1, 2] rfl rfl (by decide) (by decide) rfl (by decide) (va_runS (As := [.int r_1]) (rest := [.int p0_gapCount]) C0.1 (c_J6_bitCount_0f7a4 l D K r_1 r_3 hc_4 H.size) (va_cwS 1 hts gX7_countOpen_J6_bitCount_0f7a4 rfl rfl rfl (by decide +kernel) ⟨Nat.le_of_ble_eq_true rfl, Nat.le_of_ble_eq_true rfl⟩) (xp_S C0.2 hP hD hS [] rfl (by decide)) rfl rfl hl.1 rfl (lv_room (Nat.le_of_ble_eq_true rfl)) dX7_countOpen_9 ⟨Nat.le_of_ble_eq_true rfl, Nat.le_of_ble_eq_true rfl⟩) (fun H locs hP hD hS => ?_)
  refine lv_isub hx hb dX7_countOpen_12 ?_
  obtain rfl := Option.some.inj hF
  exact HR 13 H locs ls dX7_countOpen_13 hP hD hS

/-! StaggerRadar.Adviser.weighDark(LStaggerRadar$Radar;)V -/
abbrev rmX0_weighDark : Room := { frames := 4, cells := 0, slots := 0, locals := 89 }
theorem fl_X0_weighDark_9 : Cond.fieldLink RX0 9 "StaggerRadar$Adviser" "weight" "[I" ∈ wsX0_weighDark := by decide +kernel
theorem fl_X0_weighDark_21 : Cond.fieldLink RX0 21 "StaggerRadar$Radar" "settings" "[I" ∈ wsX0_weighDark := by decide +kernel
theorem iw_X0_weighDark_X0 : ∀ w ∈ u_ws RX0 TX0 1, w ∈ wsX0_weighDark := by decide +kernel
theorem iw_X0_weighDark_X5 : ∀ w ∈ u_ws RX5 TX5 13, w ∈ wsX0_weighDark := by decide +kernel
abbrev w_X0_weighDark (K : Nat → ClassId) (g_t : Nat → Nat) (g_p1 : Nat → Nat) (t_weight : Nat → Int32) (p1_gapCount : Int32) (p1_targetCount : Int32) (p1_lookCount : Int32) (p1_time : Int32) (p1_gone : Int32) (p1_gaps : Nat → Int32) (p1_settings : Nat → Int32) : va_W := [((g_t 0), .inr (0, [.ref (g_t 1)])), ((g_t 1), .inl (K 0, 61, .inl t_weight)), ((g_p1 0), .inr (5, [.ref (g_p1 1), .ref (g_p1 2), .ref (g_p1 3), .ref (g_p1 4), .ref (g_p1 5), .ref (g_p1 6), .ref (g_p1 7), .ref (g_p1 8), .int p1_gapCount, .int p1_targetCount, .int p1_lookCount, .int p1_time, .int p1_gone])), ((g_p1 1), .inl (K 0, 5, .inl p1_gaps)), ((g_p1 2), .inl (K 0, 7, .inl p1_settings))]
def L_X0_weighDark_38 (p1_gapCount : Int32) (p1_gaps : Nat → Int32) (p1_settings : Nat → Int32) (k_10 : (Nat → Int32) → Int32 → Option ((Nat → Int32))) : Nat → (Nat → Int32) → Int32 → Int32 → Option ((Nat → Int32))
  | 0, _, _, _ => none
  | n_ + 1, t_weight, x2, x3 =>
    if (60 : Int32) < x3 then (k_10 t_weight (x2 + (1 : Int32))) else ((F_X5_hides p1_settings x2 x3).bind fun r_2 => (if r_2 = (0 : Int32) then (gd_ (in_b x3 61) (gd_ (in_b x3 61) (L_X0_weighDark_38 p1_gapCount p1_gaps p1_settings k_10 n_ (upd t_weight (x3).toNatClampNeg ((t_weight (x3).toNatClampNeg) - (1 : Int32))) x2 (x3 + (1 : Int32))))) else (L_X0_weighDark_38 p1_gapCount p1_gaps p1_settings k_10 n_ t_weight x2 (x3 + (1 : Int32)))))
set_option maxHeartbeats 4000000 in
set_option maxRecDepth 100000 in
theorem w_X0_weighDark_38 {p : Program} {l : Launch} {e : Env} {s : State} {m : MethodId} {args : Array Value} {below : List Frame} {meth : Method} {c : Code} {D : va_G} {K : Nat → ClassId} {A : Nat → Prop} {Q : State → Prop} (C0 : cx_ p s m args c cX0_weighDark 4 RX0 wsX0_weighDark D K A) {g_t : Nat → Nat} {g_p1 : Nat → Nat} {p1_gapCount : Int32} {p1_targetCount : Int32} {p1_lookCount : Int32} {p1_time : Int32} {p1_gone : Int32} {p1_gaps : Nat → Int32} {p1_settings : Nat → Int32} {res : (Nat → Int32)} (HR : ∀ (pc : Nat) (H : Heap) (locs : List Loc) (ls : Array Slot), decode cX0_weighDark pc = .ok (.return_, 1) → va_P D vwCl (w_X0_weighDark K g_t g_p1 res p1_gapCount p1_targetCount p1_lookCount p1_time p1_gone p1_gaps p1_settings) H → va_D A (w_X0_weighDark K g_t g_p1 res p1_gapCount p1_targetCount p1_lookCount p1_time p1_gone p1_gaps p1_settings) → va_S A s.heap H locs → W p l e rmX0_weighDark s m args below meth c H locs 0 0 Q (F0 m pc ls [])) {k_10 : (Nat → Int32) → Int32 → Option ((Nat → Int32))} (HK_10 : ∀ (t_weight : Nat → Int32) (x2 : Int32) (H : Heap) (locs : List Loc) (ls : Array Slot), va_P D vwCl (w_X0_weighDark K g_t g_p1 t_weight p1_gapCount p1_targetCount p1_lookCount p1_time p1_gone p1_gaps p1_settings) H → va_D A (w_X0_weighDark K g_t g_p1 t_weight p1_gapCount p1_targetCount p1_lookCount p1_time p1_gone p1_gaps p1_settings) → va_S A s.heap H locs → lv_has ls 4 [(0, .ref (g_t 0)), (1, .ref (g_p1 0)), (2, .int x2)] → k_10 t_weight x2 = some res → W p l e rmX0_weighDark s m args below meth c H locs 0 0 Q (F0 m 10 ls [])) :
    ∀ (n_ : Nat) (t_weight : Nat → Int32) (x2 : Int32) (x3 : Int32) (H : Heap) (locs : List Loc) (ls : Array Slot), va_P D vwCl (w_X0_weighDark K g_t g_p1 t_weight p1_gapCount p1_targetCount p1_lookCount p1_time p1_gone p1_gaps p1_settings) H → va_D A (w_X0_weighDark K g_t g_p1 t_weight p1_gapCount p1_targetCount p1_lookCount p1_time p1_gone p1_gaps p1_settings) → va_S A s.heap H locs → lv_has ls 4 [(0, .ref (g_t 0)), (1, .ref (g_p1 0)), (2, .int x2), (3, .int x3)] → L_X0_weighDark_38 p1_gapCount p1_gaps p1_settings k_10 n_ t_weight x2 x3 = some res → W p l e rmX0_weighDark s m args below meth c H locs 0 0 Q (F0 m 38 ls []) := by
  obtain ⟨⟨hx, hb, hml, hown, hts⟩, hK, -⟩ := id C0
  intro n_
  induction n_ with
  | zero =>
    intro t_weight x2 x3 H locs ls hP hD hS hl hF
    exact no_s (show (none : Option ((Nat → Int32))) = some res from hF)
  | succ n_ ih =>
    intro t_weight x2 x3 H locs ls hP hD hS hl hF
    rw [L_X0_weighDark_38] at hF
    refine lv_iload_n hx hb dX0_weighDark_38 rfl (lv_at hl 3 rfl) ?_
    refine lv_bipush (v := 60) hx hb dX0_weighDark_39 (by decide) ?_
    refine lv_icmp_gt (tgt := 69) hx hb dX0_weighDark_41 (by decide) (fun c_1 => ?_) (fun c_1 => ?_)
    · have hF := it_pos c_1 hF
      refine lv_iinc (v := (x2 + (1 : Int32))) (lv' := [(2, .int (x2 + (1 : Int32))), (0, .ref (g_t 0)), (1, .ref (g_p1 0)), (3, .int x3)]) hx hb dX0_weighDark_69 hl (k := 2) rfl (congrArg (fun z => x2 + z) (by decide)) (by decide) rfl (fun ls hl => ?_)
      refine lv_goto (tgt := 10) hx hb dX0_weighDark_72 (by decide) ?_
      exact HK_10 t_weight (x2 + (1 : Int32)) H locs ls hP hD hS (lv_sub hl [1, 2, 0] rfl) hF
    · have hF := it_neg c_1 hF
      refine lv_aload_n hx hb dX0_weighDark_44 rfl (lv_at hl 1 rfl) ?_
      refine lv_iload_n hx hb dX0_weighDark_45 rfl (lv_at hl 2 rfl) ?_
      refine lv_iload_n hx hb dX0_weighDark_46 rfl (lv_at hl 3 rfl) ?_
      obtain ⟨r_2, hc_3, hF⟩ := bn_some hF
      refine xc_i (wn := (w_X0_weighDark K g_t g_p1 t_weight p1_gapCount p1_targetCount p1_lookCount p1_time p1_gone p1_gaps p1_settings)) hP hD hS C0.2.2.1 [2, 4] [0, 1, 3] [0, 1, 3, 2, 4] rfl rfl (by decide) (by decide) rfl (by decide) (va_runV (As := [.int x2, .int x3]) (rest := []) C0.1 (c_X5_hides l D K g_p1 p1_gapCount p1_targetCount p1_lookCount p1_time p1_gone p1_settings x2 x3 r_2 hc_3 H.size) (cwV 2 hts gX0_weighDark_X5_hides rfl rfl rfl (by decide +kernel) ⟨Nat.le_of_ble_eq_true rfl, Nat.le_of_ble_eq_true rfl⟩) (xp_V C0.2 hP hD hS [2, 4] rfl (by decide) 5 0 rfl rfl rfl) rfl rfl hl.1 rfl (lv_room (Nat.le_of_ble_eq_true rfl)) dX0_weighDark_47 ⟨Nat.le_of_ble_eq_true rfl, Nat.le_of_ble_eq_true rfl⟩) (fun H locs hP hD hS => ?_)
      refine lv_if_ne (tgt := 63) hx hb dX0_weighDark_50 (by decide) (fun c_4 => ?_) (fun c_4 => ?_)
      · have hF := it_neg c_4 hF
        refine lv_iinc (v := (x3 + (1 : Int32))) (lv' := [(3, .int (x3 + (1 : Int32))), (0, .ref (g_t 0)), (1, .ref (g_p1 0)), (2, .int x2)]) hx hb dX0_weighDark_63 hl (k := 3) rfl (congrArg (fun z => x3 + z) (by decide)) (by decide) rfl (fun ls hl => ?_)
        refine lv_goto (tgt := 38) hx hb dX0_weighDark_66 (by decide) ?_
        exact ih t_weight x2 (x3 + (1 : Int32)) H locs ls hP hD hS (lv_sub hl [1, 2, 3, 0] rfl) hF
      · have hF := it_pos c_4 hF
        refine lv_aload_n hx hb dX0_weighDark_53 rfl (lv_at hl 0 rfl) ?_
        refine va_get (D := D) (ci := 0) (v := .ref (g_t 1)) (C := RX0) (T := TX0) (N := 1) hx hb hts iw_X0_weighDark_X0 hown hK hP 0 rfl rfl 0 (by decide) (hts _ fl_X0_weighDark_9) (fun _ h9 => h9) rfl dX0_weighDark_54 ?_
        refine lv_iload_n hx hb dX0_weighDark_57 rfl (lv_at hl 3 rfl) ?_
        refine lv_dup2_11 hx hb dX0_weighDark_58 rfl rfl ?_
        obtain ⟨hg_5, hF⟩ := gd_some hF
        refine xl_i (f := t_weight) hx hb hK hP 1 0 rfl rfl rfl (in_v hg_5) dX0_weighDark_59 ?_
        refine lv_iconst (v := 1) hx hb dX0_weighDark_60 (by decide) ?_
        refine lv_isub hx hb dX0_weighDark_61 ?_
        obtain ⟨hg_6, hF⟩ := gd_some hF
        refine xs_i (f := t_weight) hx hb hK hP hD hS 1 0 rfl rfl rfl (in_v hg_6) dX0_weighDark_62 (fun H locs hP hD hS => ?_)
        have hP : va_P D vwCl (w_X0_weighDark K g_t g_p1 (upd t_weight (x3).toNatClampNeg ((t_weight (x3).toNatClampNeg) - (1 : Int32))) p1_gapCount p1_targetCount p1_lookCount p1_time p1_gone p1_gaps p1_settings) H := hP
        have hD : va_D A (w_X0_weighDark K g_t g_p1 (upd t_weight (x3).toNatClampNeg ((t_weight (x3).toNatClampNeg) - (1 : Int32))) p1_gapCount p1_targetCount p1_lookCount p1_time p1_gone p1_gaps p1_settings) := hD
        refine lv_iinc (v := (x3 + (1 : Int32))) (lv' := [(3, .int (x3 + (1 : Int32))), (0, .ref (g_t 0)), (1, .ref (g_p1 0)), (2, .int x2)]) hx hb dX0_weighDark_63 hl (k := 3) rfl (congrArg (fun z => x3 + z) (by decide)) (by decide) rfl (fun ls hl => ?_)
        refine lv_goto (tgt := 38) hx hb dX0_weighDark_66 (by decide) ?_
        exact ih (upd t_weight (x3).toNatClampNeg ((t_weight (x3).toNatClampNeg) - (1 : Int32))) x2 (x3 + (1 : Int32)) H locs ls hP hD hS (lv_sub hl [1, 2, 3, 0] rfl) hF
def L_X0_weighDark_10 (p1_gapCount : Int32) (p1_gaps : Nat → Int32) (p1_settings : Nat → Int32) : Nat → (Nat → Int32) → Int32 → Option ((Nat → Int32))
  | 0, _, _ => none
  | n_ + 1, t_weight, x2 =>
    if (p1_settings 5) < x2 then (some t_weight) else ((F_X7_countOpen p1_gapCount p1_gaps p1_settings x2).bind fun r_2 => (if (r_2 + (1 : Int32)) = (p1_settings 4) then (L_X0_weighDark_38 p1_gapCount p1_gaps p1_settings (L_X0_weighDark_10 p1_gapCount p1_gaps p1_settings n_) fu_ t_weight x2 (4 : Int32)) else (L_X0_weighDark_10 p1_gapCount p1_gaps p1_settings n_ t_weight (x2 + (1 : Int32)))))
set_option maxHeartbeats 4000000 in
set_option maxRecDepth 100000 in
theorem w_X0_weighDark_10 {p : Program} {l : Launch} {e : Env} {s : State} {m : MethodId} {args : Array Value} {below : List Frame} {meth : Method} {c : Code} {D : va_G} {K : Nat → ClassId} {A : Nat → Prop} {Q : State → Prop} (C0 : cx_ p s m args c cX0_weighDark 4 RX0 wsX0_weighDark D K A) {g_t : Nat → Nat} {g_p1 : Nat → Nat} {p1_gapCount : Int32} {p1_targetCount : Int32} {p1_lookCount : Int32} {p1_time : Int32} {p1_gone : Int32} {p1_gaps : Nat → Int32} {p1_settings : Nat → Int32} {res : (Nat → Int32)} (HR : ∀ (pc : Nat) (H : Heap) (locs : List Loc) (ls : Array Slot), decode cX0_weighDark pc = .ok (.return_, 1) → va_P D vwCl (w_X0_weighDark K g_t g_p1 res p1_gapCount p1_targetCount p1_lookCount p1_time p1_gone p1_gaps p1_settings) H → va_D A (w_X0_weighDark K g_t g_p1 res p1_gapCount p1_targetCount p1_lookCount p1_time p1_gone p1_gaps p1_settings) → va_S A s.heap H locs → W p l e rmX0_weighDark s m args below meth c H locs 0 0 Q (F0 m pc ls []))  :
    ∀ (n_ : Nat) (t_weight : Nat → Int32) (x2 : Int32) (H : Heap) (locs : List Loc) (ls : Array Slot), va_P D vwCl (w_X0_weighDark K g_t g_p1 t_weight p1_gapCount p1_targetCount p1_lookCount p1_time p1_gone p1_gaps p1_settings) H → va_D A (w_X0_weighDark K g_t g_p1 t_weight p1_gapCount p1_targetCount p1_lookCount p1_time p1_gone p1_gaps p1_settings) → va_S A s.heap H locs → lv_has ls 4 [(0, .ref (g_t 0)), (1, .ref (g_p1 0)), (2, .int x2)] → L_X0_weighDark_10 p1_gapCount p1_gaps p1_settings n_ t_weight x2 = some res → W p l e rmX0_weighDark s m args below meth c H locs 0 0 Q (F0 m 10 ls []) := by
  obtain ⟨⟨hx, hb, hml, hown, hts⟩, hK, -⟩ := id C0
  intro n_
  induction n_ with
  | zero =>
    intro t_weight x2 H locs ls hP hD hS hl hF
    exact no_s (show (none : Option ((Nat → Int32))) = some res from hF)
  | succ n_ ih =>
    intro t_weight x2 H locs ls hP hD hS hl hF
    rw [L_X0_weighDark_10] at hF
    refine lv_iload_n hx hb dX0_weighDark_10 rfl (lv_at hl 2 rfl) ?_
    refine lv_aload_n hx hb dX0_weighDark_11 rfl (lv_at hl 1 rfl) ?_
    refine va_get (D := D) (ci := 5) (v := .ref (g_p1 2)) (C := RX5) (T := TX5) (N := 13) hx hb hts iw_X0_weighDark_X5 hown hK hP 2 rfl rfl 1 (by decide) (hts _ fl_X0_weighDark_21) (fun _ h9 => h9) rfl dX0_weighDark_12 ?_
    refine lv_iconst (v := 5) hx hb dX0_weighDark_15 (by decide) ?_
    refine xl_i (f := p1_settings) hx hb hK hP 4 0 rfl rfl (k := 5) (by decide) (in_v (by decide)) dX0_weighDark_16 ?_
    refine lv_icmp_gt (tgt := 75) hx hb dX0_weighDark_17 (by decide) (fun c_1 => ?_) (fun c_1 => ?_)
    · have hF := it_pos c_1 hF
      obtain rfl := Option.some.inj hF
      exact HR 75 H locs ls dX0_weighDark_75 hP hD hS
    · have hF := it_neg c_1 hF
      refine lv_aload_n hx hb dX0_weighDark_20 rfl (lv_at hl 1 rfl) ?_
      refine lv_iload_n hx hb dX0_weighDark_21 rfl (lv_at hl 2 rfl) ?_
      obtain ⟨r_2, hc_3, hF⟩ := bn_some hF
      refine xc_i (wn := (w_X0_weighDark K g_t g_p1 t_weight p1_gapCount p1_targetCount p1_lookCount p1_time p1_gone p1_gaps p1_settings)) hP hD hS C0.2.2.1 [2, 3, 4] [0, 1] [0, 1, 2, 3, 4] rfl rfl (by decide) (by decide) rfl (by decide) (va_runS (As := [.ref (g_p1 0), .int x2]) (rest := []) C0.1 (c_X7_countOpen l D K g_p1 p1_gapCount p1_targetCount p1_lookCount p1_time p1_gone p1_gaps p1_settings x2 r_2 hc_3 H.size) (va_cwS 2 hts gX0_weighDark_X7_countOpen rfl rfl rfl (by decide +kernel) ⟨Nat.le_of_ble_eq_true rfl, Nat.le_of_ble_eq_true rfl⟩) (xp_S C0.2 hP hD hS [2, 3, 4] rfl (by decide)) rfl rfl hl.1 rfl (lv_room (Nat.le_of_ble_eq_true rfl)) dX0_weighDark_22 ⟨Nat.le_of_ble_eq_true rfl, Nat.le_of_ble_eq_true rfl⟩) (fun H locs hP hD hS => ?_)
      refine lv_iconst (v := 1) hx hb dX0_weighDark_25 (by decide) ?_
      refine lv_iadd hx hb dX0_weighDark_26 ?_
      refine lv_aload_n hx hb dX0_weighDark_27 rfl (lv_at hl 1 rfl) ?_
      refine va_get (D := D) (ci := 5) (v := .ref (g_p1 2)) (C := RX5) (T := TX5) (N := 13) hx hb hts iw_X0_weighDark_X5 hown hK hP 2 rfl rfl 1 (by decide) (hts _ fl_X0_weighDark_21) (fun _ h9 => h9) rfl dX0_weighDark_28 ?_
      refine lv_iconst (v := 4) hx hb dX0_weighDark_31 (by decide) ?_
      refine xl_i (f := p1_settings) hx hb hK hP 4 0 rfl rfl (k := 4) (by decide) (in_v (by decide)) dX0_weighDark_32 ?_
      refine lv_icmp_ne (tgt := 69) hx hb dX0_weighDark_33 (by decide) (fun c_4 => ?_) (fun c_4 => ?_)
      · have hF := it_neg c_4 hF
        refine lv_iinc (v := (x2 + (1 : Int32))) (lv' := [(2, .int (x2 + (1 : Int32))), (0, .ref (g_t 0)), (1, .ref (g_p1 0))]) hx hb dX0_weighDark_69 hl (k := 2) rfl (congrArg (fun z => x2 + z) (by decide)) (by decide) rfl (fun ls hl => ?_)
        refine lv_goto (tgt := 10) hx hb dX0_weighDark_72 (by decide) ?_
        exact ih t_weight (x2 + (1 : Int32)) H locs ls hP hD hS (lv_sub hl [1, 2, 0] rfl) hF
      · have hF := it_pos c_4 hF
        refine lv_iconst (v := 4) hx hb dX0_weighDark_36 (by decide) ?_
        refine lv_istore_n (lv' := [(3, .int (4 : Int32)), (0, .ref (g_t 0)), (1, .ref (g_p1 0)), (2, .int x2)]) hx hb dX0_weighDark_37 rfl hl (by decide) rfl (fun ls hl => ?_)
        exact w_X0_weighDark_38 C0 HR ih fu_ t_weight x2 (4 : Int32) H locs ls hP hD hS (lv_sub hl [1, 2, 3, 0] rfl) hF
def F_X0_weighDark (t_weight : Nat → Int32) (p1_gapCount : Int32) (p1_gaps : Nat → Int32) (p1_settings : Nat → Int32) : Option ((Nat → Int32)) :=
  (F_J7_fill_53178 t_weight 61 (0 : Int32)).bind fun r_1 => (L_X0_weighDark_10 p1_gapCount p1_gaps p1_settings fu_ r_1 (1 : Int32))
set_option maxHeartbeats 4000000 in
set_option maxRecDepth 100000 in
theorem c_X0_weighDark (l : Launch) (D : va_G) (K : Nat → ClassId) (g_t : Nat → Nat) (g_p1 : Nat → Nat) (t_weight : Nat → Int32) (p1_gapCount : Int32) (p1_targetCount : Int32) (p1_lookCount : Int32) (p1_time : Int32) (p1_gone : Int32) (p1_gaps : Nat → Int32) (p1_settings : Nat → Int32) (res : (Nat → Int32)) (hF : F_X0_weighDark t_weight p1_gapCount p1_gaps p1_settings = some res) :
    Mv_ l yX0_weighDark wsX0_weighDark rmX0_weighDark D K [.ref (g_t 0), .ref (g_p1 0)] (w_X0_weighDark K g_t g_p1 t_weight p1_gapCount p1_targetCount p1_lookCount p1_time p1_gone p1_gaps p1_settings) (w_X0_weighDark K g_t g_p1 res p1_gapCount p1_targetCount p1_lookCount p1_time p1_gone p1_gaps p1_settings) := by
  refine en_v (cc := cX0_weighDark) (maxL := 4) (own := RX0) (by decide) rfl rfl (Nat.le_of_ble_eq_true rfl) ?_
  intro p e s m args below meth c A Q H locs ls C0 hP hD hS hl HR
  obtain ⟨⟨hx, hb, hml, hown, hts⟩, hK, -⟩ := id C0
  have hl : lv_has ls 4 [(0, .ref (g_t 0)), (1, .ref (g_p1 0))] := hl
  unfold F_X0_weighDark at hF
  refine lv_aload_n hx hb dX0_weighDark_0 rfl (lv_at hl 0 rfl) ?_
  refine va_get (D := D) (ci := 0) (v := .ref (g_t 1)) (C := RX0) (T := TX0) (N := 1) hx hb hts iw_X0_weighDark_X0 hown hK hP 0 rfl rfl 0 (by decide) (hts _ fl_X0_weighDark_9) (fun _ h9 => h9) rfl dX0_weighDark_1 ?_
  refine lv_iconst (v := 0) hx hb dX0_weighDark_4 (by decide) ?_
  obtain ⟨r_1, hc_2, hF⟩ := bn_some hF
  refine xc_v (wn := (w_X0_weighDark K g_t g_p1 r_1 p1_gapCount p1_targetCount p1_lookCount p1_time p1_gone p1_gaps p1_settings)) hP hD hS C0.2.2.1 [1] [0, 2, 3, 4] [0, 4, 1, 2, 3] rfl rfl (by decide) (by decide) rfl (by decide) (va_runS (As := [.ref (g_t 1), .int (0 : Int32)]) (rest := []) C0.1 (c_J7_fill_53178 l D K (g_t 1) 61 t_weight (0 : Int32) r_1 hc_2 H.size) (va_cwS 2 hts gX0_weighDark_J7_fill_53178 rfl rfl rfl (by decide +kernel) ⟨Nat.le_of_ble_eq_true rfl, Nat.le_of_ble_eq_true rfl⟩) (xp_S C0.2 hP hD hS [1] rfl (by decide)) rfl rfl hl.1 rfl (lv_room (Nat.le_of_ble_eq_true rfl)) dX0_weighDark_5 ⟨Nat.le_of_ble_eq_true rfl, Nat.le_of_ble_eq_true rfl⟩) (fun H locs hP hD hS => ?_)
  refine lv_iconst (v := 1) hx hb dX0_weighDark_8 (by decide) ?_
  refine lv_istore_n (lv' := [(2, .int (1 : Int32)), (0, .ref (g_t 0)), (1, .ref (g_p1 0))]) hx hb dX0_weighDark_9 rfl hl (by decide) rfl (fun ls hl => ?_)
  exact w_X0_weighDark_10 C0 HR fu_ r_1 (1 : Int32) H locs ls hP hD hS (lv_sub hl [1, 2, 0] rfl) hF

/-! StaggerRadar.Echoes.isEcho(LStaggerRadar$Radar;II)Z -/
abbrev rmX3_isEcho : Room := { frames := 0, cells := 0, slots := 0, locals := 0 }
theorem fl_X3_isEcho_15 : Cond.fieldLink RX3 15 "StaggerRadar$Echoes" "loud" "[I" ∈ wsX3_isEcho := by decide +kernel
theorem fl_X3_isEcho_66 : Cond.fieldLink RX3 66 "StaggerRadar$Radar" "settings" "[I" ∈ wsX3_isEcho := by decide +kernel
theorem iw_X3_isEcho_X3 : ∀ w ∈ u_ws RX3 TX3 6, w ∈ wsX3_isEcho := by decide +kernel
theorem iw_X3_isEcho_X5 : ∀ w ∈ u_ws RX5 TX5 13, w ∈ wsX3_isEcho := by decide +kernel
abbrev w_X3_isEcho (K : Nat → ClassId) (g_t : Nat → Nat) (g_p1 : Nat → Nat) (t_shownCount : Int32) (t_loud : Nat → Int32) (p1_gapCount : Int32) (p1_targetCount : Int32) (p1_lookCount : Int32) (p1_time : Int32) (p1_gone : Int32) (p1_settings : Nat → Int32) : va_W := [((g_t 0), .inr (3, [.ref (g_t 1), .ref (g_t 2), .ref (g_t 3), .ref (g_t 4), .ref (g_t 5), .int t_shownCount])), ((g_t 2), .inl (K 0, 300, .inl t_loud)), ((g_p1 0), .inr (5, [.ref (g_p1 1), .ref (g_p1 2), .ref (g_p1 3), .ref (g_p1 4), .ref (g_p1 5), .ref (g_p1 6), .ref (g_p1 7), .ref (g_p1 8), .int p1_gapCount, .int p1_targetCount, .int p1_lookCount, .int p1_time, .int p1_gone])), ((g_p1 2), .inl (K 0, 7, .inl p1_settings))]
def F_X3_isEcho (t_loud : Nat → Int32) (p1_settings : Nat → Int32) (x2 : Int32) (x3 : Int32) : Option (Int32) :=
  gd_ (in_b ((x2 * (60 : Int32)) + x3) 300) (if (t_loud ((x2 * (60 : Int32)) + x3).toNatClampNeg) < (p1_settings 6) then (some (0 : Int32)) else (some (1 : Int32)))
set_option maxHeartbeats 4000000 in
set_option maxRecDepth 100000 in
theorem c_X3_isEcho (l : Launch) (D : va_G) (K : Nat → ClassId) (g_t : Nat → Nat) (g_p1 : Nat → Nat) (t_shownCount : Int32) (t_loud : Nat → Int32) (p1_gapCount : Int32) (p1_targetCount : Int32) (p1_lookCount : Int32) (p1_time : Int32) (p1_gone : Int32) (p1_settings : Nat → Int32) (x2 : Int32) (x3 : Int32) (res : Int32) (hF : F_X3_isEcho t_loud p1_settings x2 x3 = some res) :
    Mi_ l yX3_isEcho wsX3_isEcho rmX3_isEcho D K [.ref (g_t 0), .ref (g_p1 0), .int x2, .int x3] (w_X3_isEcho K g_t g_p1 t_shownCount t_loud p1_gapCount p1_targetCount p1_lookCount p1_time p1_gone p1_settings) (w_X3_isEcho K g_t g_p1 t_shownCount t_loud p1_gapCount p1_targetCount p1_lookCount p1_time p1_gone p1_settings) (res) := by
  refine en_z (cc := cX3_isEcho) (maxL := 4) (own := RX3) (by decide) rfl rfl (Nat.le_of_ble_eq_true rfl) ?_
  intro p e s m args below meth c A Q H locs ls C0 hP hD hS hl HR
  obtain ⟨⟨hx, hb, hml, hown, hts⟩, hK, -⟩ := id C0
  have hl : lv_has ls 4 [(0, .ref (g_t 0)), (1, .ref (g_p1 0)), (2, .int x2), (3, .int x3)] := hl
  unfold F_X3_isEcho at hF
  refine lv_aload_n hx hb dX3_isEcho_0 rfl (lv_at hl 0 rfl) ?_
  refine va_get (D := D) (ci := 3) (v := .ref (g_t 2)) (C := RX3) (T := TX3) (N := 6) hx hb hts iw_X3_isEcho_X3 hown hK hP 0 rfl rfl 1 (by decide) (hts _ fl_X3_isEcho_15) (fun _ h9 => h9) rfl dX3_isEcho_1 ?_
  refine lv_iload_n hx hb dX3_isEcho_4 rfl (lv_at hl 2 rfl) ?_
  refine lv_bipush (v := 60) hx hb dX3_isEcho_5 (by decide) ?_
  refine lv_imul hx hb dX3_isEcho_7 ?_
  refine lv_iload_n hx hb dX3_isEcho_8 rfl (lv_at hl 3 rfl) ?_
  refine lv_iadd hx hb dX3_isEcho_9 ?_
  obtain ⟨hg_1, hF⟩ := gd_some hF
  refine xl_i (f := t_loud) hx hb hK hP 1 0 rfl rfl rfl (in_v hg_1) dX3_isEcho_10 ?_
  refine lv_aload_n hx hb dX3_isEcho_11 rfl (lv_at hl 1 rfl) ?_
  refine va_get (D := D) (ci := 5) (v := .ref (g_p1 2)) (C := RX5) (T := TX5) (N := 13) hx hb hts iw_X3_isEcho_X5 hown hK hP 2 rfl rfl 1 (by decide) (hts _ fl_X3_isEcho_66) (fun _ h9 => h9) rfl dX3_isEcho_12 ?_
  refine lv_bipush (v := 6) hx hb dX3_isEcho_15 (by decide) ?_
  refine xl_i (f := p1_settings) hx hb hK hP 3 0 rfl rfl (k := 6) (by decide) (in_v (by decide)) dX3_isEcho_17 ?_
  refine lv_icmp_lt (tgt := 25) hx hb dX3_isEcho_18 (by decide) (fun c_2 => ?_) (fun c_2 => ?_)
  · have hF := it_pos c_2 hF
    refine lv_iconst (v := 0) hx hb dX3_isEcho_25 (by decide) ?_
    obtain rfl := Option.some.inj hF
    exact HR 26 H locs ls dX3_isEcho_26 narrow_b0 hP hD hS
  · have hF := it_neg c_2 hF
    refine lv_iconst (v := 1) hx hb dX3_isEcho_21 (by decide) ?_
    refine lv_goto (tgt := 26) hx hb dX3_isEcho_22 (by decide) ?_
    obtain rfl := Option.some.inj hF
    exact HR 26 H locs ls dX3_isEcho_26 narrow_b1 hP hD hS

/-! StaggerRadar.Echoes.markEcho(LStaggerRadar$Radar;II)V -/
abbrev rmX3_markEcho : Room := { frames := 1, cells := 0, slots := 0, locals := 21 }
theorem fl_X3_markEcho_18 : Cond.fieldLink RX3 18 "StaggerRadar$Echoes" "hitBits" "[I" ∈ wsX3_markEcho := by decide +kernel
theorem fl_X3_markEcho_33 : Cond.fieldLink RX3 33 "StaggerRadar$Radar" "gaps" "[I" ∈ wsX3_markEcho := by decide +kernel
theorem fl_X3_markEcho_66 : Cond.fieldLink RX3 66 "StaggerRadar$Radar" "settings" "[I" ∈ wsX3_markEcho := by decide +kernel
theorem iw_X3_markEcho_X3 : ∀ w ∈ u_ws RX3 TX3 6, w ∈ wsX3_markEcho := by decide +kernel
theorem iw_X3_markEcho_X5 : ∀ w ∈ u_ws RX5 TX5 13, w ∈ wsX3_markEcho := by decide +kernel
abbrev w_X3_markEcho (K : Nat → ClassId) (g_t : Nat → Nat) (g_p1 : Nat → Nat) (t_shownCount : Int32) (t_hitBits : Nat → Int32) (p1_gapCount : Int32) (p1_targetCount : Int32) (p1_lookCount : Int32) (p1_time : Int32) (p1_gone : Int32) (p1_gaps : Nat → Int32) (p1_settings : Nat → Int32) : va_W := [((g_t 0), .inr (3, [.ref (g_t 1), .ref (g_t 2), .ref (g_t 3), .ref (g_t 4), .ref (g_t 5), .int t_shownCount])), ((g_t 3), .inl (K 0, 1000, .inl t_hitBits)), ((g_p1 0), .inr (5, [.ref (g_p1 1), .ref (g_p1 2), .ref (g_p1 3), .ref (g_p1 4), .ref (g_p1 5), .ref (g_p1 6), .ref (g_p1 7), .ref (g_p1 8), .int p1_gapCount, .int p1_targetCount, .int p1_lookCount, .int p1_time, .int p1_gone])), ((g_p1 1), .inl (K 0, 5, .inl p1_gaps)), ((g_p1 2), .inl (K 0, 7, .inl p1_settings))]
def L_X3_markEcho_15 (p1_gaps : Nat → Int32) (p1_settings : Nat → Int32) : Nat → (Nat → Int32) → Int32 → Int32 → Int32 → Option ((Nat → Int32))
  | 0, _, _, _, _ => none
  | n_ + 1, t_hitBits, x2, x4, x5 =>
    if (p1_settings 3) ≤ x5 then (some t_hitBits) else (gd_ (in_b x5 1000) (gd_ (in_b x5 1000) (L_X3_markEcho_15 p1_gaps p1_settings n_ (upd t_hitBits (x5).toNatClampNeg ((t_hitBits (x5).toNatClampNeg) ||| ((1 : Int32) <<< (x2 &&& 31)))) x2 x4 (x5 + x4))))
set_option maxHeartbeats 4000000 in
set_option maxRecDepth 100000 in
theorem w_X3_markEcho_15 {p : Program} {l : Launch} {e : Env} {s : State} {m : MethodId} {args : Array Value} {below : List Frame} {meth : Method} {c : Code} {D : va_G} {K : Nat → ClassId} {A : Nat → Prop} {Q : State → Prop} (C0 : cx_ p s m args c cX3_markEcho 6 RX3 wsX3_markEcho D K A) {g_t : Nat → Nat} {g_p1 : Nat → Nat} {t_shownCount : Int32} {p1_gapCount : Int32} {p1_targetCount : Int32} {p1_lookCount : Int32} {p1_time : Int32} {p1_gone : Int32} {p1_gaps : Nat → Int32} {p1_settings : Nat → Int32} {res : (Nat → Int32)} (HR : ∀ (pc : Nat) (H : Heap) (locs : List Loc) (ls : Array Slot), decode cX3_markEcho pc = .ok (.return_, 1) → va_P D vwCl (w_X3_markEcho K g_t g_p1 t_shownCount res p1_gapCount p1_targetCount p1_lookCount p1_time p1_gone p1_gaps p1_settings) H → va_D A (w_X3_markEcho K g_t g_p1 t_shownCount res p1_gapCount p1_targetCount p1_lookCount p1_time p1_gone p1_gaps p1_settings) → va_S A s.heap H locs → W p l e rmX3_markEcho s m args below meth c H locs 0 0 Q (F0 m pc ls []))  :
    ∀ (n_ : Nat) (t_hitBits : Nat → Int32) (x2 : Int32) (x4 : Int32) (x5 : Int32) (H : Heap) (locs : List Loc) (ls : Array Slot), va_P D vwCl (w_X3_markEcho K g_t g_p1 t_shownCount t_hitBits p1_gapCount p1_targetCount p1_lookCount p1_time p1_gone p1_gaps p1_settings) H → va_D A (w_X3_markEcho K g_t g_p1 t_shownCount t_hitBits p1_gapCount p1_targetCount p1_lookCount p1_time p1_gone p1_gaps p1_settings) → va_S A s.heap H locs → lv_has ls 6 [(0, .ref (g_t 0)), (1, .ref (g_p1 0)), (2, .int x2), (4, .int x4), (5, .int x5)] → L_X3_markEcho_15 p1_gaps p1_settings n_ t_hitBits x2 x4 x5 = some res → W p l e rmX3_markEcho s m args below meth c H locs 0 0 Q (F0 m 15 ls []) := by
  obtain ⟨⟨hx, hb, hml, hown, hts⟩, hK, -⟩ := id C0
  intro n_
  induction n_ with
  | zero =>
    intro t_hitBits x2 x4 x5 H locs ls hP hD hS hl hF
    exact no_s (show (none : Option ((Nat → Int32))) = some res from hF)
  | succ n_ ih =>
    intro t_hitBits x2 x4 x5 H locs ls hP hD hS hl hF
    rw [L_X3_markEcho_15] at hF
    refine lv_iload hx hb dX3_markEcho_15 (lv_at hl 4 rfl) ?_
    refine lv_aload_n hx hb dX3_markEcho_17 rfl (lv_at hl 1 rfl) ?_
    refine va_get (D := D) (ci := 5) (v := .ref (g_p1 2)) (C := RX5) (T := TX5) (N := 13) hx hb hts iw_X3_markEcho_X5 hown hK hP 2 rfl rfl 1 (by decide) (hts _ fl_X3_markEcho_66) (fun _ h9 => h9) rfl dX3_markEcho_18 ?_
    refine lv_iconst (v := 3) hx hb dX3_markEcho_21 (by decide) ?_
    refine xl_i (f := p1_settings) hx hb hK hP 4 0 rfl rfl (k := 3) (by decide) (in_v (by decide)) dX3_markEcho_22 ?_
    refine lv_icmp_ge (tgt := 49) hx hb dX3_markEcho_23 (by decide) (fun c_1 => ?_) (fun c_1 => ?_)
    · have hF := it_pos c_1 hF
      obtain rfl := Option.some.inj hF
      exact HR 49 H locs ls dX3_markEcho_49 hP hD hS
    · have hF := it_neg c_1 hF
      refine lv_aload_n hx hb dX3_markEcho_26 rfl (lv_at hl 0 rfl) ?_
      refine va_get (D := D) (ci := 3) (v := .ref (g_t 3)) (C := RX3) (T := TX3) (N := 6) hx hb hts iw_X3_markEcho_X3 hown hK hP 0 rfl rfl 2 (by decide) (hts _ fl_X3_markEcho_18) (fun _ h9 => h9) rfl dX3_markEcho_27 ?_
      refine lv_iload hx hb dX3_markEcho_30 (lv_at hl 4 rfl) ?_
      refine lv_dup2_11 hx hb dX3_markEcho_32 rfl rfl ?_
      obtain ⟨hg_2, hF⟩ := gd_some hF
      refine xl_i (f := t_hitBits) hx hb hK hP 1 0 rfl rfl rfl (in_v hg_2) dX3_markEcho_33 ?_
      refine lv_iconst (v := 1) hx hb dX3_markEcho_34 (by decide) ?_
      refine lv_iload_n hx hb dX3_markEcho_35 rfl (lv_at hl 2 rfl) ?_
      refine lv_ishl hx hb dX3_markEcho_36 ?_
      refine lv_ior hx hb dX3_markEcho_37 ?_
      obtain ⟨hg_3, hF⟩ := gd_some hF
      refine xs_i (f := t_hitBits) hx hb hK hP hD hS 1 0 rfl rfl rfl (in_v hg_3) dX3_markEcho_38 (fun H locs hP hD hS => ?_)
      have hP : va_P D vwCl (w_X3_markEcho K g_t g_p1 t_shownCount (upd t_hitBits (x5).toNatClampNeg ((t_hitBits (x5).toNatClampNeg) ||| ((1 : Int32) <<< (x2 &&& 31)))) p1_gapCount p1_targetCount p1_lookCount p1_time p1_gone p1_gaps p1_settings) H := hP
      have hD : va_D A (w_X3_markEcho K g_t g_p1 t_shownCount (upd t_hitBits (x5).toNatClampNeg ((t_hitBits (x5).toNatClampNeg) ||| ((1 : Int32) <<< (x2 &&& 31)))) p1_gapCount p1_targetCount p1_lookCount p1_time p1_gone p1_gaps p1_settings) := hD
      refine lv_iload hx hb dX3_markEcho_39 (lv_at hl 4 rfl) ?_
      refine lv_iload hx hb dX3_markEcho_41 (lv_at hl 3 rfl) ?_
      refine lv_iadd hx hb dX3_markEcho_43 ?_
      refine lv_istore (lv' := [(5, .int (x5 + x4)), (0, .ref (g_t 0)), (1, .ref (g_p1 0)), (2, .int x2), (4, .int x4)]) hx hb dX3_markEcho_44 hl (by decide) rfl (fun ls hl => ?_)
      refine lv_goto (tgt := 15) hx hb dX3_markEcho_46 (by decide) ?_
      exact ih (upd t_hitBits (x5).toNatClampNeg ((t_hitBits (x5).toNatClampNeg) ||| ((1 : Int32) <<< (x2 &&& 31)))) x2 x4 (x5 + x4) H locs ls hP hD hS (lv_sub hl [1, 2, 3, 4, 0] rfl) hF
def F_X3_markEcho (t_hitBits : Nat → Int32) (p1_gaps : Nat → Int32) (p1_settings : Nat → Int32) (x2 : Int32) (x3 : Int32) : Option ((Nat → Int32)) :=
  gd_ (in_b x2 5) (L_X3_markEcho_15 p1_gaps p1_settings fu_ t_hitBits x2 (if (p1_gaps (x2).toNatClampNeg) < (4 : Int32) then (4 : Int32) else (p1_gaps (x2).toNatClampNeg)) x3)
set_option maxHeartbeats 4000000 in
set_option maxRecDepth 100000 in
theorem c_X3_markEcho (l : Launch) (D : va_G) (K : Nat → ClassId) (g_t : Nat → Nat) (g_p1 : Nat → Nat) (t_shownCount : Int32) (t_hitBits : Nat → Int32) (p1_gapCount : Int32) (p1_targetCount : Int32) (p1_lookCount : Int32) (p1_time : Int32) (p1_gone : Int32) (p1_gaps : Nat → Int32) (p1_settings : Nat → Int32) (x2 : Int32) (x3 : Int32) (res : (Nat → Int32)) (hF : F_X3_markEcho t_hitBits p1_gaps p1_settings x2 x3 = some res) :
    Mv_ l yX3_markEcho wsX3_markEcho rmX3_markEcho D K [.ref (g_t 0), .ref (g_p1 0), .int x2, .int x3] (w_X3_markEcho K g_t g_p1 t_shownCount t_hitBits p1_gapCount p1_targetCount p1_lookCount p1_time p1_gone p1_gaps p1_settings) (w_X3_markEcho K g_t g_p1 t_shownCount res p1_gapCount p1_targetCount p1_lookCount p1_time p1_gone p1_gaps p1_settings) := by
  refine en_v (cc := cX3_markEcho) (maxL := 6) (own := RX3) (by decide) rfl rfl (Nat.le_of_ble_eq_true rfl) ?_
  intro p e s m args below meth c A Q H locs ls C0 hP hD hS hl HR
  obtain ⟨⟨hx, hb, hml, hown, hts⟩, hK, -⟩ := id C0
  have hl : lv_has ls 6 [(0, .ref (g_t 0)), (1, .ref (g_p1 0)), (2, .int x2), (3, .int x3)] := hl
  unfold F_X3_markEcho at hF
  refine lv_aload_n hx hb dX3_markEcho_0 rfl (lv_at hl 1 rfl) ?_
  refine va_get (D := D) (ci := 5) (v := .ref (g_p1 1)) (C := RX5) (T := TX5) (N := 13) hx hb hts iw_X3_markEcho_X5 hown hK hP 2 rfl rfl 0 (by decide) (hts _ fl_X3_markEcho_33) (fun _ h9 => h9) rfl dX3_markEcho_1 ?_
  refine lv_iload_n hx hb dX3_markEcho_4 rfl (lv_at hl 2 rfl) ?_
  obtain ⟨hg_1, hF⟩ := gd_some hF
  refine xl_i (f := p1_gaps) hx hb hK hP 3 0 rfl rfl rfl (in_v hg_1) dX3_markEcho_5 ?_
  refine lv_iconst (v := 4) hx hb dX3_markEcho_6 (by decide) ?_
  refine va_mmax hx hb (hml.trans hl.1.symm) hown (hts (.methodLink RX3 104 Lib.Math.max.name) (by decide +kernel)) (hts (.static Lib.Math.max.name) (by decide +kernel)) (hts (.initialized "java/lang/Math") (by decide +kernel)) (hts (.code Lib.Math.max.name Lib.Math.max.code 2 (some .int)) (by decide +kernel)) (Nat.le_of_ble_eq_true rfl) (Nat.le_of_ble_eq_true rfl) (Nat.le_of_ble_eq_true rfl) (Nat.le_of_ble_eq_true rfl) dX3_markEcho_7 ?_
  refine lv_istore (lv' := [(4, .int (if (p1_gaps (x2).toNatClampNeg) < (4 : Int32) then (4 : Int32) else (p1_gaps (x2).toNatClampNeg))), (0, .ref (g_t 0)), (1, .ref (g_p1 0)), (2, .int x2), (3, .int x3)]) hx hb dX3_markEcho_10 hl (by decide) rfl (fun ls hl => ?_)
  refine lv_iload_n hx hb dX3_markEcho_12 rfl (lv_at hl 4 rfl) ?_
  refine lv_istore (lv' := [(5, .int x3), (4, .int (if (p1_gaps (x2).toNatClampNeg) < (4 : Int32) then (4 : Int32) else (p1_gaps (x2).toNatClampNeg))), (0, .ref (g_t 0)), (1, .ref (g_p1 0)), (2, .int x2), (3, .int x3)]) hx hb dX3_markEcho_13 hl (by decide) rfl (fun ls hl => ?_)
  exact w_X3_markEcho_15 C0 HR fu_ t_hitBits x2 (if (p1_gaps (x2).toNatClampNeg) < (4 : Int32) then (4 : Int32) else (p1_gaps (x2).toNatClampNeg)) x3 H locs ls hP hD hS (lv_sub hl [2, 3, 4, 1, 0] rfl) hF

/-! StaggerRadar.Echoes.markHits(LStaggerRadar$Radar;)V -/
abbrev rmX3_markHits : Room := { frames := 2, cells := 0, slots := 0, locals := 46 }
theorem fl_X3_markHits_18 : Cond.fieldLink RX3 18 "StaggerRadar$Echoes" "hitBits" "[I" ∈ wsX3_markHits := by decide +kernel
theorem fl_X3_markHits_27 : Cond.fieldLink RX3 27 "StaggerRadar$Radar" "gapCount" "I" ∈ wsX3_markHits := by decide +kernel
theorem fl_X3_markHits_33 : Cond.fieldLink RX3 33 "StaggerRadar$Radar" "gaps" "[I" ∈ wsX3_markHits := by decide +kernel
theorem iw_X3_markHits_X3 : ∀ w ∈ u_ws RX3 TX3 6, w ∈ wsX3_markHits := by decide +kernel
theorem iw_X3_markHits_X5 : ∀ w ∈ u_ws RX5 TX5 13, w ∈ wsX3_markHits := by decide +kernel
abbrev w_X3_markHits (K : Nat → ClassId) (g_t : Nat → Nat) (g_p1 : Nat → Nat) (t_shownCount : Int32) (t_loud : Nat → Int32) (t_hitBits : Nat → Int32) (p1_gapCount : Int32) (p1_targetCount : Int32) (p1_lookCount : Int32) (p1_time : Int32) (p1_gone : Int32) (p1_gaps : Nat → Int32) (p1_settings : Nat → Int32) : va_W := [((g_t 0), .inr (3, [.ref (g_t 1), .ref (g_t 2), .ref (g_t 3), .ref (g_t 4), .ref (g_t 5), .int t_shownCount])), ((g_t 2), .inl (K 0, 300, .inl t_loud)), ((g_t 3), .inl (K 0, 1000, .inl t_hitBits)), ((g_p1 0), .inr (5, [.ref (g_p1 1), .ref (g_p1 2), .ref (g_p1 3), .ref (g_p1 4), .ref (g_p1 5), .ref (g_p1 6), .ref (g_p1 7), .ref (g_p1 8), .int p1_gapCount, .int p1_targetCount, .int p1_lookCount, .int p1_time, .int p1_gone])), ((g_p1 1), .inl (K 0, 5, .inl p1_gaps)), ((g_p1 2), .inl (K 0, 7, .inl p1_settings))]
def L_X3_markHits_20 (t_loud : Nat → Int32) (p1_gapCount : Int32) (p1_gaps : Nat → Int32) (p1_settings : Nat → Int32) (k_10 : (Nat → Int32) → Int32 → Option ((Nat → Int32))) : Nat → (Nat → Int32) → Int32 → Int32 → Option ((Nat → Int32))
  | 0, _, _, _ => none
  | n_ + 1, t_hitBits, x2, x3 =>
    gd_ (in_b x2 5) (if (p1_gaps (x2).toNatClampNeg) ≤ x3 then (k_10 t_hitBits (x2 + (1 : Int32))) else ((F_X3_isEcho t_loud p1_settings x2 x3).bind fun r_3 => (if r_3 = (0 : Int32) then (L_X3_markHits_20 t_loud p1_gapCount p1_gaps p1_settings k_10 n_ t_hitBits x2 (x3 + (1 : Int32))) else ((F_X3_markEcho t_hitBits p1_gaps p1_settings x2 x3).bind fun r_6 => (L_X3_markHits_20 t_loud p1_gapCount p1_gaps p1_settings k_10 n_ r_6 x2 (x3 + (1 : Int32)))))))
set_option maxHeartbeats 4000000 in
set_option maxRecDepth 100000 in
theorem w_X3_markHits_20 {p : Program} {l : Launch} {e : Env} {s : State} {m : MethodId} {args : Array Value} {below : List Frame} {meth : Method} {c : Code} {D : va_G} {K : Nat → ClassId} {A : Nat → Prop} {Q : State → Prop} (C0 : cx_ p s m args c cX3_markHits 4 RX3 wsX3_markHits D K A) {g_t : Nat → Nat} {g_p1 : Nat → Nat} {t_shownCount : Int32} {t_loud : Nat → Int32} {p1_gapCount : Int32} {p1_targetCount : Int32} {p1_lookCount : Int32} {p1_time : Int32} {p1_gone : Int32} {p1_gaps : Nat → Int32} {p1_settings : Nat → Int32} {res : (Nat → Int32)} (HR : ∀ (pc : Nat) (H : Heap) (locs : List Loc) (ls : Array Slot), decode cX3_markHits pc = .ok (.return_, 1) → va_P D vwCl (w_X3_markHits K g_t g_p1 t_shownCount t_loud res p1_gapCount p1_targetCount p1_lookCount p1_time p1_gone p1_gaps p1_settings) H → va_D A (w_X3_markHits K g_t g_p1 t_shownCount t_loud res p1_gapCount p1_targetCount p1_lookCount p1_time p1_gone p1_gaps p1_settings) → va_S A s.heap H locs → W p l e rmX3_markHits s m args below meth c H locs 0 0 Q (F0 m pc ls [])) {k_10 : (Nat → Int32) → Int32 → Option ((Nat → Int32))} (HK_10 : ∀ (t_hitBits : Nat → Int32) (x2 : Int32) (H : Heap) (locs : List Loc) (ls : Array Slot), va_P D vwCl (w_X3_markHits K g_t g_p1 t_shownCount t_loud t_hitBits p1_gapCount p1_targetCount p1_lookCount p1_time p1_gone p1_gaps p1_settings) H → va_D A (w_X3_markHits K g_t g_p1 t_shownCount t_loud t_hitBits p1_gapCount p1_targetCount p1_lookCount p1_time p1_gone p1_gaps p1_settings) → va_S A s.heap H locs → lv_has ls 4 [(0, .ref (g_t 0)), (1, .ref (g_p1 0)), (2, .int x2)] → k_10 t_hitBits x2 = some res → W p l e rmX3_markHits s m args below meth c H locs 0 0 Q (F0 m 10 ls [])) :
    ∀ (n_ : Nat) (t_hitBits : Nat → Int32) (x2 : Int32) (x3 : Int32) (H : Heap) (locs : List Loc) (ls : Array Slot), va_P D vwCl (w_X3_markHits K g_t g_p1 t_shownCount t_loud t_hitBits p1_gapCount p1_targetCount p1_lookCount p1_time p1_gone p1_gaps p1_settings) H → va_D A (w_X3_markHits K g_t g_p1 t_shownCount t_loud t_hitBits p1_gapCount p1_targetCount p1_lookCount p1_time p1_gone p1_gaps p1_settings) → va_S A s.heap H locs → lv_has ls 4 [(0, .ref (g_t 0)), (1, .ref (g_p1 0)), (2, .int x2), (3, .int x3)] → L_X3_markHits_20 t_loud p1_gapCount p1_gaps p1_settings k_10 n_ t_hitBits x2 x3 = some res → W p l e rmX3_markHits s m args below meth c H locs 0 0 Q (F0 m 20 ls []) := by
  obtain ⟨⟨hx, hb, hml, hown, hts⟩, hK, -⟩ := id C0
  intro n_
  induction n_ with
  | zero =>
    intro t_hitBits x2 x3 H locs ls hP hD hS hl hF
    exact no_s (show (none : Option ((Nat → Int32))) = some res from hF)
  | succ n_ ih =>
    intro t_hitBits x2 x3 H locs ls hP hD hS hl hF
    rw [L_X3_markHits_20] at hF
    refine lv_iload_n hx hb dX3_markHits_20 rfl (lv_at hl 3 rfl) ?_
    refine lv_aload_n hx hb dX3_markHits_21 rfl (lv_at hl 1 rfl) ?_
    refine va_get (D := D) (ci := 5) (v := .ref (g_p1 1)) (C := RX5) (T := TX5) (N := 13) hx hb hts iw_X3_markHits_X5 hown hK hP 3 rfl rfl 0 (by decide) (hts _ fl_X3_markHits_33) (fun _ h9 => h9) rfl dX3_markHits_22 ?_
    refine lv_iload_n hx hb dX3_markHits_25 rfl (lv_at hl 2 rfl) ?_
    obtain ⟨hg_1, hF⟩ := gd_some hF
    refine xl_i (f := p1_gaps) hx hb hK hP 4 0 rfl rfl rfl (in_v hg_1) dX3_markHits_26 ?_
    refine lv_icmp_ge (tgt := 53) hx hb dX3_markHits_27 (by decide) (fun c_2 => ?_) (fun c_2 => ?_)
    · have hF := it_pos c_2 hF
      refine lv_iinc (v := (x2 + (1 : Int32))) (lv' := [(2, .int (x2 + (1 : Int32))), (0, .ref (g_t 0)), (1, .ref (g_p1 0)), (3, .int x3)]) hx hb dX3_markHits_53 hl (k := 2) rfl (congrArg (fun z => x2 + z) (by decide)) (by decide) rfl (fun ls hl => ?_)
      refine lv_goto (tgt := 10) hx hb dX3_markHits_56 (by decide) ?_
      exact HK_10 t_hitBits (x2 + (1 : Int32)) H locs ls hP hD hS (lv_sub hl [1, 2, 0] rfl) hF
    · have hF := it_neg c_2 hF
      refine lv_aload_n hx hb dX3_markHits_30 rfl (lv_at hl 0 rfl) ?_
      refine lv_aload_n hx hb dX3_markHits_31 rfl (lv_at hl 1 rfl) ?_
      refine lv_iload_n hx hb dX3_markHits_32 rfl (lv_at hl 2 rfl) ?_
      refine lv_iload_n hx hb dX3_markHits_33 rfl (lv_at hl 3 rfl) ?_
      obtain ⟨r_3, hc_4, hF⟩ := bn_some hF
      refine xc_i (wn := (w_X3_markHits K g_t g_p1 t_shownCount t_loud t_hitBits p1_gapCount p1_targetCount p1_lookCount p1_time p1_gone p1_gaps p1_settings)) hP hD hS C0.2.2.1 [0, 1, 3, 5] [2, 4] [2, 3, 0, 4, 1, 5] rfl rfl (by decide) (by decide) rfl (by decide) (va_runV (As := [.ref (g_p1 0), .int x2, .int x3]) (rest := []) C0.1 (c_X3_isEcho l D K g_t g_p1 t_shownCount t_loud p1_gapCount p1_targetCount p1_lookCount p1_time p1_gone p1_settings x2 x3 r_3 hc_4 H.size) (cwV 3 hts gX3_markHits_X3_isEcho rfl rfl rfl (by decide +kernel) ⟨Nat.le_of_ble_eq_true rfl, Nat.le_of_ble_eq_true rfl⟩) (xp_V C0.2 hP hD hS [0, 1, 3, 5] rfl (by decide) 3 0 rfl rfl rfl) rfl rfl hl.1 rfl (lv_room (Nat.le_of_ble_eq_true rfl)) dX3_markHits_34 ⟨Nat.le_of_ble_eq_true rfl, Nat.le_of_ble_eq_true rfl⟩) (fun H locs hP hD hS => ?_)
      refine lv_if_eq (tgt := 47) hx hb dX3_markHits_37 (by decide) (fun c_5 => ?_) (fun c_5 => ?_)
      · have hF := it_pos c_5 hF
        refine lv_iinc (v := (x3 + (1 : Int32))) (lv' := [(3, .int (x3 + (1 : Int32))), (0, .ref (g_t 0)), (1, .ref (g_p1 0)), (2, .int x2)]) hx hb dX3_markHits_47 hl (k := 3) rfl (congrArg (fun z => x3 + z) (by decide)) (by decide) rfl (fun ls hl => ?_)
        refine lv_goto (tgt := 20) hx hb dX3_markHits_50 (by decide) ?_
        exact ih t_hitBits x2 (x3 + (1 : Int32)) H locs ls hP hD hS (lv_sub hl [1, 2, 3, 0] rfl) hF
      · have hF := it_neg c_5 hF
        refine lv_aload_n hx hb dX3_markHits_40 rfl (lv_at hl 0 rfl) ?_
        refine lv_aload_n hx hb dX3_markHits_41 rfl (lv_at hl 1 rfl) ?_
        refine lv_iload_n hx hb dX3_markHits_42 rfl (lv_at hl 2 rfl) ?_
        refine lv_iload_n hx hb dX3_markHits_43 rfl (lv_at hl 3 rfl) ?_
        obtain ⟨r_6, hc_7, hF⟩ := bn_some hF
        refine xc_v (wn := (w_X3_markHits K g_t g_p1 t_shownCount t_loud r_6 p1_gapCount p1_targetCount p1_lookCount p1_time p1_gone p1_gaps p1_settings)) hP hD hS C0.2.2.1 [0, 2, 3, 4, 5] [1] [1, 0, 2, 3, 4, 5] rfl rfl (by decide) (by decide) rfl (by decide) (va_runV (As := [.ref (g_p1 0), .int x2, .int x3]) (rest := []) C0.1 (c_X3_markEcho l D K g_t g_p1 t_shownCount t_hitBits p1_gapCount p1_targetCount p1_lookCount p1_time p1_gone p1_gaps p1_settings x2 x3 r_6 hc_7 H.size) (cwV 3 hts gX3_markHits_X3_markEcho rfl rfl rfl (by decide +kernel) ⟨Nat.le_of_ble_eq_true rfl, Nat.le_of_ble_eq_true rfl⟩) (xp_V C0.2 hP hD hS [0, 2, 3, 4, 5] rfl (by decide) 3 0 rfl rfl rfl) rfl rfl hl.1 rfl (lv_room (Nat.le_of_ble_eq_true rfl)) dX3_markHits_44 ⟨Nat.le_of_ble_eq_true rfl, Nat.le_of_ble_eq_true rfl⟩) (fun H locs hP hD hS => ?_)
        refine lv_iinc (v := (x3 + (1 : Int32))) (lv' := [(3, .int (x3 + (1 : Int32))), (0, .ref (g_t 0)), (1, .ref (g_p1 0)), (2, .int x2)]) hx hb dX3_markHits_47 hl (k := 3) rfl (congrArg (fun z => x3 + z) (by decide)) (by decide) rfl (fun ls hl => ?_)
        refine lv_goto (tgt := 20) hx hb dX3_markHits_50 (by decide) ?_
        exact ih r_6 x2 (x3 + (1 : Int32)) H locs ls hP hD hS (lv_sub hl [1, 2, 3, 0] rfl) hF
def L_X3_markHits_10 (t_loud : Nat → Int32) (p1_gapCount : Int32) (p1_gaps : Nat → Int32) (p1_settings : Nat → Int32) : Nat → (Nat → Int32) → Int32 → Option ((Nat → Int32))
  | 0, _, _ => none
  | n_ + 1, t_hitBits, x2 =>
    if p1_gapCount ≤ x2 then (some t_hitBits) else (L_X3_markHits_20 t_loud p1_gapCount p1_gaps p1_settings (L_X3_markHits_10 t_loud p1_gapCount p1_gaps p1_settings n_) fu_ t_hitBits x2 (0 : Int32))
set_option maxHeartbeats 4000000 in
set_option maxRecDepth 100000 in
theorem w_X3_markHits_10 {p : Program} {l : Launch} {e : Env} {s : State} {m : MethodId} {args : Array Value} {below : List Frame} {meth : Method} {c : Code} {D : va_G} {K : Nat → ClassId} {A : Nat → Prop} {Q : State → Prop} (C0 : cx_ p s m args c cX3_markHits 4 RX3 wsX3_markHits D K A) {g_t : Nat → Nat} {g_p1 : Nat → Nat} {t_shownCount : Int32} {t_loud : Nat → Int32} {p1_gapCount : Int32} {p1_targetCount : Int32} {p1_lookCount : Int32} {p1_time : Int32} {p1_gone : Int32} {p1_gaps : Nat → Int32} {p1_settings : Nat → Int32} {res : (Nat → Int32)} (HR : ∀ (pc : Nat) (H : Heap) (locs : List Loc) (ls : Array Slot), decode cX3_markHits pc = .ok (.return_, 1) → va_P D vwCl (w_X3_markHits K g_t g_p1 t_shownCount t_loud res p1_gapCount p1_targetCount p1_lookCount p1_time p1_gone p1_gaps p1_settings) H → va_D A (w_X3_markHits K g_t g_p1 t_shownCount t_loud res p1_gapCount p1_targetCount p1_lookCount p1_time p1_gone p1_gaps p1_settings) → va_S A s.heap H locs → W p l e rmX3_markHits s m args below meth c H locs 0 0 Q (F0 m pc ls []))  :
    ∀ (n_ : Nat) (t_hitBits : Nat → Int32) (x2 : Int32) (H : Heap) (locs : List Loc) (ls : Array Slot), va_P D vwCl (w_X3_markHits K g_t g_p1 t_shownCount t_loud t_hitBits p1_gapCount p1_targetCount p1_lookCount p1_time p1_gone p1_gaps p1_settings) H → va_D A (w_X3_markHits K g_t g_p1 t_shownCount t_loud t_hitBits p1_gapCount p1_targetCount p1_lookCount p1_time p1_gone p1_gaps p1_settings) → va_S A s.heap H locs → lv_has ls 4 [(0, .ref (g_t 0)), (1, .ref (g_p1 0)), (2, .int x2)] → L_X3_markHits_10 t_loud p1_gapCount p1_gaps p1_settings n_ t_hitBits x2 = some res → W p l e rmX3_markHits s m args below meth c H locs 0 0 Q (F0 m 10 ls []) := by
  obtain ⟨⟨hx, hb, hml, hown, hts⟩, hK, -⟩ := id C0
  intro n_
  induction n_ with
  | zero =>
    intro t_hitBits x2 H locs ls hP hD hS hl hF
    exact no_s (show (none : Option ((Nat → Int32))) = some res from hF)
  | succ n_ ih =>
    intro t_hitBits x2 H locs ls hP hD hS hl hF
    rw [L_X3_markHits_10] at hF
    refine lv_iload_n hx hb dX3_markHits_10 rfl (lv_at hl 2 rfl) ?_
    refine lv_aload_n hx hb dX3_markHits_11 rfl (lv_at hl 1 rfl) ?_
    refine va_get (D := D) (ci := 5) (v := .int p1_gapCount) (C := RX5) (T := TX5) (N := 13) hx hb hts iw_X3_markHits_X5 hown hK hP 3 rfl rfl 8 (by decide) (hts _ fl_X3_markHits_27) (fun _ h9 => h9) rfl dX3_markHits_12 ?_
    refine lv_icmp_ge (tgt := 59) hx hb dX3_markHits_15 (by decide) (fun c_1 => ?_) (fun c_1 => ?_)
    · have hF := it_pos c_1 hF
      obtain rfl := Option.some.inj hF
      exact HR 59 H locs ls dX3_markHits_59 hP hD hS
    · have hF := it_neg c_1 hF
      refine lv_iconst (v := 0) hx hb dX3_markHits_18 (by decide) ?_
      refine lv_istore_n (lv' := [(3, .int (0 : Int32)), (0, .ref (g_t 0)), (1, .ref (g_p1 0)), (2, .int x2)]) hx hb dX3_markHits_19 rfl hl (by decide) rfl (fun ls hl => ?_)
      exact w_X3_markHits_20 C0 HR ih fu_ t_hitBits x2 (0 : Int32) H locs ls hP hD hS (lv_sub hl [1, 2, 3, 0] rfl) hF
def F_X3_markHits (t_loud : Nat → Int32) (t_hitBits : Nat → Int32) (p1_gapCount : Int32) (p1_gaps : Nat → Int32) (p1_settings : Nat → Int32) : Option ((Nat → Int32)) :=
  (F_J7_fill_53178 t_hitBits 1000 (0 : Int32)).bind fun r_1 => (L_X3_markHits_10 t_loud p1_gapCount p1_gaps p1_settings fu_ r_1 (0 : Int32))
set_option maxHeartbeats 4000000 in
set_option maxRecDepth 100000 in
theorem c_X3_markHits (l : Launch) (D : va_G) (K : Nat → ClassId) (g_t : Nat → Nat) (g_p1 : Nat → Nat) (t_shownCount : Int32) (t_loud : Nat → Int32) (t_hitBits : Nat → Int32) (p1_gapCount : Int32) (p1_targetCount : Int32) (p1_lookCount : Int32) (p1_time : Int32) (p1_gone : Int32) (p1_gaps : Nat → Int32) (p1_settings : Nat → Int32) (res : (Nat → Int32)) (hF : F_X3_markHits t_loud t_hitBits p1_gapCount p1_gaps p1_settings = some res) :
    Mv_ l yX3_markHits wsX3_markHits rmX3_markHits D K [.ref (g_t 0), .ref (g_p1 0)] (w_X3_markHits K g_t g_p1 t_shownCount t_loud t_hitBits p1_gapCount p1_targetCount p1_lookCount p1_time p1_gone p1_gaps p1_settings) (w_X3_markHits K g_t g_p1 t_shownCount t_loud res p1_gapCount p1_targetCount p1_lookCount p1_time p1_gone p1_gaps p1_settings) := by
  refine en_v (cc := cX3_markHits) (maxL := 4) (own := RX3) (by decide) rfl rfl (Nat.le_of_ble_eq_true rfl) ?_
  intro p e s m args below meth c A Q H locs ls C0 hP hD hS hl HR
  obtain ⟨⟨hx, hb, hml, hown, hts⟩, hK, -⟩ := id C0
  have hl : lv_has ls 4 [(0, .ref (g_t 0)), (1, .ref (g_p1 0))] := hl
  unfold F_X3_markHits at hF
  refine lv_aload_n hx hb dX3_markHits_0 rfl (lv_at hl 0 rfl) ?_
  refine va_get (D := D) (ci := 3) (v := .ref (g_t 3)) (C := RX3) (T := TX3) (N := 6) hx hb hts iw_X3_markHits_X3 hown hK hP 0 rfl rfl 2 (by decide) (hts _ fl_X3_markHits_18) (fun _ h9 => h9) rfl dX3_markHits_1 ?_
  refine lv_iconst (v := 0) hx hb dX3_markHits_4 (by decide) ?_
  obtain ⟨r_1, hc_2, hF⟩ := bn_some hF
  refine xc_v (wn := (w_X3_markHits K g_t g_p1 t_shownCount t_loud r_1 p1_gapCount p1_targetCount p1_lookCount p1_time p1_gone p1_gaps p1_settings)) hP hD hS C0.2.2.1 [2] [0, 1, 3, 4, 5] [0, 1, 5, 2, 3, 4] rfl rfl (by decide) (by decide) rfl (by decide) (va_runS (As := [.ref (g_t 3), .int (0 : Int32)]) (rest := []) C0.1 (c_J7_fill_53178 l D K (g_t 3) 1000 t_hitBits (0 : Int32) r_1 hc_2 H.size) (va_cwS 2 hts gX3_markHits_J7_fill_53178 rfl rfl rfl (by decide +kernel) ⟨Nat.le_of_ble_eq_true rfl, Nat.le_of_ble_eq_true rfl⟩) (xp_S C0.2 hP hD hS [2] rfl (by decide)) rfl rfl hl.1 rfl (lv_room (Nat.le_of_ble_eq_true rfl)) dX3_markHits_5 ⟨Nat.le_of_ble_eq_true rfl, Nat.le_of_ble_eq_true rfl⟩) (fun H locs hP hD hS => ?_)
  refine lv_iconst (v := 0) hx hb dX3_markHits_8 (by decide) ?_
  refine lv_istore_n (lv' := [(2, .int (0 : Int32)), (0, .ref (g_t 0)), (1, .ref (g_p1 0))]) hx hb dX3_markHits_9 rfl hl (by decide) rfl (fun ls hl => ?_)
  exact w_X3_markHits_10 C0 HR fu_ r_1 (0 : Int32) H locs ls hP hD hS (lv_sub hl [1, 2, 0] rfl) hF

/-! StaggerRadar.isWithin(III)Z -/
abbrev rmX10_isWithin : Room := { frames := 0, cells := 0, slots := 0, locals := 0 }
abbrev w_X10_isWithin (K : Nat → ClassId) : va_W := []
def F_X10_isWithin (x0 : Int32) (x1 : Int32) (x2 : Int32) : Option (Int32) :=
  if x0 < x1 then (some (0 : Int32)) else (if x2 < x0 then (some (0 : Int32)) else (some (1 : Int32)))
set_option maxHeartbeats 4000000 in
set_option maxRecDepth 100000 in
theorem c_X10_isWithin (l : Launch) (D : va_G) (K : Nat → ClassId) (x0 : Int32) (x1 : Int32) (x2 : Int32) (res : Int32) (hF : F_X10_isWithin x0 x1 x2 = some res) :
    Mi_ l yX10_isWithin wsX10_isWithin rmX10_isWithin D K [.int x0, .int x1, .int x2] (w_X10_isWithin K) (w_X10_isWithin K) (res) := by
  refine en_z (cc := cX10_isWithin) (maxL := 3) (own := RX10) (by decide) rfl rfl (Nat.le_of_ble_eq_true rfl) ?_
  intro p e s m args below meth c A Q H locs ls C0 hP hD hS hl HR
  obtain ⟨⟨hx, hb, hml, hown, hts⟩, hK, -⟩ := id C0
  have hl : lv_has ls 3 [(0, .int x0), (1, .int x1), (2, .int x2)] := hl
  unfold F_X10_isWithin at hF
  refine lv_iload_n hx hb dX10_isWithin_0 rfl (lv_at hl 0 rfl) ?_
  refine lv_iload_n hx hb dX10_isWithin_1 rfl (lv_at hl 1 rfl) ?_
  refine lv_icmp_lt (tgt := 14) hx hb dX10_isWithin_2 (by decide) (fun c_1 => ?_) (fun c_1 => ?_)
  · have hF := it_pos c_1 hF
    refine lv_iconst (v := 0) hx hb dX10_isWithin_14 (by decide) ?_
    obtain rfl := Option.some.inj hF
    exact HR 15 H locs ls dX10_isWithin_15 narrow_b0 hP hD hS
  · have hF := it_neg c_1 hF
    refine lv_iload_n hx hb dX10_isWithin_5 rfl (lv_at hl 0 rfl) ?_
    refine lv_iload_n hx hb dX10_isWithin_6 rfl (lv_at hl 2 rfl) ?_
    refine lv_icmp_gt (tgt := 14) hx hb dX10_isWithin_7 (by decide) (fun c_2 => ?_) (fun c_2 => ?_)
    · have hF := it_pos c_2 hF
      refine lv_iconst (v := 0) hx hb dX10_isWithin_14 (by decide) ?_
      obtain rfl := Option.some.inj hF
      exact HR 15 H locs ls dX10_isWithin_15 narrow_b0 hP hD hS
    · have hF := it_neg c_2 hF
      refine lv_iconst (v := 1) hx hb dX10_isWithin_10 (by decide) ?_
      refine lv_goto (tgt := 15) hx hb dX10_isWithin_11 (by decide) ?_
      obtain rfl := Option.some.inj hF
      exact HR 15 H locs ls dX10_isWithin_15 narrow_b1 hP hD hS

/-! StaggerRadar.isGap(I)Z -/
abbrev rmX10_isGap : Room := { frames := 1, cells := 0, slots := 0, locals := 22 }
abbrev w_X10_isGap (K : Nat → ClassId) : va_W := []
def F_X10_isGap (x0 : Int32) : Option (Int32) :=
  (F_X10_isWithin x0 (4 : Int32) (60 : Int32)).bind fun r_1 => (gd_ (decide (r_1 &&& 1 = r_1)) (some r_1))
set_option maxHeartbeats 4000000 in
set_option maxRecDepth 100000 in
theorem c_X10_isGap (l : Launch) (D : va_G) (K : Nat → ClassId) (x0 : Int32) (res : Int32) (hF : F_X10_isGap x0 = some res) :
    Mi_ l yX10_isGap wsX10_isGap rmX10_isGap D K [.int x0] (w_X10_isGap K) (w_X10_isGap K) (res) := by
  refine en_z (cc := cX10_isGap) (maxL := 1) (own := RX10) (by decide) rfl rfl (Nat.le_of_ble_eq_true rfl) ?_
  intro p e s m args below meth c A Q H locs ls C0 hP hD hS hl HR
  obtain ⟨⟨hx, hb, hml, hown, hts⟩, hK, -⟩ := id C0
  have hl : lv_has ls 1 [(0, .int x0)] := hl
  unfold F_X10_isGap at hF
  refine lv_iload_n hx hb dX10_isGap_0 rfl (lv_at hl 0 rfl) ?_
  refine lv_iconst (v := 4) hx hb dX10_isGap_1 (by decide) ?_
  refine lv_bipush (v := 60) hx hb dX10_isGap_2 (by decide) ?_
  obtain ⟨r_1, hc_2, hF⟩ := bn_some hF
  refine xc_i (wn := (w_X10_isGap K)) hP hD hS C0.2.2.1 [] [] [] rfl rfl (by decide) (by decide) rfl (by decide) (va_runS (As := [.int x0, .int (4 : Int32), .int (60 : Int32)]) (rest := []) C0.1 (c_X10_isWithin l D K x0 (4 : Int32) (60 : Int32) r_1 hc_2 H.size) (va_cwS 3 hts gX10_isGap_X10_isWithin rfl rfl rfl (by decide +kernel) ⟨Nat.le_of_ble_eq_true rfl, Nat.le_of_ble_eq_true rfl⟩) (xp_S C0.2 hP hD hS [] rfl (by decide)) rfl rfl hl.1 rfl (lv_room (Nat.le_of_ble_eq_true rfl)) dX10_isGap_4 ⟨Nat.le_of_ble_eq_true rfl, Nat.le_of_ble_eq_true rfl⟩) (fun H locs hP hD hS => ?_)
  obtain ⟨hg_3, hF⟩ := gd_some hF
  obtain rfl := Option.some.inj hF
  exact HR 7 H locs ls dX10_isGap_7 (zn_of hg_3) hP hD hS

/-! StaggerRadar.Radar.rangeOf(I)I -/
abbrev rmX5_rangeOf : Room := { frames := 0, cells := 0, slots := 0, locals := 0 }
theorem fl_X5_rangeOf_18 : Cond.fieldLink RX5 18 "StaggerRadar$Radar" "spots" "[I" ∈ wsX5_rangeOf := by decide +kernel
theorem iw_X5_rangeOf_X5 : ∀ w ∈ u_ws RX5 TX5 13, w ∈ wsX5_rangeOf := by decide +kernel
abbrev w_X5_rangeOf (K : Nat → ClassId) (g_t : Nat → Nat) (t_gapCount : Int32) (t_targetCount : Int32) (t_lookCount : Int32) (t_time : Int32) (t_gone : Int32) (t_spots : Nat → Int32) : va_W := [((g_t 0), .inr (5, [.ref (g_t 1), .ref (g_t 2), .ref (g_t 3), .ref (g_t 4), .ref (g_t 5), .ref (g_t 6), .ref (g_t 7), .ref (g_t 8), .int t_gapCount, .int t_targetCount, .int t_lookCount, .int t_time, .int t_gone])), ((g_t 3), .inl (K 0, 8, .inl t_spots))]
def F_X5_rangeOf (t_spots : Nat → Int32) (x1 : Int32) : Option (Int32) :=
  gd_ (in_b x1 8) (some ((t_spots (x1).toNatClampNeg) / (16 : Int32)))
set_option maxHeartbeats 4000000 in
set_option maxRecDepth 100000 in
theorem c_X5_rangeOf (l : Launch) (D : va_G) (K : Nat → ClassId) (g_t : Nat → Nat) (t_gapCount : Int32) (t_targetCount : Int32) (t_lookCount : Int32) (t_time : Int32) (t_gone : Int32) (t_spots : Nat → Int32) (x1 : Int32) (res : Int32) (hF : F_X5_rangeOf t_spots x1 = some res) :
    Mi_ l yX5_rangeOf wsX5_rangeOf rmX5_rangeOf D K [.ref (g_t 0), .int x1] (w_X5_rangeOf K g_t t_gapCount t_targetCount t_lookCount t_time t_gone t_spots) (w_X5_rangeOf K g_t t_gapCount t_targetCount t_lookCount t_time t_gone t_spots) (res) := by
  refine en_i (cc := cX5_rangeOf) (maxL := 2) (own := RX5) (by decide) rfl rfl (Nat.le_of_ble_eq_true rfl) ?_
  intro p e s m args below meth c A Q H locs ls C0 hP hD hS hl HR
  obtain ⟨⟨hx, hb, hml, hown, hts⟩, hK, -⟩ := id C0
  have hl : lv_has ls 2 [(0, .ref (g_t 0)), (1, .int x1)] := hl
  unfold F_X5_rangeOf at hF
  refine lv_aload_n hx hb dX5_rangeOf_0 rfl (lv_at hl 0 rfl) ?_
  refine va_get (D := D) (ci := 5) (v := .ref (g_t 3)) (C := RX5) (T := TX5) (N := 13) hx hb hts iw_X5_rangeOf_X5 hown hK hP 0 rfl rfl 2 (by decide) (hts _ fl_X5_rangeOf_18) (fun _ h9 => h9) rfl dX5_rangeOf_1 ?_
  refine lv_iload_n hx hb dX5_rangeOf_4 rfl (lv_at hl 1 rfl) ?_
  obtain ⟨hg_1, hF⟩ := gd_some hF
  refine xl_i (f := t_spots) hx hb hK hP 1 0 rfl rfl rfl (in_v hg_1) dX5_rangeOf_5 ?_
  refine lv_bipush (v := 16) hx hb dX5_rangeOf_6 (by decide) ?_
  refine lv_idiv hx hb dX5_rangeOf_8 (by decide) ?_
  obtain rfl := Option.some.inj hF
  exact HR 9 H locs ls dX5_rangeOf_9 hP hD hS

/-! StaggerRadar.Radar.sees(II)Z -/
abbrev rmX5_sees : Room := { frames := 2, cells := 0, slots := 0, locals := 45 }
theorem fl_X5_sees_15 : Cond.fieldLink RX5 15 "StaggerRadar$Radar" "settings" "[I" ∈ wsX5_sees := by decide +kernel
theorem fl_X5_sees_21 : Cond.fieldLink RX5 21 "StaggerRadar$Radar" "speeds" "[I" ∈ wsX5_sees := by decide +kernel
theorem iw_X5_sees_X5 : ∀ w ∈ u_ws RX5 TX5 13, w ∈ wsX5_sees := by decide +kernel
abbrev w_X5_sees (K : Nat → ClassId) (g_t : Nat → Nat) (t_gapCount : Int32) (t_targetCount : Int32) (t_lookCount : Int32) (t_time : Int32) (t_gone : Int32) (t_settings : Nat → Int32) (t_spots : Nat → Int32) (t_speeds : Nat → Int32) : va_W := [((g_t 0), .inr (5, [.ref (g_t 1), .ref (g_t 2), .ref (g_t 3), .ref (g_t 4), .ref (g_t 5), .ref (g_t 6), .ref (g_t 7), .ref (g_t 8), .int t_gapCount, .int t_targetCount, .int t_lookCount, .int t_time, .int t_gone])), ((g_t 2), .inl (K 0, 7, .inl t_settings)), ((g_t 3), .inl (K 0, 8, .inl t_spots)), ((g_t 4), .inl (K 0, 8, .inl t_speeds))]
def F_X5_sees (t_settings : Nat → Int32) (t_spots : Nat → Int32) (t_speeds : Nat → Int32) (x1 : Int32) (x2 : Int32) : Option (Int32) :=
  (F_X5_rangeOf t_spots x1).bind fun r_1 => ((F_X10_rest r_1 x2).bind fun r_3 => (if r_3 < (t_settings 2) then (some (0 : Int32)) else (gd_ (in_b x1 8) ((F_X5_hides t_settings (t_speeds (x1).toNatClampNeg) x2).bind fun r_7 => (if r_7 = (0 : Int32) then (some (1 : Int32)) else (some (0 : Int32)))))))
set_option maxHeartbeats 4000000 in
set_option maxRecDepth 100000 in
theorem c_X5_sees (l : Launch) (D : va_G) (K : Nat → ClassId) (g_t : Nat → Nat) (t_gapCount : Int32) (t_targetCount : Int32) (t_lookCount : Int32) (t_time : Int32) (t_gone : Int32) (t_settings : Nat → Int32) (t_spots : Nat → Int32) (t_speeds : Nat → Int32) (x1 : Int32) (x2 : Int32) (res : Int32) (hF : F_X5_sees t_settings t_spots t_speeds x1 x2 = some res) :
    Mi_ l yX5_sees wsX5_sees rmX5_sees D K [.ref (g_t 0), .int x1, .int x2] (w_X5_sees K g_t t_gapCount t_targetCount t_lookCount t_time t_gone t_settings t_spots t_speeds) (w_X5_sees K g_t t_gapCount t_targetCount t_lookCount t_time t_gone t_settings t_spots t_speeds) (res) := by
  refine en_z (cc := cX5_sees) (maxL := 3) (own := RX5) (by decide) rfl rfl (Nat.le_of_ble_eq_true rfl) ?_
  intro p e s m args below meth c A Q H locs ls C0 hP hD hS hl HR
  obtain ⟨⟨hx, hb, hml, hown, hts⟩, hK, -⟩ := id C0
  have hl : lv_has ls 3 [(0, .ref (g_t 0)), (1, .int x1), (2, .int x2)] := hl
  unfold F_X5_sees at hF
  refine lv_aload_n hx hb dX5_sees_0 rfl (lv_at hl 0 rfl) ?_
  refine lv_iload_n hx hb dX5_sees_1 rfl (lv_at hl 1 rfl) ?_
  obtain ⟨r_1, hc_2, hF⟩ := bn_some hF
  refine xc_i (wn := (w_X5_sees K g_t t_gapCount t_targetCount t_lookCount t_time t_gone t_settings t_spots t_speeds)) hP hD hS C0.2.2.1 [0, 2] [1, 3] [2, 0, 3, 1] rfl rfl (by decide) (by decide) rfl (by decide) (va_runV (As := [.int x1]) (rest := []) C0.1 (c_X5_rangeOf l D K g_t t_gapCount t_targetCount t_lookCount t_time t_gone t_spots x1 r_1 hc_2 H.size) (cwV 1 hts gX5_sees_X5_rangeOf rfl rfl rfl (by decide +kernel) ⟨Nat.le_of_ble_eq_true rfl, Nat.le_of_ble_eq_true rfl⟩) (xp_V C0.2 hP hD hS [0, 2] rfl (by decide) 5 0 rfl rfl rfl) rfl rfl hl.1 rfl (lv_room (Nat.le_of_ble_eq_true rfl)) dX5_sees_2 ⟨Nat.le_of_ble_eq_true rfl, Nat.le_of_ble_eq_true rfl⟩) (fun H locs hP hD hS => ?_)
  refine lv_iload_n hx hb dX5_sees_5 rfl (lv_at hl 2 rfl) ?_
  obtain ⟨r_3, hc_4, hF⟩ := bn_some hF
  refine xc_i (wn := (w_X5_sees K g_t t_gapCount t_targetCount t_lookCount t_time t_gone t_settings t_spots t_speeds)) hP hD hS C0.2.2.1 [] [0, 1, 2, 3] [0, 1, 2, 3] rfl rfl (by decide) (by decide) rfl (by decide) (va_runSN (host := "StaggerRadar") (As := [.int r_1, .int x2]) (rest := []) C0.1 (c_X10_rest l D K r_1 x2 r_3 hc_4 H.size) ⟨va_cnB 2 hts gX5_sees_X10_rest_n88 rfl rfl rfl (C0.2.2.2.1.1 ("StaggerRadar$Radar", 88, ⟨"StaggerRadar", "rest", "(II)I"⟩, "StaggerRadar") (by decide +kernel)) (hts (.initialized RX10) (by decide +kernel)) (by decide +kernel) ⟨Nat.le_of_ble_eq_true rfl, Nat.le_of_ble_eq_true rfl⟩, hts (.static yX10_rest) (by decide +kernel), trivial⟩ (xp_S C0.2 hP hD hS [] rfl (by decide)) rfl rfl hl.1 rfl (lv_room (Nat.le_of_ble_eq_true rfl)) dX5_sees_6 ⟨Nat.le_of_ble_eq_true rfl, Nat.le_of_ble_eq_true rfl⟩) (fun H locs hP hD hS => ?_)
  refine lv_aload_n hx hb dX5_sees_9 rfl (lv_at hl 0 rfl) ?_
  refine va_get (D := D) (ci := 5) (v := .ref (g_t 2)) (C := RX5) (T := TX5) (N := 13) hx hb hts iw_X5_sees_X5 hown hK hP 0 rfl rfl 1 (by decide) (hts _ fl_X5_sees_15) (fun _ h9 => h9) rfl dX5_sees_10 ?_
  refine lv_iconst (v := 2) hx hb dX5_sees_13 (by decide) ?_
  refine xl_i (f := t_settings) hx hb hK hP 1 0 rfl rfl (k := 2) (by decide) (in_v (by decide)) dX5_sees_14 ?_
  refine lv_icmp_lt (tgt := 36) hx hb dX5_sees_15 (by decide) (fun c_5 => ?_) (fun c_5 => ?_)
  · have hF := it_pos c_5 hF
    refine lv_iconst (v := 0) hx hb dX5_sees_36 (by decide) ?_
    obtain rfl := Option.some.inj hF
    exact HR 37 H locs ls dX5_sees_37 narrow_b0 hP hD hS
  · have hF := it_neg c_5 hF
    refine lv_aload_n hx hb dX5_sees_18 rfl (lv_at hl 0 rfl) ?_
    refine lv_aload_n hx hb dX5_sees_19 rfl (lv_at hl 0 rfl) ?_
    refine va_get (D := D) (ci := 5) (v := .ref (g_t 4)) (C := RX5) (T := TX5) (N := 13) hx hb hts iw_X5_sees_X5 hown hK hP 0 rfl rfl 3 (by decide) (hts _ fl_X5_sees_21) (fun _ h9 => h9) rfl dX5_sees_20 ?_
    refine lv_iload_n hx hb dX5_sees_23 rfl (lv_at hl 1 rfl) ?_
    obtain ⟨hg_6, hF⟩ := gd_some hF
    refine xl_i (f := t_speeds) hx hb hK hP 3 0 rfl rfl rfl (in_v hg_6) dX5_sees_24 ?_
    refine lv_iload_n hx hb dX5_sees_25 rfl (lv_at hl 2 rfl) ?_
    obtain ⟨r_7, hc_8, hF⟩ := bn_some hF
    refine xc_i (wn := (w_X5_sees K g_t t_gapCount t_targetCount t_lookCount t_time t_gone t_settings t_spots t_speeds)) hP hD hS C0.2.2.1 [0, 1] [2, 3] [2, 3, 0, 1] rfl rfl (by decide) (by decide) rfl (by decide) (va_runV (As := [.int (t_speeds (x1).toNatClampNeg), .int x2]) (rest := []) C0.1 (c_X5_hides l D K g_t t_gapCount t_targetCount t_lookCount t_time t_gone t_settings (t_speeds (x1).toNatClampNeg) x2 r_7 hc_8 H.size) (cwV 2 hts gX5_sees_X5_hides rfl rfl rfl (by decide +kernel) ⟨Nat.le_of_ble_eq_true rfl, Nat.le_of_ble_eq_true rfl⟩) (xp_V C0.2 hP hD hS [0, 1] rfl (by decide) 5 0 rfl rfl rfl) rfl rfl hl.1 rfl (lv_room (Nat.le_of_ble_eq_true rfl)) dX5_sees_26 ⟨Nat.le_of_ble_eq_true rfl, Nat.le_of_ble_eq_true rfl⟩) (fun H locs hP hD hS => ?_)
    refine lv_if_ne (tgt := 36) hx hb dX5_sees_29 (by decide) (fun c_9 => ?_) (fun c_9 => ?_)
    · have hF := it_neg c_9 hF
      refine lv_iconst (v := 0) hx hb dX5_sees_36 (by decide) ?_
      obtain rfl := Option.some.inj hF
      exact HR 37 H locs ls dX5_sees_37 narrow_b0 hP hD hS
    · have hF := it_pos c_9 hF
      refine lv_iconst (v := 1) hx hb dX5_sees_32 (by decide) ?_
      refine lv_goto (tgt := 37) hx hb dX5_sees_33 (by decide) ?_
      obtain rfl := Option.some.inj hF
      exact HR 37 H locs ls dX5_sees_37 narrow_b1 hP hD hS

/-! StaggerRadar.Echoes.listenBy(LStaggerRadar$Radar;II)V -/
abbrev rmX3_listenBy : Room := { frames := 3, cells := 0, slots := 0, locals := 67 }
theorem fl_X3_listenBy_11 : Cond.fieldLink RX3 11 "StaggerRadar$Echoes" "targets" "[I" ∈ wsX3_listenBy := by decide +kernel
theorem fl_X3_listenBy_15 : Cond.fieldLink RX3 15 "StaggerRadar$Echoes" "loud" "[I" ∈ wsX3_listenBy := by decide +kernel
theorem fl_X3_listenBy_48 : Cond.fieldLink RX3 48 "StaggerRadar$Radar" "targetCount" "I" ∈ wsX3_listenBy := by decide +kernel
theorem fl_X3_listenBy_63 : Cond.fieldLink RX3 63 "StaggerRadar$Radar" "strengths" "[I" ∈ wsX3_listenBy := by decide +kernel
theorem iw_X3_listenBy_X3 : ∀ w ∈ u_ws RX3 TX3 6, w ∈ wsX3_listenBy := by decide +kernel
theorem iw_X3_listenBy_X5 : ∀ w ∈ u_ws RX5 TX5 13, w ∈ wsX3_listenBy := by decide +kernel
abbrev w_X3_listenBy (K : Nat → ClassId) (g_t : Nat → Nat) (g_p1 : Nat → Nat) (t_shownCount : Int32) (t_targets : Nat → Int32) (t_loud : Nat → Int32) (p1_gapCount : Int32) (p1_targetCount : Int32) (p1_lookCount : Int32) (p1_time : Int32) (p1_gone : Int32) (p1_settings : Nat → Int32) (p1_spots : Nat → Int32) (p1_speeds : Nat → Int32) (p1_strengths : Nat → Int32) : va_W := [((g_t 0), .inr (3, [.ref (g_t 1), .ref (g_t 2), .ref (g_t 3), .ref (g_t 4), .ref (g_t 5), .int t_shownCount])), ((g_t 1), .inl (K 0, 300, .inl t_targets)), ((g_t 2), .inl (K 0, 300, .inl t_loud)), ((g_p1 0), .inr (5, [.ref (g_p1 1), .ref (g_p1 2), .ref (g_p1 3), .ref (g_p1 4), .ref (g_p1 5), .ref (g_p1 6), .ref (g_p1 7), .ref (g_p1 8), .int p1_gapCount, .int p1_targetCount, .int p1_lookCount, .int p1_time, .int p1_gone])), ((g_p1 2), .inl (K 0, 7, .inl p1_settings)), ((g_p1 3), .inl (K 0, 8, .inl p1_spots)), ((g_p1 4), .inl (K 0, 8, .inl p1_speeds)), ((g_p1 5), .inl (K 0, 8, .inl p1_strengths))]
def L_X3_listenBy_64 (p1_targetCount : Int32) (p1_settings : Nat → Int32) (p1_spots : Nat → Int32) (p1_speeds : Nat → Int32) (p1_strengths : Nat → Int32) : Nat → (Nat → Int32) → (Nat → Int32) → Int32 → Int32 → Int32 → Option ((Nat → Int32) × (Nat → Int32))
  | 0, _, _, _, _, _ => none
  | n_ + 1, t_targets, t_loud, x3, x4, x5 =>
    if p1_targetCount ≤ x5 then (some (t_targets, t_loud)) else ((F_X5_sees p1_settings p1_spots p1_speeds x5 x3).bind fun r_2 => (if r_2 = (0 : Int32) then (L_X3_listenBy_64 p1_targetCount p1_settings p1_spots p1_speeds p1_strengths n_ t_targets t_loud x3 x4 (x5 + (1 : Int32))) else ((F_X5_rangeOf p1_spots x5).bind fun r_5 => ((F_X10_rest r_5 x3).bind fun r_7 => (gd_ (in_b (x4 + r_7) 300) (gd_ (in_b (x4 + r_7) 300) (gd_ (in_b (x4 + r_7) 300) (gd_ (in_b x5 8) (gd_ (in_b (x4 + r_7) 300) (L_X3_listenBy_64 p1_targetCount p1_settings p1_spots p1_speeds p1_strengths n_ (upd t_targets (x4 + r_7).toNatClampNeg ((t_targets (x4 + r_7).toNatClampNeg) ||| ((1 : Int32) <<< (x5 &&& 31)))) (upd t_loud (x4 + r_7).toNatClampNeg ((t_loud (x4 + r_7).toNatClampNeg) + (p1_strengths (x5).toNatClampNeg))) x3 x4 (x5 + (1 : Int32))))))))))))
set_option maxHeartbeats 4000000 in
set_option maxRecDepth 100000 in
theorem w_X3_listenBy_64 {p : Program} {l : Launch} {e : Env} {s : State} {m : MethodId} {args : Array Value} {below : List Frame} {meth : Method} {c : Code} {D : va_G} {K : Nat → ClassId} {A : Nat → Prop} {Q : State → Prop} (C0 : cx_ p s m args c cX3_listenBy 7 RX3 wsX3_listenBy D K A) {g_t : Nat → Nat} {g_p1 : Nat → Nat} {t_shownCount : Int32} {p1_gapCount : Int32} {p1_targetCount : Int32} {p1_lookCount : Int32} {p1_time : Int32} {p1_gone : Int32} {p1_settings : Nat → Int32} {p1_spots : Nat → Int32} {p1_speeds : Nat → Int32} {p1_strengths : Nat → Int32} {res : (Nat → Int32) × (Nat → Int32)} (HR : ∀ (pc : Nat) (H : Heap) (locs : List Loc) (ls : Array Slot), decode cX3_listenBy pc = .ok (.return_, 1) → va_P D vwCl (w_X3_listenBy K g_t g_p1 t_shownCount res.1 res.2 p1_gapCount p1_targetCount p1_lookCount p1_time p1_gone p1_settings p1_spots p1_speeds p1_strengths) H → va_D A (w_X3_listenBy K g_t g_p1 t_shownCount res.1 res.2 p1_gapCount p1_targetCount p1_lookCount p1_time p1_gone p1_settings p1_spots p1_speeds p1_strengths) → va_S A s.heap H locs → W p l e rmX3_listenBy s m args below meth c H locs 0 0 Q (F0 m pc ls []))  :
    ∀ (n_ : Nat) (t_targets : Nat → Int32) (t_loud : Nat → Int32) (x3 : Int32) (x4 : Int32) (x5 : Int32) (H : Heap) (locs : List Loc) (ls : Array Slot), va_P D vwCl (w_X3_listenBy K g_t g_p1 t_shownCount t_targets t_loud p1_gapCount p1_targetCount p1_lookCount p1_time p1_gone p1_settings p1_spots p1_speeds p1_strengths) H → va_D A (w_X3_listenBy K g_t g_p1 t_shownCount t_targets t_loud p1_gapCount p1_targetCount p1_lookCount p1_time p1_gone p1_settings p1_spots p1_speeds p1_strengths) → va_S A s.heap H locs → lv_has ls 7 [(0, .ref (g_t 0)), (1, .ref (g_p1 0)), (3, .int x3), (4, .int x4), (5, .int x5)] → L_X3_listenBy_64 p1_targetCount p1_settings p1_spots p1_speeds p1_strengths n_ t_targets t_loud x3 x4 x5 = some res → W p l e rmX3_listenBy s m args below meth c H locs 0 0 Q (F0 m 64 ls []) := by
  obtain ⟨⟨hx, hb, hml, hown, hts⟩, hK, -⟩ := id C0
  intro n_
  induction n_ with
  | zero =>
    intro t_targets t_loud x3 x4 x5 H locs ls hP hD hS hl hF
    exact no_s (show (none : Option ((Nat → Int32) × (Nat → Int32))) = some res from hF)
  | succ n_ ih =>
    intro t_targets t_loud x3 x4 x5 H locs ls hP hD hS hl hF
    rw [L_X3_listenBy_64] at hF
    refine lv_iload hx hb dX3_listenBy_64 (lv_at hl 4 rfl) ?_
    refine lv_aload_n hx hb dX3_listenBy_66 rfl (lv_at hl 1 rfl) ?_
    refine va_get (D := D) (ci := 5) (v := .int p1_targetCount) (C := RX5) (T := TX5) (N := 13) hx hb hts iw_X3_listenBy_X5 hown hK hP 3 rfl rfl 9 (by decide) (hts _ fl_X3_listenBy_48) (fun _ h9 => h9) rfl dX3_listenBy_67 ?_
    refine lv_icmp_ge (tgt := 135) hx hb dX3_listenBy_70 (by decide) (fun c_1 => ?_) (fun c_1 => ?_)
    · have hF := it_pos c_1 hF
      obtain rfl := Option.some.inj hF
      exact HR 135 H locs ls dX3_listenBy_135 hP hD hS
    · have hF := it_neg c_1 hF
      refine lv_aload_n hx hb dX3_listenBy_73 rfl (lv_at hl 1 rfl) ?_
      refine lv_iload hx hb dX3_listenBy_74 (lv_at hl 4 rfl) ?_
      refine lv_iload_n hx hb dX3_listenBy_76 rfl (lv_at hl 2 rfl) ?_
      obtain ⟨r_2, hc_3, hF⟩ := bn_some hF
      refine xc_i (wn := (w_X3_listenBy K g_t g_p1 t_shownCount t_targets t_loud p1_gapCount p1_targetCount p1_lookCount p1_time p1_gone p1_settings p1_spots p1_speeds p1_strengths)) hP hD hS C0.2.2.1 [3, 4, 5, 6] [0, 1, 2, 7] [0, 1, 2, 4, 5, 6, 7, 3] rfl rfl (by decide) (by decide) rfl (by decide) (va_runV (As := [.int x5, .int x3]) (rest := []) C0.1 (c_X5_sees l D K g_p1 p1_gapCount p1_targetCount p1_lookCount p1_time p1_gone p1_settings p1_spots p1_speeds x5 x3 r_2 hc_3 H.size) (cwV 2 hts gX3_listenBy_X5_sees rfl rfl rfl (by decide +kernel) ⟨Nat.le_of_ble_eq_true rfl, Nat.le_of_ble_eq_true rfl⟩) (xp_V C0.2 hP hD hS [3, 4, 5, 6] rfl (by decide) 5 0 rfl rfl rfl) rfl rfl hl.1 rfl (lv_room (Nat.le_of_ble_eq_true rfl)) dX3_listenBy_77 ⟨Nat.le_of_ble_eq_true rfl, Nat.le_of_ble_eq_true rfl⟩) (fun H locs hP hD hS => ?_)
      refine lv_if_eq (tgt := 129) hx hb dX3_listenBy_80 (by decide) (fun c_4 => ?_) (fun c_4 => ?_)
      · have hF := it_pos c_4 hF
        refine lv_iinc (v := (x5 + (1 : Int32))) (lv' := [(5, .int (x5 + (1 : Int32))), (0, .ref (g_t 0)), (1, .ref (g_p1 0)), (3, .int x3), (4, .int x4)]) hx hb dX3_listenBy_129 hl (k := 4) rfl (congrArg (fun z => x5 + z) (by decide)) (by decide) rfl (fun ls hl => ?_)
        refine lv_goto (tgt := 64) hx hb dX3_listenBy_132 (by decide) ?_
        exact ih t_targets t_loud x3 x4 (x5 + (1 : Int32)) H locs ls hP hD hS (lv_sub hl [1, 2, 3, 4, 0] rfl) hF
      · have hF := it_neg c_4 hF
        refine lv_iload hx hb dX3_listenBy_83 (lv_at hl 3 rfl) ?_
        refine lv_aload_n hx hb dX3_listenBy_85 rfl (lv_at hl 1 rfl) ?_
        refine lv_iload hx hb dX3_listenBy_86 (lv_at hl 4 rfl) ?_
        obtain ⟨r_5, hc_6, hF⟩ := bn_some hF
        refine xc_i (wn := (w_X3_listenBy K g_t g_p1 t_shownCount t_targets t_loud p1_gapCount p1_targetCount p1_lookCount p1_time p1_gone p1_settings p1_spots p1_speeds p1_strengths)) hP hD hS C0.2.2.1 [3, 5] [0, 1, 2, 4, 6, 7] [0, 1, 2, 6, 3, 7, 4, 5] rfl rfl (by decide) (by decide) rfl (by decide) (va_runV (As := [.int x5]) (rest := [.int x4]) C0.1 (c_X5_rangeOf l D K g_p1 p1_gapCount p1_targetCount p1_lookCount p1_time p1_gone p1_spots x5 r_5 hc_6 H.size) (cwV 1 hts gX3_listenBy_X5_rangeOf rfl rfl rfl (by decide +kernel) ⟨Nat.le_of_ble_eq_true rfl, Nat.le_of_ble_eq_true rfl⟩) (xp_V C0.2 hP hD hS [3, 5] rfl (by decide) 5 0 rfl rfl rfl) rfl rfl hl.1 rfl (lv_room (Nat.le_of_ble_eq_true rfl)) dX3_listenBy_88 ⟨Nat.le_of_ble_eq_true rfl, Nat.le_of_ble_eq_true rfl⟩) (fun H locs hP hD hS => ?_)
        refine lv_iload_n hx hb dX3_listenBy_91 rfl (lv_at hl 2 rfl) ?_
        obtain ⟨r_7, hc_8, hF⟩ := bn_some hF
        refine xc_i (wn := (w_X3_listenBy K g_t g_p1 t_shownCount t_targets t_loud p1_gapCount p1_targetCount p1_lookCount p1_time p1_gone p1_settings p1_spots p1_speeds p1_strengths)) hP hD hS C0.2.2.1 [] [0, 1, 2, 3, 4, 5, 6, 7] [0, 1, 2, 3, 4, 5, 6, 7] rfl rfl (by decide) (by decide) rfl (by decide) (va_runSN (host := "StaggerRadar") (As := [.int r_5, .int x3]) (rest := [.int x4]) C0.1 (c_X10_rest l D K r_5 x3 r_7 hc_8 H.size) ⟨va_cnB 2 hts gX3_listenBy_X10_rest_n59 rfl rfl rfl (C0.2.2.2.1.1 ("StaggerRadar$Echoes", 59, ⟨"StaggerRadar", "rest", "(II)I"⟩, "StaggerRadar") (by decide +kernel)) (hts (.initialized RX10) (by decide +kernel)) (by decide +kernel) ⟨Nat.le_of_ble_eq_true rfl, Nat.le_of_ble_eq_true rfl⟩, hts (.static yX10_rest) (by decide +kernel), trivial⟩ (xp_S C0.2 hP hD hS [] rfl (by decide)) rfl rfl hl.1 rfl (lv_room (Nat.le_of_ble_eq_true rfl)) dX3_listenBy_92 ⟨Nat.le_of_ble_eq_true rfl, Nat.le_of_ble_eq_true rfl⟩) (fun H locs hP hD hS => ?_)
        refine lv_iadd hx hb dX3_listenBy_95 ?_
        refine lv_istore (lv' := [(6, .int (x4 + r_7)), (0, .ref (g_t 0)), (1, .ref (g_p1 0)), (3, .int x3), (4, .int x4), (5, .int x5)]) hx hb dX3_listenBy_96 hl (by decide) rfl (fun ls hl => ?_)
        refine lv_aload_n hx hb dX3_listenBy_98 rfl (lv_at hl 1 rfl) ?_
        refine va_get (D := D) (ci := 3) (v := .ref (g_t 1)) (C := RX3) (T := TX3) (N := 6) hx hb hts iw_X3_listenBy_X3 hown hK hP 0 rfl rfl 0 (by decide) (hts _ fl_X3_listenBy_11) (fun _ h9 => h9) rfl dX3_listenBy_99 ?_
        refine lv_iload hx hb dX3_listenBy_102 (lv_at hl 0 rfl) ?_
        refine lv_dup2_11 hx hb dX3_listenBy_104 rfl rfl ?_
        obtain ⟨hg_9, hF⟩ := gd_some hF
        refine xl_i (f := t_targets) hx hb hK hP 1 0 rfl rfl rfl (in_v hg_9) dX3_listenBy_105 ?_
        refine lv_iconst (v := 1) hx hb dX3_listenBy_106 (by decide) ?_
        refine lv_iload hx hb dX3_listenBy_107 (lv_at hl 5 rfl) ?_
        refine lv_ishl hx hb dX3_listenBy_109 ?_
        refine lv_ior hx hb dX3_listenBy_110 ?_
        obtain ⟨hg_10, hF⟩ := gd_some hF
        refine xs_i (f := t_targets) hx hb hK hP hD hS 1 0 rfl rfl rfl (in_v hg_10) dX3_listenBy_111 (fun H locs hP hD hS => ?_)
        have hP : va_P D vwCl (w_X3_listenBy K g_t g_p1 t_shownCount (upd t_targets (x4 + r_7).toNatClampNeg ((t_targets (x4 + r_7).toNatClampNeg) ||| ((1 : Int32) <<< (x5 &&& 31)))) t_loud p1_gapCount p1_targetCount p1_lookCount p1_time p1_gone p1_settings p1_spots p1_speeds p1_strengths) H := hP
        have hD : va_D A (w_X3_listenBy K g_t g_p1 t_shownCount (upd t_targets (x4 + r_7).toNatClampNeg ((t_targets (x4 + r_7).toNatClampNeg) ||| ((1 : Int32) <<< (x5 &&& 31)))) t_loud p1_gapCount p1_targetCount p1_lookCount p1_time p1_gone p1_settings p1_spots p1_speeds p1_strengths) := hD
        refine lv_aload_n hx hb dX3_listenBy_112 rfl (lv_at hl 1 rfl) ?_
        refine va_get (D := D) (ci := 3) (v := .ref (g_t 2)) (C := RX3) (T := TX3) (N := 6) hx hb hts iw_X3_listenBy_X3 hown hK hP 0 rfl rfl 1 (by decide) (hts _ fl_X3_listenBy_15) (fun _ h9 => h9) rfl dX3_listenBy_113 ?_
        refine lv_iload hx hb dX3_listenBy_116 (lv_at hl 0 rfl) ?_
        refine lv_dup2_11 hx hb dX3_listenBy_118 rfl rfl ?_
        obtain ⟨hg_11, hF⟩ := gd_some hF
        refine xl_i (f := t_loud) hx hb hK hP 2 0 rfl rfl rfl (in_v hg_11) dX3_listenBy_119 ?_
        refine lv_aload_n hx hb dX3_listenBy_120 rfl (lv_at hl 2 rfl) ?_
        refine va_get (D := D) (ci := 5) (v := .ref (g_p1 5)) (C := RX5) (T := TX5) (N := 13) hx hb hts iw_X3_listenBy_X5 hown hK hP 3 rfl rfl 4 (by decide) (hts _ fl_X3_listenBy_63) (fun _ h9 => h9) rfl dX3_listenBy_121 ?_
        refine lv_iload hx hb dX3_listenBy_124 (lv_at hl 5 rfl) ?_
        obtain ⟨hg_12, hF⟩ := gd_some hF
        refine xl_i (f := p1_strengths) hx hb hK hP 7 0 rfl rfl rfl (in_v hg_12) dX3_listenBy_126 ?_
        refine lv_iadd hx hb dX3_listenBy_127 ?_
        obtain ⟨hg_13, hF⟩ := gd_some hF
        refine xs_i (f := t_loud) hx hb hK hP hD hS 2 0 rfl rfl rfl (in_v hg_13) dX3_listenBy_128 (fun H locs hP hD hS => ?_)
        have hP : va_P D vwCl (w_X3_listenBy K g_t g_p1 t_shownCount (upd t_targets (x4 + r_7).toNatClampNeg ((t_targets (x4 + r_7).toNatClampNeg) ||| ((1 : Int32) <<< (x5 &&& 31)))) (upd t_loud (x4 + r_7).toNatClampNeg ((t_loud (x4 + r_7).toNatClampNeg) + (p1_strengths (x5).toNatClampNeg))) p1_gapCount p1_targetCount p1_lookCount p1_time p1_gone p1_settings p1_spots p1_speeds p1_strengths) H := hP
        have hD : va_D A (w_X3_listenBy K g_t g_p1 t_shownCount (upd t_targets (x4 + r_7).toNatClampNeg ((t_targets (x4 + r_7).toNatClampNeg) ||| ((1 : Int32) <<< (x5 &&& 31)))) (upd t_loud (x4 + r_7).toNatClampNeg ((t_loud (x4 + r_7).toNatClampNeg) + (p1_strengths (x5).toNatClampNeg))) p1_gapCount p1_targetCount p1_lookCount p1_time p1_gone p1_settings p1_spots p1_speeds p1_strengths) := hD
        refine lv_iinc (v := (x5 + (1 : Int32))) (lv' := [(5, .int (x5 + (1 : Int32))), (6, .int (x4 + r_7)), (0, .ref (g_t 0)), (1, .ref (g_p1 0)), (3, .int x3), (4, .int x4)]) hx hb dX3_listenBy_129 hl (k := 5) rfl (congrArg (fun z => x5 + z) (by decide)) (by decide) rfl (fun ls hl => ?_)
        refine lv_goto (tgt := 64) hx hb dX3_listenBy_132 (by decide) ?_
        exact ih (upd t_targets (x4 + r_7).toNatClampNeg ((t_targets (x4 + r_7).toNatClampNeg) ||| ((1 : Int32) <<< (x5 &&& 31)))) (upd t_loud (x4 + r_7).toNatClampNeg ((t_loud (x4 + r_7).toNatClampNeg) + (p1_strengths (x5).toNatClampNeg))) x3 x4 (x5 + (1 : Int32)) H locs ls hP hD hS (lv_sub hl [2, 3, 4, 5, 0] rfl) hF
def L_X3_listenBy_26 (p1_targetCount : Int32) (p1_settings : Nat → Int32) (p1_spots : Nat → Int32) (p1_speeds : Nat → Int32) (p1_strengths : Nat → Int32) : Nat → (Nat → Int32) → (Nat → Int32) → Int32 → Int32 → Int32 → Option ((Nat → Int32) × (Nat → Int32))
  | 0, _, _, _, _, _ => none
  | n_ + 1, t_targets, t_loud, x3, x4, x5 =>
    if (60 : Int32) ≤ x5 then (L_X3_listenBy_64 p1_targetCount p1_settings p1_spots p1_speeds p1_strengths fu_ t_targets t_loud x3 x4 (0 : Int32)) else (gd_ (in_b (x4 + x5) 300) (gd_ (in_b (x4 + x5) 300) (L_X3_listenBy_26 p1_targetCount p1_settings p1_spots p1_speeds p1_strengths n_ (upd t_targets (x4 + x5).toNatClampNeg (0 : Int32)) (upd t_loud (x4 + x5).toNatClampNeg (0 : Int32)) x3 x4 (x5 + (1 : Int32)))))
set_option maxHeartbeats 4000000 in
set_option maxRecDepth 100000 in
theorem w_X3_listenBy_26 {p : Program} {l : Launch} {e : Env} {s : State} {m : MethodId} {args : Array Value} {below : List Frame} {meth : Method} {c : Code} {D : va_G} {K : Nat → ClassId} {A : Nat → Prop} {Q : State → Prop} (C0 : cx_ p s m args c cX3_listenBy 7 RX3 wsX3_listenBy D K A) {g_t : Nat → Nat} {g_p1 : Nat → Nat} {t_shownCount : Int32} {p1_gapCount : Int32} {p1_targetCount : Int32} {p1_lookCount : Int32} {p1_time : Int32} {p1_gone : Int32} {p1_settings : Nat → Int32} {p1_spots : Nat → Int32} {p1_speeds : Nat → Int32} {p1_strengths : Nat → Int32} {res : (Nat → Int32) × (Nat → Int32)} (HR : ∀ (pc : Nat) (H : Heap) (locs : List Loc) (ls : Array Slot), decode cX3_listenBy pc = .ok (.return_, 1) → va_P D vwCl (w_X3_listenBy K g_t g_p1 t_shownCount res.1 res.2 p1_gapCount p1_targetCount p1_lookCount p1_time p1_gone p1_settings p1_spots p1_speeds p1_strengths) H → va_D A (w_X3_listenBy K g_t g_p1 t_shownCount res.1 res.2 p1_gapCount p1_targetCount p1_lookCount p1_time p1_gone p1_settings p1_spots p1_speeds p1_strengths) → va_S A s.heap H locs → W p l e rmX3_listenBy s m args below meth c H locs 0 0 Q (F0 m pc ls []))  :
    ∀ (n_ : Nat) (t_targets : Nat → Int32) (t_loud : Nat → Int32) (x3 : Int32) (x4 : Int32) (x5 : Int32) (H : Heap) (locs : List Loc) (ls : Array Slot), va_P D vwCl (w_X3_listenBy K g_t g_p1 t_shownCount t_targets t_loud p1_gapCount p1_targetCount p1_lookCount p1_time p1_gone p1_settings p1_spots p1_speeds p1_strengths) H → va_D A (w_X3_listenBy K g_t g_p1 t_shownCount t_targets t_loud p1_gapCount p1_targetCount p1_lookCount p1_time p1_gone p1_settings p1_spots p1_speeds p1_strengths) → va_S A s.heap H locs → lv_has ls 7 [(0, .ref (g_t 0)), (1, .ref (g_p1 0)), (3, .int x3), (4, .int x4), (5, .int x5)] → L_X3_listenBy_26 p1_targetCount p1_settings p1_spots p1_speeds p1_strengths n_ t_targets t_loud x3 x4 x5 = some res → W p l e rmX3_listenBy s m args below meth c H locs 0 0 Q (F0 m 26 ls []) := by
  obtain ⟨⟨hx, hb, hml, hown, hts⟩, hK, -⟩ := id C0
  intro n_
  induction n_ with
  | zero =>
    intro t_targets t_loud x3 x4 x5 H locs ls hP hD hS hl hF
    exact no_s (show (none : Option ((Nat → Int32) × (Nat → Int32))) = some res from hF)
  | succ n_ ih =>
    intro t_targets t_loud x3 x4 x5 H locs ls hP hD hS hl hF
    rw [L_X3_listenBy_26] at hF
    refine lv_iload hx hb dX3_listenBy_26 (lv_at hl 4 rfl) ?_
    refine lv_bipush (v := 60) hx hb dX3_listenBy_28 (by decide) ?_
    refine lv_icmp_ge (tgt := 61) hx hb dX3_listenBy_30 (by decide) (fun c_1 => ?_) (fun c_1 => ?_)
    · have hF := it_pos c_1 hF
      refine lv_iconst (v := 0) hx hb dX3_listenBy_61 (by decide) ?_
      refine lv_istore (lv' := [(5, .int (0 : Int32)), (0, .ref (g_t 0)), (1, .ref (g_p1 0)), (3, .int x3), (4, .int x4)]) hx hb dX3_listenBy_62 hl (by decide) rfl (fun ls hl => ?_)
      exact w_X3_listenBy_64 C0 HR fu_ t_targets t_loud x3 x4 (0 : Int32) H locs ls hP hD hS (lv_sub hl [1, 2, 3, 4, 0] rfl) hF
    · have hF := it_neg c_1 hF
      refine lv_aload_n hx hb dX3_listenBy_33 rfl (lv_at hl 0 rfl) ?_
      refine va_get (D := D) (ci := 3) (v := .ref (g_t 1)) (C := RX3) (T := TX3) (N := 6) hx hb hts iw_X3_listenBy_X3 hown hK hP 0 rfl rfl 0 (by decide) (hts _ fl_X3_listenBy_11) (fun _ h9 => h9) rfl dX3_listenBy_34 ?_
      refine lv_iload hx hb dX3_listenBy_37 (lv_at hl 3 rfl) ?_
      refine lv_iload hx hb dX3_listenBy_39 (lv_at hl 4 rfl) ?_
      refine lv_iadd hx hb dX3_listenBy_41 ?_
      refine lv_iconst (v := 0) hx hb dX3_listenBy_42 (by decide) ?_
      obtain ⟨hg_2, hF⟩ := gd_some hF
      refine xs_i (f := t_targets) hx hb hK hP hD hS 1 0 rfl rfl rfl (in_v hg_2) dX3_listenBy_43 (fun H locs hP hD hS => ?_)
      have hP : va_P D vwCl (w_X3_listenBy K g_t g_p1 t_shownCount (upd t_targets (x4 + x5).toNatClampNeg (0 : Int32)) t_loud p1_gapCount p1_targetCount p1_lookCount p1_time p1_gone p1_settings p1_spots p1_speeds p1_strengths) H := hP
      have hD : va_D A (w_X3_listenBy K g_t g_p1 t_shownCount (upd t_targets (x4 + x5).toNatClampNeg (0 : Int32)) t_loud p1_gapCount p1_targetCount p1_lookCount p1_time p1_gone p1_settings p1_spots p1_speeds p1_strengths) := hD
      refine lv_aload_n hx hb dX3_listenBy_44 rfl (lv_at hl 0 rfl) ?_
      refine va_get (D := D) (ci := 3) (v := .ref (g_t 2)) (C := RX3) (T := TX3) (N := 6) hx hb hts iw_X3_listenBy_X3 hown hK hP 0 rfl rfl 1 (by decide) (hts _ fl_X3_listenBy_15) (fun _ h9 => h9) rfl dX3_listenBy_45 ?_
      refine lv_iload hx hb dX3_listenBy_48 (lv_at hl 3 rfl) ?_
      refine lv_iload hx hb dX3_listenBy_50 (lv_at hl 4 rfl) ?_
      refine lv_iadd hx hb dX3_listenBy_52 ?_
      refine lv_iconst (v := 0) hx hb dX3_listenBy_53 (by decide) ?_
      obtain ⟨hg_3, hF⟩ := gd_some hF
      refine xs_i (f := t_loud) hx hb hK hP hD hS 2 0 rfl rfl rfl (in_v hg_3) dX3_listenBy_54 (fun H locs hP hD hS => ?_)
      have hP : va_P D vwCl (w_X3_listenBy K g_t g_p1 t_shownCount (upd t_targets (x4 + x5).toNatClampNeg (0 : Int32)) (upd t_loud (x4 + x5).toNatClampNeg (0 : Int32)) p1_gapCount p1_targetCount p1_lookCount p1_time p1_gone p1_settings p1_spots p1_speeds p1_strengths) H := hP
      have hD : va_D A (w_X3_listenBy K g_t g_p1 t_shownCount (upd t_targets (x4 + x5).toNatClampNeg (0 : Int32)) (upd t_loud (x4 + x5).toNatClampNeg (0 : Int32)) p1_gapCount p1_targetCount p1_lookCount p1_time p1_gone p1_settings p1_spots p1_speeds p1_strengths) := hD
      refine lv_iinc (v := (x5 + (1 : Int32))) (lv' := [(5, .int (x5 + (1 : Int32))), (0, .ref (g_t 0)), (1, .ref (g_p1 0)), (3, .int x3), (4, .int x4)]) hx hb dX3_listenBy_55 hl (k := 4) rfl (congrArg (fun z => x5 + z) (by decide)) (by decide) rfl (fun ls hl => ?_)
      refine lv_goto (tgt := 26) hx hb dX3_listenBy_58 (by decide) ?_
      exact ih (upd t_targets (x4 + x5).toNatClampNeg (0 : Int32)) (upd t_loud (x4 + x5).toNatClampNeg (0 : Int32)) x3 x4 (x5 + (1 : Int32)) H locs ls hP hD hS (lv_sub hl [1, 2, 3, 4, 0] rfl) hF
def F_X3_listenBy (t_targets : Nat → Int32) (t_loud : Nat → Int32) (p1_targetCount : Int32) (p1_settings : Nat → Int32) (p1_spots : Nat → Int32) (p1_speeds : Nat → Int32) (p1_strengths : Nat → Int32) (x2 : Int32) (x3 : Int32) : Option ((Nat → Int32) × (Nat → Int32)) :=
  (F_X10_isWithin x2 (0 : Int32) (4 : Int32)).bind fun r_1 => (if r_1 = (0 : Int32) then (some (t_targets, t_loud)) else ((F_X10_isGap x3).bind fun r_4 => (if r_4 = (0 : Int32) then (some (t_targets, t_loud)) else (L_X3_listenBy_26 p1_targetCount p1_settings p1_spots p1_speeds p1_strengths fu_ t_targets t_loud x3 (x2 * (60 : Int32)) (0 : Int32)))))
set_option maxHeartbeats 4000000 in
set_option maxRecDepth 100000 in
theorem c_X3_listenBy (l : Launch) (D : va_G) (K : Nat → ClassId) (g_t : Nat → Nat) (g_p1 : Nat → Nat) (t_shownCount : Int32) (t_targets : Nat → Int32) (t_loud : Nat → Int32) (p1_gapCount : Int32) (p1_targetCount : Int32) (p1_lookCount : Int32) (p1_time : Int32) (p1_gone : Int32) (p1_settings : Nat → Int32) (p1_spots : Nat → Int32) (p1_speeds : Nat → Int32) (p1_strengths : Nat → Int32) (x2 : Int32) (x3 : Int32) (res : (Nat → Int32) × (Nat → Int32)) (hF : F_X3_listenBy t_targets t_loud p1_targetCount p1_settings p1_spots p1_speeds p1_strengths x2 x3 = some res) :
    Mv_ l yX3_listenBy wsX3_listenBy rmX3_listenBy D K [.ref (g_t 0), .ref (g_p1 0), .int x2, .int x3] (w_X3_listenBy K g_t g_p1 t_shownCount t_targets t_loud p1_gapCount p1_targetCount p1_lookCount p1_time p1_gone p1_settings p1_spots p1_speeds p1_strengths) (w_X3_listenBy K g_t g_p1 t_shownCount res.1 res.2 p1_gapCount p1_targetCount p1_lookCount p1_time p1_gone p1_settings p1_spots p1_speeds p1_strengths) := by
  refine en_v (cc := cX3_listenBy) (maxL := 7) (own := RX3) (by decide) rfl rfl (Nat.le_of_ble_eq_true rfl) ?_
  intro p e s m args below meth c A Q H locs ls C0 hP hD hS hl HR
  obtain ⟨⟨hx, hb, hml, hown, hts⟩, hK, -⟩ := id C0
  have hl : lv_has ls 7 [(0, .ref (g_t 0)), (1, .ref (g_p1 0)), (2, .int x2), (3, .int x3)] := hl
  unfold F_X3_listenBy at hF
  refine lv_iload_n hx hb dX3_listenBy_0 rfl (lv_at hl 2 rfl) ?_
  refine lv_iconst (v := 0) hx hb dX3_listenBy_1 (by decide) ?_
  refine lv_iconst (v := 4) hx hb dX3_listenBy_2 (by decide) ?_
  obtain ⟨r_1, hc_2, hF⟩ := bn_some hF
  refine xc_i (wn := (w_X3_listenBy K g_t g_p1 t_shownCount t_targets t_loud p1_gapCount p1_targetCount p1_lookCount p1_time p1_gone p1_settings p1_spots p1_speeds p1_strengths)) hP hD hS C0.2.2.1 [] [0, 1, 2, 3, 4, 5, 6, 7] [0, 1, 2, 3, 4, 5, 6, 7] rfl rfl (by decide) (by decide) rfl (by decide) (va_runSN (host := "StaggerRadar") (As := [.int x2, .int (0 : Int32), .int (4 : Int32)]) (rest := []) C0.1 (c_X10_isWithin l D K x2 (0 : Int32) (4 : Int32) r_1 hc_2 H.size) ⟨va_cnB 3 hts gX3_listenBy_X10_isWithin_n40 rfl rfl rfl (C0.2.2.2.1.1 ("StaggerRadar$Echoes", 40, ⟨"StaggerRadar", "isWithin", "(III)Z"⟩, "StaggerRadar") (by decide +kernel)) (hts (.initialized RX10) (by decide +kernel)) (by decide +kernel) ⟨Nat.le_of_ble_eq_true rfl, Nat.le_of_ble_eq_true rfl⟩, hts (.static yX10_isWithin) (by decide +kernel), trivial⟩ (xp_S C0.2 hP hD hS [] rfl (by decide)) rfl rfl hl.1 rfl (lv_room (Nat.le_of_ble_eq_true rfl)) dX3_listenBy_3 ⟨Nat.le_of_ble_eq_true rfl, Nat.le_of_ble_eq_true rfl⟩) (fun H locs hP hD hS => ?_)
  refine lv_if_eq (tgt := 16) hx hb dX3_listenBy_6 (by decide) (fun c_3 => ?_) (fun c_3 => ?_)
  · have hF := it_pos c_3 hF
    obtain rfl := Option.some.inj hF
    exact HR 16 H locs ls dX3_listenBy_16 hP hD hS
  · have hF := it_neg c_3 hF
    refine lv_iload_n hx hb dX3_listenBy_9 rfl (lv_at hl 3 rfl) ?_
    obtain ⟨r_4, hc_5, hF⟩ := bn_some hF
    refine xc_i (wn := (w_X3_listenBy K g_t g_p1 t_shownCount t_targets t_loud p1_gapCount p1_targetCount p1_lookCount p1_time p1_gone p1_settings p1_spots p1_speeds p1_strengths)) hP hD hS C0.2.2.1 [] [0, 1, 2, 3, 4, 5, 6, 7] [0, 1, 2, 3, 4, 5, 6, 7] rfl rfl (by decide) (by decide) rfl (by decide) (va_runSN (host := "StaggerRadar") (As := [.int x3]) (rest := []) C0.1 (c_X10_isGap l D K x3 r_4 hc_5 H.size) ⟨va_cnB 1 hts gX3_listenBy_X10_isGap_n44 rfl rfl rfl (C0.2.2.2.1.1 ("StaggerRadar$Echoes", 44, ⟨"StaggerRadar", "isGap", "(I)Z"⟩, "StaggerRadar") (by decide +kernel)) (hts (.initialized RX10) (by decide +kernel)) (by decide +kernel) ⟨Nat.le_of_ble_eq_true rfl, Nat.le_of_ble_eq_true rfl⟩, hts (.static yX10_isGap) (by decide +kernel), trivial⟩ (xp_S C0.2 hP hD hS [] rfl (by decide)) rfl rfl hl.1 rfl (lv_room (Nat.le_of_ble_eq_true rfl)) dX3_listenBy_10 ⟨Nat.le_of_ble_eq_true rfl, Nat.le_of_ble_eq_true rfl⟩) (fun H locs hP hD hS => ?_)
    refine lv_if_ne (tgt := 17) hx hb dX3_listenBy_13 (by decide) (fun c_6 => ?_) (fun c_6 => ?_)
    · have hF := it_neg c_6 hF
      refine lv_iload_n hx hb dX3_listenBy_17 rfl (lv_at hl 2 rfl) ?_
      refine lv_bipush (v := 60) hx hb dX3_listenBy_18 (by decide) ?_
      refine lv_imul hx hb dX3_listenBy_20 ?_
      refine lv_istore (lv' := [(4, .int (x2 * (60 : Int32))), (0, .ref (g_t 0)), (1, .ref (g_p1 0)), (2, .int x2), (3, .int x3)]) hx hb dX3_listenBy_21 hl (by decide) rfl (fun ls hl => ?_)
      refine lv_iconst (v := 0) hx hb dX3_listenBy_23 (by decide) ?_
      refine lv_istore (lv' := [(5, .int (0 : Int32)), (4, .int (x2 * (60 : Int32))), (0, .ref (g_t 0)), (1, .ref (g_p1 0)), (2, .int x2), (3, .int x3)]) hx hb dX3_listenBy_24 hl (by decide) rfl (fun ls hl => ?_)
      exact w_X3_listenBy_26 C0 HR fu_ t_targets t_loud x3 (x2 * (60 : Int32)) (0 : Int32) H locs ls hP hD hS (lv_sub hl [2, 3, 5, 1, 0] rfl) hF
    · have hF := it_pos c_6 hF
      obtain rfl := Option.some.inj hF
      exact HR 16 H locs ls dX3_listenBy_16 hP hD hS
