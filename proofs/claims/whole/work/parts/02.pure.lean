/-! pure part, by mkpure.py -/
def in_b (i : Int32) (n : Nat) : Bool := !(decide (i < 0)) && Nat.blt i.toNatClampNeg n
def gd_ {α : Type} (b : Bool) (k : Option α) : Option α := if b = true then k else none
theorem gd_ok {α : Type} {b : Bool} {k : Option α} (h : b = true) : gd_ b k = k := by unfold gd_; rw [if_pos h]
def fu_ : Nat := 1000000
def F_J6_bitCount_0f7a4 (x0 : Int32) : Option (Int32) :=
  some ((((((((x0 - (((x0).toUInt32 >>> (((1 : Int32)).toUInt32 &&& Int32.toUInt32 31)).toInt32 &&& (1431655765 : Int32))) &&& (858993459 : Int32)) + ((((x0 - (((x0).toUInt32 >>> (((1 : Int32)).toUInt32 &&& Int32.toUInt32 31)).toInt32 &&& (1431655765 : Int32)))).toUInt32 >>> (((2 : Int32)).toUInt32 &&& Int32.toUInt32 31)).toInt32 &&& (858993459 : Int32))) + (((((x0 - (((x0).toUInt32 >>> (((1 : Int32)).toUInt32 &&& Int32.toUInt32 31)).toInt32 &&& (1431655765 : Int32))) &&& (858993459 : Int32)) + ((((x0 - (((x0).toUInt32 >>> (((1 : Int32)).toUInt32 &&& Int32.toUInt32 31)).toInt32 &&& (1431655765 : Int32)))).toUInt32 >>> (((2 : Int32)).toUInt32 &&& Int32.toUInt32 31)).toInt32 &&& (858993459 : Int32)))).toUInt32 >>> (((4 : Int32)).toUInt32 &&& Int32.toUInt32 31)).toInt32) &&& (252645135 : Int32)) + (((((((x0 - (((x0).toUInt32 >>> (((1 : Int32)).toUInt32 &&& Int32.toUInt32 31)).toInt32 &&& (1431655765 : Int32))) &&& (858993459 : Int32)) + ((((x0 - (((x0).toUInt32 >>> (((1 : Int32)).toUInt32 &&& Int32.toUInt32 31)).toInt32 &&& (1431655765 : Int32)))).toUInt32 >>> (((2 : Int32)).toUInt32 &&& Int32.toUInt32 31)).toInt32 &&& (858993459 : Int32))) + (((((x0 - (((x0).toUInt32 >>> (((1 : Int32)).toUInt32 &&& Int32.toUInt32 31)).toInt32 &&& (1431655765 : Int32))) &&& (858993459 : Int32)) + ((((x0 - (((x0).toUInt32 >>> (((1 : Int32)).toUInt32 &&& Int32.toUInt32 31)).toInt32 &&& (1431655765 : Int32)))).toUInt32 >>> (((2 : Int32)).toUInt32 &&& Int32.toUInt32 31)).toInt32 &&& (858993459 : Int32)))).toUInt32 >>> (((4 : Int32)).toUInt32 &&& Int32.toUInt32 31)).toInt32) &&& (252645135 : Int32))).toUInt32 >>> (((8 : Int32)).toUInt32 &&& Int32.toUInt32 31)).toInt32) + ((((((((x0 - (((x0).toUInt32 >>> (((1 : Int32)).toUInt32 &&& Int32.toUInt32 31)).toInt32 &&& (1431655765 : Int32))) &&& (858993459 : Int32)) + ((((x0 - (((x0).toUInt32 >>> (((1 : Int32)).toUInt32 &&& Int32.toUInt32 31)).toInt32 &&& (1431655765 : Int32)))).toUInt32 >>> (((2 : Int32)).toUInt32 &&& Int32.toUInt32 31)).toInt32 &&& (858993459 : Int32))) + (((((x0 - (((x0).toUInt32 >>> (((1 : Int32)).toUInt32 &&& Int32.toUInt32 31)).toInt32 &&& (1431655765 : Int32))) &&& (858993459 : Int32)) + ((((x0 - (((x0).toUInt32 >>> (((1 : Int32)).toUInt32 &&& Int32.toUInt32 31)).toInt32 &&& (1431655765 : Int32)))).toUInt32 >>> (((2 : Int32)).toUInt32 &&& Int32.toUInt32 31)).toInt32 &&& (858993459 : Int32)))).toUInt32 >>> (((4 : Int32)).toUInt32 &&& Int32.toUInt32 31)).toInt32) &&& (252645135 : Int32)) + (((((((x0 - (((x0).toUInt32 >>> (((1 : Int32)).toUInt32 &&& Int32.toUInt32 31)).toInt32 &&& (1431655765 : Int32))) &&& (858993459 : Int32)) + ((((x0 - (((x0).toUInt32 >>> (((1 : Int32)).toUInt32 &&& Int32.toUInt32 31)).toInt32 &&& (1431655765 : Int32)))).toUInt32 >>> (((2 : Int32)).toUInt32 &&& Int32.toUInt32 31)).toInt32 &&& (858993459 : Int32))) + (((((x0 - (((x0).toUInt32 >>> (((1 : Int32)).toUInt32 &&& Int32.toUInt32 31)).toInt32 &&& (1431655765 : Int32))) &&& (858993459 : Int32)) + ((((x0 - (((x0).toUInt32 >>> (((1 : Int32)).toUInt32 &&& Int32.toUInt32 31)).toInt32 &&& (1431655765 : Int32)))).toUInt32 >>> (((2 : Int32)).toUInt32 &&& Int32.toUInt32 31)).toInt32 &&& (858993459 : Int32)))).toUInt32 >>> (((4 : Int32)).toUInt32 &&& Int32.toUInt32 31)).toInt32) &&& (252645135 : Int32))).toUInt32 >>> (((8 : Int32)).toUInt32 &&& Int32.toUInt32 31)).toInt32)).toUInt32 >>> (((16 : Int32)).toUInt32 &&& Int32.toUInt32 31)).toInt32) &&& (63 : Int32))
def L_J7_fill_53178_5 (n_p0 : Nat) : Nat → (Nat → Int32) → Int32 → Int32 → Int32 → Option ((Nat → Int32))
  | 0, _, _, _, _ => none
  | n_ + 1, p0, x1, x2, x3 =>
    if x3 ≤ x2 then (some p0) else (gd_ (in_b x2 n_p0) (L_J7_fill_53178_5 n_p0 n_ (upd p0 (x2).toNatClampNeg x1) x1 (x2 + (1 : Int32)) x3))
def F_J7_fill_53178 (p0 : Nat → Int32) (n_p0 : Nat) (x1 : Int32) : Option ((Nat → Int32)) :=
  L_J7_fill_53178_5 n_p0 fu_ p0 x1 (0 : Int32) (nI n_p0)
def L_X5_indexOfGap_2 (t_gapCount : Int32) (t_gaps : Nat → Int32) : Nat → Int32 → Int32 → Option (Int32)
  | 0, _, _ => none
  | n_ + 1, x1, x2 =>
    if t_gapCount ≤ x2 then (some (-1 : Int32)) else (gd_ (in_b x2 5) (if (t_gaps (x2).toNatClampNeg) = x1 then (some x2) else (L_X5_indexOfGap_2 t_gapCount t_gaps n_ x1 (x2 + (1 : Int32)))))
def F_X5_indexOfGap (t_gapCount : Int32) (t_gaps : Nat → Int32) (x1 : Int32) : Option (Int32) :=
  L_X5_indexOfGap_2 t_gapCount t_gaps fu_ x1 (0 : Int32)
def L_X0_bestGap_4 (t_weight : Nat → Int32) (p1_gapCount : Int32) (p1_gaps : Nat → Int32) : Nat → Int32 → Int32 → Option (Int32)
  | 0, _, _ => none
  | n_ + 1, x2, x3 =>
    if (60 : Int32) < x3 then (some x2) else ((F_X5_indexOfGap p1_gapCount p1_gaps x3).bind fun r_2 => (if r_2 = (-1 : Int32) then (if x2 = (-1 : Int32) then (L_X0_bestGap_4 t_weight p1_gapCount p1_gaps n_ x3 (x3 + (1 : Int32))) else (gd_ (in_b x3 61) (gd_ (in_b x2 61) (if (t_weight (x2).toNatClampNeg) ≤ (t_weight (x3).toNatClampNeg) then (L_X0_bestGap_4 t_weight p1_gapCount p1_gaps n_ x2 (x3 + (1 : Int32))) else (L_X0_bestGap_4 t_weight p1_gapCount p1_gaps n_ x3 (x3 + (1 : Int32))))))) else (L_X0_bestGap_4 t_weight p1_gapCount p1_gaps n_ x2 (x3 + (1 : Int32)))))
def F_X0_bestGap (t_weight : Nat → Int32) (p1_gapCount : Int32) (p1_gaps : Nat → Int32) : Option (Int32) :=
  L_X0_bestGap_4 t_weight p1_gapCount p1_gaps fu_ (-1 : Int32) (4 : Int32)
def F_X10_rest (x0 : Int32) (x1 : Int32) : Option (Int32) :=
  if (0 : Int32) < x1 then (gd_ (decide (¬ x1 = 0)) (if (0 : Int32) ≤ (x0 - x0 / x1 * x1) then (some (x0 - x0 / x1 * x1)) else (some ((x0 - x0 / x1 * x1) + x1)))) else (some (0 : Int32))
def F_X5_hides (t_settings : Nat → Int32) (x1 : Int32) (x2 : Int32) : Option (Int32) :=
  (F_X10_rest (x1 * x2) (t_settings 0)).bind fun r_1 => (if r_1 ≤ (t_settings 1) then (some (1 : Int32)) else (if (t_settings 1) < ((t_settings 0) - r_1) then (some (0 : Int32)) else (some (1 : Int32))))
def L_X7_blindGaps_4 (p0_gapCount : Int32) (p0_gaps : Nat → Int32) (p0_settings : Nat → Int32) : Nat → Int32 → Int32 → Int32 → Option (Int32)
  | 0, _, _, _ => none
  | n_ + 1, x1, x2, x3 =>
    if p0_gapCount ≤ x3 then (some x2) else (gd_ (in_b x3 5) ((F_X5_hides p0_settings x1 (p0_gaps (x3).toNatClampNeg)).bind fun r_3 => (if r_3 = (0 : Int32) then (L_X7_blindGaps_4 p0_gapCount p0_gaps p0_settings n_ x1 x2 (x3 + (1 : Int32))) else (L_X7_blindGaps_4 p0_gapCount p0_gaps p0_settings n_ x1 (x2 ||| ((1 : Int32) <<< (x3 &&& 31))) (x3 + (1 : Int32))))))
def F_X7_blindGaps (p0_gapCount : Int32) (p0_gaps : Nat → Int32) (p0_settings : Nat → Int32) (x1 : Int32) : Option (Int32) :=
  L_X7_blindGaps_4 p0_gapCount p0_gaps p0_settings fu_ x1 (0 : Int32) (0 : Int32)
def F_X7_countOpen (p0_gapCount : Int32) (p0_gaps : Nat → Int32) (p0_settings : Nat → Int32) (x1 : Int32) : Option (Int32) :=
  (F_X7_blindGaps p0_gapCount p0_gaps p0_settings x1).bind fun r_1 => ((F_J6_bitCount_0f7a4 r_1).bind fun r_3 => (some (p0_gapCount - r_3)))
def L_X0_weighDark_38 (p1_gapCount : Int32) (p1_gaps : Nat → Int32) (p1_settings : Nat → Int32) (k_10 : (Nat → Int32) → Int32 → Option ((Nat → Int32))) : Nat → (Nat → Int32) → Int32 → Int32 → Option ((Nat → Int32))
  | 0, _, _, _ => none
  | n_ + 1, t_weight, x2, x3 =>
    if (60 : Int32) < x3 then (k_10 t_weight (x2 + (1 : Int32))) else ((F_X5_hides p1_settings x2 x3).bind fun r_2 => (if r_2 = (0 : Int32) then (gd_ (in_b x3 61) (gd_ (in_b x3 61) (L_X0_weighDark_38 p1_gapCount p1_gaps p1_settings k_10 n_ (upd t_weight (x3).toNatClampNeg ((t_weight (x3).toNatClampNeg) - (1 : Int32))) x2 (x3 + (1 : Int32))))) else (L_X0_weighDark_38 p1_gapCount p1_gaps p1_settings k_10 n_ t_weight x2 (x3 + (1 : Int32)))))
def L_X0_weighDark_10 (p1_gapCount : Int32) (p1_gaps : Nat → Int32) (p1_settings : Nat → Int32) : Nat → (Nat → Int32) → Int32 → Option ((Nat → Int32))
  | 0, _, _ => none
  | n_ + 1, t_weight, x2 =>
    if (p1_settings 5) < x2 then (some t_weight) else ((F_X7_countOpen p1_gapCount p1_gaps p1_settings x2).bind fun r_2 => (if (r_2 + (1 : Int32)) = (p1_settings 4) then (L_X0_weighDark_38 p1_gapCount p1_gaps p1_settings (L_X0_weighDark_10 p1_gapCount p1_gaps p1_settings n_) fu_ t_weight x2 (4 : Int32)) else (L_X0_weighDark_10 p1_gapCount p1_gaps p1_settings n_ t_weight (x2 + (1 : Int32)))))
def F_X0_weighDark (t_weight : Nat → Int32) (p1_gapCount : Int32) (p1_gaps : Nat → Int32) (p1_settings : Nat → Int32) : Option ((Nat → Int32)) :=
  (F_J7_fill_53178 t_weight 61 (0 : Int32)).bind fun r_1 => (L_X0_weighDark_10 p1_gapCount p1_gaps p1_settings fu_ r_1 (1 : Int32))
def F_X3_isEcho (t_loud : Nat → Int32) (p1_settings : Nat → Int32) (x2 : Int32) (x3 : Int32) : Option (Int32) :=
  gd_ (in_b ((x2 * (60 : Int32)) + x3) 300) (if (t_loud ((x2 * (60 : Int32)) + x3).toNatClampNeg) < (p1_settings 6) then (some (0 : Int32)) else (some (1 : Int32)))
def L_X3_markEcho_15 (p1_gaps : Nat → Int32) (p1_settings : Nat → Int32) : Nat → (Nat → Int32) → Int32 → Int32 → Int32 → Option ((Nat → Int32))
  | 0, _, _, _, _ => none
  | n_ + 1, t_hitBits, x2, x4, x5 =>
    if (p1_settings 3) ≤ x5 then (some t_hitBits) else (gd_ (in_b x5 1000) (gd_ (in_b x5 1000) (L_X3_markEcho_15 p1_gaps p1_settings n_ (upd t_hitBits (x5).toNatClampNeg ((t_hitBits (x5).toNatClampNeg) ||| ((1 : Int32) <<< (x2 &&& 31)))) x2 x4 (x5 + x4))))
def F_X3_markEcho (t_hitBits : Nat → Int32) (p1_gaps : Nat → Int32) (p1_settings : Nat → Int32) (x2 : Int32) (x3 : Int32) : Option ((Nat → Int32)) :=
  gd_ (in_b x2 5) (L_X3_markEcho_15 p1_gaps p1_settings fu_ t_hitBits x2 (if (p1_gaps (x2).toNatClampNeg) < (4 : Int32) then (4 : Int32) else (p1_gaps (x2).toNatClampNeg)) x3)
def L_X3_markHits_20 (t_loud : Nat → Int32) (p1_gapCount : Int32) (p1_gaps : Nat → Int32) (p1_settings : Nat → Int32) (k_10 : (Nat → Int32) → Int32 → Option ((Nat → Int32))) : Nat → (Nat → Int32) → Int32 → Int32 → Option ((Nat → Int32))
  | 0, _, _, _ => none
  | n_ + 1, t_hitBits, x2, x3 =>
    gd_ (in_b x2 5) (if (p1_gaps (x2).toNatClampNeg) ≤ x3 then (k_10 t_hitBits (x2 + (1 : Int32))) else ((F_X3_isEcho t_loud p1_settings x2 x3).bind fun r_3 => (if r_3 = (0 : Int32) then (L_X3_markHits_20 t_loud p1_gapCount p1_gaps p1_settings k_10 n_ t_hitBits x2 (x3 + (1 : Int32))) else ((F_X3_markEcho t_hitBits p1_gaps p1_settings x2 x3).bind fun r_6 => (L_X3_markHits_20 t_loud p1_gapCount p1_gaps p1_settings k_10 n_ r_6 x2 (x3 + (1 : Int32)))))))
def L_X3_markHits_10 (t_loud : Nat → Int32) (p1_gapCount : Int32) (p1_gaps : Nat → Int32) (p1_settings : Nat → Int32) : Nat → (Nat → Int32) → Int32 → Option ((Nat → Int32))
  | 0, _, _ => none
  | n_ + 1, t_hitBits, x2 =>
    if p1_gapCount ≤ x2 then (some t_hitBits) else (L_X3_markHits_20 t_loud p1_gapCount p1_gaps p1_settings (L_X3_markHits_10 t_loud p1_gapCount p1_gaps p1_settings n_) fu_ t_hitBits x2 (0 : Int32))
def F_X3_markHits (t_loud : Nat → Int32) (t_hitBits : Nat → Int32) (p1_gapCount : Int32) (p1_gaps : Nat → Int32) (p1_settings : Nat → Int32) : Option ((Nat → Int32)) :=
  (F_J7_fill_53178 t_hitBits 1000 (0 : Int32)).bind fun r_1 => (L_X3_markHits_10 t_loud p1_gapCount p1_gaps p1_settings fu_ r_1 (0 : Int32))
def F_X10_isWithin (x0 : Int32) (x1 : Int32) (x2 : Int32) : Option (Int32) :=
  if x0 < x1 then (some (0 : Int32)) else (if x2 < x0 then (some (0 : Int32)) else (some (1 : Int32)))
def F_X10_isGap (x0 : Int32) : Option (Int32) :=
  (F_X10_isWithin x0 (4 : Int32) (60 : Int32)).bind fun r_1 => (gd_ (decide (r_1 &&& 1 = r_1)) (some r_1))
def F_X5_rangeOf (t_spots : Nat → Int32) (x1 : Int32) : Option (Int32) :=
  gd_ (in_b x1 8) (some ((t_spots (x1).toNatClampNeg) / (16 : Int32)))
def F_X5_sees (t_settings : Nat → Int32) (t_spots : Nat → Int32) (t_speeds : Nat → Int32) (x1 : Int32) (x2 : Int32) : Option (Int32) :=
  (F_X5_rangeOf t_spots x1).bind fun r_1 => ((F_X10_rest r_1 x2).bind fun r_3 => (if r_3 < (t_settings 2) then (some (0 : Int32)) else (gd_ (in_b x1 8) ((F_X5_hides t_settings (t_speeds (x1).toNatClampNeg) x2).bind fun r_7 => (if r_7 = (0 : Int32) then (some (1 : Int32)) else (some (0 : Int32)))))))
def L_X3_listenBy_64 (p1_targetCount : Int32) (p1_settings : Nat → Int32) (p1_spots : Nat → Int32) (p1_speeds : Nat → Int32) (p1_strengths : Nat → Int32) : Nat → (Nat → Int32) → (Nat → Int32) → Int32 → Int32 → Int32 → Option ((Nat → Int32) × (Nat → Int32))
  | 0, _, _, _, _, _ => none
  | n_ + 1, t_targets, t_loud, x3, x4, x5 =>
    if p1_targetCount ≤ x5 then (some (t_targets, t_loud)) else ((F_X5_sees p1_settings p1_spots p1_speeds x5 x3).bind fun r_2 => (if r_2 = (0 : Int32) then (L_X3_listenBy_64 p1_targetCount p1_settings p1_spots p1_speeds p1_strengths n_ t_targets t_loud x3 x4 (x5 + (1 : Int32))) else ((F_X5_rangeOf p1_spots x5).bind fun r_5 => ((F_X10_rest r_5 x3).bind fun r_7 => (gd_ (in_b (x4 + r_7) 300) (gd_ (in_b (x4 + r_7) 300) (gd_ (in_b (x4 + r_7) 300) (gd_ (in_b x5 8) (gd_ (in_b (x4 + r_7) 300) (L_X3_listenBy_64 p1_targetCount p1_settings p1_spots p1_speeds p1_strengths n_ (upd t_targets (x4 + r_7).toNatClampNeg ((t_targets (x4 + r_7).toNatClampNeg) ||| ((1 : Int32) <<< (x5 &&& 31)))) (upd t_loud (x4 + r_7).toNatClampNeg ((t_loud (x4 + r_7).toNatClampNeg) + (p1_strengths (x5).toNatClampNeg))) x3 x4 (x5 + (1 : Int32))))))))))))
def L_X3_listenBy_26 (p1_targetCount : Int32) (p1_settings : Nat → Int32) (p1_spots : Nat → Int32) (p1_speeds : Nat → Int32) (p1_strengths : Nat → Int32) : Nat → (Nat → Int32) → (Nat → Int32) → Int32 → Int32 → Int32 → Option ((Nat → Int32) × (Nat → Int32))
  | 0, _, _, _, _, _ => none
  | n_ + 1, t_targets, t_loud, x3, x4, x5 =>
    if (60 : Int32) ≤ x5 then (L_X3_listenBy_64 p1_targetCount p1_settings p1_spots p1_speeds p1_strengths fu_ t_targets t_loud x3 x4 (0 : Int32)) else (gd_ (in_b (x4 + x5) 300) (gd_ (in_b (x4 + x5) 300) (L_X3_listenBy_26 p1_targetCount p1_settings p1_spots p1_speeds p1_strengths n_ (upd t_targets (x4 + x5).toNatClampNeg (0 : Int32)) (upd t_loud (x4 + x5).toNatClampNeg (0 : Int32)) x3 x4 (x5 + (1 : Int32)))))
def F_X3_listenBy (t_targets : Nat → Int32) (t_loud : Nat → Int32) (p1_targetCount : Int32) (p1_settings : Nat → Int32) (p1_spots : Nat → Int32) (p1_speeds : Nat → Int32) (p1_strengths : Nat → Int32) (x2 : Int32) (x3 : Int32) : Option ((Nat → Int32) × (Nat → Int32)) :=
  (F_X10_isWithin x2 (0 : Int32) (4 : Int32)).bind fun r_1 => (if r_1 = (0 : Int32) then (some (t_targets, t_loud)) else ((F_X10_isGap x3).bind fun r_4 => (if r_4 = (0 : Int32) then (some (t_targets, t_loud)) else (L_X3_listenBy_26 p1_targetCount p1_settings p1_spots p1_speeds p1_strengths fu_ t_targets t_loud x3 (x2 * (60 : Int32)) (0 : Int32)))))
def L_X5_isRange_2 (t_targetCount : Int32) (t_spots : Nat → Int32) : Nat → Int32 → Int32 → Option (Int32)
  | 0, _, _ => none
  | n_ + 1, x1, x2 =>
    if t_targetCount ≤ x2 then (some (0 : Int32)) else ((F_X5_rangeOf t_spots x2).bind fun r_2 => (if r_2 = x1 then (some (1 : Int32)) else (L_X5_isRange_2 t_targetCount t_spots n_ x1 (x2 + (1 : Int32)))))
def F_X5_isRange (t_targetCount : Int32) (t_spots : Nat → Int32) (x1 : Int32) : Option (Int32) :=
  L_X5_isRange_2 t_targetCount t_spots fu_ x1 (0 : Int32)
def F_X3_isNearGhost (t_hitBits : Nat → Int32) (p1_targetCount : Int32) (p1_settings : Nat → Int32) (p1_spots : Nat → Int32) (x2 : Int32) : Option (Int32) :=
  gd_ (in_b x2 1000) ((F_J6_bitCount_0f7a4 (t_hitBits (x2).toNatClampNeg)).bind fun r_2 => (if (r_2 + (1 : Int32)) = (p1_settings 4) then ((F_X5_isRange p1_targetCount p1_spots x2).bind fun r_5 => (if r_5 = (0 : Int32) then (some (1 : Int32)) else (some (0 : Int32)))) else (some (0 : Int32))))
def L_X3_countFurtherGhosts_39 (t_loud : Nat → Int32) (t_hitBits : Nat → Int32) (p1_gapCount : Int32) (p1_targetCount : Int32) (p1_settings : Nat → Int32) (p1_spots : Nat → Int32) (k_18 : Int32 → Int32 → Int32 → Int32 → Int32 → Option (Int32)) : Nat → Int32 → Int32 → Int32 → Int32 → Int32 → Int32 → Option (Int32)
  | 0, _, _, _, _, _, _ => none
  | n_ + 1, x2, x3, x4, x5, x6, x7 =>
    if (p1_settings 3) ≤ x7 then (k_18 x2 x3 x4 x5 (x6 + (1 : Int32))) else ((F_X3_isNearGhost t_hitBits p1_targetCount p1_settings p1_spots x7).bind fun r_2 => (if r_2 = (0 : Int32) then (L_X3_countFurtherGhosts_39 t_loud t_hitBits p1_gapCount p1_targetCount p1_settings p1_spots k_18 n_ x2 x3 x4 x5 x6 (x7 + x4)) else (L_X3_countFurtherGhosts_39 t_loud t_hitBits p1_gapCount p1_targetCount p1_settings p1_spots k_18 n_ x2 x3 x4 (x5 + (1 : Int32)) x6 (x7 + x4))))
def L_X3_countFurtherGhosts_18 (t_loud : Nat → Int32) (t_hitBits : Nat → Int32) (p1_gapCount : Int32) (p1_targetCount : Int32) (p1_settings : Nat → Int32) (p1_spots : Nat → Int32) : Nat → Int32 → Int32 → Int32 → Int32 → Int32 → Option (Int32)
  | 0, _, _, _, _, _ => none
  | n_ + 1, x2, x3, x4, x5, x6 =>
    if x2 ≤ x6 then (some x5) else ((F_X3_isEcho t_loud p1_settings x3 x6).bind fun r_2 => (if r_2 = (0 : Int32) then (L_X3_countFurtherGhosts_18 t_loud t_hitBits p1_gapCount p1_targetCount p1_settings p1_spots n_ x2 x3 x4 x5 (x6 + (1 : Int32))) else (L_X3_countFurtherGhosts_39 t_loud t_hitBits p1_gapCount p1_targetCount p1_settings p1_spots (L_X3_countFurtherGhosts_18 t_loud t_hitBits p1_gapCount p1_targetCount p1_settings p1_spots n_) fu_ x2 x3 x4 x5 x6 x6)))
def F_X3_countFurtherGhosts (t_loud : Nat → Int32) (t_hitBits : Nat → Int32) (p1_gapCount : Int32) (p1_targetCount : Int32) (p1_settings : Nat → Int32) (p1_spots : Nat → Int32) (x2 : Int32) : Option (Int32) :=
  L_X3_countFurtherGhosts_18 t_loud t_hitBits p1_gapCount p1_targetCount p1_settings p1_spots fu_ x2 p1_gapCount (if x2 < (4 : Int32) then (4 : Int32) else x2) (0 : Int32) (0 : Int32)
def L_X0_weighGhosts_7 (p1_gapCount : Int32) (p1_targetCount : Int32) (p1_gaps : Nat → Int32) (p1_settings : Nat → Int32) (p1_spots : Nat → Int32) (p1_speeds : Nat → Int32) (p1_strengths : Nat → Int32) : Nat → (Nat → Int32) → (Nat → Int32) → (Nat → Int32) → (Nat → Int32) → Int32 → Option ((Nat → Int32) × (Nat → Int32) × (Nat → Int32) × (Nat → Int32))
  | 0, _, _, _, _, _ => none
  | n_ + 1, t_weight, p2_targets, p2_loud, p2_hitBits, x3 =>
    if (60 : Int32) < x3 then (some (t_weight, p2_targets, p2_loud, p2_hitBits)) else ((F_X3_listenBy p2_targets p2_loud p1_targetCount p1_settings p1_spots p1_speeds p1_strengths p1_gapCount x3).bind fun r_2 => ((F_X3_countFurtherGhosts r_2.2 p2_hitBits p1_gapCount p1_targetCount p1_settings p1_spots x3).bind fun r_4 => (gd_ (in_b x3 61) (L_X0_weighGhosts_7 p1_gapCount p1_targetCount p1_gaps p1_settings p1_spots p1_speeds p1_strengths n_ (upd t_weight (x3).toNatClampNeg r_4) r_2.1 r_2.2 p2_hitBits (x3 + (1 : Int32))))))
def F_X0_weighGhosts (t_weight : Nat → Int32) (p1_gapCount : Int32) (p1_targetCount : Int32) (p1_gaps : Nat → Int32) (p1_settings : Nat → Int32) (p1_spots : Nat → Int32) (p1_speeds : Nat → Int32) (p1_strengths : Nat → Int32) (p2_targets : Nat → Int32) (p2_loud : Nat → Int32) (p2_hitBits : Nat → Int32) : Option ((Nat → Int32) × (Nat → Int32) × (Nat → Int32) × (Nat → Int32)) :=
  (F_X3_markHits p2_loud p2_hitBits p1_gapCount p1_gaps p1_settings).bind fun r_1 => (L_X0_weighGhosts_7 p1_gapCount p1_targetCount p1_gaps p1_settings p1_spots p1_speeds p1_strengths fu_ t_weight p2_targets p2_loud r_1 (4 : Int32))
def F_X5_hasGap (t_gapCount : Int32) (x1 : Int32) : Option (Int32) :=
  if x1 < (0 : Int32) then (some (0 : Int32)) else (if t_gapCount ≤ x1 then (some (0 : Int32)) else (some (1 : Int32)))
def L_X3_listen_2 (p1_gapCount : Int32) (p1_targetCount : Int32) (p1_gaps : Nat → Int32) (p1_settings : Nat → Int32) (p1_spots : Nat → Int32) (p1_speeds : Nat → Int32) (p1_strengths : Nat → Int32) : Nat → (Nat → Int32) → (Nat → Int32) → Int32 → Option ((Nat → Int32) × (Nat → Int32))
  | 0, _, _, _ => none
  | n_ + 1, t_targets, t_loud, x2 =>
    if p1_gapCount ≤ x2 then (some (t_targets, t_loud)) else (gd_ (in_b x2 5) ((F_X3_listenBy t_targets t_loud p1_targetCount p1_settings p1_spots p1_speeds p1_strengths x2 (p1_gaps (x2).toNatClampNeg)).bind fun r_3 => (L_X3_listen_2 p1_gapCount p1_targetCount p1_gaps p1_settings p1_spots p1_speeds p1_strengths n_ r_3.1 r_3.2 (x2 + (1 : Int32)))))
def F_X3_listen (t_targets : Nat → Int32) (t_loud : Nat → Int32) (p1_gapCount : Int32) (p1_targetCount : Int32) (p1_gaps : Nat → Int32) (p1_settings : Nat → Int32) (p1_spots : Nat → Int32) (p1_speeds : Nat → Int32) (p1_strengths : Nat → Int32) : Option ((Nat → Int32) × (Nat → Int32)) :=
  L_X3_listen_2 p1_gapCount p1_targetCount p1_gaps p1_settings p1_spots p1_speeds p1_strengths fu_ t_targets t_loud (0 : Int32)
def F_X3_loudAt (t_loud : Nat → Int32) (x1 : Int32) (x2 : Int32) : Option (Int32) :=
  gd_ (in_b ((x1 * (60 : Int32)) + x2) 300) (some (t_loud ((x1 * (60 : Int32)) + x2).toNatClampNeg))
def F_X3_targetsAt (t_targets : Nat → Int32) (x1 : Int32) (x2 : Int32) : Option (Int32) :=
  gd_ (in_b ((x1 * (60 : Int32)) + x2) 300) (some (t_targets ((x1 * (60 : Int32)) + x2).toNatClampNeg))
def F_X10_at (t_radar_gapCount : Int32) (t_radar_targetCount : Int32) (t_radar_gaps : Nat → Int32) (t_radar_settings : Nat → Int32) (t_radar_spots : Nat → Int32) (t_radar_speeds : Nat → Int32) (t_radar_strengths : Nat → Int32) (t_echoes_targets : Nat → Int32) (t_echoes_loud : Nat → Int32) (x1 : Int32) (x2 : Int32) (x3 : Int32) : Option (Int32 × (Nat → Int32) × (Nat → Int32)) :=
  (F_X5_hasGap t_radar_gapCount x1).bind fun r_1 => (if r_1 = (0 : Int32) then (some ((-1 : Int32), t_echoes_targets, t_echoes_loud)) else (gd_ (in_b x1 5) ((F_X10_isWithin x2 (0 : Int32) ((t_radar_gaps (x1).toNatClampNeg) - (1 : Int32))).bind fun r_5 => (if r_5 = (0 : Int32) then (some ((-1 : Int32), t_echoes_targets, t_echoes_loud)) else ((F_X3_listen t_echoes_targets t_echoes_loud t_radar_gapCount t_radar_targetCount t_radar_gaps t_radar_settings t_radar_spots t_radar_speeds t_radar_strengths).bind fun r_8 => (if x3 = (0 : Int32) then ((F_X3_targetsAt r_8.1 x1 x2).bind fun r_11 => (some (r_11, r_8.1, r_8.2))) else ((F_X3_loudAt r_8.2 x1 x2).bind fun r_13 => (some (r_13, r_8.1, r_8.2)))))))))
def F_X10_isSpeed (x0 : Int32) : Option (Int32) :=
  (F_X10_isWithin x0 (-500 : Int32) (500 : Int32)).bind fun r_1 => (gd_ (decide (r_1 &&& 1 = r_1)) (some r_1))
def F_X10_blind (t_radar_gapCount : Int32) (t_radar_gaps : Nat → Int32) (t_radar_settings : Nat → Int32) (x1 : Int32) : Option (Int32) :=
  (F_X10_isSpeed x1).bind fun r_1 => (if r_1 = (0 : Int32) then (some (-1 : Int32)) else ((F_X7_blindGaps t_radar_gapCount t_radar_gaps t_radar_settings x1).bind fun r_4 => (some r_4)))
def L_X10_commonDivisor_7  : Nat → Int32 → Int32 → Int32 → Option (Int32)
  | 0, _, _, _ => none
  | n_ + 1, x2, x3, x4 =>
    if (64 : Int32) ≤ x4 then (some x2) else (if x3 ≤ (0 : Int32) then (some x2) else (gd_ (decide (¬ x3 = 0)) (L_X10_commonDivisor_7 n_ x3 (x2 - x2 / x3 * x3) (x4 + (1 : Int32)))))
def F_X10_commonDivisor (x0 : Int32) (x1 : Int32) : Option (Int32) :=
  L_X10_commonDivisor_7 fu_ x0 x1 (0 : Int32)
def F_X10_leastCommon (x0 : Int32) (x1 : Int32) : Option (Int32) :=
  (F_X10_commonDivisor x0 x1).bind fun r_1 => (if r_1 ≤ (0 : Int32) then (some (0 : Int32)) else (gd_ (decide (¬ r_1 = 0)) (some ((x0 / r_1) * x1))))
def L_X7_countDark_4 (p0_gapCount : Int32) (p0_gaps : Nat → Int32) (p0_settings : Nat → Int32) : Nat → Int32 → Int32 → Option (Int32)
  | 0, _, _ => none
  | n_ + 1, x1, x2 =>
    if (p0_settings 5) < x2 then (some x1) else ((F_X7_countOpen p0_gapCount p0_gaps p0_settings x2).bind fun r_2 => (if (p0_settings 4) ≤ r_2 then (L_X7_countDark_4 p0_gapCount p0_gaps p0_settings n_ x1 (x2 + (1 : Int32))) else (L_X7_countDark_4 p0_gapCount p0_gaps p0_settings n_ (x1 + (1 : Int32)) (x2 + (1 : Int32)))))
def F_X7_countDark (p0_gapCount : Int32) (p0_gaps : Nat → Int32) (p0_settings : Nat → Int32) : Option (Int32) :=
  L_X7_countDark_4 p0_gapCount p0_gaps p0_settings fu_ (0 : Int32) (1 : Int32)
def L_X3_takeEcho_15 (p1_gaps : Nat → Int32) (p1_settings : Nat → Int32) : Nat → (Nat → Int32) → Int32 → Int32 → Int32 → Option ((Nat → Int32))
  | 0, _, _, _, _ => none
  | n_ + 1, t_hitBits, x2, x4, x5 =>
    if (p1_settings 3) ≤ x5 then (some t_hitBits) else (gd_ (in_b x5 1000) (gd_ (in_b x5 1000) (L_X3_takeEcho_15 p1_gaps p1_settings n_ (upd t_hitBits (x5).toNatClampNeg ((t_hitBits (x5).toNatClampNeg) &&& (((1 : Int32) <<< (x2 &&& 31)) ^^^ (-1 : Int32)))) x2 x4 (x5 + x4))))
def F_X3_takeEcho (t_hitBits : Nat → Int32) (p1_gaps : Nat → Int32) (p1_settings : Nat → Int32) (x2 : Int32) (x3 : Int32) : Option ((Nat → Int32)) :=
  gd_ (in_b x2 5) (L_X3_takeEcho_15 p1_gaps p1_settings fu_ t_hitBits x2 (if (p1_gaps (x2).toNatClampNeg) < (4 : Int32) then (4 : Int32) else (p1_gaps (x2).toNatClampNeg)) x3)
def L_X3_show_41 (p1_gapCount : Int32) (p1_gaps : Nat → Int32) (p1_settings : Nat → Int32) : Nat → Int32 → (Nat → Int32) → (Nat → Int32) → (Nat → Int32) → Int32 → Int32 → Int32 → Option (Int32 × (Nat → Int32) × (Nat → Int32) × (Nat → Int32))
  | 0, _, _, _, _, _, _, _ => none
  | n_ + 1, t_shownCount, t_hitBits, t_shown, t_took, x2, x4, x5 =>
    if p1_gapCount ≤ x5 then (some (t_shownCount, t_hitBits, t_shown, t_took)) else (if ((x4 >>> (x5 &&& 31)) &&& (1 : Int32)) = (0 : Int32) then (L_X3_show_41 p1_gapCount p1_gaps p1_settings n_ t_shownCount t_hitBits t_shown t_took x2 x4 (x5 + (1 : Int32))) else (gd_ (in_b x5 5) ((F_X10_rest x2 (p1_gaps (x5).toNatClampNeg)).bind fun r_4 => ((F_X3_takeEcho t_hitBits p1_gaps p1_settings x5 r_4).bind fun r_6 => (L_X3_show_41 p1_gapCount p1_gaps p1_settings n_ t_shownCount r_6 t_shown t_took x2 x4 (x5 + (1 : Int32)))))))
def F_X3_show (t_shownCount : Int32) (t_hitBits : Nat → Int32) (t_shown : Nat → Int32) (t_took : Nat → Int32) (p1_gapCount : Int32) (p1_gaps : Nat → Int32) (p1_settings : Nat → Int32) (x2 : Int32) (x3 : Int32) : Option (Int32 × (Nat → Int32) × (Nat → Int32) × (Nat → Int32)) :=
  gd_ (in_b t_shownCount 40) (gd_ (in_b t_shownCount 40) (gd_ (in_b x2 1000) (L_X3_show_41 p1_gapCount p1_gaps p1_settings fu_ (t_shownCount + (1 : Int32)) t_hitBits (upd t_shown (t_shownCount).toNatClampNeg x2) (upd t_took (t_shownCount).toNatClampNeg x3) x2 (t_hitBits (x2).toNatClampNeg) (0 : Int32))))
def L_X3_paint_27 (t_loud : Nat → Int32) (p1_gapCount : Int32) (p1_gaps : Nat → Int32) (p1_settings : Nat → Int32) (k_15 : Int32 → (Nat → Int32) → (Nat → Int32) → (Nat → Int32) → Int32 → Option (Int32 × (Nat → Int32) × (Nat → Int32) × (Nat → Int32))) : Nat → Int32 → (Nat → Int32) → (Nat → Int32) → (Nat → Int32) → Int32 → Int32 → Option (Int32 × (Nat → Int32) × (Nat → Int32) × (Nat → Int32))
  | 0, _, _, _, _, _, _ => none
  | n_ + 1, t_shownCount, t_hitBits, t_shown, t_took, x2, x3 =>
    if (p1_settings 3) ≤ x3 then (k_15 t_shownCount t_hitBits t_shown t_took (x2 + (-1 : Int32))) else (gd_ (in_b x3 1000) ((F_J6_bitCount_0f7a4 (t_hitBits (x3).toNatClampNeg)).bind fun r_3 => (if r_3 = x2 then (if (40 : Int32) ≤ t_shownCount then (L_X3_paint_27 t_loud p1_gapCount p1_gaps p1_settings k_15 n_ t_shownCount t_hitBits t_shown t_took x2 (x3 + (1 : Int32))) else ((F_X3_show t_shownCount t_hitBits t_shown t_took p1_gapCount p1_gaps p1_settings x3 x2).bind fun r_7 => (L_X3_paint_27 t_loud p1_gapCount p1_gaps p1_settings k_15 n_ r_7.1 r_7.2.1 r_7.2.2.1 r_7.2.2.2 x2 (x3 + (1 : Int32))))) else (L_X3_paint_27 t_loud p1_gapCount p1_gaps p1_settings k_15 n_ t_shownCount t_hitBits t_shown t_took x2 (x3 + (1 : Int32))))))
def L_X3_paint_15 (t_loud : Nat → Int32) (p1_gapCount : Int32) (p1_gaps : Nat → Int32) (p1_settings : Nat → Int32) : Nat → Int32 → (Nat → Int32) → (Nat → Int32) → (Nat → Int32) → Int32 → Option (Int32 × (Nat → Int32) × (Nat → Int32) × (Nat → Int32))
  | 0, _, _, _, _, _ => none
  | n_ + 1, t_shownCount, t_hitBits, t_shown, t_took, x2 =>
    if x2 < (p1_settings 4) then (some (t_shownCount, t_hitBits, t_shown, t_took)) else (L_X3_paint_27 t_loud p1_gapCount p1_gaps p1_settings (L_X3_paint_15 t_loud p1_gapCount p1_gaps p1_settings n_) fu_ t_shownCount t_hitBits t_shown t_took x2 (0 : Int32))
def F_X3_paint (t_shownCount : Int32) (t_loud : Nat → Int32) (t_hitBits : Nat → Int32) (t_shown : Nat → Int32) (t_took : Nat → Int32) (p1_gapCount : Int32) (p1_gaps : Nat → Int32) (p1_settings : Nat → Int32) : Option (Int32 × (Nat → Int32) × (Nat → Int32) × (Nat → Int32)) :=
  (F_X3_markHits t_loud t_hitBits p1_gapCount p1_gaps p1_settings).bind fun r_1 => (L_X3_paint_15 t_loud p1_gapCount p1_gaps p1_settings fu_ (0 : Int32) r_1 t_shown t_took p1_gapCount)
def L_X3_hitsOf_5 (t_loud : Nat → Int32) (p1_gapCount : Int32) (p1_gaps : Nat → Int32) (p1_settings : Nat → Int32) : Nat → Int32 → Int32 → Int32 → Option (Int32)
  | 0, _, _, _ => none
  | n_ + 1, x2, x3, x4 =>
    if p1_gapCount ≤ x4 then (some x3) else (gd_ (in_b x4 5) ((F_X10_rest x2 (p1_gaps (x4).toNatClampNeg)).bind fun r_3 => ((F_X3_isEcho t_loud p1_settings x4 r_3).bind fun r_5 => (if r_5 = (0 : Int32) then (L_X3_hitsOf_5 t_loud p1_gapCount p1_gaps p1_settings n_ x2 x3 (x4 + (1 : Int32))) else (L_X3_hitsOf_5 t_loud p1_gapCount p1_gaps p1_settings n_ x2 (x3 ||| ((1 : Int32) <<< (x4 &&& 31))) (x4 + (1 : Int32)))))))
def F_X3_hitsOf (t_loud : Nat → Int32) (p1_gapCount : Int32) (p1_gaps : Nat → Int32) (p1_settings : Nat → Int32) (x2 : Int32) : Option (Int32) :=
  L_X3_hitsOf_5 t_loud p1_gapCount p1_gaps p1_settings fu_ x2 (0 : Int32) (0 : Int32)
def F_X3_isFound (t_loud : Nat → Int32) (p1_gapCount : Int32) (p1_gaps : Nat → Int32) (p1_settings : Nat → Int32) (x2 : Int32) : Option (Int32) :=
  if (p1_settings 3) ≤ x2 then (some (0 : Int32)) else ((F_X3_hitsOf t_loud p1_gapCount p1_gaps p1_settings x2).bind fun r_2 => ((F_J6_bitCount_0f7a4 r_2).bind fun r_4 => (if r_4 < (p1_settings 4) then (some (0 : Int32)) else (some (1 : Int32)))))
def F_X3_standingOf (t_loud : Nat → Int32) (p1_gapCount : Int32) (p1_gaps : Nat → Int32) (p1_settings : Nat → Int32) (p1_spots : Nat → Int32) (x2 : Int32) : Option (Int32) :=
  (F_X5_rangeOf p1_spots x2).bind fun r_1 => (if r_1 < (p1_settings 3) then ((F_X3_isFound t_loud p1_gapCount p1_gaps p1_settings r_1).bind fun r_4 => (if r_4 = (0 : Int32) then (some (0 : Int32)) else (some (1 : Int32)))) else (some (2 : Int32)))
def L_X3_missedTargets_4 (t_loud : Nat → Int32) (p1_gapCount : Int32) (p1_targetCount : Int32) (p1_gaps : Nat → Int32) (p1_settings : Nat → Int32) (p1_spots : Nat → Int32) : Nat → Int32 → Int32 → Option (Int32)
  | 0, _, _ => none
  | n_ + 1, x2, x3 =>
    if p1_targetCount ≤ x3 then (some x2) else ((F_X3_standingOf t_loud p1_gapCount p1_gaps p1_settings p1_spots x3).bind fun r_2 => (if r_2 = (0 : Int32) then (L_X3_missedTargets_4 t_loud p1_gapCount p1_targetCount p1_gaps p1_settings p1_spots n_ (x2 ||| ((1 : Int32) <<< (x3 &&& 31))) (x3 + (1 : Int32))) else (L_X3_missedTargets_4 t_loud p1_gapCount p1_targetCount p1_gaps p1_settings p1_spots n_ x2 (x3 + (1 : Int32)))))
def F_X3_missedTargets (t_loud : Nat → Int32) (p1_gapCount : Int32) (p1_targetCount : Int32) (p1_gaps : Nat → Int32) (p1_settings : Nat → Int32) (p1_spots : Nat → Int32) : Option (Int32) :=
  L_X3_missedTargets_4 t_loud p1_gapCount p1_targetCount p1_gaps p1_settings p1_spots fu_ (0 : Int32) (0 : Int32)
def F_X3_isListed (t_hitBits : Nat → Int32) (p1_targetCount : Int32) (p1_settings : Nat → Int32) (p1_spots : Nat → Int32) (x2 : Int32) (x3 : Int32) : Option (Int32) :=
  gd_ (in_b x2 1000) ((F_J6_bitCount_0f7a4 (t_hitBits (x2).toNatClampNeg)).bind fun r_2 => (if r_2 < (p1_settings 4) then (some (0 : Int32)) else (if x3 = (0 : Int32) then (some (1 : Int32)) else ((F_X5_isRange p1_targetCount p1_spots x2).bind fun r_6 => (if r_6 = (0 : Int32) then (some (1 : Int32)) else (some (0 : Int32)))))))
def L_X3_countFound_10 (t_loud : Nat → Int32) (p1_gapCount : Int32) (p1_targetCount : Int32) (p1_gaps : Nat → Int32) (p1_settings : Nat → Int32) (p1_spots : Nat → Int32) : Nat → (Nat → Int32) → Int32 → Int32 → Int32 → Option (Int32 × (Nat → Int32))
  | 0, _, _, _, _ => none
  | n_ + 1, t_hitBits, x2, x3, x4 =>
    if (p1_settings 3) ≤ x4 then (some (x3, t_hitBits)) else ((F_X3_isListed t_hitBits p1_targetCount p1_settings p1_spots x4 x2).bind fun r_2 => (if r_2 = (0 : Int32) then (L_X3_countFound_10 t_loud p1_gapCount p1_targetCount p1_gaps p1_settings p1_spots n_ t_hitBits x2 x3 (x4 + (1 : Int32))) else (L_X3_countFound_10 t_loud p1_gapCount p1_targetCount p1_gaps p1_settings p1_spots n_ t_hitBits x2 (x3 + (1 : Int32)) (x4 + (1 : Int32)))))
def F_X3_countFound (t_loud : Nat → Int32) (t_hitBits : Nat → Int32) (p1_gapCount : Int32) (p1_targetCount : Int32) (p1_gaps : Nat → Int32) (p1_settings : Nat → Int32) (p1_spots : Nat → Int32) (x2 : Int32) : Option (Int32 × (Nat → Int32)) :=
  (F_X3_markHits t_loud t_hitBits p1_gapCount p1_gaps p1_settings).bind fun r_1 => (L_X3_countFound_10 t_loud p1_gapCount p1_targetCount p1_gaps p1_settings p1_spots fu_ r_1 x2 (0 : Int32) (0 : Int32))
def L_X3_countOfGap_5 (t_loud : Nat → Int32) (p1_gaps : Nat → Int32) (p1_settings : Nat → Int32) : Nat → Int32 → Int32 → Int32 → Option (Int32)
  | 0, _, _, _ => none
  | n_ + 1, x2, x3, x4 =>
    gd_ (in_b x2 5) (if (p1_gaps (x2).toNatClampNeg) ≤ x4 then (some x3) else ((F_X3_isEcho t_loud p1_settings x2 x4).bind fun r_3 => (if r_3 = (0 : Int32) then (L_X3_countOfGap_5 t_loud p1_gaps p1_settings n_ x2 x3 (x4 + (1 : Int32))) else (L_X3_countOfGap_5 t_loud p1_gaps p1_settings n_ x2 (x3 + (1 : Int32)) (x4 + (1 : Int32))))))
def F_X3_countOfGap (t_loud : Nat → Int32) (p1_gaps : Nat → Int32) (p1_settings : Nat → Int32) (x2 : Int32) : Option (Int32) :=
  L_X3_countOfGap_5 t_loud p1_gaps p1_settings fu_ x2 (0 : Int32) (0 : Int32)
def L_X3_countAll_4 (t_loud : Nat → Int32) (p1_gapCount : Int32) (p1_gaps : Nat → Int32) (p1_settings : Nat → Int32) : Nat → Int32 → Int32 → Option (Int32)
  | 0, _, _ => none
  | n_ + 1, x2, x3 =>
    if p1_gapCount ≤ x3 then (some x2) else ((F_X3_countOfGap t_loud p1_gaps p1_settings x3).bind fun r_2 => (L_X3_countAll_4 t_loud p1_gapCount p1_gaps p1_settings n_ (x2 + r_2) (x3 + (1 : Int32))))
def F_X3_countAll (t_loud : Nat → Int32) (p1_gapCount : Int32) (p1_gaps : Nat → Int32) (p1_settings : Nat → Int32) : Option (Int32) :=
  L_X3_countAll_4 t_loud p1_gapCount p1_gaps p1_settings fu_ (0 : Int32) (0 : Int32)
def L_X7_darkAt_4 (p0_gapCount : Int32) (p0_gaps : Nat → Int32) (p0_settings : Nat → Int32) : Nat → Int32 → Int32 → Option (Int32)
  | 0, _, _ => none
  | n_ + 1, x2, x3 =>
    if (p0_settings 5) < x3 then (some (-1 : Int32)) else ((F_X7_countOpen p0_gapCount p0_gaps p0_settings x3).bind fun r_2 => (if (p0_settings 4) ≤ r_2 then (L_X7_darkAt_4 p0_gapCount p0_gaps p0_settings n_ x2 (x3 + (1 : Int32))) else (if x2 = (0 : Int32) then (some x3) else (L_X7_darkAt_4 p0_gapCount p0_gaps p0_settings n_ (x2 + (-1 : Int32)) (x3 + (1 : Int32))))))
def F_X7_darkAt (p0_gapCount : Int32) (p0_gaps : Nat → Int32) (p0_settings : Nat → Int32) (x1 : Int32) : Option (Int32) :=
  L_X7_darkAt_4 p0_gapCount p0_gaps p0_settings fu_ x1 (1 : Int32)
def F_X10_dark (t_radar_gapCount : Int32) (t_radar_gaps : Nat → Int32) (t_radar_settings : Nat → Int32) (x1 : Int32) : Option (Int32) :=
  if x1 < (0 : Int32) then (some (-1 : Int32)) else ((F_X7_darkAt t_radar_gapCount t_radar_gaps t_radar_settings x1).bind fun r_2 => (some r_2))
def F_X10_doppler (t_radar_gapCount : Int32) (t_radar_gaps : Nat → Int32) (t_radar_settings : Nat → Int32) (x1 : Int32) (x2 : Int32) : Option (Int32) :=
  (F_X10_isSpeed x1).bind fun r_1 => (if r_1 = (0 : Int32) then (some (-1 : Int32)) else ((F_X5_hasGap t_radar_gapCount x2).bind fun r_4 => (if r_4 = (0 : Int32) then (some (-1 : Int32)) else (gd_ (in_b x2 5) ((F_X10_rest (x1 * (t_radar_gaps (x2).toNatClampNeg)) (t_radar_settings 0)).bind fun r_8 => (some r_8))))))
def F_X2_takeGaps (t_rowSize : Int32) (t_row : Nat → Int32) (p1_gapCount : Int32) (p1_gaps : Nat → Int32) : Option (Int32 × (Nat → Int32)) :=
  some (p1_gapCount, (va_cpy p1_gaps t_row 0 0 5))
def L_X2_send_14 (t_rowSize : Int32) (t_row : Nat → Int32) : Nat → Int32 → (Nat → Int32) → Int32 → Int32 → Int32 → Int32 → Int32 → Option (Int32 × (Nat → Int32))
  | 0, _, _, _, _, _, _, _ => none
  | n_ + 1, t_pulses, t_sent, x1, x3, x4, x5, x6 =>
    if x1 ≤ x6 then (some (t_pulses, t_sent)) else (if (64 : Int32) ≤ x6 then (some (t_pulses, t_sent)) else (gd_ (in_b x6 65) ((F_X10_rest x6 t_rowSize).bind fun r_4 => (gd_ (in_b r_4 5) ((F_X10_rest (((((x4 * (1103515245 : Int32)) + (12345 : Int32))).toUInt32 >>> (((16 : Int32)).toUInt32 &&& Int32.toUInt32 31)).toInt32) (((2 : Int32) * x3) + (1 : Int32))).bind fun r_7 => (gd_ (in_b (x6 + (1 : Int32)) 65) (L_X2_send_14 t_rowSize t_row n_ t_pulses (upd (upd t_sent (x6).toNatClampNeg x5) (x6 + (1 : Int32)).toNatClampNeg (x5 + (((t_row (r_4).toNatClampNeg) + r_7) - x3))) x1 x3 ((x4 * (1103515245 : Int32)) + (12345 : Int32)) (x5 + (((t_row (r_4).toNatClampNeg) + r_7) - x3)) (x6 + (1 : Int32)))))))))
def F_X2_send (t_rowSize : Int32) (t_pulses : Int32) (t_row : Nat → Int32) (t_sent : Nat → Int32) (x1 : Int32) (x2 : Int32) (x3 : Int32) : Option (Int32 × (Nat → Int32)) :=
  L_X2_send_14 t_rowSize t_row fu_ x1 t_sent x1 x3 x2 (0 : Int32) (0 : Int32)
def L_X2_longestGap_4 (t_pulses : Int32) (t_sent : Nat → Int32) : Nat → Int32 → Int32 → Option (Int32)
  | 0, _, _ => none
  | n_ + 1, x1, x2 =>
    if t_pulses ≤ x2 then (some x1) else (gd_ (in_b x2 65) (gd_ (in_b (x2 - (1 : Int32)) 65) (L_X2_longestGap_4 t_pulses t_sent n_ (if x1 < ((t_sent (x2).toNatClampNeg) - (t_sent (x2 - (1 : Int32)).toNatClampNeg)) then ((t_sent (x2).toNatClampNeg) - (t_sent (x2 - (1 : Int32)).toNatClampNeg)) else x1) (x2 + (1 : Int32)))))
def F_X2_longestGap (t_pulses : Int32) (t_sent : Nat → Int32) : Option (Int32) :=
  L_X2_longestGap_4 t_pulses t_sent fu_ (0 : Int32) (1 : Int32)
def J_X2_countHiddenOf_66 (t_pulses : Int32) (t_sent : Nat → Int32) (k_15 : Int32 → Int32 → Int32 → Int32 → Int32 → Option (Int32)) (x1 : Int32) (x3 : Int32) (x4 : Int32) (x5 : Int32) (x6 : Int32) (x7 : Int32) : Option (Int32) :=
  gd_ (in_b x5 65) (if x3 ≤ (x7 - (t_sent (x5).toNatClampNeg)) then (k_15 x1 x3 x4 x5 (x6 + (1 : Int32))) else (k_15 x1 x3 (x4 + (1 : Int32)) x5 (x6 + (1 : Int32))))
def L_X2_countHiddenOf_35 (t_pulses : Int32) (t_sent : Nat → Int32) (k_15 : Int32 → Int32 → Int32 → Int32 → Int32 → Option (Int32)) : Nat → Int32 → Int32 → Int32 → Int32 → Int32 → Int32 → Option (Int32)
  | 0, _, _, _, _, _, _ => none
  | n_ + 1, x1, x3, x4, x5, x6, x7 =>
    if t_pulses ≤ (x5 + (1 : Int32)) then (J_X2_countHiddenOf_66 t_pulses t_sent k_15 x1 x3 x4 x5 x6 x7) else (gd_ (in_b (x5 + (1 : Int32)) 65) (if x7 < (t_sent (x5 + (1 : Int32)).toNatClampNeg) then (J_X2_countHiddenOf_66 t_pulses t_sent k_15 x1 x3 x4 x5 x6 x7) else (L_X2_countHiddenOf_35 t_pulses t_sent k_15 n_ x1 x3 x4 (x5 + (1 : Int32)) x6 x7)))
def L_X2_countHiddenOf_15 (t_pulses : Int32) (t_sent : Nat → Int32) : Nat → Int32 → Int32 → Int32 → Int32 → Int32 → Option (Int32)
  | 0, _, _, _, _, _ => none
  | n_ + 1, x1, x3, x4, x5, x6 =>
    if t_pulses ≤ x6 then (some x4) else (gd_ (in_b x6 65) (L_X2_countHiddenOf_35 t_pulses t_sent (L_X2_countHiddenOf_15 t_pulses t_sent n_) fu_ x1 x3 x4 x5 x6 ((t_sent (x6).toNatClampNeg) + x1)))
def F_X2_countHiddenOf (t_pulses : Int32) (t_sent : Nat → Int32) (x1 : Int32) (x2 : Int32) : Option (Int32) :=
  L_X2_countHiddenOf_15 t_pulses t_sent fu_ x1 (if x2 < (1 : Int32) then (1 : Int32) else x2) (0 : Int32) (0 : Int32) (0 : Int32)
def L_X2_countHidden_5 (t_pulses : Int32) (t_sent : Nat → Int32) (p1_targetCount : Int32) (p1_settings : Nat → Int32) (p1_spots : Nat → Int32) : Nat → Int32 → Int32 → Int32 → Option (Int32)
  | 0, _, _, _ => none
  | n_ + 1, x2, x3, x4 =>
    if p1_targetCount ≤ x4 then (some x3) else (if x2 ≤ x3 then (some x3) else ((F_X5_rangeOf p1_spots x4).bind fun r_3 => ((F_X2_countHiddenOf t_pulses t_sent r_3 (p1_settings 2)).bind fun r_5 => (L_X2_countHidden_5 t_pulses t_sent p1_targetCount p1_settings p1_spots n_ x2 (x3 + r_5) (x4 + (1 : Int32))))))
def F_X2_countHidden (t_pulses : Int32) (t_sent : Nat → Int32) (p1_targetCount : Int32) (p1_settings : Nat → Int32) (p1_spots : Nat → Int32) (x2 : Int32) : Option (Int32) :=
  L_X2_countHidden_5 t_pulses t_sent p1_targetCount p1_settings p1_spots fu_ x2 (0 : Int32) (0 : Int32)
def L_X2_countClear_15 (t_pulses : Int32) (t_sent : Nat → Int32) (p1_targetCount : Int32) (p1_spots : Nat → Int32) (k_4 : Int32 → Int32 → Option (Int32)) : Nat → Int32 → Int32 → Int32 → Option (Int32)
  | 0, _, _, _ => none
  | n_ + 1, x2, x3, x4 =>
    if t_pulses ≤ x4 then (k_4 x2 (x3 + (1 : Int32))) else (gd_ (in_b x4 65) ((F_X5_rangeOf p1_spots x3).bind fun r_3 => (gd_ (in_b (x4 + (1 : Int32)) 65) (if (t_sent (x4 + (1 : Int32)).toNatClampNeg) ≤ ((t_sent (x4).toNatClampNeg) + r_3) then (L_X2_countClear_15 t_pulses t_sent p1_targetCount p1_spots k_4 n_ x2 x3 (x4 + (1 : Int32))) else (L_X2_countClear_15 t_pulses t_sent p1_targetCount p1_spots k_4 n_ (x2 + (1 : Int32)) x3 (x4 + (1 : Int32)))))))
def L_X2_countClear_4 (t_pulses : Int32) (t_sent : Nat → Int32) (p1_targetCount : Int32) (p1_spots : Nat → Int32) : Nat → Int32 → Int32 → Option (Int32)
  | 0, _, _ => none
  | n_ + 1, x2, x3 =>
    if p1_targetCount ≤ x3 then (some x2) else (L_X2_countClear_15 t_pulses t_sent p1_targetCount p1_spots (L_X2_countClear_4 t_pulses t_sent p1_targetCount p1_spots n_) fu_ x2 x3 (0 : Int32))
def F_X2_countClear (t_pulses : Int32) (t_sent : Nat → Int32) (p1_targetCount : Int32) (p1_spots : Nat → Int32) : Option (Int32) :=
  L_X2_countClear_4 t_pulses t_sent p1_targetCount p1_spots fu_ (0 : Int32) (0 : Int32)
def F_X2_lastSent (t_pulses : Int32) (t_sent : Nat → Int32) : Option (Int32) :=
  if t_pulses ≤ (0 : Int32) then (some (0 : Int32)) else (gd_ (in_b (t_pulses - (1 : Int32)) 65) (some (t_sent (t_pulses - (1 : Int32)).toNatClampNeg)))
def F_X10_dwell (t_radar_gapCount : Int32) (t_radar_targetCount : Int32) (t_radar_gaps : Nat → Int32) (t_radar_settings : Nat → Int32) (t_radar_spots : Nat → Int32) (t_dwelling_rowSize : Int32) (t_dwelling_pulses : Int32) (t_dwelling_row : Nat → Int32) (t_dwelling_sent : Nat → Int32) (x1 : Int32) (x2 : Int32) (x3 : Int32) (x4 : Int32) : Option (Int32 × Int32 × Int32 × (Nat → Int32) × (Nat → Int32)) :=
  (F_X10_isWithin x2 (1 : Int32) (64 : Int32)).bind fun r_1 => (if r_1 = (0 : Int32) then (some ((-1 : Int32), t_dwelling_rowSize, t_dwelling_pulses, t_dwelling_row, t_dwelling_sent)) else ((F_X10_isWithin x3 (0 : Int32) (3 : Int32)).bind fun r_4 => (if r_4 = (0 : Int32) then (some ((-1 : Int32), t_dwelling_rowSize, t_dwelling_pulses, t_dwelling_row, t_dwelling_sent)) else (if t_radar_gapCount = (0 : Int32) then (some ((-1 : Int32), t_dwelling_rowSize, t_dwelling_pulses, t_dwelling_row, t_dwelling_sent)) else ((F_X2_takeGaps t_dwelling_rowSize t_dwelling_row t_radar_gapCount t_radar_gaps).bind fun r_8 => ((F_X2_send r_8.1 t_dwelling_pulses r_8.2 t_dwelling_sent x2 x1 x3).bind fun r_10 => (if x4 = (0 : Int32) then ((F_X2_lastSent r_10.1 r_10.2).bind fun r_13 => (some (r_13, r_8.1, r_10.1, r_8.2, r_10.2))) else (if x4 = (1 : Int32) then ((F_X2_countClear r_10.1 r_10.2 t_radar_targetCount t_radar_spots).bind fun r_16 => (some (r_16, r_8.1, r_10.1, r_8.2, r_10.2))) else (if x4 = (2 : Int32) then ((F_X2_countClear r_10.1 r_10.2 t_radar_targetCount t_radar_spots).bind fun r_19 => (some (((x2 * t_radar_targetCount) - r_19), r_8.1, r_10.1, r_8.2, r_10.2))) else (if x4 = (3 : Int32) then ((F_X2_countHidden r_10.1 r_10.2 t_radar_targetCount t_radar_settings t_radar_spots (2147483647 : Int32)).bind fun r_22 => (some (r_22, r_8.1, r_10.1, r_8.2, r_10.2))) else (if x4 = (4 : Int32) then ((F_X2_longestGap r_10.1 r_10.2).bind fun r_25 => (some (r_25, r_8.1, r_10.1, r_8.2, r_10.2))) else (some ((-1 : Int32), r_8.1, r_10.1, r_8.2, r_10.2)))))))))))))
def L_X3_foundAt_11 (t_loud : Nat → Int32) (p1_gapCount : Int32) (p1_targetCount : Int32) (p1_gaps : Nat → Int32) (p1_settings : Nat → Int32) (p1_spots : Nat → Int32) : Nat → (Nat → Int32) → Int32 → Int32 → Int32 → Option (Int32 × (Nat → Int32))
  | 0, _, _, _, _ => none
  | n_ + 1, t_hitBits, x3, x4, x5 =>
    if (p1_settings 3) ≤ x5 then (some ((-1 : Int32), t_hitBits)) else ((F_X3_isListed t_hitBits p1_targetCount p1_settings p1_spots x5 x3).bind fun r_2 => (if r_2 = (0 : Int32) then (L_X3_foundAt_11 t_loud p1_gapCount p1_targetCount p1_gaps p1_settings p1_spots n_ t_hitBits x3 x4 (x5 + (1 : Int32))) else (if x4 = (0 : Int32) then (some (x5, t_hitBits)) else (L_X3_foundAt_11 t_loud p1_gapCount p1_targetCount p1_gaps p1_settings p1_spots n_ t_hitBits x3 (x4 + (-1 : Int32)) (x5 + (1 : Int32))))))
def F_X3_foundAt (t_loud : Nat → Int32) (t_hitBits : Nat → Int32) (p1_gapCount : Int32) (p1_targetCount : Int32) (p1_gaps : Nat → Int32) (p1_settings : Nat → Int32) (p1_spots : Nat → Int32) (x2 : Int32) (x3 : Int32) : Option (Int32 × (Nat → Int32)) :=
  (F_X3_markHits t_loud t_hitBits p1_gapCount p1_gaps p1_settings).bind fun r_1 => (L_X3_foundAt_11 t_loud p1_gapCount p1_targetCount p1_gaps p1_settings p1_spots fu_ r_1 x3 x2 (0 : Int32))
def F_X10_found (t_radar_gapCount : Int32) (t_radar_targetCount : Int32) (t_radar_gaps : Nat → Int32) (t_radar_settings : Nat → Int32) (t_radar_spots : Nat → Int32) (t_radar_speeds : Nat → Int32) (t_radar_strengths : Nat → Int32) (t_echoes_targets : Nat → Int32) (t_echoes_loud : Nat → Int32) (t_echoes_hitBits : Nat → Int32) (x1 : Int32) (x2 : Int32) : Option (Int32 × (Nat → Int32) × (Nat → Int32) × (Nat → Int32)) :=
  if (0 : Int32) ≤ x1 then ((F_X3_listen t_echoes_targets t_echoes_loud t_radar_gapCount t_radar_targetCount t_radar_gaps t_radar_settings t_radar_spots t_radar_speeds t_radar_strengths).bind fun r_2 => ((F_X3_foundAt r_2.2 t_echoes_hitBits t_radar_gapCount t_radar_targetCount t_radar_gaps t_radar_settings t_radar_spots x1 x2).bind fun r_4 => (some (r_4.1, r_2.1, r_2.2, r_4.2)))) else (some ((-1 : Int32), t_echoes_targets, t_echoes_loud, t_echoes_hitBits))
def F_X10_hits (t_radar_gapCount : Int32) (t_radar_targetCount : Int32) (t_radar_gaps : Nat → Int32) (t_radar_settings : Nat → Int32) (t_radar_spots : Nat → Int32) (t_radar_speeds : Nat → Int32) (t_radar_strengths : Nat → Int32) (t_echoes_targets : Nat → Int32) (t_echoes_loud : Nat → Int32) (x1 : Int32) : Option (Int32 × (Nat → Int32) × (Nat → Int32)) :=
  (F_X10_isWithin x1 (0 : Int32) (9999 : Int32)).bind fun r_1 => (if r_1 = (0 : Int32) then (some ((-1 : Int32), t_echoes_targets, t_echoes_loud)) else ((F_X3_listen t_echoes_targets t_echoes_loud t_radar_gapCount t_radar_targetCount t_radar_gaps t_radar_settings t_radar_spots t_radar_speeds t_radar_strengths).bind fun r_4 => ((F_X3_hitsOf r_4.2 t_radar_gapCount t_radar_gaps t_radar_settings x1).bind fun r_6 => (some (r_6, r_4.1, r_4.2)))))
def L_X10_nextAtPlace_7  : Nat → Int32 → Int32 → Int32 → Int64 → Int32 → Option (Int32)
  | 0, _, _, _, _, _ => none
  | n_ + 1, x1, x2, x3, x4, x6 =>
    if x2 ≤ x6 then (some (-1 : Int32)) else (gd_ (decide (¬ (x2).toInt64 = 0)) (if (lg_cmp (x4 - x4 / (x2).toInt64 * (x2).toInt64) ((x3).toInt64)) = (0 : Int32) then (some ((x4).toInt32)) else (L_X10_nextAtPlace_7 n_ x1 x2 x3 (x4 + (x1).toInt64) (x6 + (1 : Int32)))))
def F_X10_nextAtPlace (x0 : Int32) (x1 : Int32) (x2 : Int32) (x3 : Int32) : Option (Int32) :=
  L_X10_nextAtPlace_7 fu_ x1 x2 x3 ((x0).toInt64) (0 : Int32)
def L_X10_joined_46 (t_radar_gapCount : Int32) (t_radar_gaps : Nat → Int32) : Nat → (Nat → Int32) → Int32 → Int32 → Int32 → Option (Int32 × (Nat → Int32))
  | 0, _, _, _, _ => none
  | n_ + 1, t_places, x6, x7, x8 =>
    if t_radar_gapCount ≤ x8 then (some (x6, t_places)) else (gd_ (in_b x8 5) (if (t_places (x8).toNatClampNeg) < (0 : Int32) then (L_X10_joined_46 t_radar_gapCount t_radar_gaps n_ t_places x6 x7 (x8 + (1 : Int32))) else (gd_ (in_b x8 5) (gd_ (in_b x8 5) ((F_X10_nextAtPlace x6 x7 (t_radar_gaps (x8).toNatClampNeg) (t_places (x8).toNatClampNeg)).bind fun r_6 => (if r_6 = (-1 : Int32) then (some ((-1 : Int32), t_places)) else (gd_ (in_b x8 5) ((F_X10_leastCommon x7 (t_radar_gaps (x8).toNatClampNeg)).bind fun r_10 => (L_X10_joined_46 t_radar_gapCount t_radar_gaps n_ t_places r_6 r_10 (x8 + (1 : Int32)))))))))))
def F_X10_joined (t_radar_gapCount : Int32) (t_radar_gaps : Nat → Int32) (t_places : Nat → Int32) (x1 : Int32) (x2 : Int32) (x3 : Int32) (x4 : Int32) (x5 : Int32) : Option (Int32 × (Nat → Int32)) :=
  L_X10_joined_46 t_radar_gapCount t_radar_gaps fu_ (upd (upd (upd (upd (upd t_places 0 x1) 1 x2) 2 x3) 3 x4) 4 x5) (0 : Int32) (1 : Int32) (0 : Int32)
def F_X5_hasTarget (t_targetCount : Int32) (x1 : Int32) : Option (Int32) :=
  if x1 < (0 : Int32) then (some (0 : Int32)) else (if t_targetCount ≤ x1 then (some (0 : Int32)) else (some (1 : Int32)))
def L_X5_dropTarget_21  : Nat → Int32 → (Nat → Int32) → (Nat → Int32) → (Nat → Int32) → Int32 → Option (Int32 × (Nat → Int32) × (Nat → Int32) × (Nat → Int32))
  | 0, _, _, _, _, _ => none
  | n_ + 1, t_targetCount, t_spots, t_speeds, t_strengths, x2 =>
    if t_targetCount ≤ x2 then (some (t_targetCount, t_spots, t_speeds, t_strengths)) else (gd_ (in_b (x2 + (1 : Int32)) 8) (gd_ (in_b x2 8) (gd_ (in_b (x2 + (1 : Int32)) 8) (gd_ (in_b x2 8) (gd_ (in_b (x2 + (1 : Int32)) 8) (gd_ (in_b x2 8) (L_X5_dropTarget_21 n_ t_targetCount (upd t_spots (x2).toNatClampNeg (t_spots (x2 + (1 : Int32)).toNatClampNeg)) (upd t_speeds (x2).toNatClampNeg (t_speeds (x2 + (1 : Int32)).toNatClampNeg)) (upd t_strengths (x2).toNatClampNeg (t_strengths (x2 + (1 : Int32)).toNatClampNeg)) (x2 + (1 : Int32)))))))))
def F_X5_dropTarget (t_targetCount : Int32) (t_spots : Nat → Int32) (t_speeds : Nat → Int32) (t_strengths : Nat → Int32) (x1 : Int32) : Option (Int32 × (Nat → Int32) × (Nat → Int32) × (Nat → Int32)) :=
  (F_X5_hasTarget t_targetCount x1).bind fun r_1 => (if r_1 = (0 : Int32) then (some (t_targetCount, t_spots, t_speeds, t_strengths)) else (L_X5_dropTarget_21 fu_ (t_targetCount - (1 : Int32)) t_spots t_speeds t_strengths x1))
def L_X3_makersOf_5 (t_targets : Nat → Int32) (t_loud : Nat → Int32) (p1_gapCount : Int32) (p1_gaps : Nat → Int32) (p1_settings : Nat → Int32) : Nat → Int32 → Int32 → Int32 → Option (Int32)
  | 0, _, _, _ => none
  | n_ + 1, x2, x3, x4 =>
    if p1_gapCount ≤ x4 then (some x3) else (gd_ (in_b x4 5) ((F_X10_rest x2 (p1_gaps (x4).toNatClampNeg)).bind fun r_3 => ((F_X3_isEcho t_loud p1_settings x4 r_3).bind fun r_5 => (if r_5 = (0 : Int32) then (L_X3_makersOf_5 t_targets t_loud p1_gapCount p1_gaps p1_settings n_ x2 x3 (x4 + (1 : Int32))) else ((F_X3_targetsAt t_targets x4 r_3).bind fun r_8 => (L_X3_makersOf_5 t_targets t_loud p1_gapCount p1_gaps p1_settings n_ x2 (x3 ||| r_8) (x4 + (1 : Int32))))))))
def F_X3_makersOf (t_targets : Nat → Int32) (t_loud : Nat → Int32) (p1_gapCount : Int32) (p1_gaps : Nat → Int32) (p1_settings : Nat → Int32) (x2 : Int32) : Option (Int32) :=
  L_X3_makersOf_5 t_targets t_loud p1_gapCount p1_gaps p1_settings fu_ x2 (0 : Int32) (0 : Int32)
def F_X10_makers (t_radar_gapCount : Int32) (t_radar_targetCount : Int32) (t_radar_gaps : Nat → Int32) (t_radar_settings : Nat → Int32) (t_radar_spots : Nat → Int32) (t_radar_speeds : Nat → Int32) (t_radar_strengths : Nat → Int32) (t_echoes_targets : Nat → Int32) (t_echoes_loud : Nat → Int32) (x1 : Int32) : Option (Int32 × (Nat → Int32) × (Nat → Int32)) :=
  (F_X10_isWithin x1 (0 : Int32) (9999 : Int32)).bind fun r_1 => (if r_1 = (0 : Int32) then (some ((-1 : Int32), t_echoes_targets, t_echoes_loud)) else ((F_X3_listen t_echoes_targets t_echoes_loud t_radar_gapCount t_radar_targetCount t_radar_gaps t_radar_settings t_radar_spots t_radar_speeds t_radar_strengths).bind fun r_4 => ((F_X3_makersOf r_4.1 r_4.2 t_radar_gapCount t_radar_gaps t_radar_settings x1).bind fun r_6 => (some (r_6, r_4.1, r_4.2)))))
def J_X10_more_57 (t_radar_gapCount : Int32) (t_radar_targetCount : Int32) (t_radar_gaps : Nat → Int32) (t_radar_settings : Nat → Int32) (t_radar_spots : Nat → Int32) (t_radar_speeds : Nat → Int32) (t_radar_strengths : Nat → Int32) (t_echoes_targets : Nat → Int32) (t_echoes_loud : Nat → Int32) (t_echoes_hitBits : Nat → Int32) (t_adviser_weight : Nat → Int32) : Option (Int32 × (Nat → Int32) × (Nat → Int32) × (Nat → Int32) × (Nat → Int32)) :=
  (F_X0_bestGap t_adviser_weight t_radar_gapCount t_radar_gaps).bind fun r_1 => (some (r_1, t_echoes_targets, t_echoes_loud, t_echoes_hitBits, t_adviser_weight))
def F_X10_more (t_radar_gapCount : Int32) (t_radar_targetCount : Int32) (t_radar_gaps : Nat → Int32) (t_radar_settings : Nat → Int32) (t_radar_spots : Nat → Int32) (t_radar_speeds : Nat → Int32) (t_radar_strengths : Nat → Int32) (t_echoes_targets : Nat → Int32) (t_echoes_loud : Nat → Int32) (t_echoes_hitBits : Nat → Int32) (t_adviser_weight : Nat → Int32) (x1 : Int32) : Option (Int32 × (Nat → Int32) × (Nat → Int32) × (Nat → Int32) × (Nat → Int32)) :=
  if t_radar_gapCount < (5 : Int32) then (if x1 = (0 : Int32) then ((F_X0_weighDark t_adviser_weight t_radar_gapCount t_radar_gaps t_radar_settings).bind fun r_3 => (J_X10_more_57 t_radar_gapCount t_radar_targetCount t_radar_gaps t_radar_settings t_radar_spots t_radar_speeds t_radar_strengths t_echoes_targets t_echoes_loud t_echoes_hitBits r_3)) else ((F_X3_listen t_echoes_targets t_echoes_loud t_radar_gapCount t_radar_targetCount t_radar_gaps t_radar_settings t_radar_spots t_radar_speeds t_radar_strengths).bind fun r_5 => ((F_X0_weighGhosts t_adviser_weight t_radar_gapCount t_radar_targetCount t_radar_gaps t_radar_settings t_radar_spots t_radar_speeds t_radar_strengths r_5.1 r_5.2 t_echoes_hitBits).bind fun r_7 => (J_X10_more_57 t_radar_gapCount t_radar_targetCount t_radar_gaps t_radar_settings t_radar_spots t_radar_speeds t_radar_strengths r_7.2.1 r_7.2.2.1 r_7.2.2.2 r_7.1)))) else (some ((-1 : Int32), t_echoes_targets, t_echoes_loud, t_echoes_hitBits, t_adviser_weight))
def F_X5_spotAfter (t_spots : Nat → Int32) (t_speeds : Nat → Int32) (x1 : Int32) (x2 : Int32) : Option (Int32) :=
  gd_ (in_b x1 8) (gd_ (in_b x1 8) (some ((t_spots (x1).toNatClampNeg) + ((t_speeds (x1).toNatClampNeg) * x2))))
def J_X5_pass_54 (t_targetCount : Int32) (t_time : Int32) (t_gone : Int32) (t_spots : Nat → Int32) (t_speeds : Nat → Int32) (t_strengths : Nat → Int32) (x1 : Int32) (x2 : Int32) : Option (Int32 × Int32 × Int32 × Int32 × (Nat → Int32) × (Nat → Int32) × (Nat → Int32)) :=
  some ((x2 - t_targetCount), t_targetCount, (t_time + x1), (t_gone + (x2 - t_targetCount)), t_spots, t_speeds, t_strengths)
def L_X5_pass_9  : Nat → Int32 → Int32 → Int32 → (Nat → Int32) → (Nat → Int32) → (Nat → Int32) → Int32 → Int32 → Int32 → Option (Int32 × Int32 × Int32 × Int32 × (Nat → Int32) × (Nat → Int32) × (Nat → Int32))
  | 0, _, _, _, _, _, _, _, _, _ => none
  | n_ + 1, t_targetCount, t_time, t_gone, t_spots, t_speeds, t_strengths, x1, x2, x3 =>
    if x3 < (0 : Int32) then (J_X5_pass_54 t_targetCount t_time t_gone t_spots t_speeds t_strengths x1 x2) else ((F_X5_spotAfter t_spots t_speeds x3 x1).bind fun r_2 => ((F_X10_isWithin r_2 (0 : Int32) (47999 : Int32)).bind fun r_4 => (if r_4 = (0 : Int32) then ((F_X5_dropTarget t_targetCount t_spots t_speeds t_strengths x3).bind fun r_7 => (L_X5_pass_9 n_ r_7.1 t_time t_gone r_7.2.1 r_7.2.2.1 r_7.2.2.2 x1 x2 (x3 + (-1 : Int32)))) else (gd_ (in_b x3 8) (L_X5_pass_9 n_ t_targetCount t_time t_gone (upd t_spots (x3).toNatClampNeg r_2) t_speeds t_strengths x1 x2 (x3 + (-1 : Int32)))))))
def F_X2_swap (t_row : Nat → Int32) (x1 : Int32) (x2 : Int32) : Option ((Nat → Int32)) :=
  gd_ (in_b x1 5) (gd_ (in_b x2 5) (gd_ (in_b x1 5) (gd_ (in_b x2 5) (some (upd (upd t_row (x1).toNatClampNeg (t_row (x2).toNatClampNeg)) (x2).toNatClampNeg (t_row (x1).toNatClampNeg))))))
def L_X2_nextRow_93 (t_rowSize : Int32) : Nat → (Nat → Int32) → Int32 → Int32 → Option (Int32 × (Nat → Int32))
  | 0, _, _, _ => none
  | n_ + 1, t_row, x3, x4 =>
    if x4 ≤ x3 then (some ((1 : Int32), t_row)) else ((F_X2_swap t_row x3 x4).bind fun r_2 => (L_X2_nextRow_93 t_rowSize n_ r_2 (x3 + (1 : Int32)) (x4 + (-1 : Int32))))
def J_X2_nextRow_75 (t_rowSize : Int32) (t_row : Nat → Int32) (x1 : Int32) (x2 : Int32) : Option (Int32 × (Nat → Int32)) :=
  (F_X2_swap t_row x1 x2).bind fun r_1 => (L_X2_nextRow_93 t_rowSize fu_ r_1 (x1 + (1 : Int32)) (t_rowSize - (1 : Int32)))
def L_X2_nextRow_47 (t_rowSize : Int32) : Nat → (Nat → Int32) → Int32 → Int32 → Option (Int32 × (Nat → Int32))
  | 0, _, _, _ => none
  | n_ + 1, t_row, x1, x2 =>
    if x2 ≤ (x1 + (1 : Int32)) then (J_X2_nextRow_75 t_rowSize t_row x1 x2) else (gd_ (in_b x2 5) (gd_ (in_b x1 5) (if (t_row (x1).toNatClampNeg) ≤ (t_row (x2).toNatClampNeg) then (J_X2_nextRow_75 t_rowSize t_row x1 x2) else (L_X2_nextRow_47 t_rowSize n_ t_row x1 (x2 + (-1 : Int32))))))
def J_X2_nextRow_34 (t_rowSize : Int32) (t_row : Nat → Int32) (x1 : Int32) : Option (Int32 × (Nat → Int32)) :=
  if (0 : Int32) ≤ x1 then (L_X2_nextRow_47 t_rowSize fu_ t_row x1 (t_rowSize - (1 : Int32))) else (some ((0 : Int32), t_row))
def L_X2_nextRow_7 (t_rowSize : Int32) : Nat → (Nat → Int32) → Int32 → Option (Int32 × (Nat → Int32))
  | 0, _, _ => none
  | n_ + 1, t_row, x1 =>
    if x1 < (0 : Int32) then (J_X2_nextRow_34 t_rowSize t_row x1) else (gd_ (in_b x1 5) (gd_ (in_b (x1 + (1 : Int32)) 5) (if (t_row (x1).toNatClampNeg) ≤ (t_row (x1 + (1 : Int32)).toNatClampNeg) then (J_X2_nextRow_34 t_rowSize t_row x1) else (L_X2_nextRow_7 t_rowSize n_ t_row (x1 + (-1 : Int32))))))
def F_X2_nextRow (t_rowSize : Int32) (t_row : Nat → Int32) : Option (Int32 × (Nat → Int32)) :=
  L_X2_nextRow_7 t_rowSize fu_ t_row (t_rowSize - (2 : Int32))
def J_X2_arrange_81 (p1_gapCount : Int32) (p1_targetCount : Int32) (p1_gaps : Nat → Int32) (p1_settings : Nat → Int32) (p1_spots : Nat → Int32) (k_16 : Int32 → Int32 → Int32 → (Nat → Int32) → (Nat → Int32) → (Nat → Int32) → Int32 → Int32 → Int32 → Option (Int32 × Int32 × Int32 × (Nat → Int32) × (Nat → Int32) × (Nat → Int32))) (t_rowSize : Int32) (t_pulses : Int32) (t_fewest : Int32) (t_row : Nat → Int32) (t_sent : Nat → Int32) (t_best : Nat → Int32) (x2 : Int32) (x4 : Int32) : Option (Int32 × Int32 × Int32 × (Nat → Int32) × (Nat → Int32) × (Nat → Int32)) :=
  (F_X2_nextRow t_rowSize t_row).bind fun r_1 => (k_16 t_rowSize t_pulses t_fewest r_1.2 t_sent t_best x2 r_1.1 (x4 + (1 : Int32)))
def L_X2_arrange_16 (p1_gapCount : Int32) (p1_targetCount : Int32) (p1_gaps : Nat → Int32) (p1_settings : Nat → Int32) (p1_spots : Nat → Int32) : Nat → Int32 → Int32 → Int32 → (Nat → Int32) → (Nat → Int32) → (Nat → Int32) → Int32 → Int32 → Int32 → Option (Int32 × Int32 × Int32 × (Nat → Int32) × (Nat → Int32) × (Nat → Int32))
  | 0, _, _, _, _, _, _, _, _, _ => none
  | n_ + 1, t_rowSize, t_pulses, t_fewest, t_row, t_sent, t_best, x2, x3, x4 =>
    if (120 : Int32) ≤ x4 then (some (t_rowSize, t_pulses, t_fewest, t_row, t_sent, t_best)) else (if x3 = (0 : Int32) then (some (t_rowSize, t_pulses, t_fewest, t_row, t_sent, t_best)) else (if t_fewest ≤ (0 : Int32) then (some (t_rowSize, t_pulses, t_fewest, t_row, t_sent, t_best)) else ((F_X2_send t_rowSize t_pulses t_row t_sent x2 (0 : Int32) (0 : Int32)).bind fun r_4 => ((F_X2_countHidden r_4.1 r_4.2 p1_targetCount p1_settings p1_spots t_fewest).bind fun r_6 => (if t_fewest ≤ r_6 then (J_X2_arrange_81 p1_gapCount p1_targetCount p1_gaps p1_settings p1_spots (L_X2_arrange_16 p1_gapCount p1_targetCount p1_gaps p1_settings p1_spots n_) t_rowSize r_4.1 t_fewest t_row r_4.2 t_best x2 x4) else (J_X2_arrange_81 p1_gapCount p1_targetCount p1_gaps p1_settings p1_spots (L_X2_arrange_16 p1_gapCount p1_targetCount p1_gaps p1_settings p1_spots n_) t_rowSize r_4.1 r_6 t_row r_4.2 (va_cpy t_row t_best 0 0 5) x2 x4))))))
def F_X2_arrange (t_rowSize : Int32) (t_pulses : Int32) (t_fewest : Int32) (t_row : Nat → Int32) (t_sent : Nat → Int32) (t_best : Nat → Int32) (p1_gapCount : Int32) (p1_targetCount : Int32) (p1_gaps : Nat → Int32) (p1_settings : Nat → Int32) (p1_spots : Nat → Int32) (x2 : Int32) : Option (Int32 × Int32 × Int32 × (Nat → Int32) × (Nat → Int32) × (Nat → Int32)) :=
  (F_X2_takeGaps t_rowSize t_row p1_gapCount p1_gaps).bind fun r_1 => (L_X2_arrange_16 p1_gapCount p1_targetCount p1_gaps p1_settings p1_spots fu_ r_1.1 t_pulses (2147483647 : Int32) r_1.2 t_sent t_best x2 (1 : Int32) (0 : Int32))
def J_X10_order_49 (t_radar_gapCount : Int32) (t_radar_targetCount : Int32) (t_radar_gaps : Nat → Int32) (t_radar_settings : Nat → Int32) (t_radar_spots : Nat → Int32) (t_dwelling_rowSize : Int32) (t_dwelling_pulses : Int32) (t_dwelling_fewest : Int32) (t_dwelling_row : Nat → Int32) (t_dwelling_sent : Nat → Int32) (t_dwelling_best : Nat → Int32) (x1 : Int32) (x2 : Int32) : Option (Int32 × Int32 × Int32 × Int32 × (Nat → Int32) × (Nat → Int32) × (Nat → Int32)) :=
  (F_X2_arrange t_dwelling_rowSize t_dwelling_pulses t_dwelling_fewest t_dwelling_row t_dwelling_sent t_dwelling_best t_radar_gapCount t_radar_targetCount t_radar_gaps t_radar_settings t_radar_spots x1).bind fun r_1 => (if x2 = (0 : Int32) then (some (r_1.2.2.1, r_1.1, r_1.2.1, r_1.2.2.1, r_1.2.2.2.1, r_1.2.2.2.2.1, r_1.2.2.2.2.2)) else (gd_ (in_b (x2 - (10 : Int32)) 5) (some ((r_1.2.2.2.2.2 (x2 - (10 : Int32)).toNatClampNeg), r_1.1, r_1.2.1, r_1.2.2.1, r_1.2.2.2.1, r_1.2.2.2.2.1, r_1.2.2.2.2.2))))
def F_X10_order (t_radar_gapCount : Int32) (t_radar_targetCount : Int32) (t_radar_gaps : Nat → Int32) (t_radar_settings : Nat → Int32) (t_radar_spots : Nat → Int32) (t_dwelling_rowSize : Int32) (t_dwelling_pulses : Int32) (t_dwelling_fewest : Int32) (t_dwelling_row : Nat → Int32) (t_dwelling_sent : Nat → Int32) (t_dwelling_best : Nat → Int32) (x1 : Int32) (x2 : Int32) : Option (Int32 × Int32 × Int32 × Int32 × (Nat → Int32) × (Nat → Int32) × (Nat → Int32)) :=
  (F_X10_isWithin x1 (1 : Int32) (64 : Int32)).bind fun r_1 => (if r_1 = (0 : Int32) then (some ((-1 : Int32), t_dwelling_rowSize, t_dwelling_pulses, t_dwelling_fewest, t_dwelling_row, t_dwelling_sent, t_dwelling_best)) else (if t_radar_gapCount = (0 : Int32) then (some ((-1 : Int32), t_dwelling_rowSize, t_dwelling_pulses, t_dwelling_fewest, t_dwelling_row, t_dwelling_sent, t_dwelling_best)) else (if x2 = (0 : Int32) then (J_X10_order_49 t_radar_gapCount t_radar_targetCount t_radar_gaps t_radar_settings t_radar_spots t_dwelling_rowSize t_dwelling_pulses t_dwelling_fewest t_dwelling_row t_dwelling_sent t_dwelling_best x1 x2) else ((F_X10_isWithin x2 (10 : Int32) (((10 : Int32) + t_radar_gapCount) - (1 : Int32))).bind fun r_6 => (if r_6 = (0 : Int32) then (some ((-1 : Int32), t_dwelling_rowSize, t_dwelling_pulses, t_dwelling_fewest, t_dwelling_row, t_dwelling_sent, t_dwelling_best)) else (J_X10_order_49 t_radar_gapCount t_radar_targetCount t_radar_gaps t_radar_settings t_radar_spots t_dwelling_rowSize t_dwelling_pulses t_dwelling_fewest t_dwelling_row t_dwelling_sent t_dwelling_best x1 x2))))))
def L_X3_countPairings_13 (t_loud : Nat → Int32) (p1_gapCount : Int32) (p1_gaps : Nat → Int32) (p1_settings : Nat → Int32) : Nat → Int32 → Int32 → Option (Int32)
  | 0, _, _ => none
  | n_ + 1, x2, x3 =>
    if p1_gapCount ≤ x3 then (some x2) else ((F_X3_countOfGap t_loud p1_gaps p1_settings x3).bind fun r_2 => (L_X3_countPairings_13 t_loud p1_gapCount p1_gaps p1_settings n_ (x2 * r_2) (x3 + (1 : Int32))))
def F_X3_countPairings (t_loud : Nat → Int32) (p1_gapCount : Int32) (p1_gaps : Nat → Int32) (p1_settings : Nat → Int32) : Option (Int32) :=
  if p1_gapCount = (0 : Int32) then (some (0 : Int32)) else (L_X3_countPairings_13 t_loud p1_gapCount p1_gaps p1_settings fu_ (1 : Int32) (0 : Int32))
def L_X3_countJoined_62 (t_loud : Nat → Int32) (p1_gapCount : Int32) (p1_targetCount : Int32) (p1_gaps : Nat → Int32) (p1_settings : Nat → Int32) (p1_spots : Nat → Int32) : Nat → (Nat → Int32) → Int32 → Int32 → Int32 → Int32 → Int32 → Option (Int32 × (Nat → Int32))
  | 0, _, _, _, _, _, _ => none
  | n_ + 1, t_hitBits, x2, x3, x4, x5, x6 =>
    if (p1_settings 3) ≤ x6 then (some (x5, t_hitBits)) else (if x3 ≤ x6 then (some (x5, t_hitBits)) else (gd_ (in_b x6 1000) (if (t_hitBits (x6).toNatClampNeg) = x4 then (if x2 = (0 : Int32) then (L_X3_countJoined_62 t_loud p1_gapCount p1_targetCount p1_gaps p1_settings p1_spots n_ t_hitBits x2 x3 x4 (x5 + (1 : Int32)) (x6 + (1 : Int32))) else ((F_X5_isRange p1_targetCount p1_spots x6).bind fun r_6 => (if r_6 = (0 : Int32) then (L_X3_countJoined_62 t_loud p1_gapCount p1_targetCount p1_gaps p1_settings p1_spots n_ t_hitBits x2 x3 x4 (x5 + (1 : Int32)) (x6 + (1 : Int32))) else (L_X3_countJoined_62 t_loud p1_gapCount p1_targetCount p1_gaps p1_settings p1_spots n_ t_hitBits x2 x3 x4 x5 (x6 + (1 : Int32)))))) else (L_X3_countJoined_62 t_loud p1_gapCount p1_targetCount p1_gaps p1_settings p1_spots n_ t_hitBits x2 x3 x4 x5 (x6 + (1 : Int32))))))
def J_X3_countJoined_46 (t_loud : Nat → Int32) (p1_gapCount : Int32) (p1_targetCount : Int32) (p1_gaps : Nat → Int32) (p1_settings : Nat → Int32) (p1_spots : Nat → Int32) (t_hitBits : Nat → Int32) (x2 : Int32) (x3 : Int32) : Option (Int32 × (Nat → Int32)) :=
  L_X3_countJoined_62 t_loud p1_gapCount p1_targetCount p1_gaps p1_settings p1_spots fu_ t_hitBits x2 x3 (((1 : Int32) <<< (p1_gapCount &&& 31)) - (1 : Int32)) (0 : Int32) (0 : Int32)
def L_X3_countJoined_19 (t_loud : Nat → Int32) (p1_gapCount : Int32) (p1_targetCount : Int32) (p1_gaps : Nat → Int32) (p1_settings : Nat → Int32) (p1_spots : Nat → Int32) : Nat → (Nat → Int32) → Int32 → Int32 → Int32 → Option (Int32 × (Nat → Int32))
  | 0, _, _, _, _ => none
  | n_ + 1, t_hitBits, x2, x3, x4 =>
    if p1_gapCount ≤ x4 then (J_X3_countJoined_46 t_loud p1_gapCount p1_targetCount p1_gaps p1_settings p1_spots t_hitBits x2 x3) else (gd_ (in_b x4 5) ((F_X10_leastCommon x3 (p1_gaps (x4).toNatClampNeg)).bind fun r_3 => (L_X3_countJoined_19 t_loud p1_gapCount p1_targetCount p1_gaps p1_settings p1_spots n_ t_hitBits x2 r_3 (x4 + (1 : Int32)))))
def F_X3_countJoined (t_loud : Nat → Int32) (t_hitBits : Nat → Int32) (p1_gapCount : Int32) (p1_targetCount : Int32) (p1_gaps : Nat → Int32) (p1_settings : Nat → Int32) (p1_spots : Nat → Int32) (x2 : Int32) : Option (Int32 × (Nat → Int32)) :=
  if p1_gapCount = (0 : Int32) then (some ((0 : Int32), t_hitBits)) else ((F_X3_markHits t_loud t_hitBits p1_gapCount p1_gaps p1_settings).bind fun r_2 => (L_X3_countJoined_19 t_loud p1_gapCount p1_targetCount p1_gaps p1_settings p1_spots fu_ r_2 x2 (1 : Int32) (0 : Int32)))
def J_X10_pairs_58 (t_radar_gapCount : Int32) (t_radar_targetCount : Int32) (t_radar_gaps : Nat → Int32) (t_radar_settings : Nat → Int32) (t_radar_spots : Nat → Int32) (t_radar_speeds : Nat → Int32) (t_radar_strengths : Nat → Int32) (t_echoes_targets : Nat → Int32) (t_echoes_loud : Nat → Int32) (t_echoes_hitBits : Nat → Int32) (s2 : Int32) : Option (Int32 × (Nat → Int32) × (Nat → Int32) × (Nat → Int32)) :=
  (F_X3_countJoined t_echoes_loud t_echoes_hitBits t_radar_gapCount t_radar_targetCount t_radar_gaps t_radar_settings t_radar_spots s2).bind fun r_1 => (some (r_1.1, t_echoes_targets, t_echoes_loud, r_1.2))
def F_X10_pairs (t_radar_gapCount : Int32) (t_radar_targetCount : Int32) (t_radar_gaps : Nat → Int32) (t_radar_settings : Nat → Int32) (t_radar_spots : Nat → Int32) (t_radar_speeds : Nat → Int32) (t_radar_strengths : Nat → Int32) (t_echoes_targets : Nat → Int32) (t_echoes_loud : Nat → Int32) (t_echoes_hitBits : Nat → Int32) (x1 : Int32) : Option (Int32 × (Nat → Int32) × (Nat → Int32) × (Nat → Int32)) :=
  (F_X10_isWithin x1 (0 : Int32) (2 : Int32)).bind fun r_1 => (if r_1 = (0 : Int32) then (some ((-1 : Int32), t_echoes_targets, t_echoes_loud, t_echoes_hitBits)) else ((F_X3_listen t_echoes_targets t_echoes_loud t_radar_gapCount t_radar_targetCount t_radar_gaps t_radar_settings t_radar_spots t_radar_speeds t_radar_strengths).bind fun r_4 => (if x1 = (0 : Int32) then ((F_X3_countPairings r_4.2 t_radar_gapCount t_radar_gaps t_radar_settings).bind fun r_8 => (some (r_8, r_4.1, r_4.2, t_echoes_hitBits))) else (if x1 = (2 : Int32) then (J_X10_pairs_58 t_radar_gapCount t_radar_targetCount t_radar_gaps t_radar_settings t_radar_spots t_radar_speeds t_radar_strengths r_4.1 r_4.2 t_echoes_hitBits (1 : Int32)) else (J_X10_pairs_58 t_radar_gapCount t_radar_targetCount t_radar_gaps t_radar_settings t_radar_spots t_radar_speeds t_radar_strengths r_4.1 r_4.2 t_echoes_hitBits (0 : Int32))))))
def J_X7_leastUnshifted_34 (p0_gapCount : Int32) (p0_gaps : Nat → Int32) (p0_settings : Nat → Int32) (x1 : Int32) : Option (Int32) :=
  if x1 ≤ (0 : Int32) then (some (1 : Int32)) else (gd_ (decide (¬ x1 = 0)) (some ((p0_settings 0) / x1)))
def L_X7_leastUnshifted_9 (p0_gapCount : Int32) (p0_gaps : Nat → Int32) (p0_settings : Nat → Int32) : Nat → Int32 → Int32 → Option (Int32)
  | 0, _, _ => none
  | n_ + 1, x1, x2 =>
    if p0_gapCount ≤ x2 then (J_X7_leastUnshifted_34 p0_gapCount p0_gaps p0_settings x1) else (gd_ (in_b x2 5) ((F_X10_commonDivisor x1 (p0_gaps (x2).toNatClampNeg)).bind fun r_3 => (L_X7_leastUnshifted_9 p0_gapCount p0_gaps p0_settings n_ r_3 (x2 + (1 : Int32)))))
def F_X7_leastUnshifted (p0_gapCount : Int32) (p0_gaps : Nat → Int32) (p0_settings : Nat → Int32) : Option (Int32) :=
  L_X7_leastUnshifted_9 p0_gapCount p0_gaps p0_settings fu_ (p0_settings 0) (0 : Int32)
def F_X10_period (t_radar_gapCount : Int32) (t_radar_gaps : Nat → Int32) (t_radar_settings : Nat → Int32) : Option (Int32) :=
  (F_X7_leastUnshifted t_radar_gapCount t_radar_gaps t_radar_settings).bind fun r_1 => (some r_1)
def F_X10_picture (t_radar_gapCount : Int32) (t_radar_targetCount : Int32) (t_radar_gaps : Nat → Int32) (t_radar_settings : Nat → Int32) (t_radar_spots : Nat → Int32) (t_radar_speeds : Nat → Int32) (t_radar_strengths : Nat → Int32) (t_echoes_shownCount : Int32) (t_echoes_targets : Nat → Int32) (t_echoes_loud : Nat → Int32) (t_echoes_hitBits : Nat → Int32) (t_echoes_shown : Nat → Int32) (t_echoes_took : Nat → Int32) (x1 : Int32) (x2 : Int32) : Option (Int32 × Int32 × (Nat → Int32) × (Nat → Int32) × (Nat → Int32) × (Nat → Int32) × (Nat → Int32)) :=
  (F_X3_listen t_echoes_targets t_echoes_loud t_radar_gapCount t_radar_targetCount t_radar_gaps t_radar_settings t_radar_spots t_radar_speeds t_radar_strengths).bind fun r_1 => ((F_X3_paint t_echoes_shownCount r_1.2 t_echoes_hitBits t_echoes_shown t_echoes_took t_radar_gapCount t_radar_gaps t_radar_settings).bind fun r_3 => ((F_X10_isWithin x1 (0 : Int32) (r_3.1 - (1 : Int32))).bind fun r_5 => (if r_5 = (0 : Int32) then (some ((-1 : Int32), r_3.1, r_1.1, r_1.2, r_3.2.1, r_3.2.2.1, r_3.2.2.2)) else (if x2 = (0 : Int32) then (gd_ (in_b x1 40) (some ((r_3.2.2.1 (x1).toNatClampNeg), r_3.1, r_1.1, r_1.2, r_3.2.1, r_3.2.2.1, r_3.2.2.2))) else (gd_ (in_b x1 40) (some ((r_3.2.2.2 (x1).toNatClampNeg), r_3.1, r_1.1, r_1.2, r_3.2.1, r_3.2.2.1, r_3.2.2.2)))))))
def J_X10_reach_70 (t_radar_gapCount : Int32) (t_radar_gaps : Nat → Int32) (x2 : Int32) (x3 : Int32) : Option (Int32) :=
  if (lg_cmp ((x3).toInt64 * (x2).toInt64) (((((x3).toInt64 * (x2).toInt64)).toInt32).toInt64)) = (0 : Int32) then (some ((((x3).toInt64 * (x2).toInt64)).toInt32)) else (some (-2147483648 : Int32))
def L_X10_reach_28 (t_radar_gapCount : Int32) (t_radar_gaps : Nat → Int32) : Nat → Int32 → Int32 → Int32 → Int32 → Option (Int32)
  | 0, _, _, _, _ => none
  | n_ + 1, x1, x2, x3, x4 =>
    if t_radar_gapCount ≤ x4 then (J_X10_reach_70 t_radar_gapCount t_radar_gaps x2 x3) else (if ((x1 >>> (x4 &&& 31)) &&& (1 : Int32)) = (0 : Int32) then (L_X10_reach_28 t_radar_gapCount t_radar_gaps n_ x1 x2 x3 (x4 + (1 : Int32))) else (gd_ (in_b x4 5) ((F_X10_leastCommon x3 (t_radar_gaps (x4).toNatClampNeg)).bind fun r_4 => (L_X10_reach_28 t_radar_gapCount t_radar_gaps n_ x1 x2 r_4 (x4 + (1 : Int32))))))
def F_X10_reach (t_radar_gapCount : Int32) (t_radar_gaps : Nat → Int32) (x1 : Int32) (x2 : Int32) : Option (Int32) :=
  (F_X10_isWithin x1 (0 : Int32) (((1 : Int32) <<< (t_radar_gapCount &&& 31)) - (1 : Int32))).bind fun r_1 => (if r_1 = (0 : Int32) then (some (-2147483648 : Int32)) else (L_X10_reach_28 t_radar_gapCount t_radar_gaps fu_ x1 x2 (1 : Int32) (0 : Int32)))
def L_X7_countOpenShaken_7 (p0_settings : Nat → Int32) : Nat → Int32 → Int32 → Int32 → Int32 → Int32 → Option (Int32)
  | 0, _, _, _, _, _ => none
  | n_ + 1, x1, x2, x3, x4, x5 =>
    if x3 < x5 then (some x4) else ((F_X5_hides p0_settings x1 (x2 + x5)).bind fun r_2 => (if r_2 = (0 : Int32) then (L_X7_countOpenShaken_7 p0_settings n_ x1 x2 x3 (x4 + (1 : Int32)) (x5 + (1 : Int32))) else (L_X7_countOpenShaken_7 p0_settings n_ x1 x2 x3 x4 (x5 + (1 : Int32)))))
def F_X7_countOpenShaken (p0_settings : Nat → Int32) (x1 : Int32) (x2 : Int32) (x3 : Int32) : Option (Int32) :=
  L_X7_countOpenShaken_7 p0_settings fu_ x1 x2 x3 (0 : Int32) (-x3)
def J_X7_countShaken_76 (p0_gapCount : Int32) (p0_gaps : Nat → Int32) (p0_settings : Nat → Int32) (k_5 : Int32 → Int32 → Int32 → Int32 → Option (Int32)) (x1 : Int32) (x2 : Int32) (x3 : Int32) (x4 : Int32) (x5 : Int32) : Option (Int32) :=
  if x5 < (p0_settings 4) then (k_5 x1 x2 x3 (x4 + (1 : Int32))) else (k_5 x1 x2 (x3 + (1 : Int32)) (x4 + (1 : Int32)))
def L_X7_countShaken_22 (p0_gapCount : Int32) (p0_gaps : Nat → Int32) (p0_settings : Nat → Int32) (k_5 : Int32 → Int32 → Int32 → Int32 → Option (Int32)) : Nat → Int32 → Int32 → Int32 → Int32 → Int32 → Int32 → Option (Int32)
  | 0, _, _, _, _, _, _ => none
  | n_ + 1, x1, x2, x3, x4, x5, x6 =>
    if p0_gapCount ≤ x6 then (J_X7_countShaken_76 p0_gapCount p0_gaps p0_settings k_5 x1 x2 x3 x4 x5) else (gd_ (in_b x6 5) ((F_X7_countOpenShaken p0_settings x4 (p0_gaps (x6).toNatClampNeg) x1).bind fun r_3 => (if x2 = (0 : Int32) then (if r_3 ≤ ((2 : Int32) * x1) then (L_X7_countShaken_22 p0_gapCount p0_gaps p0_settings k_5 n_ x1 x2 x3 x4 x5 (x6 + (1 : Int32))) else (L_X7_countShaken_22 p0_gapCount p0_gaps p0_settings k_5 n_ x1 x2 x3 x4 (x5 + (1 : Int32)) (x6 + (1 : Int32)))) else (if r_3 ≤ (0 : Int32) then (L_X7_countShaken_22 p0_gapCount p0_gaps p0_settings k_5 n_ x1 x2 x3 x4 x5 (x6 + (1 : Int32))) else (L_X7_countShaken_22 p0_gapCount p0_gaps p0_settings k_5 n_ x1 x2 x3 x4 (x5 + (1 : Int32)) (x6 + (1 : Int32)))))))
def L_X7_countShaken_5 (p0_gapCount : Int32) (p0_gaps : Nat → Int32) (p0_settings : Nat → Int32) : Nat → Int32 → Int32 → Int32 → Int32 → Option (Int32)
  | 0, _, _, _, _ => none
  | n_ + 1, x1, x2, x3, x4 =>
    if (p0_settings 5) < x4 then (some x3) else (L_X7_countShaken_22 p0_gapCount p0_gaps p0_settings (L_X7_countShaken_5 p0_gapCount p0_gaps p0_settings n_) fu_ x1 x2 x3 x4 (0 : Int32) (0 : Int32))
def F_X7_countShaken (p0_gapCount : Int32) (p0_gaps : Nat → Int32) (p0_settings : Nat → Int32) (x1 : Int32) (x2 : Int32) : Option (Int32) :=
  L_X7_countShaken_5 p0_gapCount p0_gaps p0_settings fu_ x1 x2 (0 : Int32) (1 : Int32)
def F_X10_shaken (t_radar_gapCount : Int32) (t_radar_gaps : Nat → Int32) (t_radar_settings : Nat → Int32) (x1 : Int32) (x2 : Int32) : Option (Int32) :=
  (F_X10_isWithin x1 (0 : Int32) (3 : Int32)).bind fun r_1 => (if r_1 = (0 : Int32) then (some (-1 : Int32)) else ((F_X7_countShaken t_radar_gapCount t_radar_gaps t_radar_settings x1 x2).bind fun r_4 => (some r_4)))
def F_X9_numberAt (p0_lookNumbers : Nat → Int32) (x1 : Int32) (x2 : Int32) : Option (Int32) :=
  gd_ (in_b ((x1 * (12 : Int32)) + x2) 48) (some (p0_lookNumbers ((x1 * (12 : Int32)) + x2).toNatClampNeg))
def L_X9_alignedLasts_75 (t_path : Nat → Int32) (p1_lookCount : Int32) (p1_lookTimes : Nat → Int32) (p1_lookSizes : Nat → Int32) (p1_lookNumbers : Nat → Int32) : Nat → Int32 → Int32 → Int64 → Int64 → Int64 → Int32 → Int32 → Option (Int32)
  | 0, _, _, _, _, _, _, _ => none
  | n_ + 1, x4, x5, x6, x8, x10, x12, x13 =>
    gd_ (in_b x4 4) (if (p1_lookSizes (x4).toNatClampNeg) ≤ x13 then (some x12) else ((F_X9_numberAt p1_lookNumbers x4 x13).bind fun r_3 => (if (0 : Int32) < (lg_cmp (x10 - (((r_3 - x5)).toInt64 * x8)) x6) then (L_X9_alignedLasts_75 t_path p1_lookCount p1_lookTimes p1_lookSizes p1_lookNumbers n_ x4 x5 x6 x8 x10 x12 (x13 + (1 : Int32))) else (if (0 : Int32) < (lg_cmp (-(x10 - (((r_3 - x5)).toInt64 * x8))) x6) then (L_X9_alignedLasts_75 t_path p1_lookCount p1_lookTimes p1_lookSizes p1_lookNumbers n_ x4 x5 x6 x8 x10 x12 (x13 + (1 : Int32))) else (L_X9_alignedLasts_75 t_path p1_lookCount p1_lookTimes p1_lookSizes p1_lookNumbers n_ x4 x5 x6 x8 x10 (x12 ||| ((1 : Int32) <<< (x13 &&& 31))) (x13 + (1 : Int32)))))))
def F_X9_alignedLasts (t_path : Nat → Int32) (p1_lookCount : Int32) (p1_lookTimes : Nat → Int32) (p1_lookSizes : Nat → Int32) (p1_lookNumbers : Nat → Int32) (x2 : Int32) (x3 : Int32) : Option (Int32) :=
  (F_X9_numberAt p1_lookNumbers (0 : Int32) (t_path 0)).bind fun r_1 => (gd_ (in_b (p1_lookCount - (1 : Int32)) 4) (gd_ (in_b x2 4) ((F_X9_numberAt p1_lookNumbers x2 x3).bind fun r_5 => (L_X9_alignedLasts_75 t_path p1_lookCount p1_lookTimes p1_lookSizes p1_lookNumbers fu_ (p1_lookCount - (1 : Int32)) r_1 ((((p1_lookTimes (p1_lookCount - (1 : Int32)).toNatClampNeg) - (p1_lookTimes 0))).toInt64) ((((p1_lookTimes (x2).toNatClampNeg) - (p1_lookTimes 0))).toInt64) (((r_5 - r_1)).toInt64 * (((p1_lookTimes (p1_lookCount - (1 : Int32)).toNatClampNeg) - (p1_lookTimes 0))).toInt64) (0 : Int32) (0 : Int32)))))
def L_X9_alignAll_14 (t_path : Nat → Int32) (p1_lookCount : Int32) (p1_lookTimes : Nat → Int32) (p1_lookSizes : Nat → Int32) (p1_lookNumbers : Nat → Int32) (k_2 : (Nat → Int32) → Int32 → Option ((Nat → Int32))) : Nat → (Nat → Int32) → Int32 → Int32 → Option ((Nat → Int32))
  | 0, _, _, _ => none
  | n_ + 1, t_lasts, x2, x3 =>
    gd_ (in_b x2 4) (if (p1_lookSizes (x2).toNatClampNeg) ≤ x3 then (k_2 t_lasts (x2 + (1 : Int32))) else ((F_X9_alignedLasts t_path p1_lookCount p1_lookTimes p1_lookSizes p1_lookNumbers x2 x3).bind fun r_3 => (gd_ (in_b ((x2 * (12 : Int32)) + x3) 48) (L_X9_alignAll_14 t_path p1_lookCount p1_lookTimes p1_lookSizes p1_lookNumbers k_2 n_ (upd t_lasts ((x2 * (12 : Int32)) + x3).toNatClampNeg r_3) x2 (x3 + (1 : Int32))))))
def L_X9_alignAll_2 (t_path : Nat → Int32) (p1_lookCount : Int32) (p1_lookTimes : Nat → Int32) (p1_lookSizes : Nat → Int32) (p1_lookNumbers : Nat → Int32) : Nat → (Nat → Int32) → Int32 → Option ((Nat → Int32))
  | 0, _, _ => none
  | n_ + 1, t_lasts, x2 =>
    if (p1_lookCount - (1 : Int32)) ≤ x2 then (some t_lasts) else (L_X9_alignAll_14 t_path p1_lookCount p1_lookTimes p1_lookSizes p1_lookNumbers (L_X9_alignAll_2 t_path p1_lookCount p1_lookTimes p1_lookSizes p1_lookNumbers n_) fu_ t_lasts x2 (0 : Int32))
def F_X9_alignAll (t_lasts : Nat → Int32) (t_path : Nat → Int32) (p1_lookCount : Int32) (p1_lookTimes : Nat → Int32) (p1_lookSizes : Nat → Int32) (p1_lookNumbers : Nat → Int32) : Option ((Nat → Int32)) :=
  L_X9_alignAll_2 t_path p1_lookCount p1_lookTimes p1_lookSizes p1_lookNumbers fu_ t_lasts (1 : Int32)
def L_X9_placeOfBit_4  : Nat → Int32 → Int32 → Int32 → Option (Int32)
  | 0, _, _, _ => none
  | n_ + 1, x0, x2, x3 =>
    if (12 : Int32) ≤ x3 then (some (0 : Int32)) else (if ((x0 >>> (x3 &&& 31)) &&& (1 : Int32)) = (0 : Int32) then (L_X9_placeOfBit_4 n_ x0 x2 (x3 + (1 : Int32))) else (if x2 = (0 : Int32) then (some x3) else (L_X9_placeOfBit_4 n_ x0 (x2 + (-1 : Int32)) (x3 + (1 : Int32)))))
def F_X9_placeOfBit (x0 : Int32) (x1 : Int32) : Option (Int32) :=
  L_X9_placeOfBit_4 fu_ x0 x1 (0 : Int32)
def J_X9_seekMiddle_145 (t_lasts : Nat → Int32) (p1_lookCount : Int32) (p1_lookSizes : Nat → Int32) (t_passed : Int32) (t_path : Nat → Int32) (x2 : Int32) (x3 : Int32) (x7 : Int32) (x8 : Int32) (x9 : Int32) : Option (Int32 × Int32 × (Nat → Int32)) :=
  (F_X9_placeOfBit x9 (x2 - t_passed)).bind fun r_1 => (gd_ (in_b x3 4) (some ((1 : Int32), t_passed, (upd (upd (upd t_path 1 x7) 2 x8) (x3).toNatClampNeg r_1))))
def J_X9_seekMiddle_124 (t_lasts : Nat → Int32) (p1_lookCount : Int32) (p1_lookSizes : Nat → Int32) (k_56 : Int32 → (Nat → Int32) → Int32 → Int32 → Int32 → Int32 → Int32 → Int32 → Option (Int32 × Int32 × (Nat → Int32))) (k_66 : Int32 → (Nat → Int32) → Int32 → Int32 → Int32 → Int32 → Int32 → Int32 → Int32 → Option (Int32 × Int32 × (Nat → Int32))) (t_passed : Int32) (t_path : Nat → Int32) (x2 : Int32) (x3 : Int32) (x4 : Int32) (x5 : Int32) (x6 : Int32) (x7 : Int32) (x8 : Int32) (s0 : Int32) (s1 : Int32) : Option (Int32 × Int32 × (Nat → Int32)) :=
  (F_J6_bitCount_0f7a4 (s0 &&& s1)).bind fun r_1 => (if r_1 ≤ (x2 - t_passed) then (k_66 (t_passed + r_1) t_path x2 x3 x4 x5 x6 x7 (x8 + (1 : Int32))) else (J_X9_seekMiddle_145 t_lasts p1_lookCount p1_lookSizes t_passed t_path x2 x3 x7 x8 (s0 &&& s1)))
def J_X9_seekMiddle_99 (t_lasts : Nat → Int32) (p1_lookCount : Int32) (p1_lookSizes : Nat → Int32) (k_56 : Int32 → (Nat → Int32) → Int32 → Int32 → Int32 → Int32 → Int32 → Int32 → Option (Int32 × Int32 × (Nat → Int32))) (k_66 : Int32 → (Nat → Int32) → Int32 → Int32 → Int32 → Int32 → Int32 → Int32 → Int32 → Option (Int32 × Int32 × (Nat → Int32))) (t_passed : Int32) (t_path : Nat → Int32) (x2 : Int32) (x3 : Int32) (x4 : Int32) (x5 : Int32) (x6 : Int32) (x7 : Int32) (x8 : Int32) (s0 : Int32) (s1 : Int32) : Option (Int32 × Int32 × (Nat → Int32)) :=
  if x3 ≤ (2 : Int32) then (J_X9_seekMiddle_124 t_lasts p1_lookCount p1_lookSizes k_56 k_66 t_passed t_path x2 x3 x4 x5 x6 x7 x8 (s0 &&& s1) x4) else (gd_ (in_b ((24 : Int32) + x8) 48) (J_X9_seekMiddle_124 t_lasts p1_lookCount p1_lookSizes k_56 k_66 t_passed t_path x2 x3 x4 x5 x6 x7 x8 (s0 &&& s1) (t_lasts ((24 : Int32) + x8).toNatClampNeg)))
def L_X9_seekMiddle_66 (t_lasts : Nat → Int32) (p1_lookCount : Int32) (p1_lookSizes : Nat → Int32) (k_56 : Int32 → (Nat → Int32) → Int32 → Int32 → Int32 → Int32 → Int32 → Int32 → Option (Int32 × Int32 × (Nat → Int32))) : Nat → Int32 → (Nat → Int32) → Int32 → Int32 → Int32 → Int32 → Int32 → Int32 → Int32 → Option (Int32 × Int32 × (Nat → Int32))
  | 0, _, _, _, _, _, _, _, _, _ => none
  | n_ + 1, t_passed, t_path, x2, x3, x4, x5, x6, x7, x8 =>
    if x6 ≤ x8 then (k_56 t_passed t_path x2 x3 x4 x5 x6 (x7 + (1 : Int32))) else (if x3 ≤ (1 : Int32) then (J_X9_seekMiddle_99 t_lasts p1_lookCount p1_lookSizes k_56 (L_X9_seekMiddle_66 t_lasts p1_lookCount p1_lookSizes k_56 n_) t_passed t_path x2 x3 x4 x5 x6 x7 x8 x4 x4) else (gd_ (in_b ((12 : Int32) + x7) 48) (J_X9_seekMiddle_99 t_lasts p1_lookCount p1_lookSizes k_56 (L_X9_seekMiddle_66 t_lasts p1_lookCount p1_lookSizes k_56 n_) t_passed t_path x2 x3 x4 x5 x6 x7 x8 x4 (t_lasts ((12 : Int32) + x7).toNatClampNeg))))
def L_X9_seekMiddle_56 (t_lasts : Nat → Int32) (p1_lookCount : Int32) (p1_lookSizes : Nat → Int32) : Nat → Int32 → (Nat → Int32) → Int32 → Int32 → Int32 → Int32 → Int32 → Int32 → Option (Int32 × Int32 × (Nat → Int32))
  | 0, _, _, _, _, _, _, _, _ => none
  | n_ + 1, t_passed, t_path, x2, x3, x4, x5, x6, x7 =>
    if x5 ≤ x7 then (some ((0 : Int32), t_passed, t_path)) else (L_X9_seekMiddle_66 t_lasts p1_lookCount p1_lookSizes (L_X9_seekMiddle_56 t_lasts p1_lookCount p1_lookSizes n_) fu_ t_passed t_path x2 x3 x4 x5 x6 x7 (0 : Int32))
def J_X9_seekMiddle_34 (t_lasts : Nat → Int32) (p1_lookCount : Int32) (p1_lookSizes : Nat → Int32) (t_passed : Int32) (t_path : Nat → Int32) (x2 : Int32) (x3 : Int32) (x4 : Int32) (s0 : Int32) : Option (Int32 × Int32 × (Nat → Int32)) :=
  if x3 ≤ (2 : Int32) then (L_X9_seekMiddle_56 t_lasts p1_lookCount p1_lookSizes fu_ t_passed t_path x2 x3 x4 s0 (1 : Int32) (0 : Int32)) else (L_X9_seekMiddle_56 t_lasts p1_lookCount p1_lookSizes fu_ t_passed t_path x2 x3 x4 s0 (p1_lookSizes 2) (0 : Int32))
def F_X9_seekMiddle (t_passed : Int32) (t_lasts : Nat → Int32) (t_path : Nat → Int32) (p1_lookCount : Int32) (p1_lookSizes : Nat → Int32) (x2 : Int32) : Option (Int32 × Int32 × (Nat → Int32)) :=
  gd_ (in_b (p1_lookCount - (1 : Int32)) 4) (if (p1_lookCount - (1 : Int32)) ≤ (1 : Int32) then (J_X9_seekMiddle_34 t_lasts p1_lookCount p1_lookSizes t_passed t_path x2 (p1_lookCount - (1 : Int32)) (((1 : Int32) <<< ((p1_lookSizes (p1_lookCount - (1 : Int32)).toNatClampNeg) &&& 31)) - (1 : Int32)) (1 : Int32)) else (J_X9_seekMiddle_34 t_lasts p1_lookCount p1_lookSizes t_passed t_path x2 (p1_lookCount - (1 : Int32)) (((1 : Int32) <<< ((p1_lookSizes (p1_lookCount - (1 : Int32)).toNatClampNeg) &&& 31)) - (1 : Int32)) (p1_lookSizes 1)))
def L_X5_loudAfter_18 (t_targetCount : Int32) (t_settings : Nat → Int32) (t_spots : Nat → Int32) (t_speeds : Nat → Int32) (t_strengths : Nat → Int32) : Nat → Int32 → Int32 → Int32 → Int32 → Int32 → Option (Int32)
  | 0, _, _, _, _, _ => none
  | n_ + 1, x1, x2, x3, x4, x5 =>
    if t_targetCount ≤ x5 then (some x4) else ((F_X5_spotAfter t_spots t_speeds x5 x3).bind fun r_2 => ((F_X10_isWithin r_2 (0 : Int32) (47999 : Int32)).bind fun r_4 => (if r_4 = (0 : Int32) then (L_X5_loudAfter_18 t_targetCount t_settings t_spots t_speeds t_strengths n_ x1 x2 x3 x4 (x5 + (1 : Int32))) else ((F_X10_rest (r_2 / (16 : Int32)) x1).bind fun r_7 => (if r_7 = x2 then (gd_ (in_b x5 8) ((F_X5_hides t_settings (t_speeds (x5).toNatClampNeg) x1).bind fun r_11 => (if r_11 = (0 : Int32) then (gd_ (in_b x5 8) (L_X5_loudAfter_18 t_targetCount t_settings t_spots t_speeds t_strengths n_ x1 x2 x3 (x4 + (t_strengths (x5).toNatClampNeg)) (x5 + (1 : Int32)))) else (L_X5_loudAfter_18 t_targetCount t_settings t_spots t_speeds t_strengths n_ x1 x2 x3 x4 (x5 + (1 : Int32)))))) else (L_X5_loudAfter_18 t_targetCount t_settings t_spots t_speeds t_strengths n_ x1 x2 x3 x4 (x5 + (1 : Int32))))))))
def F_X5_loudAfter (t_targetCount : Int32) (t_settings : Nat → Int32) (t_spots : Nat → Int32) (t_speeds : Nat → Int32) (t_strengths : Nat → Int32) (x1 : Int32) (x2 : Int32) (x3 : Int32) : Option (Int32) :=
  if (t_settings 2) ≤ x2 then (L_X5_loudAfter_18 t_targetCount t_settings t_spots t_speeds t_strengths fu_ x1 x2 x3 (0 : Int32) (0 : Int32)) else (some (0 : Int32))
def J_X5_findsAfter_96 (t_gapCount : Int32) (t_targetCount : Int32) (t_gaps : Nat → Int32) (t_settings : Nat → Int32) (t_spots : Nat → Int32) (t_speeds : Nat → Int32) (t_strengths : Nat → Int32) (x4 : Int32) : Option (Int32) :=
  if x4 < (t_settings 4) then (some (0 : Int32)) else (some (1 : Int32))
def L_X5_findsAfter_38 (t_gapCount : Int32) (t_targetCount : Int32) (t_gaps : Nat → Int32) (t_settings : Nat → Int32) (t_spots : Nat → Int32) (t_speeds : Nat → Int32) (t_strengths : Nat → Int32) : Nat → Int32 → Int32 → Int32 → Int32 → Option (Int32)
  | 0, _, _, _, _ => none
  | n_ + 1, x2, x3, x4, x5 =>
    if t_gapCount ≤ x5 then (J_X5_findsAfter_96 t_gapCount t_targetCount t_gaps t_settings t_spots t_speeds t_strengths x4) else (gd_ (in_b x5 5) ((F_X10_rest (x3 / (16 : Int32)) (t_gaps (x5).toNatClampNeg)).bind fun r_3 => (gd_ (in_b x5 5) ((F_X5_loudAfter t_targetCount t_settings t_spots t_speeds t_strengths (t_gaps (x5).toNatClampNeg) r_3 x2).bind fun r_6 => (if r_6 < (t_settings 6) then (L_X5_findsAfter_38 t_gapCount t_targetCount t_gaps t_settings t_spots t_speeds t_strengths n_ x2 x3 x4 (x5 + (1 : Int32))) else (L_X5_findsAfter_38 t_gapCount t_targetCount t_gaps t_settings t_spots t_speeds t_strengths n_ x2 x3 (x4 + (1 : Int32)) (x5 + (1 : Int32))))))))
def F_X5_findsAfter (t_gapCount : Int32) (t_targetCount : Int32) (t_gaps : Nat → Int32) (t_settings : Nat → Int32) (t_spots : Nat → Int32) (t_speeds : Nat → Int32) (t_strengths : Nat → Int32) (x1 : Int32) (x2 : Int32) : Option (Int32) :=
  (F_X5_spotAfter t_spots t_speeds x1 x2).bind fun r_1 => ((F_X10_isWithin r_1 (0 : Int32) (47999 : Int32)).bind fun r_3 => (if r_3 = (0 : Int32) then (some (0 : Int32)) else (if (r_1 / (16 : Int32)) < (t_settings 3) then (L_X5_findsAfter_38 t_gapCount t_targetCount t_gaps t_settings t_spots t_speeds t_strengths fu_ x2 r_1 (0 : Int32) (0 : Int32)) else (some (0 : Int32)))))
def L_X10_until_26 (t_radar_gapCount : Int32) (t_radar_targetCount : Int32) (t_radar_gaps : Nat → Int32) (t_radar_settings : Nat → Int32) (t_radar_spots : Nat → Int32) (t_radar_speeds : Nat → Int32) (t_radar_strengths : Nat → Int32) : Nat → Int32 → Int32 → Int32 → Option (Int32)
  | 0, _, _, _ => none
  | n_ + 1, x1, x2, x3 =>
    if x2 < x3 then (some (-1 : Int32)) else ((F_X5_findsAfter t_radar_gapCount t_radar_targetCount t_radar_gaps t_radar_settings t_radar_spots t_radar_speeds t_radar_strengths x1 x3).bind fun r_2 => (if r_2 = (0 : Int32) then (L_X10_until_26 t_radar_gapCount t_radar_targetCount t_radar_gaps t_radar_settings t_radar_spots t_radar_speeds t_radar_strengths n_ x1 x2 (x3 + (1 : Int32))) else (some x3)))
def F_X10_until (t_radar_gapCount : Int32) (t_radar_targetCount : Int32) (t_radar_gaps : Nat → Int32) (t_radar_settings : Nat → Int32) (t_radar_spots : Nat → Int32) (t_radar_speeds : Nat → Int32) (t_radar_strengths : Nat → Int32) (x1 : Int32) (x2 : Int32) : Option (Int32) :=
  (F_X5_hasTarget t_radar_targetCount x1).bind fun r_1 => (if r_1 = (0 : Int32) then (some (-1 : Int32)) else ((F_X10_isWithin x2 (0 : Int32) (200 : Int32)).bind fun r_4 => (if r_4 = (0 : Int32) then (some (-1 : Int32)) else (L_X10_until_26 t_radar_gapCount t_radar_targetCount t_radar_gaps t_radar_settings t_radar_spots t_radar_speeds t_radar_strengths fu_ x1 x2 (0 : Int32)))))
def L_X5_gapsThatSee_4 (t_gapCount : Int32) (t_gaps : Nat → Int32) (t_settings : Nat → Int32) (t_spots : Nat → Int32) (t_speeds : Nat → Int32) : Nat → Int32 → Int32 → Int32 → Option (Int32)
  | 0, _, _, _ => none
  | n_ + 1, x1, x2, x3 =>
    if t_gapCount ≤ x3 then (some x2) else (gd_ (in_b x3 5) ((F_X5_sees t_settings t_spots t_speeds x1 (t_gaps (x3).toNatClampNeg)).bind fun r_3 => (if r_3 = (0 : Int32) then (L_X5_gapsThatSee_4 t_gapCount t_gaps t_settings t_spots t_speeds n_ x1 x2 (x3 + (1 : Int32))) else (L_X5_gapsThatSee_4 t_gapCount t_gaps t_settings t_spots t_speeds n_ x1 (x2 ||| ((1 : Int32) <<< (x3 &&& 31))) (x3 + (1 : Int32))))))
def F_X5_gapsThatSee (t_gapCount : Int32) (t_gaps : Nat → Int32) (t_settings : Nat → Int32) (t_spots : Nat → Int32) (t_speeds : Nat → Int32) (x1 : Int32) : Option (Int32) :=
  L_X5_gapsThatSee_4 t_gapCount t_gaps t_settings t_spots t_speeds fu_ x1 (0 : Int32) (0 : Int32)
def L_X5_targetsSeenBy_4 (t_targetCount : Int32) (t_settings : Nat → Int32) (t_spots : Nat → Int32) (t_speeds : Nat → Int32) : Nat → Int32 → Int32 → Int32 → Option (Int32)
  | 0, _, _, _ => none
  | n_ + 1, x1, x2, x3 =>
    if t_targetCount ≤ x3 then (some x2) else ((F_X5_sees t_settings t_spots t_speeds x3 x1).bind fun r_2 => (if r_2 = (0 : Int32) then (L_X5_targetsSeenBy_4 t_targetCount t_settings t_spots t_speeds n_ x1 x2 (x3 + (1 : Int32))) else (L_X5_targetsSeenBy_4 t_targetCount t_settings t_spots t_speeds n_ x1 (x2 ||| ((1 : Int32) <<< (x3 &&& 31))) (x3 + (1 : Int32)))))
def F_X5_targetsSeenBy (t_targetCount : Int32) (t_settings : Nat → Int32) (t_spots : Nat → Int32) (t_speeds : Nat → Int32) (x1 : Int32) : Option (Int32) :=
  L_X5_targetsSeenBy_4 t_targetCount t_settings t_spots t_speeds fu_ x1 (0 : Int32) (0 : Int32)
def L_X7_countBlind_4 (p0_settings : Nat → Int32) : Nat → Int32 → Int32 → Int32 → Option (Int32)
  | 0, _, _, _ => none
  | n_ + 1, x1, x2, x3 =>
    if (p0_settings 5) < x3 then (some x2) else ((F_X5_hides p0_settings x3 x1).bind fun r_2 => (if r_2 = (0 : Int32) then (L_X7_countBlind_4 p0_settings n_ x1 x2 (x3 + (1 : Int32))) else (L_X7_countBlind_4 p0_settings n_ x1 (x2 + (1 : Int32)) (x3 + (1 : Int32)))))
def F_X7_countBlind (p0_settings : Nat → Int32) (x1 : Int32) : Option (Int32) :=
  L_X7_countBlind_4 p0_settings fu_ x1 (0 : Int32) (1 : Int32)
def F_X11_in (x0 : Int32) (x1 : Int32) (x2 : Int32) : Option (Int32) :=
  if x0 < x1 then (some (0 : Int32)) else (if x2 < x0 then (some (0 : Int32)) else (some (1 : Int32)))
def L_X11_copies_2  : Nat → (Nat → Int32) → Int32 → Int32 → Int32 → Option ((Nat → Int32))
  | 0, _, _, _, _ => none
  | n_ + 1, t_all, x1, x2, x3 =>
    if (100 : Int32) ≤ x3 then (some t_all) else (gd_ (in_b (((100 : Int32) * x1) + x3) 500) (gd_ (in_b (((100 : Int32) * x2) + x3) 500) (L_X11_copies_2 n_ (upd t_all (((100 : Int32) * x2) + x3).toNatClampNeg (t_all (((100 : Int32) * x1) + x3).toNatClampNeg)) x1 x2 (x3 + (1 : Int32)))))
def F_X11_copies (t_all : Nat → Int32) (x1 : Int32) (x2 : Int32) : Option ((Nat → Int32)) :=
  L_X11_copies_2 fu_ t_all x1 x2 (0 : Int32)
def F_X11_isGap (t_all : Nat → Int32) (x1 : Int32) : Option (Int32) :=
  (F_X11_in x1 (0 : Int32) ((t_all 0) - (1 : Int32))).bind fun r_1 => (gd_ (decide (r_1 &&& 1 = r_1)) (some r_1))
def F_X11_gapAt (t_all : Nat → Int32) (x1 : Int32) : Option (Int32) :=
  gd_ (in_b ((1 : Int32) + x1) 500) (some (t_all ((1 : Int32) + x1).toNatClampNeg))
def F_X11_of (t_all : Nat → Int32) (x1 : Int32) (x2 : Int32) : Option (Int32) :=
  gd_ (in_b (((14 : Int32) + ((3 : Int32) * x1)) + x2) 500) (some (t_all (((14 : Int32) + ((3 : Int32) * x1)) + x2).toNatClampNeg))
def F_X11_rest (x0 : Int32) (x1 : Int32) : Option (Int32) :=
  gd_ (decide (¬ x1 = 0)) (if (0 : Int32) ≤ (x0 - x0 / x1 * x1) then (some (x0 - x0 / x1 * x1)) else (some ((x0 - x0 / x1 * x1) + x1)))
def F_X11_isBlind (t_all : Nat → Int32) (x1 : Int32) (x2 : Int32) : Option (Int32) :=
  (F_X11_rest (x1 * x2) (t_all 6)).bind fun r_1 => (if r_1 ≤ (t_all 7) then (some (1 : Int32)) else (if r_1 < ((t_all 6) - (t_all 7)) then (some (0 : Int32)) else (some (1 : Int32))))
def F_X11_rangeOf (t_all : Nat → Int32) (x1 : Int32) : Option (Int32) :=
  (F_X11_of t_all x1 (0 : Int32)).bind fun r_1 => (some (r_1 / (16 : Int32)))
def F_X11_isSeen (t_all : Nat → Int32) (x1 : Int32) (x2 : Int32) : Option (Int32) :=
  (F_X11_of t_all x1 (1 : Int32)).bind fun r_1 => ((F_X11_gapAt t_all x2).bind fun r_3 => ((F_X11_isBlind t_all r_1 r_3).bind fun r_5 => (if r_5 = (0 : Int32) then ((F_X11_rangeOf t_all x1).bind fun r_8 => ((F_X11_gapAt t_all x2).bind fun r_10 => (gd_ (decide (¬ r_10 = 0)) (if (r_8 - r_8 / r_10 * r_10) < (t_all 8) then (some (0 : Int32)) else (some (1 : Int32)))))) else (some (0 : Int32)))))
def J_X11_at_99 (t_all : Nat → Int32) (k_39 : Int32 → Int32 → Int32 → Int32 → Int32 → Int32 → Int32 → Option (Int32 × Int32)) (t_raised : Int32) (x1 : Int32) (x2 : Int32) (x3 : Int32) (x5 : Int32) (x6 : Int32) (x7 : Int32) (s0 : Int32) (s1 : Int32) : Option (Int32 × Int32) :=
  if x7 = (0 : Int32) then (k_39 t_raised x1 x2 x3 (s0 ||| s1) (x5 + (0 : Int32)) (x6 + (1 : Int32))) else ((F_X11_of t_all x6 (2 : Int32)).bind fun r_2 => (k_39 t_raised x1 x2 x3 (s0 ||| s1) (x5 + r_2) (x6 + (1 : Int32))))
def J_X11_at_82 (t_all : Nat → Int32) (k_39 : Int32 → Int32 → Int32 → Int32 → Int32 → Int32 → Int32 → Option (Int32 × Int32)) (t_raised : Int32) (x1 : Int32) (x2 : Int32) (x3 : Int32) (x4 : Int32) (x5 : Int32) (x6 : Int32) (s0 : Int32) : Option (Int32 × Int32) :=
  if s0 = (0 : Int32) then (J_X11_at_99 t_all k_39 t_raised x1 x2 x3 x5 x6 s0 x4 (0 : Int32)) else (J_X11_at_99 t_all k_39 t_raised x1 x2 x3 x5 x6 s0 x4 ((1 : Int32) <<< (x6 &&& 31)))
def J_X11_at_81 (t_all : Nat → Int32) (k_39 : Int32 → Int32 → Int32 → Int32 → Int32 → Int32 → Int32 → Option (Int32 × Int32)) (t_raised : Int32) (x1 : Int32) (x2 : Int32) (x3 : Int32) (x4 : Int32) (x5 : Int32) (x6 : Int32) : Option (Int32 × Int32) :=
  J_X11_at_82 t_all k_39 t_raised x1 x2 x3 x4 x5 x6 (0 : Int32)
def J_X11_at_129 (t_all : Nat → Int32) (t_raised : Int32) (x3 : Int32) (x4 : Int32) (x5 : Int32) : Option (Int32 × Int32) :=
  if x3 = (0 : Int32) then (some (x4, t_raised)) else (some (x5, t_raised))
def L_X11_at_39 (t_all : Nat → Int32) : Nat → Int32 → Int32 → Int32 → Int32 → Int32 → Int32 → Int32 → Option (Int32 × Int32)
  | 0, _, _, _, _, _, _, _ => none
  | n_ + 1, t_raised, x1, x2, x3, x4, x5, x6 =>
    if (t_all 13) ≤ x6 then (J_X11_at_129 t_all t_raised x3 x4 x5) else ((F_X11_isSeen t_all x6 x1).bind fun r_2 => (if r_2 = (0 : Int32) then (J_X11_at_81 t_all (L_X11_at_39 t_all n_) t_raised x1 x2 x3 x4 x5 x6) else ((F_X11_rangeOf t_all x6).bind fun r_5 => ((F_X11_gapAt t_all x1).bind fun r_7 => (gd_ (decide (¬ r_7 = 0)) (if (r_5 - r_5 / r_7 * r_7) = x2 then (J_X11_at_82 t_all (L_X11_at_39 t_all n_) t_raised x1 x2 x3 x4 x5 x6 (1 : Int32)) else (J_X11_at_81 t_all (L_X11_at_39 t_all n_) t_raised x1 x2 x3 x4 x5 x6)))))))
def F_X11_at (t_raised : Int32) (t_all : Nat → Int32) (x1 : Int32) (x2 : Int32) (x3 : Int32) : Option (Int32 × Int32) :=
  (F_X11_isGap t_all x1).bind fun r_1 => (if r_1 = (0 : Int32) then (some ((-1 : Int32), (0 : Int32))) else ((F_X11_gapAt t_all x1).bind fun r_4 => ((F_X11_in x2 (0 : Int32) (r_4 - (1 : Int32))).bind fun r_6 => (if r_6 = (0 : Int32) then (some ((-1 : Int32), (0 : Int32))) else (L_X11_at_39 t_all fu_ (0 : Int32) x1 x2 x3 (0 : Int32) (0 : Int32) (0 : Int32))))))
def L_X11_blindBits_4 (t_all : Nat → Int32) : Nat → Int32 → Int32 → Int32 → Option (Int32)
  | 0, _, _, _ => none
  | n_ + 1, x1, x2, x3 =>
    if (t_all 0) ≤ x3 then (some x2) else ((F_X11_gapAt t_all x3).bind fun r_2 => ((F_X11_isBlind t_all x1 r_2).bind fun r_4 => (if r_4 = (0 : Int32) then (L_X11_blindBits_4 t_all n_ x1 (x2 ||| (0 : Int32)) (x3 + (1 : Int32))) else (L_X11_blindBits_4 t_all n_ x1 (x2 ||| ((1 : Int32) <<< (x3 &&& 31))) (x3 + (1 : Int32))))))
def F_X11_blindBits (t_all : Nat → Int32) (x1 : Int32) : Option (Int32) :=
  L_X11_blindBits_4 t_all fu_ x1 (0 : Int32) (0 : Int32)
def F_X11_blind (t_raised : Int32) (t_all : Nat → Int32) (x1 : Int32) : Option (Int32 × Int32) :=
  (F_X11_in x1 (-500 : Int32) (500 : Int32)).bind fun r_1 => (if r_1 = (0 : Int32) then (some ((-1 : Int32), (0 : Int32))) else ((F_X11_blindBits t_all x1).bind fun r_4 => (some (r_4, (0 : Int32)))))
def L_X11_blindMany_4 (t_all : Nat → Int32) : Nat → Int32 → Int32 → Int32 → Option (Int32)
  | 0, _, _, _ => none
  | n_ + 1, x1, x2, x3 =>
    if (t_all 11) < x3 then (some x2) else ((F_X11_isBlind t_all x3 x1).bind fun r_2 => (if r_2 = (0 : Int32) then (L_X11_blindMany_4 t_all n_ x1 (x2 + (0 : Int32)) (x3 + (1 : Int32))) else (L_X11_blindMany_4 t_all n_ x1 (x2 + (1 : Int32)) (x3 + (1 : Int32)))))
def F_X11_blindMany (t_all : Nat → Int32) (x1 : Int32) : Option (Int32) :=
  L_X11_blindMany_4 t_all fu_ x1 (0 : Int32) (1 : Int32)
def L_X11_measure_6  : Nat → Int64 → Int64 → Option (Int64)
  | 0, _, _ => none
  | n_ + 1, x4, x6 =>
    if (lg_cmp x6 (0 : Int64)) = (0 : Int32) then (some x4) else (gd_ (decide (¬ x6 = 0)) (L_X11_measure_6 n_ x6 (x4 - x4 / x6 * x6)))
def F_X11_measure (x0 : Int64) (x2 : Int64) : Option (Int64) :=
  L_X11_measure_6 fu_ x0 x2
def J_X11_laysLoud_88 (t_all : Nat → Int32) (k_24 : (Nat → Int32) → Int32 → Option ((Nat → Int32))) (k_36 : (Nat → Int32) → Int32 → Int32 → Option ((Nat → Int32))) (t_loud : Nat → Int32) (x1 : Int32) (x2 : Int32) (s1 : Int32) (s2 : Int32) (s3 : Int32) : Option ((Nat → Int32)) :=
  gd_ (in_b s1 300) (k_36 (upd t_loud (s1).toNatClampNeg (s2 + s3)) x1 (x2 + (1 : Int32)))
def L_X11_laysLoud_36 (t_all : Nat → Int32) (k_24 : (Nat → Int32) → Int32 → Option ((Nat → Int32))) : Nat → (Nat → Int32) → Int32 → Int32 → Option ((Nat → Int32))
  | 0, _, _, _ => none
  | n_ + 1, t_loud, x1, x2 =>
    if (t_all 13) ≤ x2 then (k_24 t_loud (x1 + (1 : Int32))) else ((F_X11_rangeOf t_all x2).bind fun r_2 => ((F_X11_gapAt t_all x1).bind fun r_4 => (gd_ (decide (¬ r_4 = 0)) (gd_ (in_b (((60 : Int32) * x1) + (r_2 - r_2 / r_4 * r_4)) 300) ((F_X11_isSeen t_all x2 x1).bind fun r_8 => (if r_8 = (0 : Int32) then (J_X11_laysLoud_88 t_all k_24 (L_X11_laysLoud_36 t_all k_24 n_) t_loud x1 x2 (((60 : Int32) * x1) + (r_2 - r_2 / r_4 * r_4)) (t_loud (((60 : Int32) * x1) + (r_2 - r_2 / r_4 * r_4)).toNatClampNeg) (0 : Int32)) else ((F_X11_of t_all x2 (2 : Int32)).bind fun r_11 => (J_X11_laysLoud_88 t_all k_24 (L_X11_laysLoud_36 t_all k_24 n_) t_loud x1 x2 (((60 : Int32) * x1) + (r_2 - r_2 / r_4 * r_4)) (t_loud (((60 : Int32) * x1) + (r_2 - r_2 / r_4 * r_4)).toNatClampNeg) r_11))))))))
def L_X11_laysLoud_24 (t_all : Nat → Int32) : Nat → (Nat → Int32) → Int32 → Option ((Nat → Int32))
  | 0, _, _ => none
  | n_ + 1, t_loud, x1 =>
    if (t_all 0) ≤ x1 then (some t_loud) else (L_X11_laysLoud_36 t_all (L_X11_laysLoud_24 t_all n_) fu_ t_loud x1 (0 : Int32))
def L_X11_laysLoud_2 (t_all : Nat → Int32) : Nat → (Nat → Int32) → Int32 → Option ((Nat → Int32))
  | 0, _, _ => none
  | n_ + 1, t_loud, x1 =>
    if (300 : Int32) ≤ x1 then (L_X11_laysLoud_24 t_all fu_ t_loud (0 : Int32)) else (gd_ (in_b x1 300) (L_X11_laysLoud_2 t_all n_ (upd t_loud (x1).toNatClampNeg (0 : Int32)) (x1 + (1 : Int32))))
def F_X11_laysLoud (t_all : Nat → Int32) (t_loud : Nat → Int32) : Option ((Nat → Int32)) :=
  L_X11_laysLoud_2 t_all fu_ t_loud (0 : Int32)
def L_X11_freeHits_4 (t_all : Nat → Int32) (t_free : Nat → Int32) : Nat → Int32 → Int32 → Int32 → Option (Int32)
  | 0, _, _, _ => none
  | n_ + 1, x1, x2, x3 =>
    if (t_all 0) ≤ x3 then (some x2) else ((F_X11_gapAt t_all x3).bind fun r_2 => (gd_ (decide (¬ r_2 = 0)) (gd_ (in_b (((60 : Int32) * x3) + (x1 - x1 / r_2 * r_2)) 300) (if (t_free (((60 : Int32) * x3) + (x1 - x1 / r_2 * r_2)).toNatClampNeg) = (0 : Int32) then (L_X11_freeHits_4 t_all t_free n_ x1 (x2 + (0 : Int32)) (x3 + (1 : Int32))) else (L_X11_freeHits_4 t_all t_free n_ x1 (x2 + (1 : Int32)) (x3 + (1 : Int32)))))))
def F_X11_freeHits (t_all : Nat → Int32) (t_free : Nat → Int32) (x1 : Int32) : Option (Int32) :=
  L_X11_freeHits_4 t_all t_free fu_ x1 (0 : Int32) (0 : Int32)
def L_X11_laysPicture_155 (t_all : Nat → Int32) (k_53 : Int32 → (Nat → Int32) → (Nat → Int32) → (Nat → Int32) → (Nat → Int32) → Int32 → Option (Int32 × (Nat → Int32) × (Nat → Int32) × (Nat → Int32) × (Nat → Int32))) : Nat → Int32 → (Nat → Int32) → (Nat → Int32) → (Nat → Int32) → (Nat → Int32) → Int32 → Int32 → Option (Int32 × (Nat → Int32) × (Nat → Int32) × (Nat → Int32) × (Nat → Int32))
  | 0, _, _, _, _, _, _, _ => none
  | n_ + 1, t_pictured, t_loud, t_picture, t_took, t_free, x1, x2 =>
    if (t_all 0) ≤ x2 then (k_53 t_pictured t_loud t_picture t_took t_free x1) else ((F_X11_gapAt t_all x2).bind fun r_2 => (gd_ (decide (¬ r_2 = 0)) (gd_ (in_b (((60 : Int32) * x2) + (x1 - x1 / r_2 * r_2)) 300) (L_X11_laysPicture_155 t_all k_53 n_ t_pictured t_loud t_picture t_took (upd t_free (((60 : Int32) * x2) + (x1 - x1 / r_2 * r_2)).toNatClampNeg (vp_nar .boolean (0 : Int32))) x1 (x2 + (1 : Int32))))))
def J_X11_laysPicture_114 (t_all : Nat → Int32) (k_53 : Int32 → (Nat → Int32) → (Nat → Int32) → (Nat → Int32) → (Nat → Int32) → Int32 → Option (Int32 × (Nat → Int32) × (Nat → Int32) × (Nat → Int32) × (Nat → Int32))) (t_pictured : Int32) (t_loud : Nat → Int32) (t_picture : Nat → Int32) (t_took : Nat → Int32) (t_free : Nat → Int32) (x1 : Int32) : Option (Int32 × (Nat → Int32) × (Nat → Int32) × (Nat → Int32) × (Nat → Int32)) :=
  if x1 = (-1 : Int32) then (k_53 t_pictured t_loud t_picture t_took t_free x1) else (gd_ (in_b t_pictured 300) ((F_X11_freeHits t_all t_free x1).bind fun r_3 => (gd_ (in_b t_pictured 300) (L_X11_laysPicture_155 t_all k_53 fu_ (t_pictured + (1 : Int32)) t_loud (upd t_picture (t_pictured).toNatClampNeg x1) (upd t_took (t_pictured).toNatClampNeg r_3) t_free x1 (0 : Int32)))))
def L_X11_laysPicture_62 (t_all : Nat → Int32) (k_53 : Int32 → (Nat → Int32) → (Nat → Int32) → (Nat → Int32) → (Nat → Int32) → Int32 → Option (Int32 × (Nat → Int32) × (Nat → Int32) × (Nat → Int32) × (Nat → Int32))) : Nat → Int32 → (Nat → Int32) → (Nat → Int32) → (Nat → Int32) → (Nat → Int32) → Int32 → Int32 → Option (Int32 × (Nat → Int32) × (Nat → Int32) × (Nat → Int32) × (Nat → Int32))
  | 0, _, _, _, _, _, _, _ => none
  | n_ + 1, t_pictured, t_loud, t_picture, t_took, t_free, x1, x2 =>
    if (t_all 9) ≤ x2 then (J_X11_laysPicture_114 t_all k_53 t_pictured t_loud t_picture t_took t_free x1) else ((F_X11_freeHits t_all t_free x2).bind fun r_2 => (if r_2 < (t_all 10) then (L_X11_laysPicture_62 t_all k_53 n_ t_pictured t_loud t_picture t_took t_free x1 (x2 + (1 : Int32))) else (if x1 = (-1 : Int32) then (L_X11_laysPicture_62 t_all k_53 n_ t_pictured t_loud t_picture t_took t_free x2 (x2 + (1 : Int32))) else ((F_X11_freeHits t_all t_free x2).bind fun r_6 => ((F_X11_freeHits t_all t_free x1).bind fun r_8 => (if r_6 ≤ r_8 then (L_X11_laysPicture_62 t_all k_53 n_ t_pictured t_loud t_picture t_took t_free x1 (x2 + (1 : Int32))) else (L_X11_laysPicture_62 t_all k_53 n_ t_pictured t_loud t_picture t_took t_free x2 (x2 + (1 : Int32)))))))))
def L_X11_laysPicture_53 (t_all : Nat → Int32) : Nat → Int32 → (Nat → Int32) → (Nat → Int32) → (Nat → Int32) → (Nat → Int32) → Int32 → Option (Int32 × (Nat → Int32) × (Nat → Int32) × (Nat → Int32) × (Nat → Int32))
  | 0, _, _, _, _, _, _ => none
  | n_ + 1, t_pictured, t_loud, t_picture, t_took, t_free, x1 =>
    if x1 = (-1 : Int32) then (some (t_pictured, t_loud, t_picture, t_took, t_free)) else (L_X11_laysPicture_62 t_all (L_X11_laysPicture_53 t_all n_) fu_ t_pictured t_loud t_picture t_took t_free (-1 : Int32) (0 : Int32))
def J_X11_laysPicture_46 (t_all : Nat → Int32) (t_pictured : Int32) (t_loud : Nat → Int32) (t_picture : Nat → Int32) (t_took : Nat → Int32) (t_free : Nat → Int32) : Option (Int32 × (Nat → Int32) × (Nat → Int32) × (Nat → Int32) × (Nat → Int32)) :=
  L_X11_laysPicture_53 t_all fu_ (0 : Int32) t_loud t_picture t_took t_free (0 : Int32)
def J_X11_laysPicture_39 (t_all : Nat → Int32) (k_6 : Int32 → (Nat → Int32) → (Nat → Int32) → (Nat → Int32) → (Nat → Int32) → Int32 → Option (Int32 × (Nat → Int32) × (Nat → Int32) × (Nat → Int32) × (Nat → Int32))) (t_pictured : Int32) (t_loud : Nat → Int32) (t_picture : Nat → Int32) (t_took : Nat → Int32) (t_free : Nat → Int32) (x1 : Int32) (s1 : Int32) (s2 : Int32) : Option (Int32 × (Nat → Int32) × (Nat → Int32) × (Nat → Int32) × (Nat → Int32)) :=
  gd_ (in_b s1 300) (k_6 t_pictured t_loud t_picture t_took (upd t_free (s1).toNatClampNeg (vp_nar .boolean s2)) (x1 + (1 : Int32)))
def L_X11_laysPicture_6 (t_all : Nat → Int32) : Nat → Int32 → (Nat → Int32) → (Nat → Int32) → (Nat → Int32) → (Nat → Int32) → Int32 → Option (Int32 × (Nat → Int32) × (Nat → Int32) × (Nat → Int32) × (Nat → Int32))
  | 0, _, _, _, _, _, _ => none
  | n_ + 1, t_pictured, t_loud, t_picture, t_took, t_free, x1 =>
    if (300 : Int32) ≤ x1 then (J_X11_laysPicture_46 t_all t_pictured t_loud t_picture t_took t_free) else (gd_ (in_b x1 300) (if (t_loud (x1).toNatClampNeg) < (t_all 12) then (J_X11_laysPicture_39 t_all (L_X11_laysPicture_6 t_all n_) t_pictured t_loud t_picture t_took t_free x1 x1 (0 : Int32)) else (J_X11_laysPicture_39 t_all (L_X11_laysPicture_6 t_all n_) t_pictured t_loud t_picture t_took t_free x1 x1 (1 : Int32))))
def F_X11_laysPicture (t_pictured : Int32) (t_all : Nat → Int32) (t_loud : Nat → Int32) (t_picture : Nat → Int32) (t_took : Nat → Int32) (t_free : Nat → Int32) : Option (Int32 × (Nat → Int32) × (Nat → Int32) × (Nat → Int32) × (Nat → Int32)) :=
  (F_X11_laysLoud t_all t_loud).bind fun r_1 => (L_X11_laysPicture_6 t_all fu_ t_pictured r_1 t_picture t_took t_free (0 : Int32))
def F_X11_isEcho (t_all : Nat → Int32) (t_loud : Nat → Int32) (x1 : Int32) (x2 : Int32) : Option (Int32) :=
  gd_ (in_b (((60 : Int32) * x1) + x2) 300) (if (t_loud (((60 : Int32) * x1) + x2).toNatClampNeg) < (t_all 12) then (some (0 : Int32)) else (some (1 : Int32)))
def L_X11_hitBits_4 (t_all : Nat → Int32) (t_loud : Nat → Int32) : Nat → Int32 → Int32 → Int32 → Option (Int32)
  | 0, _, _, _ => none
  | n_ + 1, x1, x2, x3 =>
    if (t_all 0) ≤ x3 then (some x2) else ((F_X11_gapAt t_all x3).bind fun r_2 => (gd_ (decide (¬ r_2 = 0)) ((F_X11_isEcho t_all t_loud x3 (x1 - x1 / r_2 * r_2)).bind fun r_5 => (if r_5 = (0 : Int32) then (L_X11_hitBits_4 t_all t_loud n_ x1 (x2 ||| (0 : Int32)) (x3 + (1 : Int32))) else (L_X11_hitBits_4 t_all t_loud n_ x1 (x2 ||| ((1 : Int32) <<< (x3 &&& 31))) (x3 + (1 : Int32)))))))
def F_X11_hitBits (t_all : Nat → Int32) (t_loud : Nat → Int32) (x1 : Int32) : Option (Int32) :=
  L_X11_hitBits_4 t_all t_loud fu_ x1 (0 : Int32) (0 : Int32)
def L_X11_ones_4  : Nat → Int32 → Int32 → Int32 → Option (Int32)
  | 0, _, _, _ => none
  | n_ + 1, x0, x1, x2 =>
    if (8 : Int32) ≤ x2 then (some x1) else (L_X11_ones_4 n_ x0 (x1 + ((x0 >>> (x2 &&& 31)) &&& (1 : Int32))) (x2 + (1 : Int32)))
def F_X11_ones (x0 : Int32) : Option (Int32) :=
  L_X11_ones_4 fu_ x0 (0 : Int32) (0 : Int32)
def F_X11_isFound (t_all : Nat → Int32) (t_loud : Nat → Int32) (x1 : Int32) : Option (Int32) :=
  if (t_all 9) ≤ x1 then (some (0 : Int32)) else ((F_X11_hitBits t_all t_loud x1).bind fun r_2 => ((F_X11_ones r_2).bind fun r_4 => (if r_4 < (t_all 10) then (some (0 : Int32)) else (some (1 : Int32)))))
def L_X11_missedBits_4 (t_all : Nat → Int32) (t_loud : Nat → Int32) : Nat → Int32 → Int32 → Option (Int32)
  | 0, _, _ => none
  | n_ + 1, x1, x2 =>
    if (t_all 13) ≤ x2 then (some x1) else ((F_X11_rangeOf t_all x2).bind fun r_2 => (if (t_all 9) ≤ r_2 then (L_X11_missedBits_4 t_all t_loud n_ (x1 ||| (0 : Int32)) (x2 + (1 : Int32))) else ((F_X11_rangeOf t_all x2).bind fun r_5 => ((F_X11_isFound t_all t_loud r_5).bind fun r_7 => (if r_7 = (0 : Int32) then (L_X11_missedBits_4 t_all t_loud n_ (x1 ||| ((1 : Int32) <<< (x2 &&& 31))) (x2 + (1 : Int32))) else (L_X11_missedBits_4 t_all t_loud n_ (x1 ||| (0 : Int32)) (x2 + (1 : Int32))))))))
def F_X11_missedBits (t_all : Nat → Int32) (t_loud : Nat → Int32) : Option (Int32) :=
  L_X11_missedBits_4 t_all t_loud fu_ (0 : Int32) (0 : Int32)
def L_X11_isRange_2 (t_all : Nat → Int32) : Nat → Int32 → Int32 → Option (Int32)
  | 0, _, _ => none
  | n_ + 1, x1, x2 =>
    if (t_all 13) ≤ x2 then (some (0 : Int32)) else ((F_X11_rangeOf t_all x2).bind fun r_2 => (if r_2 = x1 then (some (1 : Int32)) else (L_X11_isRange_2 t_all n_ x1 (x2 + (1 : Int32)))))
def F_X11_isRange (t_all : Nat → Int32) (x1 : Int32) : Option (Int32) :=
  L_X11_isRange_2 t_all fu_ x1 (0 : Int32)
def L_X11_foundMany_4 (t_all : Nat → Int32) (t_loud : Nat → Int32) : Nat → Int32 → Int32 → Int32 → Option (Int32)
  | 0, _, _, _ => none
  | n_ + 1, x1, x2, x3 =>
    if (t_all 9) ≤ x3 then (some x2) else ((F_X11_isFound t_all t_loud x3).bind fun r_2 => (if r_2 = (0 : Int32) then (L_X11_foundMany_4 t_all t_loud n_ x1 (x2 + (0 : Int32)) (x3 + (1 : Int32))) else (if x1 = (0 : Int32) then (L_X11_foundMany_4 t_all t_loud n_ x1 (x2 + (1 : Int32)) (x3 + (1 : Int32))) else ((F_X11_isRange t_all x3).bind fun r_6 => (if r_6 = (0 : Int32) then (L_X11_foundMany_4 t_all t_loud n_ x1 (x2 + (1 : Int32)) (x3 + (1 : Int32))) else (L_X11_foundMany_4 t_all t_loud n_ x1 (x2 + (0 : Int32)) (x3 + (1 : Int32))))))))
def F_X11_foundMany (t_all : Nat → Int32) (t_loud : Nat → Int32) (x1 : Int32) : Option (Int32) :=
  L_X11_foundMany_4 t_all t_loud fu_ x1 (0 : Int32) (0 : Int32)
def L_X11_echoesOf_4 (t_all : Nat → Int32) (t_loud : Nat → Int32) : Nat → Int32 → Int32 → Int32 → Option (Int32)
  | 0, _, _, _ => none
  | n_ + 1, x1, x2, x3 =>
    (F_X11_gapAt t_all x1).bind fun r_1 => (if r_1 ≤ x3 then (some x2) else ((F_X11_isEcho t_all t_loud x1 x3).bind fun r_4 => (if r_4 = (0 : Int32) then (L_X11_echoesOf_4 t_all t_loud n_ x1 (x2 + (0 : Int32)) (x3 + (1 : Int32))) else (L_X11_echoesOf_4 t_all t_loud n_ x1 (x2 + (1 : Int32)) (x3 + (1 : Int32))))))
def F_X11_echoesOf (t_all : Nat → Int32) (t_loud : Nat → Int32) (x1 : Int32) : Option (Int32) :=
  L_X11_echoesOf_4 t_all t_loud fu_ x1 (0 : Int32) (0 : Int32)
def L_X11_echoes_4 (t_all : Nat → Int32) (t_loud : Nat → Int32) : Nat → Int32 → Int32 → Option (Int32)
  | 0, _, _ => none
  | n_ + 1, x1, x2 =>
    if (t_all 0) ≤ x2 then (some x1) else ((F_X11_echoesOf t_all t_loud x2).bind fun r_2 => (L_X11_echoes_4 t_all t_loud n_ (x1 + r_2) (x2 + (1 : Int32))))
def F_X11_echoes (t_all : Nat → Int32) (t_loud : Nat → Int32) : Option (Int32) :=
  L_X11_echoes_4 t_all t_loud fu_ (0 : Int32) (0 : Int32)
def F_X11_isDark (t_all : Nat → Int32) (x1 : Int32) : Option (Int32) :=
  (F_X11_blindBits t_all x1).bind fun r_1 => ((F_X11_ones r_1).bind fun r_3 => (if (t_all 10) ≤ ((t_all 0) - r_3) then (some (0 : Int32)) else (some (1 : Int32))))
def L_X11_darkMany_4 (t_all : Nat → Int32) : Nat → Int32 → Int32 → Option (Int32)
  | 0, _, _ => none
  | n_ + 1, x1, x2 =>
    if (t_all 11) < x2 then (some x1) else ((F_X11_isDark t_all x2).bind fun r_2 => (if r_2 = (0 : Int32) then (L_X11_darkMany_4 t_all n_ (x1 + (0 : Int32)) (x2 + (1 : Int32))) else (L_X11_darkMany_4 t_all n_ (x1 + (1 : Int32)) (x2 + (1 : Int32)))))
def F_X11_darkMany (t_all : Nat → Int32) : Option (Int32) :=
  L_X11_darkMany_4 t_all fu_ (0 : Int32) (1 : Int32)
def L_X11_dark_9 (t_all : Nat → Int32) : Nat → Int32 → Int32 → Int32 → Int32 → Option (Int32 × Int32)
  | 0, _, _, _, _ => none
  | n_ + 1, t_raised, x1, x2, x3 =>
    if (t_all 11) < x3 then (some ((-1 : Int32), t_raised)) else ((F_X11_isDark t_all x3).bind fun r_2 => (if r_2 = (0 : Int32) then (L_X11_dark_9 t_all n_ t_raised x1 x2 (x3 + (1 : Int32))) else (if x2 = x1 then (some (x3, t_raised)) else (L_X11_dark_9 t_all n_ t_raised x1 (x2 + (1 : Int32)) (x3 + (1 : Int32))))))
def F_X11_dark (t_raised : Int32) (t_all : Nat → Int32) (x1 : Int32) : Option (Int32 × Int32) :=
  L_X11_dark_9 t_all fu_ (0 : Int32) x1 (0 : Int32) (1 : Int32)
def F_X11_doppler (t_raised : Int32) (t_all : Nat → Int32) (x1 : Int32) (x2 : Int32) : Option (Int32 × Int32) :=
  (F_X11_in x1 (-500 : Int32) (500 : Int32)).bind fun r_1 => (if r_1 = (0 : Int32) then (some ((-1 : Int32), (0 : Int32))) else ((F_X11_isGap t_all x2).bind fun r_4 => (if r_4 = (0 : Int32) then (some ((-1 : Int32), (0 : Int32))) else ((F_X11_gapAt t_all x2).bind fun r_7 => ((F_X11_rest (x1 * r_7) (t_all 6)).bind fun r_9 => (some (r_9, (0 : Int32))))))))
def L_X11_inOrder_2 (t_all : Nat → Int32) : Nat → (Nat → Int32) → Int32 → Option ((Nat → Int32))
  | 0, _, _ => none
  | n_ + 1, t_order, x1 =>
    if (t_all 0) ≤ x1 then (some t_order) else (gd_ (in_b x1 5) (L_X11_inOrder_2 t_all n_ (upd t_order (x1).toNatClampNeg x1) (x1 + (1 : Int32))))
def F_X11_inOrder (t_all : Nat → Int32) (t_order : Nat → Int32) : Option ((Nat → Int32)) :=
  L_X11_inOrder_2 t_all fu_ t_order (0 : Int32)
def L_X11_sends_15 (t_all : Nat → Int32) (t_order : Nat → Int32) : Nat → Int32 → (Nat → Int32) → Int32 → Int32 → Int32 → Option (Int32 × (Nat → Int32))
  | 0, _, _, _, _, _ => none
  | n_ + 1, t_x, t_sent, x2, x3, x4 =>
    if x2 ≤ x4 then (some (t_x, t_sent)) else (gd_ (decide (¬ (((2 : Int32) * x3) + (1 : Int32)) = 0)) (gd_ (in_b x4 65) (gd_ (decide (¬ (t_all 0) = 0)) (gd_ (in_b (x4 - x4 / (t_all 0) * (t_all 0)) 5) ((F_X11_gapAt t_all (t_order (x4 - x4 / (t_all 0) * (t_all 0)).toNatClampNeg)).bind fun r_6 => (gd_ (in_b (x4 + (1 : Int32)) 65) (L_X11_sends_15 t_all t_order n_ ((t_x * (1103515245 : Int32)) + (12345 : Int32)) (upd t_sent (x4 + (1 : Int32)).toNatClampNeg (((t_sent (x4).toNatClampNeg) + r_6) + ((((((t_x * (1103515245 : Int32)) + (12345 : Int32))).toUInt32 >>> (((16 : Int32)).toUInt32 &&& Int32.toUInt32 31)).toInt32 - ((((t_x * (1103515245 : Int32)) + (12345 : Int32))).toUInt32 >>> (((16 : Int32)).toUInt32 &&& Int32.toUInt32 31)).toInt32 / (((2 : Int32) * x3) + (1 : Int32)) * (((2 : Int32) * x3) + (1 : Int32))) - x3))) x2 x3 (x4 + (1 : Int32)))))))))
def F_X11_sends (t_x : Int32) (t_all : Nat → Int32) (t_sent : Nat → Int32) (t_order : Nat → Int32) (x1 : Int32) (x2 : Int32) (x3 : Int32) : Option (Int32 × (Nat → Int32)) :=
  L_X11_sends_15 t_all t_order fu_ x1 (upd t_sent 0 (0 : Int32)) x2 x3 (0 : Int32)
def F_X11_greater (x0 : Int32) (x1 : Int32) : Option (Int32) :=
  if x0 ≤ x1 then (some x1) else (some x0)
def L_X11_isHidden_2 (t_all : Nat → Int32) (t_sent : Nat → Int32) : Nat → Int32 → Int32 → Int32 → Option (Int32)
  | 0, _, _, _ => none
  | n_ + 1, x1, x2, x3 =>
    if x2 ≤ x3 then (some (0 : Int32)) else (gd_ (in_b x3 65) (if x1 = (t_sent (x3).toNatClampNeg) then (some (1 : Int32)) else (gd_ (in_b x3 65) (if x1 ≤ (t_sent (x3).toNatClampNeg) then (L_X11_isHidden_2 t_all t_sent n_ x1 x2 (x3 + (1 : Int32))) else (gd_ (in_b x3 65) (if (t_all 8) ≤ (x1 - (t_sent (x3).toNatClampNeg)) then (L_X11_isHidden_2 t_all t_sent n_ x1 x2 (x3 + (1 : Int32))) else (some (1 : Int32))))))))
def F_X11_isHidden (t_all : Nat → Int32) (t_sent : Nat → Int32) (x1 : Int32) (x2 : Int32) : Option (Int32) :=
  L_X11_isHidden_2 t_all t_sent fu_ x1 x2 (0 : Int32)
def J_X11_heard_94 (t_all : Nat → Int32) (t_sent : Nat → Int32) (k_5 : Int32 → Int32 → Int32 → Int32 → Option (Int32)) (k_14 : Int32 → Int32 → Int32 → Int32 → Int32 → Option (Int32)) (x1 : Int32) (x2 : Int32) (x3 : Int32) (x4 : Int32) (x5 : Int32) (s0 : Int32) : Option (Int32) :=
  if s0 = (0 : Int32) then (k_14 x1 x2 (x3 + (0 : Int32)) x4 (x5 + (1 : Int32))) else (k_14 x1 x2 (x3 + (1 : Int32)) x4 (x5 + (1 : Int32)))
def J_X11_heard_86 (t_all : Nat → Int32) (t_sent : Nat → Int32) (k_5 : Int32 → Int32 → Int32 → Int32 → Option (Int32)) (k_14 : Int32 → Int32 → Int32 → Int32 → Int32 → Option (Int32)) (x1 : Int32) (x2 : Int32) (x3 : Int32) (x4 : Int32) (x5 : Int32) (s0 : Int32) (s1 : Int32) : Option (Int32) :=
  if s0 = s1 then (J_X11_heard_94 t_all t_sent k_5 k_14 x1 x2 x3 x4 x5 (1 : Int32)) else (J_X11_heard_94 t_all t_sent k_5 k_14 x1 x2 x3 x4 x5 (0 : Int32))
def J_X11_heard_76 (t_all : Nat → Int32) (t_sent : Nat → Int32) (k_5 : Int32 → Int32 → Int32 → Int32 → Option (Int32)) (k_14 : Int32 → Int32 → Int32 → Int32 → Int32 → Option (Int32)) (x1 : Int32) (x2 : Int32) (x3 : Int32) (x4 : Int32) (x5 : Int32) (s0 : Int32) : Option (Int32) :=
  if x2 = (1 : Int32) then (J_X11_heard_86 t_all t_sent k_5 k_14 x1 x2 x3 x4 x5 s0 (1 : Int32)) else (J_X11_heard_86 t_all t_sent k_5 k_14 x1 x2 x3 x4 x5 s0 (0 : Int32))
def L_X11_heard_14 (t_all : Nat → Int32) (t_sent : Nat → Int32) (k_5 : Int32 → Int32 → Int32 → Int32 → Option (Int32)) : Nat → Int32 → Int32 → Int32 → Int32 → Int32 → Option (Int32)
  | 0, _, _, _, _, _ => none
  | n_ + 1, x1, x2, x3, x4, x5 =>
    if (t_all 13) ≤ x5 then (k_5 x1 x2 x3 (x4 + (1 : Int32))) else (gd_ (in_b x4 65) ((F_X11_rangeOf t_all x5).bind fun r_3 => (if x2 = (3 : Int32) then ((F_X11_isHidden t_all t_sent ((t_sent (x4).toNatClampNeg) + r_3) x1).bind fun r_8 => (J_X11_heard_94 t_all t_sent k_5 (L_X11_heard_14 t_all t_sent k_5 n_) x1 x2 x3 x4 x5 r_8)) else (gd_ (in_b (x4 + (1 : Int32)) 65) (if (t_sent (x4 + (1 : Int32)).toNatClampNeg) ≤ ((t_sent (x4).toNatClampNeg) + r_3) then (J_X11_heard_76 t_all t_sent k_5 (L_X11_heard_14 t_all t_sent k_5 n_) x1 x2 x3 x4 x5 (0 : Int32)) else (J_X11_heard_76 t_all t_sent k_5 (L_X11_heard_14 t_all t_sent k_5 n_) x1 x2 x3 x4 x5 (1 : Int32)))))))
def L_X11_heard_5 (t_all : Nat → Int32) (t_sent : Nat → Int32) : Nat → Int32 → Int32 → Int32 → Int32 → Option (Int32)
  | 0, _, _, _, _ => none
  | n_ + 1, x1, x2, x3, x4 =>
    if x1 ≤ x4 then (some x3) else (L_X11_heard_14 t_all t_sent (L_X11_heard_5 t_all t_sent n_) fu_ x1 x2 x3 x4 (0 : Int32))
def F_X11_heard (t_all : Nat → Int32) (t_sent : Nat → Int32) (x1 : Int32) (x2 : Int32) : Option (Int32) :=
  L_X11_heard_5 t_all t_sent fu_ x1 x2 (0 : Int32) (0 : Int32)
def J_X11_dwell_112 (t_all : Nat → Int32) (t_raised : Int32) (t_x : Int32) (t_sent : Nat → Int32) (t_order : Nat → Int32) (x2 : Int32) (x4 : Int32) (x5 : Int32) : Option (Int32 × Int32 × Int32 × (Nat → Int32) × (Nat → Int32)) :=
  if x4 = (4 : Int32) then (some (x5, t_raised, t_x, t_sent, t_order)) else ((F_X11_heard t_all t_sent x2 x4).bind fun r_2 => (some (r_2, t_raised, t_x, t_sent, t_order)))
def L_X11_dwell_76 (t_all : Nat → Int32) : Nat → Int32 → Int32 → (Nat → Int32) → (Nat → Int32) → Int32 → Int32 → Int32 → Int32 → Option (Int32 × Int32 × Int32 × (Nat → Int32) × (Nat → Int32))
  | 0, _, _, _, _, _, _, _, _ => none
  | n_ + 1, t_raised, t_x, t_sent, t_order, x2, x4, x5, x6 =>
    if x2 ≤ x6 then (J_X11_dwell_112 t_all t_raised t_x t_sent t_order x2 x4 x5) else (gd_ (in_b x6 65) (gd_ (in_b (x6 - (1 : Int32)) 65) ((F_X11_greater x5 ((t_sent (x6).toNatClampNeg) - (t_sent (x6 - (1 : Int32)).toNatClampNeg))).bind fun r_4 => (L_X11_dwell_76 t_all n_ t_raised t_x t_sent t_order x2 x4 r_4 (x6 + (1 : Int32))))))
def F_X11_dwell (t_raised : Int32) (t_x : Int32) (t_all : Nat → Int32) (t_sent : Nat → Int32) (t_order : Nat → Int32) (x1 : Int32) (x2 : Int32) (x3 : Int32) (x4 : Int32) : Option (Int32 × Int32 × Int32 × (Nat → Int32) × (Nat → Int32)) :=
  (F_X11_in x2 (1 : Int32) (64 : Int32)).bind fun r_1 => (if r_1 = (0 : Int32) then (some ((-1 : Int32), (0 : Int32), t_x, t_sent, t_order)) else ((F_X11_in x3 (0 : Int32) (3 : Int32)).bind fun r_4 => (if r_4 = (0 : Int32) then (some ((-1 : Int32), (0 : Int32), t_x, t_sent, t_order)) else ((F_X11_in x4 (0 : Int32) (4 : Int32)).bind fun r_7 => (if r_7 = (0 : Int32) then (some ((-1 : Int32), (0 : Int32), t_x, t_sent, t_order)) else (if (t_all 0) = (0 : Int32) then (some ((-1 : Int32), (0 : Int32), t_x, t_sent, t_order)) else ((F_X11_inOrder t_all t_order).bind fun r_11 => ((F_X11_sends t_x t_all t_sent r_11 x1 x2 x3).bind fun r_13 => (if x4 = (0 : Int32) then (gd_ (in_b (x2 - (1 : Int32)) 65) (some ((r_13.2 (x2 - (1 : Int32)).toNatClampNeg), (0 : Int32), r_13.1, r_13.2, r_11))) else (L_X11_dwell_76 t_all fu_ (0 : Int32) r_13.1 r_13.2 r_11 x2 x4 (0 : Int32) (1 : Int32)))))))))))
def J_X11_found_48 (t_all : Nat → Int32) (k_14 : Int32 → (Nat → Int32) → Int32 → Int32 → Int32 → Int32 → Option (Int32 × Int32 × (Nat → Int32))) (t_raised : Int32) (t_loud : Nat → Int32) (x1 : Int32) (x2 : Int32) (x3 : Int32) (x4 : Int32) : Option (Int32 × Int32 × (Nat → Int32)) :=
  if x3 = x1 then (some (x4, t_raised, t_loud)) else (k_14 t_raised t_loud x1 x2 (x3 + (1 : Int32)) (x4 + (1 : Int32)))
def L_X11_found_14 (t_all : Nat → Int32) : Nat → Int32 → (Nat → Int32) → Int32 → Int32 → Int32 → Int32 → Option (Int32 × Int32 × (Nat → Int32))
  | 0, _, _, _, _, _, _ => none
  | n_ + 1, t_raised, t_loud, x1, x2, x3, x4 =>
    if (t_all 9) ≤ x4 then (some ((-1 : Int32), t_raised, t_loud)) else ((F_X11_isFound t_all t_loud x4).bind fun r_2 => (if r_2 = (0 : Int32) then (L_X11_found_14 t_all n_ t_raised t_loud x1 x2 x3 (x4 + (1 : Int32))) else (if x2 = (0 : Int32) then (J_X11_found_48 t_all (L_X11_found_14 t_all n_) t_raised t_loud x1 x2 x3 x4) else ((F_X11_isRange t_all x4).bind fun r_6 => (if r_6 = (0 : Int32) then (J_X11_found_48 t_all (L_X11_found_14 t_all n_) t_raised t_loud x1 x2 x3 x4) else (L_X11_found_14 t_all n_ t_raised t_loud x1 x2 x3 (x4 + (1 : Int32))))))))
def F_X11_found (t_raised : Int32) (t_all : Nat → Int32) (t_loud : Nat → Int32) (x1 : Int32) (x2 : Int32) : Option (Int32 × Int32 × (Nat → Int32)) :=
  (F_X11_laysLoud t_all t_loud).bind fun r_1 => (L_X11_found_14 t_all fu_ (0 : Int32) r_1 x1 x2 (0 : Int32) (0 : Int32))
def L_X11_hasGap_2 (p0 : Nat → Int32) (n_p0 : Nat) : Nat → Int32 → Int32 → Option (Int32)
  | 0, _, _ => none
  | n_ + 1, x1, x2 =>
    gd_ (in_b (0 : Int32) n_p0) (if (p0 (0 : Int32).toNatClampNeg) ≤ x2 then (some (0 : Int32)) else (gd_ (in_b ((1 : Int32) + x2) n_p0) (if (p0 ((1 : Int32) + x2).toNatClampNeg) = x1 then (some (1 : Int32)) else (L_X11_hasGap_2 p0 n_p0 n_ x1 (x2 + (1 : Int32))))))
def F_X11_hasGap (p0 : Nat → Int32) (n_p0 : Nat) (x1 : Int32) : Option (Int32) :=
  L_X11_hasGap_2 p0 n_p0 fu_ x1 (0 : Int32)
def J_X11_putsGap_37 (n_p0 : Nat) (p0 : Nat → Int32) (x1 : Int32) (x2 : Int32) : Option ((Nat → Int32)) :=
  gd_ (in_b ((1 : Int32) + x2) n_p0) (gd_ (in_b (0 : Int32) n_p0) (gd_ (in_b (0 : Int32) n_p0) (some (upd (upd p0 ((1 : Int32) + x2).toNatClampNeg x1) (0 : Int32).toNatClampNeg (((upd p0 ((1 : Int32) + x2).toNatClampNeg x1) (0 : Int32).toNatClampNeg) + (1 : Int32))))))
def L_X11_putsGap_4 (n_p0 : Nat) : Nat → (Nat → Int32) → Int32 → Int32 → Option ((Nat → Int32))
  | 0, _, _, _ => none
  | n_ + 1, p0, x1, x2 =>
    if x2 ≤ (0 : Int32) then (J_X11_putsGap_37 n_p0 p0 x1 x2) else (gd_ (in_b (((1 : Int32) + x2) - (1 : Int32)) n_p0) (if (p0 (((1 : Int32) + x2) - (1 : Int32)).toNatClampNeg) ≤ x1 then (J_X11_putsGap_37 n_p0 p0 x1 x2) else (gd_ (in_b (((1 : Int32) + x2) - (1 : Int32)) n_p0) (gd_ (in_b ((1 : Int32) + x2) n_p0) (L_X11_putsGap_4 n_p0 n_ (upd p0 ((1 : Int32) + x2).toNatClampNeg (p0 (((1 : Int32) + x2) - (1 : Int32)).toNatClampNeg)) x1 (x2 + (-1 : Int32)))))))
def F_X11_putsGap (p0 : Nat → Int32) (n_p0 : Nat) (x1 : Int32) : Option ((Nat → Int32)) :=
  gd_ (in_b (0 : Int32) n_p0) (L_X11_putsGap_4 n_p0 fu_ p0 x1 (p0 (0 : Int32).toNatClampNeg))
def L_X11_seenBits_4 (t_all : Nat → Int32) : Nat → Int32 → Int32 → Int32 → Option (Int32)
  | 0, _, _, _ => none
  | n_ + 1, x1, x2, x3 =>
    if (t_all 13) ≤ x3 then (some x2) else ((F_X11_isSeen t_all x3 x1).bind fun r_2 => (if r_2 = (0 : Int32) then (L_X11_seenBits_4 t_all n_ x1 (x2 ||| (0 : Int32)) (x3 + (1 : Int32))) else (L_X11_seenBits_4 t_all n_ x1 (x2 ||| ((1 : Int32) <<< (x3 &&& 31))) (x3 + (1 : Int32)))))
def F_X11_seenBits (t_all : Nat → Int32) (x1 : Int32) : Option (Int32) :=
  L_X11_seenBits_4 t_all fu_ x1 (0 : Int32) (0 : Int32)
def J_X11_gapOf_23 (t_all : Nat → Int32) (t_raised : Int32) (t_loud : Nat → Int32) (x1 : Int32) (x2 : Int32) (s1 : Int32) : Option (Int32 × Int32 × (Nat → Int32)) :=
  if s1 ≤ (0 : Int32) then ((F_X11_laysLoud t_all t_loud).bind fun r_2 => (if x2 = (0 : Int32) then ((F_X11_gapAt t_all x1).bind fun r_15 => (some (r_15, s1, r_2))) else (if x2 = (1 : Int32) then ((F_X11_echoesOf t_all r_2 x1).bind fun r_13 => (some (r_13, s1, r_2))) else (if x2 = (2 : Int32) then ((F_X11_seenBits t_all x1).bind fun r_11 => (some (r_11, s1, r_2))) else ((F_X11_gapAt t_all x1).bind fun r_7 => ((F_X11_blindMany t_all r_7).bind fun r_9 => (some (r_9, s1, r_2)))))))) else (some ((0 : Int32), s1, t_loud))
def J_X11_gapOf_22 (t_all : Nat → Int32) (t_raised : Int32) (t_loud : Nat → Int32) (x1 : Int32) (x2 : Int32) : Option (Int32 × Int32 × (Nat → Int32)) :=
  J_X11_gapOf_23 t_all t_raised t_loud x1 x2 (1 : Int32)
def F_X11_gapOf (t_raised : Int32) (t_all : Nat → Int32) (t_loud : Nat → Int32) (x1 : Int32) (x2 : Int32) : Option (Int32 × Int32 × (Nat → Int32)) :=
  (F_X11_isGap t_all x1).bind fun r_1 => (if r_1 = (0 : Int32) then (J_X11_gapOf_22 t_all t_raised t_loud x1 x2) else ((F_X11_in x2 (0 : Int32) (3 : Int32)).bind fun r_4 => (if r_4 = (0 : Int32) then (J_X11_gapOf_22 t_all t_raised t_loud x1 x2) else (J_X11_gapOf_23 t_all t_raised t_loud x1 x2 (0 : Int32)))))
def J_X11_goes_45 (t_all : Nat → Int32) : Option ((Nat → Int32)) :=
  some (upd t_all 13 ((t_all 13) - (1 : Int32)))
def L_X11_goes_7  : Nat → (Nat → Int32) → Int32 → Option ((Nat → Int32))
  | 0, _, _ => none
  | n_ + 1, t_all, x2 =>
    if (((14 : Int32) + ((3 : Int32) * (t_all 13))) - (3 : Int32)) ≤ x2 then (J_X11_goes_45 t_all) else (gd_ (in_b (x2 + (3 : Int32)) 500) (gd_ (in_b x2 500) (L_X11_goes_7 n_ (upd t_all (x2).toNatClampNeg (t_all (x2 + (3 : Int32)).toNatClampNeg)) (x2 + (1 : Int32)))))
def F_X11_goes (t_all : Nat → Int32) (x1 : Int32) : Option ((Nat → Int32)) :=
  L_X11_goes_7 fu_ t_all ((14 : Int32) + ((3 : Int32) * x1))
def F_X11_lookAt (t_all : Nat → Int32) (x1 : Int32) (x2 : Int32) : Option (Int32) :=
  gd_ (in_b (((41 : Int32) + ((14 : Int32) * x1)) + x2) 500) (some (t_all (((41 : Int32) + ((14 : Int32) * x1)) + x2).toNatClampNeg))
def L_X11_goesOn_10 (t_all : Nat → Int32) : Nat → (Nat → Int32) → Int32 → Option (Int32 × (Nat → Int32))
  | 0, _, _ => none
  | n_ + 1, t_which, x1 =>
    if x1 < (0 : Int32) then (some ((0 : Int32), t_which)) else (gd_ (in_b x1 4) (gd_ (in_b x1 4) (gd_ (in_b x1 4) ((F_X11_lookAt t_all x1 (1 : Int32)).bind fun r_5 => (if r_5 ≤ ((upd t_which (x1).toNatClampNeg ((t_which (x1).toNatClampNeg) + (1 : Int32))) (x1).toNatClampNeg) then (gd_ (in_b x1 4) (L_X11_goesOn_10 t_all n_ (upd (upd t_which (x1).toNatClampNeg ((t_which (x1).toNatClampNeg) + (1 : Int32))) (x1).toNatClampNeg (0 : Int32)) (x1 + (-1 : Int32)))) else (some ((1 : Int32), (upd t_which (x1).toNatClampNeg ((t_which (x1).toNatClampNeg) + (1 : Int32))))))))))
def F_X11_goesOn (t_all : Nat → Int32) (t_which : Nat → Int32) : Option (Int32 × (Nat → Int32)) :=
  L_X11_goesOn_10 t_all fu_ t_which ((t_all 40) - (1 : Int32))
def L_X11_moves_12  : Nat → (Nat → Int32) → Int32 → Int32 → Int32 → Option (Int32 × (Nat → Int32))
  | 0, _, _, _, _ => none
  | n_ + 1, t_all, x1, x2, x3 =>
    if x3 < (0 : Int32) then (some (x2, t_all)) else (gd_ (in_b (((14 : Int32) + ((3 : Int32) * x3)) + (0 : Int32)) 500) ((F_X11_of t_all x3 (1 : Int32)).bind fun r_3 => (gd_ (in_b (((14 : Int32) + ((3 : Int32) * x3)) + (0 : Int32)) 500) ((F_X11_of (upd t_all (((14 : Int32) + ((3 : Int32) * x3)) + (0 : Int32)).toNatClampNeg ((t_all (((14 : Int32) + ((3 : Int32) * x3)) + (0 : Int32)).toNatClampNeg) + (x1 * r_3))) x3 (0 : Int32)).bind fun r_6 => ((F_X11_in r_6 (0 : Int32) (47999 : Int32)).bind fun r_8 => (if r_8 = (0 : Int32) then ((F_X11_goes (upd t_all (((14 : Int32) + ((3 : Int32) * x3)) + (0 : Int32)).toNatClampNeg ((t_all (((14 : Int32) + ((3 : Int32) * x3)) + (0 : Int32)).toNatClampNeg) + (x1 * r_3))) x3).bind fun r_11 => (L_X11_moves_12 n_ r_11 x1 (x2 + (1 : Int32)) (x3 + (-1 : Int32)))) else (L_X11_moves_12 n_ (upd t_all (((14 : Int32) + ((3 : Int32) * x3)) + (0 : Int32)).toNatClampNeg ((t_all (((14 : Int32) + ((3 : Int32) * x3)) + (0 : Int32)).toNatClampNeg) + (x1 * r_3))) x1 x2 (x3 + (-1 : Int32)))))))))
def F_X11_moves (t_all : Nat → Int32) (x1 : Int32) : Option (Int32 × (Nat → Int32)) :=
  L_X11_moves_12 fu_ t_all x1 (0 : Int32) ((t_all 13) - (1 : Int32))
def J_X11_goesOnBy_51 (t_all : Nat → Int32) (x1 : Int32) (x2 : Int32) (x3 : Int32) : Option (Int32 × (Nat → Int32)) :=
  (F_X11_of t_all x1 (0 : Int32)).bind fun r_1 => ((F_X11_of t_all x1 (1 : Int32)).bind fun r_3 => ((F_X11_in (r_1 + (x2 * r_3)) (0 : Int32) (47999 : Int32)).bind fun r_5 => ((F_X11_moves t_all x2).bind fun r_7 => (if r_5 = (0 : Int32) then (some ((-1 : Int32), r_7.2)) else (some (x3, r_7.2))))))
def L_X11_goesOnBy_5  : Nat → (Nat → Int32) → Int32 → Int32 → Int32 → Int32 → Option (Int32 × (Nat → Int32))
  | 0, _, _, _, _, _ => none
  | n_ + 1, t_all, x1, x2, x3, x4 =>
    if x1 ≤ x4 then (J_X11_goesOnBy_51 t_all x1 x2 x3) else ((F_X11_of t_all x4 (0 : Int32)).bind fun r_2 => ((F_X11_of t_all x4 (1 : Int32)).bind fun r_4 => ((F_X11_in (r_2 + (x2 * r_4)) (0 : Int32) (47999 : Int32)).bind fun r_6 => (if r_6 = (0 : Int32) then (L_X11_goesOnBy_5 n_ t_all x1 x2 (x3 - (1 : Int32)) (x4 + (1 : Int32))) else (L_X11_goesOnBy_5 n_ t_all x1 x2 (x3 - (0 : Int32)) (x4 + (1 : Int32)))))))
def F_X11_goesOnBy (t_all : Nat → Int32) (x1 : Int32) (x2 : Int32) : Option (Int32 × (Nat → Int32)) :=
  L_X11_goesOnBy_5 fu_ t_all x1 x2 x1 (0 : Int32)
def F_X11_hits (t_raised : Int32) (t_all : Nat → Int32) (t_loud : Nat → Int32) (x1 : Int32) : Option (Int32 × Int32 × (Nat → Int32)) :=
  (F_X11_in x1 (0 : Int32) (9999 : Int32)).bind fun r_1 => (if r_1 = (0 : Int32) then (some ((-1 : Int32), (0 : Int32), t_loud)) else ((F_X11_laysLoud t_all t_loud).bind fun r_4 => ((F_X11_hitBits t_all r_4 x1).bind fun r_6 => (some (r_6, (0 : Int32), r_4)))))
def F_X11_isTarget (t_all : Nat → Int32) (x1 : Int32) : Option (Int32) :=
  (F_X11_in x1 (0 : Int32) ((t_all 13) - (1 : Int32))).bind fun r_1 => (gd_ (decide (r_1 &&& 1 = r_1)) (some r_1))
def F_X11_numberAt (t_all : Nat → Int32) (t_which : Nat → Int32) (x1 : Int32) : Option (Int32) :=
  gd_ (in_b x1 4) ((F_X11_lookAt t_all x1 ((2 : Int32) + (t_which (x1).toNatClampNeg))).bind fun r_2 => (some r_2))
def J_X11_isTrack_99 (t_all : Nat → Int32) (t_which : Nat → Int32) (k_42 : Int32 → Int64 → Int64 → Int32 → Option (Int32)) (x1 : Int32) (x2 : Int64) (x4 : Int64) (x6 : Int32) (s0 : Int64) : Option (Int32) :=
  if (lg_cmp s0 x2) ≤ (0 : Int32) then (k_42 x1 x2 x4 (x6 + (1 : Int32))) else (some (0 : Int32))
def L_X11_isTrack_42 (t_all : Nat → Int32) (t_which : Nat → Int32) : Nat → Int32 → Int64 → Int64 → Int32 → Option (Int32)
  | 0, _, _, _, _ => none
  | n_ + 1, x1, x2, x4, x6 =>
    if x1 < x6 then (some (1 : Int32)) else ((F_X11_numberAt t_all t_which x6).bind fun r_2 => ((F_X11_numberAt t_all t_which (0 : Int32)).bind fun r_4 => ((F_X11_lookAt t_all x6 (0 : Int32)).bind fun r_6 => ((F_X11_lookAt t_all (0 : Int32) (0 : Int32)).bind fun r_8 => (if (0 : Int32) ≤ (lg_cmp ((((r_2 - r_4)).toInt64 * x2) - (x4 * ((r_6 - r_8)).toInt64)) (0 : Int64)) then (J_X11_isTrack_99 t_all t_which (L_X11_isTrack_42 t_all t_which n_) x1 x2 x4 x6 ((((r_2 - r_4)).toInt64 * x2) - (x4 * ((r_6 - r_8)).toInt64))) else (J_X11_isTrack_99 t_all t_which (L_X11_isTrack_42 t_all t_which n_) x1 x2 x4 x6 (-((((r_2 - r_4)).toInt64 * x2) - (x4 * ((r_6 - r_8)).toInt64)))))))))
def F_X11_isTrack (t_all : Nat → Int32) (t_which : Nat → Int32) : Option (Int32) :=
  (F_X11_lookAt t_all ((t_all 40) - (1 : Int32)) (0 : Int32)).bind fun r_1 => ((F_X11_lookAt t_all (0 : Int32) (0 : Int32)).bind fun r_3 => ((F_X11_numberAt t_all t_which ((t_all 40) - (1 : Int32))).bind fun r_5 => ((F_X11_numberAt t_all t_which (0 : Int32)).bind fun r_7 => (L_X11_isTrack_42 t_all t_which fu_ ((t_all 40) - (1 : Int32)) (((r_1 - r_3)).toInt64) (((r_5 - r_7)).toInt64) (0 : Int32)))))
def J_X11_joined_124 (t_all : Nat → Int32) (k_51 : Int32 → (Nat → Int32) → Int64 → Int64 → Int32 → Option (Int32 × Int32 × (Nat → Int32))) (t_raised : Int32) (t_places : Nat → Int32) (x6 : Int64) (x8 : Int64) (x10 : Int32) : Option (Int32 × Int32 × (Nat → Int32)) :=
  (F_X11_gapAt t_all x10).bind fun r_1 => (gd_ (decide (¬ (r_1).toInt64 = 0)) (gd_ (in_b x10 5) (if (lg_cmp (x6 - x6 / (r_1).toInt64 * (r_1).toInt64) (((t_places (x10).toNatClampNeg)).toInt64)) = (0 : Int32) then ((F_X11_gapAt t_all x10).bind fun r_6 => ((F_X11_measure x8 ((r_6).toInt64)).bind fun r_8 => (gd_ (decide (¬ r_8 = 0)) ((F_X11_gapAt t_all x10).bind fun r_11 => (gd_ (decide (¬ ((x8 / r_8) * (r_11).toInt64) = 0)) (k_51 t_raised t_places (x6 - x6 / ((x8 / r_8) * (r_11).toInt64) * ((x8 / r_8) * (r_11).toInt64)) ((x8 / r_8) * (r_11).toInt64) (x10 + (1 : Int32)))))))) else (some ((-1 : Int32), t_raised, t_places)))))
def L_X11_joined_78 (t_all : Nat → Int32) (k_51 : Int32 → (Nat → Int32) → Int64 → Int64 → Int32 → Option (Int32 × Int32 × (Nat → Int32))) : Nat → Int32 → (Nat → Int32) → Int64 → Int64 → Int32 → Int32 → Option (Int32 × Int32 × (Nat → Int32))
  | 0, _, _, _, _, _, _ => none
  | n_ + 1, t_raised, t_places, x6, x8, x10, x11 =>
    (F_X11_gapAt t_all x10).bind fun r_1 => (if r_1 ≤ x11 then (J_X11_joined_124 t_all k_51 t_raised t_places x6 x8 x10) else ((F_X11_gapAt t_all x10).bind fun r_4 => (gd_ (decide (¬ (r_4).toInt64 = 0)) (gd_ (in_b x10 5) (if (lg_cmp (x6 - x6 / (r_4).toInt64 * (r_4).toInt64) (((t_places (x10).toNatClampNeg)).toInt64)) = (0 : Int32) then (J_X11_joined_124 t_all k_51 t_raised t_places x6 x8 x10) else (L_X11_joined_78 t_all k_51 n_ t_raised t_places (x6 + x8) x8 x10 (x11 + (1 : Int32))))))))
def L_X11_joined_51 (t_all : Nat → Int32) : Nat → Int32 → (Nat → Int32) → Int64 → Int64 → Int32 → Option (Int32 × Int32 × (Nat → Int32))
  | 0, _, _, _, _, _ => none
  | n_ + 1, t_raised, t_places, x6, x8, x10 =>
    if (t_all 0) ≤ x10 then (some ((x6).toInt32, t_raised, t_places)) else (gd_ (in_b x10 5) (if (0 : Int32) ≤ (t_places (x10).toNatClampNeg) then (L_X11_joined_78 t_all (L_X11_joined_51 t_all n_) fu_ t_raised t_places x6 x8 x10 (0 : Int32)) else (L_X11_joined_51 t_all n_ t_raised t_places x6 x8 (x10 + (1 : Int32)))))
def F_X11_joined (t_raised : Int32) (t_all : Nat → Int32) (t_places : Nat → Int32) (x1 : Int32) (x2 : Int32) (x3 : Int32) (x4 : Int32) (x5 : Int32) : Option (Int32 × Int32 × (Nat → Int32)) :=
  L_X11_joined_51 t_all fu_ (0 : Int32) (upd (upd (upd (upd (upd t_places 0 x1) 1 x2) 2 x3) 3 x4) 4 x5) (0 : Int64) (1 : Int64) (0 : Int32)
def L_X11_makers_48 (t_all : Nat → Int32) (k_26 : Int32 → (Nat → Int32) → Int32 → Int32 → Int32 → Option (Int32 × Int32 × (Nat → Int32))) : Nat → Int32 → (Nat → Int32) → Int32 → Int32 → Int32 → Int32 → Int32 → Option (Int32 × Int32 × (Nat → Int32))
  | 0, _, _, _, _, _, _, _ => none
  | n_ + 1, t_raised, t_loud, x1, x2, x3, x4, x5 =>
    if (t_all 13) ≤ x5 then (k_26 t_raised t_loud x1 x2 (x3 + (1 : Int32))) else ((F_X11_isEcho t_all t_loud x3 x4).bind fun r_2 => (if r_2 = (0 : Int32) then (k_26 t_raised t_loud x1 x2 (x3 + (1 : Int32))) else ((F_X11_isSeen t_all x5 x3).bind fun r_5 => (if r_5 = (0 : Int32) then (L_X11_makers_48 t_all k_26 n_ t_raised t_loud x1 (x2 ||| (0 : Int32)) x3 x4 (x5 + (1 : Int32))) else ((F_X11_rangeOf t_all x5).bind fun r_8 => ((F_X11_gapAt t_all x3).bind fun r_10 => (gd_ (decide (¬ r_10 = 0)) (if (r_8 - r_8 / r_10 * r_10) = x4 then (L_X11_makers_48 t_all k_26 n_ t_raised t_loud x1 (x2 ||| ((1 : Int32) <<< (x5 &&& 31))) x3 x4 (x5 + (1 : Int32))) else (L_X11_makers_48 t_all k_26 n_ t_raised t_loud x1 (x2 ||| (0 : Int32)) x3 x4 (x5 + (1 : Int32)))))))))))
def L_X11_makers_26 (t_all : Nat → Int32) : Nat → Int32 → (Nat → Int32) → Int32 → Int32 → Int32 → Option (Int32 × Int32 × (Nat → Int32))
  | 0, _, _, _, _, _ => none
  | n_ + 1, t_raised, t_loud, x1, x2, x3 =>
    if (t_all 0) ≤ x3 then (some (x2, t_raised, t_loud)) else ((F_X11_gapAt t_all x3).bind fun r_2 => (gd_ (decide (¬ r_2 = 0)) (L_X11_makers_48 t_all (L_X11_makers_26 t_all n_) fu_ t_raised t_loud x1 x2 x3 (x1 - x1 / r_2 * r_2) (0 : Int32))))
def F_X11_makers (t_raised : Int32) (t_all : Nat → Int32) (t_loud : Nat → Int32) (x1 : Int32) : Option (Int32 × Int32 × (Nat → Int32)) :=
  (F_X11_in x1 (0 : Int32) (9999 : Int32)).bind fun r_1 => (if r_1 = (0 : Int32) then (some ((-1 : Int32), (0 : Int32), t_loud)) else ((F_X11_laysLoud t_all t_loud).bind fun r_4 => (L_X11_makers_26 t_all fu_ (0 : Int32) r_4 x1 (0 : Int32) (0 : Int32))))
def J_X11_more_100 (k_30 : Int32 → (Nat → Int32) → (Nat → Int32) → Int32 → Int32 → Int32 → Int32 → Option (Int32 × Int32 × (Nat → Int32) × (Nat → Int32))) (t_raised : Int32) (t_all : Nat → Int32) (t_loud : Nat → Int32) (x1 : Int32) (x2 : Int32) (x3 : Int32) (x4 : Int32) : Option (Int32 × Int32 × (Nat → Int32) × (Nat → Int32)) :=
  (F_X11_copies t_all (4 : Int32) (0 : Int32)).bind fun r_1 => (k_30 t_raised r_1 t_loud x1 x2 x3 (x4 + (1 : Int32)))
def J_X11_more_94 (k_30 : Int32 → (Nat → Int32) → (Nat → Int32) → Int32 → Int32 → Int32 → Int32 → Option (Int32 × Int32 × (Nat → Int32) × (Nat → Int32))) (t_raised : Int32) (t_all : Nat → Int32) (t_loud : Nat → Int32) (x1 : Int32) (x4 : Int32) (x5 : Int32) : Option (Int32 × Int32 × (Nat → Int32) × (Nat → Int32)) :=
  J_X11_more_100 k_30 t_raised t_all t_loud x1 x4 x5 x4
def J_X11_more_81 (k_30 : Int32 → (Nat → Int32) → (Nat → Int32) → Int32 → Int32 → Int32 → Int32 → Option (Int32 × Int32 × (Nat → Int32) × (Nat → Int32))) (t_raised : Int32) (t_all : Nat → Int32) (t_loud : Nat → Int32) (x1 : Int32) (x2 : Int32) (x3 : Int32) (x4 : Int32) (s0 : Int32) : Option (Int32 × Int32 × (Nat → Int32) × (Nat → Int32)) :=
  if x2 = (-1 : Int32) then (J_X11_more_94 k_30 t_raised t_all t_loud x1 x4 s0) else (if x3 ≤ s0 then (J_X11_more_100 k_30 t_raised t_all t_loud x1 x2 x3 x4) else (J_X11_more_94 k_30 t_raised t_all t_loud x1 x4 s0))
def L_X11_more_30  : Nat → Int32 → (Nat → Int32) → (Nat → Int32) → Int32 → Int32 → Int32 → Int32 → Option (Int32 × Int32 × (Nat → Int32) × (Nat → Int32))
  | 0, _, _, _, _, _, _, _ => none
  | n_ + 1, t_raised, t_all, t_loud, x1, x2, x3, x4 =>
    if (60 : Int32) < x4 then (some (x2, t_raised, t_all, t_loud)) else ((F_X11_hasGap t_all 500 x4).bind fun r_2 => (if r_2 = (0 : Int32) then ((F_X11_putsGap t_all 500 x4).bind fun r_5 => ((F_X11_laysLoud r_5 t_loud).bind fun r_7 => (if x1 = (0 : Int32) then ((F_X11_darkMany r_5).bind fun r_10 => (J_X11_more_81 (L_X11_more_30 n_) t_raised r_5 r_7 x1 x2 x3 x4 r_10)) else ((F_X11_foundMany r_5 r_7 (1 : Int32)).bind fun r_12 => (J_X11_more_81 (L_X11_more_30 n_) t_raised r_5 r_7 x1 x2 x3 x4 r_12))))) else (L_X11_more_30 n_ t_raised t_all t_loud x1 x2 x3 (x4 + (1 : Int32)))))
def F_X11_more (t_raised : Int32) (t_all : Nat → Int32) (t_loud : Nat → Int32) (x1 : Int32) : Option (Int32 × Int32 × (Nat → Int32) × (Nat → Int32)) :=
  if (t_all 0) = (5 : Int32) then (some ((-1 : Int32), (0 : Int32), t_all, t_loud)) else ((F_X11_copies t_all (0 : Int32) (4 : Int32)).bind fun r_2 => (L_X11_more_30 fu_ (0 : Int32) r_2 t_loud x1 (-1 : Int32) (0 : Int32) (4 : Int32)))
def L_X11_nextOrder_103 (t_all : Nat → Int32) : Nat → (Nat → Int32) → Int32 → Int32 → Option (Int32 × (Nat → Int32))
  | 0, _, _, _ => none
  | n_ + 1, t_order, x1, x4 =>
    if (((t_all 0) - x4) + x1) ≤ x4 then (some ((1 : Int32), t_order)) else (gd_ (in_b x4 5) (gd_ (in_b (((t_all 0) - x4) + x1) 5) (gd_ (in_b x4 5) (gd_ (in_b (((t_all 0) - x4) + x1) 5) (L_X11_nextOrder_103 t_all n_ (upd (upd t_order (x4).toNatClampNeg (t_order (((t_all 0) - x4) + x1).toNatClampNeg)) (((t_all 0) - x4) + x1).toNatClampNeg (t_order (x4).toNatClampNeg)) x1 (x4 + (1 : Int32)))))))
def J_X11_nextOrder_72 (t_all : Nat → Int32) (t_order : Nat → Int32) (x1 : Int32) (x2 : Int32) : Option (Int32 × (Nat → Int32)) :=
  gd_ (in_b x1 5) (gd_ (in_b x2 5) (gd_ (in_b x1 5) (gd_ (in_b x2 5) (L_X11_nextOrder_103 t_all fu_ (upd (upd t_order (x1).toNatClampNeg (t_order (x2).toNatClampNeg)) (x2).toNatClampNeg (t_order (x1).toNatClampNeg)) x1 (x1 + (1 : Int32))))))
def L_X11_nextOrder_51 (t_all : Nat → Int32) : Nat → (Nat → Int32) → Int32 → Int32 → Option (Int32 × (Nat → Int32))
  | 0, _, _, _ => none
  | n_ + 1, t_order, x1, x2 =>
    gd_ (in_b x2 5) (gd_ (in_b x1 5) (if (t_order (x1).toNatClampNeg) ≤ (t_order (x2).toNatClampNeg) then (J_X11_nextOrder_72 t_all t_order x1 x2) else (L_X11_nextOrder_51 t_all n_ t_order x1 (x2 + (-1 : Int32)))))
def J_X11_nextOrder_36 (t_all : Nat → Int32) (t_order : Nat → Int32) (x1 : Int32) : Option (Int32 × (Nat → Int32)) :=
  if (0 : Int32) ≤ x1 then (L_X11_nextOrder_51 t_all fu_ t_order x1 ((t_all 0) - (1 : Int32))) else (some ((0 : Int32), t_order))
def L_X11_nextOrder_9 (t_all : Nat → Int32) : Nat → (Nat → Int32) → Int32 → Option (Int32 × (Nat → Int32))
  | 0, _, _ => none
  | n_ + 1, t_order, x1 =>
    if x1 < (0 : Int32) then (J_X11_nextOrder_36 t_all t_order x1) else (gd_ (in_b x1 5) (gd_ (in_b (x1 + (1 : Int32)) 5) (if (t_order (x1).toNatClampNeg) ≤ (t_order (x1 + (1 : Int32)).toNatClampNeg) then (J_X11_nextOrder_36 t_all t_order x1) else (L_X11_nextOrder_9 t_all n_ t_order (x1 + (-1 : Int32))))))
def F_X11_nextOrder (t_all : Nat → Int32) (t_order : Nat → Int32) : Option (Int32 × (Nat → Int32)) :=
  L_X11_nextOrder_9 t_all fu_ t_order ((t_all 0) - (2 : Int32))
def J_X11_order_135 (t_all : Nat → Int32) (t_raised : Int32) (t_x : Int32) (t_sent : Nat → Int32) (t_order : Nat → Int32) (t_bestOrder : Nat → Int32) (x2 : Int32) (x3 : Int32) : Option (Int32 × Int32 × Int32 × (Nat → Int32) × (Nat → Int32) × (Nat → Int32)) :=
  if x2 = (0 : Int32) then (some (x3, t_raised, t_x, t_sent, t_order, t_bestOrder)) else (gd_ (in_b (x2 - (10 : Int32)) 5) ((F_X11_gapAt t_all (t_bestOrder (x2 - (10 : Int32)).toNatClampNeg)).bind fun r_3 => (some (r_3, t_raised, t_x, t_sent, t_order, t_bestOrder))))
def J_X11_order_126 (t_all : Nat → Int32) (k_58 : Int32 → Int32 → (Nat → Int32) → (Nat → Int32) → (Nat → Int32) → Int32 → Int32 → Int32 → Int32 → Option (Int32 × Int32 × Int32 × (Nat → Int32) × (Nat → Int32) × (Nat → Int32))) (t_raised : Int32) (t_x : Int32) (t_sent : Nat → Int32) (t_order : Nat → Int32) (t_bestOrder : Nat → Int32) (x1 : Int32) (x2 : Int32) (x3 : Int32) : Option (Int32 × Int32 × Int32 × (Nat → Int32) × (Nat → Int32) × (Nat → Int32)) :=
  (F_X11_nextOrder t_all t_order).bind fun r_1 => (k_58 t_raised t_x t_sent r_1.2 t_bestOrder x1 x2 x3 r_1.1)
def L_X11_order_95 (t_all : Nat → Int32) (k_58 : Int32 → Int32 → (Nat → Int32) → (Nat → Int32) → (Nat → Int32) → Int32 → Int32 → Int32 → Int32 → Option (Int32 × Int32 × Int32 × (Nat → Int32) × (Nat → Int32) × (Nat → Int32))) : Nat → Int32 → Int32 → (Nat → Int32) → (Nat → Int32) → (Nat → Int32) → Int32 → Int32 → Int32 → Int32 → Option (Int32 × Int32 × Int32 × (Nat → Int32) × (Nat → Int32) × (Nat → Int32))
  | 0, _, _, _, _, _, _, _, _, _ => none
  | n_ + 1, t_raised, t_x, t_sent, t_order, t_bestOrder, x1, x2, x3, x6 =>
    if (t_all 0) ≤ x6 then (J_X11_order_126 t_all k_58 t_raised t_x t_sent t_order t_bestOrder x1 x2 x3) else (gd_ (in_b x6 5) (gd_ (in_b x6 5) (L_X11_order_95 t_all k_58 n_ t_raised t_x t_sent t_order (upd t_bestOrder (x6).toNatClampNeg (t_order (x6).toNatClampNeg)) x1 x2 x3 (x6 + (1 : Int32)))))
def L_X11_order_58 (t_all : Nat → Int32) : Nat → Int32 → Int32 → (Nat → Int32) → (Nat → Int32) → (Nat → Int32) → Int32 → Int32 → Int32 → Int32 → Option (Int32 × Int32 × Int32 × (Nat → Int32) × (Nat → Int32) × (Nat → Int32))
  | 0, _, _, _, _, _, _, _, _, _ => none
  | n_ + 1, t_raised, t_x, t_sent, t_order, t_bestOrder, x1, x2, x3, x4 =>
    if x4 = (0 : Int32) then (J_X11_order_135 t_all t_raised t_x t_sent t_order t_bestOrder x2 x3) else ((F_X11_sends t_x t_all t_sent t_order (0 : Int32) x1 (0 : Int32)).bind fun r_2 => ((F_X11_heard t_all r_2.2 x1 (3 : Int32)).bind fun r_4 => (if x3 = (-1 : Int32) then (L_X11_order_95 t_all (L_X11_order_58 t_all n_) fu_ t_raised r_2.1 r_2.2 t_order t_bestOrder x1 x2 r_4 (0 : Int32)) else (if x3 ≤ r_4 then (J_X11_order_126 t_all (L_X11_order_58 t_all n_) t_raised r_2.1 r_2.2 t_order t_bestOrder x1 x2 x3) else (L_X11_order_95 t_all (L_X11_order_58 t_all n_) fu_ t_raised r_2.1 r_2.2 t_order t_bestOrder x1 x2 r_4 (0 : Int32))))))
def J_X11_order_38 (t_all : Nat → Int32) (t_raised : Int32) (t_x : Int32) (t_sent : Nat → Int32) (t_order : Nat → Int32) (t_bestOrder : Nat → Int32) (x1 : Int32) (x2 : Int32) : Option (Int32 × Int32 × Int32 × (Nat → Int32) × (Nat → Int32) × (Nat → Int32)) :=
  if (t_all 0) = (0 : Int32) then (some ((-1 : Int32), t_raised, t_x, t_sent, t_order, t_bestOrder)) else ((F_X11_inOrder t_all t_order).bind fun r_2 => (L_X11_order_58 t_all fu_ t_raised t_x t_sent r_2 t_bestOrder x1 x2 (-1 : Int32) (1 : Int32)))
def F_X11_order (t_raised : Int32) (t_x : Int32) (t_all : Nat → Int32) (t_sent : Nat → Int32) (t_order : Nat → Int32) (t_bestOrder : Nat → Int32) (x1 : Int32) (x2 : Int32) : Option (Int32 × Int32 × Int32 × (Nat → Int32) × (Nat → Int32) × (Nat → Int32)) :=
  (F_X11_in x1 (1 : Int32) (64 : Int32)).bind fun r_1 => (if r_1 = (0 : Int32) then (some ((-1 : Int32), (0 : Int32), t_x, t_sent, t_order, t_bestOrder)) else (if x2 = (0 : Int32) then (J_X11_order_38 t_all (0 : Int32) t_x t_sent t_order t_bestOrder x1 x2) else ((F_X11_in (x2 - (10 : Int32)) (0 : Int32) ((t_all 0) - (1 : Int32))).bind fun r_5 => (if r_5 = (0 : Int32) then (some ((-1 : Int32), (0 : Int32), t_x, t_sent, t_order, t_bestOrder)) else (J_X11_order_38 t_all (0 : Int32) t_x t_sent t_order t_bestOrder x1 x2)))))
def L_X11_reachOf_5 (t_all : Nat → Int32) : Nat → Int32 → Int64 → Int32 → Option (Int64)
  | 0, _, _, _ => none
  | n_ + 1, x1, x2, x4 =>
    if (t_all 0) ≤ x4 then (some x2) else (if ((x1 >>> (x4 &&& 31)) &&& (1 : Int32)) = (1 : Int32) then ((F_X11_gapAt t_all x4).bind fun r_3 => ((F_X11_measure x2 ((r_3).toInt64)).bind fun r_5 => (gd_ (decide (¬ r_5 = 0)) ((F_X11_gapAt t_all x4).bind fun r_8 => (L_X11_reachOf_5 t_all n_ x1 ((x2 / r_5) * (r_8).toInt64) (x4 + (1 : Int32))))))) else (L_X11_reachOf_5 t_all n_ x1 x2 (x4 + (1 : Int32))))
def F_X11_reachOf (t_all : Nat → Int32) (x1 : Int32) : Option (Int64) :=
  L_X11_reachOf_5 t_all fu_ x1 (1 : Int64) (0 : Int32)
def L_X11_pairs_95 (t_all : Nat → Int32) : Nat → Int32 → (Nat → Int32) → Int32 → Int32 → Int64 → Int32 → Int32 → Option (Int32 × Int32 × (Nat → Int32))
  | 0, _, _, _, _, _, _, _ => none
  | n_ + 1, t_raised, t_loud, x1, x3, x4, x6, x7 =>
    if (t_all 9) ≤ x7 then (some (x6, t_raised, t_loud)) else (if (0 : Int32) ≤ (lg_cmp ((x7).toInt64) x4) then (some (x6, t_raised, t_loud)) else ((F_X11_hitBits t_all t_loud x7).bind fun r_3 => (if r_3 = x3 then (if x1 = (2 : Int32) then ((F_X11_isRange t_all x7).bind fun r_7 => (if r_7 = (0 : Int32) then (L_X11_pairs_95 t_all n_ t_raised t_loud x1 x3 x4 (x6 + (1 : Int32)) (x7 + (1 : Int32))) else (L_X11_pairs_95 t_all n_ t_raised t_loud x1 x3 x4 (x6 + (0 : Int32)) (x7 + (1 : Int32))))) else (L_X11_pairs_95 t_all n_ t_raised t_loud x1 x3 x4 (x6 + (1 : Int32)) (x7 + (1 : Int32)))) else (L_X11_pairs_95 t_all n_ t_raised t_loud x1 x3 x4 (x6 + (0 : Int32)) (x7 + (1 : Int32))))))
def J_X11_pairs_61 (t_all : Nat → Int32) (t_raised : Int32) (t_loud : Nat → Int32) (x1 : Int32) (x2 : Int32) : Option (Int32 × Int32 × (Nat → Int32)) :=
  if x1 = (0 : Int32) then (some (x2, t_raised, t_loud)) else (if x2 = (0 : Int32) then (some (x2, t_raised, t_loud)) else ((F_X11_reachOf t_all (((1 : Int32) <<< ((t_all 0) &&& 31)) - (1 : Int32))).bind fun r_3 => (L_X11_pairs_95 t_all fu_ t_raised t_loud x1 (((1 : Int32) <<< ((t_all 0) &&& 31)) - (1 : Int32)) r_3 (0 : Int32) (0 : Int32))))
def L_X11_pairs_37 (t_all : Nat → Int32) : Nat → Int32 → (Nat → Int32) → Int32 → Int32 → Int32 → Option (Int32 × Int32 × (Nat → Int32))
  | 0, _, _, _, _, _ => none
  | n_ + 1, t_raised, t_loud, x1, x2, x3 =>
    if (t_all 0) ≤ x3 then (J_X11_pairs_61 t_all t_raised t_loud x1 x2) else ((F_X11_echoesOf t_all t_loud x3).bind fun r_2 => (L_X11_pairs_37 t_all n_ t_raised t_loud x1 (x2 * r_2) (x3 + (1 : Int32))))
def F_X11_pairs (t_raised : Int32) (t_all : Nat → Int32) (t_loud : Nat → Int32) (x1 : Int32) : Option (Int32 × Int32 × (Nat → Int32)) :=
  (F_X11_in x1 (0 : Int32) (2 : Int32)).bind fun r_1 => (if r_1 = (0 : Int32) then (some ((-1 : Int32), (0 : Int32), t_loud)) else ((F_X11_laysLoud t_all t_loud).bind fun r_4 => (if (t_all 0) = (0 : Int32) then (L_X11_pairs_37 t_all fu_ (0 : Int32) r_4 x1 (0 : Int32) (0 : Int32)) else (L_X11_pairs_37 t_all fu_ (0 : Int32) r_4 x1 (1 : Int32) (0 : Int32)))))
def L_X11_period_20 (t_all : Nat → Int32) (k_9 : Int32 → Int32 → Int32 → Option (Int32 × Int32)) : Nat → Int32 → Int32 → Int32 → Int32 → Option (Int32 × Int32)
  | 0, _, _, _, _ => none
  | n_ + 1, t_raised, x1, x2, x3 =>
    if (t_all 0) ≤ x3 then (k_9 t_raised x1 x2) else (if x2 = (0 : Int32) then (L_X11_period_20 t_all k_9 n_ t_raised x1 (0 : Int32) (x3 + (1 : Int32))) else ((F_X11_gapAt t_all x3).bind fun r_3 => (gd_ (decide (¬ (t_all 6) = 0)) (if ((x1 * r_3) - (x1 * r_3) / (t_all 6) * (t_all 6)) = (0 : Int32) then (L_X11_period_20 t_all k_9 n_ t_raised x1 (1 : Int32) (x3 + (1 : Int32))) else (L_X11_period_20 t_all k_9 n_ t_raised x1 (0 : Int32) (x3 + (1 : Int32)))))))
def L_X11_period_9 (t_all : Nat → Int32) : Nat → Int32 → Int32 → Int32 → Option (Int32 × Int32)
  | 0, _, _, _ => none
  | n_ + 1, t_raised, x1, x2 =>
    if x2 = (0 : Int32) then (L_X11_period_20 t_all (L_X11_period_9 t_all n_) fu_ t_raised (x1 + (1 : Int32)) (1 : Int32) (0 : Int32)) else (some (x1, t_raised))
def F_X11_period (t_raised : Int32) (t_all : Nat → Int32) : Option (Int32 × Int32) :=
  L_X11_period_9 t_all fu_ (0 : Int32) (0 : Int32) (0 : Int32)
def F_X11_picture (t_raised : Int32) (t_pictured : Int32) (t_all : Nat → Int32) (t_loud : Nat → Int32) (t_picture : Nat → Int32) (t_took : Nat → Int32) (t_free : Nat → Int32) (x1 : Int32) (x2 : Int32) : Option (Int32 × Int32 × Int32 × (Nat → Int32) × (Nat → Int32) × (Nat → Int32) × (Nat → Int32)) :=
  (F_X11_laysPicture t_pictured t_all t_loud t_picture t_took t_free).bind fun r_1 => ((F_X11_in x1 (0 : Int32) (r_1.1 - (1 : Int32))).bind fun r_3 => (if r_3 = (0 : Int32) then (some ((-1 : Int32), (0 : Int32), r_1.1, r_1.2.1, r_1.2.2.1, r_1.2.2.2.1, r_1.2.2.2.2)) else (if x2 = (0 : Int32) then (gd_ (in_b x1 300) (some ((r_1.2.2.1 (x1).toNatClampNeg), (0 : Int32), r_1.1, r_1.2.1, r_1.2.2.1, r_1.2.2.2.1, r_1.2.2.2.2))) else (gd_ (in_b x1 300) (some ((r_1.2.2.2.1 (x1).toNatClampNeg), (0 : Int32), r_1.1, r_1.2.1, r_1.2.2.1, r_1.2.2.2.1, r_1.2.2.2.2))))))
def F_X11_reach (t_raised : Int32) (t_all : Nat → Int32) (x1 : Int32) (x2 : Int32) : Option (Int32 × Int32) :=
  (F_X11_in x1 (0 : Int32) (((1 : Int32) <<< ((t_all 0) &&& 31)) - (1 : Int32))).bind fun r_1 => (if r_1 = (0 : Int32) then (some ((-2147483648 : Int32), (0 : Int32))) else ((F_X11_reachOf t_all x1).bind fun r_4 => (if (lg_cmp (r_4 * (x2).toInt64) ((((r_4 * (x2).toInt64)).toInt32).toInt64)) = (0 : Int32) then (some (((r_4 * (x2).toInt64)).toInt32, (0 : Int32))) else (some ((-2147483648 : Int32), (0 : Int32))))))
def L_X11_seenBy_4 (t_all : Nat → Int32) : Nat → Int32 → Int32 → Int32 → Option (Int32)
  | 0, _, _, _ => none
  | n_ + 1, x1, x2, x3 =>
    if (t_all 0) ≤ x3 then (some x2) else ((F_X11_isSeen t_all x1 x3).bind fun r_2 => (if r_2 = (0 : Int32) then (L_X11_seenBy_4 t_all n_ x1 (x2 ||| (0 : Int32)) (x3 + (1 : Int32))) else (L_X11_seenBy_4 t_all n_ x1 (x2 ||| ((1 : Int32) <<< (x3 &&& 31))) (x3 + (1 : Int32)))))
def F_X11_seenBy (t_all : Nat → Int32) (x1 : Int32) : Option (Int32) :=
  L_X11_seenBy_4 t_all fu_ x1 (0 : Int32) (0 : Int32)
def J_X11_shaken_97 (t_all : Nat → Int32) (k_21 : Int32 → Int32 → Int32 → Int32 → Int32 → Option (Int32 × Int32)) (k_39 : Int32 → Int32 → Int32 → Int32 → Int32 → Int32 → Int32 → Option (Int32 × Int32)) (t_raised : Int32) (x1 : Int32) (x2 : Int32) (x3 : Int32) (x4 : Int32) (x5 : Int32) (x6 : Int32) (x7 : Int32) : Option (Int32 × Int32) :=
  if x2 = (0 : Int32) then (if x7 = (((2 : Int32) * x1) + (1 : Int32)) then (k_39 t_raised x1 x2 x3 x4 (x5 + (1 : Int32)) (x6 + (1 : Int32))) else (k_39 t_raised x1 x2 x3 x4 (x5 + (0 : Int32)) (x6 + (1 : Int32)))) else (if x7 ≤ (0 : Int32) then (k_39 t_raised x1 x2 x3 x4 (x5 + (0 : Int32)) (x6 + (1 : Int32))) else (k_39 t_raised x1 x2 x3 x4 (x5 + (1 : Int32)) (x6 + (1 : Int32))))
def L_X11_shaken_57 (t_all : Nat → Int32) (k_21 : Int32 → Int32 → Int32 → Int32 → Int32 → Option (Int32 × Int32)) (k_39 : Int32 → Int32 → Int32 → Int32 → Int32 → Int32 → Int32 → Option (Int32 × Int32)) : Nat → Int32 → Int32 → Int32 → Int32 → Int32 → Int32 → Int32 → Int32 → Int32 → Option (Int32 × Int32)
  | 0, _, _, _, _, _, _, _, _, _ => none
  | n_ + 1, t_raised, x1, x2, x3, x4, x5, x6, x7, x8 =>
    if x1 < x8 then (J_X11_shaken_97 t_all k_21 k_39 t_raised x1 x2 x3 x4 x5 x6 x7) else ((F_X11_gapAt t_all x6).bind fun r_2 => ((F_X11_isBlind t_all x4 (r_2 + x8)).bind fun r_4 => (if r_4 = (0 : Int32) then (L_X11_shaken_57 t_all k_21 k_39 n_ t_raised x1 x2 x3 x4 x5 x6 (x7 + (1 : Int32)) (x8 + (1 : Int32))) else (L_X11_shaken_57 t_all k_21 k_39 n_ t_raised x1 x2 x3 x4 x5 x6 (x7 + (0 : Int32)) (x8 + (1 : Int32))))))
def J_X11_shaken_135 (t_all : Nat → Int32) (k_21 : Int32 → Int32 → Int32 → Int32 → Int32 → Option (Int32 × Int32)) (t_raised : Int32) (x1 : Int32) (x2 : Int32) (x3 : Int32) (x4 : Int32) (x5 : Int32) : Option (Int32 × Int32) :=
  if x5 < (t_all 10) then (k_21 t_raised x1 x2 (x3 + (0 : Int32)) (x4 + (1 : Int32))) else (k_21 t_raised x1 x2 (x3 + (1 : Int32)) (x4 + (1 : Int32)))
def L_X11_shaken_39 (t_all : Nat → Int32) (k_21 : Int32 → Int32 → Int32 → Int32 → Int32 → Option (Int32 × Int32)) : Nat → Int32 → Int32 → Int32 → Int32 → Int32 → Int32 → Int32 → Option (Int32 × Int32)
  | 0, _, _, _, _, _, _, _ => none
  | n_ + 1, t_raised, x1, x2, x3, x4, x5, x6 =>
    if (t_all 0) ≤ x6 then (J_X11_shaken_135 t_all k_21 t_raised x1 x2 x3 x4 x5) else (L_X11_shaken_57 t_all k_21 (L_X11_shaken_39 t_all k_21 n_) fu_ t_raised x1 x2 x3 x4 x5 x6 (0 : Int32) (-x1))
def L_X11_shaken_21 (t_all : Nat → Int32) : Nat → Int32 → Int32 → Int32 → Int32 → Int32 → Option (Int32 × Int32)
  | 0, _, _, _, _, _ => none
  | n_ + 1, t_raised, x1, x2, x3, x4 =>
    if (t_all 11) < x4 then (some (x3, t_raised)) else (L_X11_shaken_39 t_all (L_X11_shaken_21 t_all n_) fu_ t_raised x1 x2 x3 x4 (0 : Int32) (0 : Int32))
def F_X11_shaken (t_raised : Int32) (t_all : Nat → Int32) (x1 : Int32) (x2 : Int32) : Option (Int32 × Int32) :=
  (F_X11_in x1 (0 : Int32) (3 : Int32)).bind fun r_1 => (if r_1 = (0 : Int32) then (some ((-1 : Int32), (0 : Int32))) else (L_X11_shaken_21 t_all fu_ (0 : Int32) x1 x2 (0 : Int32) (1 : Int32)))
def J_X11_targetOf_24 (t_all : Nat → Int32) (t_raised : Int32) (t_loud : Nat → Int32) (x1 : Int32) (x2 : Int32) (s1 : Int32) : Option (Int32 × Int32 × (Nat → Int32)) :=
  if s1 ≤ (0 : Int32) then ((F_X11_laysLoud t_all t_loud).bind fun r_2 => (if x2 = (0 : Int32) then ((F_X11_rangeOf t_all x1).bind fun r_5 => (some (r_5, s1, r_2))) else (if x2 = (1 : Int32) then ((F_X11_of t_all x1 (x2 - (1 : Int32))).bind fun r_8 => (some (r_8, s1, r_2))) else (if x2 = (2 : Int32) then ((F_X11_of t_all x1 (x2 - (1 : Int32))).bind fun r_11 => (some (r_11, s1, r_2))) else (if x2 = (3 : Int32) then ((F_X11_of t_all x1 (x2 - (1 : Int32))).bind fun r_14 => (some (r_14, s1, r_2))) else (if x2 = (4 : Int32) then ((F_X11_seenBy t_all x1).bind fun r_17 => (some (r_17, s1, r_2))) else (if x2 = (5 : Int32) then ((F_X11_of t_all x1 (1 : Int32)).bind fun r_20 => ((F_X11_blindBits t_all r_20).bind fun r_22 => (some (r_22, s1, r_2)))) else ((F_X11_rangeOf t_all x1).bind fun r_25 => (if r_25 < (t_all 9) then ((F_X11_rangeOf t_all x1).bind fun r_28 => ((F_X11_isFound t_all r_2 r_28).bind fun r_30 => (if r_30 = (0 : Int32) then (some ((0 : Int32), s1, r_2)) else (some ((1 : Int32), s1, r_2))))) else (some ((2 : Int32), s1, r_2))))))))))) else (some ((0 : Int32), s1, t_loud))
def J_X11_targetOf_23 (t_all : Nat → Int32) (t_raised : Int32) (t_loud : Nat → Int32) (x1 : Int32) (x2 : Int32) : Option (Int32 × Int32 × (Nat → Int32)) :=
  J_X11_targetOf_24 t_all t_raised t_loud x1 x2 (1 : Int32)
def F_X11_targetOf (t_raised : Int32) (t_all : Nat → Int32) (t_loud : Nat → Int32) (x1 : Int32) (x2 : Int32) : Option (Int32 × Int32 × (Nat → Int32)) :=
  (F_X11_isTarget t_all x1).bind fun r_1 => (if r_1 = (0 : Int32) then (J_X11_targetOf_23 t_all t_raised t_loud x1 x2) else ((F_X11_in x2 (0 : Int32) (6 : Int32)).bind fun r_4 => (if r_4 = (0 : Int32) then (J_X11_targetOf_23 t_all t_raised t_loud x1 x2) else (J_X11_targetOf_24 t_all t_raised t_loud x1 x2 (0 : Int32)))))
def J_X11_track_153 (t_all : Nat → Int32) (t_raised : Int32) (t_which : Nat → Int32) (x2 : Int32) : Option (Int32 × Int32 × (Nat → Int32)) :=
  if (10 : Int32) ≤ x2 then ((F_X11_numberAt t_all t_which ((t_all 40) - (1 : Int32))).bind fun r_2 => ((F_X11_numberAt t_all t_which (0 : Int32)).bind fun r_4 => ((F_X11_lookAt t_all ((t_all 40) - (1 : Int32)) (0 : Int32)).bind fun r_6 => ((F_X11_lookAt t_all (0 : Int32) (0 : Int32)).bind fun r_8 => (gd_ (decide (¬ (r_6 - r_8) = 0)) (some ((((16 : Int32) * (r_2 - r_4)) / (r_6 - r_8)), t_raised, t_which))))))) else ((F_X11_numberAt t_all t_which x2).bind fun r_11 => (some (r_11, t_raised, t_which)))
def J_X11_track_212 (t_all : Nat → Int32) (k_126 : Int32 → (Nat → Int32) → Int32 → Int32 → Int32 → Int32 → Int32 → Int32 → Option (Int32 × Int32 × (Nat → Int32))) (t_raised : Int32) (t_which : Nat → Int32) (x1 : Int32) (x2 : Int32) (x3 : Int32) (x4 : Int32) (x6 : Int32) : Option (Int32 × Int32 × (Nat → Int32)) :=
  (F_X11_goesOn t_all t_which).bind fun r_1 => (k_126 t_raised r_1.2 x1 x2 x3 x4 r_1.1 x6)
def J_X11_track_140 (t_all : Nat → Int32) (k_126 : Int32 → (Nat → Int32) → Int32 → Int32 → Int32 → Int32 → Int32 → Int32 → Option (Int32 × Int32 × (Nat → Int32))) (t_raised : Int32) (t_which : Nat → Int32) (x1 : Int32) (x2 : Int32) (x3 : Int32) (x4 : Int32) (x6 : Int32) : Option (Int32 × Int32 × (Nat → Int32)) :=
  (F_X11_isTrack t_all t_which).bind fun r_1 => (if r_1 = (0 : Int32) then (J_X11_track_212 t_all k_126 t_raised t_which x1 x2 x3 x4 x6) else (if x6 = x1 then (J_X11_track_153 t_all t_raised t_which x2) else (J_X11_track_212 t_all k_126 t_raised t_which x1 x2 x3 x4 (x6 + (1 : Int32)))))
def J_X11_track_221 (t_all : Nat → Int32) (t_raised : Int32) (t_which : Nat → Int32) (x3 : Int32) (x6 : Int32) : Option (Int32 × Int32 × (Nat → Int32)) :=
  if x3 = (0 : Int32) then (some ((-100000 : Int32), t_raised, t_which)) else (some (x6, t_raised, t_which))
def L_X11_track_126 (t_all : Nat → Int32) : Nat → Int32 → (Nat → Int32) → Int32 → Int32 → Int32 → Int32 → Int32 → Int32 → Option (Int32 × Int32 × (Nat → Int32))
  | 0, _, _, _, _, _, _, _, _ => none
  | n_ + 1, t_raised, t_which, x1, x2, x3, x4, x5, x6 =>
    if x5 = (0 : Int32) then (J_X11_track_221 t_all t_raised t_which x3 x6) else (if x3 = (0 : Int32) then (if x4 = (0 : Int32) then (J_X11_track_221 t_all t_raised t_which x3 x6) else (J_X11_track_140 t_all (L_X11_track_126 t_all n_) t_raised t_which x1 x2 x3 x4 x6)) else (J_X11_track_140 t_all (L_X11_track_126 t_all n_) t_raised t_which x1 x2 x3 x4 x6))
def L_X11_track_75 (t_all : Nat → Int32) : Nat → Int32 → (Nat → Int32) → Int32 → Int32 → Int32 → Int32 → Int32 → Int32 → Option (Int32 × Int32 × (Nat → Int32))
  | 0, _, _, _, _, _, _, _, _ => none
  | n_ + 1, t_raised, t_which, x1, x2, x3, x4, x5, x6 =>
    if (t_all 40) ≤ x6 then (L_X11_track_126 t_all fu_ t_raised t_which x1 x2 x3 x4 x5 (0 : Int32)) else (gd_ (in_b x6 4) (if x5 = (0 : Int32) then (L_X11_track_75 t_all n_ t_raised (upd t_which (x6).toNatClampNeg (0 : Int32)) x1 x2 x3 x4 (0 : Int32) (x6 + (1 : Int32))) else ((F_X11_lookAt t_all x6 (1 : Int32)).bind fun r_4 => (if r_4 ≤ (0 : Int32) then (L_X11_track_75 t_all n_ t_raised (upd t_which (x6).toNatClampNeg (0 : Int32)) x1 x2 x3 x4 (0 : Int32) (x6 + (1 : Int32))) else (L_X11_track_75 t_all n_ t_raised (upd t_which (x6).toNatClampNeg (0 : Int32)) x1 x2 x3 x4 (1 : Int32) (x6 + (1 : Int32)))))))
def J_X11_track_52 (t_all : Nat → Int32) (t_raised : Int32) (t_which : Nat → Int32) (x1 : Int32) (x2 : Int32) (x3 : Int32) (s0 : Int32) : Option (Int32 × Int32 × (Nat → Int32)) :=
  if (t_all 40) ≤ (1 : Int32) then (L_X11_track_75 t_all fu_ t_raised t_which x1 x2 x3 s0 (0 : Int32) (0 : Int32)) else (L_X11_track_75 t_all fu_ t_raised t_which x1 x2 x3 s0 (1 : Int32) (0 : Int32))
def J_X11_track_51 (t_all : Nat → Int32) (t_raised : Int32) (t_which : Nat → Int32) (x1 : Int32) (x2 : Int32) (x3 : Int32) : Option (Int32 × Int32 × (Nat → Int32)) :=
  J_X11_track_52 t_all t_raised t_which x1 x2 x3 (0 : Int32)
def J_X11_track_47 (t_all : Nat → Int32) (t_raised : Int32) (t_which : Nat → Int32) (x1 : Int32) (x2 : Int32) (x3 : Int32) : Option (Int32 × Int32 × (Nat → Int32)) :=
  J_X11_track_52 t_all t_raised t_which x1 x2 x3 (1 : Int32)
def J_X11_track_19 (t_all : Nat → Int32) (t_raised : Int32) (t_which : Nat → Int32) (x1 : Int32) (x2 : Int32) (s0 : Int32) : Option (Int32 × Int32 × (Nat → Int32)) :=
  if x1 < (0 : Int32) then (J_X11_track_51 t_all t_raised t_which x1 x2 s0) else (if x2 = (10 : Int32) then (J_X11_track_47 t_all t_raised t_which x1 x2 s0) else ((F_X11_in x2 (0 : Int32) ((t_all 40) - (1 : Int32))).bind fun r_3 => (if r_3 = (0 : Int32) then (J_X11_track_51 t_all t_raised t_which x1 x2 s0) else (J_X11_track_47 t_all t_raised t_which x1 x2 s0))))
def J_X11_track_18 (t_all : Nat → Int32) (t_raised : Int32) (t_which : Nat → Int32) (x1 : Int32) (x2 : Int32) : Option (Int32 × Int32 × (Nat → Int32)) :=
  J_X11_track_19 t_all t_raised t_which x1 x2 (0 : Int32)
def F_X11_track (t_raised : Int32) (t_all : Nat → Int32) (t_which : Nat → Int32) (x1 : Int32) (x2 : Int32) : Option (Int32 × Int32 × (Nat → Int32)) :=
  if x1 = (-1 : Int32) then (if x2 = (0 : Int32) then (J_X11_track_19 t_all (0 : Int32) t_which x1 x2 (1 : Int32)) else (J_X11_track_18 t_all (0 : Int32) t_which x1 x2)) else (J_X11_track_18 t_all (0 : Int32) t_which x1 x2)
def J_X11_until_86 (k_37 : Int32 → (Nat → Int32) → (Nat → Int32) → Int32 → Int32 → Int32 → Int32 → Option (Int32 × Int32 × (Nat → Int32) × (Nat → Int32))) (t_raised : Int32) (t_all : Nat → Int32) (t_loud : Nat → Int32) (x1 : Int32) (x2 : Int32) (x4 : Int32) (s0 : Int32) : Option (Int32 × Int32 × (Nat → Int32) × (Nat → Int32)) :=
  (F_X11_copies t_all (4 : Int32) (0 : Int32)).bind fun r_1 => (k_37 t_raised r_1 t_loud x1 x2 s0 (x4 + (1 : Int32)))
def J_X11_until_85 (k_37 : Int32 → (Nat → Int32) → (Nat → Int32) → Int32 → Int32 → Int32 → Int32 → Option (Int32 × Int32 × (Nat → Int32) × (Nat → Int32))) (t_raised : Int32) (t_all : Nat → Int32) (t_loud : Nat → Int32) (x1 : Int32) (x2 : Int32) (x4 : Int32) : Option (Int32 × Int32 × (Nat → Int32) × (Nat → Int32)) :=
  J_X11_until_86 k_37 t_raised t_all t_loud x1 x2 x4 (-1 : Int32)
def L_X11_until_37  : Nat → Int32 → (Nat → Int32) → (Nat → Int32) → Int32 → Int32 → Int32 → Int32 → Option (Int32 × Int32 × (Nat → Int32) × (Nat → Int32))
  | 0, _, _, _, _, _, _, _ => none
  | n_ + 1, t_raised, t_all, t_loud, x1, x2, x3, x4 =>
    if x2 < x4 then (some (x3, t_raised, t_all, t_loud)) else (if x3 = (-1 : Int32) then ((F_X11_goesOnBy t_all x1 x4).bind fun r_3 => ((F_X11_laysLoud r_3.2 t_loud).bind fun r_5 => (if r_3.1 = (-1 : Int32) then (J_X11_until_85 (L_X11_until_37 n_) t_raised r_3.2 r_5 x1 x2 x4) else ((F_X11_rangeOf r_3.2 r_3.1).bind fun r_8 => ((F_X11_isFound r_3.2 r_5 r_8).bind fun r_10 => (if r_10 = (0 : Int32) then (J_X11_until_85 (L_X11_until_37 n_) t_raised r_3.2 r_5 x1 x2 x4) else (J_X11_until_86 (L_X11_until_37 n_) t_raised r_3.2 r_5 x1 x2 x4 x4))))))) else (some (x3, t_raised, t_all, t_loud)))
def F_X11_until (t_raised : Int32) (t_all : Nat → Int32) (t_loud : Nat → Int32) (x1 : Int32) (x2 : Int32) : Option (Int32 × Int32 × (Nat → Int32) × (Nat → Int32)) :=
  (F_X11_isTarget t_all x1).bind fun r_1 => (if r_1 = (0 : Int32) then (some ((-1 : Int32), (0 : Int32), t_all, t_loud)) else ((F_X11_in x2 (0 : Int32) (200 : Int32)).bind fun r_4 => (if r_4 = (0 : Int32) then (some ((-1 : Int32), (0 : Int32), t_all, t_loud)) else ((F_X11_copies t_all (0 : Int32) (4 : Int32)).bind fun r_7 => (L_X11_until_37 fu_ (0 : Int32) r_7 t_loud x1 x2 (-1 : Int32) (0 : Int32))))))
