/-! ===== BEGIN track(k, what), the class ===== -/
theorem dd_ {a s j : Nat} (h : j < s) : (a * s + j) / s = a ∧ (a * s + j) % s = j := by
  rw [Nat.mul_comm, Nat.mul_add_div (by omega), Nat.div_eq_of_lt h, Nat.mul_add_mod, Nat.mod_eq_of_lt h]
  exact ⟨rfl, rfl⟩
def xB (m : Nat → Int) : Nat := if 2 < nK m then sz_ m 1 else 1
def xC (m : Nat → Int) : Nat := if 3 < nK m then sz_ m 2 else 1
def xL (m : Nat → Int) : Nat := sz_ m (nK m - 1)
def bk_ (m : Nat → Int) (i0 i1 i2 : Nat) : Nat := (i0 * xB m + i1) * xC m + i2
theorem dg_K {m : Nat → Int} (h2 : 2 ≤ nK m) (h4 : nK m ≤ 4) {i0 i1 i2 j : Nat} (a0 : i0 < sz_ m 0) (a1 : i1 < xB m) (a2 : i2 < xC m) (aj : j < xL m) :
    dg_ (sz_ m) (nK m) (bk_ m i0 i1 i2 * xL m + j) 0 = i0 ∧ dg_ (sz_ m) (nK m) (bk_ m i0 i1 i2 * xL m + j) (nK m - 1) = j ∧ (2 < nK m → dg_ (sz_ m) (nK m) (bk_ m i0 i1 i2 * xL m + j) 1 = i1) ∧ (3 < nK m → dg_ (sz_ m) (nK m) (bk_ m i0 i1 i2 * xL m + j) 2 = i2) := by
  unfold bk_ xB xC xL at *
  generalize sz_ m = S at *
  generalize nK m = K at *
  rcases (show K = 2 ∨ K = 3 ∨ K = 4 by omega) with rfl | rfl | rfl
  · rw [if_neg (by omega)] at a1 a2
    have e1 : i1 = 0 := by omega
    have e2 : i2 = 0 := by omega
    rw [if_neg (by omega), if_neg (by omega), e1, e2, Nat.mul_one, Nat.add_zero, Nat.mul_one]
    have aj : j < S 1 := aj
    obtain ⟨q1, q2⟩ := dd_ (a := i0) aj
    refine ⟨?_, ?_, fun h => by omega, fun h => by omega⟩
    · show (i0 * S 1 + j) / S 1 % S 0 = i0
      rw [q1, Nat.mod_eq_of_lt a0]
    · show (i0 * S 1 + j) % S 1 = j
      exact q2
  · rw [if_pos (by omega)] at a1
    rw [if_neg (by omega)] at a2
    have e2 : i2 = 0 := by omega
    rw [if_pos (by omega), if_neg (by omega), e2, Nat.mul_one, Nat.add_zero]
    have aj : j < S 2 := aj
    obtain ⟨q1, q2⟩ := dd_ (a := i0 * S 1 + i1) aj
    obtain ⟨q3, q4⟩ := dd_ (a := i0) a1
    refine ⟨?_, ?_, fun _ => ?_, fun h => by omega⟩
    · show ((i0 * S 1 + i1) * S 2 + j) / S 2 / S 1 % S 0 = i0
      rw [q1, q3, Nat.mod_eq_of_lt a0]
    · show ((i0 * S 1 + i1) * S 2 + j) % S 2 = j
      exact q2
    · show ((i0 * S 1 + i1) * S 2 + j) / S 2 % S 1 = i1
      rw [q1, q4]
  · rw [if_pos (by omega)] at a1
    rw [if_pos (by omega)] at a2
    rw [if_pos (by omega), if_pos (by omega)]
    have aj : j < S 3 := aj
    obtain ⟨q1, q2⟩ := dd_ (a := (i0 * S 1 + i1) * S 2 + i2) aj
    obtain ⟨q3, q4⟩ := dd_ (a := i0 * S 1 + i1) a2
    obtain ⟨q5, q6⟩ := dd_ (a := i0) a1
    refine ⟨?_, ?_, fun _ => ?_, fun _ => ?_⟩
    · show (((i0 * S 1 + i1) * S 2 + i2) * S 3 + j) / S 3 / S 2 / S 1 % S 0 = i0
      rw [q1, q3, q5, Nat.mod_eq_of_lt a0]
    · show (((i0 * S 1 + i1) * S 2 + i2) * S 3 + j) % S 3 = j
      exact q2
    · show (((i0 * S 1 + i1) * S 2 + i2) * S 3 + j) / S 3 / S 2 % S 1 = i1
      rw [q1, q3, q6]
    · show (((i0 * S 1 + i1) * S 2 + i2) * S 3 + j) / S 3 % S 2 = i2
      rw [q1, q4]
theorem xR {m : Nat → Int} (h2 : 2 ≤ nK m) (h4 : nK m ≤ 4) : tR_ m = bk_ m (sz_ m 0) 0 0 * xL m := by
  unfold tR_ bk_ xB xC xL
  rw [if_neg (by omega)]
  generalize sz_ m = S
  generalize nK m = K at *
  rcases (show K = 2 ∨ K = 3 ∨ K = 4 by omega) with rfl | rfl | rfl
  · rw [if_neg (by omega), if_neg (by omega)]
    show 1 * S 1 * S 0 = (S 0 * 1 + 0) * 1 * S 1
    rw [Nat.one_mul, Nat.mul_one, Nat.add_zero, Nat.mul_one, Nat.mul_comm]
  · rw [if_pos (by omega), if_neg (by omega)]
    show 1 * S 2 * S 1 * S 0 = (S 0 * S 1 + 0) * 1 * S 2
    rw [Nat.one_mul, Nat.add_zero, Nat.mul_one, Nat.mul_assoc, Nat.mul_comm (S 1) (S 0), Nat.mul_comm]
  · rw [if_pos (by omega), if_pos (by omega)]
    show 1 * S 3 * S 2 * S 1 * S 0 = (S 0 * S 1 + 0) * S 2 * S 3
    rw [Nat.one_mul, Nat.add_zero, Nat.mul_assoc (S 3 * S 2), Nat.mul_comm (S 1) (S 0), Nat.mul_comm (S 3) (S 2), Nat.mul_comm (S 2 * S 3), ← Nat.mul_assoc]
def p4b (m : Nat → Int) (i0 i1 i2 j : Nat) : Bool := (if 2 < nK m then aj_ m i0 1 i1 j else true) && (if 3 < nK m then aj_ m i0 2 i2 j else true)
theorem al_0 {m : Nat → Int} (hl : WL m) (h2 : 2 ≤ nK m) (D : Nat → Nat) : al_ m D 0 = true := by
  have tl := tt_b hl (i := nK m - 1) (by omega)
  have t0 : tt_ m 0 = 0 := by
    show m 41 - m 41 = 0
    omega
  unfold al_
  apply decide_eq_true
  rw [Int.sub_self, Int.zero_mul, t0, Int.mul_zero]
  omega
theorem al_l {m : Nat → Int} (hl : WL m) (h2 : 2 ≤ nK m) (D : Nat → Nat) : al_ m D (nK m - 1) = true := by
  have tl := tt_b hl (i := nK m - 1) (by omega)
  unfold al_
  apply decide_eq_true
  rw [Int.sub_self]
  omega
theorem tP_b {m : Nat → Int} (hl : WL m) (h2 : 2 ≤ nK m) {i0 i1 i2 j : Nat} (a0 : i0 < sz_ m 0) (a1 : i1 < xB m) (a2 : i2 < xC m) (aj : j < xL m) : tP_ m (bk_ m i0 i1 i2 * xL m + j) = p4b m i0 i1 i2 j := by
  obtain ⟨hn, h4⟩ := nK_c hl
  obtain ⟨d0, dl, d1, d2⟩ := dg_K h2 h4 a0 a1 a2 aj
  have z0 := al_0 hl h2 (dg_ (sz_ m) (nK m) (bk_ m i0 i1 i2 * xL m + j))
  have zl := al_l hl h2 (dg_ (sz_ m) (nK m) (bk_ m i0 i1 i2 * xL m + j))
  unfold tP_ p4b
  generalize dg_ (sz_ m) (nK m) (bk_ m i0 i1 i2 * xL m + j) = D at *
  have e1 : 2 < nK m → al_ m D 1 = aj_ m i0 1 i1 j := by
    intro h
    unfold al_ aj_ nb_ nn_
    rw [d0, dl, d1 h]
  have e2 : 3 < nK m → al_ m D 2 = aj_ m i0 2 i2 j := by
    intro h
    unfold al_ aj_ nb_ nn_
    rw [d0, dl, d2 h]
  rcases (show nK m = 2 ∨ nK m = 3 ∨ nK m = 4 by omega) with h | h | h
  · rw [if_neg (by omega), if_neg (by omega), h]
    rw [h] at zl
    show ((true && al_ m D 0) && al_ m D 1) = (true && true)
    rw [z0, show al_ m D 1 = true from zl]
    rfl
  · rw [if_pos (by omega), if_neg (by omega), ← e1 (by omega), h]
    rw [h] at zl
    show (((true && al_ m D 0) && al_ m D 1) && al_ m D 2) = (al_ m D 1 && true)
    rw [z0, show al_ m D 2 = true from zl]
    cases al_ m D 1 <;> rfl
  · rw [if_pos (by omega), if_pos (by omega), ← e1 (by omega), ← e2 (by omega), h]
    rw [h] at zl
    show ((((true && al_ m D 0) && al_ m D 1) && al_ m D 2) && al_ m D 3) = (al_ m D 1 && al_ m D 2)
    rw [z0, show al_ m D 3 = true from zl]
    cases al_ m D 1 <;> cases al_ m D 2 <;> rfl
def FS_ (m : Nat → Int) (kn : Nat) (o : Option (Int32 × Int32 × (Nat → Int32))) : Prop := ∃ r pd pa, nt_ (tP_ m) 0 (tR_ m) kn = some r ∧ o = some (1, pd, pa) ∧ ∀ i, i < nK m → pa i = nI (dg_ (sz_ m) (nK m) r i)
theorem bk_le {m : Nat → Int} {i0 i1 i2 : Nat} (a0 : i0 < sz_ m 0) (a1 : i1 < xB m) (a2 : i2 < xC m) : bk_ m i0 i1 i2 + 1 ≤ bk_ m (sz_ m 0) 0 0 := by
  unfold bk_
  have h1 : (i0 * xB m + i1 + 1) * xC m ≤ (sz_ m 0 * xB m) * xC m := by
    apply Nat.mul_le_mul_right
    have h2 : (i0 + 1) * xB m ≤ sz_ m 0 * xB m := Nat.mul_le_mul_right _ (by omega)
    rw [Nat.add_mul, Nat.one_mul] at h2
    omega
  rw [Nat.add_mul (i0 * xB m + i1) 1, Nat.one_mul] at h1
  simp only [Nat.add_zero]
  omega
theorem ev_sm66 {m : Nat → Int} {lc : Int32} {lz ls pa : Nat → Int32} (hl : WL m) (h2 : 2 ≤ nK m) {i0 i1 : Nat} (a0 : i0 < sz_ m 0) (a1 : i1 < xB m) (hls : ∀ l i, 1 ≤ l → l < nK m - 1 → i < sz_ m l → ls (12 * l + i) = nI (bt_ (aj_ m i0 l i) (sz_ m (nK m - 1)))) (hpa : pa 0 = nI i0)
    (K56 : Int32 → (Nat → Int32) → Int32 → Int32 → Int32 → Int32 → Int32 → Int32 → Option (Int32 × Int32 × (Nat → Int32))) {kn : Nat} (hk : kn < 2 ^ 31) : ∀ d i2 n, i2 + d = xC m → d < n → ct_ (tP_ m) 0 (bk_ m i0 i1 i2 * xL m) ≤ kn →
    FS_ m kn (L_X9_seekMiddle_66 ls lc lz K56 n (nI (ct_ (tP_ m) 0 (bk_ m i0 i1 i2 * xL m))) pa (nI kn) (nI (nK m - 1)) (nI (bt_ (fun _ => true) (xL m))) (nI (xB m)) (nI (xC m)) (nI i1) (nI i2)) ∨
    (ct_ (tP_ m) 0 (bk_ m i0 (i1 + 1) 0 * xL m) ≤ kn ∧ L_X9_seekMiddle_66 ls lc lz K56 n (nI (ct_ (tP_ m) 0 (bk_ m i0 i1 i2 * xL m))) pa (nI kn) (nI (nK m - 1)) (nI (bt_ (fun _ => true) (xL m))) (nI (xB m)) (nI (xC m)) (nI i1) (nI i2) = K56 (nI (ct_ (tP_ m) 0 (bk_ m i0 (i1 + 1) 0 * xL m))) pa (nI kn) (nI (nK m - 1)) (nI (bt_ (fun _ => true) (xL m))) (nI (xB m)) (nI (xC m)) (nI (i1 + 1))) := by
  obtain ⟨hn, h4⟩ := nK_c hl
  have hL12 : xL m ≤ 12 := (sz_c hl (show nK m - 1 < nK m by omega)).2
  have hC12 : xC m ≤ 12 := by
    unfold xC
    split
    · exact (sz_c hl (by omega)).2
    · omega
  have hB12 : xB m ≤ 12 := by
    unfold xB
    split
    · exact (sz_c hl (by omega)).2
    · omega
  intro d
  induction d with
  | zero =>
    intro i2 n e1 e2 e3
    obtain ⟨n, rfl⟩ : ∃ k, n = k + 1 := ⟨n - 1, by omega⟩
    have hi : i2 = xC m := by omega
    have eb : bk_ m i0 i1 i2 = bk_ m i0 (i1 + 1) 0 := by
      unfold bk_
      rw [hi, ← Nat.add_assoc, Nat.add_mul (i0 * xB m + i1) 1, Nat.one_mul, Nat.add_zero]
    right
    rw [L_X9_seekMiddle_66, if_pos (yle_ (by omega) (by omega) (by omega)), nI_s, ← eb]
    exact ⟨e3, rfl⟩
  | succ d ih =>
    intro i2 n e1 e2 e3
    obtain ⟨n, rfl⟩ : ∃ k, n = k + 1 := ⟨n - 1, by omega⟩
    have a2 : i2 < xC m := by omega
    have hcc : ct_ (fun j => tP_ m (bk_ m i0 i1 i2 * xL m + j)) 0 (xL m) = ct_ (p4b m i0 i1 i2) 0 (xL m) := ct_cong (fun j _ hj => tP_b hl h2 a0 a1 a2 (by omega))
    have hco : ct_ (tP_ m) (bk_ m i0 i1 i2 * xL m) (xL m) = ct_ (p4b m i0 i1 i2) 0 (xL m) := by
      have := ct_o (P := tP_ m) (bk_ m i0 i1 i2 * xL m) (xL m) 0
      rw [Nat.add_zero] at this
      rw [this, hcc]
    have hsp : ct_ (tP_ m) 0 ((bk_ m i0 i1 i2 + 1) * xL m) = ct_ (tP_ m) 0 (bk_ m i0 i1 i2 * xL m) + ct_ (p4b m i0 i1 i2) 0 (xL m) := by
      rw [Nat.add_mul, Nat.one_mul, ct_sp, Nat.zero_add, hco]
    have hcb := ct_le (p4b m i0 i1 i2) (xL m) 0
    have hbits : L_X9_seekMiddle_66 ls lc lz K56 (n + 1) (nI (ct_ (tP_ m) 0 (bk_ m i0 i1 i2 * xL m))) pa (nI kn) (nI (nK m - 1)) (nI (bt_ (fun _ => true) (xL m))) (nI (xB m)) (nI (xC m)) (nI i1) (nI i2) = (F_J6_bitCount_0f7a4 (nI (bt_ (p4b m i0 i1 i2) (xL m)))).bind fun r_1 => (if r_1 ≤ (nI kn - nI (ct_ (tP_ m) 0 (bk_ m i0 i1 i2 * xL m))) then (L_X9_seekMiddle_66 ls lc lz K56 n (nI (ct_ (tP_ m) 0 (bk_ m i0 i1 i2 * xL m)) + r_1) pa (nI kn) (nI (nK m - 1)) (nI (bt_ (fun _ => true) (xL m))) (nI (xB m)) (nI (xC m)) (nI i1) (nI i2 + (1 : Int32))) else (J_X9_seekMiddle_145 ls lc lz (nI (ct_ (tP_ m) 0 (bk_ m i0 i1 i2 * xL m))) pa (nI kn) (nI (nK m - 1)) (nI i1) (nI i2) (nI (bt_ (p4b m i0 i1 i2) (xL m))))) := by
      rw [L_X9_seekMiddle_66, if_neg (nle_ (by omega) (by omega) a2)]
      unfold J_X9_seekMiddle_99 J_X9_seekMiddle_124
      rw [show (1 : Int32) = nI 1 from rfl, if_e (nI_le2 (by omega) (by omega)), show (2 : Int32) = nI 2 from rfl, if_e (nI_le2 (by omega) (by omega)), if_e (nI_le2 (by omega) (by omega))]
      rcases (show nK m = 2 ∨ nK m = 3 ∨ nK m = 4 by omega) with h | h | h
      · have e : nI (bt_ (fun _ => true) (xL m)) &&& nI (bt_ (fun _ => true) (xL m)) &&& nI (bt_ (fun _ => true) (xL m)) = nI (bt_ (p4b m i0 i1 i2) (xL m)) := by
          rw [bt_and, bt_and]
          congr 1
          refine bt_cong (fun j hj => ?_)
          unfold p4b
          rw [if_neg (by omega), if_neg (by omega)]
          rfl
        rw [if_pos (by omega), if_pos (by omega), e]
      · have hx : xB m = sz_ m 1 := by unfold xB; rw [if_pos (by omega)]
        have e : nI (bt_ (fun _ => true) (xL m)) &&& nI (bt_ (aj_ m i0 1 i1) (xL m)) &&& nI (bt_ (fun _ => true) (xL m)) = nI (bt_ (p4b m i0 i1 i2) (xL m)) := by
          rw [bt_and, bt_and]
          congr 1
          refine bt_cong (fun j hj => ?_)
          unfold p4b
          rw [if_pos (by omega), if_neg (by omega)]
          cases aj_ m i0 1 i1 j <;> rfl
        rw [if_neg (by omega), if_pos (by omega), show (12 : Int32) = nI 12 from rfl, nI_add, gN_ (by omega) (by decide), nI_clamp (by omega), show ls (12 + i1) = nI (bt_ (aj_ m i0 1 i1) (xL m)) from hls 1 i1 (by omega) (by omega) (by omega), e]
      · have hx : xB m = sz_ m 1 := by unfold xB; rw [if_pos (by omega)]
        have hy : xC m = sz_ m 2 := by unfold xC; rw [if_pos (by omega)]
        have e : nI (bt_ (fun _ => true) (xL m)) &&& nI (bt_ (aj_ m i0 1 i1) (xL m)) &&& nI (bt_ (aj_ m i0 2 i2) (xL m)) = nI (bt_ (p4b m i0 i1 i2) (xL m)) := by
          rw [bt_and, bt_and]
          congr 1
          refine bt_cong (fun j hj => ?_)
          unfold p4b
          rw [if_pos (by omega), if_pos (by omega)]
          cases aj_ m i0 1 i1 j <;> rfl
        rw [if_neg (by omega), if_neg (by omega), show (12 : Int32) = nI 12 from rfl, nI_add, gN_ (by omega) (by decide), nI_clamp (by omega), show ls (12 + i1) = nI (bt_ (aj_ m i0 1 i1) (xL m)) from hls 1 i1 (by omega) (by omega) (by omega), show (24 : Int32) = nI 24 from rfl, nI_add, gN_ (by omega) (by decide), nI_clamp (by omega), show ls (24 + i2) = nI (bt_ (aj_ m i0 2 i2) (xL m)) from hls 2 i2 (by omega) (by omega) (by omega), e]
    have esub : nI kn - nI (ct_ (tP_ m) 0 (bk_ m i0 i1 i2 * xL m)) = nI (kn - ct_ (tP_ m) 0 (bk_ m i0 i1 i2 * xL m)) := by
      rw [iI_nI, iI_nI, iI_sub, iI_nI]
      congr 1
      omega
    rw [hbits, ev_bc12 hL12, bs_, esub, if_e (nI_le2 (by omega) (by omega)), nI_add, nI_s]
    by_cases c : ct_ (p4b m i0 i1 i2) 0 (xL m) ≤ kn - ct_ (tP_ m) 0 (bk_ m i0 i1 i2 * xL m)
    · rw [if_pos c, ← hsp]
      have := ih (i2 + 1) n (by omega) (by omega) (by
        show ct_ (tP_ m) 0 ((bk_ m i0 i1 i2 + 1) * xL m) ≤ kn
        rw [hsp]; omega)
      exact this
    · rw [if_neg c]
      left
      obtain ⟨j, ej, -, hj, -⟩ := nt_lt (P := p4b m i0 i1 i2) (d := xL m) (a := 0) (k := kn - ct_ (tP_ m) 0 (bk_ m i0 i1 i2 * xL m)) (by omega)
      have aj : j < xL m := by omega
      unfold J_X9_seekMiddle_145
      rw [esub, ev_placeOfBit hL12 _ (by omega) ej, bs_, gN_ (by omega) (by decide), nI_clamp (by omega)]
      refine ⟨bk_ m i0 i1 i2 * xL m + j, _, _, ?_, rfl, ?_⟩
      · have hle := Nat.mul_le_mul_right (xL m) (bk_le a0 a1 a2)
        rw [Nat.add_mul, Nat.one_mul] at hle
        rw [xR h2 h4, show bk_ m (sz_ m 0) 0 0 * xL m = bk_ m i0 i1 i2 * xL m + (xL m + (bk_ m (sz_ m 0) 0 0 * xL m - bk_ m i0 i1 i2 * xL m - xL m)) by omega, nt_sp, if_neg (by omega), Nat.zero_add, nt_sp, hco, if_pos (by omega)]
        have := nt_o (P := tP_ m) (bk_ m i0 i1 i2 * xL m) (xL m) 0 (kn - ct_ (tP_ m) 0 (bk_ m i0 i1 i2 * xL m))
        rw [Nat.add_zero] at this
        rw [this, nt_c (Q := p4b m i0 i1 i2) (fun i _ hi => tP_b hl h2 a0 a1 a2 (by omega)), ej]
        rfl
      · obtain ⟨d0, dl, d1, d2⟩ := dg_K h2 h4 a0 a1 a2 aj
        intro i hi
        rw [upd_at]
        by_cases cl : i = nK m - 1
        · rw [if_pos cl, cl, dl]
        · rw [if_neg cl, upd_at]
          by_cases c2 : i = 2
          · rw [if_pos c2, c2, d2 (by omega)]
          · rw [if_neg c2, upd_at]
            by_cases c1 : i = 1
            · rw [if_pos c1, c1, d1 (by omega)]
            · have c0 : i = 0 := by omega
              rw [if_neg c1, c0, d0, hpa]
theorem ev_seekMiddle {m : Nat → Int} {lc : Int32} {lt lz ln ls pa : Nat → Int32} (hl : WL m) (hL : cL m lc lt lz ln) (h2 : 2 ≤ nK m) {i0 : Nat} (a0 : i0 < sz_ m 0) (hls : ∀ l i, 1 ≤ l → l < nK m - 1 → i < sz_ m l → ls (12 * l + i) = nI (bt_ (aj_ m i0 l i) (sz_ m (nK m - 1)))) (hpa : pa 0 = nI i0) {kn : Nat} (hk : kn < 2 ^ 31) (hc : ct_ (tP_ m) 0 (bk_ m i0 0 0 * xL m) ≤ kn) :
    FS_ m kn (F_X9_seekMiddle (nI (ct_ (tP_ m) 0 (bk_ m i0 0 0 * xL m))) ls pa lc lz (nI kn)) ∨ (ct_ (tP_ m) 0 (bk_ m (i0 + 1) 0 0 * xL m) ≤ kn ∧ F_X9_seekMiddle (nI (ct_ (tP_ m) 0 (bk_ m i0 0 0 * xL m))) ls pa lc lz (nI kn) = some (0, nI (ct_ (tP_ m) 0 (bk_ m (i0 + 1) 0 0 * xL m)), pa)) := by
  obtain ⟨hn, h4⟩ := nK_c hl
  obtain ⟨z1, z2⟩ := sz_c hl (show nK m - 1 < nK m by omega)
  have hC12 : xC m ≤ 12 := by
    unfold xC
    split
    · exact (sz_c hl (by omega)).2
    · omega
  have hB12 : xB m ≤ 12 := by
    unfold xB
    split
    · exact (sz_c hl (by omega)).2
    · omega
  have elc : lc - (1 : Int32) = nI (nK m - 1) := by rw [hL.1, hn, ← iI_nI, s1_ (by omega)]
  have e56 : F_X9_seekMiddle (nI (ct_ (tP_ m) 0 (bk_ m i0 0 0 * xL m))) ls pa lc lz (nI kn) = L_X9_seekMiddle_56 ls lc lz fu_ (nI (ct_ (tP_ m) 0 (bk_ m i0 0 0 * xL m))) pa (nI kn) (nI (nK m - 1)) (nI (bt_ (fun _ => true) (xL m))) (nI (xB m)) (nI (xC m)) (nI 0) := by
    unfold F_X9_seekMiddle J_X9_seekMiddle_34
    rw [elc, gN_ (by omega) (by decide), nI_clamp (by omega), (hL.2 (nK m - 1) (by omega)).2.1, z1, ← iI_nI, all_b z2, show (1 : Int32) = nI 1 from rfl, if_e (nI_le2 (by omega) (by omega)), show (2 : Int32) = nI 2 from rfl, if_e (nI_le2 (by omega) (by omega)), if_e (nI_le2 (by omega) (by omega))]
    rcases (show nK m = 2 ∨ nK m = 3 ∨ nK m = 4 by omega) with h | h | h
    · rw [if_pos (by omega), if_pos (by omega)]
      unfold xB xC
      rw [if_neg (by omega), if_neg (by omega)]
      rfl
    · have q1 := (hL.2 1 (by omega)).2.1
      rw [if_neg (by omega), if_pos (by omega), q1, (sz_c hl (show 1 < nK m by omega)).1, ← iI_nI]
      unfold xB xC
      rw [if_pos (by omega), if_neg (by omega)]
      rfl
    · have q1 := (hL.2 1 (by omega)).2.1
      have q2 := (hL.2 2 (by omega)).2.1
      rw [if_neg (by omega), if_neg (by omega), q1, (sz_c hl (show 1 < nK m by omega)).1, ← iI_nI, q2, (sz_c hl (show 2 < nK m by omega)).1, ← iI_nI]
      unfold xB xC
      rw [if_pos (by omega), if_pos (by omega)]
      rfl
  rw [e56]
  have main : ∀ d i1 n, i1 + d = xB m → d < n → ct_ (tP_ m) 0 (bk_ m i0 i1 0 * xL m) ≤ kn →
      FS_ m kn (L_X9_seekMiddle_56 ls lc lz n (nI (ct_ (tP_ m) 0 (bk_ m i0 i1 0 * xL m))) pa (nI kn) (nI (nK m - 1)) (nI (bt_ (fun _ => true) (xL m))) (nI (xB m)) (nI (xC m)) (nI i1)) ∨ (ct_ (tP_ m) 0 (bk_ m (i0 + 1) 0 0 * xL m) ≤ kn ∧ L_X9_seekMiddle_56 ls lc lz n (nI (ct_ (tP_ m) 0 (bk_ m i0 i1 0 * xL m))) pa (nI kn) (nI (nK m - 1)) (nI (bt_ (fun _ => true) (xL m))) (nI (xB m)) (nI (xC m)) (nI i1) = some (0, nI (ct_ (tP_ m) 0 (bk_ m (i0 + 1) 0 0 * xL m)), pa)) := by
    intro d
    induction d with
    | zero =>
      intro i1 n e1 e2 e3
      obtain ⟨n, rfl⟩ : ∃ k, n = k + 1 := ⟨n - 1, by omega⟩
      have hi : i1 = xB m := by omega
      have eb : bk_ m i0 i1 0 = bk_ m (i0 + 1) 0 0 := by
        unfold bk_
        rw [hi, Nat.add_mul i0 1, Nat.one_mul]
        simp only [Nat.add_zero]
      right
      rw [L_X9_seekMiddle_56, if_pos (yle_ (by omega) (by omega) (by omega)), ← eb]
      exact ⟨e3, rfl⟩
    | succ d ih =>
      intro i1 n e1 e2 e3
      obtain ⟨n, rfl⟩ : ∃ k, n = k + 1 := ⟨n - 1, by omega⟩
      have e : L_X9_seekMiddle_56 ls lc lz (n + 1) (nI (ct_ (tP_ m) 0 (bk_ m i0 i1 0 * xL m))) pa (nI kn) (nI (nK m - 1)) (nI (bt_ (fun _ => true) (xL m))) (nI (xB m)) (nI (xC m)) (nI i1) = L_X9_seekMiddle_66 ls lc lz (L_X9_seekMiddle_56 ls lc lz n) fu_ (nI (ct_ (tP_ m) 0 (bk_ m i0 i1 0 * xL m))) pa (nI kn) (nI (nK m - 1)) (nI (bt_ (fun _ => true) (xL m))) (nI (xB m)) (nI (xC m)) (nI i1) (nI 0) := by
        rw [L_X9_seekMiddle_56, if_neg (nle_ (by omega) (by omega) (by omega))]
        rfl
      rw [e]
      rcases ev_sm66 (lc := lc) (lz := lz) hl h2 a0 (show i1 < xB m by omega) hls hpa (L_X9_seekMiddle_56 ls lc lz n) hk (xC m) 0 fu_ (by omega) (fu_lt (by omega)) e3 with q | ⟨q1, q2⟩
      · exact Or.inl q
      · rw [q2]
        exact ih (i1 + 1) n (by omega) (by omega) q1
  exact main (xB m) 0 fu_ (by omega) (fu_lt (by omega)) hc
/-! ===== END ===== -/
