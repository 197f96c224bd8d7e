/-! ===== BEGIN blind and dark, by the class and by the reference ===== -/
theorem ev_in {a b c : Int} (ha : rg a) (hb : rg b) (hc : rg c) : F_X11_in (iI a) (iI b) (iI c) = some (bI (decide (b ≤ a ∧ a ≤ c))) := by
  unfold F_X11_in
  rw [if_e (iI_lt ha hb), if_e (iI_lt hc ha)]
  by_cases h1 : a < b
  · rw [if_pos h1, decide_eq_false (by omega)]; rfl
  · rw [if_neg h1]
    by_cases h2 : c < a
    · rw [if_pos h2, decide_eq_false (by omega)]; rfl
    · rw [if_neg h2, decide_eq_true (by omega)]; rfl
theorem ev_within {a b c : Int} (ha : rg a) (hb : rg b) (hc : rg c) : F_X10_isWithin (iI a) (iI b) (iI c) = some (bI (decide (b ≤ a ∧ a ≤ c))) := ev_in ha hb hc
theorem ev_isSpeed {a : Int} (ha : rg a) : F_X10_isSpeed (iI a) = some (bI (decide (-500 ≤ a ∧ a ≤ 500))) := by
  unfold F_X10_isSpeed
  rw [show (-500 : Int32) = iI (-500) from rfl, show (500 : Int32) = iI 500 from rfl, ev_within ha (by omega) (by omega)]
  exact gd_ok bI_n
theorem ev_isGap {a : Int} (ha : rg a) : F_X10_isGap (iI a) = some (bI (decide (4 ≤ a ∧ a ≤ 60))) := by
  unfold F_X10_isGap
  rw [show (4 : Int32) = iI 4 from rfl, show (60 : Int32) = iI 60 from rfl, ev_within ha (by omega) (by omega)]
  exact gd_ok bI_n
theorem ev_isBlind {m : Nat → Int} {all : Nat → Int32} (hw : WS m) (hA : rA m all) {v g : Int} (hv : -500 ≤ v ∧ v ≤ 500) (hg : 0 ≤ g ∧ g ≤ 63) : F_X11_isBlind all (iI v) (iI g) = some (bI (bl_ m v g)) := by
  obtain ⟨h6, h7, -⟩ := hw
  have hvg : -31500 ≤ v * g ∧ v * g ≤ 31500 := by
    have a1 : v * g ≤ 500 * g := Int.mul_le_mul_of_nonneg_right hv.2 hg.1
    have a2 : (-500) * g ≤ v * g := Int.mul_le_mul_of_nonneg_right hv.1 hg.1
    omega
  have hm := Int.emod_nonneg (v * g) (show m 6 ≠ 0 by omega)
  have hm2 := Int.emod_lt_of_pos (v * g) (show 0 < m 6 by omega)
  unfold F_X11_isBlind
  rw [hA 6 (by decide), hA 7 (by decide), iI_mul, ev_rrest (by omega) (by omega) (by omega) (by omega)]
  show (if iI (v * g % m 6) ≤ iI (m 7) then some (1 : Int32) else if iI (v * g % m 6) < iI (m 6) - iI (m 7) then some 0 else some 1) = _
  rw [iI_sub, if_e (iI_le (by omega) (by omega)), if_e (iI_lt (by omega) (by omega))]
  unfold bl_
  by_cases c1 : v * g % m 6 ≤ m 7
  · rw [if_pos c1, decide_eq_true (Or.inl c1)]; rfl
  · rw [if_neg c1]
    by_cases c2 : v * g % m 6 < m 6 - m 7
    · rw [if_pos c2, decide_eq_false (by omega)]; rfl
    · rw [if_neg c2, decide_eq_true (by omega)]; rfl
theorem ev_gapAt {m : Nat → Int} {all : Nat → Int32} (hA : rA m all) {k : Nat} (hk : k < 96) : F_X11_gapAt all (nI k) = some (iI (m (1 + k))) := by
  unfold F_X11_gapAt
  rw [show (1 : Int32) + nI k = nI (1 + k) from nI_add 1 k, gd_ok (in_N (by omega) (by decide)), nI_clamp (by omega), hA _ (by omega)]
theorem ev_blindBits {m : Nat → Int} {all : Nat → Int32} (hg : WG m) (hw : WS m) (hA : rA m all) {v : Int} (hv : -500 ≤ v ∧ v ≤ 500) :
    F_X11_blindBits all (iI v) = some (nI (bt_ (fun k => bl_ m v (m (1 + k))) (nG m))) := by
  obtain ⟨hn, h5⟩ := nG_c hg
  have hgc : all 0 = nI (nG m) := by rw [hA 0 (by decide), hn, iI_nI]
  refine lp_bt (P := fun k => bl_ m v (m (1 + k))) (N := nG m) (fun n x k => L_X11_blindBits_4 all n (iI v) x k) some (by omega) ?_ ?_ (nG m) 0 fu_ (by omega) (fu_lt (by omega))
  · intro n x k hk
    have hb := hg.2.2.1 k (by omega)
    show L_X11_blindBits_4 all (n + 1) (iI v) x (nI k) = _
    rw [L_X11_blindBits_4, hgc, if_neg (by rw [nI_le2 (by omega) (by omega)]; omega), ev_gapAt hA (by omega)]
    show (F_X11_isBlind all (iI v) (iI (m (1 + k)))).bind _ = _
    rw [ev_isBlind hw hA hv (by omega)]
    show (if bI (bl_ m v (m (1 + k))) = 0 then _ else _) = _
    rw [ib_, nI_s, or_0]
  · intro n x
    show L_X11_blindBits_4 all (n + 1) (iI v) x (nI (nG m)) = some x
    rw [L_X11_blindBits_4, hgc, if_pos (by rw [nI_le2 (by omega) (by omega)]; omega)]
/-- how many of the lowest five bits stand -/
def pc_ (n : Nat) : Nat := ct_ (fun k => n.testBit k) 0 5
theorem ev_bitCount : ∀ n, n < 32 → F_J6_bitCount_0f7a4 (nI n) = some (nI (pc_ n)) := by decide +kernel
theorem on_1 : ∀ n, n < 32 → ∀ k, k < 8 → (nI n >>> (nI k &&& 31)) &&& (1 : Int32) = if n.testBit k then 1 else 0 := by decide +kernel
theorem on_2 : ∀ n, n < 32 → ct_ (fun k => n.testBit k) 0 8 = pc_ n := by decide +kernel
theorem ev_ones {b : Nat} (hb : b < 32) : F_X11_ones (nI b) = some (nI (pc_ b)) := by
  have h := lp_ct (P := fun k => b.testBit k) (N := 8) (fun n x k => L_X11_ones_4 n (nI b) x k) some ?_ ?_ 8 0 fu_ 0 (by omega) (fu_lt (by omega))
  · rw [Nat.zero_add, on_2 b hb] at h
    exact h
  · intro n x k hk
    show L_X11_ones_4 (n + 1) (nI b) x (nI k) = _
    rw [L_X11_ones_4, if_neg (by rw [show (8 : Int32) = nI 8 from rfl, nI_le2 (by omega) (by omega)]; omega), on_1 b hb k hk, nI_s]
    by_cases hp : b.testBit k = true
    · rw [if_pos hp, if_pos hp]
    · rw [if_neg hp, if_neg hp]
      congr 1
      apply Int32.toBitVec.inj
      simp
  · intro n x
    show L_X11_ones_4 (n + 1) (nI b) x (nI 8) = some x
    rw [L_X11_ones_4, if_pos (by rw [show (8 : Int32) = nI 8 from rfl, nI_le2 (by omega) (by omega)]; omega)]
theorem ct_cut {P : Nat → Bool} {N : Nat} : ∀ d a, a ≤ N → N ≤ a + d → ct_ (fun k => decide (k < N) && P k) a d = ct_ P a (N - a)
  | 0, a, h1, h2 => by
    have : N - a = 0 := by omega
    rw [this]; rfl
  | d + 1, a, h1, h2 => by
    by_cases h : a = N
    · subst h
      have e : ∀ k, a ≤ k → k < a + (d + 1) → (decide (k < a) && P k) = false := fun k h3 _ => by rw [decide_eq_false (by omega)]; rfl
      rw [ct_cong e, Nat.sub_self]
      have z : ∀ d a, ct_ (fun _ => false) a d = 0 := by
        intro d
        induction d with
        | zero => intro a; rfl
        | succ d ih => intro a; unfold ct_; rw [ih]; rfl
      exact z _ _
    · have e : N - a = (N - (a + 1)) + 1 := by omega
      rw [e]
      unfold ct_
      rw [ct_cut d (a + 1) (by omega) (by omega), decide_eq_true (show a < N by omega), Bool.true_and]
theorem pc_bt {P : Nat → Bool} {N : Nat} (h : N ≤ 5) : pc_ (bt_ P N) = ct_ P 0 N := by
  unfold pc_
  rw [ct_cong (Q := fun k => decide (k < N) && P k) (fun k _ _ => bt_bit P N k), ct_cut 5 0 (by omega) (by omega), Nat.sub_zero]
theorem bt_32 {P : Nat → Bool} {N : Nat} (h : N ≤ 5) : bt_ P N < 32 := by
  have h1 := bt_lt P N
  have h2 : 2 ^ N ≤ 2 ^ 5 := Nat.pow_le_pow_right (by decide) h
  omega
/-- by how many gaps a speed is blind -/
def bc_ (m : Nat → Int) (v : Int) : Nat := ct_ (fun k => bl_ m v (m (1 + k))) 0 (nG m)
def dk_ (m : Nat → Int) (v : Int) : Bool := decide ((nG m : Int) - bc_ m v < m 10)
theorem bc_le (m : Nat → Int) (v : Int) : bc_ m v ≤ nG m := ct_le _ _ _
theorem ev_countOpen {m : Nat → Int} {gc : Int32} {gaps st : Nat → Int32} (hg : WG m) (hw : WS m) (hG : cG m gc gaps) (hS : cS m st) {v : Int} (hv : -500 ≤ v ∧ v ≤ 500) :
    F_X7_countOpen gc gaps st (iI v) = some (iI ((nG m : Int) - bc_ m v)) := by
  obtain ⟨hn, h5⟩ := nG_c hg
  unfold F_X7_countOpen
  rw [ev_blindGaps hg hw hG hS hv, bs_, ev_bitCount _ (bt_32 h5), pc_bt h5]
  show some (gc - nI (bc_ m v)) = _
  rw [hG.1, hn, iI_nI, iI_sub]
theorem ev_isDark {m : Nat → Int} {all : Nat → Int32} (hg : WG m) (hw : WS m) (hA : rA m all) {v : Int} (hv : -500 ≤ v ∧ v ≤ 500) :
    F_X11_isDark all (iI v) = some (bI (dk_ m v)) := by
  obtain ⟨hn, h5⟩ := nG_c hg
  have hb := bc_le m v
  obtain ⟨-, -, -, -, h10, -⟩ := id hw
  unfold F_X11_isDark
  rw [ev_blindBits hg hw hA hv, bs_, ev_ones (bt_32 h5), pc_bt h5]
  show (if all 10 ≤ all 0 - nI (bc_ m v) then some (0 : Int32) else some 1) = _
  rw [hA 10 (by decide), hA 0 (by decide), hn, iI_nI, iI_sub, if_e (iI_le (by omega) (by omega))]
  unfold dk_
  by_cases c : m 10 ≤ (nG m : Int) - (bc_ m v : Int)
  · rw [if_pos c, decide_eq_false (by omega)]; rfl
  · rw [if_neg c, decide_eq_true (by omega)]; rfl
/-! ===== END ===== -/
