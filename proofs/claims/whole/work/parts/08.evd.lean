/-! ===== BEGIN longs; greatest common divisors; reach, period ===== -/
def lL (a : Int) : Int64 := Int64.ofInt a
abbrev rl (a : Int) : Prop := -9223372036854775808 ≤ a ∧ a < 9223372036854775808
theorem lL_add (a b : Int) : lL a + lL b = lL (a + b) := (Int64.ofInt_add a b).symm
theorem lL_sub (a b : Int) : lL a - lL b = lL (a - b) := (Int64.ofInt_sub a b).symm
theorem lL_mul (a b : Int) : lL a * lL b = lL (a * b) := (Int64.ofInt_mul a b).symm
theorem lL_neg (a : Int) : -(lL a) = lL (-a) := (Int64.ofInt_neg a).symm
theorem lL_toInt {a : Int} (h : rl a) : (lL a).toInt = a := Int64.toInt_ofInt_of_le (by have := h.1; omega) (by have := h.2; omega)
theorem lL_of (x : Int64) : lL x.toInt = x := Int64.ofInt_toInt x
theorem lL_lt {a b : Int} (h1 : rl a) (h2 : rl b) : (lL a < lL b) = (a < b) := by
  rw [Int64.lt_iff_toInt_lt, lL_toInt h1, lL_toInt h2]
theorem lL_le {a b : Int} (h1 : rl a) (h2 : rl b) : (lL a ≤ lL b) = (a ≤ b) := by
  rw [Int64.le_iff_toInt_le, lL_toInt h1, lL_toInt h2]
theorem lL_eq {a b : Int} (h1 : rl a) (h2 : rl b) : (lL a = lL b) = (a = b) := by
  rw [← Int64.toInt_inj, lL_toInt h1, lL_toInt h2]
theorem lL_c0 {a b : Int} (h1 : rl a) (h2 : rl b) : (lg_cmp (lL a) (lL b) = 0) = (a = b) := by
  rw [propext (lg_cmp_eq _ _), lL_eq h1 h2]
theorem lL_cle {a b : Int} (h1 : rl a) (h2 : rl b) : (lg_cmp (lL a) (lL b) ≤ 0) = (a ≤ b) := by
  rw [propext (lg_cmp_le _ _), lL_le h1 h2]
theorem lL_clt {a b : Int} (h1 : rl a) (h2 : rl b) : (lg_cmp (lL a) (lL b) < 0) = (a < b) := by
  rw [propext (lg_cmp_lt _ _), lL_lt h1 h2]
theorem lL_cgt {a b : Int} (h1 : rl a) (h2 : rl b) : (0 < lg_cmp (lL a) (lL b)) = (b < a) := by
  rw [propext (lg_cmp_gt _ _), lL_lt h2 h1]
theorem lL_cge {a b : Int} (h1 : rl a) (h2 : rl b) : (0 ≤ lg_cmp (lL a) (lL b)) = (b ≤ a) := by
  rw [propext (lg_cmp_ge _ _), lL_le h2 h1]
theorem lL_i {a : Int} (h : rg a) : (iI a).toInt64 = lL a := by
  apply Int64.toInt_inj.mp
  rw [Int32.toInt_toInt64, iI_toInt h, lL_toInt (by omega)]
theorem lL_w (x : Int32) : x.toInt64 = lL x.toInt := by
  rw [← lL_of x.toInt64, Int32.toInt_toInt64]
theorem i_lL {a : Int} (h : rg a) : (lL a).toInt32 = iI a := by
  apply Int32.toInt_inj.mp
  rw [Int64.toInt_toInt32, lL_toInt (by omega), iI_toInt h]
  exact Int.bmod_eq_of_le (by omega) (by omega)
theorem lL_div {a b : Int} (h1 : -9223372036854775808 < a) (h2 : a < 9223372036854775808) (h3 : rl b) : lL a / lL b = lL (a.tdiv b) := by
  have ha : lL a ≠ Int64.minValue := by
    intro h
    have h5 := congrArg Int64.toInt h
    rw [lL_toInt (by omega)] at h5
    have h6 : Int64.minValue.toInt = -9223372036854775808 := by decide
    omega
  have h7 := Int64.toInt_div_of_ne_left (lL a) (lL b) ha
  rw [lL_toInt (by omega), lL_toInt h3] at h7
  rw [← h7, lL_of]
theorem lL_quo {a b : Int} (h0 : 0 ≤ a) (h2 : a < 9223372036854775808) (h3 : 0 < b) (h4 : b < 9223372036854775808) : lL a / lL b = lL (a / b) := by
  rw [lL_div (by omega) h2 (by omega), Int.tdiv_eq_ediv_of_nonneg h0]
theorem lL_mod {a b : Int} (h0 : 0 ≤ a) (h2 : a < 9223372036854775808) (h3 : 0 < b) (h4 : b < 9223372036854775808) : lL a - lL a / lL b * lL b = lL (a % b) := by
  rw [lL_quo h0 h2 h3 h4, lL_mul, lL_sub, Int.emod_def, Int.mul_comm b]
theorem lL_ne {a : Int} (h1 : rl a) (h : a ≠ 0) : decide (¬ lL a = 0) = true := by
  have e : (lL a = 0) = (a = 0) := lL_eq (a := a) (b := 0) h1 (by omega)
  exact decide_eq_true (fun h2 => h (e.mp h2))
theorem gc_r (x y : Nat) : Nat.gcd x y = Nat.gcd y (x % y) := by
  rw [Nat.gcd_comm x y, Nat.gcd_rec y x, Nat.gcd_comm (x % y) y]
theorem nI_mod {a b : Nat} (ha : a < 2147483648) (h0 : 0 < b) (hb : b < 2147483648) : nI a - nI a / nI b * nI b = nI (a % b) := by
  rw [iI_nI a, iI_nI b, iI_mod (by omega) (by omega) (by omega) (by omega), ← Int.natCast_emod, ← iI_nI]
theorem nI_quo {a b : Nat} (ha : a < 2147483648) (h0 : 0 < b) (hb : b < 2147483648) : nI a / nI b = nI (a / b) := by
  rw [iI_nI a, iI_nI b, iI_quo (by omega) (by omega) (by omega) (by omega), ← Int.natCast_ediv, ← iI_nI]
theorem nI_nz {a : Nat} (h0 : 0 < a) (h : a < 2147483648) : decide (¬ nI a = 0) = true := by
  rw [iI_nI]
  exact ne_ok (by omega) (by omega)
theorem ev_commonDivisor {x y : Nat} (hx : x < 2147483648) (hy : y ≤ 60) : F_X10_commonDivisor (nI x) (nI y) = some (nI (Nat.gcd x y)) := by
  have main : ∀ d x y i n, y ≤ d → y < n → x < 2147483648 → y + i ≤ 63 → L_X10_commonDivisor_7 n (nI x) (nI y) (nI i) = some (nI (Nat.gcd x y)) := by
    intro d
    induction d with
    | zero =>
      intro x y i n h1 h2 h3 h4
      obtain ⟨n, rfl⟩ : ∃ k, n = k + 1 := ⟨n - 1, by omega⟩
      have : y = 0 := by omega
      subst this
      rw [L_X10_commonDivisor_7, show (64 : Int32) = nI 64 from rfl, if_neg (nle_ (by omega) (by omega) (by omega)), if_pos (show nI 0 ≤ 0 by decide), Nat.gcd_zero_right]
    | succ d ih =>
      intro x y i n h1 h2 h3 h4
      obtain ⟨n, rfl⟩ : ∃ k, n = k + 1 := ⟨n - 1, by omega⟩
      by_cases h0 : y = 0
      · subst h0
        rw [L_X10_commonDivisor_7, show (64 : Int32) = nI 64 from rfl, if_neg (nle_ (by omega) (by omega) (by omega)), if_pos (show nI 0 ≤ 0 by decide), Nat.gcd_zero_right]
      · have hm := Nat.mod_lt x (show 0 < y by omega)
        rw [L_X10_commonDivisor_7, show (64 : Int32) = nI 64 from rfl, if_neg (nle_ (by omega) (by omega) (by omega)), if_neg (show ¬ nI y ≤ 0 from nle_ (b := 0) (by omega) (by decide) (by omega)), gd_ok (nI_nz (by omega) (by omega)), nI_mod h3 (by omega) (by omega), nI_s, ih y (x % y) (i + 1) n (by omega) (by omega) (by omega) (by omega), ← gc_r]
  exact main 60 x y 0 fu_ hy (fu_lt (by omega)) hx (by omega)
def lc_ (a b : Nat) : Nat := a / Nat.gcd a b * b
theorem lc_b {a b : Nat} (ha : 0 < a) (hb : 0 < b) : 0 < lc_ a b ∧ lc_ a b ≤ a * b ∧ a ≤ lc_ a b := by
  have hg : 0 < Nat.gcd a b := Nat.gcd_pos_of_pos_left b ha
  obtain ⟨q, hq⟩ := Nat.gcd_dvd_left a b
  obtain ⟨r, hr⟩ := Nat.gcd_dvd_right a b
  have e : a / Nat.gcd a b = q := by
    have h := Nat.mul_div_cancel_left q hg
    rw [← hq] at h
    exact h
  unfold lc_
  rw [e]
  have hq0 : 0 < q := by
    rcases Nat.eq_zero_or_pos q with h | h
    · rw [h] at hq; omega
    · exact h
  have hr0 : 0 < r := by
    rcases Nat.eq_zero_or_pos r with h | h
    · rw [h] at hr; omega
    · exact h
  refine ⟨Nat.mul_pos hq0 hb, ?_, ?_⟩
  · apply Nat.mul_le_mul_right
    rw [hq]
    exact Nat.le_mul_of_pos_left q hg
  · have h1 : a = Nat.gcd a b * q := hq
    have h2 : Nat.gcd a b ≤ b := Nat.le_of_dvd hb (Nat.gcd_dvd_right a b)
    calc a = Nat.gcd a b * q := h1
      _ ≤ b * q := Nat.mul_le_mul_right q h2
      _ = q * b := Nat.mul_comm b q
theorem ev_leastCommon {a b : Nat} (ha : 0 < a ∧ a < 2147483648) (hb : 0 < b ∧ b ≤ 60) : F_X10_leastCommon (nI a) (nI b) = some (nI (lc_ a b)) := by
  have hg : 0 < Nat.gcd a b := Nat.gcd_pos_of_pos_left b ha.1
  have hg2 : Nat.gcd a b ≤ b := Nat.le_of_dvd hb.1 (Nat.gcd_dvd_right a b)
  unfold F_X10_leastCommon lc_
  rw [ev_commonDivisor ha.2 hb.2, bs_, if_neg (show ¬ nI (Nat.gcd a b) ≤ 0 from nle_ (b := 0) (by omega) (by decide) hg), gd_ok (nI_nz hg (by omega)), nI_quo ha.2 hg (by omega), pk_mul]
theorem ev_measure {x y : Nat} (hx : x < 9223372036854775808) (hy : y ≤ 1000) : F_X11_measure (lL x) (lL y) = some (lL (Nat.gcd x y : Nat)) := by
  have main : ∀ d (x y n : Nat), y ≤ d → y < n → x < 9223372036854775808 → y ≤ 1000 → L_X11_measure_6 n (lL x) (lL y) = some (lL (Nat.gcd x y : Nat)) := by
    intro d
    induction d with
    | zero =>
      intro x y n h1 h2 h3 h4
      obtain ⟨n, rfl⟩ : ∃ k, n = k + 1 := ⟨n - 1, by omega⟩
      have : y = 0 := by omega
      subst this
      rw [L_X11_measure_6, if_pos (show lg_cmp (lL ((0 : Nat) : Int)) 0 = 0 by decide), Nat.gcd_zero_right]
    | succ d ih =>
      intro x y n h1 h2 h3 h4
      obtain ⟨n, rfl⟩ : ∃ k, n = k + 1 := ⟨n - 1, by omega⟩
      by_cases h0 : y = 0
      · subst h0
        rw [L_X11_measure_6, if_pos (show lg_cmp (lL ((0 : Nat) : Int)) 0 = 0 by decide), Nat.gcd_zero_right]
      · have hm := Nat.mod_lt x (show 0 < y by omega)
        rw [L_X11_measure_6, if_neg (show ¬ lg_cmp (lL (y : Int)) 0 = 0 by rw [show (0 : Int64) = lL 0 from rfl, lL_c0 (by omega) (by omega)]; omega), gd_ok (lL_ne (by omega) (by omega)), lL_mod (by omega) (by omega) (by omega) (by omega), ← Int.natCast_emod, ih y (x % y) n (by omega) (by omega) (by omega) (by omega), ← gc_r]
  exact main 1000 x y fu_ (by omega) (fu_lt (by omega)) hx (by omega)
/-- the reach of a set of gaps, by the first k -/
def rc_ (m : Nat → Int) (s : Nat) : Nat → Nat
  | 0 => 1
  | k + 1 => if s.testBit k then lc_ (rc_ m s k) (m (1 + k)).toNat else rc_ m s k
theorem rc_b {m : Nat → Int} (hg : WG m) (s : Nat) : ∀ k, k ≤ nG m → 0 < rc_ m s k ∧ rc_ m s k ≤ 60 ^ k
  | 0, _ => by unfold rc_; omega
  | k + 1, h => by
    have ih := rc_b hg s k (by omega)
    obtain ⟨hn, h5⟩ := nG_c hg
    have hb := hg.2.2.1 k (by omega)
    unfold rc_
    have e : 60 ^ (k + 1) = 60 ^ k * 60 := Nat.pow_succ 60 k
    have h6 : rc_ m s k * (m (1 + k)).toNat ≤ 60 ^ k * 60 := Nat.mul_le_mul ih.2 (by omega)
    split
    · have h7 := lc_b (a := rc_ m s k) (b := (m (1 + k)).toNat) ih.1 (by omega)
      omega
    · omega
theorem p60 {k : Nat} (h : k ≤ 5) : 60 ^ k ≤ 777600000 := by
  have := Nat.pow_le_pow_right (n := 60) (by decide) h
  omega
theorem on_3 {n k : Nat} (hn : n < 32) (hk : k < 8) : ((nI n >>> (nI k &&& 31)) &&& (1 : Int32) = 0) = (¬ n.testBit k = true) := by
  rw [on_1 n hn k hk]
  cases n.testBit k <;> simp
theorem on_4 {n k : Nat} (hn : n < 32) (hk : k < 8) : ((nI n >>> (nI k &&& 31)) &&& (1 : Int32) = 1) = (n.testBit k = true) := by
  rw [on_1 n hn k hk]
  cases n.testBit k <;> simp
theorem ev_reachOf {m : Nat → Int} {all : Nat → Int32} (hg : WG m) (hA : rA m all) {s : Nat} (hs : s < 32) : F_X11_reachOf all (nI s) = some (lL (rc_ m s (nG m))) := by
  obtain ⟨hn, h5⟩ := nG_c hg
  have hgc : all 0 = nI (nG m) := by rw [hA 0 (by decide), hn, iI_nI]
  refine lp_S (fun n k => L_X11_reachOf_5 all n (nI s) (lL (rc_ m s k)) (nI k)) (nG m) _ ?_ ?_ (nG m) 0 fu_ (by omega) (fu_lt (by omega))
  · intro n k hk
    have hb := hg.2.2.1 k (by omega)
    have hr := rc_b hg s k (by omega)
    have hp := p60 (show k ≤ 5 by omega)
    have hgp : 0 < Nat.gcd (rc_ m s k) (m (1 + k)).toNat := Nat.gcd_pos_of_pos_left _ hr.1
    have hg2 : Nat.gcd (rc_ m s k) (m (1 + k)).toNat ≤ (m (1 + k)).toNat := Nat.le_of_dvd (by omega) (Nat.gcd_dvd_right _ _)
    show L_X11_reachOf_5 all (n + 1) (nI s) (lL (rc_ m s k)) (nI k) = _
    rw [L_X11_reachOf_5, hgc, if_neg (nle_ (by omega) (by omega) hk), if_e (on_4 hs (by omega)), ev_gapAt hA (by omega), bs_, lL_i (by omega), show m (1 + k) = ((m (1 + k)).toNat : Int) by omega, ev_measure (by omega) (by omega), bs_, gd_ok (lL_ne (by omega) (by omega)), bs_, lL_quo (by omega) (by omega) (by omega) (by omega), lL_i (by omega), lL_mul, nI_s]
    conv => rhs; unfold rc_
    by_cases c : s.testBit k = true
    · rw [if_pos c, if_pos c]
      unfold lc_
      rw [← Int.natCast_ediv, ← Int.natCast_mul]
    · rw [if_neg c, if_neg c]
  · intro n
    show L_X11_reachOf_5 all (n + 1) (nI s) (lL (rc_ m s (nG m))) (nI (nG m)) = _
    rw [L_X11_reachOf_5, hgc, if_pos (yle_ (by omega) (by omega) (Nat.le_refl _))]
/-- reach(gaps, scale) -/
def qr_ (m : Nat → Int) (x y : Int32) : Int32 :=
  if 0 ≤ x.toInt ∧ x.toInt ≤ ((2 ^ nG m : Nat) : Int) - 1 then
    (if lg_cmp (lL (rc_ m x.toInt.toNat (nG m)) * y.toInt64) (((lL (rc_ m x.toInt.toNat (nG m)) * y.toInt64)).toInt32).toInt64 = 0 then ((lL (rc_ m x.toInt.toNat (nG m)) * y.toInt64)).toInt32 else -2147483648) else -2147483648
theorem p2_b {n : Nat} (h : n ≤ 5) : 2 ^ n ≤ 32 ∧ 1 ≤ 2 ^ n := ⟨Nat.pow_le_pow_right (n := 2) (by decide) h, Nat.one_le_two_pow⟩
theorem ev_reach {m : Nat → Int} {gc : Int32} {gaps : Nat → Int32} (hg : WG m) (hG : cG m gc gaps) (x y : Int32) : F_X10_reach gc gaps x y = some (qr_ m x y) := by
  obtain ⟨hn, h5⟩ := nG_c hg
  have hgc : gc = nI (nG m) := by rw [hG.1, hn, iI_nI]
  obtain ⟨p1, p2⟩ := p2_b h5
  obtain ⟨a, ha, rfl⟩ := iI_ex x
  unfold F_X10_reach qr_
  rw [hgc, sh_1 _ (by omega), show nI (2 ^ nG m) - (1 : Int32) = iI (((2 ^ nG m : Nat) : Int) - 1) by rw [iI_nI, show (1 : Int32) = iI 1 from rfl, iI_sub], show F_X10_isWithin (iI a) 0 _ = _ from ev_within ha (b := 0) (by omega) (by omega), bs_, ib_, iI_toInt ha]
  by_cases c : 0 ≤ a ∧ a ≤ ((2 ^ nG m : Nat) : Int) - 1
  · rw [if_pos (decide_eq_true c), if_pos c, iN c.1]
    have hs : a.toNat < 32 := by omega
    generalize a.toNat = s at hs
    refine lp_S (fun n k => L_X10_reach_28 (nI (nG m)) gaps n (nI s) y (nI (rc_ m s k)) (nI k)) (nG m) _ ?_ ?_ (nG m) 0 fu_ (by omega) (fu_lt (by omega))
    · intro n k hk
      have hb := hg.2.2.1 k (by omega)
      have hr := rc_b hg s k (by omega)
      have hp := p60 (show k ≤ 5 by omega)
      show L_X10_reach_28 (nI (nG m)) gaps (n + 1) (nI s) y (nI (rc_ m s k)) (nI k) = _
      rw [L_X10_reach_28, if_neg (nle_ (by omega) (by omega) hk), if_e (on_3 hs (by omega)), gN_ (by omega) (by decide), nI_clamp (by omega), hG.2 k (by omega), iN (by omega), ev_leastCommon (by omega) (by omega), bs_, nI_s]
      conv => rhs; unfold rc_
      by_cases c : s.testBit k = true
      · rw [if_neg (fun h => h c), if_pos c]
      · rw [if_pos c, if_neg c]
    · intro n
      have hr := rc_b hg s (nG m) (by omega)
      have hp := p60 h5
      show L_X10_reach_28 (nI (nG m)) gaps (n + 1) (nI s) y (nI (rc_ m s (nG m))) (nI (nG m)) = _
      rw [L_X10_reach_28, if_pos (yle_ (by omega) (by omega) (Nat.le_refl _))]
      unfold J_X10_reach_70
      rw [iI_nI (rc_ _ _ _), lL_i (by omega)]
      split <;> rfl
  · rw [if_neg (by simpa using c), if_neg c]
theorem ev_rreach {m : Nat → Int} {all : Nat → Int32} (hg : WG m) (hA : rA m all) (ra x y : Int32) : F_X11_reach ra all x y = some (qr_ m x y, 0) := by
  obtain ⟨hn, h5⟩ := nG_c hg
  have hgc : all 0 = nI (nG m) := by rw [hA 0 (by decide), hn, iI_nI]
  obtain ⟨p1, p2⟩ := p2_b h5
  obtain ⟨a, ha, rfl⟩ := iI_ex x
  unfold F_X11_reach qr_
  rw [hgc, sh_1 _ (by omega), show nI (2 ^ nG m) - (1 : Int32) = iI (((2 ^ nG m : Nat) : Int) - 1) by rw [iI_nI, show (1 : Int32) = iI 1 from rfl, iI_sub], show F_X11_in (iI a) 0 _ = _ from ev_in ha (b := 0) (by omega) (by omega), bs_, ib_, iI_toInt ha]
  by_cases c : 0 ≤ a ∧ a ≤ ((2 ^ nG m : Nat) : Int) - 1
  · rw [if_pos (decide_eq_true c), if_pos c, iN c.1, ev_reachOf hg hA (by omega), bs_]
    split <;> rfl
  · rw [if_neg (by simpa using c), if_neg c]
/-! ===== END ===== -/
