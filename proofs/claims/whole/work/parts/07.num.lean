/-! ===== BEGIN numbers: ints of the machine told by whole numbers ===== -/
def iI (a : Int) : Int32 := Int32.ofInt a
abbrev rg (a : Int) : Prop := -2147483648 ≤ a ∧ a < 2147483648
theorem iI_lit (n : Nat) : (OfNat.ofNat n : Int32) = iI (OfNat.ofNat n : Int) := (Int32.ofInt_eq_ofNat (n := n)).symm
theorem iI_nI (n : Nat) : nI n = iI (n : Int) := (Int32.ofInt_eq_ofNat (n := n)).symm
theorem iI_add (a b : Int) : iI a + iI b = iI (a + b) := (Int32.ofInt_add a b).symm
theorem iI_sub (a b : Int) : iI a - iI b = iI (a - b) := (Int32.ofInt_sub a b).symm
theorem iI_mul (a b : Int) : iI a * iI b = iI (a * b) := (Int32.ofInt_mul a b).symm
theorem iI_neg (a : Int) : -(iI a) = iI (-a) := (Int32.ofInt_neg a).symm
theorem iI_toInt {a : Int} (h : rg a) : (iI a).toInt = a := Int32.toInt_ofInt_of_le (by have := h.1; omega) (by have := h.2; omega)
theorem iI_of (x : Int32) : iI x.toInt = x := Int32.ofInt_toInt x
theorem iI_ex (x : Int32) : ∃ a : Int, rg a ∧ x = iI a := ⟨x.toInt, ⟨by have := x.le_toInt; omega, by have := x.toInt_lt; omega⟩, (iI_of x).symm⟩
theorem iI_lt {a b : Int} (h1 : rg a) (h2 : rg b) : (iI a < iI b) = (a < b) := by
  rw [Int32.lt_iff_toInt_lt, iI_toInt h1, iI_toInt h2]
theorem iI_le {a b : Int} (h1 : rg a) (h2 : rg b) : (iI a ≤ iI b) = (a ≤ b) := by
  rw [Int32.le_iff_toInt_le, iI_toInt h1, iI_toInt h2]
theorem iI_eq {a b : Int} (h1 : rg a) (h2 : rg b) : (iI a = iI b) = (a = b) := by
  rw [← Int32.toInt_inj, iI_toInt h1, iI_toInt h2]
theorem iI_clamp {a : Int} (h : rg a) : (iI a).toNatClampNeg = a.toNat := by
  show (iI a).toInt.toNat = _
  rw [iI_toInt h]
theorem iI_clN {a : Nat} (h2 : (a : Int) < 2147483648) : (iI (a : Int)).toNatClampNeg = a := by
  rw [iI_clamp (by omega)]; rfl
theorem iI_div {a b : Int} (h1 : -2147483648 < a) (h2 : a < 2147483648) (h3 : rg b) : iI a / iI b = iI (a.tdiv b) := by
  have ha : iI a ≠ Int32.minValue := by
    intro h
    have h5 := congrArg Int32.toInt h
    rw [iI_toInt (by omega)] at h5
    have h6 : Int32.minValue.toInt = -2147483648 := by decide
    omega
  have h7 := Int32.toInt_div_of_ne_left (iI a) (iI b) ha
  rw [iI_toInt (by omega), iI_toInt h3] at h7
  rw [← h7, iI_of]
theorem iI_rem {a b : Int} (h1 : -2147483648 < a) (h2 : a < 2147483648) (h3 : rg b) : iI a - iI a / iI b * iI b = iI (a.tmod b) := by
  rw [iI_div h1 h2 h3, iI_mul, iI_sub, Int.tmod_def, Int.mul_comm b]
/-- the remainder where nothing is below 0 -/
theorem iI_mod {a b : Int} (h0 : 0 ≤ a) (h2 : a < 2147483648) (h3 : 0 < b) (h4 : b < 2147483648) : iI a - iI a / iI b * iI b = iI (a % b) := by
  rw [iI_rem (by omega) h2 (by omega), Int.tmod_eq_emod_of_nonneg h0]
theorem iI_quo {a b : Int} (h0 : 0 ≤ a) (h2 : a < 2147483648) (h3 : 0 < b) (h4 : b < 2147483648) : iI a / iI b = iI (a / b) := by
  rw [iI_div (by omega) h2 (by omega), Int.tdiv_eq_ediv_of_nonneg h0]
theorem iI_l0 {a : Int} (h1 : rg a) : (iI a < 0) = (a < 0) := iI_lt (a := a) (b := 0) h1 (by omega)
theorem iI_inb {a : Int} {n : Nat} (h : rg a) : in_b (iI a) n = decide (0 ≤ a ∧ a < n) := by
  unfold in_b
  rw [iI_clamp h]
  have e := iI_l0 h
  by_cases ha : a < 0
  · have : ¬ (0 ≤ a ∧ a < n) := by omega
    simp [e, ha, this]
  · have hb : Nat.blt a.toNat n = decide (0 ≤ a ∧ a < n) := by
      by_cases hc : a < n
      · have h5 : a.toNat < n := by omega
        rw [show Nat.blt a.toNat n = true from Nat.ble_eq_true_of_le h5]
        symm
        exact decide_eq_true ⟨by omega, hc⟩
      · have h5 : ¬ a.toNat < n := by omega
        have h3 : Nat.blt a.toNat n = false := by
          cases hx : Nat.blt a.toNat n with
          | false => rfl
          | true => exact absurd (Nat.le_of_ble_eq_true hx) h5
        rw [h3]
        symm
        exact decide_eq_false (by omega)
    simp [e, ha, hb]
theorem in_ok {a : Int} {n : Nat} (h0 : 0 ≤ a) (h1 : a < n) (h2 : a < 2147483648) : in_b (iI a) n = true := by
  rw [iI_inb (by omega)]
  exact decide_eq_true ⟨h0, h1⟩
theorem in_no {a : Int} {n : Nat} (h : rg a) (h1 : ¬ (0 ≤ a ∧ a < n)) : in_b (iI a) n = false := by
  rw [iI_inb h]
  exact decide_eq_false h1
theorem ne_ok {a : Int} (h1 : rg a) (h : a ≠ 0) : decide (¬ iI a = 0) = true := by
  have e : (iI a = 0) = (a = 0) := iI_eq (a := a) (b := 0) h1 (by omega)
  exact decide_eq_true (fun h2 => h (e.mp h2))
/-- a truth as the machine has it -/
def bI (b : Bool) : Int32 := if b then 1 else 0
theorem bI_t : bI true = 1 := rfl
theorem bI_f : bI false = 0 := rfl
theorem bI_0 {b : Bool} : (bI b = 0) = (b = false) := by cases b <;> simp [bI]
theorem bI_n {b : Bool} : decide (bI b &&& 1 = bI b) = true := by cases b <;> decide
theorem bI_if {c : Prop} {h : Decidable c} : (if c then (1 : Int32) else 0) = bI (decide c) := by
  by_cases hc : c <;> simp [bI, hc]
/-- the sum of the powers of two whose places hold -/
def bt_ (p : Nat → Bool) : Nat → Nat
  | 0 => 0
  | n + 1 => bt_ p n + (if p n then 2 ^ n else 0)
theorem bt_lt (p : Nat → Bool) : ∀ n, bt_ p n < 2 ^ n
  | 0 => Nat.one_pos
  | n + 1 => by
    have h := bt_lt p n
    have e : 2 ^ (n + 1) = 2 ^ n + 2 ^ n := by omega
    unfold bt_
    split <;> omega
theorem bt_cong {p q : Nat → Bool} : ∀ {n : Nat}, (∀ k, k < n → p k = q k) → bt_ p n = bt_ q n
  | 0, _ => rfl
  | n + 1, h => by
    unfold bt_
    rw [bt_cong (fun k hk => h k (by omega)), h n (by omega)]
theorem bt_bit (p : Nat → Bool) : ∀ (n k : Nat), (bt_ p n).testBit k = (decide (k < n) && p k)
  | 0, k => by simp [bt_]
  | n + 1, k => by
    have h := bt_lt p n
    have ih := bt_bit p n k
    unfold bt_
    by_cases hp : p n = true
    · rw [if_pos hp, Nat.add_comm]
      rcases Nat.lt_trichotomy k n with q | q | q
      · rw [Nat.testBit_two_pow_add_gt q, ih]
        have h1 : decide (k < n) = true := decide_eq_true q
        have h2 : decide (k < n + 1) = true := decide_eq_true (by omega)
        rw [h1, h2]
      · subst q
        rw [Nat.testBit_two_pow_add_eq, Nat.testBit_lt_two_pow h]
        simp [hp]
      · have hk : 2 ^ n + bt_ p n < 2 ^ k := by
          have h3 : 2 ^ (n + 1) ≤ 2 ^ k := Nat.pow_le_pow_right (by decide) q
          have e : 2 ^ (n + 1) = 2 ^ n + 2 ^ n := by omega
          omega
        rw [Nat.testBit_lt_two_pow hk]
        have h2 : decide (k < n + 1) = false := decide_eq_false (by omega)
        rw [h2]; rfl
    · rw [if_neg hp, Nat.add_zero, ih]
      have hp : p n = false := by simpa using hp
      by_cases hk : k = n
      · subst hk
        rw [hp]; simp
      · have e : decide (k < n) = decide (k < n + 1) := by
          by_cases hq : k < n
          · rw [decide_eq_true hq, decide_eq_true (show k < n + 1 by omega)]
          · rw [decide_eq_false hq, decide_eq_false (show ¬ k < n + 1 by omega)]
        rw [e]
theorem sh_1 : ∀ k, k < 31 → (1 : Int32) <<< (nI k &&& 31) = nI (2 ^ k) := by decide +kernel
theorem or_N (a b : Nat) : nI a ||| nI b = nI (a ||| b) := by
  show Int32.ofNat a ||| Int32.ofNat b = Int32.ofNat (a ||| b)
  apply Int32.toBitVec.inj
  simp [Int32.toBitVec_or]
theorem or_pow {a k : Nat} (h : a < 2 ^ k) : a ||| 2 ^ k = a + 2 ^ k := by
  have h1 := Nat.two_pow_add_eq_or_of_lt h 1
  rw [Nat.mul_one] at h1
  rw [Nat.or_comm, ← h1, Nat.add_comm]
/-- one bit more -/
theorem bt_or {p : Nat → Bool} {k : Nat} (hk : k < 31) : nI (bt_ p k) ||| ((1 : Int32) <<< (nI k &&& 31)) = nI (bt_ p k + 2 ^ k) := by
  rw [sh_1 k hk, or_N, or_pow (bt_lt p k)]
theorem or_0 (x : Int32) : x ||| 0 = x := by
  apply Int32.toBitVec.inj
  simp
/-- steps from k on, d of them -/
def fd_ {σ : Type} (f : Nat → σ → σ) : Nat → Nat → σ → σ
  | _, 0, s => s
  | k, d + 1, s => fd_ f (k + 1) d (f k s)
theorem lp_fd {σ α : Type} (L : Nat → σ → Nat → Option α) (N : Nat) (f : Nat → σ → σ) (K : σ → Option α) (I : Nat → σ → Prop)
    (h1 : ∀ n s k, k < N → I k s → L (n + 1) s k = L n (f k s) (k + 1)) (hI : ∀ s k, k < N → I k s → I (k + 1) (f k s)) (h2 : ∀ n s, I N s → L (n + 1) s N = K s) :
    ∀ d k n s, k + d = N → d < n → I k s → L n s k = K (fd_ f k d s)
  | 0, k, 0, s, _, h, _ => absurd h (Nat.not_lt_zero 0)
  | 0, k, n + 1, s, e, _, hi => by
    have : k = N := by omega
    subst this
    exact h2 n s hi
  | d + 1, k, 0, s, _, h, _ => absurd h (Nat.not_lt_zero _)
  | d + 1, k, n + 1, s, e, h, hi => by
    rw [h1 n s k (by omega) hi, lp_fd L N f K I h1 hI h2 d (k + 1) n (f k s) (by omega) (by omega) (hI s k (by omega) hi)]
    rfl
/-- steps that may end early -/
def fx_ {σ α : Type} (g : Nat → σ → σ ⊕ α) (K : σ → α) : Nat → Nat → σ → α
  | _, 0, s => K s
  | k, d + 1, s => (g k s).elim (fun t => fx_ g K (k + 1) d t) id
theorem lp_fx {σ α : Type} (L : Nat → σ → Nat → α) (N : Nat) (g : Nat → σ → σ ⊕ α) (K : σ → α) (I : Nat → σ → Prop)
    (h1 : ∀ n s k, k < N → I k s → L (n + 1) s k = (g k s).elim (fun t => L n t (k + 1)) id) (hI : ∀ s k t, k < N → I k s → g k s = .inl t → I (k + 1) t) (h2 : ∀ n s, I N s → L (n + 1) s N = K s) :
    ∀ d k n s, k + d = N → d < n → I k s → L n s k = fx_ g K k d s
  | 0, k, 0, s, _, h, _ => absurd h (Nat.not_lt_zero 0)
  | 0, k, n + 1, s, e, _, hi => by
    have : k = N := by omega
    subst this
    exact h2 n s hi
  | d + 1, k, 0, s, _, h, _ => absurd h (Nat.not_lt_zero _)
  | d + 1, k, n + 1, s, e, h, hi => by
    rw [h1 n s k (by omega) hi]
    show _ = (g k s).elim (fun t => fx_ g K (k + 1) d t) id
    cases hg : g k s with
    | inl t => exact lp_fx L N g K I h1 hI h2 d (k + 1) n t (by omega) (by omega) (hI s k t (by omega) hi hg)
    | inr r => rfl
theorem fu_lt {n : Nat} (h : n < 1000000) : n < fu_ := h
/-! ===== END ===== -/
