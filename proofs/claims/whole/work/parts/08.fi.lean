/-! ===== BEGIN tokens ===== -/
/-- the first place from i on, at most d further, where P ends -/
def fw_P (P : Nat → Bool) : Nat → Nat → Nat
  | 0, i => i
  | d + 1, i => if P i then fw_P P d (i + 1) else i
theorem fw_ge (P : Nat → Bool) : ∀ d i, i ≤ fw_P P d i ∧ fw_P P d i ≤ i + d
  | 0, i => ⟨Nat.le_refl _, Nat.le_refl _⟩
  | d + 1, i => by
    have := fw_ge P d (i + 1)
    unfold fw_P
    split <;> omega
theorem fw_y {P : Nat → Bool} {d i : Nat} (h : P i = true) : fw_P P (d + 1) i = fw_P P d (i + 1) := by
  show (if P i then _ else _) = _
  rw [if_pos h]
theorem fw_n {P : Nat → Bool} {d i : Nat} (h : ¬ P i = true) : fw_P P (d + 1) i = i := by
  show (if P i then _ else _) = _
  rw [if_neg h]
theorem fw_in {P : Nat → Bool} : ∀ {d i j : Nat}, i ≤ j → j < fw_P P d i → P j = true
  | 0, i, j, h1, h2 => by
    have h2 : j < i := h2
    omega
  | d + 1, i, j, h1, h2 => by
    by_cases c : P i = true
    · rw [fw_y c] at h2
      rcases Nat.eq_or_lt_of_le h1 with q | q
      · rw [← q]
        exact c
      · exact fw_in q h2
    · rw [fw_n c] at h2
      omega
def iBl (c : Nat → Nat) (i : Nat) : Bool := decide (c i = 10 ∨ c i = 32)
def iLe (c : Nat → Nat) (i : Nat) : Bool := decide (97 ≤ c i ∧ c i ≤ 122)
def iDi (c : Nat → Nat) (i : Nat) : Bool := decide (48 ≤ c i ∧ c i ≤ 57)
/-- where the token behind p begins -/
def tS (c : Nat → Nat) (N p : Nat) : Nat := fw_P (iBl c) (N - p) p
def tE (c : Nat → Nat) (N s : Nat) : Nat := if N ≤ s then s else if iLe c s then fw_P (iLe c) (N - s) s else if iDi c s then fw_P (iDi c) (N - s) s else s + 1
/-- 0 the end, 1 a word, 2 a number, 3 the sign, 4 nothing of these -/
def tK (c : Nat → Nat) (N s : Nat) : Nat := if N ≤ s then 0 else if iLe c s then 1 else if iDi c s then (if tE c N s - s ≤ 4 then 2 else 4) else if c s = 59 then 3 else 4
def dvN (c : Nat → Nat) (s : Nat) : Nat → Nat
  | 0 => 0
  | n + 1 => if n < 4 then dvN c s n * 10 + (c (s + n) - 48) else dvN c s n
def tV (c : Nat → Nat) (N s : Nat) : Nat := dvN c s (tE c N s - s)
def pkN (f : Nat → Nat) : Nat → Nat
  | 0 => 0
  | n + 1 => pkN f n * 256 + f n
def tW (c : Nat → Nat) (N s : Nat) : Int64 := if N ≤ s then 0 else if iLe c s then (if tE c N s - s ≤ 8 then Int64.ofNat (pkN (fun i => c (s + i)) (tE c N s - s)) else 0) else 0
theorem tS_b {c : Nat → Nat} {N p : Nat} (h : p ≤ N) : p ≤ tS c N p ∧ tS c N p ≤ N := by
  have := fw_ge (iBl c) (N - p) p
  unfold tS
  omega
theorem tE_b {c : Nat → Nat} {N s : Nat} (h : s ≤ N) : s ≤ tE c N s ∧ tE c N s ≤ N := by
  have h1 := fw_ge (iLe c) (N - s) s
  have h2 := fw_ge (iDi c) (N - s) s
  unfold tE
  split
  · omega
  · split
    · omega
    · split <;> omega
theorem tE_s {c : Nat → Nat} {N s : Nat} (h : s < N) : s < tE c N s := by
  unfold tE
  rw [if_neg (by omega)]
  obtain ⟨d, hd⟩ : ∃ d, N - s = d + 1 := ⟨N - s - 1, by omega⟩
  split
  · next q =>
    rw [hd, fw_y q]
    have := fw_ge (iLe c) d (s + 1)
    omega
  · split
    · next q =>
      rw [hd, fw_y q]
      have := fw_ge (iDi c) d (s + 1)
      omega
    · omega
theorem dvN_b {c : Nat → Nat} {s : Nat} : ∀ {n : Nat}, (∀ i, i < n → iDi c (s + i) = true) → dvN c s n < 10 ^ (if n < 4 then n else 4)
  | 0, _ => by show 0 < 10 ^ 0; decide
  | n + 1, h => by
    have ih := dvN_b (c := c) (s := s) (n := n) (fun i hi => h i (by omega))
    have hd : 48 ≤ c (s + n) ∧ c (s + n) ≤ 57 := of_decide_eq_true (h n (by omega))
    unfold dvN
    by_cases q : n < 4
    · rw [if_pos q] at ih ⊢
      have e : 10 ^ (if n + 1 < 4 then n + 1 else 4) = 10 ^ n * 10 := by
        have : (if n + 1 < 4 then n + 1 else 4) = n + 1 := by split <;> omega
        rw [this, Nat.pow_succ]
      rw [e]
      omega
    · rw [if_neg q] at ih ⊢
      rw [if_neg (by omega)]
      exact ih
theorem dvN_c {c : Nat → Nat} {s n : Nat} (h : ∀ i, i < n → iDi c (s + i) = true) : dvN c s n ≤ 9999 := by
  have := dvN_b h
  have h2 : 10 ^ (if n < 4 then n else 4) ≤ 10 ^ 4 := Nat.pow_le_pow_right (by decide) (by split <;> omega)
  have h3 : (10 : Nat) ^ 4 = 10000 := by decide
  omega
theorem tV_b {c : Nat → Nat} {N s : Nat} (h : tK c N s = 2) : tV c N s ≤ 9999 := by
  unfold tK at h
  by_cases h1 : N ≤ s
  · rw [if_pos h1] at h
    omega
  · rw [if_neg h1] at h
    by_cases h2 : iLe c s = true
    · rw [if_pos h2] at h
      omega
    · rw [if_neg h2] at h
      by_cases h3 : iDi c s = true
      · unfold tV
        apply dvN_c
        intro i hi
        have e : tE c N s = fw_P (iDi c) (N - s) s := by
          unfold tE
          rw [if_neg h1, if_neg h2, if_pos h3]
        rw [e] at hi
        exact fw_in (by omega) (by omega : s + i < fw_P (iDi c) (N - s) s)
      · rw [if_neg h3] at h
        split at h <;> omega
section STP
variable {c : Nat → Nat} {N : Nat} {tb tx : Nat → Int32}
theorem ev_isBlank {x : Nat} (hx : x < 256) : F_X6_isBlank (nI x) = some (bI (decide (x = 10 ∨ x = 32))) := by
  have e1 : (nI x = (32 : Int32)) = (x = 32) := by
    rw [iI_nI, show (32 : Int32) = iI 32 from rfl, iI_eq (by omega) (by omega)]
    apply propext
    omega
  have e2 : (nI x = (10 : Int32)) = (x = 10) := by
    rw [iI_nI, show (10 : Int32) = iI 10 from rfl, iI_eq (by omega) (by omega)]
    apply propext
    omega
  unfold F_X6_isBlank
  rw [if_e e1, if_e e2]
  by_cases h1 : x = 32
  · rw [if_pos h1, decide_eq_true (Or.inr h1)]; rfl
  · rw [if_neg h1]
    by_cases h2 : x = 10
    · rw [if_pos h2, decide_eq_true (Or.inl h2)]; rfl
    · rw [if_neg h2, decide_eq_false (by omega)]; rfl
theorem ev_isLetter {x : Nat} (hx : x < 256) : F_X6_isLetter (nI x) = some (bI (decide (97 ≤ x ∧ x ≤ 122))) := by
  unfold F_X6_isLetter
  rw [show (97 : Int32) = nI 97 from rfl, show (122 : Int32) = nI 122 from rfl, if_e (nI_lt2 (by omega) (by decide)), if_e (nI_lt2 (by decide) (by omega))]
  by_cases h1 : x < 97
  · rw [if_pos h1, decide_eq_false (by omega)]; rfl
  · rw [if_neg h1]
    by_cases h2 : 122 < x
    · rw [if_pos h2, decide_eq_false (by omega)]; rfl
    · rw [if_neg h2, decide_eq_true (by omega)]; rfl
theorem ev_isDigit {x : Nat} (hx : x < 256) : F_X6_isDigit (nI x) = some (bI (decide (48 ≤ x ∧ x ≤ 57))) := by
  unfold F_X6_isDigit
  rw [show (48 : Int32) = nI 48 from rfl, show (57 : Int32) = nI 57 from rfl, if_e (nI_lt2 (by omega) (by decide)), if_e (nI_lt2 (by decide) (by omega))]
  by_cases h1 : x < 48
  · rw [if_pos h1, decide_eq_false (by omega)]; rfl
  · rw [if_neg h1]
    by_cases h2 : 57 < x
    · rw [if_pos h2, decide_eq_false (by omega)]; rfl
    · rw [if_neg h2, decide_eq_true (by omega)]; rfl
theorem ev_st86 (hN : N ≤ 400) (hc : ∀ i, i < N → c i < 256) (hb : ∀ i, i < N → tb i = nI (c i)) (k s v : Int32) : ∀ d i n, i + d = N → d < n → L_X6_step_86 (nI N) tb n (nI i) k s v = some (nI (fw_P (iLe c) d i), k, s, v) := by
  intro d
  induction d with
  | zero =>
    intro i n a1 a2
    obtain ⟨n, rfl⟩ : ∃ k, n = k + 1 := ⟨n - 1, by omega⟩
    rw [L_X6_step_86, if_pos (yle_ (by omega) (by omega) (by omega))]
    rfl
  | succ d ih =>
    intro i n a1 a2
    obtain ⟨n, rfl⟩ : ∃ k, n = k + 1 := ⟨n - 1, by omega⟩
    rw [L_X6_step_86, if_neg (nle_ (by omega) (by omega) (by omega)), gN_ (by omega) (by decide), nI_clamp (by omega), hb i (by omega), ev_isLetter (hc i (by omega)), bs_, ib_, nI_s]
    by_cases q : iLe c i = true
    · rw [fw_y q, if_pos (show decide (97 ≤ c i ∧ c i ≤ 122) = true from q), ih (i + 1) n (by omega) (by omega)]
    · rw [fw_n q, if_neg (show ¬ decide (97 ≤ c i ∧ c i ≤ 122) = true from q)]
theorem ev_sod (hN : N ≤ 400) (hc : ∀ i, i < N → c i < 256) (hb : ∀ i, i < N → tb i = nI (c i)) {s : Nat} (k : Int32) : ∀ d i n, i + d = N → d < n → s ≤ i → (∀ j, s ≤ j → j < i → iDi c j = true) →
    L_X6_stepOverDigits_5 (nI s) (nI N) tb n (nI i) k (nI (dvN c s (i - s))) = some (nI (fw_P (iDi c) d i), nI (if fw_P (iDi c) d i - s ≤ 4 then 2 else 4), nI (dvN c s (fw_P (iDi c) d i - s))) := by
  have fin : ∀ i, s ≤ i → i ≤ N → ∀ v, J_X6_stepOverDigits_81 (nI s) (nI N) tb (nI i) k v = some (nI i, nI (if i - s ≤ 4 then 2 else 4), v) := by
    intro i h1 h2 v
    unfold J_X6_stepOverDigits_81
    have e : nI i - nI s = nI (i - s) := by
      rw [iI_nI, iI_nI, iI_sub, iI_nI]
      congr 1
      omega
    rw [e, show (4 : Int32) = nI 4 from rfl, if_e (nI_lt2 (by decide) (by omega))]
    by_cases q : 4 < i - s
    · rw [if_pos q, if_neg (by omega)]; rfl
    · rw [if_neg q, if_pos (by omega)]; rfl
  intro d
  induction d with
  | zero =>
    intro i n a1 a2 a3 a4
    obtain ⟨n, rfl⟩ : ∃ k, n = k + 1 := ⟨n - 1, by omega⟩
    rw [L_X6_stepOverDigits_5, if_pos (yle_ (by omega) (by omega) (by omega)), fin i a3 (by omega)]
    rfl
  | succ d ih =>
    intro i n a1 a2 a3 a4
    obtain ⟨n, rfl⟩ : ∃ k, n = k + 1 := ⟨n - 1, by omega⟩
    have e : nI i - nI s = nI (i - s) := by
      rw [iI_nI, iI_nI, iI_sub, iI_nI]
      congr 1
      omega
    have h99 := dvN_c (c := c) (s := s) (n := i - s) (fun j hj => a4 (s + j) (by omega) (by omega))
    rw [L_X6_stepOverDigits_5, if_neg (nle_ (by omega) (by omega) (by omega)), gN_ (by omega) (by decide), gN_ (by omega) (by decide), nI_clamp (by omega), hb i (by omega), ev_isDigit (hc i (by omega)), bs_, ib_]
    by_cases q : iDi c i = true
    · have hd : 48 ≤ c i ∧ c i ≤ 57 := of_decide_eq_true q
      have hj : ∀ j, s ≤ j → j < i + 1 → iDi c j = true := fun j h1 h2 => by
        rcases Nat.eq_or_lt_of_le (show j ≤ i by omega) with w | w
        · rw [w]; exact q
        · exact a4 j h1 w
      have := ih (i + 1) n (by omega) (by omega) (by omega) hj
      rw [show i + 1 - s = (i - s) + 1 by omega] at this
      have dd : dvN c s ((i - s) + 1) = if i - s < 4 then dvN c s (i - s) * 10 + (c i - 48) else dvN c s (i - s) := by
        show (if i - s < 4 then dvN c s (i - s) * 10 + (c (s + (i - s)) - 48) else dvN c s (i - s)) = _
        rw [show s + (i - s) = i by omega]
      rw [dd] at this
      rw [fw_y q, if_pos (show decide (48 ≤ c i ∧ c i ≤ 57) = true from q), e, show (4 : Int32) = nI 4 from rfl, if_e (nI_le2 (by decide) (by omega))]
      unfold J_X6_stepOverDigits_68
      rw [nI_s]
      by_cases q4 : 4 ≤ i - s
      · rw [if_neg (by omega)] at this
        rw [if_pos q4]
        exact this
      · rw [if_pos (by omega)] at this
        have ev : nI (dvN c s (i - s)) * (10 : Int32) + nI (c i) - (48 : Int32) = nI (dvN c s (i - s) * 10 + (c i - 48)) := by
          rw [iI_nI, iI_nI, show (10 : Int32) = iI 10 from rfl, show (48 : Int32) = iI 48 from rfl, iI_mul, iI_add, iI_sub, iI_nI]
          congr 1
          omega
        rw [if_neg q4, ev]
        exact this
    · rw [fw_n q, if_neg (show ¬ decide (48 ≤ c i ∧ c i ≤ 57) = true from q), fin i a3 (by omega)]
theorem ev_st39 (hN : N ≤ 400) (hc : ∀ i, i < N → c i < 256) (hb : ∀ i, i < N → tb i = nI (c i)) (k0 s0 v0 : Int32) {s : Nat} (hs : s ≤ N) :
    ∃ v, J_X6_step_39 (nI N) tb (nI s) k0 s0 v0 = some (nI (tE c N s), nI (tK c N s), nI s, v) ∧ (tK c N s = 2 → v = nI (tV c N s)) := by
  unfold J_X6_step_39
  rw [if_e (nI_lt2 (by omega) (by omega))]
  by_cases h1 : s < N
  · rw [if_pos h1, gN_ (by omega) (by decide), gN_ (by omega) (by decide), gN_ (by omega) (by decide), nI_clamp (by omega), hb s h1, ev_isLetter (hc s h1), bs_, ib_]
    by_cases h2 : iLe c s = true
    · have eE : tE c N s = fw_P (iLe c) (N - s) s := by
        unfold tE
        rw [if_neg (by omega), if_pos h2]
      have eK : tK c N s = 1 := by
        unfold tK
        rw [if_neg (by omega), if_pos h2]
      have q2 := h2
      unfold iLe at q2
      rw [if_pos q2, ev_st86 hN hc hb _ _ _ (N - s) s fu_ (by omega) (fu_lt (by omega)), eE, eK]
      exact ⟨_, rfl, fun h => by omega⟩
    · have q2 := h2
      unfold iLe at q2
      rw [if_neg q2, ev_isDigit (hc s h1), bs_, ib_]
      by_cases h3 : iDi c s = true
      · have eE : tE c N s = fw_P (iDi c) (N - s) s := by
          unfold tE
          rw [if_neg (by omega), if_neg h2, if_pos h3]
        have eK : tK c N s = if tE c N s - s ≤ 4 then 2 else 4 := by
          conv => lhs; unfold tK
          rw [if_neg (by omega), if_neg h2, if_pos h3]
        have q3 := h3
        unfold iDi at q3
        have := ev_sod hN hc hb (s := s) k0 (N - s) s fu_ (by omega) (fu_lt (by omega)) (Nat.le_refl _) (fun j a b => by omega)
        rw [Nat.sub_self] at this
        have e0 : F_X6_stepOverDigits (nI s) k0 (nI s) v0 (nI N) tb = some (nI (tE c N s), nI (tK c N s), nI (tV c N s)) := by
          rw [eK]
          unfold tV
          rw [eE]
          exact this
        rw [if_pos q3, e0, bs_]
        exact ⟨_, rfl, fun _ => rfl⟩
      · have q3 := h3
        unfold iDi at q3
        have hcs := hc s h1
        have e59 : (nI (c s) = (59 : Int32)) = (c s = 59) := by
          rw [iI_nI, show (59 : Int32) = iI 59 from rfl, iI_eq (by omega) (by omega)]
          apply propext
          omega
        have eE : tE c N s = s + 1 := by
          unfold tE
          rw [if_neg (by omega), if_neg h2, if_neg h3]
        have eK : tK c N s = if c s = 59 then 3 else 4 := by
          unfold tK
          rw [if_neg (by omega), if_neg h2, if_neg h3]
        rw [if_neg q3, if_e e59, eE, eK]
        unfold J_X6_step_168
        rw [nI_s]
        by_cases h4 : c s = 59
        · rw [if_pos h4, if_pos h4]
          exact ⟨_, rfl, fun h => by omega⟩
        · rw [if_neg h4, if_neg h4]
          exact ⟨_, rfl, fun h => by omega⟩
  · have eE : tE c N s = s := by
      unfold tE
      rw [if_pos (by omega)]
    have eK : tK c N s = 0 := by
      unfold tK
      rw [if_pos (by omega)]
    rw [if_neg h1, eE, eK]
    exact ⟨_, rfl, fun h => by omega⟩
theorem ev_step (hN : N ≤ 400) (hc : ∀ i, i < N → c i < 256) (hb : ∀ i, i < N → tb i = nI (c i)) (k0 s0 v0 : Int32) {p : Nat} (hp : p ≤ N) :
    ∃ v, F_X6_step (nI p) k0 s0 v0 (nI N) tb = some (nI (tE c N (tS c N p)), nI (tK c N (tS c N p)), nI (tS c N p), v) ∧ (tK c N (tS c N p) = 2 → v = nI (tV c N (tS c N p))) := by
  have main : ∀ d i n, i + d = N → d < n → L_X6_step_0 (nI N) tb n (nI i) k0 s0 v0 = J_X6_step_39 (nI N) tb (nI (fw_P (iBl c) d i)) k0 s0 v0 := by
    intro d
    induction d with
    | zero =>
      intro i n a1 a2
      obtain ⟨n, rfl⟩ : ∃ k, n = k + 1 := ⟨n - 1, by omega⟩
      rw [L_X6_step_0, if_pos (yle_ (by omega) (by omega) (by omega))]
      rfl
    | succ d ih =>
      intro i n a1 a2
      obtain ⟨n, rfl⟩ : ∃ k, n = k + 1 := ⟨n - 1, by omega⟩
      rw [L_X6_step_0, if_neg (nle_ (by omega) (by omega) (by omega)), gN_ (by omega) (by decide), nI_clamp (by omega), hb i (by omega), ev_isBlank (hc i (by omega)), bs_, ib_, nI_s]
      by_cases q : iBl c i = true
      · have q2 := q
        unfold iBl at q2
        rw [fw_y q, if_pos q2, ih (i + 1) n (by omega) (by omega)]
      · have q2 := q
        unfold iBl at q2
        rw [fw_n q, if_neg q2]
  have := main (N - p) p fu_ (by omega) (fu_lt (by omega))
  unfold F_X6_step
  rw [this]
  exact ev_st39 hN hc hb k0 s0 v0 (tS_b hp).2
end STP
/-! ===== END ===== -/
