/-! ===== BEGIN words ===== -/
def chN (w k : Nat) : Nat := ((st_byt.getD w []).getD k 0).toNatClampNeg
def lnN (w : Nat) : Nat := st_len.getD w 0
def cdN (w : Nat) : Nat := pkN (chN w) (lnN w)
theorem ch_n : ∀ w, w < 10 → ∀ k, k < lnN w → st_ch w k = nI (chN w k) := by decide +kernel
theorem ch_b : ∀ w, w < 10 → ∀ k, k < lnN w → 0 < chN w k ∧ chN w k < 256 := by decide +kernel
theorem ln_b : ∀ w, w < 10 → 0 < lnN w ∧ lnN w ≤ 5 := by decide +kernel
theorem cd_b : ∀ w, w < 10 → 0 < cdN w ∧ cdN w < 2 ^ 63 := by decide +kernel
theorem cd_u : ∀ w, w < 10 → ∀ v, v < 10 → cdN w = cdN v → w = v := by decide +kernel
theorem pk_i {f g : Nat → Nat} : ∀ {n k : Nat}, (∀ i, i < n → 0 < f i ∧ f i < 256) → (∀ i, i < k → 0 < g i ∧ g i < 256) → pkN f n = pkN g k → n = k ∧ ∀ i, i < n → f i = g i
  | 0, 0, _, _, _ => ⟨rfl, fun i hi => by omega⟩
  | 0, k + 1, _, h2, h => by
    have := h2 k (by omega)
    have h : 0 = pkN g k * 256 + g k := h
    omega
  | n + 1, 0, h1, _, h => by
    have := h1 n (by omega)
    have h : pkN f n * 256 + f n = 0 := h
    omega
  | n + 1, k + 1, h1, h2, h => by
    have a := h1 n (by omega)
    have b := h2 k (by omega)
    have h : pkN f n * 256 + f n = pkN g k * 256 + g k := h
    obtain ⟨q1, q2⟩ := pk_i (n := n) (k := k) (fun i hi => h1 i (by omega)) (fun i hi => h2 i (by omega)) (by omega)
    refine ⟨by omega, fun i hi => ?_⟩
    rcases Nat.eq_or_lt_of_le (show i ≤ n by omega) with w | w
    · rw [w]
      have : f n = g k := by omega
      rw [this, q1]
    · exact q2 i w
theorem pk_c {f g : Nat → Nat} : ∀ {n : Nat}, (∀ i, i < n → f i = g i) → pkN f n = pkN g n
  | 0, _ => rfl
  | n + 1, h => by
    show pkN f n * 256 + f n = pkN g n * 256 + g n
    rw [pk_c (n := n) (fun i hi => h i (by omega)), h n (by omega)]
theorem pk_b {f : Nat → Nat} : ∀ {n : Nat}, (∀ i, i < n → f i < 256) → pkN f n < 256 ^ n
  | 0, _ => by show 0 < 256 ^ 0; decide
  | n + 1, h => by
    have h1 := pk_b (f := f) (n := n) (fun i hi => h i (by omega))
    have h2 := h n (by omega)
    show pkN f n * 256 + f n < 256 ^ (n + 1)
    rw [Nat.pow_succ]
    omega
/-- is word w spelled by the n bytes from s on -/
def sq_ (c : Nat → Nat) (s n w : Nat) : Bool := decide (n = lnN w ∧ ∀ i, i < n → c (s + i) = chN w i)
theorem sq_u {c : Nat → Nat} {s n w v : Nat} (hw : w < 10) (hv : v < 10) (h1 : sq_ c s n w = true) (h2 : sq_ c s n v = true) : w = v := by
  have a := of_decide_eq_true h1
  have b := of_decide_eq_true h2
  apply cd_u w hw v hv
  unfold cdN
  rw [← a.1, ← b.1]
  exact pk_c (fun i hi => by rw [← a.2 i hi, b.2 i hi])
theorem lg_e (x y : Int64) : (lg_cmp x y = (0 : Int32)) = (x = y) := by
  unfold lg_cmp
  apply propext
  by_cases c : x > y
  · rw [if_pos c]
    constructor
    · intro h
      exact absurd h (by decide)
    · intro h
      rw [h] at c
      exact absurd c (by simp)
  · rw [if_neg c]
    by_cases c2 : x = y
    · rw [if_pos c2]
      exact ⟨fun _ => c2, fun _ => rfl⟩
    · rw [if_neg c2]
      exact ⟨fun h => absurd h (by decide), fun h => absurd h c2⟩
theorem n64_i {a b : Nat} (ha : a < 2 ^ 64) (hb : b < 2 ^ 64) : (Int64.ofNat a = Int64.ofNat b) = (a = b) := by
  apply propext
  constructor
  · intro h
    have h2 := congrArg (fun z => Int64.toBitVec z) h
    have h3 : (BitVec.ofNat 64 a).toNat = (BitVec.ofNat 64 b).toNat := congrArg BitVec.toNat h2
    rw [BitVec.toNat_ofNat, BitVec.toNat_ofNat] at h3
    omega
  · intro h
    rw [h]
section WRD
variable {c : Nat → Nat} {N : Nat} {tb tx : Nat → Int32}
theorem wd_c (hc : ∀ i, i < N → c i < 256) {s : Nat} (hs : s ≤ N) (hk : tK c N s = 1) {w : Nat} (hw : w < 10) : (lg_cmp (tW c N s) (Int64.ofNat (cdN w)) = (0 : Int32)) = (sq_ c s (tE c N s - s) w = true) := by
  have h1 : ¬ N ≤ s := by
    intro h
    unfold tK at hk
    rw [if_pos h] at hk
    omega
  have h2 : iLe c s = true := by
    by_cases q : iLe c s = true
    · exact q
    · unfold tK at hk
      rw [if_neg h1, if_neg q] at hk
      by_cases q3 : iDi c s = true
      · rw [if_pos q3] at hk
        split at hk <;> omega
      · rw [if_neg q3] at hk
        split at hk <;> omega
  have eE : tE c N s = fw_P (iLe c) (N - s) s := by
    unfold tE
    rw [if_neg h1, if_pos h2]
  have hE := tE_b (c := c) hs
  have hlet : ∀ i, i < tE c N s - s → 97 ≤ c (s + i) ∧ c (s + i) ≤ 122 := fun i hi => by
    rw [eE] at hi
    exact of_decide_eq_true (fw_in (P := iLe c) (show s ≤ s + i by omega) (show s + i < fw_P (iLe c) (N - s) s by omega))
  have cb := cd_b w hw
  have lb := ln_b w hw
  rw [lg_e]
  unfold tW
  rw [if_neg h1, if_pos h2]
  by_cases h8 : tE c N s - s ≤ 8
  · have pb := pk_b (f := fun i => c (s + i)) (n := tE c N s - s) (fun i hi => by have := hlet i hi; omega)
    have p8 : 256 ^ (tE c N s - s) ≤ 256 ^ 8 := Nat.pow_le_pow_right (by decide) h8
    have p9 : (256 : Nat) ^ 8 = 2 ^ 64 := by decide
    rw [if_pos h8, n64_i (by omega) (by omega)]
    apply propext
    constructor
    · intro h
      obtain ⟨q1, q2⟩ := pk_i (fun i hi => by have := hlet i hi; omega) (ch_b w hw) h
      exact decide_eq_true ⟨q1, q2⟩
    · intro h
      have a := of_decide_eq_true h
      unfold cdN
      rw [← a.1]
      exact pk_c a.2
  · rw [if_neg h8, show (0 : Int64) = Int64.ofNat 0 from rfl, n64_i (by decide) (by omega)]
    apply propext
    constructor
    · intro h
      omega
    · intro h
      have a := of_decide_eq_true h
      omega
theorem wd_0 {w : Nat} (hw : w < 10) : ¬ lg_cmp (0 : Int64) (Int64.ofNat (cdN w)) = (0 : Int32) := by
  have cb := cd_b w hw
  rw [lg_e, show (0 : Int64) = Int64.ofNat 0 from rfl, n64_i (by decide) (by omega)]
  omega
theorem ev_isSpelled (hN : N ≤ 400) (hc : ∀ i, i < N → c i < 256) (hb : ∀ i, i < N → tb i = nI (c i)) {s e : Nat} (h1 : s ≤ e) (h2 : e ≤ N) {w : Nat} (hw : w < 10) : F_X6_isSpelled (nI e) (nI s) tb w = some (bI (sq_ c s (e - s) w)) := by
  have lb := ln_b w hw
  have es : nI e - nI s = nI (e - s) := by
    rw [iI_nI, iI_nI, iI_sub, iI_nI]
    congr 1
    omega
  unfold F_X6_isSpelled
  rw [es, show st_len.getD w 0 = lnN w from rfl]
  have en : (nI (e - s) = nI (lnN w)) = (e - s = lnN w) := by
    rw [iI_nI, iI_nI, iI_eq (by omega) (by omega)]
    apply propext
    omega
  rw [if_e en]
  by_cases q : e - s = lnN w
  · rw [if_pos q]
    have main : ∀ d i n, i + d = e - s → d < n → (∀ j, j < i → c (s + j) = chN w j) → L_X6_isSpelled_23 (nI s) tb w (nI (e - s)) n (nI i) = some (bI (sq_ c s (e - s) w)) := by
      intro d
      induction d with
      | zero =>
        intro i n a1 a2 a3
        obtain ⟨n, rfl⟩ : ∃ k, n = k + 1 := ⟨n - 1, by omega⟩
        have : sq_ c s (e - s) w = true := decide_eq_true ⟨q, fun j hj => a3 j (by omega)⟩
        rw [L_X6_isSpelled_23, if_pos (yle_ (by omega) (by omega) (by omega)), this]
        rfl
      | succ d ih =>
        intro i n a1 a2 a3
        obtain ⟨n, rfl⟩ : ∃ k, n = k + 1 := ⟨n - 1, by omega⟩
        have hci := hc (s + i) (by omega)
        have cb := ch_b w hw i (by omega)
        rw [L_X6_isSpelled_23, if_neg (nle_ (by omega) (by omega) (by omega)), nI_add, gN_ (by omega) (by decide), show st_len.getD w 0 = lnN w from rfl, gN_ (by omega) (by omega), nI_clamp (by omega), nI_clamp (by omega), hb (s + i) (by omega), ch_n w hw i (by omega), nI_s]
        have ec : (nI (c (s + i)) = nI (chN w i)) = (c (s + i) = chN w i) := by
          rw [iI_nI, iI_nI, iI_eq (by omega) (by omega)]
          apply propext
          omega
        rw [if_e ec]
        by_cases qc : c (s + i) = chN w i
        · rw [if_pos qc]
          refine ih (i + 1) n (by omega) (by omega) (fun j hj => ?_)
          rcases Nat.eq_or_lt_of_le (show j ≤ i by omega) with z | z
          · rw [z]
            exact qc
          · exact a3 j z
        · have : sq_ c s (e - s) w = false := decide_eq_false (fun h => qc (h.2 i (by omega)))
          rw [if_neg qc, this]
          rfl
    exact main (e - s) 0 fu_ (by omega) (fu_lt (by omega)) (fun j hj => by omega)
  · have : sq_ c s (e - s) w = false := decide_eq_false (fun h => q h.1)
    rw [if_neg q, this]
    rfl
theorem ev_wordOf (hN : N ≤ 400) (hc : ∀ i, i < N → c i < 256) (hb : ∀ i, i < N → tb i = nI (c i)) {s e : Nat} (h1 : s ≤ e) (h2 : e ≤ N) :
    (∃ w, w < 10 ∧ sq_ c s (e - s) w = true ∧ F_X6_wordOf (nI e) (nI s) tb = some (nI w)) ∨ ((∀ w, w < 10 → sq_ c s (e - s) w = false) ∧ F_X6_wordOf (nI e) (nI s) tb = some (-1)) := by
  have sp : ∀ w, w < 10 → F_X6_isSpelled (nI e) (nI s) tb w = some (bI (sq_ c s (e - s) w)) := fun w hw => ev_isSpelled hN hc hb h1 h2 hw
  unfold F_X6_wordOf
  rw [sp 0 (by omega), bs_, ib_]
  by_cases q0 : sq_ c s (e - s) 0 = true
  · rw [if_pos q0]
    exact Or.inl ⟨0, by omega, q0, rfl⟩
  rw [if_neg q0, sp 1 (by omega), bs_, ib_]
  by_cases q1 : sq_ c s (e - s) 1 = true
  · rw [if_pos q1]
    exact Or.inl ⟨1, by omega, q1, rfl⟩
  rw [if_neg q1, sp 2 (by omega), bs_, ib_]
  by_cases q2 : sq_ c s (e - s) 2 = true
  · rw [if_pos q2]
    exact Or.inl ⟨2, by omega, q2, rfl⟩
  rw [if_neg q2, sp 3 (by omega), bs_, ib_]
  by_cases q3 : sq_ c s (e - s) 3 = true
  · rw [if_pos q3]
    exact Or.inl ⟨3, by omega, q3, rfl⟩
  rw [if_neg q3, sp 4 (by omega), bs_, ib_]
  by_cases q4 : sq_ c s (e - s) 4 = true
  · rw [if_pos q4]
    exact Or.inl ⟨4, by omega, q4, rfl⟩
  rw [if_neg q4, sp 5 (by omega), bs_, ib_]
  by_cases q5 : sq_ c s (e - s) 5 = true
  · rw [if_pos q5]
    exact Or.inl ⟨5, by omega, q5, rfl⟩
  rw [if_neg q5, sp 6 (by omega), bs_, ib_]
  by_cases q6 : sq_ c s (e - s) 6 = true
  · rw [if_pos q6]
    exact Or.inl ⟨6, by omega, q6, rfl⟩
  rw [if_neg q6, sp 7 (by omega), bs_, ib_]
  by_cases q7 : sq_ c s (e - s) 7 = true
  · rw [if_pos q7]
    exact Or.inl ⟨7, by omega, q7, rfl⟩
  rw [if_neg q7, sp 8 (by omega), bs_, ib_]
  by_cases q8 : sq_ c s (e - s) 8 = true
  · rw [if_pos q8]
    exact Or.inl ⟨8, by omega, q8, rfl⟩
  rw [if_neg q8, sp 9 (by omega), bs_, ib_]
  by_cases q9 : sq_ c s (e - s) 9 = true
  · rw [if_pos q9]
    exact Or.inl ⟨9, by omega, q9, rfl⟩
  rw [if_neg q9]
  refine Or.inr ⟨fun w hw => ?_, rfl⟩
  rcases (show w = 0 ∨ w = 1 ∨ w = 2 ∨ w = 3 ∨ w = 4 ∨ w = 5 ∨ w = 6 ∨ w = 7 ∨ w = 8 ∨ w = 9 by omega) with rfl | rfl | rfl | rfl | rfl | rfl | rfl | rfl | rfl | rfl
  · simpa using q0
  · simpa using q1
  · simpa using q2
  · simpa using q3
  · simpa using q4
  · simpa using q5
  · simpa using q6
  · simpa using q7
  · simpa using q8
  · simpa using q9
end WRD
/-! ===== END ===== -/
