/-! ===== BEGIN what the radar is, in whole numbers: m k is what the reference's row holds at k ===== -/
def WG (m : Nat → Int) : Prop := 0 ≤ m 0 ∧ m 0 ≤ 5 ∧ (∀ k : Nat, (k : Int) < m 0 → 4 ≤ m (1 + k) ∧ m (1 + k) ≤ 60) ∧ ∀ i j : Nat, i < j → (j : Int) < m 0 → m (1 + i) < m (1 + j)
def WS (m : Nat → Int) : Prop := (2 ≤ m 6 ∧ m 6 ≤ 999) ∧ (0 ≤ m 7 ∧ m 7 ≤ 49) ∧ (0 ≤ m 8 ∧ m 8 ≤ 9) ∧ (1 ≤ m 9 ∧ m 9 ≤ 1000) ∧ (1 ≤ m 10 ∧ m 10 ≤ 5) ∧ (1 ≤ m 11 ∧ m 11 ≤ 200) ∧ (1 ≤ m 12 ∧ m 12 ≤ 200)
def WT (m : Nat → Int) : Prop := 0 ≤ m 13 ∧ m 13 ≤ 8 ∧ ∀ t : Nat, (t : Int) < m 13 → (0 ≤ m (14 + 3 * t) ∧ m (14 + 3 * t) ≤ 47999) ∧ (-500 ≤ m (15 + 3 * t) ∧ m (15 + 3 * t) ≤ 500) ∧ (1 ≤ m (16 + 3 * t) ∧ m (16 + 3 * t) ≤ 99)
/-- the class's own numbers and rows -/
def cG (m : Nat → Int) (gc : Int32) (gaps : Nat → Int32) : Prop := gc = iI (m 0) ∧ ∀ k : Nat, (k : Int) < m 0 → gaps k = iI (m (1 + k))
def cS (m : Nat → Int) (st : Nat → Int32) : Prop := ∀ k : Nat, k < 7 → st k = iI (m (6 + k))
def cT (m : Nat → Int) (tc : Int32) (sp ve sr : Nat → Int32) : Prop := tc = iI (m 13) ∧ ∀ t : Nat, (t : Int) < m 13 → sp t = iI (m (14 + 3 * t)) ∧ ve t = iI (m (15 + 3 * t)) ∧ sr t = iI (m (16 + 3 * t))
/-- the reference's row -/
def rA (m : Nat → Int) (all : Nat → Int32) : Prop := ∀ k : Nat, k < 97 → all k = iI (m k)
/-- blind to a speed by a gap -/
def bl_ (m : Nat → Int) (v g : Int) : Bool := decide ((v * g) % m 6 ≤ m 7 ∨ m 6 - (v * g) % m 6 ≤ m 7)
theorem ev_rest {a b : Int} (h1 : -2147483648 < a) (h2 : a < 2147483648) (hb : 0 < b) (hb2 : b < 2147483648) : F_X10_rest (iI a) (iI b) = some (iI (a % b)) := by
  have ht := Int.tmod_eq_emod (a := a) (b := b)
  have h5 : a.tmod b < b := by
    have := Int.tmod_lt_of_pos a hb
    omega
  have hm := Int.emod_nonneg a (show b ≠ 0 by omega)
  have hm2 := Int.emod_lt_of_pos a hb
  have hs : b.natAbs = b := by omega
  have h6 : -b ≤ a.tmod b := by split at ht <;> omega
  have e0 : ((0 : Int32) < iI b) = (0 < b) := iI_lt (a := 0) (by omega) (by omega)
  have e1 : ((0 : Int32) ≤ iI (a.tmod b)) = (0 ≤ a.tmod b) := iI_le (a := 0) (by omega) (by omega)
  unfold F_X10_rest
  rw [if_pos (e0.mpr hb), gd_ok (ne_ok (by omega) (by omega)), iI_rem h1 h2 (by omega)]
  by_cases hc : 0 ≤ a.tmod b
  · rw [if_pos (e1.mpr hc)]
    congr 2
    split at ht <;> omega
  · rw [if_neg (fun h => hc (e1.mp h)), iI_add]
    congr 2
    split at ht <;> omega
theorem ev_hides {m : Nat → Int} {st : Nat → Int32} (hw : WS m) (hs : cS m st) {v g : Int} (hv : -500 ≤ v ∧ v ≤ 500) (hg : 0 ≤ g ∧ g ≤ 63) : F_X5_hides st (iI v) (iI g) = some (bI (bl_ m v g)) := by
  obtain ⟨h6, h7, -⟩ := hw
  have hvg : -31500 ≤ v * g ∧ v * g ≤ 31500 := by
    have a1 : v * g ≤ 500 * g := Int.mul_le_mul_of_nonneg_right hv.2 hg.1
    have a2 : (-500) * g ≤ v * g := Int.mul_le_mul_of_nonneg_right hv.1 hg.1
    omega
  have hm := Int.emod_nonneg (v * g) (show m 6 ≠ 0 by omega)
  have hm2 := Int.emod_lt_of_pos (v * g) (show 0 < m 6 by omega)
  unfold F_X5_hides
  rw [show st 0 = iI (m 6) from hs 0 (by decide), show st 1 = iI (m 7) from hs 1 (by decide), iI_mul, ev_rest (by omega) (by omega) (by omega) (by omega)]
  show (if iI (v * g % m 6) ≤ iI (m 7) then some (1 : Int32) else if iI (m 7) < iI (m 6) - iI (v * g % m 6) then some 0 else some 1) = _
  rw [iI_sub]
  have e1 : (iI (v * g % m 6) ≤ iI (m 7)) = (v * g % m 6 ≤ m 7) := iI_le (by omega) (by omega)
  have e2 : (iI (m 7) < iI (m 6 - v * g % m 6)) = (m 7 < m 6 - v * g % m 6) := iI_lt (by omega) (by omega)
  unfold bl_
  by_cases c1 : v * g % m 6 ≤ m 7
  · rw [if_pos (e1.mpr c1), decide_eq_true (Or.inl c1)]; rfl
  · rw [if_neg (fun h => c1 (e1.mp h))]
    by_cases c2 : m 7 < m 6 - v * g % m 6
    · rw [if_pos (e2.mpr c2), decide_eq_false (by omega)]; rfl
    · rw [if_neg (fun h => c2 (e2.mp h)), decide_eq_true (by omega)]; rfl
theorem ev_rrest {a b : Int} (h1 : -2147483648 < a) (h2 : a < 2147483648) (hb : 0 < b) (hb2 : b < 2147483648) : F_X11_rest (iI a) (iI b) = some (iI (a % b)) := by
  have ht := Int.tmod_eq_emod (a := a) (b := b)
  have h5 : a.tmod b < b := by
    have := Int.tmod_lt_of_pos a hb
    omega
  have hm := Int.emod_nonneg a (show b ≠ 0 by omega)
  have hm2 := Int.emod_lt_of_pos a hb
  have hs : b.natAbs = b := by omega
  have h6 : -b ≤ a.tmod b := by split at ht <;> omega
  have e1 : ((0 : Int32) ≤ iI (a.tmod b)) = (0 ≤ a.tmod b) := iI_le (a := 0) (by omega) (by omega)
  unfold F_X11_rest
  rw [gd_ok (ne_ok (by omega) (by omega)), iI_rem h1 h2 (by omega)]
  by_cases hc : 0 ≤ a.tmod b
  · rw [if_pos (e1.mpr hc)]
    congr 2
    split at ht <;> omega
  · rw [if_neg (fun h => hc (e1.mp h)), iI_add]
    congr 2
    split at ht <;> omega
/-! ===== END ===== -/
