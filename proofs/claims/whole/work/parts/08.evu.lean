/-! ===== BEGIN targets that go, that move ===== -/
theorem a14 (n : Nat) : (14 : Int32) + (3 : Int32) * nI n = nI (14 + 3 * n) := by
  rw [show (3 : Int32) = nI 3 from rfl, show (14 : Int32) = nI 14 from rfl, pk_mul, nI_add]
theorem s3_ {k : Nat} (h : 3 ≤ k) : nI k - (3 : Int32) = nI (k - 3) := by rw [iI_nI, show (3 : Int32) = iI 3 from rfl, iI_sub, iI_nI]; congr 1; omega
/-- target t goes -/
def dt_ (m : Nat → Int) (t : Nat) : Nat → Int := fun i => if i = 13 then m 13 - 1 else if 14 + 3 * t ≤ i ∧ i < 11 + 3 * nT m then m (i + 3) else m i
/-- target t stands elsewhere -/
def us_ (m : Nat → Int) (t : Nat) (x : Int) : Nat → Int := fun i => if i = 14 + 3 * t then x else m i
abbrev hT8 (m : Nat → Int) : Prop := m 13 = (nT m : Int) ∧ nT m ≤ 8
theorem nT_us (m : Nat → Int) (t : Nat) (x : Int) : nT (us_ m t x) = nT m := by
  unfold nT us_
  rw [if_neg (by omega)]
theorem us_lo {m : Nat → Int} {t : Nat} {x : Int} {i : Nat} (h : i ≠ 14 + 3 * t) : us_ m t x i = m i := by
  unfold us_
  rw [if_neg h]
theorem us_at {m : Nat → Int} {t : Nat} {x : Int} : us_ m t x (14 + 3 * t) = x := by
  unfold us_
  rw [if_pos rfl]
theorem nT_dt {m : Nat → Int} (h : hT8 m) (t : Nat) : nT (dt_ m t) = nT m - 1 := by
  have h1 := h.1
  unfold nT at h1 ⊢
  show (m 13 - 1).toNat = _
  omega
theorem dt_lo {m : Nat → Int} {t i : Nat} (h : i < 14 + 3 * t) (h2 : i ≠ 13) : dt_ m t i = m i := by
  unfold dt_
  rw [if_neg h2, if_neg (by omega)]
theorem dt_hi {m : Nat → Int} {t i : Nat} (h : 14 + 3 * t ≤ i) (h2 : i < 11 + 3 * nT m) : dt_ m t i = m (i + 3) := by
  unfold dt_
  rw [if_neg (by omega), if_pos ⟨h, h2⟩]
theorem dt_be {m : Nat → Int} {t i : Nat} (h : 11 + 3 * nT m ≤ i) (h2 : 14 ≤ i) : dt_ m t i = m i := by
  unfold dt_
  rw [if_neg (by omega), if_neg (by omega)]
theorem hT8_us {m : Nat → Int} (h : hT8 m) (t : Nat) (x : Int) : hT8 (us_ m t x) := by
  refine ⟨?_, by rw [nT_us]; exact h.2⟩
  rw [nT_us, us_lo (by omega)]
  exact h.1
theorem hT8_dt {m : Nat → Int} (h : hT8 m) {t : Nat} (ht : t < nT m) : hT8 (dt_ m t) := by
  have h1 := h.1
  have h2 := h.2
  refine ⟨?_, by rw [nT_dt h]; omega⟩
  rw [nT_dt h]
  show m 13 - 1 = _
  omega
theorem ev_goes {m : Nat → Int} {all : Nat → Int32} (h : hT8 m) (hA : rA m all) {t : Nat} (ht : t < nT m) :
    ∃ r, F_X11_goes all (nI t) = some r ∧ rA (dt_ m t) r ∧ ∀ i, 97 ≤ i → r i = all i := by
  have h1 := h.1
  have h2 := h.2
  have main : ∀ d k n (r : Nat → Int32), k + d = 11 + 3 * nT m → d < n → 14 + 3 * t ≤ k → (∀ i, r i = if 14 + 3 * t ≤ i ∧ i < k then all (i + 3) else all i) →
      ∃ r2, L_X11_goes_7 n r (nI k) = some r2 ∧ ∀ i, r2 i = if i = 13 then all 13 - 1 else if 14 + 3 * t ≤ i ∧ i < 11 + 3 * nT m then all (i + 3) else all i := by
    intro d
    induction d with
    | zero =>
      intro k n r a1 a2 ck a3
      obtain ⟨n, rfl⟩ : ∃ k, n = k + 1 := ⟨n - 1, by omega⟩
      have : k = 11 + 3 * nT m := by omega
      subst this
      have e13 : r 13 = nI (nT m) := by rw [a3, if_neg (by omega), hA 13 (by decide), h1, ← iI_nI]
      rw [L_X11_goes_7, e13, a14, s3_ (by omega), if_pos (yle_ (by omega) (by omega) (by omega))]
      refine ⟨_, rfl, fun i => ?_⟩
      rw [upd_at]
      by_cases c : i = 13
      · rw [if_pos c, if_pos c, a3, if_neg (by omega)]
      · rw [if_neg c, if_neg c, a3]
    | succ d ih =>
      intro k n r a1 a2 ck a3
      obtain ⟨n, rfl⟩ : ∃ k, n = k + 1 := ⟨n - 1, by omega⟩
      have e13 : r 13 = nI (nT m) := by rw [a3, if_neg (by omega), hA 13 (by decide), h1, ← iI_nI]
      rw [L_X11_goes_7, e13, a14, s3_ (by omega), if_neg (nle_ (by omega) (by omega) (by omega)), show (3 : Int32) = nI 3 from rfl, nI_add, gN_ (by omega) (by decide), gN_ (by omega) (by decide), nI_clamp (by omega), nI_clamp (by omega), nI_s]
      refine ih (k + 1) n _ (by omega) (by omega) (by omega) (fun i => ?_)
      rw [upd_at]
      by_cases c : i = k
      · rw [if_pos c, if_pos (by omega), c, a3, if_neg (by omega)]
      · rw [if_neg c, a3]
        by_cases c2 : 14 + 3 * t ≤ i ∧ i < k
        · rw [if_pos c2, if_pos (by omega)]
        · rw [if_neg c2, if_neg (by omega)]
  obtain ⟨r2, e, q⟩ := main (11 + 3 * nT m - (14 + 3 * t)) (14 + 3 * t) fu_ all (by omega) (fu_lt (by omega)) (Nat.le_refl _) (fun i => by rw [if_neg (by omega)])
  refine ⟨r2, ?_, fun i hi => ?_, fun i hi => by rw [q, if_neg (by omega), if_neg (by omega)]⟩
  · unfold F_X11_goes
    rw [a14]
    exact e
  · rw [q]
    unfold dt_
    by_cases c : i = 13
    · rw [if_pos c, if_pos c, hA 13 (by decide), show (1 : Int32) = iI 1 from rfl, iI_sub]
    · rw [if_neg c, if_neg c]
      by_cases c2 : 14 + 3 * t ≤ i ∧ i < 11 + 3 * nT m
      · rw [if_pos c2, if_pos c2, hA _ (by omega)]
      · rw [if_neg c2, if_neg c2, hA i hi]
theorem ev_dropTarget {m : Nat → Int} {tc : Int32} {sp ve sr : Nat → Int32} (h : hT8 m) (hT : cT m tc sp ve sr) {t : Nat} (ht : t < nT m) :
    ∃ s2 v2 r2, F_X5_dropTarget tc sp ve sr (nI t) = some (iI (dt_ m t 13), s2, v2, r2) ∧ cT (dt_ m t) (iI (dt_ m t 13)) s2 v2 r2 := by
  have h1 := h.1
  have h2 := h.2
  have htc : tc = nI (nT m) := by rw [hT.1, h1, iI_nI]
  have e13 : iI (dt_ m t 13) = nI (nT m - 1) := by
    rw [iI_nI]
    congr 1
    show m 13 - 1 = _
    omega
  have main : ∀ d k n (s2 v2 r2 : Nat → Int32), k + d = nT m - 1 → d < n → t ≤ k → (∀ i, s2 i = if t ≤ i ∧ i < k then sp (i + 1) else sp i) → (∀ i, v2 i = if t ≤ i ∧ i < k then ve (i + 1) else ve i) → (∀ i, r2 i = if t ≤ i ∧ i < k then sr (i + 1) else sr i) →
      ∃ s3 v3 r3, L_X5_dropTarget_21 n (nI (nT m - 1)) s2 v2 r2 (nI k) = some (nI (nT m - 1), s3, v3, r3) ∧ (∀ i, s3 i = if t ≤ i ∧ i < nT m - 1 then sp (i + 1) else sp i) ∧ (∀ i, v3 i = if t ≤ i ∧ i < nT m - 1 then ve (i + 1) else ve i) ∧ (∀ i, r3 i = if t ≤ i ∧ i < nT m - 1 then sr (i + 1) else sr i) := by
    intro d
    induction d with
    | zero =>
      intro k n s2 v2 r2 a1 a2 ck a3 a4 a5
      obtain ⟨n, rfl⟩ : ∃ k, n = k + 1 := ⟨n - 1, by omega⟩
      have : k = nT m - 1 := by omega
      subst this
      rw [L_X5_dropTarget_21, if_pos (yle_ (by omega) (by omega) (Nat.le_refl _))]
      exact ⟨_, _, _, rfl, a3, a4, a5⟩
    | succ d ih =>
      intro k n s2 v2 r2 a1 a2 ck a3 a4 a5
      obtain ⟨n, rfl⟩ : ∃ k, n = k + 1 := ⟨n - 1, by omega⟩
      have up : ∀ (f g : Nat → Int32), (∀ i, f i = if t ≤ i ∧ i < k then g (i + 1) else g i) → t ≤ k → ∀ i, upd f k (f (k + 1)) i = if t ≤ i ∧ i < k + 1 then g (i + 1) else g i := by
        intro f g hf htk i
        rw [upd_at]
        by_cases c : i = k
        · rw [if_pos c, if_pos (by omega), hf, if_neg (by omega), c]
        · rw [if_neg c, hf]
          by_cases c2 : t ≤ i ∧ i < k
          · rw [if_pos c2, if_pos (by omega)]
          · rw [if_neg c2, if_neg (by omega)]
      rw [L_X5_dropTarget_21, if_neg (nle_ (by omega) (by omega) (by omega)), nI_s, gN_ (by omega) (by decide), gN_ (by omega) (by decide), gN_ (by omega) (by decide), gN_ (by omega) (by decide), gN_ (by omega) (by decide), gN_ (by omega) (by decide), nI_clamp (by omega), nI_clamp (by omega)]
      exact ih (k + 1) n _ _ _ (by omega) (by omega) (by omega) (up _ _ a3 ck) (up _ _ a4 ck) (up _ _ a5 ck)
  obtain ⟨s3, v3, r3, e, q1, q2, q3⟩ := main (nT m - 1 - t) t fu_ sp ve sr (by omega) (fu_lt (by omega)) (Nat.le_refl _) (fun i => by rw [if_neg (by omega)]) (fun i => by rw [if_neg (by omega)]) (fun i => by rw [if_neg (by omega)])
  refine ⟨s3, v3, r3, ?_, rfl, fun i hi => ?_⟩
  · unfold F_X5_dropTarget F_X5_hasTarget
    rw [htc, if_neg (nI_pos (by omega)), if_neg (nle_ (by omega) (by omega) ht), bs_, if_neg (by decide), s1_ (by omega), e13]
    exact e
  · have hi2 : i < nT m - 1 := by
      have : dt_ m t 13 = m 13 - 1 := rfl
      omega
    rw [q1, q2, q3]
    by_cases c : t ≤ i
    · rw [if_pos (by omega), if_pos (by omega), if_pos (by omega), dt_hi (by omega) (by omega), dt_hi (by omega) (by omega), dt_hi (by omega) (by omega)]
      have := hT.2 (i + 1) (by omega)
      exact this
    · rw [if_neg (by omega), if_neg (by omega), if_neg (by omega), dt_lo (by omega) (by omega), dt_lo (by omega) (by omega), dt_lo (by omega) (by omega)]
      exact hT.2 i (by omega)
/-! ===== END ===== -/
