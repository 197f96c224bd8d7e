/-! ===== BEGIN time goes by ===== -/
def ns_ (τ : Int) (m : Nat → Int) (t : Nat) : Int := m (14 + 3 * t) + τ * m (15 + 3 * t)
def ok_ (x : Int) : Bool := decide (0 ≤ x ∧ x ≤ 47999)
/-- the targets below k have moved -/
def mv_ (τ : Int) : Nat → (Nat → Int) → Nat → Int
  | 0, m => m
  | k + 1, m => if ok_ (ns_ τ m k) = true then mv_ τ k (us_ m k (ns_ τ m k)) else mv_ τ k (dt_ (us_ m k (ns_ τ m k)) k)
/-- what may be said of targets below k -/
def wt_ (m : Nat → Int) (P : Nat → Prop) : Prop := ∀ t, t < nT m → P t → (0 ≤ m (14 + 3 * t) ∧ m (14 + 3 * t) ≤ 47999) ∧ (-500 ≤ m (15 + 3 * t) ∧ m (15 + 3 * t) ≤ 500) ∧ (1 ≤ m (16 + 3 * t) ∧ m (16 + 3 * t) ≤ 99)
theorem WT_h {m : Nat → Int} (h : WT m) : hT8 m := nT_c h
theorem WT_w {m : Nat → Int} (h : WT m) : wt_ m (fun _ => True) := fun t ht _ => h.2.2 t (by have := (nT_c h).1; omega)
theorem w_WT {m : Nat → Int} (h : hT8 m) (hw : wt_ m (fun _ => True)) : WT m := ⟨by have := h.1; omega, by have := h.1; have := h.2; omega, fun t ht => hw t (by have := h.1; omega) trivial⟩
theorem wt_us {m : Nat → Int} {t : Nat} {x : Int} (hw : wt_ m (fun _ => True)) (hx : ok_ x = true) : wt_ (us_ m t x) (fun _ => True) := by
  intro s hs _
  rw [nT_us] at hs
  have h1 := hw s hs trivial
  rw [us_lo (show 15 + 3 * s ≠ 14 + 3 * t by omega), us_lo (show 16 + 3 * s ≠ 14 + 3 * t by omega)]
  refine ⟨?_, h1.2⟩
  by_cases c : s = t
  · rw [c, us_at]
    exact of_decide_eq_true hx
  · rw [us_lo (by omega)]
    exact h1.1
theorem wt_dt {m : Nat → Int} (h8 : hT8 m) {t : Nat} (ht : t < nT m) {x : Int} (hw : wt_ m (fun _ => True)) : wt_ (dt_ (us_ m t x) t) (fun _ => True) := by
  have h8b := hT8_us h8 t x
  intro s hs _
  rw [nT_dt h8b, nT_us] at hs
  by_cases c : s < t
  · rw [dt_lo (by omega) (by omega), dt_lo (by omega) (by omega), dt_lo (by omega) (by omega), us_lo (by omega), us_lo (by omega), us_lo (by omega)]
    exact hw s (by omega) trivial
  · have e := nT_us m t x
    rw [dt_hi (by omega) (by omega), dt_hi (by omega) (by omega), dt_hi (by omega) (by omega), us_lo (by omega), us_lo (by omega), us_lo (by omega)]
    exact hw (s + 1) (by omega) trivial
theorem ns_b {m : Nat → Int} {τ : Int} (hτ : 0 ≤ τ ∧ τ ≤ 1000) (hw : wt_ m (fun _ => True)) {t : Nat} (ht : t < nT m) : -500000 ≤ τ * m (15 + 3 * t) ∧ τ * m (15 + 3 * t) ≤ 500000 ∧ -500000 ≤ ns_ τ m t ∧ ns_ τ m t ≤ 547999 := by
  have h1 := hw t ht trivial
  have a1 : τ * m (15 + 3 * t) ≤ τ * 500 := Int.mul_le_mul_of_nonneg_left h1.2.1.2 hτ.1
  have a2 : τ * (-500) ≤ τ * m (15 + 3 * t) := Int.mul_le_mul_of_nonneg_left h1.2.1.1 hτ.1
  unfold ns_
  omega
theorem mv_g {τ : Int} : ∀ {k : Nat} {m : Nat → Int}, hT8 m → k ≤ nT m → wt_ m (fun _ => True) → hT8 (mv_ τ k m) ∧ wt_ (mv_ τ k m) (fun _ => True)
  | 0, m, h8, _, hw => ⟨h8, hw⟩
  | k + 1, m, h8, hk, hw => by
    unfold mv_
    by_cases c : ok_ (ns_ τ m k) = true
    · rw [if_pos c]
      exact mv_g (hT8_us h8 _ _) (by rw [nT_us]; omega) (wt_us hw c)
    · rw [if_neg c]
      have h8b := hT8_us h8 k (ns_ τ m k)
      exact mv_g (hT8_dt h8b (by rw [nT_us]; omega)) (by rw [nT_dt h8b, nT_us]; omega) (wt_dt h8 (by omega) hw)
theorem mv_lo {τ : Int} : ∀ {k : Nat} {m : Nat → Int} {i : Nat}, i < 13 → mv_ τ k m i = m i
  | 0, _, _, _ => rfl
  | k + 1, m, i, hi => by
    unfold mv_
    by_cases c : ok_ (ns_ τ m k) = true
    · rw [if_pos c, mv_lo hi, us_lo (by omega)]
    · rw [if_neg c, mv_lo hi, dt_lo (by omega) (by omega), us_lo (by omega)]
theorem mv_hi {τ : Int} : ∀ {k : Nat} {m : Nat → Int} {i : Nat}, hT8 m → k ≤ nT m → 38 ≤ i → mv_ τ k m i = m i
  | 0, _, _, _, _, _ => rfl
  | k + 1, m, i, h8, hk, hi => by
    have h2 := h8.2
    unfold mv_
    by_cases c : ok_ (ns_ τ m k) = true
    · rw [if_pos c, mv_hi (hT8_us h8 _ _) (by rw [nT_us]; omega) hi, us_lo (by omega)]
    · have h8b := hT8_us h8 k (ns_ τ m k)
      have e := nT_us m k (ns_ τ m k)
      rw [if_neg c, mv_hi (hT8_dt h8b (by rw [nT_us]; omega)) (by rw [nT_dt h8b, nT_us]; omega) hi, dt_be (by omega) (by omega), us_lo (by omega)]
theorem mv_n {τ : Int} : ∀ {k : Nat} {m : Nat → Int}, hT8 m → k ≤ nT m → nT (mv_ τ k m) ≤ nT m
  | 0, _, _, _ => Nat.le_refl _
  | k + 1, m, h8, hk => by
    unfold mv_
    by_cases c : ok_ (ns_ τ m k) = true
    · rw [if_pos c]
      have := mv_n (τ := τ) (k := k) (hT8_us h8 k (ns_ τ m k)) (by rw [nT_us]; omega)
      rw [nT_us] at this
      exact this
    · have h8b := hT8_us h8 k (ns_ τ m k)
      rw [if_neg c]
      have := mv_n (τ := τ) (k := k) (hT8_dt h8b (t := k) (by rw [nT_us]; omega)) (by rw [nT_dt h8b, nT_us]; omega)
      rw [nT_dt h8b, nT_us] at this
      omega
theorem rA_us {m : Nat → Int} {all : Nat → Int32} (hA : rA m all) {t : Nat} {x : Int} : rA (us_ m t x) (upd all (14 + 3 * t) (iI x)) := by
  intro i hi
  rw [upd_at]
  unfold us_
  by_cases c : i = 14 + 3 * t
  · rw [if_pos c, if_pos c]
  · rw [if_neg c, if_neg c, hA i hi]
theorem ev_moves {τ : Int} (hτ : 0 ≤ τ ∧ τ ≤ 1000) : ∀ (k n : Nat) (m : Nat → Int) (all : Nat → Int32) (g : Nat), hT8 m → k ≤ nT m → wt_ m (fun _ => True) → rA m all → k < n →
    ∃ r, L_X11_moves_12 n all (iI τ) (nI g) (iI ((k : Int) - 1)) = some (nI (g + (nT m - nT (mv_ τ k m))), r) ∧ rA (mv_ τ k m) r ∧ ∀ i, 97 ≤ i → r i = all i := by
  intro k
  induction k with
  | zero =>
    intro n m all g h8 hk hw hA hn
    obtain ⟨n, rfl⟩ : ∃ k, n = k + 1 := ⟨n - 1, by omega⟩
    rw [L_X11_moves_12, if_pos (show iI (((0 : Nat) : Int) - 1) < 0 by decide)]
    refine ⟨all, ?_, hA, fun _ _ => rfl⟩
    show some (nI g, all) = some (nI (g + (nT m - nT m)), all)
    rw [Nat.sub_self, Nat.add_zero]
  | succ k ih =>
    intro n m all g h8 hk hw hA hn
    obtain ⟨n, rfl⟩ : ∃ k, n = k + 1 := ⟨n - 1, by omega⟩
    have h2 := h8.2
    have hb := ns_b hτ hw (show k < nT m by omega)
    have h1 := hw k (by omega) trivial
    have ek : iI (((k + 1 : Nat) : Int) - 1) = nI k := by rw [iI_nI]; congr 1; omega
    have em : nI k + (-1 : Int32) = iI ((k : Int) - 1) := by rw [iI_nI, show (-1 : Int32) = iI (-1) from rfl, iI_add]; rfl
    have e1 : F_X11_of all (nI k) (1 : Int32) = some (iI (m (15 + 3 * k))) := by
      rw [show (1 : Int32) = nI 1 from rfl, ev_of hA (by omega) (by decide), show 14 + 3 * k + 1 = 15 + 3 * k by omega]
    have hA2 := rA_us (t := k) (x := ns_ τ m k) hA
    have e2 : F_X11_of (upd all (14 + 3 * k) (iI (ns_ τ m k))) (nI k) (0 : Int32) = some (iI (ns_ τ m k)) := by
      rw [show (0 : Int32) = nI 0 from rfl, ev_of hA2 (by omega) (by decide), Nat.add_zero, us_at]
    rw [ek, L_X11_moves_12, if_neg (nI_pos (by omega)), a14, Int32.add_zero, gN_ (by omega) (by decide), e1, bs_, gN_ (by omega) (by decide), nI_clamp (by omega), iI_mul, hA _ (by omega), iI_add]
    rw [show m (14 + 3 * k) + τ * m (15 + 3 * k) = ns_ τ m k from rfl, e2, bs_, show (0 : Int32) = iI 0 from rfl, show (47999 : Int32) = iI 47999 from rfl, ev_in (by omega) (by omega) (by omega), bs_, show iI 0 = (0 : Int32) from rfl, ib_, em]
    unfold mv_
    by_cases c : ok_ (ns_ τ m k) = true
    · rw [if_pos c, if_pos (show decide (0 ≤ ns_ τ m k ∧ ns_ τ m k ≤ 47999) = true from c)]
      obtain ⟨r, e, q1, q2⟩ := ih n (us_ m k (ns_ τ m k)) _ g (hT8_us h8 _ _) (by rw [nT_us]; omega) (wt_us hw c) hA2 (by omega)
      rw [nT_us] at e
      refine ⟨r, e, q1, fun i hi => ?_⟩
      rw [q2 i hi, upd_at, if_neg (by omega)]
    · rw [if_neg c, if_neg (show ¬ decide (0 ≤ ns_ τ m k ∧ ns_ τ m k ≤ 47999) = true from c)]
      have h8b := hT8_us h8 k (ns_ τ m k)
      obtain ⟨r0, e0, p1, p2⟩ := ev_goes h8b hA2 (t := k) (by rw [nT_us]; omega)
      have h8c := hT8_dt h8b (t := k) (by rw [nT_us]; omega)
      obtain ⟨r, e, q1, q2⟩ := ih n (dt_ (us_ m k (ns_ τ m k)) k) r0 (g + 1) h8c (by rw [nT_dt h8b, nT_us]; omega) (wt_dt h8 (by omega) hw) p1 (by omega)
      rw [e0, bs_, nI_s]
      refine ⟨r, ?_, q1, fun i hi => ?_⟩
      · rw [e]
        congr 3
        have := mv_n (τ := τ) (k := k) h8c (by rw [nT_dt h8b, nT_us]; omega)
        rw [nT_dt h8b, nT_us] at this ⊢
        omega
      · rw [q2 i hi, p2 i hi, upd_at, if_neg (by omega)]
theorem cT_us {m : Nat → Int} {tc : Int32} {sp ve sr : Nat → Int32} (hT : cT m tc sp ve sr) {t : Nat} {x : Int} : cT (us_ m t x) tc (upd sp t (iI x)) ve sr := by
  refine ⟨by rw [us_lo (by omega)]; exact hT.1, fun s hs => ?_⟩
  rw [us_lo (by omega)] at hs
  have h1 := hT.2 s hs
  rw [us_lo (show 15 + 3 * s ≠ 14 + 3 * t by omega), us_lo (show 16 + 3 * s ≠ 14 + 3 * t by omega), upd_at]
  refine ⟨?_, h1.2⟩
  by_cases c : s = t
  · rw [if_pos c, c, us_at]
  · rw [if_neg c, us_lo (by omega)]
    exact h1.1
theorem cT_du {m : Nat → Int} (h8 : hT8 m) {t : Nat} (ht : t < nT m) {x : Int} {tc : Int32} {sp ve sr : Nat → Int32} (hT : cT (dt_ m t) tc sp ve sr) : cT (dt_ (us_ m t x) t) tc sp ve sr := by
  have h8b := hT8_us h8 t x
  have e := nT_us m t x
  have h1 := h8.1
  have e13 : dt_ (us_ m t x) t 13 = dt_ m t 13 := by
    show us_ m t x 13 - 1 = m 13 - 1
    rw [us_lo (by omega)]
  refine ⟨by rw [e13]; exact hT.1, fun s hs => ?_⟩
  rw [e13] at hs
  have q := hT.2 s hs
  have hs2 : (s : Int) < m 13 - 1 := hs
  by_cases c : s < t
  · rw [dt_lo (by omega) (by omega), dt_lo (by omega) (by omega), dt_lo (by omega) (by omega)] at q
    rw [dt_lo (by omega) (by omega), dt_lo (by omega) (by omega), dt_lo (by omega) (by omega), us_lo (by omega), us_lo (by omega), us_lo (by omega)]
    exact q
  · rw [dt_hi (by omega) (by omega), dt_hi (by omega) (by omega), dt_hi (by omega) (by omega)] at q
    rw [dt_hi (by omega) (by omega), dt_hi (by omega) (by omega), dt_hi (by omega) (by omega), us_lo (by omega), us_lo (by omega), us_lo (by omega)]
    exact q
theorem ev_spotAfter {m : Nat → Int} {tc : Int32} {sp ve sr : Nat → Int32} (h8 : hT8 m) (hT : cT m tc sp ve sr) {t : Nat} (ht : t < nT m) (τ : Int) : F_X5_spotAfter sp ve (nI t) (iI τ) = some (iI (ns_ τ m t)) := by
  have h1 := h8.1
  have h2 := h8.2
  have q := hT.2 t (by omega)
  unfold F_X5_spotAfter ns_
  rw [gN_ (by omega) (by decide), gN_ (by omega) (by decide), nI_clamp (by omega), q.1, q.2.1, iI_mul, iI_add, Int.mul_comm]
theorem ev_pass {τ : Int} (hτ : 0 ≤ τ ∧ τ ≤ 1000) (ti go x2 : Int32) : ∀ (k n : Nat) (m : Nat → Int) (tc : Int32) (sp ve sr : Nat → Int32), hT8 m → k ≤ nT m → wt_ m (fun _ => True) → cT m tc sp ve sr → k < n →
    ∃ s2 v2 r2, L_X5_pass_9 n tc ti go sp ve sr (iI τ) x2 (iI ((k : Int) - 1)) = some (x2 - iI (mv_ τ k m 13), iI (mv_ τ k m 13), ti + iI τ, go + (x2 - iI (mv_ τ k m 13)), s2, v2, r2) ∧ cT (mv_ τ k m) (iI (mv_ τ k m 13)) s2 v2 r2 := by
  intro k
  induction k with
  | zero =>
    intro n m tc sp ve sr h8 hk hw hT hn
    obtain ⟨n, rfl⟩ : ∃ k, n = k + 1 := ⟨n - 1, by omega⟩
    rw [L_X5_pass_9, if_pos (show iI (((0 : Nat) : Int) - 1) < 0 by decide)]
    unfold J_X5_pass_54
    rw [hT.1]
    exact ⟨_, _, _, rfl, rfl, hT.2⟩
  | succ k ih =>
    intro n m tc sp ve sr h8 hk hw hT hn
    obtain ⟨n, rfl⟩ : ∃ k, n = k + 1 := ⟨n - 1, by omega⟩
    have h2 := h8.2
    have hb := ns_b hτ hw (show k < nT m by omega)
    have ek : iI (((k + 1 : Nat) : Int) - 1) = nI k := by rw [iI_nI]; congr 1; omega
    have em : nI k + (-1 : Int32) = iI ((k : Int) - 1) := by rw [iI_nI, show (-1 : Int32) = iI (-1) from rfl, iI_add]; rfl
    rw [ek, L_X5_pass_9, if_neg (nI_pos (by omega)), ev_spotAfter h8 hT (by omega), bs_, show (0 : Int32) = iI 0 from rfl, show (47999 : Int32) = iI 47999 from rfl, ev_within (by omega) (by omega) (by omega), bs_, show iI 0 = (0 : Int32) from rfl, ib_, em]
    unfold mv_
    by_cases c : ok_ (ns_ τ m k) = true
    · rw [if_pos c, if_pos (show decide (0 ≤ ns_ τ m k ∧ ns_ τ m k ≤ 47999) = true from c), gN_ (by omega) (by decide), nI_clamp (by omega)]
      exact ih n (us_ m k (ns_ τ m k)) _ _ _ _ (hT8_us h8 _ _) (by rw [nT_us]; omega) (wt_us hw c) (cT_us hT) (by omega)
    · rw [if_neg c, if_neg (show ¬ decide (0 ≤ ns_ τ m k ∧ ns_ τ m k ≤ 47999) = true from c)]
      have h8b := hT8_us h8 k (ns_ τ m k)
      obtain ⟨s2, v2, r2, e0, p1⟩ := ev_dropTarget h8 hT (t := k) (by omega)
      rw [e0, bs_]
      exact ih n (dt_ (us_ m k (ns_ τ m k)) k) _ _ _ _ (hT8_dt h8b (t := k) (by rw [nT_us]; omega)) (by rw [nT_dt h8b, nT_us]; omega) (wt_dt h8 (by omega) hw) (cT_du h8 (by omega) p1) (by omega)
/-! ===== END ===== -/
