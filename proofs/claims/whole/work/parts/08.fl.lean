/-! ===== BEGIN faults; numbers that are taken ===== -/
def fK (f : Option (Nat × Nat)) : Int32 := match f with
  | none => 0
  | some x => nI x.1
def fP (f : Option (Nat × Nat)) : Int32 := match f with
  | none => -1
  | some x => nI x.2
def nf_ (f : Option (Nat × Nat)) (k p : Nat) : Option (Nat × Nat) := match f with
  | none => some (k, p)
  | some x => some x
/-- faults that stand lie before q -/
def fW (f : Option (Nat × Nat)) (q : Nat) : Prop := ∀ x, f = some x → (2 ≤ x.1 ∧ x.1 ≤ 4) ∧ x.2 < q
theorem fW_le {f : Option (Nat × Nat)} {q r : Nat} (h : fW f q) (hr : q ≤ r) : fW f r := fun x hx => ⟨(h x hx).1, Nat.lt_of_lt_of_le (h x hx).2 hr⟩
theorem fW_nf {f : Option (Nat × Nat)} {q r k : Nat} (h : fW f q) (hk : 2 ≤ k ∧ k ≤ 4) (hr : q < r) : fW (nf_ f k q) r := by
  intro x hx
  cases f with
  | none =>
    have : x = (k, q) := (Option.some.inj hx).symm
    rw [this]
    exact ⟨hk, hr⟩
  | some y =>
    have : x = y := (Option.some.inj hx).symm
    rw [this]
    have := h y rfl
    exact ⟨this.1, by omega⟩
theorem fK_0 {f : Option (Nat × Nat)} {q : Nat} (h : fW f q) : (fK f = (0 : Int32)) = (f = none) := by
  cases f with
  | none => exact propext ⟨fun _ => rfl, fun _ => rfl⟩
  | some x =>
    have := h x rfl
    have h2 : ¬ nI x.1 = (0 : Int32) := nI_ne0 (by omega) (by omega)
    exact propext ⟨fun h3 => absurd h3 h2, fun h3 => by cases h3⟩
theorem fK_1 {f : Option (Nat × Nat)} {q : Nat} (h : fW f q) : ¬ fK f = (1 : Int32) := by
  cases f with
  | none => decide
  | some x =>
    have := h x rfl
    show ¬ nI x.1 = (1 : Int32)
    rw [iI_nI, show (1 : Int32) = iI 1 from rfl, iI_eq (by omega) (by omega)]
    omega
theorem ev_noteFault {f : Option (Nat × Nat)} {q : Nat} (h : fW f q) (s k : Nat) : F_X6_noteFault (nI s) (fK f) (fP f) (nI k) = some (fK (nf_ f k s), fP (nf_ f k s)) := by
  unfold F_X6_noteFault
  rw [if_e (fK_0 h)]
  cases f with
  | none => rw [if_pos rfl]; rfl
  | some x => rw [if_neg (by simp)]; rfl
theorem ev_isBad {f : Option (Nat × Nat)} {q k : Nat} (hq : q < 1000) (hk : k < 1000) (h : ∀ x, f = some x → (2 ≤ x.1 ∧ x.1 ≤ 4) ∧ (x.2 < q ∨ (x.2 = q ∧ x.1 ≤ k))) : F_X11_isBad (fP f) (fK f) (nI k) (nI q) = some (fP (nf_ f k q), fK (nf_ f k q)) := by
  unfold F_X11_isBad
  cases f with
  | none => rfl
  | some x =>
    obtain ⟨h1, h2⟩ := h x rfl
    show (if nI x.1 = (0 : Int32) then _ else if nI q < nI x.2 then _ else if nI q = nI x.2 then (if nI x.1 ≤ nI k then some (nI x.2, nI x.1) else _) else some (nI x.2, nI x.1)) = some (nI x.2, nI x.1)
    rw [if_neg (nI_ne0 (by omega) (by omega)), if_neg (nlt_ (by omega) (by omega) (by omega))]
    by_cases c : nI q = nI x.2
    · rw [if_pos c]
      rcases h2 with h2 | h2
      · rw [iI_nI, iI_nI, iI_eq (by omega) (by omega)] at c
        omega
      · rw [if_pos (yle_ (by omega) (by omega) h2.2)]
    · rw [if_neg c]
def nX (c : Nat → Nat) (N s : Nat) : Nat := tS c N (tE c N s)
theorem nX_b {c : Nat → Nat} {N s : Nat} (h : s ≤ N) : s ≤ nX c N s ∧ nX c N s ≤ N := by
  have h1 := tE_b (c := c) h
  have h2 := tS_b (c := c) h1.2
  unfold nX
  omega
theorem nX_s {c : Nat → Nat} {N s : Nat} (h : s < N) : s < nX c N s := by
  have h0 := tE_s (c := c) h
  have h1 := tE_b (c := c) (show s ≤ N by omega)
  have h2 := tS_b (c := c) h1.2
  unfold nX
  omega
theorem tK_b (c : Nat → Nat) (N s : Nat) : tK c N s ≤ 4 := by
  unfold tK
  split
  · omega
  · split
    · omega
    · split
      · split <;> omega
      · split <;> omega
theorem tK_s {c : Nat → Nat} {N s : Nat} (h : tK c N s ≠ 0) : s < N := by
  rcases Nat.lt_or_ge s N with q | q
  · exact q
  · unfold tK at h
    rw [if_pos q] at h
    exact absurd rfl h
theorem rS_e : ∀ k, k ≤ 4 → ((nI (rS k) = (3 : Int32)) = (k = 2)) ∧ ((nI (rS k) = (2 : Int32)) = (k = 1)) ∧ ((nI (rS k) = (4 : Int32)) = (k = 3)) ∧ ((nI (rS k) = (0 : Int32)) = (k = 0)) := by
  intro k hk
  rcases (show k = 0 ∨ k = 1 ∨ k = 2 ∨ k = 3 ∨ k = 4 by omega) with rfl | rfl | rfl | rfl | rfl <;> refine ⟨propext ?_, propext ?_, propext ?_, propext ?_⟩ <;> decide
theorem nK_e {a b : Nat} (ha : a < 1000) (hb : b < 1000) : (nI a = nI b) = (a = b) := by
  rw [iI_nI, iI_nI, iI_eq (by omega) (by omega)]
  apply propext
  omega
section TAK
variable {c : Nat → Nat} {N : Nat} {tb tx : Nat → Int32}
theorem ev_takes (hN : N ≤ 400) (hc : ∀ i, i < N → c i < 256) (hb : ∀ i, i < N → tx i &&& (255 : Int32) = nI (c i)) {s : Nat} (hs : s ≤ N) (hk : tK c N s = 2) {f : Option (Nat × Nat)} (hf : fW f s) {vr : Int32} (hv : tK c N s = 2 → vr = nI (tV c N s)) (w : Int64) (wa rd : Int32) {l h : Int} (hl : rg l) (hh : rg h) :
    ∃ v2, F_X11_takes (nI (tE c N s)) (nI N) (nI s) (nI (rS (tK c N s))) vr w wa (fP f) (fK f) rd tx (iI l) (iI h) = some (1, nI (tE c N (nX c N s)), nI (nX c N s), nI (rS (tK c N (nX c N s))), v2, tW c N (nX c N s), wa, fP (if l ≤ tV c N s ∧ tV c N s ≤ h then f else nf_ f 2 s), fK (if l ≤ tV c N s ∧ tV c N s ≤ h then f else nf_ f 2 s), nI (tV c N s)) ∧ (tK c N (nX c N s) = 2 → v2 = nI (tV c N (nX c N s))) := by
  have hE := tE_b (c := c) hs
  have h99 := tV_b hk
  have kb := tK_b c N s
  have sN := tK_s (c := c) (N := N) (s := s) (by omega)
  unfold F_X11_takes
  rw [if_e (rS_e _ kb).1, if_pos hk, hv hk, iI_nI (tV c N s), ev_in (by omega) hl hh, bs_, ib_]
  have fin : ∀ g : Option (Nat × Nat), ∃ v2, J_X11_takes_42 (nI N) tx (nI (tE c N s)) (nI s) (nI (rS (tK c N s))) (iI (tV c N s : Int)) w wa (fP g) (fK g) (iI (tV c N s : Int)) = some (1, nI (tE c N (nX c N s)), nI (nX c N s), nI (rS (tK c N (nX c N s))), v2, tW c N (nX c N s), wa, fP g, fK g, iI (tV c N s : Int)) ∧ (tK c N (nX c N s) = 2 → v2 = nI (tV c N (nX c N s))) := by
    intro g
    obtain ⟨v2, e, q⟩ := ev_token hN hc hb (nI s) (nI (rS (tK c N s))) (iI (tV c N s : Int)) w hE.2
    unfold J_X11_takes_42
    rw [e, bs_]
    exact ⟨v2, rfl, q⟩
  by_cases q : l ≤ (tV c N s : Int) ∧ (tV c N s : Int) ≤ h
  · rw [if_pos (decide_eq_true q), if_pos q]
    exact fin f
  · rw [if_neg (by rw [decide_eq_false q]; decide), if_neg q, show (2 : Int32) = nI 2 from rfl, ev_isBad (by omega) (by decide) (fun x hx => ⟨(hf x hx).1, Or.inl (hf x hx).2⟩), bs_]
    exact fin (nf_ f 2 s)
theorem ev_takes0 {s : Nat} (hk : tK c N s ≠ 2) (f : Option (Nat × Nat)) (e vr : Int32) (w : Int64) (wa rd l h : Int32) :
    F_X11_takes e (nI N) (nI s) (nI (rS (tK c N s))) vr w wa (fP f) (fK f) rd tx l h = some (0, e, nI s, nI (rS (tK c N s)), vr, w, nI s, fP f, fK f, rd) := by
  unfold F_X11_takes
  rw [if_e (rS_e _ (tK_b c N s)).1, if_neg hk]
  exact gd_ok (show decide ((0 : Int32) &&& 1 = 0) = true by decide)
end TAK
/-- a row of the reference of which only the counts are sure -/
def GR (told : Nat → Int32) : Prop := ∃ a b : Nat, (told 0 = nI a ∧ a ≤ 5) ∧ (told 13 = nI b ∧ b ≤ 8)
theorem GR_m {m : Nat → Int} {told : Nat → Int32} (hg : WG m) (ht : WT m) (h : rA m told) : GR told := by
  obtain ⟨n1, n2⟩ := nG_c hg
  obtain ⟨n3, n4⟩ := nT_c ht
  exact ⟨nG m, nT m, ⟨by rw [h 0 (by decide), n1, iI_nI], n2⟩, ⟨by rw [h 13 (by decide), n3, iI_nI], n4⟩⟩
theorem gz_has {told : Nat → Int32} {a : Nat} (h0 : told 0 = nI a) (ha : a ≤ 5) (x : Int32) : ∃ b : Bool, F_X11_hasGap told 97 x = some (bI b) := by
  have main : ∀ d k n, k + d = a → d < n → ∃ b : Bool, L_X11_hasGap_2 told 97 n x (nI k) = some (bI b) := by
    intro d
    induction d with
    | zero =>
      intro k n a1 a2
      obtain ⟨n, rfl⟩ : ∃ k, n = k + 1 := ⟨n - 1, by omega⟩
      rw [L_X11_hasGap_2, gd_ok (show in_b (0 : Int32) 97 = true from rfl), show (0 : Int32).toNatClampNeg = 0 from rfl, h0, if_pos (yle_ (by omega) (by omega) (by omega))]
      exact ⟨false, rfl⟩
    | succ d ih =>
      intro k n a1 a2
      obtain ⟨n, rfl⟩ : ∃ k, n = k + 1 := ⟨n - 1, by omega⟩
      rw [L_X11_hasGap_2, gd_ok (show in_b (0 : Int32) 97 = true from rfl), show (0 : Int32).toNatClampNeg = 0 from rfl, h0, if_neg (nle_ (by omega) (by omega) (by omega)), show (1 : Int32) + nI k = nI (1 + k) from nI_add 1 k, gN_ (by omega) (by decide)]
      split
      · exact ⟨true, rfl⟩
      · rw [nI_s]
        exact ih (k + 1) n (by omega) (by omega)
  exact main a 0 fu_ (by omega) (fu_lt (by omega))
theorem gz_put {told : Nat → Int32} {a : Nat} (h0 : told 0 = nI a) (ha : a < 5) (x : Int32) : ∃ r, F_X11_putsGap told 97 x = some r ∧ r 0 = nI (a + 1) ∧ r 13 = told 13 := by
  have fin : ∀ k (r : Nat → Int32), k < 5 → r 0 = nI a → r 13 = told 13 → ∃ r2, J_X11_putsGap_37 97 r x (nI k) = some r2 ∧ r2 0 = nI (a + 1) ∧ r2 13 = told 13 := by
    intro k r hk h1 h2
    unfold J_X11_putsGap_37
    rw [show (1 : Int32) + nI k = nI (1 + k) from nI_add 1 k, gN_ (by omega) (by decide), gd_ok (show in_b (0 : Int32) 97 = true from rfl), gd_ok (show in_b (0 : Int32) 97 = true from rfl), show (0 : Int32).toNatClampNeg = 0 from rfl, nI_clamp (by omega)]
    refine ⟨_, rfl, ?_, ?_⟩
    · rw [upd_at, if_pos rfl, upd_at, if_neg (by omega), h1, nI_s]
    · rw [upd_at, if_neg (by omega), upd_at, if_neg (by omega), h2]
  have main : ∀ k n (r : Nat → Int32), k < 5 → k < n → r 0 = nI a → r 13 = told 13 → ∃ r2, L_X11_putsGap_4 97 n r x (nI k) = some r2 ∧ r2 0 = nI (a + 1) ∧ r2 13 = told 13 := by
    intro k
    induction k with
    | zero =>
      intro n r hk hn h1 h2
      obtain ⟨n, rfl⟩ : ∃ k, n = k + 1 := ⟨n - 1, by omega⟩
      rw [L_X11_putsGap_4, if_pos (show nI 0 ≤ 0 by decide)]
      exact fin 0 r hk h1 h2
    | succ k ih =>
      intro n r hk hn h1 h2
      obtain ⟨n, rfl⟩ : ∃ k, n = k + 1 := ⟨n - 1, by omega⟩
      have ek : (1 : Int32) + nI (k + 1) - (1 : Int32) = nI (k + 1) := by rw [iI_nI, show (1 : Int32) = iI 1 from rfl, iI_add, iI_sub]; congr 1; omega
      rw [L_X11_putsGap_4, if_neg (show ¬ nI (k + 1) ≤ 0 from nle_ (b := 0) (by omega) (by decide) (by omega)), ek, gN_ (by omega) (by decide)]
      split
      · exact fin (k + 1) r hk h1 h2
      · rw [gN_ (by omega) (by decide), show (1 : Int32) + nI (k + 1) = nI (1 + (k + 1)) from nI_add 1 _, gN_ (by omega) (by decide), nI_clamp (by omega), m1_]
        refine ih n _ (by omega) (by omega) ?_ ?_
        · rw [upd_at, if_neg (by omega), h1]
        · rw [upd_at, if_neg (by omega), h2]
  unfold F_X11_putsGap
  rw [gd_ok (show in_b (0 : Int32) 97 = true from rfl), show (0 : Int32).toNatClampNeg = 0 from rfl, h0]
  exact main a fu_ told ha (fu_lt (by omega)) h0 rfl
/-! ===== END ===== -/
