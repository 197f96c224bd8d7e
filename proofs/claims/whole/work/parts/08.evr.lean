/-! ===== BEGIN more(ghosts) ===== -/
/-- the reference's row with its part a copied to part b, k cells of it -/
def cp_ (a b k : Nat) (f : Nat → Int32) : Nat → Int32 := fun i => if 100 * b ≤ i ∧ i < 100 * b + k then f (i - 100 * b + 100 * a) else f i
theorem ev_copies {a b : Nat} (ha : a < 5) (hb : b < 5) (hab : a ≠ b) (f : Nat → Int32) : F_X11_copies f (nI a) (nI b) = some (cp_ a b 100 f) := by
  have h := lp_S (fun n k => L_X11_copies_2 n (cp_ a b k f) (nI a) (nI b) (nI k)) 100 (some (cp_ a b 100 f)) ?_ ?_ 100 0 fu_ (by omega) (fu_lt (by decide))
  · have e : cp_ a b 0 f = f := by
      funext i
      unfold cp_
      rw [if_neg (by omega)]
    simp only [e] at h
    exact h
  · intro n k hk
    show L_X11_copies_2 (n + 1) (cp_ a b k f) (nI a) (nI b) (nI k) = L_X11_copies_2 n (cp_ a b (k + 1) f) (nI a) (nI b) (nI (k + 1))
    rw [L_X11_copies_2, show (100 : Int32) = nI 100 from rfl, if_neg (nle_ (by omega) (by omega) hk), pk_mul, pk_mul, nI_add, nI_add, gN_ (by omega) (by decide), gN_ (by omega) (by decide), nI_clamp (by omega), nI_clamp (by omega), nI_s]
    congr 1
    funext i
    rw [upd_at]
    unfold cp_
    by_cases h1 : i = 100 * b + k
    · rw [if_pos h1, if_neg (by omega), if_pos (by omega)]
      congr 1
      omega
    · rw [if_neg h1]
      by_cases h2 : 100 * b ≤ i ∧ i < 100 * b + k
      · rw [if_pos h2, if_pos (by omega)]
      · rw [if_neg h2, if_neg (by omega)]
  · intro n
    show L_X11_copies_2 (n + 1) _ (nI a) (nI b) (nI 100) = _
    rw [L_X11_copies_2, if_pos (show (100 : Int32) ≤ nI 100 by decide)]
/-- one speed weighed for the gaps from g on -/
def wu_ (m : Nat → Int) (v : Int) (g : Nat) (w : Nat → Int32) : Nat → Int32 := fun i => if g ≤ i ∧ i ≤ 60 ∧ bl_ m v (i : Int) = false then w i - 1 else w i
theorem ev_wd38 {m : Nat → Int} {gc : Int32} {gaps st : Nat → Int32} (hw : WS m) (hS : cS m st) {v : Nat} (hv : v ≤ 200) (K : (Nat → Int32) → Int32 → Option (Nat → Int32)) : ∀ d g f (w : Nat → Int32), g + d = 61 → d < f →
    L_X0_weighDark_38 gc gaps st K f w (nI v) (nI g) = K (wu_ m v g w) (nI (v + 1)) := by
  intro d
  induction d with
  | zero =>
    intro g f w h1 h2
    obtain ⟨f, rfl⟩ : ∃ k, f = k + 1 := ⟨f - 1, by omega⟩
    have : g = 61 := by omega
    subst this
    rw [L_X0_weighDark_38, if_pos (show (60 : Int32) < nI 61 by decide), nI_s]
    congr 1
    funext i
    unfold wu_
    rw [if_neg (by omega)]
  | succ d ih =>
    intro g f w h1 h2
    obtain ⟨f, rfl⟩ : ∃ k, f = k + 1 := ⟨f - 1, by omega⟩
    rw [L_X0_weighDark_38, show (60 : Int32) = nI 60 from rfl, if_neg (show ¬ nI 60 < nI g by rw [nI_lt2 (by omega) (by omega)]; omega), iI_nI v, iI_nI g, ev_hides hw hS (by omega) (by omega), ← iI_nI, ← iI_nI, bs_, ib_, gN_ (by omega) (by decide), gN_ (by omega) (by decide), nI_clamp (by omega), nI_s, ih (g + 1) f _ (by omega) (by omega), ih (g + 1) f _ (by omega) (by omega)]
    by_cases c : bl_ m v (g : Int) = true
    · rw [if_pos c]
      congr 1
      funext i
      unfold wu_
      by_cases h3 : g + 1 ≤ i ∧ i ≤ 60 ∧ bl_ m v (i : Int) = false
      · rw [if_pos h3, if_pos ⟨by omega, h3.2⟩]
      · rw [if_neg h3, if_neg]
        rintro ⟨a1, a2⟩
        rcases Nat.eq_or_lt_of_le a1 with q | q
        · rw [← q, c] at a2
          exact absurd a2.2 (by decide)
        · exact h3 ⟨q, a2⟩
    · rw [if_neg c]
      have c : bl_ m v (g : Int) = false := by simpa using c
      congr 1
      funext i
      unfold wu_
      rw [upd_at]
      by_cases h0 : i = g
      · rw [if_neg (by omega), if_pos h0, if_pos ⟨by omega, by omega, by rw [h0]; exact c⟩, h0]
      · rw [if_neg h0]
        by_cases h3 : g + 1 ≤ i ∧ i ≤ 60 ∧ bl_ m v (i : Int) = false
        · rw [if_pos h3, if_pos ⟨by omega, h3.2⟩]
        · rw [if_neg h3, if_neg]
          rintro ⟨a1, a2⟩
          exact h3 ⟨by omega, a2⟩
theorem ev_weighDark {m : Nat → Int} {gc : Int32} {gaps st : Nat → Int32} (hg : WG m) (hw : WS m) (hG : cG m gc gaps) (hS : cS m st) (w0 : Nat → Int32) :
    ∃ w, F_X0_weighDark w0 gc gaps st = some w ∧ ∀ g : Nat, 4 ≤ g → g ≤ 60 → w g = iI (-(wD_ m g : Int)) := by
  obtain ⟨hn, h5⟩ := nG_c hg
  obtain ⟨h11, h1, h2⟩ := nS_c hw
  obtain ⟨-, -, -, -, h10, -⟩ := id hw
  have hst : st 5 = nI (nS m) := by rw [show st 5 = iI (m 11) from hS 5 (by decide), h11, iI_nI]
  have main : ∀ d v f (w : Nat → Int32), v + d = nS m + 1 → d < f → 1 ≤ v → (∀ g : Nat, 4 ≤ g → g ≤ 60 → w g = iI (-(ct_ (fun v => nd_ m v && !bl_ m v g) 1 (v - 1) : Int))) →
      ∃ w2, L_X0_weighDark_10 gc gaps st f w (nI v) = some w2 ∧ ∀ g : Nat, 4 ≤ g → g ≤ 60 → w2 g = iI (-(wD_ m g : Int)) := by
    intro d
    induction d with
    | zero =>
      intro v f w h3 h4 h5 hi
      obtain ⟨f, rfl⟩ : ∃ k, f = k + 1 := ⟨f - 1, by omega⟩
      refine ⟨w, ?_, fun g a1 a2 => ?_⟩
      · rw [L_X0_weighDark_10, hst, if_pos (by rw [nI_lt2 (by omega) (by omega)]; omega)]
      · rw [hi g a1 a2]
        unfold wD_
        rw [show v - 1 = nS m by omega]
    | succ d ih =>
      intro v f w h3 h4 h6 hi
      obtain ⟨f, rfl⟩ : ∃ k, f = k + 1 := ⟨f - 1, by omega⟩
      have hbc := bc_le m (v : Int)
      have key : ∀ g : Nat, ct_ (fun v => nd_ m v && !bl_ m v g) 1 (v + 1 - 1) = ct_ (fun v => nd_ m v && !bl_ m v g) 1 (v - 1) + (if (nd_ m v && !bl_ m v g) = true then 1 else 0) := by
        intro g
        rw [show v + 1 - 1 = (v - 1) + 1 by omega, ct_sn, show 1 + (v - 1) = v by omega]
      rw [L_X0_weighDark_10, hst, if_neg (show ¬ nI (nS m) < nI v by rw [nI_lt2 (by omega) (by omega)]; omega), iI_nI v, ev_countOpen hg hw hG hS (by omega), ← iI_nI, bs_, show (1 : Int32) = iI 1 from rfl, iI_add, show st 4 = iI (m 10) from hS 4 (by decide), if_e (iI_eq (by omega) (by omega))]
      by_cases c : (nG m : Int) - bc_ m v + 1 = m 10
      · rw [if_pos c, show (4 : Int32) = nI 4 from rfl, ev_wd38 hw hS (by omega) _ 57 4 fu_ w (by omega) (fu_lt (by decide))]
        refine ih (v + 1) f _ (by omega) (by omega) (by omega) (fun g a1 a2 => ?_)
        rw [key g]
        have e1 : nd_ m v = true := decide_eq_true c
        unfold wu_
        by_cases cb : bl_ m v (g : Int) = true
        · rw [if_neg (by rw [cb]; simp), hi g a1 a2, cb, Bool.not_true, Bool.and_false, if_neg (by decide), Nat.add_zero]
        · have cb : bl_ m v (g : Int) = false := by simpa using cb
          rw [if_pos ⟨a1, a2, cb⟩, hi g a1 a2, cb, e1, show (1 : Int32) = iI 1 from rfl, iI_sub]
          congr 1
          rw [if_pos (by decide)]
          omega
      · rw [if_neg c, show nI v + iI 1 = nI (v + 1) from nI_s v]
        refine ih (v + 1) f _ (by omega) (by omega) (by omega) (fun g a1 a2 => ?_)
        have e1 : nd_ m v = false := decide_eq_false c
        rw [key g, hi g a1 a2, e1, Bool.false_and, if_neg (by decide), Nat.add_zero]
  unfold F_X0_weighDark
  rw [ev_fill (by decide), bs_]
  refine main (nS m) 1 fu_ _ (by omega) (fu_lt (by omega)) (by omega) (fun g a1 a2 => ?_)
  show (if g < 61 then (0 : Int32) else w0 g) = _
  rw [if_pos (by omega)]
  rfl
/-! ===== END ===== -/
