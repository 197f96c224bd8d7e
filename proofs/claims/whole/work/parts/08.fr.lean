/-! ===== BEGIN sets in rising order ===== -/
def lpE {σ : Type} (g : Nat → σ → σ) : Nat → σ → σ
  | 0, a => a
  | r + 1, a => lpE g r (g r a)
/-- d more are chosen out of the last r of W, those before stand in ch -/
def eE {σ : Type} (vis : (Nat → Nat) → σ → σ) (k W low : Nat) : Nat → Nat → (Nat → Nat) → σ → σ
  | 0, _, ch, a => vis ch a
  | d + 1, r, ch, a => lpE (fun q b => eE vis k W low d q (un_ ch (k - (d + 1)) (low + (W - (q + 1)))) b) r a
/-- what comes behind the set ch: the n lowest places above p go on -/
def rG {σ : Type} (vis : (Nat → Nat) → σ → σ) (k W low p : Nat) : Nat → (Nat → Nat) → σ → σ
  | 0, _, a => a
  | n + 1, ch, a => rG vis k W low p n ch (eE vis k W low (k - (p + n)) (W - (ch (p + n) - low + 1)) ch a)
section ENU
variable {σ : Type} {vis : (Nat → Nat) → σ → σ} {k W low : Nat}
theorem un_at {f : Nat → Nat} {i x j : Nat} : un_ f i x j = if j = i then x else f j := rfl
theorem lpE_c {g h : Nat → σ → σ} : ∀ {r : Nat} {a : σ}, (∀ q, q < r → ∀ b, g q b = h q b) → lpE g r a = lpE h r a
  | 0, _, _ => rfl
  | r + 1, a, e => by
    show lpE g r (g r a) = lpE h r (h r a)
    rw [e r (by omega) a]
    exact lpE_c (fun q hq b => e q (by omega) b)
theorem lpE_i {g : Nat → σ → σ} : ∀ {r : Nat} {a : σ}, (∀ q, q < r → ∀ b, g q b = b) → lpE g r a = a
  | 0, _, _ => rfl
  | r + 1, a, e => by
    show lpE g r (g r a) = a
    rw [e r (by omega) a]
    exact lpE_i (fun q hq b => e q (by omega) b)
theorem eE_c (hv : ∀ ch ch2, (∀ j, j < k → ch j = ch2 j) → ∀ a, vis ch a = vis ch2 a) : ∀ {d r : Nat} {ch ch2 : Nat → Nat} {a : σ}, d ≤ k → (∀ j, j < k - d → ch j = ch2 j) → eE vis k W low d r ch a = eE vis k W low d r ch2 a
  | 0, r, ch, ch2, a, _, h => hv ch ch2 (fun j hj => h j (by omega)) a
  | d + 1, r, ch, ch2, a, hd, h => by
    show lpE _ r a = lpE _ r a
    refine lpE_c (fun q _ b => eE_c hv (by omega) (fun j hj => ?_))
    rw [un_at, un_at]
    by_cases c : j = k - (d + 1)
    · rw [if_pos c, if_pos c]
    · rw [if_neg c, if_neg c]
      exact h j (by omega)
theorem eE_0 : ∀ {d r : Nat} {ch : Nat → Nat} {a : σ}, r < d → eE vis k W low d r ch a = a
  | 0, r, _, _, h => by omega
  | d + 1, r, ch, a, h => by
    show lpE _ r a = a
    refine lpE_i (fun q hq b => ?_)
    exact eE_0 (by omega)
theorem rG_c (hv : ∀ ch ch2, (∀ j, j < k → ch j = ch2 j) → ∀ a, vis ch a = vis ch2 a) {p : Nat} : ∀ {n : Nat} {ch ch2 : Nat → Nat} {a : σ}, p + n ≤ k → (∀ j, j < p + n → ch j = ch2 j) → rG vis k W low p n ch a = rG vis k W low p n ch2 a
  | 0, _, _, _, _, _ => rfl
  | n + 1, ch, ch2, a, hk, h => by
    show rG vis k W low p n ch _ = rG vis k W low p n ch2 _
    rw [h (p + n) (by omega), eE_c hv (ch := ch) (ch2 := ch2) (by omega) (fun j hj => h j (by omega))]
    exact rG_c hv (by omega) (fun j hj => h j (by omega))
theorem rG_s {p : Nat} : ∀ {n : Nat} {ch : Nat → Nat} {a : σ}, rG vis k W low p (n + 1) ch a = eE vis k W low (k - p) (W - (ch p - low + 1)) ch (rG vis k W low (p + 1) n ch a)
  | 0, ch, a => rfl
  | n + 1, ch, a => by
    show rG vis k W low p (n + 1) ch _ = eE vis k W low (k - p) (W - (ch p - low + 1)) ch (rG vis k W low (p + 1) n ch _)
    rw [rG_s, show p + (n + 1) = p + 1 + n by omega]
theorem rG_j {p : Nat} : ∀ {a b : Nat} {ch : Nat → Nat} {x : σ}, rG vis k W low p (a + b) ch x = rG vis k W low p a ch (rG vis k W low (p + a) b ch x)
  | a, 0, ch, x => rfl
  | a, b + 1, ch, x => by
    show rG vis k W low p (a + b) ch (eE vis k W low (k - (p + (a + b))) (W - (ch (p + (a + b)) - low + 1)) ch x) = rG vis k W low p a ch (rG vis k W low (p + a) b ch (eE vis k W low (k - (p + a + b)) (W - (ch (p + a + b) - low + 1)) ch x))
    rw [rG_j, show p + (a + b) = p + a + b by omega]
/-- the first set that goes on from ch: d places from p = k - d on, out of the last r -/
def fE (k W low d r : Nat) (ch : Nat → Nat) : Nat → Nat := fun j => if k - d ≤ j ∧ j < k then low + (W - r) + (j - (k - d)) else ch j
theorem eE_f (hv : ∀ ch ch2, (∀ j, j < k → ch j = ch2 j) → ∀ a, vis ch a = vis ch2 a) : ∀ {d r : Nat} {ch : Nat → Nat} {a : σ}, d ≤ k → d ≤ r → r ≤ W → eE vis k W low d r ch a = rG vis k W low (k - d) d (fE k W low d r ch) (vis (fE k W low d r ch) a)
  | 0, r, ch, a, _, _, _ => by
    have : fE k W low 0 r ch = ch := by
      funext j
      unfold fE
      rw [if_neg (by omega)]
    rw [this]
    rfl
  | d + 1, 0, ch, a, _, h, _ => by omega
  | d + 1, r + 1, ch, a, hk, h, hW => by
    have e1 : fE k W low d r (un_ ch (k - (d + 1)) (low + (W - (r + 1)))) = fE k W low (d + 1) (r + 1) ch := by
      funext j
      unfold fE
      by_cases c : k - d ≤ j ∧ j < k
      · rw [if_pos c, if_pos (by omega)]
        omega
      · rw [if_neg c, un_at]
        by_cases c2 : j = k - (d + 1)
        · rw [if_pos c2, if_pos (by omega)]
          omega
        · rw [if_neg c2, if_neg (by omega)]
    show eE vis k W low (d + 1) r ch (eE vis k W low d r (un_ ch (k - (d + 1)) (low + (W - (r + 1)))) a) = _
    rw [eE_f hv (d := d) (r := r) (by omega) (by omega) (by omega), e1, rG_s]
    have e2 : fE k W low (d + 1) (r + 1) ch (k - (d + 1)) = low + (W - (r + 1)) := by
      unfold fE
      rw [if_pos (by omega)]
      omega
    rw [e2, show k - (k - (d + 1)) = d + 1 by omega, show W - (low + (W - (r + 1)) - low + 1) = r by omega, show k - (d + 1) + 1 = k - d by omega]
    refine eE_c hv hk (fun j hj => ?_)
    unfold fE
    rw [if_neg (by omega)]
/-- one step from a set to the next: at place n - 1, those above it being last -/
theorem rG_n (hv : ∀ ch ch2, (∀ j, j < k → ch j = ch2 j) → ∀ a, vis ch a = vis ch2 a) {n : Nat} {ch : Nat → Nat} {a : σ} (hn : n + 1 ≤ k) (hl : low ≤ ch n) (h : ch n - low + 1 + (k - n) ≤ W) :
    rG vis k W low 0 (n + 1) ch a = rG vis k W low 0 k (fE k W low (k - n) (W - (ch n - low + 1)) ch) (vis (fE k W low (k - n) (W - (ch n - low + 1)) ch) a) := by
  show rG vis k W low 0 n ch (eE vis k W low (k - (0 + n)) (W - (ch (0 + n) - low + 1)) ch a) = _
  rw [Nat.zero_add, eE_f hv (by omega) (by omega) (by omega), show k - (k - n) = n by omega]
  rw [rG_c hv (ch := ch) (ch2 := fE k W low (k - n) (W - (ch n - low + 1)) ch) (by omega) (fun j hj => by unfold fE; rw [if_neg (by omega)])]
  have := rG_j (vis := vis) (k := k) (W := W) (low := low) (p := 0) (a := n) (b := k - n) (ch := fE k W low (k - n) (W - (ch n - low + 1)) ch) (x := vis (fE k W low (k - n) (W - (ch n - low + 1)) ch) a)
  rw [Nat.zero_add, show n + (k - n) = k by omega] at this
  exact this.symm
theorem rG_0 {n : Nat} {ch : Nat → Nat} {a : σ} (hn : n + 1 ≤ k) (h : ¬ ch n - low + 1 + (k - n) ≤ W) : rG vis k W low 0 (n + 1) ch a = rG vis k W low 0 n ch a := by
  show rG vis k W low 0 n ch (eE vis k W low (k - (0 + n)) (W - (ch (0 + n) - low + 1)) ch a) = _
  rw [Nat.zero_add, eE_0 (by omega)]
/-- all of them -/
theorem eE_all (hv : ∀ ch ch2, (∀ j, j < k → ch j = ch2 j) → ∀ a, vis ch a = vis ch2 a) {ch : Nat → Nat} {a : σ} (h : k ≤ W) : eE vis k W low k W ch a = rG vis k W low 0 k (fE k W low k W ch) (vis (fE k W low k W ch) a) := by
  have := eE_f (low := low) hv (d := k) (r := W) (ch := ch) (a := a) (Nat.le_refl _) h (Nat.le_refl _)
  rw [Nat.sub_self] at this
  exact this
end ENU
/-- counting -/
def vC (_ : Nat → Nat) (n : Nat) : Nat := n + 1
theorem vC_a {k W low : Nat} : ∀ d r ch a, eE vC k W low d r ch a = a + eE vC k W low d r ch 0
  | 0, r, ch, a => by
    show a + 1 = a + (0 + 1)
    omega
  | d + 1, r, ch, a => by
    show lpE _ r a = a + lpE _ r 0
    induction r generalizing a with
    | zero => rfl
    | succ r ih =>
      show lpE _ r (eE vC k W low d r _ a) = a + lpE _ r (eE vC k W low d r _ 0)
      rw [ih, ih (eE vC k W low d r _ 0), vC_a d r _ a]
      omega
theorem vC_b {k W low : Nat} : ∀ d r ch, eE vC k W low d r ch 0 ≤ r ^ d
  | 0, r, ch => by
    show 0 + 1 ≤ r ^ 0
    rw [Nat.pow_zero]
    omega
  | d + 1, r, ch => by
    have main : ∀ q a, q ≤ r → lpE (fun q b => eE vC k W low d q (un_ ch (k - (d + 1)) (low + (W - (q + 1)))) b) q a ≤ a + q * r ^ d := by
      intro q
      induction q with
      | zero =>
        intro a _
        show a ≤ a + 0 * r ^ d
        omega
      | succ q ih =>
        intro a hq
        have h1 := vC_b (k := k) (W := W) (low := low) d q (un_ ch (k - (d + 1)) (low + (W - (q + 1))))
        have h2 : q ^ d ≤ r ^ d := Nat.pow_le_pow_left (by omega) d
        have h3 := ih (eE vC k W low d q (un_ ch (k - (d + 1)) (low + (W - (q + 1)))) a) (by omega)
        rw [vC_a d q _ a] at h3
        show lpE _ q (eE vC k W low d q _ a) ≤ _
        rw [vC_a d q _ a]
        rw [Nat.add_mul, Nat.one_mul]
        omega
    have := main r 0 (Nat.le_refl _)
    show lpE _ r 0 ≤ r ^ (d + 1)
    rw [Nat.pow_succ, Nat.mul_comm]
    omega
theorem vC_r {k W low p : Nat} : ∀ n ch a, rG vC k W low p n ch a = a + rG vC k W low p n ch 0
  | 0, ch, a => rfl
  | n + 1, ch, a => by
    show rG vC k W low p n ch (eE vC k W low _ _ ch a) = a + rG vC k W low p n ch (eE vC k W low _ _ ch 0)
    rw [vC_r n ch (eE vC k W low _ _ ch a), vC_r n ch (eE vC k W low _ _ ch 0), vC_a _ _ ch a]
    omega
theorem vC_v : ∀ k : Nat, ∀ ch ch2 : Nat → Nat, (∀ j, j < k → ch j = ch2 j) → ∀ a, vC ch a = vC ch2 a := fun _ _ _ _ _ => rfl
/-! ===== END ===== -/
