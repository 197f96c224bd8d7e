/-! ===== BEGIN the next order ===== -/
/-- the last place, below the one given, whose next is not less -/
def pi_ (o : Nat → Nat) : Nat → Option Nat
  | 0 => none
  | i + 1 => if o i ≤ o (i + 1) then some i else pi_ o i
def pj_ (o : Nat → Nat) (i : Nat) : Nat → Nat
  | 0 => 0
  | k + 1 => if o i ≤ o (k + 1) then k + 1 else pj_ o i k
def sw_ (o : Nat → Nat) (a b : Nat) : Nat → Nat := fun k => if k = b then o a else if k = a then o b else o k
def rv_ (n i : Nat) : Nat → Nat → (Nat → Nat) → Nat → Nat
  | 0, _, o => o
  | d + 1, a, o => if n - a + i ≤ a then o else rv_ n i d (a + 1) (sw_ o a (n - a + i))
def np_ (n : Nat) (o : Nat → Nat) : Option (Nat → Nat) := match pi_ o (n - 1) with
  | none => none
  | some i => some (rv_ n i 5 (i + 1) (sw_ o i (pj_ o i (n - 1))))
/-- it ends within so many steps -/
def tm_ (n : Nat) : Nat → (Nat → Nat) → Bool
  | 0, _ => false
  | f + 1, o => match np_ n o with
    | none => true
    | some o' => tm_ n f o'
theorem tm_a : ∀ n, n < 6 → tm_ n 120 (fun k => k) = true := by decide +kernel
theorem pi_c {o : Nat → Nat} : ∀ {k i : Nat}, pi_ o k = some i → i < k ∧ o i ≤ o (i + 1)
  | 0, _, h => by unfold pi_ at h; cases h
  | k + 1, i, h => by
    unfold pi_ at h
    by_cases c : o k ≤ o (k + 1)
    · rw [if_pos c] at h
      cases h
      exact ⟨by omega, c⟩
    · rw [if_neg c] at h
      have := pi_c h
      exact ⟨by omega, this.2⟩
theorem pj_c {o : Nat → Nat} {i : Nat} (h : o i ≤ o (i + 1)) : ∀ {k : Nat}, i < k → i < pj_ o i k ∧ pj_ o i k ≤ k
  | k + 1, hk => by
    unfold pj_
    by_cases c : o i ≤ o (k + 1)
    · rw [if_pos c]; omega
    · rw [if_neg c]
      rcases Nat.eq_or_lt_of_le (show i ≤ k by omega) with q | q
      · rw [← q] at c; exact absurd h c
      · have := pj_c h q
        omega
theorem sw_b {n : Nat} {o : Nat → Nat} (h : ∀ k, k < n → o k < n) {a b : Nat} (ha : a < n) (hb : b < n) : ∀ k, k < n → sw_ o a b k < n := by
  intro k hk
  unfold sw_
  split
  · exact h a ha
  · split
    · exact h b hb
    · exact h k hk
theorem rv_b {n i : Nat} : ∀ (d a : Nat) (o : Nat → Nat), i < a → (∀ k, k < n → o k < n) → ∀ k, k < n → rv_ n i d a o k < n
  | 0, _, o, _, h => h
  | d + 1, a, o, ha, h => by
    unfold rv_
    by_cases c : n - a + i ≤ a
    · rw [if_pos c]; exact h
    · rw [if_neg c]
      exact rv_b d (a + 1) _ (by omega) (sw_b h (by omega) (by omega))
theorem np_b {n : Nat} {o o2 : Nat → Nat} (h : ∀ k, k < n → o k < n) (e : np_ n o = some o2) : ∀ k, k < n → o2 k < n := by
  unfold np_ at e
  cases hp : pi_ o (n - 1) with
  | none => rw [hp] at e; cases e
  | some i =>
    rw [hp] at e
    cases e
    obtain ⟨h1, h2⟩ := pi_c hp
    obtain ⟨h3, h4⟩ := pj_c h2 h1
    exact rv_b 5 (i + 1) _ (by omega) (sw_b h (by omega) (by omega))
/-- a row that holds an order, by numbers that rise -/
def rO (n : Nat) (G : Nat → Int) (o : Nat → Nat) (r : Nat → Int32) : Prop := ∀ k, k < n → r k = iI (G (o k))
theorem rO_s {n : Nat} {G : Nat → Int} {o : Nat → Nat} {r : Nat → Int32} (h : rO n G o r) {a b : Nat} (ha : a < n) (hb : b < n) : rO n G (sw_ o a b) (upd (upd r a (r b)) b (r a)) := by
  intro k hk
  rw [upd_at, upd_at]
  unfold sw_
  by_cases c : k = b
  · rw [if_pos c, if_pos c, h a ha]
  · rw [if_neg c, if_neg c]
    by_cases d : k = a
    · rw [if_pos d, if_pos d, h b hb]
    · rw [if_neg d, if_neg d, h k hk]
section ORD
variable {n : Nat} {G : Nat → Int}
theorem G_le (hG : ∀ i j, i < j → j < n → G i < G j) {i j : Nat} (hi : i < n) (hj : j < n) : (G i ≤ G j) = (i ≤ j) := by
  apply propext
  rcases Nat.lt_trichotomy i j with q | q | q
  · have := hG i j q hj; omega
  · subst q; omega
  · have := hG j i q hi; omega
theorem m1_ (k : Nat) : nI (k + 1) + (-1 : Int32) = nI k := pk_m1 k
theorem s1_ {k : Nat} (h : 1 ≤ k) : nI k - (1 : Int32) = nI (k - 1) := by rw [iI_nI, show (1 : Int32) = iI 1 from rfl, iI_sub, iI_nI]; congr 1; omega
theorem ev_nextRow (hn : 0 < n ∧ n ≤ 5) (hG : ∀ i j, i < j → j < n → G i < G j) (hGb : ∀ k, k < n → 0 ≤ G k ∧ G k ≤ 60) {o : Nat → Nat} (ho : ∀ k, k < n → o k < n) {r : Nat → Int32} (hr : rO n G o r) :
    ∃ r2, F_X2_nextRow (nI n) r = some (match np_ n o with | none => ((0 : Int32), r2) | some _ => (1, r2)) ∧ ∀ o2, np_ n o = some o2 → rO n G o2 r2 := by
  have rev : ∀ i, i < n → ∀ d a f (o : Nat → Nat) (r : Nat → Int32), n - a + i < a + 2 * d + 1 → d < f → i < a → a ≤ n → rO n G o r → ∃ r2, L_X2_nextRow_93 (nI n) f r (nI a) (iI ((n : Int) - a + i)) = some (1, r2) ∧ rO n G (rv_ n i d a o) r2 := by
    intro i hi d
    induction d with
    | zero =>
      intro a f o r h1 h2 h3 h4 hr
      obtain ⟨f, rfl⟩ : ∃ k, f = k + 1 := ⟨f - 1, by omega⟩
      refine ⟨r, ?_, hr⟩
      rw [L_X2_nextRow_93, if_pos (by rw [iI_nI a, iI_le (by omega) (by omega)]; omega)]
    | succ d ih =>
      intro a f o r h1 h2 h3 h4 hr
      obtain ⟨f, rfl⟩ : ∃ k, f = k + 1 := ⟨f - 1, by omega⟩
      unfold rv_
      by_cases c : n - a + i ≤ a
      · rw [if_pos c]
        refine ⟨r, ?_, hr⟩
        rw [L_X2_nextRow_93, if_pos (by rw [iI_nI a, iI_le (by omega) (by omega)]; omega)]
      · rw [if_neg c, L_X2_nextRow_93, if_neg (by rw [iI_nI a, iI_le (by omega) (by omega)]; omega)]
        have eb : iI ((n : Int) - a + i) = nI (n - a + i) := by rw [iI_nI]; congr 1; omega
        unfold F_X2_swap
        rw [eb, gN_ (by omega) (by decide), gN_ (by omega) (by decide), gN_ (by omega) (by decide), gN_ (by omega) (by decide), nI_clamp (by omega), nI_clamp (by omega), bs_, nI_s, show nI (n - a + i) + (-1 : Int32) = iI ((n : Int) - ((a + 1 : Nat) : Int) + i) by rw [iI_nI, show (-1 : Int32) = iI (-1) from rfl, iI_add]; congr 1; omega]
        exact ih (a + 1) f _ _ (by omega) (by omega) (by omega) (by omega) (rO_s hr (by omega) (by omega))
  have fin : ∀ i, i + 1 < n → o i ≤ o (i + 1) → ∀ k f, i < k → k < n → k < f → ∃ r2, L_X2_nextRow_47 (nI n) f r (nI i) (nI k) = some (1, r2) ∧ rO n G (rv_ n i 5 (i + 1) (sw_ o i (pj_ o i k))) r2 := by
    intro i hi hio k
    induction k with
    | zero => intro f h1; omega
    | succ k ih =>
      intro f h1 h2 h3
      obtain ⟨f, rfl⟩ : ∃ k, f = k + 1 := ⟨f - 1, by omega⟩
      have last : pj_ o i (k + 1) = k + 1 → ∃ r2, J_X2_nextRow_75 (nI n) r (nI i) (nI (k + 1)) = some (1, r2) ∧ rO n G (rv_ n i 5 (i + 1) (sw_ o i (pj_ o i (k + 1)))) r2 := by
        intro e
        unfold J_X2_nextRow_75 F_X2_swap
        rw [gN_ (by omega) (by decide), gN_ (by omega) (by decide), gN_ (by omega) (by decide), gN_ (by omega) (by decide), nI_clamp (by omega), nI_clamp (by omega), bs_, nI_s, e, show nI n - (1 : Int32) = iI ((n : Int) - ((i + 1 : Nat) : Int) + i) by rw [iI_nI, show (1 : Int32) = iI 1 from rfl, iI_sub]; congr 1; omega]
        exact rev i (by omega) 5 (i + 1) fu_ _ _ (by omega) (fu_lt (by omega)) (by omega) (by omega) (rO_s hr (by omega) (by omega))
      rw [L_X2_nextRow_47, nI_s, if_e (nI_le2 (by omega) (by omega))]
      by_cases c : k + 1 ≤ i + 1
      · rw [if_pos c]
        have hk : k = i := by omega
        subst hk
        refine last ?_
        unfold pj_
        rw [if_pos hio]
      · have ge := G_le hG (ho i (by omega)) (ho (k + 1) (by omega))
        have b1 := hGb _ (ho i (by omega))
        have b2 := hGb _ (ho (k + 1) (by omega))
        rw [if_neg c, gN_ (by omega) (by decide), gN_ (by omega) (by decide), nI_clamp (by omega), nI_clamp (by omega), hr i (by omega), hr (k + 1) (by omega), if_e ((iI_le (by omega) (by omega)).trans ge), m1_]
        by_cases q : o i ≤ o (k + 1)
        · rw [if_pos q]
          refine last ?_
          unfold pj_
          rw [if_pos q]
        · rw [if_neg q]
          obtain ⟨r2, e1, e2⟩ := ih f (by omega) (by omega) (by omega)
          refine ⟨r2, e1, ?_⟩
          conv in pj_ o i (k + 1) => unfold pj_
          rw [if_neg q]
          exact e2
  have main : ∀ k f, k < n → k < f → ∃ r2, L_X2_nextRow_7 (nI n) f r (iI ((k : Int) - 1)) = some (match pi_ o k with | none => ((0 : Int32), r2) | some _ => (1, r2)) ∧ ∀ i, pi_ o k = some i → rO n G (rv_ n i 5 (i + 1) (sw_ o i (pj_ o i (n - 1)))) r2 := by
    intro k
    induction k with
    | zero =>
      intro f h1 h2
      obtain ⟨f, rfl⟩ : ∃ k, f = k + 1 := ⟨f - 1, by omega⟩
      refine ⟨r, ?_, fun i h => by unfold pi_ at h; cases h⟩
      rw [L_X2_nextRow_7, if_pos (by decide)]
      unfold J_X2_nextRow_34
      rw [if_neg (by decide)]
      rfl
    | succ k ih =>
      intro f h1 h2
      obtain ⟨f, rfl⟩ : ∃ k, f = k + 1 := ⟨f - 1, by omega⟩
      have ge := G_le hG (ho k (by omega)) (ho (k + 1) (by omega))
      have b1 := hGb _ (ho k (by omega))
      have b2 := hGb _ (ho (k + 1) (by omega))
      rw [L_X2_nextRow_7, show iI (((k + 1 : Nat) : Int) - 1) = nI k by rw [iI_nI]; congr 1; omega, if_neg (nI_pos (by omega)), gN_ (by omega) (by decide), nI_s, gN_ (by omega) (by decide), nI_clamp (by omega), nI_clamp (by omega), hr k (by omega), hr (k + 1) (by omega), if_e ((iI_le (by omega) (by omega)).trans ge)]
      by_cases q : o k ≤ o (k + 1)
      · rw [if_pos q]
        unfold J_X2_nextRow_34
        rw [if_pos (show (0 : Int32) ≤ nI k from yle_ (a := 0) (by decide) (by omega) (by omega)), s1_ (by omega)]
        obtain ⟨r2, e1, e2⟩ := fin k (by omega) q (n - 1) fu_ (by omega) (by omega) (fu_lt (by omega))
        have ep : pi_ o (k + 1) = some k := by unfold pi_; rw [if_pos q]
        refine ⟨r2, by rw [e1, ep], fun i hi => ?_⟩
        rw [ep] at hi
        cases hi
        exact e2
      · rw [if_neg q]
        have ep : pi_ o (k + 1) = pi_ o k := by
          conv => lhs; unfold pi_
          rw [if_neg q]
        obtain ⟨r2, e1, e2⟩ := ih f (by omega) (by omega)
        rw [show nI k + (-1 : Int32) = iI ((k : Int) - 1) by rw [iI_nI, show (-1 : Int32) = iI (-1) from rfl, iI_add]; rfl, ep]
        exact ⟨r2, e1, e2⟩
  obtain ⟨r2, e1, e2⟩ := main (n - 1) fu_ (by omega) (fu_lt (by omega))
  refine ⟨r2, ?_, ?_⟩
  · unfold F_X2_nextRow
    rw [show nI n - (2 : Int32) = iI (((n - 1 : Nat) : Int) - 1) by rw [iI_nI, show (2 : Int32) = iI 2 from rfl, iI_sub]; congr 1; omega, e1]
    unfold np_
    cases pi_ o (n - 1) <;> rfl
  · intro o2 h
    unfold np_ at h
    cases hp : pi_ o (n - 1) with
    | none => rw [hp] at h; cases h
    | some i =>
      rw [hp] at h
      cases h
      exact e2 i hp
end ORD
/-! ===== END ===== -/
