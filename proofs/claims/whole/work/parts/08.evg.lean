/-! ===== BEGIN the picture, told by what is free ===== -/
theorem ct_sn (P : Nat → Bool) : ∀ d a, ct_ P a (d + 1) = ct_ P a d + (if P (a + d) then 1 else 0)
  | 0, a => by
    show (if P a then 1 else 0) + 0 = 0 + (if P (a + 0) then 1 else 0)
    rw [Nat.add_zero, Nat.zero_add, Nat.add_zero]
  | d + 1, a => by
    have h := ct_sn P d (a + 1)
    have e : ct_ P a (d + 1 + 1) = (if P a then 1 else 0) + ct_ P (a + 1) (d + 1) := rfl
    have e2 : ct_ P a (d + 1) = (if P a then 1 else 0) + ct_ P (a + 1) d := rfl
    rw [e, h, e2, show a + 1 + d = a + (d + 1) by omega]
    omega
/-- how many of the gaps are free where a number lies -/
def cn_ (m : Nat → Int) (fr : Nat → Nat → Bool) (x : Nat) : Nat := ct_ (fun k => fr k (pl_ m x k)) 0 (nG m)
/-- how many places are free -/
def to_ (fr : Nat → Nat → Bool) (n : Nat) : Nat := sm_ (fun k => ct_ (fr k) 0 60) n
/-- a number takes what is free where it lies -/
def ta_ (m : Nat → Int) (fr : Nat → Nat → Bool) (x : Nat) : Nat → Nat → Bool := fun k p => fr k p && !decide (p = pl_ m x k)
theorem ct_rm {P : Nat → Bool} {c : Nat} : ∀ d, ct_ (fun p => P p && !decide (p = c)) 0 d + (if c < d ∧ P c = true then 1 else 0) = ct_ P 0 d
  | 0 => by rw [if_neg (by omega)]; rfl
  | d + 1 => by
    have ih := ct_rm (P := P) (c := c) d
    rw [ct_sn, ct_sn, Nat.zero_add]
    by_cases h : d = c
    · subst h
      rw [decide_eq_true rfl, Bool.not_true, Bool.and_false]
      rw [if_neg (by omega)] at ih
      by_cases hp : P d = true
      · rw [if_neg (show ¬ (false = true) by decide), if_pos (show d < d + 1 ∧ P d = true from ⟨by omega, hp⟩), if_pos hp]
        omega
      · rw [if_neg (show ¬ (false = true) by decide), if_neg (show ¬ (d < d + 1 ∧ P d = true) from fun h => hp h.2), if_neg hp]
        omega
    · rw [decide_eq_false h, Bool.not_false, Bool.and_true]
      have e : (if c < d + 1 ∧ P c = true then 1 else 0) = if c < d ∧ P c = true then 1 else (0 : Nat) := by
        refine if_e ?_
        apply propext
        constructor
        · rintro ⟨h1, h2⟩; exact ⟨by omega, h2⟩
        · rintro ⟨h1, h2⟩; exact ⟨by omega, h2⟩
      rw [e]
      omega
theorem to_ta {m : Nat → Int} (hg : WG m) (fr : Nat → Nat → Bool) (x : Nat) : ∀ n, n ≤ nG m → to_ (ta_ m fr x) n + ct_ (fun k => fr k (pl_ m x k)) 0 n = to_ fr n
  | 0, _ => rfl
  | n + 1, h => by
    have ih := to_ta hg fr x n (by omega)
    have hp := pl_c hg (x := (x : Int)) (show n < nG m by omega)
    have h1 := ct_rm (P := fr n) (c := pl_ m x n) 60
    rw [ct_sn, Nat.zero_add]
    have e1 : to_ (ta_ m fr x) (n + 1) = to_ (ta_ m fr x) n + ct_ (fun p => fr n p && !decide (p = pl_ m x n)) 0 60 := rfl
    have e2 : to_ fr (n + 1) = to_ fr n + ct_ (fr n) 0 60 := rfl
    rw [e1, e2]
    have e3 : (if pl_ m (x : Int) n < 60 ∧ fr n (pl_ m x n) = true then 1 else 0) = if fr n (pl_ m x n) = true then 1 else (0 : Nat) := by
      refine if_e ?_
      apply propext
      exact ⟨fun h => h.2, fun h => ⟨hp.2.1, h⟩⟩
    rw [e3] at h1
    omega
theorem cn_ta {m : Nat → Int} (fr : Nat → Nat → Bool) (x i : Nat) : cn_ m (ta_ m fr x) i ≤ cn_ m fr i := by
  unfold cn_
  have : ∀ d a, ct_ (fun k => ta_ m fr x k (pl_ m i k)) a d ≤ ct_ (fun k => fr k (pl_ m i k)) a d := by
    intro d
    induction d with
    | zero => intro a; exact Nat.le_refl 0
    | succ d ih =>
      intro a
      have h := ih (a + 1)
      unfold ct_
      have h2 : (if ta_ m fr x a (pl_ m i a) = true then 1 else 0) ≤ if fr a (pl_ m i a) = true then 1 else (0 : Nat) := by
        unfold ta_
        cases fr a (pl_ m i a) <;> simp
        split <;> omega
      omega
  exact this _ _
/-- the first of the numbers that have most free, if they have enough -/
def be_ (m : Nat → Int) (fr : Nat → Nat → Bool) : Nat → Option Nat
  | 0 => none
  | i + 1 => if (cn_ m fr i : Int) < m 10 then be_ m fr i else match be_ m fr i with
    | none => some i
    | some j => if cn_ m fr i ≤ cn_ m fr j then some j else some i
theorem be_n {m : Nat → Int} {fr : Nat → Nat → Bool} : ∀ {N : Nat}, be_ m fr N = none → ∀ i, i < N → (cn_ m fr i : Int) < m 10
  | 0, _, i, h => by omega
  | N + 1, h, i, hi => by
    unfold be_ at h
    by_cases c : (cn_ m fr N : Int) < m 10
    · rw [if_pos c] at h
      rcases Nat.eq_or_lt_of_le (show i ≤ N by omega) with h1 | h1
      · rw [h1]; exact c
      · exact be_n h i h1
    · rw [if_neg c] at h
      cases hb : be_ m fr N with
      | none => rw [hb] at h; cases h
      | some j =>
        rw [hb] at h
        dsimp only at h
        split at h <;> cases h
theorem be_s {m : Nat → Int} {fr : Nat → Nat → Bool} : ∀ {N b : Nat}, be_ m fr N = some b → b < N ∧ m 10 ≤ (cn_ m fr b : Int) ∧ (∀ i, i < N → m 10 ≤ (cn_ m fr i : Int) → cn_ m fr i ≤ cn_ m fr b) ∧ ∀ i, i < b → m 10 ≤ (cn_ m fr i : Int) → cn_ m fr i < cn_ m fr b
  | 0, _, h => by unfold be_ at h; cases h
  | N + 1, b, h => by
    unfold be_ at h
    by_cases c : (cn_ m fr N : Int) < m 10
    · rw [if_pos c] at h
      obtain ⟨h1, h2, h3, h4⟩ := be_s h
      refine ⟨by omega, h2, fun i hi hc => ?_, h4⟩
      rcases Nat.eq_or_lt_of_le (show i ≤ N by omega) with h5 | h5
      · rw [h5] at hc; omega
      · exact h3 i h5 hc
    · rw [if_neg c] at h
      cases hb : be_ m fr N with
      | none =>
        rw [hb] at h
        cases h
        have hn := be_n hb
        refine ⟨by omega, by omega, fun i hi hc => ?_, fun i hi hc => ?_⟩
        · rcases Nat.eq_or_lt_of_le (show i ≤ N by omega) with h5 | h5
          · rw [h5]; exact Nat.le_refl _
          · have := hn i h5; omega
        · have := hn i hi; omega
      | some j =>
        obtain ⟨h1, h2, h3, h4⟩ := be_s hb
        rw [hb] at h
        dsimp only at h
        by_cases d : cn_ m fr N ≤ cn_ m fr j
        · rw [if_pos d] at h
          cases h
          refine ⟨by omega, h2, fun i hi hc => ?_, h4⟩
          rcases Nat.eq_or_lt_of_le (show i ≤ N by omega) with h5 | h5
          · rw [h5]; exact d
          · exact h3 i h5 hc
        · rw [if_neg d] at h
          cases h
          refine ⟨by omega, by omega, fun i hi hc => ?_, fun i hi hc => ?_⟩
          · rcases Nat.eq_or_lt_of_le (show i ≤ N by omega) with h5 | h5
            · rw [h5]; exact Nat.le_refl _
            · have := h3 i h5 hc; omega
          · have := h3 i hi hc; omega
theorem be_is {m : Nat → Int} {fr : Nat → Nat → Bool} {N b : Nat} (h1 : b < N) (h2 : m 10 ≤ (cn_ m fr b : Int)) (h3 : ∀ i, i < N → cn_ m fr i ≤ cn_ m fr b) (h4 : ∀ i, i < b → cn_ m fr i < cn_ m fr b) : be_ m fr N = some b := by
  cases h : be_ m fr N with
  | none => have := be_n h b h1; omega
  | some j =>
    obtain ⟨j1, j2, j3, j4⟩ := be_s h
    congr 1
    have e1 := j3 b h1 h2
    have e2 := h3 j j1
    rcases Nat.lt_trichotomy j b with q | q | q
    · have := h4 j q; omega
    · exact q
    · have := j4 b q h2; omega
/-- what is free; how many are shown; which; how many they took -/
abbrev Pt := (Nat → Nat → Bool) × Nat × (Nat → Nat) × (Nat → Nat)
def un_ (f : Nat → Nat) (k x : Nat) : Nat → Nat := fun i => if i = k then x else f i
def tk_ (m : Nat → Int) (s : Pt) (x : Nat) : Pt := (ta_ m s.1 x, s.2.1 + 1, un_ s.2.2.1 s.2.1 x, un_ s.2.2.2 s.2.1 (cn_ m s.1 x))
def rp_ (m : Nat → Int) : Nat → Pt → Pt
  | 0, s => s
  | f + 1, s => match be_ m s.1 (nL m) with
    | none => s
    | some b => rp_ m f (tk_ m s b)
def pt_ (m : Nat → Int) : Pt := rp_ m 41 (eo_ m, 0, fun _ => 0, fun _ => 0)
theorem rp_n {m : Nat → Int} {s : Pt} {f : Nat} (h : be_ m s.1 (nL m) = none) : rp_ m (f + 1) s = s := by
  unfold rp_
  rw [h]
theorem rp_s {m : Nat → Int} {s : Pt} {f b : Nat} (h : be_ m s.1 (nL m) = some b) : rp_ m (f + 1) s = rp_ m f (tk_ m s b) := by
  conv => lhs; unfold rp_
  rw [h]
/-- a gap has no more echoes than there are targets -/
theorem ct_o1 {P : Nat → Bool} {c : Nat} : ∀ d, ct_ (fun p => P p || decide (p = c)) 0 d ≤ ct_ P 0 d + (if c < d then 1 else 0)
  | 0 => by rw [if_neg (by omega)]; exact Nat.le_refl 0
  | d + 1 => by
    have ih := ct_o1 (P := P) (c := c) d
    rw [ct_sn, ct_sn, Nat.zero_add]
    by_cases h : d = c
    · subst h
      rw [if_neg (by omega)] at ih
      rw [if_pos (show d < d + 1 by omega)]
      split <;> split <;> omega
    · rw [decide_eq_false h, Bool.or_false]
      have e : (if c < d + 1 then 1 else 0) = if c < d then 1 else (0 : Nat) := if_e (by apply propext; omega)
      rw [e]
      omega
theorem ct_mo {P Q : Nat → Bool} (h : ∀ k, P k = true → Q k = true) : ∀ d a, ct_ P a d ≤ ct_ Q a d
  | 0, _ => Nat.le_refl 0
  | d + 1, a => by
    have ih := ct_mo h d (a + 1)
    unfold ct_
    cases hp : P a with
    | false => simp; omega
    | true => rw [h a hp]; omega
theorem lo_ct {m : Nat → Int} (g : Int) : ∀ t, ct_ (fun p => decide (0 < lo_ m g p t)) 0 60 ≤ t
  | 0 => by
    have z : ∀ d a, ct_ (fun p => decide (0 < lo_ m g p 0)) a d = 0 := by
      intro d
      induction d with
      | zero => intro a; rfl
      | succ d ih => intro a; unfold ct_; rw [ih]; rfl
    rw [z]
    exact Nat.le_refl 0
  | t + 1 => by
    have ih := lo_ct (m := m) g t
    have h1 := ct_o1 (P := fun p => decide (0 < lo_ m g p t)) (c := (rn_ m t % g).toNat) 60
    have h2 := ct_mo (P := fun p => decide (0 < lo_ m g p (t + 1))) (Q := fun p => decide (0 < lo_ m g p t) || decide (p = (rn_ m t % g).toNat)) (by
      intro p hp
      have hp := of_decide_eq_true hp
      rw [Bool.or_eq_true, decide_eq_true_iff, decide_eq_true_iff]
      by_cases c : ec_ m g p t = true
      · right
        unfold ec_ at c
        rw [Bool.and_eq_true, decide_eq_true_iff] at c
        omega
      · left
        unfold lo_ at hp
        rw [if_neg c] at hp
        omega) 60 0
    have h3 : (if (rn_ m t % g).toNat < 60 then 1 else 0) ≤ 1 := by split <;> omega
    omega
theorem to_b {m : Nat → Int} (hw : WS m) (ht : WT m) : ∀ n, to_ (eo_ m) n ≤ 8 * n
  | 0 => Nat.le_refl 0
  | n + 1 => by
    have ih := to_b hw ht n
    obtain ⟨-, -, -, -, -, -, h12⟩ := id hw
    obtain ⟨hn2, h8⟩ := nT_c ht
    have h1 := lo_ct (m := m) (m (1 + n)) (nT m)
    have h2 := ct_mo (P := fun p => eo_ m n p) (Q := fun p => decide (0 < lo_ m (m (1 + n)) p (nT m))) (by
      intro p hp
      have hp := of_decide_eq_true hp
      exact decide_eq_true (by omega)) 60 0
    have e : to_ (eo_ m) (n + 1) = to_ (eo_ m) n + ct_ (eo_ m n) 0 60 := rfl
    have e2 : ct_ (eo_ m n) 0 60 = ct_ (fun p => eo_ m n p) 0 60 := rfl
    omega
/-! ===== END ===== -/
