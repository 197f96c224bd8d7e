/-! ===== BEGIN what is heard between the pulses; dwell ===== -/
def wd_ (m : Nat → Int) : Int := if m 8 < 1 then 1 else m 8
theorem wd_b {m : Nat → Int} (hw : WS m) : 1 ≤ wd_ m ∧ wd_ m ≤ 9 := by
  obtain ⟨-, -, h8, -⟩ := id hw
  unfold wd_
  split <;> omega
section PULSES
variable {S : Nat → Int} {N : Nat} {s : Nat → Int32}
theorem ev_countHiddenOf {m : Nat → Int} (hw : WS m) (hN : 1 ≤ N ∧ N ≤ 64) (h0 : S 0 = 0) (hS : ∀ i, i < N → S i < S (i + 1)) (hb : ∀ i, i ≤ N → 0 ≤ S i ∧ S i ≤ 4032) (hs : ∀ i, i ≤ N → s i = iI (S i)) {r : Int} (hr : 0 ≤ r ∧ r ≤ 2999) :
    F_X2_countHiddenOf (nI N) s (iI r) (iI (m 8)) = some (nI (ct_ (fun i => hx_ S (wd_ m) (S i + r) N) 0 N)) := by
  have hwd := wd_b hw
  obtain ⟨-, -, h8, -⟩ := id hw
  unfold F_X2_countHiddenOf
  rw [show (1 : Int32) = iI 1 from rfl, if_e (iI_lt (by omega) (by omega)), show (if m 8 < 1 then iI 1 else iI (m 8)) = iI (wd_ m) by unfold wd_; split <;> rfl]
  have inner : ∀ (kk : Int32 → Int32 → Int32 → Int32 → Int32 → Option Int32) (t : Int) (x3 x4 x6 : Int32), 0 ≤ t ∧ t ≤ 10000 → ∀ e l f, l + 1 + e = N → e < f → S l ≤ t →
      ∃ l', l' < N ∧ S l' ≤ t ∧ (∀ i, l' < i → i < N → t < S i) ∧ L_X2_countHiddenOf_35 (nI N) s kk f (iI r) x3 x4 (nI l) x6 (iI t) = J_X2_countHiddenOf_66 (nI N) s kk (iI r) x3 x4 (nI l') x6 (iI t) := by
    intro kk t x3 x4 x6 ht e
    induction e with
    | zero =>
      intro l f h1 h2 h3
      obtain ⟨f, rfl⟩ : ∃ k, f = k + 1 := ⟨f - 1, by omega⟩
      refine ⟨l, by omega, h3, fun i h4 h5 => by omega, ?_⟩
      rw [L_X2_countHiddenOf_35, nI_s, if_pos (yle_ (by omega) (by omega) (by omega))]
    | succ e ih =>
      intro l f h1 h2 h3
      obtain ⟨f, rfl⟩ : ∃ k, f = k + 1 := ⟨f - 1, by omega⟩
      have hb1 := hb (l + 1) (by omega)
      rw [L_X2_countHiddenOf_35, nI_s, if_neg (nle_ (by omega) (by omega) (by omega)), gN_ (by omega) (by decide), nI_clamp (by omega), hs (l + 1) (by omega), if_e (iI_lt (by omega) (by omega))]
      by_cases c : t < S (l + 1)
      · rw [if_pos c]
        refine ⟨l, by omega, h3, fun i h4 h5 => ?_, rfl⟩
        have := mo_ hS (i - (l + 1)) (l + 1) (by omega)
        rw [show l + 1 + (i - (l + 1)) = i by omega] at this
        omega
      · rw [if_neg c]
        exact ih (l + 1) f (by omega) (by omega) (by omega)
  have outer : ∀ d i f c l, i + d = N → d < f → l < N → (i < N → S l ≤ S i + r) → L_X2_countHiddenOf_15 (nI N) s f (iI r) (iI (wd_ m)) (nI c) (nI l) (nI i) = some (nI (c + ct_ (fun i => hx_ S (wd_ m) (S i + r) N) i d)) := by
    intro d
    induction d with
    | zero =>
      intro i f c l h1 h2 h3 h4
      obtain ⟨f, rfl⟩ : ∃ k, f = k + 1 := ⟨f - 1, by omega⟩
      rw [L_X2_countHiddenOf_15, if_pos (yle_ (by omega) (by omega) (by omega))]
      rfl
    | succ d ih =>
      intro i f c l h1 h2 h3 h4
      obtain ⟨f, rfl⟩ : ∃ k, f = k + 1 := ⟨f - 1, by omega⟩
      have hbi := hb i (by omega)
      rw [L_X2_countHiddenOf_15, if_neg (nle_ (by omega) (by omega) (by omega)), gN_ (by omega) (by decide), nI_clamp (by omega), hs i (by omega), iI_add]
      obtain ⟨l', a1, a2, a3, a4⟩ := inner (L_X2_countHiddenOf_15 (nI N) s f) (S i + r) (iI (wd_ m)) (nI c) (nI i) (by omega) (N - l - 1) l fu_ (by omega) (fu_lt (by omega)) (h4 (by omega))
      have hbl := hb l' (by omega)
      rw [a4]
      unfold J_X2_countHiddenOf_66
      rw [gN_ (by omega) (by decide), nI_clamp (by omega), hs l' (by omega), iI_sub, if_e (iI_le (by omega) (by omega)), nI_s, nI_s]
      unfold ct_
      rw [hx_l hS a1 a2 a3]
      have nxt : i + 1 < N → S l' ≤ S (i + 1) + r := fun _ => by have := hS i (by omega); omega
      by_cases q : wd_ m ≤ S i + r - S l'
      · rw [if_pos q, decide_eq_false (by omega), ih (i + 1) f c l' (by omega) (by omega) a1 nxt]
        congr 2
        simp
      · rw [if_neg q, decide_eq_true (by omega), ih (i + 1) f (c + 1) l' (by omega) (by omega) a1 nxt]
        congr 2
        simp
        omega
  have h := outer N 0 fu_ 0 0 (by omega) (fu_lt (by omega)) (by omega) (fun _ => by omega)
  rw [Nat.zero_add] at h
  exact h
/-- how many echoes are hidden, are clear -/
def hN_ (m : Nat → Int) (S : Nat → Int) (N : Nat) (t : Nat) : Nat := ct_ (fun i => hx_ S (wd_ m) (S i + rn_ m t) N) 0 N
def cN_ (m : Nat → Int) (S : Nat → Int) (N : Nat) (t : Nat) : Nat := ct_ (fun i => decide (S i + rn_ m t < S (i + 1))) 0 N
theorem ev_countHidden {m : Nat → Int} {st : Nat → Int32} {tc : Int32} {sp ve sr : Nat → Int32} (hw : WS m) (ht : WT m) (hS2 : cS m st) (hT : cT m tc sp ve sr) (hN : 1 ≤ N ∧ N ≤ 64) (h0 : S 0 = 0) (hS : ∀ i, i < N → S i < S (i + 1)) (hb : ∀ i, i ≤ N → 0 ≤ S i ∧ S i ≤ 4032) (hs : ∀ i, i ≤ N → s i = iI (S i)) {E : Nat} (hE : E < 2147483648) :
    ∃ r, r ≤ 512 ∧ F_X2_countHidden (nI N) s tc st sp (nI E) = some (nI r) ∧ (sm_ (hN_ m S N) (nT m) < E → r = sm_ (hN_ m S N) (nT m)) ∧ (E ≤ sm_ (hN_ m S N) (nT m) → E ≤ r) := by
  obtain ⟨hn2, h8⟩ := nT_c ht
  have htc : tc = nI (nT m) := by rw [hT.1, hn2, iI_nI]
  have hle : ∀ t, hN_ m S N t ≤ 64 := fun t => by
    have := ct_le (fun i => hx_ S (wd_ m) (S i + rn_ m t) N) N 0
    unfold hN_
    omega
  have mono : ∀ d t, sm_ (hN_ m S N) t ≤ sm_ (hN_ m S N) (t + d) := by
    intro d
    induction d with
    | zero => intro t; exact Nat.le_refl _
    | succ d ih =>
      intro t
      have := ih t
      have e : sm_ (hN_ m S N) (t + (d + 1)) = sm_ (hN_ m S N) (t + d) + hN_ m S N (t + d) := rfl
      omega
  have bnd : ∀ t, t ≤ nT m → sm_ (hN_ m S N) t ≤ 512 := fun t h => by
    have h1 := sm_le (f := hN_ m S N) (b := 64) (n := t) (fun k _ => hle k)
    omega
  have main : ∀ d t f, t + d = nT m → d < f → ∃ r, r ≤ 512 ∧ L_X2_countHidden_5 (nI N) s tc st sp f (nI E) (nI (sm_ (hN_ m S N) t)) (nI t) = some (nI r) ∧ (sm_ (hN_ m S N) (nT m) < E → r = sm_ (hN_ m S N) (nT m)) ∧ (E ≤ sm_ (hN_ m S N) (nT m) → E ≤ r) := by
    intro d
    induction d with
    | zero =>
      intro t f h1 h2
      obtain ⟨f, rfl⟩ : ∃ k, f = k + 1 := ⟨f - 1, by omega⟩
      have : t = nT m := by omega
      subst this
      refine ⟨_, bnd _ (Nat.le_refl _), ?_, fun _ => rfl, fun h => h⟩
      rw [L_X2_countHidden_5, if_pos (show tc ≤ nI (nT m) by rw [htc]; exact yle_ (by omega) (by omega) (Nat.le_refl _))]
    | succ d ih =>
      intro t f h1 h2
      obtain ⟨f, rfl⟩ : ∃ k, f = k + 1 := ⟨f - 1, by omega⟩
      have hbt := bnd t (by omega)
      have hm := mono (nT m - t) t
      rw [show t + (nT m - t) = nT m by omega] at hm
      rw [L_X2_countHidden_5, if_neg (show ¬ tc ≤ nI t by rw [htc]; exact nle_ (by omega) (by omega) (by omega)), if_e (nI_le2 (by omega) (by omega))]
      by_cases c : E ≤ sm_ (hN_ m S N) t
      · rw [if_pos c]
        exact ⟨_, hbt, rfl, fun h => by omega, fun h => by omega⟩
      · have hr := rn_b ht (show t < nT m by omega)
        rw [if_neg c, ev_rangeOf ht hT (by omega), bs_, show st 2 = iI (m 8) from hS2 2 (by decide), ev_countHiddenOf hw hN h0 hS hb hs hr, bs_, nI_add, nI_s]
        exact ih (t + 1) f (by omega) (by omega)
  exact main (nT m) 0 fu_ (by omega) (fu_lt (by omega))
theorem ev_countClear {m : Nat → Int} {tc : Int32} {sp ve sr : Nat → Int32} (ht : WT m) (hT : cT m tc sp ve sr) (hN : 1 ≤ N ∧ N ≤ 64) (hb : ∀ i, i ≤ N → 0 ≤ S i ∧ S i ≤ 4032) (hs : ∀ i, i ≤ N → s i = iI (S i)) :
    F_X2_countClear (nI N) s tc sp = some (nI (sm_ (cN_ m S N) (nT m))) := by
  obtain ⟨hn2, h8⟩ := nT_c ht
  have htc : tc = nI (nT m) := by rw [hT.1, hn2, iI_nI]
  refine lp_S (fun f t => L_X2_countClear_4 (nI N) s tc sp f (nI (sm_ (cN_ m S N) t)) (nI t)) (nT m) _ ?_ ?_ (nT m) 0 fu_ (by omega) (fu_lt (by omega))
  · intro f t h
    have hr := rn_b ht h
    show L_X2_countClear_4 (nI N) s tc sp (f + 1) (nI (sm_ (cN_ m S N) t)) (nI t) = L_X2_countClear_4 (nI N) s tc sp f (nI (sm_ (cN_ m S N) t + cN_ m S N t)) (nI (t + 1))
    rw [L_X2_countClear_4, if_neg (show ¬ tc ≤ nI t by rw [htc]; exact nle_ (by omega) (by omega) (by omega))]
    refine lp_ct (P := fun i => decide (S i + rn_ m t < S (i + 1))) (N := N) (fun n c i => L_X2_countClear_15 (nI N) s tc sp (L_X2_countClear_4 (nI N) s tc sp f) n c (nI t) i) (fun c => L_X2_countClear_4 (nI N) s tc sp f c (nI (t + 1))) ?_ ?_ N 0 fu_ _ (by omega) (fu_lt (by omega))
    · intro n c i hi
      have h1 := hb i (by omega)
      have h2 := hb (i + 1) (by omega)
      show L_X2_countClear_15 (nI N) s tc sp (L_X2_countClear_4 (nI N) s tc sp f) (n + 1) c (nI t) (nI i) = _
      rw [L_X2_countClear_15, if_neg (nle_ (by omega) (by omega) hi), gN_ (by omega) (by decide), ev_rangeOf ht hT h, bs_, nI_s, gN_ (by omega) (by decide), nI_clamp (by omega), nI_clamp (by omega), hs i (by omega), hs (i + 1) (by omega), iI_add, if_e (iI_le (by omega) (by omega))]
      by_cases q : S (i + 1) ≤ S i + rn_ m t
      · rw [if_pos q, decide_eq_false (by omega)]; rfl
      · rw [if_neg q, decide_eq_true (by omega)]; rfl
    · intro n c
      show L_X2_countClear_15 (nI N) s tc sp (L_X2_countClear_4 (nI N) s tc sp f) (n + 1) c (nI t) (nI N) = _
      rw [L_X2_countClear_15, if_pos (yle_ (by omega) (by omega) (Nat.le_refl _)), nI_s]
  · intro f
    show L_X2_countClear_4 (nI N) s tc sp (f + 1) (nI (sm_ (cN_ m S N) (nT m))) (nI (nT m)) = _
    rw [L_X2_countClear_4, if_pos (show tc ≤ nI (nT m) by rw [htc]; exact yle_ (by omega) (by omega) (Nat.le_refl _))]
/-- the longest gap -/
def mx_ (S : Nat → Int) : Nat → Int
  | 0 => 0
  | i + 1 => if mx_ S i ≤ S (i + 1) - S i then S (i + 1) - S i else mx_ S i
theorem mx_b (hb : ∀ i, i ≤ N → 0 ≤ S i ∧ S i ≤ 4032) : ∀ i, i ≤ N → 0 ≤ mx_ S i ∧ mx_ S i ≤ 8064
  | 0, _ => by unfold mx_; omega
  | i + 1, h => by
    have h1 := hb i (by omega)
    have h2 := hb (i + 1) (by omega)
    have ih := mx_b hb i (by omega)
    unfold mx_
    split <;> omega
theorem ev_longestGap (hN : 1 ≤ N ∧ N ≤ 64) (hb : ∀ i, i ≤ N → 0 ≤ S i ∧ S i ≤ 4032) (hs : ∀ i, i ≤ N → s i = iI (S i)) : F_X2_longestGap (nI N) s = some (iI (mx_ S (N - 1))) := by
  refine lp_S (fun f k => L_X2_longestGap_4 (nI N) s f (iI (mx_ S k)) (nI (k + 1))) (N - 1) _ ?_ ?_ (N - 1) 0 fu_ (by omega) (fu_lt (by omega))
  · intro f k h
    have h1 := hb k (by omega)
    have h2 := hb (k + 1) (by omega)
    have h3 := mx_b hb k (by omega)
    show L_X2_longestGap_4 (nI N) s (f + 1) (iI (mx_ S k)) (nI (k + 1)) = L_X2_longestGap_4 (nI N) s f (iI (mx_ S (k + 1))) (nI (k + 1 + 1))
    rw [L_X2_longestGap_4, if_neg (nle_ (by omega) (by omega) (by omega)), gN_ (by omega) (by decide), show nI (k + 1) - (1 : Int32) = nI k by rw [iI_nI, show (1 : Int32) = iI 1 from rfl, iI_sub, iI_nI]; congr 1; omega, gN_ (by omega) (by decide), nI_clamp (by omega), nI_clamp (by omega), hs k (by omega), hs (k + 1) (by omega), iI_sub, nI_s, if_e (iI_lt (by omega) (by omega))]
    congr 1
    conv => rhs; unfold mx_
    by_cases q : mx_ S k < S (k + 1) - S k
    · rw [if_pos q, if_pos (by omega)]
    · rw [if_neg q]
      by_cases q2 : mx_ S k ≤ S (k + 1) - S k
      · rw [if_pos q2]; congr 1; omega
      · rw [if_neg q2]
  · intro f
    show L_X2_longestGap_4 (nI N) s (f + 1) (iI (mx_ S (N - 1))) (nI (N - 1 + 1)) = _
    rw [L_X2_longestGap_4, if_pos (yle_ (by omega) (by omega) (by omega))]
theorem ev_isHidden {m : Nat → Int} {all : Nat → Int32} (hw : WS m) (hA : rA m all) (hN : 1 ≤ N ∧ N ≤ 64) (hb : ∀ i, i ≤ N → 0 ≤ S i ∧ S i ≤ 4032) (hs : ∀ i, i ≤ N → s i = iI (S i)) {t : Int} (ht : 0 ≤ t ∧ t ≤ 10000) :
    F_X11_isHidden all s (iI t) (nI N) = some (bI (hx_ S (wd_ m) t N)) := by
  obtain ⟨-, -, h8, -⟩ := id hw
  have hx_m : ∀ d i, hx_ S (wd_ m) t i = true → hx_ S (wd_ m) t (i + d) = true := by
    intro d
    induction d with
    | zero => intro i h; exact h
    | succ d ih =>
      intro i h
      show (hx_ S (wd_ m) t (i + d) || _) = true
      rw [ih i h, Bool.true_or]
  refine lp_E (fun f i => L_X11_isHidden_2 all s f (iI t) (nI N) (nI i)) N _ (fun i => hx_ S (wd_ m) t i = false) ?_ ?_ N 0 fu_ (by omega) (fu_lt (by omega)) rfl
  · intro f i hi q
    have h1 := hb i (by omega)
    show L_X11_isHidden_2 all s (f + 1) (iI t) (nI N) (nI i) = _ ∨ _
    have e : hx_ S (wd_ m) t (i + 1) = (decide (S i ≤ t) && decide (t - S i < wd_ m)) := by
      show (hx_ S (wd_ m) t i || _) = _
      rw [q, Bool.false_or]
    have fin : hx_ S (wd_ m) t (i + 1) = true → bI (hx_ S (wd_ m) t N) = 1 := by
      intro h
      have := hx_m (N - (i + 1)) (i + 1) h
      rw [show i + 1 + (N - (i + 1)) = N by omega] at this
      rw [this]; rfl
    rw [L_X11_isHidden_2, if_neg (nle_ (by omega) (by omega) hi), gN_ (by omega) (by decide), gN_ (by omega) (by decide), gN_ (by omega) (by decide), nI_clamp (by omega), hs i (by omega), if_e (iI_eq (by omega) (by omega)), if_e (iI_le (by omega) (by omega)), hA 8 (by decide), iI_sub, if_e (iI_le (by omega) (by omega)), nI_s]
    by_cases c1 : t = S i
    · left
      rw [if_pos c1, fin (by rw [e, decide_eq_true (by omega), decide_eq_true (by unfold wd_; split <;> omega)]; rfl)]
    · rw [if_neg c1]
      by_cases c2 : t ≤ S i
      · right
        rw [if_pos c2, e, decide_eq_false (by omega)]
        exact ⟨rfl, rfl⟩
      · rw [if_neg c2]
        by_cases c3 : m 8 ≤ t - S i
        · right
          rw [if_pos c3, e, decide_eq_false (show ¬ t - S i < wd_ m by unfold wd_; split <;> omega), Bool.and_false]
          exact ⟨rfl, rfl⟩
        · left
          rw [if_neg c3, fin (by rw [e, decide_eq_true (by omega), decide_eq_true (by unfold wd_; split <;> omega)]; rfl)]
  · intro f q
    show L_X11_isHidden_2 all s (f + 1) (iI t) (nI N) (nI N) = _
    rw [L_X11_isHidden_2, if_pos (yle_ (by omega) (by omega) (Nat.le_refl _)), q]
    rfl
/-- what heard counts: 3 hidden, 1 clear, 2 late -/
def hp_ (m : Nat → Int) (S : Nat → Int) (N w : Nat) (i t : Nat) : Bool := if w = 3 then hx_ S (wd_ m) (S i + rn_ m t) N else if w = 1 then decide (S i + rn_ m t < S (i + 1)) else !decide (S i + rn_ m t < S (i + 1))
theorem ev_heard {m : Nat → Int} {all : Nat → Int32} (hw : WS m) (ht : WT m) (hA : rA m all) (hN : 1 ≤ N ∧ N ≤ 64) (hb : ∀ i, i ≤ N → 0 ≤ S i ∧ S i ≤ 4032) (hs : ∀ i, i ≤ N → s i = iI (S i)) {w : Nat} (hwh : w = 1 ∨ w = 2 ∨ w = 3) :
    F_X11_heard all s (nI N) (nI w) = some (nI (sm_ (fun i => ct_ (hp_ m S N w i) 0 (nT m)) N)) := by
  obtain ⟨hn2, h8⟩ := nT_c ht
  have htc : all 13 = nI (nT m) := by rw [hA 13 (by decide), hn2, iI_nI]
  refine lp_S (fun f i => L_X11_heard_5 all s f (nI N) (nI w) (nI (sm_ (fun i => ct_ (hp_ m S N w i) 0 (nT m)) i)) (nI i)) N _ ?_ ?_ N 0 fu_ (by omega) (fu_lt (by omega))
  · intro f i hi
    have h1 := hb i (by omega)
    have h2 := hb (i + 1) (by omega)
    show L_X11_heard_5 all s (f + 1) (nI N) (nI w) (nI (sm_ (fun i => ct_ (hp_ m S N w i) 0 (nT m)) i)) (nI i) = L_X11_heard_5 all s f (nI N) (nI w) (nI (sm_ (fun i => ct_ (hp_ m S N w i) 0 (nT m)) i + ct_ (hp_ m S N w i) 0 (nT m))) (nI (i + 1))
    rw [L_X11_heard_5, if_neg (nle_ (by omega) (by omega) hi)]
    refine lp_ct (P := hp_ m S N w i) (N := nT m) (fun n c t => L_X11_heard_14 all s (L_X11_heard_5 all s f) n (nI N) (nI w) c (nI i) t) (fun c => L_X11_heard_5 all s f (nI N) (nI w) c (nI (i + 1))) ?_ ?_ (nT m) 0 fu_ _ (by omega) (fu_lt (by omega))
    · intro n c t hT
      have hr := rn_b ht hT
      show L_X11_heard_14 all s (L_X11_heard_5 all s f) (n + 1) (nI N) (nI w) c (nI i) (nI t) = _
      rw [L_X11_heard_14, htc, if_neg (nle_ (by omega) (by omega) hT), gN_ (by omega) (by decide), ev_rrangeOf ht hA hT, bs_, nI_clamp (by omega), hs i (by omega), iI_add, ev_isHidden hw hA hN hb hs (by omega), bs_, nI_s, gN_ (by omega) (by decide), nI_clamp (by omega), hs (i + 1) (by omega), if_e (iI_le (by omega) (by omega))]
      unfold J_X11_heard_76 J_X11_heard_86 J_X11_heard_94 hp_
      rw [nI_s, Int32.add_zero]
      rcases hwh with rfl | rfl | rfl
      · rw [if_neg (show ¬ nI 1 = 3 by decide), if_neg (show ¬ (1 : Nat) = 3 by decide), if_pos (show (1 : Nat) = 1 from rfl)]
        by_cases q : S (i + 1) ≤ S i + rn_ m t
        · rw [if_pos q, decide_eq_false (by omega)]; rfl
        · rw [if_neg q, decide_eq_true (by omega)]; rfl
      · rw [if_neg (show ¬ nI 2 = 3 by decide), if_neg (show ¬ (2 : Nat) = 3 by decide), if_neg (show ¬ (2 : Nat) = 1 by decide)]
        by_cases q : S (i + 1) ≤ S i + rn_ m t
        · rw [if_pos q, decide_eq_false (by omega)]; rfl
        · rw [if_neg q, decide_eq_true (by omega)]; rfl
      · rw [if_pos (show nI 3 = 3 by decide), if_pos (show (3 : Nat) = 3 from rfl), ib_]
    · intro n c
      show L_X11_heard_14 all s (L_X11_heard_5 all s f) (n + 1) (nI N) (nI w) c (nI i) (nI (nT m)) = _
      rw [L_X11_heard_14, htc, if_pos (yle_ (by omega) (by omega) (Nat.le_refl _)), nI_s]
  · intro f
    show L_X11_heard_5 all s (f + 1) (nI N) (nI w) _ (nI N) = _
    rw [L_X11_heard_5, if_pos (yle_ (by omega) (by omega) (Nat.le_refl _))]
end PULSES
/-! ===== END ===== -/
