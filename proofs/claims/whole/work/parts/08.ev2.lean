/-! ===== BEGIN loops that gather bits, that count, that seek the k-th; blind, dark ===== -/
theorem nI_s (k : Nat) : nI k + (1 : Int32) = nI (k + 1) := nI_1 k
theorem nI_le2 {a b : Nat} (ha : a < 2 ^ 31) (hb : b < 2 ^ 31) : (nI a ≤ nI b) = (a ≤ b) := propext (nI_leI ha hb)
theorem nI_lt2 {a b : Nat} (ha : a < 2 ^ 31) (hb : b < 2 ^ 31) : (nI a < nI b) = (a < b) := propext (nI_ltI ha hb)
theorem iN {a : Int} (h : 0 ≤ a) : iI a = nI a.toNat := by
  rw [iI_nI]
  congr 1
  omega
theorem in_N {k n : Nat} (h : k < n) (hn : n < 2 ^ 31) : in_b (nI k) n = true := by
  rw [iI_nI]
  exact in_ok (by omega) (by omega) (by omega)
theorem ib_ {α : Type} {b : Bool} {x y : α} : (if bI b = 0 then x else y) = if b = true then y else x := by cases b <;> rfl
theorem if_e {α : Type} {p q : Prop} {hp : Decidable p} [hq : Decidable q] (h : p = q) {x y : α} : @ite α p hp x y = @ite α q hq x y := by
  subst h
  congr
theorem bs_ {α β : Type} (a : α) (f : α → Option β) : (some a).bind f = f a := rfl
section LPS
variable {α : Type} {P : Nat → Bool} {N : Nat}
theorem lp_bt (L : Nat → Int32 → Int32 → Option α) (K : Int32 → Option α) (hN : N ≤ 31)
    (hs : ∀ n x k, k < N → L (n + 1) x (nI k) = if P k then L n (x ||| ((1 : Int32) <<< (nI k &&& 31))) (nI (k + 1)) else L n x (nI (k + 1))) (he : ∀ n x, L (n + 1) x (nI N) = K x) :
    ∀ d k n, k + d = N → d < n → L n (nI (bt_ P k)) (nI k) = K (nI (bt_ P N))
  | 0, k, 0, _, h => absurd h (Nat.not_lt_zero _)
  | 0, k, n + 1, e, _ => by
    have : k = N := by omega
    subst this
    exact he n _
  | d + 1, k, 0, _, h => absurd h (Nat.not_lt_zero _)
  | d + 1, k, n + 1, e, h => by
    rw [hs n _ k (by omega), ← lp_bt L K hN hs he d (k + 1) n (by omega) (by omega)]
    by_cases hp : P k = true
    · rw [if_pos hp, bt_or (by omega)]
      rw [show bt_ P (k + 1) = bt_ P k + 2 ^ k by rw [bt_, if_pos hp]]
    · rw [if_neg hp]
      rw [show bt_ P (k + 1) = bt_ P k by rw [bt_, if_neg hp, Nat.add_zero]]
/-- how many of a .. a + d - 1 hold -/
def ct_ (P : Nat → Bool) : Nat → Nat → Nat
  | _, 0 => 0
  | a, d + 1 => (if P a then 1 else 0) + ct_ P (a + 1) d
theorem ct_le (P : Nat → Bool) : ∀ d a, ct_ P a d ≤ d
  | 0, _ => Nat.le_refl 0
  | d + 1, a => by
    have := ct_le P d (a + 1)
    unfold ct_
    split <;> omega
theorem ct_cong {P Q : Nat → Bool} : ∀ {d a : Nat}, (∀ k, a ≤ k → k < a + d → P k = Q k) → ct_ P a d = ct_ Q a d
  | 0, _, _ => rfl
  | d + 1, a, h => by
    unfold ct_
    rw [h a (by omega) (by omega), ct_cong (d := d) (a := a + 1) (fun k h1 h2 => h k (by omega) (by omega))]
theorem lp_ct (L : Nat → Int32 → Int32 → Option α) (K : Int32 → Option α)
    (hs : ∀ n x k, k < N → L (n + 1) x (nI k) = if P k then L n (x + 1) (nI (k + 1)) else L n x (nI (k + 1))) (he : ∀ n x, L (n + 1) x (nI N) = K x) :
    ∀ d k n c, k + d = N → d < n → L n (nI c) (nI k) = K (nI (c + ct_ P k d))
  | 0, k, 0, c, _, h => absurd h (Nat.not_lt_zero _)
  | 0, k, n + 1, c, e, _ => by
    have : k = N := by omega
    subst this
    exact he n _
  | d + 1, k, 0, c, _, h => absurd h (Nat.not_lt_zero _)
  | d + 1, k, n + 1, c, e, h => by
    rw [hs n _ k (by omega)]
    unfold ct_
    by_cases hp : P k = true
    · rw [if_pos hp, if_pos hp, nI_s, lp_ct L K hs he d (k + 1) n (c + 1) (by omega) (by omega)]
      congr 2; omega
    · rw [if_neg hp, if_neg hp, lp_ct L K hs he d (k + 1) n c (by omega) (by omega)]
      congr 2; omega
/-- the j-th of a .. a + d - 1 that holds; -1: there is none -/
def kt_ (P : Nat → Bool) : Nat → Nat → Nat → Int32
  | _, 0, _ => -1
  | a, d + 1, j => if P a then (if j = 0 then nI a else kt_ P (a + 1) d (j - 1)) else kt_ P (a + 1) d j
theorem kt_cong {P Q : Nat → Bool} : ∀ {d a j : Nat}, (∀ k, a ≤ k → k < a + d → P k = Q k) → kt_ P a d j = kt_ Q a d j
  | 0, _, _, _ => rfl
  | d + 1, a, j, h => by
    unfold kt_
    rw [h a (by omega) (by omega), kt_cong (d := d) (a := a + 1) (j := j - 1) (fun k h1 h2 => h k (by omega) (by omega)), kt_cong (d := d) (a := a + 1) (j := j) (fun k h1 h2 => h k (by omega) (by omega))]
theorem lp_kt {α : Type} (L : Nat → Int32 → Int32 → α) (K : Int32 → α)
    (hs : ∀ n x k, k < N → L (n + 1) x (nI k) = if P k then (if x = 0 then K (nI k) else L n (x + (-1)) (nI (k + 1))) else L n x (nI (k + 1))) (he : ∀ n x, L (n + 1) x (nI N) = K (-1)) :
    ∀ d k n j, k + d = N → d < n → j < 2 ^ 31 → L n (nI j) (nI k) = K (kt_ P k d j)
  | 0, k, 0, j, _, h, _ => absurd h (Nat.not_lt_zero _)
  | 0, k, n + 1, j, e, _, _ => by
    have : k = N := by omega
    subst this
    exact he n _
  | d + 1, k, 0, j, _, h, _ => absurd h (Nat.not_lt_zero _)
  | d + 1, k, n + 1, j, e, h, hj => by
    rw [hs n _ k (by omega)]
    unfold kt_
    by_cases hp : P k = true
    · rw [if_pos hp, if_pos hp]
      by_cases h0 : j = 0
      · subst h0
        rw [if_pos (show nI 0 = 0 from rfl), if_pos rfl]
      · have h1 : ¬ nI j = 0 := nI_ne0 (by omega) hj
        rw [if_neg h1, if_neg h0]
        have e2 : nI j + (-1) = nI (j - 1) := by
          have := pk_m1 (j - 1)
          rw [show j - 1 + 1 = j by omega] at this
          exact this
        rw [e2, lp_kt L K hs he d (k + 1) n (j - 1) (by omega) (by omega) (by omega)]
    · rw [if_neg hp, if_neg hp, lp_kt L K hs he d (k + 1) n j (by omega) (by omega) hj]
/-- the same, counted up to a number x; one below 0 is met by none -/
theorem lp_ku {α : Type} (L : Nat → Int32 → Int32 → α) (K : Int32 → α) (y : Int32)
    (hs : ∀ n x k, k < N → L (n + 1) x (nI k) = if P k then (if x = y then K (nI k) else L n (x + 1) (nI (k + 1))) else L n x (nI (k + 1))) (he : ∀ n x, L (n + 1) x (nI N) = K (-1)) :
    ∀ d k n c, k + d = N → d < n → c + d < 2 ^ 31 → (∀ j : Nat, j < 2 ^ 31 → y = nI j → c ≤ j) → L n (nI c) (nI k) = K (if y < 0 then -1 else kt_ P k d (y.toNatClampNeg - c))
  | 0, k, 0, c, _, h, _, _ => absurd h (Nat.not_lt_zero _)
  | 0, k, n + 1, c, e, _, _, _ => by
    have : k = N := by omega
    subst this
    rw [he n _]
    unfold kt_
    split <;> rfl
  | d + 1, k, 0, c, _, h, _, _ => absurd h (Nat.not_lt_zero _)
  | d + 1, k, n + 1, c, e, h, hc, hy => by
    rw [hs n _ k (by omega)]
    by_cases hp : P k = true
    · rw [if_pos hp]
      by_cases h0 : nI c = y
      · rw [if_pos h0]
        have h1 : ¬ y < 0 := by rw [← h0]; exact nI_pos (by omega)
        rw [if_neg h1, ← h0, nI_clamp (by omega)]
        unfold kt_
        rw [if_pos hp, if_pos (by omega)]
      · rw [if_neg h0, nI_s]
        have hy2 : ∀ j : Nat, j < 2 ^ 31 → y = nI j → c + 1 ≤ j := by
          intro j hj hyj
          have h1 := hy j hj hyj
          rcases Nat.lt_or_ge c j with q | q
          · omega
          · have : c = j := by omega
            subst this
            exact absurd hyj.symm h0
        rw [lp_ku L K y hs he d (k + 1) n (c + 1) (by omega) (by omega) (by omega) hy2]
        by_cases hn : y < 0
        · rw [if_pos hn, if_pos hn]
        · rw [if_neg hn, if_neg hn]
          obtain ⟨j, hj, rfl⟩ := nI_of hn
          have h2 := hy2 j hj rfl
          rw [nI_clamp hj]
          conv => rhs; unfold kt_
          rw [if_pos hp, if_neg (by omega)]
          congr 2
    · rw [if_neg hp, lp_ku L K y hs he d (k + 1) n c (by omega) (by omega) (by omega) hy]
      by_cases hn : y < 0
      · rw [if_pos hn, if_pos hn]
      · rw [if_neg hn, if_neg hn]
        conv => rhs; unfold kt_
        rw [if_neg hp]
end LPS
/-- the number of gaps -/
def nG (m : Nat → Int) : Nat := (m 0).toNat
theorem nG_c {m : Nat → Int} (h : WG m) : m 0 = (nG m : Int) ∧ nG m ≤ 5 := by
  obtain ⟨h0, h5, -⟩ := h
  unfold nG
  omega
theorem ev_blindGaps {m : Nat → Int} {gc : Int32} {gaps st : Nat → Int32} (hg : WG m) (hw : WS m) (hG : cG m gc gaps) (hS : cS m st) {v : Int} (hv : -500 ≤ v ∧ v ≤ 500) :
    F_X7_blindGaps gc gaps st (iI v) = some (nI (bt_ (fun k => bl_ m v (m (1 + k))) (nG m))) := by
  obtain ⟨hn, h5⟩ := nG_c hg
  have hgc : gc = nI (nG m) := by rw [hG.1, hn, iI_nI]
  refine lp_bt (P := fun k => bl_ m v (m (1 + k))) (N := nG m) (fun n x k => L_X7_blindGaps_4 gc gaps st n (iI v) x k) some (by omega) ?_ ?_ (nG m) 0 fu_ (by omega) (fu_lt (by omega))
  · intro n x k hk
    have hb := hg.2.2.1 k (by omega)
    show L_X7_blindGaps_4 gc gaps st (n + 1) (iI v) x (nI k) = _
    rw [L_X7_blindGaps_4, hgc, if_neg (by rw [nI_le2 (by omega) (by omega)]; omega), gd_ok (in_N (by omega) (by decide)), nI_clamp (by omega), hG.2 k (by omega), ev_hides hw hS hv (by omega)]
    show (if bI (bl_ m v (m (1 + k))) = 0 then _ else _) = _
    rw [ib_, nI_s]
  · intro n x
    show L_X7_blindGaps_4 gc gaps st (n + 1) (iI v) x (nI (nG m)) = some x
    rw [L_X7_blindGaps_4, hgc, if_pos (by rw [nI_le2 (by omega) (by omega)]; omega)]
/-! ===== END ===== -/
