/-! ===== BEGIN tracks, the class: lines ===== -/
def cL (m : Nat → Int) (lc : Int32) (lt lz ln : Nat → Int32) : Prop := lc = iI (m 40) ∧ ∀ i : Nat, (i : Int) < m 40 → lt i = iI (m (41 + 14 * i)) ∧ lz i = iI (m (42 + 14 * i)) ∧ ∀ j : Nat, (j : Int) < m (42 + 14 * i) → ln (12 * i + j) = iI (m (43 + 14 * i + j))
def nn_ (m : Nat → Int) (i j : Nat) : Int := m (43 + 14 * i + j)
def aj_ (m : Nat → Int) (i0 l i j : Nat) : Bool := decide (-(tt_ m (nK m - 1)) ≤ (nn_ m l i - nn_ m 0 i0) * tt_ m (nK m - 1) - (nn_ m (nK m - 1) j - nn_ m 0 i0) * tt_ m l ∧ (nn_ m l i - nn_ m 0 i0) * tt_ m (nK m - 1) - (nn_ m (nK m - 1) j - nn_ m 0 i0) * tt_ m l ≤ tt_ m (nK m - 1))
theorem nn_b {m : Nat → Int} (hl : WL m) {i j : Nat} (hi : i < nK m) (hj : j < sz_ m i) : 0 ≤ nn_ m i j ∧ nn_ m i j ≤ 999 := by
  obtain ⟨hn, h4⟩ := nK_c hl
  obtain ⟨z1, z2⟩ := sz_c hl hi
  exact (hl.2.2.1 i (by omega)).2.2 j (by omega)
theorem ev_numberAt {m : Nat → Int} {lc : Int32} {lt lz ln : Nat → Int32} (hl : WL m) (hL : cL m lc lt lz ln) {i j : Nat} (hi : i < nK m) (hj : j < sz_ m i) : F_X9_numberAt ln (nI i) (nI j) = some (iI (nn_ m i j)) := by
  obtain ⟨hn, h4⟩ := nK_c hl
  obtain ⟨z1, z2⟩ := sz_c hl hi
  unfold F_X9_numberAt
  rw [show (12 : Int32) = nI 12 from rfl, pk_mul, nI_add, Nat.mul_comm i 12, gN_ (by omega) (by decide), nI_clamp (by omega), (hL.2 i (by omega)).2.2 j (by omega)]
  rfl
theorem ev_alignedLasts {m : Nat → Int} {lc : Int32} {lt lz ln pa : Nat → Int32} (hl : WL m) (hL : cL m lc lt lz ln) {i0 : Nat} (hp : pa 0 = nI i0) (h0 : i0 < sz_ m 0) {l i : Nat} (hk : l < nK m) (hi : i < sz_ m l) :
    F_X9_alignedLasts pa lc lt lz ln (nI l) (nI i) = some (nI (bt_ (aj_ m i0 l i) (sz_ m (nK m - 1)))) := by
  obtain ⟨hn, h4⟩ := nK_c hl
  obtain ⟨z1, z2⟩ := sz_c hl (show nK m - 1 < nK m by omega)
  have elc : lc - (1 : Int32) = nI (nK m - 1) := by rw [hL.1, hn, ← iI_nI, s1_ (by omega)]
  have b0 := nn_b hl (i := 0) (by omega) h0
  have bl := nn_b hl hk hi
  have tl := tt_b hl (i := nK m - 1) (by omega)
  have ti := tt_b hl hk
  have n0 : F_X9_numberAt ln (0 : Int32) (nI i0) = some (iI (nn_ m 0 i0)) := ev_numberAt (i := 0) hl hL (by omega) h0
  have p1 := pb_ (a := nn_ m l i - nn_ m 0 i0) (b := tt_ m (nK m - 1)) (by omega) (by omega)
  have q0 := (hL.2 0 (by omega)).1
  have q0 : lt 0 = iI (m 41) := q0
  unfold F_X9_alignedLasts
  rw [hp, n0, bs_, elc, gN_ (by omega) (by decide), gN_ (by omega) (by decide), ev_numberAt hl hL hk hi, bs_, nI_clamp (by omega), nI_clamp (by omega), (hL.2 (nK m - 1) (by omega)).1, (hL.2 l (by omega)).1, q0, iI_sub, iI_sub, iI_sub, show m (41 + 14 * (nK m - 1)) - m 41 = tt_ m (nK m - 1) from rfl, show m (41 + 14 * l) - m 41 = tt_ m l from rfl, lL_i (by omega), lL_i (by omega), lL_i (by omega), lL_mul]
  refine lp_bt (P := aj_ m i0 l i) (N := sz_ m (nK m - 1)) (fun n x k => L_X9_alignedLasts_75 pa lc lt lz ln n (nI (nK m - 1)) (iI (nn_ m 0 i0)) (lL (tt_ m (nK m - 1))) (lL (tt_ m l)) (lL ((nn_ m l i - nn_ m 0 i0) * tt_ m (nK m - 1))) x k) some (by omega) ?_ ?_ (sz_ m (nK m - 1)) 0 fu_ (by omega) (fu_lt (by omega))
  · intro n x j hj
    have bj := nn_b hl (i := nK m - 1) (by omega) hj
    have p2 := pb_ (a := nn_ m (nK m - 1) j - nn_ m 0 i0) (b := tt_ m l) (by omega) (by omega)
    show L_X9_alignedLasts_75 pa lc lt lz ln (n + 1) (nI (nK m - 1)) (iI (nn_ m 0 i0)) (lL (tt_ m (nK m - 1))) (lL (tt_ m l)) (lL ((nn_ m l i - nn_ m 0 i0) * tt_ m (nK m - 1))) x (nI j) = _
    rw [L_X9_alignedLasts_75, gN_ (by omega) (by decide), nI_clamp (by omega), (hL.2 (nK m - 1) (by omega)).2.1, z1, ← iI_nI, if_neg (nle_ (by omega) (by omega) hj), ev_numberAt hl hL (by omega) hj, bs_, iI_sub, lL_i (by omega), lL_mul, lL_sub, lL_neg, if_e (lL_cgt (by omega) (by omega)), if_e (lL_cgt (by omega) (by omega)), nI_s]
    generalize hX : (nn_ m l i - nn_ m 0 i0) * tt_ m (nK m - 1) - (nn_ m (nK m - 1) j - nn_ m 0 i0) * tt_ m l = X
    have hal : aj_ m i0 l i j = decide (-(tt_ m (nK m - 1)) ≤ X ∧ X ≤ tt_ m (nK m - 1)) := by
      unfold aj_
      rw [hX]
    rw [hal]
    by_cases c1 : tt_ m (nK m - 1) < X
    · rw [if_pos c1, if_neg (by rw [decide_eq_false (by omega)]; decide)]
    · rw [if_neg c1]
      by_cases c2 : tt_ m (nK m - 1) < -X
      · rw [if_pos c2, if_neg (by rw [decide_eq_false (by omega)]; decide)]
      · rw [if_neg c2, if_pos (decide_eq_true (by omega))]
  · intro n x
    show L_X9_alignedLasts_75 pa lc lt lz ln (n + 1) (nI (nK m - 1)) _ _ _ _ x (nI (sz_ m (nK m - 1))) = _
    rw [L_X9_alignedLasts_75, gN_ (by omega) (by decide), nI_clamp (by omega), (hL.2 (nK m - 1) (by omega)).2.1, z1, ← iI_nI, if_pos (yle_ (by omega) (by omega) (Nat.le_refl _))]
theorem ev_alignAll {m : Nat → Int} {lc : Int32} {lt lz ln pa : Nat → Int32} (hl : WL m) (hL : cL m lc lt lz ln) {i0 : Nat} (hp : pa 0 = nI i0) (h0 : i0 < sz_ m 0) (h2 : 2 ≤ nK m) (ls : Nat → Int32) :
    ∃ l2, F_X9_alignAll ls pa lc lt lz ln = some l2 ∧ ∀ l i, 1 ≤ l → l < nK m - 1 → i < sz_ m l → l2 (12 * l + i) = nI (bt_ (aj_ m i0 l i) (sz_ m (nK m - 1))) := by
  obtain ⟨hn, h4⟩ := nK_c hl
  have elc : lc - (1 : Int32) = nI (nK m - 1) := by rw [hL.1, hn, ← iI_nI, s1_ (by omega)]
  have inner : ∀ (K : (Nat → Int32) → Int32 → Option (Nat → Int32)) (l : Nat), 1 ≤ l → l < nK m - 1 → ∀ d i n (f : Nat → Int32), i + d = sz_ m l → d < n → (∀ a b, 1 ≤ a → a < nK m - 1 → b < sz_ m a → (a < l ∨ (a = l ∧ b < i)) → f (12 * a + b) = nI (bt_ (aj_ m i0 a b) (sz_ m (nK m - 1)))) →
      ∃ f2, L_X9_alignAll_14 pa lc lt lz ln K n f (nI l) (nI i) = K f2 (nI (l + 1)) ∧ ∀ a b, 1 ≤ a → a < nK m - 1 → b < sz_ m a → a < l + 1 → f2 (12 * a + b) = nI (bt_ (aj_ m i0 a b) (sz_ m (nK m - 1))) := by
    intro K l hl1 hl2 d
    obtain ⟨z1, z2⟩ := sz_c hl (show l < nK m by omega)
    induction d with
    | zero =>
      intro i n f a1 a2 a3
      obtain ⟨n, rfl⟩ : ∃ k, n = k + 1 := ⟨n - 1, by omega⟩
      rw [L_X9_alignAll_14, gN_ (by omega) (by decide), nI_clamp (by omega), (hL.2 l (by omega)).2.1, z1, ← iI_nI, if_pos (yle_ (by omega) (by omega) (by omega)), nI_s]
      exact ⟨f, rfl, fun a b h1 h2 h3 h4 => a3 a b h1 h2 h3 (by
        rcases Nat.eq_or_lt_of_le (show a ≤ l by omega) with q | q
        · subst q
          right; exact ⟨rfl, by omega⟩
        · left; exact q)⟩
    | succ d ih =>
      intro i n f a1 a2 a3
      obtain ⟨n, rfl⟩ : ∃ k, n = k + 1 := ⟨n - 1, by omega⟩
      rw [L_X9_alignAll_14, gN_ (by omega) (by decide), nI_clamp (by omega), (hL.2 l (by omega)).2.1, z1, ← iI_nI, if_neg (nle_ (by omega) (by omega) (by omega)), ev_alignedLasts hl hL hp h0 (by omega) (by omega), bs_, show (12 : Int32) = nI 12 from rfl, pk_mul, nI_add, Nat.mul_comm l 12, gN_ (by omega) (by decide), nI_clamp (by omega), nI_s]
      refine ih (i + 1) n _ (by omega) (by omega) (fun a b h1 h2 h3 h4 => ?_)
      rw [upd_at]
      by_cases c : 12 * a + b = 12 * l + i
      · rw [if_pos c]
        have zb := (sz_c hl (show a < nK m by omega)).2
        have ea : a = l := by omega
        have eb : b = i := by omega
        rw [ea, eb]
      · rw [if_neg c]
        refine a3 a b h1 h2 h3 ?_
        rcases h4 with q | ⟨q1, q2⟩
        · exact Or.inl q
        · right
          refine ⟨q1, ?_⟩
          subst q1
          omega
  have outer : ∀ d l n (f : Nat → Int32), l + d = nK m - 1 → d < n → 1 ≤ l → (∀ a b, 1 ≤ a → a < nK m - 1 → b < sz_ m a → a < l → f (12 * a + b) = nI (bt_ (aj_ m i0 a b) (sz_ m (nK m - 1)))) →
      ∃ f2, L_X9_alignAll_2 pa lc lt lz ln n f (nI l) = some f2 ∧ ∀ a b, 1 ≤ a → a < nK m - 1 → b < sz_ m a → f2 (12 * a + b) = nI (bt_ (aj_ m i0 a b) (sz_ m (nK m - 1))) := by
    intro d
    induction d with
    | zero =>
      intro l n f a1 a2 a3 a4
      obtain ⟨n, rfl⟩ : ∃ k, n = k + 1 := ⟨n - 1, by omega⟩
      rw [L_X9_alignAll_2, elc, if_pos (yle_ (by omega) (by omega) (by omega))]
      exact ⟨f, rfl, fun a b h1 h2 h3 => a4 a b h1 h2 h3 (by omega)⟩
    | succ d ih =>
      intro l n f a1 a2 a3 a4
      obtain ⟨n, rfl⟩ : ∃ k, n = k + 1 := ⟨n - 1, by omega⟩
      rw [L_X9_alignAll_2, elc, if_neg (nle_ (by omega) (by omega) (by omega))]
      have zb := (sz_c hl (show l < nK m by omega)).2
      obtain ⟨f2, e2, hf2⟩ := inner (L_X9_alignAll_2 pa lc lt lz ln n) l a3 (by omega) (sz_ m l) 0 fu_ f (by omega) (fu_lt (by omega)) (fun a b h1 h2 h3 h4 => a4 a b h1 h2 h3 (by omega))
      rw [show L_X9_alignAll_14 pa lc lt lz ln (L_X9_alignAll_2 pa lc lt lz ln n) fu_ f (nI l) (0 : Int32) = _ from e2]
      exact ih (l + 1) n f2 (by omega) (by omega) (by omega) hf2
  exact outer (nK m - 1 - 1) 1 fu_ ls (by omega) (fu_lt (by omega)) (by omega) (fun a b h1 h2 h3 h4 => by omega)
theorem and_N (a b : Nat) : nI a &&& nI b = nI (a &&& b) := by
  show Int32.ofNat a &&& Int32.ofNat b = Int32.ofNat (a &&& b)
  apply Int32.toBitVec.inj
  simp [Int32.toBitVec_and]
theorem bt_and (P Q : Nat → Bool) (n : Nat) : nI (bt_ P n) &&& nI (bt_ Q n) = nI (bt_ (fun j => P j && Q j) n) := by
  rw [and_N]
  congr 1
  apply Nat.eq_of_testBit_eq
  intro i
  rw [Nat.testBit_and, bt_bit, bt_bit, bt_bit]
  cases decide (i < n) <;> simp
theorem bt_t : ∀ n, bt_ (fun _ => true) n = 2 ^ n - 1
  | 0 => rfl
  | n + 1 => by
    have h := bt_t n
    have : 0 < 2 ^ n := Nat.pow_pos (by decide)
    unfold bt_
    rw [h, if_pos rfl, Nat.pow_succ]
    omega
theorem all_b {L : Nat} (h : L ≤ 12) : ((1 : Int32) <<< (nI L &&& 31)) - (1 : Int32) = nI (bt_ (fun _ => true) L) := by
  have : 1 ≤ 2 ^ L := Nat.pow_pos (by decide)
  rw [sh_1 L (by omega), s1_ this, bt_t]
theorem bc_12 : ∀ a, a < 64 → ∀ b, b < 64 → F_J6_bitCount_0f7a4 (nI (64 * a + b)) = some (nI (ct_ (fun k => (64 * a + b).testBit k) 0 12)) := by decide +kernel
theorem sb_12 : ∀ a, a < 64 → ∀ b, b < 64 → ∀ k, k < 12 → ((nI (64 * a + b) >>> (nI k &&& 31)) &&& (1 : Int32) = 0) = ¬ ((64 * a + b).testBit k = true) := by
  have h : ∀ a, a < 64 → ∀ b, b < 64 → ∀ k, k < 12 → decide ((nI (64 * a + b) >>> (nI k &&& 31)) &&& (1 : Int32) = 0) = !((64 * a + b).testBit k) := by decide +kernel
  intro a ha b hb k hk
  have := h a ha b hb k hk
  cases ht : (64 * a + b).testBit k with
  | false =>
    rw [ht] at this
    have := of_decide_eq_true this
    simp [this]
  | true =>
    rw [ht] at this
    have := of_decide_eq_false this
    simp [this]
theorem ev_bc12 {L : Nat} (h : L ≤ 12) (P : Nat → Bool) : F_J6_bitCount_0f7a4 (nI (bt_ P L)) = some (nI (ct_ P 0 L)) := by
  have hb := bt_lt P L
  have h2 : 2 ^ L ≤ 2 ^ 12 := Nat.pow_le_pow_right (by decide) h
  have := bc_12 (bt_ P L / 64) (by omega) (bt_ P L % 64) (by omega)
  rw [show 64 * (bt_ P L / 64) + bt_ P L % 64 = bt_ P L by omega] at this
  rw [this]
  congr 2
  have e : ct_ (fun k => (bt_ P L).testBit k) 0 12 = ct_ (fun k => decide (k < L) && P k) 0 12 := ct_cong (fun k _ _ => bt_bit P L k)
  rw [e, ct_cut 12 0 (by omega) (by omega), Nat.sub_zero]
theorem ev_placeOfBit {L : Nat} (h : L ≤ 12) (P : Nat → Bool) {c j : Nat} (hc : c < 2 ^ 31) (hj : nt_ P 0 L c = some j) : F_X9_placeOfBit (nI (bt_ P L)) (nI c) = some (nI j) := by
  have hb := bt_lt P L
  have h2 : 2 ^ L ≤ 2 ^ 12 := Nat.pow_le_pow_right (by decide) h
  have bit : ∀ k, k < 12 → ((nI (bt_ P L) >>> (nI k &&& 31)) &&& (1 : Int32) = 0) = ¬ ((decide (k < L) && P k) = true) := by
    intro k hk
    have := sb_12 (bt_ P L / 64) (by omega) (bt_ P L % 64) (by omega) k hk
    rw [show 64 * (bt_ P L / 64) + bt_ P L % 64 = bt_ P L by omega, bt_bit] at this
    exact this
  have main : ∀ d i n c, i + d = L → d < n → c < 2 ^ 31 → nt_ P i d c = some j → L_X9_placeOfBit_4 n (nI (bt_ P L)) (nI c) (nI i) = some (nI j) := by
    intro d
    induction d with
    | zero =>
      intro i n c a1 a2 a3 a4
      cases a4
    | succ d ih =>
      intro i n c a1 a2 a3 a4
      obtain ⟨n, rfl⟩ : ∃ k, n = k + 1 := ⟨n - 1, by omega⟩
      unfold nt_ at a4
      rw [L_X9_placeOfBit_4, if_neg (show ¬ (12 : Int32) ≤ nI i from nle_ (a := 12) (by decide) (by omega) (by omega)), if_e (bit i (by omega)), nI_s]
      by_cases cp : P i = true
      · rw [if_pos cp] at a4
        rw [if_neg (by rw [decide_eq_true (show i < L by omega), cp]; simp)]
        by_cases c0 : c = 0
        · rw [if_pos c0] at a4
          rw [c0, if_pos (show nI 0 = 0 from rfl)]
          cases a4
          rfl
        · rw [if_neg c0] at a4
          rw [if_neg (nI_ne0 (by omega) a3)]
          have e2 : nI c + (-1) = nI (c - 1) := by
            have := pk_m1 (c - 1)
            rw [show c - 1 + 1 = c by omega] at this
            exact this
          rw [e2]
          exact ih (i + 1) n (c - 1) (by omega) (by omega) (by omega) a4
      · rw [if_neg cp] at a4
        rw [if_pos (by have cp : P i = false := by simpa using cp
                       rw [cp, Bool.and_false]; decide)]
        exact ih (i + 1) n c (by omega) (by omega) a3 a4
  exact main L 0 fu_ c (by omega) (fu_lt (by omega)) hc hj
/-! ===== END ===== -/
