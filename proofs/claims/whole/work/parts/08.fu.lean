/-! ===== BEGIN the reference chooses ===== -/
section FIT
variable {m : Nat → Int} {all : Nat → Int32} {k W low : Nat}
theorem g64 {g : Nat} (h : g < 1000000) : (nI g).toInt64 = lL (g : Int) := by
  rw [iI_nI]
  exact lL_i (by omega)
theorem ev_isFit (hw : WS m) (hA : rA m all) (hk : 2 ≤ k ∧ k ≤ 4) {ch : Nat → Nat} {cho : Nat → Int32} (hc : ∀ q, q < k → cho q = nI (ch q)) (hb : ∀ q, q < k → 4 ≤ ch q ∧ ch q ≤ 60) : F_X11_isFit all cho (nI k) = some (bI (fitB m k ch)) := by
  have h9 := hw.2.2.2.1
  have h10 := hw.2.2.2.2.1
  have h11 := hw.2.2.2.2.2.1
  have hSb : nS m ≤ 200 := by unfold nS; omega
  have e11 : all 11 = nI (nS m) := by
    rw [hA 11 (by decide)]
    exact iN (by omega)
  have hn0 : ndk m k ≤ 4 := by unfold ndk; split <;> omega
  have step5 : ∀ d i n, i + d = k → d < n → L_X11_isFit_5 all cho n (nI k) (lL (lcN ch i : Nat)) (nI i) = J_X11_isFit_41 all cho (nI k) (lL (lcN ch k : Nat)) := by
    intro d
    induction d with
    | zero =>
      intro i n a1 a2
      obtain ⟨n, rfl⟩ : ∃ k, n = k + 1 := ⟨n - 1, by omega⟩
      have : i = k := by omega
      subst this
      rw [L_X11_isFit_5, if_pos (yle_ (by omega) (by omega) (Nat.le_refl _))]
    | succ d ih =>
      intro i n a1 a2
      obtain ⟨n, rfl⟩ : ∃ k, n = k + 1 := ⟨n - 1, by omega⟩
      have hL := lcN_b (ch := ch) (n := i) (fun j hj => by have := hb j (by omega); omega)
      have h60 : 60 ^ i ≤ 60 ^ 4 := Nat.pow_le_pow_right (by decide) (by omega)
      have h604 : (60 : Nat) ^ 4 = 12960000 := by decide
      have hbi := hb i (by omega)
      have hg : 0 < Nat.gcd (lcN ch i) (ch i) := Nat.gcd_pos_of_pos_left _ hL.1
      have hg2 : Nat.gcd (lcN ch i) (ch i) ≤ lcN ch i := Nat.gcd_le_left _ hL.1
      have hq : lcN ch i / Nat.gcd (lcN ch i) (ch i) ≤ lcN ch i := Nat.div_le_self _ _
      have hm : lcN ch i / Nat.gcd (lcN ch i) (ch i) * ch i ≤ 12960000 * 60 := Nat.mul_le_mul (by omega) (by omega)
      rw [L_X11_isFit_5, if_neg (nle_ (by omega) (by omega) (by omega)), gN_ (by omega) (by decide), nI_clamp (by omega), hc i (by omega), g64 (by omega), ev_measure (by omega) (by omega), bs_, gd_ok (lL_ne (by omega) (by omega)), gN_ (by omega) (by decide), lL_quo (by omega) (by omega) (by omega) (by omega), lL_mul, nI_s]
      have := ih (i + 1) n (by omega) (by omega)
      have e : ((lcN ch (i + 1) : Nat) : Int) = (lcN ch i : Int) / (Nat.gcd (lcN ch i) (ch i) : Nat) * (ch i : Int) := by
        show ((lcN ch i / Nat.gcd (lcN ch i) (ch i) * ch i : Nat) : Int) = _
        rw [Int.natCast_mul, Int.natCast_ediv]
      rw [e] at this
      exact this
  have step100 : ∀ (v : Nat) (K : Int32 → Int32 → Int32 → Int32 → Option Int32), v < 200 → ∀ d i n c0, i + d = k → d < n → c0 ≤ i → L_X11_isFit_100 all cho K n (nI k) (nI (ndk m k)) (nI (v + 1)) (nI c0) (nI i) = J_X11_isFit_138 all cho K (nI k) (nI (ndk m k)) (nI (v + 1)) (nI (c0 + ct_ (fun j => !bl_ m ((v : Int) + 1) (ch j : Int)) i d)) := by
    intro v K hv d
    induction d with
    | zero =>
      intro i n c0 a1 a2 _
      obtain ⟨n, rfl⟩ : ∃ k, n = k + 1 := ⟨n - 1, by omega⟩
      rw [L_X11_isFit_100, if_pos (yle_ (by omega) (by omega) (by omega))]
      rfl
    | succ d ih =>
      intro i n c0 a1 a2 a3
      obtain ⟨n, rfl⟩ : ∃ k, n = k + 1 := ⟨n - 1, by omega⟩
      have hbi := hb i (by omega)
      have eb : F_X11_isBlind all (nI (v + 1)) (nI (ch i)) = some (bI (bl_ m ((v : Int) + 1) (ch i : Int))) := by
        rw [iI_nI, iI_nI, ev_isBlind hw hA (by omega) (by omega), Int.natCast_add v 1]
        rfl
      rw [L_X11_isFit_100, if_neg (nle_ (by omega) (by omega) (by omega)), gN_ (by omega) (by decide), nI_clamp (by omega), hc i (by omega), eb, bs_, ib_, nI_s, nI_s, show nI c0 + (0 : Int32) = nI c0 from nI_add _ 0]
      have ec : ct_ (fun j => !bl_ m ((v : Int) + 1) (ch j : Int)) i (d + 1) = (if (!bl_ m ((v : Int) + 1) (ch i : Int)) = true then 1 else 0) + ct_ (fun j => !bl_ m ((v : Int) + 1) (ch j : Int)) (i + 1) d := rfl
      rw [ec]
      by_cases q : bl_ m ((v : Int) + 1) (ch i : Int) = true
      · rw [if_pos q, q, if_neg (by decide), ih (i + 1) n c0 (by omega) (by omega) (by omega), Nat.zero_add]
      · have q2 : bl_ m ((v : Int) + 1) (ch i : Int) = false := by simpa using q
        rw [if_neg q, q2, if_pos (by decide), ih (i + 1) n (c0 + 1) (by omega) (by omega) (by omega), Nat.add_assoc]
  have hoC : ∀ v, oC m ch k v ≤ 4 := fun v => by
    have := ct_le (fun j => !bl_ m v (ch j : Int)) k 0
    unfold oC
    omega
  have step77 : ∀ d v n, v + d = nS m → d + 1 < n → (∀ u, u < v → ndk m k ≤ oC m ch k ((u : Int) + 1)) → L_X11_isFit_77 all cho n (nI k) (nI (ndk m k)) 1 (nI (v + 1)) = some (bI (decide (∀ u, u < nS m → ndk m k ≤ oC m ch k ((u : Int) + 1)))) := by
    intro d
    induction d with
    | zero =>
      intro v n a1 a2 a3
      obtain ⟨n, rfl⟩ : ∃ k, n = k + 1 := ⟨n - 1, by omega⟩
      rw [L_X11_isFit_77, e11, if_pos (ylt_ (by omega) (by omega) (by omega)), gd_ok (show decide ((1 : Int32) &&& 1 = 1) = true by decide), decide_eq_true (fun u hu => a3 u (by omega))]
      rfl
    | succ d ih =>
      intro v n a1 a2 a3
      obtain ⟨n, rfl⟩ : ∃ k, n = k + 1 := ⟨n - 1, by omega⟩
      have h4 := hoC ((v : Int) + 1)
      have e0 := step100 v (L_X11_isFit_77 all cho n) (by omega) k 0 fu_ 0 (by omega) (fu_lt (by omega)) (Nat.le_refl _)
      rw [Nat.zero_add] at e0
      have e0 : L_X11_isFit_100 all cho (L_X11_isFit_77 all cho n) fu_ (nI k) (nI (ndk m k)) (nI (v + 1)) (0 : Int32) (0 : Int32) = J_X11_isFit_138 all cho (L_X11_isFit_77 all cho n) (nI k) (nI (ndk m k)) (nI (v + 1)) (nI (oC m ch k ((v : Int) + 1))) := e0
      rw [L_X11_isFit_77, e11, if_neg (nlt_ (by omega) (by omega) (by omega)), if_neg (show ¬ (1 : Int32) = 0 by decide), e0]
      unfold J_X11_isFit_138
      rw [if_e (nI_lt2 (by omega) (by omega)), nI_s]
      by_cases q : oC m ch k ((v : Int) + 1) < ndk m k
      · obtain ⟨n, rfl⟩ : ∃ k, n = k + 1 := ⟨n - 1, by omega⟩
        rw [if_pos q, decide_eq_false (fun h => by have := h v (by omega); omega), L_X11_isFit_77, if_pos (show (0 : Int32) = 0 from rfl), ite_self, gd_ok (show decide ((0 : Int32) &&& 1 = 0) = true by decide)]
        rfl
      · rw [if_neg q]
        refine ih (v + 1) n (by omega) (by omega) (fun u hu => ?_)
        rcases Nat.eq_or_lt_of_le (show u ≤ v by omega) with w | w
        · rw [w]
          omega
        · exact a3 u w
  have hL := lcN_b (ch := ch) (n := k) (fun j hj => by have := hb j (by omega); omega)
  have h60 : 60 ^ k ≤ 60 ^ 4 := Nat.pow_le_pow_right (by decide) (by omega)
  have h604 : (60 : Nat) ^ 4 = 12960000 := by decide
  have e5 := step5 k 0 fu_ (by omega) (fu_lt (by omega))
  have e5 : F_X11_isFit all cho (nI k) = J_X11_isFit_41 all cho (nI k) (lL (lcN ch k : Nat)) := e5
  have e10 : all 10 = nI (m 10).toNat := by
    rw [hA 10 (by decide)]
    exact iN (by omega)
  have en : (if (m 10).toNat < k then (m 10).toNat else k) = ndk m k := by
    unfold ndk
    split <;> split <;> omega
  rw [e5]
  unfold J_X11_isFit_41 fitB
  rw [e10, ev_lesser (by omega) (by omega), bs_, en, hA 9 (by decide), lL_i (by omega), if_e (lL_clt (by omega) (by omega))]
  by_cases q : (lcN ch k : Int) < m 9
  · rw [if_pos q, decide_eq_false (by omega), Bool.false_and, show fu_ = 999999 + 1 from rfl, L_X11_isFit_77, if_pos (show (0 : Int32) = 0 from rfl), ite_self, gd_ok (show decide ((0 : Int32) &&& 1 = 0) = true by decide)]
    rfl
  · rw [if_neg q, decide_eq_true (by omega), Bool.true_and]
    exact step77 (nS m) 0 fu_ (by omega) (fu_lt (by omega)) (fun u hu => by omega)
/-- a set of the search -/
def VC (k W low : Nat) (ch : Nat → Nat) : Prop := ∀ j, j < k → low ≤ ch j ∧ ch j + (k - 1 - j) + 1 ≤ low + W
theorem ev_next (m : Nat → Int) (hk : 2 ≤ k ∧ k ≤ 4) (hW : W ≤ 21) (hl : 4 ≤ low ∧ low ≤ 60) (hkW : k ≤ W) {ch : Nat → Nat} (hv : VC k W low ch) {cho : Nat → Int32} (hc : ∀ q, q < k → cho q = nI (ch q)) : ∀ n f, n ≤ k → n < f →
    ((∀ a, rG (vF m k) k W low 0 n ch a = a) ∧ (∀ a, rG vC k W low 0 n ch a = a) ∧ L_X11_nextChosen_4 f cho (nI k) (nI (low + W - 1)) (iI ((n : Int) - 1)) = some (0, cho)) ∨
    (∃ ch2 cho2, VC k W low ch2 ∧ (∀ q, q < k → cho2 q = nI (ch2 q)) ∧ (∀ a, rG (vF m k) k W low 0 n ch a = rG (vF m k) k W low 0 k ch2 (vF m k ch2 a)) ∧ (∀ a, rG vC k W low 0 n ch a = rG vC k W low 0 k ch2 (vC ch2 a)) ∧ L_X11_nextChosen_4 f cho (nI k) (nI (low + W - 1)) (iI ((n : Int) - 1)) = some (1, cho2)) := by
  intro n
  induction n with
  | zero =>
    intro f _ h2
    obtain ⟨f, rfl⟩ : ∃ k, f = k + 1 := ⟨f - 1, by omega⟩
    left
    refine ⟨fun a => rfl, fun a => rfl, ?_⟩
    rw [L_X11_nextChosen_4, if_pos (show iI (((0 : Nat) : Int) - 1) < 0 by decide)]
    unfold J_X11_nextChosen_30
    rw [if_neg (show ¬ (0 : Int32) ≤ iI (((0 : Nat) : Int) - 1) by decide)]
  | succ n ih =>
    intro f h1 h2
    obtain ⟨f, rfl⟩ : ∃ k, f = k + 1 := ⟨f - 1, by omega⟩
    have hn := hv n (by omega)
    have en : iI (((n + 1 : Nat) : Int) - 1) = nI n := by
      rw [iI_nI]
      congr 1
      omega
    have eh : nI (low + W - 1) - ((nI k - (1 : Int32)) - nI n) = nI (low + W - 1 - (k - 1 - n)) := by
      rw [iI_nI, iI_nI, iI_nI, show (1 : Int32) = iI 1 from rfl, iI_sub, iI_sub, iI_sub, iI_nI]
      congr 1
      omega
    have em : nI n + (-1 : Int32) = iI ((n : Int) - 1) := by
      rw [iI_nI, show (-1 : Int32) = iI (-1) from rfl, iI_add]
      rfl
    rw [en, L_X11_nextChosen_4, if_neg (show ¬ nI n < 0 from nI_pos (by omega)), gN_ (by omega) (by decide), nI_clamp (by omega), hc n (by omega), eh, if_e (nK_e (by omega) (by omega)), em]
    by_cases q : ch n = low + W - 1 - (k - 1 - n)
    · rw [if_pos q]
      have hno : ¬ ch n - low + 1 + (k - n) ≤ W := by omega
      rcases ih f (by omega) (by omega) with ⟨a1, a2, a3⟩ | ⟨ch2, cho2, a1, a2, a3, a4, a5⟩
      · left
        exact ⟨fun a => by rw [rG_0 (by omega) hno, a1], fun a => by rw [rG_0 (by omega) hno, a2], a3⟩
      · right
        exact ⟨ch2, cho2, a1, a2, fun a => by rw [rG_0 (by omega) hno, a3], fun a => by rw [rG_0 (by omega) hno, a4], a5⟩
    · rw [if_neg q]
      have hyes : ch n - low + 1 + (k - n) ≤ W := by omega
      right
      have f1 : ∀ j, j < n → fE k W low (k - n) (W - (ch n - low + 1)) ch j = ch j := fun j hj => by
        unfold fE
        rw [if_neg (by omega)]
      have f2 : ∀ j, n ≤ j → j < k → fE k W low (k - n) (W - (ch n - low + 1)) ch j = ch n + 1 + (j - n) := fun j hj hjk => by
        unfold fE
        rw [if_pos (by omega)]
        omega
      have loop : ∀ d a g (r : Nat → Int32), a + d = k → d < g → n + 1 ≤ a → (∀ j, j < a → r j = nI (fE k W low (k - n) (W - (ch n - low + 1)) ch j)) → ∃ r2, L_X11_nextChosen_51 g r (nI k) (nI a) = some (1, r2) ∧ ∀ j, j < k → r2 j = nI (fE k W low (k - n) (W - (ch n - low + 1)) ch j) := by
        intro d
        induction d with
        | zero =>
          intro a g r b1 b2 b3 b4
          obtain ⟨g, rfl⟩ : ∃ k, g = k + 1 := ⟨g - 1, by omega⟩
          rw [L_X11_nextChosen_51, if_pos (yle_ (by omega) (by omega) (by omega))]
          exact ⟨r, rfl, fun j hj => b4 j (by omega)⟩
        | succ d ih2 =>
          intro a g r b1 b2 b3 b4
          obtain ⟨g, rfl⟩ : ∃ k, g = k + 1 := ⟨g - 1, by omega⟩
          rw [L_X11_nextChosen_51, if_neg (nle_ (by omega) (by omega) (by omega)), s1_ (by omega), gN_ (by omega) (by decide), gN_ (by omega) (by decide), nI_clamp (by omega), nI_clamp (by omega), b4 (a - 1) (by omega), nI_s, nI_s]
          refine ih2 (a + 1) g _ (by omega) (by omega) (by omega) (fun j hj => ?_)
          rw [upd_at]
          by_cases c : j = a
          · rw [if_pos c, c, f2 (a - 1) (by omega) (by omega), f2 a (by omega) (by omega)]
            congr 1
            omega
          · rw [if_neg c]
            exact b4 j (by omega)
      obtain ⟨r2, e, hr2⟩ := loop (k - (n + 1)) (n + 1) fu_ (upd cho n (nI (ch n) + 1)) (by omega) (fu_lt (by omega)) (Nat.le_refl _) (fun j hj => by
        rw [upd_at]
        by_cases c : j = n
        · rw [if_pos c, c, f2 n (Nat.le_refl _) (by omega), nI_s]
          congr 1
          omega
        · rw [if_neg c, f1 j (by omega)]
          exact hc j (by omega))
      refine ⟨fE k W low (k - n) (W - (ch n - low + 1)) ch, r2, fun j hj => ?_, hr2, fun a => rG_n (vF_c m k) (by omega) hn.1 hyes, fun a => rG_n (vC_v k) (by omega) hn.1 hyes, ?_⟩
      · by_cases c : j < n
        · rw [f1 j c]
          exact hv j hj
        · rw [f2 j (by omega) hj]
          omega
      · unfold J_X11_nextChosen_30
        rw [if_pos (show (0 : Int32) ≤ nI n from yle_ (a := 0) (by decide) (by omega) (by omega)), gN_ (by omega) (by decide), gN_ (by omega) (by decide), nI_clamp (by omega), hc n (by omega), nI_s n]
        exact e
def lsR (o : Option Nat) : Int32 := match o with
  | none => -1
  | some l => nI l
def AS (k : Nat) (a : Ac) (be : Nat → Int32) : Prop := ∀ l, a.2.1 = some l → l ≤ 240 ∧ ∀ q, q < k → be q = nI (a.2.2 q)
theorem ev_visit (hw : WS m) (hA : rA m all) (hk : 2 ≤ k ∧ k ≤ 4) {ch : Nat → Nat} {cho : Nat → Int32} (hc : ∀ q, q < k → cho q = nI (ch q)) (hb : ∀ q, q < k → 4 ≤ ch q ∧ ch q ≤ 60) {a : Ac} {be : Nat → Int32} (hS : AS k a be) (n : Nat) (ra h w : Int32) :
    ∃ be2, L_X11_choose_116 all (n + 1) ra cho be (nI k) h w (nI a.1) (lsR a.2.1) 1 = J_X11_choose_208 all (L_X11_choose_116 all n) ra cho be2 (nI k) h w (nI (vF m k ch a).1) (lsR (vF m k ch a).2.1) ∧ AS k (vF m k ch a) be2 := by
  have hsb := sS_b (ch := ch) (n := k) (fun q hq => (hb q hq).2)
  rw [L_X11_choose_116, if_neg (show ¬ (1 : Int32) = 0 by decide), ev_isFit hw hA hk hc hb, bs_, ib_]
  by_cases q : fitB m k ch = true
  · have s135 : ∀ d i g, i + d = k → d < g → L_X11_choose_135 all (L_X11_choose_116 all n) g ra cho be (nI k) h w (nI a.1) (lsR a.2.1) (nI (sS ch i)) (nI i) = J_X11_choose_159 all (L_X11_choose_116 all n) ra cho be (nI k) h w (nI a.1) (lsR a.2.1) (nI (sS ch k)) := by
      intro d
      induction d with
      | zero =>
        intro i g b1 b2
        obtain ⟨g, rfl⟩ : ∃ k, g = k + 1 := ⟨g - 1, by omega⟩
        have : i = k := by omega
        subst this
        rw [L_X11_choose_135, if_pos (yle_ (by omega) (by omega) (Nat.le_refl _))]
      | succ d ih =>
        intro i g b1 b2
        obtain ⟨g, rfl⟩ : ∃ k, g = k + 1 := ⟨g - 1, by omega⟩
        rw [L_X11_choose_135, if_neg (nle_ (by omega) (by omega) (by omega)), gN_ (by omega) (by decide), nI_clamp (by omega), hc i (by omega), nI_add, nI_s]
        exact ih (i + 1) g (by omega) (by omega)
    have s182 : ∀ (x5 x6 : Int32) d i g (r : Nat → Int32), i + d = k → d < g → (∀ j, j < i → r j = nI (ch j)) → ∃ r2, L_X11_choose_182 all (L_X11_choose_116 all n) g ra cho r (nI k) h w x5 x6 (nI i) = J_X11_choose_208 all (L_X11_choose_116 all n) ra cho r2 (nI k) h w x5 x6 ∧ ∀ j, j < k → r2 j = nI (ch j) := by
      intro x5 x6 d
      induction d with
      | zero =>
        intro i g r b1 b2 b3
        obtain ⟨g, rfl⟩ : ∃ k, g = k + 1 := ⟨g - 1, by omega⟩
        rw [L_X11_choose_182, if_pos (yle_ (by omega) (by omega) (by omega))]
        exact ⟨r, rfl, fun j hj => b3 j (by omega)⟩
      | succ d ih =>
        intro i g r b1 b2 b3
        obtain ⟨g, rfl⟩ : ∃ k, g = k + 1 := ⟨g - 1, by omega⟩
        rw [L_X11_choose_182, if_neg (nle_ (by omega) (by omega) (by omega)), gN_ (by omega) (by decide), gN_ (by omega) (by decide), nI_clamp (by omega), nI_s]
        refine ih (i + 1) g _ (by omega) (by omega) (fun j hj => ?_)
        rw [upd_at]
        by_cases c : j = i
        · rw [if_pos c, c]
          exact hc i (by omega)
        · rw [if_neg c]
          exact b3 j (by omega)
    have e135 := s135 k 0 fu_ (by omega) (fu_lt (by omega))
    have e135 : L_X11_choose_135 all (L_X11_choose_116 all n) fu_ ra cho be (nI k) h w (nI a.1) (lsR a.2.1) (0 : Int32) (0 : Int32) = _ := e135
    rw [if_pos q, e135]
    unfold J_X11_choose_159 vF vB
    rw [if_pos q, nI_s]
    obtain ⟨r2, e2, hr2⟩ := s182 (nI (a.1 + 1)) (nI (sS ch k)) k 0 fu_ be (by omega) (fu_lt (by omega)) (fun j hj => by omega)
    have e2 : L_X11_choose_182 all (L_X11_choose_116 all n) fu_ ra cho be (nI k) h w (nI (a.1 + 1)) (nI (sS ch k)) (0 : Int32) = _ := e2
    have fin : AS k (a.1 + 1, some (sS ch k), fun j => if j < k then ch j else 0) r2 := by
      intro l hl
      have : l = sS ch k := (Option.some.inj hl).symm
      subst this
      refine ⟨by omega, fun q hq => ?_⟩
      rw [hr2 q hq]
      show nI (ch q) = nI (if q < k then ch q else 0)
      rw [if_pos hq]
    cases ho : a.2.1 with
    | none =>
      rw [if_pos (show lsR none = (-1 : Int32) from rfl), e2]
      exact ⟨r2, rfl, fin⟩
    | some l =>
      have hl := hS l ho
      have hne : ¬ lsR (some l) = (-1 : Int32) := by
        show ¬ nI l = (-1 : Int32)
        rw [iI_nI, show (-1 : Int32) = iI (-1) from rfl, iI_eq (by omega) (by omega)]
        omega
      rw [if_neg hne, show lsR (some l) = nI l from rfl, if_e (nI_le2 (by omega) (by omega))]
      dsimp only
      by_cases c : sS ch k < l
      · rw [if_neg (by omega), if_pos c, e2]
        exact ⟨r2, rfl, fin⟩
      · rw [if_pos (by omega), if_neg c]
        refine ⟨be, ?_, hS⟩
        rw [ho]
        rfl
  · have e : vF m k ch a = a := by
      unfold vF
      rw [if_neg q]
    rw [if_neg q, e]
    exact ⟨be, rfl, hS⟩
theorem ev_ch116 (hw : WS m) (hA : rA m all) (hk : 2 ≤ k ∧ k ≤ 4) (hW : W ≤ 21) (hl : 4 ≤ low) (hh : low + W ≤ 61) (hkW : k ≤ W) (ra w : Int32) : ∀ (μ n : Nat) (ch : Nat → Nat) (cho be : Nat → Int32) (a : Ac), rG vC k W low 0 k ch 0 = μ → μ + 1 < n → VC k W low ch → (∀ q, q < k → cho q = nI (ch q)) → AS k a be →
    ∃ cho2 be2, L_X11_choose_116 all n ra cho be (nI k) (nI (low + W - 1)) w (nI a.1) (lsR a.2.1) 1 = J_X11_choose_219 all ra cho2 be2 w (nI (rG (vF m k) k W low 0 k ch (vF m k ch a)).1) (lsR (rG (vF m k) k W low 0 k ch (vF m k ch a)).2.1) ∧ AS k (rG (vF m k) k W low 0 k ch (vF m k ch a)) be2 := by
  intro μ
  induction μ with
  | zero =>
    intro n ch cho be a h1 h2 h3 h4 h5
    obtain ⟨n, rfl⟩ : ∃ k, n = k + 1 := ⟨n - 1, by omega⟩
    obtain ⟨n, rfl⟩ : ∃ k, n = k + 1 := ⟨n - 1, by omega⟩
    obtain ⟨be2, e, hS⟩ := ev_visit hw hA hk h4 (fun q hq => by have := h3 q hq; omega) h5 (n + 1) ra (nI (low + W - 1)) w
    rw [e]
    unfold J_X11_choose_208 F_X11_nextChosen
    rcases ev_next m hk hW ⟨hl, by omega⟩ hkW h3 h4 k fu_ (Nat.le_refl _) (fu_lt (by omega)) with ⟨a1, a2, a3⟩ | ⟨ch2, cho2, a1, a2, a3, a4, a5⟩
    · have ek : nI k - (1 : Int32) = iI ((k : Int) - 1) := by rw [iI_nI, show (1 : Int32) = iI 1 from rfl, iI_sub]
      rw [ek, a3, bs_, a1]
      dsimp only
      rw [L_X11_choose_116, if_pos (show (0 : Int32) = 0 from rfl)]
      exact ⟨_, _, rfl, hS⟩
    · have := a4 0
      rw [h1] at this
      have h6 := vC_r (k := k) (W := W) (low := low) (p := 0) k ch2 (vC ch2 0)
      have h7 : vC ch2 0 = 1 := rfl
      omega
  | succ μ ih =>
    intro n ch cho be a h1 h2 h3 h4 h5
    obtain ⟨n, rfl⟩ : ∃ k, n = k + 1 := ⟨n - 1, by omega⟩
    obtain ⟨be2, e, hS⟩ := ev_visit hw hA hk h4 (fun q hq => by have := h3 q hq; omega) h5 n ra (nI (low + W - 1)) w
    have ek : nI k - (1 : Int32) = iI ((k : Int) - 1) := by rw [iI_nI, show (1 : Int32) = iI 1 from rfl, iI_sub]
    rw [e]
    unfold J_X11_choose_208 F_X11_nextChosen
    rcases ev_next m hk hW ⟨hl, by omega⟩ hkW h3 h4 k fu_ (Nat.le_refl _) (fu_lt (by omega)) with ⟨a1, a2, a3⟩ | ⟨ch2, cho2, a1, a2, a3, a4, a5⟩
    · have := a2 0
      omega
    · have h6 := a4 0
      rw [h1, vC_r k ch2 (vC ch2 0)] at h6
      have h7 : vC ch2 0 = 1 := rfl
      rw [ek, a5, bs_, a3]
      exact ih n ch2 cho2 be2 (vF m k ch a) (by omega) (by omega) a1 a2 hS
end FIT
/-! ===== END ===== -/
