/-! ===== BEGIN choose ===== -/
def a0_ : Ac := (0, none, fun _ => 0)
def cA (m : Nat → Int) (k W low : Nat) : Ac := eE (vF m k) k W low k W (fun _ => 0) a0_
def iv_ (a : Ac) : Prop := a.1 = 0 ↔ a.2.1 = none
theorem vF_iv {m : Nat → Int} {k : Nat} {ch : Nat → Nat} {a : Ac} (h : iv_ a) : iv_ (vF m k ch a) := by
  unfold vF
  split
  · unfold iv_ vB
    refine ⟨fun h2 => absurd h2 (Nat.succ_ne_zero _), fun h2 => ?_⟩
    exfalso
    cases ho : a.2.1 with
    | none =>
      rw [ho] at h2
      cases h2
    | some l =>
      rw [ho] at h2
      dsimp only at h2
      split at h2
      · cases h2
      · rw [ho] at h2
        cases h2
  · exact h
theorem eE_iv {m : Nat → Int} {k W low : Nat} : ∀ d r ch a, iv_ a → iv_ (eE (vF m k) k W low d r ch a)
  | 0, r, ch, a, h => vF_iv h
  | d + 1, r, ch, a, h => by
    show iv_ (lpE _ r a)
    induction r generalizing a with
    | zero => exact h
    | succ r ih => exact ih _ (eE_iv d r _ a h)
theorem eE_n {m : Nat → Int} {k W low : Nat} : ∀ d r ch a, (eE (vF m k) k W low d r ch a).1 ≤ a.1 + eE vC k W low d r ch 0
  | 0, r, ch, a => by
    show (vF m k ch a).1 ≤ a.1 + (0 + 1)
    unfold vF
    split
    · exact Nat.le_refl _
    · omega
  | d + 1, r, ch, a => by
    have main : ∀ q (a : Ac) (x : Nat), (lpE (fun q b => eE (vF m k) k W low d q (un_ ch (k - (d + 1)) (low + (W - (q + 1)))) b) q a).1 + x ≤ a.1 + lpE (fun q b => eE vC k W low d q (un_ ch (k - (d + 1)) (low + (W - (q + 1)))) b) q x := by
      intro q
      induction q with
      | zero =>
        intro a x
        show a.1 + x ≤ a.1 + x
        exact Nat.le_refl _
      | succ q ih =>
        intro a x
        have h1 := eE_n (m := m) (k := k) (W := W) (low := low) d q (un_ ch (k - (d + 1)) (low + (W - (q + 1)))) a
        have h2 := ih (eE (vF m k) k W low d q (un_ ch (k - (d + 1)) (low + (W - (q + 1)))) a) (eE vC k W low d q (un_ ch (k - (d + 1)) (low + (W - (q + 1)))) x)
        have h3 := vC_a (k := k) (W := W) (low := low) d q (un_ ch (k - (d + 1)) (low + (W - (q + 1)))) x
        show (lpE _ q (eE (vF m k) k W low d q _ a)).1 + x ≤ a.1 + lpE _ q (eE vC k W low d q _ x)
        omega
    have := main r a 0
    show (lpE _ r a).1 ≤ a.1 + lpE _ r 0
    omega
theorem cA_b (m : Nat → Int) {k W low : Nat} (hk : k ≤ 4) (hW : W ≤ 21) : (cA m k W low).1 ≤ 194481 := by
  have h1 := eE_n (m := m) (k := k) (W := W) (low := low) k W (fun _ => 0) a0_
  have h2 := vC_b (k := k) (W := W) (low := low) k W (fun _ => 0)
  have h3 : W ^ k ≤ 21 ^ k := Nat.pow_le_pow_left hW k
  have h4 : 21 ^ k ≤ 21 ^ 4 := Nat.pow_le_pow_right (by decide) hk
  have h5 : (21 : Nat) ^ 4 = 194481 := by decide
  have h6 : a0_.1 = 0 := rfl
  unfold cA
  omega
theorem cA_iv (m : Nat → Int) (k W low : Nat) : iv_ (cA m k W low) := eE_iv k W _ _ ⟨fun _ => rfl, fun _ => rfl⟩
def qx_ (m : Nat → Int) (k W low : Nat) (w : Int) : Int32 := if w = 0 then nI (cA m k W low).1 else if (cA m k W low).1 = 0 then -1 else if w = 1 then nI ((cA m k W low).2.1.getD 0) else nI ((cA m k W low).2.2 (w - 10).toNat)
def cOK (a b c w : Int) : Prop := (2 ≤ a ∧ a ≤ 4) ∧ (4 ≤ b ∧ b ≤ 60) ∧ (b ≤ c ∧ c ≤ 60 ∧ c ≤ b + 20) ∧ ((0 ≤ w ∧ w ≤ 1) ∨ (10 ≤ w ∧ w ≤ 10 + a - 1))
section SEA
variable {m : Nat → Int} {st all : Nat → Int32}
theorem ev_searchAll (hw : WS m) (hS : cS m st) {k W low : Nat} (hk : 2 ≤ k ∧ k ≤ 4) (hlo : 4 ≤ low) (hW : 1 ≤ W ∧ W ≤ 21) (hh : low + W ≤ 61) (y1 y2 y3 y4 y5 y6 y7 y8 : Int32) (g1 g2 g3 : Nat → Int64) (g4 g5 : Nat → Int32) :
    ∃ z1 z2 z3 z4 z5 z6 ls fc o1 o2 o3 o4 be, F_X1_searchAll y1 y2 y3 y4 y5 y6 y7 y8 g1 g2 g3 g4 g5 st (nI k) (nI low) (nI (low + W - 1)) = some (z1, z2, z3, z4, z5, z6, ls, fc, o1, o2, o3, o4, be) ∧ AR k (cA m k W low) ls fc be := by
  obtain ⟨-, -, -, h9, h10, h11, -⟩ := id hw
  have hSb : nS m ≤ 200 := by unfold nS; omega
  obtain ⟨lim, hlim⟩ : ∃ l : Nat, m 9 = (l : Int) := ⟨(m 9).toNat, by omega⟩
  have e3 : st 3 = nI lim := by rw [show st 3 = iI (m 9) from hS 3 (by decide), hlim, iI_nI]
  have e4 : st 4 = nI (m 10).toNat := by
    rw [show st 4 = iI (m 10) from hS 4 (by decide)]
    exact iN (by omega)
  have e5 : st 5 = nI (nS m) := by
    rw [show st 5 = iI (m 11) from hS 5 (by decide)]
    exact iN (by omega)
  have hnd : 1 ≤ ndk m k ∧ ndk m k ≤ 4 := by unfold ndk; split <;> omega
  have ew : (if (21 : Int32) < (nI (low + W - 1) - nI low) + (1 : Int32) then (21 : Int32) else (nI (low + W - 1) - nI low) + (1 : Int32)) = nI W := by
    have : (nI (low + W - 1) - nI low) + (1 : Int32) = nI W := by
      rw [iI_nI, iI_nI, show (1 : Int32) = iI 1 from rfl, iI_sub, iI_add, iI_nI]
      congr 1
      omega
    rw [this, if_neg (show ¬ (21 : Int32) < nI W from nlt_ (a := 21) (by decide) (by omega) hW.2)]
  have en : (if nI k < nI (m 10).toNat then nI k else nI (m 10).toNat) = nI (ndk m k) := by
    rw [if_e (nI_lt2 (by omega) (by omega))]
    unfold ndk
    split <;> rfl
  have eq : (if (4 : Int32) < (nI (nS m) + (63 : Int32)) / (64 : Int32) then (4 : Int32) else (nI (nS m) + (63 : Int32)) / (64 : Int32)) = nI ((nS m + 63) / 64) := by
    have : (nI (nS m) + (63 : Int32)) / (64 : Int32) = nI ((nS m + 63) / 64) := by
      rw [show (63 : Int32) = nI 63 from rfl, show (64 : Int32) = nI 64 from rfl, nI_add, nI_quo (by omega) (by decide) (by decide)]
    rw [this, if_neg (show ¬ (4 : Int32) < nI ((nS m + 63) / 64) from nlt_ (a := 4) (by decide) (by omega) (by omega))]
  obtain ⟨op, al, eo, hop, hal⟩ := ev_openAll hw hS hlo hW.2 hh g1 g3
  unfold F_X1_searchAll
  rw [ew, e3, e4, en, e5, eq, eo, bs_, ev_fillL (by decide), bs_]
  have L96 : ∀ d dep n (r : Nat → Int64), dep + d = 4 → d < n → (∀ i, i < 80 → r i = if i / 20 < dep ∧ i % 20 < 4 then al (i % 20) else 0) → ∃ r2, L_X1_searchAll_96 st n (nI k) (nI low) (nI W) (nI lim) (nI (ndk m k)) (nI ((nS m + 63) / 64)) 2147483647 0 op r al g4 g5 (nI dep) = J_X1_searchAll_127 st (nI k) (nI low) (nI W) (nI lim) (nI (ndk m k)) (nI ((nS m + 63) / 64)) 2147483647 0 op r2 al g4 g5 ∧ ∀ i, i < 80 → r2 i = if i % 20 < 4 then al (i % 20) else 0 := by
    intro d
    induction d with
    | zero =>
      intro dep n r b1 b2 b3
      obtain ⟨n, rfl⟩ : ∃ k, n = k + 1 := ⟨n - 1, by omega⟩
      have : dep = 4 := by omega
      subst this
      rw [L_X1_searchAll_96, if_pos (show (4 : Int32) ≤ nI 4 by decide)]
      refine ⟨r, rfl, fun i hi => ?_⟩
      rw [b3 i hi]
      by_cases c : i % 20 < 4
      · rw [if_pos ⟨by omega, c⟩, if_pos c]
      · rw [if_neg (by omega), if_neg c]
    | succ d ih =>
      intro dep n r b1 b2 b3
      obtain ⟨n, rfl⟩ : ∃ k, n = k + 1 := ⟨n - 1, by omega⟩
      have ec : F_X1_cellOf (nI dep) (0 : Int32) = some (nI (20 * dep + 4 * 0)) := ev_cellOf dep 0
      have ecp : cp_b (nI (20 * dep + 4 * 0)) 4 80 = true := by
        unfold cp_b
        rw [nI_clamp (by omega), decide_eq_false (nI_pos (by omega))]
        exact Nat.ble_eq_true_of_le (by omega)
      rw [L_X1_searchAll_96, show (4 : Int32) = nI 4 from rfl, if_neg (nle_ (by omega) (by omega) (by omega)), ec, bs_, gd_ok ecp, nI_clamp (by omega), nI_s]
      refine ih (dep + 1) n _ (by omega) (by omega) (fun i hi => ?_)
      unfold va_cpy
      by_cases c : 20 * dep + 4 * 0 ≤ i ∧ i < 20 * dep + 4 * 0 + 4
      · rw [if_pos c, if_pos (by omega)]
        exact congrArg al (by omega)
      · rw [if_neg c, b3 i hi]
        by_cases c2 : i / 20 < dep ∧ i % 20 < 4
        · rw [if_pos c2, if_pos (by omega)]
        · rw [if_neg c2, if_neg (by omega)]
  obtain ⟨en1, eL, hen⟩ := L96 4 0 fu_ (fun i => if i < 80 then 0 else g2 i) (by omega) (fu_lt (by omega)) (fun i hi => by rw [if_pos hi, if_neg (by omega)])
  have eL : L_X1_searchAll_96 st fu_ (nI k) (nI low) (nI W) (nI lim) (nI (ndk m k)) (nI ((nS m + 63) / 64)) 2147483647 0 op (fun i => if i < 80 then 0 else g2 i) al g4 g5 (0 : Int32) = _ := eL
  have hT : T0 m en1 := fun dep hd part hp => by
    rw [hen _ (by omega), show (20 * dep + part) % 20 = part by omega, if_pos hp]
    exact hal part hp
  have hE : EI m (fun _ => 0) (k - k) (ndk m k) ((nS m + 63) / 64) en1 := fun t ht part hp => by
    rw [Nat.sub_self]
    by_cases c : t = 0
    · subst c
      rw [eP_0]
      exact hT 0 (by omega) part (by omega)
    · rw [hen _ (by omega), if_neg (by omega), bW_0]
      apply bW_c
      intro b hb
      have : oC m (fun _ => 0) 0 ((64 * part + b : Nat) + 1 : Int) = 0 := rfl
      unfold eP
      rw [this, decide_eq_false (show ¬ t ≤ 0 by omega), Bool.and_false]
  obtain ⟨ls2, fc2, en2, cho2, be2, e, q1, -, -, -⟩ := ev_descend5 hk hlo hW.2 hh (nd := ndk m k) rfl hnd (Q := (nS m + 63) / 64) rfl (by omega) hlim (by omega) hop hal k (by omega) (by omega) (Nat.le_refl _) W (fun _ => 0) a0_ 1 en1 g4 g5 2147483647 0 (Nat.le_refl _) hE hT (fun q hq => by omega) (fun q hq => by omega) (by
    rw [Nat.sub_self]
    exact ⟨fun _ => rfl, fun q => q⟩) (by omega) ⟨rfl, rfl, fun l hl => by cases hl⟩
  rw [Nat.sub_self, Nat.sub_self] at e
  have e : F_X1_descend_k5 (nI k) (nI low) (nI W) (nI lim) (nI (ndk m k)) (nI ((nS m + 63) / 64)) 2147483647 0 op en1 al g4 g5 (0 : Int32) (0 : Int32) (1 : Int32) (0 : Int32) = _ := e
  dsimp only
  rw [eL]
  unfold J_X1_searchAll_127
  rw [e, bs_]
  exact ⟨_, _, _, _, _, _, ls2, fc2, _, _, _, _, be2, rfl, q1⟩
theorem ev_choose (hw : WS m) (hS : cS m st) (y1 y2 y3 y4 y5 y6 y7 y8 : Int32) (g1 g2 g3 : Nat → Int64) (g4 g5 : Nat → Int32) {a b c w : Int} (ha : rg a) (hb : rg b) (hc : rg c) (hw1 : rg w) :
    ∃ v z1 z2 z3 z4 z5 z6 z7 z8 o1 o2 o3 o4 o5, F_X10_choose st y1 y2 y3 y4 y5 y6 y7 y8 g1 g2 g3 g4 g5 (iI a) (iI b) (iI c) (iI w) = some (v, z1, z2, z3, z4, z5, z6, z7, z8, o1, o2, o3, o4, o5) ∧ (cOK a b c w → v = qx_ m a.toNat (c - b + 1).toNat b.toNat w) ∧ (¬ cOK a b c w → v = -1) := by
  have e1 : F_X10_isWithin (iI a) (2 : Int32) (4 : Int32) = some (bI (decide (2 ≤ a ∧ a ≤ 4))) := ev_within (b := 2) (c := 4) ha (by omega) (by omega)
  have e4 : F_X10_isWithin (iI w) (0 : Int32) (1 : Int32) = some (bI (decide (0 ≤ w ∧ w ≤ 1))) := ev_within (b := 0) (c := 1) hw1 (by omega) (by omega)
  have nil : ∀ {A}, A = some ((-1 : Int32), y1, y2, y3, y4, y5, y6, y7, y8, g1, g2, g3, g4, g5) → ¬ cOK a b c w → ∃ v z1 z2 z3 z4 z5 z6 z7 z8 o1 o2 o3 o4 o5, A = some (v, z1, z2, z3, z4, z5, z6, z7, z8, o1, o2, o3, o4, o5) ∧ (cOK a b c w → v = qx_ m a.toNat (c - b + 1).toNat b.toNat w) ∧ (¬ cOK a b c w → v = -1) := fun e h => ⟨_, _, _, _, _, _, _, _, _, _, _, _, _, _, e, fun h2 => absurd h2 h, fun _ => rfl⟩
  unfold F_X10_choose
  rw [e1, bs_, ib_]
  by_cases c1 : 2 ≤ a ∧ a ≤ 4
  · rw [if_pos (decide_eq_true c1), ev_isGap hb, bs_, ib_]
    by_cases c2 : 4 ≤ b ∧ b ≤ 60
    · rw [if_pos (decide_eq_true c2), ev_isGap hc, bs_, ib_]
      by_cases c3 : 4 ≤ c ∧ c ≤ 60
      · have e3 : F_X10_isWithin (iI c - iI b) (0 : Int32) (20 : Int32) = some (bI (decide (0 ≤ c - b ∧ c - b ≤ 20))) := by
          rw [iI_sub]
          exact ev_within (b := 0) (c := 20) (by omega) (by omega) (by omega)
        rw [if_pos (decide_eq_true c3), e3, bs_, ib_]
        by_cases c4 : 0 ≤ c - b ∧ c - b ≤ 20
        · have e5 : F_X10_isWithin (iI w) (10 : Int32) (((10 : Int32) + iI a) - (1 : Int32)) = some (bI (decide (10 ≤ w ∧ w ≤ 10 + a - 1))) := by
            rw [show (10 : Int32) = iI 10 from rfl, show (1 : Int32) = iI 1 from rfl, iI_add, iI_sub]
            exact ev_within hw1 (by omega) (by omega)
          obtain ⟨k, rfl⟩ : ∃ t : Nat, a = t := ⟨a.toNat, by omega⟩
          obtain ⟨low, rfl⟩ : ∃ t : Nat, b = t := ⟨b.toNat, by omega⟩
          obtain ⟨W, hWc⟩ : ∃ t : Nat, c = (low + t - 1 : Int) := ⟨(c - low + 1).toNat, by omega⟩
          have ecW : iI c = nI (low + W - 1) := by
            rw [iI_nI, hWc]
            congr 1
            omega
          have eW : (c - (low : Int) + 1).toNat = W := by omega
          have J : ((0 ≤ w ∧ w ≤ 1) ∨ (10 ≤ w ∧ w ≤ 10 + (k : Int) - 1)) → ∃ v z1 z2 z3 z4 z5 z6 z7 z8 o1 o2 o3 o4 o5, J_X10_choose_67 st y1 y2 y3 y4 y5 y6 y7 y8 g1 g2 g3 g4 g5 (iI (k : Int)) (iI (low : Int)) (iI c) (iI w) = some (v, z1, z2, z3, z4, z5, z6, z7, z8, o1, o2, o3, o4, o5) ∧ (cOK k low c w → v = qx_ m (k : Int).toNat (c - (low : Int) + 1).toNat (low : Int).toNat w) ∧ (¬ cOK k low c w → v = -1) := by
            intro hwd
            have ok : cOK k low c w := ⟨c1, c2, ⟨by omega, by omega, by omega⟩, hwd⟩
            obtain ⟨z1, z2, z3, z4, z5, z6, ls, fc, o1, o2, o3, o4, be, e, hA, hB, hC⟩ := ev_searchAll hw hS (k := k) (W := W) (low := low) (by omega) (by omega) (by omega) (by omega) y1 y2 y3 y4 y5 y6 y7 y8 g1 g2 g3 g4 g5
            have cb := cA_b m (k := k) (W := W) (low := low) (by omega) (by omega)
            have iv := cA_iv m k W low
            unfold J_X10_choose_67
            rw [← iI_nI, ← iI_nI, ecW, e, bs_]
            dsimp only
            have w0 : (iI w = (0 : Int32)) = (w = 0) := iI_eq (b := 0) hw1 (by omega)
            have w1 : (iI w = (1 : Int32)) = (w = 1) := iI_eq (b := 1) hw1 (by omega)
            have f0 : (fc = (0 : Int32)) = ((cA m k W low).1 = 0) := by
              rw [hB, iI_nI, show (0 : Int32) = iI 0 from rfl, iI_eq (by omega) (by omega)]
              apply propext
              omega
            rw [if_e w0, if_e w1, if_e f0, Int.toNat_natCast, Int.toNat_natCast, eW]
            by_cases d0 : w = 0
            · rw [if_pos d0]
              refine ⟨_, _, _, _, _, _, _, _, _, _, _, _, _, _, rfl, fun _ => ?_, fun h => absurd ok h⟩
              unfold qx_
              rw [if_pos d0, hB]
            · rw [if_neg d0]
              by_cases d1 : (cA m k W low).1 = 0
              · rw [if_pos d1]
                refine ⟨_, _, _, _, _, _, _, _, _, _, _, _, _, _, rfl, fun _ => ?_, fun h => absurd ok h⟩
                unfold qx_
                rw [if_neg d0, if_pos d1]
              · rw [if_neg d1]
                cases ho : (cA m k W low).2.1 with
                | none => exact absurd (iv.mpr ho) d1
                | some l =>
                  obtain ⟨hl, hbe⟩ := hC l ho
                  by_cases d2 : w = 1
                  · rw [if_pos d2]
                    refine ⟨_, _, _, _, _, _, _, _, _, _, _, _, _, _, rfl, fun _ => ?_, fun h => absurd ok h⟩
                    unfold qx_
                    rw [if_neg d0, if_neg d1, if_pos d2, hA, ho]
                    rfl
                  · have hw10 : 10 ≤ w ∧ w ≤ 10 + (k : Int) - 1 := by omega
                    rw [if_neg d2, show iI w - (10 : Int32) = iI (w - 10) from iI_sub w 10, gd_ok (in_ok (by omega) (by omega) (by omega)), iI_clamp (by omega)]
                    refine ⟨_, _, _, _, _, _, _, _, _, _, _, _, _, _, rfl, fun _ => ?_, fun h => absurd ok h⟩
                    unfold qx_
                    rw [if_neg d0, if_neg d1, if_neg d2, hbe _ (by omega)]
          rw [if_pos (decide_eq_true c4), e4, bs_, ib_]
          by_cases c5 : 0 ≤ w ∧ w ≤ 1
          · rw [if_pos (decide_eq_true c5)]
            exact J (Or.inl c5)
          · rw [if_neg (by rw [decide_eq_false c5]; decide), e5, bs_, ib_]
            by_cases c6 : 10 ≤ w ∧ w ≤ 10 + (k : Int) - 1
            · rw [if_pos (decide_eq_true c6)]
              exact J (Or.inr c6)
            · rw [if_neg (by rw [decide_eq_false c6]; decide)]
              exact nil rfl (fun h => by have := h.2.2.2; omega)
        · rw [if_neg (by rw [decide_eq_false c4]; decide)]
          exact nil rfl (fun h => by have := h.2.2.1; omega)
      · rw [if_neg (by rw [decide_eq_false c3]; decide)]
        exact nil rfl (fun h => by have := h.2.2.1; have := h.2.1; omega)
    · rw [if_neg (by rw [decide_eq_false c2]; decide)]
      exact nil rfl (fun h => c2 h.2.1)
  · rw [if_neg (by rw [decide_eq_false c1]; decide)]
    exact nil rfl (fun h => c1 h.1)
theorem ev_rchoose (hw : WS m) (hA : rA m all) (ra : Int32) (cho be : Nat → Int32) {a b c w : Int} (ha : rg a) (hb : rg b) (hc : rg c) (hw1 : rg w) :
    ∃ v o1 o2, F_X11_choose ra all cho be (iI a) (iI b) (iI c) (iI w) = some (v, 0, o1, o2) ∧ (cOK a b c w → v = qx_ m a.toNat (c - b + 1).toNat b.toNat w) ∧ (¬ cOK a b c w → v = -1) := by
  have e1 : F_X11_in (iI a) (2 : Int32) (4 : Int32) = some (bI (decide (2 ≤ a ∧ a ≤ 4))) := ev_in (b := 2) (c := 4) ha (by omega) (by omega)
  have e2 : F_X11_in (iI b) (4 : Int32) (60 : Int32) = some (bI (decide (4 ≤ b ∧ b ≤ 60))) := ev_in (b := 4) (c := 60) hb (by omega) (by omega)
  have e4 : F_X11_in (iI w) (0 : Int32) (1 : Int32) = some (bI (decide (0 ≤ w ∧ w ≤ 1))) := ev_in (b := 0) (c := 1) hw1 (by omega) (by omega)
  have nil : ∀ {A}, A = some ((-1 : Int32), (0 : Int32), cho, be) → ¬ cOK a b c w → ∃ v o1 o2, A = some (v, (0 : Int32), o1, o2) ∧ (cOK a b c w → v = qx_ m a.toNat (c - b + 1).toNat b.toNat w) ∧ (¬ cOK a b c w → v = -1) := fun e h => ⟨_, _, _, e, fun h2 => absurd h2 h, fun _ => rfl⟩
  unfold F_X11_choose
  rw [e1, bs_, ib_]
  by_cases c1 : 2 ≤ a ∧ a ≤ 4
  · rw [if_pos (decide_eq_true c1), e2, bs_, ib_]
    by_cases c2 : 4 ≤ b ∧ b ≤ 60
    · obtain ⟨k, rfl⟩ : ∃ t : Nat, a = t := ⟨a.toNat, by omega⟩
      obtain ⟨low, rfl⟩ : ∃ t : Nat, b = t := ⟨b.toNat, by omega⟩
      have el : F_X11_lesser (60 : Int32) (iI (low : Int) + (20 : Int32)) = some (iI (if 60 < low + 20 then 60 else (low : Int) + 20)) := by
        rw [← iI_nI, show (20 : Int32) = nI 20 from rfl, nI_add, show (60 : Int32) = nI 60 from rfl, ev_lesser (by decide) (by omega)]
        congr 1
        by_cases q : 60 < low + 20
        · rw [if_pos q, if_pos q, iI_nI]; rfl
        · rw [if_neg q, if_neg q, iI_nI, Int.natCast_add]; rfl
      have hmin : rg (if 60 < low + 20 then 60 else (low : Int) + 20) := by split <;> omega
      rw [if_pos (decide_eq_true c2), el, bs_, ev_in hc (by omega) hmin, bs_, ib_]
      by_cases c3 : (low : Int) ≤ c ∧ c ≤ (if 60 < low + 20 then 60 else (low : Int) + 20)
      · have c3' : (low : Int) ≤ c ∧ c ≤ 60 ∧ c ≤ low + 20 := by
          refine ⟨c3.1, ?_, ?_⟩
          · have := c3.2
            split at this <;> omega
          · have := c3.2
            split at this <;> omega
        obtain ⟨W, hWc⟩ : ∃ t : Nat, c = (low + t - 1 : Int) := ⟨(c - low + 1).toNat, by omega⟩
        have ecW : iI c = nI (low + W - 1) := by
          rw [iI_nI, hWc]
          congr 1
          omega
        have eW : (c - (low : Int) + 1).toNat = W := by omega
        have cb := cA_b m (k := k) (W := W) (low := low) (by omega) (by omega)
        have iv := cA_iv m k W low
        have J : ((0 ≤ w ∧ w ≤ 1) ∨ (10 ≤ w ∧ w ≤ 10 + (k : Int) - 1)) → ∃ v o1 o2, L_X11_choose_71 all fu_ (0 : Int32) cho be (iI (k : Int)) (iI (low : Int)) (iI c) (iI w) (0 : Int32) = some (v, (0 : Int32), o1, o2) ∧ (cOK k low c w → v = qx_ m (k : Int).toNat (c - (low : Int) + 1).toNat (low : Int).toNat w) ∧ (¬ cOK k low c w → v = -1) := by
          intro hwd
          have ok : cOK k low c w := ⟨c1, c2, c3', hwd⟩
          have w0 : (iI w = (0 : Int32)) = (w = 0) := iI_eq (b := 0) hw1 (by omega)
          have w1 : (iI w = (1 : Int32)) = (w = 1) := iI_eq (b := 1) hw1 (by omega)
          have fin : ∀ (cho2 be2 : Nat → Int32), AS k (cA m k W low) be2 → ∃ v o1 o2, J_X11_choose_219 all (0 : Int32) cho2 be2 (iI w) (nI (cA m k W low).1) (lsR (cA m k W low).2.1) = some (v, (0 : Int32), o1, o2) ∧ (cOK k low c w → v = qx_ m (k : Int).toNat (c - (low : Int) + 1).toNat (low : Int).toNat w) ∧ (¬ cOK k low c w → v = -1) := by
            intro cho2 be2 hAS
            have f0 : (nI (cA m k W low).1 = (0 : Int32)) = ((cA m k W low).1 = 0) := by
              rw [iI_nI, show (0 : Int32) = iI 0 from rfl, iI_eq (by omega) (by omega)]
              apply propext
              omega
            unfold J_X11_choose_219
            rw [if_e w0, if_e w1, if_e f0, Int.toNat_natCast, Int.toNat_natCast, eW]
            by_cases d0 : w = 0
            · rw [if_pos d0]
              refine ⟨_, _, _, rfl, fun _ => ?_, fun h => absurd ok h⟩
              unfold qx_
              rw [if_pos d0]
            · rw [if_neg d0]
              by_cases d1 : (cA m k W low).1 = 0
              · rw [if_pos d1]
                refine ⟨_, _, _, rfl, fun _ => ?_, fun h => absurd ok h⟩
                unfold qx_
                rw [if_neg d0, if_pos d1]
              · rw [if_neg d1]
                cases ho : (cA m k W low).2.1 with
                | none => exact absurd (iv.mpr ho) d1
                | some l =>
                  obtain ⟨hl, hbe⟩ := hAS l ho
                  by_cases d2 : w = 1
                  · rw [if_pos d2]
                    refine ⟨_, _, _, rfl, fun _ => ?_, fun h => absurd ok h⟩
                    unfold qx_
                    rw [if_neg d0, if_neg d1, if_pos d2, ho]
                    rfl
                  · have hw10 : 10 ≤ w ∧ w ≤ 10 + (k : Int) - 1 := by omega
                    rw [if_neg d2, show iI w - (10 : Int32) = iI (w - 10) from iI_sub w 10, gd_ok (in_ok (by omega) (by omega) (by omega)), iI_clamp (by omega)]
                    refine ⟨_, _, _, rfl, fun _ => ?_, fun h => absurd ok h⟩
                    unfold qx_
                    rw [if_neg d0, if_neg d1, if_neg d2, hbe _ (by omega)]
          have s71 : ∀ d i n (r : Nat → Int32), i + d = k → d < n → (∀ j, j < i → r j = nI (low + j)) → ∃ r2, L_X11_choose_71 all n (0 : Int32) r be (nI k) (nI low) (nI (low + W - 1)) (iI w) (nI i) = J_X11_choose_94 all (0 : Int32) r2 be (nI k) (nI low) (nI (low + W - 1)) (iI w) ∧ ∀ j, j < k → r2 j = nI (low + j) := by
            intro d
            induction d with
            | zero =>
              intro i n r b1 b2 b3
              obtain ⟨n, rfl⟩ : ∃ k, n = k + 1 := ⟨n - 1, by omega⟩
              rw [L_X11_choose_71, if_pos (yle_ (by omega) (by omega) (by omega))]
              exact ⟨r, rfl, fun j hj => b3 j (by omega)⟩
            | succ d ih =>
              intro i n r b1 b2 b3
              obtain ⟨n, rfl⟩ : ∃ k, n = k + 1 := ⟨n - 1, by omega⟩
              rw [L_X11_choose_71, if_neg (nle_ (by omega) (by omega) (by omega)), gN_ (by omega) (by decide), nI_clamp (by omega), nI_add, nI_s]
              refine ih (i + 1) n _ (by omega) (by omega) (fun j hj => ?_)
              rw [upd_at]
              by_cases q : j = i
              · rw [if_pos q, q]
              · rw [if_neg q]
                exact b3 j (by omega)
          obtain ⟨r2, e71, hr2⟩ := s71 k 0 fu_ cho (by omega) (fu_lt (by omega)) (fun j hj => by omega)
          rw [← iI_nI, ← iI_nI, ecW]
          have e71 : L_X11_choose_71 all fu_ (0 : Int32) cho be (nI k) (nI low) (nI (low + W - 1)) (iI w) (0 : Int32) = _ := e71
          rw [e71]
          unfold J_X11_choose_94
          rw [nI_add, s1_ (by omega), if_e (nI_lt2 (by omega) (by omega))]
          by_cases q : low + W - 1 < low + k - 1
          · have e0 : cA m k W low = a0_ := eE_0 (by omega)
            rw [if_pos q, show fu_ = 999999 + 1 from rfl, L_X11_choose_116, if_pos (show (0 : Int32) = 0 from rfl)]
            have := fin r2 be (by rw [e0]; intro l hl; cases hl)
            rw [e0] at this
            exact this
          · have hkW : k ≤ W := by omega
            have f0 : ∀ j, j < k → fE k W low k W (fun _ => 0) j = low + j := fun j hj => by
              unfold fE
              rw [if_pos (by omega)]
              omega
            have hb1 := vC_b (k := k) (W := W) (low := low) k W (fun _ => 0)
            have h3 : W ^ k ≤ 21 ^ k := Nat.pow_le_pow_left (by omega) k
            have h4 : 21 ^ k ≤ 21 ^ 4 := Nat.pow_le_pow_right (by decide) (by omega)
            have h5 : (21 : Nat) ^ 4 = 194481 := by decide
            have h6 := eE_all (low := low) (vC_v k) (ch := fun _ => 0) (a := 0) hkW
            have h7 := vC_r (k := k) (W := W) (low := low) (p := 0) k (fE k W low k W (fun _ => 0)) (vC (fE k W low k W (fun _ => 0)) 0)
            obtain ⟨cho2, be2, e116, hAS⟩ := ev_ch116 hw hA (k := k) (W := W) (low := low) (by omega) (by omega) (by omega) (by omega) hkW 0 (iI w) (rG vC k W low 0 k (fE k W low k W (fun _ => 0)) 0) fu_ (fE k W low k W (fun _ => 0)) r2 be a0_ rfl (fu_lt (by omega)) (fun j hj => by rw [f0 j hj]; omega) (fun q hq => by rw [f0 q hq]; exact hr2 q hq) (fun l hl => by cases hl)
            have e116 : L_X11_choose_116 all fu_ (0 : Int32) r2 be (nI k) (nI (low + W - 1)) (iI w) (0 : Int32) (-1 : Int32) (1 : Int32) = _ := e116
            have ea : rG (vF m k) k W low 0 k (fE k W low k W (fun _ => 0)) (vF m k (fE k W low k W (fun _ => 0)) a0_) = cA m k W low := (eE_all (vF_c m k) hkW).symm
            rw [ea] at e116 hAS
            rw [if_neg q, e116]
            exact fin cho2 be2 hAS
        rw [if_pos (decide_eq_true c3), e4, bs_, ib_]
        by_cases c5 : 0 ≤ w ∧ w ≤ 1
        · rw [if_pos (decide_eq_true c5)]
          exact J (Or.inl c5)
        · rw [if_neg (by rw [decide_eq_false c5]; decide)]
          by_cases c6 : -2147483638 ≤ w
          · have e5 : F_X11_in (iI w - (10 : Int32)) (0 : Int32) (iI (k : Int) - (1 : Int32)) = some (bI (decide (0 ≤ w - 10 ∧ w - 10 ≤ (k : Int) - 1))) := by
              rw [show (10 : Int32) = iI 10 from rfl, show (1 : Int32) = iI 1 from rfl, iI_sub, iI_sub]
              exact ev_in (b := 0) (by omega) (by omega) (by omega)
            rw [e5, bs_, ib_]
            by_cases c7 : 0 ≤ w - 10 ∧ w - 10 ≤ (k : Int) - 1
            · rw [if_pos (decide_eq_true c7)]
              exact J (Or.inr (by omega))
            · rw [if_neg (by rw [decide_eq_false c7]; decide)]
              exact nil rfl (fun h => by have := h.2.2.2; omega)
          · have ew : iI w - (10 : Int32) = iI (w - 10 + 4294967296) := by
              rw [show (10 : Int32) = iI 10 from rfl, iI_sub, ← iI_add (w - 10) 4294967296, show iI 4294967296 = (0 : Int32) by decide, Int32.add_zero]
            have e5 : F_X11_in (iI w - (10 : Int32)) (0 : Int32) (iI (k : Int) - (1 : Int32)) = some (bI (decide (0 ≤ w - 10 + 4294967296 ∧ w - 10 + 4294967296 ≤ (k : Int) - 1))) := by
              rw [ew, show (1 : Int32) = iI 1 from rfl, iI_sub]
              exact ev_in (b := 0) (by omega) (by omega) (by omega)
            rw [e5, bs_, ib_, if_neg (by rw [decide_eq_false (by omega)]; decide)]
            exact nil rfl (fun h => by have := h.2.2.2; omega)
      · rw [if_neg (by rw [decide_eq_false c3]; decide)]
        refine nil rfl (fun h => c3 ?_)
        have := h.2.2.1
        refine ⟨this.1, ?_⟩
        split <;> omega
    · rw [if_neg (by rw [decide_eq_false c2]; decide)]
      exact nil rfl (fun h => c2 h.2.1)
  · rw [if_neg (by rw [decide_eq_false c1]; decide)]
    exact nil rfl (fun h => c1 h.1)
end SEA
/-! ===== END ===== -/
