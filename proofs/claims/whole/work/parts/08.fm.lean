/-! ===== BEGIN sentences, the class ===== -/
def bL (w i : Nat) : Int := if w = 7 then 4 else if w < 7 then l7 w else if i = 0 then 0 else if i = 1 then 0 else 1
def bH (w i : Nat) : Int := if w = 7 then 60 else if w < 7 then h7 w else if i = 0 then 2999 else if i = 1 then 500 else 99
theorem ev_canBe {v w i : Nat} (hv : v ≤ 9999) (hw : w < 10) (hi : i < 3) : F_X6_canBe (nI v) (nI w) (nI i) = some (bI (decide (bL w i ≤ v ∧ (v : Int) ≤ bH w i))) := by
  have W : ∀ a b : Int, rg a → rg b → (F_X10_isWithin (nI v) (iI a) (iI b)).bind (fun r => gd_ (decide (r &&& 1 = r)) (some r)) = some (bI (decide (a ≤ v ∧ (v : Int) ≤ b))) := by
    intro a b ha hb
    rw [iI_nI v, ev_within (by omega) ha hb, bs_]
    exact gd_ok bI_n
  unfold F_X6_canBe bL bH
  rw [show (7 : Int32) = nI 7 from rfl, if_e (nK_e (a := w) (b := 7) (by omega) (by decide)), if_e (nI_le2 (a := 7) (b := w) (by decide) (by omega))]
  by_cases q : w = 7
  · rw [if_pos q, if_pos q, if_pos q, iI_nI v, ev_isGap (by omega), bs_]
    exact gd_ok bI_n
  · rw [if_neg q, if_neg q, if_neg q]
    by_cases q2 : w < 7
    · have r7 := lh7 w q2
      rw [if_neg (by omega), if_pos q2, if_pos q2, gN_ q2 (by decide), gN_ q2 (by decide), nI_clamp (by omega), tL7 w q2, tM7 w q2]
      exact W _ _ r7.1 r7.2
    · rw [if_pos (by omega), if_neg q2, if_neg q2, show (0 : Int32) = nI 0 from rfl, if_e (nK_e (a := i) (b := 0) (by omega) (by decide)), show (1 : Int32) = nI 1 from rfl, if_e (nK_e (a := i) (b := 1) (by omega) (by decide))]
      by_cases q3 : i = 0
      · rw [if_pos q3, if_pos q3, if_pos q3]
        exact W 0 2999 (by omega) (by omega)
      · rw [if_neg q3, if_neg q3, if_neg q3]
        by_cases q4 : i = 1
        · rw [if_pos q4, if_pos q4, if_pos q4]
          exact W 0 500 (by omega) (by omega)
        · rw [if_neg q4, if_neg q4, if_neg q4]
          exact W 1 99 (by omega) (by omega)
/-- what the check of a number makes of a fault -/
def ck_ (m : Nat → Int) (f : Option (Nat × Nat)) (w i s v : Nat) : Option (Nat × Nat) := if bL w i ≤ (v : Int) ∧ (v : Int) ≤ bH w i then (if w = 7 ∧ hg_ m v (nG m) = true then nf_ f 3 s else f) else nf_ f 2 s
theorem ck_s {m : Nat → Int} {f : Option (Nat × Nat)} {w i s v : Nat} (h : f ≠ none) : ck_ m f w i s v = f := by
  cases f with
  | none => exact absurd rfl h
  | some x =>
    unfold ck_
    split
    · split <;> rfl
    · rfl
theorem ck_W {m : Nat → Int} {f : Option (Nat × Nat)} {w i s v r : Nat} (h : fW f s) (hr : s < r) : fW (ck_ m f w i s v) r := by
  unfold ck_
  split
  · split
    · exact fW_nf h (by omega) hr
    · exact fW_le h (by omega)
  · exact fW_nf h (by omega) hr
section CSE
variable {c : Nat → Nat} {N : Nat} {tb : Nat → Int32} {m : Nat → Int} {gc tc : Int32} {gaps st sp ve sr : Nat → Int32}
theorem ev_checkNumber (hg : WG m) (hG : cG m gc gaps) {f : Option (Nat × Nat)} {q s v w i : Nat} (hf : fW f q) (hv : v ≤ 9999) (hw : w < 10) (hi : i < 3) :
    F_X6_checkNumber (nI s) (nI v) (fK f) (fP f) gc gaps (nI w) (nI i) = some (fK (ck_ m f w i s v), fP (ck_ m f w i s v)) := by
  unfold F_X6_checkNumber ck_
  rw [ev_canBe hv hw hi, bs_, ib_]
  by_cases q1 : bL w i ≤ (v : Int) ∧ (v : Int) ≤ bH w i
  · rw [if_pos (decide_eq_true q1), if_pos q1, show (7 : Int32) = nI 7 from rfl, if_e (nK_e (a := w) (b := 7) (by omega) (by decide))]
    by_cases q2 : w = 7
    · obtain ⟨K, e, qK⟩ := ev_indexOfGap hg hG (x := (v : Int)) (by omega)
      have nI1 : ∀ k, k < 5 → ¬ nI k = (-1 : Int32) := by decide
      have n5 := (nG_c hg).2
      rw [if_pos q2, iI_nI v, e, bs_]
      by_cases q3 : hg_ m v (nG m) = true
      · rw [if_pos q3, if_neg (nI1 K (by have := (qK q3).1; omega)), if_pos ⟨q2, q3⟩, show (3 : Int32) = nI 3 from rfl, ev_noteFault hf, bs_]
      · rw [if_neg q3, if_pos rfl, if_neg (fun h => q3 h.2)]
    · rw [if_neg q2, if_neg (fun h => q2 h.1)]
  · rw [if_neg (by rw [decide_eq_false q1]; decide), if_neg q1, show (2 : Int32) = nI 2 from rfl, ev_noteFault hf, bs_]
theorem ev_c72 (hN : N ≤ 400) (hc : ∀ i, i < N → c i < 256) (hb : ∀ i, i < N → tb i = nI (c i)) (hg : WG m) (hG : cG m gc gaps) {s : Nat} (hs : s ≤ N) (hk : tK c N s = 2) {f : Option (Nat × Nat)} (hf : fW f s) {vc : Int32} (hv : tK c N s = 2 → vc = nI (tV c N s)) (nb : Nat → Int32) {w i K : Nat} (hw : w < 10) (hi : i < K) (hK : K ≤ 3) (n : Nat) :
    ∃ v2, L_X6_readSentence_72 (nI N) tb (n + 1) (nI (tE c N s)) (nI (tK c N s)) (nI s) vc (fK f) (fP f) nb gc tc gaps st sp ve sr (nI w) (nI K) (nI i) = L_X6_readSentence_72 (nI N) tb n (nI (tE c N (nX c N s))) (nI (tK c N (nX c N s))) (nI (nX c N s)) v2 (fK (ck_ m f w i s (tV c N s))) (fP (ck_ m f w i s (tV c N s))) (upd nb i (nI (tV c N s))) gc tc gaps st sp ve sr (nI w) (nI K) (nI (i + 1)) ∧ (tK c N (nX c N s) = 2 → v2 = nI (tV c N (nX c N s))) := by
  have hE := tE_b (c := c) hs
  obtain ⟨v2, e, q⟩ := ev_step hN hc hb (nI (tK c N s)) (nI s) vc hE.2
  refine ⟨v2, ?_, q⟩
  rw [L_X6_readSentence_72, if_neg (nle_ (by omega) (by omega) hi), e, hv hk, if_pos (show nI (tK c N s) = (2 : Int32) by rw [hk]; rfl), ev_checkNumber hg hG hf (tV_b hk) hw (by omega), bs_, gN_ (by omega) (by decide), bs_, nI_clamp (by omega), nI_s]
  rfl
theorem ev_c72x {s : Nat} (hk : tK c N s ≠ 2) (vc fk fp : Int32) (nb : Nat → Int32) (e : Int32) {w i K : Nat} (hi : i < K) (hK : K ≤ 3) (n : Nat) :
    L_X6_readSentence_72 (nI N) tb (n + 1) e (nI (tK c N s)) (nI s) vc fk fp nb gc tc gaps st sp ve sr (nI w) (nI K) (nI i) = some (e, nI (tK c N s), nI s, vc, 1, nI s, nb, gc, tc, gaps, st, sp, ve, sr) := by
  have kb := tK_b c N s
  rw [L_X6_readSentence_72, if_neg (nle_ (by omega) (by omega) hi), if_neg (show ¬ nI (tK c N s) = (2 : Int32) by rw [show (2 : Int32) = nI 2 from rfl, nK_e (by omega) (by decide)]; exact hk)]
  rfl
theorem ev_c72e (n : Nat) {K : Nat} (hK : K ≤ 3) (e k s vc fk fp : Int32) (nb : Nat → Int32) (w : Int32) :
    L_X6_readSentence_72 (nI N) tb (n + 1) e k s vc fk fp nb gc tc gaps st sp ve sr w (nI K) (nI K) = J_X6_readSentence_122 (nI N) tb e k s vc fk fp nb gc tc gaps st sp ve sr w := by
  rw [L_X6_readSentence_72, if_pos (yle_ (by omega) (by omega) (Nat.le_refl _))]
theorem ev_c122x {s : Nat} (hk : tK c N s ≠ 3) (vc fk fp : Int32) (nb : Nat → Int32) (e w : Int32) :
    J_X6_readSentence_122 (nI N) tb e (nI (tK c N s)) (nI s) vc fk fp nb gc tc gaps st sp ve sr w = some (e, nI (tK c N s), nI s, vc, 1, nI s, nb, gc, tc, gaps, st, sp, ve, sr) := by
  have kb := tK_b c N s
  unfold J_X6_readSentence_122
  rw [if_neg (show ¬ nI (tK c N s) = (3 : Int32) by rw [show (3 : Int32) = nI 3 from rfl, nK_e (by omega) (by decide)]; exact hk)]
  rfl
theorem ev_c122 (hN : N ≤ 400) (hc : ∀ i, i < N → c i < 256) (hb : ∀ i, i < N → tb i = nI (c i)) {s : Nat} (hs : s ≤ N) (hk : tK c N s = 3) {f : Option (Nat × Nat)} {q : Nat} (hf : fW f q) (vc : Int32) (nb : Nat → Int32) (w : Int32) {gc2 tc2 : Int32} {gaps2 st2 sp2 ve2 sr2 : Nat → Int32}
    (ha : (f = none → F_X6_apply nb gc tc gaps st sp ve sr w = some (gc2, tc2, gaps2, st2, sp2, ve2, sr2)) ∧ (f ≠ none → (gc, tc, gaps, st, sp, ve, sr) = (gc2, tc2, gaps2, st2, sp2, ve2, sr2))) :
    ∃ v2, J_X6_readSentence_122 (nI N) tb (nI (tE c N s)) (nI (tK c N s)) (nI s) vc (fK f) (fP f) nb gc tc gaps st sp ve sr w = some (nI (tE c N (nX c N s)), nI (tK c N (nX c N s)), nI (nX c N s), v2, fK f, fP f, nb, gc2, tc2, gaps2, st2, sp2, ve2, sr2) ∧ (tK c N (nX c N s) = 2 → v2 = nI (tV c N (nX c N s))) := by
  have hE := tE_b (c := c) hs
  obtain ⟨v2, e, q2⟩ := ev_step hN hc hb (nI (tK c N s)) (nI s) vc hE.2
  refine ⟨v2, ?_, q2⟩
  unfold J_X6_readSentence_122
  rw [e, if_pos (show nI (tK c N s) = (3 : Int32) by rw [hk]; rfl), bs_, if_e (fK_0 hf)]
  by_cases h : f = none
  · rw [if_pos h, ha.1 h, bs_]
    rfl
  · have h2 := ha.2 h
    rw [if_neg h]
    simp only [Prod.mk.injEq] at h2
    obtain ⟨rfl, rfl, rfl, rfl, rfl, rfl, rfl⟩ := h2
    rfl
/-- is there room for the sentence's word -/
def fl_ (m : Nat → Int) (w : Nat) : Bool := if w = 7 then decide (nG m = 5) else if w < 7 then false else decide (nT m = 8)
theorem ev_isFull (hg : WG m) (ht : WT m) (hG : cG m gc gaps) (hT : cT m tc sp ve sr) {w : Nat} (hw : w < 10) : F_X6_isFull gc tc (nI w) = some (bI (fl_ m w)) := by
  obtain ⟨n1, n2⟩ := nG_c hg
  obtain ⟨n3, n4⟩ := nT_c ht
  have hgc : gc = nI (nG m) := by rw [hG.1, n1, iI_nI]
  have htc : tc = nI (nT m) := by rw [hT.1, n3, iI_nI]
  have e8 : J_X6_isFull_32 gc tc = some (bI (decide (nT m = 8))) := by
    unfold J_X6_isFull_32
    rw [htc, show (8 : Int32) = nI 8 from rfl, if_e (nI_lt2 (by omega) (by decide))]
    by_cases q : nT m < 8
    · rw [if_pos q, decide_eq_false (by omega)]; rfl
    · rw [if_neg q, decide_eq_true (by omega)]; rfl
  unfold F_X6_isFull fl_
  rw [show (7 : Int32) = nI 7 from rfl, if_e (nK_e (a := w) (b := 7) (by omega) (by decide)), show (8 : Int32) = nI 8 from rfl, if_e (nK_e (a := w) (b := 8) (by omega) (by decide)), show (9 : Int32) = nI 9 from rfl, if_e (nK_e (a := w) (b := 9) (by omega) (by decide)), e8]
  by_cases q : w = 7
  · rw [if_pos q, if_pos q, hgc, show (5 : Int32) = nI 5 from rfl, if_e (nI_lt2 (by omega) (by decide))]
    by_cases q2 : nG m < 5
    · rw [if_pos q2, decide_eq_false (by omega)]; rfl
    · rw [if_neg q2, decide_eq_true (by omega)]; rfl
  · rw [if_neg q, if_neg q]
    by_cases q2 : w < 7
    · rw [if_neg (by omega), if_neg (by omega), if_pos q2]; rfl
    · rw [if_neg q2]
      by_cases q3 : w = 8
      · rw [if_pos q3]
      · rw [if_neg q3, if_pos (by omega)]
def f1_ (m : Nat → Int) (f : Option (Nat × Nat)) (w s : Nat) : Option (Nat × Nat) := if fl_ m w = true then nf_ f 4 s else f
theorem f1_W {f : Option (Nat × Nat)} {w s r : Nat} (h : fW f s) (hr : s < r) : fW (f1_ m f w s) r := by
  unfold f1_
  split
  · exact fW_nf h (by omega) hr
  · exact fW_le h (by omega)
/-- behind a word: the token that follows, and the first number -/
theorem ev_c17 (hN : N ≤ 400) (hc : ∀ i, i < N → c i < 256) (hb : ∀ i, i < N → tb i = nI (c i)) (hg : WG m) (ht : WT m) (hG : cG m gc gaps) (hT : cT m tc sp ve sr) {s : Nat} (hs : s ≤ N) {f : Option (Nat × Nat)} (hf : fW f s) (vc : Int32) (nb : Nat → Int32) {w : Nat} (hw : w < 10) :
    ∃ v2, J_X6_readSentence_17 (nI N) tb (nI (tE c N s)) (nI (tK c N s)) (nI s) vc (fK f) (fP f) nb gc tc gaps st sp ve sr (nI w) = L_X6_readSentence_72 (nI N) tb fu_ (nI (tE c N (nX c N s))) (nI (tK c N (nX c N s))) (nI (nX c N s)) v2 (fK (f1_ m f w s)) (fP (f1_ m f w s)) nb gc tc gaps st sp ve sr (nI w) (nI (if w < 8 then 1 else 3)) (nI 0) ∧ (tK c N (nX c N s) = 2 → v2 = nI (tV c N (nX c N s))) := by
  have hE := tE_b (c := c) hs
  obtain ⟨v2, e, q⟩ := ev_step hN hc hb (nI (tK c N s)) (nI s) vc hE.2
  refine ⟨v2, ?_, q⟩
  have nI1 : ∀ k, k < 10 → ¬ nI k = (-1 : Int32) := by decide
  have J41 : ∀ fk fp : Int32, J_X6_readSentence_41 (nI N) tb (nI (tE c N s)) (nI (tK c N s)) (nI s) vc fk fp nb gc tc gaps st sp ve sr (nI w) = L_X6_readSentence_72 (nI N) tb fu_ (nI (tE c N (nX c N s))) (nI (tK c N (nX c N s))) (nI (nX c N s)) v2 fk fp nb gc tc gaps st sp ve sr (nI w) (nI (if w < 8 then 1 else 3)) (nI 0) := by
    intro fk fp
    unfold J_X6_readSentence_41
    rw [e, bs_, show (8 : Int32) = nI 8 from rfl, if_e (nK_e (a := w) (b := 8) (by omega) (by decide)), show (9 : Int32) = nI 9 from rfl, if_e (nK_e (a := w) (b := 9) (by omega) (by decide))]
    by_cases q1 : w = 8
    · rw [if_pos q1, if_neg (by omega)]; rfl
    · rw [if_neg q1]
      by_cases q2 : w = 9
      · rw [if_pos q2, if_neg (by omega)]; rfl
      · rw [if_neg q2, if_pos (by omega)]; rfl
  unfold J_X6_readSentence_17 f1_
  rw [if_neg (nI1 w hw), ev_isFull hg ht hG hT hw, bs_, ib_]
  by_cases q1 : fl_ m w = true
  · rw [if_pos q1, if_pos q1, show (4 : Int32) = nI 4 from rfl, ev_noteFault hf, bs_]
    exact J41 _ _
  · rw [if_neg q1, if_neg q1]
    exact J41 _ _
end CSE
/-! ===== END ===== -/
