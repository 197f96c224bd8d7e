/-! ===== BEGIN what gapOf, targetOf and shaken tell ===== -/
theorem ev_hasTarget {m : Nat → Int} {tc : Int32} (ht : WT m) (hT : tc = iI (m 13)) {a : Int} (ha : rg a) : F_X5_hasTarget tc (iI a) = some (bI (decide (0 ≤ a ∧ a < m 13))) := by
  obtain ⟨h0, h5, -⟩ := ht
  unfold F_X5_hasTarget
  rw [hT, if_e (iI_l0 ha), if_e (iI_le (by omega) ha)]
  by_cases h1 : a < 0
  · rw [if_pos h1, decide_eq_false (by omega)]; rfl
  · rw [if_neg h1]
    by_cases h2 : m 13 ≤ a
    · rw [if_pos h2, decide_eq_false (by omega)]; rfl
    · rw [if_neg h2, decide_eq_true (by omega)]; rfl
theorem ev_isTarget {m : Nat → Int} {all : Nat → Int32} (ht : WT m) (hA : rA m all) {a : Int} (ha : rg a) : F_X11_isTarget all (iI a) = some (bI (decide (0 ≤ a ∧ a < m 13))) := by
  obtain ⟨h0, h5, -⟩ := ht
  unfold F_X11_isTarget
  rw [hA 13 (by decide), show (0 : Int32) = iI 0 from rfl, show (1 : Int32) = iI 1 from rfl, iI_sub, ev_in ha (by omega) (by omega), bs_]
  have e : decide (0 ≤ a ∧ a ≤ m 13 - 1) = decide (0 ≤ a ∧ a < m 13) := by
    congr 1
    apply propext
    omega
  rw [e]
  exact gd_ok bI_n
/-- how a target stands -/
def sd_ (m : Nat → Int) (t : Nat) : Int32 := if rn_ m t < m 9 then bI (fo_ m false (rn_ m t)) else 2
theorem ev_cFound {m : Nat → Int} {gc : Int32} {gaps st ld : Nat → Int32} (hg : WG m) (hw : WS m) (ht : WT m) (hG : cG m gc gaps) (hS : cS m st) (hL : tL m ld) {x : Int} (hx : 0 ≤ x ∧ x ≤ 9999) :
    F_X3_isFound ld gc gaps st (iI x) = some (bI (decide (x < m 9) && fo_ m false x)) := by
  obtain ⟨h9, h1, h2⟩ := nL_c hw
  obtain ⟨-, -, -, -, h10, -⟩ := id hw
  have hp := pc_le (hb_ m x)
  unfold F_X3_isFound fo_
  rw [show st 3 = iI (m 9) from hS 3 (by decide), if_e (iI_le (by omega) (by omega))]
  by_cases c : m 9 ≤ x
  · rw [if_pos c, decide_eq_false (by omega)]; rfl
  · rw [if_neg c, ev_hitsOf hg hw ht hG hS hL hx, bs_, ev_bitCount _ (hb_32 hg _), bs_, show st 4 = iI (m 10) from hS 4 (by decide), iI_nI (pc_ _), if_e (iI_lt (by omega) (by omega)), decide_eq_true (show x < m 9 by omega)]
    by_cases d : (pc_ (hb_ m x) : Int) < m 10
    · rw [if_pos d, decide_eq_false (by omega)]; rfl
    · rw [if_neg d, decide_eq_true (by omega)]; rfl
theorem ev_standingOf {m : Nat → Int} {gc : Int32} {gaps st ld : Nat → Int32} {tc : Int32} {sp ve sr : Nat → Int32} (hg : WG m) (hw : WS m) (ht : WT m) (hG : cG m gc gaps) (hS : cS m st) (hT : cT m tc sp ve sr) (hL : tL m ld) {t : Nat} (h : t < nT m) :
    F_X3_standingOf ld gc gaps st sp (nI t) = some (sd_ m t) := by
  obtain ⟨h9, h1, h2⟩ := nL_c hw
  have h2 := rn_b ht h
  unfold F_X3_standingOf sd_
  rw [ev_rangeOf ht hT h, bs_, show st 3 = iI (m 9) from hS 3 (by decide), if_e (iI_lt (by omega) (by omega))]
  by_cases c : rn_ m t < m 9
  · rw [if_pos c, if_pos c, ev_cFound hg hw ht hG hS hL (by omega), bs_, ib_, decide_eq_true c, Bool.true_and]
    cases fo_ m false (rn_ m t) <;> rfl
  · rw [if_neg c, if_neg c]
theorem sd_0 {m : Nat → Int} {t : Nat} : (sd_ m t = 0) = (decide (rn_ m t < m 9) && !fo_ m false (rn_ m t)) := by
  unfold sd_
  by_cases c : rn_ m t < m 9
  · rw [if_pos c, decide_eq_true c, Bool.true_and, bI_0]
    cases fo_ m false (rn_ m t) <;> simp
  · rw [if_neg c, decide_eq_false c]
    simp
theorem ev_missedTargets {m : Nat → Int} {gc : Int32} {gaps st ld : Nat → Int32} {tc : Int32} {sp ve sr : Nat → Int32} (hg : WG m) (hw : WS m) (ht : WT m) (hG : cG m gc gaps) (hS : cS m st) (hT : cT m tc sp ve sr) (hL : tL m ld) :
    F_X3_missedTargets ld gc tc gaps st sp = some (nI (bt_ (fun t => decide (rn_ m t < m 9) && !fo_ m false (rn_ m t)) (nT m))) := by
  obtain ⟨hn2, h8⟩ := nT_c ht
  have htc : tc = nI (nT m) := by rw [hT.1, hn2, iI_nI]
  refine lp_bt (P := fun t => decide (rn_ m t < m 9) && !fo_ m false (rn_ m t)) (N := nT m) (fun n x k => L_X3_missedTargets_4 ld gc tc gaps st sp n x k) some (by omega) ?_ ?_ (nT m) 0 fu_ (by omega) (fu_lt (by omega))
  · intro n x k hk
    show L_X3_missedTargets_4 ld gc tc gaps st sp (n + 1) x (nI k) = _
    rw [L_X3_missedTargets_4, if_neg (show ¬ tc ≤ nI k by rw [htc]; exact nle_ (by omega) (by omega) hk), ev_standingOf hg hw ht hG hS hT hL hk, bs_, nI_s, if_e sd_0]
  · intro n x
    show L_X3_missedTargets_4 ld gc tc gaps st sp (n + 1) x (nI (nT m)) = some x
    rw [L_X3_missedTargets_4, if_pos (show tc ≤ nI (nT m) by rw [htc]; exact yle_ (by omega) (by omega) (Nat.le_refl _))]
theorem ev_missedBits {m : Nat → Int} {all ld : Nat → Int32} (hg : WG m) (hw : WS m) (ht : WT m) (hA : rA m all) (hL : tL m ld) :
    F_X11_missedBits all ld = some (nI (bt_ (fun t => decide (rn_ m t < m 9) && !fo_ m false (rn_ m t)) (nT m))) := by
  obtain ⟨hn2, h8⟩ := nT_c ht
  obtain ⟨h9, h1, h2⟩ := nL_c hw
  have htc : all 13 = nI (nT m) := by rw [hA 13 (by decide), hn2, iI_nI]
  refine lp_bt (P := fun t => decide (rn_ m t < m 9) && !fo_ m false (rn_ m t)) (N := nT m) (fun n x k => L_X11_missedBits_4 all ld n x k) some (by omega) ?_ ?_ (nT m) 0 fu_ (by omega) (fu_lt (by omega))
  · intro n x k hk
    have h3 := rn_b ht hk
    show L_X11_missedBits_4 all ld (n + 1) x (nI k) = _
    rw [L_X11_missedBits_4, htc, if_neg (nle_ (by omega) (by omega) hk), ev_rrangeOf ht hA hk, bs_, hA 9 (by decide), if_e (iI_le (by omega) (by omega)), bs_, ev_isFound hg hw ht hA hL (by omega), bs_, ib_, or_0, nI_s]
    by_cases c : m 9 ≤ rn_ m k
    · rw [if_pos c, decide_eq_false (by omega)]; rfl
    · rw [if_neg c, decide_eq_true (by omega)]
      cases fo_ m false (rn_ m k) <;> rfl
  · intro n x
    show L_X11_missedBits_4 all ld (n + 1) x (nI (nT m)) = some x
    rw [L_X11_missedBits_4, htc, if_pos (yle_ (by omega) (by omega) (Nat.le_refl _))]
theorem ev_targetsSeenBy {m : Nat → Int} {st : Nat → Int32} {tc : Int32} {sp ve sr : Nat → Int32} (hw : WS m) (ht : WT m) (hS : cS m st) (hT : cT m tc sp ve sr) {g : Int} (hg : 1 ≤ g ∧ g ≤ 63) :
    F_X5_targetsSeenBy tc st sp ve (iI g) = some (nI (bt_ (fun t => se_ m t g) (nT m))) := by
  obtain ⟨hn2, h8⟩ := nT_c ht
  have htc : tc = nI (nT m) := by rw [hT.1, hn2, iI_nI]
  refine lp_bt (P := fun t => se_ m t g) (N := nT m) (fun n x k => L_X5_targetsSeenBy_4 tc st sp ve n (iI g) x k) some (by omega) ?_ ?_ (nT m) 0 fu_ (by omega) (fu_lt (by omega))
  · intro n x k hk
    show L_X5_targetsSeenBy_4 tc st sp ve (n + 1) (iI g) x (nI k) = _
    rw [L_X5_targetsSeenBy_4, if_neg (show ¬ tc ≤ nI k by rw [htc]; exact nle_ (by omega) (by omega) hk), ev_sees hw ht hS hT hk hg, bs_, ib_, nI_s]
  · intro n x
    show L_X5_targetsSeenBy_4 tc st sp ve (n + 1) (iI g) x (nI (nT m)) = some x
    rw [L_X5_targetsSeenBy_4, if_pos (show tc ≤ nI (nT m) by rw [htc]; exact yle_ (by omega) (by omega) (Nat.le_refl _))]
theorem ev_seenBits {m : Nat → Int} {all : Nat → Int32} (hg : WG m) (hw : WS m) (ht : WT m) (hA : rA m all) {k : Nat} (hk : k < nG m) :
    F_X11_seenBits all (nI k) = some (nI (bt_ (fun t => se_ m t (m (1 + k))) (nT m))) := by
  obtain ⟨hn2, h8⟩ := nT_c ht
  have htc : all 13 = nI (nT m) := by rw [hA 13 (by decide), hn2, iI_nI]
  refine lp_bt (P := fun t => se_ m t (m (1 + k))) (N := nT m) (fun n x t => L_X11_seenBits_4 all n (nI k) x t) some (by omega) ?_ ?_ (nT m) 0 fu_ (by omega) (fu_lt (by omega))
  · intro n x t h
    show L_X11_seenBits_4 all (n + 1) (nI k) x (nI t) = _
    rw [L_X11_seenBits_4, htc, if_neg (nle_ (by omega) (by omega) h), ev_isSeen hg hw ht hA h hk, bs_, ib_, or_0, nI_s]
  · intro n x
    show L_X11_seenBits_4 all (n + 1) (nI k) x (nI (nT m)) = some x
    rw [L_X11_seenBits_4, htc, if_pos (yle_ (by omega) (by omega) (Nat.le_refl _))]
theorem ev_gapsThatSee {m : Nat → Int} {gc : Int32} {gaps st : Nat → Int32} {tc : Int32} {sp ve sr : Nat → Int32} (hg : WG m) (hw : WS m) (ht : WT m) (hG : cG m gc gaps) (hS : cS m st) (hT : cT m tc sp ve sr) {t : Nat} (h : t < nT m) :
    F_X5_gapsThatSee gc gaps st sp ve (nI t) = some (nI (bt_ (fun k => se_ m t (m (1 + k))) (nG m))) := by
  obtain ⟨hn, h5⟩ := nG_c hg
  have hgc : gc = nI (nG m) := by rw [hG.1, hn, iI_nI]
  refine lp_bt (P := fun k => se_ m t (m (1 + k))) (N := nG m) (fun n x k => L_X5_gapsThatSee_4 gc gaps st sp ve n (nI t) x k) some (by omega) ?_ ?_ (nG m) 0 fu_ (by omega) (fu_lt (by omega))
  · intro n x k hk
    have hb := hg.2.2.1 k (by omega)
    show L_X5_gapsThatSee_4 gc gaps st sp ve (n + 1) (nI t) x (nI k) = _
    rw [L_X5_gapsThatSee_4, if_neg (show ¬ gc ≤ nI k by rw [hgc]; exact nle_ (by omega) (by omega) hk), gN_ (by omega) (by decide), nI_clamp (by omega), hG.2 k (by omega), ev_sees hw ht hS hT h (by omega), bs_, ib_, nI_s]
  · intro n x
    show L_X5_gapsThatSee_4 gc gaps st sp ve (n + 1) (nI t) x (nI (nG m)) = some x
    rw [L_X5_gapsThatSee_4, if_pos (show gc ≤ nI (nG m) by rw [hgc]; exact yle_ (by omega) (by omega) (Nat.le_refl _))]
theorem ev_seenBy {m : Nat → Int} {all : Nat → Int32} (hg : WG m) (hw : WS m) (ht : WT m) (hA : rA m all) {t : Nat} (h : t < nT m) :
    F_X11_seenBy all (nI t) = some (nI (bt_ (fun k => se_ m t (m (1 + k))) (nG m))) := by
  obtain ⟨hn, h5⟩ := nG_c hg
  have hgc : all 0 = nI (nG m) := by rw [hA 0 (by decide), hn, iI_nI]
  refine lp_bt (P := fun k => se_ m t (m (1 + k))) (N := nG m) (fun n x k => L_X11_seenBy_4 all n (nI t) x k) some (by omega) ?_ ?_ (nG m) 0 fu_ (by omega) (fu_lt (by omega))
  · intro n x k hk
    show L_X11_seenBy_4 all (n + 1) (nI t) x (nI k) = _
    rw [L_X11_seenBy_4, hgc, if_neg (nle_ (by omega) (by omega) hk), ev_isSeen hg hw ht hA h hk, bs_, ib_, or_0, nI_s]
  · intro n x
    show L_X11_seenBy_4 all (n + 1) (nI t) x (nI (nG m)) = some x
    rw [L_X11_seenBy_4, hgc, if_pos (yle_ (by omega) (by omega) (Nat.le_refl _))]
theorem ev_countBlind {m : Nat → Int} {st : Nat → Int32} (hw : WS m) (hS : cS m st) {g : Int} (hg : 0 ≤ g ∧ g ≤ 63) :
    F_X7_countBlind st (iI g) = some (nI (ct_ (fun v => bl_ m v g) 1 (nS m))) := by
  obtain ⟨h11, h1, h2⟩ := nS_c hw
  have hst : st 5 = nI (nS m) := by rw [show st 5 = iI (m 11) from hS 5 (by decide), h11, iI_nI]
  have h := lp_ct (P := fun v => bl_ m v g) (N := nS m + 1) (fun n x k => L_X7_countBlind_4 st n (iI g) x k) some ?_ ?_ (nS m) 1 fu_ 0 (by omega) (fu_lt (by omega))
  · rw [Nat.zero_add] at h
    exact h
  · intro n x k hk
    show L_X7_countBlind_4 st (n + 1) (iI g) x (nI k) = _
    rw [L_X7_countBlind_4, hst, if_neg (nlt_ (by omega) (by omega) (by omega)), iI_nI k, ev_hides hw hS (by omega) hg, bs_, ib_, ← iI_nI, nI_s]
  · intro n x
    show L_X7_countBlind_4 st (n + 1) (iI g) x (nI (nS m + 1)) = some x
    rw [L_X7_countBlind_4, hst, if_pos (ylt_ (by omega) (by omega) (by omega))]
theorem ev_blindMany {m : Nat → Int} {all : Nat → Int32} (hw : WS m) (hA : rA m all) {g : Int} (hg : 0 ≤ g ∧ g ≤ 63) :
    F_X11_blindMany all (iI g) = some (nI (ct_ (fun v => bl_ m v g) 1 (nS m))) := by
  obtain ⟨h11, h1, h2⟩ := nS_c hw
  have hst : all 11 = nI (nS m) := by rw [hA 11 (by decide), h11, iI_nI]
  have h := lp_ct (P := fun v => bl_ m v g) (N := nS m + 1) (fun n x k => L_X11_blindMany_4 all n (iI g) x k) some ?_ ?_ (nS m) 1 fu_ 0 (by omega) (fu_lt (by omega))
  · rw [Nat.zero_add] at h
    exact h
  · intro n x k hk
    show L_X11_blindMany_4 all (n + 1) (iI g) x (nI k) = _
    rw [L_X11_blindMany_4, hst, if_neg (nlt_ (by omega) (by omega) (by omega)), iI_nI k, ev_isBlind hw hA (by omega) hg, bs_, ib_, ← iI_nI, nI_s, Int32.add_zero]
  · intro n x
    show L_X11_blindMany_4 all (n + 1) (iI g) x (nI (nS m + 1)) = some x
    rw [L_X11_blindMany_4, hst, if_pos (ylt_ (by omega) (by omega) (by omega))]
/-- gapOf(k, what), targetOf(t, what), where they answer -/
def qg_ (m : Nat → Int) (k : Nat) (y : Int) : Int32 :=
  if y = 0 then iI (m (1 + k)) else if y = 1 then nI (eg_ m k) else if y = 2 then nI (bt_ (fun t => se_ m t (m (1 + k))) (nT m)) else nI (ct_ (fun v => bl_ m v (m (1 + k))) 1 (nS m))
def qt_ (m : Nat → Int) (t : Nat) (y : Int) : Int32 :=
  if y = 0 then iI (rn_ m t) else if y = 1 then iI (m (14 + 3 * t)) else if y = 2 then iI (m (15 + 3 * t)) else if y = 3 then iI (m (16 + 3 * t)) else if y = 4 then nI (bt_ (fun k => se_ m t (m (1 + k))) (nG m)) else if y = 5 then nI (bt_ (fun k => bl_ m (m (15 + 3 * t)) (m (1 + k))) (nG m)) else sd_ m t
theorem ev_rgapOf {m : Nat → Int} {all : Nat → Int32} (hg : WG m) (hw : WS m) (ht : WT m) (hA : rA m all) (ra : Int32) (f : Nat → Int32) {a b : Int} (ha : rg a) (hb : rg b) :
    ∃ g, F_X11_gapOf ra all f (iI a) (iI b) = some (if (0 ≤ a ∧ a < m 0) ∧ 0 ≤ b ∧ b ≤ 3 then qg_ m a.toNat b else 0, if (0 ≤ a ∧ a < m 0) ∧ 0 ≤ b ∧ b ≤ 3 then 0 else 1, g) := by
  obtain ⟨hn, h5⟩ := nG_c hg
  unfold F_X11_gapOf
  rw [ev_risGap hg hA ha, bs_, ib_]
  by_cases c : 0 ≤ a ∧ a < m 0
  · have h1 := hg.2.2.1 a.toNat (by omega)
    rw [if_pos (decide_eq_true c), show (3 : Int32) = iI 3 from rfl, show F_X11_in (iI b) 0 (iI 3) = _ from ev_in hb (b := 0) (by omega) (by omega), bs_, ib_]
    by_cases d : 0 ≤ b ∧ b ≤ 3
    · have cd : (0 ≤ a ∧ a < m 0) ∧ 0 ≤ b ∧ b ≤ 3 := ⟨c, d⟩
      rw [if_pos (decide_eq_true d), if_pos cd, if_pos cd]
      unfold J_X11_gapOf_23
      rw [if_pos (show (0 : Int32) ≤ 0 by decide), ev_laysLoud hg hw ht hA, bs_, iN c.1, ev_gapAt hA (by omega), bs_, bs_, ev_echoesOf hg hw ht hA (tL_ll m f) (by omega), bs_, ev_seenBits hg hw ht hA (by omega), bs_, ev_blindMany hw hA (by omega), bs_, if_e (show (iI b = 0) = (b = 0) from iI_eq (b := 0) hb (by omega)), if_e (show (iI b = 1) = (b = 1) from iI_eq (b := 1) hb (by omega)), if_e (show (iI b = 2) = (b = 2) from iI_eq (b := 2) hb (by omega))]
      unfold qg_
      refine ⟨llR m (nG m) 0 f, ?_⟩
      by_cases b0 : b = 0
      · rw [if_pos b0, if_pos b0]
      · rw [if_neg b0, if_neg b0]
        by_cases b1 : b = 1
        · rw [if_pos b1, if_pos b1]
        · rw [if_neg b1, if_neg b1]
          by_cases b2 : b = 2
          · rw [if_pos b2, if_pos b2]
          · rw [if_neg b2, if_neg b2]
    · have cd : ¬ ((0 ≤ a ∧ a < m 0) ∧ 0 ≤ b ∧ b ≤ 3) := fun h => d h.2
      rw [if_neg (by simpa using d), if_neg cd, if_neg cd]
      exact ⟨f, rfl⟩
  · have cd : ¬ ((0 ≤ a ∧ a < m 0) ∧ 0 ≤ b ∧ b ≤ 3) := fun h => c h.1
    rw [if_neg (by simpa using c), if_neg cd, if_neg cd]
    exact ⟨f, rfl⟩
theorem ev_rtargetOf {m : Nat → Int} {all : Nat → Int32} (hg : WG m) (hw : WS m) (ht : WT m) (hA : rA m all) (ra : Int32) (f : Nat → Int32) {a b : Int} (ha : rg a) (hb : rg b) :
    ∃ g, F_X11_targetOf ra all f (iI a) (iI b) = some (if (0 ≤ a ∧ a < m 13) ∧ 0 ≤ b ∧ b ≤ 6 then qt_ m a.toNat b else 0, if (0 ≤ a ∧ a < m 13) ∧ 0 ≤ b ∧ b ≤ 6 then 0 else 1, g) := by
  obtain ⟨hn2, h8⟩ := nT_c ht
  obtain ⟨h9, h91, h92⟩ := nL_c hw
  unfold F_X11_targetOf
  rw [ev_isTarget ht hA ha, bs_, ib_]
  by_cases c : 0 ≤ a ∧ a < m 13
  · have h1 := ht.2.2 a.toNat (by omega)
    have h2 := rn_b ht (show a.toNat < nT m by omega)
    rw [if_pos (decide_eq_true c), show (6 : Int32) = iI 6 from rfl, show F_X11_in (iI b) 0 (iI 6) = _ from ev_in hb (b := 0) (by omega) (by omega), bs_, ib_]
    by_cases d : 0 ≤ b ∧ b ≤ 6
    · have cd : (0 ≤ a ∧ a < m 13) ∧ 0 ≤ b ∧ b ≤ 6 := ⟨c, d⟩
      rw [if_pos (decide_eq_true d), if_pos cd, if_pos cd]
      unfold J_X11_targetOf_24
      rw [if_pos (show (0 : Int32) ≤ 0 by decide), ev_laysLoud hg hw ht hA, bs_, iN c.1, ev_rrangeOf ht hA (by omega), bs_, bs_, bs_, ev_seenBy hg hw ht hA (by omega), bs_, show (1 : Int32) = nI 1 from rfl, ev_of hA (by omega) (by decide), bs_, show 14 + 3 * a.toNat + 1 = 15 + 3 * a.toNat by omega, ev_blindBits hg hw hA h1.2.1, bs_, hA 9 (by decide), if_e (iI_lt (by omega) (by omega)), ev_isFound hg hw ht hA (tL_ll m f) (by omega), bs_, ib_]
      refine ⟨llR m (nG m) 0 f, ?_⟩
      obtain ⟨j, rfl⟩ : ∃ j : Nat, b = (j : Int) := ⟨b.toNat, by omega⟩
      have hj : j ≤ 6 := by omega
      have last : (if rn_ m a.toNat < m 9 then (if (decide (rn_ m a.toNat < m 9) && fo_ m false (rn_ m a.toNat)) = true then some (nI 1, (0 : Int32), llR m (nG m) 0 f) else some (0, 0, llR m (nG m) 0 f)) else some ((2 : Int32), (0 : Int32), llR m (nG m) 0 f)) = some (sd_ m a.toNat, 0, llR m (nG m) 0 f) := by
        unfold sd_
        by_cases e : rn_ m a.toNat < m 9
        · rw [if_pos e, if_pos e, decide_eq_true e, Bool.true_and]
          cases fo_ m false (rn_ m a.toNat) <;> rfl
        · rw [if_neg e, if_neg e]
      rw [last]
      unfold qt_
      match j, hj with
      | 0, _ => rfl
      | 1, _ =>
        rw [if_neg (by decide), if_pos (by decide), show iI ((1 : Nat) : Int) - nI 1 = nI 0 by decide, ev_of hA (by omega) (by decide)]; rfl
      | 2, _ =>
        rw [if_neg (by decide), if_neg (by decide), if_pos (by decide), show iI ((2 : Nat) : Int) - nI 1 = nI 1 by decide, ev_of hA (by omega) (by decide), show 14 + 3 * a.toNat + 1 = 15 + 3 * a.toNat by omega]; rfl
      | 3, _ =>
        rw [if_neg (by decide), if_neg (by decide), if_neg (by decide), if_pos (by decide), show iI ((3 : Nat) : Int) - nI 1 = nI 2 by decide, ev_of hA (by omega) (by decide), show 14 + 3 * a.toNat + 2 = 16 + 3 * a.toNat by omega]; rfl
      | 4, _ => rfl
      | 5, _ => rfl
      | 6, _ => rfl
      | j + 7, h => exact absurd h (by omega)
    · have cd : ¬ ((0 ≤ a ∧ a < m 13) ∧ 0 ≤ b ∧ b ≤ 6) := fun h => d h.2
      rw [if_neg (by simpa using d), if_neg cd, if_neg cd]
      exact ⟨f, rfl⟩
  · have cd : ¬ ((0 ≤ a ∧ a < m 13) ∧ 0 ≤ b ∧ b ≤ 6) := fun h => c h.1
    rw [if_neg (by simpa using c), if_neg cd, if_neg cd]
    exact ⟨f, rfl⟩
/-- by how many of the gaps around one a speed is not blind; whether a gap is good; how many speeds have enough -/
def so_ (m : Nat → Int) (v g : Int) (j : Nat) : Nat := ct_ (fun k => !bl_ m v (g + ((k : Int) - j))) 0 (2 * j + 1)
def sg_ (m : Nat → Int) (j : Nat) (z : Int32) (v : Int) (k : Nat) : Bool := if z = 0 then decide (2 * j < so_ m v (m (1 + k)) j) else decide (0 < so_ m v (m (1 + k)) j)
def sn_ (m : Nat → Int) (j : Nat) (z : Int32) (v : Int) : Bool := decide (m 10 ≤ (ct_ (sg_ m j z v) 0 (nG m) : Int))
def qk_ (m : Nat → Int) (x z : Int32) : Int32 := if 0 ≤ x.toInt ∧ x.toInt ≤ 3 then nI (ct_ (fun v => sn_ m x.toInt.toNat z v) 1 (nS m)) else -1
theorem ev_countOpenShaken {m : Nat → Int} {st : Nat → Int32} (hw : WS m) (hS : cS m st) {v g : Int} (hv : -500 ≤ v ∧ v ≤ 500) (hg : 4 ≤ g ∧ g ≤ 60) {j : Nat} (hj : j ≤ 3) :
    F_X7_countOpenShaken st (iI v) (iI g) (nI j) = some (nI (so_ m v g j)) := by
  have h := lp_ct (P := fun k => !bl_ m v (g + ((k : Int) - j))) (N := 2 * j + 1) (fun n x k => L_X7_countOpenShaken_7 st n (iI v) (iI g) (nI j) x (k - nI j)) some ?_ ?_ (2 * j + 1) 0 fu_ 0 (by omega) (fu_lt (by omega))
  · rw [Nat.zero_add] at h
    unfold F_X7_countOpenShaken
    rw [show (-nI j : Int32) = nI 0 - nI j by rw [iI_nI, iI_nI 0, iI_sub, iI_neg]; congr 1; omega]
    exact h
  · intro n x k hk
    show L_X7_countOpenShaken_7 st (n + 1) (iI v) (iI g) (nI j) x (nI k - nI j) = _
    have e1 : nI k - nI j = iI ((k : Int) - j) := by rw [iI_nI, iI_nI j, iI_sub]
    have e2 : iI ((k : Int) - j) + (1 : Int32) = nI (k + 1) - nI j := by
      rw [show (1 : Int32) = iI 1 from rfl, iI_add, iI_nI (k + 1), iI_nI j, iI_sub]
      congr 1
      omega
    rw [L_X7_countOpenShaken_7, e1, iI_nI j, if_e (iI_lt (by omega) (by omega)), if_neg (by omega), iI_add, ev_hides hw hS hv (by omega), bs_, ib_, ← iI_nI j, e2]
    cases bl_ m v (g + ((k : Int) - j)) <;> rfl
  · intro n x
    show L_X7_countOpenShaken_7 st (n + 1) (iI v) (iI g) (nI j) x (nI (2 * j + 1) - nI j) = some x
    rw [L_X7_countOpenShaken_7, iI_nI j, iI_nI (2 * j + 1), iI_sub, if_e (iI_lt (by omega) (by omega)), if_pos (by omega)]
theorem so_le (m : Nat → Int) (v g : Int) (j : Nat) : so_ m v g j ≤ 2 * j + 1 := ct_le _ _ _
theorem ev_shaken {m : Nat → Int} {gc : Int32} {gaps st : Nat → Int32} (hg : WG m) (hw : WS m) (hG : cG m gc gaps) (hS : cS m st) (x z : Int32) : F_X10_shaken gc gaps st x z = some (qk_ m x z) := by
  obtain ⟨hn, h5⟩ := nG_c hg
  obtain ⟨h11, h1, h2⟩ := nS_c hw
  obtain ⟨-, -, -, -, h10, -⟩ := id hw
  have hgc : gc = nI (nG m) := by rw [hG.1, hn, iI_nI]
  have hst : st 5 = nI (nS m) := by rw [show st 5 = iI (m 11) from hS 5 (by decide), h11, iI_nI]
  obtain ⟨a, ha, rfl⟩ := iI_ex x
  unfold F_X10_shaken qk_
  rw [show (3 : Int32) = iI 3 from rfl, show F_X10_isWithin (iI a) 0 (iI 3) = _ from ev_within ha (b := 0) (by omega) (by omega), bs_, ib_, iI_toInt ha]
  by_cases c : 0 ≤ a ∧ a ≤ 3
  · rw [if_pos (decide_eq_true c), if_pos c, iN c.1]
    have hj : a.toNat ≤ 3 := by omega
    generalize a.toNat = j at hj
    have h := lp_ct (P := fun v => sn_ m j z v) (N := nS m + 1) (fun n x k => L_X7_countShaken_5 gc gaps st n (nI j) z x k) some ?_ ?_ (nS m) 1 fu_ 0 (by omega) (fu_lt (by omega))
    · rw [Nat.zero_add] at h
      unfold F_X7_countShaken
      rw [show L_X7_countShaken_5 gc gaps st fu_ (nI j) z 0 1 = _ from h, bs_]
    · intro n x k hk
      show L_X7_countShaken_5 gc gaps st (n + 1) (nI j) z x (nI k) = _
      rw [L_X7_countShaken_5, hst, if_neg (nlt_ (by omega) (by omega) (by omega))]
      have h2 := lp_ct (P := sg_ m j z k) (N := nG m) (fun n2 y i => L_X7_countShaken_22 gc gaps st (L_X7_countShaken_5 gc gaps st n) n2 (nI j) z x (nI k) y i) (fun y => J_X7_countShaken_76 gc gaps st (L_X7_countShaken_5 gc gaps st n) (nI j) z x (nI k) y) ?_ ?_ (nG m) 0 fu_ 0 (by omega) (fu_lt (by omega))
      · rw [Nat.zero_add] at h2
        rw [show L_X7_countShaken_22 gc gaps st (L_X7_countShaken_5 gc gaps st n) fu_ (nI j) z x (nI k) 0 0 = _ from h2]
        have h3 := ct_le (sg_ m j z k) (nG m) 0
        show J_X7_countShaken_76 gc gaps st (L_X7_countShaken_5 gc gaps st n) (nI j) z x (nI k) (nI (ct_ (sg_ m j z k) 0 (nG m))) = _
        unfold J_X7_countShaken_76 sn_
        rw [show st 4 = iI (m 10) from hS 4 (by decide), iI_nI (ct_ _ _ _), if_e (iI_lt (by omega) (by omega)), nI_s]
        by_cases q : (ct_ (sg_ m j z k) 0 (nG m) : Int) < m 10
        · rw [if_pos q, if_neg (by simp; omega)]
        · rw [if_neg q, if_pos (by simp; omega)]
      · intro n2 y i hi
        have hb := hg.2.2.1 i (by omega)
        have hso := so_le m k (m (1 + i)) j
        show L_X7_countShaken_22 gc gaps st (L_X7_countShaken_5 gc gaps st n) (n2 + 1) (nI j) z x (nI k) y (nI i) = _
        rw [L_X7_countShaken_22]
        conv => lhs; rw [if_neg (show ¬ gc ≤ nI i by rw [hgc]; exact nle_ (by omega) (by omega) hi), gN_ (by omega) (by decide), nI_clamp (by omega), hG.2 i (by omega), iI_nI k, ev_countOpenShaken hw hS (by omega) hb hj, bs_, ← iI_nI k, show (2 : Int32) = nI 2 from rfl, pk_mul, if_e (nI_le2 (by omega) (by omega)), if_e (show (nI (so_ m k (m (1 + i)) j) ≤ 0) = (so_ m k (m (1 + i)) j ≤ 0) from nI_le2 (b := 0) (by omega) (by decide)), nI_s]
        unfold sg_
        by_cases cz : z = 0
        · rw [if_pos cz, if_pos cz]
          by_cases q : so_ m k (m (1 + i)) j ≤ 2 * j
          · rw [if_pos q, if_neg (by simp; omega)]
          · rw [if_neg q, if_pos (by simp; omega)]
        · rw [if_neg cz, if_neg cz]
          by_cases q : so_ m k (m (1 + i)) j ≤ 0
          · rw [if_pos q, if_neg (by simp; omega)]
          · rw [if_neg q, if_pos (by simp; omega)]
      · intro n2 y
        show L_X7_countShaken_22 gc gaps st (L_X7_countShaken_5 gc gaps st n) (n2 + 1) (nI j) z x (nI k) y (nI (nG m)) = _
        rw [L_X7_countShaken_22]
        conv => lhs; rw [if_pos (show gc ≤ nI (nG m) by rw [hgc]; exact yle_ (by omega) (by omega) (Nat.le_refl _))]
    · intro n x
      show L_X7_countShaken_5 gc gaps st (n + 1) (nI j) z x (nI (nS m + 1)) = some x
      rw [L_X7_countShaken_5, hst, if_pos (ylt_ (by omega) (by omega) (by omega))]
  · rw [if_neg (by simpa using c), if_neg c]
theorem ev_rshaken {m : Nat → Int} {all : Nat → Int32} (hg : WG m) (hw : WS m) (hA : rA m all) (ra x z : Int32) : F_X11_shaken ra all x z = some (qk_ m x z, 0) := by
  obtain ⟨hn, h5⟩ := nG_c hg
  obtain ⟨h11, h1, h2⟩ := nS_c hw
  obtain ⟨-, -, -, -, h10, -⟩ := id hw
  have hgc : all 0 = nI (nG m) := by rw [hA 0 (by decide), hn, iI_nI]
  have hst : all 11 = nI (nS m) := by rw [hA 11 (by decide), h11, iI_nI]
  obtain ⟨a, ha, rfl⟩ := iI_ex x
  unfold F_X11_shaken qk_
  rw [show (3 : Int32) = iI 3 from rfl, show F_X11_in (iI a) 0 (iI 3) = _ from ev_in ha (b := 0) (by omega) (by omega), bs_, ib_, iI_toInt ha]
  by_cases c : 0 ≤ a ∧ a ≤ 3
  · rw [if_pos (decide_eq_true c), if_pos c, iN c.1]
    have hj : a.toNat ≤ 3 := by omega
    generalize a.toNat = j at hj
    have h := lp_ct (P := fun v => sn_ m j z v) (N := nS m + 1) (fun n x k => L_X11_shaken_21 all n 0 (nI j) z x k) (fun y => some (y, 0)) ?_ ?_ (nS m) 1 fu_ 0 (by omega) (fu_lt (by omega))
    · rw [Nat.zero_add] at h
      exact h
    · intro n x k hk
      show L_X11_shaken_21 all (n + 1) 0 (nI j) z x (nI k) = _
      rw [L_X11_shaken_21, hst, if_neg (nlt_ (by omega) (by omega) (by omega))]
      have h2 := lp_ct (P := sg_ m j z k) (N := nG m) (fun n2 y i => L_X11_shaken_39 all (L_X11_shaken_21 all n) n2 0 (nI j) z x (nI k) y i) (fun y => J_X11_shaken_135 all (L_X11_shaken_21 all n) 0 (nI j) z x (nI k) y) ?_ ?_ (nG m) 0 fu_ 0 (by omega) (fu_lt (by omega))
      · rw [Nat.zero_add] at h2
        rw [show L_X11_shaken_39 all (L_X11_shaken_21 all n) fu_ 0 (nI j) z x (nI k) 0 0 = _ from h2]
        have h3 := ct_le (sg_ m j z k) (nG m) 0
        show J_X11_shaken_135 all (L_X11_shaken_21 all n) 0 (nI j) z x (nI k) (nI (ct_ (sg_ m j z k) 0 (nG m))) = _
        unfold J_X11_shaken_135 sn_
        rw [hA 10 (by decide), iI_nI (ct_ _ _ _), if_e (iI_lt (by omega) (by omega)), nI_s, Int32.add_zero]
        by_cases q : (ct_ (sg_ m j z k) 0 (nG m) : Int) < m 10
        · rw [if_pos q, if_neg (by simp; omega)]
        · rw [if_neg q, if_pos (by simp; omega)]
      · intro n2 y i hi
        have hb := hg.2.2.1 i (by omega)
        have hso := so_le m k (m (1 + i)) j
        show L_X11_shaken_39 all (L_X11_shaken_21 all n) (n2 + 1) 0 (nI j) z x (nI k) y (nI i) = _
        rw [L_X11_shaken_39, hgc, if_neg (nle_ (by omega) (by omega) hi), show (-nI j : Int32) = nI 0 - nI j by rw [iI_nI, iI_nI 0, iI_sub, iI_neg]; congr 1; omega]
        have h3 := lp_ct (P := fun i2 => !bl_ m k (m (1 + i) + ((i2 : Int) - j))) (N := 2 * j + 1) (fun n3 w i2 => L_X11_shaken_57 all (L_X11_shaken_21 all n) (L_X11_shaken_39 all (L_X11_shaken_21 all n) n2) n3 0 (nI j) z x (nI k) y (nI i) w (i2 - nI j)) (fun w => J_X11_shaken_97 all (L_X11_shaken_21 all n) (L_X11_shaken_39 all (L_X11_shaken_21 all n) n2) 0 (nI j) z x (nI k) y (nI i) w) ?_ ?_ (2 * j + 1) 0 fu_ 0 (by omega) (fu_lt (by omega))
        · rw [Nat.zero_add] at h3
          rw [show L_X11_shaken_57 all (L_X11_shaken_21 all n) (L_X11_shaken_39 all (L_X11_shaken_21 all n) n2) fu_ 0 (nI j) z x (nI k) y (nI i) 0 (nI 0 - nI j) = _ from h3]
          show J_X11_shaken_97 all (L_X11_shaken_21 all n) (L_X11_shaken_39 all (L_X11_shaken_21 all n) n2) 0 (nI j) z x (nI k) y (nI i) (nI (so_ m k (m (1 + i)) j)) = _
          unfold J_X11_shaken_97 sg_
          rw [show (2 : Int32) = nI 2 from rfl, pk_mul, nI_s, if_e (show (nI (so_ m k (m (1 + i)) j) = nI (2 * j + 1)) = (so_ m k (m (1 + i)) j = 2 * j + 1) by rw [iI_nI, iI_nI, iI_eq (by omega) (by omega)]; apply propext; omega), if_e (show (nI (so_ m k (m (1 + i)) j) ≤ 0) = (so_ m k (m (1 + i)) j ≤ 0) from nI_le2 (b := 0) (by omega) (by decide)), nI_s, Int32.add_zero]
          by_cases cz : z = 0
          · rw [if_pos cz, if_pos cz]
            by_cases q : so_ m k (m (1 + i)) j = 2 * j + 1
            · rw [if_pos q, if_pos (by simp; omega)]
            · rw [if_neg q, if_neg (by simp; omega)]
          · rw [if_neg cz, if_neg cz]
            by_cases q : so_ m k (m (1 + i)) j ≤ 0
            · rw [if_pos q, if_neg (by simp; omega)]
            · rw [if_neg q, if_pos (by simp; omega)]
        · intro n3 w i2 hi2
          show L_X11_shaken_57 all (L_X11_shaken_21 all n) (L_X11_shaken_39 all (L_X11_shaken_21 all n) n2) (n3 + 1) 0 (nI j) z x (nI k) y (nI i) w (nI i2 - nI j) = _
          have e1 : nI i2 - nI j = iI ((i2 : Int) - j) := by rw [iI_nI, iI_nI j, iI_sub]
          have e2 : iI ((i2 : Int) - j) + (1 : Int32) = nI (i2 + 1) - nI j := by
            rw [show (1 : Int32) = iI 1 from rfl, iI_add, iI_nI (i2 + 1), iI_nI j, iI_sub]
            congr 1
            omega
          rw [L_X11_shaken_57, e1]
          conv => lhs; rw [if_e (show (nI j < iI ((i2 : Int) - j)) = ((j : Int) < (i2 : Int) - j) by rw [iI_nI j, iI_lt (by omega) (by omega)]), if_neg (by omega), ev_gapAt hA (by omega), bs_, iI_add, iI_nI k, ev_isBlind hw hA (by omega) (by omega), bs_, ib_, ← iI_nI k, e2, Int32.add_zero]
          cases bl_ m k (m (1 + i) + ((i2 : Int) - j)) <;> rfl
        · intro n3 w
          show L_X11_shaken_57 all (L_X11_shaken_21 all n) (L_X11_shaken_39 all (L_X11_shaken_21 all n) n2) (n3 + 1) 0 (nI j) z x (nI k) y (nI i) w (nI (2 * j + 1) - nI j) = _
          rw [L_X11_shaken_57, if_pos (show nI j < nI (2 * j + 1) - nI j by rw [iI_nI j, iI_nI (2 * j + 1), iI_sub, iI_lt (by omega) (by omega)]; omega)]
      · intro n2 y
        show L_X11_shaken_39 all (L_X11_shaken_21 all n) (n2 + 1) 0 (nI j) z x (nI k) y (nI (nG m)) = _
        rw [L_X11_shaken_39, hgc, if_pos (yle_ (by omega) (by omega) (Nat.le_refl _))]
    · intro n x
      show L_X11_shaken_21 all (n + 1) 0 (nI j) z x (nI (nS m + 1)) = some (x, 0)
      rw [L_X11_shaken_21, hst, if_pos (ylt_ (by omega) (by omega) (by omega))]
  · rw [if_neg (by simpa using c), if_neg c]
/-! ===== END ===== -/
