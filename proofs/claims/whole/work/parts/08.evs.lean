/-! ===== BEGIN more(ghosts), the class ===== -/
theorem ct_z {P : Nat → Bool} : ∀ {d a : Nat}, (∀ k, a ≤ k → k < a + d → P k = false) → ct_ P a d = 0
  | 0, _, _ => rfl
  | d + 1, a, h => by
    unfold ct_
    rw [h a (by omega) (by omega), if_neg (by decide), ct_z (fun k h1 h2 => h k (by omega) (by omega))]
/-- numbers on one place by a gap, counted step by step -/
theorem ct_st {P : Nat → Bool} {g p N k : Nat} (hg : 0 < g) (hk : k % g = p) (hN : k < N) : ct_ (fun i => P i && decide (i % g = p)) k (N - k) = (if P k then 1 else 0) + ct_ (fun i => P i && decide (i % g = p)) (k + g) (N - (k + g)) := by
  have hz : ∀ d, d < g → ct_ (fun i => P i && decide (i % g = p)) (k + 1) d = 0 := by
    intro d hd
    refine ct_z (fun i h1 h2 => ?_)
    have : ¬ i % g = p := by
      intro h
      have h6 := Nat.sub_mod_eq_zero_of_mod_eq (m := i) (n := k) (k := g) (by omega)
      rw [Nat.mod_eq_of_lt (show i - k < g by omega)] at h6
      omega
    show (P i && decide (i % g = p)) = false
    rw [decide_eq_false this, Bool.and_false]
  have e1 : (if (P k && decide (k % g = p)) = true then 1 else (0 : Nat)) = if P k then 1 else 0 := by
    rw [decide_eq_true hk, Bool.and_true]
  by_cases c : N - k < g
  · rw [show N - k = (N - k - 1) + 1 by omega]
    show (if (P k && decide (k % g = p)) = true then 1 else 0) + ct_ _ (k + 1) (N - k - 1) = _
    rw [hz _ (by omega), e1, show N - (k + g) = 0 by omega]
    rfl
  · rw [show N - k = 1 + (g - 1) + (N - (k + g)) by omega, ct_sp, ct_sp, show k + (1 + (g - 1)) = k + g by omega, hz _ (by omega)]
    show (if (P k && decide (k % g = p)) = true then 1 else 0) + 0 + 0 + _ = _
    rw [e1]
    omega
theorem ct_s0 {P : Nat → Bool} {g p N : Nat} (hp : p < g) : ct_ (fun i => P i && decide (i % g = p)) p (N - p) = ct_ (fun i => P i && decide (i % g = p)) 0 N := by
  have hz : ∀ d, d ≤ p → ct_ (fun i => P i && decide (i % g = p)) 0 d = 0 := by
    intro d hd
    refine ct_z (fun i h1 h2 => ?_)
    have : ¬ i % g = p := by
      rw [Nat.mod_eq_of_lt (by omega)]
      omega
    show (P i && decide (i % g = p)) = false
    rw [decide_eq_false this, Bool.and_false]
  by_cases c : p ≤ N
  · conv => rhs; rw [show N = p + (N - p) by omega, ct_sp, hz p (Nat.le_refl _), Nat.zero_add, Nat.zero_add]
  · rw [show N - p = 0 by omega, hz N (by omega)]
    rfl
theorem ev_isNearGhost {m : Nat → Int} {st hB : Nat → Int32} {tc : Int32} {sp ve sr : Nat → Int32} (hg : WG m) (hw : WS m) (ht : WT m) (hS : cS m st) (hT : cT m tc sp ve sr) (hH : tH m hB) {i : Nat} (hi : i < nL m) :
    F_X3_isNearGhost hB tc st sp (nI i) = some (bI (ng_ m i)) := by
  obtain ⟨h9, h1, h2⟩ := nL_c hw
  obtain ⟨-, -, -, -, h10, -⟩ := id hw
  have hp := pc_le (hb_ m i)
  unfold F_X3_isNearGhost ng_
  rw [gN_ (by omega) (by decide), nI_clamp (by omega), hH i hi, ev_bitCount _ (hb_32 hg _), bs_, show st 4 = iI (m 10) from hS 4 (by decide), iI_nI (pc_ _), show (1 : Int32) = iI 1 from rfl, iI_add, if_e (iI_eq (by omega) (by omega))]
  by_cases c : (pc_ (hb_ m i) : Int) + 1 = m 10
  · rw [if_pos c, decide_eq_true c, iI_nI i, ev_isRange ht hT (by omega), bs_, ib_]
    cases ir_ m (i : Int) <;> rfl
  · rw [if_neg c, decide_eq_false c]; rfl
theorem ev_isEchoX {m : Nat → Int} {st ld : Nat → Int32} (hw : WS m) (hS : cS m st) {k p : Nat} (hk : k < 5) (hp : p < 60) {L : Int} (hL : ld (60 * k + p) = iI L) (hb : 0 ≤ L ∧ L ≤ 10000) : F_X3_isEcho ld st (nI k) (nI p) = some (bI (decide (m 12 ≤ L))) := by
  obtain ⟨-, -, -, -, -, -, h12⟩ := id hw
  unfold F_X3_isEcho
  rw [show (60 : Int32) = nI 60 from rfl, pk_mul, nI_add, Nat.mul_comm k 60, gd_ok (in_N (by omega) (by decide)), nI_clamp (by omega), hL, show st 6 = iI (m 12) from hS 6 (by decide), if_e (iI_lt (by omega) (by omega))]
  by_cases c : L < m 12
  · rw [if_pos c, decide_eq_false (by omega)]; rfl
  · rw [if_neg c, decide_eq_true (by omega)]; rfl
/-- further ghosts by the places below p -/
def fg_ (m : Nat → Int) (g p : Nat) : Nat := ct_ (fun i => (ng_ m i && ey_ m i g) && decide (i % g < p)) 0 (nL m)
theorem fg_s {m : Nat → Int} {g p : Nat} (hp : p < g) : fg_ m g (p + 1) = fg_ m g p + if decide (m 12 ≤ lo_ m g p (nT m)) = true then ct_ (fun i => ng_ m i && decide (i % g = p)) 0 (nL m) else 0 := by
  have hey : ∀ i : Nat, i % g = p → ey_ m i g = decide (m 12 ≤ lo_ m g p (nT m)) := by
    intro i hi
    unfold ey_
    rw [← Int.natCast_emod, Int.toNat_natCast, hi]
  unfold fg_
  by_cases c : decide (m 12 ≤ lo_ m g p (nT m)) = true
  · rw [if_pos c]
    refine (ct_ad _ _ (fun i _ _ => ?_)).symm
    by_cases h1 : i % g = p
    · rw [hey i h1, c, decide_eq_false (show ¬ i % g < p by omega), decide_eq_true h1, decide_eq_true (show i % g < p + 1 by omega)]
      cases ng_ m i <;> rfl
    · rw [decide_eq_false h1, Bool.and_false]
      have : decide (i % g < p) = decide (i % g < p + 1) := by
        by_cases h2 : i % g < p
        · rw [decide_eq_true h2, decide_eq_true (show i % g < p + 1 by omega)]
        · rw [decide_eq_false h2, decide_eq_false (show ¬ i % g < p + 1 by omega)]
      rw [this]
      rfl
  · rw [if_neg c, Nat.add_zero]
    refine ct_cong (fun i _ _ => ?_)
    have c : decide (m 12 ≤ lo_ m g p (nT m)) = false := by simpa using c
    by_cases h1 : i % g = p
    · rw [hey i h1, c, Bool.and_false, Bool.false_and, Bool.false_and]
    · have : decide (i % g < p) = decide (i % g < p + 1) := by
        by_cases h2 : i % g < p
        · rw [decide_eq_true h2, decide_eq_true (show i % g < p + 1 by omega)]
        · rw [decide_eq_false h2, decide_eq_false (show ¬ i % g < p + 1 by omega)]
      rw [this]
theorem fg_e {m : Nat → Int} {g : Nat} (hg : 0 < g) : fg_ m g g = wG_ m g := by
  unfold fg_ wG_
  refine ct_cong (fun i _ _ => ?_)
  rw [decide_eq_true (Nat.mod_lt _ hg), Bool.and_true]
theorem ev_countFurtherGhosts {m : Nat → Int} {st ld hB : Nat → Int32} {tc : Int32} {sp ve sr : Nat → Int32} (hg : WG m) (hw : WS m) (ht : WT m) (hS : cS m st) (hT : cT m tc sp ve sr) (hH : tH m hB) {r : Nat} (hr : r < 5) {g : Nat} (hgb : 4 ≤ g ∧ g ≤ 60) (hL : ∀ p, p < g → ld (60 * r + p) = iI (lo_ m g p (nT m))) :
    F_X3_countFurtherGhosts ld hB (nI r) tc st sp (nI g) = some (nI (wG_ m g)) := by
  obtain ⟨h9, h1, h2⟩ := nL_c hw
  obtain ⟨-, h8⟩ := nT_c ht
  have hst : st 3 = nI (nL m) := by rw [show st 3 = iI (m 9) from hS 3 (by decide), h9, iI_nI]
  have inner : ∀ (K : Int32 → Int32 → Int32 → Int32 → Int32 → Option Int32) (p : Nat), p < g → ∀ d k f c, nL m ≤ k + d → k < nL m + 60 → d < f → k % g = p →
      L_X3_countFurtherGhosts_39 ld hB (nI r) tc st sp K f (nI g) (nI r) (nI g) (nI c) (nI p) (nI k) = K (nI g) (nI r) (nI g) (nI (c + ct_ (fun i => ng_ m i && decide (i % g = p)) k (nL m - k))) (nI (p + 1)) := by
    intro K p hp d
    induction d with
    | zero =>
      intro k f c a1 a2 a3 a4
      obtain ⟨f, rfl⟩ : ∃ k, f = k + 1 := ⟨f - 1, by omega⟩
      rw [L_X3_countFurtherGhosts_39, hst, if_pos (yle_ (by omega) (by omega) (by omega)), nI_s, show nL m - k = 0 by omega]
      rfl
    | succ d ih =>
      intro k f c a1 a2 a3 a4
      obtain ⟨f, rfl⟩ : ∃ k, f = k + 1 := ⟨f - 1, by omega⟩
      by_cases ck : k < nL m
      · rw [L_X3_countFurtherGhosts_39, hst, if_neg (nle_ (by omega) (by omega) ck), ev_isNearGhost hg hw ht hS hT hH ck, bs_, ib_, nI_add, nI_s, ih (k + g) f (c + 1) (by omega) (by omega) (by omega) (by rw [Nat.add_mod_right]; exact a4), ih (k + g) f c (by omega) (by omega) (by omega) (by rw [Nat.add_mod_right]; exact a4), ct_st (P := fun i => ng_ m i) (by omega) a4 ck]
        by_cases cn : ng_ m k = true
        · rw [if_pos cn, if_pos cn]
          congr 2
          omega
        · rw [if_neg cn, if_neg cn]
          congr 2
          omega
      · rw [L_X3_countFurtherGhosts_39, hst, if_pos (yle_ (by omega) (by omega) (by omega)), nI_s, show nL m - k = 0 by omega]
        rfl
  unfold F_X3_countFurtherGhosts
  rw [show (4 : Int32) = nI 4 from rfl, if_neg (show ¬ nI g < nI 4 by rw [nI_lt2 (by omega) (by omega)]; omega)]
  have h := lp_S (fun n p => L_X3_countFurtherGhosts_18 ld hB (nI r) tc st sp n (nI g) (nI r) (nI g) (nI (fg_ m g p)) (nI p)) g (some (nI (wG_ m g))) ?_ ?_ g 0 fu_ (by omega) (fu_lt (by omega))
  · have e : fg_ m g 0 = 0 := by
      unfold fg_
      refine ct_z (fun i _ _ => ?_)
      show ((ng_ m i && ey_ m i g) && decide (i % g < 0)) = false
      rw [decide_eq_false (by omega), Bool.and_false]
    simp only [e] at h
    exact h
  · intro n p hp
    have hlo := lo_b ht (g : Int) p (nT m) (Nat.le_refl _)
    show L_X3_countFurtherGhosts_18 ld hB (nI r) tc st sp (n + 1) (nI g) (nI r) (nI g) (nI (fg_ m g p)) (nI p) = L_X3_countFurtherGhosts_18 ld hB (nI r) tc st sp n (nI g) (nI r) (nI g) (nI (fg_ m g (p + 1))) (nI (p + 1))
    rw [L_X3_countFurtherGhosts_18, if_neg (nle_ (by omega) (by omega) hp), ev_isEchoX hw hS hr (by omega) (hL p hp) (by omega), bs_, ib_, fg_s hp]
    by_cases c : decide (m 12 ≤ lo_ m g p (nT m)) = true
    · rw [if_pos c, if_pos c, inner _ p hp (nL m) p fu_ _ (by omega) (by omega) (fu_lt (by omega)) (Nat.mod_eq_of_lt hp), ct_s0 hp]
    · rw [if_neg c, if_neg c, nI_s, Nat.add_zero (fg_ m g p)]
  · intro n
    show L_X3_countFurtherGhosts_18 ld hB (nI r) tc st sp (n + 1) (nI g) (nI r) (nI g) (nI (fg_ m g g)) (nI g) = _
    rw [L_X3_countFurtherGhosts_18, if_pos (yle_ (by omega) (by omega) (Nat.le_refl _)), fg_e (by omega)]
theorem ev_weighGhosts {m : Nat → Int} {gc : Int32} {gaps st ld : Nat → Int32} {tc : Int32} {sp ve sr : Nat → Int32} (hg : WG m) (hw : WS m) (ht : WT m) (hG : cG m gc gaps) (hS : cS m st) (hT : cT m tc sp ve sr) (hL : tL m ld) (h4 : nG m < 5) (w0 tg hB : Nat → Int32) :
    ∃ w a b c, F_X0_weighGhosts w0 gc tc gaps st sp ve sr tg ld hB = some (w, a, b, c) ∧ ∀ g : Nat, 4 ≤ g → g ≤ 60 → w g = nI (wG_ m g) := by
  obtain ⟨hn, h5⟩ := nG_c hg
  have hgc : gc = nI (nG m) := by rw [hG.1, hn, iI_nI]
  unfold F_X0_weighGhosts
  rw [ev_markHits hg hw ht hG hS hL, bs_]
  have hH := tH_mh hw hB
  generalize (fun i => if i < 1000 then mh_ m (nG m) 0 i else hB i) = hb2 at hH
  have main : ∀ d g f (w tg ld : Nat → Int32), g + d = 61 → d < f → 4 ≤ g → (∀ j : Nat, 4 ≤ j → j < g → w j = nI (wG_ m j)) →
      ∃ w2 a b c, L_X0_weighGhosts_7 gc tc gaps st sp ve sr f w tg ld hb2 (nI g) = some (w2, a, b, c) ∧ ∀ j : Nat, 4 ≤ j → j ≤ 60 → w2 j = nI (wG_ m j) := by
    intro d
    induction d with
    | zero =>
      intro g f w tg ld a1 a2 a3 hi
      obtain ⟨f, rfl⟩ : ∃ k, f = k + 1 := ⟨f - 1, by omega⟩
      have : g = 61 := by omega
      subst this
      refine ⟨w, tg, ld, hb2, ?_, fun j b1 b2 => hi j b1 (by omega)⟩
      rw [L_X0_weighGhosts_7, if_pos (show (60 : Int32) < nI 61 by decide)]
    | succ d ih =>
      intro g f w tg ld a1 a2 a3 hi
      obtain ⟨f, rfl⟩ : ∃ k, f = k + 1 := ⟨f - 1, by omega⟩
      rw [L_X0_weighGhosts_7, show (60 : Int32) = nI 60 from rfl, if_neg (show ¬ nI 60 < nI g by rw [nI_lt2 (by omega) (by omega)]; omega), hgc, iI_nI g, ev_listenBy hw ht hS hT _ _ h4 (by omega), ← iI_nI, bs_]
      dsimp only
      rw [ev_countFurtherGhosts hg hw ht hS hT hH h4 (by omega) (fun p hp => by unfold rwL; rw [if_pos (by omega), show 60 * nG m + p - 60 * nG m = p by omega]), bs_, gN_ (by omega) (by decide), nI_clamp (by omega), nI_s, ← hgc]
      refine ih (g + 1) f _ _ _ (by omega) (by omega) (by omega) (fun j b1 b2 => ?_)
      rw [upd_at]
      by_cases c : j = g
      · rw [if_pos c, c]
      · rw [if_neg c, hi j b1 (by omega)]
  exact main 57 4 fu_ w0 tg ld (by omega) (fu_lt (by decide)) (by omega) (fun j b1 b2 => by omega)
theorem bo_n {P : Nat → Bool} {W : Nat → Int} {i : Nat} (hi : i ≤ 57) : (bo_ (bg_ P W i) = -1) = (bg_ P W i = none) := by
  cases h : bg_ P W i with
  | none => simp [bo_]
  | some b =>
    have hb := bg_b h
    have : ¬ nI b = -1 := by
      rw [iI_nI, show (-1 : Int32) = iI (-1) from rfl, iI_eq (by omega) (by omega)]
      omega
    simp [bo_, this]
theorem ev_bestGap {m : Nat → Int} {gc : Int32} {gaps w : Nat → Int32} {W : Nat → Int} (hg : WG m) (hG : cG m gc gaps) (hw : ∀ g : Nat, 4 ≤ g → g ≤ 60 → w g = iI (W g)) (hb : ∀ g, -2000 ≤ W g ∧ W g ≤ 2000) :
    F_X0_bestGap w gc gaps = some (bo_ (bg_ (fun g => hg_ m g (nG m)) W 57)) := by
  refine lp_S (fun n i => L_X0_bestGap_4 w gc gaps n (bo_ (bg_ (fun g => hg_ m g (nG m)) W i)) (nI (4 + i))) 57 _ ?_ ?_ 57 0 fu_ (by omega) (fu_lt (by decide))
  · intro n i hi
    show L_X0_bestGap_4 w gc gaps (n + 1) (bo_ (bg_ (fun g => hg_ m g (nG m)) W i)) (nI (4 + i)) = L_X0_bestGap_4 w gc gaps n (bo_ (bg_ (fun g => hg_ m g (nG m)) W (i + 1))) (nI (4 + (i + 1)))
    obtain ⟨j, e, hj⟩ := ev_indexOfGap hg hG (x := ((4 + i : Nat) : Int)) (by omega)
    obtain ⟨hn, h5⟩ := nG_c hg
    rw [L_X0_bestGap_4, show (60 : Int32) = nI 60 from rfl, if_neg (show ¬ nI 60 < nI (4 + i) by rw [nI_lt2 (by omega) (by omega)]; omega), iI_nI (4 + i), e, ← iI_nI, bs_, nI_s, show 4 + i + 1 = 4 + (i + 1) by omega]
    conv => rhs; unfold bg_
    by_cases c : hg_ m ((4 + i : Nat) : Int) (nG m) = true
    · have hj := hj c
      rw [if_pos c, if_pos c, if_neg (show ¬ nI j = -1 by rw [iI_nI, show (-1 : Int32) = iI (-1) from rfl, iI_eq (by omega) (by omega)]; omega)]
    · rw [if_neg c, if_pos rfl, if_neg c, if_e (bo_n (by omega))]
      cases h : bg_ (fun g => hg_ m g (nG m)) W i with
      | none => rw [if_pos rfl]; rfl
      | some b =>
        have hbb := bg_b h
        have q1 := hb b
        have q2 := hb (4 + i)
        rw [if_neg (by simp)]
        show gd_ (in_b (nI (4 + i)) 61) (gd_ (in_b (nI b) 61) _) = _
        rw [gN_ (by omega) (by decide), gN_ (by omega) (by decide), show bo_ (some b) = nI b from rfl, nI_clamp (by omega), nI_clamp (by omega), hw b (by omega) (by omega), hw (4 + i) (by omega) (by omega), if_e (iI_le (by omega) (by omega))]
        dsimp only
        by_cases c2 : W b ≤ W (4 + i)
        · rw [if_pos c2, if_pos c2]; rfl
        · rw [if_neg c2, if_neg c2]; rfl
  · intro n
    show L_X0_bestGap_4 w gc gaps (n + 1) _ (nI (4 + 57)) = _
    rw [L_X0_bestGap_4, if_pos (show (60 : Int32) < nI (4 + 57) by decide)]
theorem wD_b {m : Nat → Int} (hw : WS m) (g : Int) : wD_ m g ≤ 200 := Nat.le_trans (ct_le _ _ _) (nS_c hw).2.2
theorem wG_b {m : Nat → Int} (hw : WS m) (g : Int) : wG_ m g ≤ 1000 := Nat.le_trans (ct_le _ _ _) (nL_c hw).2.2
theorem mW_b {m : Nat → Int} (hw : WS m) (z : Int32) (g : Nat) : -2000 ≤ mW_ m z g ∧ mW_ m z g ≤ 2000 := by
  have h1 := wD_b hw (g : Int)
  have h2 := wG_b hw (g : Int)
  unfold mW_
  split <;> omega
theorem ev_more {m : Nat → Int} {gc : Int32} {gaps st : Nat → Int32} {tc : Int32} {sp ve sr : Nat → Int32} (hg : WG m) (hw : WS m) (ht : WT m) (hG : cG m gc gaps) (hS : cS m st) (hT : cT m tc sp ve sr) (f1 f2 f3 f4 : Nat → Int32) (z : Int32) :
    ∃ g1 g2 g3 g4, F_X10_more gc tc gaps st sp ve sr f1 f2 f3 f4 z = some (qe_ m z, g1, g2, g3, g4) := by
  obtain ⟨hn, h5⟩ := nG_c hg
  have hgc : gc = nI (nG m) := by rw [hG.1, hn, iI_nI]
  unfold F_X10_more qe_
  rw [hgc, show (5 : Int32) = nI 5 from rfl, if_e (nI_lt2 (by omega) (by omega))]
  by_cases c : nG m < 5
  · rw [if_pos c, if_neg (show ¬ nG m = 5 by omega), ← hgc]
    by_cases cz : z = 0
    · obtain ⟨w, e, hw2⟩ := ev_weighDark hg hw hG hS f4
      rw [if_pos cz, e, bs_]
      unfold J_X10_more_57
      rw [ev_bestGap (W := mW_ m z) hg hG (fun g a1 a2 => by rw [hw2 g a1 a2]; unfold mW_; rw [if_pos cz]) (mW_b hw z), bs_]
      exact ⟨_, _, _, _, rfl⟩
    · obtain ⟨w, a, b, d, e, hw2⟩ := ev_weighGhosts hg hw ht hG hS hT (tL_ls m f2) c f4 (lsT m (nG m) f1) f3
      rw [if_neg cz, ev_listen hg hw ht hG hS hT, bs_]
      dsimp only
      rw [e, bs_]
      unfold J_X10_more_57
      dsimp only
      rw [ev_bestGap (W := mW_ m z) hg hG (fun g a1 a2 => by rw [hw2 g a1 a2, iI_nI]; unfold mW_; rw [if_neg cz]) (mW_b hw z), bs_]
      exact ⟨_, _, _, _, rfl⟩
  · rw [if_neg c, if_pos (show nG m = 5 by omega)]
    exact ⟨_, _, _, _, rfl⟩
/-! ===== END ===== -/
