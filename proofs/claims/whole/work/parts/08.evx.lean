/-! ===== BEGIN until(target, most), both ===== -/
theorem ev_findsAfter {m : Nat → Int} {gc : Int32} {gaps st : Nat → Int32} {tc : Int32} {sp ve sr : Nat → Int32} (hg : WG m) (hw : WS m) (ht : WT m) (hG : cG m gc gaps) (hS : cS m st) (hT : cT m tc sp ve sr) {τ : Int} (hτ : 0 ≤ τ ∧ τ ≤ 1000) {t : Nat} (h : t < nT m) :
    F_X5_findsAfter gc tc gaps st sp ve sr (nI t) (iI τ) = some (bI (uf_ m t τ)) := by
  obtain ⟨hn, h5⟩ := nG_c hg
  obtain ⟨h9, h1, h2⟩ := nL_c hw
  obtain ⟨-, -, -, -, h10, -, h12⟩ := id hw
  have hb := ns_b hτ (WT_w ht) h
  have hgc : gc = nI (nG m) := by rw [hG.1, hn, iI_nI]
  unfold F_X5_findsAfter uf_
  rw [ev_spotAfter (WT_h ht) hT h, bs_, show (0 : Int32) = iI 0 from rfl, show (47999 : Int32) = iI 47999 from rfl, ev_within (by omega) (by omega) (by omega), bs_, show iI 0 = (0 : Int32) from rfl, ib_]
  by_cases c : ok_ (ns_ τ m t) = true
  · have cb : 0 ≤ ns_ τ m t ∧ ns_ τ m t ≤ 47999 := of_decide_eq_true c
    have ed : iI (ns_ τ m t) / (16 : Int32) = iI (ns_ τ m t / 16) := iI_quo (a := ns_ τ m t) (b := 16) (by omega) (by omega) (by omega) (by omega)
    rw [if_pos (show decide (0 ≤ ns_ τ m t ∧ ns_ τ m t ≤ 47999) = true from c), c, ed, show st 3 = iI (m 9) from hS 3 (by decide), if_e (iI_lt (by omega) (by omega)), Bool.true_and]
    by_cases c2 : ns_ τ m t / 16 < m 9
    · rw [if_pos c2, decide_eq_true c2, Bool.true_and]
      have hq := lp_ct (P := fun k => decide (m 12 ≤ la_ m τ (m (1 + k)) (pl_ m (ns_ τ m t / 16) k))) (N := nG m) (fun n x k => L_X5_findsAfter_38 gc tc gaps st sp ve sr n (iI τ) (iI (ns_ τ m t)) x k) (fun x => J_X5_findsAfter_96 gc tc gaps st sp ve sr x) ?_ ?_ (nG m) 0 fu_ 0 (by omega) (fu_lt (by omega))
      · rw [Nat.zero_add] at hq
        have hc := ct_le (fun k => decide (m 12 ≤ la_ m τ (m (1 + k)) (pl_ m (ns_ τ m t / 16) k))) (nG m) 0
        refine Eq.trans hq ?_
        unfold J_X5_findsAfter_96
        rw [show st 4 = iI (m 10) from hS 4 (by decide), iI_nI (ct_ _ _ _), if_e (iI_lt (by omega) (by omega))]
        by_cases c3 : (ct_ (fun k => decide (m 12 ≤ la_ m τ (m (1 + k)) (pl_ m (ns_ τ m t / 16) k))) 0 (nG m) : Int) < m 10
        · rw [if_pos c3, decide_eq_false (by omega)]; rfl
        · rw [if_neg c3, decide_eq_true (by omega)]; rfl
      · intro n x k hk
        have hbk := hg.2.2.1 k (by omega)
        obtain ⟨e1, e2, e3⟩ := pl_c hg (x := ns_ τ m t / 16) hk
        have hla := la_b ht τ (m (1 + k)) (pl_ m (ns_ τ m t / 16) k)
        show L_X5_findsAfter_38 gc tc gaps st sp ve sr (n + 1) (iI τ) (iI (ns_ τ m t)) x (nI k) = _
        rw [L_X5_findsAfter_38, if_neg (show ¬ gc ≤ nI k by rw [hgc]; exact nle_ (by omega) (by omega) hk), gN_ (by omega) (by decide), nI_clamp (by omega), ed, hG.2 k (by omega), ev_rest (by omega) (by omega) (by omega) (by omega), bs_, gN_ (by omega) (by decide), e1, ← iI_nI (pl_ _ _ _), ev_loudAfter hw ht hS hT hτ (by omega) e3, bs_, show st 6 = iI (m 12) from hS 6 (by decide), if_e (iI_lt (by omega) (by omega)), nI_s]
        by_cases c4 : la_ m τ (m (1 + k)) (pl_ m (ns_ τ m t / 16) k) < m 12
        · rw [if_pos c4, if_neg (show ¬ decide (m 12 ≤ la_ m τ (m (1 + k)) (pl_ m (ns_ τ m t / 16) k)) = true by rw [decide_eq_false (by omega)]; decide)]
        · rw [if_neg c4, if_pos (show decide (m 12 ≤ la_ m τ (m (1 + k)) (pl_ m (ns_ τ m t / 16) k)) = true from decide_eq_true (by omega))]
      · intro n x
        show L_X5_findsAfter_38 gc tc gaps st sp ve sr (n + 1) (iI τ) (iI (ns_ τ m t)) x (nI (nG m)) = _
        rw [L_X5_findsAfter_38, if_pos (show gc ≤ nI (nG m) by rw [hgc]; exact yle_ (by omega) (by omega) (Nat.le_refl _))]
    · rw [if_neg c2, decide_eq_false c2]; rfl
  · rw [if_neg (show ¬ decide (0 ≤ ns_ τ m t ∧ ns_ τ m t ≤ 47999) = true from c)]
    have c : ok_ (ns_ τ m t) = false := by simpa using c
    rw [c]; rfl
/-- until(target, most) -/
def qu_ (m : Nat → Int) (x y : Int) : Int32 := if (0 ≤ x ∧ x < m 13) ∧ 0 ≤ y ∧ y ≤ 200 then kt_ (fun τ => uf_ m x.toNat τ) 0 (y.toNat + 1) 0 else -1
theorem ev_until {m : Nat → Int} {gc : Int32} {gaps st : Nat → Int32} {tc : Int32} {sp ve sr : Nat → Int32} (hg : WG m) (hw : WS m) (ht : WT m) (hG : cG m gc gaps) (hS : cS m st) (hT : cT m tc sp ve sr) {x y : Int} (hx : rg x) (hy : rg y) :
    F_X10_until gc tc gaps st sp ve sr (iI x) (iI y) = some (qu_ m x y) := by
  obtain ⟨hn, h8⟩ := nT_c ht
  unfold F_X10_until qu_
  rw [ev_hasTarget ht hT.1 hx, bs_, ib_, show (0 : Int32) = iI 0 from rfl, show (200 : Int32) = iI 200 from rfl, ev_within hy (by omega) (by omega), bs_, show iI 0 = (0 : Int32) from rfl, ib_]
  by_cases c1 : 0 ≤ x ∧ x < m 13
  · rw [if_pos (decide_eq_true c1)]
    by_cases c2 : 0 ≤ y ∧ y ≤ 200
    · rw [if_pos (decide_eq_true c2), if_pos ⟨c1, c2⟩]
      obtain ⟨t, rfl⟩ : ∃ t : Nat, x = t := ⟨x.toNat, by omega⟩
      obtain ⟨M, rfl⟩ : ∃ t : Nat, y = t := ⟨y.toNat, by omega⟩
      rw [Int.toNat_natCast, Int.toNat_natCast, ← iI_nI, ← iI_nI]
      have main : ∀ d k n, k + d = M + 1 → d < n → L_X10_until_26 gc tc gaps st sp ve sr n (nI t) (nI M) (nI k) = some (kt_ (fun τ => uf_ m t τ) k d 0) := by
        intro d
        induction d with
        | zero =>
          intro k n a1 a2
          obtain ⟨n, rfl⟩ : ∃ k, n = k + 1 := ⟨n - 1, by omega⟩
          rw [L_X10_until_26, if_pos (show nI M < nI k by rw [nI_lt2 (by omega) (by omega)]; omega)]
          rfl
        | succ d ih =>
          intro k n a1 a2
          obtain ⟨n, rfl⟩ : ∃ k, n = k + 1 := ⟨n - 1, by omega⟩
          rw [L_X10_until_26, if_neg (show ¬ nI M < nI k by rw [nI_lt2 (by omega) (by omega)]; omega), iI_nI k, ev_findsAfter hg hw ht hG hS hT (by omega) (by omega), bs_, ib_, ← iI_nI, nI_s, ih (k + 1) n (by omega) (by omega)]
          conv => rhs; unfold kt_
          by_cases c : uf_ m t k = true
          · rw [if_pos c, if_pos c, if_pos rfl]
          · rw [if_neg c, if_neg c]
      exact main (M + 1) 0 fu_ (by omega) (fu_lt (by omega))
    · rw [if_neg (by rw [decide_eq_false c2]; decide), if_neg (fun h => c2 h.2)]
  · rw [if_neg (by rw [decide_eq_false c1]; decide), if_neg (fun h => c1 h.1)]
theorem ev_goesOnBy {m : Nat → Int} {all : Nat → Int32} (ht : WT m) (hA : rA m all) {τ : Int} (hτ : 0 ≤ τ ∧ τ ≤ 1000) {t : Nat} (h : t < nT m) :
    ∃ r, F_X11_goesOnBy all (nI t) (iI τ) = some (if ok_ (ns_ τ m t) = true then nI (t - oc_ τ m t) else -1, r) ∧ rA (mv_ τ (nT m) m) r ∧ ∀ i, 97 ≤ i → r i = all i := by
  obtain ⟨hn, h8⟩ := nT_c ht
  have e0 : ∀ k, k < nT m → F_X11_of all (nI k) (0 : Int32) = some (iI (m (14 + 3 * k))) := by
    intro k hk
    rw [show (0 : Int32) = nI 0 from rfl, ev_of hA (by omega) (by decide), Nat.add_zero]
  have e1 : ∀ k, k < nT m → F_X11_of all (nI k) (1 : Int32) = some (iI (m (15 + 3 * k))) := by
    intro k hk
    rw [show (1 : Int32) = nI 1 from rfl, ev_of hA (by omega) (by decide), show 14 + 3 * k + 1 = 15 + 3 * k by omega]
  have ein : ∀ k, k < nT m → F_X11_in (iI (m (14 + 3 * k)) + iI τ * iI (m (15 + 3 * k))) (0 : Int32) (47999 : Int32) = some (bI (ok_ (ns_ τ m k))) := by
    intro k hk
    have hb := ns_b hτ (WT_w ht) hk
    rw [iI_mul, iI_add, show (0 : Int32) = iI 0 from rfl, show (47999 : Int32) = iI 47999 from rfl, show m (14 + 3 * k) + τ * m (15 + 3 * k) = ns_ τ m k from rfl, ev_in (show rg (ns_ τ m k) by omega) (by omega) (by omega)]
    rfl
  obtain ⟨r, em, q1, q2⟩ := ev_moves hτ (nT m) fu_ m all 0 (WT_h ht) (Nat.le_refl _) (WT_w ht) hA (fu_lt (by omega))
  have emv : F_X11_moves all (iI τ) = some (nI (0 + (nT m - nT (mv_ τ (nT m) m))), r) := by
    unfold F_X11_moves
    rw [hA 13 (by decide), hn, show (1 : Int32) = iI 1 from rfl, iI_sub]
    exact em
  refine ⟨r, ?_, q1, q2⟩
  have main : ∀ d k n, k + d = t → d < n → L_X11_goesOnBy_5 n all (nI t) (iI τ) (nI (t - oc_ τ m k)) (nI k) = some (if ok_ (ns_ τ m t) = true then nI (t - oc_ τ m t) else -1, r) := by
    intro d
    induction d with
    | zero =>
      intro k n a1 a2
      obtain ⟨n, rfl⟩ : ∃ k, n = k + 1 := ⟨n - 1, by omega⟩
      have : k = t := by omega
      subst this
      rw [L_X11_goesOnBy_5, if_pos (yle_ (by omega) (by omega) (Nat.le_refl _))]
      unfold J_X11_goesOnBy_51
      rw [e0 _ h, bs_, e1 _ h, bs_, ein _ h, bs_, emv, bs_, ib_]
      by_cases c : ok_ (ns_ τ m k) = true
      · rw [if_pos c, if_pos c]
      · rw [if_neg c, if_neg c]
    | succ d ih =>
      intro k n a1 a2
      obtain ⟨n, rfl⟩ : ∃ k, n = k + 1 := ⟨n - 1, by omega⟩
      have hoc := oc_le τ m k
      have ih2 := ih (k + 1) n (by omega) (by omega)
      rw [L_X11_goesOnBy_5, if_neg (nle_ (by omega) (by omega) (by omega)), e0 _ (by omega), bs_, e1 _ (by omega), bs_, ein _ (by omega), bs_, ib_, nI_s]
      rw [oc_s] at ih2
      by_cases c : ok_ (ns_ τ m k) = true
      · rw [if_pos c, show nI (t - oc_ τ m k) - (0 : Int32) = nI (t - oc_ τ m k) from Int32.sub_zero _]
        rw [if_pos c, Nat.add_zero] at ih2
        exact ih2
      · rw [if_neg c, s1_ (by omega)]
        rw [if_neg c, show t - (oc_ τ m k + 1) = t - oc_ τ m k - 1 by omega] at ih2
        exact ih2
  exact main t 0 fu_ (by omega) (fu_lt (by omega))
theorem lo13 {m w : Nat → Int} (h : ∀ i, i < 13 → w i = m i) : (WG m → WG w) ∧ (WS m → WS w) ∧ nG w = nG m := by
  refine ⟨fun hg => ?_, fun hw => ?_, ?_⟩
  · obtain ⟨a, b, c, d⟩ := hg
    refine ⟨by rw [h 0 (by decide)]; exact a, by rw [h 0 (by decide)]; exact b, fun k hk => ?_, fun i j h1 h2 => ?_⟩
    · rw [h 0 (by decide)] at hk
      rw [h (1 + k) (by omega)]
      exact c k hk
    · rw [h 0 (by decide)] at h2
      rw [h (1 + i) (by omega), h (1 + j) (by omega)]
      exact d i j h1 h2
  · unfold WS
    rw [h 6 (by decide), h 7 (by decide), h 8 (by decide), h 9 (by decide), h 10 (by decide), h 11 (by decide), h 12 (by decide)]
    exact hw
  · unfold nG
    rw [h 0 (by decide)]
theorem ev_runtil {m : Nat → Int} {all : Nat → Int32} (hg : WG m) (hw : WS m) (ht : WT m) (hA : rA m all) (ra : Int32) (f : Nat → Int32) {x y : Int} (hx : rg x) (hy : rg y) :
    ∃ a2 g, F_X11_until ra all f (iI x) (iI y) = some (qu_ m x y, 0, a2, g) ∧ ∀ i, i < 400 → a2 i = all i := by
  obtain ⟨hn, h8⟩ := nT_c ht
  unfold F_X11_until qu_
  rw [ev_isTarget ht hA hx, bs_, ib_, show (0 : Int32) = iI 0 from rfl, show (200 : Int32) = iI 200 from rfl, ev_in hy (by omega) (by omega), bs_, show iI 0 = (0 : Int32) from rfl, ib_]
  by_cases c1 : 0 ≤ x ∧ x < m 13
  · rw [if_pos (decide_eq_true c1)]
    by_cases c2 : 0 ≤ y ∧ y ≤ 200
    · rw [if_pos (decide_eq_true c2), if_pos ⟨c1, c2⟩]
      obtain ⟨t, rfl⟩ : ∃ t : Nat, x = t := ⟨x.toNat, by omega⟩
      obtain ⟨M, rfl⟩ : ∃ t : Nat, y = t := ⟨y.toNat, by omega⟩
      rw [Int.toNat_natCast, Int.toNat_natCast, ← iI_nI, ← iI_nI, show (4 : Int32) = nI 4 from rfl, show F_X11_copies all (0 : Int32) (nI 4) = F_X11_copies all (nI 0) (nI 4) from rfl, ev_copies (by decide) (by decide) (by decide), bs_]
      have hA2 : ∀ i, cp_ 0 4 100 all i = if 400 ≤ i ∧ i < 500 then all (i - 400) else all i := by
        intro i
        unfold cp_
        by_cases h : 400 ≤ i ∧ i < 500
        · rw [if_pos h, if_pos h]; exact congrArg all (by omega)
        · rw [if_neg h, if_neg h]
      generalize cp_ 0 4 100 all = B at hA2
      have hB : rA m B := fun k hk => by rw [hA2, if_neg (by omega), hA k hk]
      have hback : ∀ r : Nat → Int32, (∀ i, 97 ≤ i → r i = B i) → cp_ 4 0 100 r = B := by
        intro r hr
        funext i
        unfold cp_
        by_cases h : 100 * 0 ≤ i ∧ i < 100 * 0 + 100
        · rw [if_pos h, hr _ (by omega), hA2, hA2, if_pos (by omega), if_neg (by omega)]
          exact congrArg all (by omega)
        · rw [if_neg h, hr _ (by omega)]
      have main : ∀ d k n (ld : Nat → Int32), k + d = M + 1 → d + 1 < n → ∃ g, L_X11_until_37 n 0 B ld (nI t) (nI M) (-1) (nI k) = some (kt_ (fun τ => uf_ m t τ) k d 0, 0, B, g) := by
        intro d
        induction d with
        | zero =>
          intro k n ld a1 a2
          obtain ⟨n, rfl⟩ : ∃ k, n = k + 1 := ⟨n - 1, by omega⟩
          rw [L_X11_until_37, if_pos (show nI M < nI k by rw [nI_lt2 (by omega) (by omega)]; omega)]
          exact ⟨_, rfl⟩
        | succ d ih =>
          intro k n ld a1 a2
          obtain ⟨n, rfl⟩ : ∃ k, n = k + 1 := ⟨n - 1, by omega⟩
          have htn : t < nT m := by omega
          obtain ⟨r, eg, q1, q2⟩ := ev_goesOnBy ht hB (τ := (k : Int)) (by omega) htn
          obtain ⟨g8, gw⟩ := mv_g (m := m) (τ := (k : Int)) (WT_h ht) (Nat.le_refl (nT m)) (WT_w ht)
          have ht2 := w_WT g8 gw
          have lo := lo13 (m := m) (w := mv_ (k : Int) (nT m) m) (fun i hi => mv_lo hi)
          have hg2 := lo.1 hg
          have hw2 := lo.2.1 hw
          have nxt : ∀ (l2 : Nat → Int32) (s : Int32), J_X11_until_86 (L_X11_until_37 n) 0 r l2 (nI t) (nI M) (nI k) s = L_X11_until_37 n 0 B l2 (nI t) (nI M) s (nI (k + 1)) := by
            intro l2 s
            unfold J_X11_until_86
            rw [show (4 : Int32) = nI 4 from rfl, show F_X11_copies r (nI 4) (0 : Int32) = F_X11_copies r (nI 4) (nI 0) from rfl, ev_copies (by decide) (by decide) (by decide), bs_, hback r q2, nI_s]
          have fin : ∀ (l2 : Nat → Int32), L_X11_until_37 n 0 B l2 (nI t) (nI M) (nI k) (nI (k + 1)) = some (nI k, 0, B, l2) := by
            intro l2
            obtain ⟨n, rfl⟩ : ∃ k, n = k + 1 := ⟨n - 1, by omega⟩
            rw [L_X11_until_37, if_neg (show ¬ nI k = -1 by rw [iI_nI, show (-1 : Int32) = iI (-1) from rfl, iI_eq (by omega) (by omega)]; omega)]
            split <;> rfl
          conv => rhs; unfold kt_
          rw [L_X11_until_37, if_neg (show ¬ nI M < nI k by rw [nI_lt2 (by omega) (by omega)]; omega), if_pos rfl, iI_nI k, eg, bs_]
          dsimp only
          rw [ev_laysLoud hg2 hw2 ht2 q1, bs_, ← iI_nI]
          by_cases c : ok_ (ns_ k m t) = true
          · have cb : 0 ≤ ns_ k m t ∧ ns_ k m t ≤ 47999 := of_decide_eq_true c
            obtain ⟨p1, p2, p3⟩ := mv_p (τ := (k : Int)) (nT m) m t (WT_h ht) (Nat.le_refl _) htn
            obtain ⟨p4, p5⟩ := p3 htn c
            have er : rn_ (mv_ (k : Int) (nT m) m) (t - oc_ k m t) = ns_ k m t / 16 := by
              unfold rn_
              rw [p4]
            rw [if_pos c, if_neg (show ¬ nI (t - oc_ k m t) = -1 by rw [iI_nI, show (-1 : Int32) = iI (-1) from rfl, iI_eq (by omega) (by omega)]; omega), ev_rrangeOf ht2 q1 p5, bs_, er, ev_isFound hg2 hw2 ht2 q1 (tL_ll _ _) (by omega), bs_, ib_]
            unfold J_X11_until_85
            rw [nxt, nxt, fin]
            have eu : (decide (ns_ k m t / 16 < mv_ (k : Int) (nT m) m 9) && fo_ (mv_ (k : Int) (nT m) m) false (ns_ k m t / 16)) = uf_ m t k := by
              unfold uf_ fo_ hb_
              rw [mv_lo (by decide), mv_lo (by decide), c, Bool.true_and, Bool.false_and, Bool.not_false, Bool.and_true, lo.2.2, pc_bt (nG_c hg).2]
              congr 3
              congr 1
              refine ct_cong (fun j _ hj => ?_)
              unfold eo_ pl_
              rw [mv_lo (by decide), mv_lo (show 1 + j < 13 by have := (nG_c hg).2; omega), la_lo ht]
            rw [eu]
            by_cases cu : uf_ m t k = true
            · rw [if_pos cu, if_pos cu, if_pos rfl]
              exact ⟨_, rfl⟩
            · rw [if_neg cu, if_neg cu]
              exact ih (k + 1) n _ (by omega) (by omega)
          · rw [if_neg c, if_pos rfl]
            unfold J_X11_until_85
            rw [nxt]
            have cu : ¬ uf_ m t k = true := by
              unfold uf_
              have c : ok_ (ns_ k m t) = false := by simpa using c
              rw [c, Bool.false_and]
              decide
            rw [if_neg cu]
            exact ih (k + 1) n _ (by omega) (by omega)
      obtain ⟨g, e⟩ := main (M + 1) 0 fu_ f (by omega) (fu_lt (by omega))
      exact ⟨B, g, e, fun i hi => by rw [hA2, if_neg (by omega)]⟩
    · rw [if_neg (by rw [decide_eq_false c2]; decide), if_neg (fun h => c2 h.2)]
      exact ⟨_, _, rfl, fun i _ => rfl⟩
  · rw [if_neg (by rw [decide_eq_false c1]; decide), if_neg (fun h => c1 h.1)]
    exact ⟨_, _, rfl, fun i _ => rfl⟩
/-! ===== END ===== -/
