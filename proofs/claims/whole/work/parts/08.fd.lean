/-! ===== BEGIN acts: gap ===== -/
theorem ev_addGap {m : Nat → Int} {gc : Int32} {gaps : Nat → Int32} (hg : WG m) (h5 : nG m < 5) (hG : cG m gc gaps) {g : Int} (hb : 4 ≤ g ∧ g ≤ 60) :
    ∃ g2, F_X5_addGap gc gaps (iI g) = some (nI (nG m + 1), g2) ∧ ∀ i, i ≤ nG m → g2 i = iI (ig_ m g (1 + i)) := by
  obtain ⟨hn, -⟩ := nG_c hg
  have hgc : gc = nI (nG m) := by rw [hG.1, hn, iI_nI]
  have fin : ∀ k (q : Nat → Int32), k ≤ nG m → ps_ m g (nG m) = k → (∀ i, i ≤ nG m → (k < i → q i = gaps (i - 1)) ∧ (i < k → q i = gaps i)) → ∃ g2, J_X5_addGap_50 (nI (nG m)) q (iI g) (nI k) = some (nI (nG m + 1), g2) ∧ ∀ i, i ≤ nG m → g2 i = iI (ig_ m g (1 + i)) := by
    intro k q hk hp hq
    unfold J_X5_addGap_50
    rw [gN_ (by omega) (by decide), nI_clamp (by omega), nI_s]
    refine ⟨_, rfl, fun i hi => ?_⟩
    rw [upd_at]
    by_cases c : i = k
    · have : ig_ m g (1 + ps_ m g (nG m)) = g := ig_b
      rw [hp] at this
      rw [if_pos c, c, this]
    · rw [if_neg c]
      rcases Nat.lt_or_ge i k with c2 | c2
      · rw [(hq i hi).2 c2, hG.2 i (by omega), ig_a (by omega)]
      · obtain ⟨j, rfl⟩ : ∃ j, i = j + 1 := ⟨i - 1, by omega⟩
        rw [(hq (j + 1) hi).1 (by omega), show j + 1 - 1 = j by omega, hG.2 j (by omega), ig_c (by omega) (by omega)]
  have main : ∀ k f (q : Nat → Int32), k ≤ nG m → k < f → ps_ m g (nG m) = ps_ m g k → (∀ i, i ≤ nG m → (k < i → q i = gaps (i - 1)) ∧ (i < k → q i = gaps i)) → ∃ g2, L_X5_addGap_14 f (nI (nG m)) q (iI g) (nI k) = some (nI (nG m + 1), g2) ∧ ∀ i, i ≤ nG m → g2 i = iI (ig_ m g (1 + i)) := by
    intro k
    induction k with
    | zero =>
      intro f q h1 h2 hp hq
      obtain ⟨f, rfl⟩ : ∃ k, f = k + 1 := ⟨f - 1, by omega⟩
      rw [L_X5_addGap_14, if_pos (show nI 0 ≤ 0 by decide)]
      exact fin 0 q h1 hp hq
    | succ k ih =>
      intro f q h1 h2 hp hq
      obtain ⟨f, rfl⟩ : ∃ k, f = k + 1 := ⟨f - 1, by omega⟩
      have hgk := hg.2.2.1 k (by omega)
      have qk : q k = iI (m (1 + k)) := by rw [(hq k (by omega)).2 (by omega), hG.2 k (by omega)]
      rw [L_X5_addGap_14, if_neg (show ¬ nI (k + 1) ≤ 0 from nle_ (b := 0) (by omega) (by decide) (by omega)), s1_ (by omega), show k + 1 - 1 = k by omega, gN_ (by omega) (by decide), nI_clamp (by omega), qk, if_e (iI_le (by omega) (by omega))]
      by_cases c : m (1 + k) ≤ g
      · have hpk : ps_ m g (nG m) = k + 1 := by rw [hp]; unfold ps_; rw [if_pos c]
        rw [if_pos c]
        exact fin (k + 1) q h1 hpk hq
      · have hpk : ps_ m g (nG m) = ps_ m g k := by
          rw [hp]
          show (if m (1 + k) ≤ g then _ else _) = _
          rw [if_neg c]
        rw [if_neg c, gN_ (by omega) (by decide), gN_ (by omega) (by decide), nI_clamp (by omega), m1_]
        refine ih f _ (by omega) (by omega) hpk (fun i hi => ⟨fun hik => ?_, fun hik => ?_⟩)
        · rw [upd_at]
          by_cases c1 : i = k + 1
          · rw [if_pos c1, c1, show k + 1 - 1 = k by omega, hG.2 k (by omega)]
          · rw [if_neg c1]
            exact (hq i hi).1 (by omega)
        · rw [upd_at, if_neg (by omega)]
          exact (hq i hi).2 (by omega)
  unfold F_X5_addGap
  rw [hgc, show (5 : Int32) = nI 5 from rfl, if_pos (ylt_ (by omega) (by omega) h5)]
  exact main (nG m) fu_ gaps (Nat.le_refl _) (fu_lt (by omega)) rfl (fun i hi => ⟨fun h => by omega, fun _ => rfl⟩)
/-- gap k goes -/
def rg_m (m : Nat → Int) (k : Nat) : Nat → Int := fun i => if i = 0 then m 0 - 1 else if 1 + k ≤ i ∧ i < nG m then m (i + 1) else m i
theorem rg_lo {m : Nat → Int} {k i : Nat} (h0 : i ≠ 0) (h : i < 1 + k ∨ nG m ≤ i) : rg_m m k i = m i := by
  unfold rg_m
  rw [if_neg h0, if_neg (by omega)]
theorem rg_hi {m : Nat → Int} {k i : Nat} (h : 1 + k ≤ i) (h2 : i < nG m) : rg_m m k i = m (i + 1) := by
  unfold rg_m
  rw [if_neg (by omega), if_pos ⟨h, h2⟩]
theorem WG_rg {m : Nat → Int} (hg : WG m) {k : Nat} (hk : k < nG m) : WG (rg_m m k) := by
  obtain ⟨hn, h5⟩ := nG_c hg
  have e0 : rg_m m k 0 = m 0 - 1 := rfl
  obtain ⟨a, b, c, d⟩ := hg
  refine ⟨by omega, by omega, fun i hi => ?_, fun i j hij hj => ?_⟩
  · by_cases q : 1 + k ≤ 1 + i
    · rw [rg_hi q (by omega)]
      exact c (i + 1) (by omega)
    · rw [rg_lo (by omega) (by omega)]
      exact c i (by omega)
  · by_cases q : 1 + k ≤ 1 + i
    · rw [rg_hi q (by omega), rg_hi (by omega) (by omega)]
      exact d (i + 1) (j + 1) (by omega) (by omega)
    · rw [rg_lo (by omega) (by omega)]
      by_cases q2 : 1 + k ≤ 1 + j
      · rw [rg_hi q2 (by omega)]
        exact d i (j + 1) (by omega) (by omega)
      · rw [rg_lo (by omega) (by omega)]
        exact d i j hij (by omega)
theorem ev_dropGap {m : Nat → Int} {gc : Int32} {gaps : Nat → Int32} (hg : WG m) (hG : cG m gc gaps) {k : Nat} (hk : k < nG m) :
    ∃ g2, F_X5_dropGap gc gaps (nI k) = some (nI (nG m - 1), g2) ∧ cG (rg_m m k) (nI (nG m - 1)) g2 := by
  obtain ⟨hn, h5⟩ := nG_c hg
  have hgc : gc = nI (nG m) := by rw [hG.1, hn, iI_nI]
  have main : ∀ d j n (r : Nat → Int32), j + d = nG m - 1 → d < n → k ≤ j → (∀ i, r i = if k ≤ i ∧ i < j then gaps (i + 1) else gaps i) →
      ∃ g2, L_X5_dropGap_21 n (nI (nG m - 1)) r (nI j) = some (nI (nG m - 1), g2) ∧ ∀ i, g2 i = if k ≤ i ∧ i < nG m - 1 then gaps (i + 1) else gaps i := by
    intro d
    induction d with
    | zero =>
      intro j n r a1 a2 ck a3
      obtain ⟨n, rfl⟩ : ∃ k, n = k + 1 := ⟨n - 1, by omega⟩
      have : j = nG m - 1 := by omega
      subst this
      rw [L_X5_dropGap_21, if_pos (yle_ (by omega) (by omega) (Nat.le_refl _))]
      exact ⟨_, rfl, a3⟩
    | succ d ih =>
      intro j n r a1 a2 ck a3
      obtain ⟨n, rfl⟩ : ∃ k, n = k + 1 := ⟨n - 1, by omega⟩
      rw [L_X5_dropGap_21, if_neg (nle_ (by omega) (by omega) (by omega)), nI_s, gN_ (by omega) (by decide), gN_ (by omega) (by decide), nI_clamp (by omega), nI_clamp (by omega)]
      refine ih (j + 1) n _ (by omega) (by omega) (by omega) (fun i => ?_)
      rw [upd_at]
      by_cases c : i = j
      · rw [if_pos c, if_pos (by omega), a3, if_neg (by omega), c]
      · rw [if_neg c, a3]
        by_cases c2 : k ≤ i ∧ i < j
        · rw [if_pos c2, if_pos (by omega)]
        · rw [if_neg c2, if_neg (by omega)]
  obtain ⟨g2, e, q⟩ := main (nG m - 1 - k) k fu_ gaps (by omega) (fu_lt (by omega)) (Nat.le_refl _) (fun i => by rw [if_neg (by omega)])
  have e0 : rg_m m k 0 = m 0 - 1 := rfl
  refine ⟨g2, ?_, ?_, fun i hi => ?_⟩
  · unfold F_X5_dropGap
    rw [iI_nI k, ev_hasGap hg hG.1 (by omega), bs_, ib_, if_pos (decide_eq_true (by omega)), ← iI_nI k, hgc, s1_ (by omega)]
    exact e
  · rw [e0, iI_nI]
    congr 1
    omega
  · rw [q]
    by_cases c : k ≤ i
    · rw [if_pos (by omega), rg_hi (by omega) (by omega), hG.2 (i + 1) (by omega)]
      rfl
    · rw [if_neg (by omega), rg_lo (by omega) (by omega), hG.2 i (by omega)]
theorem ev_gap71 {m : Nat → Int} {all : Nat → Int32} (hg : WG m) (hA : rA m all) {x : Int} {K : Nat} (hK : K < nG m) (hx : m (1 + K) = x) (ra u : Int32) (un : Nat → Int32) :
    ∀ d j n (r : Nat → Int32), j + d = nG m → d < n → (∀ i, r i = if 1 + K ≤ i ∧ i < j then all (i + 1) else all i) →
      ∃ r2, L_X11_gap_71 n ra u r un (iI x) (nI (if j ≤ K then j else j - 1)) (nI j) = some (r2 0, ra, u, r2, un) ∧ rA (rg_m m K) r2 ∧ ∀ i, 97 ≤ i → r2 i = all i := by
  obtain ⟨hn, h5⟩ := nG_c hg
  have hgc : all 0 = nI (nG m) := by rw [hA 0 (by decide), hn, iI_nI]
  intro d
  induction d with
  | zero =>
    intro j n r a1 a2 a3
    obtain ⟨n, rfl⟩ : ∃ k, n = k + 1 := ⟨n - 1, by omega⟩
    have : j = nG m := by omega
    subst this
    have e0 : r 0 = nI (nG m) := by rw [a3, if_neg (by omega), hgc]
    rw [L_X11_gap_71, e0, if_pos (yle_ (by omega) (by omega) (Nat.le_refl _))]
    refine ⟨_, rfl, fun i hi => ?_, fun i hi => ?_⟩
    · rw [upd_at, e0]
      by_cases c : i = 0
      · rw [if_pos c, c, s1_ (by omega), iI_nI, show rg_m m K 0 = m 0 - 1 from rfl]
        congr 1
        omega
      · rw [if_neg c, a3]
        by_cases c2 : 1 + K ≤ i ∧ i < nG m
        · rw [if_pos c2, rg_hi c2.1 c2.2, hA _ (by omega)]
        · rw [if_neg c2, rg_lo c (by omega), hA i hi]
    · rw [upd_at, if_neg (by omega), a3, if_neg (by omega)]
  | succ d ih =>
    intro j n r a1 a2 a3
    obtain ⟨n, rfl⟩ : ∃ k, n = k + 1 := ⟨n - 1, by omega⟩
    have e0 : r 0 = nI (nG m) := by rw [a3, if_neg (by omega), hgc]
    have rj : r (1 + j) = iI (m (1 + j)) := by rw [a3, if_neg (by omega), hA _ (by omega)]
    have ga : ∀ (f : Nat → Int32), f (1 + j) = iI (m (1 + j)) → F_X11_gapAt f (nI j) = some (iI (m (1 + j))) := by
      intro f hf
      unfold F_X11_gapAt
      rw [show (1 : Int32) + nI j = nI (1 + j) from nI_add 1 j, gN_ (by omega) (by decide), nI_clamp (by omega), hf]
    have bj := hg.2.2.1 j (by omega)
    have bk := hg.2.2.1 K (by omega)
    have hN : (if j ≤ K then j else j - 1) ≤ j := by split <;> omega
    rw [L_X11_gap_71, e0, if_neg (nle_ (by omega) (by omega) (by omega)), ga r rj, bs_, show (1 : Int32) + nI (if j ≤ K then j else j - 1) = nI (1 + (if j ≤ K then j else j - 1)) from nI_add 1 _, gN_ (by omega) (by decide), nI_clamp (by omega)]
    rw [ga _ (by
      rw [upd_at]
      by_cases c : 1 + j = 1 + (if j ≤ K then j else j - 1)
      · rw [if_pos c]
      · rw [if_neg c, rj]), bs_, if_e (iI_eq (by omega) (by omega))]
    have pr : ∀ i, upd r (1 + (if j ≤ K then j else j - 1)) (iI (m (1 + j))) i = if 1 + K ≤ i ∧ i < j + 1 then all (i + 1) else all i := by
      intro i
      rw [upd_at]
      by_cases c : j ≤ K
      · rw [if_pos c]
        by_cases c2 : i = 1 + j
        · rw [if_pos c2, if_neg (by omega), c2, hA _ (by omega)]
        · rw [if_neg c2, a3]
          by_cases c3 : 1 + K ≤ i ∧ i < j
          · rw [if_pos c3, if_pos (by omega)]
          · rw [if_neg c3, if_neg (by omega)]
      · rw [if_neg c]
        by_cases c2 : i = 1 + (j - 1)
        · rw [if_pos c2, if_pos (by omega), show i + 1 = 1 + j by omega, hA _ (by omega)]
        · rw [if_neg c2, a3]
          by_cases c3 : 1 + K ≤ i ∧ i < j
          · rw [if_pos c3, if_pos (by omega)]
          · rw [if_neg c3, if_neg (by omega)]
    by_cases c : j = K
    · rw [if_pos (by rw [c]; exact hx)]
      have := ih (j + 1) n _ (by omega) (by omega) pr
      rw [show (if j + 1 ≤ K then j + 1 else j + 1 - 1) = (if j ≤ K then j else j - 1) by rw [if_neg (by omega), if_pos (by omega)]; omega] at this
      rw [show nI (if j ≤ K then j else j - 1) + (0 : Int32) = nI (if j ≤ K then j else j - 1) from nI_add _ 0, nI_s]
      exact this
    · have hne : ¬ m (1 + j) = x := by
        rcases Nat.lt_or_gt_of_ne c with q | q
        · have := hg.2.2.2 j K q (by omega)
          omega
        · have := hg.2.2.2 K j q (by omega)
          omega
      rw [if_neg hne]
      have := ih (j + 1) n _ (by omega) (by omega) pr
      rw [show (if j + 1 ≤ K then j + 1 else j + 1 - 1) = (if j ≤ K then j else j - 1) + 1 by split <;> split <;> omega] at this
      rw [nI_s, nI_s]
      exact this
section ACV
variable {m : Nat → Int} {gc tc lc ti go : Int32} {gaps st sp ve sr lt lz ln : Nat → Int32} {o s u : Int32} {ring : Nat → RT_X5} {all un : Nat → Int32}
theorem ev_gap (hm : WM m) (h : cRd m gc tc lc ti go gaps st sp ve sr lt lz ln) (hA : rA m all) (hu : hU o s ring u un) (ra x : Int32) (z : Bool) :
    ∃ v gc2 gaps2 o2 s2 ring2 u2 all2 un2 m2, F_X10_gap gc tc lc ti go gaps st sp ve sr lt lz ln o s ring x (bI z) = some (v, gc2, gaps2, o2, s2, ring2) ∧ F_X11_gap ra u all un x (bI z) = some (v, 0, u2, all2, un2) ∧
      WM m2 ∧ cRd m2 gc2 tc lc ti go gaps2 st sp ve sr lt lz ln ∧ rA m2 all2 ∧ (∀ i, 97 ≤ i → all2 i = all i) ∧ hU o2 s2 ring2 u2 un2 := by
  have hm0 := hm
  have h0 := h
  obtain ⟨hg, hs, ht, hl⟩ := hm
  obtain ⟨c1, c2, c3, c4, c5, c6⟩ := h
  obtain ⟨n1, n2⟩ := nG_c hg
  have hgc : gc = nI (nG m) := by rw [c1.1, n1, iI_nI]
  have h00 : all 0 = nI (nG m) := by rw [hA 0 (by decide), n1, iI_nI]
  obtain ⟨a, ha, rfl⟩ := iI_ex x
  obtain ⟨K, q0, qK⟩ := ev_indexOfGap hg c1 ha
  have e2 : F_X11_in (iI a) (4 : Int32) (60 : Int32) = some (bI (decide (4 ≤ a ∧ a ≤ 60))) := ev_in (b := 4) (c := 60) ha (by omega) (by omega)
  have nil : ∀ {A B}, A = some ((-1 : Int32), gc, gaps, o, s, ring) → B = some ((-1 : Int32), (0 : Int32), u, all, un) → ∃ v gc2 gaps2 o2 s2 ring2 u2 all2 un2 m2, A = some (v, gc2, gaps2, o2, s2, ring2) ∧ B = some (v, (0 : Int32), u2, all2, un2) ∧
      WM m2 ∧ cRd m2 gc2 tc lc ti go gaps2 st sp ve sr lt lz ln ∧ rA m2 all2 ∧ (∀ i, 97 ≤ i → all2 i = all i) ∧ hU o2 s2 ring2 u2 un2 := fun e1 e2 => ⟨_, _, _, _, _, _, _, _, _, m, e1, e2, hm0, h0, hA, fun _ _ => rfl, hu⟩
  have nI1 : ∀ k, k < 5 → ¬ nI k = (-1 : Int32) := by decide
  have h1 : hg_ m a (nG m) = true → 4 ≤ a ∧ a ≤ 60 := fun hh => by
    obtain ⟨w1, w2⟩ := qK hh
    have := hg.2.2.1 K (by omega)
    omega
  unfold F_X10_gap F_X11_gap
  rw [q0, bs_, e2, bs_]
  cases z with
  | false =>
    rw [if_pos (show bI false = 0 from rfl), if_pos (show bI false = 0 from rfl), ev_isGap ha, bs_, ib_, ib_]
    by_cases c : 4 ≤ a ∧ a ≤ 60
    · rw [if_pos (decide_eq_true c), if_pos (decide_eq_true c), ev_hasGapR hg hA ha (by decide), bs_]
      by_cases ch : hg_ m a (nG m) = true
      · rw [if_pos ch, if_neg (nI1 K (by have := (qK ch).1; omega)), ch, if_neg (show ¬ bI true = bI false by decide)]
        exact nil rfl rfl
      · have chf : hg_ m a (nG m) = false := by simpa using ch
        rw [if_neg ch, if_pos rfl, chf, if_pos rfl]
        by_cases c5' : nG m < 5
        · obtain ⟨o2, s2, ring2, u2, un2, q1, q2, q3⟩ := ev_save hm0 h0 hA hu
          obtain ⟨g2, w1, w2⟩ := ev_addGap hg c5' c1 c
          obtain ⟨r2, w3, w4, w5⟩ := ev_putsGap (N := 500) hg c5' hA c (by decide)
          rw [if_pos (show gc < (5 : Int32) by rw [hgc]; exact ylt_ (b := 5) (by omega) (by omega) c5'), if_neg (show ¬ all 0 = (5 : Int32) by rw [h00, iI_nI, show (5 : Int32) = iI 5 from rfl, iI_eq (by omega) (by omega)]; omega)]
          unfold J_X11_gap_43
          rw [q1, q2, bs_, bs_, if_pos (show bI false = 0 from rfl), w1, w3, bs_, bs_]
          have ne : ∀ i, 6 ≤ i → ig_ m a i = m i := fun i hi => ig_hi hg c5' a hi
          have r0 : r2 0 = nI (nG m + 1) := by rw [w4 0 (by decide), ig_0, iI_nI, n1, Int.natCast_add]; rfl
          refine ⟨r2 0, _, _, _, _, _, _, _, _, ig_ m a, by rw [r0], rfl, ⟨WG_ig hg c5' c chf, WS_c (fun i a1 a2 => ne i (by omega)) hs, WT_c (fun i a1 a2 => ne i (by omega)) ht, WL_c (fun i a1 a2 a3 => ne i (by omega)) hl⟩, ⟨⟨?_, fun k hk => ?_⟩, cS_c (fun i a1 a2 => ne i (by omega)) c2, cT_c (fun i a1 a2 => ne i (by omega)) ht c3, cL_c (fun i a1 a2 => ne i (by omega)) hl c4, by rw [ne _ (by omega)]; exact c5, by rw [ne _ (by omega)]; exact c6⟩, w4, w5, q3⟩
          · rw [← r0, w4 0 (by decide)]
          · rw [ig_0] at hk
            exact w2 k (by omega)
        · have e5 : nG m = 5 := by omega
          rw [if_neg (show ¬ gc < (5 : Int32) by rw [hgc, e5]; decide), if_pos (show all 0 = (5 : Int32) by rw [h00, e5]; rfl)]
          exact nil rfl rfl
    · rw [if_neg (by rw [decide_eq_false c]; decide), if_neg (by rw [decide_eq_false c]; decide)]
      exact nil rfl rfl
  | true =>
    rw [if_neg (show ¬ bI true = 0 by decide), if_neg (show ¬ bI true = 0 by decide), ib_]
    by_cases ch : hg_ m a (nG m) = true
    · obtain ⟨w1, w2⟩ := qK ch
      have c := h1 ch
      obtain ⟨o2, s2, ring2, u2, un2, q1, q2, q3⟩ := ev_save hm0 h0 hA hu
      obtain ⟨g2, w3, w4⟩ := ev_dropGap hg c1 w1
      obtain ⟨r2, w5, w6, w7⟩ := ev_gap71 hg hA w1 w2 0 u2 un2 (nG m) 0 fu_ all (by omega) (fu_lt (by omega)) (fun i => by rw [if_neg (by omega)])
      rw [if_pos ch, if_neg (nI1 K (by omega)), if_pos (decide_eq_true c), ev_hasGapR hg hA ha (by decide), bs_, ch, if_pos rfl]
      unfold J_X11_gap_43
      rw [q1, q2, bs_, bs_, if_neg (show ¬ bI true = 0 by decide), w3, bs_]
      rw [if_pos (Nat.zero_le _)] at w5
      have ne : ∀ i, 6 ≤ i → rg_m m K i = m i := fun i hi => rg_lo (by omega) (by omega)
      have r0 : r2 0 = nI (nG m - 1) := by
        rw [w6 0 (by decide), show rg_m m K 0 = m 0 - 1 from rfl, iI_nI]
        congr 1
        omega
      refine ⟨r2 0, _, _, _, _, _, _, _, _, rg_m m K, by rw [r0], w5, ⟨WG_rg hg w1, WS_c (fun i a1 a2 => ne i (by omega)) hs, WT_c (fun i a1 a2 => ne i (by omega)) ht, WL_c (fun i a1 a2 a3 => ne i (by omega)) hl⟩, ⟨w4, cS_c (fun i a1 a2 => ne i (by omega)) c2, cT_c (fun i a1 a2 => ne i (by omega)) ht c3, cL_c (fun i a1 a2 => ne i (by omega)) hl c4, by rw [ne _ (by omega)]; exact c5, by rw [ne _ (by omega)]; exact c6⟩, w6, w7, q3⟩
    · have chf : hg_ m a (nG m) = false := by simpa using ch
      rw [if_neg ch, if_pos rfl]
      by_cases c : 4 ≤ a ∧ a ≤ 60
      · rw [if_pos (decide_eq_true c), ev_hasGapR hg hA ha (by decide), bs_, chf, if_neg (show ¬ bI false = bI true by decide)]
        exact nil rfl rfl
      · rw [if_neg (by rw [decide_eq_false c]; decide)]
        exact nil rfl rfl
end ACV
/-! ===== END ===== -/
