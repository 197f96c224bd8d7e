/-! ===== BEGIN dwell ===== -/
/-- dwell(seed, n, j, what) -/
def dS_ (m : Nat → Int) (x : Int32) (j : Nat) : Nat → Int := sT (nG m) (fun k => m (1 + k)) x j
def qw_ (m : Nat → Int) (x : Int32) (n j w : Int) : Int32 :=
  if (1 ≤ n ∧ n ≤ 64) ∧ (0 ≤ j ∧ j ≤ 3) ∧ 0 < nG m then
    (if w = 0 then iI (dS_ m x j.toNat (n.toNat - 1)) else if w = 1 then nI (sm_ (cN_ m (dS_ m x j.toNat) n.toNat) (nT m)) else if w = 2 then iI (n * nT m - sm_ (cN_ m (dS_ m x j.toNat) n.toNat) (nT m)) else if w = 3 then nI (sm_ (hN_ m (dS_ m x j.toNat) n.toNat) (nT m)) else if w = 4 then iI (mx_ (dS_ m x j.toNat) (n.toNat - 1)) else -1)
  else -1
theorem hN_le (m : Nat → Int) (S : Nat → Int) (N t : Nat) : hN_ m S N t ≤ N := ct_le _ _ _
theorem cN_le (m : Nat → Int) (S : Nat → Int) (N t : Nat) : cN_ m S N t ≤ N := ct_le _ _ _
theorem sb_N {f : Nat → Nat} {N T : Nat} (hN : N ≤ 64) (hT : T ≤ 8) (h : ∀ t, f t ≤ N) : sm_ f T ≤ 512 := by
  have h1 := sm_le (f := f) (b := N) (n := T) (fun k _ => h k)
  have h2 : T * N ≤ 8 * 64 := Nat.mul_le_mul hT hN
  omega
theorem ev_dwell {m : Nat → Int} {gc : Int32} {gaps st : Nat → Int32} {tc : Int32} {sp ve sr : Nat → Int32} (hg : WG m) (hw : WS m) (ht : WT m) (hG : cG m gc gaps) (hS : cS m st) (hT : cT m tc sp ve sr) (rs pu : Int32) (row se : Nat → Int32) (x : Int32) {n j w : Int} (hn1 : rg n) (hj1 : rg j) (hw1 : rg w) :
    ∃ a b c d, F_X10_dwell gc tc gaps st sp rs pu row se x (iI n) (iI j) (iI w) = some (qw_ m x n j w, a, b, c, d) := by
  obtain ⟨hn, h5⟩ := nG_c hg
  obtain ⟨hn2, h8⟩ := nT_c ht
  have hgc : gc = nI (nG m) := by rw [hG.1, hn, iI_nI]
  have htc : tc = nI (nT m) := by rw [hT.1, hn2, iI_nI]
  unfold F_X10_dwell qw_
  rw [show F_X10_isWithin (iI n) 1 64 = _ from ev_within hn1 (b := 1) (c := 64) (by omega) (by omega), bs_, ib_]
  by_cases c1 : 1 ≤ n ∧ n ≤ 64
  · rw [if_pos (decide_eq_true c1), show F_X10_isWithin (iI j) 0 3 = _ from ev_within hj1 (b := 0) (c := 3) (by omega) (by omega), bs_, ib_]
    by_cases c2 : 0 ≤ j ∧ j ≤ 3
    · rw [if_pos (decide_eq_true c2), if_e (show (gc = 0) = (nG m = 0) by rw [hgc, iI_nI, show (0 : Int32) = iI 0 from rfl, iI_eq (by omega) (by omega)]; apply propext; omega)]
      by_cases c3 : nG m = 0
      · rw [if_pos c3, if_neg (fun h => by omega)]
        exact ⟨_, _, _, _, rfl⟩
      · obtain ⟨N, rfl⟩ : ∃ N : Nat, n = (N : Int) := ⟨n.toNat, by omega⟩
        obtain ⟨J, rfl⟩ : ∃ J : Nat, j = (J : Int) := ⟨j.toNat, by omega⟩
        rw [if_neg c3, if_pos ⟨c1, c2, by omega⟩, Int.toNat_natCast, Int.toNat_natCast]
        have hgp : ∀ k, k < nG m → 4 ≤ m (1 + k) ∧ m (1 + k) ≤ 60 := fun k hk => hg.2.2.1 k (by omega)
        unfold F_X2_takeGaps
        rw [bs_]
        obtain ⟨s, e1, hs⟩ := ev_send (n := nG m) (G := fun k => m (1 + k)) (by omega) hgp x (j := J) (by omega) (row := va_cpy gaps row 0 0 5) (fun k hk => by rw [sb_cpy0 (by omega), hG.2 k (by omega)]) (N := N) (by omega) pu se
        have hst := fun i => sT_s (n := nG m) (G := fun k => m (1 + k)) (by omega) hgp x (j := J) (by omega) i
        have hsb := fun i => sT_b (n := nG m) (G := fun k => m (1 + k)) (by omega) hgp x (j := J) (by omega) i
        have hs1 : ∀ i, i < N → dS_ m x J i < dS_ m x J (i + 1) := fun i _ => by have := (hst i).1; show sT _ _ _ _ _ < sT _ _ _ _ _; omega
        have hs2 : ∀ i, i ≤ N → 0 ≤ dS_ m x J i ∧ dS_ m x J i ≤ 4032 := fun i hi => by have := hsb i; show 0 ≤ sT _ _ _ _ _ ∧ sT _ _ _ _ _ ≤ 4032; omega
        rw [hgc, ← iI_nI, ← iI_nI, e1, bs_]
        have hs : ∀ i, i ≤ N → s i = iI (dS_ m x J i) := hs
        have hcb := sb_N (N := N) (by omega) h8 (fun t => cN_le m (dS_ m x J) N t)
        have e0 : F_X2_lastSent (nI N) s = some (iI (dS_ m x J (N - 1))) := by
          unfold F_X2_lastSent
          rw [if_neg (show ¬ nI N ≤ 0 from nle_ (b := 0) (by omega) (by decide) (by omega)), show nI N - (1 : Int32) = nI (N - 1) by rw [iI_nI, show (1 : Int32) = iI 1 from rfl, iI_sub, iI_nI]; congr 1; omega, gN_ (by omega) (by decide), nI_clamp (by omega), hs _ (by omega)]
        obtain ⟨r, -, e3, er, -⟩ := ev_countHidden hw ht hS hT (N := N) (S := dS_ m x J) (by omega) rfl hs1 hs2 hs (E := 2147483647) (by omega)
        have hhb := sb_N (N := N) (by omega) h8 (fun t => hN_le m (dS_ m x J) N t)
        rw [er (by omega)] at e3
        rw [show (2147483647 : Int32) = nI 2147483647 from rfl, e0, bs_, ev_countClear ht hT (by omega) hs2 hs, bs_, bs_, e3, bs_, ev_longestGap (by omega) hs2 hs, bs_, htc, pk_mul, iI_nI (N * nT m), iI_nI (sm_ _ _), iI_sub, ← iI_nI (sm_ _ _), if_e (show (iI w = 0) = (w = 0) from iI_eq (b := 0) hw1 (by omega)), if_e (show (iI w = 1) = (w = 1) from iI_eq (b := 1) hw1 (by omega)), if_e (show (iI w = 2) = (w = 2) from iI_eq (b := 2) hw1 (by omega)), if_e (show (iI w = 3) = (w = 3) from iI_eq (b := 3) hw1 (by omega)), if_e (show (iI w = 4) = (w = 4) from iI_eq (b := 4) hw1 (by omega))]
        refine ⟨nI (nG m), nI N, va_cpy gaps row 0 0 5, s, ?_⟩
        by_cases w0 : w = 0
        · rw [if_pos w0, if_pos w0]
        · rw [if_neg w0, if_neg w0]
          by_cases w1 : w = 1
          · rw [if_pos w1, if_pos w1]
          · rw [if_neg w1, if_neg w1]
            by_cases w2 : w = 2
            · rw [if_pos w2, if_pos w2, Int.natCast_mul]
            · rw [if_neg w2, if_neg w2]
              by_cases w3 : w = 3
              · rw [if_pos w3, if_pos w3]
              · rw [if_neg w3, if_neg w3]
                by_cases w4 : w = 4
                · rw [if_pos w4, if_pos w4]
                · rw [if_neg w4, if_neg w4]
    · rw [if_neg (by simpa using c2), if_neg (fun h => c2 h.2.1)]
      exact ⟨_, _, _, _, rfl⟩
  · rw [if_neg (by simpa using c1), if_neg (fun h => c1 h.1)]
    exact ⟨_, _, _, _, rfl⟩
theorem ev_inOrder {m : Nat → Int} {all : Nat → Int32} (hg : WG m) (hA : rA m all) (f : Nat → Int32) : ∃ o, F_X11_inOrder all f = some o ∧ ∀ k, k < nG m → o k = nI k := by
  obtain ⟨hn, h5⟩ := nG_c hg
  have hgc : all 0 = nI (nG m) := by rw [hA 0 (by decide), hn, iI_nI]
  have main : ∀ d k n (o : Nat → Int32), k + d = nG m → d < n → (∀ i, i < k → o i = nI i) → ∃ o2, L_X11_inOrder_2 all n o (nI k) = some o2 ∧ ∀ k, k < nG m → o2 k = nI k := by
    intro d
    induction d with
    | zero =>
      intro k n o e hlt ho
      obtain ⟨n, rfl⟩ : ∃ k, n = k + 1 := ⟨n - 1, by omega⟩
      refine ⟨o, ?_, fun k hk => ho k (by omega)⟩
      rw [L_X11_inOrder_2, hgc, if_pos (yle_ (by omega) (by omega) (by omega))]
    | succ d ih =>
      intro k n o e hlt ho
      obtain ⟨n, rfl⟩ : ∃ k, n = k + 1 := ⟨n - 1, by omega⟩
      rw [L_X11_inOrder_2, hgc, if_neg (nle_ (by omega) (by omega) (by omega)), gN_ (by omega) (by decide), nI_clamp (by omega), nI_s]
      refine ih (k + 1) n _ (by omega) (by omega) (fun i hi => ?_)
      rw [upd_at]
      by_cases c : i = k
      · rw [if_pos c, c]
      · rw [if_neg c]; exact ho i (by omega)
  exact main (nG m) 0 fu_ f (by omega) (fu_lt (by omega)) (fun i hi => absurd hi (Nat.not_lt_zero i))
theorem hp_3 (m : Nat → Int) (S : Nat → Int) (N T : Nat) : sm_ (fun i => ct_ (hp_ m S N 3 i) 0 T) N = sm_ (hN_ m S N) T := (sm_w (fun t i => hx_ S (wd_ m) (S i + rn_ m t) N) T N).symm
theorem hp_1 (m : Nat → Int) (S : Nat → Int) (N T : Nat) : sm_ (fun i => ct_ (hp_ m S N 1 i) 0 T) N = sm_ (cN_ m S N) T := (sm_w (fun t i => decide (S i + rn_ m t < S (i + 1))) T N).symm
theorem hp_2 (m : Nat → Int) (S : Nat → Int) (N T : Nat) : sm_ (fun i => ct_ (hp_ m S N 2 i) 0 T) N + sm_ (cN_ m S N) T = N * T := by
  rw [← hp_1]
  exact sm_nt (fun i t => decide (S i + rn_ m t < S (i + 1))) T N
theorem ev_rdwell {m : Nat → Int} {all : Nat → Int32} (hg : WG m) (hw : WS m) (ht : WT m) (hA : rA m all) (ra tx : Int32) (se ord : Nat → Int32) (x : Int32) {n j w : Int} (hn1 : rg n) (hj1 : rg j) (hw1 : rg w) :
    ∃ a b c, F_X11_dwell ra tx all se ord x (iI n) (iI j) (iI w) = some (qw_ m x n j w, 0, a, b, c) := by
  obtain ⟨hn, h5⟩ := nG_c hg
  obtain ⟨hn2, h8⟩ := nT_c ht
  have hgc : all 0 = nI (nG m) := by rw [hA 0 (by decide), hn, iI_nI]
  unfold F_X11_dwell qw_
  rw [show F_X11_in (iI n) 1 64 = _ from ev_in hn1 (b := 1) (c := 64) (by omega) (by omega), bs_, ib_]
  by_cases c1 : 1 ≤ n ∧ n ≤ 64
  · rw [if_pos (decide_eq_true c1), show F_X11_in (iI j) 0 3 = _ from ev_in hj1 (b := 0) (c := 3) (by omega) (by omega), bs_, ib_]
    by_cases c2 : 0 ≤ j ∧ j ≤ 3
    · rw [if_pos (decide_eq_true c2), show F_X11_in (iI w) 0 4 = _ from ev_in hw1 (b := 0) (c := 4) (by omega) (by omega), bs_, ib_, if_e (show (all 0 = 0) = (nG m = 0) by rw [hgc, iI_nI, show (0 : Int32) = iI 0 from rfl, iI_eq (by omega) (by omega)]; apply propext; omega)]
      by_cases c4 : 0 ≤ w ∧ w ≤ 4
      · rw [if_pos (decide_eq_true c4)]
        by_cases c3 : nG m = 0
        · rw [if_pos c3, if_neg (fun h => by omega)]
          exact ⟨_, _, _, rfl⟩
        · obtain ⟨N, rfl⟩ : ∃ N : Nat, n = (N : Int) := ⟨n.toNat, by omega⟩
          obtain ⟨J, rfl⟩ : ∃ J : Nat, j = (J : Int) := ⟨j.toNat, by omega⟩
          obtain ⟨W, rfl⟩ : ∃ W : Nat, w = (W : Int) := ⟨w.toNat, by omega⟩
          rw [if_neg c3, if_pos ⟨c1, c2, by omega⟩, Int.toNat_natCast, Int.toNat_natCast]
          have hgp : ∀ k, k < nG m → 4 ≤ m (1 + k) ∧ m (1 + k) ≤ 60 := fun k hk => hg.2.2.1 k (by omega)
          obtain ⟨o, eo, ho⟩ := ev_inOrder hg hA ord
          rw [eo, bs_, ← iI_nI, ← iI_nI, ← iI_nI]
          obtain ⟨y, s, e1, hs⟩ := ev_sends hg hA (by omega) (od := fun k => k) (fun k hk => hk) x (j := J) (by omega) ho (N := N) (by omega) tx se
          have hsb := fun i => sT_b (n := nG m) (G := fun k => m (1 + k)) (by omega) hgp x (j := J) (by omega) i
          have hs2 : ∀ i, i ≤ N → 0 ≤ dS_ m x J i ∧ dS_ m x J i ≤ 4032 := fun i hi => by have := hsb i; show 0 ≤ sT _ _ _ _ _ ∧ sT _ _ _ _ _ ≤ 4032; omega
          have hs : ∀ i, i ≤ N → s i = iI (dS_ m x J i) := hs
          rw [e1, bs_]
          refine ⟨y, s, o, ?_⟩
          have e0 : nI N - (1 : Int32) = nI (N - 1) := by rw [iI_nI, show (1 : Int32) = iI 1 from rfl, iI_sub, iI_nI]; congr 1; omega
          have lp : ∀ w : Int32, L_X11_dwell_76 all fu_ 0 y s o (nI N) w 0 1 = J_X11_dwell_112 all 0 y s o (nI N) w (iI (mx_ (dS_ m x J) (N - 1))) := by
            intro w
            refine lp_S (fun f k => L_X11_dwell_76 all f 0 y s o (nI N) w (iI (mx_ (dS_ m x J) k)) (nI (k + 1))) (N - 1) _ ?_ ?_ (N - 1) 0 fu_ (by omega) (fu_lt (by omega))
            · intro f k h
              have h1 := hs2 k (by omega)
              have h2 := hs2 (k + 1) (by omega)
              have h3 := mx_b hs2 k (by omega)
              show L_X11_dwell_76 all (f + 1) 0 y s o (nI N) w (iI (mx_ (dS_ m x J) k)) (nI (k + 1)) = L_X11_dwell_76 all f 0 y s o (nI N) w (iI (mx_ (dS_ m x J) (k + 1))) (nI (k + 1 + 1))
              rw [L_X11_dwell_76, if_neg (nle_ (by omega) (by omega) (by omega)), gN_ (by omega) (by decide), show nI (k + 1) - (1 : Int32) = nI k by rw [iI_nI, show (1 : Int32) = iI 1 from rfl, iI_sub, iI_nI]; congr 1; omega, gN_ (by omega) (by decide), nI_clamp (by omega), nI_clamp (by omega), hs k (by omega), hs (k + 1) (by omega), iI_sub, nI_s]
              have eg : F_X11_greater (iI (mx_ (dS_ m x J) k)) (iI (dS_ m x J (k + 1) - dS_ m x J k)) = some (iI (mx_ (dS_ m x J) (k + 1))) := by
                unfold F_X11_greater
                rw [if_e (iI_le (by omega) (by omega))]
                conv => rhs; unfold mx_
                by_cases q : mx_ (dS_ m x J) k ≤ dS_ m x J (k + 1) - dS_ m x J k
                · rw [if_pos q, if_pos q]
                · rw [if_neg q, if_neg q]
              rw [eg, bs_]
            · intro f
              show L_X11_dwell_76 all (f + 1) 0 y s o (nI N) w (iI (mx_ (dS_ m x J) (N - 1))) (nI (N - 1 + 1)) = _
              rw [L_X11_dwell_76, if_pos (yle_ (by omega) (by omega) (by omega))]
          rw [e0, gN_ (by omega) (by decide), nI_clamp (by omega)]
          dsimp only
          rw [hs (N - 1) (by omega), lp]
          unfold J_X11_dwell_112
          have h4 : W ≤ 4 := by omega
          match W, h4 with
          | 0, _ => rfl
          | 1, _ =>
            rw [if_neg (by decide), if_neg (by decide), ev_heard hw ht hA (by omega) hs2 hs (Or.inl rfl), hp_1]
            rfl
          | 2, _ =>
            rw [if_neg (by decide), if_neg (by decide), ev_heard hw ht hA (by omega) hs2 hs (Or.inr (Or.inl rfl))]
            have h2 := hp_2 m (dS_ m x J) N (nT m)
            show some (nI _, (0 : Int32), y, s, o) = some (iI ((N : Int) * (nT m : Int) - _), 0, y, s, o)
            rw [iI_nI, ← Int.natCast_mul, ← h2, Int.natCast_add]
            congr 3
            omega
          | 3, _ =>
            rw [if_neg (by decide), if_neg (by decide), ev_heard hw ht hA (by omega) hs2 hs (Or.inr (Or.inr rfl)), hp_3]
            rfl
          | 4, _ => rfl
          | W + 5, h => exact absurd h (by omega)
      · rw [if_neg (by simpa using c4)]
        refine ⟨tx, se, ord, ?_⟩
        by_cases c5 : (1 ≤ n ∧ n ≤ 64) ∧ (0 ≤ j ∧ j ≤ 3) ∧ 0 < nG m
        · rw [if_pos c5, if_neg (show ¬ w = 0 by omega), if_neg (show ¬ w = 1 by omega), if_neg (show ¬ w = 2 by omega), if_neg (show ¬ w = 3 by omega), if_neg (show ¬ w = 4 by omega)]
        · rw [if_neg c5]
    · rw [if_neg (by simpa using c2), if_neg (fun h => c2 h.2.1)]
      exact ⟨_, _, _, rfl⟩
  · rw [if_neg (by simpa using c1), if_neg (fun h => c1 h.1)]
    exact ⟨_, _, _, rfl⟩
/-! ===== END ===== -/
