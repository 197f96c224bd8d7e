/-! ===== BEGIN pairs ===== -/
def pr_ (m : Nat → Int) : Nat → Nat
  | 0 => 1
  | k + 1 => pr_ m k * eg_ m k
theorem eg_b {m : Nat → Int} (hg : WG m) {k : Nat} (hk : k < nG m) : eg_ m k ≤ 60 := by
  obtain ⟨hn, h5⟩ := nG_c hg
  have hb := hg.2.2.1 k (by omega)
  have := ct_le (fun p => eo_ m k p) (m (1 + k)).toNat 0
  unfold eg_
  omega
theorem pr_b {m : Nat → Int} (hg : WG m) : ∀ k, k ≤ nG m → pr_ m k ≤ 60 ^ k
  | 0, _ => Nat.le_refl 1
  | k + 1, h => by
    have e : 60 ^ (k + 1) = 60 ^ k * 60 := Nat.pow_succ 60 k
    have h1 : pr_ m k * eg_ m k ≤ 60 ^ k * 60 := Nat.mul_le_mul (pr_b hg k (by omega)) (eg_b hg (by omega))
    unfold pr_
    omega
theorem ct_0 {P : Nat → Bool} : ∀ {d a : Nat}, ct_ P a d = 0 → ∀ k, a ≤ k → k < a + d → P k = false
  | 0, _, _, k, h1, h2 => by omega
  | d + 1, a, h, k, h1, h2 => by
    unfold ct_ at h
    rcases Nat.eq_or_lt_of_le h1 with h3 | h3
    · subst h3
      cases hp : P a with
      | false => rfl
      | true => rw [hp, if_pos rfl] at h; omega
    · exact ct_0 (d := d) (a := a + 1) (by omega) k h3 (by omega)
theorem pr_0 {m : Nat → Int} : ∀ k, pr_ m k = 0 → ∃ j, j < k ∧ eg_ m j = 0
  | 0, h => by unfold pr_ at h; omega
  | k + 1, h => by
    unfold pr_ at h
    rcases Nat.mul_eq_zero.mp h with h1 | h1
    · obtain ⟨j, h2, h3⟩ := pr_0 k h1
      exact ⟨j, by omega, h3⟩
    · exact ⟨k, by omega, h1⟩
theorem bt_all {P : Nat → Bool} {n j : Nat} (h : bt_ P n = 2 ^ n - 1) (hj : j < n) : P j = true := by
  have h1 := bt_bit P n j
  rw [h, Nat.testBit_two_pow_sub_one, decide_eq_true hj, Bool.true_and] at h1
  exact h1.symm
/-- a number that all gaps hit -/
def jn_ (m : Nat → Int) (gh : Bool) (i : Nat) : Bool := decide (hb_ m i = 2 ^ nG m - 1) && !(gh && ir_ m i)
/-- numbers go up to the limit and up to the reach -/
def nR (m : Nat → Int) : Nat := min (nL m) (rc_ m (2 ^ nG m - 1) (nG m))
theorem jn_0 {m : Nat → Int} (hg : WG m) {gh : Bool} (h : pr_ m (nG m) = 0) (d : Nat) : ct_ (jn_ m gh) 0 d = 0 := by
  obtain ⟨j, hj, he⟩ := pr_0 _ h
  have h1 : ∀ i, jn_ m gh i = false := by
    intro i
    unfold jn_
    by_cases c : hb_ m i = 2 ^ nG m - 1
    · exfalso
      have h2 := bt_all c hj
      have h3 := pl_c hg (x := (i : Int)) hj
      have h4 := ct_0 (P := fun p => eo_ m j p) he (pl_ m i j) (by omega) (by omega)
      rw [show eo_ m j (pl_ m i j) = true from h2] at h4
      cases h4
    · rw [decide_eq_false c]; rfl
  have z : ∀ d a, ct_ (jn_ m gh) a d = 0 := by
    intro d
    induction d with
    | zero => intro a; rfl
    | succ d ih => intro a; unfold ct_; rw [ih, h1]; rfl
  exact z d 0
/-- pairs(what) -/
def qq_ (m : Nat → Int) (x : Int32) : Int32 :=
  if 0 ≤ x.toInt ∧ x.toInt ≤ 2 then
    (if nG m = 0 then 0 else if x.toInt = 0 then nI (pr_ m (nG m)) else nI (ct_ (jn_ m (decide (x.toInt = 2))) 0 (nR m))) else -1
theorem ev_countPairings {m : Nat → Int} {gc : Int32} {gaps st ld : Nat → Int32} (hg : WG m) (hw : WS m) (ht : WT m) (hG : cG m gc gaps) (hS : cS m st) (hL : tL m ld) :
    F_X3_countPairings ld gc gaps st = some (if nG m = 0 then 0 else nI (pr_ m (nG m))) := by
  obtain ⟨hn, h5⟩ := nG_c hg
  have hgc : gc = nI (nG m) := by rw [hG.1, hn, iI_nI]
  unfold F_X3_countPairings
  have e0 : (gc = 0) = (nG m = 0) := by
    rw [hgc, iI_nI, show (0 : Int32) = iI 0 from rfl, iI_eq (by omega) (by omega)]
    apply propext
    omega
  rw [if_e e0]
  by_cases c : nG m = 0
  · rw [if_pos c, if_pos c]
  · rw [if_neg c, if_neg c]
    refine lp_S (fun n k => L_X3_countPairings_13 ld gc gaps st n (nI (pr_ m k)) (nI k)) (nG m) _ ?_ ?_ (nG m) 0 fu_ (by omega) (fu_lt (by omega))
    · intro n k hk
      show L_X3_countPairings_13 ld gc gaps st (n + 1) (nI (pr_ m k)) (nI k) = _
      rw [L_X3_countPairings_13, if_neg (show ¬ gc ≤ nI k by rw [hgc]; exact nle_ (by omega) (by omega) hk), ev_countOfGap hg hw ht hG hS hL hk, bs_, pk_mul, nI_s]
      rfl
    · intro n
      show L_X3_countPairings_13 ld gc gaps st (n + 1) (nI (pr_ m (nG m))) (nI (nG m)) = _
      rw [L_X3_countPairings_13, if_pos (show gc ≤ nI (nG m) by rw [hgc]; exact yle_ (by omega) (by omega) (Nat.le_refl _))]
theorem ev_countJoined {m : Nat → Int} {gc : Int32} {gaps st ld : Nat → Int32} {tc : Int32} {sp ve sr : Nat → Int32} (hg : WG m) (hw : WS m) (ht : WT m) (hG : cG m gc gaps) (hS : cS m st) (hT : cT m tc sp ve sr) (hL : tL m ld) (f : Nat → Int32) (z : Int32) :
    ∃ g, F_X3_countJoined ld f gc tc gaps st sp z = some (if nG m = 0 then 0 else nI (ct_ (jn_ m (decide (¬ z = 0))) 0 (nR m)), g) := by
  obtain ⟨hn, h5⟩ := nG_c hg
  obtain ⟨h9, h91, h92⟩ := nL_c hw
  obtain ⟨p1, p2⟩ := p2_b h5
  have hgc : gc = nI (nG m) := by rw [hG.1, hn, iI_nI]
  have hst : st 3 = nI (nL m) := by rw [show st 3 = iI (m 9) from hS 3 (by decide), h9, iI_nI]
  unfold F_X3_countJoined
  have e0 : (gc = 0) = (nG m = 0) := by
    rw [hgc, iI_nI, show (0 : Int32) = iI 0 from rfl, iI_eq (by omega) (by omega)]
    apply propext
    omega
  rw [if_e e0]
  by_cases c : nG m = 0
  · rw [if_pos c, if_pos c]
    exact ⟨_, rfl⟩
  · rw [if_neg c, if_neg c, ev_markHits hg hw ht hG hS hL, bs_]
    have hH := tH_mh hw f
    refine ⟨fun i => if i < 1000 then mh_ m (nG m) 0 i else f i, ?_⟩
    generalize (fun i => if i < 1000 then mh_ m (nG m) 0 i else f i) = hB at hH
    refine lp_S (fun n k => L_X3_countJoined_19 ld gc tc gaps st sp n hB z (nI (rc_ m (2 ^ nG m - 1) k)) (nI k)) (nG m) _ ?_ ?_ (nG m) 0 fu_ (by omega) (fu_lt (by omega))
    · intro n k hk
      have hb := hg.2.2.1 k (by omega)
      have hr := rc_b hg (2 ^ nG m - 1) k (by omega)
      have hp := p60 (show k ≤ 5 by omega)
      show L_X3_countJoined_19 ld gc tc gaps st sp (n + 1) hB z (nI (rc_ m (2 ^ nG m - 1) k)) (nI k) = _
      rw [L_X3_countJoined_19, if_neg (show ¬ gc ≤ nI k by rw [hgc]; exact nle_ (by omega) (by omega) hk), gN_ (by omega) (by decide), nI_clamp (by omega), hG.2 k (by omega), iN (by omega), ev_leastCommon (by omega) (by omega), bs_, nI_s]
      conv => rhs; unfold rc_
      rw [Nat.testBit_two_pow_sub_one, decide_eq_true hk, if_pos rfl]
    · intro n
      have hr := rc_b hg (2 ^ nG m - 1) (nG m) (Nat.le_refl _)
      have hp := p60 h5
      show L_X3_countJoined_19 ld gc tc gaps st sp (n + 1) hB z (nI (rc_ m (2 ^ nG m - 1) (nG m))) (nI (nG m)) = _
      rw [L_X3_countJoined_19, if_pos (show gc ≤ nI (nG m) by rw [hgc]; exact yle_ (by omega) (by omega) (Nat.le_refl _))]
      unfold J_X3_countJoined_46
      rw [show ((1 : Int32) <<< (gc &&& 31)) - (1 : Int32) = nI (2 ^ nG m - 1) by rw [hgc, sh_1 _ (by omega), iI_nI, show (1 : Int32) = iI 1 from rfl, iI_sub, iI_nI]; congr 1; omega]
      have h := lp_ct (P := jn_ m (decide (¬ z = 0))) (N := nR m) (fun n x k => L_X3_countJoined_62 ld gc tc gaps st sp n hB z (nI (rc_ m (2 ^ nG m - 1) (nG m))) (nI (2 ^ nG m - 1)) x k) (fun x => some (x, hB)) ?_ ?_ (nR m) 0 fu_ 0 (by omega) (fu_lt (by unfold nR; omega))
      · rw [Nat.zero_add] at h
        exact h
      · intro n x k hk
        have hk1 : k < nL m := by unfold nR at hk; omega
        have hk2 : k < rc_ m (2 ^ nG m - 1) (nG m) := by unfold nR at hk; omega
        have h32 := hb_32 hg (k : Int)
        show L_X3_countJoined_62 ld gc tc gaps st sp (n + 1) hB z _ _ x (nI k) = _
        rw [L_X3_countJoined_62, hst, if_neg (nle_ (by omega) (by omega) hk1), if_neg (nle_ (by omega) (by omega) hk2), gN_ (by omega) (by decide), nI_clamp (by omega), hH k hk1, if_e (show (nI (hb_ m k) = nI (2 ^ nG m - 1)) = (hb_ m k = 2 ^ nG m - 1) by rw [iI_nI, iI_nI (_ - 1), iI_eq (by omega) (by omega)]; apply propext; omega), iI_nI k, ev_isRange ht hT (by omega), bs_, ib_, ← iI_nI, nI_s]
        unfold jn_
        by_cases d : hb_ m k = 2 ^ nG m - 1
        · rw [if_pos d, decide_eq_true d]
          by_cases cz : z = 0
          · rw [if_pos cz, decide_eq_false (fun h => h cz)]; rfl
          · rw [if_neg cz, decide_eq_true cz]
            cases ir_ m (k : Int) <;> rfl
        · rw [if_neg d, decide_eq_false d]; rfl
      · intro n x
        have hR : nR m ≤ nL m := by unfold nR; omega
        show L_X3_countJoined_62 ld gc tc gaps st sp (n + 1) hB z _ _ x (nI (nR m)) = _
        rw [L_X3_countJoined_62, hst]
        by_cases d : nL m ≤ nR m
        · rw [if_pos (yle_ (by omega) (by omega) d)]
        · rw [if_neg (nle_ (by omega) (by omega) (by omega)), if_pos (yle_ (by omega) (by omega) (by unfold nR at d ⊢; omega))]
theorem ev_pairs {m : Nat → Int} {gc : Int32} {gaps st : Nat → Int32} {tc : Int32} {sp ve sr : Nat → Int32} (hg : WG m) (hw : WS m) (ht : WT m) (hG : cG m gc gaps) (hS : cS m st) (hT : cT m tc sp ve sr) (f1 f2 f3 : Nat → Int32) (x : Int32) :
    ∃ g1 g2 g3, F_X10_pairs gc tc gaps st sp ve sr f1 f2 f3 x = some (qq_ m x, g1, g2, g3) := by
  obtain ⟨a, ha, rfl⟩ := iI_ex x
  unfold F_X10_pairs qq_ J_X10_pairs_58
  rw [show (2 : Int32) = iI 2 from rfl, show F_X10_isWithin (iI a) 0 (iI 2) = _ from ev_within ha (b := 0) (by omega) (by omega), bs_, ib_, iI_toInt ha]
  by_cases c : 0 ≤ a ∧ a ≤ 2
  · rw [if_pos (decide_eq_true c), if_pos c, ev_listen hg hw ht hG hS hT, bs_, if_e (show (iI a = 0) = (a = 0) from iI_eq (b := 0) ha (by omega)), if_e (iI_eq ha (by omega)), ev_countPairings hg hw ht hG hS (tL_ls m f2), bs_]
    obtain ⟨g1, e1⟩ := ev_countJoined hg hw ht hG hS hT (tL_ls m f2) f3 1
    obtain ⟨g0, e0⟩ := ev_countJoined hg hw ht hG hS hT (tL_ls m f2) f3 0
    rw [e1, e0, bs_, bs_]
    by_cases b0 : a = 0
    · rw [if_pos b0, if_pos b0]
      exact ⟨_, _, _, rfl⟩
    · rw [if_neg b0, if_neg b0]
      by_cases b2 : a = 2
      · rw [if_pos b2, decide_eq_true b2]
        exact ⟨_, _, _, rfl⟩
      · rw [if_neg b2, decide_eq_false b2]
        exact ⟨_, _, _, rfl⟩
  · rw [if_neg (by simpa using c), if_neg c]
    exact ⟨_, _, _, rfl⟩
theorem ev_rpairs {m : Nat → Int} {all : Nat → Int32} (hg : WG m) (hw : WS m) (ht : WT m) (hA : rA m all) (ra : Int32) (f : Nat → Int32) (x : Int32) : ∃ g, F_X11_pairs ra all f x = some (qq_ m x, 0, g) := by
  obtain ⟨hn, h5⟩ := nG_c hg
  obtain ⟨h9, h91, h92⟩ := nL_c hw
  obtain ⟨p1, p2⟩ := p2_b h5
  have hgc : all 0 = nI (nG m) := by rw [hA 0 (by decide), hn, iI_nI]
  have hlm : all 9 = nI (nL m) := by rw [hA 9 (by decide), h9, iI_nI]
  obtain ⟨a, ha, rfl⟩ := iI_ex x
  have hL := tL_ll m f
  have hpr := pr_b hg (nG m) (Nat.le_refl _)
  have hp := p60 h5
  have hr := rc_b hg (2 ^ nG m - 1) (nG m) (Nat.le_refl _)
  unfold F_X11_pairs qq_
  rw [show (2 : Int32) = iI 2 from rfl, show F_X11_in (iI a) 0 (iI 2) = _ from ev_in ha (b := 0) (by omega) (by omega), bs_, ib_, iI_toInt ha]
  by_cases c : 0 ≤ a ∧ a ≤ 2
  · rw [if_pos (decide_eq_true c), if_pos c, ev_laysLoud hg hw ht hA, bs_]
    refine ⟨llR m (nG m) 0 f, ?_⟩
    generalize llR m (nG m) 0 f = ld at hL
    have e0 : (all 0 = 0) = (nG m = 0) := by
      rw [hgc, iI_nI, show (0 : Int32) = iI 0 from rfl, iI_eq (by omega) (by omega)]
      apply propext
      omega
    rw [if_e e0]
    by_cases g0 : nG m = 0
    · rw [if_pos g0, if_pos g0]
      show L_X11_pairs_37 all (999999 + 1) 0 ld (iI a) 0 0 = _
      rw [L_X11_pairs_37, hgc, g0, if_pos (show nI 0 ≤ 0 by decide)]
      unfold J_X11_pairs_61
      rw [if_pos (show (0 : Int32) = 0 from rfl)]
      split <;> rfl
    · rw [if_neg g0, if_neg g0]
      refine lp_S (fun n k => L_X11_pairs_37 all n 0 ld (iI a) (nI (pr_ m k)) (nI k)) (nG m) _ ?_ ?_ (nG m) 0 fu_ (by omega) (fu_lt (by omega))
      · intro n k hk
        show L_X11_pairs_37 all (n + 1) 0 ld (iI a) (nI (pr_ m k)) (nI k) = _
        rw [L_X11_pairs_37, hgc, if_neg (nle_ (by omega) (by omega) hk), ev_echoesOf hg hw ht hA hL hk, bs_, pk_mul, nI_s]
        rfl
      · intro n
        show L_X11_pairs_37 all (n + 1) 0 ld (iI a) (nI (pr_ m (nG m))) (nI (nG m)) = _
        rw [L_X11_pairs_37, hgc, if_pos (yle_ (by omega) (by omega) (Nat.le_refl _))]
        unfold J_X11_pairs_61
        rw [if_e (show (iI a = 0) = (a = 0) from iI_eq (b := 0) ha (by omega)), if_e (show (nI (pr_ m (nG m)) = 0) = (pr_ m (nG m) = 0) by rw [iI_nI, show (0 : Int32) = iI 0 from rfl, iI_eq (by omega) (by omega)]; apply propext; omega)]
        by_cases b0 : a = 0
        · rw [if_pos b0, if_pos b0]
        · rw [if_neg b0, if_neg b0]
          by_cases q0 : pr_ m (nG m) = 0
          · rw [if_pos q0, jn_0 hg q0, q0]
          · rw [if_neg q0, show ((1 : Int32) <<< (all 0 &&& 31)) - (1 : Int32) = nI (2 ^ nG m - 1) by rw [hgc, sh_1 _ (by omega), iI_nI, show (1 : Int32) = iI 1 from rfl, iI_sub, iI_nI]; congr 1; omega, ev_reachOf hg hA (by omega), bs_]
            have h := lp_ct (P := jn_ m (decide (a = 2))) (N := nR m) (fun n x k => L_X11_pairs_95 all n 0 ld (iI a) (nI (2 ^ nG m - 1)) (lL (rc_ m (2 ^ nG m - 1) (nG m))) x k) (fun x => some (x, 0, ld)) ?_ ?_ (nR m) 0 fu_ 0 (by omega) (fu_lt (by unfold nR; omega))
            · rw [Nat.zero_add] at h
              exact h
            · intro n x k hk
              have hk1 : k < nL m := by unfold nR at hk; omega
              have hk2 : k < rc_ m (2 ^ nG m - 1) (nG m) := by unfold nR at hk; omega
              have h32 := hb_32 hg (k : Int)
              show L_X11_pairs_95 all (n + 1) 0 ld (iI a) _ _ x (nI k) = _
              rw [L_X11_pairs_95, hlm, if_neg (nle_ (by omega) (by omega) hk1), iI_nI k, lL_i (by omega), if_e (lL_cge (by omega) (by omega)), if_neg (by omega), ev_hitBits hg hw ht hA hL (by omega), bs_, if_e (show (nI (hb_ m k) = nI (2 ^ nG m - 1)) = (hb_ m k = 2 ^ nG m - 1) by rw [iI_nI, iI_nI (_ - 1), iI_eq (by omega) (by omega)]; apply propext; omega), show (2 : Int32) = iI 2 from rfl, if_e (iI_eq ha (by omega)), ev_risRange ht hA (by omega), bs_, ib_, ← iI_nI, nI_s, Int32.add_zero]
              unfold jn_
              by_cases d : hb_ m k = 2 ^ nG m - 1
              · rw [if_pos d, decide_eq_true d]
                by_cases cz : a = 2
                · rw [if_pos cz, decide_eq_true cz]
                  cases ir_ m (k : Int) <;> rfl
                · rw [if_neg cz, decide_eq_false cz]; rfl
              · rw [if_neg d, decide_eq_false d]; rfl
            · intro n x
              have hR : nR m ≤ nL m := by unfold nR; omega
              show L_X11_pairs_95 all (n + 1) 0 ld (iI a) _ _ x (nI (nR m)) = _
              rw [L_X11_pairs_95, hlm]
              by_cases d : nL m ≤ nR m
              · rw [if_pos (yle_ (by omega) (by omega) d)]
              · rw [if_neg (nle_ (by omega) (by omega) (by omega)), iI_nI (nR m), lL_i (by omega), if_e (lL_cge (by omega) (by omega)), if_pos (by unfold nR at d ⊢; omega)]
  · rw [if_neg (by simpa using c), if_neg c]
    exact ⟨_, rfl⟩
/-! ===== END ===== -/
