/-! ===== BEGIN makers; numbers that are found ===== -/
theorem lp_S {α : Type} (L : Nat → Nat → α) (N : Nat) (K : α) (hs : ∀ n k, k < N → L (n + 1) k = L n (k + 1)) (he : ∀ n, L (n + 1) N = K) : ∀ d k n, k + d = N → d < n → L n k = K
  | 0, k, 0, _, h => absurd h (Nat.not_lt_zero _)
  | 0, k, n + 1, e, _ => by
    have : k = N := by omega
    subst this
    exact he n
  | d + 1, k, 0, _, h => absurd h (Nat.not_lt_zero _)
  | d + 1, k, n + 1, e, h => by
    rw [hs n k (by omega)]
    exact lp_S L N K hs he d (k + 1) n (by omega) (by omega)
theorem lp_E {α : Type} (L : Nat → Nat → α) (N : Nat) (K : α) (Q : Nat → Prop) (hs : ∀ n k, k < N → Q k → L (n + 1) k = K ∨ (Q (k + 1) ∧ L (n + 1) k = L n (k + 1))) (he : ∀ n, Q N → L (n + 1) N = K) : ∀ d k n, k + d = N → d < n → Q k → L n k = K
  | 0, k, 0, _, h, _ => absurd h (Nat.not_lt_zero _)
  | 0, k, n + 1, e, _, q => by
    have : k = N := by omega
    subst this
    exact he n q
  | d + 1, k, 0, _, h, _ => absurd h (Nat.not_lt_zero _)
  | d + 1, k, n + 1, e, h, q => by
    rcases hs n k (by omega) q with h1 | ⟨h1, h2⟩
    · exact h1
    · rw [h2]
      exact lp_E L N K Q hs he d (k + 1) n (by omega) (by omega) h1
theorem nle_ {a b : Nat} (ha : a < 2 ^ 31) (hb : b < 2 ^ 31) (h : b < a) : ¬ nI a ≤ nI b := by rw [nI_le2 ha hb]; omega
theorem yle_ {a b : Nat} (ha : a < 2 ^ 31) (hb : b < 2 ^ 31) (h : a ≤ b) : nI a ≤ nI b := by rw [nI_le2 ha hb]; exact h
theorem nlt_ {a b : Nat} (ha : a < 2 ^ 31) (hb : b < 2 ^ 31) (h : b ≤ a) : ¬ nI a < nI b := by rw [nI_lt2 ha hb]; omega
theorem ylt_ {a b : Nat} (ha : a < 2 ^ 31) (hb : b < 2 ^ 31) (h : a < b) : nI a < nI b := by rw [nI_lt2 ha hb]; exact h
theorem gN_ {α : Type} {k n : Nat} {x : Option α} (h : k < n) (hn : n < 2 ^ 31) : gd_ (in_b (nI k) n) x = x := gd_ok (in_N h hn)
/-- the targets that make a number, by the first k gaps -/
def mk_ (m : Nat → Int) (x : Int) : Nat → Nat
  | 0 => 0
  | k + 1 => if eo_ m k (pl_ m x k) then mk_ m x k ||| bt_ (ec_ m (m (1 + k)) (pl_ m x k)) (nT m) else mk_ m x k
theorem or_S {A t : Nat} {P : Nat → Bool} (ht : t < 31) : nI (A ||| bt_ P t) ||| ((1 : Int32) <<< (nI t &&& 31)) = nI (A ||| (bt_ P t + 2 ^ t)) := by
  rw [sh_1 t ht, or_N, Nat.or_assoc, or_pow (bt_lt P t)]
def qm_ (m : Nat → Int) (x : Int32) : Int32 := if 0 ≤ x.toInt ∧ x.toInt ≤ 9999 then nI (mk_ m x.toInt (nG m)) else -1
theorem ev_makersOf {m : Nat → Int} {gc : Int32} {gaps st ld tg : Nat → Int32} (hg : WG m) (hw : WS m) (ht : WT m) (hG : cG m gc gaps) (hS : cS m st) (hL : tL m ld) (hB : tB m tg) {x : Int} (hx : 0 ≤ x ∧ x ≤ 9999) :
    F_X3_makersOf tg ld gc gaps st (iI x) = some (nI (mk_ m x (nG m))) := by
  obtain ⟨hn, h5⟩ := nG_c hg
  have hgc : gc = nI (nG m) := by rw [hG.1, hn, iI_nI]
  refine lp_S (fun n k => L_X3_makersOf_5 tg ld gc gaps st n (iI x) (nI (mk_ m x k)) (nI k)) (nG m) _ ?_ ?_ (nG m) 0 fu_ (by omega) (fu_lt (by omega))
  · intro n k hk
    have hb := hg.2.2.1 k (by omega)
    obtain ⟨p1, p2, p3⟩ := pl_c hg (x := x) hk
    show L_X3_makersOf_5 tg ld gc gaps st (n + 1) (iI x) (nI (mk_ m x k)) (nI k) = _
    rw [L_X3_makersOf_5, hgc, if_neg (nle_ (by omega) (by omega) hk), gN_ (by omega) (by decide), nI_clamp (by omega), hG.2 k (by omega), ev_rest (by omega) (by omega) (by omega) (by omega), bs_, p1, ← iI_nI, ev_isEcho hg hw ht hS hL hk p2, bs_, ib_, nI_s]
    conv => rhs; unfold mk_
    by_cases c : eo_ m k (pl_ m x k) = true
    · rw [if_pos c, if_pos c]
      unfold F_X3_targetsAt
      rw [show (60 : Int32) = nI 60 from rfl, pk_mul, nI_add, Nat.mul_comm k 60, gN_ (by omega) (by decide), nI_clamp (by omega), hB k _ hk p2, bs_, or_N]
    · rw [if_neg c, if_neg c]
  · intro n
    show L_X3_makersOf_5 tg ld gc gaps st (n + 1) (iI x) (nI (mk_ m x (nG m))) (nI (nG m)) = _
    rw [L_X3_makersOf_5, hgc, if_pos (yle_ (by omega) (by omega) (Nat.le_refl _))]
theorem ev_makers {m : Nat → Int} {gc : Int32} {gaps st : Nat → Int32} {tc : Int32} {sp ve sr : Nat → Int32} (hg : WG m) (hw : WS m) (ht : WT m) (hG : cG m gc gaps) (hS : cS m st) (hT : cT m tc sp ve sr) (f1 f2 : Nat → Int32) (x : Int32) :
    ∃ g1 g2, F_X10_makers gc tc gaps st sp ve sr f1 f2 x = some (qm_ m x, g1, g2) := by
  obtain ⟨a, ha, rfl⟩ := iI_ex x
  unfold F_X10_makers qm_
  rw [show (9999 : Int32) = iI 9999 from rfl, show F_X10_isWithin (iI a) 0 (iI 9999) = _ from ev_within ha (b := 0) (by omega) (by omega), bs_, ib_, iI_toInt ha]
  by_cases c : 0 ≤ a ∧ a ≤ 9999
  · rw [if_pos (decide_eq_true c), if_pos c, ev_listen hg hw ht hG hS hT, bs_, ev_makersOf hg hw ht hG hS (tL_ls m f2) (tB_ls m f1) c, bs_]
    exact ⟨_, _, rfl⟩
  · rw [if_neg (by simpa using c), if_neg c]
    exact ⟨_, _, rfl⟩
theorem ev_rmakers {m : Nat → Int} {all : Nat → Int32} (hg : WG m) (hw : WS m) (ht : WT m) (hA : rA m all) (ra : Int32) (f : Nat → Int32) (x : Int32) : ∃ g, F_X11_makers ra all f x = some (qm_ m x, 0, g) := by
  obtain ⟨hn, h5⟩ := nG_c hg
  obtain ⟨hn2, h8⟩ := nT_c ht
  have hgc : all 0 = nI (nG m) := by rw [hA 0 (by decide), hn, iI_nI]
  have htc : all 13 = nI (nT m) := by rw [hA 13 (by decide), hn2, iI_nI]
  obtain ⟨a, ha, rfl⟩ := iI_ex x
  unfold F_X11_makers qm_
  rw [show (9999 : Int32) = iI 9999 from rfl, show F_X11_in (iI a) 0 (iI 9999) = _ from ev_in ha (b := 0) (by omega) (by omega), bs_, ib_, iI_toInt ha]
  by_cases c : 0 ≤ a ∧ a ≤ 9999
  · rw [if_pos (decide_eq_true c), if_pos c, ev_laysLoud hg hw ht hA, bs_]
    have hL := tL_ll m f
    refine ⟨llR m (nG m) 0 f, lp_S (fun n k => L_X11_makers_26 all n 0 (llR m (nG m) 0 f) (iI a) (nI (mk_ m a k)) (nI k)) (nG m) _ ?_ ?_ (nG m) 0 fu_ (by omega) (fu_lt (by omega))⟩
    · intro n k hk
      have hb := hg.2.2.1 k (by omega)
      obtain ⟨p1, p2, p3⟩ := pl_c hg (x := a) hk
      show L_X11_makers_26 all (n + 1) 0 _ (iI a) (nI (mk_ m a k)) (nI k) = L_X11_makers_26 all n 0 _ (iI a) (nI (mk_ m a (k + 1))) (nI (k + 1))
      rw [L_X11_makers_26, hgc, if_neg (nle_ (by omega) (by omega) hk), ev_gapAt hA (by omega), bs_, gd_ok (ne_ok (by omega) (by omega)), iI_mod (by omega) (by omega) (by omega) (by omega), p1, ← iI_nI]
      by_cases ce : eo_ m k (pl_ m a k) = true
      · have e0 : mk_ m a (k + 1) = mk_ m a k ||| bt_ (ec_ m (m (1 + k)) (pl_ m a k)) (nT m) := by
          conv => lhs; unfold mk_
          rw [if_pos ce]
        have e1 : mk_ m a k = mk_ m a k ||| bt_ (ec_ m (m (1 + k)) (pl_ m a k)) 0 := by
          unfold bt_
          rw [Nat.or_zero]
        rw [e0]
        conv => lhs; rw [e1]
        refine lp_S (fun j t => L_X11_makers_48 all (L_X11_makers_26 all n) j 0 _ (iI a) (nI (mk_ m a k ||| bt_ (ec_ m (m (1 + k)) (pl_ m a k)) t)) (nI k) (nI (pl_ m a k)) (nI t)) (nT m) _ ?_ ?_ (nT m) 0 fu_ (by omega) (fu_lt (by omega))
        · intro j t hj
          have h2 := rn_b ht (show t < nT m by omega)
          have hm := Int.emod_nonneg (rn_ m t) (show m (1 + k) ≠ 0 by omega)
          have hm2 := Int.emod_lt_of_pos (rn_ m t) (show 0 < m (1 + k) by omega)
          show L_X11_makers_48 all (L_X11_makers_26 all n) (j + 1) 0 _ (iI a) (nI (mk_ m a k ||| bt_ (ec_ m (m (1 + k)) (pl_ m a k)) t)) (nI k) (nI (pl_ m a k)) (nI t) = L_X11_makers_48 all (L_X11_makers_26 all n) j 0 _ (iI a) (nI (mk_ m a k ||| bt_ (ec_ m (m (1 + k)) (pl_ m a k)) (t + 1))) (nI k) (nI (pl_ m a k)) (nI (t + 1))
          rw [L_X11_makers_48, htc, if_neg (nle_ (by omega) (by omega) hj), ev_risEcho hg hw ht hA hL hk p2, bs_, ib_, if_pos ce, ev_isSeen hg hw ht hA hj hk, bs_, ib_, or_0, nI_s]
          conv => rhs; unfold bt_
          unfold ec_
          by_cases cs : se_ m t (m (1 + k)) = true
          · rw [if_pos cs, ev_rrangeOf ht hA hj, bs_, ev_gapAt hA (by omega), bs_, gd_ok (ne_ok (by omega) (by omega)), iI_mod (by omega) (by omega) (by omega) (by omega), iI_nI (pl_ m a k), if_e (iI_eq (by omega) (by omega)), ← iI_nI, cs, Bool.true_and]
            by_cases cp : rn_ m t % m (1 + k) = (pl_ m a k : Int)
            · rw [if_pos cp, or_S (by omega), if_pos (decide_eq_true cp)]
            · rw [if_neg cp, decide_eq_false cp]
              rfl
          · rw [if_neg cs, show se_ m t (m (1 + k)) = false by simpa using cs]
            rfl
        · intro j
          show L_X11_makers_48 all (L_X11_makers_26 all n) (j + 1) 0 _ (iI a) (nI (mk_ m a k ||| bt_ (ec_ m (m (1 + k)) (pl_ m a k)) (nT m))) (nI k) (nI (pl_ m a k)) (nI (nT m)) = _
          rw [L_X11_makers_48, htc, if_pos (yle_ (by omega) (by omega) (Nat.le_refl _)), nI_s]
      · have e0 : mk_ m a (k + 1) = mk_ m a k := by
          conv => lhs; unfold mk_
          rw [if_neg ce]
        rw [e0]
        show L_X11_makers_48 all (L_X11_makers_26 all n) (999999 + 1) 0 _ (iI a) (nI (mk_ m a k)) (nI k) (nI (pl_ m a k)) 0 = _
        rw [L_X11_makers_48, htc, ev_risEcho hg hw ht hA hL hk p2, bs_, ib_, if_neg ce, nI_s]
        split <;> rfl
    · intro n
      show L_X11_makers_26 all (n + 1) 0 _ (iI a) (nI (mk_ m a (nG m))) (nI (nG m)) = _
      rw [L_X11_makers_26, hgc, if_pos (yle_ (by omega) (by omega) (Nat.le_refl _))]
  · rw [if_neg (by simpa using c), if_neg c]
    exact ⟨_, rfl⟩
/-! ===== END ===== -/
