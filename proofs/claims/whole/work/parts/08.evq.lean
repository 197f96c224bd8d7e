/-! ===== BEGIN what one gap more would do ===== -/
theorem ct_sp (P : Nat → Bool) : ∀ d1 a d2, ct_ P a (d1 + d2) = ct_ P a d1 + ct_ P (a + d1) d2
  | 0, a, d2 => by
    show ct_ P a (0 + d2) = 0 + ct_ P (a + 0) d2
    rw [Nat.zero_add, Nat.zero_add, Nat.add_zero]
  | d1 + 1, a, d2 => by
    have h := ct_sp P d1 (a + 1) d2
    rw [show d1 + 1 + d2 = (d1 + d2) + 1 by omega]
    show (if P a then 1 else 0) + ct_ P (a + 1) (d1 + d2) = (if P a then 1 else 0) + ct_ P (a + 1) d1 + ct_ P (a + (d1 + 1)) d2
    rw [h, show a + (d1 + 1) = a + 1 + d1 by omega]
    omega
theorem ct_sh (P : Nat → Bool) : ∀ d a, ct_ (fun k => P (k + 1)) a d = ct_ P (a + 1) d
  | 0, _ => rfl
  | d + 1, a => by
    show (if P (a + 1) then 1 else 0) + ct_ (fun k => P (k + 1)) (a + 1) d = (if P (a + 1) then 1 else 0) + ct_ P (a + 1 + 1) d
    rw [ct_sh P d (a + 1)]
theorem ct_ad {A B C : Nat → Bool} : ∀ d a, (∀ k, a ≤ k → k < a + d → (if A k then 1 else 0) + (if B k then 1 else 0) = if C k then 1 else (0 : Nat)) → ct_ A a d + ct_ B a d = ct_ C a d
  | 0, _, _ => rfl
  | d + 1, a, h => by
    have h1 := ct_ad d (a + 1) (fun k h2 h3 => h k (by omega) (by omega))
    have h2 := h a (by omega) (by omega)
    show ((if A a then 1 else 0) + ct_ A (a + 1) d) + ((if B a then 1 else 0) + ct_ B (a + 1) d) = (if C a then 1 else 0) + ct_ C (a + 1) d
    omega
theorem ct_ig {m : Nat → Int} (g : Int) (Q : Int → Bool) : ct_ (fun k => Q (ig_ m g (1 + k))) 0 (nG m + 1) = ct_ (fun k => Q (m (1 + k))) 0 (nG m) + (if Q g then 1 else 0) := by
  have hp := ps_le m g (nG m)
  have e1 : ct_ (fun k => Q (ig_ m g (1 + k))) 0 (nG m + 1) = ct_ (fun k => Q (ig_ m g (1 + k))) 0 (ps_ m g (nG m)) + ct_ (fun k => Q (ig_ m g (1 + k))) (ps_ m g (nG m)) (1 + (nG m - ps_ m g (nG m))) := by
    rw [show nG m + 1 = ps_ m g (nG m) + (1 + (nG m - ps_ m g (nG m))) by omega, ct_sp, Nat.zero_add]
  have e2 : ct_ (fun k => Q (ig_ m g (1 + k))) (ps_ m g (nG m)) (1 + (nG m - ps_ m g (nG m))) = (if Q g then 1 else 0) + ct_ (fun k => Q (m (1 + k))) (ps_ m g (nG m)) (nG m - ps_ m g (nG m)) := by
    rw [Nat.add_comm 1]
    show (if Q (ig_ m g (1 + ps_ m g (nG m))) then 1 else 0) + ct_ (fun k => Q (ig_ m g (1 + k))) (ps_ m g (nG m) + 1) (nG m - ps_ m g (nG m)) = _
    rw [ig_b, ← ct_sh (fun k => Q (ig_ m g (1 + k)))]
    congr 1
    exact ct_cong (fun k h1 h2 => by rw [ig_c h1 (by omega)])
  have e3 : ct_ (fun k => Q (m (1 + k))) 0 (nG m) = ct_ (fun k => Q (m (1 + k))) 0 (ps_ m g (nG m)) + ct_ (fun k => Q (m (1 + k))) (ps_ m g (nG m)) (nG m - ps_ m g (nG m)) := by
    conv => lhs; rw [show nG m = ps_ m g (nG m) + (nG m - ps_ m g (nG m)) by omega, ct_sp, Nat.zero_add]
  have e4 : ct_ (fun k => Q (ig_ m g (1 + k))) 0 (ps_ m g (nG m)) = ct_ (fun k => Q (m (1 + k))) 0 (ps_ m g (nG m)) := ct_cong (fun k h1 h2 => by rw [ig_a (by omega)])
  rw [e1, e2, e3, e4]
  omega
section AGREE
theorem ag_bl {m w : Nat → Int} (h : ∀ i, 6 ≤ i → w i = m i) (v g : Int) : bl_ w v g = bl_ m v g := by
  unfold bl_
  rw [h 6 (by omega), h 7 (by omega)]
theorem ag_rn {m w : Nat → Int} (h : ∀ i, 6 ≤ i → w i = m i) (t : Nat) : rn_ w t = rn_ m t := by
  unfold rn_
  rw [h _ (by omega)]
theorem ag_se {m w : Nat → Int} (h : ∀ i, 6 ≤ i → w i = m i) (t : Nat) (g : Int) : se_ w t g = se_ m t g := by
  unfold se_
  rw [ag_bl h, ag_rn h, h _ (by omega), h 8 (by omega)]
theorem ag_ec {m w : Nat → Int} (h : ∀ i, 6 ≤ i → w i = m i) (g : Int) (p i : Nat) : ec_ w g p i = ec_ m g p i := by
  unfold ec_
  rw [ag_se h, ag_rn h]
theorem ag_lo {m w : Nat → Int} (h : ∀ i, 6 ≤ i → w i = m i) (g : Int) (p : Nat) : ∀ t, lo_ w g p t = lo_ m g p t
  | 0 => rfl
  | t + 1 => by
    unfold lo_
    rw [ag_lo h g p t, ag_ec h, h _ (by omega)]
theorem ag_nT {m w : Nat → Int} (h : ∀ i, 6 ≤ i → w i = m i) : nT w = nT m := by
  unfold nT
  rw [h 13 (by omega)]
theorem ag_nS {m w : Nat → Int} (h : ∀ i, 6 ≤ i → w i = m i) : nS w = nS m := by
  unfold nS
  rw [h 11 (by omega)]
theorem ag_nL {m w : Nat → Int} (h : ∀ i, 6 ≤ i → w i = m i) : nL w = nL m := by
  unfold nL
  rw [h 9 (by omega)]
theorem ag_ix {m w : Nat → Int} (h : ∀ i, 6 ≤ i → w i = m i) (x : Int) : ∀ t, ix_ w x t = ix_ m x t
  | 0 => rfl
  | t + 1 => by
    unfold ix_
    rw [ag_ix h x t, ag_rn h]
theorem ag_ir {m w : Nat → Int} (h : ∀ i, 6 ≤ i → w i = m i) (x : Int) : ir_ w x = ir_ m x := by
  unfold ir_
  rw [ag_nT h, ag_ix h]
theorem ag_WS {m w : Nat → Int} (h : ∀ i, 6 ≤ i → w i = m i) (hw : WS m) : WS w := by
  unfold WS
  rw [h 6 (by omega), h 7 (by omega), h 8 (by omega), h 9 (by omega), h 10 (by omega), h 11 (by omega), h 12 (by omega)]
  exact hw
theorem ag_WT {m w : Nat → Int} (h : ∀ i, 6 ≤ i → w i = m i) (ht : WT m) : WT w := by
  unfold WT
  rw [h 13 (by omega)]
  refine ⟨ht.1, ht.2.1, fun t hl => ?_⟩
  rw [h _ (by omega), h _ (by omega), h _ (by omega)]
  exact ht.2.2 t hl
end AGREE
/-- an echo of a gap, whichever, where a number lies -/
def ey_ (m : Nat → Int) (x : Int) (y : Int) : Bool := decide (m 12 ≤ lo_ m y (x % y).toNat (nT m))
theorem pc_ey {m : Nat → Int} (hg : WG m) (x : Int) : pc_ (hb_ m x) = ct_ (fun k => ey_ m x (m (1 + k))) 0 (nG m) := by
  unfold hb_
  rw [pc_bt (nG_c hg).2]
  rfl
/-- a speed one gap short; a number one echo short that is no range -/
def nd_ (m : Nat → Int) (v : Int) : Bool := decide ((nG m : Int) - bc_ m v + 1 = m 10)
def ng_ (m : Nat → Int) (x : Int) : Bool := decide ((pc_ (hb_ m x) : Int) + 1 = m 10) && !ir_ m x
def wD_ (m : Nat → Int) (g : Int) : Nat := ct_ (fun v => nd_ m v && !bl_ m v g) 1 (nS m)
def wG_ (m : Nat → Int) (g : Int) : Nat := ct_ (fun i => ng_ m i && ey_ m i g) 0 (nL m)
theorem dk_ig {m : Nat → Int} (hg : WG m) (h5 : nG m < 5) (g : Int) : ct_ (fun v => dk_ (ig_ m g) v) 1 (nS (ig_ m g)) + wD_ m g = ct_ (fun v => dk_ m v) 1 (nS m) := by
  have ha : ∀ i, 6 ≤ i → ig_ m g i = m i := fun i hi => ig_hi hg h5 g hi
  rw [ag_nS ha]
  unfold wD_
  refine ct_ad _ _ (fun v _ _ => ?_)
  have e : bc_ (ig_ m g) v = bc_ m v + (if bl_ m v g then 1 else 0) := by
    unfold bc_
    rw [nG_ig hg, ← ct_ig g (fun y => bl_ m v y)]
    exact ct_cong (fun k _ _ => ag_bl ha _ _)
  unfold dk_ nd_
  rw [nG_ig hg, e, ha 10 (by omega)]
  cases hb : bl_ m (v : Int) g with
  | true =>
    rw [Bool.not_true, Bool.and_false]
    have e2 : decide (((nG m + 1 : Nat) : Int) - ((bc_ m v + (if true = true then 1 else 0) : Nat) : Int) < m 10) = decide ((nG m : Int) - (bc_ m v : Int) < m 10) := by
      congr 1
      apply propext
      simp
      omega
    rw [e2]
    simp
  | false =>
    rw [Bool.not_false, Bool.and_true]
    by_cases c1 : (nG m : Int) + 1 - (bc_ m v : Int) < m 10
    · rw [decide_eq_true (show ((nG m + 1 : Nat) : Int) - ((bc_ m v + (if false = true then 1 else 0) : Nat) : Int) < m 10 by simp; omega), decide_eq_false (by omega), decide_eq_true (show (nG m : Int) - (bc_ m v : Int) < m 10 by omega)]
      rfl
    · rw [decide_eq_false (show ¬ ((nG m + 1 : Nat) : Int) - ((bc_ m v + (if false = true then 1 else 0) : Nat) : Int) < m 10 by simp; omega)]
      by_cases c2 : (nG m : Int) - (bc_ m v : Int) + 1 = m 10
      · rw [decide_eq_true c2, decide_eq_true (show (nG m : Int) - (bc_ m v : Int) < m 10 by omega)]
        rfl
      · rw [decide_eq_false c2, decide_eq_false (show ¬ (nG m : Int) - (bc_ m v : Int) < m 10 by omega)]
        rfl
theorem fo_ig {m : Nat → Int} (hg : WG m) (h5 : nG m < 5) {g : Int} (hb : 4 ≤ g ∧ g ≤ 60) (hx : hg_ m g (nG m) = false) : ct_ (fun i => fo_ m true i) 0 (nL m) + wG_ m g = ct_ (fun i => fo_ (ig_ m g) true i) 0 (nL (ig_ m g)) := by
  have ha : ∀ i, 6 ≤ i → ig_ m g i = m i := fun i hi => ig_hi hg h5 g hi
  rw [ag_nL ha]
  unfold wG_
  refine ct_ad _ _ (fun x _ _ => ?_)
  have e : pc_ (hb_ (ig_ m g) x) = pc_ (hb_ m x) + (if ey_ m x g then 1 else 0) := by
    rw [pc_ey (WG_ig hg h5 hb hx), pc_ey hg, nG_ig hg, ← ct_ig g (fun y => ey_ m x y)]
    refine ct_cong (fun k _ _ => ?_)
    unfold ey_
    rw [ag_nT ha, ag_lo ha, ha 12 (by omega)]
  unfold fo_ ng_
  rw [e, ag_ir ha, ha 10 (by omega)]
  cases hi : ir_ m (x : Int) with
  | true => simp
  | false =>
    cases he : ey_ m (x : Int) g with
    | false => simp
    | true =>
      simp only [Bool.true_and, Bool.not_false, Bool.and_true]
      by_cases c1 : m 10 ≤ (pc_ (hb_ m (x : Int)) : Int)
      · rw [decide_eq_true c1, decide_eq_false (show ¬ (pc_ (hb_ m (x : Int)) : Int) + 1 = m 10 by omega), decide_eq_true (show m 10 ≤ ((pc_ (hb_ m (x : Int)) + (if True then 1 else 0) : Nat) : Int) by simp; omega)]
        rfl
      · rw [decide_eq_false c1]
        by_cases c2 : (pc_ (hb_ m (x : Int)) : Int) + 1 = m 10
        · rw [decide_eq_true c2, decide_eq_true (show m 10 ≤ ((pc_ (hb_ m (x : Int)) + (if True then 1 else 0) : Nat) : Int) by simp; omega)]
          rfl
        · rw [decide_eq_false c2, decide_eq_false (show ¬ m 10 ≤ ((pc_ (hb_ m (x : Int)) + (if True then 1 else 0) : Nat) : Int) by simp; omega)]
          rfl
/-- the first of the gaps that are not there whose weight is least; gaps from 4 on -/
def bg_ (P : Nat → Bool) (W : Nat → Int) : Nat → Option Nat
  | 0 => none
  | i + 1 => if P (4 + i) then bg_ P W i else match bg_ P W i with
    | none => some (4 + i)
    | some b => if W b ≤ W (4 + i) then some b else some (4 + i)
theorem bg_b {P : Nat → Bool} {W : Nat → Int} : ∀ {i b : Nat}, bg_ P W i = some b → 4 ≤ b ∧ b < 4 + i ∧ P b = false
  | 0, _, h => by unfold bg_ at h; cases h
  | i + 1, b, h => by
    unfold bg_ at h
    by_cases c : P (4 + i) = true
    · rw [if_pos c] at h
      have := bg_b h
      exact ⟨this.1, by omega, this.2.2⟩
    · rw [if_neg c] at h
      have c : P (4 + i) = false := by simpa using c
      cases hb : bg_ P W i with
      | none =>
        rw [hb] at h
        cases h
        exact ⟨by omega, by omega, c⟩
      | some j =>
        have := bg_b hb
        rw [hb] at h
        dsimp only at h
        split at h
        · cases h; exact ⟨this.1, by omega, this.2.2⟩
        · cases h; exact ⟨by omega, by omega, c⟩
theorem bg_c {P : Nat → Bool} {W V : Nat → Int} (h : ∀ a b, P a = false → P b = false → 4 ≤ a → a ≤ 60 → 4 ≤ b → b ≤ 60 → ((W a ≤ W b) = (V a ≤ V b))) : ∀ i, i ≤ 57 → bg_ P W i = bg_ P V i
  | 0, _ => rfl
  | i + 1, hi => by
    have ih := bg_c h i (by omega)
    unfold bg_
    rw [ih]
    by_cases c : P (4 + i) = true
    · rw [if_pos c, if_pos c]
    · rw [if_neg c, if_neg c]
      cases hb : bg_ P V i with
      | none => rfl
      | some b =>
        have hbb := bg_b hb
        dsimp only
        exact if_e (h b (4 + i) hbb.2.2 (by simpa using c) hbb.1 (by omega) (by omega) (by omega))
/-- more(ghosts) -/
def mW_ (m : Nat → Int) (z : Int32) (g : Nat) : Int := if z = 0 then -(wD_ m g : Int) else (wG_ m g : Int)
def mR_ (m : Nat → Int) (z : Int32) : Option Nat := bg_ (fun g => hg_ m g (nG m)) (mW_ m z) 57
def qe_ (m : Nat → Int) (z : Int32) : Int32 := if nG m = 5 then -1 else bo_ (mR_ m z)
/-! ===== END ===== -/
