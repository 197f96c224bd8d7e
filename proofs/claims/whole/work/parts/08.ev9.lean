/-! ===== BEGIN at, makers, ranges ===== -/
/-- at(k, place, loud) -/
def qa_ (m : Nat → Int) (x y z : Int32) : Int32 :=
  if 0 ≤ x.toInt ∧ x.toInt < m 0 then (if 0 ≤ y.toInt ∧ y.toInt ≤ m (1 + x.toInt.toNat) - 1 then (if z = 0 then nI (bt_ (ec_ m (m (1 + x.toInt.toNat)) y.toInt.toNat) (nT m)) else iI (lo_ m (m (1 + x.toInt.toNat)) y.toInt.toNat (nT m))) else -1) else -1
theorem ev_at {m : Nat → Int} {gc : Int32} {gaps st : Nat → Int32} {tc : Int32} {sp ve sr : Nat → Int32} (hg : WG m) (hw : WS m) (ht : WT m) (hG : cG m gc gaps) (hS : cS m st) (hT : cT m tc sp ve sr) (f1 f2 : Nat → Int32) (x y z : Int32) :
    ∃ g1 g2, F_X10_at gc tc gaps st sp ve sr f1 f2 x y z = some (qa_ m x y z, g1, g2) := by
  obtain ⟨hn, h5⟩ := nG_c hg
  obtain ⟨a, ha, rfl⟩ := iI_ex x
  obtain ⟨b, hb, rfl⟩ := iI_ex y
  unfold F_X10_at qa_
  rw [ev_hasGap hg hG.1 ha, bs_, ib_, iI_toInt ha, iI_toInt hb]
  by_cases c : 0 ≤ a ∧ a < m 0
  · have h1 := hg.2.2.1 a.toNat (by omega)
    rw [if_pos (decide_eq_true c), if_pos c, gd_ok (in_ok (by omega) (by omega) (by omega)), iI_clamp ha, hG.2 a.toNat (by omega), show (1 : Int32) = iI 1 from rfl, iI_sub, show F_X10_isWithin (iI b) 0 (iI (m (1 + a.toNat) - 1)) = _ from ev_within hb (b := 0) (by omega) (by omega), bs_, ib_]
    by_cases d : 0 ≤ b ∧ b ≤ m (1 + a.toNat) - 1
    · rw [if_pos (decide_eq_true d), if_pos d, ev_listen hg hw ht hG hS hT, bs_]
      have e1 : iI a * (60 : Int32) + iI b = nI (60 * a.toNat + b.toNat) := by
        rw [show (60 : Int32) = iI 60 from rfl, iI_mul, iI_add, iI_nI]
        congr 1
        omega
      have e2 : in_b (iI a * (60 : Int32) + iI b) 300 = true := by rw [e1]; exact in_N (by omega) (by decide)
      have e3 : (iI a * (60 : Int32) + iI b).toNatClampNeg = 60 * a.toNat + b.toNat := by rw [e1]; exact nI_clamp (by omega)
      by_cases cz : z = 0
      · rw [if_pos cz, if_pos cz]
        unfold F_X3_targetsAt
        rw [gd_ok e2, e3, bs_]
        exact ⟨_, _, congrArg (fun q => some (q, _, _)) (tB_ls m f1 a.toNat b.toNat (by omega) (by omega))⟩
      · rw [if_neg cz, if_neg cz]
        unfold F_X3_loudAt
        rw [gd_ok e2, e3, bs_]
        exact ⟨_, _, congrArg (fun q => some (q, _, _)) (tL_ls m f2 a.toNat b.toNat (by omega) (by omega))⟩
    · rw [if_neg (by simpa using d), if_neg d]
      exact ⟨_, _, rfl⟩
  · rw [if_neg (by simpa using c), if_neg c]
    exact ⟨_, _, rfl⟩
theorem ev_rat {m : Nat → Int} {all : Nat → Int32} (hg : WG m) (hw : WS m) (ht : WT m) (hA : rA m all) (ra x y z : Int32) : F_X11_at ra all x y z = some (qa_ m x y z, 0) := by
  obtain ⟨hn, h5⟩ := nG_c hg
  obtain ⟨hn2, h8⟩ := nT_c ht
  have htc : all 13 = nI (nT m) := by rw [hA 13 (by decide), hn2, iI_nI]
  obtain ⟨a, ha, rfl⟩ := iI_ex x
  obtain ⟨b, hb, rfl⟩ := iI_ex y
  unfold F_X11_at qa_
  rw [ev_risGap hg hA ha, bs_, ib_, iI_toInt ha, iI_toInt hb]
  by_cases c : 0 ≤ a ∧ a < m 0
  · have h1 := hg.2.2.1 a.toNat (by omega)
    rw [if_pos (decide_eq_true c), if_pos c, iN c.1, ev_gapAt hA (by omega), bs_, show (1 : Int32) = iI 1 from rfl, iI_sub, show F_X11_in (iI b) 0 (iI (m (1 + a.toNat) - 1)) = _ from ev_in hb (b := 0) (by omega) (by omega), bs_, ib_]
    by_cases d : 0 ≤ b ∧ b ≤ m (1 + a.toNat) - 1
    · rw [if_pos (decide_eq_true d), if_pos d]
      have loop : ∀ d t n, t + d = nT m → d < n → L_X11_at_39 all n 0 (nI a.toNat) (iI b) z (nI (bt_ (ec_ m (m (1 + a.toNat)) b.toNat) t)) (iI (lo_ m (m (1 + a.toNat)) b.toNat t)) (nI t) = some (if z = 0 then nI (bt_ (ec_ m (m (1 + a.toNat)) b.toNat) (nT m)) else iI (lo_ m (m (1 + a.toNat)) b.toNat (nT m)), 0) := by
        intro d
        induction d with
        | zero =>
          intro t n e hlt
          obtain ⟨n, rfl⟩ : ∃ k, n = k + 1 := ⟨n - 1, by omega⟩
          have : t = nT m := by omega
          subst this
          rw [L_X11_at_39, htc, if_pos (by rw [nI_le2 (by omega) (by omega)]; omega)]
          unfold J_X11_at_129
          by_cases cz : z = 0
          · rw [if_pos cz, if_pos cz]
          · rw [if_neg cz, if_neg cz]
        | succ d ih =>
          intro t n e hlt
          obtain ⟨n, rfl⟩ : ∃ k, n = k + 1 := ⟨n - 1, by omega⟩
          have h2 := rn_b ht (show t < nT m by omega)
          have hm := Int.emod_nonneg (rn_ m t) (show m (1 + a.toNat) ≠ 0 by omega)
          have hm2 := Int.emod_lt_of_pos (rn_ m t) (show 0 < m (1 + a.toNat) by omega)
          have ih2 := ih (t + 1) n (by omega) (by omega)
          have no : ec_ m (m (1 + a.toNat)) b.toNat t = false → J_X11_at_81 all (L_X11_at_39 all n) 0 (nI a.toNat) (iI b) z (nI (bt_ (ec_ m (m (1 + a.toNat)) b.toNat) t)) (iI (lo_ m (m (1 + a.toNat)) b.toNat t)) (nI t) = some (if z = 0 then nI (bt_ (ec_ m (m (1 + a.toNat)) b.toNat) (nT m)) else iI (lo_ m (m (1 + a.toNat)) b.toNat (nT m)), 0) := by
            intro hec
            unfold J_X11_at_81 J_X11_at_82 J_X11_at_99
            rw [if_pos rfl, if_pos rfl, or_0, Int32.add_zero, nI_s]
            have e1 : bt_ (ec_ m (m (1 + a.toNat)) b.toNat) (t + 1) = bt_ (ec_ m (m (1 + a.toNat)) b.toNat) t := by
              conv => lhs; unfold bt_
              rw [hec]; rfl
            have e2 : lo_ m (m (1 + a.toNat)) b.toNat (t + 1) = lo_ m (m (1 + a.toNat)) b.toNat t := by
              conv => lhs; unfold lo_
              rw [hec, if_neg (show ¬ (false = true) by decide), Int.add_zero]
            rw [e1, e2] at ih2
            exact ih2
          rw [L_X11_at_39, htc, if_neg (by rw [nI_le2 (by omega) (by omega)]; omega), ev_isSeen hg hw ht hA (by omega) (by omega), bs_, ib_]
          by_cases cs : se_ m t (m (1 + a.toNat)) = true
          · rw [if_pos cs, ev_rrangeOf ht hA (by omega), bs_, ev_gapAt hA (by omega), bs_, gd_ok (ne_ok (by omega) (by omega)), iI_mod (by omega) (by omega) (by omega) (by omega), if_e (iI_eq (by omega) (by omega))]
            by_cases cp : rn_ m t % m (1 + a.toNat) = b
            · have hec : ec_ m (m (1 + a.toNat)) b.toNat t = true := by
                unfold ec_
                rw [cs, decide_eq_true (show rn_ m t % m (1 + a.toNat) = ((b.toNat : Nat) : Int) by omega)]; rfl
              rw [if_pos cp]
              unfold J_X11_at_82 J_X11_at_99
              rw [if_neg (by decide), if_neg (by decide), show (2 : Int32) = nI 2 from rfl, ev_of hA (by omega) (by decide), bs_, show 14 + 3 * t + 2 = 16 + 3 * t by omega, bt_or (by omega), iI_add, nI_s]
              have e1 : bt_ (ec_ m (m (1 + a.toNat)) b.toNat) (t + 1) = bt_ (ec_ m (m (1 + a.toNat)) b.toNat) t + 2 ^ t := by
                conv => lhs; unfold bt_
                rw [if_pos hec]
              have e2 : lo_ m (m (1 + a.toNat)) b.toNat (t + 1) = lo_ m (m (1 + a.toNat)) b.toNat t + m (16 + 3 * t) := by
                conv => lhs; unfold lo_
                rw [if_pos hec]
              rw [e1, e2] at ih2
              exact ih2
            · rw [if_neg cp]
              refine no ?_
              unfold ec_
              rw [decide_eq_false (show ¬ rn_ m t % m (1 + a.toNat) = ((b.toNat : Nat) : Int) by omega), Bool.and_false]
          · rw [if_neg cs]
            refine no ?_
            unfold ec_
            rw [show se_ m t (m (1 + a.toNat)) = false by simpa using cs]; rfl
      exact loop (nT m) 0 fu_ (by omega) (fu_lt (by omega))
    · rw [if_neg (by simpa using d), if_neg d]
  · rw [if_neg (by simpa using c), if_neg c]
/-- whether one of the first t targets is at that range -/
def ix_ (m : Nat → Int) (x : Int) : Nat → Bool
  | 0 => false
  | t + 1 => ix_ m x t || decide (rn_ m t = x)
def ir_ (m : Nat → Int) (x : Int) : Bool := ix_ m x (nT m)
theorem ix_t {m : Nat → Int} {x : Int} : ∀ {d t : Nat}, ix_ m x t = true → ix_ m x (t + d) = true
  | 0, _, h => h
  | d + 1, t, h => by
    show (ix_ m x (t + d) || decide (rn_ m (t + d) = x)) = true
    rw [ix_t (d := d) h, Bool.true_or]
theorem ev_isRange {m : Nat → Int} {tc : Int32} {sp ve sr : Nat → Int32} (ht : WT m) (hT : cT m tc sp ve sr) {x : Int} (hx : rg x) : F_X5_isRange tc sp (iI x) = some (bI (ir_ m x)) := by
  obtain ⟨hn2, h8⟩ := nT_c ht
  have htc : tc = nI (nT m) := by rw [hT.1, hn2, iI_nI]
  have loop : ∀ d t n, t + d = nT m → d < n → ix_ m x t = false → L_X5_isRange_2 tc sp n (iI x) (nI t) = some (bI (ir_ m x)) := by
    intro d
    induction d with
    | zero =>
      intro t n e hlt h0
      obtain ⟨n, rfl⟩ : ∃ k, n = k + 1 := ⟨n - 1, by omega⟩
      have : t = nT m := by omega
      subst this
      rw [L_X5_isRange_2, htc, if_pos (by rw [nI_le2 (by omega) (by omega)]; omega)]
      unfold ir_
      rw [h0]; rfl
    | succ d ih =>
      intro t n e hlt h0
      obtain ⟨n, rfl⟩ : ∃ k, n = k + 1 := ⟨n - 1, by omega⟩
      have h2 := rn_b ht (show t < nT m by omega)
      rw [L_X5_isRange_2, htc, if_neg (by rw [nI_le2 (by omega) (by omega)]; omega), ev_rangeOf ht hT (by omega), bs_, if_e (iI_eq (by omega) hx), nI_s]
      by_cases c : rn_ m t = x
      · rw [if_pos c]
        have h3 : ix_ m x (t + 1) = true := by
          show (ix_ m x t || decide (rn_ m t = x)) = true
          rw [decide_eq_true c, Bool.or_true]
        have h4 := ix_t (d := d) h3
        rw [show t + 1 + d = nT m by omega] at h4
        unfold ir_
        rw [h4]; rfl
      · rw [if_neg c, ← htc]
        refine ih (t + 1) n (by omega) (by omega) ?_
        show (ix_ m x t || decide (rn_ m t = x)) = false
        rw [h0, decide_eq_false c]; rfl
  exact loop (nT m) 0 fu_ (by omega) (fu_lt (by omega)) rfl
theorem ev_risRange {m : Nat → Int} {all : Nat → Int32} (ht : WT m) (hA : rA m all) {x : Int} (hx : rg x) : F_X11_isRange all (iI x) = some (bI (ir_ m x)) := by
  obtain ⟨hn2, h8⟩ := nT_c ht
  have htc : all 13 = nI (nT m) := by rw [hA 13 (by decide), hn2, iI_nI]
  have loop : ∀ d t n, t + d = nT m → d < n → ix_ m x t = false → L_X11_isRange_2 all n (iI x) (nI t) = some (bI (ir_ m x)) := by
    intro d
    induction d with
    | zero =>
      intro t n e hlt h0
      obtain ⟨n, rfl⟩ : ∃ k, n = k + 1 := ⟨n - 1, by omega⟩
      have : t = nT m := by omega
      subst this
      rw [L_X11_isRange_2, htc, if_pos (by rw [nI_le2 (by omega) (by omega)]; omega)]
      unfold ir_
      rw [h0]; rfl
    | succ d ih =>
      intro t n e hlt h0
      obtain ⟨n, rfl⟩ : ∃ k, n = k + 1 := ⟨n - 1, by omega⟩
      have h2 := rn_b ht (show t < nT m by omega)
      rw [L_X11_isRange_2, htc, if_neg (by rw [nI_le2 (by omega) (by omega)]; omega), ev_rrangeOf ht hA (by omega), bs_, if_e (iI_eq (by omega) hx), nI_s]
      by_cases c : rn_ m t = x
      · rw [if_pos c]
        have h3 : ix_ m x (t + 1) = true := by
          show (ix_ m x t || decide (rn_ m t = x)) = true
          rw [decide_eq_true c, Bool.or_true]
        have h4 := ix_t (d := d) h3
        rw [show t + 1 + d = nT m by omega] at h4
        unfold ir_
        rw [h4]; rfl
      · rw [if_neg c]
        refine ih (t + 1) n (by omega) (by omega) ?_
        show (ix_ m x t || decide (rn_ m t = x)) = false
        rw [h0, decide_eq_false c]; rfl
  exact loop (nT m) 0 fu_ (by omega) (fu_lt (by omega)) rfl
/-! ===== END ===== -/
