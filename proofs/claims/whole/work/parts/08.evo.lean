/-! ===== BEGIN order ===== -/
def fw_ (s : Ob) : Nat := match s.1 with
  | none => 2147483647
  | some h => h
def ls_ (s : Ob) : Int32 := match s.1 with
  | none => -1
  | some h => nI h
section ORD
variable {m : Nat → Int} {N : Nat}
theorem oS_ (hg : WG m) (h0 : 0 < nG m) (hN : N ≤ 64) {o : Nat → Nat} (ho : ∀ k, k < nG m → o k < nG m) (i : Nat) (hi : i ≤ N) : (0 ≤ sT (nG m) (fun k => m (1 + o k)) 0 0 i ∧ sT (nG m) (fun k => m (1 + o k)) 0 0 i ≤ 4032) ∧ sT (nG m) (fun k => m (1 + o k)) 0 0 i < sT (nG m) (fun k => m (1 + o k)) 0 0 (i + 1) := by
  obtain ⟨hn, h5⟩ := nG_c hg
  have hgp : ∀ k, k < nG m → 4 ≤ m (1 + o k) ∧ m (1 + o k) ≤ 60 := fun k hk => hg.2.2.1 (o k) (by have := ho k hk; omega)
  have h1 := sT_b (n := nG m) (G := fun k => m (1 + o k)) h0 hgp 0 (j := 0) (by omega) i
  have h2 := sT_s (n := nG m) (G := fun k => m (1 + o k)) h0 hgp 0 (j := 0) (by omega) i
  exact ⟨by omega, by omega⟩
theorem ev_arrange {gc : Int32} {gaps st : Nat → Int32} {tc : Int32} {sp ve sr : Nat → Int32} (hg : WG m) (hw : WS m) (ht : WT m) (hG : cG m gc gaps) (hS : cS m st) (hT : cT m tc sp ve sr) (h0 : 0 < nG m) (hN : 1 ≤ N ∧ N ≤ 64) (rs pu fe : Int32) (row se be : Nat → Int32) :
    ∃ a b r2 s2 b2, F_X2_arrange rs pu fe row se be gc tc gaps st sp (nI N) = some (a, b, nI (fw_ (oA_ m N)), r2, s2, b2) ∧ rO (nG m) (fun k => m (1 + k)) (oA_ m N).2 b2 := by
  obtain ⟨hn, h5⟩ := nG_c hg
  have hgc : gc = nI (nG m) := by rw [hG.1, hn, iI_nI]
  have hmo : ∀ i j, i < j → j < nG m → m (1 + i) < m (1 + j) := fun i j h1 h2 => hg.2.2.2 i j h1 (by omega)
  have hgb : ∀ k, k < nG m → 0 ≤ m (1 + k) ∧ m (1 + k) ≤ 60 := fun k hk => by have := hg.2.2.1 k (by omega); omega
  have main : ∀ f (o : Nat → Nat) (s : Ob) n pu (r se be : Nat → Int32), tm_ (nG m) f o = true → f ≤ 120 → f < n → (∀ k, k < nG m → o k < nG m) → oB m s → rO (nG m) (fun k => m (1 + k)) o r → ((∃ h, s.1 = some h) → rO (nG m) (fun k => m (1 + k)) s.2 be) →
      ∃ a b r2 s2 b2, L_X2_arrange_16 gc tc gaps st sp n (nI (nG m)) pu (nI (fw_ s)) r se be (nI N) 1 (nI (120 - f)) = some (a, b, nI (fw_ (ob_ m N f o s)), r2, s2, b2) ∧ rO (nG m) (fun k => m (1 + k)) (ob_ m N f o s).2 b2 := by
    intro f
    induction f with
    | zero => intro o s n pu r se be h1; cases h1
    | succ f ih =>
      intro o s n pu r se be h1 h2 h3 ho hs hr hbe
      obtain ⟨n, rfl⟩ : ∃ k, n = k + 1 := ⟨n - 1, by omega⟩
      have hfw : fw_ s ≤ 2147483647 := by
        unfold fw_
        cases h : s.1 with
        | none => exact Nat.le_refl _
        | some h' => have := hs.1 h' h; show h' ≤ _; omega
      rw [L_X2_arrange_16, if_neg (show ¬ (120 : Int32) ≤ nI (120 - (f + 1)) from nle_ (a := 120) (by decide) (by omega) (by omega)), if_neg (show ¬ (1 : Int32) = 0 by decide), if_e (show (nI (fw_ s) ≤ 0) = (fw_ s ≤ 0) from nI_le2 (b := 0) (by omega) (by decide))]
      by_cases c0 : fw_ s ≤ 0
      · rw [if_pos c0]
        obtain ⟨a, b⟩ := s
        have ha : a = some 0 := by
          cases a with
          | none => exact absurd c0 (by show ¬ 2147483647 ≤ 0; omega)
          | some h => have c0 : h ≤ 0 := c0; congr 1; omega
        subst ha
        rw [ob_0]
        exact ⟨_, _, _, _, _, rfl, hbe ⟨0, rfl⟩⟩
      · rw [if_neg c0]
        have hgp : ∀ k, k < nG m → 4 ≤ m (1 + o k) ∧ m (1 + o k) ≤ 60 := fun k hk => hg.2.2.1 (o k) (by have := ho k hk; omega)
        obtain ⟨s1, e1, hs1⟩ := ev_send (n := nG m) (G := fun k => m (1 + o k)) ⟨h0, h5⟩ hgp 0 (j := 0) (by omega) (row := r) hr hN pu se
        rw [show F_X2_send (nI (nG m)) pu r se (nI N) 0 0 = _ from e1, bs_]
        obtain ⟨q, q1, q2, q3, q4⟩ := ev_countHidden hw ht hS hT (N := N) (S := sT (nG m) (fun k => m (1 + o k)) 0 0) hN rfl (fun i hi => (oS_ hg h0 hN.2 ho i (by omega)).2) (fun i hi => (oS_ hg h0 hN.2 ho i hi).1) hs1 (E := fw_ s) (by omega)
        have hH : sm_ (hN_ m (sT (nG m) (fun k => m (1 + o k)) 0 0) N) (nT m) = oH_ m N o := rfl
        rw [hH] at q3 q4
        have hHb := oH_b ht hN.2 o
        rw [show F_X2_countHidden (nI N, s1).1 (nI N, s1).2 tc st sp (nI (fw_ s)) = some (nI q) from q2, bs_, if_e (nI_le2 (by omega) (by omega))]
        have go : ∀ (s' : Ob) (be' : Nat → Int32), s' = ot_ m N o s → oB m s' → rO (nG m) (fun k => m (1 + k)) s'.2 be' →
            ∃ a b r2 s2 b2, J_X2_arrange_81 gc tc gaps st sp (L_X2_arrange_16 gc tc gaps st sp n) (nI (nG m)) (nI N) (nI (fw_ s')) r s1 be' (nI N) (nI (120 - (f + 1))) = some (a, b, nI (fw_ (ob_ m N (f + 1) o s)), r2, s2, b2) ∧ rO (nG m) (fun k => m (1 + k)) (ob_ m N (f + 1) o s).2 b2 := by
          intro s' be' es hs' hbe'
          obtain ⟨r2, e2, e3⟩ := ev_nextRow (n := nG m) (G := fun k => m (1 + k)) ⟨h0, h5⟩ hmo hgb ho hr
          unfold J_X2_arrange_81
          rw [e2, bs_, nI_s, show 120 - (f + 1) + 1 = 120 - f by omega]
          unfold ob_
          unfold tm_ at h1
          cases hnp : np_ (nG m) o with
          | none =>
            dsimp only
            rw [← es]
            obtain ⟨n, rfl⟩ : ∃ k, n = k + 1 := ⟨n - 1, by omega⟩
            rw [L_X2_arrange_16, if_pos (show (0 : Int32) = 0 from rfl)]
            refine ⟨nI (nG m), nI N, r2, s1, be', ?_, hbe'⟩
            split <;> rfl
          | some o2 =>
            rw [hnp] at h1
            dsimp only at h1 ⊢
            rw [← es]
            exact ih o2 s' n _ r2 s1 be' h1 (by omega) (by omega) (np_b ho hnp) hs' (e3 o2 hnp) (fun _ => hbe')
        by_cases c1 : fw_ s ≤ q
        · rw [if_pos c1]
          have hle : fw_ s ≤ oH_ m N o := by
            by_cases c2 : oH_ m N o < fw_ s
            · have := q3 c2; omega
            · omega
          obtain ⟨h, hh⟩ : ∃ h, s.1 = some h := by
            cases hh : s.1 with
            | some h => exact ⟨h, rfl⟩
            | none =>
              exfalso
              have : fw_ s = 2147483647 := by unfold fw_; rw [hh]
              omega
          have hfs : fw_ s = h := by unfold fw_; rw [hh]
          have eot : s = ot_ m N o s := by
            unfold ot_
            rw [hh]
            dsimp only
            rw [if_neg (by omega)]
          exact go s be eot hs (hbe ⟨h, hh⟩)
        · rw [if_neg c1]
          have hlt : oH_ m N o < fw_ s := by
            by_cases c2 : oH_ m N o < fw_ s
            · exact c2
            · have := q4 (by omega); omega
          have eot : (some (oH_ m N o), o) = ot_ m N o s := by
            unfold ot_
            cases hh : s.1 with
            | none => rfl
            | some h =>
              have hfs : fw_ s = h := by unfold fw_; rw [hh]
              dsimp only
              rw [if_pos (by omega)]
          rw [q3 hlt]
          exact go (some (oH_ m N o), o) _ eot ⟨fun h e => by cases e; exact hHb, ho⟩ (fun k hk => by rw [sb_cpy0 (by omega)]; exact hr k hk)
  unfold F_X2_arrange F_X2_takeGaps
  rw [bs_, hgc]
  have := main 120 (fun k => k) (none, fun _ => 0) fu_ pu (va_cpy gaps row 0 0 5) se be (tm_a _ (by omega)) (by omega) (fu_lt (by omega)) (fun k hk => hk) ⟨fun h e => (by cases e), fun k hk => h0⟩ (fun k hk => by rw [sb_cpy0 (by omega)]; exact hG.2 k (by omega)) (fun h => by obtain ⟨h, e⟩ := h; cases e)
  rw [hgc] at this
  exact this
theorem ev_order {gc : Int32} {gaps st : Nat → Int32} {tc : Int32} {sp ve sr : Nat → Int32} (hg : WG m) (hw : WS m) (ht : WT m) (hG : cG m gc gaps) (hS : cS m st) (hT : cT m tc sp ve sr) (rs pu fe : Int32) (row se be : Nat → Int32) {n w : Int} (hn1 : rg n) (hw1 : rg w) :
    ∃ a b c d e f, F_X10_order gc tc gaps st sp rs pu fe row se be (iI n) (iI w) = some (qo_ m n w, a, b, c, d, e, f) := by
  obtain ⟨hn, h5⟩ := nG_c hg
  have hgc : gc = nI (nG m) := by rw [hG.1, hn, iI_nI]
  unfold F_X10_order qo_ J_X10_order_49
  rw [show F_X10_isWithin (iI n) 1 64 = _ from ev_within hn1 (b := 1) (c := 64) (by omega) (by omega), bs_, ib_]
  by_cases c1 : 1 ≤ n ∧ n ≤ 64
  · rw [if_pos (decide_eq_true c1), if_e (show (gc = 0) = (nG m = 0) by rw [hgc, iI_nI, show (0 : Int32) = iI 0 from rfl, iI_eq (by omega) (by omega)]; apply propext; omega)]
    by_cases c2 : nG m = 0
    · rw [if_pos c2, if_neg (fun h => by omega)]
      exact ⟨_, _, _, _, _, _, rfl⟩
    · obtain ⟨N, rfl⟩ : ∃ N : Nat, n = (N : Int) := ⟨n.toNat, by omega⟩
      obtain ⟨a, b, r2, s2, b2, e1, e2⟩ := ev_arrange hg hw ht hG hS hT (by omega) (N := N) (by omega) rs pu fe row se be
      obtain ⟨hh, eh⟩ := oA_s (m := m) (N := N)
      have hfw : nI (fw_ (oA_ m N)) = nI ((oA_ m N).1.getD 0) := by unfold fw_; rw [eh]; rfl
      rw [if_neg c2, ← iI_nI, e1, bs_, hG.1, show F_X10_isWithin (iI w) 10 (10 + iI (m 0) - 1) = some (bI (decide (10 ≤ w ∧ w ≤ 10 + m 0 - 1))) by rw [show (10 : Int32) = iI 10 from rfl, show (1 : Int32) = iI 1 from rfl, iI_add, iI_sub, ev_within hw1 (by omega) (by omega)], bs_, ib_, if_e (show (iI w = 0) = (w = 0) from iI_eq (b := 0) hw1 (by omega)), Int.toNat_natCast]
      by_cases c3 : w = 0
      · have cd : (1 ≤ (N : Int) ∧ (N : Int) ≤ 64) ∧ 0 < nG m ∧ (w = 0 ∨ 10 ≤ w ∧ w ≤ 10 + m 0 - 1) := ⟨c1, by omega, Or.inl c3⟩
        rw [if_pos cd]
        simp only [if_pos c3]
        rw [← hfw, if_e (show (iI w = 0) = (w = 0) from iI_eq (b := 0) hw1 (by omega)), if_pos c3]
        exact ⟨_, _, _, _, _, _, rfl⟩
      · rw [if_neg c3]
        by_cases c4 : 10 ≤ w ∧ w ≤ 10 + m 0 - 1
        · have cd : (1 ≤ (N : Int) ∧ (N : Int) ≤ 64) ∧ 0 < nG m ∧ (w = 0 ∨ 10 ≤ w ∧ w ≤ 10 + m 0 - 1) := ⟨c1, by omega, Or.inr c4⟩
          rw [if_pos cd, if_pos (decide_eq_true c4)]
          simp only [if_neg c3]
          rw [show iI w - (10 : Int32) = iI (w - 10) from iI_sub w 10, gd_ok (in_ok (by omega) (by omega) (by omega)), iI_clamp (by omega), e2 _ (by omega), if_e (show (iI w = 0) = (w = 0) from iI_eq (b := 0) hw1 (by omega)), if_neg c3]
          exact ⟨_, _, _, _, _, _, rfl⟩
        · rw [if_neg (by simpa using c4), if_neg (fun h => by rcases h.2.2 with h3 | h3; exact c3 h3; exact c4 h3)]
          exact ⟨_, _, _, _, _, _, rfl⟩
  · rw [if_neg (by simpa using c1), if_neg (fun h => c1 h.1)]
    exact ⟨_, _, _, _, _, _, rfl⟩
theorem ev_rorder {all : Nat → Int32} (hg : WG m) (hw : WS m) (ht : WT m) (hA : rA m all) (ra tx : Int32) (se ord bo : Nat → Int32) {n w : Int} (hn1 : rg n) (hw1 : rg w) :
    ∃ a b c d, F_X11_order ra tx all se ord bo (iI n) (iI w) = some (qo_ m n w, 0, a, b, c, d) := by
  obtain ⟨hn, h5⟩ := nG_c hg
  obtain ⟨hn2, h8⟩ := nT_c ht
  have hgc : all 0 = nI (nG m) := by rw [hA 0 (by decide), hn, iI_nI]
  have hmo : ∀ i j, i < j → j < nG m → m (1 + i) < m (1 + j) := fun i j h1 h2 => hg.2.2.2 i j h1 (by omega)
  -- the loop over all orders
  have main : ∀ N, 1 ≤ N ∧ N ≤ 64 → 0 < nG m → ∀ (W : Int32) f (o : Nat → Nat) (s : Ob) n tx (se r be : Nat → Int32), tm_ (nG m) f o = true → f < n → (∀ k, k < nG m → o k < nG m) → oB m s → rN (nG m) o r → ((∃ h, s.1 = some h) → rN (nG m) s.2 be) →
      ∃ a b r2 b2, L_X11_order_58 all n 0 tx se r be (nI N) W (ls_ s) 1 = J_X11_order_135 all 0 a b r2 b2 W (ls_ (ob_ m N f o s)) ∧ rN (nG m) (ob_ m N f o s).2 b2 := by
    intro N hN h0 W f
    induction f with
    | zero => intro o s n tx se r be h1; cases h1
    | succ f ih =>
      intro o s n tx se r be h1 h3 ho hs hr hbe
      obtain ⟨n, rfl⟩ : ∃ k, n = k + 1 := ⟨n - 1, by omega⟩
      obtain ⟨y, s1, e1, hs1⟩ := ev_sends hg hA h0 ho 0 (j := 0) (by omega) hr hN tx se
      have hHb := oH_b ht hN.2 o
      rw [L_X11_order_58, if_neg (show ¬ (1 : Int32) = 0 by decide), show F_X11_sends tx all se r 0 (nI N) 0 = _ from e1, bs_, show F_X11_heard all (y, s1).2 (nI N) 3 = some (nI (oH_ m N o)) by
        rw [show F_X11_heard all (y, s1).2 (nI N) 3 = _ from ev_heard hw ht hA hN (fun i hi => (oS_ hg h0 hN.2 ho i hi).1) hs1 (w := 3) (Or.inr (Or.inr rfl)), hp_3]
        rfl, bs_]
      have go : ∀ (s' : Ob) (be' : Nat → Int32), s' = ot_ m N o s → oB m s' → rN (nG m) s'.2 be' →
          ∃ a b r2 b2, J_X11_order_126 all (L_X11_order_58 all n) 0 y s1 r be' (nI N) W (ls_ s') = J_X11_order_135 all 0 a b r2 b2 W (ls_ (ob_ m N (f + 1) o s)) ∧ rN (nG m) (ob_ m N (f + 1) o s).2 b2 := by
        intro s' be' es hs' hbe'
        obtain ⟨r2, e2, e3⟩ := ev_nextOrder hgc ⟨h0, h5⟩ ho hr
        unfold J_X11_order_126
        rw [e2, bs_]
        unfold ob_
        unfold tm_ at h1
        cases hnp : np_ (nG m) o with
        | none =>
          dsimp only
          rw [← es]
          obtain ⟨n, rfl⟩ : ∃ k, n = k + 1 := ⟨n - 1, by omega⟩
          rw [L_X11_order_58, if_pos (show (0 : Int32) = 0 from rfl)]
          exact ⟨_, _, _, _, rfl, hbe'⟩
        | some o2 =>
          rw [hnp] at h1
          dsimp only at h1 ⊢
          rw [← es]
          exact ih o2 s' n y s1 r2 be' h1 (by omega) (np_b ho hnp) hs' (e3 o2 hnp) (fun _ => hbe')
      have copy : ∃ be', L_X11_order_95 all (L_X11_order_58 all n) fu_ 0 y s1 r be (nI N) W (nI (oH_ m N o)) 0 = J_X11_order_126 all (L_X11_order_58 all n) 0 y s1 r be' (nI N) W (nI (oH_ m N o)) ∧ rN (nG m) o be' := by
        have cp : ∀ d k g (be : Nat → Int32), k + d = nG m → d < g → (∀ i, i < k → be i = nI (o i)) → ∃ be', L_X11_order_95 all (L_X11_order_58 all n) g 0 y s1 r be (nI N) W (nI (oH_ m N o)) (nI k) = J_X11_order_126 all (L_X11_order_58 all n) 0 y s1 r be' (nI N) W (nI (oH_ m N o)) ∧ rN (nG m) o be' := by
          intro d
          induction d with
          | zero =>
            intro k g be a1 a2 a3
            obtain ⟨g, rfl⟩ : ∃ k, g = k + 1 := ⟨g - 1, by omega⟩
            refine ⟨be, ?_, fun i hi => a3 i (by omega)⟩
            rw [L_X11_order_95, if_pos (show all 0 ≤ nI k by rw [hgc]; exact yle_ (by omega) (by omega) (by omega))]
          | succ d ihd =>
            intro k g be a1 a2 a3
            obtain ⟨g, rfl⟩ : ∃ k, g = k + 1 := ⟨g - 1, by omega⟩
            rw [L_X11_order_95, if_neg (show ¬ all 0 ≤ nI k by rw [hgc]; exact nle_ (by omega) (by omega) (by omega)), gN_ (by omega) (by decide), gN_ (by omega) (by decide), nI_clamp (by omega), nI_s, hr k (by omega)]
            refine ihd (k + 1) g _ (by omega) (by omega) (fun i hi => ?_)
            rw [upd_at]
            by_cases c : i = k
            · rw [if_pos c, c]
            · rw [if_neg c]; exact a3 i (by omega)
        exact cp (nG m) 0 fu_ be (by omega) (fu_lt (by omega)) (fun i hi => absurd hi (Nat.not_lt_zero i))
      obtain ⟨be', c1, c2⟩ := copy
      dsimp only
      rw [c1]
      have new : (some (oH_ m N o), o) = ot_ m N o s → ∃ a b r2 b2, J_X11_order_126 all (L_X11_order_58 all n) 0 y s1 r be' (nI N) W (nI (oH_ m N o)) = J_X11_order_135 all 0 a b r2 b2 W (ls_ (ob_ m N (f + 1) o s)) ∧ rN (nG m) (ob_ m N (f + 1) o s).2 b2 := fun e => go (some (oH_ m N o), o) be' e ⟨fun h e => by cases e; exact hHb, ho⟩ c2
      cases hh : s.1 with
      | none =>
        have hl : ls_ s = -1 := by unfold ls_; rw [hh]
        rw [if_pos hl]
        refine new ?_
        unfold ot_
        rw [hh]
      | some h =>
        have hl : ls_ s = nI h := by unfold ls_; rw [hh]
        have hb := hs.1 h hh
        rw [hl, if_neg (show ¬ nI h = -1 by rw [iI_nI, show (-1 : Int32) = iI (-1) from rfl, iI_eq (by omega) (by omega)]; omega), if_e (nI_le2 (by omega) (by omega))]
        by_cases q : h ≤ oH_ m N o
        · rw [if_pos q, ← hl]
          refine go s be ?_ hs (hbe ⟨h, hh⟩)
          unfold ot_
          rw [hh]
          dsimp only
          rw [if_neg (by omega)]
        · rw [if_neg q]
          refine new ?_
          unfold ot_
          rw [hh]
          dsimp only
          rw [if_pos (by omega)]
  unfold F_X11_order qo_
  rw [show F_X11_in (iI n) 1 64 = _ from ev_in hn1 (b := 1) (c := 64) (by omega) (by omega), bs_, ib_]
  by_cases c1 : 1 ≤ n ∧ n ≤ 64
  · obtain ⟨N, rfl⟩ : ∃ N : Nat, n = (N : Int) := ⟨n.toNat, by omega⟩
    rw [if_pos (decide_eq_true c1), if_e (show (iI w = 0) = (w = 0) from iI_eq (b := 0) hw1 (by omega)), Int.toNat_natCast]
    unfold J_X11_order_38
    rw [if_e (show (all 0 = 0) = (nG m = 0) by rw [hgc, iI_nI, show (0 : Int32) = iI 0 from rfl, iI_eq (by omega) (by omega)]; apply propext; omega)]
    by_cases c2 : nG m = 0
    · have cd : ¬ ((1 ≤ (N : Int) ∧ (N : Int) ≤ 64) ∧ 0 < nG m ∧ (w = 0 ∨ 10 ≤ w ∧ w ≤ 10 + m 0 - 1)) := fun h => by omega
      rw [if_pos c2, if_neg cd]
      by_cases c3 : w = 0
      · rw [if_pos c3]; exact ⟨_, _, _, _, rfl⟩
      · rw [if_neg c3]
        cases h : F_X11_in (iI w - 10) 0 (all 0 - 1) with
        | none =>
          exfalso
          obtain ⟨a, ha, ea⟩ := iI_ex (iI w - 10)
          obtain ⟨b, hb, eb⟩ := iI_ex (all 0 - 1)
          rw [ea, eb, show F_X11_in (iI a) 0 (iI b) = _ from ev_in ha (b := 0) (by omega) hb] at h
          cases h
        | some v =>
          rw [bs_]
          split <;> exact ⟨_, _, _, _, rfl⟩
    · rw [if_neg c2]
      obtain ⟨o, eo, ho⟩ := ev_inOrder hg hA ord
      rw [eo, bs_]
      obtain ⟨a, b, r2, b2, e1, e2⟩ := main N (by omega) (by omega) (iI w) 120 (fun k => k) (none, fun _ => 0) fu_ tx se o bo (tm_a _ (by omega)) (fu_lt (by omega)) (fun k hk => hk) ⟨fun h e => (by cases e), fun k hk => (by show 0 < nG m; omega)⟩ ho (fun h => by obtain ⟨h, e⟩ := h; cases e)
      obtain ⟨hh, eh⟩ := oA_s (m := m) (N := N)
      have hls : ls_ (oA_ m N) = nI ((oA_ m N).1.getD 0) := by unfold ls_; rw [eh]; rfl
      have e1 : L_X11_order_58 all fu_ 0 tx se o bo (iI (N : Int)) (iI w) (-1) 1 = J_X11_order_135 all 0 a b r2 b2 (iI w) (ls_ (oA_ m N)) := by rw [← iI_nI]; exact e1
      have e2 : rN (nG m) (oA_ m N).2 b2 := e2
      rw [e1, hls]
      unfold J_X11_order_135
      rw [if_e (show (iI w = 0) = (w = 0) from iI_eq (b := 0) hw1 (by omega))]
      by_cases c3 : w = 0
      · rw [if_pos c3, if_pos c3, if_pos ⟨c1, by omega, Or.inl c3⟩, if_pos c3]
        exact ⟨_, _, _, _, rfl⟩
      · rw [if_neg c3, if_neg c3]
        by_cases c4 : 10 ≤ w ∧ w ≤ 10 + m 0 - 1
        · have hob : oB m (oA_ m N) := by
            rcases oA_c ht (N := N) (by omega) with h | h
            · exact h
            · omega
          have hix := hob.2 (w - 10).toNat (by omega)
          rw [show (10 : Int32) = iI 10 from rfl, iI_sub, hA 0 (by decide), show (1 : Int32) = iI 1 from rfl, iI_sub, show F_X11_in (iI (w - 10)) 0 (iI (m 0 - 1)) = _ from ev_in (by omega) (b := 0) (by omega) (by omega), bs_, ib_, if_pos (decide_eq_true (by omega)), if_pos ⟨c1, by omega, Or.inr c4⟩, if_neg c3, gd_ok (in_ok (by omega) (by omega) (by omega)), iI_clamp (by omega), e2 _ (by omega), ev_gapAt hA (by omega), bs_]
          exact ⟨_, _, _, _, rfl⟩
        · rw [if_neg (show ¬ ((1 ≤ (N : Int) ∧ (N : Int) ≤ 64) ∧ 0 < nG m ∧ (w = 0 ∨ 10 ≤ w ∧ w ≤ 10 + m 0 - 1)) from fun h => by rcases h.2.2 with h3 | h3; exact c3 h3; exact c4 h3)]
          by_cases c5 : rg (w - 10)
          · rw [show (10 : Int32) = iI 10 from rfl, iI_sub, hA 0 (by decide), show (1 : Int32) = iI 1 from rfl, iI_sub, show F_X11_in (iI (w - 10)) 0 (iI (m 0 - 1)) = _ from ev_in c5 (b := 0) (by omega) (by omega), bs_, ib_, if_neg (by simp; omega)]
            exact ⟨_, _, _, _, rfl⟩
          · have ew : iI w - (10 : Int32) = iI (w - 10 + 4294967296) := by
              rw [show (10 : Int32) = iI 10 from rfl, iI_sub, ← iI_add (w - 10) 4294967296, show iI 4294967296 = (0 : Int32) by decide, Int32.add_zero]
            rw [ew, hA 0 (by decide), show (1 : Int32) = iI 1 from rfl, iI_sub, show F_X11_in (iI (w - 10 + 4294967296)) 0 (iI (m 0 - 1)) = _ from ev_in (by omega) (b := 0) (by omega) (by omega), bs_, ib_, if_neg (by simp; omega)]
            exact ⟨_, _, _, _, rfl⟩
  · rw [if_neg (by simpa using c1), if_neg (fun h => c1 h.1)]
    exact ⟨_, _, _, _, rfl⟩
end ORD
/-! ===== END ===== -/
