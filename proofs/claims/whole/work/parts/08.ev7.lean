/-! ===== BEGIN all gaps heard ===== -/
def lsT (m : Nat → Int) (j : Nat) (f : Nat → Int32) : Nat → Int32 := fun i => if i < 60 * j then nI (bt_ (ec_ m (m (1 + i / 60)) (i % 60)) (nT m)) else f i
def lsL (m : Nat → Int) (j : Nat) (f : Nat → Int32) : Nat → Int32 := fun i => if i < 60 * j then iI (lo_ m (m (1 + i / 60)) (i % 60) (nT m)) else f i
theorem ev_listen {m : Nat → Int} {gc : Int32} {gaps st : Nat → Int32} {tc : Int32} {sp ve sr : Nat → Int32} (hg : WG m) (hw : WS m) (ht : WT m) (hG : cG m gc gaps) (hS : cS m st) (hT : cT m tc sp ve sr) (f1 f2 : Nat → Int32) :
    F_X3_listen f1 f2 gc tc gaps st sp ve sr = some (lsT m (nG m) f1, lsL m (nG m) f2) := by
  obtain ⟨hn, h5⟩ := nG_c hg
  have hgc : gc = nI (nG m) := by rw [hG.1, hn, iI_nI]
  have loop : ∀ d j n, j + d = nG m → d < n → L_X3_listen_2 gc tc gaps st sp ve sr n (lsT m j f1) (lsL m j f2) (nI j) = some (lsT m (nG m) f1, lsL m (nG m) f2) := by
    intro d
    induction d with
    | zero =>
      intro j n e hlt
      obtain ⟨n, rfl⟩ : ∃ k, n = k + 1 := ⟨n - 1, by omega⟩
      have : j = nG m := by omega
      subst this
      rw [L_X3_listen_2, hgc, if_pos (by rw [nI_le2 (by omega) (by omega)]; omega)]
    | succ d ih =>
      intro j n e hlt
      obtain ⟨n, rfl⟩ : ∃ k, n = k + 1 := ⟨n - 1, by omega⟩
      have hb := hg.2.2.1 j (by omega)
      have ih2 := ih (j + 1) n (by omega) (by omega)
      rw [hgc] at ih2
      rw [L_X3_listen_2, hgc, if_neg (by rw [nI_le2 (by omega) (by omega)]; omega), gd_ok (in_N (by omega) (by decide)), nI_clamp (by omega), hG.2 j (by omega), ev_listenBy hw ht hS hT _ _ (by omega) hb, bs_, nI_s]
      have e1 : rwT m (m (1 + j)) j (nT m) (lsT m j f1) = lsT m (j + 1) f1 := by
        funext i
        unfold rwT lsT
        by_cases h : 60 * j ≤ i ∧ i < 60 * j + 60
        · rw [if_pos h, if_pos (show i < 60 * (j + 1) by omega), show i / 60 = j by omega, show i % 60 = i - 60 * j by omega]
        · rw [if_neg h]
          by_cases h2 : i < 60 * j
          · rw [if_pos h2, if_pos (show i < 60 * (j + 1) by omega)]
          · rw [if_neg h2, if_neg (show ¬ i < 60 * (j + 1) by omega)]
      have e2 : rwL m (m (1 + j)) j (nT m) (lsL m j f2) = lsL m (j + 1) f2 := by
        funext i
        unfold rwL lsL
        by_cases h : 60 * j ≤ i ∧ i < 60 * j + 60
        · rw [if_pos h, if_pos (show i < 60 * (j + 1) by omega), show i / 60 = j by omega, show i % 60 = i - 60 * j by omega]
        · rw [if_neg h]
          by_cases h2 : i < 60 * j
          · rw [if_pos h2, if_pos (show i < 60 * (j + 1) by omega)]
          · rw [if_neg h2, if_neg (show ¬ i < 60 * (j + 1) by omega)]
      rw [e1, e2]
      exact ih2
  have z1 : f1 = lsT m 0 f1 := by
    funext i
    unfold lsT
    rw [if_neg (by omega)]
  have z2 : f2 = lsL m 0 f2 := by
    funext i
    unfold lsL
    rw [if_neg (by omega)]
  unfold F_X3_listen
  conv => lhs; rw [z1, z2]
  exact loop (nG m) 0 fu_ (by omega) (fu_lt (by omega))
/-- the reference's row of loudness: rows below j are full, row j by the first t targets, the rest of 300 is 0 -/
def llR (m : Nat → Int) (j t : Nat) (f : Nat → Int32) : Nat → Int32 := fun i => if i < 60 * j then iI (lo_ m (m (1 + i / 60)) (i % 60) (nT m)) else if i < 60 * j + 60 ∧ i < 300 then iI (lo_ m (m (1 + j)) (i - 60 * j) t) else if i < 300 then 0 else f i
theorem ev_laysLoud {m : Nat → Int} {all : Nat → Int32} (hg : WG m) (hw : WS m) (ht : WT m) (hA : rA m all) (f : Nat → Int32) :
    F_X11_laysLoud all f = some (llR m (nG m) 0 f) := by
  obtain ⟨hn, h5⟩ := nG_c hg
  obtain ⟨hn2, h8⟩ := nT_c ht
  have hgc : all 0 = nI (nG m) := by rw [hA 0 (by decide), hn, iI_nI]
  have htc : all 13 = nI (nT m) := by rw [hA 13 (by decide), hn2, iI_nI]
  have loop3 : ∀ (k : (Nat → Int32) → Int32 → Option (Nat → Int32)) (j : Nat), j < nG m → ∀ d t n, t + d = nT m → d < n → L_X11_laysLoud_36 all k n (llR m j t f) (nI j) (nI t) = k (llR m j (nT m) f) (nI (j + 1)) := by
    intro k j hj d
    have hb := hg.2.2.1 j (by omega)
    induction d with
    | zero =>
      intro t n e hlt
      obtain ⟨n, rfl⟩ : ∃ k, n = k + 1 := ⟨n - 1, by omega⟩
      have : t = nT m := by omega
      subst this
      rw [L_X11_laysLoud_36, htc, if_pos (by rw [nI_le2 (by omega) (by omega)]; omega), nI_s]
    | succ d ih =>
      intro t n e hlt
      obtain ⟨n, rfl⟩ : ∃ k, n = k + 1 := ⟨n - 1, by omega⟩
      have h1 := ht.2.2 t (by omega)
      have h2 := rn_b ht (show t < nT m by omega)
      have hm := Int.emod_nonneg (rn_ m t) (show m (1 + j) ≠ 0 by omega)
      have hm2 := Int.emod_lt_of_pos (rn_ m t) (show 0 < m (1 + j) by omega)
      have ih2 := ih (t + 1) n (by omega) (by omega)
      rw [L_X11_laysLoud_36, htc, if_neg (by rw [nI_le2 (by omega) (by omega)]; omega), ev_rrangeOf ht hA (by omega), bs_, ev_gapAt hA (by omega), bs_, gd_ok (ne_ok (by omega) (by omega)), iI_mod (by omega) (by omega) (by omega) (by omega), show (60 : Int32) = nI 60 from rfl, pk_mul, iI_nI (60 * j), iI_add]
      have hix : in_b (iI (((60 * j : Nat) : Int) + rn_ m t % m (1 + j))) 300 = true := in_ok (by omega) (by omega) (by omega)
      rw [gd_ok hix, ev_isSeen hg hw ht hA (by omega) hj, bs_, ib_, iI_clamp (by omega)]
      by_cases c : se_ m t (m (1 + j)) = true
      · rw [if_pos c, show (2 : Int32) = nI 2 from rfl, ev_of hA (by omega) (by decide), bs_, show 14 + 3 * t + 2 = 16 + 3 * t by omega]
        unfold J_X11_laysLoud_88
        rw [gd_ok hix, iI_clamp (by omega), nI_s]
        have e2 : upd (llR m j t f) (((60 * j : Nat) : Int) + rn_ m t % m (1 + j)).toNat (llR m j t f (((60 * j : Nat) : Int) + rn_ m t % m (1 + j)).toNat + iI (m (16 + 3 * t))) = llR m j (t + 1) f := by
          funext i
          rw [upd_at]
          by_cases hi : i = (((60 * j : Nat) : Int) + rn_ m t % m (1 + j)).toNat
          · rw [if_pos hi, ← hi]
            unfold llR
            rw [if_neg (by omega), if_pos (by omega), if_neg (by omega), if_pos (by omega), iI_add]
            have hec : ec_ m (m (1 + j)) (i - 60 * j) t = true := by
              unfold ec_
              rw [c, decide_eq_true (show rn_ m t % m (1 + j) = ((i - 60 * j : Nat) : Int) by omega)]; rfl
            conv => rhs; unfold lo_
            rw [if_pos hec]
          · rw [if_neg hi]
            unfold llR
            have hec : ¬ i < 60 * j → i < 60 * j + 60 ∧ i < 300 → lo_ m (m (1 + j)) (i - 60 * j) (t + 1) = lo_ m (m (1 + j)) (i - 60 * j) t := by
              intro q1 q2
              have : ec_ m (m (1 + j)) (i - 60 * j) t = false := by
                unfold ec_
                rw [decide_eq_false (show ¬ rn_ m t % m (1 + j) = ((i - 60 * j : Nat) : Int) by omega), Bool.and_false]
              conv => lhs; unfold lo_
              rw [this, if_neg (show ¬ (false = true) by decide), Int.add_zero]
            by_cases q1 : i < 60 * j
            · rw [if_pos q1, if_pos q1]
            · rw [if_neg q1, if_neg q1]
              by_cases q2 : i < 60 * j + 60 ∧ i < 300
              · rw [if_pos q2, if_pos q2, hec q1 q2]
              · rw [if_neg q2, if_neg q2]
        rw [e2]
        exact ih2
      · rw [if_neg c]
        unfold J_X11_laysLoud_88
        rw [gd_ok hix, iI_clamp (by omega), nI_s]
        have hec : ∀ p, ec_ m (m (1 + j)) p t = false := by
          intro p
          unfold ec_
          rw [show se_ m t (m (1 + j)) = false by simpa using c]; rfl
        have e2 : upd (llR m j t f) (((60 * j : Nat) : Int) + rn_ m t % m (1 + j)).toNat (llR m j t f (((60 * j : Nat) : Int) + rn_ m t % m (1 + j)).toNat + 0) = llR m j (t + 1) f := by
          funext i
          rw [upd_at, Int32.add_zero]
          have hl : ∀ p, lo_ m (m (1 + j)) p (t + 1) = lo_ m (m (1 + j)) p t := by
            intro p
            conv => lhs; unfold lo_
            rw [hec, if_neg (show ¬ (false = true) by decide), Int.add_zero]
          have e3 : llR m j t f i = llR m j (t + 1) f i := by
            unfold llR
            rw [hl]
          by_cases hi : i = (((60 * j : Nat) : Int) + rn_ m t % m (1 + j)).toNat
          · rw [if_pos hi, ← hi]; exact e3
          · rw [if_neg hi]; exact e3
        rw [e2]
        exact ih2
  have loop2 : ∀ d j n, j + d = nG m → d < n → L_X11_laysLoud_24 all n (llR m j 0 f) (nI j) = some (llR m (nG m) 0 f) := by
    intro d
    induction d with
    | zero =>
      intro j n e hlt
      obtain ⟨n, rfl⟩ : ∃ k, n = k + 1 := ⟨n - 1, by omega⟩
      have : j = nG m := by omega
      subst this
      rw [L_X11_laysLoud_24, hgc, if_pos (by rw [nI_le2 (by omega) (by omega)]; omega)]
    | succ d ih =>
      intro j n e hlt
      obtain ⟨n, rfl⟩ : ∃ k, n = k + 1 := ⟨n - 1, by omega⟩
      rw [L_X11_laysLoud_24, hgc, if_neg (by rw [nI_le2 (by omega) (by omega)]; omega), show (0 : Int32) = nI 0 from rfl, loop3 _ j (by omega) (nT m) 0 fu_ (by omega) (fu_lt (by omega))]
      have e1 : llR m j (nT m) f = llR m (j + 1) 0 f := by
        funext i
        unfold llR
        by_cases q1 : i < 60 * j
        · rw [if_pos q1, if_pos (show i < 60 * (j + 1) by omega)]
        · rw [if_neg q1]
          by_cases q2 : i < 60 * j + 60 ∧ i < 300
          · rw [if_pos q2, if_pos (show i < 60 * (j + 1) by omega), show i / 60 = j by omega, show i % 60 = i - 60 * j by omega]
          · rw [if_neg q2, if_neg (show ¬ i < 60 * (j + 1) by omega)]
            by_cases q3 : i < 60 * (j + 1) + 60 ∧ i < 300
            · rw [if_pos q3, if_pos q3.2]; rfl
            · rw [if_neg q3]
      rw [e1]
      exact ih (j + 1) n (by omega) (by omega)
  have loop1 : ∀ d i n (a : Nat → Int32), i + d = 300 → d < n → (∀ q, (q < i → a q = 0) ∧ (¬ q < i → a q = f q)) → L_X11_laysLoud_2 all n a (nI i) = some (llR m (nG m) 0 f) := by
    intro d
    induction d with
    | zero =>
      intro i n a e hlt ha
      obtain ⟨n, rfl⟩ : ∃ k, n = k + 1 := ⟨n - 1, by omega⟩
      have : i = 300 := by omega
      subst this
      rw [L_X11_laysLoud_2, show (300 : Int32) = nI 300 from rfl, if_pos (by rw [nI_le2 (by omega) (by omega)]; omega)]
      have e1 : a = llR m 0 0 f := by
        funext q
        unfold llR
        rw [if_neg (by omega)]
        by_cases q2 : q < 300
        · rw [(ha q).1 q2]
          by_cases q3 : q < 60 * 0 + 60 ∧ q < 300
          · rw [if_pos q3]; rfl
          · rw [if_neg q3, if_pos q2]
        · rw [if_neg (by omega), if_neg q2]
          exact (ha q).2 q2
      rw [e1]
      exact loop2 (nG m) 0 fu_ (by omega) (fu_lt (by omega))
    | succ d ih =>
      intro i n a e hlt ha
      obtain ⟨n, rfl⟩ : ∃ k, n = k + 1 := ⟨n - 1, by omega⟩
      rw [L_X11_laysLoud_2, show (300 : Int32) = nI 300 from rfl, if_neg (by rw [nI_le2 (by omega) (by omega)]; omega), gd_ok (in_N (by omega) (by decide)), nI_clamp (by omega), nI_s]
      refine ih (i + 1) n _ (by omega) (by omega) (fun q => ⟨fun hq => ?_, fun hq => ?_⟩)
      · rw [upd_at]
        by_cases hk : q = i
        · rw [if_pos hk]
        · rw [if_neg hk]; exact (ha q).1 (by omega)
      · rw [upd_at, if_neg (by omega)]; exact (ha q).2 (by omega)
  exact loop1 300 0 fu_ f (by omega) (fu_lt (by omega)) (fun q => ⟨fun h => absurd h (Nat.not_lt_zero q), fun _ => rfl⟩)
/-! ===== END ===== -/
