/-! ===== BEGIN track(k, what), the class: the call ===== -/
theorem ev_seek {m : Nat → Int} {lc : Int32} {lt lz ln : Nat → Int32} (hl : WL m) (hL : cL m lc lt lz ln) (pd : Int32) (ls pa : Nat → Int32) {kn : Nat} (hk : kn < 2 ^ 31) :
    (∃ r pd2 ls2 pa2, nt_ (tP_ m) 0 (tR_ m) kn = some r ∧ F_X9_seek pd ls pa lc lt lz ln (nI kn) = some (1, pd2, ls2, pa2) ∧ ∀ i, i < nK m → pa2 i = nI (dg_ (sz_ m) (nK m) r i)) ∨
    (ct_ (tP_ m) 0 (tR_ m) ≤ kn ∧ ∃ ls2 pa2, F_X9_seek pd ls pa lc lt lz ln (nI kn) = some (0, nI (ct_ (tP_ m) 0 (tR_ m)), ls2, pa2)) := by
  obtain ⟨hn, h4⟩ := nK_c hl
  have hlc : lc = nI (nK m) := by rw [hL.1, hn, iI_nI]
  unfold F_X9_seek
  rw [hlc, show (2 : Int32) = nI 2 from rfl, if_e (nI_le2 (by omega) (by omega))]
  by_cases h2 : 2 ≤ nK m
  · rw [if_pos h2, ← hlc, xR h2 h4]
    obtain ⟨z1, z2⟩ := sz_c hl (show 0 < nK m by omega)
    have hz : lz 0 = nI (sz_ m 0) := by
      have := (hL.2 0 (by omega)).2.1
      rw [this, z1, iI_nI]
    have main : ∀ d i n (ls pa : Nat → Int32), i + d = sz_ m 0 → d < n → ct_ (tP_ m) 0 (bk_ m i 0 0 * xL m) ≤ kn →
        (∃ r pd2 ls2 pa2, nt_ (tP_ m) 0 (bk_ m (sz_ m 0) 0 0 * xL m) kn = some r ∧ L_X9_seek_17 lc lt lz ln n (nI (ct_ (tP_ m) 0 (bk_ m i 0 0 * xL m))) ls pa (nI kn) (nI i) = some (1, pd2, ls2, pa2) ∧ ∀ i, i < nK m → pa2 i = nI (dg_ (sz_ m) (nK m) r i)) ∨
        (ct_ (tP_ m) 0 (bk_ m (sz_ m 0) 0 0 * xL m) ≤ kn ∧ ∃ ls2 pa2, L_X9_seek_17 lc lt lz ln n (nI (ct_ (tP_ m) 0 (bk_ m i 0 0 * xL m))) ls pa (nI kn) (nI i) = some (0, nI (ct_ (tP_ m) 0 (bk_ m (sz_ m 0) 0 0 * xL m)), ls2, pa2)) := by
      intro d
      induction d with
      | zero =>
        intro i n ls pa a1 a2 a3
        obtain ⟨n, rfl⟩ : ∃ k, n = k + 1 := ⟨n - 1, by omega⟩
        have : i = sz_ m 0 := by omega
        subst this
        right
        refine ⟨a3, ls, pa, ?_⟩
        rw [L_X9_seek_17, hz, if_pos (yle_ (by omega) (by omega) (Nat.le_refl _))]
      | succ d ih =>
        intro i n ls pa a1 a2 a3
        obtain ⟨n, rfl⟩ : ∃ k, n = k + 1 := ⟨n - 1, by omega⟩
        have a0 : i < sz_ m 0 := by omega
        have hp : upd pa 0 (nI i) 0 = nI i := by rw [upd_at, if_pos rfl]
        obtain ⟨l2, e1, hl2⟩ := ev_alignAll hl hL hp a0 h2 ls
        rw [L_X9_seek_17, hz, if_neg (nle_ (by omega) (by omega) a0), e1, bs_]
        rcases ev_seekMiddle hl hL h2 a0 hl2 hp hk a3 with ⟨r, pd2, pa2, q1, q2, q3⟩ | ⟨q1, q2⟩
        · left
          rw [xR h2 h4] at q1
          refine ⟨r, pd2, l2, pa2, q1, ?_, q3⟩
          rw [q2, bs_, if_neg (show ¬ (1 : Int32) = 0 by decide)]
        · rw [q2, bs_, if_pos rfl, nI_s]
          exact ih (i + 1) n l2 _ (by omega) (by omega) q1
    have e0 : bk_ m 0 0 0 * xL m = 0 := by
      unfold bk_
      simp
    have := main (sz_ m 0) 0 fu_ ls pa (by omega) (fu_lt (by omega)) (by rw [e0]; exact Nat.zero_le _)
    rw [e0] at this
    exact this
  · rw [if_neg h2]
    have e0 : tR_ m = 0 := by
      unfold tR_
      rw [if_pos (by omega)]
    rw [e0]
    exact Or.inr ⟨Nat.zero_le _, ls, pa, rfl⟩
theorem tr_s {m : Nat → Int} {r kn : Nat} (h : nt_ (tP_ m) 0 (tR_ m) kn = some r) : 2 ≤ nK m ∧ ∀ i, i < nK m → 0 < sz_ m i := by
  by_cases c : hz_ m (nK m) = true
  · exact hz_t c
  · have e := tR_0 (m := m) (by simpa using c)
    rw [e] at h
    cases h
theorem ev_numberIn {m : Nat → Int} {lc : Int32} {lt lz ln pa : Nat → Int32} (hl : WL m) (hL : cL m lc lt lz ln) {D : Nat → Nat} (hD : ∀ i, i < nK m → D i < sz_ m i) (hw : ∀ i, i < nK m → pa i = nI (D i)) {i : Nat} (hi : i < nK m) :
    F_X9_numberIn pa ln (nI i) = some (iI (nb_ m D i)) := by
  obtain ⟨hn, h4⟩ := nK_c hl
  unfold F_X9_numberIn
  rw [gN_ (by omega) (by decide), nI_clamp (by omega), hw i hi, ev_numberAt hl hL hi (hD i hi), bs_]
  rfl
theorem ev_paceOf {m : Nat → Int} {lc : Int32} {lt lz ln pa : Nat → Int32} (hl : WL m) (hL : cL m lc lt lz ln) (h2 : 2 ≤ nK m) {D : Nat → Nat} (hD : ∀ i, i < nK m → D i < sz_ m i) (hw : ∀ i, i < nK m → pa i = nI (D i)) :
    F_X9_paceOf pa lc lt ln = some (vt_ m D 10) := by
  obtain ⟨hn, h4⟩ := nK_c hl
  have elc : lc - 1 = nI (nK m - 1) := by rw [hL.1, hn, ← iI_nI, s1_ (by omega)]
  have b0 := nb_b hl (i := 0) (by omega) (hD 0 (by omega))
  have bl := nb_b hl (i := nK m - 1) (by omega) (hD (nK m - 1) (by omega))
  have tl := tt_b hl (i := nK m - 1) (by omega)
  have tl2 := tl.2.2 (by omega)
  have num0 : F_X9_numberIn pa ln (0 : Int32) = some (iI (nb_ m D 0)) := ev_numberIn hl hL hD hw (i := 0) (by omega)
  have t0 : lt 0 = iI (m 41) := (hL.2 0 (by omega)).1
  unfold F_X9_paceOf vt_
  rw [elc, gN_ (by omega) (by decide), nI_clamp (by omega), ev_numberIn hl hL hD hw (by omega), bs_, num0, bs_, (hL.2 (nK m - 1) (by omega)).1, t0, iI_sub, iI_sub, show m (41 + 14 * (nK m - 1)) - m 41 = tt_ m (nK m - 1) from rfl, if_pos rfl,
    if_neg (show ¬ iI (tt_ m (nK m - 1)) ≤ 0 by rw [show (0 : Int32) = iI 0 from rfl, iI_le (by omega) (by omega)]; omega), gd_ok (ne_ok (by omega) (by omega)), show (16 : Int32) = iI 16 from rfl, iI_mul, iI_div (by omega) (by omega) (by omega)]
theorem ev_track {m : Nat → Int} {lc : Int32} {lt lz ln : Nat → Int32} (hl : WL m) (hL : cL m lc lt lz ln) (pd : Int32) (ls pa : Nat → Int32) {x y : Int} (hx : rg x) (hy : rg y) :
    ∃ a b c, F_X10_track lc lt lz ln pd ls pa (iI x) (iI y) = some (qz_ m x y, a, b, c) := by
  obtain ⟨hn, h4⟩ := nK_c hl
  have hR := tR_b hl
  have hcR := ct_le (tP_ m) (tR_ m) 0
  have elc : lc - 1 = iI (m 40 - 1) := by rw [hL.1, show (1 : Int32) = iI 1 from rfl, iI_sub]
  have ex : (iI x = -1) = (x = -1) := by
    rw [show (-1 : Int32) = iI (-1) from rfl]
    exact iI_eq hx (by omega)
  have ey : (iI y = 0) = (y = 0) := iI_eq (b := 0) hy (by omega)
  have ex0 : (iI x < 0) = (x < 0) := iI_l0 hx
  have ey10 : (iI y = 10) = (y = 10) := iI_eq (b := 10) hy (by omega)
  unfold F_X10_track qz_
  rw [if_e ex, if_e ey]
  by_cases c1 : x = -1
  · rw [if_pos c1, if_pos c1]
    by_cases c2 : y = 0
    · rw [if_pos c2, if_pos c2]
      unfold F_X9_countAll
      rcases ev_seek hl hL pd ls pa (kn := 2147483647) (by decide) with ⟨r, pd2, ls2, pa2, q1, q2, q3⟩ | ⟨q1, ls2, pa2, q2⟩
      · rw [nt_ge (by omega)] at q1
        cases q1
      · rw [show (2147483647 : Int32) = nI 2147483647 from rfl, q2, bs_, if_pos rfl, bs_]
        exact ⟨_, _, _, rfl⟩
    · rw [if_neg c2, if_neg c2]
      exact ⟨_, _, _, rfl⟩
  · rw [if_neg c1, if_neg c1, if_e ex0, if_e ey10]
    by_cases c3 : x < 0
    · rw [if_pos c3, if_neg (by omega)]
      exact ⟨_, _, _, rfl⟩
    · rw [if_neg c3]
      obtain ⟨k, rfl⟩ : ∃ t : Nat, x = t := ⟨x.toNat, by omega⟩
      have fin : (y = 10 ∨ (0 ≤ y ∧ y < m 40)) → ∃ a b c, J_X10_track_58 lc lt lz ln pd ls pa (iI k) (iI y) = some ((match nt_ (tP_ m) 0 (tR_ m) ((k : Int)).toNat with
            | some r => vt_ m (dg_ (sz_ m) (nK m) r) (iI y)
            | none => -100000), a, b, c) := by
        intro h
        unfold J_X10_track_58
        rw [Int.toNat_natCast, ← iI_nI k]
        rcases ev_seek hl hL pd ls pa (kn := k) (by omega) with ⟨r, pd2, ls2, pa2, q1, q2, q3⟩ | ⟨q1, ls2, pa2, q2⟩
        · obtain ⟨s1, s2⟩ := tr_s q1
          rw [q1, q2, bs_, if_neg (show ¬ (1 : Int32) = 0 by decide)]
          have hD : ∀ i, i < nK m → dg_ (sz_ m) (nK m) r i < sz_ m i := fun i hi => dg_b (s2 i hi)
          dsimp only
          rw [if_e ey10]
          by_cases c4 : y = 10
          · rw [if_pos c4, ev_paceOf hl hL s1 hD q3, bs_, c4]
            exact ⟨_, _, _, rfl⟩
          · have h : 0 ≤ y ∧ y < m 40 := by omega
            obtain ⟨j, rfl⟩ : ∃ t : Nat, y = t := ⟨y.toNat, by omega⟩
            rw [if_neg c4, ← iI_nI j, ev_numberIn hl hL hD q3 (show j < nK m by omega), bs_]
            unfold vt_
            rw [iI_nI j, if_e ey10, if_neg c4, ← iI_nI j, nI_clamp (by omega)]
            exact ⟨_, _, _, rfl⟩
        · rw [nt_ge q1, q2, bs_, if_pos rfl]
          exact ⟨_, _, _, rfl⟩
      by_cases c4 : y = 10
      · rw [if_pos c4, if_pos ⟨by omega, Or.inl c4⟩]
        exact fin (Or.inl c4)
      · rw [if_neg c4, elc, show (0 : Int32) = iI 0 from rfl, ev_within hy (by omega) (by omega), bs_, show iI 0 = (0 : Int32) from rfl, ib_]
        by_cases c5 : 0 ≤ y ∧ y < m 40
        · rw [if_pos (decide_eq_true (by omega)), if_pos ⟨by omega, Or.inr c5⟩]
          exact fin (Or.inr c5)
        · rw [if_neg (by rw [decide_eq_false (by omega)]; decide), if_neg (by omega)]
          exact ⟨_, _, _, rfl⟩
/-! ===== END ===== -/
