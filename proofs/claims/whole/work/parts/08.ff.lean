/-! ===== BEGIN acts: look ===== -/
/-- the oldest look goes -/
def ld_ (m : Nat → Int) : Nat → Int := fun i => if i = 40 then 3 else if 41 ≤ i ∧ i < 83 then m (i + 14) else m i
theorem ld_ne {m : Nat → Int} {i : Nat} (h : i < 40 ∨ 83 ≤ i) : ld_ m i = m i := by
  unfold ld_
  rw [if_neg (by omega), if_neg (by omega)]
theorem ld_in {m : Nat → Int} {i : Nat} (h : 41 ≤ i) (h2 : i < 83) : ld_ m i = m (i + 14) := by
  unfold ld_
  rw [if_neg (by omega), if_pos ⟨h, h2⟩]
theorem WL_ld {m : Nat → Int} (hl : WL m) (h4 : nK m = 4) : WL (ld_ m) := by
  obtain ⟨hn, -⟩ := nK_c hl
  have e40 : ld_ m 40 = 3 := rfl
  have e38 : ld_ m 38 = m 38 := ld_ne (by omega)
  obtain ⟨a, b, c, d⟩ := hl
  refine ⟨by omega, by omega, fun i hi => ?_, fun i j hij hj => ?_⟩
  · have q := c (i + 1) (by omega)
    rw [show 41 + 14 * (i + 1) = 41 + 14 * i + 14 by omega, show 42 + 14 * (i + 1) = 42 + 14 * i + 14 by omega] at q
    rw [e38, ld_in (by omega) (by omega), ld_in (by omega) (by omega)]
    refine ⟨q.1, q.2.1, fun j hj => ?_⟩
    rw [ld_in (by omega) (by omega), show 43 + 14 * i + j + 14 = 43 + 14 * (i + 1) + j by omega]
    exact q.2.2 j hj
  · have q := d (i + 1) (j + 1) (by omega) (by omega)
    rw [show 41 + 14 * (i + 1) = 41 + 14 * i + 14 by omega, show 41 + 14 * (j + 1) = 41 + 14 * j + 14 by omega] at q
    rw [ld_in (by omega) (by omega), ld_in (by omega) (by omega)]
    exact q
theorem cL_ld {m : Nat → Int} {lc : Int32} {lt lz ln : Nat → Int32} (hl : WL m) (h4 : nK m = 4) (h : cL m lc lt lz ln) : cL (ld_ m) 3 (va_cpy lt lt 1 0 3) (va_cpy lz lz 1 0 3) (va_cpy ln ln 12 0 36) := by
  obtain ⟨hn, -⟩ := nK_c hl
  have e40 : ld_ m 40 = 3 := rfl
  refine ⟨by rw [e40]; rfl, fun i hi => ?_⟩
  have q := h.2 (i + 1) (by omega)
  have w := (hl.2.2.1 (i + 1) (by omega)).2.1
  rw [show 41 + 14 * (i + 1) = 41 + 14 * i + 14 by omega, show 42 + 14 * (i + 1) = 42 + 14 * i + 14 by omega] at q
  rw [show 42 + 14 * (i + 1) = 42 + 14 * i + 14 by omega] at w
  rw [ld_in (by omega) (by omega), ld_in (by omega) (by omega)]
  unfold va_cpy
  refine ⟨?_, ?_, fun j hj => ?_⟩
  · rw [if_pos (by omega), show 1 + (i - 0) = i + 1 by omega]
    exact q.1
  · rw [if_pos (by omega), show 1 + (i - 0) = i + 1 by omega]
    exact q.2.1
  · rw [if_pos (by omega), show 12 + (12 * i + j - 0) = 12 * (i + 1) + j by omega, ld_in (by omega) (by omega), show 43 + 14 * i + j + 14 = 43 + 14 * (i + 1) + j by omega]
    exact q.2.2 j hj
/-- one look more, of n numbers -/
def lk_ (m : Nat → Int) (n : Nat) (P : Nat → Nat) : Nat → Int := fun i => if i = 40 then m 40 + 1 else if i = 41 + 14 * nK m then m 38 else if i = 42 + 14 * nK m then (n : Int) else if 43 + 14 * nK m ≤ i ∧ i < 55 + 14 * nK m then (if i - (43 + 14 * nK m) < n then (P (i - (43 + 14 * nK m)) : Int) else 0) else m i
theorem lk_ne {m : Nat → Int} {n : Nat} {P : Nat → Nat} {i : Nat} (h : i < 40 ∨ (40 < i ∧ i < 41 + 14 * nK m)) : lk_ m n P i = m i := by
  unfold lk_
  rw [if_neg (by omega), if_neg (by omega), if_neg (by omega), if_neg (by omega)]
theorem lk_t {m : Nat → Int} {n : Nat} {P : Nat → Nat} : lk_ m n P (41 + 14 * nK m) = m 38 := by
  unfold lk_
  rw [if_neg (by omega), if_pos rfl]
theorem lk_z {m : Nat → Int} {n : Nat} {P : Nat → Nat} : lk_ m n P (42 + 14 * nK m) = n := by
  unfold lk_
  rw [if_neg (by omega), if_neg (by omega), if_pos rfl]
theorem lk_n {m : Nat → Int} {n : Nat} {P : Nat → Nat} {j : Nat} (h : j < n) (hn : n ≤ 12) : lk_ m n P (43 + 14 * nK m + j) = P j := by
  unfold lk_
  rw [if_neg (by omega), if_neg (by omega), if_neg (by omega), if_pos (by omega), show 43 + 14 * nK m + j - (43 + 14 * nK m) = j by omega, if_pos h]
theorem WL_lk {m : Nat → Int} {n : Nat} {P : Nat → Nat} (hl : WL m) (h4 : nK m < 4) (hn : n ≤ 12) (hP : ∀ j, j < n → P j ≤ 999) (hlast : ∀ i : Nat, i < nK m → m (41 + 14 * i) < m 38) : WL (lk_ m n P) := by
  obtain ⟨hk, -⟩ := nK_c hl
  have e40 : lk_ m n P 40 = m 40 + 1 := rfl
  have e38 : lk_ m n P 38 = m 38 := lk_ne (by omega)
  obtain ⟨a, b, c, d⟩ := hl
  refine ⟨by omega, by omega, fun i hi => ?_, fun i j hij hj => ?_⟩
  · by_cases q : i = nK m
    · subst q
      rw [lk_t, lk_z, e38]
      refine ⟨by omega, by omega, fun j hj => ?_⟩
      have := hP j (by omega)
      rw [lk_n (by omega) hn]
      omega
    · have w := c i (by omega)
      rw [e38, lk_ne (by omega), lk_ne (by omega)]
      refine ⟨w.1, w.2.1, fun j hj => ?_⟩
      rw [lk_ne (by omega)]
      exact w.2.2 j hj
  · by_cases q : j = nK m
    · subst q
      rw [lk_ne (by omega), lk_t]
      exact hlast i hij
    · rw [lk_ne (by omega), lk_ne (by omega)]
      exact d i j hij (by omega)
theorem ev_add37 (ti : Int32) (sh ln lt lz : Nat → Int32) {K n : Nat} (hK : K < 4) (hn : n ≤ 12) : ∀ d i f (r : Nat → Int32), i + d = n → d < f → (∀ j, r j = if 12 * K ≤ j ∧ j < 12 * K + i then sh (j - 12 * K) else ln j) →
    ∃ r2, L_X5_addLook_37 ti sh 40 f (nI K) lt lz r (nI n) (nI i) = some (nI (K + 1), lt, lz, r2) ∧ ∀ j, r2 j = if 12 * K ≤ j ∧ j < 12 * K + n then sh (j - 12 * K) else ln j := by
  intro d
  induction d with
  | zero =>
    intro i f r a1 a2 a3
    obtain ⟨f, rfl⟩ : ∃ k, f = k + 1 := ⟨f - 1, by omega⟩
    have : i = n := by omega
    subst this
    rw [L_X5_addLook_37, if_pos (yle_ (by omega) (by omega) (Nat.le_refl _))]
    unfold J_X5_addLook_77
    rw [nI_s]
    exact ⟨r, rfl, a3⟩
  | succ d ih =>
    intro i f r a1 a2 a3
    obtain ⟨f, rfl⟩ : ∃ k, f = k + 1 := ⟨f - 1, by omega⟩
    rw [L_X5_addLook_37, if_neg (nle_ (by omega) (by omega) (by omega)), show (12 : Int32) = nI 12 from rfl, if_neg (nle_ (by omega) (by omega) (by omega)), if_neg (nle_ (by omega) (by omega) (by omega)), pk_mul, nI_add, gN_ (by omega) (by decide), gN_ (by omega) (by decide), nI_clamp (by omega), nI_clamp (by omega), nI_s]
    refine ih (i + 1) f _ (by omega) (by omega) (fun j => ?_)
    rw [upd_at]
    by_cases c : j = K * 12 + i
    · rw [if_pos c, if_pos (by omega)]
      exact congrArg sh (by omega)
    · rw [if_neg c, a3]
      by_cases c2 : 12 * K ≤ j ∧ j < 12 * K + i
      · rw [if_pos c2, if_pos (by omega)]
      · rw [if_neg c2, if_neg (by omega)]
theorem ev_add12 {m : Nat → Int} {lc ti : Int32} {lt lz ln sh : Nat → Int32} (hl : WL m) (h4 : nK m < 4) (hL : cL m lc lt lz ln) (ht : ti = iI (m 38)) {n : Nat} (hn : n ≤ 12) {P : Nat → Nat} (hP : ∀ j, j < n → sh j = nI (P j)) :
    ∃ lt2 lz2 ln2, J_X5_addLook_12 ti sh 40 lc lt lz ln (nI n) = some (nI (nK m + 1), lt2, lz2, ln2) ∧ cL (lk_ m n P) (nI (nK m + 1)) lt2 lz2 ln2 := by
  obtain ⟨hk, -⟩ := nK_c hl
  have elc : lc = nI (nK m) := by rw [hL.1, hk, iI_nI]
  obtain ⟨r2, e, q⟩ := ev_add37 ti sh ln (upd lt (nK m) ti) (upd lz (nK m) (nI n)) h4 hn n 0 fu_ ln (by omega) (fu_lt (by omega)) (fun j => by rw [if_neg (by omega)])
  unfold J_X5_addLook_12
  rw [elc, gN_ h4 (by decide), gN_ h4 (by decide), nI_clamp (by omega), show (0 : Int32) = nI 0 from rfl, e]
  have e40 : lk_ m n P 40 = m 40 + 1 := rfl
  refine ⟨_, _, _, rfl, by rw [e40, hk, iI_nI, Int.natCast_add]; rfl, fun i hi => ?_⟩
  rw [upd_at, upd_at]
  by_cases c : i = nK m
  · subst c
    rw [if_pos rfl, if_pos rfl, lk_t, lk_z]
    refine ⟨ht, iI_nI n, fun j hj => ?_⟩
    rw [q, if_pos (by omega), lk_n (by omega) hn, show 12 * nK m + j - 12 * nK m = j by omega, hP j (by omega), iI_nI]
  · have w := hL.2 i (by omega)
    have w2 := (hl.2.2.1 i (by omega)).2.1
    rw [if_neg c, if_neg c, lk_ne (by omega), lk_ne (by omega)]
    refine ⟨w.1, w.2.1, fun j hj => ?_⟩
    rw [q, if_neg (by omega), lk_ne (by omega)]
    exact w.2.2 j hj
theorem ev_lo154 (ra u pc : Int32) (un g1 pi tk fr A : Nat → Int32) {K n : Nat} (hK : K < 4) (hn : n ≤ 12) : ∀ d k f (r : Nat → Int32), k + d = 12 → d < f → (∀ i, r i = if 43 + 14 * K ≤ i ∧ i < 43 + 14 * K + k then (if i - (43 + 14 * K) < n then pi (i - (43 + 14 * K)) else 0) else A i) →
    ∃ r2, L_X11_look_154 f ra u pc r un g1 pi tk fr (nI (41 + 14 * K)) (nI n) (nI k) = some (nI n, ra, u, pc, r2, un, g1, pi, tk, fr) ∧ ∀ i, r2 i = if i = 40 then A 40 + 1 else if 43 + 14 * K ≤ i ∧ i < 55 + 14 * K then (if i - (43 + 14 * K) < n then pi (i - (43 + 14 * K)) else 0) else A i := by
  intro d
  induction d with
  | zero =>
    intro k f r a1 a2 a3
    obtain ⟨f, rfl⟩ : ∃ k, f = k + 1 := ⟨f - 1, by omega⟩
    have : k = 12 := by omega
    subst this
    rw [L_X11_look_154, if_pos (show (12 : Int32) ≤ nI 12 by decide)]
    refine ⟨_, rfl, fun i => ?_⟩
    rw [upd_at]
    by_cases c : i = 40
    · rw [if_pos c, if_pos c, a3, if_neg (by omega)]
    · rw [if_neg c, if_neg c, a3]
      by_cases c2 : 43 + 14 * K ≤ i ∧ i < 43 + 14 * K + 12
      · rw [if_pos c2, if_pos (show 43 + 14 * K ≤ i ∧ i < 55 + 14 * K by omega)]
      · rw [if_neg c2, if_neg (by omega)]
  | succ d ih =>
    intro k f r a1 a2 a3
    obtain ⟨f, rfl⟩ : ∃ k, f = k + 1 := ⟨f - 1, by omega⟩
    have e2 : (nI (41 + 14 * K) + (2 : Int32)) + nI k = nI (43 + 14 * K + k) := by
      rw [show (2 : Int32) = nI 2 from rfl, nI_add, nI_add]
      congr 1
      omega
    have st : ∀ v : Int32, (v = if k < n then pi k else 0) → ∀ i, upd r (43 + 14 * K + k) v i = if 43 + 14 * K ≤ i ∧ i < 43 + 14 * K + (k + 1) then (if i - (43 + 14 * K) < n then pi (i - (43 + 14 * K)) else 0) else A i := by
      intro v hv i
      rw [upd_at]
      by_cases c : i = 43 + 14 * K + k
      · rw [if_pos c, if_pos (by omega), hv, c, show 43 + 14 * K + k - (43 + 14 * K) = k by omega]
      · rw [if_neg c, a3]
        by_cases c2 : 43 + 14 * K ≤ i ∧ i < 43 + 14 * K + k
        · rw [if_pos c2, if_pos (show 43 + 14 * K ≤ i ∧ i < 43 + 14 * K + (k + 1) by omega)]
        · rw [if_neg c2, if_neg (by omega)]
    rw [L_X11_look_154, show (12 : Int32) = nI 12 from rfl, if_neg (nle_ (by omega) (by omega) (by omega)), if_e (nI_le2 (by omega) (by omega)), e2]
    unfold J_X11_look_184
    rw [gN_ (by omega) (by decide), gN_ (by omega) (by decide), nI_clamp (by omega), nI_clamp (by omega), nI_s]
    by_cases c : n ≤ k
    · rw [if_pos c]
      exact ih (k + 1) f _ (by omega) (by omega) (st _ (by rw [if_neg (by omega)]))
    · rw [if_neg c, gN_ (by omega) (by decide)]
      exact ih (k + 1) f _ (by omega) (by omega) (st _ (by rw [if_pos (by omega)]))
theorem ev_lesser {a b : Nat} (ha : a < 2 ^ 31) (hb : b < 2 ^ 31) : F_X11_lesser (nI a) (nI b) = some (nI (if a < b then a else b)) := by
  unfold F_X11_lesser
  by_cases c : a < b
  · rw [if_neg (nle_ hb ha c), if_pos c]
  · rw [if_pos (yle_ hb ha (by omega)), if_neg c]
def n12 (m : Nat → Int) : Nat := if 12 < (pt_ m).2.1 then 12 else (pt_ m).2.1
theorem n12_b (m : Nat → Int) : n12 m ≤ 12 := by
  unfold n12
  split <;> omega
theorem ev_lo102 {m : Nat → Int} {all : Nat → Int32} (hg : WG m) (hw : WS m) (ht : WT m) (hl : WL m) (h4 : nK m < 4) (hA : rA m all) (ra u pc : Int32) (un g1 g2 g3 g4 : Nat → Int32) :
    ∃ all2 b1 b2 b3 b4 b5, J_X11_look_102 ra u pc all un g1 g2 g3 g4 = some (nI (n12 m), ra, u, b1, all2, un, b2, b3, b4, b5) ∧ rA (lk_ m (n12 m) (pt_ m).2.2.1) all2 ∧ ∀ i, 97 ≤ i → all2 i = all i := by
  obtain ⟨hk, -⟩ := nK_c hl
  have hpb := pt_b hg hw ht
  have h12 := n12_b m
  obtain ⟨ld, pi, tk, fr, e1, hR⟩ := ev_laysPicture hg hw ht hA pc g1 g2 g3 g4
  have e40 : all 40 = nI (nK m) := by rw [hA 40 (by decide), hk, iI_nI]
  have ea : (41 : Int32) + (14 : Int32) * all 40 = nI (41 + 14 * nK m) := by
    rw [e40, show (14 : Int32) = nI 14 from rfl, show (41 : Int32) = nI 41 from rfl, pk_mul, nI_add]
  obtain ⟨r2, e2, q⟩ := ev_lo154 ra u (nI (pt_ m).2.1) un ld pi tk fr (upd (upd all (41 + 14 * nK m) (all 38)) (42 + 14 * nK m) (nI (n12 m))) h4 h12 12 0 fu_ _ (by omega) (fu_lt (by omega)) (fun i => by rw [if_neg (by omega)])
  unfold J_X11_look_102
  rw [e1, bs_]
  dsimp only
  rw [show (12 : Int32) = nI 12 from rfl, ev_lesser (by decide) (by omega), bs_, ea, nI_s, gN_ (by omega) (by decide), gN_ (by omega) (by decide), nI_clamp (by omega), nI_clamp (by omega), show 41 + 14 * nK m + 1 = 42 + 14 * nK m by omega]
  refine ⟨r2, _, _, _, _, _, e2, fun i hi => ?_, fun i hi => ?_⟩
  · rw [q]
    unfold lk_
    by_cases c : i = 40
    · rw [if_pos c, if_pos c, upd_at, if_neg (by omega), upd_at, if_neg (by omega), hA 40 (by decide), show (1 : Int32) = iI 1 from rfl, iI_add]
    · rw [if_neg c, if_neg c]
      by_cases c1 : i = 41 + 14 * nK m
      · rw [if_neg (by omega), if_pos c1, upd_at, if_neg (by omega), upd_at, if_pos c1, hA 38 (by decide)]
      · rw [if_neg c1]
        by_cases c2 : i = 42 + 14 * nK m
        · rw [if_neg (by omega), if_pos c2, upd_at, if_pos c2, iI_nI]
        · rw [if_neg c2]
          by_cases c3 : 43 + 14 * nK m ≤ i ∧ i < 55 + 14 * nK m
          · rw [if_pos c3, if_pos c3]
            by_cases c4 : i - (43 + 14 * nK m) < n12 m
            · have : n12 m ≤ (pt_ m).2.1 := by unfold n12; split <;> omega
              rw [if_pos c4, if_pos c4, (hR _ (by omega)).1, iI_nI]
            · rw [if_neg c4, if_neg c4]
              rfl
          · rw [if_neg c3, if_neg c3, upd_at, if_neg c2, upd_at, if_neg c1, hA i hi]
  · rw [q, if_neg (by omega), if_neg (by omega), upd_at, if_neg (by omega), upd_at, if_neg (by omega)]
theorem ev_lo58 (ra u pc : Int32) (all un g1 g2 g3 g4 : Nat → Int32) : ∀ d k f (r : Nat → Int32), k + d = 42 → d < f → (∀ i, r i = if 41 ≤ i ∧ i < 41 + k then all (i + 14) else all i) →
    ∃ r2, L_X11_look_58 f ra u pc r un g1 g2 g3 g4 (nI k) = J_X11_look_91 ra u pc r2 un g1 g2 g3 g4 ∧ ∀ i, r2 i = if 41 ≤ i ∧ i < 83 then all (i + 14) else all i := by
  intro d
  induction d with
  | zero =>
    intro k f r a1 a2 a3
    obtain ⟨f, rfl⟩ : ∃ k, f = k + 1 := ⟨f - 1, by omega⟩
    have : k = 42 := by omega
    subst this
    rw [L_X11_look_58, if_pos (show (42 : Int32) ≤ nI 42 by decide)]
    exact ⟨r, rfl, a3⟩
  | succ d ih =>
    intro k f r a1 a2 a3
    obtain ⟨f, rfl⟩ : ∃ k, f = k + 1 := ⟨f - 1, by omega⟩
    rw [L_X11_look_58, show (42 : Int32) = nI 42 from rfl, if_neg (nle_ (by omega) (by omega) (by omega)), show (41 : Int32) = nI 41 from rfl, show (14 : Int32) = nI 14 from rfl, nI_add, nI_add, gN_ (by omega) (by decide), gN_ (by omega) (by decide), nI_clamp (by omega), nI_clamp (by omega), nI_s]
    refine ih (k + 1) f _ (by omega) (by omega) (fun i => ?_)
    rw [upd_at]
    by_cases c : i = 41 + k
    · rw [if_pos c, if_pos (by omega), a3, if_neg (by omega), c]
    · rw [if_neg c, a3]
      by_cases c2 : 41 ≤ i ∧ i < 41 + k
      · rw [if_pos c2, if_pos (by omega)]
      · rw [if_neg c2, if_neg (by omega)]
section ACW
variable {m : Nat → Int} {gc tc lc ti go : Int32} {gaps st sp ve sr lt lz ln : Nat → Int32} {o s u : Int32} {ring : Nat → RT_X5} {all un : Nat → Int32}
theorem ev_look2 (hm : WM m) (h : cRd m gc tc lc ti go gaps st sp ve sr lt lz ln) (hA : rA m all) (hu : hU o s ring u un) (hlast : ∀ i : Nat, i < nK m → m (41 + 14 * i) < m 38) (ra sc pc : Int32) (f1 f2 f3 f4 f5 g1 g2 g3 g4 : Nat → Int32) :
    ∃ v lc2 lt2 lz2 ln2 o2 s2 a1 a2 a3 a4 a5 a6 ring2 u2 all2 un2 b1 b2 b3 b4 b5 m2, J_X10_look_39 gc tc ti go gaps st sp ve sr lc lt lz ln o s sc f1 f2 f3 f4 f5 ring = some (v, lc2, lt2, lz2, ln2, o2, s2, a1, a2, a3, a4, a5, a6, ring2) ∧ J_X11_look_41 ra u pc all un g1 g2 g3 g4 = some (v, ra, u2, b1, all2, un2, b2, b3, b4, b5) ∧
      WM m2 ∧ cRd m2 gc tc lc2 ti go gaps st sp ve sr lt2 lz2 ln2 ∧ rA m2 all2 ∧ (∀ i, 97 ≤ i → all2 i = all i) ∧ hU o2 s2 ring2 u2 un2 := by
  obtain ⟨o2, s2, ring2, u2, un2, q1, q2, q3⟩ := ev_save hm h hA hu
  obtain ⟨hg, hs, ht, hl⟩ := hm
  obtain ⟨c1, c2, c3, c4, c5, c6⟩ := h
  obtain ⟨hk, hk4⟩ := nK_c hl
  have e40 : all 40 = nI (nK m) := by rw [hA 40 (by decide), hk, iI_nI]
  have elc : lc = nI (nK m) := by rw [c4.1, hk, iI_nI]
  have step : ∀ (m1 : Nat → Int) (lc1 : Int32) (lt1 lz1 ln1 all1 : Nat → Int32), (∀ i, i < 40 → m1 i = m i) → WL m1 → nK m1 < 4 → cL m1 lc1 lt1 lz1 ln1 → rA m1 all1 → (∀ i : Nat, i < nK m1 → m1 (41 + 14 * i) < m1 38) → (∀ i, 97 ≤ i → all1 i = all i) →
      F_X5_addLook lc ti lt lz ln = (fun p1 n_p1 x2 => J_X5_addLook_12 ti p1 n_p1 lc1 lt1 lz1 ln1 x2) →
      (if (all 40) = (4 : Int32) then (L_X11_look_58 fu_ ra u2 pc all un2 g1 g2 g3 g4 (0 : Int32)) else (J_X11_look_102 ra u2 pc all un2 g1 g2 g3 g4)) = J_X11_look_102 ra u2 pc all1 un2 g1 g2 g3 g4 →
      ∃ v lc2 lt2 lz2 ln2 o2 s2 a1 a2 a3 a4 a5 a6 ring2 u2 all2 un2 b1 b2 b3 b4 b5 m2, J_X10_look_39 gc tc ti go gaps st sp ve sr lc lt lz ln o s sc f1 f2 f3 f4 f5 ring = some (v, lc2, lt2, lz2, ln2, o2, s2, a1, a2, a3, a4, a5, a6, ring2) ∧ J_X11_look_41 ra u pc all un g1 g2 g3 g4 = some (v, ra, u2, b1, all2, un2, b2, b3, b4, b5) ∧
      WM m2 ∧ cRd m2 gc tc lc2 ti go gaps st sp ve sr lt2 lz2 ln2 ∧ rA m2 all2 ∧ (∀ i, 97 ≤ i → all2 i = all i) ∧ hU o2 s2 ring2 u2 un2 := by
    intro m1 lc1 lt1 lz1 ln1 all1 ne hl1 h41 hL1 hA1 hla h97 eL eR
    have hg1 : WG m1 := WG_c (fun i hi => ne i (by omega)) hg
    have hs1 : WS m1 := WS_c (fun i a1 a2 => ne i (by omega)) hs
    have ht1 : WT m1 := WT_c (fun i a1 a2 => ne i (by omega)) ht
    have d1 : cG m1 gc gaps := cG_c (fun i hi => ne i (by omega)) hg c1
    have d2 : cS m1 st := cS_c (fun i a1 a2 => ne i (by omega)) c2
    have d3 : cT m1 tc sp ve sr := cT_c (fun i a1 a2 => ne i (by omega)) ht c3
    have hpb := pt_b hg1 hs1 ht1
    have h12 := n12_b m1
    have h12p : n12 m1 ≤ (pt_ m1).2.1 := by unfold n12; split <;> omega
    obtain ⟨hB, sh, tk, p1, hR⟩ := ev_paint hg1 hs1 ht1 d1 d2 (tL_ls m1 f2) sc f3 f4 f5
    obtain ⟨lt2, lz2, ln2, p2, p3⟩ := ev_add12 (sh := sh) (ti := ti) hl1 h41 hL1 (c5.trans (by rw [ne 38 (by omega)])) h12 (P := (pt_ m1).2.2.1) (fun j hj => (hR j (by omega)).1)
    obtain ⟨all2, b1, b2, b3, b4, b5, p4, p5, p6⟩ := ev_lo102 hg1 hs1 ht1 hl1 h41 hA1 ra u2 pc un2 g1 g2 g3 g4
    unfold J_X10_look_39 J_X11_look_41
    rw [q1, q2, bs_, bs_, eR, p4, ev_listen hg1 hs1 ht1 d1 d2 d3, bs_]
    dsimp only
    rw [p1, bs_]
    dsimp only
    have e12 : (if (12 : Int32) < nI (pt_ m1).2.1 then (12 : Int32) else nI (pt_ m1).2.1) = nI (n12 m1) := by
      rw [show (12 : Int32) = nI 12 from rfl, if_e (nI_lt2 (by decide) (by omega))]
      unfold n12
      by_cases c : 12 < (pt_ m1).2.1
      · rw [if_pos c, if_pos c]
      · rw [if_neg c, if_neg c]
    rw [e12, eL]
    dsimp only
    rw [p2, bs_]
    have nn : ∀ i, i < 40 → lk_ m1 (n12 m1) (pt_ m1).2.2.1 i = m i := fun i hi => by rw [lk_ne (by omega), ne i hi]
    have hb9 : nL m1 ≤ 1000 := by
      have := hs1.2.2.2.1
      unfold nL
      omega
    have hlt : ∀ j, j < (pt_ m1).2.1 → (pt_ m1).2.2.1 j < nL m1 := rp_l 41 _ (fun i hi => absurd hi (Nat.not_lt_zero i))
    refine ⟨_, _, _, _, _, _, _, _, _, _, _, _, _, _, _, _, _, _, _, _, _, _, lk_ m1 (n12 m1) (pt_ m1).2.2.1, rfl, rfl, ⟨WG_c (fun i hi => nn i (by omega)) hg, WS_c (fun i a1 a2 => nn i (by omega)) hs, WT_c (fun i a1 a2 => nn i (by omega)) ht, WL_lk hl1 h41 h12 (fun j hj => ?_) hla⟩, ⟨cG_c (fun i hi => nn i (by omega)) hg c1, cS_c (fun i a1 a2 => nn i (by omega)) c2, cT_c (fun i a1 a2 => nn i (by omega)) ht c3, p3, by rw [nn 38 (by omega)]; exact c5, by rw [nn 39 (by omega)]; exact c6⟩, p5, fun i hi => by rw [p6 i hi, h97 i hi], q3⟩
    have := hlt j (by omega)
    omega
  by_cases c : nK m = 4
  · obtain ⟨r2, e2, q⟩ := ev_lo58 ra u2 pc all un2 g1 g2 g3 g4 42 0 fu_ all (by omega) (fu_lt (by omega)) (fun i => by rw [if_neg (by omega)])
    have nk : nK (ld_ m) = 3 := rfl
    refine step (ld_ m) 3 (va_cpy lt lt 1 0 3) (va_cpy lz lz 1 0 3) (va_cpy ln ln 12 0 36) (upd r2 40 (r2 40 - 1)) (fun i hi => ld_ne (by omega)) (WL_ld hl c) (by omega) (cL_ld hl c c4) (fun i hi => ?_) (fun i hi => ?_) (fun i hi => ?_) ?_ ?_
    · rw [upd_at]
      by_cases ci : i = 40
      · rw [if_pos ci, ci, q, if_neg (by omega), e40, c]
        rfl
      · rw [if_neg ci, q]
        unfold ld_
        rw [if_neg ci]
        by_cases c2 : 41 ≤ i ∧ i < 83
        · rw [if_pos c2, if_pos c2, hA _ (by omega)]
        · rw [if_neg c2, if_neg c2, hA i hi]
    · rw [ld_in (by omega) (by omega), ld_ne (by omega)]
      exact hlast (i + 1) (by omega)
    · rw [upd_at, if_neg (by omega), q, if_neg (by omega)]
    · funext p1 n_p1 x2
      unfold F_X5_addLook F_X5_dropOldestLook
      rw [if_pos (show lc = (4 : Int32) by rw [elc, c]; rfl), bs_]
    · rw [if_pos (show all 40 = (4 : Int32) by rw [e40, c]; rfl), show (0 : Int32) = nI 0 from rfl, e2]
      rfl
  · have hne : ¬ nI (nK m) = (4 : Int32) := by
      rw [iI_nI, show (4 : Int32) = iI 4 from rfl, iI_eq (by omega) (by omega)]
      omega
    refine step m lc lt lz ln all (fun _ _ => rfl) hl (by omega) c4 hA hlast (fun _ _ => rfl) ?_ ?_
    · funext p1 n_p1 x2
      unfold F_X5_addLook
      rw [elc, if_neg hne]
    · rw [e40, if_neg hne]
theorem ev_look (hm : WM m) (h : cRd m gc tc lc ti go gaps st sp ve sr lt lz ln) (hA : rA m all) (hu : hU o s ring u un) (ra sc pc : Int32) (f1 f2 f3 f4 f5 g1 g2 g3 g4 : Nat → Int32) :
    ∃ v lc2 lt2 lz2 ln2 o2 s2 a1 a2 a3 a4 a5 a6 ring2 u2 all2 un2 b1 b2 b3 b4 b5 m2, F_X10_look gc tc lc ti go gaps st sp ve sr lt lz ln o s sc f1 f2 f3 f4 f5 ring = some (v, lc2, lt2, lz2, ln2, o2, s2, a1, a2, a3, a4, a5, a6, ring2) ∧ F_X11_look ra u pc all un g1 g2 g3 g4 = some (v, 0, u2, b1, all2, un2, b2, b3, b4, b5) ∧
      WM m2 ∧ cRd m2 gc tc lc2 ti go gaps st sp ve sr lt2 lz2 ln2 ∧ rA m2 all2 ∧ (∀ i, 97 ≤ i → all2 i = all i) ∧ hU o2 s2 ring2 u2 un2 := by
  have hm0 := hm
  have h0 := h
  obtain ⟨hg, hs, ht, hl⟩ := hm
  obtain ⟨c1, c2, c3, c4, c5, c6⟩ := h
  obtain ⟨hk, hk4⟩ := nK_c hl
  have e40 : all 40 = nI (nK m) := by rw [hA 40 (by decide), hk, iI_nI]
  have elc : lc = nI (nK m) := by rw [c4.1, hk, iI_nI]
  unfold F_X10_look F_X11_look
  by_cases c : nK m = 0
  · rw [if_pos (show lc ≤ (0 : Int32) by rw [elc, c]; decide), if_pos (show all 40 ≤ (0 : Int32) by rw [e40, c]; decide)]
    exact ev_look2 hm0 h0 hA hu (fun i hi => by omega) 0 sc pc f1 f2 f3 f4 f5 g1 g2 g3 g4
  · have w := c4.2 (nK m - 1) (by omega)
    have b := hl.2.2.1 (nK m - 1) (by omega)
    have b38 := hl.2.1
    rw [if_neg (show ¬ lc ≤ (0 : Int32) by rw [elc]; exact nle_ (b := 0) (by omega) (by omega) (by omega)), if_neg (show ¬ all 40 ≤ (0 : Int32) by rw [e40]; exact nle_ (b := 0) (by omega) (by omega) (by omega)), elc, e40, s1_ (by omega), gN_ (by omega) (by decide), nI_clamp (by omega), w.1, c5, lk_0 hA (by omega), bs_, hA 38 (by decide), if_e (iI_eq (by omega) (by omega)), if_e (iI_eq (by omega) (by omega)), ← elc, ← c5]
    by_cases ce : m (41 + 14 * (nK m - 1)) = m 38
    · rw [if_pos ce, if_pos ce]
      exact ⟨_, _, _, _, _, _, _, _, _, _, _, _, _, _, _, _, _, _, _, _, _, _, m, rfl, rfl, hm0, h0, hA, fun _ _ => rfl, hu⟩
    · rw [if_neg ce, if_neg ce]
      refine ev_look2 hm0 h0 hA hu (fun i hi => ?_) 0 sc pc f1 f2 f3 f4 f5 g1 g2 g3 g4
      by_cases ci : i = nK m - 1
      · rw [ci]
        omega
      · have := hl.2.2.2 i (nK m - 1) (by omega) (by omega)
        omega
end ACW
/-! ===== END ===== -/
