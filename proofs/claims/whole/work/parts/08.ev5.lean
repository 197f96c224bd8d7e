/-! ===== BEGIN targets: ranges, what a gap sees ===== -/
theorem ev_hasGap {m : Nat → Int} {gc : Int32} (hg : WG m) (hG : gc = iI (m 0)) {a : Int} (ha : rg a) : F_X5_hasGap gc (iI a) = some (bI (decide (0 ≤ a ∧ a < m 0))) := by
  obtain ⟨h0, h5, -⟩ := hg
  unfold F_X5_hasGap
  rw [hG, if_e (iI_l0 ha), if_e (iI_le (by omega) ha)]
  by_cases h1 : a < 0
  · rw [if_pos h1, decide_eq_false (by omega)]; rfl
  · rw [if_neg h1]
    by_cases h2 : m 0 ≤ a
    · rw [if_pos h2, decide_eq_false (by omega)]; rfl
    · rw [if_neg h2, decide_eq_true (by omega)]; rfl
theorem ev_risGap {m : Nat → Int} {all : Nat → Int32} (hg : WG m) (hA : rA m all) {a : Int} (ha : rg a) : F_X11_isGap all (iI a) = some (bI (decide (0 ≤ a ∧ a < m 0))) := by
  obtain ⟨h0, h5, -⟩ := hg
  unfold F_X11_isGap
  rw [hA 0 (by decide), show (0 : Int32) = iI 0 from rfl, show (1 : Int32) = iI 1 from rfl, iI_sub, ev_in ha (by omega) (by omega), bs_]
  have e : decide (0 ≤ a ∧ a ≤ m 0 - 1) = decide (0 ≤ a ∧ a < m 0) := by
    congr 1
    apply propext
    omega
  rw [e]
  exact gd_ok bI_n
/-- blind(speed) -/
def qb_ (m : Nat → Int) (x : Int32) : Int32 := if -500 ≤ x.toInt ∧ x.toInt ≤ 500 then nI (bt_ (fun k => bl_ m x.toInt (m (1 + k))) (nG m)) else -1
theorem ev_blind {m : Nat → Int} {gc : Int32} {gaps st : Nat → Int32} (hg : WG m) (hw : WS m) (hG : cG m gc gaps) (hS : cS m st) (x : Int32) : F_X10_blind gc gaps st x = some (qb_ m x) := by
  obtain ⟨a, ha, rfl⟩ := iI_ex x
  unfold F_X10_blind qb_
  rw [ev_isSpeed ha, bs_, ib_, iI_toInt ha]
  by_cases c : -500 ≤ a ∧ a ≤ 500
  · rw [if_pos (decide_eq_true c), if_pos c, ev_blindGaps hg hw hG hS c, bs_]
  · rw [if_neg (by simpa using c), if_neg c]
theorem ev_rblind {m : Nat → Int} {all : Nat → Int32} (hg : WG m) (hw : WS m) (hA : rA m all) (ra x : Int32) : F_X11_blind ra all x = some (qb_ m x, 0) := by
  obtain ⟨a, ha, rfl⟩ := iI_ex x
  unfold F_X11_blind qb_
  rw [show (-500 : Int32) = iI (-500) from rfl, show (500 : Int32) = iI 500 from rfl, ev_in ha (by omega) (by omega), bs_, ib_, iI_toInt ha]
  by_cases c : -500 ≤ a ∧ a ≤ 500
  · rw [if_pos (decide_eq_true c), if_pos c, ev_blindBits hg hw hA c, bs_]
  · rw [if_neg (by simpa using c), if_neg c]
/-- doppler(speed, k) -/
def qp_ (m : Nat → Int) (x y : Int32) : Int32 := if (-500 ≤ x.toInt ∧ x.toInt ≤ 500) ∧ 0 ≤ y.toInt ∧ y.toInt < m 0 then iI ((x.toInt * m (1 + y.toInt.toNat)) % m 6) else -1
theorem vg_b {v g : Int} (hv : -500 ≤ v ∧ v ≤ 500) (hg : 0 ≤ g ∧ g ≤ 63) : -31500 ≤ v * g ∧ v * g ≤ 31500 := by
  have a1 : v * g ≤ 500 * g := Int.mul_le_mul_of_nonneg_right hv.2 hg.1
  have a2 : (-500) * g ≤ v * g := Int.mul_le_mul_of_nonneg_right hv.1 hg.1
  omega
theorem ev_doppler {m : Nat → Int} {gc : Int32} {gaps st : Nat → Int32} (hg : WG m) (hw : WS m) (hG : cG m gc gaps) (hS : cS m st) (x y : Int32) : F_X10_doppler gc gaps st x y = some (qp_ m x y) := by
  obtain ⟨a, ha, rfl⟩ := iI_ex x
  obtain ⟨b, hb, rfl⟩ := iI_ex y
  obtain ⟨h6, -⟩ := id hw
  unfold F_X10_doppler qp_
  rw [ev_isSpeed ha, bs_, ib_, iI_toInt ha, iI_toInt hb]
  by_cases c : -500 ≤ a ∧ a ≤ 500
  · rw [if_pos (decide_eq_true c), ev_hasGap hg hG.1 hb, bs_, ib_]
    by_cases d : 0 ≤ b ∧ b < m 0
    · have h1 := hg.2.2.1 b.toNat (by omega)
      have h2 := vg_b c (show 0 ≤ m (1 + b.toNat) ∧ m (1 + b.toNat) ≤ 63 by omega)
      have h5 := hg.2.1
      rw [if_pos (decide_eq_true d), if_pos ⟨c, d⟩, gd_ok (in_ok (by omega) (by omega) (by omega)), iI_clamp hb, hG.2 b.toNat (by omega), show st 0 = iI (m 6) from hS 0 (by decide), iI_mul, ev_rest (by omega) (by omega) (by omega) (by omega), bs_]
    · rw [if_neg (by simpa using d), if_neg (fun h => d h.2)]
  · rw [if_neg (by simpa using c), if_neg (fun h => c h.1)]
theorem ev_rdoppler {m : Nat → Int} {all : Nat → Int32} (hg : WG m) (hw : WS m) (hA : rA m all) (ra x y : Int32) : F_X11_doppler ra all x y = some (qp_ m x y, 0) := by
  obtain ⟨a, ha, rfl⟩ := iI_ex x
  obtain ⟨b, hb, rfl⟩ := iI_ex y
  obtain ⟨h6, -⟩ := id hw
  unfold F_X11_doppler qp_
  rw [show (-500 : Int32) = iI (-500) from rfl, show (500 : Int32) = iI 500 from rfl, ev_in ha (by omega) (by omega), bs_, ib_, iI_toInt ha, iI_toInt hb]
  by_cases c : -500 ≤ a ∧ a ≤ 500
  · rw [if_pos (decide_eq_true c), ev_risGap hg hA hb, bs_, ib_]
    by_cases d : 0 ≤ b ∧ b < m 0
    · have h1 := hg.2.2.1 b.toNat (by omega)
      have h2 := vg_b c (show 0 ≤ m (1 + b.toNat) ∧ m (1 + b.toNat) ≤ 63 by omega)
      have h5 := hg.2.1
      rw [if_pos (decide_eq_true d), if_pos ⟨c, d⟩, iN d.1, ev_gapAt hA (by omega), bs_, iI_mul, hA 6 (by decide), ev_rrest (by omega) (by omega) (by omega) (by omega), bs_]
    · rw [if_neg (by simpa using d), if_neg (fun h => d h.2)]
  · rw [if_neg (by simpa using c), if_neg (fun h => c h.1)]
/-- the number of targets; a target's range; whether a gap sees it -/
def nT (m : Nat → Int) : Nat := (m 13).toNat
theorem nT_c {m : Nat → Int} (h : WT m) : m 13 = (nT m : Int) ∧ nT m ≤ 8 := by
  obtain ⟨h0, h5, -⟩ := h
  unfold nT
  omega
def rn_ (m : Nat → Int) (t : Nat) : Int := m (14 + 3 * t) / 16
theorem rn_b {m : Nat → Int} (h : WT m) {t : Nat} (ht : t < nT m) : 0 ≤ rn_ m t ∧ rn_ m t ≤ 2999 := by
  obtain ⟨hn, -⟩ := nT_c h
  have h1 := h.2.2 t (by omega)
  unfold rn_
  omega
def se_ (m : Nat → Int) (t : Nat) (g : Int) : Bool := !(bl_ m (m (15 + 3 * t)) g) && decide (m 8 ≤ rn_ m t % g)
theorem ev_rangeOf {m : Nat → Int} {tc : Int32} {sp ve sr : Nat → Int32} (ht : WT m) (hT : cT m tc sp ve sr) {t : Nat} (h : t < nT m) : F_X5_rangeOf sp (nI t) = some (iI (rn_ m t)) := by
  obtain ⟨hn, h8⟩ := nT_c ht
  have h1 := ht.2.2 t (by omega)
  unfold F_X5_rangeOf
  rw [gd_ok (in_N (by omega) (by decide)), nI_clamp (by omega), (hT.2 t (by omega)).1, show (16 : Int32) = iI 16 from rfl, iI_quo (by omega) (by omega) (by omega) (by omega)]
  rfl
theorem ev_of {m : Nat → Int} {all : Nat → Int32} (hA : rA m all) {t j : Nat} (h : t < 8) (hj : j < 3) : F_X11_of all (nI t) (nI j) = some (iI (m (14 + 3 * t + j))) := by
  unfold F_X11_of
  rw [show (14 : Int32) = nI 14 from rfl, show (3 : Int32) = nI 3 from rfl, pk_mul, nI_add, nI_add, gd_ok (in_N (by omega) (by decide)), nI_clamp (by omega), hA _ (by omega)]
theorem ev_rrangeOf {m : Nat → Int} {all : Nat → Int32} (ht : WT m) (hA : rA m all) {t : Nat} (h : t < nT m) : F_X11_rangeOf all (nI t) = some (iI (rn_ m t)) := by
  obtain ⟨hn, h8⟩ := nT_c ht
  have h1 := ht.2.2 t (by omega)
  unfold F_X11_rangeOf
  rw [show (0 : Int32) = nI 0 from rfl, ev_of hA (by omega) (by decide), bs_, show (16 : Int32) = iI 16 from rfl, Nat.add_zero, iI_quo (by omega) (by omega) (by omega) (by omega)]
  rfl
theorem ev_sees {m : Nat → Int} {st : Nat → Int32} {tc : Int32} {sp ve sr : Nat → Int32} (hw : WS m) (ht : WT m) (hS : cS m st) (hT : cT m tc sp ve sr) {t : Nat} (h : t < nT m) {g : Int} (hg : 1 ≤ g ∧ g ≤ 63) :
    F_X5_sees st sp ve (nI t) (iI g) = some (bI (se_ m t g)) := by
  obtain ⟨hn, h8⟩ := nT_c ht
  have h1 := ht.2.2 t (by omega)
  have h2 := rn_b ht h
  obtain ⟨-, -, h88, -⟩ := id hw
  have hm := Int.emod_nonneg (rn_ m t) (show g ≠ 0 by omega)
  have hm2 := Int.emod_lt_of_pos (rn_ m t) (show 0 < g by omega)
  unfold F_X5_sees se_
  rw [ev_rangeOf ht hT h, bs_, ev_rest (by omega) (by omega) (by omega) (by omega), bs_, show st 2 = iI (m 8) from hS 2 (by decide), if_e (iI_lt (by omega) (by omega))]
  by_cases c : rn_ m t % g < m 8
  · rw [if_pos c, decide_eq_false (by omega), Bool.and_false]; rfl
  · rw [if_neg c, gd_ok (in_N (by omega) (by decide)), nI_clamp (by omega), (hT.2 t (by omega)).2.1, ev_hides hw hS h1.2.1 (by omega), bs_, ib_, decide_eq_true (show m 8 ≤ rn_ m t % g by omega), Bool.and_true]
    cases bl_ m (m (15 + 3 * t)) g <;> rfl
theorem ev_isSeen {m : Nat → Int} {all : Nat → Int32} (hg : WG m) (hw : WS m) (ht : WT m) (hA : rA m all) {t k : Nat} (h : t < nT m) (hk : k < nG m) :
    F_X11_isSeen all (nI t) (nI k) = some (bI (se_ m t (m (1 + k)))) := by
  obtain ⟨hn, h8⟩ := nT_c ht
  obtain ⟨hn2, h5⟩ := nG_c hg
  have h1 := ht.2.2 t (by omega)
  have h2 := rn_b ht h
  have h3 := hg.2.2.1 k (by omega)
  obtain ⟨-, -, h88, -⟩ := id hw
  have hm := Int.emod_nonneg (rn_ m t) (show m (1 + k) ≠ 0 by omega)
  have hm2 := Int.emod_lt_of_pos (rn_ m t) (show 0 < m (1 + k) by omega)
  unfold F_X11_isSeen se_
  rw [show (1 : Int32) = nI 1 from rfl, ev_of hA (by omega) (by decide), bs_, ev_gapAt hA (by omega), bs_, show 14 + 3 * t + 1 = 15 + 3 * t by omega, ev_isBlind hw hA h1.2.1 (by omega), bs_, ib_]
  by_cases c : bl_ m (m (15 + 3 * t)) (m (1 + k)) = true
  · rw [if_pos c, c]; rfl
  · rw [if_neg c, ev_rrangeOf ht hA h, bs_, bs_, gd_ok (ne_ok (by omega) (by omega)), iI_mod (by omega) (by omega) (by omega) (by omega), hA 8 (by decide), if_e (iI_lt (by omega) (by omega))]
    have c2 : bl_ m (m (15 + 3 * t)) (m (1 + k)) = false := by simpa using c
    rw [c2]
    by_cases d : rn_ m t % m (1 + k) < m 8
    · rw [if_pos d, decide_eq_false (by omega)]; rfl
    · rw [if_neg d, decide_eq_true (by omega)]; rfl
/-! ===== END ===== -/
