/-! ===== BEGIN echoes, hits, at ===== -/
def tL (m : Nat → Int) (ld : Nat → Int32) : Prop := ∀ k p : Nat, k < nG m → p < 60 → ld (60 * k + p) = iI (lo_ m (m (1 + k)) p (nT m))
def tB (m : Nat → Int) (tg : Nat → Int32) : Prop := ∀ k p : Nat, k < nG m → p < 60 → tg (60 * k + p) = nI (bt_ (ec_ m (m (1 + k)) p) (nT m))
theorem tL_ls (m : Nat → Int) (f : Nat → Int32) : tL m (lsL m (nG m) f) := by
  intro k p hk hp
  unfold lsL
  rw [if_pos (by omega), show (60 * k + p) / 60 = k by omega, show (60 * k + p) % 60 = p by omega]
theorem tB_ls (m : Nat → Int) (f : Nat → Int32) : tB m (lsT m (nG m) f) := by
  intro k p hk hp
  unfold lsT
  rw [if_pos (by omega), show (60 * k + p) / 60 = k by omega, show (60 * k + p) % 60 = p by omega]
theorem tL_ll (m : Nat → Int) (f : Nat → Int32) : tL m (llR m (nG m) 0 f) := by
  intro k p hk hp
  unfold llR
  rw [if_pos (by omega), show (60 * k + p) / 60 = k by omega, show (60 * k + p) % 60 = p by omega]
/-- an echo at place p of the k-th gap -/
def eo_ (m : Nat → Int) (k p : Nat) : Bool := decide (m 12 ≤ lo_ m (m (1 + k)) p (nT m))
theorem ev_isEcho {m : Nat → Int} {st ld : Nat → Int32} (hg : WG m) (hw : WS m) (ht : WT m) (hS : cS m st) (hL : tL m ld) {k p : Nat} (hk : k < nG m) (hp : p < 60) : F_X3_isEcho ld st (nI k) (nI p) = some (bI (eo_ m k p)) := by
  obtain ⟨hn, h5⟩ := nG_c hg
  obtain ⟨hn2, h8⟩ := nT_c ht
  have h1 := lo_b ht (m (1 + k)) p (nT m) (Nat.le_refl _)
  obtain ⟨-, -, -, -, -, -, h12⟩ := id hw
  unfold F_X3_isEcho eo_
  rw [show (60 : Int32) = nI 60 from rfl, pk_mul, nI_add, Nat.mul_comm k 60, gd_ok (in_N (by omega) (by decide)), nI_clamp (by omega), hL k p hk hp, show st 6 = iI (m 12) from hS 6 (by decide), if_e (iI_lt (by omega) (by omega))]
  by_cases c : lo_ m (m (1 + k)) p (nT m) < m 12
  · rw [if_pos c, decide_eq_false (by omega)]; rfl
  · rw [if_neg c, decide_eq_true (by omega)]; rfl
theorem ev_risEcho {m : Nat → Int} {all ld : Nat → Int32} (hg : WG m) (hw : WS m) (ht : WT m) (hA : rA m all) (hL : tL m ld) {k p : Nat} (hk : k < nG m) (hp : p < 60) : F_X11_isEcho all ld (nI k) (nI p) = some (bI (eo_ m k p)) := by
  obtain ⟨hn, h5⟩ := nG_c hg
  obtain ⟨hn2, h8⟩ := nT_c ht
  have h1 := lo_b ht (m (1 + k)) p (nT m) (Nat.le_refl _)
  obtain ⟨-, -, -, -, -, -, h12⟩ := id hw
  unfold F_X11_isEcho eo_
  rw [show (60 : Int32) = nI 60 from rfl, pk_mul, nI_add, gd_ok (in_N (by omega) (by decide)), nI_clamp (by omega), hL k p hk hp, hA 12 (by decide), if_e (iI_lt (by omega) (by omega))]
  by_cases c : lo_ m (m (1 + k)) p (nT m) < m 12
  · rw [if_pos c, decide_eq_false (by omega)]; rfl
  · rw [if_neg c, decide_eq_true (by omega)]; rfl
/-- a number's place by the k-th gap -/
def pl_ (m : Nat → Int) (x : Int) (k : Nat) : Nat := (x % m (1 + k)).toNat
theorem pl_c {m : Nat → Int} (hg : WG m) {x : Int} {k : Nat} (hk : k < nG m) : x % m (1 + k) = (pl_ m x k : Int) ∧ pl_ m x k < 60 ∧ (pl_ m x k : Int) < m (1 + k) := by
  obtain ⟨hn, h5⟩ := nG_c hg
  have h3 := hg.2.2.1 k (by omega)
  have hm := Int.emod_nonneg x (show m (1 + k) ≠ 0 by omega)
  have hm2 := Int.emod_lt_of_pos x (show 0 < m (1 + k) by omega)
  unfold pl_
  omega
/-- the gaps with an echo where a number lies -/
def hb_ (m : Nat → Int) (x : Int) : Nat := bt_ (fun k => eo_ m k (pl_ m x k)) (nG m)
theorem ev_hitsOf {m : Nat → Int} {gc : Int32} {gaps st ld : Nat → Int32} (hg : WG m) (hw : WS m) (ht : WT m) (hG : cG m gc gaps) (hS : cS m st) (hL : tL m ld) {x : Int} (hx : 0 ≤ x ∧ x ≤ 9999) :
    F_X3_hitsOf ld gc gaps st (iI x) = some (nI (hb_ m x)) := by
  obtain ⟨hn, h5⟩ := nG_c hg
  have hgc : gc = nI (nG m) := by rw [hG.1, hn, iI_nI]
  refine lp_bt (P := fun k => eo_ m k (pl_ m x k)) (N := nG m) (fun n y k => L_X3_hitsOf_5 ld gc gaps st n (iI x) y k) some (by omega) ?_ ?_ (nG m) 0 fu_ (by omega) (fu_lt (by omega))
  · intro n y k hk
    have hb := hg.2.2.1 k (by omega)
    obtain ⟨p1, p2, p3⟩ := pl_c hg (x := x) hk
    show L_X3_hitsOf_5 ld gc gaps st (n + 1) (iI x) y (nI k) = _
    rw [L_X3_hitsOf_5, hgc, if_neg (by rw [nI_le2 (by omega) (by omega)]; omega), gd_ok (in_N (by omega) (by decide)), nI_clamp (by omega), hG.2 k (by omega), ev_rest (by omega) (by omega) (by omega) (by omega), bs_, p1, ← iI_nI, ev_isEcho hg hw ht hS hL hk p2, bs_, ib_, nI_s]
  · intro n y
    show L_X3_hitsOf_5 ld gc gaps st (n + 1) (iI x) y (nI (nG m)) = some y
    rw [L_X3_hitsOf_5, hgc, if_pos (by rw [nI_le2 (by omega) (by omega)]; omega)]
theorem ev_hitBits {m : Nat → Int} {all ld : Nat → Int32} (hg : WG m) (hw : WS m) (ht : WT m) (hA : rA m all) (hL : tL m ld) {x : Int} (hx : 0 ≤ x ∧ x ≤ 9999) :
    F_X11_hitBits all ld (iI x) = some (nI (hb_ m x)) := by
  obtain ⟨hn, h5⟩ := nG_c hg
  have hgc : all 0 = nI (nG m) := by rw [hA 0 (by decide), hn, iI_nI]
  refine lp_bt (P := fun k => eo_ m k (pl_ m x k)) (N := nG m) (fun n y k => L_X11_hitBits_4 all ld n (iI x) y k) some (by omega) ?_ ?_ (nG m) 0 fu_ (by omega) (fu_lt (by omega))
  · intro n y k hk
    have hb := hg.2.2.1 k (by omega)
    obtain ⟨p1, p2, p3⟩ := pl_c hg (x := x) hk
    show L_X11_hitBits_4 all ld (n + 1) (iI x) y (nI k) = _
    rw [L_X11_hitBits_4, hgc, if_neg (by rw [nI_le2 (by omega) (by omega)]; omega), ev_gapAt hA (by omega), bs_, gd_ok (ne_ok (by omega) (by omega)), iI_mod (by omega) (by omega) (by omega) (by omega), p1, ← iI_nI, ev_risEcho hg hw ht hA hL hk p2, bs_, ib_, nI_s, or_0]
  · intro n y
    show L_X11_hitBits_4 all ld (n + 1) (iI x) y (nI (nG m)) = some y
    rw [L_X11_hitBits_4, hgc, if_pos (by rw [nI_le2 (by omega) (by omega)]; omega)]
/-- hits(number) -/
def qh_ (m : Nat → Int) (x : Int32) : Int32 := if 0 ≤ x.toInt ∧ x.toInt ≤ 9999 then nI (hb_ m x.toInt) else -1
theorem ev_hits {m : Nat → Int} {gc : Int32} {gaps st : Nat → Int32} {tc : Int32} {sp ve sr : Nat → Int32} (hg : WG m) (hw : WS m) (ht : WT m) (hG : cG m gc gaps) (hS : cS m st) (hT : cT m tc sp ve sr) (f1 f2 : Nat → Int32) (x : Int32) :
    ∃ g1 g2, F_X10_hits gc tc gaps st sp ve sr f1 f2 x = some (qh_ m x, g1, g2) := by
  obtain ⟨a, ha, rfl⟩ := iI_ex x
  unfold F_X10_hits qh_
  rw [show (0 : Int32) = iI 0 from rfl, show (9999 : Int32) = iI 9999 from rfl, ev_within ha (by omega) (by omega), bs_, show iI 0 = (0 : Int32) from rfl, ib_, iI_toInt ha]
  by_cases c : 0 ≤ a ∧ a ≤ 9999
  · rw [if_pos (decide_eq_true c), if_pos c, ev_listen hg hw ht hG hS hT, bs_, ev_hitsOf hg hw ht hG hS (tL_ls m f2) c, bs_]
    exact ⟨_, _, rfl⟩
  · rw [if_neg (by simpa using c), if_neg c]
    exact ⟨_, _, rfl⟩
theorem ev_rhits {m : Nat → Int} {all : Nat → Int32} (hg : WG m) (hw : WS m) (ht : WT m) (hA : rA m all) (ra : Int32) (f : Nat → Int32) (x : Int32) : ∃ g, F_X11_hits ra all f x = some (qh_ m x, 0, g) := by
  obtain ⟨a, ha, rfl⟩ := iI_ex x
  unfold F_X11_hits qh_
  rw [show (9999 : Int32) = iI 9999 from rfl, show F_X11_in (iI a) 0 (iI 9999) = _ from ev_in ha (b := 0) (by omega) (by omega), bs_, ib_, iI_toInt ha]
  by_cases c : 0 ≤ a ∧ a ≤ 9999
  · rw [if_pos (decide_eq_true c), if_pos c, ev_laysLoud hg hw ht hA, bs_, ev_hitBits hg hw ht hA (tL_ll m f) c, bs_]
    exact ⟨_, rfl⟩
  · rw [if_neg (by simpa using c), if_neg c]
    exact ⟨_, rfl⟩
/-- how many echoes the k-th gap has -/
def eg_ (m : Nat → Int) (k : Nat) : Nat := ct_ (fun p => eo_ m k p) 0 (m (1 + k)).toNat
theorem ev_countOfGap {m : Nat → Int} {gc : Int32} {gaps st ld : Nat → Int32} (hg : WG m) (hw : WS m) (ht : WT m) (hG : cG m gc gaps) (hS : cS m st) (hL : tL m ld) {k : Nat} (hk : k < nG m) :
    F_X3_countOfGap ld gaps st (nI k) = some (nI (eg_ m k)) := by
  obtain ⟨hn, h5⟩ := nG_c hg
  have hb := hg.2.2.1 k (by omega)
  have h := lp_ct (P := fun p => eo_ m k p) (N := (m (1 + k)).toNat) (fun n x p => L_X3_countOfGap_5 ld gaps st n (nI k) x p) some ?_ ?_ (m (1 + k)).toNat 0 fu_ 0 (by omega) (fu_lt (by omega))
  · rw [Nat.zero_add] at h
    exact h
  · intro n x p hp
    show L_X3_countOfGap_5 ld gaps st (n + 1) (nI k) x (nI p) = _
    rw [L_X3_countOfGap_5, gd_ok (in_N (by omega) (by decide)), nI_clamp (by omega), hG.2 k (by omega), iN (by omega), if_neg (by rw [nI_le2 (by omega) (by omega)]; omega), ev_isEcho hg hw ht hS hL hk (by omega), bs_, ib_, nI_s]
  · intro n x
    show L_X3_countOfGap_5 ld gaps st (n + 1) (nI k) x (nI (m (1 + k)).toNat) = some x
    rw [L_X3_countOfGap_5, gd_ok (in_N (by omega) (by decide)), nI_clamp (by omega), hG.2 k (by omega), iN (by omega), if_pos (by rw [nI_le2 (by omega) (by omega)]; omega)]
theorem ev_echoesOf {m : Nat → Int} {all ld : Nat → Int32} (hg : WG m) (hw : WS m) (ht : WT m) (hA : rA m all) (hL : tL m ld) {k : Nat} (hk : k < nG m) :
    F_X11_echoesOf all ld (nI k) = some (nI (eg_ m k)) := by
  obtain ⟨hn, h5⟩ := nG_c hg
  have hb := hg.2.2.1 k (by omega)
  have h := lp_ct (P := fun p => eo_ m k p) (N := (m (1 + k)).toNat) (fun n x p => L_X11_echoesOf_4 all ld n (nI k) x p) some ?_ ?_ (m (1 + k)).toNat 0 fu_ 0 (by omega) (fu_lt (by omega))
  · rw [Nat.zero_add] at h
    exact h
  · intro n x p hp
    show L_X11_echoesOf_4 all ld (n + 1) (nI k) x (nI p) = _
    rw [L_X11_echoesOf_4, ev_gapAt hA (by omega), bs_, iN (by omega), if_neg (by rw [nI_le2 (by omega) (by omega)]; omega), ev_risEcho hg hw ht hA hL hk (by omega), bs_, ib_, nI_s, Int32.add_zero]
  · intro n x
    show L_X11_echoesOf_4 all ld (n + 1) (nI k) x (nI (m (1 + k)).toNat) = some x
    rw [L_X11_echoesOf_4, ev_gapAt hA (by omega), bs_, iN (by omega), if_pos (by rw [nI_le2 (by omega) (by omega)]; omega)]
/-- the sum of f over the first n -/
def sm_ (f : Nat → Nat) : Nat → Nat
  | 0 => 0
  | n + 1 => sm_ f n + f n
theorem ev_countAll {m : Nat → Int} {gc : Int32} {gaps st ld : Nat → Int32} (hg : WG m) (hw : WS m) (ht : WT m) (hG : cG m gc gaps) (hS : cS m st) (hL : tL m ld) :
    F_X3_countAll ld gc gaps st = some (nI (sm_ (eg_ m) (nG m))) := by
  obtain ⟨hn, h5⟩ := nG_c hg
  have hgc : gc = nI (nG m) := by rw [hG.1, hn, iI_nI]
  have loop : ∀ d k n, k + d = nG m → d < n → L_X3_countAll_4 ld gc gaps st n (nI (sm_ (eg_ m) k)) (nI k) = some (nI (sm_ (eg_ m) (nG m))) := by
    intro d
    induction d with
    | zero =>
      intro k n e hlt
      obtain ⟨n, rfl⟩ : ∃ k, n = k + 1 := ⟨n - 1, by omega⟩
      have : k = nG m := by omega
      subst this
      rw [L_X3_countAll_4, hgc, if_pos (by rw [nI_le2 (by omega) (by omega)]; omega)]
    | succ d ih =>
      intro k n e hlt
      obtain ⟨n, rfl⟩ : ∃ k, n = k + 1 := ⟨n - 1, by omega⟩
      rw [L_X3_countAll_4, hgc, if_neg (by rw [nI_le2 (by omega) (by omega)]; omega), ev_countOfGap hg hw ht hG hS hL (by omega), bs_, nI_add, nI_s, ← hgc]
      exact ih (k + 1) n (by omega) (by omega)
  exact loop (nG m) 0 fu_ (by omega) (fu_lt (by omega))
theorem ev_echoes {m : Nat → Int} {all ld : Nat → Int32} (hg : WG m) (hw : WS m) (ht : WT m) (hA : rA m all) (hL : tL m ld) :
    F_X11_echoes all ld = some (nI (sm_ (eg_ m) (nG m))) := by
  obtain ⟨hn, h5⟩ := nG_c hg
  have hgc : all 0 = nI (nG m) := by rw [hA 0 (by decide), hn, iI_nI]
  have loop : ∀ d k n, k + d = nG m → d < n → L_X11_echoes_4 all ld n (nI (sm_ (eg_ m) k)) (nI k) = some (nI (sm_ (eg_ m) (nG m))) := by
    intro d
    induction d with
    | zero =>
      intro k n e hlt
      obtain ⟨n, rfl⟩ : ∃ k, n = k + 1 := ⟨n - 1, by omega⟩
      have : k = nG m := by omega
      subst this
      rw [L_X11_echoes_4, hgc, if_pos (by rw [nI_le2 (by omega) (by omega)]; omega)]
    | succ d ih =>
      intro k n e hlt
      obtain ⟨n, rfl⟩ : ∃ k, n = k + 1 := ⟨n - 1, by omega⟩
      rw [L_X11_echoes_4, hgc, if_neg (by rw [nI_le2 (by omega) (by omega)]; omega), ev_echoesOf hg hw ht hA hL (by omega), bs_, nI_add, nI_s]
      exact ih (k + 1) n (by omega) (by omega)
  exact loop (nG m) 0 fu_ (by omega) (fu_lt (by omega))
/-! ===== END ===== -/
