/-! ===== BEGIN period, joined ===== -/
/-- what divides the wave and the first k gaps -/
def dv_ (m : Nat → Int) : Nat → Nat
  | 0 => (m 6).toNat
  | k + 1 => Nat.gcd (dv_ m k) (m (1 + k)).toNat
theorem dv_b {m : Nat → Int} (hw : WS m) : ∀ k, dv_ m k ∣ (m 6).toNat ∧ 0 < dv_ m k ∧ dv_ m k ≤ 999
  | 0 => by
    obtain ⟨h6, -⟩ := id hw
    unfold dv_
    exact ⟨Nat.dvd_refl _, by omega, by omega⟩
  | k + 1 => by
    have ih := dv_b hw k
    unfold dv_
    have h1 : Nat.gcd (dv_ m k) (m (1 + k)).toNat ∣ dv_ m k := Nat.gcd_dvd_left _ _
    have h2 := Nat.le_of_dvd ih.2.1 h1
    exact ⟨Nat.dvd_trans h1 ih.1, Nat.gcd_pos_of_pos_left _ ih.2.1, by omega⟩
/-- period() -/
def qi_ (m : Nat → Int) : Int32 := nI ((m 6).toNat / dv_ m (nG m))
theorem ev_period {m : Nat → Int} {gc : Int32} {gaps st : Nat → Int32} (hg : WG m) (hw : WS m) (hG : cG m gc gaps) (hS : cS m st) : F_X10_period gc gaps st = some (qi_ m) := by
  obtain ⟨hn, h5⟩ := nG_c hg
  obtain ⟨h6, -⟩ := id hw
  have hgc : gc = nI (nG m) := by rw [hG.1, hn, iI_nI]
  have hst : st 0 = nI (m 6).toNat := by rw [show st 0 = iI (m 6) from hS 0 (by decide), iN (by omega)]
  have h := lp_S (fun n k => L_X7_leastUnshifted_9 gc gaps st n (nI (dv_ m k)) (nI k)) (nG m) (some (qi_ m)) ?_ ?_ (nG m) 0 fu_ (by omega) (fu_lt (by omega))
  · unfold F_X10_period F_X7_leastUnshifted
    rw [hst, show L_X7_leastUnshifted_9 gc gaps st fu_ (nI (m 6).toNat) 0 = _ from h, bs_]
  · intro n k hk
    have hb := hg.2.2.1 k (by omega)
    have hd := dv_b hw k
    show L_X7_leastUnshifted_9 gc gaps st (n + 1) (nI (dv_ m k)) (nI k) = _
    rw [L_X7_leastUnshifted_9, if_neg (show ¬ gc ≤ nI k by rw [hgc]; exact nle_ (by omega) (by omega) hk), gN_ (by omega) (by decide), nI_clamp (by omega), hG.2 k (by omega), iN (by omega), ev_commonDivisor (by omega) (by omega), bs_, nI_s]
    rfl
  · intro n
    have hd := dv_b hw (nG m)
    show L_X7_leastUnshifted_9 gc gaps st (n + 1) (nI (dv_ m (nG m))) (nI (nG m)) = _
    rw [L_X7_leastUnshifted_9, if_pos (show gc ≤ nI (nG m) by rw [hgc]; exact yle_ (by omega) (by omega) (Nat.le_refl _))]
    unfold J_X7_leastUnshifted_34 qi_
    rw [if_neg (show ¬ nI (dv_ m (nG m)) ≤ 0 from nle_ (b := 0) (by omega) (by decide) hd.2.1), gd_ok (nI_nz hd.2.1 (by omega)), hst, nI_quo (by omega) hd.2.1 (by omega)]
/-- whether the wave goes into v times each of the first k gaps -/
def pd_ (m : Nat → Int) (v : Nat) : Nat → Bool
  | 0 => true
  | k + 1 => pd_ m v k && decide ((v * (m (1 + k)).toNat) % (m 6).toNat = 0)
theorem pd_d {m : Nat → Int} (v : Nat) : ∀ k, (pd_ m v k = true) ↔ (m 6).toNat ∣ v * dv_ m k
  | 0 => ⟨fun _ => by unfold dv_; exact Nat.dvd_mul_left _ _, fun _ => rfl⟩
  | k + 1 => by
    have ih := pd_d (m := m) v k
    have e : v * dv_ m (k + 1) = Nat.gcd (v * dv_ m k) (v * (m (1 + k)).toNat) := by
      rw [Nat.gcd_mul_left]; rfl
    rw [e, Nat.dvd_gcd_iff, ← ih]
    show (pd_ m v k && decide ((v * (m (1 + k)).toNat) % (m 6).toNat = 0)) = true ↔ _
    rw [Bool.and_eq_true, decide_eq_true_iff, Nat.dvd_iff_mod_eq_zero]
theorem ev_rperiod {m : Nat → Int} {all : Nat → Int32} (hg : WG m) (hw : WS m) (hA : rA m all) (ra : Int32) : F_X11_period ra all = some (qi_ m, 0) := by
  obtain ⟨hn, h5⟩ := nG_c hg
  obtain ⟨h6, -⟩ := id hw
  have hgc : all 0 = nI (nG m) := by rw [hA 0 (by decide), hn, iI_nI]
  have hwv : all 6 = nI (m 6).toNat := by rw [hA 6 (by decide), iN (by omega)]
  obtain ⟨hd1, hd2, hd3⟩ := dv_b hw (nG m)
  obtain ⟨q, hq⟩ := hd1
  have hqv : (m 6).toNat / dv_ m (nG m) = q := by
    rw [hq]
    exact Nat.mul_div_cancel_left q hd2
  have hq0 : 0 < q := by
    rcases Nat.eq_zero_or_pos q with h | h
    · rw [h] at hq; omega
    · exact h
  have hq9 : q ≤ 999 := by
    have : q ≤ dv_ m (nG m) * q := Nat.le_mul_of_pos_left q hd2
    omega
  have key : ∀ v, pd_ m v (nG m) = true ↔ q ∣ v := by
    intro v
    rw [pd_d, hq, Nat.mul_comm v, Nat.mul_dvd_mul_iff_left hd2]
  have inner : ∀ (kk : Int32 → Int32 → Int32 → Option (Int32 × Int32)) (v : Nat), v ≤ 999 → L_X11_period_20 all kk fu_ 0 (nI v) 1 0 = kk 0 (nI v) (bI (pd_ m v (nG m))) := by
    intro kk v hv
    refine lp_S (fun n k => L_X11_period_20 all kk n 0 (nI v) (bI (pd_ m v k)) (nI k)) (nG m) _ ?_ ?_ (nG m) 0 fu_ (by omega) (fu_lt (by omega))
    · intro n k hk
      have hb := hg.2.2.1 k (by omega)
      have hv2 : v * (m (1 + k)).toNat ≤ 999 * 60 := Nat.mul_le_mul hv (by omega)
      show L_X11_period_20 all kk (n + 1) 0 (nI v) (bI (pd_ m v k)) (nI k) = L_X11_period_20 all kk n 0 (nI v) (bI (pd_ m v (k + 1))) (nI (k + 1))
      rw [L_X11_period_20, hgc, if_neg (nle_ (by omega) (by omega) hk), ib_, ev_gapAt hA (by omega), bs_, hwv, gd_ok (nI_nz (by omega) (by omega)), iN (show 0 ≤ m (1 + k) by omega), pk_mul, nI_mod (by omega) (by omega) (by omega), nI_s]
      have hm := Nat.mod_lt (v * (m (1 + k)).toNat) (show 0 < (m 6).toNat by omega)
      show _ = L_X11_period_20 all kk n 0 (nI v) (bI (pd_ m v k && decide ((v * (m (1 + k)).toNat) % (m 6).toNat = 0))) (nI (k + 1))
      have e0 : (nI (v * (m (1 + k)).toNat % (m 6).toNat) = 0) = (v * (m (1 + k)).toNat % (m 6).toNat = 0) := by
        rw [iI_nI, show (0 : Int32) = iI 0 from rfl, iI_eq (by omega) (by omega)]
        apply propext
        omega
      rw [if_e e0]
      cases pd_ m v k with
      | false => rfl
      | true =>
        by_cases c : v * (m (1 + k)).toNat % (m 6).toNat = 0
        · rw [if_pos rfl, if_pos c, decide_eq_true c]; rfl
        · rw [if_pos rfl, if_neg c, decide_eq_false c]; rfl
    · intro n
      show L_X11_period_20 all kk (n + 1) 0 (nI v) (bI (pd_ m v (nG m))) (nI (nG m)) = _
      rw [L_X11_period_20, hgc, if_pos (yle_ (by omega) (by omega) (Nat.le_refl _))]
  unfold qi_
  rw [hqv]
  refine lp_S (fun n k => L_X11_period_9 all (n + 1) 0 (nI k) 0) (q - 1) _ ?_ ?_ (q - 1) 0 999999 (by omega) (by omega)
  · intro n k hk
    show L_X11_period_9 all (n + 1 + 1) 0 (nI k) 0 = L_X11_period_9 all (n + 1) 0 (nI (k + 1)) 0
    rw [L_X11_period_9, if_pos rfl, nI_s, inner _ _ (by omega)]
    have : pd_ m (k + 1) (nG m) = false := by
      cases h : pd_ m (k + 1) (nG m) with
      | false => rfl
      | true => exact absurd (Nat.le_of_dvd (by omega) ((key _).mp h)) (by omega)
    rw [this]; rfl
  · intro n
    show L_X11_period_9 all (n + 1 + 1) 0 (nI (q - 1)) 0 = _
    rw [L_X11_period_9, if_pos rfl, nI_s, show q - 1 + 1 = q by omega, inner _ _ (by omega), (key q).mpr (Nat.dvd_refl q), L_X11_period_9, if_neg (by decide)]
/-- the first of n + i b, n + (i + 1) b .., d of them, that falls on place p of a gap g -/
def fi_ (n b g : Nat) (p : Int) : Nat → Nat → Option Nat
  | _, 0 => none
  | i, d + 1 => if ((n + i * b) % g : Nat) = p then some (n + i * b) else fi_ n b g p (i + 1) d
theorem fi_c {n b g : Nat} {p : Int} : ∀ {d i v : Nat}, fi_ n b g p i d = some v → ∃ j, i ≤ j ∧ j < i + d ∧ v = n + j * b ∧ (((n + j * b) % g : Nat) : Int) = p ∧ ∀ k, i ≤ k → k < j → (((n + k * b) % g : Nat) : Int) ≠ p
  | 0, _, _, h => by unfold fi_ at h; cases h
  | d + 1, i, v, h => by
    unfold fi_ at h
    by_cases c : (((n + i * b) % g : Nat) : Int) = p
    · rw [if_pos c] at h
      cases h
      exact ⟨i, by omega, by omega, rfl, c, fun k h1 h2 => by omega⟩
    · rw [if_neg c] at h
      obtain ⟨j, h1, h2, h3, h4, h5⟩ := fi_c h
      refine ⟨j, by omega, by omega, h3, h4, fun k h6 h7 => ?_⟩
      rcases Nat.eq_or_lt_of_le h6 with h8 | h8
      · rw [← h8]; exact c
      · exact h5 k h8 h7
theorem fi_lt {n b g v : Nat} {p : Int} (hn : n < b) (hg : 0 < g) (h : fi_ n b g p 0 g = some v) : v < lc_ b g := by
  obtain ⟨j, -, -, hv, hj, hm⟩ := fi_c h
  have hG : 0 < Nat.gcd b g := Nat.gcd_pos_of_pos_right _ hg
  obtain ⟨q, hq⟩ := Nat.gcd_dvd_left b g
  obtain ⟨r, hr⟩ := Nat.gcd_dvd_right b g
  have e1 : b / Nat.gcd b g = q := by
    have h := Nat.mul_div_cancel_left q hG
    rw [← hq] at h
    exact h
  have e2 : lc_ b g = r * b := by
    unfold lc_
    rw [e1]
    calc q * g = q * (Nat.gcd b g * r) := by rw [← hr]
      _ = r * (Nat.gcd b g * q) := by ac_rfl
      _ = r * b := by rw [← hq]
  have e3 : r * b = g * q := by
    calc r * b = r * (Nat.gcd b g * q) := by rw [← hq]
      _ = (Nat.gcd b g * r) * q := by rw [← Nat.mul_assoc, Nat.mul_comm r]
      _ = g * q := by rw [← hr]
  have hjr : j < r := by
    by_cases c : j < r
    · exact c
    · exfalso
      have h1 := hm (j - r) (by omega)
      have hr0 : 0 < r := by
        rcases Nat.eq_zero_or_pos r with h | h
        · rw [h] at hr; omega
        · exact h
      refine h1 (by omega) ?_
      have e4 : n + j * b = (n + (j - r) * b) + g * q := by
        rw [← e3, Nat.add_assoc, ← Nat.add_mul]
        congr 2
        omega
      rw [e4, Nat.add_mul_mod_self_left] at hj
      exact hj
  rw [hv, e2]
  have h2 : (j + 1) * b ≤ r * b := Nat.mul_le_mul_right b hjr
  rw [Nat.add_mul, Nat.one_mul] at h2
  omega
/-- the number and the step behind the first k gaps; none: there is no such number -/
def ja_ (m : Nat → Int) (p : Nat → Int32) : Nat → Option (Nat × Nat)
  | 0 => some (0, 1)
  | k + 1 => (ja_ m p k).bind fun s => if p k < 0 then some s else (fi_ s.1 s.2 (m (1 + k)).toNat (p k).toInt 0 (m (1 + k)).toNat).bind fun v => some (v, lc_ s.2 (m (1 + k)).toNat)
theorem ja_b {m : Nat → Int} (hg : WG m) (p : Nat → Int32) : ∀ k, k ≤ nG m → ∀ s, ja_ m p k = some s → s.1 < s.2 ∧ s.2 ≤ 60 ^ k
  | 0, _, s, h => by
    unfold ja_ at h
    cases h
    exact ⟨by decide, by decide⟩
  | k + 1, hk, s, h => by
    obtain ⟨hn, h5⟩ := nG_c hg
    have hb := hg.2.2.1 k (by omega)
    have e : 60 ^ (k + 1) = 60 ^ k * 60 := Nat.pow_succ 60 k
    have ih := ja_b hg p k (by omega)
    unfold ja_ at h
    cases hj : ja_ m p k with
    | none => rw [hj] at h; cases h
    | some t =>
      have iht := ih t hj
      rw [hj, bs_] at h
      by_cases c : p k < 0
      · rw [if_pos c] at h
        cases h
        omega
      · rw [if_neg c] at h
        cases hf : fi_ t.1 t.2 (m (1 + k)).toNat (p k).toInt 0 (m (1 + k)).toNat with
        | none => rw [hf] at h; cases h
        | some v =>
          rw [hf, bs_] at h
          cases h
          have h1 := fi_lt iht.1 (by omega) hf
          have h2 := lc_b (a := t.2) (b := (m (1 + k)).toNat) (by omega) (by omega)
          have h3 : t.2 * (m (1 + k)).toNat ≤ 60 ^ k * 60 := Nat.mul_le_mul iht.2 (by omega)
          exact ⟨h1, by show lc_ _ _ ≤ _; omega⟩
theorem ja_n {m : Nat → Int} {p : Nat → Int32} {k : Nat} (h : ja_ m p k = none) : ∀ d, ja_ m p (k + d) = none
  | 0 => h
  | d + 1 => by
    show (ja_ m p (k + d)).bind _ = none
    rw [ja_n h d]; rfl
def qj_ (m : Nat → Int) (p : Nat → Int32) : Int32 := match ja_ m p (nG m) with
  | none => -1
  | some s => nI s.1
theorem qj_n {m : Nat → Int} {p : Nat → Int32} {k : Nat} (hk : k ≤ nG m) (h : ja_ m p k = none) : qj_ m p = -1 := by
  unfold qj_
  have := ja_n h (nG m - k)
  rw [show k + (nG m - k) = nG m by omega] at this
  rw [this]
theorem qj_s {m : Nat → Int} {p : Nat → Int32} {s : Nat × Nat} (h : ja_ m p (nG m) = some s) : qj_ m p = nI s.1 := by
  unfold qj_
  rw [h]
def fv_ (o : Option Nat) : Int32 := match o with
  | none => -1
  | some v => nI v
theorem ev_nextAtPlace {n b g : Nat} {p : Int32} (hp : ¬ p < 0) (hn : n < b) (hb : b ≤ 12960000) (hg : 0 < g ∧ g ≤ 60) : F_X10_nextAtPlace (nI n) (nI b) (nI g) p = some (fv_ (fi_ n b g p.toInt 0 g)) := by
  have hpl := p.toInt_lt
  have hpg := p.le_toInt
  have main : ∀ d i f, i + d = g → d < f → L_X10_nextAtPlace_7 f (nI b) (nI g) p (lL ((n + i * b : Nat) : Int)) (nI i) = some (fv_ (fi_ n b g p.toInt i d)) := by
    intro d
    induction d with
    | zero =>
      intro i f h1 h2
      obtain ⟨f, rfl⟩ : ∃ k, f = k + 1 := ⟨f - 1, by omega⟩
      have : i = g := by omega
      subst this
      rw [L_X10_nextAtPlace_7, if_pos (yle_ (by omega) (by omega) (Nat.le_refl _))]
      rfl
    | succ d ih =>
      intro i f h1 h2
      obtain ⟨f, rfl⟩ : ∃ k, f = k + 1 := ⟨f - 1, by omega⟩
      have hib : i * b ≤ 60 * 12960000 := Nat.mul_le_mul (by omega) hb
      have hm := Nat.mod_lt (n + i * b) hg.1
      rw [L_X10_nextAtPlace_7, if_neg (nle_ (by omega) (by omega) (by omega)), iI_nI g, lL_i (by omega), gd_ok (lL_ne (by omega) (by omega)), lL_mod (by omega) (by omega) (by omega) (by omega), lL_w p, if_e (lL_c0 (by omega) (by omega)), iI_nI b, lL_i (by omega), lL_add, ← iI_nI b, ← iI_nI g, nI_s]
      unfold fi_
      rw [← Int.natCast_emod]
      by_cases c : (((n + i * b) % g : Nat) : Int) = p.toInt
      · rw [if_pos c, if_pos c, i_lL (by omega), ← iI_nI]
        rfl
      · rw [if_neg c, if_neg c, ← Int.natCast_add, show n + i * b + b = n + (i + 1) * b by rw [Nat.add_mul, Nat.one_mul, Nat.add_assoc]]
        exact ih (i + 1) f (by omega) (by omega)
  have h := main g 0 fu_ (by omega) (fu_lt (by omega))
  unfold F_X10_nextAtPlace
  rw [iI_nI n, lL_i (by omega)]
  rw [show n + 0 * b = n by omega] at h
  exact h
theorem fv_n {n b g : Nat} {p : Int} (hn : n < b) (hb : b ≤ 12960000) (hg : 0 < g ∧ g ≤ 60) : (fv_ (fi_ n b g p 0 g) = -1) = (fi_ n b g p 0 g = none) := by
  cases h : fi_ n b g p 0 g with
  | none => simp [fv_]
  | some v =>
    have h1 := fi_lt hn hg.1 h
    have h2 := (lc_b (a := b) (b := g) (by omega) hg.1).2.1
    have h3 : b * g ≤ 12960000 * 60 := Nat.mul_le_mul hb hg.2
    unfold fv_
    show (nI v = -1) = _
    rw [iI_nI, show (-1 : Int32) = iI (-1) from rfl, iI_eq (by omega) (by omega)]
    apply propext
    constructor
    · intro h; omega
    · intro h; cases h
def p5_ (f : Nat → Int32) (x1 x2 x3 x4 x5 : Int32) : Nat → Int32 := upd (upd (upd (upd (upd f 0 x1) 1 x2) 2 x3) 3 x4) 4 x5
theorem p4_ {k : Nat} (h : k < 5) : 60 ^ k ≤ 12960000 := by
  have := Nat.pow_le_pow_right (n := 60) (by decide) (show k ≤ 4 by omega)
  omega
theorem ev_joined {m : Nat → Int} {gc : Int32} {gaps : Nat → Int32} (hg : WG m) (hG : cG m gc gaps) (f : Nat → Int32) (x1 x2 x3 x4 x5 : Int32) : F_X10_joined gc gaps f x1 x2 x3 x4 x5 = some (qj_ m (p5_ f x1 x2 x3 x4 x5), p5_ f x1 x2 x3 x4 x5) := by
  obtain ⟨hn, h5⟩ := nG_c hg
  have hgc : gc = nI (nG m) := by rw [hG.1, hn, iI_nI]
  show L_X10_joined_46 gc gaps fu_ (p5_ f x1 x2 x3 x4 x5) 0 1 0 = _
  generalize p5_ f x1 x2 x3 x4 x5 = p
  refine lp_E (fun n k => L_X10_joined_46 gc gaps n p (nI ((ja_ m p k).getD (0, 1)).1) (nI ((ja_ m p k).getD (0, 1)).2) (nI k)) (nG m) _ (fun k => ∃ s, ja_ m p k = some s) ?_ ?_ (nG m) 0 fu_ (by omega) (fu_lt (by omega)) ⟨_, rfl⟩
  · rintro n k hk ⟨s, hs⟩
    have hb := hg.2.2.1 k (by omega)
    have hs2 := ja_b hg p k (by omega) s hs
    have hp := p4_ (show k < 5 by omega)
    show L_X10_joined_46 gc gaps (n + 1) p (nI ((ja_ m p k).getD (0, 1)).1) (nI ((ja_ m p k).getD (0, 1)).2) (nI k) = _ ∨ _
    have hj : ja_ m p (k + 1) = if p k < 0 then some s else (fi_ s.1 s.2 (m (1 + k)).toNat (p k).toInt 0 (m (1 + k)).toNat).bind fun v => some (v, lc_ s.2 (m (1 + k)).toNat) := by
      show (ja_ m p k).bind _ = _
      rw [hs, bs_]
    rw [hs, Option.getD_some, L_X10_joined_46, if_neg (show ¬ gc ≤ nI k by rw [hgc]; exact nle_ (by omega) (by omega) hk), gN_ (by omega) (by decide), nI_clamp (by omega), nI_s]
    by_cases c : p k < 0
    · rw [if_pos c] at hj
      right
      refine ⟨⟨s, hj⟩, ?_⟩
      rw [if_pos c, hj, Option.getD_some]
    · rw [if_neg c] at hj
      rw [if_neg c, gN_ (by omega) (by decide), gN_ (by omega) (by decide), hG.2 k (by omega), iN (by omega), ev_nextAtPlace c hs2.1 (by omega) (by omega), bs_, if_e (fv_n hs2.1 (by omega) (by omega))]
      cases hf : fi_ s.1 s.2 (m (1 + k)).toNat (p k).toInt 0 (m (1 + k)).toNat with
      | none =>
        left
        rw [if_pos rfl]
        rw [hf] at hj
        rw [qj_n (show k + 1 ≤ nG m by omega) hj]
      | some v =>
        rw [hf, bs_] at hj
        right
        refine ⟨⟨_, hj⟩, ?_⟩
        rw [if_neg (fun h => by cases h), gN_ (by omega) (by decide), ev_leastCommon (by omega) (by omega), bs_, hj, Option.getD_some]
        rfl
  · rintro n ⟨s, hs⟩
    show L_X10_joined_46 gc gaps (n + 1) p (nI ((ja_ m p (nG m)).getD (0, 1)).1) (nI ((ja_ m p (nG m)).getD (0, 1)).2) (nI (nG m)) = _
    rw [L_X10_joined_46, if_pos (show gc ≤ nI (nG m) by rw [hgc]; exact yle_ (by omega) (by omega) (Nat.le_refl _)), hs, qj_s hs]
    rfl
theorem ev_rjoined {m : Nat → Int} {all : Nat → Int32} (hg : WG m) (hA : rA m all) (ra : Int32) (f : Nat → Int32) (x1 x2 x3 x4 x5 : Int32) : F_X11_joined ra all f x1 x2 x3 x4 x5 = some (qj_ m (p5_ f x1 x2 x3 x4 x5), 0, p5_ f x1 x2 x3 x4 x5) := by
  obtain ⟨hn, h5⟩ := nG_c hg
  have hgc : all 0 = nI (nG m) := by rw [hA 0 (by decide), hn, iI_nI]
  show L_X11_joined_51 all fu_ 0 (p5_ f x1 x2 x3 x4 x5) 0 1 0 = _
  generalize p5_ f x1 x2 x3 x4 x5 = p
  refine lp_E (fun n k => L_X11_joined_51 all n 0 p (lL (((ja_ m p k).getD (0, 1)).1 : Nat)) (lL (((ja_ m p k).getD (0, 1)).2 : Nat)) (nI k)) (nG m) _ (fun k => ∃ s, ja_ m p k = some s) ?_ ?_ (nG m) 0 fu_ (by omega) (fu_lt (by omega)) ⟨_, rfl⟩
  · rintro n k hk ⟨s, hs⟩
    have hb := hg.2.2.1 k (by omega)
    have hs2 := ja_b hg p k (by omega) s hs
    have hp := p4_ (show k < 5 by omega)
    have hpl := (p k).toInt_lt
    have hpg := (p k).le_toInt
    obtain ⟨g, eg⟩ : ∃ g : Nat, m (1 + k) = (g : Int) := ⟨(m (1 + k)).toNat, by omega⟩
    have hgap : F_X11_gapAt all (nI k) = some (nI g) := by rw [ev_gapAt hA (by omega), eg, iI_nI]
    have hgl : (nI g).toInt64 = lL (g : Int) := by rw [iI_nI, lL_i (by omega)]
    show L_X11_joined_51 all (n + 1) 0 p (lL (((ja_ m p k).getD (0, 1)).1 : Nat)) (lL (((ja_ m p k).getD (0, 1)).2 : Nat)) (nI k) = _ ∨ _
    have hj : ja_ m p (k + 1) = if p k < 0 then some s else (fi_ s.1 s.2 g (p k).toInt 0 g).bind fun v => some (v, lc_ s.2 g) := by
      show (ja_ m p k).bind _ = _
      rw [hs, bs_, eg, Int.toNat_natCast]
    rw [hs, Option.getD_some, L_X11_joined_51, hgc, if_neg (nle_ (by omega) (by omega) hk), gN_ (by omega) (by decide), nI_clamp (by omega), nI_s]
    by_cases c : p k < 0
    · rw [if_pos c] at hj
      right
      refine ⟨⟨s, hj⟩, ?_⟩
      rw [if_neg (by rw [Int32.not_le]; exact c), hj, Option.getD_some]
    · rw [if_neg c] at hj
      rw [if_pos (by rw [Int32.not_lt] at c; exact c)]
      have hG : 0 < Nat.gcd s.2 g := Nat.gcd_pos_of_pos_right _ (by omega)
      have hG2 : Nat.gcd s.2 g ≤ g := Nat.le_of_dvd (by omega) (Nat.gcd_dvd_right _ _)
      have hlc := lc_b (a := s.2) (b := g) (by omega) (by omega)
      have hlc2 : s.2 * g ≤ 12960000 * 60 := Nat.mul_le_mul (by omega) (by omega)
      -- the last step
      have fin : ∀ v : Nat, v ≤ 800000000 → J_X11_joined_124 all (L_X11_joined_51 all n) 0 p (lL (v : Int)) (lL (s.2 : Nat)) (nI k) = if ((v % g : Nat) : Int) = (p k).toInt then L_X11_joined_51 all n 0 p (lL ((v % lc_ s.2 g : Nat) : Int)) (lL (lc_ s.2 g : Nat)) (nI (k + 1)) else some (-1, 0, p) := by
        intro v hv
        have hm := Nat.mod_lt v (show 0 < g by omega)
        unfold J_X11_joined_124
        rw [hgap, bs_, hgl, gd_ok (lL_ne (by omega) (by omega)), gN_ (by omega) (by decide), nI_clamp (by omega), lL_mod (by omega) (by omega) (by omega) (by omega), lL_w (p k), ← Int.natCast_emod, if_e (lL_c0 (by omega) (by omega)), bs_, hgl, ev_measure (by omega) (by omega), bs_, gd_ok (lL_ne (by omega) (by omega)), bs_, hgl, lL_quo (by omega) (by omega) (by omega) (by omega), lL_mul, ← Int.natCast_ediv, ← Int.natCast_mul]
        have hl : s.2 / s.2.gcd g * g = lc_ s.2 g := rfl
        rw [hl, gd_ok (lL_ne (by omega) (by omega)), lL_mod (by omega) (by omega) (by omega) (by omega), ← Int.natCast_emod, nI_s]
      have main : ∀ d i fu, i + d = g → d < fu → L_X11_joined_78 all (L_X11_joined_51 all n) fu 0 p (lL ((s.1 + i * s.2 : Nat) : Int)) (lL (s.2 : Nat)) (nI k) (nI i) = match fi_ s.1 s.2 g (p k).toInt i d with
          | some v => L_X11_joined_51 all n 0 p (lL ((v % lc_ s.2 g : Nat) : Int)) (lL (lc_ s.2 g : Nat)) (nI (k + 1))
          | none => if (((s.1 + g * s.2) % g : Nat) : Int) = (p k).toInt then L_X11_joined_51 all n 0 p (lL (((s.1 + g * s.2) % lc_ s.2 g : Nat) : Int)) (lL (lc_ s.2 g : Nat)) (nI (k + 1)) else some (-1, 0, p) := by
        intro d
        induction d with
        | zero =>
          intro i fu h1 h2
          obtain ⟨fu, rfl⟩ : ∃ k, fu = k + 1 := ⟨fu - 1, by omega⟩
          have : i = g := by omega
          subst this
          have hib : i * s.2 ≤ 60 * 12960000 := Nat.mul_le_mul (by omega) (by omega)
          rw [L_X11_joined_78, hgap, bs_, if_pos (yle_ (by omega) (by omega) (Nat.le_refl _)), fin _ (by omega)]
          rfl
        | succ d ih =>
          intro i fu h1 h2
          obtain ⟨fu, rfl⟩ : ∃ k, fu = k + 1 := ⟨fu - 1, by omega⟩
          have hib : i * s.2 ≤ 60 * 12960000 := Nat.mul_le_mul (by omega) (by omega)
          have hm := Nat.mod_lt (s.1 + i * s.2) (show 0 < g by omega)
          rw [L_X11_joined_78, hgap, bs_, if_neg (nle_ (by omega) (by omega) (by omega)), bs_, hgl, gd_ok (lL_ne (by omega) (by omega)), gN_ (by omega) (by decide), nI_clamp (by omega), lL_mod (by omega) (by omega) (by omega) (by omega), lL_w (p k), ← Int.natCast_emod, if_e (lL_c0 (by omega) (by omega)), lL_add, nI_s]
          conv => rhs; unfold fi_
          by_cases c2 : (((s.1 + i * s.2) % g : Nat) : Int) = (p k).toInt
          · rw [if_pos c2, if_pos c2, fin _ (by omega), if_pos c2]
          · rw [if_neg c2, if_neg c2, ← Int.natCast_add, show s.1 + i * s.2 + s.2 = s.1 + (i + 1) * s.2 by rw [Nat.add_mul, Nat.one_mul, Nat.add_assoc]]
            exact ih (i + 1) fu (by omega) (by omega)
      have h := main g 0 fu_ (by omega) (fu_lt (by omega))
      rw [show s.1 + 0 * s.2 = s.1 by omega] at h
      rw [show L_X11_joined_78 all (L_X11_joined_51 all n) fu_ 0 p (lL (s.1 : Nat)) (lL (s.2 : Nat)) (nI k) 0 = _ from h]
      cases hf : fi_ s.1 s.2 g (p k).toInt 0 g with
      | none =>
        left
        rw [hf] at hj
        have h0 : ¬ (((s.1 + g * s.2) % g : Nat) : Int) = (p k).toInt := by
          rw [Nat.add_mul_mod_self_left]
          intro h1
          obtain ⟨g, rfl⟩ : ∃ j, g = j + 1 := ⟨g - 1, by omega⟩
          unfold fi_ at hf
          rw [show s.1 + 0 * s.2 = s.1 by omega, if_pos h1] at hf
          cases hf
        show (if (((s.1 + g * s.2) % g : Nat) : Int) = (p k).toInt then _ else _) = _
        rw [if_neg h0, qj_n (show k + 1 ≤ nG m by omega) hj]
      | some v =>
        rw [hf, bs_] at hj
        right
        refine ⟨⟨_, hj⟩, ?_⟩
        rw [hj, Option.getD_some]
        show L_X11_joined_51 all n 0 p (lL ((v % lc_ s.2 g : Nat) : Int)) (lL (lc_ s.2 g : Nat)) (nI (k + 1)) = L_X11_joined_51 all n 0 p (lL (v : Nat)) (lL (lc_ s.2 g : Nat)) (nI (k + 1))
        rw [Nat.mod_eq_of_lt (fi_lt hs2.1 (by omega) hf)]
  · rintro n ⟨s, hs⟩
    have hs2 := ja_b hg p (nG m) (by omega) s hs
    have hp := p60 h5
    show L_X11_joined_51 all (n + 1) 0 p (lL (((ja_ m p (nG m)).getD (0, 1)).1 : Nat)) (lL (((ja_ m p (nG m)).getD (0, 1)).2 : Nat)) (nI (nG m)) = _
    rw [L_X11_joined_51, hgc, if_pos (yle_ (by omega) (by omega) (Nat.le_refl _)), hs, qj_s hs]
    show some ((lL (s.1 : Nat)).toInt32, 0, p) = _
    rw [i_lL (by omega), ← iI_nI]
/-! ===== END ===== -/
