/-! ===== BEGIN until(target, most) ===== -/
def su_ (F : Nat → Int) : Nat → Nat → Int
  | _, 0 => 0
  | a, d + 1 => F a + su_ F (a + 1) d
theorem su_c {F G : Nat → Int} : ∀ {d a : Nat}, (∀ k, a ≤ k → k < a + d → F k = G k) → su_ F a d = su_ G a d
  | 0, _, _ => rfl
  | d + 1, a, h => by
    unfold su_
    rw [h a (by omega) (by omega), su_c (d := d) (a := a + 1) (fun k h1 h2 => h k (by omega) (by omega))]
theorem su_n (F : Nat → Int) : ∀ d a, su_ F a (d + 1) = su_ F a d + F (a + d)
  | 0, a => by
    show F a + 0 = 0 + F (a + 0)
    rw [Nat.add_zero]; omega
  | d + 1, a => by
    have h := su_n F d (a + 1)
    show F a + su_ F (a + 1) (d + 1) = F a + su_ F (a + 1) d + F (a + (d + 1))
    rw [h, show a + 1 + d = a + (d + 1) by omega]
    omega
theorem su_sh (F : Nat → Int) : ∀ d a, su_ (fun k => F (k + 1)) a d = su_ F (a + 1) d
  | 0, _ => rfl
  | d + 1, a => by
    show F (a + 1) + su_ (fun k => F (k + 1)) (a + 1) d = F (a + 1) + su_ F (a + 1 + 1) d
    rw [su_sh F d (a + 1)]
def tf_ (f : Int → Int → Int → Int) (m : Nat → Int) (t : Nat) : Int := f (m (14 + 3 * t)) (m (15 + 3 * t)) (m (16 + 3 * t))
def tg_ (τ : Int) (f : Int → Int → Int → Int) (m : Nat → Int) (t : Nat) : Int := if ok_ (ns_ τ m t) = true then f (ns_ τ m t) (m (15 + 3 * t)) (m (16 + 3 * t)) else 0
theorem ns_us {τ : Int} {m : Nat → Int} {k t : Nat} {x : Int} (h : t ≠ k) : ns_ τ (us_ m k x) t = ns_ τ m t := by
  unfold ns_
  rw [us_lo (by omega), us_lo (by omega)]
theorem ns_dt {τ : Int} {m : Nat → Int} {k t : Nat} (h : t < k) : ns_ τ (dt_ m k) t = ns_ τ m t := by
  unfold ns_
  rw [dt_lo (by omega) (by omega), dt_lo (by omega) (by omega)]
theorem su_mv {τ : Int} (f : Int → Int → Int → Int) : ∀ (k : Nat) (m : Nat → Int), hT8 m → k ≤ nT m → su_ (tf_ f (mv_ τ k m)) 0 (nT (mv_ τ k m)) = su_ (tg_ τ f m) 0 k + su_ (tf_ f m) k (nT m - k) := by
  intro k
  induction k with
  | zero =>
    intro m h8 hk
    show _ = 0 + _
    rw [Int.zero_add, Nat.sub_zero]
    rfl
  | succ k ih =>
    intro m h8 hk
    unfold mv_
    rw [su_n, Nat.zero_add]
    by_cases c : ok_ (ns_ τ m k) = true
    · rw [if_pos c, ih _ (hT8_us h8 _ _) (by rw [nT_us]; omega), nT_us, show nT m - k = (nT m - (k + 1)) + 1 by omega]
      have e1 : su_ (tg_ τ f (us_ m k (ns_ τ m k))) 0 k = su_ (tg_ τ f m) 0 k := su_c (fun t a1 a2 => by
        unfold tg_
        rw [ns_us (by omega), us_lo (by omega), us_lo (by omega)])
      have e2 : su_ (tf_ f (us_ m k (ns_ τ m k))) (k + 1) (nT m - (k + 1)) = su_ (tf_ f m) (k + 1) (nT m - (k + 1)) := su_c (fun t a1 a2 => by
        unfold tf_
        rw [us_lo (by omega), us_lo (by omega), us_lo (by omega)])
      show _ + (tf_ f (us_ m k (ns_ τ m k)) k + su_ (tf_ f (us_ m k (ns_ τ m k))) (k + 1) (nT m - (k + 1))) = _
      rw [e1, e2]
      have e3 : tf_ f (us_ m k (ns_ τ m k)) k = tg_ τ f m k := by
        unfold tf_ tg_
        rw [if_pos c, us_at, us_lo (by omega), us_lo (by omega)]
      rw [e3]
      omega
    · have h8b := hT8_us h8 k (ns_ τ m k)
      have e := nT_us m k (ns_ τ m k)
      rw [if_neg c, ih _ (hT8_dt h8b (t := k) (by rw [nT_us]; omega)) (by rw [nT_dt h8b, nT_us]; omega), nT_dt h8b, nT_us]
      have e1 : su_ (tg_ τ f (dt_ (us_ m k (ns_ τ m k)) k)) 0 k = su_ (tg_ τ f m) 0 k := su_c (fun t a1 a2 => by
        unfold tg_
        rw [ns_dt (by omega), ns_us (by omega), dt_lo (by omega) (by omega), dt_lo (by omega) (by omega), us_lo (by omega), us_lo (by omega)])
      have e2 : su_ (tf_ f (dt_ (us_ m k (ns_ τ m k)) k)) k (nT m - 1 - k) = su_ (tf_ f m) (k + 1) (nT m - (k + 1)) := by
        rw [show nT m - 1 - k = nT m - (k + 1) by omega, ← su_sh (tf_ f m)]
        refine su_c (fun t a1 a2 => ?_)
        show tf_ f (dt_ (us_ m k (ns_ τ m k)) k) t = tf_ f m (t + 1)
        unfold tf_
        rw [dt_hi (by omega) (by omega), dt_hi (by omega) (by omega), dt_hi (by omega) (by omega), us_lo (by omega), us_lo (by omega), us_lo (by omega)]
        rfl
      have e3 : tg_ τ f m k = 0 := by
        unfold tg_
        rw [if_neg c]
      rw [e1, e2, e3]
      omega
/-- how many of the first k are gone -/
def oc_ (τ : Int) (m : Nat → Int) (k : Nat) : Nat := ct_ (fun t => !ok_ (ns_ τ m t)) 0 k
theorem oc_s (τ : Int) (m : Nat → Int) (k : Nat) : oc_ τ m (k + 1) = oc_ τ m k + if ok_ (ns_ τ m k) = true then 0 else 1 := by
  unfold oc_
  rw [ct_sn, Nat.zero_add]
  cases ok_ (ns_ τ m k) <;> rfl
theorem oc_le (τ : Int) (m : Nat → Int) (k : Nat) : oc_ τ m k ≤ k := ct_le _ _ _
theorem mv_p {τ : Int} : ∀ (k : Nat) (m : Nat → Int) (j : Nat), hT8 m → k ≤ nT m → j < nT m → nT (mv_ τ k m) = nT m - oc_ τ m k ∧ (k ≤ j → mv_ τ k m (14 + 3 * (j - oc_ τ m k)) = m (14 + 3 * j)) ∧ (j < k → ok_ (ns_ τ m j) = true → mv_ τ k m (14 + 3 * (j - oc_ τ m j)) = ns_ τ m j ∧ j - oc_ τ m j < nT (mv_ τ k m)) := by
  intro k
  induction k with
  | zero =>
    intro m j h8 hk hj
    exact ⟨rfl, fun _ => rfl, fun h => by omega⟩
  | succ k ih =>
    intro m j h8 hk hj
    have hoc := oc_le τ m k
    unfold mv_
    rw [oc_s]
    by_cases c : ok_ (ns_ τ m k) = true
    · have e0 : oc_ τ (us_ m k (ns_ τ m k)) k = oc_ τ m k := ct_cong (fun t _ a2 => by rw [ns_us (by omega)])
      obtain ⟨q1, q2, q3⟩ := ih (us_ m k (ns_ τ m k)) j (hT8_us h8 _ _) (by rw [nT_us]; omega) (by rw [nT_us]; omega)
      rw [e0] at q1 q2
      rw [nT_us] at q1
      rw [if_pos c, if_pos c, Nat.add_zero]
      refine ⟨q1, fun a => ?_, fun a b => ?_⟩
      · rw [q2 (by omega), us_lo (by omega)]
      · rcases Nat.eq_or_lt_of_le (show j ≤ k by omega) with h | h
        · have q2 := q2 (by omega)
          rw [h, us_at] at q2
          rw [h, q1, q2]
          exact ⟨rfl, by omega⟩
        · have e1 : oc_ τ (us_ m k (ns_ τ m k)) j = oc_ τ m j := ct_cong (fun t _ a2 => by rw [ns_us (by omega)])
          have := q3 h (by rw [ns_us (by omega)]; exact b)
          rw [e1, ns_us (by omega)] at this
          exact this
    · have h8b := hT8_us h8 k (ns_ τ m k)
      have e := nT_us m k (ns_ τ m k)
      have e0 : oc_ τ (dt_ (us_ m k (ns_ τ m k)) k) k = oc_ τ m k := ct_cong (fun t _ a2 => by rw [ns_dt (by omega), ns_us (by omega)])
      rw [if_neg c, if_neg c]
      have h8c := hT8_dt h8b (t := k) (by rw [nT_us]; omega)
      by_cases cj : j < k
      · obtain ⟨q1, q2, q3⟩ := ih (dt_ (us_ m k (ns_ τ m k)) k) j h8c (by rw [nT_dt h8b, nT_us]; omega) (by rw [nT_dt h8b, nT_us]; omega)
        rw [e0, nT_dt h8b, nT_us] at q1
        refine ⟨by omega, fun a => by omega, fun a b => ?_⟩
        have e1 : oc_ τ (dt_ (us_ m k (ns_ τ m k)) k) j = oc_ τ m j := ct_cong (fun t _ a2 => by rw [ns_dt (by omega), ns_us (by omega)])
        have := q3 cj (by rw [ns_dt (by omega), ns_us (by omega)]; exact b)
        rw [e1, ns_dt (by omega), ns_us (by omega)] at this
        exact this
      · by_cases cj2 : j = k
        · have q1 : nT (mv_ τ k (dt_ (us_ m k (ns_ τ m k)) k)) = nT m - 1 - oc_ τ m k := by
            by_cases h0 : nT m = 1
            · have hk0 : k = 0 := by omega
              subst hk0
              show nT (dt_ (us_ m 0 (ns_ τ m 0)) 0) = _
              rw [nT_dt h8b, nT_us]
              show nT m - 1 = nT m - 1 - 0
              omega
            · obtain ⟨q1, -, -⟩ := ih (dt_ (us_ m k (ns_ τ m k)) k) 0 h8c (by rw [nT_dt h8b, nT_us]; omega) (by rw [nT_dt h8b, nT_us]; omega)
              rw [e0, nT_dt h8b, nT_us] at q1
              exact q1
          refine ⟨by omega, fun a => by omega, fun a b => ?_⟩
          rw [cj2] at b
          exact absurd b c
        · obtain ⟨q1, q2, q3⟩ := ih (dt_ (us_ m k (ns_ τ m k)) k) (j - 1) h8c (by rw [nT_dt h8b, nT_us]; omega) (by rw [nT_dt h8b, nT_us]; omega)
          rw [e0, nT_dt h8b, nT_us] at q1
          rw [e0] at q2
          refine ⟨by omega, fun a => ?_, fun a => by omega⟩
          have := q2 (by omega)
          rw [show j - (oc_ τ m k + 1) = j - 1 - oc_ τ m k by omega, this, dt_hi (by omega) (by omega), us_lo (by omega)]
          congr 1
          omega
theorem lo_su {m : Nat → Int} {w : Nat → Int} (g : Int) (p : Nat) (h : ∀ i, i < 13 → w i = m i) : ∀ n, lo_ w g p n = su_ (tf_ (fun s v a => if (!bl_ m v g && decide (m 8 ≤ s / 16 % g) && decide (s / 16 % g = (p : Int))) = true then a else 0) w) 0 n
  | 0 => rfl
  | n + 1 => by
    rw [su_n, Nat.zero_add, ← lo_su g p h n]
    have eb : ∀ v, bl_ w v g = bl_ m v g := by
      intro v
      unfold bl_
      rw [h 6 (by decide), h 7 (by decide)]
    conv => lhs; unfold lo_
    unfold ec_ se_ rn_ tf_
    rw [eb, h 8 (by decide)]
/-- how loud a place will be -/
def la_ (m : Nat → Int) (τ : Int) (g : Int) (p : Nat) : Int := su_ (tg_ τ (fun s v a => if (!bl_ m v g && decide (m 8 ≤ s / 16 % g) && decide (s / 16 % g = (p : Int))) = true then a else 0) m) 0 (nT m)
theorem la_lo {m : Nat → Int} (ht : WT m) (τ g : Int) (p : Nat) : lo_ (mv_ τ (nT m) m) g p (nT (mv_ τ (nT m) m)) = la_ m τ g p := by
  rw [lo_su g p (fun i hi => mv_lo hi), su_mv _ _ m (WT_h ht) (Nat.le_refl _), Nat.sub_self]
  show _ + 0 = _
  rw [Int.add_zero]
  rfl
/-- the target's range is found when a time has gone by -/
def uf_ (m : Nat → Int) (t : Nat) (τ : Int) : Bool := ok_ (ns_ τ m t) && (decide (ns_ τ m t / 16 < m 9) && decide (m 10 ≤ (ct_ (fun k => decide (m 12 ≤ la_ m τ (m (1 + k)) (pl_ m (ns_ τ m t / 16) k))) 0 (nG m) : Int)))
theorem su_b {F : Nat → Int} {b : Int} (hb : 0 ≤ b) : ∀ {d a : Nat}, (∀ k, a ≤ k → k < a + d → 0 ≤ F k ∧ F k ≤ b) → 0 ≤ su_ F a d ∧ su_ F a d ≤ d * b
  | 0, _, _ => by
    show (0 : Int) ≤ 0 ∧ (0 : Int) ≤ (0 : Nat) * b
    omega
  | d + 1, a, h => by
    have h1 := h a (by omega) (by omega)
    have h2 := su_b hb (d := d) (a := a + 1) (fun k a1 a2 => h k (by omega) (by omega))
    show 0 ≤ F a + su_ F (a + 1) d ∧ F a + su_ F (a + 1) d ≤ ((d + 1 : Nat) : Int) * b
    rw [Int.natCast_add, Int.add_mul]
    omega
theorem ev_loudAfter {m : Nat → Int} {st : Nat → Int32} {tc : Int32} {sp ve sr : Nat → Int32} (hw : WS m) (ht : WT m) (hS : cS m st) (hT : cT m tc sp ve sr) {τ : Int} (hτ : 0 ≤ τ ∧ τ ≤ 1000) {g : Int} (hg : 4 ≤ g ∧ g ≤ 60) {p : Nat} (hp : (p : Int) < g) :
    F_X5_loudAfter tc st sp ve sr (iI g) (nI p) (iI τ) = some (iI (la_ m τ g p)) := by
  obtain ⟨hn, h8⟩ := nT_c ht
  obtain ⟨-, -, h88, -⟩ := id hw
  have htc : tc = nI (nT m) := by rw [hT.1, hn, iI_nI]
  unfold F_X5_loudAfter
  rw [show st 2 = iI (m 8) from hS 2 (by decide), iI_nI p, if_e (iI_le (by omega) (by omega)), ← iI_nI]
  by_cases c : m 8 ≤ (p : Int)
  · rw [if_pos c]
    have main : ∀ d t n (x : Int), t + d = nT m → d < n → L_X5_loudAfter_18 tc st sp ve sr n (iI g) (nI p) (iI τ) (iI x) (nI t) = some (iI (x + su_ (tg_ τ (fun s v a => if (!bl_ m v g && decide (m 8 ≤ s / 16 % g) && decide (s / 16 % g = (p : Int))) = true then a else 0) m) t d)) := by
      intro d
      induction d with
      | zero =>
        intro t n x a1 a2
        obtain ⟨n, rfl⟩ : ∃ k, n = k + 1 := ⟨n - 1, by omega⟩
        have : t = nT m := by omega
        subst this
        rw [L_X5_loudAfter_18, htc, if_pos (yle_ (by omega) (by omega) (Nat.le_refl _))]
        show _ = some (iI (x + 0))
        rw [Int.add_zero]
      | succ d ih =>
        intro t n x a1 a2
        obtain ⟨n, rfl⟩ : ∃ k, n = k + 1 := ⟨n - 1, by omega⟩
        have hb := ns_b hτ (WT_w ht) (show t < nT m by omega)
        have h1 := ht.2.2 t (by omega)
        have q := hT.2 t (by omega)
        have go : ∀ (y : Int), y = tg_ τ (fun s v a => if (!bl_ m v g && decide (m 8 ≤ s / 16 % g) && decide (s / 16 % g = (p : Int))) = true then a else 0) m t → L_X5_loudAfter_18 tc st sp ve sr n (iI g) (nI p) (iI τ) (iI (x + y)) (nI (t + 1)) = some (iI (x + su_ (tg_ τ (fun s v a => if (!bl_ m v g && decide (m 8 ≤ s / 16 % g) && decide (s / 16 % g = (p : Int))) = true then a else 0) m) t (d + 1))) := by
          intro y hy
          rw [ih (t + 1) n _ (by omega) (by omega), hy]
          congr 2
          show _ = x + (_ + _)
          omega
        rw [L_X5_loudAfter_18, htc, if_neg (nle_ (by omega) (by omega) (by omega)), ← htc, ev_spotAfter (WT_h ht) hT (by omega), bs_, show (0 : Int32) = iI 0 from rfl, show (47999 : Int32) = iI 47999 from rfl, ev_within (by omega) (by omega) (by omega), bs_, show iI 0 = (0 : Int32) from rfl, ib_, nI_s]
        by_cases c1 : ok_ (ns_ τ m t) = true
        · have c1b : 0 ≤ ns_ τ m t ∧ ns_ τ m t ≤ 47999 := of_decide_eq_true c1
          have hm := Int.emod_nonneg (ns_ τ m t / 16) (show g ≠ 0 by omega)
          have hm2 := Int.emod_lt_of_pos (ns_ τ m t / 16) (show 0 < g by omega)
          rw [if_pos (show decide (0 ≤ ns_ τ m t ∧ ns_ τ m t ≤ 47999) = true from c1), show (16 : Int32) = iI 16 from rfl, iI_quo (by omega) (by omega) (by omega) (by omega), ev_rest (by omega) (by omega) (by omega) (by omega), bs_, iI_nI p, if_e (iI_eq (by omega) (by omega)), ← iI_nI, gN_ (by omega) (by decide), nI_clamp (by omega), q.2.1, ev_hides hw hS h1.2.1 (by omega), bs_, ib_, gN_ (by omega) (by decide), q.2.2, iI_add]
          by_cases c2 : ns_ τ m t / 16 % g = (p : Int)
          · rw [if_pos c2]
            by_cases c3 : bl_ m (m (15 + 3 * t)) g = true
            · rw [if_pos c3]
              have := go 0 (by unfold tg_; rw [if_pos c1]; dsimp only; rw [c3, Bool.not_true, Bool.false_and, Bool.false_and, if_neg (by decide)])
              rw [Int.add_zero] at this
              exact this
            · rw [if_neg c3]
              have c3 : bl_ m (m (15 + 3 * t)) g = false := by simpa using c3
              exact go _ (by unfold tg_; rw [if_pos c1]; dsimp only; rw [c3, decide_eq_true (show m 8 ≤ ns_ τ m t / 16 % g by omega), decide_eq_true c2, if_pos (by decide)])
          · rw [if_neg c2]
            have := go 0 (by unfold tg_; rw [if_pos c1]; dsimp only; rw [decide_eq_false c2, Bool.and_false, if_neg (by decide)])
            rw [Int.add_zero] at this
            exact this
        · rw [if_neg (show ¬ decide (0 ≤ ns_ τ m t ∧ ns_ τ m t ≤ 47999) = true from c1)]
          have := go 0 (by unfold tg_; rw [if_neg c1])
          rw [Int.add_zero] at this
          exact this
    have := main (nT m) 0 fu_ 0 (by omega) (fu_lt (by omega))
    rw [Int.zero_add] at this
    exact this
  · rw [if_neg c]
    congr 1
    have : la_ m τ g p = 0 := by
      unfold la_
      have : su_ (tg_ τ (fun s v a => if (!bl_ m v g && decide (m 8 ≤ s / 16 % g) && decide (s / 16 % g = (p : Int))) = true then a else 0) m) 0 (nT m) = su_ (fun _ => 0) 0 (nT m) := su_c (fun t _ _ => by
        unfold tg_
        dsimp only
        by_cases c2 : ns_ τ m t / 16 % g = (p : Int)
        · rw [decide_eq_false (show ¬ m 8 ≤ ns_ τ m t / 16 % g by omega), Bool.and_false, Bool.false_and, if_neg (show ¬ false = true by decide), ite_self]
        · rw [decide_eq_false c2, Bool.and_false, if_neg (show ¬ false = true by decide), ite_self])
      rw [this]
      have z : ∀ d a, su_ (fun _ => 0) a d = 0 := by
        intro d
        induction d with
        | zero => intro a; rfl
        | succ d ih => intro a; show 0 + su_ (fun _ => 0) (a + 1) d = 0; rw [ih]; rfl
      exact z _ _
    rw [this]
    rfl
theorem la_b {m : Nat → Int} (ht : WT m) (τ g : Int) (p : Nat) : 0 ≤ la_ m τ g p ∧ la_ m τ g p ≤ 792 := by
  obtain ⟨hn, h8⟩ := nT_c ht
  have h := su_b (F := tg_ τ (fun s v a => if (!bl_ m v g && decide (m 8 ≤ s / 16 % g) && decide (s / 16 % g = (p : Int))) = true then a else 0) m) (b := 99) (by omega) (d := nT m) (a := 0) (fun t _ a2 => by
    have h1 := ht.2.2 t (by omega)
    unfold tg_
    split
    · dsimp only
      split <;> omega
    · omega)
  unfold la_
  omega
/-! ===== END ===== -/
