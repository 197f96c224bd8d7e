/-! ===== BEGIN tracks, the reference ===== -/
/-- the k-th that holds -/
def nt_ (P : Nat → Bool) : Nat → Nat → Nat → Option Nat
  | _, 0, _ => none
  | a, d + 1, k => if P a then (if k = 0 then some a else nt_ P (a + 1) d (k - 1)) else nt_ P (a + 1) d k
theorem nt_ge {P : Nat → Bool} : ∀ {d a k : Nat}, ct_ P a d ≤ k → nt_ P a d k = none
  | 0, _, _, _ => rfl
  | d + 1, a, k, h => by
    have h : (if P a then 1 else 0) + ct_ P (a + 1) d ≤ k := h
    unfold nt_
    by_cases c : P a = true
    · rw [if_pos c] at h ⊢
      rw [if_neg (by omega), nt_ge (by omega)]
    · rw [if_neg c] at h ⊢
      exact nt_ge (by omega)
theorem nt_lt {P : Nat → Bool} : ∀ {d a k : Nat}, k < ct_ P a d → ∃ j, nt_ P a d k = some j ∧ a ≤ j ∧ j < a + d ∧ P j = true
  | 0, _, _, h => by
    have h : _ < 0 := h
    omega
  | d + 1, a, k, h => by
    have h : k < (if P a then 1 else 0) + ct_ P (a + 1) d := h
    unfold nt_
    by_cases c : P a = true
    · rw [if_pos c] at h ⊢
      by_cases c2 : k = 0
      · rw [if_pos c2]
        exact ⟨a, rfl, by omega, by omega, c⟩
      · rw [if_neg c2]
        obtain ⟨j, q1, q2, q3, q4⟩ := nt_lt (P := P) (d := d) (a := a + 1) (k := k - 1) (by omega)
        exact ⟨j, q1, by omega, by omega, q4⟩
    · rw [if_neg c] at h ⊢
      obtain ⟨j, q1, q2, q3, q4⟩ := nt_lt (P := P) (d := d) (a := a + 1) (k := k) (by omega)
      exact ⟨j, q1, by omega, by omega, q4⟩
theorem nt_sp {P : Nat → Bool} : ∀ (d1 a d2 k : Nat), nt_ P a (d1 + d2) k = if k < ct_ P a d1 then nt_ P a d1 k else nt_ P (a + d1) d2 (k - ct_ P a d1)
  | 0, a, d2, k => by
    rw [if_neg (show ¬ k < ct_ P a 0 from Nat.not_lt_zero _), Nat.zero_add, Nat.add_zero]
    rfl
  | d1 + 1, a, d2, k => by
    rw [show d1 + 1 + d2 = (d1 + d2) + 1 by omega]
    show (if P a then (if k = 0 then some a else nt_ P (a + 1) (d1 + d2) (k - 1)) else nt_ P (a + 1) (d1 + d2) k) = if k < (if P a then 1 else 0) + ct_ P (a + 1) d1 then (if P a then (if k = 0 then some a else nt_ P (a + 1) d1 (k - 1)) else nt_ P (a + 1) d1 k) else nt_ P (a + (d1 + 1)) d2 (k - ((if P a then 1 else 0) + ct_ P (a + 1) d1))
    rw [nt_sp d1 (a + 1) d2 (k - 1), nt_sp d1 (a + 1) d2 k, show a + 1 + d1 = a + (d1 + 1) by omega]
    by_cases c : P a = true
    · rw [if_pos c, if_pos c, if_pos c]
      by_cases c2 : k = 0
      · rw [if_pos c2, if_pos (by omega), if_pos c2]
      · rw [if_neg c2, if_neg c2]
        by_cases c3 : k - 1 < ct_ P (a + 1) d1
        · rw [if_pos c3, if_pos (by omega)]
        · rw [if_neg c3, if_neg (by omega)]
          congr 1
          omega
    · rw [if_neg c, if_neg c, if_neg c, Nat.zero_add]
theorem nt_o {P : Nat → Bool} (a : Nat) : ∀ (d c k : Nat), nt_ P (a + c) d k = (nt_ (fun j => P (a + j)) c d k).map (a + ·)
  | 0, _, _ => rfl
  | d + 1, c, k => by
    have h1 := nt_o (P := P) a d (c + 1) (k - 1)
    have h2 := nt_o (P := P) a d (c + 1) k
    unfold nt_
    rw [show a + c + 1 = a + (c + 1) by omega, h1, h2]
    by_cases q : P (a + c) = true
    · rw [if_pos q, if_pos q]
      by_cases q2 : k = 0
      · rw [if_pos q2, if_pos q2]; rfl
      · rw [if_neg q2, if_neg q2]
    · rw [if_neg q, if_neg q]
theorem nt_c {P Q : Nat → Bool} : ∀ {d a k : Nat}, (∀ i, a ≤ i → i < a + d → P i = Q i) → nt_ P a d k = nt_ Q a d k
  | 0, _, _, _ => rfl
  | d + 1, a, k, h => by
    unfold nt_
    rw [h a (by omega) (by omega), nt_c (d := d) (a := a + 1) (k := k - 1) (fun i h1 h2 => h i (by omega) (by omega)), nt_c (d := d) (a := a + 1) (k := k) (fun i h1 h2 => h i (by omega) (by omega))]
theorem ct_o {P : Nat → Bool} (a : Nat) : ∀ (d c : Nat), ct_ P (a + c) d = ct_ (fun j => P (a + j)) c d
  | 0, _ => rfl
  | d + 1, c => by
    have h1 := ct_o (P := P) a d (c + 1)
    unfold ct_
    rw [show a + c + 1 = a + (c + 1) by omega, h1]
/-- the looks -/
def nK (m : Nat → Int) : Nat := (m 40).toNat
def sz_ (m : Nat → Int) (i : Nat) : Nat := (m (42 + 14 * i)).toNat
def WL (m : Nat → Int) : Prop := (0 ≤ m 40 ∧ m 40 ≤ 4) ∧ (0 ≤ m 38 ∧ m 38 ≤ 999999) ∧ (∀ i : Nat, (i : Int) < m 40 → (0 ≤ m (41 + 14 * i) ∧ m (41 + 14 * i) ≤ m 38) ∧ (0 ≤ m (42 + 14 * i) ∧ m (42 + 14 * i) ≤ 12) ∧ ∀ j : Nat, (j : Int) < m (42 + 14 * i) → 0 ≤ m (43 + 14 * i + j) ∧ m (43 + 14 * i + j) ≤ 999) ∧ ∀ i j : Nat, i < j → (j : Int) < m 40 → m (41 + 14 * i) < m (41 + 14 * j)
theorem nK_c {m : Nat → Int} (h : WL m) : m 40 = (nK m : Int) ∧ nK m ≤ 4 := by
  have := h.1
  unfold nK
  omega
theorem sz_c {m : Nat → Int} (h : WL m) {i : Nat} (hi : i < nK m) : m (42 + 14 * i) = (sz_ m i : Int) ∧ sz_ m i ≤ 12 := by
  have := (h.2.2.1 i (by have := (nK_c h).1; omega)).2.1
  unfold sz_
  omega
/-- a mixed count: what is left of r when e digits are off, the last look's first -/
def q_ (S : Nat → Nat) (K r : Nat) : Nat → Nat
  | 0 => r
  | e + 1 => q_ S K r e / S (K - 1 - e)
def dg_ (S : Nat → Nat) (K r i : Nat) : Nat := q_ S K r (K - 1 - i) % S i
def pp_ (S : Nat → Nat) (K : Nat) : Nat → Nat
  | 0 => 1
  | e + 1 => pp_ S K e * S (K - 1 - e)
theorem q_p (S : Nat → Nat) (K r : Nat) : ∀ e, q_ S K r e = r / pp_ S K e
  | 0 => (Nat.div_one r).symm
  | e + 1 => by
    unfold q_ pp_
    rw [q_p S K r e, Nat.div_div_eq_div_mul]
theorem q_e {S : Nat → Nat} {K r : Nat} {e : Nat} (h : q_ S K (r + 1) e = q_ S K r e) : ∀ d, q_ S K (r + 1) (e + d) = q_ S K r (e + d)
  | 0 => h
  | d + 1 => by
    show q_ S K (r + 1) (e + d) / _ = q_ S K r (e + d) / _
    rw [q_e h d]
theorem dm_1 {a s : Nat} (h : a % s + 1 < s) : (a + 1) / s = a / s ∧ (a + 1) % s = a % s + 1 := by
  have e := Nat.div_add_mod a s
  have : a + 1 = a % s + 1 + s * (a / s) := by omega
  rw [this, Nat.add_mul_div_left _ _ (by omega), Nat.add_mul_mod_self_left, Nat.div_eq_of_lt h, Nat.mod_eq_of_lt h]
  omega
theorem dm_2 {a s : Nat} (hs : 0 < s) (h : ¬ a % s + 1 < s) : (a + 1) / s = a / s + 1 ∧ (a + 1) % s = 0 := by
  have e := Nat.div_add_mod a s
  have h2 := Nat.mod_lt a hs
  have : a + 1 = s * (a / s + 1) := by rw [Nat.mul_add]; omega
  rw [this, Nat.mul_div_cancel_left _ hs, Nat.mul_mod_right]
  exact ⟨rfl, rfl⟩
theorem ev_lookAt {m : Nat → Int} {all : Nat → Int32} (hA : rA m all) {i j : Nat} (h : 41 + 14 * i + j < 97) : F_X11_lookAt all (nI i) (nI j) = some (iI (m (41 + 14 * i + j))) := by
  unfold F_X11_lookAt
  rw [show (14 : Int32) = nI 14 from rfl, show (41 : Int32) = nI 41 from rfl, pk_mul, nI_add, nI_add, gN_ (by omega) (by decide), nI_clamp (by omega), hA _ (by omega)]
theorem lk_0 {m : Nat → Int} {all : Nat → Int32} (hA : rA m all) {i : Nat} (h : i < 4) : F_X11_lookAt all (nI i) (0 : Int32) = some (iI (m (41 + 14 * i))) := ev_lookAt (j := 0) hA (by omega)
theorem lk_1 {m : Nat → Int} {all : Nat → Int32} (hA : rA m all) {i : Nat} (h : i < 4) : F_X11_lookAt all (nI i) (1 : Int32) = some (iI (m (42 + 14 * i))) := by
  have := ev_lookAt (j := 1) hA (i := i) (by omega)
  rw [show 41 + 14 * i + 1 = 42 + 14 * i by omega] at this
  exact this
theorem ev_rnumberAt {m : Nat → Int} {all w : Nat → Int32} (hA : rA m all) {i j : Nat} (hi : i < 4) (hj : j < 12) (hw : w i = nI j) : F_X11_numberAt all w (nI i) = some (iI (m (43 + 14 * i + j))) := by
  unfold F_X11_numberAt
  rw [gN_ (by omega) (by decide), nI_clamp (by omega), hw, show (2 : Int32) = nI 2 from rfl, nI_add, ev_lookAt hA (by omega), bs_, show 41 + 14 * i + (2 + j) = 43 + 14 * i + j by omega]
theorem ev_goesOn {m : Nat → Int} {all : Nat → Int32} (hl : WL m) (hA : rA m all) (hs : ∀ i, i < nK m → 0 < sz_ m i) (r : Nat) : ∀ (d e n : Nat) (w : Nat → Int32), e + d = nK m → d < n → q_ (sz_ m) (nK m) (r + 1) e = q_ (sz_ m) (nK m) r e + 1 → (∀ i, i < d → w i = nI (dg_ (sz_ m) (nK m) r i)) → (∀ i, d ≤ i → i < nK m → w i = nI (dg_ (sz_ m) (nK m) (r + 1) i)) →
    ∃ w2, L_X11_goesOn_10 all n w (iI ((d : Int) - 1)) = some (bI (decide (q_ (sz_ m) (nK m) (r + 1) (nK m) = q_ (sz_ m) (nK m) r (nK m))), w2) ∧ ∀ i, i < nK m → w2 i = nI (dg_ (sz_ m) (nK m) (r + 1) i) := by
  obtain ⟨hn, h4⟩ := nK_c hl
  intro d
  induction d with
  | zero =>
    intro e n w a1 a2 a3 a4 a5
    obtain ⟨n, rfl⟩ : ∃ k, n = k + 1 := ⟨n - 1, by omega⟩
    have : e = nK m := by omega
    subst this
    rw [L_X11_goesOn_10, if_pos (show iI (((0 : Nat) : Int) - 1) < 0 by decide), decide_eq_false (by omega)]
    exact ⟨_, rfl, fun i hi => a5 i (by omega) hi⟩
  | succ d ih =>
    intro e n w a1 a2 a3 a4 a5
    obtain ⟨n, rfl⟩ : ∃ k, n = k + 1 := ⟨n - 1, by omega⟩
    have ek : iI (((d + 1 : Nat) : Int) - 1) = nI d := by rw [iI_nI]; congr 1; omega
    have em : nI d + (-1 : Int32) = iI ((d : Int) - 1) := by rw [iI_nI, show (-1 : Int32) = iI (-1) from rfl, iI_add]; rfl
    obtain ⟨z1, z2⟩ := sz_c hl (show d < nK m by omega)
    have z3 := hs d (by omega)
    have ed : nK m - 1 - d = e := by omega
    have ee : nK m - 1 - e = d := by omega
    have hdg : dg_ (sz_ m) (nK m) r d = q_ (sz_ m) (nK m) r e % sz_ m d := by unfold dg_; rw [ed]
    have hdg2 : dg_ (sz_ m) (nK m) (r + 1) d = (q_ (sz_ m) (nK m) r e + 1) % sz_ m d := by unfold dg_; rw [ed, a3]
    have hq1 : q_ (sz_ m) (nK m) (r + 1) (e + 1) = (q_ (sz_ m) (nK m) r e + 1) / sz_ m d := by
      show q_ (sz_ m) (nK m) (r + 1) e / sz_ m (nK m - 1 - e) = _
      rw [ee, a3]
    have hq0 : q_ (sz_ m) (nK m) r (e + 1) = q_ (sz_ m) (nK m) r e / sz_ m d := by
      show q_ (sz_ m) (nK m) r e / sz_ m (nK m - 1 - e) = _
      rw [ee]
    have hml := Nat.mod_lt (q_ (sz_ m) (nK m) r e) z3
    rw [ek, L_X11_goesOn_10, if_neg (nI_pos (by omega)), gN_ (by omega) (by decide), gN_ (by omega) (by decide), gN_ (by omega) (by decide), lk_1 hA (by omega), bs_, nI_clamp (by omega), a4 d (by omega), nI_s, upd_at, if_pos rfl, z1, ← iI_nI, if_e (nI_le2 (by omega) (by omega)), gN_ (by omega) (by decide), em]
    by_cases c : q_ (sz_ m) (nK m) r e % sz_ m d + 1 < sz_ m d
    · obtain ⟨b1, b2⟩ := dm_1 c
      have hq : q_ (sz_ m) (nK m) (r + 1) (e + 1) = q_ (sz_ m) (nK m) r (e + 1) := by rw [hq1, hq0, b1]
      rw [if_neg (by omega), decide_eq_true (by have := q_e hq (nK m - (e + 1)); rw [show e + 1 + (nK m - (e + 1)) = nK m by omega] at this; exact this)]
      refine ⟨_, rfl, fun i hi => ?_⟩
      rw [upd_at]
      by_cases ci : i = d
      · rw [if_pos ci, ci, hdg2, b2, hdg]
      · rw [if_neg ci]
        by_cases ci2 : i < d
        · rw [a4 i (by omega)]
          unfold dg_
          have := q_e hq (nK m - 1 - i - (e + 1))
          rw [show e + 1 + (nK m - 1 - i - (e + 1)) = nK m - 1 - i by omega] at this
          rw [this]
        · exact a5 i (by omega) hi
    · obtain ⟨b1, b2⟩ := dm_2 z3 c
      rw [if_pos (by omega)]
      refine ih (e + 1) n _ (by omega) (by omega) (by rw [hq1, hq0, b1]) (fun i hi => ?_) (fun i h1 h2 => ?_)
      · rw [upd_at, if_neg (by omega), upd_at, if_neg (by omega)]
        exact a4 i (by omega)
      · rw [upd_at]
        by_cases ci : i = d
        · rw [if_pos ci, ci, hdg2, b2]
          rfl
        · rw [if_neg ci, upd_at, if_neg ci]
          exact a5 i (by omega) h2
theorem pb_ {a b : Int} (ha : -999 ≤ a ∧ a ≤ 999) (hb : 0 ≤ b ∧ b ≤ 999999) : -1000000000 ≤ a * b ∧ a * b ≤ 1000000000 := by
  have a1 : a * b ≤ 999 * b := Int.mul_le_mul_of_nonneg_right ha.2 hb.1
  have a2 : (-999) * b ≤ a * b := Int.mul_le_mul_of_nonneg_right ha.1 hb.1
  omega
def nb_ (m : Nat → Int) (D : Nat → Nat) (i : Nat) : Int := m (43 + 14 * i + D i)
/-- the span of time -/
def tt_ (m : Nat → Int) (i : Nat) : Int := m (41 + 14 * i) - m 41
/-- look i is in line with the first and the last -/
def al_ (m : Nat → Int) (D : Nat → Nat) (i : Nat) : Bool := decide (-(tt_ m (nK m - 1)) ≤ (nb_ m D i - nb_ m D 0) * tt_ m (nK m - 1) - (nb_ m D (nK m - 1) - nb_ m D 0) * tt_ m i ∧ (nb_ m D i - nb_ m D 0) * tt_ m (nK m - 1) - (nb_ m D (nK m - 1) - nb_ m D 0) * tt_ m i ≤ tt_ m (nK m - 1))
def tx_ (m : Nat → Int) (D : Nat → Nat) : Nat → Bool
  | 0 => true
  | i + 1 => tx_ m D i && al_ m D i
theorem tx_f {m : Nat → Int} {D : Nat → Nat} {i : Nat} (h : tx_ m D i = false) : ∀ d, tx_ m D (i + d) = false
  | 0 => h
  | d + 1 => by
    show (tx_ m D (i + d) && _) = false
    rw [tx_f h d]; rfl
theorem tt_b {m : Nat → Int} (hl : WL m) {i : Nat} (hi : i < nK m) : 0 ≤ tt_ m i ∧ tt_ m i ≤ 999999 ∧ (0 < i → 0 < tt_ m i) := by
  obtain ⟨hn, h4⟩ := nK_c hl
  have h1 := hl.2.1
  have h2 := (hl.2.2.1 i (by omega)).1
  have h0 := (hl.2.2.1 0 (by omega)).1
  have h0 : 0 ≤ m 41 ∧ m 41 ≤ m 38 := h0
  unfold tt_
  rcases Nat.eq_zero_or_pos i with q | q
  · subst q
    have : m (41 + 14 * 0) = m 41 := rfl
    omega
  · have := hl.2.2.2 0 i q (by omega)
    have : m 41 < m (41 + 14 * i) := this
    omega
theorem nb_b {m : Nat → Int} (hl : WL m) {D : Nat → Nat} {i : Nat} (hi : i < nK m) (hD : D i < sz_ m i) : 0 ≤ nb_ m D i ∧ nb_ m D i ≤ 999 := by
  obtain ⟨hn, h4⟩ := nK_c hl
  obtain ⟨z1, z2⟩ := sz_c hl hi
  exact (hl.2.2.1 i (by omega)).2.2 (D i) (by omega)
theorem ev_isTrack {m : Nat → Int} {all w : Nat → Int32} (hl : WL m) (hA : rA m all) (h2 : 2 ≤ nK m) {D : Nat → Nat} (hD : ∀ i, i < nK m → D i < sz_ m i) (hw : ∀ i, i < nK m → w i = nI (D i)) :
    F_X11_isTrack all w = some (bI (tx_ m D (nK m))) := by
  obtain ⟨hn, h4⟩ := nK_c hl
  have h12 : ∀ i, i < nK m → D i < 12 := fun i hi => by
    have := (sz_c hl hi).2
    have := hD i hi
    omega
  have e40 : all 40 - (1 : Int32) = nI (nK m - 1) := by rw [hA 40 (by decide), hn, ← iI_nI, s1_ (by omega)]
  have num : ∀ i, i < nK m → F_X11_numberAt all w (nI i) = some (iI (nb_ m D i)) := fun i hi => ev_rnumberAt hA (by omega) (h12 i hi) (hw i hi)
  have num0 : F_X11_numberAt all w (0 : Int32) = some (iI (nb_ m D 0)) := num 0 (by omega)
  have lk0 : F_X11_lookAt all (0 : Int32) (0 : Int32) = some (iI (m 41)) := lk_0 (i := 0) hA (by omega)
  have b0 := nb_b hl (i := 0) (by omega) (hD 0 (by omega))
  have bl := nb_b hl (i := nK m - 1) (by omega) (hD (nK m - 1) (by omega))
  have tl := tt_b hl (i := nK m - 1) (by omega)
  unfold F_X11_isTrack
  rw [e40, lk_0 hA (by omega), bs_, lk0, bs_, num _ (by omega), bs_, num0, bs_, iI_sub, iI_sub, show m (41 + 14 * (nK m - 1)) - m 41 = tt_ m (nK m - 1) from rfl, lL_i (by omega), lL_i (by omega)]
  refine lp_E (fun n i => L_X11_isTrack_42 all w n (nI (nK m - 1)) (lL (tt_ m (nK m - 1))) (lL (nb_ m D (nK m - 1) - nb_ m D 0)) (nI i)) (nK m) _ (fun i => tx_ m D i = true) ?_ ?_ (nK m) 0 fu_ (by omega) (fu_lt (by omega)) rfl
  · intro n i hi hq
    have bi := nb_b hl hi (hD i hi)
    have ti := tt_b hl hi
    have p1 := pb_ (a := nb_ m D i - nb_ m D 0) (b := tt_ m (nK m - 1)) (by omega) (by omega)
    have p2 := pb_ (a := nb_ m D (nK m - 1) - nb_ m D 0) (b := tt_ m i) (by omega) (by omega)
    show L_X11_isTrack_42 all w (n + 1) (nI (nK m - 1)) (lL (tt_ m (nK m - 1))) (lL (nb_ m D (nK m - 1) - nb_ m D 0)) (nI i) = _ ∨ _
    rw [L_X11_isTrack_42, if_neg (show ¬ nI (nK m - 1) < nI i by rw [nI_lt2 (by omega) (by omega)]; omega), num i hi, bs_, num0, bs_, lk_0 hA (by omega), bs_, lk0, bs_, iI_sub, iI_sub, show m (41 + 14 * i) - m 41 = tt_ m i from rfl, lL_i (by omega), lL_i (by omega), lL_mul, lL_mul, lL_sub, show (0 : Int64) = lL 0 from rfl, if_e (lL_cge (by omega) (by omega))]
    unfold J_X11_isTrack_99
    rw [lL_neg, if_e (lL_cle (by omega) (by omega)), if_e (lL_cle (by omega) (by omega)), nI_s]
    have htx : tx_ m D (i + 1) = al_ m D i := by
      show (tx_ m D i && al_ m D i) = _
      rw [hq, Bool.true_and]
    have hfin : al_ m D i = false → tx_ m D (nK m) = false := by
      intro h
      have := tx_f (m := m) (D := D) (i := i + 1) (by rw [htx]; exact h) (nK m - (i + 1))
      rw [show i + 1 + (nK m - (i + 1)) = nK m by omega] at this
      exact this
    generalize hX : (nb_ m D i - nb_ m D 0) * tt_ m (nK m - 1) - (nb_ m D (nK m - 1) - nb_ m D 0) * tt_ m i = X
    have hal : al_ m D i = decide (-(tt_ m (nK m - 1)) ≤ X ∧ X ≤ tt_ m (nK m - 1)) := by
      unfold al_
      rw [hX]
    by_cases c : -(tt_ m (nK m - 1)) ≤ X ∧ X ≤ tt_ m (nK m - 1)
    · right
      refine ⟨by rw [htx, hal]; exact decide_eq_true c, ?_⟩
      by_cases c0 : (0 : Int) ≤ X
      · rw [if_pos c0, if_pos (by omega)]
      · rw [if_neg c0, if_pos (by omega)]
    · left
      rw [hfin (by rw [hal]; exact decide_eq_false c)]
      by_cases c0 : (0 : Int) ≤ X
      · rw [if_pos c0, if_neg (by omega)]
        rfl
      · rw [if_neg c0, if_neg (by omega)]
        rfl
  · intro n hq
    show L_X11_isTrack_42 all w (n + 1) (nI (nK m - 1)) _ _ (nI (nK m)) = _
    rw [L_X11_isTrack_42, if_pos (show nI (nK m - 1) < nI (nK m) by rw [nI_lt2 (by omega) (by omega)]; omega), hq]
    rfl
/-! ===== END ===== -/
