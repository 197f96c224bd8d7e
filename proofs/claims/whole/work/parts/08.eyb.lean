/-! ===== BEGIN track(k, what), the reference ===== -/
def tR_ (m : Nat → Int) : Nat := if nK m < 2 then 0 else pp_ (sz_ m) (nK m) (nK m)
def tP_ (m : Nat → Int) (r : Nat) : Bool := tx_ m (dg_ (sz_ m) (nK m) r) (nK m)
def vt_ (m : Nat → Int) (D : Nat → Nat) (y : Int32) : Int32 := if y = 10 then iI ((16 * (nb_ m D (nK m - 1) - nb_ m D 0)).tdiv (tt_ m (nK m - 1))) else iI (nb_ m D y.toNatClampNeg)
def tv_f (x3 : Int32) (v : Nat) : Int32 := if x3 = 0 then -100000 else nI v
def te_ (m : Nat → Int) (x1 x2 x3 : Int32) (c r d : Nat) : Int32 := if x1 < 0 then tv_f x3 (c + ct_ (tP_ m) r d) else match nt_ (tP_ m) r d (x1.toNatClampNeg - c) with
  | some q => vt_ m (dg_ (sz_ m) (nK m) q) x2
  | none => tv_f x3 (c + ct_ (tP_ m) r d)
theorem pp_pos {S : Nat → Nat} {K : Nat} (h : ∀ i, i < K → 0 < S i) : ∀ e, e ≤ K → 0 < pp_ S K e
  | 0, _ => Nat.one_pos
  | e + 1, he => by
    unfold pp_
    exact Nat.mul_pos (pp_pos h e (by omega)) (h _ (by omega))
theorem pp_z {S : Nat → Nat} {K i : Nat} (hi : i < K) (h : S i = 0) : ∀ e, K - 1 - i < e → pp_ S K e = 0
  | 0, he => by omega
  | e + 1, he => by
    unfold pp_
    rcases Nat.eq_or_lt_of_le (show K - 1 - i ≤ e by omega) with q | q
    · rw [← q, show K - 1 - (K - 1 - i) = i by omega, h, Nat.mul_zero]
    · rw [pp_z hi h e q, Nat.zero_mul]
theorem pp_b {S : Nat → Nat} {K : Nat} (h : ∀ i, i < K → S i ≤ 12) : ∀ e, e ≤ K → pp_ S K e ≤ 12 ^ e
  | 0, _ => Nat.le_refl _
  | e + 1, he => by
    unfold pp_
    rw [Nat.pow_succ]
    exact Nat.mul_le_mul (pp_b h e (by omega)) (h _ (by omega))
theorem tR_b {m : Nat → Int} (hl : WL m) : tR_ m ≤ 20736 := by
  obtain ⟨hn, h4⟩ := nK_c hl
  unfold tR_
  split
  · omega
  · have h1 := pp_b (S := sz_ m) (K := nK m) (fun i hi => (sz_c hl hi).2) (nK m) (Nat.le_refl _)
    have h2 : 12 ^ nK m ≤ 12 ^ 4 := Nat.pow_le_pow_right (by decide) h4
    omega
theorem dg_b {S : Nat → Nat} {K r i : Nat} (h : 0 < S i) : dg_ S K r i < S i := Nat.mod_lt _ h
theorem ev_tval {m : Nat → Int} {all w : Nat → Int32} (hl : WL m) (hA : rA m all) (h2 : 2 ≤ nK m) {D : Nat → Nat} (hD : ∀ i, i < nK m → D i < sz_ m i) (hw : ∀ i, i < nK m → w i = nI (D i)) (ra : Int32) {x2 : Int32} (hx : x2 = nI 10 ∨ ∃ i, i < nK m ∧ x2 = nI i) :
    J_X11_track_153 all ra w x2 = some (vt_ m D x2, ra, w) := by
  obtain ⟨hn, h4⟩ := nK_c hl
  have h12 : ∀ i, i < nK m → D i < 12 := fun i hi => by
    have := (sz_c hl hi).2
    have := hD i hi
    omega
  have e40 : all 40 - (1 : Int32) = nI (nK m - 1) := by rw [hA 40 (by decide), hn, ← iI_nI, s1_ (by omega)]
  have num : ∀ i, i < nK m → F_X11_numberAt all w (nI i) = some (iI (nb_ m D i)) := fun i hi => ev_rnumberAt hA (by omega) (h12 i hi) (hw i hi)
  have num0 : F_X11_numberAt all w (0 : Int32) = some (iI (nb_ m D 0)) := num 0 (by omega)
  have lk0 : F_X11_lookAt all (0 : Int32) (0 : Int32) = some (iI (m 41)) := lk_0 (i := 0) hA (by omega)
  have b0 := nb_b hl (i := 0) (by omega) (hD 0 (by omega))
  have bl := nb_b hl (i := nK m - 1) (by omega) (hD (nK m - 1) (by omega))
  have tl := tt_b hl (i := nK m - 1) (by omega)
  have tl2 := tl.2.2 (by omega)
  unfold J_X11_track_153 vt_
  rcases hx with rfl | ⟨i, hi, rfl⟩
  · rw [if_pos (show (10 : Int32) ≤ nI 10 by decide), if_pos (show nI 10 = (10 : Int32) from rfl), e40, num _ (by omega), bs_, num0, bs_, lk_0 hA (by omega), bs_, lk0, bs_, iI_sub, iI_sub, show m (41 + 14 * (nK m - 1)) - m 41 = tt_ m (nK m - 1) from rfl, gd_ok (ne_ok (by omega) (by omega)), show (16 : Int32) = iI 16 from rfl, iI_mul, iI_div (by omega) (by omega) (by omega)]
  · rw [if_neg (show ¬ (10 : Int32) ≤ nI i from nle_ (a := 10) (by decide) (by omega) (by omega)), num i hi, bs_, if_neg (show ¬ nI i = (10 : Int32) by rw [iI_nI, show (10 : Int32) = iI 10 from rfl, iI_eq (by omega) (by omega)]; omega), nI_clamp (by omega)]
theorem ev_tr126 {m : Nat → Int} {all : Nat → Int32} (hl : WL m) (hA : rA m all) (h2 : 2 ≤ nK m) (hs : ∀ i, i < nK m → 0 < sz_ m i) (ra x1 x2 x3 x4 : Int32) (h34 : ¬ (x3 = 0 ∧ x4 = 0)) (hx : ¬ x1 < 0 → x2 = nI 10 ∨ ∃ i, i < nK m ∧ x2 = nI i) : ∀ (d r n c : Nat) (w : Nat → Int32), r + d = tR_ m → d < n → c ≤ r → (∀ i, i < nK m → w i = nI (dg_ (sz_ m) (nK m) r i)) → (¬ x1 < 0 → c ≤ x1.toNatClampNeg) →
    ∃ w2, L_X11_track_126 all n ra w x1 x2 x3 x4 (bI (decide (r < tR_ m))) (nI c) = some (te_ m x1 x2 x3 c r d, ra, w2) := by
  obtain ⟨hn, h4⟩ := nK_c hl
  have hR : tR_ m = pp_ (sz_ m) (nK m) (nK m) := by unfold tR_; rw [if_neg (by omega)]
  have hRb := tR_b hl
  intro d
  induction d with
  | zero =>
    intro r n c w a1 a2 a3 a4 a5
    obtain ⟨n, rfl⟩ : ∃ k, n = k + 1 := ⟨n - 1, by omega⟩
    rw [L_X11_track_126, decide_eq_false (by omega), if_pos (show bI false = 0 from rfl)]
    refine ⟨w, ?_⟩
    have e : te_ m x1 x2 x3 c r 0 = tv_f x3 c := by
      unfold te_ nt_ ct_
      rw [Nat.add_zero]
      split <;> rfl
    rw [e]
    unfold J_X11_track_221 tv_f
    split <;> rfl
  | succ d ih =>
    intro r n c w a1 a2 a3 a4 a5
    obtain ⟨n, rfl⟩ : ∃ k, n = k + 1 := ⟨n - 1, by omega⟩
    have hD : ∀ i, i < nK m → dg_ (sz_ m) (nK m) r i < sz_ m i := fun i hi => dg_b (hs i hi)
    have e1 : L_X11_track_126 all (n + 1) ra w x1 x2 x3 x4 (bI (decide (r < tR_ m))) (nI c) = J_X11_track_140 all (L_X11_track_126 all n) ra w x1 x2 x3 x4 (nI c) := by
      rw [L_X11_track_126, decide_eq_true (by omega), if_neg (show ¬ bI true = 0 by decide)]
      by_cases c3 : x3 = 0
      · rw [if_pos c3, if_neg (fun h => h34 ⟨c3, h⟩)]
      · rw [if_neg c3]
    rw [e1]
    unfold J_X11_track_140
    rw [ev_isTrack hl hA h2 hD a4, bs_, ib_]
    obtain ⟨w2, eg, hw2⟩ := ev_goesOn hl hA hs r (nK m) 0 fu_ w (by omega) (fu_lt (by omega)) rfl (fun i hi => a4 i hi) (fun i h1 h2 => by omega)
    have eq0 : q_ (sz_ m) (nK m) r (nK m) = 0 := by rw [q_p, ← hR]; exact Nat.div_eq_of_lt (by omega)
    have eq1 : decide (q_ (sz_ m) (nK m) (r + 1) (nK m) = q_ (sz_ m) (nK m) r (nK m)) = decide (r + 1 < tR_ m) := by
      rw [eq0, q_p, ← hR]
      by_cases c1 : r + 1 < tR_ m
      · rw [decide_eq_true c1, decide_eq_true (Nat.div_eq_of_lt c1)]
      · rw [decide_eq_false c1, decide_eq_false (show ¬ (r + 1) / tR_ m = 0 by rw [show r + 1 = tR_ m by omega, Nat.div_self (by omega)]; decide)]
    have go : ∀ v, J_X11_track_212 all (L_X11_track_126 all n) ra w x1 x2 x3 x4 v = L_X11_track_126 all n ra w2 x1 x2 x3 x4 (bI (decide (r + 1 < tR_ m))) v := by
      intro v
      unfold J_X11_track_212 F_X11_goesOn
      rw [show all 40 - (1 : Int32) = iI ((nK m : Int) - 1) by rw [hA 40 (by decide), hn, show (1 : Int32) = iI 1 from rfl, iI_sub], eg, bs_, eq1]
    rw [go, go]
    have eP : tx_ m (dg_ (sz_ m) (nK m) r) (nK m) = tP_ m r := rfl
    rw [eP]
    by_cases cp : tP_ m r = true
    · rw [if_pos cp]
      have hct : ct_ (tP_ m) r (d + 1) = 1 + ct_ (tP_ m) (r + 1) d := by
        show (if tP_ m r then 1 else 0) + _ = _
        rw [if_pos cp]
      by_cases c1 : nI c = x1
      · have hx1 : ¬ x1 < 0 := by rw [← c1]; exact nI_pos (by omega)
        rw [if_pos c1, ev_tval hl hA h2 hD a4 ra (hx hx1)]
        refine ⟨w, ?_⟩
        congr 2
        unfold te_
        rw [if_neg hx1, ← c1, nI_clamp (by omega), Nat.sub_self]
        conv => rhs; unfold nt_
        rw [if_pos cp, if_pos rfl]
      · rw [if_neg c1, nI_s]
        have a5b : ¬ x1 < 0 → c + 1 ≤ x1.toNatClampNeg := by
          intro h
          have h1 := a5 h
          obtain ⟨j, hj, rfl⟩ := nI_of h
          rw [nI_clamp hj] at h1 ⊢
          rcases Nat.eq_or_lt_of_le h1 with q | q
          · exact absurd (by rw [q]) c1
          · exact q
        obtain ⟨w3, e3⟩ := ih (r + 1) n (c + 1) w2 (by omega) (by omega) (by omega) hw2 a5b
        refine ⟨w3, ?_⟩
        rw [e3]
        congr 2
        unfold te_
        rw [hct, show c + 1 + ct_ (tP_ m) (r + 1) d = c + (1 + ct_ (tP_ m) (r + 1) d) by omega]
        by_cases hx1 : x1 < 0
        · rw [if_pos hx1, if_pos hx1]
        · have := a5b hx1
          rw [if_neg hx1, if_neg hx1]
          conv => rhs; unfold nt_
          rw [if_pos cp, if_neg (by omega), show x1.toNatClampNeg - c - 1 = x1.toNatClampNeg - (c + 1) by omega]
    · rw [if_neg cp]
      have hct : ct_ (tP_ m) r (d + 1) = ct_ (tP_ m) (r + 1) d := by
        show (if tP_ m r then 1 else 0) + _ = _
        rw [if_neg cp, Nat.zero_add]
      obtain ⟨w3, e3⟩ := ih (r + 1) n c w2 (by omega) (by omega) (by omega) hw2 a5
      refine ⟨w3, ?_⟩
      rw [e3]
      congr 2
      unfold te_
      rw [hct]
      conv => rhs; unfold nt_
      rw [if_neg cp]
/-- there is something to go through -/
def hz_ (m : Nat → Int) : Nat → Bool
  | 0 => decide (1 < nK m)
  | i + 1 => hz_ m i && decide (0 < sz_ m i)
theorem hz_t {m : Nat → Int} : ∀ {n : Nat}, hz_ m n = true → 1 < nK m ∧ ∀ i, i < n → 0 < sz_ m i
  | 0, h => ⟨of_decide_eq_true h, fun i hi => by omega⟩
  | n + 1, h => by
    have h : (hz_ m n && decide (0 < sz_ m n)) = true := h
    rw [Bool.and_eq_true] at h
    have h1 := hz_t h.1
    refine ⟨h1.1, fun i hi => ?_⟩
    rcases Nat.eq_or_lt_of_le (show i ≤ n by omega) with q | q
    · rw [q]; exact of_decide_eq_true h.2
    · exact h1.2 i q
theorem hz_f {m : Nat → Int} : ∀ {n : Nat}, hz_ m n = false → ¬ 1 < nK m ∨ ∃ i, i < n ∧ sz_ m i = 0
  | 0, h => Or.inl (of_decide_eq_false h)
  | n + 1, h => by
    have h : (hz_ m n && decide (0 < sz_ m n)) = false := h
    rw [Bool.and_eq_false_iff] at h
    rcases h with h | h
    · rcases hz_f h with q | ⟨i, q1, q2⟩
      · exact Or.inl q
      · exact Or.inr ⟨i, by omega, q2⟩
    · have := of_decide_eq_false h
      exact Or.inr ⟨n, by omega, by omega⟩
theorem tR_0 {m : Nat → Int} (h : hz_ m (nK m) = false) : tR_ m = 0 := by
  unfold tR_
  rcases hz_f h with q | ⟨i, q1, q2⟩
  · rw [if_pos (by omega)]
  · split
    · rfl
    · exact pp_z q1 q2 _ (by omega)
theorem dg_0 {S : Nat → Nat} {K : Nat} (i : Nat) : dg_ S K 0 i = 0 := by
  unfold dg_
  rw [q_p, Nat.zero_div, Nat.zero_mod]
theorem ev_tr52 {m : Nat → Int} {all : Nat → Int32} (hl : WL m) (hA : rA m all) (ra x1 x2 x3 x4 : Int32) (w : Nat → Int32) (h34 : ¬ (x3 = 0 ∧ x4 = 0)) (hx : ¬ x1 < 0 → x2 = nI 10 ∨ ∃ i, i < nK m ∧ x2 = nI i) :
    ∃ w2, J_X11_track_52 all ra w x1 x2 x3 x4 = some (te_ m x1 x2 x3 0 0 (tR_ m), ra, w2) := by
  obtain ⟨hn, h4⟩ := nK_c hl
  have hRb := tR_b hl
  have e40 : all 40 = nI (nK m) := by rw [hA 40 (by decide), hn, iI_nI]
  have main : ∀ d i n (w : Nat → Int32), i + d = nK m → d < n → (∀ l, l < i → w l = nI 0) → ∃ w2, L_X11_track_75 all n ra w x1 x2 x3 x4 (bI (hz_ m i)) (nI i) = L_X11_track_126 all fu_ ra w2 x1 x2 x3 x4 (bI (hz_ m (nK m))) 0 ∧ ∀ l, l < nK m → w2 l = nI 0 := by
    intro d
    induction d with
    | zero =>
      intro i n w a1 a2 a3
      obtain ⟨n, rfl⟩ : ∃ k, n = k + 1 := ⟨n - 1, by omega⟩
      have : i = nK m := by omega
      subst this
      rw [L_X11_track_75, e40, if_pos (yle_ (by omega) (by omega) (Nat.le_refl _))]
      exact ⟨w, rfl, a3⟩
    | succ d ih =>
      intro i n w a1 a2 a3
      obtain ⟨n, rfl⟩ : ∃ k, n = k + 1 := ⟨n - 1, by omega⟩
      obtain ⟨z1, z2⟩ := sz_c hl (show i < nK m by omega)
      obtain ⟨w2, e2, hw2⟩ := ih (i + 1) n (upd w i 0) (by omega) (by omega) (fun l hl => by
        rw [upd_at]
        by_cases c : l = i
        · rw [if_pos c]; rfl
        · rw [if_neg c]; exact a3 l (by omega))
      refine ⟨w2, ?_, hw2⟩
      rw [L_X11_track_75, e40, if_neg (nle_ (by omega) (by omega) (by omega)), gN_ (by omega) (by decide), nI_clamp (by omega), lk_1 hA (by omega), bs_, nI_s, z1, show (0 : Int32) = iI 0 from rfl, if_e (iI_le (by omega) (by omega)), show iI 0 = (0 : Int32) from rfl, ← e2]
      have eh : hz_ m (i + 1) = (hz_ m i && decide (0 < sz_ m i)) := rfl
      rw [eh]
      cases hz_ m i with
      | false =>
        rw [if_pos (show bI false = 0 from rfl), Bool.false_and]
        rfl
      | true =>
        rw [if_neg (show ¬ bI true = 0 by decide), Bool.true_and]
        by_cases c : (sz_ m i : Int) ≤ 0
        · rw [if_pos c, decide_eq_false (by omega)]; rfl
        · rw [if_neg c, decide_eq_true (by omega)]; rfl
  have e0 : J_X11_track_52 all ra w x1 x2 x3 x4 = L_X11_track_75 all fu_ ra w x1 x2 x3 x4 (bI (hz_ m 0)) (nI 0) := by
    unfold J_X11_track_52
    rw [e40, show (1 : Int32) = nI 1 from rfl, if_e (nI_le2 (by omega) (by omega))]
    show _ = L_X11_track_75 all fu_ ra w x1 x2 x3 x4 (bI (decide (1 < nK m))) (nI 0)
    by_cases c : nK m ≤ 1
    · rw [if_pos c, decide_eq_false (by omega)]; rfl
    · rw [if_neg c, decide_eq_true (by omega)]; rfl
  obtain ⟨w2, e2, hw2⟩ := main (nK m) 0 fu_ w (by omega) (fu_lt (by omega)) (fun l hl => by omega)
  rw [e0, e2]
  cases hz : hz_ m (nK m) with
  | false =>
    have hR := tR_0 hz
    rw [hR]
    refine ⟨w2, ?_⟩
    show L_X11_track_126 all (999999 + 1) ra w2 x1 x2 x3 x4 (bI false) 0 = _
    rw [L_X11_track_126, if_pos (show bI false = 0 from rfl)]
    have e : te_ m x1 x2 x3 0 0 0 = tv_f x3 0 := by
      unfold te_ nt_ ct_
      split <;> rfl
    rw [e]
    unfold J_X11_track_221 tv_f
    split <;> rfl
  | true =>
    obtain ⟨h1, hs⟩ := hz_t hz
    have hR : tR_ m = pp_ (sz_ m) (nK m) (nK m) := by unfold tR_; rw [if_neg (by omega)]
    have hRp : 0 < tR_ m := by rw [hR]; exact pp_pos hs _ (Nat.le_refl _)
    have := ev_tr126 hl hA (by omega) hs ra x1 x2 x3 x4 h34 hx (tR_ m) 0 fu_ 0 w2 (by omega) (fu_lt (by omega)) (Nat.le_refl _) (fun i hi => by rw [dg_0]; exact hw2 i hi) (fun _ => Nat.zero_le _)
    rw [decide_eq_true hRp] at this
    exact this
/-- track(k, what) -/
def qz_ (m : Nat → Int) (x y : Int) : Int32 :=
  if x = -1 then (if y = 0 then nI (ct_ (tP_ m) 0 (tR_ m)) else -100000)
  else if 0 ≤ x ∧ (y = 10 ∨ (0 ≤ y ∧ y < m 40)) then (match nt_ (tP_ m) 0 (tR_ m) x.toNat with
    | some r => vt_ m (dg_ (sz_ m) (nK m) r) (iI y)
    | none => -100000) else -100000
theorem ev_tr00 {all : Nat → Int32} {m : Nat → Int} (hl : WL m) (hA : rA m all) (ra x1 x2 : Int32) (w : Nat → Int32) : ∃ w2, J_X11_track_52 all ra w x1 x2 0 0 = some (-100000, ra, w2) := by
  obtain ⟨hn, h4⟩ := nK_c hl
  have e40 : all 40 = nI (nK m) := by rw [hA 40 (by decide), hn, iI_nI]
  have main : ∀ d i n (w : Nat → Int32) (z : Bool), i + d = nK m → d < n → ∃ w2, L_X11_track_75 all n ra w x1 x2 0 0 (bI z) (nI i) = some (-100000, ra, w2) := by
    intro d
    induction d with
    | zero =>
      intro i n w z a1 a2
      obtain ⟨n, rfl⟩ : ∃ k, n = k + 1 := ⟨n - 1, by omega⟩
      have : i = nK m := by omega
      subst this
      rw [L_X11_track_75, e40, if_pos (yle_ (by omega) (by omega) (Nat.le_refl _))]
      refine ⟨w, ?_⟩
      show L_X11_track_126 all (999999 + 1) ra w x1 x2 0 0 (bI z) 0 = _
      rw [L_X11_track_126, if_pos rfl, if_pos rfl]
      unfold J_X11_track_221
      rw [if_pos rfl]
      split <;> rfl
    | succ d ih =>
      intro i n w z a1 a2
      obtain ⟨n, rfl⟩ : ∃ k, n = k + 1 := ⟨n - 1, by omega⟩
      rw [L_X11_track_75, e40, if_neg (nle_ (by omega) (by omega) (by omega)), gN_ (by omega) (by decide), nI_clamp (by omega), lk_1 hA (by omega), bs_, nI_s]
      split
      · exact ih (i + 1) n _ false (by omega) (by omega)
      · split
        · exact ih (i + 1) n _ false (by omega) (by omega)
        · exact ih (i + 1) n _ true (by omega) (by omega)
  unfold J_X11_track_52
  split
  · exact main (nK m) 0 fu_ w false (by omega) (fu_lt (by omega))
  · exact main (nK m) 0 fu_ w true (by omega) (fu_lt (by omega))
theorem ev_rtrack {m : Nat → Int} {all : Nat → Int32} (hl : WL m) (hA : rA m all) (ra : Int32) (w : Nat → Int32) {x y : Int} (hx : rg x) (hy : rg y) :
    ∃ w2, F_X11_track ra all w (iI x) (iI y) = some (qz_ m x y, 0, w2) := by
  obtain ⟨hn, h4⟩ := nK_c hl
  have e40 : all 40 - (1 : Int32) = iI (m 40 - 1) := by rw [hA 40 (by decide), show (1 : Int32) = iI 1 from rfl, iI_sub]
  have ex : (iI x = -1) = (x = -1) := by
    rw [show (-1 : Int32) = iI (-1) from rfl]
    exact iI_eq hx (by omega)
  have ey : (iI y = 0) = (y = 0) := iI_eq (b := 0) hy (by omega)
  have ex0 : (iI x < 0) = (x < 0) := iI_l0 hx
  have ey10 : (iI y = 10) = (y = 10) := iI_eq (b := 10) hy (by omega)
  unfold F_X11_track qz_
  rw [if_e ex, if_e ey]
  by_cases c1 : x = -1
  · rw [if_pos c1, if_pos c1]
    have hneg : iI x < 0 := by rw [ex0]; omega
    have t19 : ∀ s0, J_X11_track_19 all 0 w (iI x) (iI y) s0 = J_X11_track_52 all 0 w (iI x) (iI y) s0 0 := fun s0 => by
      unfold J_X11_track_19
      rw [if_pos hneg]
      rfl
    by_cases c2 : y = 0
    · rw [if_pos c2, if_pos c2, t19]
      obtain ⟨w2, e⟩ := ev_tr52 hl hA 0 (iI x) (iI y) 1 0 w (by rintro ⟨h, -⟩; exact absurd h (by decide)) (fun h => absurd hneg h)
      refine ⟨w2, ?_⟩
      rw [e]
      congr 2
      unfold te_ tv_f
      rw [if_pos hneg, if_neg (by decide), Nat.zero_add]
    · rw [if_neg c2, if_neg c2]
      unfold J_X11_track_18
      rw [t19]
      exact ev_tr00 hl hA 0 _ _ w
  · rw [if_neg c1, if_neg c1]
    unfold J_X11_track_18 J_X11_track_19 J_X11_track_51 J_X11_track_47
    rw [if_e ex0, if_e ey10]
    by_cases c3 : x < 0
    · rw [if_pos c3, if_neg (by omega)]
      exact ev_tr00 hl hA 0 _ _ w
    · rw [if_neg c3]
      obtain ⟨k, rfl⟩ : ∃ t : Nat, x = t := ⟨x.toNat, by omega⟩
      have fin : (y = 10 ∨ (0 ≤ y ∧ y < m 40)) → ∃ w2, J_X11_track_52 all 0 w (iI k) (iI y) 0 1 = some ((match nt_ (tP_ m) 0 (tR_ m) ((k : Int)).toNat with
            | some r => vt_ m (dg_ (sz_ m) (nK m) r) (iI y)
            | none => -100000), 0, w2) := by
        intro h
        obtain ⟨w2, e⟩ := ev_tr52 hl hA 0 (iI k) (iI y) 0 1 w (by rintro ⟨-, h⟩; exact absurd h (by decide)) (fun _ => by
          rcases h with h | h
          · left; rw [h]; rfl
          · right; exact ⟨y.toNat, by omega, iN h.1⟩)
        refine ⟨w2, ?_⟩
        rw [e]
        congr 2
        unfold te_ tv_f
        rw [if_neg (by rw [ex0]; omega), if_pos rfl, iI_clamp hx, Nat.sub_zero]
      by_cases c4 : y = 10
      · rw [if_pos c4, if_pos ⟨by omega, Or.inl c4⟩]
        exact fin (Or.inl c4)
      · rw [if_neg c4, e40, show (0 : Int32) = iI 0 from rfl, ev_in hy (by omega) (by omega), bs_, show iI 0 = (0 : Int32) from rfl, ib_]
        by_cases c5 : 0 ≤ y ∧ y < m 40
        · rw [if_pos (decide_eq_true (by omega)), if_pos ⟨by omega, Or.inr c5⟩]
          exact fin (Or.inr c5)
        · rw [if_neg (by rw [decide_eq_false (by omega)]; decide), if_neg (by omega)]
          exact ev_tr00 hl hA 0 _ _ w
/-! ===== END ===== -/
