/-! ===== BEGIN a gap more ===== -/
/-- where a gap comes: behind the last one that is not greater -/
def ps_ (m : Nat → Int) (g : Int) : Nat → Nat
  | 0 => 0
  | k + 1 => if m (1 + k) ≤ g then k + 1 else ps_ m g k
def ig_ (m : Nat → Int) (g : Int) : Nat → Int := fun i => if i = 0 then m 0 + 1 else if i ≤ nG m + 1 then (if i - 1 < ps_ m g (nG m) then m i else if i - 1 = ps_ m g (nG m) then g else m (i - 1)) else m i
theorem ps_le (m : Nat → Int) (g : Int) : ∀ n, ps_ m g n ≤ n
  | 0 => Nat.le_refl 0
  | n + 1 => by
    have := ps_le m g n
    unfold ps_
    split <;> omega
theorem ps_hi {m : Nat → Int} {g : Int} : ∀ {n k : Nat}, ps_ m g n ≤ k → k < n → g < m (1 + k)
  | 0, _, _, h => by omega
  | n + 1, k, h1, h2 => by
    unfold ps_ at h1
    by_cases c : m (1 + n) ≤ g
    · rw [if_pos c] at h1; omega
    · rw [if_neg c] at h1
      rcases Nat.eq_or_lt_of_le (show k ≤ n by omega) with q | q
      · rw [q]; omega
      · exact ps_hi h1 q
theorem ps_at {m : Nat → Int} {g : Int} : ∀ {n : Nat}, 0 < ps_ m g n → m (1 + (ps_ m g n - 1)) ≤ g
  | 0, h => by unfold ps_ at h; omega
  | n + 1, h => by
    unfold ps_ at h ⊢
    by_cases c : m (1 + n) ≤ g
    · rw [if_pos c]
      rw [show n + 1 - 1 = n by omega]; exact c
    · rw [if_neg c] at h ⊢
      exact ps_at h
theorem ps_lo {m : Nat → Int} (hg : WG m) {g : Int} {k : Nat} (h : k < ps_ m g (nG m)) : m (1 + k) ≤ g := by
  obtain ⟨hn, h5⟩ := nG_c hg
  have h1 := ps_at (m := m) (g := g) (n := nG m) (by omega)
  have h2 := ps_le m g (nG m)
  rcases Nat.eq_or_lt_of_le (show k ≤ ps_ m g (nG m) - 1 by omega) with q | q
  · rw [q]; exact h1
  · have := hg.2.2.2 k (ps_ m g (nG m) - 1) q (by omega)
    omega
theorem ig_0 (m : Nat → Int) (g : Int) : ig_ m g 0 = m 0 + 1 := rfl
theorem ig_hi {m : Nat → Int} (hg : WG m) (h5 : nG m < 5) (g : Int) {i : Nat} (h : 6 ≤ i) : ig_ m g i = m i := by
  unfold ig_
  rw [if_neg (by omega), if_neg (by omega)]
theorem ig_a {m : Nat → Int} {g : Int} {k : Nat} (hk : k < ps_ m g (nG m)) : ig_ m g (1 + k) = m (1 + k) := by
  have h2 := ps_le m g (nG m)
  unfold ig_
  rw [if_neg (by omega), if_pos (by omega), if_pos (by omega)]
theorem ig_b {m : Nat → Int} {g : Int} : ig_ m g (1 + ps_ m g (nG m)) = g := by
  have h2 := ps_le m g (nG m)
  unfold ig_
  rw [if_neg (by omega), if_pos (by omega), if_neg (by omega), if_pos (by omega)]
theorem ig_c {m : Nat → Int} {g : Int} {k : Nat} (hk : ps_ m g (nG m) ≤ k) (h : k < nG m) : ig_ m g (1 + (k + 1)) = m (1 + k) := by
  unfold ig_
  rw [if_neg (by omega), if_pos (by omega), if_neg (by omega), if_neg (by omega)]
  congr 1
theorem nG_ig {m : Nat → Int} (hg : WG m) (g : Int) : nG (ig_ m g) = nG m + 1 := by
  obtain ⟨hn, h5⟩ := nG_c hg
  unfold nG
  rw [ig_0]
  omega
/-- is a number one of the gaps -/
def hg_ (m : Nat → Int) (x : Int) : Nat → Bool
  | 0 => false
  | k + 1 => hg_ m x k || decide (m (1 + k) = x)
theorem hg_n {m : Nat → Int} {x : Int} : ∀ {n k : Nat}, hg_ m x n = false → k < n → m (1 + k) ≠ x
  | 0, _, _, h => by omega
  | n + 1, k, h, hk => by
    have h : (hg_ m x n || decide (m (1 + n) = x)) = false := h
    rw [Bool.or_eq_false_iff, decide_eq_false_iff_not] at h
    rcases Nat.eq_or_lt_of_le (show k ≤ n by omega) with q | q
    · rw [q]; exact h.2
    · exact hg_n h.1 q
theorem hg_t {m : Nat → Int} {x : Int} : ∀ {n k : Nat}, k < n → m (1 + k) = x → hg_ m x n = true
  | n + 1, k, hk, h => by
    show (hg_ m x n || decide (m (1 + n) = x)) = true
    rcases Nat.eq_or_lt_of_le (show k ≤ n by omega) with q | q
    · rw [← q, decide_eq_true h, Bool.or_true]
    · rw [hg_t q h, Bool.true_or]
theorem WG_ig {m : Nat → Int} (hg : WG m) (h5 : nG m < 5) {g : Int} (hb : 4 ≤ g ∧ g ≤ 60) (hx : hg_ m g (nG m) = false) : WG (ig_ m g) := by
  obtain ⟨hn, -⟩ := nG_c hg
  have hp := ps_le m g (nG m)
  have e0 : ig_ m g 0 = m 0 + 1 := rfl
  have val : ∀ k : Nat, k < nG m + 1 → (k < ps_ m g (nG m) ∧ ig_ m g (1 + k) = m (1 + k)) ∨ (k = ps_ m g (nG m) ∧ ig_ m g (1 + k) = g) ∨ (ps_ m g (nG m) < k ∧ ig_ m g (1 + k) = m (1 + (k - 1))) := by
    intro k hk
    rcases Nat.lt_trichotomy k (ps_ m g (nG m)) with q | q | q
    · exact Or.inl ⟨q, ig_a q⟩
    · exact Or.inr (Or.inl ⟨q, by rw [q]; exact ig_b⟩)
    · obtain ⟨j, rfl⟩ : ∃ j, k = j + 1 := ⟨k - 1, by omega⟩
      exact Or.inr (Or.inr ⟨q, ig_c (by omega) (by omega)⟩)
  refine ⟨by omega, by omega, fun k hk => ?_, fun i j h1 h2 => ?_⟩
  · rcases val k (by omega) with ⟨h, e⟩ | ⟨h, e⟩ | ⟨h, e⟩
    · rw [e]; exact hg.2.2.1 k (by omega)
    · rw [e]; exact hb
    · rw [e]; exact hg.2.2.1 (k - 1) (by omega)
  · rcases val i (by omega) with ⟨a, e⟩ | ⟨a, e⟩ | ⟨a, e⟩ <;> rcases val j (by omega) with ⟨b, f⟩ | ⟨b, f⟩ | ⟨b, f⟩ <;> rw [e, f]
    · exact hg.2.2.2 i j h1 (by omega)
    · have := ps_lo hg a
      have := hg_n hx (show i < nG m by omega)
      omega
    · exact hg.2.2.2 i (j - 1) (by omega) (by omega)
    · omega
    · omega
    · exact ps_hi (n := nG m) (k := j - 1) (by omega) (by omega)
    · omega
    · omega
    · exact hg.2.2.2 (i - 1) (j - 1) (by omega) (by omega)
theorem ev_putsGap {m : Nat → Int} {r : Nat → Int32} (hg : WG m) (h5 : nG m < 5) (hA : rA m r) {g : Int} (hb : 4 ≤ g ∧ g ≤ 60) {N : Nat} (hN : 97 ≤ N ∧ N ≤ 1000) :
    ∃ r2, F_X11_putsGap r N (iI g) = some r2 ∧ rA (ig_ m g) r2 ∧ ∀ i, 97 ≤ i → r2 i = r i := by
  obtain ⟨hn, -⟩ := nG_c hg
  have hgc : r 0 = nI (nG m) := by rw [hA 0 (by decide), hn, iI_nI]
  have main : ∀ k f (q : Nat → Int32), k ≤ nG m → k < f → ps_ m g (nG m) = ps_ m g k → (∀ i, q i = if k + 1 < i ∧ i ≤ nG m + 1 then r (i - 1) else r i) → ∃ r2, L_X11_putsGap_4 N f q (iI g) (nI k) = some r2 ∧ rA (ig_ m g) r2 ∧ ∀ i, 97 ≤ i → r2 i = r i := by
    intro k
    induction k with
    | zero =>
      intro f q h1 h2 hp hq
      obtain ⟨f, rfl⟩ : ∃ k, f = k + 1 := ⟨f - 1, by omega⟩
      have hp0 : ps_ m g (nG m) = 0 := hp
      rw [L_X11_putsGap_4, if_pos (show nI 0 ≤ 0 by decide)]
      unfold J_X11_putsGap_37
      rw [show (1 : Int32) + nI 0 = nI 1 from rfl, gN_ (by omega) (by omega), gd_ok (show in_b (0 : Int32) N = true from in_N (k := 0) (by omega) (by omega)), gd_ok (show in_b (0 : Int32) N = true from in_N (k := 0) (by omega) (by omega)), show (0 : Int32).toNatClampNeg = 0 from rfl, nI_clamp (by omega)]
      refine ⟨_, rfl, fun i hi => ?_, fun i hi => ?_⟩
      · rw [upd_at]
        by_cases c0 : i = 0
        · rw [if_pos c0, c0, upd_at, if_neg (by omega), hq 0, if_neg (by omega), hgc, nI_s, ig_0, iI_nI, hn, Int.natCast_add]
          rfl
        · rw [if_neg c0, upd_at]
          by_cases c1 : i = 1
          · rw [if_pos c1, c1]
            have : ig_ m g (1 + ps_ m g (nG m)) = g := ig_b
            rw [hp0] at this
            rw [this]
          · rw [if_neg c1, hq i]
            by_cases c2 : i ≤ nG m + 1
            · rw [if_pos (by omega), hA _ (by omega)]
              obtain ⟨k, rfl⟩ : ∃ k, i = 1 + (k + 1) := ⟨i - 2, by omega⟩
              rw [ig_c (by omega) (by omega)]
              congr 2
            · rw [if_neg (by omega), hA i hi]
              unfold ig_
              rw [if_neg c0, if_neg c2]
      · rw [upd_at, if_neg (by omega), upd_at, if_neg (by omega), hq i, if_neg (by omega)]
    | succ k ih =>
      intro f q h1 h2 hp hq
      obtain ⟨f, rfl⟩ : ∃ k, f = k + 1 := ⟨f - 1, by omega⟩
      have hgk := hg.2.2.1 k (by omega)
      have qk : q (k + 1) = iI (m (1 + k)) := by rw [hq (k + 1), if_neg (by omega), hA _ (by omega), Nat.add_comm]
      have ek : (1 : Int32) + nI (k + 1) - (1 : Int32) = nI (k + 1) := by rw [iI_nI, show (1 : Int32) = iI 1 from rfl, iI_add, iI_sub]; congr 1; omega
      rw [L_X11_putsGap_4, if_neg (show ¬ nI (k + 1) ≤ 0 from nle_ (b := 0) (by omega) (by decide) (by omega)), ek, gN_ (by omega) (by omega), nI_clamp (by omega), qk, if_e (iI_le (by omega) (by omega))]
      by_cases c : m (1 + k) ≤ g
      · have hpk : ps_ m g (nG m) = k + 1 := by rw [hp]; unfold ps_; rw [if_pos c]
        rw [if_pos c]
        unfold J_X11_putsGap_37
        rw [show (1 : Int32) + nI (k + 1) = nI (k + 2) by rw [show (1 : Int32) = nI 1 from rfl, nI_add]; congr 1; omega, gN_ (by omega) (by omega), gd_ok (show in_b (0 : Int32) N = true from in_N (k := 0) (by omega) (by omega)), gd_ok (show in_b (0 : Int32) N = true from in_N (k := 0) (by omega) (by omega)), show (0 : Int32).toNatClampNeg = 0 from rfl, nI_clamp (by omega)]
        refine ⟨_, rfl, fun i hi => ?_, fun i hi => ?_⟩
        · rw [upd_at]
          by_cases c0 : i = 0
          · rw [if_pos c0, c0, upd_at, if_neg (by omega), hq 0, if_neg (by omega), hgc, nI_s, ig_0, iI_nI, hn, Int.natCast_add]
            rfl
          · rw [if_neg c0, upd_at]
            by_cases c1 : i = k + 2
            · rw [if_pos c1, c1]
              have : ig_ m g (1 + ps_ m g (nG m)) = g := ig_b
              rw [hpk, show 1 + (k + 1) = k + 2 by omega] at this
              rw [this]
            · rw [if_neg c1, hq i]
              by_cases c2 : i ≤ nG m + 1
              · by_cases c3 : k + 1 + 1 < i
                · rw [if_pos ⟨c3, c2⟩, hA _ (by omega)]
                  obtain ⟨j, rfl⟩ : ∃ j, i = 1 + (j + 1) := ⟨i - 2, by omega⟩
                  rw [ig_c (by omega) (by omega)]
                  congr 2
                · rw [if_neg (by omega), hA _ (by omega)]
                  obtain ⟨j, rfl⟩ : ∃ j, i = 1 + j := ⟨i - 1, by omega⟩
                  rw [ig_a (by omega)]
              · rw [if_neg (by omega), hA i hi]
                unfold ig_
                rw [if_neg c0, if_neg c2]
        · rw [upd_at, if_neg (by omega), upd_at, if_neg (by omega), hq i, if_neg (by omega)]
      · have hpk : ps_ m g (nG m) = ps_ m g k := by rw [hp]; conv => lhs; unfold ps_
                                                    rw [if_neg c]
        rw [if_neg c, gN_ (by omega) (by omega), show (1 : Int32) + nI (k + 1) = nI (k + 2) by rw [show (1 : Int32) = nI 1 from rfl, nI_add]; congr 1; omega, gN_ (by omega) (by omega), nI_clamp (by omega), m1_]
        refine ih f _ (by omega) (by omega) hpk (fun i => ?_)
        rw [upd_at]
        by_cases c1 : i = k + 2
        · rw [if_pos c1, c1, if_pos (by omega), show k + 2 - 1 = k + 1 by omega, hA (k + 1) (by omega), Nat.add_comm k 1]
        · rw [if_neg c1, hq i]
          by_cases c3 : k + 1 + 1 < i ∧ i ≤ nG m + 1
          · rw [if_pos c3, if_pos (by omega)]
          · rw [if_neg c3, if_neg (by omega)]
  unfold F_X11_putsGap
  rw [gd_ok (show in_b (0 : Int32) N = true from in_N (k := 0) (by omega) (by omega)), show (0 : Int32).toNatClampNeg = 0 from rfl, hgc]
  exact main (nG m) fu_ r (Nat.le_refl _) (fu_lt (by omega)) rfl (fun i => by rw [if_neg (by omega)])
theorem ev_hasGapR {m : Nat → Int} {r : Nat → Int32} (hg : WG m) (hA : rA m r) {x : Int} (hx : rg x) {N : Nat} (hN : 97 ≤ N ∧ N ≤ 1000) : F_X11_hasGap r N (iI x) = some (bI (hg_ m x (nG m))) := by
  obtain ⟨hn, h5⟩ := nG_c hg
  have hgc : r 0 = nI (nG m) := by rw [hA 0 (by decide), hn, iI_nI]
  refine lp_E (fun f k => L_X11_hasGap_2 r N f (iI x) (nI k)) (nG m) _ (fun k => hg_ m x k = false) ?_ ?_ (nG m) 0 fu_ (by omega) (fu_lt (by omega)) rfl
  · intro f k hk q
    have hb := hg.2.2.1 k (by omega)
    show L_X11_hasGap_2 r N (f + 1) (iI x) (nI k) = _ ∨ _
    rw [L_X11_hasGap_2, gd_ok (show in_b (0 : Int32) N = true from in_N (k := 0) (by omega) (by omega)), show (0 : Int32).toNatClampNeg = 0 from rfl, hgc, if_neg (nle_ (by omega) (by omega) hk), show (1 : Int32) + nI k = nI (1 + k) from nI_add 1 k, gN_ (by omega) (by omega), nI_clamp (by omega), hA _ (by omega), if_e (iI_eq (by omega) hx), nI_s]
    by_cases c : m (1 + k) = x
    · left
      rw [if_pos c, hg_t hk c]
      rfl
    · right
      rw [if_neg c]
      refine ⟨?_, rfl⟩
      show (hg_ m x k || decide (m (1 + k) = x)) = false
      rw [q, decide_eq_false c]; rfl
  · intro f q
    show L_X11_hasGap_2 r N (f + 1) (iI x) (nI (nG m)) = _
    rw [L_X11_hasGap_2, gd_ok (show in_b (0 : Int32) N = true from in_N (k := 0) (by omega) (by omega)), show (0 : Int32).toNatClampNeg = 0 from rfl, hgc, if_pos (yle_ (by omega) (by omega) (Nat.le_refl _)), q]
    rfl
theorem ev_indexOfGap {m : Nat → Int} {gc : Int32} {gaps : Nat → Int32} (hg : WG m) (hG : cG m gc gaps) {x : Int} (hx : rg x) : ∃ k, F_X5_indexOfGap gc gaps (iI x) = some (if hg_ m x (nG m) = true then nI k else -1) ∧ (hg_ m x (nG m) = true → k < nG m ∧ m (1 + k) = x) := by
  obtain ⟨hn, h5⟩ := nG_c hg
  have hgc : gc = nI (nG m) := by rw [hG.1, hn, iI_nI]
  have main : ∀ d k f, k + d = nG m → d < f → hg_ m x k = false → ∃ j, L_X5_indexOfGap_2 gc gaps f (iI x) (nI k) = some (if hg_ m x (nG m) = true then nI j else -1) ∧ (hg_ m x (nG m) = true → j < nG m ∧ m (1 + j) = x) := by
    intro d
    induction d with
    | zero =>
      intro k f h1 h2 q
      obtain ⟨f, rfl⟩ : ∃ k, f = k + 1 := ⟨f - 1, by omega⟩
      have : k = nG m := by omega
      subst this
      refine ⟨0, ?_, fun h => by rw [q] at h; cases h⟩
      rw [L_X5_indexOfGap_2, if_pos (show gc ≤ nI (nG m) by rw [hgc]; exact yle_ (by omega) (by omega) (Nat.le_refl _)), q]
      rfl
    | succ d ih =>
      intro k f h1 h2 q
      obtain ⟨f, rfl⟩ : ∃ k, f = k + 1 := ⟨f - 1, by omega⟩
      have hb := hg.2.2.1 k (by omega)
      rw [L_X5_indexOfGap_2, if_neg (show ¬ gc ≤ nI k by rw [hgc]; exact nle_ (by omega) (by omega) (by omega)), gN_ (by omega) (by decide), nI_clamp (by omega), hG.2 k (by omega), if_e (iI_eq (by omega) hx), nI_s]
      by_cases c : m (1 + k) = x
      · refine ⟨k, ?_, fun _ => ⟨by omega, c⟩⟩
        rw [if_pos c, if_pos (hg_t (show k < nG m by omega) c)]
      · rw [if_neg c]
        refine ih (k + 1) f (by omega) (by omega) ?_
        show (hg_ m x k || decide (m (1 + k) = x)) = false
        rw [q, decide_eq_false c]; rfl
  exact main (nG m) 0 fu_ (by omega) (fu_lt (by omega)) rfl
/-! ===== END ===== -/
