/-! ===== BEGIN pulses that are sent ===== -/
def ur_ (y : Int32) : Nat := y.toBitVec.toNat / 65536
theorem ur_b (y : Int32) : ur_ y < 65536 := by
  have := y.toBitVec.isLt
  unfold ur_
  omega
theorem ur_e (y : Int32) : (y.toUInt32 >>> (((16 : Int32)).toUInt32 &&& Int32.toUInt32 31)).toInt32 = nI (ur_ y) := by
  have h := pk_ushr y 16 16 (by decide)
  apply Int32.toBitVec.inj
  apply BitVec.eq_of_toNat_eq
  rw [h]
  show _ = (BitVec.ofNat 32 (ur_ y)).toNat
  have hb := ur_b y
  rw [BitVec.toNat_ofNat, Nat.mod_eq_of_lt (by omega)]
  rfl
/-- the seed's numbers -/
def xq_ (x : Int32) : Nat → Int32
  | 0 => x
  | i + 1 => xq_ x i * (1103515245 : Int32) + (12345 : Int32)
def sk_ (x : Int32) (j i : Nat) : Int := ((ur_ (xq_ x (i + 1)) % (2 * j + 1) : Nat) : Int) - j
/-- when the i-th pulse is sent -/
def sT (n : Nat) (G : Nat → Int) (x : Int32) (j : Nat) : Nat → Int
  | 0 => 0
  | i + 1 => sT n G x j i + (G (i % n) + sk_ x j i)
theorem sk_b (x : Int32) {j : Nat} (hj : j ≤ 3) (i : Nat) : -3 ≤ sk_ x j i ∧ sk_ x j i ≤ 3 := by
  have := Nat.mod_lt (ur_ (xq_ x (i + 1))) (show 0 < 2 * j + 1 by omega)
  unfold sk_
  omega
theorem sT_s {n : Nat} {G : Nat → Int} (hn : 0 < n) (hG : ∀ k, k < n → 4 ≤ G k ∧ G k ≤ 60) (x : Int32) {j : Nat} (hj : j ≤ 3) (i : Nat) : sT n G x j i + 1 ≤ sT n G x j (i + 1) ∧ sT n G x j (i + 1) ≤ sT n G x j i + 63 := by
  have h1 := hG (i % n) (Nat.mod_lt i hn)
  have h2 := sk_b x hj i
  have e : sT n G x j (i + 1) = sT n G x j i + (G (i % n) + sk_ x j i) := rfl
  omega
theorem sT_b {n : Nat} {G : Nat → Int} (hn : 0 < n) (hG : ∀ k, k < n → 4 ≤ G k ∧ G k ≤ 60) (x : Int32) {j : Nat} (hj : j ≤ 3) : ∀ i : Nat, 0 ≤ sT n G x j i ∧ sT n G x j i ≤ 63 * i
  | 0 => by unfold sT; omega
  | i + 1 => by
    have ih := sT_b hn hG x hj i
    have := sT_s hn hG x hj i
    omega
theorem ev_send {n : Nat} {G : Nat → Int} (hn : 0 < n ∧ n ≤ 5) (hG : ∀ k, k < n → 4 ≤ G k ∧ G k ≤ 60) (x : Int32) {j : Nat} (hj : j ≤ 3) {row : Nat → Int32} (hr : ∀ k, k < n → row k = iI (G k)) {N : Nat} (hN : 1 ≤ N ∧ N ≤ 64) (pu : Int32) (se : Nat → Int32) :
    ∃ s, F_X2_send (nI n) pu row se (nI N) x (nI j) = some (nI N, s) ∧ ∀ i, i ≤ N → s i = iI (sT n G x j i) := by
  have main : ∀ d k f (s : Nat → Int32), k + d = N → d < f → (0 < k → ∀ i, i ≤ k → s i = iI (sT n G x j i)) →
      ∃ s2, L_X2_send_14 (nI n) row f (nI N) s (nI N) (nI j) (xq_ x k) (iI (sT n G x j k)) (nI k) = some (nI N, s2) ∧ ∀ i, i ≤ N → s2 i = iI (sT n G x j i) := by
    intro d
    induction d with
    | zero =>
      intro k f s e hlt hs
      obtain ⟨f, rfl⟩ : ∃ k, f = k + 1 := ⟨f - 1, by omega⟩
      have : k = N := by omega
      subst this
      refine ⟨s, ?_, hs (by omega)⟩
      rw [L_X2_send_14, if_pos (yle_ (by omega) (by omega) (Nat.le_refl _))]
    | succ d ih =>
      intro k f s e hlt hs
      obtain ⟨f, rfl⟩ : ∃ k, f = k + 1 := ⟨f - 1, by omega⟩
      have hb := sT_b hn.1 hG x hj k
      have hm := Nat.mod_lt k hn.1
      have hu := ur_b (xq_ x (k + 1))
      have hmu := Nat.mod_lt (ur_ (xq_ x (k + 1))) (show 0 < 2 * j + 1 by omega)
      rw [L_X2_send_14, if_neg (nle_ (by omega) (by omega) (by omega)), if_neg (show ¬ (64 : Int32) ≤ nI k from nle_ (a := 64) (by decide) (by omega) (by omega)), gN_ (by omega) (by decide)]
      rw [show F_X10_rest (nI k) (nI n) = some (nI (k % n)) by rw [iI_nI, iI_nI n, ev_rest (by omega) (by omega) (by omega) (by omega), ← Int.natCast_emod, ← iI_nI], bs_, gN_ (by omega) (by decide)]
      rw [show xq_ x k * (1103515245 : Int32) + (12345 : Int32) = xq_ x (k + 1) from rfl, ur_e, show (2 : Int32) = nI 2 from rfl, pk_mul, nI_s, show F_X10_rest (nI (ur_ (xq_ x (k + 1)))) (nI (2 * j + 1)) = some (nI (ur_ (xq_ x (k + 1)) % (2 * j + 1))) by rw [iI_nI, iI_nI (2 * j + 1), ev_rest (by omega) (by omega) (by omega) (by omega), ← Int.natCast_emod, ← iI_nI], bs_, nI_s, gN_ (by omega) (by decide), nI_clamp (by omega), nI_clamp (by omega), nI_clamp (by omega), hr _ hm]
      rw [show iI (sT n G x j k) + (iI (G (k % n)) + nI (ur_ (xq_ x (k + 1)) % (2 * j + 1)) - nI j) = iI (sT n G x j (k + 1)) by
        rw [iI_nI, iI_nI j, iI_add, iI_sub, iI_add]
        congr 1
        show _ = sT n G x j k + (G (k % n) + sk_ x j k)
        unfold sk_
        omega]
      refine ih (k + 1) f _ (by omega) (by omega) (fun _ i hi => ?_)
      rw [upd_at]
      by_cases c : i = k + 1
      · rw [if_pos c, c]
      · rw [if_neg c, upd_at]
        by_cases c2 : i = k
        · rw [if_pos c2, c2]
        · rw [if_neg c2]
          exact hs (by omega) i (by omega)
  exact main N 0 fu_ se (by omega) (fu_lt (by omega)) (fun h => absurd h (Nat.lt_irrefl 0))
theorem ev_sends {m : Nat → Int} {all : Nat → Int32} (hg : WG m) (hA : rA m all) (h0 : 0 < nG m) {od : Nat → Nat} (hod : ∀ k, k < nG m → od k < nG m) (x : Int32) {j : Nat} (hj : j ≤ 3) {ord : Nat → Int32} (hr : ∀ k, k < nG m → ord k = nI (od k)) {N : Nat} (hN : 1 ≤ N ∧ N ≤ 64) (tx : Int32) (se : Nat → Int32) :
    ∃ y s, F_X11_sends tx all se ord x (nI N) (nI j) = some (y, s) ∧ ∀ i, i ≤ N → s i = iI (sT (nG m) (fun k => m (1 + od k)) x j i) := by
  obtain ⟨hn, h5⟩ := nG_c hg
  have hgc : all 0 = nI (nG m) := by rw [hA 0 (by decide), hn, iI_nI]
  have hG : ∀ k, k < nG m → 4 ≤ m (1 + od k) ∧ m (1 + od k) ≤ 60 := fun k hk => hg.2.2.1 (od k) (by have := hod k hk; omega)
  have main : ∀ d k f (s : Nat → Int32), k + d = N → d < f → (∀ i, i ≤ k → s i = iI (sT (nG m) (fun k => m (1 + od k)) x j i)) →
      ∃ y s2, L_X11_sends_15 all ord f (xq_ x k) s (nI N) (nI j) (nI k) = some (y, s2) ∧ ∀ i, i ≤ N → s2 i = iI (sT (nG m) (fun k => m (1 + od k)) x j i) := by
    intro d
    induction d with
    | zero =>
      intro k f s e hlt hs
      obtain ⟨f, rfl⟩ : ∃ k, f = k + 1 := ⟨f - 1, by omega⟩
      have : k = N := by omega
      subst this
      refine ⟨xq_ x k, s, ?_, hs⟩
      rw [L_X11_sends_15, if_pos (yle_ (by omega) (by omega) (Nat.le_refl _))]
    | succ d ih =>
      intro k f s e hlt hs
      obtain ⟨f, rfl⟩ : ∃ k, f = k + 1 := ⟨f - 1, by omega⟩
      have hb := sT_b h0 hG x hj k
      have hm := Nat.mod_lt k h0
      have hu := ur_b (xq_ x (k + 1))
      have hmu := Nat.mod_lt (ur_ (xq_ x (k + 1))) (show 0 < 2 * j + 1 by omega)
      have hodk := hod _ hm
      rw [L_X11_sends_15, if_neg (nle_ (by omega) (by omega) (by omega)), hgc, show (2 : Int32) = nI 2 from rfl, pk_mul, nI_s, gd_ok (nI_nz (by omega) (by omega)), gN_ (by omega) (by decide), gd_ok (nI_nz (by omega) (by omega)), nI_mod (by omega) h0 (by omega), gN_ (by omega) (by decide), nI_clamp (by omega), hr _ hm, ev_gapAt hA (by omega), bs_, nI_s, gN_ (by omega) (by decide), show xq_ x k * (1103515245 : Int32) + (12345 : Int32) = xq_ x (k + 1) from rfl, ur_e, nI_mod (by omega) (by omega) (by omega), nI_clamp (by omega), nI_clamp (by omega), hs k (Nat.le_refl k)]
      rw [show iI (sT (nG m) (fun k => m (1 + od k)) x j k) + iI (m (1 + od (k % nG m))) + (nI (ur_ (xq_ x (k + 1)) % (2 * j + 1)) - nI j) = iI (sT (nG m) (fun k => m (1 + od k)) x j (k + 1)) by
        rw [iI_nI, iI_nI j, iI_add, iI_sub, iI_add]
        congr 1
        show _ = sT (nG m) (fun k => m (1 + od k)) x j k + (m (1 + od (k % nG m)) + sk_ x j k)
        unfold sk_
        omega]
      refine ih (k + 1) f _ (by omega) (by omega) (fun i hi => ?_)
      rw [upd_at]
      by_cases c : i = k + 1
      · rw [if_pos c, c]
      · rw [if_neg c]
        exact hs i (by omega)
  exact main N 0 fu_ _ (by omega) (fu_lt (by omega)) (fun i hi => by
    have : i = 0 := by omega
    subst this
    rw [upd_at, if_pos rfl]
    rfl)
/-- counts of pairs, by one or by the other -/
theorem sm_c {f g : Nat → Nat} : ∀ {n : Nat}, (∀ k, k < n → f k = g k) → sm_ f n = sm_ g n
  | 0, _ => rfl
  | n + 1, h => by unfold sm_; rw [sm_c (fun k hk => h k (by omega)), h n (by omega)]
theorem sm_a (f g : Nat → Nat) : ∀ n, sm_ (fun k => f k + g k) n = sm_ f n + sm_ g n
  | 0 => rfl
  | n + 1 => by unfold sm_; rw [sm_a f g n]; omega
theorem sm_1 (P : Nat → Bool) : ∀ n, sm_ (fun k => if P k then 1 else 0) n = ct_ P 0 n
  | 0 => rfl
  | n + 1 => by rw [ct_sn, Nat.zero_add, ← sm_1 P n]; rfl
theorem sm_0 : ∀ n, sm_ (fun _ => 0) n = 0
  | 0 => rfl
  | n + 1 => by unfold sm_; rw [sm_0 n]
theorem sm_w (P : Nat → Nat → Bool) (T : Nat) : ∀ N, sm_ (fun t => ct_ (P t) 0 N) T = sm_ (fun i => ct_ (fun t => P t i) 0 T) N
  | 0 => by
    show sm_ (fun t => 0) T = 0
    exact sm_0 T
  | N + 1 => by
    have e : sm_ (fun t => ct_ (P t) 0 (N + 1)) T = sm_ (fun t => ct_ (P t) 0 N + (if P t N then 1 else 0)) T := sm_c (fun k _ => by rw [ct_sn, Nat.zero_add])
    rw [e, sm_a, sm_w P T N, sm_1]
    rfl
theorem ct_nt (P : Nat → Bool) : ∀ n, ct_ (fun k => !P k) 0 n + ct_ P 0 n = n
  | 0 => rfl
  | n + 1 => by
    have := ct_nt P n
    rw [ct_sn, ct_sn, Nat.zero_add]
    cases P n <;> simp <;> omega
theorem sm_nt (P : Nat → Nat → Bool) (T : Nat) : ∀ N, sm_ (fun i => ct_ (fun t => !P i t) 0 T) N + sm_ (fun i => ct_ (fun t => P i t) 0 T) N = N * T
  | 0 => by rw [Nat.zero_mul]; rfl
  | N + 1 => by
    have h1 := sm_nt P T N
    have h2 : ct_ (fun t => !P N t) 0 T + ct_ (fun t => P N t) 0 T = T := ct_nt (P N) T
    have e : (N + 1) * T = N * T + T := by rw [Nat.add_mul, Nat.one_mul]
    rw [e]
    show (sm_ (fun i => ct_ (fun t => !P i t) 0 T) N + ct_ (fun t => !P N t) 0 T) + (sm_ (fun i => ct_ (fun t => P i t) 0 T) N + ct_ (fun t => P N t) 0 T) = _
    omega
theorem sm_le {f : Nat → Nat} {b : Nat} : ∀ {n : Nat}, (∀ k, k < n → f k ≤ b) → sm_ f n ≤ n * b
  | 0, _ => by rw [Nat.zero_mul]; exact Nat.le_refl 0
  | n + 1, h => by
    have h1 := sm_le (n := n) (fun k hk => h k (by omega))
    have h2 := h n (by omega)
    have e : (n + 1) * b = n * b + b := by rw [Nat.add_mul, Nat.one_mul]
    rw [e]
    unfold sm_
    omega
/-- an echo at a time is hidden by one of the first n pulses -/
def hx_ (S : Nat → Int) (w t : Int) : Nat → Bool
  | 0 => false
  | i + 1 => hx_ S w t i || (decide (S i ≤ t) && decide (t - S i < w))
theorem hx_f {S : Nat → Int} {w t : Int} : ∀ {n : Nat}, (∀ i, i < n → ¬ (S i ≤ t ∧ t - S i < w)) → hx_ S w t n = false
  | 0, _ => rfl
  | n + 1, h => by
    have h2 := h n (by omega)
    unfold hx_
    rw [hx_f (fun i hi => h i (by omega)), Bool.false_or]
    by_cases c : S n ≤ t
    · rw [decide_eq_true c, Bool.true_and]
      exact decide_eq_false (fun d => h2 ⟨c, d⟩)
    · rw [decide_eq_false c]; rfl
theorem hx_t {S : Nat → Int} {w t : Int} : ∀ {n i : Nat}, i < n → S i ≤ t → t - S i < w → hx_ S w t n = true
  | n + 1, i, h, h1, h2 => by
    unfold hx_
    rcases Nat.eq_or_lt_of_le (show i ≤ n by omega) with q | q
    · rw [← q, decide_eq_true h1, decide_eq_true h2]
      simp
    · rw [hx_t q h1 h2, Bool.true_or]
theorem mo_ {S : Nat → Int} {N : Nat} (h : ∀ i, i < N → S i < S (i + 1)) : ∀ d i, i + d ≤ N → S i ≤ S (i + d)
  | 0, i, _ => Int.le_refl _
  | d + 1, i, hd => by
    have h1 := mo_ h d i (by omega)
    have h2 := h (i + d) (by omega)
    rw [show i + (d + 1) = i + d + 1 by omega]
    omega
theorem hx_l {S : Nat → Int} {w t : Int} {N l : Nat} (hS : ∀ i, i < N → S i < S (i + 1)) (hl : l < N) (h1 : S l ≤ t) (h2 : ∀ i, l < i → i < N → t < S i) : hx_ S w t N = decide (t - S l < w) := by
  by_cases c : t - S l < w
  · rw [decide_eq_true c, hx_t hl h1 c]
  · rw [decide_eq_false c]
    refine hx_f (fun i hi => ?_)
    rintro ⟨a, b⟩
    by_cases q : l < i
    · have := h2 i q hi; omega
    · have := mo_ hS (l - i) i (by omega)
      rw [show i + (l - i) = l by omega] at this
      omega
/-! ===== END ===== -/
