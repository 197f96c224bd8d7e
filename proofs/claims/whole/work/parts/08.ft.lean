/-! ===== BEGIN the class chooses ===== -/
def eP (m : Nat → Int) (ch : Nat → Nat) (p t part : Nat) (b : Nat) : Bool := decide (64 * part + b < nS m) && decide (t ≤ oC m ch p ((64 * part + b : Nat) + 1 : Int))
def EI (m : Nat → Int) (ch : Nat → Nat) (p nd Q : Nat) (en : Nat → Int64) : Prop := ∀ t, t ≤ nd → ∀ part, part < Q → en (20 * p + 4 * t + part) = bW (eP m ch p t part)
def T0 (m : Nat → Int) (en : Nat → Int64) : Prop := ∀ dep, dep < 4 → ∀ part, part < 4 → en (20 * dep + part) = bW (aP (nS m) part)
theorem eP_s {m : Nat → Int} {ch : Nat → Nat} {p t part g b : Nat} (ht : 1 ≤ t) : (eP m ch p t part b || (eP m ch p (t - 1) part b && oP m (nS m) g part b)) = eP m (un_ ch p g) (p + 1) t part b := by
  unfold eP oP
  have e : oC m (un_ ch p g) (p + 1) ((64 * part + b : Nat) + 1 : Int) = oC m ch p ((64 * part + b : Nat) + 1 : Int) + (if bl_ m ((64 * part + b : Nat) + 1 : Int) (g : Int) = true then 0 else 1) := by
    rw [oC_s, un_at, if_pos rfl, oC_c (ch := un_ ch p g) (ch2 := ch) (fun j hj => by rw [un_at, if_neg (by omega)])]
  rw [e]
  generalize oC m ch p ((64 * part + b : Nat) + 1 : Int) = x
  generalize decide (64 * part + b < nS m) = z
  cases hb : bl_ m ((64 * part + b : Nat) + 1 : Int) (g : Int) with
  | true =>
    rw [if_pos rfl]
    cases z <;> simp
  | false =>
    rw [if_neg (by decide)]
    cases z with
    | false => rfl
    | true =>
      simp only [Bool.true_and, Bool.not_false, Bool.and_true]
      by_cases c : t ≤ x + 1
      · rw [decide_eq_true c, decide_eq_true (show t - 1 ≤ x by omega), Bool.or_true]
      · rw [decide_eq_false c, decide_eq_false (show ¬ t - 1 ≤ x by omega), decide_eq_false (show ¬ t ≤ x by omega)]
        rfl
theorem eP_0 (m : Nat → Int) (ch : Nat → Nat) (p part : Nat) : bW (eP m ch p 0 part) = bW (aP (nS m) part) := by
  apply bW_c
  intro b hb
  unfold eP aP
  rw [decide_eq_true (Nat.zero_le _), Bool.and_true]
theorem ev_cellOf (a b : Nat) : F_X1_cellOf (nI a) (nI b) = some (nI (20 * a + 4 * b)) := by
  unfold F_X1_cellOf
  rw [show (5 : Int32) = nI 5 from rfl, show (4 : Int32) = nI 4 from rfl, pk_mul, nI_add, pk_mul]
  congr 2
  omega
section CHO
variable {m : Nat → Int} {low W nd Q k : Nat} {op al : Nat → Int64}
theorem ev_ac46 (hW : W ≤ 21) (hnd : nd ≤ 4) (hQ : Q ≤ 4) (hop : ∀ i, i < W → ∀ part, part < 4 → op (4 * i + part) = bW (oP m (nS m) (low + i) part)) {ch : Nat → Nat} {p i t : Nat} (hp : p + 1 < 4) (hi : i < W) (ht : 1 ≤ t ∧ t ≤ nd) (K : (Nat → Int64) → Int32 → Int32 → Int32 → Option (Nat → Int64)) :
    ∀ d part n (en : Nat → Int64), part + d = Q → d < n → EI m ch p nd Q en → (∀ q, q < part → en (20 * (p + 1) + 4 * t + q) = bW (eP m (un_ ch p (low + i)) (p + 1) t q)) →
      ∃ en2, L_X1_addChoice_46 (nI nd) (nI Q) op K n en (nI p) (nI i) (nI t) (nI (20 * (p + 1) + 4 * t)) (nI (20 * p + 4 * t)) (nI (20 * p + 4 * (t - 1))) (nI part) = K en2 (nI p) (nI i) (nI (t + 1)) ∧ (∀ j, (j < 20 * (p + 1) + 4 * t ∨ 20 * (p + 1) + 4 * t + Q ≤ j) → en2 j = en j) ∧ ∀ q, q < Q → en2 (20 * (p + 1) + 4 * t + q) = bW (eP m (un_ ch p (low + i)) (p + 1) t q) := by
  intro d
  induction d with
  | zero =>
    intro part n en a1 a2 a3 a4
    obtain ⟨n, rfl⟩ : ∃ k, n = k + 1 := ⟨n - 1, by omega⟩
    rw [L_X1_addChoice_46, if_pos (yle_ (by omega) (by omega) (by omega)), nI_s]
    exact ⟨en, rfl, fun _ _ => rfl, fun q hq => a4 q (by omega)⟩
  | succ d ih =>
    intro part n en a1 a2 a3 a4
    obtain ⟨n, rfl⟩ : ∃ k, n = k + 1 := ⟨n - 1, by omega⟩
    rw [L_X1_addChoice_46, if_neg (nle_ (by omega) (by omega) (by omega)), show (4 : Int32) = nI 4 from rfl, pk_mul, nI_add, nI_add, nI_add, nI_add, gN_ (by omega) (by decide), gN_ (by omega) (by decide), gN_ (by omega) (by decide), gN_ (by omega) (by decide), nI_clamp (by omega), nI_clamp (by omega), nI_clamp (by omega), nI_clamp (by omega), nI_s,
      a3 t ht.2 part (by omega), a3 (t - 1) (by omega) part (by omega), show i * 4 + part = 4 * i + part by omega, hop i hi part (by omega), bW_and, bW_or, bW_c (Q := eP m (un_ ch p (low + i)) (p + 1) t part) (fun b _ => eP_s ht.1)]
    obtain ⟨en2, e, q1, q2⟩ := ih (part + 1) n (vp_updL en (20 * (p + 1) + 4 * t + part) (bW (eP m (un_ ch p (low + i)) (p + 1) t part))) (by omega) (by omega) (fun t2 ht2 pt hpt => by rw [updL_at, if_neg (by omega)]; exact a3 t2 ht2 pt hpt) (fun q hq => by
      rw [updL_at]
      by_cases c : q = part
      · rw [if_pos (by omega), c]
      · rw [if_neg (by omega)]
        exact a4 q (by omega))
    refine ⟨en2, e, fun j hj => ?_, q2⟩
    rw [q1 j hj, updL_at, if_neg (by omega)]
theorem ev_addChoice (hW : W ≤ 21) (hnd : nd ≤ 4) (hQ : Q ≤ 4) (hop : ∀ i, i < W → ∀ part, part < 4 → op (4 * i + part) = bW (oP m (nS m) (low + i) part)) {ch : Nat → Nat} {p i : Nat} (hp : p + 1 < 4) (hi : i < W) {en : Nat → Int64} (hE : EI m ch p nd Q en) (hT : T0 m en) :
    ∃ en2, F_X1_addChoice (nI nd) (nI Q) op en (nI p) (nI i) = some en2 ∧ EI m (un_ ch p (low + i)) (p + 1) nd Q en2 ∧ T0 m en2 ∧ ∀ j, j < 20 * (p + 1) → en2 j = en j := by
  have main : ∀ d t n (e0 : Nat → Int64), t + d = nd + 1 → d < n → 1 ≤ t → EI m ch p nd Q e0 → T0 m e0 → (∀ t2, t2 < t → ∀ part, part < Q → e0 (20 * (p + 1) + 4 * t2 + part) = bW (eP m (un_ ch p (low + i)) (p + 1) t2 part)) → (∀ j, j < 20 * (p + 1) → e0 j = en j) →
      ∃ en2, L_X1_addChoice_10 (nI nd) (nI Q) op n e0 (nI p) (nI i) (nI t) = some en2 ∧ EI m (un_ ch p (low + i)) (p + 1) nd Q en2 ∧ T0 m en2 ∧ ∀ j, j < 20 * (p + 1) → en2 j = en j := by
    intro d
    induction d with
    | zero =>
      intro t n e0 a1 a2 a3 a4 a5 a6 a7
      obtain ⟨n, rfl⟩ : ∃ k, n = k + 1 := ⟨n - 1, by omega⟩
      rw [L_X1_addChoice_10, if_pos (ylt_ (by omega) (by omega) (by omega))]
      exact ⟨e0, rfl, fun t2 ht2 pt hpt => a6 t2 (by omega) pt hpt, a5, a7⟩
    | succ d ih =>
      intro t n e0 a1 a2 a3 a4 a5 a6 a7
      obtain ⟨n, rfl⟩ : ∃ k, n = k + 1 := ⟨n - 1, by omega⟩
      rw [L_X1_addChoice_10, if_neg (nlt_ (by omega) (by omega) (by omega)), nI_s, ev_cellOf, bs_, ev_cellOf, bs_, s1_ a3, ev_cellOf, bs_]
      obtain ⟨e1, e, q1, q2⟩ := ev_ac46 hW hnd hQ hop hp hi ⟨a3, by omega⟩ (L_X1_addChoice_10 (nI nd) (nI Q) op n) Q 0 fu_ e0 (by omega) (fu_lt (by omega)) a4 (fun q hq => by omega)
      have e : L_X1_addChoice_46 (nI nd) (nI Q) op (L_X1_addChoice_10 (nI nd) (nI Q) op n) fu_ e0 (nI p) (nI i) (nI t) (nI (20 * (p + 1) + 4 * t)) (nI (20 * p + 4 * t)) (nI (20 * p + 4 * (t - 1))) (0 : Int32) = _ := e
      rw [e]
      refine ih (t + 1) n e1 (by omega) (by omega) (by omega) (fun t2 ht2 pt hpt => by rw [q1 _ (by omega)]; exact a4 t2 ht2 pt hpt) (fun dep hd pt hpt => by rw [q1 _ (by omega)]; exact a5 dep hd pt hpt) (fun t2 ht2 pt hpt => ?_) (fun j hj => by rw [q1 _ (by omega)]; exact a7 j hj)
      by_cases c : t2 = t
      · rw [c]
        exact q2 pt hpt
      · rw [q1 _ (by omega)]
        exact a6 t2 (by omega) pt hpt
  unfold F_X1_addChoice
  rw [nI_s, show (4 : Int32) = nI 4 from rfl, if_pos (ylt_ (by omega) (by omega) hp)]
  refine main nd 1 fu_ en (by omega) (fu_lt (by omega)) (Nat.le_refl _) hE hT (fun t2 ht2 pt hpt => ?_) (fun _ _ => rfl)
  have : t2 = 0 := by omega
  subst this
  rw [eP_0]
  exact hT (p + 1) hp pt (by omega)
theorem ev_opensAll (hW : W ≤ 21) (hnd : 1 ≤ nd ∧ nd ≤ 4) (hQ : Q = (nS m + 63) / 64) (hQ4 : Q ≤ 4) (hop : ∀ i, i < W → ∀ part, part < 4 → op (4 * i + part) = bW (oP m (nS m) (low + i) part)) (hal : ∀ part, part < 4 → al part = bW (aP (nS m) part)) {ch : Nat → Nat} {p i : Nat} (hp : p < 4) (hi : i < W) {en : Nat → Int64} (hE : EI m ch p nd Q en) :
    F_X1_opensAll (nI nd) (nI Q) op en al (nI p) (nI i) = some (bI (decide (∀ v, v < nS m → nd ≤ oC m (un_ ch p (low + i)) (p + 1) ((v : Int) + 1)))) := by
  have main : ∀ d part n, part + d = Q → d < n → (∀ v, v < nS m → v < 64 * part → nd ≤ oC m (un_ ch p (low + i)) (p + 1) ((v : Int) + 1)) → L_X1_opensAll_24 (nI nd) (nI Q) op en al n (nI i) (nI (20 * p + 4 * nd)) (nI (20 * p + 4 * (nd - 1))) (nI part) = some (bI (decide (∀ v, v < nS m → nd ≤ oC m (un_ ch p (low + i)) (p + 1) ((v : Int) + 1)))) := by
    intro d
    induction d with
    | zero =>
      intro part n a1 a2 a3
      obtain ⟨n, rfl⟩ : ∃ k, n = k + 1 := ⟨n - 1, by omega⟩
      rw [L_X1_opensAll_24, if_pos (yle_ (by omega) (by omega) (by omega)), decide_eq_true (fun v hv => a3 v hv (by omega))]
      rfl
    | succ d ih =>
      intro part n a1 a2 a3
      obtain ⟨n, rfl⟩ : ∃ k, n = k + 1 := ⟨n - 1, by omega⟩
      rw [L_X1_opensAll_24, if_neg (nle_ (by omega) (by omega) (by omega)), show (4 : Int32) = nI 4 from rfl, pk_mul, nI_add, nI_add, nI_add, gN_ (by omega) (by decide), gN_ (by omega) (by decide), gN_ (by omega) (by decide), gN_ (by omega) (by decide), nI_clamp (by omega), nI_clamp (by omega), nI_clamp (by omega), nI_clamp (by omega), nI_s,
        hE nd (Nat.le_refl _) part (by omega), hE (nd - 1) (by omega) part (by omega), show i * 4 + part = 4 * i + part by omega, hop i hi part (by omega), hal part (by omega), bW_and, bW_or, bW_c (Q := eP m (un_ ch p (low + i)) (p + 1) nd part) (fun b _ => eP_s hnd.1), if_e ((lg_e _ _).trans (bW_e _ _))]
      by_cases c : ∀ b, b < 64 → eP m (un_ ch p (low + i)) (p + 1) nd part b = aP (nS m) part b
      · rw [if_pos c]
        refine ih (part + 1) n (by omega) (by omega) (fun v hv hv2 => ?_)
        by_cases c2 : v < 64 * part
        · exact a3 v hv c2
        · have h := c (v - 64 * part) (by omega)
          unfold eP aP at h
          rw [show 64 * part + (v - 64 * part) = v by omega, decide_eq_true hv, Bool.true_and] at h
          exact of_decide_eq_true h
      · rw [if_neg c, decide_eq_false (fun h => c (fun b hb => ?_))]
        · rfl
        · unfold eP aP
          by_cases c2 : 64 * part + b < nS m
          · rw [decide_eq_true c2, Bool.true_and]
            exact decide_eq_true (h _ c2)
          · rw [decide_eq_false c2, Bool.false_and]
  unfold F_X1_opensAll
  rw [ev_cellOf, bs_, s1_ hnd.1, ev_cellOf, bs_]
  exact main Q 0 fu_ (by omega) (fu_lt (by omega)) (fun v hv hv2 => by omega)
def lsC (o : Option Nat) : Int32 := match o with
  | none => 2147483647
  | some l => nI l
def AR (k : Nat) (a : Ac) (ls fc : Int32) (be : Nat → Int32) : Prop := ls = lsC a.2.1 ∧ fc = nI a.1 ∧ ∀ l, a.2.1 = some l → l ≤ 240 ∧ ∀ q, q < k → be q = nI (a.2.2 q)
theorem ev_keepFit (hk : k ≤ 4) {ch : Nat → Nat} (hc : ∀ q, q < k → ch q ≤ 60) (hf : fitB m k ch = true) {a : Ac} {ls fc : Int32} {be cho : Nat → Int32} (hA : AR k a ls fc be) (hch : ∀ q, q < k → cho q = nI (ch q)) :
    ∃ ls2 fc2 be2, F_X1_keepFit ls fc cho be (nI (sS ch k)) = some (ls2, fc2, be2) ∧ AR k (vF m k ch a) ls2 fc2 be2 := by
  obtain ⟨h1, h2, h3⟩ := hA
  have hs := sS_b (n := k) hc
  have fin : AR k (a.1 + 1, some (sS ch k), fun j => if j < k then ch j else 0) (nI (sS ch k)) (fc + 1) (va_cpy cho be 0 0 4) := by
    refine ⟨rfl, by rw [h2, nI_s], fun l hl => ?_⟩
    have : l = sS ch k := (Option.some.inj hl).symm
    subst this
    refine ⟨by omega, fun q hq => ?_⟩
    rw [cy0 (by omega), hch q hq]
    show nI (ch q) = nI (if q < k then ch q else 0)
    rw [if_pos hq]
  unfold F_X1_keepFit vF vB
  rw [if_pos hf]
  cases ho : a.2.1 with
  | none =>
    rw [ho] at h1
    have hl : ls = nI 2147483647 := h1
    rw [hl, if_neg (nle_ (by decide) (by omega) (by omega))]
    exact ⟨_, _, _, rfl, fin⟩
  | some l =>
    rw [ho] at h1
    have hl : ls = nI l := h1
    have hb := h3 l ho
    rw [hl, if_e (nI_le2 (by omega) (by omega))]
    dsimp only
    by_cases c : sS ch k < l
    · rw [if_neg (by omega), if_pos c]
      exact ⟨_, _, _, rfl, fin⟩
    · rw [if_pos (by omega), if_neg c]
      refine ⟨_, _, _, rfl, ?_, by rw [h2, nI_s], h3⟩
      show nI l = lsC a.2.1
      rw [ho]
      rfl
def rQ (lim r L : Nat) : Prop := (L < lim → r = L) ∧ (lim ≤ L → lim ≤ r)
theorem ev_descend1 (hk : 2 ≤ k ∧ k ≤ 4) (hlo : 4 ≤ low) (hW : W ≤ 21) (hh : low + W ≤ 61) (hnd : nd = ndk m k) (hnd2 : 1 ≤ nd ∧ nd ≤ 4) (hQ : Q = (nS m + 63) / 64) (hQ4 : Q ≤ 4) {lim : Nat} (hlim : m 9 = (lim : Int)) (hlim2 : lim ≤ 1000) (hop : ∀ i, i < W → ∀ part, part < 4 → op (4 * i + part) = bW (oP m (nS m) (low + i) part)) (hal : ∀ part, part < 4 → al part = bW (aP (nS m) part)) :
    ∀ d, 1 ≤ d → d ≤ 1 → d ≤ k → ∀ (r : Nat) (ch : Nat → Nat) (a : Ac) (rr : Nat) (en : Nat → Int64) (cho be : Nat → Int32) (ls fc : Int32), r ≤ W → EI m ch (k - d) nd Q en → T0 m en → (∀ q, q < k - d → cho q = nI (ch q)) → (∀ q, q < k - d → 4 ≤ ch q ∧ ch q ≤ 60) → rQ lim rr (lcN ch (k - d)) → rr < 100000 → AR k a ls fc be →
      ∃ ls2 fc2 en2 cho2 be2, F_X1_descend_k1 (nI k) (nI low) (nI W) (nI lim) (nI nd) (nI Q) ls fc op en al cho be (nI (k - d)) (nI (W - r)) (nI rr) (nI (sS ch (k - d))) = some (ls2, fc2, en2, cho2, be2) ∧ AR k (eE (vF m k) k W low d r ch a) ls2 fc2 be2 ∧ (∀ q, q < k - d → cho2 q = cho q) ∧ (∀ j, j < 20 * (k - d + 1) → en2 j = en j) ∧ T0 m en2 := by
  intro d hd1 hdJ hdk r ch a rr en cho be ls fc hr hE hT hcho hch hrQ hrr hA
  obtain ⟨d, rfl⟩ : ∃ e, d = e + 1 := ⟨d - 1, by omega⟩
  have hp4 : k - (d + 1) < 4 := by omega
  have main : ∀ r n (a : Ac) (en : Nat → Int64) (cho be : Nat → Int32) (ls fc : Int32), r ≤ W → r < n → EI m ch (k - (d + 1)) nd Q en → T0 m en → (∀ q, q < k - (d + 1) → cho q = nI (ch q)) → AR k a ls fc be →
      ∃ ls2 fc2 en2 cho2 be2, L_X1_descend_k1_17 (nI k) (nI low) (nI W) (nI lim) (nI nd) (nI Q) op al n ls fc en cho be (nI (k - (d + 1))) (nI rr) (nI (sS ch (k - (d + 1)))) (nI (W - r)) = some (ls2, fc2, en2, cho2, be2) ∧ AR k (eE (vF m k) k W low (d + 1) r ch a) ls2 fc2 be2 ∧ (∀ q, q < k - (d + 1) → cho2 q = cho q) ∧ (∀ j, j < 20 * (k - (d + 1) + 1) → en2 j = en j) ∧ T0 m en2 := by
    intro r
    induction r with
    | zero =>
      intro n a en cho be ls fc _ h2 hE hT hcho hA
      obtain ⟨n, rfl⟩ : ∃ k, n = k + 1 := ⟨n - 1, by omega⟩
      rw [L_X1_descend_k1_17, if_pos (yle_ (by omega) (by omega) (by omega))]
      exact ⟨_, _, _, _, _, rfl, hA, fun _ _ => rfl, fun _ _ => rfl, hT⟩
    | succ r ih =>
      intro n a en cho be ls fc hr h2 hE hT hcho hA
      obtain ⟨n, rfl⟩ : ∃ k, n = k + 1 := ⟨n - 1, by omega⟩
      have ex : nI (W - (r + 1)) + (1 : Int32) = nI (W - r) := by rw [nI_s]; congr 1; omega
      have eg : nI low + nI (W - (r + 1)) = nI (low + (W - (r + 1))) := nI_add _ _
      have es : nI (sS ch (k - (d + 1))) + nI (low + (W - (r + 1))) = nI (sS (un_ ch (k - (d + 1)) (low + (W - (r + 1)))) (k - (d + 1) + 1)) := by
        rw [nI_add]
        congr 1
        show _ = sS (un_ ch (k - (d + 1)) (low + (W - (r + 1)))) (k - (d + 1)) + un_ ch (k - (d + 1)) (low + (W - (r + 1))) (k - (d + 1))
        rw [sS_c (ch := un_ ch (k - (d + 1)) (low + (W - (r + 1)))) (ch2 := ch) (fun j hj => by rw [un_at, if_neg (by omega)]), un_at, if_pos rfl]
      have el : lcN (un_ ch (k - (d + 1)) (low + (W - (r + 1)))) (k - (d + 1) + 1) = lc_ (lcN ch (k - (d + 1))) (low + (W - (r + 1))) := by
        show lc_ (lcN (un_ ch (k - (d + 1)) (low + (W - (r + 1)))) (k - (d + 1))) (un_ ch (k - (d + 1)) (low + (W - (r + 1))) (k - (d + 1))) = _
        rw [lcN_c (ch := un_ ch (k - (d + 1)) (low + (W - (r + 1)))) (ch2 := ch) (fun j hj => by rw [un_at, if_neg (by omega)]), un_at, if_pos rfl]
      have hL := lcN_b (ch := ch) (n := k - (d + 1)) (fun j hj => by have := hch j hj; omega)
      have hlc := lc_b (a := lcN ch (k - (d + 1))) (b := low + (W - (r + 1))) hL.1 (by omega)
      have hch2 : ∀ q, q < k - (d + 1) + 1 → 4 ≤ un_ ch (k - (d + 1)) (low + (W - (r + 1))) q ∧ un_ ch (k - (d + 1)) (low + (W - (r + 1))) q ≤ 60 := fun q hq => by
        rw [un_at]
        by_cases c : q = k - (d + 1)
        · rw [if_pos c]
          omega
        · rw [if_neg c]
          exact hch q (by omega)
      have hcho2 : ∀ q, q < k - (d + 1) + 1 → upd cho (k - (d + 1)) (nI (low + (W - (r + 1)))) q = nI (un_ ch (k - (d + 1)) (low + (W - (r + 1))) q) := fun q hq => by
        rw [upd_at, un_at]
        by_cases c : q = k - (d + 1)
        · rw [if_pos c, if_pos c]
        · rw [if_neg c, if_neg c]
          exact hcho q (by omega)
      have hcho3 : ∀ q, q < k - (d + 1) → upd cho (k - (d + 1)) (nI (low + (W - (r + 1)))) q = nI (ch q) := fun q hq => by
        rw [upd_at, if_neg (by omega)]
        exact hcho q hq
      /- what one choice does -/
      have J : ∀ ww, rQ lim ww (lcN (un_ ch (k - (d + 1)) (low + (W - (r + 1)))) (k - (d + 1) + 1)) → ww < 100000 → ∃ ls2 fc2 en2 cho2 be2, J_X1_descend_k1_53 (nI k) (nI low) (nI W) (nI lim) (nI nd) (nI Q) op al (L_X1_descend_k1_17 (nI k) (nI low) (nI W) (nI lim) (nI nd) (nI Q) op al n) ls fc en cho be (nI (k - (d + 1))) (nI rr) (nI (sS ch (k - (d + 1)))) (nI (W - (r + 1))) (nI (low + (W - (r + 1)))) (nI ww) = some (ls2, fc2, en2, cho2, be2) ∧ AR k (eE (vF m k) k W low (d + 1) (r + 1) ch a) ls2 fc2 be2 ∧ (∀ q, q < k - (d + 1) → cho2 q = cho q) ∧ (∀ j, j < 20 * (k - (d + 1) + 1) → en2 j = en j) ∧ T0 m en2 := by
        intro ww hww hww2
        unfold J_X1_descend_k1_53
        rw [gN_ hp4 (by decide), nI_s, if_e (nI_le2 (by omega) (by omega)), nI_clamp (by omega), ex, es]
        by_cases c : k ≤ k - (d + 1) + 1
        · have d0 : d = 0 := by omega
          subst d0
          have kk : k - (0 + 1) + 1 = k := by omega
          rw [if_pos c, if_e (nI_lt2 (by omega) (by omega))]
          rw [kk] at hww hch2 hcho2
          have st : eE (vF m k) k W low (0 + 1) (r + 1) ch a = eE (vF m k) k W low (0 + 1) r ch (vF m k (un_ ch (k - (0 + 1)) (low + (W - (r + 1)))) a) := rfl
          by_cases c2 : ww < lim
          · have hnf : vF m k (un_ ch (k - (0 + 1)) (low + (W - (r + 1)))) a = a := by
              unfold vF fitB
              have : ¬ lim ≤ lcN (un_ ch (k - (0 + 1)) (low + (W - (r + 1)))) k := fun q => by have := hww.2 q; omega
              rw [decide_eq_false (show ¬ m 9 ≤ (lcN (un_ ch (k - (0 + 1)) (low + (W - (r + 1)))) k : Int) by omega), Bool.false_and, if_neg (by decide)]
            rw [if_pos c2, st, hnf]
            obtain ⟨ls2, fc2, en2, cho2, be2, e, q1, q2, q3, q4⟩ := ih n a en (upd cho (k - (0 + 1)) (nI (low + (W - (r + 1))))) be ls fc (by omega) (by omega) hE hT hcho3 hA
            exact ⟨ls2, fc2, en2, cho2, be2, e, q1, fun q hq => by rw [q2 q hq, upd_at, if_neg (by omega)], q3, q4⟩
          · have hge : lim ≤ lcN (un_ ch (k - (0 + 1)) (low + (W - (r + 1)))) k := by
              rcases Nat.lt_or_ge (lcN (un_ ch (k - (0 + 1)) (low + (W - (r + 1)))) k) lim with q | q
              · have := hww.1 q
                omega
              · exact q
            have oa := ev_opensAll (m := m) hW hnd2 hQ hQ4 hop hal (ch := ch) (p := k - (0 + 1)) (i := W - (r + 1)) hp4 (by omega) hE
            rw [kk] at oa
            have hfb : fitB m k (un_ ch (k - (0 + 1)) (low + (W - (r + 1)))) = decide (∀ v, v < nS m → nd ≤ oC m (un_ ch (k - (0 + 1)) (low + (W - (r + 1)))) k ((v : Int) + 1)) := by
              unfold fitB
              rw [decide_eq_true (show m 9 ≤ (lcN (un_ ch (k - (0 + 1)) (low + (W - (r + 1)))) k : Int) by omega), Bool.true_and, hnd]
            rw [if_neg c2, oa, bs_, ib_, ← hfb, st]
            by_cases c3 : fitB m k (un_ ch (k - (0 + 1)) (low + (W - (r + 1)))) = true
            · obtain ⟨ls1, fc1, be1, e1, hA1⟩ := ev_keepFit hk.2 (fun q hq => (hch2 q hq).2) c3 hA hcho2
              rw [if_pos c3, kk, e1, bs_]
              obtain ⟨ls2, fc2, en2, cho2, be2, e, q1, q2, q3, q4⟩ := ih n _ en (upd cho (k - (0 + 1)) (nI (low + (W - (r + 1))))) be1 ls1 fc1 (by omega) (by omega) hE hT hcho3 hA1
              exact ⟨ls2, fc2, en2, cho2, be2, e, q1, fun q hq => by rw [q2 q hq, upd_at, if_neg (by omega)], fun j hj => q3 j (by omega), q4⟩
            · have hnf : vF m k (un_ ch (k - (0 + 1)) (low + (W - (r + 1)))) a = a := by
                unfold vF
                rw [if_neg c3]
              rw [if_neg c3, hnf]
              obtain ⟨ls2, fc2, en2, cho2, be2, e, q1, q2, q3, q4⟩ := ih n a en (upd cho (k - (0 + 1)) (nI (low + (W - (r + 1))))) be ls fc (by omega) (by omega) hE hT hcho3 hA
              exact ⟨ls2, fc2, en2, cho2, be2, e, q1, fun q hq => by rw [q2 q hq, upd_at, if_neg (by omega)], q3, q4⟩
        · exfalso
          omega
      rw [L_X1_descend_k1_17, if_neg (nle_ (by omega) (by omega) (by omega)), eg, if_e (nI_lt2 (by omega) (by omega))]
      by_cases c : rr < lim
      · have hLlt : lcN ch (k - (d + 1)) < lim := by
          rcases Nat.lt_or_ge (lcN ch (k - (d + 1))) lim with q | q
          · exact q
          · have := hrQ.2 q
            omega
        have hrL := hrQ.1 hLlt
        have hbb : lcN ch (k - (d + 1)) * (low + (W - (r + 1))) ≤ 1000 * 60 := Nat.mul_le_mul (by omega) (by omega)
        have elc : F_X10_leastCommon (nI rr) (nI (low + (W - (r + 1)))) = some (nI (lc_ (lcN ch (k - (d + 1))) (low + (W - (r + 1))))) := by
          rw [hrL]
          exact ev_leastCommon ⟨hL.1, by omega⟩ ⟨by omega, by omega⟩
        rw [if_pos c, elc, bs_]
        refine J (lc_ (lcN ch (k - (d + 1))) (low + (W - (r + 1)))) ?_ (by omega)
        rw [el]
        exact ⟨fun _ => rfl, fun q => q⟩
      · rw [if_neg c]
        refine J rr ?_ hrr
        rw [el]
        refine ⟨fun q => ?_, fun _ => by omega⟩
        exfalso
        have : lcN ch (k - (d + 1)) < lim := by omega
        have := hrQ.1 this
        omega
  unfold F_X1_descend_k1
  rw [if_neg (nle_ (by omega) (by omega) (by omega)), show (4 : Int32) = nI 4 from rfl, if_pos (ylt_ (by omega) (by omega) hp4)]
  exact main r fu_ a en cho be ls fc hr (fu_lt (by omega)) hE hT hcho hA
theorem ev_descend2 (hk : 2 ≤ k ∧ k ≤ 4) (hlo : 4 ≤ low) (hW : W ≤ 21) (hh : low + W ≤ 61) (hnd : nd = ndk m k) (hnd2 : 1 ≤ nd ∧ nd ≤ 4) (hQ : Q = (nS m + 63) / 64) (hQ4 : Q ≤ 4) {lim : Nat} (hlim : m 9 = (lim : Int)) (hlim2 : lim ≤ 1000) (hop : ∀ i, i < W → ∀ part, part < 4 → op (4 * i + part) = bW (oP m (nS m) (low + i) part)) (hal : ∀ part, part < 4 → al part = bW (aP (nS m) part)) :
    ∀ d, 1 ≤ d → d ≤ 2 → d ≤ k → ∀ (r : Nat) (ch : Nat → Nat) (a : Ac) (rr : Nat) (en : Nat → Int64) (cho be : Nat → Int32) (ls fc : Int32), r ≤ W → EI m ch (k - d) nd Q en → T0 m en → (∀ q, q < k - d → cho q = nI (ch q)) → (∀ q, q < k - d → 4 ≤ ch q ∧ ch q ≤ 60) → rQ lim rr (lcN ch (k - d)) → rr < 100000 → AR k a ls fc be →
      ∃ ls2 fc2 en2 cho2 be2, F_X1_descend_k2 (nI k) (nI low) (nI W) (nI lim) (nI nd) (nI Q) ls fc op en al cho be (nI (k - d)) (nI (W - r)) (nI rr) (nI (sS ch (k - d))) = some (ls2, fc2, en2, cho2, be2) ∧ AR k (eE (vF m k) k W low d r ch a) ls2 fc2 be2 ∧ (∀ q, q < k - d → cho2 q = cho q) ∧ (∀ j, j < 20 * (k - d + 1) → en2 j = en j) ∧ T0 m en2 := by
  intro d hd1 hdJ hdk r ch a rr en cho be ls fc hr hE hT hcho hch hrQ hrr hA
  obtain ⟨d, rfl⟩ : ∃ e, d = e + 1 := ⟨d - 1, by omega⟩
  have hp4 : k - (d + 1) < 4 := by omega
  have main : ∀ r n (a : Ac) (en : Nat → Int64) (cho be : Nat → Int32) (ls fc : Int32), r ≤ W → r < n → EI m ch (k - (d + 1)) nd Q en → T0 m en → (∀ q, q < k - (d + 1) → cho q = nI (ch q)) → AR k a ls fc be →
      ∃ ls2 fc2 en2 cho2 be2, L_X1_descend_k2_17 (nI k) (nI low) (nI W) (nI lim) (nI nd) (nI Q) op al n ls fc en cho be (nI (k - (d + 1))) (nI rr) (nI (sS ch (k - (d + 1)))) (nI (W - r)) = some (ls2, fc2, en2, cho2, be2) ∧ AR k (eE (vF m k) k W low (d + 1) r ch a) ls2 fc2 be2 ∧ (∀ q, q < k - (d + 1) → cho2 q = cho q) ∧ (∀ j, j < 20 * (k - (d + 1) + 1) → en2 j = en j) ∧ T0 m en2 := by
    intro r
    induction r with
    | zero =>
      intro n a en cho be ls fc _ h2 hE hT hcho hA
      obtain ⟨n, rfl⟩ : ∃ k, n = k + 1 := ⟨n - 1, by omega⟩
      rw [L_X1_descend_k2_17, if_pos (yle_ (by omega) (by omega) (by omega))]
      exact ⟨_, _, _, _, _, rfl, hA, fun _ _ => rfl, fun _ _ => rfl, hT⟩
    | succ r ih =>
      intro n a en cho be ls fc hr h2 hE hT hcho hA
      obtain ⟨n, rfl⟩ : ∃ k, n = k + 1 := ⟨n - 1, by omega⟩
      have ex : nI (W - (r + 1)) + (1 : Int32) = nI (W - r) := by rw [nI_s]; congr 1; omega
      have eg : nI low + nI (W - (r + 1)) = nI (low + (W - (r + 1))) := nI_add _ _
      have es : nI (sS ch (k - (d + 1))) + nI (low + (W - (r + 1))) = nI (sS (un_ ch (k - (d + 1)) (low + (W - (r + 1)))) (k - (d + 1) + 1)) := by
        rw [nI_add]
        congr 1
        show _ = sS (un_ ch (k - (d + 1)) (low + (W - (r + 1)))) (k - (d + 1)) + un_ ch (k - (d + 1)) (low + (W - (r + 1))) (k - (d + 1))
        rw [sS_c (ch := un_ ch (k - (d + 1)) (low + (W - (r + 1)))) (ch2 := ch) (fun j hj => by rw [un_at, if_neg (by omega)]), un_at, if_pos rfl]
      have el : lcN (un_ ch (k - (d + 1)) (low + (W - (r + 1)))) (k - (d + 1) + 1) = lc_ (lcN ch (k - (d + 1))) (low + (W - (r + 1))) := by
        show lc_ (lcN (un_ ch (k - (d + 1)) (low + (W - (r + 1)))) (k - (d + 1))) (un_ ch (k - (d + 1)) (low + (W - (r + 1))) (k - (d + 1))) = _
        rw [lcN_c (ch := un_ ch (k - (d + 1)) (low + (W - (r + 1)))) (ch2 := ch) (fun j hj => by rw [un_at, if_neg (by omega)]), un_at, if_pos rfl]
      have hL := lcN_b (ch := ch) (n := k - (d + 1)) (fun j hj => by have := hch j hj; omega)
      have hlc := lc_b (a := lcN ch (k - (d + 1))) (b := low + (W - (r + 1))) hL.1 (by omega)
      have hch2 : ∀ q, q < k - (d + 1) + 1 → 4 ≤ un_ ch (k - (d + 1)) (low + (W - (r + 1))) q ∧ un_ ch (k - (d + 1)) (low + (W - (r + 1))) q ≤ 60 := fun q hq => by
        rw [un_at]
        by_cases c : q = k - (d + 1)
        · rw [if_pos c]
          omega
        · rw [if_neg c]
          exact hch q (by omega)
      have hcho2 : ∀ q, q < k - (d + 1) + 1 → upd cho (k - (d + 1)) (nI (low + (W - (r + 1)))) q = nI (un_ ch (k - (d + 1)) (low + (W - (r + 1))) q) := fun q hq => by
        rw [upd_at, un_at]
        by_cases c : q = k - (d + 1)
        · rw [if_pos c, if_pos c]
        · rw [if_neg c, if_neg c]
          exact hcho q (by omega)
      have hcho3 : ∀ q, q < k - (d + 1) → upd cho (k - (d + 1)) (nI (low + (W - (r + 1)))) q = nI (ch q) := fun q hq => by
        rw [upd_at, if_neg (by omega)]
        exact hcho q hq
      /- what one choice does -/
      have J : ∀ ww, rQ lim ww (lcN (un_ ch (k - (d + 1)) (low + (W - (r + 1)))) (k - (d + 1) + 1)) → ww < 100000 → ∃ ls2 fc2 en2 cho2 be2, J_X1_descend_k2_53 (nI k) (nI low) (nI W) (nI lim) (nI nd) (nI Q) op al (L_X1_descend_k2_17 (nI k) (nI low) (nI W) (nI lim) (nI nd) (nI Q) op al n) ls fc en cho be (nI (k - (d + 1))) (nI rr) (nI (sS ch (k - (d + 1)))) (nI (W - (r + 1))) (nI (low + (W - (r + 1)))) (nI ww) = some (ls2, fc2, en2, cho2, be2) ∧ AR k (eE (vF m k) k W low (d + 1) (r + 1) ch a) ls2 fc2 be2 ∧ (∀ q, q < k - (d + 1) → cho2 q = cho q) ∧ (∀ j, j < 20 * (k - (d + 1) + 1) → en2 j = en j) ∧ T0 m en2 := by
        intro ww hww hww2
        unfold J_X1_descend_k2_53
        rw [gN_ hp4 (by decide), nI_s, if_e (nI_le2 (by omega) (by omega)), nI_clamp (by omega), ex, es]
        by_cases c : k ≤ k - (d + 1) + 1
        · have d0 : d = 0 := by omega
          subst d0
          have kk : k - (0 + 1) + 1 = k := by omega
          rw [if_pos c, if_e (nI_lt2 (by omega) (by omega))]
          rw [kk] at hww hch2 hcho2
          have st : eE (vF m k) k W low (0 + 1) (r + 1) ch a = eE (vF m k) k W low (0 + 1) r ch (vF m k (un_ ch (k - (0 + 1)) (low + (W - (r + 1)))) a) := rfl
          by_cases c2 : ww < lim
          · have hnf : vF m k (un_ ch (k - (0 + 1)) (low + (W - (r + 1)))) a = a := by
              unfold vF fitB
              have : ¬ lim ≤ lcN (un_ ch (k - (0 + 1)) (low + (W - (r + 1)))) k := fun q => by have := hww.2 q; omega
              rw [decide_eq_false (show ¬ m 9 ≤ (lcN (un_ ch (k - (0 + 1)) (low + (W - (r + 1)))) k : Int) by omega), Bool.false_and, if_neg (by decide)]
            rw [if_pos c2, st, hnf]
            obtain ⟨ls2, fc2, en2, cho2, be2, e, q1, q2, q3, q4⟩ := ih n a en (upd cho (k - (0 + 1)) (nI (low + (W - (r + 1))))) be ls fc (by omega) (by omega) hE hT hcho3 hA
            exact ⟨ls2, fc2, en2, cho2, be2, e, q1, fun q hq => by rw [q2 q hq, upd_at, if_neg (by omega)], q3, q4⟩
          · have hge : lim ≤ lcN (un_ ch (k - (0 + 1)) (low + (W - (r + 1)))) k := by
              rcases Nat.lt_or_ge (lcN (un_ ch (k - (0 + 1)) (low + (W - (r + 1)))) k) lim with q | q
              · have := hww.1 q
                omega
              · exact q
            have oa := ev_opensAll (m := m) hW hnd2 hQ hQ4 hop hal (ch := ch) (p := k - (0 + 1)) (i := W - (r + 1)) hp4 (by omega) hE
            rw [kk] at oa
            have hfb : fitB m k (un_ ch (k - (0 + 1)) (low + (W - (r + 1)))) = decide (∀ v, v < nS m → nd ≤ oC m (un_ ch (k - (0 + 1)) (low + (W - (r + 1)))) k ((v : Int) + 1)) := by
              unfold fitB
              rw [decide_eq_true (show m 9 ≤ (lcN (un_ ch (k - (0 + 1)) (low + (W - (r + 1)))) k : Int) by omega), Bool.true_and, hnd]
            rw [if_neg c2, oa, bs_, ib_, ← hfb, st]
            by_cases c3 : fitB m k (un_ ch (k - (0 + 1)) (low + (W - (r + 1)))) = true
            · obtain ⟨ls1, fc1, be1, e1, hA1⟩ := ev_keepFit hk.2 (fun q hq => (hch2 q hq).2) c3 hA hcho2
              rw [if_pos c3, kk, e1, bs_]
              obtain ⟨ls2, fc2, en2, cho2, be2, e, q1, q2, q3, q4⟩ := ih n _ en (upd cho (k - (0 + 1)) (nI (low + (W - (r + 1))))) be1 ls1 fc1 (by omega) (by omega) hE hT hcho3 hA1
              exact ⟨ls2, fc2, en2, cho2, be2, e, q1, fun q hq => by rw [q2 q hq, upd_at, if_neg (by omega)], fun j hj => q3 j (by omega), q4⟩
            · have hnf : vF m k (un_ ch (k - (0 + 1)) (low + (W - (r + 1)))) a = a := by
                unfold vF
                rw [if_neg c3]
              rw [if_neg c3, hnf]
              obtain ⟨ls2, fc2, en2, cho2, be2, e, q1, q2, q3, q4⟩ := ih n a en (upd cho (k - (0 + 1)) (nI (low + (W - (r + 1))))) be ls fc (by omega) (by omega) hE hT hcho3 hA
              exact ⟨ls2, fc2, en2, cho2, be2, e, q1, fun q hq => by rw [q2 q hq, upd_at, if_neg (by omega)], q3, q4⟩
        · obtain ⟨d, rfl⟩ : ∃ e, d = e + 1 := ⟨d - 1, by omega⟩
          have kp : k - (d + 1 + 1) + 1 = k - (d + 1) := by omega
          rw [if_neg c]
          obtain ⟨en1, e1, E1, T1, F1⟩ := ev_addChoice hW hnd2.2 hQ4 hop (ch := ch) (p := k - (d + 1 + 1)) (i := W - (r + 1)) (by omega) (by omega) hE hT
          rw [e1, bs_, kp]
          rw [kp] at E1 hww hcho2 hch2 F1
          obtain ⟨ls2, fc2, en2, cho2, be2, e2, q1, q2, q3, q4⟩ := ev_descend1 hk hlo hW hh hnd hnd2 hQ hQ4 hlim hlim2 hop hal (d + 1) (by omega) (by omega) (by omega) r (un_ ch (k - (d + 1 + 1)) (low + (W - (r + 1)))) a ww en1 (upd cho (k - (d + 1 + 1)) (nI (low + (W - (r + 1))))) be ls fc (by omega) E1 T1 hcho2 hch2 hww hww2 hA
          rw [e2, bs_]
          obtain ⟨ls3, fc3, en3, cho3, be3, e3, w1, w2, w3, w4⟩ := ih n _ en2 cho2 be2 ls2 fc2 (by omega) (by omega) (fun t ht part hpt => by rw [q3 _ (by omega), F1 _ (by omega)]; exact hE t ht part hpt) q4 (fun q hq => by rw [q2 q (by omega), upd_at, if_neg (by omega)]; exact hcho q hq) q1
          exact ⟨ls3, fc3, en3, cho3, be3, e3, w1, fun q hq => by rw [w2 q hq, q2 q (by omega), upd_at, if_neg (by omega)], fun j hj => by rw [w3 j (by omega), q3 j (by omega), F1 j (by omega)], w4⟩
      rw [L_X1_descend_k2_17, if_neg (nle_ (by omega) (by omega) (by omega)), eg, if_e (nI_lt2 (by omega) (by omega))]
      by_cases c : rr < lim
      · have hLlt : lcN ch (k - (d + 1)) < lim := by
          rcases Nat.lt_or_ge (lcN ch (k - (d + 1))) lim with q | q
          · exact q
          · have := hrQ.2 q
            omega
        have hrL := hrQ.1 hLlt
        have hbb : lcN ch (k - (d + 1)) * (low + (W - (r + 1))) ≤ 1000 * 60 := Nat.mul_le_mul (by omega) (by omega)
        have elc : F_X10_leastCommon (nI rr) (nI (low + (W - (r + 1)))) = some (nI (lc_ (lcN ch (k - (d + 1))) (low + (W - (r + 1))))) := by
          rw [hrL]
          exact ev_leastCommon ⟨hL.1, by omega⟩ ⟨by omega, by omega⟩
        rw [if_pos c, elc, bs_]
        refine J (lc_ (lcN ch (k - (d + 1))) (low + (W - (r + 1)))) ?_ (by omega)
        rw [el]
        exact ⟨fun _ => rfl, fun q => q⟩
      · rw [if_neg c]
        refine J rr ?_ hrr
        rw [el]
        refine ⟨fun q => ?_, fun _ => by omega⟩
        exfalso
        have : lcN ch (k - (d + 1)) < lim := by omega
        have := hrQ.1 this
        omega
  unfold F_X1_descend_k2
  rw [if_neg (nle_ (by omega) (by omega) (by omega)), show (4 : Int32) = nI 4 from rfl, if_pos (ylt_ (by omega) (by omega) hp4)]
  exact main r fu_ a en cho be ls fc hr (fu_lt (by omega)) hE hT hcho hA
theorem ev_descend3 (hk : 2 ≤ k ∧ k ≤ 4) (hlo : 4 ≤ low) (hW : W ≤ 21) (hh : low + W ≤ 61) (hnd : nd = ndk m k) (hnd2 : 1 ≤ nd ∧ nd ≤ 4) (hQ : Q = (nS m + 63) / 64) (hQ4 : Q ≤ 4) {lim : Nat} (hlim : m 9 = (lim : Int)) (hlim2 : lim ≤ 1000) (hop : ∀ i, i < W → ∀ part, part < 4 → op (4 * i + part) = bW (oP m (nS m) (low + i) part)) (hal : ∀ part, part < 4 → al part = bW (aP (nS m) part)) :
    ∀ d, 1 ≤ d → d ≤ 3 → d ≤ k → ∀ (r : Nat) (ch : Nat → Nat) (a : Ac) (rr : Nat) (en : Nat → Int64) (cho be : Nat → Int32) (ls fc : Int32), r ≤ W → EI m ch (k - d) nd Q en → T0 m en → (∀ q, q < k - d → cho q = nI (ch q)) → (∀ q, q < k - d → 4 ≤ ch q ∧ ch q ≤ 60) → rQ lim rr (lcN ch (k - d)) → rr < 100000 → AR k a ls fc be →
      ∃ ls2 fc2 en2 cho2 be2, F_X1_descend_k3 (nI k) (nI low) (nI W) (nI lim) (nI nd) (nI Q) ls fc op en al cho be (nI (k - d)) (nI (W - r)) (nI rr) (nI (sS ch (k - d))) = some (ls2, fc2, en2, cho2, be2) ∧ AR k (eE (vF m k) k W low d r ch a) ls2 fc2 be2 ∧ (∀ q, q < k - d → cho2 q = cho q) ∧ (∀ j, j < 20 * (k - d + 1) → en2 j = en j) ∧ T0 m en2 := by
  intro d hd1 hdJ hdk r ch a rr en cho be ls fc hr hE hT hcho hch hrQ hrr hA
  obtain ⟨d, rfl⟩ : ∃ e, d = e + 1 := ⟨d - 1, by omega⟩
  have hp4 : k - (d + 1) < 4 := by omega
  have main : ∀ r n (a : Ac) (en : Nat → Int64) (cho be : Nat → Int32) (ls fc : Int32), r ≤ W → r < n → EI m ch (k - (d + 1)) nd Q en → T0 m en → (∀ q, q < k - (d + 1) → cho q = nI (ch q)) → AR k a ls fc be →
      ∃ ls2 fc2 en2 cho2 be2, L_X1_descend_k3_17 (nI k) (nI low) (nI W) (nI lim) (nI nd) (nI Q) op al n ls fc en cho be (nI (k - (d + 1))) (nI rr) (nI (sS ch (k - (d + 1)))) (nI (W - r)) = some (ls2, fc2, en2, cho2, be2) ∧ AR k (eE (vF m k) k W low (d + 1) r ch a) ls2 fc2 be2 ∧ (∀ q, q < k - (d + 1) → cho2 q = cho q) ∧ (∀ j, j < 20 * (k - (d + 1) + 1) → en2 j = en j) ∧ T0 m en2 := by
    intro r
    induction r with
    | zero =>
      intro n a en cho be ls fc _ h2 hE hT hcho hA
      obtain ⟨n, rfl⟩ : ∃ k, n = k + 1 := ⟨n - 1, by omega⟩
      rw [L_X1_descend_k3_17, if_pos (yle_ (by omega) (by omega) (by omega))]
      exact ⟨_, _, _, _, _, rfl, hA, fun _ _ => rfl, fun _ _ => rfl, hT⟩
    | succ r ih =>
      intro n a en cho be ls fc hr h2 hE hT hcho hA
      obtain ⟨n, rfl⟩ : ∃ k, n = k + 1 := ⟨n - 1, by omega⟩
      have ex : nI (W - (r + 1)) + (1 : Int32) = nI (W - r) := by rw [nI_s]; congr 1; omega
      have eg : nI low + nI (W - (r + 1)) = nI (low + (W - (r + 1))) := nI_add _ _
      have es : nI (sS ch (k - (d + 1))) + nI (low + (W - (r + 1))) = nI (sS (un_ ch (k - (d + 1)) (low + (W - (r + 1)))) (k - (d + 1) + 1)) := by
        rw [nI_add]
        congr 1
        show _ = sS (un_ ch (k - (d + 1)) (low + (W - (r + 1)))) (k - (d + 1)) + un_ ch (k - (d + 1)) (low + (W - (r + 1))) (k - (d + 1))
        rw [sS_c (ch := un_ ch (k - (d + 1)) (low + (W - (r + 1)))) (ch2 := ch) (fun j hj => by rw [un_at, if_neg (by omega)]), un_at, if_pos rfl]
      have el : lcN (un_ ch (k - (d + 1)) (low + (W - (r + 1)))) (k - (d + 1) + 1) = lc_ (lcN ch (k - (d + 1))) (low + (W - (r + 1))) := by
        show lc_ (lcN (un_ ch (k - (d + 1)) (low + (W - (r + 1)))) (k - (d + 1))) (un_ ch (k - (d + 1)) (low + (W - (r + 1))) (k - (d + 1))) = _
        rw [lcN_c (ch := un_ ch (k - (d + 1)) (low + (W - (r + 1)))) (ch2 := ch) (fun j hj => by rw [un_at, if_neg (by omega)]), un_at, if_pos rfl]
      have hL := lcN_b (ch := ch) (n := k - (d + 1)) (fun j hj => by have := hch j hj; omega)
      have hlc := lc_b (a := lcN ch (k - (d + 1))) (b := low + (W - (r + 1))) hL.1 (by omega)
      have hch2 : ∀ q, q < k - (d + 1) + 1 → 4 ≤ un_ ch (k - (d + 1)) (low + (W - (r + 1))) q ∧ un_ ch (k - (d + 1)) (low + (W - (r + 1))) q ≤ 60 := fun q hq => by
        rw [un_at]
        by_cases c : q = k - (d + 1)
        · rw [if_pos c]
          omega
        · rw [if_neg c]
          exact hch q (by omega)
      have hcho2 : ∀ q, q < k - (d + 1) + 1 → upd cho (k - (d + 1)) (nI (low + (W - (r + 1)))) q = nI (un_ ch (k - (d + 1)) (low + (W - (r + 1))) q) := fun q hq => by
        rw [upd_at, un_at]
        by_cases c : q = k - (d + 1)
        · rw [if_pos c, if_pos c]
        · rw [if_neg c, if_neg c]
          exact hcho q (by omega)
      have hcho3 : ∀ q, q < k - (d + 1) → upd cho (k - (d + 1)) (nI (low + (W - (r + 1)))) q = nI (ch q) := fun q hq => by
        rw [upd_at, if_neg (by omega)]
        exact hcho q hq
      /- what one choice does -/
      have J : ∀ ww, rQ lim ww (lcN (un_ ch (k - (d + 1)) (low + (W - (r + 1)))) (k - (d + 1) + 1)) → ww < 100000 → ∃ ls2 fc2 en2 cho2 be2, J_X1_descend_k3_53 (nI k) (nI low) (nI W) (nI lim) (nI nd) (nI Q) op al (L_X1_descend_k3_17 (nI k) (nI low) (nI W) (nI lim) (nI nd) (nI Q) op al n) ls fc en cho be (nI (k - (d + 1))) (nI rr) (nI (sS ch (k - (d + 1)))) (nI (W - (r + 1))) (nI (low + (W - (r + 1)))) (nI ww) = some (ls2, fc2, en2, cho2, be2) ∧ AR k (eE (vF m k) k W low (d + 1) (r + 1) ch a) ls2 fc2 be2 ∧ (∀ q, q < k - (d + 1) → cho2 q = cho q) ∧ (∀ j, j < 20 * (k - (d + 1) + 1) → en2 j = en j) ∧ T0 m en2 := by
        intro ww hww hww2
        unfold J_X1_descend_k3_53
        rw [gN_ hp4 (by decide), nI_s, if_e (nI_le2 (by omega) (by omega)), nI_clamp (by omega), ex, es]
        by_cases c : k ≤ k - (d + 1) + 1
        · have d0 : d = 0 := by omega
          subst d0
          have kk : k - (0 + 1) + 1 = k := by omega
          rw [if_pos c, if_e (nI_lt2 (by omega) (by omega))]
          rw [kk] at hww hch2 hcho2
          have st : eE (vF m k) k W low (0 + 1) (r + 1) ch a = eE (vF m k) k W low (0 + 1) r ch (vF m k (un_ ch (k - (0 + 1)) (low + (W - (r + 1)))) a) := rfl
          by_cases c2 : ww < lim
          · have hnf : vF m k (un_ ch (k - (0 + 1)) (low + (W - (r + 1)))) a = a := by
              unfold vF fitB
              have : ¬ lim ≤ lcN (un_ ch (k - (0 + 1)) (low + (W - (r + 1)))) k := fun q => by have := hww.2 q; omega
              rw [decide_eq_false (show ¬ m 9 ≤ (lcN (un_ ch (k - (0 + 1)) (low + (W - (r + 1)))) k : Int) by omega), Bool.false_and, if_neg (by decide)]
            rw [if_pos c2, st, hnf]
            obtain ⟨ls2, fc2, en2, cho2, be2, e, q1, q2, q3, q4⟩ := ih n a en (upd cho (k - (0 + 1)) (nI (low + (W - (r + 1))))) be ls fc (by omega) (by omega) hE hT hcho3 hA
            exact ⟨ls2, fc2, en2, cho2, be2, e, q1, fun q hq => by rw [q2 q hq, upd_at, if_neg (by omega)], q3, q4⟩
          · have hge : lim ≤ lcN (un_ ch (k - (0 + 1)) (low + (W - (r + 1)))) k := by
              rcases Nat.lt_or_ge (lcN (un_ ch (k - (0 + 1)) (low + (W - (r + 1)))) k) lim with q | q
              · have := hww.1 q
                omega
              · exact q
            have oa := ev_opensAll (m := m) hW hnd2 hQ hQ4 hop hal (ch := ch) (p := k - (0 + 1)) (i := W - (r + 1)) hp4 (by omega) hE
            rw [kk] at oa
            have hfb : fitB m k (un_ ch (k - (0 + 1)) (low + (W - (r + 1)))) = decide (∀ v, v < nS m → nd ≤ oC m (un_ ch (k - (0 + 1)) (low + (W - (r + 1)))) k ((v : Int) + 1)) := by
              unfold fitB
              rw [decide_eq_true (show m 9 ≤ (lcN (un_ ch (k - (0 + 1)) (low + (W - (r + 1)))) k : Int) by omega), Bool.true_and, hnd]
            rw [if_neg c2, oa, bs_, ib_, ← hfb, st]
            by_cases c3 : fitB m k (un_ ch (k - (0 + 1)) (low + (W - (r + 1)))) = true
            · obtain ⟨ls1, fc1, be1, e1, hA1⟩ := ev_keepFit hk.2 (fun q hq => (hch2 q hq).2) c3 hA hcho2
              rw [if_pos c3, kk, e1, bs_]
              obtain ⟨ls2, fc2, en2, cho2, be2, e, q1, q2, q3, q4⟩ := ih n _ en (upd cho (k - (0 + 1)) (nI (low + (W - (r + 1))))) be1 ls1 fc1 (by omega) (by omega) hE hT hcho3 hA1
              exact ⟨ls2, fc2, en2, cho2, be2, e, q1, fun q hq => by rw [q2 q hq, upd_at, if_neg (by omega)], fun j hj => q3 j (by omega), q4⟩
            · have hnf : vF m k (un_ ch (k - (0 + 1)) (low + (W - (r + 1)))) a = a := by
                unfold vF
                rw [if_neg c3]
              rw [if_neg c3, hnf]
              obtain ⟨ls2, fc2, en2, cho2, be2, e, q1, q2, q3, q4⟩ := ih n a en (upd cho (k - (0 + 1)) (nI (low + (W - (r + 1))))) be ls fc (by omega) (by omega) hE hT hcho3 hA
              exact ⟨ls2, fc2, en2, cho2, be2, e, q1, fun q hq => by rw [q2 q hq, upd_at, if_neg (by omega)], q3, q4⟩
        · obtain ⟨d, rfl⟩ : ∃ e, d = e + 1 := ⟨d - 1, by omega⟩
          have kp : k - (d + 1 + 1) + 1 = k - (d + 1) := by omega
          rw [if_neg c]
          obtain ⟨en1, e1, E1, T1, F1⟩ := ev_addChoice hW hnd2.2 hQ4 hop (ch := ch) (p := k - (d + 1 + 1)) (i := W - (r + 1)) (by omega) (by omega) hE hT
          rw [e1, bs_, kp]
          rw [kp] at E1 hww hcho2 hch2 F1
          obtain ⟨ls2, fc2, en2, cho2, be2, e2, q1, q2, q3, q4⟩ := ev_descend2 hk hlo hW hh hnd hnd2 hQ hQ4 hlim hlim2 hop hal (d + 1) (by omega) (by omega) (by omega) r (un_ ch (k - (d + 1 + 1)) (low + (W - (r + 1)))) a ww en1 (upd cho (k - (d + 1 + 1)) (nI (low + (W - (r + 1))))) be ls fc (by omega) E1 T1 hcho2 hch2 hww hww2 hA
          rw [e2, bs_]
          obtain ⟨ls3, fc3, en3, cho3, be3, e3, w1, w2, w3, w4⟩ := ih n _ en2 cho2 be2 ls2 fc2 (by omega) (by omega) (fun t ht part hpt => by rw [q3 _ (by omega), F1 _ (by omega)]; exact hE t ht part hpt) q4 (fun q hq => by rw [q2 q (by omega), upd_at, if_neg (by omega)]; exact hcho q hq) q1
          exact ⟨ls3, fc3, en3, cho3, be3, e3, w1, fun q hq => by rw [w2 q hq, q2 q (by omega), upd_at, if_neg (by omega)], fun j hj => by rw [w3 j (by omega), q3 j (by omega), F1 j (by omega)], w4⟩
      rw [L_X1_descend_k3_17, if_neg (nle_ (by omega) (by omega) (by omega)), eg, if_e (nI_lt2 (by omega) (by omega))]
      by_cases c : rr < lim
      · have hLlt : lcN ch (k - (d + 1)) < lim := by
          rcases Nat.lt_or_ge (lcN ch (k - (d + 1))) lim with q | q
          · exact q
          · have := hrQ.2 q
            omega
        have hrL := hrQ.1 hLlt
        have hbb : lcN ch (k - (d + 1)) * (low + (W - (r + 1))) ≤ 1000 * 60 := Nat.mul_le_mul (by omega) (by omega)
        have elc : F_X10_leastCommon (nI rr) (nI (low + (W - (r + 1)))) = some (nI (lc_ (lcN ch (k - (d + 1))) (low + (W - (r + 1))))) := by
          rw [hrL]
          exact ev_leastCommon ⟨hL.1, by omega⟩ ⟨by omega, by omega⟩
        rw [if_pos c, elc, bs_]
        refine J (lc_ (lcN ch (k - (d + 1))) (low + (W - (r + 1)))) ?_ (by omega)
        rw [el]
        exact ⟨fun _ => rfl, fun q => q⟩
      · rw [if_neg c]
        refine J rr ?_ hrr
        rw [el]
        refine ⟨fun q => ?_, fun _ => by omega⟩
        exfalso
        have : lcN ch (k - (d + 1)) < lim := by omega
        have := hrQ.1 this
        omega
  unfold F_X1_descend_k3
  rw [if_neg (nle_ (by omega) (by omega) (by omega)), show (4 : Int32) = nI 4 from rfl, if_pos (ylt_ (by omega) (by omega) hp4)]
  exact main r fu_ a en cho be ls fc hr (fu_lt (by omega)) hE hT hcho hA
theorem ev_descend4 (hk : 2 ≤ k ∧ k ≤ 4) (hlo : 4 ≤ low) (hW : W ≤ 21) (hh : low + W ≤ 61) (hnd : nd = ndk m k) (hnd2 : 1 ≤ nd ∧ nd ≤ 4) (hQ : Q = (nS m + 63) / 64) (hQ4 : Q ≤ 4) {lim : Nat} (hlim : m 9 = (lim : Int)) (hlim2 : lim ≤ 1000) (hop : ∀ i, i < W → ∀ part, part < 4 → op (4 * i + part) = bW (oP m (nS m) (low + i) part)) (hal : ∀ part, part < 4 → al part = bW (aP (nS m) part)) :
    ∀ d, 1 ≤ d → d ≤ 4 → d ≤ k → ∀ (r : Nat) (ch : Nat → Nat) (a : Ac) (rr : Nat) (en : Nat → Int64) (cho be : Nat → Int32) (ls fc : Int32), r ≤ W → EI m ch (k - d) nd Q en → T0 m en → (∀ q, q < k - d → cho q = nI (ch q)) → (∀ q, q < k - d → 4 ≤ ch q ∧ ch q ≤ 60) → rQ lim rr (lcN ch (k - d)) → rr < 100000 → AR k a ls fc be →
      ∃ ls2 fc2 en2 cho2 be2, F_X1_descend_k4 (nI k) (nI low) (nI W) (nI lim) (nI nd) (nI Q) ls fc op en al cho be (nI (k - d)) (nI (W - r)) (nI rr) (nI (sS ch (k - d))) = some (ls2, fc2, en2, cho2, be2) ∧ AR k (eE (vF m k) k W low d r ch a) ls2 fc2 be2 ∧ (∀ q, q < k - d → cho2 q = cho q) ∧ (∀ j, j < 20 * (k - d + 1) → en2 j = en j) ∧ T0 m en2 := by
  intro d hd1 hdJ hdk r ch a rr en cho be ls fc hr hE hT hcho hch hrQ hrr hA
  obtain ⟨d, rfl⟩ : ∃ e, d = e + 1 := ⟨d - 1, by omega⟩
  have hp4 : k - (d + 1) < 4 := by omega
  have main : ∀ r n (a : Ac) (en : Nat → Int64) (cho be : Nat → Int32) (ls fc : Int32), r ≤ W → r < n → EI m ch (k - (d + 1)) nd Q en → T0 m en → (∀ q, q < k - (d + 1) → cho q = nI (ch q)) → AR k a ls fc be →
      ∃ ls2 fc2 en2 cho2 be2, L_X1_descend_k4_17 (nI k) (nI low) (nI W) (nI lim) (nI nd) (nI Q) op al n ls fc en cho be (nI (k - (d + 1))) (nI rr) (nI (sS ch (k - (d + 1)))) (nI (W - r)) = some (ls2, fc2, en2, cho2, be2) ∧ AR k (eE (vF m k) k W low (d + 1) r ch a) ls2 fc2 be2 ∧ (∀ q, q < k - (d + 1) → cho2 q = cho q) ∧ (∀ j, j < 20 * (k - (d + 1) + 1) → en2 j = en j) ∧ T0 m en2 := by
    intro r
    induction r with
    | zero =>
      intro n a en cho be ls fc _ h2 hE hT hcho hA
      obtain ⟨n, rfl⟩ : ∃ k, n = k + 1 := ⟨n - 1, by omega⟩
      rw [L_X1_descend_k4_17, if_pos (yle_ (by omega) (by omega) (by omega))]
      exact ⟨_, _, _, _, _, rfl, hA, fun _ _ => rfl, fun _ _ => rfl, hT⟩
    | succ r ih =>
      intro n a en cho be ls fc hr h2 hE hT hcho hA
      obtain ⟨n, rfl⟩ : ∃ k, n = k + 1 := ⟨n - 1, by omega⟩
      have ex : nI (W - (r + 1)) + (1 : Int32) = nI (W - r) := by rw [nI_s]; congr 1; omega
      have eg : nI low + nI (W - (r + 1)) = nI (low + (W - (r + 1))) := nI_add _ _
      have es : nI (sS ch (k - (d + 1))) + nI (low + (W - (r + 1))) = nI (sS (un_ ch (k - (d + 1)) (low + (W - (r + 1)))) (k - (d + 1) + 1)) := by
        rw [nI_add]
        congr 1
        show _ = sS (un_ ch (k - (d + 1)) (low + (W - (r + 1)))) (k - (d + 1)) + un_ ch (k - (d + 1)) (low + (W - (r + 1))) (k - (d + 1))
        rw [sS_c (ch := un_ ch (k - (d + 1)) (low + (W - (r + 1)))) (ch2 := ch) (fun j hj => by rw [un_at, if_neg (by omega)]), un_at, if_pos rfl]
      have el : lcN (un_ ch (k - (d + 1)) (low + (W - (r + 1)))) (k - (d + 1) + 1) = lc_ (lcN ch (k - (d + 1))) (low + (W - (r + 1))) := by
        show lc_ (lcN (un_ ch (k - (d + 1)) (low + (W - (r + 1)))) (k - (d + 1))) (un_ ch (k - (d + 1)) (low + (W - (r + 1))) (k - (d + 1))) = _
        rw [lcN_c (ch := un_ ch (k - (d + 1)) (low + (W - (r + 1)))) (ch2 := ch) (fun j hj => by rw [un_at, if_neg (by omega)]), un_at, if_pos rfl]
      have hL := lcN_b (ch := ch) (n := k - (d + 1)) (fun j hj => by have := hch j hj; omega)
      have hlc := lc_b (a := lcN ch (k - (d + 1))) (b := low + (W - (r + 1))) hL.1 (by omega)
      have hch2 : ∀ q, q < k - (d + 1) + 1 → 4 ≤ un_ ch (k - (d + 1)) (low + (W - (r + 1))) q ∧ un_ ch (k - (d + 1)) (low + (W - (r + 1))) q ≤ 60 := fun q hq => by
        rw [un_at]
        by_cases c : q = k - (d + 1)
        · rw [if_pos c]
          omega
        · rw [if_neg c]
          exact hch q (by omega)
      have hcho2 : ∀ q, q < k - (d + 1) + 1 → upd cho (k - (d + 1)) (nI (low + (W - (r + 1)))) q = nI (un_ ch (k - (d + 1)) (low + (W - (r + 1))) q) := fun q hq => by
        rw [upd_at, un_at]
        by_cases c : q = k - (d + 1)
        · rw [if_pos c, if_pos c]
        · rw [if_neg c, if_neg c]
          exact hcho q (by omega)
      have hcho3 : ∀ q, q < k - (d + 1) → upd cho (k - (d + 1)) (nI (low + (W - (r + 1)))) q = nI (ch q) := fun q hq => by
        rw [upd_at, if_neg (by omega)]
        exact hcho q hq
      /- what one choice does -/
      have J : ∀ ww, rQ lim ww (lcN (un_ ch (k - (d + 1)) (low + (W - (r + 1)))) (k - (d + 1) + 1)) → ww < 100000 → ∃ ls2 fc2 en2 cho2 be2, J_X1_descend_k4_53 (nI k) (nI low) (nI W) (nI lim) (nI nd) (nI Q) op al (L_X1_descend_k4_17 (nI k) (nI low) (nI W) (nI lim) (nI nd) (nI Q) op al n) ls fc en cho be (nI (k - (d + 1))) (nI rr) (nI (sS ch (k - (d + 1)))) (nI (W - (r + 1))) (nI (low + (W - (r + 1)))) (nI ww) = some (ls2, fc2, en2, cho2, be2) ∧ AR k (eE (vF m k) k W low (d + 1) (r + 1) ch a) ls2 fc2 be2 ∧ (∀ q, q < k - (d + 1) → cho2 q = cho q) ∧ (∀ j, j < 20 * (k - (d + 1) + 1) → en2 j = en j) ∧ T0 m en2 := by
        intro ww hww hww2
        unfold J_X1_descend_k4_53
        rw [gN_ hp4 (by decide), nI_s, if_e (nI_le2 (by omega) (by omega)), nI_clamp (by omega), ex, es]
        by_cases c : k ≤ k - (d + 1) + 1
        · have d0 : d = 0 := by omega
          subst d0
          have kk : k - (0 + 1) + 1 = k := by omega
          rw [if_pos c, if_e (nI_lt2 (by omega) (by omega))]
          rw [kk] at hww hch2 hcho2
          have st : eE (vF m k) k W low (0 + 1) (r + 1) ch a = eE (vF m k) k W low (0 + 1) r ch (vF m k (un_ ch (k - (0 + 1)) (low + (W - (r + 1)))) a) := rfl
          by_cases c2 : ww < lim
          · have hnf : vF m k (un_ ch (k - (0 + 1)) (low + (W - (r + 1)))) a = a := by
              unfold vF fitB
              have : ¬ lim ≤ lcN (un_ ch (k - (0 + 1)) (low + (W - (r + 1)))) k := fun q => by have := hww.2 q; omega
              rw [decide_eq_false (show ¬ m 9 ≤ (lcN (un_ ch (k - (0 + 1)) (low + (W - (r + 1)))) k : Int) by omega), Bool.false_and, if_neg (by decide)]
            rw [if_pos c2, st, hnf]
            obtain ⟨ls2, fc2, en2, cho2, be2, e, q1, q2, q3, q4⟩ := ih n a en (upd cho (k - (0 + 1)) (nI (low + (W - (r + 1))))) be ls fc (by omega) (by omega) hE hT hcho3 hA
            exact ⟨ls2, fc2, en2, cho2, be2, e, q1, fun q hq => by rw [q2 q hq, upd_at, if_neg (by omega)], q3, q4⟩
          · have hge : lim ≤ lcN (un_ ch (k - (0 + 1)) (low + (W - (r + 1)))) k := by
              rcases Nat.lt_or_ge (lcN (un_ ch (k - (0 + 1)) (low + (W - (r + 1)))) k) lim with q | q
              · have := hww.1 q
                omega
              · exact q
            have oa := ev_opensAll (m := m) hW hnd2 hQ hQ4 hop hal (ch := ch) (p := k - (0 + 1)) (i := W - (r + 1)) hp4 (by omega) hE
            rw [kk] at oa
            have hfb : fitB m k (un_ ch (k - (0 + 1)) (low + (W - (r + 1)))) = decide (∀ v, v < nS m → nd ≤ oC m (un_ ch (k - (0 + 1)) (low + (W - (r + 1)))) k ((v : Int) + 1)) := by
              unfold fitB
              rw [decide_eq_true (show m 9 ≤ (lcN (un_ ch (k - (0 + 1)) (low + (W - (r + 1)))) k : Int) by omega), Bool.true_and, hnd]
            rw [if_neg c2, oa, bs_, ib_, ← hfb, st]
            by_cases c3 : fitB m k (un_ ch (k - (0 + 1)) (low + (W - (r + 1)))) = true
            · obtain ⟨ls1, fc1, be1, e1, hA1⟩ := ev_keepFit hk.2 (fun q hq => (hch2 q hq).2) c3 hA hcho2
              rw [if_pos c3, kk, e1, bs_]
              obtain ⟨ls2, fc2, en2, cho2, be2, e, q1, q2, q3, q4⟩ := ih n _ en (upd cho (k - (0 + 1)) (nI (low + (W - (r + 1))))) be1 ls1 fc1 (by omega) (by omega) hE hT hcho3 hA1
              exact ⟨ls2, fc2, en2, cho2, be2, e, q1, fun q hq => by rw [q2 q hq, upd_at, if_neg (by omega)], fun j hj => q3 j (by omega), q4⟩
            · have hnf : vF m k (un_ ch (k - (0 + 1)) (low + (W - (r + 1)))) a = a := by
                unfold vF
                rw [if_neg c3]
              rw [if_neg c3, hnf]
              obtain ⟨ls2, fc2, en2, cho2, be2, e, q1, q2, q3, q4⟩ := ih n a en (upd cho (k - (0 + 1)) (nI (low + (W - (r + 1))))) be ls fc (by omega) (by omega) hE hT hcho3 hA
              exact ⟨ls2, fc2, en2, cho2, be2, e, q1, fun q hq => by rw [q2 q hq, upd_at, if_neg (by omega)], q3, q4⟩
        · obtain ⟨d, rfl⟩ : ∃ e, d = e + 1 := ⟨d - 1, by omega⟩
          have kp : k - (d + 1 + 1) + 1 = k - (d + 1) := by omega
          rw [if_neg c]
          obtain ⟨en1, e1, E1, T1, F1⟩ := ev_addChoice hW hnd2.2 hQ4 hop (ch := ch) (p := k - (d + 1 + 1)) (i := W - (r + 1)) (by omega) (by omega) hE hT
          rw [e1, bs_, kp]
          rw [kp] at E1 hww hcho2 hch2 F1
          obtain ⟨ls2, fc2, en2, cho2, be2, e2, q1, q2, q3, q4⟩ := ev_descend3 hk hlo hW hh hnd hnd2 hQ hQ4 hlim hlim2 hop hal (d + 1) (by omega) (by omega) (by omega) r (un_ ch (k - (d + 1 + 1)) (low + (W - (r + 1)))) a ww en1 (upd cho (k - (d + 1 + 1)) (nI (low + (W - (r + 1))))) be ls fc (by omega) E1 T1 hcho2 hch2 hww hww2 hA
          rw [e2, bs_]
          obtain ⟨ls3, fc3, en3, cho3, be3, e3, w1, w2, w3, w4⟩ := ih n _ en2 cho2 be2 ls2 fc2 (by omega) (by omega) (fun t ht part hpt => by rw [q3 _ (by omega), F1 _ (by omega)]; exact hE t ht part hpt) q4 (fun q hq => by rw [q2 q (by omega), upd_at, if_neg (by omega)]; exact hcho q hq) q1
          exact ⟨ls3, fc3, en3, cho3, be3, e3, w1, fun q hq => by rw [w2 q hq, q2 q (by omega), upd_at, if_neg (by omega)], fun j hj => by rw [w3 j (by omega), q3 j (by omega), F1 j (by omega)], w4⟩
      rw [L_X1_descend_k4_17, if_neg (nle_ (by omega) (by omega) (by omega)), eg, if_e (nI_lt2 (by omega) (by omega))]
      by_cases c : rr < lim
      · have hLlt : lcN ch (k - (d + 1)) < lim := by
          rcases Nat.lt_or_ge (lcN ch (k - (d + 1))) lim with q | q
          · exact q
          · have := hrQ.2 q
            omega
        have hrL := hrQ.1 hLlt
        have hbb : lcN ch (k - (d + 1)) * (low + (W - (r + 1))) ≤ 1000 * 60 := Nat.mul_le_mul (by omega) (by omega)
        have elc : F_X10_leastCommon (nI rr) (nI (low + (W - (r + 1)))) = some (nI (lc_ (lcN ch (k - (d + 1))) (low + (W - (r + 1))))) := by
          rw [hrL]
          exact ev_leastCommon ⟨hL.1, by omega⟩ ⟨by omega, by omega⟩
        rw [if_pos c, elc, bs_]
        refine J (lc_ (lcN ch (k - (d + 1))) (low + (W - (r + 1)))) ?_ (by omega)
        rw [el]
        exact ⟨fun _ => rfl, fun q => q⟩
      · rw [if_neg c]
        refine J rr ?_ hrr
        rw [el]
        refine ⟨fun q => ?_, fun _ => by omega⟩
        exfalso
        have : lcN ch (k - (d + 1)) < lim := by omega
        have := hrQ.1 this
        omega
  unfold F_X1_descend_k4
  rw [if_neg (nle_ (by omega) (by omega) (by omega)), show (4 : Int32) = nI 4 from rfl, if_pos (ylt_ (by omega) (by omega) hp4)]
  exact main r fu_ a en cho be ls fc hr (fu_lt (by omega)) hE hT hcho hA
theorem ev_descend5 (hk : 2 ≤ k ∧ k ≤ 4) (hlo : 4 ≤ low) (hW : W ≤ 21) (hh : low + W ≤ 61) (hnd : nd = ndk m k) (hnd2 : 1 ≤ nd ∧ nd ≤ 4) (hQ : Q = (nS m + 63) / 64) (hQ4 : Q ≤ 4) {lim : Nat} (hlim : m 9 = (lim : Int)) (hlim2 : lim ≤ 1000) (hop : ∀ i, i < W → ∀ part, part < 4 → op (4 * i + part) = bW (oP m (nS m) (low + i) part)) (hal : ∀ part, part < 4 → al part = bW (aP (nS m) part)) :
    ∀ d, 1 ≤ d → d ≤ 5 → d ≤ k → ∀ (r : Nat) (ch : Nat → Nat) (a : Ac) (rr : Nat) (en : Nat → Int64) (cho be : Nat → Int32) (ls fc : Int32), r ≤ W → EI m ch (k - d) nd Q en → T0 m en → (∀ q, q < k - d → cho q = nI (ch q)) → (∀ q, q < k - d → 4 ≤ ch q ∧ ch q ≤ 60) → rQ lim rr (lcN ch (k - d)) → rr < 100000 → AR k a ls fc be →
      ∃ ls2 fc2 en2 cho2 be2, F_X1_descend_k5 (nI k) (nI low) (nI W) (nI lim) (nI nd) (nI Q) ls fc op en al cho be (nI (k - d)) (nI (W - r)) (nI rr) (nI (sS ch (k - d))) = some (ls2, fc2, en2, cho2, be2) ∧ AR k (eE (vF m k) k W low d r ch a) ls2 fc2 be2 ∧ (∀ q, q < k - d → cho2 q = cho q) ∧ (∀ j, j < 20 * (k - d + 1) → en2 j = en j) ∧ T0 m en2 := by
  intro d hd1 hdJ hdk r ch a rr en cho be ls fc hr hE hT hcho hch hrQ hrr hA
  obtain ⟨d, rfl⟩ : ∃ e, d = e + 1 := ⟨d - 1, by omega⟩
  have hp4 : k - (d + 1) < 4 := by omega
  have main : ∀ r n (a : Ac) (en : Nat → Int64) (cho be : Nat → Int32) (ls fc : Int32), r ≤ W → r < n → EI m ch (k - (d + 1)) nd Q en → T0 m en → (∀ q, q < k - (d + 1) → cho q = nI (ch q)) → AR k a ls fc be →
      ∃ ls2 fc2 en2 cho2 be2, L_X1_descend_k5_17 (nI k) (nI low) (nI W) (nI lim) (nI nd) (nI Q) op al n ls fc en cho be (nI (k - (d + 1))) (nI rr) (nI (sS ch (k - (d + 1)))) (nI (W - r)) = some (ls2, fc2, en2, cho2, be2) ∧ AR k (eE (vF m k) k W low (d + 1) r ch a) ls2 fc2 be2 ∧ (∀ q, q < k - (d + 1) → cho2 q = cho q) ∧ (∀ j, j < 20 * (k - (d + 1) + 1) → en2 j = en j) ∧ T0 m en2 := by
    intro r
    induction r with
    | zero =>
      intro n a en cho be ls fc _ h2 hE hT hcho hA
      obtain ⟨n, rfl⟩ : ∃ k, n = k + 1 := ⟨n - 1, by omega⟩
      rw [L_X1_descend_k5_17, if_pos (yle_ (by omega) (by omega) (by omega))]
      exact ⟨_, _, _, _, _, rfl, hA, fun _ _ => rfl, fun _ _ => rfl, hT⟩
    | succ r ih =>
      intro n a en cho be ls fc hr h2 hE hT hcho hA
      obtain ⟨n, rfl⟩ : ∃ k, n = k + 1 := ⟨n - 1, by omega⟩
      have ex : nI (W - (r + 1)) + (1 : Int32) = nI (W - r) := by rw [nI_s]; congr 1; omega
      have eg : nI low + nI (W - (r + 1)) = nI (low + (W - (r + 1))) := nI_add _ _
      have es : nI (sS ch (k - (d + 1))) + nI (low + (W - (r + 1))) = nI (sS (un_ ch (k - (d + 1)) (low + (W - (r + 1)))) (k - (d + 1) + 1)) := by
        rw [nI_add]
        congr 1
        show _ = sS (un_ ch (k - (d + 1)) (low + (W - (r + 1)))) (k - (d + 1)) + un_ ch (k - (d + 1)) (low + (W - (r + 1))) (k - (d + 1))
        rw [sS_c (ch := un_ ch (k - (d + 1)) (low + (W - (r + 1)))) (ch2 := ch) (fun j hj => by rw [un_at, if_neg (by omega)]), un_at, if_pos rfl]
      have el : lcN (un_ ch (k - (d + 1)) (low + (W - (r + 1)))) (k - (d + 1) + 1) = lc_ (lcN ch (k - (d + 1))) (low + (W - (r + 1))) := by
        show lc_ (lcN (un_ ch (k - (d + 1)) (low + (W - (r + 1)))) (k - (d + 1))) (un_ ch (k - (d + 1)) (low + (W - (r + 1))) (k - (d + 1))) = _
        rw [lcN_c (ch := un_ ch (k - (d + 1)) (low + (W - (r + 1)))) (ch2 := ch) (fun j hj => by rw [un_at, if_neg (by omega)]), un_at, if_pos rfl]
      have hL := lcN_b (ch := ch) (n := k - (d + 1)) (fun j hj => by have := hch j hj; omega)
      have hlc := lc_b (a := lcN ch (k - (d + 1))) (b := low + (W - (r + 1))) hL.1 (by omega)
      have hch2 : ∀ q, q < k - (d + 1) + 1 → 4 ≤ un_ ch (k - (d + 1)) (low + (W - (r + 1))) q ∧ un_ ch (k - (d + 1)) (low + (W - (r + 1))) q ≤ 60 := fun q hq => by
        rw [un_at]
        by_cases c : q = k - (d + 1)
        · rw [if_pos c]
          omega
        · rw [if_neg c]
          exact hch q (by omega)
      have hcho2 : ∀ q, q < k - (d + 1) + 1 → upd cho (k - (d + 1)) (nI (low + (W - (r + 1)))) q = nI (un_ ch (k - (d + 1)) (low + (W - (r + 1))) q) := fun q hq => by
        rw [upd_at, un_at]
        by_cases c : q = k - (d + 1)
        · rw [if_pos c, if_pos c]
        · rw [if_neg c, if_neg c]
          exact hcho q (by omega)
      have hcho3 : ∀ q, q < k - (d + 1) → upd cho (k - (d + 1)) (nI (low + (W - (r + 1)))) q = nI (ch q) := fun q hq => by
        rw [upd_at, if_neg (by omega)]
        exact hcho q hq
      /- what one choice does -/
      have J : ∀ ww, rQ lim ww (lcN (un_ ch (k - (d + 1)) (low + (W - (r + 1)))) (k - (d + 1) + 1)) → ww < 100000 → ∃ ls2 fc2 en2 cho2 be2, J_X1_descend_k5_53 (nI k) (nI low) (nI W) (nI lim) (nI nd) (nI Q) op al (L_X1_descend_k5_17 (nI k) (nI low) (nI W) (nI lim) (nI nd) (nI Q) op al n) ls fc en cho be (nI (k - (d + 1))) (nI rr) (nI (sS ch (k - (d + 1)))) (nI (W - (r + 1))) (nI (low + (W - (r + 1)))) (nI ww) = some (ls2, fc2, en2, cho2, be2) ∧ AR k (eE (vF m k) k W low (d + 1) (r + 1) ch a) ls2 fc2 be2 ∧ (∀ q, q < k - (d + 1) → cho2 q = cho q) ∧ (∀ j, j < 20 * (k - (d + 1) + 1) → en2 j = en j) ∧ T0 m en2 := by
        intro ww hww hww2
        unfold J_X1_descend_k5_53
        rw [gN_ hp4 (by decide), nI_s, if_e (nI_le2 (by omega) (by omega)), nI_clamp (by omega), ex, es]
        by_cases c : k ≤ k - (d + 1) + 1
        · have d0 : d = 0 := by omega
          subst d0
          have kk : k - (0 + 1) + 1 = k := by omega
          rw [if_pos c, if_e (nI_lt2 (by omega) (by omega))]
          rw [kk] at hww hch2 hcho2
          have st : eE (vF m k) k W low (0 + 1) (r + 1) ch a = eE (vF m k) k W low (0 + 1) r ch (vF m k (un_ ch (k - (0 + 1)) (low + (W - (r + 1)))) a) := rfl
          by_cases c2 : ww < lim
          · have hnf : vF m k (un_ ch (k - (0 + 1)) (low + (W - (r + 1)))) a = a := by
              unfold vF fitB
              have : ¬ lim ≤ lcN (un_ ch (k - (0 + 1)) (low + (W - (r + 1)))) k := fun q => by have := hww.2 q; omega
              rw [decide_eq_false (show ¬ m 9 ≤ (lcN (un_ ch (k - (0 + 1)) (low + (W - (r + 1)))) k : Int) by omega), Bool.false_and, if_neg (by decide)]
            rw [if_pos c2, st, hnf]
            obtain ⟨ls2, fc2, en2, cho2, be2, e, q1, q2, q3, q4⟩ := ih n a en (upd cho (k - (0 + 1)) (nI (low + (W - (r + 1))))) be ls fc (by omega) (by omega) hE hT hcho3 hA
            exact ⟨ls2, fc2, en2, cho2, be2, e, q1, fun q hq => by rw [q2 q hq, upd_at, if_neg (by omega)], q3, q4⟩
          · have hge : lim ≤ lcN (un_ ch (k - (0 + 1)) (low + (W - (r + 1)))) k := by
              rcases Nat.lt_or_ge (lcN (un_ ch (k - (0 + 1)) (low + (W - (r + 1)))) k) lim with q | q
              · have := hww.1 q
                omega
              · exact q
            have oa := ev_opensAll (m := m) hW hnd2 hQ hQ4 hop hal (ch := ch) (p := k - (0 + 1)) (i := W - (r + 1)) hp4 (by omega) hE
            rw [kk] at oa
            have hfb : fitB m k (un_ ch (k - (0 + 1)) (low + (W - (r + 1)))) = decide (∀ v, v < nS m → nd ≤ oC m (un_ ch (k - (0 + 1)) (low + (W - (r + 1)))) k ((v : Int) + 1)) := by
              unfold fitB
              rw [decide_eq_true (show m 9 ≤ (lcN (un_ ch (k - (0 + 1)) (low + (W - (r + 1)))) k : Int) by omega), Bool.true_and, hnd]
            rw [if_neg c2, oa, bs_, ib_, ← hfb, st]
            by_cases c3 : fitB m k (un_ ch (k - (0 + 1)) (low + (W - (r + 1)))) = true
            · obtain ⟨ls1, fc1, be1, e1, hA1⟩ := ev_keepFit hk.2 (fun q hq => (hch2 q hq).2) c3 hA hcho2
              rw [if_pos c3, kk, e1, bs_]
              obtain ⟨ls2, fc2, en2, cho2, be2, e, q1, q2, q3, q4⟩ := ih n _ en (upd cho (k - (0 + 1)) (nI (low + (W - (r + 1))))) be1 ls1 fc1 (by omega) (by omega) hE hT hcho3 hA1
              exact ⟨ls2, fc2, en2, cho2, be2, e, q1, fun q hq => by rw [q2 q hq, upd_at, if_neg (by omega)], fun j hj => q3 j (by omega), q4⟩
            · have hnf : vF m k (un_ ch (k - (0 + 1)) (low + (W - (r + 1)))) a = a := by
                unfold vF
                rw [if_neg c3]
              rw [if_neg c3, hnf]
              obtain ⟨ls2, fc2, en2, cho2, be2, e, q1, q2, q3, q4⟩ := ih n a en (upd cho (k - (0 + 1)) (nI (low + (W - (r + 1))))) be ls fc (by omega) (by omega) hE hT hcho3 hA
              exact ⟨ls2, fc2, en2, cho2, be2, e, q1, fun q hq => by rw [q2 q hq, upd_at, if_neg (by omega)], q3, q4⟩
        · obtain ⟨d, rfl⟩ : ∃ e, d = e + 1 := ⟨d - 1, by omega⟩
          have kp : k - (d + 1 + 1) + 1 = k - (d + 1) := by omega
          rw [if_neg c]
          obtain ⟨en1, e1, E1, T1, F1⟩ := ev_addChoice hW hnd2.2 hQ4 hop (ch := ch) (p := k - (d + 1 + 1)) (i := W - (r + 1)) (by omega) (by omega) hE hT
          rw [e1, bs_, kp]
          rw [kp] at E1 hww hcho2 hch2 F1
          obtain ⟨ls2, fc2, en2, cho2, be2, e2, q1, q2, q3, q4⟩ := ev_descend4 hk hlo hW hh hnd hnd2 hQ hQ4 hlim hlim2 hop hal (d + 1) (by omega) (by omega) (by omega) r (un_ ch (k - (d + 1 + 1)) (low + (W - (r + 1)))) a ww en1 (upd cho (k - (d + 1 + 1)) (nI (low + (W - (r + 1))))) be ls fc (by omega) E1 T1 hcho2 hch2 hww hww2 hA
          rw [e2, bs_]
          obtain ⟨ls3, fc3, en3, cho3, be3, e3, w1, w2, w3, w4⟩ := ih n _ en2 cho2 be2 ls2 fc2 (by omega) (by omega) (fun t ht part hpt => by rw [q3 _ (by omega), F1 _ (by omega)]; exact hE t ht part hpt) q4 (fun q hq => by rw [q2 q (by omega), upd_at, if_neg (by omega)]; exact hcho q hq) q1
          exact ⟨ls3, fc3, en3, cho3, be3, e3, w1, fun q hq => by rw [w2 q hq, q2 q (by omega), upd_at, if_neg (by omega)], fun j hj => by rw [w3 j (by omega), q3 j (by omega), F1 j (by omega)], w4⟩
      rw [L_X1_descend_k5_17, if_neg (nle_ (by omega) (by omega) (by omega)), eg, if_e (nI_lt2 (by omega) (by omega))]
      by_cases c : rr < lim
      · have hLlt : lcN ch (k - (d + 1)) < lim := by
          rcases Nat.lt_or_ge (lcN ch (k - (d + 1))) lim with q | q
          · exact q
          · have := hrQ.2 q
            omega
        have hrL := hrQ.1 hLlt
        have hbb : lcN ch (k - (d + 1)) * (low + (W - (r + 1))) ≤ 1000 * 60 := Nat.mul_le_mul (by omega) (by omega)
        have elc : F_X10_leastCommon (nI rr) (nI (low + (W - (r + 1)))) = some (nI (lc_ (lcN ch (k - (d + 1))) (low + (W - (r + 1))))) := by
          rw [hrL]
          exact ev_leastCommon ⟨hL.1, by omega⟩ ⟨by omega, by omega⟩
        rw [if_pos c, elc, bs_]
        refine J (lc_ (lcN ch (k - (d + 1))) (low + (W - (r + 1)))) ?_ (by omega)
        rw [el]
        exact ⟨fun _ => rfl, fun q => q⟩
      · rw [if_neg c]
        refine J rr ?_ hrr
        rw [el]
        refine ⟨fun q => ?_, fun _ => by omega⟩
        exfalso
        have : lcN ch (k - (d + 1)) < lim := by omega
        have := hrQ.1 this
        omega
  unfold F_X1_descend_k5
  rw [if_neg (nle_ (by omega) (by omega) (by omega)), show (4 : Int32) = nI 4 from rfl, if_pos (ylt_ (by omega) (by omega) hp4)]
  exact main r fu_ a en cho be ls fc hr (fu_lt (by omega)) hE hT hcho hA
end CHO
/-! ===== END ===== -/
