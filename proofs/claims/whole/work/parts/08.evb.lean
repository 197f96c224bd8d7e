/-! ===== BEGIN markHits, found ===== -/
def nL (m : Nat → Int) : Nat := (m 9).toNat
theorem nL_c {m : Nat → Int} (h : WS m) : m 9 = (nL m : Int) ∧ 1 ≤ nL m ∧ nL m ≤ 1000 := by
  obtain ⟨-, -, -, h9, -⟩ := h
  unfold nL
  omega
theorem ev_fill {N : Nat} (hN : N < 1000000) (f : Nat → Int32) (x : Int32) : F_J7_fill_53178 f N x = some (fun i => if i < N then x else f i) := by
  have h := lp_S (fun n k => L_J7_fill_53178_5 N n (fun i => if i < k then x else f i) x (nI k) (nI N)) N (some (fun i => if i < N then x else f i)) ?_ ?_ N 0 fu_ (by omega) (fu_lt hN)
  · have e : (fun i => if i < 0 then x else f i) = f := by
      funext i
      rw [if_neg (by omega)]
    simp only [e] at h
    exact h
  · intro n k hk
    show L_J7_fill_53178_5 N (n + 1) (fun i => if i < k then x else f i) x (nI k) (nI N) = L_J7_fill_53178_5 N n (fun i => if i < k + 1 then x else f i) x (nI (k + 1)) (nI N)
    rw [L_J7_fill_53178_5, if_neg (nle_ (by omega) (by omega) hk), gN_ hk (by omega), nI_clamp (by omega), nI_s]
    congr 1
    funext i
    rw [upd_at]
    by_cases h1 : i = k
    · rw [if_pos h1, if_pos (by omega)]
    · rw [if_neg h1]
      by_cases h2 : i < k
      · rw [if_pos h2, if_pos (by omega)]
      · rw [if_neg h2, if_neg (by omega)]
  · intro n
    show L_J7_fill_53178_5 N (n + 1) _ x (nI N) (nI N) = _
    rw [L_J7_fill_53178_5, if_pos (yle_ (by omega) (by omega) (Nat.le_refl _))]
/-- a row with op done at the numbers below N and below k that lie on place p by a gap g -/
def on_ (op : Int32 → Int32) (g p N k : Nat) (f : Nat → Int32) : Nat → Int32 := fun i => if i < N ∧ i < k ∧ i % g = p then op (f i) else f i
theorem on_s {op : Int32 → Int32} {g p N k : Nat} {f : Nat → Int32} (hN : k < N) (hk : k % g = p) (hg : 0 < g) : upd (on_ op g p N k f) k (op (on_ op g p N k f k)) = on_ op g p N (k + g) f := by
  funext i
  rw [upd_at]
  unfold on_
  by_cases h1 : i = k
  · rw [if_pos h1, if_neg (by omega), h1, if_pos ⟨hN, by omega, hk⟩]
  · rw [if_neg h1]
    by_cases h2 : i < N ∧ i < k ∧ i % g = p
    · rw [if_pos h2, if_pos ⟨h2.1, by omega, h2.2.2⟩]
    · rw [if_neg h2, if_neg]
      rintro ⟨h0, h3, h4⟩
      apply h2
      refine ⟨h0, ?_, h4⟩
      by_cases h5 : i < k
      · exact h5
      · exfalso
        have h6 := Nat.sub_mod_eq_zero_of_mod_eq (m := i) (n := k) (k := g) (by omega)
        rw [Nat.mod_eq_of_lt (show i - k < g by omega)] at h6
        omega
theorem lp_on {α : Type} (L : Nat → (Nat → Int32) → Int32 → Option α) (op : Int32 → Int32) (g N : Nat) (hg : 0 < g ∧ g ≤ 60) (hN : N ≤ 1000) (K : (Nat → Int32) → Option α)
    (hs : ∀ n f k, k < N → L (n + 1) f (nI k) = L n (upd f k (op (f k))) (nI (k + g))) (he : ∀ n f k, k < 2000 → N ≤ k → L (n + 1) f (nI k) = K f) (f : Nat → Int32) {p : Nat} (hp : p < g) :
    L fu_ f (nI p) = K (on_ op g p N N f) := by
  have main : ∀ d k n, N ≤ k + d → k < N + 60 → d < n → k % g = p → L n (on_ op g p N k f) (nI k) = K (on_ op g p N N f) := by
    intro d
    induction d with
    | zero =>
      intro k n h1 h2 h3 h4
      obtain ⟨n, rfl⟩ : ∃ k, n = k + 1 := ⟨n - 1, by omega⟩
      rw [he n _ k (by omega) (by omega)]
      congr 1
      funext i
      unfold on_
      rw [if_e (show (i < N ∧ i < k ∧ i % g = p) = (i < N ∧ i < N ∧ i % g = p) by apply propext; omega)]
    | succ d ih =>
      intro k n h1 h2 h3 h4
      obtain ⟨n, rfl⟩ : ∃ k, n = k + 1 := ⟨n - 1, by omega⟩
      by_cases h5 : k < N
      · rw [hs n _ k h5, on_s h5 h4 hg.1]
        exact ih (k + g) n (by omega) (by omega) (by omega) (by rw [Nat.add_mod_right]; exact h4)
      · rw [he n _ k (by omega) (by omega)]
        congr 1
        funext i
        unfold on_
        rw [if_e (show (i < N ∧ i < k ∧ i % g = p) = (i < N ∧ i < N ∧ i % g = p) by apply propext; omega)]
  have h := main N p fu_ (by omega) (by omega) (fu_lt (by omega)) (Nat.mod_eq_of_lt hp)
  have e : on_ op g p N p f = f := by
    funext i
    unfold on_
    rw [if_neg]
    rintro ⟨h0, h3, h4⟩
    rw [Nat.mod_eq_of_lt (show i < g by omega)] at h4
    omega
  rw [e] at h
  exact h
/-- what markHits has laid by the gaps below k, and of the k-th by the places below p -/
def mh_ (m : Nat → Int) (k p : Nat) : Nat → Int32 := fun i => if i < nL m then nI (bt_ (fun j => eo_ m j (pl_ m i j) && decide (j < k ∨ pl_ m i j < p)) (k + 1)) else 0
theorem pl_N {m : Nat → Int} (hg : WG m) {k i : Nat} (hk : k < nG m) : pl_ m (i : Int) k = i % (m (1 + k)).toNat := by
  obtain ⟨hn, h5⟩ := nG_c hg
  have hb := hg.2.2.1 k (by omega)
  unfold pl_
  obtain ⟨g, e⟩ : ∃ g : Nat, m (1 + k) = (g : Int) := ⟨(m (1 + k)).toNat, by omega⟩
  rw [e, ← Int.natCast_emod, Int.toNat_natCast, Int.toNat_natCast]
theorem bt_n {P : Nat → Bool} {k : Nat} (h : P k = false) : bt_ P (k + 1) = bt_ P k := by
  conv => lhs; unfold bt_
  rw [h]; rfl
theorem bt_y {P : Nat → Bool} {k : Nat} (h : P k = true) : bt_ P (k + 1) = bt_ P k + 2 ^ k := by
  conv => lhs; unfold bt_
  rw [h]; rfl
theorem mh_s {m : Nat → Int} (hg : WG m) {k p : Nat} (hk : k < nG m) : mh_ m k (p + 1) = if eo_ m k p = true then on_ (fun x => x ||| ((1 : Int32) <<< (nI k &&& 31))) (m (1 + k)).toNat p (nL m) (nL m) (mh_ m k p) else mh_ m k p := by
  obtain ⟨hn, h5⟩ := nG_c hg
  have cg : ∀ i : Nat, bt_ (fun j => eo_ m j (pl_ m i j) && decide (j < k ∨ pl_ m i j < p + 1)) k = bt_ (fun j => eo_ m j (pl_ m i j) && decide (j < k ∨ pl_ m i j < p)) k := by
    intro i
    refine bt_cong (fun j hj => ?_)
    rw [decide_eq_true (show j < k ∨ pl_ m i j < p + 1 from Or.inl hj), decide_eq_true (show j < k ∨ pl_ m i j < p from Or.inl hj)]
  have same : ∀ i : Nat, (eo_ m k (pl_ m i k) && decide (k < k ∨ pl_ m i k < p + 1)) = (eo_ m k (pl_ m i k) && decide (k < k ∨ pl_ m i k < p)) → bt_ (fun j => eo_ m j (pl_ m i j) && decide (j < k ∨ pl_ m i j < p + 1)) (k + 1) = bt_ (fun j => eo_ m j (pl_ m i j) && decide (j < k ∨ pl_ m i j < p)) (k + 1) := by
    intro i h
    unfold bt_
    rw [cg i, h]
  by_cases c : eo_ m k p = true
  · rw [if_pos c]
    funext i
    unfold on_ mh_
    by_cases h1 : i < nL m
    · rw [if_pos h1, if_pos h1]
      by_cases h2 : i % (m (1 + k)).toNat = p
      · rw [if_pos ⟨h1, h1, h2⟩]
        have h3 : pl_ m (i : Int) k = p := by rw [pl_N hg hk, h2]
        show _ = nI _ ||| ((1 : Int32) <<< (nI k &&& 31))
        rw [bt_n (P := fun j => eo_ m j (pl_ m i j) && decide (j < k ∨ pl_ m i j < p)) (show (eo_ m k (pl_ m i k) && decide (k < k ∨ pl_ m i k < p)) = false by rw [decide_eq_false (by omega), Bool.and_false]), bt_or (by omega), bt_y (P := fun j => eo_ m j (pl_ m i j) && decide (j < k ∨ pl_ m i j < p + 1)) (show (eo_ m k (pl_ m i k) && decide (k < k ∨ pl_ m i k < p + 1)) = true by rw [decide_eq_true (by omega), h3, c]; rfl), cg i]
      · rw [if_neg (fun h => h2 h.2.2)]
        congr 1
        refine same i ?_
        have h3 : pl_ m (i : Int) k ≠ p := by rw [pl_N hg hk]; exact h2
        congr 2
        apply propext
        omega
    · rw [if_neg h1, if_neg h1, if_neg (fun h => h1 h.1)]
  · rw [if_neg c]
    funext i
    unfold mh_
    by_cases h1 : i < nL m
    · rw [if_pos h1, if_pos h1]
      congr 1
      refine same i ?_
      by_cases h2 : pl_ m (i : Int) k = p
      · rw [h2, show eo_ m k p = false by simpa using c]; rfl
      · congr 2
        apply propext
        omega
    · rw [if_neg h1, if_neg h1]
theorem mh_k {m : Nat → Int} (hg : WG m) {k : Nat} (hk : k < nG m) : mh_ m k (m (1 + k)).toNat = mh_ m (k + 1) 0 := by
  funext i
  unfold mh_
  by_cases h1 : i < nL m
  · rw [if_pos h1, if_pos h1]
    congr 1
    conv => rhs; unfold bt_
    have e1 : (eo_ m (k + 1) (pl_ m i (k + 1)) && decide (k + 1 < k + 1 ∨ pl_ m i (k + 1) < 0)) = false := by
      rw [decide_eq_false (by omega), Bool.and_false]
    rw [show (if (eo_ m (k + 1) (pl_ m i (k + 1)) && decide (k + 1 < k + 1 ∨ pl_ m i (k + 1) < 0)) = true then 2 ^ (k + 1) else 0) = 0 by rw [e1]; rfl, Nat.add_zero]
    refine bt_cong (fun j hj => ?_)
    have hj2 : j < k ∨ pl_ m (i : Int) j < (m (1 + k)).toNat := by
      rcases Nat.eq_or_lt_of_le (show j ≤ k by omega) with h2 | h2
      · subst h2
        right
        have := pl_c hg (x := (i : Int)) hk
        omega
      · exact Or.inl h2
    rw [decide_eq_true hj2, decide_eq_true (show j < k + 1 ∨ pl_ m (i : Int) j < 0 from Or.inl hj)]
  · rw [if_neg h1, if_neg h1]
theorem ev_markEcho {m : Nat → Int} {gc : Int32} {gaps st : Nat → Int32} (hg : WG m) (hw : WS m) (hG : cG m gc gaps) (hS : cS m st) (f : Nat → Int32) {k p : Nat} (hk : k < nG m) (hp : (p : Int) < m (1 + k)) :
    F_X3_markEcho f gaps st (nI k) (nI p) = some (on_ (fun x => x ||| ((1 : Int32) <<< (nI k &&& 31))) (m (1 + k)).toNat p (nL m) (nL m) f) := by
  obtain ⟨hn, h5⟩ := nG_c hg
  obtain ⟨h9, h1, h2⟩ := nL_c hw
  have hb := hg.2.2.1 k (by omega)
  have hst : st 3 = nI (nL m) := by rw [show st 3 = iI (m 9) from hS 3 (by decide), h9, iI_nI]
  unfold F_X3_markEcho
  rw [gN_ (by omega) (by decide), nI_clamp (by omega), hG.2 k (by omega), show (4 : Int32) = iI 4 from rfl, if_e (iI_lt (by omega) (by omega)), if_neg (by omega), iN (by omega)]
  refine lp_on (fun n f x => L_X3_markEcho_15 gaps st n f (nI k) (nI (m (1 + k)).toNat) x) _ (m (1 + k)).toNat (nL m) (by omega) h2 some ?_ ?_ f (by omega)
  · intro n f j hj
    show L_X3_markEcho_15 gaps st (n + 1) f (nI k) (nI (m (1 + k)).toNat) (nI j) = _
    rw [L_X3_markEcho_15, hst, if_neg (nle_ (by omega) (by omega) hj), gN_ (by omega) (by decide), gN_ (by omega) (by decide), nI_clamp (by omega), nI_add]
  · intro n f j hj hj2
    show L_X3_markEcho_15 gaps st (n + 1) f (nI k) (nI (m (1 + k)).toNat) (nI j) = _
    rw [L_X3_markEcho_15, hst, if_pos (yle_ (by omega) (by omega) hj2)]
theorem on_if {op : Int32 → Int32} {g p N : Nat} {h f : Nat → Int32} (hN : N ≤ 1000) : on_ op g p N N (fun i => if i < 1000 then h i else f i) = fun i => if i < 1000 then on_ op g p N N h i else f i := by
  funext i
  unfold on_
  by_cases h1 : i < 1000
  · simp only [if_pos h1]
  · rw [if_neg h1, if_neg (show ¬ (i < N ∧ i < N ∧ i % g = p) by omega)]
    exact if_neg h1
theorem ev_markHits {m : Nat → Int} {gc : Int32} {gaps st ld : Nat → Int32} (hg : WG m) (hw : WS m) (ht : WT m) (hG : cG m gc gaps) (hS : cS m st) (hL : tL m ld) (f : Nat → Int32) :
    F_X3_markHits ld f gc gaps st = some (fun i => if i < 1000 then mh_ m (nG m) 0 i else f i) := by
  obtain ⟨hn, h5⟩ := nG_c hg
  obtain ⟨h9, h1, h2⟩ := nL_c hw
  have hgc : gc = nI (nG m) := by rw [hG.1, hn, iI_nI]
  unfold F_X3_markHits
  rw [ev_fill (by decide), bs_]
  have e0 : (fun i => if i < 1000 then (0 : Int32) else f i) = fun i => if i < 1000 then mh_ m 0 0 i else f i := by
    funext i
    unfold mh_
    by_cases h1 : i < 1000
    · rw [if_pos h1, if_pos h1]
      by_cases h2 : i < nL m
      · rw [if_pos h2, bt_n (P := fun j => eo_ m j (pl_ m i j) && decide (j < 0 ∨ pl_ m i j < 0)) (show (eo_ m 0 (pl_ m i 0) && decide (0 < 0 ∨ pl_ m i 0 < 0)) = false by rw [decide_eq_false (by omega), Bool.and_false])]
        rfl
      · rw [if_neg h2]
    · rw [if_neg h1, if_neg h1]
  rw [e0]
  refine lp_S (fun n k => L_X3_markHits_10 ld gc gaps st n (fun i => if i < 1000 then mh_ m k 0 i else f i) (nI k)) (nG m) _ ?_ ?_ (nG m) 0 fu_ (by omega) (fu_lt (by omega))
  · intro n k hk
    have hb := hg.2.2.1 k (by omega)
    show L_X3_markHits_10 ld gc gaps st (n + 1) (fun i => if i < 1000 then mh_ m k 0 i else f i) (nI k) = L_X3_markHits_10 ld gc gaps st n (fun i => if i < 1000 then mh_ m (k + 1) 0 i else f i) (nI (k + 1))
    rw [L_X3_markHits_10]
    conv => lhs; rw [if_neg (show ¬ gc ≤ nI k by rw [hgc]; exact nle_ (by omega) (by omega) hk)]
    refine lp_S (fun j p => L_X3_markHits_20 ld gc gaps st (L_X3_markHits_10 ld gc gaps st n) j (fun i => if i < 1000 then mh_ m k p i else f i) (nI k) (nI p)) (m (1 + k)).toNat _ ?_ ?_ (m (1 + k)).toNat 0 fu_ (by omega) (fu_lt (by omega))
    · intro j p hp
      show L_X3_markHits_20 ld gc gaps st (L_X3_markHits_10 ld gc gaps st n) (j + 1) (fun i => if i < 1000 then mh_ m k p i else f i) (nI k) (nI p) = L_X3_markHits_20 ld gc gaps st (L_X3_markHits_10 ld gc gaps st n) j (fun i => if i < 1000 then mh_ m k (p + 1) i else f i) (nI k) (nI (p + 1))
      rw [L_X3_markHits_20, gN_ (by omega) (by decide), nI_clamp (by omega), hG.2 k (by omega), iN (by omega), if_neg (nle_ (by omega) (by omega) hp), ev_isEcho hg hw ht hS hL hk (by omega), bs_, ib_, nI_s, mh_s hg hk]
      by_cases c : eo_ m k p = true
      · rw [if_pos c, ev_markEcho hg hw hG hS _ hk (by omega), bs_, on_if h2, if_pos c]
      · rw [if_neg c, if_neg c]
    · intro j
      show L_X3_markHits_20 ld gc gaps st (L_X3_markHits_10 ld gc gaps st n) (j + 1) (fun i => if i < 1000 then mh_ m k (m (1 + k)).toNat i else f i) (nI k) (nI (m (1 + k)).toNat) = _
      rw [L_X3_markHits_20, gN_ (by omega) (by decide), nI_clamp (by omega), hG.2 k (by omega), iN (by omega), if_pos (yle_ (by omega) (by omega) (Nat.le_refl _)), nI_s, mh_k hg hk]
  · intro n
    show L_X3_markHits_10 ld gc gaps st (n + 1) _ (nI (nG m)) = _
    rw [L_X3_markHits_10, hgc, if_pos (yle_ (by omega) (by omega) (Nat.le_refl _))]
theorem mh_e {m : Nat → Int} {i : Nat} (h : i < nL m) : mh_ m (nG m) 0 i = nI (hb_ m i) := by
  unfold mh_ hb_
  rw [if_pos h, bt_n (P := fun j => eo_ m j (pl_ m i j) && decide (j < nG m ∨ pl_ m i j < 0)) (show (eo_ m (nG m) (pl_ m i (nG m)) && decide (nG m < nG m ∨ pl_ m i (nG m) < 0)) = false by rw [decide_eq_false (by omega), Bool.and_false])]
  congr 1
  refine bt_cong (fun j hj => ?_)
  rw [decide_eq_true (show j < nG m ∨ _ from Or.inl hj), Bool.and_true]
/-- hitBits as markHits leaves it -/
def tH (m : Nat → Int) (hB : Nat → Int32) : Prop := ∀ i : Nat, i < nL m → hB i = nI (hb_ m i)
theorem tH_mh {m : Nat → Int} (hw : WS m) (f : Nat → Int32) : tH m (fun i => if i < 1000 then mh_ m (nG m) 0 i else f i) := by
  intro i hi
  obtain ⟨h9, h1, h2⟩ := nL_c hw
  show (if i < 1000 then mh_ m (nG m) 0 i else f i) = _
  rw [if_pos (by omega), mh_e hi]
/-- a number that is found, and is no range where ghosts alone are asked for -/
def fo_ (m : Nat → Int) (gh : Bool) (x : Int) : Bool := decide (m 10 ≤ (pc_ (hb_ m x) : Int)) && !(gh && ir_ m x)
theorem hb_32 {m : Nat → Int} (hg : WG m) (x : Int) : hb_ m x < 32 := bt_32 (nG_c hg).2
theorem pc_le (n : Nat) : pc_ n ≤ 5 := ct_le _ _ _
theorem ev_isListed {m : Nat → Int} {gc : Int32} {gaps st hB : Nat → Int32} {tc : Int32} {sp ve sr : Nat → Int32} (hg : WG m) (hw : WS m) (ht : WT m) (hS : cS m st) (hT : cT m tc sp ve sr) (hH : tH m hB) {i : Nat} (hi : i < nL m) (z : Int32) :
    F_X3_isListed hB tc st sp (nI i) z = some (bI (fo_ m (decide (¬ z = 0)) i)) := by
  obtain ⟨h9, h1, h2⟩ := nL_c hw
  obtain ⟨-, -, -, -, h10, -⟩ := id hw
  have hp := pc_le (hb_ m i)
  unfold F_X3_isListed fo_
  rw [gN_ (by omega) (by decide), nI_clamp (by omega), hH i hi, ev_bitCount _ (hb_32 hg _), bs_, show st 4 = iI (m 10) from hS 4 (by decide), iI_nI (pc_ _), if_e (iI_lt (by omega) (by omega))]
  by_cases c : (pc_ (hb_ m i) : Int) < m 10
  · rw [if_pos c, decide_eq_false (by omega)]; rfl
  · rw [if_neg c, decide_eq_true (show m 10 ≤ (pc_ (hb_ m i) : Int) by omega)]
    by_cases cz : z = 0
    · rw [if_pos cz, decide_eq_false (fun h => h cz)]; rfl
    · rw [if_neg cz, iI_nI i, ev_isRange ht hT (by omega), bs_, ib_, decide_eq_true cz]
      cases ir_ m (i : Int) <;> rfl
theorem ev_isFound {m : Nat → Int} {all ld : Nat → Int32} (hg : WG m) (hw : WS m) (ht : WT m) (hA : rA m all) (hL : tL m ld) {x : Int} (hx : 0 ≤ x ∧ x ≤ 9999) :
    F_X11_isFound all ld (iI x) = some (bI (decide (x < m 9) && fo_ m false x)) := by
  obtain ⟨h9, h1, h2⟩ := nL_c hw
  obtain ⟨-, -, -, -, h10, -⟩ := id hw
  have hp := pc_le (hb_ m x)
  unfold F_X11_isFound fo_
  rw [hA 9 (by decide), if_e (iI_le (by omega) (by omega))]
  by_cases c : m 9 ≤ x
  · rw [if_pos c, decide_eq_false (by omega)]; rfl
  · rw [if_neg c, ev_hitBits hg hw ht hA hL hx, bs_, ev_ones (hb_32 hg _), bs_, hA 10 (by decide), iI_nI (pc_ _), if_e (iI_lt (by omega) (by omega)), decide_eq_true (show x < m 9 by omega)]
    by_cases d : (pc_ (hb_ m x) : Int) < m 10
    · rw [if_pos d, decide_eq_false (by omega)]; rfl
    · rw [if_neg d, decide_eq_true (by omega)]; rfl
theorem ev_foundMany {m : Nat → Int} {all ld : Nat → Int32} (hg : WG m) (hw : WS m) (ht : WT m) (hA : rA m all) (hL : tL m ld) (z : Int32) :
    F_X11_foundMany all ld z = some (nI (ct_ (fun i => fo_ m (decide (¬ z = 0)) i) 0 (nL m))) := by
  obtain ⟨h9, h1, h2⟩ := nL_c hw
  have h := lp_ct (P := fun i => fo_ m (decide (¬ z = 0)) i) (N := nL m) (fun n x k => L_X11_foundMany_4 all ld n z x k) some ?_ ?_ (nL m) 0 fu_ 0 (by omega) (fu_lt (by omega))
  · rw [Nat.zero_add] at h
    exact h
  · intro n x k hk
    show L_X11_foundMany_4 all ld (n + 1) z x (nI k) = _
    rw [L_X11_foundMany_4, hA 9 (by decide), h9, ← iI_nI, if_neg (nle_ (by omega) (by omega) hk), iI_nI k, ev_isFound hg hw ht hA hL (by omega), bs_, ib_, decide_eq_true (show (k : Int) < m 9 by omega), Bool.true_and, ev_risRange ht hA (by omega), bs_, ib_, ← iI_nI, nI_s, Int32.add_zero]
    unfold fo_
    cases decide (m 10 ≤ (pc_ (hb_ m (k : Int)) : Int)) with
    | false => rfl
    | true =>
      by_cases cz : z = 0
      · rw [if_pos cz, decide_eq_false (fun h => h cz)]
      · rw [if_neg cz, decide_eq_true cz]
        cases ir_ m (k : Int) <;> rfl
  · intro n x
    show L_X11_foundMany_4 all ld (n + 1) z x (nI (nL m)) = some x
    rw [L_X11_foundMany_4, hA 9 (by decide), h9, ← iI_nI, if_pos (yle_ (by omega) (by omega) (Nat.le_refl _))]
theorem ev_countFound {m : Nat → Int} {gc : Int32} {gaps st ld : Nat → Int32} {tc : Int32} {sp ve sr : Nat → Int32} (hg : WG m) (hw : WS m) (ht : WT m) (hG : cG m gc gaps) (hS : cS m st) (hT : cT m tc sp ve sr) (hL : tL m ld) (f : Nat → Int32) (z : Int32) :
    ∃ g, F_X3_countFound ld f gc tc gaps st sp z = some (nI (ct_ (fun i => fo_ m (decide (¬ z = 0)) i) 0 (nL m)), g) := by
  obtain ⟨h9, h1, h2⟩ := nL_c hw
  have hst : st 3 = nI (nL m) := by rw [show st 3 = iI (m 9) from hS 3 (by decide), h9, iI_nI]
  unfold F_X3_countFound
  rw [ev_markHits hg hw ht hG hS hL, bs_]
  have hH := tH_mh hw f
  have h := lp_ct (P := fun i => fo_ m (decide (¬ z = 0)) i) (N := nL m) (fun n x k => L_X3_countFound_10 ld gc tc gaps st sp n (fun i => if i < 1000 then mh_ m (nG m) 0 i else f i) z x k) (fun x => some (x, fun i => if i < 1000 then mh_ m (nG m) 0 i else f i)) ?_ ?_ (nL m) 0 fu_ 0 (by omega) (fu_lt (by omega))
  · rw [Nat.zero_add] at h
    exact ⟨_, h⟩
  · intro n x k hk
    show L_X3_countFound_10 ld gc tc gaps st sp (n + 1) _ z x (nI k) = _
    rw [L_X3_countFound_10, hst, if_neg (nle_ (by omega) (by omega) hk), ev_isListed (gc := gc) (gaps := gaps) hg hw ht hS hT hH hk, bs_, ib_, nI_s]
  · intro n x
    show L_X3_countFound_10 ld gc tc gaps st sp (n + 1) _ z x (nI (nL m)) = _
    rw [L_X3_countFound_10, hst, if_pos (yle_ (by omega) (by omega) (Nat.le_refl _))]
/-- found(k, ghosts) -/
def qf_ (m : Nat → Int) (x z : Int32) : Int32 := if x < 0 then -1 else kt_ (fun i => fo_ m (decide (¬ z = 0)) i) 0 (nL m) x.toNatClampNeg
theorem ev_found {m : Nat → Int} {gc : Int32} {gaps st : Nat → Int32} {tc : Int32} {sp ve sr : Nat → Int32} (hg : WG m) (hw : WS m) (ht : WT m) (hG : cG m gc gaps) (hS : cS m st) (hT : cT m tc sp ve sr) (f1 f2 f3 : Nat → Int32) (x z : Int32) :
    ∃ g1 g2 g3, F_X10_found gc tc gaps st sp ve sr f1 f2 f3 x z = some (qf_ m x z, g1, g2, g3) := by
  obtain ⟨h9, h1, h2⟩ := nL_c hw
  have hst : st 3 = nI (nL m) := by rw [show st 3 = iI (m 9) from hS 3 (by decide), h9, iI_nI]
  unfold F_X10_found qf_
  by_cases hx : x < 0
  · rw [if_pos hx, if_neg (by rw [Int32.not_le]; exact hx)]
    exact ⟨_, _, _, rfl⟩
  · rw [if_neg hx, if_pos (by rw [Int32.not_lt] at hx; exact hx), ev_listen hg hw ht hG hS hT, bs_]
    obtain ⟨j, hj, rfl⟩ := nI_of hx
    rw [nI_clamp hj]
    unfold F_X3_foundAt
    rw [ev_markHits hg hw ht hG hS (tL_ls m f2), bs_]
    have hH := tH_mh hw f3
    have h := lp_kt (P := fun i => fo_ m (decide (¬ z = 0)) i) (N := nL m) (fun n x k => L_X3_foundAt_11 (lsL m (nG m) f2) gc tc gaps st sp n (fun i => if i < 1000 then mh_ m (nG m) 0 i else f3 i) z x k) (fun x => some (x, fun i => if i < 1000 then mh_ m (nG m) 0 i else f3 i)) ?_ ?_ (nL m) 0 fu_ j (by omega) (fu_lt (by omega)) hj
    · rw [show L_X3_foundAt_11 (lsL m (nG m) f2) gc tc gaps st sp fu_ (fun i => if i < 1000 then mh_ m (nG m) 0 i else f3 i) z (nI j) 0 = _ from h, bs_]
      exact ⟨_, _, _, rfl⟩
    · intro n x k hk
      show L_X3_foundAt_11 (lsL m (nG m) f2) gc tc gaps st sp (n + 1) _ z x (nI k) = _
      rw [L_X3_foundAt_11, hst, if_neg (nle_ (by omega) (by omega) hk), ev_isListed (gc := gc) (gaps := gaps) hg hw ht hS hT hH hk, bs_, ib_, nI_s]
    · intro n x
      show L_X3_foundAt_11 (lsL m (nG m) f2) gc tc gaps st sp (n + 1) _ z x (nI (nL m)) = _
      rw [L_X3_foundAt_11, hst, if_pos (yle_ (by omega) (by omega) (Nat.le_refl _))]
theorem ev_rfound {m : Nat → Int} {all : Nat → Int32} (hg : WG m) (hw : WS m) (ht : WT m) (hA : rA m all) (ra : Int32) (f : Nat → Int32) (x z : Int32) : ∃ g, F_X11_found ra all f x z = some (qf_ m x z, 0, g) := by
  obtain ⟨h9, h1, h2⟩ := nL_c hw
  unfold F_X11_found qf_
  rw [ev_laysLoud hg hw ht hA, bs_]
  have hL := tL_ll m f
  have h := lp_ku (P := fun i => fo_ m (decide (¬ z = 0)) i) (N := nL m) (fun n c k => L_X11_found_14 all n 0 (llR m (nG m) 0 f) x z c k) (fun y => some (y, 0, llR m (nG m) 0 f)) x ?_ ?_ (nL m) 0 fu_ 0 (by omega) (fu_lt (by omega)) (by omega) (fun j _ _ => Nat.zero_le j)
  · exact ⟨_, h⟩
  · intro n c k hk
    show L_X11_found_14 all (n + 1) 0 _ x z c (nI k) = _
    rw [L_X11_found_14, hA 9 (by decide), h9, ← iI_nI, if_neg (nle_ (by omega) (by omega) hk), iI_nI k, ev_isFound hg hw ht hA hL (by omega), bs_, ib_, decide_eq_true (show (k : Int) < m 9 by omega), Bool.true_and, ev_risRange ht hA (by omega), bs_, ib_, ← iI_nI, nI_s]
    unfold fo_ J_X11_found_48
    cases decide (m 10 ≤ (pc_ (hb_ m (k : Int)) : Int)) with
    | false => rfl
    | true =>
      rw [nI_s]
      by_cases cz : z = 0
      · rw [if_pos cz, decide_eq_false (fun h => h cz)]
      · rw [if_neg cz, decide_eq_true cz]
        cases ir_ m (k : Int) <;> rfl
  · intro n c
    show L_X11_found_14 all (n + 1) 0 _ x z c (nI (nL m)) = _
    rw [L_X11_found_14, hA 9 (by decide), h9, ← iI_nI, if_pos (yle_ (by omega) (by omega) (Nat.le_refl _))]
/-! ===== END ===== -/
