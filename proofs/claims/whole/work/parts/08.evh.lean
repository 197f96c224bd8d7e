/-! ===== BEGIN the class paints ===== -/
theorem an_1 : ∀ n, n < 32 → ∀ k, k < 5 → nI n &&& (((1 : Int32) <<< (nI k &&& 31)) ^^^ (-1 : Int32)) = nI (n &&& (31 ^^^ 2 ^ k)) := by decide +kernel
theorem an_2 : ∀ k, k < 5 → ∀ j, j < 5 → (31 ^^^ 2 ^ k : Nat).testBit j = !decide (j = k) := by decide +kernel
theorem an_ {Q : Nat → Bool} {n k : Nat} (hn : n ≤ 5) (hk : k < 5) : nI (bt_ Q n) &&& (((1 : Int32) <<< (nI k &&& 31)) ^^^ (-1 : Int32)) = nI (bt_ (fun j => Q j && !decide (j = k)) n) := by
  rw [an_1 _ (bt_32 hn) k hk]
  congr 1
  apply Nat.eq_of_testBit_eq
  intro j
  rw [Nat.testBit_and, bt_bit, bt_bit]
  by_cases h : j < n
  · rw [an_2 k hk j (by omega), decide_eq_true h, Bool.true_and, Bool.true_and]
  · rw [decide_eq_false h]; simp
/-- hitBits, by what is free -/
def cP (m : Nat → Int) (fr : Nat → Nat → Bool) (hB : Nat → Int32) : Prop := ∀ i : Nat, i < nL m → hB i = nI (bt_ (fun k => fr k (pl_ m i k)) (nG m))
def cR (s : Pt) (sh tk : Nat → Int32) : Prop := ∀ i : Nat, i < s.2.1 → sh i = nI (s.2.2.1 i) ∧ tk i = nI (s.2.2.2 i)
theorem ev_takeEcho {m : Nat → Int} {gc : Int32} {gaps st : Nat → Int32} (hg : WG m) (hw : WS m) (hG : cG m gc gaps) (hS : cS m st) (f : Nat → Int32) {k p : Nat} (hk : k < nG m) (hp : (p : Int) < m (1 + k)) :
    F_X3_takeEcho f gaps st (nI k) (nI p) = some (on_ (fun x => x &&& (((1 : Int32) <<< (nI k &&& 31)) ^^^ (-1 : Int32))) (m (1 + k)).toNat p (nL m) (nL m) f) := by
  obtain ⟨hn, h5⟩ := nG_c hg
  obtain ⟨h9, h1, h2⟩ := nL_c hw
  have hb := hg.2.2.1 k (by omega)
  have hst : st 3 = nI (nL m) := by rw [show st 3 = iI (m 9) from hS 3 (by decide), h9, iI_nI]
  unfold F_X3_takeEcho
  rw [gN_ (by omega) (by decide), nI_clamp (by omega), hG.2 k (by omega), show (4 : Int32) = iI 4 from rfl, if_e (iI_lt (by omega) (by omega)), if_neg (by omega), iN (by omega)]
  refine lp_on (fun n f x => L_X3_takeEcho_15 gaps st n f (nI k) (nI (m (1 + k)).toNat) x) _ (m (1 + k)).toNat (nL m) (by omega) h2 some ?_ ?_ f (by omega)
  · intro n f j hj
    show L_X3_takeEcho_15 gaps st (n + 1) f (nI k) (nI (m (1 + k)).toNat) (nI j) = _
    rw [L_X3_takeEcho_15, hst, if_neg (nle_ (by omega) (by omega) hj), gN_ (by omega) (by decide), gN_ (by omega) (by decide), nI_clamp (by omega), nI_add]
  · intro n f j hj hj2
    show L_X3_takeEcho_15 gaps st (n + 1) f (nI k) (nI (m (1 + k)).toNat) (nI j) = _
    rw [L_X3_takeEcho_15, hst, if_pos (yle_ (by omega) (by omega) hj2)]
theorem ev_show {m : Nat → Int} {gc : Int32} {gaps st : Nat → Int32} (hg : WG m) (hw : WS m) (hG : cG m gc gaps) (hS : cS m st) {fr : Nat → Nat → Bool} {hB : Nat → Int32} (hP : cP m fr hB) (sh tk : Nat → Int32) {c x : Nat} (hc : c < 40) (hx : x < nL m) (sz : Int32) :
    ∃ hB2, F_X3_show (nI c) hB sh tk gc gaps st (nI x) sz = some (nI (c + 1), hB2, upd sh c (nI x), upd tk c sz) ∧ cP m (ta_ m fr x) hB2 := by
  obtain ⟨hn, h5⟩ := nG_c hg
  obtain ⟨h9, h91, h92⟩ := nL_c hw
  have hgc : gc = nI (nG m) := by rw [hG.1, hn, iI_nI]
  unfold F_X3_show
  rw [gN_ hc (by decide), gN_ hc (by decide), gN_ (by omega) (by decide), nI_clamp (by omega), nI_clamp (by omega), nI_s, hP x hx]
  have main : ∀ d k n (h : Nat → Int32), k + d = nG m → d < n → (∀ i, i < nL m → h i = nI (bt_ (fun j => fr j (pl_ m i j) && !(decide (j < k) && decide (pl_ m i j = pl_ m x j))) (nG m))) →
      ∃ hB2, L_X3_show_41 gc gaps st n (nI (c + 1)) h (upd sh c (nI x)) (upd tk c sz) (nI x) (nI (bt_ (fun k => fr k (pl_ m x k)) (nG m))) (nI k) = some (nI (c + 1), hB2, upd sh c (nI x), upd tk c sz) ∧ cP m (ta_ m fr x) hB2 := by
    intro d
    induction d with
    | zero =>
      intro k n h e hlt hh
      obtain ⟨n, rfl⟩ : ∃ k, n = k + 1 := ⟨n - 1, by omega⟩
      have : k = nG m := by omega
      subst this
      refine ⟨h, ?_, ?_⟩
      · rw [L_X3_show_41, if_pos (show gc ≤ nI (nG m) by rw [hgc]; exact yle_ (by omega) (by omega) (Nat.le_refl _))]
      · intro i hi
        rw [hh i hi]
        congr 1
        refine bt_cong (fun j hj => ?_)
        rw [decide_eq_true hj, Bool.true_and]
        rfl
    | succ d ih =>
      intro k n h e hlt hh
      obtain ⟨n, rfl⟩ : ∃ k, n = k + 1 := ⟨n - 1, by omega⟩
      have hk : k < nG m := by omega
      have hb := hg.2.2.1 k (by omega)
      obtain ⟨p1, p2, p3⟩ := pl_c hg (x := (x : Int)) hk
      rw [L_X3_show_41, if_neg (show ¬ gc ≤ nI k by rw [hgc]; exact nle_ (by omega) (by omega) hk), if_e (on_3 (bt_32 h5) (by omega)), bt_bit, decide_eq_true hk, Bool.true_and, nI_s]
      -- where nothing changes
      have stay : ∀ i, (pl_ m (i : Int) k = pl_ m x k → fr k (pl_ m i k) = false) → bt_ (fun j => fr j (pl_ m i j) && !(decide (j < k) && decide (pl_ m i j = pl_ m x j))) (nG m) = bt_ (fun j => fr j (pl_ m i j) && !(decide (j < k + 1) && decide (pl_ m i j = pl_ m x j))) (nG m) := by
        intro i hi
        refine bt_cong (fun j hj => ?_)
        rcases Nat.lt_trichotomy j k with q | q | q
        · rw [decide_eq_true q, decide_eq_true (show j < k + 1 by omega)]
        · subst q
          rw [decide_eq_false (show ¬ j < j by omega), decide_eq_true (show j < j + 1 by omega), Bool.false_and, Bool.true_and, Bool.not_false, Bool.and_true]
          by_cases r : pl_ m (i : Int) j = pl_ m x j
          · rw [hi r]; rfl
          · rw [decide_eq_false r, Bool.not_false, Bool.and_true]
        · rw [decide_eq_false (show ¬ j < k by omega), decide_eq_false (show ¬ j < k + 1 by omega)]
      by_cases cb : fr k (pl_ m x k) = true
      · rw [if_neg (fun h => h cb), gN_ (by omega) (by decide), nI_clamp (by omega), hG.2 k (by omega), iI_nI x, ev_rest (by omega) (by omega) (by omega) (by omega), bs_, p1, ← iI_nI, ← iI_nI, ev_takeEcho hg hw hG hS _ hk p3, bs_]
        refine ih (k + 1) n _ (by omega) (by omega) (fun i hi => ?_)
        unfold on_
        by_cases r : i % (m (1 + k)).toNat = pl_ m x k
        · rw [if_pos ⟨hi, hi, r⟩, hh i hi]
          show nI _ &&& _ = _
          rw [an_ h5 (by omega)]
          congr 1
          have hr : pl_ m (i : Int) k = pl_ m x k := by rw [pl_N hg hk, r]
          refine bt_cong (fun j hj => ?_)
          rcases Nat.lt_trichotomy j k with q | q | q
          · rw [decide_eq_true q, decide_eq_true (show j < k + 1 by omega), decide_eq_false (show ¬ j = k by omega), Bool.not_false, Bool.and_true]
          · subst q
            rw [decide_eq_true (show j = j from rfl), decide_eq_true (show j < j + 1 by omega), decide_eq_true hr]
            simp
          · rw [decide_eq_false (show ¬ j < k by omega), decide_eq_false (show ¬ j < k + 1 by omega), decide_eq_false (show ¬ j = k by omega), Bool.not_false, Bool.and_true]
        · rw [if_neg (fun h => r h.2.2), hh i hi, stay i (fun h => absurd (by rw [← pl_N hg hk]; exact h) r)]
      · rw [if_pos cb]
        refine ih (k + 1) n _ (by omega) (by omega) (fun i hi => ?_)
        rw [hh i hi, stay i (fun h => by rw [h]; simpa using cb)]
  refine main (nG m) 0 fu_ hB (by omega) (fu_lt (by omega)) (fun i hi => ?_)
  rw [hP i hi]
  congr 1
  refine bt_cong (fun j hj => ?_)
  rw [decide_eq_false (by omega)]
  simp
theorem cn_0 {m : Nat → Int} (fr : Nat → Nat → Bool) (x : Nat) : cn_ m (ta_ m fr x) x = 0 := by
  unfold cn_
  have : ∀ d a, ct_ (fun k => ta_ m fr x k (pl_ m x k)) a d = 0 := by
    intro d
    induction d with
    | zero => intro a; rfl
    | succ d ih =>
      intro a
      unfold ct_
      rw [ih]
      unfold ta_
      rw [decide_eq_true rfl]
      simp
  exact this _ _
def Rs_ (t : Pt) (o : Option (Int32 × (Nat → Int32) × (Nat → Int32) × (Nat → Int32))) : Prop := ∃ hB sh tk, o = some (nI t.2.1, hB, sh, tk) ∧ cR t sh tk
theorem cR_s {m : Nat → Int} {s : Pt} {sh tk : Nat → Int32} (h : cR s sh tk) (x : Nat) : cR (tk_ m s x) (upd sh s.2.1 (nI x)) (upd tk s.2.1 (nI (cn_ m s.1 x))) := by
  intro i hi
  have hi : i < s.2.1 + 1 := hi
  show upd sh s.2.1 (nI x) i = nI (un_ s.2.2.1 s.2.1 x i) ∧ upd tk s.2.1 (nI (cn_ m s.1 x)) i = nI (un_ s.2.2.2 s.2.1 (cn_ m s.1 x) i)
  unfold un_
  rw [upd_at, upd_at]
  by_cases c : i = s.2.1
  · rw [if_pos c, if_pos c, if_pos c, if_pos c]; exact ⟨rfl, rfl⟩
  · rw [if_neg c, if_neg c, if_neg c, if_neg c]
    exact h i (by omega)
theorem ev_paint {m : Nat → Int} {gc : Int32} {gaps st ld : Nat → Int32} (hg : WG m) (hw : WS m) (ht : WT m) (hG : cG m gc gaps) (hS : cS m st) (hL : tL m ld) (sc : Int32) (f1 f2 f3 : Nat → Int32) :
    Rs_ (pt_ m) (F_X3_paint sc ld f1 f2 f3 gc gaps st) := by
  obtain ⟨hn, h5⟩ := nG_c hg
  obtain ⟨h9, h91, h92⟩ := nL_c hw
  obtain ⟨-, -, -, -, h10, -⟩ := id hw
  have hgc : gc = nI (nG m) := by rw [hG.1, hn, iI_nI]
  have hst : st 3 = nI (nL m) := by rw [show st 3 = iI (m 9) from hS 3 (by decide), h9, iI_nI]
  have hs4 : st 4 = nI (m 10).toNat := by rw [show st 4 = iI (m 10) from hS 4 (by decide), iN (by omega)]
  have inner : ∀ (kk : Int32 → (Nat → Int32) → (Nat → Int32) → (Nat → Int32) → Int32 → Option (Int32 × (Nat → Int32) × (Nat → Int32) × (Nat → Int32))) (size : Nat), (m 10).toNat ≤ size → size ≤ 5 →
      (∀ (s : Pt) (hB sh tk : Nat → Int32) (f : Nat), cP m s.1 hB → cR s sh tk → s.2.1 + to_ s.1 (nG m) ≤ 40 → to_ s.1 (nG m) < f → (∀ j, j < nL m → cn_ m s.1 j < size) → Rs_ (rp_ m f s) (kk (nI s.2.1) hB sh tk (nI size + (-1 : Int32)))) →
      ∀ d i n (s : Pt) (hB sh tk : Nat → Int32) (f : Nat), i + d = nL m → d < n → cP m s.1 hB → cR s sh tk → s.2.1 + to_ s.1 (nG m) ≤ 40 → to_ s.1 (nG m) < f → (∀ j, j < nL m → cn_ m s.1 j ≤ size) → (∀ j, j < i → cn_ m s.1 j < size) →
        Rs_ (rp_ m f s) (L_X3_paint_27 ld gc gaps st kk n (nI s.2.1) hB sh tk (nI size) (nI i)) := by
    intro kk size hsz hsz5 hk d
    induction d with
    | zero =>
      intro i n s hB sh tk f e hlt hP hR hb hf h1 h2
      obtain ⟨n, rfl⟩ : ∃ k, n = k + 1 := ⟨n - 1, by omega⟩
      have : i = nL m := by omega
      subst this
      rw [L_X3_paint_27, hst, if_pos (yle_ (by omega) (by omega) (Nat.le_refl _))]
      exact hk s hB sh tk f hP hR hb hf h2
    | succ d ih =>
      intro i n s hB sh tk f e hlt hP hR hb hf h1 h2
      obtain ⟨n, rfl⟩ : ∃ k, n = k + 1 := ⟨n - 1, by omega⟩
      have hi : i < nL m := by omega
      have hcn : pc_ (bt_ (fun k => s.1 k (pl_ m i k)) (nG m)) = cn_ m s.1 i := pc_bt h5
      have hc1 := h1 i hi
      rw [L_X3_paint_27, hst, if_neg (nle_ (by omega) (by omega) hi), gN_ (by omega) (by decide), nI_clamp (by omega), hP i hi, ev_bitCount _ (bt_32 h5), hcn, bs_, if_e (show (nI (cn_ m s.1 i) = nI size) = (cn_ m s.1 i = size) by rw [iI_nI, iI_nI size, iI_eq (by omega) (by omega)]; apply propext; omega), nI_s]
      by_cases c : cn_ m s.1 i = size
      · have hto := to_ta hg s.1 i (nG m) (Nat.le_refl _)
        have hcd : ct_ (fun k => s.1 k (pl_ m i k)) 0 (nG m) = cn_ m s.1 i := rfl
        rw [if_pos c, if_neg (show ¬ (40 : Int32) ≤ nI s.2.1 from nle_ (a := 40) (by decide) (by omega) (by omega))]
        obtain ⟨hB2, e1, e2⟩ := ev_show hg hw hG hS hP sh tk (c := s.2.1) (x := i) (by omega) hi (nI size)
        rw [e1, bs_]
        have hbe : be_ m s.1 (nL m) = some i := be_is hi (by omega) (fun j hj => by rw [c]; exact h1 j hj) (fun j hj => by rw [c]; exact h2 j hj)
        obtain ⟨f, rfl⟩ : ∃ k, f = k + 1 := ⟨f - 1, by omega⟩
        rw [rp_s hbe]
        have hR2 := cR_s (m := m) hR i
        rw [c] at hR2
        refine ih (i + 1) n (tk_ m s i) hB2 _ _ f (by omega) (by omega) e2 hR2 ?_ ?_ (fun j hj => ?_) (fun j hj => ?_)
        · show s.2.1 + 1 + to_ (ta_ m s.1 i) (nG m) ≤ 40
          omega
        · show to_ (ta_ m s.1 i) (nG m) < f
          omega
        · exact Nat.le_trans (cn_ta s.1 i j) (h1 j hj)
        · show cn_ m (ta_ m s.1 i) j < size
          rcases Nat.eq_or_lt_of_le (show j ≤ i by omega) with q | q
          · rw [q, cn_0]; omega
          · have := cn_ta (m := m) s.1 i j
            have := h2 j q
            omega
      · rw [if_neg c]
        refine ih (i + 1) n s hB sh tk f (by omega) (by omega) hP hR hb hf h1 (fun j hj => ?_)
        rcases Nat.eq_or_lt_of_le (show j ≤ i by omega) with q | q
        · rw [q]; omega
        · exact h2 j q
  have outer : ∀ size n (s : Pt) (hB sh tk : Nat → Int32) (f : Nat), size ≤ 5 → size < n → cP m s.1 hB → cR s sh tk → s.2.1 + to_ s.1 (nG m) ≤ 40 → to_ s.1 (nG m) < f → (∀ j, j < nL m → cn_ m s.1 j ≤ size) →
      Rs_ (rp_ m f s) (L_X3_paint_15 ld gc gaps st n (nI s.2.1) hB sh tk (nI size)) := by
    intro size
    induction size with
    | zero =>
      intro n s hB sh tk f h0 hlt hP hR hb hf h1
      obtain ⟨n, rfl⟩ : ∃ k, n = k + 1 := ⟨n - 1, by omega⟩
      obtain ⟨f, rfl⟩ : ∃ k, f = k + 1 := ⟨f - 1, by omega⟩
      rw [L_X3_paint_15, hs4, if_pos (ylt_ (by omega) (by omega) (by omega))]
      have hbe : be_ m s.1 (nL m) = none := by
        cases hbe : be_ m s.1 (nL m) with
        | none => rfl
        | some b =>
          obtain ⟨b1, b2, -⟩ := be_s hbe
          have := h1 b b1
          omega
      rw [rp_n hbe]
      exact ⟨_, _, _, rfl, hR⟩
    | succ size ih =>
      intro n s hB sh tk f h0 hlt hP hR hb hf h1
      obtain ⟨n, rfl⟩ : ∃ k, n = k + 1 := ⟨n - 1, by omega⟩
      rw [L_X3_paint_15, hs4, if_e (nI_lt2 (by omega) (by omega))]
      by_cases c : size + 1 < (m 10).toNat
      · obtain ⟨f, rfl⟩ : ∃ k, f = k + 1 := ⟨f - 1, by omega⟩
        rw [if_pos c]
        have hbe : be_ m s.1 (nL m) = none := by
          cases hbe : be_ m s.1 (nL m) with
          | none => rfl
          | some b =>
            obtain ⟨b1, b2, -⟩ := be_s hbe
            have := h1 b b1
            omega
        rw [rp_n hbe]
        exact ⟨_, _, _, rfl, hR⟩
      · rw [if_neg c]
        refine inner _ (size + 1) (by omega) h0 ?_ (nL m) 0 fu_ s hB sh tk f (by omega) (fu_lt (by omega)) hP hR hb hf h1 (fun j hj => by omega)
        intro s hB sh tk f hP hR hb hf h1
        rw [pk_m1 size]
        exact ih n s hB sh tk f (by omega) (by omega) hP hR hb hf (fun j hj => by have := h1 j hj; omega)
  unfold F_X3_paint
  rw [ev_markHits hg hw ht hG hS hL, bs_, hgc]
  have hH := tH_mh hw f1
  have hto := to_b hw ht (nG m)
  have := outer (nG m) fu_ (eo_ m, 0, fun _ => 0, fun _ => 0) (fun i => if i < 1000 then mh_ m (nG m) 0 i else f1 i) f2 f3 41 h5 (fu_lt (by omega)) hH (fun i hi => absurd hi (Nat.not_lt_zero i)) (by show 0 + to_ (eo_ m) (nG m) ≤ 40; omega) (by show to_ (eo_ m) (nG m) < 41; omega) (fun j _ => ct_le _ _ _)
  rw [hgc] at this
  exact this
/-! ===== END ===== -/
