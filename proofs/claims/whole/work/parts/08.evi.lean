/-! ===== BEGIN the reference lays the picture; picture ===== -/
def tF (m : Nat → Int) (fr : Nat → Nat → Bool) (f : Nat → Int32) : Prop := ∀ k p : Nat, k < nG m → p < 60 → f (60 * k + p) = bI (fr k p)
theorem ev_freeHits {m : Nat → Int} {all f : Nat → Int32} {fr : Nat → Nat → Bool} (hg : WG m) (hA : rA m all) (hF : tF m fr f) {x : Nat} (hx : x ≤ 9999) : F_X11_freeHits all f (nI x) = some (nI (cn_ m fr x)) := by
  obtain ⟨hn, h5⟩ := nG_c hg
  have hgc : all 0 = nI (nG m) := by rw [hA 0 (by decide), hn, iI_nI]
  have h := lp_ct (P := fun k => fr k (pl_ m x k)) (N := nG m) (fun n y k => L_X11_freeHits_4 all f n (nI x) y k) some ?_ ?_ (nG m) 0 fu_ 0 (by omega) (fu_lt (by omega))
  · rw [Nat.zero_add] at h
    exact h
  · intro n y k hk
    have hb := hg.2.2.1 k (by omega)
    obtain ⟨p1, p2, p3⟩ := pl_c hg (x := (x : Int)) hk
    show L_X11_freeHits_4 all f (n + 1) (nI x) y (nI k) = _
    rw [L_X11_freeHits_4, hgc, if_neg (nle_ (by omega) (by omega) hk), ev_gapAt hA (by omega), bs_, gd_ok (ne_ok (by omega) (by omega)), iI_nI x, iI_mod (by omega) (by omega) (by omega) (by omega), p1, ← iI_nI, ← iI_nI, show (60 : Int32) = nI 60 from rfl, pk_mul, nI_add, gN_ (by omega) (by decide), nI_clamp (by omega), hF k _ hk p2, ib_, Int32.add_zero, nI_s]
  · intro n y
    show L_X11_freeHits_4 all f (n + 1) (nI x) y (nI (nG m)) = some y
    rw [L_X11_freeHits_4, hgc, if_pos (yle_ (by omega) (by omega) (Nat.le_refl _))]
def bo_ (o : Option Nat) : Int32 := match o with
  | none => -1
  | some v => nI v
def Rr_ (t : Pt) (o : Option (Int32 × (Nat → Int32) × (Nat → Int32) × (Nat → Int32) × (Nat → Int32))) : Prop := ∃ ld pi tk f, o = some (nI t.2.1, ld, pi, tk, f) ∧ cR t pi tk
theorem ev_laysPicture {m : Nat → Int} {all : Nat → Int32} (hg : WG m) (hw : WS m) (ht : WT m) (hA : rA m all) (pc : Int32) (f1 f2 f3 f4 : Nat → Int32) :
    Rr_ (pt_ m) (F_X11_laysPicture pc all f1 f2 f3 f4) := by
  obtain ⟨hn, h5⟩ := nG_c hg
  obtain ⟨h9, h91, h92⟩ := nL_c hw
  obtain ⟨-, -, -, -, h10, -, h12⟩ := id hw
  obtain ⟨hn2, h8⟩ := nT_c ht
  have hgc : all 0 = nI (nG m) := by rw [hA 0 (by decide), hn, iI_nI]
  have hlm : all 9 = nI (nL m) := by rw [hA 9 (by decide), h9, iI_nI]
  have hnd : all 10 = nI (m 10).toNat := by rw [hA 10 (by decide), iN (by omega)]
  have hL := tL_ll m f1
  unfold F_X11_laysPicture
  rw [ev_laysLoud hg hw ht hA, bs_]
  generalize llR m (nG m) 0 f1 = ld at hL
  have pick : ∀ (kk : Int32 → (Nat → Int32) → (Nat → Int32) → (Nat → Int32) → (Nat → Int32) → Int32 → Option (Int32 × (Nat → Int32) × (Nat → Int32) × (Nat → Int32) × (Nat → Int32))) (c : Int32) (pi tk f : Nat → Int32) (fr : Nat → Nat → Bool), tF m fr f →
      L_X11_laysPicture_62 all kk fu_ c ld pi tk f (-1) 0 = J_X11_laysPicture_114 all kk c ld pi tk f (bo_ (be_ m fr (nL m))) := by
    intro kk c pi tk f fr hF
    refine lp_S (fun n i => L_X11_laysPicture_62 all kk n c ld pi tk f (bo_ (be_ m fr i)) (nI i)) (nL m) _ ?_ ?_ (nL m) 0 fu_ (by omega) (fu_lt (by omega))
    · intro n i hi
      have hc5 : cn_ m fr i ≤ nG m := ct_le _ _ _
      show L_X11_laysPicture_62 all kk (n + 1) c ld pi tk f (bo_ (be_ m fr i)) (nI i) = L_X11_laysPicture_62 all kk n c ld pi tk f (bo_ (be_ m fr (i + 1))) (nI (i + 1))
      rw [L_X11_laysPicture_62, hlm, if_neg (nle_ (by omega) (by omega) hi), ev_freeHits hg hA hF (by omega), bs_, hnd, if_e (nI_lt2 (by omega) (by omega)), nI_s]
      conv => rhs; unfold be_
      by_cases c1 : cn_ m fr i < (m 10).toNat
      · rw [if_pos c1, if_pos (show (cn_ m fr i : Int) < m 10 by omega)]
      · rw [if_neg c1, if_neg (show ¬ (cn_ m fr i : Int) < m 10 by omega)]
        cases hb : be_ m fr i with
        | none => rfl
        | some j =>
          obtain ⟨j1, -⟩ := be_s hb
          have hj5 : cn_ m fr j ≤ nG m := ct_le _ _ _
          show (if nI j = -1 then _ else _) = _
          rw [if_neg (show ¬ nI j = -1 by rw [iI_nI, show (-1 : Int32) = iI (-1) from rfl, iI_eq (by omega) (by omega)]; omega), bs_, show bo_ (some j) = nI j from rfl, ev_freeHits hg hA hF (by omega), bs_, if_e (nI_le2 (by omega) (by omega))]
          by_cases c2 : cn_ m fr i ≤ cn_ m fr j
          · rw [if_pos c2]
            show _ = L_X11_laysPicture_62 all kk n c ld pi tk f (bo_ (if cn_ m fr i ≤ cn_ m fr j then some j else some i)) (nI (i + 1))
            rw [if_pos c2]; rfl
          · rw [if_neg c2]
            show _ = L_X11_laysPicture_62 all kk n c ld pi tk f (bo_ (if cn_ m fr i ≤ cn_ m fr j then some j else some i)) (nI (i + 1))
            rw [if_neg c2]; rfl
    · intro n
      show L_X11_laysPicture_62 all kk (n + 1) c ld pi tk f (bo_ (be_ m fr (nL m))) (nI (nL m)) = _
      rw [L_X11_laysPicture_62, hlm, if_pos (yle_ (by omega) (by omega) (Nat.le_refl _))]
  have take : ∀ (kk : Int32 → (Nat → Int32) → (Nat → Int32) → (Nat → Int32) → (Nat → Int32) → Int32 → Option (Int32 × (Nat → Int32) × (Nat → Int32) × (Nat → Int32) × (Nat → Int32))) (c : Int32) (pi tk f : Nat → Int32) (fr : Nat → Nat → Bool) (x : Nat), x < nL m → tF m fr f →
      ∃ f', L_X11_laysPicture_155 all kk fu_ c ld pi tk f (nI x) 0 = kk c ld pi tk f' (nI x) ∧ tF m (ta_ m fr x) f' := by
    intro kk c pi tk f fr x hx hF
    have main : ∀ d k n (f : Nat → Int32), k + d = nG m → d < n → tF m (fun j p => fr j p && !(decide (j < k) && decide (p = pl_ m x j))) f →
        ∃ f', L_X11_laysPicture_155 all kk n c ld pi tk f (nI x) (nI k) = kk c ld pi tk f' (nI x) ∧ tF m (ta_ m fr x) f' := by
      intro d
      induction d with
      | zero =>
        intro k n f e hlt hF
        obtain ⟨n, rfl⟩ : ∃ k, n = k + 1 := ⟨n - 1, by omega⟩
        have : k = nG m := by omega
        subst this
        refine ⟨f, ?_, ?_⟩
        · rw [L_X11_laysPicture_155, hgc, if_pos (yle_ (by omega) (by omega) (Nat.le_refl _))]
        · intro j p hj hp
          rw [hF j p hj hp]
          dsimp only
          rw [decide_eq_true hj, Bool.true_and]
          rfl
      | succ d ih =>
        intro k n f e hlt hF
        obtain ⟨n, rfl⟩ : ∃ k, n = k + 1 := ⟨n - 1, by omega⟩
        have hk : k < nG m := by omega
        have hb := hg.2.2.1 k (by omega)
        obtain ⟨p1, p2, p3⟩ := pl_c hg (x := (x : Int)) hk
        rw [L_X11_laysPicture_155, hgc, if_neg (nle_ (by omega) (by omega) hk), ev_gapAt hA (by omega), bs_, gd_ok (ne_ok (by omega) (by omega)), iI_nI x, iI_mod (by omega) (by omega) (by omega) (by omega), p1, ← iI_nI, ← iI_nI, show (60 : Int32) = nI 60 from rfl, pk_mul, nI_add, gN_ (by omega) (by decide), nI_clamp (by omega), nI_s]
        refine ih (k + 1) n _ (by omega) (by omega) (fun j p hj hp => ?_)
        rw [upd_at]
        by_cases q : 60 * j + p = 60 * k + pl_ m x k
        · have q1 : j = k := by omega
          have q2 : p = pl_ m x k := by omega
          subst q1
          rw [if_pos q]
          dsimp only
          rw [decide_eq_true (show j < j + 1 by omega), decide_eq_true q2, Bool.true_and, Bool.not_true, Bool.and_false]
          decide
        · rw [if_neg q, hF j p hj hp]
          congr 1
          dsimp only
          rcases Nat.lt_trichotomy j k with r | r | r
          · rw [decide_eq_true r, decide_eq_true (show j < k + 1 by omega)]
          · subst r
            rw [decide_eq_false (show ¬ p = pl_ m x j by omega), Bool.and_false, Bool.and_false]
          · rw [decide_eq_false (show ¬ j < k by omega), decide_eq_false (show ¬ j < k + 1 by omega)]
    refine main (nG m) 0 fu_ f (by omega) (fu_lt (by omega)) (fun j p hj hp => ?_)
    rw [hF j p hj hp]
    dsimp only
    rw [decide_eq_false (show ¬ j < 0 by omega), Bool.false_and, Bool.not_false, Bool.and_true]
  have loop : ∀ f n (s : Pt) (pi tk fw : Nat → Int32) (x : Int32), ¬ x = -1 → to_ s.1 (nG m) < f → f < n → tF m s.1 fw → cR s pi tk → s.2.1 + to_ s.1 (nG m) ≤ 40 →
      Rr_ (rp_ m f s) (L_X11_laysPicture_53 all n (nI s.2.1) ld pi tk fw x) := by
    intro f
    induction f with
    | zero => intro n s pi tk fw x hx h1; exact absurd h1 (Nat.not_lt_zero _)
    | succ f ih =>
      intro n s pi tk fw x hx h1 h2 hF hR hb
      obtain ⟨n, rfl⟩ : ∃ k, n = k + 1 := ⟨n - 1, by omega⟩
      rw [L_X11_laysPicture_53, if_neg hx, pick _ _ _ _ _ _ hF]
      unfold J_X11_laysPicture_114
      cases hbe : be_ m s.1 (nL m) with
      | none =>
        rw [if_pos (show bo_ none = -1 from rfl), rp_n hbe]
        obtain ⟨n, rfl⟩ : ∃ k, n = k + 1 := ⟨n - 1, by omega⟩
        rw [L_X11_laysPicture_53, if_pos (show bo_ none = -1 from rfl)]
        exact ⟨_, _, _, _, rfl, hR⟩
      | some b =>
        obtain ⟨b1, b2, -⟩ := be_s hbe
        have hto := to_ta hg s.1 b (nG m) (Nat.le_refl _)
        have hcd : ct_ (fun k => s.1 k (pl_ m b k)) 0 (nG m) = cn_ m s.1 b := rfl
        have hne : ¬ nI b = -1 := by rw [iI_nI, show (-1 : Int32) = iI (-1) from rfl, iI_eq (by omega) (by omega)]; omega
        rw [show bo_ (some b) = nI b from rfl, if_neg hne, gN_ (by omega) (by decide), ev_freeHits hg hA hF (by omega), bs_, gN_ (by omega) (by decide), nI_clamp (by omega), nI_s, rp_s hbe]
        obtain ⟨f', e1, e2⟩ := take (L_X11_laysPicture_53 all n) (nI (s.2.1 + 1)) (upd pi s.2.1 (nI b)) (upd tk s.2.1 (nI (cn_ m s.1 b))) fw s.1 b b1 hF
        rw [e1]
        exact ih n (tk_ m s b) _ _ f' (nI b) hne (by show to_ (ta_ m s.1 b) (nG m) < f; omega) (by omega) e2 (cR_s hR b) (by show s.2.1 + 1 + to_ (ta_ m s.1 b) (nG m) ≤ 40; omega)
  have hto := to_b hw ht (nG m)
  have fill : L_X11_laysPicture_6 all fu_ pc ld f2 f3 f4 0 = J_X11_laysPicture_46 all pc ld f2 f3 (fun i => if i < 300 then (if ld i < all 12 then 0 else 1) else f4 i) := by
    have e0 : f4 = (fun i => if i < 0 then (if ld i < all 12 then (0 : Int32) else 1) else f4 i) := by
      funext i
      rw [if_neg (by omega)]
    conv => lhs; rw [e0]
    refine lp_S (fun n k => L_X11_laysPicture_6 all n pc ld f2 f3 (fun i => if i < k then (if ld i < all 12 then 0 else 1) else f4 i) (nI k)) 300 _ ?_ ?_ 300 0 fu_ (by omega) (fu_lt (by omega))
    · intro n k hk
      show L_X11_laysPicture_6 all (n + 1) pc ld f2 f3 (fun i => if i < k then (if ld i < all 12 then 0 else 1) else f4 i) (nI k) = L_X11_laysPicture_6 all n pc ld f2 f3 (fun i => if i < k + 1 then (if ld i < all 12 then 0 else 1) else f4 i) (nI (k + 1))
      rw [L_X11_laysPicture_6, show (300 : Int32) = nI 300 from rfl, if_neg (nle_ (by omega) (by omega) hk), gN_ hk (by decide), nI_clamp (by omega)]
      unfold J_X11_laysPicture_39
      rw [gN_ hk (by decide), gN_ hk (by decide), nI_clamp (by omega), nI_s]
      have e : ∀ v : Int32, v = (if ld k < all 12 then 0 else 1) → (upd (fun i => if i < k then (if ld i < all 12 then (0 : Int32) else 1) else f4 i) k v) = fun i => if i < k + 1 then (if ld i < all 12 then 0 else 1) else f4 i := by
        intro v hv
        funext i
        rw [upd_at]
        by_cases h1 : i = k
        · rw [if_pos h1, if_pos (by omega), h1, hv]
        · rw [if_neg h1]
          by_cases h2 : i < k
          · rw [if_pos h2, if_pos (show i < k + 1 by omega)]
          · rw [if_neg h2, if_neg (by omega)]
      by_cases c : ld k < all 12
      · rw [if_pos c, e (vp_nar .boolean (0 : Int32)) (by rw [if_pos c]; decide)]
      · rw [if_neg c, e (vp_nar .boolean (1 : Int32)) (by rw [if_neg c]; decide)]
    · intro n
      show L_X11_laysPicture_6 all (n + 1) pc ld f2 f3 _ (nI 300) = _
      rw [L_X11_laysPicture_6, if_pos (by decide)]
  rw [fill]
  unfold J_X11_laysPicture_46
  refine loop 41 fu_ (eo_ m, 0, fun _ => 0, fun _ => 0) f2 f3 _ 0 (by decide) (by show to_ (eo_ m) (nG m) < 41; omega) (fu_lt (by omega)) (fun k p hk hp => ?_) (fun i hi => absurd hi (Nat.not_lt_zero i)) (by show 0 + to_ (eo_ m) (nG m) ≤ 40; omega)
  have h1 := lo_b ht (m (1 + k)) p (nT m) (Nat.le_refl _)
  show (if 60 * k + p < 300 then (if ld (60 * k + p) < all 12 then 0 else 1) else f4 (60 * k + p)) = bI (eo_ m k p)
  rw [if_pos (by omega), hL k p hk hp, hA 12 (by decide), if_e (iI_lt (by omega) (by omega))]
  unfold eo_
  by_cases c : lo_ m (m (1 + k)) p (nT m) < m 12
  · rw [if_pos c, decide_eq_false (by omega)]; rfl
  · rw [if_neg c, decide_eq_true (by omega)]; rfl
/-- no more than forty are shown -/
theorem rp_b {m : Nat → Int} (hg : WG m) (hw : WS m) : ∀ f (s : Pt), s.2.1 + to_ s.1 (nG m) ≤ 40 → (rp_ m f s).2.1 ≤ 40
  | 0, s, h => by show s.2.1 ≤ 40; omega
  | f + 1, s, h => by
    obtain ⟨-, -, -, -, h10, -⟩ := id hw
    cases hbe : be_ m s.1 (nL m) with
    | none => rw [rp_n hbe]; omega
    | some b =>
      obtain ⟨b1, b2, -⟩ := be_s hbe
      have hto := to_ta hg s.1 b (nG m) (Nat.le_refl _)
      have hcd : ct_ (fun k => s.1 k (pl_ m b k)) 0 (nG m) = cn_ m s.1 b := rfl
      rw [rp_s hbe]
      exact rp_b hg hw f _ (by show s.2.1 + 1 + to_ (ta_ m s.1 b) (nG m) ≤ 40; omega)
theorem pt_b {m : Nat → Int} (hg : WG m) (hw : WS m) (ht : WT m) : (pt_ m).2.1 ≤ 40 := by
  obtain ⟨hn, h5⟩ := nG_c hg
  have hto := to_b hw ht (nG m)
  exact rp_b hg hw 41 _ (by show 0 + to_ (eo_ m) (nG m) ≤ 40; omega)
/-- a number that is shown lies below the limit -/
theorem rp_l {m : Nat → Int} : ∀ f (s : Pt), (∀ i, i < s.2.1 → s.2.2.1 i < nL m) → ∀ i, i < (rp_ m f s).2.1 → (rp_ m f s).2.2.1 i < nL m
  | 0, s, h => h
  | f + 1, s, h => by
    cases hbe : be_ m s.1 (nL m) with
    | none => rw [rp_n hbe]; exact h
    | some b =>
      obtain ⟨b1, b2, -⟩ := be_s hbe
      rw [rp_s hbe]
      refine rp_l f _ (fun i hi => ?_)
      show un_ s.2.2.1 s.2.1 b i < nL m
      unfold un_
      by_cases c : i = s.2.1
      · rw [if_pos c]; exact b1
      · rw [if_neg c]
        refine h i ?_
        have : i < s.2.1 + 1 := hi
        omega
theorem pt_l {m : Nat → Int} {i : Nat} (h : i < (pt_ m).2.1) : (pt_ m).2.2.1 i < nL m := rp_l 41 _ (fun i hi => absurd hi (Nat.not_lt_zero i)) i h
/-- picture(k, hits) -/
def qc_ (m : Nat → Int) (x z : Int32) : Int32 := if 0 ≤ x.toInt ∧ x.toInt ≤ ((pt_ m).2.1 : Int) - 1 then (if z = 0 then nI ((pt_ m).2.2.1 x.toInt.toNat) else nI ((pt_ m).2.2.2 x.toInt.toNat)) else -1
theorem ev_picture {m : Nat → Int} {gc : Int32} {gaps st : Nat → Int32} {tc : Int32} {sp ve sr : Nat → Int32} (hg : WG m) (hw : WS m) (ht : WT m) (hG : cG m gc gaps) (hS : cS m st) (hT : cT m tc sp ve sr) (sc : Int32) (f1 f2 f3 f4 f5 : Nat → Int32) (x z : Int32) :
    ∃ c g1 g2 g3 g4 g5, F_X10_picture gc tc gaps st sp ve sr sc f1 f2 f3 f4 f5 x z = some (qc_ m x z, c, g1, g2, g3, g4, g5) := by
  obtain ⟨a, ha, rfl⟩ := iI_ex x
  have hpb := pt_b hg hw ht
  obtain ⟨hB, sh, tk, e1, hR⟩ := ev_paint hg hw ht hG hS (tL_ls m f2) sc f3 f4 f5
  unfold F_X10_picture qc_
  rw [ev_listen hg hw ht hG hS hT, bs_, e1, bs_, iI_nI, show (1 : Int32) = iI 1 from rfl, iI_sub, show F_X10_isWithin (iI a) 0 _ = _ from ev_within ha (b := 0) (by omega) (by omega), bs_, ib_, iI_toInt ha]
  by_cases c : 0 ≤ a ∧ a ≤ ((pt_ m).2.1 : Int) - 1
  · have hr := hR a.toNat (by omega)
    rw [if_pos (decide_eq_true c), if_pos c, gd_ok (in_ok c.1 (by omega) (by omega)), gd_ok (in_ok c.1 (by omega) (by omega)), iI_clamp ha]
    dsimp only
    rw [hr.1, hr.2]
    by_cases cz : z = 0
    · rw [if_pos cz, if_pos cz]
      exact ⟨_, _, _, _, _, _, rfl⟩
    · rw [if_neg cz, if_neg cz]
      exact ⟨_, _, _, _, _, _, rfl⟩
  · rw [if_neg (by simpa using c), if_neg c]
    exact ⟨_, _, _, _, _, _, rfl⟩
theorem ev_rpicture {m : Nat → Int} {all : Nat → Int32} (hg : WG m) (hw : WS m) (ht : WT m) (hA : rA m all) (ra pc : Int32) (f1 f2 f3 f4 : Nat → Int32) (x z : Int32) :
    ∃ c g1 g2 g3 g4, F_X11_picture ra pc all f1 f2 f3 f4 x z = some (qc_ m x z, 0, c, g1, g2, g3, g4) := by
  obtain ⟨a, ha, rfl⟩ := iI_ex x
  have hpb := pt_b hg hw ht
  obtain ⟨ld, pi, tk, fr, e1, hR⟩ := ev_laysPicture hg hw ht hA pc f1 f2 f3 f4
  unfold F_X11_picture qc_
  rw [e1, bs_, iI_nI, show (1 : Int32) = iI 1 from rfl, iI_sub, show F_X11_in (iI a) 0 _ = _ from ev_in ha (b := 0) (by omega) (by omega), bs_, ib_, iI_toInt ha]
  by_cases c : 0 ≤ a ∧ a ≤ ((pt_ m).2.1 : Int) - 1
  · have hr := hR a.toNat (by omega)
    rw [if_pos (decide_eq_true c), if_pos c, gd_ok (in_ok c.1 (by omega) (by omega)), gd_ok (in_ok c.1 (by omega) (by omega)), iI_clamp ha]
    dsimp only
    rw [hr.1, hr.2]
    by_cases cz : z = 0
    · rw [if_pos cz, if_pos cz]
      exact ⟨_, _, _, _, _, rfl⟩
    · rw [if_neg cz, if_neg cz]
      exact ⟨_, _, _, _, _, rfl⟩
  · rw [if_neg (by simpa using c), if_neg c]
    exact ⟨_, _, _, _, _, rfl⟩
/-! ===== END ===== -/
