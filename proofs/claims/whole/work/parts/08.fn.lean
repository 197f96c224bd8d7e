/-! ===== BEGIN sentences: settings ===== -/
abbrev LT : Type := Int32 × Int32 × Int32 × Int32 × Int32 × Int64 × Int32 × Int32 × Int32 × Int32 × (Nat → Int32)
/-- the reference finds a wrong token at q -/
def LW (q : Nat) (o : Option LT) : Prop := (∃ a1 a2 a3 a4 a5 a7 a8 a9 a10, o = some (0, a1, a2, a3, a4, a5, nI q, a7, a8, a9, a10)) ∨ (∃ a1 a3 a4 a5 a6 a7 a8 a9 a10, o = some (1, a1, nI q, a3, a4, a5, a6, a7, a8, a9, a10) ∧ ¬ a3 = (4 : Int32))
def RR (f : Option (Nat × Nat)) (gc tc lc ti go : Int32) (gaps st sp ve sr lt lz ln told : Nat → Int32) : Prop := ∃ m, WM m ∧ cRd m gc tc lc ti go gaps st sp ve sr lt lz ln ∧ (f = none → rA m told) ∧ GR told
theorem LW_x {c : Nat → Nat} {N q : Nat} (h : tK c N q ≠ 3) (a1 a4 : Int32) (a5 : Int64) (a6 a7 a8 a9 : Int32) (a10 : Nat → Int32) : LW q (some (1, a1, nI q, nI (rS (tK c N q)), a4, a5, a6, a7, a8, a9, a10)) := by
  refine Or.inr ⟨_, _, _, _, _, _, _, _, _, rfl, ?_⟩
  rw [(rS_e _ (tK_b c N q)).2.2.1]
  exact h
/-- a sentence, by both -/
def SO (c : Nat → Nat) (N s : Nat) (wa lc ti go : Int32) (lt lz ln : Nat → Int32) (gc tc : Int32) (gaps st sp ve sr : Nat → Int32) (C : Option (Int32 × Int32 × Int32 × Int32 × Int32 × Int32 × (Nat → Int32) × Int32 × Int32 × (Nat → Int32) × (Nat → Int32) × (Nat → Int32) × (Nat → Int32) × (Nat → Int32))) (L : Option LT) : Prop :=
  (∃ q vq nb2, q ≤ N ∧ C = some (nI (tE c N q), nI (tK c N q), nI q, vq, 1, nI q, nb2, gc, tc, gaps, st, sp, ve, sr) ∧ LW q L) ∨
  (∃ q f2 v2 vr nb2 gc2 tc2 gaps2 st2 sp2 ve2 sr2 rd2 told2, (s < q ∧ q < N ∧ tK c N q = 3) ∧ C = some (nI (tE c N (nX c N q)), nI (tK c N (nX c N q)), nI (nX c N q), v2, fK f2, fP f2, nb2, gc2, tc2, gaps2, st2, sp2, ve2, sr2) ∧ (tK c N (nX c N q) = 2 → v2 = nI (tV c N (nX c N q))) ∧
    L = some (1, nI (tE c N q), nI q, nI (rS (tK c N q)), vr, tW c N q, wa, fP f2, fK f2, rd2, told2) ∧ fW f2 q ∧ RR f2 gc2 tc2 lc ti go gaps2 st2 sp2 ve2 sr2 lt lz ln told2)
section LIN
variable {c : Nat → Nat} {N : Nat} {tb tx : Nat → Int32} {m : Nat → Int} {gc tc lc ti go : Int32} {gaps st sp ve sr lt lz ln told : Nat → Int32}
theorem cw_ (hc : ∀ i, i < N → c i < 256) {s : Nat} (hs : s ≤ N) (hk : tK c N s = 1) {w : Nat} (hw : w < 10) (hq : sq_ c s (tE c N s - s) w = true) {v : Nat} (hv : v < 10) : (lg_cmp (tW c N s) (Int64.ofNat (cdN v)) = (0 : Int32)) = (v = w) := by
  rw [wd_c hc hs hk hv]
  apply propext
  exact ⟨fun h => sq_u hv hw h hq, fun h => by rw [h]; exact hq⟩
theorem ev_settingOf {x : Int64} {w : Nat} (hw : w < 7) (h : ∀ v, v < 10 → (lg_cmp x (Int64.ofNat (cdN v)) = (0 : Int32)) = (v = w)) : F_X11_settingOf x = some (nI w) := by
  unfold F_X11_settingOf
  rw [show (2002876005 : Int64) = Int64.ofNat (cdN 0) by decide, show (474316301160 : Int64) = Int64.ofNat (cdN 1) by decide, show (483006378853 : Int64) = Int64.ofNat (cdN 2) by decide, show (465625246068 : Int64) = Int64.ofNat (cdN 3) by decide, show (1852138852 : Int64) = Int64.ofNat (cdN 4) by decide, show (1936744814 : Int64) = Int64.ofNat (cdN 5) by decide, show (439905906546 : Int64) = Int64.ofNat (cdN 6) by decide,
    if_e (h 0 (by omega)), if_e (h 1 (by omega)), if_e (h 2 (by omega)), if_e (h 3 (by omega)), if_e (h 4 (by omega)), if_e (h 5 (by omega)), if_e (h 6 (by omega))]
  rcases (show w = 0 ∨ w = 1 ∨ w = 2 ∨ w = 3 ∨ w = 4 ∨ w = 5 ∨ w = 6 by omega) with rfl | rfl | rfl | rfl | rfl | rfl | rfl <;> rfl
theorem ev_settingN {x : Int64} (h : ∀ v, v < 10 → ¬ lg_cmp x (Int64.ofNat (cdN v)) = (0 : Int32)) : F_X11_settingOf x = some (-1) := by
  unfold F_X11_settingOf
  rw [show (2002876005 : Int64) = Int64.ofNat (cdN 0) by decide, show (474316301160 : Int64) = Int64.ofNat (cdN 1) by decide, show (483006378853 : Int64) = Int64.ofNat (cdN 2) by decide, show (465625246068 : Int64) = Int64.ofNat (cdN 3) by decide, show (1852138852 : Int64) = Int64.ofNat (cdN 4) by decide, show (1936744814 : Int64) = Int64.ofNat (cdN 5) by decide, show (439905906546 : Int64) = Int64.ofNat (cdN 6) by decide,
    if_neg (h 0 (by omega)), if_neg (h 1 (by omega)), if_neg (h 2 (by omega)), if_neg (h 3 (by omega)), if_neg (h 4 (by omega)), if_neg (h 5 (by omega)), if_neg (h 6 (by omega))]
/-- no word: wrong -/
theorem ev_lineN (e b so v wa ba bd rd : Int32) (wd x : Int64) (h : ∀ v, v < 10 → ¬ lg_cmp x (Int64.ofNat (cdN v)) = (0 : Int32)) : ∃ a1 a2 a3 a4 a5 a7 a8 a9 a10, J_X11_line_16 (nI N) tx e b so v wd wa ba bd rd told x = some (0, a1, a2, a3, a4, a5, b, a7, a8, a9, a10) := by
  unfold J_X11_line_16
  rw [show (6775152 : Int64) = Int64.ofNat (cdN 7) by decide, show (1668246885 : Int64) = Int64.ofNat (cdN 8) by decide, show (26479 : Int64) = Int64.ofNat (cdN 9) by decide, if_neg (h 7 (by omega)), if_neg (h 8 (by omega)), if_neg (h 9 (by omega)), ev_settingN h, bs_, if_pos rfl]
  unfold F_X11_fails
  rw [bs_, gd_ok (show decide ((0 : Int32) &&& 1 = 0) = true by decide)]
  exact ⟨_, _, _, _, _, _, _, _, _, rfl⟩
theorem GR_u {told : Nat → Int32} (h : GR told) {j : Nat} (hj : j ≠ 0 ∧ j ≠ 13) (v : Int32) : GR (upd told j v) := by
  obtain ⟨a, b, h1, h2⟩ := h
  refine ⟨a, b, ⟨?_, h1.2⟩, ⟨?_, h2.2⟩⟩
  · rw [upd_at, if_neg (by omega)]
    exact h1.1
  · rw [upd_at, if_neg (by omega)]
    exact h2.1
theorem ev_sent7 (hN : N ≤ 400) (hc : ∀ i, i < N → c i < 256) (hb : ∀ i, i < N → tb i = nI (c i)) (hb2 : ∀ i, i < N → tx i &&& (255 : Int32) = nI (c i)) (hm : WM m) (h : cRd m gc tc lc ti go gaps st sp ve sr lt lz ln) {f : Option (Nat × Nat)} (hA : f = none → rA m told) (hG : GR told)
    {s : Nat} (hs : s < N) (hf : fW f s) (hk : tK c N s = 1) {w : Nat} (hw : w < 7) (hq : sq_ c s (tE c N s - s) w = true) (vc vr wa rd : Int32) (nb : Nat → Int32) :
    SO c N s wa lc ti go lt lz ln gc tc gaps st sp ve sr (J_X6_readSentence_17 (nI N) tb (nI (tE c N s)) (nI (tK c N s)) (nI s) vc (fK f) (fP f) nb gc tc gaps st sp ve sr (nI w)) (J_X11_line_16 (nI N) tx (nI (tE c N s)) (nI s) (nI (rS (tK c N s))) vr (tW c N s) wa (fP f) (fK f) rd told (tW c N s)) := by
  have hm0 := hm
  have h0 := h
  obtain ⟨hg, hS, ht, hl⟩ := hm
  obtain ⟨c1, c2, c3, c4, c5, c6⟩ := h
  have cwv : ∀ v, v < 10 → (lg_cmp (tW c N s) (Int64.ofNat (cdN v)) = (0 : Int32)) = (v = w) := fun v hv => cw_ hc (by omega) hk (by omega) hq hv
  have hn1 := nX_b (c := c) (N := N) (s := s) (by omega)
  have hn1s := nX_s (c := c) (N := N) hs
  have hE := tE_b (c := c) (N := N) (s := s) (by omega)
  have r7 := lh7 w hw
  have nI1 : ∀ k, k < 10 → ¬ nI k = (-1 : Int32) := by decide
  have e6 : (6 : Int32) + nI w = nI (6 + w) := by rw [show (6 : Int32) = nI 6 from rfl, nI_add]
  have ef1 : f1_ m f w s = f := by
    unfold f1_ fl_
    rw [if_neg (show ¬ w = 7 by omega), if_pos hw, if_neg (by decide)]
  obtain ⟨v1, C1, V1⟩ := ev_c17 hN hc hb (st := st) hg ht c1 c3 (s := s) (by omega) hf vc nb (w := w) (by omega)
  obtain ⟨v1r, T1, V1r⟩ := ev_token hN hc hb2 (nI s) (nI (rS (tK c N s))) vr (tW c N s) hE.2
  rw [C1, ef1, if_pos (show w < 8 by omega), show fu_ = 999998 + 1 + 1 from rfl]
  unfold J_X11_line_16
  rw [show (6775152 : Int64) = Int64.ofNat (cdN 7) by decide, show (1668246885 : Int64) = Int64.ofNat (cdN 8) by decide, show (26479 : Int64) = Int64.ofNat (cdN 9) by decide, if_e (cwv 7 (by omega)), if_e (cwv 8 (by omega)), if_e (cwv 9 (by omega)), if_neg (by omega), if_neg (by omega), if_neg (by omega), ev_settingOf hw cwv, bs_, if_neg (nI1 w (by omega)), T1, bs_, ev_leastOf w hw, bs_, ev_mostOf w hw, bs_]
  dsimp only
  by_cases k1 : tK c N (nX c N s) = 2
  · have hs1 := tK_s (c := c) (N := N) (s := nX c N s) (by omega)
    have hn2 := nX_b (c := c) (N := N) (s := nX c N s) (by omega)
    have hn2s := nX_s (c := c) (N := N) (s := nX c N s) hs1
    have h99 := tV_b k1
    obtain ⟨v2, C2, V2⟩ := ev_c72 hN hc hb (tc := tc) (st := st) (sp := sp) (ve := ve) (sr := sr) hg c1 (s := nX c N s) (by omega) k1 (fW_le hf (by omega)) V1 nb (w := w) (i := 0) (K := 1) (by omega) (by omega) (by omega) (999998 + 1)
    obtain ⟨v2r, T2, V2r⟩ := ev_takes hN hc hb2 (s := nX c N s) (by omega) k1 (fW_le hf (by omega)) V1r (tW c N (nX c N s)) wa rd (l := l7 w) (h := h7 w) r7.1 r7.2
    have ec : ck_ m f w 0 (nX c N s) (tV c N (nX c N s)) = if l7 w ≤ (tV c N (nX c N s) : Int) ∧ (tV c N (nX c N s) : Int) ≤ h7 w then f else nf_ f 2 (nX c N s) := by
      unfold ck_ bL bH
      rw [if_neg (show ¬ w = 7 by omega), if_pos hw, if_neg (show ¬ w = 7 by omega), if_pos hw, if_neg (show ¬ (w = 7 ∧ hg_ m (tV c N (nX c N s) : Int) (nG m) = true) from fun hh => absurd hh.1 (by omega))]
    have W2 := ck_W (m := m) (w := w) (i := 0) (v := tV c N (nX c N s)) (fW_le hf (show s ≤ nX c N s by omega)) hn2s
    rw [show tS c N (tE c N s) = nX c N s from rfl, T2, bs_]
    dsimp only
    rw [e6, gN_ (by omega) (by decide), gd_ok (show decide ((1 : Int32) &&& 1 = 1) = true by decide), nI_clamp (by omega), C2, ev_c72e _ (by omega), ← ec]
    generalize ck_ m f w 0 (nX c N s) (tV c N (nX c N s)) = f2 at ec W2
    by_cases k2 : tK c N (nX c N (nX c N s)) = 3
    · have hs2 := tK_s (c := c) (N := N) (s := nX c N (nX c N s)) (by omega)
      have nb0 : upd nb 0 (nI (tV c N (nX c N s))) 0 = nI (tV c N (nX c N s)) := by rw [upd_at, if_pos rfl]
      by_cases hf2 : f2 = none
      · have hin : l7 w ≤ (tV c N (nX c N s) : Int) ∧ (tV c N (nX c N s) : Int) ≤ h7 w := by
          by_cases q : l7 w ≤ (tV c N (nX c N s) : Int) ∧ (tV c N (nX c N s) : Int) ≤ h7 w
          · exact q
          · rw [if_neg q, hf2] at ec
            cases f <;> cases ec
        rw [if_pos hin] at ec
        have hfn : f = none := by rw [← ec]; exact hf2
        obtain ⟨v3, C3, V3⟩ := ev_c122 hN hc hb (gc := gc) (tc := tc) (gaps := gaps) (st := st) (sp := sp) (ve := ve) (sr := sr) (s := nX c N (nX c N s)) (by omega) k2 W2 v2 (upd nb 0 (nI (tV c N (nX c N s)))) (nI w) (gc2 := gc) (tc2 := tc) (gaps2 := gaps) (st2 := upd st w (nI (tV c N (nX c N s)))) (sp2 := sp) (ve2 := ve) (sr2 := sr) ⟨fun _ => by
          unfold F_X6_apply
          rw [show (7 : Int32) = nI 7 from rfl, if_neg (show ¬ nI w = nI 7 by rw [nK_e (by omega) (by decide)]; omega), if_neg (nle_ (by decide) (by omega) hw), gN_ hw (by decide), nI_clamp (by omega), nb0], fun hh => absurd hf2 hh⟩
        rw [C3]
        have ne : ∀ i, i ≠ 6 + w → uz_ m (6 + w) (tV c N (nX c N s) : Int) i = m i := fun i hi => uz_ne hi
        refine Or.inr ⟨nX c N (nX c N s), f2, v3, _, _, _, _, _, _, _, _, _, _, _, ⟨by omega, by omega, k2⟩, rfl, V3, rfl, W2, uz_ m (6 + w) (tV c N (nX c N s) : Int), ⟨WG_c (fun i hi => ne i (by omega)) hg, ?_, WT_c (fun i a1 a2 => ne i (by omega)) ht, WL_c (fun i a1 a2 a3 => ne i (by omega)) hl⟩, ⟨cG_c (fun i hi => ne i (by omega)) hg c1, ?_, cT_c (fun i a1 a2 => ne i (by omega)) ht c3, cL_c (fun i a1 a2 => ne i (by omega)) hl c4, by rw [ne _ (by omega)]; exact c5, by rw [ne _ (by omega)]; exact c6⟩, fun _ => ?_, GR_u hG (by omega) _⟩
        · refine WS_i.mpr (fun j hj => ?_)
          by_cases cj : j = w
          · rw [cj, uz_at]
            exact hin
          · rw [ne _ (by omega)]
            exact WS_i.mp hS j hj
        · intro j hj
          rw [upd_at]
          by_cases cj : j = w
          · rw [if_pos cj, cj, uz_at, iI_nI]
          · rw [if_neg cj, ne _ (by omega)]
            exact c2 j hj
        · rw [iI_nI]
          exact rA_u (hA hfn) _ _
      · obtain ⟨v3, C3, V3⟩ := ev_c122 hN hc hb (gc := gc) (tc := tc) (gaps := gaps) (st := st) (sp := sp) (ve := ve) (sr := sr) (s := nX c N (nX c N s)) (by omega) k2 W2 v2 (upd nb 0 (nI (tV c N (nX c N s)))) (nI w) (gc2 := gc) (tc2 := tc) (gaps2 := gaps) (st2 := st) (sp2 := sp) (ve2 := ve) (sr2 := sr) ⟨fun hh => absurd hh hf2, fun _ => rfl⟩
        rw [C3]
        exact Or.inr ⟨nX c N (nX c N s), f2, v3, _, _, _, _, _, _, _, _, _, _, _, ⟨by omega, by omega, k2⟩, rfl, V3, rfl, W2, m, hm0, h0, fun hh => absurd hh hf2, GR_u hG (by omega) _⟩
    · rw [ev_c122x k2]
      exact Or.inl ⟨_, _, _, hn2.2, rfl, LW_x k2 _ _ _ _ _ _ _ _⟩
  · rw [show (999998 + 1 + 1 : Nat) = 999999 + 1 from rfl, ev_c72x k1 _ _ _ _ _ (by omega) (by omega), show tS c N (tE c N s) = nX c N s from rfl, ev_takes0 k1, bs_]
    dsimp only
    rw [e6, gN_ (by omega) (by decide), gd_ok (show decide ((0 : Int32) &&& 1 = 0) = true by decide)]
    exact Or.inl ⟨_, _, _, hn1.2, rfl, Or.inl ⟨_, _, _, _, _, _, _, _, _, rfl⟩⟩
end LIN
/-! ===== END ===== -/
