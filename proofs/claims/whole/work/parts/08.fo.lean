/-! ===== BEGIN sentences: gaps, targets ===== -/
section LIG
variable {c : Nat → Nat} {N : Nat} {tb tx : Nat → Int32} {m : Nat → Int} {gc tc lc ti go : Int32} {gaps st sp ve sr lt lz ln told : Nat → Int32}
theorem nf_s {f : Option (Nat × Nat)} (h : f ≠ none) (k p : Nat) : nf_ f k p = f := by
  cases f with
  | none => exact absurd rfl h
  | some x => rfl
theorem nf_n (f : Option (Nat × Nat)) (k p : Nat) : nf_ f k p ≠ none := by
  cases f <;> intro h <;> cases h
/-- the fault that a full row makes is the same by both -/
theorem ev_full {f : Option (Nat × Nat)} {s w j n : Nat} (hs : s < 1000) (hf : fW f s) (hj : f = none → (told j = nI n) = (fl_ m w = true)) (X : Int32 → Int32 → Option LT) :
    (if told j = nI n then ((F_X11_isBad (fP f) (fK f) (4 : Int32) (nI s)).bind fun r_2 => X r_2.1 r_2.2) else X (fP f) (fK f)) = X (fP (f1_ m f w s)) (fK (f1_ m f w s)) := by
  rw [show (4 : Int32) = nI 4 from rfl, ev_isBad (by omega) (by decide) (fun x hx => ⟨(hf x hx).1, Or.inl (hf x hx).2⟩), bs_]
  unfold f1_
  by_cases h : f = none
  · rw [if_e (hj h)]
    by_cases q : fl_ m w = true
    · rw [if_pos q, if_pos q]
    · rw [if_neg q, if_neg q]
  · rw [nf_s h]
    by_cases q : fl_ m w = true
    · rw [if_pos q, ite_self]
    · rw [if_neg q, ite_self]
theorem gp_tail {f2 : Option (Nat × Nat)} {s1 : Nat} (hs : s1 < 1000) (hn : f2 ≠ none) (hf : ∀ x, f2 = some x → (2 ≤ x.1 ∧ x.1 ≤ 4) ∧ (x.2 < s1 ∨ (x.2 = s1 ∧ x.1 ≤ 3))) (hG : GR told) (a1 a2 a3 a4 : Int32) (a5 : Int64) (a6 v a9 : Int32) :
    ∃ told2, ((F_X11_hasGap told 97 v).bind fun r_6 => (if r_6 = (0 : Int32) then (if (5 : Int32) ≤ (told 0) then (some ((1 : Int32), a1, a2, a3, a4, a5, a6, fP f2, fK f2, a9, told)) else ((F_X11_putsGap told 97 v).bind fun r_10 => (some ((1 : Int32), a1, a2, a3, a4, a5, a6, fP f2, fK f2, a9, r_10)))) else ((F_X11_isBad (fP f2) (fK f2) (3 : Int32) (nI s1)).bind fun r_12 => (some ((1 : Int32), a1, a2, a3, a4, a5, a6, r_12.1, r_12.2, a9, told))))) = some (1, a1, a2, a3, a4, a5, a6, fP f2, fK f2, a9, told2) ∧ GR told2 := by
  obtain ⟨a, b, ⟨h1, h2⟩, ⟨h3, h4⟩⟩ := hG
  obtain ⟨z, hz⟩ := gz_has h1 h2 v
  rw [hz, bs_, ib_]
  cases z with
  | true =>
    rw [if_pos rfl, show (3 : Int32) = nI 3 from rfl, ev_isBad hs (by decide) hf, bs_, nf_s hn]
    exact ⟨told, rfl, a, b, ⟨h1, h2⟩, ⟨h3, h4⟩⟩
  | false =>
    rw [if_neg (by decide), h1, show (5 : Int32) = nI 5 from rfl, if_e (nI_le2 (by decide) (by omega))]
    by_cases q : 5 ≤ a
    · rw [if_pos q]
      exact ⟨told, rfl, a, b, ⟨h1, h2⟩, ⟨h3, h4⟩⟩
    · obtain ⟨r, e, q1, q2⟩ := gz_put h1 (by omega) v
      rw [if_neg q, e, bs_]
      exact ⟨r, rfl, a + 1, b, ⟨q1, by omega⟩, ⟨by rw [q2]; exact h3, h4⟩⟩
theorem ev_sentG (hN : N ≤ 400) (hc : ∀ i, i < N → c i < 256) (hb : ∀ i, i < N → tb i = nI (c i)) (hb2 : ∀ i, i < N → tx i &&& (255 : Int32) = nI (c i)) (hm : WM m) (h : cRd m gc tc lc ti go gaps st sp ve sr lt lz ln) {f : Option (Nat × Nat)} (hA : f = none → rA m told) (hG : GR told)
    {s : Nat} (hs : s < N) (hf : fW f s) (hk : tK c N s = 1) (hq : sq_ c s (tE c N s - s) 7 = true) (vc vr wa rd : Int32) (nb : Nat → Int32) :
    SO c N s wa lc ti go lt lz ln gc tc gaps st sp ve sr (J_X6_readSentence_17 (nI N) tb (nI (tE c N s)) (nI (tK c N s)) (nI s) vc (fK f) (fP f) nb gc tc gaps st sp ve sr (nI 7)) (J_X11_line_16 (nI N) tx (nI (tE c N s)) (nI s) (nI (rS (tK c N s))) vr (tW c N s) wa (fP f) (fK f) rd told (tW c N s)) := by
  have hm0 := hm
  have h0 := h
  obtain ⟨hg, hS, ht, hl⟩ := hm
  obtain ⟨c1, c2, c3, c4, c5, c6⟩ := h
  obtain ⟨n1, n2⟩ := nG_c hg
  have cwv : ∀ v, v < 10 → (lg_cmp (tW c N s) (Int64.ofNat (cdN v)) = (0 : Int32)) = (v = 7) := fun v hv => cw_ hc (by omega) hk (by omega) hq hv
  have hn1 := nX_b (c := c) (N := N) (s := s) (by omega)
  have hn1s := nX_s (c := c) (N := N) hs
  have hE := tE_b (c := c) (N := N) (s := s) (by omega)
  have F1 := f1_W (m := m) (w := 7) hf hn1s
  have E1 : f1_ m f 7 s = none → f = none ∧ nG m < 5 := by
    intro hh
    unfold f1_ fl_ at hh
    rw [if_pos rfl] at hh
    by_cases q : nG m = 5
    · rw [if_pos (decide_eq_true q)] at hh
      exact absurd hh (nf_n _ _ _)
    · rw [if_neg (by rw [decide_eq_false q]; decide)] at hh
      exact ⟨hh, by omega⟩
  obtain ⟨v1, C1, V1⟩ := ev_c17 hN hc hb (st := st) hg ht c1 c3 (s := s) (by omega) hf vc nb (w := 7) (by omega)
  obtain ⟨v1r, T1, V1r⟩ := ev_token hN hc hb2 (nI s) (nI (rS (tK c N s))) vr (tW c N s) hE.2
  have EF := ev_full (told := told) (m := m) (j := 0) (n := 5) (w := 7) (by omega) hf (fun hh => by
    have := hA hh
    rw [this 0 (by decide), n1, ← iI_nI, nK_e (by omega) (by decide)]
    unfold fl_
    rw [if_pos rfl]
    exact propext ⟨fun q => decide_eq_true q, fun q => of_decide_eq_true q⟩) (fun x y => J_X11_gapLine_19 (nI N) tx (nI (tE c N s)) (nI s) (nI (rS (tK c N s))) vr (tW c N s) wa x y rd told)
  have EG : F_X11_gapLine (nI (tE c N s)) (nI N) (nI s) (nI (rS (tK c N s))) vr (tW c N s) wa (fP f) (fK f) rd tx told = J_X11_gapLine_19 (nI N) tx (nI (tE c N s)) (nI s) (nI (rS (tK c N s))) vr (tW c N s) wa (fP (f1_ m f 7 s)) (fK (f1_ m f 7 s)) rd told := EF
  rw [C1, if_pos (show 7 < 8 by omega), show fu_ = 999998 + 1 + 1 from rfl]
  unfold J_X11_line_16
  rw [show (6775152 : Int64) = Int64.ofNat (cdN 7) by decide, if_pos (show lg_cmp (tW c N s) (Int64.ofNat (cdN 7)) = (0 : Int32) by rw [cwv 7 (by omega)]), EG]
  unfold J_X11_gapLine_19
  rw [T1, bs_]
  dsimp only
  rw [show tS c N (tE c N s) = nX c N s from rfl] at *
  by_cases k1 : tK c N (nX c N s) = 2
  · have hs1 := tK_s (c := c) (N := N) (s := nX c N s) (by omega)
    have hn2 := nX_b (c := c) (N := N) (s := nX c N s) (by omega)
    have hn2s := nX_s (c := c) (N := N) (s := nX c N s) hs1
    have h99 := tV_b k1
    obtain ⟨v2, C2, V2⟩ := ev_c72 hN hc hb (tc := tc) (st := st) (sp := sp) (ve := ve) (sr := sr) hg c1 (s := nX c N s) (by omega) k1 F1 V1 nb (w := 7) (i := 0) (K := 1) (by omega) (by omega) (by omega) (999998 + 1)
    obtain ⟨v2r, T2, V2r⟩ := ev_takes hN hc hb2 (s := nX c N s) (by omega) k1 F1 V1r (tW c N (nX c N s)) wa rd (l := 4) (h := 60) (by omega) (by omega)
    have T2 : F_X11_takes (nI (tE c N (nX c N s))) (nI N) (nI (nX c N s)) (nI (rS (tK c N (nX c N s)))) v1r (tW c N (nX c N s)) wa (fP (f1_ m f 7 s)) (fK (f1_ m f 7 s)) rd tx (4 : Int32) (60 : Int32) = _ := T2
    have W2 := ck_W (m := m) (w := 7) (i := 0) (v := tV c N (nX c N s)) F1 hn2s
    rw [T2, bs_]
    dsimp only
    rw [if_neg (show ¬ (1 : Int32) = 0 by decide), C2, ev_c72e _ (by omega)]
    have ec : ck_ m (f1_ m f 7 s) 7 0 (nX c N s) (tV c N (nX c N s)) = if 4 ≤ (tV c N (nX c N s) : Int) ∧ (tV c N (nX c N s) : Int) ≤ 60 then (if hg_ m (tV c N (nX c N s) : Int) (nG m) = true then nf_ (f1_ m f 7 s) 3 (nX c N s) else f1_ m f 7 s) else nf_ (f1_ m f 7 s) 2 (nX c N s) := by
      unfold ck_ bL bH
      rw [if_pos rfl, if_pos rfl]
      by_cases q : hg_ m (tV c N (nX c N s) : Int) (nG m) = true
      · rw [if_pos (show (7 = 7 ∧ hg_ m (tV c N (nX c N s) : Int) (nG m) = true) from ⟨rfl, q⟩), if_pos q]
      · rw [if_neg (show ¬ (7 = 7 ∧ hg_ m (tV c N (nX c N s) : Int) (nG m) = true) from fun hh => q hh.2), if_neg q]
    /- what the reference makes of it -/
    have EL : ∃ told2, ((F_X11_hasGap told 97 (nI (tV c N (nX c N s)))).bind fun r_6 => (if r_6 = (0 : Int32) then (if (5 : Int32) ≤ (told 0) then (some ((1 : Int32), nI (tE c N (nX c N (nX c N s))), nI (nX c N (nX c N s)), nI (rS (tK c N (nX c N (nX c N s)))), v2r, tW c N (nX c N (nX c N s)), wa, fP (if 4 ≤ (tV c N (nX c N s) : Int) ∧ (tV c N (nX c N s) : Int) ≤ 60 then f1_ m f 7 s else nf_ (f1_ m f 7 s) 2 (nX c N s)), fK (if 4 ≤ (tV c N (nX c N s) : Int) ∧ (tV c N (nX c N s) : Int) ≤ 60 then f1_ m f 7 s else nf_ (f1_ m f 7 s) 2 (nX c N s)), nI (tV c N (nX c N s)), told)) else ((F_X11_putsGap told 97 (nI (tV c N (nX c N s)))).bind fun r_10 => (some ((1 : Int32), nI (tE c N (nX c N (nX c N s))), nI (nX c N (nX c N s)), nI (rS (tK c N (nX c N (nX c N s)))), v2r, tW c N (nX c N (nX c N s)), wa, fP (if 4 ≤ (tV c N (nX c N s) : Int) ∧ (tV c N (nX c N s) : Int) ≤ 60 then f1_ m f 7 s else nf_ (f1_ m f 7 s) 2 (nX c N s)), fK (if 4 ≤ (tV c N (nX c N s) : Int) ∧ (tV c N (nX c N s) : Int) ≤ 60 then f1_ m f 7 s else nf_ (f1_ m f 7 s) 2 (nX c N s)), nI (tV c N (nX c N s)), r_10)))) else ((F_X11_isBad (fP (if 4 ≤ (tV c N (nX c N s) : Int) ∧ (tV c N (nX c N s) : Int) ≤ 60 then f1_ m f 7 s else nf_ (f1_ m f 7 s) 2 (nX c N s))) (fK (if 4 ≤ (tV c N (nX c N s) : Int) ∧ (tV c N (nX c N s) : Int) ≤ 60 then f1_ m f 7 s else nf_ (f1_ m f 7 s) 2 (nX c N s))) (3 : Int32) (nI (nX c N s))).bind fun r_12 => (some ((1 : Int32), nI (tE c N (nX c N (nX c N s))), nI (nX c N (nX c N s)), nI (rS (tK c N (nX c N (nX c N s)))), v2r, tW c N (nX c N (nX c N s)), wa, r_12.1, r_12.2, nI (tV c N (nX c N s)), told))))) = some (1, nI (tE c N (nX c N (nX c N s))), nI (nX c N (nX c N s)), nI (rS (tK c N (nX c N (nX c N s)))), v2r, tW c N (nX c N (nX c N s)), wa, fP (ck_ m (f1_ m f 7 s) 7 0 (nX c N s) (tV c N (nX c N s))), fK (ck_ m (f1_ m f 7 s) 7 0 (nX c N s) (tV c N (nX c N s))), nI (tV c N (nX c N s)), told2) ∧ GR told2 ∧ (ck_ m (f1_ m f 7 s) 7 0 (nX c N s) (tV c N (nX c N s)) = none → rA (ig_ m (tV c N (nX c N s) : Int)) told2) := by
      by_cases hf1 : f1_ m f 7 s = none
      · by_cases hin : 4 ≤ (tV c N (nX c N s) : Int) ∧ (tV c N (nX c N s) : Int) ≤ 60
        · obtain ⟨hfn, h5⟩ := E1 hf1
          have hr := hA hfn
          rw [if_pos hin, hf1] at ec
          rw [if_pos hin, hf1, ec, iI_nI (tV c N (nX c N s)), ev_hasGapR hg hr (by omega) (by decide), bs_, ib_]
          by_cases q : hg_ m (tV c N (nX c N s) : Int) (nG m) = true
          · rw [if_pos q, if_pos q, show (3 : Int32) = nI 3 from rfl, ev_isBad (f := none) (by omega) (by decide) (fun x hx => by cases hx), bs_]
            exact ⟨told, rfl, hG, fun hh => absurd hh (nf_n _ _ _)⟩
          · obtain ⟨r2, e2, q1, q2⟩ := ev_putsGap (N := 97) hg h5 hr hin (by decide)
            have h50 : ¬ (5 : Int32) ≤ told 0 := by
              rw [hr 0 (by decide), n1, ← iI_nI]
              exact nle_ (a := 5) (by decide) (by omega) h5
            rw [if_neg q, if_neg q, if_neg h50, e2, bs_]
            refine ⟨r2, rfl, ?_, fun _ => q1⟩
            obtain ⟨a, b, ⟨h1, h2⟩, ⟨h3, h4⟩⟩ := hG
            refine ⟨nG m + 1, b, ⟨?_, by omega⟩, ⟨?_, h4⟩⟩
            · rw [q1 0 (by decide), ig_0, iI_nI, n1, Int.natCast_add]
              rfl
            · rw [q1 13 (by decide), ig_hi hg h5 _ (by omega), ← hr 13 (by decide), h3]
        · rw [if_neg hin] at ec
          rw [if_neg hin, ec]
          obtain ⟨told2, e2, q⟩ := gp_tail (s1 := nX c N s) (f2 := nf_ (f1_ m f 7 s) 2 (nX c N s)) (by omega) (nf_n _ _ _) (fun x hx => by
            rw [hf1] at hx
            have : x = (2, nX c N s) := (Option.some.inj hx).symm
            rw [this]
            exact ⟨⟨by omega, by omega⟩, Or.inr ⟨rfl, by omega⟩⟩) hG (nI (tE c N (nX c N (nX c N s)))) (nI (nX c N (nX c N s))) (nI (rS (tK c N (nX c N (nX c N s))))) v2r (tW c N (nX c N (nX c N s))) wa (nI (tV c N (nX c N s))) (nI (tV c N (nX c N s)))
          exact ⟨told2, e2, q, fun hh => absurd hh (nf_n _ _ _)⟩
      · have e1 : (if 4 ≤ (tV c N (nX c N s) : Int) ∧ (tV c N (nX c N s) : Int) ≤ 60 then f1_ m f 7 s else nf_ (f1_ m f 7 s) 2 (nX c N s)) = f1_ m f 7 s := by rw [nf_s hf1, ite_self]
        rw [e1, ck_s hf1]
        obtain ⟨told2, e2, q⟩ := gp_tail (s1 := nX c N s) (f2 := f1_ m f 7 s) (by omega) hf1 (fun x hx => ⟨(F1 x hx).1, Or.inl (F1 x hx).2⟩) hG (nI (tE c N (nX c N (nX c N s)))) (nI (nX c N (nX c N s))) (nI (rS (tK c N (nX c N (nX c N s))))) v2r (tW c N (nX c N (nX c N s))) wa (nI (tV c N (nX c N s))) (nI (tV c N (nX c N s)))
        exact ⟨told2, e2, q, fun hh => absurd hh hf1⟩
    obtain ⟨told2, eL, gL, mL⟩ := EL
    rw [eL, bs_, gd_ok (show decide ((1 : Int32) &&& 1 = 1) = true by decide)]
    have e0 : ck_ m (f1_ m f 7 s) 7 0 (nX c N s) (tV c N (nX c N s)) = none → f = none ∧ nG m < 5 ∧ (4 ≤ (tV c N (nX c N s) : Int) ∧ (tV c N (nX c N s) : Int) ≤ 60) ∧ hg_ m (tV c N (nX c N s) : Int) (nG m) = false := by
      intro hh
      rw [ec] at hh
      by_cases hin : 4 ≤ (tV c N (nX c N s) : Int) ∧ (tV c N (nX c N s) : Int) ≤ 60
      · rw [if_pos hin] at hh
        by_cases q : hg_ m (tV c N (nX c N s) : Int) (nG m) = true
        · rw [if_pos q] at hh
          exact absurd hh (nf_n _ _ _)
        · rw [if_neg q] at hh
          exact ⟨(E1 hh).1, (E1 hh).2, hin, by simpa using q⟩
      · rw [if_neg hin] at hh
        exact absurd hh (nf_n _ _ _)
    generalize ck_ m (f1_ m f 7 s) 7 0 (nX c N s) (tV c N (nX c N s)) = f2 at *
    by_cases k2 : tK c N (nX c N (nX c N s)) = 3
    · have hs2 := tK_s (c := c) (N := N) (s := nX c N (nX c N s)) (by omega)
      have nb0 : upd nb 0 (nI (tV c N (nX c N s))) 0 = nI (tV c N (nX c N s)) := by rw [upd_at, if_pos rfl]
      by_cases hf2 : f2 = none
      · obtain ⟨hfn, h5, hin, hx⟩ := e0 hf2
        obtain ⟨g2, w1, w2⟩ := ev_addGap hg h5 c1 hin
        obtain ⟨v3, C3, V3⟩ := ev_c122 hN hc hb (gc := gc) (tc := tc) (gaps := gaps) (st := st) (sp := sp) (ve := ve) (sr := sr) (s := nX c N (nX c N s)) (by omega) k2 W2 v2 (upd nb 0 (nI (tV c N (nX c N s)))) (nI 7) (gc2 := nI (nG m + 1)) (tc2 := tc) (gaps2 := g2) (st2 := st) (sp2 := sp) (ve2 := ve) (sr2 := sr) ⟨fun _ => by
          unfold F_X6_apply
          rw [if_pos (show nI 7 = (7 : Int32) from rfl), nb0, iI_nI (tV c N (nX c N s)), w1, bs_], fun hh => absurd hf2 hh⟩
        rw [C3]
        have ne : ∀ i, 6 ≤ i → ig_ m (tV c N (nX c N s) : Int) i = m i := fun i hi => ig_hi hg h5 _ hi
        refine Or.inr ⟨nX c N (nX c N s), f2, v3, _, _, _, _, _, _, _, _, _, _, _, ⟨by omega, by omega, k2⟩, rfl, V3, rfl, W2, ig_ m (tV c N (nX c N s) : Int), ⟨WG_ig hg h5 hin hx, WS_c (fun i a1 a2 => ne i (by omega)) hS, WT_c (fun i a1 a2 => ne i (by omega)) ht, WL_c (fun i a1 a2 a3 => ne i (by omega)) hl⟩, ⟨⟨?_, fun k hk => ?_⟩, cS_c (fun i a1 a2 => ne i (by omega)) c2, cT_c (fun i a1 a2 => ne i (by omega)) ht c3, cL_c (fun i a1 a2 => ne i (by omega)) hl c4, by rw [ne _ (by omega)]; exact c5, by rw [ne _ (by omega)]; exact c6⟩, fun _ => mL hf2, gL⟩
        · rw [ig_0, iI_nI, n1, Int.natCast_add]
          rfl
        · rw [ig_0] at hk
          exact w2 k (by omega)
      · obtain ⟨v3, C3, V3⟩ := ev_c122 hN hc hb (gc := gc) (tc := tc) (gaps := gaps) (st := st) (sp := sp) (ve := ve) (sr := sr) (s := nX c N (nX c N s)) (by omega) k2 W2 v2 (upd nb 0 (nI (tV c N (nX c N s)))) (nI 7) (gc2 := gc) (tc2 := tc) (gaps2 := gaps) (st2 := st) (sp2 := sp) (ve2 := ve) (sr2 := sr) ⟨fun hh => absurd hh hf2, fun _ => rfl⟩
        rw [C3]
        exact Or.inr ⟨nX c N (nX c N s), f2, v3, _, _, _, _, _, _, _, _, _, _, _, ⟨by omega, by omega, k2⟩, rfl, V3, rfl, W2, m, hm0, h0, fun hh => absurd hh hf2, gL⟩
    · rw [ev_c122x k2]
      exact Or.inl ⟨_, _, _, hn2.2, rfl, LW_x k2 _ _ _ _ _ _ _ _⟩
  · rw [show (999998 + 1 + 1 : Nat) = 999999 + 1 from rfl, ev_c72x k1 _ _ _ _ _ (by omega) (by omega), ev_takes0 k1, bs_]
    dsimp only
    rw [if_pos rfl, bs_, gd_ok (show decide ((0 : Int32) &&& 1 = 0) = true by decide)]
    exact Or.inl ⟨_, _, _, hn1.2, rfl, Or.inl ⟨_, _, _, _, _, _, _, _, _, rfl⟩⟩
end LIG
/-! ===== END ===== -/
