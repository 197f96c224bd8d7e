/-! ===== BEGIN sentences: targets ===== -/
section LIT
variable {c : Nat → Nat} {N : Nat} {tb tx : Nat → Int32} {m : Nat → Int} {gc tc lc ti go : Int32} {gaps st sp ve sr lt lz ln told : Nat → Int32}
theorem ck8 {f : Option (Nat × Nat)} {w i s v : Nat} (hw : 8 ≤ w) : ck_ m f w i s v = if bL w i ≤ (v : Int) ∧ (v : Int) ≤ bH w i then f else nf_ f 2 s := by
  unfold ck_
  rw [if_neg (show ¬ (w = 7 ∧ hg_ m (v : Int) (nG m) = true) from fun hh => absurd hh.1 (by omega))]
theorem ck8_n {f : Option (Nat × Nat)} {w i s v : Nat} (hw : 8 ≤ w) (h : ck_ m f w i s v = none) : f = none ∧ bL w i ≤ (v : Int) ∧ (v : Int) ≤ bH w i := by
  rw [ck8 hw] at h
  by_cases q : bL w i ≤ (v : Int) ∧ (v : Int) ≤ bH w i
  · rw [if_pos q] at h
    exact ⟨h, q⟩
  · rw [if_neg q] at h
    exact absurd h (nf_n _ _ _)
theorem b8_0 {w : Nat} (hw : 8 ≤ w) : (bL w 0 = 0 ∧ bH w 0 = 2999) ∧ (bL w 1 = 0 ∧ bH w 1 = 500) ∧ (bL w 2 = 1 ∧ bH w 2 = 99) := by
  have a : ¬ w = 7 := by omega
  have b : ¬ w < 7 := by omega
  unfold bL bH
  simp only [if_neg a, if_neg b]
  decide
/-- a taking at s, for the words of targets -/
theorem ev_tak8 (hN : N ≤ 400) (hc : ∀ i, i < N → c i < 256) (hb2 : ∀ i, i < N → tx i &&& (255 : Int32) = nI (c i)) {s : Nat} (hs : s ≤ N) (hk : tK c N s = 2) {f : Option (Nat × Nat)} (hf : fW f s) {vr : Int32} (hv : tK c N s = 2 → vr = nI (tV c N s)) (x : Int64) (wa rd : Int32) {w i : Nat} (hw : 8 ≤ w) {l h : Int32} (hl : l = iI (bL w i)) (hh : h = iI (bH w i)) (hr : rg (bL w i) ∧ rg (bH w i)) :
    ∃ v2, F_X11_takes (nI (tE c N s)) (nI N) (nI s) (nI (rS (tK c N s))) vr x wa (fP f) (fK f) rd tx l h = some (1, nI (tE c N (nX c N s)), nI (nX c N s), nI (rS (tK c N (nX c N s))), v2, tW c N (nX c N s), wa, fP (ck_ m f w i s (tV c N s)), fK (ck_ m f w i s (tV c N s)), nI (tV c N s)) ∧ (tK c N (nX c N s) = 2 → v2 = nI (tV c N (nX c N s))) := by
  rw [hl, hh, ck8 hw]
  exact ev_takes hN hc hb2 hs hk hf hv x wa rd hr.1 hr.2
theorem ev_sentT (hN : N ≤ 400) (hc : ∀ i, i < N → c i < 256) (hb : ∀ i, i < N → tb i = nI (c i)) (hb2 : ∀ i, i < N → tx i &&& (255 : Int32) = nI (c i)) (hm : WM m) (h : cRd m gc tc lc ti go gaps st sp ve sr lt lz ln) {f : Option (Nat × Nat)} (hA : f = none → rA m told) (hG : GR told)
    {s : Nat} (hs : s < N) (hf : fW f s) (hk : tK c N s = 1) {w : Nat} (hw : w = 8 ∨ w = 9) (hq : sq_ c s (tE c N s - s) w = true) (vc vr wa rd : Int32) (nb : Nat → Int32) :
    SO c N s wa lc ti go lt lz ln gc tc gaps st sp ve sr (J_X6_readSentence_17 (nI N) tb (nI (tE c N s)) (nI (tK c N s)) (nI s) vc (fK f) (fP f) nb gc tc gaps st sp ve sr (nI w)) (J_X11_line_16 (nI N) tx (nI (tE c N s)) (nI s) (nI (rS (tK c N s))) vr (tW c N s) wa (fP f) (fK f) rd told (tW c N s)) := by
  have hm0 := hm
  have h0 := h
  obtain ⟨hg, hS, ht, hl⟩ := hm
  obtain ⟨c1, c2, c3, c4, c5, c6⟩ := h
  obtain ⟨n1, n2⟩ := nT_c ht
  have hw8 : 8 ≤ w := by omega
  have bb := b8_0 hw8
  have cwv : ∀ v, v < 10 → (lg_cmp (tW c N s) (Int64.ofNat (cdN v)) = (0 : Int32)) = (v = w) := fun v hv => cw_ hc (by omega) hk (by omega) hq hv
  have hn1 := nX_b (c := c) (N := N) (s := s) (by omega)
  have hn1s := nX_s (c := c) (N := N) hs
  have hE := tE_b (c := c) (N := N) (s := s) (by omega)
  have F1 := f1_W (m := m) (w := w) hf hn1s
  have E1 : f1_ m f w s = none → f = none ∧ nT m < 8 := by
    intro hh
    unfold f1_ fl_ at hh
    rw [if_neg (show ¬ w = 7 by omega), if_neg (show ¬ w < 7 by omega)] at hh
    by_cases q : nT m = 8
    · rw [if_pos (decide_eq_true q)] at hh
      exact absurd hh (nf_n _ _ _)
    · rw [if_neg (by rw [decide_eq_false q]; decide)] at hh
      exact ⟨hh, by omega⟩
  obtain ⟨v1, C1, V1⟩ := ev_c17 hN hc hb (st := st) hg ht c1 c3 (s := s) (by omega) hf vc nb (w := w) (by omega)
  obtain ⟨v1r, T1, V1r⟩ := ev_token hN hc hb2 (nI s) (nI (rS (tK c N s))) vr (tW c N s) hE.2
  obtain ⟨sg, hsg, esg⟩ : ∃ sg : Int, (sg = if w = 8 then -1 else 1) ∧ J_X11_line_16 (nI N) tx (nI (tE c N s)) (nI s) (nI (rS (tK c N s))) vr (tW c N s) wa (fP f) (fK f) rd told (tW c N s) = J_X11_line_60 (nI N) tx (nI (tE c N s)) (nI s) (nI (rS (tK c N s))) vr (tW c N s) wa (fP f) (fK f) rd told (iI sg) := by
    refine ⟨if w = 8 then -1 else 1, rfl, ?_⟩
    unfold J_X11_line_16 J_X11_line_46
    rw [show (6775152 : Int64) = Int64.ofNat (cdN 7) by decide, show (1668246885 : Int64) = Int64.ofNat (cdN 8) by decide, show (26479 : Int64) = Int64.ofNat (cdN 9) by decide, if_e (cwv 7 (by omega)), if_e (cwv 8 (by omega)), if_e (cwv 9 (by omega)), if_neg (by omega), if_e (cwv 8 (by omega))]
    rcases hw with rfl | rfl
    · rw [if_pos rfl, if_pos rfl, if_pos rfl]; rfl
    · rw [if_neg (by omega), if_pos rfl, if_neg (by omega), if_neg (by omega)]; rfl
  have EF := ev_full (told := told) (m := m) (j := 13) (n := 8) (w := w) (by omega) hf (fun hh => by
    have := hA hh
    rw [this 13 (by decide), n1, ← iI_nI, nK_e (by omega) (by decide)]
    unfold fl_
    rw [if_neg (show ¬ w = 7 by omega), if_neg (show ¬ w < 7 by omega)]
    exact propext ⟨fun q => decide_eq_true q, fun q => of_decide_eq_true q⟩) (fun x y => J_X11_targetLine_21 (nI N) tx (nI (tE c N s)) (nI s) (nI (rS (tK c N s))) vr (tW c N s) wa x y rd told (iI sg))
  have EG : F_X11_targetLine (nI (tE c N s)) (nI N) (nI s) (nI (rS (tK c N s))) vr (tW c N s) wa (fP f) (fK f) rd tx told (iI sg) = J_X11_targetLine_21 (nI N) tx (nI (tE c N s)) (nI s) (nI (rS (tK c N s))) vr (tW c N s) wa (fP (f1_ m f w s)) (fK (f1_ m f w s)) rd told (iI sg) := EF
  rw [C1, if_neg (show ¬ w < 8 by omega), show fu_ = 999996 + 1 + 1 + 1 + 1 from rfl, esg]
  unfold J_X11_line_60
  rw [EG]
  unfold J_X11_targetLine_21
  rw [T1, bs_]
  dsimp only
  rw [show tS c N (tE c N s) = nX c N s from rfl] at *
  have hs1N := hn1.2
  have s01 := hn1s
  clear EF EG esg C1 T1 hn1 hn1s hE
  generalize f1_ m f w s = f1 at *
  generalize nX c N s = s1 at *
  by_cases k1 : tK c N s1 = 2
  · have hs1 := tK_s (c := c) (N := N) (s := s1) (by omega)
    have hn2 := nX_b (c := c) (N := N) (s := s1) (by omega)
    have hn2s := nX_s (c := c) (N := N) (s := s1) hs1
    obtain ⟨v2, C2, V2⟩ := ev_c72 hN hc hb (tc := tc) (st := st) (sp := sp) (ve := ve) (sr := sr) hg c1 (s := s1) (by omega) k1 F1 V1 nb (w := w) (i := 0) (K := 3) (by omega) (by omega) (by omega) (999996 + 1 + 1 + 1)
    obtain ⟨v2r, T2, V2r⟩ := ev_tak8 (m := m) hN hc hb2 (s := s1) (by omega) k1 F1 V1r (tW c N s1) wa rd (w := w) (i := 0) hw8 (l := 0) (h := 2999) (by rw [bb.1.1]; rfl) (by rw [bb.1.2]; rfl) (by rw [bb.1.1, bb.1.2]; omega)
    have W2 := ck_W (m := m) (w := w) (i := 0) (v := tV c N s1) F1 hn2s
    have Z2 := ck8_n (m := m) (f := f1) (w := w) (i := 0) (s := s1) (v := tV c N s1) hw8
    rw [C2, T2, bs_]
    dsimp only
    rw [if_neg (show ¬ (1 : Int32) = 0 by decide)]
    generalize ck_ m f1 w 0 s1 (tV c N s1) = f2 at *
    generalize nX c N s1 = s2 at *
    by_cases k2 : tK c N s2 = 2
    · have hs2 := tK_s (c := c) (N := N) (s := s2) (by omega)
      have hn3 := nX_b (c := c) (N := N) (s := s2) (by omega)
      have hn3s := nX_s (c := c) (N := N) (s := s2) hs2
      obtain ⟨v3, C3, V3⟩ := ev_c72 hN hc hb (tc := tc) (st := st) (sp := sp) (ve := ve) (sr := sr) hg c1 (s := s2) (by omega) k2 W2 V2 (upd nb 0 (nI (tV c N s1))) (w := w) (i := 0 + 1) (K := 3) (by omega) (by omega) (by omega) (999996 + 1 + 1)
      obtain ⟨v3r, T3, V3r⟩ := ev_tak8 (m := m) hN hc hb2 (s := s2) (by omega) k2 W2 V2r (tW c N s2) wa (nI (tV c N s1)) (w := w) (i := 1) hw8 (l := 0) (h := 500) (by rw [bb.2.1.1]; rfl) (by rw [bb.2.1.2]; rfl) (by rw [bb.2.1.1, bb.2.1.2]; omega)
      have W3 := ck_W (m := m) (w := w) (i := 1) (v := tV c N s2) W2 hn3s
      have Z3 := ck8_n (m := m) (f := f2) (w := w) (i := 1) (s := s2) (v := tV c N s2) hw8
      rw [C3, T3, bs_]
      dsimp only
      rw [if_neg (show ¬ (1 : Int32) = 0 by decide)]
      rw [show 0 + 1 = 1 from rfl]
      generalize ck_ m f2 w 1 s2 (tV c N s2) = f3 at *
      generalize nX c N s2 = s3 at *
      by_cases k3 : tK c N s3 = 2
      · have hs3 := tK_s (c := c) (N := N) (s := s3) (by omega)
        have hn4 := nX_b (c := c) (N := N) (s := s3) (by omega)
        have hn4s := nX_s (c := c) (N := N) (s := s3) hs3
        obtain ⟨v4, C4, V4⟩ := ev_c72 hN hc hb (tc := tc) (st := st) (sp := sp) (ve := ve) (sr := sr) hg c1 (s := s3) (by omega) k3 W3 V3 (upd (upd nb 0 (nI (tV c N s1))) 1 (nI (tV c N s2))) (w := w) (i := 1 + 1) (K := 3) (by omega) (by omega) (by omega) (999996 + 1)
        obtain ⟨v4r, T4, V4r⟩ := ev_tak8 (m := m) hN hc hb2 (s := s3) (by omega) k3 W3 V3r (tW c N s3) wa (nI (tV c N s2)) (w := w) (i := 2) hw8 (l := 1) (h := 99) (by rw [bb.2.2.1]; rfl) (by rw [bb.2.2.2]; rfl) (by rw [bb.2.2.1, bb.2.2.2]; omega)
        have W4 := ck_W (m := m) (w := w) (i := 2) (v := tV c N s3) W3 hn4s
        have Z4 := ck8_n (m := m) (f := f3) (w := w) (i := 2) (s := s3) (v := tV c N s3) hw8
        rw [C4, T4, bs_]
        dsimp only
        rw [if_neg (show ¬ (1 : Int32) = 0 by decide)]
        rw [show 1 + 1 = 2 from rfl, show 2 + 1 = 3 from rfl, ev_c72e _ (by omega)]
        generalize ck_ m f3 w 2 s3 (tV c N s3) = f4 at *
        generalize nX c N s3 = s4 at *
        have h91 := tV_b k1
        have h92 := tV_b k2
        have h93 := tV_b k3
        /- what the reference writes -/
        obtain ⟨gA, gB, ⟨g1, g2⟩, ⟨g3, g4⟩⟩ := id hG
        have k0 : ((14 : Int32) + ((3 : Int32) * (told 13))) + (0 : Int32) = nI (14 + 3 * gB) := by rw [g3, a14]; exact nI_add _ 0
        have kk1 : ((14 : Int32) + ((3 : Int32) * (told 13))) + (1 : Int32) = nI (15 + 3 * gB) := by rw [g3, a14, nI_s]; congr 1; omega
        have kk2 : ((14 : Int32) + ((3 : Int32) * (told 13))) + (2 : Int32) = nI (16 + 3 * gB) := by rw [g3, a14, show (2 : Int32) = nI 2 from rfl, nI_add]; congr 1; omega
        have k13 : ∀ a b d : Int32, (upd (upd (upd told (14 + 3 * gB) a) (15 + 3 * gB) b) (16 + 3 * gB) d) 13 = told 13 := fun a b d => by
          rw [upd_at, if_neg (by omega), upd_at, if_neg (by omega), upd_at, if_neg (by omega)]
        have EL : ∃ told2, (if (8 : Int32) ≤ (told 13) then (some ((1 : Int32), nI (tE c N s4), nI s4, nI (rS (tK c N s4)), v4r, tW c N s4, wa, fP f4, fK f4, nI (tV c N s3), told)) else (gd_ (in_b (((14 : Int32) + ((3 : Int32) * (told 13))) + (0 : Int32)) 97) (gd_ (in_b (((14 : Int32) + ((3 : Int32) * (told 13))) + (1 : Int32)) 97) (gd_ (in_b (((14 : Int32) + ((3 : Int32) * (told 13))) + (2 : Int32)) 97) (some ((1 : Int32), nI (tE c N s4), nI s4, nI (rS (tK c N s4)), v4r, tW c N s4, wa, fP f4, fK f4, nI (tV c N s3), (upd (upd (upd (upd told (((14 : Int32) + ((3 : Int32) * (told 13))) + (0 : Int32)).toNatClampNeg ((16 : Int32) * nI (tV c N s1))) (((14 : Int32) + ((3 : Int32) * (told 13))) + (1 : Int32)).toNatClampNeg (iI sg * nI (tV c N s2))) (((14 : Int32) + ((3 : Int32) * (told 13))) + (2 : Int32)).toNatClampNeg (nI (tV c N s3))) 13 (((upd (upd (upd told (((14 : Int32) + ((3 : Int32) * (told 13))) + (0 : Int32)).toNatClampNeg ((16 : Int32) * nI (tV c N s1))) (((14 : Int32) + ((3 : Int32) * (told 13))) + (1 : Int32)).toNatClampNeg (iI sg * nI (tV c N s2))) (((14 : Int32) + ((3 : Int32) * (told 13))) + (2 : Int32)).toNatClampNeg (nI (tV c N s3))) 13) + (1 : Int32))))))))) = some (1, nI (tE c N s4), nI s4, nI (rS (tK c N s4)), v4r, tW c N s4, wa, fP f4, fK f4, nI (tV c N s3), told2) ∧ GR told2 ∧ (f4 = none → rA (at_ m (tV c N s1 : Int) (sg * tV c N s2) (tV c N s3 : Int)) told2) := by
          rw [k0, kk1, kk2]
          by_cases q8 : gB < 8
          · rw [if_neg (show ¬ (8 : Int32) ≤ told 13 by rw [g3]; exact nle_ (a := 8) (by decide) (by omega) q8), gN_ (by omega) (by decide), gN_ (by omega) (by decide), gN_ (by omega) (by decide), nI_clamp (by omega), nI_clamp (by omega), nI_clamp (by omega), k13]
            refine ⟨_, rfl, ⟨gA, gB + 1, ⟨?_, g2⟩, ⟨?_, by omega⟩⟩, fun hf4 => ?_⟩
            · rw [upd_at, if_neg (by omega), upd_at, if_neg (by omega), upd_at, if_neg (by omega), upd_at, if_neg (by omega), g1]
            · rw [upd_at, if_pos rfl, g3, nI_s]
            · obtain ⟨hf3, -⟩ := Z4 hf4
              obtain ⟨hf2, -⟩ := Z3 hf3
              obtain ⟨hf1, -⟩ := Z2 hf2
              obtain ⟨hfn, -⟩ := E1 hf1
              have hr := hA hfn
              have eB : gB = nT m := by
                have : nI gB = nI (nT m) := by rw [← g3, hr 13 (by decide), n1, iI_nI]
                rw [nK_e (by omega) (by omega)] at this
                exact this
              have := rA_at (x := (tV c N s1 : Int)) (v := sg * tV c N s2) (a := (tV c N s3 : Int)) ht hr
              rw [eB, hr 13 (by decide), show (1 : Int32) = iI 1 from rfl, iI_add, iI_nI (tV c N s1), iI_nI (tV c N s2), iI_nI (tV c N s3), show (16 : Int32) = iI 16 from rfl, iI_mul, iI_mul]
              exact this
          · rw [if_pos (show (8 : Int32) ≤ told 13 by rw [g3]; exact yle_ (a := 8) (by decide) (by omega) (by omega))]
            refine ⟨told, rfl, hG, fun hf4 => ?_⟩
            obtain ⟨hf3, -⟩ := Z4 hf4
            obtain ⟨hf2, -⟩ := Z3 hf3
            obtain ⟨hf1, -⟩ := Z2 hf2
            obtain ⟨hfn, h8⟩ := E1 hf1
            have hr := hA hfn
            have : nI gB = nI (nT m) := by rw [← g3, hr 13 (by decide), n1, iI_nI]
            rw [nK_e (by omega) (by omega)] at this
            omega
        obtain ⟨told2, eL, gL, mL⟩ := EL
        rw [eL, bs_, gd_ok (show decide ((1 : Int32) &&& 1 = 1) = true by decide)]
        by_cases k4 : tK c N s4 = 3
        · have hs4 := tK_s (c := c) (N := N) (s := s4) (by omega)
          have nb0 : upd (upd (upd nb 0 (nI (tV c N s1))) 1 (nI (tV c N s2))) 2 (nI (tV c N s3)) 0 = iI (tV c N s1 : Int) := by rw [upd_at, if_neg (by omega), upd_at, if_neg (by omega), upd_at, if_pos rfl, iI_nI]
          have nb1 : upd (upd (upd nb 0 (nI (tV c N s1))) 1 (nI (tV c N s2))) 2 (nI (tV c N s3)) 1 = iI (tV c N s2 : Int) := by rw [upd_at, if_neg (by omega), upd_at, if_pos rfl, iI_nI]
          have nb2 : upd (upd (upd nb 0 (nI (tV c N s1))) 1 (nI (tV c N s2))) 2 (nI (tV c N s3)) 2 = iI (tV c N s3 : Int) := by rw [upd_at, if_pos rfl, iI_nI]
          by_cases hf4 : f4 = none
          · obtain ⟨hf3, z4⟩ := Z4 hf4
            obtain ⟨hf2, z3⟩ := Z3 hf3
            obtain ⟨hf1, z2⟩ := Z2 hf2
            obtain ⟨hfn, h8⟩ := E1 hf1
            rw [bb.2.2.1, bb.2.2.2] at z4
            rw [bb.2.1.1, bb.2.1.2] at z3
            rw [bb.1.1, bb.1.2] at z2
            have hsv : -500 ≤ sg * (tV c N s2 : Int) ∧ sg * (tV c N s2 : Int) ≤ 500 := by
              rw [hsg]
              split <;> omega
            have AT := ev_addTarget (x := (tV c N s1 : Int)) (v := sg * tV c N s2) (a := (tV c N s3 : Int)) ht h8 c3
            obtain ⟨v5, C5, V5⟩ := ev_c122 hN hc hb (gc := gc) (tc := tc) (gaps := gaps) (st := st) (sp := sp) (ve := ve) (sr := sr) (s := s4) (by omega) k4 W4 v4 (upd (upd (upd nb 0 (nI (tV c N s1))) 1 (nI (tV c N s2))) 2 (nI (tV c N s3))) (nI w) (gc2 := gc) (tc2 := tc + 1) (gaps2 := gaps) (st2 := st) (sp2 := upd sp (nT m) (iI (16 * (tV c N s1 : Int)))) (ve2 := upd ve (nT m) (iI (sg * tV c N s2))) (sr2 := upd sr (nT m) (iI (tV c N s3 : Int))) ⟨fun _ => by
              unfold F_X6_apply J_X6_apply_62
              rw [show (7 : Int32) = nI 7 from rfl, if_neg (show ¬ nI w = nI 7 by rw [nK_e (by omega) (by decide)]; omega), if_pos (yle_ (by decide) (by omega) (by omega)), nb0, nb1, nb2, show (8 : Int32) = nI 8 from rfl, if_e (nK_e (a := w) (b := 8) (by omega) (by decide))]
              by_cases q : w = 8
              · have es : -(iI (tV c N s2 : Int)) = iI (sg * tV c N s2) := by
                  rw [iI_neg, hsg, if_pos q]
                  congr 1
                  omega
                rw [if_pos q, es, AT, bs_]
              · have es : iI (tV c N s2 : Int) = iI (sg * tV c N s2) := by
                  rw [hsg, if_neg q, Int.one_mul]
                rw [if_neg q, es, AT, bs_], fun hh => absurd hf4 hh⟩
            rw [C5]
            have ne : ∀ i, (i < 13 ∨ 37 < i) → at_ m (tV c N s1 : Int) (sg * tV c N s2) (tV c N s3 : Int) i = m i := fun i hi => at_ne (by omega)
            exact Or.inr ⟨s4, f4, v5, _, _, _, _, _, _, _, _, _, _, _, ⟨by omega, by omega, k4⟩, rfl, V5, rfl, W4, at_ m (tV c N s1 : Int) (sg * tV c N s2) (tV c N s3 : Int), ⟨WG_c (fun i hi => ne i (by omega)) hg, WS_c (fun i a1 a2 => ne i (by omega)) hS, WT_at ht h8 z2 hsv z4, WL_c (fun i a1 a2 a3 => ne i (by omega)) hl⟩, ⟨cG_c (fun i hi => ne i (by omega)) hg c1, cS_c (fun i a1 a2 => ne i (by omega)) c2, cT_at ht c3, cL_c (fun i a1 a2 => ne i (by omega)) hl c4, by rw [ne _ (by omega)]; exact c5, by rw [ne _ (by omega)]; exact c6⟩, mL, gL⟩
          · obtain ⟨v5, C5, V5⟩ := ev_c122 hN hc hb (gc := gc) (tc := tc) (gaps := gaps) (st := st) (sp := sp) (ve := ve) (sr := sr) (s := s4) (by omega) k4 W4 v4 (upd (upd (upd nb 0 (nI (tV c N s1))) 1 (nI (tV c N s2))) 2 (nI (tV c N s3))) (nI w) (gc2 := gc) (tc2 := tc) (gaps2 := gaps) (st2 := st) (sp2 := sp) (ve2 := ve) (sr2 := sr) ⟨fun hh => absurd hh hf4, fun _ => rfl⟩
            rw [C5]
            exact Or.inr ⟨s4, f4, v5, _, _, _, _, _, _, _, _, _, _, _, ⟨by omega, by omega, k4⟩, rfl, V5, rfl, W4, m, hm0, h0, fun hh => absurd hh hf4, gL⟩
        · rw [ev_c122x k4]
          exact Or.inl ⟨_, _, _, hn4.2, rfl, LW_x k4 _ _ _ _ _ _ _ _⟩
      · rw [ev_c72x k3 _ _ _ _ _ (by omega) (by omega), ev_takes0 k3, bs_]
        dsimp only
        rw [if_pos rfl, bs_, gd_ok (show decide ((0 : Int32) &&& 1 = 0) = true by decide)]
        exact Or.inl ⟨_, _, _, hn3.2, rfl, Or.inl ⟨_, _, _, _, _, _, _, _, _, rfl⟩⟩
    · rw [ev_c72x k2 _ _ _ _ _ (by omega) (by omega), ev_takes0 k2, bs_]
      dsimp only
      rw [if_pos rfl, bs_, gd_ok (show decide ((0 : Int32) &&& 1 = 0) = true by decide)]
      exact Or.inl ⟨_, _, _, hn2.2, rfl, Or.inl ⟨_, _, _, _, _, _, _, _, _, rfl⟩⟩
  · rw [ev_c72x k1 _ _ _ _ _ (by omega) (by omega), ev_takes0 k1, bs_]
    dsimp only
    rw [if_pos rfl, bs_, gd_ok (show decide ((0 : Int32) &&& 1 = 0) = true by decide)]
    exact Or.inl ⟨_, _, _, hs1N, rfl, Or.inl ⟨_, _, _, _, _, _, _, _, _, rfl⟩⟩
end LIT
/-! ===== END ===== -/
