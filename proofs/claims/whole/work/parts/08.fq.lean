/-! ===== BEGIN read ===== -/
section REA
variable {c : Nat → Nat} {N : Nat} {tb tx : Nat → Int32} {gc tc lc ti go : Int32} {gaps st sp ve sr lt lz ln told : Nat → Int32}
theorem ev_sent (hN : N ≤ 400) (hc : ∀ i, i < N → c i < 256) (hb : ∀ i, i < N → tb i = nI (c i)) (hb2 : ∀ i, i < N → tx i &&& (255 : Int32) = nI (c i)) {f : Option (Nat × Nat)} (hR : RR f gc tc lc ti go gaps st sp ve sr lt lz ln told)
    {s : Nat} (hs : s < N) (hf : fW f s) (vc vr wa rd : Int32) (nb : Nat → Int32) :
    SO c N s wa lc ti go lt lz ln gc tc gaps st sp ve sr (F_X6_readSentence (nI (tE c N s)) (nI (tK c N s)) (nI s) vc (fK f) (fP f) nb (nI N) tb gc tc gaps st sp ve sr) (F_X11_line (nI (tE c N s)) (nI N) (nI s) (nI (rS (tK c N s))) vr (tW c N s) wa (fP f) (fK f) rd tx told) := by
  obtain ⟨m, hm, h, hA, hG⟩ := hR
  have kb := tK_b c N s
  have hE := tE_b (c := c) (N := N) (s := s) (by omega)
  have wrong : ∀ (x : Int64), (∀ v, v < 10 → ¬ lg_cmp x (Int64.ofNat (cdN v)) = (0 : Int32)) → SO c N s wa lc ti go lt lz ln gc tc gaps st sp ve sr (J_X6_readSentence_17 (nI N) tb (nI (tE c N s)) (nI (tK c N s)) (nI s) vc (fK f) (fP f) nb gc tc gaps st sp ve sr (-1)) (J_X11_line_16 (nI N) tx (nI (tE c N s)) (nI s) (nI (rS (tK c N s))) vr (tW c N s) wa (fP f) (fK f) rd told x) := by
    intro x hx
    obtain ⟨a1, a2, a3, a4, a5, a7, a8, a9, a10, e⟩ := ev_lineN (N := N) (tx := tx) (told := told) (nI (tE c N s)) (nI s) (nI (rS (tK c N s))) vr wa (fP f) (fK f) rd (tW c N s) x hx
    rw [e]
    refine Or.inl ⟨s, vc, nb, by omega, ?_, Or.inl ⟨_, _, _, _, _, _, _, _, _, rfl⟩⟩
    unfold J_X6_readSentence_17
    rw [if_pos rfl]
    rfl
  unfold F_X6_readSentence F_X11_line
  rw [if_e (rS_e _ kb).2.1, show (1 : Int32) = nI 1 from rfl, if_e (nK_e (a := tK c N s) (b := 1) (by omega) (by decide))]
  by_cases hk : tK c N s = 1
  · rw [if_pos hk, if_pos hk]
    rcases ev_wordOf hN hc hb hE.1 hE.2 with ⟨w, hw, hq, e⟩ | ⟨hq, e⟩
    · rw [e, bs_]
      rcases (show w < 7 ∨ w = 7 ∨ (w = 8 ∨ w = 9) by omega) with q | q | q
      · exact ev_sent7 hN hc hb hb2 hm h hA hG hs hf hk q hq vc vr wa rd nb
      · subst q
        exact ev_sentG hN hc hb hb2 hm h hA hG hs hf hk hq vc vr wa rd nb
      · exact ev_sentT hN hc hb hb2 hm h hA hG hs hf hk q hq vc vr wa rd nb
    · rw [e, bs_]
      refine wrong _ (fun v hv => ?_)
      rw [wd_c hc (by omega) hk hv, hq v hv]
      decide
  · rw [if_neg hk, if_neg hk]
    exact wrong 0 (fun v hv => wd_0 hv)
/-- how a reading ends, by both -/
def RE (lc ti go : Int32) (lt lz ln : Nat → Int32) (C : Option (Int32 × Int32 × Int32 × Int32 × Int32 × Int32 × (Nat → Int32) × Int32 × Int32 × Int32 × Int32 × Int32 × (Nat → Int32) × (Nat → Int32) × (Nat → Int32) × (Nat → Int32) × (Nat → Int32))) (tx : Nat → Int32) (ra u : Int32) (N : Nat) (all : Nat → Int32) (L : Option (Int32 × Int32 × Int32 × Int32 × Int32 × Int32 × Int32 × Int32 × Int64 × Int32 × Int32 × Int32 × Int32 × (Nat → Int32) × (Nat → Int32))) : Prop :=
  ∃ e k s v nb gc2 tc2 gaps2 st2 sp2 ve2 sr2 a1 a3 a4 a5 a6 wa2 ba bd rd2 told2,
    (∃ q : Nat, C = some (e, k, s, v, 1, nI q, nb, gc2, tc2, lc, ti, go, gaps2, st2, sp2, ve2, sr2) ∧ wa2 = nI q ∧ L = J_X11_read_78 tx ra u a1 (nI N) a3 a4 a5 a6 wa2 ba bd rd2 all told2 0) ∨
    (∃ f q, fW f q ∧ C = some (e, k, s, v, fK f, fP f, nb, gc2, tc2, lc, ti, go, gaps2, st2, sp2, ve2, sr2) ∧ ba = fP f ∧ bd = fK f ∧ RR f gc2 tc2 lc ti go gaps2 st2 sp2 ve2 sr2 lt lz ln told2 ∧ L = J_X11_read_78 tx ra u a1 (nI N) a3 a4 a5 a6 wa2 ba bd rd2 all told2 1)
theorem ev_reading (hN : N ≤ 400) (hc : ∀ i, i < N → c i < 256) (hb : ∀ i, i < N → tb i = nI (c i)) (hb2 : ∀ i, i < N → tx i &&& (255 : Int32) = nI (c i)) (ra u : Int32) (all : Nat → Int32) :
    ∀ (d s i n1 n2 : Nat) (f : Option (Nat × Nat)) (gc tc : Int32) (gaps st sp ve sr told : Nat → Int32) (vc vr wa rd : Int32) (nb : Nat → Int32), N - s < d → s ≤ N → i ≤ s → d < n1 → d < n2 → fW f s → RR f gc tc lc ti go gaps st sp ve sr lt lz ln told →
      RE lc ti go lt lz ln (L_X6_readInto_26 (nI N) tb n1 (nI (tE c N s)) (nI (tK c N s)) (nI s) vc (fK f) (fP f) nb gc tc lc ti go gaps st sp ve sr (nI i)) tx ra u N all (L_X11_read_34 tx n2 ra u (nI (tE c N s)) (nI N) (nI s) (nI (rS (tK c N s))) vr (tW c N s) wa (fP f) (fK f) rd all told 1) := by
  intro d
  induction d with
  | zero =>
    intro s i n1 n2 f gc tc gaps st sp ve sr told vc vr wa rd nb h1
    omega
  | succ d ih =>
    intro s i n1 n2 f gc tc gaps st sp ve sr told vc vr wa rd nb h1 h2 h3 h4 h5 hf hR
    obtain ⟨n1, rfl⟩ : ∃ k, n1 = k + 1 := ⟨n1 - 1, by omega⟩
    obtain ⟨n2, rfl⟩ : ∃ k, n2 = k + 1 := ⟨n2 - 1, by omega⟩
    have kb := tK_b c N s
    have k0 : (nI (tK c N s) = (0 : Int32)) = (tK c N s = 0) := by
      rw [show (0 : Int32) = nI 0 from rfl, nK_e (by omega) (by decide)]
    rw [L_X6_readInto_26, L_X11_read_34, if_neg (show ¬ (1 : Int32) = 0 by decide), if_e k0, if_e (rS_e _ kb).2.2.2, if_neg (fK_1 hf)]
    by_cases hk : tK c N s = 0
    · rw [if_pos hk, if_pos hk, ite_self]
      exact ⟨_, _, _, _, _, _, _, _, _, _, _, _, _, _, _, _, _, _, _, _, _, _, Or.inr ⟨f, s, hf, rfl, rfl, rfl, hR, rfl⟩⟩
    · have hs := tK_s hk
      rw [if_neg hk, if_neg hk, if_neg (show ¬ (400 : Int32) ≤ nI i from nle_ (a := 400) (by decide) (by omega) (by omega))]
      rcases ev_sent hN hc hb hb2 hR hs hf vc vr wa rd nb with ⟨q, vq, nb2, hq, eC, eL⟩ | ⟨q, f2, v2, vr2, nb2, gc2, tc2, gaps2, st2, sp2, ve2, sr2, rd2, told2, ⟨q1, q2, q3⟩, eC, V2, eL, W2, R2⟩
      · rw [eC, bs_]
        dsimp only
        obtain ⟨n1, rfl⟩ : ∃ k, n1 = k + 1 := ⟨n1 - 1, by omega⟩
        obtain ⟨n2, rfl⟩ : ∃ k, n2 = k + 1 := ⟨n2 - 1, by omega⟩
        rw [L_X6_readInto_26, if_pos (show (1 : Int32) = 1 from rfl), ite_self, ite_self]
        rcases eL with ⟨a1, a2, a3, a4, a5, a7, a8, a9, a10, eL⟩ | ⟨a1, a3, a4, a5, a6, a7, a8, a9, a10, eL, h4⟩
        · rw [eL, bs_]
          dsimp only
          rw [if_pos rfl]
          unfold J_X11_read_67
          rw [if_pos rfl, L_X11_read_34, if_pos rfl]
          exact ⟨_, _, _, _, _, _, _, _, _, _, _, _, _, _, _, _, _, _, _, _, _, _, Or.inl ⟨q, rfl, rfl, rfl⟩⟩
        · rw [eL, bs_]
          dsimp only
          rw [if_neg (show ¬ (1 : Int32) = 0 by decide), if_neg h4]
          unfold F_X11_fails J_X11_read_67
          rw [bs_]
          dsimp only
          rw [if_pos rfl, L_X11_read_34, if_pos rfl]
          exact ⟨_, _, _, _, _, _, _, _, _, _, _, _, _, _, _, _, _, _, _, _, _, _, Or.inl ⟨q, rfl, rfl, rfl⟩⟩
      · have hE := tE_b (c := c) (N := N) (s := q) (by omega)
        have hX := nX_b (c := c) (N := N) (s := q) (by omega)
        have hXs := nX_s (c := c) (N := N) (s := q) q2
        obtain ⟨vr3, T3, V3⟩ := ev_token hN hc hb2 (nI q) (nI (rS (tK c N q))) vr2 (tW c N q) hE.2
        rw [eC, bs_, eL, bs_]
        dsimp only
        rw [if_neg (show ¬ (1 : Int32) = 0 by decide), if_pos (show nI (rS (tK c N q)) = (4 : Int32) by rw [q3]; rfl), nI_s]
        unfold J_X11_read_67
        rw [if_neg (show ¬ (1 : Int32) = 0 by decide), T3, bs_]
        exact ih (nX c N q) (i + 1) n1 n2 f2 gc2 tc2 gaps2 st2 sp2 ve2 sr2 told2 v2 vr3 wa rd2 nb2 (by omega) (by omega) (by omega) (by omega) (by omega) (fW_le W2 (by omega)) R2
end REA
/-- all as at first -/
def m0_ : Nat → Int := fun i => if i = 6 then 60 else if i = 8 then 1 else if i = 9 then 500 else if i = 10 then 2 else if i = 11 then 100 else if i = 12 then 1 else 0
theorem WM_0 : WM m0_ := by
  refine ⟨⟨by decide, by decide, fun k hk => ?_, fun i j _ hj => ?_⟩, by unfold WS; decide, ⟨by decide, by decide, fun t ht => ?_⟩, ⟨by decide, by decide, fun i hi => ?_, fun i j _ hj => ?_⟩⟩
  · have : m0_ 0 = 0 := rfl
    omega
  · have : m0_ 0 = 0 := rfl
    omega
  · have : m0_ 13 = 0 := rfl
    omega
  · have : m0_ 40 = 0 := rfl
    omega
  · have : m0_ 40 = 0 := rfl
    omega
theorem tA_0 : ∀ k, k < 7 → tb_A.getD k 0 = iI (m0_ (6 + k)) := by decide
theorem cRd_0 (gaps st sp ve sr lt lz ln : Nat → Int32) (hs : ∀ k, k < 7 → st k = tb_A.getD k 0) : cRd m0_ 0 0 0 0 0 gaps st sp ve sr lt lz ln := by
  refine ⟨⟨rfl, fun k hk => ?_⟩, fun k hk => by rw [hs k hk, tA_0 k hk], ⟨rfl, fun t ht => ?_⟩, ⟨rfl, fun i hi => ?_⟩, rfl, rfl⟩
  · have : m0_ 0 = 0 := rfl
    omega
  · have : m0_ 13 = 0 := rfl
    omega
  · have : m0_ 40 = 0 := rfl
    omega
theorem ev_atFirst (rc ba bd : Int32) (told : Nat → Int32) : ∃ t2, F_X11_atFirst rc ba bd told = some (0, -1, 0, t2) ∧ rA m0_ t2 := by
  have main : ∀ d k n (r : Nat → Int32), k + d = 97 → d < n → (∀ i, i < k → r i = 0) → ∃ t2, L_X11_atFirst_2 n rc ba bd r (nI k) = some (0, -1, 0, t2) ∧ rA m0_ t2 := by
    intro d
    induction d with
    | zero =>
      intro k n r a1 a2 a3
      obtain ⟨n, rfl⟩ : ∃ k, n = k + 1 := ⟨n - 1, by omega⟩
      have : k = 97 := by omega
      subst this
      rw [L_X11_atFirst_2, if_pos (show (97 : Int32) ≤ nI 97 by decide)]
      refine ⟨_, rfl, fun i hi => ?_⟩
      rw [upd_at, upd_at, upd_at, upd_at, upd_at, upd_at, a3 i hi]
      unfold m0_
      by_cases q12 : i = 12
      · subst q12; rfl
      rw [if_neg q12]
      by_cases q11 : i = 11
      · subst q11; rfl
      rw [if_neg q11]
      by_cases q10 : i = 10
      · subst q10; rfl
      rw [if_neg q10]
      by_cases q9 : i = 9
      · subst q9; rfl
      rw [if_neg q9]
      by_cases q8 : i = 8
      · subst q8; rfl
      rw [if_neg q8]
      by_cases q6 : i = 6
      · subst q6; rfl
      rw [if_neg q6, if_neg q6, if_neg q8, if_neg q9, if_neg q10, if_neg q11, if_neg q12]
      rfl
    | succ d ih =>
      intro k n r a1 a2 a3
      obtain ⟨n, rfl⟩ : ∃ k, n = k + 1 := ⟨n - 1, by omega⟩
      rw [L_X11_atFirst_2, show (97 : Int32) = nI 97 from rfl, if_neg (nle_ (by omega) (by omega) (by omega)), gN_ (by omega) (by decide), nI_clamp (by omega), nI_s]
      refine ih (k + 1) n _ (by omega) (by omega) (fun i hi => ?_)
      rw [upd_at]
      by_cases q : i = k
      · rw [if_pos q]
      · rw [if_neg q]
        exact a3 i (by omega)
  exact main 97 0 fu_ told (by omega) (fu_lt (by decide)) (fun i hi => by omega)
theorem ev_taken (u : Int32) (all told : Nat → Int32) : ∃ a2, F_X11_taken u all told = some (0, a2) ∧ ∀ i, a2 i = if i < 97 then told i else all i := by
  have main : ∀ d k n (r : Nat → Int32), k + d = 97 → d < n → (∀ i, r i = if i < k then told i else all i) → ∃ a2, L_X11_taken_2 told n u r (nI k) = some (0, a2) ∧ ∀ i, a2 i = if i < 97 then told i else all i := by
    intro d
    induction d with
    | zero =>
      intro k n r a1 a2 a3
      obtain ⟨n, rfl⟩ : ∃ k, n = k + 1 := ⟨n - 1, by omega⟩
      have : k = 97 := by omega
      subst this
      rw [L_X11_taken_2, if_pos (show (97 : Int32) ≤ nI 97 by decide)]
      exact ⟨r, rfl, a3⟩
    | succ d ih =>
      intro k n r a1 a2 a3
      obtain ⟨n, rfl⟩ : ∃ k, n = k + 1 := ⟨n - 1, by omega⟩
      rw [L_X11_taken_2, show (97 : Int32) = nI 97 from rfl, if_neg (nle_ (by omega) (by omega) (by omega)), gN_ (by omega) (by decide), gN_ (by omega) (by decide), nI_clamp (by omega), nI_s]
      refine ih (k + 1) n _ (by omega) (by omega) (fun i => ?_)
      rw [upd_at]
      by_cases q : i = k
      · rw [if_pos q, if_pos (by omega), q]
      · rw [if_neg q, a3]
        by_cases q2 : i < k
        · rw [if_pos q2, if_pos (by omega)]
        · rw [if_neg q2, if_neg (by omega)]
  exact main 97 0 fu_ all (by omega) (fu_lt (by decide)) (fun i => by rw [if_neg (by omega)])
theorem an_255 (x : Int32) : x &&& (255 : Int32) = nI (x.toBitVec.toNat % 256) := by
  apply Int32.toBitVec.inj
  apply BitVec.eq_of_toNat_eq
  rw [nI_bv (by omega)]
  show (x.toBitVec &&& 255#32).toNat = _
  rw [BitVec.toNat_and]
  exact Nat.and_two_pow_sub_one_eq_mod _ 8
section REB
variable {m : Nat → Int} {gc tc lc ti go : Int32} {gaps st sp ve sr lt lz ln : Nat → Int32} {ts fk fp : Int32} {tb : Nat → Int32} {o s u : Int32} {ring : Nat → RT_X5} {all tx un : Nat → Int32}
theorem ev_read (hm : WM m) (h : cRd m gc tc lc ti go gaps st sp ve sr lt lz ln) (hA : rA m all) (hT : tX ts fk fp tb all 0 tx) (hu : hU o s ring u un)
    (dgc dtc dlc dti dgo : Int32) (dgaps dst dsp dve dsr dlt dlz dln : Nat → Int32) (rne rki rst rva rfk rfp : Int32) (rnb : Nat → Int32) (ra rre rle rbe rso rvl : Int32) (rwd : Int64) (rwa rba rbd rrd : Int32) (told : Nat → Int32) :
    ∃ v gc2 tc2 lc2 ti2 go2 gaps2 st2 sp2 ve2 sr2 lt2 lz2 ln2 e1 e2 e3 e4 e5 e6 e7 e8 e9 e10 fk2 fp2 x1 x2 x3 x4 x5 x6 x7 s2 u2 y1 y2 y3 y4 y5 y6 y7 y8 y9 y10 all2 told2 m2,
      F_X10_read gc tc lc ti go gaps st sp ve sr lt lz ln dgc dtc dlc dti dgo dgaps dst dsp dve dsr dlt dlz dln ts fk fp tb rne rki rst rva rfk rfp rnb s = some (v, gc2, tc2, lc2, ti2, go2, gaps2, st2, sp2, ve2, sr2, lt2, lz2, ln2, e1, e2, e3, e4, e5, e6, e7, e8, e9, e10, 0, fk2, fp2, x1, x2, x3, x4, x5, x6, x7, s2) ∧
      F_X11_read ra u rre rle rbe rso rvl rwd rwa rba rbd rrd all tx told = some (v, 0, u2, y1, y2, y3, y4, y5, y6, y7, y8, y9, y10, all2, told2) ∧
      WM m2 ∧ cRd m2 gc2 tc2 lc2 ti2 go2 gaps2 st2 sp2 ve2 sr2 lt2 lz2 ln2 ∧ rA m2 all2 ∧ tX 0 fk2 fp2 tb all2 0 tx ∧ (∀ i, 100 ≤ i → all2 i = all i) ∧ hU o s2 ring u2 un := by
  obtain ⟨⟨N, hN, rfl⟩, a2, a3, a4, a5⟩ := hT
  have a2 : all 97 = nI N := a2
  have a5 : ∀ i, i < 400 → tb i = tx i &&& (255 : Int32) := fun i hi => by
    have := a5 i hi
    rw [Nat.mul_zero, Nat.zero_add] at this
    exact this
  have hc : ∀ i, i < N → (fun i => (tx i).toBitVec.toNat % 256) i < 256 := fun i _ => Nat.mod_lt _ (by decide)
  have hb2 : ∀ i, i < N → tx i &&& (255 : Int32) = nI ((fun i => (tx i).toBitVec.toNat % 256) i) := fun i _ => an_255 (tx i)
  have hb : ∀ i, i < N → tb i = nI ((fun i => (tx i).toBitVec.toNat % 256) i) := fun i hi => by rw [a5 i (by omega), hb2 i hi]
  generalize (fun i => (tx i).toBitVec.toNat % 256) = c at hc hb hb2
  obtain ⟨t2, eF, rF⟩ := ev_atFirst rre rba rbd told
  obtain ⟨v0, C0, V0⟩ := ev_step hN hc hb rki rst rva (Nat.zero_le N)
  obtain ⟨v0r, T0, V0r⟩ := ev_token hN hc hb2 rbe rso rvl rwd (Nat.zero_le N)
  have C0 : F_X6_step (0 : Int32) rki rst rva (nI N) tb = _ := C0
  have T0 : F_X11_token (0 : Int32) (nI N) rbe rso rvl rwd tx = _ := T0
  have hS0 := tS_b (c := c) (N := N) (p := 0) (Nat.zero_le _)
  have R0 : RR none 0 0 0 0 0 dgaps (va_cpy (fun j => tb_A.getD j 0) dst 0 0 7) dsp dve dsr dlt dlz dln t2 := ⟨m0_, WM_0, cRd_0 _ _ _ _ _ _ _ _ (fun k hk => cy0 hk), fun _ => rF, GR_m WM_0.1 WM_0.2.2.1 rF⟩
  have main := ev_reading hN hc hb hb2 0 u (upd all 97 0) (N + 1) (tS c N 0) 0 fu_ fu_ none 0 0 dgaps (va_cpy (fun j => tb_A.getD j 0) dst 0 0 7) dsp dve dsr t2 v0 v0r rwa rrd rnb (by omega) hS0.2 (Nat.zero_le _) (fu_lt (by omega)) (fu_lt (by omega)) (fun x hx => by cases hx) R0
  unfold F_X10_read F_X6_readInto F_X5_begin F_X11_read
  rw [bs_, C0, bs_, eF, bs_, a2]
  dsimp only
  rw [T0, bs_]
  obtain ⟨e, k, ss, v, nb, gc2, tc2, gaps2, st2, sp2, ve2, sr2, b1, b3, b4, b5, b6, wa2, ba, bd, rd2, told2, hh⟩ := main
  rcases hh with ⟨q, eC, rfl, eL⟩ | ⟨f, q, W, eC, rfl, rfl, R, eL⟩
  · have eC : L_X6_readInto_26 (nI N) tb fu_ (nI (tE c N (tS c N 0))) (nI (tK c N (tS c N 0))) (nI (tS c N 0)) v0 0 (-1) rnb 0 0 0 0 0 dgaps (va_cpy (fun j => tb_A.getD j 0) dst 0 0 7) dsp dve dsr 0 = _ := eC
    have eL : L_X11_read_34 tx fu_ 0 u (nI (tE c N (tS c N 0))) (nI N) (nI (tS c N 0)) (nI (rS (tK c N (tS c N 0)))) v0r (tW c N (tS c N 0)) rwa (-1) 0 rrd (upd all 97 0) t2 1 = _ := eL
    rw [eC, bs_, eL]
    dsimp only
    rw [if_neg (show ¬ (1 : Int32) = 0 by decide)]
    unfold J_X11_read_78 J_X11_read_96 J_X11_read_118
    rw [if_pos rfl, gd_ok (show in_b (98 : Int32) 500 = true from rfl), if_pos rfl, gd_ok (show in_b (99 : Int32) 500 = true from rfl), show (98 : Int32).toNatClampNeg = 98 from rfl, show (99 : Int32).toNatClampNeg = 99 from rfl]
    rw [if_neg (show ¬ upd (upd (upd all 97 0) 98 1) 99 (nI q) 98 = 0 by rw [upd_at, if_neg (by omega), upd_at, if_pos rfl]; decide)]
    refine ⟨_, _, _, _, _, _, _, _, _, _, _, _, _, _, _, _, _, _, _, _, _, _, _, _, _, _, _, _, _, _, _, _, _, _, _, _, _, _, _, _, _, _, _, _, _, _, _, m, rfl, rfl, hm, h, fun i hi => ?_, ⟨⟨0, by omega, rfl⟩, ?_, ?_, ?_, fun i hi => ?_⟩, fun i hi => ?_, hu⟩
    · rw [upd_at, if_neg (by omega), upd_at, if_neg (by omega), upd_at, if_neg (by omega), hA i hi]
    · rw [upd_at, if_neg (by omega), upd_at, if_neg (by omega), upd_at, if_pos rfl]
    · rw [upd_at, if_neg (by omega), upd_at, if_pos rfl]
    · rw [upd_at, if_pos rfl]
    · rw [Nat.mul_zero, Nat.zero_add]
      exact a5 i hi
    · rw [upd_at, if_neg (by omega), upd_at, if_neg (by omega), upd_at, if_neg (by omega)]
  · have eC : L_X6_readInto_26 (nI N) tb fu_ (nI (tE c N (tS c N 0))) (nI (tK c N (tS c N 0))) (nI (tS c N 0)) v0 0 (-1) rnb 0 0 0 0 0 dgaps (va_cpy (fun j => tb_A.getD j 0) dst 0 0 7) dsp dve dsr 0 = _ := eC
    have eL : L_X11_read_34 tx fu_ 0 u (nI (tE c N (tS c N 0))) (nI N) (nI (tS c N 0)) (nI (rS (tK c N (tS c N 0)))) v0r (tW c N (tS c N 0)) rwa (-1) 0 rrd (upd all 97 0) t2 1 = _ := eL
    rw [eC, bs_, eL]
    dsimp only
    unfold J_X11_read_78 J_X11_read_96 J_X11_read_118
    rw [if_neg (show ¬ (1 : Int32) = 0 by decide), gd_ok (show in_b (98 : Int32) 500 = true from rfl), if_neg (show ¬ (1 : Int32) = 0 by decide), gd_ok (show in_b (99 : Int32) 500 = true from rfl), show (98 : Int32).toNatClampNeg = 98 from rfl, show (99 : Int32).toNatClampNeg = 99 from rfl]
    have e98 : upd (upd (upd all 97 0) 98 (fK f)) 99 (fP f) 98 = fK f := by rw [upd_at, if_neg (by omega), upd_at, if_pos rfl]
    rw [e98, if_e (fK_0 W), if_e (fK_0 W)]
    by_cases hf : f = none
    · obtain ⟨m1, w1, w2, w3, w4⟩ := R
      obtain ⟨al2, eT, qT⟩ := ev_taken u (upd (upd (upd all 97 0) 98 (fK f)) 99 (fP f)) told2
      unfold F_X5_copyFrom F_X4_forget
      rw [if_pos hf, if_pos hf, bs_, bs_, eT, bs_]
      dsimp only
      obtain ⟨oo, ss, ⟨ho, hs⟩, ⟨r1, r2, r3⟩, hj⟩ := hu
      have g0 : gc2 = al2 0 := by rw [qT, if_pos (by decide), (w3 hf) 0 (by decide)]; exact w2.1.1
      rw [← g0]
      refine ⟨_, _, _, _, _, _, _, _, _, _, _, _, _, _, _, _, _, _, _, _, _, _, _, _, _, _, _, _, _, _, _, _, _, _, _, _, _, _, _, _, _, _, _, _, _, al2, _, m1, rfl, rfl, w1, cRd_cp w1 w2 _ _ _ _ _ _ _ _, fun i hi => ?_, ⟨⟨0, by omega, rfl⟩, ?_, ?_, ?_, fun i hi => ?_⟩, fun i hi => ?_, oo, 0, ⟨ho, by omega⟩, ⟨r1, rfl, rfl⟩, fun j hj => by omega⟩
      · rw [qT, if_pos hi, (w3 hf) i hi]
      · rw [qT, if_neg (by omega), upd_at, if_neg (by omega), upd_at, if_neg (by omega), upd_at, if_pos rfl]
      · rw [qT, if_neg (by omega)]
        exact e98
      · rw [qT, if_neg (by omega), upd_at, if_pos rfl]
      · rw [Nat.mul_zero, Nat.zero_add]
        exact a5 i hi
      · rw [qT, if_neg (by omega), upd_at, if_neg (by omega), upd_at, if_neg (by omega), upd_at, if_neg (by omega)]
    · rw [if_neg hf, if_neg hf]
      refine ⟨_, _, _, _, _, _, _, _, _, _, _, _, _, _, _, _, _, _, _, _, _, _, _, _, _, _, _, _, _, _, _, _, _, _, _, _, _, _, _, _, _, _, _, _, _, _, _, m, rfl, rfl, hm, h, fun i hi => ?_, ⟨⟨0, by omega, rfl⟩, ?_, ?_, ?_, fun i hi => ?_⟩, fun i hi => ?_, hu⟩
      · rw [upd_at, if_neg (by omega), upd_at, if_neg (by omega), upd_at, if_neg (by omega), hA i hi]
      · rw [upd_at, if_neg (by omega), upd_at, if_neg (by omega), upd_at, if_pos rfl]
      · exact e98
      · rw [upd_at, if_pos rfl]
      · rw [Nat.mul_zero, Nat.zero_add]
        exact a5 i hi
      · rw [upd_at, if_neg (by omega), upd_at, if_neg (by omega), upd_at, if_neg (by omega)]
end REB
/-! ===== END ===== -/
