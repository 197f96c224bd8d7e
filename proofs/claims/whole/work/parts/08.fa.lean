/-! ===== BEGIN the state of both; what is kept for undo ===== -/
def WM (m : Nat → Int) : Prop := WG m ∧ WS m ∧ WT m ∧ WL m
def cRd (m : Nat → Int) (gc tc lc ti go : Int32) (gaps st sp ve sr lt lz ln : Nat → Int32) : Prop := cG m gc gaps ∧ cS m st ∧ cT m tc sp ve sr ∧ cL m lc lt lz ln ∧ ti = iI (m 38) ∧ go = iI (m 39)
def cX (m : Nat → Int) (r : RT_X5) : Prop := cRd m r.1 r.2.1 r.2.2.1 r.2.2.2.1 r.2.2.2.2.1 r.2.2.2.2.2.1 r.2.2.2.2.2.2.1 r.2.2.2.2.2.2.2.1 r.2.2.2.2.2.2.2.2.1 r.2.2.2.2.2.2.2.2.2.1 r.2.2.2.2.2.2.2.2.2.2.1 r.2.2.2.2.2.2.2.2.2.2.2.1 r.2.2.2.2.2.2.2.2.2.2.2.2
theorem cy0 {f g : Nat → Int32} {n j : Nat} (h : j < n) : va_cpy f g 0 0 n j = f j := by
  unfold va_cpy
  rw [if_pos (by omega)]
  exact congrArg f (by omega)
theorem cRd_cp {m : Nat → Int} (hm : WM m) {gc tc lc ti go : Int32} {gaps st sp ve sr lt lz ln : Nat → Int32} (h : cRd m gc tc lc ti go gaps st sp ve sr lt lz ln) (a b c d e f g i : Nat → Int32) :
    cRd m gc tc lc ti go (va_cpy gaps a 0 0 5) (va_cpy st b 0 0 7) (va_cpy sp c 0 0 8) (va_cpy ve d 0 0 8) (va_cpy sr e 0 0 8) (va_cpy lt f 0 0 4) (va_cpy lz g 0 0 4) (va_cpy ln i 0 0 48) := by
  obtain ⟨hg, hs, ht, hl⟩ := hm
  obtain ⟨h1, h2, h3, h4, h5, h6⟩ := h
  have b0 := hg.2.1
  have b13 := ht.2.1
  have b40 := hl.1.2
  refine ⟨⟨h1.1, fun k hk => ?_⟩, fun k hk => ?_, ⟨h3.1, fun t hk => ?_⟩, ⟨h4.1, fun k hk => ?_⟩, h5, h6⟩
  · rw [cy0 (by omega)]
    exact h1.2 k hk
  · rw [cy0 hk]
    exact h2 k hk
  · rw [cy0 (by omega), cy0 (by omega), cy0 (by omega)]
    exact h3.2 t hk
  · have q := h4.2 k hk
    have b12 := (hl.2.2.1 k hk).2.1
    refine ⟨by rw [cy0 (by omega)]; exact q.1, by rw [cy0 (by omega)]; exact q.2.1, fun j hj => ?_⟩
    rw [cy0 (by omega)]
    exact q.2.2 j hj
/-- what is kept for undo: the class's ring, the reference's rows -/
def hU (o s : Int32) (ring : Nat → RT_X5) (u : Int32) (un : Nat → Int32) : Prop := ∃ oo ss : Nat, (oo < 8 ∧ ss ≤ 8) ∧ (o = nI oo ∧ s = nI ss ∧ u = nI ss) ∧ ∀ j, j < ss → ∃ m, WM m ∧ cX m (ring ((oo + j) % 8)) ∧ ∀ k, k < 97 → un (97 * j + k) = iI (m k)
theorem ev_k51 (all : Nat → Int32) {u : Nat} (hu : u < 8) : ∀ d k n (r un : Nat → Int32), k + d = 97 → d < n → (∀ i, r i = if 97 * u ≤ i ∧ i < 97 * u + k then all (i - 97 * u) else un i) →
    ∃ f, L_X11_keeps_51 all n (nI u) r (nI k) = some (nI (u + 1), f) ∧ ∀ i, f i = if 97 * u ≤ i ∧ i < 97 * u + 97 then all (i - 97 * u) else un i := by
  intro d
  induction d with
  | zero =>
    intro k n r un a1 a2 a3
    obtain ⟨n, rfl⟩ : ∃ k, n = k + 1 := ⟨n - 1, by omega⟩
    have : k = 97 := by omega
    subst this
    rw [L_X11_keeps_51, if_pos (show (97 : Int32) ≤ nI 97 by decide)]
    unfold J_X11_keeps_83
    rw [nI_s]
    exact ⟨r, rfl, a3⟩
  | succ d ih =>
    intro k n r un a1 a2 a3
    obtain ⟨n, rfl⟩ : ∃ k, n = k + 1 := ⟨n - 1, by omega⟩
    rw [L_X11_keeps_51, show (97 : Int32) = nI 97 from rfl, if_neg (nle_ (by omega) (by omega) (by omega)), pk_mul, nI_add, gN_ (by omega) (by decide), gN_ (by omega) (by decide), nI_clamp (by omega), nI_clamp (by omega), nI_s]
    refine ih (k + 1) n _ un (by omega) (by omega) (fun i => ?_)
    rw [upd_at]
    by_cases c : i = 97 * u + k
    · rw [if_pos c, if_pos (by omega)]
      exact congrArg all (by omega)
    · rw [if_neg c, a3]
      by_cases c2 : 97 * u ≤ i ∧ i < 97 * u + k
      · rw [if_pos c2, if_pos (by omega)]
      · rw [if_neg c2, if_neg (by omega)]
theorem ev_k11 (all un : Nat → Int32) : ∀ d k n (r : Nat → Int32), k + d = 679 → d < n → (∀ i, r i = if i < k then un (i + 97) else un i) →
    ∃ f, L_X11_keeps_11 all n (nI 8) r (nI k) = L_X11_keeps_51 all fu_ (nI 7) f (nI 0) ∧ ∀ i, f i = if i < 679 then un (i + 97) else un i := by
  intro d
  induction d with
  | zero =>
    intro k n r a1 a2 a3
    obtain ⟨n, rfl⟩ : ∃ k, n = k + 1 := ⟨n - 1, by omega⟩
    have : k = 679 := by omega
    subst this
    rw [L_X11_keeps_11, if_pos (show (679 : Int32) ≤ nI 679 by decide)]
    exact ⟨r, rfl, a3⟩
  | succ d ih =>
    intro k n r a1 a2 a3
    obtain ⟨n, rfl⟩ : ∃ k, n = k + 1 := ⟨n - 1, by omega⟩
    rw [L_X11_keeps_11, show (679 : Int32) = nI 679 from rfl, if_neg (nle_ (by omega) (by omega) (by omega)), show (97 : Int32) = nI 97 from rfl, nI_add, gN_ (by omega) (by decide), gN_ (by omega) (by decide), nI_clamp (by omega), nI_clamp (by omega), nI_s]
    refine ih (k + 1) n _ (by omega) (by omega) (fun i => ?_)
    rw [upd_at]
    by_cases c : i = k
    · rw [if_pos c, if_pos (by omega), c, a3, if_neg (by omega)]
    · rw [if_neg c, a3]
      by_cases c2 : i < k
      · rw [if_pos c2, if_pos (by omega)]
      · rw [if_neg c2, if_neg (by omega)]
section SAV
variable {m : Nat → Int} {gc tc lc ti go : Int32} {gaps st sp ve sr lt lz ln : Nat → Int32} {o s u : Int32} {ring : Nat → RT_X5} {all un : Nat → Int32}
theorem ev_sv32 (gc tc lc ti go : Int32) (gaps st sp ve sr lt lz ln : Nat → Int32) (ring : Nat → RT_X5) {oo ss : Nat} (h1 : oo < 8) (h2 : ss < 8) :
    ∃ a b c d e f g i, J_X4_save_32 gc tc lc ti go gaps st sp ve sr lt lz ln (nI oo) (nI ss) ring = some (nI oo, nI (ss + 1), va_up ring ((oo + ss) % 8) (gc, tc, lc, ti, go, va_cpy gaps a 0 0 5, va_cpy st b 0 0 7, va_cpy sp c 0 0 8, va_cpy ve d 0 0 8, va_cpy sr e 0 0 8, va_cpy lt f 0 0 4, va_cpy lz g 0 0 4, va_cpy ln i 0 0 48)) := by
  have em : (nI oo + nI ss) - (nI oo + nI ss) / (8 : Int32) * (8 : Int32) = nI ((oo + ss) % 8) := by
    rw [nI_add, show (8 : Int32) = nI 8 from rfl, nI_mod (by omega) (by decide) (by decide)]
  unfold J_X4_save_32 F_X5_copyFrom
  rw [em, gN_ (by omega) (by decide), nI_clamp (by omega), bs_, nI_s]
  exact ⟨_, _, _, _, _, _, _, _, rfl⟩
theorem ev_save (hm : WM m) (h : cRd m gc tc lc ti go gaps st sp ve sr lt lz ln) (hA : rA m all) (hu : hU o s ring u un) :
    ∃ o2 s2 ring2 u2 un2, F_X4_save o s gc tc lc ti go gaps st sp ve sr lt lz ln ring = some (o2, s2, ring2) ∧ F_X11_keeps u all un = some (u2, un2) ∧ hU o2 s2 ring2 u2 un2 := by
  obtain ⟨oo, ss, ⟨ho, hs⟩, ⟨rfl, rfl, rfl⟩, hj⟩ := hu
  unfold F_X4_save F_X11_keeps
  by_cases c : ss = 8
  · subst c
    rw [if_pos (show nI 8 = (8 : Int32) from rfl), if_pos (show nI 8 = (8 : Int32) from rfl)]
    have em : (nI oo + (1 : Int32)) - (nI oo + (1 : Int32)) / (8 : Int32) * (8 : Int32) = nI ((oo + 1) % 8) := by
      rw [nI_s, show (8 : Int32) = nI 8 from rfl, nI_mod (by omega) (by decide) (by decide)]
    rw [em, show nI 8 - (1 : Int32) = nI 7 from rfl]
    obtain ⟨a, b, c, d, e, f, g, i, e1⟩ := ev_sv32 gc tc lc ti go gaps st sp ve sr lt lz ln ring (oo := (oo + 1) % 8) (ss := 7) (by omega) (by omega)
    obtain ⟨f1, e2, q1⟩ := ev_k11 all un 679 0 fu_ un (by omega) (fu_lt (by decide)) (fun i => by rw [if_neg (by omega)])
    obtain ⟨f2, e3, q2⟩ := ev_k51 all (u := 7) (by omega) 97 0 fu_ f1 f1 (by omega) (fu_lt (by decide)) (fun i => by rw [if_neg (by omega)])
    refine ⟨_, _, _, _, _, e1, e2.trans e3, (oo + 1) % 8, 8, ⟨by omega, by omega⟩, ⟨rfl, rfl, rfl⟩, fun j hj2 => ?_⟩
    by_cases cj : j = 7
    · refine ⟨m, hm, ?_, fun k hk => ?_⟩
      · rw [cj, va_up_self]
        exact cRd_cp hm h _ _ _ _ _ _ _ _
      · rw [q2, if_pos (by omega), show 97 * j + k - 97 * 7 = k by omega, hA k hk]
    · obtain ⟨m1, w1, w2, w3⟩ := hj (j + 1) (by omega)
      refine ⟨m1, w1, ?_, fun k hk => ?_⟩
      · rw [va_up_ne _ _ (by omega), show ((oo + 1) % 8 + j) % 8 = (oo + (j + 1)) % 8 by omega]
        exact w2
      · rw [q2, if_neg (by omega), q1, if_pos (by omega), show 97 * j + k + 97 = 97 * (j + 1) + k by omega, w3 k hk]
  · have hne : ¬ nI ss = (8 : Int32) := by
      rw [iI_nI, show (8 : Int32) = iI 8 from rfl, iI_eq (by omega) (by omega)]
      omega
    rw [if_neg hne, if_neg hne]
    obtain ⟨a, b, c, d, e, f, g, i, e1⟩ := ev_sv32 gc tc lc ti go gaps st sp ve sr lt lz ln ring (oo := oo) (ss := ss) (by omega) (by omega)
    obtain ⟨f2, e3, q2⟩ := ev_k51 all (u := ss) (by omega) 97 0 fu_ un un (by omega) (fu_lt (by decide)) (fun i => by rw [if_neg (by omega)])
    refine ⟨_, _, _, _, _, e1, e3, oo, ss + 1, ⟨by omega, by omega⟩, ⟨rfl, rfl, rfl⟩, fun j hj2 => ?_⟩
    by_cases cj : j = ss
    · refine ⟨m, hm, ?_, fun k hk => ?_⟩
      · rw [cj, va_up_self]
        exact cRd_cp hm h _ _ _ _ _ _ _ _
      · rw [q2, if_pos (by omega), show 97 * j + k - 97 * ss = k by rw [cj]; omega, hA k hk]
    · obtain ⟨m1, w1, w2, w3⟩ := hj j (by omega)
      refine ⟨m1, w1, ?_, fun k hk => ?_⟩
      · rw [va_up_ne _ _ (by omega)]
        exact w2
      · rw [q2, if_neg (by omega), w3 k hk]
theorem ev_u26 (un : Nat → Int32) (ra : Int32) {u : Nat} (hu : u < 8) (all : Nat → Int32) : ∀ d k n (r : Nat → Int32), k + d = 97 → d < n → (∀ i, r i = if i < k then un (97 * u + i) else all i) →
    ∃ f, L_X11_undo_26 un n ra (nI u) r (nI k) = some (nI u, ra, nI u, f) ∧ ∀ i, f i = if i < 97 then un (97 * u + i) else all i := by
  intro d
  induction d with
  | zero =>
    intro k n r a1 a2 a3
    obtain ⟨n, rfl⟩ : ∃ k, n = k + 1 := ⟨n - 1, by omega⟩
    have : k = 97 := by omega
    subst this
    rw [L_X11_undo_26, if_pos (show (97 : Int32) ≤ nI 97 by decide)]
    exact ⟨r, rfl, a3⟩
  | succ d ih =>
    intro k n r a1 a2 a3
    obtain ⟨n, rfl⟩ : ∃ k, n = k + 1 := ⟨n - 1, by omega⟩
    rw [L_X11_undo_26, show (97 : Int32) = nI 97 from rfl, if_neg (nle_ (by omega) (by omega) (by omega)), pk_mul, nI_add, gN_ (by omega) (by decide), gN_ (by omega) (by decide), nI_clamp (by omega), nI_clamp (by omega), nI_s]
    refine ih (k + 1) n _ (by omega) (by omega) (fun i => ?_)
    rw [upd_at]
    by_cases c : i = k
    · rw [if_pos c, if_pos (by omega), c]
    · rw [if_neg c, a3]
      by_cases c2 : i < k
      · rw [if_pos c2, if_pos (by omega)]
      · rw [if_neg c2, if_neg (by omega)]
theorem ev_undo (hm : WM m) (h : cRd m gc tc lc ti go gaps st sp ve sr lt lz ln) (hA : rA m all) (hu : hU o s ring u un) (ra : Int32) :
    ∃ v gc2 tc2 lc2 ti2 go2 gaps2 st2 sp2 ve2 sr2 lt2 lz2 ln2 s2 u2 all2 m2, F_X10_undo gc tc lc ti go gaps st sp ve sr lt lz ln o s ring = some (v, gc2, tc2, lc2, ti2, go2, gaps2, st2, sp2, ve2, sr2, lt2, lz2, ln2, s2) ∧ F_X11_undo ra u all un = some (v, 0, u2, all2) ∧
      WM m2 ∧ cRd m2 gc2 tc2 lc2 ti2 go2 gaps2 st2 sp2 ve2 sr2 lt2 lz2 ln2 ∧ rA m2 all2 ∧ (∀ i, 97 ≤ i → all2 i = all i) ∧ hU o s2 ring u2 un := by
  have hu0 := hu
  obtain ⟨oo, ss, ⟨ho, hs⟩, ⟨rfl, rfl, rfl⟩, hj⟩ := hu
  unfold F_X10_undo F_X11_undo
  by_cases c : ss = 0
  · subst c
    rw [if_pos (show nI 0 = (0 : Int32) from rfl), if_pos (show nI 0 = (0 : Int32) from rfl)]
    exact ⟨_, _, _, _, _, _, _, _, _, _, _, _, _, _, _, _, _, m, rfl, rfl, hm, h, hA, fun _ _ => rfl, hu0⟩
  · have hne : ¬ nI ss = (0 : Int32) := nI_ne0 (by omega) (by omega)
    rw [if_neg hne, if_neg hne, s1_ (by omega)]
    obtain ⟨f, e1, q1⟩ := ev_u26 un 0 (u := ss - 1) (by omega) all 97 0 fu_ all (by omega) (fu_lt (by decide)) (fun i => by rw [if_neg (by omega)])
    obtain ⟨m1, w1, w2, w3⟩ := hj (ss - 1) (by omega)
    have em : (nI oo + nI (ss - 1)) - (nI oo + nI (ss - 1)) / (8 : Int32) * (8 : Int32) = nI ((oo + (ss - 1)) % 8) := by
      rw [nI_add, show (8 : Int32) = nI 8 from rfl, nI_mod (by omega) (by decide) (by decide)]
    unfold F_X4_restore F_X5_copyFrom
    rw [if_neg (show ¬ nI ss ≤ (0 : Int32) from nle_ (b := 0) (by omega) (by omega) (by omega)), s1_ (by omega), em, gN_ (by omega) (by decide), nI_clamp (by omega), bs_, bs_]
    refine ⟨_, _, _, _, _, _, _, _, _, _, _, _, _, _, _, _, f, m1, rfl, e1, w1, cRd_cp w1 w2 _ _ _ _ _ _ _ _, fun k hk => by rw [q1, if_pos hk, w3 k hk], fun i hi => by rw [q1, if_neg (by omega)], oo, ss - 1, ⟨by omega, by omega⟩, ⟨rfl, rfl, rfl⟩, fun j hj2 => hj j (by omega)⟩
end SAV
/-! ===== END ===== -/
