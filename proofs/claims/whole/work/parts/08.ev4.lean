/-! ===== BEGIN dark, blind, doppler, shaken: the calls ===== -/
/-- the span's end: speeds run from 1 up to it -/
def nS (m : Nat → Int) : Nat := (m 11).toNat
theorem nS_c {m : Nat → Int} (h : WS m) : m 11 = (nS m : Int) ∧ 1 ≤ nS m ∧ nS m ≤ 200 := by
  obtain ⟨-, -, -, -, -, h11, -⟩ := h
  unfold nS
  omega
theorem ev_countDark {m : Nat → Int} {gc : Int32} {gaps st : Nat → Int32} (hg : WG m) (hw : WS m) (hG : cG m gc gaps) (hS : cS m st) :
    F_X7_countDark gc gaps st = some (nI (ct_ (fun v => dk_ m v) 1 (nS m))) := by
  obtain ⟨hn, h5⟩ := nG_c hg
  obtain ⟨h11, h1, h2⟩ := nS_c hw
  obtain ⟨-, -, -, -, h10, -⟩ := id hw
  have h := lp_ct (P := fun v => dk_ m v) (N := nS m + 1) (fun n x k => L_X7_countDark_4 gc gaps st n x k) some ?_ ?_ (nS m) 1 fu_ 0 (by omega) (fu_lt (by omega))
  · rw [Nat.zero_add] at h
    exact h
  · intro n x k hk
    show L_X7_countDark_4 gc gaps st (n + 1) x (nI k) = _
    by_cases hk0 : k = 0
    · subst hk0
      rw [L_X7_countDark_4, show st 5 = iI (m 11) from hS 5 (by decide), h11, ← iI_nI, if_neg (by rw [nI_lt2 (by omega) (by omega)]; omega), show nI 0 = iI 0 from rfl, ev_countOpen hg hw hG hS (by omega), bs_, show st 4 = iI (m 10) from hS 4 (by decide)]
      have hb := bc_le m 0
      rw [if_e (iI_le (by omega) (by omega)), show iI 0 + (1 : Int32) = nI (0 + 1) from rfl]
      unfold dk_
      by_cases c : m 10 ≤ (nG m : Int) - (bc_ m 0 : Int)
      · rw [if_pos c, if_neg (by simp; omega)]
      · rw [if_neg c, if_pos (by simp; omega)]
    rw [L_X7_countDark_4, show st 5 = iI (m 11) from hS 5 (by decide), h11, ← iI_nI, if_neg (by rw [nI_lt2 (by omega) (by omega)]; omega), iI_nI k, ev_countOpen hg hw hG hS (by omega), bs_, show st 4 = iI (m 10) from hS 4 (by decide)]
    have hb := bc_le m (k : Int)
    rw [if_e (iI_le (by omega) (by omega)), ← iI_nI, nI_s]
    unfold dk_
    by_cases c : m 10 ≤ (nG m : Int) - (bc_ m (k : Int) : Int)
    · rw [if_pos c, if_neg (by simp; omega)]
    · rw [if_neg c, if_pos (by simp; omega)]
  · intro n x
    show L_X7_countDark_4 gc gaps st (n + 1) x (nI (nS m + 1)) = some x
    rw [L_X7_countDark_4, show st 5 = iI (m 11) from hS 5 (by decide), h11, ← iI_nI, if_pos (by rw [nI_lt2 (by omega) (by omega)]; omega)]
theorem ev_darkMany {m : Nat → Int} {all : Nat → Int32} (hg : WG m) (hw : WS m) (hA : rA m all) :
    F_X11_darkMany all = some (nI (ct_ (fun v => dk_ m v) 1 (nS m))) := by
  obtain ⟨h11, h1, h2⟩ := nS_c hw
  have h := lp_ct (P := fun v => dk_ m v) (N := nS m + 1) (fun n x k => L_X11_darkMany_4 all n x k) some ?_ ?_ (nS m) 1 fu_ 0 (by omega) (fu_lt (by omega))
  · rw [Nat.zero_add] at h
    exact h
  · intro n x k hk
    show L_X11_darkMany_4 all (n + 1) x (nI k) = _
    rw [L_X11_darkMany_4, hA 11 (by decide), h11, ← iI_nI, if_neg (by rw [nI_lt2 (by omega) (by omega)]; omega), iI_nI k, ev_isDark hg hw hA (by omega), bs_, ib_, ← iI_nI, nI_s, Int32.add_zero]
  · intro n x
    show L_X11_darkMany_4 all (n + 1) x (nI (nS m + 1)) = some x
    rw [L_X11_darkMany_4, hA 11 (by decide), h11, ← iI_nI, if_pos (by rw [nI_lt2 (by omega) (by omega)]; omega)]
/-- the k-th dark speed, as the calls tell it -/
def qd_ (m : Nat → Int) (x : Int32) : Int32 := if x < 0 then -1 else kt_ (fun v => dk_ m v) 1 (nS m) x.toNatClampNeg
theorem ev_dark {m : Nat → Int} {gc : Int32} {gaps st : Nat → Int32} (hg : WG m) (hw : WS m) (hG : cG m gc gaps) (hS : cS m st) (x : Int32) :
    F_X10_dark gc gaps st x = some (qd_ m x) := by
  obtain ⟨hn, h5⟩ := nG_c hg
  obtain ⟨h11, h1, h2⟩ := nS_c hw
  obtain ⟨-, -, -, -, h10, -⟩ := id hw
  unfold F_X10_dark qd_
  by_cases hx : x < 0
  · rw [if_pos hx, if_pos hx]
  · rw [if_neg hx, if_neg hx]
    obtain ⟨j, hj, rfl⟩ := nI_of hx
    rw [nI_clamp hj]
    have h := lp_kt (P := fun v => dk_ m v) (N := nS m + 1) (fun n x k => L_X7_darkAt_4 gc gaps st n x k) (fun z => some z) ?_ ?_ (nS m) 1 fu_ j (by omega) (fu_lt (by omega)) hj
    · unfold F_X7_darkAt
      rw [show L_X7_darkAt_4 gc gaps st fu_ (nI j) 1 = some _ from h, bs_]
    · intro n x k hk
      show L_X7_darkAt_4 gc gaps st (n + 1) x (nI k) = _
      have hb := bc_le m (k : Int)
      rw [L_X7_darkAt_4, show st 5 = iI (m 11) from hS 5 (by decide), h11, ← iI_nI, if_neg (by rw [nI_lt2 (by omega) (by omega)]; omega), iI_nI k, ev_countOpen hg hw hG hS (by omega), bs_, show st 4 = iI (m 10) from hS 4 (by decide), if_e (iI_le (by omega) (by omega)), ← iI_nI, nI_s]
      unfold dk_
      by_cases c : m 10 ≤ (nG m : Int) - (bc_ m (k : Int) : Int)
      · rw [if_pos c, if_neg (by simp; omega)]
      · rw [if_neg c, if_pos (show decide ((nG m : Int) - (bc_ m (k : Int) : Int) < m 10) = true from decide_eq_true (by omega))]
    · intro n x
      show L_X7_darkAt_4 gc gaps st (n + 1) x (nI (nS m + 1)) = some (-1)
      rw [L_X7_darkAt_4, show st 5 = iI (m 11) from hS 5 (by decide), h11, ← iI_nI, if_pos (by rw [nI_lt2 (by omega) (by omega)]; omega)]
theorem ev_rdark {m : Nat → Int} {all : Nat → Int32} (hg : WG m) (hw : WS m) (hA : rA m all) (ra x : Int32) :
    F_X11_dark ra all x = some (qd_ m x, 0) := by
  obtain ⟨h11, h1, h2⟩ := nS_c hw
  have h := lp_ku (P := fun v => dk_ m v) (N := nS m + 1) (fun n c k => L_X11_dark_9 all n 0 x c k) (fun z => some (z, 0)) x ?_ ?_ (nS m) 1 fu_ 0 (by omega) (fu_lt (by omega)) (by omega) (fun j _ _ => Nat.zero_le j)
  · exact h
  · intro n c k hk
    show L_X11_dark_9 all (n + 1) 0 x c (nI k) = _
    rw [L_X11_dark_9, hA 11 (by decide), h11, ← iI_nI, if_neg (by rw [nI_lt2 (by omega) (by omega)]; omega), iI_nI k, ev_isDark hg hw hA (by omega), bs_, ib_, ← iI_nI, nI_s]
  · intro n c
    show L_X11_dark_9 all (n + 1) 0 x c (nI (nS m + 1)) = some (-1, 0)
    rw [L_X11_dark_9, hA 11 (by decide), h11, ← iI_nI, if_pos (by rw [nI_lt2 (by omega) (by omega)]; omega)]
/-! ===== END ===== -/
