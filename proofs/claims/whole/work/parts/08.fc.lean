/-! ===== BEGIN acts: leave, move ===== -/
theorem WT_dt {m : Nat → Int} (ht : WT m) {t : Nat} (h : t < nT m) : WT (dt_ m t) := by
  obtain ⟨n1, n2⟩ := nT_c ht
  have e13 : dt_ m t 13 = m 13 - 1 := rfl
  refine ⟨by omega, by omega, fun i hi => ?_⟩
  by_cases c : t ≤ i
  · rw [dt_hi (by omega) (by omega), dt_hi (by omega) (by omega), dt_hi (by omega) (by omega)]
    exact ht.2.2 (i + 1) (by omega)
  · rw [dt_lo (by omega) (by omega), dt_lo (by omega) (by omega), dt_lo (by omega) (by omega)]
    exact ht.2.2 i (by omega)
theorem WL_t {m m2 : Nat → Int} (h : ∀ i, 40 ≤ i → i < 97 → m2 i = m i) (h38 : m 38 ≤ m2 38 ∧ m2 38 ≤ 999999) (w : WL m) : WL m2 := by
  obtain ⟨a, b, c, d⟩ := w
  have e0 := h 40 (by omega) (by omega)
  refine ⟨by omega, by omega, fun i hi => ?_, fun i j hij hj => ?_⟩
  · have := c i (by omega)
    rw [h (41 + 14 * i) (by omega) (by omega), h (42 + 14 * i) (by omega) (by omega)]
    refine ⟨by omega, this.2.1, fun j hj => ?_⟩
    rw [h (43 + 14 * i + j) (by omega) (by omega)]
    exact this.2.2 j hj
  · rw [h (41 + 14 * i) (by omega) (by omega), h (41 + 14 * j) (by omega) (by omega)]
    exact d i j hij (by omega)
section ACU
variable {m : Nat → Int} {gc tc lc ti go : Int32} {gaps st sp ve sr lt lz ln : Nat → Int32} {o s u : Int32} {ring : Nat → RT_X5} {all un : Nat → Int32}
theorem ev_leave (hm : WM m) (h : cRd m gc tc lc ti go gaps st sp ve sr lt lz ln) (hA : rA m all) (hu : hU o s ring u un) (ra x : Int32) :
    ∃ v tc2 sp2 ve2 sr2 o2 s2 ring2 u2 all2 un2 m2, F_X10_leave gc tc lc ti go gaps st sp ve sr lt lz ln o s ring x = some (v, tc2, sp2, ve2, sr2, o2, s2, ring2) ∧ F_X11_leave ra u all un x = some (v, 0, u2, all2, un2) ∧
      WM m2 ∧ cRd m2 gc tc2 lc ti go gaps st sp2 ve2 sr2 lt lz ln ∧ rA m2 all2 ∧ (∀ i, 97 ≤ i → all2 i = all i) ∧ hU o2 s2 ring2 u2 un2 := by
  have hm0 := hm
  have h0 := h
  obtain ⟨hg, hs, ht, hl⟩ := hm
  obtain ⟨c1, c2, c3, c4, c5, c6⟩ := h
  obtain ⟨n1, n2⟩ := nT_c ht
  obtain ⟨a, ha, rfl⟩ := iI_ex x
  unfold F_X10_leave F_X11_leave
  rw [ev_hasTarget ht c3.1 ha, ev_isTarget ht hA ha, bs_, bs_, ib_, ib_]
  by_cases c : 0 ≤ a ∧ a < m 13
  · rw [if_pos (decide_eq_true c), if_pos (decide_eq_true c)]
    obtain ⟨t, rfl⟩ : ∃ t : Nat, a = t := ⟨a.toNat, by omega⟩
    have htt : t < nT m := by omega
    obtain ⟨o2, s2, ring2, u2, un2, q1, q2, q3⟩ := ev_save hm0 h0 hA hu
    obtain ⟨sp2, ve2, sr2, q4, q5⟩ := ev_dropTarget ⟨n1, n2⟩ c3 htt
    obtain ⟨r, q6, q7, q8⟩ := ev_goes ⟨n1, n2⟩ hA htt
    rw [q1, q2, bs_, bs_, ← iI_nI t, q4, q6, bs_, bs_]
    have ne : ∀ i, (i < 13 ∨ 37 < i) → dt_ m t i = m i := fun i hi => by
      rcases hi with hi | hi
      · exact dt_lo (by omega) (by omega)
      · exact dt_be (by omega) (by omega)
    refine ⟨r 13, _, _, _, _, _, _, _, _, _, _, dt_ m t, by rw [q7 13 (by decide)], rfl, ⟨WG_c (fun i hi => ne i (by omega)) hg, WS_c (fun i a1 a2 => ne i (by omega)) hs, WT_dt ht htt, WL_c (fun i a1 a2 a3 => ne i (by omega)) hl⟩, ⟨cG_c (fun i hi => ne i (by omega)) hg c1, cS_c (fun i a1 a2 => ne i (by omega)) c2, q5, cL_c (fun i a1 a2 => ne i (by omega)) hl c4, by rw [ne _ (by omega)]; exact c5, by rw [ne _ (by omega)]; exact c6⟩, q7, q8, q3⟩
  · rw [if_neg (by rw [decide_eq_false c]; decide), if_neg (by rw [decide_eq_false c]; decide)]
    exact ⟨_, _, _, _, _, _, _, _, _, _, _, m, rfl, rfl, hm0, h0, hA, fun _ _ => rfl, hu⟩
theorem ev_move (hm : WM m) (h : cRd m gc tc lc ti go gaps st sp ve sr lt lz ln) (hA : rA m all) (hu : hU o s ring u un) (ra x : Int32) :
    ∃ v tc2 ti2 go2 sp2 ve2 sr2 o2 s2 ring2 u2 all2 un2 m2, F_X10_move gc tc lc ti go gaps st sp ve sr lt lz ln o s ring x = some (v, tc2, ti2, go2, sp2, ve2, sr2, o2, s2, ring2) ∧ F_X11_move ra u all un x = some (v, 0, u2, all2, un2) ∧
      WM m2 ∧ cRd m2 gc tc2 lc ti2 go2 gaps st sp2 ve2 sr2 lt lz ln ∧ rA m2 all2 ∧ (∀ i, 97 ≤ i → all2 i = all i) ∧ hU o2 s2 ring2 u2 un2 := by
  have hm0 := hm
  have h0 := h
  obtain ⟨hg, hs, ht, hl⟩ := hm
  obtain ⟨c1, c2, c3, c4, c5, c6⟩ := h
  obtain ⟨n1, n2⟩ := nT_c ht
  have b38 := hl.2.1
  obtain ⟨a, ha, rfl⟩ := iI_ex x
  have e1 : F_X10_isWithin (iI a) (1 : Int32) (1000 : Int32) = some (bI (decide (1 ≤ a ∧ a ≤ 1000))) := ev_within (b := 1) (c := 1000) ha (by omega) (by omega)
  have e2 : F_X11_in (iI a) (1 : Int32) (1000 : Int32) = some (bI (decide (1 ≤ a ∧ a ≤ 1000))) := ev_in (b := 1) (c := 1000) ha (by omega) (by omega)
  unfold F_X10_move F_X11_move
  rw [e1, e2, bs_, bs_, ib_, ib_]
  by_cases c : 1 ≤ a ∧ a ≤ 1000
  · rw [if_pos (decide_eq_true c), if_pos (decide_eq_true c), c5, hA 38 (by decide), iI_add, show (999999 : Int32) = iI 999999 from rfl, if_e (iI_le (by omega) (by omega)), if_e (iI_le (by omega) (by omega))]
    by_cases cb : m 38 + a ≤ 999999
    · rw [if_pos cb, if_pos cb]
      rw [c5] at h0
      obtain ⟨o2, s2, ring2, u2, un2, q1, q2, q3⟩ := ev_save hm0 h0 hA hu
      have hwt : wt_ m (fun _ => True) := fun t h1 _ => ht.2.2 t (by omega)
      have g0 := mv_g (τ := a) ⟨n1, n2⟩ (Nat.le_refl (nT m)) hwt
      have g1 := mv_n (τ := a) ⟨n1, n2⟩ (Nat.le_refl (nT m))
      have e13 : mv_ a (nT m) m 13 = (nT (mv_ a (nT m) m) : Int) := g0.1.1
      obtain ⟨sp2, ve2, sr2, q4, q5⟩ := ev_pass (τ := a) (by omega) (iI (m 38)) go tc (nT m) fu_ m tc sp ve sr ⟨n1, n2⟩ (Nat.le_refl _) hwt c3 (fu_lt (by omega))
      obtain ⟨r, q6, q7, q8⟩ := ev_moves (τ := a) (by omega) (nT m) fu_ m all 0 ⟨n1, n2⟩ (Nat.le_refl _) hwt hA (fu_lt (by omega))
      have ek : tc - (1 : Int32) = iI ((nT m : Int) - 1) := by rw [c3.1, n1, show (1 : Int32) = iI 1 from rfl, iI_sub]
      have ek2 : all 13 - (1 : Int32) = iI ((nT m : Int) - 1) := by rw [hA 13 (by decide), n1, show (1 : Int32) = iI 1 from rfl, iI_sub]
      have p1 : F_X5_pass tc (iI (m 38)) go sp ve sr (iI a) = L_X5_pass_9 fu_ tc (iI (m 38)) go sp ve sr (iI a) tc (iI ((nT m : Int) - 1)) := by
        unfold F_X5_pass
        rw [ek]
      have p2 : F_X11_moves all (iI a) = L_X11_moves_12 fu_ all (iI a) (nI 0) (iI ((nT m : Int) - 1)) := by
        unfold F_X11_moves
        rw [ek2]
        rfl
      have lo : ∀ i, (i < 13 ∨ 37 < i) → mv_ a (nT m) m i = m i := fun i hi => by
        rcases hi with hi | hi
        · exact mv_lo hi
        · exact mv_hi ⟨n1, n2⟩ (Nat.le_refl _) (by omega)
      have ev : tc - iI (mv_ a (nT m) m 13) = iI ((nT m : Int) - nT (mv_ a (nT m) m)) := by rw [c3.1, n1, e13, iI_sub]
      have ev2 : nI (0 + (nT m - nT (mv_ a (nT m) m))) = iI ((nT m : Int) - nT (mv_ a (nT m) m)) := by rw [iI_nI]; congr 1; omega
      rw [q1, q2, bs_, bs_, p1, q4, p2, q6, bs_, bs_]
      dsimp only
      have r38 : r 38 = iI (m 38) := by rw [q7 38 (by decide), lo 38 (by omega)]
      have r39 : upd r 38 (iI (m 38) + iI a) 39 = iI (m 39) := by rw [upd_at, if_neg (by omega), q7 39 (by decide), lo 39 (by omega)]
      rw [ev, ev2, r38, r39, c6, iI_add, iI_add]
      have uu : ∀ i, i ≠ 38 → i ≠ 39 → uz_ (uz_ (mv_ a (nT m) m) 38 (m 38 + a)) 39 (m 39 + ((nT m : Int) - nT (mv_ a (nT m) m))) i = mv_ a (nT m) m i := fun i h1 h2 => by rw [uz_ne h2, uz_ne h1]
      have u38 : uz_ (uz_ (mv_ a (nT m) m) 38 (m 38 + a)) 39 (m 39 + ((nT m : Int) - nT (mv_ a (nT m) m))) 38 = m 38 + a := by rw [uz_ne (by omega), uz_at]
      have ne : ∀ i, (i < 13 ∨ 39 < i) → uz_ (uz_ (mv_ a (nT m) m) 38 (m 38 + a)) 39 (m 39 + ((nT m : Int) - nT (mv_ a (nT m) m))) i = m i := fun i hi => by rw [uu i (by omega) (by omega), lo i (by omega)]
      have wtv : WT (mv_ a (nT m) m) := ⟨by omega, by omega, fun t h1 => g0.2 t (by omega) trivial⟩
      refine ⟨_, _, _, _, _, _, _, _, _, _, _, _, _, uz_ (uz_ (mv_ a (nT m) m) 38 (m 38 + a)) 39 (m 39 + ((nT m : Int) - nT (mv_ a (nT m) m))), rfl, rfl, ⟨WG_c (fun i hi => ne i (by omega)) hg, WS_c (fun i a1 a2 => ne i (by omega)) hs, WT_c (fun i a1 a2 => uu i (by omega) (by omega)) wtv, WL_t (fun i a1 a2 => ne i (by omega)) (by omega) hl⟩, ⟨cG_c (fun i hi => ne i (by omega)) hg c1, cS_c (fun i a1 a2 => ne i (by omega)) c2, cT_c (fun i a1 a2 => uu i (by omega) (by omega)) wtv q5, cL_c (fun i a1 a2 => ne i (by omega)) hl c4, by rw [u38], by rw [uz_at]⟩, rA_u (rA_u q7 _ _) _ _, fun i hi => ?_, q3⟩
      rw [upd_at, if_neg (by omega), upd_at, if_neg (by omega), q8 i hi]
    · rw [if_neg cb, if_neg cb, ← c5]
      exact ⟨_, _, _, _, _, _, _, _, _, _, _, _, _, m, rfl, rfl, hm0, h0, hA, fun _ _ => rfl, hu⟩
  · rw [if_neg (by rw [decide_eq_false c]; decide), if_neg (by rw [decide_eq_false c]; decide)]
    exact ⟨_, _, _, _, _, _, _, _, _, _, _, _, _, m, rfl, rfl, hm0, h0, hA, fun _ _ => rfl, hu⟩
end ACU
/-! ===== END ===== -/
