/-! ===== BEGIN acts: set, target, leave, move ===== -/
theorem WG_c {m m2 : Nat → Int} (h : ∀ i, i ≤ 5 → m2 i = m i) (w : WG m) : WG m2 := by
  obtain ⟨a, b, c, d⟩ := w
  have e0 := h 0 (by omega)
  refine ⟨by omega, by omega, fun k hk => ?_, fun i j hij hj => ?_⟩
  · rw [h (1 + k) (by omega)]
    exact c k (by omega)
  · rw [h (1 + i) (by omega), h (1 + j) (by omega)]
    exact d i j hij (by omega)
theorem WS_c {m m2 : Nat → Int} (h : ∀ i, 6 ≤ i → i ≤ 12 → m2 i = m i) (w : WS m) : WS m2 := by
  unfold WS
  rw [h 6 (by omega) (by omega), h 7 (by omega) (by omega), h 8 (by omega) (by omega), h 9 (by omega) (by omega), h 10 (by omega) (by omega), h 11 (by omega) (by omega), h 12 (by omega) (by omega)]
  exact w
theorem WT_c {m m2 : Nat → Int} (h : ∀ i, 13 ≤ i → i ≤ 37 → m2 i = m i) (w : WT m) : WT m2 := by
  obtain ⟨a, b, c⟩ := w
  have e0 := h 13 (by omega) (by omega)
  refine ⟨by omega, by omega, fun t ht => ?_⟩
  rw [h (14 + 3 * t) (by omega) (by omega), h (15 + 3 * t) (by omega) (by omega), h (16 + 3 * t) (by omega) (by omega)]
  exact c t (by omega)
theorem WL_c {m m2 : Nat → Int} (h : ∀ i, 38 ≤ i → i < 97 → i ≠ 39 → m2 i = m i) (w : WL m) : WL m2 := by
  obtain ⟨a, b, c, d⟩ := w
  have e0 := h 40 (by omega) (by omega) (by omega)
  have e1 := h 38 (by omega) (by omega) (by omega)
  refine ⟨by omega, by omega, fun i hi => ?_, fun i j hij hj => ?_⟩
  · have := c i (by omega)
    rw [h (41 + 14 * i) (by omega) (by omega) (by omega), h (42 + 14 * i) (by omega) (by omega) (by omega), e1]
    refine ⟨this.1, this.2.1, fun j hj => ?_⟩
    rw [h (43 + 14 * i + j) (by omega) (by omega) (by omega)]
    exact this.2.2 j hj
  · rw [h (41 + 14 * i) (by omega) (by omega) (by omega), h (41 + 14 * j) (by omega) (by omega) (by omega)]
    exact d i j hij (by omega)
theorem cG_c {m m2 : Nat → Int} {gc : Int32} {gaps : Nat → Int32} (h : ∀ i, i ≤ 5 → m2 i = m i) (w : WG m) (c : cG m gc gaps) : cG m2 gc gaps := by
  have := w.2.1
  have e0 := h 0 (by omega)
  refine ⟨by rw [e0]; exact c.1, fun k hk => ?_⟩
  rw [h (1 + k) (by omega)]
  exact c.2 k (by omega)
theorem cS_c {m m2 : Nat → Int} {st : Nat → Int32} (h : ∀ i, 6 ≤ i → i ≤ 12 → m2 i = m i) (c : cS m st) : cS m2 st := by
  intro k hk
  rw [h (6 + k) (by omega) (by omega)]
  exact c k hk
theorem cT_c {m m2 : Nat → Int} {tc : Int32} {sp ve sr : Nat → Int32} (h : ∀ i, 13 ≤ i → i ≤ 37 → m2 i = m i) (w : WT m) (c : cT m tc sp ve sr) : cT m2 tc sp ve sr := by
  have := w.2.1
  have e0 := h 13 (by omega) (by omega)
  refine ⟨by rw [e0]; exact c.1, fun t ht => ?_⟩
  rw [h (14 + 3 * t) (by omega) (by omega), h (15 + 3 * t) (by omega) (by omega), h (16 + 3 * t) (by omega) (by omega)]
  exact c.2 t (by omega)
theorem cL_c {m m2 : Nat → Int} {lc : Int32} {lt lz ln : Nat → Int32} (h : ∀ i, 40 ≤ i → i < 97 → m2 i = m i) (w : WL m) (c : cL m lc lt lz ln) : cL m2 lc lt lz ln := by
  have := w.1.2
  have e0 := h 40 (by omega) (by omega)
  refine ⟨by rw [e0]; exact c.1, fun i hi => ?_⟩
  have b := (w.2.2.1 i (by omega)).2.1
  rw [h (41 + 14 * i) (by omega) (by omega), h (42 + 14 * i) (by omega) (by omega)]
  have q := c.2 i (by omega)
  refine ⟨q.1, q.2.1, fun j hj => ?_⟩
  rw [h (43 + 14 * i + j) (by omega) (by omega)]
  exact q.2.2 j hj
/-- one number otherwise -/
def uz_ (m : Nat → Int) (j : Nat) (x : Int) : Nat → Int := fun i => if i = j then x else m i
theorem uz_ne {m : Nat → Int} {i j : Nat} {x : Int} (h : i ≠ j) : uz_ m j x i = m i := by
  unfold uz_
  rw [if_neg h]
theorem uz_at {m : Nat → Int} {j : Nat} {x : Int} : uz_ m j x j = x := by
  unfold uz_
  rw [if_pos rfl]
theorem rA_u {m : Nat → Int} {all : Nat → Int32} (h : rA m all) (j : Nat) (x : Int) : rA (uz_ m j x) (upd all j (iI x)) := by
  intro k hk
  rw [upd_at]
  unfold uz_
  by_cases c : k = j
  · rw [if_pos c, if_pos c]
  · rw [if_neg c, if_neg c, h k hk]
def l7 : Nat → Int
  | 0 => 2
  | 1 => 0
  | 2 => 0
  | _ => 1
def h7 : Nat → Int
  | 0 => 999
  | 1 => 49
  | 2 => 9
  | 3 => 1000
  | 4 => 5
  | _ => 200
theorem WS_i {m : Nat → Int} : WS m ↔ ∀ k, k < 7 → l7 k ≤ m (6 + k) ∧ m (6 + k) ≤ h7 k := by
  constructor
  · intro h k hk
    obtain ⟨a0, a1, a2, a3, a4, a5, a6⟩ := h
    rcases (show k = 0 ∨ k = 1 ∨ k = 2 ∨ k = 3 ∨ k = 4 ∨ k = 5 ∨ k = 6 by omega) with rfl | rfl | rfl | rfl | rfl | rfl | rfl
    · exact a0
    · exact a1
    · exact a2
    · exact a3
    · exact a4
    · exact a5
    · exact a6
  · intro h
    exact ⟨h 0 (by omega), h 1 (by omega), h 2 (by omega), h 3 (by omega), h 4 (by omega), h 5 (by omega), h 6 (by omega)⟩
theorem tL7 : ∀ k, k < 7 → tb_L.getD k 0 = iI (l7 k) := by decide
theorem tM7 : ∀ k, k < 7 → tb_M.getD k 0 = iI (h7 k) := by decide
theorem lh7 : ∀ k, k < 7 → rg (l7 k) ∧ rg (h7 k) := by decide
theorem ev_leastOf : ∀ k, k < 7 → F_X11_leastOf (nI k) = some (iI (l7 k)) := by decide
theorem ev_mostOf : ∀ k, k < 7 → F_X11_mostOf (nI k) = some (iI (h7 k)) := by decide
section ACT
variable {m : Nat → Int} {gc tc lc ti go : Int32} {gaps st sp ve sr lt lz ln : Nat → Int32} {o s u : Int32} {ring : Nat → RT_X5} {all un : Nat → Int32}
theorem ev_set (hm : WM m) (h : cRd m gc tc lc ti go gaps st sp ve sr lt lz ln) (hA : rA m all) (hu : hU o s ring u un) (ra x y : Int32) :
    ∃ v st2 o2 s2 ring2 u2 all2 un2 m2, F_X10_set gc tc lc ti go gaps st sp ve sr lt lz ln o s ring x y = some (v, st2, o2, s2, ring2) ∧ F_X11_set ra u all un x y = some (v, 0, u2, all2, un2) ∧
      WM m2 ∧ cRd m2 gc tc lc ti go gaps st2 sp ve sr lt lz ln ∧ rA m2 all2 ∧ (∀ i, 97 ≤ i → all2 i = all i) ∧ hU o2 s2 ring2 u2 un2 := by
  have hm0 := hm
  have h0 := h
  obtain ⟨hg, hs, ht, hl⟩ := hm
  obtain ⟨c1, c2, c3, c4, c5, c6⟩ := h
  obtain ⟨a, ha, rfl⟩ := iI_ex x
  obtain ⟨b, hb, rfl⟩ := iI_ex y
  have e1 : F_X10_isWithin (iI a) (0 : Int32) (6 : Int32) = some (bI (decide (0 ≤ a ∧ a ≤ 6))) := ev_within (b := 0) (c := 6) ha (by omega) (by omega)
  have e2 : F_X11_in (iI a) (0 : Int32) (6 : Int32) = some (bI (decide (0 ≤ a ∧ a ≤ 6))) := ev_in (b := 0) (c := 6) ha (by omega) (by omega)
  unfold F_X10_set F_X11_set
  rw [e1, e2, bs_, bs_, ib_, ib_]
  by_cases c : 0 ≤ a ∧ a ≤ 6
  · rw [if_pos (decide_eq_true c), if_pos (decide_eq_true c)]
    obtain ⟨k, rfl⟩ : ∃ k : Nat, a = k := ⟨a.toNat, by omega⟩
    have hk : k < 7 := by omega
    have r7 := lh7 k hk
    have w7 := WS_i.mp hs k hk
    have b1 : -10 ≤ l7 k ∧ h7 k ≤ 2000 := by
      rcases (show k = 0 ∨ k = 1 ∨ k = 2 ∨ k = 3 ∨ k = 4 ∨ k = 5 ∨ k = 6 by omega) with rfl | rfl | rfl | rfl | rfl | rfl | rfl <;> decide
    have e6 : (6 : Int32) + nI k = nI (6 + k) := by rw [show (6 : Int32) = nI 6 from rfl, nI_add]
    rw [← iI_nI k, gN_ hk (by decide), gN_ hk (by decide), nI_clamp (by omega), tL7 k hk, tM7 k hk, ev_within hb r7.1 r7.2, bs_, ib_, ev_leastOf k hk, bs_, ev_mostOf k hk, bs_, ev_in hb r7.1 r7.2, bs_, ib_]
    by_cases cb : l7 k ≤ b ∧ b ≤ h7 k
    · rw [if_pos (decide_eq_true cb), if_pos (decide_eq_true cb), gN_ hk (by decide), e6, gN_ (by omega) (by decide), nI_clamp (by omega), c2 k hk, hA _ (by omega), if_e (iI_eq (by omega) hb)]
      by_cases cq : m (6 + k) = b
      · rw [if_pos cq, if_e (iI_eq (by omega) hb), if_pos cq]
        exact ⟨_, _, _, _, _, _, _, _, m, rfl, rfl, hm0, h0, hA, fun _ _ => rfl, hu⟩
      · rw [if_neg cq, if_e (iI_eq (by omega) hb), if_neg cq]
        obtain ⟨o2, s2, ring2, u2, un2, q1, q2, q3⟩ := ev_save hm0 h0 hA hu
        rw [q1, q2, bs_, bs_, gN_ hk (by decide), gN_ (by omega) (by decide)]
        have ne : ∀ i, i ≠ 6 + k → uz_ m (6 + k) b i = m i := fun i hi => uz_ne hi
        refine ⟨_, _, _, _, _, _, _, _, uz_ m (6 + k) b, rfl, rfl, ⟨WG_c (fun i hi => ne i (by omega)) hg, ?_, WT_c (fun i a1 a2 => ne i (by omega)) ht, WL_c (fun i a1 a2 a3 => ne i (by omega)) hl⟩, ⟨cG_c (fun i hi => ne i (by omega)) hg c1, ?_, cT_c (fun i a1 a2 => ne i (by omega)) ht c3, cL_c (fun i a1 a2 => ne i (by omega)) hl c4, ?_, ?_⟩, rA_u hA _ _, fun i hi => ?_, q3⟩
        · refine WS_i.mpr (fun j hj => ?_)
          by_cases cj : j = k
          · rw [cj, uz_at]
            exact cb
          · rw [ne _ (by omega)]
            exact WS_i.mp hs j hj
        · intro j hj
          show upd st k (iI b) j = _
          rw [upd_at]
          by_cases cj : j = k
          · rw [if_pos cj, cj, uz_at]
          · rw [if_neg cj, ne _ (by omega)]
            exact c2 j hj
        · rw [ne _ (by omega)]
          exact c5
        · rw [ne _ (by omega)]
          exact c6
        · show upd all (6 + k) (iI b) i = _
          rw [upd_at, if_neg (by omega)]
    · rw [if_neg (by rw [decide_eq_false cb]; decide), if_neg (by rw [decide_eq_false cb]; decide)]
      exact ⟨_, _, _, _, _, _, _, _, m, rfl, rfl, hm0, h0, hA, fun _ _ => rfl, hu⟩
  · rw [if_neg (by rw [decide_eq_false c]; decide), if_neg (by rw [decide_eq_false c]; decide)]
    exact ⟨_, _, _, _, _, _, _, _, m, rfl, rfl, hm0, h0, hA, fun _ _ => rfl, hu⟩
/-- one target more -/
def at_ (m : Nat → Int) (x v a : Int) : Nat → Int := fun i => if i = 13 then m 13 + 1 else if i = 14 + 3 * nT m then 16 * x else if i = 15 + 3 * nT m then v else if i = 16 + 3 * nT m then a else m i
theorem at_ne {m : Nat → Int} {x v a : Int} {i : Nat} (h : i < 13 ∨ (13 < i ∧ i < 14 + 3 * nT m) ∨ 16 + 3 * nT m < i) : at_ m x v a i = m i := by
  unfold at_
  rw [if_neg (by omega), if_neg (by omega), if_neg (by omega), if_neg (by omega)]
theorem WT_at {x v a : Int} (ht : WT m) (h8 : nT m < 8) (hx : 0 ≤ x ∧ x ≤ 2999) (hv : -500 ≤ v ∧ v ≤ 500) (ha : 1 ≤ a ∧ a ≤ 99) : WT (at_ m x v a) := by
  obtain ⟨n1, n2⟩ := nT_c ht
  have e13 : at_ m x v a 13 = m 13 + 1 := rfl
  refine ⟨by omega, by omega, fun t htt => ?_⟩
  by_cases c : t = nT m
  · subst c
    unfold at_
    rw [if_neg (by omega), if_pos rfl, if_neg (by omega), if_neg (by omega), if_pos rfl, if_neg (by omega), if_neg (by omega), if_neg (by omega), if_pos rfl]
    omega
  · rw [at_ne (by omega), at_ne (by omega), at_ne (by omega)]
    exact ht.2.2 t (by omega)
theorem cT_at {x v a : Int} {tc : Int32} {sp ve sr : Nat → Int32} (ht : WT m) (h : cT m tc sp ve sr) : cT (at_ m x v a) (tc + 1) (upd sp (nT m) (iI (16 * x))) (upd ve (nT m) (iI v)) (upd sr (nT m) (iI a)) := by
  obtain ⟨n1, n2⟩ := nT_c ht
  have e13 : at_ m x v a 13 = m 13 + 1 := rfl
  refine ⟨by rw [e13, h.1, show (1 : Int32) = iI 1 from rfl, iI_add], fun t htt => ?_⟩
  rw [upd_at, upd_at, upd_at]
  by_cases c : t = nT m
  · subst c
    rw [if_pos rfl, if_pos rfl, if_pos rfl]
    unfold at_
    rw [if_neg (by omega), if_pos rfl, if_neg (by omega), if_neg (by omega), if_pos rfl, if_neg (by omega), if_neg (by omega), if_neg (by omega), if_pos rfl]
    exact ⟨rfl, rfl, rfl⟩
  · rw [if_neg c, if_neg c, if_neg c, at_ne (by omega), at_ne (by omega), at_ne (by omega)]
    exact h.2 t (by omega)
theorem rA_at {x v a : Int} (ht : WT m) (hA : rA m all) : rA (at_ m x v a) (upd (upd (upd (upd all (14 + 3 * nT m) (iI (16 * x))) (15 + 3 * nT m) (iI v)) (16 + 3 * nT m) (iI a)) 13 (iI (m 13 + 1))) := by
  intro k hk
  rw [upd_at, upd_at, upd_at, upd_at]
  unfold at_
  by_cases c : k = 13
  · rw [if_pos c, if_pos c]
  · rw [if_neg c, if_neg c]
    by_cases c1 : k = 14 + 3 * nT m
    · rw [if_neg (by omega), if_neg (by omega), if_pos c1, if_pos c1]
    · rw [if_neg c1, if_neg c1]
      by_cases c2 : k = 15 + 3 * nT m
      · rw [if_neg (by omega), if_pos c2, if_pos c2]
      · rw [if_neg c2, if_neg c2]
        by_cases c3 : k = 16 + 3 * nT m
        · rw [if_pos c3, if_pos c3]
        · rw [if_neg c3, if_neg c3, hA k hk]
theorem ev_addTarget {x v a : Int} (ht : WT m) (h8 : nT m < 8) (hT : cT m tc sp ve sr) : F_X5_addTarget tc sp ve sr (iI x) (iI v) (iI a) = some (tc + 1, upd sp (nT m) (iI (16 * x)), upd ve (nT m) (iI v), upd sr (nT m) (iI a)) := by
  obtain ⟨n1, n2⟩ := nT_c ht
  have htc : tc = nI (nT m) := by rw [hT.1, n1, iI_nI]
  unfold F_X5_addTarget
  rw [htc, show (8 : Int32) = nI 8 from rfl, if_pos (ylt_ (by omega) (by omega) h8), gN_ h8 (by decide), gN_ h8 (by decide), gN_ h8 (by decide), nI_clamp (by omega), show (16 : Int32) = iI 16 from rfl, iI_mul, Int.mul_comm x 16]
theorem ev_target (hm : WM m) (h : cRd m gc tc lc ti go gaps st sp ve sr lt lz ln) (hA : rA m all) (hu : hU o s ring u un) (ra x y z : Int32) :
    ∃ v tc2 sp2 ve2 sr2 o2 s2 ring2 u2 all2 un2 m2, F_X10_target gc tc lc ti go gaps st sp ve sr lt lz ln o s ring x y z = some (v, tc2, sp2, ve2, sr2, o2, s2, ring2) ∧ F_X11_target ra u all un x y z = some (v, 0, u2, all2, un2) ∧
      WM m2 ∧ cRd m2 gc tc2 lc ti go gaps st sp2 ve2 sr2 lt lz ln ∧ rA m2 all2 ∧ (∀ i, 97 ≤ i → all2 i = all i) ∧ hU o2 s2 ring2 u2 un2 := by
  have hm0 := hm
  have h0 := h
  obtain ⟨hg, hs, ht, hl⟩ := hm
  obtain ⟨c1, c2, c3, c4, c5, c6⟩ := h
  obtain ⟨n1, n2⟩ := nT_c ht
  have htc : tc = nI (nT m) := by rw [c3.1, n1, iI_nI]
  have h13 : all 13 = nI (nT m) := by rw [hA 13 (by decide), n1, iI_nI]
  obtain ⟨a, ha, rfl⟩ := iI_ex x
  obtain ⟨b, hb, rfl⟩ := iI_ex y
  obtain ⟨d, hd, rfl⟩ := iI_ex z
  have e1 : F_X10_isWithin (iI a) (0 : Int32) (2999 : Int32) = some (bI (decide (0 ≤ a ∧ a ≤ 2999))) := ev_within (b := 0) (c := 2999) ha (by omega) (by omega)
  have e2 : F_X11_in (iI a) (0 : Int32) (2999 : Int32) = some (bI (decide (0 ≤ a ∧ a ≤ 2999))) := ev_in (b := 0) (c := 2999) ha (by omega) (by omega)
  have e3 : F_X11_in (iI b) (-500 : Int32) (500 : Int32) = some (bI (decide (-500 ≤ b ∧ b ≤ 500))) := by
    rw [show (-500 : Int32) = iI (-500) from rfl, show (500 : Int32) = iI 500 from rfl]
    exact ev_in hb (by omega) (by omega)
  have e4 : F_X10_isWithin (iI d) (1 : Int32) (99 : Int32) = some (bI (decide (1 ≤ d ∧ d ≤ 99))) := ev_within (b := 1) (c := 99) hd (by omega) (by omega)
  have e5 : F_X11_in (iI d) (1 : Int32) (99 : Int32) = some (bI (decide (1 ≤ d ∧ d ≤ 99))) := ev_in (b := 1) (c := 99) hd (by omega) (by omega)
  unfold F_X10_target F_X11_target
  rw [e1, e2, bs_, bs_, ib_, ib_]
  by_cases c : 0 ≤ a ∧ a ≤ 2999
  · rw [if_pos (decide_eq_true c), if_pos (decide_eq_true c), ev_isSpeed hb, e3, bs_, bs_, ib_, ib_]
    by_cases cb : -500 ≤ b ∧ b ≤ 500
    · rw [if_pos (decide_eq_true cb), if_pos (decide_eq_true cb), e4, e5, bs_, bs_, ib_, ib_]
      by_cases cd : 1 ≤ d ∧ d ≤ 99
      · rw [if_pos (decide_eq_true cd), if_pos (decide_eq_true cd)]
        by_cases c8 : nT m < 8
        · obtain ⟨o2, s2, ring2, u2, un2, q1, q2, q3⟩ := ev_save hm0 h0 hA hu
          rw [if_pos (show tc < (8 : Int32) by rw [htc]; exact ylt_ (b := 8) (by omega) (by omega) c8), if_neg (show ¬ all 13 = (8 : Int32) by rw [h13, iI_nI, show (8 : Int32) = iI 8 from rfl, iI_eq (by omega) (by omega)]; omega),
            q1, q2, bs_, bs_, ev_addTarget ht c8 c3, bs_]
          have k0 : ((14 : Int32) + ((3 : Int32) * (all 13))) + (0 : Int32) = nI (14 + 3 * nT m) := by rw [h13, a14]; exact nI_add _ 0
          have k1 : ((14 : Int32) + ((3 : Int32) * (all 13))) + (1 : Int32) = nI (15 + 3 * nT m) := by rw [h13, a14, nI_s]; congr 1; omega
          have k2 : ((14 : Int32) + ((3 : Int32) * (all 13))) + (2 : Int32) = nI (16 + 3 * nT m) := by rw [h13, a14, show (2 : Int32) = nI 2 from rfl, nI_add]; congr 1; omega
          rw [k0, k1, k2, gN_ (by omega) (by decide), gN_ (by omega) (by decide), gN_ (by omega) (by decide), nI_clamp (by omega), nI_clamp (by omega), nI_clamp (by omega)]
          have k3 : (upd (upd (upd all (14 + 3 * nT m) ((16 : Int32) * iI a)) (15 + 3 * nT m) (iI b)) (16 + 3 * nT m) (iI d)) 13 = iI (m 13) := by
            rw [upd_at, if_neg (by omega), upd_at, if_neg (by omega), upd_at, if_neg (by omega), hA 13 (by decide)]
          have k4 : ∀ f : Nat → Int32, ∀ w, upd f 13 w 13 = w := fun f w => by rw [upd_at, if_pos rfl]
          rw [k3, k4, show (16 : Int32) * iI a = iI (16 * a) by rw [show (16 : Int32) = iI 16 from rfl, iI_mul], show iI (m 13) + (1 : Int32) = iI (m 13 + 1) by rw [show (1 : Int32) = iI 1 from rfl, iI_add]]
          have ne : ∀ i, (i < 13 ∨ 37 < i) → at_ m a b d i = m i := fun i hi => at_ne (by omega)
          have etc : tc + 1 = iI (m 13 + 1) := by rw [c3.1, show (1 : Int32) = iI 1 from rfl, iI_add]
          refine ⟨iI (m 13 + 1) - 1, _, _, _, _, _, _, _, _, _, _, at_ m a b d, by rw [etc], rfl, ⟨WG_c (fun i hi => ne i (by omega)) hg, WS_c (fun i a1 a2 => ne i (by omega)) hs, WT_at ht c8 c cb cd, WL_c (fun i a1 a2 a3 => ne i (by omega)) hl⟩, ⟨cG_c (fun i hi => ne i (by omega)) hg c1, cS_c (fun i a1 a2 => ne i (by omega)) c2, by rw [← etc]; exact cT_at ht c3, cL_c (fun i a1 a2 => ne i (by omega)) hl c4, by rw [ne _ (by omega)]; exact c5, by rw [ne _ (by omega)]; exact c6⟩, rA_at ht hA, fun i hi => ?_, q3⟩
          rw [upd_at, if_neg (by omega), upd_at, if_neg (by omega), upd_at, if_neg (by omega), upd_at, if_neg (by omega)]
        · have e8 : nT m = 8 := by omega
          rw [if_neg (show ¬ tc < (8 : Int32) by rw [htc, e8]; decide), if_pos (show all 13 = (8 : Int32) by rw [h13, e8]; rfl)]
          exact ⟨_, _, _, _, _, _, _, _, _, _, _, m, rfl, rfl, hm0, h0, hA, fun _ _ => rfl, hu⟩
      · rw [if_neg (by rw [decide_eq_false cd]; decide), if_neg (by rw [decide_eq_false cd]; decide)]
        exact ⟨_, _, _, _, _, _, _, _, _, _, _, m, rfl, rfl, hm0, h0, hA, fun _ _ => rfl, hu⟩
    · rw [if_neg (by rw [decide_eq_false cb]; decide), if_neg (by rw [decide_eq_false cb]; decide)]
      exact ⟨_, _, _, _, _, _, _, _, _, _, _, m, rfl, rfl, hm0, h0, hA, fun _ _ => rfl, hu⟩
  · rw [if_neg (by rw [decide_eq_false c]; decide), if_neg (by rw [decide_eq_false c]; decide)]
    exact ⟨_, _, _, _, _, _, _, _, _, _, _, m, rfl, rfl, hm0, h0, hA, fun _ _ => rfl, hu⟩
end ACT
/-! ===== END ===== -/
