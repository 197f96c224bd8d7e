/-! ===== BEGIN type, image, again ===== -/
def tX (ts fk fp : Int32) (tb : Nat → Int32) (all : Nat → Int32) (b : Nat) (tx : Nat → Int32) : Prop := (∃ n : Nat, n ≤ 400 ∧ ts = nI n) ∧ all (100 * b + 97) = ts ∧ all (100 * b + 98) = fk ∧ all (100 * b + 99) = fp ∧ ∀ i, i < 400 → tb i = tx (400 * b + i) &&& (255 : Int32)
/-- the images -/
def iU (kp : Nat → Int32) (kr : Nat → RT_X5) (kt : Nat → RT_X8) (sv all tx : Nat → Int32) : Prop := ∀ k, k < 3 → kp k = sv k ∧ (¬ sv k = 0 → ∃ m, WM m ∧ cX m (kr k) ∧ (∀ i, i < 97 → all (100 * (k + 1) + i) = iI (m i)) ∧ tX (kt k).1 (kt k).2.1 (kt k).2.2.1 (kt k).2.2.2 all (k + 1) tx)
theorem tX_c {ts fk fp : Int32} {tb all all2 tx tx2 : Nat → Int32} {b : Nat} (h : tX ts fk fp tb all b tx) (h1 : ∀ i, 100 * b + 97 ≤ i → i < 100 * b + 100 → all2 i = all i) (h2 : ∀ i, 400 * b ≤ i → i < 400 * b + 400 → tx2 i = tx i) : tX ts fk fp tb all2 b tx2 := by
  obtain ⟨a1, a2, a3, a4, a5⟩ := h
  exact ⟨a1, by rw [h1 _ (by omega) (by omega)]; exact a2, by rw [h1 _ (by omega) (by omega)]; exact a3, by rw [h1 _ (by omega) (by omega)]; exact a4, fun i hi => by rw [h2 _ (by omega) (by omega)]; exact a5 i hi⟩
theorem iU_c {kp : Nat → Int32} {kr : Nat → RT_X5} {kt : Nat → RT_X8} {sv all all2 tx tx2 : Nat → Int32} (h : iU kp kr kt sv all tx) (h1 : ∀ i, 100 ≤ i → i < 400 → all2 i = all i) (h2 : ∀ i, 400 ≤ i → tx2 i = tx i) : iU kp kr kt sv all2 tx2 := by
  intro k hk
  refine ⟨(h k hk).1, fun hs => ?_⟩
  obtain ⟨m, a1, a2, a3, a4⟩ := (h k hk).2 hs
  exact ⟨m, a1, a2, fun i hi => by rw [h1 _ (by omega) (by omega)]; exact a3 i hi, tX_c a4 (fun i b1 b2 => h1 i (by omega) (by omega)) (fun i b1 b2 => h2 i (by omega))⟩
theorem ev_ty2 (ts ra : Int32) (tb all tx : Nat → Int32) (x : Int64) : ∀ d i n, i + d = 8 → d < n → ∃ k, k ≤ 8 ∧ L_X10_type_2 n ts tb x (nI i) = J_X10_type_22 ts tb x (nI k) ∧ L_X11_type_7 n ra all tx x (nI i) = J_X11_type_37 ra all tx x (nI k) := by
  intro d
  induction d with
  | zero =>
    intro i n a1 a2
    obtain ⟨n, rfl⟩ : ∃ k, n = k + 1 := ⟨n - 1, by omega⟩
    have : i = 8 := by omega
    subst this
    rw [L_X10_type_2, L_X11_type_7, if_pos (show (8 : Int32) ≤ nI 8 by decide), if_pos (show (8 : Int32) ≤ nI 8 by decide)]
    exact ⟨8, Nat.le_refl _, rfl, rfl⟩
  | succ d ih =>
    intro i n a1 a2
    obtain ⟨n, rfl⟩ : ∃ k, n = k + 1 := ⟨n - 1, by omega⟩
    have hi : i < 8 := by omega
    have h8 : ¬ (8 : Int32) ≤ nI i := nle_ (a := 8) (by decide) (by omega) hi
    have hb := b8_lt x i
    have e0 : (nI (b8 x i) = (0 : Int32)) = (b8 x i = 0) := by
      rw [iI_nI, show (0 : Int32) = iI 0 from rfl, iI_eq (by omega) (by omega)]
      apply propext
      omega
    rw [L_X10_type_2, L_X11_type_7, if_neg h8, if_neg h8, ev_byteOf x hi, bs_, if_e e0, if_e (cm_255 x hi), nI_s]
    by_cases c : b8 x i = 0
    · rw [if_pos c, if_pos c]
      exact ⟨i, by omega, rfl, rfl⟩
    · rw [if_neg c, if_neg c]
      exact ih (i + 1) n (by omega) (by omega)
theorem ev_ty42 (ra : Int32) (x : Int64) {k : Nat} (hk : k ≤ 8) : ∀ d i f n (tb all tx : Nat → Int32), i + d = k → d < f → n + d ≤ 400 → all 97 = nI n → (∀ j, j < 400 → tb j = tx j &&& (255 : Int32)) →
    ∃ tb2 all2 tx2, L_X10_type_42 f (nI n) tb x (nI k) (nI i) = some (nI (n + d), nI (n + d), tb2) ∧ L_X11_type_57 f ra all tx x (nI k) (nI i) = some (nI (n + d), ra, all2, tx2) ∧ all2 97 = nI (n + d) ∧ (∀ j, j ≠ 97 → all2 j = all j) ∧ (∀ j, 400 ≤ j → tx2 j = tx j) ∧ ∀ j, j < 400 → tb2 j = tx2 j &&& (255 : Int32) := by
  intro d
  induction d with
  | zero =>
    intro i f n tb all tx a1 a2 a3 a4 a5
    obtain ⟨f, rfl⟩ : ∃ k, f = k + 1 := ⟨f - 1, by omega⟩
    have : i = k := by omega
    subst this
    rw [L_X10_type_42, L_X11_type_57, if_pos (yle_ (by omega) (by omega) (Nat.le_refl _)), if_pos (yle_ (by omega) (by omega) (Nat.le_refl _))]
    unfold J_X11_type_104
    rw [a4]
    exact ⟨tb, all, tx, rfl, rfl, a4, fun _ _ => rfl, fun _ _ => rfl, a5⟩
  | succ d ih =>
    intro i f n tb all tx a1 a2 a3 a4 a5
    obtain ⟨f, rfl⟩ : ∃ k, f = k + 1 := ⟨f - 1, by omega⟩
    have hn : ¬ nI k ≤ nI i := nle_ (by omega) (by omega) (by omega)
    have e1 : F_X8_append (nI n) tb (nI (b8 x i)) = some (nI (n + 1), upd tb n (nI (b8 x i))) := by
      unfold F_X8_append
      rw [if_neg (show ¬ (400 : Int32) ≤ nI n from nle_ (a := 400) (by decide) (by omega) (by omega)), gN_ (by omega) (by decide), nI_clamp (by omega), nI_s]
    rw [L_X10_type_42, L_X11_type_57, if_neg hn, if_neg hn, ev_byteOf x (by omega), bs_, e1, bs_, a4, gN_ (by omega) (by decide), nI_clamp (by omega), nI_s, nI_s]
    obtain ⟨tb2, all2, tx2, q1, q2, q3, q4, q5, q6⟩ := ih (i + 1) f (n + 1) (upd tb n (nI (b8 x i))) (upd all 97 (nI (n + 1))) (upd tx n (vp_nar .byte ((((x >>> ((((56 : Int32) - ((8 : Int32) * nI i))).toInt64 &&& 63))).toInt32).toInt8.toInt32))) (by omega) (by omega) (by omega) (by rw [upd_at, if_pos rfl]) (fun j hj => by
      rw [upd_at, upd_at]
      by_cases c : j = n
      · rw [if_pos c, if_pos c, st_255 x (by omega)]
      · rw [if_neg c, if_neg c]
        exact a5 j hj)
    rw [show n + 1 + d = n + (d + 1) by omega] at q1 q2 q3
    refine ⟨tb2, all2, tx2, q1, q2, q3, fun j hj => ?_, fun j hj => ?_, q6⟩
    · rw [q4 j hj, upd_at, if_neg hj]
    · rw [q5 j hj, upd_at, if_neg (by omega)]
theorem ev_type {ts fk fp : Int32} {tb all tx : Nat → Int32} (h : tX ts fk fp tb all 0 tx) (ra : Int32) (x : Int64) :
    ∃ v ts2 tb2 all2 tx2, F_X10_type ts tb x = some (v, ts2, tb2) ∧ F_X11_type ra all tx x = some (v, 0, all2, tx2) ∧ tX ts2 fk fp tb2 all2 0 tx2 ∧ (∀ j, j ≠ 97 → all2 j = all j) ∧ ∀ j, 400 ≤ j → tx2 j = tx j := by
  have h0 := h
  obtain ⟨⟨n, hn, rfl⟩, a2, a3, a4, a5⟩ := h
  obtain ⟨k, hk, e1, e2⟩ := ev_ty2 (nI n) 0 tb all tx x 8 0 fu_ (by omega) (fu_lt (by decide))
  have e1 : F_X10_type (nI n) tb x = J_X10_type_22 (nI n) tb x (nI k) := e1
  have e2 : F_X11_type ra all tx x = J_X11_type_37 0 all tx x (nI k) := e2
  rw [e1, e2]
  unfold J_X10_type_22 J_X11_type_37
  have a2 : all 97 = nI n := a2
  rw [a2, nI_add, show (400 : Int32) = nI 400 from rfl, if_e (nI_le2 (by omega) (by decide)), if_e (nI_le2 (by omega) (by decide))]
  by_cases c : n + k ≤ 400
  · obtain ⟨tb2, all2, tx2, q1, q2, q3, q4, q5, q6⟩ := ev_ty42 0 x hk k 0 fu_ n tb all tx (by omega) (fu_lt (by omega)) c a2 (fun j hj => by have := a5 j hj; rw [Nat.mul_zero, Nat.zero_add] at this; exact this)
    rw [if_pos c, if_pos c]
    refine ⟨_, _, _, _, _, q1, q2, ⟨⟨n + k, c, rfl⟩, q3, ?_, ?_, fun j hj => ?_⟩, q4, q5⟩
    · rw [q4 _ (by omega)]
      exact a3
    · rw [q4 _ (by omega)]
      exact a4
    · rw [Nat.mul_zero, Nat.zero_add]
      exact q6 j hj
  · rw [if_neg c, if_neg c]
    exact ⟨_, _, _, _, _, rfl, rfl, h0, fun _ _ => rfl, fun _ _ => rfl⟩
theorem ev_copiesText (all tx : Nat → Int32) {a b : Nat} (ha : a < 4) (hb : b < 4) (hab : a ≠ b) :
    ∃ t2, F_X11_copiesText all tx (nI a) (nI b) = some (cp_ a b 100 all, t2) ∧ ∀ i, t2 i = if 400 * b ≤ i ∧ i < 400 * b + 400 then vp_nar .byte (tx (i - 400 * b + 400 * a)) else tx i := by
  have main : ∀ d k f (r : Nat → Int32), k + d = 400 → d < f → (∀ i, r i = if 400 * b ≤ i ∧ i < 400 * b + k then vp_nar .byte (tx (i - 400 * b + 400 * a)) else tx i) →
      ∃ t2, L_X11_copiesText_8 f (cp_ a b 100 all) r (nI a) (nI b) (nI k) = some (cp_ a b 100 all, t2) ∧ ∀ i, t2 i = if 400 * b ≤ i ∧ i < 400 * b + 400 then vp_nar .byte (tx (i - 400 * b + 400 * a)) else tx i := by
    intro d
    induction d with
    | zero =>
      intro k f r a1 a2 a3
      obtain ⟨f, rfl⟩ : ∃ k, f = k + 1 := ⟨f - 1, by omega⟩
      have : k = 400 := by omega
      subst this
      rw [L_X11_copiesText_8, if_pos (show (400 : Int32) ≤ nI 400 by decide)]
      exact ⟨r, rfl, a3⟩
    | succ d ih =>
      intro k f r a1 a2 a3
      obtain ⟨f, rfl⟩ : ∃ k, f = k + 1 := ⟨f - 1, by omega⟩
      rw [L_X11_copiesText_8, show (400 : Int32) = nI 400 from rfl, if_neg (nle_ (by omega) (by omega) (by omega)), pk_mul, pk_mul, nI_add, nI_add, gN_ (by omega) (by decide), gN_ (by omega) (by decide), nI_clamp (by omega), nI_clamp (by omega), nI_s]
      refine ih (k + 1) f _ (by omega) (by omega) (fun i => ?_)
      rw [upd_at]
      by_cases c : i = 400 * b + k
      · rw [if_pos c, if_pos (by omega), a3, if_neg (by omega)]
        exact congrArg (fun z => vp_nar .byte (tx z)) (by omega)
      · rw [if_neg c, a3]
        by_cases c2 : 400 * b ≤ i ∧ i < 400 * b + k
        · rw [if_pos c2, if_pos (by omega)]
        · rw [if_neg c2, if_neg (by omega)]
  unfold F_X11_copiesText
  rw [ev_copies (by omega) (by omega) hab, bs_]
  exact main 400 0 fu_ tx (by omega) (fu_lt (by decide)) (fun i => by rw [if_neg (by omega)])
theorem cp_in {a b : Nat} {f : Nat → Int32} {i : Nat} (h : i < 100) : cp_ a b 100 f (100 * b + i) = f (100 * a + i) := by
  unfold cp_
  rw [if_pos (by omega)]
  exact congrArg f (by omega)
theorem cp_out {a b : Nat} {f : Nat → Int32} {i : Nat} (h : i < 100 * b ∨ 100 * b + 100 ≤ i) : cp_ a b 100 f i = f i := by
  unfold cp_
  rw [if_neg (by omega)]
theorem tX_cp {ts fk fp : Int32} {tb all tx t2 g : Nat → Int32} {a b : Nat} (h : tX ts fk fp tb all a tx) (ht : ∀ i, t2 i = if 400 * b ≤ i ∧ i < 400 * b + 400 then vp_nar .byte (tx (i - 400 * b + 400 * a)) else tx i) : tX ts fk fp (va_cpy tb g 0 0 400) (cp_ a b 100 all) b t2 := by
  obtain ⟨a1, a2, a3, a4, a5⟩ := h
  refine ⟨a1, by rw [cp_in (by omega)]; exact a2, by rw [cp_in (by omega)]; exact a3, by rw [cp_in (by omega)]; exact a4, fun i hi => ?_⟩
  rw [cy0 hi, ht, if_pos (by omega), nb_255, a5 i hi, show 400 * b + i - 400 * b + 400 * a = 400 * a + i by omega]
section IMG
variable {m : Nat → Int} {gc tc lc ti go : Int32} {gaps st sp ve sr lt lz ln : Nat → Int32} {ts fk fp : Int32} {tb : Nat → Int32} {kp : Nat → Int32} {kr : Nat → RT_X5} {kt : Nat → RT_X8} {all tx sv : Nat → Int32}
theorem ev_image (hm : WM m) (h : cRd m gc tc lc ti go gaps st sp ve sr lt lz ln) (hA : rA m all) (hT : tX ts fk fp tb all 0 tx) (hI : iU kp kr kt sv all tx) (ra x : Int32) :
    ∃ v kp2 kr2 kt2 all2 tx2 sv2, F_X10_image gc tc lc ti go gaps st sp ve sr lt lz ln ts fk fp tb kp kr kt x = some (v, kp2, kr2, kt2) ∧ F_X11_image ra all tx sv x = some (v, 0, all2, tx2, sv2) ∧ (∀ i, i < 100 → all2 i = all i) ∧ (∀ i, i < 400 → tx2 i = tx i) ∧ iU kp2 kr2 kt2 sv2 all2 tx2 := by
  obtain ⟨a, ha, rfl⟩ := iI_ex x
  have e1 : F_X10_isWithin (iI a) (0 : Int32) (2 : Int32) = some (bI (decide (0 ≤ a ∧ a ≤ 2))) := ev_within (b := 0) (c := 2) ha (by omega) (by omega)
  have e2 : F_X11_in (iI a) (0 : Int32) (2 : Int32) = some (bI (decide (0 ≤ a ∧ a ≤ 2))) := ev_in (b := 0) (c := 2) ha (by omega) (by omega)
  unfold F_X10_image F_X11_image
  rw [e1, e2, bs_, bs_, ib_, ib_]
  by_cases c : 0 ≤ a ∧ a ≤ 2
  · rw [if_pos (decide_eq_true c), if_pos (decide_eq_true c)]
    obtain ⟨k, rfl⟩ : ∃ k : Nat, a = k := ⟨a.toNat, by omega⟩
    have hk : k < 3 := by omega
    obtain ⟨t2, q1, q2⟩ := ev_copiesText all tx (a := 0) (b := k + 1) (by omega) (by omega) (by omega)
    unfold F_X5_copyFrom F_X8_copyFrom
    rw [← iI_nI k, gN_ hk (by decide), nI_clamp (by omega), bs_, gN_ hk (by decide), bs_, gN_ hk (by decide), nI_s, show (0 : Int32) = nI 0 from rfl, q1, bs_, gN_ hk (by decide)]
    dsimp only
    refine ⟨_, _, _, _, _, _, _, rfl, rfl, fun i hi => cp_out (by omega), fun i hi => by rw [q2, if_neg (by omega)], fun j hj => ?_⟩
    rw [upd_at, upd_at]
    by_cases cj : j = k
    · subst cj
      rw [if_pos rfl, if_pos rfl, va_up_self, va_up_self]
      refine ⟨rfl, fun _ => ⟨m, hm, cRd_cp hm h _ _ _ _ _ _ _ _, fun i hi => ?_, tX_cp hT q2⟩⟩
      rw [cp_in (by omega), Nat.mul_zero, Nat.zero_add, hA i hi]
    · rw [if_neg cj, if_neg cj, va_up_ne _ _ cj, va_up_ne _ _ cj]
      refine ⟨(hI j hj).1, fun hs => ?_⟩
      obtain ⟨m1, w1, w2, w3, w4⟩ := (hI j hj).2 hs
      refine ⟨m1, w1, w2, fun i hi => ?_, tX_c w4 (fun i b1 b2 => cp_out (by omega)) (fun i b1 b2 => by rw [q2, if_neg (by omega)])⟩
      rw [cp_out (by omega)]
      exact w3 i hi
  · rw [if_neg (by rw [decide_eq_false c]; decide), if_neg (by rw [decide_eq_false c]; decide)]
    exact ⟨_, _, _, _, _, _, _, rfl, rfl, fun _ _ => rfl, fun _ _ => rfl, hI⟩
theorem ev_again (hm : WM m) (h : cRd m gc tc lc ti go gaps st sp ve sr lt lz ln) (hA : rA m all) (hT : tX ts fk fp tb all 0 tx) (hI : iU kp kr kt sv all tx) {o s u : Int32} {ring : Nat → RT_X5} {un : Nat → Int32} (hu : hU o s ring u un) (ra x : Int32) :
    ∃ v gc2 tc2 lc2 ti2 go2 gaps2 st2 sp2 ve2 sr2 lt2 lz2 ln2 ts2 fk2 fp2 tb2 s2 u2 all2 tx2 m2, F_X10_again gc tc lc ti go gaps st sp ve sr lt lz ln ts fk fp tb s kp kr kt x = some (v, gc2, tc2, lc2, ti2, go2, gaps2, st2, sp2, ve2, sr2, lt2, lz2, ln2, ts2, fk2, fp2, tb2, s2) ∧ F_X11_again ra u all tx sv x = some (v, 0, u2, all2, tx2) ∧
      WM m2 ∧ cRd m2 gc2 tc2 lc2 ti2 go2 gaps2 st2 sp2 ve2 sr2 lt2 lz2 ln2 ∧ rA m2 all2 ∧ tX ts2 fk2 fp2 tb2 all2 0 tx2 ∧ hU o s2 ring u2 un ∧ iU kp kr kt sv all2 tx2 := by
  obtain ⟨a, ha, rfl⟩ := iI_ex x
  have e1 : F_X10_isWithin (iI a) (0 : Int32) (2 : Int32) = some (bI (decide (0 ≤ a ∧ a ≤ 2))) := ev_within (b := 0) (c := 2) ha (by omega) (by omega)
  have e2 : F_X11_in (iI a) (0 : Int32) (2 : Int32) = some (bI (decide (0 ≤ a ∧ a ≤ 2))) := ev_in (b := 0) (c := 2) ha (by omega) (by omega)
  unfold F_X10_again F_X11_again
  rw [e1, e2, bs_, bs_, ib_, ib_]
  by_cases c : 0 ≤ a ∧ a ≤ 2
  · rw [if_pos (decide_eq_true c), if_pos (decide_eq_true c)]
    obtain ⟨k, rfl⟩ : ∃ k : Nat, a = k := ⟨a.toNat, by omega⟩
    have hk : k < 3 := by omega
    rw [← iI_nI k, gN_ hk (by decide), gN_ hk (by decide), gN_ hk (by decide), nI_clamp (by omega), (hI k hk).1]
    by_cases cs : sv k = 0
    · rw [if_pos cs, if_pos cs]
      exact ⟨_, _, _, _, _, _, _, _, _, _, _, _, _, _, _, _, _, _, _, _, _, _, m, rfl, rfl, hm, h, hA, hT, hu, hI⟩
    · rw [if_neg cs, if_neg cs]
      obtain ⟨m1, w1, w2, w3, w4⟩ := (hI k hk).2 cs
      obtain ⟨t2, q1, q2⟩ := ev_copiesText all tx (a := k + 1) (b := 0) (by omega) (by omega) (by omega)
      unfold F_X5_copyFrom F_X8_copyFrom F_X4_forget
      rw [bs_, gN_ hk (by decide), bs_, bs_, nI_s, show F_X11_copiesText all tx (nI (k + 1)) (0 : Int32) = some (cp_ (k + 1) 0 100 all, t2) from q1, bs_]
      dsimp only
      obtain ⟨oo, ss, ⟨ho, hs⟩, ⟨r1, r2, r3⟩, hj⟩ := hu
      refine ⟨_, _, _, _, _, _, _, _, _, _, _, _, _, _, _, _, _, _, _, _, _, _, m1, rfl, rfl, w1, cRd_cp w1 w2 _ _ _ _ _ _ _ _, fun i hi => ?_, tX_cp w4 q2, ⟨oo, 0, ⟨ho, by omega⟩, ⟨r1, rfl, rfl⟩, fun j hj => by omega⟩, iU_c hI (fun i b1 b2 => cp_out (by omega)) (fun i b1 => by rw [q2, if_neg (by omega)])⟩
      have := cp_in (a := k + 1) (b := 0) (f := all) (i := i) (by omega)
      rw [Nat.mul_zero, Nat.zero_add] at this
      rw [this, w3 i hi]
  · rw [if_neg (by rw [decide_eq_false c]; decide), if_neg (by rw [decide_eq_false c]; decide)]
    exact ⟨_, _, _, _, _, _, _, _, _, _, _, _, _, _, _, _, _, _, _, _, _, _, m, rfl, rfl, hm, h, hA, hT, hu, hI⟩
end IMG
/-! ===== END ===== -/
