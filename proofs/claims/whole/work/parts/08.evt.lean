/-! ===== BEGIN more(ghosts), the reference ===== -/
def mV_ (m : Nat → Int) (z : Int32) (g : Nat) : Nat := if z = 0 then ct_ (fun v => dk_ (ig_ m g) v) 1 (nS (ig_ m g)) else ct_ (fun i => fo_ (ig_ m g) true i) 0 (nL (ig_ m g))
theorem mV_b {m : Nat → Int} (hg : WG m) (hw : WS m) (h5 : nG m < 5) (z : Int32) (g : Nat) : mV_ m z g ≤ 1000 := by
  have hw2 : WS (ig_ m g) := ag_WS (fun i hi => ig_hi hg h5 g hi) hw
  have h1 := nS_c hw2
  have h2 := nL_c hw2
  unfold mV_
  split
  · exact Nat.le_trans (ct_le _ _ _) (by omega)
  · exact Nat.le_trans (ct_le _ _ _) (by omega)
theorem mV_c {m : Nat → Int} (hg : WG m) (h5 : nG m < 5) (z : Int32) {a b : Nat} (ha : hg_ m a (nG m) = false) (hb : hg_ m b (nG m) = false) (a1 : 4 ≤ a) (a2 : a ≤ 60) (b1 : 4 ≤ b) (b2 : b ≤ 60) : (mW_ m z a ≤ mW_ m z b) = ((mV_ m z a : Int) ≤ (mV_ m z b : Int)) := by
  unfold mW_ mV_
  by_cases cz : z = 0
  · rw [if_pos cz, if_pos cz, if_pos cz, if_pos cz]
    have e1 := dk_ig hg h5 (a : Int)
    have e2 := dk_ig hg h5 (b : Int)
    apply propext
    omega
  · rw [if_neg cz, if_neg cz, if_neg cz, if_neg cz]
    have e1 := fo_ig hg h5 (g := (a : Int)) (by omega) ha
    have e2 := fo_ig hg h5 (g := (b : Int)) (by omega) hb
    apply propext
    omega
theorem bg_y {P : Nat → Bool} {W : Nat → Int} {i : Nat} (h : P (4 + i) = true) : bg_ P W (i + 1) = bg_ P W i := by
  show (if P (4 + i) then _ else _) = _
  rw [if_pos h]
theorem bg_n {P : Nat → Bool} {W : Nat → Int} {i : Nat} (h : ¬ P (4 + i) = true) : bg_ P W (i + 1) = match bg_ P W i with
    | none => some (4 + i)
    | some b => if W b ≤ W (4 + i) then some b else some (4 + i) := by
  show (if P (4 + i) then _ else _) = _
  rw [if_neg h]
  cases bg_ P W i <;> rfl
def lv_o (V : Nat → Int) (o : Option Nat) : Int32 := match o with
  | none => 0
  | some b => iI (V b)
theorem ev_rmore {m : Nat → Int} {all : Nat → Int32} (hg : WG m) (hw : WS m) (ht : WT m) (hA : rA m all) (ra : Int32) (f : Nat → Int32) (z : Int32) :
    ∃ a2 g, F_X11_more ra all f z = some (qe_ m z, 0, a2, g) ∧ ∀ i, i < 400 → a2 i = all i := by
  obtain ⟨hn, h5⟩ := nG_c hg
  have hgc : all 0 = nI (nG m) := by rw [hA 0 (by decide), hn, iI_nI]
  unfold F_X11_more qe_
  by_cases c : nG m = 5
  · rw [if_pos (show all 0 = 5 by rw [hgc, c]; rfl), if_pos c]
    exact ⟨_, _, rfl, fun i _ => rfl⟩
  · rw [if_neg (show ¬ all 0 = 5 by rw [hgc, iI_nI, show (5 : Int32) = iI 5 from rfl, iI_eq (by omega) (by omega)]; omega), if_neg c, show (0 : Int32) = nI 0 from rfl, show (4 : Int32) = nI 4 from rfl, ev_copies (by decide) (by decide) (by decide), bs_]
    have h4 : nG m < 5 := by omega
    have hA2 : ∀ i, cp_ 0 4 100 all i = if 400 ≤ i ∧ i < 500 then all (i - 400) else all i := by
      intro i
      unfold cp_
      by_cases h : 400 ≤ i ∧ i < 500
      · rw [if_pos h, if_pos h]; exact congrArg all (by omega)
      · rw [if_neg h, if_neg h]
    generalize cp_ 0 4 100 all = B at hA2
    have hB : rA m B := fun k hk => by rw [hA2, if_neg (by omega), hA k hk]
    have hback : ∀ r : Nat → Int32, (∀ i, 97 ≤ i → r i = B i) → cp_ 4 0 100 r = B := by
      intro r hr
      funext i
      unfold cp_
      by_cases h : 100 * 0 ≤ i ∧ i < 100 * 0 + 100
      · rw [if_pos h, hr _ (by omega), hA2, hA2, if_pos (by omega), if_neg (by omega)]
        exact congrArg all (by omega)
      · rw [if_neg h, hr _ (by omega)]
    have hP : bg_ (fun g => hg_ m g (nG m)) (mW_ m z) 57 = bg_ (fun g => hg_ m g (nG m)) (fun g => (mV_ m z g : Int)) 57 :=
      bg_c (fun a b ha hb a1 a2 b1 b2 => mV_c hg h4 z ha hb a1 a2 b1 b2) 57 (by omega)
    unfold mR_
    rw [hP]
    have main : ∀ d i n (ld : Nat → Int32), i + d = 57 → d < n → ∃ g, L_X11_more_30 n (nI 0) B ld z (bo_ (bg_ (fun g => hg_ m g (nG m)) (fun g => (mV_ m z g : Int)) i)) (lv_o (fun g => (mV_ m z g : Int)) (bg_ (fun g => hg_ m g (nG m)) (fun g => (mV_ m z g : Int)) i)) (nI (4 + i)) = some (bo_ (bg_ (fun g => hg_ m g (nG m)) (fun g => (mV_ m z g : Int)) 57), nI 0, B, g) := by
      intro d
      induction d with
      | zero =>
        intro i n ld a1 a2
        obtain ⟨n, rfl⟩ : ∃ k, n = k + 1 := ⟨n - 1, by omega⟩
        have : i = 57 := by omega
        subst this
        rw [L_X11_more_30, if_pos (show (60 : Int32) < nI (4 + 57) by decide)]
        exact ⟨_, rfl⟩
      | succ d ih =>
        intro i n ld a1 a2
        obtain ⟨n, rfl⟩ : ∃ k, n = k + 1 := ⟨n - 1, by omega⟩
        rw [L_X11_more_30, show (60 : Int32) = nI 60 from rfl, if_neg (show ¬ nI 60 < nI (4 + i) by rw [nI_lt2 (by omega) (by omega)]; omega), iI_nI (4 + i), ev_hasGapR hg hB (by omega) (by decide), bs_, ib_]
        by_cases ch : hg_ m ((4 + i : Nat) : Int) (nG m) = true
        · rw [if_pos ch, ← iI_nI, nI_s]
          have := ih (i + 1) n ld (by omega) (by omega)
          rw [bg_y ch] at this
          exact this
        · rw [if_neg ch]
          have chf : hg_ m ((4 + i : Nat) : Int) (nG m) = false := by simpa using ch
          obtain ⟨r, e, hr1, hr2⟩ := ev_putsGap (N := 500) hg h4 hB (g := ((4 + i : Nat) : Int)) (by omega) (by decide)
          have hg2 : WG (ig_ m ((4 + i : Nat) : Int)) := WG_ig hg h4 (by omega) chf
          have ag : ∀ j, 6 ≤ j → ig_ m ((4 + i : Nat) : Int) j = m j := fun j hj => ig_hi hg h4 _ hj
          have hw2 := ag_WS ag hw
          have ht2 := ag_WT ag ht
          rw [e, bs_, ev_laysLoud hg2 hw2 ht2 hr1, bs_, ev_darkMany hg2 hw2 hr1, bs_, ev_foundMany hg2 hw2 ht2 hr1 (tL_ll _ _), bs_, ← iI_nI]
          have e2 : ∀ k, (if z = 0 then J_X11_more_81 (L_X11_more_30 n) (nI 0) r (llR (ig_ m ((4 + i : Nat) : Int)) (nG (ig_ m ((4 + i : Nat) : Int))) 0 ld) z (bo_ k) (lv_o (fun g => (mV_ m z g : Int)) k) (nI (4 + i)) (nI (ct_ (fun v => dk_ (ig_ m ((4 + i : Nat) : Int)) v) 1 (nS (ig_ m ((4 + i : Nat) : Int))))) else J_X11_more_81 (L_X11_more_30 n) (nI 0) r (llR (ig_ m ((4 + i : Nat) : Int)) (nG (ig_ m ((4 + i : Nat) : Int))) 0 ld) z (bo_ k) (lv_o (fun g => (mV_ m z g : Int)) k) (nI (4 + i)) (nI (ct_ (fun i_1 => fo_ (ig_ m ((4 + i : Nat) : Int)) (decide (¬ (1 : Int32) = 0)) i_1) 0 (nL (ig_ m ((4 + i : Nat) : Int)))))) = J_X11_more_81 (L_X11_more_30 n) (nI 0) r (llR (ig_ m ((4 + i : Nat) : Int)) (nG (ig_ m ((4 + i : Nat) : Int))) 0 ld) z (bo_ k) (lv_o (fun g => (mV_ m z g : Int)) k) (nI (4 + i)) (iI (mV_ m z (4 + i))) := by
            intro k
            unfold mV_
            by_cases cz : z = 0
            · rw [if_pos cz, if_pos cz, iI_nI (ct_ _ _ _)]
            · rw [if_neg cz, if_neg cz, iI_nI (ct_ _ _ _), decide_eq_true (show ¬ (1 : Int32) = 0 by decide)]
          rw [e2]
          have b1 := mV_b hg hw h4 z (4 + i)
          have fin : ∀ x2 x3, J_X11_more_100 (L_X11_more_30 n) (nI 0) r (llR (ig_ m ((4 + i : Nat) : Int)) (nG (ig_ m ((4 + i : Nat) : Int))) 0 ld) z x2 x3 (nI (4 + i)) = L_X11_more_30 n (nI 0) B (llR (ig_ m ((4 + i : Nat) : Int)) (nG (ig_ m ((4 + i : Nat) : Int))) 0 ld) z x2 x3 (nI (4 + (i + 1))) := by
            intro x2 x3
            unfold J_X11_more_100
            rw [show (0 : Int32) = nI 0 from rfl, show (4 : Int32) = nI 4 from rfl, ev_copies (by decide) (by decide) (by decide), bs_, hback r hr2, nI_s, show 4 + i + 1 = 4 + (i + 1) by omega]
          have ih2 := ih (i + 1) n (llR (ig_ m ((4 + i : Nat) : Int)) (nG (ig_ m ((4 + i : Nat) : Int))) 0 ld) (by omega) (by omega)
          rw [bg_n ch] at ih2
          unfold J_X11_more_81 J_X11_more_94
          rw [fin, fin, if_e (bo_n (by omega))]
          cases h : bg_ (fun g => hg_ m g (nG m)) (fun g => (mV_ m z g : Int)) i with
          | none =>
            rw [h] at ih2
            rw [if_pos rfl]
            exact ih2
          | some b =>
            have hbb := bg_b h
            have b2 := mV_b hg hw h4 z b
            rw [h] at ih2
            rw [if_neg (by simp)]
            show ∃ g, (if iI (mV_ m z b) ≤ iI (mV_ m z (4 + i)) then _ else _) = _
            rw [if_e (iI_le (by omega) (by omega))]
            dsimp only at ih2
            by_cases c2 : (mV_ m z b : Int) ≤ (mV_ m z (4 + i) : Int)
            · rw [if_pos c2] at ih2 ⊢
              exact ih2
            · rw [if_neg c2] at ih2 ⊢
              exact ih2
    obtain ⟨g, hgf⟩ := main 57 0 fu_ f (by omega) (fu_lt (by decide))
    exact ⟨B, g, hgf, fun i hi => by rw [hA2, if_neg (by omega)]⟩
/-! ===== END ===== -/
