/-! ===== BEGIN what is heard: the class's listen, the reference's laysLoud ===== -/
/-- target i's echo falls on place p of gap g -/
def ec_ (m : Nat → Int) (g : Int) (p i : Nat) : Bool := se_ m i g && decide (rn_ m i % g = (p : Int))
/-- how loud a place is by the first t targets -/
def lo_ (m : Nat → Int) (g : Int) (p : Nat) : Nat → Int
  | 0 => 0
  | t + 1 => lo_ m g p t + (if ec_ m g p t then m (16 + 3 * t) else 0)
theorem lo_b {m : Nat → Int} (h : WT m) (g : Int) (p : Nat) : ∀ t, t ≤ nT m → 0 ≤ lo_ m g p t ∧ lo_ m g p t ≤ 99 * t
  | 0, _ => by unfold lo_; omega
  | t + 1, ht => by
    obtain ⟨hn, -⟩ := nT_c h
    have h1 := lo_b h g p t (by omega)
    have h2 := h.2.2 t (by omega)
    unfold lo_
    split <;> omega
/-- a row of the class's two tables, by the first t targets -/
def rwT (m : Nat → Int) (g : Int) (r t : Nat) (f : Nat → Int32) : Nat → Int32 := fun i => if 60 * r ≤ i ∧ i < 60 * r + 60 then nI (bt_ (ec_ m g (i - 60 * r)) t) else f i
def rwL (m : Nat → Int) (g : Int) (r t : Nat) (f : Nat → Int32) : Nat → Int32 := fun i => if 60 * r ≤ i ∧ i < 60 * r + 60 then iI (lo_ m g (i - 60 * r) t) else f i
theorem upd_at {f : Nat → Int32} {k i : Nat} {x : Int32} : upd f k x i = if i = k then x else f i := rfl
theorem ev_listenBy {m : Nat → Int} {st : Nat → Int32} {tc : Int32} {sp ve sr : Nat → Int32} (hw : WS m) (ht : WT m) (hS : cS m st) (hT : cT m tc sp ve sr) (f1 f2 : Nat → Int32) {r : Nat} (hr : r < 5) {g : Int} (hg : 4 ≤ g ∧ g ≤ 60) :
    F_X3_listenBy f1 f2 tc st sp ve sr (nI r) (iI g) = some (rwT m g r (nT m) f1, rwL m g r (nT m) f2) := by
  obtain ⟨hn, h8⟩ := nT_c ht
  have htc : tc = nI (nT m) := by rw [hT.1, hn, iI_nI]
  have loop2 : ∀ d t n, t + d = nT m → d < n → L_X3_listenBy_64 tc st sp ve sr n (rwT m g r t f1) (rwL m g r t f2) (iI g) (nI (60 * r)) (nI t) = some (rwT m g r (nT m) f1, rwL m g r (nT m) f2) := by
    intro d
    induction d with
    | zero =>
      intro t n e hlt
      obtain ⟨n, rfl⟩ : ∃ k, n = k + 1 := ⟨n - 1, by omega⟩
      have : t = nT m := by omega
      subst this
      rw [L_X3_listenBy_64, htc, if_pos (by rw [nI_le2 (by omega) (by omega)]; omega)]
    | succ d ih =>
      intro t n e hlt
      obtain ⟨n, rfl⟩ : ∃ k, n = k + 1 := ⟨n - 1, by omega⟩
      have h1 := ht.2.2 t (by omega)
      have h2 := rn_b ht (show t < nT m by omega)
      have hm := Int.emod_nonneg (rn_ m t) (show g ≠ 0 by omega)
      have hm2 := Int.emod_lt_of_pos (rn_ m t) (show 0 < g by omega)
      rw [L_X3_listenBy_64, htc, if_neg (by rw [nI_le2 (by omega) (by omega)]; omega), ev_sees hw ht hS hT (by omega) (by omega), bs_, ib_, nI_s]
      have ih2 := ih (t + 1) n (by omega) (by omega)
      rw [htc] at ih2
      by_cases c : se_ m t g = true
      · rw [if_pos c, ev_rangeOf ht hT (by omega), bs_, ev_rest (by omega) (by omega) (by omega) (by omega), bs_, iI_nI (60 * r), iI_add]
        have hix : in_b (iI (((60 * r : Nat) : Int) + rn_ m t % g)) 300 = true := in_ok (by omega) (by omega) (by omega)
        rw [gd_ok hix, gd_ok hix, gd_ok hix, gd_ok (in_N (by omega) (by decide)), gd_ok hix, iI_clamp (by omega), nI_clamp (by omega), (hT.2 t (by omega)).2.2]
        have e1 : upd (rwT m g r t f1) (((60 * r : Nat) : Int) + rn_ m t % g).toNat (rwT m g r t f1 (((60 * r : Nat) : Int) + rn_ m t % g).toNat ||| ((1 : Int32) <<< (nI t &&& 31))) = rwT m g r (t + 1) f1 := by
          funext i
          rw [upd_at]
          by_cases hi : i = (((60 * r : Nat) : Int) + rn_ m t % g).toNat
          · rw [if_pos hi, ← hi]
            unfold rwT
            rw [if_pos (by omega), if_pos (by omega), bt_or (by omega)]
            have hec : ec_ m g (i - 60 * r) t = true := by
              unfold ec_
              rw [c, decide_eq_true (show rn_ m t % g = ((i - 60 * r : Nat) : Int) by omega)]; rfl
            conv => rhs; unfold bt_
            rw [if_pos hec]
          · rw [if_neg hi]
            unfold rwT
            by_cases hj : 60 * r ≤ i ∧ i < 60 * r + 60
            · rw [if_pos hj, if_pos hj]
              have hec : ec_ m g (i - 60 * r) t = false := by
                unfold ec_
                rw [decide_eq_false (show ¬ rn_ m t % g = ((i - 60 * r : Nat) : Int) by omega), Bool.and_false]
              conv => rhs; unfold bt_
              rw [hec]; rfl
            · rw [if_neg hj, if_neg hj]
        have e2 : upd (rwL m g r t f2) (((60 * r : Nat) : Int) + rn_ m t % g).toNat (rwL m g r t f2 (((60 * r : Nat) : Int) + rn_ m t % g).toNat + iI (m (16 + 3 * t))) = rwL m g r (t + 1) f2 := by
          funext i
          rw [upd_at]
          by_cases hi : i = (((60 * r : Nat) : Int) + rn_ m t % g).toNat
          · rw [if_pos hi, ← hi]
            unfold rwL
            rw [if_pos (by omega), if_pos (by omega), iI_add]
            have hec : ec_ m g (i - 60 * r) t = true := by
              unfold ec_
              rw [c, decide_eq_true (show rn_ m t % g = ((i - 60 * r : Nat) : Int) by omega)]; rfl
            conv => rhs; unfold lo_
            rw [if_pos hec]
          · rw [if_neg hi]
            unfold rwL
            by_cases hj : 60 * r ≤ i ∧ i < 60 * r + 60
            · rw [if_pos hj, if_pos hj]
              have hec : ec_ m g (i - 60 * r) t = false := by
                unfold ec_
                rw [decide_eq_false (show ¬ rn_ m t % g = ((i - 60 * r : Nat) : Int) by omega), Bool.and_false]
              conv => rhs; unfold lo_
              rw [hec, if_neg (show ¬ (false = true) by decide), Int.add_zero]
            · rw [if_neg hj, if_neg hj]
        rw [e1, e2, ← iI_nI]
        exact ih2
      · rw [if_neg c]
        have hec : ∀ p, ec_ m g p t = false := by
          intro p
          unfold ec_
          rw [show se_ m t g = false by simpa using c]; rfl
        have e1 : rwT m g r t f1 = rwT m g r (t + 1) f1 := by
          funext i
          unfold rwT
          conv => rhs; unfold bt_
          rw [hec]; rfl
        have e2 : rwL m g r t f2 = rwL m g r (t + 1) f2 := by
          funext i
          unfold rwL
          conv => rhs; unfold lo_
          rw [hec, if_neg (show ¬ (false = true) by decide), Int.add_zero]
        rw [e1, e2]
        exact ih2
  have loop1 : ∀ d p n (a b : Nat → Int32), p + d = 60 → d < n → (∀ i, (60 * r ≤ i ∧ i < 60 * r + p → a i = 0 ∧ b i = 0) ∧ (¬ (60 * r ≤ i ∧ i < 60 * r + p) → a i = f1 i ∧ b i = f2 i)) → L_X3_listenBy_26 tc st sp ve sr n a b (iI g) (nI (60 * r)) (nI p) = some (rwT m g r (nT m) f1, rwL m g r (nT m) f2) := by
    intro d
    induction d with
    | zero =>
      intro p n a b e hlt hab
      obtain ⟨n, rfl⟩ : ∃ k, n = k + 1 := ⟨n - 1, by omega⟩
      have : p = 60 := by omega
      subst this
      rw [L_X3_listenBy_26, show (60 : Int32) = nI 60 from rfl, if_pos (by rw [nI_le2 (by omega) (by omega)]; omega)]
      have e1 : a = rwT m g r 0 f1 := by
        funext i
        unfold rwT
        by_cases hj : 60 * r ≤ i ∧ i < 60 * r + 60
        · rw [if_pos hj, ((hab i).1 hj).1]; rfl
        · rw [if_neg hj, ((hab i).2 hj).1]
      have e2 : b = rwL m g r 0 f2 := by
        funext i
        unfold rwL
        by_cases hj : 60 * r ≤ i ∧ i < 60 * r + 60
        · rw [if_pos hj, ((hab i).1 hj).2]; rfl
        · rw [if_neg hj, ((hab i).2 hj).2]
      rw [e1, e2]
      exact loop2 (nT m) 0 fu_ (by omega) (fu_lt (by omega))
    | succ d ih =>
      intro p n a b e hlt hab
      obtain ⟨n, rfl⟩ : ∃ k, n = k + 1 := ⟨n - 1, by omega⟩
      have hix : in_b (nI (60 * r + p)) 300 = true := in_N (by omega) (by decide)
      rw [L_X3_listenBy_26, show (60 : Int32) = nI 60 from rfl, if_neg (by rw [nI_le2 (by omega) (by omega)]; omega), nI_add, gd_ok hix, gd_ok hix, nI_clamp (by omega), nI_s]
      refine ih (p + 1) n _ _ (by omega) (by omega) (fun i => ⟨fun hi => ?_, fun hi => ?_⟩)
      · rw [upd_at, upd_at]
        by_cases hk : i = 60 * r + p
        · rw [if_pos hk, if_pos hk]; exact ⟨rfl, rfl⟩
        · rw [if_neg hk, if_neg hk]; exact (hab i).1 (by omega)
      · rw [upd_at, upd_at, if_neg (by omega), if_neg (by omega)]
        exact (hab i).2 (by omega)
  unfold F_X3_listenBy
  rw [iI_nI r, show (0 : Int32) = iI 0 from rfl, show (4 : Int32) = iI 4 from rfl, ev_within (by omega) (by omega) (by omega), bs_, show iI 0 = (0 : Int32) from rfl, ib_, if_pos (decide_eq_true (by omega)), ev_isGap (by omega), bs_, ib_, if_pos (decide_eq_true (by omega)), ← iI_nI, show (60 : Int32) = nI 60 from rfl, pk_mul, Nat.mul_comm r 60]
  exact loop1 60 0 fu_ f1 f2 (by omega) (fu_lt (by omega)) (fun i => ⟨fun h => by omega, fun _ => ⟨rfl, rfl⟩⟩)
/-! ===== END ===== -/
