/-! ===== BEGIN tokens, the reference ===== -/
def rS (k : Nat) : Nat := if k = 0 then 0 else if k = 1 then 2 else if k = 2 then 3 else if k = 3 then 4 else 1
theorem w64 (a b : Nat) (hb : b < 256) : ((Int64.ofNat a) <<< (((8 : Int32)).toInt64 &&& 63)) ||| (nI b).toInt64 = Int64.ofNat (a * 256 + b) := by
  apply Int64.toBitVec.inj
  apply BitVec.eq_of_toNat_eq
  have e2 : (nI b).toInt64.toBitVec.toNat = b := by
    show ((BitVec.ofNat 32 b).signExtend 64).toNat = b
    rw [BitVec.signExtend_eq_setWidth_of_msb_false, BitVec.toNat_setWidth, BitVec.toNat_ofNat]
    · omega
    · rw [BitVec.msb_eq_false_iff_two_mul_lt, BitVec.toNat_ofNat]
      omega
  have e3 : (((8 : Int32)).toInt64 &&& 63 : Int64) = 8 := by decide
  rw [e3]
  have e1 : ((Int64.ofNat a) <<< (8 : Int64)).toBitVec = (BitVec.ofNat 64 a) <<< 8 := rfl
  have e4 : (((Int64.ofNat a) <<< (8 : Int64)) ||| (nI b).toInt64).toBitVec.toNat = ((BitVec.ofNat 64 a) <<< 8).toNat ||| b := by
    show (((Int64.ofNat a) <<< (8 : Int64)).toBitVec ||| (nI b).toInt64.toBitVec).toNat = _
    rw [BitVec.toNat_or, e1, e2]
  have e5 : (Int64.ofNat (a * 256 + b)).toBitVec.toNat = (a * 256 + b) % 2 ^ 64 := by
    show (BitVec.ofNat 64 (a * 256 + b)).toNat = _
    rw [BitVec.toNat_ofNat]
  rw [e4, e5, BitVec.toNat_shiftLeft, BitVec.toNat_ofNat, Nat.shiftLeft_eq]
  have e6 : (a % 2 ^ 64) * 2 ^ 8 % 2 ^ 64 = 2 ^ 8 * (a % 2 ^ 56) := by omega
  rw [e6, ← Nat.two_pow_add_eq_or_of_lt (i := 8) (by omega)]
  omega
section TOK
variable {c : Nat → Nat} {N : Nat} {tb tx : Nat → Int32}
def sN (c : Nat → Nat) (N i : Nat) : Int := if i < N then (c i : Int) else -1
theorem ev_see (hN : N ≤ 400) (hb : ∀ i, i < N → tx i &&& (255 : Int32) = nI (c i)) {i : Nat} (hi : i ≤ N) : F_X11_see (nI i) (nI N) tx = some (iI (sN c N i)) := by
  unfold F_X11_see sN
  rw [if_e (nI_le2 (by omega) (by omega))]
  by_cases q : i < N
  · rw [if_neg (by omega), if_pos q, gN_ (by omega) (by decide), nI_clamp (by omega), hb i q, iI_nI]
  · rw [if_pos (by omega), if_neg q]
    rfl
theorem sN_b (hc : ∀ i, i < N → c i < 256) (i : Nat) : -1 ≤ sN c N i ∧ sN c N i < 256 := by
  unfold sN
  by_cases q : i < N
  · rw [if_pos q]
    have := hc i q
    omega
  · rw [if_neg q]
    omega
theorem ev_inN {a : Int} (ha : -1 ≤ a ∧ a < 256) {l h : Nat} (hl : l < 1000) (hh : h < 1000) : F_X11_in (iI a) (nI l) (nI h) = some (bI (decide ((l : Int) ≤ a ∧ a ≤ h))) := by
  rw [iI_nI l, iI_nI h]
  exact ev_in (by omega) (by omega) (by omega)
theorem ev_tk74 (hN : N ≤ 400) (hc : ∀ i, i < N → c i < 256) (hb : ∀ i, i < N → tx i &&& (255 : Int32) = nI (c i)) {s : Nat} (b so v : Int32) : ∀ d i n, i + d = N → d < n → s ≤ i → (∀ j, s ≤ j → j < i → iLe c j = true) →
    L_X11_token_74 (nI N) tx n (nI i) b so v (Int64.ofNat (pkN (fun j => c (s + j)) (i - s))) (nI (i - s)) = some (nI (fw_P (iLe c) d i), b, 2, v, if fw_P (iLe c) d i - s ≤ 8 then Int64.ofNat (pkN (fun j => c (s + j)) (fw_P (iLe c) d i - s)) else 0) := by
  have fin : ∀ i, s ≤ i → i ≤ N → J_X11_token_121 (nI N) tx (nI i) b so v (Int64.ofNat (pkN (fun j => c (s + j)) (i - s))) (nI (i - s)) = some (nI i, b, 2, v, if i - s ≤ 8 then Int64.ofNat (pkN (fun j => c (s + j)) (i - s)) else 0) := by
    intro i h1 h2
    unfold J_X11_token_121
    rw [show (8 : Int32) = nI 8 from rfl, if_e (nI_le2 (by omega) (by decide))]
    by_cases q : i - s ≤ 8
    · rw [if_pos q, if_pos q]; rfl
    · rw [if_neg q, if_neg q]; rfl
  intro d
  induction d with
  | zero =>
    intro i n a1 a2 a3 a4
    obtain ⟨n, rfl⟩ : ∃ k, n = k + 1 := ⟨n - 1, by omega⟩
    have e : sN c N i = -1 := by unfold sN; rw [if_neg (by omega)]
    rw [L_X11_token_74, ev_see hN hb (by omega), bs_, e, show F_X11_in (iI (-1)) (97 : Int32) (122 : Int32) = some 0 from rfl, bs_, if_pos rfl, fin i a3 (by omega)]
    rfl
  | succ d ih =>
    intro i n a1 a2 a3 a4
    obtain ⟨n, rfl⟩ : ∃ k, n = k + 1 := ⟨n - 1, by omega⟩
    have hb2 := sN_b hc i
    have e : sN c N i = (c i : Int) := by unfold sN; rw [if_pos (by omega)]
    have hci := hc i (by omega)
    rw [L_X11_token_74, ev_see hN hb (by omega), bs_, show (97 : Int32) = nI 97 from rfl, show (122 : Int32) = nI 122 from rfl, ev_inN hb2 (by decide) (by decide), bs_, ib_, bs_, e]
    by_cases q : iLe c i = true
    · have hd : 97 ≤ c i ∧ c i ≤ 122 := of_decide_eq_true q
      have hj : ∀ j, s ≤ j → j < i + 1 → iLe c j = true := fun j h1 h2 => by
        rcases Nat.eq_or_lt_of_le (show j ≤ i by omega) with w | w
        · rw [w]; exact q
        · exact a4 j h1 w
      have := ih (i + 1) n (by omega) (by omega) (by omega) hj
      rw [show i + 1 - s = (i - s) + 1 by omega] at this
      have dd : pkN (fun j => c (s + j)) ((i - s) + 1) = pkN (fun j => c (s + j)) (i - s) * 256 + c i := by
        show pkN (fun j => c (s + j)) (i - s) * 256 + c (s + (i - s)) = _
        rw [show s + (i - s) = i by omega]
      rw [dd] at this
      rw [fw_y q, if_pos (decide_eq_true (by omega)), nI_s, nI_s, ← iI_nI, w64 _ _ hci]
      exact this
    · have hd : ¬ (97 ≤ c i ∧ c i ≤ 122) := fun hh => q (decide_eq_true hh)
      rw [fw_n q, if_neg (by rw [decide_eq_false (by omega)]; decide), fin i a3 (by omega)]
theorem ev_tk163 (hN : N ≤ 400) (hc : ∀ i, i < N → c i < 256) (hb : ∀ i, i < N → tx i &&& (255 : Int32) = nI (c i)) {s : Nat} (b so : Int32) (w : Int64) : ∀ d i n, i + d = N → d < n → s ≤ i → (∀ j, s ≤ j → j < i → iDi c j = true) →
    L_X11_token_163 (nI N) tx n (nI i) b so (nI (dvN c s (i - s))) w (nI (i - s)) = some (nI (fw_P (iDi c) d i), b, nI (if fw_P (iDi c) d i - s ≤ 4 then 3 else 1), nI (dvN c s (fw_P (iDi c) d i - s)), w) := by
  have fin : ∀ i v, s ≤ i → i ≤ N → J_X11_token_224 (nI N) tx (nI i) b so v w (nI (i - s)) = some (nI i, b, nI (if i - s ≤ 4 then 3 else 1), v, w) := by
    intro i v h1 h2
    unfold J_X11_token_224
    rw [show (4 : Int32) = nI 4 from rfl, if_e (nI_le2 (by omega) (by decide))]
    by_cases q : i - s ≤ 4
    · rw [if_pos q, if_pos q]; rfl
    · rw [if_neg q, if_neg q]; rfl
  intro d
  induction d with
  | zero =>
    intro i n a1 a2 a3 a4
    obtain ⟨n, rfl⟩ : ∃ k, n = k + 1 := ⟨n - 1, by omega⟩
    have e : sN c N i = -1 := by unfold sN; rw [if_neg (by omega)]
    rw [L_X11_token_163, ev_see hN hb (by omega), bs_, e, show F_X11_in (iI (-1)) (48 : Int32) (57 : Int32) = some 0 from rfl, bs_, if_pos rfl, fin i _ a3 (by omega)]
    rfl
  | succ d ih =>
    intro i n a1 a2 a3 a4
    obtain ⟨n, rfl⟩ : ∃ k, n = k + 1 := ⟨n - 1, by omega⟩
    have hb2 := sN_b hc i
    have e : sN c N i = (c i : Int) := by unfold sN; rw [if_pos (by omega)]
    have hci := hc i (by omega)
    have h99 := dvN_c (c := c) (s := s) (n := i - s) (fun j hj => a4 (s + j) (by omega) (by omega))
    rw [L_X11_token_163, ev_see hN hb (by omega), bs_, show (48 : Int32) = nI 48 from rfl, show (57 : Int32) = nI 57 from rfl, ev_inN hb2 (by decide) (by decide), bs_, ib_, bs_, e]
    by_cases q : iDi c i = true
    · have hd : 48 ≤ c i ∧ c i ≤ 57 := of_decide_eq_true q
      have hj : ∀ j, s ≤ j → j < i + 1 → iDi c j = true := fun j h1 h2 => by
        rcases Nat.eq_or_lt_of_le (show j ≤ i by omega) with w | w
        · rw [w]; exact q
        · exact a4 j h1 w
      have := ih (i + 1) n (by omega) (by omega) (by omega) hj
      rw [show i + 1 - s = (i - s) + 1 by omega] at this
      have dd : dvN c s ((i - s) + 1) = if i - s < 4 then dvN c s (i - s) * 10 + (c i - 48) else dvN c s (i - s) := by
        show (if i - s < 4 then dvN c s (i - s) * 10 + (c (s + (i - s)) - 48) else dvN c s (i - s)) = _
        rw [show s + (i - s) = i by omega]
      rw [dd] at this
      rw [fw_y q, if_pos (decide_eq_true (by omega)), show (4 : Int32) = nI 4 from rfl, if_e (nI_le2 (by decide) (by omega))]
      unfold J_X11_token_205
      rw [nI_s, nI_s]
      by_cases q4 : 4 ≤ i - s
      · rw [if_neg (by omega)] at this
        rw [if_pos q4]
        exact this
      · rw [if_pos (by omega)] at this
        have ev : (10 : Int32) * nI (dvN c s (i - s)) + iI (c i : Int) - nI 48 = nI (dvN c s (i - s) * 10 + (c i - 48)) := by
          rw [iI_nI, show (10 : Int32) = iI 10 from rfl, iI_nI 48, iI_mul, iI_add, iI_sub, iI_nI]
          congr 1
          omega
        rw [if_neg q4, ev]
        exact this
    · have hd : ¬ (48 ≤ c i ∧ c i ≤ 57) := fun hh => q (decide_eq_true hh)
      rw [fw_n q, if_neg (by rw [decide_eq_false (by omega)]; decide), fin i _ a3 (by omega)]
theorem ev_tk31 (hN : N ≤ 400) (hc : ∀ i, i < N → c i < 256) (hb : ∀ i, i < N → tx i &&& (255 : Int32) = nI (c i)) (b0 so0 v0 : Int32) (w0 : Int64) {s : Nat} (hs : s ≤ N) :
    ∃ v, J_X11_token_31 (nI N) tx (nI s) b0 so0 v0 w0 = some (nI (tE c N s), nI s, nI (rS (tK c N s)), v, tW c N s) ∧ (tK c N s = 2 → v = nI (tV c N s)) := by
  have hb2 := sN_b hc s
  unfold J_X11_token_31
  rw [ev_see hN hb hs, bs_, show (0 : Int32) = iI 0 from rfl, if_e (iI_le (by omega) (by omega)), show iI 0 = (0 : Int32) from rfl]
  by_cases h1 : s < N
  · have e : sN c N s = (c s : Int) := by unfold sN; rw [if_pos h1]
    have hcs := hc s h1
    rw [if_pos (by omega), show (97 : Int32) = nI 97 from rfl, show (122 : Int32) = nI 122 from rfl, ev_inN hb2 (by decide) (by decide), bs_, ib_]
    by_cases h2 : iLe c s = true
    · have q2 : 97 ≤ c s ∧ c s ≤ 122 := of_decide_eq_true h2
      have eE : tE c N s = fw_P (iLe c) (N - s) s := by
        unfold tE
        rw [if_neg (by omega), if_pos h2]
      have eK : tK c N s = 1 := by
        unfold tK
        rw [if_neg (by omega), if_pos h2]
      have eW : tW c N s = if tE c N s - s ≤ 8 then Int64.ofNat (pkN (fun i => c (s + i)) (tE c N s - s)) else 0 := by
        conv => lhs; unfold tW
        rw [if_neg (by omega), if_pos h2]
      have := ev_tk74 hN hc hb (s := s) (nI s) so0 v0 (N - s) s fu_ (by omega) (fu_lt (by omega)) (Nat.le_refl _) (fun j a b => by omega)
      rw [Nat.sub_self] at this
      have this : L_X11_token_74 (nI N) tx fu_ (nI s) (nI s) so0 v0 0 0 = _ := this
      rw [if_pos (decide_eq_true (by omega)), this, eW, eE, eK]
      exact ⟨_, rfl, fun h => by omega⟩
    · have q2 : ¬ (97 ≤ c s ∧ c s ≤ 122) := fun hh => h2 (decide_eq_true hh)
      have eW : tW c N s = 0 := by
        unfold tW
        rw [if_neg (by omega), if_neg h2]
      rw [if_neg (by rw [decide_eq_false (by omega)]; decide), show (48 : Int32) = nI 48 from rfl, show (57 : Int32) = nI 57 from rfl, ev_inN hb2 (by decide) (by decide), bs_, ib_, eW]
      by_cases h3 : iDi c s = true
      · have q3 : 48 ≤ c s ∧ c s ≤ 57 := of_decide_eq_true h3
        have eE : tE c N s = fw_P (iDi c) (N - s) s := by
          unfold tE
          rw [if_neg (by omega), if_neg h2, if_pos h3]
        have eK : tK c N s = if tE c N s - s ≤ 4 then 2 else 4 := by
          conv => lhs; unfold tK
          rw [if_neg (by omega), if_neg h2, if_pos h3]
        have eR : nI (rS (tK c N s)) = nI (if tE c N s - s ≤ 4 then 3 else 1) := by
          rw [eK]
          by_cases q : tE c N s - s ≤ 4
          · rw [if_pos q, if_pos q]; rfl
          · rw [if_neg q, if_neg q]; rfl
        have := ev_tk163 hN hc hb (s := s) (nI s) so0 0 (N - s) s fu_ (by omega) (fu_lt (by omega)) (Nat.le_refl _) (fun j a b => by omega)
        rw [Nat.sub_self] at this
        have this : L_X11_token_163 (nI N) tx fu_ (nI s) (nI s) so0 0 0 0 = _ := this
        rw [if_pos (decide_eq_true (by omega)), this, eR, eE]
        exact ⟨_, rfl, fun _ => by unfold tV; rw [eE]⟩
      · have q3 : ¬ (48 ≤ c s ∧ c s ≤ 57) := fun hh => h3 (decide_eq_true hh)
        have e59 : (iI (sN c N s) = (59 : Int32)) = (c s = 59) := by
          rw [e, show (59 : Int32) = iI 59 from rfl, iI_eq (by omega) (by omega)]
          apply propext
          omega
        have eE : tE c N s = s + 1 := by
          unfold tE
          rw [if_neg (by omega), if_neg h2, if_neg h3]
        have eK : tK c N s = if c s = 59 then 3 else 4 := by
          unfold tK
          rw [if_neg (by omega), if_neg h2, if_neg h3]
        rw [if_neg (by rw [decide_eq_false (by omega)]; decide), if_e e59, eE, eK]
        unfold J_X11_token_263
        rw [nI_s]
        by_cases h4 : c s = 59
        · rw [if_pos h4, if_pos h4]
          exact ⟨_, rfl, fun h => by omega⟩
        · rw [if_neg h4, if_neg h4]
          exact ⟨_, rfl, fun h => by omega⟩
  · have e : sN c N s = -1 := by unfold sN; rw [if_neg h1]
    have eE : tE c N s = s := by
      unfold tE
      rw [if_pos (by omega)]
    have eK : tK c N s = 0 := by
      unfold tK
      rw [if_pos (by omega)]
    have eW : tW c N s = 0 := by
      unfold tW
      rw [if_pos (by omega)]
    rw [if_neg (by omega), eE, eK, eW]
    exact ⟨_, rfl, fun h => by omega⟩
theorem ev_token (hN : N ≤ 400) (hc : ∀ i, i < N → c i < 256) (hb : ∀ i, i < N → tx i &&& (255 : Int32) = nI (c i)) (b0 so0 v0 : Int32) (w0 : Int64) {p : Nat} (hp : p ≤ N) :
    ∃ v, F_X11_token (nI p) (nI N) b0 so0 v0 w0 tx = some (nI (tE c N (tS c N p)), nI (tS c N p), nI (rS (tK c N (tS c N p))), v, tW c N (tS c N p)) ∧ (tK c N (tS c N p) = 2 → v = nI (tV c N (tS c N p))) := by
  have main : ∀ d i n, i + d = N → d < n → L_X11_token_0 (nI N) tx n (nI i) b0 so0 v0 w0 = J_X11_token_31 (nI N) tx (nI (fw_P (iBl c) d i)) b0 so0 v0 w0 := by
    intro d
    induction d with
    | zero =>
      intro i n a1 a2
      obtain ⟨n, rfl⟩ : ∃ k, n = k + 1 := ⟨n - 1, by omega⟩
      have e : sN c N i = -1 := by unfold sN; rw [if_neg (by omega)]
      rw [L_X11_token_0, ev_see hN hb (by omega), bs_, e, if_neg (show ¬ iI (-1) = (10 : Int32) by decide), bs_, if_neg (show ¬ iI (-1) = (32 : Int32) by decide)]
      rfl
    | succ d ih =>
      intro i n a1 a2
      obtain ⟨n, rfl⟩ : ∃ k, n = k + 1 := ⟨n - 1, by omega⟩
      have e : sN c N i = (c i : Int) := by unfold sN; rw [if_pos (by omega)]
      have hci := hc i (by omega)
      have e1 : (iI (c i : Int) = (10 : Int32)) = (c i = 10) := by
        rw [show (10 : Int32) = iI 10 from rfl, iI_eq (by omega) (by omega)]
        apply propext
        omega
      have e2 : (iI (c i : Int) = (32 : Int32)) = (c i = 32) := by
        rw [show (32 : Int32) = iI 32 from rfl, iI_eq (by omega) (by omega)]
        apply propext
        omega
      rw [L_X11_token_0, ev_see hN hb (by omega), bs_, e, bs_, if_e e1, if_e e2]
      unfold J_X11_token_18
      rw [nI_s, ih (i + 1) n (by omega) (by omega)]
      by_cases h1 : c i = 10
      · rw [if_pos h1, fw_y (show iBl c i = true from decide_eq_true (Or.inl h1))]
      · rw [if_neg h1]
        by_cases h2 : c i = 32
        · rw [if_pos h2, fw_y (show iBl c i = true from decide_eq_true (Or.inr h2))]
        · rw [if_neg h2, fw_n (show ¬ iBl c i = true by unfold iBl; rw [decide_eq_false (by omega)]; decide)]
  have := main (N - p) p fu_ (by omega) (fu_lt (by omega))
  unfold F_X11_token
  rw [this]
  exact ev_tk31 hN hc hb b0 so0 v0 w0 (tS_b hp).2
end TOK
/-! ===== END ===== -/
