/-! ===== BEGIN sets that are fit; speeds as bits ===== -/
def sS (ch : Nat → Nat) : Nat → Nat
  | 0 => 0
  | n + 1 => sS ch n + ch n
def lcN (ch : Nat → Nat) : Nat → Nat
  | 0 => 1
  | n + 1 => lc_ (lcN ch n) (ch n)
def oC (m : Nat → Int) (ch : Nat → Nat) (p : Nat) (v : Int) : Nat := ct_ (fun j => !bl_ m v (ch j : Int)) 0 p
def ndk (m : Nat → Int) (k : Nat) : Nat := if k < (m 10).toNat then k else (m 10).toNat
def fitB (m : Nat → Int) (k : Nat) (ch : Nat → Nat) : Bool := decide (m 9 ≤ (lcN ch k : Int)) && decide (∀ v, v < nS m → ndk m k ≤ oC m ch k ((v : Int) + 1))
abbrev Ac := Nat × Option Nat × (Nat → Nat)
def vB (s : Nat) (b : Nat → Nat) (x : Option Nat × (Nat → Nat)) : Option Nat × (Nat → Nat) := match x.1 with
  | none => (some s, b)
  | some l => if s < l then (some s, b) else x
def vF (m : Nat → Int) (k : Nat) (ch : Nat → Nat) (a : Ac) : Ac := if fitB m k ch = true then (a.1 + 1, vB (sS ch k) (fun j => if j < k then ch j else 0) a.2) else a
theorem sS_c {ch ch2 : Nat → Nat} : ∀ {n : Nat}, (∀ j, j < n → ch j = ch2 j) → sS ch n = sS ch2 n
  | 0, _ => rfl
  | n + 1, h => by
    show sS ch n + ch n = sS ch2 n + ch2 n
    rw [sS_c (n := n) (fun j hj => h j (by omega)), h n (by omega)]
theorem lcN_c {ch ch2 : Nat → Nat} : ∀ {n : Nat}, (∀ j, j < n → ch j = ch2 j) → lcN ch n = lcN ch2 n
  | 0, _ => rfl
  | n + 1, h => by
    show lc_ (lcN ch n) (ch n) = lc_ (lcN ch2 n) (ch2 n)
    rw [lcN_c (n := n) (fun j hj => h j (by omega)), h n (by omega)]
theorem oC_c {m : Nat → Int} {ch ch2 : Nat → Nat} {p : Nat} {v : Int} (h : ∀ j, j < p → ch j = ch2 j) : oC m ch p v = oC m ch2 p v := ct_cong (fun j _ hj => by rw [h j (by omega)])
theorem oC_s (m : Nat → Int) (ch : Nat → Nat) (p : Nat) (v : Int) : oC m ch (p + 1) v = oC m ch p v + (if bl_ m v (ch p : Int) = true then 0 else 1) := by
  unfold oC
  rw [ct_sn, Nat.zero_add]
  cases bl_ m v (ch p : Int) <;> rfl
theorem vF_c (m : Nat → Int) (k : Nat) : ∀ ch ch2 : Nat → Nat, (∀ j, j < k → ch j = ch2 j) → ∀ a, vF m k ch a = vF m k ch2 a := by
  intro ch ch2 h a
  have e1 : fitB m k ch = fitB m k ch2 := by
    unfold fitB
    rw [lcN_c h]
    congr 1
    apply decide_eq_decide.mpr
    exact ⟨fun q v hv => by rw [← oC_c h]; exact q v hv, fun q v hv => by rw [oC_c h]; exact q v hv⟩
  have e2 : (fun j => if j < k then ch j else 0) = fun j => if j < k then ch2 j else 0 := by
    funext j
    by_cases c : j < k
    · rw [if_pos c, if_pos c, h j c]
    · rw [if_neg c, if_neg c]
  unfold vF
  rw [e1, sS_c h, e2]
theorem lcN_b {ch : Nat → Nat} : ∀ {n : Nat}, (∀ j, j < n → 0 < ch j ∧ ch j ≤ 60) → 0 < lcN ch n ∧ lcN ch n ≤ 60 ^ n
  | 0, _ => by
    show 0 < 1 ∧ 1 ≤ 60 ^ 0
    decide
  | n + 1, h => by
    have ih := lcN_b (n := n) (fun j hj => h j (by omega))
    have hn := h n (by omega)
    have b := lc_b ih.1 hn.1
    have : lcN ch n * ch n ≤ 60 ^ n * 60 := Nat.mul_le_mul ih.2 hn.2
    show 0 < lc_ (lcN ch n) (ch n) ∧ lc_ (lcN ch n) (ch n) ≤ 60 ^ (n + 1)
    rw [Nat.pow_succ]
    omega
theorem sS_b {ch : Nat → Nat} : ∀ {n : Nat}, (∀ j, j < n → ch j ≤ 60) → sS ch n ≤ 60 * n
  | 0, _ => Nat.le_refl _
  | n + 1, h => by
    have ih := sS_b (n := n) (fun j hj => h j (by omega))
    have hn := h n (by omega)
    show sS ch n + ch n ≤ 60 * (n + 1)
    omega
/-- 64 truths in a long -/
def bW (P : Nat → Bool) : Int64 := Int64.ofNat (bt_ P 64)
theorem bW_g (P : Nat → Bool) (i : Nat) : (bW P).toBitVec.getLsbD i = (decide (i < 64) && P i) := by
  show (BitVec.ofNat 64 (bt_ P 64)).getLsbD i = _
  rw [BitVec.getLsbD_ofNat, bt_bit, ← Bool.and_assoc, Bool.and_self]
theorem bW_x {x : Int64} {P : Nat → Bool} (h : ∀ i, i < 64 → x.toBitVec.getLsbD i = P i) : x = bW P := by
  apply Int64.toBitVec.inj
  apply BitVec.eq_of_getLsbD_eq
  intro i hi
  rw [h i hi, bW_g, decide_eq_true hi, Bool.true_and]
theorem bW_c {P Q : Nat → Bool} (h : ∀ i, i < 64 → P i = Q i) : bW P = bW Q := bW_x (fun i hi => by rw [bW_g, decide_eq_true hi, Bool.true_and, h i hi])
theorem bW_or (P Q : Nat → Bool) : bW P ||| bW Q = bW (fun b => P b || Q b) := by
  apply bW_x
  intro i hi
  show ((bW P).toBitVec ||| (bW Q).toBitVec).getLsbD i = _
  rw [BitVec.getLsbD_or, bW_g, bW_g, decide_eq_true hi, Bool.true_and, Bool.true_and]
theorem bW_and (P Q : Nat → Bool) : bW P &&& bW Q = bW (fun b => P b && Q b) := by
  apply bW_x
  intro i hi
  show ((bW P).toBitVec &&& (bW Q).toBitVec).getLsbD i = _
  rw [BitVec.getLsbD_and, bW_g, bW_g, decide_eq_true hi, Bool.true_and, Bool.true_and]
theorem bW_e (P Q : Nat → Bool) : (bW P = bW Q) = (∀ b, b < 64 → P b = Q b) := by
  apply propext
  constructor
  · intro h b hb
    have h1 := bW_g P b
    rw [h, bW_g, decide_eq_true hb, Bool.true_and, Bool.true_and] at h1
    exact h1.symm
  · exact bW_c
theorem bW_0 : (0 : Int64) = bW (fun _ => false) := by decide +kernel
theorem sh_v : ∀ v, v < 200 → (1 : Int64) <<< (((nI v &&& (63 : Int32))).toInt64 &&& 63) = bW (fun j => decide (j = v % 64)) := by decide +kernel
theorem sr_v : ∀ v, v < 200 → nI v >>> ((6 : Int32) &&& 31) = nI (v / 64) := by decide +kernel
theorem updL_at {f : Nat → Int64} {k i : Nat} {x : Int64} : vp_updL f k x i = if i = k then x else f i := rfl
theorem ev_fillL {N : Nat} (hN : N < 1000000) (f : Nat → Int64) (x : Int64) : F_J7_fill_d0a16 f N x = some (fun i => if i < N then x else f i) := by
  have main : ∀ d k n (r : Nat → Int64), k + d = N → d < n → (∀ i, r i = if i < k then x else f i) → L_J7_fill_d0a16_6 N n r x (nI k) (nI N) = some (fun i => if i < N then x else f i) := by
    intro d
    induction d with
    | zero =>
      intro k n r a1 a2 a3
      obtain ⟨n, rfl⟩ : ∃ k, n = k + 1 := ⟨n - 1, by omega⟩
      have : k = N := by omega
      subst this
      rw [L_J7_fill_d0a16_6, if_pos (yle_ (by omega) (by omega) (Nat.le_refl _))]
      congr 1
      funext i
      exact a3 i
    | succ d ih =>
      intro k n r a1 a2 a3
      obtain ⟨n, rfl⟩ : ∃ k, n = k + 1 := ⟨n - 1, by omega⟩
      rw [L_J7_fill_d0a16_6, if_neg (nle_ (by omega) (by omega) (by omega)), gN_ (by omega) (by omega), nI_clamp (by omega), nI_s]
      refine ih (k + 1) n _ (by omega) (by omega) (fun i => ?_)
      rw [updL_at]
      by_cases c : i = k
      · rw [if_pos c, if_pos (by omega)]
      · rw [if_neg c, a3]
        by_cases c2 : i < k
        · rw [if_pos c2, if_pos (by omega)]
        · rw [if_neg c2, if_neg (by omega)]
  exact main N 0 fu_ f (by omega) (fu_lt hN) (fun i => by rw [if_neg (by omega)])
/-- the speeds below S, as bits of a part -/
def aP (S part : Nat) (b : Nat) : Bool := decide (64 * part + b < S)
def oP (m : Nat → Int) (S g part : Nat) (b : Nat) : Bool := decide (64 * part + b < S) && !bl_ m ((64 * part + b : Nat) + 1 : Int) (g : Int)
section OPN
variable {m : Nat → Int} {st : Nat → Int32} {low W : Nat}
theorem ev_op48 (hw : WS m) (hS : cS m st) (hl : 4 ≤ low) (hW : W ≤ 21) (hh : low + W ≤ 61) {v : Nat} (hv : v < 200) (K : (Nat → Int64) → (Nat → Int64) → Int32 → Option ((Nat → Int64) × (Nat → Int64))) (al : Nat → Int64) :
    ∀ d j n (op : Nat → Int64), j + d = W → d < n → (∀ i, i < W → ∀ part, part < 4 → op (4 * i + part) = bW (oP m (if i < j then v + 1 else v) (low + i) part)) →
      ∃ op2, L_X1_openAll_48 (nI low) (nI W) st K n op al (nI v) (nI j) = K op2 al (nI (v + 1)) ∧ ∀ i, i < W → ∀ part, part < 4 → op2 (4 * i + part) = bW (oP m (v + 1) (low + i) part) := by
  intro d
  induction d with
  | zero =>
    intro j n op a1 a2 a3
    obtain ⟨n, rfl⟩ : ∃ k, n = k + 1 := ⟨n - 1, by omega⟩
    rw [L_X1_openAll_48, if_pos (yle_ (by omega) (by omega) (by omega)), nI_s]
    exact ⟨op, rfl, fun i hi part hp => by rw [a3 i hi part hp, if_pos (by omega)]⟩
  | succ d ih =>
    intro j n op a1 a2 a3
    obtain ⟨n, rfl⟩ : ∃ k, n = k + 1 := ⟨n - 1, by omega⟩
    have eh : F_X5_hides st (nI v + (1 : Int32)) (nI low + nI j) = some (bI (bl_ m ((v : Int) + 1) ((low + j : Nat) : Int))) := by
      rw [nI_s, nI_add, iI_nI, iI_nI, ev_hides hw hS (by omega) (by omega), Int.natCast_add v 1]
      rfl
    rw [L_X1_openAll_48, if_neg (nle_ (by omega) (by omega) (by omega)), eh, bs_, ib_, sr_v v hv, sh_v v hv, show (4 : Int32) = nI 4 from rfl, pk_mul, nI_add, gN_ (by omega) (by decide), gN_ (by omega) (by decide), nI_clamp (by omega), nI_s]
    by_cases q : bl_ m ((v : Int) + 1) ((low + j : Nat) : Int) = true
    · rw [if_pos q]
      refine ih (j + 1) n op (by omega) (by omega) (fun i hi part hp => ?_)
      rw [a3 i hi part hp]
      by_cases c : i = j
      · rw [if_neg (by omega), if_pos (by omega)]
        apply bW_c
        intro b hb
        unfold oP
        by_cases c2 : 64 * part + b = v
        · rw [c2, c, q]
          simp
        · have : decide (64 * part + b < v) = decide (64 * part + b < v + 1) := decide_eq_decide.mpr (by omega)
          rw [this]
      · have : (if i < j then v + 1 else v) = if i < j + 1 then v + 1 else v := by
          by_cases c2 : i < j
          · rw [if_pos c2, if_pos (by omega)]
          · rw [if_neg c2, if_neg (by omega)]
        rw [this]
    · rw [if_neg q]
      refine ih (j + 1) n _ (by omega) (by omega) (fun i hi part hp => ?_)
      rw [updL_at]
      by_cases c : 4 * i + part = j * 4 + v / 64
      · have ci : i = j := by omega
        have cp : part = v / 64 := by omega
        have h0 := a3 j (by omega) (v / 64) (by omega)
        rw [if_neg (by omega)] at h0
        rw [if_pos c, show j * 4 + v / 64 = 4 * j + v / 64 by omega, h0, bW_or, if_pos (by omega), ci, cp]
        apply bW_c
        intro b hb
        unfold oP
        by_cases c2 : b = v % 64
        · have e : 64 * (v / 64) + b = v := by omega
          have hq : bl_ m ((v : Int) + 1) ((low + j : Nat) : Int) = false := by simpa using q
          rw [e, decide_eq_true c2, decide_eq_true (show v < v + 1 by omega), hq]
          simp
        · rw [decide_eq_false c2, Bool.or_false]
          have : decide (64 * (v / 64) + b < v) = decide (64 * (v / 64) + b < v + 1) := decide_eq_decide.mpr (by omega)
          rw [this]
      · rw [if_neg c, a3 i hi part hp]
        by_cases c2 : i = j
        · rw [if_neg (by omega), if_pos (by omega)]
          apply bW_c
          intro b hb
          unfold oP
          have : decide (64 * part + b < v) = decide (64 * part + b < v + 1) := decide_eq_decide.mpr (by omega)
          rw [this]
        · have : (if i < j then v + 1 else v) = if i < j + 1 then v + 1 else v := by
            by_cases c3 : i < j
            · rw [if_pos c3, if_pos (by omega)]
            · rw [if_neg c3, if_neg (by omega)]
          rw [this]
theorem ev_openAll (hw : WS m) (hS : cS m st) (hl : 4 ≤ low) (hW : W ≤ 21) (hh : low + W ≤ 61) (f1 f2 : Nat → Int64) :
    ∃ op al, F_X1_openAll (nI low) (nI W) f1 f2 st = some (op, al) ∧ (∀ i, i < W → ∀ part, part < 4 → op (4 * i + part) = bW (oP m (nS m) (low + i) part)) ∧ ∀ part, part < 4 → al part = bW (aP (nS m) part) := by
  have hs := hw.2.2.2.2.2.1
  have hst : st 5 = nI (nS m) := by
    rw [show st 5 = iI (m 11) from hS 5 (by decide)]
    exact iN (by omega)
  have hSb : nS m ≤ 200 := by unfold nS; omega
  have main : ∀ d v n (op al : Nat → Int64), v + d = nS m → d < n → (∀ i, i < W → ∀ part, part < 4 → op (4 * i + part) = bW (oP m v (low + i) part)) → (∀ part, part < 4 → al part = bW (aP v part)) →
      ∃ op2 al2, L_X1_openAll_18 (nI low) (nI W) st n op al (nI v) = some (op2, al2) ∧ (∀ i, i < W → ∀ part, part < 4 → op2 (4 * i + part) = bW (oP m (nS m) (low + i) part)) ∧ ∀ part, part < 4 → al2 part = bW (aP (nS m) part) := by
    intro d
    induction d with
    | zero =>
      intro v n op al a1 a2 a3 a4
      obtain ⟨n, rfl⟩ : ∃ k, n = k + 1 := ⟨n - 1, by omega⟩
      have : v = nS m := by omega
      subst this
      rw [L_X1_openAll_18, hst, if_pos (yle_ (by omega) (by omega) (Nat.le_refl _))]
      exact ⟨op, al, rfl, a3, a4⟩
    | succ d ih =>
      intro v n op al a1 a2 a3 a4
      obtain ⟨n, rfl⟩ : ∃ k, n = k + 1 := ⟨n - 1, by omega⟩
      rw [L_X1_openAll_18, hst, if_neg (nle_ (by omega) (by omega) (by omega)), sr_v v (by omega), sh_v v (by omega), gN_ (by omega) (by decide), gN_ (by omega) (by decide), nI_clamp (by omega)]
      obtain ⟨op2, e, q⟩ := ev_op48 hw hS hl hW hh (v := v) (by omega) (L_X1_openAll_18 (nI low) (nI W) st n) (vp_updL al (v / 64) (al (v / 64) ||| bW (fun j => decide (j = v % 64)))) W 0 fu_ op (by omega) (fu_lt (by omega)) (fun i hi part hp => by rw [a3 i hi part hp, if_neg (by omega)])
      have e : L_X1_openAll_48 (nI low) (nI W) st (L_X1_openAll_18 (nI low) (nI W) st n) fu_ op (vp_updL al (v / 64) (al (v / 64) ||| bW (fun j => decide (j = v % 64)))) (nI v) (0 : Int32) = _ := e
      rw [e]
      refine ih (v + 1) n op2 _ (by omega) (by omega) q (fun part hp => ?_)
      rw [updL_at]
      by_cases c : part = v / 64
      · rw [if_pos c, a4 _ (by omega), bW_or, c]
        apply bW_c
        intro b hb
        unfold aP
        by_cases c2 : b = v % 64
        · rw [decide_eq_true c2, decide_eq_true (show 64 * (v / 64) + b < v + 1 by omega), Bool.or_true]
        · rw [decide_eq_false c2, Bool.or_false]
          exact decide_eq_decide.mpr (by omega)
      · rw [if_neg c, a4 part hp]
        apply bW_c
        intro b hb
        unfold aP
        exact decide_eq_decide.mpr (by omega)
  unfold F_X1_openAll
  rw [ev_fillL (by decide), bs_, ev_fillL (by decide), bs_]
  refine main (nS m) 0 fu_ _ _ (by omega) (fu_lt (by omega)) (fun i hi part hp => ?_) (fun part hp => ?_)
  · rw [if_pos (by omega), bW_0]
    apply bW_c
    intro b hb
    unfold oP
    rw [decide_eq_false (by omega), Bool.false_and]
  · rw [if_pos (by omega), bW_0]
    apply bW_c
    intro b hb
    unfold aP
    rw [decide_eq_false (by omega)]
end OPN
/-! ===== END ===== -/
