/-! ===== BEGIN the next order, by the reference; order ===== -/
def rN (n : Nat) (o : Nat → Nat) (r : Nat → Int32) : Prop := ∀ k, k < n → r k = nI (o k)
theorem rN_s {n : Nat} {o : Nat → Nat} {r : Nat → Int32} (h : rN n o r) {a b : Nat} (ha : a < n) (hb : b < n) : rN n (sw_ o a b) (upd (upd r a (r b)) b (r a)) := by
  intro k hk
  rw [upd_at, upd_at]
  unfold sw_
  by_cases c : k = b
  · rw [if_pos c, if_pos c, h a ha]
  · rw [if_neg c, if_neg c]
    by_cases d : k = a
    · rw [if_pos d, if_pos d, h b hb]
    · rw [if_neg d, if_neg d, h k hk]
theorem ev_nextOrder {n : Nat} {all : Nat → Int32} (h0 : all 0 = nI n) (hn : 0 < n ∧ n ≤ 5) {o : Nat → Nat} (ho : ∀ k, k < n → o k < n) {r : Nat → Int32} (hr : rN n o r) :
    ∃ r2, F_X11_nextOrder all r = some (match np_ n o with | none => ((0 : Int32), r2) | some _ => (1, r2)) ∧ ∀ o2, np_ n o = some o2 → rN n o2 r2 := by
  have rev : ∀ i, i < n → ∀ d a f (o : Nat → Nat) (r : Nat → Int32), n - a + i < a + 2 * d + 1 → d < f → i < a → a ≤ n → rN n o r → ∃ r2, L_X11_nextOrder_103 all f r (nI i) (nI a) = some (1, r2) ∧ rN n (rv_ n i d a o) r2 := by
    intro i hi d
    induction d with
    | zero =>
      intro a f o r h1 h2 h3 h4 hr
      obtain ⟨f, rfl⟩ : ∃ k, f = k + 1 := ⟨f - 1, by omega⟩
      refine ⟨r, ?_, hr⟩
      have eb : nI n - nI a + nI i = nI (n - a + i) := by rw [iI_nI n, iI_nI a, iI_nI i, iI_sub, iI_add, iI_nI]; congr 1; omega
      rw [L_X11_nextOrder_103, h0, eb, if_pos (yle_ (by omega) (by omega) (by omega))]
    | succ d ih =>
      intro a f o r h1 h2 h3 h4 hr
      obtain ⟨f, rfl⟩ : ∃ k, f = k + 1 := ⟨f - 1, by omega⟩
      have eb : nI n - nI a + nI i = nI (n - a + i) := by rw [iI_nI n, iI_nI a, iI_nI i, iI_sub, iI_add, iI_nI]; congr 1; omega
      unfold rv_
      by_cases c : n - a + i ≤ a
      · rw [if_pos c]
        refine ⟨r, ?_, hr⟩
        rw [L_X11_nextOrder_103, h0, eb, if_pos (yle_ (by omega) (by omega) c)]
      · rw [if_neg c, L_X11_nextOrder_103, h0, eb, if_neg (nle_ (by omega) (by omega) (by omega)), gN_ (by omega) (by decide), gN_ (by omega) (by decide), gN_ (by omega) (by decide), gN_ (by omega) (by decide), nI_clamp (by omega), nI_clamp (by omega), nI_s]
        exact ih (a + 1) f _ _ (by omega) (by omega) (by omega) (by omega) (rN_s hr (by omega) (by omega))
  have fin : ∀ i, i + 1 < n → o i ≤ o (i + 1) → ∀ k f, i < k → k < n → k < f → ∃ r2, L_X11_nextOrder_51 all f r (nI i) (nI k) = some (1, r2) ∧ rN n (rv_ n i 5 (i + 1) (sw_ o i (pj_ o i k))) r2 := by
    intro i hi hio k
    induction k with
    | zero => intro f h1; omega
    | succ k ih =>
      intro f h1 h2 h3
      obtain ⟨f, rfl⟩ : ∃ k, f = k + 1 := ⟨f - 1, by omega⟩
      have a1 := ho i (by omega)
      have a2 := ho (k + 1) (by omega)
      rw [L_X11_nextOrder_51, gN_ (by omega) (by decide), gN_ (by omega) (by decide), nI_clamp (by omega), nI_clamp (by omega), hr i (by omega), hr (k + 1) (by omega), if_e (nI_le2 (by omega) (by omega)), m1_]
      by_cases q : o i ≤ o (k + 1)
      · rw [if_pos q]
        have e : pj_ o i (k + 1) = k + 1 := by unfold pj_; rw [if_pos q]
        unfold J_X11_nextOrder_72
        rw [gN_ (by omega) (by decide), gN_ (by omega) (by decide), gN_ (by omega) (by decide), gN_ (by omega) (by decide), nI_clamp (by omega), nI_clamp (by omega), nI_s, e]
        exact rev i (by omega) 5 (i + 1) fu_ _ _ (by omega) (fu_lt (by omega)) (by omega) (by omega) (rN_s hr (by omega) (by omega))
      · rw [if_neg q]
        have hk : i < k := by
          rcases Nat.eq_or_lt_of_le (show i ≤ k by omega) with p | p
          · rw [← p] at q; exact absurd hio q
          · exact p
        obtain ⟨r2, e1, e2⟩ := ih f hk (by omega) (by omega)
        refine ⟨r2, e1, ?_⟩
        conv in pj_ o i (k + 1) => unfold pj_
        rw [if_neg q]
        exact e2
  have main : ∀ k f, k < n → k < f → ∃ r2, L_X11_nextOrder_9 all f r (iI ((k : Int) - 1)) = some (match pi_ o k with | none => ((0 : Int32), r2) | some _ => (1, r2)) ∧ ∀ i, pi_ o k = some i → rN n (rv_ n i 5 (i + 1) (sw_ o i (pj_ o i (n - 1)))) r2 := by
    intro k
    induction k with
    | zero =>
      intro f h1 h2
      obtain ⟨f, rfl⟩ : ∃ k, f = k + 1 := ⟨f - 1, by omega⟩
      refine ⟨r, ?_, fun i h => by unfold pi_ at h; cases h⟩
      rw [L_X11_nextOrder_9, if_pos (by decide)]
      unfold J_X11_nextOrder_36
      rw [if_neg (by decide)]
      rfl
    | succ k ih =>
      intro f h1 h2
      obtain ⟨f, rfl⟩ : ∃ k, f = k + 1 := ⟨f - 1, by omega⟩
      have a1 := ho k (by omega)
      have a2 := ho (k + 1) (by omega)
      rw [L_X11_nextOrder_9, show iI (((k + 1 : Nat) : Int) - 1) = nI k by rw [iI_nI]; congr 1; omega, if_neg (nI_pos (by omega)), gN_ (by omega) (by decide), nI_s, gN_ (by omega) (by decide), nI_clamp (by omega), nI_clamp (by omega), hr k (by omega), hr (k + 1) (by omega), if_e (nI_le2 (by omega) (by omega))]
      by_cases q : o k ≤ o (k + 1)
      · rw [if_pos q]
        unfold J_X11_nextOrder_36
        rw [if_pos (show (0 : Int32) ≤ nI k from yle_ (a := 0) (by decide) (by omega) (by omega)), h0, s1_ (by omega)]
        obtain ⟨r2, e1, e2⟩ := fin k (by omega) q (n - 1) fu_ (by omega) (by omega) (fu_lt (by omega))
        have ep : pi_ o (k + 1) = some k := by unfold pi_; rw [if_pos q]
        refine ⟨r2, by rw [e1, ep], fun i hi => ?_⟩
        rw [ep] at hi
        cases hi
        exact e2
      · rw [if_neg q]
        have ep : pi_ o (k + 1) = pi_ o k := by
          conv => lhs; unfold pi_
          rw [if_neg q]
        obtain ⟨r2, e1, e2⟩ := ih f (by omega) (by omega)
        rw [show nI k + (-1 : Int32) = iI ((k : Int) - 1) by rw [iI_nI, show (-1 : Int32) = iI (-1) from rfl, iI_add]; rfl, ep]
        exact ⟨r2, e1, e2⟩
  obtain ⟨r2, e1, e2⟩ := main (n - 1) fu_ (by omega) (fu_lt (by omega))
  refine ⟨r2, ?_, ?_⟩
  · unfold F_X11_nextOrder
    rw [h0, show nI n - (2 : Int32) = iI (((n - 1 : Nat) : Int) - 1) by rw [iI_nI, show (2 : Int32) = iI 2 from rfl, iI_sub]; congr 1; omega, e1]
    unfold np_
    cases pi_ o (n - 1) <;> rfl
  · intro o2 h
    unfold np_ at h
    cases hp : pi_ o (n - 1) with
    | none => rw [hp] at h; cases h
    | some i =>
      rw [hp] at h
      cases h
      exact e2 i hp
/-- how many echoes are hidden by an order; the best so far; the best of all from one on -/
def oH_ (m : Nat → Int) (N : Nat) (o : Nat → Nat) : Nat := sm_ (hN_ m (sT (nG m) (fun k => m (1 + o k)) 0 0) N) (nT m)
abbrev Ob := Option Nat × (Nat → Nat)
def ot_ (m : Nat → Int) (N : Nat) (o : Nat → Nat) (s : Ob) : Ob := match s.1 with
  | none => (some (oH_ m N o), o)
  | some h => if oH_ m N o < h then (some (oH_ m N o), o) else s
def ob_ (m : Nat → Int) (N : Nat) : Nat → (Nat → Nat) → Ob → Ob
  | 0, _, s => s
  | f + 1, o, s => match np_ (nG m) o with
    | none => ot_ m N o s
    | some o2 => ob_ m N f o2 (ot_ m N o s)
theorem ob_0 {m : Nat → Int} {N : Nat} : ∀ (f : Nat) (o b : Nat → Nat), ob_ m N f o (some 0, b) = (some 0, b)
  | 0, _, _ => rfl
  | f + 1, o, b => by
    have e : ot_ m N o (some 0, b) = (some 0, b) := by
      show (if oH_ m N o < 0 then (some (oH_ m N o), o) else (some 0, b)) = _
      rw [if_neg (by omega)]
    unfold ob_
    rw [e]
    cases np_ (nG m) o with
    | none => rfl
    | some o2 => exact ob_0 f o2 b
def oB (m : Nat → Int) (s : Ob) : Prop := (∀ h, s.1 = some h → h ≤ 512) ∧ ∀ k, k < nG m → s.2 k < nG m
theorem oH_b {m : Nat → Int} (ht : WT m) {N : Nat} (hN : N ≤ 64) (o : Nat → Nat) : oH_ m N o ≤ 512 := sb_N hN (nT_c ht).2 (fun t => hN_le m _ N t)
theorem ot_b {m : Nat → Int} (ht : WT m) {N : Nat} (hN : N ≤ 64) {o : Nat → Nat} (ho : ∀ k, k < nG m → o k < nG m) {s : Ob} (hs : oB m s) : oB m (ot_ m N o s) := by
  obtain ⟨a, b⟩ := s
  have h1 := oH_b ht hN o
  unfold ot_
  cases a with
  | none => exact ⟨fun h e => by cases e; exact h1, ho⟩
  | some h =>
    dsimp only
    by_cases c : oH_ m N o < h
    · rw [if_pos c]; exact ⟨fun h e => by cases e; exact h1, ho⟩
    · rw [if_neg c]; exact hs
theorem ob_b {m : Nat → Int} (ht : WT m) {N : Nat} (hN : N ≤ 64) : ∀ (f : Nat) (o : Nat → Nat) (s : Ob), (∀ k, k < nG m → o k < nG m) → oB m s → oB m (ob_ m N f o s)
  | 0, _, s, _, hs => hs
  | f + 1, o, s, ho, hs => by
    unfold ob_
    cases h : np_ (nG m) o with
    | none => exact ot_b ht hN ho hs
    | some o2 => exact ob_b ht hN f o2 _ (np_b ho h) (ot_b ht hN ho hs)
theorem ot_s {m : Nat → Int} {N : Nat} (o : Nat → Nat) (s : Ob) : ∃ h, (ot_ m N o s).1 = some h := by
  obtain ⟨a, b⟩ := s
  unfold ot_
  cases a with
  | none => exact ⟨_, rfl⟩
  | some h =>
    dsimp only
    split
    · exact ⟨_, rfl⟩
    · exact ⟨_, rfl⟩
theorem ob_s {m : Nat → Int} {N : Nat} : ∀ (f : Nat) (o : Nat → Nat) (s : Ob), (∃ h, s.1 = some h) → ∃ h, (ob_ m N f o s).1 = some h
  | 0, _, _, h => h
  | f + 1, o, s, h => by
    unfold ob_
    cases np_ (nG m) o with
    | none => exact ot_s o s
    | some o2 => exact ob_s f o2 _ (ot_s o s)
/-- order(n, what) -/
def oA_ (m : Nat → Int) (N : Nat) : Ob := ob_ m N 120 (fun k => k) (none, fun _ => 0)
def qo_ (m : Nat → Int) (n w : Int) : Int32 :=
  if (1 ≤ n ∧ n ≤ 64) ∧ 0 < nG m ∧ (w = 0 ∨ 10 ≤ w ∧ w ≤ 10 + m 0 - 1) then (if w = 0 then nI ((oA_ m n.toNat).1.getD 0) else iI (m (1 + (oA_ m n.toNat).2 (w - 10).toNat))) else -1
theorem oA_c {m : Nat → Int} (ht : WT m) {N : Nat} (hN : N ≤ 64) : oB m (oA_ m N) ∨ nG m = 0 := by
  by_cases h : nG m = 0
  · exact Or.inr h
  · left
    exact ob_b ht hN 120 _ _ (fun k hk => hk) ⟨fun h e => (by cases e), fun k hk => (by show 0 < nG m; omega)⟩
theorem oA_s {m : Nat → Int} {N : Nat} : ∃ h, (oA_ m N).1 = some h := by
  unfold oA_ ob_
  cases np_ (nG m) (fun k => k) with
  | none => exact ot_s _ _
  | some o2 => exact ob_s _ _ _ (ot_s _ _)
/-! ===== END ===== -/
