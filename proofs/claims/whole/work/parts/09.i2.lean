/-! ===== BEGIN what the Statement gives at the law's entry ===== -/
def nw_F : List Cond := flatC (Jvm.Cond.and given_1 narrow_1)
theorem tb_ {w : Cond} {i : Nat} (h : tables_1[i]? = some w) : w ∈ lw_tbl := List.mem_append_right _ (List.mem_of_getElem? h)
theorem nm_in : ∀ q ∈ nm_l, Cond.methodLinkNest q.1 q.2.1 q.2.2.1 q.2.2.2 ∈ lw_tbl := by decide +kernel
section LST
variable {args : Array Value} {s : State} {A : Nat → Prop}
theorem sr_of {n : String} {t : List Int32} (hs : ∀ w ∈ nw_F, w.before args s = true) (hl : (Cond.laysStatic "StaggerRadar" n "[I").before args s = true) (hini : (Cond.initialized "StaggerRadar").before args s = true) (h1 : Cond.arrayOf (.static "StaggerRadar" n "[I") .int ∈ nw_F) (h2 : Cond.eq (.length (.static "StaggerRadar" n "[I")) (.int (Int32.ofNat 7)) ∈ nw_F) (h3 : ∀ j ∈ List.range 7, Cond.eq (.elem (.static "StaggerRadar" n "[I") (.int (Int32.ofNat j))) (.int (t.getD j 0)) ∈ nw_F) (hA : ∀ a : Nat, a < s.heap.size → ¬ A a) : sr_ n t A s s.heap := by
  obtain ⟨a, ha, hT⟩ := va_Tof (tm := .static "StaggerRadar" n "[I") (ty := .int) (N := 7) (f := tv_ t) (A := A) (by decide) (hs _ h1) (va_eqt (hs _ h2)) (fun j hj => va_eqt (hs _ (h3 j (List.mem_range.mpr hj)))) hA
  exact ⟨a, va_Zref hl hini ha hA, hT⟩
def tmS_ (i : Nat) : Term := .string "StaggerRadar$Reader" (st_tx.getD i (0, "")).1
theorem st_1 : ∀ i ∈ List.range 10, Cond.exactly (tmS_ i) "java/lang/String" ∈ nw_F := by decide +kernel
theorem st_2 : ∀ i ∈ List.range 10, Cond.eq (.field (tmS_ i) "java/lang/String" "coder" "B") (.int 0) ∈ nw_F := by decide +kernel
theorem st_3 : ∀ i ∈ List.range 10, Cond.arrayOf (.field (tmS_ i) "java/lang/String" "value" "[B") .byte ∈ nw_F := by decide +kernel
theorem st_4 : ∀ i ∈ List.range 10, Cond.eq (.length (.field (tmS_ i) "java/lang/String" "value" "[B")) (.int (Int32.ofNat (st_len.getD i 0))) ∈ nw_F := by decide +kernel
theorem st_5 : ∀ i ∈ List.range 10, ∀ j ∈ List.range (st_len.getD i 0), Cond.eq (.elem (.field (tmS_ i) "java/lang/String" "value" "[B") (.int (Int32.ofNat j))) (.int ((st_byt.getD i []).getD j 0)) ∈ nw_F := by decide +kernel
theorem st_6 : ∀ i ∈ List.range 10, ∀ j ∈ List.range 10, i = j ∨ Cond.not (Cond.eq (tmS_ i) (tmS_ j)) ∈ nw_F ∨ Cond.not (Cond.eq (tmS_ j) (tmS_ i)) ∈ nw_F := by decide +kernel
theorem st_7 : ∀ i ∈ List.range 10, Cond.stringRef "StaggerRadar$Reader" (st_tx.getD i (0, "")).1 (st_tx.getD i (0, "")).2 ∈ lw_tbl := by decide +kernel
theorem st_8 : ∀ i ∈ List.range 10, st_len.getD i 0 < 2 ^ 31 := by decide
theorem vk_Sc {N : Nat} {len : List Nat} {byt : List (List Int32)} {aK aV bK bV : Nat → Nat} {U : State} {H : Heap} (h : vk_S N len byt aK aV A U H) (h1 : ∀ i, i < N → bK i = aK i) (h2 : ∀ i, i < N → bV i = aV i) : vk_S N len byt bK bV A U H := by
  refine ⟨fun i hi => ?_, fun i j hi hj e => ?_⟩
  · rw [h1 i hi, h2 i hi]
    exact h.1 i hi
  · rw [h1 i hi, h1 j hj] at e
    exact h.2 i j hi hj e
theorem ap_ {ty : FieldType} (hp : ∀ C, ty ≠ .object C) (h : (Cond.arrayClass ty).before args s = true) : ∃ cA : ClassId, ArrOfT s cA ty ∧ va_RA s cA ty := by
  obtain ⟨cA, kA, comp, h1, h2, h3⟩ := Cond.arrayClass_spec h
  refine ⟨cA, fun n z => ⟨fun k h => (by cases h), kA, h2, comp, h3⟩, ?_⟩
  cases ty with
  | object C => exact absurd rfl (hp C)
  | _ => exact h1
theorem ao_ {C : String} (h : (Cond.arrayOver (.object C)).before args s = true) : ∃ cA : ClassId, ArrOfT s cA (.object C) ∧ va_RA s cA (.object C) := by
  obtain ⟨comp, cA, kA, h1, h2, h3, h4, h5⟩ := Cond.arrayOver_spec h
  exact ⟨cA, fun n z => ⟨fun k h => (by cases h), kA, h3, comp, h4⟩, kA, comp, h3, h4, h1, h5⟩
theorem uw_X0 : ∀ w ∈ u_ws RX0 TX0 1, w ∈ lw_tbl := fun w h => wi_wsX00 w ((by decide +kernel : ∀ w ∈ u_ws RX0 TX0 1, w ∈ wsX00) w h)
theorem uw_X1 : ∀ w ∈ u_ws RX1 TX1 13, w ∈ lw_tbl := fun w h => wi_wsX10 w ((by decide +kernel : ∀ w ∈ u_ws RX1 TX1 13, w ∈ wsX10) w h)
theorem uw_X2 : ∀ w ∈ u_ws RX2 TX2 6, w ∈ lw_tbl := fun w h => wi_wsX20 w ((by decide +kernel : ∀ w ∈ u_ws RX2 TX2 6, w ∈ wsX20) w h)
theorem uw_X3 : ∀ w ∈ u_ws RX3 TX3 6, w ∈ lw_tbl := fun w h => wi_wsX30 w ((by decide +kernel : ∀ w ∈ u_ws RX3 TX3 6, w ∈ wsX30) w h)
theorem uw_X4 : ∀ w ∈ u_ws RX4 TX4 3, w ∈ lw_tbl := fun w h => wi_wsX40 w ((by decide +kernel : ∀ w ∈ u_ws RX4 TX4 3, w ∈ wsX40) w h)
theorem uw_X5 : ∀ w ∈ u_ws RX5 TX5 13, w ∈ lw_tbl := fun w h => wi_wsX50 w ((by decide +kernel : ∀ w ∈ u_ws RX5 TX5 13, w ∈ wsX50) w h)
theorem uw_X6 : ∀ w ∈ u_ws RX6 TX6 7, w ∈ lw_tbl := fun w h => wi_wsX60 w ((by decide +kernel : ∀ w ∈ u_ws RX6 TX6 7, w ∈ wsX60) w h)
theorem uw_X8 : ∀ w ∈ u_ws RX8 TX8 4, w ∈ lw_tbl := fun w h => wi_wsX80 w ((by decide +kernel : ∀ w ∈ u_ws RX8 TX8 4, w ∈ wsX80) w h)
theorem uw_X9 : ∀ w ∈ u_ws RX9 TX9 3, w ∈ lw_tbl := fun w h => wi_wsX90 w ((by decide +kernel : ∀ w ∈ u_ws RX9 TX9 3, w ∈ wsX90) w h)
theorem uw_X10 : ∀ w ∈ u_ws RX10 TX10 14, w ∈ lw_tbl := fun w h => wi_wsX100 w ((by decide +kernel : ∀ w ∈ u_ws RX10 TX10 14, w ∈ wsX100) w h)
theorem uw_X11 : ∀ w ∈ u_ws RX11 TX11 30, w ∈ lw_tbl := fun w h => wi_wsX110 w ((by decide +kernel : ∀ w ∈ u_ws RX11 TX11 30, w ∈ wsX110) w h)
theorem dkK_ (hts : ∀ w ∈ lw_tbl, w.before args s = true) : ∀ c : Nat, ∃ d : ClassId × (Nat → Nat), ∀ q : vw_C, vwCl[c]? = some q → u_Kn s q.1 q.2.1 q.2.2 d.1 d.2 := by
  intro c
  match c with
  | 0 =>
    obtain ⟨cC, iS, h⟩ := u_known (C := RX0) (T := TX0) (N := 1) (n := 1) hts uw_X0 (hts (.instantiable RX0 1) (tb_ (i := 316) (by decide +kernel)))
    exact ⟨(cC, iS), fun q hq => by cases hq; exact h⟩
  | 1 =>
    obtain ⟨cC, iS, h⟩ := u_known (C := RX1) (T := TX1) (N := 13) (n := 13) hts uw_X1 (hts (.instantiable RX1 13) (tb_ (i := 266) (by decide +kernel)))
    exact ⟨(cC, iS), fun q hq => by cases hq; exact h⟩
  | 2 =>
    obtain ⟨cC, iS, h⟩ := u_known (C := RX2) (T := TX2) (N := 6) (n := 6) hts uw_X2 (hts (.instantiable RX2 6) (tb_ (i := 239) (by decide +kernel)))
    exact ⟨(cC, iS), fun q hq => by cases hq; exact h⟩
  | 3 =>
    obtain ⟨cC, iS, h⟩ := u_known (C := RX3) (T := TX3) (N := 6) (n := 6) hts uw_X3 (hts (.instantiable RX3 6) (tb_ (i := 194) (by decide +kernel)))
    exact ⟨(cC, iS), fun q hq => by cases hq; exact h⟩
  | 4 =>
    obtain ⟨cC, iS, h⟩ := u_known (C := RX4) (T := TX4) (N := 3) (n := 3) hts uw_X4 (hts (.instantiable RX4 3) (tb_ (i := 173) (by decide +kernel)))
    exact ⟨(cC, iS), fun q hq => by cases hq; exact h⟩
  | 5 =>
    obtain ⟨cC, iS, h⟩ := u_known (C := RX5) (T := TX5) (N := 13) (n := 13) hts uw_X5 (hts (.instantiable RX5 13) (tb_ (i := 34) (by decide +kernel)))
    exact ⟨(cC, iS), fun q hq => by cases hq; exact h⟩
  | 6 =>
    obtain ⟨cC, iS, h⟩ := u_known (C := RX6) (T := TX6) (N := 7) (n := 7) hts uw_X6 (hts (.instantiable RX6 7) (tb_ (i := 143) (by decide +kernel)))
    exact ⟨(cC, iS), fun q hq => by cases hq; exact h⟩
  | 7 =>
    obtain ⟨cC, iS, h⟩ := u_known (C := RX8) (T := TX8) (N := 4) (n := 4) hts uw_X8 (hts (.instantiable RX8 4) (tb_ (i := 119) (by decide +kernel)))
    exact ⟨(cC, iS), fun q hq => by cases hq; exact h⟩
  | 8 =>
    obtain ⟨cC, iS, h⟩ := u_known (C := RX9) (T := TX9) (N := 3) (n := 3) hts uw_X9 (hts (.instantiable RX9 3) (tb_ (i := 223) (by decide +kernel)))
    exact ⟨(cC, iS), fun q hq => by cases hq; exact h⟩
  | 9 =>
    obtain ⟨cC, iS, h⟩ := u_known (C := RX10) (T := TX10) (N := 14) (n := 14) hts uw_X10 (hts (.instantiable RX10 14) (tb_ (i := 26) (by decide +kernel)))
    exact ⟨(cC, iS), fun q hq => by cases hq; exact h⟩
  | 10 =>
    obtain ⟨cC, iS, h⟩ := u_known (C := RX11) (T := TX11) (N := 30) (n := 30) hts uw_X11 (hts (.instantiable RX11 30) (tb_ (i := 1136) (by decide +kernel)))
    exact ⟨(cC, iS), fun q hq => by cases hq; exact h⟩
  | k + 11 => exact ⟨(0, fun _ => 0), fun q hq => by simp at hq⟩
end LST
set_option maxRecDepth 100000 in
theorem law_ctx {p : Program} {s : State} {m : MethodId} {meth : Method} {c : Code} {b L : Nat} {xs : Nat → Int32} (hL : L ≤ 3072) (C0 : lw_At p s m meth c b L xs) : ∃ (D : va_G) (K : Nat → ClassId), LC p s m c b L xs D K ∧ va_AO "StaggerRadar$Radar" s ∧ va_AO "StaggerRadar$Text" s := by
  obtain ⟨hx, hb, hr, hml, hown, hts, hX, hbl, hlocks, hgv⟩ := id C0
  have hs : ∀ w ∈ nw_F, w.before #[Value.ref b] s = true := flat_of_before _ hgv
  have hA : ∀ a : Nat, a < s.heap.size → ¬ (fun q : Nat => s.heap.size ≤ q) a := fun a h h2 => absurd h2 (Nat.not_le.mpr h)
  obtain ⟨d, hd⟩ := Classical.axiomOfChoice (dkK_ hts)
  obtain ⟨k0, a0, r0⟩ := ap_ (ty := .int) (fun C h => by cases h) (hts (.arrayClass .int) (tb_ (i := 117) (by decide +kernel)))
  obtain ⟨k1, a1, r1⟩ := ap_ (ty := .long) (fun C h => by cases h) (hts (.arrayClass .long) (tb_ (i := 314) (by decide +kernel)))
  obtain ⟨k2, a2, r2⟩ := ap_ (ty := .boolean) (fun C h => by cases h) (hts (.arrayClass .boolean) (tb_ (i := 221) (by decide +kernel)))
  obtain ⟨k3, a3, r3⟩ := ap_ (ty := .byte) (fun C h => by cases h) (hts (.arrayClass .byte) (tb_ (i := 535) (by decide +kernel)))
  have hO1 := hts (.arrayOver (.object "StaggerRadar$Radar")) (tb_ (i := 179) (by decide +kernel))
  have hO2 := hts (.arrayOver (.object "StaggerRadar$Text")) (tb_ (i := 192) (by decide +kernel))
  obtain ⟨k4, a4, r4⟩ := ao_ hO1
  obtain ⟨k5, a5, r5⟩ := ao_ hO2
  obtain ⟨aK, aV, hvk, hev⟩ := vk_Sof (args := #[Value.ref b]) (s := s) (N := 10) (tm := tmS_) (len := st_len) (byt := st_byt) (A := fun q : Nat => s.heap.size ≤ q) (fun i hi => st_8 i (List.mem_range.mpr hi)) (fun i hi => hs _ (st_1 i (List.mem_range.mpr hi))) (fun i hi => hs _ (st_2 i (List.mem_range.mpr hi))) (fun i hi => hs _ (st_3 i (List.mem_range.mpr hi))) (fun i hi => hs _ (st_4 i (List.mem_range.mpr hi))) (fun i hi j hj => hs _ (st_5 i (List.mem_range.mpr hi) j (List.mem_range.mpr hj))) (fun i j hi hj hne => (st_6 i (List.mem_range.mpr hi) j (List.mem_range.mpr hj)).elim (fun h => absurd h hne) (fun h => h.elim (fun h => Or.inl (hs _ h)) (fun h => Or.inr (hs _ h)))) hA
  obtain ⟨K, hK⟩ : ∃ K : Nat → ClassId, (K 0 = k0 ∧ K 1 = k1 ∧ K 2 = k2 ∧ K 3 = k3 ∧ K 4 = k4 ∧ K 5 = k5) ∧ (∀ i, i < 10 → K (100 + i) = aK i) ∧ ∀ i, i < 10 → K (200 + i) = aV i := by
    refine ⟨fun k => if k < 100 then (if k = 0 then k0 else if k = 1 then k1 else if k = 2 then k2 else if k = 3 then k3 else if k = 4 then k4 else k5) else if k < 200 then aK (k - 100) else aV (k - 200), ⟨rfl, rfl, rfl, rfl, rfl, rfl⟩, fun i hi => ?_, fun i hi => ?_⟩
    · show (if 100 + i < 100 then _ else if 100 + i < 200 then aK (100 + i - 100) else _) = _
      rw [if_neg (by omega), if_pos (by omega), Nat.add_sub_cancel_left]
    · show (if 200 + i < 100 then _ else if 200 + i < 200 then _ else aV (200 + i - 200)) = _
      rw [if_neg (by omega), if_neg (by omega), Nat.add_sub_cancel_left]
  obtain ⟨⟨e0, e1, e2, e3, e4, e5⟩, eK, eV⟩ := hK
  have hiS := hts (.initialized "StaggerRadar") (tb_ (i := 1) (by decide +kernel))
  have hKK : va_K (fun c => (d c).1, fun c => (d c).2) vwCl (ty_ K) s := by
    refine ⟨fun c q hq => hd c q hq, fun k q hq => ?_⟩
    unfold ty_ at hq
    rw [e0, e1, e2, e3, e4, e5] at hq
    match k, hq with
    | 0, hq => cases hq; exact ⟨a0, r0⟩
    | 1, hq => cases hq; exact ⟨a1, r1⟩
    | 2, hq => cases hq; exact ⟨a2, r2⟩
    | 3, hq => cases hq; exact ⟨a3, r3⟩
    | 4, hq => cases hq; exact ⟨a4, r4⟩
    | 5, hq => cases hq; exact ⟨a5, r5⟩
    | k + 6, hq => simp at hq
  have hT : ST_ K (fun q : Nat => s.heap.size ≤ q) s s.heap := by
    refine ⟨⟨fun q hq => va_Nw.of rfl (hts _ (nm_in q hq)), va_Nw.of rfl (hts _ (tb_ (i := 39) (by decide +kernel))), va_Nw.of rfl (hts _ (tb_ (i := 506) (by decide +kernel))), va_Nw.of rfl (hts _ (tb_ (i := 508) (by decide +kernel)))⟩, ?_, ?_, ?_, ⟨vk_Sc hvk eK eV, fun i hi => ?_⟩, ?_, ?_, ?_, ?_⟩
    · exact sr_of hs (hts _ (tb_ (i := 40) (by decide +kernel))) hiS (by decide +kernel) (by decide +kernel) (by decide +kernel) hA
    · exact sr_of hs (hts _ (tb_ (i := 507) (by decide +kernel))) hiS (by decide +kernel) (by decide +kernel) (by decide +kernel) hA
    · exact sr_of hs (hts _ (tb_ (i := 509) (by decide +kernel))) hiS (by decide +kernel) (by decide +kernel) (by decide +kernel) hA
    · rw [eK i hi]
      exact vk_R.of (hts _ (st_7 i (List.mem_range.mpr hi))) (hev i hi)
    · exact va_Zof (hts _ (tb_ (i := 442) (by decide +kernel))) (hts (.initialized "java/lang/String") (tb_ (i := 13) (by decide +kernel))) (va_eqi (hs _ (by decide +kernel))) hA
    · exact vx_Zqof (hts _ (tb_ (i := 1079) (by decide +kernel))) (hts (.initialized "java/lang/Throwable") (tb_ (i := 21) (by decide +kernel))) (hs _ (by decide +kernel)) hA
    · exact vx_Zqof (hts _ (tb_ (i := 1081) (by decide +kernel))) (hts (.initialized "java/lang/Throwable") (tb_ (i := 21) (by decide +kernel))) (hs _ (by decide +kernel)) hA
    · exact va_Zqof (hts _ (tb_ (i := 458) (by decide +kernel))) (hts (.initialized "jdk/internal/util/Preconditions") (tb_ (i := 15) (by decide +kernel))) (hs _ (by decide +kernel)) hA
  have hTX : TX_ s := ⟨va_Nw.of rfl (hts _ (tb_ (i := 1055) (by decide +kernel))), va_Nw.of rfl (hts _ (tb_ (i := 1057) (by decide +kernel))), va_Nw.of rfl (hts _ (tb_ (i := 1059) (by decide +kernel))), va_Nw.of rfl (hts _ (tb_ (i := 1054) (by decide +kernel)))⟩
  exact ⟨(fun c => (d c).1, fun c => (d c).2), K, ⟨⟨⟨hx, hb, hml, hown, fun w h => hts w (wsL_law_in w h)⟩, hKK, fun q h => h, hT⟩, hTX, hX, hbl, hL⟩, va_AO.of hO1, va_AO.of hO2⟩
/-! ===== END ===== -/
