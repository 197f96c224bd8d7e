/-! ===== BEGIN the class and the reference side by side ===== -/
def SRel (r : RT_X5) (tx : RT_X8) (ho hs : Int32) (ring : Nat → RT_X5) (kp : Nat → Int32) (kr : Nat → RT_X5) (kt : Nat → RT_X8) (u : Int32) (all text sv un : Nat → Int32) : Prop :=
  ∃ m, WM m ∧ cX m r ∧ rA m all ∧ tX tx.1 tx.2.1 tx.2.2.1 tx.2.2.2 all 0 text ∧ hU ho hs ring u un ∧ iU kp kr kt sv all text
def SIM (K : Nat → ClassId) (hx hm : Nat) (Wc Wr : va_W) : Prop :=
  ∃ (G GR GK GT : Nat → Nat → Nat) (r : RT_X5) (d : RT_X5) (tx : RT_X8) (rd : RT_X6) (ho : Int32) (hs : Int32) (ring : Nat → RT_X5) (ec : RT_X3) (tk : RT_X9) (dw : RT_X2) (ch : RT_X1) (ad : RT_X0) (pl : Nat → Int32) (kp : Nat → Int32) (kr : Nat → RT_X5) (kt : Nat → RT_X8) (g : Nat → Nat) (q_raised : Int32) (q_undos : Int32) (q_reached : Int32) (q_length : Int32) (q_begin : Int32) (q_sort : Int32) (q_value : Int32) (q_word : Int64) (q_wrongAt : Int32) (q_badAt : Int32) (q_bad : Int32) (q_read : Int32) (q_pictured : Int32) (q_x : Int32) (q_all : Nat → Int32) (q_text : Nat → Int32) (q_saved : Nat → Int32) (q_undone : Nat → Int32) (q_told : Nat → Int32) (q_loud : Nat → Int32) (q_picture : Nat → Int32) (q_took : Nat → Int32) (q_free : Nat → Int32) (q_places : Nat → Int32) (q_which : Nat → Int32) (q_sent : Nat → Int32) (q_order : Nat → Int32) (q_bestOrder : Nat → Int32) (q_chosen : Nat → Int32) (q_best : Nat → Int32), Wc = (cwU K G GR GK GT r d tx rd ho hs ring ec tk dw ch ad pl kp kr kt).flatten ∧ Wr = (rwU K g q_raised q_undos q_reached q_length q_begin q_sort q_value q_word q_wrongAt q_badAt q_bad q_read q_pictured q_x q_all q_text q_saved q_undone q_told q_loud q_picture q_took q_free q_places q_which q_sent q_order q_bestOrder q_chosen q_best).flatten ∧ G 0 0 = hx ∧ g 0 = hm ∧ SRel r tx ho hs ring kp kr kt q_undos q_all q_text q_saved q_undone
theorem SIM_el {K : Nat → ClassId} {hx hm : Nat} {Wc Wr : va_W} (h : SIM K hx hm Wc Wr) (P : va_W → va_W → Nat → Nat → Prop) (hk : ∀ (G GR GK GT : Nat → Nat → Nat) (r : RT_X5) (d : RT_X5) (tx : RT_X8) (rd : RT_X6) (ho : Int32) (hs : Int32) (ring : Nat → RT_X5) (ec : RT_X3) (tk : RT_X9) (dw : RT_X2) (ch : RT_X1) (ad : RT_X0) (pl : Nat → Int32) (kp : Nat → Int32) (kr : Nat → RT_X5) (kt : Nat → RT_X8) (g : Nat → Nat) (q_raised : Int32) (q_undos : Int32) (q_reached : Int32) (q_length : Int32) (q_begin : Int32) (q_sort : Int32) (q_value : Int32) (q_word : Int64) (q_wrongAt : Int32) (q_badAt : Int32) (q_bad : Int32) (q_read : Int32) (q_pictured : Int32) (q_x : Int32) (q_all : Nat → Int32) (q_text : Nat → Int32) (q_saved : Nat → Int32) (q_undone : Nat → Int32) (q_told : Nat → Int32) (q_loud : Nat → Int32) (q_picture : Nat → Int32) (q_took : Nat → Int32) (q_free : Nat → Int32) (q_places : Nat → Int32) (q_which : Nat → Int32) (q_sent : Nat → Int32) (q_order : Nat → Int32) (q_bestOrder : Nat → Int32) (q_chosen : Nat → Int32) (q_best : Nat → Int32) (m : Nat → Int), WM m → cX m r → rA m q_all → tX tx.1 tx.2.1 tx.2.2.1 tx.2.2.2 q_all 0 q_text → hU ho hs ring q_undos q_undone → iU kp kr kt q_saved q_all q_text → P (cwU K G GR GK GT r d tx rd ho hs ring ec tk dw ch ad pl kp kr kt).flatten (rwU K g q_raised q_undos q_reached q_length q_begin q_sort q_value q_word q_wrongAt q_badAt q_bad q_read q_pictured q_x q_all q_text q_saved q_undone q_told q_loud q_picture q_took q_free q_places q_which q_sent q_order q_bestOrder q_chosen q_best).flatten (G 0 0) (g 0)) : P Wc Wr hx hm := by
  obtain ⟨G, GR, GK, GT, r, d, tx, rd, ho, hs, ring, ec, tk, dw, ch, ad, pl, kp, kr, kt, g, q_raised, q_undos, q_reached, q_length, q_begin, q_sort, q_value, q_word, q_wrongAt, q_badAt, q_bad, q_read, q_pictured, q_x, q_all, q_text, q_saved, q_undone, q_told, q_loud, q_picture, q_took, q_free, q_places, q_which, q_sent, q_order, q_bestOrder, q_chosen, q_best, e1, e2, e3, e4, m, h1, h2, h3, h4, h5, h6⟩ := h
  rw [e1, e2, ← e3, ← e4]
  exact hk G GR GK GT r d tx rd ho hs ring ec tk dw ch ad pl kp kr kt g q_raised q_undos q_reached q_length q_begin q_sort q_value q_word q_wrongAt q_badAt q_bad q_read q_pictured q_x q_all q_text q_saved q_undone q_told q_loud q_picture q_took q_free q_places q_which q_sent q_order q_bestOrder q_chosen q_best m h1 h2 h3 h4 h5 h6
theorem SIM_mk {K : Nat → ClassId} {G GR GK GT : Nat → Nat → Nat} {r : RT_X5} {d : RT_X5} {tx : RT_X8} {rd : RT_X6} {ho : Int32} {hs : Int32} {ring : Nat → RT_X5} {ec : RT_X3} {tk : RT_X9} {dw : RT_X2} {ch : RT_X1} {ad : RT_X0} {pl : Nat → Int32} {kp : Nat → Int32} {kr : Nat → RT_X5} {kt : Nat → RT_X8} {g : Nat → Nat} {q_raised : Int32} {q_undos : Int32} {q_reached : Int32} {q_length : Int32} {q_begin : Int32} {q_sort : Int32} {q_value : Int32} {q_word : Int64} {q_wrongAt : Int32} {q_badAt : Int32} {q_bad : Int32} {q_read : Int32} {q_pictured : Int32} {q_x : Int32} {q_all : Nat → Int32} {q_text : Nat → Int32} {q_saved : Nat → Int32} {q_undone : Nat → Int32} {q_told : Nat → Int32} {q_loud : Nat → Int32} {q_picture : Nat → Int32} {q_took : Nat → Int32} {q_free : Nat → Int32} {q_places : Nat → Int32} {q_which : Nat → Int32} {q_sent : Nat → Int32} {q_order : Nat → Int32} {q_bestOrder : Nat → Int32} {q_chosen : Nat → Int32} {q_best : Nat → Int32} (h : SRel r tx ho hs ring kp kr kt q_undos q_all q_text q_saved q_undone) : SIM K (G 0 0) (g 0) (cwU K G GR GK GT r d tx rd ho hs ring ec tk dw ch ad pl kp kr kt).flatten (rwU K g q_raised q_undos q_reached q_length q_begin q_sort q_value q_word q_wrongAt q_badAt q_bad q_read q_pictured q_x q_all q_text q_saved q_undone q_told q_loud q_picture q_took q_free q_places q_which q_sent q_order q_bestOrder q_chosen q_best).flatten :=
  ⟨G, GR, GK, GT, r, d, tx, rd, ho, hs, ring, ec, tk, dw, ch, ad, pl, kp, kr, kt, g, q_raised, q_undos, q_reached, q_length, q_begin, q_sort, q_value, q_word, q_wrongAt, q_badAt, q_bad, q_read, q_pictured, q_x, q_all, q_text, q_saved, q_undone, q_told, q_loud, q_picture, q_took, q_free, q_places, q_which, q_sent, q_order, q_bestOrder, q_chosen, q_best, rfl, rfl, rfl, rfl, h⟩
theorem ja_c {m : Nat → Int} {p p' : Nat → Int32} : ∀ k, (∀ j, j < k → p j = p' j) → ja_ m p k = ja_ m p' k
  | 0, _ => rfl
  | k + 1, h => by
    unfold ja_
    rw [ja_c k (fun j hj => h j (by omega)), h k (by omega)]
theorem p5_c {f g : Nat → Int32} {x1 x2 x3 x4 x5 : Int32} : ∀ j, j < 5 → p5_ f x1 x2 x3 x4 x5 j = p5_ g x1 x2 x3 x4 x5 j
  | 0, _ => rfl
  | 1, _ => rfl
  | 2, _ => rfl
  | 3, _ => rfl
  | 4, _ => rfl
  | n + 5, h => absurd h (by omega)
theorem qj_c {m : Nat → Int} (hg : WG m) {f g : Nat → Int32} {x1 x2 x3 x4 x5 : Int32} : qj_ m (p5_ f x1 x2 x3 x4 x5) = qj_ m (p5_ g x1 x2 x3 x4 x5) := by
  have h5 := (nG_c hg).2
  unfold qj_
  rw [ja_c (nG m) (fun j hj => p5_c j (by omega))]
theorem sim_type (l : Launch) (D : va_G) {K : Nat → ClassId} {hx hm : Nat} {Wc Wr : va_W} (h : SIM K hx hm Wc Wr) (x1 : Int64) :
    ∃ (v : Int32) (Wc2 Wr2 : va_W), Mi_ l yX10_type wsX10_type rmX10_type D K [.ref hx, .long x1] Wc Wc2 v ∧ Mi_ l yX11_type wsX11_type rmX11_type D K [.ref hm, .long x1] Wr Wr2 v ∧ SIM K hx hm Wc2 Wr2 := by
  refine SIM_el h (fun Wc Wr hx hm => ∃ (v : Int32) (Wc2 Wr2 : va_W), Mi_ l yX10_type wsX10_type rmX10_type D K [.ref hx, .long x1] Wc Wc2 v ∧ Mi_ l yX11_type wsX11_type rmX11_type D K [.ref hm, .long x1] Wr Wr2 v ∧ SIM K hx hm Wc2 Wr2) ?_
  intro G GR GK GT r d tx rd ho hs ring ec tk dw ch ad pl kp kr kt g q_raised q_undos q_reached q_length q_begin q_sort q_value q_word q_wrongAt q_badAt q_bad q_read q_pictured q_x q_all q_text q_saved q_undone q_told q_loud q_picture q_took q_free q_places q_which q_sent q_order q_bestOrder q_chosen q_best m hm hc hA hT hu hI
  obtain ⟨hg, hw, ht, hl⟩ := id hm
  obtain ⟨cg, cs, ct, cl, -, -⟩ := id hc
  obtain ⟨v, ts2, tb2, all2, tx2, e1, e2, hT2, hq1, hq2⟩ := ev_type hT q_raised x1
  exact ⟨_, _, _, k_X10_type l D K G GR GK GT r d tx rd ho hs ring ec tk dw ch ad pl kp kr kt x1 _ e1, k_X11_type l D K g q_raised q_undos q_reached q_length q_begin q_sort q_value q_word q_wrongAt q_badAt q_bad q_read q_pictured q_x q_all q_text q_saved q_undone q_told q_loud q_picture q_took q_free q_places q_which q_sent q_order q_bestOrder q_chosen q_best x1 _ e2, SIM_mk ⟨m, hm, hc, fun k hk => (hq1 k (by omega)).trans (hA k hk), hT2, hu, iU_c hI (fun i h1 _ => hq1 i (by omega)) hq2⟩⟩
theorem sim_read (l : Launch) (D : va_G) {K : Nat → ClassId} {hx hm : Nat} {Wc Wr : va_W} (h : SIM K hx hm Wc Wr)  :
    ∃ (v : Int32) (Wc2 Wr2 : va_W), Mi_ l yX10_read wsX10_read rmX10_read D K [.ref hx] Wc Wc2 v ∧ Mi_ l yX11_read wsX11_read rmX11_read D K [.ref hm] Wr Wr2 v ∧ SIM K hx hm Wc2 Wr2 := by
  refine SIM_el h (fun Wc Wr hx hm => ∃ (v : Int32) (Wc2 Wr2 : va_W), Mi_ l yX10_read wsX10_read rmX10_read D K [.ref hx] Wc Wc2 v ∧ Mi_ l yX11_read wsX11_read rmX11_read D K [.ref hm] Wr Wr2 v ∧ SIM K hx hm Wc2 Wr2) ?_
  intro G GR GK GT r d tx rd ho hs ring ec tk dw ch ad pl kp kr kt g q_raised q_undos q_reached q_length q_begin q_sort q_value q_word q_wrongAt q_badAt q_bad q_read q_pictured q_x q_all q_text q_saved q_undone q_told q_loud q_picture q_took q_free q_places q_which q_sent q_order q_bestOrder q_chosen q_best m hm hc hA hT hu hI
  obtain ⟨hg, hw, ht, hl⟩ := id hm
  obtain ⟨cg, cs, ct, cl, -, -⟩ := id hc
  obtain ⟨v, gc2, tc2, lc2, ti2, go2, gaps2, st2, sp2, ve2, sr2, lt2, lz2, ln2, E1, E2, E3, E4, E5, E6, E7, E8, E9, E10, fk2, fp2, X1, X2, X3, X4, X5, X6, X7, s2, u2, Y1, Y2, Y3, Y4, Y5, Y6, Y7, Y8, Y9, Y10, all2, told2, m2, e1, e2, hm2, hc2, hA2, hT2, hq, hu2⟩ := ev_read hm hc hA hT hu d.1 d.2.1 d.2.2.1 d.2.2.2.1 d.2.2.2.2.1 d.2.2.2.2.2.1 d.2.2.2.2.2.2.1 d.2.2.2.2.2.2.2.1 d.2.2.2.2.2.2.2.2.1 d.2.2.2.2.2.2.2.2.2.1 d.2.2.2.2.2.2.2.2.2.2.1 d.2.2.2.2.2.2.2.2.2.2.2.1 d.2.2.2.2.2.2.2.2.2.2.2.2 rd.1 rd.2.1 rd.2.2.1 rd.2.2.2.1 rd.2.2.2.2.1 rd.2.2.2.2.2.1 rd.2.2.2.2.2.2 q_raised q_reached q_length q_begin q_sort q_value q_word q_wrongAt q_badAt q_bad q_read q_told
  exact ⟨_, _, _, k_X10_read l D K G GR GK GT r d tx rd ho hs ring ec tk dw ch ad pl kp kr kt  _ e1, k_X11_read l D K g q_raised q_undos q_reached q_length q_begin q_sort q_value q_word q_wrongAt q_badAt q_bad q_read q_pictured q_x q_all q_text q_saved q_undone q_told q_loud q_picture q_took q_free q_places q_which q_sent q_order q_bestOrder q_chosen q_best  _ e2, SIM_mk ⟨m2, hm2, hc2, hA2, hT2, hu2, iU_c hI (fun i h1 _ => hq i h1) (fun _ _ => rfl)⟩⟩
theorem sim_fault (l : Launch) (D : va_G) {K : Nat → ClassId} {hx hm : Nat} {Wc Wr : va_W} (h : SIM K hx hm Wc Wr) (x1 : Int32) :
    ∃ (v : Int32) (Wc2 Wr2 : va_W), Mi_ l yX10_fault wsX10_fault rmX10_fault D K [.ref hx, .int x1] Wc Wc2 v ∧ Mi_ l yX11_fault wsX11_fault rmX11_fault D K [.ref hm, .int x1] Wr Wr2 v ∧ SIM K hx hm Wc2 Wr2 := by
  refine SIM_el h (fun Wc Wr hx hm => ∃ (v : Int32) (Wc2 Wr2 : va_W), Mi_ l yX10_fault wsX10_fault rmX10_fault D K [.ref hx, .int x1] Wc Wc2 v ∧ Mi_ l yX11_fault wsX11_fault rmX11_fault D K [.ref hm, .int x1] Wr Wr2 v ∧ SIM K hx hm Wc2 Wr2) ?_
  intro G GR GK GT r d tx rd ho hs ring ec tk dw ch ad pl kp kr kt g q_raised q_undos q_reached q_length q_begin q_sort q_value q_word q_wrongAt q_badAt q_bad q_read q_pictured q_x q_all q_text q_saved q_undone q_told q_loud q_picture q_took q_free q_places q_which q_sent q_order q_bestOrder q_chosen q_best m hm hc hA hT hu hI
  obtain ⟨hg, hw, ht, hl⟩ := id hm
  obtain ⟨cg, cs, ct, cl, -, -⟩ := id hc
  have e1 : F_X10_fault tx.2.1 tx.2.2.1 x1 = some (if x1 = 0 then q_all 98 else q_all 99) := by
    rw [show tx.2.1 = q_all 98 from hT.2.2.1.symm, show tx.2.2.1 = q_all 99 from hT.2.2.2.1.symm]
    unfold F_X10_fault
    by_cases h : x1 = 0
    · rw [if_pos h, if_pos h]
    · rw [if_neg h, if_neg h]
  have e2 : F_X11_fault q_raised q_all x1 = some (if x1 = 0 then q_all 98 else q_all 99, 0) := by
    unfold F_X11_fault
    by_cases h : x1 = 0
    · rw [if_pos h, if_pos h]
    · rw [if_neg h, if_neg h]
  exact ⟨_, _, _, k_X10_fault l D K G GR GK GT r d tx rd ho hs ring ec tk dw ch ad pl kp kr kt x1 _ e1, k_X11_fault l D K g q_raised q_undos q_reached q_length q_begin q_sort q_value q_word q_wrongAt q_badAt q_bad q_read q_pictured q_x q_all q_text q_saved q_undone q_told q_loud q_picture q_took q_free q_places q_which q_sent q_order q_bestOrder q_chosen q_best x1 _ e2, SIM_mk ⟨m, hm, hc, hA, hT, hu, hI⟩⟩
theorem sim_gap (l : Launch) (D : va_G) {K : Nat → ClassId} {hx hm : Nat} {Wc Wr : va_W} (h : SIM K hx hm Wc Wr) (x1 : Int32) (z2 : Bool) :
    ∃ (v : Int32) (Wc2 Wr2 : va_W), Mi_ l yX10_gap wsX10_gap rmX10_gap D K [.ref hx, .int x1, .int (bI z2)] Wc Wc2 v ∧ Mi_ l yX11_gap wsX11_gap rmX11_gap D K [.ref hm, .int x1, .int (bI z2)] Wr Wr2 v ∧ SIM K hx hm Wc2 Wr2 := by
  refine SIM_el h (fun Wc Wr hx hm => ∃ (v : Int32) (Wc2 Wr2 : va_W), Mi_ l yX10_gap wsX10_gap rmX10_gap D K [.ref hx, .int x1, .int (bI z2)] Wc Wc2 v ∧ Mi_ l yX11_gap wsX11_gap rmX11_gap D K [.ref hm, .int x1, .int (bI z2)] Wr Wr2 v ∧ SIM K hx hm Wc2 Wr2) ?_
  intro G GR GK GT r d tx rd ho hs ring ec tk dw ch ad pl kp kr kt g q_raised q_undos q_reached q_length q_begin q_sort q_value q_word q_wrongAt q_badAt q_bad q_read q_pictured q_x q_all q_text q_saved q_undone q_told q_loud q_picture q_took q_free q_places q_which q_sent q_order q_bestOrder q_chosen q_best m hm hc hA hT hu hI
  obtain ⟨hg, hw, ht, hl⟩ := id hm
  obtain ⟨cg, cs, ct, cl, -, -⟩ := id hc
  obtain ⟨v, gc2, gaps2, o2, s2, ring2, u2, all2, un2, m2, e1, e2, hm2, hc2, hA2, hq, hu2⟩ := ev_gap hm hc hA hu q_raised x1 z2
  exact ⟨_, _, _, k_X10_gap l D K G GR GK GT r d tx rd ho hs ring ec tk dw ch ad pl kp kr kt x1 (bI z2) _ e1, k_X11_gap l D K g q_raised q_undos q_reached q_length q_begin q_sort q_value q_word q_wrongAt q_badAt q_bad q_read q_pictured q_x q_all q_text q_saved q_undone q_told q_loud q_picture q_took q_free q_places q_which q_sent q_order q_bestOrder q_chosen q_best x1 (bI z2) _ e2, SIM_mk ⟨m2, hm2, hc2, hA2, tX_c hT (fun i h1 _ => hq i (by omega)) (fun _ _ _ => rfl), hu2, iU_c hI (fun i h1 _ => hq i (by omega)) (fun _ _ => rfl)⟩⟩
theorem sim_set (l : Launch) (D : va_G) {K : Nat → ClassId} {hx hm : Nat} {Wc Wr : va_W} (h : SIM K hx hm Wc Wr) (x1 : Int32) (x2 : Int32) :
    ∃ (v : Int32) (Wc2 Wr2 : va_W), Mi_ l yX10_set wsX10_set rmX10_set D K [.ref hx, .int x1, .int x2] Wc Wc2 v ∧ Mi_ l yX11_set wsX11_set rmX11_set D K [.ref hm, .int x1, .int x2] Wr Wr2 v ∧ SIM K hx hm Wc2 Wr2 := by
  refine SIM_el h (fun Wc Wr hx hm => ∃ (v : Int32) (Wc2 Wr2 : va_W), Mi_ l yX10_set wsX10_set rmX10_set D K [.ref hx, .int x1, .int x2] Wc Wc2 v ∧ Mi_ l yX11_set wsX11_set rmX11_set D K [.ref hm, .int x1, .int x2] Wr Wr2 v ∧ SIM K hx hm Wc2 Wr2) ?_
  intro G GR GK GT r d tx rd ho hs ring ec tk dw ch ad pl kp kr kt g q_raised q_undos q_reached q_length q_begin q_sort q_value q_word q_wrongAt q_badAt q_bad q_read q_pictured q_x q_all q_text q_saved q_undone q_told q_loud q_picture q_took q_free q_places q_which q_sent q_order q_bestOrder q_chosen q_best m hm hc hA hT hu hI
  obtain ⟨hg, hw, ht, hl⟩ := id hm
  obtain ⟨cg, cs, ct, cl, -, -⟩ := id hc
  obtain ⟨v, st2, o2, s2, ring2, u2, all2, un2, m2, e1, e2, hm2, hc2, hA2, hq, hu2⟩ := ev_set hm hc hA hu q_raised x1 x2
  exact ⟨_, _, _, k_X10_set l D K G GR GK GT r d tx rd ho hs ring ec tk dw ch ad pl kp kr kt x1 x2 _ e1, k_X11_set l D K g q_raised q_undos q_reached q_length q_begin q_sort q_value q_word q_wrongAt q_badAt q_bad q_read q_pictured q_x q_all q_text q_saved q_undone q_told q_loud q_picture q_took q_free q_places q_which q_sent q_order q_bestOrder q_chosen q_best x1 x2 _ e2, SIM_mk ⟨m2, hm2, hc2, hA2, tX_c hT (fun i h1 _ => hq i (by omega)) (fun _ _ _ => rfl), hu2, iU_c hI (fun i h1 _ => hq i (by omega)) (fun _ _ => rfl)⟩⟩
theorem sim_target (l : Launch) (D : va_G) {K : Nat → ClassId} {hx hm : Nat} {Wc Wr : va_W} (h : SIM K hx hm Wc Wr) (x1 : Int32) (x2 : Int32) (x3 : Int32) :
    ∃ (v : Int32) (Wc2 Wr2 : va_W), Mi_ l yX10_target wsX10_target rmX10_target D K [.ref hx, .int x1, .int x2, .int x3] Wc Wc2 v ∧ Mi_ l yX11_target wsX11_target rmX11_target D K [.ref hm, .int x1, .int x2, .int x3] Wr Wr2 v ∧ SIM K hx hm Wc2 Wr2 := by
  refine SIM_el h (fun Wc Wr hx hm => ∃ (v : Int32) (Wc2 Wr2 : va_W), Mi_ l yX10_target wsX10_target rmX10_target D K [.ref hx, .int x1, .int x2, .int x3] Wc Wc2 v ∧ Mi_ l yX11_target wsX11_target rmX11_target D K [.ref hm, .int x1, .int x2, .int x3] Wr Wr2 v ∧ SIM K hx hm Wc2 Wr2) ?_
  intro G GR GK GT r d tx rd ho hs ring ec tk dw ch ad pl kp kr kt g q_raised q_undos q_reached q_length q_begin q_sort q_value q_word q_wrongAt q_badAt q_bad q_read q_pictured q_x q_all q_text q_saved q_undone q_told q_loud q_picture q_took q_free q_places q_which q_sent q_order q_bestOrder q_chosen q_best m hm hc hA hT hu hI
  obtain ⟨hg, hw, ht, hl⟩ := id hm
  obtain ⟨cg, cs, ct, cl, -, -⟩ := id hc
  obtain ⟨v, tc2, sp2, ve2, sr2, o2, s2, ring2, u2, all2, un2, m2, e1, e2, hm2, hc2, hA2, hq, hu2⟩ := ev_target hm hc hA hu q_raised x1 x2 x3
  exact ⟨_, _, _, k_X10_target l D K G GR GK GT r d tx rd ho hs ring ec tk dw ch ad pl kp kr kt x1 x2 x3 _ e1, k_X11_target l D K g q_raised q_undos q_reached q_length q_begin q_sort q_value q_word q_wrongAt q_badAt q_bad q_read q_pictured q_x q_all q_text q_saved q_undone q_told q_loud q_picture q_took q_free q_places q_which q_sent q_order q_bestOrder q_chosen q_best x1 x2 x3 _ e2, SIM_mk ⟨m2, hm2, hc2, hA2, tX_c hT (fun i h1 _ => hq i (by omega)) (fun _ _ _ => rfl), hu2, iU_c hI (fun i h1 _ => hq i (by omega)) (fun _ _ => rfl)⟩⟩
theorem sim_leave (l : Launch) (D : va_G) {K : Nat → ClassId} {hx hm : Nat} {Wc Wr : va_W} (h : SIM K hx hm Wc Wr) (x1 : Int32) :
    ∃ (v : Int32) (Wc2 Wr2 : va_W), Mi_ l yX10_leave wsX10_leave rmX10_leave D K [.ref hx, .int x1] Wc Wc2 v ∧ Mi_ l yX11_leave wsX11_leave rmX11_leave D K [.ref hm, .int x1] Wr Wr2 v ∧ SIM K hx hm Wc2 Wr2 := by
  refine SIM_el h (fun Wc Wr hx hm => ∃ (v : Int32) (Wc2 Wr2 : va_W), Mi_ l yX10_leave wsX10_leave rmX10_leave D K [.ref hx, .int x1] Wc Wc2 v ∧ Mi_ l yX11_leave wsX11_leave rmX11_leave D K [.ref hm, .int x1] Wr Wr2 v ∧ SIM K hx hm Wc2 Wr2) ?_
  intro G GR GK GT r d tx rd ho hs ring ec tk dw ch ad pl kp kr kt g q_raised q_undos q_reached q_length q_begin q_sort q_value q_word q_wrongAt q_badAt q_bad q_read q_pictured q_x q_all q_text q_saved q_undone q_told q_loud q_picture q_took q_free q_places q_which q_sent q_order q_bestOrder q_chosen q_best m hm hc hA hT hu hI
  obtain ⟨hg, hw, ht, hl⟩ := id hm
  obtain ⟨cg, cs, ct, cl, -, -⟩ := id hc
  obtain ⟨v, tc2, sp2, ve2, sr2, o2, s2, ring2, u2, all2, un2, m2, e1, e2, hm2, hc2, hA2, hq, hu2⟩ := ev_leave hm hc hA hu q_raised x1
  exact ⟨_, _, _, k_X10_leave l D K G GR GK GT r d tx rd ho hs ring ec tk dw ch ad pl kp kr kt x1 _ e1, k_X11_leave l D K g q_raised q_undos q_reached q_length q_begin q_sort q_value q_word q_wrongAt q_badAt q_bad q_read q_pictured q_x q_all q_text q_saved q_undone q_told q_loud q_picture q_took q_free q_places q_which q_sent q_order q_bestOrder q_chosen q_best x1 _ e2, SIM_mk ⟨m2, hm2, hc2, hA2, tX_c hT (fun i h1 _ => hq i (by omega)) (fun _ _ _ => rfl), hu2, iU_c hI (fun i h1 _ => hq i (by omega)) (fun _ _ => rfl)⟩⟩
theorem sim_move (l : Launch) (D : va_G) {K : Nat → ClassId} {hx hm : Nat} {Wc Wr : va_W} (h : SIM K hx hm Wc Wr) (x1 : Int32) :
    ∃ (v : Int32) (Wc2 Wr2 : va_W), Mi_ l yX10_move wsX10_move rmX10_move D K [.ref hx, .int x1] Wc Wc2 v ∧ Mi_ l yX11_move wsX11_move rmX11_move D K [.ref hm, .int x1] Wr Wr2 v ∧ SIM K hx hm Wc2 Wr2 := by
  refine SIM_el h (fun Wc Wr hx hm => ∃ (v : Int32) (Wc2 Wr2 : va_W), Mi_ l yX10_move wsX10_move rmX10_move D K [.ref hx, .int x1] Wc Wc2 v ∧ Mi_ l yX11_move wsX11_move rmX11_move D K [.ref hm, .int x1] Wr Wr2 v ∧ SIM K hx hm Wc2 Wr2) ?_
  intro G GR GK GT r d tx rd ho hs ring ec tk dw ch ad pl kp kr kt g q_raised q_undos q_reached q_length q_begin q_sort q_value q_word q_wrongAt q_badAt q_bad q_read q_pictured q_x q_all q_text q_saved q_undone q_told q_loud q_picture q_took q_free q_places q_which q_sent q_order q_bestOrder q_chosen q_best m hm hc hA hT hu hI
  obtain ⟨hg, hw, ht, hl⟩ := id hm
  obtain ⟨cg, cs, ct, cl, -, -⟩ := id hc
  obtain ⟨v, tc2, ti2, go2, sp2, ve2, sr2, o2, s2, ring2, u2, all2, un2, m2, e1, e2, hm2, hc2, hA2, hq, hu2⟩ := ev_move hm hc hA hu q_raised x1
  exact ⟨_, _, _, k_X10_move l D K G GR GK GT r d tx rd ho hs ring ec tk dw ch ad pl kp kr kt x1 _ e1, k_X11_move l D K g q_raised q_undos q_reached q_length q_begin q_sort q_value q_word q_wrongAt q_badAt q_bad q_read q_pictured q_x q_all q_text q_saved q_undone q_told q_loud q_picture q_took q_free q_places q_which q_sent q_order q_bestOrder q_chosen q_best x1 _ e2, SIM_mk ⟨m2, hm2, hc2, hA2, tX_c hT (fun i h1 _ => hq i (by omega)) (fun _ _ _ => rfl), hu2, iU_c hI (fun i h1 _ => hq i (by omega)) (fun _ _ => rfl)⟩⟩
theorem sim_look (l : Launch) (D : va_G) {K : Nat → ClassId} {hx hm : Nat} {Wc Wr : va_W} (h : SIM K hx hm Wc Wr)  :
    ∃ (v : Int32) (Wc2 Wr2 : va_W), Mi_ l yX10_look wsX10_look rmX10_look D K [.ref hx] Wc Wc2 v ∧ Mi_ l yX11_look wsX11_look rmX11_look D K [.ref hm] Wr Wr2 v ∧ SIM K hx hm Wc2 Wr2 := by
  refine SIM_el h (fun Wc Wr hx hm => ∃ (v : Int32) (Wc2 Wr2 : va_W), Mi_ l yX10_look wsX10_look rmX10_look D K [.ref hx] Wc Wc2 v ∧ Mi_ l yX11_look wsX11_look rmX11_look D K [.ref hm] Wr Wr2 v ∧ SIM K hx hm Wc2 Wr2) ?_
  intro G GR GK GT r d tx rd ho hs ring ec tk dw ch ad pl kp kr kt g q_raised q_undos q_reached q_length q_begin q_sort q_value q_word q_wrongAt q_badAt q_bad q_read q_pictured q_x q_all q_text q_saved q_undone q_told q_loud q_picture q_took q_free q_places q_which q_sent q_order q_bestOrder q_chosen q_best m hm hc hA hT hu hI
  obtain ⟨hg, hw, ht, hl⟩ := id hm
  obtain ⟨cg, cs, ct, cl, -, -⟩ := id hc
  obtain ⟨v, lc2, lt2, lz2, ln2, o2, s2, a1, a2, a3, a4, a5, a6, ring2, u2, all2, un2, b1, b2, b3, b4, b5, m2, e1, e2, hm2, hc2, hA2, hq, hu2⟩ := ev_look hm hc hA hu q_raised ec.1 q_pictured ec.2.1 ec.2.2.1 ec.2.2.2.1 ec.2.2.2.2.1 ec.2.2.2.2.2 q_loud q_picture q_took q_free
  exact ⟨_, _, _, k_X10_look l D K G GR GK GT r d tx rd ho hs ring ec tk dw ch ad pl kp kr kt  _ e1, k_X11_look l D K g q_raised q_undos q_reached q_length q_begin q_sort q_value q_word q_wrongAt q_badAt q_bad q_read q_pictured q_x q_all q_text q_saved q_undone q_told q_loud q_picture q_took q_free q_places q_which q_sent q_order q_bestOrder q_chosen q_best  _ e2, SIM_mk ⟨m2, hm2, hc2, hA2, tX_c hT (fun i h1 _ => hq i (by omega)) (fun _ _ _ => rfl), hu2, iU_c hI (fun i h1 _ => hq i (by omega)) (fun _ _ => rfl)⟩⟩
theorem sim_undo (l : Launch) (D : va_G) {K : Nat → ClassId} {hx hm : Nat} {Wc Wr : va_W} (h : SIM K hx hm Wc Wr)  :
    ∃ (v : Int32) (Wc2 Wr2 : va_W), Mi_ l yX10_undo wsX10_undo rmX10_undo D K [.ref hx] Wc Wc2 v ∧ Mi_ l yX11_undo wsX11_undo rmX11_undo D K [.ref hm] Wr Wr2 v ∧ SIM K hx hm Wc2 Wr2 := by
  refine SIM_el h (fun Wc Wr hx hm => ∃ (v : Int32) (Wc2 Wr2 : va_W), Mi_ l yX10_undo wsX10_undo rmX10_undo D K [.ref hx] Wc Wc2 v ∧ Mi_ l yX11_undo wsX11_undo rmX11_undo D K [.ref hm] Wr Wr2 v ∧ SIM K hx hm Wc2 Wr2) ?_
  intro G GR GK GT r d tx rd ho hs ring ec tk dw ch ad pl kp kr kt g q_raised q_undos q_reached q_length q_begin q_sort q_value q_word q_wrongAt q_badAt q_bad q_read q_pictured q_x q_all q_text q_saved q_undone q_told q_loud q_picture q_took q_free q_places q_which q_sent q_order q_bestOrder q_chosen q_best m hm hc hA hT hu hI
  obtain ⟨hg, hw, ht, hl⟩ := id hm
  obtain ⟨cg, cs, ct, cl, -, -⟩ := id hc
  obtain ⟨v, gc2, tc2, lc2, ti2, go2, gaps2, st2, sp2, ve2, sr2, lt2, lz2, ln2, s2, u2, all2, m2, e1, e2, hm2, hc2, hA2, hq, hu2⟩ := ev_undo hm hc hA hu q_raised
  exact ⟨_, _, _, k_X10_undo l D K G GR GK GT r d tx rd ho hs ring ec tk dw ch ad pl kp kr kt  _ e1, k_X11_undo l D K g q_raised q_undos q_reached q_length q_begin q_sort q_value q_word q_wrongAt q_badAt q_bad q_read q_pictured q_x q_all q_text q_saved q_undone q_told q_loud q_picture q_took q_free q_places q_which q_sent q_order q_bestOrder q_chosen q_best  _ e2, SIM_mk ⟨m2, hm2, hc2, hA2, tX_c hT (fun i h1 _ => hq i (by omega)) (fun _ _ _ => rfl), hu2, iU_c hI (fun i h1 _ => hq i (by omega)) (fun _ _ => rfl)⟩⟩
theorem sim_count (l : Launch) (D : va_G) {K : Nat → ClassId} {hx hm : Nat} {Wc Wr : va_W} (h : SIM K hx hm Wc Wr) (x1 : Int32) :
    ∃ (v : Int32) (Wc2 Wr2 : va_W), Mi_ l yX10_count wsX10_count rmX10_count D K [.ref hx, .int x1] Wc Wc2 v ∧ Mi_ l yX11_count wsX11_count rmX11_count D K [.ref hm, .int x1] Wr Wr2 v ∧ SIM K hx hm Wc2 Wr2 := by
  refine SIM_el h (fun Wc Wr hx hm => ∃ (v : Int32) (Wc2 Wr2 : va_W), Mi_ l yX10_count wsX10_count rmX10_count D K [.ref hx, .int x1] Wc Wc2 v ∧ Mi_ l yX11_count wsX11_count rmX11_count D K [.ref hm, .int x1] Wr Wr2 v ∧ SIM K hx hm Wc2 Wr2) ?_
  intro G GR GK GT r d tx rd ho hs ring ec tk dw ch ad pl kp kr kt g q_raised q_undos q_reached q_length q_begin q_sort q_value q_word q_wrongAt q_badAt q_bad q_read q_pictured q_x q_all q_text q_saved q_undone q_told q_loud q_picture q_took q_free q_places q_which q_sent q_order q_bestOrder q_chosen q_best m hm hc hA hT hu hI
  obtain ⟨hg, hw, ht, hl⟩ := id hm
  obtain ⟨cg, cs, ct, cl, -, -⟩ := id hc
  obtain ⟨v, a1, a2, a3, a4, a5, a6, b1, b2, b3, b4, b5, e1, e2⟩ := ev_count hm hc hA q_raised q_undos q_pictured ec.1 ec.2.1 ec.2.2.1 ec.2.2.2.1 ec.2.2.2.2.1 ec.2.2.2.2.2 q_loud q_picture q_took q_free x1
  have hs1 : q_undos = hs := by
    obtain ⟨oo, ss, -, ⟨-, y1, y2⟩, -⟩ := hu
    exact y2.trans y1.symm
  have ht1 : q_all 97 = tx.1 := hT.2.1
  rw [hs1, ht1] at e1
  exact ⟨_, _, _, k_X10_count l D K G GR GK GT r d tx rd ho hs ring ec tk dw ch ad pl kp kr kt x1 _ e1, k_X11_count l D K g q_raised q_undos q_reached q_length q_begin q_sort q_value q_word q_wrongAt q_badAt q_bad q_read q_pictured q_x q_all q_text q_saved q_undone q_told q_loud q_picture q_took q_free q_places q_which q_sent q_order q_bestOrder q_chosen q_best x1 _ e2, SIM_mk ⟨m, hm, hc, hA, hT, hu, hI⟩⟩
theorem sim_blind (l : Launch) (D : va_G) {K : Nat → ClassId} {hx hm : Nat} {Wc Wr : va_W} (h : SIM K hx hm Wc Wr) (x1 : Int32) :
    ∃ (v : Int32) (Wc2 Wr2 : va_W), Mi_ l yX10_blind wsX10_blind rmX10_blind D K [.ref hx, .int x1] Wc Wc2 v ∧ Mi_ l yX11_blind wsX11_blind rmX11_blind D K [.ref hm, .int x1] Wr Wr2 v ∧ SIM K hx hm Wc2 Wr2 := by
  refine SIM_el h (fun Wc Wr hx hm => ∃ (v : Int32) (Wc2 Wr2 : va_W), Mi_ l yX10_blind wsX10_blind rmX10_blind D K [.ref hx, .int x1] Wc Wc2 v ∧ Mi_ l yX11_blind wsX11_blind rmX11_blind D K [.ref hm, .int x1] Wr Wr2 v ∧ SIM K hx hm Wc2 Wr2) ?_
  intro G GR GK GT r d tx rd ho hs ring ec tk dw ch ad pl kp kr kt g q_raised q_undos q_reached q_length q_begin q_sort q_value q_word q_wrongAt q_badAt q_bad q_read q_pictured q_x q_all q_text q_saved q_undone q_told q_loud q_picture q_took q_free q_places q_which q_sent q_order q_bestOrder q_chosen q_best m hm hc hA hT hu hI
  obtain ⟨hg, hw, ht, hl⟩ := id hm
  obtain ⟨cg, cs, ct, cl, -, -⟩ := id hc
  have e1 := ev_blind hg hw cg cs x1
  have e2 := ev_rblind hg hw hA q_raised x1
  exact ⟨_, _, _, k_X10_blind l D K G GR GK GT r d tx rd ho hs ring ec tk dw ch ad pl kp kr kt x1 _ e1, k_X11_blind l D K g q_raised q_undos q_reached q_length q_begin q_sort q_value q_word q_wrongAt q_badAt q_bad q_read q_pictured q_x q_all q_text q_saved q_undone q_told q_loud q_picture q_took q_free q_places q_which q_sent q_order q_bestOrder q_chosen q_best x1 _ e2, SIM_mk ⟨m, hm, hc, hA, hT, hu, hI⟩⟩
theorem sim_doppler (l : Launch) (D : va_G) {K : Nat → ClassId} {hx hm : Nat} {Wc Wr : va_W} (h : SIM K hx hm Wc Wr) (x1 : Int32) (x2 : Int32) :
    ∃ (v : Int32) (Wc2 Wr2 : va_W), Mi_ l yX10_doppler wsX10_doppler rmX10_doppler D K [.ref hx, .int x1, .int x2] Wc Wc2 v ∧ Mi_ l yX11_doppler wsX11_doppler rmX11_doppler D K [.ref hm, .int x1, .int x2] Wr Wr2 v ∧ SIM K hx hm Wc2 Wr2 := by
  refine SIM_el h (fun Wc Wr hx hm => ∃ (v : Int32) (Wc2 Wr2 : va_W), Mi_ l yX10_doppler wsX10_doppler rmX10_doppler D K [.ref hx, .int x1, .int x2] Wc Wc2 v ∧ Mi_ l yX11_doppler wsX11_doppler rmX11_doppler D K [.ref hm, .int x1, .int x2] Wr Wr2 v ∧ SIM K hx hm Wc2 Wr2) ?_
  intro G GR GK GT r d tx rd ho hs ring ec tk dw ch ad pl kp kr kt g q_raised q_undos q_reached q_length q_begin q_sort q_value q_word q_wrongAt q_badAt q_bad q_read q_pictured q_x q_all q_text q_saved q_undone q_told q_loud q_picture q_took q_free q_places q_which q_sent q_order q_bestOrder q_chosen q_best m hm hc hA hT hu hI
  obtain ⟨hg, hw, ht, hl⟩ := id hm
  obtain ⟨cg, cs, ct, cl, -, -⟩ := id hc
  have e1 := ev_doppler hg hw cg cs x1 x2
  have e2 := ev_rdoppler hg hw hA q_raised x1 x2
  exact ⟨_, _, _, k_X10_doppler l D K G GR GK GT r d tx rd ho hs ring ec tk dw ch ad pl kp kr kt x1 x2 _ e1, k_X11_doppler l D K g q_raised q_undos q_reached q_length q_begin q_sort q_value q_word q_wrongAt q_badAt q_bad q_read q_pictured q_x q_all q_text q_saved q_undone q_told q_loud q_picture q_took q_free q_places q_which q_sent q_order q_bestOrder q_chosen q_best x1 x2 _ e2, SIM_mk ⟨m, hm, hc, hA, hT, hu, hI⟩⟩
theorem sim_dark (l : Launch) (D : va_G) {K : Nat → ClassId} {hx hm : Nat} {Wc Wr : va_W} (h : SIM K hx hm Wc Wr) (x1 : Int32) :
    ∃ (v : Int32) (Wc2 Wr2 : va_W), Mi_ l yX10_dark wsX10_dark rmX10_dark D K [.ref hx, .int x1] Wc Wc2 v ∧ Mi_ l yX11_dark wsX11_dark rmX11_dark D K [.ref hm, .int x1] Wr Wr2 v ∧ SIM K hx hm Wc2 Wr2 := by
  refine SIM_el h (fun Wc Wr hx hm => ∃ (v : Int32) (Wc2 Wr2 : va_W), Mi_ l yX10_dark wsX10_dark rmX10_dark D K [.ref hx, .int x1] Wc Wc2 v ∧ Mi_ l yX11_dark wsX11_dark rmX11_dark D K [.ref hm, .int x1] Wr Wr2 v ∧ SIM K hx hm Wc2 Wr2) ?_
  intro G GR GK GT r d tx rd ho hs ring ec tk dw ch ad pl kp kr kt g q_raised q_undos q_reached q_length q_begin q_sort q_value q_word q_wrongAt q_badAt q_bad q_read q_pictured q_x q_all q_text q_saved q_undone q_told q_loud q_picture q_took q_free q_places q_which q_sent q_order q_bestOrder q_chosen q_best m hm hc hA hT hu hI
  obtain ⟨hg, hw, ht, hl⟩ := id hm
  obtain ⟨cg, cs, ct, cl, -, -⟩ := id hc
  have e1 := ev_dark hg hw cg cs x1
  have e2 := ev_rdark hg hw hA q_raised x1
  exact ⟨_, _, _, k_X10_dark l D K G GR GK GT r d tx rd ho hs ring ec tk dw ch ad pl kp kr kt x1 _ e1, k_X11_dark l D K g q_raised q_undos q_reached q_length q_begin q_sort q_value q_word q_wrongAt q_badAt q_bad q_read q_pictured q_x q_all q_text q_saved q_undone q_told q_loud q_picture q_took q_free q_places q_which q_sent q_order q_bestOrder q_chosen q_best x1 _ e2, SIM_mk ⟨m, hm, hc, hA, hT, hu, hI⟩⟩
theorem sim_period (l : Launch) (D : va_G) {K : Nat → ClassId} {hx hm : Nat} {Wc Wr : va_W} (h : SIM K hx hm Wc Wr)  :
    ∃ (v : Int32) (Wc2 Wr2 : va_W), Mi_ l yX10_period wsX10_period rmX10_period D K [.ref hx] Wc Wc2 v ∧ Mi_ l yX11_period wsX11_period rmX11_period D K [.ref hm] Wr Wr2 v ∧ SIM K hx hm Wc2 Wr2 := by
  refine SIM_el h (fun Wc Wr hx hm => ∃ (v : Int32) (Wc2 Wr2 : va_W), Mi_ l yX10_period wsX10_period rmX10_period D K [.ref hx] Wc Wc2 v ∧ Mi_ l yX11_period wsX11_period rmX11_period D K [.ref hm] Wr Wr2 v ∧ SIM K hx hm Wc2 Wr2) ?_
  intro G GR GK GT r d tx rd ho hs ring ec tk dw ch ad pl kp kr kt g q_raised q_undos q_reached q_length q_begin q_sort q_value q_word q_wrongAt q_badAt q_bad q_read q_pictured q_x q_all q_text q_saved q_undone q_told q_loud q_picture q_took q_free q_places q_which q_sent q_order q_bestOrder q_chosen q_best m hm hc hA hT hu hI
  obtain ⟨hg, hw, ht, hl⟩ := id hm
  obtain ⟨cg, cs, ct, cl, -, -⟩ := id hc
  have e1 := ev_period hg hw cg cs
  have e2 := ev_rperiod hg hw hA q_raised
  exact ⟨_, _, _, k_X10_period l D K G GR GK GT r d tx rd ho hs ring ec tk dw ch ad pl kp kr kt  _ e1, k_X11_period l D K g q_raised q_undos q_reached q_length q_begin q_sort q_value q_word q_wrongAt q_badAt q_bad q_read q_pictured q_x q_all q_text q_saved q_undone q_told q_loud q_picture q_took q_free q_places q_which q_sent q_order q_bestOrder q_chosen q_best  _ e2, SIM_mk ⟨m, hm, hc, hA, hT, hu, hI⟩⟩
theorem sim_reach (l : Launch) (D : va_G) {K : Nat → ClassId} {hx hm : Nat} {Wc Wr : va_W} (h : SIM K hx hm Wc Wr) (x1 : Int32) (x2 : Int32) :
    ∃ (v : Int32) (Wc2 Wr2 : va_W), Mi_ l yX10_reach wsX10_reach rmX10_reach D K [.ref hx, .int x1, .int x2] Wc Wc2 v ∧ Mi_ l yX11_reach wsX11_reach rmX11_reach D K [.ref hm, .int x1, .int x2] Wr Wr2 v ∧ SIM K hx hm Wc2 Wr2 := by
  refine SIM_el h (fun Wc Wr hx hm => ∃ (v : Int32) (Wc2 Wr2 : va_W), Mi_ l yX10_reach wsX10_reach rmX10_reach D K [.ref hx, .int x1, .int x2] Wc Wc2 v ∧ Mi_ l yX11_reach wsX11_reach rmX11_reach D K [.ref hm, .int x1, .int x2] Wr Wr2 v ∧ SIM K hx hm Wc2 Wr2) ?_
  intro G GR GK GT r d tx rd ho hs ring ec tk dw ch ad pl kp kr kt g q_raised q_undos q_reached q_length q_begin q_sort q_value q_word q_wrongAt q_badAt q_bad q_read q_pictured q_x q_all q_text q_saved q_undone q_told q_loud q_picture q_took q_free q_places q_which q_sent q_order q_bestOrder q_chosen q_best m hm hc hA hT hu hI
  obtain ⟨hg, hw, ht, hl⟩ := id hm
  obtain ⟨cg, cs, ct, cl, -, -⟩ := id hc
  have e1 := ev_reach hg cg x1 x2
  have e2 := ev_rreach hg hA q_raised x1 x2
  exact ⟨_, _, _, k_X10_reach l D K G GR GK GT r d tx rd ho hs ring ec tk dw ch ad pl kp kr kt x1 x2 _ e1, k_X11_reach l D K g q_raised q_undos q_reached q_length q_begin q_sort q_value q_word q_wrongAt q_badAt q_bad q_read q_pictured q_x q_all q_text q_saved q_undone q_told q_loud q_picture q_took q_free q_places q_which q_sent q_order q_bestOrder q_chosen q_best x1 x2 _ e2, SIM_mk ⟨m, hm, hc, hA, hT, hu, hI⟩⟩
theorem sim_joined (l : Launch) (D : va_G) {K : Nat → ClassId} {hx hm : Nat} {Wc Wr : va_W} (h : SIM K hx hm Wc Wr) (x1 : Int32) (x2 : Int32) (x3 : Int32) (x4 : Int32) (x5 : Int32) :
    ∃ (v : Int32) (Wc2 Wr2 : va_W), Mi_ l yX10_joined wsX10_joined rmX10_joined D K [.ref hx, .int x1, .int x2, .int x3, .int x4, .int x5] Wc Wc2 v ∧ Mi_ l yX11_joined wsX11_joined rmX11_joined D K [.ref hm, .int x1, .int x2, .int x3, .int x4, .int x5] Wr Wr2 v ∧ SIM K hx hm Wc2 Wr2 := by
  refine SIM_el h (fun Wc Wr hx hm => ∃ (v : Int32) (Wc2 Wr2 : va_W), Mi_ l yX10_joined wsX10_joined rmX10_joined D K [.ref hx, .int x1, .int x2, .int x3, .int x4, .int x5] Wc Wc2 v ∧ Mi_ l yX11_joined wsX11_joined rmX11_joined D K [.ref hm, .int x1, .int x2, .int x3, .int x4, .int x5] Wr Wr2 v ∧ SIM K hx hm Wc2 Wr2) ?_
  intro G GR GK GT r d tx rd ho hs ring ec tk dw ch ad pl kp kr kt g q_raised q_undos q_reached q_length q_begin q_sort q_value q_word q_wrongAt q_badAt q_bad q_read q_pictured q_x q_all q_text q_saved q_undone q_told q_loud q_picture q_took q_free q_places q_which q_sent q_order q_bestOrder q_chosen q_best m hm hc hA hT hu hI
  obtain ⟨hg, hw, ht, hl⟩ := id hm
  obtain ⟨cg, cs, ct, cl, -, -⟩ := id hc
  have e1 := ev_joined hg cg pl x1 x2 x3 x4 x5
  have e2 := ev_rjoined hg hA q_raised q_places x1 x2 x3 x4 x5
  have hj : qj_ m (p5_ q_places x1 x2 x3 x4 x5) = qj_ m (p5_ pl x1 x2 x3 x4 x5) := qj_c hg
  rw [hj] at e2
  exact ⟨_, _, _, k_X10_joined l D K G GR GK GT r d tx rd ho hs ring ec tk dw ch ad pl kp kr kt x1 x2 x3 x4 x5 _ e1, k_X11_joined l D K g q_raised q_undos q_reached q_length q_begin q_sort q_value q_word q_wrongAt q_badAt q_bad q_read q_pictured q_x q_all q_text q_saved q_undone q_told q_loud q_picture q_took q_free q_places q_which q_sent q_order q_bestOrder q_chosen q_best x1 x2 x3 x4 x5 _ e2, SIM_mk ⟨m, hm, hc, hA, hT, hu, hI⟩⟩
theorem sim_at (l : Launch) (D : va_G) {K : Nat → ClassId} {hx hm : Nat} {Wc Wr : va_W} (h : SIM K hx hm Wc Wr) (x1 : Int32) (x2 : Int32) (x3 : Int32) :
    ∃ (v : Int32) (Wc2 Wr2 : va_W), Mi_ l yX10_at wsX10_at rmX10_at D K [.ref hx, .int x1, .int x2, .int x3] Wc Wc2 v ∧ Mi_ l yX11_at wsX11_at rmX11_at D K [.ref hm, .int x1, .int x2, .int x3] Wr Wr2 v ∧ SIM K hx hm Wc2 Wr2 := by
  refine SIM_el h (fun Wc Wr hx hm => ∃ (v : Int32) (Wc2 Wr2 : va_W), Mi_ l yX10_at wsX10_at rmX10_at D K [.ref hx, .int x1, .int x2, .int x3] Wc Wc2 v ∧ Mi_ l yX11_at wsX11_at rmX11_at D K [.ref hm, .int x1, .int x2, .int x3] Wr Wr2 v ∧ SIM K hx hm Wc2 Wr2) ?_
  intro G GR GK GT r d tx rd ho hs ring ec tk dw ch ad pl kp kr kt g q_raised q_undos q_reached q_length q_begin q_sort q_value q_word q_wrongAt q_badAt q_bad q_read q_pictured q_x q_all q_text q_saved q_undone q_told q_loud q_picture q_took q_free q_places q_which q_sent q_order q_bestOrder q_chosen q_best m hm hc hA hT hu hI
  obtain ⟨hg, hw, ht, hl⟩ := id hm
  obtain ⟨cg, cs, ct, cl, -, -⟩ := id hc
  obtain ⟨g1, g2, e1⟩ := ev_at hg hw ht cg cs ct ec.2.1 ec.2.2.1 x1 x2 x3
  have e2 := ev_rat hg hw ht hA q_raised x1 x2 x3
  exact ⟨_, _, _, k_X10_at l D K G GR GK GT r d tx rd ho hs ring ec tk dw ch ad pl kp kr kt x1 x2 x3 _ e1, k_X11_at l D K g q_raised q_undos q_reached q_length q_begin q_sort q_value q_word q_wrongAt q_badAt q_bad q_read q_pictured q_x q_all q_text q_saved q_undone q_told q_loud q_picture q_took q_free q_places q_which q_sent q_order q_bestOrder q_chosen q_best x1 x2 x3 _ e2, SIM_mk ⟨m, hm, hc, hA, hT, hu, hI⟩⟩
theorem sim_hits (l : Launch) (D : va_G) {K : Nat → ClassId} {hx hm : Nat} {Wc Wr : va_W} (h : SIM K hx hm Wc Wr) (x1 : Int32) :
    ∃ (v : Int32) (Wc2 Wr2 : va_W), Mi_ l yX10_hits wsX10_hits rmX10_hits D K [.ref hx, .int x1] Wc Wc2 v ∧ Mi_ l yX11_hits wsX11_hits rmX11_hits D K [.ref hm, .int x1] Wr Wr2 v ∧ SIM K hx hm Wc2 Wr2 := by
  refine SIM_el h (fun Wc Wr hx hm => ∃ (v : Int32) (Wc2 Wr2 : va_W), Mi_ l yX10_hits wsX10_hits rmX10_hits D K [.ref hx, .int x1] Wc Wc2 v ∧ Mi_ l yX11_hits wsX11_hits rmX11_hits D K [.ref hm, .int x1] Wr Wr2 v ∧ SIM K hx hm Wc2 Wr2) ?_
  intro G GR GK GT r d tx rd ho hs ring ec tk dw ch ad pl kp kr kt g q_raised q_undos q_reached q_length q_begin q_sort q_value q_word q_wrongAt q_badAt q_bad q_read q_pictured q_x q_all q_text q_saved q_undone q_told q_loud q_picture q_took q_free q_places q_which q_sent q_order q_bestOrder q_chosen q_best m hm hc hA hT hu hI
  obtain ⟨hg, hw, ht, hl⟩ := id hm
  obtain ⟨cg, cs, ct, cl, -, -⟩ := id hc
  obtain ⟨g1, g2, e1⟩ := ev_hits hg hw ht cg cs ct ec.2.1 ec.2.2.1 x1
  obtain ⟨g3, e2⟩ := ev_rhits hg hw ht hA q_raised q_loud x1
  exact ⟨_, _, _, k_X10_hits l D K G GR GK GT r d tx rd ho hs ring ec tk dw ch ad pl kp kr kt x1 _ e1, k_X11_hits l D K g q_raised q_undos q_reached q_length q_begin q_sort q_value q_word q_wrongAt q_badAt q_bad q_read q_pictured q_x q_all q_text q_saved q_undone q_told q_loud q_picture q_took q_free q_places q_which q_sent q_order q_bestOrder q_chosen q_best x1 _ e2, SIM_mk ⟨m, hm, hc, hA, hT, hu, hI⟩⟩
theorem sim_found (l : Launch) (D : va_G) {K : Nat → ClassId} {hx hm : Nat} {Wc Wr : va_W} (h : SIM K hx hm Wc Wr) (x1 : Int32) (x2 : Int32) :
    ∃ (v : Int32) (Wc2 Wr2 : va_W), Mi_ l yX10_found wsX10_found rmX10_found D K [.ref hx, .int x1, .int x2] Wc Wc2 v ∧ Mi_ l yX11_found wsX11_found rmX11_found D K [.ref hm, .int x1, .int x2] Wr Wr2 v ∧ SIM K hx hm Wc2 Wr2 := by
  refine SIM_el h (fun Wc Wr hx hm => ∃ (v : Int32) (Wc2 Wr2 : va_W), Mi_ l yX10_found wsX10_found rmX10_found D K [.ref hx, .int x1, .int x2] Wc Wc2 v ∧ Mi_ l yX11_found wsX11_found rmX11_found D K [.ref hm, .int x1, .int x2] Wr Wr2 v ∧ SIM K hx hm Wc2 Wr2) ?_
  intro G GR GK GT r d tx rd ho hs ring ec tk dw ch ad pl kp kr kt g q_raised q_undos q_reached q_length q_begin q_sort q_value q_word q_wrongAt q_badAt q_bad q_read q_pictured q_x q_all q_text q_saved q_undone q_told q_loud q_picture q_took q_free q_places q_which q_sent q_order q_bestOrder q_chosen q_best m hm hc hA hT hu hI
  obtain ⟨hg, hw, ht, hl⟩ := id hm
  obtain ⟨cg, cs, ct, cl, -, -⟩ := id hc
  obtain ⟨g1, g2, g3, e1⟩ := ev_found hg hw ht cg cs ct ec.2.1 ec.2.2.1 ec.2.2.2.1 x1 x2
  obtain ⟨g4, e2⟩ := ev_rfound hg hw ht hA q_raised q_loud x1 x2
  exact ⟨_, _, _, k_X10_found l D K G GR GK GT r d tx rd ho hs ring ec tk dw ch ad pl kp kr kt x1 x2 _ e1, k_X11_found l D K g q_raised q_undos q_reached q_length q_begin q_sort q_value q_word q_wrongAt q_badAt q_bad q_read q_pictured q_x q_all q_text q_saved q_undone q_told q_loud q_picture q_took q_free q_places q_which q_sent q_order q_bestOrder q_chosen q_best x1 x2 _ e2, SIM_mk ⟨m, hm, hc, hA, hT, hu, hI⟩⟩
theorem sim_makers (l : Launch) (D : va_G) {K : Nat → ClassId} {hx hm : Nat} {Wc Wr : va_W} (h : SIM K hx hm Wc Wr) (x1 : Int32) :
    ∃ (v : Int32) (Wc2 Wr2 : va_W), Mi_ l yX10_makers wsX10_makers rmX10_makers D K [.ref hx, .int x1] Wc Wc2 v ∧ Mi_ l yX11_makers wsX11_makers rmX11_makers D K [.ref hm, .int x1] Wr Wr2 v ∧ SIM K hx hm Wc2 Wr2 := by
  refine SIM_el h (fun Wc Wr hx hm => ∃ (v : Int32) (Wc2 Wr2 : va_W), Mi_ l yX10_makers wsX10_makers rmX10_makers D K [.ref hx, .int x1] Wc Wc2 v ∧ Mi_ l yX11_makers wsX11_makers rmX11_makers D K [.ref hm, .int x1] Wr Wr2 v ∧ SIM K hx hm Wc2 Wr2) ?_
  intro G GR GK GT r d tx rd ho hs ring ec tk dw ch ad pl kp kr kt g q_raised q_undos q_reached q_length q_begin q_sort q_value q_word q_wrongAt q_badAt q_bad q_read q_pictured q_x q_all q_text q_saved q_undone q_told q_loud q_picture q_took q_free q_places q_which q_sent q_order q_bestOrder q_chosen q_best m hm hc hA hT hu hI
  obtain ⟨hg, hw, ht, hl⟩ := id hm
  obtain ⟨cg, cs, ct, cl, -, -⟩ := id hc
  obtain ⟨g1, g2, e1⟩ := ev_makers hg hw ht cg cs ct ec.2.1 ec.2.2.1 x1
  obtain ⟨g3, e2⟩ := ev_rmakers hg hw ht hA q_raised q_loud x1
  exact ⟨_, _, _, k_X10_makers l D K G GR GK GT r d tx rd ho hs ring ec tk dw ch ad pl kp kr kt x1 _ e1, k_X11_makers l D K g q_raised q_undos q_reached q_length q_begin q_sort q_value q_word q_wrongAt q_badAt q_bad q_read q_pictured q_x q_all q_text q_saved q_undone q_told q_loud q_picture q_took q_free q_places q_which q_sent q_order q_bestOrder q_chosen q_best x1 _ e2, SIM_mk ⟨m, hm, hc, hA, hT, hu, hI⟩⟩
theorem sim_picture (l : Launch) (D : va_G) {K : Nat → ClassId} {hx hm : Nat} {Wc Wr : va_W} (h : SIM K hx hm Wc Wr) (x1 : Int32) (x2 : Int32) :
    ∃ (v : Int32) (Wc2 Wr2 : va_W), Mi_ l yX10_picture wsX10_picture rmX10_picture D K [.ref hx, .int x1, .int x2] Wc Wc2 v ∧ Mi_ l yX11_picture wsX11_picture rmX11_picture D K [.ref hm, .int x1, .int x2] Wr Wr2 v ∧ SIM K hx hm Wc2 Wr2 := by
  refine SIM_el h (fun Wc Wr hx hm => ∃ (v : Int32) (Wc2 Wr2 : va_W), Mi_ l yX10_picture wsX10_picture rmX10_picture D K [.ref hx, .int x1, .int x2] Wc Wc2 v ∧ Mi_ l yX11_picture wsX11_picture rmX11_picture D K [.ref hm, .int x1, .int x2] Wr Wr2 v ∧ SIM K hx hm Wc2 Wr2) ?_
  intro G GR GK GT r d tx rd ho hs ring ec tk dw ch ad pl kp kr kt g q_raised q_undos q_reached q_length q_begin q_sort q_value q_word q_wrongAt q_badAt q_bad q_read q_pictured q_x q_all q_text q_saved q_undone q_told q_loud q_picture q_took q_free q_places q_which q_sent q_order q_bestOrder q_chosen q_best m hm hc hA hT hu hI
  obtain ⟨hg, hw, ht, hl⟩ := id hm
  obtain ⟨cg, cs, ct, cl, -, -⟩ := id hc
  obtain ⟨c, g1, g2, g3, g4, g5, e1⟩ := ev_picture hg hw ht cg cs ct ec.1 ec.2.1 ec.2.2.1 ec.2.2.2.1 ec.2.2.2.2.1 ec.2.2.2.2.2 x1 x2
  obtain ⟨c2, h1, h2, h3, h4, e2⟩ := ev_rpicture hg hw ht hA q_raised q_pictured q_loud q_picture q_took q_free x1 x2
  exact ⟨_, _, _, k_X10_picture l D K G GR GK GT r d tx rd ho hs ring ec tk dw ch ad pl kp kr kt x1 x2 _ e1, k_X11_picture l D K g q_raised q_undos q_reached q_length q_begin q_sort q_value q_word q_wrongAt q_badAt q_bad q_read q_pictured q_x q_all q_text q_saved q_undone q_told q_loud q_picture q_took q_free q_places q_which q_sent q_order q_bestOrder q_chosen q_best x1 x2 _ e2, SIM_mk ⟨m, hm, hc, hA, hT, hu, hI⟩⟩
theorem sim_pairs (l : Launch) (D : va_G) {K : Nat → ClassId} {hx hm : Nat} {Wc Wr : va_W} (h : SIM K hx hm Wc Wr) (x1 : Int32) :
    ∃ (v : Int32) (Wc2 Wr2 : va_W), Mi_ l yX10_pairs wsX10_pairs rmX10_pairs D K [.ref hx, .int x1] Wc Wc2 v ∧ Mi_ l yX11_pairs wsX11_pairs rmX11_pairs D K [.ref hm, .int x1] Wr Wr2 v ∧ SIM K hx hm Wc2 Wr2 := by
  refine SIM_el h (fun Wc Wr hx hm => ∃ (v : Int32) (Wc2 Wr2 : va_W), Mi_ l yX10_pairs wsX10_pairs rmX10_pairs D K [.ref hx, .int x1] Wc Wc2 v ∧ Mi_ l yX11_pairs wsX11_pairs rmX11_pairs D K [.ref hm, .int x1] Wr Wr2 v ∧ SIM K hx hm Wc2 Wr2) ?_
  intro G GR GK GT r d tx rd ho hs ring ec tk dw ch ad pl kp kr kt g q_raised q_undos q_reached q_length q_begin q_sort q_value q_word q_wrongAt q_badAt q_bad q_read q_pictured q_x q_all q_text q_saved q_undone q_told q_loud q_picture q_took q_free q_places q_which q_sent q_order q_bestOrder q_chosen q_best m hm hc hA hT hu hI
  obtain ⟨hg, hw, ht, hl⟩ := id hm
  obtain ⟨cg, cs, ct, cl, -, -⟩ := id hc
  obtain ⟨g1, g2, g3, e1⟩ := ev_pairs hg hw ht cg cs ct ec.2.1 ec.2.2.1 ec.2.2.2.1 x1
  obtain ⟨g4, e2⟩ := ev_rpairs hg hw ht hA q_raised q_loud x1
  exact ⟨_, _, _, k_X10_pairs l D K G GR GK GT r d tx rd ho hs ring ec tk dw ch ad pl kp kr kt x1 _ e1, k_X11_pairs l D K g q_raised q_undos q_reached q_length q_begin q_sort q_value q_word q_wrongAt q_badAt q_bad q_read q_pictured q_x q_all q_text q_saved q_undone q_told q_loud q_picture q_took q_free q_places q_which q_sent q_order q_bestOrder q_chosen q_best x1 _ e2, SIM_mk ⟨m, hm, hc, hA, hT, hu, hI⟩⟩
theorem sim_track (l : Launch) (D : va_G) {K : Nat → ClassId} {hx hm : Nat} {Wc Wr : va_W} (h : SIM K hx hm Wc Wr) (x1 : Int32) (x2 : Int32) :
    ∃ (v : Int32) (Wc2 Wr2 : va_W), Mi_ l yX10_track wsX10_track rmX10_track D K [.ref hx, .int x1, .int x2] Wc Wc2 v ∧ Mi_ l yX11_track wsX11_track rmX11_track D K [.ref hm, .int x1, .int x2] Wr Wr2 v ∧ SIM K hx hm Wc2 Wr2 := by
  refine SIM_el h (fun Wc Wr hx hm => ∃ (v : Int32) (Wc2 Wr2 : va_W), Mi_ l yX10_track wsX10_track rmX10_track D K [.ref hx, .int x1, .int x2] Wc Wc2 v ∧ Mi_ l yX11_track wsX11_track rmX11_track D K [.ref hm, .int x1, .int x2] Wr Wr2 v ∧ SIM K hx hm Wc2 Wr2) ?_
  intro G GR GK GT r d tx rd ho hs ring ec tk dw ch ad pl kp kr kt g q_raised q_undos q_reached q_length q_begin q_sort q_value q_word q_wrongAt q_badAt q_bad q_read q_pictured q_x q_all q_text q_saved q_undone q_told q_loud q_picture q_took q_free q_places q_which q_sent q_order q_bestOrder q_chosen q_best m hm hc hA hT hu hI
  obtain ⟨hg, hw, ht, hl⟩ := id hm
  obtain ⟨cg, cs, ct, cl, -, -⟩ := id hc
  obtain ⟨a1, ha1, rfl⟩ := iI_ex x1
  obtain ⟨a2, ha2, rfl⟩ := iI_ex x2
  obtain ⟨b1, b2, b3, e1⟩ := ev_track hl cl tk.1 tk.2.1 tk.2.2 ha1 ha2
  obtain ⟨w2, e2⟩ := ev_rtrack hl hA q_raised q_which ha1 ha2
  exact ⟨_, _, _, k_X10_track l D K G GR GK GT r d tx rd ho hs ring ec tk dw ch ad pl kp kr kt (iI a1) (iI a2) _ e1, k_X11_track l D K g q_raised q_undos q_reached q_length q_begin q_sort q_value q_word q_wrongAt q_badAt q_bad q_read q_pictured q_x q_all q_text q_saved q_undone q_told q_loud q_picture q_took q_free q_places q_which q_sent q_order q_bestOrder q_chosen q_best (iI a1) (iI a2) _ e2, SIM_mk ⟨m, hm, hc, hA, hT, hu, hI⟩⟩
theorem sim_order (l : Launch) (D : va_G) {K : Nat → ClassId} {hx hm : Nat} {Wc Wr : va_W} (h : SIM K hx hm Wc Wr) (x1 : Int32) (x2 : Int32) :
    ∃ (v : Int32) (Wc2 Wr2 : va_W), Mi_ l yX10_order wsX10_order rmX10_order D K [.ref hx, .int x1, .int x2] Wc Wc2 v ∧ Mi_ l yX11_order wsX11_order rmX11_order D K [.ref hm, .int x1, .int x2] Wr Wr2 v ∧ SIM K hx hm Wc2 Wr2 := by
  refine SIM_el h (fun Wc Wr hx hm => ∃ (v : Int32) (Wc2 Wr2 : va_W), Mi_ l yX10_order wsX10_order rmX10_order D K [.ref hx, .int x1, .int x2] Wc Wc2 v ∧ Mi_ l yX11_order wsX11_order rmX11_order D K [.ref hm, .int x1, .int x2] Wr Wr2 v ∧ SIM K hx hm Wc2 Wr2) ?_
  intro G GR GK GT r d tx rd ho hs ring ec tk dw ch ad pl kp kr kt g q_raised q_undos q_reached q_length q_begin q_sort q_value q_word q_wrongAt q_badAt q_bad q_read q_pictured q_x q_all q_text q_saved q_undone q_told q_loud q_picture q_took q_free q_places q_which q_sent q_order q_bestOrder q_chosen q_best m hm hc hA hT hu hI
  obtain ⟨hg, hw, ht, hl⟩ := id hm
  obtain ⟨cg, cs, ct, cl, -, -⟩ := id hc
  obtain ⟨a1, ha1, rfl⟩ := iI_ex x1
  obtain ⟨a2, ha2, rfl⟩ := iI_ex x2
  obtain ⟨b1, b2, b3, b4, b5, b6, e1⟩ := ev_order hg hw ht cg cs ct dw.1 dw.2.1 dw.2.2.1 dw.2.2.2.1 dw.2.2.2.2.1 dw.2.2.2.2.2 ha1 ha2
  obtain ⟨c1, c2, c3, c4, e2⟩ := ev_rorder hg hw ht hA q_raised q_x q_sent q_order q_bestOrder ha1 ha2
  exact ⟨_, _, _, k_X10_order l D K G GR GK GT r d tx rd ho hs ring ec tk dw ch ad pl kp kr kt (iI a1) (iI a2) _ e1, k_X11_order l D K g q_raised q_undos q_reached q_length q_begin q_sort q_value q_word q_wrongAt q_badAt q_bad q_read q_pictured q_x q_all q_text q_saved q_undone q_told q_loud q_picture q_took q_free q_places q_which q_sent q_order q_bestOrder q_chosen q_best (iI a1) (iI a2) _ e2, SIM_mk ⟨m, hm, hc, hA, hT, hu, hI⟩⟩
theorem sim_choose (l : Launch) (D : va_G) {K : Nat → ClassId} {hx hm : Nat} {Wc Wr : va_W} (h : SIM K hx hm Wc Wr) (x1 : Int32) (x2 : Int32) (x3 : Int32) (x4 : Int32) :
    ∃ (v : Int32) (Wc2 Wr2 : va_W), Mi_ l yX10_choose wsX10_choose rmX10_choose D K [.ref hx, .int x1, .int x2, .int x3, .int x4] Wc Wc2 v ∧ Mi_ l yX11_choose wsX11_choose rmX11_choose D K [.ref hm, .int x1, .int x2, .int x3, .int x4] Wr Wr2 v ∧ SIM K hx hm Wc2 Wr2 := by
  refine SIM_el h (fun Wc Wr hx hm => ∃ (v : Int32) (Wc2 Wr2 : va_W), Mi_ l yX10_choose wsX10_choose rmX10_choose D K [.ref hx, .int x1, .int x2, .int x3, .int x4] Wc Wc2 v ∧ Mi_ l yX11_choose wsX11_choose rmX11_choose D K [.ref hm, .int x1, .int x2, .int x3, .int x4] Wr Wr2 v ∧ SIM K hx hm Wc2 Wr2) ?_
  intro G GR GK GT r d tx rd ho hs ring ec tk dw ch ad pl kp kr kt g q_raised q_undos q_reached q_length q_begin q_sort q_value q_word q_wrongAt q_badAt q_bad q_read q_pictured q_x q_all q_text q_saved q_undone q_told q_loud q_picture q_took q_free q_places q_which q_sent q_order q_bestOrder q_chosen q_best m hm hc hA hT hu hI
  obtain ⟨hg, hw, ht, hl⟩ := id hm
  obtain ⟨cg, cs, ct, cl, -, -⟩ := id hc
  obtain ⟨a1, ha1, rfl⟩ := iI_ex x1
  obtain ⟨a2, ha2, rfl⟩ := iI_ex x2
  obtain ⟨a3, ha3, rfl⟩ := iI_ex x3
  obtain ⟨a4, ha4, rfl⟩ := iI_ex x4
  obtain ⟨v, z1, z2, z3, z4, z5, z6, z7, z8, o1, o2, o3, o4, o5, e1, c1, c2⟩ := ev_choose hw cs ch.1 ch.2.1 ch.2.2.1 ch.2.2.2.1 ch.2.2.2.2.1 ch.2.2.2.2.2.1 ch.2.2.2.2.2.2.1 ch.2.2.2.2.2.2.2.1 ch.2.2.2.2.2.2.2.2.1 ch.2.2.2.2.2.2.2.2.2.1 ch.2.2.2.2.2.2.2.2.2.2.1 ch.2.2.2.2.2.2.2.2.2.2.2.1 ch.2.2.2.2.2.2.2.2.2.2.2.2 ha1 ha2 ha3 ha4
  obtain ⟨v2, p1, p2, e2, d1, d2⟩ := ev_rchoose hw hA q_raised q_chosen q_best ha1 ha2 ha3 ha4
  have hv : v2 = v := by
    by_cases h : cOK a1 a2 a3 a4
    · rw [c1 h, d1 h]
    · rw [c2 h, d2 h]
  subst hv
  exact ⟨_, _, _, k_X10_choose l D K G GR GK GT r d tx rd ho hs ring ec tk dw ch ad pl kp kr kt (iI a1) (iI a2) (iI a3) (iI a4) _ e1, k_X11_choose l D K g q_raised q_undos q_reached q_length q_begin q_sort q_value q_word q_wrongAt q_badAt q_bad q_read q_pictured q_x q_all q_text q_saved q_undone q_told q_loud q_picture q_took q_free q_places q_which q_sent q_order q_bestOrder q_chosen q_best (iI a1) (iI a2) (iI a3) (iI a4) _ e2, SIM_mk ⟨m, hm, hc, hA, hT, hu, hI⟩⟩
theorem sim_more (l : Launch) (D : va_G) {K : Nat → ClassId} {hx hm : Nat} {Wc Wr : va_W} (h : SIM K hx hm Wc Wr) (x1 : Int32) :
    ∃ (v : Int32) (Wc2 Wr2 : va_W), Mi_ l yX10_more wsX10_more rmX10_more D K [.ref hx, .int x1] Wc Wc2 v ∧ Mi_ l yX11_more wsX11_more rmX11_more D K [.ref hm, .int x1] Wr Wr2 v ∧ SIM K hx hm Wc2 Wr2 := by
  refine SIM_el h (fun Wc Wr hx hm => ∃ (v : Int32) (Wc2 Wr2 : va_W), Mi_ l yX10_more wsX10_more rmX10_more D K [.ref hx, .int x1] Wc Wc2 v ∧ Mi_ l yX11_more wsX11_more rmX11_more D K [.ref hm, .int x1] Wr Wr2 v ∧ SIM K hx hm Wc2 Wr2) ?_
  intro G GR GK GT r d tx rd ho hs ring ec tk dw ch ad pl kp kr kt g q_raised q_undos q_reached q_length q_begin q_sort q_value q_word q_wrongAt q_badAt q_bad q_read q_pictured q_x q_all q_text q_saved q_undone q_told q_loud q_picture q_took q_free q_places q_which q_sent q_order q_bestOrder q_chosen q_best m hm hc hA hT hu hI
  obtain ⟨hg, hw, ht, hl⟩ := id hm
  obtain ⟨cg, cs, ct, cl, -, -⟩ := id hc
  obtain ⟨g1, g2, g3, g4, e1⟩ := ev_more hg hw ht cg cs ct ec.2.1 ec.2.2.1 ec.2.2.2.1 ad x1
  obtain ⟨a2, g5, e2, hq⟩ := ev_rmore hg hw ht hA q_raised q_loud x1
  exact ⟨_, _, _, k_X10_more l D K G GR GK GT r d tx rd ho hs ring ec tk dw ch ad pl kp kr kt x1 _ e1, k_X11_more l D K g q_raised q_undos q_reached q_length q_begin q_sort q_value q_word q_wrongAt q_badAt q_bad q_read q_pictured q_x q_all q_text q_saved q_undone q_told q_loud q_picture q_took q_free q_places q_which q_sent q_order q_bestOrder q_chosen q_best x1 _ e2, SIM_mk ⟨m, hm, hc, fun k hk => (hq k (by omega)).trans (hA k hk), tX_c hT (fun i _ h => hq i (by omega)) (fun _ _ _ => rfl), hu, iU_c hI (fun i _ h => hq i h) (fun _ _ => rfl)⟩⟩
theorem sim_shaken (l : Launch) (D : va_G) {K : Nat → ClassId} {hx hm : Nat} {Wc Wr : va_W} (h : SIM K hx hm Wc Wr) (x1 : Int32) (x2 : Int32) :
    ∃ (v : Int32) (Wc2 Wr2 : va_W), Mi_ l yX10_shaken wsX10_shaken rmX10_shaken D K [.ref hx, .int x1, .int x2] Wc Wc2 v ∧ Mi_ l yX11_shaken wsX11_shaken rmX11_shaken D K [.ref hm, .int x1, .int x2] Wr Wr2 v ∧ SIM K hx hm Wc2 Wr2 := by
  refine SIM_el h (fun Wc Wr hx hm => ∃ (v : Int32) (Wc2 Wr2 : va_W), Mi_ l yX10_shaken wsX10_shaken rmX10_shaken D K [.ref hx, .int x1, .int x2] Wc Wc2 v ∧ Mi_ l yX11_shaken wsX11_shaken rmX11_shaken D K [.ref hm, .int x1, .int x2] Wr Wr2 v ∧ SIM K hx hm Wc2 Wr2) ?_
  intro G GR GK GT r d tx rd ho hs ring ec tk dw ch ad pl kp kr kt g q_raised q_undos q_reached q_length q_begin q_sort q_value q_word q_wrongAt q_badAt q_bad q_read q_pictured q_x q_all q_text q_saved q_undone q_told q_loud q_picture q_took q_free q_places q_which q_sent q_order q_bestOrder q_chosen q_best m hm hc hA hT hu hI
  obtain ⟨hg, hw, ht, hl⟩ := id hm
  obtain ⟨cg, cs, ct, cl, -, -⟩ := id hc
  have e1 := ev_shaken hg hw cg cs x1 x2
  have e2 := ev_rshaken hg hw hA q_raised x1 x2
  exact ⟨_, _, _, k_X10_shaken l D K G GR GK GT r d tx rd ho hs ring ec tk dw ch ad pl kp kr kt x1 x2 _ e1, k_X11_shaken l D K g q_raised q_undos q_reached q_length q_begin q_sort q_value q_word q_wrongAt q_badAt q_bad q_read q_pictured q_x q_all q_text q_saved q_undone q_told q_loud q_picture q_took q_free q_places q_which q_sent q_order q_bestOrder q_chosen q_best x1 x2 _ e2, SIM_mk ⟨m, hm, hc, hA, hT, hu, hI⟩⟩
theorem sim_dwell (l : Launch) (D : va_G) {K : Nat → ClassId} {hx hm : Nat} {Wc Wr : va_W} (h : SIM K hx hm Wc Wr) (x1 : Int32) (x2 : Int32) (x3 : Int32) (x4 : Int32) :
    ∃ (v : Int32) (Wc2 Wr2 : va_W), Mi_ l yX10_dwell wsX10_dwell rmX10_dwell D K [.ref hx, .int x1, .int x2, .int x3, .int x4] Wc Wc2 v ∧ Mi_ l yX11_dwell wsX11_dwell rmX11_dwell D K [.ref hm, .int x1, .int x2, .int x3, .int x4] Wr Wr2 v ∧ SIM K hx hm Wc2 Wr2 := by
  refine SIM_el h (fun Wc Wr hx hm => ∃ (v : Int32) (Wc2 Wr2 : va_W), Mi_ l yX10_dwell wsX10_dwell rmX10_dwell D K [.ref hx, .int x1, .int x2, .int x3, .int x4] Wc Wc2 v ∧ Mi_ l yX11_dwell wsX11_dwell rmX11_dwell D K [.ref hm, .int x1, .int x2, .int x3, .int x4] Wr Wr2 v ∧ SIM K hx hm Wc2 Wr2) ?_
  intro G GR GK GT r d tx rd ho hs ring ec tk dw ch ad pl kp kr kt g q_raised q_undos q_reached q_length q_begin q_sort q_value q_word q_wrongAt q_badAt q_bad q_read q_pictured q_x q_all q_text q_saved q_undone q_told q_loud q_picture q_took q_free q_places q_which q_sent q_order q_bestOrder q_chosen q_best m hm hc hA hT hu hI
  obtain ⟨hg, hw, ht, hl⟩ := id hm
  obtain ⟨cg, cs, ct, cl, -, -⟩ := id hc
  obtain ⟨a2, ha2, rfl⟩ := iI_ex x2
  obtain ⟨a3, ha3, rfl⟩ := iI_ex x3
  obtain ⟨a4, ha4, rfl⟩ := iI_ex x4
  obtain ⟨b1, b2, b3, b4, e1⟩ := ev_dwell hg hw ht cg cs ct dw.1 dw.2.1 dw.2.2.2.1 dw.2.2.2.2.1 x1 ha2 ha3 ha4
  obtain ⟨c1, c2, c3, e2⟩ := ev_rdwell hg hw ht hA q_raised q_x q_sent q_order x1 ha2 ha3 ha4
  exact ⟨_, _, _, k_X10_dwell l D K G GR GK GT r d tx rd ho hs ring ec tk dw ch ad pl kp kr kt x1 (iI a2) (iI a3) (iI a4) _ e1, k_X11_dwell l D K g q_raised q_undos q_reached q_length q_begin q_sort q_value q_word q_wrongAt q_badAt q_bad q_read q_pictured q_x q_all q_text q_saved q_undone q_told q_loud q_picture q_took q_free q_places q_which q_sent q_order q_bestOrder q_chosen q_best x1 (iI a2) (iI a3) (iI a4) (qw_ m x1 a2 a3 a4, 0, c1, c2, c3) e2, SIM_mk ⟨m, hm, hc, hA, hT, hu, hI⟩⟩
theorem sim_until (l : Launch) (D : va_G) {K : Nat → ClassId} {hx hm : Nat} {Wc Wr : va_W} (h : SIM K hx hm Wc Wr) (x1 : Int32) (x2 : Int32) :
    ∃ (v : Int32) (Wc2 Wr2 : va_W), Mi_ l yX10_until wsX10_until rmX10_until D K [.ref hx, .int x1, .int x2] Wc Wc2 v ∧ Mi_ l yX11_until wsX11_until rmX11_until D K [.ref hm, .int x1, .int x2] Wr Wr2 v ∧ SIM K hx hm Wc2 Wr2 := by
  refine SIM_el h (fun Wc Wr hx hm => ∃ (v : Int32) (Wc2 Wr2 : va_W), Mi_ l yX10_until wsX10_until rmX10_until D K [.ref hx, .int x1, .int x2] Wc Wc2 v ∧ Mi_ l yX11_until wsX11_until rmX11_until D K [.ref hm, .int x1, .int x2] Wr Wr2 v ∧ SIM K hx hm Wc2 Wr2) ?_
  intro G GR GK GT r d tx rd ho hs ring ec tk dw ch ad pl kp kr kt g q_raised q_undos q_reached q_length q_begin q_sort q_value q_word q_wrongAt q_badAt q_bad q_read q_pictured q_x q_all q_text q_saved q_undone q_told q_loud q_picture q_took q_free q_places q_which q_sent q_order q_bestOrder q_chosen q_best m hm hc hA hT hu hI
  obtain ⟨hg, hw, ht, hl⟩ := id hm
  obtain ⟨cg, cs, ct, cl, -, -⟩ := id hc
  obtain ⟨a1, ha1, rfl⟩ := iI_ex x1
  obtain ⟨a2, ha2, rfl⟩ := iI_ex x2
  have e1 := ev_until hg hw ht cg cs ct ha1 ha2
  obtain ⟨b2, g5, e2, hq⟩ := ev_runtil hg hw ht hA q_raised q_loud ha1 ha2
  exact ⟨_, _, _, k_X10_until l D K G GR GK GT r d tx rd ho hs ring ec tk dw ch ad pl kp kr kt (iI a1) (iI a2) _ e1, k_X11_until l D K g q_raised q_undos q_reached q_length q_begin q_sort q_value q_word q_wrongAt q_badAt q_bad q_read q_pictured q_x q_all q_text q_saved q_undone q_told q_loud q_picture q_took q_free q_places q_which q_sent q_order q_bestOrder q_chosen q_best (iI a1) (iI a2) _ e2, SIM_mk ⟨m, hm, hc, fun k hk => (hq k (by omega)).trans (hA k hk), tX_c hT (fun i _ h => hq i (by omega)) (fun _ _ _ => rfl), hu, iU_c hI (fun i _ h => hq i h) (fun _ _ => rfl)⟩⟩
theorem sim_image (l : Launch) (D : va_G) {K : Nat → ClassId} {hx hm : Nat} {Wc Wr : va_W} (h : SIM K hx hm Wc Wr) (x1 : Int32) :
    ∃ (v : Int32) (Wc2 Wr2 : va_W), Mi_ l yX10_image wsX10_image rmX10_image D K [.ref hx, .int x1] Wc Wc2 v ∧ Mi_ l yX11_image wsX11_image rmX11_image D K [.ref hm, .int x1] Wr Wr2 v ∧ SIM K hx hm Wc2 Wr2 := by
  refine SIM_el h (fun Wc Wr hx hm => ∃ (v : Int32) (Wc2 Wr2 : va_W), Mi_ l yX10_image wsX10_image rmX10_image D K [.ref hx, .int x1] Wc Wc2 v ∧ Mi_ l yX11_image wsX11_image rmX11_image D K [.ref hm, .int x1] Wr Wr2 v ∧ SIM K hx hm Wc2 Wr2) ?_
  intro G GR GK GT r d tx rd ho hs ring ec tk dw ch ad pl kp kr kt g q_raised q_undos q_reached q_length q_begin q_sort q_value q_word q_wrongAt q_badAt q_bad q_read q_pictured q_x q_all q_text q_saved q_undone q_told q_loud q_picture q_took q_free q_places q_which q_sent q_order q_bestOrder q_chosen q_best m hm hc hA hT hu hI
  obtain ⟨hg, hw, ht, hl⟩ := id hm
  obtain ⟨cg, cs, ct, cl, -, -⟩ := id hc
  obtain ⟨v, kp2, kr2, kt2, all2, tx2, sv2, e1, e2, hq1, hq2, hI2⟩ := ev_image hm hc hA hT hI q_raised x1
  exact ⟨_, _, _, k_X10_image l D K G GR GK GT r d tx rd ho hs ring ec tk dw ch ad pl kp kr kt x1 _ e1, k_X11_image l D K g q_raised q_undos q_reached q_length q_begin q_sort q_value q_word q_wrongAt q_badAt q_bad q_read q_pictured q_x q_all q_text q_saved q_undone q_told q_loud q_picture q_took q_free q_places q_which q_sent q_order q_bestOrder q_chosen q_best x1 _ e2, SIM_mk ⟨m, hm, hc, fun k hk => (hq1 k (by omega)).trans (hA k hk), tX_c hT (fun i _ h => hq1 i (by omega)) (fun i _ h => hq2 i (by omega)), hu, hI2⟩⟩
theorem sim_again (l : Launch) (D : va_G) {K : Nat → ClassId} {hx hm : Nat} {Wc Wr : va_W} (h : SIM K hx hm Wc Wr) (x1 : Int32) :
    ∃ (v : Int32) (Wc2 Wr2 : va_W), Mi_ l yX10_again wsX10_again rmX10_again D K [.ref hx, .int x1] Wc Wc2 v ∧ Mi_ l yX11_again wsX11_again rmX11_again D K [.ref hm, .int x1] Wr Wr2 v ∧ SIM K hx hm Wc2 Wr2 := by
  refine SIM_el h (fun Wc Wr hx hm => ∃ (v : Int32) (Wc2 Wr2 : va_W), Mi_ l yX10_again wsX10_again rmX10_again D K [.ref hx, .int x1] Wc Wc2 v ∧ Mi_ l yX11_again wsX11_again rmX11_again D K [.ref hm, .int x1] Wr Wr2 v ∧ SIM K hx hm Wc2 Wr2) ?_
  intro G GR GK GT r d tx rd ho hs ring ec tk dw ch ad pl kp kr kt g q_raised q_undos q_reached q_length q_begin q_sort q_value q_word q_wrongAt q_badAt q_bad q_read q_pictured q_x q_all q_text q_saved q_undone q_told q_loud q_picture q_took q_free q_places q_which q_sent q_order q_bestOrder q_chosen q_best m hm hc hA hT hu hI
  obtain ⟨hg, hw, ht, hl⟩ := id hm
  obtain ⟨cg, cs, ct, cl, -, -⟩ := id hc
  obtain ⟨v, gc2, tc2, lc2, ti2, go2, gaps2, st2, sp2, ve2, sr2, lt2, lz2, ln2, ts2, fk2, fp2, tb2, s2, u2, all2, tx2, m2, e1, e2, hm2, hc2, hA2, hT2, hu2, hI2⟩ := ev_again hm hc hA hT hI hu q_raised x1
  exact ⟨_, _, _, k_X10_again l D K G GR GK GT r d tx rd ho hs ring ec tk dw ch ad pl kp kr kt x1 _ e1, k_X11_again l D K g q_raised q_undos q_reached q_length q_begin q_sort q_value q_word q_wrongAt q_badAt q_bad q_read q_pictured q_x q_all q_text q_saved q_undone q_told q_loud q_picture q_took q_free q_places q_which q_sent q_order q_bestOrder q_chosen q_best x1 _ e2, SIM_mk ⟨m2, hm2, hc2, hA2, hT2, hu2, hI2⟩⟩
/-! ===== END ===== -/
