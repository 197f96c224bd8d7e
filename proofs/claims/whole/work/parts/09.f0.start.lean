/-! ===== BEGIN the start of both sides ===== -/
theorem ev_start : ∃ (t2 a2 : Nat → Int32), F_X11_atFirst 0 0 0 (fun _ => 0) = some (0, -1, 0, t2) ∧ F_X11_taken 0 (upd (fun _ => 0) 99 (-1)) t2 = some (0, a2) ∧ SRel r0_X5 r0_X8 0 0 (fun _ => r0_X5) (fun _ => 0) (fun _ => r0_X5) (fun _ => r0_X8) 0 a2 (fun _ => 0) (fun _ => 0) (fun _ => 0) := by
  obtain ⟨t2, e1, h1⟩ := ev_atFirst 0 0 0 (fun _ => 0)
  obtain ⟨a2, e2, h2⟩ := ev_taken 0 (upd (fun _ => 0) 99 (-1)) t2
  refine ⟨t2, a2, e1, e2, m0_, WM_0, cRd_0 _ _ _ _ _ _ _ _ (fun k hk => cy0 (f := fun j => tb_A.getD j 0) (g := fun _ => 0) hk), fun k hk => ?_, ⟨⟨0, by omega, rfl⟩, ?_, ?_, ?_, fun i _ => show (0 : Int32) = 0 &&& 255 by decide⟩, ⟨0, 0, ⟨by omega, by omega⟩, ⟨rfl, rfl, rfl⟩, fun j hj => absurd hj (by omega)⟩, fun k _ => ⟨rfl, fun h => absurd rfl h⟩⟩
  · rw [h2 k, if_pos hk]
    exact h1 k hk
  · show a2 97 = 0
    rw [h2, if_neg (by omega), upd_at, if_neg (by omega)]
  · show a2 98 = 0
    rw [h2, if_neg (by omega), upd_at, if_neg (by omega)]
  · show a2 99 = -1
    rw [h2, if_neg (by omega), upd_at, if_pos rfl]
theorem rw_rc (K : Nat → ClassId) (g : Nat → Nat) (q_raised q_undos q_reached q_length q_begin q_sort q_value : Int32) (q_word : Int64) (q_wrongAt q_badAt q_bad q_read q_pictured q_x : Int32) (q_all q_text q_saved q_undone q_told q_loud q_picture q_took q_free q_places q_which q_sent q_order q_bestOrder q_chosen q_best : Nat → Int32) :
    rc_X11 K g (q_raised, q_undos, q_reached, q_length, q_begin, q_sort, q_value, q_word, q_wrongAt, q_badAt, q_bad, q_read, q_pictured, q_x, q_all, q_text, q_saved, q_undone, q_told, q_loud, q_picture, q_took, q_free, q_places, q_which, q_sent, q_order, q_bestOrder, q_chosen, q_best) = (rwU K g q_raised q_undos q_reached q_length q_begin q_sort q_value q_word q_wrongAt q_badAt q_bad q_read q_pictured q_x q_all q_text q_saved q_undone q_told q_loud q_picture q_took q_free q_places q_which q_sent q_order q_bestOrder q_chosen q_best).flatten := rfl
theorem sim_start (K : Nat → ClassId) (u : SA_X10) (g : Nat → Nat) (t2 a2 : Nat → Int32) (h : SRel r0_X5 r0_X8 0 0 (fun _ => r0_X5) (fun _ => 0) (fun _ => r0_X5) (fun _ => r0_X8) 0 a2 (fun _ => 0) (fun _ => 0) (fun _ => 0)) :
    SIM K (u.1 0 0) (g 0) (w0_X10 K u) (rc_X11 K g (0, 0, 0, 0, 0, 0, 0, 0, 0, -1, 0, 0, 0, 0, a2, (fun _ => 0), (fun _ => 0), (fun _ => 0), t2, (fun _ => 0), (fun _ => 0), (fun _ => 0), (fun _ => 0), (fun _ => 0), (fun _ => 0), (fun _ => 0), (fun _ => 0), (fun _ => 0), (fun _ => 0), (fun _ => 0))) := by
  rw [rw_rc]
  exact SIM_mk h
/-! ===== END ===== -/
