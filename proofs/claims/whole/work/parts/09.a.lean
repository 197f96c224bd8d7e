/-! ===== BEGIN a method's row over a greater world ===== -/
theorem Met_cs {l : Launch} {y : MethodName} {ws : List Cond} {rm : Room} {Pc Pc' : Array Value → State → Prop} {Qc Qc' : Array Value → State → Outcome → State → Prop} {mc ms : Nat} {free free' : Addr → Prop}
    (h : Met l y ws rm Pc Qc mc ms free) (hP : ∀ a s, Pc' a s → Pc a s) (hQ : ∀ a s o t, Pc' a s → Qc a s o t → Qc' a s o t) (hf : ∀ q, free q → free' q) : Met l y ws rm Pc' Qc' mc ms free' := by
  intro p e h1 h2 h3 s m args below h4 h5 h6 h7
  obtain ⟨n, o, a1, a2, a3, a4, L, a5, a6⟩ := h p e h1 h2 h3 s m args below h4 h5 (hP _ _ h6) h7
  exact ⟨n, o, a1, a2, a3, hQ _ _ _ _ h6 a4, L, a5, fun q hq => hf _ (a6 q hq)⟩
theorem ST_.nar {K : Nat → ClassId} {A B : Nat → Prop} {U : State} (hAB : ∀ q, B q → A q) (h : ST_ K A U U.heap) : ST_ K B U U.heap := by
  obtain ⟨h1, h2, h3, h4, ⟨h5, h6⟩, h7, h8, h9, h10⟩ := h
  have hvm := Vm.Alike.refl U.vm
  exact ⟨h1, h2.go hvm (fun _ _ _ => rfl) hAB, h3.go hvm (fun _ _ _ => rfl) hAB, h4.go hvm (fun _ _ _ => rfl) hAB, ⟨h5.narrow hAB, h6⟩, h7.narrow hAB, h8.narrow hAB, h9.narrow hAB, h10.narrow hAB⟩
theorem mo_A {w0 wc wr : va_W} {sz : Nat} (hp : w0.Perm (wc ++ wr)) : ∀ q, va_A wc sz q → va_A w0 sz q := by
  intro q h
  rcases h with ⟨k, e, h⟩ | h
  · obtain ⟨k2, hk2⟩ := List.getElem?_of_mem (hp.mem_iff.mpr (List.mem_append_left _ (List.mem_of_getElem? h)))
    exact Or.inl ⟨k2, e, hk2⟩
  · exact Or.inr h
section FRM
variable {l : Launch} {y : MethodName} {ws : List Cond} {rm : Room} {D : va_G} {K : Nat → ClassId} {avs : List Value} {wc w1 w0 wn wr : va_W}
theorem fr_0 {sz : Nat} (hp : w0.Perm (wc ++ wr)) : ∀ a s, va_Pc avs (Bp_ D K w0 sz) a s → va_Pc avs (Bp_ D K wc sz) a s := by
  rintro a s ⟨h0, h1, h2, h3, h4, h5⟩
  refine ⟨h0, h1, pm_P.mpr (fun q hq => pm_P.mp (pr_P hp h2) q (List.mem_append_left _ hq)), h3, ?_, h5.nar (mo_A hp)⟩
  have h := pm_D.mp (pr_D hp h4)
  rw [List.map_append, List.nodup_append] at h
  exact pm_D.mpr ⟨h.1.1, fun q hq => trivial⟩
theorem fr_1 {sz : Nat} {a : Array Value} {s t : State} (hp : w0.Perm (wc ++ wr)) (hn : wn.Perm (w1 ++ wr)) (h : va_Pc avs (Bp_ D K w0 sz) a s) (hB : Bq_ D K (va_A wc sz) w1 () t) (hF : va_F (va_A wc sz) s t) : Bq_ D K (va_A w0 sz) wn () t ∧ va_F (va_A w0 sz) s t := by
  obtain ⟨h0, h1, h2, h3, h4, h5⟩ := h
  obtain ⟨g1, g2, g3⟩ := hB
  obtain ⟨f1, f2⟩ := hF
  subst h1
  obtain ⟨k1, k2⟩ := gj_ hp h2 h4.self f2 (mo_A hp) g1 g3
  have hn2 : (wr ++ w1).Perm wn := List.perm_append_comm.trans hn.symm
  exact ⟨⟨pr_P hn2 k1, g2, pr_D hn2 k2⟩, f1, fun q a b => f2 q a (fun c => b (mo_A hp q c))⟩
theorem fr_i {r : Int32} (h : Mi_ l y ws rm D K avs wc w1 r) (hp : w0.Perm (wc ++ wr)) (hn : wn.Perm (w1 ++ wr)) : Mi_ l y ws rm D K avs w0 wn r := by
  intro sz
  refine Met_cs (h sz) (fr_0 hp) ?_ (mo_A hp)
  rintro a s o t hP ⟨⟨r1, u, e1, e2, g⟩, f⟩
  obtain ⟨k1, k2⟩ := fr_1 hp hn hP g f
  exact ⟨⟨r1, u, e1, e2, k1⟩, k2⟩
theorem fr_v (h : Mv_ l y ws rm D K avs wc w1) (hp : w0.Perm (wc ++ wr)) (hn : wn.Perm (w1 ++ wr)) : Mv_ l y ws rm D K avs w0 wn := by
  intro sz
  refine Met_cs (h sz) (fr_0 hp) ?_ (mo_A hp)
  rintro a s o t hP ⟨⟨u, e1, e2, g⟩, f⟩
  obtain ⟨k1, k2⟩ := fr_1 hp hn hP g f
  exact ⟨⟨u, e1, e2, k1⟩, k2⟩
theorem fr_s {r : Int32} {sg sg' X : List va_W} {isC isR : List Nat} {n : Nat} (h : Mi_ l y ws rm D K avs wc w1 r) (hn : sg.length = n) (hn' : sg'.length = n) (hp : (isC ++ isR).isPerm (List.range n) = true) (hC : (isC.map (fun i => sg.getD i [])).flatten = wc) (hC' : (isC.map (fun i => sg'.getD i [])).flatten = w1) (hR' : isR.map (fun i => sg'.getD i []) = X) (hR : isR.map (fun i => sg.getD i []) = X) : Mi_ l y ws rm D K avs sg.flatten sg'.flatten r := by
  refine fr_i h (sp_ hn hp hC) ?_
  have h2 := sp_ hn' hp hC'
  rw [hR', ← hR] at h2
  exact h2
end FRM
/-! ===== END ===== -/
