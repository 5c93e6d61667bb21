-- EXCEPTIONS: what they need stays true
section TH2
theorem ff_vm {s U : State} (hv : U.vm = s.vm) (a b c : String) : U.fieldFound? a b c = s.fieldFound? a b c := by
  simp only [State.fieldFound?, hv]
theorem lays_mv {s U : State} {C n d : String} {a : Array Value} (hv : U.vm = s.vm) (hh : ∀ (a : Nat) (cell : Cell), s.heap[a]? = some cell → cell.vm.isStatics = true → U.heap[a]? = some cell) (h : (Cond.laysStatic C n d).before a s = true) : (Cond.laysStatic C n d).before a U = true := by
  obtain ⟨c, k, i, f, b, cell, hc, hf, hst, hb, hcell, his, hcl, hlt, hty⟩ := Cond.laysStatic_spec (args := a) (first := s) (o := none) (s := s) (idx := []) h
  have hf' : U.fieldFound? C n d = some (c, k, i, f) := by rw [ff_vm hv]; exact hf
  have hc' : U.vm.findClass C = some c := by rw [hv]; exact hc
  have hb' := hh b cell hcell his
  simp only [Cond.before, Cond.holds, Cond.value, hc, hf, hb, hcell, Option.bind_some] at h
  simp only [Cond.before, Cond.holds, Cond.value, hc', hf', hb, hb', Option.bind_some]
  exact h
theorem isr_mv {s U : State} {C n d : String} {a : Array Value} (hv : U.vm = s.vm) (hh : ∀ (a : Nat) (cell : Cell), s.heap[a]? = some cell → cell.vm.isStatics = true → U.heap[a]? = some cell) (hl : (Cond.laysStatic C n d).before a s = true) (h : (Cond.isRef (.static C n d)).before a s = true) : (Cond.isRef (.static C n d)).before a U = true := by
  obtain ⟨c, k, i, f, b, cell, hc, hf, hst, hb, hcell, his, hcl, hlt, hty⟩ := Cond.laysStatic_spec (args := a) (first := s) (o := none) (s := s) (idx := []) hl
  have hf' : U.fieldFound? C n d = some (c, k, i, f) := by rw [ff_vm hv]; exact hf
  have hb' := hh b cell hcell his
  have e : ∀ (S : State), S.fieldFound? C n d = some (c, k, i, f) → S.heap[b]? = some cell → (Term.static C n d).eval a S none [] S = cell.slots[f.slot]? := fun S h1 h2 => by
    simp [Term.eval, State.fieldNamed?, h1, hst, hb, h2, his]
  simp only [Cond.before, Cond.holds, Cond.value, e s hf hcell] at h
  simp only [Cond.before, Cond.holds, Cond.value, e U hf' hb']
  exact h
theorem dec_mv {s U : State} {x : MethodName} {a : Array Value} (hv : U.vm = s.vm) (h : (Cond.declares x).before a s = true) : (Cond.declares x).before a U = true := by
  simp only [Cond.before, Cond.holds, Cond.value, State.methodNamed?, hv] at h ⊢
  exact h
theorem str_mv {s U : State} {own tx : String} {k : Nat} {a : Array Value} (hv : U.vm = s.vm) (h : (Cond.stringRef own k tx).before a s = true) : (Cond.stringRef own k tx).before a U = true := by
  simp only [Cond.before, Cond.holds, Cond.value, State.names, State.poolOf?, State.resolvedAt?, hv] at h ⊢
  exact h
theorem nc_mv {s U : State} {C E : String} {a : Array Value} (hv : U.vm = s.vm) (h : (Cond.not (.castable C E)).before a s = true) : (Cond.not (.castable C E)).before a U = true := by
  simp only [Cond.before, Cond.holds, Cond.value, hv] at h ⊢
  exact h
theorem EX_same {s U : State} (hv : U.vm = s.vm) (hh : ∀ (a : Nat) (cell : Cell), s.heap[a]? = some cell → cell.vm.isStatics = true → U.heap[a]? = some cell) (h : hv_EX s) : hv_EX U := by
  intro a w hw
  have h1 := h a
  simp only [exW, List.mem_cons, List.not_mem_nil, or_false] at hw
  rcases hw with rfl | rfl | rfl | rfl | rfl | rfl | rfl | rfl | rfl | rfl | rfl | rfl | rfl
  · exact lays_mv hv hh (h1 _ (by simp [exW]))
  · exact lays_mv hv hh (h1 _ (by simp [exW]))
  · exact isr_mv hv hh (h1 (.laysStatic Bundle.tN "UNASSIGNED_STACK" Bundle.steD) (by simp [exW])) (h1 _ (by simp [exW]))
  · exact isr_mv hv hh (h1 (.laysStatic Bundle.tN "SUPPRESSED_SENTINEL" Bundle.listD) (by simp [exW])) (h1 _ (by simp [exW]))
  · exact dec_mv hv (h1 _ (by simp [exW]))
  · exact dec_mv hv (h1 _ (by simp [exW]))
  · exact dec_mv hv (h1 _ (by simp [exW]))
  · exact str_mv hv (h1 _ (by simp [exW]))
  · exact str_mv hv (h1 _ (by simp [exW]))
  · exact str_mv hv (h1 _ (by simp [exW]))
  · exact str_mv hv (h1 _ (by simp [exW]))
  · exact str_mv hv (h1 _ (by simp [exW]))
  · exact nc_mv hv (h1 _ (by simp [exW]))
theorem nc_warm {s : State} {vm' : Vm} {C E : String} {a : Array Value} (hW : s.WarmedH vm') (h : (Cond.not (.castable C E)).before a s = true) : (Cond.not (.castable C E)).before a (s.setVm vm') = true := by
  have e1 : ∀ x, vm'.findClass x = s.vm.findClass x := fun x => hW.alike.findClass x none
  have e2 : ∀ x y, vm'.assignable x y = s.vm.assignable x y := fun x y => hW.alike.assignable x y
  simp only [Cond.before, Cond.holds, Cond.value, State.setVm, e1, e2] at h ⊢
  exact h
theorem exW_face : ∀ w ∈ exW, w.keepsFace = true ∨ (∃ i t, w = .stringRef "NetworkOrders" i t) ∨ ∃ C E, w = .not (.castable C E) := by
  intro w hw
  simp only [exW, List.mem_cons, List.not_mem_nil, or_false] at hw
  rcases hw with rfl | rfl | rfl | rfl | rfl | rfl | rfl | rfl | rfl | rfl | rfl | rfl | rfl
  all_goals first | exact Or.inr (Or.inl ⟨_, _, rfl⟩) | exact Or.inr (Or.inr ⟨_, _, rfl⟩) | exact Or.inl (by decide +kernel)
theorem EX_warm {s : State} {vm' : Vm} (hW : s.WarmedH vm') (h : hv_EX s) : hv_EX (s.setVm vm') := fun a w hw => by
  rcases exW_face w hw with q | ⟨i, t, rfl⟩ | ⟨C, E, rfl⟩
  · exact Cond.rides hW.wide q (h a w hw)
  · exact Cond.stringRef_warmed hW (h a _ hw)
  · exact nc_warm hW (h a _ hw)
theorem EX_at {s U : State} {A : Nat → Prop} (hW : s.WarmedH U.vm) (hns : hv_ns s A) (hk : ∀ q : Nat, q < s.heap.size → ¬ A q → U.heap[q]? = s.heap[q]?) (h : hv_EX s) : hv_EX U :=
  EX_same (s := s.setVm U.vm) rfl (fun q cell hc his => by
    have hc : s.heap[q]? = some cell := hc
    rw [hk q (Array.getElem?_eq_some_iff.mp hc).1 (fun z => by rw [hns q z cell hc] at his; cases his)]
    exact hc) (EX_warm hW h)
theorem EX_calling {U : State} {g : JFrame} {mk : MethodId} {a : Array Value} (h : hv_EX U) : hv_EX (U.calling g mk a) := EX_same (s := U) rfl (fun _ _ hc _ => hc) h
/-- none of a world's cells holds statics -/
theorem ns_of {D : hv_D} {h : hv_P} {nx : Nat} {U : State} (hat : hv_at D h U.heap) (hsz : U.heap.size = nx) : hv_ns U (hv_dom h nx) := by
  intro q hq cell hc
  rcases hq with ⟨e, he⟩ | hq
  · have z := hat q e he
    cases e with
    | inl a =>
      obtain ⟨k, n, b⟩ := a
      have z : U.heap[q]? = some (vp_cell (D.2.2 k) (n, hv_a b)) := z
      rw [hc] at z
      cases Option.some.inj z
      rcases b with f | f | f <;> rfl
    | inr o =>
      obtain ⟨r, -, cell', q1, -, q2, -⟩ := z
      have q1 : U.heap[q]? = some cell' := q1
      rw [hc] at q1
      cases Option.some.inj q1
      rw [q2]
      rfl
  · have := (Array.getElem?_eq_some_iff.mp hc).1
    omega
end TH2
