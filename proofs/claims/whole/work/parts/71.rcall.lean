-- CALLS of methods that may throw, where they return
section HVR
variable {l : Launch} {D : hv_D} {M : hv_M} {X : State → (Nat → Prop) → Prop} {rm : Room} {Q : hv_R → hv_P → Nat → Prop} {bc bs : Nat} {h : hv_P} {nx pc : Nat} {lv : List (Option Value)} {st : List Value}
variable {M' : hv_M} {rm' : Room} {idx n : Nat} {As rest : List Value} {Q' : hv_R → hv_P → Nat → Prop}
/-- from the state in which the callee is entered on: it returns, and the caller goes on -/
theorem hv_back {p : Program} {e : Env} {R : Room} {s : State} {m : MethodId} {args : Array Value} {below : List Frame} {meth : Method} {c : Code} {A : Nat → Prop} {H : Heap} {locs : List Loc} {cells slots : Nat} {ls : Array Slot} {vs : List Value} {ws : List Cond} (hC : hv_C D M X rm p R s m args meth c A) (hW : hv_W D h nx A s H locs) (hb : cells + bc ≤ rm.cells ∧ slots + bs ≤ rm.slots) (hl : hv_L ls M.2.2.1 lv) (hX : hv_EX s ∧ hv_ns s A)
    {ig : Instr} (hd : decode M.2.1 pc = .ok (ig, 3)) (hN : hv_NT l D M' ws rm' vs h nx Q') (hret : ∀ r h' n', Q' r h' n' → ∃ v, r = .inl v) (hrm : (rest.map fun v => v.category).sum ≤ 8) (hdd : rm'.frames + 1 ≤ rm.frames) (hml : 19 + M'.2.2.1 + rm'.locals ≤ rm.locals) (hmc : rm'.cells ≤ bc) (hms : rm'.slots ≤ bs)
    (hws : ∀ w ∈ ws, ∀ (a' : Array Value) (V : State), s.WarmedH V.vm → w.before a' V = true) {mk : MethodId} (hnamed : s.methodNamed? M'.1 = some mk) (b1 : Cond.initialized M'.1.cls ∈ hv_tbl)
    (hY : ∀ (V : State), s.WarmedH V.vm → ∀ mk, V.methodNamed? M'.1 = some mk → ∃ methY cY, V.vm.method? mk = some methY ∧ methY.code = some cY ∧ cY.maxLocals = M'.2.2.1)
    {T : State} (hT : T.heap = H) {vm₁ : Vm} (X₁ : Stand p l e R s m args below meth c (T.setVm vm₁) locs cells slots)
    (k : ∀ (v : Option Value) (h' : hv_P) (nx' : Nat), Q' (.inl v) h' nx' → hv_V l D M X rm Q (bc - rm'.cells) (bs - rm'.slots) h' nx' (pc + 3) lv (v.toList ++ rest)) :
    ∃ t, Steps p.tables e below (doInvoke e ((T.setVm vm₁).setTop (F0 m pc ls rest)) [] mk vs.toArray).1 t ∧ hv_Z D Q below args s rm.cells rm.slots A t := by
  have hr := hC.room
  obtain ⟨w1, w2, w3, w4⟩ := hW
  have hE1 : hv_EX (T.setVm vm₁) := EX_at X₁.warmed hX.2 (fun q h1 h2 => by show T.heap[q]? = _; rw [hT]; exact w3.2.1 q h1 h2) hX.1
  obtain ⟨o, t, hsteps, hend, ⟨⟨r, h', ho, hq, hat, hdom⟩, hz, hk⟩, L, ⟨hWt, hst⟩, hLd⟩ := run_callee X₁ (maxL := M'.2.2.1) hN hws
    (fun mk' hn' => hY _ X₁.warmed mk' hn') (fun a' V hV => word_at hV (lw_good _ b1) (hC.word _ b1))
    (g := F0 m pc ls rest) rfl (by rw [hC.maxL]; exact hl.1) (by rw [hC.2.1]; exact hd) (lv_room hrm) (X₁.named hnamed) vs.toArray (by omega) (by omega) (by omega) (by omega)
    ⟨hv_blind _ _ _ _ ⟨rfl, by show T.heap.size = _; rw [hT]; exact w2, by show hv_at D h T.heap; rw [hT]; exact w1, hv_K.moved X₁.warmed hC.K hv_nest_ok⟩, EX_calling hE1⟩
  obtain ⟨v, rfl⟩ := hret _ _ _ hq
  have ho : o = .returned v := ho
  subst ho
  obtain ⟨T', X', hWT, hsm, ht⟩ := X₁.outOf (g := F0 m pc ls rest) rfl (by rw [hC.2.1]; exact hd) hend hWt hst
  have hth : t.heap = T'.heap := by rw [ht]; simp [State.setTop, State.modifyTopJava]
  have hsub : ∀ q, hv_dom h nx q → A q := by
    rintro q (⟨e', he⟩ | hq')
    · exact w4 q e' he
    · exact hC.inA q (Nat.le_trans w3.1 (by omega))
  have hz : T.heap.size ≤ t.heap.size := hz
  have hk : ∀ q : Nat, q < T.heap.size → ¬ hv_dom h nx q → t.heap[q]? = T.heap[q]? := hk
  rw [hth] at hq hat hz hk
  have hW' : hv_W D h' T'.heap.size A s T'.heap (locs ++ L) := ⟨hat, rfl, ⟨Nat.le_trans w3.1 (by rw [← hT]; exact hz), fun q h1 h2 => by
    rw [hk q (by rw [hT]; exact Nat.lt_of_lt_of_le h1 w3.1) (fun z => h2 (hsub q z)), hT]
    exact w3.2.1 q h1 h2, fun q hq' => by
    rcases List.mem_append.mp hq' with z | z
    · exact w3.2.2 q z
    · exact hsub _ (hLd q z)⟩, fun a e' ha => hsub a (hdom a e' ha)⟩
  obtain ⟨t2, a1, b2⟩ := k v h' _ hq p e R s m args below meth c A T'.heap (locs ++ L) _ _ ls hC hW' ⟨by omega, by omega⟩ hl T' rfl X'
  refine ⟨t2, hsteps.trans ?_, b2⟩
  rw [ht]
  exact a1
theorem V_vR {b ci N : Nat} {Ty : u_T} {fs : List Value} (hX : ∀ s A, X s A → hv_EX s ∧ hv_ns s A) (hd : decode M.2.1 pc = .ok (.invokevirtual idx, 3)) (hL : hv_mL M.1.cls idx M') (hB : hv_mB M' n) (hi : Cond.instanceMethod M'.1 ∈ hv_tbl) (hse : Cond.selects M'.1.cls M'.1 M'.1 ∈ hv_tbl) (hci : vwCl[ci]? = some (M'.1.cls, Ty, N)) (hob : h b = some (eO ci fs)) (hN : hv_NT l D M' (hv_ws M') rm' (.ref b :: As) h nx Q') (hret : ∀ r h' n', Q' r h' n' → ∃ v, r = .inl v) (hst : st = As.reverse ++ .ref b :: rest) (hn : As.length = n) (hrm : Nat.ble (rest.map fun v => v.category).sum 8 = true) (hdd : Nat.ble (rm'.frames + 1) rm.frames = true) (hml : Nat.ble (19 + M'.2.2.1 + rm'.locals) rm.locals = true) (hmc : rm'.cells ≤ bc) (hms : rm'.slots ≤ bs)
    (k : ∀ (v : Option Value) (h' : hv_P) (nx' : Nat), Q' (.inl v) h' nx' → hv_V l D M X rm Q (bc - rm'.cells) (bs - rm'.slots) h' nx' (pc + 3) lv (v.toList ++ rest)) : hv_V l D M X rm Q bc bs h nx pc lv st := by
  intro p e R s m args below meth c A H locs cells slots ls hC hW hb hl T hT X₀
  subst hst
  have hXE := hX s A hC.ext
  obtain ⟨b1, b2, b3, b4⟩ := hB
  obtain ⟨cellB, hcB, hoB, hclB⟩ := va_recv hC.K.va (hv_one hW.1 hob) (ci := ci) (q0 := 0) hci rfl
  obtain ⟨mk, methM, hnamed, hmethM, hstM, habM⟩ := Cond.instanceMethod_spec (hC.word _ hi)
  obtain ⟨methM', cM, hmethM', -, -, -, -, -, -, hsigM⟩ := Cond.code_spec hnamed (hC.word _ b2)
  cases hmethM.symm.trans hmethM'
  obtain ⟨c2, r2, m2, q1, q2, q3, q4, kP, hkP, hkPi⟩ := Cond.selects_spec (hC.word _ hse)
  cases hclB.symm.trans q1
  cases (State.methodFound?_of_named hnamed b3).symm.trans q2
  cases hnamed.symm.trans q3
  have hselP : selectMethod e.platform s.vm cellB.cls mk = .method mk := by rw [Launch.admits_selectMethod X₀.admits]; exact q4
  have inv : ∃ vm₁, Stand p l e R s m args below meth c (T.setVm vm₁) locs cells slots ∧ ∀ target, (∀ acts, Steps p.tables e below (doInvoke e ((T.setVm vm₁).setTop (F0 m pc ls rest)) acts mk (Value.ref b :: As).toArray).1 target) → Steps p.tables e below (T.setTop (F0 m pc ls (As.reverse ++ .ref b :: rest))) target := by
    rcases hL with hL | ⟨host, hL⟩
    · exact X₀.invokevirtual hC.1 hC.own (hC.word _ hL) hnamed hmethM hstM hkP hkPi b3 (a := b) (cell := cellB) (by rw [hT]; exact hcB)
        (fun z h => by rw [h] at hoB; cases hoB) hselP hmethM habM hkP hkPi (g := F0 m pc ls (As.reverse ++ .ref b :: rest)) rfl (argsL := As) (rest := rest) (hn.trans (hv_n b4 _ hsigM)) rfl (by rw [hC.2.1]; exact hd)
    · exact X₀.invokevirtualNest hC.1 hC.own (va_Nw.use rfl (hC.K.2.2.1 _ hL)) hnamed hmethM hstM hkP hkPi b3 (a := b) (cell := cellB) (by rw [hT]; exact hcB)
        (fun z h => by rw [h] at hoB; cases hoB) hselP hmethM habM hkP hkPi (g := F0 m pc ls (As.reverse ++ .ref b :: rest)) rfl (argsL := As) (rest := rest) (hn.trans (hv_n b4 _ hsigM)) rfl (by rw [hC.2.1]; exact hd)
  obtain ⟨vm₁, X₁, st1⟩ := inv
  obtain ⟨t, a1, z⟩ := hv_back hC hW hb hl hXE hd hN hret (Nat.le_of_ble_eq_true hrm) (Nat.le_of_ble_eq_true hdd) (Nat.le_of_ble_eq_true hml) hmc hms (hv_pays hC.word b2) hnamed b1
    (fun V hV mk' hn' => by
      obtain ⟨my, cy, y1, y2, -, y4, -⟩ := Cond.code_spec hn' (hv_pays hC.word b2 _ List.mem_cons_self args _ hV)
      exact ⟨my, cy, y1, y2, y4⟩) hT X₁ k
  exact ⟨t, st1 _ (fun acts => by rw [doInvoke_state]; exact a1), z⟩
theorem V_sW {hs : List (Nat × Nat × Nat × Nat)} (hX : ∀ s A, X s A → hv_EX s ∧ hv_ns s A) (hd : decode M.2.1 pc = .ok (.invokestatic idx, 3)) (hL : Cond.methodLink M.1.cls idx M'.1 ∈ hv_tbl) (b1 : Cond.initialized M'.1.cls ∈ hv_tbl) (b2 : Cond.codeWith M'.1 M'.2.1 M'.2.2.1 M'.2.2.2 hs ∈ hv_tbl) (b3 : M'.1.cls ≠ "java/lang/invoke/MethodHandle" ∧ M'.1.cls ≠ "java/lang/invoke/VarHandle") (b4 : (parseMethodDescriptor M'.1.desc).map (fun d => d.parameters.length) = some n) (hsta : Cond.static M'.1 ∈ hv_tbl) (hN : hv_NT l D M' (hv_wsW M' hs) rm' As h nx Q') (hret : ∀ r h' n', Q' r h' n' → ∃ v, r = .inl v) (hst : st = As.reverse ++ rest) (hn : As.length = n) (hrm : Nat.ble (rest.map fun v => v.category).sum 8 = true) (hdd : Nat.ble (rm'.frames + 1) rm.frames = true) (hml : Nat.ble (19 + M'.2.2.1 + rm'.locals) rm.locals = true) (hmc : rm'.cells ≤ bc) (hms : rm'.slots ≤ bs)
    (k : ∀ (v : Option Value) (h' : hv_P) (nx' : Nat), Q' (.inl v) h' nx' → hv_V l D M X rm Q (bc - rm'.cells) (bs - rm'.slots) h' nx' (pc + 3) lv (v.toList ++ rest)) : hv_V l D M X rm Q bc bs h nx pc lv st := by
  intro p e R s m args below meth c A H locs cells slots ls hC hW hb hl T hT X₀
  subst hst
  have hXE := hX s A hC.ext
  obtain ⟨mk, methM, cM, hnamed, hmethM, -, -, -, -, -, -, hsigM⟩ := Cond.codeWith_spec (hC.word _ b2)
  have hstatic : methM.isStatic = true := Cond.static_spec hnamed hmethM (hC.word _ hsta)
  obtain ⟨kP, hkP, -⟩ := className_of_methodNamed hnamed
  have hinitP : kP.init = .initialized := Cond.initialized_spec (findClass_of_methodNamed hnamed) hkP (hC.word _ b1)
  obtain ⟨vm₁, X₁, st1⟩ := X₀.invokestatic hC.1 hC.own (hC.word _ hL) hnamed hmethM hstatic hkP hinitP b3 (g := F0 m pc ls (As.reverse ++ rest)) rfl (argsL := As) (rest := rest) (hn.trans (hv_n b4 _ hsigM)) rfl (by rw [hC.2.1]; exact hd)
  have hws : ∀ w ∈ hv_wsW M' hs, ∀ (a' : Array Value) (V : State), s.WarmedH V.vm → w.before a' V = true := fun w hw a' V hV => by
    have hw' : w ∈ hv_tbl := by
      rcases List.mem_cons.mp hw with z | z
      · rw [z]; exact b2
      · exact z
    exact word_at hV (lw_good w hw') (hC.word w hw')
  obtain ⟨t, a1, z⟩ := hv_back hC hW hb hl hXE hd hN hret (Nat.le_of_ble_eq_true hrm) (Nat.le_of_ble_eq_true hdd) (Nat.le_of_ble_eq_true hml) hmc hms hws hnamed b1
    (fun V hV mk' hn' => by
      obtain ⟨m9, my, cy, z1, y1, y2, -, y4, -⟩ := Cond.codeWith_spec (hws _ List.mem_cons_self args V hV)
      cases Option.some.inj (z1.symm.trans hn')
      exact ⟨my, cy, y1, y2, y4⟩) hT X₁ k
  exact ⟨t, st1 _ (fun acts => by rw [doInvoke_state]; exact a1), z⟩
end HVR
