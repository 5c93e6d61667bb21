-- CALLS that throw
def hv_NT (l : Launch) (D : hv_D) (M : hv_M) (ws : List Cond) (rm : Room) (As : List Value) (h : hv_P) (nx : Nat) (Q : hv_R → hv_P → Nat → Prop) : Prop :=
  MetFree l M.1 (headSpec ws rm) (fun v U => hv_Pc D As h nx v U ∧ hv_EX U) (fun _ _ _ _ _ => True) (fun a st o t => hv_Q D Q (hv_dom h nx) a st o t ∧ hv_Fr st t rm.cells rm.slots (hv_dom h nx))
def hv_XN (s : State) (A : Nat → Prop) : Prop := (hv_EX s ∧ hv_ns s A) ∧ hv_nh s
theorem hv_NT.of {l : Launch} {D : hv_D} {M : hv_M} {rm : Room} {As : List Value} {h : hv_P} {nx : Nat} {Q : hv_R → hv_P → Nat → Prop} (lv : List (Option Value)) (hy : plainFor M.1 = true) (hlv : hv_ent As M.2.2.1 = lv) (hle : Nat.ble lv.length M.2.2.1 = true) (hls : Nat.ble (lg_sl As).length M.2.2.1 = true) (k : hv_V l D M hv_XN rm Q rm.cells rm.slots h nx 0 lv []) : hv_NT l D M (hv_ws M) rm As h nx Q := by
  have hle := Nat.le_of_ble_eq_true hle
  have hls := Nat.le_of_ble_eq_true hls
  refine MetFree.of_bodySF (code := M.2.1) (maxLocals := M.2.2.1) (ret := M.2.2.2) hy ?_ ?_
  · intro args s m h hn
    obtain ⟨meth, c, h1, h2, h3, h4, h5, h6, -, -⟩ := Cond.code_spec hn (atoms_spec (ws := hv_ws M) h _ List.mem_cons_self)
    exact ⟨meth, c, h1, h2, h3, h4, h5, h6⟩
  · intro p e s m args below meth c s₁ B hml hP _
    obtain ⟨⟨rfl, hsz, hat, hK⟩, hE⟩ := hP
    have hh0 : s₁.heap = s.heap := by rw [B.state]; rfl
    have hts := atoms_spec (ws := hv_ws M) B.pre
    have X0 := Stand.of_body B
    have hnh : hv_nh s := by
      intro m' args' below' meth' c' hf hm hc
      have e1 := hf.symm.trans X0.frames
      simp only [List.cons.injEq, Frame.invoking.injEq] at e1
      obtain ⟨⟨rfl, -⟩, -⟩ := e1
      cases Option.some.inj (hm.symm.trans X0.method)
      cases Option.some.inj (hc.symm.trans X0.code)
      exact B.noHandlers (hts _ List.mem_cons_self)
    have hC : hv_C D M hv_XN rm p rm s m As.toArray meth c (hv_dom h nx) :=
      ⟨B.exec, B.bytes, B.returns, hml, findClass_of_methodNamed B.named, fun w hw => hts w (List.mem_cons_of_mem _ hw), B.notSynchronized, (name_of_methodNamed B.named B.method).1, hK, fun q hq => Or.inr (by omega), ⟨Nat.le_refl _, Nat.le_refl _, Nat.le_refl _, Nat.le_refl _⟩, ⟨⟨hE, ns_of hat hsz⟩, hnh⟩⟩
    have hl0 := lv_entry As (n := M.2.2.1) hls
    have hL : hv_L ((lg_sl As ++ List.replicate (M.2.2.1 - (lg_sl As).length) Slot.unset).toArray) M.2.2.1 lv := ⟨hl0.1, hle, hl0.2.1, fun i v hi => hl0.2.2 (i, v) (by have := hv_ent_mem As M.2.2.1 0 i v (by rw [hlv]; exact hi); simpa using this)⟩
    have K := k p e rm s m As.toArray below meth c (hv_dom h nx) s.heap [] 0 0 _ hC ⟨hat, hsz, va_S.rf, fun a e he => Or.inl ⟨e, he⟩⟩ ⟨by omega, by omega⟩ hL
    rw [← lg_entry_eq] at K
    obtain ⟨t, a1, o, b1, b2, b3⟩ := K s₁ hh0 X0
    exact ⟨t, o, a1, b1, b2, b3⟩
section RUN
variable {p : Program} {l : Launch} {e : Env} {R : Room} {s : State} {m : MethodId} {args : Array Value} {below : List Frame} {meth : Method} {c : Code} {U : State} {locs : List Loc} {cells slots : Nat}
/-- a callee runs to its end, however that be -/
theorem run_callee (X : Stand p l e R s m args below meth c U locs cells slots) {y : MethodName} {ws : List Cond} {rm : Room} {Pc : Array Value → State → Prop} {Qc : Array Value → State → Outcome → State → Prop} {maxL : Nat}
    (hM : MetFree l y (headSpec ws rm) Pc (fun _ _ _ _ _ => True) Qc) (hws : ∀ w ∈ ws, ∀ (a' : Array Value) (V : State), s.WarmedH V.vm → w.before a' V = true)
    (hY : ∀ mk, U.methodNamed? y = some mk → ∃ methY cY, U.vm.method? mk = some methY ∧ methY.code = some cY ∧ cY.maxLocals = maxL) (hini : ∀ (a' : Array Value) (V : State), s.WarmedH V.vm → (Cond.initialized y.cls).before a' V = true)
    {g : JFrame} (hg : g.method = m) (hsize : g.locals.size = c.maxLocals) {ig : Instr} {len : Nat} (hdg : decode c.code g.pc = .ok (ig, len)) (hw : 2 * g.monitorRoom + (g.stack.map fun v => v.category).sum ≤ 8)
    {mk : MethodId} (hn : U.methodNamed? y = some mk) (a : Array Value) (hfr : rm.frames + 1 ≤ R.frames) (hlo : 8 + (maxL + 11) + rm.locals ≤ R.locals) (hce : cells + rm.cells ≤ R.cells) (hsl : slots + rm.slots ≤ R.slots) (hP : Pc a (U.calling g mk a)) :
    ∃ o t, Steps p.tables e below (doInvoke e (U.setTop g) [] mk a).1 t ∧ Ended t (.java g :: below) o ∧ Qc a (U.calling g mk a) o t := by
  obtain ⟨methY, cY, hmY, hcY, hlY⟩ := hY mk hn
  obtain ⟨kY, hkY, -⟩ := className_of_methodNamed hn
  have hinitY : kY.init = .initialized := Cond.initialized_spec (findClass_of_methodNamed hn) hkY (hini a U X.warmed)
  have h : At U g.method c below := by rw [hg]; exact X.here
  have happ : (headSpec ws rm).appliesLoose y e.platform (U.calling g mk a) = true :=
    Spec.appliesLoose_calling (g := g) h hdg hn hkY hinitY
      (X.room_calling (g := g) (R' := rm) hsize hmY hcY hfr (by rw [hlY]; omega) hce hsl) (atoms_intro fun w hw => hws w hw _ _ X.warmed)
  obtain ⟨mid, hmid⟩ := h.above
  have hfr' : (U.setTop g).frames = (.java g :: mid) ++ below := by rw [State.frames_setTop' g h.top, hmid]; rfl
  obtain ⟨o, t, hsteps, -, hend, hq⟩ := Steps.callFree hM p X.admits X.cas X.clock (acts := []) hfr' happ hP trivial
  rw [State.frames_setTop' g h.top, X.tail] at hend
  exact ⟨o, t, hsteps, hend, hq⟩
end RUN
section HVT2
variable {l : Launch} {D : hv_D} {M : hv_M} {X : State → (Nat → Prop) → Prop} {rm : Room} {Q : hv_R → hv_P → Nat → Prop} {bc bs : Nat} {h : hv_P} {nx pc : Nat} {lv : List (Option Value)} {st : List Value}
variable {M' : hv_M} {rm' : Room} {idx n : Nat} {As rest : List Value} {Q' : hv_R → hv_P → Nat → Prop}
/-- a method of this contract is called, and throws: the state with the note -/
theorem hv_vT {p : Program} {e : Env} {R : Room} {s : State} {m : MethodId} {args : Array Value} {below : List Frame} {meth : Method} {c : Code} {A : Nat → Prop} {H : Heap} {locs : List Loc} {cells slots : Nat} {ls : Array Slot} {b ci N : Nat} {Ty : u_T} {fs : List Value} (hC : hv_C D M X rm p R s m args meth c A) (hW : hv_W D h nx A s H locs) (hb : cells + bc ≤ rm.cells ∧ slots + bs ≤ rm.slots) (hl : hv_L ls M.2.2.1 lv) (hX : hv_EX s ∧ hv_ns s A)
    (hd : decode M.2.1 pc = .ok (.invokevirtual idx, 3)) (hL : hv_mL M.1.cls idx M') (hB : hv_mB M' n) (hi : Cond.instanceMethod M'.1 ∈ hv_tbl) (hse : Cond.selects M'.1.cls M'.1 M'.1 ∈ hv_tbl) (hci : vwCl[ci]? = some (M'.1.cls, Ty, N)) (hob : h b = some (eO ci fs)) (hN : hv_NT l D M' (hv_ws M') rm' (.ref b :: As) h nx Q') (hthr : ∀ r h' n', Q' r h' n' → ∃ k, r = .inr k) (hn : As.length = n) (hrm : (rest.map fun v => v.category).sum ≤ 8) (hdd : rm'.frames + 1 ≤ rm.frames) (hml : 19 + M'.2.2.1 + rm'.locals ≤ rm.locals) (hmc : rm'.cells ≤ bc) (hms : rm'.slots ≤ bs)
    {T : State} (hT : T.heap = H) (X₀ : Stand p l e R s m args below meth c T locs cells slots) :
    ∃ (k x : Nat) (h' : hv_P) (T' : State) (locs' : List Loc) (cell : Cell), Stand p l e R s m args below meth c T' locs' (cells + rm'.cells) (slots + rm'.slots) ∧ Q' (.inr k) h' T'.heap.size ∧ hv_W D h' T'.heap.size A s T'.heap locs' ∧ (T'.heap[x]? = some cell ∧ cell.vm.isStatics = false ∧ cell.vm ≠ .unknown ∧ T'.vm.findClass (hv_exn k) = some cell.cls) ∧
      Steps p.tables e below (T.setTop (F0 m pc ls (As.reverse ++ .ref b :: rest))) ((T'.setTop (F0 m pc ls rest)).pushFrame (.throwing x)) := by
  obtain ⟨b1, b2, b3, b4⟩ := hB
  have hr := hC.room
  obtain ⟨w1, w2, w3, w4⟩ := hW
  obtain ⟨cellB, hcB, hoB, hclB⟩ := va_recv hC.K.va (hv_one w1 hob) (ci := ci) (q0 := 0) hci rfl
  obtain ⟨mk, methM, hnamed, hmethM, hstM, habM⟩ := Cond.instanceMethod_spec (hC.word _ hi)
  obtain ⟨methM', cM, hmethM', -, -, -, -, -, -, hsigM⟩ := Cond.code_spec hnamed (hC.word _ b2)
  cases hmethM.symm.trans hmethM'
  obtain ⟨c2, r2, m2, q1, q2, q3, q4, kP, hkP, hkPi⟩ := Cond.selects_spec (hC.word _ hse)
  cases hclB.symm.trans q1
  cases (State.methodFound?_of_named hnamed b3).symm.trans q2
  cases hnamed.symm.trans q3
  have hselP : selectMethod e.platform s.vm cellB.cls mk = .method mk := by rw [Launch.admits_selectMethod X₀.admits]; exact q4
  have inv : ∃ vm₁, Stand p l e R s m args below meth c (T.setVm vm₁) locs cells slots ∧ ∀ target, (∀ acts, Steps p.tables e below (doInvoke e ((T.setVm vm₁).setTop (F0 m pc ls rest)) acts mk (Value.ref b :: As).toArray).1 target) → Steps p.tables e below (T.setTop (F0 m pc ls (As.reverse ++ .ref b :: rest))) target := by
    rcases hL with hL | ⟨host, hL⟩
    · exact X₀.invokevirtual hC.1 hC.own (hC.word _ hL) hnamed hmethM hstM hkP hkPi b3 (a := b) (cell := cellB) (by rw [hT]; exact hcB)
        (fun z h => by rw [h] at hoB; cases hoB) hselP hmethM habM hkP hkPi (g := F0 m pc ls (As.reverse ++ .ref b :: rest)) rfl (argsL := As) (rest := rest) (hn.trans (hv_n b4 _ hsigM)) rfl (by rw [hC.2.1]; exact hd)
    · exact X₀.invokevirtualNest hC.1 hC.own (va_Nw.use rfl (hC.K.2.2.1 _ hL)) hnamed hmethM hstM hkP hkPi b3 (a := b) (cell := cellB) (by rw [hT]; exact hcB)
        (fun z h => by rw [h] at hoB; cases hoB) hselP hmethM habM hkP hkPi (g := F0 m pc ls (As.reverse ++ .ref b :: rest)) rfl (argsL := As) (rest := rest) (hn.trans (hv_n b4 _ hsigM)) rfl (by rw [hC.2.1]; exact hd)
  obtain ⟨vm₁, X₁, st1⟩ := inv
  have hE1 : hv_EX (T.setVm vm₁) := EX_at X₁.warmed hX.2 (fun q h1 h2 => by show T.heap[q]? = _; rw [hT]; exact w3.2.1 q h1 h2) hX.1
  obtain ⟨o, t, hsteps, hend, ⟨⟨r, h', ho, hq, hat, hdom⟩, hz, hk⟩, L, ⟨hWt, hst⟩, hLd⟩ := run_callee X₁ (maxL := M'.2.2.1) hN (hv_pays hC.word b2)
    (fun mk' hn' => by
      obtain ⟨my, cy, y1, y2, -, y4, -⟩ := Cond.code_spec hn' (hv_pays hC.word b2 _ List.mem_cons_self args _ X₁.warmed)
      exact ⟨my, cy, y1, y2, y4⟩) (fun a' V hV => word_at hV (lw_good _ b1) (hC.word _ b1))
    (g := F0 m pc ls rest) rfl (by rw [hC.maxL]; exact hl.1) (by rw [hC.2.1]; exact hd) (lv_room hrm) (X₁.named hnamed) (Value.ref b :: As).toArray (by omega) (by omega) (by omega) (by omega)
    ⟨hv_blind _ _ _ _ ⟨rfl, by show T.heap.size = _; rw [hT]; exact w2, by show hv_at D h T.heap; rw [hT]; exact w1, hv_K.moved X₁.warmed hC.K hv_nest_ok⟩, EX_calling hE1⟩
  obtain ⟨k, rfl⟩ := hthr _ _ _ hq
  obtain ⟨x, cell, rfl, hx1, hx2, hx3, hx4⟩ := ho
  obtain ⟨T', X', hWT, hsm, ht⟩ := X₁.outOfThrown (g := F0 m pc ls rest) rfl hend hWt hst
  have hth : t.heap = T'.heap := by rw [ht]; exact throwing_heap _ _ _
  have htv : t.vm = T'.vm := by rw [ht]; exact throwing_vm _ _ _
  have hsub : ∀ q, hv_dom h nx q → A q := by
    rintro q (⟨e', he⟩ | hq')
    · exact w4 q e' he
    · exact hC.inA q (Nat.le_trans w3.1 (by omega))
  have hz : T.heap.size ≤ t.heap.size := hz
  have hk : ∀ q : Nat, q < T.heap.size → ¬ hv_dom h nx q → t.heap[q]? = T.heap[q]? := hk
  rw [hth] at hq hat hz hk hx1
  rw [htv] at hx4
  refine ⟨k, x, h', T', locs ++ L, cell, X', hq, ⟨hat, rfl, ⟨Nat.le_trans w3.1 (by rw [← hT]; exact hz), fun q h1 h2 => ?_, fun q hq' => ?_⟩, fun a e' ha => hsub a (hdom a e' ha)⟩, ⟨hx1, hx2, hx3, hx4⟩, ?_⟩
  · rw [hk q (by rw [hT]; exact Nat.lt_of_lt_of_le h1 w3.1) (fun z => h2 (hsub q z)), hT]
    exact w3.2.1 q h1 h2
  · rcases List.mem_append.mp hq' with z | z
    · exact w3.2.2 q z
    · exact hsub _ (hLd q z)
  · rw [← ht]
    exact st1 _ (fun acts => by rw [doInvoke_state]; exact hsteps)
/-- the callee throws, nothing here catches it -/
theorem V_vT {b ci N : Nat} {Ty : u_T} {fs : List Value} (hX : ∀ s A, X s A → hv_XN s A) (hd : decode M.2.1 pc = .ok (.invokevirtual idx, 3)) (hL : hv_mL M.1.cls idx M') (hB : hv_mB M' n) (hi : Cond.instanceMethod M'.1 ∈ hv_tbl) (hse : Cond.selects M'.1.cls M'.1 M'.1 ∈ hv_tbl) (hci : vwCl[ci]? = some (M'.1.cls, Ty, N)) (hob : h b = some (eO ci fs)) (hN : hv_NT l D M' (hv_ws M') rm' (.ref b :: As) h nx Q') (hthr : ∀ r h' n', Q' r h' n' → ∃ k, r = .inr k) (hst : st = As.reverse ++ .ref b :: rest) (hn : As.length = n) (hrm : Nat.ble (rest.map fun v => v.category).sum 8 = true) (hdd : Nat.ble (rm'.frames + 1) rm.frames = true) (hml : Nat.ble (19 + M'.2.2.1 + rm'.locals) rm.locals = true) (hmc : rm'.cells ≤ bc) (hms : rm'.slots ≤ bs)
    (k : ∀ (k : Nat) (h' : hv_P) (nx' : Nat), Q' (.inr k) h' nx' → Q (.inr k) h' nx') : hv_V l D M X rm Q bc bs h nx pc lv st := by
  intro p e R s m args below meth c A H locs cells slots ls hC hW hb hl T hT X₀
  subst hst
  obtain ⟨hXE, hnh⟩ := hX s A hC.ext
  obtain ⟨kx, x, h', T', locs', cell, X', hq, hW', ⟨hx1, hx2, hx3, hx4⟩, hsteps⟩ := hv_vT hC hW hb hl hXE hd hL hB hi hse hci hob hN hthr hn (Nat.le_of_ble_eq_true hrm) (Nat.le_of_ble_eq_true hdd) (Nat.le_of_ble_eq_true hml) hmc hms hT X₀
  obtain ⟨l1, l2, l3, l4, l5⟩ := X'.leaveThrown x (g := F0 m pc ls rest) rfl rfl rfl (covers_of_empty (hnh m args below meth c X'.frames X'.method X'.code) _) hC.lock
  refine ⟨T'.setFrames (.throwing x :: below), hsteps.trans l1, .threw x, l2, l3, ⟨⟨.inr kx, h', ⟨x, cell, rfl, hx1, hx2, hx3, hx4⟩, k kx h' _ hq, hW'.1, hW'.2.2.2⟩, hW'.2.2.1.1, fun q h1 h2 => hW'.2.2.1.2.1 q h1 h2⟩, locs', ⟨l4, l5.weaken (fun y hy _ => hy) (by omega) (by omega)⟩, hW'.2.2.1.2.2⟩
end HVT2
