-- CATCHING: the search resolves what is to be caught when it first meets it
section CAT
variable {Q : Handler → Pre} {E : CtlPost} {e : Env} {d : Bool} {acts : List Action} {s : State} {f : JFrame} {a : Addr}
theorem fh_cold {x : ExceptionTableEntry} {t : List ExceptionTableEntry} {c : ClassId} {vm' : Vm} (hx : covers x f.pc = true) (h0 : x.catchType ≠ 0) (hg : (Jvm.resolveClass f.method.cls x.catchType).Gives e.toSetting s.vm (.ok c) vm') (hr : vm'.classReady f.method.cls x.catchType c) (hsz : vm'.classes.size ≤ s.vm.classes.size) :
    wp (findHandler.go f a (x :: t)) Q E e d acts s ↔ wp (findHandler.go f a (x :: t)) Q E e d acts (s.setVm vm') := by
  simp only [covers] at hx
  obtain ⟨ha, ht⟩ := hg.op (op := VmOp.resolveClass f.method.cls x.catchType) rfl
  obtain ⟨k, hkd, hres⟩ := hr
  have hm := resolveClass_memo e hkd hres
  have e1 : (s.setVm vm').vm = vm' := rfl
  simp [findHandler.go, hx, h0, ha, ht, hsz, hm, e1, VmOp.dirties, VmOp.acts]
  exact Iff.rfl
end CAT
theorem st_catch {e : Env} {s s' : State} {a : Addr} {f : JFrame} {r : List Frame} {pc : Nat} (hfind : ∀ (Q : Handler → Pre) (E : CtlPost) (d : Bool) (acts : List Action), wp (findHandler f a) Q E e d acts s ↔ Q (.found pc) d acts s') :
    (stepThrowing e s a (.java f :: r)).Is (s'.setFrames (.java { f with pc := pc, stack := [.ref a] } :: r)) [] := by
  simp only [stepThrowing, searchFrame, vmDo]
  generalize hr : Sem.go _ e false [] s = res
  obtain ⟨as, rfl, ha⟩ := Sem.eq_ok_of hr (a := Handler.found pc) (s' := s') (acts' := []) (by simp [hfind _ _ _ _])
  exact ⟨rfl, ha⟩
theorem st_caught {tb : Tables} {e : Env} {s target : State} {g : JFrame} {c : Code} {below : List Frame} {a : Addr} {vm' : Vm} (h : At s g.method c below) {pc : Nat} (hfind : ∀ (Q : Handler → Pre) (E : CtlPost) (d : Bool) (acts : List Action), wp (findHandler g a) Q E e d acts ((s.setTop g).pushFrame (.throwing a)) ↔ Q (.found pc) d acts (((s.setTop g).pushFrame (.throwing a)).setVm vm'))
    (hrest : Steps tb e below ((s.setVm vm').setTop { g with pc := pc, stack := [.ref a] }) target) :
    Steps tb e below ((s.setTop g).pushFrame (.throwing a)) target := by
  obtain ⟨hgo, hw⟩ := h.throwing a
  refine Steps.head hgo hw ?_
  rw [stepThread_throwing (frames_entered h.top _), (st_catch (s := (s.setTop g).pushFrame (.throwing a)) hfind).1]
  obtain ⟨g₀, hg⟩ := Option.isSome_iff_exists.mp h.top
  obtain ⟨r, hr⟩ := State.topJava?_eq_some.mp hg
  have hr' : (s.setVm vm').frames = .java g₀ :: r := hr
  rw [State.setTop_of_frames _ hr'] at hrest
  have e1 : ((((s.setTop g).pushFrame (.throwing a)).setVm vm').setFrames (.java { g with pc := pc, stack := [.ref a] } :: s.frames.tail)) = (s.setVm vm').setFrames (.java { g with pc := pc, stack := [.ref a] } :: r) := by
    rw [hr]
    show ((((s.setTop g).pushFrame (.throwing a)).setFrames (.java { g with pc := pc, stack := [.ref a] } :: r)).setVm vm') = (s.setFrames (.java { g with pc := pc, stack := [.ref a] } :: r)).setVm vm'
    rw [State.pushFrame, State.setFrames_setFrames, State.setTop_of_frames _ hr, State.setFrames_setFrames]
  rw [e1]
  exact hrest
section HVC2
variable {l : Launch} {D : hv_D} {M : hv_M} {X : State → (Nat → Prop) → Prop} {rm : Room} {Q : hv_R → hv_P → Nat → Prop} {bc bs : Nat} {h : hv_P} {nx pc : Nat} {lv : List (Option Value)} {st : List Value}
variable {M' : hv_M} {rm' : Room} {idx n : Nat} {As rest : List Value} {Q' : hv_R → hv_P → Nat → Prop}
def hv_wsW (M : hv_M) (hs : List (Nat × Nat × Nat × Nat)) : List Cond := .codeWith M.1 M.2.1 M.2.2.1 M.2.2.2 hs :: hv_tbl
def hv_hs (hs : List (Nat × Nat × Nat × Nat)) (s : State) : Prop := ∀ (m : MethodId) (args : Array Value) (below : List Frame) (meth : Method) (c : Code), s.frames = .invoking m args :: below → s.vm.method? m = some meth → meth.code = some c → c.exceptionTable.toList.map (fun h => (h.startPc, h.endPc, h.handlerPc, h.catchType)) = hs
def hv_XC (hs : List (Nat × Nat × Nat × Nat)) (s : State) (A : Nat → Prop) : Prop := (hv_EX s ∧ hv_ns s A) ∧ hv_hs hs s
theorem hv_NT.ofW {As : List Value} {hs : List (Nat × Nat × Nat × Nat)} (lv : List (Option Value)) (hy : plainFor M.1 = true) (hlv : hv_ent As M.2.2.1 = lv) (hle : Nat.ble lv.length M.2.2.1 = true) (hls : Nat.ble (lg_sl As).length M.2.2.1 = true) (k : hv_V l D M (hv_XC hs) rm Q rm.cells rm.slots h nx 0 lv []) : hv_NT l D M (hv_wsW M hs) rm As h nx Q := by
  have hle := Nat.le_of_ble_eq_true hle
  have hls := Nat.le_of_ble_eq_true hls
  refine MetFree.of_bodySF (code := M.2.1) (maxLocals := M.2.2.1) (ret := M.2.2.2) hy ?_ ?_
  · intro args s m h hn
    obtain ⟨m9, meth, c, hn9, h1, h2, h3, h4, -, h5, h6, -⟩ := Cond.codeWith_spec (atoms_spec (ws := hv_wsW M hs) h _ List.mem_cons_self)
    cases Option.some.inj (hn9.symm.trans hn)
    exact ⟨meth, c, h1, h2, h3, h4, h5, h6⟩
  · intro p e s m args below meth c s₁ B hml hP _
    obtain ⟨⟨rfl, hsz, hat, hK⟩, hE⟩ := hP
    have hh0 : s₁.heap = s.heap := by rw [B.state]; rfl
    have hts := atoms_spec (ws := hv_wsW M hs) B.pre
    have X0 := Stand.of_body B
    have hnh : hv_hs hs s := by
      intro m' args' below' meth' c' hf hm hc
      have e1 := hf.symm.trans X0.frames
      simp only [List.cons.injEq, Frame.invoking.injEq] at e1
      obtain ⟨⟨rfl, -⟩, -⟩ := e1
      obtain ⟨m9, meth9, c9, hn9, h1, h2, -, -, h5, -⟩ := Cond.codeWith_spec (hts _ List.mem_cons_self)
      cases Option.some.inj (hn9.symm.trans B.named)
      cases Option.some.inj (hm.symm.trans h1)
      cases Option.some.inj (hc.symm.trans h2)
      exact h5
    have hC : hv_C D M (hv_XC hs) rm p rm s m As.toArray meth c (hv_dom h nx) :=
      ⟨B.exec, B.bytes, B.returns, hml, findClass_of_methodNamed B.named, fun w hw => hts w (List.mem_cons_of_mem _ hw), B.notSynchronized, (name_of_methodNamed B.named B.method).1, hK, fun q hq => Or.inr (by omega), ⟨Nat.le_refl _, Nat.le_refl _, Nat.le_refl _, Nat.le_refl _⟩, ⟨⟨hE, ns_of hat hsz⟩, hnh⟩⟩
    have hl0 := lv_entry As (n := M.2.2.1) hls
    have hL : hv_L ((lg_sl As ++ List.replicate (M.2.2.1 - (lg_sl As).length) Slot.unset).toArray) M.2.2.1 lv := ⟨hl0.1, hle, hl0.2.1, fun i v hi => hl0.2.2 (i, v) (by have := hv_ent_mem As M.2.2.1 0 i v (by rw [hlv]; exact hi); simpa using this)⟩
    have K := k p e rm s m As.toArray below meth c (hv_dom h nx) s.heap [] 0 0 _ hC ⟨hat, hsz, va_S.rf, fun a e he => Or.inl ⟨e, he⟩⟩ ⟨by omega, by omega⟩ hL
    rw [← lg_entry_eq] at K
    obtain ⟨t, a1, o, b1, b2, b3⟩ := K s₁ hh0 X0
    exact ⟨t, o, a1, b1, b2, b3⟩
theorem tbl_2 {α : Type} {x : List α} {β : Type} {g : α → β} {a b : β} (h : x.map g = [a, b]) : ∃ y z, x = [y, z] ∧ g y = a ∧ g z = b := by
  match x, h with
  | [y, z], h => simp at h; exact ⟨y, z, rfl, h.1, h.2⟩
set_option maxHeartbeats 1000000 in
/-- the callee throws, and one of the two handlers here takes it -/
theorem V_vC {b ci N p1 p2 i1 i2 q1 : Nat} {Ty : u_T} {fs : List Value} (hX : ∀ s A, X s A → hv_XC [(0, q1, p1, i1), (0, q1, p2, i2)] s A) (hM : M.1.cls = "NetworkOrdersLaw") (h1l : Cond.classLink "NetworkOrdersLaw" i1 (hv_exn 0) ∈ hv_tbl) (h2l : Cond.classLink "NetworkOrdersLaw" i2 (hv_exn 1) ∈ hv_tbl) (hi0 : i1 ≠ 0 ∧ i2 ≠ 0) (hpq : pc < q1)
    (hd : decode M.2.1 pc = .ok (.invokevirtual idx, 3)) (hL : hv_mL M.1.cls idx M') (hB : hv_mB M' n) (hi : Cond.instanceMethod M'.1 ∈ hv_tbl) (hse : Cond.selects M'.1.cls M'.1 M'.1 ∈ hv_tbl) (hci : vwCl[ci]? = some (M'.1.cls, Ty, N)) (hob : h b = some (eO ci fs)) (hN : hv_NT l D M' (hv_ws M') rm' (.ref b :: As) h nx Q') (hthr : ∀ r h' n', Q' r h' n' → ∃ k, k < 2 ∧ r = .inr k) (hst : st = As.reverse ++ .ref b :: rest) (hn : As.length = n) (hrm : Nat.ble (rest.map fun v => v.category).sum 8 = true) (hdd : Nat.ble (rm'.frames + 1) rm.frames = true) (hml : Nat.ble (19 + M'.2.2.1 + rm'.locals) rm.locals = true) (hmc : rm'.cells ≤ bc) (hms : rm'.slots ≤ bs)
    (k : ∀ (k x : Nat) (h' : hv_P) (nx' : Nat), Q' (.inr k) h' nx' → hv_V l D M X rm Q (bc - rm'.cells) (bs - rm'.slots) h' nx' (if k = 0 then p1 else p2) lv [.ref x]) : hv_V l D M X rm Q bc bs h nx pc lv st := by
  intro p e R s m args below meth c A H locs cells slots ls hC hW hb hl T hT X₀
  subst hst
  obtain ⟨hXE, hhs⟩ := hX s A hC.ext
  obtain ⟨kx, x, h', T', locs', cell, X', hq, hW', ⟨hx1, hx2, hx3, hx4⟩, hsteps⟩ := hv_vT hC hW hb hl hXE hd hL hB hi hse hci hob hN (fun r h' n' q => by obtain ⟨k, -, z⟩ := hthr r h' n' q; exact ⟨k, z⟩) hn (Nat.le_of_ble_eq_true hrm) (Nat.le_of_ble_eq_true hdd) (Nat.le_of_ble_eq_true hml) hmc hms hT X₀
  obtain ⟨k', hk2, hk'⟩ := hthr _ _ _ hq
  cases hk'
  have hown : s.vm.findClass "NetworkOrdersLaw" = some m.cls := by rw [← hM]; exact hC.own
  have hpl : e.platform.magicAccessors = ({} : Platform).magicAccessors := by rw [X'.admits.platform]
  obtain ⟨y1, y2, htab, e1, e2⟩ := tbl_2 (hhs m args below meth c X'.frames X'.method X'.code)
  simp only [Prod.mk.injEq] at e1 e2
  obtain ⟨a1, a2, a3, a4⟩ := e1
  obtain ⟨d1, d2, d3, d4⟩ := e2
  have cov : ∀ y : ExceptionTableEntry, y.startPc = 0 → y.endPc = q1 → covers y (F0 m pc ls rest).pc = true := fun y z1 z2 => by
    show (decide (y.startPc ≤ pc) && decide (pc < y.endPc)) = true
    rw [z1, z2]; simp [hpq]
  obtain ⟨c1, hf1, hcl1⟩ := Cond.classLink_spec hown (hC.word _ h1l) e.platform hpl
  obtain ⟨c2, hf2, hcl2⟩ := Cond.classLink_spec hown (hC.word _ h2l) e.platform hpl
  obtain ⟨hg₁, hwarm₁, hready₁⟩ := State.classEntry (e := e) X'.warmed hcl1
  have no₁ : (T'.vm.noted m.cls i1 (.cls c1)).classes.size ≤ T'.vm.classes.size := by no_record
  generalize T'.vm.noted m.cls i1 (.cls c1) = vm₁ at hg₁ hwarm₁ hready₁ no₁
  obtain ⟨hg₂, hwarm₂, hready₂⟩ := State.classEntry (e := e) hwarm₁ hcl2
  have no₂ : (vm₁.noted m.cls i2 (.cls c2)).classes.size ≤ vm₁.classes.size := by no_record
  generalize vm₁.noted m.cls i2 (.cls c2) = vm₂ at hg₂ hwarm₂ hready₂ no₂
  have hobj : ∀ z, cell.vm ≠ .statics z := fun z => VmData.ne_statics_of hx2 z
  have hkc : ∀ {vm' : Vm} {nm : String} {cc : ClassId}, vm'.findClass nm = some cc → ∃ k, vm'.classes[cc]? = some k := fun hz => Vm.classAt_of_findClass hz
  have al : ∀ {vm' : Vm}, s.WarmedH vm' → ∀ nm, vm'.findClass nm = s.vm.findClass nm := fun hw nm => hw.alike.findClass nm none
  have hcx : s.vm.findClass (hv_exn kx) = some cell.cls := by rw [← al X'.warmed]; exact hx4
  have hmeth : ((T'.setTop (F0 m pc ls rest)).pushFrame (.throwing x)).vm.method? (F0 m pc ls rest).method = some meth := by rw [throwing_vm]; exact X'.method'
  have hcode := X'.code
  have hheap : ((T'.setTop (F0 m pc ls rest)).pushFrame (.throwing x)).heap = T'.heap := throwing_heap _ _ _
  have go : ∀ vm' : Vm, s.WarmedH vm' → ∀ pt, (∀ (Q : Handler → Pre) (E : CtlPost) (d : Bool) (acts : List Action), wp (findHandler (F0 m pc ls rest) x) Q E e d acts ((T'.setTop (F0 m pc ls rest)).pushFrame (.throwing x)) ↔ Q (.found pt) d acts (((T'.setTop (F0 m pc ls rest)).pushFrame (.throwing x)).setVm vm')) → hv_V l D M X rm Q (bc - rm'.cells) (bs - rm'.slots) h' T'.heap.size pt lv [.ref x] → ∃ t, Steps p.tables e below (T.setTop (F0 m pc ls (As.reverse ++ .ref b :: rest))) t ∧ hv_Z D Q below args s rm.cells rm.slots A t := by
    intro vm' hw' pt hfind kk
    obtain ⟨t, t1, t2⟩ := kk p e R s m args below meth c A T'.heap locs' _ _ ls hC hW' ⟨by omega, by omega⟩ hl (T'.setVm vm') rfl (X'.noted hw')
    exact ⟨t, hsteps.trans (st_caught (by exact X'.here) hfind t1), t2⟩
  rcases (show kx = 0 ∨ kx = 1 by omega) with rfl | rfl
  · refine go vm₁ hwarm₁ p1 (fun Q E d acts => ?_) (k 0 x h' _ hq)
    rw [W.findHandler_eq hmeth hcode, htab, fh_cold (s := (T'.setTop (F0 m pc ls rest)).pushFrame (.throwing x)) (cov y1 a1 a2) (by rw [a4]; exact hi0.1) (c := c1) (vm' := vm₁) (by rw [a4, throwing_vm]; exact hg₁) (by rw [a4]; exact hready₁) (by rw [throwing_vm]; exact no₁)]
    have ec : cell.cls = c1 := Option.some.inj (hcx.symm.trans hf1)
    rw [W.findHandler_go_class (c := c1) (cell := cell) (cov y1 a1 a2) (by rw [a4]; exact hi0.1) (by rw [a4]; exact hready₁) (by show ((T'.setTop (F0 m pc ls rest)).pushFrame (.throwing x)).heap[x]? = _; rw [hheap]; exact hx1) hobj (by rw [ec]; exact hkc (nm := hv_exn 0) (by show vm₁.findClass _ = _; rw [al hwarm₁]; exact hf1)) (hkc (nm := hv_exn 0) (by show vm₁.findClass _ = _; rw [al hwarm₁]; exact hf1)), if_pos (by rw [ec]; exact Vm.assignable_self _ _), a3]
  · refine go vm₂ hwarm₂ p2 (fun Q E d acts => ?_) (k 1 x h' _ hq)
    rw [W.findHandler_eq hmeth hcode, htab, fh_cold (s := (T'.setTop (F0 m pc ls rest)).pushFrame (.throwing x)) (cov y1 a1 a2) (by rw [a4]; exact hi0.1) (c := c1) (vm' := vm₁) (by rw [a4, throwing_vm]; exact hg₁) (by rw [a4]; exact hready₁) (by rw [throwing_vm]; exact no₁)]
    have ec : cell.cls = c2 := Option.some.inj (hcx.symm.trans hf2)
    have hno : s.vm.assignable c2 c1 = false := by
      have z := hXE.1 #[] (.not (.castable "java/lang/ArithmeticException" "java/util/NoSuchElementException")) (by simp [exW])
      have f1 : s.vm.findClass "java/util/NoSuchElementException" = some c1 := hf1
      have f2 : s.vm.findClass "java/lang/ArithmeticException" = some c2 := hf2
      simp [Cond.before, Cond.holds, Cond.value, f1, f2] at z
      exact z
    rw [W.findHandler_go_class (c := c1) (cell := cell) (cov y1 a1 a2) (by rw [a4]; exact hi0.1) (by rw [a4]; exact hready₁) (by show ((T'.setTop (F0 m pc ls rest)).pushFrame (.throwing x)).heap[x]? = _; rw [hheap]; exact hx1) hobj (by rw [ec]; exact hkc (nm := hv_exn 1) (by show vm₁.findClass _ = _; rw [al hwarm₁]; exact hf2)) (hkc (nm := hv_exn 0) (by show vm₁.findClass _ = _; rw [al hwarm₁]; exact hf1)), if_neg (by rw [ec]; show ¬ vm₁.assignable c2 c1 = true; rw [hwarm₁.alike.assignable, hno]; decide)]
    rw [fh_cold (s := ((T'.setTop (F0 m pc ls rest)).pushFrame (.throwing x)).setVm vm₁) (cov y2 d1 d2) (by rw [d4]; exact hi0.2) (c := c2) (vm' := vm₂) (by rw [d4]; exact hg₂) (by rw [d4]; exact hready₂) no₂]
    rw [W.findHandler_go_class (c := c2) (cell := cell) (cov y2 d1 d2) (by rw [d4]; exact hi0.2) (by rw [d4]; exact hready₂) (by show ((T'.setTop (F0 m pc ls rest)).pushFrame (.throwing x)).heap[x]? = _; rw [hheap]; exact hx1) hobj (by rw [ec]; exact hkc (nm := hv_exn 1) (by show vm₂.findClass _ = _; rw [al hwarm₂]; exact hf2)) (hkc (nm := hv_exn 1) (by show vm₂.findClass _ = _; rw [al hwarm₂]; exact hf2)), if_pos (by rw [ec]; exact Vm.assignable_self _ _), d3]
    exact Iff.rfl
end HVC2
