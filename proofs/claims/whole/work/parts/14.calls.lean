-- CALLS by contract
theorem hv_go {l : Launch} {D : hv_D} {p : Program} {e : Env} {R : Room} {s : State} {m : MethodId} {args : Array Value} {below : List Frame} {meth : Method} {c : Code} {A : Nat → Prop} {H : Heap} {locs : List Loc} {cells slots mc' ms' pc nx : Nat} {h : hv_P} {Q' : hv_R → hv_P → Nat → Prop} {Z : State → Prop} {ls : Array Slot} {st0 rest : List Value} {a : Array Value}
    (hr : va_Run p l e R s m args below meth c H locs cells slots mc' ms' (F0 m pc ls st0) rest (hv_Q D Q' (hv_dom h nx) a) (hv_dom h nx)) (hW : hv_W D h nx A s H locs) (hA : ∀ q : Nat, s.heap.size ≤ q → A q)
    (kk : ∀ (v : Option Value) (h' : hv_P) (H1 : Heap) (locs1 : List Loc), Q' (.inl v) h' H1.size → hv_W D h' H1.size A s H1 locs1 → W p l e R s m args below meth c H1 locs1 (cells + mc') (slots + ms') Z (F0 m (pc + 3) ls (v.toList ++ rest))) : W p l e R s m args below meth c H locs cells slots Z (F0 m pc ls st0) := by
  obtain ⟨w1, w2, w3, w4⟩ := hW
  have hsub : ∀ q, hv_dom h nx q → A q := by
    rintro q (⟨e, he⟩ | hq)
    · exact w4 q e he
    · exact hA q (Nat.le_trans w3.1 (by omega))
  intro T hT X
  obtain ⟨v, st₀, t, T', L, h0, X', hL, e1, e2, ⟨⟨r, h', ho, hq, hat, hdom⟩, hz, hk⟩, st⟩ := hr T hT X
  rw [h0] at hz hk
  have hv : r = .inl v := by
    cases r with
    | inl v' =>
      have ho' : Outcome.returned v = Outcome.returned v' := ho
      cases ho'
      rfl
    | inr k =>
      obtain ⟨x, _, hx, _⟩ := ho
      cases hx
  subst hv
  obtain ⟨t2, a1, b1⟩ := kk v h' T'.heap (locs ++ L) (by rw [e1]; exact hq) ⟨by rw [e1]; exact hat, rfl, ⟨Nat.le_trans w3.1 (by rw [e1]; exact hz), fun q h1 h2 => by rw [e1, hk q (Nat.lt_of_lt_of_le h1 w3.1) (fun z => h2 (hsub q z))]; exact w3.2.1 q h1 h2, fun q hq => by
    rcases List.mem_append.mp hq with h | h
    · exact w3.2.2 q h
    · exact hsub _ (hL q h)⟩, fun a e ha => hsub a (hdom a e ha)⟩ T' rfl X'
  exact ⟨t2, st t2 a1, b1⟩
theorem hv_n {M : hv_M} {n : Nat} (h : (parseMethodDescriptor M.1.desc).map (fun d => d.parameters.length) = some n) : ∀ sig, parseMethodDescriptor M.1.desc = some sig → n = sig.parameters.length := by
  intro sig hs
  rw [hs] at h
  exact (Option.some.inj h).symm
theorem hv_pays {args : Array Value} {s : State} (hts : ∀ w ∈ hv_tbl, w.before args s = true) {M : hv_M} (hc : Cond.code M.1 M.2.1 M.2.2.1 M.2.2.2 ∈ hv_tbl) : ∀ w ∈ hv_ws M, ∀ (a' : Array Value) (U : State), s.WarmedH U.vm → w.before a' U = true := by
  intro w hw a' U hW
  have hw' : w ∈ hv_tbl := by
    rcases List.mem_cons.mp hw with h | h
    · rw [h]; exact hc
    · exact h
  exact word_at hW (lw_good w hw') (hts w hw')
theorem hv_blind {D : hv_D} {As : List Value} {h : hv_P} {nx : Nat} : FrameBlind (hv_Pc D As h nx) := by
  intro a U g mk hP
  obtain ⟨h1, h2, h3, h4, h5, h6, h7⟩ := hP
  refine ⟨h1, h2, h3, fun c q hq => u_Kn_moved (u := U) (U := U.calling g mk a) (Vm.Alike.refl U.vm) (h4 c q hq), fun k ty hk => ⟨arrOfT_moved (E := U.calling g mk a) (Vm.Alike.refl U.vm) (h5 k ty hk).1, (h5 k ty hk).2.moved (U := U.calling g mk a) (Vm.Alike.refl U.vm)⟩, fun w hw => ?_, fun C hC => (h7 C hC).moved (U := U.calling g mk a) (Vm.Alike.refl U.vm)⟩
  have h8 := h6 w hw
  have h9 := hv_nest_ok w hw
  cases w <;> first | (simp [hv_isN] at h9; done) | exact va_Nw.same (U := U.calling g mk a) rfl rfl h8
section HVCALL
variable {l : Launch} {D : hv_D} {M : hv_M} {X : State → (Nat → Prop) → Prop} {rm : Room} {Q : hv_R → hv_P → Nat → Prop} {bc bs : Nat} {h : hv_P} {nx pc : Nat} {lv : List (Option Value)} {st : List Value}
variable {M' : hv_M} {rm' : Room} {idx n : Nat} {As rest : List Value} {Q' : hv_R → hv_P → Nat → Prop}
theorem V_static (hd : decode M.2.1 pc = .ok (.invokestatic idx, 3)) (hL : hv_mL M.1.cls idx M') (hB : hv_mB M' n) (hs : Cond.static M'.1 ∈ hv_tbl) (hN : hv_N l D M' rm' As h nx Q') (hret : ∀ r h' n', Q' r h' n' → ∃ v, r = .inl v) (hst : st = As.reverse ++ rest) (hn : As.length = n) (hrm : (rest.map fun v => v.category).sum ≤ 8) (hdd : rm'.frames + 1 ≤ rm.frames) (hml : 19 + M'.2.2.1 + rm'.locals ≤ rm.locals) (hmc : rm'.cells ≤ bc) (hms : rm'.slots ≤ bs)
    (k : ∀ (v : Option Value) (h' : hv_P) (nx' : Nat), Q' (.inl v) h' nx' → hv_V l D M X rm Q (bc - rm'.cells) (bs - rm'.slots) h' nx' (pc + 3) lv (v.toList ++ rest)) : hv_V l D M X rm Q bc bs h nx pc lv st := by
  intro p e R s m args below meth c A H locs cells slots ls hC hW hb hl
  subst hst
  obtain ⟨b1, b2, b3, b4⟩ := hB
  have hr := hC.room
  have hp : PreS s H (hv_Pc D As h nx) As := ⟨hv_blind, fun U hU hw => ⟨rfl, by rw [hU]; exact hW.2.1, by rw [hU]; exact hW.1, hv_K.moved hw hC.K hv_nest_ok⟩⟩
  have S : CallFix p m c M.2.1 M.2.2.1 s args hv_tbl M.1.cls := ⟨hC.1, hC.2.1, hC.maxL, hC.own, hC.word⟩
  have fit : cells + rm'.cells ≤ R.cells ∧ slots + rm'.slots ≤ R.slots := ⟨by omega, by omega⟩
  have hfr : rm'.frames + 1 ≤ R.frames := by omega
  have hlo : 8 + (M'.2.2.1 + 11) + rm'.locals ≤ R.locals := by omega
  have hcode : Cond.code M'.1 M'.2.1 M'.2.2.1 M'.2.2.2 ∈ hv_ws M' := List.mem_cons_self
  have run : va_Run p l e R s m args below meth c H locs cells slots rm'.cells rm'.slots (F0 m pc ls (As.reverse ++ rest)) rest (hv_Q D Q' (hv_dom h nx) As.toArray) (hv_dom h nx) := by
    rcases hL with hL | ⟨host, hL⟩
    · exact va_runS S (hN.met hret) ⟨⟨rfl, rfl, hfr, hlo, hv_pays hC.word b2, hcode, hC.word _ b2, hC.word _ b1, b3, hv_n b4, hC.word _ hL⟩, hC.word _ hs⟩ hp rfl hn hl.1 rfl (lv_room hrm) hd fit
    · exact va_runSN S (hN.met hret) ⟨⟨⟨rfl, rfl, hfr, hlo, hv_pays hC.word b2, hcode⟩, hC.word _ b2, hC.word _ b1, b3, hv_n b4, va_Nw.use rfl (hC.K.2.2.1 _ hL)⟩, hC.word _ hs, trivial⟩ hp rfl hn hl.1 rfl (lv_room hrm) hd fit
  exact hv_go run hW hC.inA fun v h' H1 locs1 hq hW1 => k v h' _ hq p e R s m args below meth c A H1 locs1 _ _ ls hC hW1 ⟨by omega, by omega⟩ hl
theorem V_special {b : Nat} (hd : decode M.2.1 pc = .ok (.invokespecial idx, 3)) (hL : hv_mL M.1.cls idx M') (hB : hv_mB M' n) (hi : Cond.instanceMethod M'.1 ∈ hv_tbl) (hin : M'.1.name = "<init>") (hre : M'.2.2.2 = none) (hN : hv_N l D M' rm' (.ref b :: As) h nx Q') (hret : ∀ r h' n', Q' r h' n' → ∃ v, r = .inl v) (hst : st = As.reverse ++ .ref b :: rest) (hn : As.length = n) (hrm : (rest.map fun v => v.category).sum ≤ 8) (hdd : rm'.frames + 1 ≤ rm.frames) (hml : 19 + M'.2.2.1 + rm'.locals ≤ rm.locals) (hmc : rm'.cells ≤ bc) (hms : rm'.slots ≤ bs)
    (k : ∀ (v : Option Value) (h' : hv_P) (nx' : Nat), Q' (.inl v) h' nx' → hv_V l D M X rm Q (bc - rm'.cells) (bs - rm'.slots) h' nx' (pc + 3) lv (v.toList ++ rest)) : hv_V l D M X rm Q bc bs h nx pc lv st := by
  intro p e R s m args below meth c A H locs cells slots ls hC hW hb hl
  subst hst
  obtain ⟨b1, b2, b3, b4⟩ := hB
  have hr := hC.room
  have hp : PreS s H (hv_Pc D (.ref b :: As) h nx) (.ref b :: As) := ⟨hv_blind, fun U hU hw => ⟨rfl, by rw [hU]; exact hW.2.1, by rw [hU]; exact hW.1, hv_K.moved hw hC.K hv_nest_ok⟩⟩
  have S : CallFix p m c M.2.1 M.2.2.1 s args hv_tbl M.1.cls := ⟨hC.1, hC.2.1, hC.maxL, hC.own, hC.word⟩
  have fit : cells + rm'.cells ≤ R.cells ∧ slots + rm'.slots ≤ R.slots := ⟨by omega, by omega⟩
  have hfr : rm'.frames + 1 ≤ R.frames := by omega
  have hlo : 8 + (M'.2.2.1 + 11) + rm'.locals ≤ R.locals := by omega
  have hcode : Cond.code M'.1 M'.2.1 M'.2.2.1 none ∈ hv_ws M' := by rw [← hre]; exact List.mem_cons_self
  have run : va_Run p l e R s m args below meth c H locs cells slots rm'.cells rm'.slots (F0 m pc ls (As.reverse ++ .ref b :: rest)) rest (hv_Q D Q' (hv_dom h nx) (Value.ref b :: As).toArray) (hv_dom h nx) := by
    rcases hL with hL | ⟨host, hL⟩
    · exact va_runI S (hN.met hret) ⟨⟨rfl, rfl, hfr, hlo, hv_pays hC.word b2, hcode, by rw [← hre]; exact hC.word _ b2, hC.word _ b1, b3, hv_n b4, hC.word _ hL⟩, hin, hC.word _ hi⟩ hp rfl hn hl.1 rfl (lv_room hrm) hd fit
    · exact va_runIN S (hN.met hret) ⟨⟨⟨rfl, rfl, hfr, hlo, hv_pays hC.word b2, hcode⟩, by rw [← hre]; exact hC.word _ b2, hC.word _ b1, b3, hv_n b4, va_Nw.use rfl (hC.K.2.2.1 _ hL)⟩, hin, hC.word _ hi⟩ hp rfl hn hl.1 rfl (lv_room hrm) hd fit
  exact hv_go run hW hC.inA fun v h' H1 locs1 hq hW1 => k v h' _ hq p e R s m args below meth c A H1 locs1 _ _ ls hC hW1 ⟨by omega, by omega⟩ hl
theorem V_virtual {b ci N : Nat} {T : u_T} {fs : List Value} (hd : decode M.2.1 pc = .ok (.invokevirtual idx, 3)) (hL : hv_mL M.1.cls idx M') (hB : hv_mB M' n) (hi : Cond.instanceMethod M'.1 ∈ hv_tbl) (hse : Cond.selects M'.1.cls M'.1 M'.1 ∈ hv_tbl) (hci : vwCl[ci]? = some (M'.1.cls, T, N)) (hob : h b = some (eO ci fs)) (hN : hv_N l D M' rm' (.ref b :: As) h nx Q') (hret : ∀ r h' n', Q' r h' n' → ∃ v, r = .inl v) (hst : st = As.reverse ++ .ref b :: rest) (hn : As.length = n) (hrm : (rest.map fun v => v.category).sum ≤ 8) (hdd : rm'.frames + 1 ≤ rm.frames) (hml : 19 + M'.2.2.1 + rm'.locals ≤ rm.locals) (hmc : rm'.cells ≤ bc) (hms : rm'.slots ≤ bs)
    (k : ∀ (v : Option Value) (h' : hv_P) (nx' : Nat), Q' (.inl v) h' nx' → hv_V l D M X rm Q (bc - rm'.cells) (bs - rm'.slots) h' nx' (pc + 3) lv (v.toList ++ rest)) : hv_V l D M X rm Q bc bs h nx pc lv st := by
  intro p e R s m args below meth c A H locs cells slots ls hC hW hb hl
  subst hst
  obtain ⟨b1, b2, b3, b4⟩ := hB
  have hr := hC.room
  have hp : PreV s H M'.1.cls b (hv_Pc D (.ref b :: As) h nx) As := ⟨hv_blind, va_recv hC.K.va (hv_one hW.1 hob) (ci := ci) (q0 := 0) hci rfl, fun U hU hw => ⟨rfl, by rw [hU]; exact hW.2.1, by rw [hU]; exact hW.1, hv_K.moved hw hC.K hv_nest_ok⟩⟩
  have S : CallFix p m c M.2.1 M.2.2.1 s args hv_tbl M.1.cls := ⟨hC.1, hC.2.1, hC.maxL, hC.own, hC.word⟩
  have fit : cells + rm'.cells ≤ R.cells ∧ slots + rm'.slots ≤ R.slots := ⟨by omega, by omega⟩
  have hfr : rm'.frames + 1 ≤ R.frames := by omega
  have hlo : 8 + (M'.2.2.1 + 11) + rm'.locals ≤ R.locals := by omega
  have hcode : Cond.code M'.1 M'.2.1 M'.2.2.1 M'.2.2.2 ∈ hv_ws M' := List.mem_cons_self
  have run : va_Run p l e R s m args below meth c H locs cells slots rm'.cells rm'.slots (F0 m pc ls (As.reverse ++ .ref b :: rest)) rest (hv_Q D Q' (hv_dom h nx) (Value.ref b :: As).toArray) (hv_dom h nx) := by
    rcases hL with hL | ⟨host, hL⟩
    · exact va_runV S (hN.met hret) ⟨⟨rfl, rfl, hfr, hlo, hv_pays hC.word b2, hcode, hC.word _ b2, hC.word _ b1, b3, hv_n b4, hC.word _ hL⟩, hC.word _ hi, hC.word _ hse⟩ hp rfl hn hl.1 rfl (lv_room hrm) hd fit
    · exact va_runVN S (hN.met hret) ⟨⟨⟨rfl, rfl, hfr, hlo, hv_pays hC.word b2, hcode⟩, hC.word _ b2, hC.word _ b1, b3, hv_n b4, va_Nw.use rfl (hC.K.2.2.1 _ hL)⟩, hC.word _ hi, hC.word _ hse⟩ hp rfl hn hl.1 rfl (lv_room hrm) hd fit
  exact hv_go run hW hC.inA fun v h' H1 locs1 hq hW1 => k v h' _ hq p e R s m args below meth c A H1 locs1 _ _ ls hC hW1 ⟨by omega, by omega⟩ hl
end HVCALL
