-- EXCEPTIONS: the rules of throwing and of calls that throw
section TH1
def tx209 : String := "no such values of the o" ++ "pen legs"
def exK (k : Nat) : Nat × Nat × ByteArray := match k with
  | 0 => (125, 13, M_JN_init.2.1)
  | _ => (215, 7, M_JX_init.2.1)
/-- the words that stand in no good place: statics, declarations, strings -/
def exW : List Cond := [.laysStatic Bundle.tN "UNASSIGNED_STACK" Bundle.steD, .laysStatic Bundle.tN "SUPPRESSED_SENTINEL" Bundle.listD, .isRef (.static Bundle.tN "UNASSIGNED_STACK" Bundle.steD), .isRef (.static Bundle.tN "SUPPRESSED_SENTINEL" Bundle.listD),
  .declares (Bundle.initS "java/lang/RuntimeException"), .declares (Bundle.initS "java/lang/Exception"), .declares (Bundle.initS Bundle.tN),
  .stringRef "NetworkOrders" 123 "no such tensor or index", .stringRef "NetworkOrders" 205 "the network is not ready", .stringRef "NetworkOrders" 207 "no such part", .stringRef "NetworkOrders" 209 tx209, .stringRef "NetworkOrders" 213 "the peak is too high", .not (.castable "java/lang/ArithmeticException" "java/util/NoSuchElementException")]
def hv_EX (s : State) : Prop := ∀ a : Array Value, ∀ w ∈ exW, w.before a s = true
def hv_ns (s : State) (A : Nat → Prop) : Prop := ∀ q, A q → ∀ cell : Cell, s.heap[q]? = some cell → cell.vm.isStatics = false
def hv_nh (s : State) : Prop := ∀ (m : MethodId) (args : Array Value) (below : List Frame) (meth : Method) (c : Code), s.frames = .invoking m args :: below → s.vm.method? m = some meth → meth.code = some c → c.exceptionTable.isEmpty = true
def hv_XT (s : State) (A : Nat → Prop) : Prop := hv_EX s ∧ hv_ns s A
theorem exA_in : ∀ k, k < 2 → ∀ w ∈ exA "NetworkOrders" (exK k).1 (hv_exn k) (exK k).2.1 (exK k).2.2, w ∈ hv_tbl ∨ w ∈ exW := by
  decide +kernel

theorem exA_at {D : hv_D} {M : hv_M} {X : State → (Nat → Prop) → Prop} {rm : Room} {p : Program} {R : Room} {s : State} {m : MethodId} {args : Array Value} {meth : Method} {c : Code} {A : Nat → Prop} (hC : hv_C D M X rm p R s m args meth c A) (hE : hv_EX s) {k : Nat} (hk : k < 2) : ∀ w ∈ exA "NetworkOrders" (exK k).1 (hv_exn k) (exK k).2.1 (exK k).2.2, w.before args s = true := fun w hw => by
  rcases exA_in k hk w hw with h | h
  · exact hC.word w h
  · exact hE args w h
theorem exK_d : ∀ k, k < 2 → (decode (exK k).2.2 0 = .ok (.aload_n 0, 1) ∧ decode (exK k).2.2 1 = .ok (.aload_n 1, 1)) ∧ decode (exK k).2.2 2 = .ok (.invokespecial (exK k).2.1, 3) ∧ decode (exK k).2.2 5 = .ok (.return_, 1) ∧ Bundle.fit (hv_exn k) = true := by
  intro k hk
  rcases (show k = 0 ∨ k = 1 by omega) with rfl | rfl
  · exact ⟨⟨by decide +kernel, by decide +kernel⟩, by decide +kernel, by decide +kernel, by decide +kernel⟩
  · exact ⟨⟨by decide +kernel, by decide +kernel⟩, by decide +kernel, by decide +kernel, by decide +kernel⟩
section HVT
variable {l : Launch} {D : hv_D} {M : hv_M} {X : State → (Nat → Prop) → Prop} {rm : Room} {Q : hv_R → hv_P → Nat → Prop} {bc bs : Nat} {h : hv_P} {nx pc : Nat} {lv : List (Option Value)} {st : List Value}
set_option maxHeartbeats 1000000 in
/-- new, dup, ldc, invokespecial, athrow: the method ends with a new exception -/
theorem V_throw {idx si kx : Nat} {tx : String} (htr : ∀ e, l.admits e → e.platform.stackTraces = false) (hX : ∀ s A, X s A → (hv_EX s ∧ hv_ns s A) ∧ hv_nh s) (hk : kx < 2) (hM : M.1.cls = "NetworkOrders")
    (hd0 : decode M.2.1 pc = .ok (.new idx, 3)) (hd1 : decode M.2.1 (pc + 3) = .ok (.dup, 1)) (hd2 : decode M.2.1 (pc + 4) = .ok (.ldc si, 2)) (hd3 : decode M.2.1 (pc + 6) = .ok (.invokespecial (exK kx).1, 3)) (hd4 : decode M.2.1 (pc + 9) = .ok (.athrow, 1))
    (hcl : Cond.classLink "NetworkOrders" idx (hv_exn kx) ∈ hv_tbl) (hin : Cond.instantiable (hv_exn kx) 6 ∈ hv_tbl) (hini : Cond.initialized (hv_exn kx) ∈ hv_tbl) (hstr : Cond.stringRef "NetworkOrders" si tx ∈ exW)
    (hst : st = []) (hbc : 1 ≤ bc) (hbs : 6 ≤ bs) (hfr : 6 ≤ rm.frames) (hlo : 82 ≤ rm.locals) (hq : Q (.inr kx) h (nx + 1)) : hv_V l D M X rm Q bc bs h nx pc lv st := by
  subst hst
  intro p e R s m args below meth c A H locs cells slots ls hC hW hb hl T hT X₀
  obtain ⟨⟨hE, hns⟩, hnh⟩ := hX s A hC.ext
  have hr := hC.room
  have hown : s.vm.findClass "NetworkOrders" = some m.cls := by rw [← hM]; exact hC.own
  obtain ⟨vm₁, cX, kX, hfX, hkX, -, -, X₁, st1⟩ := X₀.newCold hC.1 (own := "NetworkOrders") (C := hv_exn kx) (index := idx) (n := 6) hown (hC.word _ hcl) (hC.word _ hin) (hC.word _ hini)
    (g := F0 m pc ls []) rfl (by rw [hC.2.1]; exact hd0) (by omega) (by omega)
  have hs0 := hE #[] _ hstr
  obtain ⟨k0, cf, i0, sa, -, -, -, -, -, hsa⟩ := Cond.stringRef_spec (args := #[]) (first := s) (o := none) (s := s) (idx := []) hown hs0
  obtain ⟨⟨x0, x1⟩, x2, x5, hfit⟩ := exK_d kx hk
  have hcellA : ((T.setVm vm₁).pushCell { cls := cX, slots := kX.instanceTypes.map defaultValue }).heap[T.heap.size]? = some (freshCell cX kX) := State.heap_pushCell_size _ _
  have hsz : nx = T.heap.size := by rw [hT]; exact hW.2.1.symm
  have hle : s.heap.size ≤ T.heap.size := by rw [hT]; exact hW.2.2.1.1
  have fin : W p l e R s m args below meth c ((T.setVm vm₁).pushCell { cls := cX, slots := kX.instanceTypes.map defaultValue }).heap locs (cells + 1) (slots + 6) (hv_Z D Q below args s rm.cells rm.slots A) (F0 m (pc + 3) ls [.ref T.heap.size]) := by
    refine lv_dup hC.1 hC.2.1 hd1 rfl ?_
    refine va_ldcS hC.1 hC.2.1 (own := "NetworkOrders") (tx := tx) (index := si) (q := sa) hown (vk_R.of hs0 hsa) hd2 ?_
    intro T' hT' X'
    obtain ⟨vm', ce, U, eU, hsteps, hrun, hend, hWU, hsame, hce1, hce2⟩ := exc_throw X' hC.1 (htr e X'.admits) x0 x1 x2 x5 hown hfit (exA_at hC hE hk) (fun x hx cell hcell => hns _ (hW.2.2.1.2.2 x hx) cell hcell) hfX hkX (a := T.heap.size) (by rw [hT']; exact hcellA) hle (msg := .ref sa) rfl
      (g := F0 m (pc + 6) ls [.ref sa, .ref T.heap.size, .ref T.heap.size]) rfl (by rw [hC.maxL]; exact hl.1) rfl rfl (rest := []) rfl (by rw [hC.2.1]; exact hd3) (by rw [hC.2.1]; exact hd4) (covers_of_empty (hnh m args below meth c X'.frames X'.method X'.code) _) (by omega) (by simp [Value.category]; omega) hC.lock
    have hUh : U.heap = T'.heap.setIfInBounds T.heap.size ce := by rw [eU]; rfl
    have hszT : T'.heap.size = T.heap.size + 1 := by rw [hT']; exact Array.size_push _
    have hother : ∀ q : Nat, q < T.heap.size → U.heap[q]? = H[q]? := fun q hq => by
      rw [hUh, Array.getElem?_setIfInBounds_ne (by omega), hT', ← hT]
      show (T.heap.push _)[q]? = T.heap[q]?
      rw [Array.getElem?_push, if_neg (by omega)]
    refine ⟨U, hsteps, .threw T.heap.size, hrun, hend, ⟨⟨.inr kx, h, ⟨T.heap.size, ce, rfl, ?_, by rw [hce2]; rfl, by rw [hce2]; simp, ?_⟩, ?_, ?_, hW.2.2.2⟩, ?_, ?_⟩, locs, ⟨hWU, ?_⟩, hW.2.2.1.2.2⟩
    · rw [hUh]; exact Array.getElem?_setIfInBounds_self_of_lt (by omega)
    · rw [hWU.alike.findClass, hce1]; exact hfX
    · rw [hUh, Array.size_setIfInBounds, hszT, ← hsz]; exact hq
    · intro q e' hq'
      exact (hW.1 q e' hq').kept (hother q (by rw [hT]; exact hW.1.lt hq'))
    · rw [hUh, Array.size_setIfInBounds, hszT]; omega
    · intro q h1 h2
      rw [hother q (by omega)]
      exact hW.2.2.1.2.1 q h1 h2
    · exact hsame.weaken (fun y hy _ => hy) (by omega) (by omega)
  obtain ⟨t, a1, b1⟩ := fin _ rfl X₁
  exact ⟨t, st1 _ a1, b1⟩
end HVT
end TH1
