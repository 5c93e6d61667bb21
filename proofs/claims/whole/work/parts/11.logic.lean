-- THE LOGIC: a method's frame over a pure heap. hv_P: address to entry; hv_V: from here the method ends as Q says.
abbrev hv_A : Type := (Nat → Int32) ⊕ (Nat → Int64) ⊕ (Nat → Option Nat)
abbrev hv_E : Type := (Nat × Nat × hv_A) ⊕ (Nat × List Value)
abbrev hv_P : Type := Nat → Option hv_E
abbrev hv_D : Type := (Nat → ClassId) × (Nat → Nat → Nat) × (Nat → ClassId)
abbrev hv_R : Type := Option Value ⊕ Nat
/-- an array of ints, of longs, of references (its kind in hv_tys), an object of class c -/
abbrev eI (n : Nat) (f : Nat → Int32) : hv_E := .inl (0, n, .inl f)
abbrev eL (n : Nat) (f : Nat → Int64) : hv_E := .inl (1, n, .inr (.inl f))
abbrev eQ (k n : Nat) (f : Nat → Option Nat) : hv_E := .inl (k, n, .inr (.inr f))
abbrev eO (c : Nat) (fs : List Value) : hv_E := .inr (c, fs)
def hv_a (a : hv_A) : (Nat → Int32) ⊕ (Nat → Int64) ⊕ (Nat → UInt32) ⊕ (Nat → UInt64) ⊕ (Nat → Option Nat) := match a with
  | .inl f => .inl f
  | .inr (.inl f) => .inr (.inl f)
  | .inr (.inr f) => .inr (.inr (.inr (.inr f)))
def hv_e (dA : Nat → ClassId) (e : hv_E) : va_E := match e with
  | .inl (k, n, a) => .inl (dA k, n, hv_a a)
  | .inr o => .inr o
def hv_up (h : hv_P) (a : Nat) (e : hv_E) : hv_P := fun q => if q = a then some e else h q
theorem hv_up_s {h : hv_P} {a : Nat} {e : hv_E} : hv_up h a e a = some e := if_pos rfl
theorem hv_up_n {h : hv_P} {a q : Nat} {e : hv_E} (n : q ≠ a) : hv_up h a e q = h q := if_neg n
theorem hv_up_up {h : hv_P} {a : Nat} {e e' : hv_E} : hv_up (hv_up h a e) a e' = hv_up h a e' := by
  funext q
  by_cases n : q = a
  · rw [n, hv_up_s, hv_up_s]
  · rw [hv_up_n n, hv_up_n n, hv_up_n n]
def hv_at (D : hv_D) (h : hv_P) (H : Heap) : Prop := ∀ (a : Nat) (e : hv_E), h a = some e → va_at (D.1, D.2.1) vwCl (a, hv_e D.2.2 e) H
/-- the tables: classes, array classes, links between nest mates -/
def hv_K (D : hv_D) (U : State) : Prop := (∀ (c : Nat) (q : vw_C), vwCl[c]? = some q → u_Kn U q.1 q.2.1 q.2.2 (D.1 c) (D.2.1 c)) ∧ (∀ (k : Nat) (ty : FieldType), hv_tys[k]? = some ty → ArrOfT U (D.2.2 k) ty ∧ va_RA U (D.2.2 k) ty) ∧ (∀ w ∈ hv_nest, va_Nw w U) ∧ ∀ C ∈ hv_over, va_AO C U
theorem hv_K.va {D : hv_D} {U : State} (h : hv_K D U) : va_K (D.1, D.2.1) vwCl [] U := ⟨h.1, fun k q hk => by simp at hk⟩
theorem hv_K.one {D : hv_D} {U : State} (h : hv_K D U) {k : Nat} {ty : FieldType} (hk : hv_tys[k]? = some ty) : va_K (D.1, D.2.1) vwCl [(D.2.2 k, ty)] U := ⟨h.1, fun j q hj => by
  match j, hj with
  | 0, hj => cases hj; exact h.2.1 k ty hk
  | j + 1, hj => simp at hj⟩
theorem hv_one {D : hv_D} {h : hv_P} {H : Heap} (hh : hv_at D h H) {a : Nat} {e : hv_E} (he : h a = some e) : va_P (D.1, D.2.1) vwCl [(a, hv_e D.2.2 e)] H := fun j q hj => by
  match j, hj with
  | 0, hj => cases hj; exact hh a e he
  | j + 1, hj => simp at hj
theorem hv_at.set {D : hv_D} {h : hv_P} {H H1 : Heap} {a : Nat} {e : hv_E} (hh : hv_at D h H) (he : va_at (D.1, D.2.1) vwCl (a, hv_e D.2.2 e) H1) (oq : ∀ q : Nat, q ≠ a → H1[q]? = H[q]?) : hv_at D (hv_up h a e) H1 := by
  intro q e' hq
  by_cases n : q = a
  · subst n
    rw [hv_up_s] at hq
    cases hq
    exact he
  · rw [hv_up_n n] at hq
    exact (hh q e' hq).kept (oq q n)
theorem hv_at.lt {D : hv_D} {h : hv_P} {H : Heap} (hh : hv_at D h H) {a : Nat} {e : hv_E} (he : h a = some e) : a < H.size := (hh a e he).lt
/-- the world: what the heap holds, its size, what has changed since the start, what may change -/
def hv_W (D : hv_D) (h : hv_P) (nx : Nat) (A : Nat → Prop) (s : State) (H : Heap) (locs : List Loc) : Prop := hv_at D h H ∧ H.size = nx ∧ va_S A s.heap H locs ∧ ∀ (a : Nat) (e : hv_E), h a = some e → A a
theorem hv_W.put {D : hv_D} {h : hv_P} {nx : Nat} {A : Nat → Prop} {s : State} {H H1 : Heap} {locs : List Loc} {a k : Nat} {e0 e : hv_E} (hW : hv_W D h nx A s H locs) (h0 : h a = some e0) (he : va_at (D.1, D.2.1) vwCl (a, hv_e D.2.2 e) H1) (z : H1.size = H.size) (oq : ∀ q : Nat, q ≠ a → H1[q]? = H[q]?) : hv_W D (hv_up h a e) nx A s H1 (locs ++ [⟨a, k⟩]) := by
  obtain ⟨w1, w2, w3, w4⟩ := hW
  refine ⟨w1.set he oq, z.trans w2, w3.put z oq (w4 a e0 h0), fun q e' hq => ?_⟩
  by_cases n : q = a
  · rw [n]; exact w4 a e0 h0
  · rw [hv_up_n n] at hq; exact w4 q e' hq
theorem hv_W.new {D : hv_D} {h : hv_P} {nx : Nat} {A : Nat → Prop} {s : State} {H H1 : Heap} {locs : List Loc} {e : hv_E} (hW : hv_W D h nx A s H locs) (hA : ∀ q : Nat, s.heap.size ≤ q → A q) (he : va_at (D.1, D.2.1) vwCl (H.size, hv_e D.2.2 e) H1) (z : H1.size = H.size + 1) (oq : ∀ q : Nat, q < H.size → H1[q]? = H[q]?) : hv_W D (hv_up h nx e) (nx + 1) A s H1 locs := by
  obtain ⟨w1, w2, w3, w4⟩ := hW
  subst w2
  refine ⟨fun q e' hq => ?_, z, ⟨Nat.le_trans w3.1 (by omega), fun x h1 h2 => (oq x (Nat.lt_of_lt_of_le h1 w3.1)).trans (w3.2.1 x h1 h2), w3.2.2⟩, fun q e' hq => ?_⟩
  · by_cases n : q = H.size
    · subst n
      rw [hv_up_s] at hq
      cases hq
      exact he
    · rw [hv_up_n n] at hq
      exact (w1 q e' hq).kept (oq q (w1.lt hq))
  · by_cases n : q = H.size
    · rw [n]; exact hA _ w3.1
    · rw [hv_up_n n] at hq; exact w4 q e' hq
/-- locals: a place each; none: nothing is known of it -/
def hv_L (ls : Array Slot) (n : Nat) (lv : List (Option Value)) : Prop := ls.size = n ∧ lv.length ≤ n ∧ lv_wf ls ∧ ∀ (i : Nat) (v : Value), lv[i]? = some (some v) → ls[i]? = some (.val v)
def hv_f : Nat → List (Option Value) → List (Nat × Value)
  | _, [] => []
  | i, none :: r => hv_f (i + 1) r
  | i, some v :: r => (i, v) :: hv_f (i + 1) r
theorem hv_f_mem : ∀ (lv : List (Option Value)) (i : Nat) (q : Nat × Value), q ∈ hv_f i lv ↔ ∃ j, lv[j]? = some (some q.2) ∧ q.1 = i + j
  | [], i, q => by simp [hv_f]
  | none :: r, i, q => by
    simp only [hv_f]
    rw [hv_f_mem r (i + 1) q]
    constructor
    · rintro ⟨j, h1, h2⟩
      exact ⟨j + 1, by simpa using h1, by omega⟩
    · rintro ⟨j, h1, h2⟩
      cases j with
      | zero => simp at h1
      | succ j => exact ⟨j, by simpa using h1, by omega⟩
  | some v :: r, i, q => by
    simp only [hv_f, List.mem_cons]
    rw [hv_f_mem r (i + 1) q]
    constructor
    · rintro (rfl | ⟨j, h1, h2⟩)
      · exact ⟨0, by simp, by simp⟩
      · exact ⟨j + 1, by simpa using h1, by omega⟩
    · rintro ⟨j, h1, h2⟩
      cases j with
      | zero =>
        left
        obtain ⟨a, b⟩ := q
        simp at h1 h2
        rw [h1, h2]
      | succ j => exact Or.inr ⟨j, by simpa using h1, by omega⟩
theorem hv_L.has {ls : Array Slot} {n : Nat} {lv : List (Option Value)} (h : hv_L ls n lv) : lv_has ls n (hv_f 0 lv) := by
  refine ⟨h.1, h.2.2.1, fun q hq => ?_⟩
  obtain ⟨j, h1, h2⟩ := (hv_f_mem lv 0 q).mp hq
  rw [show q.1 = j by omega]
  exact h.2.2.2 j q.2 h1
theorem hv_L.has1 {ls : Array Slot} {n i : Nat} {v : Value} {lv : List (Option Value)} (h : hv_L ls n lv) (hi : lv[i]? = some (some v)) : lv_has ls n ((i, v) :: hv_f 0 lv) := by
  refine ⟨h.1, h.2.2.1, fun q hq => ?_⟩
  rcases List.mem_cons.mp hq with rfl | hq
  · exact h.2.2.2 i v hi
  · exact h.has.2.2 q hq
theorem hv_L.lt {ls : Array Slot} {n i : Nat} {lv : List (Option Value)} (h : hv_L ls n lv) (hi : i < lv.length) : i < n := Nat.lt_of_lt_of_le hi h.2.1
/-- no long lies there -/
def hv_ok (o : Option Value) : Bool := match o with
  | some (.long _) => false
  | some (.double _) => false
  | _ => true
def hv_pv (lv : List (Option Value)) : Nat → Bool
  | 0 => true
  | j + 1 => hv_ok (lv.getD j none)
theorem hv_pv_cat {lv : List (Option Value)} {i j : Nat} {v : Value} (h : hv_pv lv i = true) (hj : j + 1 = i) (hv : lv[j]? = some (some v)) : ¬ v.category = 2 := by
  subst hj
  simp only [hv_pv, List.getD, hv, Option.getD_some] at h
  cases v <;> simp_all [hv_ok, Value.category]
theorem hv_L.st1' {ls ls' : Array Slot} {n i : Nat} {v : Value} {lv : List (Option Value)} {x : Nat × Value} (h : hv_L ls n lv) (hi : i < lv.length) (hp : hv_pv lv i = true) (h' : lv_has ls' n ((i, v) :: (x :: hv_f 0 lv).filter (fun q => !(q.1 == i) && !(q.1 + 1 == i && q.2.category == 2)))) : hv_L ls' n (lv.set i (some v)) := by
  refine ⟨h'.1, by simpa using h.2.1, h'.2.1, fun j w hj => h'.2.2 (j, w) ?_⟩
  by_cases e : i = j
  · subst e
    rw [List.getElem?_set_self hi] at hj
    cases hj
    exact List.mem_cons_self
  · rw [List.getElem?_set_ne e] at hj
    refine List.mem_cons_of_mem _ (List.mem_filter.mpr ⟨List.mem_cons_of_mem _ ((hv_f_mem lv 0 (j, w)).mpr ⟨j, hj, by simp⟩), ?_⟩)
    have e2 : ¬ j = i := fun q => e q.symm
    by_cases e3 : j + 1 = i
    · have := hv_pv_cat hp e3 hj
      simp [e2, this]
    · simp [e2, e3]
theorem hv_L.st1 {ls ls' : Array Slot} {n i : Nat} {v : Value} {lv : List (Option Value)} (h : hv_L ls n lv) (hi : i < lv.length) (hp : hv_pv lv i = true) (h' : lv_has ls' n ((i, v) :: (hv_f 0 lv).filter (fun q => !(q.1 == i) && !(q.1 + 1 == i && q.2.category == 2)))) : hv_L ls' n (lv.set i (some v)) := by
  refine h.st1' (x := (i, v)) hi hp ?_
  rw [List.filter_cons_of_neg (by simp)]
  exact h'
theorem hv_L.st2 {ls ls' : Array Slot} {n i : Nat} {v : Value} {lv : List (Option Value)} (h : hv_L ls n lv) (hi : i + 1 < lv.length) (hp : hv_pv lv i = true) (h' : lv_has ls' n ((i, v) :: (hv_f 0 lv).filter (fun q => !(q.1 == i) && (!(q.1 == i + 1) && !(q.1 + 1 == i && q.2.category == 2))))) : hv_L ls' n ((lv.set i (some v)).set (i + 1) none) := by
  refine ⟨h'.1, by simpa using h.2.1, h'.2.1, fun j w hj => h'.2.2 (j, w) ?_⟩
  by_cases e1 : i + 1 = j
  · subst e1
    rw [List.getElem?_set_self (by simpa using hi)] at hj
    cases hj
  · rw [List.getElem?_set_ne e1] at hj
    by_cases e : i = j
    · subst e
      rw [List.getElem?_set_self (by omega)] at hj
      cases hj
      exact List.mem_cons_self
    · rw [List.getElem?_set_ne e] at hj
      refine List.mem_cons_of_mem _ (List.mem_filter.mpr ⟨(hv_f_mem lv 0 (j, w)).mpr ⟨j, hj, by simp⟩, ?_⟩)
      have e2 : ¬ j = i := fun q => e q.symm
      have e4 : ¬ j = i + 1 := fun q => e1 q.symm
      by_cases e3 : j + 1 = i
      · have := hv_pv_cat hp e3 hj
        simp [e2, e4, this]
      · simp [e2, e3, e4]
theorem hv_L.drop {ls : Array Slot} {n i : Nat} {lv : List (Option Value)} (h : hv_L ls n lv) : hv_L ls n (lv.set i none) := by
  refine ⟨h.1, by simpa using h.2.1, h.2.2.1, fun j w hj => ?_⟩
  by_cases e : i = j
  · subst e
    by_cases hi : i < lv.length
    · rw [List.getElem?_set_self hi] at hj
      cases hj
    · rw [List.getElem?_eq_none (by simpa using hi)] at hj
      cases hj
  · rw [List.getElem?_set_ne e] at hj
    exact h.2.2.2 j w hj
/-- how a method ends: it returned, or it threw an object of the class hv_exn k -/
def hv_O (r : hv_R) (o : Outcome) (t : State) : Prop := match r with
  | .inl v => o = .returned v
  | .inr k => ∃ (x : Addr) (cell : Cell), o = .threw x ∧ t.heap[x]? = some cell ∧ cell.vm.isStatics = false ∧ cell.vm ≠ .unknown ∧ t.vm.findClass (hv_exn k) = some cell.cls
def hv_Q (D : hv_D) (Q : hv_R → hv_P → Nat → Prop) (A : Nat → Prop) : Array Value → State → Outcome → State → Prop := fun _ st o t => (∃ (r : hv_R) (h : hv_P), hv_O r o t ∧ Q r h t.heap.size ∧ hv_at D h t.heap ∧ ∀ (a : Nat) (e : hv_E), h a = some e → A a) ∧ va_F A st t
def hv_Fr (s : State) (t : State) (mc ms : Nat) (A : Nat → Prop) : Prop := ∃ L : List Loc, (s.WarmedH t.vm ∧ s.sameButNew ({ t with vm := s.vm } : State) L mc ms) ∧ ∀ q ∈ L, A q.base
def hv_Z (D : hv_D) (Q : hv_R → hv_P → Nat → Prop) (below : List Frame) (args : Array Value) (s : State) (mc ms : Nat) (A : Nat → Prop) : State → Prop := fun t => ∃ o, t.status = .running ∧ Ended t below o ∧ hv_Q D Q A args s o t ∧ hv_Fr s t mc ms A
def hv_ws (M : hv_M) : List Cond := .code M.1 M.2.1 M.2.2.1 M.2.2.2 :: hv_tbl
def hv_C (D : hv_D) (M : hv_M) (X : State → (Nat → Prop) → Prop) (rm : Room) (p : Program) (R : Room) (s : State) (m : MethodId) (args : Array Value) (meth : Method) (c : Code) (A : Nat → Prop) : Prop :=
  p.tables.exec = Jvm.exec ∧ c.code = M.2.1 ∧ meth.sig.returnType = M.2.2.2 ∧ c.maxLocals = M.2.2.1 ∧ s.vm.findClass M.1.cls = some m.cls ∧ (∀ w ∈ hv_tbl, w.before args s = true) ∧ meth.locks = false ∧ meth.name = M.1.name ∧ hv_K D s ∧ (∀ q : Nat, s.heap.size ≤ q → A q) ∧ (rm.frames ≤ R.frames ∧ rm.locals ≤ R.locals ∧ rm.cells ≤ R.cells ∧ rm.slots ≤ R.slots) ∧ X s A
section HVC
variable {D : hv_D} {M : hv_M} {X : State → (Nat → Prop) → Prop} {rm : Room} {p : Program} {R : Room} {s : State} {m : MethodId} {args : Array Value} {meth : Method} {c : Code} {A : Nat → Prop}
theorem hv_C.ret (h : hv_C D M X rm p R s m args meth c A) : meth.sig.returnType = M.2.2.2 := h.2.2.1
theorem hv_C.maxL (h : hv_C D M X rm p R s m args meth c A) : c.maxLocals = M.2.2.1 := h.2.2.2.1
theorem hv_C.own (h : hv_C D M X rm p R s m args meth c A) : s.vm.findClass M.1.cls = some m.cls := h.2.2.2.2.1
theorem hv_C.word (h : hv_C D M X rm p R s m args meth c A) : ∀ w ∈ hv_tbl, w.before args s = true := h.2.2.2.2.2.1
theorem hv_C.lock (h : hv_C D M X rm p R s m args meth c A) : meth.locks = false := h.2.2.2.2.2.2.1
theorem hv_C.name (h : hv_C D M X rm p R s m args meth c A) : meth.name = M.1.name := h.2.2.2.2.2.2.2.1
theorem hv_C.K (h : hv_C D M X rm p R s m args meth c A) : hv_K D s := h.2.2.2.2.2.2.2.2.1
theorem hv_C.inA (h : hv_C D M X rm p R s m args meth c A) : ∀ q : Nat, s.heap.size ≤ q → A q := h.2.2.2.2.2.2.2.2.2.1
theorem hv_C.room (h : hv_C D M X rm p R s m args meth c A) : rm.frames ≤ R.frames ∧ rm.locals ≤ R.locals ∧ rm.cells ≤ R.cells ∧ rm.slots ≤ R.slots := h.2.2.2.2.2.2.2.2.2.2.1
theorem hv_C.ext (h : hv_C D M X rm p R s m args meth c A) : X s A := h.2.2.2.2.2.2.2.2.2.2.2
end HVC
def hv_V (l : Launch) (D : hv_D) (M : hv_M) (X : State → (Nat → Prop) → Prop) (rm : Room) (Q : hv_R → hv_P → Nat → Prop) (bc bs : Nat) (h : hv_P) (nx pc : Nat) (lv : List (Option Value)) (st : List Value) : Prop :=
  ∀ (p : Program) (e : Env) (R : Room) (s : State) (m : MethodId) (args : Array Value) (below : List Frame) (meth : Method) (c : Code) (A : Nat → Prop) (H : Heap) (locs : List Loc) (cells slots : Nat) (ls : Array Slot),
    hv_C D M X rm p R s m args meth c A → hv_W D h nx A s H locs → cells + bc ≤ rm.cells ∧ slots + bs ≤ rm.slots → hv_L ls M.2.2.1 lv →
    W p l e R s m args below meth c H locs cells slots (hv_Z D Q below args s rm.cells rm.slots A) (F0 m pc ls st)
