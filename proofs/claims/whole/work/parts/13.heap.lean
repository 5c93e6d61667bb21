-- RULES of the heap: fields, arrays, what is made, returns, contracts, calls
theorem W.mono {p : Program} {l : Launch} {e : Env} {R : Room} {s : State} {m : MethodId} {args : Array Value} {below : List Frame} {meth : Method} {c : Code} {H : Heap} {locs : List Loc} {cells slots : Nat} {Q Q' : State → Prop} {g : JFrame} (h : ∀ t, Q t → Q' t) (k : W p l e R s m args below meth c H locs cells slots Q g) : W p l e R s m args below meth c H locs cells slots Q' g := by
  intro T hT X
  obtain ⟨t, a, b⟩ := k T hT X
  exact ⟨t, a, h t b⟩
/-- an index: the number j below n -/
def hv_ix (i : Int32) (n j : Nat) : Prop := i = nI j ∧ j < n ∧ n < 2 ^ 31
theorem hv_ix.in {i : Int32} {n j : Nat} (h : hv_ix i n j) : vp_in i n := by rw [h.1]; exact vp_in_nI h.2.1 h.2.2
theorem hv_ix.cl {i : Int32} {n j : Nat} (h : hv_ix i n j) : i.toNatClampNeg = j := by rw [h.1]; exact nI_clamp (Nat.lt_trans h.2.1 h.2.2)
section HVH
variable {l : Launch} {D : hv_D} {M : hv_M} {X : State → (Nat → Prop) → Prop} {rm : Room} {Q : hv_R → hv_P → Nat → Prop} {bc bs : Nat} {h : hv_P} {nx pc : Nat} {lv : List (Option Value)} {st : List Value}
theorem V_getfield {idx ci k a : Nat} {ty : FieldType} {fs : List Value} {v : Value} (hd : decode M.2.1 pc = .ok (.getfield idx, 3)) (hf : hv_fl M.1.cls idx ci k ty) (he : h a = some (eO ci fs)) (hv : fs[k]? = some v) (kk : hv_V l D M X rm Q bc bs h nx (pc + 3) lv (v :: st)) : hv_V l D M X rm Q bc bs h nx pc lv (.ref a :: st) := by
  intro p e R s m args below meth c A H locs cells slots ls hC hW hb hl
  obtain ⟨C, T, N, tt, ⟨h1, h3, h4, h5, h6⟩, h2, -, h7⟩ := hf
  rcases h7 with h7 | ⟨host, h7⟩
  · exact va_get (own := M.1.cls) (ref := C) hC.1 hC.2.1 hC.word h3 hC.own hC.K.va (hv_one hW.1 he) 0 rfl h1 k h2 (hC.word _ h7) (fun x hx => by rw [h6 k h2] at hx; exact hx) hv hd (kk p e R s m args below meth c A H locs cells slots ls hC hW hb hl)
  · exact va_getN (own := M.1.cls) (ref := C) (host := host) hC.1 hC.2.1 hC.word h3 hC.own hC.K.va (hv_one hW.1 he) 0 rfl h1 k h2 (va_Nw.use rfl (hC.K.2.2.1 _ h7)) (fun x hx => by rw [h6 k h2] at hx; exact hx) hv hd (kk p e R s m args below meth c A H locs cells slots ls hC hW hb hl)
theorem V_putfield {idx ci k a : Nat} {ty : FieldType} {fs : List Value} {v : Value} (hd : decode M.2.1 pc = .ok (.putfield idx, 3)) (hf : hv_fp M.1.cls M.1.name idx ci k ty) (he : h a = some (eO ci fs)) (hl0 : k < fs.length) (hn : narrow ty v = v) (hfit : fits ty v = true) (kk : hv_V l D M X rm Q bc bs (hv_up h a (eO ci (fs.set k v))) nx (pc + 3) lv st) : hv_V l D M X rm Q bc bs h nx pc lv (v :: .ref a :: st) := by
  intro p e R s m args below meth c A H locs cells slots ls hC hW hb hl
  obtain ⟨C, T, N, tt, ⟨hc, hin, hty, hnm, hdc⟩, hk, rfl, h7⟩ := hf
  have hts := hC.word
  have hK := hC.K.va
  have hown := hC.own
  have hap := va_apart (own := M.1.cls) hts hin tt hty hnm hK hc
  obtain ⟨r, h1, cell, q1, q2, q3, q4⟩ := hW.1 a _ he
  have hr : r = (C, T, N) := Option.some.inj (h1.symm.trans hc)
  subst hr
  obtain ⟨hS, hfc, kC, hkC, hkind⟩ := hK.1 ci _ hc
  obtain ⟨cf, kf, fi, f, hi, hsl⟩ := hS k hk
  have hlay := hts _ (hin _ (u_in_lay hk))
  unfold u_lay at hlay
  have hst := (u_facts hfc hkC (u_lays hts hin hk) hi).1
  have hi2 : s.fieldFound? C (T k).2.1 (T k).2.2.1 = some (cf, kf, fi, f) := by rw [← hdc k hk]; exact hi
  have fin : ∀ (H' : Heap) (j : Nat), H'[a]? = some (cell.setSlot f.slot v) → H'.size = H.size → (∀ q, q ≠ a → H'[q]? = H[q]?) → W p l e R s m args below meth c H' (locs ++ [⟨a, j⟩]) cells slots (hv_Z D Q below args s rm.cells rm.slots A) (F0 m (pc + 3) ls st) := by
    intro H' j e1 e2 e3
    rw [hsl] at e1
    exact kk p e R s m args below meth c A H' _ cells slots ls hC (hW.put he ⟨_, hc, t_OB.to (V := updV (vp_V fs) k v) ⟨_, e1, q2, q3, t_set q4 hap hk v⟩ (fun j _ => vp_updV_set hl0 v j)⟩ e2 e3) hb hl
  rcases h7 with ⟨hfin, h7⟩ | ⟨hfin, hmn, hco, h7⟩
  · rw [if_neg (by rw [hfin]; decide)] at hlay
    have h6 := u_store hfc hkC hkind hlay hi (hty k hk) hn hfit
    rcases h7 with h7 | ⟨host, h7⟩
    · exact W.putK hC.1 hC.2.1 (f := f) ⟨hown, hts _ h7, ⟨_, _, _, hi2⟩, hst⟩ (by rw [q2]; exact h6) q1 q3 (by rw [hsl]; exact k2_hasslot (q4 k hk)) rfl rfl hd fun H' e1 e2 e3 => fin H' _ e1 e2 e3
    · exact va_WputK hC.1 hC.2.1 (f := f) hown (va_Nw.use rfl (hC.K.2.2.1 _ h7)) hi2 hst (by rw [q2]; exact h6) q1 q3 (by rw [hsl]; exact k2_hasslot (q4 k hk)) rfl rfl hd fun H' e1 e2 e3 => fin H' _ e1 e2 e3
  · rw [if_pos hfin] at hlay
    have hcf : m.cls = cf := by
      obtain ⟨_, _, c', _, _, _, -, -, hf', -, -, -, hown2, -⟩ := Cond.laysFinal_spec hlay
      have e1 : c' = cf := by have := hi.symm.trans hf'; simp at this; exact this.1.symm
      rw [hdc k hk, hco] at hown2
      rw [← e1]; exact Option.some.inj (hown.symm.trans hown2)
    have h6 := u_fits hfc hkC hkind (Or.inr hlay) hi (hty k hk) hn hfit
    exact W.putFinK hC.1 hC.2.1 hown (hts _ h7) hi2 hst hcf (hC.name.trans hmn) (by rw [q2]; exact h6) q1 q3 (by rw [hsl]; exact k2_hasslot (q4 k hk)) rfl rfl hd fun H' e1 e2 e3 => fin H' _ e1 e2 e3
theorem V_iaload {a n j : Nat} {i : Int32} {f : Nat → Int32} (hd : decode M.2.1 pc = .ok (.iaload, 1)) (he : h a = some (eI n f)) (hi : hv_ix i n j) (kk : hv_V l D M X rm Q bc bs h nx (pc + 1) lv (.int (f j) :: st)) : hv_V l D M X rm Q bc bs h nx pc lv (.int i :: .ref a :: st) := by
  intro p e R s m args below meth c A H locs cells slots ls hC hW hb hl
  refine va_iald hC.1 hC.2.1 (hC.K.one (k := 0) rfl) (hv_one hW.1 he) 0 0 rfl rfl hi.in hd ?_
  rw [hi.cl]
  exact kk p e R s m args below meth c A H locs cells slots ls hC hW hb hl
theorem V_laload {a n j : Nat} {i : Int32} {f : Nat → Int64} (hd : decode M.2.1 pc = .ok (.laload, 1)) (he : h a = some (eL n f)) (hi : hv_ix i n j) (kk : hv_V l D M X rm Q bc bs h nx (pc + 1) lv (.long (f j) :: st)) : hv_V l D M X rm Q bc bs h nx pc lv (.int i :: .ref a :: st) := by
  intro p e R s m args below meth c A H locs cells slots ls hC hW hb hl
  refine va_lald hC.1 hC.2.1 (hC.K.one (k := 1) rfl) (hv_one hW.1 he) 0 0 rfl rfl hi.in hd ?_
  rw [hi.cl]
  exact kk p e R s m args below meth c A H locs cells slots ls hC hW hb hl
theorem V_iastore {a n j : Nat} {i x : Int32} {f : Nat → Int32} (hd : decode M.2.1 pc = .ok (.iastore, 1)) (he : h a = some (eI n f)) (hi : hv_ix i n j) (kk : hv_V l D M X rm Q bc bs (hv_up h a (eI n (va_up f j x))) nx (pc + 1) lv st) : hv_V l D M X rm Q bc bs h nx pc lv (.int x :: .int i :: .ref a :: st) := by
  intro p e R s m args below meth c A H locs cells slots ls hC hW hb hl
  refine W.iast hC.1 hC.2.1 (hW.1 a _ he) (((hC.K.2.1 0 .int rfl).1) n (fun j => .int (f j))) (fun q => by cases q) (by show ¬ (i < 0 ∨ (arrV _ _ _).slots.size ≤ _); rw [arrV_size]; exact hi.in) rfl rfl hd fun H1 e1 z oq => ?_
  refine kk p e R s m args below meth c A H1 _ cells slots ls hC (hW.put he ?_ z oq) hb hl
  show H1[a]? = some (vp_cell _ _)
  rw [e1]
  simp only [hv_a]
  rw [vp_cell_i, vp_cell_i, arrV_store, hi.cl]
  congr 2
  funext q
  by_cases hq : q = j
  · subst hq
    simp [updV, va_up]
  · simp [updV, va_up, hq]
theorem V_lastore {a n j : Nat} {i : Int32} {x : Int64} {f : Nat → Int64} (hd : decode M.2.1 pc = .ok (.lastore, 1)) (he : h a = some (eL n f)) (hi : hv_ix i n j) (kk : hv_V l D M X rm Q bc bs (hv_up h a (eL n (va_up f j x))) nx (pc + 1) lv st) : hv_V l D M X rm Q bc bs h nx pc lv (.long x :: .int i :: .ref a :: st) := by
  intro p e R s m args below meth c A H locs cells slots ls hC hW hb hl
  refine W.last hC.1 hC.2.1 (hW.1 a _ he) (((hC.K.2.1 1 .long rfl).1) n (fun j => .long (f j))) (fun q => by cases q) (by show ¬ (i < 0 ∨ (arrV _ _ _).slots.size ≤ _); rw [arrV_size]; exact hi.in) rfl rfl hd fun H1 e1 z oq => ?_
  refine kk p e R s m args below meth c A H1 _ cells slots ls hC (hW.put he ?_ z oq) hb hl
  show H1[a]? = some (vp_cell _ _)
  rw [e1]
  simp only [hv_a]
  rw [vp_cell_l, vp_cell_l, arrV_store, hi.cl]
  congr 2
  funext q
  by_cases hq : q = j
  · subst hq
    simp [updV, va_up]
  · simp [updV, va_up, hq]
theorem V_arraylength {a k n : Nat} {b : hv_A} (hd : decode M.2.1 pc = .ok (.arraylength, 1)) (he : h a = some (.inl (k, n, b))) (hk : ∃ ty, hv_tys[k]? = some ty) (kk : hv_V l D M X rm Q bc bs h nx (pc + 1) lv (.int (nI n) :: st)) : hv_V l D M X rm Q bc bs h nx pc lv (.ref a :: st) := by
  intro p e R s m args below meth c A H locs cells slots ls hC hW hb hl
  obtain ⟨ty, hk⟩ := hk
  exact va_alen hC.1 hC.2.1 (hC.K.one hk) (hv_one hW.1 he) 0 0 rfl rfl rfl hd (kk p e R s m args below meth c A H locs cells slots ls hC hW hb hl)
theorem V_aaload {a k n j y : Nat} {C : String} {i : Int32} {f : Nat → Option Nat} (hd : decode M.2.1 pc = .ok (.aaload, 1)) (he : h a = some (eQ k n f)) (hk : hv_tys[k]? = some (.object C)) (hi : hv_ix i n j) (hy : f j = some y) (kk : hv_V l D M X rm Q bc bs h nx (pc + 1) lv (.ref y :: st)) : hv_V l D M X rm Q bc bs h nx pc lv (.int i :: .ref a :: st) := by
  intro p e R s m args below meth c A H locs cells slots ls hC hW hb hl
  refine va_aldq hC.1 hC.2.1 (hC.K.one hk) (hv_one hW.1 he) 0 0 rfl rfl hi.in hd ?_
  rw [hi.cl, hy]
  exact kk p e R s m args below meth c A H locs cells slots ls hC hW hb hl
theorem V_aastore {a k n j y ci : Nat} {C : String} {T : u_T} {N : Nat} {vs : List Value} {i : Int32} {f : Nat → Option Nat} (hd : decode M.2.1 pc = .ok (.aastore, 1)) (he : h a = some (eQ k n f)) (hk : hv_tys[k]? = some (.object C)) (hi : hv_ix i n j) (hc : vwCl[ci]? = some (C, T, N)) (hy : h y = some (eO ci vs)) (kk : hv_V l D M X rm Q bc bs (hv_up h a (eQ k n (va_up f j (some y)))) nx (pc + 1) lv st) : hv_V l D M X rm Q bc bs h nx pc lv (.ref y :: .int i :: .ref a :: st) := by
  intro p e R s m args below meth c A H locs cells slots ls hC hW hb hl
  have hin := hi.in
  have hlt : i.toNatClampNeg < n := Nat.not_le.mp fun q => hin (Or.inr q)
  have h0 : ¬ i < 0 := fun q => hin (Or.inl q)
  obtain ⟨r', hr', cellV, g1, g2, g3, -⟩ := hW.1 y _ hy
  have hcls := (hC.K.1 ci _ hc).2
  obtain ⟨kA, comp, k1, k2, k3, -⟩ := (hC.K.2.1 k _ hk).2
  have hcomp : comp = D.1 ci := Option.some.inj (k3.symm.trans hcls.1)
  subst hcomp
  obtain ⟨kC, hkC, -⟩ := hcls.2
  refine W.aast hC.1 hC.2.1 (hW.1 a _ he) (fun q h => by cases h) (fun h => by cases h) k1 k2 rfl hkC ⟨h0, by show _ < (arrV _ _ _).slots.size; rw [arrV_size]; exact hlt⟩ g1 (fun q h => by rw [g3] at h; cases h) (by rw [g2]; exact hkC) (by rw [g2]; exact va_assign hcls) rfl rfl hd fun H1 e1 z oq => ?_
  refine kk p e R s m args below meth c A H1 _ cells slots ls hC (hW.put he ?_ z oq) hb hl
  show H1[a]? = some (vp_cell _ _)
  rw [e1]
  simp only [hv_a]
  rw [vp_cell_q, vp_cell_q, arrV_store, hi.cl]
  congr 2
  funext q
  by_cases hq : q = j
  · subst hq
    simp [updV, va_up, va_rf]
  · simp [updV, va_up, hq]
theorem V_new {idx ci N : Nat} {fs : List Value} (hd : decode M.2.1 pc = .ok (.new idx, 3)) (hf : hv_nw M.1.cls idx ci N fs) (hbc : 1 ≤ bc) (hbs : N ≤ bs) (kk : hv_V l D M X rm Q (bc - 1) (bs - N) (hv_up h nx (eO ci fs)) (nx + 1) (pc + 3) lv (.ref nx :: st)) : hv_V l D M X rm Q bc bs h nx pc lv st := by
  intro p e R s m args below meth c A H locs cells slots ls hC hW hb hl
  obtain ⟨C, T, tt, ⟨hc, hin, hty, hnm, hdc⟩, w1, w2, w3, hfs⟩ := hf
  have hKn := hC.K.va.1 ci _ hc
  have hr := hC.room
  have hnx := hW.2.1
  refine W.newcK hC.1 hC.2.1 hC.own (hC.word _ w1) (hC.word _ w2) (hC.word _ w3) rfl hd (by omega) (by omega) hKn.2.1 hnx fun H1 kC hkC e1 z1 o1 => ?_
  subst hnx
  exact kk p e R s m args below meth c A H1 locs (cells + 1) (slots + N) ls hC (hW.new hC.inA ⟨_, hc, (u_born tt hC.word hin hKn hkC e1 hty).to hfs⟩ z1 o1) ⟨by omega, by omega⟩ hl
theorem V_newI {n : Int32} {N : Nat} (hd : decode M.2.1 pc = .ok (.newarray .int, 2)) (ha : Cond.arrayClass .int ∈ hv_tbl) (hn : n = nI N) (hN : N ≤ 100000000) (hbc : 1 ≤ bc) (hbs : N ≤ bs) (kk : hv_V l D M X rm Q (bc - 1) (bs - N) (hv_up h nx (eI N (fun _ => 0))) (nx + 1) (pc + 2) lv (.ref nx :: st)) : hv_V l D M X rm Q bc bs h nx pc lv (.int n :: st) := by
  intro p e R s m args below meth c A H locs cells slots ls hC hW hb hl
  have hr := hC.room
  have hnx := hW.2.1
  subst hn
  refine va_newaK (atype := .int) hC.1 hC.2.1 (hC.word _ ha) rfl hd rfl (nI_pos (by omega)) (nI_clamp (by omega)) (by show N * 4 ≤ _; omega) (by omega) (by omega) hnx fun H1 cA e1 z1 o1 hAr hNm => ?_
  subst hnx
  have hca : cA = D.2.2 0 := Option.some.inj (hNm.symm.trans (hC.K.2.1 0 .int rfl).2)
  subst hca
  exact kk p e R s m args below meth c A H1 locs (cells + 1) (slots + N) ls hC (hW.new hC.inA e1 z1 o1) ⟨by omega, by omega⟩ hl
theorem V_newL {n : Int32} {N : Nat} (hd : decode M.2.1 pc = .ok (.newarray .long, 2)) (ha : Cond.arrayClass .long ∈ hv_tbl) (hn : n = nI N) (hN : N ≤ 50000000) (hbc : 1 ≤ bc) (hbs : N ≤ bs) (kk : hv_V l D M X rm Q (bc - 1) (bs - N) (hv_up h nx (eL N (fun _ => 0))) (nx + 1) (pc + 2) lv (.ref nx :: st)) : hv_V l D M X rm Q bc bs h nx pc lv (.int n :: st) := by
  intro p e R s m args below meth c A H locs cells slots ls hC hW hb hl
  have hr := hC.room
  have hnx := hW.2.1
  subst hn
  refine va_newaK (atype := .long) hC.1 hC.2.1 (hC.word _ ha) rfl hd rfl (nI_pos (by omega)) (nI_clamp (by omega)) (by show N * 8 ≤ _; omega) (by omega) (by omega) hnx fun H1 cA e1 z1 o1 hAr hNm => ?_
  subst hnx
  have hca : cA = D.2.2 1 := Option.some.inj (hNm.symm.trans (hC.K.2.1 1 .long rfl).2)
  subst hca
  exact kk p e R s m args below meth c A H1 locs (cells + 1) (slots + N) ls hC (hW.new hC.inA e1 z1 o1) ⟨by omega, by omega⟩ hl
theorem V_newQ {n : Int32} {N idx k : Nat} {C : String} (hd : decode M.2.1 pc = .ok (.anewarray idx, 3)) (hcl : Cond.classLink M.1.cls idx C ∈ hv_tbl) (hov : C ∈ hv_over) (hk : hv_tys[k]? = some (.object C)) (hn : n = nI N) (hN : N ≤ 100000000) (hbc : 1 ≤ bc) (hbs : N ≤ bs) (kk : hv_V l D M X rm Q (bc - 1) (bs - N) (hv_up h nx (eQ k N (fun _ => none))) (nx + 1) (pc + 3) lv (.ref nx :: st)) : hv_V l D M X rm Q bc bs h nx pc lv (.int n :: st) := by
  intro p e R s m args below meth c A H locs cells slots ls hC hW hb hl
  have hr := hC.room
  have hnx := hW.2.1
  subst hn
  have hcl2 : (nI N).toNatClampNeg = N := nI_clamp (by omega)
  refine W.anew hC.1 hC.2.1 hC.own (hC.word _ hcl) (va_AO.use (hC.K.2.2.2 C hov)) rfl hd rfl (nI_pos (by omega)) (by rw [hcl2]; omega) (by omega) (by rw [hcl2]; omega) fun cA kA comp f1 f2 f3 f4 => ?_
  rw [hcl2]
  subst hnx
  obtain ⟨kA', comp', k1, k2, k3, k4⟩ := (hC.K.2.1 k _ hk).2
  have hca : cA = D.2.2 k := Option.some.inj (f1.symm.trans k4)
  subst hca
  generalize hH1 : H.push ({ cls := D.2.2 k, slots := Array.replicate N .null, vm := .none } : Cell) = H1
  have z1 : H1.size = H.size + 1 := by rw [← hH1, Array.size_push]
  have e1 : H1[H.size]? = some (arrV (D.2.2 k) N (fun _ => .null)) := by rw [← hH1, Array.getElem?_push_size, ← arrV_new]
  have o1 : ∀ q : Nat, q < H.size → H1[q]? = H[q]? := fun q hq => by rw [← hH1, Array.getElem?_push, if_neg (Nat.ne_of_lt hq)]
  exact kk p e R s m args below meth c A H1 locs (cells + 1) (slots + N) ls hC (hW.new hC.inA e1 z1 o1) ⟨by omega, by omega⟩ hl
theorem hv_end {p : Program} {e : Env} {R : Room} {s : State} {m : MethodId} {args : Array Value} {below : List Frame} {meth : Method} {c : Code} {A : Nat → Prop} {H : Heap} {locs : List Loc} {cells slots : Nat} {g : JFrame} (hb : cells + bc ≤ rm.cells ∧ slots + bs ≤ rm.slots) (k : W p l e R s m args below meth c H locs rm.cells rm.slots (MQ below (hv_Q D Q A) args s rm.cells rm.slots A) g) : W p l e R s m args below meth c H locs cells slots (hv_Z D Q below args s rm.cells rm.slots A) g := by
  refine W.widen (k := rm.cells) (n := rm.slots) (by omega) (by omega) (W.mono (fun t ht => ?_) k)
  obtain ⟨o, h1, h2, h3, L, ⟨h4, h5, h6⟩, h7⟩ := ht
  exact ⟨o, h1, h2, h3, L, ⟨h5, h6⟩, h7⟩
theorem hv_post {s t : State} {A : Nat → Prop} {H : Heap} {locs : List Loc} {args : Array Value} {v : Option Value} (hW : hv_W D h nx A s H locs) (hq : Q (.inl v) h nx) (ht : t.heap = H) : hv_Q D Q A args s (.returned v) t := by
  obtain ⟨w1, w2, w3, w4⟩ := hW
  exact ⟨⟨.inl v, h, rfl, by rw [ht, w2]; exact hq, by rw [ht]; exact w1, w4⟩, w3.F ht⟩
theorem V_ireturn {v : Int32} (hd : decode M.2.1 pc = .ok (.ireturn, 1)) (hr : M.2.2.2 = some .int) (hq : Q (.inl (some (.int v))) h nx) : hv_V l D M X rm Q bc bs h nx pc lv [.int v] := by
  intro p e R s m args below meth c A H locs cells slots ls hC hW hb hl
  exact hv_end hb (W.iret hC.1 hC.2.1 (hC.ret.trans hr) (fun t ht _ => hv_post hW hq ht) hW.2.2.1.2.2 hd hC.lock)
theorem V_zreturn {v : Int32} (hd : decode M.2.1 pc = .ok (.ireturn, 1)) (hr : M.2.2.2 = some .boolean) (hn : narrow .boolean (.int v) = .int v) (hq : Q (.inl (some (.int v))) h nx) : hv_V l D M X rm Q bc bs h nx pc lv [.int v] := by
  intro p e R s m args below meth c A H locs cells slots ls hC hW hb hl
  exact hv_end hb (W.zret hC.1 hC.2.1 (hC.ret.trans hr) hn (fun t ht _ => hv_post hW hq ht) hW.2.2.1.2.2 hd hC.lock)
theorem V_lreturn {v : Int64} (hd : decode M.2.1 pc = .ok (.lreturn, 1)) (hr : M.2.2.2 = some .long) (hq : Q (.inl (some (.long v))) h nx) : hv_V l D M X rm Q bc bs h nx pc lv [.long v] := by
  intro p e R s m args below meth c A H locs cells slots ls hC hW hb hl
  exact hv_end hb (W.lret hC.1 hC.2.1 (hC.ret.trans hr) (fun t ht _ => hv_post hW hq ht) hW.2.2.1.2.2 hd hC.lock)
theorem V_return (hd : decode M.2.1 pc = .ok (.return_, 1)) (hr : M.2.2.2 = none) (hq : Q (.inl none) h nx) : hv_V l D M X rm Q bc bs h nx pc lv [] := by
  intro p e R s m args below meth c A H locs cells slots ls hC hW hb hl
  exact hv_end hb (W.vret hC.1 hC.2.1 (hC.ret.trans hr) (fun t ht _ => hv_post hW hq ht) hW.2.2.1.2.2 hd hC.lock)
theorem V_areturn {a : Nat} {C : String} (hd : decode M.2.1 pc = .ok (.areturn, 1)) (hr : M.2.2.2 = some (.object C)) (hq : Q (.inl (some (.ref a))) h nx) : hv_V l D M X rm Q bc bs h nx pc lv [.ref a] := by
  intro p e R s m args below meth c A H locs cells slots ls hC hW hb hl
  exact hv_end hb (W.aret hC.1 hC.2.1 (hC.ret.trans hr) (Or.inl ⟨C, rfl⟩) (Or.inr ⟨a, rfl⟩) (fun t ht _ => hv_post hW hq ht) hW.2.2.1.2.2 hd hC.lock)
theorem V_tableIn {dflt lo hi : Int} {offs : Array Int} {len : Nat} {x : Int32} {off : Int} (tgt : Nat) (hd : decode M.2.1 pc = .ok (.tableswitch dflt lo hi offs, len)) (h1 : ¬ x.toInt < lo) (h2 : ¬ hi < x.toInt) (ho : offs[(x.toInt - lo).toNat]? = some off) (ht : (pc : Int) + off = (tgt : Int)) (k : hv_V l D M X rm Q bc bs h nx tgt lv st) : hv_V l D M X rm Q bc bs h nx pc lv (.int x :: st) :=
  fun p e R s m args below meth c A H locs cells slots ls hC hW hb hl => lv_tableIn hC.1 hC.2.1 hd h1 h2 ho ht (k p e R s m args below meth c A H locs cells slots ls hC hW hb hl)
theorem V_tableOut {dflt lo hi : Int} {offs : Array Int} {len : Nat} {x : Int32} (tgt : Nat) (hd : decode M.2.1 pc = .ok (.tableswitch dflt lo hi offs, len)) (h0 : x.toInt < lo ∨ hi < x.toInt) (ht : (pc : Int) + dflt = (tgt : Int)) (k : hv_V l D M X rm Q bc bs h nx tgt lv st) : hv_V l D M X rm Q bc bs h nx pc lv (.int x :: st) :=
  fun p e R s m args below meth c A H locs cells slots ls hC hW hb hl => lv_tableOut hC.1 hC.2.1 hd h0 ht (k p e R s m args below meth c A H locs cells slots ls hC hW hb hl)
theorem V_widen {bc' bs' : Nat} (h1 : bc' ≤ bc) (h2 : bs' ≤ bs) (k : hv_V l D M X rm Q bc' bs' h nx pc lv st) : hv_V l D M X rm Q bc bs h nx pc lv st :=
  fun p e R s m args below meth c A H locs cells slots ls hC hW hb hl => k p e R s m args below meth c A H locs cells slots ls hC hW ⟨by omega, by omega⟩ hl
end HVH
-- contracts
/-- frames, locals, cells, slots -/
abbrev hv_rm (f lo c s : Nat) : Room := { frames := f, cells := c, slots := s, locals := lo }
def hv_dom (h : hv_P) (nx : Nat) : Nat → Prop := fun q => (∃ e, h q = some e) ∨ nx ≤ q
def hv_Pc (D : hv_D) (As : List Value) (h : hv_P) (nx : Nat) : Array Value → State → Prop := fun v U => v = As.toArray ∧ U.heap.size = nx ∧ hv_at D h U.heap ∧ hv_K D U
/-- METHOD M, called with As in the heap h (nx cells in all), ends as Q says; rm: the room that it needs -/
def hv_N (l : Launch) (D : hv_D) (M : hv_M) (rm : Room) (As : List Value) (h : hv_P) (nx : Nat) (Q : hv_R → hv_P → Nat → Prop) : Prop :=
  MetFree l M.1 (headSpec (hv_ws M) rm) (hv_Pc D As h nx) (fun _ _ _ _ _ => True) (fun a st o t => hv_Q D Q (hv_dom h nx) a st o t ∧ hv_Fr st t rm.cells rm.slots (hv_dom h nx))
def hv_ent : List Value → Nat → List (Option Value)
  | [], n => List.replicate n none
  | v :: vs, n => match v.category with
    | 2 => some v :: none :: hv_ent vs (n - 2)
    | _ => some v :: hv_ent vs (n - 1)
theorem hv_ent_mem : ∀ (vs : List Value) (n o i : Nat) (v : Value), (hv_ent vs n)[i]? = some (some v) → (o + i, v) ∈ lv_args o vs
  | [], n, o, i, v, h => by
    simp only [hv_ent] at h
    have := List.eq_of_mem_replicate (List.mem_of_getElem? h)
    cases this
  | w :: vs, n, o, i, v, h => by
    rcases lv_cat w with hw | hw
    · simp only [hv_ent, hw] at h
      simp only [lv_args, hw]
      cases i with
      | zero => simp at h; subst h; simp
      | succ i =>
        have := hv_ent_mem vs (n - 1) (o + 1) i v (by simpa using h)
        rw [show o + (i + 1) = o + 1 + i by omega]
        simp [this]
    · simp only [hv_ent, hw] at h
      simp only [lv_args, hw]
      match i, h with
      | 0, h => simp at h; subst h; simp
      | 1, h => simp at h
      | i + 2, h =>
        have := hv_ent_mem vs (n - 2) (o + 2) i v (by simpa using h)
        rw [show o + (i + 2) = o + 2 + i by omega]
        simp [this]
theorem hv_N.of {l : Launch} {D : hv_D} {M : hv_M} {rm : Room} {As : List Value} {h : hv_P} {nx : Nat} {Q : hv_R → hv_P → Nat → Prop} (lv : List (Option Value)) (hy : plainFor M.1 = true) (hlv : hv_ent As M.2.2.1 = lv) (hle : lv.length ≤ M.2.2.1) (hls : (lg_sl As).length ≤ M.2.2.1) (k : hv_V l D M (fun _ _ => True) rm Q rm.cells rm.slots h nx 0 lv []) : hv_N l D M rm As h nx Q := by
  refine MetFree.of_bodySF (code := M.2.1) (maxLocals := M.2.2.1) (ret := M.2.2.2) hy ?_ ?_
  · intro args s m h hn
    obtain ⟨meth, c, h1, h2, h3, h4, h5, h6, -, -⟩ := Cond.code_spec hn (atoms_spec (ws := hv_ws M) h _ List.mem_cons_self)
    exact ⟨meth, c, h1, h2, h3, h4, h5, h6⟩
  · intro p e s m args below meth c s₁ B hml hP _
    obtain ⟨rfl, hsz, hat, hK⟩ := hP
    have hh0 : s₁.heap = s.heap := by rw [B.state]; rfl
    have hts := atoms_spec (ws := hv_ws M) B.pre
    have hC : hv_C D M (fun _ _ => True) rm p rm s m As.toArray meth c (hv_dom h nx) :=
      ⟨B.exec, B.bytes, B.returns, hml, findClass_of_methodNamed B.named, fun w hw => hts w (List.mem_cons_of_mem _ hw), B.notSynchronized, (name_of_methodNamed B.named B.method).1, hK, fun q hq => Or.inr (by omega), ⟨Nat.le_refl _, Nat.le_refl _, Nat.le_refl _, Nat.le_refl _⟩, trivial⟩
    have hl0 := lv_entry As (n := M.2.2.1) hls
    have hL : hv_L ((lg_sl As ++ List.replicate (M.2.2.1 - (lg_sl As).length) Slot.unset).toArray) M.2.2.1 lv := ⟨hl0.1, hle, hl0.2.1, fun i v hi => hl0.2.2 (i, v) (by have := hv_ent_mem As M.2.2.1 0 i v (by rw [hlv]; exact hi); simpa using this)⟩
    have K := k p e rm s m As.toArray below meth c (hv_dom h nx) s.heap [] 0 0 _ hC ⟨hat, hsz, va_S.rf, fun a e he => Or.inl ⟨e, he⟩⟩ ⟨by omega, by omega⟩ hL
    rw [← lg_entry_eq] at K
    obtain ⟨t, a1, o, b1, b2, b3⟩ := K s₁ hh0 (Stand.of_body B)
    exact ⟨t, o, a1, b1, b2, b3⟩
theorem hv_N.mono {l : Launch} {D : hv_D} {M : hv_M} {rm : Room} {As : List Value} {h : hv_P} {nx : Nat} {Q Q' : hv_R → hv_P → Nat → Prop} (hQ : ∀ r h' n', Q r h' n' → Q' r h' n') (hN : hv_N l D M rm As h nx Q) : hv_N l D M rm As h nx Q' := by
  intro p e ha hc hk s m args below hf happ hP hK
  obtain ⟨n, o, h1, h2, h3, ⟨⟨r, h', q1, q2, q3⟩, q4⟩, hF⟩ := hN p e ha hc hk s m args below hf happ hP hK
  exact ⟨n, o, h1, h2, h3, ⟨⟨r, h', q1, hQ _ _ _ q2, q3⟩, q4⟩, hF⟩
theorem hv_N.met {l : Launch} {D : hv_D} {M : hv_M} {rm : Room} {As : List Value} {h : hv_P} {nx : Nat} {Q : hv_R → hv_P → Nat → Prop} (hN : hv_N l D M rm As h nx Q) (hr : ∀ r h' n', Q r h' n' → ∃ v, r = .inl v) : Met l M.1 (hv_ws M) rm (hv_Pc D As h nx) (hv_Q D Q (hv_dom h nx)) rm.cells rm.slots (hv_dom h nx) := by
  intro p e ha hc hk s m args below hf happ hP hK
  obtain ⟨n, o, h1, h2, h3, hq, L, ⟨hw, hs⟩, hL⟩ := hN p e ha hc hk s m args below hf happ hP hK
  refine ⟨n, o, h1, h2, h3, hq, L, ⟨?_, hw, hs⟩, hL⟩
  obtain ⟨⟨r, h', ho, hQ, -⟩, -⟩ := hq
  obtain ⟨v, rfl⟩ := hr _ _ _ hQ
  exact ⟨v, ho⟩
theorem hv_K.moved {D : hv_D} {s U : State} (hW : s.WarmedH U.vm) (h : hv_K D s) (hn : ∀ w ∈ hv_nest, hv_isN w = true) : hv_K D U := by
  have hvm := hW.alike
  refine ⟨fun c q hq => u_Kn_moved hvm (h.1 c q hq), fun k ty hk => ⟨arrOfT_moved hvm (h.2.1 k ty hk).1, (h.2.1 k ty hk).2.moved hvm⟩, fun w hw => ?_, fun C hC => (h.2.2.2 C hC).moved hvm⟩
  have h1 := h.2.2.1 w hw
  have h2 := hn w hw
  cases w <;> first | (simp [hv_isN] at h2; done) | exact va_Nw.warmF hW h1 | exact va_Nw.warmM hW h1
