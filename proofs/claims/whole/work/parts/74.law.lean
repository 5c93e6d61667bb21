-- THE LAW: the rules of its script; one call of each kind
abbrev M_L_law : hv_M := (x, code, 8, ret)
def hv_XL (sb L : Nat) (xs : Nat → Int32) (s : State) (A : Nat → Prop) : Prop := (hv_EX s ∧ hv_ns s A) ∧ (va_X sb L xs s s.heap ∧ sb < s.heap.size ∧ ¬ A sb)
section HVS
variable {l : Launch} {D : hv_D} {M : hv_M} {X : State → (Nat → Prop) → Prop} {rm : Room} {Q : hv_R → hv_P → Nat → Prop} {bc bs : Nat} {h : hv_P} {nx pc : Nat} {lv : List (Option Value)} {st : List Value}
theorem V_sld {sb L j : Nat} {xs : Nat → Int32} {i v : Int32} (hX : ∀ s A, X s A → va_X sb L xs s s.heap ∧ sb < s.heap.size ∧ ¬ A sb) (hd : decode M.2.1 pc = .ok (.iaload, 1)) (hi : hv_ix i L j) (hv : xs j = v) (kk : hv_V l D M X rm Q bc bs h nx (pc + 1) lv (.int v :: st)) : hv_V l D M X rm Q bc bs h nx pc lv (.int i :: .ref sb :: st) := by
  intro p e R s m args below meth c A H locs cells slots ls hC hW hb hl
  obtain ⟨h1, h2, h3⟩ := hX s A hC.ext
  refine va_sld hC.1 hC.2.1 h1 h2 h3 hW.2.2.1 hi.in hd ?_
  rw [hi.cl, hv]
  exact kk p e R s m args below meth c A H locs cells slots ls hC hW hb hl
theorem V_slen {sb L : Nat} {xs : Nat → Int32} (hX : ∀ s A, X s A → va_X sb L xs s s.heap ∧ sb < s.heap.size ∧ ¬ A sb) (hd : decode M.2.1 pc = .ok (.arraylength, 1)) (kk : hv_V l D M X rm Q bc bs h nx (pc + 1) lv (.int (nI L) :: st)) : hv_V l D M X rm Q bc bs h nx pc lv (.ref sb :: st) := by
  intro p e R s m args below meth c A H locs cells slots ls hC hW hb hl
  obtain ⟨h1, h2, h3⟩ := hX s A hC.ext
  exact va_slen hC.1 hC.2.1 h1 h2 h3 hW.2.2.1 hd (kk p e R s m args below meth c A H locs cells slots ls hC hW hb hl)
end HVS
theorem kS_fr {h h' : hv_P} {k : Nat} {th : Int32} {c : Nat} {pl : Nat → Nat} {la : Nat → Option Nat} {re im : Nat → Int32} (S : kS h k th c pl la re im) (f : ∀ q, k ≤ q → q ≤ k + 19 → h' q = h q) : kS h' k th c pl la re im := by
  have e : ∀ j, j ≤ 19 → h' (k + j) = h (k + j) := fun j hj => f _ (by omega) (by omega)
  have e0 : h' k = h k := f _ (by omega) (by omega)
  unfold kS at S ⊢
  rw [e0, e 1 (by decide), e 2 (by decide), e 3 (by decide), e 4 (by decide), e 5 (by decide), e 6 (by decide), e 7 (by decide), e 8 (by decide), e 9 (by decide), e 10 (by decide), e 11 (by decide), e 12 (by decide), e 13 (by decide), e 14 (by decide), e 15 (by decide), e 16 (by decide), e 17 (by decide), e 18 (by decide), e 19 (by decide)]
  exact S
/-- the law's heap: the object, the model, the place for a value -/
def lS (h : hv_P) (b c : Nat) (pl : Nat → Nat) (la : Nat → Option Nat) (re im : Nat → Int32) (n : Nat) : Prop := (∃ wk, nS h b wk c pl la re im n) ∧ (∃ th, kS h (b + 70) th c pl la re im) ∧ (∃ f : Nat → Int64, h (b + 90) = some (eL 1 f)) ∧ ∀ t, t < 10 → pl t ≤ 6
def PHI (n : Nat) : Nat := 300032 - 4 * n
theorem PHI_g {n nd : Nat} (h1 : n < nd) (h2 : nd ≤ 37504) : 2 * max nd (2 * n) + PHI (max nd (2 * n)) ≤ PHI n := by
  unfold PHI
  omega
theorem cmp_self (y : Int64) : lg_cmp y y = 0 := by
  unfold lg_cmp
  simp
theorem cw_L_value : Cond.codeWith M_L_value.1 M_L_value.2.1 M_L_value.2.2.1 M_L_value.2.2.2 [(0, 9, 12, 13), (0, 9, 16, 15)] ∈ hv_tbl := hv_mem 426 (by decide +kernel) (by decide +kernel)
theorem cw_L_slope : Cond.codeWith M_L_slope.1 M_L_slope.2.1 M_L_slope.2.2.1 M_L_slope.2.2.2 [(0, 13, 16, 13), (0, 13, 20, 15)] ∈ hv_tbl := hv_mem 585 (by decide +kernel) (by decide +kernel)
theorem pd_L_value : (parseMethodDescriptor M_L_value.1.desc).map (fun d => d.parameters.length) = some 4 := by decide +kernel
theorem pd_L_slope : (parseMethodDescriptor M_L_slope.1.desc).map (fun d => d.parameters.length) = some 6 := by decide +kernel
theorem sl_L_49 : Cond.methodLink "NetworkOrdersLaw" 49 M_L_value.1 ∈ hv_tbl := hv_mem 424 (by decide +kernel) (by decide +kernel)
theorem sl_L_58 : Cond.methodLink "NetworkOrdersLaw" 58 M_L_slope.1 ∈ hv_tbl := hv_mem 583 (by decide +kernel) (by decide +kernel)
theorem si_L : Cond.initialized "NetworkOrdersLaw" ∈ hv_tbl := hv_mem 56 (by decide +kernel) (by decide +kernel)
theorem ss_L_value : Cond.static M_L_value.1 ∈ hv_tbl := hv_mem 425 (by decide +kernel) (by decide +kernel)
theorem ss_L_slope : Cond.static M_L_slope.1 ∈ hv_tbl := hv_mem 584 (by decide +kernel) (by decide +kernel)
set_option maxRecDepth 100000 in
set_option maxHeartbeats 4000000 in
theorem law_open (l : Launch) (htr : ∀ e, l.admits e → e.platform.stackTraces = false) (D : hv_D) {sb L b c n nx bc bs i : Nat} {xs : Nat → Int32} {h : hv_P} {pl : Nat → Nat} {la : Nat → Option Nat} {re im : Nat → Int32} (hL : L ≤ 2560) (hi5 : i + 5 ≤ L) (hS : lS h b c pl la re im n) (hnx : b + 91 ≤ nx) (hbc : 2 ≤ bc) (hbs : 6 + PHI n ≤ bs) (K : ∀ (h3 : hv_P) (c3 : Nat) (pl3 : Nat → Nat) (la3 : Nat → Option Nat) (re3 im3 : Nat → Int32) (n3 : Nat), lS h3 b c3 pl3 la3 re3 im3 n3 → ∀ nx3 bc3 bs3 : Nat, b + 91 ≤ nx3 → bc ≤ bc3 + 2 → bs + PHI n3 ≤ bs3 + PHI n + 6 → hv_V l D M_L_law (hv_XL sb L xs) (hv_rm 11 394 601024 7293034) (hv_ans (some (.int 1)) (fun _ _ => True)) bc3 bs3 h3 nx3 588 [some (.ref sb), some (.ref b), some (.ref (b + 70)), some (.ref (b + 90)), some (.int (nI (i))), none, none, none] []) : hv_V l D M_L_law (hv_XL sb L xs) (hv_rm 11 394 601024 7293034) (hv_ans (some (.int 1)) (fun _ _ => True)) bc bs h nx 254 [some (.ref sb), some (.ref b), some (.ref (b + 70)), some (.ref (b + 90)), some (.int (nI (i))), none, none, none] [] := by
  obtain ⟨⟨wk, ns⟩, ⟨th, ks⟩, ⟨f, ho⟩, hP⟩ := hS
  have ns0 := ns
  obtain ⟨lk, cu, u, l0, cp, hb, _⟩ := ns0
  have hN := ns.ok
  have hc10 := hN.1
  refine V_aload_n d_L_law_254 rfl ?_
  refine V_callV1 d_L_law_255 ml_L_44 mB_N_open mi_N_open mv_N_open rfl hb (c_N_open l D _ _ ns ) rfl rfl rfl rfl rfl rfl rfl ?_
  rintro h9 n9 ⟨e9, fr9, wk9, ns9⟩
  have e9 := e9.symm
  subst e9
  have ks9 := kS_fr ks (fun q a b => fr9 q (by omega))
  have ks90 := ks9
  obtain ⟨⟨o1, o2, o3, o4, o5, o6, o7, o8, s1, s2, hk9⟩, _⟩ := ks90
  refine V_aload_n d_L_law_258 rfl ?_
  refine V_callV1 d_L_law_259 ml_L_48 mB_K_open mi_K_open mv_K_open rfl hk9 (c_K_open l D _ _ ks9 hN ) rfl rfl rfl rfl rfl rfl rfl ?_
  rintro h10 n10 ⟨e10, kf10, ks10⟩
  have e10 := e10.symm
  subst e10
  refine V_icmp_eq 588 d_L_law_262 (by decide) (fun _ => ?_) (fun q => absurd rfl q)
  exact K h10 c pl la re im n ⟨⟨wk9, ns9.fr (fun q hq => kf10 q (by omega))⟩, ⟨0, ks10⟩, ⟨f, (kf10 _ (by omega)).trans ((fr9 _ (by omega)).trans ho)⟩, hP⟩ _ _ _ hnx (by omega) (by omega)

set_option maxRecDepth 100000 in
set_option maxHeartbeats 4000000 in
theorem law_cost (l : Launch) (htr : ∀ e, l.admits e → e.platform.stackTraces = false) (D : hv_D) {sb L b c n nx bc bs i : Nat} {xs : Nat → Int32} {h : hv_P} {pl : Nat → Nat} {la : Nat → Option Nat} {re im : Nat → Int32} (hL : L ≤ 2560) (hi5 : i + 5 ≤ L) (hS : lS h b c pl la re im n) (hnx : b + 91 ≤ nx) (hbc : 2 ≤ bc) (hbs : 6 + PHI n ≤ bs) (K : ∀ (h3 : hv_P) (c3 : Nat) (pl3 : Nat → Nat) (la3 : Nat → Option Nat) (re3 im3 : Nat → Int32) (n3 : Nat), lS h3 b c3 pl3 la3 re3 im3 n3 → ∀ nx3 bc3 bs3 : Nat, b + 91 ≤ nx3 → bc ≤ bc3 + 2 → bs + PHI n3 ≤ bs3 + PHI n + 6 → hv_V l D M_L_law (hv_XL sb L xs) (hv_rm 11 394 601024 7293034) (hv_ans (some (.int 1)) (fun _ _ => True)) bc3 bs3 h3 nx3 588 [some (.ref sb), some (.ref b), some (.ref (b + 70)), some (.ref (b + 90)), some (.int (nI (i))), none, none, none] []) : hv_V l D M_L_law (hv_XL sb L xs) (hv_rm 11 394 601024 7293034) (hv_ans (some (.int 1)) (fun _ _ => True)) bc bs h nx 425 [some (.ref sb), some (.ref b), some (.ref (b + 70)), some (.ref (b + 90)), some (.int (nI (i))), none, none, none] [] := by
  obtain ⟨⟨wk, ns⟩, ⟨th, ks⟩, ⟨f, ho⟩, hP⟩ := hS
  have ns0 := ns
  obtain ⟨lk, cu, u, l0, cp, hb, _⟩ := ns0
  have hN := ns.ok
  have hc10 := hN.1
  refine V_aload_n d_L_law_425 rfl ?_
  refine V_callV1 d_L_law_426 ml_L_62 mB_N_cost mi_N_cost mv_N_cost rfl hb (c_N_cost l D _ _ ns ) rfl rfl rfl rfl rfl rfl rfl ?_
  rintro h9 n9 ⟨e9, fr9, wk9, ns9⟩
  have e9 := e9.symm
  subst e9
  have ks9 := kS_fr ks (fun q a b => fr9 q (by omega))
  have ks90 := ks9
  obtain ⟨⟨o1, o2, o3, o4, o5, o6, o7, o8, s1, s2, hk9⟩, _⟩ := ks90
  refine V_aload_n d_L_law_429 rfl ?_
  refine V_callV1 d_L_law_430 ml_L_65 mB_K_cost mi_K_cost mv_K_cost rfl hk9 (c_K_cost l D _ _ ks9 hN ) rfl rfl rfl rfl rfl rfl rfl ?_
  rintro h10 n10 ⟨e10, kf10, ks10⟩
  have e10 := e10.symm
  subst e10
  refine V_icmp_eq 588 d_L_law_433 (by decide) (fun _ => ?_) (fun q => absurd rfl q)
  exact K h10 c pl la re im n ⟨⟨wk9, ns9.fr (fun q hq => kf10 q (by omega))⟩, ⟨0, ks10⟩, ⟨f, (kf10 _ (by omega)).trans ((fr9 _ (by omega)).trans ho)⟩, hP⟩ _ _ _ hnx (by omega) (by omega)

set_option maxRecDepth 100000 in
set_option maxHeartbeats 4000000 in
theorem law_peak (l : Launch) (htr : ∀ e, l.admits e → e.platform.stackTraces = false) (D : hv_D) {sb L b c n nx bc bs i : Nat} {xs : Nat → Int32} {h : hv_P} {pl : Nat → Nat} {la : Nat → Option Nat} {re im : Nat → Int32} (hL : L ≤ 2560) (hi5 : i + 5 ≤ L) (hS : lS h b c pl la re im n) (hnx : b + 91 ≤ nx) (hbc : 2 ≤ bc) (hbs : 6 + PHI n ≤ bs) (K : ∀ (h3 : hv_P) (c3 : Nat) (pl3 : Nat → Nat) (la3 : Nat → Option Nat) (re3 im3 : Nat → Int32) (n3 : Nat), lS h3 b c3 pl3 la3 re3 im3 n3 → ∀ nx3 bc3 bs3 : Nat, b + 91 ≤ nx3 → bc ≤ bc3 + 2 → bs + PHI n3 ≤ bs3 + PHI n + 6 → hv_V l D M_L_law (hv_XL sb L xs) (hv_rm 11 394 601024 7293034) (hv_ans (some (.int 1)) (fun _ _ => True)) bc3 bs3 h3 nx3 588 [some (.ref sb), some (.ref b), some (.ref (b + 70)), some (.ref (b + 90)), some (.int (nI (i))), none, none, none] []) : hv_V l D M_L_law (hv_XL sb L xs) (hv_rm 11 394 601024 7293034) (hv_ans (some (.int 1)) (fun _ _ => True)) bc bs h nx 438 [some (.ref sb), some (.ref b), some (.ref (b + 70)), some (.ref (b + 90)), some (.int (nI (i))), none, none, none] [] := by
  obtain ⟨⟨wk, ns⟩, ⟨th, ks⟩, ⟨f, ho⟩, hP⟩ := hS
  have ns0 := ns
  obtain ⟨lk, cu, u, l0, cp, hb, _⟩ := ns0
  have hN := ns.ok
  have hc10 := hN.1
  refine V_aload_n d_L_law_438 rfl ?_
  refine V_callV1 d_L_law_439 ml_L_66 mB_N_peak mi_N_peak mv_N_peak rfl hb (c_N_peak l D _ _ ns ) rfl rfl rfl rfl rfl rfl rfl ?_
  rintro h9 n9 ⟨e9, fr9, wk9, ns9⟩
  have e9 := e9.symm
  subst e9
  have ks9 := kS_fr ks (fun q a b => fr9 q (by omega))
  have ks90 := ks9
  obtain ⟨⟨o1, o2, o3, o4, o5, o6, o7, o8, s1, s2, hk9⟩, _⟩ := ks90
  refine V_aload_n d_L_law_442 rfl ?_
  refine V_callV1 d_L_law_443 ml_L_69 mB_K_peak mi_K_peak mv_K_peak rfl hk9 (c_K_peak l D _ _ ks9 hN ) rfl rfl rfl rfl rfl rfl rfl ?_
  rintro h10 n10 ⟨e10, kf10, ks10⟩
  have e10 := e10.symm
  subst e10
  refine V_icmp_eq 588 d_L_law_446 (by decide) (fun _ => ?_) (fun q => absurd rfl q)
  exact K h10 c pl la re im n ⟨⟨wk9, ns9.fr (fun q hq => kf10 q (by omega))⟩, ⟨0, ks10⟩, ⟨f, (kf10 _ (by omega)).trans ((fr9 _ (by omega)).trans ho)⟩, hP⟩ _ _ _ hnx (by omega) (by omega)

set_option maxRecDepth 100000 in
set_option maxHeartbeats 4000000 in
theorem law_step (l : Launch) (htr : ∀ e, l.admits e → e.platform.stackTraces = false) (D : hv_D) {sb L b c n nx bc bs i : Nat} {xs : Nat → Int32} {h : hv_P} {pl : Nat → Nat} {la : Nat → Option Nat} {re im : Nat → Int32} (hL : L ≤ 2560) (hi5 : i + 5 ≤ L) (hS : lS h b c pl la re im n) (hnx : b + 91 ≤ nx) (hbc : 2 ≤ bc) (hbs : 6 + PHI n ≤ bs) (K : ∀ (h3 : hv_P) (c3 : Nat) (pl3 : Nat → Nat) (la3 : Nat → Option Nat) (re3 im3 : Nat → Int32) (n3 : Nat), lS h3 b c3 pl3 la3 re3 im3 n3 → ∀ nx3 bc3 bs3 : Nat, b + 91 ≤ nx3 → bc ≤ bc3 + 2 → bs + PHI n3 ≤ bs3 + PHI n + 6 → hv_V l D M_L_law (hv_XL sb L xs) (hv_rm 11 394 601024 7293034) (hv_ans (some (.int 1)) (fun _ _ => True)) bc3 bs3 h3 nx3 588 [some (.ref sb), some (.ref b), some (.ref (b + 70)), some (.ref (b + 90)), some (.int (nI (i))), none, none, none] []) : hv_V l D M_L_law (hv_XL sb L xs) (hv_rm 11 394 601024 7293034) (hv_ans (some (.int 1)) (fun _ _ => True)) bc bs h nx 451 [some (.ref sb), some (.ref b), some (.ref (b + 70)), some (.ref (b + 90)), some (.int (nI (i))), none, none, none] [] := by
  obtain ⟨⟨wk, ns⟩, ⟨th, ks⟩, ⟨f, ho⟩, hP⟩ := hS
  have ns0 := ns
  obtain ⟨lk, cu, u, l0, cp, hb, _⟩ := ns0
  have hN := ns.ok
  have hc10 := hN.1
  refine V_aload_n d_L_law_451 rfl ?_
  refine V_aload_n d_L_law_452 rfl ?_
  refine V_iload d_L_law_453 rfl ?_
  refine V_iconst (nI 1) d_L_law_455 rfl ?_
  refine V_iaddN d_L_law_456 ?_
  refine V_sld (fun s A q => q.2) d_L_law_457 ⟨rfl, by omega, by omega⟩ rfl ?_
  refine V_aload_n d_L_law_458 rfl ?_
  refine V_iload d_L_law_459 rfl ?_
  refine V_iconst (nI 2) d_L_law_461 rfl ?_
  refine V_iaddN d_L_law_462 ?_
  refine V_sld (fun s A q => q.2) d_L_law_463 ⟨rfl, by omega, by omega⟩ rfl ?_
  refine V_callV1 d_L_law_464 ml_L_70 mB_N_step mi_N_step mv_N_step rfl hb (c_N_step l D _ _ ns (xs (i + 1)) (xs (i + 2))) rfl rfl rfl rfl rfl rfl rfl ?_
  rintro h9 n9 ⟨e9, fr9, wk9, ns9⟩
  have e9 := e9.symm
  subst e9
  have ks9 := kS_fr ks (fun q a b => fr9 q (by omega))
  have ks90 := ks9
  obtain ⟨⟨o1, o2, o3, o4, o5, o6, o7, o8, s1, s2, hk9⟩, _⟩ := ks90
  refine V_aload_n d_L_law_467 rfl ?_
  refine V_aload_n d_L_law_468 rfl ?_
  refine V_iload d_L_law_469 rfl ?_
  refine V_iconst (nI 1) d_L_law_471 rfl ?_
  refine V_iaddN d_L_law_472 ?_
  refine V_sld (fun s A q => q.2) d_L_law_473 ⟨rfl, by omega, by omega⟩ rfl ?_
  refine V_aload_n d_L_law_474 rfl ?_
  refine V_iload d_L_law_475 rfl ?_
  refine V_iconst (nI 2) d_L_law_477 rfl ?_
  refine V_iaddN d_L_law_478 ?_
  refine V_sld (fun s A q => q.2) d_L_law_479 ⟨rfl, by omega, by omega⟩ rfl ?_
  refine V_callV1 d_L_law_480 ml_L_74 mB_K_step mi_K_step mv_K_step rfl hk9 (c_K_step l D _ _ ks9 hN (xs (i + 1)) (xs (i + 2))) rfl rfl rfl rfl rfl rfl rfl ?_
  rintro h10 n10 ⟨e10, kf10, ks10⟩
  have e10 := e10.symm
  subst e10
  refine V_icmp_eq 588 d_L_law_483 (by decide) (fun _ => ?_) (fun q => absurd rfl q)
  exact K h10 c pl la re im n ⟨⟨wk9, ns9.fr (fun q hq => kf10 q (by omega))⟩, ⟨0, ks10⟩, ⟨f, (kf10 _ (by omega)).trans ((fr9 _ (by omega)).trans ho)⟩, hP⟩ _ _ _ hnx (by omega) (by omega)

set_option maxRecDepth 100000 in
set_option maxHeartbeats 4000000 in
theorem law_greedy (l : Launch) (htr : ∀ e, l.admits e → e.platform.stackTraces = false) (D : hv_D) {sb L b c n nx bc bs i : Nat} {xs : Nat → Int32} {h : hv_P} {pl : Nat → Nat} {la : Nat → Option Nat} {re im : Nat → Int32} (hL : L ≤ 2560) (hi5 : i + 5 ≤ L) (hS : lS h b c pl la re im n) (hnx : b + 91 ≤ nx) (hbc : 2 ≤ bc) (hbs : 6 + PHI n ≤ bs) (K : ∀ (h3 : hv_P) (c3 : Nat) (pl3 : Nat → Nat) (la3 : Nat → Option Nat) (re3 im3 : Nat → Int32) (n3 : Nat), lS h3 b c3 pl3 la3 re3 im3 n3 → ∀ nx3 bc3 bs3 : Nat, b + 91 ≤ nx3 → bc ≤ bc3 + 2 → bs + PHI n3 ≤ bs3 + PHI n + 6 → hv_V l D M_L_law (hv_XL sb L xs) (hv_rm 11 394 601024 7293034) (hv_ans (some (.int 1)) (fun _ _ => True)) bc3 bs3 h3 nx3 588 [some (.ref sb), some (.ref b), some (.ref (b + 70)), some (.ref (b + 90)), some (.int (nI (i))), none, none, none] []) : hv_V l D M_L_law (hv_XL sb L xs) (hv_rm 11 394 601024 7293034) (hv_ans (some (.int 1)) (fun _ _ => True)) bc bs h nx 488 [some (.ref sb), some (.ref b), some (.ref (b + 70)), some (.ref (b + 90)), some (.int (nI (i))), none, none, none] [] := by
  obtain ⟨⟨wk, ns⟩, ⟨th, ks⟩, ⟨f, ho⟩, hP⟩ := hS
  have ns0 := ns
  obtain ⟨lk, cu, u, l0, cp, hb, _⟩ := ns0
  have hN := ns.ok
  have hc10 := hN.1
  refine V_aload_n d_L_law_488 rfl ?_
  refine V_aload_n d_L_law_489 rfl ?_
  refine V_iload d_L_law_490 rfl ?_
  refine V_iconst (nI 1) d_L_law_492 rfl ?_
  refine V_iaddN d_L_law_493 ?_
  refine V_sld (fun s A q => q.2) d_L_law_494 ⟨rfl, by omega, by omega⟩ rfl ?_
  refine V_callV1 d_L_law_495 ml_L_75 mB_N_greedy mi_N_greedy mv_N_greedy rfl hb (c_N_greedy l D _ _ ns (xs (i + 1))) rfl rfl rfl rfl rfl rfl rfl ?_
  rintro h9 n9 ⟨e9, fr9, wk9, ns9⟩
  have e9 := e9.symm
  subst e9
  have ks9 := kS_fr ks (fun q a b => fr9 q (by omega))
  have ks90 := ks9
  obtain ⟨⟨o1, o2, o3, o4, o5, o6, o7, o8, s1, s2, hk9⟩, _⟩ := ks90
  refine V_aload_n d_L_law_498 rfl ?_
  refine V_aload_n d_L_law_499 rfl ?_
  refine V_iload d_L_law_500 rfl ?_
  refine V_iconst (nI 1) d_L_law_502 rfl ?_
  refine V_iaddN d_L_law_503 ?_
  refine V_sld (fun s A q => q.2) d_L_law_504 ⟨rfl, by omega, by omega⟩ rfl ?_
  refine V_callV1 d_L_law_505 ml_L_78 mB_K_greedy mi_K_greedy mv_K_greedy rfl hk9 (c_K_greedy l D _ _ ks9 hN (xs (i + 1))) rfl rfl rfl rfl rfl rfl rfl ?_
  rintro h10 n10 ⟨e10, kf10, ks10⟩
  have e10 := e10.symm
  subst e10
  refine V_icmp_eq 588 d_L_law_508 (by decide) (fun _ => ?_) (fun q => absurd rfl q)
  exact K h10 c pl la re im n ⟨⟨wk9, ns9.fr (fun q hq => kf10 q (by omega))⟩, ⟨0, ks10⟩, ⟨f, (kf10 _ (by omega)).trans ((fr9 _ (by omega)).trans ho)⟩, hP⟩ _ _ _ hnx (by omega) (by omega)

set_option maxRecDepth 100000 in
set_option maxHeartbeats 4000000 in
theorem law_cut (l : Launch) (htr : ∀ e, l.admits e → e.platform.stackTraces = false) (D : hv_D) {sb L b c n nx bc bs i : Nat} {xs : Nat → Int32} {h : hv_P} {pl : Nat → Nat} {la : Nat → Option Nat} {re im : Nat → Int32} (hL : L ≤ 2560) (hi5 : i + 5 ≤ L) (hS : lS h b c pl la re im n) (hnx : b + 91 ≤ nx) (hbc : 2 ≤ bc) (hbs : 6 + PHI n ≤ bs) (K : ∀ (h3 : hv_P) (c3 : Nat) (pl3 : Nat → Nat) (la3 : Nat → Option Nat) (re3 im3 : Nat → Int32) (n3 : Nat), lS h3 b c3 pl3 la3 re3 im3 n3 → ∀ nx3 bc3 bs3 : Nat, b + 91 ≤ nx3 → bc ≤ bc3 + 2 → bs + PHI n3 ≤ bs3 + PHI n + 6 → hv_V l D M_L_law (hv_XL sb L xs) (hv_rm 11 394 601024 7293034) (hv_ans (some (.int 1)) (fun _ _ => True)) bc3 bs3 h3 nx3 588 [some (.ref sb), some (.ref b), some (.ref (b + 70)), some (.ref (b + 90)), some (.int (nI (i))), none, none, none] []) : hv_V l D M_L_law (hv_XL sb L xs) (hv_rm 11 394 601024 7293034) (hv_ans (some (.int 1)) (fun _ _ => True)) bc bs h nx 513 [some (.ref sb), some (.ref b), some (.ref (b + 70)), some (.ref (b + 90)), some (.int (nI (i))), none, none, none] [] := by
  obtain ⟨⟨wk, ns⟩, ⟨th, ks⟩, ⟨f, ho⟩, hP⟩ := hS
  have ns0 := ns
  obtain ⟨lk, cu, u, l0, cp, hb, _⟩ := ns0
  have hN := ns.ok
  have hc10 := hN.1
  refine V_aload_n d_L_law_513 rfl ?_
  refine V_aload_n d_L_law_514 rfl ?_
  refine V_iload d_L_law_515 rfl ?_
  refine V_iconst (nI 1) d_L_law_517 rfl ?_
  refine V_iaddN d_L_law_518 ?_
  refine V_sld (fun s A q => q.2) d_L_law_519 ⟨rfl, by omega, by omega⟩ rfl ?_
  refine V_callV1 d_L_law_520 ml_L_79 mB_N_cut mi_N_cut mv_N_cut rfl hb (c_N_cut l D _ _ ns (xs (i + 1))) rfl rfl rfl rfl rfl rfl rfl ?_
  rintro h9 n9 ⟨e9, fr9, wk9, ns9⟩
  have e9 := e9.symm
  subst e9
  have ks9 := kS_fr ks (fun q a b => fr9 q (by omega))
  have ks90 := ks9
  obtain ⟨⟨o1, o2, o3, o4, o5, o6, o7, o8, s1, s2, hk9⟩, _⟩ := ks90
  refine V_aload_n d_L_law_523 rfl ?_
  refine V_aload_n d_L_law_524 rfl ?_
  refine V_iload d_L_law_525 rfl ?_
  refine V_iconst (nI 1) d_L_law_527 rfl ?_
  refine V_iaddN d_L_law_528 ?_
  refine V_sld (fun s A q => q.2) d_L_law_529 ⟨rfl, by omega, by omega⟩ rfl ?_
  refine V_callV1 d_L_law_530 ml_L_82 mB_K_cut mi_K_cut mv_K_cut rfl hk9 (c_K_cut l D _ _ ks9 hN (xs (i + 1))) rfl rfl rfl rfl rfl rfl rfl ?_
  rintro h10 n10 ⟨e10, kf10, ks10⟩
  have e10 := e10.symm
  subst e10
  refine V_icmp_eq 588 d_L_law_533 (by decide) (fun _ => ?_) (fun q => absurd rfl q)
  exact K h10 c pl la re im n ⟨⟨wk9, ns9.fr (fun q hq => kf10 q (by omega))⟩, ⟨0, ks10⟩, ⟨f, (kf10 _ (by omega)).trans ((fr9 _ (by omega)).trans ho)⟩, hP⟩ _ _ _ hnx (by omega) (by omega)

set_option maxRecDepth 100000 in
set_option maxHeartbeats 4000000 in
theorem law_costOf (l : Launch) (htr : ∀ e, l.admits e → e.platform.stackTraces = false) (D : hv_D) {sb L b c n nx bc bs i : Nat} {xs : Nat → Int32} {h : hv_P} {pl : Nat → Nat} {la : Nat → Option Nat} {re im : Nat → Int32} (hL : L ≤ 2560) (hi5 : i + 5 ≤ L) (hS : lS h b c pl la re im n) (hnx : b + 91 ≤ nx) (hbc : 2 ≤ bc) (hbs : 6 + PHI n ≤ bs) (K : ∀ (h3 : hv_P) (c3 : Nat) (pl3 : Nat → Nat) (la3 : Nat → Option Nat) (re3 im3 : Nat → Int32) (n3 : Nat), lS h3 b c3 pl3 la3 re3 im3 n3 → ∀ nx3 bc3 bs3 : Nat, b + 91 ≤ nx3 → bc ≤ bc3 + 2 → bs + PHI n3 ≤ bs3 + PHI n + 6 → hv_V l D M_L_law (hv_XL sb L xs) (hv_rm 11 394 601024 7293034) (hv_ans (some (.int 1)) (fun _ _ => True)) bc3 bs3 h3 nx3 588 [some (.ref sb), some (.ref b), some (.ref (b + 70)), some (.ref (b + 90)), some (.int (nI (i))), none, none, none] []) : hv_V l D M_L_law (hv_XL sb L xs) (hv_rm 11 394 601024 7293034) (hv_ans (some (.int 1)) (fun _ _ => True)) bc bs h nx 538 [some (.ref sb), some (.ref b), some (.ref (b + 70)), some (.ref (b + 90)), some (.int (nI (i))), none, none, none] [] := by
  obtain ⟨⟨wk, ns⟩, ⟨th, ks⟩, ⟨f, ho⟩, hP⟩ := hS
  have ns0 := ns
  obtain ⟨lk, cu, u, l0, cp, hb, _⟩ := ns0
  have hN := ns.ok
  have hc10 := hN.1
  refine V_aload_n d_L_law_538 rfl ?_
  refine V_aload_n d_L_law_539 rfl ?_
  refine V_iload d_L_law_540 rfl ?_
  refine V_iconst (nI 1) d_L_law_542 rfl ?_
  refine V_iaddN d_L_law_543 ?_
  refine V_sld (fun s A q => q.2) d_L_law_544 ⟨rfl, by omega, by omega⟩ rfl ?_
  refine V_callV1 d_L_law_545 ml_L_83 mB_N_costOf mi_N_costOf mv_N_costOf rfl hb (c_N_costOf l D _ _ ns (xs (i + 1))) rfl rfl rfl rfl rfl rfl rfl ?_
  rintro h9 n9 ⟨e9, fr9, wk9, ns9⟩
  have e9 := e9.symm
  subst e9
  have ks9 := kS_fr ks (fun q a b => fr9 q (by omega))
  have ks90 := ks9
  obtain ⟨⟨o1, o2, o3, o4, o5, o6, o7, o8, s1, s2, hk9⟩, _⟩ := ks90
  refine V_aload_n d_L_law_548 rfl ?_
  refine V_aload_n d_L_law_549 rfl ?_
  refine V_iload d_L_law_550 rfl ?_
  refine V_iconst (nI 1) d_L_law_552 rfl ?_
  refine V_iaddN d_L_law_553 ?_
  refine V_sld (fun s A q => q.2) d_L_law_554 ⟨rfl, by omega, by omega⟩ rfl ?_
  refine V_callV1 d_L_law_555 ml_L_86 mB_K_costOf mi_K_costOf mv_K_costOf rfl hk9 (c_K_costOf l D _ _ ks9 hN (xs (i + 1))) rfl rfl rfl rfl rfl rfl rfl ?_
  rintro h10 n10 ⟨e10, kf10, ks10⟩
  have e10 := e10.symm
  subst e10
  refine V_icmp_eq 588 d_L_law_558 (by decide) (fun _ => ?_) (fun q => absurd rfl q)
  exact K h10 c pl la re im n ⟨⟨wk9, ns9.fr (fun q hq => kf10 q (by omega))⟩, ⟨0, ks10⟩, ⟨f, (kf10 _ (by omega)).trans ((fr9 _ (by omega)).trans ho)⟩, hP⟩ _ _ _ hnx (by omega) (by omega)

set_option maxRecDepth 100000 in
set_option maxHeartbeats 4000000 in
theorem law_total (l : Launch) (htr : ∀ e, l.admits e → e.platform.stackTraces = false) (D : hv_D) {sb L b c n nx bc bs i : Nat} {xs : Nat → Int32} {h : hv_P} {pl : Nat → Nat} {la : Nat → Option Nat} {re im : Nat → Int32} (hL : L ≤ 2560) (hi5 : i + 5 ≤ L) (hS : lS h b c pl la re im n) (hnx : b + 91 ≤ nx) (hbc : 2 ≤ bc) (hbs : 6 + PHI n ≤ bs) (K : ∀ (h3 : hv_P) (c3 : Nat) (pl3 : Nat → Nat) (la3 : Nat → Option Nat) (re3 im3 : Nat → Int32) (n3 : Nat), lS h3 b c3 pl3 la3 re3 im3 n3 → ∀ nx3 bc3 bs3 : Nat, b + 91 ≤ nx3 → bc ≤ bc3 + 2 → bs + PHI n3 ≤ bs3 + PHI n + 6 → hv_V l D M_L_law (hv_XL sb L xs) (hv_rm 11 394 601024 7293034) (hv_ans (some (.int 1)) (fun _ _ => True)) bc3 bs3 h3 nx3 588 [some (.ref sb), some (.ref b), some (.ref (b + 70)), some (.ref (b + 90)), some (.int (nI (i))), none, none, none] []) : hv_V l D M_L_law (hv_XL sb L xs) (hv_rm 11 394 601024 7293034) (hv_ans (some (.int 1)) (fun _ _ => True)) bc bs h nx 563 [some (.ref sb), some (.ref b), some (.ref (b + 70)), some (.ref (b + 90)), some (.int (nI (i))), none, none, none] [] := by
  obtain ⟨⟨wk, ns⟩, ⟨th, ks⟩, ⟨f, ho⟩, hP⟩ := hS
  have ns0 := ns
  obtain ⟨lk, cu, u, l0, cp, hb, _⟩ := ns0
  have hN := ns.ok
  have hc10 := hN.1
  refine V_aload_n d_L_law_563 rfl ?_
  refine V_aload_n d_L_law_564 rfl ?_
  refine V_iload d_L_law_565 rfl ?_
  refine V_iconst (nI 1) d_L_law_567 rfl ?_
  refine V_iaddN d_L_law_568 ?_
  refine V_sld (fun s A q => q.2) d_L_law_569 ⟨rfl, by omega, by omega⟩ rfl ?_
  refine V_callV1 d_L_law_570 ml_L_87 mB_N_total mi_N_total mv_N_total rfl hb (c_N_total l D _ _ ns (xs (i + 1))) rfl rfl rfl rfl rfl rfl rfl ?_
  rintro h9 n9 ⟨e9, fr9, wk9, ns9⟩
  have e9 := e9.symm
  subst e9
  have ks9 := kS_fr ks (fun q a b => fr9 q (by omega))
  have ks90 := ks9
  obtain ⟨⟨o1, o2, o3, o4, o5, o6, o7, o8, s1, s2, hk9⟩, _⟩ := ks90
  refine V_aload_n d_L_law_573 rfl ?_
  refine V_aload_n d_L_law_574 rfl ?_
  refine V_iload d_L_law_575 rfl ?_
  refine V_iconst (nI 1) d_L_law_577 rfl ?_
  refine V_iaddN d_L_law_578 ?_
  refine V_sld (fun s A q => q.2) d_L_law_579 ⟨rfl, by omega, by omega⟩ rfl ?_
  refine V_callV1 d_L_law_580 ml_L_90 mB_K_total mi_K_total mv_K_total rfl hk9 (c_K_total l D _ _ ks9 hN (xs (i + 1))) rfl rfl rfl rfl rfl rfl rfl ?_
  rintro h10 n10 ⟨e10, kf10, ks10⟩
  have e10 := e10.symm
  subst e10
  refine V_icmp_eq 588 d_L_law_583 (by decide) (fun _ => ?_) (fun q => absurd rfl q)
  exact K h10 c pl la re im n ⟨⟨wk9, ns9.fr (fun q hq => kf10 q (by omega))⟩, ⟨0, ks10⟩, ⟨f, (kf10 _ (by omega)).trans ((fr9 _ (by omega)).trans ho)⟩, hP⟩ _ _ _ hnx (by omega) (by omega)

set_option maxRecDepth 100000 in
set_option maxHeartbeats 4000000 in
theorem law_clear (l : Launch) (htr : ∀ e, l.admits e → e.platform.stackTraces = false) (D : hv_D) {sb L b c n nx bc bs i : Nat} {xs : Nat → Int32} {h : hv_P} {pl : Nat → Nat} {la : Nat → Option Nat} {re im : Nat → Int32} (hL : L ≤ 2560) (hi5 : i + 5 ≤ L) (hS : lS h b c pl la re im n) (hnx : b + 91 ≤ nx) (hbc : 2 ≤ bc) (hbs : 6 + PHI n ≤ bs) (K : ∀ (h3 : hv_P) (c3 : Nat) (pl3 : Nat → Nat) (la3 : Nat → Option Nat) (re3 im3 : Nat → Int32) (n3 : Nat), lS h3 b c3 pl3 la3 re3 im3 n3 → ∀ nx3 bc3 bs3 : Nat, b + 91 ≤ nx3 → bc ≤ bc3 + 2 → bs + PHI n3 ≤ bs3 + PHI n + 6 → hv_V l D M_L_law (hv_XL sb L xs) (hv_rm 11 394 601024 7293034) (hv_ans (some (.int 1)) (fun _ _ => True)) bc3 bs3 h3 nx3 588 [some (.ref sb), some (.ref b), some (.ref (b + 70)), some (.ref (b + 90)), some (.int (nI (i))), none, none, none] []) : hv_V l D M_L_law (hv_XL sb L xs) (hv_rm 11 394 601024 7293034) (hv_ans (some (.int 1)) (fun _ _ => True)) bc bs h nx 243 [some (.ref sb), some (.ref b), some (.ref (b + 70)), some (.ref (b + 90)), some (.int (nI (i))), none, none, none] [] := by
  obtain ⟨⟨wk, ns⟩, ⟨th, ks⟩, ⟨f, ho⟩, hP⟩ := hS
  have ns0 := ns
  obtain ⟨lk, cu, u, l0, cp, hb, _⟩ := ns0
  have hN := ns.ok
  have hc10 := hN.1
  refine V_aload_n d_L_law_243 rfl ?_
  refine V_callV0 d_L_law_244 ml_L_40 mB_N_clear mi_N_clear mv_N_clear rfl hb (c_N_clear l D _ _ ns) rfl rfl rfl rfl rfl rfl rfl ?_
  rintro h9 n9 ⟨e9, fr9, wk9, ns9⟩
  have e9 := e9.symm
  subst e9
  have ks9 := kS_fr ks (fun q a b => fr9 q (by omega))
  have ks90 := ks9
  obtain ⟨⟨o1, o2, o3, o4, o5, o6, o7, o8, s1, s2, hk9⟩, _⟩ := ks90
  refine V_aload_n d_L_law_247 rfl ?_
  refine V_callV0 d_L_law_248 ml_L_43 mB_K_clear mi_K_clear mv_K_clear rfl hk9 (c_K_clearS l D _ _ ks9 hN) rfl rfl rfl rfl rfl rfl rfl ?_
  rintro h10 n10 ⟨e10, kf10, ks10⟩
  have e10 := e10.symm
  subst e10
  refine V_goto 588 d_L_law_251 (by decide) ?_
  exact K h10 0 pl la re im n ⟨⟨wk9, ns9.fr (fun q hq => kf10 q (by omega))⟩, ⟨0, ks10⟩, ⟨f, (kf10 _ (by omega)).trans ((fr9 _ (by omega)).trans ho)⟩, hP⟩ _ _ _ hnx (by omega) (by omega)

set_option maxRecDepth 100000 in
set_option maxHeartbeats 4000000 in
theorem law_tensor (l : Launch) (htr : ∀ e, l.admits e → e.platform.stackTraces = false) (D : hv_D) {sb L b c n nx bc bs i : Nat} {xs : Nat → Int32} {h : hv_P} {pl : Nat → Nat} {la : Nat → Option Nat} {re im : Nat → Int32} (hL : L ≤ 2560) (hi5 : i + 5 ≤ L) (hS : lS h b c pl la re im n) (hnx : b + 91 ≤ nx) (hbc : 2 ≤ bc) (hbs : 6 + PHI n ≤ bs) (K : ∀ (h3 : hv_P) (c3 : Nat) (pl3 : Nat → Nat) (la3 : Nat → Option Nat) (re3 im3 : Nat → Int32) (n3 : Nat), lS h3 b c3 pl3 la3 re3 im3 n3 → ∀ nx3 bc3 bs3 : Nat, b + 91 ≤ nx3 → bc ≤ bc3 + 2 → bs + PHI n3 ≤ bs3 + PHI n + 6 → hv_V l D M_L_law (hv_XL sb L xs) (hv_rm 11 394 601024 7293034) (hv_ans (some (.int 1)) (fun _ _ => True)) bc3 bs3 h3 nx3 588 [some (.ref sb), some (.ref b), some (.ref (b + 70)), some (.ref (b + 90)), some (.int (nI (i))), none, none, none] []) : hv_V l D M_L_law (hv_XL sb L xs) (hv_rm 11 394 601024 7293034) (hv_ans (some (.int 1)) (fun _ _ => True)) bc bs h nx 108 [some (.ref sb), some (.ref b), some (.ref (b + 70)), some (.ref (b + 90)), some (.int (nI (i))), none, none, none] [] := by
  obtain ⟨⟨wk, ns⟩, ⟨th, ks⟩, ⟨f, ho⟩, hP⟩ := hS
  have ns0 := ns
  obtain ⟨lk, cu, u, l0, cp, hb, _⟩ := ns0
  have hN := ns.ok
  have hc10 := hN.1
  by_cases hv : ¬ xs (i + 1) < 0 ∧ ¬ 6 < xs (i + 1) ∧ c < 10
  · obtain ⟨j1, j2⟩ := i32_nat hv.1 (Int32.lt_of_le_of_lt (Int32.not_lt.mp hv.2.1) (show (6 : Int32) < nI 7 by decide)) (by decide)
    refine V_aload_n d_L_law_108 rfl ?_
    refine V_aload_n d_L_law_109 rfl ?_
    refine V_iload d_L_law_110 rfl ?_
    refine V_iconst (nI 1) d_L_law_112 rfl ?_
    refine V_iaddN d_L_law_113 ?_
    refine V_sld (fun s A q => q.2) d_L_law_114 ⟨rfl, by omega, by omega⟩ j2 ?_
    refine V_callV1 d_L_law_115 ml_L_25 mB_N_tensor mi_N_tensor mv_N_tensor rfl hb (c_N_tensor1 l D _ _ ns hP (x := (xs (i + 1)).toNatClampNeg) (by omega) hv.2.2) rfl rfl rfl rfl rfl rfl rfl ?_
    rintro h9 n9 ⟨e9, fr9, wk9, ns9⟩
    have e9 := e9.symm
    subst e9
    have ks9 := kS_fr ks (fun q a b => fr9 q (by omega))
    have ks90 := ks9
    obtain ⟨⟨o1, o2, o3, o4, o5, o6, o7, o8, s1, s2, hk9⟩, _⟩ := ks90
    refine V_aload_n d_L_law_118 rfl ?_
    refine V_aload_n d_L_law_119 rfl ?_
    refine V_iload d_L_law_120 rfl ?_
    refine V_iconst (nI 1) d_L_law_122 rfl ?_
    refine V_iaddN d_L_law_123 ?_
    refine V_sld (fun s A q => q.2) d_L_law_124 ⟨rfl, by omega, by omega⟩ j2 ?_
    refine V_callV1 d_L_law_125 ml_L_29 mB_K_tensor mi_K_tensor mv_K_tensor rfl hk9 (c_K_tensor1 l D _ _ ks9 hN (x := (xs (i + 1)).toNatClampNeg) (by omega) hv.2.2) rfl rfl rfl rfl rfl rfl rfl ?_
    rintro h10 n10 ⟨e10, kf10, ks10⟩
    have e10 := e10.symm
    subst e10
    refine V_icmp_eq 588 d_L_law_128 (by decide) (fun _ => ?_) (fun q => absurd rfl q)
    exact K h10 (c + 1) (va_up pl c (xs (i + 1)).toNatClampNeg) (hv_rg la (6 * c) 6 none) (hv_rg re (64 * c) 64 0) (hv_rg im (64 * c) 64 0) n ⟨⟨wk9, ns9.fr (fun q hq => kf10 q (by omega))⟩, ⟨0, ks10⟩, ⟨f, (kf10 _ (by omega)).trans ((fr9 _ (by omega)).trans ho)⟩, (fun t ht => by
      by_cases e : t = c
      · rw [e, vu_s]; omega
      · rw [vu_n e]; exact hP t ht)⟩ _ _ _ hnx (by omega) (by omega)
  · refine V_aload_n d_L_law_108 rfl ?_
    refine V_aload_n d_L_law_109 rfl ?_
    refine V_iload d_L_law_110 rfl ?_
    refine V_iconst (nI 1) d_L_law_112 rfl ?_
    refine V_iaddN d_L_law_113 ?_
    refine V_sld (fun s A q => q.2) d_L_law_114 ⟨rfl, by omega, by omega⟩ rfl ?_
    refine V_callV1 d_L_law_115 ml_L_25 mB_N_tensor mi_N_tensor mv_N_tensor rfl hb (c_N_tensor0 l D _ _ ns hv) rfl rfl rfl rfl rfl rfl rfl ?_
    rintro h9 n9 ⟨e9, fr9, wk9, ns9⟩
    have e9 := e9.symm
    subst e9
    have ks9 := kS_fr ks (fun q a b => fr9 q (by omega))
    have ks90 := ks9
    obtain ⟨⟨o1, o2, o3, o4, o5, o6, o7, o8, s1, s2, hk9⟩, _⟩ := ks90
    refine V_aload_n d_L_law_118 rfl ?_
    refine V_aload_n d_L_law_119 rfl ?_
    refine V_iload d_L_law_120 rfl ?_
    refine V_iconst (nI 1) d_L_law_122 rfl ?_
    refine V_iaddN d_L_law_123 ?_
    refine V_sld (fun s A q => q.2) d_L_law_124 ⟨rfl, by omega, by omega⟩ rfl ?_
    refine V_callV1 d_L_law_125 ml_L_29 mB_K_tensor mi_K_tensor mv_K_tensor rfl hk9 (c_K_tensor0 l D _ _ ks9 hN hv) rfl rfl rfl rfl rfl rfl rfl ?_
    rintro h10 n10 ⟨e10, kf10, ks10⟩
    have e10 := e10.symm
    subst e10
    refine V_icmp_eq 588 d_L_law_128 (by decide) (fun _ => ?_) (fun q => absurd rfl q)
    exact K h10 c pl la re im n ⟨⟨wk9, ns9.fr (fun q hq => kf10 q (by omega))⟩, ⟨0, ks10⟩, ⟨f, (kf10 _ (by omega)).trans ((fr9 _ (by omega)).trans ho)⟩, hP⟩ _ _ _ hnx (by omega) (by omega)

set_option maxRecDepth 100000 in
set_option maxHeartbeats 4000000 in
theorem law_leg (l : Launch) (htr : ∀ e, l.admits e → e.platform.stackTraces = false) (D : hv_D) {sb L b c n nx bc bs i : Nat} {xs : Nat → Int32} {h : hv_P} {pl : Nat → Nat} {la : Nat → Option Nat} {re im : Nat → Int32} (hL : L ≤ 2560) (hi5 : i + 5 ≤ L) (hS : lS h b c pl la re im n) (hnx : b + 91 ≤ nx) (hbc : 2 ≤ bc) (hbs : 6 + PHI n ≤ bs) (K : ∀ (h3 : hv_P) (c3 : Nat) (pl3 : Nat → Nat) (la3 : Nat → Option Nat) (re3 im3 : Nat → Int32) (n3 : Nat), lS h3 b c3 pl3 la3 re3 im3 n3 → ∀ nx3 bc3 bs3 : Nat, b + 91 ≤ nx3 → bc ≤ bc3 + 2 → bs + PHI n3 ≤ bs3 + PHI n + 6 → hv_V l D M_L_law (hv_XL sb L xs) (hv_rm 11 394 601024 7293034) (hv_ans (some (.int 1)) (fun _ _ => True)) bc3 bs3 h3 nx3 588 [some (.ref sb), some (.ref b), some (.ref (b + 70)), some (.ref (b + 90)), some (.int (nI (i))), none, none, none] []) : hv_V l D M_L_law (hv_XL sb L xs) (hv_rm 11 394 601024 7293034) (hv_ans (some (.int 1)) (fun _ _ => True)) bc bs h nx 133 [some (.ref sb), some (.ref b), some (.ref (b + 70)), some (.ref (b + 90)), some (.int (nI (i))), none, none, none] [] := by
  obtain ⟨⟨wk, ns⟩, ⟨th, ks⟩, ⟨f, ho⟩, hP⟩ := hS
  have ns0 := ns
  obtain ⟨lk, cu, u, l0, cp, hb, _⟩ := ns0
  have hN := ns.ok
  have hc10 := hN.1
  by_cases hv : legV c pl (xs (i + 1)) (xs (i + 2)) (xs (i + 3))
  · obtain ⟨⟨t1, t2⟩, ⟨p1, p2⟩, n1, n2⟩ := hv
    obtain ⟨i1, i2⟩ := i32_nat t1 (Int32.not_le.mp t2) (by omega)
    have p6 := hN.2.1 _ i1
    obtain ⟨j1, j2⟩ := i32_nat p1 (Int32.not_le.mp p2) (by omega)
    obtain ⟨o, eo, ho'⟩ := name_of n1 n2
    refine V_aload_n d_L_law_133 rfl ?_
    refine V_aload_n d_L_law_134 rfl ?_
    refine V_iload d_L_law_135 rfl ?_
    refine V_iconst (nI 1) d_L_law_137 rfl ?_
    refine V_iaddN d_L_law_138 ?_
    refine V_sld (fun s A q => q.2) d_L_law_139 ⟨rfl, by omega, by omega⟩ i2 ?_
    refine V_aload_n d_L_law_140 rfl ?_
    refine V_iload d_L_law_141 rfl ?_
    refine V_iconst (nI 2) d_L_law_143 rfl ?_
    refine V_iaddN d_L_law_144 ?_
    refine V_sld (fun s A q => q.2) d_L_law_145 ⟨rfl, by omega, by omega⟩ j2 ?_
    refine V_aload_n d_L_law_146 rfl ?_
    refine V_iload d_L_law_147 rfl ?_
    refine V_iconst (nI 3) d_L_law_149 rfl ?_
    refine V_iaddN d_L_law_150 ?_
    refine V_sld (fun s A q => q.2) d_L_law_151 ⟨rfl, by omega, by omega⟩ eo ?_
    refine V_callV1 d_L_law_152 ml_L_30 mB_N_leg mi_N_leg mv_N_leg rfl hb (c_N_leg1 l D _ _ ns hP i1 j1 ho') rfl rfl rfl rfl rfl rfl rfl ?_
    rintro h9 n9 ⟨e9, fr9, wk9, ns9⟩
    have e9 := e9.symm
    subst e9
    have ks9 := kS_fr ks (fun q a b => fr9 q (by omega))
    have ks90 := ks9
    obtain ⟨⟨o1, o2, o3, o4, o5, o6, o7, o8, s1, s2, hk9⟩, _⟩ := ks90
    refine V_aload_n d_L_law_155 rfl ?_
    refine V_aload_n d_L_law_156 rfl ?_
    refine V_iload d_L_law_157 rfl ?_
    refine V_iconst (nI 1) d_L_law_159 rfl ?_
    refine V_iaddN d_L_law_160 ?_
    refine V_sld (fun s A q => q.2) d_L_law_161 ⟨rfl, by omega, by omega⟩ i2 ?_
    refine V_aload_n d_L_law_162 rfl ?_
    refine V_iload d_L_law_163 rfl ?_
    refine V_iconst (nI 2) d_L_law_165 rfl ?_
    refine V_iaddN d_L_law_166 ?_
    refine V_sld (fun s A q => q.2) d_L_law_167 ⟨rfl, by omega, by omega⟩ j2 ?_
    refine V_aload_n d_L_law_168 rfl ?_
    refine V_iload d_L_law_169 rfl ?_
    refine V_iconst (nI 3) d_L_law_171 rfl ?_
    refine V_iaddN d_L_law_172 ?_
    refine V_sld (fun s A q => q.2) d_L_law_173 ⟨rfl, by omega, by omega⟩ eo ?_
    refine V_callV1 d_L_law_174 ml_L_34 mB_K_leg mi_K_leg mv_K_leg rfl hk9 (c_K_leg1 l D _ _ ks9 hN i1 j1 ho') rfl rfl rfl rfl rfl rfl rfl ?_
    rintro h10 n10 ⟨e10, kf10, ks10⟩
    have e10 := e10.symm
    subst e10
    refine V_icmp_eq 588 d_L_law_177 (by decide) (fun _ => ?_) (fun q => absurd rfl q)
    exact K h10 c pl _ re im n ⟨⟨wk9, ns9.fr (fun q hq => kf10 q (by omega))⟩, ⟨0, ks10⟩, ⟨f, (kf10 _ (by omega)).trans ((fr9 _ (by omega)).trans ho)⟩, hP⟩ _ _ _ hnx (by omega) (by omega)
  · refine V_aload_n d_L_law_133 rfl ?_
    refine V_aload_n d_L_law_134 rfl ?_
    refine V_iload d_L_law_135 rfl ?_
    refine V_iconst (nI 1) d_L_law_137 rfl ?_
    refine V_iaddN d_L_law_138 ?_
    refine V_sld (fun s A q => q.2) d_L_law_139 ⟨rfl, by omega, by omega⟩ rfl ?_
    refine V_aload_n d_L_law_140 rfl ?_
    refine V_iload d_L_law_141 rfl ?_
    refine V_iconst (nI 2) d_L_law_143 rfl ?_
    refine V_iaddN d_L_law_144 ?_
    refine V_sld (fun s A q => q.2) d_L_law_145 ⟨rfl, by omega, by omega⟩ rfl ?_
    refine V_aload_n d_L_law_146 rfl ?_
    refine V_iload d_L_law_147 rfl ?_
    refine V_iconst (nI 3) d_L_law_149 rfl ?_
    refine V_iaddN d_L_law_150 ?_
    refine V_sld (fun s A q => q.2) d_L_law_151 ⟨rfl, by omega, by omega⟩ rfl ?_
    refine V_callV1 d_L_law_152 ml_L_30 mB_N_leg mi_N_leg mv_N_leg rfl hb (c_N_leg0 l D _ _ ns hv) rfl rfl rfl rfl rfl rfl rfl ?_
    rintro h9 n9 ⟨e9, fr9, wk9, ns9⟩
    have e9 := e9.symm
    subst e9
    have ks9 := kS_fr ks (fun q a b => fr9 q (by omega))
    have ks90 := ks9
    obtain ⟨⟨o1, o2, o3, o4, o5, o6, o7, o8, s1, s2, hk9⟩, _⟩ := ks90
    refine V_aload_n d_L_law_155 rfl ?_
    refine V_aload_n d_L_law_156 rfl ?_
    refine V_iload d_L_law_157 rfl ?_
    refine V_iconst (nI 1) d_L_law_159 rfl ?_
    refine V_iaddN d_L_law_160 ?_
    refine V_sld (fun s A q => q.2) d_L_law_161 ⟨rfl, by omega, by omega⟩ rfl ?_
    refine V_aload_n d_L_law_162 rfl ?_
    refine V_iload d_L_law_163 rfl ?_
    refine V_iconst (nI 2) d_L_law_165 rfl ?_
    refine V_iaddN d_L_law_166 ?_
    refine V_sld (fun s A q => q.2) d_L_law_167 ⟨rfl, by omega, by omega⟩ rfl ?_
    refine V_aload_n d_L_law_168 rfl ?_
    refine V_iload d_L_law_169 rfl ?_
    refine V_iconst (nI 3) d_L_law_171 rfl ?_
    refine V_iaddN d_L_law_172 ?_
    refine V_sld (fun s A q => q.2) d_L_law_173 ⟨rfl, by omega, by omega⟩ rfl ?_
    refine V_callV1 d_L_law_174 ml_L_34 mB_K_leg mi_K_leg mv_K_leg rfl hk9 (c_K_leg0 l D _ _ ks9 hN hv) rfl rfl rfl rfl rfl rfl rfl ?_
    rintro h10 n10 ⟨e10, kf10, ks10⟩
    have e10 := e10.symm
    subst e10
    refine V_icmp_eq 588 d_L_law_177 (by decide) (fun _ => ?_) (fun q => absurd rfl q)
    exact K h10 c pl la re im n ⟨⟨wk9, ns9.fr (fun q hq => kf10 q (by omega))⟩, ⟨0, ks10⟩, ⟨f, (kf10 _ (by omega)).trans ((fr9 _ (by omega)).trans ho)⟩, hP⟩ _ _ _ hnx (by omega) (by omega)

set_option maxRecDepth 100000 in
set_option maxHeartbeats 4000000 in
theorem law_put (l : Launch) (htr : ∀ e, l.admits e → e.platform.stackTraces = false) (D : hv_D) {sb L b c n nx bc bs i : Nat} {xs : Nat → Int32} {h : hv_P} {pl : Nat → Nat} {la : Nat → Option Nat} {re im : Nat → Int32} (hL : L ≤ 2560) (hi5 : i + 5 ≤ L) (hS : lS h b c pl la re im n) (hnx : b + 91 ≤ nx) (hbc : 2 ≤ bc) (hbs : 6 + PHI n ≤ bs) (K : ∀ (h3 : hv_P) (c3 : Nat) (pl3 : Nat → Nat) (la3 : Nat → Option Nat) (re3 im3 : Nat → Int32) (n3 : Nat), lS h3 b c3 pl3 la3 re3 im3 n3 → ∀ nx3 bc3 bs3 : Nat, b + 91 ≤ nx3 → bc ≤ bc3 + 2 → bs + PHI n3 ≤ bs3 + PHI n + 6 → hv_V l D M_L_law (hv_XL sb L xs) (hv_rm 11 394 601024 7293034) (hv_ans (some (.int 1)) (fun _ _ => True)) bc3 bs3 h3 nx3 588 [some (.ref sb), some (.ref b), some (.ref (b + 70)), some (.ref (b + 90)), some (.int (nI (i))), none, none, none] []) : hv_V l D M_L_law (hv_XL sb L xs) (hv_rm 11 394 601024 7293034) (hv_ans (some (.int 1)) (fun _ _ => True)) bc bs h nx 182 [some (.ref sb), some (.ref b), some (.ref (b + 70)), some (.ref (b + 90)), some (.int (nI (i))), none, none, none] [] := by
  obtain ⟨⟨wk, ns⟩, ⟨th, ks⟩, ⟨f, ho⟩, hP⟩ := hS
  have ns0 := ns
  obtain ⟨lk, cu, u, l0, cp, hb, _⟩ := ns0
  have hN := ns.ok
  have hc10 := hN.1
  by_cases hv : putV c pl (xs (i + 1)) (xs (i + 2)) (xs (i + 3)) (xs (i + 4))
  · refine V_aload_n d_L_law_182 rfl ?_
    refine V_aload_n d_L_law_183 rfl ?_
    refine V_iload d_L_law_184 rfl ?_
    refine V_iconst (nI 1) d_L_law_186 rfl ?_
    refine V_iaddN d_L_law_187 ?_
    refine V_sld (fun s A q => q.2) d_L_law_188 ⟨rfl, by omega, by omega⟩ rfl ?_
    refine V_aload_n d_L_law_189 rfl ?_
    refine V_iload d_L_law_190 rfl ?_
    refine V_iconst (nI 2) d_L_law_192 rfl ?_
    refine V_iaddN d_L_law_193 ?_
    refine V_sld (fun s A q => q.2) d_L_law_194 ⟨rfl, by omega, by omega⟩ rfl ?_
    refine V_aload_n d_L_law_195 rfl ?_
    refine V_iload d_L_law_196 rfl ?_
    refine V_iconst (nI 3) d_L_law_198 rfl ?_
    refine V_iaddN d_L_law_199 ?_
    refine V_sld (fun s A q => q.2) d_L_law_200 ⟨rfl, by omega, by omega⟩ rfl ?_
    refine V_aload_n d_L_law_201 rfl ?_
    refine V_iload d_L_law_202 rfl ?_
    refine V_iconst (nI 4) d_L_law_204 rfl ?_
    refine V_iaddN d_L_law_205 ?_
    refine V_sld (fun s A q => q.2) d_L_law_206 ⟨rfl, by omega, by omega⟩ rfl ?_
    refine V_callV1 d_L_law_207 ml_L_35 mB_N_put mi_N_put mv_N_put rfl hb (c_N_put1 l D _ _ ns hv) rfl rfl rfl rfl rfl rfl rfl ?_
    rintro h9 n9 ⟨e9, fr9, wk9, ns9⟩
    have e9 := e9.symm
    subst e9
    have ks9 := kS_fr ks (fun q a b => fr9 q (by omega))
    have ks90 := ks9
    obtain ⟨⟨o1, o2, o3, o4, o5, o6, o7, o8, s1, s2, hk9⟩, _⟩ := ks90
    refine V_aload_n d_L_law_210 rfl ?_
    refine V_aload_n d_L_law_211 rfl ?_
    refine V_iload d_L_law_212 rfl ?_
    refine V_iconst (nI 1) d_L_law_214 rfl ?_
    refine V_iaddN d_L_law_215 ?_
    refine V_sld (fun s A q => q.2) d_L_law_216 ⟨rfl, by omega, by omega⟩ rfl ?_
    refine V_aload_n d_L_law_217 rfl ?_
    refine V_iload d_L_law_218 rfl ?_
    refine V_iconst (nI 2) d_L_law_220 rfl ?_
    refine V_iaddN d_L_law_221 ?_
    refine V_sld (fun s A q => q.2) d_L_law_222 ⟨rfl, by omega, by omega⟩ rfl ?_
    refine V_aload_n d_L_law_223 rfl ?_
    refine V_iload d_L_law_224 rfl ?_
    refine V_iconst (nI 3) d_L_law_226 rfl ?_
    refine V_iaddN d_L_law_227 ?_
    refine V_sld (fun s A q => q.2) d_L_law_228 ⟨rfl, by omega, by omega⟩ rfl ?_
    refine V_aload_n d_L_law_229 rfl ?_
    refine V_iload d_L_law_230 rfl ?_
    refine V_iconst (nI 4) d_L_law_232 rfl ?_
    refine V_iaddN d_L_law_233 ?_
    refine V_sld (fun s A q => q.2) d_L_law_234 ⟨rfl, by omega, by omega⟩ rfl ?_
    refine V_callV1 d_L_law_235 ml_L_39 mB_K_put mi_K_put mv_K_put rfl hk9 (c_K_put1 l D _ _ ks9 hN hv) rfl rfl rfl rfl rfl rfl rfl ?_
    rintro h10 n10 ⟨e10, kf10, ks10⟩
    have e10 := e10.symm
    subst e10
    refine V_icmp_eq 588 d_L_law_238 (by decide) (fun _ => ?_) (fun q => absurd rfl q)
    exact K h10 c pl la _ _ n ⟨⟨wk9, ns9.fr (fun q hq => kf10 q (by omega))⟩, ⟨0, ks10⟩, ⟨f, (kf10 _ (by omega)).trans ((fr9 _ (by omega)).trans ho)⟩, hP⟩ _ _ _ hnx (by omega) (by omega)
  · refine V_aload_n d_L_law_182 rfl ?_
    refine V_aload_n d_L_law_183 rfl ?_
    refine V_iload d_L_law_184 rfl ?_
    refine V_iconst (nI 1) d_L_law_186 rfl ?_
    refine V_iaddN d_L_law_187 ?_
    refine V_sld (fun s A q => q.2) d_L_law_188 ⟨rfl, by omega, by omega⟩ rfl ?_
    refine V_aload_n d_L_law_189 rfl ?_
    refine V_iload d_L_law_190 rfl ?_
    refine V_iconst (nI 2) d_L_law_192 rfl ?_
    refine V_iaddN d_L_law_193 ?_
    refine V_sld (fun s A q => q.2) d_L_law_194 ⟨rfl, by omega, by omega⟩ rfl ?_
    refine V_aload_n d_L_law_195 rfl ?_
    refine V_iload d_L_law_196 rfl ?_
    refine V_iconst (nI 3) d_L_law_198 rfl ?_
    refine V_iaddN d_L_law_199 ?_
    refine V_sld (fun s A q => q.2) d_L_law_200 ⟨rfl, by omega, by omega⟩ rfl ?_
    refine V_aload_n d_L_law_201 rfl ?_
    refine V_iload d_L_law_202 rfl ?_
    refine V_iconst (nI 4) d_L_law_204 rfl ?_
    refine V_iaddN d_L_law_205 ?_
    refine V_sld (fun s A q => q.2) d_L_law_206 ⟨rfl, by omega, by omega⟩ rfl ?_
    refine V_callV1 d_L_law_207 ml_L_35 mB_N_put mi_N_put mv_N_put rfl hb (c_N_put0 l D _ _ ns hv) rfl rfl rfl rfl rfl rfl rfl ?_
    rintro h9 n9 ⟨e9, fr9, wk9, ns9⟩
    have e9 := e9.symm
    subst e9
    have ks9 := kS_fr ks (fun q a b => fr9 q (by omega))
    have ks90 := ks9
    obtain ⟨⟨o1, o2, o3, o4, o5, o6, o7, o8, s1, s2, hk9⟩, _⟩ := ks90
    refine V_aload_n d_L_law_210 rfl ?_
    refine V_aload_n d_L_law_211 rfl ?_
    refine V_iload d_L_law_212 rfl ?_
    refine V_iconst (nI 1) d_L_law_214 rfl ?_
    refine V_iaddN d_L_law_215 ?_
    refine V_sld (fun s A q => q.2) d_L_law_216 ⟨rfl, by omega, by omega⟩ rfl ?_
    refine V_aload_n d_L_law_217 rfl ?_
    refine V_iload d_L_law_218 rfl ?_
    refine V_iconst (nI 2) d_L_law_220 rfl ?_
    refine V_iaddN d_L_law_221 ?_
    refine V_sld (fun s A q => q.2) d_L_law_222 ⟨rfl, by omega, by omega⟩ rfl ?_
    refine V_aload_n d_L_law_223 rfl ?_
    refine V_iload d_L_law_224 rfl ?_
    refine V_iconst (nI 3) d_L_law_226 rfl ?_
    refine V_iaddN d_L_law_227 ?_
    refine V_sld (fun s A q => q.2) d_L_law_228 ⟨rfl, by omega, by omega⟩ rfl ?_
    refine V_aload_n d_L_law_229 rfl ?_
    refine V_iload d_L_law_230 rfl ?_
    refine V_iconst (nI 4) d_L_law_232 rfl ?_
    refine V_iaddN d_L_law_233 ?_
    refine V_sld (fun s A q => q.2) d_L_law_234 ⟨rfl, by omega, by omega⟩ rfl ?_
    refine V_callV1 d_L_law_235 ml_L_39 mB_K_put mi_K_put mv_K_put rfl hk9 (c_K_put0 l D _ _ ks9 hN hv) rfl rfl rfl rfl rfl rfl rfl ?_
    rintro h10 n10 ⟨e10, kf10, ks10⟩
    have e10 := e10.symm
    subst e10
    refine V_icmp_eq 588 d_L_law_238 (by decide) (fun _ => ?_) (fun q => absurd rfl q)
    exact K h10 c pl la re im n ⟨⟨wk9, ns9.fr (fun q hq => kf10 q (by omega))⟩, ⟨0, ks10⟩, ⟨f, (kf10 _ (by omega)).trans ((fr9 _ (by omega)).trans ho)⟩, hP⟩ _ _ _ hnx (by omega) (by omega)

set_option maxRecDepth 100000 in
set_option maxHeartbeats 4000000 in
theorem law_value1 (l : Launch) (htr : ∀ e, l.admits e → e.platform.stackTraces = false) (D : hv_D) {sb L b c n nx bc bs i : Nat} {xs : Nat → Int32} {h : hv_P} {pl : Nat → Nat} {la : Nat → Option Nat} {re im : Nat → Int32} (hL : L ≤ 2560) (hi5 : i + 5 ≤ L) (hS : lS h b c pl la re im n) (hnx : b + 91 ≤ nx) (hbc : 2 ≤ bc) (hbs : 6 + PHI n ≤ bs) (K : ∀ (h3 : hv_P) (c3 : Nat) (pl3 : Nat → Nat) (la3 : Nat → Option Nat) (re3 im3 : Nat → Int32) (n3 : Nat), lS h3 b c3 pl3 la3 re3 im3 n3 → ∀ nx3 bc3 bs3 : Nat, b + 91 ≤ nx3 → bc ≤ bc3 + 2 → bs + PHI n3 ≤ bs3 + PHI n + 6 → hv_V l D M_L_law (hv_XL sb L xs) (hv_rm 11 394 601024 7293034) (hv_ans (some (.int 1)) (fun _ _ => True)) bc3 bs3 h3 nx3 588 [some (.ref sb), some (.ref b), some (.ref (b + 70)), some (.ref (b + 90)), some (.int (nI (i))), none, none, none] []) (V : tellV c pl la (xs (i + 1)) (xs (i + 2)) → hv_V l D M_L_law (hv_XL sb L xs) (hv_rm 11 394 601024 7293034) (hv_ans (some (.int 1)) (fun _ _ => True)) bc bs h nx 267 [some (.ref sb), some (.ref b), some (.ref (b + 70)), some (.ref (b + 90)), some (.int (nI (i))), none, none, none] []) : hv_V l D M_L_law (hv_XL sb L xs) (hv_rm 11 394 601024 7293034) (hv_ans (some (.int 1)) (fun _ _ => True)) bc bs h nx 267 [some (.ref sb), some (.ref b), some (.ref (b + 70)), some (.ref (b + 90)), some (.int (nI (i))), none, none, none] [] := by
  obtain ⟨⟨wk, ns⟩, ⟨th, ks⟩, ⟨f, ho⟩, hP⟩ := hS
  have ns0 := ns
  obtain ⟨lk, cu, u, l0, cp, hb, _⟩ := ns0
  have hN := ns.ok
  have hc10 := hN.1
  by_cases hx : tellV c pl la (xs (i + 1)) (xs (i + 2))
  · exact V hx
  · refine V_aload_n d_L_law_267 rfl ?_
    refine V_aload_n d_L_law_268 rfl ?_
    refine V_iload d_L_law_269 rfl ?_
    refine V_iconst (nI 1) d_L_law_271 rfl ?_
    refine V_iaddN d_L_law_272 ?_
    refine V_sld (fun s A q => q.2) d_L_law_273 ⟨rfl, by omega, by omega⟩ rfl ?_
    refine V_aload_n d_L_law_274 rfl ?_
    refine V_iload d_L_law_275 rfl ?_
    refine V_iconst (nI 2) d_L_law_277 rfl ?_
    refine V_iaddN d_L_law_278 ?_
    refine V_sld (fun s A q => q.2) d_L_law_279 ⟨rfl, by omega, by omega⟩ rfl ?_
    refine V_aload_n d_L_law_280 rfl ?_
    refine V_sW (hs := [(0, 9, 12, 13), (0, 9, 16, 15)]) (fun s A q => q.1) d_L_law_281 sl_L_49 si_L cw_L_value ⟨by decide +kernel, by decide +kernel⟩ pd_L_value ss_L_value (c_L_value1 l htr D _ _ ns hx) hv_ans_r rfl rfl rfl rfl rfl (by show 1 ≤ bc; omega) (by show 6 ≤ bs; omega) ?_
    rintro v h9 n9 ⟨e, e8, e9⟩
    cases e
    have e8 := e8.symm
    subst e8
    subst e9
    have ks9 := ks
    obtain ⟨⟨o1, o2, o3, o4, o5, o6, o7, o8, s1, s2, hk9⟩, _⟩ := ks
    refine V_istore_5 d_L_law_284 rfl ?_
    refine V_aload_n d_L_law_286 rfl ?_
    refine V_aload_n d_L_law_287 rfl ?_
    refine V_iload d_L_law_288 rfl ?_
    refine V_iconst (nI 1) d_L_law_290 rfl ?_
    refine V_iaddN d_L_law_291 ?_
    refine V_sld (fun s A q => q.2) d_L_law_292 ⟨rfl, by omega, by omega⟩ rfl ?_
    refine V_aload_n d_L_law_293 rfl ?_
    refine V_iload d_L_law_294 rfl ?_
    refine V_iconst (nI 2) d_L_law_296 rfl ?_
    refine V_iaddN d_L_law_297 ?_
    refine V_sld (fun s A q => q.2) d_L_law_298 ⟨rfl, by omega, by omega⟩ rfl ?_
    refine V_callV1 d_L_law_299 ml_L_54 mB_K_value mi_K_value mv_K_value rfl hk9 (c_K_value1 l D _ _ ks9 hN hx) rfl rfl rfl rfl rfl rfl rfl ?_
    rintro h10 n10 ⟨e10, kf10, ks10⟩
    have e10 := e10.symm
    subst e10
    have ks100 := ks10
    obtain ⟨⟨q1, q2, q3, q4, q5, q6, q7, q8, z1, z2, hk10⟩, _⟩ := ks100
    refine V_lstore_6 d_L_law_302 rfl ?_
    refine V_aload_n d_L_law_304 rfl ?_
    refine V_callV1 d_L_law_305 ml_L_55 mB_K_thrown mi_K_thrown mv_K_thrown rfl hk10 (c_K_thrown l D _ _ hk10) rfl rfl rfl rfl rfl rfl rfl ?_
    rintro h11 n11 ⟨e8, e9⟩
    have e8 := e8.symm
    have e9 := e9.symm
    subst e8
    subst e9
    refine V_iload d_L_law_308 rfl ?_
    refine V_icmp_eq 315 d_L_law_310 (by decide) (fun _ => ?_) (fun q => absurd rfl q)
    refine V_iload d_L_law_315 rfl ?_
    refine V_if_ne 331 d_L_law_317 (by decide) (fun _ => ?_) (fun q => absurd q (by decide))
    refine V_goto 588 d_L_law_331 (by decide) ?_
    refine V_drop_6 ?_
    refine V_drop_5 ?_
    exact K h10 c pl la re im n ⟨⟨wk, ns.fr (fun q hq => kf10 q (by omega))⟩, ⟨_, ks10⟩, ⟨f, (kf10 _ (by omega)).trans ho⟩, hP⟩ _ _ _ (by omega) (by show bc ≤ bc - 1 + 2; omega) (by show bs + PHI n ≤ bs - 6 + PHI n + 6; omega)

set_option maxRecDepth 100000 in
set_option maxHeartbeats 4000000 in
theorem law_value2 (l : Launch) (htr : ∀ e, l.admits e → e.platform.stackTraces = false) (D : hv_D) {sb L b c n nx bc bs i : Nat} {xs : Nat → Int32} {h : hv_P} {pl : Nat → Nat} {la : Nat → Option Nat} {re im : Nat → Int32} (hL : L ≤ 2560) (hi5 : i + 5 ≤ L) (hS : lS h b c pl la re im n) (hnx : b + 91 ≤ nx) (hbc : 2 ≤ bc) (hbs : 6 + PHI n ≤ bs) (K : ∀ (h3 : hv_P) (c3 : Nat) (pl3 : Nat → Nat) (la3 : Nat → Option Nat) (re3 im3 : Nat → Int32) (n3 : Nat), lS h3 b c3 pl3 la3 re3 im3 n3 → ∀ nx3 bc3 bs3 : Nat, b + 91 ≤ nx3 → bc ≤ bc3 + 2 → bs + PHI n3 ≤ bs3 + PHI n + 6 → hv_V l D M_L_law (hv_XL sb L xs) (hv_rm 11 394 601024 7293034) (hv_ans (some (.int 1)) (fun _ _ => True)) bc3 bs3 h3 nx3 588 [some (.ref sb), some (.ref b), some (.ref (b + 70)), some (.ref (b + 90)), some (.int (nI (i))), none, none, none] []) (hx : tellV c pl la (xs (i + 1)) (xs (i + 2))) (hk : 12 < PK (LC pl la 0) c) : hv_V l D M_L_law (hv_XL sb L xs) (hv_rm 11 394 601024 7293034) (hv_ans (some (.int 1)) (fun _ _ => True)) bc bs h nx 267 [some (.ref sb), some (.ref b), some (.ref (b + 70)), some (.ref (b + 90)), some (.int (nI (i))), none, none, none] [] := by
  obtain ⟨⟨wk, ns⟩, ⟨th, ks⟩, ⟨f, ho⟩, hP⟩ := hS
  have ns0 := ns
  obtain ⟨lk, cu, u, l0, cp, hb, _⟩ := ns0
  have hN := ns.ok
  have hc10 := hN.1
  refine V_aload_n d_L_law_267 rfl ?_
  refine V_aload_n d_L_law_268 rfl ?_
  refine V_iload d_L_law_269 rfl ?_
  refine V_iconst (nI 1) d_L_law_271 rfl ?_
  refine V_iaddN d_L_law_272 ?_
  refine V_sld (fun s A q => q.2) d_L_law_273 ⟨rfl, by omega, by omega⟩ rfl ?_
  refine V_aload_n d_L_law_274 rfl ?_
  refine V_iload d_L_law_275 rfl ?_
  refine V_iconst (nI 2) d_L_law_277 rfl ?_
  refine V_iaddN d_L_law_278 ?_
  refine V_sld (fun s A q => q.2) d_L_law_279 ⟨rfl, by omega, by omega⟩ rfl ?_
  refine V_aload_n d_L_law_280 rfl ?_
  refine V_sW (hs := [(0, 9, 12, 13), (0, 9, 16, 15)]) (fun s A q => q.1) d_L_law_281 sl_L_49 si_L cw_L_value ⟨by decide +kernel, by decide +kernel⟩ pd_L_value ss_L_value (c_L_value2 l htr D _ _ ns hx hk) hv_ans_r rfl rfl rfl rfl rfl (by show 1 ≤ bc; omega) (by show 6 ≤ bs; omega) ?_
  rintro v h9 n9 ⟨e, e9, fr9, wk9, ns9⟩
  cases e
  subst e9
  have ks9 := kS_fr ks (fun q a b => fr9 q (by omega))
  have ks90 := ks9
  obtain ⟨⟨o1, o2, o3, o4, o5, o6, o7, o8, s1, s2, hk9⟩, _⟩ := ks90
  refine V_istore_5 d_L_law_284 rfl ?_
  refine V_aload_n d_L_law_286 rfl ?_
  refine V_aload_n d_L_law_287 rfl ?_
  refine V_iload d_L_law_288 rfl ?_
  refine V_iconst (nI 1) d_L_law_290 rfl ?_
  refine V_iaddN d_L_law_291 ?_
  refine V_sld (fun s A q => q.2) d_L_law_292 ⟨rfl, by omega, by omega⟩ rfl ?_
  refine V_aload_n d_L_law_293 rfl ?_
  refine V_iload d_L_law_294 rfl ?_
  refine V_iconst (nI 2) d_L_law_296 rfl ?_
  refine V_iaddN d_L_law_297 ?_
  refine V_sld (fun s A q => q.2) d_L_law_298 ⟨rfl, by omega, by omega⟩ rfl ?_
  refine V_callV1 d_L_law_299 ml_L_54 mB_K_value mi_K_value mv_K_value rfl hk9 (c_K_value2 l D _ _ ks9 hN hx hk) rfl rfl rfl rfl rfl rfl rfl ?_
  rintro h10 n10 ⟨e10, kf10, ks10⟩
  have e10 := e10.symm
  subst e10
  have ks100 := ks10
  obtain ⟨⟨q1, q2, q3, q4, q5, q6, q7, q8, z1, z2, hk10⟩, _⟩ := ks100
  refine V_lstore_6 d_L_law_302 rfl ?_
  refine V_aload_n d_L_law_304 rfl ?_
  refine V_callV1 d_L_law_305 ml_L_55 mB_K_thrown mi_K_thrown mv_K_thrown rfl hk10 (c_K_thrown l D _ _ hk10) rfl rfl rfl rfl rfl rfl rfl ?_
  rintro h11 n11 ⟨e8, e9⟩
  have e8 := e8.symm
  have e9 := e9.symm
  subst e8
  subst e9
  refine V_iload d_L_law_308 rfl ?_
  refine V_icmp_eq 315 d_L_law_310 (by decide) (fun _ => ?_) (fun q => absurd rfl q)
  refine V_iload d_L_law_315 rfl ?_
  refine V_if_ne 331 d_L_law_317 (by decide) (fun _ => ?_) (fun q => absurd q (by decide))
  refine V_goto 588 d_L_law_331 (by decide) ?_
  refine V_drop_6 ?_
  refine V_drop_5 ?_
  exact K h10 c pl la re im n ⟨⟨wk9, ns9.fr (fun q hq => kf10 q (by omega))⟩, ⟨_, ks10⟩, ⟨f, (kf10 _ (by omega)).trans ((fr9 _ (by omega)).trans ho)⟩, hP⟩ _ _ _ (by omega) (by show bc ≤ bc - 1 + 2; omega) (by show bs + PHI n ≤ bs - 6 + PHI n + 6; omega)

set_option maxRecDepth 100000 in
set_option maxHeartbeats 4000000 in
theorem law_value30 (l : Launch) (htr : ∀ e, l.admits e → e.platform.stackTraces = false) (D : hv_D) {sb L b c n nx bc bs i : Nat} {xs : Nat → Int32} {h : hv_P} {pl : Nat → Nat} {la : Nat → Option Nat} {re im : Nat → Int32} (hL : L ≤ 2560) (hi5 : i + 5 ≤ L) (hS : lS h b c pl la re im n) (hnx : b + 91 ≤ nx) (hbc : 2 ≤ bc) (hbs : 6 + PHI n ≤ bs) (K : ∀ (h3 : hv_P) (c3 : Nat) (pl3 : Nat → Nat) (la3 : Nat → Option Nat) (re3 im3 : Nat → Int32) (n3 : Nat), lS h3 b c3 pl3 la3 re3 im3 n3 → ∀ nx3 bc3 bs3 : Nat, b + 91 ≤ nx3 → bc ≤ bc3 + 2 → bs + PHI n3 ≤ bs3 + PHI n + 6 → hv_V l D M_L_law (hv_XL sb L xs) (hv_rm 11 394 601024 7293034) (hv_ans (some (.int 1)) (fun _ _ => True)) bc3 bs3 h3 nx3 588 [some (.ref sb), some (.ref b), some (.ref (b + 70)), some (.ref (b + 90)), some (.int (nI (i))), none, none, none] []) (hx : tellV c pl la (xs (i + 1)) (xs (i + 2))) (hk : PK (LC pl la 0) c ≤ 12) (hnd : ndF c pl la ≤ n) : hv_V l D M_L_law (hv_XL sb L xs) (hv_rm 11 394 601024 7293034) (hv_ans (some (.int 1)) (fun _ _ => True)) bc bs h nx 267 [some (.ref sb), some (.ref b), some (.ref (b + 70)), some (.ref (b + 90)), some (.int (nI (i))), none, none, none] [] := by
  obtain ⟨⟨wk, ns⟩, ⟨th, ks⟩, ⟨f, ho⟩, hP⟩ := hS
  have ns0 := ns
  obtain ⟨lk, cu, u, l0, cp, hb, _⟩ := ns0
  have hN := ns.ok
  have hc10 := hN.1
  refine V_aload_n d_L_law_267 rfl ?_
  refine V_aload_n d_L_law_268 rfl ?_
  refine V_iload d_L_law_269 rfl ?_
  refine V_iconst (nI 1) d_L_law_271 rfl ?_
  refine V_iaddN d_L_law_272 ?_
  refine V_sld (fun s A q => q.2) d_L_law_273 ⟨rfl, by omega, by omega⟩ rfl ?_
  refine V_aload_n d_L_law_274 rfl ?_
  refine V_iload d_L_law_275 rfl ?_
  refine V_iconst (nI 2) d_L_law_277 rfl ?_
  refine V_iaddN d_L_law_278 ?_
  refine V_sld (fun s A q => q.2) d_L_law_279 ⟨rfl, by omega, by omega⟩ rfl ?_
  refine V_aload_n d_L_law_280 rfl ?_
  refine V_sW (hs := [(0, 9, 12, 13), (0, 9, 16, 15)]) (fun s A q => q.1) d_L_law_281 sl_L_49 si_L cw_L_value ⟨by decide +kernel, by decide +kernel⟩ pd_L_value ss_L_value (c_L_value30 l htr D _ _ ns ho hx hk hnx hnd) hv_ans_r rfl rfl rfl rfl rfl (Nat.zero_le _) (Nat.zero_le _) ?_
  rintro v h9 n9 ⟨e, e9, ⟨f9, ho9, hf9⟩, fr9, wk9, ns9⟩
  cases e
  subst e9
  have ks9 := kS_fr ks (fun q a b => fr9 q (by omega))
  have ks90 := ks9
  obtain ⟨⟨o1, o2, o3, o4, o5, o6, o7, o8, s1, s2, hk9⟩, _⟩ := ks90
  refine V_istore_5 d_L_law_284 rfl ?_
  refine V_aload_n d_L_law_286 rfl ?_
  refine V_aload_n d_L_law_287 rfl ?_
  refine V_iload d_L_law_288 rfl ?_
  refine V_iconst (nI 1) d_L_law_290 rfl ?_
  refine V_iaddN d_L_law_291 ?_
  refine V_sld (fun s A q => q.2) d_L_law_292 ⟨rfl, by omega, by omega⟩ rfl ?_
  refine V_aload_n d_L_law_293 rfl ?_
  refine V_iload d_L_law_294 rfl ?_
  refine V_iconst (nI 2) d_L_law_296 rfl ?_
  refine V_iaddN d_L_law_297 ?_
  refine V_sld (fun s A q => q.2) d_L_law_298 ⟨rfl, by omega, by omega⟩ rfl ?_
  refine V_callV1 d_L_law_299 ml_L_54 mB_K_value mi_K_value mv_K_value rfl hk9 (c_K_value3 l D _ _ ks9 hN hx hk) rfl rfl rfl rfl rfl rfl rfl ?_
  rintro h10 n10 ⟨e10, kf10, ks10⟩
  have e10 := e10.symm
  subst e10
  have ks100 := ks10
  obtain ⟨⟨q1, q2, q3, q4, q5, q6, q7, q8, z1, z2, hk10⟩, _⟩ := ks100
  refine V_lstore_6 d_L_law_302 rfl ?_
  refine V_aload_n d_L_law_304 rfl ?_
  refine V_callV1 d_L_law_305 ml_L_55 mB_K_thrown mi_K_thrown mv_K_thrown rfl hk10 (c_K_thrown l D _ _ hk10) rfl rfl rfl rfl rfl rfl rfl ?_
  rintro h11 n11 ⟨e8, e9⟩
  have e8 := e8.symm
  have e9 := e9.symm
  subst e8
  subst e9
  refine V_iload d_L_law_308 rfl ?_
  refine V_icmp_eq 315 d_L_law_310 (by decide) (fun _ => ?_) (fun q => absurd rfl q)
  refine V_iload d_L_law_315 rfl ?_
  refine V_if_ne 331 d_L_law_317 (by decide) (fun q => absurd rfl q) (fun _ => ?_)
  refine V_aload_n d_L_law_320 rfl ?_
  refine V_iconst (nI 0) d_L_law_321 rfl ?_
  refine V_laload d_L_law_322 ((kf10 _ (by omega)).trans ho9) ⟨rfl, by decide, by decide⟩ ?_
  refine V_lload d_L_law_323 rfl ?_
  refine V_lcmp d_L_law_325 ?_
  rw [hf9, cmp_self]
  refine V_if_eq 331 d_L_law_326 (by decide) (fun _ => ?_) (fun q => absurd rfl q)
  refine V_goto 588 d_L_law_331 (by decide) ?_
  refine V_drop_6 ?_
  refine V_drop_5 ?_
  exact K h10 c pl la re im (gN n (ndF c pl la)) ⟨⟨wk9, ns9.fr (fun q hq => kf10 q (by omega))⟩, ⟨_, ks10⟩, ⟨f9, (kf10 _ (by omega)).trans ho9⟩, hP⟩ _ _ _ (by omega) (by show bc ≤ bc - 0 + 2; omega) (by rw [show gN n (ndF c pl la) = n from if_neg (by omega)]; show bs + PHI n ≤ bs - 0 + PHI n + 6; omega)

set_option maxRecDepth 100000 in
set_option maxHeartbeats 4000000 in
theorem law_value31 (l : Launch) (htr : ∀ e, l.admits e → e.platform.stackTraces = false) (D : hv_D) {sb L b c n nx bc bs i : Nat} {xs : Nat → Int32} {h : hv_P} {pl : Nat → Nat} {la : Nat → Option Nat} {re im : Nat → Int32} (hL : L ≤ 2560) (hi5 : i + 5 ≤ L) (hS : lS h b c pl la re im n) (hnx : b + 91 ≤ nx) (hbc : 2 ≤ bc) (hbs : 6 + PHI n ≤ bs) (K : ∀ (h3 : hv_P) (c3 : Nat) (pl3 : Nat → Nat) (la3 : Nat → Option Nat) (re3 im3 : Nat → Int32) (n3 : Nat), lS h3 b c3 pl3 la3 re3 im3 n3 → ∀ nx3 bc3 bs3 : Nat, b + 91 ≤ nx3 → bc ≤ bc3 + 2 → bs + PHI n3 ≤ bs3 + PHI n + 6 → hv_V l D M_L_law (hv_XL sb L xs) (hv_rm 11 394 601024 7293034) (hv_ans (some (.int 1)) (fun _ _ => True)) bc3 bs3 h3 nx3 588 [some (.ref sb), some (.ref b), some (.ref (b + 70)), some (.ref (b + 90)), some (.int (nI (i))), none, none, none] []) (hx : tellV c pl la (xs (i + 1)) (xs (i + 2))) (hk : PK (LC pl la 0) c ≤ 12) (hnd : n < ndF c pl la) : hv_V l D M_L_law (hv_XL sb L xs) (hv_rm 11 394 601024 7293034) (hv_ans (some (.int 1)) (fun _ _ => True)) bc bs h nx 267 [some (.ref sb), some (.ref b), some (.ref (b + 70)), some (.ref (b + 90)), some (.int (nI (i))), none, none, none] [] := by
  obtain ⟨⟨wk, ns⟩, ⟨th, ks⟩, ⟨f, ho⟩, hP⟩ := hS
  have ns0 := ns
  obtain ⟨lk, cu, u, l0, cp, hb, _⟩ := ns0
  have hN := ns.ok
  have hc10 := hN.1
  have PG := PHI_g hnd (nd_le hN (RDY_c hx.1) hk)
  refine V_aload_n d_L_law_267 rfl ?_
  refine V_aload_n d_L_law_268 rfl ?_
  refine V_iload d_L_law_269 rfl ?_
  refine V_iconst (nI 1) d_L_law_271 rfl ?_
  refine V_iaddN d_L_law_272 ?_
  refine V_sld (fun s A q => q.2) d_L_law_273 ⟨rfl, by omega, by omega⟩ rfl ?_
  refine V_aload_n d_L_law_274 rfl ?_
  refine V_iload d_L_law_275 rfl ?_
  refine V_iconst (nI 2) d_L_law_277 rfl ?_
  refine V_iaddN d_L_law_278 ?_
  refine V_sld (fun s A q => q.2) d_L_law_279 ⟨rfl, by omega, by omega⟩ rfl ?_
  refine V_aload_n d_L_law_280 rfl ?_
  refine V_sW (hs := [(0, 9, 12, 13), (0, 9, 16, 15)]) (fun s A q => q.1) d_L_law_281 sl_L_49 si_L cw_L_value ⟨by decide +kernel, by decide +kernel⟩ pd_L_value ss_L_value (c_L_value31 l htr D _ _ ns ho hx hk hnx hnd) hv_ans_r rfl rfl rfl rfl rfl (by show 2 ≤ bc; omega) (by show 2 * max (ndF c pl la) (2 * n) ≤ bs; omega) ?_
  rintro v h9 n9 ⟨e, e9, ⟨f9, ho9, hf9⟩, fr9, wk9, ns9⟩
  cases e
  subst e9
  have ks9 := kS_fr ks (fun q a b => fr9 q (by omega))
  have ks90 := ks9
  obtain ⟨⟨o1, o2, o3, o4, o5, o6, o7, o8, s1, s2, hk9⟩, _⟩ := ks90
  refine V_istore_5 d_L_law_284 rfl ?_
  refine V_aload_n d_L_law_286 rfl ?_
  refine V_aload_n d_L_law_287 rfl ?_
  refine V_iload d_L_law_288 rfl ?_
  refine V_iconst (nI 1) d_L_law_290 rfl ?_
  refine V_iaddN d_L_law_291 ?_
  refine V_sld (fun s A q => q.2) d_L_law_292 ⟨rfl, by omega, by omega⟩ rfl ?_
  refine V_aload_n d_L_law_293 rfl ?_
  refine V_iload d_L_law_294 rfl ?_
  refine V_iconst (nI 2) d_L_law_296 rfl ?_
  refine V_iaddN d_L_law_297 ?_
  refine V_sld (fun s A q => q.2) d_L_law_298 ⟨rfl, by omega, by omega⟩ rfl ?_
  refine V_callV1 d_L_law_299 ml_L_54 mB_K_value mi_K_value mv_K_value rfl hk9 (c_K_value3 l D _ _ ks9 hN hx hk) rfl rfl rfl rfl rfl rfl rfl ?_
  rintro h10 n10 ⟨e10, kf10, ks10⟩
  have e10 := e10.symm
  subst e10
  have ks100 := ks10
  obtain ⟨⟨q1, q2, q3, q4, q5, q6, q7, q8, z1, z2, hk10⟩, _⟩ := ks100
  refine V_lstore_6 d_L_law_302 rfl ?_
  refine V_aload_n d_L_law_304 rfl ?_
  refine V_callV1 d_L_law_305 ml_L_55 mB_K_thrown mi_K_thrown mv_K_thrown rfl hk10 (c_K_thrown l D _ _ hk10) rfl rfl rfl rfl rfl rfl rfl ?_
  rintro h11 n11 ⟨e8, e9⟩
  have e8 := e8.symm
  have e9 := e9.symm
  subst e8
  subst e9
  refine V_iload d_L_law_308 rfl ?_
  refine V_icmp_eq 315 d_L_law_310 (by decide) (fun _ => ?_) (fun q => absurd rfl q)
  refine V_iload d_L_law_315 rfl ?_
  refine V_if_ne 331 d_L_law_317 (by decide) (fun q => absurd rfl q) (fun _ => ?_)
  refine V_aload_n d_L_law_320 rfl ?_
  refine V_iconst (nI 0) d_L_law_321 rfl ?_
  refine V_laload d_L_law_322 ((kf10 _ (by omega)).trans ho9) ⟨rfl, by decide, by decide⟩ ?_
  refine V_lload d_L_law_323 rfl ?_
  refine V_lcmp d_L_law_325 ?_
  rw [hf9, cmp_self]
  refine V_if_eq 331 d_L_law_326 (by decide) (fun _ => ?_) (fun q => absurd rfl q)
  refine V_goto 588 d_L_law_331 (by decide) ?_
  refine V_drop_6 ?_
  refine V_drop_5 ?_
  exact K h10 c pl la re im (gN n (ndF c pl la)) ⟨⟨wk9, ns9.fr (fun q hq => kf10 q (by omega))⟩, ⟨_, ks10⟩, ⟨f9, (kf10 _ (by omega)).trans ho9⟩, hP⟩ _ _ _ (by omega) (by show bc ≤ bc - 2 + 2; omega) (by rw [show gN n (ndF c pl la) = max (ndF c pl la) (2 * n) from if_pos hnd]; show bs + PHI (max (ndF c pl la) (2 * n)) ≤ bs - 2 * max (ndF c pl la) (2 * n) + PHI n + 6; omega)

set_option maxRecDepth 100000 in
set_option maxHeartbeats 4000000 in
theorem law_value (l : Launch) (htr : ∀ e, l.admits e → e.platform.stackTraces = false) (D : hv_D) {sb L b c n nx bc bs i : Nat} {xs : Nat → Int32} {h : hv_P} {pl : Nat → Nat} {la : Nat → Option Nat} {re im : Nat → Int32} (hL : L ≤ 2560) (hi5 : i + 5 ≤ L) (hS : lS h b c pl la re im n) (hnx : b + 91 ≤ nx) (hbc : 2 ≤ bc) (hbs : 6 + PHI n ≤ bs) (K : ∀ (h3 : hv_P) (c3 : Nat) (pl3 : Nat → Nat) (la3 : Nat → Option Nat) (re3 im3 : Nat → Int32) (n3 : Nat), lS h3 b c3 pl3 la3 re3 im3 n3 → ∀ nx3 bc3 bs3 : Nat, b + 91 ≤ nx3 → bc ≤ bc3 + 2 → bs + PHI n3 ≤ bs3 + PHI n + 6 → hv_V l D M_L_law (hv_XL sb L xs) (hv_rm 11 394 601024 7293034) (hv_ans (some (.int 1)) (fun _ _ => True)) bc3 bs3 h3 nx3 588 [some (.ref sb), some (.ref b), some (.ref (b + 70)), some (.ref (b + 90)), some (.int (nI (i))), none, none, none] []) : hv_V l D M_L_law (hv_XL sb L xs) (hv_rm 11 394 601024 7293034) (hv_ans (some (.int 1)) (fun _ _ => True)) bc bs h nx 267 [some (.ref sb), some (.ref b), some (.ref (b + 70)), some (.ref (b + 90)), some (.int (nI (i))), none, none, none] [] := by
  skip
  by_cases hx : tellV c pl la (xs (i + 1)) (xs (i + 2))
  · by_cases hk : PK (LC pl la 0) c ≤ 12
    · by_cases hnd : ndF c pl la ≤ n
      · exact law_value30 l htr D hL hi5 hS hnx hbc hbs K hx hk hnd
      · exact law_value31 l htr D hL hi5 hS hnx hbc hbs K hx hk (by omega)
    · exact law_value2 l htr D hL hi5 hS hnx hbc hbs K hx (by omega)
  · exact law_value1 l htr D hL hi5 hS hnx hbc hbs K (fun q => absurd q hx)

set_option maxRecDepth 100000 in
set_option maxHeartbeats 4000000 in
theorem law_slope1a (l : Launch) (htr : ∀ e, l.admits e → e.platform.stackTraces = false) (D : hv_D) {sb L b c n nx bc bs i : Nat} {xs : Nat → Int32} {h : hv_P} {pl : Nat → Nat} {la : Nat → Option Nat} {re im : Nat → Int32} (hL : L ≤ 2560) (hi5 : i + 5 ≤ L) (hS : lS h b c pl la re im n) (hnx : b + 91 ≤ nx) (hbc : 2 ≤ bc) (hbs : 6 + PHI n ≤ bs) (K : ∀ (h3 : hv_P) (c3 : Nat) (pl3 : Nat → Nat) (la3 : Nat → Option Nat) (re3 im3 : Nat → Int32) (n3 : Nat), lS h3 b c3 pl3 la3 re3 im3 n3 → ∀ nx3 bc3 bs3 : Nat, b + 91 ≤ nx3 → bc ≤ bc3 + 2 → bs + PHI n3 ≤ bs3 + PHI n + 6 → hv_V l D M_L_law (hv_XL sb L xs) (hv_rm 11 394 601024 7293034) (hv_ans (some (.int 1)) (fun _ _ => True)) bc3 bs3 h3 nx3 588 [some (.ref sb), some (.ref b), some (.ref (b + 70)), some (.ref (b + 90)), some (.int (nI (i))), none, none, none] []) (hx : ¬ tellV c pl la (xs (i + 3)) (xs (i + 4))) : hv_V l D M_L_law (hv_XL sb L xs) (hv_rm 11 394 601024 7293034) (hv_ans (some (.int 1)) (fun _ _ => True)) bc bs h nx 334 [some (.ref sb), some (.ref b), some (.ref (b + 70)), some (.ref (b + 90)), some (.int (nI (i))), none, none, none] [] := by
  obtain ⟨⟨wk, ns⟩, ⟨th, ks⟩, ⟨f, ho⟩, hP⟩ := hS
  have ns0 := ns
  obtain ⟨lk, cu, u, l0, cp, hb, _⟩ := ns0
  have hN := ns.ok
  have hc10 := hN.1
  refine V_aload_n d_L_law_334 rfl ?_
  refine V_aload_n d_L_law_335 rfl ?_
  refine V_iload d_L_law_336 rfl ?_
  refine V_iconst (nI 1) d_L_law_338 rfl ?_
  refine V_iaddN d_L_law_339 ?_
  refine V_sld (fun s A q => q.2) d_L_law_340 ⟨rfl, by omega, by omega⟩ rfl ?_
  refine V_aload_n d_L_law_341 rfl ?_
  refine V_iload d_L_law_342 rfl ?_
  refine V_iconst (nI 2) d_L_law_344 rfl ?_
  refine V_iaddN d_L_law_345 ?_
  refine V_sld (fun s A q => q.2) d_L_law_346 ⟨rfl, by omega, by omega⟩ rfl ?_
  refine V_aload_n d_L_law_347 rfl ?_
  refine V_iload d_L_law_348 rfl ?_
  refine V_iconst (nI 3) d_L_law_350 rfl ?_
  refine V_iaddN d_L_law_351 ?_
  refine V_sld (fun s A q => q.2) d_L_law_352 ⟨rfl, by omega, by omega⟩ rfl ?_
  refine V_aload_n d_L_law_353 rfl ?_
  refine V_iload d_L_law_354 rfl ?_
  refine V_iconst (nI 4) d_L_law_356 rfl ?_
  refine V_iaddN d_L_law_357 ?_
  refine V_sld (fun s A q => q.2) d_L_law_358 ⟨rfl, by omega, by omega⟩ rfl ?_
  refine V_aload_n d_L_law_359 rfl ?_
  refine V_sW (hs := [(0, 13, 16, 13), (0, 13, 20, 15)]) (fun s A q => q.1) d_L_law_360 sl_L_58 si_L cw_L_slope ⟨by decide +kernel, by decide +kernel⟩ pd_L_slope ss_L_slope (c_L_slope1a l htr D _ _ ns hx) hv_ans_r rfl rfl rfl rfl rfl (by show 1 ≤ bc; omega) (by show 6 ≤ bs; omega) ?_
  rintro v h9 n9 ⟨e, e8, e9⟩
  cases e
  have e8 := e8.symm
  subst e8
  subst e9
  have ks9 := ks
  obtain ⟨⟨o1, o2, o3, o4, o5, o6, o7, o8, s1, s2, hk9⟩, _⟩ := ks
  refine V_istore_5 d_L_law_363 rfl ?_
  refine V_aload_n d_L_law_365 rfl ?_
  refine V_aload_n d_L_law_366 rfl ?_
  refine V_iload d_L_law_367 rfl ?_
  refine V_iconst (nI 1) d_L_law_369 rfl ?_
  refine V_iaddN d_L_law_370 ?_
  refine V_sld (fun s A q => q.2) d_L_law_371 ⟨rfl, by omega, by omega⟩ rfl ?_
  refine V_aload_n d_L_law_372 rfl ?_
  refine V_iload d_L_law_373 rfl ?_
  refine V_iconst (nI 2) d_L_law_375 rfl ?_
  refine V_iaddN d_L_law_376 ?_
  refine V_sld (fun s A q => q.2) d_L_law_377 ⟨rfl, by omega, by omega⟩ rfl ?_
  refine V_aload_n d_L_law_378 rfl ?_
  refine V_iload d_L_law_379 rfl ?_
  refine V_iconst (nI 3) d_L_law_381 rfl ?_
  refine V_iaddN d_L_law_382 ?_
  refine V_sld (fun s A q => q.2) d_L_law_383 ⟨rfl, by omega, by omega⟩ rfl ?_
  refine V_aload_n d_L_law_384 rfl ?_
  refine V_iload d_L_law_385 rfl ?_
  refine V_iconst (nI 4) d_L_law_387 rfl ?_
  refine V_iaddN d_L_law_388 ?_
  refine V_sld (fun s A q => q.2) d_L_law_389 ⟨rfl, by omega, by omega⟩ rfl ?_
  refine V_callV1 d_L_law_390 ml_L_61 mB_K_slope mi_K_slope mv_K_slope rfl hk9 (c_K_slope1 l D _ _ ks9 hN (fun q => hx q.2)) rfl rfl rfl rfl rfl rfl rfl ?_
  rintro h10 n10 ⟨e10, kf10, ks10⟩
  have e10 := e10.symm
  subst e10
  have ks100 := ks10
  obtain ⟨⟨q1, q2, q3, q4, q5, q6, q7, q8, z1, z2, hk10⟩, _⟩ := ks100
  refine V_lstore_6 d_L_law_393 rfl ?_
  refine V_aload_n d_L_law_395 rfl ?_
  refine V_callV1 d_L_law_396 ml_L_55 mB_K_thrown mi_K_thrown mv_K_thrown rfl hk10 (c_K_thrown l D _ _ hk10) rfl rfl rfl rfl rfl rfl rfl ?_
  rintro h11 n11 ⟨e8, e9⟩
  have e8 := e8.symm
  have e9 := e9.symm
  subst e8
  subst e9
  refine V_iload d_L_law_399 rfl ?_
  refine V_icmp_eq 406 d_L_law_401 (by decide) (fun _ => ?_) (fun q => absurd rfl q)
  refine V_iload d_L_law_406 rfl ?_
  refine V_if_ne 422 d_L_law_408 (by decide) (fun _ => ?_) (fun q => absurd q (by decide))
  refine V_goto 588 d_L_law_422 (by decide) ?_
  refine V_drop_6 ?_
  refine V_drop_5 ?_
  exact K h10 c pl la re im n ⟨⟨wk, ns.fr (fun q hq => kf10 q (by omega))⟩, ⟨_, ks10⟩, ⟨f, (kf10 _ (by omega)).trans ho⟩, hP⟩ _ _ _ (by omega) (by show bc ≤ bc - 1 + 2; omega) (by show bs + PHI n ≤ bs - 6 + PHI n + 6; omega)

set_option maxRecDepth 100000 in
set_option maxHeartbeats 4000000 in
theorem law_slope1b (l : Launch) (htr : ∀ e, l.admits e → e.platform.stackTraces = false) (D : hv_D) {sb L b c n nx bc bs i : Nat} {xs : Nat → Int32} {h : hv_P} {pl : Nat → Nat} {la : Nat → Option Nat} {re im : Nat → Int32} (hL : L ≤ 2560) (hi5 : i + 5 ≤ L) (hS : lS h b c pl la re im n) (hnx : b + 91 ≤ nx) (hbc : 2 ≤ bc) (hbs : 6 + PHI n ≤ bs) (K : ∀ (h3 : hv_P) (c3 : Nat) (pl3 : Nat → Nat) (la3 : Nat → Option Nat) (re3 im3 : Nat → Int32) (n3 : Nat), lS h3 b c3 pl3 la3 re3 im3 n3 → ∀ nx3 bc3 bs3 : Nat, b + 91 ≤ nx3 → bc ≤ bc3 + 2 → bs + PHI n3 ≤ bs3 + PHI n + 6 → hv_V l D M_L_law (hv_XL sb L xs) (hv_rm 11 394 601024 7293034) (hv_ans (some (.int 1)) (fun _ _ => True)) bc3 bs3 h3 nx3 588 [some (.ref sb), some (.ref b), some (.ref (b + 70)), some (.ref (b + 90)), some (.int (nI (i))), none, none, none] []) (hi : ¬ idxV c pl (xs (i + 1)) (xs (i + 2))) (hx : tellV c pl la (xs (i + 3)) (xs (i + 4))) : hv_V l D M_L_law (hv_XL sb L xs) (hv_rm 11 394 601024 7293034) (hv_ans (some (.int 1)) (fun _ _ => True)) bc bs h nx 334 [some (.ref sb), some (.ref b), some (.ref (b + 70)), some (.ref (b + 90)), some (.int (nI (i))), none, none, none] [] := by
  obtain ⟨⟨wk, ns⟩, ⟨th, ks⟩, ⟨f, ho⟩, hP⟩ := hS
  have ns0 := ns
  obtain ⟨lk, cu, u, l0, cp, hb, _⟩ := ns0
  have hN := ns.ok
  have hc10 := hN.1
  refine V_aload_n d_L_law_334 rfl ?_
  refine V_aload_n d_L_law_335 rfl ?_
  refine V_iload d_L_law_336 rfl ?_
  refine V_iconst (nI 1) d_L_law_338 rfl ?_
  refine V_iaddN d_L_law_339 ?_
  refine V_sld (fun s A q => q.2) d_L_law_340 ⟨rfl, by omega, by omega⟩ rfl ?_
  refine V_aload_n d_L_law_341 rfl ?_
  refine V_iload d_L_law_342 rfl ?_
  refine V_iconst (nI 2) d_L_law_344 rfl ?_
  refine V_iaddN d_L_law_345 ?_
  refine V_sld (fun s A q => q.2) d_L_law_346 ⟨rfl, by omega, by omega⟩ rfl ?_
  refine V_aload_n d_L_law_347 rfl ?_
  refine V_iload d_L_law_348 rfl ?_
  refine V_iconst (nI 3) d_L_law_350 rfl ?_
  refine V_iaddN d_L_law_351 ?_
  refine V_sld (fun s A q => q.2) d_L_law_352 ⟨rfl, by omega, by omega⟩ rfl ?_
  refine V_aload_n d_L_law_353 rfl ?_
  refine V_iload d_L_law_354 rfl ?_
  refine V_iconst (nI 4) d_L_law_356 rfl ?_
  refine V_iaddN d_L_law_357 ?_
  refine V_sld (fun s A q => q.2) d_L_law_358 ⟨rfl, by omega, by omega⟩ rfl ?_
  refine V_aload_n d_L_law_359 rfl ?_
  refine V_sW (hs := [(0, 13, 16, 13), (0, 13, 20, 15)]) (fun s A q => q.1) d_L_law_360 sl_L_58 si_L cw_L_slope ⟨by decide +kernel, by decide +kernel⟩ pd_L_slope ss_L_slope (c_L_slope1b l htr D _ _ ns hi hx) hv_ans_r rfl rfl rfl rfl rfl (by show 1 ≤ bc; omega) (by show 6 ≤ bs; omega) ?_
  rintro v h9 n9 ⟨e, e8, e9⟩
  cases e
  have e8 := e8.symm
  subst e8
  subst e9
  have ks9 := ks
  obtain ⟨⟨o1, o2, o3, o4, o5, o6, o7, o8, s1, s2, hk9⟩, _⟩ := ks
  refine V_istore_5 d_L_law_363 rfl ?_
  refine V_aload_n d_L_law_365 rfl ?_
  refine V_aload_n d_L_law_366 rfl ?_
  refine V_iload d_L_law_367 rfl ?_
  refine V_iconst (nI 1) d_L_law_369 rfl ?_
  refine V_iaddN d_L_law_370 ?_
  refine V_sld (fun s A q => q.2) d_L_law_371 ⟨rfl, by omega, by omega⟩ rfl ?_
  refine V_aload_n d_L_law_372 rfl ?_
  refine V_iload d_L_law_373 rfl ?_
  refine V_iconst (nI 2) d_L_law_375 rfl ?_
  refine V_iaddN d_L_law_376 ?_
  refine V_sld (fun s A q => q.2) d_L_law_377 ⟨rfl, by omega, by omega⟩ rfl ?_
  refine V_aload_n d_L_law_378 rfl ?_
  refine V_iload d_L_law_379 rfl ?_
  refine V_iconst (nI 3) d_L_law_381 rfl ?_
  refine V_iaddN d_L_law_382 ?_
  refine V_sld (fun s A q => q.2) d_L_law_383 ⟨rfl, by omega, by omega⟩ rfl ?_
  refine V_aload_n d_L_law_384 rfl ?_
  refine V_iload d_L_law_385 rfl ?_
  refine V_iconst (nI 4) d_L_law_387 rfl ?_
  refine V_iaddN d_L_law_388 ?_
  refine V_sld (fun s A q => q.2) d_L_law_389 ⟨rfl, by omega, by omega⟩ rfl ?_
  refine V_callV1 d_L_law_390 ml_L_61 mB_K_slope mi_K_slope mv_K_slope rfl hk9 (c_K_slope1 l D _ _ ks9 hN (fun q => hi q.1)) rfl rfl rfl rfl rfl rfl rfl ?_
  rintro h10 n10 ⟨e10, kf10, ks10⟩
  have e10 := e10.symm
  subst e10
  have ks100 := ks10
  obtain ⟨⟨q1, q2, q3, q4, q5, q6, q7, q8, z1, z2, hk10⟩, _⟩ := ks100
  refine V_lstore_6 d_L_law_393 rfl ?_
  refine V_aload_n d_L_law_395 rfl ?_
  refine V_callV1 d_L_law_396 ml_L_55 mB_K_thrown mi_K_thrown mv_K_thrown rfl hk10 (c_K_thrown l D _ _ hk10) rfl rfl rfl rfl rfl rfl rfl ?_
  rintro h11 n11 ⟨e8, e9⟩
  have e8 := e8.symm
  have e9 := e9.symm
  subst e8
  subst e9
  refine V_iload d_L_law_399 rfl ?_
  refine V_icmp_eq 406 d_L_law_401 (by decide) (fun _ => ?_) (fun q => absurd rfl q)
  refine V_iload d_L_law_406 rfl ?_
  refine V_if_ne 422 d_L_law_408 (by decide) (fun _ => ?_) (fun q => absurd q (by decide))
  refine V_goto 588 d_L_law_422 (by decide) ?_
  refine V_drop_6 ?_
  refine V_drop_5 ?_
  exact K h10 c pl la re im n ⟨⟨wk, ns.fr (fun q hq => kf10 q (by omega))⟩, ⟨_, ks10⟩, ⟨f, (kf10 _ (by omega)).trans ho⟩, hP⟩ _ _ _ (by omega) (by show bc ≤ bc - 1 + 2; omega) (by show bs + PHI n ≤ bs - 6 + PHI n + 6; omega)

set_option maxRecDepth 100000 in
set_option maxHeartbeats 4000000 in
theorem law_slope2 (l : Launch) (htr : ∀ e, l.admits e → e.platform.stackTraces = false) (D : hv_D) {sb L b c n nx bc bs i : Nat} {xs : Nat → Int32} {h : hv_P} {pl : Nat → Nat} {la : Nat → Option Nat} {re im : Nat → Int32} (hL : L ≤ 2560) (hi5 : i + 5 ≤ L) (hS : lS h b c pl la re im n) (hnx : b + 91 ≤ nx) (hbc : 2 ≤ bc) (hbs : 6 + PHI n ≤ bs) (K : ∀ (h3 : hv_P) (c3 : Nat) (pl3 : Nat → Nat) (la3 : Nat → Option Nat) (re3 im3 : Nat → Int32) (n3 : Nat), lS h3 b c3 pl3 la3 re3 im3 n3 → ∀ nx3 bc3 bs3 : Nat, b + 91 ≤ nx3 → bc ≤ bc3 + 2 → bs + PHI n3 ≤ bs3 + PHI n + 6 → hv_V l D M_L_law (hv_XL sb L xs) (hv_rm 11 394 601024 7293034) (hv_ans (some (.int 1)) (fun _ _ => True)) bc3 bs3 h3 nx3 588 [some (.ref sb), some (.ref b), some (.ref (b + 70)), some (.ref (b + 90)), some (.int (nI (i))), none, none, none] []) (hi : idxV c pl (xs (i + 1)) (xs (i + 2))) (hx : tellV c pl la (xs (i + 3)) (xs (i + 4))) (hk : 12 < PK (LC pl la 0) c) : hv_V l D M_L_law (hv_XL sb L xs) (hv_rm 11 394 601024 7293034) (hv_ans (some (.int 1)) (fun _ _ => True)) bc bs h nx 334 [some (.ref sb), some (.ref b), some (.ref (b + 70)), some (.ref (b + 90)), some (.int (nI (i))), none, none, none] [] := by
  obtain ⟨⟨wk, ns⟩, ⟨th, ks⟩, ⟨f, ho⟩, hP⟩ := hS
  have ns0 := ns
  obtain ⟨lk, cu, u, l0, cp, hb, _⟩ := ns0
  have hN := ns.ok
  have hc10 := hN.1
  refine V_aload_n d_L_law_334 rfl ?_
  refine V_aload_n d_L_law_335 rfl ?_
  refine V_iload d_L_law_336 rfl ?_
  refine V_iconst (nI 1) d_L_law_338 rfl ?_
  refine V_iaddN d_L_law_339 ?_
  refine V_sld (fun s A q => q.2) d_L_law_340 ⟨rfl, by omega, by omega⟩ rfl ?_
  refine V_aload_n d_L_law_341 rfl ?_
  refine V_iload d_L_law_342 rfl ?_
  refine V_iconst (nI 2) d_L_law_344 rfl ?_
  refine V_iaddN d_L_law_345 ?_
  refine V_sld (fun s A q => q.2) d_L_law_346 ⟨rfl, by omega, by omega⟩ rfl ?_
  refine V_aload_n d_L_law_347 rfl ?_
  refine V_iload d_L_law_348 rfl ?_
  refine V_iconst (nI 3) d_L_law_350 rfl ?_
  refine V_iaddN d_L_law_351 ?_
  refine V_sld (fun s A q => q.2) d_L_law_352 ⟨rfl, by omega, by omega⟩ rfl ?_
  refine V_aload_n d_L_law_353 rfl ?_
  refine V_iload d_L_law_354 rfl ?_
  refine V_iconst (nI 4) d_L_law_356 rfl ?_
  refine V_iaddN d_L_law_357 ?_
  refine V_sld (fun s A q => q.2) d_L_law_358 ⟨rfl, by omega, by omega⟩ rfl ?_
  refine V_aload_n d_L_law_359 rfl ?_
  refine V_sW (hs := [(0, 13, 16, 13), (0, 13, 20, 15)]) (fun s A q => q.1) d_L_law_360 sl_L_58 si_L cw_L_slope ⟨by decide +kernel, by decide +kernel⟩ pd_L_slope ss_L_slope (c_L_slope2 l htr D _ _ ns hi hx hk) hv_ans_r rfl rfl rfl rfl rfl (by show 1 ≤ bc; omega) (by show 6 ≤ bs; omega) ?_
  rintro v h9 n9 ⟨e, e9, fr9, wk9, ns9⟩
  cases e
  subst e9
  have ks9 := kS_fr ks (fun q a b => fr9 q (by omega))
  have ks90 := ks9
  obtain ⟨⟨o1, o2, o3, o4, o5, o6, o7, o8, s1, s2, hk9⟩, _⟩ := ks90
  refine V_istore_5 d_L_law_363 rfl ?_
  refine V_aload_n d_L_law_365 rfl ?_
  refine V_aload_n d_L_law_366 rfl ?_
  refine V_iload d_L_law_367 rfl ?_
  refine V_iconst (nI 1) d_L_law_369 rfl ?_
  refine V_iaddN d_L_law_370 ?_
  refine V_sld (fun s A q => q.2) d_L_law_371 ⟨rfl, by omega, by omega⟩ rfl ?_
  refine V_aload_n d_L_law_372 rfl ?_
  refine V_iload d_L_law_373 rfl ?_
  refine V_iconst (nI 2) d_L_law_375 rfl ?_
  refine V_iaddN d_L_law_376 ?_
  refine V_sld (fun s A q => q.2) d_L_law_377 ⟨rfl, by omega, by omega⟩ rfl ?_
  refine V_aload_n d_L_law_378 rfl ?_
  refine V_iload d_L_law_379 rfl ?_
  refine V_iconst (nI 3) d_L_law_381 rfl ?_
  refine V_iaddN d_L_law_382 ?_
  refine V_sld (fun s A q => q.2) d_L_law_383 ⟨rfl, by omega, by omega⟩ rfl ?_
  refine V_aload_n d_L_law_384 rfl ?_
  refine V_iload d_L_law_385 rfl ?_
  refine V_iconst (nI 4) d_L_law_387 rfl ?_
  refine V_iaddN d_L_law_388 ?_
  refine V_sld (fun s A q => q.2) d_L_law_389 ⟨rfl, by omega, by omega⟩ rfl ?_
  refine V_callV1 d_L_law_390 ml_L_61 mB_K_slope mi_K_slope mv_K_slope rfl hk9 (c_K_slope2 l D _ _ ks9 hN hi hx hk) rfl rfl rfl rfl rfl rfl rfl ?_
  rintro h10 n10 ⟨e10, kf10, ks10⟩
  have e10 := e10.symm
  subst e10
  have ks100 := ks10
  obtain ⟨⟨q1, q2, q3, q4, q5, q6, q7, q8, z1, z2, hk10⟩, _⟩ := ks100
  refine V_lstore_6 d_L_law_393 rfl ?_
  refine V_aload_n d_L_law_395 rfl ?_
  refine V_callV1 d_L_law_396 ml_L_55 mB_K_thrown mi_K_thrown mv_K_thrown rfl hk10 (c_K_thrown l D _ _ hk10) rfl rfl rfl rfl rfl rfl rfl ?_
  rintro h11 n11 ⟨e8, e9⟩
  have e8 := e8.symm
  have e9 := e9.symm
  subst e8
  subst e9
  refine V_iload d_L_law_399 rfl ?_
  refine V_icmp_eq 406 d_L_law_401 (by decide) (fun _ => ?_) (fun q => absurd rfl q)
  refine V_iload d_L_law_406 rfl ?_
  refine V_if_ne 422 d_L_law_408 (by decide) (fun _ => ?_) (fun q => absurd q (by decide))
  refine V_goto 588 d_L_law_422 (by decide) ?_
  refine V_drop_6 ?_
  refine V_drop_5 ?_
  exact K h10 c pl la re im n ⟨⟨wk9, ns9.fr (fun q hq => kf10 q (by omega))⟩, ⟨_, ks10⟩, ⟨f, (kf10 _ (by omega)).trans ((fr9 _ (by omega)).trans ho)⟩, hP⟩ _ _ _ (by omega) (by show bc ≤ bc - 1 + 2; omega) (by show bs + PHI n ≤ bs - 6 + PHI n + 6; omega)

set_option maxRecDepth 100000 in
set_option maxHeartbeats 4000000 in
theorem law_slope30 (l : Launch) (htr : ∀ e, l.admits e → e.platform.stackTraces = false) (D : hv_D) {sb L b c n nx bc bs i : Nat} {xs : Nat → Int32} {h : hv_P} {pl : Nat → Nat} {la : Nat → Option Nat} {re im : Nat → Int32} (hL : L ≤ 2560) (hi5 : i + 5 ≤ L) (hS : lS h b c pl la re im n) (hnx : b + 91 ≤ nx) (hbc : 2 ≤ bc) (hbs : 6 + PHI n ≤ bs) (K : ∀ (h3 : hv_P) (c3 : Nat) (pl3 : Nat → Nat) (la3 : Nat → Option Nat) (re3 im3 : Nat → Int32) (n3 : Nat), lS h3 b c3 pl3 la3 re3 im3 n3 → ∀ nx3 bc3 bs3 : Nat, b + 91 ≤ nx3 → bc ≤ bc3 + 2 → bs + PHI n3 ≤ bs3 + PHI n + 6 → hv_V l D M_L_law (hv_XL sb L xs) (hv_rm 11 394 601024 7293034) (hv_ans (some (.int 1)) (fun _ _ => True)) bc3 bs3 h3 nx3 588 [some (.ref sb), some (.ref b), some (.ref (b + 70)), some (.ref (b + 90)), some (.int (nI (i))), none, none, none] []) (hi : idxV c pl (xs (i + 1)) (xs (i + 2))) (hx : tellV c pl la (xs (i + 3)) (xs (i + 4))) (hk : PK (LC pl la 0) c ≤ 12) (hnd : ndF c pl la ≤ n) : hv_V l D M_L_law (hv_XL sb L xs) (hv_rm 11 394 601024 7293034) (hv_ans (some (.int 1)) (fun _ _ => True)) bc bs h nx 334 [some (.ref sb), some (.ref b), some (.ref (b + 70)), some (.ref (b + 90)), some (.int (nI (i))), none, none, none] [] := by
  obtain ⟨⟨wk, ns⟩, ⟨th, ks⟩, ⟨f, ho⟩, hP⟩ := hS
  have ns0 := ns
  obtain ⟨lk, cu, u, l0, cp, hb, _⟩ := ns0
  have hN := ns.ok
  have hc10 := hN.1
  refine V_aload_n d_L_law_334 rfl ?_
  refine V_aload_n d_L_law_335 rfl ?_
  refine V_iload d_L_law_336 rfl ?_
  refine V_iconst (nI 1) d_L_law_338 rfl ?_
  refine V_iaddN d_L_law_339 ?_
  refine V_sld (fun s A q => q.2) d_L_law_340 ⟨rfl, by omega, by omega⟩ rfl ?_
  refine V_aload_n d_L_law_341 rfl ?_
  refine V_iload d_L_law_342 rfl ?_
  refine V_iconst (nI 2) d_L_law_344 rfl ?_
  refine V_iaddN d_L_law_345 ?_
  refine V_sld (fun s A q => q.2) d_L_law_346 ⟨rfl, by omega, by omega⟩ rfl ?_
  refine V_aload_n d_L_law_347 rfl ?_
  refine V_iload d_L_law_348 rfl ?_
  refine V_iconst (nI 3) d_L_law_350 rfl ?_
  refine V_iaddN d_L_law_351 ?_
  refine V_sld (fun s A q => q.2) d_L_law_352 ⟨rfl, by omega, by omega⟩ rfl ?_
  refine V_aload_n d_L_law_353 rfl ?_
  refine V_iload d_L_law_354 rfl ?_
  refine V_iconst (nI 4) d_L_law_356 rfl ?_
  refine V_iaddN d_L_law_357 ?_
  refine V_sld (fun s A q => q.2) d_L_law_358 ⟨rfl, by omega, by omega⟩ rfl ?_
  refine V_aload_n d_L_law_359 rfl ?_
  refine V_sW (hs := [(0, 13, 16, 13), (0, 13, 20, 15)]) (fun s A q => q.1) d_L_law_360 sl_L_58 si_L cw_L_slope ⟨by decide +kernel, by decide +kernel⟩ pd_L_slope ss_L_slope (c_L_slope30 l htr D _ _ ns ho hi hx hk hnx hnd) hv_ans_r rfl rfl rfl rfl rfl (Nat.zero_le _) (Nat.zero_le _) ?_
  rintro v h9 n9 ⟨e, e9, ⟨f9, ho9, hf9⟩, fr9, wk9, ns9⟩
  cases e
  subst e9
  have ks9 := kS_fr ks (fun q a b => fr9 q (by omega))
  have ks90 := ks9
  obtain ⟨⟨o1, o2, o3, o4, o5, o6, o7, o8, s1, s2, hk9⟩, _⟩ := ks90
  refine V_istore_5 d_L_law_363 rfl ?_
  refine V_aload_n d_L_law_365 rfl ?_
  refine V_aload_n d_L_law_366 rfl ?_
  refine V_iload d_L_law_367 rfl ?_
  refine V_iconst (nI 1) d_L_law_369 rfl ?_
  refine V_iaddN d_L_law_370 ?_
  refine V_sld (fun s A q => q.2) d_L_law_371 ⟨rfl, by omega, by omega⟩ rfl ?_
  refine V_aload_n d_L_law_372 rfl ?_
  refine V_iload d_L_law_373 rfl ?_
  refine V_iconst (nI 2) d_L_law_375 rfl ?_
  refine V_iaddN d_L_law_376 ?_
  refine V_sld (fun s A q => q.2) d_L_law_377 ⟨rfl, by omega, by omega⟩ rfl ?_
  refine V_aload_n d_L_law_378 rfl ?_
  refine V_iload d_L_law_379 rfl ?_
  refine V_iconst (nI 3) d_L_law_381 rfl ?_
  refine V_iaddN d_L_law_382 ?_
  refine V_sld (fun s A q => q.2) d_L_law_383 ⟨rfl, by omega, by omega⟩ rfl ?_
  refine V_aload_n d_L_law_384 rfl ?_
  refine V_iload d_L_law_385 rfl ?_
  refine V_iconst (nI 4) d_L_law_387 rfl ?_
  refine V_iaddN d_L_law_388 ?_
  refine V_sld (fun s A q => q.2) d_L_law_389 ⟨rfl, by omega, by omega⟩ rfl ?_
  refine V_callV1 d_L_law_390 ml_L_61 mB_K_slope mi_K_slope mv_K_slope rfl hk9 (c_K_slope3 l D _ _ ks9 hN hi hx hk) rfl rfl rfl rfl rfl rfl rfl ?_
  rintro h10 n10 ⟨e10, kf10, ks10⟩
  have e10 := e10.symm
  subst e10
  have ks100 := ks10
  obtain ⟨⟨q1, q2, q3, q4, q5, q6, q7, q8, z1, z2, hk10⟩, _⟩ := ks100
  refine V_lstore_6 d_L_law_393 rfl ?_
  refine V_aload_n d_L_law_395 rfl ?_
  refine V_callV1 d_L_law_396 ml_L_55 mB_K_thrown mi_K_thrown mv_K_thrown rfl hk10 (c_K_thrown l D _ _ hk10) rfl rfl rfl rfl rfl rfl rfl ?_
  rintro h11 n11 ⟨e8, e9⟩
  have e8 := e8.symm
  have e9 := e9.symm
  subst e8
  subst e9
  refine V_iload d_L_law_399 rfl ?_
  refine V_icmp_eq 406 d_L_law_401 (by decide) (fun _ => ?_) (fun q => absurd rfl q)
  refine V_iload d_L_law_406 rfl ?_
  refine V_if_ne 422 d_L_law_408 (by decide) (fun q => absurd rfl q) (fun _ => ?_)
  refine V_aload_n d_L_law_411 rfl ?_
  refine V_iconst (nI 0) d_L_law_412 rfl ?_
  refine V_laload d_L_law_413 ((kf10 _ (by omega)).trans ho9) ⟨rfl, by decide, by decide⟩ ?_
  refine V_lload d_L_law_414 rfl ?_
  refine V_lcmp d_L_law_416 ?_
  rw [hf9, cmp_self]
  refine V_if_eq 422 d_L_law_417 (by decide) (fun _ => ?_) (fun q => absurd rfl q)
  refine V_goto 588 d_L_law_422 (by decide) ?_
  refine V_drop_6 ?_
  refine V_drop_5 ?_
  exact K h10 c pl la re im (gN n (ndF c pl la)) ⟨⟨wk9, ns9.fr (fun q hq => kf10 q (by omega))⟩, ⟨_, ks10⟩, ⟨f9, (kf10 _ (by omega)).trans ho9⟩, hP⟩ _ _ _ (by omega) (by show bc ≤ bc - 0 + 2; omega) (by rw [show gN n (ndF c pl la) = n from if_neg (by omega)]; show bs + PHI n ≤ bs - 0 + PHI n + 6; omega)

set_option maxRecDepth 100000 in
set_option maxHeartbeats 4000000 in
theorem law_slope31 (l : Launch) (htr : ∀ e, l.admits e → e.platform.stackTraces = false) (D : hv_D) {sb L b c n nx bc bs i : Nat} {xs : Nat → Int32} {h : hv_P} {pl : Nat → Nat} {la : Nat → Option Nat} {re im : Nat → Int32} (hL : L ≤ 2560) (hi5 : i + 5 ≤ L) (hS : lS h b c pl la re im n) (hnx : b + 91 ≤ nx) (hbc : 2 ≤ bc) (hbs : 6 + PHI n ≤ bs) (K : ∀ (h3 : hv_P) (c3 : Nat) (pl3 : Nat → Nat) (la3 : Nat → Option Nat) (re3 im3 : Nat → Int32) (n3 : Nat), lS h3 b c3 pl3 la3 re3 im3 n3 → ∀ nx3 bc3 bs3 : Nat, b + 91 ≤ nx3 → bc ≤ bc3 + 2 → bs + PHI n3 ≤ bs3 + PHI n + 6 → hv_V l D M_L_law (hv_XL sb L xs) (hv_rm 11 394 601024 7293034) (hv_ans (some (.int 1)) (fun _ _ => True)) bc3 bs3 h3 nx3 588 [some (.ref sb), some (.ref b), some (.ref (b + 70)), some (.ref (b + 90)), some (.int (nI (i))), none, none, none] []) (hi : idxV c pl (xs (i + 1)) (xs (i + 2))) (hx : tellV c pl la (xs (i + 3)) (xs (i + 4))) (hk : PK (LC pl la 0) c ≤ 12) (hnd : n < ndF c pl la) : hv_V l D M_L_law (hv_XL sb L xs) (hv_rm 11 394 601024 7293034) (hv_ans (some (.int 1)) (fun _ _ => True)) bc bs h nx 334 [some (.ref sb), some (.ref b), some (.ref (b + 70)), some (.ref (b + 90)), some (.int (nI (i))), none, none, none] [] := by
  obtain ⟨⟨wk, ns⟩, ⟨th, ks⟩, ⟨f, ho⟩, hP⟩ := hS
  have ns0 := ns
  obtain ⟨lk, cu, u, l0, cp, hb, _⟩ := ns0
  have hN := ns.ok
  have hc10 := hN.1
  have PG := PHI_g hnd (nd_le hN (RDY_c hx.1) hk)
  refine V_aload_n d_L_law_334 rfl ?_
  refine V_aload_n d_L_law_335 rfl ?_
  refine V_iload d_L_law_336 rfl ?_
  refine V_iconst (nI 1) d_L_law_338 rfl ?_
  refine V_iaddN d_L_law_339 ?_
  refine V_sld (fun s A q => q.2) d_L_law_340 ⟨rfl, by omega, by omega⟩ rfl ?_
  refine V_aload_n d_L_law_341 rfl ?_
  refine V_iload d_L_law_342 rfl ?_
  refine V_iconst (nI 2) d_L_law_344 rfl ?_
  refine V_iaddN d_L_law_345 ?_
  refine V_sld (fun s A q => q.2) d_L_law_346 ⟨rfl, by omega, by omega⟩ rfl ?_
  refine V_aload_n d_L_law_347 rfl ?_
  refine V_iload d_L_law_348 rfl ?_
  refine V_iconst (nI 3) d_L_law_350 rfl ?_
  refine V_iaddN d_L_law_351 ?_
  refine V_sld (fun s A q => q.2) d_L_law_352 ⟨rfl, by omega, by omega⟩ rfl ?_
  refine V_aload_n d_L_law_353 rfl ?_
  refine V_iload d_L_law_354 rfl ?_
  refine V_iconst (nI 4) d_L_law_356 rfl ?_
  refine V_iaddN d_L_law_357 ?_
  refine V_sld (fun s A q => q.2) d_L_law_358 ⟨rfl, by omega, by omega⟩ rfl ?_
  refine V_aload_n d_L_law_359 rfl ?_
  refine V_sW (hs := [(0, 13, 16, 13), (0, 13, 20, 15)]) (fun s A q => q.1) d_L_law_360 sl_L_58 si_L cw_L_slope ⟨by decide +kernel, by decide +kernel⟩ pd_L_slope ss_L_slope (c_L_slope31 l htr D _ _ ns ho hi hx hk hnx hnd) hv_ans_r rfl rfl rfl rfl rfl (by show 2 ≤ bc; omega) (by show 2 * max (ndF c pl la) (2 * n) ≤ bs; omega) ?_
  rintro v h9 n9 ⟨e, e9, ⟨f9, ho9, hf9⟩, fr9, wk9, ns9⟩
  cases e
  subst e9
  have ks9 := kS_fr ks (fun q a b => fr9 q (by omega))
  have ks90 := ks9
  obtain ⟨⟨o1, o2, o3, o4, o5, o6, o7, o8, s1, s2, hk9⟩, _⟩ := ks90
  refine V_istore_5 d_L_law_363 rfl ?_
  refine V_aload_n d_L_law_365 rfl ?_
  refine V_aload_n d_L_law_366 rfl ?_
  refine V_iload d_L_law_367 rfl ?_
  refine V_iconst (nI 1) d_L_law_369 rfl ?_
  refine V_iaddN d_L_law_370 ?_
  refine V_sld (fun s A q => q.2) d_L_law_371 ⟨rfl, by omega, by omega⟩ rfl ?_
  refine V_aload_n d_L_law_372 rfl ?_
  refine V_iload d_L_law_373 rfl ?_
  refine V_iconst (nI 2) d_L_law_375 rfl ?_
  refine V_iaddN d_L_law_376 ?_
  refine V_sld (fun s A q => q.2) d_L_law_377 ⟨rfl, by omega, by omega⟩ rfl ?_
  refine V_aload_n d_L_law_378 rfl ?_
  refine V_iload d_L_law_379 rfl ?_
  refine V_iconst (nI 3) d_L_law_381 rfl ?_
  refine V_iaddN d_L_law_382 ?_
  refine V_sld (fun s A q => q.2) d_L_law_383 ⟨rfl, by omega, by omega⟩ rfl ?_
  refine V_aload_n d_L_law_384 rfl ?_
  refine V_iload d_L_law_385 rfl ?_
  refine V_iconst (nI 4) d_L_law_387 rfl ?_
  refine V_iaddN d_L_law_388 ?_
  refine V_sld (fun s A q => q.2) d_L_law_389 ⟨rfl, by omega, by omega⟩ rfl ?_
  refine V_callV1 d_L_law_390 ml_L_61 mB_K_slope mi_K_slope mv_K_slope rfl hk9 (c_K_slope3 l D _ _ ks9 hN hi hx hk) rfl rfl rfl rfl rfl rfl rfl ?_
  rintro h10 n10 ⟨e10, kf10, ks10⟩
  have e10 := e10.symm
  subst e10
  have ks100 := ks10
  obtain ⟨⟨q1, q2, q3, q4, q5, q6, q7, q8, z1, z2, hk10⟩, _⟩ := ks100
  refine V_lstore_6 d_L_law_393 rfl ?_
  refine V_aload_n d_L_law_395 rfl ?_
  refine V_callV1 d_L_law_396 ml_L_55 mB_K_thrown mi_K_thrown mv_K_thrown rfl hk10 (c_K_thrown l D _ _ hk10) rfl rfl rfl rfl rfl rfl rfl ?_
  rintro h11 n11 ⟨e8, e9⟩
  have e8 := e8.symm
  have e9 := e9.symm
  subst e8
  subst e9
  refine V_iload d_L_law_399 rfl ?_
  refine V_icmp_eq 406 d_L_law_401 (by decide) (fun _ => ?_) (fun q => absurd rfl q)
  refine V_iload d_L_law_406 rfl ?_
  refine V_if_ne 422 d_L_law_408 (by decide) (fun q => absurd rfl q) (fun _ => ?_)
  refine V_aload_n d_L_law_411 rfl ?_
  refine V_iconst (nI 0) d_L_law_412 rfl ?_
  refine V_laload d_L_law_413 ((kf10 _ (by omega)).trans ho9) ⟨rfl, by decide, by decide⟩ ?_
  refine V_lload d_L_law_414 rfl ?_
  refine V_lcmp d_L_law_416 ?_
  rw [hf9, cmp_self]
  refine V_if_eq 422 d_L_law_417 (by decide) (fun _ => ?_) (fun q => absurd rfl q)
  refine V_goto 588 d_L_law_422 (by decide) ?_
  refine V_drop_6 ?_
  refine V_drop_5 ?_
  exact K h10 c pl la re im (gN n (ndF c pl la)) ⟨⟨wk9, ns9.fr (fun q hq => kf10 q (by omega))⟩, ⟨_, ks10⟩, ⟨f9, (kf10 _ (by omega)).trans ho9⟩, hP⟩ _ _ _ (by omega) (by show bc ≤ bc - 2 + 2; omega) (by rw [show gN n (ndF c pl la) = max (ndF c pl la) (2 * n) from if_pos hnd]; show bs + PHI (max (ndF c pl la) (2 * n)) ≤ bs - 2 * max (ndF c pl la) (2 * n) + PHI n + 6; omega)

set_option maxRecDepth 100000 in
set_option maxHeartbeats 4000000 in
theorem law_slope (l : Launch) (htr : ∀ e, l.admits e → e.platform.stackTraces = false) (D : hv_D) {sb L b c n nx bc bs i : Nat} {xs : Nat → Int32} {h : hv_P} {pl : Nat → Nat} {la : Nat → Option Nat} {re im : Nat → Int32} (hL : L ≤ 2560) (hi5 : i + 5 ≤ L) (hS : lS h b c pl la re im n) (hnx : b + 91 ≤ nx) (hbc : 2 ≤ bc) (hbs : 6 + PHI n ≤ bs) (K : ∀ (h3 : hv_P) (c3 : Nat) (pl3 : Nat → Nat) (la3 : Nat → Option Nat) (re3 im3 : Nat → Int32) (n3 : Nat), lS h3 b c3 pl3 la3 re3 im3 n3 → ∀ nx3 bc3 bs3 : Nat, b + 91 ≤ nx3 → bc ≤ bc3 + 2 → bs + PHI n3 ≤ bs3 + PHI n + 6 → hv_V l D M_L_law (hv_XL sb L xs) (hv_rm 11 394 601024 7293034) (hv_ans (some (.int 1)) (fun _ _ => True)) bc3 bs3 h3 nx3 588 [some (.ref sb), some (.ref b), some (.ref (b + 70)), some (.ref (b + 90)), some (.int (nI (i))), none, none, none] []) : hv_V l D M_L_law (hv_XL sb L xs) (hv_rm 11 394 601024 7293034) (hv_ans (some (.int 1)) (fun _ _ => True)) bc bs h nx 334 [some (.ref sb), some (.ref b), some (.ref (b + 70)), some (.ref (b + 90)), some (.int (nI (i))), none, none, none] [] := by
  skip
  by_cases hi : idxV c pl (xs (i + 1)) (xs (i + 2))
  · by_cases hx : tellV c pl la (xs (i + 3)) (xs (i + 4))
    · by_cases hk : PK (LC pl la 0) c ≤ 12
      · by_cases hnd : ndF c pl la ≤ n
        · exact law_slope30 l htr D hL hi5 hS hnx hbc hbs K hi hx hk hnd
        · exact law_slope31 l htr D hL hi5 hS hnx hbc hbs K hi hx hk (by omega)
      · exact law_slope2 l htr D hL hi5 hS hnx hbc hbs K hi hx (by omega)
    · exact law_slope1a l htr D hL hi5 hS hnx hbc hbs K hx
  · by_cases hx : tellV c pl la (xs (i + 3)) (xs (i + 4))
    · exact law_slope1b l htr D hL hi5 hS hnx hbc hbs K hi hx
    · exact law_slope1a l htr D hL hi5 hS hnx hbc hbs K hx
