-- THE CLASS: cuts and the greedy run
theorem find_cg {f g : Nat → Bool} : ∀ {n : Nat}, (∀ i, i < n → f i = g i) → (List.range n).find? f = (List.range n).find? g
  | 0, _ => rfl
  | n + 1, h => by
    rw [List.range_succ, List.find?_append, List.find?_append, find_cg (fun i hi => h i (by omega))]
    congr 1
    simp [List.find?, h n (by omega)]
theorem fsome_cg {f g : Nat → Option Nat} : ∀ {n : Nat}, (∀ i, i < n → f i = g i) → (List.range n).findSome? f = (List.range n).findSome? g
  | 0, _ => rfl
  | n + 1, h => by
    rw [List.range_succ, List.findSome?_append, List.findSome?_append, fsome_cg (fun i hi => h i (by omega))]
    congr 1
    simp [List.findSome?, h n (by omega)]
theorem find_no {f : Nat → Bool} {n : Nat} (h : (List.range n).find? f = none) {i : Nat} (hi : i < n) : f i = false := by
  have := List.find?_eq_none.mp h i (List.mem_range.mpr hi)
  cases e : f i
  · rfl
  · exact absurd e this
theorem cut_eq {S S' : Nat} {P : Nat → Bool} (h1 : ∀ i, S'.testBit i = true → S.testBit i = true) (h2 : ∀ i, i < 20 → S.testBit i = true → S'.testBit i = false → ∀ x, P (x ||| 2 ^ i) = P x) (h0 : P 0 = false) : cut1 S P = cut1 S' P ∧ (cut1 S P = none → cut2 S P = cut2 S' P) := by
  have e1 : cut1 S P = cut1 S' P := by
    refine find_cg (fun i hi => ?_)
    cases a : S'.testBit i
    · cases b : S.testBit i
      · rfl
      · have := h2 i hi b a 0
        rw [Nat.zero_or, h0] at this
        rw [this, Bool.and_false, Bool.and_false]
    · rw [h1 i a]
  refine ⟨e1, fun hn => ?_⟩
  refine fsome_cg (fun j hj => ?_)
  congr 1
  refine find_cg (fun i hi => ?_)
  have ni : (S.testBit i && P (2 ^ i)) = false := find_no hn (show i < 20 by omega)
  have nj : (S.testBit j && P (2 ^ j)) = false := find_no hn hj
  cases a : S'.testBit i
  · cases a2 : S.testBit i
    · rfl
    · cases b : S.testBit j
      · simp
      · have e := h2 i (by omega) a2 a (2 ^ j)
        rw [Nat.or_comm] at e
        rw [b, Bool.true_and] at nj
        rw [e, nj]; simp
  · cases b : S'.testBit j
    · cases b2 : S.testBit j
      · simp
      · have e := h2 j hj b2 b (2 ^ i)
        rw [h1 i a, Bool.true_and] at ni
        rw [e, ni]; simp
    · rw [h1 i a, h1 j b]
def cN1 (S : Nat) (P : Nat → Bool) : Int32 := match cut1 S P with
  | some i => nI (2 ^ i)
  | none => -1
def cN2 (S : Nat) (P : Nat → Bool) : Int32 := match cut2 S P with
  | some x => nI x
  | none => -1
theorem nbF_bit {lg : Nat → Nat} {n : Nat} : ∀ c, (nbF lg c).testBit n = false → ∀ t, t < c → (lg t).testBit n = false
  | 0, _, t, ht => by omega
  | c + 1, h, t, ht => by
    simp only [nbF, Nat.testBit_or, Bool.or_eq_false_iff] at h
    by_cases e : t = c
    · rw [e]; exact h.2
    · exact nbF_bit c h.1 t (by omega)
/-- a leg that no tensor's set has changes no cut's peak -/
theorem PE_no {c : Nat} {pl : Nat → Nat} {la : Nat → Option Nat} (hN : netOK c pl la) (hc1 : 1 ≤ c) {mo i : Nat} (h : ∀ t, t < c → (LE pl la t).testBit i = false) (x : Nat) : PE c pl la mo (x ||| 2 ^ i) = PE c pl la mo x := by
  unfold PE
  rw [PK_congr hc1 hN.1 (LC_lt hN _) (l2 := LC pl la x) (fun t ht => ?_)]
  apply Nat.eq_of_testBit_eq
  intro n
  show (anN (LE pl la t) (x ||| 2 ^ i)).testBit n = (anN (LE pl la t) x).testBit n
  rw [anN_bit, anN_bit, Nat.testBit_or, Nat.testBit_two_pow]
  by_cases e : i = n
  · rw [← e, h t ht]; rfl
  · simp [e]
theorem alF_PK {c : Nat} {pl : Nat → Nat} {la : Nat → Option Nat} {cu mo : Nat} (hc : c ≤ 10) (h : PK (LC pl la cu) c ≤ mo) : alF (LE pl la) cu mo c = true := by
  have h1 := ((mlB_iff _).mp h).1
  have key : ∀ n, n ≤ c → mlA (LG (LC pl la cu)) n ≤ mo → alF (LE pl la) cu mo n = true := by
    intro n
    induction n with
    | zero => intro _ _; rfl
    | succ n ih =>
      intro hn q
      have q : max (mlA (LG (LC pl la cu)) n) (pc_ (LG (LC pl la cu) (2 ^ n))) ≤ mo := q
      rw [Nat.max_le] at q
      have e : LG (LC pl la cu) (2 ^ n) = anN (LE pl la n) cu := by rw [LG, LGn_one, if_pos (by omega)]; rfl
      rw [e] at q
      simp only [alF, ih (by omega) q.1, q.2, decide_true, Bool.and_self]
  exact key c (Nat.le_refl _) h1
theorem cpOK_up {pl : Nat → Nat} {la : Nat → Option Nat} {c : Nat} {cp : Nat → Int32} (h : cpOK pl la c cp) {i j : Nat} (hi : i < 20) (hj : j < 20) (hc : 1 ≤ c) : cpOK pl la c (va_up cp (20 * i + j) (nI (PK (LC pl la (2 ^ i ||| 2 ^ j)) c))) := by
  intro i' j' hi' hj'
  unfold va_up
  by_cases e : 20 * i' + j' = 20 * i + j
  · have e1 : i' = i := by omega
    have e2 : j' = j := by omega
    subst e1; subst e2
    rw [if_pos rfl]
    exact Or.inr ⟨hc, rfl⟩
  · rw [if_neg e]
    exact h i' j' hi' hj'
def gsim (c t : Nat) (s s' : gst) : Prop := (∀ i, i < c + t → s.1 i = s'.1 i) ∧ s.2.2.1 = s'.2.2.1 ∧ (∀ j, j < t → s.2.2.2.1 j = s'.2.2.2.1 j ∧ s.2.2.2.2.1 j = s'.2.2.2.2.1 j) ∧ s.2.2.2.2.2 = s'.2.2.2.2.2
theorem gsim_s {c t : Nat} {s s' : gst} (G : gok c s t) (ht : t + 1 < c) (h : gsim c t s s') : gsim c (t + 1) (gtu c s t) (gtu c s' t) := by
  obtain ⟨p, q, hc, h1, h2, h3, h4⟩ := gok_ch G ht
  obtain ⟨k1, k2, k3, k4⟩ := h
  have hc' : chI s'.1 s'.2.2.1 (c + t) (c + t) = some (p, q) := by rw [← k2, ← chI_congr k1 _ (Nat.le_refl _)]; exact hc
  have ep := k1 p (by omega)
  have eq := k1 q h2
  unfold gtu
  rw [hc, hc']
  refine ⟨fun i hi => ?_, by show s.2.2.1 ||| _ = s'.2.2.1 ||| _; rw [k2], fun j hj => ?_, by show s.2.2.2.2.2 + _ = s'.2.2.2.2.2 + _; rw [k4, ep, eq]⟩
  · by_cases e : i = c + t
    · subst e
      simp only [va_up, if_true]
      rw [ep, eq]
    · simp only [va_up, if_neg e]
      exact k1 i (by omega)
  · by_cases e : j = t
    · subst e; simp [va_up]
    · simp only [va_up, if_neg e]
      exact k3 j (by omega)
theorem gsim_r {c : Nat} {s s' : gst} (G : gok c s 0) (h : gsim c 0 s s') : ∀ t, t < c → gsim c t (grun c s t) (grun c s' t)
  | 0, _ => h
  | t + 1, ht => gsim_s (gok_r G t (by omega)) ht (gsim_r G h t (by omega))
set_option maxRecDepth 100000 in
set_option maxHeartbeats 4000000 in
theorem c_N_isLow (l : Launch) (D : hv_D) (h : hv_P) (nx : Nat) {b c n : Nat} {wk : Int32} {pl : Nat → Nat} {la : Nat → Option Nat} {re im : Nat → Int32} (hS : nS h b wk c pl la re im n) (hr : RDY c pl la = true) {i j mo : Nat} (hi : i < 20) (hj : j < 20) (hmo : mo < 2 ^ 31) : hv_N l D M_N_isLowWhenCut (hv_rm 5 126 0 0) [.ref b, .int (nI i), .int (nI j), .int (nI mo)] h nx (hv_ans (some (.int (bZ (PE c pl la mo (2 ^ i ||| 2 ^ j))))) (fun h' n' => n' = nx ∧ nFr b h h' ∧ ∃ wk', nS h' b wk' c pl la re im n)) := by
  refine hv_N.of' [some (.ref b), some (.int (nI i)), some (.int (nI j)), some (.int (nI mo)), none, none] (by decide +kernel) rfl rfl rfl ?_
  have hS0 := hS
  obtain ⟨lk, cu, u, l0, cp, hb, hT, hu, hu2, hl0, hcp, hcpk, hW, hL, hlk, hG, hC, hN⟩ := hS
  have hc1 := RDY_c hr
  have slt : (2 ^ i ||| 2 ^ j) < 2 ^ 20 := Nat.or_lt_two_pow (Nat.pow_lt_pow_right (by decide) (by omega)) (Nat.pow_lt_pow_right (by decide) (by omega))
  have pk20 : PK (LC pl la (2 ^ i ||| 2 ^ j)) c ≤ 20 := PK_le hc1 hN.1 (LC_lt hN _)
  refine V_iconst (nI 1) d_N_isLowWhenCut_0 rfl ?_
  refine V_iload_n d_N_isLowWhenCut_1 rfl ?_
  refine V_ishlN d_N_isLowWhenCut_2 (by omega) ?_
  refine V_iconst (nI 1) d_N_isLowWhenCut_3 rfl ?_
  refine V_iload_n d_N_isLowWhenCut_4 rfl ?_
  refine V_ishlN d_N_isLowWhenCut_5 (by omega) ?_
  refine V_iorN d_N_isLowWhenCut_6 ?_
  rw [Nat.one_mul, Nat.one_mul]
  refine V_istore_4 d_N_isLowWhenCut_7 rfl ?_
  refine V_aload_n d_N_isLowWhenCut_9 rfl ?_
  refine V_iload d_N_isLowWhenCut_10 rfl ?_
  refine V_iload_n d_N_isLowWhenCut_12 rfl ?_
  refine V_callV1 d_N_isLowWhenCut_13 ml_N_202 mB_N_areTensorsLow mi_N_areTensorsLow mv_N_areTensorsLow rfl hb (c_N_areLow l D _ _ hb hT.1 hT.2.1 hN.1 hmo (fun i hi => LE_lt hN hi)) rfl rfl rfl rfl rfl rfl rfl ?_
  rintro _ _ ⟨rfl, rfl⟩
  refine V_if_ne 21 d_N_isLowWhenCut_16 (by decide) (fun c16 => ?_) (fun c16 => ?_)
  · refine V_iload_n d_N_isLowWhenCut_21 rfl ?_
    refine V_bipush (nI 20) d_N_isLowWhenCut_22 rfl ?_
    refine V_imulN d_N_isLowWhenCut_24 ?_
    refine V_iload_n d_N_isLowWhenCut_25 rfl ?_
    refine V_iaddN d_N_isLowWhenCut_26 ?_
    rw [Nat.mul_comm i 20]
    refine V_istore_5 d_N_isLowWhenCut_27 rfl ?_
    refine V_aload_n d_N_isLowWhenCut_29 rfl ?_
    refine V_getfield d_N_isLowWhenCut_30 fl_N_23 hb rfl ?_
    refine V_iload d_N_isLowWhenCut_33 rfl ?_
    refine V_iaload d_N_isLowWhenCut_35 hcp ⟨rfl, by omega, by decide⟩ ?_
    refine V_iconst (-1) d_N_isLowWhenCut_36 rfl ?_
    refine V_icmp_ne 56 d_N_isLowWhenCut_37 (by decide) (fun c37 => ?_) (fun c37 => ?_)
    · have e9 : cp (20 * i + j) = nI (PK (LC pl la (2 ^ i ||| 2 ^ j)) c) := by
        rcases hcpk i j hi hj with q | q
        · exact absurd q c37
        · exact q.2
      refine V_aload_n d_N_isLowWhenCut_56 rfl ?_
      refine V_getfield d_N_isLowWhenCut_57 fl_N_23 hb rfl ?_
      refine V_iload d_N_isLowWhenCut_60 rfl ?_
      refine V_iaload d_N_isLowWhenCut_62 hcp ⟨rfl, by omega, by decide⟩ ?_
      rw [e9]
      refine V_iload_n d_N_isLowWhenCut_63 rfl ?_
      refine V_icmp_gtN 71 d_N_isLowWhenCut_64 (by decide) (by omega) hmo (fun c64 => ?_) (fun c64 => ?_)
      · have AN : PE c pl la mo (2 ^ i ||| 2 ^ j) = false := decide_eq_false (by omega)
        refine V_iconst (0) d_N_isLowWhenCut_71 rfl ?_
        exact V_zreturn d_N_isLowWhenCut_72 rfl rfl ⟨by rw [AN]; rfl, rfl, fun q x => rfl, ⟨wk, lk, cu, u, l0, cp, hb, hT, hu, hu2, hl0, hcp, hcpk, hW, hL, hlk, hG, hC, hN⟩⟩
      · have AN : PE c pl la mo (2 ^ i ||| 2 ^ j) = true := decide_eq_true (by omega)
        refine V_iconst (1) d_N_isLowWhenCut_67 rfl ?_
        refine V_goto 72 d_N_isLowWhenCut_68 (by decide) ?_
        exact V_zreturn d_N_isLowWhenCut_72 rfl rfl ⟨by rw [AN]; rfl, rfl, fun q x => rfl, ⟨wk, lk, cu, u, l0, cp, hb, hT, hu, hu2, hl0, hcp, hcpk, hW, hL, hlk, hG, hC, hN⟩⟩
    · refine V_aload_n d_N_isLowWhenCut_40 rfl ?_
      refine V_getfield d_N_isLowWhenCut_41 fl_N_23 hb rfl ?_
      refine V_iload d_N_isLowWhenCut_44 rfl ?_
      refine V_aload_n d_N_isLowWhenCut_46 rfl ?_
      refine V_iload d_N_isLowWhenCut_47 rfl ?_
      refine V_callV1 d_N_isLowWhenCut_49 ml_N_168 mB_N_orderWhenCut mi_N_orderWhenCut mv_N_orderWhenCut rfl hb (c_N_orderWhenCut l D _ _ hS0 (fun _ => hr) (by omega)) rfl rfl rfl rfl rfl rfl rfl ?_
      rintro h9 n9 ⟨rfl, fr9, ns9, ⟨ac9, ml9, lg9, co9, fi9, md9, wt9, y0, y1, y2, y3, y4, y5, y6, y7, y8⟩⟩
      have y8 := (y8 trivial).2.2.2.2.2
      subst y8
      obtain ⟨lk9, cu9, u9, l09, cp9, hb9, hT9, hu9, hu29, hl09, hcp9, hcpk9, hW9, hL9, hlk9, hG9, hC9, hN9⟩ := ns9
      refine V_getfield d_N_isLowWhenCut_52 fl_N_135 y0 rfl ?_
      refine V_ist d_N_isLowWhenCut_55 hcp9 ⟨rfl, by omega, by decide⟩ rfl ?_
      refine V_aload_n d_N_isLowWhenCut_56 rfl ?_
      refine V_getfield d_N_isLowWhenCut_57 fl_N_23 ((hv_up_n (by omega)).trans hb9) rfl ?_
      refine V_iload d_N_isLowWhenCut_60 rfl ?_
      refine V_iaload d_N_isLowWhenCut_62 hv_up_s ⟨rfl, by omega, by decide⟩ ?_
      rw [show ∀ (f : Nat → Int32) (k : Nat) (v : Int32), va_up f k v k = v from fun f k v => if_pos rfl]
      refine V_iload_n d_N_isLowWhenCut_63 rfl ?_
      refine V_icmp_gtN 71 d_N_isLowWhenCut_64 (by decide) (by omega) hmo (fun c64 => ?_) (fun c64 => ?_)
      · have AN : PE c pl la mo (2 ^ i ||| 2 ^ j) = false := decide_eq_false (by omega)
        refine V_iconst (0) d_N_isLowWhenCut_71 rfl ?_
        exact V_zreturn d_N_isLowWhenCut_72 rfl rfl ⟨by rw [AN]; rfl, rfl, fun q x => (hv_up_n (by omega)).trans (fr9 q x), ⟨wk, lk9, cu9, u9, l09, _, (hv_up_n (by omega)).trans hb9, (hT9.fr (fun q x y => hv_up_n (by omega))), (hv_up_n (by omega)).trans hu9, hu29, (hv_up_n (by omega)).trans hl09, hv_up_s, cpOK_up hcpk9 hi hj hc1, (hW9.fr (fun q x y => hv_up_n (by omega))), (hL9.fr (fun q x y => hv_up_n (by omega))), hlk9, (hG9.fr (fun q x y => hv_up_n (by omega))), (hC9.fr (fun q x => hv_up_n (by omega))), hN9⟩⟩
      · have AN : PE c pl la mo (2 ^ i ||| 2 ^ j) = true := decide_eq_true (by omega)
        refine V_iconst (1) d_N_isLowWhenCut_67 rfl ?_
        refine V_goto 72 d_N_isLowWhenCut_68 (by decide) ?_
        exact V_zreturn d_N_isLowWhenCut_72 rfl rfl ⟨by rw [AN]; rfl, rfl, fun q x => (hv_up_n (by omega)).trans (fr9 q x), ⟨wk, lk9, cu9, u9, l09, _, (hv_up_n (by omega)).trans hb9, (hT9.fr (fun q x y => hv_up_n (by omega))), (hv_up_n (by omega)).trans hu9, hu29, (hv_up_n (by omega)).trans hl09, hv_up_s, cpOK_up hcpk9 hi hj hc1, (hW9.fr (fun q x y => hv_up_n (by omega))), (hL9.fr (fun q x y => hv_up_n (by omega))), hlk9, (hG9.fr (fun q x y => hv_up_n (by omega))), (hC9.fr (fun q x => hv_up_n (by omega))), hN9⟩⟩
  · have AN : PE c pl la mo (2 ^ i ||| 2 ^ j) = false := by
      unfold PE
      refine decide_eq_false (fun q => ?_)
      have z := alF_PK hN.1 q
      rw [bZ_eq.mp c16] at z
      cases z
    refine V_iconst (0) d_N_isLowWhenCut_19 rfl ?_
    exact V_zreturn d_N_isLowWhenCut_20 rfl rfl ⟨by rw [AN]; rfl, rfl, fun q x => rfl, ⟨wk, lk, cu, u, l0, cp, hb, hT, hu, hu2, hl0, hcp, hcpk, hW, hL, hlk, hG, hC, hN⟩⟩

set_option maxRecDepth 100000 in
set_option maxHeartbeats 4000000 in
theorem c_N_leastSingle (l : Launch) (D : hv_D) (h : hv_P) (nx : Nat) {b c n : Nat} {wk : Int32} {pl : Nat → Nat} {la : Nat → Option Nat} {re im : Nat → Int32} (hS : nS h b wk c pl la re im n) (hr : RDY c pl la = true) {S mo : Nat} (hs : S < 2 ^ 20) (hmo : mo < 2 ^ 31) : hv_N l D M_N_leastSingleCut (hv_rm 6 152 0 0) [.ref b, .int (nI S), .int (nI mo)] h nx (hv_ans (some (.int (cN1 S (PE c pl la mo)))) (fun h' n' => n' = nx ∧ nFr b h h' ∧ ∃ wk', nS h' b wk' c pl la re im n)) := by
  have lp1 : ∀ (kk i : Nat), kk = 20 - i → i ≤ 20 → ∀ (h2 : hv_P) (wk2 : Int32), nFr b h h2 → nS h2 b wk2 c pl la re im n → (∀ y, y < i → (fun i => S.testBit i && PE c pl la mo (2 ^ i)) y = false) → hv_V l D M_N_leastSingleCut (fun _ _ => True) (hv_rm 6 152 0 0) (hv_ans (some (.int (cN1 S (PE c pl la mo)))) (fun h' n' => n' = nx ∧ nFr b h h' ∧ ∃ wk', nS h' b wk' c pl la re im n)) 0 0 (h2) nx 2 [some (.ref b), some (.int (nI S)), some (.int (nI mo)), some (.int (nI i))] [] := by
    intro kk
    induction kk using Nat.strongRecOn with
    | ind kk ih =>
      intro i hkk hi h2 wk2 fr2 ns2 H1
      have ns20 := ns2
      obtain ⟨lk9, cu9, u9, l09, cp9, hb9, _⟩ := ns20
      refine V_iload_n d_N_leastSingleCut_2 rfl ?_
      refine V_bipush (nI 20) d_N_leastSingleCut_3 rfl ?_
      refine V_icmp_geN 36 d_N_leastSingleCut_5 (by decide) (by omega) (by decide) (fun ci => ?_) (fun ci => ?_)
      · have C1 : cN1 S (PE c pl la mo) = -1 := by unfold cN1; rw [show cut1 S (PE c pl la mo) = none from find_non (fun y hy => H1 y (by omega))]
        refine V_iconst (-1) d_N_leastSingleCut_36 rfl ?_
        exact V_ireturn d_N_leastSingleCut_37 rfl ⟨by rw [C1], rfl, fr2, wk2, ns2⟩
      · refine V_iload_n d_N_leastSingleCut_8 rfl ?_
        refine V_iload_n d_N_leastSingleCut_9 rfl ?_
        refine V_callS1 d_N_leastSingleCut_10 ml_N_195 mB_N_isIn ms_N_isIn (c_N_isIn l D _ _ (Nat.lt_trans hs (by decide)) (by omega)) rfl rfl rfl rfl rfl rfl rfl ?_
        rintro h8 n8 ⟨e8, e9⟩
        have e8 := e8.symm
        have e9 := e9.symm
        subst e8
        subst e9
        refine V_if_eq 30 d_N_leastSingleCut_13 (by decide) (fun cb => ?_) (fun cb => ?_)
        · have cb := bZ_eq.mp cb
          have F0 : (fun i => S.testBit i && PE c pl la mo (2 ^ i)) i = false := by show (S.testBit i && _) = false; rw [cb]; rfl
          have J := ih (20 - (i + 1)) (by omega) (i + 1) rfl (by omega) h2 wk2 fr2 ns2 (fun y hy => by
            by_cases e : y = i
            · subst e; exact F0
            · exact H1 y (by omega))
          refine V_iincN_3 1 d_N_leastSingleCut_30 rfl rfl ?_
          refine V_goto 2 d_N_leastSingleCut_33 (by decide) ?_
          exact J
        · have cb := bZ_ne.mp cb
          refine V_aload_n d_N_leastSingleCut_16 rfl ?_
          refine V_iload_n d_N_leastSingleCut_17 rfl ?_
          refine V_iload_n d_N_leastSingleCut_18 rfl ?_
          refine V_iload_n d_N_leastSingleCut_19 rfl ?_
          refine V_callV1 d_N_leastSingleCut_20 ml_N_198 mB_N_isLowWhenCut mi_N_isLowWhenCut mv_N_isLowWhenCut rfl hb9 (c_N_isLow l D _ _ ns2 hr (by omega) (by omega) hmo) rfl rfl rfl rfl rfl rfl rfl ?_
          rintro h3 n3 ⟨rfl, fr3, ⟨wk3, ns3⟩⟩
          rw [Nat.or_self]
          refine V_if_eq 30 d_N_leastSingleCut_23 (by decide) (fun cp => ?_) (fun cp => ?_)
          · have cp := bZ_eq.mp cp
            have F0 : (fun i => S.testBit i && PE c pl la mo (2 ^ i)) i = false := by show (S.testBit i && _) = false; rw [cp, Bool.and_false]
            have J := ih (20 - (i + 1)) (by omega) (i + 1) rfl (by omega) h3 wk3 (fun q x => (fr3 q x).trans (fr2 q x)) ns3 (fun y hy => by
              by_cases e : y = i
              · subst e; exact F0
              · exact H1 y (by omega))
            refine V_iincN_3 1 d_N_leastSingleCut_30 rfl rfl ?_
            refine V_goto 2 d_N_leastSingleCut_33 (by decide) ?_
            exact J
          · have cp := bZ_ne.mp cp
            have F1 : (fun i => S.testBit i && PE c pl la mo (2 ^ i)) i = true := by show (S.testBit i && _) = true; rw [cb, cp]; rfl
            have C1 : cN1 S (PE c pl la mo) = nI (2 ^ i) := by unfold cN1; rw [show cut1 S (PE c pl la mo) = some i from find_rng H1 F1 (by omega)]
            refine V_iconst (nI 1) d_N_leastSingleCut_26 rfl ?_
            refine V_iload_n d_N_leastSingleCut_27 rfl ?_
            refine V_ishlN d_N_leastSingleCut_28 (by omega) ?_
            rw [Nat.one_mul]
            exact V_ireturn d_N_leastSingleCut_29 rfl ⟨by rw [C1], rfl, (fun q x => (fr3 q x).trans (fr2 q x)), wk3, ns3⟩
  refine hv_N.of' [some (.ref b), some (.int (nI S)), some (.int (nI mo)), none] (by decide +kernel) rfl rfl rfl ?_
  refine V_iconst (nI 0) d_N_leastSingleCut_0 rfl ?_
  refine V_istore_3 d_N_leastSingleCut_1 rfl ?_
  exact lp1 _ 0 rfl (Nat.zero_le _) h wk (fun q x => rfl) hS (fun y hy => by omega)

set_option maxRecDepth 100000 in
set_option maxHeartbeats 4000000 in
theorem c_N_leastDouble (l : Launch) (D : hv_D) (h : hv_P) (nx : Nat) {b c n : Nat} {wk : Int32} {pl : Nat → Nat} {la : Nat → Option Nat} {re im : Nat → Int32} (hS : nS h b wk c pl la re im n) (hr : RDY c pl la = true) {S mo : Nat} (hs : S < 2 ^ 20) (hmo : mo < 2 ^ 31) : hv_N l D M_N_leastDoubleCut (hv_rm 6 152 0 0) [.ref b, .int (nI S), .int (nI mo)] h nx (hv_ans (some (.int (cN2 S (PE c pl la mo)))) (fun h' n' => n' = nx ∧ nFr b h h' ∧ ∃ wk', nS h' b wk' c pl la re im n)) := by
  have lp2 : ∀ (kk j : Nat), kk = 20 - j → j ≤ 20 → ∀ (h2 : hv_P) (wk2 : Int32), nFr b h h2 → nS h2 b wk2 c pl la re im n → (∀ y, y < j → (fun j => ((List.range j).find? (fun i => S.testBit i && (S.testBit j && PE c pl la mo (2 ^ i ||| 2 ^ j)))).map (fun i => 2 ^ i ||| 2 ^ j)) y = none) → hv_V l D M_N_leastDoubleCut (fun _ _ => True) (hv_rm 6 152 0 0) (hv_ans (some (.int (cN2 S (PE c pl la mo)))) (fun h' n' => n' = nx ∧ nFr b h h' ∧ ∃ wk', nS h' b wk' c pl la re im n)) 0 0 (h2) nx 2 [some (.ref b), some (.int (nI S)), some (.int (nI mo)), some (.int (nI j)), none] [] := by
    intro kk
    induction kk using Nat.strongRecOn with
    | ind kk ihj =>
      intro j hkk hi h2 wk2 fr2 ns2 H2
      refine V_iload_n d_N_leastDoubleCut_2 rfl ?_
      refine V_bipush (nI 20) d_N_leastDoubleCut_3 rfl ?_
      refine V_icmp_geN 66 d_N_leastDoubleCut_5 (by decide) (by omega) (by decide) (fun cj => ?_) (fun cj => ?_)
      · have C2 : cN2 S (PE c pl la mo) = -1 := by unfold cN2; rw [show cut2 S (PE c pl la mo) = none from fsome_non (fun y hy => H2 y (by omega))]
        refine V_iconst (-1) d_N_leastDoubleCut_66 rfl ?_
        exact V_ireturn d_N_leastDoubleCut_67 rfl ⟨by rw [C2], rfl, fr2, wk2, ns2⟩
      · refine V_iconst (nI 0) d_N_leastDoubleCut_8 rfl ?_
        refine V_istore_4 d_N_leastDoubleCut_9 rfl ?_
        have lp3 : ∀ (kk i : Nat), kk = j - i → i ≤ j → ∀ (h2 : hv_P) (wk2 : Int32), nFr b h h2 → nS h2 b wk2 c pl la re im n → (∀ y, y < i → (fun i => S.testBit i && (S.testBit j && PE c pl la mo (2 ^ i ||| 2 ^ j))) y = false) → hv_V l D M_N_leastDoubleCut (fun _ _ => True) (hv_rm 6 152 0 0) (hv_ans (some (.int (cN2 S (PE c pl la mo)))) (fun h' n' => n' = nx ∧ nFr b h h' ∧ ∃ wk', nS h' b wk' c pl la re im n)) 0 0 (h2) nx 11 [some (.ref b), some (.int (nI S)), some (.int (nI mo)), some (.int (nI j)), some (.int (nI i))] [] := by
          intro kk
          induction kk using Nat.strongRecOn with
          | ind kk ih =>
            intro i hkk hi h2 wk2 fr2 ns2 H3
            have ns20 := ns2
            obtain ⟨lk9, cu9, u9, l09, cp9, hb9, _⟩ := ns20
            refine V_iload d_N_leastDoubleCut_11 rfl ?_
            refine V_iload_n d_N_leastDoubleCut_13 rfl ?_
            refine V_icmp_geN 60 d_N_leastDoubleCut_14 (by decide) (by omega) (by omega) (fun ci => ?_) (fun ci => ?_)
            · have ei : i = j := by omega
              subst ei
              have J := ihj (20 - (i + 1)) (by omega) (i + 1) rfl (by omega) h2 wk2 fr2 ns2 (fun y hy => by
                by_cases e : y = i
                · subst e; show Option.map _ _ = none; rw [find_non H3]; rfl
                · exact H2 y (by omega))
              refine V_iincN_3 1 d_N_leastDoubleCut_60 rfl rfl ?_
              refine V_goto 2 d_N_leastDoubleCut_63 (by decide) ?_
              refine V_drop_4 ?_
              exact J
            · refine V_iload_n d_N_leastDoubleCut_17 rfl ?_
              refine V_iload_n d_N_leastDoubleCut_18 rfl ?_
              refine V_callS1 d_N_leastDoubleCut_19 ml_N_195 mB_N_isIn ms_N_isIn (c_N_isIn l D _ _ (Nat.lt_trans hs (by decide)) (by omega)) rfl rfl rfl rfl rfl rfl rfl ?_
              rintro h8 n8 ⟨e8, e9⟩
              have e8 := e8.symm
              have e9 := e9.symm
              subst e8
              subst e9
              refine V_if_eq 60 d_N_leastDoubleCut_22 (by decide) (fun cb => ?_) (fun cb => ?_)
              · have cb := bZ_eq.mp cb
                have J := ihj (20 - (j + 1)) (by omega) (j + 1) rfl (by omega) h2 wk2 fr2 ns2 (fun y hy => by
                  by_cases e : y = j
                  · subst e; show Option.map _ _ = none; rw [find_non (fun z hz => by show (S.testBit z && (S.testBit _ && _)) = false; rw [cb]; simp)]; rfl
                  · exact H2 y (by omega))
                refine V_iincN_3 1 d_N_leastDoubleCut_60 rfl rfl ?_
                refine V_goto 2 d_N_leastDoubleCut_63 (by decide) ?_
                refine V_drop_4 ?_
                exact J
              · have b2 := bZ_ne.mp cb
                refine V_iload d_N_leastDoubleCut_25 rfl ?_
                refine V_iload_n d_N_leastDoubleCut_27 rfl ?_
                refine V_callS1 d_N_leastDoubleCut_28 ml_N_195 mB_N_isIn ms_N_isIn (c_N_isIn l D _ _ (Nat.lt_trans hs (by decide)) (by omega)) rfl rfl rfl rfl rfl rfl rfl ?_
                rintro h8 n8 ⟨e8, e9⟩
                have e8 := e8.symm
                have e9 := e9.symm
                subst e8
                subst e9
                refine V_if_eq 54 d_N_leastDoubleCut_31 (by decide) (fun cc => ?_) (fun cc => ?_)
                · have cc := bZ_eq.mp cc
                  have F0 : (fun i => S.testBit i && (S.testBit j && PE c pl la mo (2 ^ i ||| 2 ^ j))) i = false := by show (S.testBit i && _) = false; rw [cc]; rfl
                  have J := ih (j - (i + 1)) (by omega) (i + 1) rfl (by omega) h2 wk2 fr2 ns2 (fun y hy => by
                    by_cases e : y = i
                    · subst e; exact F0
                    · exact H3 y (by omega))
                  refine V_iincN_4 1 d_N_leastDoubleCut_54 rfl rfl ?_
                  refine V_goto 11 d_N_leastDoubleCut_57 (by decide) ?_
                  exact J
                · have b1 := bZ_ne.mp cc
                  refine V_aload_n d_N_leastDoubleCut_34 rfl ?_
                  refine V_iload_n d_N_leastDoubleCut_35 rfl ?_
                  refine V_iload d_N_leastDoubleCut_36 rfl ?_
                  refine V_iload_n d_N_leastDoubleCut_38 rfl ?_
                  refine V_callV1 d_N_leastDoubleCut_39 ml_N_198 mB_N_isLowWhenCut mi_N_isLowWhenCut mv_N_isLowWhenCut rfl hb9 (c_N_isLow l D _ _ ns2 hr (by omega) (by omega) hmo) rfl rfl rfl rfl rfl rfl rfl ?_
                  rintro h3 n3 ⟨rfl, fr3, ⟨wk3, ns3⟩⟩
                  rw [Nat.or_comm]
                  refine V_if_eq 54 d_N_leastDoubleCut_42 (by decide) (fun cp => ?_) (fun cp => ?_)
                  · have cp := bZ_eq.mp cp
                    have F0 : (fun i => S.testBit i && (S.testBit j && PE c pl la mo (2 ^ i ||| 2 ^ j))) i = false := by show (S.testBit i && (S.testBit j && _)) = false; rw [cp, Bool.and_false, Bool.and_false]
                    have J := ih (j - (i + 1)) (by omega) (i + 1) rfl (by omega) h3 wk3 (fun q x => (fr3 q x).trans (fr2 q x)) ns3 (fun y hy => by
                      by_cases e : y = i
                      · subst e; exact F0
                      · exact H3 y (by omega))
                    refine V_iincN_4 1 d_N_leastDoubleCut_54 rfl rfl ?_
                    refine V_goto 11 d_N_leastDoubleCut_57 (by decide) ?_
                    exact J
                  · have cp := bZ_ne.mp cp
                    have F1 : (fun i => S.testBit i && (S.testBit j && PE c pl la mo (2 ^ i ||| 2 ^ j))) i = true := by show (S.testBit i && (S.testBit j && _)) = true; rw [b1, b2, cp]; rfl
                    have C2 : cN2 S (PE c pl la mo) = nI (2 ^ j ||| 2 ^ i) := by
                      unfold cN2
                      rw [show cut2 S (PE c pl la mo) = some (2 ^ i ||| 2 ^ j) from fsome_rng H2 (by show Option.map _ _ = _; rw [find_rng H3 F1 (by omega)]; rfl) (by omega), Nat.or_comm]
                    refine V_iconst (nI 1) d_N_leastDoubleCut_45 rfl ?_
                    refine V_iload_n d_N_leastDoubleCut_46 rfl ?_
                    refine V_ishlN d_N_leastDoubleCut_47 (by omega) ?_
                    refine V_iconst (nI 1) d_N_leastDoubleCut_48 rfl ?_
                    refine V_iload d_N_leastDoubleCut_49 rfl ?_
                    refine V_ishlN d_N_leastDoubleCut_51 (by omega) ?_
                    refine V_iorN d_N_leastDoubleCut_52 ?_
                    rw [Nat.one_mul, Nat.one_mul]
                    exact V_ireturn d_N_leastDoubleCut_53 rfl ⟨by rw [C2], rfl, (fun q x => (fr3 q x).trans (fr2 q x)), wk3, ns3⟩
        exact lp3 _ 0 rfl (Nat.zero_le _) h2 wk2 fr2 ns2 (fun y hy => by omega)
  refine hv_N.of' [some (.ref b), some (.int (nI S)), some (.int (nI mo)), none, none] (by decide +kernel) rfl rfl rfl ?_
  refine V_iconst (nI 1) d_N_leastDoubleCut_0 rfl ?_
  refine V_istore_3 d_N_leastDoubleCut_1 rfl ?_
  refine lp2 _ 1 rfl (by decide) h wk (fun q x => rfl) hS (fun y hy => ?_)
  obtain rfl : y = 0 := by omega
  rfl

set_option maxRecDepth 100000 in
set_option maxHeartbeats 4000000 in
theorem c_N_cut (l : Launch) (D : hv_D) (h : hv_P) (nx : Nat) {b c n : Nat} {wk : Int32} {pl : Nat → Nat} {la : Nat → Option Nat} {re im : Nat → Int32} (hS : nS h b wk c pl la re im n) (x : Int32) : hv_N l D M_N_cut (hv_rm 7 178 0 0) [.ref b, .int x] h nx (hv_ans (some (.int (A_cut c pl la x))) (fun h' n' => n' = nx ∧ nFr b h h' ∧ ∃ wk', nS h' b wk' c pl la re im n)) := by
  refine hv_N.of' [some (.ref b), some (.int x), none, none] (by decide +kernel) rfl rfl rfl ?_
  have hS0 := hS
  obtain ⟨lk, cu, u, l0, cp, hb, hT, hu, hu2, hl0, hcp, hcpk, hW, hL, hlk, hG, hC, hN⟩ := hS
  refine V_aload_n d_N_cut_0 rfl ?_
  refine V_callV1 d_N_cut_1 ml_N_103 mB_N_isReady mi_N_isReady mv_N_isReady rfl hb (c_N_isReady l D _ _ hb) rfl rfl rfl rfl rfl rfl rfl ?_
  rintro _ _ ⟨rfl, rfl⟩
  rw [rdy_cls hN]
  refine V_if_eq 11 d_N_cut_4 (by decide) (fun c4 => ?_) (fun c4 => ?_)
  · have hr := bZ_eq.mp c4
    have AN : A_cut c pl la x = -1 := by unfold A_cut; rw [if_neg (by rw [hr]; intro q; exact absurd q.1 (by decide))]
    refine V_iconst (-1) d_N_cut_11 rfl ?_
    exact V_ireturn d_N_cut_12 rfl ⟨by rw [AN], rfl, fun q x => rfl, ⟨wk, lk, cu, u, l0, cp, hb, hT, hu, hu2, hl0, hcp, hcpk, hW, hL, hlk, hG, hC, hN⟩⟩
  · have hr := bZ_ne.mp c4
    refine V_iload_n d_N_cut_7 rfl ?_
    refine V_if_ge 13 d_N_cut_8 (by decide) (fun c8 => ?_) (fun c8 => ?_)
    · obtain ⟨ex, hmo⟩ := i32_nn (Int32.not_lt.mpr c8)
      generalize x.toNatClampNeg = mo at ex hmo
      subst ex
      have hc1 := RDY_c hr
      have slt : (nbF (LE pl la) c &&& SHR c pl la) < 2 ^ 20 := Nat.lt_of_le_of_lt Nat.and_le_right (SHR_lt hN)
      have AN : A_cut c pl la (nI mo) = cutF (SHR c pl la) (PE c pl la mo) := by unfold A_cut; rw [if_pos ⟨hr, by rw [nI_lt0 hmo]; exact not_false⟩, nI_clamp hmo]
      have pk20 : PK (LC pl la 0) c ≤ 20 := PK_le hc1 hN.1 (LC_lt hN _)
      have CE := fun h0 => cut_eq (S := SHR c pl la) (S' := (nbF (LE pl la) c &&& SHR c pl la)) (P := PE c pl la mo) (fun i q => by rw [Nat.testBit_and, Bool.and_eq_true] at q; exact q.2) (fun i hi q0 q x => by
        rw [Nat.testBit_and, q0, Bool.and_true] at q
        exact PE_no hN hc1 (fun t ht => nbF_bit c q t ht) x) h0
      refine V_aload_n d_N_cut_13 rfl ?_
      refine V_callV1 d_N_cut_14 ml_N_128 mB_N_orderOfAll mi_N_orderOfAll mv_N_orderOfAll rfl hb (c_N_orderOfAll l D _ _ hS0 (fun _ => hr)) rfl rfl rfl rfl rfl rfl rfl ?_
      rintro h9 n9 ⟨rfl, fr9, ⟨wk9, kw9, ns9⟩, ⟨ac9, ml9, lg9, co9, fi9, md9, wt9, y0, y1, y2, y3, y4, y5, y6, y7, y8⟩⟩
      have y8 := (y8 trivial).2.2.2.2.2
      subst y8
      have ns90 := ns9
      obtain ⟨lk9, cu9, u9, l09, cp9, hb9, hT9, hu9, hu29, hl09, hcp9, hcpk9, hW9, hL9, hlk9, hG9, hC9, hN9⟩ := ns90
      refine V_getfield d_N_cut_17 fl_N_135 y0 rfl ?_
      refine V_iload_n d_N_cut_20 rfl ?_
      refine V_icmp_gtN 26 d_N_cut_21 (by decide) (by omega) hmo (fun c21 => ?_) (fun c21 => ?_)
      · have P0 : PE c pl la mo 0 = false := decide_eq_false (by omega)
        obtain ⟨E1, E2⟩ := CE P0
        refine V_aload_n d_N_cut_26 rfl ?_
        refine V_callV1 d_N_cut_27 ml_N_157 mB_N_namesBetweenTensors mi_N_namesBetweenTensors mv_N_namesBetweenTensors rfl hb9 (c_N_namesBetween l D _ _ hb9 hu9 (fun i hi => by rw [hu29 i hi]; have := hN.2.2.2.1 i; omega) hT9.1 hT9.2.1 hN.1) rfl rfl rfl rfl rfl rfl rfl ?_
        rintro _ _ ⟨rfl, rfl⟩
        rw [SHR_nu hN hu29]
        refine V_istore_2 d_N_cut_30 rfl ?_
        refine V_aload_n d_N_cut_31 rfl ?_
        refine V_iload_n d_N_cut_32 rfl ?_
        refine V_iload_n d_N_cut_33 rfl ?_
        refine V_callV1 d_N_cut_34 ml_N_161 mB_N_leastSingleCut mi_N_leastSingleCut mv_N_leastSingleCut rfl hb9 (c_N_leastSingle l D _ _ ns9 hr slt hmo) rfl rfl rfl rfl rfl rfl rfl ?_
        rintro h3 n3 ⟨rfl, fr3, ⟨wk3, ns3⟩⟩
        have ns30 := ns3
        obtain ⟨lk3, cu3, u3, l03, cp3, hb3, _⟩ := ns30
        refine V_istore_3 d_N_cut_37 rfl ?_
        rcases e1 : cut1 (SHR c pl la) (PE c pl la mo) with _ | i
        · rw [e1] at E1 E2
          have A2 : A_cut c pl la (nI mo) = cN2 (SHR c pl la) (PE c pl la mo) := by rw [AN]; unfold cutF cN2; rw [if_neg (by rw [P0]; decide), e1]; rfl
          have C1 : cN1 (nbF (LE pl la) c &&& SHR c pl la) (PE c pl la mo) = -1 := by unfold cN1; rw [← E1]
          rw [C1]
          have E2 := E2 rfl
          refine V_iload_n d_N_cut_38 rfl ?_
          refine V_iconst (-1) d_N_cut_39 rfl ?_
          refine V_icmp_eq 47 d_N_cut_40 (by decide) (fun _ => ?_) (fun q => absurd rfl q)
          refine V_aload_n d_N_cut_47 rfl ?_
          refine V_iload_n d_N_cut_48 rfl ?_
          refine V_iload_n d_N_cut_49 rfl ?_
          refine V_callV1 d_N_cut_50 ml_N_165 mB_N_leastDoubleCut mi_N_leastDoubleCut mv_N_leastDoubleCut rfl hb3 (c_N_leastDouble l D _ _ ns3 hr slt hmo) rfl rfl rfl rfl rfl rfl rfl ?_
          rintro h4 n4 ⟨rfl, fr4, ⟨wk4, ns4⟩⟩
          exact V_ireturn d_N_cut_53 rfl ⟨by rw [A2]; unfold cN2; rw [E2], rfl, (fun q x => ((fr4 q x).trans (fr3 q x)).trans (fr9 q x)), wk4, ns4⟩
        · rw [e1] at E1
          have A2 : A_cut c pl la (nI mo) = nI (2 ^ i) := by rw [AN]; unfold cutF; rw [if_neg (by rw [P0]; decide), e1]
          have C1 : cN1 (nbF (LE pl la) c &&& SHR c pl la) (PE c pl la mo) = nI (2 ^ i) := by unfold cN1; rw [← E1]
          have i20 : i < 20 := List.mem_range.mp (List.mem_of_find?_eq_some e1)
          rw [C1]
          refine V_iload_n d_N_cut_38 rfl ?_
          refine V_iconst (-1) d_N_cut_39 rfl ?_
          refine V_icmp_eq 47 d_N_cut_40 (by decide) (fun q => absurd q (nI_m1 (Nat.lt_trans (Nat.pow_lt_pow_right (by decide) i20) (by decide)))) (fun _ => ?_)
          refine V_iload_n d_N_cut_43 rfl ?_
          refine V_goto 53 d_N_cut_44 (by decide) ?_
          exact V_ireturn d_N_cut_53 rfl ⟨by rw [A2], rfl, (fun q x => (fr3 q x).trans (fr9 q x)), wk3, ns3⟩
      · have P0 : PE c pl la mo 0 = true := decide_eq_true (by omega)
        refine V_iconst (0) d_N_cut_24 rfl ?_
        exact V_ireturn d_N_cut_25 rfl ⟨by rw [AN]; unfold cutF; rw [if_pos P0], rfl, fr9, wk9, ns9⟩
    · have AN : A_cut c pl la x = -1 := by unfold A_cut; rw [if_neg (fun q => c8 (Int32.not_lt.mp q.2))]
      refine V_iconst (-1) d_N_cut_11 rfl ?_
      exact V_ireturn d_N_cut_12 rfl ⟨by rw [AN], rfl, fun q x => rfl, ⟨wk, lk, cu, u, l0, cp, hb, hT, hu, hu2, hl0, hcp, hcpk, hW, hL, hlk, hG, hC, hN⟩⟩

set_option maxRecDepth 100000 in
set_option maxHeartbeats 4000000 in
theorem c_N_greedy (l : Launch) (D : hv_D) (h : hv_P) (nx : Nat) {b c n : Nat} {wk : Int32} {pl : Nat → Nat} {la : Nat → Option Nat} {re im : Nat → Int32} (hS : nS h b wk c pl la re im n) (x : Int32) : hv_N l D M_N_greedy (hv_rm 3 80 0 0) [.ref b, .int x] h nx (hv_ans (some (.int (A_greedy c pl la x))) (fun h' n' => n' = nx ∧ nFr b h h' ∧ ∃ wk', nS h' b wk' c pl la re im n)) := by
  refine hv_N.of' [some (.ref b), some (.int x), none] (by decide +kernel) rfl rfl rfl ?_
  obtain ⟨lk, cu, u, l0, cp, hb, hT, hu, hu2, hl0, hcp, hcpk, hW, hL, hlk, hG, hC, hN⟩ := hS
  refine V_aload_n d_N_greedy_0 rfl ?_
  refine V_callV1 d_N_greedy_1 ml_N_103 mB_N_isReady mi_N_isReady mv_N_isReady rfl hb (c_N_isReady l D _ _ hb) rfl rfl rfl rfl rfl rfl rfl ?_
  rintro _ _ ⟨rfl, rfl⟩
  rw [rdy_cls hN]
  refine V_if_ne 9 d_N_greedy_4 (by decide) (fun c4 => ?_) (fun c4 => ?_)
  · have hr := bZ_ne.mp c4
    have hc1 := RDY_c hr
    have hc := hN.1
    obtain ⟨gn0, gac0, gL0, gZ0, gle0, got0, g0, g1, g2, g3, g4⟩ := hG
    refine V_aload_n d_N_greedy_9 rfl ?_
    refine V_iconst (nI 0) d_N_greedy_10 rfl ?_
    refine V_callV0 d_N_greedy_11 ml_N_144 mB_N_takeLegs mi_N_takeLegs mv_N_takeLegs rfl hb (c_N_takeLegs l D _ _ (lg := LE pl la) hb hT.1 hT.2.1 hl0 hN.1) rfl rfl rfl rfl rfl rfl rfl ?_
    rintro _ _ ⟨rfl, rfl⟩
    refine V_aload_n d_N_greedy_14 rfl ?_
    refine V_getfield d_N_greedy_15 fl_N_39 (oa_1 hb (by omega)) rfl ?_
    refine V_aload_n d_N_greedy_18 rfl ?_
    refine V_getfield d_N_greedy_19 fl_N_20 (oa_1 hb (by omega)) rfl ?_
    refine V_aload_n d_N_greedy_22 rfl ?_
    refine V_getfield d_N_greedy_23 fl_N_53 (oa_1 hb (by omega)) rfl ?_
    refine V_callV0 d_N_greedy_26 ml_N_147 mB_G_joinAll mi_G_joinAll mv_G_joinAll rfl (oa_1 g0 (by omega)) (c_G_joinAll l D _ _ (oa_1 g0 (by omega)) (oa_1 g1 (by omega)) (oa_1 g2 (by omega)) (oa_1 g3 (by omega)) (oa_1 g4 (by omega)) og_0 (by omega) hc1 hc (fun i hi => by simp only [hv_cp, if_pos hi]; exact anN_lt (LE_lt hN hi))) rfl rfl rfl rfl rfl rfl rfl ?_
    rintro _ _ ⟨rfl, rfl⟩
    have hl1 : ∀ i, i < c → (hv_cp (fun j => anN (LE pl la j) 0) l0 c) i < 2 ^ 20 := fun i hi => by simp only [hv_cp, if_pos hi]; exact anN_lt (LE_lt hN hi)
    have GO := gok_0 (L0 := gL0) (Z0 := gZ0) (les := gle0) (oth := got0) hl1
    have GE := gsim_r GO (s' := GS (LC pl la 0) c) ⟨fun i hi => by
      have hi : i < c := hi
      unfold GS
      simp only [hv_cp, if_pos hi]
      rfl, rfl, fun j hj => absurd hj (Nat.not_lt_zero _), rfl⟩ (c - 1) (by omega)
    obtain ⟨-, -, GE3, GE4⟩ := GE
    refine V_iload_n d_N_greedy_29 rfl ?_
    refine V_iconst (-1) d_N_greedy_30 rfl ?_
    refine V_icmp_ne 42 d_N_greedy_31 (by decide) (fun c31 => ?_) (fun c31 => ?_)
    · refine V_aload_n d_N_greedy_42 rfl ?_
      refine V_getfield d_N_greedy_43 fl_N_53 (oa_6 (oa_1 hb (by omega)) (by omega) (by omega) (by omega) (by omega) (by omega) (by omega)) rfl ?_
      refine V_iconst (nI 1) d_N_greedy_46 rfl ?_
      refine V_isubN d_N_greedy_47 (by omega) ?_
      refine V_istore_2 d_N_greedy_48 rfl ?_
      refine V_iload_n d_N_greedy_49 rfl ?_
      refine V_if_lt 68 d_N_greedy_50 (by decide) (fun c50 => ?_) (fun c50 => ?_)
      · have NX : ¬ (¬ x < 0 ∧ ¬ nI (c - 1) ≤ x) := fun q => q.1 c50
        refine V_iload_n d_N_greedy_68 rfl ?_
        refine V_bipush (nI 100) d_N_greedy_69 rfl ?_
        refine V_icmp_lt 95 d_N_greedy_71 (by decide) (fun c71 => ?_) (fun c71 => ?_)
        · have NY : ¬ (¬ x < nI 100 ∧ ¬ nI (100 + (c - 1)) ≤ x) := fun q => q.1 c71
          refine V_iconst (-1) d_N_greedy_95 rfl ?_
          exact V_ireturn d_N_greedy_96 rfl ⟨by unfold A_greedy; rw [if_pos hr, if_neg c31, if_neg NX, if_neg NY], rfl, fun q x => (oz_6 (by omega) (by omega) (by omega) (by omega) (by omega) (by omega)).trans (oz_1 (by omega)), ⟨wk, lk, cu, u, _, cp, (oa_6 (oa_1 hb (by omega)) (by omega) (by omega) (by omega) (by omega) (by omega) (by omega)), (hT.fr (fun q x y => (oz_6 (by omega) (by omega) (by omega) (by omega) (by omega) (by omega)).trans (oz_1 (by omega)))), (oa_6 (oa_1 hu (by omega)) (by omega) (by omega) (by omega) (by omega) (by omega) (by omega)), hu2, (og_5 (by omega) (by omega) (by omega) (by omega) (by omega)), (oa_6 (oa_1 hcp (by omega)) (by omega) (by omega) (by omega) (by omega) (by omega) (by omega)), hcpk, (hW.fr (fun q x y => (oz_6 (by omega) (by omega) (by omega) (by omega) (by omega) (by omega)).trans (oz_1 (by omega)))), (hL.fr (fun q x y => (oz_6 (by omega) (by omega) (by omega) (by omega) (by omega) (by omega)).trans (oz_1 (by omega)))), hlk, ⟨_, _, _, _, _, _, og_0, (og_1 (by omega)), (og_2 (by omega) (by omega)), (og_3 (by omega) (by omega) (by omega)), (og_4 (by omega) (by omega) (by omega) (by omega))⟩, (hC.fr (fun q x => (oz_6 (by omega) (by omega) (by omega) (by omega) (by omega) (by omega)).trans (oz_1 (by omega)))), hN⟩⟩
        · refine V_iload_n d_N_greedy_74 rfl ?_
          refine V_bipush (nI 100) d_N_greedy_75 rfl ?_
          refine V_iload_n d_N_greedy_77 rfl ?_
          refine V_iaddN d_N_greedy_78 ?_
          refine V_icmp_ge 95 d_N_greedy_79 (by decide) (fun c79 => ?_) (fun c79 => ?_)
          · have NY : ¬ (¬ x < nI 100 ∧ ¬ nI (100 + (c - 1)) ≤ x) := fun q => q.2 c79
            refine V_iconst (-1) d_N_greedy_95 rfl ?_
            exact V_ireturn d_N_greedy_96 rfl ⟨by unfold A_greedy; rw [if_pos hr, if_neg c31, if_neg NX, if_neg NY], rfl, fun q x => (oz_6 (by omega) (by omega) (by omega) (by omega) (by omega) (by omega)).trans (oz_1 (by omega)), ⟨wk, lk, cu, u, _, cp, (oa_6 (oa_1 hb (by omega)) (by omega) (by omega) (by omega) (by omega) (by omega) (by omega)), (hT.fr (fun q x y => (oz_6 (by omega) (by omega) (by omega) (by omega) (by omega) (by omega)).trans (oz_1 (by omega)))), (oa_6 (oa_1 hu (by omega)) (by omega) (by omega) (by omega) (by omega) (by omega) (by omega)), hu2, (og_5 (by omega) (by omega) (by omega) (by omega) (by omega)), (oa_6 (oa_1 hcp (by omega)) (by omega) (by omega) (by omega) (by omega) (by omega) (by omega)), hcpk, (hW.fr (fun q x y => (oz_6 (by omega) (by omega) (by omega) (by omega) (by omega) (by omega)).trans (oz_1 (by omega)))), (hL.fr (fun q x y => (oz_6 (by omega) (by omega) (by omega) (by omega) (by omega) (by omega)).trans (oz_1 (by omega)))), hlk, ⟨_, _, _, _, _, _, og_0, (og_1 (by omega)), (og_2 (by omega) (by omega)), (og_3 (by omega) (by omega) (by omega)), (og_4 (by omega) (by omega) (by omega) (by omega))⟩, (hC.fr (fun q x => (oz_6 (by omega) (by omega) (by omega) (by omega) (by omega) (by omega)).trans (oz_1 (by omega)))), hN⟩⟩
          · obtain ⟨j1, j2⟩ := grow_100 c71 c79 (by omega)
            refine V_aload_n d_N_greedy_82 rfl ?_
            refine V_getfield d_N_greedy_83 fl_N_39 (oa_6 (oa_1 hb (by omega)) (by omega) (by omega) (by omega) (by omega) (by omega) (by omega)) rfl ?_
            refine V_getfield d_N_greedy_86 fl_N_154 og_0 rfl ?_
            refine V_iload_n d_N_greedy_89 rfl ?_
            refine V_bipush (nI 100) d_N_greedy_90 rfl ?_
            refine V_isub d_N_greedy_92 ?_
            refine V_iaload d_N_greedy_93 (og_4 (by omega) (by omega) (by omega) (by omega)) ⟨j2, by omega, by decide⟩ ?_
            exact V_ireturn d_N_greedy_94 rfl ⟨by unfold A_greedy; rw [if_pos hr, if_neg c31, if_neg NX, if_pos ⟨c71, c79⟩, ← (GE3 _ j1).2], rfl, fun q x => (oz_6 (by omega) (by omega) (by omega) (by omega) (by omega) (by omega)).trans (oz_1 (by omega)), ⟨wk, lk, cu, u, _, cp, (oa_6 (oa_1 hb (by omega)) (by omega) (by omega) (by omega) (by omega) (by omega) (by omega)), (hT.fr (fun q x y => (oz_6 (by omega) (by omega) (by omega) (by omega) (by omega) (by omega)).trans (oz_1 (by omega)))), (oa_6 (oa_1 hu (by omega)) (by omega) (by omega) (by omega) (by omega) (by omega) (by omega)), hu2, (og_5 (by omega) (by omega) (by omega) (by omega) (by omega)), (oa_6 (oa_1 hcp (by omega)) (by omega) (by omega) (by omega) (by omega) (by omega) (by omega)), hcpk, (hW.fr (fun q x y => (oz_6 (by omega) (by omega) (by omega) (by omega) (by omega) (by omega)).trans (oz_1 (by omega)))), (hL.fr (fun q x y => (oz_6 (by omega) (by omega) (by omega) (by omega) (by omega) (by omega)).trans (oz_1 (by omega)))), hlk, ⟨_, _, _, _, _, _, og_0, (og_1 (by omega)), (og_2 (by omega) (by omega)), (og_3 (by omega) (by omega) (by omega)), (og_4 (by omega) (by omega) (by omega) (by omega))⟩, (hC.fr (fun q x => (oz_6 (by omega) (by omega) (by omega) (by omega) (by omega) (by omega)).trans (oz_1 (by omega)))), hN⟩⟩
      · refine V_iload_n d_N_greedy_53 rfl ?_
        refine V_iload_n d_N_greedy_54 rfl ?_
        refine V_icmp_ge 68 d_N_greedy_55 (by decide) (fun c55 => ?_) (fun c55 => ?_)
        · have NX : ¬ (¬ x < 0 ∧ ¬ nI (c - 1) ≤ x) := fun q => q.2 c55
          refine V_iload_n d_N_greedy_68 rfl ?_
          refine V_bipush (nI 100) d_N_greedy_69 rfl ?_
          refine V_icmp_lt 95 d_N_greedy_71 (by decide) (fun c71 => ?_) (fun c71 => ?_)
          · have NY : ¬ (¬ x < nI 100 ∧ ¬ nI (100 + (c - 1)) ≤ x) := fun q => q.1 c71
            refine V_iconst (-1) d_N_greedy_95 rfl ?_
            exact V_ireturn d_N_greedy_96 rfl ⟨by unfold A_greedy; rw [if_pos hr, if_neg c31, if_neg NX, if_neg NY], rfl, fun q x => (oz_6 (by omega) (by omega) (by omega) (by omega) (by omega) (by omega)).trans (oz_1 (by omega)), ⟨wk, lk, cu, u, _, cp, (oa_6 (oa_1 hb (by omega)) (by omega) (by omega) (by omega) (by omega) (by omega) (by omega)), (hT.fr (fun q x y => (oz_6 (by omega) (by omega) (by omega) (by omega) (by omega) (by omega)).trans (oz_1 (by omega)))), (oa_6 (oa_1 hu (by omega)) (by omega) (by omega) (by omega) (by omega) (by omega) (by omega)), hu2, (og_5 (by omega) (by omega) (by omega) (by omega) (by omega)), (oa_6 (oa_1 hcp (by omega)) (by omega) (by omega) (by omega) (by omega) (by omega) (by omega)), hcpk, (hW.fr (fun q x y => (oz_6 (by omega) (by omega) (by omega) (by omega) (by omega) (by omega)).trans (oz_1 (by omega)))), (hL.fr (fun q x y => (oz_6 (by omega) (by omega) (by omega) (by omega) (by omega) (by omega)).trans (oz_1 (by omega)))), hlk, ⟨_, _, _, _, _, _, og_0, (og_1 (by omega)), (og_2 (by omega) (by omega)), (og_3 (by omega) (by omega) (by omega)), (og_4 (by omega) (by omega) (by omega) (by omega))⟩, (hC.fr (fun q x => (oz_6 (by omega) (by omega) (by omega) (by omega) (by omega) (by omega)).trans (oz_1 (by omega)))), hN⟩⟩
          · refine V_iload_n d_N_greedy_74 rfl ?_
            refine V_bipush (nI 100) d_N_greedy_75 rfl ?_
            refine V_iload_n d_N_greedy_77 rfl ?_
            refine V_iaddN d_N_greedy_78 ?_
            refine V_icmp_ge 95 d_N_greedy_79 (by decide) (fun c79 => ?_) (fun c79 => ?_)
            · have NY : ¬ (¬ x < nI 100 ∧ ¬ nI (100 + (c - 1)) ≤ x) := fun q => q.2 c79
              refine V_iconst (-1) d_N_greedy_95 rfl ?_
              exact V_ireturn d_N_greedy_96 rfl ⟨by unfold A_greedy; rw [if_pos hr, if_neg c31, if_neg NX, if_neg NY], rfl, fun q x => (oz_6 (by omega) (by omega) (by omega) (by omega) (by omega) (by omega)).trans (oz_1 (by omega)), ⟨wk, lk, cu, u, _, cp, (oa_6 (oa_1 hb (by omega)) (by omega) (by omega) (by omega) (by omega) (by omega) (by omega)), (hT.fr (fun q x y => (oz_6 (by omega) (by omega) (by omega) (by omega) (by omega) (by omega)).trans (oz_1 (by omega)))), (oa_6 (oa_1 hu (by omega)) (by omega) (by omega) (by omega) (by omega) (by omega) (by omega)), hu2, (og_5 (by omega) (by omega) (by omega) (by omega) (by omega)), (oa_6 (oa_1 hcp (by omega)) (by omega) (by omega) (by omega) (by omega) (by omega) (by omega)), hcpk, (hW.fr (fun q x y => (oz_6 (by omega) (by omega) (by omega) (by omega) (by omega) (by omega)).trans (oz_1 (by omega)))), (hL.fr (fun q x y => (oz_6 (by omega) (by omega) (by omega) (by omega) (by omega) (by omega)).trans (oz_1 (by omega)))), hlk, ⟨_, _, _, _, _, _, og_0, (og_1 (by omega)), (og_2 (by omega) (by omega)), (og_3 (by omega) (by omega) (by omega)), (og_4 (by omega) (by omega) (by omega) (by omega))⟩, (hC.fr (fun q x => (oz_6 (by omega) (by omega) (by omega) (by omega) (by omega) (by omega)).trans (oz_1 (by omega)))), hN⟩⟩
            · obtain ⟨j1, j2⟩ := grow_100 c71 c79 (by omega)
              refine V_aload_n d_N_greedy_82 rfl ?_
              refine V_getfield d_N_greedy_83 fl_N_39 (oa_6 (oa_1 hb (by omega)) (by omega) (by omega) (by omega) (by omega) (by omega) (by omega)) rfl ?_
              refine V_getfield d_N_greedy_86 fl_N_154 og_0 rfl ?_
              refine V_iload_n d_N_greedy_89 rfl ?_
              refine V_bipush (nI 100) d_N_greedy_90 rfl ?_
              refine V_isub d_N_greedy_92 ?_
              refine V_iaload d_N_greedy_93 (og_4 (by omega) (by omega) (by omega) (by omega)) ⟨j2, by omega, by decide⟩ ?_
              exact V_ireturn d_N_greedy_94 rfl ⟨by unfold A_greedy; rw [if_pos hr, if_neg c31, if_neg NX, if_pos ⟨c71, c79⟩, ← (GE3 _ j1).2], rfl, fun q x => (oz_6 (by omega) (by omega) (by omega) (by omega) (by omega) (by omega)).trans (oz_1 (by omega)), ⟨wk, lk, cu, u, _, cp, (oa_6 (oa_1 hb (by omega)) (by omega) (by omega) (by omega) (by omega) (by omega) (by omega)), (hT.fr (fun q x y => (oz_6 (by omega) (by omega) (by omega) (by omega) (by omega) (by omega)).trans (oz_1 (by omega)))), (oa_6 (oa_1 hu (by omega)) (by omega) (by omega) (by omega) (by omega) (by omega) (by omega)), hu2, (og_5 (by omega) (by omega) (by omega) (by omega) (by omega)), (oa_6 (oa_1 hcp (by omega)) (by omega) (by omega) (by omega) (by omega) (by omega) (by omega)), hcpk, (hW.fr (fun q x y => (oz_6 (by omega) (by omega) (by omega) (by omega) (by omega) (by omega)).trans (oz_1 (by omega)))), (hL.fr (fun q x y => (oz_6 (by omega) (by omega) (by omega) (by omega) (by omega) (by omega)).trans (oz_1 (by omega)))), hlk, ⟨_, _, _, _, _, _, og_0, (og_1 (by omega)), (og_2 (by omega) (by omega)), (og_3 (by omega) (by omega) (by omega)), (og_4 (by omega) (by omega) (by omega) (by omega))⟩, (hC.fr (fun q x => (oz_6 (by omega) (by omega) (by omega) (by omega) (by omega) (by omega)).trans (oz_1 (by omega)))), hN⟩⟩
        · obtain ⟨j1, j2⟩ := i32_nat c50 (Int32.not_le.mp c55) (by omega)
          refine V_aload_n d_N_greedy_58 rfl ?_
          refine V_getfield d_N_greedy_59 fl_N_39 (oa_6 (oa_1 hb (by omega)) (by omega) (by omega) (by omega) (by omega) (by omega) (by omega)) rfl ?_
          refine V_getfield d_N_greedy_62 fl_N_151 og_0 rfl ?_
          refine V_iload_n (x := nI x.toNatClampNeg) d_N_greedy_65 (by rw [← j2]; rfl) ?_
          refine V_iaload d_N_greedy_66 (og_3 (by omega) (by omega) (by omega)) ⟨rfl, by omega, by decide⟩ ?_
          exact V_ireturn d_N_greedy_67 rfl ⟨by unfold A_greedy; rw [if_pos hr, if_neg c31, if_pos ⟨c50, c55⟩, ← (GE3 _ j1).1], rfl, fun q x => (oz_6 (by omega) (by omega) (by omega) (by omega) (by omega) (by omega)).trans (oz_1 (by omega)), ⟨wk, lk, cu, u, _, cp, (oa_6 (oa_1 hb (by omega)) (by omega) (by omega) (by omega) (by omega) (by omega) (by omega)), (hT.fr (fun q x y => (oz_6 (by omega) (by omega) (by omega) (by omega) (by omega) (by omega)).trans (oz_1 (by omega)))), (oa_6 (oa_1 hu (by omega)) (by omega) (by omega) (by omega) (by omega) (by omega) (by omega)), hu2, (og_5 (by omega) (by omega) (by omega) (by omega) (by omega)), (oa_6 (oa_1 hcp (by omega)) (by omega) (by omega) (by omega) (by omega) (by omega) (by omega)), hcpk, (hW.fr (fun q x y => (oz_6 (by omega) (by omega) (by omega) (by omega) (by omega) (by omega)).trans (oz_1 (by omega)))), (hL.fr (fun q x y => (oz_6 (by omega) (by omega) (by omega) (by omega) (by omega) (by omega)).trans (oz_1 (by omega)))), hlk, ⟨_, _, _, _, _, _, og_0, (og_1 (by omega)), (og_2 (by omega) (by omega)), (og_3 (by omega) (by omega) (by omega)), (og_4 (by omega) (by omega) (by omega) (by omega))⟩, (hC.fr (fun q x => (oz_6 (by omega) (by omega) (by omega) (by omega) (by omega) (by omega)).trans (oz_1 (by omega)))), hN⟩⟩
    · refine V_aload_n d_N_greedy_34 rfl ?_
      refine V_getfield d_N_greedy_35 fl_N_39 (oa_6 (oa_1 hb (by omega)) (by omega) (by omega) (by omega) (by omega) (by omega) (by omega)) rfl ?_
      refine V_getfield d_N_greedy_38 fl_N_150 og_0 rfl ?_
      exact V_ireturn d_N_greedy_41 rfl ⟨by unfold A_greedy; rw [if_pos hr, if_pos c31, ← GE4], rfl, fun q x => (oz_6 (by omega) (by omega) (by omega) (by omega) (by omega) (by omega)).trans (oz_1 (by omega)), ⟨wk, lk, cu, u, _, cp, (oa_6 (oa_1 hb (by omega)) (by omega) (by omega) (by omega) (by omega) (by omega) (by omega)), (hT.fr (fun q x y => (oz_6 (by omega) (by omega) (by omega) (by omega) (by omega) (by omega)).trans (oz_1 (by omega)))), (oa_6 (oa_1 hu (by omega)) (by omega) (by omega) (by omega) (by omega) (by omega) (by omega)), hu2, (og_5 (by omega) (by omega) (by omega) (by omega) (by omega)), (oa_6 (oa_1 hcp (by omega)) (by omega) (by omega) (by omega) (by omega) (by omega) (by omega)), hcpk, (hW.fr (fun q x y => (oz_6 (by omega) (by omega) (by omega) (by omega) (by omega) (by omega)).trans (oz_1 (by omega)))), (hL.fr (fun q x y => (oz_6 (by omega) (by omega) (by omega) (by omega) (by omega) (by omega)).trans (oz_1 (by omega)))), hlk, ⟨_, _, _, _, _, _, og_0, (og_1 (by omega)), (og_2 (by omega) (by omega)), (og_3 (by omega) (by omega) (by omega)), (og_4 (by omega) (by omega) (by omega) (by omega))⟩, (hC.fr (fun q x => (oz_6 (by omega) (by omega) (by omega) (by omega) (by omega) (by omega)).trans (oz_1 (by omega)))), hN⟩⟩
  · have hr := bZ_eq.mp c4
    refine V_iconst (-1) d_N_greedy_7 rfl ?_
    exact V_ireturn d_N_greedy_8 rfl ⟨by unfold A_greedy; rw [if_neg (by rw [hr]; decide)], rfl, fun q x => rfl, ⟨wk, lk, cu, u, l0, cp, hb, hT, hu, hu2, hl0, hcp, hcpk, hW, hL, hlk, hG, hC, hN⟩⟩
