-- ORDER: isTooDear, partInTwo
set_option maxRecDepth 100000 in
set_option maxHeartbeats 4000000 in
theorem c_O_isTooDear (l : Launch) (D : hv_D) (h : hv_P) (nx : Nat) {a s bd : Nat} {ac ml : Int32} {lg : Nat → Nat} (ha : h a = some (oO a ac ml)) (hl : h (a + 1) = some (eN 1024 lg)) (hs : s < 1024) (hlg : lg s < 2 ^ 20) (hbd : bd < 2 ^ 31) : hv_N l D M_O_isTooDear (hv_rm 1 20 0 0) [.ref a, .int (nI s), .int (nI bd)] h nx (hv_ans (some (.int (bZ (decide (bd < 2 * 2 ^ pc_ (lg s)))))) (hv_same h nx)) := by
  refine hv_N.of' [some (.ref a), some (.int (nI s)), some (.int (nI bd))] (by decide +kernel) rfl rfl rfl ?_
  refine V_iconst (nI 2) d_O_isTooDear_0 rfl ?_
  refine V_aload_n d_O_isTooDear_1 rfl ?_
  refine V_getfield d_O_isTooDear_2 fl_O_9 ha rfl ?_
  refine V_iload_n d_O_isTooDear_5 rfl ?_
  refine V_iaload d_O_isTooDear_6 hl ⟨rfl, hs, by decide⟩ ?_
  refine V_callS1 d_O_isTooDear_7 ml_O_53 mB_JI_bitCount ms_JI_bitCount (c_bitCount l D _ _ (Nat.lt_of_lt_of_le hlg (by decide))) rfl rfl rfl rfl rfl rfl rfl ?_
  rintro _ _ ⟨rfl, rfl⟩
  refine V_ishlN d_O_isTooDear_10 (by have := pc_le hlg; omega) ?_
  refine V_iload_n d_O_isTooDear_11 rfl ?_
  refine V_icmp_leN 19 d_O_isTooDear_12 (by decide) (by have := two20 hlg; omega) (by omega) (fun q => ?_) (fun q => ?_)
  · refine V_iconst (0) d_O_isTooDear_19 rfl ?_
    exact V_zreturn d_O_isTooDear_20 rfl rfl ⟨by first | (simp [bZ, q]; done) | (simp [bZ, Nat.not_lt.mpr q]; done), rfl, rfl⟩
  · refine V_iconst (1) d_O_isTooDear_15 rfl ?_
    refine V_goto 20 d_O_isTooDear_16 (by decide) ?_
    exact V_zreturn d_O_isTooDear_20 rfl rfl ⟨by first | (simp [bZ, q]; done) | (simp [bZ, Nat.not_lt.mpr q]; done), rfl, rfl⟩

set_option maxRecDepth 100000 in
set_option maxHeartbeats 4000000 in
theorem c_O_partInTwo (l : Launch) (D : hv_D) (h : hv_P) (nx : Nat) {a ls r bd : Nat} {ac ml : Int32} {lg co fi : Nat → Nat} (ha : h a = some (oO a ac ml)) (hl : h (a + 1) = some (eN 1024 lg)) (hc : h (a + 2) = some (eN 1024 co)) (hf : h (a + 3) = some (eN 1024 fi)) (hdis : (ls ||| r) ^^^ r = ls) (hls : ls < 1024) (hr : r < 1024) (hbd : bd < 2 ^ 26) (hco : ∀ s, s < 1024 → co s ≤ 2 ^ 26) (hlg : ∀ s, s < 1024 → lg s < 2 ^ 20) : hv_N l D M_O_partInTwo (hv_rm 1 20 0 0) [.ref a, .int (nI (ls ||| r)), .int (nI r), .int (nI bd)] h nx (hv_ans none (fun h' n' => h' = hv_ov h [(a, oO a ac ml), (a + 1, eN 1024 lg), (a + 2, eN 1024 (va_up co (ls ||| r) (ptF lg co ls r (bd + 1, ls) r).1)), (a + 3, eN 1024 (va_up fi (ls ||| r) (ptF lg co ls r (bd + 1, ls) r).2))] ∧ n' = nx)) := by
  have hlow : ∀ x, (ptF lg co ls r (bd + 1, ls) x).1 ≤ bd + 1 := by
    intro x
    induction x with
    | zero => exact Nat.le_refl _
    | succ x ihx =>
      show (if x &&& r = x then _ else _ : Nat × Nat).1 ≤ _
      split
      · unfold ptS; split
        · show _ ≤ bd + 1; omega
        · exact ihx
      · exact ihx
  have lp : ∀ (kk s : Nat), kk = r - s → s ≤ r → s &&& r = s → hv_V l D M_O_partInTwo (fun _ _ => True) (hv_rm 1 20 0 0) (hv_ans none (fun h' n' => h' = hv_ov h [(a, oO a ac ml), (a + 1, eN 1024 lg), (a + 2, eN 1024 (va_up co (ls ||| r) (ptF lg co ls r (bd + 1, ls) r).1)), (a + 3, eN 1024 (va_up fi (ls ||| r) (ptF lg co ls r (bd + 1, ls) r).2))] ∧ n' = nx)) 0 0 (hv_ov h [(a, oO a ac ml), (a + 1, eN 1024 lg), (a + 2, eN 1024 co), (a + 3, eN 1024 fi)]) nx 27 [some (.ref a), some (.int (nI (ls ||| r))), some (.int (nI r)), some (.int (nI bd)), some (.int (nI ls)), some (.int (nI (ptF lg co ls r (bd + 1, ls) s).1)), some (.int (nI (ptF lg co ls r (bd + 1, ls) s).2)), some (.int (nI s)), some (.int (nI (npF r r - npF r s))), none, none, none] [] := by
    intro kk
    induction kk using Nat.strongRecOn with
    | ind kk ih =>
      intro s hkk hi hs
      refine V_iload d_O_partInTwo_27 rfl ?_
      refine V_if_leN 123 d_O_partInTwo_29 (by decide) (by have := np_lt hr; omega) (fun cw => ?_) (fun cw => ?_)
      · have es : s = r := np_end hs hi cw
        subst es
        refine V_aload_n d_O_partInTwo_123 rfl ?_
        refine V_getfield d_O_partInTwo_124 fl_O_15 (og_0) rfl ?_
        refine V_iload_n d_O_partInTwo_127 rfl ?_
        refine V_iload d_O_partInTwo_128 rfl ?_
        refine V_istN d_O_partInTwo_130 (og_2 (by omega) (by omega)) ⟨rfl, Nat.or_lt_two_pow (n := 10) hls (by omega), by decide⟩ (ou_2 (by omega) (by omega)) ?_
        refine V_aload_n d_O_partInTwo_131 rfl ?_
        refine V_getfield d_O_partInTwo_132 fl_O_18 (og_0) rfl ?_
        refine V_iload_n d_O_partInTwo_135 rfl ?_
        refine V_iload d_O_partInTwo_136 rfl ?_
        refine V_istN d_O_partInTwo_138 (og_3 (by omega) (by omega) (by omega)) ⟨rfl, Nat.or_lt_two_pow (n := 10) hls (by omega), by decide⟩ (ou_3 (by omega) (by omega) (by omega)) ?_
        exact V_return d_O_partInTwo_139 rfl ⟨rfl, rfl, rfl⟩
      · have cs := np_more hi cw
        have f1 : ls ||| s < 1024 := Nat.or_lt_two_pow (n := 10) hls (by omega)
        have f2 : r ^^^ s < 1024 := Nat.xor_lt_two_pow (n := 10) hr (by omega)
        have c1 := hco _ f1
        have c2 := hco _ f2
        have l1 := hlg _ f1
        have l2 := hlg _ f2
        have lo := Nat.or_lt_two_pow l1 l2
        have t20 := two20 lo
        have low := hlow s
        refine V_iload d_O_partInTwo_32 rfl ?_
        refine V_iload d_O_partInTwo_34 rfl ?_
        refine V_iorN d_O_partInTwo_36 ?_
        refine V_istore_9 d_O_partInTwo_37 rfl ?_
        refine V_iload_n d_O_partInTwo_39 rfl ?_
        refine V_iload d_O_partInTwo_40 rfl ?_
        refine V_ixorN d_O_partInTwo_42 ?_
        refine V_istore_10 d_O_partInTwo_43 rfl ?_
        refine V_aload_n d_O_partInTwo_45 rfl ?_
        refine V_getfield d_O_partInTwo_46 fl_O_15 (og_0) rfl ?_
        refine V_iload d_O_partInTwo_49 rfl ?_
        refine V_iaload d_O_partInTwo_51 (og_2 (by omega) (by omega)) ⟨rfl, f1, by decide⟩ ?_
        refine V_aload_n d_O_partInTwo_52 rfl ?_
        refine V_getfield d_O_partInTwo_53 fl_O_15 (og_0) rfl ?_
        refine V_iload d_O_partInTwo_56 rfl ?_
        refine V_iaload d_O_partInTwo_58 (og_2 (by omega) (by omega)) ⟨rfl, f2, by decide⟩ ?_
        refine V_iaddN d_O_partInTwo_59 ?_
        refine V_istore_11 d_O_partInTwo_60 rfl ?_
        refine V_iload d_O_partInTwo_62 rfl ?_
        refine V_iload d_O_partInTwo_64 rfl ?_
        refine V_icmp_geN 109 d_O_partInTwo_66 (by decide) (by omega) (by omega) (fun d1 => ?_) (fun d1 => ?_)
        · have P1 : ptS lg co ls r (ptF lg co ls r (bd + 1, ls) s) s = ptF lg co ls r (bd + 1, ls) s := by unfold ptS; rw [if_neg (by omega)]
          refine V_iload d_O_partInTwo_109 rfl ?_
          refine V_iload_n d_O_partInTwo_111 rfl ?_
          refine V_isub d_O_partInTwo_112 ?_
          refine V_iload_n d_O_partInTwo_113 rfl ?_
          refine V_iand d_O_partInTwo_114 ?_
          obtain ⟨m', em, m1, m2, m3, m4⟩ := nxt_part (by omega) hs cs
          refine V_eqI em ?_
          refine V_istore_7 d_O_partInTwo_115 rfl ?_
          refine V_iinc_8 (-1) d_O_partInTwo_117 rfl rfl ?_
          refine V_goto 27 d_O_partInTwo_120 (by decide) ?_
          have gap : ptF lg co ls r (bd + 1, ls) m' = ptF lg co ls r (bd + 1, ls) (s + 1) := by
            have := ptF_gap (lg := lg) (co := co) (ls := ls) (r := r) (st := (bd + 1, ls)) (x := s + 1) (m' - (s + 1)) (fun z z1 z2 => m4 z (by omega) (by omega))
            rw [show s + 1 + (m' - (s + 1)) = m' by omega] at this
            exact this
          have J := ih (r - m') (by omega) m' rfl m2 m3
          rw [gap, show ptF lg co ls r (bd + 1, ls) (s + 1) = ptS lg co ls r (ptF lg co ls r (bd + 1, ls) s) s by show (if s &&& r = s then _ else _) = _; rw [if_pos hs]] at J
          rw [P1] at J
          rw [np_next hs m1 m2 m4, pk_m1]
          refine V_drop_9 ?_
          refine V_drop_10 ?_
          refine V_drop_11 ?_
          exact J
        · refine V_iload d_O_partInTwo_69 rfl ?_
          refine V_iconst (nI 1) d_O_partInTwo_71 rfl ?_
          refine V_aload_n d_O_partInTwo_72 rfl ?_
          refine V_getfield d_O_partInTwo_73 fl_O_9 (og_0) rfl ?_
          refine V_iload d_O_partInTwo_76 rfl ?_
          refine V_iaload d_O_partInTwo_78 (og_1 (by omega)) ⟨rfl, f1, by decide⟩ ?_
          refine V_aload_n d_O_partInTwo_79 rfl ?_
          refine V_getfield d_O_partInTwo_80 fl_O_9 (og_0) rfl ?_
          refine V_iload d_O_partInTwo_83 rfl ?_
          refine V_iaload d_O_partInTwo_85 (og_1 (by omega)) ⟨rfl, f2, by decide⟩ ?_
          refine V_iorN d_O_partInTwo_86 ?_
          refine V_callS1 d_O_partInTwo_87 ml_O_53 mB_JI_bitCount ms_JI_bitCount (c_bitCount l D _ _ (Nat.lt_of_lt_of_le lo (by decide))) rfl rfl rfl rfl rfl rfl rfl ?_
          rintro _ _ ⟨rfl, rfl⟩
          refine V_ishlN d_O_partInTwo_90 (by have := pc_le lo; omega) ?_
          rw [Nat.one_mul]
          refine V_iaddN d_O_partInTwo_91 ?_
          refine V_istore_11 d_O_partInTwo_92 rfl ?_
          refine V_iload d_O_partInTwo_94 rfl ?_
          refine V_iload d_O_partInTwo_96 rfl ?_
          refine V_icmp_geN 109 d_O_partInTwo_98 (by decide) (by omega) (by omega) (fun d2 => ?_) (fun d2 => ?_)
          · have P1 : ptS lg co ls r (ptF lg co ls r (bd + 1, ls) s) s = ptF lg co ls r (bd + 1, ls) s := by unfold ptS; rw [if_neg (by omega)]
            refine V_iload d_O_partInTwo_109 rfl ?_
            refine V_iload_n d_O_partInTwo_111 rfl ?_
            refine V_isub d_O_partInTwo_112 ?_
            refine V_iload_n d_O_partInTwo_113 rfl ?_
            refine V_iand d_O_partInTwo_114 ?_
            obtain ⟨m', em, m1, m2, m3, m4⟩ := nxt_part (by omega) hs cs
            refine V_eqI em ?_
            refine V_istore_7 d_O_partInTwo_115 rfl ?_
            refine V_iinc_8 (-1) d_O_partInTwo_117 rfl rfl ?_
            refine V_goto 27 d_O_partInTwo_120 (by decide) ?_
            have gap : ptF lg co ls r (bd + 1, ls) m' = ptF lg co ls r (bd + 1, ls) (s + 1) := by
              have := ptF_gap (lg := lg) (co := co) (ls := ls) (r := r) (st := (bd + 1, ls)) (x := s + 1) (m' - (s + 1)) (fun z z1 z2 => m4 z (by omega) (by omega))
              rw [show s + 1 + (m' - (s + 1)) = m' by omega] at this
              exact this
            have J := ih (r - m') (by omega) m' rfl m2 m3
            rw [gap, show ptF lg co ls r (bd + 1, ls) (s + 1) = ptS lg co ls r (ptF lg co ls r (bd + 1, ls) s) s by show (if s &&& r = s then _ else _) = _; rw [if_pos hs]] at J
            rw [P1] at J
            rw [np_next hs m1 m2 m4, pk_m1]
            refine V_drop_9 ?_
            refine V_drop_10 ?_
            refine V_drop_11 ?_
            exact J
          · have P1 : ptS lg co ls r (ptF lg co ls r (bd + 1, ls) s) s = (co (ls ||| s) + co (r ^^^ s) + 2 ^ pc_ (lg (ls ||| s) ||| lg (r ^^^ s)), ls ||| s) := by unfold ptS; rw [if_pos (by omega)]
            refine V_iload d_O_partInTwo_101 rfl ?_
            refine V_istore_5 d_O_partInTwo_103 rfl ?_
            refine V_iload d_O_partInTwo_105 rfl ?_
            refine V_istore_6 d_O_partInTwo_107 rfl ?_
            refine V_iload d_O_partInTwo_109 rfl ?_
            refine V_iload_n d_O_partInTwo_111 rfl ?_
            refine V_isub d_O_partInTwo_112 ?_
            refine V_iload_n d_O_partInTwo_113 rfl ?_
            refine V_iand d_O_partInTwo_114 ?_
            obtain ⟨m', em, m1, m2, m3, m4⟩ := nxt_part (by omega) hs cs
            refine V_eqI em ?_
            refine V_istore_7 d_O_partInTwo_115 rfl ?_
            refine V_iinc_8 (-1) d_O_partInTwo_117 rfl rfl ?_
            refine V_goto 27 d_O_partInTwo_120 (by decide) ?_
            have gap : ptF lg co ls r (bd + 1, ls) m' = ptF lg co ls r (bd + 1, ls) (s + 1) := by
              have := ptF_gap (lg := lg) (co := co) (ls := ls) (r := r) (st := (bd + 1, ls)) (x := s + 1) (m' - (s + 1)) (fun z z1 z2 => m4 z (by omega) (by omega))
              rw [show s + 1 + (m' - (s + 1)) = m' by omega] at this
              exact this
            have J := ih (r - m') (by omega) m' rfl m2 m3
            rw [gap, show ptF lg co ls r (bd + 1, ls) (s + 1) = ptS lg co ls r (ptF lg co ls r (bd + 1, ls) s) s by show (if s &&& r = s then _ else _) = _; rw [if_pos hs]] at J
            rw [P1] at J
            rw [np_next hs m1 m2 m4, pk_m1]
            refine V_drop_9 ?_
            refine V_drop_10 ?_
            refine V_drop_11 ?_
            exact J
  refine hv_N.of' [some (.ref a), some (.int (nI (ls ||| r))), some (.int (nI r)), some (.int (nI bd)), none, none, none, none, none, none, none, none] (by decide +kernel) rfl rfl rfl ?_
  refine V_eqH (ob_4 ha hl hc hf) ?_
  refine V_iload_n d_O_partInTwo_0 rfl ?_
  refine V_iload_n d_O_partInTwo_1 rfl ?_
  refine V_ixorN d_O_partInTwo_2 ?_
  refine V_eqI (y := nI ls) (by rw [hdis]) ?_
  refine V_istore_4 d_O_partInTwo_3 rfl ?_
  refine V_iload_n d_O_partInTwo_5 rfl ?_
  refine V_iconst (nI 1) d_O_partInTwo_6 rfl ?_
  refine V_iaddN d_O_partInTwo_7 ?_
  refine V_istore_5 d_O_partInTwo_8 rfl ?_
  refine V_iload d_O_partInTwo_10 rfl ?_
  refine V_istore_6 d_O_partInTwo_12 rfl ?_
  refine V_iconst (nI 0) d_O_partInTwo_14 rfl ?_
  refine V_istore_7 d_O_partInTwo_15 rfl ?_
  refine V_iconst (nI 1) d_O_partInTwo_17 rfl ?_
  refine V_iload_n d_O_partInTwo_18 rfl ?_
  refine V_callS1 d_O_partInTwo_19 ml_O_53 mB_JI_bitCount ms_JI_bitCount (c_bitCount l D _ _ (Nat.lt_of_lt_of_le hr (by decide))) rfl rfl rfl rfl rfl rfl rfl ?_
  rintro _ _ ⟨rfl, rfl⟩
  refine V_ishlN d_O_partInTwo_22 (by have := pc_le (show r < 2 ^ 20 by omega); omega) ?_
  refine V_iconst (nI 1) d_O_partInTwo_23 rfl ?_
  refine V_isubN d_O_partInTwo_24 (by have := Nat.two_pow_pos (pc_ r); omega) ?_
  refine V_eqI (y := nI (npF r r - npF r 0)) (congrArg nI (by have := npF_all (r := r) (by omega); have z : npF r 0 = 0 := rfl; omega)) ?_
  refine V_istore_8 d_O_partInTwo_25 rfl ?_
  exact lp _ 0 rfl (Nat.zero_le _) (Nat.zero_and _)
