-- ORDER: find
theorem c_O_part2 (l : Launch) (D : hv_D) (h : hv_P) (nx : Nat) {a ls r bd s : Nat} {ac ml : Int32} {lg co fi : Nat → Nat} (hs : ls ||| r = s) (ha : h a = some (oO a ac ml)) (hl : h (a + 1) = some (eN 1024 lg)) (hc : h (a + 2) = some (eN 1024 co)) (hf : h (a + 3) = some (eN 1024 fi)) (hdis : (ls ||| r) ^^^ r = ls) (hls : ls < 1024) (hr : r < 1024) (hbd : bd < 2 ^ 26) (hco : ∀ s, s < 1024 → co s ≤ 2 ^ 26) (hlg : ∀ s, s < 1024 → lg s < 2 ^ 20) : hv_N l D M_O_partInTwo (hv_rm 1 20 0 0) [.ref a, .int (nI s), .int (nI r), .int (nI bd)] h nx (hv_ans none (fun h' n' => h' = hv_ov h [(a, oO a ac ml), (a + 1, eN 1024 lg), (a + 2, eN 1024 (va_up co s (ptF lg co ls r (bd + 1, ls) r).1)), (a + 3, eN 1024 (va_up fi s (ptF lg co ls r (bd + 1, ls) r).2))] ∧ n' = nx)) := by
  subst hs
  exact c_O_partInTwo l D h nx ha hl hc hf hdis hls hr hbd hco hlg
set_option maxRecDepth 100000 in
set_option maxHeartbeats 4000000 in
theorem c_O_find (l : Launch) (D : hv_D) (h : hv_P) (nx : Nat) {a b c al bd : Nat} {ac ml : Int32} {lg0 co0 fi0 md0 wt0 l1 : Nat → Nat} (ha : h a = some (oO a ac ml)) (hl : h (a + 1) = some (eN 1024 lg0)) (hco : h (a + 2) = some (eN 1024 co0)) (hf : h (a + 3) = some (eN 1024 fi0)) (hm : h (a + 4) = some (eN 10 md0)) (hw : h (a + 5) = some (eN 11 wt0)) (hb : h b = some (eN 10 l1)) (hbd0 : b < a ∨ a + 5 < b) (hc1 : 1 ≤ c) (hc2 : c ≤ 10) (hal : al = 2 ^ c - 1) (hbd : bd < 2 ^ 26) (h0 : fdOk (lg0, co0, fi0)) (hl1 : ∀ t, t < c → l1 t < 2 ^ 20) (hpc : pc_ al = c) (hgd : gd (fdF l1 al bd (lg0, co0, fi0) (al + 1)).2.2 10 al) : hv_N l D M_O_find (hv_rm 2 56 0 0) [.ref a, .ref b, .int (nI c), .int (nI bd)] h nx (hv_ans none (fun h' n' => n' = nx ∧ ∃ md' wt' : Nat → Nat, h' = hv_ov h [(a, oO a (nI ((fdF l1 al bd (lg0, co0, fi0) (al + 1)).2.1 al)) (nI (mlB (fdF l1 al bd (lg0, co0, fi0) (al + 1)).1 md' (mlA (fdF l1 al bd (lg0, co0, fi0) (al + 1)).1 c) (c - 1)))), (a + 1, eN 1024 (fdF l1 al bd (lg0, co0, fi0) (al + 1)).1), (a + 2, eN 1024 (fdF l1 al bd (lg0, co0, fi0) (al + 1)).2.1), (a + 3, eN 1024 (fdF l1 al bd (lg0, co0, fi0) (al + 1)).2.2), (a + 4, eN 10 md'), (a + 5, eN 11 wt'), (b, eN 10 l1)] ∧ ∀ j, j < c - 1 → md' j = (pv (fdF l1 al bd (lg0, co0, fi0) (al + 1)).2.2 10 al).getD (c - 2 - j) 0)) := by
  have hp := Nat.two_pow_pos c
  have hal2 : (2 : Nat) ^ c ≤ 2 ^ 10 := Nat.pow_le_pow_right (by decide) hc2
  have lp : ∀ (k s : Nat), k = (al + 1) - s → s ≤ (al + 1) → 1 ≤ s → hv_V l D M_O_find (fun _ _ => True) (hv_rm 2 56 0 0) (hv_ans none (fun h' n' => n' = nx ∧ ∃ md' wt' : Nat → Nat, h' = hv_ov h [(a, oO a (nI ((fdF l1 al bd (lg0, co0, fi0) (al + 1)).2.1 al)) (nI (mlB (fdF l1 al bd (lg0, co0, fi0) (al + 1)).1 md' (mlA (fdF l1 al bd (lg0, co0, fi0) (al + 1)).1 c) (c - 1)))), (a + 1, eN 1024 (fdF l1 al bd (lg0, co0, fi0) (al + 1)).1), (a + 2, eN 1024 (fdF l1 al bd (lg0, co0, fi0) (al + 1)).2.1), (a + 3, eN 1024 (fdF l1 al bd (lg0, co0, fi0) (al + 1)).2.2), (a + 4, eN 10 md'), (a + 5, eN 11 wt'), (b, eN 10 l1)] ∧ ∀ j, j < c - 1 → md' j = (pv (fdF l1 al bd (lg0, co0, fi0) (al + 1)).2.2 10 al).getD (c - 2 - j) 0)) 0 0 (hv_ov h [(a, oO a (ac) (ml)), (a + 1, eN 1024 (fdF l1 al bd (lg0, co0, fi0) s).1), (a + 2, eN 1024 (fdF l1 al bd (lg0, co0, fi0) s).2.1), (a + 3, eN 1024 (fdF l1 al bd (lg0, co0, fi0) s).2.2), (a + 4, eN 10 md0), (a + 5, eN 11 wt0), (b, eN 10 l1)]) nx 10 [some (.ref a), some (.ref b), some (.int (nI c)), some (.int (nI bd)), some (.int (nI al)), some (.int (nI s)), none] [] := by
    intro k
    induction k using Nat.strongRecOn with
    | ind k ih =>
      intro s hk hi hs1
      refine V_iload d_O_find_10 rfl ?_
      refine V_iload d_O_find_12 rfl ?_
      refine V_icmp_gtN 109 d_O_find_14 (by decide) (by omega) (by omega) (fun cs => ?_) (fun cs => ?_)
      · have es : s = al + 1 := by omega
        subst es
        have okF := fdOk_f (al := al) h0 hl1 hc2 hbd (al + 1) (by omega)
        generalize (fdF l1 al bd (lg0, co0, fi0) (al + 1)) = F at okF hgd ⊢
        refine V_aload_n d_O_find_109 rfl ?_
        refine V_aload_n d_O_find_110 rfl ?_
        refine V_getfield d_O_find_111 fl_O_15 (og_0) rfl ?_
        refine V_iload d_O_find_114 rfl ?_
        refine V_iaload d_O_find_116 (og_2 (by omega) (by omega)) ⟨rfl, by omega, by decide⟩ ?_
        refine V_put (e' := oO a (nI (F.2.1 al)) ml) d_O_find_117 fp_O_41 (og_0) rfl rfl rfl rfl (ou_0) ?_
        refine V_aload_n d_O_find_120 rfl ?_
        refine V_iload d_O_find_121 rfl ?_
        refine V_iload_n d_O_find_123 rfl ?_
        refine V_callV0 d_O_find_124 ml_O_45 mB_O_listSteps mi_O_listSteps mv_O_listSteps rfl og_0 (c_O_listSteps l D _ _ og_0 (og_3 (by omega) (by omega) (by omega)) (og_4 (by omega) (by omega) (by omega) (by omega)) (og_5 (by omega) (by omega) (by omega) (by omega) (by omega)) hc1 hc2 hgd hpc) rfl rfl rfl rfl rfl rfl rfl ?_
        rintro _ _ ⟨rfl, md', wt', rfl, hmd⟩
        rw [ox_4, ou_5 (by omega) (by omega) (by omega) (by omega) (by omega), ou_4 (by omega) (by omega) (by omega) (by omega), ou_3 (by omega) (by omega) (by omega), ou_0]
        refine V_aload_n d_O_find_127 rfl ?_
        refine V_iload_n d_O_find_128 rfl ?_
        refine V_callV0 d_O_find_129 ml_O_49 mB_O_findMostLegs mi_O_findMostLegs mv_O_findMostLegs rfl og_0 (c_O_findMostLegs l D _ _ og_0 (og_1 (by omega)) (og_4 (by omega) (by omega) (by omega) (by omega)) hc1 hc2 (fun q hq => (okF q hq).1) (fun i hi => by rw [hmd i hi, List.getD_eq_getElem?_getD]; cases e : (pv F.2.2 10 al)[c - 2 - i]? with | none => exact (by decide : (0 : Nat) < 1024) | some x => exact pv_in hgd x (List.mem_of_getElem? e))) rfl rfl rfl rfl rfl rfl rfl ?_
        rintro _ _ ⟨rfl, rfl⟩
        rw [ox_3, ou_4 (by omega) (by omega) (by omega) (by omega), ou_1 (by omega), ou_0]
        exact V_return d_O_find_132 rfl ⟨rfl, rfl, md', wt', rfl, hmd⟩
      · have hal2 : (2 : Nat) ^ c ≤ 2 ^ 10 := Nat.pow_le_pow_right (by decide) hc2
        have s1 : s < 1024 := by omega
        obtain ⟨z1, z2, z3, z4, z5, z6⟩ := tz_all s s1 (by omega)
        have zt := tz_lt (by omega) hc2 (show s < 2 ^ c by omega)
        have ok := fdOk_f (al := al) h0 hl1 hc2 hbd s (by omega)
        have ES : (fdF l1 al bd (lg0, co0, fi0) (s + 1)) = fdS l1 al bd (fdF l1 al bd (lg0, co0, fi0) s) s := by show (if s = 0 then _ else _) = _; rw [if_neg (by omega)]
        have J := ih (al + 1 - (s + 1)) (by omega) (s + 1) rfl (by omega) (by omega)
        rw [ES] at J
        have lx := Nat.xor_lt_two_pow (ok _ (show s &&& (s - 1) < 1024 by omega)).1 (hl1 _ zt)
        unfold fdS at J
        generalize (fdF l1 al bd (lg0, co0, fi0) s) = st at ok lx J ⊢
        refine V_iload d_O_find_17 rfl ?_
        refine V_iload d_O_find_19 rfl ?_
        refine V_iconst (nI 1) d_O_find_21 rfl ?_
        refine V_isubN d_O_find_22 (by omega) ?_
        refine V_iandN d_O_find_23 ?_
        refine V_istore_6 d_O_find_24 rfl ?_
        refine V_aload_n d_O_find_26 rfl ?_
        refine V_getfield d_O_find_27 fl_O_9 (og_0) rfl ?_
        refine V_iload d_O_find_30 rfl ?_
        refine V_aload_n d_O_find_32 rfl ?_
        refine V_getfield d_O_find_33 fl_O_9 (og_0) rfl ?_
        refine V_iload d_O_find_36 rfl ?_
        refine V_iaload d_O_find_38 (og_1 (by omega)) ⟨rfl, by omega, by decide⟩ ?_
        refine V_aload_n d_O_find_39 rfl ?_
        refine V_iload d_O_find_40 rfl ?_
        refine V_callS1 d_O_find_42 ml_O_27 mB_JI_numberOfTrailingZeros ms_JI_numberOfTrailingZeros (c_ntz l D _ _ (tzf 10 s) (by omega) z1 (by omega)) rfl rfl rfl rfl rfl rfl rfl ?_
        rintro _ _ ⟨rfl, rfl⟩
        refine V_iaload d_O_find_45 (og_6 (by omega) (by omega) (by omega) (by omega) (by omega) (by omega)) ⟨rfl, z2, by decide⟩ ?_
        refine V_ixorN d_O_find_46 ?_
        refine V_istN d_O_find_47 (og_1 (by omega)) ⟨rfl, s1, by decide⟩ (ou_1 (by omega)) ?_
        refine V_iload d_O_find_48 rfl ?_
        refine V_if_neN 64 d_O_find_50 (by decide) (by omega) (fun cr => ?_) (fun cr => ?_)
        · rw [if_neg cr] at J
          refine V_iload d_O_find_64 rfl ?_
          refine V_iload d_O_find_66 rfl ?_
          refine V_icmp_eqN 94 d_O_find_68 (by decide) (by omega) (by omega) (fun ca => ?_) (fun ca => ?_)
          · rw [if_neg (fun q => q.1 ca)] at J
            refine V_aload_n d_O_find_94 rfl ?_
            refine V_iload d_O_find_95 rfl ?_
            refine V_iload d_O_find_97 rfl ?_
            refine V_iload_n d_O_find_99 rfl ?_
            refine V_callV0 d_O_find_100 ml_O_37 mB_O_partInTwo mi_O_partInTwo mv_O_partInTwo rfl og_0 (c_O_part2 l D _ _ z3 og_0 (og_1 (by omega)) (og_2 (by omega) (by omega)) (og_3 (by omega) (by omega) (by omega)) z4 (by omega) (by omega) hbd (fun q hq => (ok q hq).2) (fun q hq => by unfold va_up; split; exact lx; exact (ok q hq).1)) rfl rfl rfl rfl rfl rfl rfl ?_
            rintro _ _ ⟨rfl, rfl⟩
            rw [ox_4, ou_3 (by omega) (by omega) (by omega), ou_2 (by omega) (by omega), ou_1 (by omega), ou_0]
            refine V_iincN_5 1 d_O_find_103 rfl rfl ?_
            refine V_goto 10 d_O_find_106 (by decide) ?_
            refine V_drop_6 ?_
            exact J
          · refine V_aload_n d_O_find_71 rfl ?_
            refine V_iload d_O_find_72 rfl ?_
            refine V_iload_n d_O_find_74 rfl ?_
            refine V_callV1 d_O_find_75 ml_O_33 mB_O_isTooDear mi_O_isTooDear mv_O_isTooDear rfl og_0 (c_O_isTooDear l D _ _ og_0 (og_1 (by omega)) s1 (by simp only [va_up, if_true]; exact lx) (by omega)) rfl rfl rfl rfl rfl rfl rfl ?_
            rintro _ _ ⟨rfl, rfl⟩
            refine V_if_eq 94 d_O_find_78 (by decide) (fun cd => ?_) (fun cd => ?_)
            · have cd := bZ_0.mp cd
              simp only [va_up, if_true, decide_eq_false_iff_not] at cd
              rw [if_neg (fun q => cd q.2)] at J
              refine V_aload_n d_O_find_94 rfl ?_
              refine V_iload d_O_find_95 rfl ?_
              refine V_iload d_O_find_97 rfl ?_
              refine V_iload_n d_O_find_99 rfl ?_
              refine V_callV0 d_O_find_100 ml_O_37 mB_O_partInTwo mi_O_partInTwo mv_O_partInTwo rfl og_0 (c_O_part2 l D _ _ z3 og_0 (og_1 (by omega)) (og_2 (by omega) (by omega)) (og_3 (by omega) (by omega) (by omega)) z4 (by omega) (by omega) hbd (fun q hq => (ok q hq).2) (fun q hq => by unfold va_up; split; exact lx; exact (ok q hq).1)) rfl rfl rfl rfl rfl rfl rfl ?_
              rintro _ _ ⟨rfl, rfl⟩
              rw [ox_4, ou_3 (by omega) (by omega) (by omega), ou_2 (by omega) (by omega), ou_1 (by omega), ou_0]
              refine V_iincN_5 1 d_O_find_103 rfl rfl ?_
              refine V_goto 10 d_O_find_106 (by decide) ?_
              refine V_drop_6 ?_
              exact J
            · have cd : ¬ _ = false := fun q => cd (bZ_0.mpr q)
              simp only [va_up, if_true, decide_eq_false_iff_not, Classical.not_not] at cd
              rw [if_pos ⟨ca, cd⟩] at J
              refine V_aload_n d_O_find_81 rfl ?_
              refine V_getfield d_O_find_82 fl_O_15 (og_0) rfl ?_
              refine V_iload d_O_find_85 rfl ?_
              refine V_iload_n d_O_find_87 rfl ?_
              refine V_iconst (nI 1) d_O_find_88 rfl ?_
              refine V_iaddN d_O_find_89 ?_
              refine V_istN d_O_find_90 (og_2 (by omega) (by omega)) ⟨rfl, s1, by decide⟩ (ou_2 (by omega) (by omega)) ?_
              refine V_goto 103 d_O_find_91 (by decide) ?_
              refine V_iincN_5 1 d_O_find_103 rfl rfl ?_
              refine V_goto 10 d_O_find_106 (by decide) ?_
              refine V_drop_6 ?_
              exact J
        · rw [if_pos cr] at J
          refine V_aload_n d_O_find_53 rfl ?_
          refine V_getfield d_O_find_54 fl_O_15 (og_0) rfl ?_
          refine V_iload d_O_find_57 rfl ?_
          refine V_iconst (nI 0) d_O_find_59 rfl ?_
          refine V_istN d_O_find_60 (og_2 (by omega) (by omega)) ⟨rfl, s1, by decide⟩ (ou_2 (by omega) (by omega)) ?_
          refine V_goto 103 d_O_find_61 (by decide) ?_
          refine V_iincN_5 1 d_O_find_103 rfl rfl ?_
          refine V_goto 10 d_O_find_106 (by decide) ?_
          refine V_drop_6 ?_
          exact J
  refine hv_N.of' [some (.ref a), some (.ref b), some (.int (nI c)), some (.int (nI bd)), none, none, none] (by decide +kernel) rfl rfl rfl ?_
  refine V_eqH (ob_7 ha hl hco hf hm hw hb) ?_
  refine V_iconst (nI 1) d_O_find_0 rfl ?_
  refine V_iload_n d_O_find_1 rfl ?_
  refine V_ishlN d_O_find_2 (by omega) ?_
  refine V_iconst (nI 1) d_O_find_3 rfl ?_
  refine V_isubN d_O_find_4 (by omega) ?_
  rw [Nat.one_mul, ← hal]
  refine V_istore_4 d_O_find_5 rfl ?_
  refine V_iconst (nI 1) d_O_find_7 rfl ?_
  refine V_istore_5 d_O_find_8 rfl ?_
  exact lp _ 1 rfl (by omega) (Nat.le_refl _)
