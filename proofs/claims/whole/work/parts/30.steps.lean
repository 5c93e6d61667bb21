-- ORDER: listSteps
set_option maxRecDepth 100000 in
set_option maxHeartbeats 4000000 in
theorem c_O_listSteps (l : Launch) (D : hv_D) (h : hv_P) (nx : Nat) {a al c : Nat} {ac ml : Int32} {fi md0 wt0 : Nat → Nat} (ha : h a = some (oO a ac ml)) (hf : h (a + 3) = some (eN 1024 fi)) (hm : h (a + 4) = some (eN 10 md0)) (hw0 : h (a + 5) = some (eN 11 wt0)) (hc1 : 1 ≤ c) (hc2 : c ≤ 10) (hgd : gd fi 10 al) (hpc : pc_ al = c) : hv_N l D M_O_listSteps (hv_rm 0 0 0 0) [.ref a, .int (nI al), .int (nI c)] h nx (hv_ans none (fun h' n' => n' = nx ∧ ∃ md' wt' : Nat → Nat, h' = hv_ov h [(a, oO a ac ml), (a + 3, eN 1024 fi), (a + 4, eN 10 md'), (a + 5, eN 11 wt')] ∧ ∀ j, j < c - 1 → md' j = (pv fi 10 al).getD (c - 2 - j) 0)) := by
  have hlen : (pv fi 10 al).length + 1 = c := by rw [pv_len hgd, hpc]
  have lp : ∀ (k v : Nat), k = (2 * c - 1) - v → v ≤ (2 * c - 1) → ∀ (V : List Nat) (md wt : Nat → Nat), lsV fi al c v V md wt → hv_V l D M_O_listSteps (fun _ _ => True) (hv_rm 0 0 0 0) (hv_ans none (fun h' n' => n' = nx ∧ ∃ md' wt' : Nat → Nat, h' = hv_ov h [(a, oO a ac ml), (a + 3, eN 1024 fi), (a + 4, eN 10 md'), (a + 5, eN 11 wt')] ∧ ∀ j, j < c - 1 → md' j = (pv fi 10 al).getD (c - 2 - j) 0)) 0 0 (hv_ov h [(a, oO a ac ml), (a + 3, eN 1024 fi), (a + 4, eN 10 md), (a + 5, eN 11 wt)]) nx 17 [some (.ref a), some (.int (nI al)), some (.int (nI c)), some (.int (nI (rem_ fi V).length)), some (.int (nI V.length + (-1))), some (.int (nI v)), none] [] := by
    intro k
    induction k using Nat.strongRecOn with
    | ind k ih =>
      intro v hk hi V md wt LS
      refine V_iload d_O_listSteps_17 rfl ?_
      refine V_iconst (nI 2) d_O_listSteps_19 rfl ?_
      refine V_iload_n d_O_listSteps_20 rfl ?_
      refine V_imulN d_O_listSteps_21 ?_
      refine V_iconst (nI 1) d_O_listSteps_22 rfl ?_
      refine V_isubN d_O_listSteps_23 (by omega) ?_
      refine V_icmp_geN 104 d_O_listSteps_24 (by decide) (by omega) (by omega) (fun cv => ?_) (fun cv => ?_)
      · exact V_return d_O_listSteps_104 rfl ⟨rfl, rfl, md, wt, rfl, fun j hj => LS.2.2.2.2.1 j (by have z1 := LS.2.1; have z2 := len_szs LS.1; have z3 := rem_len LS.1; omega) hj⟩
      · obtain ⟨V0, S, rfl, hn0⟩ := last_of (V := V) (n := V.length - 1) (by
          have z := LS.2.1
          have z2 := len_szs LS.1
          rcases Nat.eq_zero_or_pos V.length with q | q
          · rw [List.length_eq_zero_iff] at q
            subst q
            simp [szs] at z
            omega
          · omega)
        have hl0 : (V0 ++ [S]).length = V0.length + 1 := by simp
        have hlc : V0.length + 1 ≤ c := by
          have z := len_szs LS.1
          have z2 := LS.2.2.1
          omega
        obtain ⟨hw, hgS, hS0, hS1⟩ := ls_top LS
        rw [hl0]
        refine V_aload_n d_O_listSteps_27 rfl ?_
        refine V_getfield d_O_listSteps_28 fl_O_24 (og_0) rfl ?_
        refine V_iload d_O_listSteps_31 rfl ?_
        refine V_eqI (pk_m1 V0.length) ?_
        refine V_iaload d_O_listSteps_33 (og_3 (by omega) (by omega) (by omega)) ⟨rfl, by omega, by decide⟩ ?_
        rw [hw]
        refine V_istore_6 d_O_listSteps_34 rfl ?_
        refine V_iinc_4 (-1) d_O_listSteps_36 rfl rfl ?_
        rw [pk_m1 V0.length]
        refine V_iload d_O_listSteps_39 rfl ?_
        refine V_iload d_O_listSteps_41 rfl ?_
        refine V_iconst (nI 1) d_O_listSteps_43 rfl ?_
        refine V_isubN d_O_listSteps_44 (by omega) ?_
        refine V_iandN d_O_listSteps_45 ?_
        refine V_if_eqN 98 d_O_listSteps_46 (by decide) (Nat.lt_of_le_of_lt Nat.and_le_left (by omega)) (fun cs => ?_) (fun cs => ?_)
        · obtain ⟨L1, L2⟩ := ls_one LS cs
          rw [L2]
          have J := ih (2 * c - 1 - (v + 1)) (by omega) (v + 1) rfl (by omega) V0 md wt L1
          refine V_iincN_5 1 d_O_listSteps_98 rfl rfl ?_
          refine V_goto 17 d_O_listSteps_101 (by decide) ?_
          refine V_drop_6 ?_
          exact J
        · obtain ⟨L1, L2, L3, L4⟩ := ls_two hlen LS cs
          rw [L2]
          have J := ih (2 * c - 1 - (v + 1)) (by omega) (v + 1) rfl (by omega) _ _ _ L1
          rw [show (V0 ++ [fi S, S ^^^ fi S]).length = V0.length + 2 by simp, ← st_3] at J
          refine V_iinc_3 (-1) d_O_listSteps_49 rfl rfl ?_
          rw [pk_m1]
          refine V_aload_n d_O_listSteps_52 rfl ?_
          refine V_getfield d_O_listSteps_53 fl_O_21 (og_0) rfl ?_
          refine V_iload_n d_O_listSteps_56 rfl ?_
          refine V_iload d_O_listSteps_57 rfl ?_
          refine V_istN d_O_listSteps_59 (og_2 (by omega) (by omega)) ⟨rfl, by omega, by decide⟩ (ou_2 (by omega) (by omega)) ?_
          refine V_aload_n d_O_listSteps_60 rfl ?_
          refine V_getfield d_O_listSteps_61 fl_O_24 (og_0) rfl ?_
          refine V_iload d_O_listSteps_64 rfl ?_
          refine V_iconst (nI 1) d_O_listSteps_66 rfl ?_
          refine V_iadd d_O_listSteps_67 ?_
          refine V_eqI (st_1 V0.length) ?_
          refine V_aload_n d_O_listSteps_68 rfl ?_
          refine V_getfield d_O_listSteps_69 fl_O_18 (og_0) rfl ?_
          refine V_iload d_O_listSteps_72 rfl ?_
          refine V_iaload d_O_listSteps_74 (og_1 (by omega)) ⟨rfl, hS1, by decide⟩ ?_
          refine V_istN d_O_listSteps_75 (og_3 (by omega) (by omega) (by omega)) ⟨rfl, by omega, by decide⟩ (ou_3 (by omega) (by omega) (by omega)) ?_
          refine V_aload_n d_O_listSteps_76 rfl ?_
          refine V_getfield d_O_listSteps_77 fl_O_24 (og_0) rfl ?_
          refine V_iload d_O_listSteps_80 rfl ?_
          refine V_iconst (nI 2) d_O_listSteps_82 rfl ?_
          refine V_iadd d_O_listSteps_83 ?_
          refine V_eqI (st_2 V0.length) ?_
          refine V_iload d_O_listSteps_84 rfl ?_
          refine V_aload_n d_O_listSteps_86 rfl ?_
          refine V_getfield d_O_listSteps_87 fl_O_18 (og_0) rfl ?_
          refine V_iload d_O_listSteps_90 rfl ?_
          refine V_iaload d_O_listSteps_92 (og_1 (by omega)) ⟨rfl, hS1, by decide⟩ ?_
          refine V_ixorN d_O_listSteps_93 ?_
          refine V_istN d_O_listSteps_94 (og_3 (by omega) (by omega) (by omega)) ⟨rfl, by omega, by decide⟩ (ou_3 (by omega) (by omega) (by omega)) ?_
          refine V_iinc_4 (2) d_O_listSteps_95 rfl rfl ?_
          refine V_iincN_5 1 d_O_listSteps_98 rfl rfl ?_
          refine V_goto 17 d_O_listSteps_101 (by decide) ?_
          refine V_drop_6 ?_
          exact J
  refine hv_N.of' [some (.ref a), some (.int (nI al)), some (.int (nI c)), none, none, none, none] (by decide +kernel) rfl rfl rfl ?_
  refine V_eqH (ob_4 ha hf hm hw0) ?_
  refine V_iload_n d_O_listSteps_0 rfl ?_
  refine V_iconst (nI 1) d_O_listSteps_1 rfl ?_
  refine V_isubN d_O_listSteps_2 (by omega) ?_
  refine V_istore_3 d_O_listSteps_3 rfl ?_
  refine V_iconst (nI 0) d_O_listSteps_4 rfl ?_
  refine V_istore_4 d_O_listSteps_5 rfl ?_
  refine V_aload_n d_O_listSteps_7 rfl ?_
  refine V_getfield d_O_listSteps_8 fl_O_24 (og_0) rfl ?_
  refine V_iconst (nI 0) d_O_listSteps_11 rfl ?_
  refine V_iload_n d_O_listSteps_12 rfl ?_
  refine V_istN d_O_listSteps_13 (og_3 (by omega) (by omega) (by omega)) ⟨rfl, by decide, by decide⟩ (ou_3 (by omega) (by omega) (by omega)) ?_
  refine V_iconst (nI 0) d_O_listSteps_14 rfl ?_
  refine V_istore_5 d_O_listSteps_15 rfl ?_
  have L0 : lsV fi al c 0 [al] md0 (va_up wt0 0 al) := by
    refine ⟨fun S hS => by simp at hS; rw [hS]; exact hgd, by simp [szs]; omega, by simp [szs]; omega, fun i hi => ?_, fun j hj1 hj2 => ?_, [], by simp [rem_]⟩
    · simp at hi
      subst hi
      simp [va_up]
    · simp [rem_] at hj1
      omega
  have J := lp _ 0 rfl (Nat.zero_le _) [al] md0 (va_up wt0 0 al) L0
  rw [show (rem_ fi [al]).length = c - 1 by simp [rem_]; omega, show nI [al].length + (-1) = nI 0 from pk_m1 0] at J
  exact J
