-- GREEDY: joinAll
set_option maxRecDepth 100000 in
set_option maxHeartbeats 4000000 in
theorem c_G_joinAll (l : Launch) (D : hv_D) (h : hv_P) (nx : Nat) {a b c : Nat} {gn0 ac0 : Int32} {L0 Z0 les oth l1 : Nat → Nat} (ha : h a = some (oG a gn0 ac0)) (hL : h (a + 1) = some (eN 20 L0)) (hZ : h (a + 2) = some (eN 20 Z0)) (hles : h (a + 3) = some (eN 10 les)) (hoth : h (a + 4) = some (eN 10 oth)) (hb : h b = some (eN 10 l1)) (hbd : b < a ∨ a + 4 < b) (hc1 : 1 ≤ c) (hc2 : c ≤ 10) (hl1 : ∀ i, i < c → l1 i < 2 ^ 20) : hv_N l D M_G_joinAll (hv_rm 2 48 0 0) [.ref a, .ref b, .int (nI c)] h nx (hv_ans none (fun h' n' => h' = hv_ov h [(a, oG a (nI (grun c (hv_cp l1 L0 c, hv_cp (fun j => 2 ^ pc_ (l1 j)) Z0 c, 0, les, oth, 0) (c - 1)).2.2.1) (nI (grun c (hv_cp l1 L0 c, hv_cp (fun j => 2 ^ pc_ (l1 j)) Z0 c, 0, les, oth, 0) (c - 1)).2.2.2.2.2)), (a + 1, eN 20 ((grun c (hv_cp l1 L0 c, hv_cp (fun j => 2 ^ pc_ (l1 j)) Z0 c, 0, les, oth, 0) (c - 1)).1)), (a + 2, eN 20 ((grun c (hv_cp l1 L0 c, hv_cp (fun j => 2 ^ pc_ (l1 j)) Z0 c, 0, les, oth, 0) (c - 1)).2.1)), (a + 3, eN 10 ((grun c (hv_cp l1 L0 c, hv_cp (fun j => 2 ^ pc_ (l1 j)) Z0 c, 0, les, oth, 0) (c - 1)).2.2.2.1)), (a + 4, eN 10 ((grun c (hv_cp l1 L0 c, hv_cp (fun j => 2 ^ pc_ (l1 j)) Z0 c, 0, les, oth, 0) (c - 1)).2.2.2.2.1)), (b, eN 10 l1)] ∧ n' = nx)) := by
  have lp : ∀ (k i : Nat), k = (c - 1) - i → i ≤ (c - 1) → hv_V l D M_G_joinAll (fun _ _ => True) (hv_rm 2 48 0 0) (hv_ans none (fun h' n' => h' = hv_ov h [(a, oG a (nI (grun c (hv_cp l1 L0 c, hv_cp (fun j => 2 ^ pc_ (l1 j)) Z0 c, 0, les, oth, 0) (c - 1)).2.2.1) (nI (grun c (hv_cp l1 L0 c, hv_cp (fun j => 2 ^ pc_ (l1 j)) Z0 c, 0, les, oth, 0) (c - 1)).2.2.2.2.2)), (a + 1, eN 20 ((grun c (hv_cp l1 L0 c, hv_cp (fun j => 2 ^ pc_ (l1 j)) Z0 c, 0, les, oth, 0) (c - 1)).1)), (a + 2, eN 20 ((grun c (hv_cp l1 L0 c, hv_cp (fun j => 2 ^ pc_ (l1 j)) Z0 c, 0, les, oth, 0) (c - 1)).2.1)), (a + 3, eN 10 ((grun c (hv_cp l1 L0 c, hv_cp (fun j => 2 ^ pc_ (l1 j)) Z0 c, 0, les, oth, 0) (c - 1)).2.2.2.1)), (a + 4, eN 10 ((grun c (hv_cp l1 L0 c, hv_cp (fun j => 2 ^ pc_ (l1 j)) Z0 c, 0, les, oth, 0) (c - 1)).2.2.2.2.1)), (b, eN 10 l1)] ∧ n' = nx)) 0 0 (hv_ov h [(a, oG a (nI (grun c (hv_cp l1 L0 c, hv_cp (fun j => 2 ^ pc_ (l1 j)) Z0 c, 0, les, oth, 0) i).2.2.1) (nI (grun c (hv_cp l1 L0 c, hv_cp (fun j => 2 ^ pc_ (l1 j)) Z0 c, 0, les, oth, 0) i).2.2.2.2.2)), (a + 1, eN 20 ((grun c (hv_cp l1 L0 c, hv_cp (fun j => 2 ^ pc_ (l1 j)) Z0 c, 0, les, oth, 0) i).1)), (a + 2, eN 20 ((grun c (hv_cp l1 L0 c, hv_cp (fun j => 2 ^ pc_ (l1 j)) Z0 c, 0, les, oth, 0) i).2.1)), (a + 3, eN 10 ((grun c (hv_cp l1 L0 c, hv_cp (fun j => 2 ^ pc_ (l1 j)) Z0 c, 0, les, oth, 0) i).2.2.2.1)), (a + 4, eN 10 ((grun c (hv_cp l1 L0 c, hv_cp (fun j => 2 ^ pc_ (l1 j)) Z0 c, 0, les, oth, 0) i).2.2.2.2.1)), (b, eN 10 l1)]) nx 33 [some (.ref a), some (.ref b), some (.int (nI c)), some (.int (nI i)), none, none] [] := by
    intro k
    induction k using Nat.strongRecOn with
    | ind k ih =>
      intro i hk hi
      refine V_iload_n d_G_joinAll_33 rfl ?_
      refine V_iload_n d_G_joinAll_34 rfl ?_
      refine V_iconst (nI 1) d_G_joinAll_35 rfl ?_
      refine V_isubN d_G_joinAll_36 (by omega) ?_
      refine V_icmp_geN 139 d_G_joinAll_37 (by decide) (by omega) (by omega) (fun c2 => ?_) (fun c2 => ?_)
      · exact V_return d_G_joinAll_139 rfl ⟨rfl, by rw [show i = c - 1 by omega], rfl⟩
      · have G := gok_r (gok_0 (L0 := L0) (Z0 := Z0) (les := les) (oth := oth) hl1) i (by omega)
        obtain ⟨p, q, hc, hpq, hq, gp, gq⟩ := gok_ch G (by omega)
        have Lp := (G.2.2 p (by omega)).1
        have Lq := (G.2.2 q (by omega)).1
        have hgl : (grun c (hv_cp l1 L0 c, hv_cp (fun j => 2 ^ pc_ (l1 j)) Z0 c, 0, les, oth, 0) i).2.2.1 < 2 ^ 31 := Nat.lt_of_lt_of_le G.2.1 (Nat.pow_le_pow_right (by decide) (by omega))
        have ES : grun c (hv_cp l1 L0 c, hv_cp (fun j => 2 ^ pc_ (l1 j)) Z0 c, 0, les, oth, 0) (i + 1) = gtu c (grun c (hv_cp l1 L0 c, hv_cp (fun j => 2 ^ pc_ (l1 j)) Z0 c, 0, les, oth, 0) i) i := rfl
        unfold gtu at ES
        rw [hc] at ES
        generalize grun c (hv_cp l1 L0 c, hv_cp (fun j => 2 ^ pc_ (l1 j)) Z0 c, 0, les, oth, 0) i = s at G hc gp gq Lp Lq hgl ES ⊢
        refine V_aload_n d_G_joinAll_40 rfl ?_
        refine V_iload_n d_G_joinAll_41 rfl ?_
        refine V_iload_n d_G_joinAll_42 rfl ?_
        refine V_iload_n d_G_joinAll_43 rfl ?_
        refine V_iaddN d_G_joinAll_44 ?_
        refine V_callV0 d_G_joinAll_45 ml_G_35 mB_G_choose mi_G_choose mv_G_choose rfl og_0 (c_G_choose l D _ _ og_0 (og_1 (by omega)) (og_2 (by omega) (by omega)) (og_3 (by omega) (by omega) (by omega)) (og_4 (by omega) (by omega) (by omega) (by omega)) hgl (by omega) (by omega) (fun i hi => (G.2.2 i hi).1) (fun i hi => (G.2.2 i hi).2)) rfl rfl rfl rfl rfl rfl rfl ?_
        rintro _ _ ⟨rfl, rfl⟩
        rw [ox_5, ou_4 (by omega) (by omega) (by omega) (by omega), ou_3 (by omega) (by omega) (by omega), ou_2 (by omega) (by omega), ou_1 (by omega), ou_0, hc]
        refine V_aload_n d_G_joinAll_48 rfl ?_
        refine V_getfield d_G_joinAll_49 fl_G_18 (og_0) rfl ?_
        refine V_iload_n d_G_joinAll_52 rfl ?_
        refine V_iaload d_G_joinAll_53 (og_3 (by omega) (by omega) (by omega)) ⟨rfl, by omega, by decide⟩ ?_
        refine V_eqI (y := nI p) (by simp [lesS, va_up]) ?_
        refine V_istore_4 d_G_joinAll_54 rfl ?_
        refine V_aload_n d_G_joinAll_56 rfl ?_
        refine V_getfield d_G_joinAll_57 fl_G_21 (og_0) rfl ?_
        refine V_iload_n d_G_joinAll_60 rfl ?_
        refine V_iaload d_G_joinAll_61 (og_4 (by omega) (by omega) (by omega) (by omega)) ⟨rfl, by omega, by decide⟩ ?_
        refine V_eqI (y := nI q) (by simp [othS, va_up]) ?_
        refine V_istore_5 d_G_joinAll_62 rfl ?_
        refine V_aload_n d_G_joinAll_64 rfl ?_
        refine V_dup d_G_joinAll_65 rfl ?_
        refine V_getfield d_G_joinAll_66 fl_G_28 (og_0) rfl ?_
        refine V_iconst (nI 1) d_G_joinAll_69 rfl ?_
        refine V_aload_n d_G_joinAll_70 rfl ?_
        refine V_getfield d_G_joinAll_71 fl_G_9 (og_0) rfl ?_
        refine V_iload d_G_joinAll_74 rfl ?_
        refine V_iaload d_G_joinAll_76 (og_1 (by omega)) ⟨rfl, by omega, by decide⟩ ?_
        refine V_aload_n d_G_joinAll_77 rfl ?_
        refine V_getfield d_G_joinAll_78 fl_G_9 (og_0) rfl ?_
        refine V_iload d_G_joinAll_81 rfl ?_
        refine V_iaload d_G_joinAll_83 (og_1 (by omega)) ⟨rfl, by omega, by decide⟩ ?_
        refine V_iorN d_G_joinAll_84 ?_
        refine V_callS1 d_G_joinAll_85 ml_G_38 mB_JI_bitCount ms_JI_bitCount (c_bitCount l D _ _ (Nat.lt_of_lt_of_le (Nat.or_lt_two_pow Lp Lq) (by decide))) rfl rfl rfl rfl rfl rfl rfl ?_
        rintro _ _ ⟨rfl, rfl⟩
        refine V_ishlN d_G_joinAll_88 (by have := pc_le (Nat.or_lt_two_pow Lp Lq); omega) ?_
        rw [Nat.one_mul]
        refine V_iaddN d_G_joinAll_89 ?_
        refine V_put (e' := oG a (nI s.2.2.1) (nI (s.2.2.2.2.2 + 2 ^ pc_ (s.1 p ||| s.1 q)))) d_G_joinAll_90 fp_G_28 (og_0) rfl rfl rfl rfl (ou_0) ?_
        refine V_aload_n d_G_joinAll_93 rfl ?_
        refine V_iload_n d_G_joinAll_94 rfl ?_
        refine V_iload_n d_G_joinAll_95 rfl ?_
        refine V_iaddN d_G_joinAll_96 ?_
        refine V_aload_n d_G_joinAll_97 rfl ?_
        refine V_getfield d_G_joinAll_98 fl_G_9 (og_0) rfl ?_
        refine V_iload d_G_joinAll_101 rfl ?_
        refine V_iaload d_G_joinAll_103 (og_1 (by omega)) ⟨rfl, by omega, by decide⟩ ?_
        refine V_aload_n d_G_joinAll_104 rfl ?_
        refine V_getfield d_G_joinAll_105 fl_G_9 (og_0) rfl ?_
        refine V_iload d_G_joinAll_108 rfl ?_
        refine V_iaload d_G_joinAll_110 (og_1 (by omega)) ⟨rfl, by omega, by decide⟩ ?_
        refine V_ixorN d_G_joinAll_111 ?_
        refine V_callV0 d_G_joinAll_112 ml_G_31 mB_G_addThing mi_G_addThing mv_G_addThing rfl og_0 (c_G_addThing l D _ _ og_0 (og_1 (by omega)) (og_2 (by omega) (by omega)) (by omega) (Nat.xor_lt_two_pow Lp Lq)) rfl rfl rfl rfl rfl rfl rfl ?_
        rintro _ _ ⟨rfl, rfl⟩
        rw [ox_3, ou_2 (by omega) (by omega), ou_1 (by omega), ou_0]
        refine V_aload_n d_G_joinAll_115 rfl ?_
        refine V_dup d_G_joinAll_116 rfl ?_
        refine V_getfield d_G_joinAll_117 fl_G_24 (og_0) rfl ?_
        refine V_iconst (nI 1) d_G_joinAll_120 rfl ?_
        refine V_iload d_G_joinAll_121 rfl ?_
        refine V_ishlN d_G_joinAll_123 (by omega) ?_
        refine V_iconst (nI 1) d_G_joinAll_124 rfl ?_
        refine V_iload d_G_joinAll_125 rfl ?_
        refine V_ishlN d_G_joinAll_127 (by omega) ?_
        rw [Nat.one_mul, Nat.one_mul]
        refine V_iorN d_G_joinAll_128 ?_
        refine V_iorN d_G_joinAll_129 ?_
        refine V_put (e' := oG a (nI (s.2.2.1 ||| (2 ^ p ||| 2 ^ q))) (nI (s.2.2.2.2.2 + 2 ^ pc_ (s.1 p ||| s.1 q)))) d_G_joinAll_130 fp_G_24 (og_0) rfl rfl rfl rfl (ou_0) ?_
        refine V_iincN_3 1 d_G_joinAll_133 rfl rfl ?_
        refine V_goto 33 d_G_joinAll_136 (by decide) ?_
        have J := ih (c - 1 - (i + 1)) (by omega) (i + 1) rfl (by omega)
        rw [ES] at J
        refine V_drop_4 ?_
        refine V_drop_5 ?_
        exact J
  have lp1 : ∀ (k i : Nat), k = c - i → i ≤ c → hv_V l D M_G_joinAll (fun _ _ => True) (hv_rm 2 48 0 0) (hv_ans none (fun h' n' => h' = hv_ov h [(a, oG a (nI (grun c (hv_cp l1 L0 c, hv_cp (fun j => 2 ^ pc_ (l1 j)) Z0 c, 0, les, oth, 0) (c - 1)).2.2.1) (nI (grun c (hv_cp l1 L0 c, hv_cp (fun j => 2 ^ pc_ (l1 j)) Z0 c, 0, les, oth, 0) (c - 1)).2.2.2.2.2)), (a + 1, eN 20 ((grun c (hv_cp l1 L0 c, hv_cp (fun j => 2 ^ pc_ (l1 j)) Z0 c, 0, les, oth, 0) (c - 1)).1)), (a + 2, eN 20 ((grun c (hv_cp l1 L0 c, hv_cp (fun j => 2 ^ pc_ (l1 j)) Z0 c, 0, les, oth, 0) (c - 1)).2.1)), (a + 3, eN 10 ((grun c (hv_cp l1 L0 c, hv_cp (fun j => 2 ^ pc_ (l1 j)) Z0 c, 0, les, oth, 0) (c - 1)).2.2.2.1)), (a + 4, eN 10 ((grun c (hv_cp l1 L0 c, hv_cp (fun j => 2 ^ pc_ (l1 j)) Z0 c, 0, les, oth, 0) (c - 1)).2.2.2.2.1)), (b, eN 10 l1)] ∧ n' = nx)) 0 0 (hv_ov h [(a, oG a (nI 0) (nI 0)), (a + 1, eN 20 (hv_cp l1 L0 i)), (a + 2, eN 20 (hv_cp (fun j => 2 ^ pc_ (l1 j)) Z0 i)), (a + 3, eN 10 (les)), (a + 4, eN 10 (oth)), (b, eN 10 l1)]) nx 12 [some (.ref a), some (.ref b), some (.int (nI c)), some (.int (nI i)), none, none] [] := by
    intro k
    induction k using Nat.strongRecOn with
    | ind k ih =>
      intro i hk hi
      refine V_iload_n d_G_joinAll_12 rfl ?_
      refine V_iload_n d_G_joinAll_13 rfl ?_
      refine V_icmp_geN 31 d_G_joinAll_14 (by decide) (by omega) (by omega) (fun c1 => ?_) (fun c1 => ?_)
      · have ec : i = c := by omega
        subst ec
        refine V_iconst (nI 0) d_G_joinAll_31 rfl ?_
        refine V_istore_3 d_G_joinAll_32 rfl ?_
        exact lp _ 0 rfl (Nat.zero_le _)
      · refine V_aload_n d_G_joinAll_17 rfl ?_
        refine V_iload_n d_G_joinAll_18 rfl ?_
        refine V_aload_n d_G_joinAll_19 rfl ?_
        refine V_iload_n d_G_joinAll_20 rfl ?_
        refine V_iaload d_G_joinAll_21 (og_5 (by omega) (by omega) (by omega) (by omega) (by omega)) ⟨rfl, by omega, by decide⟩ ?_
        refine V_callV0 d_G_joinAll_22 ml_G_31 mB_G_addThing mi_G_addThing mv_G_addThing rfl og_0 (c_G_addThing l D _ _ og_0 (og_1 (by omega)) (og_2 (by omega) (by omega)) (by omega) (hl1 i (by omega))) rfl rfl rfl rfl rfl rfl rfl ?_
        rintro _ _ ⟨rfl, rfl⟩
        rw [ox_3, ou_2 (by omega) (by omega), ou_1 (by omega), ou_0, hv_cp_s, hv_cp_s (f := fun j => 2 ^ pc_ (l1 j))]
        refine V_iincN_3 1 d_G_joinAll_25 rfl rfl ?_
        refine V_goto 12 d_G_joinAll_28 (by decide) ?_
        exact ih (c - (i + 1)) (by omega) (i + 1) rfl (by omega)
  refine hv_N.of' [some (.ref a), some (.ref b), some (.int (nI c)), none, none, none] (by decide +kernel) rfl rfl rfl ?_
  refine V_eqH (ob_6 ha hL hZ hles hoth hb) ?_
  refine V_aload_n d_G_joinAll_0 rfl ?_
  refine V_iconst (nI 0) d_G_joinAll_1 rfl ?_
  refine V_put (e' := oG a (nI 0) ac0) d_G_joinAll_2 fp_G_24 (og_0) rfl rfl rfl rfl (ou_0) ?_
  refine V_aload_n d_G_joinAll_5 rfl ?_
  refine V_iconst (nI 0) d_G_joinAll_6 rfl ?_
  refine V_put (e' := oG a (nI 0) (nI 0)) d_G_joinAll_7 fp_G_28 (og_0) rfl rfl rfl rfl (ou_0) ?_
  refine V_iconst (nI 0) d_G_joinAll_10 rfl ?_
  refine V_istore_3 d_G_joinAll_11 rfl ?_
  have J := lp1 _ 0 rfl (Nat.zero_le _)
  rw [hv_cp_0, hv_cp_0] at J
  exact J
