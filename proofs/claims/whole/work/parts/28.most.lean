-- ORDER: the most legs
theorem hv_mxN {a b : Nat} (ha : a < 2 ^ 31) (hb : b < 2 ^ 31) : hv_mx (nI a) (nI b) = nI (max a b) := by
  unfold hv_mx
  by_cases c : a < b
  · rw [if_pos ((nI_ltI ha hb).mpr c), Nat.max_eq_right (by omega)]
  · rw [if_neg (fun q => c ((nI_ltI ha hb).mp q)), Nat.max_eq_left (by omega)]
def mlA (lg : Nat → Nat) : Nat → Nat
  | 0 => 0
  | i + 1 => max (mlA lg i) (pc_ (lg (2 ^ i)))
def mlB (lg md : Nat → Nat) (b : Nat) : Nat → Nat
  | 0 => b
  | i + 1 => max (mlB lg md b i) (pc_ (lg (md i)))
theorem mlA_le {lg : Nat → Nat} (h : ∀ s, s < 1024 → lg s < 2 ^ 20) : ∀ {i : Nat}, i ≤ 10 → mlA lg i ≤ 20
  | 0, _ => by simp [mlA]
  | i + 1, hi => Nat.max_le.mpr ⟨mlA_le h (by omega), pc_le (h _ (Nat.lt_of_lt_of_le (Nat.pow_lt_pow_right (by decide) (show i < 10 by omega)) (by decide)))⟩
theorem mlB_le {lg md : Nat → Nat} {b n : Nat} (h : ∀ s, s < 1024 → lg s < 2 ^ 20) (hb : b ≤ 20) (hm : ∀ i, i < n → md i < 1024) : ∀ {i : Nat}, i ≤ n → mlB lg md b i ≤ 20
  | 0, _ => hb
  | i + 1, hi => Nat.max_le.mpr ⟨mlB_le h hb hm (by omega), pc_le (h _ (hm i (by omega)))⟩
set_option maxRecDepth 100000 in
set_option maxHeartbeats 4000000 in
theorem c_O_findMostLegs (l : Launch) (D : hv_D) (h : hv_P) (nx : Nat) {a c : Nat} {ac ml : Int32} {lg md : Nat → Nat} (ha : h a = some (oO a ac ml)) (hl : h (a + 1) = some (eN 1024 lg)) (hm : h (a + 4) = some (eN 10 md)) (hc1 : 1 ≤ c) (hc2 : c ≤ 10) (hlg : ∀ s, s < 1024 → lg s < 2 ^ 20) (hmd : ∀ i, i < c - 1 → md i < 1024) : hv_N l D M_O_findMostLegs (hv_rm 1 21 0 0) [.ref a, .int (nI c)] h nx (hv_ans none (fun h' n' => h' = hv_ov h [(a, oO a ac (nI (mlB lg md (mlA lg c) (c - 1)))), (a + 1, eN 1024 lg), (a + 4, eN 10 md)] ∧ n' = nx)) := by
  have lp2 : ∀ (k i : Nat), k = (c - 1) - i → i ≤ (c - 1) → hv_V l D M_O_findMostLegs (fun _ _ => True) (hv_rm 1 21 0 0) (hv_ans none (fun h' n' => h' = hv_ov h [(a, oO a ac (nI (mlB lg md (mlA lg c) (c - 1)))), (a + 1, eN 1024 lg), (a + 4, eN 10 md)] ∧ n' = nx)) 0 0 (hv_ov h [(a, oO a ac (nI (mlB lg md (mlA lg c) i))), (a + 1, eN 1024 lg), (a + 4, eN 10 md)]) nx 42 [some (.ref a), some (.int (nI c)), some (.int (nI i))] [] := by
    intro k
    induction k using Nat.strongRecOn with
    | ind k ih =>
      intro i hk hi
      refine V_iload_n d_O_findMostLegs_42 rfl ?_
      refine V_iload_n d_O_findMostLegs_43 rfl ?_
      refine V_iconst (nI 1) d_O_findMostLegs_44 rfl ?_
      refine V_isubN d_O_findMostLegs_45 (by omega) ?_
      refine V_icmp_geN 80 d_O_findMostLegs_46 (by decide) (by omega) (by omega) (fun c2 => ?_) (fun c2 => ?_)
      · exact V_return d_O_findMostLegs_80 rfl ⟨rfl, by rw [show i = c - 1 by omega], rfl⟩
      · have hm := hmd i (by omega)
        have hl := hlg _ hm
        have hb := mlB_le hlg (mlA_le hlg hc2) hmd (i := i) (by omega)
        refine V_aload_n d_O_findMostLegs_49 rfl ?_
        refine V_aload_n d_O_findMostLegs_50 rfl ?_
        refine V_getfield d_O_findMostLegs_51 fl_O_56 (og_0) rfl ?_
        refine V_aload_n d_O_findMostLegs_54 rfl ?_
        refine V_getfield d_O_findMostLegs_55 fl_O_9 (og_0) rfl ?_
        refine V_aload_n d_O_findMostLegs_58 rfl ?_
        refine V_getfield d_O_findMostLegs_59 fl_O_21 (og_0) rfl ?_
        refine V_iload_n d_O_findMostLegs_62 rfl ?_
        refine V_iaload d_O_findMostLegs_63 (og_2 (by omega) (by omega)) ⟨rfl, by omega, by decide⟩ ?_
        refine V_iaload d_O_findMostLegs_64 (og_1 (by omega)) ⟨rfl, hm, by decide⟩ ?_
        refine V_callS1 d_O_findMostLegs_65 ml_O_53 mB_JI_bitCount ms_JI_bitCount (c_bitCount l D _ _ (Nat.lt_of_lt_of_le hl (by decide))) rfl rfl rfl rfl rfl rfl rfl ?_
        rintro _ _ ⟨rfl, rfl⟩
        refine V_callS1 d_O_findMostLegs_68 ml_O_59 mB_JM_max ms_JM_max (c_max l D _ _ _ _) rfl rfl rfl rfl rfl rfl rfl ?_
        rintro _ _ ⟨rfl, rfl⟩
        refine V_eqI (hv_mxN (by omega) (by have := pc_le hl; omega)) ?_
        refine V_put (e' := oO a ac (nI (mlB lg md (mlA lg c) (i + 1)))) d_O_findMostLegs_71 fp_O_56 (og_0) rfl rfl rfl rfl (ou_0) ?_
        refine V_iincN_2 1 d_O_findMostLegs_74 rfl rfl ?_
        refine V_goto 42 d_O_findMostLegs_77 (by decide) ?_
        exact ih (c - 1 - (i + 1)) (by omega) (i + 1) rfl (by omega)
  have lp1 : ∀ (k i : Nat), k = c - i → i ≤ c → hv_V l D M_O_findMostLegs (fun _ _ => True) (hv_rm 1 21 0 0) (hv_ans none (fun h' n' => h' = hv_ov h [(a, oO a ac (nI (mlB lg md (mlA lg c) (c - 1)))), (a + 1, eN 1024 lg), (a + 4, eN 10 md)] ∧ n' = nx)) 0 0 (hv_ov h [(a, oO a ac (nI (mlA lg i))), (a + 1, eN 1024 lg), (a + 4, eN 10 md)]) nx 7 [some (.ref a), some (.int (nI c)), some (.int (nI i))] [] := by
    intro k
    induction k using Nat.strongRecOn with
    | ind k ih =>
      intro i hk hi
      refine V_iload_n d_O_findMostLegs_7 rfl ?_
      refine V_iload_n d_O_findMostLegs_8 rfl ?_
      refine V_icmp_geN 40 d_O_findMostLegs_9 (by decide) (by omega) (by omega) (fun c1 => ?_) (fun c1 => ?_)
      · have ec : i = c := by omega
        subst ec
        refine V_iconst (nI 0) d_O_findMostLegs_40 rfl ?_
        refine V_istore_2 d_O_findMostLegs_41 rfl ?_
        exact lp2 _ 0 rfl (Nat.zero_le _)
      · have hl := hlg (1 * 2 ^ i) (by rw [Nat.one_mul]; exact (Nat.lt_of_lt_of_le (Nat.pow_lt_pow_right (by decide) (show i < 10 by omega)) (by decide)))
        have hb := mlA_le hlg (i := i) (by omega)
        refine V_aload_n d_O_findMostLegs_12 rfl ?_
        refine V_aload_n d_O_findMostLegs_13 rfl ?_
        refine V_getfield d_O_findMostLegs_14 fl_O_56 (og_0) rfl ?_
        refine V_aload_n d_O_findMostLegs_17 rfl ?_
        refine V_getfield d_O_findMostLegs_18 fl_O_9 (og_0) rfl ?_
        refine V_iconst (nI 1) d_O_findMostLegs_21 rfl ?_
        refine V_iload_n d_O_findMostLegs_22 rfl ?_
        refine V_ishlN d_O_findMostLegs_23 (by omega) ?_
        refine V_iaload d_O_findMostLegs_24 (og_1 (by omega)) ⟨rfl, by rw [Nat.one_mul]; exact (Nat.lt_of_lt_of_le (Nat.pow_lt_pow_right (by decide) (show i < 10 by omega)) (by decide)), by decide⟩ ?_
        refine V_callS1 d_O_findMostLegs_25 ml_O_53 mB_JI_bitCount ms_JI_bitCount (c_bitCount l D _ _ (Nat.lt_of_lt_of_le hl (by decide))) rfl rfl rfl rfl rfl rfl rfl ?_
        rintro _ _ ⟨rfl, rfl⟩
        refine V_callS1 d_O_findMostLegs_28 ml_O_59 mB_JM_max ms_JM_max (c_max l D _ _ _ _) rfl rfl rfl rfl rfl rfl rfl ?_
        rintro _ _ ⟨rfl, rfl⟩
        refine V_eqI (hv_mxN (by omega) (by have := pc_le hl; omega)) ?_
        rw [Nat.one_mul]
        refine V_put (e' := oO a ac (nI (mlA lg (i + 1)))) d_O_findMostLegs_31 fp_O_56 (og_0) rfl rfl rfl rfl (ou_0) ?_
        refine V_iincN_2 1 d_O_findMostLegs_34 rfl rfl ?_
        refine V_goto 7 d_O_findMostLegs_37 (by decide) ?_
        exact ih (c - (i + 1)) (by omega) (i + 1) rfl (by omega)
  refine hv_N.of' [some (.ref a), some (.int (nI c)), none] (by decide +kernel) rfl rfl rfl ?_
  refine V_eqH (ob_3 ha hl hm) ?_
  refine V_aload_n d_O_findMostLegs_0 rfl ?_
  refine V_iconst (nI 0) d_O_findMostLegs_1 rfl ?_
  refine V_put (e' := oO a ac (nI 0)) d_O_findMostLegs_2 fp_O_56 (og_0) rfl rfl rfl rfl (ou_0) ?_
  refine V_iconst (nI 0) d_O_findMostLegs_5 rfl ?_
  refine V_istore_2 d_O_findMostLegs_6 rfl ?_
  exact lp1 _ 0 rfl (Nat.zero_le _)
