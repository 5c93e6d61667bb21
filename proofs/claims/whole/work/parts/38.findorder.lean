-- THE CLASS: findOrder
set_option maxRecDepth 100000 in
set_option maxHeartbeats 4000000 in
theorem c_N_findOrder (l : Launch) (D : hv_D) (h : hv_P) (nx : Nat) {b oa c cu : Nat} {ap z wk lk ac ml gn0 gac0 : Int32} {pl lg lg0 co0 fi0 md0 wt0 l0 GL GZ gles goth : Nat → Nat} (hb : h b = some (oN b (nI c) ap z wk lk)) (hts : h (b + 1) = some (eQ 2 10 (fun i => some (b + 2 + 4 * i)))) (hT : ∀ i, i < 10 → h (b + 2 + 4 * i) = some (oT (b + 2 + 4 * i) (nI (pl i)) (nI (lg i)))) (ha : h oa = some (oO oa ac ml)) (hl : h (oa + 1) = some (eN 1024 lg0)) (hco : h (oa + 2) = some (eN 1024 co0)) (hf : h (oa + 3) = some (eN 1024 fi0)) (hm : h (oa + 4) = some (eN 10 md0)) (hw : h (oa + 5) = some (eN 11 wt0)) (hl0 : h (b + 43) = some (eN 10 l0)) (hg : h (b + 57) = some (oG (b + 57) gn0 gac0)) (hgL : h (b + 58) = some (eN 20 GL)) (hgZ : h (b + 59) = some (eN 20 GZ)) (hgle : h (b + 60) = some (eN 10 gles)) (hgot : h (b + 61) = some (eN 10 goth)) (hoa : oa = b + 45 ∨ oa = b + 51) (hc1 : 1 ≤ c) (hc2 : c ≤ 10) (hlg : ∀ i, i < c → lg i < 2 ^ 20) (hok : fdOk (lg0, co0, fi0)) (hz : lg0 0 = 0) : hv_N l D M_N_findOrder (hv_rm 3 82 0 0) [.ref b, .ref oa, .int (nI cu)] h nx (hv_ans none (fun h' n' => n' = nx ∧ ∃ (lg' co' fi' md' wt' l1' gL' gZ' gle' got' : Nat → Nat) (ac' ml' : Nat) (gn' gac' : Int32), h' = hv_ov h [(oa, oO oa (nI ac') (nI ml')), (oa + 1, eN 1024 (lg')), (oa + 2, eN 1024 (co')), (oa + 3, eN 1024 (fi')), (oa + 4, eN 10 (md')), (oa + 5, eN 11 (wt')), (b + 43, eN 10 (l1')), (b + 57, oG (b + 57) (gn') (gac')), (b + 58, eN 20 (gL')), (b + 59, eN 20 (gZ')), (b + 60, eN 10 (gle')), (b + 61, eN 10 (got'))] ∧ (∀ j, j < c → l1' j = anN (lg j) cu) ∧ ordOK l1' c lg' co' fi' md' ac' ml' ∧ fdOk (lg', co', fi') ∧ lg' 0 = 0)) := by
  have hL : ∀ t, t < c → (hv_cp (fun j => anN (lg j) cu) l0 c) t < 2 ^ 20 := fun t ht => by simp only [hv_cp]; rw [if_pos ht]; exact anN_lt (hlg t ht)
  refine hv_N.of' [some (.ref b), some (.ref oa), some (.int (nI cu))] (by decide +kernel) rfl rfl rfl ?_
  refine V_eqH (ob_12 ha hl hco hf hm hw hl0 hg hgL hgZ hgle hgot) ?_
  refine V_aload_n d_N_findOrder_0 rfl ?_
  refine V_iload_n d_N_findOrder_1 rfl ?_
  refine V_callV0 d_N_findOrder_2 ml_N_144 mB_N_takeLegs mi_N_takeLegs mv_N_takeLegs rfl (oa_12 hb (by omega) (by omega) (by omega) (by omega) (by omega) (by omega) (by omega) (by omega) (by omega) (by omega) (by omega) (by omega)) (c_N_takeLegs l D _ _ (oa_12 hb (by omega) (by omega) (by omega) (by omega) (by omega) (by omega) (by omega) (by omega) (by omega) (by omega) (by omega) (by omega)) (oa_12 hts (by omega) (by omega) (by omega) (by omega) (by omega) (by omega) (by omega) (by omega) (by omega) (by omega) (by omega) (by omega)) (fun i hi => oa_12 (hT i hi) (by omega) (by omega) (by omega) (by omega) (by omega) (by omega) (by omega) (by omega) (by omega) (by omega) (by omega) (by omega)) (og_6 (by omega) (by omega) (by omega) (by omega) (by omega) (by omega)) hc2) rfl rfl rfl rfl rfl rfl rfl ?_
  rintro _ _ ⟨rfl, rfl⟩
  rw [ox_1, ou_6 (by omega) (by omega) (by omega) (by omega) (by omega) (by omega)]
  refine V_aload_n d_N_findOrder_5 rfl ?_
  refine V_getfield d_N_findOrder_6 fl_N_39 (oa_12 hb (by omega) (by omega) (by omega) (by omega) (by omega) (by omega) (by omega) (by omega) (by omega) (by omega) (by omega) (by omega)) rfl ?_
  refine V_aload_n d_N_findOrder_9 rfl ?_
  refine V_getfield d_N_findOrder_10 fl_N_20 (oa_12 hb (by omega) (by omega) (by omega) (by omega) (by omega) (by omega) (by omega) (by omega) (by omega) (by omega) (by omega) (by omega)) rfl ?_
  refine V_aload_n d_N_findOrder_13 rfl ?_
  refine V_getfield d_N_findOrder_14 fl_N_53 (oa_12 hb (by omega) (by omega) (by omega) (by omega) (by omega) (by omega) (by omega) (by omega) (by omega) (by omega) (by omega) (by omega)) rfl ?_
  refine V_callV0 d_N_findOrder_17 ml_N_147 mB_G_joinAll mi_G_joinAll mv_G_joinAll rfl (og_7 (by omega) (by omega) (by omega) (by omega) (by omega) (by omega) (by omega)) (c_G_joinAll l D _ _ (og_7 (by omega) (by omega) (by omega) (by omega) (by omega) (by omega) (by omega)) (og_8 (by omega) (by omega) (by omega) (by omega) (by omega) (by omega) (by omega) (by omega)) (og_9 (by omega) (by omega) (by omega) (by omega) (by omega) (by omega) (by omega) (by omega) (by omega)) (og_10 (by omega) (by omega) (by omega) (by omega) (by omega) (by omega) (by omega) (by omega) (by omega) (by omega)) (og_11 (by omega) (by omega) (by omega) (by omega) (by omega) (by omega) (by omega) (by omega) (by omega) (by omega) (by omega)) (og_6 (by omega) (by omega) (by omega) (by omega) (by omega) (by omega)) (by omega) hc1 hc2 hL) rfl rfl rfl rfl rfl rfl rfl ?_
  rintro _ _ ⟨rfl, rfl⟩
  rw [ox_6, ou_6 (by omega) (by omega) (by omega) (by omega) (by omega) (by omega), ou_11 (by omega) (by omega) (by omega) (by omega) (by omega) (by omega) (by omega) (by omega) (by omega) (by omega) (by omega), ou_10 (by omega) (by omega) (by omega) (by omega) (by omega) (by omega) (by omega) (by omega) (by omega) (by omega), ou_9 (by omega) (by omega) (by omega) (by omega) (by omega) (by omega) (by omega) (by omega) (by omega), ou_8 (by omega) (by omega) (by omega) (by omega) (by omega) (by omega) (by omega) (by omega), ou_7 (by omega) (by omega) (by omega) (by omega) (by omega) (by omega) (by omega)]
  refine V_aload_n d_N_findOrder_20 rfl ?_
  refine V_aload_n d_N_findOrder_21 rfl ?_
  refine V_getfield d_N_findOrder_22 fl_N_20 (oa_12 hb (by omega) (by omega) (by omega) (by omega) (by omega) (by omega) (by omega) (by omega) (by omega) (by omega) (by omega) (by omega)) rfl ?_
  refine V_aload_n d_N_findOrder_25 rfl ?_
  refine V_getfield d_N_findOrder_26 fl_N_53 (oa_12 hb (by omega) (by omega) (by omega) (by omega) (by omega) (by omega) (by omega) (by omega) (by omega) (by omega) (by omega) (by omega)) rfl ?_
  refine V_aload_n d_N_findOrder_29 rfl ?_
  refine V_getfield d_N_findOrder_30 fl_N_39 (oa_12 hb (by omega) (by omega) (by omega) (by omega) (by omega) (by omega) (by omega) (by omega) (by omega) (by omega) (by omega) (by omega)) rfl ?_
  refine V_getfield d_N_findOrder_33 fl_N_150 (og_7 (by omega) (by omega) (by omega) (by omega) (by omega) (by omega) (by omega)) rfl ?_
  have hge := greedy_ge (L0 := GL) (Z0 := GZ) (les := gles) (oth := goth) hc1 hc2 hL
  have hac := grun_ac (gok_0 (L0 := GL) (Z0 := GZ) (les := gles) (oth := goth) hL) (c - 1) (by omega)
  have hac2 : (grun c (hv_cp (hv_cp (fun j => anN (lg j) cu) l0 c) GL c, hv_cp (fun j => 2 ^ pc_ ((hv_cp (fun j => anN (lg j) cu) l0 c) j)) GZ c, 0, gles, goth, 0) (c - 1)).2.2.2.2.2 < 2 ^ 26 := by
    have e0 : ((grun c (hv_cp (hv_cp (fun j => anN (lg j) cu) l0 c) GL c, hv_cp (fun j => 2 ^ pc_ ((hv_cp (fun j => anN (lg j) cu) l0 c) j)) GZ c, 0, gles, goth, 0) (c - 1)).2.2.2.2.2 ≤ 0 + (c - 1) * 2 ^ 20) := hac
    have : (c - 1) * 2 ^ 20 ≤ 9 * 2 ^ 20 := Nat.mul_le_mul_right _ (by omega)
    omega
  obtain ⟨T1, T2, T3, T4⟩ := find_tree (st0 := (lg0, co0, fi0)) hL hc1 hc2 hac2 hz hge
  generalize (grun c (hv_cp (hv_cp (fun j => anN (lg j) cu) l0 c) GL c, hv_cp (fun j => 2 ^ pc_ ((hv_cp (fun j => anN (lg j) cu) l0 c) j)) GZ c, 0, gles, goth, 0) (c - 1)) = G at hge hac2 T1 T2 T3 T4 ⊢
  refine V_callV0 d_N_findOrder_36 ml_N_187 mB_O_find mi_O_find mv_O_find rfl og_0 (c_O_find l D _ _ og_0 (og_1 (by omega)) (og_2 (by omega) (by omega)) (og_3 (by omega) (by omega) (by omega)) (og_4 (by omega) (by omega) (by omega) (by omega)) (og_5 (by omega) (by omega) (by omega) (by omega) (by omega)) (og_6 (by omega) (by omega) (by omega) (by omega) (by omega) (by omega)) (by omega) hc1 hc2 rfl hac2 hok hL (pc_all c hc2) T1) rfl rfl rfl rfl rfl rfl rfl ?_
  rintro _ _ ⟨rfl, md', wt', rfl, hmd⟩
  rw [ox_7, ou_6 (by omega) (by omega) (by omega) (by omega) (by omega) (by omega), ou_5 (by omega) (by omega) (by omega) (by omega) (by omega), ou_4 (by omega) (by omega) (by omega) (by omega), ou_3 (by omega) (by omega) (by omega), ou_2 (by omega) (by omega), ou_1 (by omega), ou_0]
  rw [T2] at hmd
  exact V_return d_N_findOrder_39 rfl ⟨rfl, rfl, _, _, _, md', wt', _, _, _, _, _, _, _, _, _, rfl, fun j hj => by simp only [hv_cp]; rw [if_pos hj], T4 md' hmd, fdOk_f hok hL hc2 hac2 _ (by have := Nat.two_pow_pos c; omega), T3⟩
