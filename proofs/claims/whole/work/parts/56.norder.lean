-- THE CLASS: orders, and what asks for them
theorem lc_of {l1 lg : Nat → Nat} {pl : Nat → Nat} {la : Nat → Option Nat} {c cu : Nat} {lg' co' fi' md' : Nat → Nat} {ac ml : Nat} (hc1 : 1 ≤ c) (hc : c ≤ 10) (h : ∀ j, j < c → l1 j = anN (LE pl la j) cu) (q : ordOK l1 c lg' co' fi' md' ac ml) : ordOK (LC pl la cu) c lg' co' fi' md' ac ml := ordOK_congr hc1 hc (fun t ht => h t ht) q
set_option maxRecDepth 100000 in
set_option maxHeartbeats 4000000 in
theorem c_N_orderOfAll (l : Launch) (D : hv_D) (h : hv_P) (nx : Nat) {b c n : Nat} {wk : Int32} {pl : Nat → Nat} {la : Nat → Option Nat} {re im : Nat → Int32} (hS : nS h b wk c pl la re im n) (hr : netOK c pl la → RDY c pl la = true) : hv_N l D M_N_orderOfAll (hv_rm 4 104 0 0) [.ref b] h nx (hv_ans (some (.ref (b + 45))) (fun h' n' => n' = nx ∧ nFr b h h' ∧ (∃ wk', ¬ wk' = 0 ∧ nS h' b wk' c pl la re im n) ∧ oS h' (b + 45) (LC pl la 0) c True)) := by
  refine hv_N.of' [some (.ref b)] (by decide +kernel) rfl rfl rfl ?_
  obtain ⟨lk, cu, u, l0, cp, hb, hT, hu, hu2, hl0, hcp, hcpk, hW, hL, hlk, hG, hC, hN⟩ := hS
  have hc1 := RDY_c (hr hN)
  refine V_aload_n d_N_orderOfAll_0 rfl ?_
  refine V_getfield d_N_orderOfAll_1 fl_N_180 hb rfl ?_
  refine V_if_ne 21 d_N_orderOfAll_4 (by decide) (fun c4 => ?_) (fun c4 => ?_)
  · refine V_aload_n d_N_orderOfAll_21 rfl ?_
    refine V_getfield d_N_orderOfAll_22 fl_N_29 hb rfl ?_
    exact V_areturn d_N_orderOfAll_25 rfl ⟨rfl, rfl, fun q x => rfl, ⟨wk, c4, lk, cu, u, l0, cp, hb, hT, hu, hu2, hl0, hcp, hcpk, hW, hL, hlk, hG, hC, hN⟩, by obtain ⟨x1, x2, x3, x4, x5, x6, x7, y0, y1, y2, y3, y4, y5, y6, y7, y8⟩ := hW; exact ⟨x1, x2, x3, x4, x5, x6, x7, y0, y1, y2, y3, y4, y5, y6, y7, fun _ => y8 ⟨hc1, c4⟩⟩⟩
  · have hW0 := hW
    obtain ⟨acW, mlW, lgW, coW, fiW, mdW, wtW, w0, w1, w2, w3, w4, w5, w6, w7, w8⟩ := hW
    obtain ⟨gn0, gac0, gL0, gZ0, gle0, got0, g0, g1, g2, g3, g4⟩ := hG
    refine V_aload_n d_N_orderOfAll_7 rfl ?_
    refine V_aload_n d_N_orderOfAll_8 rfl ?_
    refine V_getfield d_N_orderOfAll_9 fl_N_29 hb rfl ?_
    refine V_iconst (nI 0) d_N_orderOfAll_12 rfl ?_
    refine V_callV0 d_N_orderOfAll_13 ml_N_191 mB_N_findOrder mi_N_findOrder mv_N_findOrder rfl hb (c_N_findOrder l D _ _ (oa := b + 45) (lg := LE pl la) hb hT.1 hT.2.1 w0 w1 w2 w3 w4 w5 hl0 g0 g1 g2 g3 g4 (by omega) hc1 hN.1 (fun i hi => LE_lt hN hi) w6 w7) rfl rfl rfl rfl rfl rfl rfl ?_
    rintro _ _ ⟨rfl, lg', co', fi', md', wt', l1', gL', gZ', gle', got', ac', ml', gn', gac', rfl, hl1, hord, hfd, hz'⟩
    have hord := lc_of (lg := l1') hc1 hN.1 hl1 hord
    refine V_aload_n d_N_orderOfAll_16 rfl ?_
    refine V_iconst (1) d_N_orderOfAll_17 rfl ?_
    refine V_put (e' := oN b (nI c) (nI (ctT (fun _ => 1) pl la c)) (nI (BR c pl la)) 1 lk) d_N_orderOfAll_18 fp_N_180 (oa_12 hb (by omega) (by omega) (by omega) (by omega) (by omega) (by omega) (by omega) (by omega) (by omega) (by omega) (by omega) (by omega)) rfl rfl rfl rfl rfl ?_
    refine V_aload_n d_N_orderOfAll_21 rfl ?_
    refine V_getfield d_N_orderOfAll_22 fl_N_29 hv_up_s rfl ?_
    exact V_areturn d_N_orderOfAll_25 rfl ⟨rfl, rfl, fun q x => oz_13 (by omega) (by omega) (by omega) (by omega) (by omega) (by omega) (by omega) (by omega) (by omega) (by omega) (by omega) (by omega) (by omega), ⟨1, by decide, ⟨lk, cu, u, l1', cp, og_0, (hT.fr (fun q x y => oz_13 (by omega) (by omega) (by omega) (by omega) (by omega) (by omega) (by omega) (by omega) (by omega) (by omega) (by omega) (by omega) (by omega))), (oa_13 hu (by omega) (by omega) (by omega) (by omega) (by omega) (by omega) (by omega) (by omega) (by omega) (by omega) (by omega) (by omega) (by omega)), hu2, (og_7 (by omega) (by omega) (by omega) (by omega) (by omega) (by omega) (by omega)), (oa_13 hcp (by omega) (by omega) (by omega) (by omega) (by omega) (by omega) (by omega) (by omega) (by omega) (by omega) (by omega) (by omega) (by omega)), hcpk, ⟨ac', ml', lg', co', fi', md', wt', (og_1 (by omega)), (og_2 (by omega) (by omega)), (og_3 (by omega) (by omega) (by omega)), (og_4 (by omega) (by omega) (by omega) (by omega)), (og_5 (by omega) (by omega) (by omega) (by omega) (by omega)), (og_6 (by omega) (by omega) (by omega) (by omega) (by omega) (by omega)), hfd, hz', fun _ => hord⟩, (hL.fr (fun q x y => oz_13 (by omega) (by omega) (by omega) (by omega) (by omega) (by omega) (by omega) (by omega) (by omega) (by omega) (by omega) (by omega) (by omega))), hlk, ⟨_, _, _, _, _, _, (og_8 (by omega) (by omega) (by omega) (by omega) (by omega) (by omega) (by omega) (by omega)), (og_9 (by omega) (by omega) (by omega) (by omega) (by omega) (by omega) (by omega) (by omega) (by omega)), (og_10 (by omega) (by omega) (by omega) (by omega) (by omega) (by omega) (by omega) (by omega) (by omega) (by omega)), (og_11 (by omega) (by omega) (by omega) (by omega) (by omega) (by omega) (by omega) (by omega) (by omega) (by omega) (by omega)), (og_12 (by omega) (by omega) (by omega) (by omega) (by omega) (by omega) (by omega) (by omega) (by omega) (by omega) (by omega) (by omega))⟩, (hC.fr (fun q x => oz_13 (by omega) (by omega) (by omega) (by omega) (by omega) (by omega) (by omega) (by omega) (by omega) (by omega) (by omega) (by omega) (by omega))), hN⟩⟩, ⟨ac', ml', lg', co', fi', md', wt', (og_1 (by omega)), (og_2 (by omega) (by omega)), (og_3 (by omega) (by omega) (by omega)), (og_4 (by omega) (by omega) (by omega) (by omega)), (og_5 (by omega) (by omega) (by omega) (by omega) (by omega)), (og_6 (by omega) (by omega) (by omega) (by omega) (by omega) (by omega)), hfd, hz', fun _ => hord⟩⟩

set_option maxRecDepth 100000 in
set_option maxHeartbeats 4000000 in
theorem c_N_orderWhenCut (l : Launch) (D : hv_D) (h : hv_P) (nx : Nat) {b c n : Nat} {wk : Int32} {pl : Nat → Nat} {la : Nat → Option Nat} {re im : Nat → Int32} (hS : nS h b wk c pl la re im n) {x : Nat} (hr : netOK c pl la → RDY c pl la = true) (hx : x < 2 ^ 31) : hv_N l D M_N_orderWhenCut (hv_rm 4 104 0 0) [.ref b, .int (nI x)] h nx (hv_ans (some (.ref (b + 51))) (fun h' n' => n' = nx ∧ nFr b h h' ∧ nS h' b wk c pl la re im n ∧ oS h' (b + 51) (LC pl la x) c True)) := by
  refine hv_N.of' [some (.ref b), some (.int (nI x))] (by decide +kernel) rfl rfl rfl ?_
  obtain ⟨lk, cu, u, l0, cp, hb, hT, hu, hu2, hl0, hcp, hcpk, hW, hL, hlk, hG, hC, hN⟩ := hS
  have hc1 := RDY_c (hr hN)
  refine V_aload_n d_N_orderWhenCut_0 rfl ?_
  refine V_getfield d_N_orderWhenCut_1 fl_N_184 hb rfl ?_
  refine V_iload_n d_N_orderWhenCut_4 rfl ?_
  refine V_icmp_eq 22 d_N_orderWhenCut_5 (by decide) (fun c5 => ?_) (fun c5 => ?_)
  · refine V_aload_n d_N_orderWhenCut_22 rfl ?_
    refine V_getfield d_N_orderWhenCut_23 fl_N_33 hb rfl ?_
    exact V_areturn d_N_orderWhenCut_26 rfl ⟨rfl, rfl, fun q y => rfl, ⟨lk, cu, u, l0, cp, hb, hT, hu, hu2, hl0, hcp, hcpk, hW, hL, hlk, hG, hC, hN⟩, by
      have hne : ¬ lk = -1 := by rw [c5]; exact nI_m1 hx
      have ecu : cu = x := by
        rcases hlk with q | ⟨q1, q2⟩
        · exact absurd q hne
        · rw [q1] at c5; exact (nI_eq q2 hx).mp c5
      obtain ⟨x1, x2, x3, x4, x5, x6, x7, y0, y1, y2, y3, y4, y5, y6, y7, y8⟩ := hL
      rw [ecu] at y8
      exact ⟨x1, x2, x3, x4, x5, x6, x7, y0, y1, y2, y3, y4, y5, y6, y7, fun _ => y8 ⟨hc1, hne⟩⟩⟩
  · obtain ⟨acL, mlL, lgL, coL, fiL, mdL, wtL, v0, v1, v2, v3, v4, v5, v6, v7, v8⟩ := hL
    obtain ⟨gn0, gac0, gL0, gZ0, gle0, got0, g0, g1, g2, g3, g4⟩ := hG
    refine V_aload_n d_N_orderWhenCut_8 rfl ?_
    refine V_aload_n d_N_orderWhenCut_9 rfl ?_
    refine V_getfield d_N_orderWhenCut_10 fl_N_33 hb rfl ?_
    refine V_iload_n d_N_orderWhenCut_13 rfl ?_
    refine V_callV0 d_N_orderWhenCut_14 ml_N_191 mB_N_findOrder mi_N_findOrder mv_N_findOrder rfl hb (c_N_findOrder l D _ _ (oa := b + 51) (lg := LE pl la) hb hT.1 hT.2.1 v0 v1 v2 v3 v4 v5 hl0 g0 g1 g2 g3 g4 (by omega) hc1 hN.1 (fun i hi => LE_lt hN hi) v6 v7) rfl rfl rfl rfl rfl rfl rfl ?_
    rintro _ _ ⟨rfl, lg', co', fi', md', wt', l1', gL', gZ', gle', got', ac', ml', gn', gac', rfl, hl1, hord, hfd, hz'⟩
    have hord := lc_of (lg := l1') hc1 hN.1 hl1 hord
    refine V_aload_n d_N_orderWhenCut_17 rfl ?_
    refine V_iload_n d_N_orderWhenCut_18 rfl ?_
    refine V_put (e' := oN b (nI c) (nI (ctT (fun _ => 1) pl la c)) (nI (BR c pl la)) wk (nI x)) d_N_orderWhenCut_19 fp_N_184 (oa_12 hb (by omega) (by omega) (by omega) (by omega) (by omega) (by omega) (by omega) (by omega) (by omega) (by omega) (by omega) (by omega)) rfl rfl rfl rfl rfl ?_
    refine V_aload_n d_N_orderWhenCut_22 rfl ?_
    refine V_getfield d_N_orderWhenCut_23 fl_N_33 hv_up_s rfl ?_
    exact V_areturn d_N_orderWhenCut_26 rfl ⟨rfl, rfl, fun q y => oz_13 (by omega) (by omega) (by omega) (by omega) (by omega) (by omega) (by omega) (by omega) (by omega) (by omega) (by omega) (by omega) (by omega), ⟨(nI x), x, u, l1', cp, og_0, (hT.fr (fun q x9 y => oz_13 (by omega) (by omega) (by omega) (by omega) (by omega) (by omega) (by omega) (by omega) (by omega) (by omega) (by omega) (by omega) (by omega))), (oa_13 hu (by omega) (by omega) (by omega) (by omega) (by omega) (by omega) (by omega) (by omega) (by omega) (by omega) (by omega) (by omega) (by omega)), hu2, (og_7 (by omega) (by omega) (by omega) (by omega) (by omega) (by omega) (by omega)), (oa_13 hcp (by omega) (by omega) (by omega) (by omega) (by omega) (by omega) (by omega) (by omega) (by omega) (by omega) (by omega) (by omega) (by omega)), hcpk, (hW.fr (fun q x9 y => oz_13 (by omega) (by omega) (by omega) (by omega) (by omega) (by omega) (by omega) (by omega) (by omega) (by omega) (by omega) (by omega) (by omega))), ⟨ac', ml', lg', co', fi', md', wt', (og_1 (by omega)), (og_2 (by omega) (by omega)), (og_3 (by omega) (by omega) (by omega)), (og_4 (by omega) (by omega) (by omega) (by omega)), (og_5 (by omega) (by omega) (by omega) (by omega) (by omega)), (og_6 (by omega) (by omega) (by omega) (by omega) (by omega) (by omega)), hfd, hz', fun _ => hord⟩, (Or.inr ⟨rfl, hx⟩), ⟨_, _, _, _, _, _, (og_8 (by omega) (by omega) (by omega) (by omega) (by omega) (by omega) (by omega) (by omega)), (og_9 (by omega) (by omega) (by omega) (by omega) (by omega) (by omega) (by omega) (by omega) (by omega)), (og_10 (by omega) (by omega) (by omega) (by omega) (by omega) (by omega) (by omega) (by omega) (by omega) (by omega)), (og_11 (by omega) (by omega) (by omega) (by omega) (by omega) (by omega) (by omega) (by omega) (by omega) (by omega) (by omega)), (og_12 (by omega) (by omega) (by omega) (by omega) (by omega) (by omega) (by omega) (by omega) (by omega) (by omega) (by omega) (by omega))⟩, (hC.fr (fun q x9 => oz_13 (by omega) (by omega) (by omega) (by omega) (by omega) (by omega) (by omega) (by omega) (by omega) (by omega) (by omega) (by omega) (by omega))), hN⟩, ⟨ac', ml', lg', co', fi', md', wt', (og_1 (by omega)), (og_2 (by omega) (by omega)), (og_3 (by omega) (by omega) (by omega)), (og_4 (by omega) (by omega) (by omega) (by omega)), (og_5 (by omega) (by omega) (by omega) (by omega) (by omega)), (og_6 (by omega) (by omega) (by omega) (by omega) (by omega) (by omega)), hfd, hz', fun _ => hord⟩⟩

set_option maxRecDepth 100000 in
set_option maxHeartbeats 4000000 in
theorem c_N_open (l : Launch) (D : hv_D) (h : hv_P) (nx : Nat) {b c n : Nat} {wk : Int32} {pl : Nat → Nat} {la : Nat → Option Nat} {re im : Nat → Int32} (hS : nS h b wk c pl la re im n) : hv_N l D M_N_open (hv_rm 1 23 0 0) [.ref b] h nx (hv_ans (some (.int (A_open c pl la))) (fun h' n' => n' = nx ∧ nFr b h h' ∧ ∃ wk', nS h' b wk' c pl la re im n)) := by
  refine hv_N.of' [some (.ref b)] (by decide +kernel) rfl rfl rfl ?_
  obtain ⟨lk, cu, u, l0, cp, hb, hT, hu, hu2, hl0, hcp, hcpk, hW, hL, hlk, hG, hC, hN⟩ := hS
  refine V_aload_n d_N_open_0 rfl ?_
  refine V_callV1 d_N_open_1 ml_N_103 mB_N_isReady mi_N_isReady mv_N_isReady rfl hb (c_N_isReady l D _ _ hb) rfl rfl rfl rfl rfl rfl rfl ?_
  rintro _ _ ⟨rfl, rfl⟩
  rw [rdy_cls hN]
  refine V_if_eq 15 d_N_open_4 (by decide) (fun c4 => ?_) (fun c4 => ?_)
  · have hr := bZ_eq.mp c4
    refine V_iconst (-1) d_N_open_15 rfl ?_
    exact V_ireturn d_N_open_16 rfl ⟨by unfold A_open; first | rw [if_pos hr, OPN_nu hN hu2] | rw [if_neg (by rw [hr]; decide)], rfl, fun q x => rfl, ⟨wk, lk, cu, u, l0, cp, hb, hT, hu, hu2, hl0, hcp, hcpk, hW, hL, hlk, hG, hC, hN⟩⟩
  · have hr := bZ_ne.mp c4
    refine V_aload_n d_N_open_7 rfl ?_
    refine V_iconst (nI 1) d_N_open_8 rfl ?_
    refine V_callV1 d_N_open_9 ml_N_107 mB_N_namesUsed mi_N_namesUsed mv_N_namesUsed rfl hb (c_N_namesUsed l D _ _ hb hu (fun i hi => by rw [hu2 i hi]; have := hN.2.2.2.1 i; omega) (by decide)) rfl rfl rfl rfl rfl rfl rfl ?_
    rintro _ _ ⟨rfl, rfl⟩
    refine V_goto 16 d_N_open_12 (by decide) ?_
    exact V_ireturn d_N_open_16 rfl ⟨by unfold A_open; first | rw [if_pos hr, OPN_nu hN hu2] | rw [if_neg (by rw [hr]; decide)], rfl, fun q x => rfl, ⟨wk, lk, cu, u, l0, cp, hb, hT, hu, hu2, hl0, hcp, hcpk, hW, hL, hlk, hG, hC, hN⟩⟩

set_option maxRecDepth 100000 in
set_option maxHeartbeats 4000000 in
theorem c_N_total (l : Launch) (D : hv_D) (h : hv_P) (nx : Nat) {b c n : Nat} {wk : Int32} {pl : Nat → Nat} {la : Nat → Option Nat} {re im : Nat → Int32} (hS : nS h b wk c pl la re im n) (x : Int32) : hv_N l D M_N_total (hv_rm 1 23 0 0) [.ref b, .int x] h nx (hv_ans (some (.int (A_total c pl la x))) (fun h' n' => n' = nx ∧ nFr b h h' ∧ ∃ wk', nS h' b wk' c pl la re im n)) := by
  refine hv_N.of' [some (.ref b), some (.int x)] (by decide +kernel) rfl rfl rfl ?_
  obtain ⟨lk, cu, u, l0, cp, hb, hT, hu, hu2, hl0, hcp, hcpk, hW, hL, hlk, hG, hC, hN⟩ := hS
  refine V_iload_n d_N_total_0 rfl ?_
  rcases tot_cases x with rfl | rfl | rfl | rfl | hx
  · refine V_tableIn 32 d_N_total_1 (by decide) (by decide) rfl (by decide) ?_
    refine V_aload_n d_N_total_32 rfl ?_
    refine V_getfield d_N_total_33 fl_N_53 hb rfl ?_
    exact V_ireturn d_N_total_36 rfl ⟨by rw [A_total_0], rfl, fun q x => rfl, ⟨wk, lk, cu, u, l0, cp, hb, hT, hu, hu2, hl0, hcp, hcpk, hW, hL, hlk, hG, hC, hN⟩⟩
  · refine V_tableIn 37 d_N_total_1 (by decide) (by decide) rfl (by decide) ?_
    refine V_aload_n d_N_total_37 rfl ?_
    refine V_getfield d_N_total_38 fl_N_61 hb rfl ?_
    exact V_ireturn d_N_total_41 rfl ⟨by rw [A_total_1], rfl, fun q x => rfl, ⟨wk, lk, cu, u, l0, cp, hb, hT, hu, hu2, hl0, hcp, hcpk, hW, hL, hlk, hG, hC, hN⟩⟩
  · refine V_tableIn 42 d_N_total_1 (by decide) (by decide) rfl (by decide) ?_
    refine V_aload_n d_N_total_42 rfl ?_
    refine V_getfield d_N_total_43 fl_N_64 hb rfl ?_
    exact V_ireturn d_N_total_46 rfl ⟨by rw [A_total_2], rfl, fun q x => rfl, ⟨wk, lk, cu, u, l0, cp, hb, hT, hu, hu2, hl0, hcp, hcpk, hW, hL, hlk, hG, hC, hN⟩⟩
  · refine V_tableIn 47 d_N_total_1 (by decide) (by decide) rfl (by decide) ?_
    refine V_aload_n d_N_total_47 rfl ?_
    refine V_callV1 d_N_total_48 ml_N_103 mB_N_isReady mi_N_isReady mv_N_isReady rfl hb (c_N_isReady l D _ _ hb) rfl rfl rfl rfl rfl rfl rfl ?_
    rintro _ _ ⟨rfl, rfl⟩
    rw [rdy_cls hN]
    refine V_if_eq 62 d_N_total_51 (by decide) (fun c4 => ?_) (fun c4 => ?_)
    · have hr := bZ_eq.mp c4
      refine V_iconst (0) d_N_total_62 rfl ?_
      exact V_ireturn d_N_total_63 rfl ⟨by rw [A_total_3]; first | rw [if_pos hr, SHR_nu hN hu2] | rw [if_neg (by rw [hr]; decide)], rfl, fun q x => rfl, ⟨wk, lk, cu, u, l0, cp, hb, hT, hu, hu2, hl0, hcp, hcpk, hW, hL, hlk, hG, hC, hN⟩⟩
    · have hr := bZ_ne.mp c4
      refine V_aload_n d_N_total_54 rfl ?_
      refine V_iconst (nI 2) d_N_total_55 rfl ?_
      refine V_callV1 d_N_total_56 ml_N_107 mB_N_namesUsed mi_N_namesUsed mv_N_namesUsed rfl hb (c_N_namesUsed l D _ _ hb hu (fun i hi => by rw [hu2 i hi]; have := hN.2.2.2.1 i; omega) (by decide)) rfl rfl rfl rfl rfl rfl rfl ?_
      rintro _ _ ⟨rfl, rfl⟩
      refine V_goto 63 d_N_total_59 (by decide) ?_
      exact V_ireturn d_N_total_63 rfl ⟨by rw [A_total_3]; first | rw [if_pos hr, SHR_nu hN hu2] | rw [if_neg (by rw [hr]; decide)], rfl, fun q x => rfl, ⟨wk, lk, cu, u, l0, cp, hb, hT, hu, hu2, hl0, hcp, hcpk, hW, hL, hlk, hG, hC, hN⟩⟩
  · refine V_tableOut 64 d_N_total_1 hx.1 (by decide) ?_
    refine V_iconst (-1) d_N_total_64 rfl ?_
    exact V_ireturn d_N_total_65 rfl ⟨by rw [A_total_x hx.2], rfl, fun q x => rfl, ⟨wk, lk, cu, u, l0, cp, hb, hT, hu, hu2, hl0, hcp, hcpk, hW, hL, hlk, hG, hC, hN⟩⟩

set_option maxRecDepth 100000 in
set_option maxHeartbeats 4000000 in
theorem c_N_cost (l : Launch) (D : hv_D) (h : hv_P) (nx : Nat) {b c n : Nat} {wk : Int32} {pl : Nat → Nat} {la : Nat → Option Nat} {re im : Nat → Int32} (hS : nS h b wk c pl la re im n) : hv_N l D M_N_cost (hv_rm 5 124 0 0) [.ref b] h nx (hv_ans (some (.int (A_cost c pl la))) (fun h' n' => n' = nx ∧ nFr b h h' ∧ ∃ wk', nS h' b wk' c pl la re im n)) := by
  refine hv_N.of' [some (.ref b)] (by decide +kernel) rfl rfl rfl ?_
  have hS0 := hS
  obtain ⟨lk, cu, u, l0, cp, hb, hT, hu, hu2, hl0, hcp, hcpk, hW, hL, hlk, hG, hC, hN⟩ := hS
  refine V_aload_n d_N_cost_0 rfl ?_
  refine V_callV1 d_N_cost_1 ml_N_103 mB_N_isReady mi_N_isReady mv_N_isReady rfl hb (c_N_isReady l D _ _ hb) rfl rfl rfl rfl rfl rfl rfl ?_
  rintro _ _ ⟨rfl, rfl⟩
  rw [rdy_cls hN]
  refine V_if_eq 17 d_N_cost_4 (by decide) (fun c4 => ?_) (fun c4 => ?_)
  · have hr := bZ_eq.mp c4
    refine V_iconst (-1) d_N_cost_17 rfl ?_
    exact V_ireturn d_N_cost_18 rfl ⟨by unfold A_cost; rw [if_neg (by rw [hr]; decide)], rfl, fun q x => rfl, ⟨wk, lk, cu, u, l0, cp, hb, hT, hu, hu2, hl0, hcp, hcpk, hW, hL, hlk, hG, hC, hN⟩⟩
  · have hr := bZ_ne.mp c4
    refine V_aload_n d_N_cost_7 rfl ?_
    refine V_callV1 d_N_cost_8 ml_N_128 mB_N_orderOfAll mi_N_orderOfAll mv_N_orderOfAll rfl hb (c_N_orderOfAll l D _ _ hS0 (fun _ => hr)) rfl rfl rfl rfl rfl rfl rfl ?_
    rintro h9 n9 ⟨rfl, fr9, ⟨wk9, kw9, ns9⟩, ⟨ac9, ml9, lg9, co9, fi9, md9, wt9, y0, y1, y2, y3, y4, y5, y6, y7, y8⟩⟩
    have y8 := y8 trivial
    refine V_getfield d_N_cost_11 fl_N_132 y0 rfl ?_
    refine V_goto 18 d_N_cost_14 (by decide) ?_
    exact V_ireturn d_N_cost_18 rfl ⟨by unfold A_cost; rw [if_pos hr, y8.1], rfl, fr9, wk9, ns9⟩

set_option maxRecDepth 100000 in
set_option maxHeartbeats 4000000 in
theorem c_N_peak (l : Launch) (D : hv_D) (h : hv_P) (nx : Nat) {b c n : Nat} {wk : Int32} {pl : Nat → Nat} {la : Nat → Option Nat} {re im : Nat → Int32} (hS : nS h b wk c pl la re im n) : hv_N l D M_N_peak (hv_rm 5 124 0 0) [.ref b] h nx (hv_ans (some (.int (A_peak c pl la))) (fun h' n' => n' = nx ∧ nFr b h h' ∧ ∃ wk', nS h' b wk' c pl la re im n)) := by
  refine hv_N.of' [some (.ref b)] (by decide +kernel) rfl rfl rfl ?_
  have hS0 := hS
  obtain ⟨lk, cu, u, l0, cp, hb, hT, hu, hu2, hl0, hcp, hcpk, hW, hL, hlk, hG, hC, hN⟩ := hS
  refine V_aload_n d_N_peak_0 rfl ?_
  refine V_callV1 d_N_peak_1 ml_N_103 mB_N_isReady mi_N_isReady mv_N_isReady rfl hb (c_N_isReady l D _ _ hb) rfl rfl rfl rfl rfl rfl rfl ?_
  rintro _ _ ⟨rfl, rfl⟩
  rw [rdy_cls hN]
  refine V_if_eq 17 d_N_peak_4 (by decide) (fun c4 => ?_) (fun c4 => ?_)
  · have hr := bZ_eq.mp c4
    refine V_iconst (-1) d_N_peak_17 rfl ?_
    exact V_ireturn d_N_peak_18 rfl ⟨by unfold A_peak; rw [if_neg (by rw [hr]; decide)], rfl, fun q x => rfl, ⟨wk, lk, cu, u, l0, cp, hb, hT, hu, hu2, hl0, hcp, hcpk, hW, hL, hlk, hG, hC, hN⟩⟩
  · have hr := bZ_ne.mp c4
    refine V_aload_n d_N_peak_7 rfl ?_
    refine V_callV1 d_N_peak_8 ml_N_128 mB_N_orderOfAll mi_N_orderOfAll mv_N_orderOfAll rfl hb (c_N_orderOfAll l D _ _ hS0 (fun _ => hr)) rfl rfl rfl rfl rfl rfl rfl ?_
    rintro h9 n9 ⟨rfl, fr9, ⟨wk9, kw9, ns9⟩, ⟨ac9, ml9, lg9, co9, fi9, md9, wt9, y0, y1, y2, y3, y4, y5, y6, y7, y8⟩⟩
    have y8 := y8 trivial
    refine V_getfield d_N_peak_11 fl_N_135 y0 rfl ?_
    refine V_goto 18 d_N_peak_14 (by decide) ?_
    exact V_ireturn d_N_peak_18 rfl ⟨by unfold A_peak; rw [if_pos hr, y8.2.2.2.2.2], rfl, fr9, wk9, ns9⟩

set_option maxRecDepth 100000 in
set_option maxHeartbeats 4000000 in
theorem c_N_step (l : Launch) (D : hv_D) (h : hv_P) (nx : Nat) {b c n : Nat} {wk : Int32} {pl : Nat → Nat} {la : Nat → Option Nat} {re im : Nat → Int32} (hS : nS h b wk c pl la re im n) (i s : Int32) : hv_N l D M_N_step (hv_rm 5 129 0 0) [.ref b, .int i, .int s] h nx (hv_ans (some (.int (A_step c pl la i s))) (fun h' n' => n' = nx ∧ nFr b h h' ∧ ∃ wk', nS h' b wk' c pl la re im n)) := by
  refine hv_N.of' [some (.ref b), some (.int i), some (.int s), none, none, none] (by decide +kernel) rfl rfl rfl ?_
  have hS0 := hS
  obtain ⟨lk, cu, u, l0, cp, hb, hT, hu, hu2, hl0, hcp, hcpk, hW, hL, hlk, hG, hC, hN⟩ := hS
  have hc := hN.1
  refine V_aload_n d_N_step_0 rfl ?_
  refine V_callV1 d_N_step_1 ml_N_103 mB_N_isReady mi_N_isReady mv_N_isReady rfl hb (c_N_isReady l D _ _ hb) rfl rfl rfl rfl rfl rfl rfl ?_
  rintro _ _ ⟨rfl, rfl⟩
  rw [rdy_cls hN]
  refine V_if_eq 30 d_N_step_4 (by decide) (fun c4 => ?_) (fun c4 => ?_)
  · have hr := bZ_eq.mp c4
    have AN : A_step c pl la i s = -1 := by unfold A_step; rw [if_neg (by rw [hr]; intro q; exact absurd q.1 (by decide))]
    refine V_iconst (-1) d_N_step_30 rfl ?_
    exact V_ireturn d_N_step_31 rfl ⟨by rw [AN], rfl, fun q x => rfl, ⟨wk, lk, cu, u, l0, cp, hb, hT, hu, hu2, hl0, hcp, hcpk, hW, hL, hlk, hG, hC, hN⟩⟩
  · have hr := bZ_ne.mp c4
    have hc1 := RDY_c hr
    refine V_iload_n d_N_step_7 rfl ?_
    refine V_if_lt 30 d_N_step_8 (by decide) (fun c8 => ?_) (fun c8 => ?_)
    · have AN : A_step c pl la i s = -1 := by unfold A_step; rw [if_neg (fun q => q.2.1.1 c8)]
      refine V_iconst (-1) d_N_step_30 rfl ?_
      exact V_ireturn d_N_step_31 rfl ⟨by rw [AN], rfl, fun q x => rfl, ⟨wk, lk, cu, u, l0, cp, hb, hT, hu, hu2, hl0, hcp, hcpk, hW, hL, hlk, hG, hC, hN⟩⟩
    · refine V_iload_n d_N_step_11 rfl ?_
      refine V_aload_n d_N_step_12 rfl ?_
      refine V_getfield d_N_step_13 fl_N_53 hb rfl ?_
      refine V_iconst (nI 1) d_N_step_16 rfl ?_
      refine V_isubN d_N_step_17 (by omega) ?_
      refine V_icmp_ge 30 d_N_step_18 (by decide) (fun c18 => ?_) (fun c18 => ?_)
      · have AN : A_step c pl la i s = -1 := by unfold A_step; rw [if_neg (fun q => Int32.not_le.mpr q.2.1.2 c18)]
        refine V_iconst (-1) d_N_step_30 rfl ?_
        exact V_ireturn d_N_step_31 rfl ⟨by rw [AN], rfl, fun q x => rfl, ⟨wk, lk, cu, u, l0, cp, hb, hT, hu, hu2, hl0, hcp, hcpk, hW, hL, hlk, hG, hC, hN⟩⟩
      · refine V_iload_n d_N_step_21 rfl ?_
        refine V_if_lt 30 d_N_step_22 (by decide) (fun c22 => ?_) (fun c22 => ?_)
        · have AN : A_step c pl la i s = -1 := by unfold A_step; rw [if_neg (fun q => q.2.2.1 c22)]
          refine V_iconst (-1) d_N_step_30 rfl ?_
          exact V_ireturn d_N_step_31 rfl ⟨by rw [AN], rfl, fun q x => rfl, ⟨wk, lk, cu, u, l0, cp, hb, hT, hu, hu2, hl0, hcp, hcpk, hW, hL, hlk, hG, hC, hN⟩⟩
        · refine V_iload_n d_N_step_25 rfl ?_
          refine V_iconst (1) d_N_step_26 rfl ?_
          refine V_icmp_le 32 d_N_step_27 (by decide) (fun c27 => ?_) (fun c27 => ?_)
          · have AN : A_step c pl la i s = (if s = 0 then nI (FI (LC pl la 0) (MD (LC pl la 0) c i.toNatClampNeg)) else nI (MD (LC pl la 0) c i.toNatClampNeg ^^^ FI (LC pl la 0) (MD (LC pl la 0) c i.toNatClampNeg))) := by unfold A_step; rw [if_pos ⟨hr, ⟨c8, Int32.not_le.mp c18⟩, c22, c27⟩]
            obtain ⟨j1, j2⟩ := i32_nat c8 (Int32.not_le.mp c18) (by omega)
            refine V_aload_n d_N_step_32 rfl ?_
            refine V_callV1 d_N_step_33 ml_N_128 mB_N_orderOfAll mi_N_orderOfAll mv_N_orderOfAll rfl hb (c_N_orderOfAll l D _ _ hS0 (fun _ => hr)) rfl rfl rfl rfl rfl rfl rfl ?_
            rintro h9 n9 ⟨rfl, fr9, ⟨wk9, kw9, ns9⟩, ⟨ac9, ml9, lg9, co9, fi9, md9, wt9, y0, y1, y2, y3, y4, y5, y6, y7, y8⟩⟩
            have y8 := y8 trivial
            obtain ⟨-, -, z3, z4, z5, -⟩ := y8
            have mm := MD_in hc1 hc z3 j1
            obtain ⟨m1, m2⟩ := pv_sub (m := c) 10 _ (by have := Nat.two_pow_pos c; omega) z3 _ mm
            have h10 : (2 : Nat) ^ c ≤ 2 ^ 10 := Nat.pow_le_pow_right (by decide) hc
            refine V_astore_3 d_N_step_36 rfl ?_
            refine V_aload_n d_N_step_37 rfl ?_
            refine V_getfield d_N_step_38 fl_N_138 y0 rfl ?_
            refine V_iload_n (x := nI i.toNatClampNeg) d_N_step_41 (by rw [← j2]; rfl) ?_
            refine V_iaload d_N_step_42 y4 ⟨rfl, by omega, by decide⟩ ?_
            rw [z5 _ j1]
            refine V_istore_4 d_N_step_43 rfl ?_
            refine V_aload_n d_N_step_45 rfl ?_
            refine V_getfield d_N_step_46 fl_N_141 y0 rfl ?_
            refine V_iload d_N_step_49 rfl ?_
            refine V_iaload d_N_step_51 y3 ⟨rfl, by omega, by decide⟩ ?_
            rw [z4 _ mm]
            refine V_istore_5 d_N_step_52 rfl ?_
            refine V_iload_n d_N_step_54 rfl ?_
            refine V_if_ne 63 d_N_step_55 (by decide) (fun c55 => ?_) (fun c55 => ?_)
            · rw [if_neg c55] at AN
              refine V_iload d_N_step_63 rfl ?_
              refine V_iload d_N_step_65 rfl ?_
              refine V_ixorN d_N_step_67 ?_
              exact V_ireturn d_N_step_68 rfl ⟨by rw [AN], rfl, fr9, wk9, ns9⟩
            · rw [if_pos c55] at AN
              refine V_iload d_N_step_58 rfl ?_
              refine V_goto 68 d_N_step_60 (by decide) ?_
              exact V_ireturn d_N_step_68 rfl ⟨by rw [AN], rfl, fr9, wk9, ns9⟩
          · have AN : A_step c pl la i s = -1 := by unfold A_step; rw [if_neg (fun q => c27 q.2.2.2)]
            refine V_iconst (-1) d_N_step_30 rfl ?_
            exact V_ireturn d_N_step_31 rfl ⟨by rw [AN], rfl, fun q x => rfl, ⟨wk, lk, cu, u, l0, cp, hb, hT, hu, hu2, hl0, hcp, hcpk, hW, hL, hlk, hG, hC, hN⟩⟩

set_option maxRecDepth 100000 in
set_option maxHeartbeats 4000000 in
theorem c_N_costOf (l : Launch) (D : hv_D) (h : hv_P) (nx : Nat) {b c n : Nat} {wk : Int32} {pl : Nat → Nat} {la : Nat → Option Nat} {re im : Nat → Int32} (hS : nS h b wk c pl la re im n) (x : Int32) : hv_N l D M_N_costOf (hv_rm 5 126 0 0) [.ref b, .int x] h nx (hv_ans (some (.int (A_costOf c pl la x))) (fun h' n' => n' = nx ∧ nFr b h h' ∧ ∃ wk', nS h' b wk' c pl la re im n)) := by
  refine hv_N.of' [some (.ref b), some (.int x), none] (by decide +kernel) rfl rfl rfl ?_
  have hS0 := hS
  obtain ⟨lk, cu, u, l0, cp, hb, hT, hu, hu2, hl0, hcp, hcpk, hW, hL, hlk, hG, hC, hN⟩ := hS
  refine V_aload_n d_N_costOf_0 rfl ?_
  refine V_callV1 d_N_costOf_1 ml_N_103 mB_N_isReady mi_N_isReady mv_N_isReady rfl hb (c_N_isReady l D _ _ hb) rfl rfl rfl rfl rfl rfl rfl ?_
  rintro _ _ ⟨rfl, rfl⟩
  rw [rdy_cls hN]
  refine V_if_eq 19 d_N_costOf_4 (by decide) (fun c4 => ?_) (fun c4 => ?_)
  · have hr := bZ_eq.mp c4
    have AN : A_costOf c pl la x = -1 := by unfold A_costOf; rw [if_neg (by rw [hr]; intro q; exact absurd q.1 (by decide))]
    refine V_iconst (-1) d_N_costOf_19 rfl ?_
    exact V_ireturn d_N_costOf_20 rfl ⟨by rw [AN], rfl, fun q x => rfl, ⟨wk, lk, cu, u, l0, cp, hb, hT, hu, hu2, hl0, hcp, hcpk, hW, hL, hlk, hG, hC, hN⟩⟩
  · have hr := bZ_ne.mp c4
    refine V_iload_n d_N_costOf_7 rfl ?_
    refine V_aload_n d_N_costOf_8 rfl ?_
    refine V_iconst (nI 2) d_N_costOf_9 rfl ?_
    refine V_callV1 d_N_costOf_10 ml_N_107 mB_N_namesUsed mi_N_namesUsed mv_N_namesUsed rfl hb (c_N_namesUsed l D _ _ hb hu (fun i hi => by rw [hu2 i hi]; have := hN.2.2.2.1 i; omega) (by decide)) rfl rfl rfl rfl rfl rfl rfl ?_
    rintro _ _ ⟨rfl, rfl⟩
    rw [SHR_nu hN hu2]
    refine V_iconst (-1) d_N_costOf_13 rfl ?_
    refine V_ixor d_N_costOf_14 ?_
    refine V_iand d_N_costOf_15 ?_
    refine V_if_eq 21 d_N_costOf_16 (by decide) (fun c16 => ?_) (fun c16 => ?_)
    · obtain ⟨q1, q2, q3⟩ := andn_0 (SHR_lt hN) c16
      have AN : A_costOf c pl la x = nI (CO (LC pl la x.toNatClampNeg) (2 ^ c - 1) * 2 ^ pc_ x.toNatClampNeg) := by unfold A_costOf; rw [if_pos ⟨hr, c16⟩]
      refine V_iload_n d_N_costOf_21 rfl ?_
      refine V_if_ne 32 d_N_costOf_22 (by decide) (fun c22 => ?_) (fun c22 => ?_)
      · refine V_aload_n d_N_costOf_32 rfl ?_
        refine V_iload_n (x := nI x.toNatClampNeg) d_N_costOf_33 (by rw [← q2]; rfl) ?_
        refine V_callV1 d_N_costOf_34 ml_N_168 mB_N_orderWhenCut mi_N_orderWhenCut mv_N_orderWhenCut rfl hb (c_N_orderWhenCut l D _ _ hS0 (fun _ => hr) (by omega)) rfl rfl rfl rfl rfl rfl rfl ?_
        rintro h9 n9 ⟨rfl, fr9, ns9, ⟨ac9, ml9, lg9, co9, fi9, md9, wt9, y0, y1, y2, y3, y4, y5, y6, y7, y8⟩⟩
        have y8 := y8 trivial
        refine V_astore_2 d_N_costOf_37 rfl ?_
        refine V_aload_n d_N_costOf_38 rfl ?_
        refine V_getfield d_N_costOf_39 fl_N_132 y0 rfl ?_
        refine V_iload_n (x := nI x.toNatClampNeg) d_N_costOf_42 (by rw [← q2]; rfl) ?_
        refine V_callS1 d_N_costOf_43 ml_N_172 mB_JI_bitCount ms_JI_bitCount (c_bitCount l D _ _ (by omega)) rfl rfl rfl rfl rfl rfl rfl ?_
        rintro _ _ ⟨rfl, rfl⟩
        refine V_ishlN d_N_costOf_46 (by have := pc_le q1; omega) ?_
        exact V_ireturn d_N_costOf_47 rfl ⟨by rw [AN, y8.1], rfl, fr9, wk, ns9⟩
      · have e0 : x.toNatClampNeg = 0 := by rw [c22]; rfl
        rw [e0] at AN
        refine V_aload_n d_N_costOf_25 rfl ?_
        refine V_callV1 d_N_costOf_26 ml_N_128 mB_N_orderOfAll mi_N_orderOfAll mv_N_orderOfAll rfl hb (c_N_orderOfAll l D _ _ hS0 (fun _ => hr)) rfl rfl rfl rfl rfl rfl rfl ?_
        rintro h9 n9 ⟨rfl, fr9, ⟨wk9, kw9, ns9⟩, ⟨ac9, ml9, lg9, co9, fi9, md9, wt9, y0, y1, y2, y3, y4, y5, y6, y7, y8⟩⟩
        have y8 := y8 trivial
        refine V_goto 37 d_N_costOf_29 (by decide) ?_
        refine V_astore_2 d_N_costOf_37 rfl ?_
        refine V_aload_n d_N_costOf_38 rfl ?_
        refine V_getfield d_N_costOf_39 fl_N_132 y0 rfl ?_
        refine V_iload_n (x := nI x.toNatClampNeg) d_N_costOf_42 (by rw [← q2]; rfl) ?_
        refine V_callS1 d_N_costOf_43 ml_N_172 mB_JI_bitCount ms_JI_bitCount (c_bitCount l D _ _ (by omega)) rfl rfl rfl rfl rfl rfl rfl ?_
        rintro _ _ ⟨rfl, rfl⟩
        refine V_ishlN d_N_costOf_46 (by have := pc_le q1; omega) ?_
        exact V_ireturn d_N_costOf_47 rfl ⟨by rw [AN, e0, y8.1], rfl, fr9, wk9, ns9⟩
    · have AN : A_costOf c pl la x = -1 := by unfold A_costOf; rw [if_neg (fun q => c16 q.2)]
      refine V_iconst (-1) d_N_costOf_19 rfl ?_
      exact V_ireturn d_N_costOf_20 rfl ⟨by rw [AN], rfl, fun q x => rfl, ⟨wk, lk, cu, u, l0, cp, hb, hT, hu, hu2, hl0, hcp, hcpk, hW, hL, hlk, hG, hC, hN⟩⟩

set_option maxRecDepth 100000 in
set_option maxHeartbeats 4000000 in
theorem c_N_isEntry (l : Launch) (D : hv_D) (h : hv_P) (nx : Nat) {b c : Nat} {ap z wk lk : Int32} {pl : Nat → Nat} {la : Nat → Option Nat} {re im : Nat → Int32} (hb : h b = some (oN b (nI c) ap z wk lk)) (hT : tS h b pl la re im) (hN : netOK c pl la) (t x : Int32) : hv_N l D M_N_isEntry (hv_rm 1 21 0 0) [.ref b, .int t, .int x] h nx (hv_ans (some (.int (bZ (decide (idxV c pl t x))))) (hv_same h nx)) := by
  refine hv_N.of' [some (.ref b), some (.int t), some (.int x)] (by decide +kernel) rfl rfl rfl ?_
  refine V_aload_n d_N_isEntry_0 rfl ?_
  refine V_iload_n d_N_isEntry_1 rfl ?_
  refine V_callV1 d_N_isEntry_2 ml_N_67 mB_N_isTensor mi_N_isTensor mv_N_isTensor rfl hb (c_N_isTensor l D _ _ hb t) rfl rfl rfl rfl rfl rfl rfl ?_
  rintro _ _ ⟨rfl, rfl⟩
  refine V_if_eq 31 d_N_isEntry_5 (by decide) (fun c5 => ?_) (fun c5 => ?_)
  · have AN := bZ_n (p := idxV c pl t x) (fun q => bZ_nand c5 q.1)
    refine V_iconst (0) d_N_isEntry_31 rfl ?_
    exact V_zreturn d_N_isEntry_32 rfl rfl ⟨by rw [AN], rfl, rfl⟩
  · obtain ⟨t1, t2⟩ := bZ_and c5
    obtain ⟨i1, i2⟩ := i32_nat t1 (Int32.not_le.mp t2) (by have := hN.1; omega)
    have p6 := hN.2.1 _ i1
    have hc := hN.1
    refine V_iload_n d_N_isEntry_8 rfl ?_
    refine V_if_lt 31 d_N_isEntry_9 (by decide) (fun c9 => ?_) (fun c9 => ?_)
    · have AN := bZ_n (p := idxV c pl t x) (fun q => q.2.1 c9)
      refine V_iconst (0) d_N_isEntry_31 rfl ?_
      exact V_zreturn d_N_isEntry_32 rfl rfl ⟨by rw [AN], rfl, rfl⟩
    · refine V_iload_n d_N_isEntry_12 rfl ?_
      refine V_iconst (nI 1) d_N_isEntry_13 rfl ?_
      refine V_aload_n d_N_isEntry_14 rfl ?_
      refine V_getfield d_N_isEntry_15 fl_N_11 hb rfl ?_
      refine V_iload_n (x := nI t.toNatClampNeg) d_N_isEntry_18 (by rw [← i2]; rfl) ?_
      refine V_aaload d_N_isEntry_19 hT.1 rfl ⟨rfl, by omega, by decide⟩ rfl ?_
      refine V_getfield d_N_isEntry_20 fl_N_71 (hT.2.1 _ (by omega)) rfl ?_
      refine V_ishlN d_N_isEntry_23 (by omega) ?_
      rw [Nat.one_mul]
      refine V_icmp_ge 31 d_N_isEntry_24 (by decide) (fun c24 => ?_) (fun c24 => ?_)
      · have AN := bZ_n (p := idxV c pl t x) (fun q => q.2.2 c24)
        refine V_iconst (0) d_N_isEntry_31 rfl ?_
        exact V_zreturn d_N_isEntry_32 rfl rfl ⟨by rw [AN], rfl, rfl⟩
      · have AN := bZ_p (p := idxV c pl t x) ⟨⟨t1, t2⟩, c9, c24⟩
        refine V_iconst (1) d_N_isEntry_27 rfl ?_
        refine V_goto 32 d_N_isEntry_28 (by decide) ?_
        exact V_zreturn d_N_isEntry_32 rfl rfl ⟨by rw [AN], rfl, rfl⟩
