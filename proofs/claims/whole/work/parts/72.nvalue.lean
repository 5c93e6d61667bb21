-- THE CLASS: value and slope
theorem V_bud {l : Launch} {D : hv_D} {M : hv_M} {X : State → (Nat → Prop) → Prop} {rm : Room} {Q : hv_R → hv_P → Nat → Prop} {bc bs bc' bs' : Nat} {h : hv_P} {nx pc : Nat} {lv : List (Option Value)} {st : List Value} (h1 : bc = bc') (h2 : bs = bs') (k : hv_V l D M X rm Q bc' bs' h nx pc lv st) : hv_V l D M X rm Q bc bs h nx pc lv st := by
  subst h1; subst h2; exact k
def hv_thr (k : Nat) (Q0 : hv_P → Nat → Prop) : hv_R → hv_P → Nat → Prop := fun r h' n' => r = .inr k ∧ Q0 h' n'
theorem hv_thr_r {k : Nat} {Q0 : hv_P → Nat → Prop} : ∀ r h' n', hv_thr k Q0 r h' n' → ∃ k, r = .inr k := fun _ _ _ q => ⟨k, q.1⟩
theorem hv_thr_2 {k : Nat} (hk : k < 2) {Q0 : hv_P → Nat → Prop} : ∀ r h' n', hv_thr k Q0 r h' n' → ∃ k, k < 2 ∧ r = .inr k := fun _ _ _ q => ⟨k, hk, q.1⟩
abbrev M_L_value : hv_M := (⟨"NetworkOrdersLaw", "value", "(LNetworkOrders;II[J)I"⟩, method_3_code, 5, some .int)
abbrev M_L_slope : hv_M := (⟨"NetworkOrdersLaw", "slope", "(LNetworkOrders;IIII[J)I"⟩, method_4_code, 7, some .int)
theorem xl_121 : Cond.classLink "NetworkOrders" 121 (hv_exn 0) ∈ hv_tbl := hv_mem 437 (by decide +kernel) (by decide +kernel)
theorem xl_211 : Cond.classLink "NetworkOrders" 211 (hv_exn 1) ∈ hv_tbl := hv_mem 510 (by decide +kernel) (by decide +kernel)
theorem xl_13 : Cond.classLink "NetworkOrdersLaw" 13 (hv_exn 0) ∈ hv_tbl := hv_mem 427 (by decide +kernel) (by decide +kernel)
theorem xl_15 : Cond.classLink "NetworkOrdersLaw" 15 (hv_exn 1) ∈ hv_tbl := hv_mem 428 (by decide +kernel) (by decide +kernel)
theorem xs_123 : Cond.stringRef "NetworkOrders" 123 "no such tensor or index" ∈ exW := by simp [exW]
theorem xs_205 : Cond.stringRef "NetworkOrders" 205 "the network is not ready" ∈ exW := by simp [exW]
theorem xs_207 : Cond.stringRef "NetworkOrders" 207 "no such part" ∈ exW := by simp [exW]
theorem xs_209 : Cond.stringRef "NetworkOrders" 209 tx209 ∈ exW := by simp [exW]
theorem xs_213 : Cond.stringRef "NetworkOrders" 213 "the peak is too high" ∈ exW := by simp [exW]
theorem xi_0 : Cond.instantiable (hv_exn 0) 6 ∈ hv_tbl := hv_mem 438 (by decide +kernel) (by decide +kernel)
theorem xi_1 : Cond.instantiable (hv_exn 1) 6 ∈ hv_tbl := hv_mem 511 (by decide +kernel) (by decide +kernel)
theorem xn_0 : Cond.initialized (hv_exn 0) ∈ hv_tbl := hv_mem 67 (by decide +kernel) (by decide +kernel)
theorem xn_1 : Cond.initialized (hv_exn 1) ∈ hv_tbl := hv_mem 70 (by decide +kernel) (by decide +kernel)
set_option maxRecDepth 100000 in
set_option maxHeartbeats 4000000 in
theorem c_N_refU1 (l : Launch) (htr : ∀ e, l.admits e → e.platform.stackTraces = false) (D : hv_D) (h : hv_P) (nx : Nat) {b c n : Nat} {wk : Int32} {pl : Nat → Nat} {la : Nat → Option Nat} {re im : Nat → Int32} (hS : nS h b wk c pl la re im n) {w part : Int32} (hx : ¬ tellV c pl la w part) : hv_NT l D M_N_refuseUnknown (hv_ws M_N_refuseUnknown) (hv_rm 6 82 1 6) [.ref b, .int w, .int part] h nx (hv_thr 0 (fun h' n' => h' = h ∧ n' = nx + 1)) := by
  refine hv_NT.of [some (.ref b), some (.int w), some (.int part)] (by decide +kernel) rfl rfl rfl ?_
  obtain ⟨lk, cu, u, l0, cp, hb, hT, hu, hu2, hl0, hcp, hcpk, hW, hL, hlk, hG, hC, hN⟩ := hS
  have ol := OPN_lt hN
  have pl20 := pc_le ol
  have p2 : 2 ^ pc_ (OPN c pl la) ≤ 1048576 := p20 ol
  refine V_aload_n d_N_refuseUnknown_0 rfl ?_
  refine V_callV1 d_N_refuseUnknown_1 ml_N_103 mB_N_isReady mi_N_isReady mv_N_isReady rfl hb (c_N_isReady l D _ _ hb) rfl rfl rfl rfl rfl rfl rfl ?_
  rintro h8 n8 ⟨e8, e9⟩
  have e8 := e8.symm
  have e9 := e9.symm
  subst e8
  subst e9
  rw [rdy_cls hN]
  refine V_if_ne 17 d_N_refuseUnknown_4 (by decide) (fun c4 => ?_) (fun c4 => ?_)
  · have hr := bZ_ne.mp c4
    refine V_iload_n d_N_refuseUnknown_17 rfl ?_
    refine V_if_lt 26 d_N_refuseUnknown_18 (by decide) (fun c18 => ?_) (fun c18 => ?_)
    · exact V_throw htr (fun s A q => q) (kx := 0) (by decide) rfl d_N_refuseUnknown_26 d_N_refuseUnknown_29 d_N_refuseUnknown_30 d_N_refuseUnknown_32 d_N_refuseUnknown_35 xl_121 xi_0 xn_0 xs_207 rfl (by decide) (by decide) (by decide) (by decide) ⟨rfl, rfl, rfl⟩
    · refine V_iload_n d_N_refuseUnknown_21 rfl ?_
      refine V_iconst (1) d_N_refuseUnknown_22 rfl ?_
      refine V_icmp_le 36 d_N_refuseUnknown_23 (by decide) (fun c23 => ?_) (fun c23 => ?_)
      · have c23 : ¬ 1 < part := Int32.not_lt.mpr c23
        refine V_iload_n d_N_refuseUnknown_36 rfl ?_
        refine V_if_lt 54 d_N_refuseUnknown_37 (by decide) (fun c37 => ?_) (fun c37 => ?_)
        · exact V_throw htr (fun s A q => q) (kx := 0) (by decide) rfl d_N_refuseUnknown_54 d_N_refuseUnknown_57 d_N_refuseUnknown_58 d_N_refuseUnknown_60 d_N_refuseUnknown_63 xl_121 xi_0 xn_0 xs_209 rfl (by decide) (by decide) (by decide) (by decide) ⟨rfl, rfl, rfl⟩
        · refine V_iload_n d_N_refuseUnknown_40 rfl ?_
          refine V_iconst (nI 1) d_N_refuseUnknown_41 rfl ?_
          refine V_aload_n d_N_refuseUnknown_42 rfl ?_
          refine V_iconst (nI 1) d_N_refuseUnknown_43 rfl ?_
          refine V_callV1 d_N_refuseUnknown_44 ml_N_107 mB_N_namesUsed mi_N_namesUsed mv_N_namesUsed rfl hb (c_N_namesUsed l D _ _ hb hu (fun i hi => by rw [hu2 i hi]; have := hN.2.2.2.1 i; omega) (by decide)) rfl rfl rfl rfl rfl rfl rfl ?_
          rintro h8 n8 ⟨e8, e9⟩
          have e8 := e8.symm
          have e9 := e9.symm
          subst e8
          subst e9
          rw [OPN_nu hN hu2]
          refine V_callS1 d_N_refuseUnknown_47 ml_N_172 mB_JI_bitCount ms_JI_bitCount (c_bitCount l D _ _ (Nat.lt_trans ol (by decide))) rfl rfl rfl rfl rfl rfl rfl ?_
          rintro h8 n8 ⟨e8, e9⟩
          have e8 := e8.symm
          have e9 := e9.symm
          subst e8
          subst e9
          refine V_ishlN d_N_refuseUnknown_50 (by omega) ?_
          rw [Nat.one_mul]
          refine V_icmp_lt 64 d_N_refuseUnknown_51 (by decide) (fun c51 => ?_) (fun c51 => ?_)
          · exact absurd ⟨hr, ⟨c18, c23⟩, c37, Int32.not_le.mpr c51⟩ hx
          · exact V_throw htr (fun s A q => q) (kx := 0) (by decide) rfl d_N_refuseUnknown_54 d_N_refuseUnknown_57 d_N_refuseUnknown_58 d_N_refuseUnknown_60 d_N_refuseUnknown_63 xl_121 xi_0 xn_0 xs_209 rfl (by decide) (by decide) (by decide) (by decide) ⟨rfl, rfl, rfl⟩
      · exact V_throw htr (fun s A q => q) (kx := 0) (by decide) rfl d_N_refuseUnknown_26 d_N_refuseUnknown_29 d_N_refuseUnknown_30 d_N_refuseUnknown_32 d_N_refuseUnknown_35 xl_121 xi_0 xn_0 xs_207 rfl (by decide) (by decide) (by decide) (by decide) ⟨rfl, rfl, rfl⟩
  · have hr := bZ_eq.mp c4
    exact V_throw htr (fun s A q => q) (kx := 0) (by decide) rfl d_N_refuseUnknown_7 d_N_refuseUnknown_10 d_N_refuseUnknown_11 d_N_refuseUnknown_13 d_N_refuseUnknown_16 xl_121 xi_0 xn_0 xs_205 rfl (by decide) (by decide) (by decide) (by decide) ⟨rfl, rfl, rfl⟩

set_option maxRecDepth 100000 in
set_option maxHeartbeats 4000000 in
theorem c_N_refU0 (l : Launch) (htr : ∀ e, l.admits e → e.platform.stackTraces = false) (D : hv_D) (h : hv_P) (nx : Nat) {b c n : Nat} {wk : Int32} {pl : Nat → Nat} {la : Nat → Option Nat} {re im : Nat → Int32} (hS : nS h b wk c pl la re im n) {w part : Int32} (hx : tellV c pl la w part) : hv_NT l D M_N_refuseUnknown (hv_ws M_N_refuseUnknown) (hv_rm 1 23 0 0) [.ref b, .int w, .int part] h nx (hv_ans none (fun h' n' => h' = h ∧ n' = nx)) := by
  refine hv_NT.of [some (.ref b), some (.int w), some (.int part)] (by decide +kernel) rfl rfl rfl ?_
  obtain ⟨lk, cu, u, l0, cp, hb, hT, hu, hu2, hl0, hcp, hcpk, hW, hL, hlk, hG, hC, hN⟩ := hS
  have ol := OPN_lt hN
  have pl20 := pc_le ol
  have p2 : 2 ^ pc_ (OPN c pl la) ≤ 1048576 := p20 ol
  refine V_aload_n d_N_refuseUnknown_0 rfl ?_
  refine V_callV1 d_N_refuseUnknown_1 ml_N_103 mB_N_isReady mi_N_isReady mv_N_isReady rfl hb (c_N_isReady l D _ _ hb) rfl rfl rfl rfl rfl rfl rfl ?_
  rintro h8 n8 ⟨e8, e9⟩
  have e8 := e8.symm
  have e9 := e9.symm
  subst e8
  subst e9
  rw [rdy_cls hN]
  refine V_if_ne 17 d_N_refuseUnknown_4 (by decide) (fun _ => ?_) (fun q => absurd q (by rw [hx.1]; decide))
  refine V_iload_n d_N_refuseUnknown_17 rfl ?_
  refine V_if_lt 26 d_N_refuseUnknown_18 (by decide) (fun q => absurd q hx.2.1.1) (fun _ => ?_)
  refine V_iload_n d_N_refuseUnknown_21 rfl ?_
  refine V_iconst (1) d_N_refuseUnknown_22 rfl ?_
  refine V_icmp_le 36 d_N_refuseUnknown_23 (by decide) (fun _ => ?_) (fun q => absurd (Int32.not_lt.mp hx.2.1.2) q)
  refine V_iload_n d_N_refuseUnknown_36 rfl ?_
  refine V_if_lt 54 d_N_refuseUnknown_37 (by decide) (fun q => absurd q hx.2.2.1) (fun _ => ?_)
  refine V_iload_n d_N_refuseUnknown_40 rfl ?_
  refine V_iconst (nI 1) d_N_refuseUnknown_41 rfl ?_
  refine V_aload_n d_N_refuseUnknown_42 rfl ?_
  refine V_iconst (nI 1) d_N_refuseUnknown_43 rfl ?_
  refine V_callV1 d_N_refuseUnknown_44 ml_N_107 mB_N_namesUsed mi_N_namesUsed mv_N_namesUsed rfl hb (c_N_namesUsed l D _ _ hb hu (fun i hi => by rw [hu2 i hi]; have := hN.2.2.2.1 i; omega) (by decide)) rfl rfl rfl rfl rfl rfl rfl ?_
  rintro h8 n8 ⟨e8, e9⟩
  have e8 := e8.symm
  have e9 := e9.symm
  subst e8
  subst e9
  rw [OPN_nu hN hu2]
  refine V_callS1 d_N_refuseUnknown_47 ml_N_172 mB_JI_bitCount ms_JI_bitCount (c_bitCount l D _ _ (Nat.lt_trans ol (by decide))) rfl rfl rfl rfl rfl rfl rfl ?_
  rintro h8 n8 ⟨e8, e9⟩
  have e8 := e8.symm
  have e9 := e9.symm
  subst e8
  subst e9
  refine V_ishlN d_N_refuseUnknown_50 (by omega) ?_
  rw [Nat.one_mul]
  refine V_icmp_lt 64 d_N_refuseUnknown_51 (by decide) (fun _ => ?_) (fun q => absurd (Int32.not_le.mp hx.2.2.2) q)
  exact V_return d_N_refuseUnknown_64 rfl ⟨rfl, rfl, rfl⟩

set_option maxRecDepth 100000 in
set_option maxHeartbeats 4000000 in
theorem c_N_refP1 (l : Launch) (htr : ∀ e, l.admits e → e.platform.stackTraces = false) (D : hv_D) (h : hv_P) (nx : Nat) {b c n : Nat} {wk : Int32} {pl : Nat → Nat} {la : Nat → Option Nat} {re im : Nat → Int32} (hS : nS h b wk c pl la re im n) (hr : RDY c pl la = true) (hk : 12 < PK (LC pl la 0) c) : hv_NT l D M_N_refuseHighPeak (hv_ws M_N_refuseHighPeak) (hv_rm 6 124 1 6) [.ref b] h nx (hv_thr 1 (fun h' n' => n' = nx + 1 ∧ nFr b h h' ∧ ∃ wk', nS h' b wk' c pl la re im n)) := by
  refine hv_NT.of [some (.ref b)] (by decide +kernel) rfl rfl rfl ?_
  have hS0 := hS
  obtain ⟨lk, cu, u, l0, cp, hb, hT, hu, hu2, hl0, hcp, hcpk, hW, hL, hlk, hG, hC, hN⟩ := hS
  refine V_aload_n d_N_refuseHighPeak_0 rfl ?_
  refine V_callV1 d_N_refuseHighPeak_1 ml_N_128 mB_N_orderOfAll mi_N_orderOfAll mv_N_orderOfAll rfl hb (c_N_orderOfAll l D _ _ hS0 (fun _ => hr)) rfl rfl rfl rfl rfl rfl rfl ?_
  rintro h9 n9 ⟨e9, fr9, ⟨wk9, kw9, ns9⟩, ⟨ac9, ml9, lg9, co9, fi9, md9, wt9, y0, y1, y2, y3, y4, y5, y6, y7, y8⟩⟩
  have e9 := e9.symm
  subst e9
  have y8 := (y8 trivial).2.2.2.2.2
  subst y8
  have pk20 : PK (LC pl la 0) c ≤ 20 := PK_le (RDY_c hr) hN.1 (LC_lt hN _)
  refine V_getfield d_N_refuseHighPeak_4 fl_N_135 y0 rfl ?_
  refine V_bipush (nI 12) d_N_refuseHighPeak_7 rfl ?_
  refine V_icmp_leN 22 d_N_refuseHighPeak_9 (by decide) (by omega) (by decide) (fun q => by exfalso; omega) (fun _ => ?_)
  exact V_throw htr (fun s A q => q) (kx := 1) (by decide) rfl d_N_refuseHighPeak_12 d_N_refuseHighPeak_15 d_N_refuseHighPeak_16 d_N_refuseHighPeak_18 d_N_refuseHighPeak_21 xl_211 xi_1 xn_1 xs_213 rfl (by decide) (by decide) (by decide) (by decide) ⟨rfl, rfl, fr9, wk9, ns9⟩

set_option maxRecDepth 100000 in
set_option maxHeartbeats 4000000 in
theorem c_N_refP0 (l : Launch) (htr : ∀ e, l.admits e → e.platform.stackTraces = false) (D : hv_D) (h : hv_P) (nx : Nat) {b c n : Nat} {wk : Int32} {pl : Nat → Nat} {la : Nat → Option Nat} {re im : Nat → Int32} (hS : nS h b wk c pl la re im n) (hr : RDY c pl la = true) (hk : PK (LC pl la 0) c ≤ 12) : hv_NT l D M_N_refuseHighPeak (hv_ws M_N_refuseHighPeak) (hv_rm 5 124 0 0) [.ref b] h nx (hv_ans none (fun h' n' => n' = nx ∧ nFr b h h' ∧ ∃ wk', nS h' b wk' c pl la re im n)) := by
  refine hv_NT.of [some (.ref b)] (by decide +kernel) rfl rfl rfl ?_
  have hS0 := hS
  obtain ⟨lk, cu, u, l0, cp, hb, hT, hu, hu2, hl0, hcp, hcpk, hW, hL, hlk, hG, hC, hN⟩ := hS
  refine V_aload_n d_N_refuseHighPeak_0 rfl ?_
  refine V_callV1 d_N_refuseHighPeak_1 ml_N_128 mB_N_orderOfAll mi_N_orderOfAll mv_N_orderOfAll rfl hb (c_N_orderOfAll l D _ _ hS0 (fun _ => hr)) rfl rfl rfl rfl rfl rfl rfl ?_
  rintro h9 n9 ⟨e9, fr9, ⟨wk9, kw9, ns9⟩, ⟨ac9, ml9, lg9, co9, fi9, md9, wt9, y0, y1, y2, y3, y4, y5, y6, y7, y8⟩⟩
  have e9 := e9.symm
  subst e9
  have y8 := (y8 trivial).2.2.2.2.2
  subst y8
  have pk20 : PK (LC pl la 0) c ≤ 20 := PK_le (RDY_c hr) hN.1 (LC_lt hN _)
  refine V_getfield d_N_refuseHighPeak_4 fl_N_135 y0 rfl ?_
  refine V_bipush (nI 12) d_N_refuseHighPeak_7 rfl ?_
  refine V_icmp_leN 22 d_N_refuseHighPeak_9 (by decide) (by omega) (by decide) (fun _ => ?_) (fun q => by exfalso; omega)
  exact V_return d_N_refuseHighPeak_22 rfl ⟨rfl, rfl, fr9, wk9, ns9⟩

set_option maxRecDepth 100000 in
set_option maxHeartbeats 4000000 in
theorem c_N_value1 (l : Launch) (htr : ∀ e, l.admits e → e.platform.stackTraces = false) (D : hv_D) (h : hv_P) (nx : Nat) {b c n : Nat} {wk : Int32} {pl : Nat → Nat} {la : Nat → Option Nat} {re im : Nat → Int32} (hS : nS h b wk c pl la re im n) {w part : Int32} (hx : ¬ tellV c pl la w part) : hv_NT l D M_N_value (hv_ws M_N_value) (hv_rm 7 110 1 6) [.ref b, .int w, .int part] h nx (hv_thr 0 (fun h' n' => h' = h ∧ n' = nx + 1)) := by
  refine hv_NT.of [some (.ref b), some (.int w), some (.int part)] (by decide +kernel) rfl rfl rfl ?_
  have hS1 := hS
  obtain ⟨lk, cu, u, l0, cp, hb, _⟩ := hS1
  refine V_aload_n d_N_value_0 rfl ?_
  refine V_iload_n d_N_value_1 rfl ?_
  refine V_iload_n d_N_value_2 rfl ?_
  refine V_vT (fun s A q => q) d_N_value_3 ml_N_111 mB_N_refuseUnknown mi_N_refuseUnknown mv_N_refuseUnknown rfl hb (c_N_refU1 l htr D _ _ hS hx) hv_thr_r rfl rfl rfl rfl rfl (by decide) (by decide) ?_
  rintro k h9 n9 ⟨e, q⟩
  exact ⟨e, q⟩

set_option maxRecDepth 100000 in
set_option maxHeartbeats 4000000 in
theorem c_N_value2 (l : Launch) (htr : ∀ e, l.admits e → e.platform.stackTraces = false) (D : hv_D) (h : hv_P) (nx : Nat) {b c n : Nat} {wk : Int32} {pl : Nat → Nat} {la : Nat → Option Nat} {re im : Nat → Int32} (hS : nS h b wk c pl la re im n) {w part : Int32} (hx : tellV c pl la w part) (hk : 12 < PK (LC pl la 0) c) : hv_NT l D M_N_value (hv_ws M_N_value) (hv_rm 7 156 1 6) [.ref b, .int w, .int part] h nx (hv_thr 1 (fun h' n' => n' = nx + 1 ∧ nFr b h h' ∧ ∃ wk', nS h' b wk' c pl la re im n)) := by
  refine hv_NT.of [some (.ref b), some (.int w), some (.int part)] (by decide +kernel) rfl rfl rfl ?_
  have hS1 := hS
  obtain ⟨lk, cu, u, l0, cp, hb, _⟩ := hS1
  refine V_aload_n d_N_value_0 rfl ?_
  refine V_iload_n d_N_value_1 rfl ?_
  refine V_iload_n d_N_value_2 rfl ?_
  refine V_vR (fun s A q => q.1) d_N_value_3 ml_N_111 mB_N_refuseUnknown mi_N_refuseUnknown mv_N_refuseUnknown rfl hb (c_N_refU0 l htr D _ _ hS hx) hv_ans_r rfl rfl rfl rfl rfl (Nat.zero_le _) (Nat.zero_le _) ?_
  rintro v h9 n9 ⟨e, e8, e9⟩
  cases e
  have e8 := e8.symm
  have e9 := e9.symm
  subst e8
  subst e9
  refine V_aload_n d_N_value_6 rfl ?_
  refine V_vT (fun s A q => q) d_N_value_7 ml_N_114 mB_N_refuseHighPeak mi_N_refuseHighPeak mv_N_refuseHighPeak rfl hb (c_N_refP1 l htr D _ _ hS hx.1 hk) hv_thr_r rfl rfl rfl rfl rfl (by decide) (by decide) ?_
  rintro k h9 n9 ⟨e, q⟩
  exact ⟨e, q⟩

set_option maxRecDepth 100000 in
set_option maxHeartbeats 4000000 in
theorem c_N_value30 (l : Launch) (htr : ∀ e, l.admits e → e.platform.stackTraces = false) (D : hv_D) (h : hv_P) (nx : Nat) {b c n : Nat} {wk : Int32} {pl : Nat → Nat} {la : Nat → Option Nat} {re im : Nat → Int32} (hS : nS h b wk c pl la re im n) {w part : Int32} (hx : tellV c pl la w part) (hk : PK (LC pl la 0) c ≤ 12) (hnx : b + 91 ≤ nx) (hnd : ndF c pl la ≤ n) : hv_NT l D M_N_value (hv_ws M_N_value) (hv_rm 6 156 0 0) [.ref b, .int w, .int part] h nx (hv_ans (some (.long (A_val c pl la re im (-1) 0 w part))) (fun h' n' => n' = nx ∧ nFr2 b h h' ∧ ∃ wk', nS h' b wk' c pl la re im (gN n (ndF c pl la)))) := by
  refine hv_NT.of [some (.ref b), some (.int w), some (.int part)] (by decide +kernel) rfl rfl rfl ?_
  obtain ⟨j1, j2⟩ := i32_nat hx.2.2.1 (Int32.not_le.mp hx.2.2.2) (Nat.lt_of_le_of_lt (p20 (OPN_lt hS.ok)) (by decide))
  have p2 : 2 ^ pc_ (OPN c pl la) ≤ 1048576 := p20 (OPN_lt hS.ok)
  have hS1 := hS
  obtain ⟨lk, cu, u, l0, cp, hb, _⟩ := hS1
  refine V_aload_n d_N_value_0 rfl ?_
  refine V_iload_n d_N_value_1 rfl ?_
  refine V_iload_n d_N_value_2 rfl ?_
  refine V_vR (fun s A q => q.1) d_N_value_3 ml_N_111 mB_N_refuseUnknown mi_N_refuseUnknown mv_N_refuseUnknown rfl hb (c_N_refU0 l htr D _ _ hS hx) hv_ans_r rfl rfl rfl rfl rfl (Nat.zero_le _) (Nat.zero_le _) ?_
  rintro v h9 n9 ⟨e, e8, e9⟩
  cases e
  have e8 := e8.symm
  have e9 := e9.symm
  subst e8
  subst e9
  refine V_aload_n d_N_value_6 rfl ?_
  refine V_vR (fun s A q => q.1) d_N_value_7 ml_N_114 mB_N_refuseHighPeak mi_N_refuseHighPeak mv_N_refuseHighPeak rfl hb (c_N_refP0 l htr D _ _ hS hx.1 hk) hv_ans_r rfl rfl rfl rfl rfl (Nat.zero_le _) (Nat.zero_le _) ?_
  rintro v h9 n9 ⟨e, e9, fr9, wk9, ns9⟩
  cases e
  have e9 := e9.symm
  subst e9
  have ns90 := ns9
  obtain ⟨lk9, cu9, u9, l09, cp9, hb9, _⟩ := ns90
  refine V_aload_n d_N_value_10 rfl ?_
  refine V_iconst (-1) d_N_value_11 rfl ?_
  refine V_iconst (-1) d_N_value_12 rfl ?_
  refine V_iload_n (x := nI w.toNatClampNeg) d_N_value_13 (by rw [← j2]; rfl) ?_
  refine V_iload_n d_N_value_14 rfl ?_
  refine V_callV1 d_N_value_15 ml_N_117 mB_N_contracted mi_N_contracted mv_N_contracted rfl hb9 (c_N_contracted0 l D _ _ ns9 hx.1 hk (so := -1) (sx := -1) (part := part) (Or.inl ⟨rfl, rfl⟩) (w := w.toNatClampNeg) (by omega) hnx hnd) rfl rfl rfl rfl rfl rfl rfl ?_
  rintro h10 n10 ⟨e10, fr10, wk10, ns10⟩
  exact V_lreturn d_N_value_18 rfl ⟨by rw [← A_val_m1 (sx := -1) hS.ok.1]; rfl, e10, fun q hq => (fr10 q hq).trans (fr9 q (by omega)), wk10, ns10⟩

set_option maxRecDepth 100000 in
set_option maxHeartbeats 4000000 in
theorem c_N_slope30 (l : Launch) (htr : ∀ e, l.admits e → e.platform.stackTraces = false) (D : hv_D) (h : hv_P) (nx : Nat) {b c n : Nat} {wk : Int32} {pl : Nat → Nat} {la : Nat → Option Nat} {re im : Nat → Int32} (hS : nS h b wk c pl la re im n) {t x w part : Int32} (hi : idxV c pl t x) (hx : tellV c pl la w part) (hk : PK (LC pl la 0) c ≤ 12) (hnx : b + 91 ≤ nx) (hnd : ndF c pl la ≤ n) : hv_NT l D M_N_slope (hv_ws M_N_slope) (hv_rm 6 156 0 0) [.ref b, .int t, .int x, .int w, .int part] h nx (hv_ans (some (.long (A_val c pl la re im t x w part))) (fun h' n' => n' = nx ∧ nFr2 b h h' ∧ ∃ wk', nS h' b wk' c pl la re im (gN n (ndF c pl la)))) := by
  refine hv_NT.of [some (.ref b), some (.int t), some (.int x), some (.int w), some (.int part)] (by decide +kernel) rfl rfl rfl ?_
  obtain ⟨j1, j2⟩ := i32_nat hx.2.2.1 (Int32.not_le.mp hx.2.2.2) (Nat.lt_of_le_of_lt (p20 (OPN_lt hS.ok)) (by decide))
  have p2 : 2 ^ pc_ (OPN c pl la) ≤ 1048576 := p20 (OPN_lt hS.ok)
  have hS1 := hS
  obtain ⟨lk, cu, u, l0, cp, hb, hT, hu, hu2, hl0, hcp, hcpk, hW, hL, hlk, hG, hC, hN⟩ := hS1
  obtain ⟨⟨t1, t2⟩, x1, x2⟩ := id hi
  obtain ⟨i1, i2⟩ := i32_nat t1 (Int32.not_le.mp t2) (by have := hN.1; omega)
  have p6 := hN.2.1 _ i1
  have p64 : 2 ^ pl t.toNatClampNeg ≤ 2 ^ 6 := Nat.pow_le_pow_right (by decide) p6
  obtain ⟨k1, k2⟩ := i32_nat x1 (Int32.not_le.mp x2) (by omega)
  refine V_aload_n d_N_slope_0 rfl ?_
  refine V_iload_n d_N_slope_1 rfl ?_
  refine V_iload d_N_slope_2 rfl ?_
  refine V_vR (fun s A q => q.1) d_N_slope_4 ml_N_111 mB_N_refuseUnknown mi_N_refuseUnknown mv_N_refuseUnknown rfl hb (c_N_refU0 l htr D _ _ hS hx) hv_ans_r rfl rfl rfl rfl rfl (Nat.zero_le _) (Nat.zero_le _) ?_
  rintro v h9 n9 ⟨e, e8, e9⟩
  cases e
  have e8 := e8.symm
  have e9 := e9.symm
  subst e8
  subst e9
  refine V_aload_n d_N_slope_7 rfl ?_
  refine V_iload_n d_N_slope_8 rfl ?_
  refine V_iload_n d_N_slope_9 rfl ?_
  refine V_callV1 d_N_slope_10 ml_N_84 mB_N_isEntry mi_N_isEntry mv_N_isEntry rfl hb (c_N_isEntry l D _ _ hb hT hN t x) rfl rfl rfl rfl rfl rfl rfl ?_
  rintro h8 n8 ⟨e8, e9⟩
  have e8 := e8.symm
  have e9 := e9.symm
  subst e8
  subst e9
  refine V_if_ne 26 d_N_slope_13 (by decide) (fun _ => ?_) (fun q => absurd q (by rw [bZ_p hi]; decide))
  refine V_aload_n d_N_slope_26 rfl ?_
  refine V_vR (fun s A q => q.1) d_N_slope_27 ml_N_114 mB_N_refuseHighPeak mi_N_refuseHighPeak mv_N_refuseHighPeak rfl hb (c_N_refP0 l htr D _ _ hS hx.1 hk) hv_ans_r rfl rfl rfl rfl rfl (Nat.zero_le _) (Nat.zero_le _) ?_
  rintro v h9 n9 ⟨e, e9, fr9, wk9, ns9⟩
  cases e
  have e9 := e9.symm
  subst e9
  have ns90 := ns9
  obtain ⟨lk9, cu9, u9, l09, cp9, hb9, _⟩ := ns90
  refine V_aload_n d_N_slope_30 rfl ?_
  refine V_iload_n d_N_slope_31 rfl ?_
  refine V_iload_n d_N_slope_32 rfl ?_
  refine V_iload_n (x := nI w.toNatClampNeg) d_N_slope_33 (by rw [← j2]; rfl) ?_
  refine V_iload d_N_slope_34 rfl ?_
  refine V_callV1 d_N_slope_36 ml_N_117 mB_N_contracted mi_N_contracted mv_N_contracted rfl hb9 (c_N_contracted0 l D _ _ ns9 hx.1 hk (so := t) (sx := x) (part := part) (Or.inr ⟨_, _, i1, k1, i2, k2⟩) (w := w.toNatClampNeg) (by omega) hnx hnd) rfl rfl rfl rfl rfl rfl rfl ?_
  rintro h10 n10 ⟨e10, fr10, wk10, ns10⟩
  exact V_lreturn d_N_slope_39 rfl ⟨rfl, e10, fun q hq => (fr10 q hq).trans (fr9 q (by omega)), wk10, ns10⟩

set_option maxRecDepth 100000 in
set_option maxHeartbeats 4000000 in
theorem c_N_value31 (l : Launch) (htr : ∀ e, l.admits e → e.platform.stackTraces = false) (D : hv_D) (h : hv_P) (nx : Nat) {b c n : Nat} {wk : Int32} {pl : Nat → Nat} {la : Nat → Option Nat} {re im : Nat → Int32} (hS : nS h b wk c pl la re im n) {w part : Int32} (hx : tellV c pl la w part) (hk : PK (LC pl la 0) c ≤ 12) (hnx : b + 91 ≤ nx) (hnd : n < ndF c pl la) : hv_NT l D M_N_value (hv_ws M_N_value) (hv_rm 6 156 2 (2 * max (ndF c pl la) (2 * n))) [.ref b, .int w, .int part] h nx (hv_ans (some (.long (A_val c pl la re im (-1) 0 w part))) (fun h' n' => n' = nx + 2 ∧ nFr2 b h h' ∧ ∃ wk', nS h' b wk' c pl la re im (gN n (ndF c pl la)))) := by
  refine hv_NT.of [some (.ref b), some (.int w), some (.int part)] (by decide +kernel) rfl rfl rfl ?_
  obtain ⟨j1, j2⟩ := i32_nat hx.2.2.1 (Int32.not_le.mp hx.2.2.2) (Nat.lt_of_le_of_lt (p20 (OPN_lt hS.ok)) (by decide))
  have p2 : 2 ^ pc_ (OPN c pl la) ≤ 1048576 := p20 (OPN_lt hS.ok)
  have hS1 := hS
  obtain ⟨lk, cu, u, l0, cp, hb, _⟩ := hS1
  refine V_aload_n d_N_value_0 rfl ?_
  refine V_iload_n d_N_value_1 rfl ?_
  refine V_iload_n d_N_value_2 rfl ?_
  refine V_vR (fun s A q => q.1) d_N_value_3 ml_N_111 mB_N_refuseUnknown mi_N_refuseUnknown mv_N_refuseUnknown rfl hb (c_N_refU0 l htr D _ _ hS hx) hv_ans_r rfl rfl rfl rfl rfl (Nat.zero_le _) (Nat.zero_le _) ?_
  rintro v h9 n9 ⟨e, e8, e9⟩
  cases e
  have e8 := e8.symm
  have e9 := e9.symm
  subst e8
  subst e9
  refine V_aload_n d_N_value_6 rfl ?_
  refine V_vR (fun s A q => q.1) d_N_value_7 ml_N_114 mB_N_refuseHighPeak mi_N_refuseHighPeak mv_N_refuseHighPeak rfl hb (c_N_refP0 l htr D _ _ hS hx.1 hk) hv_ans_r rfl rfl rfl rfl rfl (Nat.zero_le _) (Nat.zero_le _) ?_
  rintro v h9 n9 ⟨e, e9, fr9, wk9, ns9⟩
  cases e
  have e9 := e9.symm
  subst e9
  have ns90 := ns9
  obtain ⟨lk9, cu9, u9, l09, cp9, hb9, _⟩ := ns90
  refine V_aload_n d_N_value_10 rfl ?_
  refine V_iconst (-1) d_N_value_11 rfl ?_
  refine V_iconst (-1) d_N_value_12 rfl ?_
  refine V_iload_n (x := nI w.toNatClampNeg) d_N_value_13 (by rw [← j2]; rfl) ?_
  refine V_iload_n d_N_value_14 rfl ?_
  refine V_cV1 0 0 d_N_value_15 ml_N_117 mB_N_contracted mi_N_contracted mv_N_contracted rfl hb9 (c_N_contracted1 l D _ _ ns9 hx.1 hk (so := -1) (sx := -1) (part := part) (Or.inl ⟨rfl, rfl⟩) (w := w.toNatClampNeg) (by omega) hnx hnd) rfl rfl rfl rfl rfl rfl (Nat.zero_add _).symm ?_
  rintro h10 n10 ⟨e10, fr10, wk10, ns10⟩
  exact V_lreturn d_N_value_18 rfl ⟨by rw [← A_val_m1 (sx := -1) hS.ok.1]; rfl, e10, fun q hq => (fr10 q hq).trans (fr9 q (by omega)), wk10, ns10⟩

set_option maxRecDepth 100000 in
set_option maxHeartbeats 4000000 in
theorem c_N_slope31 (l : Launch) (htr : ∀ e, l.admits e → e.platform.stackTraces = false) (D : hv_D) (h : hv_P) (nx : Nat) {b c n : Nat} {wk : Int32} {pl : Nat → Nat} {la : Nat → Option Nat} {re im : Nat → Int32} (hS : nS h b wk c pl la re im n) {t x w part : Int32} (hi : idxV c pl t x) (hx : tellV c pl la w part) (hk : PK (LC pl la 0) c ≤ 12) (hnx : b + 91 ≤ nx) (hnd : n < ndF c pl la) : hv_NT l D M_N_slope (hv_ws M_N_slope) (hv_rm 6 156 2 (2 * max (ndF c pl la) (2 * n))) [.ref b, .int t, .int x, .int w, .int part] h nx (hv_ans (some (.long (A_val c pl la re im t x w part))) (fun h' n' => n' = nx + 2 ∧ nFr2 b h h' ∧ ∃ wk', nS h' b wk' c pl la re im (gN n (ndF c pl la)))) := by
  refine hv_NT.of [some (.ref b), some (.int t), some (.int x), some (.int w), some (.int part)] (by decide +kernel) rfl rfl rfl ?_
  obtain ⟨j1, j2⟩ := i32_nat hx.2.2.1 (Int32.not_le.mp hx.2.2.2) (Nat.lt_of_le_of_lt (p20 (OPN_lt hS.ok)) (by decide))
  have p2 : 2 ^ pc_ (OPN c pl la) ≤ 1048576 := p20 (OPN_lt hS.ok)
  have hS1 := hS
  obtain ⟨lk, cu, u, l0, cp, hb, hT, hu, hu2, hl0, hcp, hcpk, hW, hL, hlk, hG, hC, hN⟩ := hS1
  obtain ⟨⟨t1, t2⟩, x1, x2⟩ := id hi
  obtain ⟨i1, i2⟩ := i32_nat t1 (Int32.not_le.mp t2) (by have := hN.1; omega)
  have p6 := hN.2.1 _ i1
  have p64 : 2 ^ pl t.toNatClampNeg ≤ 2 ^ 6 := Nat.pow_le_pow_right (by decide) p6
  obtain ⟨k1, k2⟩ := i32_nat x1 (Int32.not_le.mp x2) (by omega)
  refine V_aload_n d_N_slope_0 rfl ?_
  refine V_iload_n d_N_slope_1 rfl ?_
  refine V_iload d_N_slope_2 rfl ?_
  refine V_vR (fun s A q => q.1) d_N_slope_4 ml_N_111 mB_N_refuseUnknown mi_N_refuseUnknown mv_N_refuseUnknown rfl hb (c_N_refU0 l htr D _ _ hS hx) hv_ans_r rfl rfl rfl rfl rfl (Nat.zero_le _) (Nat.zero_le _) ?_
  rintro v h9 n9 ⟨e, e8, e9⟩
  cases e
  have e8 := e8.symm
  have e9 := e9.symm
  subst e8
  subst e9
  refine V_aload_n d_N_slope_7 rfl ?_
  refine V_iload_n d_N_slope_8 rfl ?_
  refine V_iload_n d_N_slope_9 rfl ?_
  refine V_callV1 d_N_slope_10 ml_N_84 mB_N_isEntry mi_N_isEntry mv_N_isEntry rfl hb (c_N_isEntry l D _ _ hb hT hN t x) rfl rfl rfl rfl rfl rfl rfl ?_
  rintro h8 n8 ⟨e8, e9⟩
  have e8 := e8.symm
  have e9 := e9.symm
  subst e8
  subst e9
  refine V_if_ne 26 d_N_slope_13 (by decide) (fun _ => ?_) (fun q => absurd q (by rw [bZ_p hi]; decide))
  refine V_aload_n d_N_slope_26 rfl ?_
  refine V_vR (fun s A q => q.1) d_N_slope_27 ml_N_114 mB_N_refuseHighPeak mi_N_refuseHighPeak mv_N_refuseHighPeak rfl hb (c_N_refP0 l htr D _ _ hS hx.1 hk) hv_ans_r rfl rfl rfl rfl rfl (Nat.zero_le _) (Nat.zero_le _) ?_
  rintro v h9 n9 ⟨e, e9, fr9, wk9, ns9⟩
  cases e
  have e9 := e9.symm
  subst e9
  have ns90 := ns9
  obtain ⟨lk9, cu9, u9, l09, cp9, hb9, _⟩ := ns90
  refine V_aload_n d_N_slope_30 rfl ?_
  refine V_iload_n d_N_slope_31 rfl ?_
  refine V_iload_n d_N_slope_32 rfl ?_
  refine V_iload_n (x := nI w.toNatClampNeg) d_N_slope_33 (by rw [← j2]; rfl) ?_
  refine V_iload d_N_slope_34 rfl ?_
  refine V_cV1 0 0 d_N_slope_36 ml_N_117 mB_N_contracted mi_N_contracted mv_N_contracted rfl hb9 (c_N_contracted1 l D _ _ ns9 hx.1 hk (so := t) (sx := x) (part := part) (Or.inr ⟨_, _, i1, k1, i2, k2⟩) (w := w.toNatClampNeg) (by omega) hnx hnd) rfl rfl rfl rfl rfl rfl (Nat.zero_add _).symm ?_
  rintro h10 n10 ⟨e10, fr10, wk10, ns10⟩
  exact V_lreturn d_N_slope_39 rfl ⟨rfl, e10, fun q hq => (fr10 q hq).trans (fr9 q (by omega)), wk10, ns10⟩

set_option maxRecDepth 100000 in
set_option maxHeartbeats 4000000 in
theorem c_N_slope1a (l : Launch) (htr : ∀ e, l.admits e → e.platform.stackTraces = false) (D : hv_D) (h : hv_P) (nx : Nat) {b c n : Nat} {wk : Int32} {pl : Nat → Nat} {la : Nat → Option Nat} {re im : Nat → Int32} (hS : nS h b wk c pl la re im n) {t x w part : Int32} (hx : ¬ tellV c pl la w part) : hv_NT l D M_N_slope (hv_ws M_N_slope) (hv_rm 7 110 1 6) [.ref b, .int t, .int x, .int w, .int part] h nx (hv_thr 0 (fun h' n' => h' = h ∧ n' = nx + 1)) := by
  refine hv_NT.of [some (.ref b), some (.int t), some (.int x), some (.int w), some (.int part)] (by decide +kernel) rfl rfl rfl ?_
  have hS1 := hS
  obtain ⟨lk, cu, u, l0, cp, hb, _⟩ := hS1
  refine V_aload_n d_N_slope_0 rfl ?_
  refine V_iload_n d_N_slope_1 rfl ?_
  refine V_iload d_N_slope_2 rfl ?_
  refine V_vT (fun s A q => q) d_N_slope_4 ml_N_111 mB_N_refuseUnknown mi_N_refuseUnknown mv_N_refuseUnknown rfl hb (c_N_refU1 l htr D _ _ hS hx) hv_thr_r rfl rfl rfl rfl rfl (by decide) (by decide) ?_
  rintro k h9 n9 ⟨e, q⟩
  exact ⟨e, q⟩

set_option maxRecDepth 100000 in
set_option maxHeartbeats 4000000 in
theorem c_N_slope1b (l : Launch) (htr : ∀ e, l.admits e → e.platform.stackTraces = false) (D : hv_D) (h : hv_P) (nx : Nat) {b c n : Nat} {wk : Int32} {pl : Nat → Nat} {la : Nat → Option Nat} {re im : Nat → Int32} (hS : nS h b wk c pl la re im n) {t x w part : Int32} (hi : ¬ idxV c pl t x) (hx : tellV c pl la w part) : hv_NT l D M_N_slope (hv_ws M_N_slope) (hv_rm 7 110 1 6) [.ref b, .int t, .int x, .int w, .int part] h nx (hv_thr 0 (fun h' n' => h' = h ∧ n' = nx + 1)) := by
  refine hv_NT.of [some (.ref b), some (.int t), some (.int x), some (.int w), some (.int part)] (by decide +kernel) rfl rfl rfl ?_
  have hS1 := hS
  obtain ⟨lk, cu, u, l0, cp, hb, hT, hu, hu2, hl0, hcp, hcpk, hW, hL, hlk, hG, hC, hN⟩ := hS1
  refine V_aload_n d_N_slope_0 rfl ?_
  refine V_iload_n d_N_slope_1 rfl ?_
  refine V_iload d_N_slope_2 rfl ?_
  refine V_vR (fun s A q => q.1) d_N_slope_4 ml_N_111 mB_N_refuseUnknown mi_N_refuseUnknown mv_N_refuseUnknown rfl hb (c_N_refU0 l htr D _ _ hS hx) hv_ans_r rfl rfl rfl rfl rfl (Nat.zero_le _) (Nat.zero_le _) ?_
  rintro v h9 n9 ⟨e, e8, e9⟩
  cases e
  have e8 := e8.symm
  have e9 := e9.symm
  subst e8
  subst e9
  refine V_aload_n d_N_slope_7 rfl ?_
  refine V_iload_n d_N_slope_8 rfl ?_
  refine V_iload_n d_N_slope_9 rfl ?_
  refine V_callV1 d_N_slope_10 ml_N_84 mB_N_isEntry mi_N_isEntry mv_N_isEntry rfl hb (c_N_isEntry l D _ _ hb hT hN t x) rfl rfl rfl rfl rfl rfl rfl ?_
  rintro h8 n8 ⟨e8, e9⟩
  have e8 := e8.symm
  have e9 := e9.symm
  subst e8
  subst e9
  refine V_if_ne 26 d_N_slope_13 (by decide) (fun q => absurd (bZ_n hi) q) (fun _ => ?_)
  exact V_throw htr (fun s A q => q) (kx := 0) (by decide) rfl d_N_slope_16 d_N_slope_19 d_N_slope_20 d_N_slope_22 d_N_slope_25 xl_121 xi_0 xn_0 xs_123 rfl (by decide) (by decide) (by decide) (by decide) ⟨rfl, rfl, rfl⟩

set_option maxRecDepth 100000 in
set_option maxHeartbeats 4000000 in
theorem c_N_slope2 (l : Launch) (htr : ∀ e, l.admits e → e.platform.stackTraces = false) (D : hv_D) (h : hv_P) (nx : Nat) {b c n : Nat} {wk : Int32} {pl : Nat → Nat} {la : Nat → Option Nat} {re im : Nat → Int32} (hS : nS h b wk c pl la re im n) {t x w part : Int32} (hi : idxV c pl t x) (hx : tellV c pl la w part) (hk : 12 < PK (LC pl la 0) c) : hv_NT l D M_N_slope (hv_ws M_N_slope) (hv_rm 7 156 1 6) [.ref b, .int t, .int x, .int w, .int part] h nx (hv_thr 1 (fun h' n' => n' = nx + 1 ∧ nFr b h h' ∧ ∃ wk', nS h' b wk' c pl la re im n)) := by
  refine hv_NT.of [some (.ref b), some (.int t), some (.int x), some (.int w), some (.int part)] (by decide +kernel) rfl rfl rfl ?_
  have hS1 := hS
  obtain ⟨lk, cu, u, l0, cp, hb, hT, hu, hu2, hl0, hcp, hcpk, hW, hL, hlk, hG, hC, hN⟩ := hS1
  refine V_aload_n d_N_slope_0 rfl ?_
  refine V_iload_n d_N_slope_1 rfl ?_
  refine V_iload d_N_slope_2 rfl ?_
  refine V_vR (fun s A q => q.1) d_N_slope_4 ml_N_111 mB_N_refuseUnknown mi_N_refuseUnknown mv_N_refuseUnknown rfl hb (c_N_refU0 l htr D _ _ hS hx) hv_ans_r rfl rfl rfl rfl rfl (Nat.zero_le _) (Nat.zero_le _) ?_
  rintro v h9 n9 ⟨e, e8, e9⟩
  cases e
  have e8 := e8.symm
  have e9 := e9.symm
  subst e8
  subst e9
  refine V_aload_n d_N_slope_7 rfl ?_
  refine V_iload_n d_N_slope_8 rfl ?_
  refine V_iload_n d_N_slope_9 rfl ?_
  refine V_callV1 d_N_slope_10 ml_N_84 mB_N_isEntry mi_N_isEntry mv_N_isEntry rfl hb (c_N_isEntry l D _ _ hb hT hN t x) rfl rfl rfl rfl rfl rfl rfl ?_
  rintro h8 n8 ⟨e8, e9⟩
  have e8 := e8.symm
  have e9 := e9.symm
  subst e8
  subst e9
  refine V_if_ne 26 d_N_slope_13 (by decide) (fun _ => ?_) (fun q => absurd q (by rw [bZ_p hi]; decide))
  refine V_aload_n d_N_slope_26 rfl ?_
  refine V_vT (fun s A q => q) d_N_slope_27 ml_N_114 mB_N_refuseHighPeak mi_N_refuseHighPeak mv_N_refuseHighPeak rfl hb (c_N_refP1 l htr D _ _ hS hx.1 hk) hv_thr_r rfl rfl rfl rfl rfl (by decide) (by decide) ?_
  rintro k h9 n9 ⟨e, q⟩
  exact ⟨e, q⟩
