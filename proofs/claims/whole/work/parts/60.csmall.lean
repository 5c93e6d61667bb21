-- CONTRACTION: its small methods
theorem p20 {x : Nat} (h : x < 2 ^ 20) : 2 ^ pc_ x ≤ 1048576 := (two20 h).2
/-- how far a position goes when the count carries into the n-th name -/
def mvV (own n : Nat) : Int32 := nI (b_ own n * 2 ^ pc_n own n) - nI (2 ^ pc_n own n - 1)
def mvOK (both own : Nat) (f : Nat → Int32) (m : Nat) : Prop := ∀ n, n < m → both.testBit n = true → f (pc_n both n) = mvV own n
theorem mvOK_n {both own m : Nat} {f : Nat → Int32} (h : mvOK both own f m) (hb : both.testBit m = false) : mvOK both own f (m + 1) := fun n hn ht => by
  by_cases e : n = m
  · rw [e, hb] at ht; cases ht
  · exact h n (by omega) ht
theorem mvOK_s {both own m : Nat} {f : Nat → Int32} (h : mvOK both own f m) (hb : both.testBit m = true) : mvOK both own (va_up f (pc_n both m) (mvV own m)) (m + 1) := fun n hn ht => by
  by_cases e : n = m
  · rw [e, vu_s]
  · have := pc_lt (S := both) (show n < m by omega) ht
    rw [vu_n (by omega)]
    exact h n (by omega) ht
theorem pc_b (S n : Nat) : pc_n S (n + 1) = pc_n S n + b_ S n := by
  unfold b_
  cases h : S.testBit n
  · rw [pc_f h]; rfl
  · rw [pc_t h]; rfl
theorem two_b (S n : Nat) : 2 ^ pc_n S n + b_ S n * 2 ^ pc_n S n = 2 ^ pc_n S (n + 1) := by
  rw [pc_b]
  unfold b_
  split
  · rw [Nat.pow_succ]; omega
  · simp
set_option maxRecDepth 100000 in
set_option maxHeartbeats 4000000 in
theorem c_C_take (l : Launch) (D : hv_D) (h : hv_P) (nx : Nat) {a rr us B : Nat} {op : Int32} (ha : h a = some (oC a rr (rr + 1) op (nI us))) (hB : B < 2 ^ 20) : hv_N l D M_C_take (hv_rm 1 21 0 0) [.ref a, .int (nI B)] h nx (hv_ans (some (.int (nI us))) (fun h' n' => h' = hv_ov h [(a, oC a rr (rr + 1) op (nI (us + 2 ^ pc_ B)))] ∧ n' = nx)) := by
  refine hv_N.of' [some (.ref a), some (.int (nI B)), none] (by decide +kernel) rfl rfl rfl ?_
  refine V_aload_n d_C_take_0 rfl ?_
  refine V_getfield d_C_take_1 fl_C_38 ha rfl ?_
  refine V_istore_2 d_C_take_4 rfl ?_
  refine V_aload_n d_C_take_5 rfl ?_
  refine V_dup d_C_take_6 rfl ?_
  refine V_getfield d_C_take_7 fl_C_38 ha rfl ?_
  refine V_iconst (nI 1) d_C_take_10 rfl ?_
  refine V_iload_n d_C_take_11 rfl ?_
  refine V_callS1 d_C_take_12 ml_C_46 mB_JI_bitCount ms_JI_bitCount (c_bitCount l D _ _ (Nat.lt_of_lt_of_le hB (by decide))) rfl rfl rfl rfl rfl rfl rfl ?_
  rintro _ _ ⟨rfl, rfl⟩
  refine V_ishlN d_C_take_15 (by have := pc_le hB; omega) ?_
  rw [Nat.one_mul]
  refine V_iaddN d_C_take_16 ?_
  refine V_put (e' := oC a rr (rr + 1) op (nI (us + 2 ^ pc_ B))) d_C_take_17 fp_C_38 ha rfl rfl rfl rfl rfl ?_
  refine V_iload_n d_C_take_20 rfl ?_
  exact V_ireturn d_C_take_21 rfl ⟨rfl, rfl, rfl⟩

set_option maxRecDepth 100000 in
set_option maxHeartbeats 4000000 in
theorem c_C_findMoves (l : Launch) (D : hv_D) (h : hv_P) (nx : Nat) {m both own : Nat} {f : Nat → Int32} (hm : h m = some (eI 21 f)) (hboth : both < 2 ^ 20) (hown : own < 2 ^ 20) (hsub : own &&& both = own) : hv_N l D M_C_findMoves (hv_rm 1 21 0 0) [.ref m, .int (nI both), .int (nI own)] h nx (hv_ans none (fun h' n' => n' = nx ∧ ∃ f' : Nat → Int32, mvOK both own f' 20 ∧ h' = hv_ov h [(m, eI 21 f')])) := by
  refine hv_N.of' [some (.ref m), some (.int (nI both)), some (.int (nI own)), none, none, none, none, none] (by decide +kernel) rfl rfl rfl ?_
  have lp : ∀ (kk i : Nat), kk = 20 - i → i ≤ 20 → ∀ f : Nat → Int32, mvOK both own f i → hv_V l D M_C_findMoves (fun _ _ => True) (hv_rm 1 21 0 0) (hv_ans none (fun h' n' => n' = nx ∧ ∃ f' : Nat → Int32, mvOK both own f' 20 ∧ h' = hv_ov h [(m, eI 21 f')])) 0 0 (hv_ov h [(m, eI 21 f)]) nx 11 [some (.ref m), some (.int (nI both)), some (.int (nI own)), some (.int (nI (pc_n both i))), some (.int (nI (2 ^ pc_n own i))), some (.int (nI (2 ^ pc_n own i - 1))), some (.int (nI i)), none] [] := by
    intro kk
    induction kk using Nat.strongRecOn with
    | ind kk ih =>
      intro i hkk hi f hf
      refine V_iload d_C_findMoves_11 rfl ?_
      refine V_bipush (nI 20) d_C_findMoves_13 rfl ?_
      refine V_icmp_geN 75 d_C_findMoves_15 (by decide) (by omega) (by decide) (fun ci => ?_) (fun ci => ?_)
      · have ei : i = 20 := by omega
        subst ei
        refine V_aload_n d_C_findMoves_75 rfl ?_
        refine V_iload_n d_C_findMoves_76 rfl ?_
        refine V_iload d_C_findMoves_77 rfl ?_
        refine V_ineg d_C_findMoves_79 ?_
        refine V_ist d_C_findMoves_80 og_0 ⟨rfl, by have := pc_n_le both 20; omega, by decide⟩ (h' := hv_ov h [(m, eI 21 (va_up f (pc_n both 20) (-(nI (2 ^ pc_n own 20 - 1)))))]) ou_0 ?_
        exact V_return d_C_findMoves_81 rfl ⟨rfl, rfl, _, fun n hn ht => by rw [vu_n (by have := pc_lt (S := both) hn ht; omega)]; exact hf n hn ht, rfl⟩
      · rcases hb : both.testBit i with _ | _
        · refine V_iload d_C_findMoves_18 rfl ?_
          refine V_iload_n d_C_findMoves_20 rfl ?_
          refine V_callS1 d_C_findMoves_21 ml_C_101 mB_N_isIn ms_N_isIn (c_N_isIn l D _ _ (Nat.lt_trans hboth (by decide)) (by omega)) rfl rfl rfl rfl rfl rfl rfl ?_
          rintro _ _ ⟨rfl, rfl⟩
          refine V_if_eq 69 d_C_findMoves_24 (by decide) (fun _ => ?_) (fun q => absurd (by rw [hb]; rfl) q)
          refine V_iincN_6 1 d_C_findMoves_69 rfl rfl ?_
          refine V_goto 11 d_C_findMoves_72 (by decide) ?_
          have ho : own.testBit i = false := by
            cases z : own.testBit i
            · rfl
            · rw [sub_bit hsub z] at hb; cases hb
          have J := ih (20 - (i + 1)) (by omega) (i + 1) rfl (by omega) _ (mvOK_n hf hb)
          rw [pc_f hb, pc_f ho] at J
          exact J
        · refine V_iload d_C_findMoves_18 rfl ?_
          refine V_iload_n d_C_findMoves_20 rfl ?_
          refine V_callS1 d_C_findMoves_21 ml_C_101 mB_N_isIn ms_N_isIn (c_N_isIn l D _ _ (Nat.lt_trans hboth (by decide)) (by omega)) rfl rfl rfl rfl rfl rfl rfl ?_
          rintro _ _ ⟨rfl, rfl⟩
          refine V_if_eq 69 d_C_findMoves_24 (by decide) (fun q => absurd q (by rw [hb]; decide)) (fun _ => ?_)
          refine V_iload d_C_findMoves_27 rfl ?_
          refine V_iload_n d_C_findMoves_29 rfl ?_
          refine V_callS1 d_C_findMoves_30 ml_C_101 mB_N_isIn ms_N_isIn (c_N_isIn l D _ _ (Nat.lt_trans hown (by decide)) (by omega)) rfl rfl rfl rfl rfl rfl rfl ?_
          rintro _ _ ⟨rfl, rfl⟩
          refine V_if_eq 41 d_C_findMoves_33 (by decide) (fun co => ?_) (fun co => ?_)
          · have ho := bZ_eq.mp co
            have b0 : b_ own i = 0 := by unfold b_; rw [ho]; rfl
            refine V_iconst (nI 0) d_C_findMoves_41 rfl ?_
            refine V_eqI (y := nI (b_ own i * 2 ^ pc_n own i)) (by rw [b0, Nat.zero_mul]) ?_
            refine V_istore_7 d_C_findMoves_42 rfl ?_
            refine V_aload_n d_C_findMoves_44 rfl ?_
            refine V_iload_n d_C_findMoves_45 rfl ?_
            refine V_iload d_C_findMoves_46 rfl ?_
            refine V_iload d_C_findMoves_48 rfl ?_
            refine V_isub d_C_findMoves_50 ?_
            refine V_ist d_C_findMoves_51 og_0 ⟨rfl, by have := pc_n_le both i; omega, by decide⟩ (h' := hv_ov h [(m, eI 21 (va_up f (pc_n both i) (mvV own i)))]) ou_0 ?_
            refine V_iload d_C_findMoves_52 rfl ?_
            refine V_iload d_C_findMoves_54 rfl ?_
            refine V_iaddN d_C_findMoves_56 ?_
            rw [show 2 ^ pc_n own i - 1 + b_ own i * 2 ^ pc_n own i = 2 ^ pc_n own (i + 1) - 1 by rw [← two_b]; have := Nat.two_pow_pos (pc_n own i); omega]
            refine V_istore_5 d_C_findMoves_57 rfl ?_
            refine V_iload d_C_findMoves_59 rfl ?_
            refine V_iload d_C_findMoves_61 rfl ?_
            refine V_iaddN d_C_findMoves_63 ?_
            rw [two_b]
            refine V_istore_4 d_C_findMoves_64 rfl ?_
            refine V_iincN_3 1 d_C_findMoves_66 rfl rfl ?_
            refine V_iincN_6 1 d_C_findMoves_69 rfl rfl ?_
            refine V_goto 11 d_C_findMoves_72 (by decide) ?_
            have J := ih (20 - (i + 1)) (by omega) (i + 1) rfl (by omega) _ (mvOK_s hf hb)
            rw [pc_t hb] at J
            refine V_drop_7 ?_
            exact J
          · have ho := bZ_ne.mp co
            have b0 : b_ own i = 1 := by unfold b_; rw [ho]; rfl
            refine V_iload d_C_findMoves_36 rfl ?_
            refine V_goto 42 d_C_findMoves_38 (by decide) ?_
            refine V_eqI (y := nI (b_ own i * 2 ^ pc_n own i)) (by rw [b0, Nat.one_mul]) ?_
            refine V_istore_7 d_C_findMoves_42 rfl ?_
            refine V_aload_n d_C_findMoves_44 rfl ?_
            refine V_iload_n d_C_findMoves_45 rfl ?_
            refine V_iload d_C_findMoves_46 rfl ?_
            refine V_iload d_C_findMoves_48 rfl ?_
            refine V_isub d_C_findMoves_50 ?_
            refine V_ist d_C_findMoves_51 og_0 ⟨rfl, by have := pc_n_le both i; omega, by decide⟩ (h' := hv_ov h [(m, eI 21 (va_up f (pc_n both i) (mvV own i)))]) ou_0 ?_
            refine V_iload d_C_findMoves_52 rfl ?_
            refine V_iload d_C_findMoves_54 rfl ?_
            refine V_iaddN d_C_findMoves_56 ?_
            rw [show 2 ^ pc_n own i - 1 + b_ own i * 2 ^ pc_n own i = 2 ^ pc_n own (i + 1) - 1 by rw [← two_b]; have := Nat.two_pow_pos (pc_n own i); omega]
            refine V_istore_5 d_C_findMoves_57 rfl ?_
            refine V_iload d_C_findMoves_59 rfl ?_
            refine V_iload d_C_findMoves_61 rfl ?_
            refine V_iaddN d_C_findMoves_63 ?_
            rw [two_b]
            refine V_istore_4 d_C_findMoves_64 rfl ?_
            refine V_iincN_3 1 d_C_findMoves_66 rfl rfl ?_
            refine V_iincN_6 1 d_C_findMoves_69 rfl rfl ?_
            refine V_goto 11 d_C_findMoves_72 (by decide) ?_
            have J := ih (20 - (i + 1)) (by omega) (i + 1) rfl (by omega) _ (mvOK_s hf hb)
            rw [pc_t hb] at J
            refine V_drop_7 ?_
            exact J
  refine V_eqH (ob_1 hm) ?_
  refine V_iconst (nI 0) d_C_findMoves_0 rfl ?_
  refine V_istore_3 d_C_findMoves_1 rfl ?_
  refine V_iconst (nI 1) d_C_findMoves_2 rfl ?_
  refine V_istore_4 d_C_findMoves_3 rfl ?_
  refine V_iconst (nI 0) d_C_findMoves_5 rfl ?_
  refine V_istore_5 d_C_findMoves_6 rfl ?_
  refine V_iconst (nI 0) d_C_findMoves_8 rfl ?_
  refine V_istore_6 d_C_findMoves_9 rfl ?_
  exact lp _ 0 rfl (Nat.zero_le _) f (fun n hn => by omega)

set_option maxRecDepth 100000 in
set_option maxHeartbeats 4000000 in
theorem c_C_room0 (l : Launch) (D : hv_D) (h : hv_P) (nx : Nat) {a rr us nd n : Nat} {op : Int32} {f1 f2 : Nat → Int64} (ha : h a = some (oC a rr (rr + 1) op (nI us))) (h1 : h rr = some (eL n f1)) (h2 : h (rr + 1) = some (eL n f2)) (har : a ≠ rr ∧ a ≠ rr + 1) (hn : n < 100000) (hnd : nd ≤ n) : hv_N l D M_C_makeRoom (hv_rm 1 21 0 0) [.ref a, .int (nI nd)] h nx (hv_ans none (fun h' n' => h' = hv_ov h [(rr, eL n (hv_fill f1 nd 0)), (rr + 1, eL n (hv_fill f2 nd 0))] ∧ n' = nx)) := by
  refine hv_N.of' [some (.ref a), some (.int (nI nd)), none] (by decide +kernel) rfl rfl rfl ?_
  have lp : ∀ (kk i : Nat), kk = nd - i → i ≤ nd → hv_V l D M_C_makeRoom (fun _ _ => True) (hv_rm 1 21 0 0) (hv_ans none (fun h' n' => h' = hv_ov h [(rr, eL n (hv_fill f1 nd 0)), (rr + 1, eL n (hv_fill f2 nd 0))] ∧ n' = nx)) 0 0 (hv_ov h [(rr, eL n (hv_fill f1 i 0)), (rr + 1, eL n (hv_fill f2 i 0))]) nx 38 [some (.ref a), some (.int (nI nd)), some (.int (nI i))] [] := by
    intro kk
    induction kk using Nat.strongRecOn with
    | ind kk ih =>
      intro i hkk hi
      refine V_iload_n d_C_makeRoom_38 rfl ?_
      refine V_iload_n d_C_makeRoom_39 rfl ?_
      refine V_icmp_geN 63 d_C_makeRoom_40 (by decide) (by omega) (by omega) (fun ci => ?_) (fun ci => ?_)
      · have ei : i = nd := by omega
        subst ei
        exact V_return d_C_makeRoom_63 rfl ⟨rfl, rfl, rfl⟩
      · refine V_aload_n d_C_makeRoom_43 rfl ?_
        refine V_getfield d_C_makeRoom_44 fl_C_27 (oa_2 ha har.1 har.2) rfl ?_
        refine V_iload_n d_C_makeRoom_47 rfl ?_
        refine V_lconst 0 d_C_makeRoom_48 rfl ?_
        refine V_lst d_C_makeRoom_49 og_0 ⟨rfl, by omega, by omega⟩ (h' := hv_ov h [(rr, eL n (hv_fill f1 (i + 1) 0)), (rr + 1, eL n (hv_fill f2 i 0))]) (by rw [hv_fill_s]; exact ou_0) ?_
        refine V_aload_n d_C_makeRoom_50 rfl ?_
        refine V_getfield d_C_makeRoom_51 fl_C_31 (oa_2 ha har.1 har.2) rfl ?_
        refine V_iload_n d_C_makeRoom_54 rfl ?_
        refine V_lconst 0 d_C_makeRoom_55 rfl ?_
        refine V_lst d_C_makeRoom_56 (og_1 (by omega)) ⟨rfl, by omega, by omega⟩ (h' := hv_ov h [(rr, eL n (hv_fill f1 (i + 1) 0)), (rr + 1, eL n (hv_fill f2 (i + 1) 0))]) (by rw [hv_fill_s]; exact ou_1 (by omega)) ?_
        refine V_iincN_2 1 d_C_makeRoom_57 rfl rfl ?_
        refine V_goto 38 d_C_makeRoom_60 (by decide) ?_
        exact ih (nd - (i + 1)) (by omega) (i + 1) rfl (by omega)
  refine V_eqH (ob_2 h1 h2) ?_
  refine V_iload_n d_C_makeRoom_0 rfl ?_
  refine V_aload_n d_C_makeRoom_1 rfl ?_
  refine V_getfield d_C_makeRoom_2 fl_C_27 (oa_2 ha har.1 har.2) rfl ?_
  refine V_arraylength d_C_makeRoom_5 og_0 ⟨_, rfl⟩ ?_
  refine V_icmp_leN 36 d_C_makeRoom_6 (by decide) (by omega) (by omega) (fun _ => ?_) (fun q => by exfalso; omega)
  refine V_iconst (nI 0) d_C_makeRoom_36 rfl ?_
  refine V_istore_2 d_C_makeRoom_37 rfl ?_
  have J := lp _ 0 rfl (Nat.zero_le _)
  rw [hv_fill_0, hv_fill_0] at J
  exact J

set_option maxRecDepth 100000 in
set_option maxHeartbeats 4000000 in
theorem c_C_room1 (l : Launch) (D : hv_D) (h : hv_P) (nx : Nat) {a rr us nd n : Nat} {op : Int32} {f1 f2 : Nat → Int64} (ha : h a = some (oC a rr (rr + 1) op (nI us))) (h1 : h rr = some (eL n f1)) (h2 : h (rr + 1) = some (eL n f2)) (har : a ≠ rr ∧ a ≠ rr + 1) (hn : n < 100000) (hnd : n < nd) (hnd2 : nd < 100000) (hax : a < nx) : hv_N l D M_C_makeRoom (hv_rm 1 21 2 (2 * (max nd (2 * n)))) [.ref a, .int (nI nd)] h nx (hv_ans none (fun h' n' => h' = hv_ov h [(nx + 1, eL (max nd (2 * n)) (fun _ => 0)), (nx, eL (max nd (2 * n)) (fun _ => 0)), (a, oC a nx (nx + 1) op (nI us))] ∧ n' = nx + 2)) := by
  refine hv_N.of' [some (.ref a), some (.int (nI nd)), none] (by decide +kernel) rfl rfl rfl ?_
  refine V_iload_n d_C_makeRoom_0 rfl ?_
  refine V_aload_n d_C_makeRoom_1 rfl ?_
  refine V_getfield d_C_makeRoom_2 fl_C_27 ha rfl ?_
  refine V_arraylength d_C_makeRoom_5 h1 ⟨_, rfl⟩ ?_
  refine V_icmp_leN 36 d_C_makeRoom_6 (by decide) (by omega) (by omega) (fun q => by exfalso; omega) (fun _ => ?_)
  refine V_iload_n d_C_makeRoom_9 rfl ?_
  refine V_iconst (nI 2) d_C_makeRoom_10 rfl ?_
  refine V_aload_n d_C_makeRoom_11 rfl ?_
  refine V_getfield d_C_makeRoom_12 fl_C_27 ha rfl ?_
  refine V_arraylength d_C_makeRoom_15 h1 ⟨_, rfl⟩ ?_
  refine V_imulN d_C_makeRoom_16 ?_
  refine V_callS1 d_C_makeRoom_17 ml_C_59 mB_JM_max ms_JM_max (c_max l D _ _ _ _) rfl rfl rfl rfl rfl rfl rfl ?_
  rintro _ _ ⟨rfl, e9⟩
  have e9 := e9.symm
  subst e9
  rw [hv_mxN (by omega) (by omega)]
  refine V_istore_2 d_C_makeRoom_20 rfl ?_
  refine V_aload_n d_C_makeRoom_21 rfl ?_
  refine V_iload_n d_C_makeRoom_22 rfl ?_
  refine V_nL (max nd (2 * n)) d_C_makeRoom_23 rfl (by rw [Nat.ble_eq]; omega) (bc' := 1) rfl (bs' := (max nd (2 * n))) (Nat.two_mul _) rfl rfl ?_
  refine V_put (e' := oC a nx (rr + 1) op (nI us)) d_C_makeRoom_25 fp_C_27 ((hv_up_n (by omega)).trans ha) rfl rfl rfl rfl rfl ?_
  refine V_aload_n d_C_makeRoom_28 rfl ?_
  refine V_iload_n d_C_makeRoom_29 rfl ?_
  refine V_nL (max nd (2 * n)) d_C_makeRoom_30 rfl (by rw [Nat.ble_eq]; omega) (bc' := 0) rfl (bs' := 0) (Nat.zero_add _).symm rfl rfl ?_
  refine V_put (e' := oC a nx (nx + 1) op (nI us)) d_C_makeRoom_32 fp_C_31 ((hv_up_n (by omega)).trans hv_up_s) rfl rfl rfl rfl rfl ?_
  refine V_return d_C_makeRoom_35 rfl ⟨rfl, ?_, rfl⟩
  funext q
  simp only [hv_ov, hv_up]
  repeat' split
  all_goals first | rfl | omega

set_option maxRecDepth 100000 in
set_option maxHeartbeats 4000000 in
theorem c_C_resultReal (l : Launch) (D : hv_D) (h : hv_P) (nx : Nat) {a rr us nd n : Nat} {op : Int32} {f1 f2 : Nat → Int64} (ha : h a = some (oC a rr (rr + 1) op (nI us))) (h1 : h rr = some (eL n f1)) (h2 : h (rr + 1) = some (eL n f2)) (har : a ≠ rr ∧ a ≠ rr + 1) (hn : n < 100000) {st : Nat → Nat} (hs : h (a + 1) = some (eN 10 st)) (hp : st 0 < n) : hv_N l D M_C_resultReal (hv_rm 0 0 0 0) [.ref a] h nx (hv_ans (some (.long (f1 (st 0)))) (hv_same h nx)) := by
  refine hv_N.of' [some (.ref a)] (by decide +kernel) rfl rfl rfl ?_
  refine V_aload_n d_C_resultReal_0 rfl ?_
  refine V_getfield d_C_resultReal_1 fl_C_27 ha rfl ?_
  refine V_aload_n d_C_resultReal_4 rfl ?_
  refine V_getfield d_C_resultReal_5 fl_C_9 ha rfl ?_
  refine V_iconst (nI 0) d_C_resultReal_8 rfl ?_
  refine V_iaload d_C_resultReal_9 hs ⟨rfl, by omega, by decide⟩ ?_
  refine V_laload d_C_resultReal_10 h1 ⟨rfl, hp, by omega⟩ ?_
  exact V_lreturn d_C_resultReal_11 rfl ⟨rfl, rfl, rfl⟩

set_option maxRecDepth 100000 in
set_option maxHeartbeats 4000000 in
theorem c_C_resultImaginary (l : Launch) (D : hv_D) (h : hv_P) (nx : Nat) {a rr us nd n : Nat} {op : Int32} {f1 f2 : Nat → Int64} (ha : h a = some (oC a rr (rr + 1) op (nI us))) (h1 : h rr = some (eL n f1)) (h2 : h (rr + 1) = some (eL n f2)) (har : a ≠ rr ∧ a ≠ rr + 1) (hn : n < 100000) {st : Nat → Nat} (hs : h (a + 1) = some (eN 10 st)) (hp : st 0 < n) : hv_N l D M_C_resultImaginary (hv_rm 0 0 0 0) [.ref a] h nx (hv_ans (some (.long (f2 (st 0)))) (hv_same h nx)) := by
  refine hv_N.of' [some (.ref a)] (by decide +kernel) rfl rfl rfl ?_
  refine V_aload_n d_C_resultImaginary_0 rfl ?_
  refine V_getfield d_C_resultImaginary_1 fl_C_31 ha rfl ?_
  refine V_aload_n d_C_resultImaginary_4 rfl ?_
  refine V_getfield d_C_resultImaginary_5 fl_C_9 ha rfl ?_
  refine V_iconst (nI 0) d_C_resultImaginary_8 rfl ?_
  refine V_iaload d_C_resultImaginary_9 hs ⟨rfl, by omega, by decide⟩ ?_
  refine V_laload d_C_resultImaginary_10 h2 ⟨rfl, hp, by omega⟩ ?_
  exact V_lreturn d_C_resultImaginary_11 rfl ⟨rfl, rfl, rfl⟩

set_option maxRecDepth 100000 in
set_option maxHeartbeats 4000000 in
theorem c_C_add (l : Launch) (D : hv_D) (h : hv_P) (nx : Nat) {a at_ rr us t om i plt op n : Nat} {lgt x y : Int32} {f1 f2 : Nat → Int64} {st bd : Nat → Nat} {g : Nat → Option Nat} (ha : h a = some (oC a rr (rr + 1) (nI op) (nI us))) (hs : h (a + 1) = some (eN 10 st)) (hbd : h (a + 2) = some (eN 10 bd)) (h1 : h rr = some (eL n f1)) (h2 : h (rr + 1) = some (eL n f2)) (har : a + 2 < rr) (hn : n < 100000) (hat : h at_ = some (oT at_ (nI plt) lgt)) (hg : h (at_ + 1) = some (eM 6 g)) (hpl : plt ≤ 6) (ht : t < 10) (hi : i < 64) (hv : ∀ p k, p < 6 → g p = some k → k < 20) (hbt : bd t < 2 ^ 20) (hom : om < 2 ^ 20) (hop : op < 2 ^ 20) (hP : (nwb g i 1 plt &&& nwb g i 0 plt = 0 ∧ nwb g i 1 plt &&& op = om &&& (nwb g i 1 plt ||| nwb g i 0 plt)) → (st t + (gatF (nwb g i 1 plt) (bd t) 20).1) < n) : hv_N l D M_C_add (hv_rm 2 50 0 0) [.ref a, .int (nI t), .ref at_, .int (nI om), .int (nI i), .int x, .int y] h nx (hv_ans none (fun h' n' => h' = hv_ov h [(rr, eL n (if (nwb g i 1 plt &&& nwb g i 0 plt = 0 ∧ nwb g i 1 plt &&& op = om &&& (nwb g i 1 plt ||| nwb g i 0 plt)) then va_up f1 (st t + (gatF (nwb g i 1 plt) (bd t) 20).1) (f1 (st t + (gatF (nwb g i 1 plt) (bd t) 20).1) + x.toInt64) else f1)), (rr + 1, eL n (if (nwb g i 1 plt &&& nwb g i 0 plt = 0 ∧ nwb g i 1 plt &&& op = om &&& (nwb g i 1 plt ||| nwb g i 0 plt)) then va_up f2 (st t + (gatF (nwb g i 1 plt) (bd t) 20).1) (f2 (st t + (gatF (nwb g i 1 plt) (bd t) 20).1) + y.toInt64) else f2))] ∧ n' = nx)) := by
  refine hv_N.of' [some (.ref a), some (.int (nI t)), some (.ref at_), some (.int (nI om)), some (.int (nI i)), some (.int x), some (.int y), none, none, none] (by decide +kernel) rfl rfl rfl ?_
  have n1 : nwb g i 1 plt < 2 ^ 20 := nwb_lt (fun p k hp e => hv p k (by omega) e)
  have n0 : nwb g i 0 plt < 2 ^ 20 := nwb_lt (fun p k hp e => hv p k (by omega) e)
  refine V_aload_n d_C_add_0 rfl ?_
  refine V_iload d_C_add_1 rfl ?_
  refine V_iconst (nI 1) d_C_add_3 rfl ?_
  refine V_callV1 d_C_add_4 ml_C_81 mB_T_namesWithBit mi_T_namesWithBit mv_T_namesWithBit rfl hat (c_T_namesWithBit l D _ _ hat hg hpl (by omega) (by decide) hv) rfl rfl rfl rfl rfl rfl rfl ?_
  rintro _ _ ⟨rfl, rfl⟩
  refine V_istore_7 d_C_add_7 rfl ?_
  refine V_aload_n d_C_add_9 rfl ?_
  refine V_iload d_C_add_10 rfl ?_
  refine V_iconst (nI 0) d_C_add_12 rfl ?_
  refine V_callV1 d_C_add_13 ml_C_81 mB_T_namesWithBit mi_T_namesWithBit mv_T_namesWithBit rfl hat (c_T_namesWithBit l D _ _ hat hg hpl (by omega) (by decide) hv) rfl rfl rfl rfl rfl rfl rfl ?_
  rintro _ _ ⟨rfl, rfl⟩
  refine V_istore_8 d_C_add_16 rfl ?_
  refine V_iload d_C_add_18 rfl ?_
  refine V_iload d_C_add_20 rfl ?_
  refine V_iandN d_C_add_22 ?_
  refine V_if_neN 89 d_C_add_23 (by decide) (Nat.lt_of_le_of_lt Nat.and_le_left (Nat.lt_trans n1 (by decide))) (fun c23 => ?_) (fun c23 => ?_)
  · have AC : ¬ (nwb g i 1 plt &&& nwb g i 0 plt = 0 ∧ nwb g i 1 plt &&& op = om &&& (nwb g i 1 plt ||| nwb g i 0 plt)) := fun q => c23 q.1
    refine V_eqH (ob_2 h1 h2) ?_
    exact V_return d_C_add_89 rfl ⟨rfl, by rw [if_neg AC, if_neg AC], rfl⟩
  · refine V_iload d_C_add_26 rfl ?_
    refine V_aload_n d_C_add_28 rfl ?_
    refine V_getfield d_C_add_29 fl_C_34 ha rfl ?_
    refine V_iandN d_C_add_32 ?_
    refine V_iload_n d_C_add_33 rfl ?_
    refine V_iload d_C_add_34 rfl ?_
    refine V_iload d_C_add_36 rfl ?_
    refine V_iorN d_C_add_38 ?_
    refine V_iandN d_C_add_39 ?_
    refine V_icmp_neN 89 d_C_add_40 (by decide) (Nat.lt_of_le_of_lt Nat.and_le_left (Nat.lt_trans n1 (by decide))) (Nat.lt_of_le_of_lt Nat.and_le_left (Nat.lt_trans hom (by decide))) (fun c40 => ?_) (fun c40 => ?_)
    · have AC : ¬ (nwb g i 1 plt &&& nwb g i 0 plt = 0 ∧ nwb g i 1 plt &&& op = om &&& (nwb g i 1 plt ||| nwb g i 0 plt)) := fun q => c40 q.2
      refine V_eqH (ob_2 h1 h2) ?_
      exact V_return d_C_add_89 rfl ⟨rfl, by rw [if_neg AC, if_neg AC], rfl⟩
    · have AC : (nwb g i 1 plt &&& nwb g i 0 plt = 0 ∧ nwb g i 1 plt &&& op = om &&& (nwb g i 1 plt ||| nwb g i 0 plt)) := ⟨by omega, by omega⟩
      have hp := hP AC
      refine V_eqH (ob_2 h1 h2) ?_
      refine V_aload_n d_C_add_43 rfl ?_
      refine V_getfield d_C_add_44 fl_C_9 (oa_2 ha (by omega) (by omega)) rfl ?_
      refine V_iload_n d_C_add_47 rfl ?_
      refine V_iaload d_C_add_48 (oa_2 hs (by omega) (by omega)) ⟨rfl, by omega, by decide⟩ ?_
      refine V_iload d_C_add_49 rfl ?_
      refine V_aload_n d_C_add_51 rfl ?_
      refine V_getfield d_C_add_52 fl_C_15 (oa_2 ha (by omega) (by omega)) rfl ?_
      refine V_iload_n d_C_add_55 rfl ?_
      refine V_iaload d_C_add_56 (oa_2 hbd (by omega) (by omega)) ⟨rfl, by omega, by decide⟩ ?_
      refine V_callS1 d_C_add_57 ml_C_84 mB_N_gather ms_N_gather (c_N_gather l D _ _ (Nat.lt_trans n1 (by decide)) (Nat.lt_trans hbt (by decide))) rfl rfl rfl rfl rfl rfl rfl ?_
      rintro _ _ ⟨rfl, rfl⟩
      refine V_iaddN d_C_add_60 ?_
      refine V_istore_9 d_C_add_61 rfl ?_
      refine V_aload_n d_C_add_63 rfl ?_
      refine V_getfield d_C_add_64 fl_C_27 (oa_2 ha (by omega) (by omega)) rfl ?_
      refine V_iload d_C_add_67 rfl ?_
      refine V_dup2 d_C_add_69 rfl rfl ?_
      refine V_laload d_C_add_70 og_0 ⟨rfl, hp, by omega⟩ ?_
      refine V_iload d_C_add_71 rfl ?_
      refine V_i2l d_C_add_73 ?_
      refine V_ladd d_C_add_74 ?_
      refine V_lst d_C_add_75 og_0 ⟨rfl, hp, by omega⟩ ou_0 ?_
      refine V_aload_n d_C_add_76 rfl ?_
      refine V_getfield d_C_add_77 fl_C_31 (oa_2 ha (by omega) (by omega)) rfl ?_
      refine V_iload d_C_add_80 rfl ?_
      refine V_dup2 d_C_add_82 rfl rfl ?_
      refine V_laload d_C_add_83 (og_1 (by omega)) ⟨rfl, hp, by omega⟩ ?_
      refine V_iload d_C_add_84 rfl ?_
      refine V_i2l d_C_add_86 ?_
      refine V_ladd d_C_add_87 ?_
      refine V_lst d_C_add_88 (og_1 (by omega)) ⟨rfl, hp, by omega⟩ (ou_1 (by omega)) ?_
      exact V_return d_C_add_89 rfl ⟨rfl, by rw [if_pos AC, if_pos AC], rfl⟩
