-- CONTRACTION: begin, load
section HVMC
variable {l : Launch} {D : hv_D} {M : hv_M} {X : State → (Nat → Prop) → Prop} {rm : Room} {Q : hv_R → hv_P → Nat → Prop} {bc bs : Nat} {h : hv_P} {nx pc : Nat} {lv : List (Option Value)} {st : List Value}
variable {M' : hv_M} {rm' : Room} {idx n : Nat} {As rest : List Value} {Q0 : hv_P → Nat → Prop} {w : Value}
theorem V_cV1 {b ci N : Nat} {T : u_T} {fs : List Value} (bc' bs' : Nat) (hd : decode M.2.1 pc = .ok (.invokevirtual idx, 3)) (hL : hv_mL M.1.cls idx M') (hB : hv_mB M' n) (hi : Cond.instanceMethod M'.1 ∈ hv_tbl) (hse : Cond.selects M'.1.cls M'.1 M'.1 ∈ hv_tbl) (hci : vwCl[ci]? = some (M'.1.cls, T, N)) (hob : h b = some (eO ci fs)) (hN : hv_N l D M' rm' (.ref b :: As) h nx (hv_ans (some w) Q0)) (hst : st = As.reverse ++ .ref b :: rest) (hn : As.length = n) (hrm : Nat.ble (rest.map fun v => v.category).sum 8 = true) (hdd : Nat.ble (rm'.frames + 1) rm.frames = true) (hml : Nat.ble (19 + M'.2.2.1 + rm'.locals) rm.locals = true) (h0 : bc = bc' + rm'.cells) (h1 : bs = bs' + rm'.slots)
    (k : ∀ (h' : hv_P) (nx' : Nat), Q0 h' nx' → hv_V l D M X rm Q bc' bs' h' nx' (pc + 3) lv (w :: rest)) : hv_V l D M X rm Q bc bs h nx pc lv st :=
  V_virtual hd hL hB hi hse hci hob hN hv_ans_r hst hn (Nat.le_of_ble_eq_true hrm) (Nat.le_of_ble_eq_true hdd) (Nat.le_of_ble_eq_true hml) (by omega) (by omega) (fun v h' nx' q => by obtain ⟨q1, q2⟩ := q; cases q1; rw [h0, h1, Nat.add_sub_cancel, Nat.add_sub_cancel]; exact k h' nx' q2)
theorem V_cV0 {b ci N : Nat} {T : u_T} {fs : List Value} (bc' bs' : Nat) (hd : decode M.2.1 pc = .ok (.invokevirtual idx, 3)) (hL : hv_mL M.1.cls idx M') (hB : hv_mB M' n) (hi : Cond.instanceMethod M'.1 ∈ hv_tbl) (hse : Cond.selects M'.1.cls M'.1 M'.1 ∈ hv_tbl) (hci : vwCl[ci]? = some (M'.1.cls, T, N)) (hob : h b = some (eO ci fs)) (hN : hv_N l D M' rm' (.ref b :: As) h nx (hv_ans none Q0)) (hst : st = As.reverse ++ .ref b :: rest) (hn : As.length = n) (hrm : Nat.ble (rest.map fun v => v.category).sum 8 = true) (hdd : Nat.ble (rm'.frames + 1) rm.frames = true) (hml : Nat.ble (19 + M'.2.2.1 + rm'.locals) rm.locals = true) (h0 : bc = bc' + rm'.cells) (h1 : bs = bs' + rm'.slots)
    (k : ∀ (h' : hv_P) (nx' : Nat), Q0 h' nx' → hv_V l D M X rm Q bc' bs' h' nx' (pc + 3) lv rest) : hv_V l D M X rm Q bc bs h nx pc lv st :=
  V_virtual hd hL hB hi hse hci hob hN hv_ans_r hst hn (Nat.le_of_ble_eq_true hrm) (Nat.le_of_ble_eq_true hdd) (Nat.le_of_ble_eq_true hml) (by omega) (by omega) (fun v h' nx' q => by obtain ⟨q1, q2⟩ := q; cases q1; rw [h0, h1, Nat.add_sub_cancel, Nat.add_sub_cancel]; exact k h' nx' q2)
theorem V_cI0 {b : Nat} (bc' bs' : Nat) (hd : decode M.2.1 pc = .ok (.invokespecial idx, 3)) (hL : hv_mL M.1.cls idx M') (hB : hv_mB M' n) (hi : Cond.instanceMethod M'.1 ∈ hv_tbl) (hin : M'.1.name = "<init>") (hre : M'.2.2.2 = none) (hN : hv_N l D M' rm' (.ref b :: As) h nx (hv_ans none Q0)) (hst : st = As.reverse ++ .ref b :: rest) (hn : As.length = n) (hrm : Nat.ble (rest.map fun v => v.category).sum 8 = true) (hdd : Nat.ble (rm'.frames + 1) rm.frames = true) (hml : Nat.ble (19 + M'.2.2.1 + rm'.locals) rm.locals = true) (h0 : bc = bc' + rm'.cells) (h1 : bs = bs' + rm'.slots)
    (k : ∀ (h' : hv_P) (nx' : Nat), Q0 h' nx' → hv_V l D M X rm Q bc' bs' h' nx' (pc + 3) lv rest) : hv_V l D M X rm Q bc bs h nx pc lv st :=
  V_special hd hL hB hi hin hre hN hv_ans_r hst hn (Nat.le_of_ble_eq_true hrm) (Nat.le_of_ble_eq_true hdd) (Nat.le_of_ble_eq_true hml) (by omega) (by omega) (fun v h' nx' q => by obtain ⟨q1, q2⟩ := q; cases q1; rw [h0, h1, Nat.add_sub_cancel, Nat.add_sub_cancel]; exact k h' nx' q2)
end HVMC
def bF (lg : Nat → Nat) (op k : Nat) : Nat := anN (lg (2 ^ k)) op
def mF (lg md : Nat → Nat) (op k : Nat) : Nat := anN (lg (md k)) op
def sP (F : Nat → Nat) : Nat → Nat
  | 0 => 0
  | i + 1 => sP F i + 2 ^ pc_ (F i)
theorem sP_le {F : Nat → Nat} : ∀ i, (∀ k, k < i → F k < 2 ^ 20) → sP F i ≤ i * 1048576
  | 0, _ => by simp [sP]
  | i + 1, h => by
    have := sP_le i (fun k hk => h k (by omega))
    have := p20 (h i (by omega))
    simp only [sP]
    omega
theorem cp_at {α : Type} {f g : Nat → α} {i n : Nat} (h : i < n) : hv_cp f g n i = f i := if_pos h
theorem cp_ge {α : Type} {f g : Nat → α} {i n : Nat} (h : ¬ i < n) : hv_cp f g n i = g i := if_neg h
set_option maxRecDepth 100000 in
set_option maxHeartbeats 4000000 in
theorem c_C_begin0 (l : Launch) (D : hv_D) (h : hv_P) (nx : Nat) {a oa rr c op n : Nat} {op0 us0 ac ml : Int32} {f1 f2 : Nat → Int64} {bd lg md : Nat → Nat} (ha : h a = some (oC a rr (rr + 1) op0 us0)) (hbd : h (a + 2) = some (eN 10 bd)) (h1 : h rr = some (eL n f1)) (h2 : h (rr + 1) = some (eL n f2)) (har : a + 5 < rr) (hn : n < 100000) (hO : h oa = some (oO oa ac ml)) (hlg : h (oa + 1) = some (eN 1024 lg)) (hmd : h (oa + 4) = some (eN 10 md)) (hoa : oa + 5 < a) (hc1 : 1 ≤ c) (hc : c ≤ 10) (hl1 : ∀ i, i < c → lg (2 ^ i) < 2 ^ 20) (hm1 : ∀ j, j < c - 1 → md j < 1024) (hl2 : ∀ j, j < c - 1 → lg (md j) < 2 ^ 20) (hnd : (sP (bF lg op) c + sP (mF lg md op) (c - 1)) ≤ n) : hv_N l D M_C_begin (hv_rm 2 45 0 0) [.ref a, .ref oa, .int (nI c), .int (nI op)] h nx (hv_ans none (fun h' n' => n' = nx ∧ h' a = some (oC a rr (rr + 1) (nI op) (nI 0)) ∧ h' (a + 2) = some (eN 10 (hv_cp (bF lg op) bd c)) ∧ (∃ f1' f2' : Nat → Int64, h' rr = some (eL n f1') ∧ h' (rr + 1) = some (eL n f2') ∧ ∀ p, p < (sP (bF lg op) c + sP (mF lg md op) (c - 1)) → (f1' p, f2' p) = c0_) ∧ ∀ q, q ≠ a → q ≠ a + 2 → q ≠ rr → q ≠ rr + 1 → h' q = h q)) := by
  refine hv_N.of' [some (.ref a), some (.ref oa), some (.int (nI c)), some (.int (nI op)), none, none] (by decide +kernel) rfl rfl rfl ?_
  have b1 := sP_le (F := bF lg op) c (fun k hk => anN_lt (hl1 k hk))
  have b2 := sP_le (F := mF lg md op) (c - 1) (fun k hk => anN_lt (hl2 k hk))
  have lp2 : ∀ (kk i : Nat), kk = (c - 1) - i → i ≤ (c - 1) → hv_V l D M_C_begin (fun _ _ => True) (hv_rm 2 45 0 0) (hv_ans none (fun h' n' => n' = nx ∧ h' a = some (oC a rr (rr + 1) (nI op) (nI 0)) ∧ h' (a + 2) = some (eN 10 (hv_cp (bF lg op) bd c)) ∧ (∃ f1' f2' : Nat → Int64, h' rr = some (eL n f1') ∧ h' (rr + 1) = some (eL n f2') ∧ ∀ p, p < (sP (bF lg op) c + sP (mF lg md op) (c - 1)) → (f1' p, f2' p) = c0_) ∧ ∀ q, q ≠ a → q ≠ a + 2 → q ≠ rr → q ≠ rr + 1 → h' q = h q)) (0) (0) (hv_ov h [(a, oC a rr (rr + 1) (nI op) (nI 0)), (a + 2, eN 10 (hv_cp (bF lg op) bd c))]) nx 68 [some (.ref a), some (.ref oa), some (.int (nI c)), some (.int (nI op)), some (.int (nI (sP (bF lg op) c + sP (mF lg md op) i))), some (.int (nI i))] [] := by
    intro kk
    induction kk using Nat.strongRecOn with
    | ind kk ih =>
      intro i hkk hi
      refine V_iload d_C_begin_68 rfl ?_
      refine V_iload_n d_C_begin_70 rfl ?_
      refine V_iconst (nI 1) d_C_begin_71 rfl ?_
      refine V_isubN d_C_begin_72 (by omega) ?_
      refine V_icmp_geN 108 d_C_begin_73 (by decide) (by omega) (by omega) (fun ci => ?_) (fun ci => ?_)
      · have ei : i = c - 1 := by omega
        subst ei
        refine V_aload_n d_C_begin_108 rfl ?_
        refine V_iload d_C_begin_109 rfl ?_
        refine V_callV0 d_C_begin_111 ml_C_55 mB_C_makeRoom mi_C_makeRoom mv_C_makeRoom rfl og_0 (c_C_room0 l D _ _ og_0 (oa_2 h1 (by omega) (by omega)) (oa_2 h2 (by omega) (by omega)) ⟨by omega, by omega⟩ hn hnd) rfl rfl rfl rfl rfl rfl rfl ?_
        rintro _ _ ⟨rfl, rfl⟩
        refine V_return d_C_begin_114 rfl ⟨rfl, rfl, (oz_2 (by omega) (by omega)).trans og_0, (oz_2 (by omega) (by omega)).trans (og_1 (by omega)), ⟨_, _, og_0, (og_1 (by omega)), fun p hp => ?_⟩, fun q q1 q2 q3 q4 => (oz_2 q3 q4).trans (oz_2 q1 q2)⟩
        show (hv_fill f1 _ 0 p, hv_fill f2 _ 0 p) = c0_
        unfold hv_fill
        rw [if_pos hp, if_pos hp]
        rfl
      · refine V_iload d_C_begin_76 rfl ?_
        refine V_iconst (nI 1) d_C_begin_78 rfl ?_
        refine V_aload_n d_C_begin_79 rfl ?_
        refine V_getfield d_C_begin_80 fl_C_41 (oa_2 hO (by omega) (by omega)) rfl ?_
        refine V_aload_n d_C_begin_83 rfl ?_
        refine V_getfield d_C_begin_84 fl_C_52 (oa_2 hO (by omega) (by omega)) rfl ?_
        refine V_iload d_C_begin_87 rfl ?_
        refine V_iaload d_C_begin_89 (oa_2 hmd (by omega) (by omega)) ⟨rfl, by omega, by decide⟩ ?_
        refine V_iaload d_C_begin_90 (oa_2 hlg (by omega) (by omega)) ⟨rfl, hm1 i (by omega), by decide⟩ ?_
        refine V_iload_n d_C_begin_91 rfl ?_
        refine V_iconst (-1) d_C_begin_92 rfl ?_
        refine V_ixor d_C_begin_93 ?_
        refine V_iand d_C_begin_94 ?_
        rw [nx_andn, show anN (lg (md i)) op = mF lg md op i from rfl]
        have bl : mF lg md op i < 2 ^ 20 := anN_lt (hl2 i (by omega))
        refine V_callS1 d_C_begin_95 ml_C_46 mB_JI_bitCount ms_JI_bitCount (c_bitCount l D _ _ (Nat.lt_trans bl (by decide))) rfl rfl rfl rfl rfl rfl rfl ?_
        rintro _ _ ⟨rfl, rfl⟩
        refine V_ishlN d_C_begin_98 (by have := pc_le bl; omega) ?_
        refine V_iaddN d_C_begin_99 ?_
        rw [Nat.one_mul]
        refine V_istore_4 d_C_begin_100 rfl ?_
        refine V_iincN_5 1 d_C_begin_102 rfl rfl ?_
        refine V_goto 68 d_C_begin_105 (by decide) ?_
        have J := ih (c - 1 - (i + 1)) (by omega) (i + 1) rfl (by omega)
        rw [show sP (bF lg op) c + sP (mF lg md op) (i + 1) = sP (bF lg op) c + sP (mF lg md op) i + 2 ^ pc_ (mF lg md op i) from (Nat.add_assoc _ _ _).symm] at J
        exact J
  have lp1 : ∀ (kk i : Nat), kk = c - i → i ≤ c → hv_V l D M_C_begin (fun _ _ => True) (hv_rm 2 45 0 0) (hv_ans none (fun h' n' => n' = nx ∧ h' a = some (oC a rr (rr + 1) (nI op) (nI 0)) ∧ h' (a + 2) = some (eN 10 (hv_cp (bF lg op) bd c)) ∧ (∃ f1' f2' : Nat → Int64, h' rr = some (eL n f1') ∧ h' (rr + 1) = some (eL n f2') ∧ ∀ p, p < (sP (bF lg op) c + sP (mF lg md op) (c - 1)) → (f1' p, f2' p) = c0_) ∧ ∀ q, q ≠ a → q ≠ a + 2 → q ≠ rr → q ≠ rr + 1 → h' q = h q)) (0) (0) (hv_ov h [(a, oC a rr (rr + 1) (nI op) (nI 0)), (a + 2, eN 10 (hv_cp (bF lg op) bd i))]) nx 16 [some (.ref a), some (.ref oa), some (.int (nI c)), some (.int (nI op)), some (.int (nI (sP (bF lg op) i))), some (.int (nI i))] [] := by
    intro kk
    induction kk using Nat.strongRecOn with
    | ind kk ih =>
      intro i hkk hi
      refine V_iload d_C_begin_16 rfl ?_
      refine V_iload_n d_C_begin_18 rfl ?_
      refine V_icmp_geN 65 d_C_begin_19 (by decide) (by omega) (by omega) (fun ci => ?_) (fun ci => ?_)
      · have ei : i = c := by omega
        subst ei
        refine V_iconst (nI 0) d_C_begin_65 rfl ?_
        refine V_istore_5 d_C_begin_66 rfl ?_
        exact lp2 _ 0 rfl (Nat.zero_le _)
      · refine V_aload_n d_C_begin_22 rfl ?_
        refine V_getfield d_C_begin_23 fl_C_15 (og_0) rfl ?_
        refine V_iload d_C_begin_26 rfl ?_
        refine V_aload_n d_C_begin_28 rfl ?_
        refine V_getfield d_C_begin_29 fl_C_41 (oa_2 hO (by omega) (by omega)) rfl ?_
        refine V_iconst (nI 1) d_C_begin_32 rfl ?_
        refine V_iload d_C_begin_33 rfl ?_
        refine V_ishlN d_C_begin_35 (by omega) ?_
        rw [Nat.one_mul]
        have p2 : 2 ^ i < 2 ^ 10 := Nat.pow_lt_pow_right (by decide) (by omega)
        refine V_iaload d_C_begin_36 (oa_2 hlg (by omega) (by omega)) ⟨rfl, by omega, by decide⟩ ?_
        refine V_iload_n d_C_begin_37 rfl ?_
        refine V_iconst (-1) d_C_begin_38 rfl ?_
        refine V_ixor d_C_begin_39 ?_
        refine V_iand d_C_begin_40 ?_
        rw [nx_andn, show anN (lg (2 ^ i)) op = bF lg op i from rfl]
        have bl : bF lg op i < 2 ^ 20 := anN_lt (hl1 i (by omega))
        refine V_istN d_C_begin_41 (og_1 (by omega)) ⟨rfl, by omega, by decide⟩ (h' := hv_ov h [(a, oC a rr (rr + 1) (nI op) (nI 0)), (a + 2, eN 10 (hv_cp (bF lg op) bd (i + 1)))]) (by rw [hv_cp_s]; exact ou_1 (by omega)) ?_
        refine V_iload d_C_begin_42 rfl ?_
        refine V_iconst (nI 1) d_C_begin_44 rfl ?_
        refine V_aload_n d_C_begin_45 rfl ?_
        refine V_getfield d_C_begin_46 fl_C_15 (og_0) rfl ?_
        refine V_iload d_C_begin_49 rfl ?_
        refine V_iaload d_C_begin_51 (og_1 (by omega)) ⟨rfl, by omega, by decide⟩ ?_
        rw [cp_at (Nat.lt_succ_self i)]
        refine V_callS1 d_C_begin_52 ml_C_46 mB_JI_bitCount ms_JI_bitCount (c_bitCount l D _ _ (Nat.lt_trans bl (by decide))) rfl rfl rfl rfl rfl rfl rfl ?_
        rintro _ _ ⟨rfl, rfl⟩
        refine V_ishlN d_C_begin_55 (by have := pc_le bl; omega) ?_
        refine V_iaddN d_C_begin_56 ?_
        rw [Nat.one_mul]
        refine V_istore_4 d_C_begin_57 rfl ?_
        refine V_iincN_5 1 d_C_begin_59 rfl rfl ?_
        refine V_goto 16 d_C_begin_62 (by decide) ?_
        exact ih (c - (i + 1)) (by omega) (i + 1) rfl (by omega)
  refine V_eqH (ob_2 ha hbd) ?_
  refine V_aload_n d_C_begin_0 rfl ?_
  refine V_iload_n d_C_begin_1 rfl ?_
  refine V_put (e' := oC a rr (rr + 1) (nI op) us0) d_C_begin_2 fp_C_34 (og_0) rfl rfl rfl rfl (ou_0) ?_
  refine V_aload_n d_C_begin_5 rfl ?_
  refine V_iconst (nI 0) d_C_begin_6 rfl ?_
  refine V_put (e' := oC a rr (rr + 1) (nI op) (nI 0)) d_C_begin_7 fp_C_38 (og_0) rfl rfl rfl rfl (ou_0) ?_
  refine V_iconst (nI 0) d_C_begin_10 rfl ?_
  refine V_istore_4 d_C_begin_11 rfl ?_
  refine V_iconst (nI 0) d_C_begin_13 rfl ?_
  refine V_istore_5 d_C_begin_14 rfl ?_
  have J := lp1 _ 0 rfl (Nat.zero_le _)
  rw [hv_cp_0] at J
  exact J

set_option maxRecDepth 100000 in
set_option maxHeartbeats 4000000 in
theorem c_C_begin1 (l : Launch) (D : hv_D) (h : hv_P) (nx : Nat) {a oa rr c op n : Nat} {op0 us0 ac ml : Int32} {f1 f2 : Nat → Int64} {bd lg md : Nat → Nat} (ha : h a = some (oC a rr (rr + 1) op0 us0)) (hbd : h (a + 2) = some (eN 10 bd)) (h1 : h rr = some (eL n f1)) (h2 : h (rr + 1) = some (eL n f2)) (har : a + 5 < rr) (hn : n < 100000) (hO : h oa = some (oO oa ac ml)) (hlg : h (oa + 1) = some (eN 1024 lg)) (hmd : h (oa + 4) = some (eN 10 md)) (hoa : oa + 5 < a) (hc1 : 1 ≤ c) (hc : c ≤ 10) (hl1 : ∀ i, i < c → lg (2 ^ i) < 2 ^ 20) (hm1 : ∀ j, j < c - 1 → md j < 1024) (hl2 : ∀ j, j < c - 1 → lg (md j) < 2 ^ 20) (hnd : n < (sP (bF lg op) c + sP (mF lg md op) (c - 1))) (hnd2 : (sP (bF lg op) c + sP (mF lg md op) (c - 1)) < 100000) (hax : a + 2 < nx) : hv_N l D M_C_begin (hv_rm 2 45 2 (2 * (max (sP (bF lg op) c + sP (mF lg md op) (c - 1)) (2 * n)))) [.ref a, .ref oa, .int (nI c), .int (nI op)] h nx (hv_ans none (fun h' n' => n' = nx + 2 ∧ h' a = some (oC a nx (nx + 1) (nI op) (nI 0)) ∧ h' (a + 2) = some (eN 10 (hv_cp (bF lg op) bd c)) ∧ (∃ f1' f2' : Nat → Int64, h' nx = some (eL (max (sP (bF lg op) c + sP (mF lg md op) (c - 1)) (2 * n)) f1') ∧ h' (nx + 1) = some (eL (max (sP (bF lg op) c + sP (mF lg md op) (c - 1)) (2 * n)) f2') ∧ ∀ p, p < (sP (bF lg op) c + sP (mF lg md op) (c - 1)) → (f1' p, f2' p) = c0_) ∧ ∀ q, q ≠ a → q ≠ a + 2 → q ≠ nx → q ≠ nx + 1 → h' q = h q)) := by
  refine hv_N.of' [some (.ref a), some (.ref oa), some (.int (nI c)), some (.int (nI op)), none, none] (by decide +kernel) rfl rfl rfl ?_
  have b1 := sP_le (F := bF lg op) c (fun k hk => anN_lt (hl1 k hk))
  have b2 := sP_le (F := mF lg md op) (c - 1) (fun k hk => anN_lt (hl2 k hk))
  have lp2 : ∀ (kk i : Nat), kk = (c - 1) - i → i ≤ (c - 1) → hv_V l D M_C_begin (fun _ _ => True) (hv_rm 2 45 2 (2 * (max (sP (bF lg op) c + sP (mF lg md op) (c - 1)) (2 * n)))) (hv_ans none (fun h' n' => n' = nx + 2 ∧ h' a = some (oC a nx (nx + 1) (nI op) (nI 0)) ∧ h' (a + 2) = some (eN 10 (hv_cp (bF lg op) bd c)) ∧ (∃ f1' f2' : Nat → Int64, h' nx = some (eL (max (sP (bF lg op) c + sP (mF lg md op) (c - 1)) (2 * n)) f1') ∧ h' (nx + 1) = some (eL (max (sP (bF lg op) c + sP (mF lg md op) (c - 1)) (2 * n)) f2') ∧ ∀ p, p < (sP (bF lg op) c + sP (mF lg md op) (c - 1)) → (f1' p, f2' p) = c0_) ∧ ∀ q, q ≠ a → q ≠ a + 2 → q ≠ nx → q ≠ nx + 1 → h' q = h q)) (2) ((2 * (max (sP (bF lg op) c + sP (mF lg md op) (c - 1)) (2 * n)))) (hv_ov h [(a, oC a rr (rr + 1) (nI op) (nI 0)), (a + 2, eN 10 (hv_cp (bF lg op) bd c))]) nx 68 [some (.ref a), some (.ref oa), some (.int (nI c)), some (.int (nI op)), some (.int (nI (sP (bF lg op) c + sP (mF lg md op) i))), some (.int (nI i))] [] := by
    intro kk
    induction kk using Nat.strongRecOn with
    | ind kk ih =>
      intro i hkk hi
      refine V_iload d_C_begin_68 rfl ?_
      refine V_iload_n d_C_begin_70 rfl ?_
      refine V_iconst (nI 1) d_C_begin_71 rfl ?_
      refine V_isubN d_C_begin_72 (by omega) ?_
      refine V_icmp_geN 108 d_C_begin_73 (by decide) (by omega) (by omega) (fun ci => ?_) (fun ci => ?_)
      · have ei : i = c - 1 := by omega
        subst ei
        refine V_aload_n d_C_begin_108 rfl ?_
        refine V_iload d_C_begin_109 rfl ?_
        refine V_cV0 0 0 d_C_begin_111 ml_C_55 mB_C_makeRoom mi_C_makeRoom mv_C_makeRoom rfl og_0 (c_C_room1 l D _ _ og_0 (oa_2 h1 (by omega) (by omega)) (oa_2 h2 (by omega) (by omega)) ⟨by omega, by omega⟩ hn hnd hnd2 (by omega)) rfl rfl rfl rfl rfl rfl (Nat.zero_add _).symm ?_
        rintro _ _ ⟨rfl, rfl⟩
        refine V_return d_C_begin_114 rfl ⟨rfl, rfl, (og_2 (by omega) (by omega)), (oz_3 (by omega) (by omega) (by omega)).trans (og_1 (by omega)), ⟨_, _, (og_1 (by omega)), og_0, fun p hp => rfl⟩, fun q q1 q2 q3 q4 => (oz_3 q4 q3 q1).trans (oz_2 q1 q2)⟩
      · refine V_iload d_C_begin_76 rfl ?_
        refine V_iconst (nI 1) d_C_begin_78 rfl ?_
        refine V_aload_n d_C_begin_79 rfl ?_
        refine V_getfield d_C_begin_80 fl_C_41 (oa_2 hO (by omega) (by omega)) rfl ?_
        refine V_aload_n d_C_begin_83 rfl ?_
        refine V_getfield d_C_begin_84 fl_C_52 (oa_2 hO (by omega) (by omega)) rfl ?_
        refine V_iload d_C_begin_87 rfl ?_
        refine V_iaload d_C_begin_89 (oa_2 hmd (by omega) (by omega)) ⟨rfl, by omega, by decide⟩ ?_
        refine V_iaload d_C_begin_90 (oa_2 hlg (by omega) (by omega)) ⟨rfl, hm1 i (by omega), by decide⟩ ?_
        refine V_iload_n d_C_begin_91 rfl ?_
        refine V_iconst (-1) d_C_begin_92 rfl ?_
        refine V_ixor d_C_begin_93 ?_
        refine V_iand d_C_begin_94 ?_
        rw [nx_andn, show anN (lg (md i)) op = mF lg md op i from rfl]
        have bl : mF lg md op i < 2 ^ 20 := anN_lt (hl2 i (by omega))
        refine V_callS1 d_C_begin_95 ml_C_46 mB_JI_bitCount ms_JI_bitCount (c_bitCount l D _ _ (Nat.lt_trans bl (by decide))) rfl rfl rfl rfl rfl rfl rfl ?_
        rintro _ _ ⟨rfl, rfl⟩
        refine V_ishlN d_C_begin_98 (by have := pc_le bl; omega) ?_
        refine V_iaddN d_C_begin_99 ?_
        rw [Nat.one_mul]
        refine V_istore_4 d_C_begin_100 rfl ?_
        refine V_iincN_5 1 d_C_begin_102 rfl rfl ?_
        refine V_goto 68 d_C_begin_105 (by decide) ?_
        have J := ih (c - 1 - (i + 1)) (by omega) (i + 1) rfl (by omega)
        rw [show sP (bF lg op) c + sP (mF lg md op) (i + 1) = sP (bF lg op) c + sP (mF lg md op) i + 2 ^ pc_ (mF lg md op i) from (Nat.add_assoc _ _ _).symm] at J
        exact J
  have lp1 : ∀ (kk i : Nat), kk = c - i → i ≤ c → hv_V l D M_C_begin (fun _ _ => True) (hv_rm 2 45 2 (2 * (max (sP (bF lg op) c + sP (mF lg md op) (c - 1)) (2 * n)))) (hv_ans none (fun h' n' => n' = nx + 2 ∧ h' a = some (oC a nx (nx + 1) (nI op) (nI 0)) ∧ h' (a + 2) = some (eN 10 (hv_cp (bF lg op) bd c)) ∧ (∃ f1' f2' : Nat → Int64, h' nx = some (eL (max (sP (bF lg op) c + sP (mF lg md op) (c - 1)) (2 * n)) f1') ∧ h' (nx + 1) = some (eL (max (sP (bF lg op) c + sP (mF lg md op) (c - 1)) (2 * n)) f2') ∧ ∀ p, p < (sP (bF lg op) c + sP (mF lg md op) (c - 1)) → (f1' p, f2' p) = c0_) ∧ ∀ q, q ≠ a → q ≠ a + 2 → q ≠ nx → q ≠ nx + 1 → h' q = h q)) (2) ((2 * (max (sP (bF lg op) c + sP (mF lg md op) (c - 1)) (2 * n)))) (hv_ov h [(a, oC a rr (rr + 1) (nI op) (nI 0)), (a + 2, eN 10 (hv_cp (bF lg op) bd i))]) nx 16 [some (.ref a), some (.ref oa), some (.int (nI c)), some (.int (nI op)), some (.int (nI (sP (bF lg op) i))), some (.int (nI i))] [] := by
    intro kk
    induction kk using Nat.strongRecOn with
    | ind kk ih =>
      intro i hkk hi
      refine V_iload d_C_begin_16 rfl ?_
      refine V_iload_n d_C_begin_18 rfl ?_
      refine V_icmp_geN 65 d_C_begin_19 (by decide) (by omega) (by omega) (fun ci => ?_) (fun ci => ?_)
      · have ei : i = c := by omega
        subst ei
        refine V_iconst (nI 0) d_C_begin_65 rfl ?_
        refine V_istore_5 d_C_begin_66 rfl ?_
        exact lp2 _ 0 rfl (Nat.zero_le _)
      · refine V_aload_n d_C_begin_22 rfl ?_
        refine V_getfield d_C_begin_23 fl_C_15 (og_0) rfl ?_
        refine V_iload d_C_begin_26 rfl ?_
        refine V_aload_n d_C_begin_28 rfl ?_
        refine V_getfield d_C_begin_29 fl_C_41 (oa_2 hO (by omega) (by omega)) rfl ?_
        refine V_iconst (nI 1) d_C_begin_32 rfl ?_
        refine V_iload d_C_begin_33 rfl ?_
        refine V_ishlN d_C_begin_35 (by omega) ?_
        rw [Nat.one_mul]
        have p2 : 2 ^ i < 2 ^ 10 := Nat.pow_lt_pow_right (by decide) (by omega)
        refine V_iaload d_C_begin_36 (oa_2 hlg (by omega) (by omega)) ⟨rfl, by omega, by decide⟩ ?_
        refine V_iload_n d_C_begin_37 rfl ?_
        refine V_iconst (-1) d_C_begin_38 rfl ?_
        refine V_ixor d_C_begin_39 ?_
        refine V_iand d_C_begin_40 ?_
        rw [nx_andn, show anN (lg (2 ^ i)) op = bF lg op i from rfl]
        have bl : bF lg op i < 2 ^ 20 := anN_lt (hl1 i (by omega))
        refine V_istN d_C_begin_41 (og_1 (by omega)) ⟨rfl, by omega, by decide⟩ (h' := hv_ov h [(a, oC a rr (rr + 1) (nI op) (nI 0)), (a + 2, eN 10 (hv_cp (bF lg op) bd (i + 1)))]) (by rw [hv_cp_s]; exact ou_1 (by omega)) ?_
        refine V_iload d_C_begin_42 rfl ?_
        refine V_iconst (nI 1) d_C_begin_44 rfl ?_
        refine V_aload_n d_C_begin_45 rfl ?_
        refine V_getfield d_C_begin_46 fl_C_15 (og_0) rfl ?_
        refine V_iload d_C_begin_49 rfl ?_
        refine V_iaload d_C_begin_51 (og_1 (by omega)) ⟨rfl, by omega, by decide⟩ ?_
        rw [cp_at (Nat.lt_succ_self i)]
        refine V_callS1 d_C_begin_52 ml_C_46 mB_JI_bitCount ms_JI_bitCount (c_bitCount l D _ _ (Nat.lt_trans bl (by decide))) rfl rfl rfl rfl rfl rfl rfl ?_
        rintro _ _ ⟨rfl, rfl⟩
        refine V_ishlN d_C_begin_55 (by have := pc_le bl; omega) ?_
        refine V_iaddN d_C_begin_56 ?_
        rw [Nat.one_mul]
        refine V_istore_4 d_C_begin_57 rfl ?_
        refine V_iincN_5 1 d_C_begin_59 rfl rfl ?_
        refine V_goto 16 d_C_begin_62 (by decide) ?_
        exact ih (c - (i + 1)) (by omega) (i + 1) rfl (by omega)
  refine V_eqH (ob_2 ha hbd) ?_
  refine V_aload_n d_C_begin_0 rfl ?_
  refine V_iload_n d_C_begin_1 rfl ?_
  refine V_put (e' := oC a rr (rr + 1) (nI op) us0) d_C_begin_2 fp_C_34 (og_0) rfl rfl rfl rfl (ou_0) ?_
  refine V_aload_n d_C_begin_5 rfl ?_
  refine V_iconst (nI 0) d_C_begin_6 rfl ?_
  refine V_put (e' := oC a rr (rr + 1) (nI op) (nI 0)) d_C_begin_7 fp_C_38 (og_0) rfl rfl rfl rfl (ou_0) ?_
  refine V_iconst (nI 0) d_C_begin_10 rfl ?_
  refine V_istore_4 d_C_begin_11 rfl ?_
  refine V_iconst (nI 0) d_C_begin_13 rfl ?_
  refine V_istore_5 d_C_begin_14 rfl ?_
  have J := lp1 _ 0 rfl (Nat.zero_le _)
  rw [hv_cp_0] at J
  exact J

theorem nwb_cg {g g' : Nat → Option Nat} {x v : Nat} : ∀ m, (∀ p, p < m → g p = g' p) → nwb g x v m = nwb g' x v m
  | 0, _ => rfl
  | m + 1, h => by simp only [nwb, nwb_cg m (fun p hp => h p (by omega)), h m (by omega)]
/-- a table behind its first k entries -/
def ldV (c : Nat) (pl : Nat → Nat) (la : Nat → Option Nat) (t om : Nat) (E : Nat → Cx) (k y : Nat) : Cx := sR (fun i => if adOK c pl la t om i ∧ adP c pl la t i = y then E i else c0_) k
/-- the rows f stand to rows f0 as if a table lay at us -/
def ldOK (f1 f2 g1 g2 : Nat → Int64) (us w : Nat) (T : Nat → Cx) : Prop := (∀ y, y < w → (g1 (us + y), g2 (us + y)) = T y) ∧ ∀ p, p < us ∨ us + w ≤ p → g1 p = f1 p ∧ g2 p = f2 p
theorem ldOK_s {c : Nat} {pl : Nat → Nat} {la : Nat → Option Nat} {t om us w k : Nat} {E : Nat → Cx} {f1 f2 g1 g2 : Nat → Int64} {x y : Int64} (h : ldOK f1 f2 g1 g2 us w (ldV c pl la t om E k)) (hE : E k = (x, y)) (hw : adP c pl la t k < w) : ldOK f1 f2 (if adOK c pl la t om k then va_up g1 (us + adP c pl la t k) (g1 (us + adP c pl la t k) + x) else g1) (if adOK c pl la t om k then va_up g2 (us + adP c pl la t k) (g2 (us + adP c pl la t k) + y) else g2) us w (ldV c pl la t om E (k + 1)) := by
  obtain ⟨a, b⟩ := h
  by_cases q : adOK c pl la t om k
  · rw [if_pos q, if_pos q]
    refine ⟨fun z hz => ?_, fun p hp => ?_⟩
    · show _ = cad (ldV c pl la t om E k z) (if adOK c pl la t om k ∧ adP c pl la t k = z then E k else c0_)
      by_cases e : adP c pl la t k = z
      · rw [if_pos ⟨q, e⟩, ← a z hz, hE, e, vu_s, vu_s]
        rfl
      · rw [if_neg (fun r => e r.2), cad_0, vu_n (by omega), vu_n (by omega)]
        exact a z hz
    · rw [vu_n (by omega), vu_n (by omega)]
      exact b p hp
  · rw [if_neg q, if_neg q]
    refine ⟨fun z hz => ?_, b⟩
    show _ = cad (ldV c pl la t om E k z) (if adOK c pl la t om k ∧ adP c pl la t k = z then E k else c0_)
    rw [if_neg (fun r => q r.1), cad_0]
    exact a z hz
set_option maxRecDepth 100000 in
set_option maxHeartbeats 4000000 in
theorem c_C_load1 (l : Launch) (D : hv_D) (h : hv_P) (nx : Nat) {b rr us t om c n : Nat} {pl : Nat → Nat} {la : Nat → Option Nat} {re im : Nat → Int32} {f1 f2 : Nat → Int64} {st bd : Nat → Nat} (ha : h (b + 62) = some (oC (b + 62) rr (rr + 1) (nI (OPN c pl la)) (nI us))) (hs : h (b + 63) = some (eN 10 st)) (hbd : h (b + 64) = some (eN 10 bd)) (h1 : h rr = some (eL n f1)) (h2 : h (rr + 1) = some (eL n f2)) (har : b + 64 < rr) (hn : n < 100000) (hT : tS h b pl la re im) (hN : netOK c pl la) (ht : t < c) (hom : om < 2 ^ 20) (hbt : bd t = BS c pl la (2 ^ t)) (hw : us + 2 ^ pc_ (BS c pl la (2 ^ t)) ≤ n) (hz : ∀ p, us ≤ p → p < us + 2 ^ pc_ (BS c pl la (2 ^ t)) → (f1 p, f2 p) = c0_) {so sx : Int32} (hso : ¬ nI t = so) : hv_N l D M_C_load (hv_rm 3 80 0 0) [.ref (b + 62), .int (nI t), .ref (b + 2 + 4 * t), .int (nI om), .int (-1)] h nx (hv_ans none (fun h' n' => n' = nx ∧ ∃ g1 g2 : Nat → Int64, h' = hv_ov h [(b + 62, oC (b + 62) rr (rr + 1) (nI (OPN c pl la)) (nI (us + 2 ^ pc_ (BS c pl la (2 ^ t))))), (b + 63, eN 10 (va_up st t us)), (rr, eL n (g1)), (rr + 1, eL n (g2))] ∧ ldOK f1 f2 g1 g2 us (2 ^ pc_ (BS c pl la (2 ^ t))) (ldV c pl la t om (enK so sx re im t) (2 ^ pl t)))) := by
  refine hv_N.of' [some (.ref (b + 62)), some (.int (nI t)), some (.ref (b + 2 + 4 * t)), some (.int (nI om)), some (.int (-1)), none] (by decide +kernel) rfl rfl rfl ?_
  have hc := hN.1
  have hp6 := hN.2.1 t ht
  have BL : BS c pl la (2 ^ t) < 2 ^ 20 := BS_lt hN (Nat.pow_lt_pow_right (by decide) ht)
  obtain ⟨gT, gT1, gT2⟩ := hT.2.2.1 t (by omega)
  obtain ⟨gR, gR1, gR2⟩ := hT.2.2.2.1 t (by omega)
  obtain ⟨gM, gM1, gM2⟩ := hT.2.2.2.2 t (by omega)
  have hv : ∀ p k, p < 6 → gT p = some k → k < 20 := fun p k hp e => by rw [gT2 p hp] at e; exact hN.2.2.1 _ k (by omega) e
  have EN : ∀ i v, nwb gT i v (pl t) = nwb (fun p => la (6 * t + p)) i v (pl t) := fun i v => nwb_cg _ (fun p hp => gT2 p (by omega))
  have AP : ∀ i, (gatF (nwb (fun p => la (6 * t + p)) i 1 (pl t)) (BS c pl la (2 ^ t)) 20).1 < 2 ^ pc_ (BS c pl la (2 ^ t)) := fun i => by rw [pc_20 BL]; exact gat_lt 20
  have p64 : 2 ^ pl t ≤ 2 ^ 6 := Nat.pow_le_pow_right (by decide) hp6
  have LZ : ∀ E : Nat → Cx, ldOK f1 f2 f1 f2 us (2 ^ pc_ (BS c pl la (2 ^ t))) (ldV c pl la t om E 0) := fun E => ⟨fun y hy => hz _ (by omega) (by omega), fun p _ => ⟨rfl, rfl⟩⟩
  have HX : hv_up (hv_ov h [(b + 62, oC (b + 62) rr (rr + 1) (nI (OPN c pl la)) (nI (us + 2 ^ pc_ (BS c pl la (2 ^ t)))))]) (b + 63) (eN 10 (va_up st t us)) = hv_ov h [(b + 62, oC (b + 62) rr (rr + 1) (nI (OPN c pl la)) (nI (us + 2 ^ pc_ (BS c pl la (2 ^ t))))), (b + 63, eN 10 (va_up st t us)), (rr, eL n (f1)), (rr + 1, eL n (f2))] := by
    rw [ox_1, hv_up_c (by omega), ox_4]
    congr 2
    exact (ob_2 h1 h2).trans ox_2
  have lp : ∀ (kk i : Nat), kk = (2 ^ pl t) - i → i ≤ (2 ^ pl t) → ∀ g1 g2 : Nat → Int64, ldOK f1 f2 g1 g2 us (2 ^ pc_ (BS c pl la (2 ^ t))) (ldV c pl la t om (enK so sx re im t) i) → hv_V l D M_C_load (fun _ _ => True) (hv_rm 3 80 0 0) (hv_ans none (fun h' n' => n' = nx ∧ ∃ g1 g2 : Nat → Int64, h' = hv_ov h [(b + 62, oC (b + 62) rr (rr + 1) (nI (OPN c pl la)) (nI (us + 2 ^ pc_ (BS c pl la (2 ^ t))))), (b + 63, eN 10 (va_up st t us)), (rr, eL n (g1)), (rr + 1, eL n (g2))] ∧ ldOK f1 f2 g1 g2 us (2 ^ pc_ (BS c pl la (2 ^ t))) (ldV c pl la t om (enK so sx re im t) (2 ^ pl t)))) 0 0 (hv_ov h [(b + 62, oC (b + 62) rr (rr + 1) (nI (OPN c pl la)) (nI (us + 2 ^ pc_ (BS c pl la (2 ^ t))))), (b + 63, eN 10 (va_up st t us)), (rr, eL n (g1)), (rr + 1, eL n (g2))]) nx 37 [some (.ref (b + 62)), some (.int (nI t)), some (.ref (b + 2 + 4 * t)), some (.int (nI om)), some (.int (-1)), some (.int (nI i))] [] := by
    intro kk
    induction kk using Nat.strongRecOn with
    | ind kk ih =>
      intro i hkk hi g1 g2 hL
      refine V_iload d_C_load_37 rfl ?_
      refine V_iconst (nI 1) d_C_load_39 rfl ?_
      refine V_aload_n d_C_load_40 rfl ?_
      refine V_getfield d_C_load_41 fl_C_72 (oa_4 (hT.2.1 t (by omega)) (by omega) (by omega) (by omega) (by omega)) rfl ?_
      refine V_ishlN d_C_load_44 (by omega) ?_
      rw [Nat.one_mul]
      refine V_icmp_geN 77 d_C_load_45 (by decide) (by omega) (by omega) (fun ci => ?_) (fun ci => ?_)
      · have ei : i = 2 ^ pl t := by omega
        subst ei
        exact V_return d_C_load_77 rfl ⟨rfl, rfl, _, _, rfl, hL⟩
      · refine V_aload_n d_C_load_48 rfl ?_
        refine V_iload_n d_C_load_49 rfl ?_
        refine V_aload_n d_C_load_50 rfl ?_
        refine V_iload_n d_C_load_51 rfl ?_
        refine V_iload d_C_load_52 rfl ?_
        refine V_aload_n d_C_load_54 rfl ?_
        refine V_getfield d_C_load_55 fl_C_77 (oa_4 (hT.2.1 t (by omega)) (by omega) (by omega) (by omega) (by omega)) rfl ?_
        refine V_iload d_C_load_58 rfl ?_
        refine V_iaload d_C_load_60 (oa_4 gR1 (by omega) (by omega) (by omega) (by omega)) ⟨rfl, by omega, by decide⟩ ?_
        refine V_aload_n d_C_load_61 rfl ?_
        refine V_getfield d_C_load_62 fl_C_79 (oa_4 (hT.2.1 t (by omega)) (by omega) (by omega) (by omega) (by omega)) rfl ?_
        refine V_iload d_C_load_65 rfl ?_
        refine V_iaload d_C_load_67 (oa_4 gM1 (by omega) (by omega) (by omega) (by omega)) ⟨rfl, by omega, by decide⟩ ?_
        refine V_callV0 d_C_load_68 ml_C_68 mB_C_add mi_C_add mv_C_add rfl og_0 (c_C_add l D _ _ (op := OPN c pl la) (us := us + 2 ^ pc_ (BS c pl la (2 ^ t))) (t := t) (i := i) (om := om) (x := gR i) (y := gM i) (f1 := g1) (f2 := g2) (st := va_up st t us) (bd := bd) og_0 (og_1 (by omega)) (oa_4 hbd (by omega) (by omega) (by omega) (by omega)) (og_2 (by omega) (by omega)) (og_3 (by omega) (by omega) (by omega)) (by omega) hn (oa_4 (hT.2.1 t (by omega)) (by omega) (by omega) (by omega) (by omega)) (oa_4 gT1 (by omega) (by omega) (by omega) (by omega)) hp6 (by omega) (by omega) hv (by rw [hbt]; exact BL) hom (OPN_lt hN) (fun _ => by rw [vu_s, hbt, EN]; have := AP (i); omega)) rfl rfl rfl rfl rfl rfl rfl ?_
        rintro _ _ ⟨rfl, rfl⟩
        rw [ox_2, ou_3 (by omega) (by omega) (by omega), ou_2 (by omega) (by omega), vu_s, hbt, EN, EN]
        have eE : enK so sx re im t i = ((gR i).toInt64, (gM i).toInt64) := by unfold enK; rw [if_neg hso, gR2 i (by omega), gM2 i (by omega)]
        have J := ih (2 ^ pl t - (i + 1)) (by omega) (i + 1) rfl (by omega) _ _ (ldOK_s hL eE (AP i))
        refine V_iincN_5 1 d_C_load_71 rfl rfl ?_
        refine V_goto 37 d_C_load_74 (by decide) ?_
        exact J
  refine V_aload_n d_C_load_0 rfl ?_
  refine V_getfield d_C_load_1 fl_C_9 ha rfl ?_
  refine V_iload_n d_C_load_4 rfl ?_
  refine V_aload_n d_C_load_5 rfl ?_
  refine V_aload_n d_C_load_6 rfl ?_
  refine V_getfield d_C_load_7 fl_C_15 ha rfl ?_
  refine V_iload_n d_C_load_10 rfl ?_
  refine V_iaload d_C_load_11 hbd ⟨rfl, by omega, by decide⟩ ?_
  refine V_callV1 d_C_load_12 ml_C_65 mB_C_take mi_C_take mv_C_take rfl ha (c_C_take l D _ _ ha (by rw [hbt]; exact BL)) rfl rfl rfl rfl rfl rfl rfl ?_
  rintro _ _ ⟨rfl, e9⟩
  have e9 := e9.symm
  subst e9
  rw [hbt]
  refine V_istN d_C_load_15 (oa_1 hs (by omega)) ⟨rfl, by omega, by decide⟩ (h' := hv_ov h [(b + 62, oC (b + 62) rr (rr + 1) (nI (OPN c pl la)) (nI (us + 2 ^ pc_ (BS c pl la (2 ^ t))))), (b + 63, eN 10 (va_up st t us)), (rr, eL n (f1)), (rr + 1, eL n (f2))]) HX ?_
  refine V_iload d_C_load_16 rfl ?_
  refine V_iconst (-1) d_C_load_18 rfl ?_
  refine V_icmp_eq 34 d_C_load_19 (by decide) (fun _ => ?_) (fun q => absurd rfl q)
  refine V_iconst (nI 0) d_C_load_34 rfl ?_
  refine V_istore_5 d_C_load_35 rfl ?_
  exact lp _ 0 rfl (Nat.zero_le _) f1 f2 (LZ _)

set_option maxRecDepth 100000 in
set_option maxHeartbeats 4000000 in
theorem c_C_load2 (l : Launch) (D : hv_D) (h : hv_P) (nx : Nat) {b rr us t om c n : Nat} {pl : Nat → Nat} {la : Nat → Option Nat} {re im : Nat → Int32} {f1 f2 : Nat → Int64} {st bd : Nat → Nat} (ha : h (b + 62) = some (oC (b + 62) rr (rr + 1) (nI (OPN c pl la)) (nI us))) (hs : h (b + 63) = some (eN 10 st)) (hbd : h (b + 64) = some (eN 10 bd)) (h1 : h rr = some (eL n f1)) (h2 : h (rr + 1) = some (eL n f2)) (har : b + 64 < rr) (hn : n < 100000) (hT : tS h b pl la re im) (hN : netOK c pl la) (ht : t < c) (hom : om < 2 ^ 20) (hbt : bd t = BS c pl la (2 ^ t)) (hw : us + 2 ^ pc_ (BS c pl la (2 ^ t)) ≤ n) (hz : ∀ p, us ≤ p → p < us + 2 ^ pc_ (BS c pl la (2 ^ t)) → (f1 p, f2 p) = c0_) {x : Nat} (hx : x < 2 ^ pl t) : hv_N l D M_C_load (hv_rm 3 80 0 0) [.ref (b + 62), .int (nI t), .ref (b + 2 + 4 * t), .int (nI om), .int (nI x)] h nx (hv_ans none (fun h' n' => n' = nx ∧ ∃ g1 g2 : Nat → Int64, h' = hv_ov h [(b + 62, oC (b + 62) rr (rr + 1) (nI (OPN c pl la)) (nI (us + 2 ^ pc_ (BS c pl la (2 ^ t))))), (b + 63, eN 10 (va_up st t us)), (rr, eL n (g1)), (rr + 1, eL n (g2))] ∧ ldOK f1 f2 g1 g2 us (2 ^ pc_ (BS c pl la (2 ^ t))) (ldV c pl la t om (enK (nI t) (nI x) re im t) (2 ^ pl t)))) := by
  refine hv_N.of' [some (.ref (b + 62)), some (.int (nI t)), some (.ref (b + 2 + 4 * t)), some (.int (nI om)), some (.int (nI x)), none] (by decide +kernel) rfl rfl rfl ?_
  have hc := hN.1
  have hp6 := hN.2.1 t ht
  have BL : BS c pl la (2 ^ t) < 2 ^ 20 := BS_lt hN (Nat.pow_lt_pow_right (by decide) ht)
  obtain ⟨gT, gT1, gT2⟩ := hT.2.2.1 t (by omega)
  obtain ⟨gR, gR1, gR2⟩ := hT.2.2.2.1 t (by omega)
  obtain ⟨gM, gM1, gM2⟩ := hT.2.2.2.2 t (by omega)
  have hv : ∀ p k, p < 6 → gT p = some k → k < 20 := fun p k hp e => by rw [gT2 p hp] at e; exact hN.2.2.1 _ k (by omega) e
  have EN : ∀ i v, nwb gT i v (pl t) = nwb (fun p => la (6 * t + p)) i v (pl t) := fun i v => nwb_cg _ (fun p hp => gT2 p (by omega))
  have AP : ∀ i, (gatF (nwb (fun p => la (6 * t + p)) i 1 (pl t)) (BS c pl la (2 ^ t)) 20).1 < 2 ^ pc_ (BS c pl la (2 ^ t)) := fun i => by rw [pc_20 BL]; exact gat_lt 20
  have p64 : 2 ^ pl t ≤ 2 ^ 6 := Nat.pow_le_pow_right (by decide) hp6
  have LZ : ∀ E : Nat → Cx, ldOK f1 f2 f1 f2 us (2 ^ pc_ (BS c pl la (2 ^ t))) (ldV c pl la t om E 0) := fun E => ⟨fun y hy => hz _ (by omega) (by omega), fun p _ => ⟨rfl, rfl⟩⟩
  have HX : hv_up (hv_ov h [(b + 62, oC (b + 62) rr (rr + 1) (nI (OPN c pl la)) (nI (us + 2 ^ pc_ (BS c pl la (2 ^ t)))))]) (b + 63) (eN 10 (va_up st t us)) = hv_ov h [(b + 62, oC (b + 62) rr (rr + 1) (nI (OPN c pl la)) (nI (us + 2 ^ pc_ (BS c pl la (2 ^ t))))), (b + 63, eN 10 (va_up st t us)), (rr, eL n (f1)), (rr + 1, eL n (f2))] := by
    rw [ox_1, hv_up_c (by omega), ox_4]
    congr 2
    exact (ob_2 h1 h2).trans ox_2
  refine V_aload_n d_C_load_0 rfl ?_
  refine V_getfield d_C_load_1 fl_C_9 ha rfl ?_
  refine V_iload_n d_C_load_4 rfl ?_
  refine V_aload_n d_C_load_5 rfl ?_
  refine V_aload_n d_C_load_6 rfl ?_
  refine V_getfield d_C_load_7 fl_C_15 ha rfl ?_
  refine V_iload_n d_C_load_10 rfl ?_
  refine V_iaload d_C_load_11 hbd ⟨rfl, by omega, by decide⟩ ?_
  refine V_callV1 d_C_load_12 ml_C_65 mB_C_take mi_C_take mv_C_take rfl ha (c_C_take l D _ _ ha (by rw [hbt]; exact BL)) rfl rfl rfl rfl rfl rfl rfl ?_
  rintro _ _ ⟨rfl, e9⟩
  have e9 := e9.symm
  subst e9
  rw [hbt]
  refine V_istN d_C_load_15 (oa_1 hs (by omega)) ⟨rfl, by omega, by decide⟩ (h' := hv_ov h [(b + 62, oC (b + 62) rr (rr + 1) (nI (OPN c pl la)) (nI (us + 2 ^ pc_ (BS c pl la (2 ^ t))))), (b + 63, eN 10 (va_up st t us)), (rr, eL n (f1)), (rr + 1, eL n (f2))]) HX ?_
  refine V_iload d_C_load_16 rfl ?_
  refine V_iconst (-1) d_C_load_18 rfl ?_
  refine V_icmp_eq 34 d_C_load_19 (by decide) (fun q => absurd q (nI_m1 (by omega))) (fun _ => ?_)
  refine V_aload_n d_C_load_22 rfl ?_
  refine V_iload_n d_C_load_23 rfl ?_
  refine V_aload_n d_C_load_24 rfl ?_
  refine V_iload_n d_C_load_25 rfl ?_
  refine V_iload d_C_load_26 rfl ?_
  refine V_iconst (1) d_C_load_28 rfl ?_
  refine V_iconst (0) d_C_load_29 rfl ?_
  refine V_callV0 d_C_load_30 ml_C_68 mB_C_add mi_C_add mv_C_add rfl og_0 (c_C_add l D _ _ (op := OPN c pl la) (us := us + 2 ^ pc_ (BS c pl la (2 ^ t))) (t := t) (i := x) (om := om) (x := 1) (y := 0) (f1 := f1) (f2 := f2) (st := va_up st t us) (bd := bd) og_0 (og_1 (by omega)) (oa_4 hbd (by omega) (by omega) (by omega) (by omega)) (og_2 (by omega) (by omega)) (og_3 (by omega) (by omega) (by omega)) (by omega) hn (oa_4 (hT.2.1 t (by omega)) (by omega) (by omega) (by omega) (by omega)) (oa_4 gT1 (by omega) (by omega) (by omega) (by omega)) hp6 (by omega) (by omega) hv (by rw [hbt]; exact BL) hom (OPN_lt hN) (fun _ => by rw [vu_s, hbt, EN]; have := AP (x); omega)) rfl rfl rfl rfl rfl rfl rfl ?_
  rintro _ _ ⟨rfl, rfl⟩
  rw [ox_2, ou_3 (by omega) (by omega) (by omega), ou_2 (by omega) (by omega), vu_s, hbt, EN, EN]
  refine V_return d_C_load_33 rfl ⟨rfl, rfl, _, _, rfl, ?_⟩
  have key : ∀ y, ldV c pl la t om (enK (nI t) (nI x) re im t) (2 ^ pl t) y = if adOK c pl la t om x ∧ adP c pl la t x = y then c1_ else c0_ := fun y => by
    unfold ldV
    rw [sR_congr (G := fun i => if i = x then (if adOK c pl la t om i ∧ adP c pl la t i = y then c1_ else c0_) else c0_) (fun i hi => ?_), sR_pick, if_pos hx]
    unfold enK
    rw [if_pos rfl]
    by_cases e : i = x
    · rw [if_pos e, e, if_pos rfl]
    · rw [if_neg e, if_neg (fun q => e ((nI_eq (by omega) (by omega)).mp q))]
      split <;> rfl
  have one : ∀ z : Int64, z + (1 : Int32).toInt64 = z + 1 := fun z => rfl
  by_cases q : adOK c pl la t om x
  · rw [if_pos q, if_pos q]
    refine ⟨fun y hy => ?_, fun p hp => ?_⟩
    · rw [key]
      have z := hz (us + y) (by omega) (by omega)
      by_cases e : (gatF (nwb (fun p => la (6 * t + p)) x 1 (pl t)) (BS c pl la (2 ^ t)) 20).1 = y
      · rw [if_pos ⟨q, e⟩, e, vu_s, vu_s]
        have z1 : f1 (us + y) = 0 := congrArg Prod.fst z
        have z2 : f2 (us + y) = 0 := congrArg Prod.snd z
        rw [z1, z2]
        rfl
      · rw [if_neg (fun r => e r.2), vu_n (by omega), vu_n (by omega)]
        exact z
    · have := AP x
      rw [vu_n (by omega), vu_n (by omega)]
      exact ⟨rfl, rfl⟩
  · rw [if_neg q, if_neg q]
    exact ⟨fun y hy => by rw [key, if_neg (fun r => q r.1)]; exact hz _ (by omega) (by omega), fun p _ => ⟨rfl, rfl⟩⟩
