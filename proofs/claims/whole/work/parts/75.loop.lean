-- THE LAW: its loop and its start
theorem lt_5 {L i : Nat} (hL : L ≤ 2560) (hi : i ≤ 2564) : (nI L - 5 < nI i) ↔ L < i + 5 := by
  have e1 : (nI L - 5).toInt = (L : Int) - 5 := sub_small (nI_toInt (by omega)) rfl (by omega) (by omega)
  rw [Int32.lt_iff_toInt_lt, e1, nI_toInt (by omega)]
  omega
theorem and15 (v : Int32) : ∃ m, m < 16 ∧ v &&& 15 = nI m := by
  refine ⟨v.toBitVec.toNat &&& 15, Nat.lt_of_le_of_lt Nat.and_le_right (by decide), ?_⟩
  apply Int32.toBitVec_inj.1
  apply BitVec.eq_of_toNat_eq
  show (v.toBitVec &&& (15 : Int32).toBitVec).toNat = (BitVec.ofNat 32 (v.toBitVec.toNat &&& 15)).toNat
  rw [BitVec.toNat_and, BitVec.toNat_ofNat, Nat.mod_eq_of_lt (Nat.lt_of_le_of_lt Nat.and_le_right (by decide))]
  rfl
theorem V_lt {l : Launch} {D : hv_D} {M : hv_M} {X : State → (Nat → Prop) → Prop} {rm : Room} {Q : hv_R → hv_P → Nat → Prop} {bc bs : Nat} {h : hv_P} {nx pc : Nat} {lv : List (Option Value)} {st : List Value} (k : (∀ q e, h q = some e → q < nx) → hv_V l D M X rm Q bc bs h nx pc lv st) : hv_V l D M X rm Q bc bs h nx pc lv st := by
  intro p e R s m args below meth c A H locs cells slots ls hC hW hb hl
  exact k (fun q e' hq => by rw [← hW.2.1]; exact hW.1.lt hq) p e R s m args below meth c A H locs cells slots ls hC hW hb hl
theorem nS_fr0 {h h' : hv_P} {b : Nat} {wk : Int32} {c : Nat} {pl : Nat → Nat} {la : Nat → Option Nat} {re im : Nat → Int32} {n : Nat} (S : nS h b wk c pl la re im n) (lt : ∀ q e, h q = some e → q < b + 91) (f : ∀ q, b ≤ q → q ≤ b + 69 → h' q = h q) : nS h' b wk c pl la re im n := by
  obtain ⟨lk, cu, u, l0, cp, s0, s1, s2, s3, s4, s5, s6, s7, s8, s9, s10, ⟨rr, op, us, st, bd, m1, m2, m3, f1, f2, r0, r1, r2, r3, r4, r5, r6, r7, r8, r9⟩, s12⟩ := S
  have hr : rr = b + 68 := by
    rcases r8 with q | q
    · exact q
    · have := lt _ _ r6
      omega
  subst hr
  exact ⟨lk, cu, u, l0, cp, by rw [f _ (by omega) (by omega)]; exact s0, s1.fr (fun q a b => f q (by omega) (by omega)), by rw [f _ (by omega) (by omega)]; exact s2, s3, by rw [f _ (by omega) (by omega)]; exact s4, by rw [f _ (by omega) (by omega)]; exact s5, s6, s7.fr (fun q a b => f q (by omega) (by omega)), s8.fr (fun q a b => f q (by omega) (by omega)), s9, s10.fr (fun q a b => f q (by omega) (by omega)), ⟨b + 68, op, us, st, bd, m1, m2, m3, f1, f2, by rw [f _ (by omega) (by omega)]; exact r0, by rw [f _ (by omega) (by omega)]; exact r1, by rw [f _ (by omega) (by omega)]; exact r2, by rw [f _ (by omega) (by omega)]; exact r3, by rw [f _ (by omega) (by omega)]; exact r4, by rw [f _ (by omega) (by omega)]; exact r5, by rw [f _ (by omega) (by omega)]; exact r6, by rw [f _ (by omega) (by omega)]; exact r7, r8, r9⟩, s12⟩
set_option maxRecDepth 100000 in
set_option maxHeartbeats 4000000 in
theorem law_loop (l : Launch) (htr : ∀ e, l.admits e → e.platform.stackTraces = false) (D : hv_D) {sb L b : Nat} {xs : Nat → Int32} (hL : L ≤ 2560) : ∀ (kk i : Nat), kk = L + 5 - i → i ≤ L + 4 → ∀ (h : hv_P) (c : Nat) (pl : Nat → Nat) (la : Nat → Option Nat) (re im : Nat → Int32) (n : Nat), lS h b c pl la re im n → ∀ nx bc bs : Nat, b + 91 ≤ nx → 2 * (L - i) ≤ bc → 6 * (L - i) + PHI n ≤ bs → hv_V l D M_L_law (hv_XL sb L xs) (hv_rm 11 394 601024 7293034) (hv_ans (some (.int 1)) (fun _ _ => True)) bc bs h nx 23 [some (.ref sb), some (.ref b), some (.ref (b + 70)), some (.ref (b + 90)), some (.int (nI (i))), none, none, none] [] := by
  intro kk
  induction kk using Nat.strongRecOn with
  | ind kk ih =>
    intro i hkk hi h c pl la re im n hS nx bc bs hnx hbc hbs
    refine V_iload d_L_law_23 rfl ?_
    refine V_aload_n d_L_law_25 rfl ?_
    refine V_slen (fun s A q => q.2) d_L_law_26 ?_
    refine V_iconst (5) d_L_law_27 rfl ?_
    refine V_isub d_L_law_28 ?_
    refine V_icmp_gt 594 d_L_law_29 (by decide) (fun c29 => ?_) (fun c29 => ?_)
    · refine V_iconst (1) d_L_law_594 rfl ?_
      exact V_zreturn d_L_law_595 rfl rfl ⟨rfl, trivial⟩
    · have hi5 : i + 5 ≤ L := Nat.not_lt.mp (fun z => c29 ((lt_5 hL (by omega)).mpr z))
      refine V_aload_n d_L_law_32 rfl ?_
      refine V_iload d_L_law_33 rfl ?_
      refine V_sld (fun s A q => q.2) d_L_law_35 ⟨rfl, by omega, by omega⟩ rfl ?_
      refine V_bipush (15) d_L_law_36 rfl ?_
      refine V_iand d_L_law_38 ?_
      obtain ⟨m, hm, em⟩ := and15 (xs i)
      refine V_eqI em ?_
      have KK : ∀ (h3 : hv_P) (c3 : Nat) (pl3 : Nat → Nat) (la3 : Nat → Option Nat) (re3 im3 : Nat → Int32) (n3 : Nat), lS h3 b c3 pl3 la3 re3 im3 n3 → ∀ nx3 bc3 bs3 : Nat, b + 91 ≤ nx3 → bc ≤ bc3 + 2 → bs + PHI n3 ≤ bs3 + PHI n + 6 → hv_V l D M_L_law (hv_XL sb L xs) (hv_rm 11 394 601024 7293034) (hv_ans (some (.int 1)) (fun _ _ => True)) bc3 bs3 h3 nx3 588 [some (.ref sb), some (.ref b), some (.ref (b + 70)), some (.ref (b + 90)), some (.int (nI (i))), none, none, none] [] := by
        intro h3 c3 pl3 la3 re3 im3 n3 hS3 nx3 bc3 bs3 q1 q2 q3
        refine V_iincN_4 5 d_L_law_588 rfl rfl ?_
        refine V_goto 23 d_L_law_591 (by decide) ?_
        exact ih (L + 5 - (i + 5)) (by omega) (i + 5) rfl (by omega) h3 c3 pl3 la3 re3 im3 n3 hS3 nx3 bc3 bs3 q1 (by omega) (by omega)
      rcases (show m = 0 ∨ m = 1 ∨ m = 2 ∨ m = 3 ∨ m = 4 ∨ m = 5 ∨ m = 6 ∨ m = 7 ∨ m = 8 ∨ m = 9 ∨ m = 10 ∨ m = 11 ∨ m = 12 ∨ m = 13 ∨ m = 14 ∨ m = 15 by omega) with rfl | rfl | rfl | rfl | rfl | rfl | rfl | rfl | rfl | rfl | rfl | rfl | rfl | rfl | rfl | rfl
      · refine V_tableIn 108 d_L_law_39 (by decide) (by decide) rfl (by decide) ?_
        exact law_tensor l htr D hL hi5 hS hnx (by omega) (by omega) KK
      · refine V_tableIn 133 d_L_law_39 (by decide) (by decide) rfl (by decide) ?_
        exact law_leg l htr D hL hi5 hS hnx (by omega) (by omega) KK
      · refine V_tableIn 182 d_L_law_39 (by decide) (by decide) rfl (by decide) ?_
        exact law_put l htr D hL hi5 hS hnx (by omega) (by omega) KK
      · refine V_tableIn 243 d_L_law_39 (by decide) (by decide) rfl (by decide) ?_
        exact law_clear l htr D hL hi5 hS hnx (by omega) (by omega) KK
      · refine V_tableIn 254 d_L_law_39 (by decide) (by decide) rfl (by decide) ?_
        exact law_open l htr D hL hi5 hS hnx (by omega) (by omega) KK
      · refine V_tableIn 267 d_L_law_39 (by decide) (by decide) rfl (by decide) ?_
        exact law_value l htr D hL hi5 hS hnx (by omega) (by omega) KK
      · refine V_tableIn 334 d_L_law_39 (by decide) (by decide) rfl (by decide) ?_
        exact law_slope l htr D hL hi5 hS hnx (by omega) (by omega) KK
      · refine V_tableIn 425 d_L_law_39 (by decide) (by decide) rfl (by decide) ?_
        exact law_cost l htr D hL hi5 hS hnx (by omega) (by omega) KK
      · refine V_tableIn 438 d_L_law_39 (by decide) (by decide) rfl (by decide) ?_
        exact law_peak l htr D hL hi5 hS hnx (by omega) (by omega) KK
      · refine V_tableIn 451 d_L_law_39 (by decide) (by decide) rfl (by decide) ?_
        exact law_step l htr D hL hi5 hS hnx (by omega) (by omega) KK
      · refine V_tableIn 488 d_L_law_39 (by decide) (by decide) rfl (by decide) ?_
        exact law_greedy l htr D hL hi5 hS hnx (by omega) (by omega) KK
      · refine V_tableIn 513 d_L_law_39 (by decide) (by decide) rfl (by decide) ?_
        exact law_cut l htr D hL hi5 hS hnx (by omega) (by omega) KK
      · refine V_tableIn 538 d_L_law_39 (by decide) (by decide) rfl (by decide) ?_
        exact law_costOf l htr D hL hi5 hS hnx (by omega) (by omega) KK
      · refine V_tableIn 563 d_L_law_39 (by decide) (by decide) rfl (by decide) ?_
        exact law_total l htr D hL hi5 hS hnx (by omega) (by omega) KK
      · refine V_tableOut 588 d_L_law_39 (Or.inr (by decide)) (by decide) ?_
        exact KK h c pl la re im n hS nx bc bs hnx (by omega) (by omega)
      · refine V_tableOut 588 d_L_law_39 (Or.inr (by decide)) (by decide) ?_
        exact KK h c pl la re im n hS nx bc bs hnx (by omega) (by omega)
set_option maxRecDepth 100000 in
set_option maxHeartbeats 4000000 in
theorem law_start (l : Launch) (htr : ∀ e, l.admits e → e.platform.stackTraces = false) (D : hv_D) {sb L b : Nat} {xs : Nat → Int32} (hL : L ≤ 2560) : hv_V l D M_L_law (hv_XL sb L xs) (hv_rm 11 394 601024 7293034) (hv_ans (some (.int 1)) (fun _ _ => True)) 601024 7293034 (fun _ => none) b 0 [some (.ref sb), none, none, none, none, none, none, none] [] := by
  refine V_nO (bc' := 601023) (bs' := 7293021) (nx' := b + 1) d_L_law_0 nw_L_8 rfl rfl rfl rfl ?_
  refine V_dup d_L_law_3 rfl ?_
  refine V_cI0 600954 7284705 d_L_law_4 ml_L_21 mB_N_init mi_N_init rfl rfl (c_N_init l D _ hv_up_s) rfl rfl rfl rfl rfl rfl rfl ?_
  rintro h1 n1 ⟨rfl, -, ns1⟩
  refine V_lt (fun lt1 => ?_)
  refine V_astore_1 d_L_law_7 rfl ?_
  refine V_nO (bc' := 600953) (bs' := 7284674) (nx' := b + 70 + 1) d_L_law_8 nw_L_22 rfl rfl rfl rfl ?_
  refine V_dup d_L_law_11 rfl ?_
  refine V_cI0 600934 7280060 d_L_law_12 ml_L_24 mB_K_init mi_K_init rfl rfl (c_K_init l D _ hv_up_s) rfl rfl rfl rfl rfl rfl rfl ?_
  rintro h2 n2 ⟨rfl, fr2, ks2⟩
  refine V_astore_2 d_L_law_15 rfl ?_
  refine V_iconst (nI 1) d_L_law_16 rfl ?_
  refine V_nL (bc' := 600933) (bs' := 7280059) (nx' := b + 91) 1 d_L_law_17 rfl rfl rfl rfl rfl rfl ?_
  refine V_astore_3 d_L_law_19 rfl ?_
  refine V_iconst (nI 0) d_L_law_20 rfl ?_
  refine V_istore_4 d_L_law_21 rfl ?_
  refine law_loop l htr D hL _ 0 rfl (by omega) _ 0 (fun _ => 0) (fun _ => some 0) (fun _ => 0) (fun _ => 0) 64 ⟨⟨0, nS_fr0 ns1 (fun q e hq => by have := lt1 q e hq; omega) (fun q a1 a2 => (hv_up_n (by omega)).trans ((fr2 q (by omega)).trans (hv_up_n (by omega))))⟩, ⟨0, kS_fr ks2 (fun q a1 a2 => hv_up_n (by omega))⟩, ⟨_, hv_up_s⟩, fun t _ => Nat.zero_le 6⟩ _ _ _ (Nat.le_refl _) (by omega) (by unfold PHI; omega)