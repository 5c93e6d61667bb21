-- GREEDY: what is chosen
theorem pc_20 {x : Nat} (h : x < 2 ^ 20) : pc_ x = pc_n x 20 := pc_n_lt h 12
theorem pc_le {x : Nat} (h : x < 2 ^ 20) : pc_ x ≤ 20 := by rw [pc_20 h]; exact pc_n_le x 20
/-- what joining the things i, j gains -/
def gI (L : Nat → Nat) (i j : Nat) : Int32 := nI (2 ^ pc_ (L i ^^^ L j)) - nI (2 ^ pc_ (L i)) - nI (2 ^ pc_ (L j))
def lsI (L : Nat → Nat) (b : Option (Nat × Nat)) : Int32 := match b with
  | none => 1073741824
  | some q => gI L q.1 q.2
def chS (L : Nat → Nat) (gn : Nat) (b : Option (Nat × Nat)) (i j : Nat) : Option (Nat × Nat) := if gn.testBit i = false ∧ gn.testBit j = false ∧ gI L i j < lsI L b then some (i, j) else b
def chJ (L : Nat → Nat) (gn i j0 : Nat) (b : Option (Nat × Nat)) : Nat → Option (Nat × Nat)
  | 0 => b
  | m + 1 => chS L gn (chJ L gn i j0 b m) i (j0 + m)
def chI (L : Nat → Nat) (gn n : Nat) : Nat → Option (Nat × Nat)
  | 0 => none
  | i + 1 => chJ L gn i (i + 1) (chI L gn n i) (n - (i + 1))
def lesS (b : Option (Nat × Nat)) (f : Nat → Nat) (t : Nat) : Nat → Nat := match b with
  | none => f
  | some q => va_up f t q.1
def othS (b : Option (Nat × Nat)) (f : Nat → Nat) (t : Nat) : Nat → Nat := match b with
  | none => f
  | some q => va_up f t q.2
theorem va_up_up {α : Type} (f : Nat → α) (k : Nat) (v w : α) : va_up (va_up f k v) k w = va_up f k w := bx_uu f k v w
theorem lesS_up (b : Option (Nat × Nat)) (f : Nat → Nat) (t i j : Nat) : va_up (lesS b f t) t i = lesS (some (i, j)) f t := by
  cases b with
  | none => rfl
  | some q => exact va_up_up f t q.1 i
theorem othS_up (b : Option (Nat × Nat)) (f : Nat → Nat) (t i j : Nat) : va_up (othS b f t) t j = othS (some (i, j)) f t := by
  cases b with
  | none => rfl
  | some q => exact va_up_up f t q.2 j
theorem chJ_gone {L : Nat → Nat} {gn i j0 : Nat} {b : Option (Nat × Nat)} (h : gn.testBit i = true) : ∀ m, chJ L gn i j0 b m = b
  | 0 => rfl
  | m + 1 => by simp [chJ, chS, h, chJ_gone h m]
set_option maxRecDepth 100000 in
set_option maxHeartbeats 4000000 in
theorem c_G_addThing (l : Launch) (D : hv_D) (h : hv_P) (nx : Nat) {a : Nat} {gn ac : Int32} {L Z : Nat → Nat} (ha : h a = some (oG a gn ac)) (hL : h (a + 1) = some (eN 20 L)) (hZ : h (a + 2) = some (eN 20 Z)) {j x : Nat} (hj : j < 20) (hx : x < 2 ^ 20) : hv_N l D M_G_addThing (hv_rm 1 20 0 0) [.ref a, .int (nI j), .int (nI x)] h nx (hv_ans none (fun h' n' => h' = hv_ov h [(a, oG a gn ac), (a + 1, eN 20 (va_up L j x)), (a + 2, eN 20 (va_up Z j (2 ^ pc_ x)))] ∧ n' = nx)) := by
  refine hv_N.of' [some (.ref a), some (.int (nI j)), some (.int (nI x))] (by decide +kernel) rfl rfl rfl ?_
  refine V_eqH (ob_3 ha hL hZ) ?_
  refine V_aload_n d_G_addThing_0 rfl ?_
  refine V_getfield d_G_addThing_1 fl_G_9 (og_0) rfl ?_
  refine V_iload_n d_G_addThing_4 rfl ?_
  refine V_iload_n d_G_addThing_5 rfl ?_
  refine V_istN d_G_addThing_6 (og_1 (by omega)) ⟨rfl, hj, by decide⟩ (ou_1 (by omega)) ?_
  refine V_aload_n d_G_addThing_7 rfl ?_
  refine V_getfield d_G_addThing_8 fl_G_15 (og_0) rfl ?_
  refine V_iload_n d_G_addThing_11 rfl ?_
  refine V_iconst (nI 1) d_G_addThing_12 rfl ?_
  refine V_iload_n d_G_addThing_13 rfl ?_
  refine V_callS1 d_G_addThing_14 ml_G_38 mB_JI_bitCount ms_JI_bitCount (c_bitCount l D _ _ (by omega)) rfl rfl rfl rfl rfl rfl rfl ?_
  rintro _ _ ⟨rfl, rfl⟩
  refine V_ishlN d_G_addThing_17 (by have := pc_le hx; omega) ?_
  rw [Nat.one_mul]
  refine V_istN d_G_addThing_18 (og_2 (by omega) (by omega)) ⟨rfl, hj, by decide⟩ (ou_2 (by omega) (by omega)) ?_
  exact V_return d_G_addThing_19 rfl ⟨rfl, rfl, rfl⟩

set_option maxRecDepth 100000 in
set_option maxHeartbeats 4000000 in
theorem c_G_choose (l : Launch) (D : hv_D) (h : hv_P) (nx : Nat) {a gn n t : Nat} {ac : Int32} {L Z les oth : Nat → Nat} (ha : h a = some (oG a (nI gn) ac)) (hL : h (a + 1) = some (eN 20 L)) (hZ : h (a + 2) = some (eN 20 Z)) (hles : h (a + 3) = some (eN 10 les)) (hoth : h (a + 4) = some (eN 10 oth)) (hgn : gn < 2 ^ 31) (hn : n ≤ 20) (ht : t < 10) (hLl : ∀ i, i < n → L i < 2 ^ 20) (hZl : ∀ i, i < n → Z i = 2 ^ pc_ (L i)) : hv_N l D M_G_choose (hv_rm 1 21 0 0) [.ref a, .int (nI t), .int (nI n)] h nx (hv_ans none (fun h' n' => h' = hv_ov h [(a, oG a (nI gn) ac), (a + 1, eN 20 L), (a + 2, eN 20 Z), (a + 3, eN 10 (lesS (chI L gn n n) les t)), (a + 4, eN 10 (othS (chI L gn n n) oth t))] ∧ n' = nx)) := by
  have lp : ∀ (k i : Nat), k = n - i → i ≤ n → hv_V l D M_G_choose (fun _ _ => True) (hv_rm 1 21 0 0) (hv_ans none (fun h' n' => h' = hv_ov h [(a, oG a (nI gn) ac), (a + 1, eN 20 L), (a + 2, eN 20 Z), (a + 3, eN 10 (lesS (chI L gn n n) les t)), (a + 4, eN 10 (othS (chI L gn n n) oth t))] ∧ n' = nx)) 0 0 (hv_ov h [(a, oG a (nI gn) ac), (a + 1, eN 20 L), (a + 2, eN 20 Z), (a + 3, eN 10 (lesS (chI L gn n i) les t)), (a + 4, eN 10 (othS (chI L gn n i) oth t))]) nx 6 [some (.ref a), some (.int (nI t)), some (.int (nI n)), some (.int (lsI L (chI L gn n i))), some (.int (nI i)), none, none, none] [] := by
    intro k
    induction k using Nat.strongRecOn with
    | ind k ih =>
      intro i hk hi
      refine V_iload d_G_choose_6 rfl ?_
      refine V_iload_n d_G_choose_8 rfl ?_
      refine V_icmp_geN 127 d_G_choose_9 (by decide) (by omega) (by omega) (fun ci => ?_) (fun ci => ?_)
      · exact V_return d_G_choose_127 rfl ⟨rfl, by rw [show i = n by omega], rfl⟩
      · have lp2 : ∀ (k m : Nat), k = (n - (i + 1)) - m → m ≤ (n - (i + 1)) → hv_V l D M_G_choose (fun _ _ => True) (hv_rm 1 21 0 0) (hv_ans none (fun h' n' => h' = hv_ov h [(a, oG a (nI gn) ac), (a + 1, eN 20 L), (a + 2, eN 20 Z), (a + 3, eN 10 (lesS (chI L gn n n) les t)), (a + 4, eN 10 (othS (chI L gn n n) oth t))] ∧ n' = nx)) 0 0 (hv_ov h [(a, oG a (nI gn) ac), (a + 1, eN 20 L), (a + 2, eN 20 Z), (a + 3, eN 10 (lesS (chJ L gn i (i + 1) (chI L gn n i) m) les t)), (a + 4, eN 10 (othS (chJ L gn i (i + 1) (chI L gn n i) m) oth t))]) nx 18 [some (.ref a), some (.int (nI t)), some (.int (nI n)), some (.int (lsI L (chJ L gn i (i + 1) (chI L gn n i) m))), some (.int (nI i)), some (.int (nI (i + 1 + m))), none, none] [] := by
          intro k2
          induction k2 using Nat.strongRecOn with
          | ind k2 ih2 =>
            intro m hk2 hm
            refine V_iload d_G_choose_18 rfl ?_
            refine V_iload_n d_G_choose_20 rfl ?_
            refine V_icmp_geN 121 d_G_choose_21 (by decide) (by omega) (by omega) (fun cj => ?_) (fun cj => ?_)
            · refine V_iincN_4 1 d_G_choose_121 rfl rfl ?_
              refine V_goto 6 d_G_choose_124 (by decide) ?_
              refine V_drop_5 ?_
              refine V_drop_6 ?_
              refine V_drop_7 ?_
              rw [show m = n - (i + 1) by omega]
              exact ih (n - (i + 1)) (by omega) (i + 1) rfl (by omega)
            · cases hgi : gn.testBit i
              · refine V_iload d_G_choose_24 rfl ?_
                refine V_aload_n d_G_choose_26 rfl ?_
                refine V_getfield d_G_choose_27 fl_G_24 (og_0) rfl ?_
                refine V_callS1 d_G_choose_30 ml_G_45 mB_N_isIn ms_N_isIn (c_N_isIn l D _ _ hgn (by omega)) rfl rfl rfl rfl rfl rfl rfl ?_
                rintro _ _ ⟨rfl, rfl⟩
                refine V_if_ne 121 d_G_choose_33 (by decide) (fun q => absurd (by rw [hgi]; decide) q) (fun _ => ?_)
                refine V_iconst (nI 1) d_G_choose_36 rfl ?_
                refine V_aload_n d_G_choose_37 rfl ?_
                refine V_getfield d_G_choose_38 fl_G_9 (og_0) rfl ?_
                refine V_iload d_G_choose_41 rfl ?_
                refine V_iaload d_G_choose_43 (og_1 (by omega)) ⟨rfl, by omega, by decide⟩ ?_
                refine V_aload_n d_G_choose_44 rfl ?_
                refine V_getfield d_G_choose_45 fl_G_9 (og_0) rfl ?_
                refine V_iload d_G_choose_48 rfl ?_
                refine V_iaload d_G_choose_50 (og_1 (by omega)) ⟨rfl, by omega, by decide⟩ ?_
                refine V_ixorN d_G_choose_51 ?_
                refine V_callS1 d_G_choose_52 ml_G_38 mB_JI_bitCount ms_JI_bitCount (c_bitCount l D _ _ (Nat.lt_of_lt_of_le (Nat.xor_lt_two_pow (hLl i (by omega)) (hLl (i + 1 + m) (by omega))) (by decide))) rfl rfl rfl rfl rfl rfl rfl ?_
                rintro _ _ ⟨rfl, rfl⟩
                refine V_ishlN d_G_choose_55 (by have := pc_le (Nat.xor_lt_two_pow (hLl i (by omega)) (hLl (i + 1 + m) (by omega))); omega) ?_
                rw [Nat.one_mul]
                refine V_istore_6 d_G_choose_56 rfl ?_
                refine V_iload d_G_choose_58 rfl ?_
                refine V_aload_n d_G_choose_60 rfl ?_
                refine V_getfield d_G_choose_61 fl_G_15 (og_0) rfl ?_
                refine V_iload d_G_choose_64 rfl ?_
                refine V_iaload d_G_choose_66 (og_2 (by omega) (by omega)) ⟨rfl, by omega, by decide⟩ ?_
                refine V_isub d_G_choose_67 ?_
                refine V_aload_n d_G_choose_68 rfl ?_
                refine V_getfield d_G_choose_69 fl_G_15 (og_0) rfl ?_
                refine V_iload d_G_choose_72 rfl ?_
                refine V_iaload d_G_choose_74 (og_2 (by omega) (by omega)) ⟨rfl, by omega, by decide⟩ ?_
                refine V_isub d_G_choose_75 ?_
                refine V_eqI (y := gI L i (i + 1 + m)) (by unfold gI; rw [hZl i (by omega), hZl (i + 1 + m) (by omega)]) ?_
                refine V_istore_7 d_G_choose_76 rfl ?_
                refine V_iload d_G_choose_78 rfl ?_
                refine V_iload_n d_G_choose_80 rfl ?_
                refine V_icmp_ge 115 d_G_choose_81 (by decide) (fun cl => ?_) (fun cl => ?_)
                · rw [show chJ L gn i (i + 1) (chI L gn n i) m = chJ L gn i (i + 1) (chI L gn n i) (m + 1) by simp only [chJ, chS]; rw [if_neg (by intro q; exact absurd q.2.2 (Int32.not_lt.mpr cl))]]
                  refine V_iincN_5 1 d_G_choose_115 rfl rfl ?_
                  refine V_goto 18 d_G_choose_118 (by decide) ?_
                  refine V_drop_6 ?_
                  refine V_drop_7 ?_
                  exact ih2 (n - (i + 1) - (m + 1)) (by omega) (m + 1) rfl (by omega)
                · cases hgj : gn.testBit (i + 1 + m)
                  · refine V_iload d_G_choose_84 rfl ?_
                    refine V_aload_n d_G_choose_86 rfl ?_
                    refine V_getfield d_G_choose_87 fl_G_24 (og_0) rfl ?_
                    refine V_callS1 d_G_choose_90 ml_G_45 mB_N_isIn ms_N_isIn (c_N_isIn l D _ _ hgn (by omega)) rfl rfl rfl rfl rfl rfl rfl ?_
                    rintro _ _ ⟨rfl, rfl⟩
                    refine V_if_ne 115 d_G_choose_93 (by decide) (fun q => absurd (by rw [hgj]; decide) q) (fun _ => ?_)
                    refine V_iload d_G_choose_96 rfl ?_
                    refine V_istore_3 d_G_choose_98 rfl ?_
                    refine V_aload_n d_G_choose_99 rfl ?_
                    refine V_getfield d_G_choose_100 fl_G_18 (og_0) rfl ?_
                    refine V_iload_n d_G_choose_103 rfl ?_
                    refine V_iload d_G_choose_104 rfl ?_
                    refine V_istN d_G_choose_106 (og_3 (by omega) (by omega) (by omega)) ⟨rfl, ht, by decide⟩ (h' := hv_ov h [(a, oG a (nI gn) ac), (a + 1, eN 20 L), (a + 2, eN 20 Z), (a + 3, eN 10 (lesS (some (i, i + 1 + m)) les t)), (a + 4, eN 10 (othS (chJ L gn i (i + 1) (chI L gn n i) m) oth t))]) (by rw [lesS_up _ _ _ _ (i + 1 + m)]; exact ou_3 (by omega) (by omega) (by omega)) ?_
                    refine V_aload_n d_G_choose_107 rfl ?_
                    refine V_getfield d_G_choose_108 fl_G_21 (og_0) rfl ?_
                    refine V_iload_n d_G_choose_111 rfl ?_
                    refine V_iload d_G_choose_112 rfl ?_
                    refine V_istN d_G_choose_114 (og_4 (by omega) (by omega) (by omega) (by omega)) ⟨rfl, ht, by decide⟩ (h' := hv_ov h [(a, oG a (nI gn) ac), (a + 1, eN 20 L), (a + 2, eN 20 Z), (a + 3, eN 10 (lesS (some (i, i + 1 + m)) les t)), (a + 4, eN 10 (othS (some (i, i + 1 + m)) oth t))]) (by rw [othS_up _ _ _ i _]; exact ou_4 (by omega) (by omega) (by omega) (by omega)) ?_
                    have e1 : chJ L gn i (i + 1) (chI L gn n i) (m + 1) = some (i, i + 1 + m) := by simp only [chJ, chS]; rw [if_pos ⟨hgi, hgj, Int32.not_le.mp cl⟩]
                    rw [← e1, show gI L i (i + 1 + m) = lsI L (chJ L gn i (i + 1) (chI L gn n i) (m + 1)) by rw [e1]; rfl]
                    refine V_iincN_5 1 d_G_choose_115 rfl rfl ?_
                    refine V_goto 18 d_G_choose_118 (by decide) ?_
                    refine V_drop_6 ?_
                    refine V_drop_7 ?_
                    exact ih2 (n - (i + 1) - (m + 1)) (by omega) (m + 1) rfl (by omega)
                  · refine V_iload d_G_choose_84 rfl ?_
                    refine V_aload_n d_G_choose_86 rfl ?_
                    refine V_getfield d_G_choose_87 fl_G_24 (og_0) rfl ?_
                    refine V_callS1 d_G_choose_90 ml_G_45 mB_N_isIn ms_N_isIn (c_N_isIn l D _ _ hgn (by omega)) rfl rfl rfl rfl rfl rfl rfl ?_
                    rintro _ _ ⟨rfl, rfl⟩
                    refine V_if_ne 115 d_G_choose_93 (by decide) (fun _ => ?_) (fun q => absurd q (by rw [hgj]; decide))
                    rw [show chJ L gn i (i + 1) (chI L gn n i) m = chJ L gn i (i + 1) (chI L gn n i) (m + 1) by simp only [chJ, chS]; rw [if_neg (by intro q; rw [hgj] at q; cases q.2.1)]]
                    refine V_iincN_5 1 d_G_choose_115 rfl rfl ?_
                    refine V_goto 18 d_G_choose_118 (by decide) ?_
                    refine V_drop_6 ?_
                    refine V_drop_7 ?_
                    exact ih2 (n - (i + 1) - (m + 1)) (by omega) (m + 1) rfl (by omega)
              · refine V_iload d_G_choose_24 rfl ?_
                refine V_aload_n d_G_choose_26 rfl ?_
                refine V_getfield d_G_choose_27 fl_G_24 (og_0) rfl ?_
                refine V_callS1 d_G_choose_30 ml_G_45 mB_N_isIn ms_N_isIn (c_N_isIn l D _ _ hgn (by omega)) rfl rfl rfl rfl rfl rfl rfl ?_
                rintro _ _ ⟨rfl, rfl⟩
                refine V_if_ne 121 d_G_choose_33 (by decide) (fun _ => ?_) (fun q => absurd q (by rw [hgi]; decide))
                refine V_iincN_4 1 d_G_choose_121 rfl rfl ?_
                refine V_goto 6 d_G_choose_124 (by decide) ?_
                refine V_drop_5 ?_
                refine V_drop_6 ?_
                refine V_drop_7 ?_
                rw [chJ_gone hgi m]
                have e0 : chI L gn n (i + 1) = chI L gn n i := chJ_gone hgi _
                rw [← e0]
                exact ih (n - (i + 1)) (by omega) (i + 1) rfl (by omega)
        refine V_iload d_G_choose_12 rfl ?_
        refine V_iconst (nI 1) d_G_choose_14 rfl ?_
        refine V_iaddN d_G_choose_15 ?_
        refine V_istore_5 d_G_choose_16 rfl ?_
        exact lp2 _ 0 rfl (Nat.zero_le _)
  refine hv_N.of' [some (.ref a), some (.int (nI t)), some (.int (nI n)), none, none, none, none, none] (by decide +kernel) rfl rfl rfl ?_
  refine V_eqH (ob_5 ha hL hZ hles hoth) ?_
  refine V_ldc (v := 1073741824) d_G_choose_0 kc_G_44 ?_
  refine V_istore_3 d_G_choose_2 rfl ?_
  refine V_iconst (nI 0) d_G_choose_3 rfl ?_
  refine V_istore_4 d_G_choose_4 rfl ?_
  exact lp _ 0 rfl (Nat.zero_le _)
