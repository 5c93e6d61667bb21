-- JDK: Math.max, Arrays.fill
/-- the greater one -/
def hv_mx (x y : Int32) : Int32 := if x < y then y else x
def hv_fill {α : Type} (f : Nat → α) (n : Nat) (x : α) : Nat → α := fun j => if j < n then x else f j
theorem hv_fill_0 {α : Type} {f : Nat → α} {x : α} : hv_fill f 0 x = f := by funext j; simp [hv_fill]
theorem hv_fill_s {α : Type} {f : Nat → α} {x : α} {i : Nat} : va_up (hv_fill f i x) i x = hv_fill f (i + 1) x := by
  funext j
  simp only [va_up, hv_fill]
  split
  · rw [if_pos (by omega)]
  · split
    · rw [if_pos (by omega)]
    · rw [if_neg (by omega)]
set_option maxRecDepth 100000 in
set_option maxHeartbeats 4000000 in
theorem c_max (l : Launch) (D : hv_D) (h : hv_P) (nx : Nat) (x y : Int32) : hv_N l D M_JM_max (hv_rm 0 0 0 0) [.int x, .int y] h nx (hv_ans (some (.int (hv_mx x y))) (hv_same h nx)) := by
  refine hv_N.of' [some (.int x), some (.int y)] (by decide +kernel) rfl rfl rfl ?_
  refine V_iload_n d_JM_max_0 rfl ?_
  refine V_iload_n d_JM_max_1 rfl ?_
  refine V_icmp_lt 9 d_JM_max_2 (by decide) (fun q => ?_) (fun q => ?_)
  · refine V_iload_n d_JM_max_9 rfl ?_
    exact V_ireturn d_JM_max_10 rfl ⟨by simp only [hv_mx, q, if_true, if_false], rfl, rfl⟩
  · refine V_iload_n d_JM_max_5 rfl ?_
    refine V_goto 10 d_JM_max_6 (by decide) ?_
    exact V_ireturn d_JM_max_10 rfl ⟨by simp only [hv_mx, q, if_true, if_false], rfl, rfl⟩

set_option maxRecDepth 100000 in
set_option maxHeartbeats 4000000 in
theorem c_fill (l : Launch) (D : hv_D) (h : hv_P) (nx : Nat) {a n : Nat} {f : Nat → Int32} (x : Int32) (ha : h a = some (eI n f)) (hn : n < 2 ^ 31) : hv_N l D M_JA_fill (hv_rm 0 0 0 0) [.ref a, .int x] h nx (hv_ans none (fun h' n' => h' = hv_up h a (eI n (hv_fill f n x)) ∧ n' = nx)) := by
  have lp : ∀ (k i : Nat), k = n - i → i ≤ n → hv_V l D M_JA_fill (fun _ _ => True) (hv_rm 0 0 0 0) (hv_ans none (fun h' n' => h' = hv_up h a (eI n (hv_fill f n x)) ∧ n' = nx)) 0 0 (hv_up h a (eI n (hv_fill f i x))) nx 5 [some (.ref a), some (.int x), some (.int (nI i)), some (.int (nI n))] [] := by
    intro k
    induction k using Nat.strongRecOn with
    | ind k ih =>
      intro i hk hi
      refine V_iload_n d_JA_fill_5 rfl ?_
      refine V_iload_n d_JA_fill_6 rfl ?_
      refine V_icmp_geN 20 d_JA_fill_7 (by decide) (by omega) hn (fun c => ?_) (fun c => ?_)
      · exact V_return d_JA_fill_20 rfl ⟨rfl, by rw [show n = i by omega], rfl⟩
      · refine V_aload_n d_JA_fill_10 rfl ?_
        refine V_iload_n d_JA_fill_11 rfl ?_
        refine V_iload_n d_JA_fill_12 rfl ?_
        refine V_ist d_JA_fill_13 hv_up_s ⟨rfl, c, hn⟩ (by rw [hv_up_up, hv_fill_s]) ?_
        refine V_iincN_2 1 d_JA_fill_14 rfl rfl ?_
        refine V_goto 5 d_JA_fill_17 (by decide) ?_
        exact ih (n - (i + 1)) (by omega) (i + 1) rfl (by omega)
  refine hv_N.of' [some (.ref a), some (.int x), none, none] (by decide +kernel) rfl rfl rfl ?_
  refine V_iconst (nI 0) d_JA_fill_0 rfl ?_
  refine V_istore_2 d_JA_fill_1 rfl ?_
  refine V_aload_n d_JA_fill_2 rfl ?_
  refine V_arraylength d_JA_fill_3 ha ⟨_, rfl⟩ ?_
  refine V_istore_3 d_JA_fill_4 rfl ?_
  refine V_eqH (h2 := hv_up h a (eI n (hv_fill f 0 x))) (by rw [hv_fill_0, hv_up_self ha]) ?_
  exact lp _ 0 rfl (Nat.zero_le _)

set_option maxRecDepth 100000 in
set_option maxHeartbeats 4000000 in
theorem c_bitCount (l : Launch) (D : hv_D) (h : hv_P) (nx : Nat) {a : Nat} (ha : a < 2 ^ 32) : hv_N l D M_JI_bitCount (hv_rm 0 0 0 0) [.int (nI a)] h nx (hv_ans (some (.int (nI (pc_ a)))) (hv_same h nx)) := by
  have B := bc_all ha
  refine hv_N.of' [some (.int (nI a))] (by decide +kernel) rfl rfl rfl ?_
  refine V_iload_n d_JI_bitCount_0 rfl ?_
  refine V_iload_n d_JI_bitCount_1 rfl ?_
  refine V_iconst (nI 1) d_JI_bitCount_2 rfl ?_
  refine V_iushrN d_JI_bitCount_3 (by omega) (by decide) ?_
  refine V_ldcw (v := nI 1431655765) d_JI_bitCount_4 kc_JI_265 ?_
  refine V_iandN d_JI_bitCount_7 ?_
  refine V_isubN d_JI_bitCount_8 B.1 ?_
  show hv_V l D M_JI_bitCount _ _ _ 0 0 h nx 9 _ [.int (nI (bc1_ a))]
  refine V_istore_0 d_JI_bitCount_9 ?_
  refine V_iload_n d_JI_bitCount_10 rfl ?_
  refine V_ldcw (v := nI 858993459) d_JI_bitCount_11 kc_JI_266 ?_
  refine V_iandN d_JI_bitCount_14 ?_
  refine V_iload_n d_JI_bitCount_15 rfl ?_
  refine V_iconst (nI 2) d_JI_bitCount_16 rfl ?_
  refine V_iushrN d_JI_bitCount_17 B.2.1 (by decide) ?_
  refine V_ldcw (v := nI 858993459) d_JI_bitCount_18 kc_JI_266 ?_
  refine V_iandN d_JI_bitCount_21 ?_
  refine V_iaddN d_JI_bitCount_22 ?_
  show hv_V l D M_JI_bitCount _ _ _ 0 0 h nx 23 _ [.int (nI (bc2_ (bc1_ a)))]
  refine V_istore_0 d_JI_bitCount_23 ?_
  refine V_iload_n d_JI_bitCount_24 rfl ?_
  refine V_iload_n d_JI_bitCount_25 rfl ?_
  refine V_iconst (nI 4) d_JI_bitCount_26 rfl ?_
  refine V_iushrN d_JI_bitCount_27 (by have := B.2.2.1; omega) (by decide) ?_
  refine V_iaddN d_JI_bitCount_28 ?_
  refine V_ldcw (v := nI 252645135) d_JI_bitCount_29 kc_JI_267 ?_
  refine V_iandN d_JI_bitCount_32 ?_
  show hv_V l D M_JI_bitCount _ _ _ 0 0 h nx 33 _ [.int (nI (bc3_ (bc2_ (bc1_ a))))]
  refine V_istore_0 d_JI_bitCount_33 ?_
  refine V_iload_n d_JI_bitCount_34 rfl ?_
  refine V_iload_n d_JI_bitCount_35 rfl ?_
  refine V_bipush (nI 8) d_JI_bitCount_36 rfl ?_
  refine V_iushrN d_JI_bitCount_38 (by have := B.2.2.2.1; omega) (by decide) ?_
  refine V_iaddN d_JI_bitCount_39 ?_
  refine V_istore_0 d_JI_bitCount_40 ?_
  refine V_iload_n d_JI_bitCount_41 rfl ?_
  refine V_iload_n d_JI_bitCount_42 rfl ?_
  refine V_bipush (nI 16) d_JI_bitCount_43 rfl ?_
  refine V_iushrN d_JI_bitCount_45 (by have := B.2.2.2.1; omega) (by decide) ?_
  refine V_iaddN d_JI_bitCount_46 ?_
  refine V_istore_0 d_JI_bitCount_47 ?_
  refine V_iload_n d_JI_bitCount_48 rfl ?_
  refine V_bipush (nI 63) d_JI_bitCount_49 rfl ?_
  refine V_iandN d_JI_bitCount_51 ?_
  exact V_ireturn d_JI_bitCount_52 rfl ⟨by rw [B.2.2.2.2], rfl, rfl⟩

set_option maxRecDepth 100000 in
set_option maxHeartbeats 4000000 in
theorem c_ntz (l : Launch) (D : hv_D) (h : hv_P) (nx : Nat) {a : Nat} (t : Nat) (ha : a < 2 ^ 31) (ht : a % 2 ^ (t + 1) = 2 ^ t) (ht2 : t < 31) : hv_N l D M_JI_numberOfTrailingZeros (hv_rm 0 0 0 0) [.int (nI a)] h nx (hv_ans (some (.int (nI t))) (hv_same h nx)) := by
  have ha0 : 1 ≤ a := by
    rcases Nat.eq_zero_or_pos a with q | q
    · subst q; have := Nat.two_pow_pos t; simp at ht; omega
    · exact q
  have T0 : ∀ t, t < 31 → 2 ^ t - 1 < 2 ^ 31 ∧ (2 ^ t - 1 = 0 → (2 ^ t - 1 &&& 32) = t) := by decide
  refine hv_N.of' [some (.int (nI a)), none] (by decide +kernel) rfl rfl rfl ?_
  refine V_iload_n d_JI_numberOfTrailingZeros_0 rfl ?_
  refine V_iconst (-1) d_JI_numberOfTrailingZeros_1 rfl ?_
  refine V_ixor d_JI_numberOfTrailingZeros_2 ?_
  refine V_iload_n d_JI_numberOfTrailingZeros_3 rfl ?_
  refine V_iconst (nI 1) d_JI_numberOfTrailingZeros_4 rfl ?_
  refine V_isubN d_JI_numberOfTrailingZeros_5 (by omega) ?_
  refine V_iand d_JI_numberOfTrailingZeros_6 ?_
  refine V_eqI (tz_and ha ht ht2) ?_
  refine V_istore_0 d_JI_numberOfTrailingZeros_7 ?_
  refine V_iload_n d_JI_numberOfTrailingZeros_8 rfl ?_
  refine V_if_gtN 17 d_JI_numberOfTrailingZeros_9 (by decide) (T0 t ht2).1 (fun c0 => ?_) (fun c0 => ?_)
  · refine V_iconst (nI 1) d_JI_numberOfTrailingZeros_17 rfl ?_
    refine V_istore_1 d_JI_numberOfTrailingZeros_18 rfl ?_
    refine V_iload_n d_JI_numberOfTrailingZeros_19 rfl ?_
    refine V_ldcw (v := nI 65536) d_JI_numberOfTrailingZeros_20 kc_JI_264 ?_
    refine V_icmp_leN 34 d_JI_numberOfTrailingZeros_23 (by decide) (T0 t ht2).1 (by decide) (fun c1 => ?_) (fun c1 => ?_)
    · refine V_iload_n d_JI_numberOfTrailingZeros_34 rfl ?_
      refine V_sipush (nI 256) d_JI_numberOfTrailingZeros_35 rfl ?_
      refine V_icmp_leN 49 d_JI_numberOfTrailingZeros_38 (by decide) (by have := (T0 t ht2).1; omega) (by decide) (fun c2 => ?_) (fun c2 => ?_)
      · refine V_iload_n d_JI_numberOfTrailingZeros_49 rfl ?_
        refine V_bipush (nI 16) d_JI_numberOfTrailingZeros_50 rfl ?_
        refine V_icmp_leN 62 d_JI_numberOfTrailingZeros_52 (by decide) (by have := (T0 t ht2).1; omega) (by decide) (fun c3 => ?_) (fun c3 => ?_)
        · refine V_iload_n d_JI_numberOfTrailingZeros_62 rfl ?_
          refine V_iconst (nI 4) d_JI_numberOfTrailingZeros_63 rfl ?_
          refine V_icmp_leN 74 d_JI_numberOfTrailingZeros_64 (by decide) (by have := (T0 t ht2).1; omega) (by decide) (fun c4 => ?_) (fun c4 => ?_)
          · refine V_iload_n d_JI_numberOfTrailingZeros_74 rfl ?_
            refine V_iload_n d_JI_numberOfTrailingZeros_75 rfl ?_
            refine V_iconst (nI 1) d_JI_numberOfTrailingZeros_76 rfl ?_
            refine V_iushrN d_JI_numberOfTrailingZeros_77 (by have := (T0 t ht2).1; omega) (by decide) ?_
            refine V_iaddN d_JI_numberOfTrailingZeros_78 ?_
            exact V_ireturn d_JI_numberOfTrailingZeros_79 rfl ⟨congrArg (fun z => Sum.inl (some (Value.int (nI z)))) (by have cc := And.intro c0 (And.intro c1 (And.intro c2 (And.intro c3 c4))); clear ht ha ha0 T0 c0 c1 c2 c3 c4; revert t; decide), rfl, rfl⟩
          · refine V_iincN_1 2 d_JI_numberOfTrailingZeros_67 rfl rfl ?_
            refine V_iload_n d_JI_numberOfTrailingZeros_70 rfl ?_
            refine V_iconst (nI 2) d_JI_numberOfTrailingZeros_71 rfl ?_
            refine V_iushrN d_JI_numberOfTrailingZeros_72 (by have := (T0 t ht2).1; omega) (by decide) ?_
            refine V_istore_0 d_JI_numberOfTrailingZeros_73 ?_
            refine V_iload_n d_JI_numberOfTrailingZeros_74 rfl ?_
            refine V_iload_n d_JI_numberOfTrailingZeros_75 rfl ?_
            refine V_iconst (nI 1) d_JI_numberOfTrailingZeros_76 rfl ?_
            refine V_iushrN d_JI_numberOfTrailingZeros_77 (by have := (T0 t ht2).1; omega) (by decide) ?_
            refine V_iaddN d_JI_numberOfTrailingZeros_78 ?_
            exact V_ireturn d_JI_numberOfTrailingZeros_79 rfl ⟨congrArg (fun z => Sum.inl (some (Value.int (nI z)))) (by have cc := And.intro c0 (And.intro c1 (And.intro c2 (And.intro c3 c4))); clear ht ha ha0 T0 c0 c1 c2 c3 c4; revert t; decide), rfl, rfl⟩
        · refine V_iincN_1 4 d_JI_numberOfTrailingZeros_55 rfl rfl ?_
          refine V_iload_n d_JI_numberOfTrailingZeros_58 rfl ?_
          refine V_iconst (nI 4) d_JI_numberOfTrailingZeros_59 rfl ?_
          refine V_iushrN d_JI_numberOfTrailingZeros_60 (by have := (T0 t ht2).1; omega) (by decide) ?_
          refine V_istore_0 d_JI_numberOfTrailingZeros_61 ?_
          refine V_iload_n d_JI_numberOfTrailingZeros_62 rfl ?_
          refine V_iconst (nI 4) d_JI_numberOfTrailingZeros_63 rfl ?_
          refine V_icmp_leN 74 d_JI_numberOfTrailingZeros_64 (by decide) (by have := (T0 t ht2).1; omega) (by decide) (fun c4 => ?_) (fun c4 => ?_)
          · refine V_iload_n d_JI_numberOfTrailingZeros_74 rfl ?_
            refine V_iload_n d_JI_numberOfTrailingZeros_75 rfl ?_
            refine V_iconst (nI 1) d_JI_numberOfTrailingZeros_76 rfl ?_
            refine V_iushrN d_JI_numberOfTrailingZeros_77 (by have := (T0 t ht2).1; omega) (by decide) ?_
            refine V_iaddN d_JI_numberOfTrailingZeros_78 ?_
            exact V_ireturn d_JI_numberOfTrailingZeros_79 rfl ⟨congrArg (fun z => Sum.inl (some (Value.int (nI z)))) (by have cc := And.intro c0 (And.intro c1 (And.intro c2 (And.intro c3 c4))); clear ht ha ha0 T0 c0 c1 c2 c3 c4; revert t; decide), rfl, rfl⟩
          · refine V_iincN_1 2 d_JI_numberOfTrailingZeros_67 rfl rfl ?_
            refine V_iload_n d_JI_numberOfTrailingZeros_70 rfl ?_
            refine V_iconst (nI 2) d_JI_numberOfTrailingZeros_71 rfl ?_
            refine V_iushrN d_JI_numberOfTrailingZeros_72 (by have := (T0 t ht2).1; omega) (by decide) ?_
            refine V_istore_0 d_JI_numberOfTrailingZeros_73 ?_
            refine V_iload_n d_JI_numberOfTrailingZeros_74 rfl ?_
            refine V_iload_n d_JI_numberOfTrailingZeros_75 rfl ?_
            refine V_iconst (nI 1) d_JI_numberOfTrailingZeros_76 rfl ?_
            refine V_iushrN d_JI_numberOfTrailingZeros_77 (by have := (T0 t ht2).1; omega) (by decide) ?_
            refine V_iaddN d_JI_numberOfTrailingZeros_78 ?_
            exact V_ireturn d_JI_numberOfTrailingZeros_79 rfl ⟨congrArg (fun z => Sum.inl (some (Value.int (nI z)))) (by have cc := And.intro c0 (And.intro c1 (And.intro c2 (And.intro c3 c4))); clear ht ha ha0 T0 c0 c1 c2 c3 c4; revert t; decide), rfl, rfl⟩
      · refine V_iincN_1 8 d_JI_numberOfTrailingZeros_41 rfl rfl ?_
        refine V_iload_n d_JI_numberOfTrailingZeros_44 rfl ?_
        refine V_bipush (nI 8) d_JI_numberOfTrailingZeros_45 rfl ?_
        refine V_iushrN d_JI_numberOfTrailingZeros_47 (by have := (T0 t ht2).1; omega) (by decide) ?_
        refine V_istore_0 d_JI_numberOfTrailingZeros_48 ?_
        refine V_iload_n d_JI_numberOfTrailingZeros_49 rfl ?_
        refine V_bipush (nI 16) d_JI_numberOfTrailingZeros_50 rfl ?_
        refine V_icmp_leN 62 d_JI_numberOfTrailingZeros_52 (by decide) (by have := (T0 t ht2).1; omega) (by decide) (fun c3 => ?_) (fun c3 => ?_)
        · refine V_iload_n d_JI_numberOfTrailingZeros_62 rfl ?_
          refine V_iconst (nI 4) d_JI_numberOfTrailingZeros_63 rfl ?_
          refine V_icmp_leN 74 d_JI_numberOfTrailingZeros_64 (by decide) (by have := (T0 t ht2).1; omega) (by decide) (fun c4 => ?_) (fun c4 => ?_)
          · refine V_iload_n d_JI_numberOfTrailingZeros_74 rfl ?_
            refine V_iload_n d_JI_numberOfTrailingZeros_75 rfl ?_
            refine V_iconst (nI 1) d_JI_numberOfTrailingZeros_76 rfl ?_
            refine V_iushrN d_JI_numberOfTrailingZeros_77 (by have := (T0 t ht2).1; omega) (by decide) ?_
            refine V_iaddN d_JI_numberOfTrailingZeros_78 ?_
            exact V_ireturn d_JI_numberOfTrailingZeros_79 rfl ⟨congrArg (fun z => Sum.inl (some (Value.int (nI z)))) (by have cc := And.intro c0 (And.intro c1 (And.intro c2 (And.intro c3 c4))); clear ht ha ha0 T0 c0 c1 c2 c3 c4; revert t; decide), rfl, rfl⟩
          · refine V_iincN_1 2 d_JI_numberOfTrailingZeros_67 rfl rfl ?_
            refine V_iload_n d_JI_numberOfTrailingZeros_70 rfl ?_
            refine V_iconst (nI 2) d_JI_numberOfTrailingZeros_71 rfl ?_
            refine V_iushrN d_JI_numberOfTrailingZeros_72 (by have := (T0 t ht2).1; omega) (by decide) ?_
            refine V_istore_0 d_JI_numberOfTrailingZeros_73 ?_
            refine V_iload_n d_JI_numberOfTrailingZeros_74 rfl ?_
            refine V_iload_n d_JI_numberOfTrailingZeros_75 rfl ?_
            refine V_iconst (nI 1) d_JI_numberOfTrailingZeros_76 rfl ?_
            refine V_iushrN d_JI_numberOfTrailingZeros_77 (by have := (T0 t ht2).1; omega) (by decide) ?_
            refine V_iaddN d_JI_numberOfTrailingZeros_78 ?_
            exact V_ireturn d_JI_numberOfTrailingZeros_79 rfl ⟨congrArg (fun z => Sum.inl (some (Value.int (nI z)))) (by have cc := And.intro c0 (And.intro c1 (And.intro c2 (And.intro c3 c4))); clear ht ha ha0 T0 c0 c1 c2 c3 c4; revert t; decide), rfl, rfl⟩
        · refine V_iincN_1 4 d_JI_numberOfTrailingZeros_55 rfl rfl ?_
          refine V_iload_n d_JI_numberOfTrailingZeros_58 rfl ?_
          refine V_iconst (nI 4) d_JI_numberOfTrailingZeros_59 rfl ?_
          refine V_iushrN d_JI_numberOfTrailingZeros_60 (by have := (T0 t ht2).1; omega) (by decide) ?_
          refine V_istore_0 d_JI_numberOfTrailingZeros_61 ?_
          refine V_iload_n d_JI_numberOfTrailingZeros_62 rfl ?_
          refine V_iconst (nI 4) d_JI_numberOfTrailingZeros_63 rfl ?_
          refine V_icmp_leN 74 d_JI_numberOfTrailingZeros_64 (by decide) (by have := (T0 t ht2).1; omega) (by decide) (fun c4 => ?_) (fun c4 => ?_)
          · refine V_iload_n d_JI_numberOfTrailingZeros_74 rfl ?_
            refine V_iload_n d_JI_numberOfTrailingZeros_75 rfl ?_
            refine V_iconst (nI 1) d_JI_numberOfTrailingZeros_76 rfl ?_
            refine V_iushrN d_JI_numberOfTrailingZeros_77 (by have := (T0 t ht2).1; omega) (by decide) ?_
            refine V_iaddN d_JI_numberOfTrailingZeros_78 ?_
            exact V_ireturn d_JI_numberOfTrailingZeros_79 rfl ⟨congrArg (fun z => Sum.inl (some (Value.int (nI z)))) (by have cc := And.intro c0 (And.intro c1 (And.intro c2 (And.intro c3 c4))); clear ht ha ha0 T0 c0 c1 c2 c3 c4; revert t; decide), rfl, rfl⟩
          · refine V_iincN_1 2 d_JI_numberOfTrailingZeros_67 rfl rfl ?_
            refine V_iload_n d_JI_numberOfTrailingZeros_70 rfl ?_
            refine V_iconst (nI 2) d_JI_numberOfTrailingZeros_71 rfl ?_
            refine V_iushrN d_JI_numberOfTrailingZeros_72 (by have := (T0 t ht2).1; omega) (by decide) ?_
            refine V_istore_0 d_JI_numberOfTrailingZeros_73 ?_
            refine V_iload_n d_JI_numberOfTrailingZeros_74 rfl ?_
            refine V_iload_n d_JI_numberOfTrailingZeros_75 rfl ?_
            refine V_iconst (nI 1) d_JI_numberOfTrailingZeros_76 rfl ?_
            refine V_iushrN d_JI_numberOfTrailingZeros_77 (by have := (T0 t ht2).1; omega) (by decide) ?_
            refine V_iaddN d_JI_numberOfTrailingZeros_78 ?_
            exact V_ireturn d_JI_numberOfTrailingZeros_79 rfl ⟨congrArg (fun z => Sum.inl (some (Value.int (nI z)))) (by have cc := And.intro c0 (And.intro c1 (And.intro c2 (And.intro c3 c4))); clear ht ha ha0 T0 c0 c1 c2 c3 c4; revert t; decide), rfl, rfl⟩
    · refine V_iincN_1 16 d_JI_numberOfTrailingZeros_26 rfl rfl ?_
      refine V_iload_n d_JI_numberOfTrailingZeros_29 rfl ?_
      refine V_bipush (nI 16) d_JI_numberOfTrailingZeros_30 rfl ?_
      refine V_iushrN d_JI_numberOfTrailingZeros_32 (by have := (T0 t ht2).1; omega) (by decide) ?_
      refine V_istore_0 d_JI_numberOfTrailingZeros_33 ?_
      refine V_iload_n d_JI_numberOfTrailingZeros_34 rfl ?_
      refine V_sipush (nI 256) d_JI_numberOfTrailingZeros_35 rfl ?_
      refine V_icmp_leN 49 d_JI_numberOfTrailingZeros_38 (by decide) (by have := (T0 t ht2).1; omega) (by decide) (fun c2 => ?_) (fun c2 => ?_)
      · refine V_iload_n d_JI_numberOfTrailingZeros_49 rfl ?_
        refine V_bipush (nI 16) d_JI_numberOfTrailingZeros_50 rfl ?_
        refine V_icmp_leN 62 d_JI_numberOfTrailingZeros_52 (by decide) (by have := (T0 t ht2).1; omega) (by decide) (fun c3 => ?_) (fun c3 => ?_)
        · refine V_iload_n d_JI_numberOfTrailingZeros_62 rfl ?_
          refine V_iconst (nI 4) d_JI_numberOfTrailingZeros_63 rfl ?_
          refine V_icmp_leN 74 d_JI_numberOfTrailingZeros_64 (by decide) (by have := (T0 t ht2).1; omega) (by decide) (fun c4 => ?_) (fun c4 => ?_)
          · refine V_iload_n d_JI_numberOfTrailingZeros_74 rfl ?_
            refine V_iload_n d_JI_numberOfTrailingZeros_75 rfl ?_
            refine V_iconst (nI 1) d_JI_numberOfTrailingZeros_76 rfl ?_
            refine V_iushrN d_JI_numberOfTrailingZeros_77 (by have := (T0 t ht2).1; omega) (by decide) ?_
            refine V_iaddN d_JI_numberOfTrailingZeros_78 ?_
            exact V_ireturn d_JI_numberOfTrailingZeros_79 rfl ⟨congrArg (fun z => Sum.inl (some (Value.int (nI z)))) (by have cc := And.intro c0 (And.intro c1 (And.intro c2 (And.intro c3 c4))); clear ht ha ha0 T0 c0 c1 c2 c3 c4; revert t; decide), rfl, rfl⟩
          · refine V_iincN_1 2 d_JI_numberOfTrailingZeros_67 rfl rfl ?_
            refine V_iload_n d_JI_numberOfTrailingZeros_70 rfl ?_
            refine V_iconst (nI 2) d_JI_numberOfTrailingZeros_71 rfl ?_
            refine V_iushrN d_JI_numberOfTrailingZeros_72 (by have := (T0 t ht2).1; omega) (by decide) ?_
            refine V_istore_0 d_JI_numberOfTrailingZeros_73 ?_
            refine V_iload_n d_JI_numberOfTrailingZeros_74 rfl ?_
            refine V_iload_n d_JI_numberOfTrailingZeros_75 rfl ?_
            refine V_iconst (nI 1) d_JI_numberOfTrailingZeros_76 rfl ?_
            refine V_iushrN d_JI_numberOfTrailingZeros_77 (by have := (T0 t ht2).1; omega) (by decide) ?_
            refine V_iaddN d_JI_numberOfTrailingZeros_78 ?_
            exact V_ireturn d_JI_numberOfTrailingZeros_79 rfl ⟨congrArg (fun z => Sum.inl (some (Value.int (nI z)))) (by have cc := And.intro c0 (And.intro c1 (And.intro c2 (And.intro c3 c4))); clear ht ha ha0 T0 c0 c1 c2 c3 c4; revert t; decide), rfl, rfl⟩
        · refine V_iincN_1 4 d_JI_numberOfTrailingZeros_55 rfl rfl ?_
          refine V_iload_n d_JI_numberOfTrailingZeros_58 rfl ?_
          refine V_iconst (nI 4) d_JI_numberOfTrailingZeros_59 rfl ?_
          refine V_iushrN d_JI_numberOfTrailingZeros_60 (by have := (T0 t ht2).1; omega) (by decide) ?_
          refine V_istore_0 d_JI_numberOfTrailingZeros_61 ?_
          refine V_iload_n d_JI_numberOfTrailingZeros_62 rfl ?_
          refine V_iconst (nI 4) d_JI_numberOfTrailingZeros_63 rfl ?_
          refine V_icmp_leN 74 d_JI_numberOfTrailingZeros_64 (by decide) (by have := (T0 t ht2).1; omega) (by decide) (fun c4 => ?_) (fun c4 => ?_)
          · refine V_iload_n d_JI_numberOfTrailingZeros_74 rfl ?_
            refine V_iload_n d_JI_numberOfTrailingZeros_75 rfl ?_
            refine V_iconst (nI 1) d_JI_numberOfTrailingZeros_76 rfl ?_
            refine V_iushrN d_JI_numberOfTrailingZeros_77 (by have := (T0 t ht2).1; omega) (by decide) ?_
            refine V_iaddN d_JI_numberOfTrailingZeros_78 ?_
            exact V_ireturn d_JI_numberOfTrailingZeros_79 rfl ⟨congrArg (fun z => Sum.inl (some (Value.int (nI z)))) (by have cc := And.intro c0 (And.intro c1 (And.intro c2 (And.intro c3 c4))); clear ht ha ha0 T0 c0 c1 c2 c3 c4; revert t; decide), rfl, rfl⟩
          · refine V_iincN_1 2 d_JI_numberOfTrailingZeros_67 rfl rfl ?_
            refine V_iload_n d_JI_numberOfTrailingZeros_70 rfl ?_
            refine V_iconst (nI 2) d_JI_numberOfTrailingZeros_71 rfl ?_
            refine V_iushrN d_JI_numberOfTrailingZeros_72 (by have := (T0 t ht2).1; omega) (by decide) ?_
            refine V_istore_0 d_JI_numberOfTrailingZeros_73 ?_
            refine V_iload_n d_JI_numberOfTrailingZeros_74 rfl ?_
            refine V_iload_n d_JI_numberOfTrailingZeros_75 rfl ?_
            refine V_iconst (nI 1) d_JI_numberOfTrailingZeros_76 rfl ?_
            refine V_iushrN d_JI_numberOfTrailingZeros_77 (by have := (T0 t ht2).1; omega) (by decide) ?_
            refine V_iaddN d_JI_numberOfTrailingZeros_78 ?_
            exact V_ireturn d_JI_numberOfTrailingZeros_79 rfl ⟨congrArg (fun z => Sum.inl (some (Value.int (nI z)))) (by have cc := And.intro c0 (And.intro c1 (And.intro c2 (And.intro c3 c4))); clear ht ha ha0 T0 c0 c1 c2 c3 c4; revert t; decide), rfl, rfl⟩
      · refine V_iincN_1 8 d_JI_numberOfTrailingZeros_41 rfl rfl ?_
        refine V_iload_n d_JI_numberOfTrailingZeros_44 rfl ?_
        refine V_bipush (nI 8) d_JI_numberOfTrailingZeros_45 rfl ?_
        refine V_iushrN d_JI_numberOfTrailingZeros_47 (by have := (T0 t ht2).1; omega) (by decide) ?_
        refine V_istore_0 d_JI_numberOfTrailingZeros_48 ?_
        refine V_iload_n d_JI_numberOfTrailingZeros_49 rfl ?_
        refine V_bipush (nI 16) d_JI_numberOfTrailingZeros_50 rfl ?_
        refine V_icmp_leN 62 d_JI_numberOfTrailingZeros_52 (by decide) (by have := (T0 t ht2).1; omega) (by decide) (fun c3 => ?_) (fun c3 => ?_)
        · refine V_iload_n d_JI_numberOfTrailingZeros_62 rfl ?_
          refine V_iconst (nI 4) d_JI_numberOfTrailingZeros_63 rfl ?_
          refine V_icmp_leN 74 d_JI_numberOfTrailingZeros_64 (by decide) (by have := (T0 t ht2).1; omega) (by decide) (fun c4 => ?_) (fun c4 => ?_)
          · refine V_iload_n d_JI_numberOfTrailingZeros_74 rfl ?_
            refine V_iload_n d_JI_numberOfTrailingZeros_75 rfl ?_
            refine V_iconst (nI 1) d_JI_numberOfTrailingZeros_76 rfl ?_
            refine V_iushrN d_JI_numberOfTrailingZeros_77 (by have := (T0 t ht2).1; omega) (by decide) ?_
            refine V_iaddN d_JI_numberOfTrailingZeros_78 ?_
            exact V_ireturn d_JI_numberOfTrailingZeros_79 rfl ⟨congrArg (fun z => Sum.inl (some (Value.int (nI z)))) (by have cc := And.intro c0 (And.intro c1 (And.intro c2 (And.intro c3 c4))); clear ht ha ha0 T0 c0 c1 c2 c3 c4; revert t; decide), rfl, rfl⟩
          · refine V_iincN_1 2 d_JI_numberOfTrailingZeros_67 rfl rfl ?_
            refine V_iload_n d_JI_numberOfTrailingZeros_70 rfl ?_
            refine V_iconst (nI 2) d_JI_numberOfTrailingZeros_71 rfl ?_
            refine V_iushrN d_JI_numberOfTrailingZeros_72 (by have := (T0 t ht2).1; omega) (by decide) ?_
            refine V_istore_0 d_JI_numberOfTrailingZeros_73 ?_
            refine V_iload_n d_JI_numberOfTrailingZeros_74 rfl ?_
            refine V_iload_n d_JI_numberOfTrailingZeros_75 rfl ?_
            refine V_iconst (nI 1) d_JI_numberOfTrailingZeros_76 rfl ?_
            refine V_iushrN d_JI_numberOfTrailingZeros_77 (by have := (T0 t ht2).1; omega) (by decide) ?_
            refine V_iaddN d_JI_numberOfTrailingZeros_78 ?_
            exact V_ireturn d_JI_numberOfTrailingZeros_79 rfl ⟨congrArg (fun z => Sum.inl (some (Value.int (nI z)))) (by have cc := And.intro c0 (And.intro c1 (And.intro c2 (And.intro c3 c4))); clear ht ha ha0 T0 c0 c1 c2 c3 c4; revert t; decide), rfl, rfl⟩
        · refine V_iincN_1 4 d_JI_numberOfTrailingZeros_55 rfl rfl ?_
          refine V_iload_n d_JI_numberOfTrailingZeros_58 rfl ?_
          refine V_iconst (nI 4) d_JI_numberOfTrailingZeros_59 rfl ?_
          refine V_iushrN d_JI_numberOfTrailingZeros_60 (by have := (T0 t ht2).1; omega) (by decide) ?_
          refine V_istore_0 d_JI_numberOfTrailingZeros_61 ?_
          refine V_iload_n d_JI_numberOfTrailingZeros_62 rfl ?_
          refine V_iconst (nI 4) d_JI_numberOfTrailingZeros_63 rfl ?_
          refine V_icmp_leN 74 d_JI_numberOfTrailingZeros_64 (by decide) (by have := (T0 t ht2).1; omega) (by decide) (fun c4 => ?_) (fun c4 => ?_)
          · refine V_iload_n d_JI_numberOfTrailingZeros_74 rfl ?_
            refine V_iload_n d_JI_numberOfTrailingZeros_75 rfl ?_
            refine V_iconst (nI 1) d_JI_numberOfTrailingZeros_76 rfl ?_
            refine V_iushrN d_JI_numberOfTrailingZeros_77 (by have := (T0 t ht2).1; omega) (by decide) ?_
            refine V_iaddN d_JI_numberOfTrailingZeros_78 ?_
            exact V_ireturn d_JI_numberOfTrailingZeros_79 rfl ⟨congrArg (fun z => Sum.inl (some (Value.int (nI z)))) (by have cc := And.intro c0 (And.intro c1 (And.intro c2 (And.intro c3 c4))); clear ht ha ha0 T0 c0 c1 c2 c3 c4; revert t; decide), rfl, rfl⟩
          · refine V_iincN_1 2 d_JI_numberOfTrailingZeros_67 rfl rfl ?_
            refine V_iload_n d_JI_numberOfTrailingZeros_70 rfl ?_
            refine V_iconst (nI 2) d_JI_numberOfTrailingZeros_71 rfl ?_
            refine V_iushrN d_JI_numberOfTrailingZeros_72 (by have := (T0 t ht2).1; omega) (by decide) ?_
            refine V_istore_0 d_JI_numberOfTrailingZeros_73 ?_
            refine V_iload_n d_JI_numberOfTrailingZeros_74 rfl ?_
            refine V_iload_n d_JI_numberOfTrailingZeros_75 rfl ?_
            refine V_iconst (nI 1) d_JI_numberOfTrailingZeros_76 rfl ?_
            refine V_iushrN d_JI_numberOfTrailingZeros_77 (by have := (T0 t ht2).1; omega) (by decide) ?_
            refine V_iaddN d_JI_numberOfTrailingZeros_78 ?_
            exact V_ireturn d_JI_numberOfTrailingZeros_79 rfl ⟨congrArg (fun z => Sum.inl (some (Value.int (nI z)))) (by have cc := And.intro c0 (And.intro c1 (And.intro c2 (And.intro c3 c4))); clear ht ha ha0 T0 c0 c1 c2 c3 c4; revert t; decide), rfl, rfl⟩
  · refine V_iload_n d_JI_numberOfTrailingZeros_12 rfl ?_
    refine V_bipush (nI 32) d_JI_numberOfTrailingZeros_13 rfl ?_
    refine V_iandN d_JI_numberOfTrailingZeros_15 ?_
    exact V_ireturn d_JI_numberOfTrailingZeros_16 rfl ⟨by rw [(T0 t ht2).2 c0], rfl, rfl⟩

set_option maxRecDepth 100000 in
set_option maxHeartbeats 4000000 in
theorem c_K_count (l : Launch) (D : hv_D) (h : hv_P) (nx : Nat) {a : Nat} (ha : a < 2 ^ 31) : hv_N l D M_K_count (hv_rm 0 0 0 0) [.int (nI a)] h nx (hv_ans (some (.int (nI (pc_n a 20)))) (hv_same h nx)) := by
  have lp : ∀ (k i : Nat), k = 20 - i → i ≤ 20 → hv_V l D M_K_count (fun _ _ => True) (hv_rm 0 0 0 0) (hv_ans (some (.int (nI (pc_n a 20)))) (hv_same h nx)) 0 0 h nx 4 [some (.int (nI a)), some (.int (nI (pc_n a i))), some (.int (nI i))] [] := by
    intro k
    induction k using Nat.strongRecOn with
    | ind k ih =>
      intro i hk hi
      refine V_iload_n d_K_count_4 rfl ?_
      refine V_bipush (nI 20) d_K_count_5 rfl ?_
      refine V_icmp_geN 24 d_K_count_7 (by decide) (by omega) (by decide) (fun c => ?_) (fun c => ?_)
      · refine V_iload_n d_K_count_24 rfl ?_
        exact V_ireturn d_K_count_25 rfl ⟨by rw [show i = 20 by omega], rfl, rfl⟩
      · refine V_iload_n d_K_count_10 rfl ?_
        refine V_iload_n d_K_count_11 rfl ?_
        refine V_iload_n d_K_count_12 rfl ?_
        refine V_ishrN d_K_count_13 ha (by omega) ?_
        refine V_iconst (nI 1) d_K_count_14 rfl ?_
        refine V_iandN d_K_count_15 ?_
        refine V_iaddN d_K_count_16 ?_
        rw [pc_n_step]
        refine V_istore_1 d_K_count_17 rfl ?_
        refine V_iincN_2 1 d_K_count_18 rfl rfl ?_
        refine V_goto 4 d_K_count_21 (by decide) ?_
        exact ih (20 - (i + 1)) (by omega) (i + 1) rfl (by omega)
  refine hv_N.of' [some (.int (nI a)), none, none] (by decide +kernel) rfl rfl rfl ?_
  refine V_iconst (nI 0) d_K_count_0 rfl ?_
  refine V_istore_1 d_K_count_1 rfl ?_
  refine V_iconst (nI 0) d_K_count_2 rfl ?_
  refine V_istore_2 d_K_count_3 rfl ?_
  exact lp _ 0 rfl (by decide)
