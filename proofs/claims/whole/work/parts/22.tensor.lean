-- TENSOR: names, legs
/-- a name, or none, as an int -/
def en_ (o : Option Nat) : Int32 := match o with
  | none => -1
  | some k => nI k
abbrev eM (n : Nat) (g : Nat → Option Nat) : hv_E := eI n (fun j => en_ (g j))
/-- the set of one name, or of none -/
def ob_ (o : Option Nat) : Nat := match o with
  | none => 0
  | some k => 2 ^ k
/-- the legs of n places -/
def lgx (g : Nat → Option Nat) : Nat → Nat
  | 0 => 0
  | n + 1 => lgx g n ^^^ ob_ (g n)
/-- the names of those of n places whose value at the index x is v -/
def nwb (g : Nat → Option Nat) (x v : Nat) : Nat → Nat
  | 0 => 0
  | n + 1 => if x / 2 ^ n % 2 = v then nwb g x v n ||| ob_ (g n) else nwb g x v n
theorem en_up (g : Nat → Option Nat) (j : Nat) (o : Option Nat) : va_up (fun j => en_ (g j)) j (en_ o) = fun q => en_ (va_up g j o q) := by
  funext q
  unfold va_up
  split <;> rfl
theorem en_ne {k : Nat} (hk : k < 20) : ¬ en_ (some k) = -1 := by
  have : ∀ k, k < 20 → ¬ en_ (some k) = -1 := by decide
  exact this k hk
theorem ob_lt {o : Option Nat} (h : ∀ k, o = some k → k < 20) : ob_ o < 2 ^ 20 := by
  cases o with
  | none => exact Nat.two_pow_pos 20
  | some k => exact Nat.pow_lt_pow_right (by decide) (h k rfl)
theorem lgx_lt {g : Nat → Option Nat} : ∀ {n : Nat}, (∀ p k, p < n → g p = some k → k < 20) → lgx g n < 2 ^ 20
  | 0, _ => Nat.two_pow_pos 20
  | n + 1, h => Nat.xor_lt_two_pow (lgx_lt (fun p k hp => h p k (by omega))) (ob_lt (fun k => h n k (by omega)))
theorem nwb_lt {g : Nat → Option Nat} {x v : Nat} : ∀ {n : Nat}, (∀ p k, p < n → g p = some k → k < 20) → nwb g x v n < 2 ^ 20
  | 0, _ => Nat.two_pow_pos 20
  | n + 1, h => by
    have h1 := nwb_lt (x := x) (v := v) (n := n) (fun p k hp => h p k (by omega))
    simp only [nwb]
    split
    · exact Nat.or_lt_two_pow h1 (ob_lt (fun k => h n k (by omega)))
    · exact h1
set_option maxRecDepth 100000 in
set_option maxHeartbeats 4000000 in
theorem c_T_setName (l : Launch) (D : hv_D) (h : hv_P) (nx : Nat) {a pl j : Nat} {lg : Int32} {g : Nat → Option Nat} {q : Option Nat} (ha : h a = some (oT a (nI pl) lg)) (hg : h (a + 1) = some (eM 6 g)) (hpl : pl ≤ 6) (hj : j < 6) (hv : ∀ p k, p < 6 → va_up g j q p = some k → k < 20) : hv_N l D M_T_setName (hv_rm 0 0 0 0) [.ref a, .int (nI j), .int (en_ q)] h nx (hv_ans none (fun h' n' => h' = hv_ov h [(a, oT a (nI pl) (nI (lgx (va_up g j q) pl))), (a + 1, eM 6 (va_up g j q))] ∧ n' = nx)) := by
  have lp : ∀ (k i : Nat), k = pl - i → i ≤ pl → hv_V l D M_T_setName (fun _ _ => True) (hv_rm 0 0 0 0) (hv_ans none (fun h' n' => h' = hv_ov h [(a, oT a (nI pl) (nI (lgx (va_up g j q) pl))), (a + 1, eM 6 (va_up g j q))] ∧ n' = nx)) 0 0 (hv_ov h [(a, oT a (nI pl) (nI (lgx (va_up g j q) i))), (a + 1, eM 6 (va_up g j q))]) nx 14 [some (.ref a), some (.int (nI j)), some (.int (en_ q)), some (.int (nI i))] [] := by
    intro k
    induction k using Nat.strongRecOn with
    | ind k ih =>
      intro i hk hi
      refine V_iload_n d_T_setName_14 rfl ?_
      refine V_aload_n d_T_setName_15 rfl ?_
      refine V_getfield d_T_setName_16 fl_T_21 (og_0) rfl ?_
      refine V_icmp_geN 55 d_T_setName_19 (by decide) (by omega) (by omega) (fun c => ?_) (fun c => ?_)
      · exact V_return d_T_setName_55 rfl ⟨rfl, by rw [show i = pl by omega], rfl⟩
      · rcases ho : va_up g j q i with _ | k
        · refine V_aload_n d_T_setName_22 rfl ?_
          refine V_getfield d_T_setName_23 fl_T_9 (og_0) rfl ?_
          refine V_iload_n d_T_setName_26 rfl ?_
          refine V_iaload d_T_setName_27 (og_1 (by omega)) ⟨rfl, by omega, by decide⟩ ?_
          refine V_iconst (-1) d_T_setName_28 rfl ?_
          refine V_icmp_eq 49 d_T_setName_29 (by decide) (fun _ => ?_) (fun q => absurd (by rw [ho]; rfl) q)
          rw [show lgx (va_up g j q) i = lgx (va_up g j q) (i + 1) by simp [lgx, ho, ob_]]
          refine V_iincN_3 1 d_T_setName_49 rfl rfl ?_
          refine V_goto 14 d_T_setName_52 (by decide) ?_
          exact ih (pl - (i + 1)) (by omega) (i + 1) rfl (by omega)
        · refine V_aload_n d_T_setName_22 rfl ?_
          refine V_getfield d_T_setName_23 fl_T_9 (og_0) rfl ?_
          refine V_iload_n d_T_setName_26 rfl ?_
          refine V_iaload d_T_setName_27 (og_1 (by omega)) ⟨rfl, by omega, by decide⟩ ?_
          refine V_iconst (-1) d_T_setName_28 rfl ?_
          refine V_icmp_eq 49 d_T_setName_29 (by decide) (fun q => absurd q (by rw [ho]; exact en_ne (hv i k (by omega) ho))) (fun _ => ?_)
          refine V_aload_n d_T_setName_32 rfl ?_
          refine V_dup d_T_setName_33 rfl ?_
          refine V_getfield d_T_setName_34 fl_T_25 (og_0) rfl ?_
          refine V_iconst (nI 1) d_T_setName_37 rfl ?_
          refine V_aload_n d_T_setName_38 rfl ?_
          refine V_getfield d_T_setName_39 fl_T_9 (og_0) rfl ?_
          refine V_iload_n d_T_setName_42 rfl ?_
          refine V_iaload d_T_setName_43 (og_1 (by omega)) ⟨rfl, by omega, by decide⟩ ?_
          refine V_eqI (y := nI k) (by rw [ho]; rfl) ?_
          refine V_ishlN d_T_setName_44 (by have := hv i k (by omega) ho; omega) ?_
          rw [Nat.one_mul]
          refine V_ixorN d_T_setName_45 ?_
          refine V_put (e' := oT a (nI pl) (nI (lgx (va_up g j q) (i + 1)))) d_T_setName_46 fp_T_25 og_0 rfl rfl rfl (by simp only [lgx, ho, ob_]; rfl) ou_0 ?_
          refine V_iincN_3 1 d_T_setName_49 rfl rfl ?_
          refine V_goto 14 d_T_setName_52 (by decide) ?_
          exact ih (pl - (i + 1)) (by omega) (i + 1) rfl (by omega)
  refine hv_N.of' [some (.ref a), some (.int (nI j)), some (.int (en_ q)), none] (by decide +kernel) rfl rfl rfl ?_
  refine V_aload_n d_T_setName_0 rfl ?_
  refine V_getfield d_T_setName_1 fl_T_9 ha rfl ?_
  refine V_iload_n d_T_setName_4 rfl ?_
  refine V_iload_n d_T_setName_5 rfl ?_
  refine V_ist d_T_setName_6 hg ⟨rfl, hj, by decide⟩ (h' := hv_ov h [(a, oT a (nI pl) lg), (a + 1, eM 6 (va_up g j q))]) (by rw [en_up]; exact (hv_up_self (by rw [hv_up_n (by omega)]; exact ha)).symm) ?_
  refine V_aload_n d_T_setName_7 rfl ?_
  refine V_iconst (nI 0) d_T_setName_8 rfl ?_
  refine V_put (e' := oT a (nI pl) (nI 0)) d_T_setName_9 fp_T_25 (og_0) rfl rfl rfl rfl (ou_0) ?_
  refine V_iconst (nI 0) d_T_setName_12 rfl ?_
  refine V_istore_3 d_T_setName_13 rfl ?_
  exact lp _ 0 rfl (Nat.zero_le _)

set_option maxRecDepth 100000 in
set_option maxHeartbeats 4000000 in
theorem c_T_namesWithBit (l : Launch) (D : hv_D) (h : hv_P) (nx : Nat) {a pl x v : Nat} {lg : Int32} {g : Nat → Option Nat} (ha : h a = some (oT a (nI pl) lg)) (hg : h (a + 1) = some (eM 6 g)) (hpl : pl ≤ 6) (hx : x < 2 ^ 31) (hvv : v < 2) (hv : ∀ p k, p < 6 → g p = some k → k < 20) : hv_N l D M_T_namesWithBit (hv_rm 0 0 0 0) [.ref a, .int (nI x), .int (nI v)] h nx (hv_ans (some (.int (nI (nwb g x v pl)))) (hv_same h nx)) := by
  have lp : ∀ (k i : Nat), k = pl - i → i ≤ pl → hv_V l D M_T_namesWithBit (fun _ _ => True) (hv_rm 0 0 0 0) (hv_ans (some (.int (nI (nwb g x v pl)))) (hv_same h nx)) 0 0 (h) nx 5 [some (.ref a), some (.int (nI x)), some (.int (nI v)), some (.int (nI (nwb g x v i))), some (.int (nI i))] [] := by
    intro k
    induction k using Nat.strongRecOn with
    | ind k ih =>
      intro i hk hi
      refine V_iload d_T_namesWithBit_5 rfl ?_
      refine V_aload_n d_T_namesWithBit_7 rfl ?_
      refine V_getfield d_T_namesWithBit_8 fl_T_21 ha rfl ?_
      refine V_icmp_geN 53 d_T_namesWithBit_11 (by decide) (by omega) (by omega) (fun c => ?_) (fun c => ?_)
      · refine V_iload_n d_T_namesWithBit_53 rfl ?_
        exact V_ireturn d_T_namesWithBit_54 rfl ⟨by rw [show i = pl by omega], rfl, rfl⟩
      · refine V_iload_n d_T_namesWithBit_14 rfl ?_
        refine V_iload d_T_namesWithBit_15 rfl ?_
        refine V_ishrN d_T_namesWithBit_17 hx (by omega) ?_
        refine V_iconst (nI 1) d_T_namesWithBit_18 rfl ?_
        refine V_iandN d_T_namesWithBit_19 ?_
        rw [Nat.and_one_is_mod]
        refine V_iload_n d_T_namesWithBit_20 rfl ?_
        refine V_icmp_neN 47 d_T_namesWithBit_21 (by decide) (by omega) (by omega) (fun cb => ?_) (fun cb => ?_)
        · rw [show nwb g x v i = nwb g x v (i + 1) by simp [nwb, cb]]
          refine V_iincN_4 1 d_T_namesWithBit_47 rfl rfl ?_
          refine V_goto 5 d_T_namesWithBit_50 (by decide) ?_
          exact ih (pl - (i + 1)) (by omega) (i + 1) rfl (by omega)
        · rcases ho : g i with _ | k
          · refine V_aload_n d_T_namesWithBit_24 rfl ?_
            refine V_getfield d_T_namesWithBit_25 fl_T_9 ha rfl ?_
            refine V_iload d_T_namesWithBit_28 rfl ?_
            refine V_iaload d_T_namesWithBit_30 hg ⟨rfl, by omega, by decide⟩ ?_
            refine V_iconst (-1) d_T_namesWithBit_31 rfl ?_
            refine V_icmp_eq 47 d_T_namesWithBit_32 (by decide) (fun _ => ?_) (fun q => absurd (by rw [ho]; rfl) q)
            rw [show nwb g x v i = nwb g x v (i + 1) by simp [nwb, cb, ho, ob_]]
            refine V_iincN_4 1 d_T_namesWithBit_47 rfl rfl ?_
            refine V_goto 5 d_T_namesWithBit_50 (by decide) ?_
            exact ih (pl - (i + 1)) (by omega) (i + 1) rfl (by omega)
          · refine V_aload_n d_T_namesWithBit_24 rfl ?_
            refine V_getfield d_T_namesWithBit_25 fl_T_9 ha rfl ?_
            refine V_iload d_T_namesWithBit_28 rfl ?_
            refine V_iaload d_T_namesWithBit_30 hg ⟨rfl, by omega, by decide⟩ ?_
            refine V_iconst (-1) d_T_namesWithBit_31 rfl ?_
            refine V_icmp_eq 47 d_T_namesWithBit_32 (by decide) (fun q => absurd q (by rw [ho]; exact en_ne (hv i k (by omega) ho))) (fun _ => ?_)
            refine V_iload_n d_T_namesWithBit_35 rfl ?_
            refine V_iconst (nI 1) d_T_namesWithBit_36 rfl ?_
            refine V_aload_n d_T_namesWithBit_37 rfl ?_
            refine V_getfield d_T_namesWithBit_38 fl_T_9 ha rfl ?_
            refine V_iload d_T_namesWithBit_41 rfl ?_
            refine V_iaload d_T_namesWithBit_43 hg ⟨rfl, by omega, by decide⟩ ?_
            refine V_eqI (y := nI k) (by rw [ho]; rfl) ?_
            refine V_ishlN d_T_namesWithBit_44 (by have := hv i k (by omega) ho; omega) ?_
            refine V_iorN d_T_namesWithBit_45 ?_
            rw [Nat.one_mul, show nwb g x v i ||| 2 ^ k = nwb g x v (i + 1) by simp [nwb, cb, ho, ob_]]
            refine V_istore_3 d_T_namesWithBit_46 rfl ?_
            refine V_iincN_4 1 d_T_namesWithBit_47 rfl rfl ?_
            refine V_goto 5 d_T_namesWithBit_50 (by decide) ?_
            exact ih (pl - (i + 1)) (by omega) (i + 1) rfl (by omega)
  refine hv_N.of' [some (.ref a), some (.int (nI x)), some (.int (nI v)), none, none] (by decide +kernel) rfl rfl rfl ?_
  refine V_iconst (nI 0) d_T_namesWithBit_0 rfl ?_
  refine V_istore_3 d_T_namesWithBit_1 rfl ?_
  refine V_iconst (nI 0) d_T_namesWithBit_2 rfl ?_
  refine V_istore_4 d_T_namesWithBit_3 rfl ?_
  exact lp _ 0 rfl (Nat.zero_le _)

set_option maxRecDepth 100000 in
set_option maxHeartbeats 4000000 in
theorem c_T_makeNew (l : Launch) (D : hv_D) (h : hv_P) (nx : Nat) {a : Nat} {pl lg p : Int32} {f1 f2 f3 : Nat → Int32} (ha : h a = some (oT a pl lg)) (h1 : h (a + 1) = some (eI 6 f1)) (h2 : h (a + 2) = some (eI 64 f2)) (h3 : h (a + 3) = some (eI 64 f3)) : hv_N l D M_T_makeNew (hv_rm 1 23 0 0) [.ref a, .int p] h nx (hv_ans none (fun h' n' => h' = hv_ov h [(a, oT a p 0), (a + 1, eI 6 (hv_fill f1 6 (-1))), (a + 2, eI 64 (hv_fill f2 64 0)), (a + 3, eI 64 (hv_fill f3 64 0))] ∧ n' = nx)) := by
  refine hv_N.of' [some (.ref a), some (.int p)] (by decide +kernel) rfl rfl rfl ?_
  refine V_eqH (ob_4 ha h1 h2 h3) ?_
  refine V_aload_n d_T_makeNew_0 rfl ?_
  refine V_iload_n d_T_makeNew_1 rfl ?_
  refine V_put (e' := oT a p lg) d_T_makeNew_2 fp_T_21 (og_0) rfl rfl rfl rfl (ou_0) ?_
  refine V_aload_n d_T_makeNew_5 rfl ?_
  refine V_iconst (0) d_T_makeNew_6 rfl ?_
  refine V_put (e' := oT a p 0) d_T_makeNew_7 fp_T_25 (og_0) rfl rfl rfl rfl (ou_0) ?_
  refine V_aload_n d_T_makeNew_10 rfl ?_
  refine V_getfield d_T_makeNew_11 fl_T_9 (og_0) rfl ?_
  refine V_iconst (-1) d_T_makeNew_14 rfl ?_
  refine V_callS0 d_T_makeNew_15 ml_T_28 mB_JA_fill ms_JA_fill (c_fill l D _ _ (-1) (og_1 (by omega)) (by decide)) rfl rfl rfl rfl rfl rfl rfl ?_
  rintro _ _ ⟨rfl, rfl⟩
  rw [ou_1 (by omega)]
  refine V_aload_n d_T_makeNew_18 rfl ?_
  refine V_getfield d_T_makeNew_19 fl_T_15 (og_0) rfl ?_
  refine V_iconst (0) d_T_makeNew_22 rfl ?_
  refine V_callS0 d_T_makeNew_23 ml_T_28 mB_JA_fill ms_JA_fill (c_fill l D _ _ 0 (og_2 (by omega) (by omega)) (by decide)) rfl rfl rfl rfl rfl rfl rfl ?_
  rintro _ _ ⟨rfl, rfl⟩
  rw [ou_2 (by omega) (by omega)]
  refine V_aload_n d_T_makeNew_26 rfl ?_
  refine V_getfield d_T_makeNew_27 fl_T_18 (og_0) rfl ?_
  refine V_iconst (0) d_T_makeNew_30 rfl ?_
  refine V_callS0 d_T_makeNew_31 ml_T_28 mB_JA_fill ms_JA_fill (c_fill l D _ _ 0 (og_3 (by omega) (by omega) (by omega)) (by decide)) rfl rfl rfl rfl rfl rfl rfl ?_
  rintro _ _ ⟨rfl, rfl⟩
  rw [ou_3 (by omega) (by omega) (by omega)]
  exact V_return d_T_makeNew_34 rfl ⟨rfl, rfl, rfl⟩
