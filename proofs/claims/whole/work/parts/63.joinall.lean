-- CONTRACTION: joinAll
theorem gD_l {x y : List Nat} {k : Nat} (h : k < x.length) : (x ++ y).getD k 0 = x.getD k 0 := by
  rw [List.getD_eq_getElem?_getD, List.getD_eq_getElem?_getD, List.getElem?_append_left h]
theorem gD_r {x y : List Nat} {k : Nat} : (x ++ y).getD (x.length + k) 0 = y.getD k 0 := by
  rw [List.getD_eq_getElem?_getD, List.getD_eq_getElem?_getD, List.getElem?_append_right (by omega)]
  congr 2
  omega
theorem tz_bit {s : Nat} (hs : s < 1024) (h0 : s ≠ 0) : s.testBit (tzf 10 s) = true ∧ ∀ i, i < tzf 10 s → s.testBit i = false := by
  have e := (tz_all s hs h0).1
  rw [show s = s - 1 + 1 by omega] at e
  have b := ntz_bits e
  rw [show s - 1 + 1 = s by omega] at b
  exact ⟨b.1, b.2.2.1⟩
theorem tz_eq {A S : Nat} (hA : A < 1024) (hS : S < 1024) (h0 : A ≠ 0) (hsub : A &&& S = A) (hb : A.testBit (tzf 10 S) = true) : tzf 10 A = tzf 10 S := by
  have S0 : S ≠ 0 := fun q => h0 (by rw [← hsub, q, Nat.and_zero])
  obtain ⟨a1, a2⟩ := tz_bit hA h0
  obtain ⟨s1, s2⟩ := tz_bit hS S0
  rcases Nat.lt_trichotomy (tzf 10 A) (tzf 10 S) with q | q | q
  · have := s2 _ q
    rw [sub_bit hsub a1] at this
    cases this
  · exact q
  · rw [a2 _ q] at hb
    cases hb
theorem tz_ne {A C : Nat} (hA : A < 1024) (hC : C < 1024) (a0 : A ≠ 0) (c0 : C ≠ 0) (hd : A &&& C = 0) : tzf 10 A ≠ tzf 10 C := by
  intro e
  have z : (A &&& C).testBit (tzf 10 A) = true := by rw [Nat.testBit_and, (tz_bit hA a0).1, e, (tz_bit hC c0).1]; rfl
  rw [hd] at z
  simp at z
theorem tz_one {S : Nat} (hS : S < 1024) (h0 : S ≠ 0) (h : S &&& (S - 1) = 0) : S = 2 ^ tzf 10 S := by
  have e := (tz_all S hS h0).2.2.1
  rw [h, Nat.or_zero] at e
  exact e.symm
theorem part_or {A S : Nat} (h : A &&& S = A) : A ||| (S ^^^ A) = S ∧ A &&& (S ^^^ A) = 0 := by
  constructor
  · apply Nat.eq_of_testBit_eq
    intro i
    have := @sub_bit A S i h
    rw [Nat.testBit_or, Nat.testBit_xor]
    cases a : A.testBit i <;> cases s : S.testBit i <;> simp_all
  · apply Nat.eq_of_testBit_eq
    intro i
    have := @sub_bit A S i h
    rw [Nat.testBit_and, Nat.testBit_xor, Nat.zero_testBit]
    cases a : A.testBit i <;> cases s : S.testBit i <;> simp_all
theorem or_xor {A C : Nat} (h : A &&& C = 0) : A ||| C = A ^^^ C := by
  apply Nat.eq_of_testBit_eq
  intro i
  have z : (A &&& C).testBit i = false := by rw [h]; simp
  rw [Nat.testBit_and] at z
  rw [Nat.testBit_or, Nat.testBit_xor]
  cases a : A.testBit i <;> cases s : C.testBit i <;> simp_all
theorem dis_sub {X S A : Nat} (h : X &&& S = 0) (hA : A &&& S = A) : X &&& A = 0 := by
  rw [← hA, ← Nat.and_assoc, Nat.and_comm X A, Nat.and_assoc, h, Nat.and_zero]
def szL (c : Nat) (pl : Nat → Nat) (la : Nat → Option Nat) : List Nat → Nat
  | [] => 0
  | X :: r => 2 ^ pc_ (BS c pl la X) + szL c pl la r
theorem szL_app {c : Nat} {pl : Nat → Nat} {la : Nat → Option Nat} : ∀ x y, szL c pl la (x ++ y) = szL c pl la x + szL c pl la y
  | [], y => by simp [szL]
  | X :: r, y => by simp only [List.cons_append, szL, szL_app r y]; omega
/-- a set's table lies ready -/
def alv (c : Nat) (pl : Nat → Nat) (la : Nat → Option Nat) (re im : Nat → Int32) (so sx : Int32) (om : Nat) (st bd : Nat → Nat) (f1 f2 : Nat → Int64) (us S : Nat) : Prop := (S ≠ 0 ∧ S < 2 ^ c) ∧ bd (tzf 10 S) = BS c pl la S ∧ st (tzf 10 S) + 2 ^ pc_ (BS c pl la S) ≤ us ∧ ∀ v, (f1 (st (tzf 10 S) + (gatF v (BS c pl la S) 20).1), f2 (st (tzf 10 S) + (gatF v (BS c pl la S) 20).1)) = TB c pl la re im so sx S ((v &&& BS c pl la S) ||| om)
section JOIN
variable {c : Nat} {pl : Nat → Nat} {la : Nat → Option Nat} {re im : Nat → Int32} {so sx : Int32} {om : Nat} {st bd : Nat → Nat} {f1 f2 g1 g2 : Nat → Int64} {us us' : Nat}
theorem alv_keep (hN : netOK c pl la) {X p y z : Nat} (h : alv c pl la re im so sx om st bd f1 f2 us X) (hp : tzf 10 X ≠ p) (hk : ∀ x, x < us → g1 x = f1 x ∧ g2 x = f2 x) (hu : us ≤ us') : alv c pl la re im so sx om (va_up st p y) (va_up bd p z) g1 g2 us' X := by
  obtain ⟨a, b, d, e⟩ := h
  refine ⟨a, by rw [vu_n hp]; exact b, by rw [vu_n hp]; omega, fun v => ?_⟩
  have := gat_lt (x := v) (S := BS c pl la X) 20
  rw [pc_20 (BS_lt hN a.2)] at d
  rw [vu_n hp, (hk _ (by omega)).1, (hk _ (by omega)).2]
  exact e v
theorem alv_join (hN : netOK c pl la) {A C : Nat} (hom : om &&& OPN c pl la = om) (hA : alv c pl la re im so sx om st bd f1 f2 us A) (hC : alv c pl la re im so sx om st bd f1 f2 us C) (hd : A &&& C = 0) (ht : tzf 10 A = tzf 10 (A ||| C)) (hL : ldOK f1 f2 g1 g2 us (2 ^ pc_ (BS c pl la A ^^^ BS c pl la C)) (jnV (BS c pl la A) (BS c pl la C) (fun x => (f1 (st (tzf 10 A) + x), f2 (st (tzf 10 A) + x))) (fun x => (f1 (st (tzf 10 C) + x), f2 (st (tzf 10 C) + x))) (2 ^ pc_n (BS c pl la A ||| BS c pl la C) 20))) : alv c pl la re im so sx om (va_up st (tzf 10 A) us) (va_up bd (tzf 10 A) (BS c pl la A ^^^ BS c pl la C)) g1 g2 (us + 2 ^ pc_ (BS c pl la A ^^^ BS c pl la C)) (A ||| C) := by
  obtain ⟨a1, a2, a3, a4⟩ := hA
  obtain ⟨c1, c2, c3, c4⟩ := hC
  have eB : BS c pl la (A ||| C) = BS c pl la A ^^^ BS c pl la C := by rw [or_xor hd, BS_xor]
  have bA := BS_lt hN a1.2
  have bC := BS_lt hN c1.2
  have kx : BS c pl la A ^^^ BS c pl la C < 2 ^ 20 := Nat.xor_lt_two_pow bA bC
  refine ⟨⟨fun q => a1.1 ?_, Nat.or_lt_two_pow a1.2 c1.2⟩, ?_, ?_, fun v => ?_⟩
  · have : A &&& (A ||| C) = A := sub_of_bits (fun i hb => by rw [Nat.testBit_or, hb]; rfl)
    rw [q, Nat.and_zero] at this
    exact this.symm
  · rw [← ht, vu_s, eB]
  · rw [← ht, vu_s, eB]; exact Nat.le_refl _
  · rw [← ht, vu_s, eB]
    have g := gat_lt (x := v) (S := BS c pl la A ^^^ BS c pl la C) 20
    rw [hL.1 _ (by rw [pc_20 kx]; exact g)]
    unfold jnV
    rw [join_sum bA bC (fun x => (f1 (st (tzf 10 A) + x), f2 (st (tzf 10 A) + x))) (fun x => (f1 (st (tzf 10 C) + x), f2 (st (tzf 10 C) + x)))]
    rw [join_math hN a1.2 c1.2 hd (v := v &&& (BS c pl la A ^^^ BS c pl la C)) (by rw [eB, Nat.and_assoc, Nat.and_self]) hom]
    refine Sn_congr (fun k _ hk => ?_)
    show cmu (f1 _, f2 _) (f1 _, f2 _) = _
    rw [a4, c4]
end JOIN
/-- the contraction's cells while it joins -/
def jS (h0 h : hv_P) (a rr n : Nat) (op : Int32) (us : Nat) (st bd : Nat → Nat) (f1 f2 : Nat → Int64) : Prop := h a = some (oC a rr (rr + 1) op (nI us)) ∧ h (a + 1) = some (eN 10 st) ∧ h (a + 2) = some (eN 10 bd) ∧ (∃ m, h (a + 3) = some (eI 21 m)) ∧ (∃ m, h (a + 4) = some (eI 21 m)) ∧ (∃ m, h (a + 5) = some (eI 21 m)) ∧ h rr = some (eL n f1) ∧ h (rr + 1) = some (eL n f2) ∧ ∀ q, (q < a ∨ a + 5 < q) → q ≠ rr → q ≠ rr + 1 → h q = h0 q
set_option maxRecDepth 100000 in
set_option maxHeartbeats 4000000 in
theorem join_tree (l : Launch) (D : hv_D) {h0 : hv_P} {nx a oa rr N nd c om : Nat} {op ac ml so sx : Int32} {pl : Nat → Nat} {la : Nat → Option Nat} {re im : Nat → Int32} {fi md : Nat → Nat} {Q : hv_R → hv_P → Nat → Prop} (hN : netOK c pl la) (hom : om &&& OPN c pl la = om) (hO : h0 oa = some (oO oa ac ml)) (hf : h0 (oa + 3) = some (eN 1024 fi)) (hm : h0 (oa + 4) = some (eN 10 md)) (hoa : oa + 5 < a) (har : a + 5 < rr) (hNn : N < 100000) (hnd : nd ≤ N) (hc1 : 1 ≤ c) : ∀ n S i, gd (FI (LE pl la)) n S → S < 2 ^ c → (∀ X ∈ pv (FI (LE pl la)) n S, fi X = FI (LE pl la) X) → (∀ k, k < (pv (FI (LE pl la)) n S).length → md (i + k) = (pv (FI (LE pl la)) n S).reverse.getD k 0 ∧ i + k < c - 1) → ∀ (h2 : hv_P) (us : Nat) (st bd : Nat → Nat) (f1 f2 : Nat → Int64), jS h0 h2 a rr N op us st bd f1 f2 → us + szL c pl la (pv (FI (LE pl la)) n S) ≤ nd → (∀ x, us ≤ x → x < nd → (f1 x, f2 x) = c0_) → (∀ t, S.testBit t = true → alv c pl la re im so sx om st bd f1 f2 (us) (2 ^ t)) → (∀ (h3 : hv_P) (us3 : Nat) (st3 bd3 : Nat → Nat) (g1 g2 : Nat → Int64), jS h0 h3 a rr N op us3 st3 bd3 g1 g2 → us3 = us + szL c pl la (pv (FI (LE pl la)) n S) → (∀ x, us3 ≤ x → x < nd → (g1 x, g2 x) = c0_) → alv c pl la re im so sx om st3 bd3 g1 g2 (us3) (S) → (∀ X, X &&& S = 0 → alv c pl la re im so sx om st bd f1 f2 (us) (X) → alv c pl la re im so sx om st3 bd3 g1 g2 (us3) (X)) → hv_V l D M_C_joinAll (fun _ _ => True) (hv_rm 3 82 0 0) Q 0 0 h3 nx 2 [some (.ref a), some (.ref oa), some (.int (nI c)), some (.int (nI (i + (pv (FI (LE pl la)) n S).length))), none, none] []) → hv_V l D M_C_joinAll (fun _ _ => True) (hv_rm 3 82 0 0) Q 0 0 h2 nx 2 [some (.ref a), some (.ref oa), some (.int (nI c)), some (.int (nI (i))), none, none] [] := by
  have hc := hN.1
  have c10 : 2 ^ c ≤ 1024 := Nat.pow_le_pow_right (n := 2) (by decide) hc
  intro n
  induction n with
  | zero => intro S i hg; exact hg.elim
  | succ n ih =>
    intro S i hg hS hfi HI h2 us st bd f1 f2 hj hus hz hal K
    obtain ⟨s1, hg⟩ := hg
    by_cases one : S &&& (S - 1) = 0
    · have epv : pv (FI (LE pl la)) (n + 1) S = [] := if_pos one
      rw [epv] at K
      have e1 := tz_one s1.2 s1.1 one
      refine K h2 us st bd f1 f2 hj rfl hz ?_ (fun X _ q => q)
      have := hal (tzf 10 S) (tz_bit s1.2 s1.1).1
      rw [← e1] at this
      exact this
    · obtain ⟨fs, gA, gC⟩ := hg.resolve_left one
      have epv : pv (FI (LE pl la)) (n + 1) S = S :: (pv (FI (LE pl la)) n (S ^^^ FI (LE pl la) S) ++ pv (FI (LE pl la)) n (FI (LE pl la) S)) := if_neg one
      have fd := part_or fs.1
      have csub : (S ^^^ FI (LE pl la) S) &&& S = S ^^^ FI (LE pl la) S := sub_of_bits (fun t hb => by rw [← fd.1, Nat.testBit_or, hb, Bool.or_true])
      have fAc : FI (LE pl la) S < 2 ^ c := Nat.lt_of_le_of_lt (by rw [← fs.1]; exact Nat.and_le_right) hS
      have fCc : S ^^^ FI (LE pl la) S < 2 ^ c := Nat.xor_lt_two_pow hS fAc
      have fA : FI (LE pl la) S < 1024 := by omega
      have fC : S ^^^ FI (LE pl la) S < 1024 := by omega
      have c0 : S ^^^ FI (LE pl la) S ≠ 0 := fun q => fs.2.2 (by
        have := fd.1
        rw [q, Nat.or_zero] at this
        exact this)
      have tA : tzf 10 (FI (LE pl la) S) = tzf 10 S := by
        obtain ⟨x, -, -, -, e, -⟩ := CO_ge (fun t ht => LE_lt hN ht) hc hS s1.1 one
        refine tz_eq fA s1.2 fs.2.1 fs.1 ?_
        rw [e, Nat.testBit_or, Nat.testBit_two_pow_self]
        rfl
      have bA := BS_lt hN fAc
      have bC := BS_lt hN fCc
      have eB : BS c pl la S = BS c pl la (FI (LE pl la) S) ^^^ BS c pl la (S ^^^ FI (LE pl la) S) := by
        conv => lhs; rw [← fd.1, or_xor fd.2, BS_xor]
      generalize eLA : pv (FI (LE pl la)) n (FI (LE pl la) S) = LA at *
      generalize eLC : pv (FI (LE pl la)) n (S ^^^ FI (LE pl la) S) = LC' at *
      have elen : i + (pv (FI (LE pl la)) (n + 1) S).length = i + LA.length + LC'.length + 1 := by rw [epv]; simp; omega
      have erev : (pv (FI (LE pl la)) (n + 1) S).reverse = LA.reverse ++ (LC'.reverse ++ [S]) := by rw [epv]; simp
      have hin : S ∈ pv (FI (LE pl la)) (n + 1) S := by rw [epv]; simp
      have ihA := ih (FI (LE pl la) S) i gA fAc
      have ihC := ih (S ^^^ FI (LE pl la) S) (i + LA.length) gC fCc
      rw [eLA] at ihA
      rw [eLC] at ihC
      have esz : szL c pl la (pv (FI (LE pl la)) (n + 1) S) = 2 ^ pc_ (BS c pl la S) + (szL c pl la LC' + szL c pl la LA) := by rw [epv, szL, szL_app]
      rw [esz] at hus
      have H0 : ∀ Z A C : Nat, us + (Z + (C + A)) ≤ nd → us + A ≤ nd ∧ us + A + C ≤ nd ∧ us + A + C + Z ≤ nd := fun Z A C h => ⟨by omega, by omega, by omega⟩
      obtain ⟨u1, u2, u3⟩ := H0 _ _ _ hus
      have H1 : ∀ Z A C : Nat, us + A + C + Z = us + (Z + (C + A)) := fun Z A C => by omega
      refine ihA (fun X hX => hfi X (by rw [epv]; simp [hX])) (fun k hk => ?_) h2 us st bd f1 f2 hj u1 hz (fun t ht => hal t (sub_bit fs.1 ht)) ?_
      · obtain ⟨a1, a2⟩ := HI k (by omega)
        rw [erev, gD_l (by simpa using hk)] at a1
        exact ⟨a1, a2⟩
      intro h3 us3 st3 bd3 g31 g32 hj3 e3 z3 aA3 k3'
      refine ihC (fun X hX => hfi X (by rw [epv]; simp [hX])) (fun k hk => ?_) h3 us3 st3 bd3 g31 g32 hj3 (by rw [e3]; exact u2) z3 (fun t ht => k3' (2 ^ t) ?_ (hal t (sub_bit csub ht))) ?_
      · obtain ⟨a1, a2⟩ := HI (LA.length + k) (by omega)
        have ea : LA.length = LA.reverse.length := by simp
        rw [erev, ea, gD_r, gD_l (by simpa using hk), ← ea, ← Nat.add_assoc] at a1
        exact ⟨a1, by omega⟩
      · have e : 2 ^ t &&& (S ^^^ FI (LE pl la) S) = 2 ^ t := sub_of_bits (fun j hb => by rw [Nat.testBit_two_pow] at hb; rw [← of_decide_eq_true hb]; exact ht)
        rw [Nat.and_comm, ← e, ← Nat.and_assoc, Nat.and_comm (FI (LE pl la) S), Nat.and_assoc, fd.2, Nat.and_zero]
      intro h4 us4 st4 bd4 g41 g42 hj4 e4 z4 aC k4
      have aA := k4 _ fd.2 aA3
      have HS := HI (LA.length + LC'.length) (by omega)
      have ea : LA.length = LA.reverse.length := by simp
      have ec : LC'.length = LC'.reverse.length + 0 := by simp
      rw [erev, ea, gD_r, ec, gD_r] at HS
      simp only [List.length_reverse, Nat.add_zero, List.getD_cons_zero] at HS
      rw [← Nat.add_assoc] at HS
      obtain ⟨j0, j1, j2, ⟨m1, jm1⟩, ⟨m2, jm2⟩, ⟨m3, jm3⟩, j6, j7, j8⟩ := hj4
      have w0 : h4 oa = _ := (j8 oa (by omega) (by omega) (by omega)).trans hO
      have w3 : h4 (oa + 3) = _ := (j8 (oa + 3) (by omega) (by omega) (by omega)).trans hf
      have w4 : h4 (oa + 4) = _ := (j8 (oa + 4) (by omega) (by omega) (by omega)).trans hm
      rw [esz] at K
      have ej : i + LA.length + LC'.length < c - 1 := HS.2
      refine V_iload_n d_C_joinAll_2 rfl ?_
      refine V_iload_n d_C_joinAll_3 rfl ?_
      refine V_iconst (nI 1) d_C_joinAll_4 rfl ?_
      refine V_isubN d_C_joinAll_5 (by omega) ?_
      refine V_icmp_geN 49 d_C_joinAll_6 (by decide) (by omega) (by omega) (fun q => by exfalso; omega) (fun _ => ?_)
      refine V_aload_n d_C_joinAll_9 rfl ?_
      refine V_getfield d_C_joinAll_10 fl_C_52 w0 rfl ?_
      refine V_iload_n d_C_joinAll_13 rfl ?_
      refine V_iaload d_C_joinAll_14 w4 ⟨rfl, by omega, by decide⟩ ?_
      rw [HS.1]
      refine V_istore_4 d_C_joinAll_15 rfl ?_
      refine V_aload_n d_C_joinAll_17 rfl ?_
      refine V_getfield d_C_joinAll_18 fl_C_87 w0 rfl ?_
      refine V_iload d_C_joinAll_21 rfl ?_
      refine V_iaload d_C_joinAll_23 w3 ⟨rfl, s1.2, by decide⟩ ?_
      rw [hfi S hin]
      refine V_istore_5 d_C_joinAll_24 rfl ?_
      refine V_aload_n d_C_joinAll_26 rfl ?_
      refine V_iload d_C_joinAll_27 rfl ?_
      refine V_callS1 d_C_joinAll_29 ml_C_90 mB_JI_numberOfTrailingZeros ms_JI_numberOfTrailingZeros (c_ntz l D _ _ (tzf 10 (FI (LE pl la) S)) (by omega) (tz_all _ fA fs.2.1).1 (by have := (tz_all _ fA fs.2.1).2.1; omega)) rfl rfl rfl rfl rfl rfl rfl ?_
      rintro _ _ ⟨rfl, rfl⟩
      refine V_iload d_C_joinAll_32 rfl ?_
      refine V_iload d_C_joinAll_34 rfl ?_
      refine V_ixorN d_C_joinAll_36 ?_
      refine V_callS1 d_C_joinAll_37 ml_C_90 mB_JI_numberOfTrailingZeros ms_JI_numberOfTrailingZeros (c_ntz l D _ _ (tzf 10 (S ^^^ FI (LE pl la) S)) (by omega) (tz_all _ fC c0).1 (by have := (tz_all _ fC c0).2.1; omega)) rfl rfl rfl rfl rfl rfl rfl ?_
      rintro _ _ ⟨rfl, rfl⟩
      refine V_callV0 d_C_joinAll_40 ml_C_93 mB_C_joinTwo mi_C_joinTwo mv_C_joinTwo rfl j0 (c_C_joinTwo l D _ _ j0 j1 j2 jm1 jm2 jm3 j6 j7 har hNn (tz_all _ fA fs.2.1).2.1 (tz_all _ fC c0).2.1 (by rw [aA.2.1]; exact bA) (by rw [aC.2.1]; exact bC) (by rw [aA.2.1]; exact aA.2.2.1) (by rw [aC.2.1]; exact aC.2.2.1) (by rw [aA.2.1, aC.2.1, ← eB, e4, e3]; exact Nat.le_trans u3 hnd) (fun x x1 x2 => z4 x x1 (by rw [aA.2.1, aC.2.1, ← eB, e4, e3] at x2; exact Nat.lt_of_lt_of_le x2 u3))) rfl rfl rfl rfl rfl rfl rfl ?_
      rintro _ _ ⟨rfl, k1, k2, k3, g1, g2, rfl, hL⟩
      rw [aA.2.1, aC.2.1] at hL
      refine V_iincN_3 1 d_C_joinAll_43 rfl rfl ?_
      refine V_goto 2 d_C_joinAll_46 (by decide) ?_
      refine V_drop_5 ?_
      refine V_drop_4 ?_
      have J := alv_join hN hom aA aC fd.2 (by rw [fd.1]; exact tA) hL
      rw [fd.1] at J
      rw [← elen]
      exact K _ (us4 + 2 ^ pc_ (BS c pl la S)) (va_up st4 (tzf 10 (FI (LE pl la) S)) us4) (va_up bd4 (tzf 10 (FI (LE pl la) S)) (BS c pl la (FI (LE pl la) S) ^^^ BS c pl la (S ^^^ FI (LE pl la) S))) g1 g2 ⟨by rw [eB, ← aA.2.1, ← aC.2.1]; exact og_0, (og_1 (by omega)), by rw [← aA.2.1, ← aC.2.1]; exact (og_2 (by omega) (by omega)), ⟨_, (og_3 (by omega) (by omega) (by omega))⟩, ⟨_, (og_4 (by omega) (by omega) (by omega) (by omega))⟩, ⟨_, (og_5 (by omega) (by omega) (by omega) (by omega) (by omega))⟩, (og_6 (by omega) (by omega) (by omega) (by omega) (by omega) (by omega)), (og_7 (by omega) (by omega) (by omega) (by omega) (by omega) (by omega) (by omega)), fun q q1 q2 q3 => (oz_8 (by omega) (by omega) (by omega) (by omega) (by omega) (by omega) q2 q3).trans (j8 q q1 q2 q3)⟩ (by rw [e4, e3]; exact H1 _ _ _) (fun x x1 x2 => by rw [eB] at x1; rw [(hL.2 x (Or.inr x1)).1, (hL.2 x (Or.inr x1)).2]; exact z4 x (Nat.le_trans (Nat.le_add_right _ _) x1) x2) (by rw [eB]; exact J) (fun X hX hv => by
        have vA := dis_sub hX fs.1
        have vC := dis_sub hX (show (S ^^^ FI (LE pl la) S) &&& S = S ^^^ FI (LE pl la) S from csub)
        have v4 := k4 X vC (k3' X vA hv)
        have hX0 := hv.1
        exact eB.symm ▸ alv_keep hN v4 (tz_ne (Nat.lt_of_lt_of_le hX0.2 c10) fA hX0.1 fs.2.1 vA) (fun x hx => hL.2 x (Or.inl hx)) (Nat.le_add_right _ _))
set_option maxRecDepth 100000 in
set_option maxHeartbeats 4000000 in
theorem c_C_joinAll (l : Launch) (D : hv_D) (h : hv_P) (nx : Nat) {a oa rr N nd us c om : Nat} {op ac ml so sx : Int32} {pl : Nat → Nat} {la : Nat → Option Nat} {re im : Nat → Int32} {lg co fi md st bd : Nat → Nat} {ac' ml' : Nat} {f1 f2 : Nat → Int64} (hN : netOK c pl la) (hom : om &&& OPN c pl la = om) (hO : h oa = some (oO oa ac ml)) (hf : h (oa + 3) = some (eN 1024 fi)) (hm : h (oa + 4) = some (eN 10 md)) (hoa : oa + 5 < a) (har : a + 5 < rr) (hNn : N < 100000) (hnd : nd ≤ N) (hc1 : 1 ≤ c) (hord : ordOK (LC pl la 0) c lg co fi md ac' ml') (hj : jS h h a rr N op us st bd f1 f2) (hus : us + szL c pl la (pv (FI (LE pl la)) 10 (2 ^ c - 1)) ≤ nd) (hz : ∀ x, us ≤ x → x < nd → (f1 x, f2 x) = c0_) (hal : ∀ t, t < c → alv c pl la re im so sx om st bd f1 f2 (us) (2 ^ t)) : hv_N l D M_C_joinAll (hv_rm 3 82 0 0) [.ref a, .ref oa, .int (nI c)] h nx (hv_ans none (fun h' n' => n' = nx ∧ ∃ (us' : Nat) (st' bd' : Nat → Nat) (g1 g2 : Nat → Int64), jS h h' a rr N op us' st' bd' g1 g2 ∧ us' ≤ nd ∧ alv c pl la re im so sx om st' bd' g1 g2 (us') (2 ^ c - 1))) := by
  refine hv_N.of' [some (.ref a), some (.ref oa), some (.int (nI c)), none, none, none] (by decide +kernel) rfl rfl rfl ?_
  refine V_iconst (nI 0) d_C_joinAll_0 rfl ?_
  refine V_istore_3 d_C_joinAll_1 rfl ?_
  rw [LC_0] at hord
  obtain ⟨-, -, hg, hfi, hmd, -⟩ := hord
  have hc := hN.1
  have c1 := Nat.two_pow_pos c
  have c10 : 2 ^ c ≤ 1024 := Nat.pow_le_pow_right (n := 2) (by decide) hc
  have hlen : (pv (FI (LE pl la)) 10 (2 ^ c - 1)).length = c - 1 := by
    have := pv_len hg
    rw [pc_all c hc] at this
    omega
  refine join_tree l D hN hom hO hf hm hoa har hNn hnd hc1 10 (2 ^ c - 1) 0 hg (by omega) hfi (fun k hk => ⟨?_, by omega⟩) h us st bd f1 f2 hj hus hz (fun t ht => hal t ?_) ?_
  · rw [Nat.zero_add, hmd k (by omega)]
    unfold MD
    rw [List.getD_eq_getElem?_getD, List.getD_eq_getElem?_getD, List.getElem?_reverse (by omega)]
    congr 2
    omega
  · rw [Nat.testBit_two_pow_sub_one] at ht
    exact of_decide_eq_true ht
  intro h3 us3 st3 bd3 g1 g2 hj3 e3 z3 al3 k3
  rw [hlen, Nat.zero_add]
  refine V_iload_n d_C_joinAll_2 rfl ?_
  refine V_iload_n d_C_joinAll_3 rfl ?_
  refine V_iconst (nI 1) d_C_joinAll_4 rfl ?_
  refine V_isubN d_C_joinAll_5 (by omega) ?_
  refine V_icmp_geN 49 d_C_joinAll_6 (by decide) (by omega) (by omega) (fun _ => ?_) (fun q => by exfalso; omega)
  exact V_return d_C_joinAll_49 rfl ⟨rfl, rfl, us3, st3, bd3, g1, g2, hj3, by omega, al3⟩
