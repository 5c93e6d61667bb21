-- THE MODEL: all, findSet, findOrder
theorem eI_eN {n : Nat} (f : Nat → Int32) : ∃ g : Nat → Nat, eI n f = eN n g := by
  refine ⟨fun j => (f j).toBitVec.toNat, ?_⟩
  have e : f = fun j => nI ((f j).toBitVec.toNat) := by
    funext j
    apply Int32.toBitVec_inj.1
    show (f j).toBitVec = BitVec.ofNat 32 (f j).toBitVec.toNat
    rw [BitVec.ofNat_toNat, BitVec.setWidth_eq]
  exact congrArg (fun z => eI n z) e
theorem nI_m1 {n : Nat} (h : n < 2 ^ 31) : ¬ nI n = -1 := by
  intro q
  have e := congrArg Int32.toInt q
  rw [nI_toInt h] at e
  have : (-1 : Int32).toInt = -1 := rfl
  omega
theorem lo_bit : ∀ s, s < 1024 → s ≠ 0 → nI s &&& -(nI s) = nI (2 ^ tzf 10 s) := by decide +kernel
theorem sub_anN {a s : Nat} : anN a s = 0 ↔ a &&& s = a := by
  constructor
  · intro q
    refine sub_of_bits (fun i hi => ?_)
    have e : (anN a s).testBit i = false := by rw [q]; simp
    simp only [anN, Nat.testBit_xor, Nat.testBit_and, hi] at e
    simpa using e
  · intro q
    unfold anN
    rw [q, Nat.xor_self]
theorem lo_facts {s : Nat} (h : s < 1024) (h0 : s ≠ 0) : 2 ^ tzf 10 s + (s &&& (s - 1)) = s ∧ 2 ^ tzf 10 s &&& (s &&& (s - 1)) = 0 := by
  have : ∀ s, s < 1024 → s ≠ 0 → 2 ^ tzf 10 s + (s &&& (s - 1)) = s ∧ 2 ^ tzf 10 s &&& (s &&& (s - 1)) = 0 := by decide +kernel
  exact this s h h0
/-- which numbers a are first parts of s -/
theorem pa_iff {s a : Nat} (h : s < 1024) (h0 : s ≠ 0) (hle : 2 ^ tzf 10 s ≤ a) : (a &&& s = a ∧ a &&& 2 ^ tzf 10 s ≠ 0) ↔ (a - 2 ^ tzf 10 s) &&& (s &&& (s - 1)) = a - 2 ^ tzf 10 s := by
  obtain ⟨-, z2, z3, z4, z5, z6⟩ := tz_all s h h0
  obtain ⟨f1, f2⟩ := lo_facts h h0
  generalize s &&& (s - 1) = r at *
  generalize tzf 10 s = t at *
  have dis : ∀ i, (2 ^ t).testBit i = true → r.testBit i = false := by
    intro i hi
    have e : (2 ^ t &&& r).testBit i = false := by rw [f2]; simp
    rw [Nat.testBit_and, hi] at e
    simpa using e
  have sb : ∀ i, s.testBit i = ((2 ^ t).testBit i || r.testBit i) := by intro i; rw [← z3, Nat.testBit_or]
  constructor
  · rintro ⟨h1, h2⟩
    have bt : a.testBit t = true := by
      cases q : a.testBit t with
      | true => rfl
      | false =>
        refine absurd ?_ h2
        apply Nat.eq_of_testBit_eq
        intro i
        rw [Nat.testBit_and, Nat.testBit_two_pow, Nat.zero_testBit]
        by_cases e : t = i
        · subst e; rw [q]; rfl
        · simp [e]
    have sub : 2 ^ t &&& a = 2 ^ t := sub_of_bits (fun i hi => by
      rw [Nat.testBit_two_pow] at hi
      have : t = i := of_decide_eq_true hi
      rw [← this]; exact bt)
    have e := sub_add sub
    have ex : a - 2 ^ t = a ^^^ 2 ^ t := by omega
    rw [ex]
    refine sub_of_bits (fun i hi => ?_)
    rw [Nat.testBit_xor] at hi
    have b1 := sub_bits h1 i
    have b2 := sb i
    have b3 := sub_bits sub i
    cases c1 : a.testBit i <;> cases c2 : (2 ^ t).testBit i <;> simp_all
  · intro q
    have o1 : (a - 2 ^ t) &&& 2 ^ t = 0 := by
      apply Nat.eq_of_testBit_eq
      intro i
      rw [Nat.testBit_and, Nat.zero_testBit]
      have b1 := sub_bits q i
      have b2 := dis i
      cases c1 : (a - 2 ^ t).testBit i <;> cases c2 : (2 ^ t).testBit i <;> simp_all
    have o2 := or_add _ _ _ (Nat.lt_two_pow_self (n := a - 2 ^ t)) o1
    have ea : (a - 2 ^ t) ||| 2 ^ t = a := by omega
    refine ⟨sub_of_bits (fun i hi => ?_), ?_⟩
    · rw [← ea, Nat.testBit_or] at hi
      have b1 := sub_bits q i
      rw [sb i]
      cases c1 : (a - 2 ^ t).testBit i <;> cases c2 : (2 ^ t).testBit i <;> simp_all
    · intro z
      have e1 : (a &&& 2 ^ t).testBit t = false := by rw [z]; simp
      rw [← ea, Nat.testBit_and, Nat.testBit_or] at e1
      simp [Nat.testBit_two_pow_self] at e1
theorem pa_eq {s a : Nat} (h : s < 1024) (h0 : s ≠ 0) (hle : 2 ^ tzf 10 s ≤ a) (ha : a < s) (hp : (a - 2 ^ tzf 10 s) &&& (s &&& (s - 1)) = a - 2 ^ tzf 10 s) : 2 ^ tzf 10 s ||| (a - 2 ^ tzf 10 s) = a ∧ (s &&& (s - 1)) ^^^ (a - 2 ^ tzf 10 s) = anN s a ∧ anN s a < s ∧ 0 < anN s a ∧ a - 2 ^ tzf 10 s < s &&& (s - 1) := by
  obtain ⟨f1, f2⟩ := lo_facts h h0
  have lt : a - 2 ^ tzf 10 s < s &&& (s - 1) := by omega
  obtain ⟨p1, p2, p3, p4, p5, p6, p7⟩ := part_facts h h0 hp lt
  have e1 : 2 ^ tzf 10 s ||| (a - 2 ^ tzf 10 s) = a := by
    have d : 2 ^ tzf 10 s &&& (a - 2 ^ tzf 10 s) = 0 := by
      apply Nat.eq_of_testBit_eq
      intro i
      rw [Nat.testBit_and, Nat.zero_testBit]
      have e : (2 ^ tzf 10 s &&& (s &&& (s - 1))).testBit i = false := by rw [f2]; simp
      rw [Nat.testBit_and] at e
      have b1 := sub_bits hp i
      cases c1 : (2 ^ tzf 10 s).testBit i <;> cases c2 : (a - 2 ^ tzf 10 s).testBit i <;> simp_all
    have := or_add _ _ _ (Nat.lt_two_pow_self (n := 2 ^ tzf 10 s)) d
    omega
  rw [e1] at p2 p7
  have e2 : anN s a = s ^^^ a := by unfold anN; rw [Nat.and_comm s a, p2]
  rw [e2, p7]
  exact ⟨e1, rfl, p6, p5, lt⟩
theorem LGn_all {l1 : Nat → Nat} {S c : Nat} (hS : S < 2 ^ c) : ∀ k, LGn l1 S (c + k) = LGn l1 S c
  | 0 => rfl
  | k + 1 => by
    show LGn l1 S (c + k) ^^^ (if S.testBit (c + k) = true then l1 (c + k) else 0) = _
    rw [LGn_all hS k, Nat.testBit_lt_two_pow (Nat.lt_of_lt_of_le hS (Nat.pow_le_pow_right (by decide) (Nat.le_add_right c k)))]
    simp
set_option maxRecDepth 100000 in
set_option maxHeartbeats 4000000 in
theorem c_K_all (l : Launch) (D : hv_D) (h : hv_P) (nx : Nat) {k c : Nat} {th op sh sp tu gc my so sx : Int32} {sr si : Int64} (hk : h k = some (oK k th (nI c) op sh sp tu gc my sr si so sx)) (hc : c ≤ 10) : hv_N l D M_K_all (hv_rm 0 0 0 0) [.ref k] h nx (hv_ans (some (.int (nI (2 ^ c - 1)))) (hv_same h nx)) := by
  refine hv_N.of' [some (.ref k)] (by decide +kernel) rfl rfl rfl ?_
  refine V_iconst (nI 1) d_K_all_0 rfl ?_
  refine V_aload_n d_K_all_1 rfl ?_
  refine V_getfield d_K_all_2 fl_K_73 hk rfl ?_
  refine V_ishlN d_K_all_5 (by omega) ?_
  refine V_iconst (nI 1) d_K_all_6 rfl ?_
  refine V_isubN d_K_all_7 (by have := Nat.two_pow_pos c; omega) ?_
  exact V_ireturn d_K_all_8 rfl ⟨by rw [Nat.one_mul], rfl, rfl⟩

set_option maxRecDepth 100000 in
set_option maxHeartbeats 4000000 in
theorem c_K_findSet (l : Launch) (D : hv_D) (h : hv_P) (nx : Nat) {k c : Nat} {th op sh sp tu gc my so sx : Int32} {sr si : Int64} (hk : h k = some (oK k th (nI c) op sh sp tu gc my sr si so sx)) {s cu : Nat} {sg lg co fi : Nat → Nat} (hsg : h (k + 5) = some (eN 10 sg)) (hl : h (k + 6) = some (eN 1024 lg)) (hco : h (k + 7) = some (eN 1024 co)) (hf : h (k + 8) = some (eN 1024 fi)) (hc : c ≤ 10) (h0 : s ≠ 0) (hsc : s < 2 ^ c) (hq : ∀ q, 1 ≤ q → q < s → lg q < 2 ^ 20 ∧ co q ≤ 2 ^ 26) : hv_N l D M_K_findSet (hv_rm 1 22 0 0) [.ref k, .int (nI s), .int (nI cu)] h nx (hv_ans none (fun h' n' => h' = hv_ov h [(k, oK k th (nI c) op sh sp tu gc my sr si so sx), (k + 5, eN 10 sg), (k + 6, eN 1024 (va_up lg s (LG (fun t => anN (sg t) cu) s))), (k + 7, eN 1024 (va_up co s (if s &&& (s - 1) = 0 then (0, 0) else ptF lg co (2 ^ tzf 10 s) (s &&& (s - 1)) (2 ^ 30, 0) (s &&& (s - 1))).1)), (k + 8, eN 1024 (va_up fi s (if s &&& (s - 1) = 0 then (0, 0) else ptF lg co (2 ^ tzf 10 s) (s &&& (s - 1)) (2 ^ 30, 0) (s &&& (s - 1))).2))] ∧ n' = nx)) := by
  have h10 : (2 : Nat) ^ c ≤ 2 ^ 10 := Nat.pow_le_pow_right (by decide) hc
  have hs : s < 1024 := by omega
  obtain ⟨f1, f2⟩ := lo_facts hs h0
  have tp := Nat.two_pow_pos (tzf 10 s)
  have lp2 : ¬ s &&& (s - 1) = 0 → ∀ (kk a : Nat), kk = s - a → a ≤ s → 2 ^ tzf 10 s ≤ a → ∀ v : Int32, ((a = 2 ^ tzf 10 s ∧ v = -1) ∨ (2 ^ tzf 10 s < a ∧ v = nI (ptF lg co (2 ^ tzf 10 s) (s &&& (s - 1)) (2 ^ 30, 0) (a - 2 ^ tzf 10 s)).1)) → hv_V l D M_K_findSet (fun _ _ => True) (hv_rm 1 22 0 0) (hv_ans none (fun h' n' => h' = hv_ov h [(k, oK k th (nI c) op sh sp tu gc my sr si so sx), (k + 5, eN 10 sg), (k + 6, eN 1024 (va_up lg s (LG (fun t => anN (sg t) cu) s))), (k + 7, eN 1024 (va_up co s (if s &&& (s - 1) = 0 then (0, 0) else ptF lg co (2 ^ tzf 10 s) (s &&& (s - 1)) (2 ^ 30, 0) (s &&& (s - 1))).1)), (k + 8, eN 1024 (va_up fi s (if s &&& (s - 1) = 0 then (0, 0) else ptF lg co (2 ^ tzf 10 s) (s &&& (s - 1)) (2 ^ 30, 0) (s &&& (s - 1))).2))] ∧ n' = nx)) 0 0 (hv_ov h [(k, oK k th (nI c) op sh sp tu gc my sr si so sx), (k + 5, eN 10 sg), (k + 6, eN 1024 (va_up lg s (LG (fun t => anN (sg t) cu) s))), (k + 7, eI 1024 (va_up (fun j => nI (co j)) s (v))), (k + 8, eN 1024 (va_up fi s (ptF lg co (2 ^ tzf 10 s) (s &&& (s - 1)) (2 ^ 30, 0) (a - 2 ^ tzf 10 s)).2))]) nx 86 [some (.ref k), some (.int (nI s)), some (.int (nI cu)), some (.int (nI (2 ^ tzf 10 s))), some (.int (nI a)), none, none] [] := by
    intro hr kk
    induction kk using Nat.strongRecOn with
    | ind kk ih =>
      intro a hkk hi hle v hv
      refine V_iload d_K_findSet_86 rfl ?_
      refine V_iload_n d_K_findSet_88 rfl ?_
      refine V_icmp_geN 203 d_K_findSet_89 (by decide) (by omega) (by omega) (fun ca => ?_) (fun ca => ?_)
      · have ea : a = s := by omega
        subst ea
        exact V_return d_K_findSet_203 rfl ⟨rfl, by
          rcases hv with q | ⟨q1, q2⟩
          · exfalso; omega
          · rw [q2, show a - 2 ^ tzf 10 a = a &&& (a - 1) by omega, if_neg hr, eN_up], rfl⟩
      · have hle2 := hle
        have ha' : a < 1024 := by omega
        refine V_iload d_K_findSet_92 rfl ?_
        refine V_iload_n d_K_findSet_94 rfl ?_
        refine V_iconst (-1) d_K_findSet_95 rfl ?_
        refine V_ixor d_K_findSet_96 ?_
        refine V_iand d_K_findSet_97 ?_
        refine V_eqI (nx_andn a s) ?_
        refine V_if_neN 197 d_K_findSet_98 (by decide) (Nat.lt_of_lt_of_le (anN_lt (n := 10) (by omega)) (by decide)) (fun cs => ?_) (fun cs => ?_)
        · have hp : ¬ (a - 2 ^ tzf 10 s) &&& (s &&& (s - 1)) = a - 2 ^ tzf 10 s := fun q => cs (sub_anN.mpr ((pa_iff hs h0 hle).mpr q).1)
          have PS : ptF lg co (2 ^ tzf 10 s) (s &&& (s - 1)) (2 ^ 30, 0) (a + 1 - 2 ^ tzf 10 s) = ptF lg co (2 ^ tzf 10 s) (s &&& (s - 1)) (2 ^ 30, 0) (a - 2 ^ tzf 10 s) := by rw [show a + 1 - 2 ^ tzf 10 s = a - 2 ^ tzf 10 s + 1 by omega, ptF_s, if_neg hp]
          refine V_iincN_4 1 d_K_findSet_197 rfl rfl ?_
          refine V_goto 86 d_K_findSet_200 (by decide) ?_
          have hv1 : 2 ^ tzf 10 s < a ∧ v = nI (ptF lg co (2 ^ tzf 10 s) (s &&& (s - 1)) (2 ^ 30, 0) (a - 2 ^ tzf 10 s)).1 := by
            rcases hv with q | q
            · exfalso; refine hp ?_; rw [q.1, Nat.sub_self]; exact Nat.zero_and _
            · exact q
          have J := ih (s - (a + 1)) (by omega) (a + 1) rfl (by omega) (by omega) v (Or.inr ⟨by omega, by rw [PS]; exact hv1.2⟩)
          rw [PS] at J
          exact J
        · refine V_iload d_K_findSet_101 rfl ?_
          refine V_iload_n d_K_findSet_103 rfl ?_
          refine V_iandN d_K_findSet_104 ?_
          refine V_if_neN 111 d_K_findSet_105 (by decide) (Nat.lt_of_le_of_lt Nat.and_le_left (by omega)) (fun cl => ?_) (fun cl => ?_)
          · have hp := (pa_iff hs h0 hle).mp ⟨sub_anN.mp cs, cl⟩
            obtain ⟨e1, e2, b1, b2, lx⟩ := pa_eq hs h0 hle ca hp
            have q1 := hq a (by omega) ca
            have q2 := hq (anN s a) (by omega) b1
            have lo := Nat.or_lt_two_pow q1.1 q2.1
            have t20 := two20 lo
            have PS : ptF lg co (2 ^ tzf 10 s) (s &&& (s - 1)) (2 ^ 30, 0) (a + 1 - 2 ^ tzf 10 s) = if co a + co (anN s a) + 2 ^ pc_ (lg a ||| lg (anN s a)) < (ptF lg co (2 ^ tzf 10 s) (s &&& (s - 1)) (2 ^ 30, 0) (a - 2 ^ tzf 10 s)).1 then (co a + co (anN s a) + 2 ^ pc_ (lg a ||| lg (anN s a)), a) else ptF lg co (2 ^ tzf 10 s) (s &&& (s - 1)) (2 ^ 30, 0) (a - 2 ^ tzf 10 s) := by
              rw [show a + 1 - 2 ^ tzf 10 s = a - 2 ^ tzf 10 s + 1 by omega, ptF_s, if_pos hp]
              unfold vx
              rw [e1, e2]
            refine V_iload_n d_K_findSet_111 rfl ?_
            refine V_iload d_K_findSet_112 rfl ?_
            refine V_iconst (-1) d_K_findSet_114 rfl ?_
            refine V_ixor d_K_findSet_115 ?_
            refine V_iand d_K_findSet_116 ?_
            refine V_eqI (nx_andn s a) ?_
            refine V_istore_5 d_K_findSet_117 rfl ?_
            refine V_aload_n d_K_findSet_119 rfl ?_
            refine V_getfield d_K_findSet_120 fl_K_28 (og_0) rfl ?_
            refine V_iload d_K_findSet_123 rfl ?_
            refine V_iaload d_K_findSet_125 (og_3 (by omega) (by omega) (by omega)) ⟨rfl, ha', by decide⟩ ?_
            refine V_eqI (show va_up _ s _ a = nI (co a) from if_neg (by omega)) ?_
            refine V_aload_n d_K_findSet_126 rfl ?_
            refine V_getfield d_K_findSet_127 fl_K_28 (og_0) rfl ?_
            refine V_iload d_K_findSet_130 rfl ?_
            refine V_iaload d_K_findSet_132 (og_3 (by omega) (by omega) (by omega)) ⟨rfl, by omega, by decide⟩ ?_
            refine V_eqI (show va_up _ s _ (anN s a) = nI (co (anN s a)) from if_neg (by omega)) ?_
            refine V_iaddN d_K_findSet_133 ?_
            refine V_iconst (nI 1) d_K_findSet_134 rfl ?_
            refine V_aload_n d_K_findSet_135 rfl ?_
            refine V_getfield d_K_findSet_136 fl_K_25 (og_0) rfl ?_
            refine V_iload d_K_findSet_139 rfl ?_
            refine V_iaload d_K_findSet_141 (og_2 (by omega) (by omega)) ⟨rfl, ha', by decide⟩ ?_
            refine V_eqI (y := nI (lg a)) (congrArg nI (if_neg (by omega))) ?_
            refine V_aload_n d_K_findSet_142 rfl ?_
            refine V_getfield d_K_findSet_143 fl_K_25 (og_0) rfl ?_
            refine V_iload d_K_findSet_146 rfl ?_
            refine V_iaload d_K_findSet_148 (og_2 (by omega) (by omega)) ⟨rfl, by omega, by decide⟩ ?_
            refine V_eqI (y := nI (lg (anN s a))) (congrArg nI (if_neg (by omega))) ?_
            refine V_iorN d_K_findSet_149 ?_
            refine V_callS1 d_K_findSet_150 ml_K_94 mB_K_count ms_K_count (c_K_count l D _ _ (Nat.lt_of_lt_of_le lo (by decide))) rfl rfl rfl rfl rfl rfl rfl ?_
            rintro _ _ ⟨rfl, rfl⟩
            rw [← pc_20 lo]
            refine V_ishlN d_K_findSet_153 (by have := pc_le lo; omega) ?_
            rw [Nat.one_mul]
            refine V_iaddN d_K_findSet_154 ?_
            refine V_istore_6 d_K_findSet_155 rfl ?_
            refine V_aload_n d_K_findSet_157 rfl ?_
            refine V_getfield d_K_findSet_158 fl_K_28 (og_0) rfl ?_
            refine V_iload_n d_K_findSet_161 rfl ?_
            refine V_iaload d_K_findSet_162 (og_3 (by omega) (by omega) (by omega)) ⟨rfl, hs, by decide⟩ ?_
            refine V_eqI (show va_up _ s _ s = v from if_pos rfl) ?_
            refine V_iconst (-1) d_K_findSet_163 rfl ?_
            refine V_icmp_eq 181 d_K_findSet_164 (by decide) (fun cv => ?_) (fun cv => ?_)
            · have hv1 : a = 2 ^ tzf 10 s := by
                rcases hv with q | ⟨q1, q2⟩
                · exact q.1
                · exfalso
                  rw [q2] at cv
                  exact nI_m1 (Nat.lt_of_le_of_lt (ptF_le (B := 2 ^ 30) _) (by decide)) cv
              have PE : ptF lg co (2 ^ tzf 10 s) (s &&& (s - 1)) (2 ^ 30, 0) (a - 2 ^ tzf 10 s) = (2 ^ 30, 0) := by rw [hv1, Nat.sub_self]; rfl
              rw [PE, if_pos (show _ < 2 ^ 30 by omega)] at PS
              refine V_aload_n d_K_findSet_181 rfl ?_
              refine V_getfield d_K_findSet_182 fl_K_28 (og_0) rfl ?_
              refine V_iload_n d_K_findSet_185 rfl ?_
              refine V_iload d_K_findSet_186 rfl ?_
              refine V_ist d_K_findSet_188 (og_3 (by omega) (by omega) (by omega)) ⟨rfl, hs, by decide⟩ (h' := hv_ov h [(k, oK k th (nI c) op sh sp tu gc my sr si so sx), (k + 5, eN 10 sg), (k + 6, eN 1024 (va_up lg s (LG (fun t => anN (sg t) cu) s))), (k + 7, eI 1024 (va_up (fun j => nI (co j)) s (nI (ptF lg co (2 ^ tzf 10 s) (s &&& (s - 1)) (2 ^ 30, 0) (a + 1 - 2 ^ tzf 10 s)).1))), (k + 8, eN 1024 (va_up fi s (ptF lg co (2 ^ tzf 10 s) (s &&& (s - 1)) (2 ^ 30, 0) (a - 2 ^ tzf 10 s)).2))]) (by rw [va_up_up, PS]; exact ou_3 (by omega) (by omega) (by omega)) ?_
              refine V_aload_n d_K_findSet_189 rfl ?_
              refine V_getfield d_K_findSet_190 fl_K_31 (og_0) rfl ?_
              refine V_iload_n d_K_findSet_193 rfl ?_
              refine V_iload d_K_findSet_194 rfl ?_
              refine V_istN d_K_findSet_196 (og_4 (by omega) (by omega) (by omega) (by omega)) ⟨rfl, hs, by decide⟩ (h' := hv_ov h [(k, oK k th (nI c) op sh sp tu gc my sr si so sx), (k + 5, eN 10 sg), (k + 6, eN 1024 (va_up lg s (LG (fun t => anN (sg t) cu) s))), (k + 7, eI 1024 (va_up (fun j => nI (co j)) s (nI (ptF lg co (2 ^ tzf 10 s) (s &&& (s - 1)) (2 ^ 30, 0) (a + 1 - 2 ^ tzf 10 s)).1))), (k + 8, eN 1024 (va_up fi s (ptF lg co (2 ^ tzf 10 s) (s &&& (s - 1)) (2 ^ 30, 0) (a + 1 - 2 ^ tzf 10 s)).2))]) (by rw [va_up_up, PS]; exact ou_4 (by omega) (by omega) (by omega) (by omega)) ?_
              refine V_iincN_4 1 d_K_findSet_197 rfl rfl ?_
              refine V_goto 86 d_K_findSet_200 (by decide) ?_
              refine V_drop_5 ?_
              refine V_drop_6 ?_
              exact ih (s - (a + 1)) (by omega) (a + 1) rfl (by omega) (by omega) _ (Or.inr ⟨by omega, rfl⟩)
            · obtain ⟨hv1, hv2⟩ : 2 ^ tzf 10 s < a ∧ v = nI (ptF lg co (2 ^ tzf 10 s) (s &&& (s - 1)) (2 ^ 30, 0) (a - 2 ^ tzf 10 s)).1 := by
                rcases hv with q | q
                · exact absurd q.2 cv
                · exact q
              refine V_iload d_K_findSet_167 rfl ?_
              refine V_aload_n d_K_findSet_169 rfl ?_
              refine V_getfield d_K_findSet_170 fl_K_28 (og_0) rfl ?_
              refine V_iload_n d_K_findSet_173 rfl ?_
              refine V_iaload d_K_findSet_174 (og_3 (by omega) (by omega) (by omega)) ⟨rfl, hs, by decide⟩ ?_
              refine V_eqI (show va_up _ s _ s = nI (ptF lg co (2 ^ tzf 10 s) (s &&& (s - 1)) (2 ^ 30, 0) (a - 2 ^ tzf 10 s)).1 from (if_pos rfl).trans hv2) ?_
              refine V_icmp_ltN 181 d_K_findSet_175 (by decide) (by omega) (Nat.lt_of_le_of_lt (ptF_le (B := 2 ^ 30) _) (by decide)) (fun cc => ?_) (fun cc => ?_)
              · rw [if_pos cc] at PS
                refine V_aload_n d_K_findSet_181 rfl ?_
                refine V_getfield d_K_findSet_182 fl_K_28 (og_0) rfl ?_
                refine V_iload_n d_K_findSet_185 rfl ?_
                refine V_iload d_K_findSet_186 rfl ?_
                refine V_ist d_K_findSet_188 (og_3 (by omega) (by omega) (by omega)) ⟨rfl, hs, by decide⟩ (h' := hv_ov h [(k, oK k th (nI c) op sh sp tu gc my sr si so sx), (k + 5, eN 10 sg), (k + 6, eN 1024 (va_up lg s (LG (fun t => anN (sg t) cu) s))), (k + 7, eI 1024 (va_up (fun j => nI (co j)) s (nI (ptF lg co (2 ^ tzf 10 s) (s &&& (s - 1)) (2 ^ 30, 0) (a + 1 - 2 ^ tzf 10 s)).1))), (k + 8, eN 1024 (va_up fi s (ptF lg co (2 ^ tzf 10 s) (s &&& (s - 1)) (2 ^ 30, 0) (a - 2 ^ tzf 10 s)).2))]) (by rw [va_up_up, PS]; exact ou_3 (by omega) (by omega) (by omega)) ?_
                refine V_aload_n d_K_findSet_189 rfl ?_
                refine V_getfield d_K_findSet_190 fl_K_31 (og_0) rfl ?_
                refine V_iload_n d_K_findSet_193 rfl ?_
                refine V_iload d_K_findSet_194 rfl ?_
                refine V_istN d_K_findSet_196 (og_4 (by omega) (by omega) (by omega) (by omega)) ⟨rfl, hs, by decide⟩ (h' := hv_ov h [(k, oK k th (nI c) op sh sp tu gc my sr si so sx), (k + 5, eN 10 sg), (k + 6, eN 1024 (va_up lg s (LG (fun t => anN (sg t) cu) s))), (k + 7, eI 1024 (va_up (fun j => nI (co j)) s (nI (ptF lg co (2 ^ tzf 10 s) (s &&& (s - 1)) (2 ^ 30, 0) (a + 1 - 2 ^ tzf 10 s)).1))), (k + 8, eN 1024 (va_up fi s (ptF lg co (2 ^ tzf 10 s) (s &&& (s - 1)) (2 ^ 30, 0) (a + 1 - 2 ^ tzf 10 s)).2))]) (by rw [va_up_up, PS]; exact ou_4 (by omega) (by omega) (by omega) (by omega)) ?_
                refine V_iincN_4 1 d_K_findSet_197 rfl rfl ?_
                refine V_goto 86 d_K_findSet_200 (by decide) ?_
                refine V_drop_5 ?_
                refine V_drop_6 ?_
                exact ih (s - (a + 1)) (by omega) (a + 1) rfl (by omega) (by omega) _ (Or.inr ⟨by omega, rfl⟩)
              · rw [if_neg (Nat.not_lt.mpr cc)] at PS
                refine V_goto 197 d_K_findSet_178 (by decide) ?_
                refine V_iincN_4 1 d_K_findSet_197 rfl rfl ?_
                refine V_goto 86 d_K_findSet_200 (by decide) ?_
                have J := ih (s - (a + 1)) (by omega) (a + 1) rfl (by omega) (by omega) v (Or.inr ⟨by omega, by rw [PS]; exact hv2⟩)
                rw [PS] at J
                refine V_drop_5 ?_
                refine V_drop_6 ?_
                exact J
          · have hp : ¬ (a - 2 ^ tzf 10 s) &&& (s &&& (s - 1)) = a - 2 ^ tzf 10 s := fun q => ((pa_iff hs h0 hle).mpr q).2 cl
            have PS : ptF lg co (2 ^ tzf 10 s) (s &&& (s - 1)) (2 ^ 30, 0) (a + 1 - 2 ^ tzf 10 s) = ptF lg co (2 ^ tzf 10 s) (s &&& (s - 1)) (2 ^ 30, 0) (a - 2 ^ tzf 10 s) := by rw [show a + 1 - 2 ^ tzf 10 s = a - 2 ^ tzf 10 s + 1 by omega, ptF_s, if_neg hp]
            refine V_goto 197 d_K_findSet_108 (by decide) ?_
            refine V_iincN_4 1 d_K_findSet_197 rfl rfl ?_
            refine V_goto 86 d_K_findSet_200 (by decide) ?_
            have hv1 : 2 ^ tzf 10 s < a ∧ v = nI (ptF lg co (2 ^ tzf 10 s) (s &&& (s - 1)) (2 ^ 30, 0) (a - 2 ^ tzf 10 s)).1 := by
              rcases hv with q | q
              · exfalso; refine hp ?_; rw [q.1, Nat.sub_self]; exact Nat.zero_and _
              · exact q
            have J := ih (s - (a + 1)) (by omega) (a + 1) rfl (by omega) (by omega) v (Or.inr ⟨by omega, by rw [PS]; exact hv1.2⟩)
            rw [PS] at J
            exact J
  have lp1 : ∀ (kk i : Nat), kk = c - i → i ≤ c → hv_V l D M_K_findSet (fun _ _ => True) (hv_rm 1 22 0 0) (hv_ans none (fun h' n' => h' = hv_ov h [(k, oK k th (nI c) op sh sp tu gc my sr si so sx), (k + 5, eN 10 sg), (k + 6, eN 1024 (va_up lg s (LG (fun t => anN (sg t) cu) s))), (k + 7, eN 1024 (va_up co s (if s &&& (s - 1) = 0 then (0, 0) else ptF lg co (2 ^ tzf 10 s) (s &&& (s - 1)) (2 ^ 30, 0) (s &&& (s - 1))).1)), (k + 8, eN 1024 (va_up fi s (if s &&& (s - 1) = 0 then (0, 0) else ptF lg co (2 ^ tzf 10 s) (s &&& (s - 1)) (2 ^ 30, 0) (s &&& (s - 1))).2))] ∧ n' = nx)) 0 0 (hv_ov h [(k, oK k th (nI c) op sh sp tu gc my sr si so sx), (k + 5, eN 10 sg), (k + 6, eN 1024 (va_up lg s (LGn (fun t => anN (sg t) cu) s i))), (k + 7, eI 1024 (fun j => nI (co j))), (k + 8, eN 1024 (fi))]) nx 15 [some (.ref k), some (.int (nI s)), some (.int (nI cu)), some (.int (nI (2 ^ tzf 10 s))), some (.int (nI i)), none, none] [] := by
    intro kk
    induction kk using Nat.strongRecOn with
    | ind kk ih =>
      intro i hkk hi
      refine V_iload d_K_findSet_15 rfl ?_
      refine V_aload_n d_K_findSet_17 rfl ?_
      refine V_getfield d_K_findSet_18 fl_K_73 (og_0) rfl ?_
      refine V_icmp_geN 60 d_K_findSet_21 (by decide) (by omega) (by omega) (fun ci => ?_) (fun ci => ?_)
      · have ec : i = c := by omega
        subst ec
        have EL : LGn (fun t => anN (sg t) cu) s i = LG (fun t => anN (sg t) cu) s := by have := LGn_all (l1 := (fun t => anN (sg t) cu)) hsc (10 - i); rw [show i + (10 - i) = 10 by omega] at this; exact this.symm
        rw [EL]
        refine V_aload_n d_K_findSet_60 rfl ?_
        refine V_getfield d_K_findSet_61 fl_K_28 (og_0) rfl ?_
        refine V_iload_n d_K_findSet_64 rfl ?_
        refine V_iload_n d_K_findSet_65 rfl ?_
        refine V_iload_n d_K_findSet_66 rfl ?_
        refine V_icmp_neN 74 d_K_findSet_67 (by decide) (by omega) (by omega) (fun cr => ?_) (fun cr => ?_)
        · have hr : ¬ s &&& (s - 1) = 0 := fun q => cr (by omega)
          refine V_iconst (-1) d_K_findSet_74 rfl ?_
          refine V_ist d_K_findSet_75 (og_3 (by omega) (by omega) (by omega)) ⟨rfl, hs, by decide⟩ (ou_3 (by omega) (by omega) (by omega)) ?_
          refine V_aload_n d_K_findSet_76 rfl ?_
          refine V_getfield d_K_findSet_77 fl_K_31 (og_0) rfl ?_
          refine V_iload_n d_K_findSet_80 rfl ?_
          refine V_iconst (nI 0) d_K_findSet_81 rfl ?_
          refine V_istN d_K_findSet_82 (og_4 (by omega) (by omega) (by omega) (by omega)) ⟨rfl, hs, by decide⟩ (ou_4 (by omega) (by omega) (by omega) (by omega)) ?_
          refine V_iload_n d_K_findSet_83 rfl ?_
          refine V_istore_4 d_K_findSet_84 rfl ?_
          have J := lp2 hr _ (2 ^ tzf 10 s) rfl (by omega) (Nat.le_refl _) (-1) (Or.inl ⟨rfl, rfl⟩)
          rw [Nat.sub_self] at J
          exact J
        · have hr : s &&& (s - 1) = 0 := by omega
          refine V_iconst (nI 0) d_K_findSet_70 rfl ?_
          refine V_goto 75 d_K_findSet_71 (by decide) ?_
          refine V_ist d_K_findSet_75 (og_3 (by omega) (by omega) (by omega)) ⟨rfl, hs, by decide⟩ (ou_3 (by omega) (by omega) (by omega)) ?_
          refine V_aload_n d_K_findSet_76 rfl ?_
          refine V_getfield d_K_findSet_77 fl_K_31 (og_0) rfl ?_
          refine V_iload_n d_K_findSet_80 rfl ?_
          refine V_iconst (nI 0) d_K_findSet_81 rfl ?_
          refine V_istN d_K_findSet_82 (og_4 (by omega) (by omega) (by omega) (by omega)) ⟨rfl, hs, by decide⟩ (ou_4 (by omega) (by omega) (by omega) (by omega)) ?_
          refine V_iload_n d_K_findSet_83 rfl ?_
          refine V_istore_4 d_K_findSet_84 rfl ?_
          refine V_iload d_K_findSet_86 rfl ?_
          refine V_iload_n d_K_findSet_88 rfl ?_
          refine V_icmp_geN 203 d_K_findSet_89 (by decide) (by omega) (by omega) (fun _ => ?_) (fun q => by exfalso; omega)
          exact V_return d_K_findSet_203 rfl ⟨rfl, by rw [if_pos hr, eN_up], rfl⟩
      · refine V_iload_n d_K_findSet_24 rfl ?_
        refine V_iload d_K_findSet_25 rfl ?_
        refine V_ishrN d_K_findSet_27 (by omega) (by omega) ?_
        refine V_iconst (nI 1) d_K_findSet_28 rfl ?_
        refine V_iandN d_K_findSet_29 ?_
        refine V_iconst (nI 1) d_K_findSet_30 rfl ?_
        refine V_icmp_neN 54 d_K_findSet_31 (by decide) (Nat.lt_of_le_of_lt Nat.and_le_right (by decide)) (by decide) (fun cb => ?_) (fun cb => ?_)
        · have E : LGn (fun t => anN (sg t) cu) s (i + 1) = LGn (fun t => anN (sg t) cu) s i := by simp only [LGn]; rw [if_neg (fun q => cb (hv_bit_eq.mpr q)), Nat.xor_zero]
          have J := ih (c - (i + 1)) (by omega) (i + 1) rfl (by omega)
          rw [E] at J
          refine V_iincN_4 1 d_K_findSet_54 rfl rfl ?_
          refine V_goto 15 d_K_findSet_57 (by decide) ?_
          exact J
        · have E : LGn (fun t => anN (sg t) cu) s (i + 1) = LGn (fun t => anN (sg t) cu) s i ^^^ anN (sg i) cu := by simp only [LGn]; rw [if_pos (hv_bit_eq.mp cb)]
          have J := ih (c - (i + 1)) (by omega) (i + 1) rfl (by omega)
          refine V_aload_n d_K_findSet_34 rfl ?_
          refine V_getfield d_K_findSet_35 fl_K_25 (og_0) rfl ?_
          refine V_iload_n d_K_findSet_38 rfl ?_
          refine V_dup2 d_K_findSet_39 rfl rfl ?_
          refine V_iaload d_K_findSet_40 (og_2 (by omega) (by omega)) ⟨rfl, hs, by decide⟩ ?_
          refine V_eqI (y := nI (LGn (fun t => anN (sg t) cu) s i)) (congrArg nI (if_pos rfl)) ?_
          refine V_aload_n d_K_findSet_41 rfl ?_
          refine V_getfield d_K_findSet_42 fl_K_22 (og_0) rfl ?_
          refine V_iload d_K_findSet_45 rfl ?_
          refine V_iaload d_K_findSet_47 (og_1 (by omega)) ⟨rfl, by omega, by decide⟩ ?_
          refine V_iload_n d_K_findSet_48 rfl ?_
          refine V_iconst (-1) d_K_findSet_49 rfl ?_
          refine V_ixor d_K_findSet_50 ?_
          refine V_iand d_K_findSet_51 ?_
          refine V_eqI (nx_andn (sg i) cu) ?_
          refine V_ixorN d_K_findSet_52 ?_
          refine V_istN d_K_findSet_53 (og_2 (by omega) (by omega)) ⟨rfl, hs, by decide⟩ (h' := hv_ov h [(k, oK k th (nI c) op sh sp tu gc my sr si so sx), (k + 5, eN 10 sg), (k + 6, eN 1024 (va_up lg s (LGn (fun t => anN (sg t) cu) s (i + 1)))), (k + 7, eI 1024 (fun j => nI (co j))), (k + 8, eN 1024 (fi))]) (by rw [va_up_up, E]; exact ou_2 (by omega) (by omega)) ?_
          refine V_iincN_4 1 d_K_findSet_54 rfl rfl ?_
          refine V_goto 15 d_K_findSet_57 (by decide) ?_
          exact J
  refine hv_N.of' [some (.ref k), some (.int (nI s)), some (.int (nI cu)), none, none, none, none] (by decide +kernel) rfl rfl rfl ?_
  refine V_eqH (ob_5 hk hsg hl hco hf) ?_
  refine V_iload_n d_K_findSet_0 rfl ?_
  refine V_iload_n d_K_findSet_1 rfl ?_
  refine V_ineg d_K_findSet_2 ?_
  refine V_iand d_K_findSet_3 ?_
  refine V_eqI (lo_bit s hs h0) ?_
  refine V_istore_3 d_K_findSet_4 rfl ?_
  refine V_aload_n d_K_findSet_5 rfl ?_
  refine V_getfield d_K_findSet_6 fl_K_25 (og_0) rfl ?_
  refine V_iload_n d_K_findSet_9 rfl ?_
  refine V_iconst (nI 0) d_K_findSet_10 rfl ?_
  refine V_istN d_K_findSet_11 (og_2 (by omega) (by omega)) ⟨rfl, hs, by decide⟩ (ou_2 (by omega) (by omega)) ?_
  refine V_iconst (nI 0) d_K_findSet_12 rfl ?_
  refine V_istore_4 d_K_findSet_13 rfl ?_
  exact lp1 _ 0 rfl (Nat.zero_le _)

def ksOK (l1 : Nat → Nat) (s : Nat) (lg co fi : Nat → Nat) : Prop := ∀ q, 1 ≤ q → q < s → lg q = LG l1 q ∧ co q = CO l1 q ∧ fi q = FI l1 q
theorem ksOK_s {l1 : Nat → Nat} {c s : Nat} {lg co fi : Nat → Nat} (hc : c ≤ 10) (h0 : s ≠ 0) (hs : s < 2 ^ c) (h : ksOK l1 s lg co fi) : ksOK l1 (s + 1) (va_up lg s (LG l1 s)) (va_up co s (if s &&& (s - 1) = 0 then (0, 0) else ptF lg co (2 ^ tzf 10 s) (s &&& (s - 1)) (2 ^ 30, 0) (s &&& (s - 1))).1) (va_up fi s (if s &&& (s - 1) = 0 then (0, 0) else ptF lg co (2 ^ tzf 10 s) (s &&& (s - 1)) (2 ^ 30, 0) (s &&& (s - 1))).2) := by
  have h10 : (2 : Nat) ^ c ≤ 2 ^ 10 := Nat.pow_le_pow_right (by decide) hc
  intro q q1 q2
  by_cases e : q = s
  · subst e
    simp only [va_up, if_true]
    by_cases r : q &&& (q - 1) = 0
    · obtain ⟨a, b⟩ := CO_one (l1 := l1) h0 r
      rw [if_pos r, a, b]
      exact ⟨trivial, rfl, rfl⟩
    · rw [if_neg r]
      have e1 := CO_eq (l1 := l1) (by omega) h0 r
      have e2 : ptF lg co (2 ^ tzf 10 q) (q &&& (q - 1)) (2 ^ 30, 0) (q &&& (q - 1)) = ptF (LG l1) (CO l1) (2 ^ tzf 10 q) (q &&& (q - 1)) (2 ^ 30, 0) (q &&& (q - 1)) := by
        refine ptF_congr _ (fun x hx hq => ?_)
        obtain ⟨p1, p2, p3, p4, p5, p6, p7⟩ := part_facts (by omega) h0 hq hx
        unfold vx
        rw [(h _ p3 p4).1, (h _ p3 p4).2.1, (h _ p5 p6).1, (h _ p5 p6).2.1]
      rw [e2, ← e1]
      exact ⟨trivial, rfl, rfl⟩
  · simp only [va_up, if_neg e]
    exact h q q1 (by omega)
theorem ksOK_b {l1 : Nat → Nat} {c s : Nat} {lg co fi : Nat → Nat} (hc : c ≤ 10) (hl : ∀ t, t < c → l1 t < 2 ^ 20) (hs : s ≤ 2 ^ c) (h : ksOK l1 s lg co fi) : ∀ q, 1 ≤ q → q < s → lg q < 2 ^ 20 ∧ co q ≤ 2 ^ 26 := by
  intro q q1 q2
  have p : pc_ q ≤ 10 := by rw [show pc_ q = pc_n q 10 from pc_n_lt (n := 10) (Nat.lt_of_lt_of_le (show q < 2 ^ c by omega) (Nat.pow_le_pow_right (by decide) hc)) 22]; exact pc_n_le q 10
  have := CO_le hl hc q (by omega) (by omega)
  have : pc_ q * 2 ^ 20 ≤ 10 * 2 ^ 20 := Nat.mul_le_mul_right _ p
  rw [(h q q1 q2).1, (h q q1 q2).2.1]
  exact ⟨LGn_lt hl (show q < 2 ^ c by omega) 10, by omega⟩
set_option maxRecDepth 100000 in
set_option maxHeartbeats 4000000 in
theorem c_K_findOrder (l : Launch) (D : hv_D) (h : hv_P) (nx : Nat) {k c : Nat} {th op sh sp tu gc my so sx : Int32} {sr si : Int64} (hk : h k = some (oK k th (nI c) op sh sp tu gc my sr si so sx)) {cu : Nat} {sg lg0 co0 fi0 : Nat → Nat} (hsg : h (k + 5) = some (eN 10 sg)) (hl : h (k + 6) = some (eN 1024 lg0)) (hco : h (k + 7) = some (eN 1024 co0)) (hf : h (k + 8) = some (eN 1024 fi0)) (hc : c ≤ 10) (hsl : ∀ t, t < c → sg t < 2 ^ 20) : hv_N l D M_K_findOrder (hv_rm 2 48 0 0) [.ref k, .int (nI cu)] h nx (hv_ans none (fun h' n' => n' = nx ∧ ∃ lg' co' fi' : Nat → Nat, h' = hv_ov h [(k, oK k th (nI c) op sh sp tu gc my sr si so sx), (k + 5, eN 10 sg), (k + 6, eN 1024 lg'), (k + 7, eN 1024 co'), (k + 8, eN 1024 fi')] ∧ ksOK (fun t => anN (sg t) cu) (2 ^ c) lg' co' fi')) := by
  have hp := Nat.two_pow_pos c
  have h10 : (2 : Nat) ^ c ≤ 2 ^ 10 := Nat.pow_le_pow_right (by decide) hc
  have hl1 : ∀ t, t < c → (fun t => anN (sg t) cu) t < 2 ^ 20 := fun t ht => anN_lt (hsl t ht)
  have lp : ∀ (kk s : Nat), kk = (2 ^ c) - s → s ≤ (2 ^ c) → 1 ≤ s → ∀ lg co fi : Nat → Nat, ksOK (fun t => anN (sg t) cu) s lg co fi → hv_V l D M_K_findOrder (fun _ _ => True) (hv_rm 2 48 0 0) (hv_ans none (fun h' n' => n' = nx ∧ ∃ lg' co' fi' : Nat → Nat, h' = hv_ov h [(k, oK k th (nI c) op sh sp tu gc my sr si so sx), (k + 5, eN 10 sg), (k + 6, eN 1024 lg'), (k + 7, eN 1024 co'), (k + 8, eN 1024 fi')] ∧ ksOK (fun t => anN (sg t) cu) (2 ^ c) lg' co' fi')) 0 0 (hv_ov h [(k, oK k th (nI c) op sh sp tu gc my sr si so sx), (k + 5, eN 10 sg), (k + 6, eN 1024 lg), (k + 7, eN 1024 co), (k + 8, eN 1024 fi)]) nx 2 [some (.ref k), some (.int (nI cu)), some (.int (nI s))] [] := by
    intro kk
    induction kk using Nat.strongRecOn with
    | ind kk ih =>
      intro s hkk hi hs1 lg co fi hok
      refine V_iload_n d_K_findOrder_2 rfl ?_
      refine V_aload_n d_K_findOrder_3 rfl ?_
      refine V_callV1 d_K_findOrder_4 ml_K_98 mB_K_all mi_K_all mv_K_all rfl og_0 (c_K_all l D _ _ og_0 hc) rfl rfl rfl rfl rfl rfl rfl ?_
      rintro _ _ ⟨rfl, rfl⟩
      refine V_icmp_gtN 22 d_K_findOrder_7 (by decide) (by omega) (by omega) (fun cs => ?_) (fun cs => ?_)
      · exact V_return d_K_findOrder_22 rfl ⟨rfl, rfl, lg, co, fi, rfl, by rw [← show s = 2 ^ c by omega]; exact hok⟩
      · refine V_aload_n d_K_findOrder_10 rfl ?_
        refine V_iload_n d_K_findOrder_11 rfl ?_
        refine V_iload_n d_K_findOrder_12 rfl ?_
        refine V_callV0 d_K_findOrder_13 ml_K_102 mB_K_findSet mi_K_findSet mv_K_findSet rfl og_0 (c_K_findSet l D _ _ og_0 (og_1 (by omega)) (og_2 (by omega) (by omega)) (og_3 (by omega) (by omega) (by omega)) (og_4 (by omega) (by omega) (by omega) (by omega)) hc (by omega) (by omega) (ksOK_b hc hl1 (by omega) hok)) rfl rfl rfl rfl rfl rfl rfl ?_
        rintro _ _ ⟨rfl, rfl⟩
        rw [ox_5, ou_4 (by omega) (by omega) (by omega) (by omega), ou_3 (by omega) (by omega) (by omega), ou_2 (by omega) (by omega), ou_1 (by omega), ou_0]
        refine V_iincN_2 1 d_K_findOrder_16 rfl rfl ?_
        refine V_goto 2 d_K_findOrder_19 (by decide) ?_
        exact ih (2 ^ c - (s + 1)) (by omega) (s + 1) rfl (by omega) (by omega) _ _ _ (ksOK_s hc (by omega) (by omega) hok)
  refine hv_N.of' [some (.ref k), some (.int (nI cu)), none] (by decide +kernel) rfl rfl rfl ?_
  refine V_eqH (ob_5 hk hsg hl hco hf) ?_
  refine V_iconst (nI 1) d_K_findOrder_0 rfl ?_
  refine V_istore_2 d_K_findOrder_1 rfl ?_
  exact lp _ 1 rfl (by omega) (Nat.le_refl _) _ _ _ (fun q a b => by omega)
