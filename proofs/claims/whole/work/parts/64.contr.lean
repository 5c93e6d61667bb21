-- THE CLASS: contracted
theorem sP_cg {F G : Nat → Nat} : ∀ i, (∀ k, k < i → F k = G k) → sP F i = sP G i
  | 0, _ => rfl
  | i + 1, h => by simp only [sP, sP_cg i (fun k hk => h k (by omega)), h i (by omega)]
theorem sP_b {F : Nat → Nat} {m : Nat} : ∀ i, (∀ k, k < i → pc_ (F k) ≤ m) → sP F i ≤ i * 2 ^ m
  | 0, _ => by simp [sP]
  | i + 1, h => by
    have := sP_b i (fun k hk => h k (by omega))
    have : 2 ^ pc_ (F i) ≤ 2 ^ m := Nat.pow_le_pow_right (by decide) (h i (by omega))
    simp only [sP]
    rw [Nat.add_mul]
    omega
theorem sP_mono {F : Nat → Nat} {i j : Nat} (h : i ≤ j) : sP F i ≤ sP F j := by
  obtain ⟨k, rfl⟩ := Nat.exists_eq_add_of_le h
  clear h
  induction k with
  | zero => exact Nat.le_refl _
  | succ k ih => exact Nat.le_trans ih (Nat.le_add_right _ _)
/-- how long the rows must be -/
def ndF (c : Nat) (pl : Nat → Nat) (la : Nat → Option Nat) : Nat := sP (fun k => BS c pl la (2 ^ k)) c + sP (fun k => BS c pl la (MD (LC pl la 0) c k)) (c - 1)
theorem szL_sP {c : Nat} {pl : Nat → Nat} {la : Nat → Option Nat} : ∀ L : List Nat, szL c pl la L = sP (fun k => BS c pl la (L.reverse.getD k 0)) L.length
  | [] => rfl
  | X :: r => by
    simp only [szL, List.length_cons, sP, List.reverse_cons]
    rw [szL_sP r]
    have e := gD_r (x := r.reverse) (y := [X]) (k := 0)
    rw [Nat.add_zero, List.length_reverse] at e
    rw [e, sP_cg (F := fun k => BS c pl la ((r.reverse ++ [X]).getD k 0)) (G := fun k => BS c pl la (r.reverse.getD k 0)) r.length (fun k hk => by show BS c pl la ((r.reverse ++ [X]).getD k 0) = _; rw [gD_l (by simpa using hk)])]
    exact Nat.add_comm _ _
theorem pc_xor {a b : Nat} : ∀ n, pc_n (a ^^^ b) n ≤ pc_n a n + pc_n b n
  | 0 => Nat.le_refl _
  | n + 1 => by
    have := pc_xor (a := a) (b := b) n
    simp only [pc_n, Nat.testBit_xor]
    cases a.testBit n <;> cases b.testBit n <;> simp <;> omega
theorem pc_ob {o : Option Nat} : pc_ (ob_ o) ≤ 1 := by
  cases o with
  | none =>
    show pc_n 0 32 ≤ 1
    rw [pc_n_0]
    omega
  | some k =>
    show pc_n (2 ^ k) 32 ≤ 1
    have key : ∀ n, pc_n (2 ^ k) n ≤ if k < n then 1 else 0 := by
      intro n
      induction n with
      | zero => simp [pc_n]
      | succ n ih =>
        simp only [pc_n, Nat.testBit_two_pow]
        by_cases e : k = n
        · subst e; simp at ih ⊢; omega
        · by_cases d : k < n
          · simp [d, e, show k < n + 1 by omega] at ih ⊢; omega
          · simp [d, e, show ¬ k < n + 1 by omega] at ih ⊢; omega
    have := key 32
    split at this <;> omega
theorem pc_lgx {g : Nat → Option Nat} : ∀ p, pc_ (lgx g p) ≤ p
  | 0 => by
    show pc_n 0 32 ≤ 0
    rw [pc_n_0]
    exact Nat.le_refl _
  | p + 1 => by
    have a1 : pc_n (lgx g p) 32 ≤ p := pc_lgx (g := g) p
    have a2 := pc_xor (a := lgx g p) (b := ob_ (g p)) 32
    have a3 : pc_n (ob_ (g p)) 32 ≤ 1 := pc_ob (o := g p)
    show pc_n (lgx g p ^^^ ob_ (g p)) 32 ≤ p + 1
    omega
theorem pc_anN {a b : Nat} : pc_ (anN a b) ≤ pc_ a := pc_n_mono (fun i hi => by rw [anN_bit, Bool.and_eq_true] at hi; exact hi.1) 32
theorem nd_le {c : Nat} {pl : Nat → Nat} {la : Nat → Option Nat} (hN : netOK c pl la) (hc1 : 1 ≤ c) (hk : PK (LC pl la 0) c ≤ 12) : ndF c pl la ≤ 37504 := by
  have hc := hN.1
  have a := sP_b (F := fun k => BS c pl la (2 ^ k)) (m := 6) c (fun k hk => by
    refine Nat.le_trans pc_anN ?_
    rw [LG, LGn_one, if_pos (by omega)]
    exact Nat.le_trans (pc_lgx _) (hN.2.1 k hk))
  have b := sP_b (F := fun k => BS c pl la (MD (LC pl la 0) c k)) (m := 12) (c - 1) (fun k hk' => by
    refine Nat.le_trans pc_anN ?_
    have z := ((mlB_iff _).mp hk).2 k hk'
    rw [LC_0] at z
    rw [LC_0]
    exact z)
  unfold ndF
  have e1 : (2 : Nat) ^ 6 = 64 := rfl
  have e2 : (2 : Nat) ^ 12 = 4096 := rfl
  rw [e1] at a
  rw [e2] at b
  omega
theorem tz_pw : ∀ i, i < 10 → tzf 10 (2 ^ i) = i := by decide +kernel
theorem tz_al : ∀ c, c ≤ 10 → 1 ≤ c → tzf 10 (2 ^ c - 1) = 0 := by decide +kernel
theorem BS_all {c : Nat} {pl : Nat → Nat} {la : Nat → Option Nat} (hN : netOK c pl la) : BS c pl la (2 ^ c - 1) = 0 := by
  have hc := hN.1
  apply Nat.eq_of_testBit_eq
  intro n
  rw [BS_bit, Nat.zero_testBit, show cs pl la (2 ^ c - 1) n = CT c pl la n from by show csn pl la _ n 10 = _; rw [csn_all, show min c 10 = c by omega]]
  have := hN.2.2.2.1 n
  refine decide_eq_false (fun q => ?_)
  omega
theorem TB_all {c : Nat} {pl : Nat → Nat} {la : Nat → Option Nat} {re im : Nat → Int32} {so sx : Int32} {om : Nat} (hN : netOK c pl la) : TB c pl la re im so sx (2 ^ c - 1) om = VV c pl la re im so sx om := by
  have hc := hN.1
  have e : IS pl la (2 ^ c - 1) = SHR c pl la := by
    apply Nat.eq_of_testBit_eq
    intro n
    rw [IS_bit, SHR_bit, show cs pl la (2 ^ c - 1) n = CT c pl la n from by show csn pl la _ n 10 = _; rw [csn_all, show min c 10 = c by omega]]
    have := hN.2.2.2.1 n
    by_cases h20 : n < 20
    · by_cases q : CT c pl la n = 2
      · rw [decide_eq_true ⟨h20, q⟩, decide_eq_true (by omega)]
      · rw [decide_eq_false (fun w => q w.2), decide_eq_false (by omega)]
    · have z := bit20 (SHR_lt hN) (show 20 ≤ n by omega)
      rw [SHR_bit] at z
      rw [z, decide_eq_false (fun w => h20 w.1)]
  unfold TB VV
  rw [e]
  refine Sn_congr (fun y _ _ => prT_congr c (fun t ht => ?_) (fun _ _ _ => rfl))
  show (2 ^ c - 1).testBit t = true
  rw [Nat.testBit_two_pow_sub_one]
  exact decide_eq_true ht
theorem spr_sub {w S : Nat} : (sprF w S 20).1 &&& S = (sprF w S 20).1 ∧ (sprF w S 20).1 < 2 ^ 20 := by
  constructor
  · refine sub_of_bits (fun i hb => ?_)
    rw [spr_bit] at hb
    simp at hb
    exact hb.2.1
  · refine Nat.lt_pow_two_of_testBit _ (fun i hi => ?_)
    rw [spr_bit]
    simp [show ¬ i < 20 by omega]
theorem vu_self {α : Type} {f : Nat → α} {k : Nat} : va_up f k (f k) = f := by
  funext j
  by_cases e : j = k
  · rw [e, vu_s]
  · rw [vu_n e]
def nFr2 (b : Nat) (h h' : hv_P) : Prop := ∀ q, q < b ∨ (b + 69 < q ∧ q < b + 91) → h' q = h q
/-- which entry stands alone: none, or one of a tensor -/
def soOK (c : Nat) (pl : Nat → Nat) (so sx : Int32) : Prop := (so = -1 ∧ sx = -1) ∨ ∃ t x, t < c ∧ x < 2 ^ pl t ∧ so = nI t ∧ sx = nI x
/-- the rows' length behind a call that wants nd -/
def gN (n nd : Nat) : Nat := if n < nd then max nd (2 * n) else n
set_option maxRecDepth 100000 in
set_option maxHeartbeats 4000000 in
theorem contr_tail (l : Launch) (D : hv_D) {hB : hv_P} {nx b rr N c w : Nat} {ap z wk lk so sx part : Int32} {pl : Nat → Nat} {la : Nat → Option Nat} {re im : Nat → Int32} {lg co fi md : Nat → Nat} {ac ml : Nat} {st bd : Nat → Nat} {f1 f2 : Nat → Int64} {ac' ml' : Int32} (cc ss : Nat) (hN : netOK c pl la) (hr : RDY c pl la = true) (hso : soOK c pl so sx) (hb : hB b = some (oN b (nI c) ap z wk lk)) (hTB : tS hB b pl la re im) (y0 : hB (b + 45) = some (oO (b + 45) ac' ml')) (y3 : hB (b + 48) = some (eN 1024 fi)) (y4 : hB (b + 49) = some (eN 10 md)) (hord : ordOK (LC pl la 0) c lg co fi md ac ml) (hrr : b + 67 < rr) (hNn : N < 100000) (hnd : ndF c pl la ≤ N) (hj : jS hB hB (b + 62) rr N (nI (OPN c pl la)) 0 st bd f1 f2) (hbd : ∀ t, t < c → bd t = BS c pl la (2 ^ t)) (hz : ∀ x, x < ndF c pl la → (f1 x, f2 x) = c0_) {Q : hv_R → hv_P → Nat → Prop} (HQ : ∀ (h' : hv_P) (us' : Nat) (st' bd' : Nat → Nat) (g1 g2 : Nat → Int64), (∀ q, q < b + 62 ∨ (b + 67 < q ∧ q ≠ rr ∧ q ≠ rr + 1) → h' q = hB q) → jS hB h' (b + 62) rr N (nI (OPN c pl la)) us' st' bd' g1 g2 → Q (.inl (some (.long (if part = 0 then (VV c pl la re im so sx (sprF w (OPN c pl la) 20).1).1 else (VV c pl la re im so sx (sprF w (OPN c pl la) 20).1).2)))) h' nx) : hv_V l D M_N_contracted (fun _ _ => True) (hv_rm 5 126 cc ss) Q 0 0 hB nx 39 [some (.ref b), some (.int so), some (.int sx), some (.int (nI w)), some (.int part), some (.int (nI (OPN c pl la))), some (.int (nI (sprF w (OPN c pl la) 20).1)), some (.ref (b + 45)), some (.int (nI (0)))] [] := by
  have hc := hN.1
  have hc1 := RDY_c hr
  have hnm := named_of hN hr
  have SZ : szL c pl la (pv (FI (LC pl la 0)) 10 (2 ^ c - 1)) = sP (fun k => BS c pl la (MD (LC pl la 0) c k)) (c - 1) := by
    obtain ⟨-, -, hg, -⟩ := hord
    have hlen : (pv (FI (LC pl la 0)) 10 (2 ^ c - 1)).length = c - 1 := by
      have := pv_len hg
      rw [pc_all c hc] at this
      omega
    rw [szL_sP, hlen]
    refine sP_cg _ (fun k hk => ?_)
    unfold MD
    rw [List.getD_eq_getElem?_getD, List.getD_eq_getElem?_getD, List.getElem?_reverse (by omega), hlen]
    congr 3
  have lp : ∀ (kk i : Nat), kk = c - i → i ≤ c → ∀ (h2 : hv_P) (st bd : Nat → Nat) (f1 f2 : Nat → Int64), jS hB h2 (b + 62) rr N (nI (OPN c pl la)) (sP (fun k => BS c pl la (2 ^ k)) (i)) st bd f1 f2 → (∀ t, t < c → bd t = BS c pl la (2 ^ t)) → (∀ x, (sP (fun k => BS c pl la (2 ^ k)) (i)) ≤ x → x < ndF c pl la → (f1 x, f2 x) = c0_) → (∀ t, t < i → alv c pl la re im so sx (sprF w (OPN c pl la) 20).1 st bd f1 f2 ((sP (fun k => BS c pl la (2 ^ k)) (i))) (2 ^ t)) → hv_V l D M_N_contracted (fun _ _ => True) (hv_rm 5 126 cc ss) (Q) 0 0 (h2) nx 39 [some (.ref b), some (.int so), some (.int sx), some (.int (nI w)), some (.int part), some (.int (nI (OPN c pl la))), some (.int (nI (sprF w (OPN c pl la) 20).1)), some (.ref (b + 45)), some (.int (nI (i)))] [] := by
    intro kk
    induction kk using Nat.strongRecOn with
    | ind kk ih =>
      intro i hkk hi h2 st bd f1 f2 hj hbd hz hal
      have hj0 := hj
      obtain ⟨j0, j1, j2, ⟨m1, jm1⟩, ⟨m2, jm2⟩, ⟨m3, jm3⟩, j6, j7, j8⟩ := hj
      refine V_iload d_N_contracted_39 rfl ?_
      refine V_aload_n d_N_contracted_41 rfl ?_
      refine V_getfield d_N_contracted_42 fl_N_53 ((j8 b (by omega) (by omega) (by omega)).trans hb) rfl ?_
      refine V_icmp_geN 83 d_N_contracted_45 (by decide) (by omega) (by omega) (fun ci => ?_) (fun ci => ?_)
      · have ei : c = i := by omega
        subst ei
        refine V_aload_n d_N_contracted_83 rfl ?_
        refine V_getfield d_N_contracted_84 fl_N_46 ((j8 b (by omega) (by omega) (by omega)).trans hb) rfl ?_
        refine V_aload d_N_contracted_87 rfl ?_
        refine V_aload_n d_N_contracted_89 rfl ?_
        refine V_getfield d_N_contracted_90 fl_N_53 ((j8 b (by omega) (by omega) (by omega)).trans hb) rfl ?_
        refine V_callV0 d_N_contracted_93 ml_N_227 mB_C_joinAll mi_C_joinAll mv_C_joinAll rfl j0 (c_C_joinAll l D _ _ (re := re) (im := im) (so := so) (sx := sx) (om := (sprF w (OPN c pl la) 20).1) (a := b + 62) (oa := b + 45) (nd := ndF c pl la) (us := (sP (fun k => BS c pl la (2 ^ k)) (c))) hN spr_sub.1 ((j8 (b + 45) (by omega) (by omega) (by omega)).trans y0) ((j8 (b + 48) (by omega) (by omega) (by omega)).trans y3) ((j8 (b + 49) (by omega) (by omega) (by omega)).trans y4) (by omega) (by omega) hNn hnd hc1 hord ⟨j0, j1, j2, ⟨m1, jm1⟩, ⟨m2, jm2⟩, ⟨m3, jm3⟩, j6, j7, fun q _ _ _ => rfl⟩ (by rw [← LC_0, SZ]; unfold ndF; omega) hz hal) rfl rfl rfl rfl rfl rfl rfl ?_
        rintro h5 _ ⟨rfl, us5, st5, bd5, f5, g5, jj, us5l, al5⟩
        obtain ⟨k0, k1, k2, km1, km2, km3, k6, k7, k8⟩ := jj
        obtain ⟨al1, al2, al3, al4⟩ := al5
        rw [tz_al c hN.1 hc1, BS_all hN] at al3 al4
        have p0 : st5 0 < N := by have := Nat.two_pow_pos (pc_ 0); omega
        have AV := al4 0
        rw [Nat.and_zero, Nat.zero_or, TB_all hN, show (gatF 0 0 20).1 = 0 from gat_0 20, Nat.add_zero] at AV
        have A1 : f5 (st5 0) = (VV c pl la re im so sx (sprF w (OPN c pl la) 20).1).1 := congrArg Prod.fst AV
        have A2 : g5 (st5 0) = (VV c pl la re im so sx (sprF w (OPN c pl la) 20).1).2 := congrArg Prod.snd AV
        have FR5 : ∀ q, q < b + 62 ∨ (b + 67 < q ∧ q ≠ rr ∧ q ≠ rr + 1) → h5 q = hB q := fun q hq => (k8 q (by omega) (by omega) (by omega)).trans (j8 q (by omega) (by omega) (by omega))
        have kb : h5 b = _ := (FR5 b (by omega)).trans hb
        refine V_iload d_N_contracted_96 rfl ?_
        refine V_if_ne 111 d_N_contracted_98 (by decide) (fun c98 => ?_) (fun c98 => ?_)
        · refine V_aload_n d_N_contracted_111 rfl ?_
          refine V_getfield d_N_contracted_112 fl_N_46 kb rfl ?_
          refine V_callV1 d_N_contracted_115 ml_N_233 mB_C_resultImaginary mi_C_resultImaginary mv_C_resultImaginary rfl k0 (c_C_resultImaginary l D _ _ (nd := 0) k0 k6 k7 ⟨by omega, by omega⟩ hNn k1 p0) rfl rfl rfl rfl rfl rfl rfl ?_
          rintro h8 n8 ⟨e8, e9⟩
          have e8 := e8.symm
          have e9 := e9.symm
          subst e8
          subst e9
          exact V_lreturn d_N_contracted_118 rfl (by
    have HH := HQ h5 us5 st5 bd5 f5 g5 FR5 ⟨k0, k1, k2, km1, km2, km3, k6, k7, fun q q1 q2 q3 => (k8 q q1 q2 q3).trans (j8 q q1 q2 q3)⟩
    rw [if_neg c98, ← A2] at HH
    exact HH)
        · refine V_aload_n d_N_contracted_101 rfl ?_
          refine V_getfield d_N_contracted_102 fl_N_46 kb rfl ?_
          refine V_callV1 d_N_contracted_105 ml_N_229 mB_C_resultReal mi_C_resultReal mv_C_resultReal rfl k0 (c_C_resultReal l D _ _ (nd := 0) k0 k6 k7 ⟨by omega, by omega⟩ hNn k1 p0) rfl rfl rfl rfl rfl rfl rfl ?_
          rintro h8 n8 ⟨e8, e9⟩
          have e8 := e8.symm
          have e9 := e9.symm
          subst e8
          subst e9
          refine V_goto 118 d_N_contracted_108 (by decide) ?_
          exact V_lreturn d_N_contracted_118 rfl (by
    have HH := HQ h5 us5 st5 bd5 f5 g5 FR5 ⟨k0, k1, k2, km1, km2, km3, k6, k7, fun q q1 q2 q3 => (k8 q q1 q2 q3).trans (j8 q q1 q2 q3)⟩
    rw [if_pos c98, ← A1] at HH
    exact HH)
      · have USI : (sP (fun k => BS c pl la (2 ^ k)) (i)) + 2 ^ pc_ (BS c pl la (2 ^ i)) ≤ N := by
          have e1 : (sP (fun k => BS c pl la (2 ^ k)) (i + 1)) ≤ (sP (fun k => BS c pl la (2 ^ k)) (c)) := sP_mono (by omega)
          have e2 : (sP (fun k => BS c pl la (2 ^ k)) (i + 1)) = (sP (fun k => BS c pl la (2 ^ k)) (i)) + 2 ^ pc_ (BS c pl la (2 ^ i)) := rfl
          unfold ndF at hnd
          omega
        have USD : (sP (fun k => BS c pl la (2 ^ k)) (i)) + 2 ^ pc_ (BS c pl la (2 ^ i)) ≤ ndF c pl la := by
          have e1 : (sP (fun k => BS c pl la (2 ^ k)) (i + 1)) ≤ (sP (fun k => BS c pl la (2 ^ k)) (c)) := sP_mono (by omega)
          have e2 : (sP (fun k => BS c pl la (2 ^ k)) (i + 1)) = (sP (fun k => BS c pl la (2 ^ k)) (i)) + 2 ^ pc_ (BS c pl la (2 ^ i)) := rfl
          unfold ndF
          omega
        refine V_aload_n d_N_contracted_48 rfl ?_
        refine V_getfield d_N_contracted_49 fl_N_46 ((j8 b (by omega) (by omega) (by omega)).trans hb) rfl ?_
        refine V_iload d_N_contracted_52 rfl ?_
        refine V_aload_n d_N_contracted_54 rfl ?_
        refine V_getfield d_N_contracted_55 fl_N_11 ((j8 b (by omega) (by omega) (by omega)).trans hb) rfl ?_
        refine V_iload d_N_contracted_58 rfl ?_
        refine V_aaload d_N_contracted_60 ((j8 (b + 1) (by omega) (by omega) (by omega)).trans hTB.1) rfl ⟨rfl, by omega, by decide⟩ rfl ?_
        refine V_iload d_N_contracted_61 rfl ?_
        refine V_iload d_N_contracted_63 rfl ?_
        refine V_iload_n d_N_contracted_65 rfl ?_
        refine V_icmp_ne 73 d_N_contracted_66 (by decide) (fun c66 => ?_) (fun c66 => ?_)
        · refine V_iconst (-1) d_N_contracted_73 rfl ?_
          refine V_callV0 d_N_contracted_74 ml_N_223 mB_C_load mi_C_load mv_C_load rfl j0 (c_C_load1 l D _ _ j0 j1 j2 j6 j7 (by omega) hNn (hTB.fr (fun q x y => j8 q (by omega) (by omega) (by omega))) hN (by omega) spr_sub.2 (hbd i (by omega)) USI (fun p p1 p2 => hz p p1 (by omega)) (so := so) (sx := sx) c66) rfl rfl rfl rfl rfl rfl rfl ?_
          rintro _ _ ⟨rfl, g1, g2, rfl, hL⟩
          have bl : BS c pl la (2 ^ i) < 2 ^ 20 := BS_lt hN (Nat.pow_lt_pow_right (by decide) (by omega))
          have J := ih (c - (i + 1)) (by omega) (i + 1) rfl (by omega) _ (va_up st i (sP (fun k => BS c pl la (2 ^ k)) (i))) bd g1 g2 ⟨og_0, (og_1 (by omega)), (oz_4 (by omega) (by omega) (by omega) (by omega)).trans j2, ⟨m1, (oz_4 (by omega) (by omega) (by omega) (by omega)).trans jm1⟩, ⟨m2, (oz_4 (by omega) (by omega) (by omega) (by omega)).trans jm2⟩, ⟨m3, (oz_4 (by omega) (by omega) (by omega) (by omega)).trans jm3⟩, (og_2 (by omega) (by omega)), (og_3 (by omega) (by omega) (by omega)), fun q q1 q2 q3 => (oz_4 (by omega) (by omega) q2 q3).trans (j8 q q1 q2 q3)⟩ hbd (fun x x1 x2 => by
            have x1 : (sP (fun k => BS c pl la (2 ^ k)) (i)) + 2 ^ pc_ (BS c pl la (2 ^ i)) ≤ x := x1
            rw [(hL.2 x (Or.inr x1)).1, (hL.2 x (Or.inr x1)).2]
            exact hz x (Nat.le_trans (Nat.le_add_right _ _) x1) x2) (fun t ht => by
            by_cases e : t = i
            · subst e
              have tp := tz_pw t (by omega)
              refine ⟨⟨Nat.ne_of_gt (Nat.two_pow_pos t), Nat.pow_lt_pow_right (by decide) (by omega)⟩, by rw [tp]; exact hbd t (by omega), by rw [tp, vu_s]; exact Nat.le_refl _, fun v => ?_⟩
              rw [tp, vu_s, hL.1 _ (by rw [pc_20 bl]; exact gat_lt 20), leaf_math hN hnm (by omega) spr_sub.1]
              rfl
            · have al := hal t (by omega)
              have K := alv_keep (y := (sP (fun k => BS c pl la (2 ^ k)) (i))) (z := bd i) (g1 := g1) (g2 := g2) (us' := (sP (fun k => BS c pl la (2 ^ k)) (i + 1))) hN al (by rw [tz_pw t (by omega)]; exact e) (fun x hx => hL.2 x (Or.inl hx)) (Nat.le_add_right _ _)
              rw [vu_self] at K
              exact K)
          refine V_iincN_8 1 d_N_contracted_77 rfl rfl ?_
          refine V_goto 39 d_N_contracted_80 (by decide) ?_
          exact J
        · rcases hso with q9 | ⟨t, x, t1, xl, rfl, rfl⟩
          · rw [q9.1] at c66; exact absurd c66 (nI_m1 (by omega))
          have et : i = t := (nI_eq (by omega) (by omega)).mp c66
          subst et
          refine V_iload_n d_N_contracted_69 rfl ?_
          refine V_goto 74 d_N_contracted_70 (by decide) ?_
          refine V_callV0 d_N_contracted_74 ml_N_223 mB_C_load mi_C_load mv_C_load rfl j0 (c_C_load2 l D _ _ j0 j1 j2 j6 j7 (by omega) hNn (hTB.fr (fun q x y => j8 q (by omega) (by omega) (by omega))) hN (by omega) spr_sub.2 (hbd i (by omega)) USI (fun p p1 p2 => hz p p1 (by omega)) xl) rfl rfl rfl rfl rfl rfl rfl ?_
          rintro _ _ ⟨rfl, g1, g2, rfl, hL⟩
          have bl : BS c pl la (2 ^ i) < 2 ^ 20 := BS_lt hN (Nat.pow_lt_pow_right (by decide) (by omega))
          have J := ih (c - (i + 1)) (by omega) (i + 1) rfl (by omega) _ (va_up st i (sP (fun k => BS c pl la (2 ^ k)) (i))) bd g1 g2 ⟨og_0, (og_1 (by omega)), (oz_4 (by omega) (by omega) (by omega) (by omega)).trans j2, ⟨m1, (oz_4 (by omega) (by omega) (by omega) (by omega)).trans jm1⟩, ⟨m2, (oz_4 (by omega) (by omega) (by omega) (by omega)).trans jm2⟩, ⟨m3, (oz_4 (by omega) (by omega) (by omega) (by omega)).trans jm3⟩, (og_2 (by omega) (by omega)), (og_3 (by omega) (by omega) (by omega)), fun q q1 q2 q3 => (oz_4 (by omega) (by omega) q2 q3).trans (j8 q q1 q2 q3)⟩ hbd (fun x x1 x2 => by
            have x1 : (sP (fun k => BS c pl la (2 ^ k)) (i)) + 2 ^ pc_ (BS c pl la (2 ^ i)) ≤ x := x1
            rw [(hL.2 x (Or.inr x1)).1, (hL.2 x (Or.inr x1)).2]
            exact hz x (Nat.le_trans (Nat.le_add_right _ _) x1) x2) (fun t ht => by
            by_cases e : t = i
            · subst e
              have tp := tz_pw t (by omega)
              refine ⟨⟨Nat.ne_of_gt (Nat.two_pow_pos t), Nat.pow_lt_pow_right (by decide) (by omega)⟩, by rw [tp]; exact hbd t (by omega), by rw [tp, vu_s]; exact Nat.le_refl _, fun v => ?_⟩
              rw [tp, vu_s, hL.1 _ (by rw [pc_20 bl]; exact gat_lt 20), leaf_math hN hnm (by omega) spr_sub.1]
              rfl
            · have al := hal t (by omega)
              have K := alv_keep (y := (sP (fun k => BS c pl la (2 ^ k)) (i))) (z := bd i) (g1 := g1) (g2 := g2) (us' := (sP (fun k => BS c pl la (2 ^ k)) (i + 1))) hN al (by rw [tz_pw t (by omega)]; exact e) (fun x hx => hL.2 x (Or.inl hx)) (Nat.le_add_right _ _)
              rw [vu_self] at K
              exact K)
          refine V_iincN_8 1 d_N_contracted_77 rfl rfl ?_
          refine V_goto 39 d_N_contracted_80 (by decide) ?_
          exact J
  exact lp _ 0 rfl (Nat.zero_le _) hB st bd f1 f2 hj hbd (fun x _ x2 => hz x x2) (fun t ht => absurd ht (Nat.not_lt_zero t))

set_option maxRecDepth 100000 in
set_option maxHeartbeats 4000000 in
theorem c_N_contracted0 (l : Launch) (D : hv_D) (h : hv_P) (nx : Nat) {b c n : Nat} {wk : Int32} {pl : Nat → Nat} {la : Nat → Option Nat} {re im : Nat → Int32} (hS : nS h b wk c pl la re im n) (hr : RDY c pl la = true) (hk : PK (LC pl la 0) c ≤ 12) {so sx part : Int32} (hso : soOK c pl so sx) {w : Nat} (hw : w < 2 ^ 31) (hnx : b + 91 ≤ nx) (hnd : ndF c pl la ≤ n) : hv_N l D M_N_contracted (hv_rm 5 126 0 0) [.ref b, .int so, .int sx, .int (nI w), .int part] h nx (hv_ans (some (.long (if part = 0 then (VV c pl la re im so sx (sprF w (OPN c pl la) 20).1).1 else (VV c pl la re im so sx (sprF w (OPN c pl la) 20).1).2))) (fun h' n' => n' = nx ∧ nFr2 b h h' ∧ ∃ wk', nS h' b wk' c pl la re im (gN n (ndF c pl la)))) := by
  refine hv_N.of' [some (.ref b), some (.int so), some (.int sx), some (.int (nI w)), some (.int part), none, none, none, none] (by decide +kernel) rfl rfl rfl ?_
  have hS0 := hS
  obtain ⟨lk, cu, u, l0, cp, hb, hT, hu, hu2, hl0, hcp, hcpk, hW, hL, hlk, hG, hC, hN⟩ := hS
  refine V_aload_n d_N_contracted_0 rfl ?_
  refine V_iconst (nI 1) d_N_contracted_1 rfl ?_
  refine V_callV1 d_N_contracted_2 ml_N_107 mB_N_namesUsed mi_N_namesUsed mv_N_namesUsed rfl hb (c_N_namesUsed l D _ _ hb hu (fun i hi => by rw [hu2 i hi]; have := hN.2.2.2.1 i; omega) (by decide)) rfl rfl rfl rfl rfl rfl rfl ?_
  rintro _ _ ⟨rfl, e9⟩
  have e9 := e9.symm
  subst e9
  rw [OPN_nu hN hu2]
  refine V_istore_5 d_N_contracted_5 rfl ?_
  refine V_iload_n d_N_contracted_7 rfl ?_
  refine V_iload d_N_contracted_8 rfl ?_
  refine V_callS1 d_N_contracted_10 ml_N_216 mB_N_spread ms_N_spread (c_N_spread l D _ _ hw (Nat.lt_trans (OPN_lt hN) (by decide))) rfl rfl rfl rfl rfl rfl rfl ?_
  rintro _ _ ⟨rfl, e9⟩
  have e9 := e9.symm
  subst e9
  refine V_istore_6 d_N_contracted_13 rfl ?_
  refine V_aload_n d_N_contracted_15 rfl ?_
  refine V_callV1 d_N_contracted_16 ml_N_128 mB_N_orderOfAll mi_N_orderOfAll mv_N_orderOfAll rfl hb (c_N_orderOfAll l D _ _ hS0 (fun _ => hr)) rfl rfl rfl rfl rfl rfl rfl ?_
  rintro h9 n9 ⟨e9, fr9, ⟨wk9, kw9, ns9⟩, ⟨ac9, ml9, lg9, co9, fi9, md9, wt9, y0, y1, y2, y3, y4, y5, y6, y7, y8⟩⟩
  have e9 := e9.symm
  subst e9
  obtain ⟨lk9, cu9, u9, l09, cp9, hb9, hT9, hu9, hu29, hl09, hcp9, hcpk9, hW9, hL9, hlk9, hG9, ⟨rr, op9, us9, st9, bd9, m19, m29, m39, f19, f29, s0, s1, s2, s3, s4, s5, s6, s7, s8, s9, s10⟩, hN9⟩ := ns9
  have y8 := y8 trivial
  have hc1 := RDY_c hr
  have hc := hN.1
  have c1 := Nat.two_pow_pos c
  have mdI : ∀ j, j < c - 1 → MD (LC pl la 0) c j ≠ 0 ∧ MD (LC pl la 0) c j < 2 ^ c := fun j hj => pv_sub (m := c) 10 _ (by omega) y8.2.2.1 _ (MD_in hc1 hc y8.2.2.1 hj)
  have c10 : 2 ^ c ≤ 1024 := Nat.pow_le_pow_right (n := 2) (by decide) hc
  have LGL : ∀ S, S ≠ 0 → S < 2 ^ c → lg9 S = LG (LE pl la) S := fun S a b => by rw [y8.2.1 S (by omega) (by omega), LC_0]
  have L1 : ∀ i, i < c → lg9 (2 ^ i) < 2 ^ 20 := fun i hi => by rw [LGL _ (Nat.ne_of_gt (Nat.two_pow_pos i)) (Nat.pow_lt_pow_right (by decide) hi)]; exact LGn_lt (fun t ht => LE_lt hN ht) (Nat.pow_lt_pow_right (by decide) hi) 10
  have MJ : ∀ j, j < c - 1 → md9 j = MD (LC pl la 0) c j := y8.2.2.2.2.1
  have M1 : ∀ j, j < c - 1 → md9 j < 1024 := fun j hj => by rw [MJ j hj]; have := mdI j hj; omega
  have L2 : ∀ j, j < c - 1 → lg9 (md9 j) < 2 ^ 20 := fun j hj => by rw [MJ j hj, LGL _ (mdI j hj).1 (mdI j hj).2]; exact LGn_lt (fun t ht => LE_lt hN ht) (mdI j hj).2 10
  have eF : ∀ k, k < c → bF lg9 (OPN c pl la) k = BS c pl la (2 ^ k) := fun k hk => by unfold bF BS; rw [LGL _ (Nat.ne_of_gt (Nat.two_pow_pos k)) (Nat.pow_lt_pow_right (by decide) hk)]
  have eND : sP (bF lg9 (OPN c pl la)) c + sP (mF lg9 md9 (OPN c pl la)) (c - 1) = ndF c pl la := by
    unfold ndF
    rw [sP_cg c eF, sP_cg (F := mF lg9 md9 (OPN c pl la)) (G := fun k => BS c pl la (MD (LC pl la 0) c k)) (c - 1) (fun j hj => by unfold mF BS; rw [MJ j hj, LGL _ (mdI j hj).1 (mdI j hj).2])]
  refine V_astore_7 d_N_contracted_19 rfl ?_
  refine V_aload_n d_N_contracted_21 rfl ?_
  refine V_getfield d_N_contracted_22 fl_N_46 hb9 rfl ?_
  refine V_aload d_N_contracted_25 rfl ?_
  refine V_aload_n d_N_contracted_27 rfl ?_
  refine V_getfield d_N_contracted_28 fl_N_53 hb9 rfl ?_
  refine V_iload d_N_contracted_31 rfl ?_
  refine V_callV0 d_N_contracted_33 ml_N_219 mB_C_begin mi_C_begin mv_C_begin rfl s0 (c_C_begin0 l D _ _ (a := b + 62) (oa := b + 45) (op := OPN c pl la) (n := n) s0 s2 s6 s7 (by omega) (by omega) y0 y1 y4 (by omega) hc1 hN.1 L1 M1 L2 (by rw [eND]; exact hnd)) rfl rfl rfl rfl rfl rfl rfl ?_
  rintro hB _ ⟨rfl, b0, b2, ⟨g1, g2, b6, b7, bz⟩, bfr⟩
  rw [eND] at bz
  refine V_iconst (nI 0) d_N_contracted_36 rfl ?_
  refine V_istore_8 d_N_contracted_37 rfl ?_
  refine contr_tail l D (hB := hB) (rr := rr) (N := n) 0 (0) hN hr hso ((bfr _ (by omega) (by omega) (by omega) (by omega)).trans hb9) (hT9.fr (fun q x y => (bfr _ (by omega) (by omega) (by omega) (by omega)))) ((bfr _ (by omega) (by omega) (by omega) (by omega)).trans y0) ((bfr _ (by omega) (by omega) (by omega) (by omega)).trans y3) ((bfr _ (by omega) (by omega) (by omega) (by omega)).trans y4) y8 (by omega) (by have := nd_le hN hc1 hk; omega) (by omega) ⟨b0, (bfr _ (by omega) (by omega) (by omega) (by omega)).trans s1, b2, ⟨_, (bfr _ (by omega) (by omega) (by omega) (by omega)).trans s3⟩, ⟨_, (bfr _ (by omega) (by omega) (by omega) (by omega)).trans s4⟩, ⟨_, (bfr _ (by omega) (by omega) (by omega) (by omega)).trans s5⟩, b6, b7, fun q _ _ _ => rfl⟩ (fun t ht => by rw [cp_at ht]; exact eF t ht) bz ?_
  intro h' us' st' bd' g1' g2' FR jj
  obtain ⟨k0, k1, k2, ⟨n1, km1⟩, ⟨n2, km2⟩, ⟨n3, km3⟩, k6, k7, k8⟩ := jj
  have FF : ∀ q, q < b + 62 ∨ (b + 69 < q ∧ q < b + 91) → h' q = h9 q := fun q hq => (FR q (by omega)).trans (bfr _ (by omega) (by omega) (by omega) (by omega))
  refine ⟨rfl, rfl, fun q hq => (FF q (by omega)).trans (fr9 q (by omega)), wk9, ?_⟩
  rw [show gN n (ndF c pl la) = n from if_neg (by omega)]
  exact ⟨lk9, cu9, u9, l09, cp9, (FF _ (by omega)).trans hb9, hT9.fr (fun q x y => FF q (by omega)), (FF _ (by omega)).trans hu9, hu29, (FF _ (by omega)).trans hl09, (FF _ (by omega)).trans hcp9, hcpk9, hW9.fr (fun q x y => FF q (by omega)), hL9.fr (fun q x y => FF q (by omega)), hlk9, hG9.fr (fun q x y => FF q (by omega)), ⟨rr, _, _, _, _, _, _, _, _, _, k0, k1, k2, km1, km2, km3, k6, k7, by omega, by have := nd_le hN hc1 hk; omega⟩, hN⟩

set_option maxRecDepth 100000 in
set_option maxHeartbeats 4000000 in
theorem c_N_contracted1 (l : Launch) (D : hv_D) (h : hv_P) (nx : Nat) {b c n : Nat} {wk : Int32} {pl : Nat → Nat} {la : Nat → Option Nat} {re im : Nat → Int32} (hS : nS h b wk c pl la re im n) (hr : RDY c pl la = true) (hk : PK (LC pl la 0) c ≤ 12) {so sx part : Int32} (hso : soOK c pl so sx) {w : Nat} (hw : w < 2 ^ 31) (hnx : b + 91 ≤ nx) (hnd : n < ndF c pl la) : hv_N l D M_N_contracted (hv_rm 5 126 2 (2 * max (ndF c pl la) (2 * n))) [.ref b, .int so, .int sx, .int (nI w), .int part] h nx (hv_ans (some (.long (if part = 0 then (VV c pl la re im so sx (sprF w (OPN c pl la) 20).1).1 else (VV c pl la re im so sx (sprF w (OPN c pl la) 20).1).2))) (fun h' n' => n' = nx + 2 ∧ nFr2 b h h' ∧ ∃ wk', nS h' b wk' c pl la re im (gN n (ndF c pl la)))) := by
  refine hv_N.of' [some (.ref b), some (.int so), some (.int sx), some (.int (nI w)), some (.int part), none, none, none, none] (by decide +kernel) rfl rfl rfl ?_
  have hS0 := hS
  obtain ⟨lk, cu, u, l0, cp, hb, hT, hu, hu2, hl0, hcp, hcpk, hW, hL, hlk, hG, hC, hN⟩ := hS
  refine V_aload_n d_N_contracted_0 rfl ?_
  refine V_iconst (nI 1) d_N_contracted_1 rfl ?_
  refine V_callV1 d_N_contracted_2 ml_N_107 mB_N_namesUsed mi_N_namesUsed mv_N_namesUsed rfl hb (c_N_namesUsed l D _ _ hb hu (fun i hi => by rw [hu2 i hi]; have := hN.2.2.2.1 i; omega) (by decide)) rfl rfl rfl rfl rfl rfl rfl ?_
  rintro _ _ ⟨rfl, e9⟩
  have e9 := e9.symm
  subst e9
  rw [OPN_nu hN hu2]
  refine V_istore_5 d_N_contracted_5 rfl ?_
  refine V_iload_n d_N_contracted_7 rfl ?_
  refine V_iload d_N_contracted_8 rfl ?_
  refine V_callS1 d_N_contracted_10 ml_N_216 mB_N_spread ms_N_spread (c_N_spread l D _ _ hw (Nat.lt_trans (OPN_lt hN) (by decide))) rfl rfl rfl rfl rfl rfl rfl ?_
  rintro _ _ ⟨rfl, e9⟩
  have e9 := e9.symm
  subst e9
  refine V_istore_6 d_N_contracted_13 rfl ?_
  refine V_aload_n d_N_contracted_15 rfl ?_
  refine V_callV1 d_N_contracted_16 ml_N_128 mB_N_orderOfAll mi_N_orderOfAll mv_N_orderOfAll rfl hb (c_N_orderOfAll l D _ _ hS0 (fun _ => hr)) rfl rfl rfl rfl rfl rfl rfl ?_
  rintro h9 n9 ⟨e9, fr9, ⟨wk9, kw9, ns9⟩, ⟨ac9, ml9, lg9, co9, fi9, md9, wt9, y0, y1, y2, y3, y4, y5, y6, y7, y8⟩⟩
  have e9 := e9.symm
  subst e9
  obtain ⟨lk9, cu9, u9, l09, cp9, hb9, hT9, hu9, hu29, hl09, hcp9, hcpk9, hW9, hL9, hlk9, hG9, ⟨rr, op9, us9, st9, bd9, m19, m29, m39, f19, f29, s0, s1, s2, s3, s4, s5, s6, s7, s8, s9, s10⟩, hN9⟩ := ns9
  have y8 := y8 trivial
  have hc1 := RDY_c hr
  have hc := hN.1
  have c1 := Nat.two_pow_pos c
  have mdI : ∀ j, j < c - 1 → MD (LC pl la 0) c j ≠ 0 ∧ MD (LC pl la 0) c j < 2 ^ c := fun j hj => pv_sub (m := c) 10 _ (by omega) y8.2.2.1 _ (MD_in hc1 hc y8.2.2.1 hj)
  have c10 : 2 ^ c ≤ 1024 := Nat.pow_le_pow_right (n := 2) (by decide) hc
  have LGL : ∀ S, S ≠ 0 → S < 2 ^ c → lg9 S = LG (LE pl la) S := fun S a b => by rw [y8.2.1 S (by omega) (by omega), LC_0]
  have L1 : ∀ i, i < c → lg9 (2 ^ i) < 2 ^ 20 := fun i hi => by rw [LGL _ (Nat.ne_of_gt (Nat.two_pow_pos i)) (Nat.pow_lt_pow_right (by decide) hi)]; exact LGn_lt (fun t ht => LE_lt hN ht) (Nat.pow_lt_pow_right (by decide) hi) 10
  have MJ : ∀ j, j < c - 1 → md9 j = MD (LC pl la 0) c j := y8.2.2.2.2.1
  have M1 : ∀ j, j < c - 1 → md9 j < 1024 := fun j hj => by rw [MJ j hj]; have := mdI j hj; omega
  have L2 : ∀ j, j < c - 1 → lg9 (md9 j) < 2 ^ 20 := fun j hj => by rw [MJ j hj, LGL _ (mdI j hj).1 (mdI j hj).2]; exact LGn_lt (fun t ht => LE_lt hN ht) (mdI j hj).2 10
  have eF : ∀ k, k < c → bF lg9 (OPN c pl la) k = BS c pl la (2 ^ k) := fun k hk => by unfold bF BS; rw [LGL _ (Nat.ne_of_gt (Nat.two_pow_pos k)) (Nat.pow_lt_pow_right (by decide) hk)]
  have eND : sP (bF lg9 (OPN c pl la)) c + sP (mF lg9 md9 (OPN c pl la)) (c - 1) = ndF c pl la := by
    unfold ndF
    rw [sP_cg c eF, sP_cg (F := mF lg9 md9 (OPN c pl la)) (G := fun k => BS c pl la (MD (LC pl la 0) c k)) (c - 1) (fun j hj => by unfold mF BS; rw [MJ j hj, LGL _ (mdI j hj).1 (mdI j hj).2])]
  refine V_astore_7 d_N_contracted_19 rfl ?_
  refine V_aload_n d_N_contracted_21 rfl ?_
  refine V_getfield d_N_contracted_22 fl_N_46 hb9 rfl ?_
  refine V_aload d_N_contracted_25 rfl ?_
  refine V_aload_n d_N_contracted_27 rfl ?_
  refine V_getfield d_N_contracted_28 fl_N_53 hb9 rfl ?_
  refine V_iload d_N_contracted_31 rfl ?_
  refine V_cV0 0 0 d_N_contracted_33 ml_N_219 mB_C_begin mi_C_begin mv_C_begin rfl s0 (c_C_begin1 l D _ _ (a := b + 62) (oa := b + 45) (op := OPN c pl la) (n := n) s0 s2 s6 s7 (by omega) (by omega) y0 y1 y4 (by omega) hc1 hN.1 L1 M1 L2 (by rw [eND]; exact hnd) (by rw [eND]; have := nd_le hN hc1 hk; omega) (by omega)) rfl rfl rfl rfl rfl rfl (by show 2 * max _ _ = 0 + 2 * max _ _; rw [eND]; omega) ?_
  rintro hB _ ⟨rfl, b0, b2, ⟨g1, g2, b6, b7, bz⟩, bfr⟩
  rw [eND] at b6 b7 bz
  refine V_iconst (nI 0) d_N_contracted_36 rfl ?_
  refine V_istore_8 d_N_contracted_37 rfl ?_
  refine contr_tail l D (hB := hB) (rr := nx) (N := (max (ndF c pl la) (2 * n))) 2 ((2 * max (ndF c pl la) (2 * n))) hN hr hso ((bfr _ (by omega) (by omega) (by omega) (by omega)).trans hb9) (hT9.fr (fun q x y => (bfr _ (by omega) (by omega) (by omega) (by omega)))) ((bfr _ (by omega) (by omega) (by omega) (by omega)).trans y0) ((bfr _ (by omega) (by omega) (by omega) (by omega)).trans y3) ((bfr _ (by omega) (by omega) (by omega) (by omega)).trans y4) y8 (by omega) (by have := nd_le hN hc1 hk; omega) (by omega) ⟨b0, (bfr _ (by omega) (by omega) (by omega) (by omega)).trans s1, b2, ⟨_, (bfr _ (by omega) (by omega) (by omega) (by omega)).trans s3⟩, ⟨_, (bfr _ (by omega) (by omega) (by omega) (by omega)).trans s4⟩, ⟨_, (bfr _ (by omega) (by omega) (by omega) (by omega)).trans s5⟩, b6, b7, fun q _ _ _ => rfl⟩ (fun t ht => by rw [cp_at ht]; exact eF t ht) bz ?_
  intro h' us' st' bd' g1' g2' FR jj
  obtain ⟨k0, k1, k2, ⟨n1, km1⟩, ⟨n2, km2⟩, ⟨n3, km3⟩, k6, k7, k8⟩ := jj
  have FF : ∀ q, q < b + 62 ∨ (b + 69 < q ∧ q < b + 91) → h' q = h9 q := fun q hq => (FR q (by omega)).trans (bfr _ (by omega) (by omega) (by omega) (by omega))
  refine ⟨rfl, rfl, fun q hq => (FF q (by omega)).trans (fr9 q (by omega)), wk9, ?_⟩
  rw [show gN n (ndF c pl la) = max (ndF c pl la) (2 * n) from if_pos hnd]
  exact ⟨lk9, cu9, u9, l09, cp9, (FF _ (by omega)).trans hb9, hT9.fr (fun q x y => FF q (by omega)), (FF _ (by omega)).trans hu9, hu29, (FF _ (by omega)).trans hl09, (FF _ (by omega)).trans hcp9, hcpk9, hW9.fr (fun q x y => FF q (by omega)), hL9.fr (fun q x y => FF q (by omega)), hlk9, hG9.fr (fun q x y => FF q (by omega)), ⟨nx, _, _, _, _, _, _, _, _, _, k0, k1, k2, km1, km2, km3, k6, k7, by omega, by have := nd_le hN hc1 hk; omega⟩, hN⟩
