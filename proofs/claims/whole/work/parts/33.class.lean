-- THE CLASS: small methods
/-- a without c -/
def anN (a c : Nat) : Nat := a ^^^ (a &&& c)
theorem nx_andn (a c : Nat) : nI a &&& (nI c ^^^ (-1)) = nI (anN a c) := by
  apply Int32.toBitVec_inj.1
  show BitVec.ofNat 32 a &&& (BitVec.ofNat 32 c ^^^ BitVec.allOnes 32) = BitVec.ofNat 32 (anN a c)
  apply BitVec.eq_of_getLsbD_eq
  intro i hi
  simp only [anN, BitVec.getLsbD_and, BitVec.getLsbD_xor, BitVec.getLsbD_ofNat, BitVec.getLsbD_allOnes, hi, decide_true, Bool.true_and, Nat.testBit_xor, Nat.testBit_and]
  cases a.testBit i <;> cases c.testBit i <;> rfl
theorem anN_lt {a c n : Nat} (h : a < 2 ^ n) : anN a c < 2 ^ n := Nat.xor_lt_two_pow h (Nat.lt_of_le_of_lt Nat.and_le_left h)
def nuF (u : Nat → Nat) (t : Nat) : Nat → Nat
  | 0 => 0
  | n + 1 => if u n = t then nuF u t n ||| 2 ^ n else nuF u t n
theorem nuF_lt {u : Nat → Nat} {t : Nat} : ∀ n, nuF u t n < 2 ^ n
  | 0 => by simp [nuF]
  | n + 1 => by
    have ih := nuF_lt (u := u) (t := t) n
    have p : (2 : Nat) ^ n < 2 ^ (n + 1) := Nat.pow_lt_pow_right (by decide) (by omega)
    simp only [nuF]
    split
    · exact Nat.or_lt_two_pow (by omega) p
    · omega
def nbF (lg : Nat → Nat) : Nat → Nat
  | 0 => 0
  | n + 1 => nbF lg n ||| lg n
def alF (lg : Nat → Nat) (cu mo : Nat) : Nat → Bool
  | 0 => true
  | n + 1 => alF lg cu mo n && decide (pc_ (anN (lg n) cu) ≤ mo)
theorem alF_f {lg : Nat → Nat} {cu mo i : Nat} (h : ¬ pc_ (anN (lg i) cu) ≤ mo) : ∀ k, alF lg cu mo (i + 1 + k) = false
  | 0 => by simp [alF, h]
  | k + 1 => by
    have := alF_f h k
    show (alF lg cu mo (i + 1 + k) && _) = false
    rw [this]; rfl
def sprF (bits set : Nat) : Nat → Nat × Nat
  | 0 => (0, 0)
  | n + 1 => if set.testBit n = true then ((sprF bits set n).1 ||| (bits / 2 ^ (sprF bits set n).2 &&& 1) * 2 ^ n, (sprF bits set n).2 + 1) else sprF bits set n
def gatF (nms set : Nat) : Nat → Nat × Nat
  | 0 => (0, 0)
  | n + 1 => if set.testBit n = true then ((gatF nms set n).1 ||| (nms / 2 ^ n &&& 1) * 2 ^ (gatF nms set n).2, (gatF nms set n).2 + 1) else gatF nms set n
theorem sprF_j {bits set : Nat} : ∀ n, (sprF bits set n).2 ≤ n
  | 0 => Nat.le_refl _
  | n + 1 => by
    have := sprF_j (bits := bits) (set := set) n
    simp only [sprF]
    split <;> simp <;> omega
theorem gatF_j {nms set : Nat} : ∀ n, (gatF nms set n).2 ≤ n
  | 0 => Nat.le_refl _
  | n + 1 => by
    have := gatF_j (nms := nms) (set := set) n
    simp only [gatF]
    split <;> simp <;> omega
set_option maxRecDepth 100000 in
set_option maxHeartbeats 4000000 in
theorem c_N_countUse0 (l : Launch) (D : hv_D) (h : hv_P) (nx : Nat) {b : Nat} {c ap z wk lk : Int32} (hb : h b = some (oN b c ap z wk lk)) (x : Int32) : hv_N l D M_N_countUse (hv_rm 0 0 0 0) [.ref b, .int (-1), .int x] h nx (hv_ans none (fun h' n' => h' = hv_up h b (oN b c ap (z + x) wk lk) ∧ n' = nx)) := by
  refine hv_N.of' [some (.ref b), some (.int (-1)), some (.int x)] (by decide +kernel) rfl rfl rfl ?_
  refine V_iload_n d_N_countUse_0 rfl ?_
  refine V_iconst (-1) d_N_countUse_1 rfl ?_
  refine V_icmp_ne 18 d_N_countUse_2 (by decide) (fun q => absurd rfl q) (fun _ => ?_)
  refine V_aload_n d_N_countUse_5 rfl ?_
  refine V_dup d_N_countUse_6 rfl ?_
  refine V_getfield d_N_countUse_7 fl_N_64 hb rfl ?_
  refine V_iload_n d_N_countUse_10 rfl ?_
  refine V_iadd d_N_countUse_11 ?_
  refine V_put (e' := oN b c ap (z + x) wk lk) d_N_countUse_12 fp_N_64 hb rfl rfl rfl rfl rfl ?_
  refine V_goto 28 d_N_countUse_15 (by decide) ?_
  exact V_return d_N_countUse_28 rfl ⟨rfl, rfl, rfl⟩

set_option maxRecDepth 100000 in
set_option maxHeartbeats 4000000 in
theorem c_N_countUse1 (l : Launch) (D : hv_D) (h : hv_P) (nx : Nat) {b : Nat} {c ap z wk lk : Int32} (hb : h b = some (oN b c ap z wk lk)) {k : Nat} {us : Nat → Int32} (hu : h (b + 42) = some (eI 20 us)) (hk : k < 20) (x : Int32) : hv_N l D M_N_countUse (hv_rm 0 0 0 0) [.ref b, .int (nI k), .int x] h nx (hv_ans none (fun h' n' => h' = hv_up h (b + 42) (eI 20 (va_up us k (us k + x))) ∧ n' = nx)) := by
  refine hv_N.of' [some (.ref b), some (.int (nI k)), some (.int x)] (by decide +kernel) rfl rfl rfl ?_
  refine V_iload_n d_N_countUse_0 rfl ?_
  refine V_iconst (-1) d_N_countUse_1 rfl ?_
  refine V_icmp_ne 18 d_N_countUse_2 (by decide) (fun _ => ?_) (fun q => absurd q (en_ne hk))
  refine V_aload_n d_N_countUse_18 rfl ?_
  refine V_getfield d_N_countUse_19 fl_N_16 hb rfl ?_
  refine V_iload_n d_N_countUse_22 rfl ?_
  refine V_dup2 d_N_countUse_23 rfl rfl ?_
  refine V_iaload d_N_countUse_24 hu ⟨rfl, hk, by decide⟩ ?_
  refine V_iload_n d_N_countUse_25 rfl ?_
  refine V_iadd d_N_countUse_26 ?_
  refine V_ist d_N_countUse_27 hu ⟨rfl, hk, by decide⟩ rfl ?_
  exact V_return d_N_countUse_28 rfl ⟨rfl, rfl, rfl⟩

set_option maxRecDepth 100000 in
set_option maxHeartbeats 4000000 in
theorem c_N_namesUsed (l : Launch) (D : hv_D) (h : hv_P) (nx : Nat) {b : Nat} {c ap z wk lk : Int32} (hb : h b = some (oN b c ap z wk lk)) {u : Nat → Nat} (hu : h (b + 42) = some (eN 20 u)) (hul : ∀ i, i < 20 → u i < 2 ^ 31) {t : Nat} (ht : t < 2 ^ 31) : hv_N l D M_N_namesUsed (hv_rm 0 0 0 0) [.ref b, .int (nI t)] h nx (hv_ans (some (.int (nI (nuF u t 20)))) (hv_same h nx)) := by
  have lp : ∀ (k i : Nat), k = 20 - i → i ≤ 20 → hv_V l D M_N_namesUsed (fun _ _ => True) (hv_rm 0 0 0 0) (hv_ans (some (.int (nI (nuF u t 20)))) (hv_same h nx)) 0 0 (h) nx 4 [some (.ref b), some (.int (nI t)), some (.int (nI (nuF u t i))), some (.int (nI i))] [] := by
    intro k
    induction k using Nat.strongRecOn with
    | ind k ih =>
      intro i hk hi
      refine V_iload_n d_N_namesUsed_4 rfl ?_
      refine V_bipush (nI 20) d_N_namesUsed_5 rfl ?_
      refine V_icmp_geN 32 d_N_namesUsed_7 (by decide) (by omega) (by decide) (fun ci => ?_) (fun ci => ?_)
      · refine V_iload_n d_N_namesUsed_32 rfl ?_
        exact V_ireturn d_N_namesUsed_33 rfl ⟨by rw [show i = 20 by omega], rfl, rfl⟩
      · refine V_aload_n d_N_namesUsed_10 rfl ?_
        refine V_getfield d_N_namesUsed_11 fl_N_16 hb rfl ?_
        refine V_iload_n d_N_namesUsed_14 rfl ?_
        refine V_iaload d_N_namesUsed_15 hu ⟨rfl, by omega, by decide⟩ ?_
        refine V_iload_n d_N_namesUsed_16 rfl ?_
        refine V_icmp_neN 26 d_N_namesUsed_17 (by decide) (hul i (by omega)) ht (fun cu => ?_) (fun cu => ?_)
        · rw [show nuF u t i = nuF u t (i + 1) by simp [nuF, cu]]
          refine V_iincN_3 1 d_N_namesUsed_26 rfl rfl ?_
          refine V_goto 4 d_N_namesUsed_29 (by decide) ?_
          exact ih (20 - (i + 1)) (by omega) (i + 1) rfl (by omega)
        · refine V_iload_n d_N_namesUsed_20 rfl ?_
          refine V_iconst (nI 1) d_N_namesUsed_21 rfl ?_
          refine V_iload_n d_N_namesUsed_22 rfl ?_
          refine V_ishlN d_N_namesUsed_23 (by omega) ?_
          refine V_iorN d_N_namesUsed_24 ?_
          rw [Nat.one_mul, show nuF u t i ||| 2 ^ i = nuF u t (i + 1) by simp [nuF, cu]]
          refine V_istore_2 d_N_namesUsed_25 rfl ?_
          refine V_iincN_3 1 d_N_namesUsed_26 rfl rfl ?_
          refine V_goto 4 d_N_namesUsed_29 (by decide) ?_
          exact ih (20 - (i + 1)) (by omega) (i + 1) rfl (by omega)
  refine hv_N.of' [some (.ref b), some (.int (nI t)), none, none] (by decide +kernel) rfl rfl rfl ?_
  refine V_iconst (nI 0) d_N_namesUsed_0 rfl ?_
  refine V_istore_2 d_N_namesUsed_1 rfl ?_
  refine V_iconst (nI 0) d_N_namesUsed_2 rfl ?_
  refine V_istore_3 d_N_namesUsed_3 rfl ?_
  exact lp _ 0 rfl (Nat.zero_le _)

set_option maxRecDepth 100000 in
set_option maxHeartbeats 4000000 in
theorem c_N_namesBetween (l : Launch) (D : hv_D) (h : hv_P) (nx : Nat) {b c : Nat} {ap z wk lk : Int32} (hb : h b = some (oN b (nI c) ap z wk lk)) {u : Nat → Nat} (hu : h (b + 42) = some (eN 20 u)) (hul : ∀ i, i < 20 → u i < 2 ^ 31) {pl lg : Nat → Nat} (hts : h (b + 1) = some (eQ 2 10 (fun i => some (b + 2 + 4 * i)))) (hT : ∀ i, i < 10 → h (b + 2 + 4 * i) = some (oT (b + 2 + 4 * i) (nI (pl i)) (nI (lg i)))) (hc : c ≤ 10) : hv_N l D M_N_namesBetweenTensors (hv_rm 1 23 0 0) [.ref b] h nx (hv_ans (some (.int (nI (nbF lg c &&& nuF u 2 20)))) (hv_same h nx)) := by
  have lp : ∀ (k i : Nat), k = c - i → i ≤ c → hv_V l D M_N_namesBetweenTensors (fun _ _ => True) (hv_rm 1 23 0 0) (hv_ans (some (.int (nI (nbF lg c &&& nuF u 2 20)))) (hv_same h nx)) 0 0 (h) nx 4 [some (.ref b), some (.int (nI (nbF lg i))), some (.int (nI i))] [] := by
    intro k
    induction k using Nat.strongRecOn with
    | ind k ih =>
      intro i hk hi
      refine V_iload_n d_N_namesBetweenTensors_4 rfl ?_
      refine V_aload_n d_N_namesBetweenTensors_5 rfl ?_
      refine V_getfield d_N_namesBetweenTensors_6 fl_N_53 hb rfl ?_
      refine V_icmp_geN 30 d_N_namesBetweenTensors_9 (by decide) (by omega) (by omega) (fun ci => ?_) (fun ci => ?_)
      · refine V_iload_n d_N_namesBetweenTensors_30 rfl ?_
        refine V_aload_n d_N_namesBetweenTensors_31 rfl ?_
        refine V_iconst (nI 2) d_N_namesBetweenTensors_32 rfl ?_
        refine V_callV1 d_N_namesBetweenTensors_33 ml_N_107 mB_N_namesUsed mi_N_namesUsed mv_N_namesUsed rfl hb (c_N_namesUsed l D _ _ hb hu hul (by decide)) rfl rfl rfl rfl rfl rfl rfl ?_
        rintro _ _ ⟨rfl, rfl⟩
        refine V_iandN d_N_namesBetweenTensors_36 ?_
        exact V_ireturn d_N_namesBetweenTensors_37 rfl ⟨by rw [show i = c by omega], rfl, rfl⟩
      · refine V_iload_n d_N_namesBetweenTensors_12 rfl ?_
        refine V_aload_n d_N_namesBetweenTensors_13 rfl ?_
        refine V_getfield d_N_namesBetweenTensors_14 fl_N_11 hb rfl ?_
        refine V_iload_n d_N_namesBetweenTensors_17 rfl ?_
        refine V_aaload d_N_namesBetweenTensors_18 hts rfl ⟨rfl, by omega, by decide⟩ rfl ?_
        refine V_getfield d_N_namesBetweenTensors_19 fl_N_177 (hT i (by omega)) rfl ?_
        refine V_iorN d_N_namesBetweenTensors_22 ?_
        refine V_istore_1 d_N_namesBetweenTensors_23 rfl ?_
        refine V_iincN_2 1 d_N_namesBetweenTensors_24 rfl rfl ?_
        refine V_goto 4 d_N_namesBetweenTensors_27 (by decide) ?_
        exact ih (c - (i + 1)) (by omega) (i + 1) rfl (by omega)
  refine hv_N.of' [some (.ref b), none, none] (by decide +kernel) rfl rfl rfl ?_
  refine V_iconst (nI 0) d_N_namesBetweenTensors_0 rfl ?_
  refine V_istore_1 d_N_namesBetweenTensors_1 rfl ?_
  refine V_iconst (nI 0) d_N_namesBetweenTensors_2 rfl ?_
  refine V_istore_2 d_N_namesBetweenTensors_3 rfl ?_
  exact lp _ 0 rfl (Nat.zero_le _)

set_option maxRecDepth 100000 in
set_option maxHeartbeats 4000000 in
theorem c_N_forget (l : Launch) (D : hv_D) (h : hv_P) (nx : Nat) {b : Nat} {c ap z wk lk : Int32} (hb : h b = some (oN b c ap z wk lk)) {cp : Nat → Int32} (hcp : h (b + 44) = some (eI 400 cp)) : hv_N l D M_N_forgetOrders (hv_rm 1 23 0 0) [.ref b] h nx (hv_ans none (fun h' n' => h' = hv_ov h [(b, oN b c ap z 0 (-1)), (b + 44, eI 400 (hv_fill cp 400 (-1)))] ∧ n' = nx)) := by
  refine hv_N.of' [some (.ref b)] (by decide +kernel) rfl rfl rfl ?_
  refine V_eqH (ob_2 hb hcp) ?_
  refine V_aload_n d_N_forgetOrders_0 rfl ?_
  refine V_iconst (0) d_N_forgetOrders_1 rfl ?_
  refine V_put (e' := oN b c ap z 0 lk) d_N_forgetOrders_2 fp_N_180 (og_0) rfl rfl rfl rfl (ou_0) ?_
  refine V_aload_n d_N_forgetOrders_5 rfl ?_
  refine V_iconst (-1) d_N_forgetOrders_6 rfl ?_
  refine V_put (e' := oN b c ap z 0 (-1)) d_N_forgetOrders_7 fp_N_184 (og_0) rfl rfl rfl rfl (ou_0) ?_
  refine V_aload_n d_N_forgetOrders_10 rfl ?_
  refine V_getfield d_N_forgetOrders_11 fl_N_23 (og_0) rfl ?_
  refine V_iconst (-1) d_N_forgetOrders_14 rfl ?_
  refine V_callS0 d_N_forgetOrders_15 ml_N_97 mB_JA_fill ms_JA_fill (c_fill l D _ _ (-1) (og_1 (by omega)) (by decide)) rfl rfl rfl rfl rfl rfl rfl ?_
  rintro _ _ ⟨rfl, rfl⟩
  rw [ou_1 (by omega)]
  exact V_return d_N_forgetOrders_18 rfl ⟨rfl, rfl, rfl⟩

set_option maxRecDepth 100000 in
set_option maxHeartbeats 4000000 in
theorem c_N_takeLegs (l : Launch) (D : hv_D) (h : hv_P) (nx : Nat) {b c : Nat} {ap z wk lk : Int32} (hb : h b = some (oN b (nI c) ap z wk lk)) {pl lg : Nat → Nat} (hts : h (b + 1) = some (eQ 2 10 (fun i => some (b + 2 + 4 * i)))) (hT : ∀ i, i < 10 → h (b + 2 + 4 * i) = some (oT (b + 2 + 4 * i) (nI (pl i)) (nI (lg i)))) {l0 : Nat → Nat} {cu : Nat} (hl0 : h (b + 43) = some (eN 10 l0)) (hc : c ≤ 10) : hv_N l D M_N_takeLegs (hv_rm 0 0 0 0) [.ref b, .int (nI cu)] h nx (hv_ans none (fun h' n' => h' = hv_ov h [(b + 43, eN 10 (hv_cp (fun j => anN (lg j) cu) l0 c))] ∧ n' = nx)) := by
  have lp : ∀ (k i : Nat), k = c - i → i ≤ c → hv_V l D M_N_takeLegs (fun _ _ => True) (hv_rm 0 0 0 0) (hv_ans none (fun h' n' => h' = hv_ov h [(b + 43, eN 10 (hv_cp (fun j => anN (lg j) cu) l0 c))] ∧ n' = nx)) 0 0 (hv_ov h [(b + 43, eN 10 (hv_cp (fun j => anN (lg j) cu) l0 i))]) nx 2 [some (.ref b), some (.int (nI cu)), some (.int (nI i))] [] := by
    intro k
    induction k using Nat.strongRecOn with
    | ind k ih =>
      intro i hk hi
      refine V_iload_n d_N_takeLegs_2 rfl ?_
      refine V_aload_n d_N_takeLegs_3 rfl ?_
      refine V_getfield d_N_takeLegs_4 fl_N_53 (oa_1 hb (by omega)) rfl ?_
      refine V_icmp_geN 35 d_N_takeLegs_7 (by decide) (by omega) (by omega) (fun ci => ?_) (fun ci => ?_)
      · exact V_return d_N_takeLegs_35 rfl ⟨rfl, by rw [show i = c by omega], rfl⟩
      · refine V_aload_n d_N_takeLegs_10 rfl ?_
        refine V_getfield d_N_takeLegs_11 fl_N_20 (oa_1 hb (by omega)) rfl ?_
        refine V_iload_n d_N_takeLegs_14 rfl ?_
        refine V_aload_n d_N_takeLegs_15 rfl ?_
        refine V_getfield d_N_takeLegs_16 fl_N_11 (oa_1 hb (by omega)) rfl ?_
        refine V_iload_n d_N_takeLegs_19 rfl ?_
        refine V_aaload d_N_takeLegs_20 (oa_1 hts (by omega)) rfl ⟨rfl, by omega, by decide⟩ rfl ?_
        refine V_getfield d_N_takeLegs_21 fl_N_177 (oa_1 (hT i (by omega)) (by omega)) rfl ?_
        refine V_iload_n d_N_takeLegs_24 rfl ?_
        refine V_iconst (-1) d_N_takeLegs_25 rfl ?_
        refine V_ixor d_N_takeLegs_26 ?_
        refine V_iand d_N_takeLegs_27 ?_
        refine V_eqI (nx_andn (lg i) cu) ?_
        refine V_istN d_N_takeLegs_28 og_0 ⟨rfl, by omega, by decide⟩ (h' := hv_ov h [(b + 43, eN 10 (hv_cp (fun j => anN (lg j) cu) l0 (i + 1)))]) (by rw [← hv_cp_s]; exact ou_0) ?_
        refine V_iincN_2 1 d_N_takeLegs_29 rfl rfl ?_
        refine V_goto 2 d_N_takeLegs_32 (by decide) ?_
        exact ih (c - (i + 1)) (by omega) (i + 1) rfl (by omega)
  refine hv_N.of' [some (.ref b), some (.int (nI cu)), none] (by decide +kernel) rfl rfl rfl ?_
  refine V_eqH (ob_1 hl0) ?_
  refine V_iconst (nI 0) d_N_takeLegs_0 rfl ?_
  refine V_istore_2 d_N_takeLegs_1 rfl ?_
  have J := lp _ 0 rfl (Nat.zero_le _)
  rw [hv_cp_0] at J
  exact J

set_option maxRecDepth 100000 in
set_option maxHeartbeats 4000000 in
theorem c_N_areLow (l : Launch) (D : hv_D) (h : hv_P) (nx : Nat) {b c : Nat} {ap z wk lk : Int32} (hb : h b = some (oN b (nI c) ap z wk lk)) {pl lg : Nat → Nat} (hts : h (b + 1) = some (eQ 2 10 (fun i => some (b + 2 + 4 * i)))) (hT : ∀ i, i < 10 → h (b + 2 + 4 * i) = some (oT (b + 2 + 4 * i) (nI (pl i)) (nI (lg i)))) {cu mo : Nat} (hc : c ≤ 10) (hmo : mo < 2 ^ 31) (hlg : ∀ i, i < c → lg i < 2 ^ 20) : hv_N l D M_N_areTensorsLow (hv_rm 1 20 0 0) [.ref b, .int (nI cu), .int (nI mo)] h nx (hv_ans (some (.int (bZ (alF lg cu mo c)))) (hv_same h nx)) := by
  have lp : ∀ (k i : Nat), k = c - i → i ≤ c → alF lg cu mo i = true → hv_V l D M_N_areTensorsLow (fun _ _ => True) (hv_rm 1 20 0 0) (hv_ans (some (.int (bZ (alF lg cu mo c)))) (hv_same h nx)) 0 0 (h) nx 2 [some (.ref b), some (.int (nI cu)), some (.int (nI mo)), some (.int (nI i))] [] := by
    intro k
    induction k using Nat.strongRecOn with
    | ind k ih =>
      intro i hk hi hal
      refine V_iload_n d_N_areTensorsLow_2 rfl ?_
      refine V_aload_n d_N_areTensorsLow_3 rfl ?_
      refine V_getfield d_N_areTensorsLow_4 fl_N_53 hb rfl ?_
      refine V_icmp_geN 38 d_N_areTensorsLow_7 (by decide) (by omega) (by omega) (fun ci => ?_) (fun ci => ?_)
      · refine V_iconst (1) d_N_areTensorsLow_38 rfl ?_
        exact V_zreturn d_N_areTensorsLow_39 rfl rfl ⟨by rw [← show i = c by omega, hal]; rfl, rfl, rfl⟩
      · have hx := anN_lt (c := cu) (hlg i (by omega))
        refine V_aload_n d_N_areTensorsLow_10 rfl ?_
        refine V_getfield d_N_areTensorsLow_11 fl_N_11 hb rfl ?_
        refine V_iload_n d_N_areTensorsLow_14 rfl ?_
        refine V_aaload d_N_areTensorsLow_15 hts rfl ⟨rfl, by omega, by decide⟩ rfl ?_
        refine V_getfield d_N_areTensorsLow_16 fl_N_177 (hT i (by omega)) rfl ?_
        refine V_iload_n d_N_areTensorsLow_19 rfl ?_
        refine V_iconst (-1) d_N_areTensorsLow_20 rfl ?_
        refine V_ixor d_N_areTensorsLow_21 ?_
        refine V_iand d_N_areTensorsLow_22 ?_
        refine V_eqI (nx_andn (lg i) cu) ?_
        refine V_callS1 d_N_areTensorsLow_23 ml_N_172 mB_JI_bitCount ms_JI_bitCount (c_bitCount l D _ _ (Nat.lt_of_lt_of_le hx (by decide))) rfl rfl rfl rfl rfl rfl rfl ?_
        rintro _ _ ⟨rfl, rfl⟩
        refine V_iload_n d_N_areTensorsLow_26 rfl ?_
        refine V_icmp_leN 32 d_N_areTensorsLow_27 (by decide) (by have := pc_le hx; omega) hmo (fun cm => ?_) (fun cm => ?_)
        · refine V_iincN_3 1 d_N_areTensorsLow_32 rfl rfl ?_
          refine V_goto 2 d_N_areTensorsLow_35 (by decide) ?_
          exact ih (c - (i + 1)) (by omega) (i + 1) rfl (by omega) (by simp [alF, hal, cm])
        · refine V_iconst (0) d_N_areTensorsLow_30 rfl ?_
          exact V_zreturn d_N_areTensorsLow_31 rfl rfl ⟨by have e := alF_f (mo := mo) (lg := lg) (cu := cu) (i := i) (by omega) (c - (i + 1)); rw [show i + 1 + (c - (i + 1)) = c by omega] at e; rw [e]; rfl, rfl, rfl⟩
  refine hv_N.of' [some (.ref b), some (.int (nI cu)), some (.int (nI mo)), none] (by decide +kernel) rfl rfl rfl ?_
  refine V_iconst (nI 0) d_N_areTensorsLow_0 rfl ?_
  refine V_istore_3 d_N_areTensorsLow_1 rfl ?_
  exact lp _ 0 rfl (Nat.zero_le _) rfl

set_option maxRecDepth 100000 in
set_option maxHeartbeats 4000000 in
theorem c_N_spread (l : Launch) (D : hv_D) (h : hv_P) (nx : Nat) {bits set : Nat} (hx : bits < 2 ^ 31) (hs : set < 2 ^ 31) : hv_N l D M_N_spread (hv_rm 1 21 0 0) [.int (nI bits), .int (nI set)] h nx (hv_ans (some (.int (nI (sprF bits set 20).1))) (hv_same h nx)) := by
  have lp : ∀ (k i : Nat), k = 20 - i → i ≤ 20 → hv_V l D M_N_spread (fun _ _ => True) (hv_rm 1 21 0 0) (hv_ans (some (.int (nI (sprF bits set 20).1))) (hv_same h nx)) 0 0 (h) nx 7 [some (.int (nI bits)), some (.int (nI set)), some (.int (nI (sprF bits set i).1)), some (.int (nI (sprF bits set i).2)), some (.int (nI i))] [] := by
    intro k
    induction k using Nat.strongRecOn with
    | ind k ih =>
      intro i hk hi
      refine V_iload d_N_spread_7 rfl ?_
      refine V_bipush (nI 20) d_N_spread_9 rfl ?_
      refine V_icmp_geN 43 d_N_spread_11 (by decide) (by omega) (by decide) (fun ci => ?_) (fun ci => ?_)
      · refine V_iload_n d_N_spread_43 rfl ?_
        exact V_ireturn d_N_spread_44 rfl ⟨by rw [show i = 20 by omega], rfl, rfl⟩
      · cases hb : set.testBit i
        · refine V_iload d_N_spread_14 rfl ?_
          refine V_iload_n d_N_spread_16 rfl ?_
          refine V_callS1 d_N_spread_17 ml_N_195 mB_N_isIn ms_N_isIn (c_N_isIn l D _ _ hs (by omega)) rfl rfl rfl rfl rfl rfl rfl ?_
          rintro _ _ ⟨rfl, rfl⟩
          refine V_if_eq 37 d_N_spread_20 (by decide) (fun _ => ?_) (fun q => absurd (by rw [hb]; rfl) q)
          refine V_iincN_4 1 d_N_spread_37 rfl rfl ?_
          refine V_goto 7 d_N_spread_40 (by decide) ?_
          have e1 : sprF bits set (i + 1) = sprF bits set i := by simp [sprF, hb]
          have J := ih (20 - (i + 1)) (by omega) (i + 1) rfl (by omega)
          rw [e1] at J
          exact J
        · refine V_iload d_N_spread_14 rfl ?_
          refine V_iload_n d_N_spread_16 rfl ?_
          refine V_callS1 d_N_spread_17 ml_N_195 mB_N_isIn ms_N_isIn (c_N_isIn l D _ _ hs (by omega)) rfl rfl rfl rfl rfl rfl rfl ?_
          rintro _ _ ⟨rfl, rfl⟩
          refine V_if_eq 37 d_N_spread_20 (by decide) (fun q => absurd q (by rw [hb]; decide)) (fun _ => ?_)
          refine V_iload_n d_N_spread_23 rfl ?_
          refine V_iload_n d_N_spread_24 rfl ?_
          refine V_iload_n d_N_spread_25 rfl ?_
          refine V_ishrN d_N_spread_26 hx (by have := sprF_j (bits := bits) (set := set) i; omega) ?_
          refine V_iconst (nI 1) d_N_spread_27 rfl ?_
          refine V_iandN d_N_spread_28 ?_
          refine V_iload d_N_spread_29 rfl ?_
          refine V_ishlN d_N_spread_31 (by omega) ?_
          refine V_iorN d_N_spread_32 ?_
          refine V_istore_2 d_N_spread_33 rfl ?_
          refine V_iincN_3 1 d_N_spread_34 rfl rfl ?_
          refine V_iincN_4 1 d_N_spread_37 rfl rfl ?_
          refine V_goto 7 d_N_spread_40 (by decide) ?_
          have e1 : sprF bits set (i + 1) = ((sprF bits set i).1 ||| (bits / 2 ^ (sprF bits set i).2 &&& 1) * 2 ^ i, (sprF bits set i).2 + 1) := by simp [sprF, hb]
          have J := ih (20 - (i + 1)) (by omega) (i + 1) rfl (by omega)
          rw [e1] at J
          exact J
  refine hv_N.of' [some (.int (nI bits)), some (.int (nI set)), none, none, none] (by decide +kernel) rfl rfl rfl ?_
  refine V_iconst (nI 0) d_N_spread_0 rfl ?_
  refine V_istore_2 d_N_spread_1 rfl ?_
  refine V_iconst (nI 0) d_N_spread_2 rfl ?_
  refine V_istore_3 d_N_spread_3 rfl ?_
  refine V_iconst (nI 0) d_N_spread_4 rfl ?_
  refine V_istore_4 d_N_spread_5 rfl ?_
  exact lp _ 0 rfl (Nat.zero_le _)

set_option maxRecDepth 100000 in
set_option maxHeartbeats 4000000 in
theorem c_N_gather (l : Launch) (D : hv_D) (h : hv_P) (nx : Nat) {nms set : Nat} (hx : nms < 2 ^ 31) (hs : set < 2 ^ 31) : hv_N l D M_N_gather (hv_rm 1 21 0 0) [.int (nI nms), .int (nI set)] h nx (hv_ans (some (.int (nI (gatF nms set 20).1))) (hv_same h nx)) := by
  have lp : ∀ (k i : Nat), k = 20 - i → i ≤ 20 → hv_V l D M_N_gather (fun _ _ => True) (hv_rm 1 21 0 0) (hv_ans (some (.int (nI (gatF nms set 20).1))) (hv_same h nx)) 0 0 (h) nx 7 [some (.int (nI nms)), some (.int (nI set)), some (.int (nI (gatF nms set i).1)), some (.int (nI (gatF nms set i).2)), some (.int (nI i))] [] := by
    intro k
    induction k using Nat.strongRecOn with
    | ind k ih =>
      intro i hk hi
      refine V_iload d_N_gather_7 rfl ?_
      refine V_bipush (nI 20) d_N_gather_9 rfl ?_
      refine V_icmp_geN 43 d_N_gather_11 (by decide) (by omega) (by decide) (fun ci => ?_) (fun ci => ?_)
      · refine V_iload_n d_N_gather_43 rfl ?_
        exact V_ireturn d_N_gather_44 rfl ⟨by rw [show i = 20 by omega], rfl, rfl⟩
      · cases hb : set.testBit i
        · refine V_iload d_N_gather_14 rfl ?_
          refine V_iload_n d_N_gather_16 rfl ?_
          refine V_callS1 d_N_gather_17 ml_N_195 mB_N_isIn ms_N_isIn (c_N_isIn l D _ _ hs (by omega)) rfl rfl rfl rfl rfl rfl rfl ?_
          rintro _ _ ⟨rfl, rfl⟩
          refine V_if_eq 37 d_N_gather_20 (by decide) (fun _ => ?_) (fun q => absurd (by rw [hb]; rfl) q)
          refine V_iincN_4 1 d_N_gather_37 rfl rfl ?_
          refine V_goto 7 d_N_gather_40 (by decide) ?_
          have e1 : gatF nms set (i + 1) = gatF nms set i := by simp [gatF, hb]
          have J := ih (20 - (i + 1)) (by omega) (i + 1) rfl (by omega)
          rw [e1] at J
          exact J
        · refine V_iload d_N_gather_14 rfl ?_
          refine V_iload_n d_N_gather_16 rfl ?_
          refine V_callS1 d_N_gather_17 ml_N_195 mB_N_isIn ms_N_isIn (c_N_isIn l D _ _ hs (by omega)) rfl rfl rfl rfl rfl rfl rfl ?_
          rintro _ _ ⟨rfl, rfl⟩
          refine V_if_eq 37 d_N_gather_20 (by decide) (fun q => absurd q (by rw [hb]; decide)) (fun _ => ?_)
          refine V_iload_n d_N_gather_23 rfl ?_
          refine V_iload_n d_N_gather_24 rfl ?_
          refine V_iload d_N_gather_25 rfl ?_
          refine V_ishrN d_N_gather_27 hx (by omega) ?_
          refine V_iconst (nI 1) d_N_gather_28 rfl ?_
          refine V_iandN d_N_gather_29 ?_
          refine V_iload_n d_N_gather_30 rfl ?_
          refine V_ishlN d_N_gather_31 (by have := gatF_j (nms := nms) (set := set) i; omega) ?_
          refine V_iorN d_N_gather_32 ?_
          refine V_istore_2 d_N_gather_33 rfl ?_
          refine V_iincN_3 1 d_N_gather_34 rfl rfl ?_
          refine V_iincN_4 1 d_N_gather_37 rfl rfl ?_
          refine V_goto 7 d_N_gather_40 (by decide) ?_
          have e1 : gatF nms set (i + 1) = ((gatF nms set i).1 ||| (nms / 2 ^ i &&& 1) * 2 ^ (gatF nms set i).2, (gatF nms set i).2 + 1) := by simp [gatF, hb]
          have J := ih (20 - (i + 1)) (by omega) (i + 1) rfl (by omega)
          rw [e1] at J
          exact J
  refine hv_N.of' [some (.int (nI nms)), some (.int (nI set)), none, none, none] (by decide +kernel) rfl rfl rfl ?_
  refine V_iconst (nI 0) d_N_gather_0 rfl ?_
  refine V_istore_2 d_N_gather_1 rfl ?_
  refine V_iconst (nI 0) d_N_gather_2 rfl ?_
  refine V_istore_3 d_N_gather_3 rfl ?_
  refine V_iconst (nI 0) d_N_gather_4 rfl ?_
  refine V_istore_4 d_N_gather_5 rfl ?_
  exact lp _ 0 rfl (Nat.zero_le _)
