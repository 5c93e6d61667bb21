-- THE CLASS's cells
abbrev oN (b : Nat) (c ap z wk lk : Int32) : hv_E := eO 4 [.ref (b + 1), .ref (b + 42), .ref (b + 43), .ref (b + 44), .ref (b + 45), .ref (b + 51), .ref (b + 57), .ref (b + 62), .int c, .int ap, .int z, .int wk, .int lk]
abbrev oT (a : Nat) (pl lg : Int32) : hv_E := eO 3 [.ref (a + 1), .ref (a + 2), .ref (a + 3), .int pl, .int lg]
abbrev oO (a : Nat) (ac ml : Int32) : hv_E := eO 2 [.ref (a + 1), .ref (a + 2), .ref (a + 3), .ref (a + 4), .ref (a + 5), .int ac, .int ml]
abbrev oG (a : Nat) (gn ac : Int32) : hv_E := eO 1 [.ref (a + 1), .ref (a + 2), .ref (a + 3), .ref (a + 4), .int gn, .int ac]
abbrev oC (a rr ri : Nat) (op us : Int32) : hv_E := eO 0 [.ref (a + 1), .ref (a + 2), .ref (a + 3), .ref (a + 4), .ref (a + 5), .ref rr, .ref ri, .int op, .int us]
abbrev oK (k : Nat) (th tn op sh sp tu gc my : Int32) (sr si : Int64) (so sx : Int32) : hv_E := eO 5 [.int th, .int tn, .ref (k + 1), .ref (k + 2), .ref (k + 3), .ref (k + 4), .int op, .int sh, .ref (k + 5), .ref (k + 6), .ref (k + 7), .ref (k + 8), .int sp, .ref (k + 9), .ref (k + 10), .ref (k + 11), .ref (k + 12), .ref (k + 13), .ref (k + 14), .int tu, .int gc, .ref (k + 15), .ref (k + 16), .int my, .ref (k + 17), .ref (k + 18), .ref (k + 19), .long sr, .long si, .int so, .int sx]
/-- a truth as an int -/
def bZ (p : Bool) : Int32 := if p then 1 else 0
set_option maxRecDepth 100000 in
set_option maxHeartbeats 4000000 in
theorem c_N_isReady (l : Launch) (D : hv_D) (h : hv_P) (nx : Nat) {b : Nat} {c ap z wk lk : Int32} (hb : h b = some (oN b c ap z wk lk)) : hv_N l D M_N_isReady (hv_rm 0 0 0 0) [.ref b] h nx (hv_ans (some (.int (bZ (decide (¬ c ≤ 0) && decide (z = 0))))) (hv_same h nx)) := by
  refine hv_N.of' [some (.ref b)] (by decide +kernel) rfl rfl rfl ?_
  refine V_aload_n d_N_isReady_0 rfl ?_
  refine V_getfield d_N_isReady_1 fl_N_53 (by assumption) rfl ?_
  refine V_if_le 18 d_N_isReady_4 (by decide) (fun q1 => ?_) (fun q1 => ?_)
  · refine V_iconst (0) d_N_isReady_18 rfl ?_
    exact V_zreturn d_N_isReady_19 rfl rfl ⟨by first | (simp [bZ, q1, q2]; done) | (simp [bZ, q1]; done), rfl, rfl⟩
  · refine V_aload_n d_N_isReady_7 rfl ?_
    refine V_getfield d_N_isReady_8 fl_N_64 (by assumption) rfl ?_
    refine V_if_ne 18 d_N_isReady_11 (by decide) (fun q2 => ?_) (fun q2 => ?_)
    · refine V_iconst (0) d_N_isReady_18 rfl ?_
      exact V_zreturn d_N_isReady_19 rfl rfl ⟨by first | (simp [bZ, q1, q2]; done) | (simp [bZ, q1]; done), rfl, rfl⟩
    · refine V_iconst (1) d_N_isReady_14 rfl ?_
      refine V_goto 19 d_N_isReady_15 (by decide) ?_
      exact V_zreturn d_N_isReady_19 rfl rfl ⟨by first | (simp [bZ, q1, q2]; done) | (simp [bZ, q1]; done), rfl, rfl⟩

set_option maxRecDepth 100000 in
set_option maxHeartbeats 4000000 in
theorem c_N_isTensor (l : Launch) (D : hv_D) (h : hv_P) (nx : Nat) {b : Nat} {c ap z wk lk : Int32} (hb : h b = some (oN b c ap z wk lk)) (t : Int32) : hv_N l D M_N_isTensor (hv_rm 0 0 0 0) [.ref b, .int t] h nx (hv_ans (some (.int (bZ (decide (¬ t < 0) && decide (¬ c ≤ t))))) (hv_same h nx)) := by
  refine hv_N.of' [some (.ref b), some (.int t)] (by decide +kernel) rfl rfl rfl ?_
  refine V_iload_n d_N_isTensor_0 rfl ?_
  refine V_if_lt 16 d_N_isTensor_1 (by decide) (fun q1 => ?_) (fun q1 => ?_)
  · refine V_iconst (0) d_N_isTensor_16 rfl ?_
    exact V_zreturn d_N_isTensor_17 rfl rfl ⟨by first | (simp [bZ, q1, q2]; done) | (simp [bZ, q1]; done), rfl, rfl⟩
  · refine V_iload_n d_N_isTensor_4 rfl ?_
    refine V_aload_n d_N_isTensor_5 rfl ?_
    refine V_getfield d_N_isTensor_6 fl_N_53 (by assumption) rfl ?_
    refine V_icmp_ge 16 d_N_isTensor_9 (by decide) (fun q2 => ?_) (fun q2 => ?_)
    · refine V_iconst (0) d_N_isTensor_16 rfl ?_
      exact V_zreturn d_N_isTensor_17 rfl rfl ⟨by first | (simp [bZ, q1, q2]; done) | (simp [bZ, q1]; done), rfl, rfl⟩
    · refine V_iconst (1) d_N_isTensor_12 rfl ?_
      refine V_goto 17 d_N_isTensor_13 (by decide) ?_
      exact V_zreturn d_N_isTensor_17 rfl rfl ⟨by first | (simp [bZ, q1, q2]; done) | (simp [bZ, q1]; done), rfl, rfl⟩

set_option maxRecDepth 100000 in
set_option maxHeartbeats 4000000 in
theorem c_N_isPart (l : Launch) (D : hv_D) (h : hv_P) (nx : Nat) (t : Int32) : hv_N l D M_N_isPart (hv_rm 0 0 0 0) [.int t] h nx (hv_ans (some (.int (bZ (decide (¬ t < (-9)) && decide (¬ 9 < t))))) (hv_same h nx)) := by
  refine hv_N.of' [some (.int t)] (by decide +kernel) rfl rfl rfl ?_
  refine V_iload_n d_N_isPart_0 rfl ?_
  refine V_bipush (-9) d_N_isPart_1 rfl ?_
  refine V_icmp_lt 16 d_N_isPart_3 (by decide) (fun q1 => ?_) (fun q1 => ?_)
  · refine V_iconst (0) d_N_isPart_16 rfl ?_
    exact V_zreturn d_N_isPart_17 rfl rfl ⟨by first | (simp [bZ, q1, q2]; done) | (simp [bZ, q1]; done), rfl, rfl⟩
  · refine V_iload_n d_N_isPart_6 rfl ?_
    refine V_bipush (9) d_N_isPart_7 rfl ?_
    refine V_icmp_gt 16 d_N_isPart_9 (by decide) (fun q2 => ?_) (fun q2 => ?_)
    · refine V_iconst (0) d_N_isPart_16 rfl ?_
      exact V_zreturn d_N_isPart_17 rfl rfl ⟨by first | (simp [bZ, q1, q2]; done) | (simp [bZ, q1]; done), rfl, rfl⟩
    · refine V_iconst (1) d_N_isPart_12 rfl ?_
      refine V_goto 17 d_N_isPart_13 (by decide) ?_
      exact V_zreturn d_N_isPart_17 rfl rfl ⟨by first | (simp [bZ, q1, q2]; done) | (simp [bZ, q1]; done), rfl, rfl⟩

set_option maxRecDepth 100000 in
set_option maxHeartbeats 4000000 in
theorem c_K_isTensor (l : Launch) (D : hv_D) (h : hv_P) (nx : Nat) {k : Nat} {th tn op sh sp tu gc my : Int32} {sr si : Int64} {so sx : Int32} (hk : h k = some (oK k th tn op sh sp tu gc my sr si so sx)) (t : Int32) : hv_N l D M_K_isTensor (hv_rm 0 0 0 0) [.ref k, .int t] h nx (hv_ans (some (.int (bZ (decide (¬ t < 0) && decide (¬ tn ≤ t))))) (hv_same h nx)) := by
  refine hv_N.of' [some (.ref k), some (.int t)] (by decide +kernel) rfl rfl rfl ?_
  refine V_iload_n d_K_isTensor_0 rfl ?_
  refine V_if_lt 16 d_K_isTensor_1 (by decide) (fun q1 => ?_) (fun q1 => ?_)
  · refine V_iconst (0) d_K_isTensor_16 rfl ?_
    exact V_zreturn d_K_isTensor_17 rfl rfl ⟨by first | (simp [bZ, q1, q2]; done) | (simp [bZ, q1]; done), rfl, rfl⟩
  · refine V_iload_n d_K_isTensor_4 rfl ?_
    refine V_aload_n d_K_isTensor_5 rfl ?_
    refine V_getfield d_K_isTensor_6 fl_K_73 (by assumption) rfl ?_
    refine V_icmp_ge 16 d_K_isTensor_9 (by decide) (fun q2 => ?_) (fun q2 => ?_)
    · refine V_iconst (0) d_K_isTensor_16 rfl ?_
      exact V_zreturn d_K_isTensor_17 rfl rfl ⟨by first | (simp [bZ, q1, q2]; done) | (simp [bZ, q1]; done), rfl, rfl⟩
    · refine V_iconst (1) d_K_isTensor_12 rfl ?_
      refine V_goto 17 d_K_isTensor_13 (by decide) ?_
      exact V_zreturn d_K_isTensor_17 rfl rfl ⟨by first | (simp [bZ, q1, q2]; done) | (simp [bZ, q1]; done), rfl, rfl⟩

set_option maxRecDepth 100000 in
set_option maxHeartbeats 4000000 in
theorem c_K_clear (l : Launch) (D : hv_D) (h : hv_P) (nx : Nat) {k : Nat} {th tn op sh sp tu gc my : Int32} {sr si : Int64} {so sx : Int32} (hk : h k = some (oK k th tn op sh sp tu gc my sr si so sx)) : hv_N l D M_K_clear (hv_rm 0 0 0 0) [.ref k] h nx (hv_ans none (fun h' n' => h' = hv_up h k (oK k 0 0 op sh sp tu gc my sr si so sx) ∧ n' = nx)) := by
  refine hv_N.of' [some (.ref k)] (by decide +kernel) rfl rfl rfl ?_
  refine V_aload_n d_K_clear_0 rfl ?_
  refine V_iconst (0) d_K_clear_1 rfl ?_
  refine V_put (e' := oK k 0 tn op sh sp tu gc my sr si so sx) d_K_clear_2 fp_K_69 (by assumption) rfl rfl rfl rfl rfl ?_
  refine V_aload_n d_K_clear_5 rfl ?_
  refine V_iconst (0) d_K_clear_6 rfl ?_
  refine V_put (e' := oK k 0 0 op sh sp tu gc my sr si so sx) d_K_clear_7 fp_K_73 hv_up_s rfl rfl rfl rfl hv_up_up ?_
  exact V_return d_K_clear_10 rfl ⟨rfl, rfl, rfl⟩

set_option maxRecDepth 100000 in
set_option maxHeartbeats 4000000 in
theorem c_K_thrown (l : Launch) (D : hv_D) (h : hv_P) (nx : Nat) {k : Nat} {th tn op sh sp tu gc my : Int32} {sr si : Int64} {so sx : Int32} (hk : h k = some (oK k th tn op sh sp tu gc my sr si so sx)) : hv_N l D M_K_thrown (hv_rm 0 0 0 0) [.ref k] h nx (hv_ans (some (.int th)) (hv_same h nx)) := by
  refine hv_N.of' [some (.ref k)] (by decide +kernel) rfl rfl rfl ?_
  refine V_aload_n d_K_thrown_0 rfl ?_
  refine V_getfield d_K_thrown_1 fl_K_69 (by assumption) rfl ?_
  exact V_ireturn d_K_thrown_4 rfl ⟨rfl, rfl, rfl⟩

set_option maxRecDepth 100000 in
set_option maxHeartbeats 4000000 in
theorem c_K_raise (l : Launch) (D : hv_D) (h : hv_P) (nx : Nat) {k : Nat} {th tn op sh sp tu gc my : Int32} {sr si : Int64} {so sx : Int32} (hk : h k = some (oK k th tn op sh sp tu gc my sr si so sx)) (x : Int32) : hv_N l D M_K_raise (hv_rm 0 0 0 0) [.ref k, .int x] h nx (hv_ans (some (.long 0)) (fun h' n' => h' = hv_up h k (oK k x tn op sh sp tu gc my sr si so sx) ∧ n' = nx)) := by
  refine hv_N.of' [some (.ref k), some (.int x)] (by decide +kernel) rfl rfl rfl ?_
  refine V_aload_n d_K_raise_0 rfl ?_
  refine V_iload_n d_K_raise_1 rfl ?_
  refine V_put (e' := oK k x tn op sh sp tu gc my sr si so sx) d_K_raise_2 fp_K_69 (by assumption) rfl rfl rfl rfl rfl ?_
  refine V_lconst 0 d_K_raise_5 rfl ?_
  exact V_lreturn d_K_raise_6 rfl ⟨rfl, rfl, rfl⟩

theorem hv_bit_eq {a k : Nat} : (a / 2 ^ k &&& 1 = 1) = (a.testBit k = true) := by
  rw [Nat.and_one_is_mod, Nat.testBit_eq_decide_div_mod_eq]
  simp
set_option maxRecDepth 100000 in
set_option maxHeartbeats 4000000 in
theorem c_N_isIn (l : Launch) (D : hv_D) (h : hv_P) (nx : Nat) {a k : Nat} (ha : a < 2 ^ 31) (hk : k < 32) : hv_N l D M_N_isIn (hv_rm 0 0 0 0) [.int (nI k), .int (nI a)] h nx (hv_ans (some (.int (bZ (a.testBit k)))) (hv_same h nx)) := by
  refine hv_N.of' [some (.int (nI k)), some (.int (nI a))] (by decide +kernel) rfl rfl rfl ?_
  refine V_iload_n d_N_isIn_0 rfl ?_
  refine V_iload_n d_N_isIn_1 rfl ?_
  refine V_ishrN d_N_isIn_2 ha hk ?_
  refine V_iconst (nI 1) d_N_isIn_3 rfl ?_
  refine V_iandN d_N_isIn_4 ?_
  refine V_iconst (nI 1) d_N_isIn_5 rfl ?_
  refine V_icmp_neN 13 d_N_isIn_6 (by decide) (Nat.lt_of_le_of_lt Nat.and_le_right (by decide)) (by decide) (fun q => ?_) (fun q => ?_)
  · refine V_iconst (0) d_N_isIn_13 rfl ?_
    exact V_zreturn d_N_isIn_14 rfl rfl ⟨by simp only [ne_eq, hv_bit_eq] at q; simp [bZ, q], rfl, rfl⟩
  · refine V_iconst (1) d_N_isIn_9 rfl ?_
    refine V_goto 14 d_N_isIn_10 (by decide) ?_
    exact V_zreturn d_N_isIn_14 rfl rfl ⟨by simp only [ne_eq, hv_bit_eq] at q; simp [bZ, q], rfl, rfl⟩
