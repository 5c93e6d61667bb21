-- THE LAW's value and slope: what they catch they say
def nFr3 (b : Nat) (h h' : hv_P) : Prop := ∀ q, q < b ∨ (b + 69 < q ∧ q < b + 90) → h' q = h q
set_option maxRecDepth 100000 in
set_option maxHeartbeats 4000000 in
theorem c_L_value1 (l : Launch) (htr : ∀ e, l.admits e → e.platform.stackTraces = false) (D : hv_D) (h : hv_P) (nx : Nat) {b c n : Nat} {wk : Int32} {pl : Nat → Nat} {la : Nat → Option Nat} {re im : Nat → Int32} (hS : nS h b wk c pl la re im n) {w part : Int32} (hx : ¬ tellV c pl la w part) : hv_NT l D M_L_value (hv_wsW M_L_value [(0, 9, 12, 13), (0, 9, 16, 15)]) (hv_rm 8 150 1 6) [.ref b, .int w, .int part, .ref (b + 90)] h nx (hv_ans (some (.int 1)) (fun h' n' => h' = h ∧ n' = nx + 1)) := by
  refine hv_NT.ofW [some (.ref b), some (.int w), some (.int part), some (.ref (b + 90)), none] (by decide +kernel) rfl rfl rfl ?_
  have hS1 := hS
  obtain ⟨lk, cu, u, l0, cp, hb, _⟩ := hS1
  refine V_aload_n d_L_value_0 rfl ?_
  refine V_iconst (0) d_L_value_1 rfl ?_
  refine V_aload_n d_L_value_2 rfl ?_
  refine V_iload_n d_L_value_3 rfl ?_
  refine V_iload_n d_L_value_4 rfl ?_
  refine V_vC (p1 := 12) (p2 := 16) (i1 := 13) (i2 := 15) (q1 := 9) (fun s A q => q) rfl xl_13 xl_15 ⟨by decide, by decide⟩ (by decide) d_L_value_5 ml_L_7 mB_N_value mi_N_value mv_N_value rfl hb (c_N_value1 l htr D _ _ hS hx) (hv_thr_2 (by decide)) rfl rfl rfl rfl rfl (by decide) (by decide) ?_
  rintro k x9 h9 n9 ⟨e, q9⟩
  cases e
  rw [if_pos rfl]
  refine V_astore_4 d_L_value_12 rfl ?_
  refine V_iconst (1) d_L_value_14 rfl ?_
  exact V_ireturn d_L_value_15 rfl ⟨rfl, q9⟩

set_option maxRecDepth 100000 in
set_option maxHeartbeats 4000000 in
theorem c_L_value2 (l : Launch) (htr : ∀ e, l.admits e → e.platform.stackTraces = false) (D : hv_D) (h : hv_P) (nx : Nat) {b c n : Nat} {wk : Int32} {pl : Nat → Nat} {la : Nat → Option Nat} {re im : Nat → Int32} (hS : nS h b wk c pl la re im n) {w part : Int32} (hx : tellV c pl la w part) (hk : 12 < PK (LC pl la 0) c) : hv_NT l D M_L_value (hv_wsW M_L_value [(0, 9, 12, 13), (0, 9, 16, 15)]) (hv_rm 8 186 1 6) [.ref b, .int w, .int part, .ref (b + 90)] h nx (hv_ans (some (.int 2)) (fun h' n' => n' = nx + 1 ∧ nFr b h h' ∧ ∃ wk', nS h' b wk' c pl la re im n)) := by
  refine hv_NT.ofW [some (.ref b), some (.int w), some (.int part), some (.ref (b + 90)), none] (by decide +kernel) rfl rfl rfl ?_
  have hS1 := hS
  obtain ⟨lk, cu, u, l0, cp, hb, _⟩ := hS1
  refine V_aload_n d_L_value_0 rfl ?_
  refine V_iconst (0) d_L_value_1 rfl ?_
  refine V_aload_n d_L_value_2 rfl ?_
  refine V_iload_n d_L_value_3 rfl ?_
  refine V_iload_n d_L_value_4 rfl ?_
  refine V_vC (p1 := 12) (p2 := 16) (i1 := 13) (i2 := 15) (q1 := 9) (fun s A q => q) rfl xl_13 xl_15 ⟨by decide, by decide⟩ (by decide) d_L_value_5 ml_L_7 mB_N_value mi_N_value mv_N_value rfl hb (c_N_value2 l htr D _ _ hS hx hk) (hv_thr_2 (by decide)) rfl rfl rfl rfl rfl (by decide) (by decide) ?_
  rintro k x9 h9 n9 ⟨e, q9⟩
  cases e
  rw [if_neg (by decide)]
  refine V_astore_4 d_L_value_16 rfl ?_
  refine V_iconst (2) d_L_value_18 rfl ?_
  exact V_ireturn d_L_value_19 rfl ⟨rfl, q9⟩

set_option maxRecDepth 100000 in
set_option maxHeartbeats 4000000 in
theorem c_L_value30 (l : Launch) (htr : ∀ e, l.admits e → e.platform.stackTraces = false) (D : hv_D) (h : hv_P) (nx : Nat) {b c n : Nat} {wk : Int32} {pl : Nat → Nat} {la : Nat → Option Nat} {re im : Nat → Int32} (hS : nS h b wk c pl la re im n) {f : Nat → Int64} (ho : h (b + 90) = some (eL 1 f)) {w part : Int32} (hx : tellV c pl la w part) (hk : PK (LC pl la 0) c ≤ 12) (hnx : b + 91 ≤ nx) (hnd : ndF c pl la ≤ n) : hv_NT l D M_L_value (hv_wsW M_L_value [(0, 9, 12, 13), (0, 9, 16, 15)]) (hv_rm 7 186 0 0) [.ref b, .int w, .int part, .ref (b + 90)] h nx (hv_ans (some (.int 0)) (fun h' n' => n' = nx ∧ (∃ f' : Nat → Int64, h' (b + 90) = some (eL 1 f') ∧ f' 0 = A_val c pl la re im (-1) 0 w part) ∧ nFr3 b h h' ∧ ∃ wk', nS h' b wk' c pl la re im (gN n (ndF c pl la)))) := by
  refine hv_NT.ofW [some (.ref b), some (.int w), some (.int part), some (.ref (b + 90)), none] (by decide +kernel) rfl rfl rfl ?_
  have hS1 := hS
  obtain ⟨lk, cu, u, l0, cp, hb, _⟩ := hS1
  refine V_aload_n d_L_value_0 rfl ?_
  refine V_iconst (nI 0) d_L_value_1 rfl ?_
  refine V_aload_n d_L_value_2 rfl ?_
  refine V_iload_n d_L_value_3 rfl ?_
  refine V_iload_n d_L_value_4 rfl ?_
  refine V_vR (fun s A q => q.1) d_L_value_5 ml_L_7 mB_N_value mi_N_value mv_N_value rfl hb (c_N_value30 l htr D _ _ hS hx hk hnx hnd) hv_ans_r rfl rfl rfl rfl rfl (Nat.le_refl _) (Nat.le_refl _) ?_
  rintro v h9 n9 ⟨e, e9, fr9, wk9, ns9⟩
  cases e
  refine V_lst d_L_value_8 ((fr9 _ (by omega)).trans ho) ⟨rfl, by decide, by decide⟩ rfl ?_
  refine V_goto 20 d_L_value_9 (by decide) ?_
  refine V_iconst (0) d_L_value_20 rfl ?_
  exact V_ireturn d_L_value_21 rfl ⟨rfl, e9, ⟨_, hv_up_s, vu_s⟩, fun q hq => (hv_up_n (by omega)).trans (fr9 q (by omega)), wk9, ns9.fr (fun q hq => hv_up_n (by omega))⟩

set_option maxRecDepth 100000 in
set_option maxHeartbeats 4000000 in
theorem c_L_value31 (l : Launch) (htr : ∀ e, l.admits e → e.platform.stackTraces = false) (D : hv_D) (h : hv_P) (nx : Nat) {b c n : Nat} {wk : Int32} {pl : Nat → Nat} {la : Nat → Option Nat} {re im : Nat → Int32} (hS : nS h b wk c pl la re im n) {f : Nat → Int64} (ho : h (b + 90) = some (eL 1 f)) {w part : Int32} (hx : tellV c pl la w part) (hk : PK (LC pl la 0) c ≤ 12) (hnx : b + 91 ≤ nx) (hnd : n < ndF c pl la) : hv_NT l D M_L_value (hv_wsW M_L_value [(0, 9, 12, 13), (0, 9, 16, 15)]) (hv_rm 7 186 2 (2 * max (ndF c pl la) (2 * n))) [.ref b, .int w, .int part, .ref (b + 90)] h nx (hv_ans (some (.int 0)) (fun h' n' => n' = nx + 2 ∧ (∃ f' : Nat → Int64, h' (b + 90) = some (eL 1 f') ∧ f' 0 = A_val c pl la re im (-1) 0 w part) ∧ nFr3 b h h' ∧ ∃ wk', nS h' b wk' c pl la re im (gN n (ndF c pl la)))) := by
  refine hv_NT.ofW [some (.ref b), some (.int w), some (.int part), some (.ref (b + 90)), none] (by decide +kernel) rfl rfl rfl ?_
  have hS1 := hS
  obtain ⟨lk, cu, u, l0, cp, hb, _⟩ := hS1
  refine V_aload_n d_L_value_0 rfl ?_
  refine V_iconst (nI 0) d_L_value_1 rfl ?_
  refine V_aload_n d_L_value_2 rfl ?_
  refine V_iload_n d_L_value_3 rfl ?_
  refine V_iload_n d_L_value_4 rfl ?_
  refine V_vR (fun s A q => q.1) d_L_value_5 ml_L_7 mB_N_value mi_N_value mv_N_value rfl hb (c_N_value31 l htr D _ _ hS hx hk hnx hnd) hv_ans_r rfl rfl rfl rfl rfl (Nat.le_refl _) (Nat.le_refl _) ?_
  rintro v h9 n9 ⟨e, e9, fr9, wk9, ns9⟩
  cases e
  refine V_lst d_L_value_8 ((fr9 _ (by omega)).trans ho) ⟨rfl, by decide, by decide⟩ rfl ?_
  refine V_goto 20 d_L_value_9 (by decide) ?_
  refine V_iconst (0) d_L_value_20 rfl ?_
  exact V_ireturn d_L_value_21 rfl ⟨rfl, e9, ⟨_, hv_up_s, vu_s⟩, fun q hq => (hv_up_n (by omega)).trans (fr9 q (by omega)), wk9, ns9.fr (fun q hq => hv_up_n (by omega))⟩

set_option maxRecDepth 100000 in
set_option maxHeartbeats 4000000 in
theorem c_L_slope1a (l : Launch) (htr : ∀ e, l.admits e → e.platform.stackTraces = false) (D : hv_D) (h : hv_P) (nx : Nat) {b c n : Nat} {wk : Int32} {pl : Nat → Nat} {la : Nat → Option Nat} {re im : Nat → Int32} (hS : nS h b wk c pl la re im n) {t x w part : Int32} (hx : ¬ tellV c pl la w part) : hv_NT l D M_L_slope (hv_wsW M_L_slope [(0, 13, 16, 13), (0, 13, 20, 15)]) (hv_rm 8 150 1 6) [.ref b, .int t, .int x, .int w, .int part, .ref (b + 90)] h nx (hv_ans (some (.int 1)) (fun h' n' => h' = h ∧ n' = nx + 1)) := by
  refine hv_NT.ofW [some (.ref b), some (.int t), some (.int x), some (.int w), some (.int part), some (.ref (b + 90)), none] (by decide +kernel) rfl rfl rfl ?_
  have hS1 := hS
  obtain ⟨lk, cu, u, l0, cp, hb, _⟩ := hS1
  refine V_aload d_L_slope_0 rfl ?_
  refine V_iconst (0) d_L_slope_2 rfl ?_
  refine V_aload_n d_L_slope_3 rfl ?_
  refine V_iload_n d_L_slope_4 rfl ?_
  refine V_iload_n d_L_slope_5 rfl ?_
  refine V_iload_n d_L_slope_6 rfl ?_
  refine V_iload d_L_slope_7 rfl ?_
  refine V_vC (p1 := 16) (p2 := 20) (i1 := 13) (i2 := 15) (q1 := 13) (fun s A q => q) rfl xl_13 xl_15 ⟨by decide, by decide⟩ (by decide) d_L_slope_9 ml_L_17 mB_N_slope mi_N_slope mv_N_slope rfl hb (c_N_slope1a l htr D _ _ hS hx) (hv_thr_2 (by decide)) rfl rfl rfl rfl rfl (by decide) (by decide) ?_
  rintro k x9 h9 n9 ⟨e, q9⟩
  cases e
  rw [if_pos rfl]
  refine V_astore_6 d_L_slope_16 rfl ?_
  refine V_iconst (1) d_L_slope_18 rfl ?_
  exact V_ireturn d_L_slope_19 rfl ⟨rfl, q9⟩

set_option maxRecDepth 100000 in
set_option maxHeartbeats 4000000 in
theorem c_L_slope1b (l : Launch) (htr : ∀ e, l.admits e → e.platform.stackTraces = false) (D : hv_D) (h : hv_P) (nx : Nat) {b c n : Nat} {wk : Int32} {pl : Nat → Nat} {la : Nat → Option Nat} {re im : Nat → Int32} (hS : nS h b wk c pl la re im n) {t x w part : Int32} (hi : ¬ idxV c pl t x) (hx : tellV c pl la w part) : hv_NT l D M_L_slope (hv_wsW M_L_slope [(0, 13, 16, 13), (0, 13, 20, 15)]) (hv_rm 8 150 1 6) [.ref b, .int t, .int x, .int w, .int part, .ref (b + 90)] h nx (hv_ans (some (.int 1)) (fun h' n' => h' = h ∧ n' = nx + 1)) := by
  refine hv_NT.ofW [some (.ref b), some (.int t), some (.int x), some (.int w), some (.int part), some (.ref (b + 90)), none] (by decide +kernel) rfl rfl rfl ?_
  have hS1 := hS
  obtain ⟨lk, cu, u, l0, cp, hb, _⟩ := hS1
  refine V_aload d_L_slope_0 rfl ?_
  refine V_iconst (0) d_L_slope_2 rfl ?_
  refine V_aload_n d_L_slope_3 rfl ?_
  refine V_iload_n d_L_slope_4 rfl ?_
  refine V_iload_n d_L_slope_5 rfl ?_
  refine V_iload_n d_L_slope_6 rfl ?_
  refine V_iload d_L_slope_7 rfl ?_
  refine V_vC (p1 := 16) (p2 := 20) (i1 := 13) (i2 := 15) (q1 := 13) (fun s A q => q) rfl xl_13 xl_15 ⟨by decide, by decide⟩ (by decide) d_L_slope_9 ml_L_17 mB_N_slope mi_N_slope mv_N_slope rfl hb (c_N_slope1b l htr D _ _ hS hi hx) (hv_thr_2 (by decide)) rfl rfl rfl rfl rfl (by decide) (by decide) ?_
  rintro k x9 h9 n9 ⟨e, q9⟩
  cases e
  rw [if_pos rfl]
  refine V_astore_6 d_L_slope_16 rfl ?_
  refine V_iconst (1) d_L_slope_18 rfl ?_
  exact V_ireturn d_L_slope_19 rfl ⟨rfl, q9⟩

set_option maxRecDepth 100000 in
set_option maxHeartbeats 4000000 in
theorem c_L_slope2 (l : Launch) (htr : ∀ e, l.admits e → e.platform.stackTraces = false) (D : hv_D) (h : hv_P) (nx : Nat) {b c n : Nat} {wk : Int32} {pl : Nat → Nat} {la : Nat → Option Nat} {re im : Nat → Int32} (hS : nS h b wk c pl la re im n) {t x w part : Int32} (hi : idxV c pl t x) (hx : tellV c pl la w part) (hk : 12 < PK (LC pl la 0) c) : hv_NT l D M_L_slope (hv_wsW M_L_slope [(0, 13, 16, 13), (0, 13, 20, 15)]) (hv_rm 8 186 1 6) [.ref b, .int t, .int x, .int w, .int part, .ref (b + 90)] h nx (hv_ans (some (.int 2)) (fun h' n' => n' = nx + 1 ∧ nFr b h h' ∧ ∃ wk', nS h' b wk' c pl la re im n)) := by
  refine hv_NT.ofW [some (.ref b), some (.int t), some (.int x), some (.int w), some (.int part), some (.ref (b + 90)), none] (by decide +kernel) rfl rfl rfl ?_
  have hS1 := hS
  obtain ⟨lk, cu, u, l0, cp, hb, _⟩ := hS1
  refine V_aload d_L_slope_0 rfl ?_
  refine V_iconst (0) d_L_slope_2 rfl ?_
  refine V_aload_n d_L_slope_3 rfl ?_
  refine V_iload_n d_L_slope_4 rfl ?_
  refine V_iload_n d_L_slope_5 rfl ?_
  refine V_iload_n d_L_slope_6 rfl ?_
  refine V_iload d_L_slope_7 rfl ?_
  refine V_vC (p1 := 16) (p2 := 20) (i1 := 13) (i2 := 15) (q1 := 13) (fun s A q => q) rfl xl_13 xl_15 ⟨by decide, by decide⟩ (by decide) d_L_slope_9 ml_L_17 mB_N_slope mi_N_slope mv_N_slope rfl hb (c_N_slope2 l htr D _ _ hS hi hx hk) (hv_thr_2 (by decide)) rfl rfl rfl rfl rfl (by decide) (by decide) ?_
  rintro k x9 h9 n9 ⟨e, q9⟩
  cases e
  rw [if_neg (by decide)]
  refine V_astore_6 d_L_slope_20 rfl ?_
  refine V_iconst (2) d_L_slope_22 rfl ?_
  exact V_ireturn d_L_slope_23 rfl ⟨rfl, q9⟩

set_option maxRecDepth 100000 in
set_option maxHeartbeats 4000000 in
theorem c_L_slope30 (l : Launch) (htr : ∀ e, l.admits e → e.platform.stackTraces = false) (D : hv_D) (h : hv_P) (nx : Nat) {b c n : Nat} {wk : Int32} {pl : Nat → Nat} {la : Nat → Option Nat} {re im : Nat → Int32} (hS : nS h b wk c pl la re im n) {f : Nat → Int64} (ho : h (b + 90) = some (eL 1 f)) {t x w part : Int32} (hi : idxV c pl t x) (hx : tellV c pl la w part) (hk : PK (LC pl la 0) c ≤ 12) (hnx : b + 91 ≤ nx) (hnd : ndF c pl la ≤ n) : hv_NT l D M_L_slope (hv_wsW M_L_slope [(0, 13, 16, 13), (0, 13, 20, 15)]) (hv_rm 7 186 0 0) [.ref b, .int t, .int x, .int w, .int part, .ref (b + 90)] h nx (hv_ans (some (.int 0)) (fun h' n' => n' = nx ∧ (∃ f' : Nat → Int64, h' (b + 90) = some (eL 1 f') ∧ f' 0 = A_val c pl la re im t x w part) ∧ nFr3 b h h' ∧ ∃ wk', nS h' b wk' c pl la re im (gN n (ndF c pl la)))) := by
  refine hv_NT.ofW [some (.ref b), some (.int t), some (.int x), some (.int w), some (.int part), some (.ref (b + 90)), none] (by decide +kernel) rfl rfl rfl ?_
  have hS1 := hS
  obtain ⟨lk, cu, u, l0, cp, hb, _⟩ := hS1
  refine V_aload d_L_slope_0 rfl ?_
  refine V_iconst (nI 0) d_L_slope_2 rfl ?_
  refine V_aload_n d_L_slope_3 rfl ?_
  refine V_iload_n d_L_slope_4 rfl ?_
  refine V_iload_n d_L_slope_5 rfl ?_
  refine V_iload_n d_L_slope_6 rfl ?_
  refine V_iload d_L_slope_7 rfl ?_
  refine V_vR (fun s A q => q.1) d_L_slope_9 ml_L_17 mB_N_slope mi_N_slope mv_N_slope rfl hb (c_N_slope30 l htr D _ _ hS hi hx hk hnx hnd) hv_ans_r rfl rfl rfl rfl rfl (Nat.le_refl _) (Nat.le_refl _) ?_
  rintro v h9 n9 ⟨e, e9, fr9, wk9, ns9⟩
  cases e
  refine V_lst d_L_slope_12 ((fr9 _ (by omega)).trans ho) ⟨rfl, by decide, by decide⟩ rfl ?_
  refine V_goto 24 d_L_slope_13 (by decide) ?_
  refine V_iconst (0) d_L_slope_24 rfl ?_
  exact V_ireturn d_L_slope_25 rfl ⟨rfl, e9, ⟨_, hv_up_s, vu_s⟩, fun q hq => (hv_up_n (by omega)).trans (fr9 q (by omega)), wk9, ns9.fr (fun q hq => hv_up_n (by omega))⟩

set_option maxRecDepth 100000 in
set_option maxHeartbeats 4000000 in
theorem c_L_slope31 (l : Launch) (htr : ∀ e, l.admits e → e.platform.stackTraces = false) (D : hv_D) (h : hv_P) (nx : Nat) {b c n : Nat} {wk : Int32} {pl : Nat → Nat} {la : Nat → Option Nat} {re im : Nat → Int32} (hS : nS h b wk c pl la re im n) {f : Nat → Int64} (ho : h (b + 90) = some (eL 1 f)) {t x w part : Int32} (hi : idxV c pl t x) (hx : tellV c pl la w part) (hk : PK (LC pl la 0) c ≤ 12) (hnx : b + 91 ≤ nx) (hnd : n < ndF c pl la) : hv_NT l D M_L_slope (hv_wsW M_L_slope [(0, 13, 16, 13), (0, 13, 20, 15)]) (hv_rm 7 186 2 (2 * max (ndF c pl la) (2 * n))) [.ref b, .int t, .int x, .int w, .int part, .ref (b + 90)] h nx (hv_ans (some (.int 0)) (fun h' n' => n' = nx + 2 ∧ (∃ f' : Nat → Int64, h' (b + 90) = some (eL 1 f') ∧ f' 0 = A_val c pl la re im t x w part) ∧ nFr3 b h h' ∧ ∃ wk', nS h' b wk' c pl la re im (gN n (ndF c pl la)))) := by
  refine hv_NT.ofW [some (.ref b), some (.int t), some (.int x), some (.int w), some (.int part), some (.ref (b + 90)), none] (by decide +kernel) rfl rfl rfl ?_
  have hS1 := hS
  obtain ⟨lk, cu, u, l0, cp, hb, _⟩ := hS1
  refine V_aload d_L_slope_0 rfl ?_
  refine V_iconst (nI 0) d_L_slope_2 rfl ?_
  refine V_aload_n d_L_slope_3 rfl ?_
  refine V_iload_n d_L_slope_4 rfl ?_
  refine V_iload_n d_L_slope_5 rfl ?_
  refine V_iload_n d_L_slope_6 rfl ?_
  refine V_iload d_L_slope_7 rfl ?_
  refine V_vR (fun s A q => q.1) d_L_slope_9 ml_L_17 mB_N_slope mi_N_slope mv_N_slope rfl hb (c_N_slope31 l htr D _ _ hS hi hx hk hnx hnd) hv_ans_r rfl rfl rfl rfl rfl (Nat.le_refl _) (Nat.le_refl _) ?_
  rintro v h9 n9 ⟨e, e9, fr9, wk9, ns9⟩
  cases e
  refine V_lst d_L_slope_12 ((fr9 _ (by omega)).trans ho) ⟨rfl, by decide, by decide⟩ rfl ?_
  refine V_goto 24 d_L_slope_13 (by decide) ?_
  refine V_iconst (0) d_L_slope_24 rfl ?_
  exact V_ireturn d_L_slope_25 rfl ⟨rfl, e9, ⟨_, hv_up_s, vu_s⟩, fun q hq => (hv_up_n (by omega)).trans (fr9 q (by omega)), wk9, ns9.fr (fun q hq => hv_up_n (by omega))⟩
