-- JDK: Math.max, Arrays.fill
/-- the greater one -/
def hv_mx (x y : Int32) : Int32 := if x < y then y else x
def hv_fill {α : Type} (f : Nat → α) (n : Nat) (x : α) : Nat → α := fun j => if j < n then x else f j
theorem hv_fill_0 {α : Type} {f : Nat → α} {x : α} : hv_fill f 0 x = f := by funext j; simp [hv_fill]
theorem hv_fill_s {α : Type} {f : Nat → α} {x : α} {i : Nat} : va_up (hv_fill f i x) i x = hv_fill f (i + 1) x := by
  funext j
  simp only [va_up, hv_fill]
  split
  · rw [if_pos (by omega)]
  · split
    · rw [if_pos (by omega)]
    · rw [if_neg (by omega)]
set_option maxRecDepth 100000 in
set_option maxHeartbeats 4000000 in
theorem c_max (l : Launch) (D : hv_D) (h : hv_P) (nx : Nat) (x y : Int32) : hv_N l D M_JM_max (hv_rm 0 0 0 0) [.int x, .int y] h nx (hv_ans (some (.int (hv_mx x y))) (hv_same h nx)) := by
  refine hv_N.of' [some (.int x), some (.int y)] (by decide +kernel) rfl rfl rfl ?_
  refine V_iload_n d_JM_max_0 rfl ?_
  refine V_iload_n d_JM_max_1 rfl ?_
  refine V_icmp_lt 9 d_JM_max_2 (by decide) (fun q => ?_) (fun q => ?_)
  · refine V_iload_n d_JM_max_9 rfl ?_
    exact V_ireturn d_JM_max_10 rfl ⟨by simp only [hv_mx, q, if_true, if_false], rfl, rfl⟩
  · refine V_iload_n d_JM_max_5 rfl ?_
    refine V_goto 10 d_JM_max_6 (by decide) ?_
    exact V_ireturn d_JM_max_10 rfl ⟨by simp only [hv_mx, q, if_true, if_false], rfl, rfl⟩

set_option maxRecDepth 100000 in
set_option maxHeartbeats 4000000 in
theorem c_fill (l : Launch) (D : hv_D) (h : hv_P) (nx : Nat) {a n : Nat} {f : Nat → Int32} (x : Int32) (ha : h a = some (eI n f)) (hn : n < 2 ^ 31) : hv_N l D M_JA_fill (hv_rm 0 0 0 0) [.ref a, .int x] h nx (hv_ans none (fun h' n' => h' = hv_up h a (eI n (hv_fill f n x)) ∧ n' = nx)) := by
  have lp : ∀ (k i : Nat), k = n - i → i ≤ n → hv_V l D M_JA_fill (fun _ _ => True) (hv_rm 0 0 0 0) (hv_ans none (fun h' n' => h' = hv_up h a (eI n (hv_fill f n x)) ∧ n' = nx)) 0 0 (hv_up h a (eI n (hv_fill f i x))) nx 5 [some (.ref a), some (.int x), some (.int (nI i)), some (.int (nI n))] [] := by
    intro k
    induction k using Nat.strongRecOn with
    | ind k ih =>
      intro i hk hi
      refine V_iload_n d_JA_fill_5 rfl ?_
      refine V_iload_n d_JA_fill_6 rfl ?_
      refine V_icmp_geN 20 d_JA_fill_7 (by decide) (by omega) hn (fun c => ?_) (fun c => ?_)
      · exact V_return d_JA_fill_20 rfl ⟨rfl, by rw [show n = i by omega], rfl⟩
      · refine V_aload_n d_JA_fill_10 rfl ?_
        refine V_iload_n d_JA_fill_11 rfl ?_
        refine V_iload_n d_JA_fill_12 rfl ?_
        refine V_ist d_JA_fill_13 hv_up_s ⟨rfl, c, hn⟩ (by rw [hv_up_up, hv_fill_s]) ?_
        refine V_iincN_2 1 d_JA_fill_14 rfl rfl ?_
        refine V_goto 5 d_JA_fill_17 (by decide) ?_
        exact ih (n - (i + 1)) (by omega) (i + 1) rfl (by omega)
  refine hv_N.of' [some (.ref a), some (.int x), none, none] (by decide +kernel) rfl rfl rfl ?_
  refine V_iconst (nI 0) d_JA_fill_0 rfl ?_
  refine V_istore_2 d_JA_fill_1 rfl ?_
  refine V_aload_n d_JA_fill_2 rfl ?_
  refine V_arraylength d_JA_fill_3 ha ⟨_, rfl⟩ ?_
  refine V_istore_3 d_JA_fill_4 rfl ?_
  refine V_eqH (h2 := hv_up h a (eI n (hv_fill f 0 x))) (by rw [hv_fill_0, hv_up_self ha]) ?_
  exact lp _ 0 rfl (Nat.zero_le _)
