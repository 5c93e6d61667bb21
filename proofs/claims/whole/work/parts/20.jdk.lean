/-- the greater one -/
def hv_mx (x y : Int32) : Int32 := if x < y then y else x
set_option maxRecDepth 100000 in
set_option maxHeartbeats 4000000 in
theorem c_max (l : Launch) (D : hv_D) (h : hv_P) (nx : Nat) (x y : Int32) : hv_N l D M_JM_max (hv_rm 0 0 0 0) [.int x, .int y] h nx (hv_ans (some (.int (hv_mx x y))) (hv_same h nx)) := by
  refine hv_N.of' [some (.int x), some (.int y)] (by decide +kernel) rfl rfl rfl ?_
  refine V_iload_n d_JM_max_0 rfl ?_
  refine V_iload_n d_JM_max_1 rfl ?_
  refine V_icmp_lt 9 d_JM_max_2 (by decide) (fun q => ?_) (fun q => ?_)
  · refine V_iload_n d_JM_max_9 rfl ?_
    exact V_ireturn d_JM_max_10 rfl ⟨by simp only [hv_mx, q, if_true, if_false], rfl, rfl⟩
  · refine V_iload_n d_JM_max_5 rfl ?_
    refine V_goto 10 d_JM_max_6 (by decide) ?_
    exact V_ireturn d_JM_max_10 rfl ⟨by simp only [hv_mx, q, if_true, if_false], rfl, rfl⟩
