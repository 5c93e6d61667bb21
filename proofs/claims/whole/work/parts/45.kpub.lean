-- THE MODEL'S PUBLIC METHODS
def kS (h : hv_P) (k : Nat) (th : Int32) (c : Nat) (pl : Nat → Nat) (la : Nat → Option Nat) (re im : Nat → Int32) : Prop := (∃ (op sh sp tu gc my so sx : Int32) (sr si : Int64), h k = some (oK k th (nI c) op sh sp tu gc my sr si so sx)) ∧ h (k + 1) = some (eN 10 pl) ∧ h (k + 2) = some (eM 60 la) ∧ h (k + 3) = some (eI 640 re) ∧ h (k + 4) = some (eI 640 im) ∧ (∃ f5 : Nat → Nat, h (k + 5) = some (eN 10 f5)) ∧ (∃ f6 : Nat → Nat, h (k + 6) = some (eN 1024 f6)) ∧ (∃ f7 : Nat → Nat, h (k + 7) = some (eN 1024 f7)) ∧ (∃ f8 : Nat → Nat, h (k + 8) = some (eN 1024 f8)) ∧ (∃ f9 : Nat → Nat, h (k + 9) = some (eN 10 f9)) ∧ (∃ f10 : Nat → Nat, h (k + 10) = some (eN 20 f10)) ∧ (∃ f11 : Nat → Nat, h (k + 11) = some (eN 20 f11)) ∧ (∃ f12 : Nat → Bool, h (k + 12) = some (eB 20 f12)) ∧ (∃ f13 : Nat → Nat, h (k + 13) = some (eN 10 f13)) ∧ (∃ f14 : Nat → Nat, h (k + 14) = some (eN 10 f14)) ∧ (∃ f15 : Nat → Nat, h (k + 15) = some (eN 20 f15)) ∧ (∃ f16 : Nat → Nat, h (k + 16) = some (eN 20 f16)) ∧ (∃ f17 : Nat → Nat, h (k + 17) = some (eN 10 f17)) ∧ (∃ f18 : Nat → Int64, h (k + 18) = some (eL 21 f18)) ∧ (∃ f19 : Nat → Int64, h (k + 19) = some (eL 21 f19))
def kFr (k : Nat) (h h' : hv_P) : Prop := ∀ q, q < k ∨ k + 19 < q → h' q = h q
theorem oz_1 {h : hv_P} {q a0 : Nat} {e0 : hv_E} (n0 : q ≠ a0) : hv_ov h [(a0, e0)] q = h q := ((hv_up_n n0).trans rfl)
theorem oz_2 {h : hv_P} {q a0 a1 : Nat} {e0 e1 : hv_E} (n0 : q ≠ a0) (n1 : q ≠ a1) : hv_ov h [(a0, e0), (a1, e1)] q = h q := ((hv_up_n n0).trans ((hv_up_n n1).trans rfl))
theorem oz_3 {h : hv_P} {q a0 a1 a2 : Nat} {e0 e1 e2 : hv_E} (n0 : q ≠ a0) (n1 : q ≠ a1) (n2 : q ≠ a2) : hv_ov h [(a0, e0), (a1, e1), (a2, e2)] q = h q := ((hv_up_n n0).trans ((hv_up_n n1).trans ((hv_up_n n2).trans rfl)))
theorem oz_4 {h : hv_P} {q a0 a1 a2 a3 : Nat} {e0 e1 e2 e3 : hv_E} (n0 : q ≠ a0) (n1 : q ≠ a1) (n2 : q ≠ a2) (n3 : q ≠ a3) : hv_ov h [(a0, e0), (a1, e1), (a2, e2), (a3, e3)] q = h q := ((hv_up_n n0).trans ((hv_up_n n1).trans ((hv_up_n n2).trans ((hv_up_n n3).trans rfl))))
theorem oz_5 {h : hv_P} {q a0 a1 a2 a3 a4 : Nat} {e0 e1 e2 e3 e4 : hv_E} (n0 : q ≠ a0) (n1 : q ≠ a1) (n2 : q ≠ a2) (n3 : q ≠ a3) (n4 : q ≠ a4) : hv_ov h [(a0, e0), (a1, e1), (a2, e2), (a3, e3), (a4, e4)] q = h q := ((hv_up_n n0).trans ((hv_up_n n1).trans ((hv_up_n n2).trans ((hv_up_n n3).trans ((hv_up_n n4).trans rfl)))))
theorem oz_6 {h : hv_P} {q a0 a1 a2 a3 a4 a5 : Nat} {e0 e1 e2 e3 e4 e5 : hv_E} (n0 : q ≠ a0) (n1 : q ≠ a1) (n2 : q ≠ a2) (n3 : q ≠ a3) (n4 : q ≠ a4) (n5 : q ≠ a5) : hv_ov h [(a0, e0), (a1, e1), (a2, e2), (a3, e3), (a4, e4), (a5, e5)] q = h q := ((hv_up_n n0).trans ((hv_up_n n1).trans ((hv_up_n n2).trans ((hv_up_n n3).trans ((hv_up_n n4).trans ((hv_up_n n5).trans rfl))))))
theorem oz_7 {h : hv_P} {q a0 a1 a2 a3 a4 a5 a6 : Nat} {e0 e1 e2 e3 e4 e5 e6 : hv_E} (n0 : q ≠ a0) (n1 : q ≠ a1) (n2 : q ≠ a2) (n3 : q ≠ a3) (n4 : q ≠ a4) (n5 : q ≠ a5) (n6 : q ≠ a6) : hv_ov h [(a0, e0), (a1, e1), (a2, e2), (a3, e3), (a4, e4), (a5, e5), (a6, e6)] q = h q := ((hv_up_n n0).trans ((hv_up_n n1).trans ((hv_up_n n2).trans ((hv_up_n n3).trans ((hv_up_n n4).trans ((hv_up_n n5).trans ((hv_up_n n6).trans rfl)))))))
theorem oz_8 {h : hv_P} {q a0 a1 a2 a3 a4 a5 a6 a7 : Nat} {e0 e1 e2 e3 e4 e5 e6 e7 : hv_E} (n0 : q ≠ a0) (n1 : q ≠ a1) (n2 : q ≠ a2) (n3 : q ≠ a3) (n4 : q ≠ a4) (n5 : q ≠ a5) (n6 : q ≠ a6) (n7 : q ≠ a7) : hv_ov h [(a0, e0), (a1, e1), (a2, e2), (a3, e3), (a4, e4), (a5, e5), (a6, e6), (a7, e7)] q = h q := ((hv_up_n n0).trans ((hv_up_n n1).trans ((hv_up_n n2).trans ((hv_up_n n3).trans ((hv_up_n n4).trans ((hv_up_n n5).trans ((hv_up_n n6).trans ((hv_up_n n7).trans rfl))))))))
theorem oz_9 {h : hv_P} {q a0 a1 a2 a3 a4 a5 a6 a7 a8 : Nat} {e0 e1 e2 e3 e4 e5 e6 e7 e8 : hv_E} (n0 : q ≠ a0) (n1 : q ≠ a1) (n2 : q ≠ a2) (n3 : q ≠ a3) (n4 : q ≠ a4) (n5 : q ≠ a5) (n6 : q ≠ a6) (n7 : q ≠ a7) (n8 : q ≠ a8) : hv_ov h [(a0, e0), (a1, e1), (a2, e2), (a3, e3), (a4, e4), (a5, e5), (a6, e6), (a7, e7), (a8, e8)] q = h q := ((hv_up_n n0).trans ((hv_up_n n1).trans ((hv_up_n n2).trans ((hv_up_n n3).trans ((hv_up_n n4).trans ((hv_up_n n5).trans ((hv_up_n n6).trans ((hv_up_n n7).trans ((hv_up_n n8).trans rfl)))))))))
theorem oz_10 {h : hv_P} {q a0 a1 a2 a3 a4 a5 a6 a7 a8 a9 : Nat} {e0 e1 e2 e3 e4 e5 e6 e7 e8 e9 : hv_E} (n0 : q ≠ a0) (n1 : q ≠ a1) (n2 : q ≠ a2) (n3 : q ≠ a3) (n4 : q ≠ a4) (n5 : q ≠ a5) (n6 : q ≠ a6) (n7 : q ≠ a7) (n8 : q ≠ a8) (n9 : q ≠ a9) : hv_ov h [(a0, e0), (a1, e1), (a2, e2), (a3, e3), (a4, e4), (a5, e5), (a6, e6), (a7, e7), (a8, e8), (a9, e9)] q = h q := ((hv_up_n n0).trans ((hv_up_n n1).trans ((hv_up_n n2).trans ((hv_up_n n3).trans ((hv_up_n n4).trans ((hv_up_n n5).trans ((hv_up_n n6).trans ((hv_up_n n7).trans ((hv_up_n n8).trans ((hv_up_n n9).trans rfl))))))))))
theorem oz_11 {h : hv_P} {q a0 a1 a2 a3 a4 a5 a6 a7 a8 a9 a10 : Nat} {e0 e1 e2 e3 e4 e5 e6 e7 e8 e9 e10 : hv_E} (n0 : q ≠ a0) (n1 : q ≠ a1) (n2 : q ≠ a2) (n3 : q ≠ a3) (n4 : q ≠ a4) (n5 : q ≠ a5) (n6 : q ≠ a6) (n7 : q ≠ a7) (n8 : q ≠ a8) (n9 : q ≠ a9) (n10 : q ≠ a10) : hv_ov h [(a0, e0), (a1, e1), (a2, e2), (a3, e3), (a4, e4), (a5, e5), (a6, e6), (a7, e7), (a8, e8), (a9, e9), (a10, e10)] q = h q := ((hv_up_n n0).trans ((hv_up_n n1).trans ((hv_up_n n2).trans ((hv_up_n n3).trans ((hv_up_n n4).trans ((hv_up_n n5).trans ((hv_up_n n6).trans ((hv_up_n n7).trans ((hv_up_n n8).trans ((hv_up_n n9).trans ((hv_up_n n10).trans rfl)))))))))))
theorem oz_12 {h : hv_P} {q a0 a1 a2 a3 a4 a5 a6 a7 a8 a9 a10 a11 : Nat} {e0 e1 e2 e3 e4 e5 e6 e7 e8 e9 e10 e11 : hv_E} (n0 : q ≠ a0) (n1 : q ≠ a1) (n2 : q ≠ a2) (n3 : q ≠ a3) (n4 : q ≠ a4) (n5 : q ≠ a5) (n6 : q ≠ a6) (n7 : q ≠ a7) (n8 : q ≠ a8) (n9 : q ≠ a9) (n10 : q ≠ a10) (n11 : q ≠ a11) : hv_ov h [(a0, e0), (a1, e1), (a2, e2), (a3, e3), (a4, e4), (a5, e5), (a6, e6), (a7, e7), (a8, e8), (a9, e9), (a10, e10), (a11, e11)] q = h q := ((hv_up_n n0).trans ((hv_up_n n1).trans ((hv_up_n n2).trans ((hv_up_n n3).trans ((hv_up_n n4).trans ((hv_up_n n5).trans ((hv_up_n n6).trans ((hv_up_n n7).trans ((hv_up_n n8).trans ((hv_up_n n9).trans ((hv_up_n n10).trans ((hv_up_n n11).trans rfl))))))))))))
theorem oz_13 {h : hv_P} {q a0 a1 a2 a3 a4 a5 a6 a7 a8 a9 a10 a11 a12 : Nat} {e0 e1 e2 e3 e4 e5 e6 e7 e8 e9 e10 e11 e12 : hv_E} (n0 : q ≠ a0) (n1 : q ≠ a1) (n2 : q ≠ a2) (n3 : q ≠ a3) (n4 : q ≠ a4) (n5 : q ≠ a5) (n6 : q ≠ a6) (n7 : q ≠ a7) (n8 : q ≠ a8) (n9 : q ≠ a9) (n10 : q ≠ a10) (n11 : q ≠ a11) (n12 : q ≠ a12) : hv_ov h [(a0, e0), (a1, e1), (a2, e2), (a3, e3), (a4, e4), (a5, e5), (a6, e6), (a7, e7), (a8, e8), (a9, e9), (a10, e10), (a11, e11), (a12, e12)] q = h q := ((hv_up_n n0).trans ((hv_up_n n1).trans ((hv_up_n n2).trans ((hv_up_n n3).trans ((hv_up_n n4).trans ((hv_up_n n5).trans ((hv_up_n n6).trans ((hv_up_n n7).trans ((hv_up_n n8).trans ((hv_up_n n9).trans ((hv_up_n n10).trans ((hv_up_n n11).trans ((hv_up_n n12).trans rfl)))))))))))))
theorem i32_nat {i : Int32} {n : Nat} (h0 : ¬ i < 0) (h1 : i < nI n) (hn : n < 2 ^ 31) : i.toNatClampNeg < n ∧ i = nI i.toNatClampNeg := by
  have e : vp_in i n := by
    refine vp_in_iff.mpr ⟨?_, ?_⟩
    · rw [Int32.lt_iff_toInt_lt] at h0
      have : (0 : Int32).toInt = 0 := rfl
      omega
    · rw [Int32.lt_iff_toInt_lt, nI_toInt hn] at h1
      exact h1
  obtain ⟨j, hj, rfl⟩ := vp_in_of e hn
  rw [nI_clamp (by omega)]
  exact ⟨hj, rfl⟩
theorem andn_0 {x : Int32} {s : Nat} (hs : s < 2 ^ 20) (h : x &&& (nI s ^^^ (-1)) = 0) : x.toNatClampNeg < 2 ^ 20 ∧ x = nI x.toNatClampNeg ∧ x.toNatClampNeg &&& s = x.toNatClampNeg := by
  have e : x = nI (x.toBitVec.toNat &&& s) := by
    apply Int32.toBitVec_inj.1
    show x.toBitVec = BitVec.ofNat 32 (x.toBitVec.toNat &&& s)
    apply BitVec.eq_of_getLsbD_eq
    intro i hi
    have b := congrArg (fun z : Int32 => z.toBitVec.getLsbD i) h
    have b : (x.toBitVec &&& (BitVec.ofNat 32 s ^^^ BitVec.allOnes 32)).getLsbD i = (0 : BitVec 32).getLsbD i := b
    simp only [BitVec.getLsbD_and, BitVec.getLsbD_xor, BitVec.getLsbD_ofNat, BitVec.getLsbD_allOnes, hi, decide_true, Bool.true_and, Nat.testBit_and, BitVec.testBit_toNat] at b ⊢
    have z : (0 : BitVec 32).getLsbD i = false := by simp
    rw [z] at b
    cases c1 : x.toBitVec.getLsbD i <;> cases c2 : s.testBit i <;> simp_all
  have lt : x.toBitVec.toNat &&& s < 2 ^ 20 := Nat.lt_of_le_of_lt Nat.and_le_right hs
  have cl : x.toNatClampNeg = x.toBitVec.toNat &&& s := by
    conv => lhs; rw [e]
    exact nI_clamp (by omega)
  rw [cl]
  exact ⟨lt, e, by rw [Nat.and_assoc, Nat.and_self]⟩
def A_open (c : Nat) (pl : Nat → Nat) (la : Nat → Option Nat) : Int32 := if RDY c pl la = true then nI (OPN c pl la) else -1
def A_cost (c : Nat) (pl : Nat → Nat) (la : Nat → Option Nat) : Int32 := if RDY c pl la = true then nI (CO (LC pl la 0) (2 ^ c - 1)) else -1
def A_peak (c : Nat) (pl : Nat → Nat) (la : Nat → Option Nat) : Int32 := if RDY c pl la = true then nI (PK (LC pl la 0) c) else -1
def A_costOf (c : Nat) (pl : Nat → Nat) (la : Nat → Option Nat) (x : Int32) : Int32 := if RDY c pl la = true ∧ x &&& (nI (SHR c pl la) ^^^ (-1)) = 0 then nI (CO (LC pl la x.toNatClampNeg) (2 ^ c - 1) * 2 ^ pc_ x.toNatClampNeg) else -1
def A_step (c : Nat) (pl : Nat → Nat) (la : Nat → Option Nat) (i s : Int32) : Int32 := if RDY c pl la = true ∧ (¬ i < 0 ∧ i < nI (c - 1)) ∧ (¬ s < 0 ∧ s ≤ 1) then (if s = 0 then nI (FI (LC pl la 0) (MD (LC pl la 0) c i.toNatClampNeg)) else nI (MD (LC pl la 0) c i.toNatClampNeg ^^^ FI (LC pl la 0) (MD (LC pl la 0) c i.toNatClampNeg))) else -1
theorem rdy_t {c : Nat} {pl : Nat → Nat} {la : Nat → Option Nat} (h : ¬ bZ (rdT pl la (decide (0 < c)) c).1 = 0) : RDY c pl la = true := bZ_ne.mp h
theorem rdy_f {c : Nat} {pl : Nat → Nat} {la : Nat → Option Nat} (h : bZ (rdT pl la (decide (0 < c)) c).1 = 0) : RDY c pl la = false := bZ_eq.mp h
set_option maxRecDepth 100000 in
set_option maxHeartbeats 4000000 in
theorem c_K_open (l : Launch) (D : hv_D) (h : hv_P) (nx : Nat) {k c : Nat} {th : Int32} {pl : Nat → Nat} {la : Nat → Option Nat} {re im : Nat → Int32} (hS : kS h k th c pl la re im) (hN : netOK c pl la) : hv_N l D M_K_open (hv_rm 1 26 0 0) [.ref k] h nx (hv_ans (some (.int (A_open c pl la))) (fun h' n' => n' = nx ∧ kFr k h h' ∧ kS h' k (0) (c) (pl) (la) (re) (im))) := by
  refine hv_N.of' [some (.ref k)] (by decide +kernel) rfl rfl rfl ?_
  obtain ⟨⟨op, sh, sp, tu, gc, my, so, sx, sr, si, hk⟩, h1, h2, h3, h4, ⟨f5, h5⟩, ⟨f6, h6⟩, ⟨f7, h7⟩, ⟨f8, h8⟩, ⟨f9, h9⟩, ⟨f10, h10⟩, ⟨f11, h11⟩, ⟨f12, h12⟩, ⟨f13, h13⟩, ⟨f14, h14⟩, ⟨f15, h15⟩, ⟨f16, h16⟩, ⟨f17, h17⟩, ⟨f18, h18⟩, ⟨f19, h19⟩⟩ := hS
  refine V_eqH (ob_4 hk h1 h2 h5) ?_
  refine V_aload_n d_K_open_0 rfl ?_
  refine V_iconst (0) d_K_open_1 rfl ?_
  refine V_put (e' := oK k (0) ((nI c)) (op) (sh) (sp) (tu) (gc) (my) (sr) (si) (so) (sx)) d_K_open_2 fp_K_69 (og_0) rfl rfl rfl rfl (ou_0) ?_
  refine V_aload_n d_K_open_5 rfl ?_
  refine V_callV1 d_K_open_6 ml_K_90 mB_K_isReady mi_K_isReady mv_K_isReady rfl og_0 (c_K_isReady l D _ _ og_0 (og_1 (by omega)) (og_2 (by omega) (by omega)) (og_3 (by omega) (by omega) (by omega)) hN.1 hN.2.1 hN.2.2.1) rfl rfl rfl rfl rfl rfl rfl ?_
  rintro _ _ ⟨rfl, rfl⟩
  rw [ox_4, ou_3 (by omega) (by omega) (by omega), ou_2 (by omega) (by omega), ou_1 (by omega), ou_0]
  refine V_if_eq 19 d_K_open_9 (by decide) (fun c9 => ?_) (fun c9 => ?_)
  · have hr := rdy_f c9
    refine V_iconst (-1) d_K_open_19 rfl ?_
    exact V_ireturn d_K_open_20 rfl ⟨by unfold A_open; first | (rw [if_pos hr]; rfl) | rw [if_neg (by rw [hr]; decide)], rfl, fun q hq => oz_4 (by omega) (by omega) (by omega) (by omega), ⟨⟨_, _, _, _, _, _, _, _, _, _, og_0⟩, (og_1 (by omega)), (og_2 (by omega) (by omega)), (oa_4 h3 (by omega) (by omega) (by omega) (by omega)), (oa_4 h4 (by omega) (by omega) (by omega) (by omega)), ⟨_, (og_3 (by omega) (by omega) (by omega))⟩, ⟨_, (oa_4 h6 (by omega) (by omega) (by omega) (by omega))⟩, ⟨_, (oa_4 h7 (by omega) (by omega) (by omega) (by omega))⟩, ⟨_, (oa_4 h8 (by omega) (by omega) (by omega) (by omega))⟩, ⟨_, (oa_4 h9 (by omega) (by omega) (by omega) (by omega))⟩, ⟨_, (oa_4 h10 (by omega) (by omega) (by omega) (by omega))⟩, ⟨_, (oa_4 h11 (by omega) (by omega) (by omega) (by omega))⟩, ⟨_, (oa_4 h12 (by omega) (by omega) (by omega) (by omega))⟩, ⟨_, (oa_4 h13 (by omega) (by omega) (by omega) (by omega))⟩, ⟨_, (oa_4 h14 (by omega) (by omega) (by omega) (by omega))⟩, ⟨_, (oa_4 h15 (by omega) (by omega) (by omega) (by omega))⟩, ⟨_, (oa_4 h16 (by omega) (by omega) (by omega) (by omega))⟩, ⟨_, (oa_4 h17 (by omega) (by omega) (by omega) (by omega))⟩, ⟨_, (oa_4 h18 (by omega) (by omega) (by omega) (by omega))⟩, ⟨_, (oa_4 h19 (by omega) (by omega) (by omega) (by omega))⟩⟩⟩
  · have hr := rdy_t c9
    refine V_aload_n d_K_open_12 rfl ?_
    refine V_getfield d_K_open_13 fl_K_84 (og_0) rfl ?_
    refine V_goto 20 d_K_open_16 (by decide) ?_
    exact V_ireturn d_K_open_20 rfl ⟨by unfold A_open; first | (rw [if_pos hr]; rfl) | rw [if_neg (by rw [hr]; decide)], rfl, fun q hq => oz_4 (by omega) (by omega) (by omega) (by omega), ⟨⟨_, _, _, _, _, _, _, _, _, _, og_0⟩, (og_1 (by omega)), (og_2 (by omega) (by omega)), (oa_4 h3 (by omega) (by omega) (by omega) (by omega)), (oa_4 h4 (by omega) (by omega) (by omega) (by omega)), ⟨_, (og_3 (by omega) (by omega) (by omega))⟩, ⟨_, (oa_4 h6 (by omega) (by omega) (by omega) (by omega))⟩, ⟨_, (oa_4 h7 (by omega) (by omega) (by omega) (by omega))⟩, ⟨_, (oa_4 h8 (by omega) (by omega) (by omega) (by omega))⟩, ⟨_, (oa_4 h9 (by omega) (by omega) (by omega) (by omega))⟩, ⟨_, (oa_4 h10 (by omega) (by omega) (by omega) (by omega))⟩, ⟨_, (oa_4 h11 (by omega) (by omega) (by omega) (by omega))⟩, ⟨_, (oa_4 h12 (by omega) (by omega) (by omega) (by omega))⟩, ⟨_, (oa_4 h13 (by omega) (by omega) (by omega) (by omega))⟩, ⟨_, (oa_4 h14 (by omega) (by omega) (by omega) (by omega))⟩, ⟨_, (oa_4 h15 (by omega) (by omega) (by omega) (by omega))⟩, ⟨_, (oa_4 h16 (by omega) (by omega) (by omega) (by omega))⟩, ⟨_, (oa_4 h17 (by omega) (by omega) (by omega) (by omega))⟩, ⟨_, (oa_4 h18 (by omega) (by omega) (by omega) (by omega))⟩, ⟨_, (oa_4 h19 (by omega) (by omega) (by omega) (by omega))⟩⟩⟩

set_option maxRecDepth 100000 in
set_option maxHeartbeats 4000000 in
theorem c_K_cost (l : Launch) (D : hv_D) (h : hv_P) (nx : Nat) {k c : Nat} {th : Int32} {pl : Nat → Nat} {la : Nat → Option Nat} {re im : Nat → Int32} (hS : kS h k th c pl la re im) (hN : netOK c pl la) : hv_N l D M_K_cost (hv_rm 3 70 0 0) [.ref k] h nx (hv_ans (some (.int (A_cost c pl la))) (fun h' n' => n' = nx ∧ kFr k h h' ∧ kS h' k (0) (c) (pl) (la) (re) (im))) := by
  refine hv_N.of' [some (.ref k)] (by decide +kernel) rfl rfl rfl ?_
  obtain ⟨⟨op, sh, sp, tu, gc, my, so, sx, sr, si, hk⟩, h1, h2, h3, h4, ⟨f5, h5⟩, ⟨f6, h6⟩, ⟨f7, h7⟩, ⟨f8, h8⟩, ⟨f9, h9⟩, ⟨f10, h10⟩, ⟨f11, h11⟩, ⟨f12, h12⟩, ⟨f13, h13⟩, ⟨f14, h14⟩, ⟨f15, h15⟩, ⟨f16, h16⟩, ⟨f17, h17⟩, ⟨f18, h18⟩, ⟨f19, h19⟩⟩ := hS
  refine V_eqH (ob_7 hk h1 h2 h5 h6 h7 h8) ?_
  refine V_aload_n d_K_cost_0 rfl ?_
  refine V_iconst (0) d_K_cost_1 rfl ?_
  refine V_put (e' := oK k (0) ((nI c)) (op) (sh) (sp) (tu) (gc) (my) (sr) (si) (so) (sx)) d_K_cost_2 fp_K_69 (og_0) rfl rfl rfl rfl (ou_0) ?_
  refine V_aload_n d_K_cost_5 rfl ?_
  refine V_callV1 d_K_cost_6 ml_K_90 mB_K_isReady mi_K_isReady mv_K_isReady rfl og_0 (c_K_isReady l D _ _ og_0 (og_1 (by omega)) (og_2 (by omega) (by omega)) (og_3 (by omega) (by omega) (by omega)) hN.1 hN.2.1 hN.2.2.1) rfl rfl rfl rfl rfl rfl rfl ?_
  rintro _ _ ⟨rfl, rfl⟩
  rw [ox_4, ou_3 (by omega) (by omega) (by omega), ou_2 (by omega) (by omega), ou_1 (by omega), ou_0]
  refine V_if_ne 14 d_K_cost_9 (by decide) (fun c9 => ?_) (fun c9 => ?_)
  · have hr := rdy_t c9
    refine V_aload_n d_K_cost_14 rfl ?_
    refine V_iconst (nI 0) d_K_cost_15 rfl ?_
    refine V_callV0 d_K_cost_16 ml_K_112 mB_K_findOrder mi_K_findOrder mv_K_findOrder rfl og_0 (c_K_findOrder l D _ _ og_0 (og_3 (by omega) (by omega) (by omega)) (og_4 (by omega) (by omega) (by omega) (by omega)) (og_5 (by omega) (by omega) (by omega) (by omega) (by omega)) (og_6 (by omega) (by omega) (by omega) (by omega) (by omega) (by omega)) hN.1 (fun t ht => by simp only [hv_cp, if_pos ht]; exact LE_lt hN ht)) rfl rfl rfl rfl rfl rfl rfl ?_
    rintro _ _ ⟨rfl, lg', co', fi', rfl, hok⟩
    rw [ox_5, ou_6 (by omega) (by omega) (by omega) (by omega) (by omega) (by omega), ou_5 (by omega) (by omega) (by omega) (by omega) (by omega), ou_4 (by omega) (by omega) (by omega) (by omega), ou_3 (by omega) (by omega) (by omega), ou_0]
    have hok := ksOK_congr hN.1 (l2 := LC pl la 0) (fun t ht => by simp only [hv_cp, if_pos ht]; rfl) hok
    refine V_aload_n d_K_cost_19 rfl ?_
    refine V_getfield d_K_cost_20 fl_K_28 (og_0) rfl ?_
    refine V_aload_n d_K_cost_23 rfl ?_
    refine V_callV1 d_K_cost_24 ml_K_98 mB_K_all mi_K_all mv_K_all rfl og_0 (c_K_all l D _ _ og_0 hN.1) rfl rfl rfl rfl rfl rfl rfl ?_
    rintro _ _ ⟨rfl, rfl⟩
    refine V_iaload d_K_cost_27 (og_5 (by omega) (by omega) (by omega) (by omega) (by omega)) ⟨rfl, (by have := Nat.pow_le_pow_right (n := 2) (by decide) hN.1; have := Nat.two_pow_pos c; omega), by decide⟩ ?_
    exact V_ireturn d_K_cost_28 rfl ⟨by unfold A_cost; rw [if_pos hr, (hok _ (by have := RDY_c hr; have : 2 ^ 1 ≤ 2 ^ c := Nat.pow_le_pow_right (by decide) this; omega) (by have := RDY_c hr; have : 2 ^ 1 ≤ 2 ^ c := Nat.pow_le_pow_right (by decide) this; omega)).2.1], rfl, fun q hq => oz_7 (by omega) (by omega) (by omega) (by omega) (by omega) (by omega) (by omega), ⟨⟨_, _, _, _, _, _, _, _, _, _, og_0⟩, (og_1 (by omega)), (og_2 (by omega) (by omega)), (oa_7 h3 (by omega) (by omega) (by omega) (by omega) (by omega) (by omega) (by omega)), (oa_7 h4 (by omega) (by omega) (by omega) (by omega) (by omega) (by omega) (by omega)), ⟨_, (og_3 (by omega) (by omega) (by omega))⟩, ⟨_, (og_4 (by omega) (by omega) (by omega) (by omega))⟩, ⟨_, (og_5 (by omega) (by omega) (by omega) (by omega) (by omega))⟩, ⟨_, (og_6 (by omega) (by omega) (by omega) (by omega) (by omega) (by omega))⟩, ⟨_, (oa_7 h9 (by omega) (by omega) (by omega) (by omega) (by omega) (by omega) (by omega))⟩, ⟨_, (oa_7 h10 (by omega) (by omega) (by omega) (by omega) (by omega) (by omega) (by omega))⟩, ⟨_, (oa_7 h11 (by omega) (by omega) (by omega) (by omega) (by omega) (by omega) (by omega))⟩, ⟨_, (oa_7 h12 (by omega) (by omega) (by omega) (by omega) (by omega) (by omega) (by omega))⟩, ⟨_, (oa_7 h13 (by omega) (by omega) (by omega) (by omega) (by omega) (by omega) (by omega))⟩, ⟨_, (oa_7 h14 (by omega) (by omega) (by omega) (by omega) (by omega) (by omega) (by omega))⟩, ⟨_, (oa_7 h15 (by omega) (by omega) (by omega) (by omega) (by omega) (by omega) (by omega))⟩, ⟨_, (oa_7 h16 (by omega) (by omega) (by omega) (by omega) (by omega) (by omega) (by omega))⟩, ⟨_, (oa_7 h17 (by omega) (by omega) (by omega) (by omega) (by omega) (by omega) (by omega))⟩, ⟨_, (oa_7 h18 (by omega) (by omega) (by omega) (by omega) (by omega) (by omega) (by omega))⟩, ⟨_, (oa_7 h19 (by omega) (by omega) (by omega) (by omega) (by omega) (by omega) (by omega))⟩⟩⟩
  · have hr := rdy_f c9
    refine V_iconst (-1) d_K_cost_12 rfl ?_
    exact V_ireturn d_K_cost_13 rfl ⟨by unfold A_cost; rw [if_neg (by rw [hr]; decide)], rfl, fun q hq => oz_7 (by omega) (by omega) (by omega) (by omega) (by omega) (by omega) (by omega), ⟨⟨_, _, _, _, _, _, _, _, _, _, og_0⟩, (og_1 (by omega)), (og_2 (by omega) (by omega)), (oa_7 h3 (by omega) (by omega) (by omega) (by omega) (by omega) (by omega) (by omega)), (oa_7 h4 (by omega) (by omega) (by omega) (by omega) (by omega) (by omega) (by omega)), ⟨_, (og_3 (by omega) (by omega) (by omega))⟩, ⟨_, (og_4 (by omega) (by omega) (by omega) (by omega))⟩, ⟨_, (og_5 (by omega) (by omega) (by omega) (by omega) (by omega))⟩, ⟨_, (og_6 (by omega) (by omega) (by omega) (by omega) (by omega) (by omega))⟩, ⟨_, (oa_7 h9 (by omega) (by omega) (by omega) (by omega) (by omega) (by omega) (by omega))⟩, ⟨_, (oa_7 h10 (by omega) (by omega) (by omega) (by omega) (by omega) (by omega) (by omega))⟩, ⟨_, (oa_7 h11 (by omega) (by omega) (by omega) (by omega) (by omega) (by omega) (by omega))⟩, ⟨_, (oa_7 h12 (by omega) (by omega) (by omega) (by omega) (by omega) (by omega) (by omega))⟩, ⟨_, (oa_7 h13 (by omega) (by omega) (by omega) (by omega) (by omega) (by omega) (by omega))⟩, ⟨_, (oa_7 h14 (by omega) (by omega) (by omega) (by omega) (by omega) (by omega) (by omega))⟩, ⟨_, (oa_7 h15 (by omega) (by omega) (by omega) (by omega) (by omega) (by omega) (by omega))⟩, ⟨_, (oa_7 h16 (by omega) (by omega) (by omega) (by omega) (by omega) (by omega) (by omega))⟩, ⟨_, (oa_7 h17 (by omega) (by omega) (by omega) (by omega) (by omega) (by omega) (by omega))⟩, ⟨_, (oa_7 h18 (by omega) (by omega) (by omega) (by omega) (by omega) (by omega) (by omega))⟩, ⟨_, (oa_7 h19 (by omega) (by omega) (by omega) (by omega) (by omega) (by omega) (by omega))⟩⟩⟩

set_option maxRecDepth 100000 in
set_option maxHeartbeats 4000000 in
theorem c_K_peak (l : Launch) (D : hv_D) (h : hv_P) (nx : Nat) {k c : Nat} {th : Int32} {pl : Nat → Nat} {la : Nat → Option Nat} {re im : Nat → Int32} (hS : kS h k th c pl la re im) (hN : netOK c pl la) : hv_N l D M_K_peak (hv_rm 3 70 0 0) [.ref k] h nx (hv_ans (some (.int (A_peak c pl la))) (fun h' n' => n' = nx ∧ kFr k h h' ∧ kS h' k (0) (c) (pl) (la) (re) (im))) := by
  refine hv_N.of' [some (.ref k)] (by decide +kernel) rfl rfl rfl ?_
  obtain ⟨⟨op, sh, sp, tu, gc, my, so, sx, sr, si, hk⟩, h1, h2, h3, h4, ⟨f5, h5⟩, ⟨f6, h6⟩, ⟨f7, h7⟩, ⟨f8, h8⟩, ⟨f9, h9⟩, ⟨f10, h10⟩, ⟨f11, h11⟩, ⟨f12, h12⟩, ⟨f13, h13⟩, ⟨f14, h14⟩, ⟨f15, h15⟩, ⟨f16, h16⟩, ⟨f17, h17⟩, ⟨f18, h18⟩, ⟨f19, h19⟩⟩ := hS
  refine V_eqH (ob_9 hk h1 h2 h5 h6 h7 h8 h9 h10) ?_
  refine V_aload_n d_K_peak_0 rfl ?_
  refine V_iconst (0) d_K_peak_1 rfl ?_
  refine V_put (e' := oK k (0) ((nI c)) (op) (sh) (sp) (tu) (gc) (my) (sr) (si) (so) (sx)) d_K_peak_2 fp_K_69 (og_0) rfl rfl rfl rfl (ou_0) ?_
  refine V_aload_n d_K_peak_5 rfl ?_
  refine V_callV1 d_K_peak_6 ml_K_90 mB_K_isReady mi_K_isReady mv_K_isReady rfl og_0 (c_K_isReady l D _ _ og_0 (og_1 (by omega)) (og_2 (by omega) (by omega)) (og_3 (by omega) (by omega) (by omega)) hN.1 hN.2.1 hN.2.2.1) rfl rfl rfl rfl rfl rfl rfl ?_
  rintro _ _ ⟨rfl, rfl⟩
  rw [ox_4, ou_3 (by omega) (by omega) (by omega), ou_2 (by omega) (by omega), ou_1 (by omega), ou_0]
  refine V_if_ne 14 d_K_peak_9 (by decide) (fun c9 => ?_) (fun c9 => ?_)
  · have hr := rdy_t c9
    refine V_aload_n d_K_peak_14 rfl ?_
    refine V_iconst (nI 0) d_K_peak_15 rfl ?_
    refine V_callV0 d_K_peak_16 ml_K_112 mB_K_findOrder mi_K_findOrder mv_K_findOrder rfl og_0 (c_K_findOrder l D _ _ og_0 (og_3 (by omega) (by omega) (by omega)) (og_4 (by omega) (by omega) (by omega) (by omega)) (og_5 (by omega) (by omega) (by omega) (by omega) (by omega)) (og_6 (by omega) (by omega) (by omega) (by omega) (by omega) (by omega)) hN.1 (fun t ht => by simp only [hv_cp, if_pos ht]; exact LE_lt hN ht)) rfl rfl rfl rfl rfl rfl rfl ?_
    rintro _ _ ⟨rfl, lg', co', fi', rfl, hok⟩
    rw [ox_5, ou_6 (by omega) (by omega) (by omega) (by omega) (by omega) (by omega), ou_5 (by omega) (by omega) (by omega) (by omega) (by omega), ou_4 (by omega) (by omega) (by omega) (by omega), ou_3 (by omega) (by omega) (by omega), ou_0]
    have hok := ksOK_congr hN.1 (l2 := LC pl la 0) (fun t ht => by simp only [hv_cp, if_pos ht]; rfl) hok
    refine V_aload_n d_K_peak_19 rfl ?_
    refine V_callV1 d_K_peak_20 ml_K_116 mB_K_peakNow mi_K_peakNow mv_K_peakNow rfl og_0 (c_K_peakNow l D _ _ og_0 (og_4 (by omega) (by omega) (by omega) (by omega)) (og_6 (by omega) (by omega) (by omega) (by omega) (by omega) (by omega)) (og_7 (by omega) (by omega) (by omega) (by omega) (by omega) (by omega) (by omega)) (og_8 (by omega) (by omega) (by omega) (by omega) (by omega) (by omega) (by omega) (by omega)) (RDY_c hr) hN.1 (LC_lt hN _) hok) rfl rfl rfl rfl rfl rfl rfl ?_
    rintro _ _ ⟨rfl, ss', wt', rfl, hs⟩
    rw [ox_5, ou_8 (by omega) (by omega) (by omega) (by omega) (by omega) (by omega) (by omega) (by omega), ou_7 (by omega) (by omega) (by omega) (by omega) (by omega) (by omega) (by omega), ou_6 (by omega) (by omega) (by omega) (by omega) (by omega) (by omega), ou_4 (by omega) (by omega) (by omega) (by omega), ou_0]
    exact V_ireturn d_K_peak_23 rfl ⟨by unfold A_peak; rw [if_pos hr], rfl, fun q hq => oz_9 (by omega) (by omega) (by omega) (by omega) (by omega) (by omega) (by omega) (by omega) (by omega), ⟨⟨_, _, _, _, _, _, _, _, _, _, og_0⟩, (og_1 (by omega)), (og_2 (by omega) (by omega)), (oa_9 h3 (by omega) (by omega) (by omega) (by omega) (by omega) (by omega) (by omega) (by omega) (by omega)), (oa_9 h4 (by omega) (by omega) (by omega) (by omega) (by omega) (by omega) (by omega) (by omega) (by omega)), ⟨_, (og_3 (by omega) (by omega) (by omega))⟩, ⟨_, (og_4 (by omega) (by omega) (by omega) (by omega))⟩, ⟨_, (og_5 (by omega) (by omega) (by omega) (by omega) (by omega))⟩, ⟨_, (og_6 (by omega) (by omega) (by omega) (by omega) (by omega) (by omega))⟩, ⟨_, (og_7 (by omega) (by omega) (by omega) (by omega) (by omega) (by omega) (by omega))⟩, ⟨_, (og_8 (by omega) (by omega) (by omega) (by omega) (by omega) (by omega) (by omega) (by omega))⟩, ⟨_, (oa_9 h11 (by omega) (by omega) (by omega) (by omega) (by omega) (by omega) (by omega) (by omega) (by omega))⟩, ⟨_, (oa_9 h12 (by omega) (by omega) (by omega) (by omega) (by omega) (by omega) (by omega) (by omega) (by omega))⟩, ⟨_, (oa_9 h13 (by omega) (by omega) (by omega) (by omega) (by omega) (by omega) (by omega) (by omega) (by omega))⟩, ⟨_, (oa_9 h14 (by omega) (by omega) (by omega) (by omega) (by omega) (by omega) (by omega) (by omega) (by omega))⟩, ⟨_, (oa_9 h15 (by omega) (by omega) (by omega) (by omega) (by omega) (by omega) (by omega) (by omega) (by omega))⟩, ⟨_, (oa_9 h16 (by omega) (by omega) (by omega) (by omega) (by omega) (by omega) (by omega) (by omega) (by omega))⟩, ⟨_, (oa_9 h17 (by omega) (by omega) (by omega) (by omega) (by omega) (by omega) (by omega) (by omega) (by omega))⟩, ⟨_, (oa_9 h18 (by omega) (by omega) (by omega) (by omega) (by omega) (by omega) (by omega) (by omega) (by omega))⟩, ⟨_, (oa_9 h19 (by omega) (by omega) (by omega) (by omega) (by omega) (by omega) (by omega) (by omega) (by omega))⟩⟩⟩
  · have hr := rdy_f c9
    refine V_iconst (-1) d_K_peak_12 rfl ?_
    exact V_ireturn d_K_peak_13 rfl ⟨by unfold A_peak; rw [if_neg (by rw [hr]; decide)], rfl, fun q hq => oz_9 (by omega) (by omega) (by omega) (by omega) (by omega) (by omega) (by omega) (by omega) (by omega), ⟨⟨_, _, _, _, _, _, _, _, _, _, og_0⟩, (og_1 (by omega)), (og_2 (by omega) (by omega)), (oa_9 h3 (by omega) (by omega) (by omega) (by omega) (by omega) (by omega) (by omega) (by omega) (by omega)), (oa_9 h4 (by omega) (by omega) (by omega) (by omega) (by omega) (by omega) (by omega) (by omega) (by omega)), ⟨_, (og_3 (by omega) (by omega) (by omega))⟩, ⟨_, (og_4 (by omega) (by omega) (by omega) (by omega))⟩, ⟨_, (og_5 (by omega) (by omega) (by omega) (by omega) (by omega))⟩, ⟨_, (og_6 (by omega) (by omega) (by omega) (by omega) (by omega) (by omega))⟩, ⟨_, (og_7 (by omega) (by omega) (by omega) (by omega) (by omega) (by omega) (by omega))⟩, ⟨_, (og_8 (by omega) (by omega) (by omega) (by omega) (by omega) (by omega) (by omega) (by omega))⟩, ⟨_, (oa_9 h11 (by omega) (by omega) (by omega) (by omega) (by omega) (by omega) (by omega) (by omega) (by omega))⟩, ⟨_, (oa_9 h12 (by omega) (by omega) (by omega) (by omega) (by omega) (by omega) (by omega) (by omega) (by omega))⟩, ⟨_, (oa_9 h13 (by omega) (by omega) (by omega) (by omega) (by omega) (by omega) (by omega) (by omega) (by omega))⟩, ⟨_, (oa_9 h14 (by omega) (by omega) (by omega) (by omega) (by omega) (by omega) (by omega) (by omega) (by omega))⟩, ⟨_, (oa_9 h15 (by omega) (by omega) (by omega) (by omega) (by omega) (by omega) (by omega) (by omega) (by omega))⟩, ⟨_, (oa_9 h16 (by omega) (by omega) (by omega) (by omega) (by omega) (by omega) (by omega) (by omega) (by omega))⟩, ⟨_, (oa_9 h17 (by omega) (by omega) (by omega) (by omega) (by omega) (by omega) (by omega) (by omega) (by omega))⟩, ⟨_, (oa_9 h18 (by omega) (by omega) (by omega) (by omega) (by omega) (by omega) (by omega) (by omega) (by omega))⟩, ⟨_, (oa_9 h19 (by omega) (by omega) (by omega) (by omega) (by omega) (by omega) (by omega) (by omega) (by omega))⟩⟩⟩

theorem nI_lt0 {n : Nat} (h : n < 2 ^ 31) : (nI n < 0) = False := by
  rw [eq_iff_iff]
  constructor
  · intro q
    rw [Int32.lt_iff_toInt_lt, nI_toInt h] at q
    have : (0 : Int32).toInt = 0 := rfl
    omega
  · exact False.elim
set_option maxRecDepth 100000 in
set_option maxHeartbeats 4000000 in
theorem c_K_costOf (l : Launch) (D : hv_D) (h : hv_P) (nx : Nat) {k c : Nat} {th : Int32} {pl : Nat → Nat} {la : Nat → Option Nat} {re im : Nat → Int32} (hS : kS h k th c pl la re im) (hN : netOK c pl la) (x : Int32) : hv_N l D M_K_costOf (hv_rm 3 70 0 0) [.ref k, .int x] h nx (hv_ans (some (.int (A_costOf c pl la x))) (fun h' n' => n' = nx ∧ kFr k h h' ∧ kS h' k (0) (c) (pl) (la) (re) (im))) := by
  refine hv_N.of' [some (.ref k), some (.int x)] (by decide +kernel) rfl rfl rfl ?_
  obtain ⟨⟨op, sh, sp, tu, gc, my, so, sx, sr, si, hk⟩, h1, h2, h3, h4, ⟨f5, h5⟩, ⟨f6, h6⟩, ⟨f7, h7⟩, ⟨f8, h8⟩, ⟨f9, h9⟩, ⟨f10, h10⟩, ⟨f11, h11⟩, ⟨f12, h12⟩, ⟨f13, h13⟩, ⟨f14, h14⟩, ⟨f15, h15⟩, ⟨f16, h16⟩, ⟨f17, h17⟩, ⟨f18, h18⟩, ⟨f19, h19⟩⟩ := hS
  refine V_eqH (ob_7 hk h1 h2 h5 h6 h7 h8) ?_
  refine V_aload_n d_K_costOf_0 rfl ?_
  refine V_iconst (0) d_K_costOf_1 rfl ?_
  refine V_put (e' := oK k (0) ((nI c)) (op) (sh) (sp) (tu) (gc) (my) (sr) (si) (so) (sx)) d_K_costOf_2 fp_K_69 (og_0) rfl rfl rfl rfl (ou_0) ?_
  refine V_aload_n d_K_costOf_5 rfl ?_
  refine V_callV1 d_K_costOf_6 ml_K_90 mB_K_isReady mi_K_isReady mv_K_isReady rfl og_0 (c_K_isReady l D _ _ og_0 (og_1 (by omega)) (og_2 (by omega) (by omega)) (og_3 (by omega) (by omega) (by omega)) hN.1 hN.2.1 hN.2.2.1) rfl rfl rfl rfl rfl rfl rfl ?_
  rintro _ _ ⟨rfl, rfl⟩
  rw [ox_4, ou_3 (by omega) (by omega) (by omega), ou_2 (by omega) (by omega), ou_1 (by omega), ou_0]
  refine V_if_eq 27 d_K_costOf_9 (by decide) (fun c9 => ?_) (fun c9 => ?_)
  · have hr := rdy_f c9
    have AN : A_costOf c pl la x = -1 := by unfold A_costOf; rw [if_neg (by rw [hr]; intro q; exact absurd q.1 (by decide))]
    refine V_iconst (-1) d_K_costOf_27 rfl ?_
    exact V_ireturn d_K_costOf_28 rfl ⟨by rw [AN], rfl, fun q hq => oz_7 (by omega) (by omega) (by omega) (by omega) (by omega) (by omega) (by omega), ⟨⟨_, _, _, _, _, _, _, _, _, _, og_0⟩, (og_1 (by omega)), (og_2 (by omega) (by omega)), (oa_7 h3 (by omega) (by omega) (by omega) (by omega) (by omega) (by omega) (by omega)), (oa_7 h4 (by omega) (by omega) (by omega) (by omega) (by omega) (by omega) (by omega)), ⟨_, (og_3 (by omega) (by omega) (by omega))⟩, ⟨_, (og_4 (by omega) (by omega) (by omega) (by omega))⟩, ⟨_, (og_5 (by omega) (by omega) (by omega) (by omega) (by omega))⟩, ⟨_, (og_6 (by omega) (by omega) (by omega) (by omega) (by omega) (by omega))⟩, ⟨_, (oa_7 h9 (by omega) (by omega) (by omega) (by omega) (by omega) (by omega) (by omega))⟩, ⟨_, (oa_7 h10 (by omega) (by omega) (by omega) (by omega) (by omega) (by omega) (by omega))⟩, ⟨_, (oa_7 h11 (by omega) (by omega) (by omega) (by omega) (by omega) (by omega) (by omega))⟩, ⟨_, (oa_7 h12 (by omega) (by omega) (by omega) (by omega) (by omega) (by omega) (by omega))⟩, ⟨_, (oa_7 h13 (by omega) (by omega) (by omega) (by omega) (by omega) (by omega) (by omega))⟩, ⟨_, (oa_7 h14 (by omega) (by omega) (by omega) (by omega) (by omega) (by omega) (by omega))⟩, ⟨_, (oa_7 h15 (by omega) (by omega) (by omega) (by omega) (by omega) (by omega) (by omega))⟩, ⟨_, (oa_7 h16 (by omega) (by omega) (by omega) (by omega) (by omega) (by omega) (by omega))⟩, ⟨_, (oa_7 h17 (by omega) (by omega) (by omega) (by omega) (by omega) (by omega) (by omega))⟩, ⟨_, (oa_7 h18 (by omega) (by omega) (by omega) (by omega) (by omega) (by omega) (by omega))⟩, ⟨_, (oa_7 h19 (by omega) (by omega) (by omega) (by omega) (by omega) (by omega) (by omega))⟩⟩⟩
  · have hr := rdy_t c9
    refine V_iload_n d_K_costOf_12 rfl ?_
    refine V_if_lt 27 d_K_costOf_13 (by decide) (fun c13 => ?_) (fun c13 => ?_)
    · have AN : A_costOf c pl la x = -1 := by
        unfold A_costOf
        rw [if_neg]
        rintro ⟨-, q⟩
        obtain ⟨q1, q2, -⟩ := andn_0 (SHR_lt hN) q
        rw [q2, nI_lt0 (by omega)] at c13
        exact c13
      refine V_iconst (-1) d_K_costOf_27 rfl ?_
      exact V_ireturn d_K_costOf_28 rfl ⟨by rw [AN], rfl, fun q hq => oz_7 (by omega) (by omega) (by omega) (by omega) (by omega) (by omega) (by omega), ⟨⟨_, _, _, _, _, _, _, _, _, _, og_0⟩, (og_1 (by omega)), (og_2 (by omega) (by omega)), (oa_7 h3 (by omega) (by omega) (by omega) (by omega) (by omega) (by omega) (by omega)), (oa_7 h4 (by omega) (by omega) (by omega) (by omega) (by omega) (by omega) (by omega)), ⟨_, (og_3 (by omega) (by omega) (by omega))⟩, ⟨_, (og_4 (by omega) (by omega) (by omega) (by omega))⟩, ⟨_, (og_5 (by omega) (by omega) (by omega) (by omega) (by omega))⟩, ⟨_, (og_6 (by omega) (by omega) (by omega) (by omega) (by omega) (by omega))⟩, ⟨_, (oa_7 h9 (by omega) (by omega) (by omega) (by omega) (by omega) (by omega) (by omega))⟩, ⟨_, (oa_7 h10 (by omega) (by omega) (by omega) (by omega) (by omega) (by omega) (by omega))⟩, ⟨_, (oa_7 h11 (by omega) (by omega) (by omega) (by omega) (by omega) (by omega) (by omega))⟩, ⟨_, (oa_7 h12 (by omega) (by omega) (by omega) (by omega) (by omega) (by omega) (by omega))⟩, ⟨_, (oa_7 h13 (by omega) (by omega) (by omega) (by omega) (by omega) (by omega) (by omega))⟩, ⟨_, (oa_7 h14 (by omega) (by omega) (by omega) (by omega) (by omega) (by omega) (by omega))⟩, ⟨_, (oa_7 h15 (by omega) (by omega) (by omega) (by omega) (by omega) (by omega) (by omega))⟩, ⟨_, (oa_7 h16 (by omega) (by omega) (by omega) (by omega) (by omega) (by omega) (by omega))⟩, ⟨_, (oa_7 h17 (by omega) (by omega) (by omega) (by omega) (by omega) (by omega) (by omega))⟩, ⟨_, (oa_7 h18 (by omega) (by omega) (by omega) (by omega) (by omega) (by omega) (by omega))⟩, ⟨_, (oa_7 h19 (by omega) (by omega) (by omega) (by omega) (by omega) (by omega) (by omega))⟩⟩⟩
    · refine V_iload_n d_K_costOf_16 rfl ?_
      refine V_aload_n d_K_costOf_17 rfl ?_
      refine V_getfield d_K_costOf_18 fl_K_87 (og_0) rfl ?_
      refine V_iconst (-1) d_K_costOf_21 rfl ?_
      refine V_ixor d_K_costOf_22 ?_
      refine V_iand d_K_costOf_23 ?_
      refine V_if_eq 29 d_K_costOf_24 (by decide) (fun c24 => ?_) (fun c24 => ?_)
      · obtain ⟨q1, q2, q3⟩ := andn_0 (SHR_lt hN) c24
        refine V_aload_n d_K_costOf_29 rfl ?_
        refine V_iload_n (x := nI x.toNatClampNeg) d_K_costOf_30 (by rw [← q2]; rfl) ?_
        refine V_callV0 d_K_costOf_31 ml_K_112 mB_K_findOrder mi_K_findOrder mv_K_findOrder rfl og_0 (c_K_findOrder l D _ _ og_0 (og_3 (by omega) (by omega) (by omega)) (og_4 (by omega) (by omega) (by omega) (by omega)) (og_5 (by omega) (by omega) (by omega) (by omega) (by omega)) (og_6 (by omega) (by omega) (by omega) (by omega) (by omega) (by omega)) hN.1 (fun t ht => by simp only [hv_cp, if_pos ht]; exact LE_lt hN ht)) rfl rfl rfl rfl rfl rfl rfl ?_
        rintro _ _ ⟨rfl, lg', co', fi', rfl, hok⟩
        rw [ox_5, ou_6 (by omega) (by omega) (by omega) (by omega) (by omega) (by omega), ou_5 (by omega) (by omega) (by omega) (by omega) (by omega), ou_4 (by omega) (by omega) (by omega) (by omega), ou_3 (by omega) (by omega) (by omega), ou_0]
        have hok := ksOK_congr hN.1 (l2 := LC pl la x.toNatClampNeg) (fun t ht => by simp only [hv_cp, if_pos ht]; rfl) hok
        refine V_aload_n d_K_costOf_34 rfl ?_
        refine V_getfield d_K_costOf_35 fl_K_28 (og_0) rfl ?_
        refine V_aload_n d_K_costOf_38 rfl ?_
        refine V_callV1 d_K_costOf_39 ml_K_98 mB_K_all mi_K_all mv_K_all rfl og_0 (c_K_all l D _ _ og_0 hN.1) rfl rfl rfl rfl rfl rfl rfl ?_
        rintro _ _ ⟨rfl, rfl⟩
        refine V_iaload d_K_costOf_42 (og_5 (by omega) (by omega) (by omega) (by omega) (by omega)) ⟨rfl, (by have := Nat.pow_le_pow_right (n := 2) (by decide) hN.1; have := Nat.two_pow_pos c; omega), by decide⟩ ?_
        refine V_iload_n (x := nI x.toNatClampNeg) d_K_costOf_43 (by rw [← q2]; rfl) ?_
        refine V_callS1 d_K_costOf_44 ml_K_94 mB_K_count ms_K_count (c_K_count l D _ _ (by omega)) rfl rfl rfl rfl rfl rfl rfl ?_
        rintro _ _ ⟨rfl, rfl⟩
        rw [← pc_20 q1]
        refine V_ishlN d_K_costOf_47 (by have := pc_le q1; omega) ?_
        exact V_ireturn d_K_costOf_48 rfl ⟨by unfold A_costOf; rw [if_pos ⟨hr, c24⟩, (hok _ (by have := RDY_c hr; have : 2 ^ 1 ≤ 2 ^ c := Nat.pow_le_pow_right (by decide) this; omega) (by have := RDY_c hr; have : 2 ^ 1 ≤ 2 ^ c := Nat.pow_le_pow_right (by decide) this; omega)).2.1], rfl, fun q hq => oz_7 (by omega) (by omega) (by omega) (by omega) (by omega) (by omega) (by omega), ⟨⟨_, _, _, _, _, _, _, _, _, _, og_0⟩, (og_1 (by omega)), (og_2 (by omega) (by omega)), (oa_7 h3 (by omega) (by omega) (by omega) (by omega) (by omega) (by omega) (by omega)), (oa_7 h4 (by omega) (by omega) (by omega) (by omega) (by omega) (by omega) (by omega)), ⟨_, (og_3 (by omega) (by omega) (by omega))⟩, ⟨_, (og_4 (by omega) (by omega) (by omega) (by omega))⟩, ⟨_, (og_5 (by omega) (by omega) (by omega) (by omega) (by omega))⟩, ⟨_, (og_6 (by omega) (by omega) (by omega) (by omega) (by omega) (by omega))⟩, ⟨_, (oa_7 h9 (by omega) (by omega) (by omega) (by omega) (by omega) (by omega) (by omega))⟩, ⟨_, (oa_7 h10 (by omega) (by omega) (by omega) (by omega) (by omega) (by omega) (by omega))⟩, ⟨_, (oa_7 h11 (by omega) (by omega) (by omega) (by omega) (by omega) (by omega) (by omega))⟩, ⟨_, (oa_7 h12 (by omega) (by omega) (by omega) (by omega) (by omega) (by omega) (by omega))⟩, ⟨_, (oa_7 h13 (by omega) (by omega) (by omega) (by omega) (by omega) (by omega) (by omega))⟩, ⟨_, (oa_7 h14 (by omega) (by omega) (by omega) (by omega) (by omega) (by omega) (by omega))⟩, ⟨_, (oa_7 h15 (by omega) (by omega) (by omega) (by omega) (by omega) (by omega) (by omega))⟩, ⟨_, (oa_7 h16 (by omega) (by omega) (by omega) (by omega) (by omega) (by omega) (by omega))⟩, ⟨_, (oa_7 h17 (by omega) (by omega) (by omega) (by omega) (by omega) (by omega) (by omega))⟩, ⟨_, (oa_7 h18 (by omega) (by omega) (by omega) (by omega) (by omega) (by omega) (by omega))⟩, ⟨_, (oa_7 h19 (by omega) (by omega) (by omega) (by omega) (by omega) (by omega) (by omega))⟩⟩⟩
      · have AN : A_costOf c pl la x = -1 := by unfold A_costOf; rw [if_neg (fun q => c24 q.2)]
        refine V_iconst (-1) d_K_costOf_27 rfl ?_
        exact V_ireturn d_K_costOf_28 rfl ⟨by rw [AN], rfl, fun q hq => oz_7 (by omega) (by omega) (by omega) (by omega) (by omega) (by omega) (by omega), ⟨⟨_, _, _, _, _, _, _, _, _, _, og_0⟩, (og_1 (by omega)), (og_2 (by omega) (by omega)), (oa_7 h3 (by omega) (by omega) (by omega) (by omega) (by omega) (by omega) (by omega)), (oa_7 h4 (by omega) (by omega) (by omega) (by omega) (by omega) (by omega) (by omega)), ⟨_, (og_3 (by omega) (by omega) (by omega))⟩, ⟨_, (og_4 (by omega) (by omega) (by omega) (by omega))⟩, ⟨_, (og_5 (by omega) (by omega) (by omega) (by omega) (by omega))⟩, ⟨_, (og_6 (by omega) (by omega) (by omega) (by omega) (by omega) (by omega))⟩, ⟨_, (oa_7 h9 (by omega) (by omega) (by omega) (by omega) (by omega) (by omega) (by omega))⟩, ⟨_, (oa_7 h10 (by omega) (by omega) (by omega) (by omega) (by omega) (by omega) (by omega))⟩, ⟨_, (oa_7 h11 (by omega) (by omega) (by omega) (by omega) (by omega) (by omega) (by omega))⟩, ⟨_, (oa_7 h12 (by omega) (by omega) (by omega) (by omega) (by omega) (by omega) (by omega))⟩, ⟨_, (oa_7 h13 (by omega) (by omega) (by omega) (by omega) (by omega) (by omega) (by omega))⟩, ⟨_, (oa_7 h14 (by omega) (by omega) (by omega) (by omega) (by omega) (by omega) (by omega))⟩, ⟨_, (oa_7 h15 (by omega) (by omega) (by omega) (by omega) (by omega) (by omega) (by omega))⟩, ⟨_, (oa_7 h16 (by omega) (by omega) (by omega) (by omega) (by omega) (by omega) (by omega))⟩, ⟨_, (oa_7 h17 (by omega) (by omega) (by omega) (by omega) (by omega) (by omega) (by omega))⟩, ⟨_, (oa_7 h18 (by omega) (by omega) (by omega) (by omega) (by omega) (by omega) (by omega))⟩, ⟨_, (oa_7 h19 (by omega) (by omega) (by omega) (by omega) (by omega) (by omega) (by omega))⟩⟩⟩

theorem gd_sub {f : Nat → Nat} : ∀ n S, gd f n S → ∀ X ∈ pv f n S, f X &&& X = f X
  | 0, S, q => q.elim
  | n + 1, S, q => by
    intro X hX
    by_cases c : S &&& (S - 1) = 0
    · simp [pv, c] at hX
    · obtain ⟨⟨a1, a2, a3⟩, a4, a5⟩ := q.2.resolve_left c
      simp only [pv, if_neg c, List.mem_cons, List.mem_append] at hX
      rcases hX with rfl | hX | hX
      · exact a1
      · exact gd_sub n _ a5 X hX
      · exact gd_sub n _ a4 X hX
theorem FI_sub {l1 : Nat → Nat} {c X : Nat} (hc : c ≤ 10) (hl : ∀ t, t < c → l1 t < 2 ^ 20) (gF : gd (FI l1) 10 (2 ^ c - 1)) (mm : X ∈ pv (FI l1) 10 (2 ^ c - 1)) : FI l1 X &&& X = FI l1 X := gd_sub 10 _ gF X mm
set_option maxRecDepth 100000 in
set_option maxHeartbeats 4000000 in
theorem c_K_step (l : Launch) (D : hv_D) (h : hv_P) (nx : Nat) {k c : Nat} {th : Int32} {pl : Nat → Nat} {la : Nat → Option Nat} {re im : Nat → Int32} (hS : kS h k th c pl la re im) (hN : netOK c pl la) (i s : Int32) : hv_N l D M_K_step (hv_rm 3 70 0 0) [.ref k, .int i, .int s] h nx (hv_ans (some (.int (A_step c pl la i s))) (fun h' n' => n' = nx ∧ kFr k h h' ∧ kS h' k (0) (c) (pl) (la) (re) (im))) := by
  refine hv_N.of' [some (.ref k), some (.int i), some (.int s), none] (by decide +kernel) rfl rfl rfl ?_
  obtain ⟨⟨op, sh, sp, tu, gc, my, so, sx, sr, si, hk⟩, h1, h2, h3, h4, ⟨f5, h5⟩, ⟨f6, h6⟩, ⟨f7, h7⟩, ⟨f8, h8⟩, ⟨f9, h9⟩, ⟨f10, h10⟩, ⟨f11, h11⟩, ⟨f12, h12⟩, ⟨f13, h13⟩, ⟨f14, h14⟩, ⟨f15, h15⟩, ⟨f16, h16⟩, ⟨f17, h17⟩, ⟨f18, h18⟩, ⟨f19, h19⟩⟩ := hS
  refine V_eqH (ob_9 hk h1 h2 h5 h6 h7 h8 h9 h10) ?_
  refine V_aload_n d_K_step_0 rfl ?_
  refine V_iconst (0) d_K_step_1 rfl ?_
  refine V_put (e' := oK k (0) ((nI c)) (op) (sh) (sp) (tu) (gc) (my) (sr) (si) (so) (sx)) d_K_step_2 fp_K_69 (og_0) rfl rfl rfl rfl (ou_0) ?_
  refine V_aload_n d_K_step_5 rfl ?_
  refine V_callV1 d_K_step_6 ml_K_90 mB_K_isReady mi_K_isReady mv_K_isReady rfl og_0 (c_K_isReady l D _ _ og_0 (og_1 (by omega)) (og_2 (by omega) (by omega)) (og_3 (by omega) (by omega) (by omega)) hN.1 hN.2.1 hN.2.2.1) rfl rfl rfl rfl rfl rfl rfl ?_
  rintro _ _ ⟨rfl, rfl⟩
  rw [ox_4, ou_3 (by omega) (by omega) (by omega), ou_2 (by omega) (by omega), ou_1 (by omega), ou_0]
  refine V_if_eq 21 d_K_step_9 (by decide) (fun c9 => ?_) (fun c9 => ?_)
  · have hr := rdy_f c9
    have AN : A_step c pl la i s = -1 := by unfold A_step; rw [if_neg (by rw [hr]; intro q; exact absurd q.1 (by decide))]
    refine V_iconst (-1) d_K_step_21 rfl ?_
    exact V_ireturn d_K_step_22 rfl ⟨by rw [AN], rfl, fun q hq => oz_9 (by omega) (by omega) (by omega) (by omega) (by omega) (by omega) (by omega) (by omega) (by omega), ⟨⟨_, _, _, _, _, _, _, _, _, _, og_0⟩, (og_1 (by omega)), (og_2 (by omega) (by omega)), (oa_9 h3 (by omega) (by omega) (by omega) (by omega) (by omega) (by omega) (by omega) (by omega) (by omega)), (oa_9 h4 (by omega) (by omega) (by omega) (by omega) (by omega) (by omega) (by omega) (by omega) (by omega)), ⟨_, (og_3 (by omega) (by omega) (by omega))⟩, ⟨_, (og_4 (by omega) (by omega) (by omega) (by omega))⟩, ⟨_, (og_5 (by omega) (by omega) (by omega) (by omega) (by omega))⟩, ⟨_, (og_6 (by omega) (by omega) (by omega) (by omega) (by omega) (by omega))⟩, ⟨_, (og_7 (by omega) (by omega) (by omega) (by omega) (by omega) (by omega) (by omega))⟩, ⟨_, (og_8 (by omega) (by omega) (by omega) (by omega) (by omega) (by omega) (by omega) (by omega))⟩, ⟨_, (oa_9 h11 (by omega) (by omega) (by omega) (by omega) (by omega) (by omega) (by omega) (by omega) (by omega))⟩, ⟨_, (oa_9 h12 (by omega) (by omega) (by omega) (by omega) (by omega) (by omega) (by omega) (by omega) (by omega))⟩, ⟨_, (oa_9 h13 (by omega) (by omega) (by omega) (by omega) (by omega) (by omega) (by omega) (by omega) (by omega))⟩, ⟨_, (oa_9 h14 (by omega) (by omega) (by omega) (by omega) (by omega) (by omega) (by omega) (by omega) (by omega))⟩, ⟨_, (oa_9 h15 (by omega) (by omega) (by omega) (by omega) (by omega) (by omega) (by omega) (by omega) (by omega))⟩, ⟨_, (oa_9 h16 (by omega) (by omega) (by omega) (by omega) (by omega) (by omega) (by omega) (by omega) (by omega))⟩, ⟨_, (oa_9 h17 (by omega) (by omega) (by omega) (by omega) (by omega) (by omega) (by omega) (by omega) (by omega))⟩, ⟨_, (oa_9 h18 (by omega) (by omega) (by omega) (by omega) (by omega) (by omega) (by omega) (by omega) (by omega))⟩, ⟨_, (oa_9 h19 (by omega) (by omega) (by omega) (by omega) (by omega) (by omega) (by omega) (by omega) (by omega))⟩⟩⟩
  · have hr := rdy_t c9
    refine V_iload_n d_K_step_12 rfl ?_
    refine V_if_lt 21 d_K_step_13 (by decide) (fun c13 => ?_) (fun c13 => ?_)
    · have AN : A_step c pl la i s = -1 := by unfold A_step; rw [if_neg (fun q => q.2.2.1 c13)]
      refine V_iconst (-1) d_K_step_21 rfl ?_
      exact V_ireturn d_K_step_22 rfl ⟨by rw [AN], rfl, fun q hq => oz_9 (by omega) (by omega) (by omega) (by omega) (by omega) (by omega) (by omega) (by omega) (by omega), ⟨⟨_, _, _, _, _, _, _, _, _, _, og_0⟩, (og_1 (by omega)), (og_2 (by omega) (by omega)), (oa_9 h3 (by omega) (by omega) (by omega) (by omega) (by omega) (by omega) (by omega) (by omega) (by omega)), (oa_9 h4 (by omega) (by omega) (by omega) (by omega) (by omega) (by omega) (by omega) (by omega) (by omega)), ⟨_, (og_3 (by omega) (by omega) (by omega))⟩, ⟨_, (og_4 (by omega) (by omega) (by omega) (by omega))⟩, ⟨_, (og_5 (by omega) (by omega) (by omega) (by omega) (by omega))⟩, ⟨_, (og_6 (by omega) (by omega) (by omega) (by omega) (by omega) (by omega))⟩, ⟨_, (og_7 (by omega) (by omega) (by omega) (by omega) (by omega) (by omega) (by omega))⟩, ⟨_, (og_8 (by omega) (by omega) (by omega) (by omega) (by omega) (by omega) (by omega) (by omega))⟩, ⟨_, (oa_9 h11 (by omega) (by omega) (by omega) (by omega) (by omega) (by omega) (by omega) (by omega) (by omega))⟩, ⟨_, (oa_9 h12 (by omega) (by omega) (by omega) (by omega) (by omega) (by omega) (by omega) (by omega) (by omega))⟩, ⟨_, (oa_9 h13 (by omega) (by omega) (by omega) (by omega) (by omega) (by omega) (by omega) (by omega) (by omega))⟩, ⟨_, (oa_9 h14 (by omega) (by omega) (by omega) (by omega) (by omega) (by omega) (by omega) (by omega) (by omega))⟩, ⟨_, (oa_9 h15 (by omega) (by omega) (by omega) (by omega) (by omega) (by omega) (by omega) (by omega) (by omega))⟩, ⟨_, (oa_9 h16 (by omega) (by omega) (by omega) (by omega) (by omega) (by omega) (by omega) (by omega) (by omega))⟩, ⟨_, (oa_9 h17 (by omega) (by omega) (by omega) (by omega) (by omega) (by omega) (by omega) (by omega) (by omega))⟩, ⟨_, (oa_9 h18 (by omega) (by omega) (by omega) (by omega) (by omega) (by omega) (by omega) (by omega) (by omega))⟩, ⟨_, (oa_9 h19 (by omega) (by omega) (by omega) (by omega) (by omega) (by omega) (by omega) (by omega) (by omega))⟩⟩⟩
    · refine V_iload_n d_K_step_16 rfl ?_
      refine V_iconst (1) d_K_step_17 rfl ?_
      refine V_icmp_le 23 d_K_step_18 (by decide) (fun c18 => ?_) (fun c18 => ?_)
      · refine V_aload_n d_K_step_23 rfl ?_
        refine V_iconst (nI 0) d_K_step_24 rfl ?_
        refine V_callV0 d_K_step_25 ml_K_112 mB_K_findOrder mi_K_findOrder mv_K_findOrder rfl og_0 (c_K_findOrder l D _ _ og_0 (og_3 (by omega) (by omega) (by omega)) (og_4 (by omega) (by omega) (by omega) (by omega)) (og_5 (by omega) (by omega) (by omega) (by omega) (by omega)) (og_6 (by omega) (by omega) (by omega) (by omega) (by omega) (by omega)) hN.1 (fun t ht => by simp only [hv_cp, if_pos ht]; exact LE_lt hN ht)) rfl rfl rfl rfl rfl rfl rfl ?_
        rintro _ _ ⟨rfl, lg', co', fi', rfl, hok⟩
        rw [ox_5, ou_6 (by omega) (by omega) (by omega) (by omega) (by omega) (by omega), ou_5 (by omega) (by omega) (by omega) (by omega) (by omega), ou_4 (by omega) (by omega) (by omega) (by omega), ou_3 (by omega) (by omega) (by omega), ou_0]
        have hok := ksOK_congr hN.1 (l2 := LC pl la 0) (fun t ht => by simp only [hv_cp, if_pos ht]; rfl) hok
        refine V_aload_n d_K_step_28 rfl ?_
        obtain ⟨gF, gf, pe, hz, hfi⟩ := ks_gd (RDY_c hr) hN.1 (LC_lt hN _) hok
        have hc1 := RDY_c hr
        have h10 : (2 : Nat) ^ c ≤ 2 ^ 10 := Nat.pow_le_pow_right (by decide) hN.1
        refine V_callV0 d_K_step_29 ml_K_109 mB_K_findSteps mi_K_findSteps mv_K_findSteps rfl og_0 (c_K_findSteps l D _ _ og_0 (og_6 (by omega) (by omega) (by omega) (by omega) (by omega) (by omega)) (og_7 (by omega) (by omega) (by omega) (by omega) (by omega) (by omega) (by omega)) (og_8 (by omega) (by omega) (by omega) (by omega) (by omega) (by omega) (by omega) (by omega)) (RDY_c hr) hN.1 gf hz hfi) rfl rfl rfl rfl rfl rfl rfl ?_
        rintro _ _ ⟨rfl, ss', wt', rfl, hs⟩
        rw [ox_4, ou_8 (by omega) (by omega) (by omega) (by omega) (by omega) (by omega) (by omega) (by omega), ou_7 (by omega) (by omega) (by omega) (by omega) (by omega) (by omega) (by omega), ou_6 (by omega) (by omega) (by omega) (by omega) (by omega) (by omega), ou_0]
        refine V_iload_n d_K_step_32 rfl ?_
        refine V_if_lt 44 d_K_step_33 (by decide) (fun c33 => ?_) (fun c33 => ?_)
        · have AN : A_step c pl la i s = -1 := by unfold A_step; rw [if_neg (fun q => q.2.1.1 c33)]
          refine V_iconst (-1) d_K_step_44 rfl ?_
          exact V_ireturn d_K_step_45 rfl ⟨by rw [AN], rfl, fun q hq => oz_9 (by omega) (by omega) (by omega) (by omega) (by omega) (by omega) (by omega) (by omega) (by omega), ⟨⟨_, _, _, _, _, _, _, _, _, _, og_0⟩, (og_1 (by omega)), (og_2 (by omega) (by omega)), (oa_9 h3 (by omega) (by omega) (by omega) (by omega) (by omega) (by omega) (by omega) (by omega) (by omega)), (oa_9 h4 (by omega) (by omega) (by omega) (by omega) (by omega) (by omega) (by omega) (by omega) (by omega)), ⟨_, (og_3 (by omega) (by omega) (by omega))⟩, ⟨_, (og_4 (by omega) (by omega) (by omega) (by omega))⟩, ⟨_, (og_5 (by omega) (by omega) (by omega) (by omega) (by omega))⟩, ⟨_, (og_6 (by omega) (by omega) (by omega) (by omega) (by omega) (by omega))⟩, ⟨_, (og_7 (by omega) (by omega) (by omega) (by omega) (by omega) (by omega) (by omega))⟩, ⟨_, (og_8 (by omega) (by omega) (by omega) (by omega) (by omega) (by omega) (by omega) (by omega))⟩, ⟨_, (oa_9 h11 (by omega) (by omega) (by omega) (by omega) (by omega) (by omega) (by omega) (by omega) (by omega))⟩, ⟨_, (oa_9 h12 (by omega) (by omega) (by omega) (by omega) (by omega) (by omega) (by omega) (by omega) (by omega))⟩, ⟨_, (oa_9 h13 (by omega) (by omega) (by omega) (by omega) (by omega) (by omega) (by omega) (by omega) (by omega))⟩, ⟨_, (oa_9 h14 (by omega) (by omega) (by omega) (by omega) (by omega) (by omega) (by omega) (by omega) (by omega))⟩, ⟨_, (oa_9 h15 (by omega) (by omega) (by omega) (by omega) (by omega) (by omega) (by omega) (by omega) (by omega))⟩, ⟨_, (oa_9 h16 (by omega) (by omega) (by omega) (by omega) (by omega) (by omega) (by omega) (by omega) (by omega))⟩, ⟨_, (oa_9 h17 (by omega) (by omega) (by omega) (by omega) (by omega) (by omega) (by omega) (by omega) (by omega))⟩, ⟨_, (oa_9 h18 (by omega) (by omega) (by omega) (by omega) (by omega) (by omega) (by omega) (by omega) (by omega))⟩, ⟨_, (oa_9 h19 (by omega) (by omega) (by omega) (by omega) (by omega) (by omega) (by omega) (by omega) (by omega))⟩⟩⟩
        · refine V_iload_n d_K_step_36 rfl ?_
          refine V_aload_n d_K_step_37 rfl ?_
          refine V_getfield d_K_step_38 fl_K_106 (og_0) rfl ?_
          refine V_icmp_lt 46 d_K_step_41 (by decide) (fun c41 => ?_) (fun c41 => ?_)
          · obtain ⟨j1, j2⟩ := i32_nat c33 c41 (by have := hN.1; omega)
            have es := hs (c - 1 - 1 - i.toNatClampNeg) (by omega)
            rw [← pe] at es
            have em : (pv (FI (LC pl la 0)) 10 (2 ^ c - 1)).getD (c - 1 - 1 - i.toNatClampNeg) 0 = MD (LC pl la 0) c i.toNatClampNeg := by unfold MD; rw [show c - 1 - 1 - i.toNatClampNeg = c - 2 - i.toNatClampNeg by omega]
            rw [em] at es
            have mm := MD_in hc1 hN.1 gF j1
            obtain ⟨m1, m2⟩ := pv_sub (m := c) 10 _ (by have := Nat.two_pow_pos c; omega) gF _ mm
            have mf := hok _ (show 1 ≤ MD (LC pl la 0) c i.toNatClampNeg by omega) m2
            have AN : A_step c pl la i s = (if s = 0 then nI (FI (LC pl la 0) (MD (LC pl la 0) c i.toNatClampNeg)) else nI (MD (LC pl la 0) c i.toNatClampNeg ^^^ FI (LC pl la 0) (MD (LC pl la 0) c i.toNatClampNeg))) := by unfold A_step; rw [if_pos ⟨hr, ⟨c33, c41⟩, c13, c18⟩]
            refine V_aload_n d_K_step_46 rfl ?_
            refine V_getfield d_K_step_47 fl_K_34 (og_0) rfl ?_
            refine V_aload_n d_K_step_50 rfl ?_
            refine V_getfield d_K_step_51 fl_K_106 (og_0) rfl ?_
            refine V_iconst (nI 1) d_K_step_54 rfl ?_
            refine V_isubN d_K_step_55 (by omega) ?_
            refine V_iload_n (x := nI i.toNatClampNeg) d_K_step_56 (by rw [← j2]; rfl) ?_
            refine V_isubN d_K_step_57 (by omega) ?_
            refine V_iaload d_K_step_58 (og_7 (by omega) (by omega) (by omega) (by omega) (by omega) (by omega) (by omega)) ⟨rfl, by have := hN.1; omega, by decide⟩ ?_
            rw [es]
            refine V_istore_3 d_K_step_59 rfl ?_
            refine V_iload_n d_K_step_60 rfl ?_
            refine V_if_ne 73 d_K_step_61 (by decide) (fun c61 => ?_) (fun c61 => ?_)
            · rw [if_neg c61] at AN
              refine V_iload_n d_K_step_73 rfl ?_
              refine V_aload_n d_K_step_74 rfl ?_
              refine V_getfield d_K_step_75 fl_K_31 (og_0) rfl ?_
              refine V_iload_n d_K_step_78 rfl ?_
              refine V_iaload d_K_step_79 (og_6 (by omega) (by omega) (by omega) (by omega) (by omega) (by omega)) ⟨rfl, by omega, by decide⟩ ?_
              refine V_iconst (-1) d_K_step_80 rfl ?_
              refine V_ixor d_K_step_81 ?_
              refine V_iand d_K_step_82 ?_
              refine V_eqI ((nx_andn _ _).trans (congrArg nI (anN_sub (by rw [mf.2.2]; exact FI_sub hN.1 (LC_lt hN _) gF mm)))) ?_
              exact V_ireturn d_K_step_83 rfl ⟨by rw [AN, mf.2.2], rfl, fun q hq => oz_9 (by omega) (by omega) (by omega) (by omega) (by omega) (by omega) (by omega) (by omega) (by omega), ⟨⟨_, _, _, _, _, _, _, _, _, _, og_0⟩, (og_1 (by omega)), (og_2 (by omega) (by omega)), (oa_9 h3 (by omega) (by omega) (by omega) (by omega) (by omega) (by omega) (by omega) (by omega) (by omega)), (oa_9 h4 (by omega) (by omega) (by omega) (by omega) (by omega) (by omega) (by omega) (by omega) (by omega)), ⟨_, (og_3 (by omega) (by omega) (by omega))⟩, ⟨_, (og_4 (by omega) (by omega) (by omega) (by omega))⟩, ⟨_, (og_5 (by omega) (by omega) (by omega) (by omega) (by omega))⟩, ⟨_, (og_6 (by omega) (by omega) (by omega) (by omega) (by omega) (by omega))⟩, ⟨_, (og_7 (by omega) (by omega) (by omega) (by omega) (by omega) (by omega) (by omega))⟩, ⟨_, (og_8 (by omega) (by omega) (by omega) (by omega) (by omega) (by omega) (by omega) (by omega))⟩, ⟨_, (oa_9 h11 (by omega) (by omega) (by omega) (by omega) (by omega) (by omega) (by omega) (by omega) (by omega))⟩, ⟨_, (oa_9 h12 (by omega) (by omega) (by omega) (by omega) (by omega) (by omega) (by omega) (by omega) (by omega))⟩, ⟨_, (oa_9 h13 (by omega) (by omega) (by omega) (by omega) (by omega) (by omega) (by omega) (by omega) (by omega))⟩, ⟨_, (oa_9 h14 (by omega) (by omega) (by omega) (by omega) (by omega) (by omega) (by omega) (by omega) (by omega))⟩, ⟨_, (oa_9 h15 (by omega) (by omega) (by omega) (by omega) (by omega) (by omega) (by omega) (by omega) (by omega))⟩, ⟨_, (oa_9 h16 (by omega) (by omega) (by omega) (by omega) (by omega) (by omega) (by omega) (by omega) (by omega))⟩, ⟨_, (oa_9 h17 (by omega) (by omega) (by omega) (by omega) (by omega) (by omega) (by omega) (by omega) (by omega))⟩, ⟨_, (oa_9 h18 (by omega) (by omega) (by omega) (by omega) (by omega) (by omega) (by omega) (by omega) (by omega))⟩, ⟨_, (oa_9 h19 (by omega) (by omega) (by omega) (by omega) (by omega) (by omega) (by omega) (by omega) (by omega))⟩⟩⟩
            · rw [if_pos c61] at AN
              refine V_aload_n d_K_step_64 rfl ?_
              refine V_getfield d_K_step_65 fl_K_31 (og_0) rfl ?_
              refine V_iload_n d_K_step_68 rfl ?_
              refine V_iaload d_K_step_69 (og_6 (by omega) (by omega) (by omega) (by omega) (by omega) (by omega)) ⟨rfl, by omega, by decide⟩ ?_
              refine V_goto 83 d_K_step_70 (by decide) ?_
              exact V_ireturn d_K_step_83 rfl ⟨by rw [AN, mf.2.2], rfl, fun q hq => oz_9 (by omega) (by omega) (by omega) (by omega) (by omega) (by omega) (by omega) (by omega) (by omega), ⟨⟨_, _, _, _, _, _, _, _, _, _, og_0⟩, (og_1 (by omega)), (og_2 (by omega) (by omega)), (oa_9 h3 (by omega) (by omega) (by omega) (by omega) (by omega) (by omega) (by omega) (by omega) (by omega)), (oa_9 h4 (by omega) (by omega) (by omega) (by omega) (by omega) (by omega) (by omega) (by omega) (by omega)), ⟨_, (og_3 (by omega) (by omega) (by omega))⟩, ⟨_, (og_4 (by omega) (by omega) (by omega) (by omega))⟩, ⟨_, (og_5 (by omega) (by omega) (by omega) (by omega) (by omega))⟩, ⟨_, (og_6 (by omega) (by omega) (by omega) (by omega) (by omega) (by omega))⟩, ⟨_, (og_7 (by omega) (by omega) (by omega) (by omega) (by omega) (by omega) (by omega))⟩, ⟨_, (og_8 (by omega) (by omega) (by omega) (by omega) (by omega) (by omega) (by omega) (by omega))⟩, ⟨_, (oa_9 h11 (by omega) (by omega) (by omega) (by omega) (by omega) (by omega) (by omega) (by omega) (by omega))⟩, ⟨_, (oa_9 h12 (by omega) (by omega) (by omega) (by omega) (by omega) (by omega) (by omega) (by omega) (by omega))⟩, ⟨_, (oa_9 h13 (by omega) (by omega) (by omega) (by omega) (by omega) (by omega) (by omega) (by omega) (by omega))⟩, ⟨_, (oa_9 h14 (by omega) (by omega) (by omega) (by omega) (by omega) (by omega) (by omega) (by omega) (by omega))⟩, ⟨_, (oa_9 h15 (by omega) (by omega) (by omega) (by omega) (by omega) (by omega) (by omega) (by omega) (by omega))⟩, ⟨_, (oa_9 h16 (by omega) (by omega) (by omega) (by omega) (by omega) (by omega) (by omega) (by omega) (by omega))⟩, ⟨_, (oa_9 h17 (by omega) (by omega) (by omega) (by omega) (by omega) (by omega) (by omega) (by omega) (by omega))⟩, ⟨_, (oa_9 h18 (by omega) (by omega) (by omega) (by omega) (by omega) (by omega) (by omega) (by omega) (by omega))⟩, ⟨_, (oa_9 h19 (by omega) (by omega) (by omega) (by omega) (by omega) (by omega) (by omega) (by omega) (by omega))⟩⟩⟩
          · have AN : A_step c pl la i s = -1 := by unfold A_step; rw [if_neg (fun q => c41 q.2.1.2)]
            refine V_iconst (-1) d_K_step_44 rfl ?_
            exact V_ireturn d_K_step_45 rfl ⟨by rw [AN], rfl, fun q hq => oz_9 (by omega) (by omega) (by omega) (by omega) (by omega) (by omega) (by omega) (by omega) (by omega), ⟨⟨_, _, _, _, _, _, _, _, _, _, og_0⟩, (og_1 (by omega)), (og_2 (by omega) (by omega)), (oa_9 h3 (by omega) (by omega) (by omega) (by omega) (by omega) (by omega) (by omega) (by omega) (by omega)), (oa_9 h4 (by omega) (by omega) (by omega) (by omega) (by omega) (by omega) (by omega) (by omega) (by omega)), ⟨_, (og_3 (by omega) (by omega) (by omega))⟩, ⟨_, (og_4 (by omega) (by omega) (by omega) (by omega))⟩, ⟨_, (og_5 (by omega) (by omega) (by omega) (by omega) (by omega))⟩, ⟨_, (og_6 (by omega) (by omega) (by omega) (by omega) (by omega) (by omega))⟩, ⟨_, (og_7 (by omega) (by omega) (by omega) (by omega) (by omega) (by omega) (by omega))⟩, ⟨_, (og_8 (by omega) (by omega) (by omega) (by omega) (by omega) (by omega) (by omega) (by omega))⟩, ⟨_, (oa_9 h11 (by omega) (by omega) (by omega) (by omega) (by omega) (by omega) (by omega) (by omega) (by omega))⟩, ⟨_, (oa_9 h12 (by omega) (by omega) (by omega) (by omega) (by omega) (by omega) (by omega) (by omega) (by omega))⟩, ⟨_, (oa_9 h13 (by omega) (by omega) (by omega) (by omega) (by omega) (by omega) (by omega) (by omega) (by omega))⟩, ⟨_, (oa_9 h14 (by omega) (by omega) (by omega) (by omega) (by omega) (by omega) (by omega) (by omega) (by omega))⟩, ⟨_, (oa_9 h15 (by omega) (by omega) (by omega) (by omega) (by omega) (by omega) (by omega) (by omega) (by omega))⟩, ⟨_, (oa_9 h16 (by omega) (by omega) (by omega) (by omega) (by omega) (by omega) (by omega) (by omega) (by omega))⟩, ⟨_, (oa_9 h17 (by omega) (by omega) (by omega) (by omega) (by omega) (by omega) (by omega) (by omega) (by omega))⟩, ⟨_, (oa_9 h18 (by omega) (by omega) (by omega) (by omega) (by omega) (by omega) (by omega) (by omega) (by omega))⟩, ⟨_, (oa_9 h19 (by omega) (by omega) (by omega) (by omega) (by omega) (by omega) (by omega) (by omega) (by omega))⟩⟩⟩
      · have AN : A_step c pl la i s = -1 := by unfold A_step; rw [if_neg (fun q => c18 q.2.2.2)]
        refine V_iconst (-1) d_K_step_21 rfl ?_
        exact V_ireturn d_K_step_22 rfl ⟨by rw [AN], rfl, fun q hq => oz_9 (by omega) (by omega) (by omega) (by omega) (by omega) (by omega) (by omega) (by omega) (by omega), ⟨⟨_, _, _, _, _, _, _, _, _, _, og_0⟩, (og_1 (by omega)), (og_2 (by omega) (by omega)), (oa_9 h3 (by omega) (by omega) (by omega) (by omega) (by omega) (by omega) (by omega) (by omega) (by omega)), (oa_9 h4 (by omega) (by omega) (by omega) (by omega) (by omega) (by omega) (by omega) (by omega) (by omega)), ⟨_, (og_3 (by omega) (by omega) (by omega))⟩, ⟨_, (og_4 (by omega) (by omega) (by omega) (by omega))⟩, ⟨_, (og_5 (by omega) (by omega) (by omega) (by omega) (by omega))⟩, ⟨_, (og_6 (by omega) (by omega) (by omega) (by omega) (by omega) (by omega))⟩, ⟨_, (og_7 (by omega) (by omega) (by omega) (by omega) (by omega) (by omega) (by omega))⟩, ⟨_, (og_8 (by omega) (by omega) (by omega) (by omega) (by omega) (by omega) (by omega) (by omega))⟩, ⟨_, (oa_9 h11 (by omega) (by omega) (by omega) (by omega) (by omega) (by omega) (by omega) (by omega) (by omega))⟩, ⟨_, (oa_9 h12 (by omega) (by omega) (by omega) (by omega) (by omega) (by omega) (by omega) (by omega) (by omega))⟩, ⟨_, (oa_9 h13 (by omega) (by omega) (by omega) (by omega) (by omega) (by omega) (by omega) (by omega) (by omega))⟩, ⟨_, (oa_9 h14 (by omega) (by omega) (by omega) (by omega) (by omega) (by omega) (by omega) (by omega) (by omega))⟩, ⟨_, (oa_9 h15 (by omega) (by omega) (by omega) (by omega) (by omega) (by omega) (by omega) (by omega) (by omega))⟩, ⟨_, (oa_9 h16 (by omega) (by omega) (by omega) (by omega) (by omega) (by omega) (by omega) (by omega) (by omega))⟩, ⟨_, (oa_9 h17 (by omega) (by omega) (by omega) (by omega) (by omega) (by omega) (by omega) (by omega) (by omega))⟩, ⟨_, (oa_9 h18 (by omega) (by omega) (by omega) (by omega) (by omega) (by omega) (by omega) (by omega) (by omega))⟩, ⟨_, (oa_9 h19 (by omega) (by omega) (by omega) (by omega) (by omega) (by omega) (by omega) (by omega) (by omega))⟩⟩⟩
