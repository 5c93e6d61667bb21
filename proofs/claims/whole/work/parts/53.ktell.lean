-- THE MODEL: tell, value, slope
abbrev tellV (c : Nat) (pl : Nat → Nat) (la : Nat → Option Nat) (w part : Int32) : Prop := RDY c pl la = true ∧ (¬ part < 0 ∧ ¬ 1 < part) ∧ (¬ w < 0 ∧ ¬ nI (2 ^ pc_ (OPN c pl la)) ≤ w)
def A_val (c : Nat) (pl : Nat → Nat) (la : Nat → Option Nat) (re im : Nat → Int32) (so sx w part : Int32) : Int64 := if part = 0 then (VV c pl la re im so sx (sprF w.toNatClampNeg (OPN c pl la) 20).1).1 else (VV c pl la re im so sx (sprF w.toNatClampNeg (OPN c pl la) 20).1).2
set_option maxRecDepth 100000 in
set_option maxHeartbeats 4000000 in
theorem c_K_tell1 (l : Launch) (D : hv_D) (h : hv_P) (nx : Nat) {k c : Nat} {th op sh sp tu gc my so sx : Int32} {sr si : Int64} {pl : Nat → Nat} {la : Nat → Option Nat} {re im : Nat → Int32} {f5 f6 f7 f8 f9 f10 f11 f13 f14 f15 f16 f17 : Nat → Nat} {f12 : Nat → Bool} {f18 f19 : Nat → Int64} (hk : h k = some (oK k th (nI c) op sh sp tu gc my sr si so sx)) (hN : netOK c pl la) (h1 : h (k + 1) = some (eN 10 pl)) (h2 : h (k + 2) = some (eM 60 la)) (h3 : h (k + 3) = some (eI 640 re)) (h4 : h (k + 4) = some (eI 640 im)) (h5 : h (k + 5) = some (eN 10 f5)) (h6 : h (k + 6) = some (eN 1024 f6)) (h7 : h (k + 7) = some (eN 1024 f7)) (h8 : h (k + 8) = some (eN 1024 f8)) (h9 : h (k + 9) = some (eN 10 f9)) (h10 : h (k + 10) = some (eN 20 f10)) (h11 : h (k + 11) = some (eN 20 f11)) (h12 : h (k + 12) = some (eB 20 f12)) (h13 : h (k + 13) = some (eN 10 f13)) (h14 : h (k + 14) = some (eN 10 f14)) (h15 : h (k + 15) = some (eN 20 f15)) (h16 : h (k + 16) = some (eN 20 f16)) (h17 : h (k + 17) = some (eN 10 f17)) (h18 : h (k + 18) = some (eL 21 f18)) (h19 : h (k + 19) = some (eL 21 f19)) {g : Bool} {w part : Int32} (hx : ¬ (g = true ∧ tellV c pl la w part)) : hv_N l D M_K_tell (hv_rm 3 80 0 0) [.ref k, .int (bZ g), .int w, .int part] h nx (hv_ans (some (.long 0)) (fun h' n' => n' = nx ∧ kFr k h h' ∧ kS h' k (1) (c) (pl) (la) (re) (im))) := by
  refine hv_N.of' [some (.ref k), some (.int (bZ g)), some (.int w), some (.int part)] (by decide +kernel) rfl rfl rfl ?_
  refine V_eqH (ob_16 hk h1 h2 h3 h4 h5 h6 h7 h8 h9 h10 h15 h16 h17 h18 h19) ?_
  refine V_iload_n d_K_tell_0 rfl ?_
  refine V_if_eq 36 d_K_tell_1 (by decide) (fun c1 => ?_) (fun c1 => ?_)
  · refine V_aload_n d_K_tell_36 rfl ?_
    refine V_iconst (1) d_K_tell_37 rfl ?_
    refine V_callV1 d_K_tell_38 ml_K_160 mB_K_raise mi_K_raise mv_K_raise rfl og_0 (c_K_raise l D _ _ og_0 _) rfl rfl rfl rfl rfl rfl rfl ?_
    rintro _ _ ⟨rfl, rfl⟩
    rw [ou_0]
    exact V_lreturn d_K_tell_41 rfl ⟨rfl, rfl, fun q hq => oz_16 (by omega) (by omega) (by omega) (by omega) (by omega) (by omega) (by omega) (by omega) (by omega) (by omega) (by omega) (by omega) (by omega) (by omega) (by omega) (by omega), ⟨⟨_, _, _, _, _, _, _, _, _, _, og_0⟩, (og_1 (by omega)), (og_2 (by omega) (by omega)), (og_3 (by omega) (by omega) (by omega)), (og_4 (by omega) (by omega) (by omega) (by omega)), ⟨_, (og_5 (by omega) (by omega) (by omega) (by omega) (by omega))⟩, ⟨_, (og_6 (by omega) (by omega) (by omega) (by omega) (by omega) (by omega))⟩, ⟨_, (og_7 (by omega) (by omega) (by omega) (by omega) (by omega) (by omega) (by omega))⟩, ⟨_, (og_8 (by omega) (by omega) (by omega) (by omega) (by omega) (by omega) (by omega) (by omega))⟩, ⟨_, (og_9 (by omega) (by omega) (by omega) (by omega) (by omega) (by omega) (by omega) (by omega) (by omega))⟩, ⟨_, (og_10 (by omega) (by omega) (by omega) (by omega) (by omega) (by omega) (by omega) (by omega) (by omega) (by omega))⟩, ⟨_, (oa_16 h11 (by omega) (by omega) (by omega) (by omega) (by omega) (by omega) (by omega) (by omega) (by omega) (by omega) (by omega) (by omega) (by omega) (by omega) (by omega) (by omega))⟩, ⟨_, (oa_16 h12 (by omega) (by omega) (by omega) (by omega) (by omega) (by omega) (by omega) (by omega) (by omega) (by omega) (by omega) (by omega) (by omega) (by omega) (by omega) (by omega))⟩, ⟨_, (oa_16 h13 (by omega) (by omega) (by omega) (by omega) (by omega) (by omega) (by omega) (by omega) (by omega) (by omega) (by omega) (by omega) (by omega) (by omega) (by omega) (by omega))⟩, ⟨_, (oa_16 h14 (by omega) (by omega) (by omega) (by omega) (by omega) (by omega) (by omega) (by omega) (by omega) (by omega) (by omega) (by omega) (by omega) (by omega) (by omega) (by omega))⟩, ⟨_, (og_11 (by omega) (by omega) (by omega) (by omega) (by omega) (by omega) (by omega) (by omega) (by omega) (by omega) (by omega))⟩, ⟨_, (og_12 (by omega) (by omega) (by omega) (by omega) (by omega) (by omega) (by omega) (by omega) (by omega) (by omega) (by omega) (by omega))⟩, ⟨_, (og_13 (by omega) (by omega) (by omega) (by omega) (by omega) (by omega) (by omega) (by omega) (by omega) (by omega) (by omega) (by omega) (by omega))⟩, ⟨_, (og_14 (by omega) (by omega) (by omega) (by omega) (by omega) (by omega) (by omega) (by omega) (by omega) (by omega) (by omega) (by omega) (by omega) (by omega))⟩, ⟨_, (og_15 (by omega) (by omega) (by omega) (by omega) (by omega) (by omega) (by omega) (by omega) (by omega) (by omega) (by omega) (by omega) (by omega) (by omega) (by omega))⟩⟩⟩
  · have hg := bZ_ne.mp c1
    refine V_aload_n d_K_tell_4 rfl ?_
    refine V_callV1 d_K_tell_5 ml_K_90 mB_K_isReady mi_K_isReady mv_K_isReady rfl og_0 (c_K_isReady l D _ _ og_0 (og_1 (by omega)) (og_2 (by omega) (by omega)) (og_5 (by omega) (by omega) (by omega) (by omega) (by omega)) hN.1 hN.2.1 hN.2.2.1) rfl rfl rfl rfl rfl rfl rfl ?_
    rintro _ _ ⟨rfl, rfl⟩
    rw [ox_4, ou_5 (by omega) (by omega) (by omega) (by omega) (by omega), ou_2 (by omega) (by omega), ou_1 (by omega), ou_0]
    refine V_if_eq 36 d_K_tell_8 (by decide) (fun c8 => ?_) (fun c8 => ?_)
    · refine V_aload_n d_K_tell_36 rfl ?_
      refine V_iconst (1) d_K_tell_37 rfl ?_
      refine V_callV1 d_K_tell_38 ml_K_160 mB_K_raise mi_K_raise mv_K_raise rfl og_0 (c_K_raise l D _ _ og_0 _) rfl rfl rfl rfl rfl rfl rfl ?_
      rintro _ _ ⟨rfl, rfl⟩
      rw [ou_0]
      exact V_lreturn d_K_tell_41 rfl ⟨rfl, rfl, fun q hq => oz_16 (by omega) (by omega) (by omega) (by omega) (by omega) (by omega) (by omega) (by omega) (by omega) (by omega) (by omega) (by omega) (by omega) (by omega) (by omega) (by omega), ⟨⟨_, _, _, _, _, _, _, _, _, _, og_0⟩, (og_1 (by omega)), (og_2 (by omega) (by omega)), (og_3 (by omega) (by omega) (by omega)), (og_4 (by omega) (by omega) (by omega) (by omega)), ⟨_, (og_5 (by omega) (by omega) (by omega) (by omega) (by omega))⟩, ⟨_, (og_6 (by omega) (by omega) (by omega) (by omega) (by omega) (by omega))⟩, ⟨_, (og_7 (by omega) (by omega) (by omega) (by omega) (by omega) (by omega) (by omega))⟩, ⟨_, (og_8 (by omega) (by omega) (by omega) (by omega) (by omega) (by omega) (by omega) (by omega))⟩, ⟨_, (og_9 (by omega) (by omega) (by omega) (by omega) (by omega) (by omega) (by omega) (by omega) (by omega))⟩, ⟨_, (og_10 (by omega) (by omega) (by omega) (by omega) (by omega) (by omega) (by omega) (by omega) (by omega) (by omega))⟩, ⟨_, (oa_16 h11 (by omega) (by omega) (by omega) (by omega) (by omega) (by omega) (by omega) (by omega) (by omega) (by omega) (by omega) (by omega) (by omega) (by omega) (by omega) (by omega))⟩, ⟨_, (oa_16 h12 (by omega) (by omega) (by omega) (by omega) (by omega) (by omega) (by omega) (by omega) (by omega) (by omega) (by omega) (by omega) (by omega) (by omega) (by omega) (by omega))⟩, ⟨_, (oa_16 h13 (by omega) (by omega) (by omega) (by omega) (by omega) (by omega) (by omega) (by omega) (by omega) (by omega) (by omega) (by omega) (by omega) (by omega) (by omega) (by omega))⟩, ⟨_, (oa_16 h14 (by omega) (by omega) (by omega) (by omega) (by omega) (by omega) (by omega) (by omega) (by omega) (by omega) (by omega) (by omega) (by omega) (by omega) (by omega) (by omega))⟩, ⟨_, (og_11 (by omega) (by omega) (by omega) (by omega) (by omega) (by omega) (by omega) (by omega) (by omega) (by omega) (by omega))⟩, ⟨_, (og_12 (by omega) (by omega) (by omega) (by omega) (by omega) (by omega) (by omega) (by omega) (by omega) (by omega) (by omega) (by omega))⟩, ⟨_, (og_13 (by omega) (by omega) (by omega) (by omega) (by omega) (by omega) (by omega) (by omega) (by omega) (by omega) (by omega) (by omega) (by omega))⟩, ⟨_, (og_14 (by omega) (by omega) (by omega) (by omega) (by omega) (by omega) (by omega) (by omega) (by omega) (by omega) (by omega) (by omega) (by omega) (by omega))⟩, ⟨_, (og_15 (by omega) (by omega) (by omega) (by omega) (by omega) (by omega) (by omega) (by omega) (by omega) (by omega) (by omega) (by omega) (by omega) (by omega) (by omega))⟩⟩⟩
    · have hr := rdy_t c8
      refine V_iload_n d_K_tell_11 rfl ?_
      refine V_if_lt 36 d_K_tell_12 (by decide) (fun c12 => ?_) (fun c12 => ?_)
      · refine V_aload_n d_K_tell_36 rfl ?_
        refine V_iconst (1) d_K_tell_37 rfl ?_
        refine V_callV1 d_K_tell_38 ml_K_160 mB_K_raise mi_K_raise mv_K_raise rfl og_0 (c_K_raise l D _ _ og_0 _) rfl rfl rfl rfl rfl rfl rfl ?_
        rintro _ _ ⟨rfl, rfl⟩
        rw [ou_0]
        exact V_lreturn d_K_tell_41 rfl ⟨rfl, rfl, fun q hq => oz_16 (by omega) (by omega) (by omega) (by omega) (by omega) (by omega) (by omega) (by omega) (by omega) (by omega) (by omega) (by omega) (by omega) (by omega) (by omega) (by omega), ⟨⟨_, _, _, _, _, _, _, _, _, _, og_0⟩, (og_1 (by omega)), (og_2 (by omega) (by omega)), (og_3 (by omega) (by omega) (by omega)), (og_4 (by omega) (by omega) (by omega) (by omega)), ⟨_, (og_5 (by omega) (by omega) (by omega) (by omega) (by omega))⟩, ⟨_, (og_6 (by omega) (by omega) (by omega) (by omega) (by omega) (by omega))⟩, ⟨_, (og_7 (by omega) (by omega) (by omega) (by omega) (by omega) (by omega) (by omega))⟩, ⟨_, (og_8 (by omega) (by omega) (by omega) (by omega) (by omega) (by omega) (by omega) (by omega))⟩, ⟨_, (og_9 (by omega) (by omega) (by omega) (by omega) (by omega) (by omega) (by omega) (by omega) (by omega))⟩, ⟨_, (og_10 (by omega) (by omega) (by omega) (by omega) (by omega) (by omega) (by omega) (by omega) (by omega) (by omega))⟩, ⟨_, (oa_16 h11 (by omega) (by omega) (by omega) (by omega) (by omega) (by omega) (by omega) (by omega) (by omega) (by omega) (by omega) (by omega) (by omega) (by omega) (by omega) (by omega))⟩, ⟨_, (oa_16 h12 (by omega) (by omega) (by omega) (by omega) (by omega) (by omega) (by omega) (by omega) (by omega) (by omega) (by omega) (by omega) (by omega) (by omega) (by omega) (by omega))⟩, ⟨_, (oa_16 h13 (by omega) (by omega) (by omega) (by omega) (by omega) (by omega) (by omega) (by omega) (by omega) (by omega) (by omega) (by omega) (by omega) (by omega) (by omega) (by omega))⟩, ⟨_, (oa_16 h14 (by omega) (by omega) (by omega) (by omega) (by omega) (by omega) (by omega) (by omega) (by omega) (by omega) (by omega) (by omega) (by omega) (by omega) (by omega) (by omega))⟩, ⟨_, (og_11 (by omega) (by omega) (by omega) (by omega) (by omega) (by omega) (by omega) (by omega) (by omega) (by omega) (by omega))⟩, ⟨_, (og_12 (by omega) (by omega) (by omega) (by omega) (by omega) (by omega) (by omega) (by omega) (by omega) (by omega) (by omega) (by omega))⟩, ⟨_, (og_13 (by omega) (by omega) (by omega) (by omega) (by omega) (by omega) (by omega) (by omega) (by omega) (by omega) (by omega) (by omega) (by omega))⟩, ⟨_, (og_14 (by omega) (by omega) (by omega) (by omega) (by omega) (by omega) (by omega) (by omega) (by omega) (by omega) (by omega) (by omega) (by omega) (by omega))⟩, ⟨_, (og_15 (by omega) (by omega) (by omega) (by omega) (by omega) (by omega) (by omega) (by omega) (by omega) (by omega) (by omega) (by omega) (by omega) (by omega) (by omega))⟩⟩⟩
      · refine V_iload_n d_K_tell_15 rfl ?_
        refine V_iconst (1) d_K_tell_16 rfl ?_
        refine V_icmp_gt 36 d_K_tell_17 (by decide) (fun c17 => ?_) (fun c17 => ?_)
        · refine V_aload_n d_K_tell_36 rfl ?_
          refine V_iconst (1) d_K_tell_37 rfl ?_
          refine V_callV1 d_K_tell_38 ml_K_160 mB_K_raise mi_K_raise mv_K_raise rfl og_0 (c_K_raise l D _ _ og_0 _) rfl rfl rfl rfl rfl rfl rfl ?_
          rintro _ _ ⟨rfl, rfl⟩
          rw [ou_0]
          exact V_lreturn d_K_tell_41 rfl ⟨rfl, rfl, fun q hq => oz_16 (by omega) (by omega) (by omega) (by omega) (by omega) (by omega) (by omega) (by omega) (by omega) (by omega) (by omega) (by omega) (by omega) (by omega) (by omega) (by omega), ⟨⟨_, _, _, _, _, _, _, _, _, _, og_0⟩, (og_1 (by omega)), (og_2 (by omega) (by omega)), (og_3 (by omega) (by omega) (by omega)), (og_4 (by omega) (by omega) (by omega) (by omega)), ⟨_, (og_5 (by omega) (by omega) (by omega) (by omega) (by omega))⟩, ⟨_, (og_6 (by omega) (by omega) (by omega) (by omega) (by omega) (by omega))⟩, ⟨_, (og_7 (by omega) (by omega) (by omega) (by omega) (by omega) (by omega) (by omega))⟩, ⟨_, (og_8 (by omega) (by omega) (by omega) (by omega) (by omega) (by omega) (by omega) (by omega))⟩, ⟨_, (og_9 (by omega) (by omega) (by omega) (by omega) (by omega) (by omega) (by omega) (by omega) (by omega))⟩, ⟨_, (og_10 (by omega) (by omega) (by omega) (by omega) (by omega) (by omega) (by omega) (by omega) (by omega) (by omega))⟩, ⟨_, (oa_16 h11 (by omega) (by omega) (by omega) (by omega) (by omega) (by omega) (by omega) (by omega) (by omega) (by omega) (by omega) (by omega) (by omega) (by omega) (by omega) (by omega))⟩, ⟨_, (oa_16 h12 (by omega) (by omega) (by omega) (by omega) (by omega) (by omega) (by omega) (by omega) (by omega) (by omega) (by omega) (by omega) (by omega) (by omega) (by omega) (by omega))⟩, ⟨_, (oa_16 h13 (by omega) (by omega) (by omega) (by omega) (by omega) (by omega) (by omega) (by omega) (by omega) (by omega) (by omega) (by omega) (by omega) (by omega) (by omega) (by omega))⟩, ⟨_, (oa_16 h14 (by omega) (by omega) (by omega) (by omega) (by omega) (by omega) (by omega) (by omega) (by omega) (by omega) (by omega) (by omega) (by omega) (by omega) (by omega) (by omega))⟩, ⟨_, (og_11 (by omega) (by omega) (by omega) (by omega) (by omega) (by omega) (by omega) (by omega) (by omega) (by omega) (by omega))⟩, ⟨_, (og_12 (by omega) (by omega) (by omega) (by omega) (by omega) (by omega) (by omega) (by omega) (by omega) (by omega) (by omega) (by omega))⟩, ⟨_, (og_13 (by omega) (by omega) (by omega) (by omega) (by omega) (by omega) (by omega) (by omega) (by omega) (by omega) (by omega) (by omega) (by omega))⟩, ⟨_, (og_14 (by omega) (by omega) (by omega) (by omega) (by omega) (by omega) (by omega) (by omega) (by omega) (by omega) (by omega) (by omega) (by omega) (by omega))⟩, ⟨_, (og_15 (by omega) (by omega) (by omega) (by omega) (by omega) (by omega) (by omega) (by omega) (by omega) (by omega) (by omega) (by omega) (by omega) (by omega) (by omega))⟩⟩⟩
        · refine V_iload_n d_K_tell_20 rfl ?_
          refine V_if_lt 36 d_K_tell_21 (by decide) (fun c21 => ?_) (fun c21 => ?_)
          · refine V_aload_n d_K_tell_36 rfl ?_
            refine V_iconst (1) d_K_tell_37 rfl ?_
            refine V_callV1 d_K_tell_38 ml_K_160 mB_K_raise mi_K_raise mv_K_raise rfl og_0 (c_K_raise l D _ _ og_0 _) rfl rfl rfl rfl rfl rfl rfl ?_
            rintro _ _ ⟨rfl, rfl⟩
            rw [ou_0]
            exact V_lreturn d_K_tell_41 rfl ⟨rfl, rfl, fun q hq => oz_16 (by omega) (by omega) (by omega) (by omega) (by omega) (by omega) (by omega) (by omega) (by omega) (by omega) (by omega) (by omega) (by omega) (by omega) (by omega) (by omega), ⟨⟨_, _, _, _, _, _, _, _, _, _, og_0⟩, (og_1 (by omega)), (og_2 (by omega) (by omega)), (og_3 (by omega) (by omega) (by omega)), (og_4 (by omega) (by omega) (by omega) (by omega)), ⟨_, (og_5 (by omega) (by omega) (by omega) (by omega) (by omega))⟩, ⟨_, (og_6 (by omega) (by omega) (by omega) (by omega) (by omega) (by omega))⟩, ⟨_, (og_7 (by omega) (by omega) (by omega) (by omega) (by omega) (by omega) (by omega))⟩, ⟨_, (og_8 (by omega) (by omega) (by omega) (by omega) (by omega) (by omega) (by omega) (by omega))⟩, ⟨_, (og_9 (by omega) (by omega) (by omega) (by omega) (by omega) (by omega) (by omega) (by omega) (by omega))⟩, ⟨_, (og_10 (by omega) (by omega) (by omega) (by omega) (by omega) (by omega) (by omega) (by omega) (by omega) (by omega))⟩, ⟨_, (oa_16 h11 (by omega) (by omega) (by omega) (by omega) (by omega) (by omega) (by omega) (by omega) (by omega) (by omega) (by omega) (by omega) (by omega) (by omega) (by omega) (by omega))⟩, ⟨_, (oa_16 h12 (by omega) (by omega) (by omega) (by omega) (by omega) (by omega) (by omega) (by omega) (by omega) (by omega) (by omega) (by omega) (by omega) (by omega) (by omega) (by omega))⟩, ⟨_, (oa_16 h13 (by omega) (by omega) (by omega) (by omega) (by omega) (by omega) (by omega) (by omega) (by omega) (by omega) (by omega) (by omega) (by omega) (by omega) (by omega) (by omega))⟩, ⟨_, (oa_16 h14 (by omega) (by omega) (by omega) (by omega) (by omega) (by omega) (by omega) (by omega) (by omega) (by omega) (by omega) (by omega) (by omega) (by omega) (by omega) (by omega))⟩, ⟨_, (og_11 (by omega) (by omega) (by omega) (by omega) (by omega) (by omega) (by omega) (by omega) (by omega) (by omega) (by omega))⟩, ⟨_, (og_12 (by omega) (by omega) (by omega) (by omega) (by omega) (by omega) (by omega) (by omega) (by omega) (by omega) (by omega) (by omega))⟩, ⟨_, (og_13 (by omega) (by omega) (by omega) (by omega) (by omega) (by omega) (by omega) (by omega) (by omega) (by omega) (by omega) (by omega) (by omega))⟩, ⟨_, (og_14 (by omega) (by omega) (by omega) (by omega) (by omega) (by omega) (by omega) (by omega) (by omega) (by omega) (by omega) (by omega) (by omega) (by omega))⟩, ⟨_, (og_15 (by omega) (by omega) (by omega) (by omega) (by omega) (by omega) (by omega) (by omega) (by omega) (by omega) (by omega) (by omega) (by omega) (by omega) (by omega))⟩⟩⟩
          · obtain ⟨w1, w2⟩ := i32_nn c21
            have hO := OPN_lt hN
            have pO := pc_20 hO
            have pO2 := pc_le hO
            refine V_iload_n (x := nI w.toNatClampNeg) d_K_tell_24 (by rw [← w1]; rfl) ?_
            refine V_aload_n d_K_tell_25 rfl ?_
            refine V_getfield d_K_tell_26 fl_K_84 (og_0) rfl ?_
            refine V_callS1 d_K_tell_29 ml_K_94 mB_K_count ms_K_count (c_K_count l D _ _ (a := OPN c pl la) (by omega)) rfl rfl rfl rfl rfl rfl rfl ?_
            rintro _ _ ⟨rfl, rfl⟩
            rw [← pO]
            refine V_iushrN d_K_tell_32 (by omega) (by omega) ?_
            refine V_if_eqN 42 d_K_tell_33 (by decide) (Nat.lt_of_le_of_lt (Nat.div_le_self _ _) w2) (fun c33 => ?_) (fun c33 => ?_)
            · exfalso
              have lt : w.toNatClampNeg < 2 ^ pc_ (OPN c pl la) := by
                have := Nat.div_add_mod w.toNatClampNeg (2 ^ pc_ (OPN c pl la))
                rw [c33] at this
                have := Nat.mod_lt w.toNatClampNeg (Nat.two_pow_pos (pc_ (OPN c pl la)))
                omega
              have p20 : 2 ^ pc_ (OPN c pl la) ≤ 2 ^ 20 := Nat.pow_le_pow_right (by decide) pO2
              refine hx ⟨hg, hr, ⟨c12, c17⟩, c21, ?_⟩
              rw [w1, nI_leI (by omega) w2]
              omega
            · refine V_aload_n d_K_tell_36 rfl ?_
              refine V_iconst (1) d_K_tell_37 rfl ?_
              refine V_callV1 d_K_tell_38 ml_K_160 mB_K_raise mi_K_raise mv_K_raise rfl og_0 (c_K_raise l D _ _ og_0 _) rfl rfl rfl rfl rfl rfl rfl ?_
              rintro _ _ ⟨rfl, rfl⟩
              rw [ou_0]
              exact V_lreturn d_K_tell_41 rfl ⟨rfl, rfl, fun q hq => oz_16 (by omega) (by omega) (by omega) (by omega) (by omega) (by omega) (by omega) (by omega) (by omega) (by omega) (by omega) (by omega) (by omega) (by omega) (by omega) (by omega), ⟨⟨_, _, _, _, _, _, _, _, _, _, og_0⟩, (og_1 (by omega)), (og_2 (by omega) (by omega)), (og_3 (by omega) (by omega) (by omega)), (og_4 (by omega) (by omega) (by omega) (by omega)), ⟨_, (og_5 (by omega) (by omega) (by omega) (by omega) (by omega))⟩, ⟨_, (og_6 (by omega) (by omega) (by omega) (by omega) (by omega) (by omega))⟩, ⟨_, (og_7 (by omega) (by omega) (by omega) (by omega) (by omega) (by omega) (by omega))⟩, ⟨_, (og_8 (by omega) (by omega) (by omega) (by omega) (by omega) (by omega) (by omega) (by omega))⟩, ⟨_, (og_9 (by omega) (by omega) (by omega) (by omega) (by omega) (by omega) (by omega) (by omega) (by omega))⟩, ⟨_, (og_10 (by omega) (by omega) (by omega) (by omega) (by omega) (by omega) (by omega) (by omega) (by omega) (by omega))⟩, ⟨_, (oa_16 h11 (by omega) (by omega) (by omega) (by omega) (by omega) (by omega) (by omega) (by omega) (by omega) (by omega) (by omega) (by omega) (by omega) (by omega) (by omega) (by omega))⟩, ⟨_, (oa_16 h12 (by omega) (by omega) (by omega) (by omega) (by omega) (by omega) (by omega) (by omega) (by omega) (by omega) (by omega) (by omega) (by omega) (by omega) (by omega) (by omega))⟩, ⟨_, (oa_16 h13 (by omega) (by omega) (by omega) (by omega) (by omega) (by omega) (by omega) (by omega) (by omega) (by omega) (by omega) (by omega) (by omega) (by omega) (by omega) (by omega))⟩, ⟨_, (oa_16 h14 (by omega) (by omega) (by omega) (by omega) (by omega) (by omega) (by omega) (by omega) (by omega) (by omega) (by omega) (by omega) (by omega) (by omega) (by omega) (by omega))⟩, ⟨_, (og_11 (by omega) (by omega) (by omega) (by omega) (by omega) (by omega) (by omega) (by omega) (by omega) (by omega) (by omega))⟩, ⟨_, (og_12 (by omega) (by omega) (by omega) (by omega) (by omega) (by omega) (by omega) (by omega) (by omega) (by omega) (by omega) (by omega))⟩, ⟨_, (og_13 (by omega) (by omega) (by omega) (by omega) (by omega) (by omega) (by omega) (by omega) (by omega) (by omega) (by omega) (by omega) (by omega))⟩, ⟨_, (og_14 (by omega) (by omega) (by omega) (by omega) (by omega) (by omega) (by omega) (by omega) (by omega) (by omega) (by omega) (by omega) (by omega) (by omega))⟩, ⟨_, (og_15 (by omega) (by omega) (by omega) (by omega) (by omega) (by omega) (by omega) (by omega) (by omega) (by omega) (by omega) (by omega) (by omega) (by omega) (by omega))⟩⟩⟩

set_option maxRecDepth 100000 in
set_option maxHeartbeats 4000000 in
theorem c_K_tell2 (l : Launch) (D : hv_D) (h : hv_P) (nx : Nat) {k c : Nat} {th op sh sp tu gc my so sx : Int32} {sr si : Int64} {pl : Nat → Nat} {la : Nat → Option Nat} {re im : Nat → Int32} {f5 f6 f7 f8 f9 f10 f11 f13 f14 f15 f16 f17 : Nat → Nat} {f12 : Nat → Bool} {f18 f19 : Nat → Int64} (hk : h k = some (oK k th (nI c) op sh sp tu gc my sr si so sx)) (hN : netOK c pl la) (h1 : h (k + 1) = some (eN 10 pl)) (h2 : h (k + 2) = some (eM 60 la)) (h3 : h (k + 3) = some (eI 640 re)) (h4 : h (k + 4) = some (eI 640 im)) (h5 : h (k + 5) = some (eN 10 f5)) (h6 : h (k + 6) = some (eN 1024 f6)) (h7 : h (k + 7) = some (eN 1024 f7)) (h8 : h (k + 8) = some (eN 1024 f8)) (h9 : h (k + 9) = some (eN 10 f9)) (h10 : h (k + 10) = some (eN 20 f10)) (h11 : h (k + 11) = some (eN 20 f11)) (h12 : h (k + 12) = some (eB 20 f12)) (h13 : h (k + 13) = some (eN 10 f13)) (h14 : h (k + 14) = some (eN 10 f14)) (h15 : h (k + 15) = some (eN 20 f15)) (h16 : h (k + 16) = some (eN 20 f16)) (h17 : h (k + 17) = some (eN 10 f17)) (h18 : h (k + 18) = some (eL 21 f18)) (h19 : h (k + 19) = some (eL 21 f19)) {g : Bool} {w part : Int32} (hg : g = true) (hx : tellV c pl la w part) (hp : 12 < PK (LC pl la 0) c) : hv_N l D M_K_tell (hv_rm 3 80 0 0) [.ref k, .int (bZ g), .int w, .int part] h nx (hv_ans (some (.long 0)) (fun h' n' => n' = nx ∧ kFr k h h' ∧ kS h' k (2) (c) (pl) (la) (re) (im))) := by
  refine hv_N.of' [some (.ref k), some (.int (bZ g)), some (.int w), some (.int part)] (by decide +kernel) rfl rfl rfl ?_
  obtain ⟨hr, ⟨p1, p2⟩, w0, w3⟩ := hx
  obtain ⟨w1, w2⟩ := i32_nn w0
  have hO := OPN_lt hN
  have pO := pc_20 hO
  have pO2 := pc_le hO
  have p20 : 2 ^ pc_ (OPN c pl la) ≤ 2 ^ 20 := Nat.pow_le_pow_right (by decide) pO2
  have wlt : w.toNatClampNeg < 2 ^ pc_ (OPN c pl la) := by
    rw [w1, nI_leI (by omega) w2] at w3
    omega
  have w4 : w.toNatClampNeg / 2 ^ pc_ (OPN c pl la) = 0 := Nat.div_eq_of_lt wlt
  refine V_eqH (ob_16 hk h1 h2 h3 h4 h5 h6 h7 h8 h9 h10 h15 h16 h17 h18 h19) ?_
  refine V_iload_n d_K_tell_0 rfl ?_
  refine V_if_eq 36 d_K_tell_1 (by decide) (fun q => absurd q (by rw [hg]; decide)) (fun _ => ?_)
  refine V_aload_n d_K_tell_4 rfl ?_
  refine V_callV1 d_K_tell_5 ml_K_90 mB_K_isReady mi_K_isReady mv_K_isReady rfl og_0 (c_K_isReady l D _ _ og_0 (og_1 (by omega)) (og_2 (by omega) (by omega)) (og_5 (by omega) (by omega) (by omega) (by omega) (by omega)) hN.1 hN.2.1 hN.2.2.1) rfl rfl rfl rfl rfl rfl rfl ?_
  rintro _ _ ⟨rfl, rfl⟩
  rw [ox_4, ou_5 (by omega) (by omega) (by omega) (by omega) (by omega), ou_2 (by omega) (by omega), ou_1 (by omega), ou_0]
  refine V_if_eq 36 d_K_tell_8 (by decide) (fun q => absurd q (bZ_ne.mpr hr)) (fun _ => ?_)
  refine V_iload_n d_K_tell_11 rfl ?_
  refine V_if_lt 36 d_K_tell_12 (by decide) (fun q => absurd q p1) (fun _ => ?_)
  refine V_iload_n d_K_tell_15 rfl ?_
  refine V_iconst (1) d_K_tell_16 rfl ?_
  refine V_icmp_gt 36 d_K_tell_17 (by decide) (fun q => absurd q p2) (fun _ => ?_)
  refine V_iload_n d_K_tell_20 rfl ?_
  refine V_if_lt 36 d_K_tell_21 (by decide) (fun q => absurd q w0) (fun _ => ?_)
  refine V_iload_n (x := nI w.toNatClampNeg) d_K_tell_24 (by rw [← w1]; rfl) ?_
  refine V_aload_n d_K_tell_25 rfl ?_
  refine V_getfield d_K_tell_26 fl_K_84 (og_0) rfl ?_
  refine V_callS1 d_K_tell_29 ml_K_94 mB_K_count ms_K_count (c_K_count l D _ _ (a := OPN c pl la) (by omega)) rfl rfl rfl rfl rfl rfl rfl ?_
  rintro _ _ ⟨rfl, rfl⟩
  rw [← pO]
  refine V_iushrN d_K_tell_32 (by omega) (by omega) ?_
  rw [w4]
  refine V_if_eqN 42 d_K_tell_33 (by decide) (by decide) (fun _ => ?_) (fun q => by exfalso; omega)
  refine V_aload_n d_K_tell_42 rfl ?_
  refine V_iconst (nI 0) d_K_tell_43 rfl ?_
  refine V_callV0 d_K_tell_44 ml_K_112 mB_K_findOrder mi_K_findOrder mv_K_findOrder rfl og_0 (c_K_findOrder l D _ _ og_0 (og_5 (by omega) (by omega) (by omega) (by omega) (by omega)) (og_6 (by omega) (by omega) (by omega) (by omega) (by omega) (by omega)) (og_7 (by omega) (by omega) (by omega) (by omega) (by omega) (by omega) (by omega)) (og_8 (by omega) (by omega) (by omega) (by omega) (by omega) (by omega) (by omega) (by omega)) hN.1 (fun t ht => by simp only [hv_cp, if_pos ht]; exact LE_lt hN ht)) rfl rfl rfl rfl rfl rfl rfl ?_
  rintro _ _ ⟨rfl, lg', co', fi', rfl, hok⟩
  rw [ox_5, ou_8 (by omega) (by omega) (by omega) (by omega) (by omega) (by omega) (by omega) (by omega), ou_7 (by omega) (by omega) (by omega) (by omega) (by omega) (by omega) (by omega), ou_6 (by omega) (by omega) (by omega) (by omega) (by omega) (by omega), ou_5 (by omega) (by omega) (by omega) (by omega) (by omega), ou_0]
  have hok := ksOK_congr hN.1 (l2 := LC pl la 0) (fun t ht => by simp only [hv_cp, if_pos ht]; rfl) hok
  refine V_aload_n d_K_tell_47 rfl ?_
  refine V_callV1 d_K_tell_48 ml_K_116 mB_K_peakNow mi_K_peakNow mv_K_peakNow rfl og_0 (c_K_peakNow l D _ _ og_0 (og_6 (by omega) (by omega) (by omega) (by omega) (by omega) (by omega)) (og_8 (by omega) (by omega) (by omega) (by omega) (by omega) (by omega) (by omega) (by omega)) (og_9 (by omega) (by omega) (by omega) (by omega) (by omega) (by omega) (by omega) (by omega) (by omega)) (og_10 (by omega) (by omega) (by omega) (by omega) (by omega) (by omega) (by omega) (by omega) (by omega) (by omega)) (RDY_c hr) hN.1 (LC_lt hN _) hok) rfl rfl rfl rfl rfl rfl rfl ?_
  rintro _ _ ⟨rfl, ss', wt', rfl, hs⟩
  rw [ox_5, ou_10 (by omega) (by omega) (by omega) (by omega) (by omega) (by omega) (by omega) (by omega) (by omega) (by omega), ou_9 (by omega) (by omega) (by omega) (by omega) (by omega) (by omega) (by omega) (by omega) (by omega), ou_8 (by omega) (by omega) (by omega) (by omega) (by omega) (by omega) (by omega) (by omega), ou_6 (by omega) (by omega) (by omega) (by omega) (by omega) (by omega), ou_0]
  refine V_bipush (nI 12) d_K_tell_51 rfl ?_
  refine V_icmp_leN 62 d_K_tell_53 (by decide) (Nat.lt_of_le_of_lt (PK_le (RDY_c hr) hN.1 (LC_lt hN _)) (by decide)) (by decide) (fun q => by exfalso; omega) (fun _ => ?_)
  refine V_aload_n d_K_tell_56 rfl ?_
  refine V_iconst (2) d_K_tell_57 rfl ?_
  refine V_callV1 d_K_tell_58 ml_K_160 mB_K_raise mi_K_raise mv_K_raise rfl og_0 (c_K_raise l D _ _ og_0 _) rfl rfl rfl rfl rfl rfl rfl ?_
  rintro _ _ ⟨rfl, rfl⟩
  rw [ou_0]
  exact V_lreturn d_K_tell_61 rfl ⟨rfl, rfl, fun q hq => oz_16 (by omega) (by omega) (by omega) (by omega) (by omega) (by omega) (by omega) (by omega) (by omega) (by omega) (by omega) (by omega) (by omega) (by omega) (by omega) (by omega), ⟨⟨_, _, _, _, _, _, _, _, _, _, og_0⟩, (og_1 (by omega)), (og_2 (by omega) (by omega)), (og_3 (by omega) (by omega) (by omega)), (og_4 (by omega) (by omega) (by omega) (by omega)), ⟨_, (og_5 (by omega) (by omega) (by omega) (by omega) (by omega))⟩, ⟨_, (og_6 (by omega) (by omega) (by omega) (by omega) (by omega) (by omega))⟩, ⟨_, (og_7 (by omega) (by omega) (by omega) (by omega) (by omega) (by omega) (by omega))⟩, ⟨_, (og_8 (by omega) (by omega) (by omega) (by omega) (by omega) (by omega) (by omega) (by omega))⟩, ⟨_, (og_9 (by omega) (by omega) (by omega) (by omega) (by omega) (by omega) (by omega) (by omega) (by omega))⟩, ⟨_, (og_10 (by omega) (by omega) (by omega) (by omega) (by omega) (by omega) (by omega) (by omega) (by omega) (by omega))⟩, ⟨_, (oa_16 h11 (by omega) (by omega) (by omega) (by omega) (by omega) (by omega) (by omega) (by omega) (by omega) (by omega) (by omega) (by omega) (by omega) (by omega) (by omega) (by omega))⟩, ⟨_, (oa_16 h12 (by omega) (by omega) (by omega) (by omega) (by omega) (by omega) (by omega) (by omega) (by omega) (by omega) (by omega) (by omega) (by omega) (by omega) (by omega) (by omega))⟩, ⟨_, (oa_16 h13 (by omega) (by omega) (by omega) (by omega) (by omega) (by omega) (by omega) (by omega) (by omega) (by omega) (by omega) (by omega) (by omega) (by omega) (by omega) (by omega))⟩, ⟨_, (oa_16 h14 (by omega) (by omega) (by omega) (by omega) (by omega) (by omega) (by omega) (by omega) (by omega) (by omega) (by omega) (by omega) (by omega) (by omega) (by omega) (by omega))⟩, ⟨_, (og_11 (by omega) (by omega) (by omega) (by omega) (by omega) (by omega) (by omega) (by omega) (by omega) (by omega) (by omega))⟩, ⟨_, (og_12 (by omega) (by omega) (by omega) (by omega) (by omega) (by omega) (by omega) (by omega) (by omega) (by omega) (by omega) (by omega))⟩, ⟨_, (og_13 (by omega) (by omega) (by omega) (by omega) (by omega) (by omega) (by omega) (by omega) (by omega) (by omega) (by omega) (by omega) (by omega))⟩, ⟨_, (og_14 (by omega) (by omega) (by omega) (by omega) (by omega) (by omega) (by omega) (by omega) (by omega) (by omega) (by omega) (by omega) (by omega) (by omega))⟩, ⟨_, (og_15 (by omega) (by omega) (by omega) (by omega) (by omega) (by omega) (by omega) (by omega) (by omega) (by omega) (by omega) (by omega) (by omega) (by omega) (by omega))⟩⟩⟩

set_option maxRecDepth 100000 in
set_option maxHeartbeats 4000000 in
theorem c_K_tell3 (l : Launch) (D : hv_D) (h : hv_P) (nx : Nat) {k c : Nat} {th op sh sp tu gc my so sx : Int32} {sr si : Int64} {pl : Nat → Nat} {la : Nat → Option Nat} {re im : Nat → Int32} {f5 f6 f7 f8 f9 f10 f11 f13 f14 f15 f16 f17 : Nat → Nat} {f12 : Nat → Bool} {f18 f19 : Nat → Int64} (hk : h k = some (oK k th (nI c) op sh sp tu gc my sr si so sx)) (hN : netOK c pl la) (h1 : h (k + 1) = some (eN 10 pl)) (h2 : h (k + 2) = some (eM 60 la)) (h3 : h (k + 3) = some (eI 640 re)) (h4 : h (k + 4) = some (eI 640 im)) (h5 : h (k + 5) = some (eN 10 f5)) (h6 : h (k + 6) = some (eN 1024 f6)) (h7 : h (k + 7) = some (eN 1024 f7)) (h8 : h (k + 8) = some (eN 1024 f8)) (h9 : h (k + 9) = some (eN 10 f9)) (h10 : h (k + 10) = some (eN 20 f10)) (h11 : h (k + 11) = some (eN 20 f11)) (h12 : h (k + 12) = some (eB 20 f12)) (h13 : h (k + 13) = some (eN 10 f13)) (h14 : h (k + 14) = some (eN 10 f14)) (h15 : h (k + 15) = some (eN 20 f15)) (h16 : h (k + 16) = some (eN 20 f16)) (h17 : h (k + 17) = some (eN 10 f17)) (h18 : h (k + 18) = some (eL 21 f18)) (h19 : h (k + 19) = some (eL 21 f19)) {g : Bool} {w part : Int32} (hg : g = true) (hx : tellV c pl la w part) (hp : PK (LC pl la 0) c ≤ 12) : hv_N l D M_K_tell (hv_rm 3 80 0 0) [.ref k, .int (bZ g), .int w, .int part] h nx (hv_ans (some (.long (A_val c pl la re im so sx w part))) (fun h' n' => n' = nx ∧ kFr k h h' ∧ kS h' k (0) (c) (pl) (la) (re) (im))) := by
  refine hv_N.of' [some (.ref k), some (.int (bZ g)), some (.int w), some (.int part)] (by decide +kernel) rfl rfl rfl ?_
  obtain ⟨hr, ⟨p1, p2⟩, w0, w3⟩ := hx
  obtain ⟨w1, w2⟩ := i32_nn w0
  have hO := OPN_lt hN
  have pO := pc_20 hO
  have pO2 := pc_le hO
  have p20 : 2 ^ pc_ (OPN c pl la) ≤ 2 ^ 20 := Nat.pow_le_pow_right (by decide) pO2
  have wlt : w.toNatClampNeg < 2 ^ pc_ (OPN c pl la) := by
    rw [w1, nI_leI (by omega) w2] at w3
    omega
  have w4 : w.toNatClampNeg / 2 ^ pc_ (OPN c pl la) = 0 := Nat.div_eq_of_lt wlt
  refine V_eqH (ob_16 hk h1 h2 h3 h4 h5 h6 h7 h8 h9 h10 h15 h16 h17 h18 h19) ?_
  refine V_iload_n d_K_tell_0 rfl ?_
  refine V_if_eq 36 d_K_tell_1 (by decide) (fun q => absurd q (by rw [hg]; decide)) (fun _ => ?_)
  refine V_aload_n d_K_tell_4 rfl ?_
  refine V_callV1 d_K_tell_5 ml_K_90 mB_K_isReady mi_K_isReady mv_K_isReady rfl og_0 (c_K_isReady l D _ _ og_0 (og_1 (by omega)) (og_2 (by omega) (by omega)) (og_5 (by omega) (by omega) (by omega) (by omega) (by omega)) hN.1 hN.2.1 hN.2.2.1) rfl rfl rfl rfl rfl rfl rfl ?_
  rintro _ _ ⟨rfl, rfl⟩
  rw [ox_4, ou_5 (by omega) (by omega) (by omega) (by omega) (by omega), ou_2 (by omega) (by omega), ou_1 (by omega), ou_0]
  refine V_if_eq 36 d_K_tell_8 (by decide) (fun q => absurd q (bZ_ne.mpr hr)) (fun _ => ?_)
  refine V_iload_n d_K_tell_11 rfl ?_
  refine V_if_lt 36 d_K_tell_12 (by decide) (fun q => absurd q p1) (fun _ => ?_)
  refine V_iload_n d_K_tell_15 rfl ?_
  refine V_iconst (1) d_K_tell_16 rfl ?_
  refine V_icmp_gt 36 d_K_tell_17 (by decide) (fun q => absurd q p2) (fun _ => ?_)
  refine V_iload_n d_K_tell_20 rfl ?_
  refine V_if_lt 36 d_K_tell_21 (by decide) (fun q => absurd q w0) (fun _ => ?_)
  refine V_iload_n (x := nI w.toNatClampNeg) d_K_tell_24 (by rw [← w1]; rfl) ?_
  refine V_aload_n d_K_tell_25 rfl ?_
  refine V_getfield d_K_tell_26 fl_K_84 (og_0) rfl ?_
  refine V_callS1 d_K_tell_29 ml_K_94 mB_K_count ms_K_count (c_K_count l D _ _ (a := OPN c pl la) (by omega)) rfl rfl rfl rfl rfl rfl rfl ?_
  rintro _ _ ⟨rfl, rfl⟩
  rw [← pO]
  refine V_iushrN d_K_tell_32 (by omega) (by omega) ?_
  rw [w4]
  refine V_if_eqN 42 d_K_tell_33 (by decide) (by decide) (fun _ => ?_) (fun q => by exfalso; omega)
  refine V_aload_n d_K_tell_42 rfl ?_
  refine V_iconst (nI 0) d_K_tell_43 rfl ?_
  refine V_callV0 d_K_tell_44 ml_K_112 mB_K_findOrder mi_K_findOrder mv_K_findOrder rfl og_0 (c_K_findOrder l D _ _ og_0 (og_5 (by omega) (by omega) (by omega) (by omega) (by omega)) (og_6 (by omega) (by omega) (by omega) (by omega) (by omega) (by omega)) (og_7 (by omega) (by omega) (by omega) (by omega) (by omega) (by omega) (by omega)) (og_8 (by omega) (by omega) (by omega) (by omega) (by omega) (by omega) (by omega) (by omega)) hN.1 (fun t ht => by simp only [hv_cp, if_pos ht]; exact LE_lt hN ht)) rfl rfl rfl rfl rfl rfl rfl ?_
  rintro _ _ ⟨rfl, lg', co', fi', rfl, hok⟩
  rw [ox_5, ou_8 (by omega) (by omega) (by omega) (by omega) (by omega) (by omega) (by omega) (by omega), ou_7 (by omega) (by omega) (by omega) (by omega) (by omega) (by omega) (by omega), ou_6 (by omega) (by omega) (by omega) (by omega) (by omega) (by omega), ou_5 (by omega) (by omega) (by omega) (by omega) (by omega), ou_0]
  have hok := ksOK_congr hN.1 (l2 := LC pl la 0) (fun t ht => by simp only [hv_cp, if_pos ht]; rfl) hok
  refine V_aload_n d_K_tell_47 rfl ?_
  refine V_callV1 d_K_tell_48 ml_K_116 mB_K_peakNow mi_K_peakNow mv_K_peakNow rfl og_0 (c_K_peakNow l D _ _ og_0 (og_6 (by omega) (by omega) (by omega) (by omega) (by omega) (by omega)) (og_8 (by omega) (by omega) (by omega) (by omega) (by omega) (by omega) (by omega) (by omega)) (og_9 (by omega) (by omega) (by omega) (by omega) (by omega) (by omega) (by omega) (by omega) (by omega)) (og_10 (by omega) (by omega) (by omega) (by omega) (by omega) (by omega) (by omega) (by omega) (by omega) (by omega)) (RDY_c hr) hN.1 (LC_lt hN _) hok) rfl rfl rfl rfl rfl rfl rfl ?_
  rintro _ _ ⟨rfl, ss', wt', rfl, hs⟩
  rw [ox_5, ou_10 (by omega) (by omega) (by omega) (by omega) (by omega) (by omega) (by omega) (by omega) (by omega) (by omega), ou_9 (by omega) (by omega) (by omega) (by omega) (by omega) (by omega) (by omega) (by omega) (by omega), ou_8 (by omega) (by omega) (by omega) (by omega) (by omega) (by omega) (by omega) (by omega), ou_6 (by omega) (by omega) (by omega) (by omega) (by omega) (by omega), ou_0]
  refine V_bipush (nI 12) d_K_tell_51 rfl ?_
  refine V_icmp_leN 62 d_K_tell_53 (by decide) (Nat.lt_of_le_of_lt (PK_le (RDY_c hr) hN.1 (LC_lt hN _)) (by decide)) (by decide) (fun _ => ?_) (fun q => by exfalso; omega)
  refine V_aload_n d_K_tell_62 rfl ?_
  refine V_iconst (0) d_K_tell_63 rfl ?_
  refine V_put (e' := oK k (0) ((nI c)) (nI (OPN c pl la)) (nI (SHR c pl la)) (nI (c - 1)) (tu) (gc) (my) (sr) (si) (so) (sx)) d_K_tell_64 fp_K_69 (og_0) rfl rfl rfl rfl (ou_0) ?_
  refine V_aload_n d_K_tell_67 rfl ?_
  refine V_iload_n (x := nI w.toNatClampNeg) d_K_tell_68 (by rw [← w1]; rfl) ?_
  refine V_callV0 d_K_tell_69 ml_K_164 mB_K_sumUp mi_K_sumUp mv_K_sumUp rfl og_0 (c_K_sumUp l D _ _ (c := c) (pl := pl) (la := la) og_0 hN (named_of hN hr) (og_1 (by omega)) (og_2 (by omega) (by omega)) (og_3 (by omega) (by omega) (by omega)) (og_4 (by omega) (by omega) (by omega) (by omega)) (og_11 (by omega) (by omega) (by omega) (by omega) (by omega) (by omega) (by omega) (by omega) (by omega) (by omega) (by omega)) (og_12 (by omega) (by omega) (by omega) (by omega) (by omega) (by omega) (by omega) (by omega) (by omega) (by omega) (by omega) (by omega)) (og_13 (by omega) (by omega) (by omega) (by omega) (by omega) (by omega) (by omega) (by omega) (by omega) (by omega) (by omega) (by omega) (by omega)) (og_14 (by omega) (by omega) (by omega) (by omega) (by omega) (by omega) (by omega) (by omega) (by omega) (by omega) (by omega) (by omega) (by omega) (by omega)) (og_15 (by omega) (by omega) (by omega) (by omega) (by omega) (by omega) (by omega) (by omega) (by omega) (by omega) (by omega) (by omega) (by omega) (by omega) (by omega)) w2) rfl rfl rfl rfl rfl rfl rfl ?_
  rintro _ _ ⟨rfl, my', vo', lg2, bh', pr', pi', rfl⟩
  rw [ox_10, ou_15 (by omega) (by omega) (by omega) (by omega) (by omega) (by omega) (by omega) (by omega) (by omega) (by omega) (by omega) (by omega) (by omega) (by omega) (by omega), ou_14 (by omega) (by omega) (by omega) (by omega) (by omega) (by omega) (by omega) (by omega) (by omega) (by omega) (by omega) (by omega) (by omega) (by omega), ou_13 (by omega) (by omega) (by omega) (by omega) (by omega) (by omega) (by omega) (by omega) (by omega) (by omega) (by omega) (by omega) (by omega), ou_12 (by omega) (by omega) (by omega) (by omega) (by omega) (by omega) (by omega) (by omega) (by omega) (by omega) (by omega) (by omega), ou_11 (by omega) (by omega) (by omega) (by omega) (by omega) (by omega) (by omega) (by omega) (by omega) (by omega) (by omega), ou_4 (by omega) (by omega) (by omega) (by omega), ou_3 (by omega) (by omega) (by omega), ou_2 (by omega) (by omega), ou_1 (by omega), ou_0]
  refine V_iload_n d_K_tell_72 rfl ?_
  refine V_if_ne 83 d_K_tell_73 (by decide) (fun c73 => ?_) (fun c73 => ?_)
  · refine V_aload_n d_K_tell_83 rfl ?_
    refine V_getfield d_K_tell_84 fl_K_154 (og_0) rfl ?_
    exact V_lreturn d_K_tell_87 rfl ⟨by unfold A_val; first | rw [if_pos c73] | rw [if_neg c73], rfl, fun q hq => oz_16 (by omega) (by omega) (by omega) (by omega) (by omega) (by omega) (by omega) (by omega) (by omega) (by omega) (by omega) (by omega) (by omega) (by omega) (by omega) (by omega), ⟨⟨_, _, _, _, _, _, _, _, _, _, og_0⟩, (og_1 (by omega)), (og_2 (by omega) (by omega)), (og_3 (by omega) (by omega) (by omega)), (og_4 (by omega) (by omega) (by omega) (by omega)), ⟨_, (og_5 (by omega) (by omega) (by omega) (by omega) (by omega))⟩, ⟨_, (og_6 (by omega) (by omega) (by omega) (by omega) (by omega) (by omega))⟩, ⟨_, (og_7 (by omega) (by omega) (by omega) (by omega) (by omega) (by omega) (by omega))⟩, ⟨_, (og_8 (by omega) (by omega) (by omega) (by omega) (by omega) (by omega) (by omega) (by omega))⟩, ⟨_, (og_9 (by omega) (by omega) (by omega) (by omega) (by omega) (by omega) (by omega) (by omega) (by omega))⟩, ⟨_, (og_10 (by omega) (by omega) (by omega) (by omega) (by omega) (by omega) (by omega) (by omega) (by omega) (by omega))⟩, ⟨_, (oa_16 h11 (by omega) (by omega) (by omega) (by omega) (by omega) (by omega) (by omega) (by omega) (by omega) (by omega) (by omega) (by omega) (by omega) (by omega) (by omega) (by omega))⟩, ⟨_, (oa_16 h12 (by omega) (by omega) (by omega) (by omega) (by omega) (by omega) (by omega) (by omega) (by omega) (by omega) (by omega) (by omega) (by omega) (by omega) (by omega) (by omega))⟩, ⟨_, (oa_16 h13 (by omega) (by omega) (by omega) (by omega) (by omega) (by omega) (by omega) (by omega) (by omega) (by omega) (by omega) (by omega) (by omega) (by omega) (by omega) (by omega))⟩, ⟨_, (oa_16 h14 (by omega) (by omega) (by omega) (by omega) (by omega) (by omega) (by omega) (by omega) (by omega) (by omega) (by omega) (by omega) (by omega) (by omega) (by omega) (by omega))⟩, ⟨_, (og_11 (by omega) (by omega) (by omega) (by omega) (by omega) (by omega) (by omega) (by omega) (by omega) (by omega) (by omega))⟩, ⟨_, (og_12 (by omega) (by omega) (by omega) (by omega) (by omega) (by omega) (by omega) (by omega) (by omega) (by omega) (by omega) (by omega))⟩, ⟨_, (og_13 (by omega) (by omega) (by omega) (by omega) (by omega) (by omega) (by omega) (by omega) (by omega) (by omega) (by omega) (by omega) (by omega))⟩, ⟨_, (og_14 (by omega) (by omega) (by omega) (by omega) (by omega) (by omega) (by omega) (by omega) (by omega) (by omega) (by omega) (by omega) (by omega) (by omega))⟩, ⟨_, (og_15 (by omega) (by omega) (by omega) (by omega) (by omega) (by omega) (by omega) (by omega) (by omega) (by omega) (by omega) (by omega) (by omega) (by omega) (by omega))⟩⟩⟩
  · refine V_aload_n d_K_tell_76 rfl ?_
    refine V_getfield d_K_tell_77 fl_K_150 (og_0) rfl ?_
    refine V_goto 87 d_K_tell_80 (by decide) ?_
    exact V_lreturn d_K_tell_87 rfl ⟨by unfold A_val; first | rw [if_pos c73] | rw [if_neg c73], rfl, fun q hq => oz_16 (by omega) (by omega) (by omega) (by omega) (by omega) (by omega) (by omega) (by omega) (by omega) (by omega) (by omega) (by omega) (by omega) (by omega) (by omega) (by omega), ⟨⟨_, _, _, _, _, _, _, _, _, _, og_0⟩, (og_1 (by omega)), (og_2 (by omega) (by omega)), (og_3 (by omega) (by omega) (by omega)), (og_4 (by omega) (by omega) (by omega) (by omega)), ⟨_, (og_5 (by omega) (by omega) (by omega) (by omega) (by omega))⟩, ⟨_, (og_6 (by omega) (by omega) (by omega) (by omega) (by omega) (by omega))⟩, ⟨_, (og_7 (by omega) (by omega) (by omega) (by omega) (by omega) (by omega) (by omega))⟩, ⟨_, (og_8 (by omega) (by omega) (by omega) (by omega) (by omega) (by omega) (by omega) (by omega))⟩, ⟨_, (og_9 (by omega) (by omega) (by omega) (by omega) (by omega) (by omega) (by omega) (by omega) (by omega))⟩, ⟨_, (og_10 (by omega) (by omega) (by omega) (by omega) (by omega) (by omega) (by omega) (by omega) (by omega) (by omega))⟩, ⟨_, (oa_16 h11 (by omega) (by omega) (by omega) (by omega) (by omega) (by omega) (by omega) (by omega) (by omega) (by omega) (by omega) (by omega) (by omega) (by omega) (by omega) (by omega))⟩, ⟨_, (oa_16 h12 (by omega) (by omega) (by omega) (by omega) (by omega) (by omega) (by omega) (by omega) (by omega) (by omega) (by omega) (by omega) (by omega) (by omega) (by omega) (by omega))⟩, ⟨_, (oa_16 h13 (by omega) (by omega) (by omega) (by omega) (by omega) (by omega) (by omega) (by omega) (by omega) (by omega) (by omega) (by omega) (by omega) (by omega) (by omega) (by omega))⟩, ⟨_, (oa_16 h14 (by omega) (by omega) (by omega) (by omega) (by omega) (by omega) (by omega) (by omega) (by omega) (by omega) (by omega) (by omega) (by omega) (by omega) (by omega) (by omega))⟩, ⟨_, (og_11 (by omega) (by omega) (by omega) (by omega) (by omega) (by omega) (by omega) (by omega) (by omega) (by omega) (by omega))⟩, ⟨_, (og_12 (by omega) (by omega) (by omega) (by omega) (by omega) (by omega) (by omega) (by omega) (by omega) (by omega) (by omega) (by omega))⟩, ⟨_, (og_13 (by omega) (by omega) (by omega) (by omega) (by omega) (by omega) (by omega) (by omega) (by omega) (by omega) (by omega) (by omega) (by omega))⟩, ⟨_, (og_14 (by omega) (by omega) (by omega) (by omega) (by omega) (by omega) (by omega) (by omega) (by omega) (by omega) (by omega) (by omega) (by omega) (by omega))⟩, ⟨_, (og_15 (by omega) (by omega) (by omega) (by omega) (by omega) (by omega) (by omega) (by omega) (by omega) (by omega) (by omega) (by omega) (by omega) (by omega) (by omega))⟩⟩⟩

set_option maxRecDepth 100000 in
set_option maxHeartbeats 4000000 in
theorem c_K_value1 (l : Launch) (D : hv_D) (h : hv_P) (nx : Nat) {k c : Nat} {th : Int32} {pl : Nat → Nat} {la : Nat → Option Nat} {re im : Nat → Int32} (hS : kS h k th c pl la re im) (hN : netOK c pl la) {w part : Int32} (hx : ¬ tellV c pl la w part) : hv_N l D M_K_value (hv_rm 4 103 0 0) [.ref k, .int w, .int part] h nx (hv_ans (some (.long (0))) (fun h' n' => n' = nx ∧ kFr k h h' ∧ kS h' k (1) (c) (pl) (la) (re) (im))) := by
  refine hv_N.of' [some (.ref k), some (.int w), some (.int part)] (by decide +kernel) rfl rfl rfl ?_
  obtain ⟨⟨op, sh, sp, tu, gc, my, so, sx, sr, si, hk⟩, h1, h2, h3, h4, ⟨f5, h5⟩, ⟨f6, h6⟩, ⟨f7, h7⟩, ⟨f8, h8⟩, ⟨f9, h9⟩, ⟨f10, h10⟩, ⟨f11, h11⟩, ⟨f12, h12⟩, ⟨f13, h13⟩, ⟨f14, h14⟩, ⟨f15, h15⟩, ⟨f16, h16⟩, ⟨f17, h17⟩, ⟨f18, h18⟩, ⟨f19, h19⟩⟩ := hS
  refine V_eqH (ob_1 hk ) ?_
  refine V_aload_n d_K_value_0 rfl ?_
  refine V_iconst (-1) d_K_value_1 rfl ?_
  refine V_put (e' := oK k (th) ((nI c)) (op) (sh) (sp) (tu) (gc) (my) (sr) (si) (-1) (sx)) d_K_value_2 fp_K_141 (og_0) rfl rfl rfl rfl (ou_0) ?_
  refine V_aload_n d_K_value_5 rfl ?_
  refine V_iconst (bZ true) d_K_value_6 rfl ?_
  refine V_iload_n d_K_value_7 rfl ?_
  refine V_iload_n d_K_value_8 rfl ?_
  refine V_callV1 d_K_value_9 ml_K_167 mB_K_tell mi_K_tell mv_K_tell rfl og_0 (c_K_tell1 l D _ _ og_0 hN (oa_1 h1 (by omega)) (oa_1 h2 (by omega)) (oa_1 h3 (by omega)) (oa_1 h4 (by omega)) (oa_1 h5 (by omega)) (oa_1 h6 (by omega)) (oa_1 h7 (by omega)) (oa_1 h8 (by omega)) (oa_1 h9 (by omega)) (oa_1 h10 (by omega)) (oa_1 h11 (by omega)) (oa_1 h12 (by omega)) (oa_1 h13 (by omega)) (oa_1 h14 (by omega)) (oa_1 h15 (by omega)) (oa_1 h16 (by omega)) (oa_1 h17 (by omega)) (oa_1 h18 (by omega)) (oa_1 h19 (by omega)) (fun q => hx q.2)) rfl rfl rfl rfl rfl rfl rfl ?_
  rintro h9 n9 ⟨e9, fr9, ks9⟩
  subst e9
  exact V_lreturn d_K_value_12 rfl ⟨rfl, rfl, (fun q hq => (fr9 q hq).trans (oz_1 (by omega))), ks9⟩

set_option maxRecDepth 100000 in
set_option maxHeartbeats 4000000 in
theorem c_K_value2 (l : Launch) (D : hv_D) (h : hv_P) (nx : Nat) {k c : Nat} {th : Int32} {pl : Nat → Nat} {la : Nat → Option Nat} {re im : Nat → Int32} (hS : kS h k th c pl la re im) (hN : netOK c pl la) {w part : Int32} (hx : tellV c pl la w part) (hp : 12 < PK (LC pl la 0) c) : hv_N l D M_K_value (hv_rm 4 103 0 0) [.ref k, .int w, .int part] h nx (hv_ans (some (.long (0))) (fun h' n' => n' = nx ∧ kFr k h h' ∧ kS h' k (2) (c) (pl) (la) (re) (im))) := by
  refine hv_N.of' [some (.ref k), some (.int w), some (.int part)] (by decide +kernel) rfl rfl rfl ?_
  obtain ⟨⟨op, sh, sp, tu, gc, my, so, sx, sr, si, hk⟩, h1, h2, h3, h4, ⟨f5, h5⟩, ⟨f6, h6⟩, ⟨f7, h7⟩, ⟨f8, h8⟩, ⟨f9, h9⟩, ⟨f10, h10⟩, ⟨f11, h11⟩, ⟨f12, h12⟩, ⟨f13, h13⟩, ⟨f14, h14⟩, ⟨f15, h15⟩, ⟨f16, h16⟩, ⟨f17, h17⟩, ⟨f18, h18⟩, ⟨f19, h19⟩⟩ := hS
  refine V_eqH (ob_1 hk ) ?_
  refine V_aload_n d_K_value_0 rfl ?_
  refine V_iconst (-1) d_K_value_1 rfl ?_
  refine V_put (e' := oK k (th) ((nI c)) (op) (sh) (sp) (tu) (gc) (my) (sr) (si) (-1) (sx)) d_K_value_2 fp_K_141 (og_0) rfl rfl rfl rfl (ou_0) ?_
  refine V_aload_n d_K_value_5 rfl ?_
  refine V_iconst (bZ true) d_K_value_6 rfl ?_
  refine V_iload_n d_K_value_7 rfl ?_
  refine V_iload_n d_K_value_8 rfl ?_
  refine V_callV1 d_K_value_9 ml_K_167 mB_K_tell mi_K_tell mv_K_tell rfl og_0 (c_K_tell2 l D _ _ og_0 hN (oa_1 h1 (by omega)) (oa_1 h2 (by omega)) (oa_1 h3 (by omega)) (oa_1 h4 (by omega)) (oa_1 h5 (by omega)) (oa_1 h6 (by omega)) (oa_1 h7 (by omega)) (oa_1 h8 (by omega)) (oa_1 h9 (by omega)) (oa_1 h10 (by omega)) (oa_1 h11 (by omega)) (oa_1 h12 (by omega)) (oa_1 h13 (by omega)) (oa_1 h14 (by omega)) (oa_1 h15 (by omega)) (oa_1 h16 (by omega)) (oa_1 h17 (by omega)) (oa_1 h18 (by omega)) (oa_1 h19 (by omega)) rfl hx hp) rfl rfl rfl rfl rfl rfl rfl ?_
  rintro h9 n9 ⟨e9, fr9, ks9⟩
  subst e9
  exact V_lreturn d_K_value_12 rfl ⟨rfl, rfl, (fun q hq => (fr9 q hq).trans (oz_1 (by omega))), ks9⟩

theorem A_val_m1 {c : Nat} {pl : Nat → Nat} {la : Nat → Option Nat} {re im : Nat → Int32} {sx w part : Int32} (hc : c ≤ 10) : A_val c pl la re im (-1) sx w part = A_val c pl la re im (-1) 0 w part := by
  have e : ∀ om, VV c pl la re im (-1) sx om = VV c pl la re im (-1) 0 om := fun om => by
    unfold VV
    refine Sn_congr (fun v _ _ => prT_congr c (fun _ _ => rfl) (fun t ht _ => ?_))
    unfold EV enK
    rw [if_neg (nI_m1 (by omega)), if_neg (nI_m1 (by omega))]
  unfold A_val
  rw [e]
set_option maxRecDepth 100000 in
set_option maxHeartbeats 4000000 in
theorem c_K_value3 (l : Launch) (D : hv_D) (h : hv_P) (nx : Nat) {k c : Nat} {th : Int32} {pl : Nat → Nat} {la : Nat → Option Nat} {re im : Nat → Int32} (hS : kS h k th c pl la re im) (hN : netOK c pl la) {w part : Int32} (hx : tellV c pl la w part) (hp : PK (LC pl la 0) c ≤ 12) : hv_N l D M_K_value (hv_rm 4 103 0 0) [.ref k, .int w, .int part] h nx (hv_ans (some (.long (A_val c pl la re im (-1) 0 w part))) (fun h' n' => n' = nx ∧ kFr k h h' ∧ kS h' k (0) (c) (pl) (la) (re) (im))) := by
  refine hv_N.of' [some (.ref k), some (.int w), some (.int part)] (by decide +kernel) rfl rfl rfl ?_
  obtain ⟨⟨op, sh, sp, tu, gc, my, so, sx, sr, si, hk⟩, h1, h2, h3, h4, ⟨f5, h5⟩, ⟨f6, h6⟩, ⟨f7, h7⟩, ⟨f8, h8⟩, ⟨f9, h9⟩, ⟨f10, h10⟩, ⟨f11, h11⟩, ⟨f12, h12⟩, ⟨f13, h13⟩, ⟨f14, h14⟩, ⟨f15, h15⟩, ⟨f16, h16⟩, ⟨f17, h17⟩, ⟨f18, h18⟩, ⟨f19, h19⟩⟩ := hS
  refine V_eqH (ob_1 hk ) ?_
  refine V_aload_n d_K_value_0 rfl ?_
  refine V_iconst (-1) d_K_value_1 rfl ?_
  refine V_put (e' := oK k (th) ((nI c)) (op) (sh) (sp) (tu) (gc) (my) (sr) (si) (-1) (sx)) d_K_value_2 fp_K_141 (og_0) rfl rfl rfl rfl (ou_0) ?_
  refine V_aload_n d_K_value_5 rfl ?_
  refine V_iconst (bZ true) d_K_value_6 rfl ?_
  refine V_iload_n d_K_value_7 rfl ?_
  refine V_iload_n d_K_value_8 rfl ?_
  refine V_callV1 d_K_value_9 ml_K_167 mB_K_tell mi_K_tell mv_K_tell rfl og_0 (c_K_tell3 l D _ _ og_0 hN (oa_1 h1 (by omega)) (oa_1 h2 (by omega)) (oa_1 h3 (by omega)) (oa_1 h4 (by omega)) (oa_1 h5 (by omega)) (oa_1 h6 (by omega)) (oa_1 h7 (by omega)) (oa_1 h8 (by omega)) (oa_1 h9 (by omega)) (oa_1 h10 (by omega)) (oa_1 h11 (by omega)) (oa_1 h12 (by omega)) (oa_1 h13 (by omega)) (oa_1 h14 (by omega)) (oa_1 h15 (by omega)) (oa_1 h16 (by omega)) (oa_1 h17 (by omega)) (oa_1 h18 (by omega)) (oa_1 h19 (by omega)) rfl hx hp) rfl rfl rfl rfl rfl rfl rfl ?_
  rintro h9 n9 ⟨e9, fr9, ks9⟩
  subst e9
  exact V_lreturn d_K_value_12 rfl ⟨by rw [A_val_m1 hN.1], rfl, (fun q hq => (fr9 q hq).trans (oz_1 (by omega))), ks9⟩

set_option maxRecDepth 100000 in
set_option maxHeartbeats 4000000 in
theorem c_K_slope1 (l : Launch) (D : hv_D) (h : hv_P) (nx : Nat) {k c : Nat} {th : Int32} {pl : Nat → Nat} {la : Nat → Option Nat} {re im : Nat → Int32} (hS : kS h k th c pl la re im) (hN : netOK c pl la) {w part : Int32} {t x : Int32} (hx : ¬ (idxV c pl t x ∧ tellV c pl la w part)) : hv_N l D M_K_slope (hv_rm 4 103 0 0) [.ref k, .int t, .int x, .int w, .int part] h nx (hv_ans (some (.long (0))) (fun h' n' => n' = nx ∧ kFr k h h' ∧ kS h' k (1) (c) (pl) (la) (re) (im))) := by
  refine hv_N.of' [some (.ref k), some (.int t), some (.int x), some (.int w), some (.int part)] (by decide +kernel) rfl rfl rfl ?_
  obtain ⟨⟨op, sh, sp, tu, gc, my, so, sx, sr, si, hk⟩, h1, h2, h3, h4, ⟨f5, h5⟩, ⟨f6, h6⟩, ⟨f7, h7⟩, ⟨f8, h8⟩, ⟨f9, h9⟩, ⟨f10, h10⟩, ⟨f11, h11⟩, ⟨f12, h12⟩, ⟨f13, h13⟩, ⟨f14, h14⟩, ⟨f15, h15⟩, ⟨f16, h16⟩, ⟨f17, h17⟩, ⟨f18, h18⟩, ⟨f19, h19⟩⟩ := hS
  refine V_eqH (ob_1 hk ) ?_
  refine V_aload_n d_K_slope_0 rfl ?_
  refine V_iload_n d_K_slope_1 rfl ?_
  refine V_put (e' := oK k (th) ((nI c)) (op) (sh) (sp) (tu) (gc) (my) (sr) (si) (t) (sx)) d_K_slope_2 fp_K_141 (og_0) rfl rfl rfl rfl (ou_0) ?_
  refine V_aload_n d_K_slope_5 rfl ?_
  refine V_iload_n d_K_slope_6 rfl ?_
  refine V_put (e' := oK k (th) ((nI c)) (op) (sh) (sp) (tu) (gc) (my) (sr) (si) (t) (x)) d_K_slope_7 fp_K_144 (og_0) rfl rfl rfl rfl (ou_0) ?_
  refine V_aload_n d_K_slope_10 rfl ?_
  refine V_aload_n d_K_slope_11 rfl ?_
  refine V_iload_n d_K_slope_12 rfl ?_
  refine V_iload_n d_K_slope_13 rfl ?_
  refine V_callV1 d_K_slope_14 ml_K_80 mB_K_isIndex mi_K_isIndex mv_K_isIndex rfl og_0 (c_K_isIndex l D _ _ og_0 (oa_1 h1 (by omega)) hN.1 hN.2.1 t x) rfl rfl rfl rfl rfl rfl rfl ?_
  rintro _ _ ⟨rfl, rfl⟩
  refine V_iload_n d_K_slope_17 rfl ?_
  refine V_iload d_K_slope_18 rfl ?_
  refine V_callV1 d_K_slope_20 ml_K_167 mB_K_tell mi_K_tell mv_K_tell rfl og_0 (c_K_tell1 l D _ _ og_0 hN (oa_1 h1 (by omega)) (oa_1 h2 (by omega)) (oa_1 h3 (by omega)) (oa_1 h4 (by omega)) (oa_1 h5 (by omega)) (oa_1 h6 (by omega)) (oa_1 h7 (by omega)) (oa_1 h8 (by omega)) (oa_1 h9 (by omega)) (oa_1 h10 (by omega)) (oa_1 h11 (by omega)) (oa_1 h12 (by omega)) (oa_1 h13 (by omega)) (oa_1 h14 (by omega)) (oa_1 h15 (by omega)) (oa_1 h16 (by omega)) (oa_1 h17 (by omega)) (oa_1 h18 (by omega)) (oa_1 h19 (by omega)) (fun q => hx ⟨of_decide_eq_true q.1, q.2⟩)) rfl rfl rfl rfl rfl rfl rfl ?_
  rintro h9 n9 ⟨e9, fr9, ks9⟩
  subst e9
  exact V_lreturn d_K_slope_23 rfl ⟨rfl, rfl, (fun q hq => (fr9 q hq).trans (oz_1 (by omega))), ks9⟩

set_option maxRecDepth 100000 in
set_option maxHeartbeats 4000000 in
theorem c_K_slope2 (l : Launch) (D : hv_D) (h : hv_P) (nx : Nat) {k c : Nat} {th : Int32} {pl : Nat → Nat} {la : Nat → Option Nat} {re im : Nat → Int32} (hS : kS h k th c pl la re im) (hN : netOK c pl la) {w part : Int32} {t x : Int32} (hi : idxV c pl t x) (hx : tellV c pl la w part) (hp : 12 < PK (LC pl la 0) c) : hv_N l D M_K_slope (hv_rm 4 103 0 0) [.ref k, .int t, .int x, .int w, .int part] h nx (hv_ans (some (.long (0))) (fun h' n' => n' = nx ∧ kFr k h h' ∧ kS h' k (2) (c) (pl) (la) (re) (im))) := by
  refine hv_N.of' [some (.ref k), some (.int t), some (.int x), some (.int w), some (.int part)] (by decide +kernel) rfl rfl rfl ?_
  obtain ⟨⟨op, sh, sp, tu, gc, my, so, sx, sr, si, hk⟩, h1, h2, h3, h4, ⟨f5, h5⟩, ⟨f6, h6⟩, ⟨f7, h7⟩, ⟨f8, h8⟩, ⟨f9, h9⟩, ⟨f10, h10⟩, ⟨f11, h11⟩, ⟨f12, h12⟩, ⟨f13, h13⟩, ⟨f14, h14⟩, ⟨f15, h15⟩, ⟨f16, h16⟩, ⟨f17, h17⟩, ⟨f18, h18⟩, ⟨f19, h19⟩⟩ := hS
  refine V_eqH (ob_1 hk ) ?_
  refine V_aload_n d_K_slope_0 rfl ?_
  refine V_iload_n d_K_slope_1 rfl ?_
  refine V_put (e' := oK k (th) ((nI c)) (op) (sh) (sp) (tu) (gc) (my) (sr) (si) (t) (sx)) d_K_slope_2 fp_K_141 (og_0) rfl rfl rfl rfl (ou_0) ?_
  refine V_aload_n d_K_slope_5 rfl ?_
  refine V_iload_n d_K_slope_6 rfl ?_
  refine V_put (e' := oK k (th) ((nI c)) (op) (sh) (sp) (tu) (gc) (my) (sr) (si) (t) (x)) d_K_slope_7 fp_K_144 (og_0) rfl rfl rfl rfl (ou_0) ?_
  refine V_aload_n d_K_slope_10 rfl ?_
  refine V_aload_n d_K_slope_11 rfl ?_
  refine V_iload_n d_K_slope_12 rfl ?_
  refine V_iload_n d_K_slope_13 rfl ?_
  refine V_callV1 d_K_slope_14 ml_K_80 mB_K_isIndex mi_K_isIndex mv_K_isIndex rfl og_0 (c_K_isIndex l D _ _ og_0 (oa_1 h1 (by omega)) hN.1 hN.2.1 t x) rfl rfl rfl rfl rfl rfl rfl ?_
  rintro _ _ ⟨rfl, rfl⟩
  refine V_iload_n d_K_slope_17 rfl ?_
  refine V_iload d_K_slope_18 rfl ?_
  refine V_callV1 d_K_slope_20 ml_K_167 mB_K_tell mi_K_tell mv_K_tell rfl og_0 (c_K_tell2 l D _ _ og_0 hN (oa_1 h1 (by omega)) (oa_1 h2 (by omega)) (oa_1 h3 (by omega)) (oa_1 h4 (by omega)) (oa_1 h5 (by omega)) (oa_1 h6 (by omega)) (oa_1 h7 (by omega)) (oa_1 h8 (by omega)) (oa_1 h9 (by omega)) (oa_1 h10 (by omega)) (oa_1 h11 (by omega)) (oa_1 h12 (by omega)) (oa_1 h13 (by omega)) (oa_1 h14 (by omega)) (oa_1 h15 (by omega)) (oa_1 h16 (by omega)) (oa_1 h17 (by omega)) (oa_1 h18 (by omega)) (oa_1 h19 (by omega)) (decide_eq_true hi) hx hp) rfl rfl rfl rfl rfl rfl rfl ?_
  rintro h9 n9 ⟨e9, fr9, ks9⟩
  subst e9
  exact V_lreturn d_K_slope_23 rfl ⟨rfl, rfl, (fun q hq => (fr9 q hq).trans (oz_1 (by omega))), ks9⟩

set_option maxRecDepth 100000 in
set_option maxHeartbeats 4000000 in
theorem c_K_slope3 (l : Launch) (D : hv_D) (h : hv_P) (nx : Nat) {k c : Nat} {th : Int32} {pl : Nat → Nat} {la : Nat → Option Nat} {re im : Nat → Int32} (hS : kS h k th c pl la re im) (hN : netOK c pl la) {w part : Int32} {t x : Int32} (hi : idxV c pl t x) (hx : tellV c pl la w part) (hp : PK (LC pl la 0) c ≤ 12) : hv_N l D M_K_slope (hv_rm 4 103 0 0) [.ref k, .int t, .int x, .int w, .int part] h nx (hv_ans (some (.long (A_val c pl la re im t x w part))) (fun h' n' => n' = nx ∧ kFr k h h' ∧ kS h' k (0) (c) (pl) (la) (re) (im))) := by
  refine hv_N.of' [some (.ref k), some (.int t), some (.int x), some (.int w), some (.int part)] (by decide +kernel) rfl rfl rfl ?_
  obtain ⟨⟨op, sh, sp, tu, gc, my, so, sx, sr, si, hk⟩, h1, h2, h3, h4, ⟨f5, h5⟩, ⟨f6, h6⟩, ⟨f7, h7⟩, ⟨f8, h8⟩, ⟨f9, h9⟩, ⟨f10, h10⟩, ⟨f11, h11⟩, ⟨f12, h12⟩, ⟨f13, h13⟩, ⟨f14, h14⟩, ⟨f15, h15⟩, ⟨f16, h16⟩, ⟨f17, h17⟩, ⟨f18, h18⟩, ⟨f19, h19⟩⟩ := hS
  refine V_eqH (ob_1 hk ) ?_
  refine V_aload_n d_K_slope_0 rfl ?_
  refine V_iload_n d_K_slope_1 rfl ?_
  refine V_put (e' := oK k (th) ((nI c)) (op) (sh) (sp) (tu) (gc) (my) (sr) (si) (t) (sx)) d_K_slope_2 fp_K_141 (og_0) rfl rfl rfl rfl (ou_0) ?_
  refine V_aload_n d_K_slope_5 rfl ?_
  refine V_iload_n d_K_slope_6 rfl ?_
  refine V_put (e' := oK k (th) ((nI c)) (op) (sh) (sp) (tu) (gc) (my) (sr) (si) (t) (x)) d_K_slope_7 fp_K_144 (og_0) rfl rfl rfl rfl (ou_0) ?_
  refine V_aload_n d_K_slope_10 rfl ?_
  refine V_aload_n d_K_slope_11 rfl ?_
  refine V_iload_n d_K_slope_12 rfl ?_
  refine V_iload_n d_K_slope_13 rfl ?_
  refine V_callV1 d_K_slope_14 ml_K_80 mB_K_isIndex mi_K_isIndex mv_K_isIndex rfl og_0 (c_K_isIndex l D _ _ og_0 (oa_1 h1 (by omega)) hN.1 hN.2.1 t x) rfl rfl rfl rfl rfl rfl rfl ?_
  rintro _ _ ⟨rfl, rfl⟩
  refine V_iload_n d_K_slope_17 rfl ?_
  refine V_iload d_K_slope_18 rfl ?_
  refine V_callV1 d_K_slope_20 ml_K_167 mB_K_tell mi_K_tell mv_K_tell rfl og_0 (c_K_tell3 l D _ _ og_0 hN (oa_1 h1 (by omega)) (oa_1 h2 (by omega)) (oa_1 h3 (by omega)) (oa_1 h4 (by omega)) (oa_1 h5 (by omega)) (oa_1 h6 (by omega)) (oa_1 h7 (by omega)) (oa_1 h8 (by omega)) (oa_1 h9 (by omega)) (oa_1 h10 (by omega)) (oa_1 h11 (by omega)) (oa_1 h12 (by omega)) (oa_1 h13 (by omega)) (oa_1 h14 (by omega)) (oa_1 h15 (by omega)) (oa_1 h16 (by omega)) (oa_1 h17 (by omega)) (oa_1 h18 (by omega)) (oa_1 h19 (by omega)) (decide_eq_true hi) hx hp) rfl rfl rfl rfl rfl rfl rfl ?_
  rintro h9 n9 ⟨e9, fr9, ks9⟩
  subst e9
  exact V_lreturn d_K_slope_23 rfl ⟨rfl, rfl, (fun q hq => (fr9 q hq).trans (oz_1 (by omega))), ks9⟩
