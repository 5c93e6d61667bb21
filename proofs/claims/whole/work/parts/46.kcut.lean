-- THE MODEL: cut, greedy
theorem i32_nn {x : Int32} (h : ¬ x < 0) : x = nI x.toNatClampNeg ∧ x.toNatClampNeg < 2 ^ 31 := by
  have e : vp_in x 2147483648 := vp_in_iff.mpr ⟨by rw [Int32.lt_iff_toInt_lt] at h; have : (0 : Int32).toInt = 0 := rfl; omega, by have := x.toInt_lt; omega⟩
  have b := vp_in_iff.mp e
  have : x = nI x.toInt.toNat := by
    apply Int32.toInt_inj.mp
    rw [nI_toInt (by omega)]
    omega
  have cl : x.toNatClampNeg = x.toInt.toNat := by
    conv => lhs; rw [this]
    exact nI_clamp (by omega)
  rw [cl]
  exact ⟨this, by omega⟩
def PE (c : Nat) (pl : Nat → Nat) (la : Nat → Option Nat) (mo cu : Nat) : Bool := decide (PK (LC pl la cu) c ≤ mo)
def cut1 (S : Nat) (P : Nat → Bool) : Option Nat := (List.range 20).find? (fun i => S.testBit i && P (2 ^ i))
def cut2 (S : Nat) (P : Nat → Bool) : Option Nat := (List.range 20).findSome? (fun j => ((List.range j).find? (fun i => S.testBit i && (S.testBit j && P (2 ^ i ||| 2 ^ j)))).map (fun i => 2 ^ i ||| 2 ^ j))
def cutF (S : Nat) (P : Nat → Bool) : Int32 := if P 0 = true then 0 else match cut1 S P with
  | some i => nI (2 ^ i)
  | none => match cut2 S P with
    | some x => nI x
    | none => -1
def A_cut (c : Nat) (pl : Nat → Nat) (la : Nat → Option Nat) (x : Int32) : Int32 := if RDY c pl la = true ∧ ¬ x < 0 then cutF (SHR c pl la) (PE c pl la x.toNatClampNeg) else -1
theorem find_rng {f : Nat → Bool} {n i : Nat} (h : ∀ j, j < i → f j = false) (hf : f i = true) (hi : i < n) : (List.range n).find? f = some i := by
  rw [List.find?_range_eq_some]
  exact ⟨hf, List.mem_range.mpr hi, fun j hj => by rw [h j hj]; rfl⟩
theorem find_non {f : Nat → Bool} {n : Nat} (h : ∀ j, j < n → f j = false) : (List.range n).find? f = none := by
  rw [List.find?_eq_none]
  intro x hx
  rw [h x (List.mem_range.mp hx)]
  decide
theorem fsome_non {g : Nat → Option Nat} : ∀ {n : Nat}, (∀ j, j < n → g j = none) → (List.range n).findSome? g = none
  | 0, _ => rfl
  | n + 1, h => by
    rw [List.range_succ, List.findSome?_append, fsome_non (fun j hj => h j (by omega))]
    simp [h n (by omega)]
theorem fsome_rng {g : Nat → Option Nat} {i x : Nat} (h : ∀ j, j < i → g j = none) (hf : g i = some x) : ∀ {n : Nat}, i < n → (List.range n).findSome? g = some x
  | 0, hn => by omega
  | n + 1, hn => by
    rw [List.range_succ, List.findSome?_append]
    by_cases e : i = n
    · subst e
      rw [fsome_non h]
      simp [hf]
    · rw [fsome_rng h hf (by omega)]
      rfl
theorem and_pair {S i j : Nat} : S &&& (2 ^ i ||| 2 ^ j) = 2 ^ i ||| 2 ^ j ↔ S.testBit i = true ∧ S.testBit j = true := by
  constructor
  · intro q
    constructor
    · have e := congrArg (fun z => Nat.testBit z i) q
      simp [Nat.testBit_two_pow_self] at e
      exact e
    · have e := congrArg (fun z => Nat.testBit z j) q
      simp [Nat.testBit_two_pow_self] at e
      exact e
  · rintro ⟨a, b⟩
    rw [Nat.and_comm]
    refine sub_of_bits (fun t ht => ?_)
    rw [Nat.testBit_or, Nat.testBit_two_pow, Nat.testBit_two_pow] at ht
    by_cases e1 : i = t
    · rw [← e1]; exact a
    · by_cases e2 : j = t
      · rw [← e2]; exact b
      · simp [e1, e2] at ht
set_option maxRecDepth 100000 in
set_option maxHeartbeats 4000000 in
theorem c_K_cut (l : Launch) (D : hv_D) (h : hv_P) (nx : Nat) {k c : Nat} {th : Int32} {pl : Nat → Nat} {la : Nat → Option Nat} {re im : Nat → Int32} (hS : kS h k th c pl la re im) (hN : netOK c pl la) (x : Int32) : hv_N l D M_K_cut (hv_rm 4 92 0 0) [.ref k, .int x] h nx (hv_ans (some (.int (A_cut c pl la x))) (fun h' n' => n' = nx ∧ kFr k h h' ∧ kS h' k (0) (c) (pl) (la) (re) (im))) := by
  refine hv_N.of' [some (.ref k), some (.int x), none, none, none] (by decide +kernel) rfl rfl rfl ?_
  obtain ⟨⟨op, sh, sp, tu, gc, my, so, sx, sr, si, hk⟩, h1, h2, h3, h4, ⟨f5, h5⟩, ⟨f6, h6⟩, ⟨f7, h7⟩, ⟨f8, h8⟩, ⟨f9, h9⟩, ⟨f10, h10⟩, ⟨f11, h11⟩, ⟨f12, h12⟩, ⟨f13, h13⟩, ⟨f14, h14⟩, ⟨f15, h15⟩, ⟨f16, h16⟩, ⟨f17, h17⟩, ⟨f18, h18⟩, ⟨f19, h19⟩⟩ := hS
  refine V_eqH (ob_9 hk h1 h2 h5 h6 h7 h8 h9 h10) ?_
  refine V_aload_n d_K_cut_0 rfl ?_
  refine V_iconst (0) d_K_cut_1 rfl ?_
  refine V_put (e' := oK k (0) ((nI c)) (op) (sh) (sp) (tu) (gc) (my) (sr) (si) (so) (sx)) d_K_cut_2 fp_K_69 (og_0) rfl rfl rfl rfl (ou_0) ?_
  refine V_aload_n d_K_cut_5 rfl ?_
  refine V_callV1 d_K_cut_6 ml_K_90 mB_K_isReady mi_K_isReady mv_K_isReady rfl og_0 (c_K_isReady l D _ _ og_0 (og_1 (by omega)) (og_2 (by omega) (by omega)) (og_3 (by omega) (by omega) (by omega)) hN.1 hN.2.1 hN.2.2.1) rfl rfl rfl rfl rfl rfl rfl ?_
  rintro _ _ ⟨rfl, e9⟩
  have e9 := e9.symm
  subst e9
  rw [ox_4, ou_3 (by omega) (by omega) (by omega), ou_2 (by omega) (by omega), ou_1 (by omega), ou_0]
  refine V_if_eq 16 d_K_cut_9 (by decide) (fun c9 => ?_) (fun c9 => ?_)
  · have hr := rdy_f c9
    have AN : A_cut c pl la x = -1 := by unfold A_cut; rw [if_neg (by rw [hr]; intro q; exact absurd q.1 (by decide))]
    refine V_iconst (-1) d_K_cut_16 rfl ?_
    exact V_ireturn d_K_cut_17 rfl ⟨by rw [AN], rfl, fun q hq => oz_9 (by omega) (by omega) (by omega) (by omega) (by omega) (by omega) (by omega) (by omega) (by omega), ⟨⟨_, _, _, _, _, _, _, _, _, _, og_0⟩, (og_1 (by omega)), (og_2 (by omega) (by omega)), (oa_9 h3 (by omega) (by omega) (by omega) (by omega) (by omega) (by omega) (by omega) (by omega) (by omega)), (oa_9 h4 (by omega) (by omega) (by omega) (by omega) (by omega) (by omega) (by omega) (by omega) (by omega)), ⟨_, (og_3 (by omega) (by omega) (by omega))⟩, ⟨_, (og_4 (by omega) (by omega) (by omega) (by omega))⟩, ⟨_, (og_5 (by omega) (by omega) (by omega) (by omega) (by omega))⟩, ⟨_, (og_6 (by omega) (by omega) (by omega) (by omega) (by omega) (by omega))⟩, ⟨_, (og_7 (by omega) (by omega) (by omega) (by omega) (by omega) (by omega) (by omega))⟩, ⟨_, (og_8 (by omega) (by omega) (by omega) (by omega) (by omega) (by omega) (by omega) (by omega))⟩, ⟨_, (oa_9 h11 (by omega) (by omega) (by omega) (by omega) (by omega) (by omega) (by omega) (by omega) (by omega))⟩, ⟨_, (oa_9 h12 (by omega) (by omega) (by omega) (by omega) (by omega) (by omega) (by omega) (by omega) (by omega))⟩, ⟨_, (oa_9 h13 (by omega) (by omega) (by omega) (by omega) (by omega) (by omega) (by omega) (by omega) (by omega))⟩, ⟨_, (oa_9 h14 (by omega) (by omega) (by omega) (by omega) (by omega) (by omega) (by omega) (by omega) (by omega))⟩, ⟨_, (oa_9 h15 (by omega) (by omega) (by omega) (by omega) (by omega) (by omega) (by omega) (by omega) (by omega))⟩, ⟨_, (oa_9 h16 (by omega) (by omega) (by omega) (by omega) (by omega) (by omega) (by omega) (by omega) (by omega))⟩, ⟨_, (oa_9 h17 (by omega) (by omega) (by omega) (by omega) (by omega) (by omega) (by omega) (by omega) (by omega))⟩, ⟨_, (oa_9 h18 (by omega) (by omega) (by omega) (by omega) (by omega) (by omega) (by omega) (by omega) (by omega))⟩, ⟨_, (oa_9 h19 (by omega) (by omega) (by omega) (by omega) (by omega) (by omega) (by omega) (by omega) (by omega))⟩⟩⟩
  · have hr := rdy_t c9
    refine V_iload_n d_K_cut_12 rfl ?_
    refine V_if_ge 18 d_K_cut_13 (by decide) (fun c13 => ?_) (fun c13 => ?_)
    · obtain ⟨ex, hmo⟩ := i32_nn (Int32.not_lt.mpr c13)
      generalize x.toNatClampNeg = mo at ex hmo
      subst ex
      have hPK : ∀ cu, PK (fun t => anN (hv_cp (fun j => lgx (fun p => la (6 * j + p)) (pl j)) f5 c t) cu) c = PK (LC pl la cu) c := fun cu => PK_congr (RDY_c hr) hN.1 (fun t ht => by simp only [hv_cp, if_pos ht]; exact anN_lt (LE_lt hN ht)) (fun t ht => by simp only [hv_cp, if_pos ht]; rfl)
      have AN : A_cut c pl la (nI mo) = cutF (SHR c pl la) (PE c pl la mo) := by unfold A_cut; rw [if_pos ⟨hr, by rw [nI_lt0 hmo]; exact not_false⟩, nI_clamp hmo]
      have lp2 : PE c pl la mo 0 = false → cut1 (SHR c pl la) (PE c pl la mo) = none → ∀ (kk j : Nat), kk = 20 - j → j ≤ 20 → ∀ (sp : Int32) (g6 g7 g8 g9 g10 : Nat → Nat), (∀ y, y < j → (fun j => ((List.range j).find? (fun i => (SHR c pl la).testBit i && ((SHR c pl la).testBit j && PE c pl la mo (2 ^ i ||| 2 ^ j)))).map (fun i => 2 ^ i ||| 2 ^ j)) y = none) → hv_V l D M_K_cut (fun _ _ => True) (hv_rm 4 92 0 0) (hv_ans (some (.int (A_cut c pl la (nI mo)))) (fun h' n' => n' = nx ∧ kFr k h h' ∧ kS h' k (0) (c) (pl) (la) (re) (im))) 0 0 (hv_ov h [(k, oK k (0) ((nI c)) (nI (OPN c pl la)) (nI (SHR c pl la)) (sp) (tu) (gc) (my) (sr) (si) (so) (sx)), (k + 1, eN 10 pl), (k + 2, eM 60 la), (k + 5, eN 10 (hv_cp (fun j => lgx (fun p => la (6 * j + p)) (pl j)) f5 c)), (k + 6, eN 1024 g6), (k + 7, eN 1024 g7), (k + 8, eN 1024 g8), (k + 9, eN 10 g9), (k + 10, eN 20 g10)]) nx 72 [some (.ref k), some (.int (nI mo)), some (.int (nI j)), none, none] [] := by
        intro P0 C1 kk
        induction kk using Nat.strongRecOn with
        | ind kk ihj =>
          intro j hkk hi sp g6 g7 g8 g9 g10 H2
          refine V_iload_n d_K_cut_72 rfl ?_
          refine V_bipush (nI 20) d_K_cut_73 rfl ?_
          refine V_icmp_geN 131 d_K_cut_75 (by decide) (by omega) (by decide) (fun cj => ?_) (fun cj => ?_)
          · have C2 : cut2 (SHR c pl la) (PE c pl la mo) = none := fsome_non (fun y hy => H2 y (by omega))
            refine V_iconst (-1) d_K_cut_131 rfl ?_
            exact V_ireturn d_K_cut_132 rfl ⟨by rw [AN]; unfold cutF; rw [if_neg (by rw [P0]; decide), C1, C2], rfl, fun q hq => oz_9 (by omega) (by omega) (by omega) (by omega) (by omega) (by omega) (by omega) (by omega) (by omega), ⟨⟨_, _, _, _, _, _, _, _, _, _, og_0⟩, (og_1 (by omega)), (og_2 (by omega) (by omega)), (oa_9 h3 (by omega) (by omega) (by omega) (by omega) (by omega) (by omega) (by omega) (by omega) (by omega)), (oa_9 h4 (by omega) (by omega) (by omega) (by omega) (by omega) (by omega) (by omega) (by omega) (by omega)), ⟨_, (og_3 (by omega) (by omega) (by omega))⟩, ⟨_, (og_4 (by omega) (by omega) (by omega) (by omega))⟩, ⟨_, (og_5 (by omega) (by omega) (by omega) (by omega) (by omega))⟩, ⟨_, (og_6 (by omega) (by omega) (by omega) (by omega) (by omega) (by omega))⟩, ⟨_, (og_7 (by omega) (by omega) (by omega) (by omega) (by omega) (by omega) (by omega))⟩, ⟨_, (og_8 (by omega) (by omega) (by omega) (by omega) (by omega) (by omega) (by omega) (by omega))⟩, ⟨_, (oa_9 h11 (by omega) (by omega) (by omega) (by omega) (by omega) (by omega) (by omega) (by omega) (by omega))⟩, ⟨_, (oa_9 h12 (by omega) (by omega) (by omega) (by omega) (by omega) (by omega) (by omega) (by omega) (by omega))⟩, ⟨_, (oa_9 h13 (by omega) (by omega) (by omega) (by omega) (by omega) (by omega) (by omega) (by omega) (by omega))⟩, ⟨_, (oa_9 h14 (by omega) (by omega) (by omega) (by omega) (by omega) (by omega) (by omega) (by omega) (by omega))⟩, ⟨_, (oa_9 h15 (by omega) (by omega) (by omega) (by omega) (by omega) (by omega) (by omega) (by omega) (by omega))⟩, ⟨_, (oa_9 h16 (by omega) (by omega) (by omega) (by omega) (by omega) (by omega) (by omega) (by omega) (by omega))⟩, ⟨_, (oa_9 h17 (by omega) (by omega) (by omega) (by omega) (by omega) (by omega) (by omega) (by omega) (by omega))⟩, ⟨_, (oa_9 h18 (by omega) (by omega) (by omega) (by omega) (by omega) (by omega) (by omega) (by omega) (by omega))⟩, ⟨_, (oa_9 h19 (by omega) (by omega) (by omega) (by omega) (by omega) (by omega) (by omega) (by omega) (by omega))⟩⟩⟩
          · refine V_iconst (nI 0) d_K_cut_78 rfl ?_
            refine V_istore_3 d_K_cut_79 rfl ?_
            have lp3 : ∀ (kk i : Nat), kk = j - i → i ≤ j → ∀ (sp : Int32) (g6 g7 g8 g9 g10 : Nat → Nat), (∀ y, y < i → (fun i => (SHR c pl la).testBit i && ((SHR c pl la).testBit j && PE c pl la mo (2 ^ i ||| 2 ^ j))) y = false) → hv_V l D M_K_cut (fun _ _ => True) (hv_rm 4 92 0 0) (hv_ans (some (.int (A_cut c pl la (nI mo)))) (fun h' n' => n' = nx ∧ kFr k h h' ∧ kS h' k (0) (c) (pl) (la) (re) (im))) 0 0 (hv_ov h [(k, oK k (0) ((nI c)) (nI (OPN c pl la)) (nI (SHR c pl la)) (sp) (tu) (gc) (my) (sr) (si) (so) (sx)), (k + 1, eN 10 pl), (k + 2, eM 60 la), (k + 5, eN 10 (hv_cp (fun j => lgx (fun p => la (6 * j + p)) (pl j)) f5 c)), (k + 6, eN 1024 g6), (k + 7, eN 1024 g7), (k + 8, eN 1024 g8), (k + 9, eN 10 g9), (k + 10, eN 20 g10)]) nx 80 [some (.ref k), some (.int (nI mo)), some (.int (nI j)), some (.int (nI i)), none] [] := by
              intro kk
              induction kk using Nat.strongRecOn with
              | ind kk ih =>
                intro i hkk hi sp g6 g7 g8 g9 g10 H3
                refine V_iload_n d_K_cut_80 rfl ?_
                refine V_iload_n d_K_cut_81 rfl ?_
                refine V_icmp_geN 125 d_K_cut_82 (by decide) (by omega) (by omega) (fun ci => ?_) (fun ci => ?_)
                · have ei : i = j := by omega
                  subst ei
                  have J := ihj (20 - (i + 1)) (by omega) (i + 1) rfl (by omega) sp g6 g7 g8 g9 g10 (fun y hy => by
                    by_cases e : y = i
                    · subst e; show Option.map _ _ = none; rw [find_non H3]; rfl
                    · exact H2 y (by omega))
                  refine V_iincN_2 1 d_K_cut_125 rfl rfl ?_
                  refine V_goto 72 d_K_cut_128 (by decide) ?_
                  refine V_drop_3 ?_
                  exact J
                · refine V_iconst (nI 1) d_K_cut_85 rfl ?_
                  refine V_iload_n d_K_cut_86 rfl ?_
                  refine V_ishlN d_K_cut_87 (by omega) ?_
                  refine V_iconst (nI 1) d_K_cut_88 rfl ?_
                  refine V_iload_n d_K_cut_89 rfl ?_
                  refine V_ishlN d_K_cut_90 (by omega) ?_
                  refine V_iorN d_K_cut_91 ?_
                  rw [Nat.one_mul, Nat.one_mul]
                  have slt : 2 ^ i ||| 2 ^ j < 2 ^ 20 := Nat.or_lt_two_pow (Nat.pow_lt_pow_right (by decide) (by omega)) (Nat.pow_lt_pow_right (by decide) (by omega))
                  refine V_istore_4 d_K_cut_92 rfl ?_
                  refine V_aload_n d_K_cut_94 rfl ?_
                  refine V_getfield d_K_cut_95 fl_K_87 (og_0) rfl ?_
                  refine V_iload d_K_cut_98 rfl ?_
                  refine V_iandN d_K_cut_100 ?_
                  refine V_iload d_K_cut_101 rfl ?_
                  refine V_icmp_neN 119 d_K_cut_103 (by decide) (Nat.lt_of_le_of_lt Nat.and_le_right (by omega)) (by omega) (fun cb => ?_) (fun cb => ?_)
                  · have F0 : (fun i => (SHR c pl la).testBit i && ((SHR c pl la).testBit j && PE c pl la mo (2 ^ i ||| 2 ^ j))) i = false := by
                      show ((SHR c pl la).testBit i && ((SHR c pl la).testBit j && _)) = false
                      cases a : (SHR c pl la).testBit i <;> cases b : (SHR c pl la).testBit j <;> first | rfl | exact absurd (and_pair.mpr ⟨a, b⟩) cb
                    have J := ih (j - (i + 1)) (by omega) (i + 1) rfl (by omega) sp g6 g7 g8 g9 g10 (fun y hy => by
                      by_cases e : y = i
                      · subst e; exact F0
                      · exact H3 y (by omega))
                    refine V_iincN_3 1 d_K_cut_119 rfl rfl ?_
                    refine V_goto 80 d_K_cut_122 (by decide) ?_
                    refine V_drop_4 ?_
                    exact J
                  · obtain ⟨b1, b2⟩ := and_pair.mp cb
                    refine V_aload_n d_K_cut_106 rfl ?_
                    refine V_iload d_K_cut_107 rfl ?_
                    refine V_iload_n d_K_cut_109 rfl ?_
                    refine V_callV1 d_K_cut_110 ml_K_119 mB_K_isEnough mi_K_isEnough mv_K_isEnough rfl og_0 (c_K_isEnough l D _ _ og_0 (og_3 (by omega) (by omega) (by omega)) (og_4 (by omega) (by omega) (by omega) (by omega)) (og_5 (by omega) (by omega) (by omega) (by omega) (by omega)) (og_6 (by omega) (by omega) (by omega) (by omega) (by omega) (by omega)) (og_7 (by omega) (by omega) (by omega) (by omega) (by omega) (by omega) (by omega)) (og_8 (by omega) (by omega) (by omega) (by omega) (by omega) (by omega) (by omega) (by omega)) (RDY_c hr) hN.1 (fun t ht => by simp only [hv_cp, if_pos ht]; exact LE_lt hN ht) hmo) rfl rfl rfl rfl rfl rfl rfl ?_
                    rintro _ _ ⟨rfl, sp', x6, x7, x8, x9, x10, rfl⟩
                    rw [ox_7, ou_8 (by omega) (by omega) (by omega) (by omega) (by omega) (by omega) (by omega) (by omega), ou_7 (by omega) (by omega) (by omega) (by omega) (by omega) (by omega) (by omega), ou_6 (by omega) (by omega) (by omega) (by omega) (by omega) (by omega), ou_5 (by omega) (by omega) (by omega) (by omega) (by omega), ou_4 (by omega) (by omega) (by omega) (by omega), ou_3 (by omega) (by omega) (by omega), ou_0, hPK (2 ^ i ||| 2 ^ j)]
                    refine V_if_eq 119 d_K_cut_113 (by decide) (fun cp => ?_) (fun cp => ?_)
                    · have cp := bZ_eq.mp cp
                      have F0 : (fun i => (SHR c pl la).testBit i && ((SHR c pl la).testBit j && PE c pl la mo (2 ^ i ||| 2 ^ j))) i = false := by
                        show ((SHR c pl la).testBit i && ((SHR c pl la).testBit j && _)) = false
                        rw [b1, b2]
                        exact cp
                      have J := ih (j - (i + 1)) (by omega) (i + 1) rfl (by omega) sp' x6 x7 x8 x9 x10 (fun y hy => by
                        by_cases e : y = i
                        · subst e; exact F0
                        · exact H3 y (by omega))
                      refine V_iincN_3 1 d_K_cut_119 rfl rfl ?_
                      refine V_goto 80 d_K_cut_122 (by decide) ?_
                      refine V_drop_4 ?_
                      exact J
                    · have cp := bZ_ne.mp cp
                      have F1 : (fun i => (SHR c pl la).testBit i && ((SHR c pl la).testBit j && PE c pl la mo (2 ^ i ||| 2 ^ j))) i = true := by
                        show ((SHR c pl la).testBit i && ((SHR c pl la).testBit j && _)) = true
                        rw [b1, b2]
                        exact cp
                      have C2 : cut2 (SHR c pl la) (PE c pl la mo) = some (2 ^ i ||| 2 ^ j) := fsome_rng H2 (by show Option.map _ _ = _; rw [find_rng H3 F1 (by omega)]; rfl) (by omega)
                      refine V_iload d_K_cut_116 rfl ?_
                      exact V_ireturn d_K_cut_118 rfl ⟨by rw [AN]; unfold cutF; rw [if_neg (by rw [P0]; decide), C1, C2], rfl, fun q hq => oz_9 (by omega) (by omega) (by omega) (by omega) (by omega) (by omega) (by omega) (by omega) (by omega), ⟨⟨_, _, _, _, _, _, _, _, _, _, og_0⟩, (og_1 (by omega)), (og_2 (by omega) (by omega)), (oa_9 h3 (by omega) (by omega) (by omega) (by omega) (by omega) (by omega) (by omega) (by omega) (by omega)), (oa_9 h4 (by omega) (by omega) (by omega) (by omega) (by omega) (by omega) (by omega) (by omega) (by omega)), ⟨_, (og_3 (by omega) (by omega) (by omega))⟩, ⟨_, (og_4 (by omega) (by omega) (by omega) (by omega))⟩, ⟨_, (og_5 (by omega) (by omega) (by omega) (by omega) (by omega))⟩, ⟨_, (og_6 (by omega) (by omega) (by omega) (by omega) (by omega) (by omega))⟩, ⟨_, (og_7 (by omega) (by omega) (by omega) (by omega) (by omega) (by omega) (by omega))⟩, ⟨_, (og_8 (by omega) (by omega) (by omega) (by omega) (by omega) (by omega) (by omega) (by omega))⟩, ⟨_, (oa_9 h11 (by omega) (by omega) (by omega) (by omega) (by omega) (by omega) (by omega) (by omega) (by omega))⟩, ⟨_, (oa_9 h12 (by omega) (by omega) (by omega) (by omega) (by omega) (by omega) (by omega) (by omega) (by omega))⟩, ⟨_, (oa_9 h13 (by omega) (by omega) (by omega) (by omega) (by omega) (by omega) (by omega) (by omega) (by omega))⟩, ⟨_, (oa_9 h14 (by omega) (by omega) (by omega) (by omega) (by omega) (by omega) (by omega) (by omega) (by omega))⟩, ⟨_, (oa_9 h15 (by omega) (by omega) (by omega) (by omega) (by omega) (by omega) (by omega) (by omega) (by omega))⟩, ⟨_, (oa_9 h16 (by omega) (by omega) (by omega) (by omega) (by omega) (by omega) (by omega) (by omega) (by omega))⟩, ⟨_, (oa_9 h17 (by omega) (by omega) (by omega) (by omega) (by omega) (by omega) (by omega) (by omega) (by omega))⟩, ⟨_, (oa_9 h18 (by omega) (by omega) (by omega) (by omega) (by omega) (by omega) (by omega) (by omega) (by omega))⟩, ⟨_, (oa_9 h19 (by omega) (by omega) (by omega) (by omega) (by omega) (by omega) (by omega) (by omega) (by omega))⟩⟩⟩
            exact lp3 _ 0 rfl (Nat.zero_le _) sp g6 g7 g8 g9 g10 (fun y hy => by omega)
      have lp1 : PE c pl la mo 0 = false → ∀ (kk i : Nat), kk = 20 - i → i ≤ 20 → ∀ (sp : Int32) (g6 g7 g8 g9 g10 : Nat → Nat), (∀ y, y < i → (fun i => (SHR c pl la).testBit i && PE c pl la mo (2 ^ i)) y = false) → hv_V l D M_K_cut (fun _ _ => True) (hv_rm 4 92 0 0) (hv_ans (some (.int (A_cut c pl la (nI mo)))) (fun h' n' => n' = nx ∧ kFr k h h' ∧ kS h' k (0) (c) (pl) (la) (re) (im))) 0 0 (hv_ov h [(k, oK k (0) ((nI c)) (nI (OPN c pl la)) (nI (SHR c pl la)) (sp) (tu) (gc) (my) (sr) (si) (so) (sx)), (k + 1, eN 10 pl), (k + 2, eM 60 la), (k + 5, eN 10 (hv_cp (fun j => lgx (fun p => la (6 * j + p)) (pl j)) f5 c)), (k + 6, eN 1024 g6), (k + 7, eN 1024 g7), (k + 8, eN 1024 g8), (k + 9, eN 10 g9), (k + 10, eN 20 g10)]) nx 31 [some (.ref k), some (.int (nI mo)), some (.int (nI i)), none, none] [] := by
        intro P0 kk
        induction kk using Nat.strongRecOn with
        | ind kk ih =>
          intro i hkk hi sp g6 g7 g8 g9 g10 H1
          refine V_iload_n d_K_cut_31 rfl ?_
          refine V_bipush (nI 20) d_K_cut_32 rfl ?_
          refine V_icmp_geN 70 d_K_cut_34 (by decide) (by omega) (by decide) (fun ci => ?_) (fun ci => ?_)
          · have C1 : cut1 (SHR c pl la) (PE c pl la mo) = none := find_non (fun y hy => H1 y (by omega))
            refine V_iconst (nI 0) d_K_cut_70 rfl ?_
            refine V_istore_2 d_K_cut_71 rfl ?_
            exact lp2 P0 C1 _ 0 rfl (Nat.zero_le _) sp g6 g7 g8 g9 g10 (fun y hy => by omega)
          · refine V_aload_n d_K_cut_37 rfl ?_
            refine V_getfield d_K_cut_38 fl_K_87 (og_0) rfl ?_
            refine V_iload_n d_K_cut_41 rfl ?_
            refine V_ishrN d_K_cut_42 (Nat.lt_of_lt_of_le (SHR_lt hN) (by decide)) (by omega) ?_
            refine V_iconst (nI 1) d_K_cut_43 rfl ?_
            refine V_iandN d_K_cut_44 ?_
            refine V_iconst (nI 1) d_K_cut_45 rfl ?_
            refine V_icmp_neN 64 d_K_cut_46 (by decide) (Nat.lt_of_le_of_lt Nat.and_le_right (by decide)) (by decide) (fun cb => ?_) (fun cb => ?_)
            · have F0 : (fun i => (SHR c pl la).testBit i && PE c pl la mo (2 ^ i)) i = false := by
                show ((SHR c pl la).testBit i && _) = false
                cases a : (SHR c pl la).testBit i
                · rfl
                · exact absurd (hv_bit_eq.mpr a) cb
              have J := ih (20 - (i + 1)) (by omega) (i + 1) rfl (by omega) sp g6 g7 g8 g9 g10 (fun y hy => by
                by_cases e : y = i
                · subst e; exact F0
                · exact H1 y (by omega))
              refine V_iincN_2 1 d_K_cut_64 rfl rfl ?_
              refine V_goto 31 d_K_cut_67 (by decide) ?_
              exact J
            · have b1 := hv_bit_eq.mp cb
              refine V_aload_n d_K_cut_49 rfl ?_
              refine V_iconst (nI 1) d_K_cut_50 rfl ?_
              refine V_iload_n d_K_cut_51 rfl ?_
              refine V_ishlN d_K_cut_52 (by omega) ?_
              rw [Nat.one_mul]
              refine V_iload_n d_K_cut_53 rfl ?_
              refine V_callV1 d_K_cut_54 ml_K_119 mB_K_isEnough mi_K_isEnough mv_K_isEnough rfl og_0 (c_K_isEnough l D _ _ og_0 (og_3 (by omega) (by omega) (by omega)) (og_4 (by omega) (by omega) (by omega) (by omega)) (og_5 (by omega) (by omega) (by omega) (by omega) (by omega)) (og_6 (by omega) (by omega) (by omega) (by omega) (by omega) (by omega)) (og_7 (by omega) (by omega) (by omega) (by omega) (by omega) (by omega) (by omega)) (og_8 (by omega) (by omega) (by omega) (by omega) (by omega) (by omega) (by omega) (by omega)) (RDY_c hr) hN.1 (fun t ht => by simp only [hv_cp, if_pos ht]; exact LE_lt hN ht) hmo) rfl rfl rfl rfl rfl rfl rfl ?_
              rintro _ _ ⟨rfl, sp', x6, x7, x8, x9, x10, rfl⟩
              rw [ox_7, ou_8 (by omega) (by omega) (by omega) (by omega) (by omega) (by omega) (by omega) (by omega), ou_7 (by omega) (by omega) (by omega) (by omega) (by omega) (by omega) (by omega), ou_6 (by omega) (by omega) (by omega) (by omega) (by omega) (by omega), ou_5 (by omega) (by omega) (by omega) (by omega) (by omega), ou_4 (by omega) (by omega) (by omega) (by omega), ou_3 (by omega) (by omega) (by omega), ou_0, hPK (2 ^ i)]
              refine V_if_eq 64 d_K_cut_57 (by decide) (fun cp => ?_) (fun cp => ?_)
              · have cp := bZ_eq.mp cp
                have F0 : (fun i => (SHR c pl la).testBit i && PE c pl la mo (2 ^ i)) i = false := by
                  show ((SHR c pl la).testBit i && _) = false
                  rw [b1]
                  exact cp
                have J := ih (20 - (i + 1)) (by omega) (i + 1) rfl (by omega) sp' x6 x7 x8 x9 x10 (fun y hy => by
                  by_cases e : y = i
                  · subst e; exact F0
                  · exact H1 y (by omega))
                refine V_iincN_2 1 d_K_cut_64 rfl rfl ?_
                refine V_goto 31 d_K_cut_67 (by decide) ?_
                exact J
              · have cp := bZ_ne.mp cp
                have F1 : (fun i => (SHR c pl la).testBit i && PE c pl la mo (2 ^ i)) i = true := by
                  show ((SHR c pl la).testBit i && _) = true
                  rw [b1]
                  exact cp
                have C1 : cut1 (SHR c pl la) (PE c pl la mo) = some i := find_rng H1 F1 (by omega)
                refine V_iconst (nI 1) d_K_cut_60 rfl ?_
                refine V_iload_n d_K_cut_61 rfl ?_
                refine V_ishlN d_K_cut_62 (by omega) ?_
                rw [Nat.one_mul]
                exact V_ireturn d_K_cut_63 rfl ⟨by rw [AN]; unfold cutF; rw [if_neg (by rw [P0]; decide), C1], rfl, fun q hq => oz_9 (by omega) (by omega) (by omega) (by omega) (by omega) (by omega) (by omega) (by omega) (by omega), ⟨⟨_, _, _, _, _, _, _, _, _, _, og_0⟩, (og_1 (by omega)), (og_2 (by omega) (by omega)), (oa_9 h3 (by omega) (by omega) (by omega) (by omega) (by omega) (by omega) (by omega) (by omega) (by omega)), (oa_9 h4 (by omega) (by omega) (by omega) (by omega) (by omega) (by omega) (by omega) (by omega) (by omega)), ⟨_, (og_3 (by omega) (by omega) (by omega))⟩, ⟨_, (og_4 (by omega) (by omega) (by omega) (by omega))⟩, ⟨_, (og_5 (by omega) (by omega) (by omega) (by omega) (by omega))⟩, ⟨_, (og_6 (by omega) (by omega) (by omega) (by omega) (by omega) (by omega))⟩, ⟨_, (og_7 (by omega) (by omega) (by omega) (by omega) (by omega) (by omega) (by omega))⟩, ⟨_, (og_8 (by omega) (by omega) (by omega) (by omega) (by omega) (by omega) (by omega) (by omega))⟩, ⟨_, (oa_9 h11 (by omega) (by omega) (by omega) (by omega) (by omega) (by omega) (by omega) (by omega) (by omega))⟩, ⟨_, (oa_9 h12 (by omega) (by omega) (by omega) (by omega) (by omega) (by omega) (by omega) (by omega) (by omega))⟩, ⟨_, (oa_9 h13 (by omega) (by omega) (by omega) (by omega) (by omega) (by omega) (by omega) (by omega) (by omega))⟩, ⟨_, (oa_9 h14 (by omega) (by omega) (by omega) (by omega) (by omega) (by omega) (by omega) (by omega) (by omega))⟩, ⟨_, (oa_9 h15 (by omega) (by omega) (by omega) (by omega) (by omega) (by omega) (by omega) (by omega) (by omega))⟩, ⟨_, (oa_9 h16 (by omega) (by omega) (by omega) (by omega) (by omega) (by omega) (by omega) (by omega) (by omega))⟩, ⟨_, (oa_9 h17 (by omega) (by omega) (by omega) (by omega) (by omega) (by omega) (by omega) (by omega) (by omega))⟩, ⟨_, (oa_9 h18 (by omega) (by omega) (by omega) (by omega) (by omega) (by omega) (by omega) (by omega) (by omega))⟩, ⟨_, (oa_9 h19 (by omega) (by omega) (by omega) (by omega) (by omega) (by omega) (by omega) (by omega) (by omega))⟩⟩⟩
      refine V_aload_n d_K_cut_18 rfl ?_
      refine V_iconst (nI 0) d_K_cut_19 rfl ?_
      refine V_iload_n d_K_cut_20 rfl ?_
      refine V_callV1 d_K_cut_21 ml_K_119 mB_K_isEnough mi_K_isEnough mv_K_isEnough rfl og_0 (c_K_isEnough l D _ _ og_0 (og_3 (by omega) (by omega) (by omega)) (og_4 (by omega) (by omega) (by omega) (by omega)) (og_5 (by omega) (by omega) (by omega) (by omega) (by omega)) (og_6 (by omega) (by omega) (by omega) (by omega) (by omega) (by omega)) (og_7 (by omega) (by omega) (by omega) (by omega) (by omega) (by omega) (by omega)) (og_8 (by omega) (by omega) (by omega) (by omega) (by omega) (by omega) (by omega) (by omega)) (RDY_c hr) hN.1 (fun t ht => by simp only [hv_cp, if_pos ht]; exact LE_lt hN ht) hmo) rfl rfl rfl rfl rfl rfl rfl ?_
      rintro _ _ ⟨rfl, sp', x6, x7, x8, x9, x10, rfl⟩
      rw [ox_7, ou_8 (by omega) (by omega) (by omega) (by omega) (by omega) (by omega) (by omega) (by omega), ou_7 (by omega) (by omega) (by omega) (by omega) (by omega) (by omega) (by omega), ou_6 (by omega) (by omega) (by omega) (by omega) (by omega) (by omega), ou_5 (by omega) (by omega) (by omega) (by omega) (by omega), ou_4 (by omega) (by omega) (by omega) (by omega), ou_3 (by omega) (by omega) (by omega), ou_0, hPK (0)]
      refine V_if_eq 29 d_K_cut_24 (by decide) (fun c24 => ?_) (fun c24 => ?_)
      · have P0 : PE c pl la mo 0 = false := bZ_eq.mp c24
        refine V_iconst (nI 0) d_K_cut_29 rfl ?_
        refine V_istore_2 d_K_cut_30 rfl ?_
        exact lp1 P0 _ 0 rfl (Nat.zero_le _) sp' x6 x7 x8 x9 x10 (fun y hy => by omega)
      · have P0 : PE c pl la mo 0 = true := bZ_ne.mp c24
        refine V_iconst (0) d_K_cut_27 rfl ?_
        exact V_ireturn d_K_cut_28 rfl ⟨by rw [AN]; unfold cutF; rw [if_pos P0], rfl, fun q hq => oz_9 (by omega) (by omega) (by omega) (by omega) (by omega) (by omega) (by omega) (by omega) (by omega), ⟨⟨_, _, _, _, _, _, _, _, _, _, og_0⟩, (og_1 (by omega)), (og_2 (by omega) (by omega)), (oa_9 h3 (by omega) (by omega) (by omega) (by omega) (by omega) (by omega) (by omega) (by omega) (by omega)), (oa_9 h4 (by omega) (by omega) (by omega) (by omega) (by omega) (by omega) (by omega) (by omega) (by omega)), ⟨_, (og_3 (by omega) (by omega) (by omega))⟩, ⟨_, (og_4 (by omega) (by omega) (by omega) (by omega))⟩, ⟨_, (og_5 (by omega) (by omega) (by omega) (by omega) (by omega))⟩, ⟨_, (og_6 (by omega) (by omega) (by omega) (by omega) (by omega) (by omega))⟩, ⟨_, (og_7 (by omega) (by omega) (by omega) (by omega) (by omega) (by omega) (by omega))⟩, ⟨_, (og_8 (by omega) (by omega) (by omega) (by omega) (by omega) (by omega) (by omega) (by omega))⟩, ⟨_, (oa_9 h11 (by omega) (by omega) (by omega) (by omega) (by omega) (by omega) (by omega) (by omega) (by omega))⟩, ⟨_, (oa_9 h12 (by omega) (by omega) (by omega) (by omega) (by omega) (by omega) (by omega) (by omega) (by omega))⟩, ⟨_, (oa_9 h13 (by omega) (by omega) (by omega) (by omega) (by omega) (by omega) (by omega) (by omega) (by omega))⟩, ⟨_, (oa_9 h14 (by omega) (by omega) (by omega) (by omega) (by omega) (by omega) (by omega) (by omega) (by omega))⟩, ⟨_, (oa_9 h15 (by omega) (by omega) (by omega) (by omega) (by omega) (by omega) (by omega) (by omega) (by omega))⟩, ⟨_, (oa_9 h16 (by omega) (by omega) (by omega) (by omega) (by omega) (by omega) (by omega) (by omega) (by omega))⟩, ⟨_, (oa_9 h17 (by omega) (by omega) (by omega) (by omega) (by omega) (by omega) (by omega) (by omega) (by omega))⟩, ⟨_, (oa_9 h18 (by omega) (by omega) (by omega) (by omega) (by omega) (by omega) (by omega) (by omega) (by omega))⟩, ⟨_, (oa_9 h19 (by omega) (by omega) (by omega) (by omega) (by omega) (by omega) (by omega) (by omega) (by omega))⟩⟩⟩
    · have AN : A_cut c pl la x = -1 := by unfold A_cut; rw [if_neg (fun q => c13 (Int32.not_lt.mp q.2))]
      refine V_iconst (-1) d_K_cut_16 rfl ?_
      exact V_ireturn d_K_cut_17 rfl ⟨by rw [AN], rfl, fun q hq => oz_9 (by omega) (by omega) (by omega) (by omega) (by omega) (by omega) (by omega) (by omega) (by omega), ⟨⟨_, _, _, _, _, _, _, _, _, _, og_0⟩, (og_1 (by omega)), (og_2 (by omega) (by omega)), (oa_9 h3 (by omega) (by omega) (by omega) (by omega) (by omega) (by omega) (by omega) (by omega) (by omega)), (oa_9 h4 (by omega) (by omega) (by omega) (by omega) (by omega) (by omega) (by omega) (by omega) (by omega)), ⟨_, (og_3 (by omega) (by omega) (by omega))⟩, ⟨_, (og_4 (by omega) (by omega) (by omega) (by omega))⟩, ⟨_, (og_5 (by omega) (by omega) (by omega) (by omega) (by omega))⟩, ⟨_, (og_6 (by omega) (by omega) (by omega) (by omega) (by omega) (by omega))⟩, ⟨_, (og_7 (by omega) (by omega) (by omega) (by omega) (by omega) (by omega) (by omega))⟩, ⟨_, (og_8 (by omega) (by omega) (by omega) (by omega) (by omega) (by omega) (by omega) (by omega))⟩, ⟨_, (oa_9 h11 (by omega) (by omega) (by omega) (by omega) (by omega) (by omega) (by omega) (by omega) (by omega))⟩, ⟨_, (oa_9 h12 (by omega) (by omega) (by omega) (by omega) (by omega) (by omega) (by omega) (by omega) (by omega))⟩, ⟨_, (oa_9 h13 (by omega) (by omega) (by omega) (by omega) (by omega) (by omega) (by omega) (by omega) (by omega))⟩, ⟨_, (oa_9 h14 (by omega) (by omega) (by omega) (by omega) (by omega) (by omega) (by omega) (by omega) (by omega))⟩, ⟨_, (oa_9 h15 (by omega) (by omega) (by omega) (by omega) (by omega) (by omega) (by omega) (by omega) (by omega))⟩, ⟨_, (oa_9 h16 (by omega) (by omega) (by omega) (by omega) (by omega) (by omega) (by omega) (by omega) (by omega))⟩, ⟨_, (oa_9 h17 (by omega) (by omega) (by omega) (by omega) (by omega) (by omega) (by omega) (by omega) (by omega))⟩, ⟨_, (oa_9 h18 (by omega) (by omega) (by omega) (by omega) (by omega) (by omega) (by omega) (by omega) (by omega))⟩, ⟨_, (oa_9 h19 (by omega) (by omega) (by omega) (by omega) (by omega) (by omega) (by omega) (by omega) (by omega))⟩⟩⟩

def GS (l1 : Nat → Nat) (c : Nat) : gst := (hv_cp l1 (fun _ => 0) c, hv_cp (fun j => 2 ^ pc_ (l1 j)) (fun _ => 0) c, 0, fun _ => 0, fun _ => 0, 0)
def A_greedy (c : Nat) (pl : Nat → Nat) (la : Nat → Option Nat) (x : Int32) : Int32 := if RDY c pl la = true then (if x = -1 then nI (grun c (GS (LC pl la 0) c) (c - 1)).2.2.2.2.2 else if ¬ x < 0 ∧ ¬ nI (c - 1) ≤ x then nI ((grun c (GS (LC pl la 0) c) (c - 1)).2.2.2.1 x.toNatClampNeg) else if ¬ x < nI 100 ∧ ¬ nI (100 + (c - 1)) ≤ x then nI ((grun c (GS (LC pl la 0) c) (c - 1)).2.2.2.2.1 (x - nI 100).toNatClampNeg) else -1) else -1
/-- a run of things with another past -/
def ksim (c t : Nat) (L : Nat → Nat) (z : Nat → Bool) (on ot : Nat → Nat) (ac : Nat) (s : gst) : Prop := (∀ i, i < c + t → L i = s.1 i ∧ z i = s.2.2.1.testBit i) ∧ (∀ j, j < t → on j = s.2.2.2.1 j ∧ ot j = s.2.2.2.2.1 j) ∧ ac = s.2.2.2.2.2
theorem chS_congr {L M : Nat → Nat} {gn n : Nat} {b : Option (Nat × Nat)} {i j : Nat} (h : ∀ i, i < n → L i = M i) (hb : chOk gn n b) (hi : i < n) (hj : j < n) : chS L gn b i j = chS M gn b i j := by
  have g : ∀ x y, x < n → y < n → gI L x y = gI M x y := fun x y hx hy => by unfold gI; rw [h x hx, h y hy]
  have e : lsI L b = lsI M b := by
    cases b with
    | none => rfl
    | some q =>
      obtain ⟨a1, a2, -, -⟩ := hb q.1 q.2 rfl
      exact g _ _ (by omega) a2
  unfold chS
  rw [e, g i j hi hj]
theorem chJ_congr {L M : Nat → Nat} {gn n i j0 : Nat} {b : Option (Nat × Nat)} (h : ∀ i, i < n → L i = M i) (hb : chOk gn n b) (hi : i < j0) : ∀ m, j0 + m ≤ n → chJ L gn i j0 b m = chJ M gn i j0 b m
  | 0, _ => rfl
  | m + 1, hm => by
    have ih := chJ_congr (gn := gn) h hb hi m (by omega)
    show chS L gn (chJ L gn i j0 b m) i (j0 + m) = chS M gn (chJ M gn i j0 b m) i (j0 + m)
    rw [ih]
    exact chS_congr h (chJ_ok hb hi m (by omega)) (by omega) (by omega)
theorem chI_congr {L M : Nat → Nat} {gn n : Nat} (h : ∀ i, i < n → L i = M i) : ∀ m, m ≤ n → chI L gn n m = chI M gn n m
  | 0, _ => rfl
  | m + 1, hm => by
    have ih := chI_congr (gn := gn) h m (by omega)
    show chJ L gn m (m + 1) (chI L gn n m) (n - (m + 1)) = chJ M gn m (m + 1) (chI M gn n m) (n - (m + 1))
    rw [ih]
    exact chJ_congr h (chI_ok m (by omega)) (by omega) _ (by omega)
theorem ksim_s {c t : Nat} {L on ot : Nat → Nat} {z : Nat → Bool} {ac : Nat} {s : gst} (G : gok c s t) (ht : t + 1 < c) (h : ksim c t L z on ot ac s) : ∃ p q, chI L s.2.2.1 (c + t) (c + t) = some (p, q) ∧ p < q ∧ q < c + t ∧ ksim c (t + 1) (va_up L (c + t) (L p ^^^ L q)) (va_up (va_up (va_up z p true) q true) (c + t) false) (va_up on t p) (va_up ot t q) (ac + 2 ^ pc_ (L p ||| L q)) (gtu c s t) := by
  obtain ⟨p, q, hc, h1, h2, h3, h4⟩ := gok_ch G ht
  obtain ⟨k1, k2, k3⟩ := h
  refine ⟨p, q, by rw [chI_congr (fun i hi => (k1 i hi).1) _ (Nat.le_refl _)]; exact hc, h1, h2, ?_⟩
  unfold gtu
  rw [hc]
  have ep := (k1 p (by omega)).1
  have eq := (k1 q h2).1
  refine ⟨fun i hi => ?_, fun j hj => ?_, by show _ = s.2.2.2.2.2 + 2 ^ pc_ (s.1 p ||| s.1 q); rw [k3, ep, eq]⟩
  · by_cases e : i = c + t
    · subst e
      simp only [va_up, if_true]
      refine ⟨by rw [ep, eq], ?_⟩
      have b0 : (s.2.2.1 ||| (2 ^ p ||| 2 ^ q)).testBit (c + t) = false := by
        refine Nat.testBit_lt_two_pow (Nat.or_lt_two_pow G.2.1 (Nat.or_lt_two_pow ?_ ?_))
        · exact Nat.pow_lt_pow_right (by decide) (by omega)
        · exact Nat.pow_lt_pow_right (by decide) h2
      exact b0.symm
    · obtain ⟨a, b⟩ := k1 i (by omega)
      simp only [va_up, if_neg e]
      refine ⟨a, ?_⟩
      rw [Nat.testBit_or, Nat.testBit_or, Nat.testBit_two_pow, Nat.testBit_two_pow]
      by_cases e1 : i = q
      · subst e1; simp
      · by_cases e2 : i = p
        · subst e2; simp [e1]
        · have e3 : ¬ p = i := fun w => e2 w.symm
          have e4 : ¬ q = i := fun w => e1 w.symm
          simp [e1, e2, e3, e4, b]
  · by_cases e : j = t
    · subst e; simp [va_up]
    · simp only [va_up, if_neg e]
      exact k2 j (by omega)
theorem grow_100 {x : Int32} {n : Nat} (h0 : ¬ x < nI 100) (h1 : ¬ nI (100 + n) ≤ x) (hn : n < 100) : (x - nI 100).toNatClampNeg < n ∧ x - nI 100 = nI (x - nI 100).toNatClampNeg := by
  have e0 : (nI 100).toInt = 100 := nI_toInt (by decide)
  have e1 : (nI (100 + n)).toInt = 100 + n := by rw [nI_toInt (by omega)]; omega
  rw [Int32.lt_iff_toInt_lt, e0] at h0
  rw [Int32.le_iff_toInt_le, e1] at h1
  have s := sub_small (a := x) (b := nI 100) rfl e0 (by omega) (by omega)
  have e : vp_in (x - nI 100) n := vp_in_iff.mpr ⟨by omega, by omega⟩
  obtain ⟨j, hj, q⟩ := vp_in_of e (by omega)
  rw [q, nI_clamp (by omega)]
  exact ⟨hj, rfl⟩
set_option maxRecDepth 100000 in
set_option maxHeartbeats 4000000 in
theorem c_K_greedy (l : Launch) (D : hv_D) (h : hv_P) (nx : Nat) {k c : Nat} {th : Int32} {pl : Nat → Nat} {la : Nat → Option Nat} {re im : Nat → Int32} (hS : kS h k th c pl la re im) (hN : netOK c pl la) (x : Int32) : hv_N l D M_K_greedy (hv_rm 3 69 0 0) [.ref k, .int x] h nx (hv_ans (some (.int (A_greedy c pl la x))) (fun h' n' => n' = nx ∧ kFr k h h' ∧ kS h' k (0) (c) (pl) (la) (re) (im))) := by
  refine hv_N.of' [some (.ref k), some (.int x), none] (by decide +kernel) rfl rfl rfl ?_
  obtain ⟨⟨op, sh, sp, tu, gc, my, so, sx, sr, si, hk⟩, h1, h2, h3, h4, ⟨f5, h5⟩, ⟨f6, h6⟩, ⟨f7, h7⟩, ⟨f8, h8⟩, ⟨f9, h9⟩, ⟨f10, h10⟩, ⟨f11, h11⟩, ⟨f12, h12⟩, ⟨f13, h13⟩, ⟨f14, h14⟩, ⟨f15, h15⟩, ⟨f16, h16⟩, ⟨f17, h17⟩, ⟨f18, h18⟩, ⟨f19, h19⟩⟩ := hS
  refine V_eqH (ob_8 hk h1 h2 h5 h11 h12 h13 h14) ?_
  refine V_aload_n d_K_greedy_0 rfl ?_
  refine V_iconst (0) d_K_greedy_1 rfl ?_
  refine V_put (e' := oK k (0) ((nI c)) (op) (sh) (sp) (tu) (gc) (my) (sr) (si) (so) (sx)) d_K_greedy_2 fp_K_69 (og_0) rfl rfl rfl rfl (ou_0) ?_
  refine V_aload_n d_K_greedy_5 rfl ?_
  refine V_callV1 d_K_greedy_6 ml_K_90 mB_K_isReady mi_K_isReady mv_K_isReady rfl og_0 (c_K_isReady l D _ _ og_0 (og_1 (by omega)) (og_2 (by omega) (by omega)) (og_3 (by omega) (by omega) (by omega)) hN.1 hN.2.1 hN.2.2.1) rfl rfl rfl rfl rfl rfl rfl ?_
  rintro _ _ ⟨rfl, e9⟩
  have e9 := e9.symm
  subst e9
  rw [ox_4, ou_3 (by omega) (by omega) (by omega), ou_2 (by omega) (by omega), ou_1 (by omega), ou_0]
  refine V_if_ne 14 d_K_greedy_9 (by decide) (fun c9 => ?_) (fun c9 => ?_)
  · have hr := rdy_t c9
    have hc1 := RDY_c hr
    have hc := hN.1
    have lp2 : ∀ (kk t : Nat), kk = (c - 1) - t → t ≤ (c - 1) → ∀ (L : Nat → Nat) (z : Nat → Bool) (on ot : Nat → Nat) (ac : Nat), ksim c t L z on ot ac (grun c (GS (LC pl la 0) c) t) → hv_V l D M_K_greedy (fun _ _ => True) (hv_rm 3 69 0 0) (hv_ans (some (.int (A_greedy c pl la x))) (fun h' n' => n' = nx ∧ kFr k h h' ∧ kS h' k (0) (c) (pl) (la) (re) (im))) 0 0 (hv_ov h [(k, oK k (0) ((nI c)) (nI (OPN c pl la)) (nI (SHR c pl la)) (sp) (nI t) (nI ac) (my) (sr) (si) (so) (sx)), (k + 1, eN 10 pl), (k + 2, eM 60 la), (k + 5, eN 10 (hv_cp (fun j => lgx (fun p => la (6 * j + p)) (pl j)) f5 c)), (k + 11, eN 20 (L)), (k + 12, eB 20 (z)), (k + 13, eN 10 (on)), (k + 14, eN 10 (ot))]) nx 64 [some (.ref k), some (.int x), some (.int (nI (c + t)))] [] := by
      intro kk
      induction kk using Nat.strongRecOn with
      | ind kk ih =>
        intro t hkk hi L z on ot ac KS
        refine V_iload_n d_K_greedy_64 rfl ?_
        refine V_iconst (nI 2) d_K_greedy_65 rfl ?_
        refine V_aload_n d_K_greedy_66 rfl ?_
        refine V_getfield d_K_greedy_67 fl_K_73 (og_0) rfl ?_
        refine V_imulN d_K_greedy_70 ?_
        refine V_iconst (nI 1) d_K_greedy_71 rfl ?_
        refine V_isubN d_K_greedy_72 (by omega) ?_
        refine V_icmp_geN 87 d_K_greedy_73 (by decide) (by omega) (by omega) (fun ck => ?_) (fun ck => ?_)
        · have et : t = c - 1 := by omega
          subst et
          obtain ⟨K1, K2, K3⟩ := KS
          have AN : A_greedy c pl la x = A_greedy c pl la x := rfl
          conv at AN => rhs; rw [A_greedy, if_pos hr]
          refine V_iload_n d_K_greedy_87 rfl ?_
          refine V_iconst (-1) d_K_greedy_88 rfl ?_
          refine V_icmp_ne 97 d_K_greedy_89 (by decide) (fun c89 => ?_) (fun c89 => ?_)
          · rw [if_neg c89] at AN
            refine V_iload_n d_K_greedy_97 rfl ?_
            refine V_if_lt 116 d_K_greedy_98 (by decide) (fun c98 => ?_) (fun c98 => ?_)
            · rw [if_neg (fun q => q.1 c98)] at AN
              refine V_iload_n d_K_greedy_116 rfl ?_
              refine V_bipush (nI 100) d_K_greedy_117 rfl ?_
              refine V_icmp_lt 145 d_K_greedy_119 (by decide) (fun c119 => ?_) (fun c119 => ?_)
              · rw [if_neg (fun q => q.1 c119)] at AN
                refine V_iconst (-1) d_K_greedy_145 rfl ?_
                exact V_ireturn d_K_greedy_146 rfl ⟨by rw [AN], rfl, fun q hq => oz_8 (by omega) (by omega) (by omega) (by omega) (by omega) (by omega) (by omega) (by omega), ⟨⟨_, _, _, _, _, _, _, _, _, _, og_0⟩, (og_1 (by omega)), (og_2 (by omega) (by omega)), (oa_8 h3 (by omega) (by omega) (by omega) (by omega) (by omega) (by omega) (by omega) (by omega)), (oa_8 h4 (by omega) (by omega) (by omega) (by omega) (by omega) (by omega) (by omega) (by omega)), ⟨_, (og_3 (by omega) (by omega) (by omega))⟩, ⟨_, (oa_8 h6 (by omega) (by omega) (by omega) (by omega) (by omega) (by omega) (by omega) (by omega))⟩, ⟨_, (oa_8 h7 (by omega) (by omega) (by omega) (by omega) (by omega) (by omega) (by omega) (by omega))⟩, ⟨_, (oa_8 h8 (by omega) (by omega) (by omega) (by omega) (by omega) (by omega) (by omega) (by omega))⟩, ⟨_, (oa_8 h9 (by omega) (by omega) (by omega) (by omega) (by omega) (by omega) (by omega) (by omega))⟩, ⟨_, (oa_8 h10 (by omega) (by omega) (by omega) (by omega) (by omega) (by omega) (by omega) (by omega))⟩, ⟨_, (og_4 (by omega) (by omega) (by omega) (by omega))⟩, ⟨_, (og_5 (by omega) (by omega) (by omega) (by omega) (by omega))⟩, ⟨_, (og_6 (by omega) (by omega) (by omega) (by omega) (by omega) (by omega))⟩, ⟨_, (og_7 (by omega) (by omega) (by omega) (by omega) (by omega) (by omega) (by omega))⟩, ⟨_, (oa_8 h15 (by omega) (by omega) (by omega) (by omega) (by omega) (by omega) (by omega) (by omega))⟩, ⟨_, (oa_8 h16 (by omega) (by omega) (by omega) (by omega) (by omega) (by omega) (by omega) (by omega))⟩, ⟨_, (oa_8 h17 (by omega) (by omega) (by omega) (by omega) (by omega) (by omega) (by omega) (by omega))⟩, ⟨_, (oa_8 h18 (by omega) (by omega) (by omega) (by omega) (by omega) (by omega) (by omega) (by omega))⟩, ⟨_, (oa_8 h19 (by omega) (by omega) (by omega) (by omega) (by omega) (by omega) (by omega) (by omega))⟩⟩⟩
              · refine V_iload_n d_K_greedy_122 rfl ?_
                refine V_bipush (nI 100) d_K_greedy_123 rfl ?_
                refine V_aload_n d_K_greedy_125 rfl ?_
                refine V_getfield d_K_greedy_126 fl_K_129 (og_0) rfl ?_
                refine V_iaddN d_K_greedy_129 ?_
                refine V_icmp_ge 145 d_K_greedy_130 (by decide) (fun c130 => ?_) (fun c130 => ?_)
                · rw [if_neg (fun q => q.2 c130)] at AN
                  refine V_iconst (-1) d_K_greedy_145 rfl ?_
                  exact V_ireturn d_K_greedy_146 rfl ⟨by rw [AN], rfl, fun q hq => oz_8 (by omega) (by omega) (by omega) (by omega) (by omega) (by omega) (by omega) (by omega), ⟨⟨_, _, _, _, _, _, _, _, _, _, og_0⟩, (og_1 (by omega)), (og_2 (by omega) (by omega)), (oa_8 h3 (by omega) (by omega) (by omega) (by omega) (by omega) (by omega) (by omega) (by omega)), (oa_8 h4 (by omega) (by omega) (by omega) (by omega) (by omega) (by omega) (by omega) (by omega)), ⟨_, (og_3 (by omega) (by omega) (by omega))⟩, ⟨_, (oa_8 h6 (by omega) (by omega) (by omega) (by omega) (by omega) (by omega) (by omega) (by omega))⟩, ⟨_, (oa_8 h7 (by omega) (by omega) (by omega) (by omega) (by omega) (by omega) (by omega) (by omega))⟩, ⟨_, (oa_8 h8 (by omega) (by omega) (by omega) (by omega) (by omega) (by omega) (by omega) (by omega))⟩, ⟨_, (oa_8 h9 (by omega) (by omega) (by omega) (by omega) (by omega) (by omega) (by omega) (by omega))⟩, ⟨_, (oa_8 h10 (by omega) (by omega) (by omega) (by omega) (by omega) (by omega) (by omega) (by omega))⟩, ⟨_, (og_4 (by omega) (by omega) (by omega) (by omega))⟩, ⟨_, (og_5 (by omega) (by omega) (by omega) (by omega) (by omega))⟩, ⟨_, (og_6 (by omega) (by omega) (by omega) (by omega) (by omega) (by omega))⟩, ⟨_, (og_7 (by omega) (by omega) (by omega) (by omega) (by omega) (by omega) (by omega))⟩, ⟨_, (oa_8 h15 (by omega) (by omega) (by omega) (by omega) (by omega) (by omega) (by omega) (by omega))⟩, ⟨_, (oa_8 h16 (by omega) (by omega) (by omega) (by omega) (by omega) (by omega) (by omega) (by omega))⟩, ⟨_, (oa_8 h17 (by omega) (by omega) (by omega) (by omega) (by omega) (by omega) (by omega) (by omega))⟩, ⟨_, (oa_8 h18 (by omega) (by omega) (by omega) (by omega) (by omega) (by omega) (by omega) (by omega))⟩, ⟨_, (oa_8 h19 (by omega) (by omega) (by omega) (by omega) (by omega) (by omega) (by omega) (by omega))⟩⟩⟩
                · rw [if_pos ⟨c119, c130⟩] at AN
                  obtain ⟨j1, j2⟩ := grow_100 c119 c130 (by omega)
                  rw [← (K2 _ j1).2] at AN
                  refine V_aload_n d_K_greedy_133 rfl ?_
                  refine V_getfield d_K_greedy_134 fl_K_50 (og_0) rfl ?_
                  refine V_iload_n d_K_greedy_137 rfl ?_
                  refine V_bipush (nI 100) d_K_greedy_138 rfl ?_
                  refine V_isub d_K_greedy_140 ?_
                  refine V_eqI j2 ?_
                  refine V_iaload d_K_greedy_141 (og_7 (by omega) (by omega) (by omega) (by omega) (by omega) (by omega) (by omega)) ⟨rfl, by omega, by decide⟩ ?_
                  refine V_goto 146 d_K_greedy_142 (by decide) ?_
                  exact V_ireturn d_K_greedy_146 rfl ⟨by rw [AN], rfl, fun q hq => oz_8 (by omega) (by omega) (by omega) (by omega) (by omega) (by omega) (by omega) (by omega), ⟨⟨_, _, _, _, _, _, _, _, _, _, og_0⟩, (og_1 (by omega)), (og_2 (by omega) (by omega)), (oa_8 h3 (by omega) (by omega) (by omega) (by omega) (by omega) (by omega) (by omega) (by omega)), (oa_8 h4 (by omega) (by omega) (by omega) (by omega) (by omega) (by omega) (by omega) (by omega)), ⟨_, (og_3 (by omega) (by omega) (by omega))⟩, ⟨_, (oa_8 h6 (by omega) (by omega) (by omega) (by omega) (by omega) (by omega) (by omega) (by omega))⟩, ⟨_, (oa_8 h7 (by omega) (by omega) (by omega) (by omega) (by omega) (by omega) (by omega) (by omega))⟩, ⟨_, (oa_8 h8 (by omega) (by omega) (by omega) (by omega) (by omega) (by omega) (by omega) (by omega))⟩, ⟨_, (oa_8 h9 (by omega) (by omega) (by omega) (by omega) (by omega) (by omega) (by omega) (by omega))⟩, ⟨_, (oa_8 h10 (by omega) (by omega) (by omega) (by omega) (by omega) (by omega) (by omega) (by omega))⟩, ⟨_, (og_4 (by omega) (by omega) (by omega) (by omega))⟩, ⟨_, (og_5 (by omega) (by omega) (by omega) (by omega) (by omega))⟩, ⟨_, (og_6 (by omega) (by omega) (by omega) (by omega) (by omega) (by omega))⟩, ⟨_, (og_7 (by omega) (by omega) (by omega) (by omega) (by omega) (by omega) (by omega))⟩, ⟨_, (oa_8 h15 (by omega) (by omega) (by omega) (by omega) (by omega) (by omega) (by omega) (by omega))⟩, ⟨_, (oa_8 h16 (by omega) (by omega) (by omega) (by omega) (by omega) (by omega) (by omega) (by omega))⟩, ⟨_, (oa_8 h17 (by omega) (by omega) (by omega) (by omega) (by omega) (by omega) (by omega) (by omega))⟩, ⟨_, (oa_8 h18 (by omega) (by omega) (by omega) (by omega) (by omega) (by omega) (by omega) (by omega))⟩, ⟨_, (oa_8 h19 (by omega) (by omega) (by omega) (by omega) (by omega) (by omega) (by omega) (by omega))⟩⟩⟩
            · refine V_iload_n d_K_greedy_101 rfl ?_
              refine V_aload_n d_K_greedy_102 rfl ?_
              refine V_getfield d_K_greedy_103 fl_K_129 (og_0) rfl ?_
              refine V_icmp_ge 116 d_K_greedy_106 (by decide) (fun c106 => ?_) (fun c106 => ?_)
              · rw [if_neg (fun q => q.2 c106)] at AN
                refine V_iload_n d_K_greedy_116 rfl ?_
                refine V_bipush (nI 100) d_K_greedy_117 rfl ?_
                refine V_icmp_lt 145 d_K_greedy_119 (by decide) (fun c119 => ?_) (fun c119 => ?_)
                · rw [if_neg (fun q => q.1 c119)] at AN
                  refine V_iconst (-1) d_K_greedy_145 rfl ?_
                  exact V_ireturn d_K_greedy_146 rfl ⟨by rw [AN], rfl, fun q hq => oz_8 (by omega) (by omega) (by omega) (by omega) (by omega) (by omega) (by omega) (by omega), ⟨⟨_, _, _, _, _, _, _, _, _, _, og_0⟩, (og_1 (by omega)), (og_2 (by omega) (by omega)), (oa_8 h3 (by omega) (by omega) (by omega) (by omega) (by omega) (by omega) (by omega) (by omega)), (oa_8 h4 (by omega) (by omega) (by omega) (by omega) (by omega) (by omega) (by omega) (by omega)), ⟨_, (og_3 (by omega) (by omega) (by omega))⟩, ⟨_, (oa_8 h6 (by omega) (by omega) (by omega) (by omega) (by omega) (by omega) (by omega) (by omega))⟩, ⟨_, (oa_8 h7 (by omega) (by omega) (by omega) (by omega) (by omega) (by omega) (by omega) (by omega))⟩, ⟨_, (oa_8 h8 (by omega) (by omega) (by omega) (by omega) (by omega) (by omega) (by omega) (by omega))⟩, ⟨_, (oa_8 h9 (by omega) (by omega) (by omega) (by omega) (by omega) (by omega) (by omega) (by omega))⟩, ⟨_, (oa_8 h10 (by omega) (by omega) (by omega) (by omega) (by omega) (by omega) (by omega) (by omega))⟩, ⟨_, (og_4 (by omega) (by omega) (by omega) (by omega))⟩, ⟨_, (og_5 (by omega) (by omega) (by omega) (by omega) (by omega))⟩, ⟨_, (og_6 (by omega) (by omega) (by omega) (by omega) (by omega) (by omega))⟩, ⟨_, (og_7 (by omega) (by omega) (by omega) (by omega) (by omega) (by omega) (by omega))⟩, ⟨_, (oa_8 h15 (by omega) (by omega) (by omega) (by omega) (by omega) (by omega) (by omega) (by omega))⟩, ⟨_, (oa_8 h16 (by omega) (by omega) (by omega) (by omega) (by omega) (by omega) (by omega) (by omega))⟩, ⟨_, (oa_8 h17 (by omega) (by omega) (by omega) (by omega) (by omega) (by omega) (by omega) (by omega))⟩, ⟨_, (oa_8 h18 (by omega) (by omega) (by omega) (by omega) (by omega) (by omega) (by omega) (by omega))⟩, ⟨_, (oa_8 h19 (by omega) (by omega) (by omega) (by omega) (by omega) (by omega) (by omega) (by omega))⟩⟩⟩
                · refine V_iload_n d_K_greedy_122 rfl ?_
                  refine V_bipush (nI 100) d_K_greedy_123 rfl ?_
                  refine V_aload_n d_K_greedy_125 rfl ?_
                  refine V_getfield d_K_greedy_126 fl_K_129 (og_0) rfl ?_
                  refine V_iaddN d_K_greedy_129 ?_
                  refine V_icmp_ge 145 d_K_greedy_130 (by decide) (fun c130 => ?_) (fun c130 => ?_)
                  · rw [if_neg (fun q => q.2 c130)] at AN
                    refine V_iconst (-1) d_K_greedy_145 rfl ?_
                    exact V_ireturn d_K_greedy_146 rfl ⟨by rw [AN], rfl, fun q hq => oz_8 (by omega) (by omega) (by omega) (by omega) (by omega) (by omega) (by omega) (by omega), ⟨⟨_, _, _, _, _, _, _, _, _, _, og_0⟩, (og_1 (by omega)), (og_2 (by omega) (by omega)), (oa_8 h3 (by omega) (by omega) (by omega) (by omega) (by omega) (by omega) (by omega) (by omega)), (oa_8 h4 (by omega) (by omega) (by omega) (by omega) (by omega) (by omega) (by omega) (by omega)), ⟨_, (og_3 (by omega) (by omega) (by omega))⟩, ⟨_, (oa_8 h6 (by omega) (by omega) (by omega) (by omega) (by omega) (by omega) (by omega) (by omega))⟩, ⟨_, (oa_8 h7 (by omega) (by omega) (by omega) (by omega) (by omega) (by omega) (by omega) (by omega))⟩, ⟨_, (oa_8 h8 (by omega) (by omega) (by omega) (by omega) (by omega) (by omega) (by omega) (by omega))⟩, ⟨_, (oa_8 h9 (by omega) (by omega) (by omega) (by omega) (by omega) (by omega) (by omega) (by omega))⟩, ⟨_, (oa_8 h10 (by omega) (by omega) (by omega) (by omega) (by omega) (by omega) (by omega) (by omega))⟩, ⟨_, (og_4 (by omega) (by omega) (by omega) (by omega))⟩, ⟨_, (og_5 (by omega) (by omega) (by omega) (by omega) (by omega))⟩, ⟨_, (og_6 (by omega) (by omega) (by omega) (by omega) (by omega) (by omega))⟩, ⟨_, (og_7 (by omega) (by omega) (by omega) (by omega) (by omega) (by omega) (by omega))⟩, ⟨_, (oa_8 h15 (by omega) (by omega) (by omega) (by omega) (by omega) (by omega) (by omega) (by omega))⟩, ⟨_, (oa_8 h16 (by omega) (by omega) (by omega) (by omega) (by omega) (by omega) (by omega) (by omega))⟩, ⟨_, (oa_8 h17 (by omega) (by omega) (by omega) (by omega) (by omega) (by omega) (by omega) (by omega))⟩, ⟨_, (oa_8 h18 (by omega) (by omega) (by omega) (by omega) (by omega) (by omega) (by omega) (by omega))⟩, ⟨_, (oa_8 h19 (by omega) (by omega) (by omega) (by omega) (by omega) (by omega) (by omega) (by omega))⟩⟩⟩
                  · rw [if_pos ⟨c119, c130⟩] at AN
                    obtain ⟨j1, j2⟩ := grow_100 c119 c130 (by omega)
                    rw [← (K2 _ j1).2] at AN
                    refine V_aload_n d_K_greedy_133 rfl ?_
                    refine V_getfield d_K_greedy_134 fl_K_50 (og_0) rfl ?_
                    refine V_iload_n d_K_greedy_137 rfl ?_
                    refine V_bipush (nI 100) d_K_greedy_138 rfl ?_
                    refine V_isub d_K_greedy_140 ?_
                    refine V_eqI j2 ?_
                    refine V_iaload d_K_greedy_141 (og_7 (by omega) (by omega) (by omega) (by omega) (by omega) (by omega) (by omega)) ⟨rfl, by omega, by decide⟩ ?_
                    refine V_goto 146 d_K_greedy_142 (by decide) ?_
                    exact V_ireturn d_K_greedy_146 rfl ⟨by rw [AN], rfl, fun q hq => oz_8 (by omega) (by omega) (by omega) (by omega) (by omega) (by omega) (by omega) (by omega), ⟨⟨_, _, _, _, _, _, _, _, _, _, og_0⟩, (og_1 (by omega)), (og_2 (by omega) (by omega)), (oa_8 h3 (by omega) (by omega) (by omega) (by omega) (by omega) (by omega) (by omega) (by omega)), (oa_8 h4 (by omega) (by omega) (by omega) (by omega) (by omega) (by omega) (by omega) (by omega)), ⟨_, (og_3 (by omega) (by omega) (by omega))⟩, ⟨_, (oa_8 h6 (by omega) (by omega) (by omega) (by omega) (by omega) (by omega) (by omega) (by omega))⟩, ⟨_, (oa_8 h7 (by omega) (by omega) (by omega) (by omega) (by omega) (by omega) (by omega) (by omega))⟩, ⟨_, (oa_8 h8 (by omega) (by omega) (by omega) (by omega) (by omega) (by omega) (by omega) (by omega))⟩, ⟨_, (oa_8 h9 (by omega) (by omega) (by omega) (by omega) (by omega) (by omega) (by omega) (by omega))⟩, ⟨_, (oa_8 h10 (by omega) (by omega) (by omega) (by omega) (by omega) (by omega) (by omega) (by omega))⟩, ⟨_, (og_4 (by omega) (by omega) (by omega) (by omega))⟩, ⟨_, (og_5 (by omega) (by omega) (by omega) (by omega) (by omega))⟩, ⟨_, (og_6 (by omega) (by omega) (by omega) (by omega) (by omega) (by omega))⟩, ⟨_, (og_7 (by omega) (by omega) (by omega) (by omega) (by omega) (by omega) (by omega))⟩, ⟨_, (oa_8 h15 (by omega) (by omega) (by omega) (by omega) (by omega) (by omega) (by omega) (by omega))⟩, ⟨_, (oa_8 h16 (by omega) (by omega) (by omega) (by omega) (by omega) (by omega) (by omega) (by omega))⟩, ⟨_, (oa_8 h17 (by omega) (by omega) (by omega) (by omega) (by omega) (by omega) (by omega) (by omega))⟩, ⟨_, (oa_8 h18 (by omega) (by omega) (by omega) (by omega) (by omega) (by omega) (by omega) (by omega))⟩, ⟨_, (oa_8 h19 (by omega) (by omega) (by omega) (by omega) (by omega) (by omega) (by omega) (by omega))⟩⟩⟩
              · rw [if_pos ⟨c98, c106⟩] at AN
                obtain ⟨j1, j2⟩ := i32_nat c98 (Int32.not_le.mp c106) (by omega)
                rw [← (K2 _ j1).1] at AN
                refine V_aload_n d_K_greedy_109 rfl ?_
                refine V_getfield d_K_greedy_110 fl_K_47 (og_0) rfl ?_
                refine V_iload_n (x := nI x.toNatClampNeg) d_K_greedy_113 (by rw [← j2]; rfl) ?_
                refine V_iaload d_K_greedy_114 (og_6 (by omega) (by omega) (by omega) (by omega) (by omega) (by omega)) ⟨rfl, by omega, by decide⟩ ?_
                exact V_ireturn d_K_greedy_115 rfl ⟨by rw [AN], rfl, fun q hq => oz_8 (by omega) (by omega) (by omega) (by omega) (by omega) (by omega) (by omega) (by omega), ⟨⟨_, _, _, _, _, _, _, _, _, _, og_0⟩, (og_1 (by omega)), (og_2 (by omega) (by omega)), (oa_8 h3 (by omega) (by omega) (by omega) (by omega) (by omega) (by omega) (by omega) (by omega)), (oa_8 h4 (by omega) (by omega) (by omega) (by omega) (by omega) (by omega) (by omega) (by omega)), ⟨_, (og_3 (by omega) (by omega) (by omega))⟩, ⟨_, (oa_8 h6 (by omega) (by omega) (by omega) (by omega) (by omega) (by omega) (by omega) (by omega))⟩, ⟨_, (oa_8 h7 (by omega) (by omega) (by omega) (by omega) (by omega) (by omega) (by omega) (by omega))⟩, ⟨_, (oa_8 h8 (by omega) (by omega) (by omega) (by omega) (by omega) (by omega) (by omega) (by omega))⟩, ⟨_, (oa_8 h9 (by omega) (by omega) (by omega) (by omega) (by omega) (by omega) (by omega) (by omega))⟩, ⟨_, (oa_8 h10 (by omega) (by omega) (by omega) (by omega) (by omega) (by omega) (by omega) (by omega))⟩, ⟨_, (og_4 (by omega) (by omega) (by omega) (by omega))⟩, ⟨_, (og_5 (by omega) (by omega) (by omega) (by omega) (by omega))⟩, ⟨_, (og_6 (by omega) (by omega) (by omega) (by omega) (by omega) (by omega))⟩, ⟨_, (og_7 (by omega) (by omega) (by omega) (by omega) (by omega) (by omega) (by omega))⟩, ⟨_, (oa_8 h15 (by omega) (by omega) (by omega) (by omega) (by omega) (by omega) (by omega) (by omega))⟩, ⟨_, (oa_8 h16 (by omega) (by omega) (by omega) (by omega) (by omega) (by omega) (by omega) (by omega))⟩, ⟨_, (oa_8 h17 (by omega) (by omega) (by omega) (by omega) (by omega) (by omega) (by omega) (by omega))⟩, ⟨_, (oa_8 h18 (by omega) (by omega) (by omega) (by omega) (by omega) (by omega) (by omega) (by omega))⟩, ⟨_, (oa_8 h19 (by omega) (by omega) (by omega) (by omega) (by omega) (by omega) (by omega) (by omega))⟩⟩⟩
          · rw [if_pos c89, ← K3] at AN
            refine V_aload_n d_K_greedy_92 rfl ?_
            refine V_getfield d_K_greedy_93 fl_K_126 (og_0) rfl ?_
            exact V_ireturn d_K_greedy_96 rfl ⟨by rw [AN], rfl, fun q hq => oz_8 (by omega) (by omega) (by omega) (by omega) (by omega) (by omega) (by omega) (by omega), ⟨⟨_, _, _, _, _, _, _, _, _, _, og_0⟩, (og_1 (by omega)), (og_2 (by omega) (by omega)), (oa_8 h3 (by omega) (by omega) (by omega) (by omega) (by omega) (by omega) (by omega) (by omega)), (oa_8 h4 (by omega) (by omega) (by omega) (by omega) (by omega) (by omega) (by omega) (by omega)), ⟨_, (og_3 (by omega) (by omega) (by omega))⟩, ⟨_, (oa_8 h6 (by omega) (by omega) (by omega) (by omega) (by omega) (by omega) (by omega) (by omega))⟩, ⟨_, (oa_8 h7 (by omega) (by omega) (by omega) (by omega) (by omega) (by omega) (by omega) (by omega))⟩, ⟨_, (oa_8 h8 (by omega) (by omega) (by omega) (by omega) (by omega) (by omega) (by omega) (by omega))⟩, ⟨_, (oa_8 h9 (by omega) (by omega) (by omega) (by omega) (by omega) (by omega) (by omega) (by omega))⟩, ⟨_, (oa_8 h10 (by omega) (by omega) (by omega) (by omega) (by omega) (by omega) (by omega) (by omega))⟩, ⟨_, (og_4 (by omega) (by omega) (by omega) (by omega))⟩, ⟨_, (og_5 (by omega) (by omega) (by omega) (by omega) (by omega))⟩, ⟨_, (og_6 (by omega) (by omega) (by omega) (by omega) (by omega) (by omega))⟩, ⟨_, (og_7 (by omega) (by omega) (by omega) (by omega) (by omega) (by omega) (by omega))⟩, ⟨_, (oa_8 h15 (by omega) (by omega) (by omega) (by omega) (by omega) (by omega) (by omega) (by omega))⟩, ⟨_, (oa_8 h16 (by omega) (by omega) (by omega) (by omega) (by omega) (by omega) (by omega) (by omega))⟩, ⟨_, (oa_8 h17 (by omega) (by omega) (by omega) (by omega) (by omega) (by omega) (by omega) (by omega))⟩, ⟨_, (oa_8 h18 (by omega) (by omega) (by omega) (by omega) (by omega) (by omega) (by omega) (by omega))⟩, ⟨_, (oa_8 h19 (by omega) (by omega) (by omega) (by omega) (by omega) (by omega) (by omega) (by omega))⟩⟩⟩
        · have GK := gok_r (gok_0 (L0 := fun _ => 0) (Z0 := fun _ => 0) (les := fun _ => 0) (oth := fun _ => 0) (LC_lt hN 0)) t (by omega)
          obtain ⟨p, q, hch, hpq, hq, KS2⟩ := ksim_s GK (by omega) KS
          refine V_aload_n d_K_greedy_76 rfl ?_
          refine V_iload_n d_K_greedy_77 rfl ?_
          refine V_callV0 d_K_greedy_78 ml_K_132 mB_K_join mi_K_join mv_K_join rfl og_0 (c_K_join l D _ _ og_0 (og_4 (by omega) (by omega) (by omega) (by omega)) (og_5 (by omega) (by omega) (by omega) (by omega) (by omega)) (og_6 (by omega) (by omega) (by omega) (by omega) (by omega) (by omega)) (og_7 (by omega) (by omega) (by omega) (by omega) (by omega) (by omega) (by omega)) (by omega) (by omega) (fun i hi => by rw [(KS.1 i hi).1]; exact (GK.2.2 i hi).1) (fun i hi => (KS.1 i hi).2) hch hpq hq) rfl rfl rfl rfl rfl rfl rfl ?_
          rintro _ _ ⟨rfl, rfl⟩
          rw [ox_5, ou_7 (by omega) (by omega) (by omega) (by omega) (by omega) (by omega) (by omega), ou_6 (by omega) (by omega) (by omega) (by omega) (by omega) (by omega), ou_5 (by omega) (by omega) (by omega) (by omega) (by omega), ou_4 (by omega) (by omega) (by omega) (by omega), ou_0]
          refine V_iincN_2 1 d_K_greedy_81 rfl rfl ?_
          refine V_goto 64 d_K_greedy_84 (by decide) ?_
          have J := ih (c - 1 - (t + 1)) (by omega) (t + 1) rfl (by omega) _ _ _ _ _ KS2
          exact J
    have lp1 : ∀ (kk t : Nat), kk = c - t → t ≤ c → hv_V l D M_K_greedy (fun _ _ => True) (hv_rm 3 69 0 0) (hv_ans (some (.int (A_greedy c pl la x))) (fun h' n' => n' = nx ∧ kFr k h h' ∧ kS h' k (0) (c) (pl) (la) (re) (im))) 0 0 (hv_ov h [(k, oK k (0) ((nI c)) (nI (OPN c pl la)) (nI (SHR c pl la)) (sp) (nI 0) (nI 0) (my) (sr) (si) (so) (sx)), (k + 1, eN 10 pl), (k + 2, eM 60 la), (k + 5, eN 10 (hv_cp (fun j => lgx (fun p => la (6 * j + p)) (pl j)) f5 c)), (k + 11, eN 20 (hv_cp (hv_cp (fun j => lgx (fun p => la (6 * j + p)) (pl j)) f5 c) f11 t)), (k + 12, eB 20 (hv_cp (fun _ => false) f12 t)), (k + 13, eN 10 (f13)), (k + 14, eN 10 (f14))]) nx 26 [some (.ref k), some (.int x), some (.int (nI t))] [] := by
      intro kk
      induction kk using Nat.strongRecOn with
      | ind kk ih =>
        intro t hkk hi
        refine V_iload_n d_K_greedy_26 rfl ?_
        refine V_aload_n d_K_greedy_27 rfl ?_
        refine V_getfield d_K_greedy_28 fl_K_73 (og_0) rfl ?_
        refine V_icmp_geN 59 d_K_greedy_31 (by decide) (by omega) (by omega) (fun ct => ?_) (fun ct => ?_)
        · have et : t = c := by omega
          subst et
          refine V_aload_n d_K_greedy_59 rfl ?_
          refine V_getfield d_K_greedy_60 fl_K_73 (og_0) rfl ?_
          refine V_istore_2 d_K_greedy_63 rfl ?_
          exact lp2 _ 0 rfl (Nat.zero_le _) _ _ _ _ 0 ⟨fun i hi => by
            have hi : i < t := hi
            constructor
            · show hv_cp (hv_cp (fun j => lgx (fun p => la (6 * j + p)) (pl j)) f5 t) f11 t i = hv_cp (LC pl la 0) (fun _ => 0) t i
              simp only [hv_cp, if_pos hi]
              rw [LC_0]; rfl
            · show hv_cp (fun _ => false) f12 t i = Nat.testBit 0 i
              simp only [hv_cp, if_pos hi, Nat.zero_testBit], fun j hj => by omega, rfl⟩
        · refine V_aload_n d_K_greedy_34 rfl ?_
          refine V_getfield d_K_greedy_35 fl_K_40 (og_0) rfl ?_
          refine V_iload_n d_K_greedy_38 rfl ?_
          refine V_aload_n d_K_greedy_39 rfl ?_
          refine V_getfield d_K_greedy_40 fl_K_22 (og_0) rfl ?_
          refine V_iload_n d_K_greedy_43 rfl ?_
          refine V_iaload d_K_greedy_44 (og_3 (by omega) (by omega) (by omega)) ⟨rfl, by omega, by decide⟩ ?_
          refine V_istN d_K_greedy_45 (og_4 (by omega) (by omega) (by omega) (by omega)) ⟨rfl, by omega, by decide⟩ (h' := hv_ov h [(k, oK k (0) ((nI c)) (nI (OPN c pl la)) (nI (SHR c pl la)) (sp) (nI 0) (nI 0) (my) (sr) (si) (so) (sx)), (k + 1, eN 10 pl), (k + 2, eM 60 la), (k + 5, eN 10 (hv_cp (fun j => lgx (fun p => la (6 * j + p)) (pl j)) f5 c)), (k + 11, eN 20 (hv_cp (hv_cp (fun j => lgx (fun p => la (6 * j + p)) (pl j)) f5 c) f11 (t + 1))), (k + 12, eB 20 (hv_cp (fun _ => false) f12 t)), (k + 13, eN 10 (f13)), (k + 14, eN 10 (f14))]) (by rw [← hv_cp_s]; exact ou_4 (by omega) (by omega) (by omega) (by omega)) ?_
          refine V_aload_n d_K_greedy_46 rfl ?_
          refine V_getfield d_K_greedy_47 fl_K_43 (og_0) rfl ?_
          refine V_iload_n d_K_greedy_50 rfl ?_
          refine V_iconst (bZ false) d_K_greedy_51 rfl ?_
          refine V_bst (b := false) (j := t) d_K_greedy_52 (og_5 (by omega) (by omega) (by omega) (by omega) (by omega)) ⟨rfl, by omega, by decide⟩ (h' := hv_ov h [(k, oK k (0) ((nI c)) (nI (OPN c pl la)) (nI (SHR c pl la)) (sp) (nI 0) (nI 0) (my) (sr) (si) (so) (sx)), (k + 1, eN 10 pl), (k + 2, eM 60 la), (k + 5, eN 10 (hv_cp (fun j => lgx (fun p => la (6 * j + p)) (pl j)) f5 c)), (k + 11, eN 20 (hv_cp (hv_cp (fun j => lgx (fun p => la (6 * j + p)) (pl j)) f5 c) f11 (t + 1))), (k + 12, eB 20 (hv_cp (fun _ => false) f12 (t + 1))), (k + 13, eN 10 (f13)), (k + 14, eN 10 (f14))]) (by rw [← hv_cp_s (f := fun _ => false) (g := f12)]; exact ou_5 (by omega) (by omega) (by omega) (by omega) (by omega)) ?_
          refine V_iincN_2 1 d_K_greedy_53 rfl rfl ?_
          refine V_goto 26 d_K_greedy_56 (by decide) ?_
          exact ih (c - (t + 1)) (by omega) (t + 1) rfl (by omega)
    refine V_aload_n d_K_greedy_14 rfl ?_
    refine V_iconst (nI 0) d_K_greedy_15 rfl ?_
    refine V_put (e' := oK k (0) ((nI c)) (nI (OPN c pl la)) (nI (SHR c pl la)) (sp) (nI 0) (gc) (my) (sr) (si) (so) (sx)) d_K_greedy_16 fp_K_129 (og_0) rfl rfl rfl rfl (ou_0) ?_
    refine V_aload_n d_K_greedy_19 rfl ?_
    refine V_iconst (nI 0) d_K_greedy_20 rfl ?_
    refine V_put (e' := oK k (0) ((nI c)) (nI (OPN c pl la)) (nI (SHR c pl la)) (sp) (nI 0) (nI 0) (my) (sr) (si) (so) (sx)) d_K_greedy_21 fp_K_126 (og_0) rfl rfl rfl rfl (ou_0) ?_
    refine V_iconst (nI 0) d_K_greedy_24 rfl ?_
    refine V_istore_2 d_K_greedy_25 rfl ?_
    have J := lp1 _ 0 rfl (Nat.zero_le _)
    rw [hv_cp_0, hv_cp_0] at J
    exact J
  · have hr := rdy_f c9
    refine V_iconst (-1) d_K_greedy_12 rfl ?_
    exact V_ireturn d_K_greedy_13 rfl ⟨by unfold A_greedy; rw [if_neg (by rw [hr]; decide)], rfl, fun q hq => oz_8 (by omega) (by omega) (by omega) (by omega) (by omega) (by omega) (by omega) (by omega), ⟨⟨_, _, _, _, _, _, _, _, _, _, og_0⟩, (og_1 (by omega)), (og_2 (by omega) (by omega)), (oa_8 h3 (by omega) (by omega) (by omega) (by omega) (by omega) (by omega) (by omega) (by omega)), (oa_8 h4 (by omega) (by omega) (by omega) (by omega) (by omega) (by omega) (by omega) (by omega)), ⟨_, (og_3 (by omega) (by omega) (by omega))⟩, ⟨_, (oa_8 h6 (by omega) (by omega) (by omega) (by omega) (by omega) (by omega) (by omega) (by omega))⟩, ⟨_, (oa_8 h7 (by omega) (by omega) (by omega) (by omega) (by omega) (by omega) (by omega) (by omega))⟩, ⟨_, (oa_8 h8 (by omega) (by omega) (by omega) (by omega) (by omega) (by omega) (by omega) (by omega))⟩, ⟨_, (oa_8 h9 (by omega) (by omega) (by omega) (by omega) (by omega) (by omega) (by omega) (by omega))⟩, ⟨_, (oa_8 h10 (by omega) (by omega) (by omega) (by omega) (by omega) (by omega) (by omega) (by omega))⟩, ⟨_, (og_4 (by omega) (by omega) (by omega) (by omega))⟩, ⟨_, (og_5 (by omega) (by omega) (by omega) (by omega) (by omega))⟩, ⟨_, (og_6 (by omega) (by omega) (by omega) (by omega) (by omega) (by omega))⟩, ⟨_, (og_7 (by omega) (by omega) (by omega) (by omega) (by omega) (by omega) (by omega))⟩, ⟨_, (oa_8 h15 (by omega) (by omega) (by omega) (by omega) (by omega) (by omega) (by omega) (by omega))⟩, ⟨_, (oa_8 h16 (by omega) (by omega) (by omega) (by omega) (by omega) (by omega) (by omega) (by omega))⟩, ⟨_, (oa_8 h17 (by omega) (by omega) (by omega) (by omega) (by omega) (by omega) (by omega) (by omega))⟩, ⟨_, (oa_8 h18 (by omega) (by omega) (by omega) (by omega) (by omega) (by omega) (by omega) (by omega))⟩, ⟨_, (oa_8 h19 (by omega) (by omega) (by omega) (by omega) (by omega) (by omega) (by omega) (by omega))⟩⟩⟩
