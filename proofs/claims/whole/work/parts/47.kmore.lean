-- THE MODEL: total, tensor, leg, put, clear
theorem tot_cases (x : Int32) : x = nI 0 ∨ x = nI 1 ∨ x = nI 2 ∨ x = nI 3 ∨ ((x.toInt < 0 ∨ 3 < x.toInt) ∧ x ≠ nI 0 ∧ x ≠ nI 1 ∧ x ≠ nI 2 ∧ x ≠ nI 3) := by
  by_cases h : x.toInt < 0 ∨ 3 < x.toInt
  · refine Or.inr (Or.inr (Or.inr (Or.inr ⟨h, ?_, ?_, ?_, ?_⟩))) <;> (rintro rfl; revert h; decide)
  · have e : ∀ n : Nat, n < 4 → x.toInt = n → x = nI n := fun n hn q => by
      apply Int32.toInt_inj.mp
      rw [q, nI_toInt (by omega)]
    have : x.toInt = 0 ∨ x.toInt = 1 ∨ x.toInt = 2 ∨ x.toInt = 3 := by omega
    rcases this with q | q | q | q
    · exact Or.inl (e 0 (by omega) q)
    · exact Or.inr (Or.inl (e 1 (by omega) q))
    · exact Or.inr (Or.inr (Or.inl (e 2 (by omega) q)))
    · exact Or.inr (Or.inr (Or.inr (Or.inl (e 3 (by omega) q))))
def A_total (c : Nat) (pl : Nat → Nat) (la : Nat → Option Nat) (x : Int32) : Int32 := if x = nI 0 then nI c else if x = nI 1 then nI (ctT (fun _ => 1) pl la c) else if x = nI 2 then nI (BR c pl la) else if x = nI 3 then (if RDY c pl la = true then nI (SHR c pl la) else 0) else -1
theorem ctP_one {g : Nat → Option Nat} : ∀ p, ctP (fun _ => 1) g p = p
  | 0 => rfl
  | p + 1 => by simp only [ctP, ctP_one p]
theorem A_total_0 {c : Nat} {pl : Nat → Nat} {la : Nat → Option Nat} : A_total c pl la (nI 0) = nI c := rfl
theorem A_total_1 {c : Nat} {pl : Nat → Nat} {la : Nat → Option Nat} : A_total c pl la (nI 1) = nI (ctT (fun _ => 1) pl la c) := rfl
theorem A_total_2 {c : Nat} {pl : Nat → Nat} {la : Nat → Option Nat} : A_total c pl la (nI 2) = nI (BR c pl la) := rfl
theorem A_total_3 {c : Nat} {pl : Nat → Nat} {la : Nat → Option Nat} : A_total c pl la (nI 3) = (if RDY c pl la = true then nI (SHR c pl la) else 0) := rfl
theorem A_total_x {c : Nat} {pl : Nat → Nat} {la : Nat → Option Nat} {x : Int32} (h : x ≠ nI 0 ∧ x ≠ nI 1 ∧ x ≠ nI 2 ∧ x ≠ nI 3) : A_total c pl la x = -1 := by
  unfold A_total
  rw [if_neg h.1, if_neg h.2.1, if_neg h.2.2.1, if_neg h.2.2.2]
def hv_rg {α : Type} (f : Nat → α) (a n : Nat) (v : α) : Nat → α := fun q => if a ≤ q ∧ q < a + n then v else f q
theorem hv_rg_0 {α : Type} {f : Nat → α} {a : Nat} {v : α} : hv_rg f a 0 v = f := by
  funext q
  unfold hv_rg
  rw [if_neg (by omega)]
theorem hv_rg_s {α : Type} {f : Nat → α} {a n : Nat} {v : α} : va_up (hv_rg f a n v) (a + n) v = hv_rg f a (n + 1) v := by
  funext q
  unfold va_up hv_rg
  by_cases e : q = a + n
  · rw [if_pos e, if_pos (by omega)]
  · rw [if_neg e]
    by_cases d : a ≤ q ∧ q < a + n
    · rw [if_pos d, if_pos (by omega)]
    · rw [if_neg d, if_neg (by omega)]
set_option maxRecDepth 100000 in
set_option maxHeartbeats 4000000 in
theorem c_K_total (l : Launch) (D : hv_D) (h : hv_P) (nx : Nat) {k c : Nat} {th : Int32} {pl : Nat → Nat} {la : Nat → Option Nat} {re im : Nat → Int32} (hS : kS h k th c pl la re im) (hN : netOK c pl la) (x : Int32) : hv_N l D M_K_total (hv_rm 1 26 0 0) [.ref k, .int x] h nx (hv_ans (some (.int (A_total c pl la x))) (fun h' n' => n' = nx ∧ kFr k h h' ∧ kS h' k (0) (c) (pl) (la) (re) (im))) := by
  refine hv_N.of' [some (.ref k), some (.int x), none, none, none] (by decide +kernel) rfl rfl rfl ?_
  have hc := hN.1
  obtain ⟨⟨op, sh, sp, tu, gc, my, so, sx, sr, si, hk⟩, h1, h2, h3, h4, ⟨f5, h5⟩, ⟨f6, h6⟩, ⟨f7, h7⟩, ⟨f8, h8⟩, ⟨f9, h9⟩, ⟨f10, h10⟩, ⟨f11, h11⟩, ⟨f12, h12⟩, ⟨f13, h13⟩, ⟨f14, h14⟩, ⟨f15, h15⟩, ⟨f16, h16⟩, ⟨f17, h17⟩, ⟨f18, h18⟩, ⟨f19, h19⟩⟩ := hS
  refine V_eqH (ob_4 hk h1 h2 h5) ?_
  refine V_aload_n d_K_total_0 rfl ?_
  refine V_iconst (0) d_K_total_1 rfl ?_
  refine V_put (e' := oK k (0) ((nI c)) (op) (sh) (sp) (tu) (gc) (my) (sr) (si) (so) (sx)) d_K_total_2 fp_K_69 (og_0) rfl rfl rfl rfl (ou_0) ?_
  refine V_iconst (nI 0) d_K_total_5 rfl ?_
  refine V_istore_2 d_K_total_6 rfl ?_
  refine V_iload_n d_K_total_7 rfl ?_
  rcases tot_cases x with rfl | rfl | rfl | rfl | hx
  · refine V_tableIn 40 d_K_total_8 (by decide) (by decide) rfl (by decide) ?_
    refine V_aload_n d_K_total_40 rfl ?_
    refine V_getfield d_K_total_41 fl_K_73 (og_0) rfl ?_
    exact V_ireturn d_K_total_44 rfl ⟨by rw [A_total_0], rfl, fun q hq => oz_4 (by omega) (by omega) (by omega) (by omega), ⟨⟨_, _, _, _, _, _, _, _, _, _, og_0⟩, (og_1 (by omega)), (og_2 (by omega) (by omega)), (oa_4 h3 (by omega) (by omega) (by omega) (by omega)), (oa_4 h4 (by omega) (by omega) (by omega) (by omega)), ⟨_, (og_3 (by omega) (by omega) (by omega))⟩, ⟨_, (oa_4 h6 (by omega) (by omega) (by omega) (by omega))⟩, ⟨_, (oa_4 h7 (by omega) (by omega) (by omega) (by omega))⟩, ⟨_, (oa_4 h8 (by omega) (by omega) (by omega) (by omega))⟩, ⟨_, (oa_4 h9 (by omega) (by omega) (by omega) (by omega))⟩, ⟨_, (oa_4 h10 (by omega) (by omega) (by omega) (by omega))⟩, ⟨_, (oa_4 h11 (by omega) (by omega) (by omega) (by omega))⟩, ⟨_, (oa_4 h12 (by omega) (by omega) (by omega) (by omega))⟩, ⟨_, (oa_4 h13 (by omega) (by omega) (by omega) (by omega))⟩, ⟨_, (oa_4 h14 (by omega) (by omega) (by omega) (by omega))⟩, ⟨_, (oa_4 h15 (by omega) (by omega) (by omega) (by omega))⟩, ⟨_, (oa_4 h16 (by omega) (by omega) (by omega) (by omega))⟩, ⟨_, (oa_4 h17 (by omega) (by omega) (by omega) (by omega))⟩, ⟨_, (oa_4 h18 (by omega) (by omega) (by omega) (by omega))⟩, ⟨_, (oa_4 h19 (by omega) (by omega) (by omega) (by omega))⟩⟩⟩
  · refine V_tableIn 45 d_K_total_8 (by decide) (by decide) rfl (by decide) ?_
    refine V_iconst (nI 0) d_K_total_45 rfl ?_
    refine V_istore_3 d_K_total_46 rfl ?_
    have lp1 : ∀ (kk t : Nat), kk = c - t → t ≤ c → hv_V l D M_K_total (fun _ _ => True) (hv_rm 1 26 0 0) (hv_ans (some (.int (A_total c pl la (nI 1)))) (fun h' n' => n' = nx ∧ kFr k h h' ∧ kS h' k (0) (c) (pl) (la) (re) (im))) 0 0 (hv_ov h [(k, oK k (0) ((nI c)) (op) (sh) (sp) (tu) (gc) (my) (sr) (si) (so) (sx)), (k + 1, eN 10 pl), (k + 2, eM 60 la), (k + 5, eN 10 f5)]) nx 47 [some (.ref k), some (.int (nI 1)), some (.int (nI (ctT (fun _ => 1) pl la t))), some (.int (nI t)), none] [] := by
      intro kk
      induction kk using Nat.strongRecOn with
      | ind kk ih =>
        intro t hkk hi
        refine V_iload_n d_K_total_47 rfl ?_
        refine V_aload_n d_K_total_48 rfl ?_
        refine V_getfield d_K_total_49 fl_K_73 (og_0) rfl ?_
        refine V_icmp_geN 70 d_K_total_52 (by decide) (by omega) (by omega) (fun ct => ?_) (fun ct => ?_)
        · refine V_iload_n d_K_total_70 rfl ?_
          exact V_ireturn d_K_total_71 rfl ⟨by rw [A_total_1, show t = c by omega], rfl, fun q hq => oz_4 (by omega) (by omega) (by omega) (by omega), ⟨⟨_, _, _, _, _, _, _, _, _, _, og_0⟩, (og_1 (by omega)), (og_2 (by omega) (by omega)), (oa_4 h3 (by omega) (by omega) (by omega) (by omega)), (oa_4 h4 (by omega) (by omega) (by omega) (by omega)), ⟨_, (og_3 (by omega) (by omega) (by omega))⟩, ⟨_, (oa_4 h6 (by omega) (by omega) (by omega) (by omega))⟩, ⟨_, (oa_4 h7 (by omega) (by omega) (by omega) (by omega))⟩, ⟨_, (oa_4 h8 (by omega) (by omega) (by omega) (by omega))⟩, ⟨_, (oa_4 h9 (by omega) (by omega) (by omega) (by omega))⟩, ⟨_, (oa_4 h10 (by omega) (by omega) (by omega) (by omega))⟩, ⟨_, (oa_4 h11 (by omega) (by omega) (by omega) (by omega))⟩, ⟨_, (oa_4 h12 (by omega) (by omega) (by omega) (by omega))⟩, ⟨_, (oa_4 h13 (by omega) (by omega) (by omega) (by omega))⟩, ⟨_, (oa_4 h14 (by omega) (by omega) (by omega) (by omega))⟩, ⟨_, (oa_4 h15 (by omega) (by omega) (by omega) (by omega))⟩, ⟨_, (oa_4 h16 (by omega) (by omega) (by omega) (by omega))⟩, ⟨_, (oa_4 h17 (by omega) (by omega) (by omega) (by omega))⟩, ⟨_, (oa_4 h18 (by omega) (by omega) (by omega) (by omega))⟩, ⟨_, (oa_4 h19 (by omega) (by omega) (by omega) (by omega))⟩⟩⟩
        · refine V_iload_n d_K_total_55 rfl ?_
          refine V_aload_n d_K_total_56 rfl ?_
          refine V_getfield d_K_total_57 fl_K_7 (og_0) rfl ?_
          refine V_iload_n d_K_total_60 rfl ?_
          refine V_iaload d_K_total_61 (og_1 (by omega)) ⟨rfl, by omega, by decide⟩ ?_
          refine V_iaddN d_K_total_62 ?_
          rw [show ctT (fun _ => 1) pl la t + pl t = ctT (fun _ => 1) pl la (t + 1) by simp only [ctT, ctP_one]]
          refine V_istore_2 d_K_total_63 rfl ?_
          refine V_iincN_3 1 d_K_total_64 rfl rfl ?_
          refine V_goto 47 d_K_total_67 (by decide) ?_
          exact ih (c - (t + 1)) (by omega) (t + 1) rfl (by omega)
    exact lp1 _ 0 rfl (Nat.zero_le _)
  · refine V_tableIn 72 d_K_total_8 (by decide) (by decide) rfl (by decide) ?_
    refine V_iconst (nI 0) d_K_total_72 rfl ?_
    refine V_istore_3 d_K_total_73 rfl ?_
    have lp2 : ∀ (kk t : Nat), kk = c - t → t ≤ c → hv_V l D M_K_total (fun _ _ => True) (hv_rm 1 26 0 0) (hv_ans (some (.int (A_total c pl la (nI 2)))) (fun h' n' => n' = nx ∧ kFr k h h' ∧ kS h' k (0) (c) (pl) (la) (re) (im))) 0 0 (hv_ov h [(k, oK k (0) ((nI c)) (op) (sh) (sp) (tu) (gc) (my) (sr) (si) (so) (sx)), (k + 1, eN 10 pl), (k + 2, eM 60 la), (k + 5, eN 10 f5)]) nx 74 [some (.ref k), some (.int (nI 2)), some (.int (nI (ctT f0_ pl la t))), some (.int (nI t)), none] [] := by
      intro kk
      induction kk using Nat.strongRecOn with
      | ind kk iho =>
        intro t hkk hi
        refine V_iload_n d_K_total_74 rfl ?_
        refine V_aload_n d_K_total_75 rfl ?_
        refine V_getfield d_K_total_76 fl_K_73 (og_0) rfl ?_
        refine V_icmp_geN 132 d_K_total_79 (by decide) (by omega) (by omega) (fun ct => ?_) (fun ct => ?_)
        · refine V_iload_n d_K_total_132 rfl ?_
          exact V_ireturn d_K_total_133 rfl ⟨by rw [A_total_2, show t = c by omega], rfl, fun q hq => oz_4 (by omega) (by omega) (by omega) (by omega), ⟨⟨_, _, _, _, _, _, _, _, _, _, og_0⟩, (og_1 (by omega)), (og_2 (by omega) (by omega)), (oa_4 h3 (by omega) (by omega) (by omega) (by omega)), (oa_4 h4 (by omega) (by omega) (by omega) (by omega)), ⟨_, (og_3 (by omega) (by omega) (by omega))⟩, ⟨_, (oa_4 h6 (by omega) (by omega) (by omega) (by omega))⟩, ⟨_, (oa_4 h7 (by omega) (by omega) (by omega) (by omega))⟩, ⟨_, (oa_4 h8 (by omega) (by omega) (by omega) (by omega))⟩, ⟨_, (oa_4 h9 (by omega) (by omega) (by omega) (by omega))⟩, ⟨_, (oa_4 h10 (by omega) (by omega) (by omega) (by omega))⟩, ⟨_, (oa_4 h11 (by omega) (by omega) (by omega) (by omega))⟩, ⟨_, (oa_4 h12 (by omega) (by omega) (by omega) (by omega))⟩, ⟨_, (oa_4 h13 (by omega) (by omega) (by omega) (by omega))⟩, ⟨_, (oa_4 h14 (by omega) (by omega) (by omega) (by omega))⟩, ⟨_, (oa_4 h15 (by omega) (by omega) (by omega) (by omega))⟩, ⟨_, (oa_4 h16 (by omega) (by omega) (by omega) (by omega))⟩, ⟨_, (oa_4 h17 (by omega) (by omega) (by omega) (by omega))⟩, ⟨_, (oa_4 h18 (by omega) (by omega) (by omega) (by omega))⟩, ⟨_, (oa_4 h19 (by omega) (by omega) (by omega) (by omega))⟩⟩⟩
        · refine V_iconst (nI 0) d_K_total_82 rfl ?_
          refine V_istore_4 d_K_total_83 rfl ?_
          have lp3 : ∀ (kk p : Nat), kk = (pl t) - p → p ≤ (pl t) → hv_V l D M_K_total (fun _ _ => True) (hv_rm 1 26 0 0) (hv_ans (some (.int (A_total c pl la (nI 2)))) (fun h' n' => n' = nx ∧ kFr k h h' ∧ kS h' k (0) (c) (pl) (la) (re) (im))) 0 0 (hv_ov h [(k, oK k (0) ((nI c)) (op) (sh) (sp) (tu) (gc) (my) (sr) (si) (so) (sx)), (k + 1, eN 10 pl), (k + 2, eM 60 la), (k + 5, eN 10 f5)]) nx 85 [some (.ref k), some (.int (nI 2)), some (.int (nI (ctT f0_ pl la t + ctP f0_ (fun p => la (6 * t + p)) p))), some (.int (nI t)), some (.int (nI p))] [] := by
            intro kk
            induction kk using Nat.strongRecOn with
            | ind kk ih =>
              intro p hkk hi
              refine V_iload d_K_total_85 rfl ?_
              refine V_aload_n d_K_total_87 rfl ?_
              refine V_getfield d_K_total_88 fl_K_7 (og_0) rfl ?_
              refine V_iload_n d_K_total_91 rfl ?_
              refine V_iaload d_K_total_92 (og_1 (by omega)) ⟨rfl, by omega, by decide⟩ ?_
              refine V_icmp_geN 126 d_K_total_93 (by decide) (by have := hN.2.1 t (by omega); omega) (by have := hN.2.1 t (by omega); omega) (fun cp => ?_) (fun cp => ?_)
              · have ep : p = pl t := by omega
                subst ep
                have J := iho (c - (t + 1)) (by omega) (t + 1) rfl (by omega)
                refine V_iincN_3 1 d_K_total_126 rfl rfl ?_
                refine V_goto 74 d_K_total_129 (by decide) ?_
                refine V_drop_4 ?_
                exact J
              · have hp6 := hN.2.1 t (by omega)
                refine V_iload_n d_K_total_96 rfl ?_
                refine V_aload_n d_K_total_97 rfl ?_
                refine V_getfield d_K_total_98 fl_K_13 (og_0) rfl ?_
                refine V_bipush (nI 6) d_K_total_101 rfl ?_
                refine V_iload_n d_K_total_103 rfl ?_
                refine V_imulN d_K_total_104 ?_
                refine V_iload d_K_total_105 rfl ?_
                refine V_iaddN d_K_total_107 ?_
                refine V_iaload d_K_total_108 (og_2 (by omega) (by omega)) ⟨rfl, by omega, by decide⟩ ?_
                rcases hn : la (6 * t + p) with _ | m
                · refine V_iconst (-1) d_K_total_109 rfl ?_
                  refine V_icmp_ne 117 d_K_total_110 (by decide) (fun q => absurd rfl q) (fun _ => ?_)
                  refine V_iconst (nI 1) d_K_total_113 rfl ?_
                  refine V_goto 118 d_K_total_114 (by decide) ?_
                  refine V_iaddN d_K_total_118 ?_
                  rw [show ctT f0_ pl la t + ctP f0_ (fun p => la (6 * t + p)) p + 1 = ctT f0_ pl la t + ctP f0_ (fun p => la (6 * t + p)) (p + 1) by simp only [ctP, hn]; rfl]
                  refine V_istore_2 d_K_total_119 rfl ?_
                  refine V_iincN_4 1 d_K_total_120 rfl rfl ?_
                  refine V_goto 85 d_K_total_123 (by decide) ?_
                  exact ih (pl t - (p + 1)) (by omega) (p + 1) rfl (by omega)
                · refine V_iconst (-1) d_K_total_109 rfl ?_
                  refine V_icmp_ne 117 d_K_total_110 (by decide) (fun _ => ?_) (fun q => absurd q (en_ne (hN.2.2.1 _ m (by omega) hn)))
                  refine V_iconst (nI 0) d_K_total_117 rfl ?_
                  refine V_iaddN d_K_total_118 ?_
                  rw [show ctT f0_ pl la t + ctP f0_ (fun p => la (6 * t + p)) p + 0 = ctT f0_ pl la t + ctP f0_ (fun p => la (6 * t + p)) (p + 1) by simp only [ctP, hn]; rfl]
                  refine V_istore_2 d_K_total_119 rfl ?_
                  refine V_iincN_4 1 d_K_total_120 rfl rfl ?_
                  refine V_goto 85 d_K_total_123 (by decide) ?_
                  exact ih (pl t - (p + 1)) (by omega) (p + 1) rfl (by omega)
          exact lp3 _ 0 rfl (Nat.zero_le _)
    exact lp2 _ 0 rfl (Nat.zero_le _)
  · refine V_tableIn 134 d_K_total_8 (by decide) (by decide) rfl (by decide) ?_
    refine V_aload_n d_K_total_134 rfl ?_
    refine V_callV1 d_K_total_135 ml_K_90 mB_K_isReady mi_K_isReady mv_K_isReady rfl og_0 (c_K_isReady l D _ _ og_0 (og_1 (by omega)) (og_2 (by omega) (by omega)) (og_3 (by omega) (by omega) (by omega)) hN.1 hN.2.1 hN.2.2.1) rfl rfl rfl rfl rfl rfl rfl ?_
    rintro _ _ ⟨rfl, e9⟩
    have e9 := e9.symm
    subst e9
    rw [ox_4, ou_3 (by omega) (by omega) (by omega), ou_2 (by omega) (by omega), ou_1 (by omega), ou_0]
    refine V_if_eq 148 d_K_total_138 (by decide) (fun c9 => ?_) (fun c9 => ?_)
    · have hr := rdy_f c9
      refine V_iconst (0) d_K_total_148 rfl ?_
      exact V_ireturn d_K_total_149 rfl ⟨by rw [A_total_3]; first | (rw [if_pos hr]; rfl) | rw [if_neg (by rw [hr]; decide)], rfl, fun q hq => oz_4 (by omega) (by omega) (by omega) (by omega), ⟨⟨_, _, _, _, _, _, _, _, _, _, og_0⟩, (og_1 (by omega)), (og_2 (by omega) (by omega)), (oa_4 h3 (by omega) (by omega) (by omega) (by omega)), (oa_4 h4 (by omega) (by omega) (by omega) (by omega)), ⟨_, (og_3 (by omega) (by omega) (by omega))⟩, ⟨_, (oa_4 h6 (by omega) (by omega) (by omega) (by omega))⟩, ⟨_, (oa_4 h7 (by omega) (by omega) (by omega) (by omega))⟩, ⟨_, (oa_4 h8 (by omega) (by omega) (by omega) (by omega))⟩, ⟨_, (oa_4 h9 (by omega) (by omega) (by omega) (by omega))⟩, ⟨_, (oa_4 h10 (by omega) (by omega) (by omega) (by omega))⟩, ⟨_, (oa_4 h11 (by omega) (by omega) (by omega) (by omega))⟩, ⟨_, (oa_4 h12 (by omega) (by omega) (by omega) (by omega))⟩, ⟨_, (oa_4 h13 (by omega) (by omega) (by omega) (by omega))⟩, ⟨_, (oa_4 h14 (by omega) (by omega) (by omega) (by omega))⟩, ⟨_, (oa_4 h15 (by omega) (by omega) (by omega) (by omega))⟩, ⟨_, (oa_4 h16 (by omega) (by omega) (by omega) (by omega))⟩, ⟨_, (oa_4 h17 (by omega) (by omega) (by omega) (by omega))⟩, ⟨_, (oa_4 h18 (by omega) (by omega) (by omega) (by omega))⟩, ⟨_, (oa_4 h19 (by omega) (by omega) (by omega) (by omega))⟩⟩⟩
    · have hr := rdy_t c9
      refine V_aload_n d_K_total_141 rfl ?_
      refine V_getfield d_K_total_142 fl_K_87 (og_0) rfl ?_
      refine V_goto 149 d_K_total_145 (by decide) ?_
      exact V_ireturn d_K_total_149 rfl ⟨by rw [A_total_3]; first | (rw [if_pos hr]; rfl) | rw [if_neg (by rw [hr]; decide)], rfl, fun q hq => oz_4 (by omega) (by omega) (by omega) (by omega), ⟨⟨_, _, _, _, _, _, _, _, _, _, og_0⟩, (og_1 (by omega)), (og_2 (by omega) (by omega)), (oa_4 h3 (by omega) (by omega) (by omega) (by omega)), (oa_4 h4 (by omega) (by omega) (by omega) (by omega)), ⟨_, (og_3 (by omega) (by omega) (by omega))⟩, ⟨_, (oa_4 h6 (by omega) (by omega) (by omega) (by omega))⟩, ⟨_, (oa_4 h7 (by omega) (by omega) (by omega) (by omega))⟩, ⟨_, (oa_4 h8 (by omega) (by omega) (by omega) (by omega))⟩, ⟨_, (oa_4 h9 (by omega) (by omega) (by omega) (by omega))⟩, ⟨_, (oa_4 h10 (by omega) (by omega) (by omega) (by omega))⟩, ⟨_, (oa_4 h11 (by omega) (by omega) (by omega) (by omega))⟩, ⟨_, (oa_4 h12 (by omega) (by omega) (by omega) (by omega))⟩, ⟨_, (oa_4 h13 (by omega) (by omega) (by omega) (by omega))⟩, ⟨_, (oa_4 h14 (by omega) (by omega) (by omega) (by omega))⟩, ⟨_, (oa_4 h15 (by omega) (by omega) (by omega) (by omega))⟩, ⟨_, (oa_4 h16 (by omega) (by omega) (by omega) (by omega))⟩, ⟨_, (oa_4 h17 (by omega) (by omega) (by omega) (by omega))⟩, ⟨_, (oa_4 h18 (by omega) (by omega) (by omega) (by omega))⟩, ⟨_, (oa_4 h19 (by omega) (by omega) (by omega) (by omega))⟩⟩⟩
  · refine V_tableOut 150 d_K_total_8 hx.1 (by decide) ?_
    refine V_iconst (-1) d_K_total_150 rfl ?_
    exact V_ireturn d_K_total_151 rfl ⟨by rw [A_total_x hx.2], rfl, fun q hq => oz_4 (by omega) (by omega) (by omega) (by omega), ⟨⟨_, _, _, _, _, _, _, _, _, _, og_0⟩, (og_1 (by omega)), (og_2 (by omega) (by omega)), (oa_4 h3 (by omega) (by omega) (by omega) (by omega)), (oa_4 h4 (by omega) (by omega) (by omega) (by omega)), ⟨_, (og_3 (by omega) (by omega) (by omega))⟩, ⟨_, (oa_4 h6 (by omega) (by omega) (by omega) (by omega))⟩, ⟨_, (oa_4 h7 (by omega) (by omega) (by omega) (by omega))⟩, ⟨_, (oa_4 h8 (by omega) (by omega) (by omega) (by omega))⟩, ⟨_, (oa_4 h9 (by omega) (by omega) (by omega) (by omega))⟩, ⟨_, (oa_4 h10 (by omega) (by omega) (by omega) (by omega))⟩, ⟨_, (oa_4 h11 (by omega) (by omega) (by omega) (by omega))⟩, ⟨_, (oa_4 h12 (by omega) (by omega) (by omega) (by omega))⟩, ⟨_, (oa_4 h13 (by omega) (by omega) (by omega) (by omega))⟩, ⟨_, (oa_4 h14 (by omega) (by omega) (by omega) (by omega))⟩, ⟨_, (oa_4 h15 (by omega) (by omega) (by omega) (by omega))⟩, ⟨_, (oa_4 h16 (by omega) (by omega) (by omega) (by omega))⟩, ⟨_, (oa_4 h17 (by omega) (by omega) (by omega) (by omega))⟩, ⟨_, (oa_4 h18 (by omega) (by omega) (by omega) (by omega))⟩, ⟨_, (oa_4 h19 (by omega) (by omega) (by omega) (by omega))⟩⟩⟩

set_option maxRecDepth 100000 in
set_option maxHeartbeats 4000000 in
theorem c_K_clearS (l : Launch) (D : hv_D) (h : hv_P) (nx : Nat) {k c : Nat} {th : Int32} {pl : Nat → Nat} {la : Nat → Option Nat} {re im : Nat → Int32} (hS : kS h k th c pl la re im) (hN : netOK c pl la) : hv_N l D M_K_clear (hv_rm 0 0 0 0) [.ref k] h nx (hv_ans none (fun h' n' => n' = nx ∧ kFr k h h' ∧ kS h' k (0) (0) (pl) (la) (re) (im))) := by
  refine hv_N.of' [some (.ref k)] (by decide +kernel) rfl rfl rfl ?_
  obtain ⟨⟨op, sh, sp, tu, gc, my, so, sx, sr, si, hk⟩, h1, h2, h3, h4, ⟨f5, h5⟩, ⟨f6, h6⟩, ⟨f7, h7⟩, ⟨f8, h8⟩, ⟨f9, h9⟩, ⟨f10, h10⟩, ⟨f11, h11⟩, ⟨f12, h12⟩, ⟨f13, h13⟩, ⟨f14, h14⟩, ⟨f15, h15⟩, ⟨f16, h16⟩, ⟨f17, h17⟩, ⟨f18, h18⟩, ⟨f19, h19⟩⟩ := hS
  refine V_eqH (ob_1 hk ) ?_
  refine V_aload_n d_K_clear_0 rfl ?_
  refine V_iconst (0) d_K_clear_1 rfl ?_
  refine V_put (e' := oK k (0) ((nI c)) (op) (sh) (sp) (tu) (gc) (my) (sr) (si) (so) (sx)) d_K_clear_2 fp_K_69 (og_0) rfl rfl rfl rfl (ou_0) ?_
  refine V_aload_n d_K_clear_5 rfl ?_
  refine V_iconst (nI 0) d_K_clear_6 rfl ?_
  refine V_put (e' := oK k (0) (nI 0) (op) (sh) (sp) (tu) (gc) (my) (sr) (si) (so) (sx)) d_K_clear_7 fp_K_73 (og_0) rfl rfl rfl rfl (ou_0) ?_
  exact V_return d_K_clear_10 rfl ⟨rfl, rfl, fun q hq => oz_1 (by omega), ⟨⟨_, _, _, _, _, _, _, _, _, _, og_0⟩, (oa_1 h1 (by omega)), (oa_1 h2 (by omega)), (oa_1 h3 (by omega)), (oa_1 h4 (by omega)), ⟨_, (oa_1 h5 (by omega))⟩, ⟨_, (oa_1 h6 (by omega))⟩, ⟨_, (oa_1 h7 (by omega))⟩, ⟨_, (oa_1 h8 (by omega))⟩, ⟨_, (oa_1 h9 (by omega))⟩, ⟨_, (oa_1 h10 (by omega))⟩, ⟨_, (oa_1 h11 (by omega))⟩, ⟨_, (oa_1 h12 (by omega))⟩, ⟨_, (oa_1 h13 (by omega))⟩, ⟨_, (oa_1 h14 (by omega))⟩, ⟨_, (oa_1 h15 (by omega))⟩, ⟨_, (oa_1 h16 (by omega))⟩, ⟨_, (oa_1 h17 (by omega))⟩, ⟨_, (oa_1 h18 (by omega))⟩, ⟨_, (oa_1 h19 (by omega))⟩⟩⟩

set_option maxRecDepth 100000 in
set_option maxHeartbeats 4000000 in
theorem c_K_tensor1 (l : Launch) (D : hv_D) (h : hv_P) (nx : Nat) {k c : Nat} {th : Int32} {pl : Nat → Nat} {la : Nat → Option Nat} {re im : Nat → Int32} (hS : kS h k th c pl la re im) (hN : netOK c pl la) {x : Nat} (hx : x ≤ 6) (hc : c < 10) : hv_N l D M_K_tensor (hv_rm 0 0 0 0) [.ref k, .int (nI x)] h nx (hv_ans (some (.int (nI c))) (fun h' n' => n' = nx ∧ kFr k h h' ∧ kS h' k (0) (c + 1) (va_up pl c x) (hv_rg la (6 * c) 6 none) (hv_rg re (64 * c) 64 0) (hv_rg im (64 * c) 64 0))) := by
  refine hv_N.of' [some (.ref k), some (.int (nI x)), none] (by decide +kernel) rfl rfl rfl ?_
  obtain ⟨⟨op, sh, sp, tu, gc, my, so, sx, sr, si, hk⟩, h1, h2, h3, h4, ⟨f5, h5⟩, ⟨f6, h6⟩, ⟨f7, h7⟩, ⟨f8, h8⟩, ⟨f9, h9⟩, ⟨f10, h10⟩, ⟨f11, h11⟩, ⟨f12, h12⟩, ⟨f13, h13⟩, ⟨f14, h14⟩, ⟨f15, h15⟩, ⟨f16, h16⟩, ⟨f17, h17⟩, ⟨f18, h18⟩, ⟨f19, h19⟩⟩ := hS
  have lp2 : ∀ (kk i : Nat), kk = 64 - i → i ≤ 64 → hv_V l D M_K_tensor (fun _ _ => True) (hv_rm 0 0 0 0) (hv_ans (some (.int (nI c))) (fun h' n' => n' = nx ∧ kFr k h h' ∧ kS h' k (0) (c + 1) (va_up pl c x) (hv_rg la (6 * c) 6 none) (hv_rg re (64 * c) 64 0) (hv_rg im (64 * c) 64 0))) 0 0 (hv_ov h [(k, oK k (0) ((nI c)) (op) (sh) (sp) (tu) (gc) (my) (sr) (si) (so) (sx)), (k + 1, eN 10 (va_up pl c x)), (k + 2, eM 60 (hv_rg la (6 * c) 6 none)), (k + 3, eI 640 (hv_rg re (64 * c) i 0)), (k + 4, eI 640 (hv_rg im (64 * c) i 0))]) nx 67 [some (.ref k), some (.int (nI x)), some (.int (nI i))] [] := by
    intro kk
    induction kk using Nat.strongRecOn with
    | ind kk ih =>
      intro i hkk hi
      refine V_iload_n d_K_tensor_67 rfl ?_
      refine V_bipush (nI 64) d_K_tensor_68 rfl ?_
      refine V_icmp_geN 109 d_K_tensor_70 (by decide) (by omega) (by decide) (fun ci => ?_) (fun ci => ?_)
      · have ei : i = 64 := by omega
        subst ei
        refine V_aload_n d_K_tensor_109 rfl ?_
        refine V_dup d_K_tensor_110 rfl ?_
        refine V_getfield d_K_tensor_111 fl_K_73 (og_0) rfl ?_
        refine V_iconst (nI 1) d_K_tensor_114 rfl ?_
        refine V_iaddN d_K_tensor_115 ?_
        refine V_put (e' := oK k (0) (nI (c + 1)) (op) (sh) (sp) (tu) (gc) (my) (sr) (si) (so) (sx)) d_K_tensor_116 fp_K_73 (og_0) rfl rfl rfl rfl (ou_0) ?_
        refine V_aload_n d_K_tensor_119 rfl ?_
        refine V_getfield d_K_tensor_120 fl_K_73 (og_0) rfl ?_
        refine V_iconst (nI 1) d_K_tensor_123 rfl ?_
        refine V_isubN d_K_tensor_124 (by omega) ?_
        exact V_ireturn d_K_tensor_125 rfl ⟨by rw [Nat.add_sub_cancel], rfl, fun q hq => oz_5 (by omega) (by omega) (by omega) (by omega) (by omega), ⟨⟨_, _, _, _, _, _, _, _, _, _, og_0⟩, (og_1 (by omega)), (og_2 (by omega) (by omega)), (og_3 (by omega) (by omega) (by omega)), (og_4 (by omega) (by omega) (by omega) (by omega)), ⟨_, (oa_5 h5 (by omega) (by omega) (by omega) (by omega) (by omega))⟩, ⟨_, (oa_5 h6 (by omega) (by omega) (by omega) (by omega) (by omega))⟩, ⟨_, (oa_5 h7 (by omega) (by omega) (by omega) (by omega) (by omega))⟩, ⟨_, (oa_5 h8 (by omega) (by omega) (by omega) (by omega) (by omega))⟩, ⟨_, (oa_5 h9 (by omega) (by omega) (by omega) (by omega) (by omega))⟩, ⟨_, (oa_5 h10 (by omega) (by omega) (by omega) (by omega) (by omega))⟩, ⟨_, (oa_5 h11 (by omega) (by omega) (by omega) (by omega) (by omega))⟩, ⟨_, (oa_5 h12 (by omega) (by omega) (by omega) (by omega) (by omega))⟩, ⟨_, (oa_5 h13 (by omega) (by omega) (by omega) (by omega) (by omega))⟩, ⟨_, (oa_5 h14 (by omega) (by omega) (by omega) (by omega) (by omega))⟩, ⟨_, (oa_5 h15 (by omega) (by omega) (by omega) (by omega) (by omega))⟩, ⟨_, (oa_5 h16 (by omega) (by omega) (by omega) (by omega) (by omega))⟩, ⟨_, (oa_5 h17 (by omega) (by omega) (by omega) (by omega) (by omega))⟩, ⟨_, (oa_5 h18 (by omega) (by omega) (by omega) (by omega) (by omega))⟩, ⟨_, (oa_5 h19 (by omega) (by omega) (by omega) (by omega) (by omega))⟩⟩⟩
      · refine V_aload_n d_K_tensor_73 rfl ?_
        refine V_getfield d_K_tensor_74 fl_K_16 (og_0) rfl ?_
        refine V_bipush (nI 64) d_K_tensor_77 rfl ?_
        refine V_aload_n d_K_tensor_79 rfl ?_
        refine V_getfield d_K_tensor_80 fl_K_73 (og_0) rfl ?_
        refine V_imulN d_K_tensor_83 ?_
        refine V_iload_n d_K_tensor_84 rfl ?_
        refine V_iaddN d_K_tensor_85 ?_
        refine V_iconst (0) d_K_tensor_86 rfl ?_
        refine V_ist d_K_tensor_87 (og_3 (by omega) (by omega) (by omega)) ⟨rfl, by omega, by decide⟩ (h' := hv_ov h [(k, oK k (0) ((nI c)) (op) (sh) (sp) (tu) (gc) (my) (sr) (si) (so) (sx)), (k + 1, eN 10 (va_up pl c x)), (k + 2, eM 60 (hv_rg la (6 * c) 6 none)), (k + 3, eI 640 (hv_rg re (64 * c) (i + 1) 0)), (k + 4, eI 640 (hv_rg im (64 * c) i 0))]) (by rw [hv_rg_s]; exact ou_3 (by omega) (by omega) (by omega)) ?_
        refine V_aload_n d_K_tensor_88 rfl ?_
        refine V_getfield d_K_tensor_89 fl_K_19 (og_0) rfl ?_
        refine V_bipush (nI 64) d_K_tensor_92 rfl ?_
        refine V_aload_n d_K_tensor_94 rfl ?_
        refine V_getfield d_K_tensor_95 fl_K_73 (og_0) rfl ?_
        refine V_imulN d_K_tensor_98 ?_
        refine V_iload_n d_K_tensor_99 rfl ?_
        refine V_iaddN d_K_tensor_100 ?_
        refine V_iconst (0) d_K_tensor_101 rfl ?_
        refine V_ist d_K_tensor_102 (og_4 (by omega) (by omega) (by omega) (by omega)) ⟨rfl, by omega, by decide⟩ (h' := hv_ov h [(k, oK k (0) ((nI c)) (op) (sh) (sp) (tu) (gc) (my) (sr) (si) (so) (sx)), (k + 1, eN 10 (va_up pl c x)), (k + 2, eM 60 (hv_rg la (6 * c) 6 none)), (k + 3, eI 640 (hv_rg re (64 * c) (i + 1) 0)), (k + 4, eI 640 (hv_rg im (64 * c) (i + 1) 0))]) (by rw [hv_rg_s]; exact ou_4 (by omega) (by omega) (by omega) (by omega)) ?_
        refine V_iincN_2 1 d_K_tensor_103 rfl rfl ?_
        refine V_goto 67 d_K_tensor_106 (by decide) ?_
        exact ih (64 - (i + 1)) (by omega) (i + 1) rfl (by omega)
  have lp1 : ∀ (kk i : Nat), kk = 6 - i → i ≤ 6 → hv_V l D M_K_tensor (fun _ _ => True) (hv_rm 0 0 0 0) (hv_ans (some (.int (nI c))) (fun h' n' => n' = nx ∧ kFr k h h' ∧ kS h' k (0) (c + 1) (va_up pl c x) (hv_rg la (6 * c) 6 none) (hv_rg re (64 * c) 64 0) (hv_rg im (64 * c) 64 0))) 0 0 (hv_ov h [(k, oK k (0) ((nI c)) (op) (sh) (sp) (tu) (gc) (my) (sr) (si) (so) (sx)), (k + 1, eN 10 (va_up pl c x)), (k + 2, eM 60 (hv_rg la (6 * c) i none)), (k + 3, eI 640 (re)), (k + 4, eI 640 (im))]) nx 38 [some (.ref k), some (.int (nI x)), some (.int (nI i))] [] := by
    intro kk
    induction kk using Nat.strongRecOn with
    | ind kk ih =>
      intro i hkk hi
      refine V_iload_n d_K_tensor_38 rfl ?_
      refine V_bipush (nI 6) d_K_tensor_39 rfl ?_
      refine V_icmp_geN 65 d_K_tensor_41 (by decide) (by omega) (by decide) (fun ci => ?_) (fun ci => ?_)
      · have ei : i = 6 := by omega
        subst ei
        refine V_iconst (nI 0) d_K_tensor_65 rfl ?_
        refine V_istore_2 d_K_tensor_66 rfl ?_
        have J := lp2 _ 0 rfl (Nat.zero_le _)
        rw [hv_rg_0, hv_rg_0] at J
        exact J
      · refine V_aload_n d_K_tensor_44 rfl ?_
        refine V_getfield d_K_tensor_45 fl_K_13 (og_0) rfl ?_
        refine V_bipush (nI 6) d_K_tensor_48 rfl ?_
        refine V_aload_n d_K_tensor_50 rfl ?_
        refine V_getfield d_K_tensor_51 fl_K_73 (og_0) rfl ?_
        refine V_imulN d_K_tensor_54 ?_
        refine V_iload_n d_K_tensor_55 rfl ?_
        refine V_iaddN d_K_tensor_56 ?_
        refine V_iconst (en_ none) d_K_tensor_57 rfl ?_
        refine V_ist d_K_tensor_58 (og_2 (by omega) (by omega)) ⟨rfl, by omega, by decide⟩ (h' := hv_ov h [(k, oK k (0) ((nI c)) (op) (sh) (sp) (tu) (gc) (my) (sr) (si) (so) (sx)), (k + 1, eN 10 (va_up pl c x)), (k + 2, eM 60 (hv_rg la (6 * c) (i + 1) none)), (k + 3, eI 640 (re)), (k + 4, eI 640 (im))]) (by rw [en_up, hv_rg_s]; exact ou_2 (by omega) (by omega)) ?_
        refine V_iincN_2 1 d_K_tensor_59 rfl rfl ?_
        refine V_goto 38 d_K_tensor_62 (by decide) ?_
        exact ih (6 - (i + 1)) (by omega) (i + 1) rfl (by omega)
  refine V_eqH (ob_5 hk h1 h2 h3 h4) ?_
  refine V_aload_n d_K_tensor_0 rfl ?_
  refine V_iconst (0) d_K_tensor_1 rfl ?_
  refine V_put (e' := oK k (0) ((nI c)) (op) (sh) (sp) (tu) (gc) (my) (sr) (si) (so) (sx)) d_K_tensor_2 fp_K_69 (og_0) rfl rfl rfl rfl (ou_0) ?_
  refine V_iload_n d_K_tensor_5 rfl ?_
  refine V_if_lt 24 d_K_tensor_6 (by decide) (fun q => absurd q (by rw [nI_lt0 (by omega)]; exact not_false)) (fun _ => ?_)
  refine V_iload_n d_K_tensor_9 rfl ?_
  refine V_bipush (nI 6) d_K_tensor_10 rfl ?_
  refine V_icmp_gtN 24 d_K_tensor_12 (by decide) (by omega) (by decide) (fun q => by exfalso; omega) (fun _ => ?_)
  refine V_aload_n d_K_tensor_15 rfl ?_
  refine V_getfield d_K_tensor_16 fl_K_73 (og_0) rfl ?_
  refine V_bipush (nI 10) d_K_tensor_19 rfl ?_
  refine V_icmp_neN 26 d_K_tensor_21 (by decide) (by omega) (by decide) (fun _ => ?_) (fun q => by exfalso; omega)
  refine V_aload_n d_K_tensor_26 rfl ?_
  refine V_getfield d_K_tensor_27 fl_K_7 (og_0) rfl ?_
  refine V_aload_n d_K_tensor_30 rfl ?_
  refine V_getfield d_K_tensor_31 fl_K_73 (og_0) rfl ?_
  refine V_iload_n d_K_tensor_34 rfl ?_
  refine V_istN d_K_tensor_35 (og_1 (by omega)) ⟨rfl, by omega, by decide⟩ (ou_1 (by omega)) ?_
  refine V_iconst (nI 0) d_K_tensor_36 rfl ?_
  refine V_istore_2 d_K_tensor_37 rfl ?_
  have J := lp1 _ 0 rfl (Nat.zero_le _)
  rw [hv_rg_0] at J
  exact J

set_option maxRecDepth 100000 in
set_option maxHeartbeats 4000000 in
theorem c_K_tensor0 (l : Launch) (D : hv_D) (h : hv_P) (nx : Nat) {k c : Nat} {th : Int32} {pl : Nat → Nat} {la : Nat → Option Nat} {re im : Nat → Int32} (hS : kS h k th c pl la re im) (hN : netOK c pl la) {x : Int32} (hx : ¬ (¬ x < 0 ∧ ¬ 6 < x ∧ c < 10)) : hv_N l D M_K_tensor (hv_rm 0 0 0 0) [.ref k, .int x] h nx (hv_ans (some (.int (-1))) (fun h' n' => n' = nx ∧ kFr k h h' ∧ kS h' k (0) (c) (pl) (la) (re) (im))) := by
  refine hv_N.of' [some (.ref k), some (.int x), none] (by decide +kernel) rfl rfl rfl ?_
  have hc := hN.1
  obtain ⟨⟨op, sh, sp, tu, gc, my, so, sx, sr, si, hk⟩, h1, h2, h3, h4, ⟨f5, h5⟩, ⟨f6, h6⟩, ⟨f7, h7⟩, ⟨f8, h8⟩, ⟨f9, h9⟩, ⟨f10, h10⟩, ⟨f11, h11⟩, ⟨f12, h12⟩, ⟨f13, h13⟩, ⟨f14, h14⟩, ⟨f15, h15⟩, ⟨f16, h16⟩, ⟨f17, h17⟩, ⟨f18, h18⟩, ⟨f19, h19⟩⟩ := hS
  refine V_eqH (ob_1 hk ) ?_
  refine V_aload_n d_K_tensor_0 rfl ?_
  refine V_iconst (0) d_K_tensor_1 rfl ?_
  refine V_put (e' := oK k (0) ((nI c)) (op) (sh) (sp) (tu) (gc) (my) (sr) (si) (so) (sx)) d_K_tensor_2 fp_K_69 (og_0) rfl rfl rfl rfl (ou_0) ?_
  refine V_iload_n d_K_tensor_5 rfl ?_
  refine V_if_lt 24 d_K_tensor_6 (by decide) (fun c6 => ?_) (fun c6 => ?_)
  · refine V_iconst (-1) d_K_tensor_24 rfl ?_
    exact V_ireturn d_K_tensor_25 rfl ⟨rfl, rfl, fun q hq => oz_1 (by omega), ⟨⟨_, _, _, _, _, _, _, _, _, _, og_0⟩, (oa_1 h1 (by omega)), (oa_1 h2 (by omega)), (oa_1 h3 (by omega)), (oa_1 h4 (by omega)), ⟨_, (oa_1 h5 (by omega))⟩, ⟨_, (oa_1 h6 (by omega))⟩, ⟨_, (oa_1 h7 (by omega))⟩, ⟨_, (oa_1 h8 (by omega))⟩, ⟨_, (oa_1 h9 (by omega))⟩, ⟨_, (oa_1 h10 (by omega))⟩, ⟨_, (oa_1 h11 (by omega))⟩, ⟨_, (oa_1 h12 (by omega))⟩, ⟨_, (oa_1 h13 (by omega))⟩, ⟨_, (oa_1 h14 (by omega))⟩, ⟨_, (oa_1 h15 (by omega))⟩, ⟨_, (oa_1 h16 (by omega))⟩, ⟨_, (oa_1 h17 (by omega))⟩, ⟨_, (oa_1 h18 (by omega))⟩, ⟨_, (oa_1 h19 (by omega))⟩⟩⟩
  · refine V_iload_n d_K_tensor_9 rfl ?_
    refine V_bipush (6) d_K_tensor_10 rfl ?_
    refine V_icmp_gt 24 d_K_tensor_12 (by decide) (fun c12 => ?_) (fun c12 => ?_)
    · refine V_iconst (-1) d_K_tensor_24 rfl ?_
      exact V_ireturn d_K_tensor_25 rfl ⟨rfl, rfl, fun q hq => oz_1 (by omega), ⟨⟨_, _, _, _, _, _, _, _, _, _, og_0⟩, (oa_1 h1 (by omega)), (oa_1 h2 (by omega)), (oa_1 h3 (by omega)), (oa_1 h4 (by omega)), ⟨_, (oa_1 h5 (by omega))⟩, ⟨_, (oa_1 h6 (by omega))⟩, ⟨_, (oa_1 h7 (by omega))⟩, ⟨_, (oa_1 h8 (by omega))⟩, ⟨_, (oa_1 h9 (by omega))⟩, ⟨_, (oa_1 h10 (by omega))⟩, ⟨_, (oa_1 h11 (by omega))⟩, ⟨_, (oa_1 h12 (by omega))⟩, ⟨_, (oa_1 h13 (by omega))⟩, ⟨_, (oa_1 h14 (by omega))⟩, ⟨_, (oa_1 h15 (by omega))⟩, ⟨_, (oa_1 h16 (by omega))⟩, ⟨_, (oa_1 h17 (by omega))⟩, ⟨_, (oa_1 h18 (by omega))⟩, ⟨_, (oa_1 h19 (by omega))⟩⟩⟩
    · refine V_aload_n d_K_tensor_15 rfl ?_
      refine V_getfield d_K_tensor_16 fl_K_73 (og_0) rfl ?_
      refine V_bipush (nI 10) d_K_tensor_19 rfl ?_
      refine V_icmp_neN 26 d_K_tensor_21 (by decide) (by omega) (by decide) (fun c21 => ?_) (fun c21 => ?_)
      · exact absurd ⟨c6, c12, by omega⟩ hx
      · refine V_iconst (-1) d_K_tensor_24 rfl ?_
        exact V_ireturn d_K_tensor_25 rfl ⟨rfl, rfl, fun q hq => oz_1 (by omega), ⟨⟨_, _, _, _, _, _, _, _, _, _, og_0⟩, (oa_1 h1 (by omega)), (oa_1 h2 (by omega)), (oa_1 h3 (by omega)), (oa_1 h4 (by omega)), ⟨_, (oa_1 h5 (by omega))⟩, ⟨_, (oa_1 h6 (by omega))⟩, ⟨_, (oa_1 h7 (by omega))⟩, ⟨_, (oa_1 h8 (by omega))⟩, ⟨_, (oa_1 h9 (by omega))⟩, ⟨_, (oa_1 h10 (by omega))⟩, ⟨_, (oa_1 h11 (by omega))⟩, ⟨_, (oa_1 h12 (by omega))⟩, ⟨_, (oa_1 h13 (by omega))⟩, ⟨_, (oa_1 h14 (by omega))⟩, ⟨_, (oa_1 h15 (by omega))⟩, ⟨_, (oa_1 h16 (by omega))⟩, ⟨_, (oa_1 h17 (by omega))⟩, ⟨_, (oa_1 h18 (by omega))⟩, ⟨_, (oa_1 h19 (by omega))⟩⟩⟩

abbrev idxV (c : Nat) (pl : Nat → Nat) (t x : Int32) : Prop := (¬ t < 0 ∧ ¬ nI c ≤ t) ∧ (¬ x < 0 ∧ ¬ nI (2 ^ pl t.toNatClampNeg) ≤ x)
theorem bZ_and {p q : Prop} [Decidable p] [Decidable q] (h : ¬ bZ (decide p && decide q) = 0) : p ∧ q := by
  have := bZ_ne.mp h
  simpa using this
theorem bZ_nand {p q : Prop} [Decidable p] [Decidable q] (h : bZ (decide p && decide q) = 0) : ¬ (p ∧ q) := by
  have := bZ_eq.mp h
  intro z
  simp [z.1, z.2] at this
theorem bZ_p {p : Prop} [Decidable p] (h : p) : bZ (decide p) = 1 := by simp [bZ, h]
theorem bZ_n {p : Prop} [Decidable p] (h : ¬ p) : bZ (decide p) = 0 := by simp [bZ, h]
set_option maxRecDepth 100000 in
set_option maxHeartbeats 4000000 in
theorem c_K_isIndex (l : Launch) (D : hv_D) (h : hv_P) (nx : Nat) {k c : Nat} {th op sh sp tu gc my so sx : Int32} {sr si : Int64} (hk : h k = some (oK k th (nI c) op sh sp tu gc my sr si so sx)) {pl : Nat → Nat} (hp : h (k + 1) = some (eN 10 pl)) (hc : c ≤ 10) (hpl : ∀ t, t < c → pl t ≤ 6) (t x : Int32) : hv_N l D M_K_isIndex (hv_rm 1 21 0 0) [.ref k, .int t, .int x] h nx (hv_ans (some (.int (bZ (decide (idxV c pl t x))))) (hv_same h nx)) := by
  refine hv_N.of' [some (.ref k), some (.int t), some (.int x)] (by decide +kernel) rfl rfl rfl ?_
  refine V_aload_n d_K_isIndex_0 rfl ?_
  refine V_iload_n d_K_isIndex_1 rfl ?_
  refine V_callV1 d_K_isIndex_2 ml_K_76 mB_K_isTensor mi_K_isTensor mv_K_isTensor rfl hk (c_K_isTensor l D _ _ hk t) rfl rfl rfl rfl rfl rfl rfl ?_
  rintro _ _ ⟨rfl, rfl⟩
  refine V_if_eq 28 d_K_isIndex_5 (by decide) (fun c5 => ?_) (fun c5 => ?_)
  · have AN := bZ_n (p := idxV c pl t x) (fun q => bZ_nand c5 q.1)
    refine V_iconst (0) d_K_isIndex_28 rfl ?_
    exact V_zreturn d_K_isIndex_29 rfl rfl ⟨by rw [AN], rfl, rfl⟩
  · obtain ⟨t1, t2⟩ := bZ_and c5
    obtain ⟨i1, i2⟩ := i32_nat t1 (Int32.not_le.mp t2) (by omega)
    have p6 := hpl _ i1
    refine V_iload_n d_K_isIndex_8 rfl ?_
    refine V_if_lt 28 d_K_isIndex_9 (by decide) (fun c9 => ?_) (fun c9 => ?_)
    · have AN := bZ_n (p := idxV c pl t x) (fun q => q.2.1 c9)
      refine V_iconst (0) d_K_isIndex_28 rfl ?_
      exact V_zreturn d_K_isIndex_29 rfl rfl ⟨by rw [AN], rfl, rfl⟩
    · refine V_iload_n d_K_isIndex_12 rfl ?_
      refine V_iconst (nI 1) d_K_isIndex_13 rfl ?_
      refine V_aload_n d_K_isIndex_14 rfl ?_
      refine V_getfield d_K_isIndex_15 fl_K_7 hk rfl ?_
      refine V_iload_n (x := nI t.toNatClampNeg) d_K_isIndex_18 (by rw [← i2]; rfl) ?_
      refine V_iaload d_K_isIndex_19 hp ⟨rfl, by omega, by decide⟩ ?_
      refine V_ishlN d_K_isIndex_20 (by omega) ?_
      rw [Nat.one_mul]
      refine V_icmp_ge 28 d_K_isIndex_21 (by decide) (fun c21 => ?_) (fun c21 => ?_)
      · have AN := bZ_n (p := idxV c pl t x) (fun q => q.2.2 c21)
        refine V_iconst (0) d_K_isIndex_28 rfl ?_
        exact V_zreturn d_K_isIndex_29 rfl rfl ⟨by rw [AN], rfl, rfl⟩
      · have AN := bZ_p (p := idxV c pl t x) ⟨⟨t1, t2⟩, c9, c21⟩
        refine V_iconst (1) d_K_isIndex_24 rfl ?_
        refine V_goto 29 d_K_isIndex_25 (by decide) ?_
        exact V_zreturn d_K_isIndex_29 rfl rfl ⟨by rw [AN], rfl, rfl⟩

abbrev putV (c : Nat) (pl : Nat → Nat) (t x a b : Int32) : Prop := idxV c pl t x ∧ (¬ a < -9 ∧ ¬ 9 < a) ∧ (¬ b < -9 ∧ ¬ 9 < b)
set_option maxRecDepth 100000 in
set_option maxHeartbeats 4000000 in
theorem c_K_put0 (l : Launch) (D : hv_D) (h : hv_P) (nx : Nat) {k c : Nat} {th : Int32} {pl : Nat → Nat} {la : Nat → Option Nat} {re im : Nat → Int32} (hS : kS h k th c pl la re im) (hN : netOK c pl la) {t x a b : Int32} (hx : ¬ putV c pl t x a b) : hv_N l D M_K_put (hv_rm 2 43 0 0) [.ref k, .int t, .int x, .int a, .int b] h nx (hv_ans (some (.int 0)) (fun h' n' => n' = nx ∧ kFr k h h' ∧ kS h' k (0) (c) (pl) (la) (re) (im))) := by
  refine hv_N.of' [some (.ref k), some (.int t), some (.int x), some (.int a), some (.int b)] (by decide +kernel) rfl rfl rfl ?_
  obtain ⟨⟨op, sh, sp, tu, gc, my, so, sx, sr, si, hk⟩, h1, h2, h3, h4, ⟨f5, h5⟩, ⟨f6, h6⟩, ⟨f7, h7⟩, ⟨f8, h8⟩, ⟨f9, h9⟩, ⟨f10, h10⟩, ⟨f11, h11⟩, ⟨f12, h12⟩, ⟨f13, h13⟩, ⟨f14, h14⟩, ⟨f15, h15⟩, ⟨f16, h16⟩, ⟨f17, h17⟩, ⟨f18, h18⟩, ⟨f19, h19⟩⟩ := hS
  refine V_eqH (ob_4 hk h1 h3 h4) ?_
  refine V_aload_n d_K_put_0 rfl ?_
  refine V_iconst (0) d_K_put_1 rfl ?_
  refine V_put (e' := oK k (0) ((nI c)) (op) (sh) (sp) (tu) (gc) (my) (sr) (si) (so) (sx)) d_K_put_2 fp_K_69 (og_0) rfl rfl rfl rfl (ou_0) ?_
  refine V_aload_n d_K_put_5 rfl ?_
  refine V_iload_n d_K_put_6 rfl ?_
  refine V_iload_n d_K_put_7 rfl ?_
  refine V_callV1 d_K_put_8 ml_K_80 mB_K_isIndex mi_K_isIndex mv_K_isIndex rfl og_0 (c_K_isIndex l D _ _ og_0 (og_1 (by omega)) hN.1 hN.2.1 t x) rfl rfl rfl rfl rfl rfl rfl ?_
  rintro _ _ ⟨rfl, rfl⟩
  refine V_if_eq 40 d_K_put_11 (by decide) (fun c11 => ?_) (fun c11 => ?_)
  · refine V_iconst (0) d_K_put_40 rfl ?_
    exact V_zreturn d_K_put_41 rfl rfl ⟨rfl, rfl, fun q hq => oz_4 (by omega) (by omega) (by omega) (by omega), ⟨⟨_, _, _, _, _, _, _, _, _, _, og_0⟩, (og_1 (by omega)), (oa_4 h2 (by omega) (by omega) (by omega) (by omega)), (og_2 (by omega) (by omega)), (og_3 (by omega) (by omega) (by omega)), ⟨_, (oa_4 h5 (by omega) (by omega) (by omega) (by omega))⟩, ⟨_, (oa_4 h6 (by omega) (by omega) (by omega) (by omega))⟩, ⟨_, (oa_4 h7 (by omega) (by omega) (by omega) (by omega))⟩, ⟨_, (oa_4 h8 (by omega) (by omega) (by omega) (by omega))⟩, ⟨_, (oa_4 h9 (by omega) (by omega) (by omega) (by omega))⟩, ⟨_, (oa_4 h10 (by omega) (by omega) (by omega) (by omega))⟩, ⟨_, (oa_4 h11 (by omega) (by omega) (by omega) (by omega))⟩, ⟨_, (oa_4 h12 (by omega) (by omega) (by omega) (by omega))⟩, ⟨_, (oa_4 h13 (by omega) (by omega) (by omega) (by omega))⟩, ⟨_, (oa_4 h14 (by omega) (by omega) (by omega) (by omega))⟩, ⟨_, (oa_4 h15 (by omega) (by omega) (by omega) (by omega))⟩, ⟨_, (oa_4 h16 (by omega) (by omega) (by omega) (by omega))⟩, ⟨_, (oa_4 h17 (by omega) (by omega) (by omega) (by omega))⟩, ⟨_, (oa_4 h18 (by omega) (by omega) (by omega) (by omega))⟩, ⟨_, (oa_4 h19 (by omega) (by omega) (by omega) (by omega))⟩⟩⟩
  · have c11 : idxV c pl t x := of_decide_eq_true (bZ_ne.mp c11)
    refine V_iload_n d_K_put_14 rfl ?_
    refine V_bipush (-9) d_K_put_15 rfl ?_
    refine V_icmp_lt 40 d_K_put_17 (by decide) (fun c17 => ?_) (fun c17 => ?_)
    · refine V_iconst (0) d_K_put_40 rfl ?_
      exact V_zreturn d_K_put_41 rfl rfl ⟨rfl, rfl, fun q hq => oz_4 (by omega) (by omega) (by omega) (by omega), ⟨⟨_, _, _, _, _, _, _, _, _, _, og_0⟩, (og_1 (by omega)), (oa_4 h2 (by omega) (by omega) (by omega) (by omega)), (og_2 (by omega) (by omega)), (og_3 (by omega) (by omega) (by omega)), ⟨_, (oa_4 h5 (by omega) (by omega) (by omega) (by omega))⟩, ⟨_, (oa_4 h6 (by omega) (by omega) (by omega) (by omega))⟩, ⟨_, (oa_4 h7 (by omega) (by omega) (by omega) (by omega))⟩, ⟨_, (oa_4 h8 (by omega) (by omega) (by omega) (by omega))⟩, ⟨_, (oa_4 h9 (by omega) (by omega) (by omega) (by omega))⟩, ⟨_, (oa_4 h10 (by omega) (by omega) (by omega) (by omega))⟩, ⟨_, (oa_4 h11 (by omega) (by omega) (by omega) (by omega))⟩, ⟨_, (oa_4 h12 (by omega) (by omega) (by omega) (by omega))⟩, ⟨_, (oa_4 h13 (by omega) (by omega) (by omega) (by omega))⟩, ⟨_, (oa_4 h14 (by omega) (by omega) (by omega) (by omega))⟩, ⟨_, (oa_4 h15 (by omega) (by omega) (by omega) (by omega))⟩, ⟨_, (oa_4 h16 (by omega) (by omega) (by omega) (by omega))⟩, ⟨_, (oa_4 h17 (by omega) (by omega) (by omega) (by omega))⟩, ⟨_, (oa_4 h18 (by omega) (by omega) (by omega) (by omega))⟩, ⟨_, (oa_4 h19 (by omega) (by omega) (by omega) (by omega))⟩⟩⟩
    · refine V_iload_n d_K_put_20 rfl ?_
      refine V_bipush (9) d_K_put_21 rfl ?_
      refine V_icmp_gt 40 d_K_put_23 (by decide) (fun c23 => ?_) (fun c23 => ?_)
      · refine V_iconst (0) d_K_put_40 rfl ?_
        exact V_zreturn d_K_put_41 rfl rfl ⟨rfl, rfl, fun q hq => oz_4 (by omega) (by omega) (by omega) (by omega), ⟨⟨_, _, _, _, _, _, _, _, _, _, og_0⟩, (og_1 (by omega)), (oa_4 h2 (by omega) (by omega) (by omega) (by omega)), (og_2 (by omega) (by omega)), (og_3 (by omega) (by omega) (by omega)), ⟨_, (oa_4 h5 (by omega) (by omega) (by omega) (by omega))⟩, ⟨_, (oa_4 h6 (by omega) (by omega) (by omega) (by omega))⟩, ⟨_, (oa_4 h7 (by omega) (by omega) (by omega) (by omega))⟩, ⟨_, (oa_4 h8 (by omega) (by omega) (by omega) (by omega))⟩, ⟨_, (oa_4 h9 (by omega) (by omega) (by omega) (by omega))⟩, ⟨_, (oa_4 h10 (by omega) (by omega) (by omega) (by omega))⟩, ⟨_, (oa_4 h11 (by omega) (by omega) (by omega) (by omega))⟩, ⟨_, (oa_4 h12 (by omega) (by omega) (by omega) (by omega))⟩, ⟨_, (oa_4 h13 (by omega) (by omega) (by omega) (by omega))⟩, ⟨_, (oa_4 h14 (by omega) (by omega) (by omega) (by omega))⟩, ⟨_, (oa_4 h15 (by omega) (by omega) (by omega) (by omega))⟩, ⟨_, (oa_4 h16 (by omega) (by omega) (by omega) (by omega))⟩, ⟨_, (oa_4 h17 (by omega) (by omega) (by omega) (by omega))⟩, ⟨_, (oa_4 h18 (by omega) (by omega) (by omega) (by omega))⟩, ⟨_, (oa_4 h19 (by omega) (by omega) (by omega) (by omega))⟩⟩⟩
      · refine V_iload d_K_put_26 rfl ?_
        refine V_bipush (-9) d_K_put_28 rfl ?_
        refine V_icmp_lt 40 d_K_put_30 (by decide) (fun c30 => ?_) (fun c30 => ?_)
        · refine V_iconst (0) d_K_put_40 rfl ?_
          exact V_zreturn d_K_put_41 rfl rfl ⟨rfl, rfl, fun q hq => oz_4 (by omega) (by omega) (by omega) (by omega), ⟨⟨_, _, _, _, _, _, _, _, _, _, og_0⟩, (og_1 (by omega)), (oa_4 h2 (by omega) (by omega) (by omega) (by omega)), (og_2 (by omega) (by omega)), (og_3 (by omega) (by omega) (by omega)), ⟨_, (oa_4 h5 (by omega) (by omega) (by omega) (by omega))⟩, ⟨_, (oa_4 h6 (by omega) (by omega) (by omega) (by omega))⟩, ⟨_, (oa_4 h7 (by omega) (by omega) (by omega) (by omega))⟩, ⟨_, (oa_4 h8 (by omega) (by omega) (by omega) (by omega))⟩, ⟨_, (oa_4 h9 (by omega) (by omega) (by omega) (by omega))⟩, ⟨_, (oa_4 h10 (by omega) (by omega) (by omega) (by omega))⟩, ⟨_, (oa_4 h11 (by omega) (by omega) (by omega) (by omega))⟩, ⟨_, (oa_4 h12 (by omega) (by omega) (by omega) (by omega))⟩, ⟨_, (oa_4 h13 (by omega) (by omega) (by omega) (by omega))⟩, ⟨_, (oa_4 h14 (by omega) (by omega) (by omega) (by omega))⟩, ⟨_, (oa_4 h15 (by omega) (by omega) (by omega) (by omega))⟩, ⟨_, (oa_4 h16 (by omega) (by omega) (by omega) (by omega))⟩, ⟨_, (oa_4 h17 (by omega) (by omega) (by omega) (by omega))⟩, ⟨_, (oa_4 h18 (by omega) (by omega) (by omega) (by omega))⟩, ⟨_, (oa_4 h19 (by omega) (by omega) (by omega) (by omega))⟩⟩⟩
        · refine V_iload d_K_put_33 rfl ?_
          refine V_bipush (9) d_K_put_35 rfl ?_
          refine V_icmp_le 42 d_K_put_37 (by decide) (fun c37 => ?_) (fun c37 => ?_)
          · exact absurd ⟨c11, ⟨c17, c23⟩, c30, Int32.not_lt.mpr c37⟩ hx
          · refine V_iconst (0) d_K_put_40 rfl ?_
            exact V_zreturn d_K_put_41 rfl rfl ⟨rfl, rfl, fun q hq => oz_4 (by omega) (by omega) (by omega) (by omega), ⟨⟨_, _, _, _, _, _, _, _, _, _, og_0⟩, (og_1 (by omega)), (oa_4 h2 (by omega) (by omega) (by omega) (by omega)), (og_2 (by omega) (by omega)), (og_3 (by omega) (by omega) (by omega)), ⟨_, (oa_4 h5 (by omega) (by omega) (by omega) (by omega))⟩, ⟨_, (oa_4 h6 (by omega) (by omega) (by omega) (by omega))⟩, ⟨_, (oa_4 h7 (by omega) (by omega) (by omega) (by omega))⟩, ⟨_, (oa_4 h8 (by omega) (by omega) (by omega) (by omega))⟩, ⟨_, (oa_4 h9 (by omega) (by omega) (by omega) (by omega))⟩, ⟨_, (oa_4 h10 (by omega) (by omega) (by omega) (by omega))⟩, ⟨_, (oa_4 h11 (by omega) (by omega) (by omega) (by omega))⟩, ⟨_, (oa_4 h12 (by omega) (by omega) (by omega) (by omega))⟩, ⟨_, (oa_4 h13 (by omega) (by omega) (by omega) (by omega))⟩, ⟨_, (oa_4 h14 (by omega) (by omega) (by omega) (by omega))⟩, ⟨_, (oa_4 h15 (by omega) (by omega) (by omega) (by omega))⟩, ⟨_, (oa_4 h16 (by omega) (by omega) (by omega) (by omega))⟩, ⟨_, (oa_4 h17 (by omega) (by omega) (by omega) (by omega))⟩, ⟨_, (oa_4 h18 (by omega) (by omega) (by omega) (by omega))⟩, ⟨_, (oa_4 h19 (by omega) (by omega) (by omega) (by omega))⟩⟩⟩

set_option maxRecDepth 100000 in
set_option maxHeartbeats 4000000 in
theorem c_K_put1 (l : Launch) (D : hv_D) (h : hv_P) (nx : Nat) {k c : Nat} {th : Int32} {pl : Nat → Nat} {la : Nat → Option Nat} {re im : Nat → Int32} (hS : kS h k th c pl la re im) (hN : netOK c pl la) {t x a b : Int32} (hx : putV c pl t x a b) : hv_N l D M_K_put (hv_rm 2 43 0 0) [.ref k, .int t, .int x, .int a, .int b] h nx (hv_ans (some (.int 1)) (fun h' n' => n' = nx ∧ kFr k h h' ∧ kS h' k (0) (c) (pl) (la) (va_up re (64 * t.toNatClampNeg + x.toNatClampNeg) a) (va_up im (64 * t.toNatClampNeg + x.toNatClampNeg) b))) := by
  refine hv_N.of' [some (.ref k), some (.int t), some (.int x), some (.int a), some (.int b)] (by decide +kernel) rfl rfl rfl ?_
  obtain ⟨⟨op, sh, sp, tu, gc, my, so, sx, sr, si, hk⟩, h1, h2, h3, h4, ⟨f5, h5⟩, ⟨f6, h6⟩, ⟨f7, h7⟩, ⟨f8, h8⟩, ⟨f9, h9⟩, ⟨f10, h10⟩, ⟨f11, h11⟩, ⟨f12, h12⟩, ⟨f13, h13⟩, ⟨f14, h14⟩, ⟨f15, h15⟩, ⟨f16, h16⟩, ⟨f17, h17⟩, ⟨f18, h18⟩, ⟨f19, h19⟩⟩ := hS
  refine V_eqH (ob_4 hk h1 h3 h4) ?_
  obtain ⟨⟨⟨t1, t2⟩, x1, x2⟩, ⟨a1, a2⟩, b1, b2⟩ := hx
  obtain ⟨i1, i2⟩ := i32_nat t1 (Int32.not_le.mp t2) (by have := hN.1; omega)
  have p6 := hN.2.1 _ i1
  have p64 : 2 ^ pl t.toNatClampNeg ≤ 2 ^ 6 := Nat.pow_le_pow_right (by decide) p6
  obtain ⟨j1, j2⟩ := i32_nat x1 (Int32.not_le.mp x2) (by omega)
  have hc := hN.1
  refine V_aload_n d_K_put_0 rfl ?_
  refine V_iconst (0) d_K_put_1 rfl ?_
  refine V_put (e' := oK k (0) ((nI c)) (op) (sh) (sp) (tu) (gc) (my) (sr) (si) (so) (sx)) d_K_put_2 fp_K_69 (og_0) rfl rfl rfl rfl (ou_0) ?_
  refine V_aload_n d_K_put_5 rfl ?_
  refine V_iload_n d_K_put_6 rfl ?_
  refine V_iload_n d_K_put_7 rfl ?_
  refine V_callV1 d_K_put_8 ml_K_80 mB_K_isIndex mi_K_isIndex mv_K_isIndex rfl og_0 (c_K_isIndex l D _ _ og_0 (og_1 (by omega)) hN.1 hN.2.1 t x) rfl rfl rfl rfl rfl rfl rfl ?_
  rintro _ _ ⟨rfl, rfl⟩
  refine V_if_eq 40 d_K_put_11 (by decide) (fun q => absurd q (by rw [bZ_p ⟨⟨t1, t2⟩, x1, x2⟩]; decide)) (fun _ => ?_)
  refine V_iload_n d_K_put_14 rfl ?_
  refine V_bipush (-9) d_K_put_15 rfl ?_
  refine V_icmp_lt 40 d_K_put_17 (by decide) (fun q => absurd q a1) (fun _ => ?_)
  refine V_iload_n d_K_put_20 rfl ?_
  refine V_bipush (9) d_K_put_21 rfl ?_
  refine V_icmp_gt 40 d_K_put_23 (by decide) (fun q => absurd q a2) (fun _ => ?_)
  refine V_iload d_K_put_26 rfl ?_
  refine V_bipush (-9) d_K_put_28 rfl ?_
  refine V_icmp_lt 40 d_K_put_30 (by decide) (fun q => absurd q b1) (fun _ => ?_)
  refine V_iload d_K_put_33 rfl ?_
  refine V_bipush (9) d_K_put_35 rfl ?_
  refine V_icmp_le 42 d_K_put_37 (by decide) (fun _ => ?_) (fun q => absurd (Int32.not_lt.mp b2) q)
  refine V_aload_n d_K_put_42 rfl ?_
  refine V_getfield d_K_put_43 fl_K_16 (og_0) rfl ?_
  refine V_bipush (nI 64) d_K_put_46 rfl ?_
  refine V_iload_n (x := nI t.toNatClampNeg) d_K_put_48 (by rw [← i2]; rfl) ?_
  refine V_imulN d_K_put_49 ?_
  refine V_iload_n (x := nI x.toNatClampNeg) d_K_put_50 (by rw [← j2]; rfl) ?_
  refine V_iaddN d_K_put_51 ?_
  refine V_iload_n d_K_put_52 rfl ?_
  refine V_ist d_K_put_53 (og_2 (by omega) (by omega)) ⟨rfl, by omega, by decide⟩ (ou_2 (by omega) (by omega)) ?_
  refine V_aload_n d_K_put_54 rfl ?_
  refine V_getfield d_K_put_55 fl_K_19 (og_0) rfl ?_
  refine V_bipush (nI 64) d_K_put_58 rfl ?_
  refine V_iload_n (x := nI t.toNatClampNeg) d_K_put_60 (by rw [← i2]; rfl) ?_
  refine V_imulN d_K_put_61 ?_
  refine V_iload_n (x := nI x.toNatClampNeg) d_K_put_62 (by rw [← j2]; rfl) ?_
  refine V_iaddN d_K_put_63 ?_
  refine V_iload d_K_put_64 rfl ?_
  refine V_ist d_K_put_66 (og_3 (by omega) (by omega) (by omega)) ⟨rfl, by omega, by decide⟩ (ou_3 (by omega) (by omega) (by omega)) ?_
  refine V_iconst (1) d_K_put_67 rfl ?_
  exact V_zreturn d_K_put_68 rfl rfl ⟨rfl, rfl, fun q hq => oz_4 (by omega) (by omega) (by omega) (by omega), ⟨⟨_, _, _, _, _, _, _, _, _, _, og_0⟩, (og_1 (by omega)), (oa_4 h2 (by omega) (by omega) (by omega) (by omega)), (og_2 (by omega) (by omega)), (og_3 (by omega) (by omega) (by omega)), ⟨_, (oa_4 h5 (by omega) (by omega) (by omega) (by omega))⟩, ⟨_, (oa_4 h6 (by omega) (by omega) (by omega) (by omega))⟩, ⟨_, (oa_4 h7 (by omega) (by omega) (by omega) (by omega))⟩, ⟨_, (oa_4 h8 (by omega) (by omega) (by omega) (by omega))⟩, ⟨_, (oa_4 h9 (by omega) (by omega) (by omega) (by omega))⟩, ⟨_, (oa_4 h10 (by omega) (by omega) (by omega) (by omega))⟩, ⟨_, (oa_4 h11 (by omega) (by omega) (by omega) (by omega))⟩, ⟨_, (oa_4 h12 (by omega) (by omega) (by omega) (by omega))⟩, ⟨_, (oa_4 h13 (by omega) (by omega) (by omega) (by omega))⟩, ⟨_, (oa_4 h14 (by omega) (by omega) (by omega) (by omega))⟩, ⟨_, (oa_4 h15 (by omega) (by omega) (by omega) (by omega))⟩, ⟨_, (oa_4 h16 (by omega) (by omega) (by omega) (by omega))⟩, ⟨_, (oa_4 h17 (by omega) (by omega) (by omega) (by omega))⟩, ⟨_, (oa_4 h18 (by omega) (by omega) (by omega) (by omega))⟩, ⟨_, (oa_4 h19 (by omega) (by omega) (by omega) (by omega))⟩⟩⟩

abbrev legV (c : Nat) (pl : Nat → Nat) (t p n : Int32) : Prop := (¬ t < 0 ∧ ¬ nI c ≤ t) ∧ (¬ p < 0 ∧ ¬ nI (pl t.toNatClampNeg) ≤ p) ∧ (¬ n < -1 ∧ n < 20)
theorem name_of {n : Int32} (h0 : ¬ n < -1) (h1 : n < 20) : ∃ o : Option Nat, n = en_ o ∧ ∀ m, o = some m → m < 20 := by
  by_cases e : n = -1
  · exact ⟨none, e, fun m q => by cases q⟩
  · have : ¬ n < 0 := by
      rw [Int32.lt_iff_toInt_lt] at h0 ⊢
      have e1 : (-1 : Int32).toInt = -1 := rfl
      have e2 : (0 : Int32).toInt = 0 := rfl
      intro q
      refine e (Int32.toInt_inj.mp ?_)
      omega
    obtain ⟨a, b⟩ := i32_nat (n := 20) this h1 (by decide)
    exact ⟨some n.toNatClampNeg, b, fun m q => by cases q; exact a⟩
/-- the other places with this name -/
def otN (la : Nat → Option Nat) (o : Option Nat) (q0 : Nat) : Nat → Nat
  | 0 => 0
  | q + 1 => otN la o q0 q + (if o ≠ none ∧ la q = o ∧ q ≠ q0 then 1 else 0)
theorem en_inj {o o' : Option Nat} (h : ∀ m, o = some m → m < 20) (h' : ∀ m, o' = some m → m < 20) : en_ o = en_ o' ↔ o = o' := by
  constructor
  · intro q
    cases o with
    | none =>
      cases o' with
      | none => rfl
      | some m => exact absurd q.symm (en_ne (h' m rfl))
    | some m =>
      cases o' with
      | none => exact absurd q (en_ne (h m rfl))
      | some n =>
        have a := h m rfl
        have b := h' n rfl
        rw [(nI_eq (by omega) (by omega)).mp q]
  · rintro rfl; rfl
theorem otN_le {la : Nat → Option Nat} {o : Option Nat} {q0 : Nat} : ∀ n, otN la o q0 n ≤ n
  | 0 => Nat.le_refl _
  | n + 1 => by
    have := otN_le (la := la) (o := o) (q0 := q0) n
    simp only [otN]
    split <;> omega
set_option maxRecDepth 100000 in
set_option maxHeartbeats 4000000 in
theorem c_K_leg0 (l : Launch) (D : hv_D) (h : hv_P) (nx : Nat) {k c : Nat} {th : Int32} {pl : Nat → Nat} {la : Nat → Option Nat} {re im : Nat → Int32} (hS : kS h k th c pl la re im) (hN : netOK c pl la) {t p n : Int32} (hx : ¬ legV c pl t p n) : hv_N l D M_K_leg (hv_rm 1 21 0 0) [.ref k, .int t, .int p, .int n] h nx (hv_ans (some (.int 0)) (fun h' n' => n' = nx ∧ kFr k h h' ∧ kS h' k (0) (c) (pl) (la) (re) (im))) := by
  refine hv_N.of' [some (.ref k), some (.int t), some (.int p), some (.int n), none, none] (by decide +kernel) rfl rfl rfl ?_
  have hc := hN.1
  obtain ⟨⟨op, sh, sp, tu, gc, my, so, sx, sr, si, hk⟩, h1, h2, h3, h4, ⟨f5, h5⟩, ⟨f6, h6⟩, ⟨f7, h7⟩, ⟨f8, h8⟩, ⟨f9, h9⟩, ⟨f10, h10⟩, ⟨f11, h11⟩, ⟨f12, h12⟩, ⟨f13, h13⟩, ⟨f14, h14⟩, ⟨f15, h15⟩, ⟨f16, h16⟩, ⟨f17, h17⟩, ⟨f18, h18⟩, ⟨f19, h19⟩⟩ := hS
  refine V_eqH (ob_3 hk h1 h2) ?_
  refine V_aload_n d_K_leg_0 rfl ?_
  refine V_iconst (0) d_K_leg_1 rfl ?_
  refine V_put (e' := oK k (0) ((nI c)) (op) (sh) (sp) (tu) (gc) (my) (sr) (si) (so) (sx)) d_K_leg_2 fp_K_69 (og_0) rfl rfl rfl rfl (ou_0) ?_
  refine V_aload_n d_K_leg_5 rfl ?_
  refine V_iload_n d_K_leg_6 rfl ?_
  refine V_callV1 d_K_leg_7 ml_K_76 mB_K_isTensor mi_K_isTensor mv_K_isTensor rfl og_0 (c_K_isTensor l D _ _ og_0 t) rfl rfl rfl rfl rfl rfl rfl ?_
  rintro _ _ ⟨rfl, rfl⟩
  refine V_if_eq 38 d_K_leg_10 (by decide) (fun c10 => ?_) (fun c10 => ?_)
  · refine V_iconst (0) d_K_leg_38 rfl ?_
    exact V_zreturn d_K_leg_39 rfl rfl ⟨rfl, rfl, fun q hq => oz_3 (by omega) (by omega) (by omega), ⟨⟨_, _, _, _, _, _, _, _, _, _, og_0⟩, (og_1 (by omega)), (og_2 (by omega) (by omega)), (oa_3 h3 (by omega) (by omega) (by omega)), (oa_3 h4 (by omega) (by omega) (by omega)), ⟨_, (oa_3 h5 (by omega) (by omega) (by omega))⟩, ⟨_, (oa_3 h6 (by omega) (by omega) (by omega))⟩, ⟨_, (oa_3 h7 (by omega) (by omega) (by omega))⟩, ⟨_, (oa_3 h8 (by omega) (by omega) (by omega))⟩, ⟨_, (oa_3 h9 (by omega) (by omega) (by omega))⟩, ⟨_, (oa_3 h10 (by omega) (by omega) (by omega))⟩, ⟨_, (oa_3 h11 (by omega) (by omega) (by omega))⟩, ⟨_, (oa_3 h12 (by omega) (by omega) (by omega))⟩, ⟨_, (oa_3 h13 (by omega) (by omega) (by omega))⟩, ⟨_, (oa_3 h14 (by omega) (by omega) (by omega))⟩, ⟨_, (oa_3 h15 (by omega) (by omega) (by omega))⟩, ⟨_, (oa_3 h16 (by omega) (by omega) (by omega))⟩, ⟨_, (oa_3 h17 (by omega) (by omega) (by omega))⟩, ⟨_, (oa_3 h18 (by omega) (by omega) (by omega))⟩, ⟨_, (oa_3 h19 (by omega) (by omega) (by omega))⟩⟩⟩
  · obtain ⟨t1, t2⟩ := bZ_and c10
    obtain ⟨i1, i2⟩ := i32_nat t1 (Int32.not_le.mp t2) (by omega)
    refine V_iload_n d_K_leg_13 rfl ?_
    refine V_if_lt 38 d_K_leg_14 (by decide) (fun c14 => ?_) (fun c14 => ?_)
    · refine V_iconst (0) d_K_leg_38 rfl ?_
      exact V_zreturn d_K_leg_39 rfl rfl ⟨rfl, rfl, fun q hq => oz_3 (by omega) (by omega) (by omega), ⟨⟨_, _, _, _, _, _, _, _, _, _, og_0⟩, (og_1 (by omega)), (og_2 (by omega) (by omega)), (oa_3 h3 (by omega) (by omega) (by omega)), (oa_3 h4 (by omega) (by omega) (by omega)), ⟨_, (oa_3 h5 (by omega) (by omega) (by omega))⟩, ⟨_, (oa_3 h6 (by omega) (by omega) (by omega))⟩, ⟨_, (oa_3 h7 (by omega) (by omega) (by omega))⟩, ⟨_, (oa_3 h8 (by omega) (by omega) (by omega))⟩, ⟨_, (oa_3 h9 (by omega) (by omega) (by omega))⟩, ⟨_, (oa_3 h10 (by omega) (by omega) (by omega))⟩, ⟨_, (oa_3 h11 (by omega) (by omega) (by omega))⟩, ⟨_, (oa_3 h12 (by omega) (by omega) (by omega))⟩, ⟨_, (oa_3 h13 (by omega) (by omega) (by omega))⟩, ⟨_, (oa_3 h14 (by omega) (by omega) (by omega))⟩, ⟨_, (oa_3 h15 (by omega) (by omega) (by omega))⟩, ⟨_, (oa_3 h16 (by omega) (by omega) (by omega))⟩, ⟨_, (oa_3 h17 (by omega) (by omega) (by omega))⟩, ⟨_, (oa_3 h18 (by omega) (by omega) (by omega))⟩, ⟨_, (oa_3 h19 (by omega) (by omega) (by omega))⟩⟩⟩
    · refine V_iload_n d_K_leg_17 rfl ?_
      refine V_aload_n d_K_leg_18 rfl ?_
      refine V_getfield d_K_leg_19 fl_K_7 (og_0) rfl ?_
      refine V_iload_n (x := nI t.toNatClampNeg) d_K_leg_22 (by rw [← i2]; rfl) ?_
      refine V_iaload d_K_leg_23 (og_1 (by omega)) ⟨rfl, by omega, by decide⟩ ?_
      refine V_icmp_ge 38 d_K_leg_24 (by decide) (fun c24 => ?_) (fun c24 => ?_)
      · refine V_iconst (0) d_K_leg_38 rfl ?_
        exact V_zreturn d_K_leg_39 rfl rfl ⟨rfl, rfl, fun q hq => oz_3 (by omega) (by omega) (by omega), ⟨⟨_, _, _, _, _, _, _, _, _, _, og_0⟩, (og_1 (by omega)), (og_2 (by omega) (by omega)), (oa_3 h3 (by omega) (by omega) (by omega)), (oa_3 h4 (by omega) (by omega) (by omega)), ⟨_, (oa_3 h5 (by omega) (by omega) (by omega))⟩, ⟨_, (oa_3 h6 (by omega) (by omega) (by omega))⟩, ⟨_, (oa_3 h7 (by omega) (by omega) (by omega))⟩, ⟨_, (oa_3 h8 (by omega) (by omega) (by omega))⟩, ⟨_, (oa_3 h9 (by omega) (by omega) (by omega))⟩, ⟨_, (oa_3 h10 (by omega) (by omega) (by omega))⟩, ⟨_, (oa_3 h11 (by omega) (by omega) (by omega))⟩, ⟨_, (oa_3 h12 (by omega) (by omega) (by omega))⟩, ⟨_, (oa_3 h13 (by omega) (by omega) (by omega))⟩, ⟨_, (oa_3 h14 (by omega) (by omega) (by omega))⟩, ⟨_, (oa_3 h15 (by omega) (by omega) (by omega))⟩, ⟨_, (oa_3 h16 (by omega) (by omega) (by omega))⟩, ⟨_, (oa_3 h17 (by omega) (by omega) (by omega))⟩, ⟨_, (oa_3 h18 (by omega) (by omega) (by omega))⟩, ⟨_, (oa_3 h19 (by omega) (by omega) (by omega))⟩⟩⟩
      · refine V_iload_n d_K_leg_27 rfl ?_
        refine V_iconst (-1) d_K_leg_28 rfl ?_
        refine V_icmp_lt 38 d_K_leg_29 (by decide) (fun c29 => ?_) (fun c29 => ?_)
        · refine V_iconst (0) d_K_leg_38 rfl ?_
          exact V_zreturn d_K_leg_39 rfl rfl ⟨rfl, rfl, fun q hq => oz_3 (by omega) (by omega) (by omega), ⟨⟨_, _, _, _, _, _, _, _, _, _, og_0⟩, (og_1 (by omega)), (og_2 (by omega) (by omega)), (oa_3 h3 (by omega) (by omega) (by omega)), (oa_3 h4 (by omega) (by omega) (by omega)), ⟨_, (oa_3 h5 (by omega) (by omega) (by omega))⟩, ⟨_, (oa_3 h6 (by omega) (by omega) (by omega))⟩, ⟨_, (oa_3 h7 (by omega) (by omega) (by omega))⟩, ⟨_, (oa_3 h8 (by omega) (by omega) (by omega))⟩, ⟨_, (oa_3 h9 (by omega) (by omega) (by omega))⟩, ⟨_, (oa_3 h10 (by omega) (by omega) (by omega))⟩, ⟨_, (oa_3 h11 (by omega) (by omega) (by omega))⟩, ⟨_, (oa_3 h12 (by omega) (by omega) (by omega))⟩, ⟨_, (oa_3 h13 (by omega) (by omega) (by omega))⟩, ⟨_, (oa_3 h14 (by omega) (by omega) (by omega))⟩, ⟨_, (oa_3 h15 (by omega) (by omega) (by omega))⟩, ⟨_, (oa_3 h16 (by omega) (by omega) (by omega))⟩, ⟨_, (oa_3 h17 (by omega) (by omega) (by omega))⟩, ⟨_, (oa_3 h18 (by omega) (by omega) (by omega))⟩, ⟨_, (oa_3 h19 (by omega) (by omega) (by omega))⟩⟩⟩
        · refine V_iload_n d_K_leg_32 rfl ?_
          refine V_bipush (20) d_K_leg_33 rfl ?_
          refine V_icmp_lt 40 d_K_leg_35 (by decide) (fun c35 => ?_) (fun c35 => ?_)
          · exact absurd ⟨⟨t1, t2⟩, ⟨c14, c24⟩, c29, c35⟩ hx
          · refine V_iconst (0) d_K_leg_38 rfl ?_
            exact V_zreturn d_K_leg_39 rfl rfl ⟨rfl, rfl, fun q hq => oz_3 (by omega) (by omega) (by omega), ⟨⟨_, _, _, _, _, _, _, _, _, _, og_0⟩, (og_1 (by omega)), (og_2 (by omega) (by omega)), (oa_3 h3 (by omega) (by omega) (by omega)), (oa_3 h4 (by omega) (by omega) (by omega)), ⟨_, (oa_3 h5 (by omega) (by omega) (by omega))⟩, ⟨_, (oa_3 h6 (by omega) (by omega) (by omega))⟩, ⟨_, (oa_3 h7 (by omega) (by omega) (by omega))⟩, ⟨_, (oa_3 h8 (by omega) (by omega) (by omega))⟩, ⟨_, (oa_3 h9 (by omega) (by omega) (by omega))⟩, ⟨_, (oa_3 h10 (by omega) (by omega) (by omega))⟩, ⟨_, (oa_3 h11 (by omega) (by omega) (by omega))⟩, ⟨_, (oa_3 h12 (by omega) (by omega) (by omega))⟩, ⟨_, (oa_3 h13 (by omega) (by omega) (by omega))⟩, ⟨_, (oa_3 h14 (by omega) (by omega) (by omega))⟩, ⟨_, (oa_3 h15 (by omega) (by omega) (by omega))⟩, ⟨_, (oa_3 h16 (by omega) (by omega) (by omega))⟩, ⟨_, (oa_3 h17 (by omega) (by omega) (by omega))⟩, ⟨_, (oa_3 h18 (by omega) (by omega) (by omega))⟩, ⟨_, (oa_3 h19 (by omega) (by omega) (by omega))⟩⟩⟩

set_option maxRecDepth 100000 in
set_option maxHeartbeats 4000000 in
theorem c_K_leg1 (l : Launch) (D : hv_D) (h : hv_P) (nx : Nat) {k c : Nat} {th : Int32} {pl : Nat → Nat} {la : Nat → Option Nat} {re im : Nat → Int32} (hS : kS h k th c pl la re im) (hN : netOK c pl la) {i j : Nat} {o : Option Nat} (hi : i < c) (hj : j < pl i) (ho : ∀ m, o = some m → m < 20) : hv_N l D M_K_leg (hv_rm 1 21 0 0) [.ref k, .int (nI i), .int (nI j), .int (en_ o)] h nx (hv_ans (some (.int (bZ (decide (¬ otN la o (6 * i + j) (6 * c) = 2))))) (fun h' n' => n' = nx ∧ kFr k h h' ∧ kS h' k (0) (c) (pl) ((if otN la o (6 * i + j) (6 * c) = 2 then la else va_up la (6 * i + j) o)) (re) (im))) := by
  refine hv_N.of' [some (.ref k), some (.int (nI i)), some (.int (nI j)), some (.int (en_ o)), none, none] (by decide +kernel) rfl rfl rfl ?_
  have hc := hN.1
  have hp6 := hN.2.1 i hi
  have hn1 : ¬ en_ o < -1 := by
    cases o with
    | none => decide
    | some m =>
      have := ho m rfl
      rw [Int32.lt_iff_toInt_lt, show en_ (some m) = nI m from rfl, nI_toInt (by omega)]
      have e1 : (-1 : Int32).toInt = -1 := rfl
      omega
  have hn2 : en_ o < 20 := by
    cases o with
    | none => decide
    | some m =>
      have := ho m rfl
      rw [Int32.lt_iff_toInt_lt, show en_ (some m) = nI m from rfl, nI_toInt (by omega)]
      have e1 : (20 : Int32).toInt = 20 := rfl
      omega
  obtain ⟨⟨op, sh, sp, tu, gc, my, so, sx, sr, si, hk⟩, h1, h2, h3, h4, ⟨f5, h5⟩, ⟨f6, h6⟩, ⟨f7, h7⟩, ⟨f8, h8⟩, ⟨f9, h9⟩, ⟨f10, h10⟩, ⟨f11, h11⟩, ⟨f12, h12⟩, ⟨f13, h13⟩, ⟨f14, h14⟩, ⟨f15, h15⟩, ⟨f16, h16⟩, ⟨f17, h17⟩, ⟨f18, h18⟩, ⟨f19, h19⟩⟩ := hS
  have lp : ∀ (kk y : Nat), kk = (6 * c) - y → y ≤ (6 * c) → hv_V l D M_K_leg (fun _ _ => True) (hv_rm 1 21 0 0) (hv_ans (some (.int (bZ (decide (¬ otN la o (6 * i + j) (6 * c) = 2))))) (fun h' n' => n' = nx ∧ kFr k h h' ∧ kS h' k (0) (c) (pl) ((if otN la o (6 * i + j) (6 * c) = 2 then la else va_up la (6 * i + j) o)) (re) (im))) 0 0 (hv_ov h [(k, oK k (0) ((nI c)) (op) (sh) (sp) (tu) (gc) (my) (sr) (si) (so) (sx)), (k + 1, eN 10 pl), (k + 2, eM 60 la)]) nx 46 [some (.ref k), some (.int (nI i)), some (.int (nI j)), some (.int (en_ o)), some (.int (nI (otN la o (6 * i + j) y))), some (.int (nI y))] [] := by
    intro kk
    induction kk using Nat.strongRecOn with
    | ind kk ih =>
      intro y hkk hi
      refine V_iload d_K_leg_46 rfl ?_
      refine V_bipush (nI 6) d_K_leg_48 rfl ?_
      refine V_aload_n d_K_leg_50 rfl ?_
      refine V_getfield d_K_leg_51 fl_K_73 (og_0) rfl ?_
      refine V_imulN d_K_leg_54 ?_
      refine V_icmp_geN 101 d_K_leg_55 (by decide) (by omega) (by omega) (fun cy => ?_) (fun cy => ?_)
      · have ey : y = 6 * c := by omega
        subst ey
        refine V_iload d_K_leg_101 rfl ?_
        refine V_iconst (nI 2) d_K_leg_103 rfl ?_
        refine V_icmp_neN 109 d_K_leg_104 (by decide) (by have := otN_le (la := la) (o := o) (q0 := 6 * i + j) (6 * c); omega) (by decide) (fun c104 => ?_) (fun c104 => ?_)
        · rw [if_neg c104]
          refine V_aload_n d_K_leg_109 rfl ?_
          refine V_getfield d_K_leg_110 fl_K_13 (og_0) rfl ?_
          refine V_bipush (nI 6) d_K_leg_113 rfl ?_
          refine V_iload_n d_K_leg_115 rfl ?_
          refine V_imulN d_K_leg_116 ?_
          refine V_iload_n d_K_leg_117 rfl ?_
          refine V_iaddN d_K_leg_118 ?_
          refine V_iload_n d_K_leg_119 rfl ?_
          refine V_ist d_K_leg_120 (og_2 (by omega) (by omega)) ⟨rfl, by omega, by decide⟩ (h' := hv_ov h [(k, oK k (0) ((nI c)) (op) (sh) (sp) (tu) (gc) (my) (sr) (si) (so) (sx)), (k + 1, eN 10 pl), (k + 2, eM 60 (va_up la (6 * i + j) o))]) (by rw [en_up]; exact ou_2 (by omega) (by omega)) ?_
          refine V_iconst (1) d_K_leg_121 rfl ?_
          exact V_zreturn d_K_leg_122 rfl rfl ⟨by rw [bZ_p c104], rfl, fun q hq => oz_3 (by omega) (by omega) (by omega), ⟨⟨_, _, _, _, _, _, _, _, _, _, og_0⟩, (og_1 (by omega)), (og_2 (by omega) (by omega)), (oa_3 h3 (by omega) (by omega) (by omega)), (oa_3 h4 (by omega) (by omega) (by omega)), ⟨_, (oa_3 h5 (by omega) (by omega) (by omega))⟩, ⟨_, (oa_3 h6 (by omega) (by omega) (by omega))⟩, ⟨_, (oa_3 h7 (by omega) (by omega) (by omega))⟩, ⟨_, (oa_3 h8 (by omega) (by omega) (by omega))⟩, ⟨_, (oa_3 h9 (by omega) (by omega) (by omega))⟩, ⟨_, (oa_3 h10 (by omega) (by omega) (by omega))⟩, ⟨_, (oa_3 h11 (by omega) (by omega) (by omega))⟩, ⟨_, (oa_3 h12 (by omega) (by omega) (by omega))⟩, ⟨_, (oa_3 h13 (by omega) (by omega) (by omega))⟩, ⟨_, (oa_3 h14 (by omega) (by omega) (by omega))⟩, ⟨_, (oa_3 h15 (by omega) (by omega) (by omega))⟩, ⟨_, (oa_3 h16 (by omega) (by omega) (by omega))⟩, ⟨_, (oa_3 h17 (by omega) (by omega) (by omega))⟩, ⟨_, (oa_3 h18 (by omega) (by omega) (by omega))⟩, ⟨_, (oa_3 h19 (by omega) (by omega) (by omega))⟩⟩⟩
        · rw [if_pos c104]
          refine V_iconst (0) d_K_leg_107 rfl ?_
          exact V_zreturn d_K_leg_108 rfl rfl ⟨by rw [bZ_n (fun q => q c104)], rfl, fun q hq => oz_3 (by omega) (by omega) (by omega), ⟨⟨_, _, _, _, _, _, _, _, _, _, og_0⟩, (og_1 (by omega)), (og_2 (by omega) (by omega)), (oa_3 h3 (by omega) (by omega) (by omega)), (oa_3 h4 (by omega) (by omega) (by omega)), ⟨_, (oa_3 h5 (by omega) (by omega) (by omega))⟩, ⟨_, (oa_3 h6 (by omega) (by omega) (by omega))⟩, ⟨_, (oa_3 h7 (by omega) (by omega) (by omega))⟩, ⟨_, (oa_3 h8 (by omega) (by omega) (by omega))⟩, ⟨_, (oa_3 h9 (by omega) (by omega) (by omega))⟩, ⟨_, (oa_3 h10 (by omega) (by omega) (by omega))⟩, ⟨_, (oa_3 h11 (by omega) (by omega) (by omega))⟩, ⟨_, (oa_3 h12 (by omega) (by omega) (by omega))⟩, ⟨_, (oa_3 h13 (by omega) (by omega) (by omega))⟩, ⟨_, (oa_3 h14 (by omega) (by omega) (by omega))⟩, ⟨_, (oa_3 h15 (by omega) (by omega) (by omega))⟩, ⟨_, (oa_3 h16 (by omega) (by omega) (by omega))⟩, ⟨_, (oa_3 h17 (by omega) (by omega) (by omega))⟩, ⟨_, (oa_3 h18 (by omega) (by omega) (by omega))⟩, ⟨_, (oa_3 h19 (by omega) (by omega) (by omega))⟩⟩⟩
      · refine V_iload d_K_leg_58 rfl ?_
        refine V_iload_n d_K_leg_60 rfl ?_
        refine V_iconst (-1) d_K_leg_61 rfl ?_
        refine V_icmp_eq 91 d_K_leg_62 (by decide) (fun c62 => ?_) (fun c62 => ?_)
        · have c62 : o = none := (en_inj (o' := none) ho (fun m q => by cases q)).mp c62
          have ES : otN la o (6 * i + j) (y + 1) = otN la o (6 * i + j) y + 0 := by simp only [otN]; rw [if_neg (fun q => q.1 c62)]
          refine V_iconst (nI 0) d_K_leg_91 rfl ?_
          refine V_iaddN d_K_leg_92 ?_
          rw [← ES]
          refine V_istore_4 d_K_leg_93 rfl ?_
          refine V_iincN_5 1 d_K_leg_95 rfl rfl ?_
          refine V_goto 46 d_K_leg_98 (by decide) ?_
          exact ih (6 * c - (y + 1)) (by omega) (y + 1) rfl (by omega)
        · have c62 : o ≠ none := fun q => c62 (by rw [q]; rfl)
          refine V_aload_n d_K_leg_65 rfl ?_
          refine V_getfield d_K_leg_66 fl_K_13 (og_0) rfl ?_
          refine V_iload d_K_leg_69 rfl ?_
          refine V_iaload d_K_leg_71 (og_2 (by omega) (by omega)) ⟨rfl, by omega, by decide⟩ ?_
          refine V_iload_n d_K_leg_72 rfl ?_
          refine V_icmp_ne 91 d_K_leg_73 (by decide) (fun c73 => ?_) (fun c73 => ?_)
          · have c73 : ¬ la y = o := fun q => c73 (by rw [q])
            have ES : otN la o (6 * i + j) (y + 1) = otN la o (6 * i + j) y + 0 := by simp only [otN]; rw [if_neg (fun q => c73 q.2.1)]
            refine V_iconst (nI 0) d_K_leg_91 rfl ?_
            refine V_iaddN d_K_leg_92 ?_
            rw [← ES]
            refine V_istore_4 d_K_leg_93 rfl ?_
            refine V_iincN_5 1 d_K_leg_95 rfl rfl ?_
            refine V_goto 46 d_K_leg_98 (by decide) ?_
            exact ih (6 * c - (y + 1)) (by omega) (y + 1) rfl (by omega)
          · have c73 : la y = o := (en_inj (fun m q => hN.2.2.1 y m (by omega) q) ho).mp c73
            refine V_iload d_K_leg_76 rfl ?_
            refine V_bipush (nI 6) d_K_leg_78 rfl ?_
            refine V_iload_n d_K_leg_80 rfl ?_
            refine V_imulN d_K_leg_81 ?_
            refine V_iload_n d_K_leg_82 rfl ?_
            refine V_iaddN d_K_leg_83 ?_
            refine V_icmp_eqN 91 d_K_leg_84 (by decide) (by omega) (by omega) (fun c84 => ?_) (fun c84 => ?_)
            · have ES : otN la o (6 * i + j) (y + 1) = otN la o (6 * i + j) y + 0 := by simp only [otN]; rw [if_neg (fun q => q.2.2 c84)]
              refine V_iconst (nI 0) d_K_leg_91 rfl ?_
              refine V_iaddN d_K_leg_92 ?_
              rw [← ES]
              refine V_istore_4 d_K_leg_93 rfl ?_
              refine V_iincN_5 1 d_K_leg_95 rfl rfl ?_
              refine V_goto 46 d_K_leg_98 (by decide) ?_
              exact ih (6 * c - (y + 1)) (by omega) (y + 1) rfl (by omega)
            · have ES : otN la o (6 * i + j) (y + 1) = otN la o (6 * i + j) y + 1 := by simp only [otN]; rw [if_pos ⟨c62, c73, c84⟩]
              refine V_iconst (nI 1) d_K_leg_87 rfl ?_
              refine V_goto 92 d_K_leg_88 (by decide) ?_
              refine V_iaddN d_K_leg_92 ?_
              rw [← ES]
              refine V_istore_4 d_K_leg_93 rfl ?_
              refine V_iincN_5 1 d_K_leg_95 rfl rfl ?_
              refine V_goto 46 d_K_leg_98 (by decide) ?_
              exact ih (6 * c - (y + 1)) (by omega) (y + 1) rfl (by omega)
  refine V_eqH (ob_3 hk h1 h2) ?_
  refine V_aload_n d_K_leg_0 rfl ?_
  refine V_iconst (0) d_K_leg_1 rfl ?_
  refine V_put (e' := oK k (0) ((nI c)) (op) (sh) (sp) (tu) (gc) (my) (sr) (si) (so) (sx)) d_K_leg_2 fp_K_69 (og_0) rfl rfl rfl rfl (ou_0) ?_
  refine V_aload_n d_K_leg_5 rfl ?_
  refine V_iload_n d_K_leg_6 rfl ?_
  refine V_callV1 d_K_leg_7 ml_K_76 mB_K_isTensor mi_K_isTensor mv_K_isTensor rfl og_0 (c_K_isTensor l D _ _ og_0 (nI i)) rfl rfl rfl rfl rfl rfl rfl ?_
  rintro _ _ ⟨rfl, rfl⟩
  refine V_if_eq 38 d_K_leg_10 (by decide) (fun q => absurd q (by rw [show (decide (¬ nI i < 0) && decide (¬ nI c ≤ nI i)) = true by simp [nI_lt0 (show i < 2 ^ 31 by omega), nI_leI (show c < 2 ^ 31 by omega) (show i < 2 ^ 31 by omega)]; omega]; decide)) (fun _ => ?_)
  refine V_iload_n d_K_leg_13 rfl ?_
  refine V_if_lt 38 d_K_leg_14 (by decide) (fun q => absurd q (by rw [nI_lt0 (by omega)]; exact not_false)) (fun _ => ?_)
  refine V_iload_n d_K_leg_17 rfl ?_
  refine V_aload_n d_K_leg_18 rfl ?_
  refine V_getfield d_K_leg_19 fl_K_7 (og_0) rfl ?_
  refine V_iload_n d_K_leg_22 rfl ?_
  refine V_iaload d_K_leg_23 (og_1 (by omega)) ⟨rfl, by omega, by decide⟩ ?_
  refine V_icmp_geN 38 d_K_leg_24 (by decide) (by omega) (by omega) (fun q => by exfalso; omega) (fun _ => ?_)
  refine V_iload_n d_K_leg_27 rfl ?_
  refine V_iconst (-1) d_K_leg_28 rfl ?_
  refine V_icmp_lt 38 d_K_leg_29 (by decide) (fun q => absurd q hn1) (fun _ => ?_)
  refine V_iload_n d_K_leg_32 rfl ?_
  refine V_bipush (20) d_K_leg_33 rfl ?_
  refine V_icmp_lt 40 d_K_leg_35 (by decide) (fun _ => ?_) (fun q => absurd hn2 q)
  refine V_iconst (nI 0) d_K_leg_40 rfl ?_
  refine V_istore_4 d_K_leg_41 rfl ?_
  refine V_iconst (nI 0) d_K_leg_43 rfl ?_
  refine V_istore_5 d_K_leg_44 rfl ?_
  exact lp _ 0 rfl (Nat.zero_le _)
