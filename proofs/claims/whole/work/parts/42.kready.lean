-- THE MODEL: isReady
/-- all named, names met once, names met twice -/
abbrev rd3 : Type := Bool × Nat × Nat
def rdS (s : rd3) (o : Option Nat) : rd3 := (s.1 && o.isSome, s.2.1 ||| ob_ o, s.2.2 ||| (s.2.1 &&& ob_ o))
def rdP (g : Nat → Option Nat) (s : rd3) : Nat → rd3
  | 0 => s
  | p + 1 => rdS (rdP g s p) (g p)
def rdT (pl : Nat → Nat) (la : Nat → Option Nat) (b : Bool) : Nat → rd3
  | 0 => (b, 0, 0)
  | t + 1 => rdP (fun p => la (6 * t + p)) (rdT pl la b t) (pl t)
theorem nar_bZ (b : Bool) : narrow .boolean (.int (bZ b)) = .int (bZ b) := by cases b <;> rfl
theorem rdP_lt {g : Nat → Option Nat} {s : rd3} (hs : s.2.1 < 2 ^ 20 ∧ s.2.2 < 2 ^ 20) : ∀ p, (∀ q n, q < p → g q = some n → n < 20) → (rdP g s p).2.1 < 2 ^ 20 ∧ (rdP g s p).2.2 < 2 ^ 20
  | 0, _ => hs
  | p + 1, h => by
    obtain ⟨a, b⟩ := rdP_lt hs p (fun q n hq => h q n (by omega))
    have c := ob_lt (o := g p) (fun n => h p n (by omega))
    exact ⟨Nat.or_lt_two_pow a c, Nat.or_lt_two_pow b (Nat.lt_of_le_of_lt Nat.and_le_left a)⟩
theorem rdT_lt {pl : Nat → Nat} {la : Nat → Option Nat} {b : Bool} (hl : ∀ q n, q < 60 → la q = some n → n < 20) : ∀ t, t ≤ 10 → (∀ i, i < t → pl i ≤ 6) → (rdT pl la b t).2.1 < 2 ^ 20 ∧ (rdT pl la b t).2.2 < 2 ^ 20
  | 0, _, _ => ⟨Nat.two_pow_pos 20, Nat.two_pow_pos 20⟩
  | t + 1, ht, h => rdP_lt (rdT_lt hl t (by omega) (fun i hi => h i (by omega))) _ (fun q n hq e => hl _ n (by have := h t (by omega); omega) e)
set_option maxRecDepth 100000 in
set_option maxHeartbeats 4000000 in
theorem c_K_isReady (l : Launch) (D : hv_D) (h : hv_P) (nx : Nat) {k c : Nat} {th op sh sp tu gc my so sx : Int32} {sr si : Int64} (hk : h k = some (oK k th (nI c) op sh sp tu gc my sr si so sx)) {pl sg0 : Nat → Nat} {la : Nat → Option Nat} (hp0 : h (k + 1) = some (eN 10 pl)) (hl0 : h (k + 2) = some (eM 60 la)) (hs0 : h (k + 5) = some (eN 10 sg0)) (hc : c ≤ 10) (hpl : ∀ t, t < c → pl t ≤ 6) (hla : ∀ q n, q < 60 → la q = some n → n < 20) : hv_N l D M_K_isReady (hv_rm 0 0 0 0) [.ref k] h nx (hv_ans (some (.int (bZ (rdT pl la (decide (0 < c)) c).1))) (fun h' n' => h' = hv_ov h [(k, oK k (th) ((nI c)) (nI (anN (rdT pl la (decide (0 < c)) c).2.1 (rdT pl la (decide (0 < c)) c).2.2)) (nI (rdT pl la (decide (0 < c)) c).2.2) (sp) (tu) (gc) (my) (sr) (si) (so) (sx)), (k + 1, eN 10 pl), (k + 2, eM 60 la), (k + 5, eN 10 (hv_cp (fun j => lgx (fun p => la (6 * j + p)) (pl j)) sg0 c))] ∧ n' = nx)) := by
  have lp1 : ∀ b0 : Bool, b0 = decide (0 < c) → ∀ (kk t : Nat), kk = c - t → t ≤ c → hv_V l D M_K_isReady (fun _ _ => True) (hv_rm 0 0 0 0) (hv_ans (some (.int (bZ (rdT pl la (decide (0 < c)) c).1))) (fun h' n' => h' = hv_ov h [(k, oK k (th) ((nI c)) (nI (anN (rdT pl la (decide (0 < c)) c).2.1 (rdT pl la (decide (0 < c)) c).2.2)) (nI (rdT pl la (decide (0 < c)) c).2.2) (sp) (tu) (gc) (my) (sr) (si) (so) (sx)), (k + 1, eN 10 pl), (k + 2, eM 60 la), (k + 5, eN 10 (hv_cp (fun j => lgx (fun p => la (6 * j + p)) (pl j)) sg0 c))] ∧ n' = nx)) 0 0 (hv_ov h [(k, oK k (th) ((nI c)) (op) (sh) (sp) (tu) (gc) (my) (sr) (si) (so) (sx)), (k + 1, eN 10 pl), (k + 2, eM 60 la), (k + 5, eN 10 (hv_cp (fun j => lgx (fun p => la (6 * j + p)) (pl j)) sg0 t))]) nx 20 [some (.ref k), some (.int (nI (rdT pl la b0 t).2.1)), some (.int (nI (rdT pl la b0 t).2.2)), some (.int (bZ (rdT pl la b0 t).1)), some (.int (nI t)), none, none] [] := by
    intro b0 hb0 kk
    induction kk using Nat.strongRecOn with
    | ind kk iho =>
      intro t hkk hi
      refine V_iload d_K_isReady_20 rfl ?_
      refine V_aload_n d_K_isReady_22 rfl ?_
      refine V_getfield d_K_isReady_23 fl_K_73 (og_0) rfl ?_
      refine V_icmp_geN 134 d_K_isReady_26 (by decide) (by omega) (by omega) (fun ct => ?_) (fun ct => ?_)
      · have et : t = c := by omega
        subst et
        rw [hb0]
        have hlt := rdT_lt (b := decide (0 < t)) hla t hc (fun i hi => hpl i hi)
        refine V_aload_n d_K_isReady_134 rfl ?_
        refine V_iload_n d_K_isReady_135 rfl ?_
        refine V_iload_n d_K_isReady_136 rfl ?_
        refine V_iconst (-1) d_K_isReady_137 rfl ?_
        refine V_ixor d_K_isReady_138 ?_
        refine V_iand d_K_isReady_139 ?_
        refine V_eqI (nx_andn _ _) ?_
        refine V_put (e' := oK k (th) (nI t) (nI (anN (rdT pl la (decide (0 < t)) t).2.1 (rdT pl la (decide (0 < t)) t).2.2)) (sh) (sp) (tu) (gc) (my) (sr) (si) (so) (sx)) d_K_isReady_140 fp_K_84 (og_0) rfl rfl rfl rfl (ou_0) ?_
        refine V_aload_n d_K_isReady_143 rfl ?_
        refine V_iload_n d_K_isReady_144 rfl ?_
        refine V_put (e' := oK k (th) (nI t) (nI (anN (rdT pl la (decide (0 < t)) t).2.1 (rdT pl la (decide (0 < t)) t).2.2)) (nI (rdT pl la (decide (0 < t)) t).2.2) (sp) (tu) (gc) (my) (sr) (si) (so) (sx)) d_K_isReady_145 fp_K_87 (og_0) rfl rfl rfl rfl (ou_0) ?_
        refine V_iload_n d_K_isReady_148 rfl ?_
        exact V_zreturn d_K_isReady_149 rfl (nar_bZ _) ⟨rfl, rfl, rfl⟩
      · refine V_aload_n d_K_isReady_29 rfl ?_
        refine V_getfield d_K_isReady_30 fl_K_22 (og_0) rfl ?_
        refine V_iload d_K_isReady_33 rfl ?_
        refine V_iconst (nI 0) d_K_isReady_35 rfl ?_
        refine V_istN d_K_isReady_36 (og_3 (by omega) (by omega) (by omega)) ⟨rfl, by omega, by decide⟩ (ou_3 (by omega) (by omega) (by omega)) ?_
        refine V_iconst (nI 0) d_K_isReady_37 rfl ?_
        refine V_istore_5 d_K_isReady_38 rfl ?_
        have lp2 : ∀ (kk p : Nat), kk = (pl t) - p → p ≤ (pl t) → hv_V l D M_K_isReady (fun _ _ => True) (hv_rm 0 0 0 0) (hv_ans (some (.int (bZ (rdT pl la (decide (0 < c)) c).1))) (fun h' n' => h' = hv_ov h [(k, oK k (th) ((nI c)) (nI (anN (rdT pl la (decide (0 < c)) c).2.1 (rdT pl la (decide (0 < c)) c).2.2)) (nI (rdT pl la (decide (0 < c)) c).2.2) (sp) (tu) (gc) (my) (sr) (si) (so) (sx)), (k + 1, eN 10 pl), (k + 2, eM 60 la), (k + 5, eN 10 (hv_cp (fun j => lgx (fun p => la (6 * j + p)) (pl j)) sg0 c))] ∧ n' = nx)) 0 0 (hv_ov h [(k, oK k (th) ((nI c)) (op) (sh) (sp) (tu) (gc) (my) (sr) (si) (so) (sx)), (k + 1, eN 10 pl), (k + 2, eM 60 la), (k + 5, eN 10 (va_up (hv_cp (fun j => lgx (fun p => la (6 * j + p)) (pl j)) sg0 t) t (lgx (fun p => la (6 * t + p)) (p))))]) nx 40 [some (.ref k), some (.int (nI (rdP (fun p => la (6 * t + p)) (rdT pl la b0 t) p).2.1)), some (.int (nI (rdP (fun p => la (6 * t + p)) (rdT pl la b0 t) p).2.2)), some (.int (bZ (rdP (fun p => la (6 * t + p)) (rdT pl la b0 t) p).1)), some (.int (nI t)), some (.int (nI p)), none] [] := by
          intro kk
          induction kk using Nat.strongRecOn with
          | ind kk ih =>
            intro p hkk hi
            refine V_iload d_K_isReady_40 rfl ?_
            refine V_aload_n d_K_isReady_42 rfl ?_
            refine V_getfield d_K_isReady_43 fl_K_7 (og_0) rfl ?_
            refine V_iload d_K_isReady_46 rfl ?_
            refine V_iaload d_K_isReady_48 (og_1 (by omega)) ⟨rfl, by omega, by decide⟩ ?_
            refine V_icmp_geN 128 d_K_isReady_49 (by decide) (by have := hpl t (by omega); omega) (by have := hpl t (by omega); omega) (fun cp => ?_) (fun cp => ?_)
            · have ep : p = pl t := by omega
              subst ep
              refine V_iincN_4 1 d_K_isReady_128 rfl rfl ?_
              refine V_goto 20 d_K_isReady_131 (by decide) ?_
              rw [hv_cp_s (f := (fun j => lgx (fun p => la (6 * j + p)) (pl j)))]
              refine V_drop_5 ?_
              exact iho (c - (t + 1)) (by omega) (t + 1) rfl (by omega)
            · have hp6 := hpl t (by omega)
              refine V_aload_n d_K_isReady_52 rfl ?_
              refine V_getfield d_K_isReady_53 fl_K_13 (og_0) rfl ?_
              refine V_bipush (nI 6) d_K_isReady_56 rfl ?_
              refine V_iload d_K_isReady_58 rfl ?_
              refine V_imulN d_K_isReady_60 ?_
              refine V_iload d_K_isReady_61 rfl ?_
              refine V_iaddN d_K_isReady_63 ?_
              refine V_iaload d_K_isReady_64 (og_2 (by omega) (by omega)) ⟨rfl, by omega, by decide⟩ ?_
              refine V_istore_6 d_K_isReady_65 rfl ?_
              rcases hn : la (6 * t + p) with _ | n <;> rcases hb : (rdP (fun p => la (6 * t + p)) (rdT pl la b0 t) p).1 with _ | _
              · have ES : rdP (fun p => la (6 * t + p)) (rdT pl la b0 t) (p + 1) = (false, (rdP (fun p => la (6 * t + p)) (rdT pl la b0 t) p).2.1, (rdP (fun p => la (6 * t + p)) (rdT pl la b0 t) p).2.2) := by show rdS (rdP (fun p => la (6 * t + p)) (rdT pl la b0 t) p) (la (6 * t + p)) = _; rw [hn]; simp [rdS, ob_]
                have EL : lgx (fun p => la (6 * t + p)) (p + 1) = lgx (fun p => la (6 * t + p)) p := by show lgx _ p ^^^ ob_ (la (6 * t + p)) = _; rw [hn]; exact Nat.xor_zero _
                refine V_iload_n d_K_isReady_67 rfl ?_
                refine V_if_eq 81 d_K_isReady_68 (by decide) (fun _ => ?_) (fun q => absurd rfl q)
                refine V_iconst (bZ false) d_K_isReady_81 rfl ?_
                refine V_istore_3 d_K_isReady_82 rfl ?_
                refine V_iload d_K_isReady_83 rfl ?_
                refine V_iconst (-1) d_K_isReady_85 rfl ?_
                refine V_icmp_ne 92 d_K_isReady_86 (by decide) (fun q => absurd rfl q) (fun _ => ?_)
                refine V_goto 122 d_K_isReady_89 (by decide) ?_
                refine V_iincN_5 1 d_K_isReady_122 rfl rfl ?_
                refine V_goto 40 d_K_isReady_125 (by decide) ?_
                have J := ih (pl t - (p + 1)) (by omega) (p + 1) rfl (by omega)
                rw [ES, EL] at J
                refine V_drop_6 ?_
                exact J
              · have ES : rdP (fun p => la (6 * t + p)) (rdT pl la b0 t) (p + 1) = (false, (rdP (fun p => la (6 * t + p)) (rdT pl la b0 t) p).2.1, (rdP (fun p => la (6 * t + p)) (rdT pl la b0 t) p).2.2) := by show rdS (rdP (fun p => la (6 * t + p)) (rdT pl la b0 t) p) (la (6 * t + p)) = _; rw [hn]; simp [rdS, ob_]
                have EL : lgx (fun p => la (6 * t + p)) (p + 1) = lgx (fun p => la (6 * t + p)) p := by show lgx _ p ^^^ ob_ (la (6 * t + p)) = _; rw [hn]; exact Nat.xor_zero _
                refine V_iload_n d_K_isReady_67 rfl ?_
                refine V_if_eq 81 d_K_isReady_68 (by decide) (fun q => absurd q (by decide)) (fun _ => ?_)
                refine V_iload d_K_isReady_71 rfl ?_
                refine V_iconst (-1) d_K_isReady_73 rfl ?_
                refine V_icmp_eq 81 d_K_isReady_74 (by decide) (fun _ => ?_) (fun q => absurd rfl q)
                refine V_iconst (bZ false) d_K_isReady_81 rfl ?_
                refine V_istore_3 d_K_isReady_82 rfl ?_
                refine V_iload d_K_isReady_83 rfl ?_
                refine V_iconst (-1) d_K_isReady_85 rfl ?_
                refine V_icmp_ne 92 d_K_isReady_86 (by decide) (fun q => absurd rfl q) (fun _ => ?_)
                refine V_goto 122 d_K_isReady_89 (by decide) ?_
                refine V_iincN_5 1 d_K_isReady_122 rfl rfl ?_
                refine V_goto 40 d_K_isReady_125 (by decide) ?_
                have J := ih (pl t - (p + 1)) (by omega) (p + 1) rfl (by omega)
                rw [ES, EL] at J
                refine V_drop_6 ?_
                exact J
              · have ES : rdP (fun p => la (6 * t + p)) (rdT pl la b0 t) (p + 1) = (false, (rdP (fun p => la (6 * t + p)) (rdT pl la b0 t) p).2.1 ||| 2 ^ n, (rdP (fun p => la (6 * t + p)) (rdT pl la b0 t) p).2.2 ||| ((rdP (fun p => la (6 * t + p)) (rdT pl la b0 t) p).2.1 &&& 2 ^ n)) := by show rdS (rdP (fun p => la (6 * t + p)) (rdT pl la b0 t) p) (la (6 * t + p)) = _; rw [hn]; simp [rdS, ob_, hb]
                have EL : lgx (fun p => la (6 * t + p)) (p + 1) = lgx (fun p => la (6 * t + p)) p ^^^ 2 ^ n := by show lgx _ p ^^^ ob_ (la (6 * t + p)) = _; rw [hn]; rfl
                have hn20 := hla _ n (show 6 * t + p < 60 by omega) hn
                refine V_iload_n d_K_isReady_67 rfl ?_
                refine V_if_eq 81 d_K_isReady_68 (by decide) (fun _ => ?_) (fun q => absurd rfl q)
                refine V_iconst (bZ false) d_K_isReady_81 rfl ?_
                refine V_istore_3 d_K_isReady_82 rfl ?_
                refine V_iload d_K_isReady_83 rfl ?_
                refine V_iconst (-1) d_K_isReady_85 rfl ?_
                refine V_icmp_ne 92 d_K_isReady_86 (by decide) (fun _ => ?_) (fun q => absurd q (en_ne hn20))
                refine V_aload_n d_K_isReady_92 rfl ?_
                refine V_getfield d_K_isReady_93 fl_K_22 (og_0) rfl ?_
                refine V_iload d_K_isReady_96 rfl ?_
                refine V_dup2 d_K_isReady_98 rfl rfl ?_
                refine V_iaload d_K_isReady_99 (og_3 (by omega) (by omega) (by omega)) ⟨rfl, by omega, by decide⟩ ?_
                refine V_eqI (y := nI (lgx (fun p => la (6 * t + p)) p)) (congrArg nI (if_pos rfl)) ?_
                refine V_iconst (nI 1) d_K_isReady_100 rfl ?_
                refine V_iload (x := nI n) d_K_isReady_101 rfl ?_
                refine V_ishlN d_K_isReady_103 (by omega) ?_
                rw [Nat.one_mul]
                refine V_ixorN d_K_isReady_104 ?_
                refine V_istN d_K_isReady_105 (og_3 (by omega) (by omega) (by omega)) ⟨rfl, by omega, by decide⟩ (h' := hv_ov h [(k, oK k (th) ((nI c)) (op) (sh) (sp) (tu) (gc) (my) (sr) (si) (so) (sx)), (k + 1, eN 10 pl), (k + 2, eM 60 la), (k + 5, eN 10 (va_up (hv_cp (fun j => lgx (fun p => la (6 * j + p)) (pl j)) sg0 t) t (lgx (fun p => la (6 * t + p)) (p + 1))))]) (by rw [va_up_up, EL]; exact ou_3 (by omega) (by omega) (by omega)) ?_
                refine V_iload_n d_K_isReady_106 rfl ?_
                refine V_iload_n d_K_isReady_107 rfl ?_
                refine V_iconst (nI 1) d_K_isReady_108 rfl ?_
                refine V_iload (x := nI n) d_K_isReady_109 rfl ?_
                refine V_ishlN d_K_isReady_111 (by omega) ?_
                rw [Nat.one_mul]
                refine V_iandN d_K_isReady_112 ?_
                refine V_iorN d_K_isReady_113 ?_
                refine V_istore_2 d_K_isReady_114 rfl ?_
                refine V_iload_n d_K_isReady_115 rfl ?_
                refine V_iconst (nI 1) d_K_isReady_116 rfl ?_
                refine V_iload (x := nI n) d_K_isReady_117 rfl ?_
                refine V_ishlN d_K_isReady_119 (by omega) ?_
                rw [Nat.one_mul]
                refine V_iorN d_K_isReady_120 ?_
                refine V_istore_1 d_K_isReady_121 rfl ?_
                refine V_iincN_5 1 d_K_isReady_122 rfl rfl ?_
                refine V_goto 40 d_K_isReady_125 (by decide) ?_
                have J := ih (pl t - (p + 1)) (by omega) (p + 1) rfl (by omega)
                rw [ES] at J
                refine V_drop_6 ?_
                exact J
              · have ES : rdP (fun p => la (6 * t + p)) (rdT pl la b0 t) (p + 1) = (true, (rdP (fun p => la (6 * t + p)) (rdT pl la b0 t) p).2.1 ||| 2 ^ n, (rdP (fun p => la (6 * t + p)) (rdT pl la b0 t) p).2.2 ||| ((rdP (fun p => la (6 * t + p)) (rdT pl la b0 t) p).2.1 &&& 2 ^ n)) := by show rdS (rdP (fun p => la (6 * t + p)) (rdT pl la b0 t) p) (la (6 * t + p)) = _; rw [hn]; simp [rdS, ob_, hb]
                have EL : lgx (fun p => la (6 * t + p)) (p + 1) = lgx (fun p => la (6 * t + p)) p ^^^ 2 ^ n := by show lgx _ p ^^^ ob_ (la (6 * t + p)) = _; rw [hn]; rfl
                have hn20 := hla _ n (show 6 * t + p < 60 by omega) hn
                refine V_iload_n d_K_isReady_67 rfl ?_
                refine V_if_eq 81 d_K_isReady_68 (by decide) (fun q => absurd q (by decide)) (fun _ => ?_)
                refine V_iload d_K_isReady_71 rfl ?_
                refine V_iconst (-1) d_K_isReady_73 rfl ?_
                refine V_icmp_eq 81 d_K_isReady_74 (by decide) (fun q => absurd q (en_ne hn20)) (fun _ => ?_)
                refine V_iconst (bZ true) d_K_isReady_77 rfl ?_
                refine V_goto 82 d_K_isReady_78 (by decide) ?_
                refine V_istore_3 d_K_isReady_82 rfl ?_
                refine V_iload d_K_isReady_83 rfl ?_
                refine V_iconst (-1) d_K_isReady_85 rfl ?_
                refine V_icmp_ne 92 d_K_isReady_86 (by decide) (fun _ => ?_) (fun q => absurd q (en_ne hn20))
                refine V_aload_n d_K_isReady_92 rfl ?_
                refine V_getfield d_K_isReady_93 fl_K_22 (og_0) rfl ?_
                refine V_iload d_K_isReady_96 rfl ?_
                refine V_dup2 d_K_isReady_98 rfl rfl ?_
                refine V_iaload d_K_isReady_99 (og_3 (by omega) (by omega) (by omega)) ⟨rfl, by omega, by decide⟩ ?_
                refine V_eqI (y := nI (lgx (fun p => la (6 * t + p)) p)) (congrArg nI (if_pos rfl)) ?_
                refine V_iconst (nI 1) d_K_isReady_100 rfl ?_
                refine V_iload (x := nI n) d_K_isReady_101 rfl ?_
                refine V_ishlN d_K_isReady_103 (by omega) ?_
                rw [Nat.one_mul]
                refine V_ixorN d_K_isReady_104 ?_
                refine V_istN d_K_isReady_105 (og_3 (by omega) (by omega) (by omega)) ⟨rfl, by omega, by decide⟩ (h' := hv_ov h [(k, oK k (th) ((nI c)) (op) (sh) (sp) (tu) (gc) (my) (sr) (si) (so) (sx)), (k + 1, eN 10 pl), (k + 2, eM 60 la), (k + 5, eN 10 (va_up (hv_cp (fun j => lgx (fun p => la (6 * j + p)) (pl j)) sg0 t) t (lgx (fun p => la (6 * t + p)) (p + 1))))]) (by rw [va_up_up, EL]; exact ou_3 (by omega) (by omega) (by omega)) ?_
                refine V_iload_n d_K_isReady_106 rfl ?_
                refine V_iload_n d_K_isReady_107 rfl ?_
                refine V_iconst (nI 1) d_K_isReady_108 rfl ?_
                refine V_iload (x := nI n) d_K_isReady_109 rfl ?_
                refine V_ishlN d_K_isReady_111 (by omega) ?_
                rw [Nat.one_mul]
                refine V_iandN d_K_isReady_112 ?_
                refine V_iorN d_K_isReady_113 ?_
                refine V_istore_2 d_K_isReady_114 rfl ?_
                refine V_iload_n d_K_isReady_115 rfl ?_
                refine V_iconst (nI 1) d_K_isReady_116 rfl ?_
                refine V_iload (x := nI n) d_K_isReady_117 rfl ?_
                refine V_ishlN d_K_isReady_119 (by omega) ?_
                rw [Nat.one_mul]
                refine V_iorN d_K_isReady_120 ?_
                refine V_istore_1 d_K_isReady_121 rfl ?_
                refine V_iincN_5 1 d_K_isReady_122 rfl rfl ?_
                refine V_goto 40 d_K_isReady_125 (by decide) ?_
                have J := ih (pl t - (p + 1)) (by omega) (p + 1) rfl (by omega)
                rw [ES] at J
                refine V_drop_6 ?_
                exact J
        exact lp2 _ 0 rfl (Nat.zero_le _)
  refine hv_N.of' [some (.ref k), none, none, none, none, none, none] (by decide +kernel) rfl rfl rfl ?_
  refine V_eqH (ob_4 hk hp0 hl0 hs0) ?_
  refine V_iconst (nI 0) d_K_isReady_0 rfl ?_
  refine V_istore_1 d_K_isReady_1 rfl ?_
  refine V_iconst (nI 0) d_K_isReady_2 rfl ?_
  refine V_istore_2 d_K_isReady_3 rfl ?_
  refine V_aload_n d_K_isReady_4 rfl ?_
  refine V_getfield d_K_isReady_5 fl_K_73 (og_0) rfl ?_
  refine V_if_leN 15 d_K_isReady_8 (by decide) (by omega) (fun c8 => ?_) (fun c8 => ?_)
  · have hb : false = decide (0 < c) := by rw [c8]; rfl
    refine V_iconst (bZ false) d_K_isReady_15 rfl ?_
    refine V_istore_3 d_K_isReady_16 rfl ?_
    refine V_iconst (nI 0) d_K_isReady_17 rfl ?_
    refine V_istore_4 d_K_isReady_18 rfl ?_
    have J := lp1 _ hb _ 0 rfl (Nat.zero_le _)
    rw [hv_cp_0] at J
    exact J
  · have hb : true = decide (0 < c) := by simp; omega
    refine V_iconst (bZ true) d_K_isReady_11 rfl ?_
    refine V_goto 16 d_K_isReady_12 (by decide) ?_
    refine V_istore_3 d_K_isReady_16 rfl ?_
    refine V_iconst (nI 0) d_K_isReady_17 rfl ?_
    refine V_istore_4 d_K_isReady_18 rfl ?_
    have J := lp1 _ hb _ 0 rfl (Nat.zero_le _)
    rw [hv_cp_0] at J
    exact J
