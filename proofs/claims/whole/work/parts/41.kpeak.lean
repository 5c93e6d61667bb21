-- THE MODEL: findSteps, peakNow, isEnough
theorem gd_FI {l1 : Nat → Nat} {c : Nat} (hl : ∀ t, t < c → l1 t < 2 ^ 20) (hc : c ≤ 10) : ∀ n S, S ≠ 0 → S < 2 ^ c → pc_ S ≤ n → gd (FI l1) n S
  | 0, S, h0, hS, hp => by
    have h10 : (2 : Nat) ^ c ≤ 2 ^ 10 := Nat.pow_le_pow_right (by decide) hc
    have := pc_pos S (by omega) h0
    omega
  | n + 1, S, h0, hS, hp => by
    have h10 : (2 : Nat) ^ c ≤ 2 ^ 10 := Nat.pow_le_pow_right (by decide) hc
    refine ⟨⟨h0, by omega⟩, ?_⟩
    by_cases h1 : S &&& (S - 1) = 0
    · exact Or.inl h1
    · obtain ⟨x, x1, x2, x3, x4, x5⟩ := CO_ge hl hc hS h0 h1
      obtain ⟨p1, p2, p3, p4, p5, p6, p7⟩ := part_facts (by omega) h0 x2 x1
      rw [← x4] at p2 p3 p4 p7
      rw [← p7] at p5 p6
      have pp := pc_part p2
      have q1 := pc_pos (FI l1 S) (by omega) (by omega)
      have q2 := pc_pos (S ^^^ FI l1 S) (by omega) (by omega)
      exact Or.inr ⟨⟨p2, by omega, by omega⟩, gd_FI hl hc n _ (by omega) (by omega) (by omega), gd_FI hl hc n _ (by omega) (by omega) (by omega)⟩
/-- the stack V, what has been listed O -/
def ksV (fi : Nat → Nat) (al v : Nat) (V O : List Nat) (ss wt : Nat → Nat) : Prop := (∀ S ∈ V, gd fi 10 S ∧ S ≤ al) ∧ v + 2 * szs V = 2 * pc_ al - 1 + V.length ∧ szs V ≤ pc_ al ∧ (∀ i, i < V.length → V[i]? = some (wt i)) ∧ pv fi 10 al = O ++ rem_ fi V ∧ (∀ j, j < O.length → O[j]? = some (ss j))
theorem ks_top {fi : Nat → Nat} {al v : Nat} {V0 O : List Nat} {S : Nat} {ss wt : Nat → Nat} (h : ksV fi al v (V0 ++ [S]) O ss wt) : wt V0.length = S ∧ gd fi 10 S ∧ S ≠ 0 ∧ S < 1024 ∧ S ≤ al := by
  have h1 := h.2.2.2.1 V0.length (by simp)
  have h2 := h.1 S (by simp)
  simp at h1
  exact ⟨h1.symm, h2.1, h2.1.1.1, h2.1.1.2, h2.2⟩
theorem ks_one {fi : Nat → Nat} {al v : Nat} {V0 O : List Nat} {S : Nat} {ss wt : Nat → Nat} (h : ksV fi al v (V0 ++ [S]) O ss wt) (c0 : S &&& (S - 1) = 0) : ksV fi al (v + 1) V0 O ss wt := by
  obtain ⟨t1, t2, t3, t4, t5⟩ := ks_top h
  obtain ⟨h1, h2, h3, h4, h5, h6⟩ := h
  have e : rem_ fi (V0 ++ [S]) = rem_ fi V0 := by rw [rem_s]; simp [pv, c0]
  have p1 := (pc_one S t4 t3).mp c0
  rw [szs_s, p1] at h2 h3
  rw [e] at h5
  refine ⟨fun x hx => h1 x (by simp [hx]), by simp at h2; omega, by omega, fun i hi => ?_, h5, h6⟩
  have := h4 i (by simp; omega)
  rw [List.getElem?_append_left hi] at this
  exact this
theorem ks_two {fi : Nat → Nat} {al v : Nat} {V0 O : List Nat} {S : Nat} {ss wt : Nat → Nat} (h : ksV fi al v (V0 ++ [S]) O ss wt) (c0 : ¬ S &&& (S - 1) = 0) : ksV fi al (v + 1) (V0 ++ [fi S, S ^^^ fi S]) (O ++ [S]) (va_up ss O.length S) (va_up (va_up wt V0.length (fi S)) (V0.length + 1) (S ^^^ fi S)) := by
  obtain ⟨t1, t2, t3, t4, t5⟩ := ks_top h
  obtain ⟨h1, h2, h3, h4, h5, h6⟩ := h
  obtain ⟨q, g1, g2⟩ := t2.2.resolve_left c0
  have e := rem_2 (V := V0) t2 c0
  have le := sub_add q.1
  have hsz : szs (V0 ++ [fi S, S ^^^ fi S]) = szs (V0 ++ [S]) := by
    have := pc_part q.1
    simp [szs]
    omega
  refine ⟨fun x hx => ?_, by rw [hsz]; simp at h2 ⊢; omega, by rw [hsz]; exact h3, fun i hi => ?_, by rw [h5, e]; simp, fun j hj => ?_⟩
  · simp at hx
    rcases hx with hx | rfl | rfl
    · exact h1 x (by simp [hx])
    · exact ⟨gd_mono g1, by omega⟩
    · exact ⟨gd_mono g2, by omega⟩
  · simp at hi
    by_cases c1 : i < V0.length
    · rw [List.getElem?_append_left c1]
      have := h4 i (by simp; omega)
      rw [List.getElem?_append_left c1] at this
      simp only [va_up, if_neg (show ¬ i = V0.length + 1 by omega), if_neg (show ¬ i = V0.length by omega)]
      exact this
    · by_cases c2 : i = V0.length
      · subst c2
        simp [va_up]
      · have : i = V0.length + 1 := by omega
        subst this
        rw [List.getElem?_append_right (by omega)]
        simp [va_up]
  · simp at hj
    by_cases c1 : j < O.length
    · rw [List.getElem?_append_left c1]
      simp only [va_up, if_neg (show ¬ j = O.length by omega)]
      exact h6 j c1
    · have : j = O.length := by omega
      subst this
      simp [va_up]
theorem ks_len {fi : Nat → Nat} {al v : Nat} {V O : List Nat} {ss wt : Nat → Nat} (hg : gd fi 10 al) (h : ksV fi al v V O ss wt) : V.length ≤ szs V ∧ O.length + (rem_ fi V).length + 1 = pc_ al ∧ (rem_ fi V).length + V.length = szs V := by
  have g : ∀ S ∈ V, gd fi 10 S := fun S hS => (h.1 S hS).1
  have e := congrArg List.length h.2.2.2.2.1
  rw [List.length_append] at e
  have := pv_len hg
  exact ⟨len_szs g, by omega, rem_len g⟩
theorem ks_two_len {fi : Nat → Nat} {al v : Nat} {V0 O : List Nat} {S : Nat} {ss wt : Nat → Nat} (hg : gd fi 10 al) (h : ksV fi al v (V0 ++ [S]) O ss wt) (c0 : ¬ S &&& (S - 1) = 0) : O.length + 1 < pc_ al ∧ V0.length + 2 ≤ pc_ al := by
  have h2 := ks_two h c0
  obtain ⟨a, b, c⟩ := ks_len hg h2
  have d := h2.2.2.1
  simp at a b
  omega
theorem anN_sub {S x : Nat} (h : x &&& S = x) : anN S x = S ^^^ x := by unfold anN; rw [Nat.and_comm S x, h]
theorem mlB_iff {f md : Nat → Nat} {b X : Nat} : ∀ n, mlB f md b n ≤ X ↔ b ≤ X ∧ ∀ i, i < n → pc_ (f (md i)) ≤ X
  | 0 => by simp [mlB]
  | n + 1 => by
    simp only [mlB, Nat.max_le, mlB_iff n]
    constructor
    · rintro ⟨⟨a, h⟩, q⟩
      refine ⟨a, fun i hi => ?_⟩
      by_cases e : i = n
      · rw [e]; exact q
      · exact h i (by omega)
    · rintro ⟨a, h⟩
      exact ⟨⟨a, fun i hi => h i (by omega)⟩, h n (by omega)⟩
theorem mlB_rev {f md md' : Nat → Nat} {b n : Nat} (h : ∀ i, i < n → md i = md' (n - 1 - i)) : mlB f md b n = mlB f md' b n := by
  apply Nat.le_antisymm
  · refine (mlB_iff n).mpr ⟨((mlB_iff n).mp (Nat.le_refl _)).1, fun i hi => ?_⟩
    rw [h i hi]
    exact ((mlB_iff n).mp (Nat.le_refl _)).2 _ (by omega)
  · refine (mlB_iff n).mpr ⟨((mlB_iff n).mp (Nat.le_refl _)).1, fun i hi => ?_⟩
    have := h (n - 1 - i) (by omega)
    rw [show n - 1 - (n - 1 - i) = i by omega] at this
    rw [← this]
    exact ((mlB_iff n).mp (Nat.le_refl _)).2 _ (by omega)
/-- the sets of the steps, the last step first -/
def SS (l1 : Nat → Nat) (c : Nat) (j : Nat) : Nat := (pv (FI l1) 10 (2 ^ c - 1)).getD j 0
theorem SS_MD {l1 : Nat → Nat} {c : Nat} (hc : 1 ≤ c) {i : Nat} (h : i < c - 1) : SS l1 c i = MD l1 c (c - 1 - 1 - i) := by
  unfold SS MD
  rw [show c - 2 - (c - 1 - 1 - i) = i by omega]
theorem SS_in {l1 : Nat → Nat} {c : Nat} (hc1 : 1 ≤ c) (hc : c ≤ 10) (hg : gd (FI l1) 10 (2 ^ c - 1)) {i : Nat} (h : i < c - 1) : SS l1 c i ∈ pv (FI l1) 10 (2 ^ c - 1) ∧ SS l1 c i ≠ 0 ∧ SS l1 c i < 2 ^ c := by
  have hp := Nat.two_pow_pos c
  rw [SS_MD hc1 h]
  have := MD_in hc1 hc hg (show c - 1 - 1 - i < c - 1 by omega)
  exact ⟨this, pv_sub (m := c) 10 _ (by omega) hg _ this⟩
set_option maxRecDepth 100000 in
set_option maxHeartbeats 4000000 in
theorem c_K_findSteps (l : Launch) (D : hv_D) (h : hv_P) (nx : Nat) {k c : Nat} {th op sh sp tu gc my so sx : Int32} {sr si : Int64} (hk : h k = some (oK k th (nI c) op sh sp tu gc my sr si so sx)) {fi ss0 wt0 : Nat → Nat} (hf : h (k + 8) = some (eN 1024 fi)) (hss : h (k + 9) = some (eN 10 ss0)) (hwt : h (k + 10) = some (eN 20 wt0)) (hc1 : 1 ≤ c) (hc : c ≤ 10) (hgd : gd fi 10 (2 ^ c - 1)) (hz : ∀ S, 1 ≤ S → S ≤ 2 ^ c - 1 → S &&& (S - 1) = 0 → fi S = 0) (hfi : ∀ S, 1 ≤ S → S ≤ 2 ^ c - 1 → fi S < 2 ^ 31) : hv_N l D M_K_findSteps (hv_rm 1 20 0 0) [.ref k] h nx (hv_ans none (fun h' n' => n' = nx ∧ ∃ ss' wt' : Nat → Nat, h' = hv_ov h [(k, oK k (th) ((nI c)) (op) (sh) (nI (c - 1)) (tu) (gc) (my) (sr) (si) (so) (sx)), (k + 8, eN 1024 fi), (k + 9, eN 10 (ss')), (k + 10, eN 20 (wt'))] ∧ ∀ j, j < c - 1 → ss' j = (pv fi 10 (2 ^ c - 1)).getD j 0)) := by
  have hpc := pc_all c hc
  have lp : ∀ (kk v : Nat), kk = (2 * c) - v → v ≤ (2 * c) → ∀ (V O : List Nat) (ss wt : Nat → Nat), ksV fi (2 ^ c - 1) v V O ss wt → hv_V l D M_K_findSteps (fun _ _ => True) (hv_rm 1 20 0 0) (hv_ans none (fun h' n' => n' = nx ∧ ∃ ss' wt' : Nat → Nat, h' = hv_ov h [(k, oK k (th) ((nI c)) (op) (sh) (nI (c - 1)) (tu) (gc) (my) (sr) (si) (so) (sx)), (k + 8, eN 1024 fi), (k + 9, eN 10 (ss')), (k + 10, eN 20 (wt'))] ∧ ∀ j, j < c - 1 → ss' j = (pv fi 10 (2 ^ c - 1)).getD j 0)) 0 0 (hv_ov h [(k, oK k (th) ((nI c)) (op) (sh) (nI O.length) (tu) (gc) (my) (sr) (si) (so) (sx)), (k + 8, eN 1024 fi), (k + 9, eN 10 (ss)), (k + 10, eN 20 (wt))]) nx 17 [some (.ref k), some (.int (nI V.length)), none] [] := by
    intro kk
    induction kk using Nat.strongRecOn with
    | ind kk ih =>
      intro v hkk hi V O ss wt KS
      have KS2 := KS.2.1
      have KS3 := KS.2.2.1
      have hlen := ks_len hgd KS
      rw [hpc] at KS2 KS3 hlen
      refine V_iload_n d_K_findSteps_17 rfl ?_
      refine V_if_leN 99 d_K_findSteps_18 (by decide) (by have := ks_len hgd KS; have := KS.2.2.1; omega) (fun cv => ?_) (fun cv => ?_)
      · have Ve : V = [] := List.length_eq_zero_iff.mp cv
        have sz0 : szs V = 0 := by rw [Ve]; rfl
        exact V_return d_K_findSteps_99 rfl ⟨rfl, rfl, ss, wt, by rw [show O.length = c - 1 by omega], fun j hj => by
          have e := KS.2.2.2.2.1
          have e3 := KS.2.2.2.2.2 j (by omega)
          rw [e, List.getD_eq_getElem?_getD, List.getElem?_append_left (by omega), e3]
          rfl⟩
      · obtain ⟨V0, S, rfl, hn0⟩ := last_of (V := V) (n := V.length - 1) (by omega)
        have hl0 : (V0 ++ [S]).length = V0.length + 1 := by simp
        obtain ⟨hw, hgS, hS0, hS1, hSal⟩ := ks_top KS
        obtain ⟨y1, y2, y3⟩ := ks_len hgd KS
        have y4 := KS.2.2.1
        rw [hl0]
        refine V_iinc_1 (-1) d_K_findSteps_21 rfl rfl ?_
        rw [pk_m1 V0.length]
        refine V_aload_n d_K_findSteps_24 rfl ?_
        refine V_getfield d_K_findSteps_25 fl_K_37 (og_0) rfl ?_
        refine V_iload_n d_K_findSteps_28 rfl ?_
        refine V_iaload d_K_findSteps_29 (og_3 (by omega) (by omega) (by omega)) ⟨rfl, by omega, by decide⟩ ?_
        rw [hw]
        refine V_istore_2 d_K_findSteps_30 rfl ?_
        refine V_aload_n d_K_findSteps_31 rfl ?_
        refine V_getfield d_K_findSteps_32 fl_K_31 (og_0) rfl ?_
        refine V_iload_n d_K_findSteps_35 rfl ?_
        refine V_iaload d_K_findSteps_36 (og_1 (by omega)) ⟨rfl, hS1, by decide⟩ ?_
        refine V_if_neN 43 d_K_findSteps_37 (by decide) (hfi S (by omega) hSal) (fun cf => ?_) (fun cf => ?_)
        · have c0 : ¬ S &&& (S - 1) = 0 := fun q => cf (hz S (by omega) hSal q)
          obtain ⟨q1, -⟩ := hgS.2.resolve_left c0
          obtain ⟨u1, u2⟩ := ks_two_len hgd KS c0
          have J := ih (2 * c - (v + 1)) (by omega) (v + 1) rfl (by omega) _ _ _ _ (ks_two KS c0)
          rw [show (V0 ++ [fi S, S ^^^ fi S]).length = V0.length + 2 by simp, show (O ++ [S]).length = O.length + 1 by simp] at J
          refine V_aload_n d_K_findSteps_43 rfl ?_
          refine V_getfield d_K_findSteps_44 fl_K_34 (og_0) rfl ?_
          refine V_aload_n d_K_findSteps_47 rfl ?_
          refine V_getfield d_K_findSteps_48 fl_K_106 (og_0) rfl ?_
          refine V_iload_n d_K_findSteps_51 rfl ?_
          refine V_istN d_K_findSteps_52 (og_2 (by omega) (by omega)) ⟨rfl, by omega, by decide⟩ (ou_2 (by omega) (by omega)) ?_
          refine V_aload_n d_K_findSteps_53 rfl ?_
          refine V_dup d_K_findSteps_54 rfl ?_
          refine V_getfield d_K_findSteps_55 fl_K_106 (og_0) rfl ?_
          refine V_iconst (nI 1) d_K_findSteps_58 rfl ?_
          refine V_iaddN d_K_findSteps_59 ?_
          refine V_put (e' := oK k (th) ((nI c)) (op) (sh) (nI (O.length + 1)) (tu) (gc) (my) (sr) (si) (so) (sx)) d_K_findSteps_60 fp_K_106 (og_0) rfl rfl rfl rfl (ou_0) ?_
          refine V_aload_n d_K_findSteps_63 rfl ?_
          refine V_getfield d_K_findSteps_64 fl_K_37 (og_0) rfl ?_
          refine V_iload_n d_K_findSteps_67 rfl ?_
          refine V_aload_n d_K_findSteps_68 rfl ?_
          refine V_getfield d_K_findSteps_69 fl_K_31 (og_0) rfl ?_
          refine V_iload_n d_K_findSteps_72 rfl ?_
          refine V_iaload d_K_findSteps_73 (og_1 (by omega)) ⟨rfl, hS1, by decide⟩ ?_
          refine V_istN d_K_findSteps_74 (og_3 (by omega) (by omega) (by omega)) ⟨rfl, by omega, by decide⟩ (ou_3 (by omega) (by omega) (by omega)) ?_
          refine V_aload_n d_K_findSteps_75 rfl ?_
          refine V_getfield d_K_findSteps_76 fl_K_37 (og_0) rfl ?_
          refine V_iload_n d_K_findSteps_79 rfl ?_
          refine V_iconst (nI 1) d_K_findSteps_80 rfl ?_
          refine V_iaddN d_K_findSteps_81 ?_
          refine V_iload_n d_K_findSteps_82 rfl ?_
          refine V_aload_n d_K_findSteps_83 rfl ?_
          refine V_getfield d_K_findSteps_84 fl_K_31 (og_0) rfl ?_
          refine V_iload_n d_K_findSteps_87 rfl ?_
          refine V_iaload d_K_findSteps_88 (og_1 (by omega)) ⟨rfl, hS1, by decide⟩ ?_
          refine V_iconst (-1) d_K_findSteps_89 rfl ?_
          refine V_ixor d_K_findSteps_90 ?_
          refine V_iand d_K_findSteps_91 ?_
          refine V_eqI ((nx_andn S (fi S)).trans (congrArg nI (anN_sub q1.1))) ?_
          refine V_istN d_K_findSteps_92 (og_3 (by omega) (by omega) (by omega)) ⟨rfl, by omega, by decide⟩ (ou_3 (by omega) (by omega) (by omega)) ?_
          refine V_iincN_1 2 d_K_findSteps_93 rfl rfl ?_
          refine V_goto 17 d_K_findSteps_96 (by decide) ?_
          refine V_drop_2 ?_
          exact J
        · have c0 : S &&& (S - 1) = 0 := Classical.byContradiction (fun q => (hgS.2.resolve_left q).1.2.1 cf)
          have J := ih (2 * c - (v + 1)) (by omega) (v + 1) rfl (by omega) _ _ _ _ (ks_one KS c0)
          refine V_goto 17 d_K_findSteps_40 (by decide) ?_
          refine V_drop_2 ?_
          exact J
  refine hv_N.of' [some (.ref k), none, none] (by decide +kernel) rfl rfl rfl ?_
  refine V_eqH (ob_4 hk hf hss hwt) ?_
  refine V_aload_n d_K_findSteps_0 rfl ?_
  refine V_iconst (nI 0) d_K_findSteps_1 rfl ?_
  refine V_put (e' := oK k (th) ((nI c)) (op) (sh) (nI 0) (tu) (gc) (my) (sr) (si) (so) (sx)) d_K_findSteps_2 fp_K_106 (og_0) rfl rfl rfl rfl (ou_0) ?_
  refine V_iconst (nI 1) d_K_findSteps_5 rfl ?_
  refine V_istore_1 d_K_findSteps_6 rfl ?_
  refine V_aload_n d_K_findSteps_7 rfl ?_
  refine V_getfield d_K_findSteps_8 fl_K_37 (og_0) rfl ?_
  refine V_iconst (nI 0) d_K_findSteps_11 rfl ?_
  refine V_aload_n d_K_findSteps_12 rfl ?_
  refine V_callV1 d_K_findSteps_13 ml_K_98 mB_K_all mi_K_all mv_K_all rfl og_0 (c_K_all l D _ _ og_0 hc) rfl rfl rfl rfl rfl rfl rfl ?_
  rintro _ _ ⟨rfl, rfl⟩
  refine V_istN d_K_findSteps_16 (og_3 (by omega) (by omega) (by omega)) ⟨rfl, by decide, by decide⟩ (ou_3 (by omega) (by omega) (by omega)) ?_
  have L0 : ksV fi (2 ^ c - 1) 0 [2 ^ c - 1] [] ss0 (va_up wt0 0 (2 ^ c - 1)) := by
    refine ⟨fun S hS => by simp at hS; rw [hS]; exact ⟨hgd, Nat.le_refl _⟩, by simp [szs]; omega, by simp [szs], fun i hi => ?_, by simp [rem_], fun j hj => by simp at hj⟩
    simp at hi
    subst hi
    simp [va_up]
  exact lp _ 0 rfl (Nat.zero_le _) [2 ^ c - 1] [] ss0 (va_up wt0 0 (2 ^ c - 1)) L0

theorem mlA_le2 {f : Nat → Nat} : ∀ {n : Nat}, (∀ t, t < n → f (2 ^ t) < 2 ^ 20) → mlA f n ≤ 20
  | 0, _ => by simp [mlA]
  | n + 1, h => Nat.max_le.mpr ⟨mlA_le2 (fun t ht => h t (by omega)), pc_le (h n (by omega))⟩
theorem FI_lt {l1 : Nat → Nat} {c : Nat} (hl : ∀ t, t < c → l1 t < 2 ^ 20) (hc : c ≤ 10) {S : Nat} (h0 : S ≠ 0) (hS : S < 2 ^ c) : FI l1 S < 1024 := by
  have h10 : (2 : Nat) ^ c ≤ 2 ^ 10 := Nat.pow_le_pow_right (by decide) hc
  by_cases h1 : S &&& (S - 1) = 0
  · rw [(CO_one h0 h1).2]; decide
  · obtain ⟨x, x1, x2, x3, x4, x5⟩ := CO_ge hl hc hS h0 h1
    obtain ⟨p1, p2, p3, p4, p5, p6, p7⟩ := part_facts (by omega) h0 x2 x1
    omega
theorem ks_gd {l1 lg co fi : Nat → Nat} {c : Nat} (hc1 : 1 ≤ c) (hc : c ≤ 10) (hl1 : ∀ t, t < c → l1 t < 2 ^ 20) (hok : ksOK l1 (2 ^ c) lg co fi) : gd (FI l1) 10 (2 ^ c - 1) ∧ gd fi 10 (2 ^ c - 1) ∧ pv (FI l1) 10 (2 ^ c - 1) = pv fi 10 (2 ^ c - 1) ∧ (∀ S, 1 ≤ S → S ≤ 2 ^ c - 1 → S &&& (S - 1) = 0 → fi S = 0) ∧ (∀ S, 1 ≤ S → S ≤ 2 ^ c - 1 → fi S < 2 ^ 31) := by
  have hp : 2 ^ 1 ≤ 2 ^ c := Nat.pow_le_pow_right (by decide) hc1
  have h10 : (2 : Nat) ^ c ≤ 2 ^ 10 := Nat.pow_le_pow_right (by decide) hc
  have gF := gd_FI hl1 hc 10 (2 ^ c - 1) (by omega) (by omega) (by rw [pc_all c hc]; exact hc)
  obtain ⟨gf, pe⟩ := pv_congr (f := FI l1) (g := fi) (m := c) (fun s a b => ((hok s (by omega) b).2.2).symm) 10 (2 ^ c - 1) (by omega) gF
  refine ⟨gF, gf, pe, fun S a b q => ?_, fun S a b => ?_⟩
  · rw [(hok S a (by omega)).2.2]; exact (CO_one (by omega) q).2
  · rw [(hok S a (by omega)).2.2]
    exact Nat.lt_trans (FI_lt hl1 hc (by omega) (by omega)) (by decide)
set_option maxRecDepth 100000 in
set_option maxHeartbeats 4000000 in
theorem c_K_peakNow (l : Launch) (D : hv_D) (h : hv_P) (nx : Nat) {k c : Nat} {th op sh sp tu gc my so sx : Int32} {sr si : Int64} (hk : h k = some (oK k th (nI c) op sh sp tu gc my sr si so sx)) {l1 lg co fi ss0 wt0 : Nat → Nat} (hlg0 : h (k + 6) = some (eN 1024 lg)) (hf : h (k + 8) = some (eN 1024 fi)) (hss : h (k + 9) = some (eN 10 ss0)) (hwt : h (k + 10) = some (eN 20 wt0)) (hc1 : 1 ≤ c) (hc : c ≤ 10) (hl1 : ∀ t, t < c → l1 t < 2 ^ 20) (hok : ksOK l1 (2 ^ c) lg co fi) : hv_N l D M_K_peakNow (hv_rm 2 42 0 0) [.ref k] h nx (hv_ans (some (.int (nI (PK l1 c)))) (fun h' n' => n' = nx ∧ ∃ ss' wt' : Nat → Nat, h' = hv_ov h [(k, oK k (th) ((nI c)) (op) (sh) (nI (c - 1)) (tu) (gc) (my) (sr) (si) (so) (sx)), (k + 6, eN 1024 lg), (k + 8, eN 1024 fi), (k + 9, eN 10 (ss')), (k + 10, eN 20 (wt'))] ∧ ∀ j, j < c - 1 → ss' j = SS l1 c j)) := by
  have hp : 2 ^ 1 ≤ 2 ^ c := Nat.pow_le_pow_right (by decide) hc1
  have h10 : (2 : Nat) ^ c ≤ 2 ^ 10 := Nat.pow_le_pow_right (by decide) hc
  obtain ⟨gF, gf, pe, hz, hfi⟩ := ks_gd hc1 hc hl1 hok
  have hlg : ∀ S, 1 ≤ S → S ≤ 2 ^ c - 1 → lg S < 2 ^ 20 := fun S a b => by rw [(hok S a (by omega)).1]; exact LGn_lt hl1 (show S < 2 ^ c by omega) 10
  have PKe : ∀ ss : Nat → Nat, (∀ j, j < c - 1 → ss j = SS l1 c j) → mlB lg ss (mlA lg c) (c - 1) = PK l1 c := by
    intro ss hs
    unfold PK
    rw [mlA_congr (f := lg) (g := LG l1) c (fun i hi => (hok _ (Nat.two_pow_pos i) (Nat.pow_lt_pow_right (by decide) hi)).1), mlB_congr (g := LG l1) (md' := SS l1 c) _ hs (fun i hi => by obtain ⟨-, a, b⟩ := SS_in hc1 hc gF hi; exact (hok _ (by omega) b).1)]
    exact mlB_rev (fun i hi => SS_MD hc1 hi)
  have lp2 : ∀ ss wt : Nat → Nat, (∀ j, j < c - 1 → ss j = SS l1 c j) → ∀ (kk i : Nat), kk = (c - 1) - i → i ≤ (c - 1) → hv_V l D M_K_peakNow (fun _ _ => True) (hv_rm 2 42 0 0) (hv_ans (some (.int (nI (PK l1 c)))) (fun h' n' => n' = nx ∧ ∃ ss' wt' : Nat → Nat, h' = hv_ov h [(k, oK k (th) ((nI c)) (op) (sh) (nI (c - 1)) (tu) (gc) (my) (sr) (si) (so) (sx)), (k + 6, eN 1024 lg), (k + 8, eN 1024 fi), (k + 9, eN 10 (ss')), (k + 10, eN 20 (wt'))] ∧ ∀ j, j < c - 1 → ss' j = SS l1 c j)) 0 0 (hv_ov h [(k, oK k (th) ((nI c)) (op) (sh) (nI (c - 1)) (tu) (gc) (my) (sr) (si) (so) (sx)), (k + 6, eN 1024 lg), (k + 8, eN 1024 fi), (k + 9, eN 10 (ss)), (k + 10, eN 20 (wt))]) nx 55 [some (.ref k), some (.int (nI (mlB lg ss (mlA lg c) i))), some (.int (nI i))] [] := by
    intro ss wt hs kk
    induction kk using Nat.strongRecOn with
    | ind kk ih =>
      intro i hkk hi
      refine V_iload_n d_K_peakNow_55 rfl ?_
      refine V_aload_n d_K_peakNow_56 rfl ?_
      refine V_getfield d_K_peakNow_57 fl_K_106 (og_0) rfl ?_
      refine V_icmp_geN 106 d_K_peakNow_60 (by decide) (by omega) (by omega) (fun ci => ?_) (fun ci => ?_)
      · refine V_iload_n d_K_peakNow_106 rfl ?_
        exact V_ireturn d_K_peakNow_107 rfl ⟨by rw [show i = c - 1 by omega, PKe ss hs], rfl, ss, wt, rfl, hs⟩
      · obtain ⟨m1, m2, m3⟩ := SS_in hc1 hc gF ci
        have hl := hlg (ss i) (by rw [hs i ci]; omega) (by rw [hs i ci]; omega)
        have hm : mlB lg ss (mlA lg c) i ≤ 20 := (mlB_iff i).mpr ⟨mlA_le2 (f := lg) (n := c) (fun t ht => hlg (2 ^ t) (Nat.two_pow_pos t) (by have := Nat.pow_lt_pow_right (a := 2) (by decide) ht; omega)), fun j hj => by obtain ⟨-, a, b⟩ := SS_in hc1 hc gF (show j < c - 1 by omega); exact pc_le (hlg (ss j) (by rw [hs j (by omega)]; omega) (by rw [hs j (by omega)]; omega))⟩
        have hsi : ss i < 1024 := by rw [hs i ci]; omega
        refine V_aload_n d_K_peakNow_63 rfl ?_
        refine V_getfield d_K_peakNow_64 fl_K_25 (og_0) rfl ?_
        refine V_aload_n d_K_peakNow_67 rfl ?_
        refine V_getfield d_K_peakNow_68 fl_K_34 (og_0) rfl ?_
        refine V_iload_n d_K_peakNow_71 rfl ?_
        refine V_iaload d_K_peakNow_72 (og_3 (by omega) (by omega) (by omega)) ⟨rfl, by omega, by decide⟩ ?_
        refine V_iaload d_K_peakNow_73 (og_1 (by omega)) ⟨rfl, hsi, by decide⟩ ?_
        refine V_callS1 d_K_peakNow_74 ml_K_94 mB_K_count ms_K_count (c_K_count l D _ _ (Nat.lt_of_lt_of_le hl (by decide))) rfl rfl rfl rfl rfl rfl rfl ?_
        rintro _ _ ⟨rfl, rfl⟩
        rw [← pc_20 hl]
        refine V_iload_n d_K_peakNow_77 rfl ?_
        refine V_icmp_leN 98 d_K_peakNow_78 (by decide) (by have := pc_le hl; omega) (by omega) (fun cm => ?_) (fun cm => ?_)
        · have E : mlB lg ss (mlA lg c) (i + 1) = mlB lg ss (mlA lg c) i := Nat.max_eq_left cm
          refine V_iload_n d_K_peakNow_98 rfl ?_
          refine V_istore_1 d_K_peakNow_99 rfl ?_
          refine V_iincN_2 1 d_K_peakNow_100 rfl rfl ?_
          refine V_goto 55 d_K_peakNow_103 (by decide) ?_
          have J := ih (c - 1 - (i + 1)) (by omega) (i + 1) rfl (by omega)
          rw [E] at J
          exact J
        · have E : mlB lg ss (mlA lg c) (i + 1) = pc_ (lg (ss i)) := Nat.max_eq_right (by omega)
          refine V_aload_n d_K_peakNow_81 rfl ?_
          refine V_getfield d_K_peakNow_82 fl_K_25 (og_0) rfl ?_
          refine V_aload_n d_K_peakNow_85 rfl ?_
          refine V_getfield d_K_peakNow_86 fl_K_34 (og_0) rfl ?_
          refine V_iload_n d_K_peakNow_89 rfl ?_
          refine V_iaload d_K_peakNow_90 (og_3 (by omega) (by omega) (by omega)) ⟨rfl, by omega, by decide⟩ ?_
          refine V_iaload d_K_peakNow_91 (og_1 (by omega)) ⟨rfl, hsi, by decide⟩ ?_
          refine V_callS1 d_K_peakNow_92 ml_K_94 mB_K_count ms_K_count (c_K_count l D _ _ (Nat.lt_of_lt_of_le hl (by decide))) rfl rfl rfl rfl rfl rfl rfl ?_
          rintro _ _ ⟨rfl, rfl⟩
          rw [← pc_20 hl]
          refine V_goto 99 d_K_peakNow_95 (by decide) ?_
          refine V_istore_1 d_K_peakNow_99 rfl ?_
          refine V_iincN_2 1 d_K_peakNow_100 rfl rfl ?_
          refine V_goto 55 d_K_peakNow_103 (by decide) ?_
          have J := ih (c - 1 - (i + 1)) (by omega) (i + 1) rfl (by omega)
          rw [E] at J
          exact J
  have lp1 : ∀ (kk i : Nat), kk = c - i → i ≤ c → hv_V l D M_K_peakNow (fun _ _ => True) (hv_rm 2 42 0 0) (hv_ans (some (.int (nI (PK l1 c)))) (fun h' n' => n' = nx ∧ ∃ ss' wt' : Nat → Nat, h' = hv_ov h [(k, oK k (th) ((nI c)) (op) (sh) (nI (c - 1)) (tu) (gc) (my) (sr) (si) (so) (sx)), (k + 6, eN 1024 lg), (k + 8, eN 1024 fi), (k + 9, eN 10 (ss')), (k + 10, eN 20 (wt'))] ∧ ∀ j, j < c - 1 → ss' j = SS l1 c j)) 0 0 (hv_ov h [(k, oK k (th) ((nI c)) (op) (sh) (sp) (tu) (gc) (my) (sr) (si) (so) (sx)), (k + 6, eN 1024 lg), (k + 8, eN 1024 fi), (k + 9, eN 10 (ss0)), (k + 10, eN 20 (wt0))]) nx 4 [some (.ref k), some (.int (nI (mlA lg i))), some (.int (nI i))] [] := by
    intro kk
    induction kk using Nat.strongRecOn with
    | ind kk ih =>
      intro i hkk hi
      refine V_iload_n d_K_peakNow_4 rfl ?_
      refine V_aload_n d_K_peakNow_5 rfl ?_
      refine V_getfield d_K_peakNow_6 fl_K_73 (og_0) rfl ?_
      refine V_icmp_geN 49 d_K_peakNow_9 (by decide) (by omega) (by omega) (fun ci => ?_) (fun ci => ?_)
      · have ec : i = c := by omega
        subst ec
        refine V_aload_n d_K_peakNow_49 rfl ?_
        refine V_callV0 d_K_peakNow_50 ml_K_109 mB_K_findSteps mi_K_findSteps mv_K_findSteps rfl og_0 (c_K_findSteps l D _ _ og_0 (og_2 (by omega) (by omega)) (og_3 (by omega) (by omega) (by omega)) (og_4 (by omega) (by omega) (by omega) (by omega)) hc1 hc gf hz hfi) rfl rfl rfl rfl rfl rfl rfl ?_
        rintro _ _ ⟨rfl, ss', wt', rfl, hss⟩
        rw [ox_4, ou_4 (by omega) (by omega) (by omega) (by omega), ou_3 (by omega) (by omega) (by omega), ou_2 (by omega) (by omega), ou_0]
        refine V_iconst (nI 0) d_K_peakNow_53 rfl ?_
        refine V_istore_2 d_K_peakNow_54 rfl ?_
        exact lp2 ss' wt' (fun j hj => by rw [hss j hj, ← pe]; rfl) _ 0 rfl (Nat.zero_le _)
      · have pw := (Nat.pow_lt_pow_right (a := 2) (by decide) (show i < c by omega))
        have pp := Nat.two_pow_pos i
        have hl := hlg (1 * 2 ^ i) (by omega) (by omega)
        have hm := mlA_le2 (f := lg) (n := i) (fun t ht => hlg (2 ^ t) (Nat.two_pow_pos t) (by have := Nat.pow_lt_pow_right (a := 2) (by decide) (show t < c by omega); omega))
        refine V_aload_n d_K_peakNow_12 rfl ?_
        refine V_getfield d_K_peakNow_13 fl_K_25 (og_0) rfl ?_
        refine V_iconst (nI 1) d_K_peakNow_16 rfl ?_
        refine V_iload_n d_K_peakNow_17 rfl ?_
        refine V_ishlN d_K_peakNow_18 (by omega) ?_
        refine V_iaload d_K_peakNow_19 (og_1 (by omega)) ⟨rfl, by omega, by decide⟩ ?_
        refine V_callS1 d_K_peakNow_20 ml_K_94 mB_K_count ms_K_count (c_K_count l D _ _ (Nat.lt_of_lt_of_le hl (by decide))) rfl rfl rfl rfl rfl rfl rfl ?_
        rintro _ _ ⟨rfl, rfl⟩
        rw [← pc_20 hl, Nat.one_mul]
        refine V_iload_n d_K_peakNow_23 rfl ?_
        refine V_icmp_leN 41 d_K_peakNow_24 (by decide) (Nat.lt_of_le_of_lt (pc_n_le _ 32) (by decide)) (by omega) (fun cm => ?_) (fun cm => ?_)
        · have E : mlA lg (i + 1) = mlA lg i := Nat.max_eq_left cm
          refine V_iload_n d_K_peakNow_41 rfl ?_
          refine V_istore_1 d_K_peakNow_42 rfl ?_
          refine V_iincN_2 1 d_K_peakNow_43 rfl rfl ?_
          refine V_goto 4 d_K_peakNow_46 (by decide) ?_
          have J := ih (c - (i + 1)) (by omega) (i + 1) rfl (by omega)
          rw [E] at J
          exact J
        · have E : mlA lg (i + 1) = pc_ (lg (2 ^ i)) := Nat.max_eq_right (by omega)
          refine V_aload_n d_K_peakNow_27 rfl ?_
          refine V_getfield d_K_peakNow_28 fl_K_25 (og_0) rfl ?_
          refine V_iconst (nI 1) d_K_peakNow_31 rfl ?_
          refine V_iload_n d_K_peakNow_32 rfl ?_
          refine V_ishlN d_K_peakNow_33 (by omega) ?_
          refine V_iaload d_K_peakNow_34 (og_1 (by omega)) ⟨rfl, by omega, by decide⟩ ?_
          refine V_callS1 d_K_peakNow_35 ml_K_94 mB_K_count ms_K_count (c_K_count l D _ _ (Nat.lt_of_lt_of_le hl (by decide))) rfl rfl rfl rfl rfl rfl rfl ?_
          rintro _ _ ⟨rfl, rfl⟩
          rw [← pc_20 hl, Nat.one_mul]
          refine V_goto 42 d_K_peakNow_38 (by decide) ?_
          refine V_istore_1 d_K_peakNow_42 rfl ?_
          refine V_iincN_2 1 d_K_peakNow_43 rfl rfl ?_
          refine V_goto 4 d_K_peakNow_46 (by decide) ?_
          have J := ih (c - (i + 1)) (by omega) (i + 1) rfl (by omega)
          rw [E] at J
          exact J
  refine hv_N.of' [some (.ref k), none, none] (by decide +kernel) rfl rfl rfl ?_
  refine V_eqH (ob_5 hk hlg0 hf hss hwt) ?_
  refine V_iconst (nI 0) d_K_peakNow_0 rfl ?_
  refine V_istore_1 d_K_peakNow_1 rfl ?_
  refine V_iconst (nI 0) d_K_peakNow_2 rfl ?_
  refine V_istore_2 d_K_peakNow_3 rfl ?_
  exact lp1 _ 0 rfl (Nat.zero_le _)

theorem PK_le {l1 : Nat → Nat} {c : Nat} (hc1 : 1 ≤ c) (hc : c ≤ 10) (hl1 : ∀ t, t < c → l1 t < 2 ^ 20) : PK l1 c ≤ 20 := by
  have hp : 2 ^ 1 ≤ 2 ^ c := Nat.pow_le_pow_right (by decide) hc1
  have gF := gd_FI hl1 hc 10 (2 ^ c - 1) (by omega) (by omega) (by rw [pc_all c hc]; exact hc)
  unfold PK
  refine (mlB_iff _).mpr ⟨mlA_le2 (fun t ht => LGn_lt hl1 (Nat.pow_lt_pow_right (by decide) ht) 10), fun i hi => pc_le ?_⟩
  exact LGn_lt hl1 (pv_sub (m := c) 10 _ (by omega) gF _ (MD_in hc1 hc gF hi)).2 10
set_option maxRecDepth 100000 in
set_option maxHeartbeats 4000000 in
theorem c_K_isEnough (l : Launch) (D : hv_D) (h : hv_P) (nx : Nat) {k c : Nat} {th op sh sp tu gc my so sx : Int32} {sr si : Int64} (hk : h k = some (oK k th (nI c) op sh sp tu gc my sr si so sx)) {cu mo : Nat} {sg lg0 co0 fi0 ss0 wt0 : Nat → Nat} (hsg : h (k + 5) = some (eN 10 sg)) (hl : h (k + 6) = some (eN 1024 lg0)) (hco : h (k + 7) = some (eN 1024 co0)) (hf : h (k + 8) = some (eN 1024 fi0)) (hss : h (k + 9) = some (eN 10 ss0)) (hwt : h (k + 10) = some (eN 20 wt0)) (hc1 : 1 ≤ c) (hc : c ≤ 10) (hsl : ∀ t, t < c → sg t < 2 ^ 20) (hmo : mo < 2 ^ 31) : hv_N l D M_K_isEnough (hv_rm 3 70 0 0) [.ref k, .int (nI cu), .int (nI mo)] h nx (hv_ans (some (.int (bZ (decide (PK (fun t => anN (sg t) cu) c ≤ mo))))) (fun h' n' => n' = nx ∧ ∃ (sp' : Int32) (lg' co' fi' ss' wt' : Nat → Nat), h' = hv_ov h [(k, oK k (th) ((nI c)) (op) (sh) (sp') (tu) (gc) (my) (sr) (si) (so) (sx)), (k + 5, eN 10 sg), (k + 6, eN 1024 (lg')), (k + 7, eN 1024 (co')), (k + 8, eN 1024 (fi')), (k + 9, eN 10 (ss')), (k + 10, eN 20 (wt'))])) := by
  have hl1 : ∀ t, t < c → (fun t => anN (sg t) cu) t < 2 ^ 20 := fun t ht => anN_lt (hsl t ht)
  refine hv_N.of' [some (.ref k), some (.int (nI cu)), some (.int (nI mo))] (by decide +kernel) rfl rfl rfl ?_
  refine V_eqH (ob_7 hk hsg hl hco hf hss hwt) ?_
  refine V_aload_n d_K_isEnough_0 rfl ?_
  refine V_iload_n d_K_isEnough_1 rfl ?_
  refine V_callV0 d_K_isEnough_2 ml_K_112 mB_K_findOrder mi_K_findOrder mv_K_findOrder rfl og_0 (c_K_findOrder l D _ _ og_0 (og_1 (by omega)) (og_2 (by omega) (by omega)) (og_3 (by omega) (by omega) (by omega)) (og_4 (by omega) (by omega) (by omega) (by omega)) hc hsl) rfl rfl rfl rfl rfl rfl rfl ?_
  rintro _ _ ⟨rfl, lg', co', fi', rfl, hok⟩
  rw [ox_5, ou_4 (by omega) (by omega) (by omega) (by omega), ou_3 (by omega) (by omega) (by omega), ou_2 (by omega) (by omega), ou_1 (by omega), ou_0]
  refine V_aload_n d_K_isEnough_5 rfl ?_
  refine V_callV1 d_K_isEnough_6 ml_K_116 mB_K_peakNow mi_K_peakNow mv_K_peakNow rfl og_0 (c_K_peakNow l D _ _ og_0 (og_2 (by omega) (by omega)) (og_4 (by omega) (by omega) (by omega) (by omega)) (og_5 (by omega) (by omega) (by omega) (by omega) (by omega)) (og_6 (by omega) (by omega) (by omega) (by omega) (by omega) (by omega)) hc1 hc hl1 hok) rfl rfl rfl rfl rfl rfl rfl ?_
  rintro _ _ ⟨rfl, ss', wt', rfl, hs⟩
  rw [ox_5, ou_6 (by omega) (by omega) (by omega) (by omega) (by omega) (by omega), ou_5 (by omega) (by omega) (by omega) (by omega) (by omega), ou_4 (by omega) (by omega) (by omega) (by omega), ou_2 (by omega) (by omega), ou_0]
  refine V_iload_n d_K_isEnough_9 rfl ?_
  refine V_icmp_gtN 17 d_K_isEnough_10 (by decide) (Nat.lt_of_le_of_lt (PK_le hc1 hc hl1) (by decide)) hmo (fun cp => ?_) (fun cp => ?_)
  · refine V_iconst (0) d_K_isEnough_17 rfl ?_
    exact V_zreturn d_K_isEnough_18 rfl rfl ⟨by first | (simp [bZ, cp]; done) | (simp [bZ, Nat.not_le.mpr cp]; done), rfl, _, lg', co', fi', ss', wt', rfl⟩
  · refine V_iconst (1) d_K_isEnough_13 rfl ?_
    refine V_goto 18 d_K_isEnough_14 (by decide) ?_
    exact V_zreturn d_K_isEnough_18 rfl rfl ⟨by first | (simp [bZ, cp]; done) | (simp [bZ, Nat.not_le.mpr cp]; done), rfl, _, lg', co', fi', ss', wt', rfl⟩
