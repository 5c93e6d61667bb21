-- THE MODEL: sumUp, tell, value, slope
def valV (S O w v : Nat) : Nat := rsF S 20 v ||| (sprF w O 20).1
def EV (pl : Nat → Nat) (la : Nat → Option Nat) (re im : Nat → Int32) (so sx : Int32) (x t : Nat) : Cx := enK so sx re im t (ixV (fun p => la (6 * t + p)) (b_ x) (pl t))
/-- the value: over all values of the shared names, the product of the entries -/
def VV (c : Nat) (pl : Nat → Nat) (la : Nat → Option Nat) (re im : Nat → Int32) (so sx : Int32) (om : Nat) : Cx := Sn (SHR c pl la) 20 (fun v => prT (fun _ => true) (EV pl la re im so sx (v ||| om)) c)
theorem OS_dis {c : Nat} {pl : Nat → Nat} {la : Nat → Option Nat} {n : Nat} : ¬ ((OPN c pl la).testBit n = true ∧ (SHR c pl la).testBit n = true) := by
  rw [OPN_bit, SHR_bit]
  rintro ⟨a, b⟩
  have := of_decide_eq_true a
  have := of_decide_eq_true b
  omega
theorem ctP_pos {g : Nat → Option Nat} {n q : Nat} (e : g q = some n) : ∀ p, q < p → 1 ≤ ctP (f1_ n) g p
  | 0, h => by omega
  | p + 1, h => by
    simp only [ctP]
    by_cases c : q = p
    · subst c
      rw [e]
      simp [f1_]
    · have := ctP_pos e p (by omega)
      omega
theorem ctT_pos {pl : Nat → Nat} {la : Nat → Option Nat} {n t q : Nat} (e : la (6 * t + q) = some n) (hq : q < pl t) : ∀ c, t < c → 1 ≤ ctT (f1_ n) pl la c
  | 0, h => by omega
  | c + 1, h => by
    simp only [ctT]
    by_cases d : t = c
    · subst d
      have := ctP_pos (g := fun p => la (6 * t + p)) e (pl t) hq
      omega
    · have := ctT_pos e hq c (by omega)
      omega
theorem OS_or {c : Nat} {pl : Nat → Nat} {la : Nat → Option Nat} {n t q : Nat} (ht : t < c) (hq : q < pl t) (e : la (6 * t + q) = some n) : (OPN c pl la).testBit n = true ∨ (SHR c pl la).testBit n = true := by
  rw [OPN_bit, SHR_bit]
  have : 1 ≤ CT c pl la n := ctT_pos e hq c ht
  by_cases d : CT c pl la n = 1
  · exact Or.inl (decide_eq_true d)
  · exact Or.inr (decide_eq_true (by omega))
def kA (S m v y : Nat) (vo : Nat → Nat) : Prop := ∀ n, n < 20 → S.testBit n = true → pc_n S n < y → vo n = v / 2 ^ (m - 1 - pc_n S n) &&& 1
theorem val_bit {S O w v n : Nat} {vo : Nat → Nat} (dis : ∀ n, ¬ (O.testBit n = true ∧ S.testBit n = true)) (hn : n < 20) (hV : oV O w 20 vo) (hA : kA S (pc_n S 20) v (pc_n S 20) vo) (h : O.testBit n = true ∨ S.testBit n = true) : vo n = b_ (valV S O w v) n := by
  have d := dis n
  unfold valV b_
  rw [Nat.testBit_or, rs_bit 20 v hn, spr_bit]
  rcases h with h | h
  · have hs : S.testBit n = false := by
      cases q : S.testBit n with
      | false => rfl
      | true => exact absurd ⟨h, q⟩ d
    rw [hV n hn h, b_eq, hs, h]
    unfold b_
    simp [hn]
  · have ho : O.testBit n = false := by
      cases q : O.testBit n with
      | false => rfl
      | true => exact absurd ⟨q, h⟩ d
    rw [hA n hn h (pc_lt hn h), b_eq, h, ho]
    unfold b_
    simp
theorem Pd_congr {bh : Nat → Nat} {e e' : Nat → Cx} {c : Nat} (d : Nat) (h : ∀ t, t < c → bh t ≤ d → e t = e' t) : Pd bh e c d = Pd bh e' c d := by
  rw [Pd_pr, Pd_pr]
  exact prT_congr c (fun _ _ => rfl) (fun t ht q => h t ht (of_decide_eq_true q))
theorem succ_high {v j : Nat} (hl : ∀ i, i < j → (v + 1).testBit i = false) (hj : (v + 1).testBit j = true) : ∀ i, j < i → (v + 1).testBit i = v.testBit i := by
  have m : (v + 1) % 2 ^ (j + 1) = 2 ^ j := by
    apply Nat.eq_of_testBit_eq
    intro i
    rw [Nat.testBit_mod_two_pow, Nat.testBit_two_pow]
    by_cases e : i = j
    · subst e; simp [hj]
    · by_cases d : i < j
      · simp [hl i d, show ¬ j = i by omega]
      · simp [show ¬ i < j + 1 by omega, show ¬ j = i by omega]
  have p := Nat.two_pow_pos j
  have dv : (v + 1) / 2 ^ (j + 1) = v / 2 ^ (j + 1) := by
    have a := Nat.div_add_mod (v + 1) (2 ^ (j + 1))
    rw [m] at a
    have pw : (2 : Nat) ^ (j + 1) = 2 ^ j + 2 ^ j := by rw [Nat.pow_succ]; omega
    symm
    refine (Nat.div_eq_iff (Nat.two_pow_pos _)).mpr ?_
    generalize (v + 1) / 2 ^ (j + 1) = q at a ⊢
    rw [Nat.mul_comm q]
    omega
  intro i hi
  have e := congrArg (fun z => Nat.testBit z (i - (j + 1))) dv
  simp only [Nat.testBit_div_two_pow] at e
  rw [show i - (j + 1) + (j + 1) = i by omega] at e
  exact e
theorem named_of {c : Nat} {pl : Nat → Nat} {la : Nat → Option Nat} (hN : netOK c pl la) (hr : RDY c pl la = true) : ∀ t p, t < c → p < pl t → ∃ n, la (6 * t + p) = some n ∧ n < 20 := by
  rw [RDY_eq, Bool.and_eq_true] at hr
  have z := of_decide_eq_true hr.2
  have key : ∀ {g : Nat → Option Nat} {p : Nat} (m : Nat), p < m → ctP f0_ g m = 0 → ∃ n, g p = some n := by
    intro g p m
    induction m with
    | zero => intro a; omega
    | succ m ih =>
      intro a b
      simp only [ctP] at b
      by_cases d : p = m
      · subst d
        cases e : g p with
        | none => rw [e] at b; simp [f0_] at b
        | some n => exact ⟨n, rfl⟩
      · exact ih (by omega) (by omega)
  have key2 : ∀ {t p : Nat} (m : Nat), t < m → p < pl t → ctT f0_ pl la m = 0 → ∃ n, la (6 * t + p) = some n := by
    intro t p m
    induction m with
    | zero => intro a; omega
    | succ m ih =>
      intro a b d
      simp only [ctT] at d
      by_cases e : t = m
      · subst e
        exact key (g := fun p => la (6 * t + p)) (pl t) b (by omega)
      · exact ih (by omega) b (by omega)
  intro t p ht hp
  obtain ⟨n, e⟩ := key2 c ht hp z
  exact ⟨n, e, hN.2.2.1 _ n (by have := hN.2.1 t ht; have := hN.1; omega) e⟩
set_option maxRecDepth 100000 in
set_option maxHeartbeats 4000000 in
theorem c_K_sumUp (l : Launch) (D : hv_D) (h : hv_P) (nx : Nat) {k c w : Nat} {th sp tu gc my so sx : Int32} {sr si : Int64} {pl : Nat → Nat} {la : Nat → Option Nat} {re im : Nat → Int32} (hk : h k = some (oK k th (nI c) (nI (OPN c pl la)) (nI (SHR c pl la)) sp tu gc my sr si so sx)) (hN : netOK c pl la) (hnm : ∀ t p, t < c → p < pl t → ∃ n, la (6 * t + p) = some n ∧ n < 20) {vo0 lg0 bh0 : Nat → Nat} {pr0 pi0 : Nat → Int64} (h1 : h (k + 1) = some (eN 10 pl)) (h2 : h (k + 2) = some (eM 60 la)) (h3 : h (k + 3) = some (eI 640 re)) (h4 : h (k + 4) = some (eI 640 im)) (h15 : h (k + 15) = some (eN 20 vo0)) (h16 : h (k + 16) = some (eN 20 lg0)) (h17 : h (k + 17) = some (eN 10 bh0)) (h18 : h (k + 18) = some (eL 21 pr0)) (h19 : h (k + 19) = some (eL 21 pi0)) (hw : w < 2 ^ 31) : hv_N l D M_K_sumUp (hv_rm 2 56 0 0) [.ref k, .int (nI w)] h nx (hv_ans none (fun h' n' => n' = nx ∧ ∃ (my' : Int32) (vo' lg' bh' : Nat → Nat) (pr' pi' : Nat → Int64), h' = hv_ov h [(k, oK k (th) ((nI c)) (nI (OPN c pl la)) (nI (SHR c pl la)) (sp) (tu) (gc) (my') ((VV c pl la re im so sx (sprF w (OPN c pl la) 20).1).1) ((VV c pl la re im so sx (sprF w (OPN c pl la) 20).1).2) (so) (sx)), (k + 1, eN 10 pl), (k + 2, eM 60 la), (k + 3, eI 640 re), (k + 4, eI 640 im), (k + 15, eN 20 (vo')), (k + 16, eN 20 (lg')), (k + 17, eN 10 (bh')), (k + 18, eL 21 (pr')), (k + 19, eL 21 (pi'))])) := by
  refine hv_N.of' [some (.ref k), some (.int (nI w)), none, none, none] (by decide +kernel) rfl rfl rfl ?_
  obtain ⟨many, hmany⟩ : ∃ m, m = pc_n (SHR c pl la) 20 := ⟨_, rfl⟩
  have hmle := pc_n_le (SHR c pl la) 20
  have hmp : 2 ^ many ≤ 2 ^ 20 := Nat.pow_le_pow_right (by decide) (by omega)
  have hc := hN.1
  have lp2 : ∀ lg bh : Nat → Nat, oL (SHR c pl la) 20 lg → (∀ t, t < c → bhOK (SHR c pl la) (fun p => la (6 * t + p)) (pl t) (bh t)) → ∀ (kk v : Nat), kk = (2 ^ many) - v → v ≤ (2 ^ many) → ∀ (vo : Nat → Nat) (pr pi : Nat → Int64) (fr : Nat), oV (OPN c pl la) w 20 vo → fr ≤ many → (∀ d, d < fr → (pr d, pi d) = Pd bh (EV pl la re im so sx (valV (SHR c pl la) (OPN c pl la) w v)) c d) → hv_V l D M_K_sumUp (fun _ _ => True) (hv_rm 2 56 0 0) (hv_ans none (fun h' n' => n' = nx ∧ ∃ (my' : Int32) (vo' lg' bh' : Nat → Nat) (pr' pi' : Nat → Int64), h' = hv_ov h [(k, oK k (th) ((nI c)) (nI (OPN c pl la)) (nI (SHR c pl la)) (sp) (tu) (gc) (my') ((VV c pl la re im so sx (sprF w (OPN c pl la) 20).1).1) ((VV c pl la re im so sx (sprF w (OPN c pl la) 20).1).2) (so) (sx)), (k + 1, eN 10 pl), (k + 2, eM 60 la), (k + 3, eI 640 re), (k + 4, eI 640 im), (k + 15, eN 20 (vo')), (k + 16, eN 20 (lg')), (k + 17, eN 10 (bh')), (k + 18, eL 21 (pr')), (k + 19, eL 21 (pi'))])) 0 0 (hv_ov h [(k, oK k (th) ((nI c)) (nI (OPN c pl la)) (nI (SHR c pl la)) (sp) (tu) (gc) (nI many) ((sR (fun v => Pd bh (EV pl la re im so sx (valV (SHR c pl la) (OPN c pl la) w v)) c many) v).1) ((sR (fun v => Pd bh (EV pl la re im so sx (valV (SHR c pl la) (OPN c pl la) w v)) c many) v).2) (so) (sx)), (k + 1, eN 10 pl), (k + 2, eM 60 la), (k + 3, eI 640 re), (k + 4, eI 640 im), (k + 15, eN 20 (vo)), (k + 16, eN 20 (lg)), (k + 17, eN 10 (bh)), (k + 18, eL 21 (pr)), (k + 19, eL 21 (pi))]) nx 19 [some (.ref k), some (.int (nI w)), some (.int (nI fr)), some (.int (nI v)), none] [] := by
    intro lg bh hL hbh
    have FIN : (sR (fun v => Pd bh (EV pl la re im so sx (valV (SHR c pl la) (OPN c pl la) w v)) c many) (2 ^ many)) = (VV c pl la re im so sx (sprF w (OPN c pl la) 20).1) := by
      have e1 : ∀ v, Pd bh (EV pl la re im so sx (valV (SHR c pl la) (OPN c pl la) w v)) c many = (fun x => prT (fun _ => true) (EV pl la re im so sx (x ||| (sprF w (OPN c pl la) 20).1)) c) (rsF (SHR c pl la) 20 v) := fun v => by
        rw [Pd_pr]
        exact prT_congr c (fun t ht => decide_eq_true (by rw [hmany]; exact (hbh t ht).1)) (fun _ _ _ => rfl)
      unfold VV
      rw [← sR_rs, ← hmany]
      exact sR_congr (fun v _ => e1 v)
    intro kk
    induction kk using Nat.strongRecOn with
    | ind kk ihv =>
      intro v hkk hi vo pr pi fr hV hfr HP0
      refine V_iload_n d_K_sumUp_19 rfl ?_
      refine V_iconst (nI 1) d_K_sumUp_20 rfl ?_
      refine V_aload_n d_K_sumUp_21 rfl ?_
      refine V_getfield d_K_sumUp_22 fl_K_135 (og_0) rfl ?_
      refine V_ishlN d_K_sumUp_25 (by omega) ?_
      rw [Nat.one_mul]
      refine V_icmp_geN 174 d_K_sumUp_26 (by decide) (by omega) (by omega) (fun cv => ?_) (fun cv => ?_)
      · have ev : v = 2 ^ many := by omega
        subst ev
        rw [FIN]
        exact V_return d_K_sumUp_174 rfl ⟨rfl, rfl, _, vo, lg, bh, pr, pi, rfl⟩
      · refine V_iconst (nI 0) d_K_sumUp_29 rfl ?_
        refine V_istore_4 d_K_sumUp_30 rfl ?_
        have lp3 : ∀ (kk y : Nat), kk = many - y → y ≤ many → ∀ vo : Nat → Nat, oV (OPN c pl la) w 20 vo → kA (SHR c pl la) many v y vo → hv_V l D M_K_sumUp (fun _ _ => True) (hv_rm 2 56 0 0) (hv_ans none (fun h' n' => n' = nx ∧ ∃ (my' : Int32) (vo' lg' bh' : Nat → Nat) (pr' pi' : Nat → Int64), h' = hv_ov h [(k, oK k (th) ((nI c)) (nI (OPN c pl la)) (nI (SHR c pl la)) (sp) (tu) (gc) (my') ((VV c pl la re im so sx (sprF w (OPN c pl la) 20).1).1) ((VV c pl la re im so sx (sprF w (OPN c pl la) 20).1).2) (so) (sx)), (k + 1, eN 10 pl), (k + 2, eM 60 la), (k + 3, eI 640 re), (k + 4, eI 640 im), (k + 15, eN 20 (vo')), (k + 16, eN 20 (lg')), (k + 17, eN 10 (bh')), (k + 18, eL 21 (pr')), (k + 19, eL 21 (pi'))])) 0 0 (hv_ov h [(k, oK k (th) ((nI c)) (nI (OPN c pl la)) (nI (SHR c pl la)) (sp) (tu) (gc) (nI many) ((sR (fun v => Pd bh (EV pl la re im so sx (valV (SHR c pl la) (OPN c pl la) w v)) c many) v).1) ((sR (fun v => Pd bh (EV pl la re im so sx (valV (SHR c pl la) (OPN c pl la) w v)) c many) v).2) (so) (sx)), (k + 1, eN 10 pl), (k + 2, eM 60 la), (k + 3, eI 640 re), (k + 4, eI 640 im), (k + 15, eN 20 (vo)), (k + 16, eN 20 (lg)), (k + 17, eN 10 (bh)), (k + 18, eL 21 (pr)), (k + 19, eL 21 (pi))]) nx 32 [some (.ref k), some (.int (nI w)), some (.int (nI fr)), some (.int (nI v)), some (.int (nI y))] [] := by
          intro kk
          induction kk using Nat.strongRecOn with
          | ind kk ih =>
            intro y hkk hi vo hV hA
            refine V_iload d_K_sumUp_32 rfl ?_
            refine V_aload_n d_K_sumUp_34 rfl ?_
            refine V_getfield d_K_sumUp_35 fl_K_135 (og_0) rfl ?_
            refine V_icmp_geN 72 d_K_sumUp_38 (by decide) (by omega) (by omega) (fun cy => ?_) (fun cy => ?_)
            · have ey : y = many := by omega
              rw [ey] at hA
              refine V_iload_n d_K_sumUp_72 rfl ?_
              refine V_istore_4 d_K_sumUp_73 rfl ?_
              have hE : ∀ t, t < c → enK so sx re im t (ixV (fun p => la (6 * t + p)) vo (pl t)) = EV pl la re im so sx (valV (SHR c pl la) (OPN c pl la) w v) t := fun t ht => by
                unfold EV
                congr 1
                refine ixV_congr _ (fun q n hq e => ?_)
                exact val_bit (fun n => OS_dis) (hN.2.2.1 _ n (by have := hN.2.1 t ht; have := hN.1; omega) e) hV (by rw [← hmany]; exact hA) (OS_or ht hq e)
              have hvo : ∀ t p n, t < c → p < pl t → la (6 * t + p) = some n → vo n < 2 := fun t q n ht hq e => by
                rw [val_bit (fun n => OS_dis) (hN.2.2.1 _ n (by have := hN.2.1 t ht; have := hN.1; omega) e) hV (by rw [← hmany]; exact hA) (OS_or ht hq e)]
                unfold b_
                split <;> decide
              have hML : ∀ d s0, mlP bh (fun t => enK so sx re im t (ixV (fun p => la (6 * t + p)) vo (pl t))) d s0 c = mlP bh (EV pl la re im so sx (valV (SHR c pl la) (OPN c pl la) w v)) d s0 c := fun d s0 => by
                rw [mlP_pr, mlP_pr]
                congr 1
                exact prT_congr c (fun _ _ => rfl) (fun t ht _ => hE t ht)
              have lp4 : ∀ (kk d : Nat), kk = (many + 1) - d → d ≤ (many + 1) → ∀ pr pi : Nat → Int64, (∀ d', d' < d → (pr d', pi d') = Pd bh (EV pl la re im so sx (valV (SHR c pl la) (OPN c pl la) w v)) c d') → hv_V l D M_K_sumUp (fun _ _ => True) (hv_rm 2 56 0 0) (hv_ans none (fun h' n' => n' = nx ∧ ∃ (my' : Int32) (vo' lg' bh' : Nat → Nat) (pr' pi' : Nat → Int64), h' = hv_ov h [(k, oK k (th) ((nI c)) (nI (OPN c pl la)) (nI (SHR c pl la)) (sp) (tu) (gc) (my') ((VV c pl la re im so sx (sprF w (OPN c pl la) 20).1).1) ((VV c pl la re im so sx (sprF w (OPN c pl la) 20).1).2) (so) (sx)), (k + 1, eN 10 pl), (k + 2, eM 60 la), (k + 3, eI 640 re), (k + 4, eI 640 im), (k + 15, eN 20 (vo')), (k + 16, eN 20 (lg')), (k + 17, eN 10 (bh')), (k + 18, eL 21 (pr')), (k + 19, eL 21 (pi'))])) 0 0 (hv_ov h [(k, oK k (th) ((nI c)) (nI (OPN c pl la)) (nI (SHR c pl la)) (sp) (tu) (gc) (nI many) ((sR (fun v => Pd bh (EV pl la re im so sx (valV (SHR c pl la) (OPN c pl la) w v)) c many) v).1) ((sR (fun v => Pd bh (EV pl la re im so sx (valV (SHR c pl la) (OPN c pl la) w v)) c many) v).2) (so) (sx)), (k + 1, eN 10 pl), (k + 2, eM 60 la), (k + 3, eI 640 re), (k + 4, eI 640 im), (k + 15, eN 20 (vo)), (k + 16, eN 20 (lg)), (k + 17, eN 10 (bh)), (k + 18, eL 21 (pr)), (k + 19, eL 21 (pi))]) nx 75 [some (.ref k), some (.int (nI w)), some (.int (nI fr)), some (.int (nI v)), some (.int (nI d))] [] := by
                intro kk
                induction kk using Nat.strongRecOn with
                | ind kk ih =>
                  intro d hkk hi pr pi HP
                  refine V_iload d_K_sumUp_75 rfl ?_
                  refine V_aload_n d_K_sumUp_77 rfl ?_
                  refine V_getfield d_K_sumUp_78 fl_K_135 (og_0) rfl ?_
                  refine V_icmp_gtN 96 d_K_sumUp_81 (by decide) (by omega) (by omega) (fun cd => ?_) (fun cd => ?_)
                  · have ed : d = many + 1 := by omega
                    subst ed
                    refine V_aload_n d_K_sumUp_96 rfl ?_
                    refine V_dup d_K_sumUp_97 rfl ?_
                    refine V_getfield d_K_sumUp_98 fl_K_150 (og_0) rfl ?_
                    refine V_aload_n d_K_sumUp_101 rfl ?_
                    refine V_getfield d_K_sumUp_102 fl_K_62 (og_0) rfl ?_
                    refine V_aload_n d_K_sumUp_105 rfl ?_
                    refine V_getfield d_K_sumUp_106 fl_K_135 (og_0) rfl ?_
                    refine V_laload d_K_sumUp_109 (og_8 (by omega) (by omega) (by omega) (by omega) (by omega) (by omega) (by omega) (by omega)) ⟨rfl, by omega, by decide⟩ ?_
                    refine V_ladd d_K_sumUp_110 ?_
                    refine V_put (e' := oK k (th) ((nI c)) (nI (OPN c pl la)) (nI (SHR c pl la)) (sp) (tu) (gc) (nI many) ((sR (fun v => Pd bh (EV pl la re im so sx (valV (SHR c pl la) (OPN c pl la) w v)) c many) v).1 + pr many) ((sR (fun v => Pd bh (EV pl la re im so sx (valV (SHR c pl la) (OPN c pl la) w v)) c many) v).2) (so) (sx)) d_K_sumUp_111 fp_K_150 (og_0) rfl rfl rfl rfl (ou_0) ?_
                    refine V_aload_n d_K_sumUp_114 rfl ?_
                    refine V_dup d_K_sumUp_115 rfl ?_
                    refine V_getfield d_K_sumUp_116 fl_K_154 (og_0) rfl ?_
                    refine V_aload_n d_K_sumUp_119 rfl ?_
                    refine V_getfield d_K_sumUp_120 fl_K_66 (og_0) rfl ?_
                    refine V_aload_n d_K_sumUp_123 rfl ?_
                    refine V_getfield d_K_sumUp_124 fl_K_135 (og_0) rfl ?_
                    refine V_laload d_K_sumUp_127 (og_9 (by omega) (by omega) (by omega) (by omega) (by omega) (by omega) (by omega) (by omega) (by omega)) ⟨rfl, by omega, by decide⟩ ?_
                    refine V_ladd d_K_sumUp_128 ?_
                    refine V_put (e' := oK k (th) ((nI c)) (nI (OPN c pl la)) (nI (SHR c pl la)) (sp) (tu) (gc) (nI many) ((sR (fun v => Pd bh (EV pl la re im so sx (valV (SHR c pl la) (OPN c pl la) w v)) c many) v).1 + pr many) ((sR (fun v => Pd bh (EV pl la re im so sx (valV (SHR c pl la) (OPN c pl la) w v)) c many) v).2 + pi many) (so) (sx)) d_K_sumUp_129 fp_K_154 (og_0) rfl rfl rfl rfl (ou_0) ?_
                    refine V_aload_n d_K_sumUp_132 rfl ?_
                    refine V_getfield d_K_sumUp_133 fl_K_135 (og_0) rfl ?_
                    refine V_istore_4 d_K_sumUp_136 rfl ?_
                    refine V_drop_2 ?_
                    have lp5 : ∀ (kk j : Nat), kk = many - j → j ≤ many → (∀ i, i < j → (v + 1).testBit i = false) → hv_V l D M_K_sumUp (fun _ _ => True) (hv_rm 2 56 0 0) (hv_ans none (fun h' n' => n' = nx ∧ ∃ (my' : Int32) (vo' lg' bh' : Nat → Nat) (pr' pi' : Nat → Int64), h' = hv_ov h [(k, oK k (th) ((nI c)) (nI (OPN c pl la)) (nI (SHR c pl la)) (sp) (tu) (gc) (my') ((VV c pl la re im so sx (sprF w (OPN c pl la) 20).1).1) ((VV c pl la re im so sx (sprF w (OPN c pl la) 20).1).2) (so) (sx)), (k + 1, eN 10 pl), (k + 2, eM 60 la), (k + 3, eI 640 re), (k + 4, eI 640 im), (k + 15, eN 20 (vo')), (k + 16, eN 20 (lg')), (k + 17, eN 10 (bh')), (k + 18, eL 21 (pr')), (k + 19, eL 21 (pi'))])) 0 0 (hv_ov h [(k, oK k (th) ((nI c)) (nI (OPN c pl la)) (nI (SHR c pl la)) (sp) (tu) (gc) (nI many) ((sR (fun v => Pd bh (EV pl la re im so sx (valV (SHR c pl la) (OPN c pl la) w v)) c many) v).1 + pr many) ((sR (fun v => Pd bh (EV pl la re im so sx (valV (SHR c pl la) (OPN c pl la) w v)) c many) v).2 + pi many) (so) (sx)), (k + 1, eN 10 pl), (k + 2, eM 60 la), (k + 3, eI 640 re), (k + 4, eI 640 im), (k + 15, eN 20 (vo)), (k + 16, eN 20 (lg)), (k + 17, eN 10 (bh)), (k + 18, eL 21 (pr)), (k + 19, eL 21 (pi))]) nx 138 [some (.ref k), some (.int (nI w)), none, some (.int (nI v)), some (.int (nI (many - j)))] [] := by
                      intro kk
                      induction kk using Nat.strongRecOn with
                      | ind kk ih =>
                        intro j hkk hi Hj
                        refine V_iload d_K_sumUp_138 rfl ?_
                        refine V_if_leN 165 d_K_sumUp_140 (by decide) (by omega) (fun cz => ?_) (fun cz => ?_)
                        · have PN : ∀ d, d < many - j → (pr d, pi d) = Pd bh (EV pl la re im so sx (valV (SHR c pl la) (OPN c pl la) w (v + 1))) c d := fun d hd => by omega
                          refine V_iload d_K_sumUp_165 rfl ?_
                          refine V_istore_2 d_K_sumUp_167 rfl ?_
                          refine V_iincN_3 1 d_K_sumUp_168 rfl rfl ?_
                          refine V_goto 19 d_K_sumUp_171 (by decide) ?_
                          have J := ihv (2 ^ many - (v + 1)) (by omega) (v + 1) rfl (by omega) vo pr pi (many - j) hV (by omega) PN
                          have ES : (sR (fun v => Pd bh (EV pl la re im so sx (valV (SHR c pl la) (OPN c pl la) w v)) c many) (v + 1)) = ((sR (fun v => Pd bh (EV pl la re im so sx (valV (SHR c pl la) (OPN c pl la) w v)) c many) v).1 + pr many, (sR (fun v => Pd bh (EV pl la re im so sx (valV (SHR c pl la) (OPN c pl la) w v)) c many) v).2 + pi many) := by
                            show cad (sR (fun v => Pd bh (EV pl la re im so sx (valV (SHR c pl la) (OPN c pl la) w v)) c many) v) (Pd bh (EV pl la re im so sx (valV (SHR c pl la) (OPN c pl la) w v)) c many) = _
                            rw [← HP many (by omega)]
                            rfl
                          rw [ES] at J
                          refine V_drop_4 ?_
                          exact J
                        · refine V_iload_n d_K_sumUp_143 rfl ?_
                          refine V_iconst (nI 1) d_K_sumUp_144 rfl ?_
                          refine V_iaddN d_K_sumUp_145 ?_
                          refine V_aload_n d_K_sumUp_146 rfl ?_
                          refine V_getfield d_K_sumUp_147 fl_K_135 (og_0) rfl ?_
                          refine V_iload d_K_sumUp_150 rfl ?_
                          refine V_isubN d_K_sumUp_152 (by omega) ?_
                          refine V_ishrN d_K_sumUp_153 (by omega) (by omega) ?_
                          rw [show many - (many - j) = j by omega]
                          refine V_iconst (nI 1) d_K_sumUp_154 rfl ?_
                          refine V_iandN d_K_sumUp_155 ?_
                          refine V_if_neN 165 d_K_sumUp_156 (by decide) (Nat.lt_of_le_of_lt Nat.and_le_right (by decide)) (fun cb => ?_) (fun cb => ?_)
                          · have bj : (v + 1).testBit j = true := by
                              rw [b_eq] at cb
                              unfold b_ at cb
                              split at cb
                              · rename_i z; exact z
                              · exact absurd rfl cb
                            have PN : ∀ d, d < many - j → (pr d, pi d) = Pd bh (EV pl la re im so sx (valV (SHR c pl la) (OPN c pl la) w (v + 1))) c d := fun d hd => by
                              rw [HP d (by omega)]
                              refine Pd_congr d (fun t ht hbd => ?_)
                              unfold EV
                              congr 1
                              refine ixV_congr _ (fun q n hq e => ?_)
                              have n20 := hN.2.2.1 _ n (by have := hN.2.1 t ht; have := hN.1; omega) e
                              unfold b_ valV
                              rw [Nat.testBit_or, Nat.testBit_or, rs_bit 20 _ n20, rs_bit 20 _ n20]
                              cases hs : (SHR c pl la).testBit n with
                              | false => rfl
                              | true =>
                                have b1 := (hbh t ht).2 q n hq e n20 hs
                                rw [succ_high Hj bj _ (by omega)]
                            refine V_iload d_K_sumUp_165 rfl ?_
                            refine V_istore_2 d_K_sumUp_167 rfl ?_
                            refine V_iincN_3 1 d_K_sumUp_168 rfl rfl ?_
                            refine V_goto 19 d_K_sumUp_171 (by decide) ?_
                            have J := ihv (2 ^ many - (v + 1)) (by omega) (v + 1) rfl (by omega) vo pr pi (many - j) hV (by omega) PN
                            have ES : (sR (fun v => Pd bh (EV pl la re im so sx (valV (SHR c pl la) (OPN c pl la) w v)) c many) (v + 1)) = ((sR (fun v => Pd bh (EV pl la re im so sx (valV (SHR c pl la) (OPN c pl la) w v)) c many) v).1 + pr many, (sR (fun v => Pd bh (EV pl la re im so sx (valV (SHR c pl la) (OPN c pl la) w v)) c many) v).2 + pi many) := by
                              show cad (sR (fun v => Pd bh (EV pl la re im so sx (valV (SHR c pl la) (OPN c pl la) w v)) c many) v) (Pd bh (EV pl la re im so sx (valV (SHR c pl la) (OPN c pl la) w v)) c many) = _
                              rw [← HP many (by omega)]
                              rfl
                            rw [ES] at J
                            refine V_drop_4 ?_
                            exact J
                          · have bj : (v + 1).testBit j = false := by
                              rw [b_eq] at cb
                              unfold b_ at cb
                              split at cb
                              · cases cb
                              · rename_i z; simpa using z
                            rw [show many - j = many - (j + 1) + 1 by omega]
                            refine V_iinc_4 (-1) d_K_sumUp_159 rfl rfl ?_
                            rw [pk_m1]
                            refine V_goto 138 d_K_sumUp_162 (by decide) ?_
                            exact ih (many - (j + 1)) (by omega) (j + 1) rfl (by omega) (fun i hi => by
                              by_cases e : i = j
                              · rw [e]; exact bj
                              · exact Hj i (by omega))
                    have J := lp5 _ 0 rfl (Nat.zero_le _) (fun i hi => by omega)
                    exact J
                  · obtain ⟨s0, hs0, hs1⟩ : ∃ s0 : Cx, ((d = 0 ∧ s0 = c1_) ∨ (0 < d ∧ s0 = (pr (d - 1), pi (d - 1)))) ∧ mlP bh (EV pl la re im so sx (valV (SHR c pl la) (OPN c pl la) w v)) d s0 c = Pd bh (EV pl la re im so sx (valV (SHR c pl la) (OPN c pl la) w v)) c d := by
                      cases d with
                      | zero => exact ⟨c1_, Or.inl ⟨rfl, rfl⟩, rfl⟩
                      | succ d => exact ⟨(pr d, pi d), Or.inr ⟨by omega, rfl⟩, by rw [HP d (by omega)]; rfl⟩
                    refine V_aload_n d_K_sumUp_84 rfl ?_
                    refine V_iload d_K_sumUp_85 rfl ?_
                    refine V_callV0 d_K_sumUp_87 ml_K_157 mB_K_multiply mi_K_multiply mv_K_multiply rfl og_0 (c_K_multiply l D _ _ og_0 hN (og_1 (by omega)) (og_2 (by omega) (by omega)) (og_3 (by omega) (by omega) (by omega)) (og_4 (by omega) (by omega) (by omega) (by omega)) (og_5 (by omega) (by omega) (by omega) (by omega) (by omega)) (og_7 (by omega) (by omega) (by omega) (by omega) (by omega) (by omega) (by omega)) (og_8 (by omega) (by omega) (by omega) (by omega) (by omega) (by omega) (by omega) (by omega)) (og_9 (by omega) (by omega) (by omega) (by omega) (by omega) (by omega) (by omega) (by omega) (by omega)) (by omega) (fun t ht => by have := (hbh t ht).1; omega) hvo hnm hs0) rfl rfl rfl rfl rfl rfl rfl ?_
                    rintro _ _ ⟨rfl, e9⟩
                    have e9 := e9.symm
                    subst e9
                    rw [ox_9, ou_9 (by omega) (by omega) (by omega) (by omega) (by omega) (by omega) (by omega) (by omega) (by omega), ou_8 (by omega) (by omega) (by omega) (by omega) (by omega) (by omega) (by omega) (by omega), ou_7 (by omega) (by omega) (by omega) (by omega) (by omega) (by omega) (by omega), ou_5 (by omega) (by omega) (by omega) (by omega) (by omega), ou_4 (by omega) (by omega) (by omega) (by omega), ou_3 (by omega) (by omega) (by omega), ou_2 (by omega) (by omega), ou_1 (by omega), ou_0, hML, hs1]
                    refine V_iincN_4 1 d_K_sumUp_90 rfl rfl ?_
                    refine V_goto 75 d_K_sumUp_93 (by decide) ?_
                    exact ih (many + 1 - (d + 1)) (by omega) (d + 1) rfl (by omega) _ _ (fun d' hd' => by
                      by_cases e : d' = d
                      · subst e; simp only [va_up, if_true]
                      · simp only [va_up, if_neg e]; exact HP d' (by omega))
              exact lp4 _ fr rfl (by omega) pr pi HP0
            · obtain ⟨u1, u2, u3⟩ := oL_lt hL (show y < pc_n (SHR c pl la) 20 by omega)
              refine V_aload_n d_K_sumUp_41 rfl ?_
              refine V_getfield d_K_sumUp_42 fl_K_53 (og_0) rfl ?_
              refine V_aload_n d_K_sumUp_45 rfl ?_
              refine V_getfield d_K_sumUp_46 fl_K_56 (og_0) rfl ?_
              refine V_iload d_K_sumUp_49 rfl ?_
              refine V_iaload d_K_sumUp_51 (og_6 (by omega) (by omega) (by omega) (by omega) (by omega) (by omega)) ⟨rfl, by omega, by decide⟩ ?_
              refine V_iload_n d_K_sumUp_52 rfl ?_
              refine V_aload_n d_K_sumUp_53 rfl ?_
              refine V_getfield d_K_sumUp_54 fl_K_135 (og_0) rfl ?_
              refine V_iconst (nI 1) d_K_sumUp_57 rfl ?_
              refine V_isubN d_K_sumUp_58 (by omega) ?_
              refine V_iload d_K_sumUp_59 rfl ?_
              refine V_isubN d_K_sumUp_61 (by omega) ?_
              refine V_ishrN d_K_sumUp_62 (by omega) (by omega) ?_
              refine V_iconst (nI 1) d_K_sumUp_63 rfl ?_
              refine V_iandN d_K_sumUp_64 ?_
              refine V_istN d_K_sumUp_65 (og_5 (by omega) (by omega) (by omega) (by omega) (by omega)) ⟨rfl, by omega, by decide⟩ (ou_5 (by omega) (by omega) (by omega) (by omega) (by omega)) ?_
              refine V_iincN_4 1 d_K_sumUp_66 rfl rfl ?_
              refine V_goto 32 d_K_sumUp_69 (by decide) ?_
              refine ih (many - (y + 1)) (by omega) (y + 1) rfl (by omega) _ (fun n hn ho => ?_) (fun n hn hs hp => ?_)
              · have : ¬ n = lg y := fun e => by rw [← e] at u2; exact OS_dis ⟨ho, u2⟩
                simp only [va_up, if_neg this]
                exact hV n hn ho
              · by_cases e : n = lg y
                · rw [e, u3]
                  simp only [va_up, if_true]
                · simp only [va_up, if_neg e]
                  refine hA n hn hs ?_
                  have : pc_n (SHR c pl la) n ≠ y := fun q => e (by rw [← q]; exact (hL n hn hs).symm)
                  omega
        exact lp3 _ 0 rfl (Nat.zero_le _) vo hV (fun n hn hs hp => by omega)
  refine V_eqH (ob_10 hk h1 h2 h3 h4 h15 h16 h17 h18 h19) ?_
  refine V_aload_n d_K_sumUp_0 rfl ?_
  refine V_iload_n d_K_sumUp_1 rfl ?_
  refine V_callV0 d_K_sumUp_2 ml_K_147 mB_K_order mi_K_order mv_K_order rfl og_0 (c_K_order l D _ _ og_0 hN hnm (og_1 (by omega)) (og_2 (by omega) (by omega)) (og_5 (by omega) (by omega) (by omega) (by omega) (by omega)) (og_6 (by omega) (by omega) (by omega) (by omega) (by omega) (by omega)) (og_7 (by omega) (by omega) (by omega) (by omega) (by omega) (by omega) (by omega)) hw) rfl rfl rfl rfl rfl rfl rfl ?_
  rintro _ _ ⟨e9, vo', lg', bh', rfl, hV, hL, hB⟩
  have e9 := e9.symm
  subst e9
  rw [ox_6, ou_7 (by omega) (by omega) (by omega) (by omega) (by omega) (by omega) (by omega), ou_6 (by omega) (by omega) (by omega) (by omega) (by omega) (by omega), ou_5 (by omega) (by omega) (by omega) (by omega) (by omega), ou_2 (by omega) (by omega), ou_1 (by omega), ou_0, ← hmany]
  refine V_aload_n d_K_sumUp_5 rfl ?_
  refine V_lconst 0 d_K_sumUp_6 rfl ?_
  refine V_put (e' := oK k (th) ((nI c)) (nI (OPN c pl la)) (nI (SHR c pl la)) (sp) (tu) (gc) (nI many) (0) (si) (so) (sx)) d_K_sumUp_7 fp_K_150 (og_0) rfl rfl rfl rfl (ou_0) ?_
  refine V_aload_n d_K_sumUp_10 rfl ?_
  refine V_lconst 0 d_K_sumUp_11 rfl ?_
  refine V_put (e' := oK k (th) ((nI c)) (nI (OPN c pl la)) (nI (SHR c pl la)) (sp) (tu) (gc) (nI many) (0) (0) (so) (sx)) d_K_sumUp_12 fp_K_154 (og_0) rfl rfl rfl rfl (ou_0) ?_
  refine V_iconst (nI 0) d_K_sumUp_15 rfl ?_
  refine V_istore_2 d_K_sumUp_16 rfl ?_
  refine V_iconst (nI 0) d_K_sumUp_17 rfl ?_
  refine V_istore_3 d_K_sumUp_18 rfl ?_
  have J := lp2 lg' bh' hL hB _ 0 rfl (Nat.zero_le _) vo' pr0 pi0 0 hV (Nat.zero_le _) (fun d hd => by omega)
  exact J
