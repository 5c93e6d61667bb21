-- THE MODEL: order, indexOf, multiply
def oV (O w n : Nat) (vo : Nat → Nat) : Prop := ∀ q, q < n → O.testBit q = true → vo q = w / 2 ^ pc_n O q &&& 1
def oL (S n : Nat) (lg : Nat → Nat) : Prop := ∀ q, q < n → S.testBit q = true → lg (pc_n S q) = q
theorem oV_t {O w n : Nat} {vo : Nat → Nat} (h : oV O w n vo) : oV O w (n + 1) (va_up vo n (w / 2 ^ pc_n O n &&& 1)) := by
  intro q hq hb
  by_cases e : q = n
  · subst e; simp [va_up]
  · simp only [va_up, if_neg e]; exact h q (by omega) hb
theorem oV_f {O w n : Nat} {vo : Nat → Nat} (hn : O.testBit n = false) (h : oV O w n vo) : oV O w (n + 1) vo := by
  intro q hq hb
  by_cases e : q = n
  · subst e; rw [hn] at hb; cases hb
  · exact h q (by omega) hb
theorem oL_t {S n : Nat} {lg : Nat → Nat} (h : oL S n lg) : oL S (n + 1) (va_up lg (pc_n S n) n) := by
  intro q hq hb
  by_cases e : q = n
  · subst e; simp [va_up]
  · have := pc_lt (S := S) (show q < n by omega) hb
    simp only [va_up, if_neg (show ¬ pc_n S q = pc_n S n by omega)]
    exact h q (by omega) hb
theorem oL_f {S n : Nat} {lg : Nat → Nat} (hn : S.testBit n = false) (h : oL S n lg) : oL S (n + 1) lg := by
  intro q hq hb
  by_cases e : q = n
  · subst e; rw [hn] at hb; cases hb
  · exact h q (by omega) hb
theorem pc_t {S n : Nat} (h : S.testBit n = true) : pc_n S (n + 1) = pc_n S n + 1 := by simp [pc_n, h]
theorem pc_f {S n : Nat} (h : S.testBit n = false) : pc_n S (n + 1) = pc_n S n := by simp [pc_n, h]
theorem pc_surj {S : Nat} : ∀ {n k : Nat}, k < pc_n S n → ∃ q, q < n ∧ S.testBit q = true ∧ pc_n S q = k
  | 0, k, h => by simp [pc_n] at h
  | n + 1, k, h => by
    cases hs : S.testBit n with
    | false =>
      rw [pc_f hs] at h
      obtain ⟨q, a, b, c⟩ := pc_surj h
      exact ⟨q, by omega, b, c⟩
    | true =>
      rw [pc_t hs] at h
      by_cases e : k = pc_n S n
      · exact ⟨n, by omega, hs, e.symm⟩
      · obtain ⟨q, a, b, c⟩ := pc_surj (show k < pc_n S n by omega)
        exact ⟨q, by omega, b, c⟩
theorem oL_lt {S n k : Nat} {lg : Nat → Nat} (h : oL S n lg) (hk : k < pc_n S n) : lg k < n ∧ S.testBit (lg k) = true ∧ pc_n S (lg k) = k := by
  obtain ⟨q, a, b, c⟩ := pc_surj hk
  have := h q a b
  rw [c] at this
  rw [this]
  exact ⟨a, b, c⟩
/-- behind which leg a tensor comes -/
def bhOK (S : Nat) (g : Nat → Option Nat) (pl y : Nat) : Prop := y ≤ pc_n S 20 ∧ ∀ p n, p < pl → g p = some n → n < 20 → S.testBit n = true → pc_n S n + 1 ≤ y
def bhP (S : Nat) (g : Nat → Option Nat) (pl k p y : Nat) : Prop := y ≤ k + 1 ∧ (p = 0 → y ≤ k) ∧ ∀ p' n, p' < pl → g p' = some n → n < 20 → S.testBit n = true → (pc_n S n < k ∨ (pc_n S n = k ∧ p' < p)) → pc_n S n + 1 ≤ y
theorem bhP_t {S k p y pl : Nat} {g : Nat → Option Nat} (h : bhP S g pl k p y) : bhP S g pl k (p + 1) (k + 1) := by
  refine ⟨Nat.le_refl _, fun q => by omega, fun p' n a b c d e => ?_⟩
  rcases e with e | e <;> omega
theorem bhP_f {S k p y pl m : Nat} {g : Nat → Option Nat} {lg : Nat → Nat} (hL : oL S 20 lg) (hm : g p = some m) (hne : ¬ m = lg k) (h : bhP S g pl k p y) : bhP S g pl k (p + 1) y := by
  refine ⟨h.1, fun q => by omega, fun p' n a b c d e => ?_⟩
  rcases e with e | ⟨e1, e2⟩
  · exact h.2.2 p' n a b c d (Or.inl e)
  · by_cases e3 : p' = p
    · subst e3
      rw [hm] at b
      cases b
      have := hL m c d
      rw [e1] at this
      exact absurd this.symm hne
    · exact h.2.2 p' n a b c d (Or.inr ⟨e1, by omega⟩)
theorem bhP_k {S k y pl : Nat} {g : Nat → Option Nat} (h : bhP S g pl k pl y) : bhP S g pl (k + 1) 0 y := by
  refine ⟨by have := h.1; omega, fun _ => h.1, fun p' n a b c d e => h.2.2 p' n a b c d ?_⟩
  rcases e with e | e
  · by_cases q : pc_n S n = k
    · exact Or.inr ⟨q, a⟩
    · exact Or.inl (by omega)
  · omega
theorem bhP_0 {S pl : Nat} {g : Nat → Option Nat} : bhP S g pl 0 0 0 := ⟨by omega, fun _ => by omega, fun p' n a b c d e => by rcases e with e | e <;> omega⟩
theorem bhP_end {S y pl : Nat} {g : Nat → Option Nat} (h : bhP S g pl (pc_n S 20) 0 y) : bhOK S g pl y := ⟨h.2.1 rfl, fun p n a b c d => h.2.2 p n a b c d (Or.inl (pc_lt c d))⟩
set_option maxRecDepth 100000 in
set_option maxHeartbeats 4000000 in
theorem c_K_order (l : Launch) (D : hv_D) (h : hv_P) (nx : Nat) {k c w : Nat} {th sp tu gc my so sx : Int32} {sr si : Int64} {pl : Nat → Nat} {la : Nat → Option Nat} (hk : h k = some (oK k th (nI c) (nI (OPN c pl la)) (nI (SHR c pl la)) sp tu gc my sr si so sx)) (hN : netOK c pl la) (hnm : ∀ t p, t < c → p < pl t → ∃ n, la (6 * t + p) = some n ∧ n < 20) {vo0 lg0 bh0 : Nat → Nat} (h1 : h (k + 1) = some (eN 10 pl)) (h2 : h (k + 2) = some (eM 60 la)) (h15 : h (k + 15) = some (eN 20 vo0)) (h16 : h (k + 16) = some (eN 20 lg0)) (h17 : h (k + 17) = some (eN 10 bh0)) (hw : w < 2 ^ 31) : hv_N l D M_K_order (hv_rm 0 0 0 0) [.ref k, .int (nI w)] h nx (hv_ans none (fun h' n' => n' = nx ∧ ∃ vo' lg' bh' : Nat → Nat, h' = hv_ov h [(k, oK k (th) ((nI c)) (nI (OPN c pl la)) (nI (SHR c pl la)) (sp) (tu) (gc) (nI (pc_n (SHR c pl la) 20)) (sr) (si) (so) (sx)), (k + 1, eN 10 pl), (k + 2, eM 60 la), (k + 15, eN 20 (vo')), (k + 16, eN 20 (lg')), (k + 17, eN 10 (bh'))] ∧ oV (OPN c pl la) w 20 vo' ∧ oL (SHR c pl la) 20 lg' ∧ ∀ t, t < c → bhOK (SHR c pl la) (fun p => la (6 * t + p)) (pl t) (bh' t))) := by
  refine hv_N.of' [some (.ref k), some (.int (nI w)), none, none, none, none] (by decide +kernel) rfl rfl rfl ?_
  obtain ⟨many, hmany⟩ : ∃ m, m = pc_n (SHR c pl la) 20 := ⟨_, rfl⟩
  have hmle := pc_n_le (SHR c pl la) 20
  have hO := OPN_lt hN
  have hS := SHR_lt hN
  have hc := hN.1
  have lp2 : ∀ vo lg : Nat → Nat, oV (OPN c pl la) w 20 vo → oL (SHR c pl la) 20 lg → ∀ (kk t : Nat), kk = c - t → t ≤ c → ∀ bh : Nat → Nat, (∀ t', t' < t → bhOK (SHR c pl la) (fun p => la (6 * t' + p)) (pl t') (bh t')) → hv_V l D M_K_order (fun _ _ => True) (hv_rm 0 0 0 0) (hv_ans none (fun h' n' => n' = nx ∧ ∃ vo' lg' bh' : Nat → Nat, h' = hv_ov h [(k, oK k (th) ((nI c)) (nI (OPN c pl la)) (nI (SHR c pl la)) (sp) (tu) (gc) (nI (pc_n (SHR c pl la) 20)) (sr) (si) (so) (sx)), (k + 1, eN 10 pl), (k + 2, eM 60 la), (k + 15, eN 20 (vo')), (k + 16, eN 20 (lg')), (k + 17, eN 10 (bh'))] ∧ oV (OPN c pl la) w 20 vo' ∧ oL (SHR c pl la) 20 lg' ∧ ∀ t, t < c → bhOK (SHR c pl la) (fun p => la (6 * t + p)) (pl t) (bh' t))) 0 0 (hv_ov h [(k, oK k (th) ((nI c)) (nI (OPN c pl la)) (nI (SHR c pl la)) (sp) (tu) (gc) (nI (pc_n (SHR c pl la) 20)) (sr) (si) (so) (sx)), (k + 1, eN 10 pl), (k + 2, eM 60 la), (k + 15, eN 20 (vo)), (k + 16, eN 20 (lg)), (k + 17, eN 10 (bh))]) nx 83 [some (.ref k), some (.int (nI w)), none, some (.int (nI t)), none, none] [] := by
    intro vo lg hV hL kk
    induction kk using Nat.strongRecOn with
    | ind kk iht =>
      intro t hkk hi bh HB
      refine V_iload_n d_K_order_83 rfl ?_
      refine V_aload_n d_K_order_84 rfl ?_
      refine V_getfield d_K_order_85 fl_K_73 (og_0) rfl ?_
      refine V_icmp_geN 183 d_K_order_88 (by decide) (by omega) (by omega) (fun ct => ?_) (fun ct => ?_)
      · exact V_return d_K_order_183 rfl ⟨rfl, rfl, vo, lg, bh, rfl, hV, hL, fun t' ht' => HB t' (by omega)⟩
      · have hp6 := hN.2.1 t (by omega)
        refine V_aload_n d_K_order_91 rfl ?_
        refine V_getfield d_K_order_92 fl_K_59 (og_0) rfl ?_
        refine V_iload_n d_K_order_95 rfl ?_
        refine V_iconst (nI 0) d_K_order_96 rfl ?_
        refine V_istN d_K_order_97 (og_5 (by omega) (by omega) (by omega) (by omega) (by omega)) ⟨rfl, by omega, by decide⟩ (ou_5 (by omega) (by omega) (by omega) (by omega) (by omega)) ?_
        refine V_iconst (nI 0) d_K_order_98 rfl ?_
        refine V_istore_4 d_K_order_99 rfl ?_
        have lp3 : ∀ (kk y : Nat), kk = many - y → y ≤ many → ∀ z, bhP (SHR c pl la) (fun p => la (6 * t + p)) (pl t) y 0 z → hv_V l D M_K_order (fun _ _ => True) (hv_rm 0 0 0 0) (hv_ans none (fun h' n' => n' = nx ∧ ∃ vo' lg' bh' : Nat → Nat, h' = hv_ov h [(k, oK k (th) ((nI c)) (nI (OPN c pl la)) (nI (SHR c pl la)) (sp) (tu) (gc) (nI (pc_n (SHR c pl la) 20)) (sr) (si) (so) (sx)), (k + 1, eN 10 pl), (k + 2, eM 60 la), (k + 15, eN 20 (vo')), (k + 16, eN 20 (lg')), (k + 17, eN 10 (bh'))] ∧ oV (OPN c pl la) w 20 vo' ∧ oL (SHR c pl la) 20 lg' ∧ ∀ t, t < c → bhOK (SHR c pl la) (fun p => la (6 * t + p)) (pl t) (bh' t))) 0 0 (hv_ov h [(k, oK k (th) ((nI c)) (nI (OPN c pl la)) (nI (SHR c pl la)) (sp) (tu) (gc) (nI (pc_n (SHR c pl la) 20)) (sr) (si) (so) (sx)), (k + 1, eN 10 pl), (k + 2, eM 60 la), (k + 15, eN 20 (vo)), (k + 16, eN 20 (lg)), (k + 17, eN 10 (va_up bh t z))]) nx 101 [some (.ref k), some (.int (nI w)), none, some (.int (nI t)), some (.int (nI y)), none] [] := by
          intro kk
          induction kk using Nat.strongRecOn with
          | ind kk ihk =>
            intro y hkk hi z Hz
            refine V_iload d_K_order_101 rfl ?_
            refine V_aload_n d_K_order_103 rfl ?_
            refine V_getfield d_K_order_104 fl_K_135 (og_0) rfl ?_
            refine V_icmp_geN 177 d_K_order_107 (by decide) (by omega) (by omega) (fun ck => ?_) (fun ck => ?_)
            · have ek : y = many := by omega
              have J := iht (c - (t + 1)) (by omega) (t + 1) rfl (by omega) (va_up bh t z) (fun t' ht' => by
                by_cases e : t' = t
                · subst e
                  simp only [va_up, if_true]
                  rw [ek, hmany] at Hz
                  exact bhP_end Hz
                · simp only [va_up, if_neg e]
                  exact HB t' (by omega))
              refine V_iincN_3 1 d_K_order_177 rfl rfl ?_
              refine V_goto 83 d_K_order_180 (by decide) ?_
              refine V_drop_4 ?_
              exact J
            · refine V_iconst (nI 0) d_K_order_110 rfl ?_
              refine V_istore_5 d_K_order_111 rfl ?_
              have lp4 : ∀ (kk p : Nat), kk = (pl t) - p → p ≤ (pl t) → ∀ z, bhP (SHR c pl la) (fun p => la (6 * t + p)) (pl t) y p z → hv_V l D M_K_order (fun _ _ => True) (hv_rm 0 0 0 0) (hv_ans none (fun h' n' => n' = nx ∧ ∃ vo' lg' bh' : Nat → Nat, h' = hv_ov h [(k, oK k (th) ((nI c)) (nI (OPN c pl la)) (nI (SHR c pl la)) (sp) (tu) (gc) (nI (pc_n (SHR c pl la) 20)) (sr) (si) (so) (sx)), (k + 1, eN 10 pl), (k + 2, eM 60 la), (k + 15, eN 20 (vo')), (k + 16, eN 20 (lg')), (k + 17, eN 10 (bh'))] ∧ oV (OPN c pl la) w 20 vo' ∧ oL (SHR c pl la) 20 lg' ∧ ∀ t, t < c → bhOK (SHR c pl la) (fun p => la (6 * t + p)) (pl t) (bh' t))) 0 0 (hv_ov h [(k, oK k (th) ((nI c)) (nI (OPN c pl la)) (nI (SHR c pl la)) (sp) (tu) (gc) (nI (pc_n (SHR c pl la) 20)) (sr) (si) (so) (sx)), (k + 1, eN 10 pl), (k + 2, eM 60 la), (k + 15, eN 20 (vo)), (k + 16, eN 20 (lg)), (k + 17, eN 10 (va_up bh t z))]) nx 113 [some (.ref k), some (.int (nI w)), none, some (.int (nI t)), some (.int (nI y)), some (.int (nI p))] [] := by
                intro kk
                induction kk using Nat.strongRecOn with
                | ind kk ih =>
                  intro p hkk hi z Hz
                  refine V_iload d_K_order_113 rfl ?_
                  refine V_aload_n d_K_order_115 rfl ?_
                  refine V_getfield d_K_order_116 fl_K_7 (og_0) rfl ?_
                  refine V_iload_n d_K_order_119 rfl ?_
                  refine V_iaload d_K_order_120 (og_1 (by omega)) ⟨rfl, by omega, by decide⟩ ?_
                  refine V_icmp_geN 171 d_K_order_121 (by decide) (by omega) (by omega) (fun cp => ?_) (fun cp => ?_)
                  · have ep : p = pl t := by omega
                    subst ep
                    have J := ihk (many - (y + 1)) (by omega) (y + 1) rfl (by omega) z (bhP_k Hz)
                    refine V_iincN_4 1 d_K_order_171 rfl rfl ?_
                    refine V_goto 101 d_K_order_174 (by decide) ?_
                    refine V_drop_5 ?_
                    exact J
                  · obtain ⟨m, hm, hm20⟩ := hnm t p (by omega) cp
                    obtain ⟨u1, u2, u3⟩ := oL_lt hL (show y < pc_n (SHR c pl la) 20 by omega)
                    refine V_aload_n d_K_order_124 rfl ?_
                    refine V_getfield d_K_order_125 fl_K_59 (og_0) rfl ?_
                    refine V_iload_n d_K_order_128 rfl ?_
                    refine V_aload_n d_K_order_129 rfl ?_
                    refine V_getfield d_K_order_130 fl_K_13 (og_0) rfl ?_
                    refine V_bipush (nI 6) d_K_order_133 rfl ?_
                    refine V_iload_n d_K_order_135 rfl ?_
                    refine V_imulN d_K_order_136 ?_
                    refine V_iload d_K_order_137 rfl ?_
                    refine V_iaddN d_K_order_139 ?_
                    refine V_iaload d_K_order_140 (og_2 (by omega) (by omega)) ⟨rfl, by omega, by decide⟩ ?_
                    refine V_eqI (y := nI m) (by rw [hm]; rfl) ?_
                    refine V_aload_n d_K_order_141 rfl ?_
                    refine V_getfield d_K_order_142 fl_K_56 (og_0) rfl ?_
                    refine V_iload d_K_order_145 rfl ?_
                    refine V_iaload d_K_order_147 (og_4 (by omega) (by omega) (by omega) (by omega)) ⟨rfl, by omega, by decide⟩ ?_
                    refine V_icmp_neN 158 d_K_order_148 (by decide) (by omega) (by omega) (fun ce => ?_) (fun ce => ?_)
                    · have J := ih (pl t - (p + 1)) (by omega) (p + 1) rfl (by omega) z (bhP_f hL hm ce Hz)
                      refine V_aload_n d_K_order_158 rfl ?_
                      refine V_getfield d_K_order_159 fl_K_59 (og_0) rfl ?_
                      refine V_iload_n d_K_order_162 rfl ?_
                      refine V_iaload d_K_order_163 (og_5 (by omega) (by omega) (by omega) (by omega) (by omega)) ⟨rfl, by omega, by decide⟩ ?_
                      refine V_eqI (y := nI z) (congrArg nI (if_pos rfl)) ?_
                      refine V_istN d_K_order_164 (og_5 (by omega) (by omega) (by omega) (by omega) (by omega)) ⟨rfl, by omega, by decide⟩ (h' := hv_ov h [(k, oK k (th) ((nI c)) (nI (OPN c pl la)) (nI (SHR c pl la)) (sp) (tu) (gc) (nI (pc_n (SHR c pl la) 20)) (sr) (si) (so) (sx)), (k + 1, eN 10 pl), (k + 2, eM 60 la), (k + 15, eN 20 (vo)), (k + 16, eN 20 (lg)), (k + 17, eN 10 (va_up bh t z))]) (by rw [va_up_up]; exact ou_5 (by omega) (by omega) (by omega) (by omega) (by omega)) ?_
                      refine V_iincN_5 1 d_K_order_165 rfl rfl ?_
                      refine V_goto 113 d_K_order_168 (by decide) ?_
                      exact J
                    · have J := ih (pl t - (p + 1)) (by omega) (p + 1) rfl (by omega) (y + 1) (bhP_t Hz)
                      refine V_iload d_K_order_151 rfl ?_
                      refine V_iconst (nI 1) d_K_order_153 rfl ?_
                      refine V_iaddN d_K_order_154 ?_
                      refine V_goto 164 d_K_order_155 (by decide) ?_
                      refine V_istN d_K_order_164 (og_5 (by omega) (by omega) (by omega) (by omega) (by omega)) ⟨rfl, by omega, by decide⟩ (h' := hv_ov h [(k, oK k (th) ((nI c)) (nI (OPN c pl la)) (nI (SHR c pl la)) (sp) (tu) (gc) (nI (pc_n (SHR c pl la) 20)) (sr) (si) (so) (sx)), (k + 1, eN 10 pl), (k + 2, eM 60 la), (k + 15, eN 20 (vo)), (k + 16, eN 20 (lg)), (k + 17, eN 10 (va_up bh t (y + 1)))]) (by rw [va_up_up]; exact ou_5 (by omega) (by omega) (by omega) (by omega) (by omega)) ?_
                      refine V_iincN_5 1 d_K_order_165 rfl rfl ?_
                      refine V_goto 113 d_K_order_168 (by decide) ?_
                      exact J
              exact lp4 _ 0 rfl (Nat.zero_le _) z Hz
        exact lp3 _ 0 rfl (Nat.zero_le _) 0 bhP_0
  have lp1 : ∀ (kk n : Nat), kk = 20 - n → n ≤ 20 → ∀ vo lg : Nat → Nat, oV (OPN c pl la) w n vo → oL (SHR c pl la) n lg → hv_V l D M_K_order (fun _ _ => True) (hv_rm 0 0 0 0) (hv_ans none (fun h' n' => n' = nx ∧ ∃ vo' lg' bh' : Nat → Nat, h' = hv_ov h [(k, oK k (th) ((nI c)) (nI (OPN c pl la)) (nI (SHR c pl la)) (sp) (tu) (gc) (nI (pc_n (SHR c pl la) 20)) (sr) (si) (so) (sx)), (k + 1, eN 10 pl), (k + 2, eM 60 la), (k + 15, eN 20 (vo')), (k + 16, eN 20 (lg')), (k + 17, eN 10 (bh'))] ∧ oV (OPN c pl la) w 20 vo' ∧ oL (SHR c pl la) 20 lg' ∧ ∀ t, t < c → bhOK (SHR c pl la) (fun p => la (6 * t + p)) (pl t) (bh' t))) 0 0 (hv_ov h [(k, oK k (th) ((nI c)) (nI (OPN c pl la)) (nI (SHR c pl la)) (sp) (tu) (gc) (nI (pc_n (SHR c pl la) n)) (sr) (si) (so) (sx)), (k + 1, eN 10 pl), (k + 2, eM 60 la), (k + 15, eN 20 (vo)), (k + 16, eN 20 (lg)), (k + 17, eN 10 (bh0))]) nx 9 [some (.ref k), some (.int (nI w)), some (.int (nI (pc_n (OPN c pl la) n))), some (.int (nI n)), none, none] [] := by
    intro kk
    induction kk using Nat.strongRecOn with
    | ind kk ih =>
      intro n hkk hi vo lg hV hL
      refine V_iload_n d_K_order_9 rfl ?_
      refine V_bipush (nI 20) d_K_order_10 rfl ?_
      refine V_icmp_geN 81 d_K_order_12 (by decide) (by omega) (by decide) (fun cn => ?_) (fun cn => ?_)
      · have en : n = 20 := by omega
        subst en
        refine V_iconst (nI 0) d_K_order_81 rfl ?_
        refine V_istore_3 d_K_order_82 rfl ?_
        refine V_drop_2 ?_
        exact lp2 vo lg hV hL _ 0 rfl (Nat.zero_le _) bh0 (fun t h => by omega)
      · refine V_aload_n d_K_order_15 rfl ?_
        refine V_getfield d_K_order_16 fl_K_84 (og_0) rfl ?_
        refine V_iload_n d_K_order_19 rfl ?_
        refine V_ishrN d_K_order_20 (by omega) (by omega) ?_
        refine V_iconst (nI 1) d_K_order_21 rfl ?_
        refine V_iandN d_K_order_22 ?_
        refine V_iconst (nI 1) d_K_order_23 rfl ?_
        refine V_icmp_neN 41 d_K_order_24 (by decide) (Nat.lt_of_le_of_lt Nat.and_le_right (by decide)) (by decide) (fun co => ?_) (fun co => ?_)
        · have bo : (OPN c pl la).testBit n = false := by
            cases z : (OPN c pl la).testBit n with
            | false => rfl
            | true => exact absurd (hv_bit_eq.mpr z) co
          have EO := pc_f bo
          have hV2 := oV_f bo hV
          refine V_aload_n d_K_order_41 rfl ?_
          refine V_getfield d_K_order_42 fl_K_87 (og_0) rfl ?_
          refine V_iload_n d_K_order_45 rfl ?_
          refine V_ishrN d_K_order_46 (by omega) (by omega) ?_
          refine V_iconst (nI 1) d_K_order_47 rfl ?_
          refine V_iandN d_K_order_48 ?_
          refine V_if_neN 55 d_K_order_49 (by decide) (Nat.lt_of_le_of_lt Nat.and_le_right (by decide)) (fun cs => ?_) (fun cs => ?_)
          · have bs : (SHR c pl la).testBit n = true := by
              rw [b_eq] at cs
              unfold b_ at cs
              split at cs
              · rename_i z; exact z
              · exact absurd rfl cs
            have ES := pc_t bs
            have hL2 := oL_t (S := (SHR c pl la)) hL
            have pm := pc_n_le (SHR c pl la) n
            refine V_aload_n d_K_order_55 rfl ?_
            refine V_getfield d_K_order_56 fl_K_56 (og_0) rfl ?_
            refine V_aload_n d_K_order_59 rfl ?_
            refine V_getfield d_K_order_60 fl_K_135 (og_0) rfl ?_
            refine V_iload_n d_K_order_63 rfl ?_
            refine V_istN d_K_order_64 (og_4 (by omega) (by omega) (by omega) (by omega)) ⟨rfl, by omega, by decide⟩ (ou_4 (by omega) (by omega) (by omega) (by omega)) ?_
            refine V_aload_n d_K_order_65 rfl ?_
            refine V_dup d_K_order_66 rfl ?_
            refine V_getfield d_K_order_67 fl_K_135 (og_0) rfl ?_
            refine V_iconst (nI 1) d_K_order_70 rfl ?_
            refine V_iaddN d_K_order_71 ?_
            refine V_put (e' := oK k (th) ((nI c)) (nI (OPN c pl la)) (nI (SHR c pl la)) (sp) (tu) (gc) (nI (pc_n (SHR c pl la) n + 1)) (sr) (si) (so) (sx)) d_K_order_72 fp_K_135 (og_0) rfl rfl rfl rfl (ou_0) ?_
            refine V_iincN_3 1 d_K_order_75 rfl rfl ?_
            refine V_goto 9 d_K_order_78 (by decide) ?_
            have J := ih (20 - (n + 1)) (by omega) (n + 1) rfl (by omega) _ _ hV2 hL2
            rw [EO, ES] at J
            exact J
          · have bs : (SHR c pl la).testBit n = false := by
              rw [b_eq] at cs
              unfold b_ at cs
              split at cs
              · cases cs
              · rename_i z; simpa using z
            have ES := pc_f bs
            have hL2 := oL_f bs hL
            refine V_goto 75 d_K_order_52 (by decide) ?_
            refine V_iincN_3 1 d_K_order_75 rfl rfl ?_
            refine V_goto 9 d_K_order_78 (by decide) ?_
            have J := ih (20 - (n + 1)) (by omega) (n + 1) rfl (by omega) _ _ hV2 hL2
            rw [EO, ES] at J
            exact J
        · have bo := hv_bit_eq.mp co
          have EO := pc_t bo
          have hV2 := oV_t (O := (OPN c pl la)) (w := w) hV
          have pn := pc_n_le (OPN c pl la) n
          refine V_aload_n d_K_order_27 rfl ?_
          refine V_getfield d_K_order_28 fl_K_53 (og_0) rfl ?_
          refine V_iload_n d_K_order_31 rfl ?_
          refine V_iload_n d_K_order_32 rfl ?_
          refine V_iload_n d_K_order_33 rfl ?_
          refine V_ishrN d_K_order_34 hw (by omega) ?_
          refine V_iconst (nI 1) d_K_order_35 rfl ?_
          refine V_iandN d_K_order_36 ?_
          refine V_istN d_K_order_37 (og_3 (by omega) (by omega) (by omega)) ⟨rfl, by omega, by decide⟩ (ou_3 (by omega) (by omega) (by omega)) ?_
          refine V_iincN_2 1 d_K_order_38 rfl rfl ?_
          refine V_aload_n d_K_order_41 rfl ?_
          refine V_getfield d_K_order_42 fl_K_87 (og_0) rfl ?_
          refine V_iload_n d_K_order_45 rfl ?_
          refine V_ishrN d_K_order_46 (by omega) (by omega) ?_
          refine V_iconst (nI 1) d_K_order_47 rfl ?_
          refine V_iandN d_K_order_48 ?_
          refine V_if_neN 55 d_K_order_49 (by decide) (Nat.lt_of_le_of_lt Nat.and_le_right (by decide)) (fun cs => ?_) (fun cs => ?_)
          · have bs : (SHR c pl la).testBit n = true := by
              rw [b_eq] at cs
              unfold b_ at cs
              split at cs
              · rename_i z; exact z
              · exact absurd rfl cs
            have ES := pc_t bs
            have hL2 := oL_t (S := (SHR c pl la)) hL
            have pm := pc_n_le (SHR c pl la) n
            refine V_aload_n d_K_order_55 rfl ?_
            refine V_getfield d_K_order_56 fl_K_56 (og_0) rfl ?_
            refine V_aload_n d_K_order_59 rfl ?_
            refine V_getfield d_K_order_60 fl_K_135 (og_0) rfl ?_
            refine V_iload_n d_K_order_63 rfl ?_
            refine V_istN d_K_order_64 (og_4 (by omega) (by omega) (by omega) (by omega)) ⟨rfl, by omega, by decide⟩ (ou_4 (by omega) (by omega) (by omega) (by omega)) ?_
            refine V_aload_n d_K_order_65 rfl ?_
            refine V_dup d_K_order_66 rfl ?_
            refine V_getfield d_K_order_67 fl_K_135 (og_0) rfl ?_
            refine V_iconst (nI 1) d_K_order_70 rfl ?_
            refine V_iaddN d_K_order_71 ?_
            refine V_put (e' := oK k (th) ((nI c)) (nI (OPN c pl la)) (nI (SHR c pl la)) (sp) (tu) (gc) (nI (pc_n (SHR c pl la) n + 1)) (sr) (si) (so) (sx)) d_K_order_72 fp_K_135 (og_0) rfl rfl rfl rfl (ou_0) ?_
            refine V_iincN_3 1 d_K_order_75 rfl rfl ?_
            refine V_goto 9 d_K_order_78 (by decide) ?_
            have J := ih (20 - (n + 1)) (by omega) (n + 1) rfl (by omega) _ _ hV2 hL2
            rw [EO, ES] at J
            exact J
          · have bs : (SHR c pl la).testBit n = false := by
              rw [b_eq] at cs
              unfold b_ at cs
              split at cs
              · cases cs
              · rename_i z; simpa using z
            have ES := pc_f bs
            have hL2 := oL_f bs hL
            refine V_goto 75 d_K_order_52 (by decide) ?_
            refine V_iincN_3 1 d_K_order_75 rfl rfl ?_
            refine V_goto 9 d_K_order_78 (by decide) ?_
            have J := ih (20 - (n + 1)) (by omega) (n + 1) rfl (by omega) _ _ hV2 hL2
            rw [EO, ES] at J
            exact J
  refine V_eqH (ob_6 hk h1 h2 h15 h16 h17) ?_
  refine V_iconst (nI 0) d_K_order_0 rfl ?_
  refine V_istore_2 d_K_order_1 rfl ?_
  refine V_aload_n d_K_order_2 rfl ?_
  refine V_iconst (nI 0) d_K_order_3 rfl ?_
  refine V_put (e' := oK k (th) ((nI c)) (nI (OPN c pl la)) (nI (SHR c pl la)) (sp) (tu) (gc) (nI 0) (sr) (si) (so) (sx)) d_K_order_4 fp_K_135 (og_0) rfl rfl rfl rfl (ou_0) ?_
  refine V_iconst (nI 0) d_K_order_7 rfl ?_
  refine V_istore_3 d_K_order_8 rfl ?_
  exact lp1 _ 0 rfl (Nat.zero_le _) _ _ (fun q h => by omega) (fun q h => by omega)

def nmV (vo : Nat → Nat) (o : Option Nat) : Nat := match o with
  | none => 0
  | some n => vo n
/-- the index that the values of the names give -/
def ixV (g : Nat → Option Nat) (vo : Nat → Nat) : Nat → Nat
  | 0 => 0
  | p + 1 => ixV g vo p ||| nmV vo (g p) * 2 ^ p
theorem ixV_lt {g : Nat → Option Nat} {vo : Nat → Nat} : ∀ p, (∀ q n, q < p → g q = some n → vo n < 2) → ixV g vo p < 2 ^ p
  | 0, _ => by simp [ixV]
  | p + 1, h => by
    have ih := ixV_lt (g := g) (vo := vo) p (fun q n hq => h q n (by omega))
    have pw : (2 : Nat) ^ p < 2 ^ (p + 1) := Nat.pow_lt_pow_right (by decide) (by omega)
    have z : nmV vo (g p) < 2 := by
      cases e : g p with
      | none => show 0 < 2; decide
      | some n => exact h p n (by omega) e
    simp only [ixV]
    refine Nat.or_lt_two_pow (by omega) ?_
    have : nmV vo (g p) = 0 ∨ nmV vo (g p) = 1 := by omega
    rcases this with q | q <;> rw [q] <;> simp <;> omega
theorem ixV_congr {g : Nat → Option Nat} {vo vo' : Nat → Nat} : ∀ p, (∀ q n, q < p → g q = some n → vo n = vo' n) → ixV g vo p = ixV g vo' p
  | 0, _ => rfl
  | p + 1, h => by
    have z : nmV vo (g p) = nmV vo' (g p) := by
      cases e : g p with
      | none => rfl
      | some n => exact h p n (by omega) e
    simp only [ixV, ixV_congr p (fun q n hq => h q n (by omega)), z]
/-- an entry, or, of the sole tensor, 1 at its index -/
def enK (so sx : Int32) (re im : Nat → Int32) (t i : Nat) : Cx := if nI t = so then (if nI i = sx then c1_ else c0_) else ((re (64 * t + i)).toInt64, (im (64 * t + i)).toInt64)
set_option maxRecDepth 100000 in
set_option maxHeartbeats 4000000 in
theorem c_K_indexOf (l : Launch) (D : hv_D) (h : hv_P) (nx : Nat) {k t : Nat} {tn : Int32} {th op sh sp tu gc my so sx : Int32} {sr si : Int64} (hk : h k = some (oK k th tn op sh sp tu gc my sr si so sx)) {pl vo : Nat → Nat} {la : Nat → Option Nat} (h1 : h (k + 1) = some (eN 10 pl)) (h2 : h (k + 2) = some (eM 60 la)) (h15 : h (k + 15) = some (eN 20 vo)) (ht : t < 10) (hpl : pl t ≤ 6) (hnm : ∀ p, p < pl t → ∃ n, la (6 * t + p) = some n ∧ n < 20) : hv_N l D M_K_indexOf (hv_rm 0 0 0 0) [.ref k, .int (nI t)] h nx (hv_ans (some (.int (nI (ixV (fun p => la (6 * t + p)) vo (pl t))))) (hv_same h nx)) := by
  have lp : ∀ (kk p : Nat), kk = (pl t) - p → p ≤ (pl t) → hv_V l D M_K_indexOf (fun _ _ => True) (hv_rm 0 0 0 0) (hv_ans (some (.int (nI (ixV (fun p => la (6 * t + p)) vo (pl t))))) (hv_same h nx)) 0 0 (h) nx 4 [some (.ref k), some (.int (nI t)), some (.int (nI (ixV (fun p => la (6 * t + p)) vo p))), some (.int (nI p))] [] := by
    intro kk
    induction kk using Nat.strongRecOn with
    | ind kk ih =>
      intro p hkk hi
      refine V_iload_n d_K_indexOf_4 rfl ?_
      refine V_aload_n d_K_indexOf_5 rfl ?_
      refine V_getfield d_K_indexOf_6 fl_K_7 hk rfl ?_
      refine V_iload_n d_K_indexOf_9 rfl ?_
      refine V_iaload d_K_indexOf_10 h1 ⟨rfl, by omega, by decide⟩ ?_
      refine V_icmp_geN 41 d_K_indexOf_11 (by decide) (by omega) (by omega) (fun cp => ?_) (fun cp => ?_)
      · refine V_iload_n d_K_indexOf_41 rfl ?_
        exact V_ireturn d_K_indexOf_42 rfl ⟨by rw [show p = pl t by omega], rfl, rfl⟩
      · obtain ⟨n, hn, hn20⟩ := hnm p cp
        refine V_iload_n d_K_indexOf_14 rfl ?_
        refine V_aload_n d_K_indexOf_15 rfl ?_
        refine V_getfield d_K_indexOf_16 fl_K_53 hk rfl ?_
        refine V_aload_n d_K_indexOf_19 rfl ?_
        refine V_getfield d_K_indexOf_20 fl_K_13 hk rfl ?_
        refine V_bipush (nI 6) d_K_indexOf_23 rfl ?_
        refine V_iload_n d_K_indexOf_25 rfl ?_
        refine V_imulN d_K_indexOf_26 ?_
        refine V_iload_n d_K_indexOf_27 rfl ?_
        refine V_iaddN d_K_indexOf_28 ?_
        refine V_iaload d_K_indexOf_29 h2 ⟨rfl, by omega, by decide⟩ ?_
        refine V_eqI (y := nI n) (by rw [hn]; rfl) ?_
        refine V_iaload d_K_indexOf_30 h15 ⟨rfl, by omega, by decide⟩ ?_
        refine V_iload_n d_K_indexOf_31 rfl ?_
        refine V_ishlN d_K_indexOf_32 (by omega) ?_
        refine V_iorN d_K_indexOf_33 ?_
        rw [show ixV (fun p => la (6 * t + p)) vo p ||| vo n * 2 ^ p = ixV (fun p => la (6 * t + p)) vo (p + 1) by simp only [ixV, hn, nmV]]
        refine V_istore_2 d_K_indexOf_34 rfl ?_
        refine V_iincN_3 1 d_K_indexOf_35 rfl rfl ?_
        refine V_goto 4 d_K_indexOf_38 (by decide) ?_
        exact ih (pl t - (p + 1)) (by omega) (p + 1) rfl (by omega)
  refine hv_N.of' [some (.ref k), some (.int (nI t)), none, none] (by decide +kernel) rfl rfl rfl ?_
  refine V_iconst (nI 0) d_K_indexOf_0 rfl ?_
  refine V_istore_2 d_K_indexOf_1 rfl ?_
  refine V_iconst (nI 0) d_K_indexOf_2 rfl ?_
  refine V_istore_3 d_K_indexOf_3 rfl ?_
  exact lp _ 0 rfl (Nat.zero_le _)

set_option maxRecDepth 100000 in
set_option maxHeartbeats 4000000 in
theorem c_K_multiply (l : Launch) (D : hv_D) (h : hv_P) (nx : Nat) {k c d : Nat} {th op sh sp tu gc my so sx : Int32} {sr si : Int64} (hk : h k = some (oK k th (nI c) op sh sp tu gc my sr si so sx)) {pl vo bh : Nat → Nat} {la : Nat → Option Nat} {re im : Nat → Int32} {pr pi : Nat → Int64} {s0 : Cx} (hN : netOK c pl la) (h1 : h (k + 1) = some (eN 10 pl)) (h2 : h (k + 2) = some (eM 60 la)) (h3 : h (k + 3) = some (eI 640 re)) (h4 : h (k + 4) = some (eI 640 im)) (h15 : h (k + 15) = some (eN 20 vo)) (h17 : h (k + 17) = some (eN 10 bh)) (h18 : h (k + 18) = some (eL 21 pr)) (h19 : h (k + 19) = some (eL 21 pi)) (hd : d ≤ 20) (hbh : ∀ t, t < c → bh t < 2 ^ 31) (hvo : ∀ t p n, t < c → p < pl t → la (6 * t + p) = some n → vo n < 2) (hnm : ∀ t p, t < c → p < pl t → ∃ n, la (6 * t + p) = some n ∧ n < 20) (hs : (d = 0 ∧ s0 = c1_) ∨ (0 < d ∧ s0 = (pr (d - 1), pi (d - 1)))) : hv_N l D M_K_multiply (hv_rm 1 23 0 0) [.ref k, .int (nI d)] h nx (hv_ans none (fun h' n' => h' = hv_ov h [(k, oK k (th) ((nI c)) (op) (sh) (sp) (tu) (gc) (my) (sr) (si) (so) (sx)), (k + 1, eN 10 pl), (k + 2, eM 60 la), (k + 3, eI 640 re), (k + 4, eI 640 im), (k + 15, eN 20 vo), (k + 17, eN 10 bh), (k + 18, eL 21 (va_up pr d (mlP bh (fun t => enK so sx re im t (ixV (fun p => la (6 * t + p)) vo (pl t))) d s0 c).1)), (k + 19, eL 21 (va_up pi d (mlP bh (fun t => enK so sx re im t (ixV (fun p => la (6 * t + p)) vo (pl t))) d s0 c).2))] ∧ n' = nx)) := by
  have hc := hN.1
  have lp : ∀ (kk t : Nat), kk = c - t → t ≤ c → hv_V l D M_K_multiply (fun _ _ => True) (hv_rm 1 23 0 0) (hv_ans none (fun h' n' => h' = hv_ov h [(k, oK k (th) ((nI c)) (op) (sh) (sp) (tu) (gc) (my) (sr) (si) (so) (sx)), (k + 1, eN 10 pl), (k + 2, eM 60 la), (k + 3, eI 640 re), (k + 4, eI 640 im), (k + 15, eN 20 vo), (k + 17, eN 10 bh), (k + 18, eL 21 (va_up pr d (mlP bh (fun t => enK so sx re im t (ixV (fun p => la (6 * t + p)) vo (pl t))) d s0 c).1)), (k + 19, eL 21 (va_up pi d (mlP bh (fun t => enK so sx re im t (ixV (fun p => la (6 * t + p)) vo (pl t))) d s0 c).2))] ∧ n' = nx)) 0 0 (hv_ov h [(k, oK k (th) ((nI c)) (op) (sh) (sp) (tu) (gc) (my) (sr) (si) (so) (sx)), (k + 1, eN 10 pl), (k + 2, eM 60 la), (k + 3, eI 640 re), (k + 4, eI 640 im), (k + 15, eN 20 vo), (k + 17, eN 10 bh), (k + 18, eL 21 (pr)), (k + 19, eL 21 (pi))]) nx 38 [some (.ref k), some (.int (nI d)), some (.long (mlP bh (fun t => enK so sx re im t (ixV (fun p => la (6 * t + p)) vo (pl t))) d s0 t).1), none, some (.long (mlP bh (fun t => enK so sx re im t (ixV (fun p => la (6 * t + p)) vo (pl t))) d s0 t).2), none, some (.int (nI t)), none, none, none, none, none, none, none] [] := by
    intro kk
    induction kk using Nat.strongRecOn with
    | ind kk ih =>
      intro t hkk hi
      refine V_iload d_K_multiply_38 rfl ?_
      refine V_aload_n d_K_multiply_40 rfl ?_
      refine V_getfield d_K_multiply_41 fl_K_73 (og_0) rfl ?_
      refine V_icmp_geN 173 d_K_multiply_44 (by decide) (by omega) (by omega) (fun ct => ?_) (fun ct => ?_)
      · have et : t = c := by omega
        subst et
        refine V_aload_n d_K_multiply_173 rfl ?_
        refine V_getfield d_K_multiply_174 fl_K_62 (og_0) rfl ?_
        refine V_iload_n d_K_multiply_177 rfl ?_
        refine V_lload_n d_K_multiply_178 rfl ?_
        refine V_lst d_K_multiply_179 (og_7 (by omega) (by omega) (by omega) (by omega) (by omega) (by omega) (by omega)) ⟨rfl, by omega, by decide⟩ (ou_7 (by omega) (by omega) (by omega) (by omega) (by omega) (by omega) (by omega)) ?_
        refine V_aload_n d_K_multiply_180 rfl ?_
        refine V_getfield d_K_multiply_181 fl_K_66 (og_0) rfl ?_
        refine V_iload_n d_K_multiply_184 rfl ?_
        refine V_lload d_K_multiply_185 rfl ?_
        refine V_lst d_K_multiply_187 (og_8 (by omega) (by omega) (by omega) (by omega) (by omega) (by omega) (by omega) (by omega)) ⟨rfl, by omega, by decide⟩ (ou_8 (by omega) (by omega) (by omega) (by omega) (by omega) (by omega) (by omega) (by omega)) ?_
        exact V_return d_K_multiply_188 rfl ⟨rfl, rfl, rfl⟩
      · refine V_aload_n d_K_multiply_47 rfl ?_
        refine V_getfield d_K_multiply_48 fl_K_59 (og_0) rfl ?_
        refine V_iload d_K_multiply_51 rfl ?_
        refine V_iaload d_K_multiply_53 (og_6 (by omega) (by omega) (by omega) (by omega) (by omega) (by omega)) ⟨rfl, by omega, by decide⟩ ?_
        refine V_iload_n d_K_multiply_54 rfl ?_
        refine V_icmp_eqN 61 d_K_multiply_55 (by decide) (hbh t ct) (by omega) (fun cb => ?_) (fun cb => ?_)
        · have ES : (mlP bh (fun t => enK so sx re im t (ixV (fun p => la (6 * t + p)) vo (pl t))) d s0 (t + 1)) = cmu (mlP bh (fun t => enK so sx re im t (ixV (fun p => la (6 * t + p)) vo (pl t))) d s0 t) (enK so sx re im t (ixV (fun p => la (6 * t + p)) vo (pl t))) := by simp only [mlP]; rw [if_pos cb]
          have hp6 := hN.2.1 t ct
          have hx := ixV_lt (g := fun p => la (6 * t + p)) (vo := vo) (pl t) (fun q n hq e => hvo t q n ct hq e)
          have p64 : 2 ^ pl t ≤ 2 ^ 6 := Nat.pow_le_pow_right (by decide) hp6
          have J := ih (c - (t + 1)) (by omega) (t + 1) rfl (by omega)
          rw [ES] at J
          refine V_aload_n d_K_multiply_61 rfl ?_
          refine V_iload d_K_multiply_62 rfl ?_
          refine V_callV1 d_K_multiply_64 ml_K_138 mB_K_indexOf mi_K_indexOf mv_K_indexOf rfl og_0 (c_K_indexOf l D _ _ og_0 (og_1 (by omega)) (og_2 (by omega) (by omega)) (og_5 (by omega) (by omega) (by omega) (by omega) (by omega)) (by omega) hp6 (fun p hp => hnm t p ct hp)) rfl rfl rfl rfl rfl rfl rfl ?_
          rintro _ _ ⟨rfl, rfl⟩
          generalize ixV (fun p => la (6 * t + p)) vo (pl t) = x at hx ES J ⊢
          refine V_istore_7 d_K_multiply_67 rfl ?_
          refine V_iload d_K_multiply_69 rfl ?_
          refine V_aload_n d_K_multiply_71 rfl ?_
          refine V_getfield d_K_multiply_72 fl_K_141 (og_0) rfl ?_
          refine V_icmp_ne 95 d_K_multiply_75 (by decide) (fun c75 => ?_) (fun c75 => ?_)
          · refine V_aload_n d_K_multiply_95 rfl ?_
            refine V_getfield d_K_multiply_96 fl_K_16 (og_0) rfl ?_
            refine V_bipush (nI 64) d_K_multiply_99 rfl ?_
            refine V_iload d_K_multiply_101 rfl ?_
            refine V_imulN d_K_multiply_103 ?_
            refine V_iload d_K_multiply_104 rfl ?_
            refine V_iaddN d_K_multiply_106 ?_
            refine V_iaload d_K_multiply_107 (og_3 (by omega) (by omega) (by omega)) ⟨rfl, by omega, by decide⟩ ?_
            refine V_i2l d_K_multiply_108 ?_
            refine V_lstore_8 d_K_multiply_109 rfl ?_
            refine V_iload d_K_multiply_111 rfl ?_
            refine V_aload_n d_K_multiply_113 rfl ?_
            refine V_getfield d_K_multiply_114 fl_K_141 (og_0) rfl ?_
            refine V_icmp_ne 124 d_K_multiply_117 (by decide) (fun c117 => ?_) (fun c117 => ?_)
            · refine V_aload_n d_K_multiply_124 rfl ?_
              refine V_getfield d_K_multiply_125 fl_K_19 (og_0) rfl ?_
              refine V_bipush (nI 64) d_K_multiply_128 rfl ?_
              refine V_iload d_K_multiply_130 rfl ?_
              refine V_imulN d_K_multiply_132 ?_
              refine V_iload d_K_multiply_133 rfl ?_
              refine V_iaddN d_K_multiply_135 ?_
              refine V_iaload d_K_multiply_136 (og_4 (by omega) (by omega) (by omega) (by omega)) ⟨rfl, by omega, by decide⟩ ?_
              refine V_i2l d_K_multiply_137 ?_
              refine V_lstore_10 d_K_multiply_138 rfl ?_
              refine V_lload_n d_K_multiply_140 rfl ?_
              refine V_lload d_K_multiply_141 rfl ?_
              refine V_lmul d_K_multiply_143 ?_
              refine V_lload d_K_multiply_144 rfl ?_
              refine V_lload d_K_multiply_146 rfl ?_
              refine V_lmul d_K_multiply_148 ?_
              refine V_lsub d_K_multiply_149 ?_
              refine V_lstore_12 d_K_multiply_150 rfl ?_
              refine V_lload_n d_K_multiply_152 rfl ?_
              refine V_lload d_K_multiply_153 rfl ?_
              refine V_lmul d_K_multiply_155 ?_
              refine V_lload d_K_multiply_156 rfl ?_
              refine V_lload d_K_multiply_158 rfl ?_
              refine V_lmul d_K_multiply_160 ?_
              refine V_ladd d_K_multiply_161 ?_
              refine V_lstore_4 d_K_multiply_162 rfl ?_
              refine V_lload d_K_multiply_164 rfl ?_
              refine V_lstore_2 d_K_multiply_166 rfl ?_
              refine V_iincN_6 1 d_K_multiply_167 rfl rfl ?_
              refine V_goto 38 d_K_multiply_170 (by decide) ?_
              rw [show enK so sx re im t x = ((re (64 * t + x)).toInt64, (im (64 * t + x)).toInt64) by unfold enK; rw [if_neg c75]] at J
              refine V_drop_7 ?_
              refine V_drop_8 ?_
              refine V_drop_10 ?_
              refine V_drop_12 ?_
              exact J
            · refine V_lconst 0 d_K_multiply_120 rfl ?_
              refine V_goto 138 d_K_multiply_121 (by decide) ?_
              refine V_lstore_10 d_K_multiply_138 rfl ?_
              refine V_lload_n d_K_multiply_140 rfl ?_
              refine V_lload d_K_multiply_141 rfl ?_
              refine V_lmul d_K_multiply_143 ?_
              refine V_lload d_K_multiply_144 rfl ?_
              refine V_lload d_K_multiply_146 rfl ?_
              refine V_lmul d_K_multiply_148 ?_
              refine V_lsub d_K_multiply_149 ?_
              refine V_lstore_12 d_K_multiply_150 rfl ?_
              refine V_lload_n d_K_multiply_152 rfl ?_
              refine V_lload d_K_multiply_153 rfl ?_
              refine V_lmul d_K_multiply_155 ?_
              refine V_lload d_K_multiply_156 rfl ?_
              refine V_lload d_K_multiply_158 rfl ?_
              refine V_lmul d_K_multiply_160 ?_
              refine V_ladd d_K_multiply_161 ?_
              refine V_lstore_4 d_K_multiply_162 rfl ?_
              refine V_lload d_K_multiply_164 rfl ?_
              refine V_lstore_2 d_K_multiply_166 rfl ?_
              refine V_iincN_6 1 d_K_multiply_167 rfl rfl ?_
              refine V_goto 38 d_K_multiply_170 (by decide) ?_
              exact absurd c117 c75
          · refine V_iload d_K_multiply_78 rfl ?_
            refine V_aload_n d_K_multiply_80 rfl ?_
            refine V_getfield d_K_multiply_81 fl_K_144 (og_0) rfl ?_
            refine V_icmp_ne 91 d_K_multiply_84 (by decide) (fun c84 => ?_) (fun c84 => ?_)
            · refine V_lconst 0 d_K_multiply_91 rfl ?_
              refine V_goto 109 d_K_multiply_92 (by decide) ?_
              refine V_lstore_8 d_K_multiply_109 rfl ?_
              refine V_iload d_K_multiply_111 rfl ?_
              refine V_aload_n d_K_multiply_113 rfl ?_
              refine V_getfield d_K_multiply_114 fl_K_141 (og_0) rfl ?_
              refine V_icmp_ne 124 d_K_multiply_117 (by decide) (fun c117 => ?_) (fun c117 => ?_)
              · refine V_aload_n d_K_multiply_124 rfl ?_
                refine V_getfield d_K_multiply_125 fl_K_19 (og_0) rfl ?_
                refine V_bipush (nI 64) d_K_multiply_128 rfl ?_
                refine V_iload d_K_multiply_130 rfl ?_
                refine V_imulN d_K_multiply_132 ?_
                refine V_iload d_K_multiply_133 rfl ?_
                refine V_iaddN d_K_multiply_135 ?_
                refine V_iaload d_K_multiply_136 (og_4 (by omega) (by omega) (by omega) (by omega)) ⟨rfl, by omega, by decide⟩ ?_
                refine V_i2l d_K_multiply_137 ?_
                refine V_lstore_10 d_K_multiply_138 rfl ?_
                refine V_lload_n d_K_multiply_140 rfl ?_
                refine V_lload d_K_multiply_141 rfl ?_
                refine V_lmul d_K_multiply_143 ?_
                refine V_lload d_K_multiply_144 rfl ?_
                refine V_lload d_K_multiply_146 rfl ?_
                refine V_lmul d_K_multiply_148 ?_
                refine V_lsub d_K_multiply_149 ?_
                refine V_lstore_12 d_K_multiply_150 rfl ?_
                refine V_lload_n d_K_multiply_152 rfl ?_
                refine V_lload d_K_multiply_153 rfl ?_
                refine V_lmul d_K_multiply_155 ?_
                refine V_lload d_K_multiply_156 rfl ?_
                refine V_lload d_K_multiply_158 rfl ?_
                refine V_lmul d_K_multiply_160 ?_
                refine V_ladd d_K_multiply_161 ?_
                refine V_lstore_4 d_K_multiply_162 rfl ?_
                refine V_lload d_K_multiply_164 rfl ?_
                refine V_lstore_2 d_K_multiply_166 rfl ?_
                refine V_iincN_6 1 d_K_multiply_167 rfl rfl ?_
                refine V_goto 38 d_K_multiply_170 (by decide) ?_
                exact absurd c75 c117
              · refine V_lconst 0 d_K_multiply_120 rfl ?_
                refine V_goto 138 d_K_multiply_121 (by decide) ?_
                refine V_lstore_10 d_K_multiply_138 rfl ?_
                refine V_lload_n d_K_multiply_140 rfl ?_
                refine V_lload d_K_multiply_141 rfl ?_
                refine V_lmul d_K_multiply_143 ?_
                refine V_lload d_K_multiply_144 rfl ?_
                refine V_lload d_K_multiply_146 rfl ?_
                refine V_lmul d_K_multiply_148 ?_
                refine V_lsub d_K_multiply_149 ?_
                refine V_lstore_12 d_K_multiply_150 rfl ?_
                refine V_lload_n d_K_multiply_152 rfl ?_
                refine V_lload d_K_multiply_153 rfl ?_
                refine V_lmul d_K_multiply_155 ?_
                refine V_lload d_K_multiply_156 rfl ?_
                refine V_lload d_K_multiply_158 rfl ?_
                refine V_lmul d_K_multiply_160 ?_
                refine V_ladd d_K_multiply_161 ?_
                refine V_lstore_4 d_K_multiply_162 rfl ?_
                refine V_lload d_K_multiply_164 rfl ?_
                refine V_lstore_2 d_K_multiply_166 rfl ?_
                refine V_iincN_6 1 d_K_multiply_167 rfl rfl ?_
                refine V_goto 38 d_K_multiply_170 (by decide) ?_
                rw [show enK so sx re im t x = c0_ by unfold enK; rw [if_pos c75, if_neg c84]] at J
                refine V_drop_7 ?_
                refine V_drop_8 ?_
                refine V_drop_10 ?_
                refine V_drop_12 ?_
                exact J
            · refine V_lconst 1 d_K_multiply_87 rfl ?_
              refine V_goto 109 d_K_multiply_88 (by decide) ?_
              refine V_lstore_8 d_K_multiply_109 rfl ?_
              refine V_iload d_K_multiply_111 rfl ?_
              refine V_aload_n d_K_multiply_113 rfl ?_
              refine V_getfield d_K_multiply_114 fl_K_141 (og_0) rfl ?_
              refine V_icmp_ne 124 d_K_multiply_117 (by decide) (fun c117 => ?_) (fun c117 => ?_)
              · refine V_aload_n d_K_multiply_124 rfl ?_
                refine V_getfield d_K_multiply_125 fl_K_19 (og_0) rfl ?_
                refine V_bipush (nI 64) d_K_multiply_128 rfl ?_
                refine V_iload d_K_multiply_130 rfl ?_
                refine V_imulN d_K_multiply_132 ?_
                refine V_iload d_K_multiply_133 rfl ?_
                refine V_iaddN d_K_multiply_135 ?_
                refine V_iaload d_K_multiply_136 (og_4 (by omega) (by omega) (by omega) (by omega)) ⟨rfl, by omega, by decide⟩ ?_
                refine V_i2l d_K_multiply_137 ?_
                refine V_lstore_10 d_K_multiply_138 rfl ?_
                refine V_lload_n d_K_multiply_140 rfl ?_
                refine V_lload d_K_multiply_141 rfl ?_
                refine V_lmul d_K_multiply_143 ?_
                refine V_lload d_K_multiply_144 rfl ?_
                refine V_lload d_K_multiply_146 rfl ?_
                refine V_lmul d_K_multiply_148 ?_
                refine V_lsub d_K_multiply_149 ?_
                refine V_lstore_12 d_K_multiply_150 rfl ?_
                refine V_lload_n d_K_multiply_152 rfl ?_
                refine V_lload d_K_multiply_153 rfl ?_
                refine V_lmul d_K_multiply_155 ?_
                refine V_lload d_K_multiply_156 rfl ?_
                refine V_lload d_K_multiply_158 rfl ?_
                refine V_lmul d_K_multiply_160 ?_
                refine V_ladd d_K_multiply_161 ?_
                refine V_lstore_4 d_K_multiply_162 rfl ?_
                refine V_lload d_K_multiply_164 rfl ?_
                refine V_lstore_2 d_K_multiply_166 rfl ?_
                refine V_iincN_6 1 d_K_multiply_167 rfl rfl ?_
                refine V_goto 38 d_K_multiply_170 (by decide) ?_
                exact absurd c75 c117
              · refine V_lconst 0 d_K_multiply_120 rfl ?_
                refine V_goto 138 d_K_multiply_121 (by decide) ?_
                refine V_lstore_10 d_K_multiply_138 rfl ?_
                refine V_lload_n d_K_multiply_140 rfl ?_
                refine V_lload d_K_multiply_141 rfl ?_
                refine V_lmul d_K_multiply_143 ?_
                refine V_lload d_K_multiply_144 rfl ?_
                refine V_lload d_K_multiply_146 rfl ?_
                refine V_lmul d_K_multiply_148 ?_
                refine V_lsub d_K_multiply_149 ?_
                refine V_lstore_12 d_K_multiply_150 rfl ?_
                refine V_lload_n d_K_multiply_152 rfl ?_
                refine V_lload d_K_multiply_153 rfl ?_
                refine V_lmul d_K_multiply_155 ?_
                refine V_lload d_K_multiply_156 rfl ?_
                refine V_lload d_K_multiply_158 rfl ?_
                refine V_lmul d_K_multiply_160 ?_
                refine V_ladd d_K_multiply_161 ?_
                refine V_lstore_4 d_K_multiply_162 rfl ?_
                refine V_lload d_K_multiply_164 rfl ?_
                refine V_lstore_2 d_K_multiply_166 rfl ?_
                refine V_iincN_6 1 d_K_multiply_167 rfl rfl ?_
                refine V_goto 38 d_K_multiply_170 (by decide) ?_
                rw [show enK so sx re im t x = c1_ by unfold enK; rw [if_pos c75, if_pos c84]] at J
                refine V_drop_7 ?_
                refine V_drop_8 ?_
                refine V_drop_10 ?_
                refine V_drop_12 ?_
                exact J
        · have ES : (mlP bh (fun t => enK so sx re im t (ixV (fun p => la (6 * t + p)) vo (pl t))) d s0 (t + 1)) = (mlP bh (fun t => enK so sx re im t (ixV (fun p => la (6 * t + p)) vo (pl t))) d s0 t) := by simp only [mlP]; rw [if_neg cb]
          have J := ih (c - (t + 1)) (by omega) (t + 1) rfl (by omega)
          rw [ES] at J
          refine V_goto 167 d_K_multiply_58 (by decide) ?_
          refine V_iincN_6 1 d_K_multiply_167 rfl rfl ?_
          refine V_goto 38 d_K_multiply_170 (by decide) ?_
          exact J
  refine hv_N.of' [some (.ref k), some (.int (nI d)), none, none, none, none, none, none, none, none, none, none, none, none] (by decide +kernel) rfl rfl rfl ?_
  refine V_eqH (ob_9 hk h1 h2 h3 h4 h15 h17 h18 h19) ?_
  refine V_iload_n d_K_multiply_0 rfl ?_
  refine V_if_neN 8 d_K_multiply_1 (by decide) (by omega) (fun c1 => ?_) (fun c1 => ?_)
  · have hs1 : s0 = (pr (d - 1), pi (d - 1)) := (hs.resolve_left (fun q => c1 q.1)).2
    refine V_aload_n d_K_multiply_8 rfl ?_
    refine V_getfield d_K_multiply_9 fl_K_62 (og_0) rfl ?_
    refine V_iload_n d_K_multiply_12 rfl ?_
    refine V_iconst (nI 1) d_K_multiply_13 rfl ?_
    refine V_isubN d_K_multiply_14 (by omega) ?_
    refine V_laload d_K_multiply_15 (og_7 (by omega) (by omega) (by omega) (by omega) (by omega) (by omega) (by omega)) ⟨rfl, by omega, by decide⟩ ?_
    refine V_lstore_2 d_K_multiply_16 rfl ?_
    refine V_iload_n d_K_multiply_17 rfl ?_
    refine V_if_neN 25 d_K_multiply_18 (by decide) (by omega) (fun c18 => ?_) (fun c18 => ?_)
    · refine V_aload_n d_K_multiply_25 rfl ?_
      refine V_getfield d_K_multiply_26 fl_K_66 (og_0) rfl ?_
      refine V_iload_n d_K_multiply_29 rfl ?_
      refine V_iconst (nI 1) d_K_multiply_30 rfl ?_
      refine V_isubN d_K_multiply_31 (by omega) ?_
      refine V_laload d_K_multiply_32 (og_8 (by omega) (by omega) (by omega) (by omega) (by omega) (by omega) (by omega) (by omega)) ⟨rfl, by omega, by decide⟩ ?_
      refine V_lstore_4 d_K_multiply_33 rfl ?_
      refine V_iconst (nI 0) d_K_multiply_35 rfl ?_
      refine V_istore_6 d_K_multiply_36 rfl ?_
      have J := lp _ 0 rfl (Nat.zero_le _)
      rw [show mlP bh (fun t => enK so sx re im t (ixV (fun p => la (6 * t + p)) vo (pl t))) d s0 0 = (pr (d - 1), pi (d - 1)) from hs1] at J
      exact J
    · refine V_lconst 0 d_K_multiply_21 rfl ?_
      refine V_goto 33 d_K_multiply_22 (by decide) ?_
      refine V_lstore_4 d_K_multiply_33 rfl ?_
      refine V_iconst (nI 0) d_K_multiply_35 rfl ?_
      refine V_istore_6 d_K_multiply_36 rfl ?_
      omega
  · have hs1 : s0 = c1_ := (hs.resolve_right (fun q => by omega)).2
    refine V_lconst 1 d_K_multiply_4 rfl ?_
    refine V_goto 16 d_K_multiply_5 (by decide) ?_
    refine V_lstore_2 d_K_multiply_16 rfl ?_
    refine V_iload_n d_K_multiply_17 rfl ?_
    refine V_if_neN 25 d_K_multiply_18 (by decide) (by omega) (fun c18 => ?_) (fun c18 => ?_)
    · refine V_aload_n d_K_multiply_25 rfl ?_
      refine V_getfield d_K_multiply_26 fl_K_66 (og_0) rfl ?_
      refine V_iload_n d_K_multiply_29 rfl ?_
      refine V_iconst (nI 1) d_K_multiply_30 rfl ?_
      refine V_isubN d_K_multiply_31 (by omega) ?_
      refine V_laload d_K_multiply_32 (og_8 (by omega) (by omega) (by omega) (by omega) (by omega) (by omega) (by omega) (by omega)) ⟨rfl, by omega, by decide⟩ ?_
      refine V_lstore_4 d_K_multiply_33 rfl ?_
      refine V_iconst (nI 0) d_K_multiply_35 rfl ?_
      refine V_istore_6 d_K_multiply_36 rfl ?_
      omega
    · refine V_lconst 0 d_K_multiply_21 rfl ?_
      refine V_goto 33 d_K_multiply_22 (by decide) ?_
      refine V_lstore_4 d_K_multiply_33 rfl ?_
      refine V_iconst (nI 0) d_K_multiply_35 rfl ?_
      refine V_istore_6 d_K_multiply_36 rfl ?_
      have J := lp _ 0 rfl (Nat.zero_le _)
      rw [show mlP bh (fun t => enK so sx re im t (ixV (fun p => la (6 * t + p)) vo (pl t))) d s0 0 = c1_ from hs1] at J
      exact J
