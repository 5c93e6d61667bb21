-- CONTRACTION: joinTwo
theorem ntz_ex : ∀ {x : Nat}, 0 < x → ∃ t, x % 2 ^ (t + 1) = 2 ^ t := by
  intro x
  induction x using Nat.strongRecOn with
  | ind x ih =>
    intro h
    by_cases o : x % 2 = 1
    · exact ⟨0, by simpa using o⟩
    · obtain ⟨t, ht⟩ := ih (x / 2) (by omega) (by omega)
      refine ⟨t + 1, ?_⟩
      rw [Nat.pow_succ 2 (t + 1), Nat.mul_comm, Nat.mod_mul, ht, Nat.pow_succ]
      omega
theorem ntz_le {x t : Nat} (h : x % 2 ^ (t + 1) = 2 ^ t) : 2 ^ t ≤ x := by
  rw [← h]; exact Nat.mod_le _ _
theorem ntz_bits {k t : Nat} (h : (k + 1) % 2 ^ (t + 1) = 2 ^ t) : (k + 1).testBit t = true ∧ k.testBit t = false ∧ (∀ i, i < t → (k + 1).testBit i = false) ∧ (∀ i, i < t → k.testBit i = true) := by
  have hk : k % 2 ^ (t + 1) = 2 ^ t - 1 := by
    have p := Nat.two_pow_pos t
    have pw : (2 : Nat) ^ (t + 1) = 2 ^ t + 2 ^ t := by rw [Nat.pow_succ]; omega
    have a := Nat.div_add_mod (k + 1) (2 ^ (t + 1))
    rw [h] at a
    have e : k = 2 ^ (t + 1) * ((k + 1) / 2 ^ (t + 1)) + (2 ^ t - 1) := by omega
    rw [e, Nat.mul_add_mod]
    exact Nat.mod_eq_of_lt (by omega)
  have b1 : ∀ i, i ≤ t → (k + 1).testBit i = (2 ^ t).testBit i := fun i hi => by
    rw [← h, Nat.testBit_mod_two_pow]
    simp [show i < t + 1 by omega]
  have b2 : ∀ i, i ≤ t → k.testBit i = (2 ^ t - 1).testBit i := fun i hi => by
    rw [← hk, Nat.testBit_mod_two_pow]
    simp [show i < t + 1 by omega]
  refine ⟨?_, ?_, fun i hi => ?_, fun i hi => ?_⟩
  · rw [b1 t (Nat.le_refl _), Nat.testBit_two_pow_self]
  · rw [b2 t (Nat.le_refl _), Nat.testBit_two_pow_sub_one]; simp
  · rw [b1 i (by omega), Nat.testBit_two_pow]; simp; omega
  · rw [b2 i (by omega), Nat.testBit_two_pow_sub_one]; simp; omega
theorem mv_add {x u w y : Nat} (h : y + w = x + u) : nI x + (nI u - nI w) = nI y := by
  have e : nI x + nI u = nI y + nI w := by rw [nI_add, nI_add, h]
  grind
/-- the position after one more turn -/
theorem mv_step {both own i k t s : Nat} (hsub : own &&& both = own) (hi : i < 20) (ht : (k + 1) % 2 ^ (t + 1) = 2 ^ t) (hb : both.testBit i = true) (hp : pc_n both i = t) : nI (s + (gatF (sprF k both 20).1 own 20).1) + mvV own i = nI (s + (gatF (sprF (k + 1) both 20).1 own 20).1) := by
  obtain ⟨b1, b2, b3, b4⟩ := ntz_bits ht
  have hi2 := succ_high b3 b1
  have V : ∀ w q, q < 20 → own.testBit q = true → (sprF w both 20).1.testBit q = w.testBit (pc_n both q) := fun w q hq ho => by
    rw [spr_bit, sub_bit hsub ho]
    simp [hq]
  have Vi : ∀ w, (sprF w both 20).1.testBit i = w.testBit t := fun w => by
    rw [spr_bit, hb, hp]
    simp [hi]
  have e := gat_step (S := own) (x := (sprF k both 20).1) (y := (sprF (k + 1) both 20).1) (i := i)
    (fun q hq ho => by rw [V k q (by omega) ho]; exact b4 _ (by rw [← hp]; exact pc_lt hq (sub_bit hsub ho)))
    (fun q hq ho => by rw [V (k + 1) q (by omega) ho]; exact b3 _ (by rw [← hp]; exact pc_lt hq (sub_bit hsub ho)))
    (by rw [Vi]; exact b2) (by rw [Vi]; exact b1)
    (fun q hq ho => by
      by_cases h20 : q < 20
      · rw [V k q h20 ho, V (k + 1) q h20 ho]
        exact (hi2 _ (by rw [← hp]; exact pc_lt hq hb)).symm
      · rw [spr_bit, spr_bit]; simp [h20]) (20 - (i + 1))
  rw [show i + 1 + (20 - (i + 1)) = 20 by omega] at e
  exact mv_add (by omega)
theorem gat_0 {S : Nat} : ∀ n, (gatF 0 S n).1 = 0
  | 0 => rfl
  | n + 1 => by
    cases h : S.testBit n
    · rw [gat_n h]; exact gat_0 n
    · rw [gat_s h, gat_0 n]; simp [b_]
theorem spr_0 {S : Nat} : (sprF 0 S 20).1 = 0 := by
  apply Nat.eq_of_testBit_eq
  intro i
  rw [spr_bit]
  simp
/-- the table that two tables make, behind k turns -/
def jnV (BA BC : Nat) (F G : Nat → Cx) (k y : Nat) : Cx := sR (fun w => if (gatF (sprF w (BA ||| BC) 20).1 (BA ^^^ BC) 20).1 = y then cmu (F (gatF (sprF w (BA ||| BC) 20).1 BA 20).1) (G (gatF (sprF w (BA ||| BC) 20).1 BC 20).1) else c0_) k
theorem jnV_s {BA BC : Nat} {F G : Nat → Cx} {k y : Nat} : jnV BA BC F G (k + 1) y = cad (jnV BA BC F G k y) (if (gatF (sprF k (BA ||| BC) 20).1 (BA ^^^ BC) 20).1 = y then cmu (F (gatF (sprF k (BA ||| BC) 20).1 BA 20).1) (G (gatF (sprF k (BA ||| BC) 20).1 BC 20).1) else c0_) := rfl
theorem ldOK_u {T T' : Nat → Cx} {f1 f2 g1 g2 : Nat → Int64} {us w P : Nat} {d1 d2 : Int64} (h : ldOK f1 f2 g1 g2 us w T) (hP : P < w) (hT : ∀ y, T' y = cad (T y) (if P = y then (d1, d2) else c0_)) : ldOK f1 f2 (va_up g1 (us + P) (g1 (us + P) + d1)) (va_up g2 (us + P) (g2 (us + P) + d2)) us w T' := by
  obtain ⟨a, b⟩ := h
  refine ⟨fun y hy => ?_, fun p hp => ?_⟩
  · rw [hT]
    by_cases e : P = y
    · rw [if_pos e, ← a y hy, e, vu_s, vu_s]
      rfl
    · rw [if_neg e, cad_0, vu_n (by omega), vu_n (by omega)]
      exact a y hy
  · rw [vu_n (by omega), vu_n (by omega)]
    exact b p hp
set_option maxRecDepth 100000 in
set_option maxHeartbeats 4000000 in
theorem c_C_joinTwo (l : Launch) (D : hv_D) (h : hv_P) (nx : Nat) {a rr us p q n : Nat} {op : Int32} {f1 f2 : Nat → Int64} {st bd : Nat → Nat} {m1 m2 m3 : Nat → Int32} (ha : h a = some (oC a rr (rr + 1) op (nI us))) (hs : h (a + 1) = some (eN 10 st)) (hbd : h (a + 2) = some (eN 10 bd)) (hm1 : h (a + 3) = some (eI 21 m1)) (hm2 : h (a + 4) = some (eI 21 m2)) (hm3 : h (a + 5) = some (eI 21 m3)) (h1 : h rr = some (eL n f1)) (h2 : h (rr + 1) = some (eL n f2)) (har : a + 5 < rr) (hn : n < 100000) (hp : p < 10) (hq : q < 10) (hA : bd p < 2 ^ 20) (hC : bd q < 2 ^ 20) (hsA : st p + 2 ^ pc_ (bd p) ≤ us) (hsC : st q + 2 ^ pc_ (bd q) ≤ us) (hw : us + 2 ^ pc_ (bd p ^^^ bd q) ≤ n) (hz : ∀ x, us ≤ x → x < us + 2 ^ pc_ (bd p ^^^ bd q) → (f1 x, f2 x) = c0_) : hv_N l D M_C_joinTwo (hv_rm 2 50 0 0) [.ref a, .int (nI p), .int (nI q)] h nx (hv_ans none (fun h' n' => n' = nx ∧ ∃ (k1 k2 k3 : Nat → Int32) (g1 g2 : Nat → Int64), h' = hv_ov h [(a, oC a rr (rr + 1) op (nI (us + 2 ^ pc_ (bd p ^^^ bd q)))), (a + 1, eN 10 (va_up st p us)), (a + 2, eN 10 (va_up bd p (bd p ^^^ bd q))), (a + 3, eI 21 k1), (a + 4, eI 21 k2), (a + 5, eI 21 k3), (rr, eL n (g1)), (rr + 1, eL n (g2))] ∧ ldOK f1 f2 g1 g2 us (2 ^ pc_ (bd p ^^^ bd q)) (jnV (bd p) (bd q) (fun x => (f1 (st p + x), f2 (st p + x))) (fun x => (f1 (st q + x), f2 (st q + x))) (2 ^ pc_n (bd p ||| bd q) 20)))) := by
  refine hv_N.of' [some (.ref a), some (.int (nI p)), some (.int (nI q)), none, none, none, none, none, none, none, none, none] (by decide +kernel) rfl rfl rfl ?_
  have hB : (bd p ||| bd q) < 2 ^ 20 := Nat.or_lt_two_pow hA hC
  have hK : (bd p ^^^ bd q) < 2 ^ 20 := Nat.xor_lt_two_pow hA hC
  have sA : bd p &&& (bd p ||| bd q) = bd p := sub_of_bits (fun i hb => by rw [Nat.testBit_or, hb]; rfl)
  have sC : bd q &&& (bd p ||| bd q) = bd q := sub_of_bits (fun i hb => by rw [Nat.testBit_or, hb, Bool.or_true])
  have sK : (bd p ^^^ bd q) &&& (bd p ||| bd q) = (bd p ^^^ bd q) := sub_of_bits (fun i hb => by
    rw [Nat.testBit_xor] at hb
    rw [Nat.testBit_or]
    revert hb
    cases (bd p).testBit i <;> cases (bd q).testBit i <;> decide)
  have bm := pc_n_le (bd p ||| bd q) 20
  have bp : 2 ^ pc_n (bd p ||| bd q) 20 ≤ 2 ^ 20 := Nat.pow_le_pow_right (by decide) bm
  have lp : ∀ (kk k : Nat), kk = (2 ^ pc_n (bd p ||| bd q) 20) - k → k ≤ (2 ^ pc_n (bd p ||| bd q) 20) → ∀ (A B C : Int32), (k < 2 ^ pc_n (bd p ||| bd q) 20 → A = nI (st p + (gatF (sprF k (bd p ||| bd q) 20).1 (bd p) 20).1) ∧ B = nI (st q + (gatF (sprF k (bd p ||| bd q) 20).1 (bd q) 20).1) ∧ C = nI (us + (gatF (sprF k (bd p ||| bd q) 20).1 (bd p ^^^ bd q) 20).1)) → ∀ k1 k2 k3 : Nat → Int32, mvOK (bd p ||| bd q) (bd p) k1 20 → mvOK (bd p ||| bd q) (bd q) k2 20 → mvOK (bd p ||| bd q) (bd p ^^^ bd q) k3 20 → ∀ g1 g2 : Nat → Int64, ldOK f1 f2 g1 g2 us (2 ^ pc_ (bd p ^^^ bd q)) (jnV (bd p) (bd q) (fun x => (f1 (st p + x), f2 (st p + x))) (fun x => (f1 (st q + x), f2 (st q + x))) (k)) → hv_V l D M_C_joinTwo (fun _ _ => True) (hv_rm 2 50 0 0) (hv_ans none (fun h' n' => n' = nx ∧ ∃ (k1 k2 k3 : Nat → Int32) (g1 g2 : Nat → Int64), h' = hv_ov h [(a, oC a rr (rr + 1) op (nI (us + 2 ^ pc_ (bd p ^^^ bd q)))), (a + 1, eN 10 (va_up st p us)), (a + 2, eN 10 (va_up bd p (bd p ^^^ bd q))), (a + 3, eI 21 k1), (a + 4, eI 21 k2), (a + 5, eI 21 k3), (rr, eL n (g1)), (rr + 1, eL n (g2))] ∧ ldOK f1 f2 g1 g2 us (2 ^ pc_ (bd p ^^^ bd q)) (jnV (bd p) (bd q) (fun x => (f1 (st p + x), f2 (st p + x))) (fun x => (f1 (st q + x), f2 (st q + x))) (2 ^ pc_n (bd p ||| bd q) 20)))) 0 0 (hv_ov h [(a, oC a rr (rr + 1) op (nI (us + 2 ^ pc_ (bd p ^^^ bd q)))), (a + 1, eN 10 (st)), (a + 2, eN 10 (bd)), (a + 3, eI 21 k1), (a + 4, eI 21 k2), (a + 5, eI 21 k3), (rr, eL n (g1)), (rr + 1, eL n (g2))]) nx 106 [some (.ref a), some (.int (nI p)), some (.int (nI q)), some (.int (nI (bd p ||| bd q))), some (.int (nI (bd p ^^^ bd q))), some (.int (nI us)), some (.int A), some (.int B), some (.int C), some (.int (nI (2 ^ pc_n (bd p ||| bd q) 20))), some (.int (nI (k + 1))), none] [] := by
    intro kk
    induction kk using Nat.strongRecOn with
    | ind kk ih =>
      intro k hkk hi A B C hABC k1 k2 k3 hk1 hk2 hk3 g1 g2 hL
      refine V_iload d_C_joinTwo_106 rfl ?_
      refine V_iload d_C_joinTwo_108 rfl ?_
      refine V_icmp_gtN 244 d_C_joinTwo_110 (by decide) (by omega) (by omega) (fun ck => ?_) (fun ck => ?_)
      · have ek : k = 2 ^ pc_n (bd p ||| bd q) 20 := by omega
        subst ek
        refine V_aload_n d_C_joinTwo_244 rfl ?_
        refine V_getfield d_C_joinTwo_245 fl_C_9 (og_0) rfl ?_
        refine V_iload_n d_C_joinTwo_248 rfl ?_
        refine V_iload d_C_joinTwo_249 rfl ?_
        refine V_istN d_C_joinTwo_251 (og_1 (by omega)) ⟨rfl, by omega, by decide⟩ (ou_1 (by omega)) ?_
        refine V_aload_n d_C_joinTwo_252 rfl ?_
        refine V_getfield d_C_joinTwo_253 fl_C_15 (og_0) rfl ?_
        refine V_iload_n d_C_joinTwo_256 rfl ?_
        refine V_iload d_C_joinTwo_257 rfl ?_
        refine V_istN d_C_joinTwo_259 (og_2 (by omega) (by omega)) ⟨rfl, by omega, by decide⟩ (ou_2 (by omega) (by omega)) ?_
        exact V_return d_C_joinTwo_260 rfl ⟨rfl, rfl, _, _, _, _, _, rfl, hL⟩
      · obtain ⟨rfl, rfl, rfl⟩ := hABC (by omega)
        have pa : (gatF (sprF k (bd p ||| bd q) 20).1 (bd p) 20).1 < 2 ^ pc_ (bd p) := by rw [pc_20 hA]; exact gat_lt 20
        have pb : (gatF (sprF k (bd p ||| bd q) 20).1 (bd q) 20).1 < 2 ^ pc_ (bd q) := by rw [pc_20 hC]; exact gat_lt 20
        have pe : (gatF (sprF k (bd p ||| bd q) 20).1 (bd p ^^^ bd q) 20).1 < 2 ^ pc_ (bd p ^^^ bd q) := by rw [pc_20 hK]; exact gat_lt 20
        have za := hL.2 (st p + (gatF (sprF k (bd p ||| bd q) 20).1 (bd p) 20).1) (Or.inl (by omega))
        have zb := hL.2 (st q + (gatF (sprF k (bd p ||| bd q) 20).1 (bd q) 20).1) (Or.inl (by omega))
        generalize eA : (gatF (sprF k (bd p ||| bd q) 20).1 (bd p) 20).1 = ga at *
        generalize eB : (gatF (sprF k (bd p ||| bd q) 20).1 (bd q) 20).1 = gb at *
        generalize eE : (gatF (sprF k (bd p ||| bd q) 20).1 (bd p ^^^ bd q) 20).1 = ge at *
        refine V_aload_n d_C_joinTwo_113 rfl ?_
        refine V_getfield d_C_joinTwo_114 fl_C_27 (og_0) rfl ?_
        refine V_iload d_C_joinTwo_117 rfl ?_
        refine V_dup2 d_C_joinTwo_119 rfl rfl ?_
        refine V_laload d_C_joinTwo_120 (og_6 (by omega) (by omega) (by omega) (by omega) (by omega) (by omega)) ⟨rfl, (by omega), by omega⟩ ?_
        refine V_aload_n d_C_joinTwo_121 rfl ?_
        refine V_getfield d_C_joinTwo_122 fl_C_27 (og_0) rfl ?_
        refine V_iload d_C_joinTwo_125 rfl ?_
        refine V_laload d_C_joinTwo_127 (og_6 (by omega) (by omega) (by omega) (by omega) (by omega) (by omega)) ⟨rfl, (by omega), by omega⟩ ?_
        refine V_aload_n d_C_joinTwo_128 rfl ?_
        refine V_getfield d_C_joinTwo_129 fl_C_27 (og_0) rfl ?_
        refine V_iload d_C_joinTwo_132 rfl ?_
        refine V_laload d_C_joinTwo_134 (og_6 (by omega) (by omega) (by omega) (by omega) (by omega) (by omega)) ⟨rfl, (by omega), by omega⟩ ?_
        refine V_lmul d_C_joinTwo_135 ?_
        refine V_aload_n d_C_joinTwo_136 rfl ?_
        refine V_getfield d_C_joinTwo_137 fl_C_31 (og_0) rfl ?_
        refine V_iload d_C_joinTwo_140 rfl ?_
        refine V_laload d_C_joinTwo_142 (og_7 (by omega) (by omega) (by omega) (by omega) (by omega) (by omega) (by omega)) ⟨rfl, (by omega), by omega⟩ ?_
        refine V_aload_n d_C_joinTwo_143 rfl ?_
        refine V_getfield d_C_joinTwo_144 fl_C_31 (og_0) rfl ?_
        refine V_iload d_C_joinTwo_147 rfl ?_
        refine V_laload d_C_joinTwo_149 (og_7 (by omega) (by omega) (by omega) (by omega) (by omega) (by omega) (by omega)) ⟨rfl, (by omega), by omega⟩ ?_
        refine V_lmul d_C_joinTwo_150 ?_
        refine V_lsub d_C_joinTwo_151 ?_
        refine V_ladd d_C_joinTwo_152 ?_
        refine V_lst d_C_joinTwo_153 (og_6 (by omega) (by omega) (by omega) (by omega) (by omega) (by omega)) ⟨rfl, (by omega), by omega⟩ (ou_6 (by omega) (by omega) (by omega) (by omega) (by omega) (by omega)) ?_
        refine V_aload_n d_C_joinTwo_154 rfl ?_
        refine V_getfield d_C_joinTwo_155 fl_C_31 (og_0) rfl ?_
        refine V_iload d_C_joinTwo_158 rfl ?_
        refine V_dup2 d_C_joinTwo_160 rfl rfl ?_
        refine V_laload d_C_joinTwo_161 (og_7 (by omega) (by omega) (by omega) (by omega) (by omega) (by omega) (by omega)) ⟨rfl, (by omega), by omega⟩ ?_
        refine V_aload_n d_C_joinTwo_162 rfl ?_
        refine V_getfield d_C_joinTwo_163 fl_C_27 (og_0) rfl ?_
        refine V_iload d_C_joinTwo_166 rfl ?_
        refine V_laload d_C_joinTwo_168 (og_6 (by omega) (by omega) (by omega) (by omega) (by omega) (by omega)) ⟨rfl, (by omega), by omega⟩ ?_
        rw [vu_n (show st p + ga ≠ us + ge by omega)]
        refine V_aload_n d_C_joinTwo_169 rfl ?_
        refine V_getfield d_C_joinTwo_170 fl_C_31 (og_0) rfl ?_
        refine V_iload d_C_joinTwo_173 rfl ?_
        refine V_laload d_C_joinTwo_175 (og_7 (by omega) (by omega) (by omega) (by omega) (by omega) (by omega) (by omega)) ⟨rfl, (by omega), by omega⟩ ?_
        refine V_lmul d_C_joinTwo_176 ?_
        refine V_aload_n d_C_joinTwo_177 rfl ?_
        refine V_getfield d_C_joinTwo_178 fl_C_31 (og_0) rfl ?_
        refine V_iload d_C_joinTwo_181 rfl ?_
        refine V_laload d_C_joinTwo_183 (og_7 (by omega) (by omega) (by omega) (by omega) (by omega) (by omega) (by omega)) ⟨rfl, (by omega), by omega⟩ ?_
        refine V_aload_n d_C_joinTwo_184 rfl ?_
        refine V_getfield d_C_joinTwo_185 fl_C_27 (og_0) rfl ?_
        refine V_iload d_C_joinTwo_188 rfl ?_
        refine V_laload d_C_joinTwo_190 (og_6 (by omega) (by omega) (by omega) (by omega) (by omega) (by omega)) ⟨rfl, (by omega), by omega⟩ ?_
        rw [vu_n (show st q + gb ≠ us + ge by omega)]
        refine V_lmul d_C_joinTwo_191 ?_
        refine V_ladd d_C_joinTwo_192 ?_
        refine V_ladd d_C_joinTwo_193 ?_
        refine V_lst d_C_joinTwo_194 (og_7 (by omega) (by omega) (by omega) (by omega) (by omega) (by omega) (by omega)) ⟨rfl, (by omega), by omega⟩ (ou_7 (by omega) (by omega) (by omega) (by omega) (by omega) (by omega) (by omega)) ?_
        obtain ⟨t, ht⟩ := ntz_ex (x := k + 1) (by omega)
        have htl := ntz_le ht
        have htm : t ≤ pc_n (bd p ||| bd q) 20 := by
          rcases Nat.lt_or_ge (pc_n (bd p ||| bd q) 20) t with z | z
          · have := Nat.pow_lt_pow_right (a := 2) (by decide) z
            omega
          · exact z
        refine V_iload d_C_joinTwo_195 rfl ?_
        refine V_callS1 d_C_joinTwo_197 ml_C_90 mB_JI_numberOfTrailingZeros ms_JI_numberOfTrailingZeros (c_ntz l D _ _ t (by omega) ht (by omega)) rfl rfl rfl rfl rfl rfl rfl ?_
        rintro _ _ ⟨rfl, rfl⟩
        refine V_istore_11 d_C_joinTwo_200 rfl ?_
        refine V_iload d_C_joinTwo_202 rfl ?_
        refine V_aload_n d_C_joinTwo_204 rfl ?_
        refine V_getfield d_C_joinTwo_205 fl_C_18 (og_0) rfl ?_
        refine V_iload d_C_joinTwo_208 rfl ?_
        refine V_iaload d_C_joinTwo_210 (og_3 (by omega) (by omega) (by omega)) ⟨rfl, by omega, by decide⟩ ?_
        refine V_iadd d_C_joinTwo_211 ?_
        refine V_istore_6 d_C_joinTwo_212 rfl ?_
        refine V_iload d_C_joinTwo_214 rfl ?_
        refine V_aload_n d_C_joinTwo_216 rfl ?_
        refine V_getfield d_C_joinTwo_217 fl_C_21 (og_0) rfl ?_
        refine V_iload d_C_joinTwo_220 rfl ?_
        refine V_iaload d_C_joinTwo_222 (og_4 (by omega) (by omega) (by omega) (by omega)) ⟨rfl, by omega, by decide⟩ ?_
        refine V_iadd d_C_joinTwo_223 ?_
        refine V_istore_7 d_C_joinTwo_224 rfl ?_
        refine V_iload d_C_joinTwo_226 rfl ?_
        refine V_aload_n d_C_joinTwo_228 rfl ?_
        refine V_getfield d_C_joinTwo_229 fl_C_24 (og_0) rfl ?_
        refine V_iload d_C_joinTwo_232 rfl ?_
        refine V_iaload d_C_joinTwo_234 (og_5 (by omega) (by omega) (by omega) (by omega) (by omega)) ⟨rfl, by omega, by decide⟩ ?_
        refine V_iadd d_C_joinTwo_235 ?_
        refine V_istore_8 d_C_joinTwo_236 rfl ?_
        refine V_iincN_10 1 d_C_joinTwo_238 rfl rfl ?_
        refine V_goto 106 d_C_joinTwo_241 (by decide) ?_
        refine V_drop_11 ?_
        refine ih (2 ^ pc_n (bd p ||| bd q) 20 - (k + 1)) (by omega) (k + 1) rfl (by omega) _ _ _ (fun hk => ?_) k1 k2 k3 hk1 hk2 hk3 _ _ ?_
        · obtain ⟨i, i1, i2, i3⟩ := pc_surj (S := (bd p ||| bd q)) (n := 20) (k := t) (by
            rcases Nat.lt_or_ge t (pc_n (bd p ||| bd q) 20) with z | z
            · exact z
            · have := Nat.pow_le_pow_right (n := 2) (by decide) z
              omega)
          subst i3
          rw [hk1 i i1 i2, hk2 i i1 i2, hk3 i i1 i2, ← eA, ← eB, ← eE]
          exact ⟨mv_step sA i1 ht i2 rfl, mv_step sC i1 ht i2 rfl, mv_step sK i1 ht i2 rfl⟩
        · refine ldOK_u hL (by omega) (fun y => ?_)
          rw [jnV_s, eA, eB, eE, za.1, za.2, zb.1, zb.2]
          rfl
  refine V_eqH (ob_8 ha hs hbd hm1 hm2 hm3 h1 h2) ?_
  refine V_aload_n d_C_joinTwo_0 rfl ?_
  refine V_getfield d_C_joinTwo_1 fl_C_15 (og_0) rfl ?_
  refine V_iload_n d_C_joinTwo_4 rfl ?_
  refine V_iaload d_C_joinTwo_5 (og_2 (by omega) (by omega)) ⟨rfl, by omega, by decide⟩ ?_
  refine V_aload_n d_C_joinTwo_6 rfl ?_
  refine V_getfield d_C_joinTwo_7 fl_C_15 (og_0) rfl ?_
  refine V_iload_n d_C_joinTwo_10 rfl ?_
  refine V_iaload d_C_joinTwo_11 (og_2 (by omega) (by omega)) ⟨rfl, by omega, by decide⟩ ?_
  refine V_iorN d_C_joinTwo_12 ?_
  refine V_istore_3 d_C_joinTwo_13 rfl ?_
  refine V_aload_n d_C_joinTwo_14 rfl ?_
  refine V_getfield d_C_joinTwo_15 fl_C_15 (og_0) rfl ?_
  refine V_iload_n d_C_joinTwo_18 rfl ?_
  refine V_iaload d_C_joinTwo_19 (og_2 (by omega) (by omega)) ⟨rfl, by omega, by decide⟩ ?_
  refine V_aload_n d_C_joinTwo_20 rfl ?_
  refine V_getfield d_C_joinTwo_21 fl_C_15 (og_0) rfl ?_
  refine V_iload_n d_C_joinTwo_24 rfl ?_
  refine V_iaload d_C_joinTwo_25 (og_2 (by omega) (by omega)) ⟨rfl, by omega, by decide⟩ ?_
  refine V_ixorN d_C_joinTwo_26 ?_
  refine V_istore_4 d_C_joinTwo_27 rfl ?_
  refine V_aload_n d_C_joinTwo_29 rfl ?_
  refine V_iload d_C_joinTwo_30 rfl ?_
  refine V_callV1 d_C_joinTwo_32 ml_C_65 mB_C_take mi_C_take mv_C_take rfl og_0 (c_C_take l D _ _ og_0 hK) rfl rfl rfl rfl rfl rfl rfl ?_
  rintro _ _ ⟨rfl, rfl⟩
  rw [ox_1, ou_0]
  refine V_istore_5 d_C_joinTwo_35 rfl ?_
  refine V_aload_n d_C_joinTwo_37 rfl ?_
  refine V_getfield d_C_joinTwo_38 fl_C_18 (og_0) rfl ?_
  refine V_iload_n d_C_joinTwo_41 rfl ?_
  refine V_aload_n d_C_joinTwo_42 rfl ?_
  refine V_getfield d_C_joinTwo_43 fl_C_15 (og_0) rfl ?_
  refine V_iload_n d_C_joinTwo_46 rfl ?_
  refine V_iaload d_C_joinTwo_47 (og_2 (by omega) (by omega)) ⟨rfl, by omega, by decide⟩ ?_
  refine V_callS0 d_C_joinTwo_48 ml_C_97 mB_C_findMoves ms_C_findMoves (c_C_findMoves l D _ _ (og_3 (by omega) (by omega) (by omega)) hB hA sA) rfl rfl rfl rfl rfl rfl rfl ?_
  rintro _ _ ⟨rfl, k1, hk1, rfl⟩
  rw [ox_1, ou_3 (by omega) (by omega) (by omega)]
  refine V_aload_n d_C_joinTwo_51 rfl ?_
  refine V_getfield d_C_joinTwo_52 fl_C_21 (og_0) rfl ?_
  refine V_iload_n d_C_joinTwo_55 rfl ?_
  refine V_aload_n d_C_joinTwo_56 rfl ?_
  refine V_getfield d_C_joinTwo_57 fl_C_15 (og_0) rfl ?_
  refine V_iload_n d_C_joinTwo_60 rfl ?_
  refine V_iaload d_C_joinTwo_61 (og_2 (by omega) (by omega)) ⟨rfl, by omega, by decide⟩ ?_
  refine V_callS0 d_C_joinTwo_62 ml_C_97 mB_C_findMoves ms_C_findMoves (c_C_findMoves l D _ _ (og_4 (by omega) (by omega) (by omega) (by omega)) hB hC sC) rfl rfl rfl rfl rfl rfl rfl ?_
  rintro _ _ ⟨rfl, k2, hk2, rfl⟩
  rw [ox_1, ou_4 (by omega) (by omega) (by omega) (by omega)]
  refine V_aload_n d_C_joinTwo_65 rfl ?_
  refine V_getfield d_C_joinTwo_66 fl_C_24 (og_0) rfl ?_
  refine V_iload_n d_C_joinTwo_69 rfl ?_
  refine V_iload d_C_joinTwo_70 rfl ?_
  refine V_callS0 d_C_joinTwo_72 ml_C_97 mB_C_findMoves ms_C_findMoves (c_C_findMoves l D _ _ (og_5 (by omega) (by omega) (by omega) (by omega) (by omega)) hB hK sK) rfl rfl rfl rfl rfl rfl rfl ?_
  rintro _ _ ⟨rfl, k3, hk3, rfl⟩
  rw [ox_1, ou_5 (by omega) (by omega) (by omega) (by omega) (by omega)]
  refine V_aload_n d_C_joinTwo_75 rfl ?_
  refine V_getfield d_C_joinTwo_76 fl_C_9 (og_0) rfl ?_
  refine V_iload_n d_C_joinTwo_79 rfl ?_
  refine V_iaload d_C_joinTwo_80 (og_1 (by omega)) ⟨rfl, by omega, by decide⟩ ?_
  refine V_istore_6 d_C_joinTwo_81 rfl ?_
  refine V_aload_n d_C_joinTwo_83 rfl ?_
  refine V_getfield d_C_joinTwo_84 fl_C_9 (og_0) rfl ?_
  refine V_iload_n d_C_joinTwo_87 rfl ?_
  refine V_iaload d_C_joinTwo_88 (og_1 (by omega)) ⟨rfl, by omega, by decide⟩ ?_
  refine V_istore_7 d_C_joinTwo_89 rfl ?_
  refine V_iload d_C_joinTwo_91 rfl ?_
  refine V_istore_8 d_C_joinTwo_93 rfl ?_
  refine V_iconst (nI 1) d_C_joinTwo_95 rfl ?_
  refine V_iload_n d_C_joinTwo_96 rfl ?_
  refine V_callS1 d_C_joinTwo_97 ml_C_46 mB_JI_bitCount ms_JI_bitCount (c_bitCount l D _ _ (Nat.lt_trans hB (by decide))) rfl rfl rfl rfl rfl rfl rfl ?_
  rintro _ _ ⟨rfl, rfl⟩
  refine V_ishlN d_C_joinTwo_100 (by have := pc_le hB; omega) ?_
  rw [Nat.one_mul, pc_20 hB]
  refine V_istore_9 d_C_joinTwo_101 rfl ?_
  refine V_iconst (nI 1) d_C_joinTwo_103 rfl ?_
  refine V_istore_10 d_C_joinTwo_104 rfl ?_
  refine lp _ 0 rfl (Nat.zero_le _) _ _ _ (fun _ => ?_) k1 k2 k3 hk1 hk2 hk3 f1 f2 ⟨fun y hy => hz _ (by omega) (by omega), fun x _ => ⟨rfl, rfl⟩⟩
  rw [spr_0, gat_0, gat_0, gat_0]
  exact ⟨rfl, rfl, rfl⟩
