-- BOOLEAN ARRAYS; THE MODEL: gain, join
abbrev eB (n : Nat) (z : Nat → Bool) : hv_E := .inl (3, n, .inl (fun j => bZ (z j)))
theorem bZ_up (z : Nat → Bool) (j : Nat) (b : Bool) : va_up (fun j => bZ (z j)) j (bZ b) = fun q => bZ (va_up z j b q) := by
  funext q
  unfold va_up
  split <;> rfl
section HVB
variable {l : Launch} {D : hv_D} {M : hv_M} {X : State → (Nat → Prop) → Prop} {rm : Room} {Q : hv_R → hv_P → Nat → Prop} {bc bs : Nat} {h : hv_P} {nx pc : Nat} {lv : List (Option Value)} {st : List Value}
theorem V_baload {a n j : Nat} {i : Int32} {z : Nat → Bool} (hd : decode M.2.1 pc = .ok (.baload, 1)) (he : h a = some (eB n z)) (hi : hv_ix i n j) (kk : hv_V l D M X rm Q bc bs h nx (pc + 1) lv (.int (bZ (z j)) :: st)) : hv_V l D M X rm Q bc bs h nx pc lv (.int i :: .ref a :: st) := by
  intro p e R s m args below meth c A H locs cells slots ls hC hW hb hl
  refine va_zald hC.1 hC.2.1 (hC.K.one (k := 3) rfl) (hv_one hW.1 he) 0 0 rfl rfl hi.in hd ?_
  rw [hi.cl]
  exact kk p e R s m args below meth c A H locs cells slots ls hC hW hb hl
theorem V_bst {h' : hv_P} {a n j : Nat} {i : Int32} {b : Bool} {z : Nat → Bool} (hd : decode M.2.1 pc = .ok (.bastore, 1)) (he : h a = some (eB n z)) (hi : hv_ix i n j) (hh : hv_up h a (eB n (va_up z j b)) = h') (kk : hv_V l D M X rm Q bc bs h' nx (pc + 1) lv st) : hv_V l D M X rm Q bc bs h nx pc lv (.int (bZ b) :: .int i :: .ref a :: st) := by
  subst hh
  intro p e R s m args below meth c A H locs cells slots ls hC hW hb hl
  refine W.zast hC.1 hC.2.1 (hW.1 a _ he) (((hC.K.2.1 3 .boolean rfl).1) n (fun j => .int (bZ (z j)))) (fun q => by cases q) (by show ¬ (i < 0 ∨ (arrV _ _ _).slots.size ≤ _); rw [arrV_size]; exact hi.in) rfl rfl hd fun H1 e1 zz oq => ?_
  refine kk p e R s m args below meth c A H1 _ cells slots ls hC (hW.put he ?_ zz oq) hb hl
  show H1[a]? = some (vp_cell _ _)
  rw [e1, nar_bZ]
  simp only [hv_a]
  rw [vp_cell_i, vp_cell_i, arrV_store, hi.cl]
  congr 2
  funext q
  by_cases hq : q = j
  · subst hq
    simp [updV, va_up]
  · simp [updV, va_up, hq]
theorem V_newZ {n : Int32} {N : Nat} (hd : decode M.2.1 pc = .ok (.newarray .boolean, 2)) (ha : Cond.arrayClass .boolean ∈ hv_tbl) (hn : n = nI N) (hN : N ≤ 100000000) (hbc : 1 ≤ bc) (hbs : N ≤ bs) (kk : hv_V l D M X rm Q (bc - 1) (bs - N) (hv_up h nx (eB N (fun _ => false))) (nx + 1) (pc + 2) lv (.ref nx :: st)) : hv_V l D M X rm Q bc bs h nx pc lv (.int n :: st) := by
  intro p e R s m args below meth c A H locs cells slots ls hC hW hb hl
  have hr := hC.room
  have hnx := hW.2.1
  subst hn
  refine va_newaK (atype := .boolean) hC.1 hC.2.1 (hC.word _ ha) rfl hd rfl (nI_pos (by omega)) (nI_clamp (by omega)) (by show N * 1 ≤ _; omega) (by omega) (by omega) hnx fun H1 cA e1 z1 o1 hAr hNm => ?_
  subst hnx
  have hca : cA = D.2.2 3 := Option.some.inj (hNm.symm.trans (hC.K.2.1 3 .boolean rfl).2)
  subst hca
  exact kk p e R s m args below meth c A H1 locs (cells + 1) (slots + N) ls hC (hW.new hC.inA e1 z1 o1) ⟨by omega, by omega⟩ hl
end HVB
def aI (b : Option (Nat × Nat)) : Int32 := match b with
  | none => -1
  | some q => nI q.1
def bI (b : Option (Nat × Nat)) : Int32 := match b with
  | none => -1
  | some q => nI q.2
theorem bZ_ne {b : Bool} : ¬ bZ b = 0 ↔ b = true := by cases b <;> decide
theorem bZ_eq {b : Bool} : bZ b = 0 ↔ b = false := by cases b <;> decide
set_option maxRecDepth 100000 in
set_option maxHeartbeats 4000000 in
theorem c_K_gain (l : Launch) (D : hv_D) (h : hv_P) (nx : Nat) {k : Nat} {tn : Int32} {th op sh sp tu gc my so sx : Int32} {sr si : Int64} (hk : h k = some (oK k th tn op sh sp tu gc my sr si so sx)) {i j : Nat} {L : Nat → Nat} (hL0 : h (k + 11) = some (eN 20 L)) (hi : i < 20) (hj : j < 20) (hLi : L i < 2 ^ 20) (hLj : L j < 2 ^ 20) : hv_N l D M_K_gain (hv_rm 1 22 0 0) [.ref k, .int (nI i), .int (nI j)] h nx (hv_ans (some (.int (gI L i j))) (hv_same h nx)) := by
  have lx := Nat.xor_lt_two_pow hLi hLj
  refine hv_N.of' [some (.ref k), some (.int (nI i)), some (.int (nI j))] (by decide +kernel) rfl rfl rfl ?_
  refine V_iconst (nI 1) d_K_gain_0 rfl ?_
  refine V_aload_n d_K_gain_1 rfl ?_
  refine V_getfield d_K_gain_2 fl_K_40 hk rfl ?_
  refine V_iload_n d_K_gain_5 rfl ?_
  refine V_iaload d_K_gain_6 hL0 ⟨rfl, hi, by decide⟩ ?_
  refine V_aload_n d_K_gain_7 rfl ?_
  refine V_getfield d_K_gain_8 fl_K_40 hk rfl ?_
  refine V_iload_n d_K_gain_11 rfl ?_
  refine V_iaload d_K_gain_12 hL0 ⟨rfl, hj, by decide⟩ ?_
  refine V_ixorN d_K_gain_13 ?_
  refine V_callS1 d_K_gain_14 ml_K_94 mB_K_count ms_K_count (c_K_count l D _ _ (Nat.lt_of_lt_of_le lx (by decide))) rfl rfl rfl rfl rfl rfl rfl ?_
  rintro _ _ ⟨rfl, rfl⟩
  rw [← pc_20 lx]
  refine V_ishlN d_K_gain_17 (by have := pc_le lx; omega) ?_
  refine V_iconst (nI 1) d_K_gain_18 rfl ?_
  refine V_aload_n d_K_gain_19 rfl ?_
  refine V_getfield d_K_gain_20 fl_K_40 hk rfl ?_
  refine V_iload_n d_K_gain_23 rfl ?_
  refine V_iaload d_K_gain_24 hL0 ⟨rfl, hi, by decide⟩ ?_
  refine V_callS1 d_K_gain_25 ml_K_94 mB_K_count ms_K_count (c_K_count l D _ _ (Nat.lt_of_lt_of_le hLi (by decide))) rfl rfl rfl rfl rfl rfl rfl ?_
  rintro _ _ ⟨rfl, rfl⟩
  rw [← pc_20 hLi]
  refine V_ishlN d_K_gain_28 (by have := pc_le hLi; omega) ?_
  refine V_isub d_K_gain_29 ?_
  refine V_iconst (nI 1) d_K_gain_30 rfl ?_
  refine V_aload_n d_K_gain_31 rfl ?_
  refine V_getfield d_K_gain_32 fl_K_40 hk rfl ?_
  refine V_iload_n d_K_gain_35 rfl ?_
  refine V_iaload d_K_gain_36 hL0 ⟨rfl, hj, by decide⟩ ?_
  refine V_callS1 d_K_gain_37 ml_K_94 mB_K_count ms_K_count (c_K_count l D _ _ (Nat.lt_of_lt_of_le hLj (by decide))) rfl rfl rfl rfl rfl rfl rfl ?_
  rintro _ _ ⟨rfl, rfl⟩
  rw [← pc_20 hLj]
  refine V_ishlN d_K_gain_40 (by have := pc_le hLj; omega) ?_
  refine V_isub d_K_gain_41 ?_
  exact V_ireturn d_K_gain_42 rfl ⟨by rw [Nat.one_mul, Nat.one_mul, Nat.one_mul]; rfl, rfl, rfl⟩

set_option maxRecDepth 100000 in
set_option maxHeartbeats 4000000 in
theorem c_K_join (l : Launch) (D : hv_D) (h : hv_P) (nx : Nat) {t ac : Nat} {k c : Nat} {th op sh sp my so sx : Int32} {sr si : Int64} (hk : h k = some (oK k th (nI c) op sh sp (nI t) (nI ac) my sr si so sx)) {n gn p q : Nat} {L on ot : Nat → Nat} {z : Nat → Bool} (hL0 : h (k + 11) = some (eN 20 L)) (hz0 : h (k + 12) = some (eB 20 z)) (hon : h (k + 13) = some (eN 10 on)) (hot : h (k + 14) = some (eN 10 ot)) (hn : n < 20) (ht : t < 10) (hL : ∀ i, i < n → L i < 2 ^ 20) (hz : ∀ i, i < n → z i = gn.testBit i) (hch : chI L gn n n = some (p, q)) (hpq : p < q) (hq : q < n) : hv_N l D M_K_join (hv_rm 2 44 0 0) [.ref k, .int (nI n)] h nx (hv_ans none (fun h' n' => h' = hv_ov h [(k, oK k (th) ((nI c)) (op) (sh) (sp) (nI (t + 1)) (nI (ac + 2 ^ pc_ (L p ||| L q))) (my) (sr) (si) (so) (sx)), (k + 11, eN 20 (va_up L n (L p ^^^ L q))), (k + 12, eB 20 (va_up (va_up (va_up z p true) q true) n false)), (k + 13, eN 10 (va_up on t p)), (k + 14, eN 10 (va_up ot t q))] ∧ n' = nx)) := by
  have lo := Nat.or_lt_two_pow (hL p (by omega)) (hL q hq)
  have lp1 : ∀ (kk i : Nat), kk = n - i → i ≤ n → hv_V l D M_K_join (fun _ _ => True) (hv_rm 2 44 0 0) (hv_ans none (fun h' n' => h' = hv_ov h [(k, oK k (th) ((nI c)) (op) (sh) (sp) (nI (t + 1)) (nI (ac + 2 ^ pc_ (L p ||| L q))) (my) (sr) (si) (so) (sx)), (k + 11, eN 20 (va_up L n (L p ^^^ L q))), (k + 12, eB 20 (va_up (va_up (va_up z p true) q true) n false)), (k + 13, eN 10 (va_up on t p)), (k + 14, eN 10 (va_up ot t q))] ∧ n' = nx)) 0 0 (hv_ov h [(k, oK k (th) ((nI c)) (op) (sh) (sp) (nI t) (nI ac) (my) (sr) (si) (so) (sx)), (k + 11, eN 20 (L)), (k + 12, eB 20 (z)), (k + 13, eN 10 (on)), (k + 14, eN 10 (ot))]) nx 7 [some (.ref k), some (.int (nI n)), some (.int (aI (chI L gn n i))), some (.int (bI (chI L gn n i))), some (.int (nI i)), none] [] := by
    intro kk
    induction kk using Nat.strongRecOn with
    | ind kk iho =>
      intro i hkk hi
      refine V_iload d_K_join_7 rfl ?_
      refine V_iload_n d_K_join_9 rfl ?_
      refine V_icmp_geN 88 d_K_join_10 (by decide) (by omega) (by omega) (fun ci => ?_) (fun ci => ?_)
      · have ei : i = n := by omega
        subst ei
        rw [hch]
        refine V_aload_n d_K_join_88 rfl ?_
        refine V_dup d_K_join_89 rfl ?_
        refine V_getfield d_K_join_90 fl_K_126 (og_0) rfl ?_
        refine V_iconst (nI 1) d_K_join_93 rfl ?_
        refine V_aload_n d_K_join_94 rfl ?_
        refine V_getfield d_K_join_95 fl_K_40 (og_0) rfl ?_
        refine V_iload_n (x := nI p) d_K_join_98 rfl ?_
        refine V_iaload d_K_join_99 (og_1 (by omega)) ⟨rfl, by omega, by decide⟩ ?_
        refine V_aload_n d_K_join_100 rfl ?_
        refine V_getfield d_K_join_101 fl_K_40 (og_0) rfl ?_
        refine V_iload_n (x := nI q) d_K_join_104 rfl ?_
        refine V_iaload d_K_join_105 (og_1 (by omega)) ⟨rfl, by omega, by decide⟩ ?_
        refine V_iorN d_K_join_106 ?_
        refine V_callS1 d_K_join_107 ml_K_94 mB_K_count ms_K_count (c_K_count l D _ _ (Nat.lt_of_lt_of_le lo (by decide))) rfl rfl rfl rfl rfl rfl rfl ?_
        rintro _ _ ⟨rfl, rfl⟩
        rw [← pc_20 lo]
        refine V_ishlN d_K_join_110 (by have := pc_le lo; omega) ?_
        rw [Nat.one_mul]
        refine V_iaddN d_K_join_111 ?_
        refine V_put (e' := oK k (th) ((nI c)) (op) (sh) (sp) (nI t) (nI (ac + 2 ^ pc_ (L p ||| L q))) (my) (sr) (si) (so) (sx)) d_K_join_112 fp_K_126 (og_0) rfl rfl rfl rfl (ou_0) ?_
        refine V_aload_n d_K_join_115 rfl ?_
        refine V_getfield d_K_join_116 fl_K_40 (og_0) rfl ?_
        refine V_iload_n d_K_join_119 rfl ?_
        refine V_aload_n d_K_join_120 rfl ?_
        refine V_getfield d_K_join_121 fl_K_40 (og_0) rfl ?_
        refine V_iload_n (x := nI p) d_K_join_124 rfl ?_
        refine V_iaload d_K_join_125 (og_1 (by omega)) ⟨rfl, by omega, by decide⟩ ?_
        refine V_aload_n d_K_join_126 rfl ?_
        refine V_getfield d_K_join_127 fl_K_40 (og_0) rfl ?_
        refine V_iload_n (x := nI q) d_K_join_130 rfl ?_
        refine V_iaload d_K_join_131 (og_1 (by omega)) ⟨rfl, by omega, by decide⟩ ?_
        refine V_ixorN d_K_join_132 ?_
        refine V_istN d_K_join_133 (og_1 (by omega)) ⟨rfl, by omega, by decide⟩ (ou_1 (by omega)) ?_
        refine V_aload_n d_K_join_134 rfl ?_
        refine V_getfield d_K_join_135 fl_K_43 (og_0) rfl ?_
        refine V_iload_n (x := nI p) d_K_join_138 rfl ?_
        refine V_iconst (bZ true) d_K_join_139 rfl ?_
        refine V_bst (b := true) d_K_join_140 (og_2 (by omega) (by omega)) ⟨rfl, by omega, by decide⟩ (ou_2 (by omega) (by omega)) ?_
        refine V_aload_n d_K_join_141 rfl ?_
        refine V_getfield d_K_join_142 fl_K_43 (og_0) rfl ?_
        refine V_iload_n (x := nI q) d_K_join_145 rfl ?_
        refine V_iconst (bZ true) d_K_join_146 rfl ?_
        refine V_bst (b := true) d_K_join_147 (og_2 (by omega) (by omega)) ⟨rfl, by omega, by decide⟩ (ou_2 (by omega) (by omega)) ?_
        refine V_aload_n d_K_join_148 rfl ?_
        refine V_getfield d_K_join_149 fl_K_43 (og_0) rfl ?_
        refine V_iload_n d_K_join_152 rfl ?_
        refine V_iconst (bZ false) d_K_join_153 rfl ?_
        refine V_bst (b := false) d_K_join_154 (og_2 (by omega) (by omega)) ⟨rfl, by omega, by decide⟩ (ou_2 (by omega) (by omega)) ?_
        refine V_aload_n d_K_join_155 rfl ?_
        refine V_getfield d_K_join_156 fl_K_47 (og_0) rfl ?_
        refine V_aload_n d_K_join_159 rfl ?_
        refine V_getfield d_K_join_160 fl_K_129 (og_0) rfl ?_
        refine V_iload_n (x := nI p) d_K_join_163 rfl ?_
        refine V_istN d_K_join_164 (og_3 (by omega) (by omega) (by omega)) ⟨rfl, by omega, by decide⟩ (ou_3 (by omega) (by omega) (by omega)) ?_
        refine V_aload_n d_K_join_165 rfl ?_
        refine V_getfield d_K_join_166 fl_K_50 (og_0) rfl ?_
        refine V_aload_n d_K_join_169 rfl ?_
        refine V_getfield d_K_join_170 fl_K_129 (og_0) rfl ?_
        refine V_iload_n (x := nI q) d_K_join_173 rfl ?_
        refine V_istN d_K_join_174 (og_4 (by omega) (by omega) (by omega) (by omega)) ⟨rfl, by omega, by decide⟩ (ou_4 (by omega) (by omega) (by omega) (by omega)) ?_
        refine V_aload_n d_K_join_175 rfl ?_
        refine V_dup d_K_join_176 rfl ?_
        refine V_getfield d_K_join_177 fl_K_129 (og_0) rfl ?_
        refine V_iconst (nI 1) d_K_join_180 rfl ?_
        refine V_iaddN d_K_join_181 ?_
        refine V_put (e' := oK k (th) ((nI c)) (op) (sh) (sp) (nI (t + 1)) (nI (ac + 2 ^ pc_ (L p ||| L q))) (my) (sr) (si) (so) (sx)) d_K_join_182 fp_K_129 (og_0) rfl rfl rfl rfl (ou_0) ?_
        exact V_return d_K_join_185 rfl ⟨rfl, rfl, rfl⟩
      · refine V_iload d_K_join_13 rfl ?_
        refine V_iconst (nI 1) d_K_join_15 rfl ?_
        refine V_iaddN d_K_join_16 ?_
        refine V_istore_5 d_K_join_17 rfl ?_
        have lp2 : ∀ (kk m : Nat), kk = (n - (i + 1)) - m → m ≤ (n - (i + 1)) → hv_V l D M_K_join (fun _ _ => True) (hv_rm 2 44 0 0) (hv_ans none (fun h' n' => h' = hv_ov h [(k, oK k (th) ((nI c)) (op) (sh) (sp) (nI (t + 1)) (nI (ac + 2 ^ pc_ (L p ||| L q))) (my) (sr) (si) (so) (sx)), (k + 11, eN 20 (va_up L n (L p ^^^ L q))), (k + 12, eB 20 (va_up (va_up (va_up z p true) q true) n false)), (k + 13, eN 10 (va_up on t p)), (k + 14, eN 10 (va_up ot t q))] ∧ n' = nx)) 0 0 (hv_ov h [(k, oK k (th) ((nI c)) (op) (sh) (sp) (nI t) (nI ac) (my) (sr) (si) (so) (sx)), (k + 11, eN 20 (L)), (k + 12, eB 20 (z)), (k + 13, eN 10 (on)), (k + 14, eN 10 (ot))]) nx 19 [some (.ref k), some (.int (nI n)), some (.int (aI (chJ L gn i (i + 1) (chI L gn n i) m))), some (.int (bI (chJ L gn i (i + 1) (chI L gn n i) m))), some (.int (nI i)), some (.int (nI (i + 1 + m)))] [] := by
          intro kk
          induction kk using Nat.strongRecOn with
          | ind kk ih =>
            intro m hkk hi
            refine V_iload d_K_join_19 rfl ?_
            refine V_iload_n d_K_join_21 rfl ?_
            refine V_icmp_geN 82 d_K_join_22 (by decide) (by omega) (by omega) (fun cj => ?_) (fun cj => ?_)
            · have em : m = n - (i + 1) := by omega
              subst em
              refine V_iincN_4 1 d_K_join_82 rfl rfl ?_
              refine V_goto 7 d_K_join_85 (by decide) ?_
              have J := iho (n - (i + 1)) (by omega) (i + 1) rfl (by omega)
              refine V_drop_5 ?_
              exact J
            · refine V_aload_n d_K_join_25 rfl ?_
              refine V_getfield d_K_join_26 fl_K_43 (og_0) rfl ?_
              refine V_iload d_K_join_29 rfl ?_
              refine V_baload d_K_join_31 (og_2 (by omega) (by omega)) ⟨rfl, by omega, by decide⟩ ?_
              refine V_if_ne 76 d_K_join_32 (by decide) (fun z1 => ?_) (fun z1 => ?_)
              · have z1 := bZ_ne.mp z1
                rw [hz i (by omega)] at z1
                have ES : chJ L gn i (i + 1) (chI L gn n i) (m + 1) = chJ L gn i (i + 1) (chI L gn n i) m := by show chS L gn (chJ L gn i (i + 1) (chI L gn n i) m) i (i + 1 + m) = _; unfold chS; rw [if_neg (fun y => by rw [z1] at y; exact absurd y.1 (by decide))]
                refine V_iincN_5 1 d_K_join_76 rfl rfl ?_
                refine V_goto 19 d_K_join_79 (by decide) ?_
                have J := ih (n - (i + 1) - (m + 1)) (by omega) (m + 1) rfl (by omega)
                rw [ES] at J
                exact J
              · have z1 := bZ_eq.mp z1
                refine V_aload_n d_K_join_35 rfl ?_
                refine V_getfield d_K_join_36 fl_K_43 (og_0) rfl ?_
                refine V_iload d_K_join_39 rfl ?_
                refine V_baload d_K_join_41 (og_2 (by omega) (by omega)) ⟨rfl, by omega, by decide⟩ ?_
                refine V_if_ne 76 d_K_join_42 (by decide) (fun z2 => ?_) (fun z2 => ?_)
                · have z2 := bZ_ne.mp z2
                  rw [hz (i + 1 + m) (by omega)] at z2
                  have ES : chJ L gn i (i + 1) (chI L gn n i) (m + 1) = chJ L gn i (i + 1) (chI L gn n i) m := by show chS L gn (chJ L gn i (i + 1) (chI L gn n i) m) i (i + 1 + m) = _; unfold chS; rw [if_neg (fun y => by rw [z2] at y; exact absurd y.2.1 (by decide))]
                  refine V_iincN_5 1 d_K_join_76 rfl rfl ?_
                  refine V_goto 19 d_K_join_79 (by decide) ?_
                  have J := ih (n - (i + 1) - (m + 1)) (by omega) (m + 1) rfl (by omega)
                  rw [ES] at J
                  exact J
                · have z2 := bZ_eq.mp z2
                  have OK := chJ_ok (L := L) (gn := gn) (n := n) (chI_ok (L := L) (gn := gn) (n := n) i (by omega)) (show i < i + 1 by omega) m (by omega)
                  rcases hb : chJ L gn i (i + 1) (chI L gn n i) m with _ | ⟨x, y⟩
                  · have ES : chJ L gn i (i + 1) (chI L gn n i) (m + 1) = some (i, i + 1 + m) := by show chS L gn (chJ L gn i (i + 1) (chI L gn n i) m) i (i + 1 + m) = _; unfold chS; rw [hb, if_pos ⟨by rw [← hz i (by omega)]; exact z1, by rw [← hz (i + 1 + m) (by omega)]; exact z2, gI_lt (hL i (by omega)) (hL _ (by omega))⟩]
                    refine V_iload_n d_K_join_45 rfl ?_
                    refine V_iconst (-1) d_K_join_46 rfl ?_
                    refine V_icmp_eq 70 d_K_join_47 (by decide) (fun _ => ?_) (fun q => absurd rfl q)
                    refine V_iload d_K_join_70 rfl ?_
                    refine V_istore_2 d_K_join_72 rfl ?_
                    refine V_iload d_K_join_73 rfl ?_
                    refine V_istore_3 d_K_join_75 rfl ?_
                    refine V_iincN_5 1 d_K_join_76 rfl rfl ?_
                    refine V_goto 19 d_K_join_79 (by decide) ?_
                    have J := ih (n - (i + 1) - (m + 1)) (by omega) (m + 1) rfl (by omega)
                    rw [ES] at J
                    exact J
                  · obtain ⟨k1, k2, k3, k4⟩ := OK x y hb
                    refine V_iload_n d_K_join_45 rfl ?_
                    refine V_iconst (-1) d_K_join_46 rfl ?_
                    refine V_icmp_eq 70 d_K_join_47 (by decide) (fun q => absurd q (nI_m1 (by omega))) (fun _ => ?_)
                    refine V_aload_n d_K_join_50 rfl ?_
                    refine V_iload d_K_join_51 rfl ?_
                    refine V_iload d_K_join_53 rfl ?_
                    refine V_callV1 d_K_join_55 ml_K_122 mB_K_gain mi_K_gain mv_K_gain rfl og_0 (c_K_gain l D _ _ og_0 (og_1 (by omega)) (by omega) (by omega) (hL i (by omega)) (hL _ (by omega))) rfl rfl rfl rfl rfl rfl rfl ?_
                    rintro _ _ ⟨rfl, rfl⟩
                    refine V_aload_n d_K_join_58 rfl ?_
                    refine V_iload_n (x := nI x) d_K_join_59 rfl ?_
                    refine V_iload_n (x := nI y) d_K_join_60 rfl ?_
                    refine V_callV1 d_K_join_61 ml_K_122 mB_K_gain mi_K_gain mv_K_gain rfl og_0 (c_K_gain l D _ _ og_0 (og_1 (by omega)) (by omega) (by omega) (hL x (by omega)) (hL y (by omega))) rfl rfl rfl rfl rfl rfl rfl ?_
                    rintro _ _ ⟨rfl, rfl⟩
                    refine V_icmp_lt 70 d_K_join_64 (by decide) (fun cg => ?_) (fun cg => ?_)
                    · have ES : chJ L gn i (i + 1) (chI L gn n i) (m + 1) = some (i, i + 1 + m) := by show chS L gn (chJ L gn i (i + 1) (chI L gn n i) m) i (i + 1 + m) = _; unfold chS; rw [hb, if_pos ⟨by rw [← hz i (by omega)]; exact z1, by rw [← hz (i + 1 + m) (by omega)]; exact z2, cg⟩]
                      refine V_iload d_K_join_70 rfl ?_
                      refine V_istore_2 d_K_join_72 rfl ?_
                      refine V_iload d_K_join_73 rfl ?_
                      refine V_istore_3 d_K_join_75 rfl ?_
                      refine V_iincN_5 1 d_K_join_76 rfl rfl ?_
                      refine V_goto 19 d_K_join_79 (by decide) ?_
                      have J := ih (n - (i + 1) - (m + 1)) (by omega) (m + 1) rfl (by omega)
                      rw [ES] at J
                      exact J
                    · have ES : chJ L gn i (i + 1) (chI L gn n i) (m + 1) = some (x, y) := by show chS L gn (chJ L gn i (i + 1) (chI L gn n i) m) i (i + 1 + m) = _; unfold chS; rw [hb, if_neg (fun w => cg w.2.2)]
                      refine V_goto 76 d_K_join_67 (by decide) ?_
                      refine V_iincN_5 1 d_K_join_76 rfl rfl ?_
                      refine V_goto 19 d_K_join_79 (by decide) ?_
                      have J := ih (n - (i + 1) - (m + 1)) (by omega) (m + 1) rfl (by omega)
                      rw [ES] at J
                      exact J
        exact lp2 _ 0 rfl (Nat.zero_le _)
  refine hv_N.of' [some (.ref k), some (.int (nI n)), none, none, none, none] (by decide +kernel) rfl rfl rfl ?_
  refine V_eqH (ob_5 hk hL0 hz0 hon hot) ?_
  refine V_iconst (-1) d_K_join_0 rfl ?_
  refine V_istore_2 d_K_join_1 rfl ?_
  refine V_iconst (-1) d_K_join_2 rfl ?_
  refine V_istore_3 d_K_join_3 rfl ?_
  refine V_iconst (nI 0) d_K_join_4 rfl ?_
  refine V_istore_4 d_K_join_5 rfl ?_
  exact lp1 _ 0 rfl (Nat.zero_le _)
