-- THE CLASS: what changes the network
theorem vu_s {α : Type} {f : Nat → α} {k : Nat} {v : α} : va_up f k v k = v := if_pos rfl
theorem vu_n {α : Type} {f : Nat → α} {k j : Nat} {v : α} (h : j ≠ k) : va_up f k v j = f j := if_neg h
theorem rg_in {α : Type} {f : Nat → α} {a n q : Nat} {v : α} (h : a ≤ q ∧ q < a + n) : hv_rg f a n v q = v := if_pos h
theorem rg_out {α : Type} {f : Nat → α} {a n q : Nat} {v : α} (h : ¬ (a ≤ q ∧ q < a + n)) : hv_rg f a n v q = f q := if_neg h
theorem nI_dec {a : Nat} (h : 1 ≤ a) : nI a + (-1) = nI (a - 1) := by
  rw [← pk_sub h, Int32.sub_eq_add_neg]
  rfl
theorem nI_inc {a : Nat} : nI a + 1 = nI (a + 1) := nI_add a 1
theorem fill_en (g : Nat → Option Nat) : hv_fill (fun p => en_ (g p)) 6 (-1) = fun p => en_ (hv_fill g 6 none p) := by
  funext p
  unfold hv_fill
  split <;> rfl
theorem fill_z {n : Nat} {f : Nat → Nat} : hv_fill (fun j => nI (f j)) n 0 = fun j => nI (hv_fill f n 0 j) := by
  funext p
  unfold hv_fill
  split <;> rfl
/-- the state behind a change: no order is known any more -/
theorem nS_new {h h' : hv_P} {b c c' n : Nat} {wk : Int32} {pl pl' : Nat → Nat} {la la' : Nat → Option Nat} {re im re' im' : Nat → Int32} {u' : Nat → Nat} {cp' : Nat → Int32} (S : nS h b wk c pl la re im n) (s0 : h' b = some (oN b (nI c') (nI (ctT (fun _ => 1) pl' la' c')) (nI (BR c' pl' la')) 0 (-1))) (s1 : tS h' b pl' la' re' im') (s2 : h' (b + 42) = some (eN 20 u')) (s3 : ∀ n, n < 20 → u' n = CT c' pl' la' n) (s4 : h' (b + 44) = some (eI 400 cp')) (s5 : ∀ j, j < 400 → cp' j = -1) (s6 : ∀ q, q = b + 43 ∨ (b + 45 ≤ q ∧ q ≤ b + 69) ∨ b + 91 ≤ q → h' q = h q) (s7 : netOK c' pl' la') : nS h' b 0 c' pl' la' re' im' n := by
  obtain ⟨lk, cu, u, l0, cp, hb, hT, hu, hu2, hl0, hcp, hcpk, hW, hL, hlk, hG, hC, hN⟩ := S
  exact ⟨-1, cu, u', l0, cp', s0, s1, s2, s3, by rw [s6 _ (by omega)]; exact hl0, s4, fun i j hi hj => Or.inl (s5 _ (by omega)), (hW.fr (fun q x y => s6 q (by omega))).un (fun z => z.2 rfl), (hL.fr (fun q x y => s6 q (by omega))).un (fun z => z.2 rfl), Or.inl rfl, hG.fr (fun q x y => s6 q (by omega)), hC.fr (fun q x => s6 q (by omega)), s7⟩
def cF (la : Nat → Option Nat) (m : Nat) : Nat → Nat
  | 0 => 0
  | q + 1 => cF la m q + f1_ m (la q)
theorem otN_cF {la : Nat → Option Nat} {m q0 : Nat} : ∀ n, otN la (some m) q0 n + (if q0 < n ∧ la q0 = some m then 1 else 0) = cF la m n
  | 0 => by simp [otN, cF]
  | n + 1 => by
    have ih := otN_cF (la := la) (m := m) (q0 := q0) n
    simp only [otN, cF, f1_]
    by_cases e : n = q0
    · subst e
      by_cases f : la n = some m
      · simp [f] at ih ⊢; omega
      · simp [f] at ih ⊢; omega
    · have l1 : (q0 < n + 1) ↔ (q0 < n) := by omega
      by_cases f : la n = some m
      · simp only [f, e, l1, ne_eq, not_false_eq_true, and_self, if_true, reduceCtorEq]; omega
      · simp only [f, l1, false_and, and_false, if_false]; omega
theorem cF_row {la : Nat → Option Nat} {m a : Nat} : ∀ p, cF la m (a + p) = cF la m a + ctP (f1_ m) (fun p => la (a + p)) p
  | 0 => rfl
  | p + 1 => by
    show cF la m (a + p) + f1_ m (la (a + p)) = _
    rw [cF_row p]
    simp only [ctP]
    omega
theorem ctP_pad {m : Nat} {g : Nat → Option Nat} {p : Nat} : ∀ k, (∀ q, p ≤ q → q < p + k → g q = none) → ctP (f1_ m) g (p + k) = ctP (f1_ m) g p
  | 0, _ => rfl
  | k + 1, h => by
    show ctP (f1_ m) g (p + k) + f1_ m (g (p + k)) = _
    rw [ctP_pad k (fun q a b => h q a (by omega)), h (p + k) (by omega) (by omega)]
    rfl
theorem cF_CT {pl : Nat → Nat} {la : Nat → Option Nat} {m : Nat} : ∀ c, (∀ t, t < c → pl t ≤ 6) → (∀ t p, t < c → pl t ≤ p → p < 6 → la (6 * t + p) = none) → cF la m (6 * c) = CT c pl la m
  | 0, _, _ => rfl
  | c + 1, h1, h2 => by
    have ih := cF_CT (m := m) c (fun t ht => h1 t (by omega)) (fun t p ht => h2 t p (by omega))
    have h6 := h1 c (by omega)
    have e : ctP (f1_ m) (fun p => la (6 * c + p)) (pl c + (6 - pl c)) = ctP (f1_ m) (fun p => la (6 * c + p)) (pl c) := ctP_pad _ (fun q a b => h2 c q (by omega) a (by omega))
    rw [show pl c + (6 - pl c) = 6 by omega] at e
    show cF la m (6 * c + 6) = ctT (f1_ m) pl la c + ctP (f1_ m) (fun p => la (6 * c + p)) (pl c)
    rw [cF_row, ih, e]
theorem otN_CT {c : Nat} {pl : Nat → Nat} {la : Nat → Option Nat} {m q0 : Nat} (hN : netOK c pl la) (hq : q0 < 6 * c) : otN la (some m) q0 (6 * c) + f1_ m (la q0) = CT c pl la m := by
  have e := otN_cF (la := la) (m := m) (q0 := q0) (6 * c)
  rw [cF_CT c hN.2.1 hN.2.2.2.2] at e
  rw [← e]
  unfold f1_
  simp [hq]
theorem otN_none {la : Nat → Option Nat} {q0 : Nat} : ∀ n, otN la none q0 n = 0
  | 0 => rfl
  | n + 1 => by simp [otN, otN_none n]
/-- a new tensor -/
theorem net_new {c : Nat} {pl : Nat → Nat} {la : Nat → Option Nat} {x : Nat} (hN : netOK c pl la) (hx : x ≤ 6) (hc : c < 10) : netOK (c + 1) (va_up pl c x) (hv_rg la (6 * c) 6 none) ∧ (∀ m, CT (c + 1) (va_up pl c x) (hv_rg la (6 * c) 6 none) m = CT c pl la m) ∧ BR (c + 1) (va_up pl c x) (hv_rg la (6 * c) 6 none) = BR c pl la + x ∧ ctT (fun _ => 1) (va_up pl c x) (hv_rg la (6 * c) 6 none) (c + 1) = ctT (fun _ => 1) pl la c + x := by
  obtain ⟨n1, n2, n3, n4, n5⟩ := hN
  have old : ∀ f, ctT f (va_up pl c x) (hv_rg la (6 * c) 6 none) c = ctT f pl la c := fun f => ctT_congr c (fun t ht => ⟨vu_n (by omega), fun p hp => by rw [vu_n (by omega)] at hp; have := n2 t ht; exact rg_out (by omega)⟩)
  have row : ∀ f, ctP f (fun p => hv_rg la (6 * c) 6 none (6 * c + p)) x = x * f none := fun f => ctP_none x (fun q hq => rg_in (by omega))
  have all : ∀ f, ctT f (va_up pl c x) (hv_rg la (6 * c) 6 none) (c + 1) = ctT f pl la c + x * f none := fun f => by
    show ctT f _ _ c + ctP f (fun p => hv_rg la (6 * c) 6 none (6 * c + p)) (va_up pl c x c) = _
    rw [vu_s, old, row]
  have e1 : ∀ m, CT (c + 1) (va_up pl c x) (hv_rg la (6 * c) 6 none) m = CT c pl la m := fun m => by
    show ctT (f1_ m) _ _ (c + 1) = _
    rw [all, show f1_ m none = 0 from rfl, Nat.mul_zero, Nat.add_zero]
  refine ⟨⟨by omega, fun t ht => ?_, fun q n hq e => ?_, fun n => by rw [e1]; exact n4 n, fun t p ht hp h6 => ?_⟩, e1, ?_, ?_⟩
  · by_cases e : t = c
    · rw [e, vu_s]; exact hx
    · rw [vu_n e]; exact n2 t (by omega)
  · by_cases r : 6 * c ≤ q ∧ q < 6 * c + 6
    · rw [rg_in r] at e; cases e
    · rw [rg_out r] at e; exact n3 q n hq e
  · by_cases e : t = c
    · rw [e]; exact rg_in (by omega)
    · rw [rg_out (by omega)]
      rw [vu_n e] at hp
      exact n5 t p (by omega) hp h6
  · show ctT f0_ _ _ (c + 1) = _
    rw [all, show f0_ none = 1 from rfl, Nat.mul_one]
  · rw [all, Nat.mul_one]
/-- a leg gets a name -/
theorem net_leg {c : Nat} {pl : Nat → Nat} {la : Nat → Option Nat} {i j : Nat} {o : Option Nat} (hN : netOK c pl la) (hi : i < c) (hj : j < pl i) (ho : ∀ m, o = some m → m < 20) (h2 : ∀ m, o = some m → la (6 * i + j) = some m ∨ CT c pl la m < 2) : netOK c pl (va_up la (6 * i + j) o) := by
  obtain ⟨n1, n2, n3, n4, n5⟩ := hN
  have h6 := n2 i hi
  refine ⟨n1, n2, fun q n hq e => ?_, fun n => ?_, fun t p ht hp h6 => ?_⟩
  · by_cases r : q = 6 * i + j
    · rw [r, vu_s] at e; exact ho n e
    · rw [vu_n r] at e; exact n3 q n hq e
  · have e := ctT_up (f := f1_ n) (la := la) (o := o) hj (by omega) c n2
    rw [if_pos hi, if_pos hi] at e
    have e : CT c pl (va_up la (6 * i + j) o) n + f1_ n (la (6 * i + j)) = CT c pl la n + f1_ n o := e
    have b4 := n4 n
    by_cases z : o = some n
    · have o1 : f1_ n o = 1 := by rw [z]; exact if_pos rfl
      rcases h2 n z with w | w
      · have l1 : f1_ n (la (6 * i + j)) = 1 := by rw [w]; exact if_pos rfl
        omega
      · omega
    · have o1 : f1_ n o = 0 := if_neg z
      omega
  · rw [vu_n (fun w => by
      have : t = i := by omega
      subst this
      omega)]
    exact n5 t p ht hp h6
theorem row_up {α : Type} {la : Nat → α} {k i t j : Nat} {o : α} (hj : j < k) {p : Nat} (hp : p < k) (hi : i ≠ t) : va_up la (k * t + j) o (k * i + p) = la (k * i + p) := vu_n (fun w => by
  rcases Nat.lt_or_gt_of_ne hi with q | q
  · have : k * (i + 1) ≤ k * t := Nat.mul_le_mul_left k q
    rw [Nat.mul_add] at this
    omega
  · have : k * (t + 1) ≤ k * i := Nat.mul_le_mul_left k q
    rw [Nat.mul_add] at this
    omega)
theorem row_up_s {α : Type} {la : Nat → α} {a j p : Nat} {o : α} : va_up la (a + j) o (a + p) = va_up (fun p => la (a + p)) j o p := by
  unfold va_up
  by_cases e : p = j
  · rw [if_pos (by omega), if_pos e]
  · rw [if_neg (by omega), if_neg e]
set_option maxRecDepth 100000 in
set_option maxHeartbeats 4000000 in
theorem c_N_tensor0 (l : Launch) (D : hv_D) (h : hv_P) (nx : Nat) {b c n : Nat} {wk : Int32} {pl : Nat → Nat} {la : Nat → Option Nat} {re im : Nat → Int32} (hS : nS h b wk c pl la re im n) {x : Int32} (hx : ¬ (¬ x < 0 ∧ ¬ 6 < x ∧ c < 10)) : hv_N l D M_N_tensor (hv_rm 2 50 0 0) [.ref b, .int x] h nx (hv_ans (some (.int (-1))) (fun h' n' => n' = nx ∧ nFr b h h' ∧ ∃ wk', nS h' b wk' (c) (pl) (la) (re) (im) n)) := by
  refine hv_N.of' [some (.ref b), some (.int x)] (by decide +kernel) rfl rfl rfl ?_
  obtain ⟨lk, cu, u, l0, cp, hb, hT, hu, hu2, hl0, hcp, hcpk, hW, hL, hlk, hG, hC, hN⟩ := hS
  have hc := hN.1
  refine V_iload_n d_N_tensor_0 rfl ?_
  refine V_if_lt 19 d_N_tensor_1 (by decide) (fun c1 => ?_) (fun c1 => ?_)
  · refine V_iconst (-1) d_N_tensor_19 rfl ?_
    exact V_ireturn d_N_tensor_20 rfl ⟨rfl, rfl, fun q x => rfl, ⟨wk, lk, cu, u, l0, cp, hb, hT, hu, hu2, hl0, hcp, hcpk, hW, hL, hlk, hG, hC, hN⟩⟩
  · refine V_iload_n d_N_tensor_4 rfl ?_
    refine V_bipush (6) d_N_tensor_5 rfl ?_
    refine V_icmp_gt 19 d_N_tensor_7 (by decide) (fun c7 => ?_) (fun c7 => ?_)
    · refine V_iconst (-1) d_N_tensor_19 rfl ?_
      exact V_ireturn d_N_tensor_20 rfl ⟨rfl, rfl, fun q x => rfl, ⟨wk, lk, cu, u, l0, cp, hb, hT, hu, hu2, hl0, hcp, hcpk, hW, hL, hlk, hG, hC, hN⟩⟩
    · refine V_aload_n d_N_tensor_10 rfl ?_
      refine V_getfield d_N_tensor_11 fl_N_53 hb rfl ?_
      refine V_bipush (nI 10) d_N_tensor_14 rfl ?_
      refine V_icmp_ltN 21 d_N_tensor_16 (by decide) (by omega) (by decide) (fun c16 => ?_) (fun c16 => ?_)
      · exact absurd ⟨c1, c7, by omega⟩ hx
      · refine V_iconst (-1) d_N_tensor_19 rfl ?_
        exact V_ireturn d_N_tensor_20 rfl ⟨rfl, rfl, fun q x => rfl, ⟨wk, lk, cu, u, l0, cp, hb, hT, hu, hu2, hl0, hcp, hcpk, hW, hL, hlk, hG, hC, hN⟩⟩

set_option maxRecDepth 100000 in
set_option maxHeartbeats 4000000 in
theorem c_N_tensor1 (l : Launch) (D : hv_D) (h : hv_P) (nx : Nat) {b c n : Nat} {wk : Int32} {pl : Nat → Nat} {la : Nat → Option Nat} {re im : Nat → Int32} (hS : nS h b wk c pl la re im n) (hP : ∀ t, t < 10 → pl t ≤ 6) {x : Nat} (hx : x ≤ 6) (hc : c < 10) : hv_N l D M_N_tensor (hv_rm 2 50 0 0) [.ref b, .int (nI x)] h nx (hv_ans (some (.int (nI c))) (fun h' n' => n' = nx ∧ nFr b h h' ∧ ∃ wk', nS h' b wk' (c + 1) (va_up pl c x) (hv_rg la (6 * c) 6 none) (hv_rg re (64 * c) 64 0) (hv_rg im (64 * c) 64 0) n)) := by
  refine hv_N.of' [some (.ref b), some (.int (nI x))] (by decide +kernel) rfl rfl rfl ?_
  have hS0 := hS
  obtain ⟨lk, cu, u, l0, cp, hb, hT, hu, hu2, hl0, hcp, hcpk, hW, hL, hlk, hG, hC, hN⟩ := hS
  obtain ⟨gT, gT1, -⟩ := hT.2.2.1 c hc
  obtain ⟨g2T, gT2, -⟩ := hT.2.2.2.1 c hc
  obtain ⟨g3T, gT3, -⟩ := hT.2.2.2.2 c hc
  refine V_iload_n d_N_tensor_0 rfl ?_
  refine V_if_lt 19 d_N_tensor_1 (by decide) (fun q => absurd q (by rw [nI_lt0 (by omega)]; exact not_false)) (fun _ => ?_)
  refine V_iload_n d_N_tensor_4 rfl ?_
  refine V_bipush (nI 6) d_N_tensor_5 rfl ?_
  refine V_icmp_gtN 19 d_N_tensor_7 (by decide) (by omega) (by decide) (fun q => by exfalso; omega) (fun _ => ?_)
  refine V_aload_n d_N_tensor_10 rfl ?_
  refine V_getfield d_N_tensor_11 fl_N_53 hb rfl ?_
  refine V_bipush (nI 10) d_N_tensor_14 rfl ?_
  refine V_icmp_ltN 21 d_N_tensor_16 (by decide) (by omega) (by decide) (fun _ => ?_) (fun q => by exfalso; omega)
  refine V_aload_n d_N_tensor_21 rfl ?_
  refine V_getfield d_N_tensor_22 fl_N_11 hb rfl ?_
  refine V_aload_n d_N_tensor_25 rfl ?_
  refine V_getfield d_N_tensor_26 fl_N_53 hb rfl ?_
  refine V_aaload d_N_tensor_29 hT.1 rfl ⟨rfl, by omega, by decide⟩ rfl ?_
  refine V_iload_n d_N_tensor_30 rfl ?_
  refine V_callV0 d_N_tensor_31 ml_N_57 mB_T_makeNew mi_T_makeNew mv_T_makeNew rfl (hT.2.1 c hc) (c_T_makeNew l D _ _ (hT.2.1 c hc) gT1 gT2 gT3) rfl rfl rfl rfl rfl rfl rfl ?_
  rintro _ _ ⟨rfl, rfl⟩
  refine V_aload_n d_N_tensor_34 rfl ?_
  refine V_dup d_N_tensor_35 rfl ?_
  refine V_getfield d_N_tensor_36 fl_N_53 (oa_4 hb (by omega) (by omega) (by omega) (by omega)) rfl ?_
  refine V_iconst (nI 1) d_N_tensor_39 rfl ?_
  refine V_iaddN d_N_tensor_40 ?_
  refine V_put (e' := oN b (nI (c + 1)) (nI (ctT (fun _ => 1) pl la c)) (nI (BR c pl la)) wk lk) d_N_tensor_41 fp_N_53 (oa_4 hb (by omega) (by omega) (by omega) (by omega)) rfl rfl rfl rfl rfl ?_
  refine V_aload_n d_N_tensor_44 rfl ?_
  refine V_dup d_N_tensor_45 rfl ?_
  refine V_getfield d_N_tensor_46 fl_N_61 hv_up_s rfl ?_
  refine V_iload_n d_N_tensor_49 rfl ?_
  refine V_iaddN d_N_tensor_50 ?_
  refine V_put (e' := oN b (nI (c + 1)) (nI (ctT (fun _ => 1) pl la c + x)) (nI (BR c pl la)) wk lk) d_N_tensor_51 fp_N_61 hv_up_s rfl rfl rfl rfl hv_up_up ?_
  refine V_aload_n d_N_tensor_54 rfl ?_
  refine V_dup d_N_tensor_55 rfl ?_
  refine V_getfield d_N_tensor_56 fl_N_64 hv_up_s rfl ?_
  refine V_iload_n d_N_tensor_59 rfl ?_
  refine V_iaddN d_N_tensor_60 ?_
  refine V_put (e' := oN b (nI (c + 1)) (nI (ctT (fun _ => 1) pl la c + x)) (nI (BR c pl la + x)) wk lk) d_N_tensor_61 fp_N_64 hv_up_s rfl rfl rfl rfl hv_up_up ?_
  refine V_aload_n d_N_tensor_64 rfl ?_
  refine V_callV0 d_N_tensor_65 ml_N_50 mB_N_forgetOrders mi_N_forgetOrders mv_N_forgetOrders rfl hv_up_s (c_N_forget l D _ _ hv_up_s ((hv_up_n (by omega)).trans (oa_4 hcp (by omega) (by omega) (by omega) (by omega)))) rfl rfl rfl rfl rfl rfl rfl ?_
  rintro _ _ ⟨rfl, rfl⟩
  refine V_aload_n d_N_tensor_68 rfl ?_
  refine V_getfield d_N_tensor_69 fl_N_53 og_0 rfl ?_
  refine V_iconst (nI 1) d_N_tensor_72 rfl ?_
  refine V_isubN d_N_tensor_73 (by omega) ?_
  refine V_ireturn d_N_tensor_74 rfl ?_
  refine ⟨by rw [Nat.add_sub_cancel], rfl, fun q hq => ((oz_2 (by omega) (by omega)).trans ((hv_up_n (by omega)).trans (oz_4 (by omega) (by omega) (by omega) (by omega)))), 0, ?_⟩
  obtain ⟨m1, m2, m3, m4⟩ := net_new hN hx hc
  have T2 : tS (hv_ov (hv_up (hv_ov h [((b + 2 + 4 * c), oT (b + 2 + 4 * c) (nI x) 0), ((b + 2 + 4 * c) + 1, eI 6 (hv_fill (fun p => en_ (gT p)) 6 (-1))), ((b + 2 + 4 * c) + 2, eI 64 (hv_fill g2T 64 0)), ((b + 2 + 4 * c) + 3, eI 64 (hv_fill g3T 64 0))]) b (oN b (nI (c + 1)) (nI (ctT (fun _ => 1) pl la c + x)) (nI (BR c pl la + x)) wk lk)) [(b, oN b (nI (c + 1)) (nI (ctT (fun _ => 1) pl la c + x)) (nI (BR c pl la + x)) 0 (-1)), (b + 44, eI 400 (hv_fill cp 400 (-1)))]) b (va_up pl c x) (hv_rg la (6 * c) 6 none) (hv_rg re (64 * c) 64 0) (hv_rg im (64 * c) 64 0) := by
    refine ⟨((oz_2 (by omega) (by omega)).trans ((hv_up_n (by omega)).trans (oa_4 hT.1 (by omega) (by omega) (by omega) (by omega)))), fun i hi => ?_, fun i hi => ?_, fun i hi => ?_, fun i hi => ?_⟩
    · by_cases e : i = c
      · subst e
        rw [vu_s, show LE (va_up pl i x) (hv_rg la (6 * i) 6 none) i = 0 from by unfold LE; rw [vu_s]; exact lgx_none _ (fun p hp => rg_in (by omega))]; exact ((oz_2 (by omega) (by omega)).trans ((hv_up_n (by omega)).trans og_0))
      · rw [vu_n e, show LE (va_up pl c x) (hv_rg la (6 * c) 6 none) i = LE pl la i from by unfold LE; rw [vu_n e]; exact lgx_congr _ (fun p hp => rg_out (by have := hP i hi; omega))]; exact ((oz_2 (by omega) (by omega)).trans ((hv_up_n (by omega)).trans (oz_4 (by omega) (by omega) (by omega) (by omega)))).trans (hT.2.1 i hi)
    · by_cases e : i = c
      · subst e
        exact ⟨_, ((oz_2 (by omega) (by omega)).trans ((hv_up_n (by omega)).trans (og_1 (by omega)))).trans (by rw [fill_en]), fun p hp => by rw [rg_in (by omega)]; exact if_pos hp⟩
      · obtain ⟨g, g1, g2⟩ := hT.2.2.1 i hi; exact ⟨g, ((oz_2 (by omega) (by omega)).trans ((hv_up_n (by omega)).trans (oz_4 (by omega) (by omega) (by omega) (by omega)))).trans g1, fun p hp => by rw [g2 p hp, rg_out (by omega)]⟩
    · by_cases e : i = c
      · subst e
        exact ⟨_, ((oz_2 (by omega) (by omega)).trans ((hv_up_n (by omega)).trans (og_2 (by omega) (by omega)))), fun p hp => by rw [rg_in (by omega)]; exact if_pos hp⟩
      · obtain ⟨g, g1, g2⟩ := hT.2.2.2.1 i hi; exact ⟨g, ((oz_2 (by omega) (by omega)).trans ((hv_up_n (by omega)).trans (oz_4 (by omega) (by omega) (by omega) (by omega)))).trans g1, fun p hp => by rw [g2 p hp, rg_out (by omega)]⟩
    · by_cases e : i = c
      · subst e
        exact ⟨_, ((oz_2 (by omega) (by omega)).trans ((hv_up_n (by omega)).trans (og_3 (by omega) (by omega) (by omega)))), fun p hp => by rw [rg_in (by omega)]; exact if_pos hp⟩
      · obtain ⟨g, g1, g2⟩ := hT.2.2.2.2 i hi; exact ⟨g, ((oz_2 (by omega) (by omega)).trans ((hv_up_n (by omega)).trans (oz_4 (by omega) (by omega) (by omega) (by omega)))).trans g1, fun p hp => by rw [g2 p hp, rg_out (by omega)]⟩
  refine nS_new hS0 ?_ T2 ((oz_2 (by omega) (by omega)).trans ((hv_up_n (by omega)).trans (oa_4 hu (by omega) (by omega) (by omega) (by omega)))) (fun n hn => by rw [m2]; exact hu2 n hn) (og_1 (by omega)) (fun j hj => if_pos hj) (fun q hq => ((oz_2 (by omega) (by omega)).trans ((hv_up_n (by omega)).trans (oz_4 (by omega) (by omega) (by omega) (by omega))))) m1
  rw [m3, m4]
  exact og_0

set_option maxRecDepth 100000 in
set_option maxHeartbeats 4000000 in
theorem c_N_put0 (l : Launch) (D : hv_D) (h : hv_P) (nx : Nat) {b c n : Nat} {wk : Int32} {pl : Nat → Nat} {la : Nat → Option Nat} {re im : Nat → Int32} (hS : nS h b wk c pl la re im n) {t x a d : Int32} (hx : ¬ putV c pl t x a d) : hv_N l D M_N_put (hv_rm 2 50 0 0) [.ref b, .int t, .int x, .int a, .int d] h nx (hv_ans (some (.int 0)) (fun h' n' => n' = nx ∧ nFr b h h' ∧ ∃ wk', nS h' b wk' (c) (pl) (la) (re) (im) n)) := by
  refine hv_N.of' [some (.ref b), some (.int t), some (.int x), some (.int a), some (.int d)] (by decide +kernel) rfl rfl rfl ?_
  obtain ⟨lk, cu, u, l0, cp, hb, hT, hu, hu2, hl0, hcp, hcpk, hW, hL, hlk, hG, hC, hN⟩ := hS
  refine V_aload_n d_N_put_0 rfl ?_
  refine V_iload_n d_N_put_1 rfl ?_
  refine V_iload_n d_N_put_2 rfl ?_
  refine V_callV1 d_N_put_3 ml_N_84 mB_N_isEntry mi_N_isEntry mv_N_isEntry rfl hb (c_N_isEntry l D _ _ hb hT hN t x) rfl rfl rfl rfl rfl rfl rfl ?_
  rintro h8 n8 ⟨e8, e9⟩
  have e8 := e8.symm
  have e9 := e9.symm
  subst e8
  subst e9
  refine V_if_eq 24 d_N_put_6 (by decide) (fun c6 => ?_) (fun c6 => ?_)
  · refine V_iconst (0) d_N_put_24 rfl ?_
    exact V_zreturn d_N_put_25 rfl rfl ⟨rfl, rfl, fun q x => rfl, ⟨wk, lk, cu, u, l0, cp, hb, hT, hu, hu2, hl0, hcp, hcpk, hW, hL, hlk, hG, hC, hN⟩⟩
  · have c6 : idxV c pl t x := of_decide_eq_true (bZ_ne.mp c6)
    refine V_iload_n d_N_put_9 rfl ?_
    refine V_callS1 d_N_put_10 ml_N_88 mB_N_isPart ms_N_isPart (c_N_isPart l D _ _ a) rfl rfl rfl rfl rfl rfl rfl ?_
    rintro h8 n8 ⟨e8, e9⟩
    have e8 := e8.symm
    have e9 := e9.symm
    subst e8
    subst e9
    refine V_if_eq 24 d_N_put_13 (by decide) (fun c13 => ?_) (fun c13 => ?_)
    · refine V_iconst (0) d_N_put_24 rfl ?_
      exact V_zreturn d_N_put_25 rfl rfl ⟨rfl, rfl, fun q x => rfl, ⟨wk, lk, cu, u, l0, cp, hb, hT, hu, hu2, hl0, hcp, hcpk, hW, hL, hlk, hG, hC, hN⟩⟩
    · obtain ⟨a1, a2⟩ := bZ_and c13
      refine V_iload d_N_put_16 rfl ?_
      refine V_callS1 d_N_put_18 ml_N_88 mB_N_isPart ms_N_isPart (c_N_isPart l D _ _ d) rfl rfl rfl rfl rfl rfl rfl ?_
      rintro h8 n8 ⟨e8, e9⟩
      have e8 := e8.symm
      have e9 := e9.symm
      subst e8
      subst e9
      refine V_if_ne 26 d_N_put_21 (by decide) (fun c21 => ?_) (fun c21 => ?_)
      · obtain ⟨b1, b2⟩ := bZ_and c21
        exact absurd ⟨c6, ⟨a1, a2⟩, b1, b2⟩ hx
      · refine V_iconst (0) d_N_put_24 rfl ?_
        exact V_zreturn d_N_put_25 rfl rfl ⟨rfl, rfl, fun q x => rfl, ⟨wk, lk, cu, u, l0, cp, hb, hT, hu, hu2, hl0, hcp, hcpk, hW, hL, hlk, hG, hC, hN⟩⟩

set_option maxRecDepth 100000 in
set_option maxHeartbeats 4000000 in
theorem c_N_put1 (l : Launch) (D : hv_D) (h : hv_P) (nx : Nat) {b c n : Nat} {wk : Int32} {pl : Nat → Nat} {la : Nat → Option Nat} {re im : Nat → Int32} (hS : nS h b wk c pl la re im n) {t x a d : Int32} (hx : putV c pl t x a d) : hv_N l D M_N_put (hv_rm 2 50 0 0) [.ref b, .int t, .int x, .int a, .int d] h nx (hv_ans (some (.int 1)) (fun h' n' => n' = nx ∧ nFr b h h' ∧ ∃ wk', nS h' b wk' (c) (pl) (la) (va_up re (64 * t.toNatClampNeg + x.toNatClampNeg) a) (va_up im (64 * t.toNatClampNeg + x.toNatClampNeg) d) n)) := by
  refine hv_N.of' [some (.ref b), some (.int t), some (.int x), some (.int a), some (.int d)] (by decide +kernel) rfl rfl rfl ?_
  obtain ⟨lk, cu, u, l0, cp, hb, hT, hu, hu2, hl0, hcp, hcpk, hW, hL, hlk, hG, hC, hN⟩ := hS
  have hx0 := hx
  obtain ⟨⟨⟨t1, t2⟩, x1, x2⟩, a0, b0⟩ := hx
  obtain ⟨i1, i2⟩ := i32_nat t1 (Int32.not_le.mp t2) (by have := hN.1; omega)
  have p6 := hN.2.1 _ i1
  have p64 : 2 ^ pl t.toNatClampNeg ≤ 2 ^ 6 := Nat.pow_le_pow_right (by decide) p6
  obtain ⟨j1, j2⟩ := i32_nat x1 (Int32.not_le.mp x2) (by omega)
  have hc := hN.1
  obtain ⟨gR, gR1, gR2⟩ := hT.2.2.2.1 t.toNatClampNeg (by omega)
  obtain ⟨gM, gM1, gM2⟩ := hT.2.2.2.2 t.toNatClampNeg (by omega)
  refine V_aload_n d_N_put_0 rfl ?_
  refine V_iload_n d_N_put_1 rfl ?_
  refine V_iload_n d_N_put_2 rfl ?_
  refine V_callV1 d_N_put_3 ml_N_84 mB_N_isEntry mi_N_isEntry mv_N_isEntry rfl hb (c_N_isEntry l D _ _ hb hT hN t x) rfl rfl rfl rfl rfl rfl rfl ?_
  rintro h8 n8 ⟨e8, e9⟩
  have e8 := e8.symm
  have e9 := e9.symm
  subst e8
  subst e9
  refine V_if_eq 24 d_N_put_6 (by decide) (fun q => absurd q (by rw [bZ_p ⟨⟨t1, t2⟩, x1, x2⟩]; decide)) (fun _ => ?_)
  refine V_iload_n d_N_put_9 rfl ?_
  refine V_callS1 d_N_put_10 ml_N_88 mB_N_isPart ms_N_isPart (c_N_isPart l D _ _ a) rfl rfl rfl rfl rfl rfl rfl ?_
  rintro h8 n8 ⟨e8, e9⟩
  have e8 := e8.symm
  have e9 := e9.symm
  subst e8
  subst e9
  refine V_if_eq 24 d_N_put_13 (by decide) (fun q => absurd q (by simp [a0.1, a0.2, bZ])) (fun _ => ?_)
  refine V_iload d_N_put_16 rfl ?_
  refine V_callS1 d_N_put_18 ml_N_88 mB_N_isPart ms_N_isPart (c_N_isPart l D _ _ d) rfl rfl rfl rfl rfl rfl rfl ?_
  rintro h8 n8 ⟨e8, e9⟩
  have e8 := e8.symm
  have e9 := e9.symm
  subst e8
  subst e9
  refine V_if_ne 26 d_N_put_21 (by decide) (fun _ => ?_) (fun q => absurd q (by simp [b0.1, b0.2, bZ]))
  refine V_aload_n d_N_put_26 rfl ?_
  refine V_getfield d_N_put_27 fl_N_11 hb rfl ?_
  refine V_iload_n (x := nI t.toNatClampNeg) d_N_put_30 (by rw [← i2]; rfl) ?_
  refine V_aaload d_N_put_31 hT.1 rfl ⟨rfl, by omega, by decide⟩ rfl ?_
  refine V_getfield d_N_put_32 fl_N_91 (hT.2.1 _ (by omega)) rfl ?_
  refine V_iload_n (x := nI x.toNatClampNeg) d_N_put_35 (by rw [← j2]; rfl) ?_
  refine V_iload_n d_N_put_36 rfl ?_
  refine V_ist d_N_put_37 gR1 ⟨rfl, by omega, by decide⟩ rfl ?_
  refine V_aload_n d_N_put_38 rfl ?_
  refine V_getfield d_N_put_39 fl_N_11 ((hv_up_n (by omega)).trans hb) rfl ?_
  refine V_iload_n (x := nI t.toNatClampNeg) d_N_put_42 (by rw [← i2]; rfl) ?_
  refine V_aaload d_N_put_43 ((hv_up_n (by omega)).trans hT.1) rfl ⟨rfl, by omega, by decide⟩ rfl ?_
  refine V_getfield d_N_put_44 fl_N_94 ((hv_up_n (by omega)).trans (hT.2.1 _ (by omega))) rfl ?_
  refine V_iload_n (x := nI x.toNatClampNeg) d_N_put_47 (by rw [← j2]; rfl) ?_
  refine V_iload d_N_put_48 rfl ?_
  refine V_ist d_N_put_50 ((hv_up_n (by omega)).trans gM1) ⟨rfl, by omega, by decide⟩ rfl ?_
  refine V_iconst (1) d_N_put_51 rfl ?_
  refine V_zreturn d_N_put_52 rfl rfl ?_
  refine ⟨rfl, rfl, fun q hq => ((hv_up_n (by omega)).trans (hv_up_n (by omega))), wk, ?_⟩
  have T2 : tS (hv_up (hv_up h ((b + 2 + 4 * t.toNatClampNeg) + 2) (eI 64 (va_up gR x.toNatClampNeg a))) ((b + 2 + 4 * t.toNatClampNeg) + 3) (eI 64 (va_up gM x.toNatClampNeg d))) b pl la (va_up re (64 * t.toNatClampNeg + x.toNatClampNeg) a) (va_up im (64 * t.toNatClampNeg + x.toNatClampNeg) d) := by
    refine ⟨((hv_up_n (by omega)).trans (hv_up_n (by omega))).trans hT.1, fun i hi => ((hv_up_n (by omega)).trans (hv_up_n (by omega))).trans (hT.2.1 i hi), fun i hi => by obtain ⟨g, g1, g2⟩ := hT.2.2.1 i hi; exact ⟨g, ((hv_up_n (by omega)).trans (hv_up_n (by omega))).trans g1, g2⟩, fun i hi => ?_, fun i hi => ?_⟩
    · by_cases e : i = t.toNatClampNeg
      · rw [e]; exact ⟨_, (hv_up_n (by omega)).trans hv_up_s, fun p hp => by rw [row_up_s]; unfold va_up; split; rfl; exact gR2 p hp⟩
      · obtain ⟨g, g1, g2⟩ := hT.2.2.2.1 i hi; exact ⟨g, ((hv_up_n (by omega)).trans (hv_up_n (by omega))).trans g1, fun p hp => by rw [row_up (by omega) hp e]; exact g2 p hp⟩
    · by_cases e : i = t.toNatClampNeg
      · rw [e]; exact ⟨_, hv_up_s, fun p hp => by rw [row_up_s]; unfold va_up; split; rfl; exact gM2 p hp⟩
      · obtain ⟨g, g1, g2⟩ := hT.2.2.2.2 i hi; exact ⟨g, ((hv_up_n (by omega)).trans (hv_up_n (by omega))).trans g1, fun p hp => by rw [row_up (by omega) hp e]; exact g2 p hp⟩
  exact ⟨lk, cu, u, l0, cp, ((hv_up_n (by omega)).trans (hv_up_n (by omega))).trans hb, T2, ((hv_up_n (by omega)).trans (hv_up_n (by omega))).trans hu, hu2, ((hv_up_n (by omega)).trans (hv_up_n (by omega))).trans hl0, ((hv_up_n (by omega)).trans (hv_up_n (by omega))).trans hcp, hcpk, (hW.fr (fun q x y => ((hv_up_n (by omega)).trans (hv_up_n (by omega))))), (hL.fr (fun q x y => ((hv_up_n (by omega)).trans (hv_up_n (by omega))))), hlk, (hG.fr (fun q x y => ((hv_up_n (by omega)).trans (hv_up_n (by omega))))), (hC.fr (fun q x => ((hv_up_n (by omega)).trans (hv_up_n (by omega))))), hN⟩

set_option maxRecDepth 100000 in
set_option maxHeartbeats 4000000 in
theorem c_N_clear (l : Launch) (D : hv_D) (h : hv_P) (nx : Nat) {b c n : Nat} {wk : Int32} {pl : Nat → Nat} {la : Nat → Option Nat} {re im : Nat → Int32} (hS : nS h b wk c pl la re im n) : hv_N l D M_N_clear (hv_rm 2 50 0 0) [.ref b] h nx (hv_ans none (fun h' n' => n' = nx ∧ nFr b h h' ∧ ∃ wk', nS h' b wk' (0) (pl) (la) (re) (im) n)) := by
  refine hv_N.of' [some (.ref b)] (by decide +kernel) rfl rfl rfl ?_
  have hS0 := hS
  obtain ⟨lk, cu, u, l0, cp, hb, hT, hu, hu2, hl0, hcp, hcpk, hW, hL, hlk, hG, hC, hN⟩ := hS
  refine V_aload_n d_N_clear_0 rfl ?_
  refine V_iconst (nI 0) d_N_clear_1 rfl ?_
  refine V_put (e' := oN b (nI 0) (nI (ctT (fun _ => 1) pl la c)) (nI (BR c pl la)) wk lk) d_N_clear_2 fp_N_53 hb rfl rfl rfl rfl rfl ?_
  refine V_aload_n d_N_clear_5 rfl ?_
  refine V_iconst (nI 0) d_N_clear_6 rfl ?_
  refine V_put (e' := oN b (nI 0) (nI 0) (nI (BR c pl la)) wk lk) d_N_clear_7 fp_N_61 hv_up_s rfl rfl rfl rfl hv_up_up ?_
  refine V_aload_n d_N_clear_10 rfl ?_
  refine V_iconst (nI 0) d_N_clear_11 rfl ?_
  refine V_put (e' := oN b (nI 0) (nI 0) (nI 0) wk lk) d_N_clear_12 fp_N_64 hv_up_s rfl rfl rfl rfl hv_up_up ?_
  refine V_aload_n d_N_clear_15 rfl ?_
  refine V_getfield d_N_clear_16 fl_N_16 hv_up_s rfl ?_
  refine V_iconst (0) d_N_clear_19 rfl ?_
  refine V_callS0 d_N_clear_20 ml_N_97 mB_JA_fill ms_JA_fill (c_fill l D _ _ 0 ((hv_up_n (by omega)).trans hu) (by decide)) rfl rfl rfl rfl rfl rfl rfl ?_
  rintro _ _ ⟨rfl, rfl⟩
  refine V_aload_n d_N_clear_23 rfl ?_
  refine V_callV0 d_N_clear_24 ml_N_50 mB_N_forgetOrders mi_N_forgetOrders mv_N_forgetOrders rfl ((hv_up_n (by omega)).trans hv_up_s) (c_N_forget l D _ _ ((hv_up_n (by omega)).trans hv_up_s) ((hv_up_n (by omega)).trans ((hv_up_n (by omega)).trans hcp))) rfl rfl rfl rfl rfl rfl rfl ?_
  rintro _ _ ⟨rfl, rfl⟩
  exact V_return d_N_clear_27 rfl ⟨rfl, rfl, fun q hq => ((oz_2 (by omega) (by omega)).trans ((hv_up_n (by omega)).trans (hv_up_n (by omega)))), 0, nS_new (u' := hv_fill u 20 0) hS0 og_0 (hT.fr (fun q x y => ((oz_2 (by omega) (by omega)).trans ((hv_up_n (by omega)).trans (hv_up_n (by omega)))))) (((oz_2 (by omega) (by omega)).trans hv_up_s).trans (by rw [fill_z])) (fun n hn => if_pos hn) (og_1 (by omega)) (fun j hj => if_pos hj) (fun q hq => ((oz_2 (by omega) (by omega)).trans ((hv_up_n (by omega)).trans (hv_up_n (by omega))))) ⟨by omega, fun t ht => by omega, hN.2.2.1, fun n => by show 0 ≤ 2; omega, fun t p ht => by omega⟩⟩

set_option maxRecDepth 100000 in
set_option maxHeartbeats 4000000 in
theorem c_N_leg0 (l : Launch) (D : hv_D) (h : hv_P) (nx : Nat) {b c n : Nat} {wk : Int32} {pl : Nat → Nat} {la : Nat → Option Nat} {re im : Nat → Int32} (hS : nS h b wk c pl la re im n) {t p nm : Int32} (hx : ¬ legV c pl t p nm) : hv_N l D M_N_leg (hv_rm 2 50 0 0) [.ref b, .int t, .int p, .int nm] h nx (hv_ans (some (.int 0)) (fun h' n' => n' = nx ∧ nFr b h h' ∧ ∃ wk', nS h' b wk' (c) (pl) (la) (re) (im) n)) := by
  refine hv_N.of' [some (.ref b), some (.int t), some (.int p), some (.int nm), none] (by decide +kernel) rfl rfl rfl ?_
  have hS0 := hS
  obtain ⟨lk, cu, u, l0, cp, hb, hT, hu, hu2, hl0, hcp, hcpk, hW, hL, hlk, hG, hC, hN⟩ := hS
  have hc := hN.1
  refine V_aload_n d_N_leg_0 rfl ?_
  refine V_iload_n d_N_leg_1 rfl ?_
  refine V_callV1 d_N_leg_2 ml_N_67 mB_N_isTensor mi_N_isTensor mv_N_isTensor rfl hb (c_N_isTensor l D _ _ hb t) rfl rfl rfl rfl rfl rfl rfl ?_
  rintro _ _ ⟨rfl, rfl⟩
  refine V_if_eq 36 d_N_leg_5 (by decide) (fun c5 => ?_) (fun c5 => ?_)
  · refine V_iconst (0) d_N_leg_36 rfl ?_
    exact V_zreturn d_N_leg_37 rfl rfl ⟨rfl, rfl, fun q x => rfl, ⟨wk, lk, cu, u, l0, cp, hb, hT, hu, hu2, hl0, hcp, hcpk, hW, hL, hlk, hG, hC, hN⟩⟩
  · obtain ⟨t1, t2⟩ := bZ_and c5
    obtain ⟨i1, i2⟩ := i32_nat t1 (Int32.not_le.mp t2) (by omega)
    refine V_iload_n d_N_leg_8 rfl ?_
    refine V_if_lt 36 d_N_leg_9 (by decide) (fun c9 => ?_) (fun c9 => ?_)
    · refine V_iconst (0) d_N_leg_36 rfl ?_
      exact V_zreturn d_N_leg_37 rfl rfl ⟨rfl, rfl, fun q x => rfl, ⟨wk, lk, cu, u, l0, cp, hb, hT, hu, hu2, hl0, hcp, hcpk, hW, hL, hlk, hG, hC, hN⟩⟩
    · refine V_iload_n d_N_leg_12 rfl ?_
      refine V_aload_n d_N_leg_13 rfl ?_
      refine V_getfield d_N_leg_14 fl_N_11 hb rfl ?_
      refine V_iload_n (x := nI t.toNatClampNeg) d_N_leg_17 (by rw [← i2]; rfl) ?_
      refine V_aaload d_N_leg_18 hT.1 rfl ⟨rfl, by omega, by decide⟩ rfl ?_
      refine V_getfield d_N_leg_19 fl_N_71 (hT.2.1 _ (by omega)) rfl ?_
      refine V_icmp_ge 36 d_N_leg_22 (by decide) (fun c22 => ?_) (fun c22 => ?_)
      · refine V_iconst (0) d_N_leg_36 rfl ?_
        exact V_zreturn d_N_leg_37 rfl rfl ⟨rfl, rfl, fun q x => rfl, ⟨wk, lk, cu, u, l0, cp, hb, hT, hu, hu2, hl0, hcp, hcpk, hW, hL, hlk, hG, hC, hN⟩⟩
      · refine V_iload_n d_N_leg_25 rfl ?_
        refine V_iconst (-1) d_N_leg_26 rfl ?_
        refine V_icmp_lt 36 d_N_leg_27 (by decide) (fun c27 => ?_) (fun c27 => ?_)
        · refine V_iconst (0) d_N_leg_36 rfl ?_
          exact V_zreturn d_N_leg_37 rfl rfl ⟨rfl, rfl, fun q x => rfl, ⟨wk, lk, cu, u, l0, cp, hb, hT, hu, hu2, hl0, hcp, hcpk, hW, hL, hlk, hG, hC, hN⟩⟩
        · refine V_iload_n d_N_leg_30 rfl ?_
          refine V_bipush (20) d_N_leg_31 rfl ?_
          refine V_icmp_lt 38 d_N_leg_33 (by decide) (fun c33 => ?_) (fun c33 => ?_)
          · exact absurd ⟨⟨t1, t2⟩, ⟨c9, c22⟩, c27, c33⟩ hx
          · refine V_iconst (0) d_N_leg_36 rfl ?_
            exact V_zreturn d_N_leg_37 rfl rfl ⟨rfl, rfl, fun q x => rfl, ⟨wk, lk, cu, u, l0, cp, hb, hT, hu, hu2, hl0, hcp, hcpk, hW, hL, hlk, hG, hC, hN⟩⟩

set_option maxRecDepth 100000 in
set_option maxHeartbeats 4000000 in
theorem c_N_leg1 (l : Launch) (D : hv_D) (h : hv_P) (nx : Nat) {b c n : Nat} {wk : Int32} {pl : Nat → Nat} {la : Nat → Option Nat} {re im : Nat → Int32} (hS : nS h b wk c pl la re im n) (hP : ∀ t, t < 10 → pl t ≤ 6) {i j : Nat} {o : Option Nat} (hi : i < c) (hj : j < pl i) (ho : ∀ m, o = some m → m < 20) : hv_N l D M_N_leg (hv_rm 2 50 0 0) [.ref b, .int (nI i), .int (nI j), .int (en_ o)] h nx (hv_ans (some (.int (bZ (decide (¬ otN la o (6 * i + j) (6 * c) = 2))))) (fun h' n' => n' = nx ∧ nFr b h h' ∧ ∃ wk', nS h' b wk' (c) (pl) (if otN la o (6 * i + j) (6 * c) = 2 then la else (va_up la (6 * i + j) o)) (re) (im) n)) := by
  refine hv_N.of' [some (.ref b), some (.int (nI i)), some (.int (nI j)), some (.int (en_ o)), none] (by decide +kernel) rfl rfl rfl ?_
  have hS0 := hS
  obtain ⟨lk, cu, u, l0, cp, hb, hT, hu, hu2, hl0, hcp, hcpk, hW, hL, hlk, hG, hC, hN⟩ := hS
  have hc := hN.1
  have hp6 := hN.2.1 i hi
  have hn1 : ¬ en_ o < -1 := by
    cases o with
    | none => decide
    | some m =>
      have := ho m rfl
      rw [Int32.lt_iff_toInt_lt, show en_ (some m) = nI m from rfl, nI_toInt (by omega)]
      have e1 : (-1 : Int32).toInt = -1 := rfl
      omega
  have hn2 : en_ o < 20 := by
    cases o with
    | none => decide
    | some m =>
      have := ho m rfl
      rw [Int32.lt_iff_toInt_lt, show en_ (some m) = nI m from rfl, nI_toInt (by omega)]
      have e1 : (20 : Int32).toInt = 20 := rfl
      omega
  obtain ⟨gT, gT1, gT2⟩ := hT.2.2.1 i (by omega)
  have eA : ctT (fun _ => 1) pl (va_up la (6 * i + j) o) c = ctT (fun _ => 1) pl la c := by
    have e := ctT_up (f := fun _ => 1) (la := la) (o := o) hj (by omega) c hN.2.1
    omega
  have eB : BR c pl (va_up la (6 * i + j) o) + f0_ (la (6 * i + j)) = BR c pl la + f0_ o := by
    have e := ctT_up (f := f0_) (la := la) (o := o) hj (by omega) c hN.2.1
    rw [if_pos hi, if_pos hi] at e
    exact e
  have eC : ∀ n, CT c pl (va_up la (6 * i + j) o) n + f1_ n (la (6 * i + j)) = CT c pl la n + f1_ n o := fun n => by
    have e := ctT_up (f := f1_ n) (la := la) (o := o) hj (by omega) c hN.2.1
    rw [if_pos hi, if_pos hi] at e
    exact e
  have fin : ¬ otN la o (6 * i + j) (6 * c) = 2 → netOK c pl (va_up la (6 * i + j) o) → ∀ (h2 : hv_P) (u2 : Nat → Nat), h2 b = some (oN b (nI c) (nI (ctT (fun _ => 1) pl la c)) (nI (BR c pl (va_up la (6 * i + j) o))) wk lk) → h2 (b + 42) = some (eN 20 u2) → (∀ n, n < 20 → u2 n = CT c pl (va_up la (6 * i + j) o) n) → (∀ q, q ≠ b → q ≠ b + 42 → h2 q = h q) → hv_V l D M_N_leg (fun _ _ => True) (hv_rm 2 50 0 0) (hv_ans (some (.int (bZ (decide (¬ otN la o (6 * i + j) (6 * c) = 2))))) (fun h' n' => n' = nx ∧ nFr b h h' ∧ ∃ wk', nS h' b wk' (c) (pl) (if otN la o (6 * i + j) (6 * c) = 2 then la else (va_up la (6 * i + j) o)) (re) (im) n)) 0 0 h2 nx 89 [some (.ref b), some (.int (nI i)), some (.int (nI j)), some (.int (en_ o)), some (.int (en_ (la (6 * i + j))))] [] := by
    intro h2' hN2 h2 u2 k1 k2 k3 k4
    refine V_aload_n d_N_leg_89 rfl ?_
    refine V_getfield d_N_leg_90 fl_N_11 k1 rfl ?_
    refine V_iload_n d_N_leg_93 rfl ?_
    refine V_aaload d_N_leg_94 ((k4 _ (by omega) (by omega)).trans hT.1) rfl ⟨rfl, by omega, by decide⟩ rfl ?_
    refine V_iload_n d_N_leg_95 rfl ?_
    refine V_iload_n d_N_leg_96 rfl ?_
    refine V_callV0 d_N_leg_97 ml_N_81 mB_T_setName mi_T_setName mv_T_setName rfl ((k4 _ (by omega) (by omega)).trans (hT.2.1 i (by omega))) (c_T_setName l D _ _ ((k4 _ (by omega) (by omega)).trans (hT.2.1 i (by omega))) ((k4 _ (by omega) (by omega)).trans gT1) hp6 (by omega) (fun p k hp e => by
      unfold va_up at e
      split at e
      · exact ho k e
      · rw [gT2 p hp] at e; exact hN.2.2.1 _ k (by omega) e)) rfl rfl rfl rfl rfl rfl rfl ?_
    rintro _ _ ⟨rfl, rfl⟩
    refine V_aload_n d_N_leg_100 rfl ?_
    refine V_callV0 d_N_leg_101 ml_N_50 mB_N_forgetOrders mi_N_forgetOrders mv_N_forgetOrders rfl ((oz_2 (by omega) (by omega)).trans k1) (c_N_forget l D _ _ ((oz_2 (by omega) (by omega)).trans k1) ((oz_2 (by omega) (by omega)).trans ((k4 _ (by omega) (by omega)).trans hcp))) rfl rfl rfl rfl rfl rfl rfl ?_
    rintro _ _ ⟨rfl, rfl⟩
    refine V_iconst (1) d_N_leg_104 rfl ?_
    refine V_zreturn d_N_leg_105 rfl rfl ?_
    refine ⟨by rw [decide_eq_true h2']; rfl, rfl, fun q hq => ((oz_2 (by omega) (by omega)).trans ((oz_2 (by omega) (by omega)).trans (k4 _ (by omega) (by omega)))), 0, ?_⟩
    have T2 : tS (hv_ov (hv_ov h2 [((b + 2 + 4 * i), oT (b + 2 + 4 * i) (nI (pl i)) (nI (lgx (va_up gT j o) (pl i)))), ((b + 2 + 4 * i) + 1, eM 6 (va_up gT j o))]) [(b, oN b (nI c) (nI (ctT (fun _ => 1) pl la c)) (nI (BR c pl (va_up la (6 * i + j) o))) 0 (-1)), (b + 44, eI 400 (hv_fill cp 400 (-1)))]) b pl (va_up la (6 * i + j) o) re im := by
      refine ⟨((oz_2 (by omega) (by omega)).trans ((oz_2 (by omega) (by omega)).trans (k4 _ (by omega) (by omega)))).trans hT.1, fun t ht => ?_, fun t ht => ?_, fun t ht => by obtain ⟨g, g1, g2⟩ := hT.2.2.2.1 t ht; exact ⟨g, ((oz_2 (by omega) (by omega)).trans ((oz_2 (by omega) (by omega)).trans (k4 _ (by omega) (by omega)))).trans g1, g2⟩, fun t ht => by obtain ⟨g, g1, g2⟩ := hT.2.2.2.2 t ht; exact ⟨g, ((oz_2 (by omega) (by omega)).trans ((oz_2 (by omega) (by omega)).trans (k4 _ (by omega) (by omega)))).trans g1, g2⟩⟩
      · by_cases e : t = i
        · subst e
          rw [show LE pl (va_up la (6 * t + j) o) t = lgx (va_up gT j o) (pl t) from lgx_congr _ (fun p hp => by rw [row_up_s]; unfold va_up; split; rfl; exact (gT2 p (by omega)).symm)]
          exact (oz_2 (by omega) (by omega)).trans og_0
        · rw [show LE pl (va_up la (6 * i + j) o) t = LE pl la t from lgx_congr _ (fun p hp => row_up (by omega) (by have := hP t ht; omega) e)]
          exact ((oz_2 (by omega) (by omega)).trans ((oz_2 (by omega) (by omega)).trans (k4 _ (by omega) (by omega)))).trans (hT.2.1 t ht)
      · by_cases e : t = i
        · subst e
          exact ⟨_, (oz_2 (by omega) (by omega)).trans (og_1 (by omega)), fun p hp => by rw [row_up_s]; unfold va_up; split; rfl; exact gT2 p hp⟩
        · obtain ⟨g, g1, g2⟩ := hT.2.2.1 t ht
          exact ⟨g, ((oz_2 (by omega) (by omega)).trans ((oz_2 (by omega) (by omega)).trans (k4 _ (by omega) (by omega)))).trans g1, fun p hp => by rw [row_up (by omega) hp e]; exact g2 p hp⟩
    rw [if_neg h2']
    refine nS_new hS0 ?_ T2 ((oz_2 (by omega) (by omega)).trans ((oz_2 (by omega) (by omega)).trans k2)) k3 (og_1 (by omega)) (fun j hj => if_pos hj) (fun q hq => ((oz_2 (by omega) (by omega)).trans ((oz_2 (by omega) (by omega)).trans (k4 _ (by omega) (by omega))))) hN2
    rw [show ctT (fun _ => 1) pl (va_up la (6 * i + j) o) c = ctT (fun _ => 1) pl la c from eA]
    exact og_0
  refine V_aload_n d_N_leg_0 rfl ?_
  refine V_iload_n d_N_leg_1 rfl ?_
  refine V_callV1 d_N_leg_2 ml_N_67 mB_N_isTensor mi_N_isTensor mv_N_isTensor rfl hb (c_N_isTensor l D _ _ hb (nI i)) rfl rfl rfl rfl rfl rfl rfl ?_
  rintro _ _ ⟨rfl, rfl⟩
  refine V_if_eq 36 d_N_leg_5 (by decide) (fun q => absurd q (by rw [show (decide (¬ nI i < 0) && decide (¬ nI c ≤ nI i)) = true by simp [nI_lt0 (show i < 2 ^ 31 by omega), nI_leI (show c < 2 ^ 31 by omega) (show i < 2 ^ 31 by omega)]; omega]; decide)) (fun _ => ?_)
  refine V_iload_n d_N_leg_8 rfl ?_
  refine V_if_lt 36 d_N_leg_9 (by decide) (fun q => absurd q (by rw [nI_lt0 (by omega)]; exact not_false)) (fun _ => ?_)
  refine V_iload_n d_N_leg_12 rfl ?_
  refine V_aload_n d_N_leg_13 rfl ?_
  refine V_getfield d_N_leg_14 fl_N_11 hb rfl ?_
  refine V_iload_n d_N_leg_17 rfl ?_
  refine V_aaload d_N_leg_18 hT.1 rfl ⟨rfl, by omega, by decide⟩ rfl ?_
  refine V_getfield d_N_leg_19 fl_N_71 (hT.2.1 i (by omega)) rfl ?_
  refine V_icmp_geN 36 d_N_leg_22 (by decide) (by omega) (by omega) (fun q => by exfalso; omega) (fun _ => ?_)
  refine V_iload_n d_N_leg_25 rfl ?_
  refine V_iconst (-1) d_N_leg_26 rfl ?_
  refine V_icmp_lt 36 d_N_leg_27 (by decide) (fun q => absurd q hn1) (fun _ => ?_)
  refine V_iload_n d_N_leg_30 rfl ?_
  refine V_bipush (20) d_N_leg_31 rfl ?_
  refine V_icmp_lt 38 d_N_leg_33 (by decide) (fun _ => ?_) (fun q => absurd hn2 q)
  refine V_aload_n d_N_leg_38 rfl ?_
  refine V_getfield d_N_leg_39 fl_N_11 hb rfl ?_
  refine V_iload_n d_N_leg_42 rfl ?_
  refine V_aaload d_N_leg_43 hT.1 rfl ⟨rfl, by omega, by decide⟩ rfl ?_
  refine V_getfield d_N_leg_44 fl_N_74 (hT.2.1 i (by omega)) rfl ?_
  refine V_iload_n d_N_leg_47 rfl ?_
  refine V_iaload d_N_leg_48 gT1 ⟨rfl, by omega, by decide⟩ ?_
  rw [gT2 j (by omega)]
  refine V_istore_4 d_N_leg_49 rfl ?_
  refine V_iload_n d_N_leg_51 rfl ?_
  refine V_iload d_N_leg_52 rfl ?_
  refine V_icmp_ne 59 d_N_leg_54 (by decide) (fun c54 => ?_) (fun c54 => ?_)
  · have c54 : ¬ o = la (6 * i + j) := fun q => c54 (by rw [q])
    rcases o with _ | m
    · have h2' : ¬ otN la none (6 * i + j) (6 * c) = 2 := by rw [otN_none]; omega
      have hN2 := net_leg hN hi hj ho (fun m q => by cases q)
      have b0 : f0_ none = 1 := rfl
      have b1 : ∀ n, f1_ n none = 0 := fun n => rfl
      rcases hk : la (6 * i + j) with _ | k
      · exact absurd hk.symm c54
      have k20 : k < 20 := hN.2.2.1 _ k (by omega) hk
      rw [hk] at eB eC
      have b2 : f0_ (some k) = 0 := rfl
      have b3 : f1_ k (some k) = 1 := if_pos rfl
      have ek := eC k
      rw [b1 k, b3] at ek
      simp only [b1] at eC
      rw [b0, b2] at eB
      rw [hk] at fin
      refine V_iload_n d_N_leg_59 rfl ?_
      refine V_iconst (-1) d_N_leg_60 rfl ?_
      refine V_icmp_eq 76 d_N_leg_61 (by decide) (fun _ => ?_) (fun q => absurd rfl q)
      refine V_aload_n d_N_leg_76 rfl ?_
      refine V_iload d_N_leg_77 rfl ?_
      refine V_iconst (-1) d_N_leg_79 rfl ?_
      refine V_callV0 d_N_leg_80 ml_N_77 mB_N_countUse mi_N_countUse mv_N_countUse rfl hb (c_N_countUse1 l D _ _ hb hu k20 (-1)) rfl rfl rfl rfl rfl rfl rfl ?_
      rintro _ _ ⟨rfl, rfl⟩
      refine V_aload_n d_N_leg_83 rfl ?_
      refine V_iload_n d_N_leg_84 rfl ?_
      refine V_iconst (1) d_N_leg_85 rfl ?_
      refine V_callV0 d_N_leg_86 ml_N_77 mB_N_countUse mi_N_countUse mv_N_countUse rfl ((hv_up_n (by omega)).trans hb) (c_N_countUse0 l D _ _ ((hv_up_n (by omega)).trans hb) 1) rfl rfl rfl rfl rfl rfl rfl ?_
      rintro _ _ ⟨rfl, rfl⟩
      refine fin h2' hN2 _ (va_up u k (u k - 1)) (hv_up_s.trans (by rw [nI_inc, show BR c pl la + 1 = BR c pl (va_up la (6 * i + j) none) by omega])) ((hv_up_n (by omega)).trans (hv_up_s.trans (by rw [nI_dec (by rw [hu2 k k20]; omega), eN_up]))) (fun n hn => ?_) (fun q q1 q2 => (hv_up_n q1).trans (hv_up_n q2))
      have e := eC n
      by_cases z : n = k
      · subst z; rw [vu_s, hu2 n hn]; omega
      · rw [vu_n z, hu2 n hn]; have z1 : f1_ n (some k) = 0 := if_neg (fun w => z (Option.some.inj w).symm); omega
    · have m20 := ho m rfl
      refine V_iload_n d_N_leg_59 rfl ?_
      refine V_iconst (-1) d_N_leg_60 rfl ?_
      refine V_icmp_eq 76 d_N_leg_61 (by decide) (fun q => absurd q (nI_m1 (by omega))) (fun _ => ?_)
      refine V_aload_n d_N_leg_64 rfl ?_
      refine V_getfield d_N_leg_65 fl_N_16 hb rfl ?_
      refine V_iload_n (x := nI m) d_N_leg_68 rfl ?_
      refine V_iaload d_N_leg_69 hu ⟨rfl, by omega, by decide⟩ ?_
      refine V_iconst (nI 2) d_N_leg_70 rfl ?_
      refine V_icmp_ltN 76 d_N_leg_71 (by decide) (by rw [hu2 m m20]; have := hN.2.2.2.1 m; omega) (by decide) (fun c71 => ?_) (fun c71 => ?_)
      · have h2' : ¬ otN la (some m) (6 * i + j) (6 * c) = 2 := by
          have e := otN_CT (m := m) hN (show 6 * i + j < 6 * c by omega)
          rw [← hu2 m m20] at e
          omega
        have hN2 := net_leg hN hi hj ho (fun m' q => by cases q; right; rw [← hu2 m m20]; exact c71)
        rcases hk : la (6 * i + j) with _ | k
        · rw [hk] at eB eC fin
          have b0 : f0_ none = 1 := rfl
          have b2 : f0_ (some m) = 0 := rfl
          have b1 : ∀ n, f1_ n none = 0 := fun n => rfl
          have b3 : f1_ m (some m) = 1 := if_pos rfl
          simp only [b1, Nat.add_zero] at eC
          rw [b0, b2] at eB
          have eB1 : 1 ≤ BR c pl la := by omega
          refine V_aload_n d_N_leg_76 rfl ?_
          refine V_iload d_N_leg_77 rfl ?_
          refine V_iconst (-1) d_N_leg_79 rfl ?_
          refine V_callV0 d_N_leg_80 ml_N_77 mB_N_countUse mi_N_countUse mv_N_countUse rfl hb (c_N_countUse0 l D _ _ hb (-1)) rfl rfl rfl rfl rfl rfl rfl ?_
          rintro _ _ ⟨rfl, rfl⟩
          refine V_aload_n d_N_leg_83 rfl ?_
          refine V_iload_n d_N_leg_84 rfl ?_
          refine V_iconst (1) d_N_leg_85 rfl ?_
          refine V_callV0 d_N_leg_86 ml_N_77 mB_N_countUse mi_N_countUse mv_N_countUse rfl hv_up_s (c_N_countUse1 l D _ _ hv_up_s ((hv_up_n (by omega)).trans hu) m20 1) rfl rfl rfl rfl rfl rfl rfl ?_
          rintro _ _ ⟨rfl, rfl⟩
          refine fin h2' hN2 _ (va_up u m (u m + 1)) ((hv_up_n (by omega)).trans (hv_up_s.trans (by rw [nI_dec eB1, show BR c pl la - 1 = BR c pl (va_up la (6 * i + j) (some m)) by omega]))) (hv_up_s.trans (by rw [nI_inc, eN_up])) (fun n hn => ?_) (fun q q1 q2 => (hv_up_n q2).trans (hv_up_n q1))
          have e := eC n
          by_cases z : n = m
          · subst z; rw [vu_s, hu2 n hn]; omega
          · rw [vu_n z, hu2 n hn]; have z1 : f1_ n (some m) = 0 := if_neg (fun w => z (Option.some.inj w).symm); omega
        · have k20 : k < 20 := hN.2.2.1 _ k (by omega) hk
          have km : ¬ m = k := fun w => c54 (by rw [w, hk])
          rw [hk] at eB eC fin
          have b0 : f0_ (some k) = 0 := rfl
          have b2 : f0_ (some m) = 0 := rfl
          have b3 : f1_ m (some m) = 1 := if_pos rfl
          have b4 : f1_ k (some k) = 1 := if_pos rfl
          have b5 : f1_ k (some m) = 0 := if_neg (fun w => km (Option.some.inj w))
          have ek := eC k
          rw [b4, b5] at ek
          rw [b0, b2] at eB
          have eB : BR c pl (va_up la (6 * i + j) (some m)) = BR c pl la := eB
          rw [eB] at fin
          refine V_aload_n d_N_leg_76 rfl ?_
          refine V_iload d_N_leg_77 rfl ?_
          refine V_iconst (-1) d_N_leg_79 rfl ?_
          refine V_callV0 d_N_leg_80 ml_N_77 mB_N_countUse mi_N_countUse mv_N_countUse rfl hb (c_N_countUse1 l D _ _ hb hu k20 (-1)) rfl rfl rfl rfl rfl rfl rfl ?_
          rintro _ _ ⟨rfl, rfl⟩
          refine V_aload_n d_N_leg_83 rfl ?_
          refine V_iload_n d_N_leg_84 rfl ?_
          refine V_iconst (1) d_N_leg_85 rfl ?_
          refine V_callV0 d_N_leg_86 ml_N_77 mB_N_countUse mi_N_countUse mv_N_countUse rfl ((hv_up_n (by omega)).trans hb) (c_N_countUse1 l D _ _ ((hv_up_n (by omega)).trans hb) hv_up_s m20 1) rfl rfl rfl rfl rfl rfl rfl ?_
          rintro _ _ ⟨rfl, rfl⟩
          refine fin h2' hN2 _ (va_up (va_up u k (u k - 1)) m (u m + 1)) ((hv_up_n (by omega)).trans ((hv_up_n (by omega)).trans hb)) (hv_up_s.trans (by rw [nI_dec (by rw [hu2 k k20]; omega), eN_up, show nI (va_up u k (u k - 1) m) + 1 = nI (u m + 1) by rw [vu_n km, nI_inc], eN_up])) (fun n hn => ?_) (fun q q1 q2 => (hv_up_n q2).trans (hv_up_n q2))
          have e := eC n
          by_cases z : n = m
          · subst z; rw [vu_s, hu2 n hn]; have z1 : f1_ n (some k) = 0 := if_neg (fun w => km (Option.some.inj w).symm); omega
          · rw [vu_n z]; have z1 : f1_ n (some m) = 0 := if_neg (fun w => z (Option.some.inj w).symm)
            by_cases z2 : n = k
            · subst z2; rw [vu_s, hu2 n hn]; omega
            · rw [vu_n z2, hu2 n hn]; have z3 : f1_ n (some k) = 0 := if_neg (fun w => z2 (Option.some.inj w).symm); omega
      · have h2' : otN la (some m) (6 * i + j) (6 * c) = 2 := by
          have e := otN_CT (m := m) hN (show 6 * i + j < 6 * c by omega)
          rw [show f1_ m (la (6 * i + j)) = 0 from if_neg (fun q => c54 q.symm), ← hu2 m m20] at e
          have := hN.2.2.2.1 m
          rw [← hu2 m m20] at this
          omega
        refine V_iconst (0) d_N_leg_74 rfl ?_
        exact V_zreturn d_N_leg_75 rfl rfl ⟨by rw [decide_eq_false (fun q => q h2')]; rfl, rfl, fun q x => rfl, by rw [if_pos h2']; exact ⟨wk, lk, cu, u, l0, cp, hb, hT, hu, hu2, hl0, hcp, hcpk, hW, hL, hlk, hG, hC, hN⟩⟩
  · have c54 : o = la (6 * i + j) := (en_inj ho (fun m q => hN.2.2.1 _ m (by omega) q)).mp c54
    have h2' : ¬ otN la o (6 * i + j) (6 * c) = 2 := by
      cases z : o with
      | none => rw [otN_none]; omega
      | some m =>
        have e := otN_CT (m := m) hN (show 6 * i + j < 6 * c by omega)
        rw [← c54, z, show f1_ m (some m) = 1 from if_pos rfl] at e
        have := hN.2.2.2.1 m
        omega
    have eL : (va_up la (6 * i + j) o) = la := by
      funext q
      unfold va_up
      split
      · rename_i w; rw [w, c54]
      · rfl
    refine V_iconst (1) d_N_leg_57 rfl ?_
    exact V_zreturn d_N_leg_58 rfl rfl ⟨by rw [decide_eq_true h2']; rfl, rfl, fun q x => rfl, by rw [if_neg h2', eL]; exact ⟨wk, lk, cu, u, l0, cp, hb, hT, hu, hu2, hl0, hcp, hcpk, hW, hL, hlk, hG, hC, hN⟩⟩
