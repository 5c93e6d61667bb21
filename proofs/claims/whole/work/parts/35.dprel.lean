-- THE CLASS's TABLE against the true one
theorem vx_ge {l1 co : Nat → Nat} {s x : Nat} (h : s < 1024) (h0 : s ≠ 0) (hx : x &&& (s &&& (s - 1)) = x) (hlt : x < s &&& (s - 1)) : 2 ^ pc_ (LG l1 s) ≤ vx (LG l1) co (2 ^ tzf 10 s) (s &&& (s - 1)) x := by
  obtain ⟨p1, -⟩ := part_facts h h0 hx hlt
  have e : LG l1 s = LG l1 (2 ^ tzf 10 s ||| x) ^^^ LG l1 ((s &&& (s - 1)) ^^^ x) := by conv => lhs; rw [← p1]; rw [LG, LGn_xor]
  have m : pc_ (LG l1 s) ≤ pc_ (LG l1 (2 ^ tzf 10 s ||| x) ||| LG l1 ((s &&& (s - 1)) ^^^ x)) := by
    refine pc_n_mono (fun i hi => ?_) 32
    rw [e, Nat.testBit_xor] at hi
    rw [Nat.testBit_or]
    cases h1 : (LG l1 (2 ^ tzf 10 s ||| x)).testBit i <;> cases h2 : (LG l1 ((s &&& (s - 1)) ^^^ x)).testBit i <;> simp_all
  have := Nat.pow_le_pow_right (n := 2) (by decide) m
  have pJ := Nat.two_pow_pos (pc_ (LG l1 s))
  unfold vx
  omega
theorem CO_ge {l1 : Nat → Nat} {s c : Nat} (hl : ∀ t, t < c → l1 t < 2 ^ 20) (hc : c ≤ 10) (h : s < 2 ^ c) (h0 : s ≠ 0) (hn : ¬ s &&& (s - 1) = 0) : ∃ x, x < s &&& (s - 1) ∧ x &&& (s &&& (s - 1)) = x ∧ CO l1 s = vx (LG l1) (CO l1) (2 ^ tzf 10 s) (s &&& (s - 1)) x ∧ FI l1 s = 2 ^ tzf 10 s ||| x ∧ 2 ^ pc_ (LG l1 s) ≤ CO l1 s := by
  have h10 : (2 : Nat) ^ c ≤ 2 ^ 10 := Nat.pow_le_pow_right (by decide) hc
  have e := CO_eq (l1 := l1) (by omega) h0 hn
  have up := CO_le hl hc s h0 h
  have p32 : pc_ s ≤ 32 := pc_n_le s 32
  rcases ptF_of (lg := LG l1) (co := CO l1) (ls := 2 ^ tzf 10 s) (r := s &&& (s - 1)) (B := 2 ^ 30) (f := 0) (s &&& (s - 1)) with ⟨x, h1, h2, h3, h4⟩ | h3
  · rw [h3] at e
    have e1 : CO l1 s = vx (LG l1) (CO l1) (2 ^ tzf 10 s) (s &&& (s - 1)) x := congrArg Prod.fst e
    have e2 : FI l1 s = 2 ^ tzf 10 s ||| x := congrArg Prod.snd e
    exact ⟨x, h1, h2, e1, e2, by rw [e1]; exact vx_ge (by omega) h0 h2 h1⟩
  · rw [h3] at e
    have e1 : CO l1 s = 2 ^ 30 := congrArg Prod.fst e
    have : pc_ s * 2 ^ 20 < 2 ^ 30 := by
      have : s < 2 ^ 10 := by omega
      have := pc_n_lt this 22
      have h10' := pc_n_le s 10
      have : pc_ s ≤ 10 := by show pc_n s 32 ≤ 10; omega
      omega
    omega
/-- how the class's entry of s stands to the true one -/
def clR (l1 : Nat → Nat) (al bd : Nat) (st : gt3) (s : Nat) : Prop := st.1 s = LG l1 s ∧ ((st.2.1 s = CO l1 s ∧ CO l1 s ≤ bd ∧ (¬ s &&& (s - 1) = 0 → st.2.2 s = FI l1 s)) ∨ (st.2.1 s = bd + 1 ∧ (bd < CO l1 s ∨ (s ≠ al ∧ ¬ s &&& (s - 1) = 0 ∧ bd < 2 * 2 ^ pc_ (LG l1 s)))))
theorem part_val {l1 : Nat → Nat} {al bd c s x : Nat} {st : gt3} (hl : ∀ t, t < c → l1 t < 2 ^ 20) (hc : c ≤ 10) (h : s < 2 ^ c) (h0 : s ≠ 0) (hR : ∀ q, 1 ≤ q → q < s → clR l1 al bd st q) (lg : Nat → Nat) (hlg : ∀ q, 1 ≤ q → q < s → lg q = LG l1 q) (hx : x &&& (s &&& (s - 1)) = x) (hlt : x < s &&& (s - 1)) :
    (vx (LG l1) (CO l1) (2 ^ tzf 10 s) (s &&& (s - 1)) x ≤ bd → vx lg st.2.1 (2 ^ tzf 10 s) (s &&& (s - 1)) x = vx (LG l1) (CO l1) (2 ^ tzf 10 s) (s &&& (s - 1)) x) ∧
    (bd < vx (LG l1) (CO l1) (2 ^ tzf 10 s) (s &&& (s - 1)) x → bd < vx lg st.2.1 (2 ^ tzf 10 s) (s &&& (s - 1)) x) := by
  have h10 : (2 : Nat) ^ c ≤ 2 ^ 10 := Nat.pow_le_pow_right (by decide) hc
  obtain ⟨p1, p2, p3, p4, p5, p6, p7⟩ := part_facts (by omega) h0 hx hlt
  have rA := hR _ p3 p4
  have rB := hR _ p5 p6
  have gA := hlg _ p3 p4
  have gB := hlg _ p5 p6
  unfold vx
  rw [gA, gB]
  generalize 2 ^ tzf 10 s ||| x = A at *
  generalize (s &&& (s - 1)) ^^^ x = B at *
  have mA : 2 ^ pc_ (LG l1 A) ≤ 2 ^ pc_ (LG l1 A ||| LG l1 B) := Nat.pow_le_pow_right (by decide) (pc_n_mono (fun i hi => by rw [Nat.testBit_or, hi]; rfl) 32)
  have mB : 2 ^ pc_ (LG l1 B) ≤ 2 ^ pc_ (LG l1 A ||| LG l1 B) := Nat.pow_le_pow_right (by decide) (pc_n_mono (fun i hi => by rw [Nat.testBit_or, hi]; simp) 32)
  have pJ := Nat.two_pow_pos (pc_ (LG l1 A ||| LG l1 B))
  have good : ∀ q, 1 ≤ q → q < s → clR l1 al bd st q → CO l1 q + 2 ^ pc_ (LG l1 q) ≤ bd → st.2.1 q = CO l1 q := by
    intro q q1 q2 r hq
    have pq := Nat.two_pow_pos (pc_ (LG l1 q))
    rcases r.2 with z | ⟨-, z | ⟨-, z2, z3⟩⟩
    · exact z.1
    · omega
    · obtain ⟨-, -, -, -, -, g⟩ := CO_ge hl hc (show q < 2 ^ c by omega) (by omega) z2
      omega
  constructor
  · intro hb
    rw [good A p3 p4 rA (by omega), good B p5 p6 rB (by omega)]
  · intro hb
    rcases rA.2 with a | a
    · rcases rB.2 with b | b
      · rw [a.1, b.1]; exact hb
      · rw [b.1]; omega
    · rw [a.1]; omega
theorem fold_rel {lg co lg' co' : Nat → Nat} {ls r bd : Nat} : ∀ X, (∀ x, x < X → x &&& r = x → (vx lg' co' ls r x ≤ bd → vx lg co ls r x = vx lg' co' ls r x) ∧ (bd < vx lg' co' ls r x → bd < vx lg co ls r x)) → bd < 2 ^ 30 →
    ((ptF lg' co' ls r (2 ^ 30, 0) X).1 ≤ bd ∧ ptF lg co ls r (bd + 1, ls) X = ptF lg' co' ls r (2 ^ 30, 0) X) ∨ (bd < (ptF lg' co' ls r (2 ^ 30, 0) X).1 ∧ ptF lg co ls r (bd + 1, ls) X = (bd + 1, ls))
  | 0, _, hb => Or.inr ⟨hb, rfl⟩
  | X + 1, h, hb => by
    have ih := fold_rel X (fun x hx => h x (by omega)) hb
    rw [ptF_s, ptF_s]
    by_cases q : X &&& r = X
    · rw [if_pos q, if_pos q]
      obtain ⟨k1, k2⟩ := h X (by omega) q
      rcases ih with ⟨i1, i2⟩ | ⟨i1, i2⟩
      · rw [i2]
        by_cases c : vx lg' co' ls r X ≤ bd
        · rw [k1 c]
          split
          · exact Or.inl ⟨c, rfl⟩
          · exact Or.inl ⟨i1, rfl⟩
        · have := k2 (by omega)
          rw [if_neg (by omega), if_neg (by omega)]
          exact Or.inl ⟨i1, rfl⟩
      · rw [i2]
        by_cases c : vx lg' co' ls r X ≤ bd
        · have u1 : vx lg' co' ls r X < (ptF lg' co' ls r (2 ^ 30, 0) X).1 := by omega
          have u2 : vx lg co ls r X < (bd + 1, ls).1 := by show vx lg co ls r X < bd + 1; rw [k1 c]; omega
          rw [if_pos u1, if_pos u2, k1 c]
          exact Or.inl ⟨c, rfl⟩
        · have := k2 (by omega)
          have u2 : ¬ vx lg co ls r X < (bd + 1, ls).1 := by show ¬ vx lg co ls r X < bd + 1; omega
          rw [if_neg u2]
          refine Or.inr ⟨?_, rfl⟩
          split
          · show bd < vx _ _ _ _ _; omega
          · exact i1
    · rw [if_neg q, if_neg q]
      exact ih
theorem cl_all {l1 : Nat → Nat} {al bd c : Nat} {st0 : gt3} (hl : ∀ t, t < c → l1 t < 2 ^ 20) (hc : c ≤ 10) (hal : al = 2 ^ c - 1) (hbd : bd < 2 ^ 30) (hz : st0.1 0 = 0) : ∀ n, n ≤ al + 1 → (fdF l1 al bd st0 n).1 0 = 0 ∧ ∀ q, 1 ≤ q → q < n → clR l1 al bd (fdF l1 al bd st0 n) q
  | 0, _ => ⟨hz, fun q h1 h2 => by omega⟩
  | s + 1, hs => by
    have h10 : (2 : Nat) ^ c ≤ 2 ^ 10 := Nat.pow_le_pow_right (by decide) hc
    have hp := Nat.two_pow_pos c
    obtain ⟨ih0, ih⟩ := cl_all hl hc hal hbd hz s (by omega)
    by_cases h0 : s = 0
    · subst h0
      exact ⟨hz, fun q h1 h2 => by omega⟩
    · have e : fdF l1 al bd st0 (s + 1) = fdS l1 al bd (fdF l1 al bd st0 s) s := by show (if s = 0 then _ else _) = _; rw [if_neg h0]
      rw [e]
      generalize fdF l1 al bd st0 s = st at ih ih0 ⊢
      have hs1 : s < 1024 := by omega
      obtain ⟨z1, z2, z3, z4, z5, z6⟩ := tz_all s hs1 h0
      have hr : st.1 (s &&& (s - 1)) = LG l1 (s &&& (s - 1)) := by
        rcases Nat.eq_zero_or_pos (s &&& (s - 1)) with q | q
        · rw [q, ih0]; exact (LGn_0 l1 10).symm
        · exact (ih _ q z5).1
      have hx : st.1 (s &&& (s - 1)) ^^^ l1 (tzf 10 s) = LG l1 s := by rw [hr, ← LG_step hs1 h0]
      have keep : ∀ (co fi : Nat → Nat), (∀ q, q ≠ s → co q = st.2.1 q) → (∀ q, q ≠ s → fi q = st.2.2 q) → clR l1 al bd (va_up st.1 s (LG l1 s), co, fi) s → (va_up st.1 s (LG l1 s)) 0 = 0 ∧ ∀ q, 1 ≤ q → q < s + 1 → clR l1 al bd (va_up st.1 s (LG l1 s), co, fi) q := by
        intro co fi h1 h2 h3
        refine ⟨by simp only [va_up]; rw [if_neg (by omega)]; exact ih0, fun q q1 q2 => ?_⟩
        by_cases c1 : q = s
        · rw [c1]; exact h3
        · have := ih q q1 (by omega)
          unfold clR at this ⊢
          simp only [va_up, if_neg c1, h1 q c1, h2 q c1]
          exact this
      unfold fdS
      rw [hx]
      split
      · rename_i c1
        refine keep _ _ (fun q hq => by simp [va_up, hq]) (fun q hq => rfl) ?_
        refine ⟨by simp [va_up], Or.inl ⟨?_, ?_, fun z => absurd c1 z⟩⟩
        · simp [va_up, (CO_one (l1 := l1) h0 c1).1]
        · rw [(CO_one (l1 := l1) h0 c1).1]; omega
      · rename_i c1
        split
        · rename_i c2
          refine keep _ _ (fun q hq => by simp [va_up, hq]) (fun q hq => rfl) ?_
          exact ⟨by simp [va_up], Or.inr ⟨by simp [va_up], Or.inr ⟨c2.1, c1, c2.2⟩⟩⟩
        · refine keep _ _ (fun q hq => by simp [va_up, hq]) (fun q hq => by simp [va_up, hq]) ?_
          have fr := fold_rel (lg := va_up st.1 s (LG l1 s)) (co := st.2.1) (lg' := LG l1) (co' := CO l1) (ls := 2 ^ tzf 10 s) (r := s &&& (s - 1)) (bd := bd) (s &&& (s - 1)) (fun x hx1 hx2 => part_val hl hc (by omega) h0 ih _ (fun q q1 q2 => by simp only [va_up]; rw [if_neg (by omega)]; exact (ih q q1 q2).1) hx2 hx1) hbd
          rw [← CO_eq hs1 h0 c1] at fr
          refine ⟨by simp [va_up], ?_⟩
          rcases fr with ⟨f1, f2⟩ | ⟨f1, f2⟩
          · refine Or.inl ⟨?_, f1, fun _ => ?_⟩ <;> simp [va_up, f2]
          · refine Or.inr ⟨?_, Or.inl f1⟩
            simp [va_up, f2]
/-- the tree of the class's table is the true one, where that costs at most the bound -/
theorem cl_tree {l1 : Nat → Nat} {al bd c : Nat} {st : gt3} (hl : ∀ t, t < c → l1 t < 2 ^ 20) (hc : c ≤ 10) (hal : al = 2 ^ c - 1) (hR : ∀ q, 1 ≤ q → q ≤ al → clR l1 al bd st q) : ∀ n S, pc_ S ≤ n → S ≠ 0 → S ≤ al → st.2.1 S = CO l1 S → CO l1 S ≤ bd → gd st.2.2 n S ∧ pv st.2.2 n S = pv (FI l1) n S ∧ gd (FI l1) n S
  | 0, S, hn, h0, hS, _, _ => by
    have h10 : (2 : Nat) ^ c ≤ 2 ^ 10 := Nat.pow_le_pow_right (by decide) hc
    have := pc_pos S (by omega) h0
    omega
  | n + 1, S, hn, h0, hS, hco, hb => by
    have h10 : (2 : Nat) ^ c ≤ 2 ^ 10 := Nat.pow_le_pow_right (by decide) hc
    have hp := Nat.two_pow_pos c
    by_cases h1 : S &&& (S - 1) = 0
    · refine ⟨⟨⟨h0, by omega⟩, Or.inl h1⟩, ?_, ⟨⟨h0, by omega⟩, Or.inl h1⟩⟩
      show (if _ then _ else _) = (if _ then _ else _)
      rw [if_pos h1, if_pos h1]
    · have hfi : st.2.2 S = FI l1 S := by
        rcases (hR S (by omega) hS).2 with z | ⟨z, -⟩
        · exact z.2.2 h1
        · omega
      obtain ⟨x, x1, x2, x3, x4, x5⟩ := CO_ge hl hc (show S < 2 ^ c by omega) h0 h1
      obtain ⟨p1, p2, p3, p4, p5, p6, p7⟩ := part_facts (by omega) h0 x2 x1
      have hv := x3
      unfold vx at hv
      have pcs := pc_part p2
      rw [p7] at pcs
      rw [← x4] at hv p1 p2 p3 p4 p7 pcs
      rw [← p7] at hv p1 p5 p6 pcs
      have mA : 2 ^ pc_ (LG l1 (FI l1 S)) ≤ 2 ^ pc_ (LG l1 (FI l1 S) ||| LG l1 (S ^^^ FI l1 S)) := Nat.pow_le_pow_right (by decide) (pc_n_mono (fun i hi => by rw [Nat.testBit_or, hi]; rfl) 32)
      have mB : 2 ^ pc_ (LG l1 (S ^^^ FI l1 S)) ≤ 2 ^ pc_ (LG l1 (FI l1 S) ||| LG l1 (S ^^^ FI l1 S)) := Nat.pow_le_pow_right (by decide) (pc_n_mono (fun i hi => by rw [Nat.testBit_or, hi]; simp) 32)
      have pJ := Nat.two_pow_pos (pc_ (LG l1 (FI l1 S) ||| LG l1 (S ^^^ FI l1 S)))
      have pA := pc_pos (FI l1 S) (by omega) (by omega)
      have pB := pc_pos (S ^^^ FI l1 S) (by omega) (by omega)
      have good : ∀ q, 1 ≤ q → q < S → CO l1 q + 2 ^ pc_ (LG l1 q) ≤ bd → st.2.1 q = CO l1 q := by
        intro q q1 q2 hq
        have pq := Nat.two_pow_pos (pc_ (LG l1 q))
        rcases (hR q q1 (by omega)).2 with z | ⟨-, z | ⟨-, z2, z3⟩⟩
        · exact z.1
        · omega
        · obtain ⟨-, -, -, -, -, g⟩ := CO_ge hl hc (show q < 2 ^ c by omega) (by omega) z2
          omega
      obtain ⟨a1, a2, a3⟩ := cl_tree hl hc hal hR n (FI l1 S) (by omega) (by omega) (by omega) (good _ (by omega) p4 (by omega)) (by omega)
      obtain ⟨b1, b2, b3⟩ := cl_tree hl hc hal hR n (S ^^^ FI l1 S) (by omega) (by omega) (by omega) (good _ (by omega) p6 (by omega)) (by omega)
      refine ⟨⟨⟨h0, by omega⟩, Or.inr ?_⟩, ?_, ⟨⟨h0, by omega⟩, Or.inr ⟨⟨p2, by omega, by omega⟩, a3, b3⟩⟩⟩
      · rw [hfi]; exact ⟨⟨p2, by omega, by omega⟩, a1, b1⟩
      · show (if _ then _ else _) = (if _ then _ else _)
        rw [if_neg h1, if_neg h1, hfi, a2, b2]
