-- THE ORDER OF LEAST COST, as a table of true costs
def LGn (l1 : Nat → Nat) (S : Nat) : Nat → Nat
  | 0 => 0
  | t + 1 => LGn l1 S t ^^^ (if S.testBit t = true then l1 t else 0)
abbrev LG (l1 : Nat → Nat) (S : Nat) : Nat := LGn l1 S 10
theorem xor4 (a b c d : Nat) : (a ^^^ b) ^^^ (c ^^^ d) = (a ^^^ c) ^^^ (b ^^^ d) := by
  rw [Nat.xor_assoc, Nat.xor_assoc, ← Nat.xor_assoc b c d, Nat.xor_comm b c, Nat.xor_assoc c b d]
theorem LGn_xor (l1 : Nat → Nat) (A B : Nat) : ∀ n, LGn l1 (A ^^^ B) n = LGn l1 A n ^^^ LGn l1 B n
  | 0 => by simp [LGn]
  | n + 1 => by
    simp only [LGn, LGn_xor l1 A B n, Nat.testBit_xor]
    rw [xor4]
    congr 1
    cases A.testBit n <;> cases B.testBit n <;> simp
theorem LGn_0 (l1 : Nat → Nat) : ∀ n, LGn l1 0 n = 0
  | 0 => rfl
  | n + 1 => by simp [LGn, LGn_0 l1 n]
theorem LGn_one (l1 : Nat → Nat) (t : Nat) : ∀ n, LGn l1 (2 ^ t) n = if t < n then l1 t else 0
  | 0 => rfl
  | n + 1 => by
    simp only [LGn, LGn_one l1 t n, Nat.testBit_two_pow]
    by_cases c : t = n
    · subst c; simp
    · by_cases d : t < n
      · simp [d, c, show t < n + 1 by omega]
      · simp [d, c, show ¬ t < n + 1 by omega]
theorem LG_step {l1 : Nat → Nat} {s : Nat} (h : s < 1024) (h0 : s ≠ 0) : LG l1 s = LG l1 (s &&& (s - 1)) ^^^ l1 (tzf 10 s) := by
  obtain ⟨-, z2, z3, z4, -, -⟩ := tz_all s h h0
  rw [z3] at z4
  have e : s = (s &&& (s - 1)) ^^^ 2 ^ tzf 10 s := by rw [← z4, ← Nat.xor_assoc, Nat.xor_comm (s &&& (s - 1)) s, Nat.xor_assoc, Nat.xor_self, Nat.xor_zero]
  conv => lhs; rw [e]
  rw [LG, LGn_xor, LGn_one, if_pos z2]
theorem LGn_lt {l1 : Nat → Nat} {S c : Nat} (hl : ∀ t, t < c → l1 t < 2 ^ 20) (hS : S < 2 ^ c) : ∀ n, LGn l1 S n < 2 ^ 20
  | 0 => Nat.two_pow_pos 20
  | n + 1 => by
    simp only [LGn]
    refine Nat.xor_lt_two_pow (LGn_lt hl hS n) ?_
    split
    · rename_i q
      refine hl n ?_
      rcases Nat.lt_or_ge n c with z | z
      · exact z
      · rw [Nat.testBit_lt_two_pow (Nat.lt_of_lt_of_le hS (Nat.pow_le_pow_right (by decide) z))] at q
        cases q
    · exact Nat.two_pow_pos 20
/-- a part x of the rest r of s: the two parts of s -/
theorem part_facts {s x : Nat} (h : s < 1024) (h0 : s ≠ 0) (hx : x &&& (s &&& (s - 1)) = x) (hlt : x < s &&& (s - 1)) :
    (2 ^ tzf 10 s ||| x) ^^^ ((s &&& (s - 1)) ^^^ x) = s ∧ (2 ^ tzf 10 s ||| x) &&& s = 2 ^ tzf 10 s ||| x ∧ 0 < 2 ^ tzf 10 s ||| x ∧ 2 ^ tzf 10 s ||| x < s ∧ 0 < (s &&& (s - 1)) ^^^ x ∧ (s &&& (s - 1)) ^^^ x < s ∧ s ^^^ (2 ^ tzf 10 s ||| x) = (s &&& (s - 1)) ^^^ x := by
  obtain ⟨-, z2, z3, z4, z5, z6⟩ := tz_all s h h0
  rw [z3] at z4
  generalize s &&& (s - 1) = r at *
  generalize hp : 2 ^ tzf 10 s = p at *
  have dis : ∀ i, ¬ (p.testBit i = true ∧ r.testBit i = true) := by
    intro i hi
    have e1 : (s ^^^ r).testBit i = p.testBit i := by rw [z4]
    rw [← z3, Nat.testBit_xor, Nat.testBit_or] at e1
    rw [hi.1, hi.2] at e1
    cases e1
  have xr := sub_add hx
  have ox : p ||| x = p + x := by
    refine or_add p p x Nat.lt_two_pow_self ?_
    apply Nat.eq_of_testBit_eq
    intro i
    have d := dis i
    have b := sub_bits hx i
    simp only [Nat.testBit_and, Nat.zero_testBit]
    cases h1 : p.testBit i <;> cases h2 : x.testBit i <;> simp_all
  have os : p ||| r = p + r := by
    refine or_add p p r Nat.lt_two_pow_self ?_
    apply Nat.eq_of_testBit_eq
    intro i
    have d := dis i
    simp only [Nat.testBit_and, Nat.zero_testBit]
    cases h1 : p.testBit i <;> cases h2 : r.testBit i <;> simp_all
  have e1 : (p ||| x) ^^^ (r ^^^ x) = s := by
    rw [← z3]
    apply Nat.eq_of_testBit_eq
    intro i
    have d := dis i
    have b := sub_bits hx i
    simp only [Nat.testBit_xor, Nat.testBit_or]
    cases h1 : p.testBit i <;> cases h2 : x.testBit i <;> cases h3 : r.testBit i <;> simp_all
  have pp : 0 < p := by rw [← hp]; exact Nat.two_pow_pos _
  refine ⟨e1, ?_, by omega, by omega, by omega, by omega, ?_⟩
  · rw [← z3]
    refine sub_of_bits (fun i hi => ?_)
    have b := sub_bits hx i
    simp only [Nat.testBit_or] at hi ⊢
    cases h1 : p.testBit i <;> cases h2 : x.testBit i <;> simp_all
  · rw [← e1, Nat.xor_comm (p ||| x) (r ^^^ x), Nat.xor_assoc, Nat.xor_self, Nat.xor_zero]
/-- a part's value: what both cost, and the join -/
def vx (lg co : Nat → Nat) (ls r x : Nat) : Nat := co (ls ||| x) + co (r ^^^ x) + 2 ^ pc_ (lg (ls ||| x) ||| lg (r ^^^ x))
theorem ptF_s (lg co : Nat → Nat) (ls r : Nat) (st : Nat × Nat) (x : Nat) : ptF lg co ls r st (x + 1) = if x &&& r = x then (if vx lg co ls r x < (ptF lg co ls r st x).1 then (vx lg co ls r x, ls ||| x) else ptF lg co ls r st x) else ptF lg co ls r st x := rfl
theorem ptF_congr {lg co lg' co' : Nat → Nat} {ls r : Nat} {st : Nat × Nat} : ∀ X, (∀ x, x < X → x &&& r = x → vx lg co ls r x = vx lg' co' ls r x) → ptF lg co ls r st X = ptF lg' co' ls r st X
  | 0, _ => rfl
  | X + 1, h => by
    have ih := ptF_congr (st := st) X (fun x hx => h x (by omega))
    rw [ptF_s, ptF_s, ih]
    split
    · rename_i q
      rw [h X (by omega) q]
    · rfl
/-- what came out: a part's value, or nothing was less -/
theorem ptF_of {lg co : Nat → Nat} {ls r B f : Nat} : ∀ X, (∃ x, x < X ∧ x &&& r = x ∧ ptF lg co ls r (B, f) X = (vx lg co ls r x, ls ||| x) ∧ vx lg co ls r x < B) ∨ ptF lg co ls r (B, f) X = (B, f)
  | 0 => Or.inr rfl
  | X + 1 => by
    have ih := ptF_of (lg := lg) (co := co) (ls := ls) (r := r) (B := B) (f := f) X
    rw [ptF_s]
    split
    · rename_i q
      split
      · rename_i c
        exact Or.inl ⟨X, by omega, q, rfl, Nat.lt_of_lt_of_le c (ptF_le X)⟩
      · rcases ih with ⟨x, h1, h2, h3⟩ | h
        · exact Or.inl ⟨x, by omega, h2, h3⟩
        · exact Or.inr h
    · rcases ih with ⟨x, h1, h2, h3⟩ | h
      · exact Or.inl ⟨x, by omega, h2, h3⟩
      · exact Or.inr h
theorem ptF_low {lg co : Nat → Nat} {ls r B f : Nat} : ∀ X x, x < X → x &&& r = x → (ptF lg co ls r (B, f) X).1 ≤ vx lg co ls r x
  | 0, x, h, _ => by omega
  | X + 1, x, h, q => by
    rw [ptF_s]
    by_cases e : x = X
    · subst e
      rw [if_pos q]
      split
      · exact Nat.le_refl _
      · omega
    · have ih := ptF_low (lg := lg) (co := co) (ls := ls) (B := B) (f := f) X x (by omega) q
      split
      · split
        · show vx _ _ _ _ _ ≤ _; omega
        · exact ih
      · exact ih
abbrev gt2 : Type := (Nat → Nat) × (Nat → Nat)
def trS (l1 : Nat → Nat) (st : gt2) (s : Nat) : gt2 :=
  if s &&& (s - 1) = 0 then (va_up st.1 s 0, va_up st.2 s 0)
  else (va_up st.1 s (ptF (LG l1) st.1 (2 ^ tzf 10 s) (s &&& (s - 1)) (2 ^ 30, 0) (s &&& (s - 1))).1, va_up st.2 s (ptF (LG l1) st.1 (2 ^ tzf 10 s) (s &&& (s - 1)) (2 ^ 30, 0) (s &&& (s - 1))).2)
def trF (l1 : Nat → Nat) : Nat → gt2
  | 0 => (fun _ => 0, fun _ => 0)
  | s + 1 => if s = 0 then (fun _ => 0, fun _ => 0) else trS l1 (trF l1 s) s
/-- the true cost of a set, and its first part -/
def CO (l1 : Nat → Nat) (s : Nat) : Nat := (trF l1 (s + 1)).1 s
def FI (l1 : Nat → Nat) (s : Nat) : Nat := (trF l1 (s + 1)).2 s
theorem trF_keep {l1 : Nat → Nat} {s : Nat} : ∀ k, (trF l1 (s + 1 + k)).1 s = CO l1 s ∧ (trF l1 (s + 1 + k)).2 s = FI l1 s
  | 0 => ⟨rfl, rfl⟩
  | k + 1 => by
    have ih := trF_keep (l1 := l1) (s := s) k
    have e : trF l1 (s + 1 + (k + 1)) = trS l1 (trF l1 (s + 1 + k)) (s + 1 + k) := by show (if s + 1 + k = 0 then _ else _) = _; rw [if_neg (by omega)]; rfl
    rw [e]
    unfold trS
    split <;> simp only [va_up, if_neg (show ¬ s = s + 1 + k by omega)] <;> exact ih
theorem trF_at {l1 : Nat → Nat} {s n : Nat} (h : s < n) : (trF l1 n).1 s = CO l1 s ∧ (trF l1 n).2 s = FI l1 s := by
  have := trF_keep (l1 := l1) (s := s) (n - (s + 1))
  rw [show s + 1 + (n - (s + 1)) = n by omega] at this
  exact this
theorem CO_one {l1 : Nat → Nat} {s : Nat} (h0 : s ≠ 0) (h : s &&& (s - 1) = 0) : CO l1 s = 0 ∧ FI l1 s = 0 := by
  have e : trF l1 (s + 1) = trS l1 (trF l1 s) s := by show (if s = 0 then _ else _) = _; rw [if_neg h0]
  unfold CO FI
  rw [e]
  unfold trS
  rw [if_pos h]
  simp [va_up]
theorem CO_eq {l1 : Nat → Nat} {s : Nat} (hs : s < 1024) (h0 : s ≠ 0) (h : ¬ s &&& (s - 1) = 0) : (CO l1 s, FI l1 s) = ptF (LG l1) (CO l1) (2 ^ tzf 10 s) (s &&& (s - 1)) (2 ^ 30, 0) (s &&& (s - 1)) := by
  have e : trF l1 (s + 1) = trS l1 (trF l1 s) s := by show (if s = 0 then _ else _) = _; rw [if_neg h0]
  have e2 : ptF (LG l1) (trF l1 s).1 (2 ^ tzf 10 s) (s &&& (s - 1)) (2 ^ 30, 0) (s &&& (s - 1)) = ptF (LG l1) (CO l1) (2 ^ tzf 10 s) (s &&& (s - 1)) (2 ^ 30, 0) (s &&& (s - 1)) := by
    refine ptF_congr _ (fun x hx hq => ?_)
    obtain ⟨-, -, -, p4, -, p6, -⟩ := part_facts hs h0 hq hx
    unfold vx
    rw [(trF_at p4).1, (trF_at p6).1]
  have e3 : CO l1 s = (ptF (LG l1) (trF l1 s).1 (2 ^ tzf 10 s) (s &&& (s - 1)) (2 ^ 30, 0) (s &&& (s - 1))).1 := by
    unfold CO; rw [e]; unfold trS; rw [if_neg h]; simp [va_up]
  have e4 : FI l1 s = (ptF (LG l1) (trF l1 s).1 (2 ^ tzf 10 s) (s &&& (s - 1)) (2 ^ 30, 0) (s &&& (s - 1))).2 := by
    unfold FI; rw [e]; unfold trS; rw [if_neg h]; simp [va_up]
  rw [e3, e4, e2]
theorem CO_le {l1 : Nat → Nat} {c : Nat} (hl : ∀ t, t < c → l1 t < 2 ^ 20) (hc : c ≤ 10) : ∀ s, s ≠ 0 → s < 2 ^ c → CO l1 s ≤ pc_ s * 2 ^ 20 := by
  intro s
  induction s using Nat.strongRecOn with
  | ind s ih =>
    intro h0 hs
    have h10 : (2 : Nat) ^ c ≤ 2 ^ 10 := Nat.pow_le_pow_right (by decide) hc
    by_cases h : s &&& (s - 1) = 0
    · rw [(CO_one h0 h).1]; omega
    · have e := CO_eq (l1 := l1) (by omega) h0 h
      have low := ptF_low (lg := LG l1) (co := CO l1) (ls := 2 ^ tzf 10 s) (r := s &&& (s - 1)) (B := 2 ^ 30) (f := 0) (s &&& (s - 1)) 0 (by omega) (Nat.zero_and _)
      rw [← e] at low
      have low : CO l1 s ≤ vx (LG l1) (CO l1) (2 ^ tzf 10 s) (s &&& (s - 1)) 0 := low
      obtain ⟨p1, p2, p3, p4, p5, p6, p7⟩ := part_facts (s := s) (x := 0) (by omega) h0 (Nat.zero_and _) (by omega)
      unfold vx at low
      simp only [Nat.or_zero, Nat.xor_zero] at low p1 p2 p3 p4 p5 p6 p7
      have tt := tz_all s (by omega) h0
      have b1 := ih _ p4 (by omega) (by omega)
      have b2 := ih _ p6 (by omega) (by omega)
      have b3 : 2 ^ pc_ (LG l1 (2 ^ tzf 10 s) ||| LG l1 (s &&& (s - 1))) ≤ 1048576 := (two20 (Nat.or_lt_two_pow (LGn_lt hl (show 2 ^ tzf 10 s < 2 ^ c by omega) 10) (LGn_lt hl (show s &&& (s - 1) < 2 ^ c by omega) 10))).2
      have pcs := pc_part p2
      rw [p7] at pcs
      have pc1 : 1 ≤ pc_ (2 ^ tzf 10 s) := pc_pos _ (by omega) (by omega)
      have z : CO l1 (2 ^ tzf 10 s) = 0 := by
        refine (CO_one (by omega) ?_).1
        have : ∀ t, t < 10 → 2 ^ t &&& (2 ^ t - 1) = 0 := by decide
        exact this _ tt.2.1
      have : (pc_ (2 ^ tzf 10 s) + pc_ (s &&& (s - 1))) * 2 ^ 20 = pc_ s * 2 ^ 20 := by rw [pcs]
      omega
