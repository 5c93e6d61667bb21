-- FIND: the table of all sets
def tzf : Nat → Nat → Nat
  | 0, _ => 0
  | n + 1, s => if s % 2 = 1 then 0 else tzf n (s / 2) + 1
theorem tz_all : ∀ s, s < 1024 → s ≠ 0 → s % 2 ^ (tzf 10 s + 1) = 2 ^ tzf 10 s ∧ tzf 10 s < 10 ∧ 2 ^ tzf 10 s ||| (s &&& (s - 1)) = s ∧ (2 ^ tzf 10 s ||| (s &&& (s - 1))) ^^^ (s &&& (s - 1)) = 2 ^ tzf 10 s ∧ (s &&& (s - 1)) < s ∧ 2 ^ tzf 10 s ≤ s := by decide +kernel
abbrev gt3 : Type := (Nat → Nat) × (Nat → Nat) × (Nat → Nat)
def fdS (l1 : Nat → Nat) (al bd : Nat) (st : gt3) (s : Nat) : gt3 :=
  if s &&& (s - 1) = 0 then (va_up st.1 s (st.1 (s &&& (s - 1)) ^^^ l1 (tzf 10 s)), va_up st.2.1 s 0, st.2.2)
  else if s ≠ al ∧ bd < 2 * 2 ^ pc_ (st.1 (s &&& (s - 1)) ^^^ l1 (tzf 10 s)) then (va_up st.1 s (st.1 (s &&& (s - 1)) ^^^ l1 (tzf 10 s)), va_up st.2.1 s (bd + 1), st.2.2)
  else (va_up st.1 s (st.1 (s &&& (s - 1)) ^^^ l1 (tzf 10 s)), va_up st.2.1 s (ptF (va_up st.1 s (st.1 (s &&& (s - 1)) ^^^ l1 (tzf 10 s))) st.2.1 (2 ^ tzf 10 s) (s &&& (s - 1)) (bd + 1, 2 ^ tzf 10 s) (s &&& (s - 1))).1, va_up st.2.2 s (ptF (va_up st.1 s (st.1 (s &&& (s - 1)) ^^^ l1 (tzf 10 s))) st.2.1 (2 ^ tzf 10 s) (s &&& (s - 1)) (bd + 1, 2 ^ tzf 10 s) (s &&& (s - 1))).2)
def fdF (l1 : Nat → Nat) (al bd : Nat) (st : gt3) : Nat → gt3
  | 0 => st
  | s + 1 => if s = 0 then st else fdS l1 al bd (fdF l1 al bd st s) s
def fdOk (st : gt3) : Prop := ∀ s, s < 1024 → st.1 s < 2 ^ 20 ∧ st.2.1 s ≤ 2 ^ 26
theorem ptF_le {lg co : Nat → Nat} {ls r B : Nat} {f : Nat} : ∀ x, (ptF lg co ls r (B, f) x).1 ≤ B
  | 0 => Nat.le_refl _
  | x + 1 => by
    have ih := ptF_le (lg := lg) (co := co) (ls := ls) (r := r) (B := B) (f := f) x
    show (if x &&& r = x then _ else _ : Nat × Nat).1 ≤ _
    split
    · unfold ptS; split
      · show _ ≤ B; omega
      · exact ih
    · exact ih
theorem tz_lt {s c : Nat} (h0 : s ≠ 0) (hc : c ≤ 10) (h : s < 2 ^ c) : tzf 10 s < c := by
  have h1 : s < 1024 := Nat.lt_of_lt_of_le h (Nat.pow_le_pow_right (by decide) hc)
  have := (tz_all s h1 h0).2.2.2.2.2
  rcases Nat.lt_or_ge (tzf 10 s) c with q | q
  · exact q
  · have := Nat.pow_le_pow_right (n := 2) (by decide) q
    omega
theorem fdOk_s {l1 : Nat → Nat} {al bd : Nat} {st : gt3} {s : Nat} (h : fdOk st) (hl : l1 (tzf 10 s) < 2 ^ 20) (hr : s &&& (s - 1) < 1024) (hbd : bd < 2 ^ 26) : fdOk (fdS l1 al bd st s) := by
  have hx := Nat.xor_lt_two_pow (h _ hr).1 hl
  have up : ∀ (f : Nat → Nat) (x y B : Nat), (∀ q, q < 1024 → f q ≤ B) → y ≤ B → ∀ q, q < 1024 → va_up f x y q ≤ B := by
    intro f x y B h1 h2 q hq
    unfold va_up
    split
    · exact h2
    · exact h1 q hq
  have up2 : ∀ (f : Nat → Nat) (x y B : Nat), (∀ q, q < 1024 → f q < B) → y < B → ∀ q, q < 1024 → va_up f x y q < B := by
    intro f x y B h1 h2 q hq
    unfold va_up
    split
    · exact h2
    · exact h1 q hq
  have g1 := up2 st.1 s _ _ (fun q hq => (h q hq).1) hx
  intro q hq
  unfold fdS
  split
  · exact ⟨g1 q hq, up st.2.1 s 0 _ (fun q hq => (h q hq).2) (by omega) q hq⟩
  · split
    · exact ⟨g1 q hq, up st.2.1 s (bd + 1) _ (fun q hq => (h q hq).2) (by omega) q hq⟩
    · exact ⟨g1 q hq, up st.2.1 s _ _ (fun q hq => (h q hq).2) (Nat.le_trans (ptF_le _) (by omega)) q hq⟩
theorem fdOk_f {l1 : Nat → Nat} {al bd c : Nat} {st : gt3} (h : fdOk st) (hl : ∀ t, t < c → l1 t < 2 ^ 20) (hc : c ≤ 10) (hbd : bd < 2 ^ 26) : ∀ s, s ≤ 2 ^ c → fdOk (fdF l1 al bd st s)
  | 0, _ => h
  | s + 1, hs => by
    have ih := fdOk_f (al := al) h hl hc hbd s (by omega)
    show fdOk (if s = 0 then _ else _)
    split
    · exact h
    · rename_i h0
      refine fdOk_s ih (hl _ (tz_lt h0 hc (by omega))) ?_ hbd
      have : (2 : Nat) ^ c ≤ 2 ^ 10 := Nat.pow_le_pow_right (by decide) hc
      exact Nat.lt_of_le_of_lt Nat.and_le_left (by omega)
theorem bZ_0 {p : Bool} : bZ p = 0 ↔ p = false := by cases p <;> decide
