-- BITS of naturals: how many ones; masks
def pc_n (a : Nat) : Nat → Nat
  | 0 => 0
  | n + 1 => pc_n a n + (a.testBit n).toNat
abbrev pc_ (a : Nat) : Nat := pc_n a 32
theorem pc_n_le (a : Nat) : ∀ n, pc_n a n ≤ n
  | 0 => Nat.le_refl _
  | n + 1 => by
    have := pc_n_le a n
    have h2 : (a.testBit n).toNat ≤ 1 := by cases a.testBit n <;> decide
    simp only [pc_n]; omega
theorem pc_n_mono {a b : Nat} (h : ∀ i, a.testBit i = true → b.testBit i = true) : ∀ n, pc_n a n ≤ pc_n b n
  | 0 => Nat.le_refl _
  | n + 1 => by
    have h1 := pc_n_mono h n
    have h2 : (a.testBit n).toNat ≤ (b.testBit n).toNat := by
      cases ha : a.testBit n
      · exact Nat.zero_le _
      · rw [h n ha]; exact Nat.le_refl _
    simp only [pc_n]; omega
theorem pc_n_0 : ∀ n, pc_n 0 n = 0
  | 0 => rfl
  | n + 1 => by simp [pc_n, pc_n_0 n]
theorem pc_n_or {a b : Nat} (h : ∀ i, ¬ (a.testBit i = true ∧ b.testBit i = true)) : ∀ n, pc_n (a ||| b) n = pc_n a n + pc_n b n
  | 0 => rfl
  | n + 1 => by
    have h1 := pc_n_or h n
    have h2 := h n
    simp only [pc_n, Nat.testBit_or, h1]
    cases ha : a.testBit n <;> cases hb : b.testBit n <;> simp_all <;> omega
/-- a number of which the bits from n on are 0 -/
theorem pc_n_lt {a n : Nat} (h : a < 2 ^ n) : ∀ k, pc_n a (n + k) = pc_n a n
  | 0 => rfl
  | k + 1 => by
    have h1 : a.testBit (n + k) = false := Nat.testBit_lt_two_pow (Nat.lt_of_lt_of_le h (Nat.pow_le_pow_right (by decide) (by omega)))
    rw [← Nat.add_assoc]
    simp only [pc_n, pc_n_lt h k, h1]
    rfl
theorem and_split (i : Nat) {a b c d : Nat} (hb : b < 2 ^ i) (hd : d < 2 ^ i) : (2 ^ i * a + b) &&& (2 ^ i * c + d) = 2 ^ i * (a &&& c) + (b &&& d) := by
  apply Nat.eq_of_testBit_eq
  intro j
  rw [Nat.testBit_and, Nat.testBit_two_pow_mul_add _ hb, Nat.testBit_two_pow_mul_add _ hd, Nat.testBit_two_pow_mul_add _ (Nat.lt_of_le_of_lt Nat.and_le_left hb)]
  split <;> simp
theorem pc_n_split (i a : Nat) {b : Nat} (hb : b < 2 ^ i) : ∀ n, pc_n (2 ^ i * a + b) (i + n) = pc_n b i + pc_n a n
  | 0 => by
    have : ∀ m, m ≤ i → pc_n (2 ^ i * a + b) m = pc_n b m := by
      intro m
      induction m with
      | zero => intro _; rfl
      | succ m ih =>
        intro hm
        simp only [pc_n, ih (by omega)]
        rw [Nat.testBit_two_pow_mul_add _ hb, if_pos (by omega)]
    rw [Nat.add_zero, this i (Nat.le_refl _)]
    rfl
  | n + 1 => by
    rw [← Nat.add_assoc]
    simp only [pc_n]
    rw [pc_n_split i a hb n, Nat.testBit_two_pow_mul_add _ hb, if_neg (by omega), show i + n - i = n by omega]
    omega
