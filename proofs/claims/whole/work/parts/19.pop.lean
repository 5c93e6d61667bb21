-- ONES: what Integer.bitCount computes
theorem pc_n_step (a i : Nat) : pc_n a i + (a / 2 ^ i &&& 1) = pc_n a (i + 1) := by
  have h : (a / 2 ^ i &&& 1) = (a.testBit i).toNat := by
    rw [Nat.and_one_is_mod, Nat.testBit_eq_decide_div_mod_eq]
    rcases Nat.mod_two_eq_zero_or_one (a / 2 ^ i) with h | h <;> simp [h]
  simp only [pc_n, h]
def m1_ : Nat → Nat
  | 0 => 0
  | n + 1 => 4 * m1_ n + 1
def m2_ : Nat → Nat
  | 0 => 0
  | n + 1 => 16 * m2_ n + 3
def m3_ : Nat → Nat
  | 0 => 0
  | n + 1 => 256 * m3_ n + 15
def f4_ : Nat → Nat → Nat
  | 0, _ => 0
  | n + 1, a => 4 * f4_ n (a / 4) + (a % 2 + a / 2 % 2)
def f16_ : Nat → Nat → Nat
  | 0, _ => 0
  | n + 1, x => 16 * f16_ n (x / 16) + (x % 4 + x / 4 % 4)
def f256_ : Nat → Nat → Nat
  | 0, _ => 0
  | n + 1, x => 256 * f256_ n (x / 256) + (x % 16 + x / 16 % 16)
theorem and4 (a b c d : Nat) (hb : b < 4) (hd : d < 4) : (4 * a + b) &&& (4 * c + d) = 4 * (a &&& c) + (b &&& d) := and_split 2 hb hd
theorem and16 (a b c d : Nat) (hb : b < 16) (hd : d < 16) : (16 * a + b) &&& (16 * c + d) = 16 * (a &&& c) + (b &&& d) := and_split 4 hb hd
theorem and256 (a b c d : Nat) (hb : b < 256) (hd : d < 256) : (256 * a + b) &&& (256 * c + d) = 256 * (a &&& c) + (b &&& d) := and_split 8 hb hd
theorem and_m1 : ∀ x, x < 4 → x &&& 1 = x % 2 := by decide
theorem and_m3 : ∀ x, x < 16 → x &&& 3 = x % 4 := by decide
theorem and_m15 : ∀ x, x < 256 → x &&& 15 = x % 16 := by decide +kernel
theorem f4_ok : ∀ (n a : Nat), a < 4 ^ n → (a / 2 &&& m1_ n) ≤ a ∧ a - (a / 2 &&& m1_ n) = f4_ n a
  | 0, a, h => by simp [m1_, f4_] at h ⊢; omega
  | n + 1, a, h => by
    have ih := f4_ok n (a / 4) (by rw [Nat.pow_succ] at h; omega)
    have e : a / 2 = 4 * (a / 4 / 2) + (a / 4 % 2 * 2 + a % 4 / 2) := by omega
    have e2 : (a / 2 &&& m1_ (n + 1)) = 4 * (a / 4 / 2 &&& m1_ n) + a / 2 % 2 := by
      rw [e]
      show (4 * (a / 4 / 2) + (a / 4 % 2 * 2 + a % 4 / 2)) &&& (4 * m1_ n + 1) = _
      rw [and4 _ _ _ _ (by omega) (by omega), and_m1 _ (by omega)]
      omega
    rw [e2]
    simp only [f4_]
    omega
theorem f16_ok : ∀ (n x : Nat), x < 16 ^ n → (x &&& m2_ n) + (x / 4 &&& m2_ n) = f16_ n x
  | 0, x, h => by simp [m2_, f16_]
  | n + 1, x, h => by
    have ih := f16_ok n (x / 16) (by rw [Nat.pow_succ] at h; omega)
    have e1 : (x &&& m2_ (n + 1)) = 16 * (x / 16 &&& m2_ n) + x % 4 := by
      have e : x = 16 * (x / 16) + x % 16 := by omega
      show x &&& (16 * m2_ n + 3) = _
      conv => lhs; rw [e]
      rw [and16 _ _ _ _ (by omega) (by omega), and_m3 _ (by omega)]
      omega
    have e2 : (x / 4 &&& m2_ (n + 1)) = 16 * (x / 16 / 4 &&& m2_ n) + x / 4 % 4 := by
      have e : x / 4 = 16 * (x / 16 / 4) + (x / 16 % 4 * 4 + x % 16 / 4) := by omega
      show x / 4 &&& (16 * m2_ n + 3) = _
      conv => lhs; rw [e]
      rw [and16 _ _ _ _ (by omega) (by omega), and_m3 _ (by omega)]
      omega
    rw [e1, e2]
    simp only [f16_]
    omega
/-- each of n digits of base 16 is at most 4 -/
def dg_ : Nat → Nat → Prop
  | 0, x => x = 0
  | n + 1, x => x % 16 ≤ 4 ∧ dg_ n (x / 16)
theorem dg_f16 : ∀ (n x : Nat), (∀ j, j < 2 * n → x / 4 ^ j % 4 ≤ 2) → dg_ n (f16_ n x)
  | 0, x, h => rfl
  | n + 1, x, h => by
    have h0 := h 0 (by omega)
    have h1 := h 1 (by omega)
    simp at h0 h1
    have e : f16_ (n + 1) x / 16 = f16_ n (x / 16) := by simp only [f16_]; omega
    refine ⟨by simp only [f16_]; omega, ?_⟩
    rw [e]
    refine dg_f16 n (x / 16) (fun j hj => ?_)
    have := h (j + 2) (by omega)
    rw [Nat.pow_succ, Nat.pow_succ, Nat.mul_assoc, Nat.mul_comm, ← Nat.div_div_eq_div_mul] at this
    exact this
theorem dg_small : ∀ {n x : Nat}, dg_ n x → x % 16 ≤ 4
  | 0, x, h => by simp [dg_] at h; omega
  | n + 1, x, h => h.1
theorem f256_ok : ∀ (n x : Nat), dg_ (2 * n) x → (x + x / 16) &&& m3_ n = f256_ n x
  | 0, x, h => by simp [m3_, f256_]
  | n + 1, x, h => by
    have h : dg_ (2 * n + 1 + 1) x := h
    obtain ⟨h1, h2, h3⟩ := h
    have h4 := dg_small h3
    have h5 : dg_ (2 * n) (x / 256) := by rw [show x / 256 = x / 16 / 16 by omega]; exact h3
    have ih := f256_ok n (x / 256) h5
    have e : x + x / 16 = 256 * (x / 256 + x / 256 / 16) + (16 * (x / 256 % 16) + 16 * (x / 16 % 16) + x % 16 + x / 16 % 16) := by omega
    show (x + x / 16) &&& (256 * m3_ n + 15) = _
    rw [e, and256 _ _ _ _ (by omega) (by omega), ih, and_m15 _ (by omega)]
    simp only [f256_]
    omega
theorem f4_dig : ∀ (n a j : Nat), f4_ n a / 4 ^ j % 4 ≤ 2
  | 0, a, j => by simp [f4_]
  | n + 1, a, 0 => by simp only [f4_]; omega
  | n + 1, a, j + 1 => by
    rw [Nat.pow_succ, Nat.mul_comm, ← Nat.div_div_eq_div_mul]
    have e : f4_ (n + 1) a / 4 = f4_ n (a / 4) := by simp only [f4_]; omega
    rw [e]
    exact f4_dig n (a / 4) j
theorem f4_lt : ∀ (n a : Nat), f4_ n a < 4 ^ n
  | 0, a => by simp [f4_]
  | n + 1, a => by
    have := f4_lt n (a / 4)
    rw [Nat.pow_succ]
    simp only [f4_]; omega
/-- the sum of n digits of base B -/
def ds_ (B : Nat) : Nat → Nat → Nat
  | 0, _ => 0
  | n + 1, x => x % B + ds_ B n (x / B)
theorem ds_4 : ∀ (n a : Nat), ds_ 4 n (f4_ n a) = pc_n a (2 * n)
  | 0, a => rfl
  | n + 1, a => by
    have ih := ds_4 n (a / 4)
    have e := pc_n_split 2 (a / 4) (b := a % 4) (Nat.mod_lt _ (by decide)) (2 * n)
    rw [show 2 ^ 2 * (a / 4) + a % 4 = a by omega] at e
    have e2 : pc_n (a % 4) 2 = a % 2 + a / 2 % 2 := by
      have : ∀ r, r < 4 → pc_n r 2 = r % 2 + r / 2 % 2 := by decide
      rw [this _ (Nat.mod_lt _ (by decide))]; omega
    have e3 : f4_ (n + 1) a / 4 = f4_ n (a / 4) := by simp only [f4_]; omega
    have e4 : f4_ (n + 1) a % 4 = a % 2 + a / 2 % 2 := by simp only [f4_]; omega
    rw [show 2 * (n + 1) = 2 + 2 * n by omega, e, e2]
    simp only [ds_, e3, e4, ih]
theorem ds_16 : ∀ (n x : Nat), ds_ 16 n (f16_ n x) = ds_ 4 (2 * n) x
  | 0, x => rfl
  | n + 1, x => by
    have ih := ds_16 n (x / 16)
    have e3 : f16_ (n + 1) x / 16 = f16_ n (x / 16) := by simp only [f16_]; omega
    have e4 : f16_ (n + 1) x % 16 = x % 4 + x / 4 % 4 := by simp only [f16_]; omega
    rw [show 2 * (n + 1) = 2 * n + 1 + 1 by omega]
    simp only [ds_, e3, e4, ih]
    rw [show x / 4 / 4 = x / 16 by omega]
    omega
theorem ds_256 : ∀ (n x : Nat), ds_ 256 n (f256_ n x) = ds_ 16 (2 * n) x
  | 0, x => rfl
  | n + 1, x => by
    have ih := ds_256 n (x / 256)
    have e3 : f256_ (n + 1) x / 256 = f256_ n (x / 256) := by simp only [f256_]; omega
    have e4 : f256_ (n + 1) x % 256 = x % 16 + x / 16 % 16 := by simp only [f256_]; omega
    rw [show 2 * (n + 1) = 2 * n + 1 + 1 by omega]
    simp only [ds_, e3, e4, ih]
    rw [show x / 16 / 16 = x / 256 by omega]
    omega
theorem f256_dig : ∀ (n x : Nat), f256_ n x < 256 ^ n ∧ f256_ n x % 256 ≤ 30
  | 0, x => by simp [f256_]
  | n + 1, x => by
    have := f256_dig n (x / 256)
    refine ⟨?_, by simp only [f256_]; omega⟩
    rw [Nat.pow_succ]
    simp only [f256_]; omega
def bc1_ (a : Nat) : Nat := a - (a / 2 ^ 1 &&& 1431655765)
def bc2_ (x : Nat) : Nat := (x &&& 858993459) + (x / 2 ^ 2 &&& 858993459)
def bc3_ (x : Nat) : Nat := (x + x / 2 ^ 4) &&& 252645135
theorem bc_all {a : Nat} (ha : a < 2 ^ 32) : (a / 2 ^ 1 &&& 1431655765) ≤ a ∧ bc1_ a < 2 ^ 32 ∧ bc2_ (bc1_ a) < 2 ^ 31 ∧ bc3_ (bc2_ (bc1_ a)) < 2 ^ 29 ∧
    ((bc3_ (bc2_ (bc1_ a)) + bc3_ (bc2_ (bc1_ a)) / 2 ^ 8) + (bc3_ (bc2_ (bc1_ a)) + bc3_ (bc2_ (bc1_ a)) / 2 ^ 8) / 2 ^ 16) &&& 63 = pc_ a := by
  have h1 := f4_ok 16 a ha
  rw [show m1_ 16 = 1431655765 from by decide] at h1
  have h2 : bc1_ a = f4_ 16 a := h1.2
  have h3 : f4_ 16 a < 16 ^ 8 := f4_lt 16 a
  have h4 := f16_ok 8 (f4_ 16 a) h3
  rw [show m2_ 8 = 858993459 from by decide] at h4
  have h5 : bc2_ (bc1_ a) = f16_ 8 (f4_ 16 a) := by rw [h2]; exact h4
  have h6 := f256_ok 4 (f16_ 8 (f4_ 16 a)) (dg_f16 8 _ (fun j _ => f4_dig 16 a j))
  rw [show m3_ 4 = 252645135 from by decide] at h6
  have h7 : bc3_ (bc2_ (bc1_ a)) = f256_ 4 (f16_ 8 (f4_ 16 a)) := by rw [h5]; exact h6
  have h8 : ds_ 256 4 (f256_ 4 (f16_ 8 (f4_ 16 a))) = pc_ a := by rw [ds_256, ds_16, ds_4]
  have h9 : pc_ a ≤ 32 := pc_n_le a 32
  have b1 : bc1_ a < 2 ^ 32 := Nat.lt_of_le_of_lt (Nat.sub_le _ _) ha
  have b2 : bc2_ (bc1_ a) < 2 ^ 31 := by
    have u1 : (bc1_ a &&& 858993459) ≤ 858993459 := Nat.and_le_right
    have u2 : (bc1_ a / 2 ^ 2 &&& 858993459) ≤ 858993459 := Nat.and_le_right
    unfold bc2_
    omega
  have b3 : bc3_ (bc2_ (bc1_ a)) < 2 ^ 29 := by
    have u1 : bc3_ (bc2_ (bc1_ a)) ≤ 252645135 := Nat.and_le_right
    omega
  refine ⟨h1.1, b1, b2, b3, ?_⟩
  rw [h7]
  have k0 := (f256_dig 4 (f16_ 8 (f4_ 16 a)))
  have d0 : ∀ (n x : Nat), f256_ (n + 1) x / 256 = f256_ n (x / 256) := fun n x => by simp only [f256_]; omega
  generalize hX : f16_ 8 (f4_ 16 a) = X at *
  have k1 := f256_dig 3 (X / 256)
  have k2 := f256_dig 2 (X / 256 / 256)
  have k3 := f256_dig 1 (X / 256 / 256 / 256)
  have e1 := d0 3 X
  have e2 := d0 2 (X / 256)
  have e3 := d0 1 (X / 256 / 256)
  generalize f256_ 4 X = x3 at *
  generalize f256_ 3 (X / 256) = x2 at *
  generalize f256_ 2 (X / 256 / 256) = x1 at *
  generalize f256_ 1 (X / 256 / 256 / 256) = x0 at *
  simp only [ds_, e1, e2, e3] at h8
  rw [show (63 : Nat) = 2 ^ 6 - 1 from rfl, Nat.and_two_pow_sub_one_eq_mod]
  obtain ⟨g0, q0⟩ : ∃ g, g = x3 % 256 := ⟨_, rfl⟩
  obtain ⟨g1, q1⟩ : ∃ g, g = x2 % 256 := ⟨_, rfl⟩
  obtain ⟨g2, q2⟩ : ∃ g, g = x1 % 256 := ⟨_, rfl⟩
  rw [← q0, ← q1, ← q2] at h8
  have r2 : x1 = 256 * x0 + g2 := by omega
  have r1 : x2 = 256 * x1 + g1 := by omega
  have r0 : x3 = 256 * x2 + g0 := by omega
  have l0 : x0 % 256 = x0 := Nat.mod_eq_of_lt (by have := k3.1; simpa using this)
  have l3 : x0 ≤ 30 := by have := k3.2; omega
  have l2 : g2 ≤ 30 := by have := k2.2; omega
  have l1 : g1 ≤ 30 := by have := k1.2; omega
  have l00 : g0 ≤ 30 := by have := k0.2; omega
  clear hX h1 h2 h3 h4 h5 h6 h7 b1 b2 b3 k0 k1 k2 k3 e1 e2 e3 d0 q0 q1 q2
  have t1 : x3 / 2 ^ 8 = x2 := by omega
  rw [t1]
  have t2 : (x3 + x2) / 2 ^ 16 = x1 + x0 := by omega
  rw [t2]
  omega
/-- a number with its lowest one at place t -/
theorem tz_and {a t : Nat} (ha : a < 2 ^ 31) (h : a % 2 ^ (t + 1) = 2 ^ t) (ht : t < 31) : (nI a ^^^ (-1)) &&& nI (a - 1) = nI (2 ^ t - 1) := by
  have hq : a = 2 ^ (t + 1) * (a / 2 ^ (t + 1)) + 2 ^ t := by have := Nat.div_add_mod a (2 ^ (t + 1)); omega
  have hp : 0 < 2 ^ t := Nat.two_pow_pos t
  have e1 : a - 1 = 2 ^ (t + 1) * (a / 2 ^ (t + 1)) + (2 ^ t - 1) := by omega
  have hlt : 2 ^ t < 2 ^ (t + 1) := Nat.pow_lt_pow_right (by decide) (by omega)
  have b1 : ∀ i, a.testBit i = if i < t + 1 then (2 ^ t).testBit i else (a / 2 ^ (t + 1)).testBit (i - (t + 1)) := fun i => by
    conv => lhs; rw [hq]
    rw [Nat.testBit_two_pow_mul_add _ hlt]
  have b2 : ∀ i, (a - 1).testBit i = if i < t + 1 then (2 ^ t - 1).testBit i else (a / 2 ^ (t + 1)).testBit (i - (t + 1)) := fun i => by
    conv => lhs; rw [e1]
    rw [Nat.testBit_two_pow_mul_add _ (by omega)]
  apply Int32.toBitVec_inj.1
  show (BitVec.ofNat 32 a ^^^ BitVec.allOnes 32) &&& BitVec.ofNat 32 (a - 1) = BitVec.ofNat 32 (2 ^ t - 1)
  apply BitVec.eq_of_getLsbD_eq
  intro i hi
  simp only [BitVec.getLsbD_and, BitVec.getLsbD_xor, BitVec.getLsbD_ofNat, BitVec.getLsbD_allOnes, hi, decide_true, Bool.true_and, b1, b2, Nat.testBit_two_pow_sub_one, Nat.testBit_two_pow]
  by_cases c : i < t + 1
  · rw [if_pos c, if_pos c]
    by_cases c2 : i = t
    · subst c2; simp
    · have c3 : i < t := by omega
      simp [c3]; omega
  · rw [if_neg c, if_neg c]
    have c3 : ¬ i < t := by omega
    simp [c3]
