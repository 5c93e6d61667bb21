-- PARTS of a set, in order
theorem lowest_bit {P : Nat → Bool} : ∀ {n : Nat}, (∃ i, i < n ∧ P i = true) → ∃ p, p < n ∧ P p = true ∧ ∀ j, j < p → P j = false
  | 0, ⟨i, h, _⟩ => by omega
  | n + 1, ⟨i, h, hp⟩ => by
    by_cases q : ∃ i, i < n ∧ P i = true
    · obtain ⟨p, h1, h2, h3⟩ := lowest_bit q
      exact ⟨p, by omega, h2, h3⟩
    · have e : i = n := by
        rcases Nat.lt_or_ge i n with z | z
        · exact absurd ⟨i, z, hp⟩ q
        · omega
      subst e
      refine ⟨i, by omega, hp, fun j hj => ?_⟩
      cases hP : P j with
      | false => rfl
      | true => exact absurd ⟨j, hj, hP⟩ q
theorem sub_bits {m r : Nat} (h : m &&& r = m) (i : Nat) (hi : m.testBit i = true) : r.testBit i = true := by
  rw [← h, Nat.testBit_and] at hi
  simp at hi
  exact hi.2
theorem sub_of_bits {m r : Nat} (h : ∀ i, m.testBit i = true → r.testBit i = true) : m &&& r = m := by
  apply Nat.eq_of_testBit_eq
  intro i
  rw [Nat.testBit_and]
  cases hm : m.testBit i with
  | false => rfl
  | true => rw [h i hm]; rfl
theorem or_add : ∀ (n m r : Nat), m < 2 ^ n → m &&& r = 0 → m ||| r = m + r
  | 0, m, r, h, _ => by
    have : m = 0 := by simp at h; omega
    subst this
    simp
  | n + 1, m, r, h, h0 => by
    have h1 : m / 2 &&& r / 2 = 0 := by rw [← Nat.and_div_two, h0]
    have ih := or_add n (m / 2) (r / 2) (by rw [Nat.pow_succ] at h; omega) h1
    have e1 : (m ||| r) / 2 = m / 2 + r / 2 := by rw [Nat.or_div_two, ih]
    have b0 : (m &&& r).testBit 0 = false := by rw [h0]; simp
    have b1 : (m ||| r).testBit 0 = (m.testBit 0 || r.testBit 0) := Nat.testBit_or _ _ _
    rw [Nat.testBit_and] at b0
    simp only [Nat.testBit_zero] at b0 b1
    have q1 := Nat.mod_two_eq_zero_or_one m
    have q2 := Nat.mod_two_eq_zero_or_one r
    have q3 := Nat.mod_two_eq_zero_or_one (m ||| r)
    rcases q1 with q1 | q1 <;> rcases q2 with q2 | q2 <;> rcases q3 with q3 | q3 <;> simp [q1, q2, q3] at b0 b1 <;> omega
theorem sub_add {m r : Nat} (h : m &&& r = m) : m + (r ^^^ m) = r := by
  have h1 : m &&& (r ^^^ m) = 0 := by
    apply Nat.eq_of_testBit_eq
    intro i
    have := sub_bits h i
    simp only [Nat.testBit_and, Nat.testBit_xor, Nat.zero_testBit]
    cases hm : m.testBit i <;> simp_all
  have h2 : m ||| (r ^^^ m) = r := by
    apply Nat.eq_of_testBit_eq
    intro i
    have := sub_bits h i
    simp only [Nat.testBit_or, Nat.testBit_xor]
    cases hm : m.testBit i <;> simp_all
  have h3 := or_add m m (r ^^^ m) Nat.lt_two_pow_self h1
  omega
/-- the next greater part of r -/
theorem nxt_part {m r : Nat} (hr : r < 2 ^ 31) (h : m &&& r = m) (hl : m < r) : ∃ m', (nI m - nI r) &&& nI r = nI m' ∧ m < m' ∧ m' ≤ r ∧ m' &&& r = m' ∧ ∀ s, m < s → s < m' → ¬ s &&& r = s := by
  have hx : (r ^^^ m) ≠ 0 := by
    intro q
    have := sub_add h
    omega
  have hxl : r ^^^ m < 2 ^ 31 := Nat.xor_lt_two_pow hr (by omega)
  obtain ⟨i0, hi0⟩ : ∃ i, (r ^^^ m).testBit i = true := by
    obtain ⟨i, hi⟩ := Nat.exists_testBit_of_ne_zero hx
    exact ⟨i, hi⟩
  have hi1 : i0 < 31 := by
    rcases Nat.lt_or_ge i0 31 with q | q
    · exact q
    · rw [Nat.testBit_lt_two_pow (Nat.lt_of_lt_of_le hxl (Nat.pow_le_pow_right (by decide) q))] at hi0
      cases hi0
  obtain ⟨p, hp31, hp, hpl⟩ := lowest_bit (P := fun i => (r ^^^ m).testBit i) ⟨i0, hi1, hi0⟩
  have hp : (r ^^^ m).testBit p = true := hp
  have rm : r.testBit p = true ∧ m.testBit p = false := by
    have := sub_bits h p
    rw [Nat.testBit_xor] at hp
    cases hm : m.testBit p <;> simp_all
  have low : ∀ j, j < p → r.testBit j = m.testBit j := by
    intro j hj
    have := hpl j hj
    rw [Nat.testBit_xor] at this
    cases h1 : r.testBit j <;> cases h2 : m.testBit j <;> simp_all
  have ev : (m / 2 ^ p) % 2 = 0 := by
    have := rm.2
    rw [Nat.testBit_eq_decide_div_mod_eq] at this
    have := of_decide_eq_false this
    omega
  have bits : ∀ i, (2 ^ p * (m / 2 ^ p + 1)).testBit i = if i < p then false else if i = p then true else m.testBit i := by
    intro i
    have e0 := Nat.testBit_two_pow_mul_add (m / 2 ^ p + 1) (Nat.two_pow_pos p) i
    rw [Nat.add_zero] at e0
    rw [e0]
    by_cases c1 : i < p
    · simp [c1]
    · rw [if_neg c1, if_neg c1]
      by_cases c2 : i = p
      · subst c2
        rw [Nat.sub_self, if_pos rfl, Nat.testBit_zero]
        simp; omega
      · rw [if_neg c2]
        obtain ⟨k, hk⟩ : ∃ k, i - p = k + 1 := ⟨i - p - 1, by omega⟩
        rw [hk, Nat.testBit_succ, show (m / 2 ^ p + 1) / 2 = m / 2 ^ p / 2 by omega, ← Nat.testBit_succ]
        show (m / 2 ^ p).testBit (k + 1) = _
        rw [← hk, Nat.testBit_div_two_pow, show i - p + p = i by omega]
  have subm : (2 ^ p * (m / 2 ^ p + 1)) &&& r = 2 ^ p * (m / 2 ^ p + 1) := by
    refine sub_of_bits (fun i hi => ?_)
    rw [bits i] at hi
    split at hi
    · cases hi
    · split at hi
      · rename_i e; rw [e]; exact rm.1
      · exact sub_bits h i hi
  have lowm : m % 2 ^ p = r % 2 ^ p := by
    apply Nat.eq_of_testBit_eq
    intro i
    rw [Nat.testBit_mod_two_pow, Nat.testBit_mod_two_pow]
    by_cases c : i < p
    · rw [low i c]
    · simp [c]
  have pp : 0 < 2 ^ p := Nat.two_pow_pos p
  have dm := Nat.div_add_mod m (2 ^ p)
  have lt : m < 2 ^ p * (m / 2 ^ p + 1) := by
    have := Nat.mod_lt m pp
    rw [Nat.mul_add]
    omega
  refine ⟨2 ^ p * (m / 2 ^ p + 1), ?_, lt, ?_, subm, ?_⟩
  · have e1 : nI m - nI r = -nI (r ^^^ m) := by
      have := sub_add h
      conv => lhs; rw [← this]
      rw [← nI_add]
      have e2 : ∀ x y : Int32, x - (x + y) = -y := fun x y => by
        grind
      exact e2 _ _
    rw [e1]
    apply Int32.toBitVec_inj.1
    show -(BitVec.ofNat 32 (r ^^^ m)) &&& BitVec.ofNat 32 r = BitVec.ofNat 32 (2 ^ p * (m / 2 ^ p + 1))
    apply BitVec.eq_of_getLsbD_eq
    intro i hi
    rw [BitVec.getLsbD_and, BitVec.getLsbD_neg]
    simp only [BitVec.getLsbD_ofNat, hi, decide_true, Bool.true_and, bits]
    by_cases c1 : i < p
    · have no : ¬ ∃ j, j < i ∧ (decide (j < 32) && (r ^^^ m).testBit j) = true := by
        rintro ⟨j, hj, q⟩
        rw [hpl j (by omega)] at q
        simp at q
      have xi : (r ^^^ m).testBit i = false := hpl i c1
      rw [if_pos c1, xi, decide_eq_false no]
      rfl
    · rw [if_neg c1]
      by_cases c2 : i = p
      · subst c2
        have no : ¬ ∃ j, j < i ∧ (decide (j < 32) && (r ^^^ m).testBit j) = true := by
          rintro ⟨j, hj, q⟩
          rw [hpl j (by omega)] at q
          simp at q
        rw [if_pos rfl, hp, decide_eq_false no, rm.1]
        rfl
      · have yes : ∃ j, j < i ∧ (decide (j < 32) && (r ^^^ m).testBit j) = true := ⟨p, by omega, by rw [hp]; simp; omega⟩
        rw [if_neg c2, decide_eq_true yes, Nat.testBit_xor]
        have := sub_bits h i
        cases h1 : m.testBit i <;> cases h2 : r.testBit i <;> simp_all
  · have := sub_add subm
    omega
  · intro s h1 h2 h3
    have ls : s % 2 ^ p ≤ m % 2 ^ p := by
      have e : (s % 2 ^ p) &&& (m % 2 ^ p) = s % 2 ^ p := by
        refine sub_of_bits (fun i hi => ?_)
        rw [Nat.testBit_mod_two_pow] at hi ⊢
        simp at hi
        have := sub_bits h3 i hi.2
        rw [low i hi.1] at this
        simp [hi.1, this]
      have := sub_add e
      omega
    have ds := Nat.div_add_mod s (2 ^ p)
    have : s / 2 ^ p ≤ m / 2 ^ p := by
      have : s < (m / 2 ^ p + 1) * 2 ^ p := by rw [Nat.mul_comm]; exact h2
      have := (Nat.div_lt_iff_lt_mul pp).mpr this
      omega
    have := Nat.mul_le_mul_left (2 ^ p) this
    omega
/-- the parts s of r, one after the other: a running least cost, and the first part that has it -/
def ptS (lg co : Nat → Nat) (ls r : Nat) (st : Nat × Nat) (s : Nat) : Nat × Nat := if co (ls ||| s) + co (r ^^^ s) + 2 ^ pc_ (lg (ls ||| s) ||| lg (r ^^^ s)) < st.1 then (co (ls ||| s) + co (r ^^^ s) + 2 ^ pc_ (lg (ls ||| s) ||| lg (r ^^^ s)), ls ||| s) else st
def ptF (lg co : Nat → Nat) (ls r : Nat) (st : Nat × Nat) : Nat → Nat × Nat
  | 0 => st
  | x + 1 => if x &&& r = x then ptS lg co ls r (ptF lg co ls r st x) x else ptF lg co ls r st x
theorem ptF_gap {lg co : Nat → Nat} {ls r : Nat} {st : Nat × Nat} {x : Nat} : ∀ k, (∀ s, x ≤ s → s < x + k → ¬ s &&& r = s) → ptF lg co ls r st (x + k) = ptF lg co ls r st x
  | 0, _ => rfl
  | k + 1, h => by
    have ih := ptF_gap (lg := lg) (co := co) (ls := ls) (st := st) (x := x) k (fun s a b => h s a (by omega))
    have e : ptF lg co ls r st (x + (k + 1)) = if x + k &&& r = x + k then ptS lg co ls r (ptF lg co ls r st (x + k)) (x + k) else ptF lg co ls r st (x + k) := rfl
    rw [e, if_neg (h (x + k) (by omega) (by omega)), ih]
/-- how many parts of r lie below x -/
def npF (r : Nat) : Nat → Nat
  | 0 => 0
  | x + 1 => npF r x + if x &&& r = x then 1 else 0
theorem npF_gap {r x : Nat} : ∀ k, (∀ s, x ≤ s → s < x + k → ¬ s &&& r = s) → npF r (x + k) = npF r x
  | 0, _ => rfl
  | k + 1, h => by
    have ih := npF_gap (r := r) (x := x) k (fun s a b => h s a (by omega))
    have e : npF r (x + (k + 1)) = npF r (x + k) + if x + k &&& r = x + k then 1 else 0 := rfl
    rw [e, if_neg (h (x + k) (by omega) (by omega)), ih, Nat.add_zero]
theorem npF_mono {r x : Nat} : ∀ k, npF r x ≤ npF r (x + k)
  | 0 => Nat.le_refl _
  | k + 1 => by
    have ih := npF_mono (r := r) (x := x) k
    have e : npF r (x + (k + 1)) = npF r (x + k) + if x + k &&& r = x + k then 1 else 0 := rfl
    omega
theorem npF_part {r s : Nat} (h : s &&& r = s) : npF r (s + 1) = npF r s + 1 := by
  show npF r s + (if s &&& r = s then 1 else 0) = _
  rw [if_pos h]
theorem np_ev (q u b c : Nat) (hb : b < 2) (hc : c < 2) : ((2 * u + b) &&& (2 * q + c) = 2 * u + b) ↔ (u &&& q = u ∧ b ≤ c) := by
  have e1 : ((2 * u + b) &&& (2 * q + c)) / 2 = u &&& q := by
    rw [Nat.and_div_two, show (2 * u + b) / 2 = u by omega, show (2 * q + c) / 2 = q by omega]
  have e2 : ((2 * u + b) &&& (2 * q + c)) % 2 = b &&& c := by
    have := Nat.and_mod_two_pow (a := 2 * u + b) (b := 2 * q + c) (n := 1)
    simp only [Nat.pow_one] at this
    rw [this, show (2 * u + b) % 2 = b by omega, show (2 * q + c) % 2 = c by omega]
  have e3 : (b &&& c) = b ↔ b ≤ c := by
    rcases (by omega : b = 0 ∨ b = 1) with rfl | rfl <;> rcases (by omega : c = 0 ∨ c = 1) with rfl | rfl <;> decide
  omega
theorem npF_0 (q : Nat) : ∀ x, npF (2 * q) (2 * x) = npF q x
  | 0 => rfl
  | x + 1 => by
    have ih := npF_0 q x
    have h0 := np_ev q x 0 0 (by decide) (by decide)
    have h1 := np_ev q x 1 0 (by decide) (by decide)
    simp only [Nat.add_zero] at h0 h1
    show npF (2 * q) (2 * x) + (if 2 * x &&& 2 * q = 2 * x then 1 else 0) + (if 2 * x + 1 &&& 2 * q = 2 * x + 1 then 1 else 0) = npF q x + if x &&& q = x then 1 else 0
    rw [ih]
    by_cases c : x &&& q = x
    · rw [if_pos (h0.mpr ⟨c, by decide⟩), if_neg (fun z => absurd (h1.mp z).2 (by decide)), if_pos c]
    · rw [if_neg (fun z => c (h0.mp z).1), if_neg (fun z => c (h1.mp z).1), if_neg c]
theorem npF_1 (q : Nat) : ∀ x, npF (2 * q + 1) (2 * x) = 2 * npF q x
  | 0 => rfl
  | x + 1 => by
    have ih := npF_1 q x
    have h0 := np_ev q x 0 1 (by decide) (by decide)
    have h1 := np_ev q x 1 1 (by decide) (by decide)
    simp only [Nat.add_zero] at h0
    show npF (2 * q + 1) (2 * x) + (if 2 * x &&& 2 * q + 1 = 2 * x then 1 else 0) + (if 2 * x + 1 &&& 2 * q + 1 = 2 * x + 1 then 1 else 0) = 2 * (npF q x + if x &&& q = x then 1 else 0)
    rw [ih]
    by_cases c : x &&& q = x
    · rw [if_pos (h0.mpr ⟨c, by decide⟩), if_pos (h1.mpr ⟨c, by decide⟩), if_pos c]; omega
    · rw [if_neg (fun z => c (h0.mp z).1), if_neg (fun z => c (h1.mp z).1), if_neg c]; omega
/-- all parts of r but r itself -/
theorem npF_n : ∀ (n r : Nat), r < 2 ^ n → npF r r + 1 = 2 ^ pc_n r n
  | 0, r, h => by
    have : r = 0 := by simp at h; omega
    subst this
    rfl
  | n + 1, r, h => by
    have ih := npF_n n (r / 2) (by rw [Nat.pow_succ] at h; omega)
    have e := pc_n_split 1 (r / 2) (b := r % 2) (by omega) n
    rw [show 2 ^ 1 * (r / 2) + r % 2 = r by omega, Nat.add_comm 1 n] at e
    have e1 : pc_n (r % 2) 1 = r % 2 := by
      rcases Nat.mod_two_eq_zero_or_one r with z | z <;> rw [z] <;> rfl
    rw [e, e1]
    rcases Nat.mod_two_eq_zero_or_one r with z | z
    · have r0 : r = 2 * (r / 2) := by omega
      rw [z, Nat.zero_add, ← ih]
      conv => lhs; rw [r0]
      rw [npF_0]
    · have r0 : r = 2 * (r / 2) + 1 := by omega
      have p := npF_part (r := 2 * (r / 2) + 1) (s := 2 * (r / 2)) (by
        have h0 := np_ev (r / 2) (r / 2) 0 1 (by decide) (by decide)
        simp only [Nat.add_zero] at h0
        exact h0.mpr ⟨Nat.and_self _, by decide⟩)
      rw [npF_1] at p
      rw [z, Nat.pow_add, ← ih]
      conv => lhs; rw [r0]
      rw [p]
      omega
theorem npF_all {r : Nat} (h : r < 2 ^ 20) : npF r r + 1 = 2 ^ pc_ r := npF_n 32 r (Nat.lt_of_lt_of_le h (by decide))
theorem np_end {r s : Nat} (hs : s &&& r = s) (hi : s ≤ r) (h0 : npF r r - npF r s = 0) : s = r := by
  rcases Nat.lt_or_ge s r with z | z
  · have h1 := npF_part hs
    have h2 := npF_mono (r := r) (x := s + 1) (r - (s + 1))
    rw [show s + 1 + (r - (s + 1)) = r by omega] at h2
    omega
  · omega
theorem np_more {r s : Nat} (hi : s ≤ r) (h0 : 0 < npF r r - npF r s) : s < r := by
  rcases Nat.lt_or_ge s r with z | z
  · exact z
  · have : s = r := by omega
    subst this
    omega
theorem np_next {r s m : Nat} (hs : s &&& r = s) (h1 : s < m) (h2 : m ≤ r) (h3 : ∀ z, s < z → z < m → ¬ z &&& r = z) : npF r r - npF r s = npF r r - npF r m + 1 := by
  have a1 := npF_part hs
  have a2 := npF_gap (r := r) (x := s + 1) (m - (s + 1)) (fun z z1 z2 => h3 z (by omega) (by omega))
  have a3 := npF_mono (r := r) (x := m) (r - m)
  rw [show s + 1 + (m - (s + 1)) = m by omega] at a2
  rw [show m + (r - m) = r by omega] at a3
  omega
theorem np_lt {r : Nat} (h : r < 1024) : npF r r < 2 ^ 31 := by
  have a := npF_all (r := r) (by omega)
  have b : pc_ r ≤ 10 := by
    have := pc_n_lt (a := r) (n := 10) h 22
    have q := pc_n_le r 10
    show pc_n r (10 + 22) ≤ 10
    omega
  have c : 2 ^ pc_ r ≤ 2 ^ 10 := Nat.pow_le_pow_right (by decide) b
  omega
