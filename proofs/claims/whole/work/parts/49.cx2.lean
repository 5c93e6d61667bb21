-- GATHER, SPREAD FROM ABOVE, PRODUCTS
theorem pc_mono {S i n : Nat} (h : i ≤ n) : pc_n S i ≤ pc_n S n := by
  have : ∀ k, pc_n S i ≤ pc_n S (i + k) := by
    intro k
    induction k with
    | zero => exact Nat.le_refl _
    | succ k ihk =>
      have : pc_n S (i + k) ≤ pc_n S (i + k + 1) := by simp only [pc_n]; omega
      show _ ≤ pc_n S (i + k + 1)
      omega
  have := this (n - i)
  rw [show i + (n - i) = n by omega] at this
  exact this
theorem pc_lt {S i n : Nat} (h : i < n) (hb : S.testBit i = true) : pc_n S i < pc_n S n := by
  have h1 := pc_mono (S := S) (show i + 1 ≤ n by omega)
  have h2 : pc_n S (i + 1) = pc_n S i + 1 := by simp [pc_n, hb]
  omega
theorem gat_2 {x S : Nat} : ∀ n, (gatF x S n).2 = pc_n S n
  | 0 => rfl
  | n + 1 => by
    have ih := gat_2 (x := x) (S := S) n
    simp only [gatF, pc_n]
    cases S.testBit n <;> simp [ih]
def b_ (x i : Nat) : Nat := if x.testBit i = true then 1 else 0
theorem b_eq (x i : Nat) : x / 2 ^ i &&& 1 = b_ x i := by
  have h1 := @hv_bit_eq x i
  have h2 : x / 2 ^ i &&& 1 < 2 := Nat.lt_of_le_of_lt Nat.and_le_right (by decide)
  unfold b_
  split
  · rename_i q; rw [← h1] at q; exact q
  · rename_i q; rw [← h1] at q; omega
theorem gat_lt {x S : Nat} : ∀ n, (gatF x S n).1 < 2 ^ pc_n S n
  | 0 => by simp [gatF, pc_n]
  | n + 1 => by
    have ih := gat_lt (x := x) (S := S) n
    cases hs : S.testBit n with
    | false => simp only [gatF, pc_n, hs, Bool.false_eq_true, if_false, Nat.add_zero]; exact ih
    | true =>
      simp only [gatF, pc_n, hs, if_true, gat_2, b_eq, Bool.toNat_true]
      have pw : (2 : Nat) ^ pc_n S n < 2 ^ (pc_n S n + 1) := Nat.pow_lt_pow_right (by decide) (by omega)
      refine Nat.or_lt_two_pow (by omega) ?_
      unfold b_
      split <;> simp <;> omega
theorem gat_s {x S n : Nat} (hs : S.testBit n = true) : (gatF x S (n + 1)).1 = (gatF x S n).1 + b_ x n * 2 ^ pc_n S n := by
  have lt := gat_lt (x := x) (S := S) n
  simp only [gatF, hs, if_true, gat_2, b_eq]
  unfold b_
  split
  · rw [Nat.one_mul]
    refine or_add _ _ _ lt ?_
    apply Nat.eq_of_testBit_eq
    intro i
    rw [Nat.testBit_and, Nat.testBit_two_pow, Nat.zero_testBit]
    by_cases e : pc_n S n = i
    · subst e; rw [Nat.testBit_lt_two_pow lt]; rfl
    · simp [e]
  · simp
theorem gat_n {x S n : Nat} (hs : S.testBit n = false) : (gatF x S (n + 1)).1 = (gatF x S n).1 := by
  simp only [gatF, hs, Bool.false_eq_true, if_false]
theorem gat_bit {x S i : Nat} : ∀ n, i < n → S.testBit i = true → (gatF x S n).1.testBit (pc_n S i) = x.testBit i
  | 0, h, _ => by omega
  | n + 1, h, hb => by
    have lt := gat_lt (x := x) (S := S) n
    by_cases e : i = n
    · subst e
      simp only [gatF, hb, if_true, gat_2, b_eq, Nat.testBit_or]
      rw [Nat.testBit_lt_two_pow lt]
      unfold b_
      split
      · rename_i q; rw [q]; simp [Nat.testBit_two_pow_self]
      · rename_i q; simp at q; rw [q]; simp
    · have ih := gat_bit (x := x) n (by omega) hb
      cases hs : S.testBit n with
      | false => rw [gat_n hs]; exact ih
      | true =>
        have := pc_lt (S := S) (show i < n by omega) hb
        simp only [gatF, hs, if_true, gat_2, b_eq, Nat.testBit_or, ih]
        have z : (b_ x n * 2 ^ pc_n S n).testBit (pc_n S i) = false := by
          unfold b_
          split
          · rw [Nat.one_mul, Nat.testBit_two_pow]; exact decide_eq_false (by omega)
          · simp
        rw [z, Bool.or_false]
theorem gat_congr {x y S : Nat} : ∀ n, (∀ i, i < n → S.testBit i = true → x.testBit i = y.testBit i) → (gatF x S n).1 = (gatF y S n).1
  | 0, _ => rfl
  | n + 1, h => by
    have ih := gat_congr (x := x) (y := y) n (fun i hi => h i (by omega))
    cases hs : S.testBit n with
    | false => rw [gat_n hs, gat_n hs, ih]
    | true => rw [gat_s hs, gat_s hs, ih]; unfold b_; rw [h n (by omega) hs]
theorem gat_inj {x y S n : Nat} (h : (gatF x S n).1 = (gatF y S n).1) : ∀ i, i < n → S.testBit i = true → x.testBit i = y.testBit i := fun i hi hb => by
  rw [← gat_bit (x := x) n hi hb, h, gat_bit n hi hb]
/-- the next position: j is the place of the name i in S, bits below it fall, it rises -/
theorem gat_step {x y S i : Nat} (hlx : ∀ q, q < i → S.testBit q = true → x.testBit q = true) (hly : ∀ q, q < i → S.testBit q = true → y.testBit q = false) (hx : x.testBit i = false) (hy : y.testBit i = true) (hh : ∀ q, i < q → S.testBit q = true → x.testBit q = y.testBit q) : ∀ k, (gatF y S (i + 1 + k)).1 + (2 ^ pc_n S i - 1) = (gatF x S (i + 1 + k)).1 + b_ S i * 2 ^ pc_n S i
  | 0 => by
    have lo : ∀ m, m ≤ i → (gatF x S m).1 = 2 ^ pc_n S m - 1 ∧ (gatF y S m).1 = 0 := by
      intro m
      induction m with
      | zero => intro _; exact ⟨rfl, rfl⟩
      | succ m ih =>
        intro hm
        obtain ⟨a, b⟩ := ih (by omega)
        cases hs : S.testBit m with
        | false => rw [gat_n hs, gat_n hs, a, b]; simp [pc_n, hs]
        | true =>
          rw [gat_s hs, gat_s hs, a, b]
          have e1 : pc_n S (m + 1) = pc_n S m + 1 := by simp [pc_n, hs]
          have p := Nat.two_pow_pos (pc_n S m)
          unfold b_
          rw [hlx m (by omega) hs, hly m (by omega) hs, e1, Nat.pow_succ]
          simp
          omega
    obtain ⟨a, b⟩ := lo i (Nat.le_refl _)
    show (gatF y S (i + 1)).1 + _ = (gatF x S (i + 1)).1 + _
    cases hs : S.testBit i with
    | false => rw [gat_n hs, gat_n hs, a, b]; unfold b_; rw [hs]; simp
    | true =>
      rw [gat_s hs, gat_s hs, a, b]
      unfold b_
      rw [hx, hy, hs]
      simp
      omega
  | k + 1 => by
    have ih := gat_step hlx hly hx hy hh k
    show (gatF y S (i + 1 + k + 1)).1 + _ = (gatF x S (i + 1 + k + 1)).1 + _
    cases hs : S.testBit (i + 1 + k) with
    | false => rw [gat_n hs, gat_n hs]; exact ih
    | true =>
      rw [gat_s hs, gat_s hs]
      have : b_ y (i + 1 + k) = b_ x (i + 1 + k) := by unfold b_; rw [hh _ (by omega) hs]
      rw [this]
      omega
/-- spread, the first name gets the highest bit -/
def rsF (S : Nat) : Nat → Nat → Nat
  | 0, _ => 0
  | n + 1, v => if S.testBit n = true then rsF S n (v / 2) ||| (v % 2) * 2 ^ n else rsF S n v
theorem rs_lt {S : Nat} : ∀ n v, rsF S n v < 2 ^ n
  | 0, v => by simp [rsF]
  | n + 1, v => by
    have pw : (2 : Nat) ^ n < 2 ^ (n + 1) := Nat.pow_lt_pow_right (by decide) (by omega)
    simp only [rsF]
    split
    · have := rs_lt (S := S) n (v / 2)
      refine Nat.or_lt_two_pow (by omega) ?_
      have : v % 2 = 0 ∨ v % 2 = 1 := by omega
      rcases this with q | q <;> rw [q] <;> simp <;> omega
    · have := rs_lt (S := S) n v
      omega
theorem rs_bit {S i : Nat} : ∀ n v, i < n → (rsF S n v).testBit i = (S.testBit i && v.testBit (pc_n S n - 1 - pc_n S i))
  | 0, v, h => by omega
  | n + 1, v, h => by
    cases hs : S.testBit n with
    | false =>
      have e : pc_n S (n + 1) = pc_n S n := by simp [pc_n, hs]
      simp only [rsF, hs, Bool.false_eq_true, if_false, e]
      by_cases c : i = n
      · subst c
        rw [Nat.testBit_lt_two_pow (rs_lt i v), hs]
        rfl
      · exact rs_bit n v (by omega)
    | true =>
      have e : pc_n S (n + 1) = pc_n S n + 1 := by simp [pc_n, hs]
      simp only [rsF, hs, if_true, Nat.testBit_or, e]
      by_cases c : i = n
      · subst c
        rw [Nat.testBit_lt_two_pow (rs_lt i _), hs, show pc_n S i + 1 - 1 - pc_n S i = 0 by omega, Nat.testBit_zero]
        have : v % 2 = 0 ∨ v % 2 = 1 := by omega
        rcases this with q | q <;> rw [q] <;> simp [Nat.testBit_two_pow_self]
      · rw [rs_bit n (v / 2) (by omega)]
        have z : ((v % 2) * 2 ^ n).testBit i = false := by
          have : v % 2 = 0 ∨ v % 2 = 1 := by omega
          rcases this with q | q <;> rw [q]
          · simp
          · rw [Nat.one_mul, Nat.testBit_two_pow]; exact decide_eq_false (fun z => c z.symm)
        rw [z, Bool.or_false]
        cases hb : S.testBit i with
        | false => rfl
        | true =>
          have := pc_lt (S := S) (show i < n by omega) hb
          rw [show pc_n S n + 1 - 1 - pc_n S i = pc_n S n - 1 - pc_n S i + 1 by omega, Nat.testBit_succ]
theorem sR_cad {F G : Nat → Cx} : ∀ n, sR (fun w => cad (F w) (G w)) n = cad (sR F n) (sR G n)
  | 0 => rfl
  | n + 1 => by simp only [sR, sR_cad n]; exact cad_4 _ _ _ _
theorem sR_rs {S : Nat} : ∀ {n : Nat} {F : Nat → Cx}, sR (fun v => F (rsF S n v)) (2 ^ pc_n S n) = Sn S n F
  | 0, F => cad_0' _
  | n + 1, F => by
    cases hs : S.testBit n with
    | false =>
      have e : pc_n S (n + 1) = pc_n S n := by simp [pc_n, hs]
      rw [e]
      simp only [Sn, rsF, hs, Bool.false_eq_true, if_false]
      exact sR_rs
    | true =>
      have e : pc_n S (n + 1) = pc_n S n + 1 := by simp [pc_n, hs]
      rw [e, Nat.pow_succ, Nat.mul_comm, sR_two]
      simp only [Sn, rsF, hs, if_true]
      rw [← sR_rs (n := n), ← sR_rs (n := n) (F := fun v => F (v ||| 2 ^ n)), ← sR_cad]
      refine sR_congr (fun w _ => ?_)
      have a1 : 2 * w / 2 = w := by omega
      have a2 : 2 * w % 2 = 0 := by omega
      have a3 : (2 * w + 1) / 2 = w := by omega
      have a4 : (2 * w + 1) % 2 = 1 := by omega
      rw [a1, a2, a3, a4, Nat.zero_mul, Nat.or_zero, Nat.one_mul]
/-- the product of those of c numbers that P names -/
def prT (P : Nat → Bool) (e : Nat → Cx) : Nat → Cx
  | 0 => c1_
  | t + 1 => if P t = true then cmu (prT P e t) (e t) else prT P e t
theorem prT_congr {P P' : Nat → Bool} {e e' : Nat → Cx} : ∀ c, (∀ t, t < c → P t = P' t) → (∀ t, t < c → P t = true → e t = e' t) → prT P e c = prT P' e' c
  | 0, _, _ => rfl
  | c + 1, h, h2 => by
    have ih := prT_congr (P := P) (P' := P') (e := e) (e' := e') c (fun t ht => h t (by omega)) (fun t ht => h2 t (by omega))
    simp only [prT]
    rw [ih, ← h c (by omega)]
    split
    · rename_i q; rw [h2 c (by omega) q]
    · rfl
theorem pr_key (x y : Bool) (A B C E : Cx) (ih : cmu A B = C) (d : ¬ (x = true ∧ y = true)) : cmu (if x = true then cmu A E else A) (if y = true then cmu B E else B) = if (x || y) = true then cmu C E else C := by
  cases x <;> cases y <;> simp only [Bool.or_false, Bool.or_true, Bool.false_eq_true, if_false, if_true]
  · exact ih
  · rw [← cmu_a, ih]
  · rw [cmu_a, cmu_c E, ← cmu_a, ih]
  · exact absurd ⟨rfl, rfl⟩ d
theorem prT_mul {P P' : Nat → Bool} {e : Nat → Cx} : ∀ c, (∀ t, t < c → ¬ (P t = true ∧ P' t = true)) → cmu (prT P e c) (prT P' e c) = prT (fun t => P t || P' t) e c
  | 0, _ => cmu_1 _
  | c + 1, h => by
    have ih := prT_mul (P := P) (P' := P') (e := e) c (fun t ht => h t (by omega))
    exact pr_key (P c) (P' c) _ _ _ _ ih (h c (by omega))
/-- one level of the model's product -/
def mlP (bh : Nat → Nat) (e : Nat → Cx) (d : Nat) (s : Cx) : Nat → Cx
  | 0 => s
  | t + 1 => if bh t = d then cmu (mlP bh e d s t) (e t) else mlP bh e d s t
def Pd (bh : Nat → Nat) (e : Nat → Cx) (c : Nat) : Nat → Cx
  | 0 => mlP bh e 0 c1_ c
  | d + 1 => mlP bh e (d + 1) (Pd bh e c d) c
theorem mlP_pr {bh : Nat → Nat} {e : Nat → Cx} {d : Nat} {s : Cx} : ∀ c, mlP bh e d s c = cmu s (prT (fun t => decide (bh t = d)) e c)
  | 0 => (cmu_1 s).symm
  | c + 1 => by
    simp only [mlP, prT, mlP_pr c]
    by_cases q : bh c = d
    · simp [q, cmu_a]
    · simp [q]
theorem Pd_pr {bh : Nat → Nat} {e : Nat → Cx} {c : Nat} : ∀ d, Pd bh e c d = prT (fun t => decide (bh t ≤ d)) e c
  | 0 => by
    rw [Pd, mlP_pr, cmu_1']
    exact prT_congr c (fun t _ => by by_cases q : bh t = 0 <;> simp [q]) (fun _ _ _ => rfl)
  | d + 1 => by
    rw [Pd, mlP_pr, Pd_pr d, prT_mul c (fun t _ q => by simp at q; omega)]
    refine prT_congr c (fun t _ => ?_) (fun _ _ _ => rfl)
    by_cases q : bh t ≤ d
    · simp [q, show bh t ≤ d + 1 by omega]
    · by_cases q2 : bh t = d + 1
      · simp [q2]
      · simp [q, q2, show ¬ bh t ≤ d + 1 by omega]
