-- THE MATHEMATICS OF CONTRACTION: what a set of tensors is together
theorem sub_bit {v S n : Nat} (h : v &&& S = v) (hb : v.testBit n = true) : S.testBit n = true := by
  rw [← h, Nat.testBit_and, Bool.and_eq_true] at hb
  exact hb.2
theorem par_add (a b : Nat) : (decide (a % 2 = 1) ^^ decide (b % 2 = 1)) = decide ((a + b) % 2 = 1) := by
  have h1 : a % 2 = 0 ∨ a % 2 = 1 := by omega
  have h2 : b % 2 = 0 ∨ b % 2 = 1 := by omega
  rcases h1 with h1 | h1 <;> rcases h2 with h2 | h2
  · rw [decide_eq_false (show ¬ a % 2 = 1 by omega), decide_eq_false (show ¬ b % 2 = 1 by omega), decide_eq_false (show ¬ (a + b) % 2 = 1 by omega)]; rfl
  · rw [decide_eq_false (show ¬ a % 2 = 1 by omega), decide_eq_true (show b % 2 = 1 by omega), decide_eq_true (show (a + b) % 2 = 1 by omega)]; rfl
  · rw [decide_eq_true (show a % 2 = 1 by omega), decide_eq_false (show ¬ b % 2 = 1 by omega), decide_eq_true (show (a + b) % 2 = 1 by omega)]; rfl
  · rw [decide_eq_true (show a % 2 = 1 by omega), decide_eq_true (show b % 2 = 1 by omega), decide_eq_false (show ¬ (a + b) % 2 = 1 by omega)]; rfl
theorem lgx_bit {g : Nat → Option Nat} {n : Nat} : ∀ p, (lgx g p).testBit n = decide (ctP (f1_ n) g p % 2 = 1)
  | 0 => by simp [lgx, ctP]
  | p + 1 => by
    have e : (ob_ (g p)).testBit n = decide (f1_ n (g p) % 2 = 1) := by
      unfold ob_ f1_
      cases q : g p with
      | none => simp
      | some k =>
        simp only [Nat.testBit_two_pow, Option.some.injEq]
        by_cases z : k = n <;> simp [z]
    show (lgx g p ^^^ ob_ (g p)).testBit n = decide ((ctP (f1_ n) g p + f1_ n (g p)) % 2 = 1)
    rw [Nat.testBit_xor, lgx_bit p, e]
    exact par_add _ _
/-- how often a name is used within a set of tensors -/
def csn (pl : Nat → Nat) (la : Nat → Option Nat) (S n : Nat) : Nat → Nat
  | 0 => 0
  | t + 1 => csn pl la S n t + (if S.testBit t = true then ctP (f1_ n) (fun p => la (6 * t + p)) (pl t) else 0)
abbrev cs (pl : Nat → Nat) (la : Nat → Option Nat) (S n : Nat) : Nat := csn pl la S n 10
theorem LG_bit {pl : Nat → Nat} {la : Nat → Option Nat} {S n : Nat} : ∀ m, (LGn (LE pl la) S m).testBit n = decide (csn pl la S n m % 2 = 1)
  | 0 => by simp [LGn, csn]
  | m + 1 => by
    show (LGn (LE pl la) S m ^^^ (if S.testBit m = true then LE pl la m else 0)).testBit n = decide ((csn pl la S n m + (if S.testBit m = true then ctP (f1_ n) (fun p => la (6 * m + p)) (pl m) else 0)) % 2 = 1)
    rw [Nat.testBit_xor, LG_bit m]
    have e : (if S.testBit m = true then LE pl la m else 0).testBit n = decide ((if S.testBit m = true then ctP (f1_ n) (fun p => la (6 * m + p)) (pl m) else 0) % 2 = 1) := by
      split
      · exact lgx_bit _
      · simp
    rw [e]
    exact par_add _ _
theorem csn_or {pl : Nat → Nat} {la : Nat → Option Nat} {A C n : Nat} (hd : A &&& C = 0) : ∀ m, csn pl la (A ||| C) n m = csn pl la A n m + csn pl la C n m
  | 0 => rfl
  | m + 1 => by
    simp only [csn, csn_or hd m, Nat.testBit_or]
    have z : (A &&& C).testBit m = false := by rw [hd]; simp
    rw [Nat.testBit_and] at z
    cases a : A.testBit m <;> cases b : C.testBit m <;> simp_all <;> omega
theorem csn_le {pl : Nat → Nat} {la : Nat → Option Nat} {S n c : Nat} (hS : S < 2 ^ c) : ∀ m, csn pl la S n m ≤ CT c pl la n
  | 0 => Nat.zero_le _
  | m + 1 => by
    have key : ∀ m, m ≤ c → csn pl la S n m ≤ ctT (f1_ n) pl la m := by
      intro m
      induction m with
      | zero => intro _; exact Nat.le_refl _
      | succ m ih =>
        intro h
        have := ih (by omega)
        simp only [csn, ctT]
        split <;> omega
    by_cases h : m + 1 ≤ c
    · have mono : ∀ k, ctT (f1_ n) pl la (m + 1) ≤ ctT (f1_ n) pl la (m + 1 + k) := by
        intro k
        induction k with
        | zero => exact Nat.le_refl _
        | succ k ih => show _ ≤ ctT (f1_ n) pl la (m + 1 + k) + _; omega
      have := mono (c - (m + 1))
      rw [show m + 1 + (c - (m + 1)) = c by omega] at this
      exact Nat.le_trans (key _ h) this
    · have z : S.testBit m = false := Nat.testBit_lt_two_pow (Nat.lt_of_lt_of_le hS (Nat.pow_le_pow_right (by decide) (by omega)))
      simp only [csn, z, Bool.false_eq_true, if_false, Nat.add_zero]
      exact csn_le hS m
theorem csn_one {pl : Nat → Nat} {la : Nat → Option Nat} {t n : Nat} : ∀ m, csn pl la (2 ^ t) n m = if t < m then ctP (f1_ n) (fun p => la (6 * t + p)) (pl t) else 0
  | 0 => rfl
  | m + 1 => by
    simp only [csn, csn_one m, Nat.testBit_two_pow]
    by_cases e : t = m
    · subst e; simp
    · by_cases d : t < m
      · simp [d, e, show t < m + 1 by omega]
      · simp [d, e, show ¬ t < m + 1 by omega]
theorem csn_all {pl : Nat → Nat} {la : Nat → Option Nat} {c n : Nat} : ∀ m, csn pl la (2 ^ c - 1) n m = ctT (f1_ n) pl la (min c m)
  | 0 => by simp [csn, ctT]
  | m + 1 => by
    simp only [csn, csn_all m, Nat.testBit_two_pow_sub_one]
    by_cases h : m < c
    · rw [show min c m = m by omega, show min c (m + 1) = m + 1 by omega]
      simp [h, ctT]
    · rw [show min c m = c by omega, show min c (m + 1) = c by omega]
      simp [h]
theorem csn_pos {pl : Nat → Nat} {la : Nat → Option Nat} {S t p n : Nat} (hS : S.testBit t = true) (hp : p < pl t) (e : la (6 * t + p) = some n) : ∀ m, t < m → 1 ≤ csn pl la S n m
  | 0, h => by omega
  | m + 1, h => by
    simp only [csn]
    by_cases d : t = m
    · subst d
      rw [if_pos hS]
      have := ctP_pos (g := fun p => la (6 * t + p)) e (pl t) hp
      omega
    · have := csn_pos hS hp e m (by omega)
      omega
/-- the legs of a set that are not free; the names that lie within it -/
def BS (c : Nat) (pl : Nat → Nat) (la : Nat → Option Nat) (S : Nat) : Nat := anN (LG (LE pl la) S) (OPN c pl la)
def IS (pl : Nat → Nat) (la : Nat → Option Nat) (S : Nat) : Nat := nuF (fun n => cs pl la S n) 2 20
theorem IS_lt {pl : Nat → Nat} {la : Nat → Option Nat} {S : Nat} : IS pl la S < 2 ^ 20 := nuF_lt 20
theorem IS_bit {pl : Nat → Nat} {la : Nat → Option Nat} {S n : Nat} : (IS pl la S).testBit n = decide (n < 20 ∧ cs pl la S n = 2) := nuF_bit 20
theorem BS_bit {c : Nat} {pl : Nat → Nat} {la : Nat → Option Nat} {S n : Nat} : (BS c pl la S).testBit n = decide (cs pl la S n % 2 = 1 ∧ CT c pl la n ≠ 1) := by
  unfold BS
  rw [anN_bit, LG_bit, OPN_bit]
  by_cases a : csn pl la S n 10 % 2 = 1 <;> by_cases b : CT c pl la n = 1 <;> simp [a, b]
theorem BS_lt {c : Nat} {pl : Nat → Nat} {la : Nat → Option Nat} (hN : netOK c pl la) {S : Nat} (hS : S < 2 ^ c) : BS c pl la S < 2 ^ 20 := anN_lt (LGn_lt (fun t ht => LE_lt hN ht) hS 10)
theorem BS_xor {c : Nat} {pl : Nat → Nat} {la : Nat → Option Nat} {A C : Nat} : BS c pl la (A ^^^ C) = BS c pl la A ^^^ BS c pl la C := by
  apply Nat.eq_of_testBit_eq
  intro n
  unfold BS
  rw [Nat.testBit_xor, anN_bit, anN_bit, anN_bit, LG, LGn_xor, Nat.testBit_xor]
  cases (LGn (LE pl la) A 10).testBit n <;> cases (LGn (LE pl la) C 10).testBit n <;> cases (OPN c pl la).testBit n <;> rfl
/-- what a set is together, for values of its legs -/
def TB (c : Nat) (pl : Nat → Nat) (la : Nat → Option Nat) (re im : Nat → Int32) (so sx : Int32) (S x : Nat) : Cx := Sn (IS pl la S) 20 (fun y => prT (fun t => S.testBit t) (EV pl la re im so sx (y ||| x)) c)
theorem EV_congr {pl : Nat → Nat} {la : Nat → Option Nat} {re im : Nat → Int32} {so sx : Int32} {x y t : Nat} (h : ∀ p n, p < pl t → la (6 * t + p) = some n → x.testBit n = y.testBit n) : EV pl la re im so sx x t = EV pl la re im so sx y t := by
  unfold EV
  rw [ixV_congr (vo' := b_ y) (pl t) (fun q n hq e => by unfold b_; rw [h q n hq e])]
theorem nam_lt {c : Nat} {pl : Nat → Nat} {la : Nat → Option Nat} (hN : netOK c pl la) {t p n : Nat} (ht : t < c) (hp : p < pl t) (e : la (6 * t + p) = some n) : n < 20 := hN.2.2.1 _ n (by have := hN.2.1 t ht; have := hN.1; omega) e
theorem join_key (k y1 y2 v om BA : Bool) (a d N : Nat) (h1 : y1 = true → a = 2) (h2 : y2 = true → d = 2) (h3 : k = true → (a % 2 = 1 ∧ d % 2 = 1) ∧ N ≠ 1) (h4 : v = true → (a + d) % 2 = 1 ∧ N ≠ 1) (h5 : om = true → N = 1) (h6 : BA = decide (a % 2 = 1 ∧ N ≠ 1)) (ha : 1 ≤ a) (hN : a + d ≤ N) (hN2 : N ≤ 2) : ((k || (y1 || y2)) || (v || om)) = (y1 || (((v || k) && BA) || om)) := by
  have b : BA = true ↔ (a % 2 = 1 ∧ N ≠ 1) := by rw [h6]; exact decide_eq_true_iff
  cases k <;> cases y1 <;> cases y2 <;> cases v <;> cases om <;> cases BA <;> first | rfl | (exfalso; simp at h1 h2 h3 h4 h5 b; omega)
section CMATH
variable {c : Nat} {pl : Nat → Nat} {la : Nat → Option Nat} {re im : Nat → Int32} {so sx : Int32}
/-- two disjoint sets joined -/
theorem join_math (hN : netOK c pl la) {A C : Nat} (hA : A < 2 ^ c) (hC : C < 2 ^ c) (hd : A &&& C = 0) {v om : Nat} (hv : v &&& BS c pl la (A ||| C) = v) (hom : om &&& OPN c pl la = om) :
    TB c pl la re im so sx (A ||| C) (v ||| om) = Sn (BS c pl la A &&& BS c pl la C) 20 (fun k => cmu (TB c pl la re im so sx A (((v ||| k) &&& BS c pl la A) ||| om)) (TB c pl la re im so sx C (((v ||| k) &&& BS c pl la C) ||| om))) := by
  have hc := hN.1
  have hAC : A ||| C < 2 ^ c := Nat.or_lt_two_pow hA hC
  have le2 : ∀ n, cs pl la A n + cs pl la C n ≤ CT c pl la n ∧ CT c pl la n ≤ 2 := fun n => by
    have e := csn_or (pl := pl) (la := la) (n := n) hd 10
    have := csn_le (pl := pl) (la := la) (n := n) hAC 10
    exact ⟨by show csn pl la A n 10 + csn pl la C n 10 ≤ _; rw [← e]; exact this, hN.2.2.2.1 n⟩
  have eI : IS pl la (A ||| C) = (BS c pl la A &&& BS c pl la C) ||| (IS pl la A ||| IS pl la C) := by
    apply Nat.eq_of_testBit_eq
    intro n
    have := le2 n
    by_cases h20 : n < 20
    · rw [Nat.testBit_or, Nat.testBit_and, Nat.testBit_or, IS_bit, IS_bit, IS_bit, BS_bit, BS_bit, show cs pl la (A ||| C) n = cs pl la A n + cs pl la C n from csn_or hd 10]
      generalize cs pl la A n = a at *
      generalize cs pl la C n = d at *
      have ha : a = 0 ∨ a = 1 ∨ a = 2 := by omega
      have hd' : d = 0 ∨ d = 1 ∨ d = 2 := by omega
      rcases ha with rfl | rfl | rfl <;> rcases hd' with rfl | rfl | rfl <;> simp [h20] <;> omega
    · rw [bit20 IS_lt (by omega), Nat.testBit_or, Nat.testBit_or, bit20 IS_lt (by omega), bit20 IS_lt (by omega), Nat.testBit_and, bit20 (BS_lt hN hA) (by omega)]
      rfl
  have d1 : (BS c pl la A &&& BS c pl la C) &&& (IS pl la A ||| IS pl la C) = 0 := by
    apply Nat.eq_of_testBit_eq
    intro n
    rw [Nat.testBit_and, Nat.testBit_and, Nat.testBit_or, IS_bit, IS_bit, BS_bit, BS_bit, Nat.zero_testBit]
    generalize cs pl la A n = a
    generalize cs pl la C n = d
    by_cases x1 : a = 2
    · subst x1; simp
    · by_cases x2 : d = 2
      · subst x2; simp
      · simp [x1, x2]
  have d2 : IS pl la A &&& IS pl la C = 0 := by
    apply Nat.eq_of_testBit_eq
    intro n
    have := le2 n
    rw [Nat.testBit_and, IS_bit, IS_bit, Nat.zero_testBit]
    generalize cs pl la A n = a at *
    generalize cs pl la C n = d at *
    by_cases x1 : a = 2
    · simp [x1]; omega
    · simp [x1]
  have vb : ∀ n, v.testBit n = true → (cs pl la A n + cs pl la C n) % 2 = 1 ∧ CT c pl la n ≠ 1 := fun n hb => by
    have := sub_bit hv hb
    rw [BS_bit, show cs pl la (A ||| C) n = cs pl la A n + cs pl la C n from csn_or hd 10] at this
    exact of_decide_eq_true this
  have ob : ∀ n, om.testBit n = true → CT c pl la n = 1 := fun n hb => by
    have := sub_bit hom hb
    rw [OPN_bit] at this
    exact of_decide_eq_true this
  unfold TB
  rw [eI, Sn_or d1]
  refine Sn_congr (fun k _ hk => ?_)
  have kb : ∀ n, k.testBit n = true → (cs pl la A n % 2 = 1 ∧ cs pl la C n % 2 = 1) ∧ CT c pl la n ≠ 1 := fun n hb => by
    have := sub_bit hk hb
    rw [Nat.testBit_and, BS_bit, BS_bit, Bool.and_eq_true] at this
    exact ⟨⟨(of_decide_eq_true this.1).1, (of_decide_eq_true this.2).1⟩, (of_decide_eq_true this.1).2⟩
  rw [Sn_or d2]
  rw [cmu_c, ← Sn_mul]
  refine Sn_congr (fun y1 _ hy1 => ?_)
  have b1 : ∀ n, y1.testBit n = true → cs pl la A n = 2 := fun n hb => by
    have := sub_bit hy1 hb
    rw [IS_bit] at this
    exact (of_decide_eq_true this).2
  rw [cmu_c, ← Sn_mul]
  refine Sn_congr (fun y2 _ hy2 => ?_)
  have b2 : ∀ n, y2.testBit n = true → cs pl la C n = 2 := fun n hb => by
    have := sub_bit hy2 hb
    rw [IS_bit] at this
    exact (of_decide_eq_true this).2
  have e1 : prT (fun t => A.testBit t) (EV pl la re im so sx (y1 ||| (((v ||| k) &&& BS c pl la A) ||| om))) c = prT (fun t => A.testBit t) (EV pl la re im so sx ((k ||| (y1 ||| y2)) ||| (v ||| om))) c := by
    refine prT_congr c (fun _ _ => rfl) (fun t ht hb => EV_congr (fun p n hp e => ?_))
    have pos : 1 ≤ cs pl la A n := csn_pos hb hp e 10 (by omega)
    simp only [Nat.testBit_or, Nat.testBit_and]
    exact (join_key _ _ _ _ _ _ (cs pl la A n) (cs pl la C n) (CT c pl la n) (b1 n) (b2 n) (kb n) (vb n) (ob n) BS_bit pos (le2 n).1 (le2 n).2).symm
  have e2 : prT (fun t => C.testBit t) (EV pl la re im so sx (y2 ||| (((v ||| k) &&& BS c pl la C) ||| om))) c = prT (fun t => C.testBit t) (EV pl la re im so sx ((k ||| (y1 ||| y2)) ||| (v ||| om))) c := by
    refine prT_congr c (fun _ _ => rfl) (fun t ht hb => EV_congr (fun p n hp e => ?_))
    have pos : 1 ≤ cs pl la C n := csn_pos hb hp e 10 (by omega)
    simp only [Nat.testBit_or, Nat.testBit_and]
    rw [Bool.or_comm (y1.testBit n) (y2.testBit n)]
    refine (join_key _ _ _ _ _ _ (cs pl la C n) (cs pl la A n) (CT c pl la n) (b2 n) (b1 n) (fun q => ⟨⟨(kb n q).1.2, (kb n q).1.1⟩, (kb n q).2⟩) (fun q => by rw [Nat.add_comm]; exact vb n q) (ob n) BS_bit pos (by have := (le2 n).1; omega) (le2 n).2).symm
  rw [e1, e2, prT_mul c (fun t _ q => by
    have z : (A &&& C).testBit t = true := by rw [Nat.testBit_and, q.1, q.2]; rfl
    rw [hd] at z
    simp at z)]
  exact prT_congr c (fun t _ => Nat.testBit_or A C t) (fun _ _ _ => rfl)
theorem prT_one {e : Nat → Cx} {t : Nat} : ∀ c, prT (fun q => (2 ^ t).testBit q) e c = if t < c then e t else c1_
  | 0 => rfl
  | c + 1 => by
    show (if (2 ^ t).testBit c = true then cmu (prT (fun q => (2 ^ t).testBit q) e c) (e c) else prT (fun q => (2 ^ t).testBit q) e c) = _
    rw [prT_one c, Nat.testBit_two_pow]
    by_cases q : t = c
    · subst q; simp [cmu_1']
    · by_cases d : t < c
      · simp [q, d, show t < c + 1 by omega]
      · simp [q, d, show ¬ t < c + 1 by omega]
theorem nwb_bit {g : Nat → Option Nat} {x v n : Nat} : ∀ m, (nwb g x v m).testBit n = true ↔ ∃ p, p < m ∧ g p = some n ∧ x / 2 ^ p % 2 = v
  | 0 => by simp [nwb]
  | m + 1 => by
    have ih := nwb_bit (g := g) (x := x) (v := v) (n := n) m
    simp only [nwb]
    constructor
    · intro h
      by_cases q : x / 2 ^ m % 2 = v
      · rw [if_pos q, Nat.testBit_or, Bool.or_eq_true] at h
        rcases h with h | h
        · obtain ⟨p, p1, p2⟩ := ih.mp h
          exact ⟨p, by omega, p2⟩
        · refine ⟨m, by omega, ?_, q⟩
          cases e : g m with
          | none => rw [e] at h; simp [ob_] at h
          | some k =>
            rw [e] at h
            have h : (2 ^ k).testBit n = true := h
            rw [Nat.testBit_two_pow] at h
            rw [of_decide_eq_true h]
      · rw [if_neg q] at h
        obtain ⟨p, p1, p2⟩ := ih.mp h
        exact ⟨p, by omega, p2⟩
    · rintro ⟨p, p1, p2, p3⟩
      by_cases d : p = m
      · subst d
        rw [if_pos p3, Nat.testBit_or, p2]
        simp [ob_, Nat.testBit_two_pow]
      · have z := ih.mpr ⟨p, by omega, p2, p3⟩
        split
        · rw [Nat.testBit_or, z]; rfl
        · exact z
theorem bit_dm (x p : Nat) : (x / 2 ^ p % 2 = 1) = (x.testBit p = true) := by
  rw [← hv_bit_eq, Nat.and_one_is_mod]
theorem bit_dm0 (x p : Nat) : (x / 2 ^ p % 2 = 0) = (x.testBit p = false) := by
  have := bit_dm x p
  cases h : x.testBit p
  · rw [h] at this; simp at this; simp; omega
  · rw [h] at this; simp at this; simp; omega
theorem ixV_bit {g : Nat → Option Nat} {x : Nat} : ∀ {m p : Nat} {n : Nat}, p < m → g p = some n → (ixV g (b_ x) m).testBit p = x.testBit n
  | 0, p, n, hp, _ => by omega
  | m + 1, p, n, hp, e => by
    simp only [ixV, Nat.testBit_or]
    by_cases d : p = m
    · subst d
      have z : (ixV g (b_ x) p).testBit p = false := Nat.testBit_lt_two_pow (ixV_lt p (fun q n _ _ => by unfold b_; split <;> omega))
      rw [z, e]
      show (false || (b_ x n * 2 ^ p).testBit p) = _
      unfold b_
      cases x.testBit n
      · simp
      · simp [Nat.testBit_two_pow_self]
    · rw [ixV_bit (show p < m by omega) e]
      have z : (nmV (b_ x) (g m) * 2 ^ m).testBit p = false := by
        rw [Nat.testBit_mul_two_pow]
        simp [show ¬ m ≤ p by omega]
      rw [z, Bool.or_false]
theorem ix_iff {g : Nat → Option Nat} {x m i : Nat} (hn : ∀ p, p < m → ∃ n, g p = some n) (hi : i < 2 ^ m) : i = ixV g (b_ x) m ↔ ∀ p n, p < m → g p = some n → i.testBit p = x.testBit n := by
  constructor
  · intro h p n hp e
    rw [h]
    exact ixV_bit hp e
  · intro h
    apply Nat.eq_of_testBit_eq
    intro p
    by_cases hp : p < m
    · obtain ⟨n, e⟩ := hn p hp
      rw [h p n hp e, ixV_bit hp e]
    · rw [Nat.testBit_lt_two_pow (Nat.lt_of_lt_of_le hi (Nat.pow_le_pow_right (by decide) (by omega))), Nat.testBit_lt_two_pow (Nat.lt_of_lt_of_le (ixV_lt m (fun q n _ _ => by unfold b_; split <;> omega)) (Nat.pow_le_pow_right (by decide) (by omega)))]
/-- does an entry count, and where -/
abbrev adOK (c : Nat) (pl : Nat → Nat) (la : Nat → Option Nat) (t om i : Nat) : Prop := nwb (fun p => la (6 * t + p)) i 1 (pl t) &&& nwb (fun p => la (6 * t + p)) i 0 (pl t) = 0 ∧ nwb (fun p => la (6 * t + p)) i 1 (pl t) &&& OPN c pl la = om &&& (nwb (fun p => la (6 * t + p)) i 1 (pl t) ||| nwb (fun p => la (6 * t + p)) i 0 (pl t))
abbrev adP (c : Nat) (pl : Nat → Nat) (la : Nat → Option Nat) (t i : Nat) : Nat := (gatF (nwb (fun p => la (6 * t + p)) i 1 (pl t)) (BS c pl la (2 ^ t)) 20).1
theorem leaf_math (hN : netOK c pl la) (hnm : ∀ t p, t < c → p < pl t → ∃ n, la (6 * t + p) = some n ∧ n < 20) {t : Nat} (ht : t < c) {v om : Nat} (hom : om &&& OPN c pl la = om) :
    TB c pl la re im so sx (2 ^ t) ((v &&& BS c pl la (2 ^ t)) ||| om) = sR (fun i => if adOK c pl la t om i ∧ adP c pl la t i = (gatF v (BS c pl la (2 ^ t)) 20).1 then enK so sx re im t i else c0_) (2 ^ pl t) := by
  have hc := hN.1
  have h2 : 2 ^ t < 2 ^ c := Nat.pow_lt_pow_right (by decide) ht
  have hg : ∀ p, p < pl t → ∃ n, (fun p => la (6 * t + p)) p = some n := fun p hp => by obtain ⟨n, e, _⟩ := hnm t p ht hp; exact ⟨n, e⟩
  have ob : ∀ n, om.testBit n = true → CT c pl la n = 1 := fun n hb => by
    have := sub_bit hom hb
    rw [OPN_bit] at this
    exact of_decide_eq_true this
  have csl : ∀ n, cs pl la (2 ^ t) n ≤ CT c pl la n ∧ CT c pl la n ≤ 2 := fun n => ⟨csn_le h2 10, hN.2.2.2.1 n⟩
  have pos : ∀ p n, p < pl t → la (6 * t + p) = some n → 1 ≤ cs pl la (2 ^ t) n ∧ n < 20 := fun p n hp e => ⟨csn_pos (by simp [Nat.testBit_two_pow_self]) hp e 10 (by omega), nam_lt hN ht hp e⟩
  have key : ∀ i, i < 2 ^ pl t → ∀ y, y &&& IS pl la (2 ^ t) = y → (i = ixV (fun p => la (6 * t + p)) (b_ (y ||| ((v &&& BS c pl la (2 ^ t)) ||| om))) (pl t) ↔ ((adOK c pl la t om i ∧ adP c pl la t i = (gatF v (BS c pl la (2 ^ t)) 20).1) ∧ y = nwb (fun p => la (6 * t + p)) i 1 (pl t) &&& IS pl la (2 ^ t))) := by
    intro i hi y hy
    have b1 : ∀ n, y.testBit n = true → cs pl la (2 ^ t) n = 2 := fun n hb => by
      have := sub_bit hy hb
      rw [IS_bit] at this
      exact (of_decide_eq_true this).2
    have Hi : ∀ n, (nwb (fun p => la (6 * t + p)) i 1 (pl t)).testBit n = true ↔ ∃ p, p < pl t ∧ la (6 * t + p) = some n ∧ i.testBit p = true := fun n => by
      rw [nwb_bit]
      simp only [bit_dm]
    have Lo : ∀ n, (nwb (fun p => la (6 * t + p)) i 0 (pl t)).testBit n = true ↔ ∃ p, p < pl t ∧ la (6 * t + p) = some n ∧ i.testBit p = false := fun n => by
      rw [nwb_bit]
      simp only [bit_dm0]
    rw [ix_iff hg hi]
    unfold adOK adP
    generalize nwb (fun p => la (6 * t + p)) i 1 (pl t) = H at *
    generalize nwb (fun p => la (6 * t + p)) i 0 (pl t) = L at *
    constructor
    · intro h
      have hH : ∀ n, H.testBit n = true → (y ||| ((v &&& BS c pl la (2 ^ t)) ||| om)).testBit n = true := fun n q => by
        obtain ⟨p, p1, p2, p3⟩ := (Hi n).mp q
        rw [← h p n p1 p2]; exact p3
      have hL : ∀ n, L.testBit n = true → (y ||| ((v &&& BS c pl la (2 ^ t)) ||| om)).testBit n = false := fun n q => by
        obtain ⟨p, p1, p2, p3⟩ := (Lo n).mp q
        rw [← h p n p1 p2]; exact p3
      have hB : ∀ n, 1 ≤ cs pl la (2 ^ t) n → n < 20 → (∃ p, p < pl t ∧ la (6 * t + p) = some n) := fun n q _ => by
        have e : cs pl la (2 ^ t) n = ctP (f1_ n) (fun p => la (6 * t + p)) (pl t) := by
          show csn pl la (2 ^ t) n 10 = _
          rw [csn_one, if_pos (by omega)]
        rw [e] at q
        have ex : ∀ m, 1 ≤ ctP (f1_ n) (fun p => la (6 * t + p)) m → ∃ p, p < m ∧ la (6 * t + p) = some n := by
          intro m
          induction m with
          | zero => intro z; simp [ctP] at z
          | succ m ih =>
            intro z
            by_cases w : la (6 * t + m) = some n
            · exact ⟨m, by omega, w⟩
            · have e0 : f1_ n (la (6 * t + m)) = 0 := if_neg w
              have z : 1 ≤ ctP (f1_ n) (fun p => la (6 * t + p)) m + f1_ n (la (6 * t + m)) := z
              rw [e0] at z
              obtain ⟨p, p1, p2⟩ := ih z
              exact ⟨p, by omega, p2⟩
        exact ex _ q
      have Hv : ∀ n, 1 ≤ cs pl la (2 ^ t) n → n < 20 → H.testBit n = (y ||| ((v &&& BS c pl la (2 ^ t)) ||| om)).testBit n := fun n q q2 => by
        obtain ⟨p, p1, p2⟩ := hB n q q2
        cases w : (y ||| ((v &&& BS c pl la (2 ^ t)) ||| om)).testBit n
        · cases z : H.testBit n
          · rfl
          · rw [hH n z] at w; cases w
        · rw [← h p n p1 p2] at w
          exact (Hi n).mpr ⟨p, p1, p2, w⟩
      refine ⟨⟨⟨?_, ?_⟩, ?_⟩, ?_⟩
      · apply Nat.eq_of_testBit_eq
        intro n
        rw [Nat.testBit_and, Nat.zero_testBit]
        cases a : H.testBit n
        · rfl
        · cases b : L.testBit n
          · rfl
          · have := hH n a
            rw [hL n b] at this
            cases this
      · apply Nat.eq_of_testBit_eq
        intro n
        rw [Nat.testBit_and, Nat.testBit_and, Nat.testBit_or, OPN_bit]
        by_cases N1 : CT c pl la n = 1
        · rw [decide_eq_true N1, Bool.and_true]
          by_cases q : H.testBit n = true ∨ L.testBit n = true
          · have hp : 1 ≤ cs pl la (2 ^ t) n ∧ n < 20 := by
              rcases q with q | q
              · obtain ⟨p, p1, p2, _⟩ := (Hi n).mp q; exact pos p n p1 p2
              · obtain ⟨p, p1, p2, _⟩ := (Lo n).mp q; exact pos p n p1 p2
            have e := Hv n hp.1 hp.2
            have y0 : y.testBit n = false := by
              cases z : y.testBit n
              · rfl
              · have := b1 n z; have := csl n; omega
            have v0 : (v &&& BS c pl la (2 ^ t)).testBit n = false := by
              rw [Nat.testBit_and, BS_bit, decide_eq_false (fun z => z.2 N1), Bool.and_false]
            rw [Nat.testBit_or, Nat.testBit_or, y0, v0, Bool.false_or, Bool.false_or] at e
            have hl : (H.testBit n || L.testBit n) = true := by
              rcases q with q | q
              · rw [q]; rfl
              · rw [q, Bool.or_true]
            rw [hl, Bool.and_true, e]
          · have a : H.testBit n = false := by cases z : H.testBit n; rfl; exact absurd (Or.inl z) q
            have b : L.testBit n = false := by cases z : L.testBit n; rfl; exact absurd (Or.inr z) q
            rw [a, b]; simp
        · have o0 : om.testBit n = false := by
            cases z : om.testBit n
            · rfl
            · exact absurd (ob n z) N1
          rw [decide_eq_false N1, o0]; simp
      · refine gat_congr 20 (fun n hn hb => ?_)
        have hb' := hb
        rw [BS_bit] at hb'
        have w := of_decide_eq_true hb'
        rw [Hv n (by omega) hn, Nat.testBit_or, Nat.testBit_or, Nat.testBit_and, hb, Bool.and_true]
        have y0 : y.testBit n = false := by
          cases z : y.testBit n
          · rfl
          · have := b1 n z; omega
        have o0 : om.testBit n = false := by
          cases z : om.testBit n
          · rfl
          · exact absurd (ob n z) w.2
        rw [y0, o0]; simp
      · apply Nat.eq_of_testBit_eq
        intro n
        rw [Nat.testBit_and, IS_bit]
        by_cases q : n < 20 ∧ cs pl la (2 ^ t) n = 2
        · rw [decide_eq_true q, Bool.and_true, Hv n (by omega) q.1, Nat.testBit_or, Nat.testBit_or, Nat.testBit_and, BS_bit, decide_eq_false (fun z => by omega)]
          have o0 : om.testBit n = false := by
            cases z : om.testBit n
            · rfl
            · have := ob n z; have := csl n; omega
          rw [o0]; simp
        · rw [decide_eq_false q, Bool.and_false]
          cases z : y.testBit n
          · rfl
          · have a := sub_bit hy z
            rw [IS_bit] at a
            exact absurd (of_decide_eq_true a) q
    · rintro ⟨⟨⟨h1, h2'⟩, h3⟩, h4⟩ p n hp e
      have e : la (6 * t + p) = some n := e
      obtain ⟨q1, q2⟩ := pos p n hp e
      have iH : i.testBit p = H.testBit n := by
        cases z : i.testBit p
        · cases w : H.testBit n
          · rfl
          · have l : L.testBit n = true := (Lo n).mpr ⟨p, hp, e, z⟩
            have a : (H &&& L).testBit n = true := by rw [Nat.testBit_and, w, l]; rfl
            rw [h1] at a
            simp at a
        · exact ((Hi n).mpr ⟨p, hp, e, z⟩).symm
      have hl : (H.testBit n || L.testBit n) = true := by
        cases z : i.testBit p
        · rw [(Lo n).mpr ⟨p, hp, e, z⟩, Bool.or_true]
        · rw [(Hi n).mpr ⟨p, hp, e, z⟩]; rfl
      rw [iH, Nat.testBit_or, Nat.testBit_or, Nat.testBit_and]
      have cl := csl n
      have yb : y.testBit n = (H.testBit n && decide (n < 20 ∧ cs pl la (2 ^ t) n = 2)) := by
        rw [h4, Nat.testBit_and, IS_bit]
      have obn : (H.testBit n && decide (CT c pl la n = 1)) = om.testBit n := by
        have z := congrArg (fun w => Nat.testBit w n) h2'
        simp only [Nat.testBit_and, Nat.testBit_or, OPN_bit] at z
        rw [z, hl, Bool.and_true]
      have bb := BS_bit (c := c) (pl := pl) (la := la) (S := 2 ^ t) (n := n)
      by_cases c2 : cs pl la (2 ^ t) n = 2
      · rw [yb, decide_eq_true ⟨q2, c2⟩, bb, decide_eq_false (fun z => by omega), ← obn, decide_eq_false (by omega)]
        simp
      · rw [yb, decide_eq_false (fun z => c2 z.2)]
        by_cases N1 : CT c pl la n = 1
        · rw [bb, decide_eq_false (fun z => z.2 N1), ← obn, decide_eq_true N1]
          simp
        · have hb : (BS c pl la (2 ^ t)).testBit n = true := by rw [bb]; exact decide_eq_true ⟨by omega, N1⟩
          rw [hb, ← gat_inj h3 n q2 hb, ← obn, decide_eq_false N1]
          simp
  unfold TB
  have e1 : ∀ y, prT (fun q => (2 ^ t).testBit q) (EV pl la re im so sx (y ||| ((v &&& BS c pl la (2 ^ t)) ||| om))) c = sR (fun i => if i = ixV (fun p => la (6 * t + p)) (b_ (y ||| ((v &&& BS c pl la (2 ^ t)) ||| om))) (pl t) then enK so sx re im t i else c0_) (2 ^ pl t) := fun y => by
    rw [prT_one, if_pos ht, sR_pick, if_pos (ixV_lt _ (fun q n _ _ => by unfold b_; split <;> omega))]
    rfl
  rw [Sn_congr (fun y _ _ => e1 y), ← sR_sw]
  refine sR_congr (fun i hi => ?_)
  by_cases q : adOK c pl la t om i ∧ adP c pl la t i = (gatF v (BS c pl la (2 ^ t)) 20).1
  · rw [if_pos q]
    rw [Sn_congr (g := fun y => if y = nwb (fun p => la (6 * t + p)) i 1 (pl t) &&& IS pl la (2 ^ t) then enK so sx re im t i else c0_) (fun y _ hy => by
      by_cases w : i = ixV (fun p => la (6 * t + p)) (b_ (y ||| ((v &&& BS c pl la (2 ^ t)) ||| om))) (pl t)
      · rw [if_pos w, if_pos ((key i hi y hy).mp w).2]
      · rw [if_neg w, if_neg (fun z => w ((key i hi y hy).mpr ⟨q, z⟩))])]
    rw [Sn_pick (f := fun _ => enK so sx re im t i), if_pos ⟨by rw [Nat.and_assoc, Nat.and_self], Nat.lt_of_le_of_lt Nat.and_le_right IS_lt⟩]
  · rw [if_neg q, Sn_congr (g := fun _ => c0_) (fun y _ hy => if_neg (fun w => q ((key i hi y hy).mp w).1)), Sn_zero]
end CMATH
/-- the sum that the counting through all values makes -/
theorem join_sum {BA BC v : Nat} (hA : BA < 2 ^ 20) (hC : BC < 2 ^ 20) (F G : Nat → Cx) : sR (fun w => if (gatF (sprF w (BA ||| BC) 20).1 (BA ^^^ BC) 20).1 = (gatF v (BA ^^^ BC) 20).1 then cmu (F (gatF (sprF w (BA ||| BC) 20).1 BA 20).1) (G (gatF (sprF w (BA ||| BC) 20).1 BC 20).1) else c0_) (2 ^ pc_n (BA ||| BC) 20) = Sn (BA &&& BC) 20 (fun k => cmu (F (gatF ((v &&& (BA ^^^ BC)) ||| k) BA 20).1) (G (gatF ((v &&& (BA ^^^ BC)) ||| k) BC 20).1)) := by
  rw [sR_spr (F := fun V => if (gatF V (BA ^^^ BC) 20).1 = (gatF v (BA ^^^ BC) 20).1 then cmu (F (gatF V BA 20).1) (G (gatF V BC 20).1) else c0_)]
  have eU : BA ||| BC = (BA ^^^ BC) ||| (BA &&& BC) := by
    apply Nat.eq_of_testBit_eq
    intro n
    rw [Nat.testBit_or, Nat.testBit_or, Nat.testBit_xor, Nat.testBit_and]
    cases BA.testBit n <;> cases BC.testBit n <;> rfl
  have dU : (BA ^^^ BC) &&& (BA &&& BC) = 0 := by
    apply Nat.eq_of_testBit_eq
    intro n
    rw [Nat.testBit_and, Nat.testBit_xor, Nat.testBit_and, Nat.zero_testBit]
    cases BA.testBit n <;> cases BC.testBit n <;> rfl
  rw [eU, Sn_or dU]
  have kx : BA ^^^ BC < 2 ^ 20 := Nat.xor_lt_two_pow hA hC
  have ek : ∀ v' k, k &&& (BA &&& BC) = k → (gatF (v' ||| k) (BA ^^^ BC) 20).1 = (gatF v' (BA ^^^ BC) 20).1 := fun v' k hk => gat_congr 20 (fun i _ hb => by
    rw [Nat.testBit_or]
    cases z : k.testBit i
    · rw [Bool.or_false]
    · have a := sub_bit hk z
      have : ((BA ^^^ BC) &&& (BA &&& BC)).testBit i = true := by rw [Nat.testBit_and, hb, a]; rfl
      rw [dU] at this
      simp at this)
  have iff : ∀ v', v' &&& (BA ^^^ BC) = v' → ((gatF v' (BA ^^^ BC) 20).1 = (gatF v (BA ^^^ BC) 20).1 ↔ v' = v &&& (BA ^^^ BC)) := fun v' hv' => by
    constructor
    · intro h
      apply Nat.eq_of_testBit_eq
      intro i
      rw [Nat.testBit_and]
      cases hb : (BA ^^^ BC).testBit i
      · rw [Bool.and_false]
        cases z : v'.testBit i
        · rfl
        · rw [sub_bit hv' z] at hb; cases hb
      · rw [Bool.and_true]
        by_cases h20 : i < 20
        · exact gat_inj h i h20 hb
        · rw [bit20 kx (by omega)] at hb; cases hb
    · intro h
      rw [h]
      exact gat_congr 20 (fun i _ hb => by rw [Nat.testBit_and, hb, Bool.and_true])
  rw [Sn_congr (g := fun v' => if v' = v &&& (BA ^^^ BC) then (fun v' => Sn (BA &&& BC) 20 (fun k => cmu (F (gatF (v' ||| k) BA 20).1) (G (gatF (v' ||| k) BC 20).1))) v' else c0_) (fun v' _ hv' => by
    by_cases q : v' = v &&& (BA ^^^ BC)
    · rw [if_pos q]
      exact Sn_congr (fun k _ hk => if_pos (by rw [ek v' k hk]; exact (iff v' hv').mpr q))
    · rw [if_neg q, Sn_congr (g := fun _ => c0_) (fun k _ hk => if_neg (by rw [ek v' k hk]; exact fun w => q ((iff v' hv').mp w))), Sn_zero])]
  rw [Sn_pick (f := fun v' => Sn (BA &&& BC) 20 (fun k => cmu (F (gatF (v' ||| k) BA 20).1) (G (gatF (v' ||| k) BC 20).1))), if_pos ⟨by rw [Nat.and_assoc, Nat.and_self], Nat.lt_of_le_of_lt Nat.and_le_right kx⟩]
