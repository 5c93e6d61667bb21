-- NUMBERS OF TWO PARTS, SUMS OVER SETS OF NAMES
abbrev Cx : Type := Int64 × Int64
def cad (x y : Cx) : Cx := (x.1 + y.1, x.2 + y.2)
def cmu (x y : Cx) : Cx := (x.1 * y.1 - x.2 * y.2, x.1 * y.2 + x.2 * y.1)
def c0_ : Cx := (0, 0)
def c1_ : Cx := (1, 0)
theorem cad_0 (x : Cx) : cad x c0_ = x := by unfold cad c0_; ext <;> grind
theorem cad_0' (x : Cx) : cad c0_ x = x := by unfold cad c0_; ext <;> grind
theorem cad_c (x y : Cx) : cad x y = cad y x := by unfold cad; ext <;> grind
theorem cad_a (x y z : Cx) : cad (cad x y) z = cad x (cad y z) := by unfold cad; ext <;> grind
theorem cmu_1 (x : Cx) : cmu x c1_ = x := by unfold cmu c1_; ext <;> grind
theorem cmu_1' (x : Cx) : cmu c1_ x = x := by unfold cmu c1_; ext <;> grind
theorem cmu_0 (x : Cx) : cmu x c0_ = c0_ := by unfold cmu c0_; ext <;> grind
theorem cmu_0' (x : Cx) : cmu c0_ x = c0_ := by unfold cmu c0_; ext <;> grind
theorem cmu_c (x y : Cx) : cmu x y = cmu y x := by unfold cmu; ext <;> grind
theorem cmu_a (x y z : Cx) : cmu (cmu x y) z = cmu x (cmu y z) := by unfold cmu; ext <;> grind
theorem cmu_d (x y z : Cx) : cmu x (cad y z) = cad (cmu x y) (cmu x z) := by unfold cmu cad; ext <;> grind
theorem cad_4 (a b c d : Cx) : cad (cad a b) (cad c d) = cad (cad a c) (cad b d) := by unfold cad; ext <;> grind
/-- the sum over the sets of those names below n that lie in S -/
def Sn (S : Nat) : Nat → (Nat → Cx) → Cx
  | 0, f => f 0
  | n + 1, f => if S.testBit n = true then cad (Sn S n f) (Sn S n (fun v => f (v ||| 2 ^ n))) else Sn S n f
theorem Sn_congr {S : Nat} : ∀ {n : Nat} {f g : Nat → Cx}, (∀ v, v < 2 ^ n → v &&& S = v → f v = g v) → Sn S n f = Sn S n g
  | 0, f, g, h => h 0 (by decide) (Nat.zero_and S)
  | n + 1, f, g, h => by
    have lt : ∀ v, v < 2 ^ n → v < 2 ^ (n + 1) := fun v hv => by rw [Nat.pow_succ]; omega
    simp only [Sn]
    split
    · rename_i q
      rw [Sn_congr (fun v hv hs => h v (lt v hv) hs), Sn_congr (f := fun v => f (v ||| 2 ^ n)) (g := fun v => g (v ||| 2 ^ n)) (fun v hv hs => h _ (Nat.or_lt_two_pow (lt v hv) (Nat.pow_lt_pow_right (by decide) (by omega))) (by
        refine sub_of_bits (fun i hi => ?_)
        rw [Nat.testBit_or, Nat.testBit_two_pow] at hi
        by_cases e : n = i
        · rw [← e]; exact q
        · simp [e] at hi
          exact sub_bits hs i hi))]
    · exact Sn_congr (fun v hv hs => h v (lt v hv) hs)
theorem Sn_add {S : Nat} : ∀ {n : Nat} {f g : Nat → Cx}, Sn S n (fun v => cad (f v) (g v)) = cad (Sn S n f) (Sn S n g)
  | 0, f, g => rfl
  | n + 1, f, g => by
    simp only [Sn]
    split
    · rw [Sn_add (n := n), Sn_add (n := n) (f := fun v => f (v ||| 2 ^ n)) (g := fun v => g (v ||| 2 ^ n)), cad_4]
    · exact Sn_add
theorem Sn_mul {S : Nat} {a : Cx} : ∀ {n : Nat} {f : Nat → Cx}, Sn S n (fun v => cmu a (f v)) = cmu a (Sn S n f)
  | 0, f => rfl
  | n + 1, f => by
    simp only [Sn]
    split
    · rw [Sn_mul (n := n), Sn_mul (n := n) (f := fun v => f (v ||| 2 ^ n)), cmu_d]
    · exact Sn_mul
theorem Sn_zero {S : Nat} : ∀ {n : Nat}, Sn S n (fun _ => c0_) = c0_
  | 0 => rfl
  | n + 1 => by
    simp only [Sn]
    split
    · rw [Sn_zero]; exact cad_0 _
    · exact Sn_zero
theorem Sn_none {n : Nat} {f : Nat → Cx} : Sn 0 n f = f 0 := by
  induction n with
  | zero => rfl
  | succ n ih => simp [Sn, ih]
/-- two disjoint sets of names -/
theorem Sn_or {S T : Nat} (hd : S &&& T = 0) : ∀ {n : Nat} {f : Nat → Cx}, Sn (S ||| T) n f = Sn S n (fun v => Sn T n (fun w => f (v ||| w)))
  | 0, f => by simp [Sn]
  | n + 1, f => by
    have ih : ∀ f, Sn (S ||| T) n f = Sn S n (fun v => Sn T n (fun w => f (v ||| w))) := fun f => Sn_or hd (n := n) (f := f)
    have b : ¬ (S.testBit n = true ∧ T.testBit n = true) := fun q => by
      have e : (S &&& T).testBit n = false := by rw [hd]; simp
      rw [Nat.testBit_and, q.1, q.2] at e
      cases e
    simp only [Sn, Nat.testBit_or]
    cases hs : S.testBit n with
    | true =>
      have ht : T.testBit n = false := by
        cases q : T.testBit n with
        | false => rfl
        | true => exact absurd ⟨hs, q⟩ b
      simp only [ht, Bool.or_false, if_true, Bool.false_eq_true, if_false]
      rw [ih, ih]
      congr 1
      refine Sn_congr (fun v _ _ => Sn_congr (fun w _ _ => ?_))
      rw [Nat.or_assoc, Nat.or_comm w, ← Nat.or_assoc]
    | false =>
      cases ht : T.testBit n with
      | true =>
        simp only [Bool.or_true, if_true, Bool.false_eq_true, if_false]
        rw [ih, ih, ← Sn_add]
        refine Sn_congr (fun v _ _ => ?_)
        congr 1
        refine Sn_congr (fun w _ _ => ?_)
        rw [Nat.or_assoc]
      | false =>
        simp only [Bool.or_false, Bool.false_eq_true, if_false]
        exact ih f
/-- where only one set counts -/
theorem Sn_pick {S a : Nat} {f : Nat → Cx} : ∀ {n : Nat}, Sn S n (fun v => if v = a then f v else c0_) = if a &&& S = a ∧ a < 2 ^ n then f a else c0_
  | 0 => by
    by_cases e : a = 0
    · subst e; simp [Sn]
    · rw [if_neg (by intro q; omega)]
      show (if 0 = a then _ else _) = _
      rw [if_neg (fun q => e q.symm)]
  | n + 1 => by
    have pw : (2 : Nat) ^ (n + 1) = 2 ^ n + 2 ^ n := by rw [Nat.pow_succ]; omega
    simp only [Sn]
    rw [Sn_pick (n := n)]
    have low : ∀ x, x < 2 ^ n → x ||| 2 ^ n = x + 2 ^ n := fun x hx => by
      refine or_add n x (2 ^ n) hx ?_
      apply Nat.eq_of_testBit_eq
      intro i
      rw [Nat.testBit_and, Nat.testBit_two_pow, Nat.zero_testBit]
      by_cases e : n = i
      · subst e; rw [Nat.testBit_lt_two_pow hx]; rfl
      · simp [e]
    split
    · rename_i q
      by_cases c : a < 2 ^ n
      · have z : Sn S n (fun v => if v ||| 2 ^ n = a then f (v ||| 2 ^ n) else c0_) = c0_ := by
          rw [Sn_congr (g := fun _ => c0_) (fun v hv _ => if_neg (by rw [low v hv]; omega))]
          exact Sn_zero
        rw [z, cad_0]
        by_cases d : a &&& S = a
        · rw [if_pos ⟨d, c⟩, if_pos ⟨d, by omega⟩]
        · rw [if_neg (fun z => d z.1), if_neg (fun z => d z.1)]
      · rw [if_neg (fun z => c z.2), cad_0']
        by_cases e : a < 2 ^ (n + 1)
        · have hb : a.testBit n = true := by
            rw [Nat.testBit_eq_decide_div_mod_eq]
            have : a / 2 ^ n = 1 := by
              refine (Nat.div_eq_iff (Nat.two_pow_pos n)).mpr ?_
              omega
            rw [this]; rfl
          have ea : (a - 2 ^ n) ||| 2 ^ n = a := by rw [low _ (by omega)]; omega
          have z : Sn S n (fun v => if v ||| 2 ^ n = a then f (v ||| 2 ^ n) else c0_) = Sn S n (fun v => if v = a - 2 ^ n then (fun v => f (v ||| 2 ^ n)) v else c0_) := by
            refine Sn_congr (fun v hv _ => ?_)
            by_cases c2 : v = a - 2 ^ n
            · rw [if_pos c2, if_pos (by rw [c2]; exact ea)]
            · rw [if_neg c2, if_neg (by rw [low v hv]; omega)]
          rw [z, Sn_pick (n := n) (a := a - 2 ^ n)]
          have iff1 : (a - 2 ^ n) &&& S = a - 2 ^ n ↔ a &&& S = a := by
            constructor
            · intro h1
              refine sub_of_bits (fun i hi => ?_)
              rw [← ea, Nat.testBit_or, Nat.testBit_two_pow] at hi
              by_cases e2 : n = i
              · rw [← e2]; exact q
              · simp [e2] at hi; exact sub_bits h1 i hi
            · intro h1
              refine sub_of_bits (fun i hi => sub_bits h1 i ?_)
              rw [← ea, Nat.testBit_or, hi]
              rfl
          by_cases d : a &&& S = a
          · rw [if_pos ⟨iff1.mpr d, by omega⟩, if_pos ⟨d, e⟩]
            show f ((a - 2 ^ n) ||| 2 ^ n) = f a
            rw [ea]
          · rw [if_neg (fun z => d (iff1.mp z.1)), if_neg (fun z => d z.1)]
        · rw [if_neg (fun z => e z.2)]
          rw [Sn_congr (g := fun _ => c0_) (fun v hv _ => if_neg (by rw [low v hv]; omega))]
          exact Sn_zero
    · rename_i q
      by_cases c : a &&& S = a
      · by_cases d : a < 2 ^ n
        · rw [if_pos ⟨c, d⟩, if_pos ⟨c, by omega⟩]
        · have : ¬ a < 2 ^ (n + 1) := by
            intro e
            have hb : a.testBit n = true := by
              rw [Nat.testBit_eq_decide_div_mod_eq]
              have : a / 2 ^ n = 1 := by
                refine (Nat.div_eq_iff (Nat.two_pow_pos n)).mpr ?_
                omega
              rw [this]; rfl
            exact q (sub_bits c n hb)
          rw [if_neg (fun z => d z.2), if_neg (fun z => this z.2)]
      · rw [if_neg (fun z => c z.1), if_neg (fun z => c z.1)]
/-- a sum over the numbers below n -/
def sR (F : Nat → Cx) : Nat → Cx
  | 0 => c0_
  | n + 1 => cad (sR F n) (F n)
theorem sR_congr {F G : Nat → Cx} : ∀ {n : Nat}, (∀ w, w < n → F w = G w) → sR F n = sR G n
  | 0, _ => rfl
  | n + 1, h => by
    have ih := sR_congr (F := F) (G := G) (n := n) (fun w hw => h w (by omega))
    simp only [sR, ih, h n (by omega)]
theorem sR_add {F : Nat → Cx} {m : Nat} : ∀ k, sR F (m + k) = cad (sR F m) (sR (fun w => F (m + w)) k)
  | 0 => (cad_0 _).symm
  | k + 1 => by
    show cad (sR F (m + k)) (F (m + k)) = cad (sR F m) (cad (sR (fun w => F (m + w)) k) (F (m + k)))
    rw [sR_add k, cad_a]
theorem sR_zero : ∀ n, sR (fun _ => c0_) n = c0_
  | 0 => rfl
  | n + 1 => by simp only [sR, sR_zero n]; exact cad_0 _
theorem sR_two {F : Nat → Cx} : ∀ n, sR F (2 * n) = sR (fun w => cad (F (2 * w)) (F (2 * w + 1))) n
  | 0 => rfl
  | n + 1 => by
    show cad (cad (sR F (2 * n)) (F (2 * n))) (F (2 * n + 1)) = cad (sR _ n) (cad (F (2 * n)) (F (2 * n + 1)))
    rw [sR_two n, cad_a]
theorem sR_sw {S : Nat} {F : Nat → Nat → Cx} {n : Nat} : ∀ m, sR (fun i => Sn S n (fun v => F i v)) m = Sn S n (fun v => sR (fun i => F i v) m)
  | 0 => Sn_zero.symm
  | m + 1 => by
    show cad (sR _ m) (Sn S n (fun v => F m v)) = Sn S n (fun v => cad (sR (fun i => F i v) m) (F m v))
    rw [sR_sw m, Sn_add]
theorem sR_pick {F : Nat → Cx} {a : Nat} : ∀ n, sR (fun i => if i = a then F i else c0_) n = if a < n then F a else c0_
  | 0 => rfl
  | n + 1 => by
    simp only [sR, sR_pick n]
    by_cases e : n = a
    · subst e
      rw [if_neg (by omega), if_pos rfl, if_pos (by omega)]
      exact cad_0' _
    · rw [if_neg e, cad_0]
      by_cases c : a < n
      · rw [if_pos c, if_pos (by omega)]
      · rw [if_neg c, if_neg (by omega)]
-- spread
theorem spr_2 {w S : Nat} : ∀ n, (sprF w S n).2 = pc_n S n
  | 0 => rfl
  | n + 1 => by
    have ih := spr_2 (w := w) (S := S) n
    simp only [sprF, pc_n]
    cases S.testBit n <;> simp [ih]
theorem spr_bit {w S i : Nat} : ∀ n, (sprF w S n).1.testBit i = (decide (i < n) && (S.testBit i && w.testBit (pc_n S i)))
  | 0 => by simp [sprF]
  | n + 1 => by
    have ih := spr_bit (w := w) (S := S) (i := i) n
    by_cases e : i = n
    · subst e
      cases hs : S.testBit i with
      | false =>
        simp only [sprF, hs, Bool.false_eq_true, if_false, ih, Nat.lt_irrefl, decide_false, Bool.false_and, Bool.and_false]
      | true =>
        simp only [sprF, hs, if_true, Nat.testBit_or, ih, Nat.lt_irrefl, decide_false, Bool.false_and, Bool.false_or, spr_2]
        have : (w / 2 ^ pc_n S i &&& 1) = if w.testBit (pc_n S i) = true then 1 else 0 := by
          have h1 := @hv_bit_eq w (pc_n S i)
          have h2 : w / 2 ^ pc_n S i &&& 1 < 2 := Nat.lt_of_le_of_lt Nat.and_le_right (by decide)
          split
          · rename_i q; rw [← h1] at q; exact q
          · rename_i q; rw [← h1] at q; omega
        rw [this]
        cases w.testBit (pc_n S i) <;> simp [Nat.testBit_two_pow_self]
    · have d : (i < n + 1) ↔ (i < n) := by omega
      cases hs : S.testBit n with
      | false => simp only [sprF, hs, Bool.false_eq_true, if_false, ih, d]
      | true =>
        simp only [sprF, hs, if_true, Nat.testBit_or, ih, d]
        have : ((w / 2 ^ (sprF w S n).2 &&& 1) * 2 ^ n).testBit i = false := by
          have h2 : w / 2 ^ (sprF w S n).2 &&& 1 < 2 := Nat.lt_of_le_of_lt Nat.and_le_right (by decide)
          have h3 : (w / 2 ^ (sprF w S n).2 &&& 1) = 0 ∨ (w / 2 ^ (sprF w S n).2 &&& 1) = 1 := by omega
          rcases h3 with q | q <;> rw [q]
          · simp
          · rw [Nat.one_mul, Nat.testBit_two_pow]
            exact decide_eq_false (fun z => e z.symm)
        rw [this, Bool.or_false]
theorem sR_spr {S : Nat} : ∀ {n : Nat} {F : Nat → Cx}, sR (fun w => F (sprF w S n).1) (2 ^ pc_n S n) = Sn S n F
  | 0, F => cad_0' _
  | n + 1, F => by
    cases hs : S.testBit n with
    | false =>
      have e : pc_n S (n + 1) = pc_n S n := by simp [pc_n, hs]
      rw [e]
      simp only [Sn, hs, Bool.false_eq_true, if_false]
      rw [← sR_spr (n := n)]
      refine sR_congr (fun w _ => ?_)
      simp only [sprF, hs, Bool.false_eq_true, if_false]
    | true =>
      have e : pc_n S (n + 1) = pc_n S n + 1 := by simp [pc_n, hs]
      rw [e, Nat.pow_succ, Nat.mul_two, sR_add]
      simp only [Sn, hs, if_true]
      rw [← sR_spr (n := n), ← sR_spr (n := n) (F := fun v => F (v ||| 2 ^ n))]
      have lowb : ∀ w i, w < 2 ^ pc_n S n → (2 ^ pc_n S n + w).testBit i = if i = pc_n S n then true else w.testBit i := by
        intro w i hw
        have e := Nat.testBit_two_pow_mul_add 1 hw i
        rw [Nat.mul_one] at e
        rw [e]
        by_cases c1 : i < pc_n S n
        · rw [if_pos c1, if_neg (by omega)]
        · rw [if_neg c1]
          by_cases c2 : i = pc_n S n
          · subst c2; simp
          · rw [if_neg c2, Nat.testBit_lt_two_pow (Nat.lt_of_lt_of_le hw (Nat.pow_le_pow_right (by decide) (by omega)))]
            obtain ⟨k, hk⟩ : ∃ k, i - pc_n S n = k + 1 := ⟨i - pc_n S n - 1, by omega⟩
            rw [hk]
            simp [Nat.testBit_succ]
      have mono : ∀ i, i < n → S.testBit i = true → pc_n S i < pc_n S n := by
        intro i hi hb
        have : ∀ k, pc_n S (i + 1) ≤ pc_n S (i + 1 + k) := by
          intro k
          induction k with
          | zero => exact Nat.le_refl _
          | succ k ihk =>
            show _ ≤ pc_n S (i + 1 + k + 1)
            have : pc_n S (i + 1 + k) ≤ pc_n S (i + 1 + k + 1) := by simp only [pc_n]; omega
            omega
        have h1 := this (n - (i + 1))
        rw [show i + 1 + (n - (i + 1)) = n by omega] at h1
        have h2 : pc_n S (i + 1) = pc_n S i + 1 := by simp [pc_n, hb]
        omega
      congr 1
      · refine sR_congr (fun w hw => ?_)
        congr 1
        apply Nat.eq_of_testBit_eq
        intro i
        rw [spr_bit, spr_bit]
        by_cases c : i = n
        · subst c
          rw [Nat.testBit_lt_two_pow hw]
          simp
        · have d : (i < n + 1) ↔ (i < n) := by omega
          simp only [d]
      · refine sR_congr (fun w hw => ?_)
        congr 1
        apply Nat.eq_of_testBit_eq
        intro i
        rw [spr_bit, Nat.testBit_or, spr_bit, Nat.testBit_two_pow, lowb w _ hw]
        by_cases c : i = n
        · subst c
          simp [hs]
        · have d : (i < n + 1) ↔ (i < n) := by omega
          have d2 : ¬ n = i := fun z => c z.symm
          simp only [d, d2, decide_false, Bool.or_false]
          by_cases hi : i < n
          · cases hb : S.testBit i with
            | false => simp
            | true =>
              have := mono i hi hb
              rw [if_neg (by omega)]
          · simp [hi]
