-- GREEDY costs at least what the best order costs
theorem join_le1 {l1 : Nat → Nat} {A B c : Nat} (hc : c ≤ 10) (hA : A ≠ 0) (hB : B ≠ 0) (hd : A &&& B = 0) (hS : A ^^^ B < 2 ^ c) (ht : A.testBit (tzf 10 (A ^^^ B)) = true) : CO l1 (A ^^^ B) ≤ CO l1 A + CO l1 B + 2 ^ pc_ (LG l1 A ||| LG l1 B) := by
  have h10 : (2 : Nat) ^ c ≤ 2 ^ 10 := Nat.pow_le_pow_right (by decide) hc
  have dis : ∀ i, ¬ (A.testBit i = true ∧ B.testBit i = true) := by
    intro i hi
    have : (A &&& B).testBit i = false := by rw [hd]; simp
    rw [Nat.testBit_and, hi.1, hi.2] at this
    cases this
  have bS : ∀ i, (A ^^^ B).testBit i = (A.testBit i || B.testBit i) := by
    intro i
    have := dis i
    rw [Nat.testBit_xor]
    cases h1 : A.testBit i <;> cases h2 : B.testBit i <;> simp_all
  have h0 : A ^^^ B ≠ 0 := by
    intro q
    obtain ⟨i, hi⟩ := Nat.exists_testBit_of_ne_zero hA
    have := bS i
    rw [q, hi] at this
    simp at this
  generalize hs : A ^^^ B = s at *
  obtain ⟨z1, z2, z3, z4, z5, z6⟩ := tz_all s (by omega) h0
  rw [z3] at z4
  generalize ht0 : tzf 10 s = t at *
  generalize hr : s &&& (s - 1) = r at *
  have bp : ∀ i, (2 ^ t).testBit i = decide (t = i) := fun i => Nat.testBit_two_pow
  have br : ∀ i, r.testBit i = (s.testBit i && !decide (t = i)) := by
    clear bS dis
    intro i
    have e1 : (s ^^^ r).testBit i = decide (t = i) := by rw [z4, bp]
    have e2 : (2 ^ t ||| r).testBit i = s.testBit i := by rw [z3]
    rw [Nat.testBit_xor] at e1
    rw [Nat.testBit_or, bp] at e2
    cases h1 : s.testBit i <;> cases h2 : r.testBit i <;> simp_all
  have hn : ¬ r = 0 := by
    intro q
    obtain ⟨i, hi⟩ := Nat.exists_testBit_of_ne_zero hB
    have e1 := br i
    have e2 := bS i
    rw [q] at e1
    rw [hi] at e2
    simp at e1 e2
    have e3 := e1 e2
    subst e3
    exact dis t ⟨ht, hi⟩
  have e := CO_eq (l1 := l1) (s := s) (by omega) h0 (by rw [hr]; exact hn)
  rw [hr, ht0] at e
  have hx : (A ^^^ 2 ^ t) &&& r = A ^^^ 2 ^ t := by
    refine sub_of_bits (fun i hi => ?_)
    rw [Nat.testBit_xor, bp] at hi
    rw [br, bS]
    by_cases c1 : t = i
    · subst c1
      rw [ht] at hi
      simp at hi
    · simp [c1] at hi ⊢
      exact Or.inl hi
  have oA : 2 ^ t ||| (A ^^^ 2 ^ t) = A := by
    apply Nat.eq_of_testBit_eq
    intro i
    rw [Nat.testBit_or, Nat.testBit_xor, bp]
    by_cases c1 : t = i
    · subst c1; simp [ht]
    · simp [c1]
  have oB : r ^^^ (A ^^^ 2 ^ t) = B := by
    apply Nat.eq_of_testBit_eq
    intro i
    have := dis i
    rw [Nat.testBit_xor, Nat.testBit_xor, bp, br, bS]
    by_cases c1 : t = i
    · subst c1
      cases h2 : B.testBit t <;> simp_all
    · cases h1 : A.testBit i <;> cases h2 : B.testBit i <;> simp_all
  have hlt : A ^^^ 2 ^ t < r := by
    have := sub_add hx
    rw [oB] at this
    omega
  have low := ptF_low (lg := LG l1) (co := CO l1) (ls := 2 ^ t) (r := r) (B := 2 ^ 30) (f := 0) r (A ^^^ 2 ^ t) hlt hx
  rw [← e] at low
  unfold vx at low
  rw [oA, oB] at low
  exact low
theorem join_le {l1 : Nat → Nat} {A B c : Nat} (hc : c ≤ 10) (hA : A ≠ 0) (hB : B ≠ 0) (hd : A &&& B = 0) (hS : A ^^^ B < 2 ^ c) : CO l1 (A ^^^ B) ≤ CO l1 A + CO l1 B + 2 ^ pc_ (LG l1 A ||| LG l1 B) := by
  have h10 : (2 : Nat) ^ c ≤ 2 ^ 10 := Nat.pow_le_pow_right (by decide) hc
  by_cases ht : A.testBit (tzf 10 (A ^^^ B)) = true
  · exact join_le1 hc hA hB hd hS ht
  · have h0 : A ^^^ B ≠ 0 := by
      intro q
      have e : A = B := by
        have := congrArg (· ^^^ B) q
        simp only [Nat.xor_assoc, Nat.xor_self, Nat.xor_zero, Nat.zero_xor] at this
        exact this
      rw [e, Nat.and_self] at hd
      exact hB hd
    obtain ⟨z1, -⟩ := tz_all (A ^^^ B) (by omega) h0
    have hbit : (A ^^^ B).testBit (tzf 10 (A ^^^ B)) = true := by
      have e1 : ((A ^^^ B) % 2 ^ (tzf 10 (A ^^^ B) + 1)).testBit (tzf 10 (A ^^^ B)) = true := by rw [z1, Nat.testBit_two_pow]; simp
      rw [Nat.testBit_mod_two_pow] at e1
      simp at e1
      simpa using e1
    have hb : B.testBit (tzf 10 (B ^^^ A)) = true := by
      rw [Nat.xor_comm B A]
      rw [Nat.testBit_xor] at hbit
      cases h1 : A.testBit (tzf 10 (A ^^^ B)) with
      | true => exact absurd h1 ht
      | false => rw [h1] at hbit; simpa using hbit
    have := join_le1 (l1 := l1) (A := B) (B := A) hc hB hA (by rw [Nat.and_comm]; exact hd) (by rw [Nat.xor_comm]; exact hS) hb
    rw [Nat.xor_comm B A, Nat.or_comm] at this
    omega
def sA (f : Nat → Nat) (gn : Nat) : Nat → Nat
  | 0 => 0
  | n + 1 => sA f gn n + (if gn.testBit n = true then 0 else f n)
def xA (f : Nat → Nat) (gn : Nat) : Nat → Nat
  | 0 => 0
  | n + 1 => xA f gn n ^^^ (if gn.testBit n = true then 0 else f n)
theorem sA_congr {f g : Nat → Nat} {gn : Nat} : ∀ n, (∀ i, i < n → f i = g i) → sA f gn n = sA g gn n ∧ xA f gn n = xA g gn n
  | 0, _ => ⟨rfl, rfl⟩
  | n + 1, h => by
    have ih := sA_congr (gn := gn) n (fun i hi => h i (by omega))
    simp only [sA, xA, ih.1, ih.2, h n (by omega)]
    exact ⟨trivial, trivial⟩
theorem sA_out {f : Nat → Nat} {gn p : Nat} : ∀ n, n ≤ p → sA f (gn ||| 2 ^ p) n = sA f gn n ∧ xA f (gn ||| 2 ^ p) n = xA f gn n
  | 0, _ => ⟨rfl, rfl⟩
  | n + 1, h => by
    have ih := sA_out (f := f) (gn := gn) (p := p) n (by omega)
    have e : (gn ||| 2 ^ p).testBit n = gn.testBit n := by
      rw [Nat.testBit_or, Nat.testBit_two_pow]
      simp; omega
    simp only [sA, xA, ih.1, ih.2, e]
    exact ⟨trivial, trivial⟩
theorem sA_set {f : Nat → Nat} {gn p : Nat} (h : gn.testBit p = false) : ∀ n, p < n → sA f gn n = sA f (gn ||| 2 ^ p) n + f p ∧ xA f gn n = xA f (gn ||| 2 ^ p) n ^^^ f p
  | 0, hp => by omega
  | n + 1, hp => by
    by_cases e : p = n
    · subst e
      obtain ⟨a, b⟩ := sA_out (f := f) (gn := gn) p (Nat.le_refl _)
      have e2 : (gn ||| 2 ^ p).testBit p = true := by rw [Nat.testBit_or, Nat.testBit_two_pow]; simp
      simp [sA, xA, a, b, e2, h]
    · obtain ⟨a, b⟩ := sA_set (f := f) h n (by omega)
      have e2 : (gn ||| 2 ^ p).testBit n = gn.testBit n := by
        rw [Nat.testBit_or, Nat.testBit_two_pow]
        simp [e]
      simp only [sA, xA, e2, a, b]
      refine ⟨by omega, ?_⟩
      rw [Nat.xor_assoc, Nat.xor_assoc, Nat.xor_comm (f p)]
theorem one_left : ∀ {n gn : Nat}, pc_n gn n + 1 = n → ∃ i, i < n ∧ gn.testBit i = false ∧ ∀ f : Nat → Nat, sA f gn n = f i ∧ xA f gn n = f i
  | 0, gn, h => by simp [pc_n] at h
  | n + 1, gn, h => by
    cases hb : gn.testBit n with
    | true =>
      obtain ⟨i, h1, h2, h3⟩ := one_left (n := n) (gn := gn) (by simp [pc_n, hb] at h; omega)
      exact ⟨i, by omega, h2, fun f => by simp [sA, xA, hb, (h3 f).1, (h3 f).2]⟩
    | false =>
      have z : ∀ {m : Nat}, pc_n gn m = m → ∀ f : Nat → Nat, sA f gn m = 0 ∧ xA f gn m = 0 := by
        intro m
        induction m with
        | zero => intro _ f; exact ⟨rfl, rfl⟩
        | succ m ih =>
          intro q f
          have hm := pc_n_le gn m
          cases hb2 : gn.testBit m with
          | false => simp [pc_n, hb2] at q; omega
          | true =>
            obtain ⟨a, b⟩ := ih (by simp [pc_n, hb2] at q; omega) f
            simp [sA, xA, hb2, a, b]
      refine ⟨n, by omega, hb, fun f => ?_⟩
      obtain ⟨a, b⟩ := z (m := n) (by simp [pc_n, hb] at h; omega) f
      simp [sA, xA, hb, a, b]
/-- things stand for sets of tensors that are apart; what is done costs at least their orders -/
def gin (l1 : Nat → Nat) (c : Nat) (s : gst) (t : Nat) : Prop := ∃ se : Nat → Nat, (∀ i, i < c + t → se i ≠ 0 ∧ se i < 2 ^ c ∧ s.1 i = LG l1 (se i)) ∧ (∀ i j, i < c + t → j < c + t → i ≠ j → s.2.2.1.testBit i = false → s.2.2.1.testBit j = false → se i &&& se j = 0) ∧ xA se s.2.2.1 (c + t) = 2 ^ c - 1 ∧ sA (fun i => CO l1 (se i)) s.2.2.1 (c + t) ≤ s.2.2.2.2.2
theorem gin_s {l1 : Nat → Nat} {c t : Nat} {s : gst} (hc : c ≤ 10) (hg : gok c s t) (ht : t + 1 < c) (h : gin l1 c s t) : gin l1 c (gtu c s t) (t + 1) := by
  obtain ⟨p, q, hch, h1, h2, h3, h4⟩ := gok_ch hg ht
  obtain ⟨se, k1, k2, k3, k4⟩ := h
  have hgn := hg.2.1
  unfold gtu
  rw [hch]
  have ap := k1 p (by omega)
  have aq := k1 q (by omega)
  have hd := k2 p q (by omega) h2 (by omega) h3 h4
  have hxl : se p ^^^ se q < 2 ^ c := Nat.xor_lt_two_pow ap.2.1 aq.2.1
  have hj := join_le (l1 := l1) hc ap.1 aq.1 hd hxl
  have hx0 : se p ^^^ se q ≠ 0 := by
    intro z
    have e : se p = se q := by
      have := congrArg (· ^^^ se q) z
      simp only [Nat.xor_assoc, Nat.xor_self, Nat.xor_zero, Nat.zero_xor] at this
      exact this
    rw [e, Nat.and_self] at hd
    exact aq.1 hd
  have bb : ∀ i, (s.2.2.1 ||| (2 ^ p ||| 2 ^ q)).testBit i = (s.2.2.1.testBit i || (decide (p = i) || decide (q = i))) := fun i => by rw [Nat.testBit_or, Nat.testBit_or, Nat.testBit_two_pow, Nat.testBit_two_pow]
  have top : (s.2.2.1 ||| (2 ^ p ||| 2 ^ q)).testBit (c + t) = false := by
    rw [bb, Nat.testBit_lt_two_pow hgn]
    simp; omega
  have hq2 : (s.2.2.1 ||| 2 ^ p).testBit q = false := by
    rw [Nat.testBit_or, h4, Nat.testBit_two_pow]
    simp; omega
  refine ⟨va_up se (c + t) (se p ^^^ se q), fun i hi => ?_, fun i j hi hj hij gi gj => ?_, ?_, ?_⟩
  · by_cases e : i = c + t
    · subst e
      simp only [va_up, if_true]
      exact ⟨hx0, hxl, by rw [ap.2.2, aq.2.2, LG, LG, LG, LGn_xor]⟩
    · simp only [va_up, if_neg e]
      exact k1 i (by omega)
  · have gi' := gi
    have gj' := gj
    simp only [bb] at gi' gj'
    simp at gi' gj'
    have cross : ∀ k, k < c + t → s.2.2.1.testBit k = false → p ≠ k → q ≠ k → (se p ^^^ se q) &&& se k = 0 := by
      intro k hk g1 g2 g3
      have e1 := k2 p k (by omega) hk g2 h3 g1
      have e2 := k2 q k (by omega) hk g3 h4 g1
      apply Nat.eq_of_testBit_eq
      intro m
      have b1 : (se p &&& se k).testBit m = false := by rw [e1]; simp
      have b2 : (se q &&& se k).testBit m = false := by rw [e2]; simp
      rw [Nat.testBit_and] at b1 b2
      simp only [Nat.testBit_and, Nat.testBit_xor, Nat.zero_testBit]
      cases x1 : (se p).testBit m <;> cases x2 : (se q).testBit m <;> cases x3 : (se k).testBit m <;> simp_all
    by_cases ei : i = c + t
    · subst ei
      have ej : ¬ j = c + t := fun z => hij z.symm
      simp only [va_up, if_true, if_neg ej]
      exact cross j (by omega) gj'.1 gj'.2.1 gj'.2.2
    · by_cases ej : j = c + t
      · subst ej
        simp only [va_up, if_true, if_neg ei]
        rw [Nat.and_comm]
        exact cross i (by omega) gi'.1 gi'.2.1 gi'.2.2
      · simp only [va_up, if_neg ei, if_neg ej]
        exact k2 i j (by omega) (by omega) hij gi'.1 gj'.1
  · have e1 := (sA_set (f := se) h3 (c + t) (by omega)).2
    have e2 := (sA_set (f := se) hq2 (c + t) h2).2
    have e3 := (sA_congr (f := va_up se (c + t) (se p ^^^ se q)) (g := se) (gn := s.2.2.1 ||| (2 ^ p ||| 2 ^ q)) (c + t) (fun i hi => by simp only [va_up]; rw [if_neg (by omega)])).2
    show xA _ _ (c + t + 1) = _
    simp only [xA, e3, top]
    rw [← k3, e1, e2, ← Nat.or_assoc]
    simp [va_up]
    rw [Nat.xor_assoc, Nat.xor_comm (se q) (se p)]
  · have e1 := (sA_set (f := fun i => CO l1 (se i)) h3 (c + t) (by omega)).1
    have e2 := (sA_set (f := fun i => CO l1 (se i)) hq2 (c + t) h2).1
    have e3 := (sA_congr (f := fun i => CO l1 (va_up se (c + t) (se p ^^^ se q) i)) (g := fun i => CO l1 (se i)) (gn := s.2.2.1 ||| (2 ^ p ||| 2 ^ q)) (c + t) (fun i hi => by simp only [va_up]; rw [if_neg (by omega)])).1
    show sA _ _ (c + t + 1) ≤ s.2.2.2.2.2 + 2 ^ pc_ (s.1 p ||| s.1 q)
    simp only [sA, e3, top]
    rw [← Nat.or_assoc, ap.2.2, aq.2.2]
    simp [va_up]
    rw [e1, e2] at k4
    omega
theorem sA_init {l1 : Nat → Nat} : ∀ n, n ≤ 10 → sA (fun i => CO l1 (2 ^ i)) 0 n = 0 ∧ xA (fun i => 2 ^ i) 0 n = 2 ^ n - 1
  | 0, _ => ⟨rfl, rfl⟩
  | n + 1, h => by
    obtain ⟨a, b⟩ := sA_init (l1 := l1) n (by omega)
    have z : CO l1 (2 ^ n) = 0 := by
      have : ∀ t, t < 10 → 2 ^ t &&& (2 ^ t - 1) = 0 := by decide
      exact (CO_one (by have := Nat.two_pow_pos n; omega) (this n (by omega))).1
    have w : ∀ n, n < 10 → (2 ^ n - 1) ^^^ 2 ^ n = 2 ^ (n + 1) - 1 := by decide
    simp [sA, xA, a, b, z, w n (by omega)]
theorem gin_0 {l1 L0 Z0 les oth : Nat → Nat} {c : Nat} (hc : c ≤ 10) : gin l1 c (hv_cp l1 L0 c, hv_cp (fun j => 2 ^ pc_ (l1 j)) Z0 c, 0, les, oth, 0) 0 := by
  obtain ⟨a, b⟩ := sA_init (l1 := l1) c hc
  refine ⟨fun i => 2 ^ i, fun i hi => ?_, fun i j hi hj hij _ _ => ?_, b, by show sA _ 0 c ≤ 0; rw [a]; exact Nat.le_refl _⟩
  · have hi : i < c := hi
    refine ⟨Nat.ne_of_gt (Nat.two_pow_pos i), Nat.pow_lt_pow_right (by decide) hi, ?_⟩
    simp only [hv_cp, if_pos hi]
    rw [LG, LGn_one, if_pos (by omega)]
  · apply Nat.eq_of_testBit_eq
    intro m
    simp only [Nat.testBit_and, Nat.testBit_two_pow, Nat.zero_testBit]
    by_cases e : i = m
    · subst e; simp; omega
    · simp [e]
theorem gin_r {l1 : Nat → Nat} {c : Nat} {s : gst} (hc : c ≤ 10) (hg : gok c s 0) (h : gin l1 c s 0) : ∀ t, t < c → gin l1 c (grun c s t) t
  | 0, _ => h
  | t + 1, ht => gin_s hc (gok_r hg t (by omega)) ht (gin_r hc hg h t (by omega))
theorem greedy_ge {l1 L0 Z0 les oth : Nat → Nat} {c : Nat} (hc1 : 1 ≤ c) (hc : c ≤ 10) (hl : ∀ t, t < c → l1 t < 2 ^ 20) : CO l1 (2 ^ c - 1) ≤ (grun c (hv_cp l1 L0 c, hv_cp (fun j => 2 ^ pc_ (l1 j)) Z0 c, 0, les, oth, 0) (c - 1)).2.2.2.2.2 := by
  have hg := gok_0 (L0 := L0) (Z0 := Z0) (les := les) (oth := oth) hl
  have G := gok_r hg (c - 1) (by omega)
  obtain ⟨se, k1, k2, k3, k4⟩ := gin_r hc hg (gin_0 (l1 := l1) hc) (c - 1) (by omega)
  obtain ⟨i, h1, h2, h3⟩ := one_left (by rw [G.1]; omega)
  rw [(h3 se).2] at k3
  rw [(h3 _).1] at k4
  rw [← k3]
  exact k4
