-- ONLY THE LEGS OF THE TENSORS THAT ARE THERE COUNT
theorem LGn_congr {l1 l2 : Nat → Nat} {c S : Nat} (h : ∀ t, t < c → l1 t = l2 t) (hS : S < 2 ^ c) : ∀ n, LGn l1 S n = LGn l2 S n
  | 0 => rfl
  | n + 1 => by
    simp only [LGn, LGn_congr h hS n]
    split
    · rename_i q
      rw [h n ?_]
      rcases Nat.lt_or_ge n c with z | z
      · exact z
      · rw [Nat.testBit_lt_two_pow (Nat.lt_of_lt_of_le hS (Nat.pow_le_pow_right (by decide) z))] at q
        cases q
    · rfl
theorem CO_congr {l1 l2 : Nat → Nat} {c : Nat} (hc : c ≤ 10) (h : ∀ t, t < c → l1 t = l2 t) : ∀ s, s ≠ 0 → s < 2 ^ c → CO l1 s = CO l2 s ∧ FI l1 s = FI l2 s := by
  intro s
  induction s using Nat.strongRecOn with
  | ind s ih =>
    intro h0 hs
    have h10 : (2 : Nat) ^ c ≤ 2 ^ 10 := Nat.pow_le_pow_right (by decide) hc
    by_cases h1 : s &&& (s - 1) = 0
    · obtain ⟨a, b⟩ := CO_one (l1 := l1) h0 h1
      obtain ⟨a', b'⟩ := CO_one (l1 := l2) h0 h1
      exact ⟨by rw [a, a'], by rw [b, b']⟩
    · have e1 := CO_eq (l1 := l1) (by omega) h0 h1
      have e2 := CO_eq (l1 := l2) (by omega) h0 h1
      have e3 : ptF (LG l1) (CO l1) (2 ^ tzf 10 s) (s &&& (s - 1)) (2 ^ 30, 0) (s &&& (s - 1)) = ptF (LG l2) (CO l2) (2 ^ tzf 10 s) (s &&& (s - 1)) (2 ^ 30, 0) (s &&& (s - 1)) := by
        refine ptF_congr _ (fun x hx hq => ?_)
        obtain ⟨p1, p2, p3, p4, p5, p6, p7⟩ := part_facts (by omega) h0 hq hx
        unfold vx
        rw [(ih _ p4 (by omega) (by omega)).1, (ih _ p6 (by omega) (by omega)).1, LG, LG, LG, LG, LGn_congr h (show 2 ^ tzf 10 s ||| x < 2 ^ c by omega), LGn_congr h (show (s &&& (s - 1)) ^^^ x < 2 ^ c by omega)]
      rw [e3, ← e2] at e1
      exact ⟨congrArg Prod.fst e1, congrArg Prod.snd e1⟩
theorem pv_congr {f g : Nat → Nat} {m : Nat} (h : ∀ s, s ≠ 0 → s < 2 ^ m → f s = g s) : ∀ n S, S < 2 ^ m → gd f n S → gd g n S ∧ pv f n S = pv g n S
  | 0, S, _, q => q.elim
  | n + 1, S, hS, q => by
    by_cases c : S &&& (S - 1) = 0
    · refine ⟨⟨q.1, Or.inl c⟩, ?_⟩
      show (if _ then _ else _) = (if _ then _ else _)
      rw [if_pos c, if_pos c]
    · obtain ⟨⟨a1, a2, a3⟩, a4, a5⟩ := q.2.resolve_left c
      have e := h S q.1.1 hS
      have le := sub_add a1
      obtain ⟨b1, b2⟩ := pv_congr h n (f S) (by omega) a4
      obtain ⟨c1, c2⟩ := pv_congr h n (S ^^^ f S) (by omega) a5
      refine ⟨⟨q.1, Or.inr ?_⟩, ?_⟩
      · rw [← e]; exact ⟨⟨a1, a2, a3⟩, b1, c1⟩
      · show (if _ then _ else _) = (if _ then _ else _)
        rw [if_neg c, if_neg c, ← e, b2, c2]
theorem pv_sub {f : Nat → Nat} {m : Nat} : ∀ n S, S < 2 ^ m → gd f n S → ∀ X ∈ pv f n S, X ≠ 0 ∧ X < 2 ^ m
  | 0, S, _, q => q.elim
  | n + 1, S, hS, q => by
    intro X hX
    by_cases c : S &&& (S - 1) = 0
    · simp [pv, c] at hX
    · obtain ⟨⟨a1, a2, a3⟩, a4, a5⟩ := q.2.resolve_left c
      have le := sub_add a1
      simp only [pv, if_neg c, List.mem_cons, List.mem_append] at hX
      rcases hX with rfl | hX | hX
      · exact ⟨q.1.1, hS⟩
      · exact pv_sub n _ (by omega) a5 X hX
      · exact pv_sub n _ (by omega) a4 X hX
theorem MD_in {l1 : Nat → Nat} {c j : Nat} (hc1 : 1 ≤ c) (hc : c ≤ 10) (hg : gd (FI l1) 10 (2 ^ c - 1)) (hj : j < c - 1) : MD l1 c j ∈ pv (FI l1) 10 (2 ^ c - 1) := by
  have hlen := pv_len hg
  rw [pc_all c hc] at hlen
  unfold MD
  rw [List.getD_eq_getElem?_getD]
  cases e : (pv (FI l1) 10 (2 ^ c - 1))[c - 2 - j]? with
  | none =>
    rw [List.getElem?_eq_none_iff] at e
    omega
  | some x => exact List.mem_of_getElem? e
theorem ordOK_congr {l1 l2 : Nat → Nat} {c : Nat} {lg co fi md : Nat → Nat} {ac ml : Nat} (hc1 : 1 ≤ c) (hc : c ≤ 10) (h : ∀ t, t < c → l1 t = l2 t) (q : ordOK l1 c lg co fi md ac ml) : ordOK l2 c lg co fi md ac ml := by
  obtain ⟨q1, q2, q3, q4, q5, q6⟩ := q
  have hp : 2 ^ 1 ≤ 2 ^ c := Nat.pow_le_pow_right (by decide) hc1
  have hco := CO_congr hc h
  obtain ⟨g1, g2⟩ := pv_congr (m := c) (fun s a b => (hco s a b).2) 10 (2 ^ c - 1) (by omega) q3
  have hmd : ∀ j, MD l1 c j = MD l2 c j := fun j => by unfold MD; rw [g2]
  refine ⟨by rw [q1, (hco _ (by omega) (by omega)).1], fun S a b => by rw [q2 S a b]; exact LGn_congr h (by omega) 10, g1, fun X hX => ?_, fun j hj => by rw [q5 j hj, hmd], ?_⟩
  · rw [← g2] at hX
    have := pv_sub (m := c) 10 _ (by omega) q3 X hX
    rw [q4 X hX, (hco X this.1 this.2).2]
  · rw [q6]
    unfold PK
    rw [mlA_congr (f := LG l1) (g := LG l2) c (fun i hi => LGn_congr h (Nat.pow_lt_pow_right (by decide) hi) 10)]
    exact mlB_congr _ (fun i _ => hmd i) (fun i hi => LGn_congr h (by
      rw [← hmd]
      exact (pv_sub (m := c) 10 _ (by omega) q3 _ (MD_in hc1 hc q3 hi)).2) 10)
