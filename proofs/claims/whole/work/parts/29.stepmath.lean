-- STEPS: the order's tree, and its walk with a stack
def gd (fi : Nat → Nat) : Nat → Nat → Prop
  | 0, _ => False
  | n + 1, S => (S ≠ 0 ∧ S < 1024) ∧ (S &&& (S - 1) = 0 ∨ ((fi S &&& S = fi S ∧ fi S ≠ 0 ∧ fi S ≠ S) ∧ gd fi n (fi S) ∧ gd fi n (S ^^^ fi S)))
def pv (fi : Nat → Nat) : Nat → Nat → List Nat
  | 0, _ => []
  | n + 1, S => if S &&& (S - 1) = 0 then [] else S :: (pv fi n (S ^^^ fi S) ++ pv fi n (fi S))
theorem gd_mono {fi : Nat → Nat} : ∀ {n S : Nat}, gd fi n S → gd fi (n + 1) S
  | 0, S, h => h.elim
  | n + 1, S, h => ⟨h.1, h.2.imp id (fun q => ⟨q.1, gd_mono q.2.1, gd_mono q.2.2⟩)⟩
theorem pv_mono {fi : Nat → Nat} : ∀ {n S : Nat}, gd fi n S → pv fi (n + 1) S = pv fi n S
  | 0, S, h => h.elim
  | n + 1, S, h => by
    by_cases c : S &&& (S - 1) = 0
    · simp [pv, c]
    · obtain ⟨-, g1, g2⟩ := h.2.resolve_left c
      have e1 := pv_mono g1
      have e2 := pv_mono g2
      show (if S &&& (S - 1) = 0 then [] else S :: (pv fi (n + 1) (S ^^^ fi S) ++ pv fi (n + 1) (fi S))) = (if S &&& (S - 1) = 0 then [] else S :: (pv fi n (S ^^^ fi S) ++ pv fi n (fi S)))
      rw [e1, e2]
theorem pc_part {x S : Nat} (h : x &&& S = x) : pc_ x + pc_ (S ^^^ x) = pc_ S := by
  have h1 : ∀ i, ¬ (x.testBit i = true ∧ (S ^^^ x).testBit i = true) := by
    intro i
    have := sub_bits h i
    rw [Nat.testBit_xor]
    cases hx : x.testBit i <;> simp_all
  have h2 : x ||| (S ^^^ x) = S := by
    apply Nat.eq_of_testBit_eq
    intro i
    have := sub_bits h i
    simp only [Nat.testBit_or, Nat.testBit_xor]
    cases hm : x.testBit i <;> simp_all
  rw [← pc_n_or h1 32, h2]
theorem pc_one : ∀ S, S < 1024 → S ≠ 0 → (S &&& (S - 1) = 0 ↔ pc_ S = 1) := by decide +kernel
theorem pc_pos : ∀ S, S < 1024 → S ≠ 0 → 1 ≤ pc_ S := by decide +kernel
theorem pv_len {fi : Nat → Nat} : ∀ {n S : Nat}, gd fi n S → (pv fi n S).length + 1 = pc_ S
  | 0, S, h => h.elim
  | n + 1, S, h => by
    by_cases c : S &&& (S - 1) = 0
    · have := (pc_one S h.1.2 h.1.1).mp c
      simp [pv, c, this]
    · obtain ⟨q, g1, g2⟩ := h.2.resolve_left c
      have e1 := pv_len g1
      have e2 := pv_len g2
      have e3 := pc_part q.1
      simp [pv, c]
      omega
theorem pv_in {fi : Nat → Nat} : ∀ {n S : Nat}, gd fi n S → ∀ x ∈ pv fi n S, x < 1024
  | 0, S, h => h.elim
  | n + 1, S, h => by
    intro x hx
    by_cases c : S &&& (S - 1) = 0
    · simp [pv, c] at hx
    · obtain ⟨q, g1, g2⟩ := h.2.resolve_left c
      simp only [pv, if_neg c, List.mem_cons, List.mem_append] at hx
      rcases hx with rfl | hx | hx
      · exact h.1.2
      · exact pv_in g2 x hx
      · exact pv_in g1 x hx
def rem_ (fi : Nat → Nat) (V : List Nat) : List Nat := (V.reverse.map (pv fi 10)).flatten
def szs (V : List Nat) : Nat := (V.map pc_).sum
theorem rem_s {fi : Nat → Nat} (V : List Nat) (S : Nat) : rem_ fi (V ++ [S]) = pv fi 10 S ++ rem_ fi V := by simp [rem_]
theorem rem_2 {fi : Nat → Nat} {V : List Nat} {S : Nat} (h : gd fi 10 S) (c : ¬ S &&& (S - 1) = 0) : rem_ fi (V ++ [S]) = S :: rem_ fi (V ++ [fi S, S ^^^ fi S]) := by
  obtain ⟨q, g1, g2⟩ := h.2.resolve_left c
  have e1 := pv_mono g1
  have e2 := pv_mono g2
  rw [rem_s, show V ++ [fi S, S ^^^ fi S] = V ++ [fi S] ++ [S ^^^ fi S] by simp, rem_s, rem_s]
  show (if S &&& (S - 1) = 0 then [] else S :: (pv fi 9 (S ^^^ fi S) ++ pv fi 9 (fi S))) ++ rem_ fi V = _
  rw [if_neg c, e1, e2]
  simp
theorem szs_s (V : List Nat) (S : Nat) : szs (V ++ [S]) = szs V + pc_ S := by simp [szs]
theorem rem_len {fi : Nat → Nat} : ∀ {V : List Nat}, (∀ S ∈ V, gd fi 10 S) → (rem_ fi V).length + V.length = szs V
  | [], _ => rfl
  | S :: V, h => by
    have ih := rem_len (V := V) (fun x hx => h x (List.mem_cons_of_mem _ hx))
    have e := pv_len (h S List.mem_cons_self)
    simp [rem_, szs] at ih ⊢
    omega
theorem len_szs {fi : Nat → Nat} {V : List Nat} (h : ∀ S ∈ V, gd fi 10 S) : V.length ≤ szs V := by
  have := rem_len h
  omega
theorem last_of {V : List Nat} {n : Nat} (h : V.length = n + 1) : ∃ V0 S, V = V0 ++ [S] ∧ V0.length = n := by
  have hne : V ≠ [] := by intro q; rw [q] at h; simp at h
  refine ⟨V.dropLast, V.getLast hne, (List.dropLast_concat_getLast hne).symm, ?_⟩
  rw [List.length_dropLast, h]
  omega
theorem st_1 (n : Nat) : nI n + (-1) + nI 1 = nI n := by
  have : nI 1 = 1 := rfl
  rw [this]
  grind
theorem st_2 (n : Nat) : nI n + (-1) + nI 2 = nI (n + 1) := by
  have : nI 2 = 1 + 1 := rfl
  rw [this, nI_succ]
  grind
theorem st_3 (n : Nat) : nI n + (-1) + 2 = nI (n + 2) + (-1) := by
  rw [show n + 2 = n + 1 + 1 from rfl, nI_succ, nI_succ]
  grind
def lsV (fi : Nat → Nat) (al c v : Nat) (V : List Nat) (md wt : Nat → Nat) : Prop := (∀ S ∈ V, gd fi 10 S) ∧ v + 2 * szs V = 2 * c - 1 + V.length ∧ szs V ≤ c ∧ (∀ i, i < V.length → V[i]? = some (wt i)) ∧ (∀ j, (rem_ fi V).length ≤ j → j < c - 1 → md j = (pv fi 10 al).getD (c - 2 - j) 0) ∧ ∃ O, pv fi 10 al = O ++ rem_ fi V
theorem ls_top {fi : Nat → Nat} {al c v : Nat} {V0 : List Nat} {S : Nat} {md wt : Nat → Nat} (h : lsV fi al c v (V0 ++ [S]) md wt) : wt V0.length = S ∧ gd fi 10 S ∧ S ≠ 0 ∧ S < 1024 := by
  have h1 := h.2.2.2.1 V0.length (by simp)
  have h2 := h.1 S (by simp)
  simp at h1
  exact ⟨h1.symm, h2, h2.1⟩
theorem ls_one {fi : Nat → Nat} {al c v : Nat} {V0 : List Nat} {S : Nat} {md wt : Nat → Nat} (h : lsV fi al c v (V0 ++ [S]) md wt) (c0 : S &&& (S - 1) = 0) : lsV fi al c (v + 1) V0 md wt ∧ (rem_ fi (V0 ++ [S])).length = (rem_ fi V0).length := by
  obtain ⟨t1, t2, t3, t4⟩ := ls_top h
  obtain ⟨h1, h2, h3, h4, h5, O, h6⟩ := h
  have e : rem_ fi (V0 ++ [S]) = rem_ fi V0 := by rw [rem_s]; simp [pv, c0]
  have p1 := (pc_one S t4 t3).mp c0
  rw [szs_s, p1] at h2 h3
  rw [e] at h5 h6
  refine ⟨⟨fun x hx => h1 x (by simp [hx]), by simp at h2; omega, by omega, fun i hi => ?_, h5, O, h6⟩, by rw [e]⟩
  have := h4 i (by simp; omega)
  rw [List.getElem?_append_left hi] at this
  exact this
theorem ls_two {fi : Nat → Nat} {al c v : Nat} {V0 : List Nat} {S : Nat} {md wt : Nat → Nat} (hal : (pv fi 10 al).length + 1 = c) (h : lsV fi al c v (V0 ++ [S]) md wt) (c0 : ¬ S &&& (S - 1) = 0) :
    lsV fi al c (v + 1) (V0 ++ [fi S, S ^^^ fi S]) (va_up md (rem_ fi (V0 ++ [fi S, S ^^^ fi S])).length S) (va_up (va_up wt V0.length (fi S)) (V0.length + 1) (S ^^^ fi S)) ∧ (rem_ fi (V0 ++ [S])).length = (rem_ fi (V0 ++ [fi S, S ^^^ fi S])).length + 1 ∧ (rem_ fi (V0 ++ [fi S, S ^^^ fi S])).length < c - 1 ∧ V0.length + 2 ≤ c := by
  obtain ⟨t1, t2, t3, t4⟩ := ls_top h
  obtain ⟨h1, h2, h3, h4, h5, O, h6⟩ := h
  have e := rem_2 (V := V0) t2 c0
  obtain ⟨q, g1, g2⟩ := t2.2.resolve_left c0
  have hsz : szs (V0 ++ [fi S, S ^^^ fi S]) = szs (V0 ++ [S]) := by
    have := pc_part q.1
    simp [szs]
    omega
  have hg : ∀ x ∈ V0 ++ [fi S, S ^^^ fi S], gd fi 10 x := by
    intro x hx
    simp at hx
    rcases hx with hx | rfl | rfl
    · exact h1 x (by simp [hx])
    · exact gd_mono g1
    · exact gd_mono g2
  have hl := len_szs hg
  have hO : O.length + (1 + (rem_ fi (V0 ++ [fi S, S ^^^ fi S])).length) = c - 1 := by
    have := congrArg List.length h6
    rw [e] at this
    simp at this
    omega
  refine ⟨⟨hg, ?_, by rw [hsz]; exact h3, ?_, ?_, O ++ [S], by rw [h6, e]; simp⟩, by rw [e]; simp, by omega, ?_⟩
  · rw [hsz]
    simp at h2 ⊢
    omega
  · intro i hi
    simp at hi
    by_cases c1 : i < V0.length
    · have := h4 i (by simp; omega)
      rw [List.getElem?_append_left c1] at this ⊢
      rw [this]
      simp only [va_up]
      rw [if_neg (by omega), if_neg (by omega)]
    · rw [List.getElem?_append_right (by omega)]
      by_cases c2 : i = V0.length
      · subst c2
        simp [va_up]
      · have c3 : i = V0.length + 1 := by omega
        subst c3
        simp [va_up]
  · intro j hj1 hj2
    by_cases c1 : j = (rem_ fi (V0 ++ [fi S, S ^^^ fi S])).length
    · subst c1
      have e2 : c - 2 - (rem_ fi (V0 ++ [fi S, S ^^^ fi S])).length = O.length := by omega
      rw [e2, h6, e]
      simp [va_up]
    · simp only [va_up, if_neg c1]
      exact h5 j (by rw [e]; simp; omega) hj2
  · rw [hsz] at hl
    simp at hl
    omega
