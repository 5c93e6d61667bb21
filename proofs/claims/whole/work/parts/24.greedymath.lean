-- GREEDY: the choice exists
theorem sub_small {a b : Int32} {x y : Int} (ha : a.toInt = x) (hb : b.toInt = y) (h1 : -1073741824 ≤ x - y) (h2 : x - y ≤ 1073741824) : (a - b).toInt = x - y := by
  rw [Int32.toInt_sub, ha, hb]
  exact Int.bmod_eq_of_le (by omega) (by omega)
theorem two20 {x : Nat} (h : x < 2 ^ 20) : 1 ≤ 2 ^ pc_ x ∧ 2 ^ pc_ x ≤ 1048576 := ⟨Nat.two_pow_pos _, Nat.pow_le_pow_right (by decide) (pc_le h)⟩
theorem gI_toInt {L : Nat → Nat} {i j : Nat} (hi : L i < 2 ^ 20) (hj : L j < 2 ^ 20) : (gI L i j).toInt = (2 ^ pc_ (L i ^^^ L j) : Nat) - (2 ^ pc_ (L i) : Nat) - (2 ^ pc_ (L j) : Nat) := by
  have h1 := two20 (Nat.xor_lt_two_pow hi hj)
  have h2 := two20 hi
  have h3 := two20 hj
  unfold gI
  exact sub_small (sub_small (nI_toInt (by omega)) (nI_toInt (by omega)) (by omega) (by omega)) (nI_toInt (by omega)) (by omega) (by omega)
theorem gI_lt {L : Nat → Nat} {i j : Nat} (hi : L i < 2 ^ 20) (hj : L j < 2 ^ 20) : gI L i j < 1073741824 := by
  have h1 := two20 (Nat.xor_lt_two_pow hi hj)
  have h2 := two20 hi
  have h3 := two20 hj
  rw [Int32.lt_iff_toInt_lt, gI_toInt hi hj, show (1073741824 : Int32).toInt = 1073741824 from rfl]
  omega
theorem chS_some {L : Nat → Nat} {gn : Nat} {b : Option (Nat × Nat)} {i j : Nat} (h : b ≠ none) : chS L gn b i j ≠ none := by
  unfold chS
  split
  · simp
  · exact h
theorem chJ_some {L : Nat → Nat} {gn i j0 : Nat} {b : Option (Nat × Nat)} (h : b ≠ none) : ∀ m, chJ L gn i j0 b m ≠ none
  | 0 => h
  | m + 1 => chS_some (chJ_some h m)
theorem chJ_hit {L : Nat → Nat} {gn i j0 k : Nat} {b : Option (Nat × Nat)} (gi : gn.testBit i = false) (gj : gn.testBit (j0 + k) = false) (hi : L i < 2 ^ 20) (hj : L (j0 + k) < 2 ^ 20) : ∀ m, k < m → chJ L gn i j0 b m ≠ none
  | 0, h => by omega
  | m + 1, h => by
    by_cases e : k = m
    · subst e
      by_cases hb : chJ L gn i j0 b k = none
      · show chS L gn (chJ L gn i j0 b k) i (j0 + k) ≠ none
        rw [hb]
        unfold chS
        rw [if_pos ⟨gi, gj, gI_lt hi hj⟩]
        simp
      · exact chS_some hb
    · exact chS_some (chJ_hit gi gj hi hj m (by omega))
theorem chI_mono {L : Nat → Nat} {gn n m : Nat} (h : chI L gn n m ≠ none) : ∀ k, chI L gn n (m + k) ≠ none
  | 0 => h
  | k + 1 => chJ_some (chI_mono h k) _
theorem chI_hit {L : Nat → Nat} {gn n i j : Nat} (hij : i < j) (hj : j < n) (gi : gn.testBit i = false) (gj : gn.testBit j = false) (hL : ∀ i, i < n → L i < 2 ^ 20) : chI L gn n n ≠ none := by
  have h1 : chI L gn n (i + 1) ≠ none := chJ_hit (k := j - (i + 1)) gi (by rw [show i + 1 + (j - (i + 1)) = j by omega]; exact gj) (hL i (by omega)) (hL _ (by omega)) _ (by omega)
  have h2 := chI_mono h1 (n - (i + 1))
  rw [show i + 1 + (n - (i + 1)) = n by omega] at h2
  exact h2
/-- what is chosen: two things that are there, the lesser number first -/
def chOk (gn n : Nat) (b : Option (Nat × Nat)) : Prop := ∀ p q, b = some (p, q) → p < q ∧ q < n ∧ gn.testBit p = false ∧ gn.testBit q = false
theorem chS_ok {L : Nat → Nat} {gn n : Nat} {b : Option (Nat × Nat)} {i j : Nat} (hij : i < j) (hj : j < n) (h : chOk gn n b) : chOk gn n (chS L gn b i j) := by
  intro p q e
  unfold chS at e
  split at e
  · rename_i c
    cases e
    exact ⟨hij, hj, c.1, c.2.1⟩
  · exact h p q e
theorem chJ_ok {L : Nat → Nat} {gn n i j0 : Nat} {b : Option (Nat × Nat)} (h : chOk gn n b) (hi : i < j0) : ∀ m, j0 + m ≤ n → chOk gn n (chJ L gn i j0 b m)
  | 0, _ => h
  | m + 1, hm => chS_ok (by omega) (by omega) (chJ_ok h hi m (by omega))
theorem chI_ok {L : Nat → Nat} {gn n : Nat} : ∀ m, m ≤ n → chOk gn n (chI L gn n m)
  | 0, _ => fun p q e => by cases e
  | m + 1, h => chJ_ok (chI_ok m (by omega)) (by omega) _ (by omega)
theorem two_left : ∀ {n gn : Nat}, pc_n gn n + 2 ≤ n → ∃ i j, i < j ∧ j < n ∧ gn.testBit i = false ∧ gn.testBit j = false
  | 0, gn, h => by simp [pc_n] at h
  | n + 1, gn, h => by
    cases hb : gn.testBit n with
    | true =>
      obtain ⟨i, j, h1, h2, h3, h4⟩ := two_left (n := n) (gn := gn) (by simp [pc_n, hb] at h; omega)
      exact ⟨i, j, h1, by omega, h3, h4⟩
    | false =>
      have one : ∀ {m : Nat}, pc_n gn m + 1 ≤ m → ∃ i, i < m ∧ gn.testBit i = false := by
        intro m
        induction m with
        | zero => intro q; simp [pc_n] at q
        | succ m ih =>
          intro q
          cases hm : gn.testBit m with
          | false => exact ⟨m, by omega, hm⟩
          | true =>
            obtain ⟨i, a, b⟩ := ih (by simp [pc_n, hm] at q; omega)
            exact ⟨i, by omega, b⟩
      obtain ⟨i, a, b⟩ := one (m := n) (by simp [pc_n, hb] at h; omega)
      exact ⟨i, n, a, by omega, b, hb⟩
theorem pc_n_set : ∀ {n gn p : Nat}, gn.testBit p = false → p < n → pc_n (gn ||| 2 ^ p) n = pc_n gn n + 1
  | 0, gn, p, _, h => by omega
  | n + 1, gn, p, hp, h => by
    simp only [pc_n, Nat.testBit_or, Nat.testBit_two_pow]
    by_cases e : p = n
    · subst e
      have : ∀ m, m ≤ p → pc_n (gn ||| 2 ^ p) m = pc_n gn m := by
        intro m
        induction m with
        | zero => intro _; rfl
        | succ m ih =>
          intro hm
          simp only [pc_n, Nat.testBit_or, Nat.testBit_two_pow, ih (by omega)]
          have : ¬ p = m := by omega
          simp [this]
      simp [this p (Nat.le_refl _), hp]
    · rw [pc_n_set hp (by omega)]
      simp [e]
      omega
-- the whole run: legs, sizes, what is gone, who was joined, costs
abbrev gst : Type := (Nat → Nat) × (Nat → Nat) × Nat × (Nat → Nat) × (Nat → Nat) × Nat
def gtu (c : Nat) (s : gst) (t : Nat) : gst := match chI s.1 s.2.2.1 (c + t) (c + t) with
  | none => s
  | some (p, q) => (va_up s.1 (c + t) (s.1 p ^^^ s.1 q), va_up s.2.1 (c + t) (2 ^ pc_ (s.1 p ^^^ s.1 q)), s.2.2.1 ||| (2 ^ p ||| 2 ^ q), va_up s.2.2.2.1 t p, va_up s.2.2.2.2.1 t q, s.2.2.2.2.2 + 2 ^ pc_ (s.1 p ||| s.1 q))
def grun (c : Nat) (s : gst) : Nat → gst
  | 0 => s
  | t + 1 => gtu c (grun c s t) t
def gok (c : Nat) (s : gst) (t : Nat) : Prop := pc_n s.2.2.1 (c + t) = 2 * t ∧ s.2.2.1 < 2 ^ (c + t) ∧ ∀ i, i < c + t → s.1 i < 2 ^ 20 ∧ s.2.1 i = 2 ^ pc_ (s.1 i)
theorem gok_ch {c t : Nat} {s : gst} (h : gok c s t) (ht : t + 1 < c) : ∃ p q, chI s.1 s.2.2.1 (c + t) (c + t) = some (p, q) ∧ p < q ∧ q < c + t ∧ s.2.2.1.testBit p = false ∧ s.2.2.1.testBit q = false := by
  obtain ⟨i, j, h1, h2, h3, h4⟩ := two_left (n := c + t) (gn := s.2.2.1) (by rw [h.1]; omega)
  have h5 := chI_hit (L := s.1) h1 h2 h3 h4 (fun i hi => (h.2.2 i hi).1)
  cases hc : chI s.1 s.2.2.1 (c + t) (c + t) with
  | none => exact absurd hc h5
  | some b => exact ⟨b.1, b.2, rfl, chI_ok (c + t) (Nat.le_refl _) b.1 b.2 hc⟩
theorem gok_s {c t : Nat} {s : gst} (h : gok c s t) (ht : t + 1 < c) : gok c (gtu c s t) (t + 1) := by
  obtain ⟨p, q, hc, h1, h2, h3, h4⟩ := gok_ch h ht
  obtain ⟨k1, k2, k3⟩ := h
  unfold gtu
  rw [hc]
  have hp : 2 ^ p < 2 ^ (c + t) := Nat.pow_lt_pow_right (by decide) (by omega)
  have hq : 2 ^ q < 2 ^ (c + t) := Nat.pow_lt_pow_right (by decide) (by omega)
  have hlt : s.2.2.1 ||| (2 ^ p ||| 2 ^ q) < 2 ^ (c + t) := Nat.or_lt_two_pow k2 (Nat.or_lt_two_pow hp hq)
  refine ⟨?_, Nat.lt_of_lt_of_le hlt (Nat.pow_le_pow_right (by decide) (by omega)), ?_⟩
  · show pc_n (s.2.2.1 ||| (2 ^ p ||| 2 ^ q)) (c + t + 1) = 2 * (t + 1)
    rw [pc_n_lt hlt 1, ← Nat.or_assoc]
    have h5 : (s.2.2.1 ||| 2 ^ p).testBit q = false := by
      have : ¬ p = q := by omega
      rw [Nat.testBit_or, h4, Nat.testBit_two_pow]
      simp [this]
    rw [pc_n_set h5 h2, pc_n_set h3 (by omega), k1]
    omega
  · intro i hi
    have hx := Nat.xor_lt_two_pow (k3 p (by omega)).1 (k3 q (by omega)).1
    by_cases e : i = c + t
    · subst e
      simp [va_up, hx]
    · have := k3 i (by omega)
      simp only [va_up, if_neg e]
      exact this
theorem gok_r {c : Nat} {s : gst} (h : gok c s 0) : ∀ t, t < c → gok c (grun c s t) t
  | 0, _ => h
  | t + 1, ht => gok_s (gok_r h t (by omega)) ht
def hv_cp {α : Type} (f g : Nat → α) (i : Nat) : Nat → α := fun j => if j < i then f j else g j
theorem hv_cp_0 {α : Type} {f g : Nat → α} : hv_cp f g 0 = g := by funext j; simp [hv_cp]
theorem hv_cp_s {α : Type} {f g : Nat → α} {i : Nat} : va_up (hv_cp f g i) i (f i) = hv_cp f g (i + 1) := by
  funext j
  simp only [va_up, hv_cp]
  split
  · rename_i e; rw [if_pos (by omega), e]
  · split
    · rw [if_pos (by omega)]
    · rw [if_neg (by omega)]
theorem gok_0 {c : Nat} {l1 L0 Z0 les oth : Nat → Nat} (h : ∀ i, i < c → l1 i < 2 ^ 20) : gok c (hv_cp l1 L0 c, hv_cp (fun j => 2 ^ pc_ (l1 j)) Z0 c, 0, les, oth, 0) 0 := by
  refine ⟨pc_n_0 _, Nat.two_pow_pos _, fun i hi => ?_⟩
  have hi : i < c := hi
  simp only [hv_cp, if_pos hi]
  exact ⟨h i hi, trivial⟩
section OX
variable {h : hv_P}
theorem ox_1 {a0 : Nat} {e0 : hv_E} : hv_ov h [(a0, e0)] = hv_up h a0 e0 := rfl
theorem ox_2 {a0 a1 : Nat} {e0 e1 : hv_E} : hv_ov h [(a0, e0), (a1, e1)] = hv_up (hv_up h a1 e1) a0 e0 := rfl
theorem ox_3 {a0 a1 a2 : Nat} {e0 e1 e2 : hv_E} : hv_ov h [(a0, e0), (a1, e1), (a2, e2)] = hv_up (hv_up (hv_up h a2 e2) a1 e1) a0 e0 := rfl
theorem ox_4 {a0 a1 a2 a3 : Nat} {e0 e1 e2 e3 : hv_E} : hv_ov h [(a0, e0), (a1, e1), (a2, e2), (a3, e3)] = hv_up (hv_up (hv_up (hv_up h a3 e3) a2 e2) a1 e1) a0 e0 := rfl
theorem ox_5 {a0 a1 a2 a3 a4 : Nat} {e0 e1 e2 e3 e4 : hv_E} : hv_ov h [(a0, e0), (a1, e1), (a2, e2), (a3, e3), (a4, e4)] = hv_up (hv_up (hv_up (hv_up (hv_up h a4 e4) a3 e3) a2 e2) a1 e1) a0 e0 := rfl
theorem ox_6 {a0 a1 a2 a3 a4 a5 : Nat} {e0 e1 e2 e3 e4 e5 : hv_E} : hv_ov h [(a0, e0), (a1, e1), (a2, e2), (a3, e3), (a4, e4), (a5, e5)] = hv_up (hv_up (hv_up (hv_up (hv_up (hv_up h a5 e5) a4 e4) a3 e3) a2 e2) a1 e1) a0 e0 := rfl
theorem ox_7 {a0 a1 a2 a3 a4 a5 a6 : Nat} {e0 e1 e2 e3 e4 e5 e6 : hv_E} : hv_ov h [(a0, e0), (a1, e1), (a2, e2), (a3, e3), (a4, e4), (a5, e5), (a6, e6)] = hv_up (hv_up (hv_up (hv_up (hv_up (hv_up (hv_up h a6 e6) a5 e5) a4 e4) a3 e3) a2 e2) a1 e1) a0 e0 := rfl
theorem ox_8 {a0 a1 a2 a3 a4 a5 a6 a7 : Nat} {e0 e1 e2 e3 e4 e5 e6 e7 : hv_E} : hv_ov h [(a0, e0), (a1, e1), (a2, e2), (a3, e3), (a4, e4), (a5, e5), (a6, e6), (a7, e7)] = hv_up (hv_up (hv_up (hv_up (hv_up (hv_up (hv_up (hv_up h a7 e7) a6 e6) a5 e5) a4 e4) a3 e3) a2 e2) a1 e1) a0 e0 := rfl
theorem ox_9 {a0 a1 a2 a3 a4 a5 a6 a7 a8 : Nat} {e0 e1 e2 e3 e4 e5 e6 e7 e8 : hv_E} : hv_ov h [(a0, e0), (a1, e1), (a2, e2), (a3, e3), (a4, e4), (a5, e5), (a6, e6), (a7, e7), (a8, e8)] = hv_up (hv_up (hv_up (hv_up (hv_up (hv_up (hv_up (hv_up (hv_up h a8 e8) a7 e7) a6 e6) a5 e5) a4 e4) a3 e3) a2 e2) a1 e1) a0 e0 := rfl
end OX
