-- WHAT AN ORDER HOLDS
theorem cl_nodes {l1 : Nat → Nat} {al bd c : Nat} {st : gt3} (hl : ∀ t, t < c → l1 t < 2 ^ 20) (hc : c ≤ 10) (hal : al = 2 ^ c - 1) (hR : ∀ q, 1 ≤ q → q ≤ al → clR l1 al bd st q) : ∀ n S, S ≠ 0 → S ≤ al → st.2.1 S = CO l1 S → CO l1 S ≤ bd → ∀ X ∈ pv (FI l1) n S, st.2.2 X = FI l1 X ∧ 1 ≤ X ∧ X ≤ al ∧ ¬ X &&& (X - 1) = 0
  | 0, S, _, _, _, _ => fun X hX => by simp [pv] at hX
  | n + 1, S, h0, hS, hco, hb => by
    have h10 : (2 : Nat) ^ c ≤ 2 ^ 10 := Nat.pow_le_pow_right (by decide) hc
    have hp := Nat.two_pow_pos c
    intro X hX
    by_cases h1 : S &&& (S - 1) = 0
    · simp [pv, h1] at hX
    · have hfi : st.2.2 S = FI l1 S := by
        rcases (hR S (by omega) hS).2 with z | ⟨z, -⟩
        · exact z.2.2 h1
        · omega
      obtain ⟨x, x1, x2, x3, x4, x5⟩ := CO_ge hl hc (show S < 2 ^ c by omega) h0 h1
      obtain ⟨p1, p2, p3, p4, p5, p6, p7⟩ := part_facts (by omega) h0 x2 x1
      have hv := x3
      unfold vx at hv
      rw [← x4] at hv p1 p2 p3 p4 p7
      rw [← p7] at hv p1 p5 p6
      have mA : 2 ^ pc_ (LG l1 (FI l1 S)) ≤ 2 ^ pc_ (LG l1 (FI l1 S) ||| LG l1 (S ^^^ FI l1 S)) := Nat.pow_le_pow_right (by decide) (pc_n_mono (fun i hi => by rw [Nat.testBit_or, hi]; rfl) 32)
      have mB : 2 ^ pc_ (LG l1 (S ^^^ FI l1 S)) ≤ 2 ^ pc_ (LG l1 (FI l1 S) ||| LG l1 (S ^^^ FI l1 S)) := Nat.pow_le_pow_right (by decide) (pc_n_mono (fun i hi => by rw [Nat.testBit_or, hi]; simp) 32)
      have pJ := Nat.two_pow_pos (pc_ (LG l1 (FI l1 S) ||| LG l1 (S ^^^ FI l1 S)))
      have good : ∀ q, 1 ≤ q → q < S → CO l1 q + 2 ^ pc_ (LG l1 q) ≤ bd → st.2.1 q = CO l1 q := by
        intro q q1 q2 hq
        have pq := Nat.two_pow_pos (pc_ (LG l1 q))
        rcases (hR q q1 (by omega)).2 with z | ⟨-, z | ⟨-, z2, z3⟩⟩
        · exact z.1
        · omega
        · obtain ⟨-, -, -, -, -, g⟩ := CO_ge hl hc (show q < 2 ^ c by omega) (by omega) z2
          omega
      simp only [pv, if_neg h1, List.mem_cons, List.mem_append] at hX
      rcases hX with rfl | hX | hX
      · exact ⟨hfi, by omega, hS, h1⟩
      · exact cl_nodes hl hc hal hR n (S ^^^ FI l1 S) (by omega) (by omega) (good _ (by omega) p6 (by omega)) (by omega) X hX
      · exact cl_nodes hl hc hal hR n (FI l1 S) (by omega) (by omega) (good _ (by omega) p4 (by omega)) (by omega) X hX
/-- the sets that the steps make, the first step first -/
def MD (l1 : Nat → Nat) (c : Nat) (j : Nat) : Nat := (pv (FI l1) 10 (2 ^ c - 1)).getD (c - 2 - j) 0
/-- the peak -/
def PK (l1 : Nat → Nat) (c : Nat) : Nat := mlB (LG l1) (MD l1 c) (mlA (LG l1) c) (c - 1)
theorem mlA_congr {f g : Nat → Nat} : ∀ n, (∀ i, i < n → f (2 ^ i) = g (2 ^ i)) → mlA f n = mlA g n
  | 0, _ => rfl
  | n + 1, h => by simp only [mlA, mlA_congr n (fun i hi => h i (by omega)), h n (by omega)]
theorem mlB_congr {f g md md' : Nat → Nat} {b : Nat} : ∀ n, (∀ i, i < n → md i = md' i) → (∀ i, i < n → f (md' i) = g (md' i)) → mlB f md b n = mlB g md' b n
  | 0, _, _ => rfl
  | n + 1, h, h2 => by simp only [mlB, mlB_congr n (fun i hi => h i (by omega)) (fun i hi => h2 i (by omega)), h n (by omega), h2 n (by omega)]
def ordOK (l1 : Nat → Nat) (c : Nat) (lg co fi md : Nat → Nat) (ac ml : Nat) : Prop := ac = CO l1 (2 ^ c - 1) ∧ (∀ S, 1 ≤ S → S ≤ 2 ^ c - 1 → lg S = LG l1 S) ∧ gd (FI l1) 10 (2 ^ c - 1) ∧ (∀ X ∈ pv (FI l1) 10 (2 ^ c - 1), fi X = FI l1 X) ∧ (∀ j, j < c - 1 → md j = MD l1 c j) ∧ ml = PK l1 c
theorem pc_all : ∀ c, c ≤ 10 → pc_ (2 ^ c - 1) = c := by decide +kernel
theorem find_tree {l1 : Nat → Nat} {c bd : Nat} {st0 : gt3} (hl : ∀ t, t < c → l1 t < 2 ^ 20) (hc1 : 1 ≤ c) (hc : c ≤ 10) (hbd : bd < 2 ^ 26) (hz : st0.1 0 = 0) (hgr : CO l1 (2 ^ c - 1) ≤ bd) :
    gd (fdF l1 (2 ^ c - 1) bd st0 (2 ^ c - 1 + 1)).2.2 10 (2 ^ c - 1) ∧ pv (fdF l1 (2 ^ c - 1) bd st0 (2 ^ c - 1 + 1)).2.2 10 (2 ^ c - 1) = pv (FI l1) 10 (2 ^ c - 1) ∧ (fdF l1 (2 ^ c - 1) bd st0 (2 ^ c - 1 + 1)).1 0 = 0 ∧ ∀ (md : Nat → Nat), (∀ j, j < c - 1 → md j = MD l1 c j) → ordOK l1 c (fdF l1 (2 ^ c - 1) bd st0 (2 ^ c - 1 + 1)).1 (fdF l1 (2 ^ c - 1) bd st0 (2 ^ c - 1 + 1)).2.1 (fdF l1 (2 ^ c - 1) bd st0 (2 ^ c - 1 + 1)).2.2 md ((fdF l1 (2 ^ c - 1) bd st0 (2 ^ c - 1 + 1)).2.1 (2 ^ c - 1)) (mlB (fdF l1 (2 ^ c - 1) bd st0 (2 ^ c - 1 + 1)).1 md (mlA (fdF l1 (2 ^ c - 1) bd st0 (2 ^ c - 1 + 1)).1 c) (c - 1)) := by
  have h2 : 2 ^ 1 ≤ 2 ^ c := Nat.pow_le_pow_right (by decide) hc1
  have pa := pc_all c hc
  obtain ⟨r0, r1⟩ := cl_all (al := 2 ^ c - 1) (bd := bd) hl hc rfl (by omega) hz (2 ^ c - 1 + 1) (Nat.le_refl _)
  generalize fdF l1 (2 ^ c - 1) bd st0 (2 ^ c - 1 + 1) = F at r0 r1 ⊢
  have hR : ∀ q, 1 ≤ q → q ≤ 2 ^ c - 1 → clR l1 (2 ^ c - 1) bd F q := fun q a b => r1 q a (by omega)
  have hco : F.2.1 (2 ^ c - 1) = CO l1 (2 ^ c - 1) := by
    rcases (hR (2 ^ c - 1) (by omega) (Nat.le_refl _)).2 with z | ⟨-, z | ⟨z, -⟩⟩
    · exact z.1
    · omega
    · exact absurd rfl z
  obtain ⟨t1, t2, t3⟩ := cl_tree hl hc rfl hR 10 (2 ^ c - 1) (by omega) (by omega) (Nat.le_refl _) hco hgr
  have t4 := cl_nodes hl hc rfl hR 10 (2 ^ c - 1) (by omega) (Nat.le_refl _) hco hgr
  have hin : ∀ j, j < c - 1 → 1 ≤ MD l1 c j ∧ MD l1 c j ≤ 2 ^ c - 1 := by
    intro j hj
    have hlen := pv_len t3
    unfold MD
    rw [List.getD_eq_getElem?_getD]
    cases e : (pv (FI l1) 10 (2 ^ c - 1))[c - 2 - j]? with
    | none =>
      rw [List.getElem?_eq_none_iff] at e
      omega
    | some x =>
      have := t4 x (List.mem_of_getElem? e)
      exact ⟨this.2.1, this.2.2.1⟩
  refine ⟨t1, t2, r0, fun md hmd => ⟨hco, fun S a b => (hR S a b).1, t3, fun X hX => (t4 X hX).1, hmd, ?_⟩⟩
  unfold PK
  have e1 : mlA F.1 c = mlA (LG l1) c := mlA_congr c (fun i hi => (hR _ (Nat.two_pow_pos i) (by have := Nat.pow_lt_pow_right (a := 2) (by decide) hi; omega)).1)
  rw [e1]
  exact mlB_congr _ hmd (fun i hi => (hR _ (hin i hi).1 (hin i hi).2).1)
theorem grun_ac {c : Nat} {s : gst} (hg : gok c s 0) : ∀ t, t < c → (grun c s t).2.2.2.2.2 ≤ s.2.2.2.2.2 + t * 2 ^ 20
  | 0, _ => by simp [grun]
  | t + 1, ht => by
    have ih := grun_ac hg t (by omega)
    have G := gok_r hg t (by omega)
    obtain ⟨p, q, hch, h1, h2, h3, h4⟩ := gok_ch G ht
    have e : grun c s (t + 1) = gtu c (grun c s t) t := rfl
    rw [e]
    unfold gtu
    rw [hch]
    have := (two20 (Nat.or_lt_two_pow (G.2.2 p (by omega)).1 (G.2.2 q h2).1)).2
    show _ + _ ≤ _
    omega
