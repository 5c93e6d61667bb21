-- THE CLASS'S STATE
/-- the tensors' cells -/
def tS (h : hv_P) (b : Nat) (pl : Nat → Nat) (la : Nat → Option Nat) (re im : Nat → Int32) : Prop := h (b + 1) = some (eQ 2 10 (fun i => some (b + 2 + 4 * i))) ∧ (∀ i, i < 10 → h (b + 2 + 4 * i) = some (oT (b + 2 + 4 * i) (nI (pl i)) (nI (LE pl la i)))) ∧ (∀ i, i < 10 → ∃ g : Nat → Option Nat, h (b + 2 + 4 * i + 1) = some (eM 6 g) ∧ ∀ p, p < 6 → g p = la (6 * i + p)) ∧ (∀ i, i < 10 → ∃ g : Nat → Int32, h (b + 2 + 4 * i + 2) = some (eI 64 g) ∧ ∀ x, x < 64 → g x = re (64 * i + x)) ∧ ∀ i, i < 10 → ∃ g : Nat → Int32, h (b + 2 + 4 * i + 3) = some (eI 64 g) ∧ ∀ x, x < 64 → g x = im (64 * i + x)
theorem tS.fr {h h' : hv_P} {b : Nat} {pl : Nat → Nat} {la : Nat → Option Nat} {re im : Nat → Int32} (S : tS h b pl la re im) (f : ∀ q, b + 1 ≤ q → q ≤ b + 41 → h' q = h q) : tS h' b pl la re im := by
  obtain ⟨s1, s2, s3, s4, s5⟩ := S
  exact ⟨by rw [f _ (by omega) (by omega)]; exact s1, fun i hi => by rw [f _ (by omega) (by omega)]; exact s2 i hi, fun i hi => by obtain ⟨g, a, c⟩ := s3 i hi; exact ⟨g, by rw [f _ (by omega) (by omega)]; exact a, c⟩, fun i hi => by obtain ⟨g, a, c⟩ := s4 i hi; exact ⟨g, by rw [f _ (by omega) (by omega)]; exact a, c⟩, fun i hi => by obtain ⟨g, a, c⟩ := s5 i hi; exact ⟨g, by rw [f _ (by omega) (by omega)]; exact a, c⟩⟩
/-- an order's cells; K: it is the order of these legs -/
def oS (h : hv_P) (a : Nat) (l1 : Nat → Nat) (c : Nat) (K : Prop) : Prop := ∃ (ac ml : Nat) (lg co fi md wt : Nat → Nat), h a = some (oO a (nI ac) (nI ml)) ∧ h (a + 1) = some (eN 1024 lg) ∧ h (a + 2) = some (eN 1024 co) ∧ h (a + 3) = some (eN 1024 fi) ∧ h (a + 4) = some (eN 10 md) ∧ h (a + 5) = some (eN 11 wt) ∧ fdOk (lg, co, fi) ∧ lg 0 = 0 ∧ (K → ordOK l1 c lg co fi md ac ml)
theorem oS.fr {h h' : hv_P} {a : Nat} {l1 : Nat → Nat} {c : Nat} {K : Prop} (S : oS h a l1 c K) (f : ∀ q, a ≤ q → q ≤ a + 5 → h' q = h q) : oS h' a l1 c K := by
  obtain ⟨ac, ml, lg, co, fi, md, wt, s0, s1, s2, s3, s4, s5, s6⟩ := S
  exact ⟨ac, ml, lg, co, fi, md, wt, by rw [f _ (by omega) (by omega)]; exact s0, by rw [f _ (by omega) (by omega)]; exact s1, by rw [f _ (by omega) (by omega)]; exact s2, by rw [f _ (by omega) (by omega)]; exact s3, by rw [f _ (by omega) (by omega)]; exact s4, by rw [f _ (by omega) (by omega)]; exact s5, s6⟩
theorem oS.un {h : hv_P} {a : Nat} {l1 l2 : Nat → Nat} {c c' : Nat} {K K' : Prop} (S : oS h a l1 c K) (n : ¬ K') : oS h a l2 c' K' := by
  obtain ⟨ac, ml, lg, co, fi, md, wt, s0, s1, s2, s3, s4, s5, s6, s7, s8⟩ := S
  exact ⟨ac, ml, lg, co, fi, md, wt, s0, s1, s2, s3, s4, s5, s6, s7, fun k => absurd k n⟩
/-- the greedy run's cells -/
def gS (h : hv_P) (a : Nat) : Prop := ∃ (gn gac : Int32) (L Z les oth : Nat → Nat), h a = some (oG a gn gac) ∧ h (a + 1) = some (eN 20 L) ∧ h (a + 2) = some (eN 20 Z) ∧ h (a + 3) = some (eN 10 les) ∧ h (a + 4) = some (eN 10 oth)
theorem gS.fr {h h' : hv_P} {a : Nat} (S : gS h a) (f : ∀ q, a ≤ q → q ≤ a + 4 → h' q = h q) : gS h' a := by
  obtain ⟨gn, gac, L, Z, les, oth, s0, s1, s2, s3, s4⟩ := S
  exact ⟨gn, gac, L, Z, les, oth, by rw [f _ (by omega) (by omega)]; exact s0, by rw [f _ (by omega) (by omega)]; exact s1, by rw [f _ (by omega) (by omega)]; exact s2, by rw [f _ (by omega) (by omega)]; exact s3, by rw [f _ (by omega) (by omega)]; exact s4⟩
/-- the contraction's cells; its rows are n long -/
def cS (h : hv_P) (b n : Nat) : Prop := ∃ (rr : Nat) (op us : Int32) (st bd : Nat → Nat) (m1 m2 m3 : Nat → Int32) (f1 f2 : Nat → Int64), h (b + 62) = some (oC (b + 62) rr (rr + 1) op us) ∧ h (b + 63) = some (eN 10 st) ∧ h (b + 64) = some (eN 10 bd) ∧ h (b + 65) = some (eI 21 m1) ∧ h (b + 66) = some (eI 21 m2) ∧ h (b + 67) = some (eI 21 m3) ∧ h rr = some (eL n f1) ∧ h (rr + 1) = some (eL n f2) ∧ (rr = b + 68 ∨ b + 91 ≤ rr) ∧ 64 ≤ n ∧ n ≤ 75008
theorem cS.fr {h h' : hv_P} {b n : Nat} (S : cS h b n) (f : ∀ q, (b + 62 ≤ q ∧ q ≤ b + 69) ∨ b + 91 ≤ q → h' q = h q) : cS h' b n := by
  obtain ⟨rr, op, us, st, bd, m1, m2, m3, f1, f2, s0, s1, s2, s3, s4, s5, s6, s7, s8, s9⟩ := S
  exact ⟨rr, op, us, st, bd, m1, m2, m3, f1, f2, by rw [f _ (by omega)]; exact s0, by rw [f _ (by omega)]; exact s1, by rw [f _ (by omega)]; exact s2, by rw [f _ (by omega)]; exact s3, by rw [f _ (by omega)]; exact s4, by rw [f _ (by omega)]; exact s5, by rw [f _ (by omega)]; exact s6, by rw [f _ (by omega)]; exact s7, s8, s9⟩
/-- what the kept peaks say -/
def cpOK (pl : Nat → Nat) (la : Nat → Option Nat) (c : Nat) (cp : Nat → Int32) : Prop := ∀ i j, i < 20 → j < 20 → cp (20 * i + j) = -1 ∨ (1 ≤ c ∧ cp (20 * i + j) = nI (PK (LC pl la (2 ^ i ||| 2 ^ j)) c))
/-- what the order of the cut network says -/
def lkOK (lk : Int32) (cu : Nat) : Prop := lk = -1 ∨ (lk = nI cu ∧ cu < 2 ^ 31)
def nS (h : hv_P) (b : Nat) (wk : Int32) (c : Nat) (pl : Nat → Nat) (la : Nat → Option Nat) (re im : Nat → Int32) (n : Nat) : Prop := ∃ (lk : Int32) (cu : Nat) (u l0 : Nat → Nat) (cp : Nat → Int32), h b = some (oN b (nI c) (nI (ctT (fun _ => 1) pl la c)) (nI (BR c pl la)) wk lk) ∧ tS h b pl la re im ∧ h (b + 42) = some (eN 20 u) ∧ (∀ n, n < 20 → u n = CT c pl la n) ∧ h (b + 43) = some (eN 10 l0) ∧ h (b + 44) = some (eI 400 cp) ∧ cpOK pl la c cp ∧ oS h (b + 45) (LC pl la 0) c (1 ≤ c ∧ ¬ wk = 0) ∧ oS h (b + 51) (LC pl la cu) c (1 ≤ c ∧ ¬ lk = -1) ∧ lkOK lk cu ∧ gS h (b + 57) ∧ cS h b n ∧ netOK c pl la
def nFr (b : Nat) (h h' : hv_P) : Prop := ∀ q, q < b ∨ b + 69 < q → h' q = h q
theorem nS.fr {h h' : hv_P} {b : Nat} {wk : Int32} {c : Nat} {pl : Nat → Nat} {la : Nat → Option Nat} {re im : Nat → Int32} {n : Nat} (S : nS h b wk c pl la re im n) (f : ∀ q, (b ≤ q ∧ q ≤ b + 69) ∨ b + 91 ≤ q → h' q = h q) : nS h' b wk c pl la re im n := by
  obtain ⟨lk, cu, u, l0, cp, s0, s1, s2, s3, s4, s5, s6, s7, s8, s9, s10, s11, s12⟩ := S
  exact ⟨lk, cu, u, l0, cp, by rw [f _ (by omega)]; exact s0, s1.fr (fun q a b => f q (by omega)), by rw [f _ (by omega)]; exact s2, s3, by rw [f _ (by omega)]; exact s4, by rw [f _ (by omega)]; exact s5, s6, s7.fr (fun q a b => f q (by omega)), s8.fr (fun q a b => f q (by omega)), s9, s10.fr (fun q a b => f q (by omega)), s11.fr (fun q a => f q (by omega)), s12⟩
theorem nS.ok {h : hv_P} {b : Nat} {wk : Int32} {c : Nat} {pl : Nat → Nat} {la : Nat → Option Nat} {re im : Nat → Int32} {n : Nat} (S : nS h b wk c pl la re im n) : netOK c pl la := by
  obtain ⟨lk, cu, u, l0, cp, s0, s1, s2, s3, s4, s5, s6, s7, s8, s9, s10, s11, s12⟩ := S
  exact s12
theorem ctT_le {f : Option Nat → Nat} (hf : ∀ o, f o ≤ 1) {pl : Nat → Nat} {la : Nat → Option Nat} : ∀ c, (∀ t, t < c → pl t ≤ 6) → ctT f pl la c ≤ 6 * c
  | 0, _ => Nat.le_refl _
  | c + 1, h => by
    have key : ∀ g p, ctP f g p ≤ p := by
      intro g p
      induction p with
      | zero => exact Nat.le_refl _
      | succ p ih => have := hf (g p); simp only [ctP]; omega
    have := ctT_le hf (pl := pl) (la := la) c (fun t ht => h t (by omega))
    have := key (fun p => la (6 * c + p)) (pl c)
    have := h c (by omega)
    simp only [ctT]
    omega
theorem f0_le (o : Option Nat) : f0_ o ≤ 1 := by unfold f0_; split <;> omega
/-- ready, as the class sees it -/
theorem rdy_cls {c : Nat} {pl : Nat → Nat} {la : Nat → Option Nat} (hN : netOK c pl la) : (decide (¬ nI c ≤ 0) && decide (nI (BR c pl la) = 0)) = RDY c pl la := by
  have hb := ctT_le f0_le (la := la) c hN.2.1
  have hc := hN.1
  rw [RDY_eq]
  congr 1
  · have e : (nI c ≤ 0) ↔ (c ≤ 0) := nI_leI (b := 0) (by omega) (by decide)
    by_cases q : c ≤ 0
    · simp [e.mpr q, show ¬ 0 < c by omega]
    · have : ¬ nI c ≤ 0 := fun z => q (e.mp z)
      simp [this, show 0 < c by omega]
  · have hb2 : BR c pl la ≤ 6 * c := hb
    have e : (nI (BR c pl la) = 0) ↔ (BR c pl la = 0) := nI_eq (b := 0) (by omega) (by decide)
    by_cases q : BR c pl la = 0
    · rw [decide_eq_true (e.mpr q), decide_eq_true q]
    · have : ¬ nI (BR c pl la) = 0 := fun z => q (e.mp z)
      simp [this, q]
