-- THE NETWORK AS NUMBERS: c tensors, pl their places, la the names of the places
def LE (pl : Nat → Nat) (la : Nat → Option Nat) (t : Nat) : Nat := lgx (fun p => la (6 * t + p)) (pl t)
def LC (pl : Nat → Nat) (la : Nat → Option Nat) (cu t : Nat) : Nat := anN (LE pl la t) cu
def RD (c : Nat) (pl : Nat → Nat) (la : Nat → Option Nat) : rd3 := rdT pl la (decide (0 < c)) c
def OPN (c : Nat) (pl : Nat → Nat) (la : Nat → Option Nat) : Nat := anN (RD c pl la).2.1 (RD c pl la).2.2
def SHR (c : Nat) (pl : Nat → Nat) (la : Nat → Option Nat) : Nat := (RD c pl la).2.2
def RDY (c : Nat) (pl : Nat → Nat) (la : Nat → Option Nat) : Bool := (RD c pl la).1
def ctP (f : Option Nat → Nat) (g : Nat → Option Nat) : Nat → Nat
  | 0 => 0
  | p + 1 => ctP f g p + f (g p)
def ctT (f : Option Nat → Nat) (pl : Nat → Nat) (la : Nat → Option Nat) : Nat → Nat
  | 0 => 0
  | t + 1 => ctT f pl la t + ctP f (fun p => la (6 * t + p)) (pl t)
def f1_ (n : Nat) (o : Option Nat) : Nat := if o = some n then 1 else 0
def f0_ (o : Option Nat) : Nat := if o = none then 1 else 0
/-- how often a name is met; how many places are bare -/
abbrev CT (c : Nat) (pl : Nat → Nat) (la : Nat → Option Nat) (n : Nat) : Nat := ctT (f1_ n) pl la c
abbrev BR (c : Nat) (pl : Nat → Nat) (la : Nat → Option Nat) : Nat := ctT f0_ pl la c
def netOK (c : Nat) (pl : Nat → Nat) (la : Nat → Option Nat) : Prop := c ≤ 10 ∧ (∀ t, t < c → pl t ≤ 6) ∧ (∀ q n, q < 60 → la q = some n → n < 20) ∧ (∀ n, CT c pl la n ≤ 2) ∧ ∀ t p, t < c → pl t ≤ p → p < 6 → la (6 * t + p) = none
theorem rd_key (o : Option Nat) (n y : Nat) : (decide (1 ≤ y) || (ob_ o).testBit n) = decide (1 ≤ y + f1_ n o) ∧ (decide (2 ≤ y) || (decide (1 ≤ y) && (ob_ o).testBit n)) = decide (2 ≤ y + f1_ n o) := by
  cases o with
  | none => simp [ob_, f1_]
  | some m =>
    by_cases q : m = n
    · subst q
      simp only [ob_, f1_, Nat.testBit_two_pow, if_true]
      by_cases c1 : 1 ≤ y
      · simp [c1, show 2 ≤ y + 1 by omega]
      · simp [c1, show ¬ 2 ≤ y by omega]
    · have e1 : ¬ (some m = some n) := fun z => q (Option.some.inj z)
      simp [ob_, f1_, Nat.testBit_two_pow, q]
theorem rd_key0 (o : Option Nat) (b : Bool) (y : Nat) : ((b && decide (y = 0)) && o.isSome) = (b && decide (y + f0_ o = 0)) := by
  cases o with
  | none => simp [f0_]
  | some m => simp [f0_]
theorem rdP_bits {g : Nat → Option Nat} {s : rd3} {n x : Nat} (h1 : s.2.1.testBit n = decide (1 ≤ x)) (h2 : s.2.2.testBit n = decide (2 ≤ x)) : ∀ p, (rdP g s p).2.1.testBit n = decide (1 ≤ x + ctP (f1_ n) g p) ∧ (rdP g s p).2.2.testBit n = decide (2 ≤ x + ctP (f1_ n) g p)
  | 0 => ⟨h1, h2⟩
  | p + 1 => by
    obtain ⟨a, b⟩ := rdP_bits (g := g) h1 h2 p
    have k := rd_key (g p) n (x + ctP (f1_ n) g p)
    simp only [rdP, rdS, Nat.testBit_or, Nat.testBit_and, a, b]
    rw [show x + ctP (f1_ n) g (p + 1) = x + ctP (f1_ n) g p + f1_ n (g p) from (Nat.add_assoc _ _ _).symm]
    exact k
theorem rdT_bits {pl : Nat → Nat} {la : Nat → Option Nat} {b : Bool} {n : Nat} : ∀ t, (rdT pl la b t).2.1.testBit n = decide (1 ≤ ctT (f1_ n) pl la t) ∧ (rdT pl la b t).2.2.testBit n = decide (2 ≤ ctT (f1_ n) pl la t)
  | 0 => by simp [rdT, ctT]
  | t + 1 => by
    obtain ⟨a, c⟩ := rdT_bits (pl := pl) (la := la) (b := b) (n := n) t
    exact rdP_bits a c (pl t)
theorem rdP_all {g : Nat → Option Nat} {s : rd3} : ∀ p, (rdP g s p).1 = (s.1 && decide (ctP f0_ g p = 0))
  | 0 => by simp [rdP, ctP]
  | p + 1 => by
    simp only [rdP, rdS, ctP, rdP_all p]
    exact rd_key0 (g p) s.1 _
theorem rdT_all {pl : Nat → Nat} {la : Nat → Option Nat} {b : Bool} : ∀ t, (rdT pl la b t).1 = (b && decide (ctT f0_ pl la t = 0))
  | 0 => by simp [rdT, ctT]
  | t + 1 => by
    simp only [rdT, ctT, rdP_all, rdT_all t, Bool.and_assoc]
    congr 1
    by_cases a : ctT f0_ pl la t = 0 <;> by_cases d : ctP f0_ (fun p => la (6 * t + p)) (pl t) = 0 <;> simp [a, d]
theorem RDY_eq {c : Nat} {pl : Nat → Nat} {la : Nat → Option Nat} : RDY c pl la = (decide (0 < c) && decide (BR c pl la = 0)) := rdT_all c
theorem RDY_c {c : Nat} {pl : Nat → Nat} {la : Nat → Option Nat} (h : RDY c pl la = true) : 1 ≤ c := by
  rw [RDY_eq, Bool.and_eq_true] at h
  have := of_decide_eq_true h.1
  omega
theorem nuF_bit {u : Nat → Nat} {t n : Nat} : ∀ m, (nuF u t m).testBit n = decide (n < m ∧ u n = t)
  | 0 => by simp [nuF]
  | m + 1 => by
    have ih := nuF_bit (u := u) (t := t) (n := n) m
    simp only [nuF]
    split
    · rename_i q
      rw [Nat.testBit_or, ih, Nat.testBit_two_pow]
      by_cases e : m = n
      · subst e; simp [q]
      · have : (n < m + 1) ↔ (n < m) := by omega
        simp [e, this]
    · rename_i q
      rw [ih]
      by_cases e : n = m
      · subst e; simp [q]
      · have : (n < m + 1) ↔ (n < m) := by omega
        simp [this]
theorem RD_lt {c : Nat} {pl : Nat → Nat} {la : Nat → Option Nat} (h : netOK c pl la) : (RD c pl la).2.1 < 2 ^ 20 ∧ (RD c pl la).2.2 < 2 ^ 20 := rdT_lt h.2.2.1 c h.1 h.2.1
theorem OPN_lt {c : Nat} {pl : Nat → Nat} {la : Nat → Option Nat} (h : netOK c pl la) : OPN c pl la < 2 ^ 20 := anN_lt (RD_lt h).1
theorem SHR_lt {c : Nat} {pl : Nat → Nat} {la : Nat → Option Nat} (h : netOK c pl la) : SHR c pl la < 2 ^ 20 := (RD_lt h).2
theorem anN_bit {a b n : Nat} : (anN a b).testBit n = (a.testBit n && !b.testBit n) := by
  simp only [anN, Nat.testBit_xor, Nat.testBit_and]
  cases a.testBit n <;> cases b.testBit n <;> rfl
theorem OPN_bit {c : Nat} {pl : Nat → Nat} {la : Nat → Option Nat} {n : Nat} : (OPN c pl la).testBit n = decide (CT c pl la n = 1) := by
  unfold OPN RD
  rw [anN_bit, (rdT_bits c).1, (rdT_bits c).2]
  have : ∀ y : Nat, (decide (1 ≤ y) && !decide (2 ≤ y)) = decide (y = 1) := fun y => match y with
    | 0 => rfl
    | 1 => rfl
    | y + 2 => by simp
  exact this _
theorem SHR_bit {c : Nat} {pl : Nat → Nat} {la : Nat → Option Nat} {n : Nat} : (SHR c pl la).testBit n = decide (2 ≤ CT c pl la n) := (rdT_bits c).2
theorem bit20 {x n : Nat} (h : x < 2 ^ 20) (hn : 20 ≤ n) : x.testBit n = false := Nat.testBit_lt_two_pow (Nat.lt_of_lt_of_le h (Nat.pow_le_pow_right (by decide) hn))
theorem OPN_nu {c : Nat} {pl : Nat → Nat} {la : Nat → Option Nat} {u : Nat → Nat} (h : netOK c pl la) (hu : ∀ n, n < 20 → u n = CT c pl la n) : nuF u 1 20 = OPN c pl la := by
  apply Nat.eq_of_testBit_eq
  intro n
  rcases Nat.lt_or_ge n 20 with q | q
  · rw [nuF_bit, OPN_bit, hu n q]
    simp [q]
  · rw [bit20 (nuF_lt 20) q, bit20 (OPN_lt h) q]
theorem SHR_nu {c : Nat} {pl : Nat → Nat} {la : Nat → Option Nat} {u : Nat → Nat} (h : netOK c pl la) (hu : ∀ n, n < 20 → u n = CT c pl la n) : nuF u 2 20 = SHR c pl la := by
  apply Nat.eq_of_testBit_eq
  intro n
  rcases Nat.lt_or_ge n 20 with q | q
  · rw [nuF_bit, SHR_bit, hu n q]
    have := h.2.2.2.1 n
    by_cases e : CT c pl la n = 2
    · simp [q, e]
    · simp [q, e]; omega
  · rw [bit20 (nuF_lt 20) q, bit20 (SHR_lt h) q]
theorem LE_lt {c : Nat} {pl : Nat → Nat} {la : Nat → Option Nat} (h : netOK c pl la) {t : Nat} (ht : t < c) : LE pl la t < 2 ^ 20 := lgx_lt (fun p k hp e => h.2.2.1 _ k (by have := h.2.1 t ht; have := h.1; omega) e)
theorem LC_lt {c : Nat} {pl : Nat → Nat} {la : Nat → Option Nat} (h : netOK c pl la) (cu : Nat) : ∀ t, t < c → LC pl la cu t < 2 ^ 20 := fun _ ht => anN_lt (LE_lt h ht)
theorem LC_0 {pl : Nat → Nat} {la : Nat → Option Nat} : LC pl la 0 = LE pl la := by
  funext t
  unfold LC anN
  rw [Nat.and_zero, Nat.xor_zero]
theorem ksOK_congr {l1 l2 : Nat → Nat} {c : Nat} {lg co fi : Nat → Nat} (hc : c ≤ 10) (h : ∀ t, t < c → l1 t = l2 t) (q : ksOK l1 (2 ^ c) lg co fi) : ksOK l2 (2 ^ c) lg co fi := by
  intro s s1 s2
  obtain ⟨a, b, d⟩ := q s s1 s2
  obtain ⟨e1, e2⟩ := CO_congr hc h s (by omega) s2
  exact ⟨by rw [a]; exact LGn_congr h s2 10, by rw [b, e1], by rw [d, e2]⟩
theorem PK_congr {l1 l2 : Nat → Nat} {c : Nat} (hc1 : 1 ≤ c) (hc : c ≤ 10) (hl : ∀ t, t < c → l1 t < 2 ^ 20) (h : ∀ t, t < c → l1 t = l2 t) : PK l1 c = PK l2 c := by
  have hp : 2 ^ 1 ≤ 2 ^ c := Nat.pow_le_pow_right (by decide) hc1
  have gF := gd_FI hl hc 10 (2 ^ c - 1) (by omega) (by omega) (by rw [pc_all c hc]; exact hc)
  have hmd : ∀ j, MD l1 c j = MD l2 c j := fun j => by
    unfold MD
    rw [(pv_congr (m := c) (fun s a b => (CO_congr hc h s a b).2) 10 (2 ^ c - 1) (by omega) gF).2]
  unfold PK
  rw [mlA_congr (f := LG l1) (g := LG l2) c (fun i hi => LGn_congr h (Nat.pow_lt_pow_right (by decide) hi) 10)]
  exact mlB_congr _ (fun i _ => hmd i) (fun i hi => LGn_congr h (by
    rw [← hmd]
    exact (pv_sub (m := c) 10 _ (by omega) gF _ (MD_in hc1 hc gF hi)).2) 10)
-- where a name is written
theorem ctP_up {f : Option Nat → Nat} {g : Nat → Option Nat} {j : Nat} {o : Option Nat} : ∀ p, ctP f (va_up g j o) p + (if j < p then f (g j) else 0) = ctP f g p + (if j < p then f o else 0)
  | 0 => by simp [ctP]
  | p + 1 => by
    have ih := ctP_up (f := f) (g := g) (j := j) (o := o) p
    simp only [ctP]
    by_cases e : p = j
    · subst e
      simp only [va_up, if_true, Nat.lt_irrefl, if_false, Nat.lt_succ_self] at ih ⊢
      omega
    · simp only [va_up, if_neg e] at ih ⊢
      by_cases c : j < p
      · rw [if_pos c, if_pos c] at ih
        rw [if_pos (by omega), if_pos (by omega)]
        omega
      · rw [if_neg c, if_neg c] at ih
        rw [if_neg (by omega), if_neg (by omega)]
        omega
theorem ctP_congr {f : Option Nat → Nat} {g g' : Nat → Option Nat} : ∀ p, (∀ q, q < p → g q = g' q) → ctP f g p = ctP f g' p
  | 0, _ => rfl
  | p + 1, h => by simp only [ctP, ctP_congr p (fun q hq => h q (by omega)), h p (by omega)]
theorem up_row {la : Nat → Option Nat} {t i j : Nat} {o : Option Nat} (hj : j < 6) {p : Nat} (hp : p < 6) : va_up la (6 * t + j) o (6 * i + p) = if i = t then va_up (fun p => la (6 * t + p)) j o p else la (6 * i + p) := by
  unfold va_up
  by_cases e : i = t
  · subst e
    rw [if_pos rfl]
    by_cases q : p = j
    · subst q; simp
    · rw [if_neg q, if_neg (by omega)]
  · rw [if_neg e, if_neg (by omega)]
theorem ctT_up {f : Option Nat → Nat} {pl : Nat → Nat} {la : Nat → Option Nat} {t j : Nat} {o : Option Nat} (hj : j < pl t) (hj6 : j < 6) : ∀ c, (∀ i, i < c → pl i ≤ 6) → ctT f pl (va_up la (6 * t + j) o) c + (if t < c then f (la (6 * t + j)) else 0) = ctT f pl la c + (if t < c then f o else 0)
  | 0, _ => by simp [ctT]
  | c + 1, h => by
    have ih := ctT_up (f := f) (pl := pl) (la := la) (t := t) (j := j) (o := o) hj hj6 c (fun i hi => h i (by omega))
    simp only [ctT]
    by_cases e : c = t
    · subst e
      have r : ctP f (fun p => va_up la (6 * c + j) o (6 * c + p)) (pl c) = ctP f (va_up (fun p => la (6 * c + p)) j o) (pl c) := ctP_congr _ (fun q hq => by rw [up_row hj6 (by have := h c (by omega); omega), if_pos rfl])
      have u := ctP_up (f := f) (g := fun p => la (6 * c + p)) (j := j) (o := o) (pl c)
      rw [if_pos hj, if_pos hj] at u
      rw [if_neg (by omega), if_neg (by omega)] at ih
      rw [if_pos (by omega), if_pos (by omega), r]
      omega
    · have r : ctP f (fun p => va_up la (6 * t + j) o (6 * c + p)) (pl c) = ctP f (fun p => la (6 * c + p)) (pl c) := ctP_congr _ (fun q hq => by rw [up_row hj6 (by have := h c (by omega); omega), if_neg e])
      rw [r]
      by_cases d : t < c
      · rw [if_pos d, if_pos d] at ih
        rw [if_pos (by omega), if_pos (by omega)]
        omega
      · rw [if_neg d, if_neg d] at ih
        rw [if_neg (by omega), if_neg (by omega)]
        omega
theorem ctT_congr {f : Option Nat → Nat} {pl pl' : Nat → Nat} {la la' : Nat → Option Nat} : ∀ c, (∀ t, t < c → pl t = pl' t ∧ ∀ p, p < pl t → la (6 * t + p) = la' (6 * t + p)) → ctT f pl la c = ctT f pl' la' c
  | 0, _ => rfl
  | c + 1, h => by
    simp only [ctT, ctT_congr c (fun t ht => h t (by omega))]
    obtain ⟨a, b⟩ := h c (by omega)
    rw [← a, ctP_congr _ b]
theorem ctP_none {f : Option Nat → Nat} {g : Nat → Option Nat} : ∀ p, (∀ q, q < p → g q = none) → ctP f g p = p * f none
  | 0, _ => by simp [ctP]
  | p + 1, h => by
    simp only [ctP, ctP_none p (fun q hq => h q (by omega)), h p (by omega)]
    rw [Nat.succ_mul]
theorem lgx_none {g : Nat → Option Nat} : ∀ p, (∀ q, q < p → g q = none) → lgx g p = 0
  | 0, _ => rfl
  | p + 1, h => by
    simp only [lgx, lgx_none p (fun q hq => h q (by omega)), h p (by omega)]
    rfl
theorem lgx_congr {g g' : Nat → Option Nat} : ∀ p, (∀ q, q < p → g q = g' q) → lgx g p = lgx g' p
  | 0, _ => rfl
  | p + 1, h => by simp only [lgx, lgx_congr p (fun q hq => h q (by omega)), h p (by omega)]
