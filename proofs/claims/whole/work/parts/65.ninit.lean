-- THE CLASS: its constructor
theorem arrV_cg {cI : ClassId} {n : Nat} {f g : Nat → Value} (h : ∀ j, j < n → f j = g j) : arrV cI n f = arrV cI n g := by
  unfold arrV
  have e : (fun j : Fin n => f j) = fun j : Fin n => g j := funext (fun j => h j j.2)
  rw [e]
theorem V_ext {l : Launch} {D : hv_D} {M : hv_M} {X : State → (Nat → Prop) → Prop} {rm : Room} {Q : hv_R → hv_P → Nat → Prop} {bc bs : Nat} {h : hv_P} {nx pc : Nat} {lv : List (Option Value)} {st : List Value} {a k n : Nat} {f f' : Nat → Option Nat} (he : h a = some (eQ k n f)) (hf : ∀ j, j < n → f j = f' j) (kk : hv_V l D M X rm Q bc bs (hv_up h a (eQ k n f')) nx pc lv st) : hv_V l D M X rm Q bc bs h nx pc lv st := by
  intro p e R s m args below meth c A H locs cells slots ls hC hW hb hl
  refine kk p e R s m args below meth c A H locs cells slots ls hC ?_ hb hl
  obtain ⟨w1, w2, w3, w4⟩ := hW
  refine ⟨w1.set ?_ (fun q _ => rfl), w2, w3, fun q e' hq => ?_⟩
  · have z : H[a]? = some (vp_cell (D.2.2 k) (n, .inr (.inr (.inr (.inr f))))) := w1 a _ he
    show H[a]? = some (vp_cell (D.2.2 k) (n, .inr (.inr (.inr (.inr f')))))
    rw [z]
    show some (arrV _ n (fun j => va_rf (f j))) = some (arrV _ n (fun j => va_rf (f' j)))
    congr 1
    exact arrV_cg (fun j hj => by rw [hf j hj])
  · by_cases e : q = a
    · rw [e]; exact w4 a _ he
    · rw [hv_up_n e] at hq; exact w4 q e' hq
/-- a tensor's four cells as the constructor makes them -/
def tI (h : hv_P) (a : Nat) : Prop := h a = some (oT a 0 0) ∧ h (a + 1) = some (eN 6 (fun _ => 0)) ∧ h (a + 2) = some (eN 64 (fun _ => 0)) ∧ h (a + 3) = some (eN 64 (fun _ => 0))
theorem tI.fr {h h' : hv_P} {a : Nat} (S : tI h a) (f : ∀ q, a ≤ q → q ≤ a + 3 → h' q = h q) : tI h' a := ⟨(f _ (by omega) (by omega)).trans S.1, (f _ (by omega) (by omega)).trans S.2.1, (f _ (by omega) (by omega)).trans S.2.2.1, (f _ (by omega) (by omega)).trans S.2.2.2⟩
def nI1 (h0 h : hv_P) (b n k : Nat) (fs : List Value) : Prop := (∀ q, q < n → q ≠ b → h q = h0 q) ∧ h b = some (eO 4 fs)
set_option maxRecDepth 100000 in
set_option maxHeartbeats 4000000 in
theorem c_N_init (l : Launch) (D : hv_D) (h : hv_P) {b : Nat} (ha : h b = some (eO 4 [.null, .null, .null, .null, .null, .null, .null, .null, .int 0, .int 0, .int 0, .int 0, .int 0])) : hv_N l D M_N_init (hv_rm 2 44 69 8316) [.ref b] h (b + 1) (hv_ans none (fun h' n' => n' = b + 70 ∧ (∀ q, q < b → h' q = h q) ∧ nS h' b 0 0 (fun _ => 0) (fun _ => some 0) (fun _ => 0) (fun _ => 0) 64)) := by
  refine hv_N.of' [some (.ref b), none] (by decide +kernel) rfl rfl rfl ?_
  have lp : ∀ (kk i : Nat), kk = 10 - i → i ≤ 10 → ∀ (h2 : hv_P) (f : Nat → Option Nat), (∀ q, q < b → h2 q = h q) → h2 b = some (eO 4 [.ref (b + 1), .null, .null, .null, .null, .null, .null, .null, .int 0, .int 0, .int 0, .int 0, .int 0]) → h2 (b + 1) = some (eQ 2 10 f) → (∀ j, j < i → f j = some (b + 2 + 4 * j)) → (∀ j, j < i → tI h2 (b + 2 + 4 * j)) → hv_V l D M_N_init (fun _ _ => True) (hv_rm 2 44 69 8316) (hv_ans none (fun h' n' => n' = b + 70 ∧ (∀ q, q < b → h' q = h q) ∧ nS h' b 0 0 (fun _ => 0) (fun _ => some 0) (fun _ => 0) (fun _ => 0) 64)) (28 + 4 * (10 - i)) (6916 + 139 * (10 - i)) (h2) (b + 2 + 4 * i) 15 [some (.ref b), some (.int (nI i))] [] := by
    intro kk
    induction kk using Nat.strongRecOn with
    | ind kk ih =>
      intro i hkk hi h2 f i1 i2 i3 i4 i5
      refine V_iload_n d_N_init_15 rfl ?_
      refine V_bipush (nI 10) d_N_init_16 rfl ?_
      refine V_icmp_geN 40 d_N_init_18 (by decide) (by omega) (by decide) (fun ci => ?_) (fun ci => ?_)
      · have ei : i = 10 := by omega
        subst ei
        have FR2 : ∀ q, q < b + 42 → q ≠ b → h2 q = h2 q := fun q _ _ => rfl
        have B2 := i2
        refine V_aload_n d_N_init_40 rfl ?_
        refine V_bipush (nI 20) d_N_init_41 rfl ?_
        refine V_nI (bc' := 27) (bs' := 6896) (nx' := b + 43) 20 d_N_init_43 rfl rfl rfl rfl rfl rfl ?_
        refine V_put (e' := eO 4 [.ref (b + 1), .ref (b + 42), .null, .null, .null, .null, .null, .null, .int 0, .int 0, .int 0, .int 0, .int 0]) d_N_init_45 fp_N_16 ((hv_up_n (by omega)).trans B2) rfl rfl rfl rfl rfl ?_
        obtain ⟨h3, eh3⟩ : ∃ x, hv_up (hv_up h2 (b + 42) (eN 20 (fun _ => 0))) b (eO 4 [.ref (b + 1), .ref (b + 42), .null, .null, .null, .null, .null, .null, .int 0, .int 0, .int 0, .int 0, .int 0]) = x := ⟨_, rfl⟩
        rw [eh3]
        have B3 : h3 b = some (eO 4 [.ref (b + 1), .ref (b + 42), .null, .null, .null, .null, .null, .null, .int 0, .int 0, .int 0, .int 0, .int 0]) := by rw [← eh3]; exact hv_up_s
        have K42 : h3 (b + 42) = some (eN 20 (fun _ => 0)) := by rw [← eh3]; exact (hv_up_n (by omega)).trans hv_up_s
        have Z3 : ∀ q, q < b + 42 → q ≠ b → h3 q = h2 q := fun q q1 q2 => by rw [← eh3]; exact (hv_up_n q2).trans (hv_up_n (by omega))
        have FR3 : ∀ q, q < b + 42 → q ≠ b → h3 q = h2 q := fun q q1 q2 => (Z3 q (by omega) q2).trans (FR2 q q1 q2)
        clear eh3
        refine V_aload_n d_N_init_48 rfl ?_
        refine V_bipush (nI 10) d_N_init_49 rfl ?_
        refine V_nI (bc' := 26) (bs' := 6886) (nx' := b + 44) 10 d_N_init_51 rfl rfl rfl rfl rfl rfl ?_
        refine V_put (e' := eO 4 [.ref (b + 1), .ref (b + 42), .ref (b + 43), .null, .null, .null, .null, .null, .int 0, .int 0, .int 0, .int 0, .int 0]) d_N_init_53 fp_N_20 ((hv_up_n (by omega)).trans B3) rfl rfl rfl rfl rfl ?_
        obtain ⟨h4, eh4⟩ : ∃ x, hv_up (hv_up h3 (b + 43) (eN 10 (fun _ => 0))) b (eO 4 [.ref (b + 1), .ref (b + 42), .ref (b + 43), .null, .null, .null, .null, .null, .int 0, .int 0, .int 0, .int 0, .int 0]) = x := ⟨_, rfl⟩
        rw [eh4]
        have B4 : h4 b = some (eO 4 [.ref (b + 1), .ref (b + 42), .ref (b + 43), .null, .null, .null, .null, .null, .int 0, .int 0, .int 0, .int 0, .int 0]) := by rw [← eh4]; exact hv_up_s
        have K43 : h4 (b + 43) = some (eN 10 (fun _ => 0)) := by rw [← eh4]; exact (hv_up_n (by omega)).trans hv_up_s
        have Z4 : ∀ q, q < b + 43 → q ≠ b → h4 q = h3 q := fun q q1 q2 => by rw [← eh4]; exact (hv_up_n q2).trans (hv_up_n (by omega))
        have K42 := (Z4 _ (by omega) (by omega)).trans K42
        have FR4 : ∀ q, q < b + 42 → q ≠ b → h4 q = h2 q := fun q q1 q2 => (Z4 q (by omega) q2).trans (FR3 q q1 q2)
        clear eh4
        refine V_aload_n d_N_init_56 rfl ?_
        refine V_sipush (nI 400) d_N_init_57 rfl ?_
        refine V_nI (bc' := 25) (bs' := 6486) (nx' := b + 45) 400 d_N_init_60 rfl rfl rfl rfl rfl rfl ?_
        refine V_put (e' := eO 4 [.ref (b + 1), .ref (b + 42), .ref (b + 43), .ref (b + 44), .null, .null, .null, .null, .int 0, .int 0, .int 0, .int 0, .int 0]) d_N_init_62 fp_N_23 ((hv_up_n (by omega)).trans B4) rfl rfl rfl rfl rfl ?_
        obtain ⟨h5, eh5⟩ : ∃ x, hv_up (hv_up h4 (b + 44) (eN 400 (fun _ => 0))) b (eO 4 [.ref (b + 1), .ref (b + 42), .ref (b + 43), .ref (b + 44), .null, .null, .null, .null, .int 0, .int 0, .int 0, .int 0, .int 0]) = x := ⟨_, rfl⟩
        rw [eh5]
        have B5 : h5 b = some (eO 4 [.ref (b + 1), .ref (b + 42), .ref (b + 43), .ref (b + 44), .null, .null, .null, .null, .int 0, .int 0, .int 0, .int 0, .int 0]) := by rw [← eh5]; exact hv_up_s
        have K44 : h5 (b + 44) = some (eN 400 (fun _ => 0)) := by rw [← eh5]; exact (hv_up_n (by omega)).trans hv_up_s
        have Z5 : ∀ q, q < b + 44 → q ≠ b → h5 q = h4 q := fun q q1 q2 => by rw [← eh5]; exact (hv_up_n q2).trans (hv_up_n (by omega))
        have K42 := (Z5 _ (by omega) (by omega)).trans K42
        have K43 := (Z5 _ (by omega) (by omega)).trans K43
        have FR5 : ∀ q, q < b + 42 → q ≠ b → h5 q = h2 q := fun q q1 q2 => (Z5 q (by omega) q2).trans (FR4 q q1 q2)
        clear eh5
        refine V_aload_n d_N_init_65 rfl ?_
        refine V_nO (bc' := 24) (bs' := 6479) (nx' := b + 46) d_N_init_66 nw_N_26 rfl rfl rfl rfl ?_
        refine V_dup d_N_init_69 rfl ?_
        refine V_cI0 19 3386 d_N_init_70 ml_N_28 mB_O_init mi_O_init rfl rfl (c_O_init l D _ hv_up_s) rfl rfl rfl rfl rfl rfl rfl ?_
        rintro _ _ ⟨rfl, rfl⟩
        refine V_put (e' := eO 4 [.ref (b + 1), .ref (b + 42), .ref (b + 43), .ref (b + 44), .ref (b + 45), .null, .null, .null, .int 0, .int 0, .int 0, .int 0, .int 0]) d_N_init_73 fp_N_29 ((oz_6 (by omega) (by omega) (by omega) (by omega) (by omega) (by omega)).trans ((hv_up_n (by omega)).trans B5)) rfl rfl rfl rfl rfl ?_
        obtain ⟨h6, eh6⟩ : ∃ x, hv_up (hv_ov (hv_up h5 (b + 45) (eO 2 [.null, .null, .null, .null, .null, .int 0, .int 0])) [(b + 45 + 5, eN 11 (fun _ => 0)), (b + 45 + 4, eN 10 (fun _ => 0)), (b + 45 + 3, eN 1024 (fun _ => 0)), (b + 45 + 2, eN 1024 (fun _ => 0)), (b + 45 + 1, eN 1024 (fun _ => 0)), (b + 45, oO (b + 45) 0 0)]) b (eO 4 [.ref (b + 1), .ref (b + 42), .ref (b + 43), .ref (b + 44), .ref (b + 45), .null, .null, .null, .int 0, .int 0, .int 0, .int 0, .int 0]) = x := ⟨_, rfl⟩
        rw [eh6]
        have B6 : h6 b = some (eO 4 [.ref (b + 1), .ref (b + 42), .ref (b + 43), .ref (b + 44), .ref (b + 45), .null, .null, .null, .int 0, .int 0, .int 0, .int 0, .int 0]) := by rw [← eh6]; exact hv_up_s
        have K50 : h6 (b + 50) = some (eN 11 (fun _ => 0)) := by rw [← eh6]; exact (hv_up_n (by omega)).trans og_0
        have K49 : h6 (b + 49) = some (eN 10 (fun _ => 0)) := by rw [← eh6]; exact (hv_up_n (by omega)).trans (og_1 (by omega))
        have K48 : h6 (b + 48) = some (eN 1024 (fun _ => 0)) := by rw [← eh6]; exact (hv_up_n (by omega)).trans (og_2 (by omega) (by omega))
        have K47 : h6 (b + 47) = some (eN 1024 (fun _ => 0)) := by rw [← eh6]; exact (hv_up_n (by omega)).trans (og_3 (by omega) (by omega) (by omega))
        have K46 : h6 (b + 46) = some (eN 1024 (fun _ => 0)) := by rw [← eh6]; exact (hv_up_n (by omega)).trans (og_4 (by omega) (by omega) (by omega) (by omega))
        have K45 : h6 (b + 45) = some (oO (b + 45) 0 0) := by rw [← eh6]; exact (hv_up_n (by omega)).trans (og_5 (by omega) (by omega) (by omega) (by omega) (by omega))
        have Z6 : ∀ q, q < b + 45 → q ≠ b → h6 q = h5 q := fun q q1 q2 => by rw [← eh6]; exact (hv_up_n q2).trans ((oz_6 (by omega) (by omega) (by omega) (by omega) (by omega) (by omega)).trans (hv_up_n (by omega)))
        have K42 := (Z6 _ (by omega) (by omega)).trans K42
        have K43 := (Z6 _ (by omega) (by omega)).trans K43
        have K44 := (Z6 _ (by omega) (by omega)).trans K44
        have FR6 : ∀ q, q < b + 42 → q ≠ b → h6 q = h2 q := fun q q1 q2 => (Z6 q (by omega) q2).trans (FR5 q q1 q2)
        clear eh6
        refine V_aload_n d_N_init_76 rfl ?_
        refine V_nO (bc' := 18) (bs' := 3379) (nx' := b + 52) d_N_init_77 nw_N_26 rfl rfl rfl rfl ?_
        refine V_dup d_N_init_80 rfl ?_
        refine V_cI0 13 286 d_N_init_81 ml_N_28 mB_O_init mi_O_init rfl rfl (c_O_init l D _ hv_up_s) rfl rfl rfl rfl rfl rfl rfl ?_
        rintro _ _ ⟨rfl, rfl⟩
        refine V_put (e' := eO 4 [.ref (b + 1), .ref (b + 42), .ref (b + 43), .ref (b + 44), .ref (b + 45), .ref (b + 51), .null, .null, .int 0, .int 0, .int 0, .int 0, .int 0]) d_N_init_84 fp_N_33 ((oz_6 (by omega) (by omega) (by omega) (by omega) (by omega) (by omega)).trans ((hv_up_n (by omega)).trans B6)) rfl rfl rfl rfl rfl ?_
        obtain ⟨h7, eh7⟩ : ∃ x, hv_up (hv_ov (hv_up h6 (b + 51) (eO 2 [.null, .null, .null, .null, .null, .int 0, .int 0])) [(b + 51 + 5, eN 11 (fun _ => 0)), (b + 51 + 4, eN 10 (fun _ => 0)), (b + 51 + 3, eN 1024 (fun _ => 0)), (b + 51 + 2, eN 1024 (fun _ => 0)), (b + 51 + 1, eN 1024 (fun _ => 0)), (b + 51, oO (b + 51) 0 0)]) b (eO 4 [.ref (b + 1), .ref (b + 42), .ref (b + 43), .ref (b + 44), .ref (b + 45), .ref (b + 51), .null, .null, .int 0, .int 0, .int 0, .int 0, .int 0]) = x := ⟨_, rfl⟩
        rw [eh7]
        have B7 : h7 b = some (eO 4 [.ref (b + 1), .ref (b + 42), .ref (b + 43), .ref (b + 44), .ref (b + 45), .ref (b + 51), .null, .null, .int 0, .int 0, .int 0, .int 0, .int 0]) := by rw [← eh7]; exact hv_up_s
        have K56 : h7 (b + 56) = some (eN 11 (fun _ => 0)) := by rw [← eh7]; exact (hv_up_n (by omega)).trans og_0
        have K55 : h7 (b + 55) = some (eN 10 (fun _ => 0)) := by rw [← eh7]; exact (hv_up_n (by omega)).trans (og_1 (by omega))
        have K54 : h7 (b + 54) = some (eN 1024 (fun _ => 0)) := by rw [← eh7]; exact (hv_up_n (by omega)).trans (og_2 (by omega) (by omega))
        have K53 : h7 (b + 53) = some (eN 1024 (fun _ => 0)) := by rw [← eh7]; exact (hv_up_n (by omega)).trans (og_3 (by omega) (by omega) (by omega))
        have K52 : h7 (b + 52) = some (eN 1024 (fun _ => 0)) := by rw [← eh7]; exact (hv_up_n (by omega)).trans (og_4 (by omega) (by omega) (by omega) (by omega))
        have K51 : h7 (b + 51) = some (oO (b + 51) 0 0) := by rw [← eh7]; exact (hv_up_n (by omega)).trans (og_5 (by omega) (by omega) (by omega) (by omega) (by omega))
        have Z7 : ∀ q, q < b + 51 → q ≠ b → h7 q = h6 q := fun q q1 q2 => by rw [← eh7]; exact (hv_up_n q2).trans ((oz_6 (by omega) (by omega) (by omega) (by omega) (by omega) (by omega)).trans (hv_up_n (by omega)))
        have K42 := (Z7 _ (by omega) (by omega)).trans K42
        have K43 := (Z7 _ (by omega) (by omega)).trans K43
        have K44 := (Z7 _ (by omega) (by omega)).trans K44
        have K45 := (Z7 _ (by omega) (by omega)).trans K45
        have K46 := (Z7 _ (by omega) (by omega)).trans K46
        have K47 := (Z7 _ (by omega) (by omega)).trans K47
        have K48 := (Z7 _ (by omega) (by omega)).trans K48
        have K49 := (Z7 _ (by omega) (by omega)).trans K49
        have K50 := (Z7 _ (by omega) (by omega)).trans K50
        have FR7 : ∀ q, q < b + 42 → q ≠ b → h7 q = h2 q := fun q q1 q2 => (Z7 q (by omega) q2).trans (FR6 q q1 q2)
        clear eh7
        refine V_aload_n d_N_init_87 rfl ?_
        refine V_nO (bc' := 12) (bs' := 280) (nx' := b + 58) d_N_init_88 nw_N_36 rfl rfl rfl rfl ?_
        refine V_dup d_N_init_91 rfl ?_
        refine V_cI0 8 220 d_N_init_92 ml_N_38 mB_G_init mi_G_init rfl rfl (c_G_init l D _ hv_up_s) rfl rfl rfl rfl rfl rfl rfl ?_
        rintro _ _ ⟨rfl, rfl⟩
        refine V_put (e' := eO 4 [.ref (b + 1), .ref (b + 42), .ref (b + 43), .ref (b + 44), .ref (b + 45), .ref (b + 51), .ref (b + 57), .null, .int 0, .int 0, .int 0, .int 0, .int 0]) d_N_init_95 fp_N_39 ((oz_5 (by omega) (by omega) (by omega) (by omega) (by omega)).trans ((hv_up_n (by omega)).trans B7)) rfl rfl rfl rfl rfl ?_
        obtain ⟨h8, eh8⟩ : ∃ x, hv_up (hv_ov (hv_up h7 (b + 57) (eO 1 [.null, .null, .null, .null, .int 0, .int 0])) [(b + 57 + 4, eN 10 (fun _ => 0)), (b + 57 + 3, eN 10 (fun _ => 0)), (b + 57 + 2, eN 20 (fun _ => 0)), (b + 57 + 1, eN 20 (fun _ => 0)), (b + 57, oG (b + 57) 0 0)]) b (eO 4 [.ref (b + 1), .ref (b + 42), .ref (b + 43), .ref (b + 44), .ref (b + 45), .ref (b + 51), .ref (b + 57), .null, .int 0, .int 0, .int 0, .int 0, .int 0]) = x := ⟨_, rfl⟩
        rw [eh8]
        have B8 : h8 b = some (eO 4 [.ref (b + 1), .ref (b + 42), .ref (b + 43), .ref (b + 44), .ref (b + 45), .ref (b + 51), .ref (b + 57), .null, .int 0, .int 0, .int 0, .int 0, .int 0]) := by rw [← eh8]; exact hv_up_s
        have K61 : h8 (b + 61) = some (eN 10 (fun _ => 0)) := by rw [← eh8]; exact (hv_up_n (by omega)).trans og_0
        have K60 : h8 (b + 60) = some (eN 10 (fun _ => 0)) := by rw [← eh8]; exact (hv_up_n (by omega)).trans (og_1 (by omega))
        have K59 : h8 (b + 59) = some (eN 20 (fun _ => 0)) := by rw [← eh8]; exact (hv_up_n (by omega)).trans (og_2 (by omega) (by omega))
        have K58 : h8 (b + 58) = some (eN 20 (fun _ => 0)) := by rw [← eh8]; exact (hv_up_n (by omega)).trans (og_3 (by omega) (by omega) (by omega))
        have K57 : h8 (b + 57) = some (oG (b + 57) 0 0) := by rw [← eh8]; exact (hv_up_n (by omega)).trans (og_4 (by omega) (by omega) (by omega) (by omega))
        have Z8 : ∀ q, q < b + 57 → q ≠ b → h8 q = h7 q := fun q q1 q2 => by rw [← eh8]; exact (hv_up_n q2).trans ((oz_5 (by omega) (by omega) (by omega) (by omega) (by omega)).trans (hv_up_n (by omega)))
        have K42 := (Z8 _ (by omega) (by omega)).trans K42
        have K43 := (Z8 _ (by omega) (by omega)).trans K43
        have K44 := (Z8 _ (by omega) (by omega)).trans K44
        have K45 := (Z8 _ (by omega) (by omega)).trans K45
        have K46 := (Z8 _ (by omega) (by omega)).trans K46
        have K47 := (Z8 _ (by omega) (by omega)).trans K47
        have K48 := (Z8 _ (by omega) (by omega)).trans K48
        have K49 := (Z8 _ (by omega) (by omega)).trans K49
        have K50 := (Z8 _ (by omega) (by omega)).trans K50
        have K51 := (Z8 _ (by omega) (by omega)).trans K51
        have K52 := (Z8 _ (by omega) (by omega)).trans K52
        have K53 := (Z8 _ (by omega) (by omega)).trans K53
        have K54 := (Z8 _ (by omega) (by omega)).trans K54
        have K55 := (Z8 _ (by omega) (by omega)).trans K55
        have K56 := (Z8 _ (by omega) (by omega)).trans K56
        have FR8 : ∀ q, q < b + 42 → q ≠ b → h8 q = h2 q := fun q q1 q2 => (Z8 q (by omega) q2).trans (FR7 q q1 q2)
        clear eh8
        refine V_aload_n d_N_init_98 rfl ?_
        refine V_nO (bc' := 7) (bs' := 211) (nx' := b + 63) d_N_init_99 nw_N_43 rfl rfl rfl rfl ?_
        refine V_dup d_N_init_102 rfl ?_
        refine V_cI0 0 0 d_N_init_103 ml_N_45 mB_C_init mi_C_init rfl rfl (c_C_init l D _ hv_up_s) rfl rfl rfl rfl rfl rfl rfl ?_
        rintro _ _ ⟨rfl, rfl⟩
        refine V_put (e' := eO 4 [.ref (b + 1), .ref (b + 42), .ref (b + 43), .ref (b + 44), .ref (b + 45), .ref (b + 51), .ref (b + 57), .ref (b + 62), .int 0, .int 0, .int 0, .int 0, .int 0]) d_N_init_106 fp_N_46 ((oz_8 (by omega) (by omega) (by omega) (by omega) (by omega) (by omega) (by omega) (by omega)).trans ((hv_up_n (by omega)).trans B8)) rfl rfl rfl rfl rfl ?_
        obtain ⟨h9, eh9⟩ : ∃ x, hv_up (hv_ov (hv_up h8 (b + 62) (eO 0 [.null, .null, .null, .null, .null, .null, .null, .int 0, .int 0])) [(b + 62 + 7, eL 64 (fun _ => 0)), (b + 62 + 6, eL 64 (fun _ => 0)), (b + 62 + 5, eN 21 (fun _ => 0)), (b + 62 + 4, eN 21 (fun _ => 0)), (b + 62 + 3, eN 21 (fun _ => 0)), (b + 62 + 2, eN 10 (fun _ => 0)), (b + 62 + 1, eN 10 (fun _ => 0)), (b + 62, oC (b + 62) ((b + 62) + 6) ((b + 62) + 7) 0 0)]) b (eO 4 [.ref (b + 1), .ref (b + 42), .ref (b + 43), .ref (b + 44), .ref (b + 45), .ref (b + 51), .ref (b + 57), .ref (b + 62), .int 0, .int 0, .int 0, .int 0, .int 0]) = x := ⟨_, rfl⟩
        rw [eh9]
        have B9 : h9 b = some (eO 4 [.ref (b + 1), .ref (b + 42), .ref (b + 43), .ref (b + 44), .ref (b + 45), .ref (b + 51), .ref (b + 57), .ref (b + 62), .int 0, .int 0, .int 0, .int 0, .int 0]) := by rw [← eh9]; exact hv_up_s
        have K69 : h9 (b + 69) = some (eL 64 (fun _ => 0)) := by rw [← eh9]; exact (hv_up_n (by omega)).trans og_0
        have K68 : h9 (b + 68) = some (eL 64 (fun _ => 0)) := by rw [← eh9]; exact (hv_up_n (by omega)).trans (og_1 (by omega))
        have K67 : h9 (b + 67) = some (eN 21 (fun _ => 0)) := by rw [← eh9]; exact (hv_up_n (by omega)).trans (og_2 (by omega) (by omega))
        have K66 : h9 (b + 66) = some (eN 21 (fun _ => 0)) := by rw [← eh9]; exact (hv_up_n (by omega)).trans (og_3 (by omega) (by omega) (by omega))
        have K65 : h9 (b + 65) = some (eN 21 (fun _ => 0)) := by rw [← eh9]; exact (hv_up_n (by omega)).trans (og_4 (by omega) (by omega) (by omega) (by omega))
        have K64 : h9 (b + 64) = some (eN 10 (fun _ => 0)) := by rw [← eh9]; exact (hv_up_n (by omega)).trans (og_5 (by omega) (by omega) (by omega) (by omega) (by omega))
        have K63 : h9 (b + 63) = some (eN 10 (fun _ => 0)) := by rw [← eh9]; exact (hv_up_n (by omega)).trans (og_6 (by omega) (by omega) (by omega) (by omega) (by omega) (by omega))
        have K62 : h9 (b + 62) = some (oC (b + 62) ((b + 62) + 6) ((b + 62) + 7) 0 0) := by rw [← eh9]; exact (hv_up_n (by omega)).trans (og_7 (by omega) (by omega) (by omega) (by omega) (by omega) (by omega) (by omega))
        have Z9 : ∀ q, q < b + 62 → q ≠ b → h9 q = h8 q := fun q q1 q2 => by rw [← eh9]; exact (hv_up_n q2).trans ((oz_8 (by omega) (by omega) (by omega) (by omega) (by omega) (by omega) (by omega) (by omega)).trans (hv_up_n (by omega)))
        have K42 := (Z9 _ (by omega) (by omega)).trans K42
        have K43 := (Z9 _ (by omega) (by omega)).trans K43
        have K44 := (Z9 _ (by omega) (by omega)).trans K44
        have K45 := (Z9 _ (by omega) (by omega)).trans K45
        have K46 := (Z9 _ (by omega) (by omega)).trans K46
        have K47 := (Z9 _ (by omega) (by omega)).trans K47
        have K48 := (Z9 _ (by omega) (by omega)).trans K48
        have K49 := (Z9 _ (by omega) (by omega)).trans K49
        have K50 := (Z9 _ (by omega) (by omega)).trans K50
        have K51 := (Z9 _ (by omega) (by omega)).trans K51
        have K52 := (Z9 _ (by omega) (by omega)).trans K52
        have K53 := (Z9 _ (by omega) (by omega)).trans K53
        have K54 := (Z9 _ (by omega) (by omega)).trans K54
        have K55 := (Z9 _ (by omega) (by omega)).trans K55
        have K56 := (Z9 _ (by omega) (by omega)).trans K56
        have K57 := (Z9 _ (by omega) (by omega)).trans K57
        have K58 := (Z9 _ (by omega) (by omega)).trans K58
        have K59 := (Z9 _ (by omega) (by omega)).trans K59
        have K60 := (Z9 _ (by omega) (by omega)).trans K60
        have K61 := (Z9 _ (by omega) (by omega)).trans K61
        have FR9 : ∀ q, q < b + 42 → q ≠ b → h9 q = h2 q := fun q q1 q2 => (Z9 q (by omega) q2).trans (FR8 q q1 q2)
        clear eh9
        have XA : h9 (b + 1) = some (eQ 2 10 f) := (FR9 _ (by omega) (by omega)).trans i3
        refine V_ext (f' := fun j => some (b + 2 + 4 * j)) XA (fun j hj => i4 j hj) ?_
        obtain ⟨hz, ez⟩ : ∃ x, hv_up h9 (b + 1) (eQ 2 10 (fun j => some (b + 2 + 4 * j))) = x := ⟨_, rfl⟩
        rw [ez]
        have BZ : hz b = some (oN b 0 0 0 0 0) := by rw [← ez]; exact (hv_up_n (by omega)).trans B9
        have A1 : hz (b + 1) = some (eQ 2 10 (fun j => some (b + 2 + 4 * j))) := by rw [← ez]; exact hv_up_s
        have K42 := (show hz (b + 42) = h9 (b + 42) from by rw [← ez]; exact hv_up_n (by omega)).trans K42
        have K43 := (show hz (b + 43) = h9 (b + 43) from by rw [← ez]; exact hv_up_n (by omega)).trans K43
        have K44 := (show hz (b + 44) = h9 (b + 44) from by rw [← ez]; exact hv_up_n (by omega)).trans K44
        have K45 := (show hz (b + 45) = h9 (b + 45) from by rw [← ez]; exact hv_up_n (by omega)).trans K45
        have K46 := (show hz (b + 46) = h9 (b + 46) from by rw [← ez]; exact hv_up_n (by omega)).trans K46
        have K47 := (show hz (b + 47) = h9 (b + 47) from by rw [← ez]; exact hv_up_n (by omega)).trans K47
        have K48 := (show hz (b + 48) = h9 (b + 48) from by rw [← ez]; exact hv_up_n (by omega)).trans K48
        have K49 := (show hz (b + 49) = h9 (b + 49) from by rw [← ez]; exact hv_up_n (by omega)).trans K49
        have K50 := (show hz (b + 50) = h9 (b + 50) from by rw [← ez]; exact hv_up_n (by omega)).trans K50
        have K51 := (show hz (b + 51) = h9 (b + 51) from by rw [← ez]; exact hv_up_n (by omega)).trans K51
        have K52 := (show hz (b + 52) = h9 (b + 52) from by rw [← ez]; exact hv_up_n (by omega)).trans K52
        have K53 := (show hz (b + 53) = h9 (b + 53) from by rw [← ez]; exact hv_up_n (by omega)).trans K53
        have K54 := (show hz (b + 54) = h9 (b + 54) from by rw [← ez]; exact hv_up_n (by omega)).trans K54
        have K55 := (show hz (b + 55) = h9 (b + 55) from by rw [← ez]; exact hv_up_n (by omega)).trans K55
        have K56 := (show hz (b + 56) = h9 (b + 56) from by rw [← ez]; exact hv_up_n (by omega)).trans K56
        have K57 := (show hz (b + 57) = h9 (b + 57) from by rw [← ez]; exact hv_up_n (by omega)).trans K57
        have K58 := (show hz (b + 58) = h9 (b + 58) from by rw [← ez]; exact hv_up_n (by omega)).trans K58
        have K59 := (show hz (b + 59) = h9 (b + 59) from by rw [← ez]; exact hv_up_n (by omega)).trans K59
        have K60 := (show hz (b + 60) = h9 (b + 60) from by rw [← ez]; exact hv_up_n (by omega)).trans K60
        have K61 := (show hz (b + 61) = h9 (b + 61) from by rw [← ez]; exact hv_up_n (by omega)).trans K61
        have K62 := (show hz (b + 62) = h9 (b + 62) from by rw [← ez]; exact hv_up_n (by omega)).trans K62
        have K63 := (show hz (b + 63) = h9 (b + 63) from by rw [← ez]; exact hv_up_n (by omega)).trans K63
        have K64 := (show hz (b + 64) = h9 (b + 64) from by rw [← ez]; exact hv_up_n (by omega)).trans K64
        have K65 := (show hz (b + 65) = h9 (b + 65) from by rw [← ez]; exact hv_up_n (by omega)).trans K65
        have K66 := (show hz (b + 66) = h9 (b + 66) from by rw [← ez]; exact hv_up_n (by omega)).trans K66
        have K67 := (show hz (b + 67) = h9 (b + 67) from by rw [← ez]; exact hv_up_n (by omega)).trans K67
        have K68 := (show hz (b + 68) = h9 (b + 68) from by rw [← ez]; exact hv_up_n (by omega)).trans K68
        have K69 := (show hz (b + 69) = h9 (b + 69) from by rw [← ez]; exact hv_up_n (by omega)).trans K69
        have TZ : ∀ j, j < 10 → tI hz (b + 2 + 4 * j) := fun j hj => (i5 j hj).fr (fun q q1 q2 => by rw [← ez]; exact (hv_up_n (by omega)).trans (FR9 q (by omega) (by omega)))
        have FZ : ∀ q, q < b → hz q = h q := fun q hq => by rw [← ez]; exact (hv_up_n (by omega)).trans ((FR9 q (by omega) (by omega)).trans (i1 q hq))
        clear ez
        refine V_aload_n d_N_init_109 rfl ?_
        refine V_callV0 d_N_init_110 ml_N_50 mB_N_forgetOrders mi_N_forgetOrders mv_N_forgetOrders rfl BZ (c_N_forget l D _ _ BZ K44) rfl rfl rfl rfl rfl rfl rfl ?_
        rintro _ _ ⟨rfl, rfl⟩
        have fdz : fdOk (fun _ => 0, fun _ => 0, fun _ => 0) := by unfold fdOk; simp
        exact V_return d_N_init_113 rfl ⟨rfl, rfl, fun q hq => (oz_2 (by omega) (by omega)).trans (FZ q hq), ⟨-1, 0, fun _ => 0, fun _ => 0, _, og_0, ⟨(oz_2 (by omega) (by omega)).trans A1, fun i hi => (oz_2 (by omega) (by omega)).trans (TZ i hi).1, fun i hi => ⟨fun _ => some 0, (oz_2 (by omega) (by omega)).trans (TZ i hi).2.1, fun _ _ => rfl⟩, fun i hi => ⟨fun _ => 0, (oz_2 (by omega) (by omega)).trans (TZ i hi).2.2.1, fun _ _ => rfl⟩, fun i hi => ⟨fun _ => 0, (oz_2 (by omega) (by omega)).trans (TZ i hi).2.2.2, fun _ _ => rfl⟩⟩, (oz_2 (by omega) (by omega)).trans K42, fun _ _ => rfl, (oz_2 (by omega) (by omega)).trans K43, (og_1 (by omega)), fun i j hi hj => Or.inl (if_pos (by omega)), ⟨0, 0, fun _ => 0, fun _ => 0, fun _ => 0, fun _ => 0, fun _ => 0, (oz_2 (by omega) (by omega)).trans K45, (oz_2 (by omega) (by omega)).trans K46, (oz_2 (by omega) (by omega)).trans K47, (oz_2 (by omega) (by omega)).trans K48, (oz_2 (by omega) (by omega)).trans K49, (oz_2 (by omega) (by omega)).trans K50, fdz, rfl, fun z => absurd z.1 (by decide)⟩, ⟨0, 0, fun _ => 0, fun _ => 0, fun _ => 0, fun _ => 0, fun _ => 0, (oz_2 (by omega) (by omega)).trans K51, (oz_2 (by omega) (by omega)).trans K52, (oz_2 (by omega) (by omega)).trans K53, (oz_2 (by omega) (by omega)).trans K54, (oz_2 (by omega) (by omega)).trans K55, (oz_2 (by omega) (by omega)).trans K56, fdz, rfl, fun z => absurd z.1 (by decide)⟩, Or.inl rfl, ⟨0, 0, fun _ => 0, fun _ => 0, fun _ => 0, fun _ => 0, (oz_2 (by omega) (by omega)).trans K57, (oz_2 (by omega) (by omega)).trans K58, (oz_2 (by omega) (by omega)).trans K59, (oz_2 (by omega) (by omega)).trans K60, (oz_2 (by omega) (by omega)).trans K61⟩, ⟨b + 68, 0, 0, fun _ => 0, fun _ => 0, fun _ => 0, fun _ => 0, fun _ => 0, fun _ => 0, fun _ => 0, (oz_2 (by omega) (by omega)).trans K62, (oz_2 (by omega) (by omega)).trans K63, (oz_2 (by omega) (by omega)).trans K64, (oz_2 (by omega) (by omega)).trans K65, (oz_2 (by omega) (by omega)).trans K66, (oz_2 (by omega) (by omega)).trans K67, (oz_2 (by omega) (by omega)).trans K68, (oz_2 (by omega) (by omega)).trans K69, Or.inl rfl, by decide, by decide⟩, ⟨by decide, fun t ht => by omega, fun q n _ e => by cases e; decide, fun n => by show 0 ≤ 2; decide, fun t p ht => by omega⟩⟩⟩
      · refine V_aload_n d_N_init_21 rfl ?_
        refine V_getfield d_N_init_22 fl_N_11 i2 rfl ?_
        refine V_iload_n d_N_init_25 rfl ?_
        refine V_nO (bc' := 28 + 4 * (10 - (i + 1)) + 3) (bs' := 6916 + 139 * (10 - (i + 1)) + 134) (nx' := (b + 2 + 4 * i) + 1) d_N_init_26 nw_N_9 (by omega) (by omega) rfl rfl ?_
        refine V_dup d_N_init_29 rfl ?_
        refine V_cI0 (28 + 4 * (10 - (i + 1))) (6916 + 139 * (10 - (i + 1))) d_N_init_30 ml_N_15 mB_T_init mi_T_init rfl rfl (c_T_init l D _ hv_up_s) rfl rfl rfl rfl rfl rfl rfl ?_
        rintro _ _ ⟨rfl, rfl⟩
        refine V_aastore d_N_init_33 ((oz_4 (by omega) (by omega) (by omega) (by omega)).trans ((hv_up_n (by omega)).trans i3)) rfl ⟨rfl, by omega, by decide⟩ cl_3.1 (og_3 (by omega) (by omega) (by omega)) ?_
        refine V_iincN_1 1 d_N_init_34 rfl rfl ?_
        refine V_goto 15 d_N_init_37 (by decide) ?_
        refine ih (10 - (i + 1)) (by omega) (i + 1) rfl (by omega) _ _ (fun q hq => ((hv_up_n (by omega)).trans ((oz_4 (by omega) (by omega) (by omega) (by omega)).trans (hv_up_n (by omega)))).trans (i1 q hq)) (((hv_up_n (by omega)).trans ((oz_4 (by omega) (by omega) (by omega) (by omega)).trans (hv_up_n (by omega)))).trans i2) hv_up_s (fun j hj => ?_) (fun j hj => ?_)
        · by_cases e : j = i
          · rw [e, vu_s]
          · rw [vu_n e]; exact i4 j (by omega)
        · by_cases e : j = i
          · rw [e]; exact ⟨(hv_up_n (by omega)).trans (og_3 (by omega) (by omega) (by omega)), (hv_up_n (by omega)).trans (og_2 (by omega) (by omega)), (hv_up_n (by omega)).trans (og_1 (by omega)), (hv_up_n (by omega)).trans og_0⟩
          · exact (i5 j (by omega)).fr (fun q q1 q2 => ((hv_up_n (by omega)).trans ((oz_4 (by omega) (by omega) (by omega) (by omega)).trans (hv_up_n (by omega)))))
  refine V_aload_n d_N_init_0 rfl ?_
  refine V_objInit d_N_init_1 oi_N_3 (by decide) (by decide) ?_
  refine V_aload_n d_N_init_4 rfl ?_
  refine V_bipush (nI 10) d_N_init_5 rfl ?_
  refine V_newQ (k := 2) (N := 10) d_N_init_7 cln_N_9 (List.mem_cons_self) rfl rfl (by decide) (by decide) (by decide) ?_
  refine V_put (e' := eO 4 [.ref (b + 1), .null, .null, .null, .null, .null, .null, .null, .int 0, .int 0, .int 0, .int 0, .int 0]) d_N_init_10 fp_N_11 ((hv_up_n (by omega)).trans ha) rfl rfl rfl rfl rfl ?_
  refine V_iconst (nI 0) d_N_init_13 rfl ?_
  refine V_istore_1 d_N_init_14 rfl ?_
  exact lp _ 0 rfl (Nat.zero_le _) _ (fun _ => none) (fun q hq => (hv_up_n (by omega)).trans (hv_up_n (by omega))) hv_up_s ((hv_up_n (by omega)).trans hv_up_s) (fun j hj => absurd hj (Nat.not_lt_zero j)) (fun j hj => absurd hj (Nat.not_lt_zero j))
