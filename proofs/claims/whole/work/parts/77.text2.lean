/-! text, by both -/
def allP (A : Ab) : Bool := decide (∀ t, t < A 4 0 → A 5 t < A 0 0 ∧ A 6 t < A 0 0)
noncomputable def bhC (A : Ab) : Nat := if allP A then (if heldA A (dA A) then (if safeB A (dA A) then 0 else 8) else 7) else 6
noncomputable def txF (T : Nat → Nat) (n M : Nat) : Nat × Nat := if (txR T n M).1 = 0 then (bhC (stP T n M).1, n) else txR T n M
def sTf : Rf → Nat → Bool := fun r i => sLn 1 r i || (r.1 == 1 || r == (2, 0, 0))
def sTg : Rf → Nat → Bool := fun r i => sTf r i || (sLn 0 r i || r == (4, 0, 4))
theorem sTf_x (r : Rf) (i : Nat) (h : sTf r i = false) : sTx r i = false := by
  simp only [sTf, sTx, sRd, Bool.or_eq_false_iff] at *
  rw [h.2.2]
  exact ⟨h.1, rfl⟩
theorem sTf_p (r : Rf) (i : Nat) (h : sTf r i = false) : sP r i = false := by
  simp only [sTf, Bool.or_eq_false_iff] at h; exact h.2.1
theorem sTf_r (r : Rf) (i : Nat) (h : sTf r i = false) : (fun (r : Rf) (_ : Nat) => r == (2, 0, 0)) r i = false := by
  simp only [sTf, Bool.or_eq_false_iff] at h; exact h.2.2
theorem sTg_f (r : Rf) (i : Nat) (h : sTg r i = false) : sTf r i = false := by
  simp only [sTg, Bool.or_eq_false_iff] at h; exact h.1
theorem sTg_l (r : Rf) (i : Nat) (h : sTg r i = false) : sLn 0 r i = false := by
  simp only [sTg, Bool.or_eq_false_iff] at h; exact h.2.1
theorem sTg_k (r : Rf) (i : Nat) (h : sTg r i = false) : (fun (r : Rf) (_ : Nat) => r == (4, 0, 4)) r i = false := by
  simp only [sTg, Bool.or_eq_false_iff] at h; exact h.2.2
theorem sP_f (r : Rf) (i : Nat) (h : sP r i = false) : (fun (r : Rf) (_ : Nat) => r == (1, 0, 0)) r i = false := by
  simp only [sP] at h
  simp only [beq_eq_false_iff_ne, ne_eq] at h ⊢
  intro z
  rw [z] at h
  exact h rfl
theorem bhC_le (A : Ab) : bhC A ≤ 8 := by
  unfold bhC
  split
  · split
    · split <;> omega
    · omega
  · omega
theorem bhC_0 {A : Ab} (h : bhC A = 0) : (∀ t, t < A 4 0 → A 5 t < A 0 0 ∧ A 6 t < A 0 0) ∧ SafeA A (dA A) := by
  unfold bhC at h
  by_cases a : allP A = true
  · rw [if_pos a] at h
    by_cases b : heldA A (dA A) = true
    · rw [if_pos b] at h
      by_cases c : safeB A (dA A) = true
      · exact ⟨of_decide_eq_true a, safeB_iff.mp c⟩
      · rw [if_neg c] at h; omega
    · rw [if_neg b] at h; omega
  · rw [if_neg a] at h; omega
theorem lnR_lt (T : Nat → Nat) (n : Nat) (A : Ab) (p : Nat) : (lnR T n A p).1 < 2 ^ 31 := by
  unfold lnR plR seR trR
  have c1 := nC_le T n
  have c2 := gC_le T n
  repeat' split
  all_goals (first | (exact Nat.lt_of_le_of_lt (c1 _ _ _) (by omega)) | (exact Nat.lt_of_le_of_lt (c2 _) (by omega)) | (dsimp only; omega))
section TextD
variable {μ m : Mem} {T : Nat → Nat} {n : Nat} {A : Ab}
theorem faultBehind_ok (R : RepL m 1 A) (O : OkP A) : ∃ m', fD_faultBehindAll 1 m = some (nI (bhC A), m') ∧ Off sP m m' := by
  have n0 : nI 0 = 0 := rfl
  have n1 : ¬ nI 1 = 0 := by decide +kernel
  have h0 := O.1
  have h4 := O.2.1
  have ha := hasAll_ok R h4 (by omega) (fun t ht => by have := O.2.2.2.2.2 t ht; omega)
  unfold fD_faultBehindAll bhC
  by_cases a : allP A = true
  · have g := of_decide_eq_true a
    have OA := OkP_ok O g
    rw [if_pos g] at ha
    obtain ⟨m1, e1, o1, -, -, C1⟩ := forget_ok m
    have R1 : RepL m1 1 A := RepL_off o1 (fun _ _ => rfl) R
    obtain ⟨m2, e2, o2, K2, L2⟩ := learn_ok R1 OA (C1 A)
    have R2 := RepL_off o2 (fun _ _ => rfl) R1
    obtain ⟨m3, e3, o3, L3⟩ := holdsAll_ok R2 OA K2.2.1
    have sf := isSafe_ok OA L3.1 (EndsOk_off o3 (fun _ => rfl) K2.2.2.2)
    have o13 : Off sP m m3 := Off_trans (Off_mono o1 sP_f) (Off_trans o2 (Off_mono o3 sP_sLk))
    rw [ha, bind_s, if_neg (show ¬ (1 : Int32) = 0 by decide +kernel), e1, bind_s, e2, bind_s, e3, bind_s, if_pos a]
    by_cases b : heldA A (dA A) = true
    · rw [if_pos b, if_pos b, if_neg n1, sf, bind_s]
      by_cases c : safeB A (dA A) = true
      · rw [if_pos c, if_pos c, if_neg n1]
        exact ⟨m3, rfl, o13⟩
      · rw [if_neg c, if_neg c, if_pos n0]
        exact ⟨m3, rfl, o13⟩
    · rw [if_neg b, if_neg b, if_pos n0]
      exact ⟨m3, rfl, o13⟩
  · have g : ¬ ∀ t, t < A 4 0 → A 5 t < A 0 0 ∧ A 6 t < A 0 0 := fun z => a (decide_eq_true z)
    rw [if_neg g] at ha
    rw [ha, bind_s, if_pos rfl, if_neg a]
    exact ⟨m, rfl, Off_refl _ _⟩
theorem kept0_ok (x3 : Int32) (m : Mem) : ∃ m', lz11 (bD_text_86 x3) FU (nI 0) m = some (x3, m') ∧ Off (fun r _ => r == (4, 0, 4)) m m' ∧ m' (4, 0, 4) 0 = nI 0 ∧ m' (4, 0, 4) 1 = nI 0 := by
  refine up11 (B := bD_text_86 x3) (fun w => ∃ m', w = some (x3, m') ∧ Off (fun r _ => r == (4, 0, 4)) m m' ∧ m' (4, 0, 4) 0 = nI 0 ∧ m' (4, 0, 4) 1 = nI 0) 2 (by omega) (fun i m' => Off (fun r _ => r == (4, 0, 4)) m m' ∧ ∀ j, j < i → m' (4, 0, 4) j = nI 0) ⟨Off_refl _ _, fun j hj => absurd hj (by omega)⟩ (fun sf i m' hi hJ => ?_) (fun sf m' hJ => ?_) <;> unfold bD_text_86
  · left
    simp (disch := omega) only [lit_0, lit_1, lit_2, lit_3, lit_4, lit_5, lit_6, lit_7, lit_8, lit_9, lit_10, lit_11, lit_12, lit_13, lit_14, lit_15, lit_16, lit_17, lit_18, lit_19, lit_20, lit_23, lit_24, lit_31, lit_32, lit_34, lit_36, lit_40, lit_48, lit_49, lit_57, lit_58, lit_59, lit_60, lit_64, lit_96, lit_97, lit_99, lit_101, lit_105, lit_108, lit_110, lit_111, lit_112, lit_114, lit_115, lit_116, lit_122, lit_127, lit_160, lit_216, lit_235, lit_238, lit_343, lit_476, lit_1296, lit_2000, lit_2401, lt_def, bind_s, gd_d, ix_n, inb_n, nI_add, pk_mul, pk_sub, nI_leI, nI_ltI, nI_eq, nI_ltn, nI_eqn, nI_eqn2, if_pos, if_neg, if_true, if_false, nI_addm1, nar_b0]
    refine ⟨_, ⟨Off_wr hJ.1 rfl, fun j hj => ?_⟩, rfl⟩
    rw [wr_get]
    by_cases e : j = i
    · rw [if_pos ⟨rfl, e⟩]
    · rw [if_neg (fun z => e z.2)]; exact hJ.2 j (by omega)
  · simp (disch := omega) only [lit_0, lit_1, lit_2, lit_3, lit_4, lit_5, lit_6, lit_7, lit_8, lit_9, lit_10, lit_11, lit_12, lit_13, lit_14, lit_15, lit_16, lit_17, lit_18, lit_19, lit_20, lit_23, lit_24, lit_31, lit_32, lit_34, lit_36, lit_40, lit_48, lit_49, lit_57, lit_58, lit_59, lit_60, lit_64, lit_96, lit_97, lit_99, lit_101, lit_105, lit_108, lit_110, lit_111, lit_112, lit_114, lit_115, lit_116, lit_122, lit_127, lit_160, lit_216, lit_235, lit_238, lit_343, lit_476, lit_1296, lit_2000, lit_2401, lt_def, bind_s, gd_d, ix_n, inb_n, nI_add, pk_mul, pk_sub, nI_leI, nI_ltI, nI_eq, nI_ltn, nI_eqn, nI_eqn2, if_pos, if_neg, if_true, if_false, nI_addm1]
    exact ⟨m', rfl, hJ.1, hJ.2 0 (by omega), hJ.2 1 (by omega)⟩
theorem j37_ok {c s : Nat} (x3 : Int32) (hc : c < 2 ^ 31) (h2 : m (2, 0, 0) 2 = nI c) (h3 : m (2, 0, 0) 3 = nI s) (h : c = 0 → RepL m 1 A ∧ OkP A) : ∃ m', jD_text_37 x3 m = some (if c = 0 then x3 else (-10) - nI s, m') ∧ m' (2, 0, 0) 1 = nI 0 ∧ m' (2, 0, 0) 2 = nI c ∧ (∀ A, Cache m' A) ∧ (c ≠ 0 → Off sTf m m') ∧ (c = 0 → Off sTg m m' ∧ RepL m' 0 A ∧ m' (4, 0, 4) 0 = nI 0 ∧ m' (4, 0, 4) 1 = nI 0) := by
  have n0 : nI 0 = 0 := rfl
  unfold jD_text_37
  obtain ⟨m1, e1, o1, -, -, C1⟩ := forget_ok m
  rw [e1, bind_s, lt_def]
  generalize em : wr m1 (2, 0, 0) 1 0 = m2
  have o2 : Off (fun r _ => r == (2, 0, 0)) m1 m2 := by rw [← em]; exact Off_wr (Off_refl _ _) rfl
  have a1 : m2 (2, 0, 0) 1 = nI 0 := by rw [← em, wr_at]; rfl
  have a2 : m2 (2, 0, 0) 2 = nI c := by rw [← em, wr_off _ _ (by simp)]; exact (o1 _ _ rfl).trans h2
  have a3 : m2 (2, 0, 0) 3 = nI s := by rw [← em, wr_off _ _ (by simp)]; exact (o1 _ _ rfl).trans h3
  have C2 : ∀ A, Cache m2 A := fun A => Cache_off o2 (fun j i => rfl) (C1 A)
  have o12 : Off sTf m m2 := Off_trans (Off_mono o1 (fun r i h => sP_f r i (sTf_p r i h))) (Off_mono o2 sTf_r)
  rw [a2]
  by_cases z : c = 0
  · obtain ⟨R, O⟩ := h z
    have R2 : RepL m2 1 A := RepL_off o2 (fun _ _ => rfl) (RepL_off o1 (fun _ _ => rfl) R)
    obtain ⟨m3, e3, o3, R3⟩ := copyFrom_ok (k1 := 0) (k2 := 1) (by omega) R2 O.1 O.2.1 (by have := O.2.2.2.1; omega) (fun p hp => (O.2.2.2.2.1 p hp).2.1)
    obtain ⟨m4, e4, o4, k0, k1⟩ := kept0_ok x3 m3
    have e4' : lz11 (bD_text_86 x3) FU 0 m3 = some (x3, m4) := e4
    rw [if_pos (show nI c = 0 by rw [z]; rfl), e3, bind_s, lt_def, e4', if_pos z]
    refine ⟨m4, rfl, ?_, ?_, fun A => Cache_off o4 (fun j i => rfl) (Cache_off o3 (fun j i => rfl) (C2 A)), fun w => absurd z w, fun _ => ⟨?_, RepL_off o4 (fun _ _ => rfl) R3, k0, k1⟩⟩
    · rw [o4 _ _ rfl, o3 _ _ rfl]; exact a1
    · rw [o4 _ _ rfl, o3 _ _ rfl]; exact a2
    · exact Off_trans (Off_mono o12 sTg_f) (Off_trans (Off_mono o3 sTg_l) (Off_mono o4 sTg_k))
  · rw [if_neg (nI_nz0 (by omega) hc), if_neg z, a3]
    exact ⟨m2, rfl, a1, a2, C2, fun _ => o12, fun w => absurd w z⟩
theorem textD_ok (H : TpC μ T n) : ∃ μ' M, fD_text μ = some (if (txF T n M).1 = 0 then nI M else (-10) - nI (txF T n M).2, μ') ∧ TxM T n M ∧ μ' (2, 0, 0) 1 = nI 0 ∧ μ' (2, 0, 0) 2 = nI (txF T n M).1 ∧ (∀ A, Cache μ' A) ∧ ((txF T n M).1 ≠ 0 → Off sTf μ μ') ∧ ((txF T n M).1 = 0 → Off sTg μ μ' ∧ RepL μ' 0 (stP T n M).1 ∧ OkP (stP T n M).1 ∧ μ' (4, 0, 4) 0 = nI 0 ∧ μ' (4, 0, 4) 1 = nI 0) := by
  have n0 : nI 0 = 0 := rfl
  obtain ⟨m1, M, e1, o1, tm, ml, f1, f2⟩ := readInto_ok H
  have Om := (stP_ok H tm.1).1
  unfold fD_text
  rw [e1, bind_s, lt_def]
  by_cases z : (txR T n M).1 = 0
  · obtain ⟨g1, R1⟩ := f1 z
    obtain ⟨m2, e2, o2⟩ := faultBehind_ok R1 Om
    have R2 : RepL m2 1 (stP T n M).1 := RepL_off o2 (fun _ _ => rfl) R1
    have eF : txF T n M = (bhC (stP T n M).1, n) := by unfold txF; rw [if_pos z]
    have bl := bhC_le (stP T n M).1
    have s1 : m2 (2, 0, 0) 1 = nI n := (o2 _ _ rfl).trans ((o1 _ _ rfl).trans H.2.1)
    have ef : fR_failBehindAll (nI (bhC (stP T n M).1)) m2 = some (wr (wr m2 (2, 0, 0) 2 (nI (bhC (stP T n M).1))) (2, 0, 0) 3 (nI n)) := by
      unfold fR_failBehindAll
      rw [lt_def, lt_def, wr_off _ _ (show ¬ (((2, 0, 0) : Rf) = (2, 0, 0) ∧ 1 = 2) by simp), s1]
    generalize em : wr (wr m2 (2, 0, 0) 2 (nI (bhC (stP T n M).1))) (2, 0, 0) 3 (nI n) = m3 at ef
    have o3 : Off (fun r _ => r == (2, 0, 0)) m2 m3 := by rw [← em]; exact Off_wr (Off_wr (Off_refl _ _) rfl) rfl
    have h2 : m3 (2, 0, 0) 2 = nI (bhC (stP T n M).1) := by rw [← em, wr_off _ _ (by simp), wr_at]
    have h3 : m3 (2, 0, 0) 3 = nI n := by rw [← em, wr_at]
    obtain ⟨m4, e4, b1, b2, b3, b4, b5⟩ := j37_ok (A := (stP T n M).1) (nI M) (by omega) h2 h3 (fun _ => ⟨RepL_off o3 (fun _ _ => rfl) R2, Om⟩)
    have o13 : Off sTf μ m3 := Off_trans (Off_mono o1 sTf_x) (Off_trans (Off_mono o2 sTf_p) (Off_mono o3 sTf_r))
    refine ⟨m4, M, ?_⟩
    rw [eF]
    refine ⟨?_, tm, b1, b2, b3, fun w => Off_trans o13 (b4 w), fun w => ?_⟩
    · rw [if_pos (show ((nI M, m1) : Int32 × Mem).2 (2, 0, 0) 2 = 0 from g1)]
      show Option.bind (fD_faultBehindAll 1 m1) _ = _
      rw [e2, bind_s]
      show Option.bind (fR_failBehindAll (nI (bhC (stP T n M).1)) m2) _ = _
      rw [ef, bind_s]
      exact e4
    · obtain ⟨q1, q2, q3, q4⟩ := b5 w
      exact ⟨Off_trans (Off_mono o13 sTg_f) q1, q2, Om, q3, q4⟩
  · have F := f2 z
    have eF : txF T n M = txR T n M := by unfold txF; rw [if_neg z]
    have bnd : (txR T n M).1 < 2 ^ 31 := by
      unfold txR
      by_cases b : tB T n (stP T n M).2 = true
      · rw [if_pos b]; show (1 : Nat) < 2 ^ 31; omega
      · rw [if_neg b]
        by_cases k : tK T n (stP T n M).2 = 0
        · rw [if_pos k]; show (0 : Nat) < 2 ^ 31; omega
        · rw [if_neg k]; exact lnR_lt T n _ _
    obtain ⟨m4, e4, b1, b2, b3, b4, b5⟩ := j37_ok (A := (stP T n M).1) (nI M) bnd F.1 F.2 (fun w => absurd w z)
    refine ⟨m4, M, ?_⟩
    rw [eF]
    refine ⟨?_, tm, b1, b2, b3, fun w => Off_trans (Off_mono o1 sTf_x) (b4 w), fun w => absurd w z⟩
    rw [if_neg (show ¬ ((nI M, m1) : Int32 × Mem).2 (2, 0, 0) 2 = 0 from fun w => nI_nz0 (by omega) bnd (F.1.symm.trans w))]
    exact e4
end TextD
