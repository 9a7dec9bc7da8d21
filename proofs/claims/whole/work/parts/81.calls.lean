section Calls
variable {N : Nat}
theorem stv_train (x y : Int32) : StvB N (fD_train x y) (fM_train x y) := by
  rintro μ ⟨⟨A, B, h⟩, r⟩
  obtain ⟨R, RR, O, S, C, hA⟩ := id h
  have hn := O.n4
  by_cases c : ∃ p, p < A 4 0 ∧ x = nI p
  rotate_left
  · refine ⟨-1, ?_, ?_⟩
    · unfold fD_train
      rw [hasTrain_ok R O, if_neg c, bind_s, if_pos rfl]
    · unfold fM_train
      rw [isTrainM_ok RR O, if_neg c, bind_s, if_pos (show nI 0 = (0 : Int32) from rfl)]
  obtain ⟨t, ht, rfl⟩ := c
  have ot := O.tr ht
  have h5 := dist_le O ht
  have h6 := O.p6
  have d1 : fL_hasTrain 0 (nI t) μ = some 1 := by rw [hasTrain_ok R O, if_pos ⟨t, ht, rfl⟩]
  have d2 : fM_isTrain (nI t) μ = some (nI 1) := by rw [isTrainM_ok RR O, if_pos ⟨t, ht, rfl⟩]
  have n1 : ¬ nI 1 = 0 := by decide +kernel
  have q1 : ¬ (1 : Int32) = 0 := by decide +kernel
  unfold fD_train fM_train
  rw [d1, d2, bind_s, bind_s, if_neg n1, if_neg q1]
  by_cases c0 : y = 0
  · subst c0
    have e : fM_ofTrain (nI t) 0 μ = some (nI (A 5 t)) := of0 RR O ht
    refine ⟨nI (A 5 t), ?_, ?_⟩
    · rw [if_pos rfl, gd_in (by omega) (by omega), ix_n (by omega), R.fr ht]
    · rw [if_pos rfl, e, bind_s]
  by_cases c1 : y = 1
  · subst c1
    have e : fM_ofTrain (nI t) 1 μ = some (nI (A 6 t)) := of1 RR O ht
    refine ⟨nI (A 6 t), ?_, ?_⟩
    · rw [if_neg (show ¬ (1 : Int32) = 0 by decide +kernel), if_pos rfl, gd_in (by omega) (by omega), ix_n (by omega), R.to ht]
    · rw [if_neg (show ¬ (1 : Int32) = 0 by decide +kernel), if_pos rfl, e, bind_s]
  by_cases c2 : y = 2
  · subst c2
    have e : fM_ofTrain (nI t) 2 μ = some (nI (A 7 t)) := of2 RR O ht
    refine ⟨nI (A 7 t), ?_, ?_⟩
    · rw [if_neg (show ¬ (2 : Int32) = 0 by decide +kernel), if_neg (show ¬ (2 : Int32) = 1 by decide +kernel), if_pos rfl, gd_in (by omega) (by omega), ix_n (by omega), R.sz ht]
    · rw [if_neg (show ¬ (2 : Int32) = 0 by decide +kernel), if_neg (show ¬ (2 : Int32) = 1 by decide +kernel), if_pos rfl, e, bind_s]
  by_cases c3 : y = 3
  · subst c3
    have e : fM_ofTrain (nI t) 3 μ = some (nI (spotA A t (A 8 t))) := of3 RR O ht
    have dn := isDoneIn_ok RR O ht
    by_cases z : A 8 t = 0
    · refine ⟨-4, ?_, ?_⟩
      · rw [if_neg (show ¬ (3 : Int32) = 0 by decide +kernel), if_neg (show ¬ (3 : Int32) = 1 by decide +kernel), if_neg (show ¬ (3 : Int32) = 2 by decide +kernel), if_pos rfl, gd_in (by omega) (by omega), ix_n (by omega), R.lf ht, z, if_pos (show nI 0 = (0 : Int32) from rfl)]
      · rw [if_neg (show ¬ (3 : Int32) = 0 by decide +kernel), if_neg (show ¬ (3 : Int32) = 1 by decide +kernel), if_neg (show ¬ (3 : Int32) = 2 by decide +kernel), if_pos rfl, dn, if_pos z, bind_s, if_neg n1]
    · refine ⟨nI (spotA A t (A 8 t)), ?_, ?_⟩
      · rw [if_neg (show ¬ (3 : Int32) = 0 by decide +kernel), if_neg (show ¬ (3 : Int32) = 1 by decide +kernel), if_neg (show ¬ (3 : Int32) = 2 by decide +kernel), if_pos rfl, gd_in (by omega) (by omega), ix_n (by omega), R.lf ht, if_neg (nI_nz0 (by omega) (by omega)), gd_in (by omega) (by omega), spot_ok R O ht ot.2.2.2.2.2.1, bind_s]
      · rw [if_neg (show ¬ (3 : Int32) = 0 by decide +kernel), if_neg (show ¬ (3 : Int32) = 1 by decide +kernel), if_neg (show ¬ (3 : Int32) = 2 by decide +kernel), if_pos rfl, dn, if_neg z, bind_s, if_pos (show nI 0 = (0 : Int32) from rfl), e, bind_s]
  by_cases c4 : y = 4
  · subst c4
    have e : fM_ofTrain (nI t) 4 μ = some (nI (A 9 t)) := of4 RR O ht
    refine ⟨nI (A 9 t), ?_, ?_⟩
    · rw [if_neg (show ¬ (4 : Int32) = 0 by decide +kernel), if_neg (show ¬ (4 : Int32) = 1 by decide +kernel), if_neg (show ¬ (4 : Int32) = 2 by decide +kernel), if_neg (show ¬ (4 : Int32) = 3 by decide +kernel), if_pos rfl, gd_in (by omega) (by omega), ix_n (by omega), R.ss ht]
    · rw [if_neg (show ¬ (4 : Int32) = 0 by decide +kernel), if_neg (show ¬ (4 : Int32) = 1 by decide +kernel), if_neg (show ¬ (4 : Int32) = 2 by decide +kernel), if_neg (show ¬ (4 : Int32) = 3 by decide +kernel), if_pos rfl, e, bind_s]
  by_cases c5 : y = 5
  · subst c5
    have e : fM_ofTrain (nI t) 5 μ = some (if A 9 t = 0 then -4 else nI (A 10 t)) := of5 RR O ht
    have h9 := ot.2.2.2.2.2.2.1
    by_cases z : A 9 t = 0
    · refine ⟨-4, ?_, ?_⟩
      · rw [if_neg (show ¬ (5 : Int32) = 0 by decide +kernel), if_neg (show ¬ (5 : Int32) = 1 by decide +kernel), if_neg (show ¬ (5 : Int32) = 2 by decide +kernel), if_neg (show ¬ (5 : Int32) = 3 by decide +kernel), if_neg (show ¬ (5 : Int32) = 4 by decide +kernel), if_pos rfl, gd_in (by omega) (by omega), ix_n (by omega), R.ss ht, z, if_pos (show nI 0 = (0 : Int32) from rfl)]
      · rw [if_neg (show ¬ (5 : Int32) = 0 by decide +kernel), if_neg (show ¬ (5 : Int32) = 1 by decide +kernel), if_neg (show ¬ (5 : Int32) = 2 by decide +kernel), if_neg (show ¬ (5 : Int32) = 3 by decide +kernel), if_neg (show ¬ (5 : Int32) = 4 by decide +kernel), if_pos rfl, e, if_pos z, bind_s]
    · refine ⟨nI (A 10 t), ?_, ?_⟩
      · rw [if_neg (show ¬ (5 : Int32) = 0 by decide +kernel), if_neg (show ¬ (5 : Int32) = 1 by decide +kernel), if_neg (show ¬ (5 : Int32) = 2 by decide +kernel), if_neg (show ¬ (5 : Int32) = 3 by decide +kernel), if_neg (show ¬ (5 : Int32) = 4 by decide +kernel), if_pos rfl, gd_in (by omega) (by omega), ix_n (by omega), R.ss ht, if_neg (nI_nz0 (by omega) (by omega)), gd_in (by omega) (by omega), R.wh ht z]
      · rw [if_neg (show ¬ (5 : Int32) = 0 by decide +kernel), if_neg (show ¬ (5 : Int32) = 1 by decide +kernel), if_neg (show ¬ (5 : Int32) = 2 by decide +kernel), if_neg (show ¬ (5 : Int32) = 3 by decide +kernel), if_neg (show ¬ (5 : Int32) = 4 by decide +kernel), if_pos rfl, e, if_neg z, bind_s]
  by_cases c6 : y = 6
  · subst c6
    refine ⟨nI (minA A t (A 8 t)), ?_, ?_⟩
    · rw [if_neg (show ¬ (6 : Int32) = 0 by decide +kernel), if_neg (show ¬ (6 : Int32) = 1 by decide +kernel), if_neg (show ¬ (6 : Int32) = 2 by decide +kernel), if_neg (show ¬ (6 : Int32) = 3 by decide +kernel), if_neg (show ¬ (6 : Int32) = 4 by decide +kernel), if_neg (show ¬ (6 : Int32) = 5 by decide +kernel), if_pos rfl, minutesLeft_ok R O ht, bind_s]
    · rw [if_neg (show ¬ (6 : Int32) = 0 by decide +kernel), if_neg (show ¬ (6 : Int32) = 1 by decide +kernel), if_neg (show ¬ (6 : Int32) = 2 by decide +kernel), if_neg (show ¬ (6 : Int32) = 3 by decide +kernel), if_neg (show ¬ (6 : Int32) = 4 by decide +kernel), if_neg (show ¬ (6 : Int32) = 5 by decide +kernel), if_pos rfl, minutesStill_ok RR O ht, bind_s]
  refine ⟨-1, ?_, ?_⟩
  · rw [if_neg c0, if_neg c1, if_neg c2, if_neg c3, if_neg c4, if_neg c5, if_neg c6]
  · rw [if_neg c0, if_neg c1, if_neg c2, if_neg c3, if_neg c4, if_neg c5, if_neg c6]
theorem sumD_2 {μ : Mem} {A : Ab} (R : RepL μ 0 A) (O : OkA A) {k : Nat} (hk : k ≤ A 0 0) : fD_sum_0_2 0 (nI k) μ = some (nI (sm (fun t => A 1 t) k)) := by
  have hn := O.n4
  have h6 := O.p6
  unfold fD_sum_0_2
  simp only [lt_def]
  refine ac20 (B := bD_sum_0_2_4 0 (nI k) μ) k (by omega) (fun i => nI (sm (fun t => A 1 t) i)) (fun sf i hi => ?_) (fun sf => ?_) <;> unfold bD_sum_0_2_4
  · simp (disch := omega) only [lit_0, lit_1, lit_2, lit_3, lit_4, lit_5, lit_6, lit_7, lit_8, lit_9, lit_10, lit_11, lit_12, lit_13, lit_14, lit_15, lit_16, lit_17, lit_18, lit_19, lit_20, lit_23, lit_24, lit_31, lit_32, lit_34, lit_36, lit_40, lit_48, lit_49, lit_57, lit_58, lit_59, lit_60, lit_64, lit_96, lit_97, lit_99, lit_101, lit_105, lit_108, lit_110, lit_111, lit_112, lit_114, lit_115, lit_116, lit_122, lit_127, lit_160, lit_216, lit_235, lit_238, lit_343, lit_476, lit_1296, lit_2000, lit_2401, lt_def, bind_s, gd_d, ix_n, inb_n, nI_add, pk_mul, pk_sub, nI_leI, nI_ltI, nI_eq, nI_ltn, nI_eqn, nI_eqn2, if_pos, if_neg, if_true, if_false, nI_addm1, R.tk (show i < A 0 0 by omega), sm_s]
  · simp (disch := omega) only [lit_0, lit_1, lit_2, lit_3, lit_4, lit_5, lit_6, lit_7, lit_8, lit_9, lit_10, lit_11, lit_12, lit_13, lit_14, lit_15, lit_16, lit_17, lit_18, lit_19, lit_20, lit_23, lit_24, lit_31, lit_32, lit_34, lit_36, lit_40, lit_48, lit_49, lit_57, lit_58, lit_59, lit_60, lit_64, lit_96, lit_97, lit_99, lit_101, lit_105, lit_108, lit_110, lit_111, lit_112, lit_114, lit_115, lit_116, lit_122, lit_127, lit_160, lit_216, lit_235, lit_238, lit_343, lit_476, lit_1296, lit_2000, lit_2401, lt_def, bind_s, gd_d, ix_n, inb_n, nI_add, pk_mul, pk_sub, nI_leI, nI_ltI, nI_eq, nI_ltn, nI_eqn, nI_eqn2, if_pos, if_neg, if_true, if_false, nI_addm1]
theorem sumD_4 {μ : Mem} {A : Ab} (R : RepL μ 0 A) (O : OkA A) {k : Nat} (hk : k ≤ A 0 0) : fD_sum_0_4 0 (nI k) μ = some (nI (sm (fun t => A 3 t) k)) := by
  have hn := O.n4
  have h6 := O.p6
  unfold fD_sum_0_4
  simp only [lt_def]
  refine ac20 (B := bD_sum_0_4_4 0 (nI k) μ) k (by omega) (fun i => nI (sm (fun t => A 3 t) i)) (fun sf i hi => ?_) (fun sf => ?_) <;> unfold bD_sum_0_4_4
  · simp (disch := omega) only [lit_0, lit_1, lit_2, lit_3, lit_4, lit_5, lit_6, lit_7, lit_8, lit_9, lit_10, lit_11, lit_12, lit_13, lit_14, lit_15, lit_16, lit_17, lit_18, lit_19, lit_20, lit_23, lit_24, lit_31, lit_32, lit_34, lit_36, lit_40, lit_48, lit_49, lit_57, lit_58, lit_59, lit_60, lit_64, lit_96, lit_97, lit_99, lit_101, lit_105, lit_108, lit_110, lit_111, lit_112, lit_114, lit_115, lit_116, lit_122, lit_127, lit_160, lit_216, lit_235, lit_238, lit_343, lit_476, lit_1296, lit_2000, lit_2401, lt_def, bind_s, gd_d, ix_n, inb_n, nI_add, pk_mul, pk_sub, nI_leI, nI_ltI, nI_eq, nI_ltn, nI_eqn, nI_eqn2, if_pos, if_neg, if_true, if_false, nI_addm1, R.mi (show i < A 0 0 by omega), sm_s]
  · simp (disch := omega) only [lit_0, lit_1, lit_2, lit_3, lit_4, lit_5, lit_6, lit_7, lit_8, lit_9, lit_10, lit_11, lit_12, lit_13, lit_14, lit_15, lit_16, lit_17, lit_18, lit_19, lit_20, lit_23, lit_24, lit_31, lit_32, lit_34, lit_36, lit_40, lit_48, lit_49, lit_57, lit_58, lit_59, lit_60, lit_64, lit_96, lit_97, lit_99, lit_101, lit_105, lit_108, lit_110, lit_111, lit_112, lit_114, lit_115, lit_116, lit_122, lit_127, lit_160, lit_216, lit_235, lit_238, lit_343, lit_476, lit_1296, lit_2000, lit_2401, lt_def, bind_s, gd_d, ix_n, inb_n, nI_add, pk_mul, pk_sub, nI_leI, nI_ltI, nI_eq, nI_ltn, nI_eqn, nI_eqn2, if_pos, if_neg, if_true, if_false, nI_addm1]
theorem sumD_8 {μ : Mem} {A : Ab} (R : RepL μ 0 A) (O : OkA A) {k : Nat} (hk : k ≤ A 4 0) : fD_sum_0_8 0 (nI k) μ = some (nI (sm (fun t => A 7 t) k)) := by
  have hn := O.n4
  have h6 := O.p6
  unfold fD_sum_0_8
  simp only [lt_def]
  refine ac20 (B := bD_sum_0_8_4 0 (nI k) μ) k (by omega) (fun i => nI (sm (fun t => A 7 t) i)) (fun sf i hi => ?_) (fun sf => ?_) <;> unfold bD_sum_0_8_4
  · simp (disch := omega) only [lit_0, lit_1, lit_2, lit_3, lit_4, lit_5, lit_6, lit_7, lit_8, lit_9, lit_10, lit_11, lit_12, lit_13, lit_14, lit_15, lit_16, lit_17, lit_18, lit_19, lit_20, lit_23, lit_24, lit_31, lit_32, lit_34, lit_36, lit_40, lit_48, lit_49, lit_57, lit_58, lit_59, lit_60, lit_64, lit_96, lit_97, lit_99, lit_101, lit_105, lit_108, lit_110, lit_111, lit_112, lit_114, lit_115, lit_116, lit_122, lit_127, lit_160, lit_216, lit_235, lit_238, lit_343, lit_476, lit_1296, lit_2000, lit_2401, lt_def, bind_s, gd_d, ix_n, inb_n, nI_add, pk_mul, pk_sub, nI_leI, nI_ltI, nI_eq, nI_ltn, nI_eqn, nI_eqn2, if_pos, if_neg, if_true, if_false, nI_addm1, R.sz (show i < A 4 0 by omega), sm_s]
  · simp (disch := omega) only [lit_0, lit_1, lit_2, lit_3, lit_4, lit_5, lit_6, lit_7, lit_8, lit_9, lit_10, lit_11, lit_12, lit_13, lit_14, lit_15, lit_16, lit_17, lit_18, lit_19, lit_20, lit_23, lit_24, lit_31, lit_32, lit_34, lit_36, lit_40, lit_48, lit_49, lit_57, lit_58, lit_59, lit_60, lit_64, lit_96, lit_97, lit_99, lit_101, lit_105, lit_108, lit_110, lit_111, lit_112, lit_114, lit_115, lit_116, lit_122, lit_127, lit_160, lit_216, lit_235, lit_238, lit_343, lit_476, lit_1296, lit_2000, lit_2401, lt_def, bind_s, gd_d, ix_n, inb_n, nI_add, pk_mul, pk_sub, nI_leI, nI_ltI, nI_eq, nI_ltn, nI_eqn, nI_eqn2, if_pos, if_neg, if_true, if_false, nI_addm1]
theorem sumM_ok {μ : Mem} {c d k : Nat} {F : Nat → Nat} (hk : k ≤ 6) (hc : c + d * 6 ≤ 238) (hd : 1 ≤ d ∧ d ≤ 6) (e : ∀ i, i < k → μ (5, 0, 1) (c + d * i) = nI (F i)) : fM_summed (nI c) (nI d) (nI k) μ = some (nI (sm F k)) := by
  unfold fM_summed
  simp only [lt_def]
  refine ac20 (B := bM_summed_6 (nI c) (nI d) (nI k) μ) k (by omega) (fun i => nI (sm F i)) (fun sf i hi => ?_) (fun sf => ?_) <;> unfold bM_summed_6
  · have hb : d * i + d ≤ d * 6 := by
      have := Nat.mul_le_mul_left d (show i + 1 ≤ 6 by omega)
      rw [Nat.mul_add, Nat.mul_one] at this
      exact this
    simp (disch := omega) only [lit_0, lit_1, lit_2, lit_3, lit_4, lit_5, lit_6, lit_7, lit_8, lit_9, lit_10, lit_11, lit_12, lit_13, lit_14, lit_15, lit_16, lit_17, lit_18, lit_19, lit_20, lit_23, lit_24, lit_31, lit_32, lit_34, lit_36, lit_40, lit_48, lit_49, lit_57, lit_58, lit_59, lit_60, lit_64, lit_96, lit_97, lit_99, lit_101, lit_105, lit_108, lit_110, lit_111, lit_112, lit_114, lit_115, lit_116, lit_122, lit_127, lit_160, lit_216, lit_235, lit_238, lit_343, lit_476, lit_1296, lit_2000, lit_2401, lt_def, bind_s, gd_d, ix_n, inb_n, nI_add, pk_mul, pk_sub, nI_leI, nI_ltI, nI_eq, nI_ltn, nI_eqn, nI_eqn2, if_pos, if_neg, if_true, if_false, nI_addm1, e i hi, sm_s]
  · simp (disch := omega) only [lit_0, lit_1, lit_2, lit_3, lit_4, lit_5, lit_6, lit_7, lit_8, lit_9, lit_10, lit_11, lit_12, lit_13, lit_14, lit_15, lit_16, lit_17, lit_18, lit_19, lit_20, lit_23, lit_24, lit_31, lit_32, lit_34, lit_36, lit_40, lit_48, lit_49, lit_57, lit_58, lit_59, lit_60, lit_64, lit_96, lit_97, lit_99, lit_101, lit_105, lit_108, lit_110, lit_111, lit_112, lit_114, lit_115, lit_116, lit_122, lit_127, lit_160, lit_216, lit_235, lit_238, lit_343, lit_476, lit_1296, lit_2000, lit_2401, lt_def, bind_s, gd_d, ix_n, inb_n, nI_add, pk_mul, pk_sub, nI_leI, nI_ltI, nI_eq, nI_ltn, nI_eqn, nI_eqn2, if_pos, if_neg, if_true, if_false, nI_addm1]
theorem stv_count (x : Int32) : StvB N (fD_count x) (fM_count x) := by
  rintro μ ⟨⟨A, B, h⟩, r⟩
  obtain ⟨R, RR, O, S, C, hA⟩ := id h
  obtain ⟨⟨T, n, tc, tm⟩, fl, im, sh, tr⟩ := r
  have hn := O.n4
  have h6 := O.p6
  unfold fD_count fM_count
  by_cases c0 : x = 0
  · subst c0
    have i0 := im 0 (by omega)
    have i1 := im 1 (by omega)
    have g0 : ∃ b, b ≤ 1 ∧ μ (4, 0, 4) 0 = nI b ∧ μ (5, 0, 5) 0 = nI b := by
      rcases i0 with ⟨a, b⟩ | ⟨a, b, -⟩
      · exact ⟨0, by omega, a, b⟩
      · exact ⟨1, by omega, a, b⟩
    have g1 : ∃ b, b ≤ 1 ∧ μ (4, 0, 4) 1 = nI b ∧ μ (5, 0, 5) 1 = nI b := by
      rcases i1 with ⟨a, b⟩ | ⟨a, b, -⟩
      · exact ⟨0, by omega, a, b⟩
      · exact ⟨1, by omega, a, b⟩
    obtain ⟨b0, l0, p0, q0⟩ := g0
    obtain ⟨b1, l1, p1, q1⟩ := g1
    have fl : ∀ b : Nat, b ≤ 1 → fM_flag (nI b) μ = some (if nI b = (0 : Int32) then (0 : Int32) else 1) := by
      intro b hb
      have : b = 0 ∨ b = 1 := by omega
      rcases this with rfl | rfl <;> rfl
    refine ⟨(if nI b0 = (0 : Int32) then (0 : Int32) else 1) + (if nI b1 = (0 : Int32) then (0 : Int32) else 1), ?_, ?_⟩
    · rw [if_pos rfl, gd_t (show inb 0 2 = true by decide +kernel), ix0, p0, lt_def, gd_t (show inb 1 2 = true by decide +kernel), ix1, p1, lt_def]
    · rw [if_pos rfl, gd_t (show inb 0 2 = true by decide +kernel), ix0, q0, fl b0 l0, bind_s, gd_t (show inb 1 2 = true by decide +kernel), ix1, q1, fl b1 l1, bind_s]
  by_cases c1 : x = 1
  · subst c1
    have e : fM_summed 4 5 (nI (A 0 0)) μ = some (nI (sm (fun t => A 1 t) (A 0 0))) := sumM_ok (c := 4) (d := 5) (F := fun t => A 1 t) h6 (by omega) (by omega) (fun i hi => RR.tk hi)
    refine ⟨nI (sm (fun t => A 1 t) (A 0 0)), ?_, ?_⟩
    · rw [if_neg c0, if_pos rfl, R.pl, sumD_2 R O (Nat.le_refl _), bind_s]
    · rw [if_neg c0, if_pos rfl, gd0, ix0, RR.pl, e, bind_s]
  by_cases c2 : x = 2
  · subst c2
    refine ⟨nI n, ?_, ?_⟩
    · rw [if_neg c0, if_neg c1, if_pos rfl, tc.2.1]
    · rw [if_neg c0, if_neg c1, if_pos rfl, tm.2.1]
  by_cases c3 : x = 3
  · subst c3
    have i04 : inb 0 4 = true := by decide +kernel
    rcases sh 0 (by omega) with ⟨a, b⟩ | ⟨s, l, s40, l2, a, -, b, c, -⟩
    · refine ⟨-4, ?_, ?_⟩
      · rw [if_neg c0, if_neg c1, if_neg c2, if_pos rfl, gd_t i04, ix0, a, if_neg (by decide +kernel)]
      · rw [if_neg c0, if_neg c1, if_neg c2, if_pos rfl, gd_t i04, ix0, b, if_pos rfl]
    · have nl : ¬ nI l = -4 := fun z => of_eq_false (nI_eqn (a := l) (k := 4) (by omega) (by omega) (by omega)) z
      have ps : (0 : Int32) ≤ nI s := nI_pos' (by omega)
      refine ⟨nI s, ?_, ?_⟩
      · rw [if_neg c0, if_neg c1, if_neg c2, if_pos rfl, gd_t i04, ix0, a, if_pos ps, gd_t i04]
      · rw [if_neg c0, if_neg c1, if_neg c2, if_pos rfl, gd_t i04, ix0, b, if_neg nl, gd_t i04, c]
  by_cases c4 : x = 4
  · subst c4
    have e : fM_summed 36 6 (nI (A 4 0)) μ = some (nI (sm (fun t => A 7 t) (A 4 0))) := sumM_ok (c := 36) (d := 6) (F := fun t => A 7 t) (by omega) (by omega) (by omega) (fun i hi => by
      have := RR.sz hi
      rw [show 36 + 6 * i = 34 + 6 * i + 2 by omega]; exact this)
    refine ⟨nI (sm (fun t => A 7 t) (A 4 0)), ?_, ?_⟩
    · rw [if_neg c0, if_neg c1, if_neg c2, if_neg c3, if_pos rfl, R.n, sumD_8 R O (Nat.le_refl _), bind_s]
    · rw [if_neg c0, if_neg c1, if_neg c2, if_neg c3, if_pos rfl, gd1, ix1, RR.n, e, bind_s]
  by_cases c5 : x = 5
  · subst c5
    by_cases z : A 0 0 = 0
    · have em : nI (A 0 0) - 1 = (-1 : Int32) := by rw [z]; decide +kernel
      have e1 : fD_sum_0_4 0 (-1) μ = some 0 := by
        unfold fD_sum_0_4
        simp only [lt_def]
        have : FU = 5999 + 1 := rfl
        rw [this]
        show bD_sum_0_4_4 0 (-1) μ _ 0 0 = _
        unfold bD_sum_0_4_4
        rw [if_pos (by decide +kernel)]
      have e2 : fM_summed 8 5 (-1) μ = some 0 := by
        unfold fM_summed
        simp only [lt_def]
        have : FU = 5999 + 1 := rfl
        rw [this]
        show bM_summed_6 8 5 (-1) μ _ 0 0 = _
        unfold bM_summed_6
        rw [if_pos (by decide +kernel)]
      refine ⟨0, ?_, ?_⟩
      · rw [if_neg c0, if_neg c1, if_neg c2, if_neg c3, if_neg c4, if_pos rfl, R.pl, em, e1, bind_s]
      · rw [if_neg c0, if_neg c1, if_neg c2, if_neg c3, if_neg c4, if_pos rfl, gd0, ix0, RR.pl, em, e2, bind_s]
    · have e : fM_summed 8 5 (nI (A 0 0 - 1)) μ = some (nI (sm (fun t => A 3 t) (A 0 0 - 1))) := sumM_ok (c := 8) (d := 5) (F := fun t => A 3 t) (by omega) (by omega) (by omega) (fun i hi => by
        have := RR.mi (p := i) (by omega)
        rw [show 8 + 5 * i = 4 + 5 * i + 4 by omega]; exact this)
      refine ⟨nI (sm (fun t => A 3 t) (A 0 0 - 1)), ?_, ?_⟩
      · rw [if_neg c0, if_neg c1, if_neg c2, if_neg c3, if_neg c4, if_pos rfl, R.pl, nI_sub1 (by omega), sumD_4 R O (k := A 0 0 - 1) (by omega), bind_s]
      · rw [if_neg c0, if_neg c1, if_neg c2, if_neg c3, if_neg c4, if_pos rfl, gd0, ix0, RR.pl, nI_sub1 (by omega), e, bind_s]
  refine ⟨-1, ?_, ?_⟩
  · rw [if_neg c0, if_neg c1, if_neg c2, if_neg c3, if_neg c4, if_neg c5]
  · rw [if_neg c0, if_neg c1, if_neg c2, if_neg c3, if_neg c4, if_neg c5]
theorem Inv_c {μ μ1 μ2 : Mem} {A' : Ab} {B' : Nat → Nat → Nat} (r : Rst N μ) (oD : Off sAd μ μ1) (R' : RepL μ1 0 A') (C' : Cache μ1 A') (oM : Off sAm μ1 μ2) (RR' : RepR (μ2 (5, 0, 1)) A' B') (O' : OkA A') (S' : SafeA A' (dA A')) (hA : A' 11 0 ≤ N + 60) : Inv (N + 60) μ2 :=
  ⟨⟨A', B', RepL_off oM (fun _ _ => rfl) R', RR', O', S', Cache_off oM (fun _ _ => rfl) C', hA⟩, Rst_mono (by omega) (Rst_off oM SK_Am (Rst_off oD SK_Ad r))⟩
theorem stp_let (hN : N < 2 ^ 18) (x : Int32) : StpB N (fD_let x) (fM_let x) := by
  rintro μ ⟨⟨A, B, h⟩, r⟩
  obtain ⟨R, RR, O, S, C, hA⟩ := id h
  have n0 : nI 0 = 0 := rfl
  have n1 : ¬ nI 1 = 0 := by decide +kernel
  have hn := O.n4
  by_cases c : ∃ p, p < A 4 0 ∧ x = nI p
  rotate_left
  · refine ⟨-1, μ, μ, ?_, ?_, Inv_n ⟨⟨A, B, h⟩, r⟩⟩
    · unfold fD_let
      rw [hasTrain_ok R O, if_neg c, bind_s, if_pos rfl]
    · unfold fM_let
      rw [isTrainM_ok RR O, if_neg c, bind_s, if_pos n0]
  obtain ⟨t, ht, rfl⟩ := c
  have d1 : fL_hasTrain 0 (nI t) μ = some 1 := by rw [hasTrain_ok R O, if_pos ⟨t, ht, rfl⟩]
  obtain ⟨m1, e1, o1, K1, L1⟩ := learn_ok R O C
  have R1 := RepL_off o1 (fun _ _ => rfl) R
  have ag := againstD_ok R1 O K1 L1 ht
  have al := agA_le A t
  by_cases z : agA A t = 0
  · have g := agA_0 z
    obtain ⟨m2, e2, o2, R2⟩ := depart_ok R1 O ht g.1
    have RR2 := RepR_off o2 (fun _ => rfl) (RepR_off o1 (fun _ => rfl) RR)
    have d2 : fM_isTrain (nI t) m2 = some (nI 1) := by rw [isTrainM_ok RR2 O, if_pos ⟨t, ht, rfl⟩]
    have p1 := postureNow_ok RR2 O
    obtain ⟨m3, nq, q, e3, o3, E3⟩ := explore_ok RR2 O (DOk_dA O)
    have RR3 := RepR_off o3 (fun _ => rfl) RR2
    obtain ⟨m4, e4, o4⟩ := againstM_ok RR3 O E3 (Rch_refl _) ht
    have RR4 := RepR_off o4 (fun _ => rfl) RR3
    obtain ⟨m5, e5, o5, RR5⟩ := goes_ok RR4 O ht g.1
    have O' := OkA_dep O (by omega) ht g.1
    have ht' : t < depA A t 4 0 := by rw [depA_o A t 4 (by omega)]; exact ht
    have e91 : depA A t 9 t = 1 := by rw [depA_9, upx_at]
    have S' : SafeA (depA A t) (dA (depA A t)) := by rw [dA_dep ht]; exact (Safe_st (depA_st A t)).mpr g.2.2
    have K2 : Known m2 (depA A t) := Known_st (depA_st A t) (dep_le ht) (Known_off o2 (fun j i => rfl) K1)
    have ov : fM_ofTrain (nI t) 5 m5 = some (nI (depA A t 10 t)) := by
      have := of5 RR5 O' ht'
      rw [e91, if_neg (by omega)] at this
      exact this
    rw [z] at ag e4
    refine ⟨nI (depA A t 10 t), m2, m5, ?_, ?_, Inv_c r (Off_trans (Off_mono o1 sAd_p) (Off_mono o2 sAd_l)) R2 K2.cache (Off_trans (Off_mono o3 sAm_ex) (Off_trans (Off_mono o4 sAm_sp) (Off_mono o5 sAm_st))) RR5 O' S' (by rw [depA_o A t 11 (by omega)]; omega)⟩
    · unfold fD_let
      rw [d1, bind_s, if_neg (show ¬ (1 : Int32) = 0 by decide +kernel), e1, bind_s, ag, bind_s, if_pos n0, e2, bind_s, gd_in (by omega) (by omega), ix_n (by omega), R2.wh ht' (by rw [e91]; omega)]
    · unfold fM_let
      rw [d2, bind_s, if_neg n1, p1, bind_s, e3, bind_s, e4, bind_s, if_pos n0, e5, bind_s, ov, bind_s]
  · have RR1 := RepR_off o1 (fun _ => rfl) RR
    have d2 : fM_isTrain (nI t) m1 = some (nI 1) := by rw [isTrainM_ok RR1 O, if_pos ⟨t, ht, rfl⟩]
    have p1 := postureNow_ok RR1 O
    obtain ⟨m3, nq, q, e3, o3, E3⟩ := explore_ok RR1 O (DOk_dA O)
    have RR3 := RepR_off o3 (fun _ => rfl) RR1
    obtain ⟨m4, e4, o4⟩ := againstM_ok RR3 O E3 (Rch_refl _) ht
    have nz : ¬ nI (agA A t) = (0 : Int32) := nI_nz0 (by omega) (by omega)
    refine ⟨-2, m1, m4, ?_, ?_, Inv_n (Inv_q h r o1 K1.cache (fun _ _ => rfl) (fun _ => rfl) SK_P (Off_trans o3 (Off_mono o4 sEx_sSp)) (fun _ _ => rfl) (fun _ _ => rfl) (fun i _ => by rw [o4 _ _ rfl, o3 _ _ rfl]) SK_Ex)⟩
    · unfold fD_let
      rw [d1, bind_s, if_neg (show ¬ (1 : Int32) = 0 by decide +kernel), e1, bind_s, ag, bind_s, if_neg nz]
    · unfold fM_let
      rw [d2, bind_s, if_neg n1, p1, bind_s, e3, bind_s, e4, bind_s, if_neg nz]
theorem stp_tick (hN : N < 2 ^ 18) (x : Int32) : StpB N (fD_tick x) (fM_tick x) := by
  rintro μ ⟨⟨A, B, h⟩, r⟩
  obtain ⟨R, RR, O, S, C, hA⟩ := id h
  have n0 : nI 0 = 0 := rfl
  have n1 : ¬ nI 1 = 0 := by decide +kernel
  have i1 : ∀ m, fM_in x.toInt64 (1 : Int64) (60 : Int64) m = some (if nI 1 ≤ x ∧ x ≤ nI 60 then nI 1 else nI 0) := fun m => inR x 1 60 rfl rfl m
  unfold fD_tick fM_tick
  rcases rgN x 1 60 (by omega) (by omega) with g | ⟨n, g1, g2, rfl⟩
  · refine ⟨-1, μ, μ, rg_no (l := 1) (h := 60) g _ _, ?_, Inv_n ⟨⟨A, B, h⟩, r⟩⟩
    rw [i1, if_neg g, bind_s, if_pos n0]
  have gx : nI 1 ≤ nI n ∧ nI n ≤ nI 60 := ⟨(nI_leI (by omega) (by omega)).mpr g1, (nI_leI (by omega) (by omega)).mpr g2⟩
  obtain ⟨m1, e1, o1, R1⟩ := passTime_ok R O (n := n) (by omega)
  have RR1 := RepR_off o1 (fun _ => rfl) RR
  obtain ⟨m2, e2, o2, RR2⟩ := goesOn_ok RR1 O (n := n) (by omega)
  have st := tick_st A n
  have dd := dA_tick A n
  refine ⟨nI (cnt (cameA A n) (A 4 0)), m1, m2, ?_, ?_, Inv_c r (Off_mono o1 sAd_l) R1 (Cache_st st (fun t => by rw [dd]; exact Nat.le_refl _) (Cache_off o1 (fun j i => rfl) C)) (Off_mono o2 sAm_st) RR2 (OkA_tick O (by omega)) (by rw [dd]; exact (Safe_st st).mpr S) (by show A 11 0 + n ≤ _; omega)⟩
  · have c1 : ¬ nI n < (1 : Int32) := Int32.not_lt.mpr gx.1
    have c2 : nI n ≤ (60 : Int32) := gx.2
    rw [if_neg c1, if_pos c2, e1, bind_s]
  · rw [i1, if_pos gx, bind_s, if_neg n1, e2, bind_s]
theorem sAd_LP (r : Rf) (i : Nat) (h : sAd r i = false) : sLP 0 r i = false := by
  have a := sAd_l r i h
  have b := sP_sLk r i (sAd_p r i h)
  simp only [sLP, a, b, Bool.or_false]
theorem sAm_ms (r : Rf) (i : Nat) (h : sAm r i = false) : sMs r i = false := by
  have a := sAm_st r i h
  have b := sAm_sp r i h
  simp only [sSt, sSp] at a b
  simp only [sMs, a, b, Bool.or_false]
theorem stp_send (hN : N < 2 ^ 18) (x : Int32) : StpB N (fD_send x) (fM_send x) := by
  rintro μ ⟨⟨A, B, h⟩, r⟩
  obtain ⟨R, RR, O, S, C, hA⟩ := id h
  have n0 : nI 0 = 0 := rfl
  have n1 : ¬ nI 1 = 0 := by decide +kernel
  have i1 : ∀ m, fM_in x.toInt64 (0 : Int64) (2 : Int64) m = some (if nI 0 ≤ x ∧ x ≤ nI 2 then nI 1 else nI 0) := fun m => inR x 0 2 rfl rfl m
  unfold fD_send fM_send
  rw [isRule_ok, bind_s]
  rcases rgN x 0 2 (by omega) (by omega) with g | ⟨ru, -, hr, rfl⟩
  · rw [if_neg g, if_pos n0]
    refine ⟨-1, μ, μ, rfl, ?_, Inv_n ⟨⟨A, B, h⟩, r⟩⟩
    rw [i1, if_neg g, bind_s, if_pos n0]
  have gr : nI 0 ≤ nI ru ∧ nI ru ≤ nI 2 := ⟨(nI_leI (by omega) (by omega)).mpr (by omega), (nI_leI (by omega) (by omega)).mpr hr⟩
  rw [if_pos gr, if_neg n1]
  obtain ⟨m1, e1, o1, K1, L1⟩ := learn_ok R O C
  have R1 := RepL_off o1 (fun _ _ => rfl) R
  obtain ⟨m2, M, e2, o2, sM2, R2, K2, L2⟩ := letAllGo_ok R1 O K1 L1 (by omega) (r := ru) (by omega)
  have RR2 := RepR_off o2 (fun _ => rfl) (RepR_off o1 (fun _ => rfl) RR)
  have p1 := postureNow_ok RR2 O
  obtain ⟨m3, nq, q, e3, o3, E3⟩ := explore_ok RR2 O (DOk_dA O)
  have RR3 := RepR_off o3 (fun _ => rfl) RR2
  obtain ⟨m4, M', e4, o4, sM4, RR4⟩ := sends_ok RR3 O E3 (Rch_refl _) (by omega) (r := ru) (by omega)
  have eM : M' = M := SndM_un sM4 sM2
  subst eM
  obtain ⟨O', d', rc', sf'⟩ := snd_ok O (by omega) sM2.1
  have st := (snd_4 (A := A) (r := ru) M').1
  refine ⟨nI M', m2, m4, ?_, ?_, Inv_c r (Off_trans (Off_mono o1 sAd_p) (Off_mono o2 sAd_LP)) R2 K2.cache (Off_trans (Off_mono o3 sAm_ex) (Off_mono o4 sAm_ms)) RR4 O' ((Safe_st st).mpr (sf' S)) (by rw [(snd_4 (A := A) (r := ru) M').2]; omega)⟩
  · rw [e1, bind_s, e2, bind_s]
  · rw [i1, if_pos gr, bind_s, if_neg n1, p1, bind_s, e3, bind_s, e4, bind_s]
theorem stp_add (x y z : Int32) : StpB N (fD_add x y z) (fM_add x y z) := by
  rintro μ ⟨⟨A, B, h⟩, r⟩
  obtain ⟨R, RR, O, S, C, hA⟩ := id h
  obtain ⟨m1, e1, o1, R1, C1⟩ := addD_ok R O C x y z
  have RR1 := RepR_off o1 (fun _ => rfl) RR
  obtain ⟨m2, e2, o2, RR2⟩ := addM_ok RR1 O x y z
  obtain ⟨O', S', E'⟩ := adN_ok O S x y z
  exact ⟨adV A x y z, m1, m2, e1, e2, Inv_c r o1 R1 C1 o2 RR2 O' S' (by rw [E'.1 11 (by omega)]; omega)⟩
theorem stp_drop (x : Int32) : StpB N (fD_drop x) (fM_drop x) := by
  rintro μ ⟨⟨A, B, h⟩, r⟩
  obtain ⟨R, RR, O, S, C, hA⟩ := id h
  have n0 : nI 0 = 0 := rfl
  by_cases c : ∃ p, p < A 4 0 ∧ x = nI p
  rotate_left
  · refine ⟨-1, μ, μ, ?_, ?_, Inv_n ⟨⟨A, B, h⟩, r⟩⟩
    · unfold fD_drop
      rw [hasTrain_ok R O, if_neg c, bind_s, if_pos rfl]
    · unfold fM_drop
      rw [isTrainM_ok RR O, if_neg c, bind_s, if_pos n0]
  obtain ⟨t, ht, rfl⟩ := c
  obtain ⟨m1, e1, o1, R1, C1⟩ := dropD_ok R O C ht
  have RR1 := RepR_off o1 (fun _ => rfl) RR
  obtain ⟨m2, e2, o2, RR2⟩ := dropM_ok RR1 O ht
  have O' : OkA (if A 9 t = 1 then A else drpA A t) := by
    split
    · exact O
    · exact OkA_drp O ht
  have S' : SafeA (if A 9 t = 1 then A else drpA A t) (dA (if A 9 t = 1 then A else drpA A t)) := by
    split
    · exact S
    · exact Safe_drp ht S
  have hA' : (if A 9 t = 1 then A else drpA A t) 11 0 ≤ N + 60 := by
    split
    · omega
    · rw [drpA_o A t (by omega)]; omega
  exact ⟨_, m1, m2, e1, e2, Inv_c r o1 R1 C1 (Off_mono o2 sAm_st) RR2 O' S' hA'⟩
theorem stp_feed (x : Int32) : StpB N (fD_feed x) (fM_feed x) := by
  rintro μ ⟨⟨A, B, h⟩, r⟩
  obtain ⟨R, RR, O, S, C, hA⟩ := id h
  obtain ⟨⟨T, n, tc, tm⟩, fl, im, sh, tr⟩ := id r
  have h160 := tc.1
  have n0 : nI 0 = 0 := rfl
  have n1 : ¬ nI 1 = 0 := by decide +kernel
  have i1 : ∀ m, fM_in x.toInt64 (0 : Int64) (127 : Int64) m = some (if nI 0 ≤ x ∧ x ≤ nI 127 then nI 1 else nI 0) := fun m => inR x 0 127 rfl rfl m
  unfold fD_feed fM_feed
  rcases rgN x 0 127 (by omega) (by omega) with g | ⟨c, -, hc, rfl⟩
  · refine ⟨-1, μ, μ, rg_no (l := 0) (h := 127) g _ _, ?_, Inv_n ⟨⟨A, B, h⟩, r⟩⟩
    rw [i1, if_neg g, bind_s, if_pos n0]
  have gx : nI 0 ≤ nI c ∧ nI c ≤ nI 127 := ⟨(nI_leI (by omega) (by omega)).mpr (by omega), (nI_leI (by omega) (by omega)).mpr hc⟩
  have c1 : ¬ nI c < (0 : Int32) := nI_pos (by omega)
  have c2 : nI c ≤ (127 : Int32) := gx.2
  rw [if_neg c1, if_pos c2, tc.2.1]
  by_cases z : n = 160
  · subst z
    refine ⟨-3, μ, μ, ?_, ?_, Inv_n ⟨⟨A, B, h⟩, r⟩⟩
    · rw [if_neg (by decide +kernel)]
    · rw [i1, if_pos gx, bind_s, if_neg n1, tm.2.1, if_pos (show nI 160 = (160 : Int32) from rfl)]
  have l1 : nI n < (160 : Int32) := (nI_ltI (b := 160) (by omega) (by omega)).mpr (by omega)
  have l2 : ¬ nI n = (160 : Int32) := fun w => z ((nI_eq (b := 160) (by omega) (by omega)).mp w)
  have nb : vp_nar .byte (nI c).toInt8.toInt32 = nI c := by
    have key : ∀ c : Nat, c < 128 → vp_nar .byte (nI c).toInt8.toInt32 = nI c := by decide +kernel
    exact key c (by omega)
  rw [if_pos l1, gd_in (by omega) (by omega), ix_n (by omega), nb, lt_def]
  generalize e1 : wr μ (2, 0, 1) n (nI c) = m1
  have a1 : m1 (2, 0, 0) 1 = nI n := by rw [← e1, wr_off _ _ (by simp)]; exact tc.2.1
  rw [a1, nI_s1, lt_def]
  generalize e2 : wr m1 (2, 0, 0) 1 (nI (n + 1)) = m2
  have oD : Off (fun r i => r == (2, 0, 1) || (r == (2, 0, 0) && i == 1)) μ m2 := by
    rw [← e2, ← e1]; exact Off_wr (Off_wr (Off_refl _ _) rfl) rfl
  have b1 : m2 (2, 0, 0) 1 = nI (n + 1) := by rw [← e2, wr_at]
  have bt : ∀ i, m2 (2, 0, 1) i = if i = n then nI c else μ (2, 0, 1) i := fun i => by
    rw [← e2, wr_off _ _ (by simp), ← e1, wr_get]
    simp
  have t6 : m2 (5, 0, 0) 6 = nI n := (oD _ _ rfl).trans tm.2.1
  refine ⟨nI (n + 1), m2, wr (wr m2 (5, 0, 6) n (nI c)) (5, 0, 0) 6 (nI (n + 1)), by rw [b1], ?_, ?_⟩
  · have w6 : wr m2 (5, 0, 6) n (nI c) (5, 0, 0) 6 = nI n := by rw [wr_off _ _ (by simp)]; exact t6
    rw [i1, if_pos gx, bind_s, if_neg n1, t6, if_neg l2, gd_in (by omega) (by omega), ix_n (by omega), lt_def, w6, nI_s1, lt_def, wr_at]
  · generalize e3 : wr (wr m2 (5, 0, 6) n (nI c)) (5, 0, 0) 6 (nI (n + 1)) = m3
    have oM : Off (fun r i => r == (5, 0, 6) || (r == (5, 0, 0) && i == 6)) m2 m3 := by
      rw [← e3]; exact Off_wr (Off_wr (Off_refl _ _) rfl) rfl
    have m6 : m3 (5, 0, 0) 6 = nI (n + 1) := by rw [← e3, wr_at]
    have mt : ∀ i, m3 (5, 0, 6) i = if i = n then nI c else μ (5, 0, 6) i := fun i => by
      rw [← e3, wr_off _ _ (by simp), wr_get]
      by_cases e : i = n
      · rw [if_pos ⟨rfl, e⟩, if_pos e]
      · rw [if_neg (fun z => e z.2), if_neg e]; exact oD _ _ rfl
    refine Inv_n ⟨⟨A, B, RepL_off oM (fun _ _ => rfl) (RepL_off oD (fun _ _ => rfl) R), RepR_off oM (fun _ => rfl) (RepR_off oD (fun _ => rfl) RR), O, S, Cache_off oM (fun _ _ => rfl) (Cache_off oD (fun _ _ => rfl) C), hA⟩, ⟨upx T n c, n + 1, ⟨by omega, (oM _ _ rfl).trans b1, fun i hi => ?_⟩, ⟨by omega, m6, fun i hi => ?_⟩⟩, ?_, fun k hk => ImgK_off oM (fun _ => rfl) (fun _ => rfl) (fun _ _ _ _ => rfl) (fun _ => rfl) (ImgK_off oD (fun _ => rfl) (fun _ => rfl) (fun _ _ _ _ => rfl) (fun _ => rfl) (im k hk)), fun k hk => ShtK_off oM (fun _ _ _ => rfl) (fun _ => rfl) (fun _ => rfl) (fun _ => rfl) (ShtK_off oD (fun _ _ _ => rfl) (fun _ => rfl) (fun _ => rfl) (fun _ => rfl) (sh k hk)), ?_⟩
    · rw [oM _ _ rfl, bt]
      by_cases e : i = n
      · rw [if_pos e, e, upx_at]; exact ⟨rfl, hc⟩
      · rw [if_neg e, upx_ne _ e]; exact tc.2.2 i (by omega)
    · rw [mt]
      by_cases e : i = n
      · rw [if_pos e, e, upx_at]; exact ⟨rfl, hc⟩
      · rw [if_neg e, upx_ne _ e]; exact tm.2.2 i (by omega)
    · unfold Flt at *
      rw [oM _ _ rfl, oD _ _ rfl, oM _ _ rfl, oD _ _ rfl]; exact fl
    · unfold Trn at *
      rw [oM _ _ rfl, oD _ _ rfl, oM _ _ rfl, oD _ _ rfl]; exact tr
theorem stp_end (x : Int32) : StpB N (fD_end x) (fM_end x) := by
  rintro μ ⟨⟨A, B, h⟩, r⟩
  obtain ⟨R, RR, O, S, C, hA⟩ := id h
  obtain ⟨⟨T, n, tc, tm⟩, fl, im, sh, tr⟩ := id r
  have h160 := tc.1
  have n0 : nI 0 = 0 := rfl
  have n1 : ¬ nI 1 = 0 := by decide +kernel
  have i1 : ∀ m, fM_in x.toInt64 (0 : Int64) ((nI n).toInt64) m = some (if nI 0 ≤ x ∧ x ≤ nI n then nI 1 else nI 0) := fun m => inR x 0 n rfl rfl m
  unfold fD_end fM_end
  rw [tc.2.1]
  rcases rgN x 0 n (by omega) (by omega) with g | ⟨c, -, hc, rfl⟩
  · refine ⟨-1, μ, μ, rg_no (l := 0) (h := nI n) g _ _, ?_, Inv_n ⟨⟨A, B, h⟩, r⟩⟩
    rw [tm.2.1, i1, if_neg g, bind_s, if_pos n0]
  have gx : nI 0 ≤ nI c ∧ nI c ≤ nI n := ⟨(nI_leI (by omega) (by omega)).mpr (by omega), (nI_leI (by omega) (by omega)).mpr hc⟩
  have c1 : ¬ nI c < (0 : Int32) := nI_pos (by omega)
  rw [if_neg c1, if_pos gx.2, lt_def, lt_def]
  have oD : Off (fun r i => r == (2, 0, 0) && i == 1) μ (wr μ (2, 0, 0) 1 (nI c)) := Off_wr (Off_refl _ _) rfl
  generalize e1 : wr μ (2, 0, 0) 1 (nI c) = m1 at oD
  have b1 : m1 (2, 0, 0) 1 = nI c := by rw [← e1, wr_at]
  have t6 : m1 (5, 0, 0) 6 = nI n := (oD _ _ rfl).trans tm.2.1
  refine ⟨nI n, m1, wr m1 (5, 0, 0) 6 (nI c), rfl, ?_, ?_⟩
  · rw [t6, i1, if_pos gx, bind_s, if_neg n1, lt_def, lt_def]
  · have oM : Off (fun r i => r == (5, 0, 0) && i == 6) m1 (wr m1 (5, 0, 0) 6 (nI c)) := Off_wr (Off_refl _ _) rfl
    generalize e2 : wr m1 (5, 0, 0) 6 (nI c) = m2 at oM
    have b2 : m2 (5, 0, 0) 6 = nI c := by rw [← e2, wr_at]
    refine Inv_n ⟨⟨A, B, RepL_off oM (fun _ _ => rfl) (RepL_off oD (fun _ _ => rfl) R), RepR_off oM (fun _ => rfl) (RepR_off oD (fun _ => rfl) RR), O, S, Cache_off oM (fun _ _ => rfl) (Cache_off oD (fun _ _ => rfl) C), hA⟩, ⟨T, c, ⟨by omega, (oM _ _ rfl).trans b1, fun i hi => ?_⟩, ⟨by omega, b2, fun i hi => ?_⟩⟩, ?_, fun k hk => ImgK_off oM (fun _ => rfl) (fun _ => rfl) (fun _ _ _ _ => rfl) (fun _ => rfl) (ImgK_off oD (fun _ => rfl) (fun _ => rfl) (fun _ _ _ _ => rfl) (fun _ => rfl) (im k hk)), fun k hk => ShtK_off oM (fun _ _ _ => rfl) (fun _ => rfl) (fun _ => rfl) (fun _ => rfl) (ShtK_off oD (fun _ _ _ => rfl) (fun _ => rfl) (fun _ => rfl) (fun _ => rfl) (sh k hk)), ?_⟩
    · rw [oM _ _ rfl, oD _ _ rfl]; exact tc.2.2 i (by omega)
    · rw [oM _ _ rfl, oD _ _ rfl]; exact tm.2.2 i (by omega)
    · unfold Flt at *
      rw [oM _ _ rfl, oD _ _ rfl, oM _ _ rfl, oD _ _ rfl]; exact fl
    · unfold Trn at *
      rw [oM _ _ rfl, oD _ _ rfl, oM _ _ rfl, oD _ _ rfl]; exact tr
end Calls
