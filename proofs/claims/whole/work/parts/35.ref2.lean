section Ref2
variable {μ : Mem} {A : Ab} {B : Nat → Nat → Nat}
theorem nextFrom_ok (R : RepR (μ (5, 0, 1)) A B) (O : OkA A) {t d : Nat} (ht : t < A 4 0) (hd : d ≤ distA A t) (h1 : 1 ≤ d) : fM_nextFrom (nI t) (nI (spotA A t d)) μ = some (nI (spotA A t (d - 1))) := by
  have h6 := O.p6
  obtain ⟨q1, q2, q3, -⟩ := O.tr ht
  have hl := spotA_lt O ht hd
  unfold fM_nextFrom
  unfold distA at hd
  simp (disch := omega) only [lit_0, lit_1, lit_2, lit_3, lit_4, lit_5, lit_6, lit_7, lit_8, lit_9, lit_10, lit_11, lit_12, lit_13, lit_14, lit_15, lit_16, lit_17, lit_18, lit_19, lit_20, lit_23, lit_24, lit_31, lit_32, lit_34, lit_36, lit_40, lit_48, lit_49, lit_57, lit_58, lit_59, lit_60, lit_64, lit_96, lit_97, lit_99, lit_101, lit_105, lit_108, lit_110, lit_111, lit_112, lit_114, lit_115, lit_116, lit_122, lit_127, lit_160, lit_216, lit_235, lit_238, lit_343, lit_476, lit_1296, lit_2000, lit_2401, lt_def, bind_s, gd_d, ix_n, inb_n, nI_add, pk_mul, pk_sub, nI_leI, nI_ltI, nI_eq, nI_ltn, nI_eqn, nI_eqn2, if_pos, if_neg, if_true, if_false, nI_addm1, of1 R O ht, of0 R O ht]
  by_cases z : A 6 t ≤ A 5 t
  · simp only [spotA, if_pos z] at *
    simp (disch := omega) only [lit_0, lit_1, lit_2, lit_3, lit_4, lit_5, lit_6, lit_7, lit_8, lit_9, lit_10, lit_11, lit_12, lit_13, lit_14, lit_15, lit_16, lit_17, lit_18, lit_19, lit_20, lit_23, lit_24, lit_31, lit_32, lit_34, lit_36, lit_40, lit_48, lit_49, lit_57, lit_58, lit_59, lit_60, lit_64, lit_96, lit_97, lit_99, lit_101, lit_105, lit_108, lit_110, lit_111, lit_112, lit_114, lit_115, lit_116, lit_122, lit_127, lit_160, lit_216, lit_235, lit_238, lit_343, lit_476, lit_1296, lit_2000, lit_2401, lt_def, bind_s, gd_d, ix_n, inb_n, nI_add, pk_mul, pk_sub, nI_leI, nI_ltI, nI_eq, nI_ltn, nI_eqn, nI_eqn2, if_pos, if_neg, if_true, if_false, nI_addm1]
    congr 2; omega
  · simp only [spotA, if_neg z] at *
    congr 2; omega
theorem minutesOf_ok (R : RepR (μ (5, 0, 1)) A B) (O : OkA A) {t d : Nat} (ht : t < A 4 0) (hd : d ≤ distA A t) (h1 : 1 ≤ d) : fM_minutesOf (nI (spotA A t d)) (nI (spotA A t (d - 1))) μ = some (nI (A 3 (secA A t d))) := by
  have h6 := O.p6
  obtain ⟨q1, q2, q3, -⟩ := O.tr ht
  have hl := spotA_lt O ht hd
  have hl1 := spotA_lt O ht (d := d - 1) (by omega)
  have hl2 := secA_lt O ht hd h1
  unfold fM_minutesOf
  have e : (if nI (spotA A t (d - 1)) ≤ nI (spotA A t d) then nI (spotA A t (d - 1)) else nI (spotA A t d)) = nI (secA A t d) := by
    rw [if_le (by omega) (by omega)]
    unfold distA at hd
    by_cases z : A 6 t ≤ A 5 t
    · simp only [spotA, secA, if_pos z] at *
      rw [if_pos (by omega)]; congr 1; omega
    · simp only [spotA, secA, if_neg z] at *
      rw [if_neg (by omega)]
  rw [e]
  simp (disch := omega) only [lit_0, lit_1, lit_2, lit_3, lit_4, lit_5, lit_6, lit_7, lit_8, lit_9, lit_10, lit_11, lit_12, lit_13, lit_14, lit_15, lit_16, lit_17, lit_18, lit_19, lit_20, lit_23, lit_24, lit_31, lit_32, lit_34, lit_36, lit_40, lit_48, lit_49, lit_57, lit_58, lit_59, lit_60, lit_64, lit_96, lit_97, lit_99, lit_101, lit_105, lit_108, lit_110, lit_111, lit_112, lit_114, lit_115, lit_116, lit_122, lit_127, lit_160, lit_216, lit_235, lit_238, lit_343, lit_476, lit_1296, lit_2000, lit_2401, lt_def, bind_s, gd_d, ix_n, inb_n, nI_add, pk_mul, pk_sub, nI_leI, nI_ltI, nI_eq, nI_ltn, nI_eqn, nI_eqn2, if_pos, if_neg, if_true, if_false, nI_addm1, op4 R O (show secA A t d < A 0 0 by omega)]
theorem minA_s (A : Ab) (t d : Nat) : minA A t (d + 1) = minA A t d + A 3 (secA A t (d + 1)) := rfl
theorem minA_le (O : OkA A) {t : Nat} (ht : t < A 4 0) : ∀ {d : Nat}, d ≤ distA A t → minA A t d ≤ 9 * d
  | 0, _ => by simp [minA, sm]
  | d + 1, h => by
    have h1 := minA_le O ht (d := d) (by omega)
    have h2 := secA_lt O ht h (by omega)
    have h3 := (O.pc (p := secA A t (d + 1)) (by omega)).2.2.2.1
    rw [minA_s]
    omega
theorem minutesStill_ok (R : RepR (μ (5, 0, 1)) A B) (O : OkA A) {t : Nat} (ht : t < A 4 0) : fM_minutesStill (nI t) μ = some (nI (minA A t (A 8 t))) := by
  have hn := O.n4
  have h6 := O.p6
  have h := O.tr ht
  have h5 := dist_le O ht
  unfold fM_minutesStill
  simp only [lt_def, lit_0, lit_3, of3 R O ht, bind_s]
  refine lz30_m (fun r => r = some (nI (minA A t (A 8 t)))) (fun a b c => ∃ d x, d ≤ A 8 t ∧ a = nI x ∧ b = nI (spotA A t d) ∧ c = nI (A 8 t - d) ∧ x + minA A t d = minA A t (A 8 t)) (fun _ _ c => 6 - ix c) ?_ FU _ _ _ ⟨A 8 t, 0, Nat.le_refl _, rfl, rfl, by rw [Nat.sub_self], by omega⟩ (by show 6 - _ < _; exact FU_gt (by omega))
  rintro sf a b c ⟨d, x, hd, rfl, rfl, rfl, hx⟩
  have hs := spot_at0 O ht (d := d) (by omega)
  have hl := spotA_lt O ht (d := d) (by omega)
  unfold bM_minutesStill_12
  simp (disch := omega) only [lit_0, lit_1, lit_2, lit_3, lit_4, lit_5, lit_6, lit_7, lit_8, lit_9, lit_10, lit_11, lit_12, lit_13, lit_14, lit_15, lit_16, lit_17, lit_18, lit_19, lit_20, lit_23, lit_24, lit_31, lit_32, lit_34, lit_36, lit_40, lit_48, lit_49, lit_57, lit_58, lit_59, lit_60, lit_64, lit_96, lit_97, lit_99, lit_101, lit_105, lit_108, lit_110, lit_111, lit_112, lit_114, lit_115, lit_116, lit_122, lit_127, lit_160, lit_216, lit_235, lit_238, lit_343, lit_476, lit_1296, lit_2000, lit_2401, lt_def, bind_s, gd_d, ix_n, inb_n, nI_add, pk_mul, pk_sub, nI_leI, nI_ltI, nI_eq, nI_ltn, nI_eqn, nI_eqn2, if_pos, if_neg, if_true, if_false, nI_addm1, of4 R O ht, of1 R O ht, hs]
  by_cases h0 : d = 0
  · right
    subst h0
    have : x = minA A t (A 8 t) := by simpa [minA, sm] using hx
    rw [this]
    by_cases z : A 9 t = 2
    · simp (disch := omega) only [if_pos]
    · simp only [if_neg z, if_true]
  · left
    have e9 : A 9 t ≠ 2 := fun z => by have := h.2.2.2.2.2.2.2.2.2.1 z; omega
    obtain ⟨e, rfl⟩ : ∃ e, d = e + 1 := ⟨d - 1, by omega⟩
    have e1 := nextFrom_ok R O ht (d := e + 1) (by omega) (by omega)
    have e2 := minutesOf_ok R O ht (d := e + 1) (by omega) (by omega)
    rw [Nat.add_sub_cancel] at e1 e2
    simp (disch := omega) only [lit_0, lit_1, lit_2, lit_3, lit_4, lit_5, lit_6, lit_7, lit_8, lit_9, lit_10, lit_11, lit_12, lit_13, lit_14, lit_15, lit_16, lit_17, lit_18, lit_19, lit_20, lit_23, lit_24, lit_31, lit_32, lit_34, lit_36, lit_40, lit_48, lit_49, lit_57, lit_58, lit_59, lit_60, lit_64, lit_96, lit_97, lit_99, lit_101, lit_105, lit_108, lit_110, lit_111, lit_112, lit_114, lit_115, lit_116, lit_122, lit_127, lit_160, lit_216, lit_235, lit_238, lit_343, lit_476, lit_1296, lit_2000, lit_2401, lt_def, bind_s, gd_d, ix_n, inb_n, nI_add, pk_mul, pk_sub, nI_leI, nI_ltI, nI_eq, nI_ltn, nI_eqn, nI_eqn2, if_pos, if_neg, if_true, if_false, nI_addm1, e1, e2]
    refine ⟨_, _, _, ⟨e, x + A 3 (secA A t (e + 1)), by omega, rfl, rfl, ?_, ?_⟩, ?_, rfl⟩
    · congr 1; omega
    · rw [← hx, minA_s]; omega
    · rw [ix_n (by omega)]; omega
theorem leftBy_ok (R : RepR (μ (5, 0, 1)) A B) (O : OkA A) {t : Nat} (ht : t < A 4 0) (h1 : A 8 t + 1 ≤ distA A t) : fM_leftBy (nI t) μ = some (nI (spotA A t (A 8 t + 1))) := by
  have h6 := O.p6
  obtain ⟨q1, q2, q3, -⟩ := O.tr ht
  unfold fM_leftBy
  unfold distA at h1
  simp (disch := omega) only [lit_0, lit_1, lit_2, lit_3, lit_4, lit_5, lit_6, lit_7, lit_8, lit_9, lit_10, lit_11, lit_12, lit_13, lit_14, lit_15, lit_16, lit_17, lit_18, lit_19, lit_20, lit_23, lit_24, lit_31, lit_32, lit_34, lit_36, lit_40, lit_48, lit_49, lit_57, lit_58, lit_59, lit_60, lit_64, lit_96, lit_97, lit_99, lit_101, lit_105, lit_108, lit_110, lit_111, lit_112, lit_114, lit_115, lit_116, lit_122, lit_127, lit_160, lit_216, lit_235, lit_238, lit_343, lit_476, lit_1296, lit_2000, lit_2401, lt_def, bind_s, gd_d, ix_n, inb_n, nI_add, pk_mul, pk_sub, nI_leI, nI_ltI, nI_eq, nI_ltn, nI_eqn, nI_eqn2, if_pos, if_neg, if_true, if_false, nI_addm1, of1 R O ht, of0 R O ht, of3 R O ht]
  by_cases z : A 6 t ≤ A 5 t
  · simp only [spotA, if_pos z] at *
    rfl
  · simp only [spotA, if_neg z] at *
    simp (disch := omega) only [lit_0, lit_1, lit_2, lit_3, lit_4, lit_5, lit_6, lit_7, lit_8, lit_9, lit_10, lit_11, lit_12, lit_13, lit_14, lit_15, lit_16, lit_17, lit_18, lit_19, lit_20, lit_23, lit_24, lit_31, lit_32, lit_34, lit_36, lit_40, lit_48, lit_49, lit_57, lit_58, lit_59, lit_60, lit_64, lit_96, lit_97, lit_99, lit_101, lit_105, lit_108, lit_110, lit_111, lit_112, lit_114, lit_115, lit_116, lit_122, lit_127, lit_160, lit_216, lit_235, lit_238, lit_343, lit_476, lit_1296, lit_2000, lit_2401, lt_def, bind_s, gd_d, ix_n, inb_n, nI_add, pk_mul, pk_sub, nI_leI, nI_ltI, nI_eq, nI_ltn, nI_eqn, nI_eqn2, if_pos, if_neg, if_true, if_false, nI_addm1]
    congr 2
theorem runs_iff (O : OkA A) {t u d : Nat} (ht : t < A 4 0) (hu : u < A 4 0) (hd : d ≤ distA A t) (h1 : 1 ≤ d) (hr : A 8 u + 1 ≤ distA A u) : ((spotA A u (A 8 u + 1) = spotA A t d ∧ spotA A u (A 8 u) = spotA A t (d - 1)) ∨ (spotA A u (A 8 u + 1) = spotA A t (d - 1) ∧ spotA A u (A 8 u) = spotA A t d)) ↔ secA A u (A 8 u + 1) = secA A t d := by
  obtain ⟨q1, q2, q3, -⟩ := O.tr ht
  obtain ⟨p1, p2, p3, -⟩ := O.tr hu
  unfold distA at hd hr
  by_cases z : A 6 t ≤ A 5 t
  · by_cases w : A 6 u ≤ A 5 u
    · simp only [spotA, secA, if_pos z, if_pos w] at *; omega
    · simp only [spotA, secA, if_pos z, if_neg w] at *; omega
  · by_cases w : A 6 u ≤ A 5 u
    · simp only [spotA, secA, if_neg z, if_pos w] at *; omega
    · simp only [spotA, secA, if_neg z, if_neg w] at *; omega
theorem runsBetween_ok (R : RepR (μ (5, 0, 1)) A B) (O : OkA A) {t d : Nat} (ht : t < A 4 0) (hd : d ≤ distA A t) (h1 : 1 ≤ d) : fM_runsBetween (nI (spotA A t d)) (nI (spotA A t (d - 1))) μ = some (if fst (runA A (secA A t d)) (A 4 0) 0 < A 4 0 then nI (fst (runA A (secA A t d)) (A 4 0) 0) else -4) := by
  have hn := O.n4
  have h6 := O.p6
  have hl := spotA_lt O ht hd
  have hl1 := spotA_lt O ht (d := d - 1) (by omega)
  refine up10 (fun r => r = some (if fst (runA A (secA A t d)) (A 4 0) 0 < A 4 0 then nI (fst (runA A (secA A t d)) (A 4 0) 0) else -4)) (A 4 0) (by omega) (fun i => ∀ j, j < i → runA A (secA A t d) j = false) (fun j hj => absurd hj (by omega)) (fun sf i hi hJ => ?_) (fun sf hJ => ?_) <;> unfold bM_runsBetween_2
  · have h := O.tr hi
    simp (disch := omega) only [lit_0, lit_1, lit_2, lit_3, lit_4, lit_5, lit_6, lit_7, lit_8, lit_9, lit_10, lit_11, lit_12, lit_13, lit_14, lit_15, lit_16, lit_17, lit_18, lit_19, lit_20, lit_23, lit_24, lit_31, lit_32, lit_34, lit_36, lit_40, lit_48, lit_49, lit_57, lit_58, lit_59, lit_60, lit_64, lit_96, lit_97, lit_99, lit_101, lit_105, lit_108, lit_110, lit_111, lit_112, lit_114, lit_115, lit_116, lit_122, lit_127, lit_160, lit_216, lit_235, lit_238, lit_343, lit_476, lit_1296, lit_2000, lit_2401, lt_def, bind_s, gd_d, ix_n, inb_n, nI_add, pk_mul, pk_sub, nI_leI, nI_ltI, nI_eq, nI_ltn, nI_eqn, nI_eqn2, if_pos, if_neg, if_true, if_false, nI_addm1, R.n, of4 R O hi]
    by_cases e1 : A 9 i = 1
    · have hr := h.2.2.2.2.2.2.2.2.1 e1
      have hf := runs_iff O ht hi hd h1 hr
      have k1 := spotA_lt O hi hr
      have k2 := spotA_lt O hi (d := A 8 i) (by omega)
      simp (disch := omega) only [lit_0, lit_1, lit_2, lit_3, lit_4, lit_5, lit_6, lit_7, lit_8, lit_9, lit_10, lit_11, lit_12, lit_13, lit_14, lit_15, lit_16, lit_17, lit_18, lit_19, lit_20, lit_23, lit_24, lit_31, lit_32, lit_34, lit_36, lit_40, lit_48, lit_49, lit_57, lit_58, lit_59, lit_60, lit_64, lit_96, lit_97, lit_99, lit_101, lit_105, lit_108, lit_110, lit_111, lit_112, lit_114, lit_115, lit_116, lit_122, lit_127, lit_160, lit_216, lit_235, lit_238, lit_343, lit_476, lit_1296, lit_2000, lit_2401, lt_def, bind_s, gd_d, ix_n, inb_n, nI_add, pk_mul, pk_sub, nI_leI, nI_ltI, nI_eq, nI_ltn, nI_eqn, nI_eqn2, if_pos, if_neg, if_true, if_false, nI_addm1, leftBy_ok R O hi hr, of3 R O hi, jM_runsBetween_45]
      by_cases e2 : secA A i (A 8 i + 1) = secA A t d
      · right
        have hp : runA A (secA A t d) i = true := by simp [runA, e1, e2]
        rw [fst_eq hi hJ hp, if_pos hi]
        rcases hf.mpr e2 with ⟨a, b⟩ | ⟨a, b⟩
        · simp only [if_pos a, if_pos b]
        · by_cases a2 : spotA A i (A 8 i + 1) = spotA A t d
          · by_cases b2 : spotA A i (A 8 i) = spotA A t (d - 1)
            · simp only [if_pos a2, if_pos b2]
            · omega
          · simp only [if_neg a2, if_pos a, if_pos b]
      · left
        have hp : runA A (secA A t d) i = false := by simp [runA, e2]
        refine ⟨fun j hj => ?_, ?_⟩
        · by_cases hj2 : j = i
          · subst hj2; exact hp
          · exact hJ j (by omega)
        · have g := fun z => e2 (hf.mp z)
          by_cases a2 : spotA A i (A 8 i + 1) = spotA A t d
          · by_cases b2 : spotA A i (A 8 i) = spotA A t (d - 1)
            · exact absurd (Or.inl ⟨a2, b2⟩) g
            · simp only [if_pos a2, if_neg b2]
              by_cases a : spotA A i (A 8 i + 1) = spotA A t (d - 1)
              · by_cases b : spotA A i (A 8 i) = spotA A t d
                · exact absurd (Or.inr ⟨a, b⟩) g
                · simp only [if_pos a, if_neg b]
              · simp only [if_neg a]
          · simp only [if_neg a2]
            by_cases a : spotA A i (A 8 i + 1) = spotA A t (d - 1)
            · by_cases b : spotA A i (A 8 i) = spotA A t d
              · exact absurd (Or.inr ⟨a, b⟩) g
              · simp only [if_pos a, if_neg b]
            · simp only [if_neg a]
    · left
      have hp : runA A (secA A t d) i = false := by simp [runA, e1]
      refine ⟨fun j hj => ?_, ?_⟩
      · by_cases hj2 : j = i
        · subst hj2; exact hp
        · exact hJ j (by omega)
      · rw [if_neg e1]
  · simp (disch := omega) only [lit_0, lit_1, lit_2, lit_3, lit_4, lit_5, lit_6, lit_7, lit_8, lit_9, lit_10, lit_11, lit_12, lit_13, lit_14, lit_15, lit_16, lit_17, lit_18, lit_19, lit_20, lit_23, lit_24, lit_31, lit_32, lit_34, lit_36, lit_40, lit_48, lit_49, lit_57, lit_58, lit_59, lit_60, lit_64, lit_96, lit_97, lit_99, lit_101, lit_105, lit_108, lit_110, lit_111, lit_112, lit_114, lit_115, lit_116, lit_122, lit_127, lit_160, lit_216, lit_235, lit_238, lit_343, lit_476, lit_1296, lit_2000, lit_2401, lt_def, bind_s, gd_d, ix_n, inb_n, nI_add, pk_mul, pk_sub, nI_leI, nI_ltI, nI_eq, nI_ltn, nI_eqn, nI_eqn2, if_pos, if_neg, if_true, if_false, nI_addm1, R.n]
    rw [fst_none hJ, if_neg (Nat.lt_irrefl _)]
theorem trainsAt_ok (R : RepR (μ (5, 0, 1)) A B) (O : OkA A) {p : Nat} (hp : p < A 0 0) : fM_trainsAt (nI p) μ = some (nI (cnt (atA A p) (A 4 0))) := by
  have hn := O.n4
  have h6 := O.p6
  refine ac20 (A 4 0) (by omega) (fun i => nI (cnt (atA A p) i)) (fun sf i hi => ?_) (fun sf => ?_) <;> unfold bM_trainsAt_4
  · have hd := (O.tr hi).2.2.2.2.2.1
    have hs := spotA_lt O hi hd
    simp (disch := omega) only [lit_0, lit_1, lit_2, lit_3, lit_4, lit_5, lit_6, lit_7, lit_8, lit_9, lit_10, lit_11, lit_12, lit_13, lit_14, lit_15, lit_16, lit_17, lit_18, lit_19, lit_20, lit_23, lit_24, lit_31, lit_32, lit_34, lit_36, lit_40, lit_48, lit_49, lit_57, lit_58, lit_59, lit_60, lit_64, lit_96, lit_97, lit_99, lit_101, lit_105, lit_108, lit_110, lit_111, lit_112, lit_114, lit_115, lit_116, lit_122, lit_127, lit_160, lit_216, lit_235, lit_238, lit_343, lit_476, lit_1296, lit_2000, lit_2401, lt_def, bind_s, gd_d, ix_n, inb_n, nI_add, pk_mul, pk_sub, nI_leI, nI_ltI, nI_eq, nI_ltn, nI_eqn, nI_eqn2, if_pos, if_neg, if_true, if_false, nI_addm1, R.n, isDoneIn_ok R O hi, of3 R O hi, jM_trainsAt_38, flag_0, flag_1, cnt_s]
    by_cases h : A 8 i = 0
    · have : atA A p i = false := by simp [atA]; omega
      simp (disch := omega) only [lit_0, lit_1, lit_2, lit_3, lit_4, lit_5, lit_6, lit_7, lit_8, lit_9, lit_10, lit_11, lit_12, lit_13, lit_14, lit_15, lit_16, lit_17, lit_18, lit_19, lit_20, lit_23, lit_24, lit_31, lit_32, lit_34, lit_36, lit_40, lit_48, lit_49, lit_57, lit_58, lit_59, lit_60, lit_64, lit_96, lit_97, lit_99, lit_101, lit_105, lit_108, lit_110, lit_111, lit_112, lit_114, lit_115, lit_116, lit_122, lit_127, lit_160, lit_216, lit_235, lit_238, lit_343, lit_476, lit_1296, lit_2000, lit_2401, lt_def, bind_s, gd_d, ix_n, inb_n, nI_add, pk_mul, pk_sub, nI_leI, nI_ltI, nI_eq, nI_ltn, nI_eqn, nI_eqn2, if_pos, if_neg, if_true, if_false, nI_addm1, this, Bool.false_eq_true, Nat.add_zero]
    · by_cases z : spotA A i (A 8 i) = p
      · have : atA A p i = true := by simp [atA, z]; omega
        simp (disch := omega) only [lit_0, lit_1, lit_2, lit_3, lit_4, lit_5, lit_6, lit_7, lit_8, lit_9, lit_10, lit_11, lit_12, lit_13, lit_14, lit_15, lit_16, lit_17, lit_18, lit_19, lit_20, lit_23, lit_24, lit_31, lit_32, lit_34, lit_36, lit_40, lit_48, lit_49, lit_57, lit_58, lit_59, lit_60, lit_64, lit_96, lit_97, lit_99, lit_101, lit_105, lit_108, lit_110, lit_111, lit_112, lit_114, lit_115, lit_116, lit_122, lit_127, lit_160, lit_216, lit_235, lit_238, lit_343, lit_476, lit_1296, lit_2000, lit_2401, lt_def, bind_s, gd_d, ix_n, inb_n, nI_add, pk_mul, pk_sub, nI_leI, nI_ltI, nI_eq, nI_ltn, nI_eqn, nI_eqn2, if_pos, if_neg, if_true, if_false, nI_addm1, this]
      · have : atA A p i = false := by simp [atA, z]
        simp (disch := omega) only [lit_0, lit_1, lit_2, lit_3, lit_4, lit_5, lit_6, lit_7, lit_8, lit_9, lit_10, lit_11, lit_12, lit_13, lit_14, lit_15, lit_16, lit_17, lit_18, lit_19, lit_20, lit_23, lit_24, lit_31, lit_32, lit_34, lit_36, lit_40, lit_48, lit_49, lit_57, lit_58, lit_59, lit_60, lit_64, lit_96, lit_97, lit_99, lit_101, lit_105, lit_108, lit_110, lit_111, lit_112, lit_114, lit_115, lit_116, lit_122, lit_127, lit_160, lit_216, lit_235, lit_238, lit_343, lit_476, lit_1296, lit_2000, lit_2401, lt_def, bind_s, gd_d, ix_n, inb_n, nI_add, pk_mul, pk_sub, nI_leI, nI_ltI, nI_eq, nI_ltn, nI_eqn, nI_eqn2, if_pos, if_neg, if_true, if_false, nI_addm1, this, Bool.false_eq_true, Nat.add_zero]
  · simp (disch := omega) only [lit_0, lit_1, lit_2, lit_3, lit_4, lit_5, lit_6, lit_7, lit_8, lit_9, lit_10, lit_11, lit_12, lit_13, lit_14, lit_15, lit_16, lit_17, lit_18, lit_19, lit_20, lit_23, lit_24, lit_31, lit_32, lit_34, lit_36, lit_40, lit_48, lit_49, lit_57, lit_58, lit_59, lit_60, lit_64, lit_96, lit_97, lit_99, lit_101, lit_105, lit_108, lit_110, lit_111, lit_112, lit_114, lit_115, lit_116, lit_122, lit_127, lit_160, lit_216, lit_235, lit_238, lit_343, lit_476, lit_1296, lit_2000, lit_2401, lt_def, bind_s, gd_d, ix_n, inb_n, nI_add, pk_mul, pk_sub, nI_leI, nI_ltI, nI_eq, nI_ltn, nI_eqn, nI_eqn2, if_pos, if_neg, if_true, if_false, nI_addm1, R.n]
end Ref2
