def s7 (A : Ab) (d : Nat → Nat) (t : Nat) : Nat := if d t = 0 then 0 else spotA A t (d t) + 1
def code7 (A : Ab) (d : Nat → Nat) : Nat := sm (fun t => wt7 t * s7 A d t) 4
def SpOk (μ : Mem) (A : Ab) (d : Nat → Nat) : Prop := ∀ t, t < 4 → μ (5, 0, 14) t = nI (s7 A d t)
def sSp : Rf → Nat → Bool := fun r _ => r == (5, 0, 14)
theorem sm_4 (f : Nat → Nat) : sm f 4 = f 0 + f 1 + f 2 + f 3 := by
  show 0 + f 0 + f 1 + f 2 + f 3 = _
  omega
theorem code7_eq (A : Ab) (d : Nat → Nat) : code7 A d = s7 A d 0 + 7 * s7 A d 1 + 49 * s7 A d 2 + 343 * s7 A d 3 := by
  unfold code7
  rw [sm_4]
  show 1 * s7 A d 0 + 7 * s7 A d 1 + 49 * s7 A d 2 + 343 * s7 A d 3 = _
  omega
theorem sm_ext {f : Nat → Nat} {n : Nat} (h : ∀ t, n ≤ t → f t = 0) : ∀ {i : Nat}, n ≤ i → sm f i = sm f n
  | 0, q => by
    have : n = 0 := by omega
    rw [this]
  | i + 1, q => by
    by_cases e : n = i + 1
    · rw [e]
    · rw [sm_s, sm_ext h (i := i) (by omega), h i (by omega)]; rfl
section Moved
variable {μ : Mem} {A : Ab} {B : Nat → Nat → Nat} {d : Nat → Nat}
theorem s7_le (O : OkA A) (D : DOk A d) (t : Nat) : s7 A d t ≤ 6 := by
  unfold s7
  by_cases h : d t = 0
  · rw [if_pos h]; omega
  · rw [if_neg h]
    have ht : t < A 4 0 := by
      by_cases z : t < A 4 0
      · exact z
      · exact absurd (D.2 t (by omega)) h
    have := spotA_lt O ht (D.1 t ht)
    have := O.p6
    omega
theorem code7_lt (O : OkA A) (D : DOk A d) : code7 A d < 2401 := by
  have h0 := s7_le O D 0
  have h1 := s7_le O D 1
  have h2 := s7_le O D 2
  have h3 := s7_le O D 3
  rw [code7_eq]
  omega
theorem s7_occ (D : DOk A d) {t p : Nat} : s7 A d t = p + 1 ↔ occ A d p t = true := by
  unfold s7 occ
  rw [decide_eq_true_eq]
  by_cases h : d t = 0
  · rw [if_pos h]; omega
  · rw [if_neg h]; omega
theorem spotA_inj {t x y : Nat} (hx : x ≤ distA A t) (hy : y ≤ distA A t) (h : spotA A t x = spotA A t y) : x = y := by
  unfold spotA distA at *
  by_cases z : A 6 t ≤ A 5 t
  · simp only [if_pos z] at *; omega
  · simp only [if_neg z] at *; omega
theorem code7_inj (O : OkA A) {e : Nat → Nat} (D : DOk A d) (E : DOk A e) (h : code7 A d = code7 A e) : d = e := by
  have hn := O.n4
  have a0 := s7_le O D 0
  have a1 := s7_le O D 1
  have a2 := s7_le O D 2
  have a3 := s7_le O D 3
  have b0 := s7_le O E 0
  have b1 := s7_le O E 1
  have b2 := s7_le O E 2
  have b3 := s7_le O E 3
  rw [code7_eq, code7_eq] at h
  funext t
  by_cases z : t < A 4 0
  · have hs : s7 A d t = s7 A e t := by
      have : t = 0 ∨ t = 1 ∨ t = 2 ∨ t = 3 := by omega
      rcases this with rfl | rfl | rfl | rfl <;> omega
    unfold s7 at hs
    by_cases p : d t = 0
    · by_cases q : e t = 0
      · rw [p, q]
      · rw [if_pos p, if_neg q] at hs; omega
    · by_cases q : e t = 0
      · rw [if_neg p, if_pos q] at hs; omega
      · rw [if_neg p, if_neg q] at hs
        exact spotA_inj (D.1 t z) (E.1 t z) (by omega)
  · rw [D.2 t (by omega), E.2 t (by omega)]
theorem code7_0 (O : OkA A) (D : DOk A d) : code7 A d = 0 ↔ ∀ t, t < A 4 0 → d t = 0 := by
  have hn := O.n4
  rw [code7_eq]
  refine ⟨fun h t ht => ?_, fun h => ?_⟩
  · have hs : s7 A d t = 0 := by
      have : t = 0 ∨ t = 1 ∨ t = 2 ∨ t = 3 := by omega
      rcases this with rfl | rfl | rfl | rfl <;> omega
    unfold s7 at hs
    by_cases p : d t = 0
    · exact p
    · rw [if_neg p] at hs; omega
  · have g : ∀ t, s7 A d t = 0 := fun t => by
      have : d t = 0 := by
        by_cases z : t < A 4 0
        · exact h t z
        · exact D.2 t (by omega)
      unfold s7; rw [if_pos this]
    rw [g, g, g, g]
theorem postureNow_ok (R : RepR (μ (5, 0, 1)) A B) (O : OkA A) : fM_postureNow μ = some (nI (code7 A (dA A))) := by
  have hn := O.n4
  have h6 := O.p6
  have e : code7 A (dA A) = sm (fun t => wt7 t * s7 A (dA A) t) (A 4 0) := sm_ext (fun t ht => by
    have : s7 A (dA A) t = 0 := by unfold s7; rw [if_pos (dA_ge (by omega))]
    rw [this]; rfl) hn
  rw [e]
  refine ac20 (A 4 0) (by omega) (fun i => nI (sm (fun t => wt7 t * s7 A (dA A) t) i)) (fun sf i hi => ?_) (fun sf => ?_) <;> unfold bM_postureNow_4
  · have hd := (O.tr hi).2.2.2.2.2.1
    simp (disch := omega) only [lit_0, lit_1, lit_2, lit_3, lit_4, lit_5, lit_6, lit_7, lit_8, lit_9, lit_10, lit_11, lit_12, lit_13, lit_14, lit_15, lit_16, lit_17, lit_18, lit_19, lit_20, lit_23, lit_24, lit_31, lit_32, lit_34, lit_36, lit_40, lit_48, lit_49, lit_57, lit_58, lit_59, lit_60, lit_64, lit_96, lit_97, lit_99, lit_101, lit_105, lit_108, lit_110, lit_111, lit_112, lit_114, lit_115, lit_116, lit_122, lit_127, lit_160, lit_216, lit_235, lit_238, lit_343, lit_476, lit_1296, lit_2000, lit_2401, lt_def, bind_s, gd_d, ix_n, inb_n, nI_add, pk_mul, pk_sub, nI_leI, nI_ltI, nI_eq, nI_ltn, nI_eqn, nI_eqn2, if_pos, if_neg, if_true, if_false, nI_addm1, R.n, isDoneIn_ok R O hi, sm_s]
    by_cases z : A 8 i = 0
    · have : s7 A (dA A) i = 0 := by unfold s7; rw [dA_lt hi, if_pos z]
      simp (disch := omega) only [lit_0, lit_1, lit_2, lit_3, lit_4, lit_5, lit_6, lit_7, lit_8, lit_9, lit_10, lit_11, lit_12, lit_13, lit_14, lit_15, lit_16, lit_17, lit_18, lit_19, lit_20, lit_23, lit_24, lit_31, lit_32, lit_34, lit_36, lit_40, lit_48, lit_49, lit_57, lit_58, lit_59, lit_60, lit_64, lit_96, lit_97, lit_99, lit_101, lit_105, lit_108, lit_110, lit_111, lit_112, lit_114, lit_115, lit_116, lit_122, lit_127, lit_160, lit_216, lit_235, lit_238, lit_343, lit_476, lit_1296, lit_2000, lit_2401, lt_def, bind_s, gd_d, ix_n, inb_n, nI_add, pk_mul, pk_sub, nI_leI, nI_ltI, nI_eq, nI_ltn, nI_eqn, nI_eqn2, if_pos, if_neg, if_true, if_false, nI_addm1, this, Nat.mul_zero]
    · have : s7 A (dA A) i = spotA A i (A 8 i) + 1 := by unfold s7; rw [dA_lt hi, if_neg z]
      simp (disch := omega) only [lit_0, lit_1, lit_2, lit_3, lit_4, lit_5, lit_6, lit_7, lit_8, lit_9, lit_10, lit_11, lit_12, lit_13, lit_14, lit_15, lit_16, lit_17, lit_18, lit_19, lit_20, lit_23, lit_24, lit_31, lit_32, lit_34, lit_36, lit_40, lit_48, lit_49, lit_57, lit_58, lit_59, lit_60, lit_64, lit_96, lit_97, lit_99, lit_101, lit_105, lit_108, lit_110, lit_111, lit_112, lit_114, lit_115, lit_116, lit_122, lit_127, lit_160, lit_216, lit_235, lit_238, lit_343, lit_476, lit_1296, lit_2000, lit_2401, lt_def, bind_s, gd_d, ix_n, inb_n, nI_add, pk_mul, pk_sub, nI_leI, nI_ltI, nI_eq, nI_ltn, nI_eqn, nI_eqn2, if_pos, if_neg, if_true, if_false, nI_addm1, this, weightOf_ok, of3 R O hi]
  · simp (disch := omega) only [lit_0, lit_1, lit_2, lit_3, lit_4, lit_5, lit_6, lit_7, lit_8, lit_9, lit_10, lit_11, lit_12, lit_13, lit_14, lit_15, lit_16, lit_17, lit_18, lit_19, lit_20, lit_23, lit_24, lit_31, lit_32, lit_34, lit_36, lit_40, lit_48, lit_49, lit_57, lit_58, lit_59, lit_60, lit_64, lit_96, lit_97, lit_99, lit_101, lit_105, lit_108, lit_110, lit_111, lit_112, lit_114, lit_115, lit_116, lit_122, lit_127, lit_160, lit_216, lit_235, lit_238, lit_343, lit_476, lit_1296, lit_2000, lit_2401, lt_def, bind_s, gd_d, ix_n, inb_n, nI_add, pk_mul, pk_sub, nI_leI, nI_ltI, nI_eq, nI_ltn, nI_eqn, nI_eqn2, if_pos, if_neg, if_true, if_false, nI_addm1, R.n]
theorem dig7 (O : OkA A) (D : DOk A d) {t : Nat} (ht : t < 4) : code7 A d / wt7 t % 7 = s7 A d t := by
  have a0 := s7_le O D 0
  have a1 := s7_le O D 1
  have a2 := s7_le O D 2
  have a3 := s7_le O D 3
  rw [code7_eq]
  unfold wt7
  have : t = 0 ∨ t = 1 ∨ t = 2 ∨ t = 3 := by omega
  rcases this with rfl | rfl | rfl | rfl
  · simp; omega
  · simp; omega
  · simp; omega
  · simp; omega
theorem nz7 {t : Nat} : (!(nI (wt7 t) == nI 0)) = true := by
  have hu := wt7_pos t
  rw [Bool.not_eq_true', beq_eq_false_iff_ne]
  intro z
  have := (nI_eq (by omega) (by omega)).mp z
  omega
theorem rem7 (O : OkA A) (D : DOk A d) {t : Nat} (ht : t < 4) : nI (code7 A d) / nI (wt7 t) - nI (code7 A d) / nI (wt7 t) / nI 7 * nI 7 = nI (s7 A d t) := by
  have hu := wt7_pos t
  have hc := code7_lt O D
  rw [pk_div (by omega) hu.1 (by omega), pk_rem (by have := Nat.div_le_self (code7 A d) (wt7 t); omega) (by omega) (by omega), dig7 O D ht]
theorem decode_ok (O : OkA A) (D : DOk A d) (μ : Mem) : ∃ μ', fM_decode (nI (code7 A d)) μ = some μ' ∧ Off sSp μ μ' ∧ SpOk μ' A d := by
  unfold fM_decode
  refine up11 (B := bM_decode_2 (nI (code7 A d))) (fun r => ∃ μ', r = some μ' ∧ Off sSp μ μ' ∧ SpOk μ' A d) 4 (by omega) (fun i m => Off sSp μ m ∧ ∀ t, t < i → m (5, 0, 14) t = nI (s7 A d t)) ⟨Off_refl _ _, fun j hj => absurd hj (by omega)⟩ (fun sf i m hi hJ => ?_) (fun sf m hJ => ?_) <;> unfold bM_decode_2
  · have g4 : (!(7 == 0)) = true := rfl
    have g5 : (!(nI 7 == nI 0)) = true := by decide +kernel
    left
    simp (disch := omega) only [lit_0, lit_1, lit_2, lit_3, lit_4, lit_5, lit_6, lit_7, lit_8, lit_9, lit_10, lit_11, lit_12, lit_13, lit_14, lit_15, lit_16, lit_17, lit_18, lit_19, lit_20, lit_23, lit_24, lit_31, lit_32, lit_34, lit_36, lit_40, lit_48, lit_49, lit_57, lit_58, lit_59, lit_60, lit_64, lit_96, lit_97, lit_99, lit_101, lit_105, lit_108, lit_110, lit_111, lit_112, lit_114, lit_115, lit_116, lit_122, lit_127, lit_160, lit_216, lit_235, lit_238, lit_343, lit_476, lit_1296, lit_2000, lit_2401, lt_def, bind_s, gd_d, ix_n, inb_n, nI_add, pk_mul, pk_sub, nI_leI, nI_ltI, nI_eq, nI_ltn, nI_eqn, nI_eqn2, if_pos, if_neg, if_true, if_false, nI_addm1, weightOf_ok hi, nz7, g4, g5, gd_tt, rem7 O D hi]
    refine ⟨_, ⟨Off_wr hJ.1 rfl, fun t ht => ?_⟩, rfl⟩
    rw [wr_get]
    by_cases q : t = i
    · subst q; rw [if_pos ⟨rfl, rfl⟩]
    · rw [if_neg (fun z => q z.2)]; exact hJ.2 t (by omega)
  · simp (disch := omega) only [lit_0, lit_1, lit_2, lit_3, lit_4, lit_5, lit_6, lit_7, lit_8, lit_9, lit_10, lit_11, lit_12, lit_13, lit_14, lit_15, lit_16, lit_17, lit_18, lit_19, lit_20, lit_23, lit_24, lit_31, lit_32, lit_34, lit_36, lit_40, lit_48, lit_49, lit_57, lit_58, lit_59, lit_60, lit_64, lit_96, lit_97, lit_99, lit_101, lit_105, lit_108, lit_110, lit_111, lit_112, lit_114, lit_115, lit_116, lit_122, lit_127, lit_160, lit_216, lit_235, lit_238, lit_343, lit_476, lit_1296, lit_2000, lit_2401, lt_def, bind_s, gd_d, ix_n, inb_n, nI_add, pk_mul, pk_sub, nI_leI, nI_ltI, nI_eq, nI_ltn, nI_eqn, nI_eqn2, if_pos, if_neg, if_true, if_false, nI_addm1]
    exact ⟨m, rfl, hJ.1, hJ.2⟩
theorem encode_ok (h : SpOk μ A d) : fM_encode μ = some (nI (code7 A d)) := by
  refine ac20 4 (by omega) (fun i => nI (sm (fun t => wt7 t * s7 A d t) i)) (fun sf i hi => ?_) (fun sf => ?_) <;> unfold bM_encode_4
  · simp (disch := omega) only [lit_0, lit_1, lit_2, lit_3, lit_4, lit_5, lit_6, lit_7, lit_8, lit_9, lit_10, lit_11, lit_12, lit_13, lit_14, lit_15, lit_16, lit_17, lit_18, lit_19, lit_20, lit_23, lit_24, lit_31, lit_32, lit_34, lit_36, lit_40, lit_48, lit_49, lit_57, lit_58, lit_59, lit_60, lit_64, lit_96, lit_97, lit_99, lit_101, lit_105, lit_108, lit_110, lit_111, lit_112, lit_114, lit_115, lit_116, lit_122, lit_127, lit_160, lit_216, lit_235, lit_238, lit_343, lit_476, lit_1296, lit_2000, lit_2401, lt_def, bind_s, gd_d, ix_n, inb_n, nI_add, pk_mul, pk_sub, nI_leI, nI_ltI, nI_eq, nI_ltn, nI_eqn, nI_eqn2, if_pos, if_neg, if_true, if_false, nI_addm1, weightOf_ok hi, h i hi, sm_s]
  · simp (disch := omega) only [lit_0, lit_1, lit_2, lit_3, lit_4, lit_5, lit_6, lit_7, lit_8, lit_9, lit_10, lit_11, lit_12, lit_13, lit_14, lit_15, lit_16, lit_17, lit_18, lit_19, lit_20, lit_23, lit_24, lit_31, lit_32, lit_34, lit_36, lit_40, lit_48, lit_49, lit_57, lit_58, lit_59, lit_60, lit_64, lit_96, lit_97, lit_99, lit_101, lit_105, lit_108, lit_110, lit_111, lit_112, lit_114, lit_115, lit_116, lit_122, lit_127, lit_160, lit_216, lit_235, lit_238, lit_343, lit_476, lit_1296, lit_2000, lit_2401, lt_def, bind_s, gd_d, ix_n, inb_n, nI_add, pk_mul, pk_sub, nI_leI, nI_ltI, nI_eq, nI_ltn, nI_eqn, nI_eqn2, if_pos, if_neg, if_true, if_false, nI_addm1, code7]
theorem trainsFor_ok (R : RepR (μ (5, 0, 1)) A B) (O : OkA A) (D : DOk A d) (hS : SpOk μ A d) {p x : Nat} (hp : p < 6) (hx : x < 2 ^ 31) : fM_trainsFor (nI p) (nI x) μ = some (nI (cnt (fun u => occ A d p u && decide (x ≤ A 7 u)) (A 4 0))) := by
  have hn := O.n4
  refine ac20 (A 4 0) (by omega) (fun i => nI (cnt (fun u => occ A d p u && decide (x ≤ A 7 u)) i)) (fun sf i hi => ?_) (fun sf => ?_) <;> unfold bM_trainsFor_5
  · have h := O.tr hi
    have h7 := s7_le O D i
    have ho := s7_occ D (t := i) (p := p)
    simp (disch := omega) only [lit_0, lit_1, lit_2, lit_3, lit_4, lit_5, lit_6, lit_7, lit_8, lit_9, lit_10, lit_11, lit_12, lit_13, lit_14, lit_15, lit_16, lit_17, lit_18, lit_19, lit_20, lit_23, lit_24, lit_31, lit_32, lit_34, lit_36, lit_40, lit_48, lit_49, lit_57, lit_58, lit_59, lit_60, lit_64, lit_96, lit_97, lit_99, lit_101, lit_105, lit_108, lit_110, lit_111, lit_112, lit_114, lit_115, lit_116, lit_122, lit_127, lit_160, lit_216, lit_235, lit_238, lit_343, lit_476, lit_1296, lit_2000, lit_2401, lt_def, bind_s, gd_d, ix_n, inb_n, nI_add, pk_mul, pk_sub, nI_leI, nI_ltI, nI_eq, nI_ltn, nI_eqn, nI_eqn2, if_pos, if_neg, if_true, if_false, nI_addm1, R.n, hS i (by omega), of2 R O hi, jM_trainsFor_46, flag_0, flag_1, cnt_s]
    by_cases z : occ A d p i = true
    · by_cases y : x ≤ A 7 i
      · simp (disch := omega) only [lit_0, lit_1, lit_2, lit_3, lit_4, lit_5, lit_6, lit_7, lit_8, lit_9, lit_10, lit_11, lit_12, lit_13, lit_14, lit_15, lit_16, lit_17, lit_18, lit_19, lit_20, lit_23, lit_24, lit_31, lit_32, lit_34, lit_36, lit_40, lit_48, lit_49, lit_57, lit_58, lit_59, lit_60, lit_64, lit_96, lit_97, lit_99, lit_101, lit_105, lit_108, lit_110, lit_111, lit_112, lit_114, lit_115, lit_116, lit_122, lit_127, lit_160, lit_216, lit_235, lit_238, lit_343, lit_476, lit_1296, lit_2000, lit_2401, lt_def, bind_s, gd_d, ix_n, inb_n, nI_add, pk_mul, pk_sub, nI_leI, nI_ltI, nI_eq, nI_ltn, nI_eqn, nI_eqn2, if_pos, if_neg, if_true, if_false, nI_addm1, if_pos (ho.mpr z), z, decide_eq_true y, Bool.and_self]
      · simp (disch := omega) only [lit_0, lit_1, lit_2, lit_3, lit_4, lit_5, lit_6, lit_7, lit_8, lit_9, lit_10, lit_11, lit_12, lit_13, lit_14, lit_15, lit_16, lit_17, lit_18, lit_19, lit_20, lit_23, lit_24, lit_31, lit_32, lit_34, lit_36, lit_40, lit_48, lit_49, lit_57, lit_58, lit_59, lit_60, lit_64, lit_96, lit_97, lit_99, lit_101, lit_105, lit_108, lit_110, lit_111, lit_112, lit_114, lit_115, lit_116, lit_122, lit_127, lit_160, lit_216, lit_235, lit_238, lit_343, lit_476, lit_1296, lit_2000, lit_2401, lt_def, bind_s, gd_d, ix_n, inb_n, nI_add, pk_mul, pk_sub, nI_leI, nI_ltI, nI_eq, nI_ltn, nI_eqn, nI_eqn2, if_pos, if_neg, if_true, if_false, nI_addm1, if_pos (ho.mpr z), z, decide_eq_false y, Bool.and_false, Bool.false_eq_true]
    · have zf : occ A d p i = false := by simpa using z
      simp (disch := omega) only [lit_0, lit_1, lit_2, lit_3, lit_4, lit_5, lit_6, lit_7, lit_8, lit_9, lit_10, lit_11, lit_12, lit_13, lit_14, lit_15, lit_16, lit_17, lit_18, lit_19, lit_20, lit_23, lit_24, lit_31, lit_32, lit_34, lit_36, lit_40, lit_48, lit_49, lit_57, lit_58, lit_59, lit_60, lit_64, lit_96, lit_97, lit_99, lit_101, lit_105, lit_108, lit_110, lit_111, lit_112, lit_114, lit_115, lit_116, lit_122, lit_127, lit_160, lit_216, lit_235, lit_238, lit_343, lit_476, lit_1296, lit_2000, lit_2401, lt_def, bind_s, gd_d, ix_n, inb_n, nI_add, pk_mul, pk_sub, nI_leI, nI_ltI, nI_eq, nI_ltn, nI_eqn, nI_eqn2, if_pos, if_neg, if_true, if_false, nI_addm1, if_neg (fun q => z (ho.mp q)), zf, Bool.false_and, Bool.false_eq_true]
  · simp (disch := omega) only [lit_0, lit_1, lit_2, lit_3, lit_4, lit_5, lit_6, lit_7, lit_8, lit_9, lit_10, lit_11, lit_12, lit_13, lit_14, lit_15, lit_16, lit_17, lit_18, lit_19, lit_20, lit_23, lit_24, lit_31, lit_32, lit_34, lit_36, lit_40, lit_48, lit_49, lit_57, lit_58, lit_59, lit_60, lit_64, lit_96, lit_97, lit_99, lit_101, lit_105, lit_108, lit_110, lit_111, lit_112, lit_114, lit_115, lit_116, lit_122, lit_127, lit_160, lit_216, lit_235, lit_238, lit_343, lit_476, lit_1296, lit_2000, lit_2401, lt_def, bind_s, gd_d, ix_n, inb_n, nI_add, pk_mul, pk_sub, nI_leI, nI_ltI, nI_eq, nI_ltn, nI_eqn, nI_eqn2, if_pos, if_neg, if_true, if_false, nI_addm1, R.n]
theorem tracksForM_ok (R : RepR (μ (5, 0, 1)) A B) (O : OkA A) {p x : Nat} (hp : p < A 0 0) (hx : x < 2 ^ 31) : fM_tracksFor (nI p) (nI x) μ = some (nI (cnt (fun i => decide (x ≤ A 2 (3 * p + i))) (A 1 p))) := by
  have h6 := O.p6
  have h := O.pc hp
  rw [← R.ct hp x]
  refine ac20 (A 1 p) (by omega) (fun i => nI (cnt (fun i => decide (x ≤ B p i)) i)) (fun sf i hi => ?_) (fun sf => ?_) <;> unfold bM_tracksFor_5
  · have hb := ((R.2.2.2.2.1 p hp).2.2.1 i hi).2
    simp (disch := omega) only [lit_0, lit_1, lit_2, lit_3, lit_4, lit_5, lit_6, lit_7, lit_8, lit_9, lit_10, lit_11, lit_12, lit_13, lit_14, lit_15, lit_16, lit_17, lit_18, lit_19, lit_20, lit_23, lit_24, lit_31, lit_32, lit_34, lit_36, lit_40, lit_48, lit_49, lit_57, lit_58, lit_59, lit_60, lit_64, lit_96, lit_97, lit_99, lit_101, lit_105, lit_108, lit_110, lit_111, lit_112, lit_114, lit_115, lit_116, lit_122, lit_127, lit_160, lit_216, lit_235, lit_238, lit_343, lit_476, lit_1296, lit_2000, lit_2401, lt_def, bind_s, gd_d, ix_n, inb_n, nI_add, pk_mul, pk_sub, nI_leI, nI_ltI, nI_eq, nI_ltn, nI_eqn, nI_eqn2, if_pos, if_neg, if_true, if_false, nI_addm1, op0 R O hp, opi R O hp hi, flag_d, cnt_s, decide_eq_true_eq]
    by_cases z : x ≤ B p i
    · simp (disch := omega) only [lit_0, lit_1, lit_2, lit_3, lit_4, lit_5, lit_6, lit_7, lit_8, lit_9, lit_10, lit_11, lit_12, lit_13, lit_14, lit_15, lit_16, lit_17, lit_18, lit_19, lit_20, lit_23, lit_24, lit_31, lit_32, lit_34, lit_36, lit_40, lit_48, lit_49, lit_57, lit_58, lit_59, lit_60, lit_64, lit_96, lit_97, lit_99, lit_101, lit_105, lit_108, lit_110, lit_111, lit_112, lit_114, lit_115, lit_116, lit_122, lit_127, lit_160, lit_216, lit_235, lit_238, lit_343, lit_476, lit_1296, lit_2000, lit_2401, lt_def, bind_s, gd_d, ix_n, inb_n, nI_add, pk_mul, pk_sub, nI_leI, nI_ltI, nI_eq, nI_ltn, nI_eqn, nI_eqn2, if_pos, if_neg, if_true, if_false, nI_addm1]
    · simp (disch := omega) only [lit_0, lit_1, lit_2, lit_3, lit_4, lit_5, lit_6, lit_7, lit_8, lit_9, lit_10, lit_11, lit_12, lit_13, lit_14, lit_15, lit_16, lit_17, lit_18, lit_19, lit_20, lit_23, lit_24, lit_31, lit_32, lit_34, lit_36, lit_40, lit_48, lit_49, lit_57, lit_58, lit_59, lit_60, lit_64, lit_96, lit_97, lit_99, lit_101, lit_105, lit_108, lit_110, lit_111, lit_112, lit_114, lit_115, lit_116, lit_122, lit_127, lit_160, lit_216, lit_235, lit_238, lit_343, lit_476, lit_1296, lit_2000, lit_2401, lt_def, bind_s, gd_d, ix_n, inb_n, nI_add, pk_mul, pk_sub, nI_leI, nI_ltI, nI_eq, nI_ltn, nI_eqn, nI_eqn2, if_pos, if_neg, if_true, if_false, nI_addm1]
  · simp (disch := omega) only [lit_0, lit_1, lit_2, lit_3, lit_4, lit_5, lit_6, lit_7, lit_8, lit_9, lit_10, lit_11, lit_12, lit_13, lit_14, lit_15, lit_16, lit_17, lit_18, lit_19, lit_20, lit_23, lit_24, lit_31, lit_32, lit_34, lit_36, lit_40, lit_48, lit_49, lit_57, lit_58, lit_59, lit_60, lit_64, lit_96, lit_97, lit_99, lit_101, lit_105, lit_108, lit_110, lit_111, lit_112, lit_114, lit_115, lit_116, lit_122, lit_127, lit_160, lit_216, lit_235, lit_238, lit_343, lit_476, lit_1296, lit_2000, lit_2401, lt_def, bind_s, gd_d, ix_n, inb_n, nI_add, pk_mul, pk_sub, nI_leI, nI_ltI, nI_eq, nI_ltn, nI_eqn, nI_eqn2, if_pos, if_neg, if_true, if_false, nI_addm1, op0 R O hp]
theorem holds_ok (R : RepR (μ (5, 0, 1)) A B) (O : OkA A) (D : DOk A d) (hS : SpOk μ A d) {p : Nat} (hp : p < A 0 0) : fM_holds (nI p) μ = some (nI (if fitsA A p (occ A d p) then 1 else 0)) := by
  have hn := O.n4
  have h6 := O.p6
  have c3 := (O.pc hp).2.1
  refine up20 (B := bM_holds_4 (nI p) μ) (fun r => r = some (nI (if fitsA A p (occ A d p) then 1 else 0))) (A 4 0) (by omega) (fun i a => (a = nI 1 ∧ ∀ t, t < i → occ A d p t = true → cnt (fun u => occ A d p u && decide (A 7 t ≤ A 7 u)) (A 4 0) ≤ cnt (fun i => decide (A 7 t ≤ A 2 (3 * p + i))) (A 1 p)) ∨ (a = nI 0 ∧ ¬ fitsA A p (occ A d p) = true)) (Or.inl ⟨rfl, fun j hj => absurd hj (by omega)⟩) (fun sf i a hi hJ => ?_) (fun sf a hJ => ?_) <;> unfold bM_holds_4
  · have h := O.tr hi
    have h7 := s7_le O D i
    have ho := s7_occ D (t := i) (p := p)
    have c1 := cnt_le (fun u => occ A d p u && decide (A 7 i ≤ A 7 u)) (A 4 0)
    have c2 := cnt_le (fun j => decide (A 7 i ≤ A 2 (3 * p + j))) (A 1 p)
    left
    simp (disch := omega) only [lit_0, lit_1, lit_2, lit_3, lit_4, lit_5, lit_6, lit_7, lit_8, lit_9, lit_10, lit_11, lit_12, lit_13, lit_14, lit_15, lit_16, lit_17, lit_18, lit_19, lit_20, lit_23, lit_24, lit_31, lit_32, lit_34, lit_36, lit_40, lit_48, lit_49, lit_57, lit_58, lit_59, lit_60, lit_64, lit_96, lit_97, lit_99, lit_101, lit_105, lit_108, lit_110, lit_111, lit_112, lit_114, lit_115, lit_116, lit_122, lit_127, lit_160, lit_216, lit_235, lit_238, lit_343, lit_476, lit_1296, lit_2000, lit_2401, lt_def, bind_s, gd_d, ix_n, inb_n, nI_add, pk_mul, pk_sub, nI_leI, nI_ltI, nI_eq, nI_ltn, nI_eqn, nI_eqn2, if_pos, if_neg, if_true, if_false, nI_addm1, R.n, hS i (by omega), of2 R O hi, trainsFor_ok R O D hS (show p < 6 by omega) (show A 7 i < 2 ^ 31 by omega), tracksForM_ok R O hp (show A 7 i < 2 ^ 31 by omega)]
    by_cases z : occ A d p i = true
    · rw [if_pos (ho.mpr z)]
      rcases hJ with ⟨rfl, hJ⟩ | ⟨rfl, hJ⟩
      · simp (disch := omega) only [lit_0, lit_1, lit_2, lit_3, lit_4, lit_5, lit_6, lit_7, lit_8, lit_9, lit_10, lit_11, lit_12, lit_13, lit_14, lit_15, lit_16, lit_17, lit_18, lit_19, lit_20, lit_23, lit_24, lit_31, lit_32, lit_34, lit_36, lit_40, lit_48, lit_49, lit_57, lit_58, lit_59, lit_60, lit_64, lit_96, lit_97, lit_99, lit_101, lit_105, lit_108, lit_110, lit_111, lit_112, lit_114, lit_115, lit_116, lit_122, lit_127, lit_160, lit_216, lit_235, lit_238, lit_343, lit_476, lit_1296, lit_2000, lit_2401, lt_def, bind_s, gd_d, ix_n, inb_n, nI_add, pk_mul, pk_sub, nI_leI, nI_ltI, nI_eq, nI_ltn, nI_eqn, nI_eqn2, if_pos, if_neg, if_true, if_false, nI_addm1]
        by_cases y : cnt (fun u => occ A d p u && decide (A 7 i ≤ A 7 u)) (A 4 0) ≤ cnt (fun j => decide (A 7 i ≤ A 2 (3 * p + j))) (A 1 p)
        · refine ⟨_, Or.inl ⟨rfl, fun t ht hz => ?_⟩, by rw [if_neg (by omega)]⟩
          by_cases e : t = i
          · subst e; exact y
          · exact hJ t (by omega) hz
        · refine ⟨_, Or.inr ⟨rfl, fun q => y (of_decide_eq_true q i hi z)⟩, by rw [if_pos (by omega)]⟩
      · simp (disch := omega) only [lit_0, lit_1, lit_2, lit_3, lit_4, lit_5, lit_6, lit_7, lit_8, lit_9, lit_10, lit_11, lit_12, lit_13, lit_14, lit_15, lit_16, lit_17, lit_18, lit_19, lit_20, lit_23, lit_24, lit_31, lit_32, lit_34, lit_36, lit_40, lit_48, lit_49, lit_57, lit_58, lit_59, lit_60, lit_64, lit_96, lit_97, lit_99, lit_101, lit_105, lit_108, lit_110, lit_111, lit_112, lit_114, lit_115, lit_116, lit_122, lit_127, lit_160, lit_216, lit_235, lit_238, lit_343, lit_476, lit_1296, lit_2000, lit_2401, lt_def, bind_s, gd_d, ix_n, inb_n, nI_add, pk_mul, pk_sub, nI_leI, nI_ltI, nI_eq, nI_ltn, nI_eqn, nI_eqn2, if_pos, if_neg, if_true, if_false, nI_addm1]
        exact ⟨_, Or.inr ⟨rfl, hJ⟩, rfl⟩
    · rw [if_neg (fun q => z (ho.mp q))]
      refine ⟨a, ?_, rfl⟩
      rcases hJ with ⟨rfl, hJ⟩ | ⟨rfl, hJ⟩
      · refine Or.inl ⟨rfl, fun t ht hz => ?_⟩
        by_cases e : t = i
        · subst e; exact absurd hz z
        · exact hJ t (by omega) hz
      · exact Or.inr ⟨rfl, hJ⟩
  · simp (disch := omega) only [lit_0, lit_1, lit_2, lit_3, lit_4, lit_5, lit_6, lit_7, lit_8, lit_9, lit_10, lit_11, lit_12, lit_13, lit_14, lit_15, lit_16, lit_17, lit_18, lit_19, lit_20, lit_23, lit_24, lit_31, lit_32, lit_34, lit_36, lit_40, lit_48, lit_49, lit_57, lit_58, lit_59, lit_60, lit_64, lit_96, lit_97, lit_99, lit_101, lit_105, lit_108, lit_110, lit_111, lit_112, lit_114, lit_115, lit_116, lit_122, lit_127, lit_160, lit_216, lit_235, lit_238, lit_343, lit_476, lit_1296, lit_2000, lit_2401, lt_def, bind_s, gd_d, ix_n, inb_n, nI_add, pk_mul, pk_sub, nI_leI, nI_ltI, nI_eq, nI_ltn, nI_eqn, nI_eqn2, if_pos, if_neg, if_true, if_false, nI_addm1, R.n]
    rcases hJ with ⟨rfl, hJ⟩ | ⟨rfl, hJ⟩
    · rw [if_pos (show fitsA A p (occ A d p) = true from decide_eq_true hJ)]; rfl
    · rw [if_neg hJ]; rfl
theorem SpOk_wr {m : Mem} {e : Nat → Nat} {t v : Nat} (h : SpOk m A d) (hv : v = s7 A e t) (he : ∀ u, u ≠ t → e u = d u) : SpOk (wr m (5, 0, 14) t (nI v)) A e := by
  intro u hu
  rw [wr_get]
  by_cases q : u = t
  · rw [if_pos ⟨rfl, q⟩, hv, q]
  · rw [if_neg (fun z => q z.2), h u hu]
    unfold s7
    rw [he u q]
theorem movedBy_ok (R : RepR (μ (5, 0, 1)) A B) (O : OkA A) (D : DOk A d) (hS : SpOk μ A d) {t : Nat} (ht : t < A 4 0) : ∃ μ', fM_movedBy (nI t) μ = some (if canA A d t then nI (code7 A (dec d t)) else -4, μ') ∧ Off sSp μ μ' ∧ SpOk μ' A d := by
  have hn := O.n4
  have h6 := O.p6
  have h5 := D.le5 O t
  have hd := D.1 t ht
  have h7 := s7_le O D t
  have hSt := hS t (by omega)
  have q2 := (O.tr ht).2.1
  have back : ∀ m : Mem, SpOk m A (dec d t) → SpOk (wr m (5, 0, 14) t (nI (s7 A d t))) A d := fun m h => SpOk_wr h rfl (fun u hu => (dec_ne d hu).symm)
  unfold fM_movedBy
  by_cases z : d t = 0
  · have c : ¬ canA A d t = true := fun q => by have := can_pos q; omega
    have e7 : s7 A d t = 0 := by unfold s7; rw [if_pos z]
    simp (disch := omega) only [lit_0, lit_1, lit_2, lit_3, lit_4, lit_5, lit_6, lit_7, lit_8, lit_9, lit_10, lit_11, lit_12, lit_13, lit_14, lit_15, lit_16, lit_17, lit_18, lit_19, lit_20, lit_23, lit_24, lit_31, lit_32, lit_34, lit_36, lit_40, lit_48, lit_49, lit_57, lit_58, lit_59, lit_60, lit_64, lit_96, lit_97, lit_99, lit_101, lit_105, lit_108, lit_110, lit_111, lit_112, lit_114, lit_115, lit_116, lit_122, lit_127, lit_160, lit_216, lit_235, lit_238, lit_343, lit_476, lit_1296, lit_2000, lit_2401, lt_def, bind_s, gd_d, ix_n, inb_n, nI_add, pk_mul, pk_sub, nI_leI, nI_ltI, nI_eq, nI_ltn, nI_eqn, nI_eqn2, if_pos, if_neg, if_true, if_false, nI_addm1, hSt, e7, if_neg c]
    exact ⟨μ, rfl, Off_refl _ _, hS⟩
  · have e7 : s7 A d t = spotA A t (d t) + 1 := by unfold s7; rw [if_neg z]
    have hl := spotA_lt O ht hd
    have hl1 := spotA_lt O ht (d := d t - 1) (by omega)
    have nf := nextFrom_ok R O ht hd (by omega)
    have hs := spot_at0 O ht (d := d t - 1) (by omega)
    have e8 : s7 A d t - 1 = spotA A t (d t) := by omega
    simp (disch := omega) only [lit_0, lit_1, lit_2, lit_3, lit_4, lit_5, lit_6, lit_7, lit_8, lit_9, lit_10, lit_11, lit_12, lit_13, lit_14, lit_15, lit_16, lit_17, lit_18, lit_19, lit_20, lit_23, lit_24, lit_31, lit_32, lit_34, lit_36, lit_40, lit_48, lit_49, lit_57, lit_58, lit_59, lit_60, lit_64, lit_96, lit_97, lit_99, lit_101, lit_105, lit_108, lit_110, lit_111, lit_112, lit_114, lit_115, lit_116, lit_122, lit_127, lit_160, lit_216, lit_235, lit_238, lit_343, lit_476, lit_1296, lit_2000, lit_2401, lt_def, bind_s, gd_d, ix_n, inb_n, nI_add, pk_mul, pk_sub, nI_leI, nI_ltI, nI_eq, nI_ltn, nI_eqn, nI_eqn2, if_pos, if_neg, if_true, if_false, nI_addm1, hSt, e8, nf, of1 R O ht, hs]
    by_cases y : d t - 1 = 0
    · have c : canA A d t = true := by
        unfold canA
        rw [decide_eq_true (show d t = 1 by omega), Bool.true_or]
      have s0 : 0 = s7 A (dec d t) t := by unfold s7; rw [dec_same, if_pos y]
      have S1 : SpOk (wr μ (5, 0, 14) t (nI 0)) A (dec d t) := SpOk_wr hS s0 (fun u hu => dec_ne d hu)
      simp (disch := omega) only [lit_0, lit_1, lit_2, lit_3, lit_4, lit_5, lit_6, lit_7, lit_8, lit_9, lit_10, lit_11, lit_12, lit_13, lit_14, lit_15, lit_16, lit_17, lit_18, lit_19, lit_20, lit_23, lit_24, lit_31, lit_32, lit_34, lit_36, lit_40, lit_48, lit_49, lit_57, lit_58, lit_59, lit_60, lit_64, lit_96, lit_97, lit_99, lit_101, lit_105, lit_108, lit_110, lit_111, lit_112, lit_114, lit_115, lit_116, lit_122, lit_127, lit_160, lit_216, lit_235, lit_238, lit_343, lit_476, lit_1296, lit_2000, lit_2401, lt_def, bind_s, gd_d, ix_n, inb_n, nI_add, pk_mul, pk_sub, nI_leI, nI_ltI, nI_eq, nI_ltn, nI_eqn, nI_eqn2, if_pos, if_neg, if_true, if_false, nI_addm1, jM_movedBy_67, encode_ok S1, if_pos c]
      exact ⟨_, rfl, Off_wr (Off_wr (Off_refl _ _) rfl) rfl, back _ S1⟩
    · have s0 : spotA A t (d t - 1) + 1 = s7 A (dec d t) t := by unfold s7; rw [dec_same, if_neg y]
      have S1 : SpOk (wr μ (5, 0, 14) t (nI (spotA A t (d t - 1) + 1))) A (dec d t) := SpOk_wr hS s0 (fun u hu => dec_ne d hu)
      have R1 : RepR ((wr μ (5, 0, 14) t (nI (spotA A t (d t - 1) + 1))) (5, 0, 1)) A B := RepR_off (S := sSp) (Off_wr (Off_refl _ _) rfl) (fun _ => rfl) R
      have D1 : DOk A (dec d t) := DOk_le D (dec_le d t)
      have ho := holds_ok R1 O D1 S1 hl1
      have cc : canA A d t = fitsA A (spotA A t (d t - 1)) (occ A (dec d t) (spotA A t (d t - 1))) := by
        unfold canA
        rw [decide_eq_false (show ¬ d t = 1 by omega), decide_eq_true (show 2 ≤ d t by omega), Bool.false_or, Bool.true_and]
      rw [← cc] at ho
      simp (disch := omega) only [lit_0, lit_1, lit_2, lit_3, lit_4, lit_5, lit_6, lit_7, lit_8, lit_9, lit_10, lit_11, lit_12, lit_13, lit_14, lit_15, lit_16, lit_17, lit_18, lit_19, lit_20, lit_23, lit_24, lit_31, lit_32, lit_34, lit_36, lit_40, lit_48, lit_49, lit_57, lit_58, lit_59, lit_60, lit_64, lit_96, lit_97, lit_99, lit_101, lit_105, lit_108, lit_110, lit_111, lit_112, lit_114, lit_115, lit_116, lit_122, lit_127, lit_160, lit_216, lit_235, lit_238, lit_343, lit_476, lit_1296, lit_2000, lit_2401, lt_def, bind_s, gd_d, ix_n, inb_n, nI_add, pk_mul, pk_sub, nI_leI, nI_ltI, nI_eq, nI_ltn, nI_eqn, nI_eqn2, if_pos, if_neg, if_true, if_false, nI_addm1, ho, jM_movedBy_67]
      by_cases c : canA A d t = true
      · simp (disch := omega) only [lit_0, lit_1, lit_2, lit_3, lit_4, lit_5, lit_6, lit_7, lit_8, lit_9, lit_10, lit_11, lit_12, lit_13, lit_14, lit_15, lit_16, lit_17, lit_18, lit_19, lit_20, lit_23, lit_24, lit_31, lit_32, lit_34, lit_36, lit_40, lit_48, lit_49, lit_57, lit_58, lit_59, lit_60, lit_64, lit_96, lit_97, lit_99, lit_101, lit_105, lit_108, lit_110, lit_111, lit_112, lit_114, lit_115, lit_116, lit_122, lit_127, lit_160, lit_216, lit_235, lit_238, lit_343, lit_476, lit_1296, lit_2000, lit_2401, lt_def, bind_s, gd_d, ix_n, inb_n, nI_add, pk_mul, pk_sub, nI_leI, nI_ltI, nI_eq, nI_ltn, nI_eqn, nI_eqn2, if_pos, if_neg, if_true, if_false, nI_addm1, encode_ok S1, if_pos c]
        exact ⟨_, rfl, Off_wr (Off_wr (Off_refl _ _) rfl) rfl, back _ S1⟩
      · simp (disch := omega) only [lit_0, lit_1, lit_2, lit_3, lit_4, lit_5, lit_6, lit_7, lit_8, lit_9, lit_10, lit_11, lit_12, lit_13, lit_14, lit_15, lit_16, lit_17, lit_18, lit_19, lit_20, lit_23, lit_24, lit_31, lit_32, lit_34, lit_36, lit_40, lit_48, lit_49, lit_57, lit_58, lit_59, lit_60, lit_64, lit_96, lit_97, lit_99, lit_101, lit_105, lit_108, lit_110, lit_111, lit_112, lit_114, lit_115, lit_116, lit_122, lit_127, lit_160, lit_216, lit_235, lit_238, lit_343, lit_476, lit_1296, lit_2000, lit_2401, lt_def, bind_s, gd_d, ix_n, inb_n, nI_add, pk_mul, pk_sub, nI_leI, nI_ltI, nI_eq, nI_ltn, nI_eqn, nI_eqn2, if_pos, if_neg, if_true, if_false, nI_addm1, if_neg c]
        exact ⟨_, rfl, Off_wr (Off_wr (Off_refl _ _) rfl) rfl, back _ S1⟩
end Moved
