/-! the reference's readers -/
theorem in_ok (x lo hi : Int32) (m : Mem) : fM_in x.toInt64 lo.toInt64 hi.toInt64 m = some (if lo ≤ x ∧ x ≤ hi then 1 else 0) := by
  unfold fM_in
  have h1 : (lg_cmp x.toInt64 lo.toInt64 < 0) ↔ ¬ lo ≤ x := by
    rw [lg_cmp_lt, Int64.lt_iff_toInt_lt, Int32.toInt_toInt64, Int32.toInt_toInt64, Int32.le_iff_toInt_le]
    omega
  have h2 : (0 < lg_cmp x.toInt64 hi.toInt64) ↔ ¬ x ≤ hi := by
    rw [lg_cmp_gt, Int64.lt_iff_toInt_lt, Int32.toInt_toInt64, Int32.toInt_toInt64, Int32.le_iff_toInt_le]
    omega
  simp only [h1, h2]
  by_cases a : lo ≤ x
  · by_cases b : x ≤ hi
    · rw [if_neg (fun z => z a), if_neg (fun z => z b), if_pos ⟨a, b⟩]
    · rw [if_neg (fun z => z a), if_pos b, if_neg (fun z => b z.2)]
  · rw [if_pos a, if_neg (fun z => a z.1)]
theorem nI_subn (a b : Nat) : nI a - nI (a + b) = -nI b := by
  rw [← nI_add, Int32.sub_eq_add_neg, Int32.neg_add, Int32.sub_eq_add_neg, ← Int32.add_assoc, ← Int32.sub_eq_add_neg (nI a) (nI a), Int32.sub_self, Int32.zero_add]
theorem nI_len {a k : Nat} (ha : a < 2 ^ 31) (h0 : 0 < k) (hk : k < 2 ^ 31) : (nI a ≤ -nI k) = False := by
  refine eq_false ?_
  rw [Int32.not_le]
  exact of_eq_true (nI_ltn ha h0 hk)
theorem flag_c (c : Prop) [Decidable c] (m : Mem) : fM_flag (if c then nI 1 else nI 0) m = some (nI (if c then 1 else 0)) := by
  by_cases h : c
  · rw [if_pos h, if_pos h]; rfl
  · rw [if_neg h, if_neg h]; rfl
theorem flag_d (c : Prop) [Decidable c] (m : Mem) : fM_flag (if c then nI 0 else nI 1) m = some (nI (if c then 0 else 1)) := by
  by_cases h : c
  · rw [if_pos h, if_pos h]; rfl
  · rw [if_neg h, if_neg h]; rfl
theorem flag_0 (m : Mem) : fM_flag (nI 0) m = some (nI 0) := rfl
theorem flag_1 (m : Mem) : fM_flag (nI 1) m = some (nI 1) := rfl
theorem isb_n0 : isb (nI 0) = true := rfl
theorem isb_n1 : isb (nI 1) = true := rfl
theorem gd_tt {α : Type} (a : Option α) : gd true a = a := rfl
def wt7 (t : Nat) : Nat := if t = 0 then 1 else if t = 1 then 7 else if t = 2 then 49 else 343
theorem weightOf_ok {t : Nat} (ht : t < 4) (m : Mem) : fM_weightOf (nI t) m = some (nI (wt7 t)) := by
  unfold fM_weightOf wt7
  simp (disch := omega) only [lit_0, lit_1, lit_2, lit_3, lit_4, lit_5, lit_6, lit_7, lit_8, lit_9, lit_10, lit_11, lit_12, lit_13, lit_14, lit_15, lit_16, lit_17, lit_18, lit_19, lit_20, lit_23, lit_24, lit_31, lit_32, lit_34, lit_36, lit_40, lit_48, lit_49, lit_57, lit_58, lit_59, lit_60, lit_64, lit_96, lit_97, lit_99, lit_101, lit_105, lit_108, lit_110, lit_111, lit_112, lit_114, lit_115, lit_116, lit_122, lit_127, lit_160, lit_216, lit_235, lit_238, lit_343, lit_476, lit_1296, lit_2000, lit_2401, lt_def, bind_s, gd_d, ix_n, inb_n, nI_add, pk_mul, pk_sub, nI_leI, nI_ltI, nI_eq, nI_ltn, nI_eqn, nI_eqn2, if_pos, if_neg, if_true, if_false, nI_addm1]
  by_cases h0 : t = 0
  · simp (disch := omega) only [if_pos, if_neg]
  by_cases h1 : t = 1
  · simp (disch := omega) only [if_pos, if_neg]
  by_cases h2 : t = 2
  · simp (disch := omega) only [if_pos, if_neg]
  · simp (disch := omega) only [if_pos, if_neg]
theorem wt7_pos (t : Nat) : 0 < wt7 t ∧ wt7 t ≤ 343 := by
  unfold wt7
  split
  · omega
  split
  · omega
  split <;> omega
section Acc2
variable {st : Nat → Int32} {A : Ab} {B : Nat → Nat → Nat}
theorem RepR.pl (h : RepR st A B) : st 0 = nI (A 0 0) := h.1
theorem RepR.n (h : RepR st A B) : st 1 = nI (A 4 0) := h.2.1
theorem RepR.ck (h : RepR st A B) : st 2 = nI (A 11 0) := h.2.2.1
theorem RepR.en (h : RepR st A B) : st 3 = nI (A 12 0) := h.2.2.2.1
theorem RepR.tk (h : RepR st A B) {p : Nat} (hp : p < A 0 0) : st (4 + 5 * p) = nI (A 1 p) := (h.2.2.2.2.1 p hp).1
theorem RepR.mi (h : RepR st A B) {p : Nat} (hp : p < A 0 0) : st (4 + 5 * p + 4) = nI (A 3 p) := (h.2.2.2.2.1 p hp).2.1
theorem RepR.le (h : RepR st A B) {p i : Nat} (hp : p < A 0 0) (hi : i < A 1 p) : st (4 + 5 * p + (1 + i)) = nI (B p i) := ((h.2.2.2.2.1 p hp).2.2.1 i hi).1
theorem RepR.ct (h : RepR st A B) {p : Nat} (hp : p < A 0 0) (x : Nat) : cnt (fun i => decide (x ≤ B p i)) (A 1 p) = cnt (fun i => decide (x ≤ A 2 (3 * p + i))) (A 1 p) := (h.2.2.2.2.1 p hp).2.2.2 x
theorem RepR.fr (h : RepR st A B) {t : Nat} (ht : t < A 4 0) : st (34 + 6 * t + 0) = nI (A 5 t) := (h.2.2.2.2.2.1 t ht).1
theorem RepR.to (h : RepR st A B) {t : Nat} (ht : t < A 4 0) : st (34 + 6 * t + 1) = nI (A 6 t) := (h.2.2.2.2.2.1 t ht).2.1
theorem RepR.sz (h : RepR st A B) {t : Nat} (ht : t < A 4 0) : st (34 + 6 * t + 2) = nI (A 7 t) := (h.2.2.2.2.2.1 t ht).2.2.1
theorem RepR.at (h : RepR st A B) {t : Nat} (ht : t < A 4 0) : st (34 + 6 * t + 3) = nI (spotA A t (A 8 t)) := (h.2.2.2.2.2.1 t ht).2.2.2.1
theorem RepR.ss (h : RepR st A B) {t : Nat} (ht : t < A 4 0) : st (34 + 6 * t + 4) = nI (A 9 t) := (h.2.2.2.2.2.1 t ht).2.2.2.2.1
theorem RepR.wh (h : RepR st A B) {t : Nat} (ht : t < A 4 0) : st (34 + 6 * t + 5) = if A 9 t = 0 then -4 else nI (A 10 t) := (h.2.2.2.2.2.1 t ht).2.2.2.2.2
end Acc2
section Ref
variable {μ : Mem} {A : Ab} {B : Nat → Nat → Nat}
theorem oft_ok {t w : Nat} (ht : t < 4) (hw : w < 6) (μ : Mem) : fM_ofTrain (nI t) (nI w) μ = some (μ (5, 0, 1) (34 + 6 * t + w)) := by
  unfold fM_ofTrain
  simp (disch := omega) only [lit_0, lit_1, lit_2, lit_3, lit_4, lit_5, lit_6, lit_7, lit_8, lit_9, lit_10, lit_11, lit_12, lit_13, lit_14, lit_15, lit_16, lit_17, lit_18, lit_19, lit_20, lit_23, lit_24, lit_31, lit_32, lit_34, lit_36, lit_40, lit_48, lit_49, lit_57, lit_58, lit_59, lit_60, lit_64, lit_96, lit_97, lit_99, lit_101, lit_105, lit_108, lit_110, lit_111, lit_112, lit_114, lit_115, lit_116, lit_122, lit_127, lit_160, lit_216, lit_235, lit_238, lit_343, lit_476, lit_1296, lit_2000, lit_2401, lt_def, bind_s, gd_d, ix_n, inb_n, nI_add, pk_mul, pk_sub, nI_leI, nI_ltI, nI_eq, nI_ltn, nI_eqn, nI_eqn2, if_pos, if_neg, if_true, if_false, nI_addm1]
theorem ofp_ok {p w : Nat} (hp : p < 6) (hw : w < 5) (μ : Mem) : fM_ofPlace (nI p) (nI w) μ = some (μ (5, 0, 1) (4 + 5 * p + w)) := by
  unfold fM_ofPlace
  simp (disch := omega) only [lit_0, lit_1, lit_2, lit_3, lit_4, lit_5, lit_6, lit_7, lit_8, lit_9, lit_10, lit_11, lit_12, lit_13, lit_14, lit_15, lit_16, lit_17, lit_18, lit_19, lit_20, lit_23, lit_24, lit_31, lit_32, lit_34, lit_36, lit_40, lit_48, lit_49, lit_57, lit_58, lit_59, lit_60, lit_64, lit_96, lit_97, lit_99, lit_101, lit_105, lit_108, lit_110, lit_111, lit_112, lit_114, lit_115, lit_116, lit_122, lit_127, lit_160, lit_216, lit_235, lit_238, lit_343, lit_476, lit_1296, lit_2000, lit_2401, lt_def, bind_s, gd_d, ix_n, inb_n, nI_add, pk_mul, pk_sub, nI_leI, nI_ltI, nI_eq, nI_ltn, nI_eqn, nI_eqn2, if_pos, if_neg, if_true, if_false, nI_addm1]
theorem of0 (R : RepR (μ (5, 0, 1)) A B) (O : OkA A) {t : Nat} (ht : t < A 4 0) : fM_ofTrain (nI t) (nI 0) μ = some (nI (A 5 t)) := by
  rw [oft_ok (Nat.lt_of_lt_of_le ht O.n4) (by omega), R.fr ht]
theorem of1 (R : RepR (μ (5, 0, 1)) A B) (O : OkA A) {t : Nat} (ht : t < A 4 0) : fM_ofTrain (nI t) (nI 1) μ = some (nI (A 6 t)) := by
  rw [oft_ok (Nat.lt_of_lt_of_le ht O.n4) (by omega), R.to ht]
theorem of2 (R : RepR (μ (5, 0, 1)) A B) (O : OkA A) {t : Nat} (ht : t < A 4 0) : fM_ofTrain (nI t) (nI 2) μ = some (nI (A 7 t)) := by
  rw [oft_ok (Nat.lt_of_lt_of_le ht O.n4) (by omega), R.sz ht]
theorem of3 (R : RepR (μ (5, 0, 1)) A B) (O : OkA A) {t : Nat} (ht : t < A 4 0) : fM_ofTrain (nI t) (nI 3) μ = some (nI (spotA A t (A 8 t))) := by
  rw [oft_ok (Nat.lt_of_lt_of_le ht O.n4) (by omega), R.at ht]
theorem of4 (R : RepR (μ (5, 0, 1)) A B) (O : OkA A) {t : Nat} (ht : t < A 4 0) : fM_ofTrain (nI t) (nI 4) μ = some (nI (A 9 t)) := by
  rw [oft_ok (Nat.lt_of_lt_of_le ht O.n4) (by omega), R.ss ht]
theorem of5 (R : RepR (μ (5, 0, 1)) A B) (O : OkA A) {t : Nat} (ht : t < A 4 0) : fM_ofTrain (nI t) (nI 5) μ = some (if A 9 t = 0 then -4 else nI (A 10 t)) := by
  rw [oft_ok (Nat.lt_of_lt_of_le ht O.n4) (by omega), R.wh ht]
theorem op0 (R : RepR (μ (5, 0, 1)) A B) (O : OkA A) {p : Nat} (hp : p < A 0 0) : fM_ofPlace (nI p) (nI 0) μ = some (nI (A 1 p)) := by
  rw [ofp_ok (Nat.lt_of_lt_of_le hp O.p6) (by omega)]
  exact congrArg some (R.tk hp)
theorem op4 (R : RepR (μ (5, 0, 1)) A B) (O : OkA A) {p : Nat} (hp : p < A 0 0) : fM_ofPlace (nI p) (nI 4) μ = some (nI (A 3 p)) := by
  rw [ofp_ok (Nat.lt_of_lt_of_le hp O.p6) (by omega), R.mi hp]
theorem opi (R : RepR (μ (5, 0, 1)) A B) (O : OkA A) {p i : Nat} (hp : p < A 0 0) (hi : i < A 1 p) : fM_ofPlace (nI p) (nI (1 + i)) μ = some (nI (B p i)) := by
  have := (O.pc hp).2.1
  rw [ofp_ok (Nat.lt_of_lt_of_le hp O.p6) (by omega), R.le hp hi]
theorem spot_at0 (O : OkA A) {t d : Nat} (ht : t < A 4 0) (hd : d ≤ distA A t) : spotA A t d = A 6 t ↔ d = 0 := by
  have h := (O.tr ht).2.2.1
  unfold spotA distA at *
  by_cases z : A 6 t ≤ A 5 t
  · simp only [if_pos z] at *; omega
  · simp only [if_neg z] at *; omega
theorem isDoneIn_ok (R : RepR (μ (5, 0, 1)) A B) (O : OkA A) {t : Nat} (ht : t < A 4 0) : fM_isDoneIn (nI t) μ = some (if A 8 t = 0 then nI 1 else nI 0) := by
  have h := O.tr ht
  have hs := spot_at0 O ht h.2.2.2.2.2.1
  have hl := spotA_lt O ht h.2.2.2.2.2.1
  have h6 := O.p6
  unfold fM_isDoneIn
  simp (disch := omega) only [lit_0, lit_1, lit_2, lit_3, lit_4, lit_5, lit_6, lit_7, lit_8, lit_9, lit_10, lit_11, lit_12, lit_13, lit_14, lit_15, lit_16, lit_17, lit_18, lit_19, lit_20, lit_23, lit_24, lit_31, lit_32, lit_34, lit_36, lit_40, lit_48, lit_49, lit_57, lit_58, lit_59, lit_60, lit_64, lit_96, lit_97, lit_99, lit_101, lit_105, lit_108, lit_110, lit_111, lit_112, lit_114, lit_115, lit_116, lit_122, lit_127, lit_160, lit_216, lit_235, lit_238, lit_343, lit_476, lit_1296, lit_2000, lit_2401, lt_def, bind_s, gd_d, ix_n, inb_n, nI_add, pk_mul, pk_sub, nI_leI, nI_ltI, nI_eq, nI_ltn, nI_eqn, nI_eqn2, if_pos, if_neg, if_true, if_false, nI_addm1, of4 R O ht, of3 R O ht, of1 R O ht, hs]
  by_cases h2 : A 9 t = 2
  · simp (disch := omega) only [if_pos, if_neg]
  · by_cases h1 : A 9 t = 1
    · simp (disch := omega) only [if_pos, if_neg]
      by_cases h3 : A 8 t = 0
      · simp (disch := omega) only [if_pos, if_neg]
      · simp (disch := omega) only [if_pos, if_neg]
    · have h0 := h.2.2.2.2.2.2.2.1 (by omega)
      simp (disch := omega) only [if_pos, if_neg]
theorem withStatus_ok (R : RepR (μ (5, 0, 1)) A B) (O : OkA A) {w : Nat} (hw : w < 2 ^ 31) : fM_withStatus (nI w) μ = some (nI (cnt (fun t => decide (A 9 t = w)) (A 4 0))) := by
  have hn := O.n4
  refine ac20 (A 4 0) (by omega) (fun i => nI (cnt (fun t => decide (A 9 t = w)) i)) (fun sf i hi => ?_) (fun sf => ?_) <;> unfold bM_withStatus_4
  · have h9 := (O.tr hi).2.2.2.2.2.2.1
    simp (disch := omega) only [lit_0, lit_1, lit_2, lit_3, lit_4, lit_5, lit_6, lit_7, lit_8, lit_9, lit_10, lit_11, lit_12, lit_13, lit_14, lit_15, lit_16, lit_17, lit_18, lit_19, lit_20, lit_23, lit_24, lit_31, lit_32, lit_34, lit_36, lit_40, lit_48, lit_49, lit_57, lit_58, lit_59, lit_60, lit_64, lit_96, lit_97, lit_99, lit_101, lit_105, lit_108, lit_110, lit_111, lit_112, lit_114, lit_115, lit_116, lit_122, lit_127, lit_160, lit_216, lit_235, lit_238, lit_343, lit_476, lit_1296, lit_2000, lit_2401, lt_def, bind_s, gd_d, ix_n, inb_n, nI_add, pk_mul, pk_sub, nI_leI, nI_ltI, nI_eq, nI_ltn, nI_eqn, nI_eqn2, if_pos, if_neg, if_true, if_false, nI_addm1, R.n, of4 R O hi, flag_c, cnt_s, decide_eq_true_eq]
  · simp (disch := omega) only [lit_0, lit_1, lit_2, lit_3, lit_4, lit_5, lit_6, lit_7, lit_8, lit_9, lit_10, lit_11, lit_12, lit_13, lit_14, lit_15, lit_16, lit_17, lit_18, lit_19, lit_20, lit_23, lit_24, lit_31, lit_32, lit_34, lit_36, lit_40, lit_48, lit_49, lit_57, lit_58, lit_59, lit_60, lit_64, lit_96, lit_97, lit_99, lit_101, lit_105, lit_108, lit_110, lit_111, lit_112, lit_114, lit_115, lit_116, lit_122, lit_127, lit_160, lit_216, lit_235, lit_238, lit_343, lit_476, lit_1296, lit_2000, lit_2401, lt_def, bind_s, gd_d, ix_n, inb_n, nI_add, pk_mul, pk_sub, nI_leI, nI_ltI, nI_eq, nI_ltn, nI_eqn, nI_eqn2, if_pos, if_neg, if_true, if_false, nI_addm1, R.n]
theorem movesLeft_ok (R : RepR (μ (5, 0, 1)) A B) (O : OkA A) : fM_movesLeft μ = some (nI (sm (fun t => A 8 t) (A 4 0))) := by
  have hn := O.n4
  have h6 := O.p6
  refine ac20 (A 4 0) (by omega) (fun i => nI (sm (fun t => A 8 t) i)) (fun sf i hi => ?_) (fun sf => ?_) <;> unfold bM_movesLeft_4
  · have h := O.tr hi
    have hl := spotA_lt O hi h.2.2.2.2.2.1
    simp (disch := omega) only [lit_0, lit_1, lit_2, lit_3, lit_4, lit_5, lit_6, lit_7, lit_8, lit_9, lit_10, lit_11, lit_12, lit_13, lit_14, lit_15, lit_16, lit_17, lit_18, lit_19, lit_20, lit_23, lit_24, lit_31, lit_32, lit_34, lit_36, lit_40, lit_48, lit_49, lit_57, lit_58, lit_59, lit_60, lit_64, lit_96, lit_97, lit_99, lit_101, lit_105, lit_108, lit_110, lit_111, lit_112, lit_114, lit_115, lit_116, lit_122, lit_127, lit_160, lit_216, lit_235, lit_238, lit_343, lit_476, lit_1296, lit_2000, lit_2401, lt_def, bind_s, gd_d, ix_n, inb_n, nI_add, pk_mul, pk_sub, nI_leI, nI_ltI, nI_eq, nI_ltn, nI_eqn, nI_eqn2, if_pos, if_neg, if_true, if_false, nI_addm1, R.n, of4 R O hi, of1 R O hi, of3 R O hi, sm_s]
    by_cases h2 : A 9 i = 2
    · simp (disch := omega) only [lit_0, lit_1, lit_2, lit_3, lit_4, lit_5, lit_6, lit_7, lit_8, lit_9, lit_10, lit_11, lit_12, lit_13, lit_14, lit_15, lit_16, lit_17, lit_18, lit_19, lit_20, lit_23, lit_24, lit_31, lit_32, lit_34, lit_36, lit_40, lit_48, lit_49, lit_57, lit_58, lit_59, lit_60, lit_64, lit_96, lit_97, lit_99, lit_101, lit_105, lit_108, lit_110, lit_111, lit_112, lit_114, lit_115, lit_116, lit_122, lit_127, lit_160, lit_216, lit_235, lit_238, lit_343, lit_476, lit_1296, lit_2000, lit_2401, lt_def, bind_s, gd_d, ix_n, inb_n, nI_add, pk_mul, pk_sub, nI_leI, nI_ltI, nI_eq, nI_ltn, nI_eqn, nI_eqn2, if_pos, if_neg, if_true, if_false, nI_addm1, h.2.2.2.2.2.2.2.2.2.1 h2]
    · rw [if_neg h2]
      by_cases z : A 6 i ≤ A 5 i
      · have e : spotA A i (A 8 i) = A 6 i + A 8 i := by simp only [spotA, if_pos z]
        rw [e]
        by_cases w : A 8 i = 0
        · simp (disch := omega) only [lit_0, lit_1, lit_2, lit_3, lit_4, lit_5, lit_6, lit_7, lit_8, lit_9, lit_10, lit_11, lit_12, lit_13, lit_14, lit_15, lit_16, lit_17, lit_18, lit_19, lit_20, lit_23, lit_24, lit_31, lit_32, lit_34, lit_36, lit_40, lit_48, lit_49, lit_57, lit_58, lit_59, lit_60, lit_64, lit_96, lit_97, lit_99, lit_101, lit_105, lit_108, lit_110, lit_111, lit_112, lit_114, lit_115, lit_116, lit_122, lit_127, lit_160, lit_216, lit_235, lit_238, lit_343, lit_476, lit_1296, lit_2000, lit_2401, lt_def, bind_s, gd_d, ix_n, inb_n, nI_add, pk_mul, pk_sub, nI_leI, nI_ltI, nI_eq, nI_ltn, nI_eqn, nI_eqn2, if_pos, if_neg, if_true, if_false, nI_addm1, w, Nat.add_zero]
          rw [Nat.sub_self]
          rfl
        · have e2 : nI (A 6 i) - nI (A 6 i + A 8 i) = - nI (A 8 i) := by
            exact nI_subn _ _
          rw [e2]
          simp (disch := omega) only [nI_len, if_false, Int32.neg_neg, nI_add]
      · have e : spotA A i (A 8 i) = A 6 i - A 8 i := by simp only [spotA, if_neg z]
        have hd : A 8 i ≤ A 6 i := by
          have := h.2.2.2.2.2.1
          simp only [distA, if_neg z] at this
          omega
        rw [e]
        simp (disch := omega) only [lit_0, lit_1, lit_2, lit_3, lit_4, lit_5, lit_6, lit_7, lit_8, lit_9, lit_10, lit_11, lit_12, lit_13, lit_14, lit_15, lit_16, lit_17, lit_18, lit_19, lit_20, lit_23, lit_24, lit_31, lit_32, lit_34, lit_36, lit_40, lit_48, lit_49, lit_57, lit_58, lit_59, lit_60, lit_64, lit_96, lit_97, lit_99, lit_101, lit_105, lit_108, lit_110, lit_111, lit_112, lit_114, lit_115, lit_116, lit_122, lit_127, lit_160, lit_216, lit_235, lit_238, lit_343, lit_476, lit_1296, lit_2000, lit_2401, lt_def, bind_s, gd_d, ix_n, inb_n, nI_add, pk_mul, pk_sub, nI_leI, nI_ltI, nI_eq, nI_ltn, nI_eqn, nI_eqn2, if_pos, if_neg, if_true, if_false, nI_addm1]
        congr 3
        omega
  · simp (disch := omega) only [lit_0, lit_1, lit_2, lit_3, lit_4, lit_5, lit_6, lit_7, lit_8, lit_9, lit_10, lit_11, lit_12, lit_13, lit_14, lit_15, lit_16, lit_17, lit_18, lit_19, lit_20, lit_23, lit_24, lit_31, lit_32, lit_34, lit_36, lit_40, lit_48, lit_49, lit_57, lit_58, lit_59, lit_60, lit_64, lit_96, lit_97, lit_99, lit_101, lit_105, lit_108, lit_110, lit_111, lit_112, lit_114, lit_115, lit_116, lit_122, lit_127, lit_160, lit_216, lit_235, lit_238, lit_343, lit_476, lit_1296, lit_2000, lit_2401, lt_def, bind_s, gd_d, ix_n, inb_n, nI_add, pk_mul, pk_sub, nI_leI, nI_ltI, nI_eq, nI_ltn, nI_eqn, nI_eqn2, if_pos, if_neg, if_true, if_false, nI_addm1, R.n]
end Ref
