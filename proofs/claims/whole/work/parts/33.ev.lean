/-! rows that turn Int32 into Nat -/
theorem lit_0 : (0 : Int32) = nI 0 := rfl
theorem lit_1 : (1 : Int32) = nI 1 := rfl
theorem lit_2 : (2 : Int32) = nI 2 := rfl
theorem lit_3 : (3 : Int32) = nI 3 := rfl
theorem lit_4 : (4 : Int32) = nI 4 := rfl
theorem lit_5 : (5 : Int32) = nI 5 := rfl
theorem lit_6 : (6 : Int32) = nI 6 := rfl
theorem lit_7 : (7 : Int32) = nI 7 := rfl
theorem lit_8 : (8 : Int32) = nI 8 := rfl
theorem lit_9 : (9 : Int32) = nI 9 := rfl
theorem lit_10 : (10 : Int32) = nI 10 := rfl
theorem lit_11 : (11 : Int32) = nI 11 := rfl
theorem lit_12 : (12 : Int32) = nI 12 := rfl
theorem lit_13 : (13 : Int32) = nI 13 := rfl
theorem lit_14 : (14 : Int32) = nI 14 := rfl
theorem lit_15 : (15 : Int32) = nI 15 := rfl
theorem lit_16 : (16 : Int32) = nI 16 := rfl
theorem lit_17 : (17 : Int32) = nI 17 := rfl
theorem lit_18 : (18 : Int32) = nI 18 := rfl
theorem lit_19 : (19 : Int32) = nI 19 := rfl
theorem lit_20 : (20 : Int32) = nI 20 := rfl
theorem lit_23 : (23 : Int32) = nI 23 := rfl
theorem lit_24 : (24 : Int32) = nI 24 := rfl
theorem lit_31 : (31 : Int32) = nI 31 := rfl
theorem lit_32 : (32 : Int32) = nI 32 := rfl
theorem lit_34 : (34 : Int32) = nI 34 := rfl
theorem lit_36 : (36 : Int32) = nI 36 := rfl
theorem lit_40 : (40 : Int32) = nI 40 := rfl
theorem lit_48 : (48 : Int32) = nI 48 := rfl
theorem lit_49 : (49 : Int32) = nI 49 := rfl
theorem lit_57 : (57 : Int32) = nI 57 := rfl
theorem lit_58 : (58 : Int32) = nI 58 := rfl
theorem lit_59 : (59 : Int32) = nI 59 := rfl
theorem lit_60 : (60 : Int32) = nI 60 := rfl
theorem lit_64 : (64 : Int32) = nI 64 := rfl
theorem lit_96 : (96 : Int32) = nI 96 := rfl
theorem lit_97 : (97 : Int32) = nI 97 := rfl
theorem lit_99 : (99 : Int32) = nI 99 := rfl
theorem lit_101 : (101 : Int32) = nI 101 := rfl
theorem lit_105 : (105 : Int32) = nI 105 := rfl
theorem lit_108 : (108 : Int32) = nI 108 := rfl
theorem lit_110 : (110 : Int32) = nI 110 := rfl
theorem lit_111 : (111 : Int32) = nI 111 := rfl
theorem lit_112 : (112 : Int32) = nI 112 := rfl
theorem lit_114 : (114 : Int32) = nI 114 := rfl
theorem lit_115 : (115 : Int32) = nI 115 := rfl
theorem lit_116 : (116 : Int32) = nI 116 := rfl
theorem lit_122 : (122 : Int32) = nI 122 := rfl
theorem lit_127 : (127 : Int32) = nI 127 := rfl
theorem lit_160 : (160 : Int32) = nI 160 := rfl
theorem lit_216 : (216 : Int32) = nI 216 := rfl
theorem lit_235 : (235 : Int32) = nI 235 := rfl
theorem lit_238 : (238 : Int32) = nI 238 := rfl
theorem lit_343 : (343 : Int32) = nI 343 := rfl
theorem lit_476 : (476 : Int32) = nI 476 := rfl
theorem lit_1296 : (1296 : Int32) = nI 1296 := rfl
theorem lit_2000 : (2000 : Int32) = nI 2000 := rfl
theorem lit_2401 : (2401 : Int32) = nI 2401 := rfl
theorem gd_d {α : Type} {c : Prop} [Decidable c] (h : c) (a : Option α) : gd (decide c) a = a := gd_t (decide_eq_true h) a
theorem nI_addm1 {a : Nat} (h : 0 < a) : nI a + (-nI 1) = nI (a - 1) := nI_m1 h
theorem nI_eqn {a k : Nat} (ha : a < 2 ^ 31) (h0 : 0 < k) (hk : k < 2 ^ 31) : (nI a = -nI k) = False := by
  refine eq_false (fun h => ?_)
  have h1 : (nI a).toInt = (-nI k).toInt := by rw [h]
  rw [nI_toInt ha, Int32.toInt_neg, nI_toInt hk] at h1
  have : ((-(k : Int)).bmod (2 ^ 32)) = -(k : Int) := by
    apply Int.bmod_eq_of_le <;> omega
  rw [this] at h1
  omega
theorem nI_eqn2 {a k : Nat} (ha : a < 2 ^ 31) (h0 : 0 < k) (hk : k < 2 ^ 31) : (-nI k = nI a) = False := by
  rw [eq_comm (a := -nI k), nI_eqn ha h0 hk]
theorem nI_ltn {a k : Nat} (ha : a < 2 ^ 31) (h0 : 0 < k) (hk : k < 2 ^ 31) : (-nI k < nI a) = True := by
  refine eq_true ?_
  rw [Int32.lt_iff_toInt_lt, Int32.toInt_neg, nI_toInt hk, nI_toInt ha]
  have : ((-(k : Int)).bmod (2 ^ 32)) = -(k : Int) := by
    apply Int.bmod_eq_of_le <;> omega
  rw [this]
  omega
section Ev
variable {μ : Mem} {k : Nat} {A : Ab}
/-- the greatest of the first n -/
def mx (f : Nat → Nat) : Nat → Nat
  | 0 => 0
  | n + 1 => if mx f n < f n then f n else mx f n
theorem mx_s (f : Nat → Nat) (n : Nat) : mx f (n + 1) = if mx f n < f n then f n else mx f n := rfl
theorem mx_lt {f : Nat → Nat} {b : Nat} (hb : 0 < b) : ∀ {n : Nat}, (∀ i, i < n → f i < b) → mx f n < b
  | 0, _ => hb
  | n + 1, h => by
    rw [mx_s]
    split
    · exact h n (by omega)
    · exact mx_lt hb (fun i hi => h i (by omega))
theorem latestEnd_ok (R : RepL μ k A) (O : OkA A) (hd : ∀ t, t < A 4 0 → A 9 t ≠ 0) : fL_latestEnd k μ = some (nI (mx (fun t => A 10 t) (A 4 0))) := by
  have hn := O.n4
  refine ac20 (A 4 0) (by omega) (fun i => nI (mx (fun t => A 10 t) i)) (fun sf i hi => ?_) (fun sf => ?_) <;> unfold bL_latestEnd_4
  · have h1 := mx_lt (f := fun t => A 10 t) (b := 2 ^ 20) (by omega) (n := i) (fun j hj => (O.tr (t := j) (by omega)).2.2.2.2.2.2.2.2.2.2.1)
    have h2 := (O.tr hi).2.2.2.2.2.2.2.2.2.2.1
    have h3 := R.wh hi (hd i hi)
    simp (disch := omega) only [lit_0, lit_1, lit_2, lit_3, lit_4, lit_5, lit_6, lit_7, lit_8, lit_9, lit_10, lit_11, lit_12, lit_13, lit_14, lit_15, lit_16, lit_17, lit_18, lit_19, lit_20, lit_23, lit_24, lit_31, lit_32, lit_34, lit_36, lit_40, lit_48, lit_49, lit_57, lit_58, lit_59, lit_60, lit_64, lit_96, lit_97, lit_99, lit_101, lit_105, lit_108, lit_110, lit_111, lit_112, lit_114, lit_115, lit_116, lit_122, lit_127, lit_160, lit_216, lit_235, lit_238, lit_343, lit_476, lit_1296, lit_2000, lit_2401, lt_def, bind_s, gd_d, ix_n, inb_n, nI_add, pk_mul, pk_sub, nI_leI, nI_ltI, nI_eq, nI_ltn, nI_eqn, nI_eqn2, if_pos, if_neg, if_true, if_false, nI_addm1, R.n, h3, mx_s]
    split <;> rfl
  · simp (disch := omega) only [lit_0, lit_1, lit_2, lit_3, lit_4, lit_5, lit_6, lit_7, lit_8, lit_9, lit_10, lit_11, lit_12, lit_13, lit_14, lit_15, lit_16, lit_17, lit_18, lit_19, lit_20, lit_23, lit_24, lit_31, lit_32, lit_34, lit_36, lit_40, lit_48, lit_49, lit_57, lit_58, lit_59, lit_60, lit_64, lit_96, lit_97, lit_99, lit_101, lit_105, lit_108, lit_110, lit_111, lit_112, lit_114, lit_115, lit_116, lit_122, lit_127, lit_160, lit_216, lit_235, lit_238, lit_343, lit_476, lit_1296, lit_2000, lit_2401, lt_def, bind_s, gd_d, ix_n, inb_n, nI_add, pk_mul, pk_sub, nI_leI, nI_ltI, nI_eq, nI_ltn, nI_eqn, nI_eqn2, if_pos, if_neg, if_true, if_false, nI_addm1, R.n]
/-- how long to the next that comes -/
def wtA (A : Ab) : Nat → Nat
  | 0 => 0
  | n + 1 => if A 9 n = 1 ∧ (wtA A n = 0 ∨ A 10 n - A 11 0 < wtA A n) then A 10 n - A 11 0 else wtA A n
theorem wtA_s (A : Ab) (n : Nat) : wtA A (n + 1) = if A 9 n = 1 ∧ (wtA A n = 0 ∨ A 10 n - A 11 0 < wtA A n) then A 10 n - A 11 0 else wtA A n := rfl
theorem wtA_le (O : OkA A) : ∀ {n}, n ≤ A 4 0 → wtA A n ≤ 9
  | 0, _ => by simp [wtA]
  | n + 1, h => by
    have := wtA_le O (n := n) (by omega)
    rw [wtA_s]
    split
    · rename_i hh
      have := (O.tr (t := n) (by omega)).2.2.2.2.2.2.2.2.2.2.2 hh.1
      omega
    · exact this
theorem waitForNext_ok (R : RepL μ k A) (O : OkA A) : fL_waitForNext k μ = some (nI (wtA A (A 4 0))) := by
  have hn := O.n4
  refine ac20 (A 4 0) (by omega) (fun i => nI (wtA A i)) (fun sf i hi => ?_) (fun sf => ?_) <;> unfold bL_waitForNext_4
  · have h1 := wtA_le O (n := i) (by omega)
    have h2 := (O.tr hi).2.2.2.2.2.2.2.2.2.2
    have h9 := (O.tr hi).2.2.2.2.2.2.1
    have hc := O.ck
    by_cases h : A 9 i = 1
    · have h3 := R.wh hi (by omega)
      have h4 := h2.2 h
      simp (disch := omega) only [lit_0, lit_1, lit_2, lit_3, lit_4, lit_5, lit_6, lit_7, lit_8, lit_9, lit_10, lit_11, lit_12, lit_13, lit_14, lit_15, lit_16, lit_17, lit_18, lit_19, lit_20, lit_23, lit_24, lit_31, lit_32, lit_34, lit_36, lit_40, lit_48, lit_49, lit_57, lit_58, lit_59, lit_60, lit_64, lit_96, lit_97, lit_99, lit_101, lit_105, lit_108, lit_110, lit_111, lit_112, lit_114, lit_115, lit_116, lit_122, lit_127, lit_160, lit_216, lit_235, lit_238, lit_343, lit_476, lit_1296, lit_2000, lit_2401, lt_def, bind_s, gd_d, ix_n, inb_n, nI_add, pk_mul, pk_sub, nI_leI, nI_ltI, nI_eq, nI_ltn, nI_eqn, nI_eqn2, if_pos, if_neg, if_true, if_false, nI_addm1, R.n, h3, R.ss, R.ck, wtA_s, jL_waitForNext_41]
      by_cases z : wtA A i = 0
      · simp (disch := omega) only [if_pos, if_neg]
      · by_cases z2 : A 10 i - A 11 0 < wtA A i
        · simp (disch := omega) only [if_pos, if_neg]
        · simp (disch := omega) only [if_pos, if_neg]
    · simp (disch := omega) only [lit_0, lit_1, lit_2, lit_3, lit_4, lit_5, lit_6, lit_7, lit_8, lit_9, lit_10, lit_11, lit_12, lit_13, lit_14, lit_15, lit_16, lit_17, lit_18, lit_19, lit_20, lit_23, lit_24, lit_31, lit_32, lit_34, lit_36, lit_40, lit_48, lit_49, lit_57, lit_58, lit_59, lit_60, lit_64, lit_96, lit_97, lit_99, lit_101, lit_105, lit_108, lit_110, lit_111, lit_112, lit_114, lit_115, lit_116, lit_122, lit_127, lit_160, lit_216, lit_235, lit_238, lit_343, lit_476, lit_1296, lit_2000, lit_2401, lt_def, bind_s, gd_d, ix_n, inb_n, nI_add, pk_mul, pk_sub, nI_leI, nI_ltI, nI_eq, nI_ltn, nI_eqn, nI_eqn2, if_pos, if_neg, if_true, if_false, nI_addm1, R.n, R.ss, wtA_s]
  · simp (disch := omega) only [lit_0, lit_1, lit_2, lit_3, lit_4, lit_5, lit_6, lit_7, lit_8, lit_9, lit_10, lit_11, lit_12, lit_13, lit_14, lit_15, lit_16, lit_17, lit_18, lit_19, lit_20, lit_23, lit_24, lit_31, lit_32, lit_34, lit_36, lit_40, lit_48, lit_49, lit_57, lit_58, lit_59, lit_60, lit_64, lit_96, lit_97, lit_99, lit_101, lit_105, lit_108, lit_110, lit_111, lit_112, lit_114, lit_115, lit_116, lit_122, lit_127, lit_160, lit_216, lit_235, lit_238, lit_343, lit_476, lit_1296, lit_2000, lit_2401, lt_def, bind_s, gd_d, ix_n, inb_n, nI_add, pk_mul, pk_sub, nI_leI, nI_ltI, nI_eq, nI_ltn, nI_eqn, nI_eqn2, if_pos, if_neg, if_true, if_false, nI_addm1, R.n]
theorem hasAll_ok (R : RepL μ k A) (hn : A 4 0 ≤ 4) (hp : A 0 0 < 2 ^ 31) (hb : ∀ t, t < A 4 0 → A 5 t < 2 ^ 31 ∧ A 6 t < 2 ^ 31) : fL_hasAllToldPlaces k μ = some (if ∀ t, t < A 4 0 → A 5 t < A 0 0 ∧ A 6 t < A 0 0 then 1 else 0) := by
  refine up10 (fun r => r = some (if ∀ t, t < A 4 0 → A 5 t < A 0 0 ∧ A 6 t < A 0 0 then 1 else 0)) (A 4 0) (by omega) (fun i => ∀ t, t < i → A 5 t < A 0 0 ∧ A 6 t < A 0 0) (fun j hj => absurd hj (by omega)) (fun sf i hi hJ => ?_) (fun sf hJ => ?_) <;> unfold bL_hasAllToldPlaces_2
  · have hb1 := hb i hi
    simp (disch := omega) only [lit_0, lit_1, lit_2, lit_3, lit_4, lit_5, lit_6, lit_7, lit_8, lit_9, lit_10, lit_11, lit_12, lit_13, lit_14, lit_15, lit_16, lit_17, lit_18, lit_19, lit_20, lit_23, lit_24, lit_31, lit_32, lit_34, lit_36, lit_40, lit_48, lit_49, lit_57, lit_58, lit_59, lit_60, lit_64, lit_96, lit_97, lit_99, lit_101, lit_105, lit_108, lit_110, lit_111, lit_112, lit_114, lit_115, lit_116, lit_122, lit_127, lit_160, lit_216, lit_235, lit_238, lit_343, lit_476, lit_1296, lit_2000, lit_2401, lt_def, bind_s, gd_d, ix_n, inb_n, nI_add, pk_mul, pk_sub, nI_leI, nI_ltI, nI_eq, nI_ltn, nI_eqn, nI_eqn2, if_pos, if_neg, if_true, if_false, nI_addm1, R.n, R.pl, R.fr, R.to]
    by_cases h1 : A 5 i < A 0 0
    · by_cases h2 : A 6 i < A 0 0
      · left
        simp (disch := omega) only [if_pos, if_neg, and_true]
        intro t ht
        by_cases e : t = i
        · subst e; exact ⟨h1, h2⟩
        · exact hJ t (by omega)
      · right
        simp (disch := omega) only [if_pos, if_neg]
        rw [if_neg (fun z => h2 (z i hi).2)]
    · right
      simp (disch := omega) only [if_pos, if_neg]
      rw [if_neg (fun z => h1 (z i hi).1)]
  · simp (disch := omega) only [lit_0, lit_1, lit_2, lit_3, lit_4, lit_5, lit_6, lit_7, lit_8, lit_9, lit_10, lit_11, lit_12, lit_13, lit_14, lit_15, lit_16, lit_17, lit_18, lit_19, lit_20, lit_23, lit_24, lit_31, lit_32, lit_34, lit_36, lit_40, lit_48, lit_49, lit_57, lit_58, lit_59, lit_60, lit_64, lit_96, lit_97, lit_99, lit_101, lit_105, lit_108, lit_110, lit_111, lit_112, lit_114, lit_115, lit_116, lit_122, lit_127, lit_160, lit_216, lit_235, lit_238, lit_343, lit_476, lit_1296, lit_2000, lit_2401, lt_def, bind_s, gd_d, ix_n, inb_n, nI_add, pk_mul, pk_sub, nI_leI, nI_ltI, nI_eq, nI_ltn, nI_eqn, nI_eqn2, if_pos, if_neg, if_true, if_false, nI_addm1, R.n]
end Ev
