def setS (A : Ab) (t v : Nat) : Ab := fun f => if f = 9 then upx (A 9) t v else A f
def tkA (A : Ab) (n i : Nat) : Ab := fun f => if f = 11 then (fun _ => A 11 0 + n) else if f = 9 then (fun t => if t < i ∧ A 9 t = 1 ∧ A 10 t ≤ A 11 0 + n then (if A 8 t = 0 then 2 else 0) else A 9 t) else A f
def tickA (A : Ab) (n : Nat) : Ab := tkA A n (A 4 0)
theorem setS_o (A : Ab) (t v : Nat) {f : Nat} (h : f ≠ 9) : setS A t v f = A f := if_neg h
theorem setS_9 (A : Ab) (t v : Nat) : setS A t v 9 = upx (A 9) t v := if_pos rfl
theorem tkA_o (A : Ab) (n i : Nat) {f : Nat} (h : f ≠ 9) (h1 : f ≠ 11) : tkA A n i f = A f := by
  unfold tkA; rw [if_neg h1, if_neg h]
theorem tkA_11 (A : Ab) (n i : Nat) : tkA A n i 11 = fun _ => A 11 0 + n := rfl
theorem tkA_c (A : Ab) (n i : Nat) : tkA A n i 11 0 = A 11 0 + n := rfl
theorem tkA_9 (A : Ab) (n i t : Nat) : tkA A n i 9 t = if t < i ∧ A 9 t = 1 ∧ A 10 t ≤ A 11 0 + n then (if A 8 t = 0 then 2 else 0) else A 9 t := rfl
theorem tkA_no {A : Ab} {n i : Nat} (h : ¬ (A 9 i = 1 ∧ A 10 i ≤ A 11 0 + n)) : tkA A n (i + 1) = tkA A n i := by
  funext f t
  by_cases e9 : f = 9
  · subst e9
    rw [tkA_9, tkA_9]
    by_cases c : t < i ∧ A 9 t = 1 ∧ A 10 t ≤ A 11 0 + n
    · rw [if_pos c, if_pos ⟨by omega, c.2⟩]
    · rw [if_neg c, if_neg (fun z => ?_)]
      by_cases e : t = i
      · subst e; exact h z.2
      · exact c ⟨by omega, z.2⟩
  · by_cases e11 : f = 11
    · subst e11; rfl
    · rw [tkA_o A n _ e9 e11, tkA_o A n _ e9 e11]
theorem tkA_yes {A : Ab} {n i : Nat} (h : A 9 i = 1 ∧ A 10 i ≤ A 11 0 + n) : tkA A n (i + 1) = setS (tkA A n i) i (if A 8 i = 0 then 2 else 0) := by
  funext f t
  by_cases e9 : f = 9
  · subst e9
    rw [setS_9, tkA_9]
    by_cases e : t = i
    · subst e; rw [upx_at, if_pos ⟨by omega, h⟩]
    · rw [upx_ne _ e, tkA_9]
      by_cases c : t < i ∧ A 9 t = 1 ∧ A 10 t ≤ A 11 0 + n
      · rw [if_pos c, if_pos ⟨by omega, c.2⟩]
      · rw [if_neg c, if_neg (fun z => c ⟨by omega, z.2⟩)]
  · rw [setS_o _ _ _ e9]
    by_cases e11 : f = 11
    · subst e11; rfl
    · rw [tkA_o A n _ e9 e11, tkA_o A n _ e9 e11]
section Tick
variable {μ : Mem} {k : Nat} {A : Ab} {B : Nat → Nat → Nat}
theorem RepL_ss (R : RepL μ k A) {t v : Nat} (ht : t < A 4 0) (hw : A 9 t ≠ 0) : RepL (wr μ (0, k, 10) t (nI v)) k (setS A t v) := by
  have fr : ∀ j i, j ≠ 10 → (wr μ (0, k, 10) t (nI v)) (0, k, j) i = μ (0, k, j) i := fun j i h => wr_off _ _ (by simp; omega)
  obtain ⟨r1, r2, r3, r4, r5, r6, r7⟩ := R
  refine ⟨?_, ?_, ?_, ?_, fun p hp => ?_, fun u hu => ?_, fun i hi => ?_⟩
  · rw [fr 0 0 (by omega), setS_o _ _ _ (by omega)]; exact r1
  · rw [fr 0 4 (by omega), setS_o _ _ _ (by omega)]; exact r2
  · rw [fr 0 11 (by omega), setS_o _ _ _ (by omega)]; exact r3
  · rw [fr 0 12 (by omega), setS_o _ _ _ (by omega)]; exact r4
  · rw [setS_o _ _ _ (by omega)] at hp
    rw [setS_o _ _ _ (by omega), setS_o _ _ _ (by omega), setS_o _ _ _ (by omega), fr 2 p (by omega), fr 4 p (by omega)]
    have := r5 p hp
    exact ⟨this.1, this.2.1, fun i hi => by rw [fr 3 _ (by omega)]; exact this.2.2 i hi⟩
  · rw [setS_o _ _ _ (by omega)] at hu
    rw [setS_o A t v (f := 5) (by omega), setS_o A t v (f := 6) (by omega), setS_o A t v (f := 7) (by omega), setS_o A t v (f := 8) (by omega), setS_o A t v (f := 10) (by omega), setS_9, fr 6 u (by omega), fr 7 u (by omega), fr 8 u (by omega), fr 9 u (by omega), fr 11 u (by omega)]
    have := r6 u hu
    refine ⟨this.1, this.2.1, this.2.2.1, this.2.2.2.1, ?_, fun hz => ?_⟩
    · rw [wr_get]
      by_cases e : u = t
      · rw [if_pos ⟨rfl, e⟩, e, upx_at]
      · rw [if_neg (fun z => e z.2), upx_ne _ e]; exact this.2.2.2.2.1
    · by_cases e : u = t
      · subst e; exact this.2.2.2.2.2 hw
      · rw [upx_ne _ e] at hz; exact this.2.2.2.2.2 hz
  · rw [setS_o _ _ _ (by omega)] at hi
    rw [setS_o _ _ _ (by omega), setS_o _ _ _ (by omega), setS_o _ _ _ (by omega), fr 14 i (by omega), fr 15 i (by omega), fr 16 i (by omega)]
    exact r7 i hi
theorem OkA_tick (O : OkA A) {n : Nat} (hc : A 11 0 + n < 2 ^ 20) : OkA (tickA A n) := by
  obtain ⟨o1, o2, o3, o4, o5, o6, o7⟩ := O
  have dd : ∀ u, distA (tickA A n) u = distA A u := fun u => by
    unfold distA tickA; rw [tkA_o A n _ (by omega) (by omega), tkA_o A n _ (by omega) (by omega)]
  refine ⟨?_, ?_, ?_, ?_, fun p hp => ?_, fun u hu => ?_, fun i hi => ?_⟩
  · unfold tickA; rw [tkA_o A n _ (by omega) (by omega)]; exact o1
  · unfold tickA; rw [tkA_o A n _ (by omega) (by omega)]; exact o2
  · unfold tickA; rw [tkA_11]; exact hc
  · unfold tickA; rw [tkA_o A n _ (by omega) (by omega)]; exact o4
  · unfold tickA at *
    rw [tkA_o A n _ (by omega) (by omega)] at hp
    rw [tkA_o A n _ (by omega) (by omega), tkA_o A n _ (by omega) (by omega), tkA_o A n _ (by omega) (by omega)]
    exact o5 p hp
  · rw [dd]
    unfold tickA at *
    rw [tkA_o A n _ (by omega) (by omega)] at hu
    have h := o6 u hu
    rw [tkA_o A n _ (f := 0) (by omega) (by omega), tkA_o A n _ (f := 5) (by omega) (by omega), tkA_o A n _ (f := 6) (by omega) (by omega), tkA_o A n _ (f := 7) (by omega) (by omega), tkA_o A n _ (f := 8) (by omega) (by omega), tkA_o A n _ (f := 10) (by omega) (by omega), tkA_c, tkA_9]
    refine ⟨h.1, h.2.1, h.2.2.1, h.2.2.2.1, h.2.2.2.2.1, h.2.2.2.2.2.1, ?_, ?_, ?_, ?_, h.2.2.2.2.2.2.2.2.2.2.1, ?_⟩
    all_goals
      by_cases c : u < A 4 0 ∧ A 9 u = 1 ∧ A 10 u ≤ A 11 0 + n
      · rw [if_pos c]
        by_cases z : A 8 u = 0
        · simp only [if_pos z]; omega
        · simp only [if_neg z]; omega
      · rw [if_neg c]; omega
  · unfold tickA at *
    rw [tkA_o A n _ (by omega) (by omega)] at hi
    rw [tkA_o A n _ (by omega) (by omega), tkA_o A n _ (by omega) (by omega), tkA_o A n _ (by omega) (by omega)]
    exact o7 i hi
theorem tick_st (A : Ab) (n : Nat) : StEq A (tickA A n) := fun f hf => tkA_o A n _ (by omega) (by omega)
theorem dA_tick (A : Ab) (n : Nat) : dA (tickA A n) = dA A := by
  funext t
  unfold dA tickA
  rw [tkA_o A n _ (by omega) (by omega), tkA_o A n _ (by omega) (by omega)]
def cameA (A : Ab) (n : Nat) (t : Nat) : Bool := decide (A 9 t = 1 ∧ A 10 t ≤ A 11 0 + n)
theorem passTime_ok (R : RepL μ k A) (O : OkA A) {n : Nat} (hc : A 11 0 + n < 2 ^ 20) : ∃ μ', fL_passTime k (nI n) μ = some (nI (cnt (cameA A n) (A 4 0)), μ') ∧ Off (sLn k) μ μ' ∧ RepL μ' k (tickA A n) := by
  have hn := O.n4
  unfold fL_passTime
  simp (disch := omega) only [lit_0, lit_1, lit_2, lit_3, lit_4, lit_5, lit_6, lit_7, lit_8, lit_9, lit_10, lit_11, lit_12, lit_13, lit_14, lit_15, lit_16, lit_17, lit_18, lit_19, lit_20, lit_23, lit_24, lit_31, lit_32, lit_34, lit_36, lit_40, lit_48, lit_49, lit_57, lit_58, lit_59, lit_60, lit_64, lit_96, lit_97, lit_99, lit_101, lit_105, lit_108, lit_110, lit_111, lit_112, lit_114, lit_115, lit_116, lit_122, lit_127, lit_160, lit_216, lit_235, lit_238, lit_343, lit_476, lit_1296, lit_2000, lit_2401, lt_def, bind_s, gd_d, ix_n, inb_n, nI_add, pk_mul, pk_sub, nI_leI, nI_ltI, nI_eq, nI_ltn, nI_eqn, nI_eqn2, if_pos, if_neg, if_true, if_false, nI_addm1, R.ck]
  have R0 : RepL (wr μ (0, k, 0) 11 (nI (A 11 0 + n))) k (tkA A n 0) := by
    have fr : ∀ j i, (j ≠ 0 ∨ i ≠ 11) → (wr μ (0, k, 0) 11 (nI (A 11 0 + n))) (0, k, j) i = μ (0, k, j) i := fun j i h => wr_off _ _ (by simp; omega)
    have e9 : tkA A n 0 9 = A 9 := by funext t; rw [tkA_9, if_neg (by omega)]
    have o : ∀ f, f ≠ 9 → f ≠ 11 → tkA A n 0 f = A f := fun f a b => tkA_o A n 0 a b
    unfold RepL at *
    rw [e9, o 0 (by omega) (by omega), o 1 (by omega) (by omega), o 2 (by omega) (by omega), o 3 (by omega) (by omega), o 4 (by omega) (by omega), o 5 (by omega) (by omega), o 6 (by omega) (by omega), o 7 (by omega) (by omega), o 8 (by omega) (by omega), o 10 (by omega) (by omega), o 12 (by omega) (by omega), o 13 (by omega) (by omega), o 14 (by omega) (by omega), o 15 (by omega) (by omega)]
    simp only [fr 0 0 (by omega), fr 0 4 (by omega), fr 0 12 (by omega), fun i => fr 2 i (by omega), fun i => fr 3 i (by omega), fun i => fr 4 i (by omega), fun i => fr 6 i (by omega), fun i => fr 7 i (by omega), fun i => fr 8 i (by omega), fun i => fr 9 i (by omega), fun i => fr 10 i (by omega), fun i => fr 11 i (by omega), fun i => fr 14 i (by omega), fun i => fr 15 i (by omega), fun i => fr 16 i (by omega)]
    exact ⟨R.1, R.2.1, wr_at _ _ _ _, R.2.2.2⟩
  refine up21 (B := bL_passTime_14 k) (fun r => ∃ μ', r = some (nI (cnt (cameA A n) (A 4 0)), μ') ∧ Off (sLn k) μ μ' ∧ RepL μ' k (tickA A n)) (A 4 0) (by omega) (fun i a m => a = nI (cnt (cameA A n) i) ∧ Off (sLn k) μ m ∧ RepL m k (tkA A n i)) ⟨rfl, Off_wr (Off_refl _ _) (by simp [sLn]), R0⟩ (fun sf i a m hi hJ => ?_) (fun sf a m hJ => ?_) <;> unfold bL_passTime_14
  · obtain ⟨rfl, o1, R1⟩ := hJ
    have h := O.tr hi
    have hcl := cnt_le (cameA A n) i
    have t4 : tkA A n i 4 0 = A 4 0 := by rw [tkA_o A n _ (by omega) (by omega)]
    have n1 := R1.n
    have s1 := R1.ss (t := i) (by rw [t4]; exact hi)
    have l1 := R1.lf (t := i) (by rw [t4]; exact hi)
    have c1 := R1.ck
    rw [t4] at n1
    rw [tkA_9, if_neg (by omega)] at s1
    rw [tkA_o A n _ (by omega) (by omega)] at l1
    rw [tkA_11] at c1
    left
    by_cases z : A 9 i = 1
    · have w1 := R1.wh (t := i) (by rw [t4]; exact hi) (by rw [tkA_9, if_neg (by omega)]; omega)
      rw [tkA_o A n _ (by omega) (by omega)] at w1
      by_cases y : A 10 i ≤ A 11 0 + n
      · have hb : cameA A n i = true := decide_eq_true ⟨z, y⟩
        have h5 := dist_le O hi
        simp (disch := omega) only [lit_0, lit_1, lit_2, lit_3, lit_4, lit_5, lit_6, lit_7, lit_8, lit_9, lit_10, lit_11, lit_12, lit_13, lit_14, lit_15, lit_16, lit_17, lit_18, lit_19, lit_20, lit_23, lit_24, lit_31, lit_32, lit_34, lit_36, lit_40, lit_48, lit_49, lit_57, lit_58, lit_59, lit_60, lit_64, lit_96, lit_97, lit_99, lit_101, lit_105, lit_108, lit_110, lit_111, lit_112, lit_114, lit_115, lit_116, lit_122, lit_127, lit_160, lit_216, lit_235, lit_238, lit_343, lit_476, lit_1296, lit_2000, lit_2401, lt_def, bind_s, gd_d, ix_n, inb_n, nI_add, pk_mul, pk_sub, nI_leI, nI_ltI, nI_eq, nI_ltn, nI_eqn, nI_eqn2, if_pos, if_neg, if_true, if_false, nI_addm1, n1, s1, w1, c1, l1]
        refine ⟨_, _, ⟨?_, Off_wr o1 (by simp [sLn]), ?_⟩, rfl⟩
        · rw [cnt_s, if_pos hb]
        · rw [tkA_yes ⟨z, y⟩]
          have := RepL_ss R1 (t := i) (v := if A 8 i = 0 then 2 else 0) (by rw [t4]; exact hi) (by rw [tkA_9, if_neg (by omega)]; omega)
          by_cases q : A 8 i = 0
          · simp only [if_pos q] at *; exact this
          · simp only [if_neg q] at *; exact this
      · have hb : cameA A n i = false := decide_eq_false (fun q => y q.2)
        simp (disch := omega) only [lit_0, lit_1, lit_2, lit_3, lit_4, lit_5, lit_6, lit_7, lit_8, lit_9, lit_10, lit_11, lit_12, lit_13, lit_14, lit_15, lit_16, lit_17, lit_18, lit_19, lit_20, lit_23, lit_24, lit_31, lit_32, lit_34, lit_36, lit_40, lit_48, lit_49, lit_57, lit_58, lit_59, lit_60, lit_64, lit_96, lit_97, lit_99, lit_101, lit_105, lit_108, lit_110, lit_111, lit_112, lit_114, lit_115, lit_116, lit_122, lit_127, lit_160, lit_216, lit_235, lit_238, lit_343, lit_476, lit_1296, lit_2000, lit_2401, lt_def, bind_s, gd_d, ix_n, inb_n, nI_add, pk_mul, pk_sub, nI_leI, nI_ltI, nI_eq, nI_ltn, nI_eqn, nI_eqn2, if_pos, if_neg, if_true, if_false, nI_addm1, n1, s1, w1, c1]
        refine ⟨_, m, ⟨?_, o1, ?_⟩, rfl⟩
        · rw [cnt_s, hb]; simp
        · rw [tkA_no (fun q => y q.2)]; exact R1
    · have hb : cameA A n i = false := decide_eq_false (fun q => z q.1)
      simp (disch := omega) only [lit_0, lit_1, lit_2, lit_3, lit_4, lit_5, lit_6, lit_7, lit_8, lit_9, lit_10, lit_11, lit_12, lit_13, lit_14, lit_15, lit_16, lit_17, lit_18, lit_19, lit_20, lit_23, lit_24, lit_31, lit_32, lit_34, lit_36, lit_40, lit_48, lit_49, lit_57, lit_58, lit_59, lit_60, lit_64, lit_96, lit_97, lit_99, lit_101, lit_105, lit_108, lit_110, lit_111, lit_112, lit_114, lit_115, lit_116, lit_122, lit_127, lit_160, lit_216, lit_235, lit_238, lit_343, lit_476, lit_1296, lit_2000, lit_2401, lt_def, bind_s, gd_d, ix_n, inb_n, nI_add, pk_mul, pk_sub, nI_leI, nI_ltI, nI_eq, nI_ltn, nI_eqn, nI_eqn2, if_pos, if_neg, if_true, if_false, nI_addm1, n1, s1]
      refine ⟨_, m, ⟨?_, o1, ?_⟩, rfl⟩
      · rw [cnt_s, hb]; simp
      · rw [tkA_no (fun q => z q.1)]; exact R1
  · obtain ⟨rfl, o1, R1⟩ := hJ
    have t4 : tkA A n (A 4 0) 4 0 = A 4 0 := by rw [tkA_o A n _ (by omega) (by omega)]
    have n1 := R1.n
    rw [t4] at n1
    simp (disch := omega) only [lit_0, lit_1, lit_2, lit_3, lit_4, lit_5, lit_6, lit_7, lit_8, lit_9, lit_10, lit_11, lit_12, lit_13, lit_14, lit_15, lit_16, lit_17, lit_18, lit_19, lit_20, lit_23, lit_24, lit_31, lit_32, lit_34, lit_36, lit_40, lit_48, lit_49, lit_57, lit_58, lit_59, lit_60, lit_64, lit_96, lit_97, lit_99, lit_101, lit_105, lit_108, lit_110, lit_111, lit_112, lit_114, lit_115, lit_116, lit_122, lit_127, lit_160, lit_216, lit_235, lit_238, lit_343, lit_476, lit_1296, lit_2000, lit_2401, lt_def, bind_s, gd_d, ix_n, inb_n, nI_add, pk_mul, pk_sub, nI_leI, nI_ltI, nI_eq, nI_ltn, nI_eqn, nI_eqn2, if_pos, if_neg, if_true, if_false, nI_addm1, n1]
    exact ⟨m, rfl, o1, R1⟩
theorem RepR_ss {st st' : Nat → Int32} (R : RepR st A B) (O4 : A 4 0 ≤ 4) (O0 : A 0 0 ≤ 6) (O1 : ∀ p, p < A 0 0 → A 1 p ≤ 3) {t v : Nat} (ht : t < A 4 0) (h4 : st' (34 + 6 * t + 4) = nI v) (h5 : st' (34 + 6 * t + 5) = if v = 0 then -4 else nI (A 10 t)) (fr : ∀ i, i ≠ 34 + 6 * t + 4 → i ≠ 34 + 6 * t + 5 → st' i = st i) : RepR st' (setS A t v) B := by
  obtain ⟨r1, r2, r3, r4, r5, r6, r7⟩ := R
  refine ⟨?_, ?_, ?_, ?_, fun p hp => ?_, fun u hu => ?_, fun i hi => ?_⟩
  · rw [fr 0 (by omega) (by omega), setS_o _ _ _ (by omega)]; exact r1
  · rw [fr 1 (by omega) (by omega), setS_o _ _ _ (by omega)]; exact r2
  · rw [fr 2 (by omega) (by omega), setS_o _ _ _ (by omega)]; exact r3
  · rw [fr 3 (by omega) (by omega), setS_o _ _ _ (by omega)]; exact r4
  · rw [setS_o _ _ _ (by omega)] at hp
    rw [setS_o _ _ _ (by omega), setS_o _ _ _ (by omega), setS_o _ _ _ (by omega), fr _ (by omega) (by omega), fr _ (by omega) (by omega)]
    have := r5 p hp
    have hk := O1 p hp
    exact ⟨this.1, this.2.1, fun i hi => by rw [fr _ (by omega) (by omega)]; exact this.2.2.1 i hi, this.2.2.2⟩
  · rw [setS_o _ _ _ (by omega)] at hu
    have sp : ∀ d, spotA (setS A t v) u d = spotA A u d := fun d => by
      unfold spotA; rw [setS_o _ _ _ (by omega), setS_o _ _ _ (by omega)]
    rw [sp, setS_o A t v (f := 5) (by omega), setS_o A t v (f := 6) (by omega), setS_o A t v (f := 7) (by omega), setS_o A t v (f := 8) (by omega), setS_o A t v (f := 10) (by omega), setS_9]
    have := r6 u hu
    by_cases e : u = t
    · subst e
      rw [upx_at, h4, h5, fr _ (by omega) (by omega), fr _ (by omega) (by omega), fr _ (by omega) (by omega), fr _ (by omega) (by omega)]
      exact ⟨this.1, this.2.1, this.2.2.1, this.2.2.2.1, rfl, rfl⟩
    · rw [upx_ne _ e, fr _ (by omega) (by omega), fr _ (by omega) (by omega), fr _ (by omega) (by omega), fr _ (by omega) (by omega), fr _ (by omega) (by omega), fr _ (by omega) (by omega)]
      exact this
  · rw [setS_o _ _ _ (by omega)] at hi
    rw [setS_o _ _ _ (by omega), setS_o _ _ _ (by omega), setS_o _ _ _ (by omega), fr _ (by omega) (by omega), fr _ (by omega) (by omega), fr _ (by omega) (by omega)]
    exact r7 i hi
theorem goesOn_ok (R : RepR (μ (5, 0, 1)) A B) (O : OkA A) {n : Nat} (hc : A 11 0 + n < 2 ^ 20) : ∃ μ', fM_goesOn (nI n) μ = some (nI (cnt (cameA A n) (A 4 0)), μ') ∧ Off sSt μ μ' ∧ RepR (μ' (5, 0, 1)) (tickA A n) B := by
  have hn := O.n4
  have h6 := O.p6
  have hk : ∀ p, p < A 0 0 → A 1 p ≤ 3 := fun p hp => (O.pc hp).2.1
  unfold fM_goesOn
  simp (disch := omega) only [lit_0, lit_1, lit_2, lit_3, lit_4, lit_5, lit_6, lit_7, lit_8, lit_9, lit_10, lit_11, lit_12, lit_13, lit_14, lit_15, lit_16, lit_17, lit_18, lit_19, lit_20, lit_23, lit_24, lit_31, lit_32, lit_34, lit_36, lit_40, lit_48, lit_49, lit_57, lit_58, lit_59, lit_60, lit_64, lit_96, lit_97, lit_99, lit_101, lit_105, lit_108, lit_110, lit_111, lit_112, lit_114, lit_115, lit_116, lit_122, lit_127, lit_160, lit_216, lit_235, lit_238, lit_343, lit_476, lit_1296, lit_2000, lit_2401, lt_def, bind_s, gd_d, ix_n, inb_n, nI_add, pk_mul, pk_sub, nI_leI, nI_ltI, nI_eq, nI_ltn, nI_eqn, nI_eqn2, if_pos, if_neg, if_true, if_false, nI_addm1, R.ck]
  have R0 : RepR ((wr μ (5, 0, 1) 2 (nI (A 11 0 + n))) (5, 0, 1)) (tkA A n 0) B := by
    have fr : ∀ i, i ≠ 2 → (wr μ (5, 0, 1) 2 (nI (A 11 0 + n))) (5, 0, 1) i = μ (5, 0, 1) i := fun i h => wr_off _ _ (by simp; omega)
    have e9 : tkA A n 0 9 = A 9 := by funext t; rw [tkA_9, if_neg (by omega)]
    have o : ∀ f, f ≠ 9 → f ≠ 11 → tkA A n 0 f = A f := fun f a b => tkA_o A n 0 a b
    have sp : ∀ t d, spotA (tkA A n 0) t d = spotA A t d := fun t d => by
      unfold spotA; rw [o 5 (by omega) (by omega), o 6 (by omega) (by omega)]
    obtain ⟨r1, r2, r3, r4, r5, r6, r7⟩ := R
    refine ⟨?_, ?_, wr_at _ _ _ _, ?_, fun p hp => ?_, fun u hu => ?_, fun i hi => ?_⟩
    · rw [fr 0 (by omega), o 0 (by omega) (by omega)]; exact r1
    · rw [fr 1 (by omega), o 4 (by omega) (by omega)]; exact r2
    · rw [fr 3 (by omega), o 12 (by omega) (by omega)]; exact r4
    · rw [o 0 (by omega) (by omega)] at hp
      rw [o 1 (by omega) (by omega), o 2 (by omega) (by omega), o 3 (by omega) (by omega), fr _ (by omega), fr _ (by omega)]
      have := r5 p hp
      exact ⟨this.1, this.2.1, fun i hi => by rw [fr _ (by omega)]; exact this.2.2.1 i hi, this.2.2.2⟩
    · rw [o 4 (by omega) (by omega)] at hu
      rw [sp, e9, o 5 (by omega) (by omega), o 6 (by omega) (by omega), o 7 (by omega) (by omega), o 8 (by omega) (by omega), o 10 (by omega) (by omega), fr _ (by omega), fr _ (by omega), fr _ (by omega), fr _ (by omega), fr _ (by omega), fr _ (by omega)]
      exact r6 u hu
    · rw [o 12 (by omega) (by omega)] at hi
      rw [o 13 (by omega) (by omega), o 14 (by omega) (by omega), o 15 (by omega) (by omega), fr _ (by omega), fr _ (by omega), fr _ (by omega)]
      exact r7 i hi
  refine up21 (B := bM_goesOn_14) (fun r => ∃ μ', r = some (nI (cnt (cameA A n) (A 4 0)), μ') ∧ Off sSt μ μ' ∧ RepR (μ' (5, 0, 1)) (tickA A n) B) (A 4 0) (by omega) (fun i a m => a = nI (cnt (cameA A n) i) ∧ Off sSt μ m ∧ RepR (m (5, 0, 1)) (tkA A n i) B) ⟨rfl, Off_wr (Off_refl _ _) rfl, R0⟩ (fun sf i a m hi hJ => ?_) (fun sf a m hJ => ?_) <;> unfold bM_goesOn_14
  · obtain ⟨rfl, o1, R1⟩ := hJ
    have h := O.tr hi
    have hcl := cnt_le (cameA A n) i
    have hs0 := spot_at0 O hi h.2.2.2.2.2.1
    have hsl := spotA_lt O hi h.2.2.2.2.2.1
    have t4 : tkA A n i 4 0 = A 4 0 := by rw [tkA_o A n _ (by omega) (by omega)]
    have hi4 : i < tkA A n i 4 0 := by rw [t4]; exact hi
    have sp : spotA (tkA A n i) i (A 8 i) = spotA A i (A 8 i) := by
      unfold spotA; rw [tkA_o A n _ (by omega) (by omega), tkA_o A n _ (by omega) (by omega)]
    have n1 := R1.n
    have s1 := R1.ss hi4
    have a1 := R1.at hi4
    have g1 := R1.to hi4
    have w1 := R1.wh hi4
    have c1 := R1.ck
    rw [t4] at n1
    have e9 : tkA A n i 9 i = A 9 i := by rw [tkA_9, if_neg (by omega)]
    rw [e9] at s1 w1
    rw [tkA_o A n _ (by omega) (by omega), sp] at a1
    rw [tkA_o A n _ (by omega) (by omega)] at g1 w1
    rw [tkA_11] at c1
    left
    by_cases z : A 9 i = 1
    · rw [if_neg (by omega)] at w1
      by_cases y : A 10 i ≤ A 11 0 + n
      · have hb : cameA A n i = true := decide_eq_true ⟨z, y⟩
        have tk : RepR (m (5, 0, 1)) (tkA A n i) B → True := fun _ => trivial
        have h40 : tkA A n i 4 0 ≤ 4 := by rw [t4]; exact hn
        have h00 : tkA A n i 0 0 ≤ 6 := by rw [tkA_o A n _ (by omega) (by omega)]; exact h6
        have h01 : ∀ p, p < tkA A n i 0 0 → tkA A n i 1 p ≤ 3 := by
          rw [tkA_o A n _ (by omega) (by omega), tkA_o A n _ (by omega) (by omega)]; exact hk
        have h10 : tkA A n i 10 i = A 10 i := by rw [tkA_o A n _ (by omega) (by omega)]
        by_cases q : A 8 i = 0
        · have w5 : ∀ v, (wr m (5, 0, 1) (34 + 6 * i + 4) v) (5, 0, 1) (34 + 6 * i + 5) = nI (A 10 i) := fun v => (wr_off _ _ (by simp)).trans w1
          simp (disch := omega) only [lit_0, lit_1, lit_2, lit_3, lit_4, lit_5, lit_6, lit_7, lit_8, lit_9, lit_10, lit_11, lit_12, lit_13, lit_14, lit_15, lit_16, lit_17, lit_18, lit_19, lit_20, lit_23, lit_24, lit_31, lit_32, lit_34, lit_36, lit_40, lit_48, lit_49, lit_57, lit_58, lit_59, lit_60, lit_64, lit_96, lit_97, lit_99, lit_101, lit_105, lit_108, lit_110, lit_111, lit_112, lit_114, lit_115, lit_116, lit_122, lit_127, lit_160, lit_216, lit_235, lit_238, lit_343, lit_476, lit_1296, lit_2000, lit_2401, lt_def, bind_s, gd_d, ix_n, inb_n, nI_add, pk_mul, pk_sub, nI_leI, nI_ltI, nI_eq, nI_ltn, nI_eqn, nI_eqn2, if_pos, if_neg, if_true, if_false, nI_addm1, n1, s1, w1, c1, a1, g1, hs0, w5]
          refine ⟨_, _, ⟨?_, Off_wr (Off_wr o1 rfl) rfl, ?_⟩, rfl⟩
          · rw [cnt_s, if_pos hb]
          · rw [tkA_yes ⟨z, y⟩, if_pos q]
            refine RepR_ss R1 h40 h00 h01 hi4 ?_ ?_ (fun j j1 j2 => ?_)
            · rw [wr_off _ _ (by simp), wr_at]
            · rw [wr_at, if_neg (by omega), h10]
            · rw [wr_off _ _ (by simp; omega), wr_off _ _ (by simp; omega)]
        · have n0 : nI 0 = nI 0 := rfl
          simp (disch := omega) only [lit_0, lit_1, lit_2, lit_3, lit_4, lit_5, lit_6, lit_7, lit_8, lit_9, lit_10, lit_11, lit_12, lit_13, lit_14, lit_15, lit_16, lit_17, lit_18, lit_19, lit_20, lit_23, lit_24, lit_31, lit_32, lit_34, lit_36, lit_40, lit_48, lit_49, lit_57, lit_58, lit_59, lit_60, lit_64, lit_96, lit_97, lit_99, lit_101, lit_105, lit_108, lit_110, lit_111, lit_112, lit_114, lit_115, lit_116, lit_122, lit_127, lit_160, lit_216, lit_235, lit_238, lit_343, lit_476, lit_1296, lit_2000, lit_2401, lt_def, bind_s, gd_d, ix_n, inb_n, nI_add, pk_mul, pk_sub, nI_leI, nI_ltI, nI_eq, nI_ltn, nI_eqn, nI_eqn2, if_pos, if_neg, if_true, if_false, nI_addm1, n1, s1, w1, c1, a1, g1, hs0]
          refine ⟨_, _, ⟨?_, Off_wr (Off_wr o1 rfl) rfl, ?_⟩, rfl⟩
          · rw [cnt_s, if_pos hb]
          · rw [tkA_yes ⟨z, y⟩, if_neg q]
            refine RepR_ss R1 h40 h00 h01 hi4 ?_ ?_ (fun j j1 j2 => ?_)
            · rw [wr_off _ _ (by simp), wr_at]
            · rw [wr_at, if_pos rfl]; rfl
            · rw [wr_off _ _ (by simp; omega), wr_off _ _ (by simp; omega)]
      · have hb : cameA A n i = false := decide_eq_false (fun q => y q.2)
        simp (disch := omega) only [lit_0, lit_1, lit_2, lit_3, lit_4, lit_5, lit_6, lit_7, lit_8, lit_9, lit_10, lit_11, lit_12, lit_13, lit_14, lit_15, lit_16, lit_17, lit_18, lit_19, lit_20, lit_23, lit_24, lit_31, lit_32, lit_34, lit_36, lit_40, lit_48, lit_49, lit_57, lit_58, lit_59, lit_60, lit_64, lit_96, lit_97, lit_99, lit_101, lit_105, lit_108, lit_110, lit_111, lit_112, lit_114, lit_115, lit_116, lit_122, lit_127, lit_160, lit_216, lit_235, lit_238, lit_343, lit_476, lit_1296, lit_2000, lit_2401, lt_def, bind_s, gd_d, ix_n, inb_n, nI_add, pk_mul, pk_sub, nI_leI, nI_ltI, nI_eq, nI_ltn, nI_eqn, nI_eqn2, if_pos, if_neg, if_true, if_false, nI_addm1, n1, s1, w1, c1]
        refine ⟨_, m, ⟨?_, o1, ?_⟩, rfl⟩
        · rw [cnt_s, hb]; simp
        · rw [tkA_no (fun q => y q.2)]; exact R1
    · have hb : cameA A n i = false := decide_eq_false (fun q => z q.1)
      simp (disch := omega) only [lit_0, lit_1, lit_2, lit_3, lit_4, lit_5, lit_6, lit_7, lit_8, lit_9, lit_10, lit_11, lit_12, lit_13, lit_14, lit_15, lit_16, lit_17, lit_18, lit_19, lit_20, lit_23, lit_24, lit_31, lit_32, lit_34, lit_36, lit_40, lit_48, lit_49, lit_57, lit_58, lit_59, lit_60, lit_64, lit_96, lit_97, lit_99, lit_101, lit_105, lit_108, lit_110, lit_111, lit_112, lit_114, lit_115, lit_116, lit_122, lit_127, lit_160, lit_216, lit_235, lit_238, lit_343, lit_476, lit_1296, lit_2000, lit_2401, lt_def, bind_s, gd_d, ix_n, inb_n, nI_add, pk_mul, pk_sub, nI_leI, nI_ltI, nI_eq, nI_ltn, nI_eqn, nI_eqn2, if_pos, if_neg, if_true, if_false, nI_addm1, n1, s1]
      refine ⟨_, m, ⟨?_, o1, ?_⟩, rfl⟩
      · rw [cnt_s, hb]; simp
      · rw [tkA_no (fun q => z q.1)]; exact R1
  · obtain ⟨rfl, o1, R1⟩ := hJ
    have t4 : tkA A n (A 4 0) 4 0 = A 4 0 := by rw [tkA_o A n _ (by omega) (by omega)]
    have n1 := R1.n
    rw [t4] at n1
    simp (disch := omega) only [lit_0, lit_1, lit_2, lit_3, lit_4, lit_5, lit_6, lit_7, lit_8, lit_9, lit_10, lit_11, lit_12, lit_13, lit_14, lit_15, lit_16, lit_17, lit_18, lit_19, lit_20, lit_23, lit_24, lit_31, lit_32, lit_34, lit_36, lit_40, lit_48, lit_49, lit_57, lit_58, lit_59, lit_60, lit_64, lit_96, lit_97, lit_99, lit_101, lit_105, lit_108, lit_110, lit_111, lit_112, lit_114, lit_115, lit_116, lit_122, lit_127, lit_160, lit_216, lit_235, lit_238, lit_343, lit_476, lit_1296, lit_2000, lit_2401, lt_def, bind_s, gd_d, ix_n, inb_n, nI_add, pk_mul, pk_sub, nI_leI, nI_ltI, nI_eq, nI_ltn, nI_eqn, nI_eqn2, if_pos, if_neg, if_true, if_false, nI_addm1, n1]
    exact ⟨m, rfl, o1, R1⟩
end Tick
