/-! a train more -/
def addA (A : Ab) (f t l : Nat) : Ab := fun g =>
  if g = 4 then fun _ => A 4 0 + 1 else if g = 5 then upx (A 5) (A 4 0) f else if g = 6 then upx (A 6) (A 4 0) t else if g = 7 then upx (A 7) (A 4 0) l
  else if g = 8 then upx (A 8) (A 4 0) (if t ≤ f then f - t else t - f) else if g = 9 then upx (A 9) (A 4 0) 0 else if g = 10 then upx (A 10) (A 4 0) 0 else A g
theorem addA_o (A : Ab) (f t l : Nat) {g : Nat} (h : g < 4 ∨ 10 < g) : addA A f t l g = A g := by
  unfold addA
  rw [if_neg (by omega), if_neg (by omega), if_neg (by omega), if_neg (by omega), if_neg (by omega), if_neg (by omega), if_neg (by omega)]
theorem addA_4 (A : Ab) (f t l : Nat) : addA A f t l 4 0 = A 4 0 + 1 := rfl
theorem addA_5 (A : Ab) (f t l : Nat) : addA A f t l 5 = upx (A 5) (A 4 0) f := rfl
theorem addA_6 (A : Ab) (f t l : Nat) : addA A f t l 6 = upx (A 6) (A 4 0) t := rfl
theorem addA_7 (A : Ab) (f t l : Nat) : addA A f t l 7 = upx (A 7) (A 4 0) l := rfl
theorem addA_8 (A : Ab) (f t l : Nat) : addA A f t l 8 = upx (A 8) (A 4 0) (if t ≤ f then f - t else t - f) := rfl
theorem addA_9 (A : Ab) (f t l : Nat) : addA A f t l 9 = upx (A 9) (A 4 0) 0 := rfl
theorem addA_10 (A : Ab) (f t l : Nat) : addA A f t l 10 = upx (A 10) (A 4 0) 0 := rfl
/-- a line with trains more -/
def ExtA (A A' : Ab) : Prop := (∀ g, g < 4 ∨ 10 < g → A' g = A g) ∧ A 4 0 ≤ A' 4 0 ∧ ∀ g t, 5 ≤ g → g ≤ 10 → t < A 4 0 → A' g t = A g t
theorem ExtA_refl (A : Ab) : ExtA A A := ⟨fun _ _ => rfl, Nat.le_refl _, fun _ _ _ _ _ => rfl⟩
theorem ExtA_trans {A A' A2 : Ab} (h : ExtA A A') (k : ExtA A' A2) : ExtA A A2 :=
  ⟨fun g hg => (k.1 g hg).trans (h.1 g hg), Nat.le_trans h.2.1 k.2.1, fun g t a b c => (k.2.2 g t a b (Nat.lt_of_lt_of_le c h.2.1)).trans (h.2.2 g t a b c)⟩
theorem ExtA_add (A : Ab) (f t l : Nat) : ExtA A (addA A f t l) := by
  refine ⟨fun g hg => addA_o A f t l hg, Nat.le_succ _, fun g u a b c => ?_⟩
  have : g = 5 ∨ g = 6 ∨ g = 7 ∨ g = 8 ∨ g = 9 ∨ g = 10 := by omega
  have ne : u ≠ A 4 0 := by omega
  rcases this with rfl | rfl | rfl | rfl | rfl | rfl
  · rw [addA_5, upx_ne _ ne]
  · rw [addA_6, upx_ne _ ne]
  · rw [addA_7, upx_ne _ ne]
  · rw [addA_8, upx_ne _ ne]
  · rw [addA_9, upx_ne _ ne]
  · rw [addA_10, upx_ne _ ne]
section Add
variable {μ : Mem} {k : Nat} {A A' : Ab} {B : Nat → Nat → Nat}
theorem ExtA.spot (E : ExtA A A') {t : Nat} (ht : t < A 4 0) (d : Nat) : spotA A' t d = spotA A t d := by
  unfold spotA
  rw [E.2.2 5 t (by omega) (by omega) ht, E.2.2 6 t (by omega) (by omega) ht]
theorem RepL_cut (E : ExtA A A') (R : RepL μ k A') : RepL (wr μ (0, k, 0) 4 (nI (A 4 0))) k A := by
  obtain ⟨r1, r2, r3, r4, r5, r6, r7⟩ := R
  have e0 := E.1 0 (by omega)
  have e1 := E.1 1 (by omega)
  have e2 := E.1 2 (by omega)
  have e3 := E.1 3 (by omega)
  have e11 := E.1 11 (by omega)
  have e12 := E.1 12 (by omega)
  have e13 := E.1 13 (by omega)
  have e14 := E.1 14 (by omega)
  have e15 := E.1 15 (by omega)
  rw [e0] at r1 r5
  rw [e11] at r3
  rw [e12] at r4 r7
  rw [e1, e2, e3] at r5
  rw [e13, e14, e15] at r7
  have w : ∀ j i, j ≠ 0 → wr μ (0, k, 0) 4 (nI (A 4 0)) (0, k, j) i = μ (0, k, j) i := fun j i hj => wr_off _ _ (by simp [hj])
  refine ⟨(wr_off _ _ (by simp)).trans r1, wr_at _ _ _ _, (wr_off _ _ (by simp)).trans r3, (wr_off _ _ (by simp)).trans r4, fun p hp => ?_, fun t ht => ?_, fun i hi => ?_⟩
  · rw [w 2 _ (by omega), w 4 _ (by omega)]
    have := r5 p hp
    exact ⟨this.1, this.2.1, fun i hi => by rw [w 3 _ (by omega)]; exact this.2.2 i hi⟩
  · have h := r6 t (Nat.lt_of_lt_of_le ht E.2.1)
    rw [E.2.2 5 t (by omega) (by omega) ht, E.2.2 6 t (by omega) (by omega) ht, E.2.2 7 t (by omega) (by omega) ht, E.2.2 8 t (by omega) (by omega) ht, E.2.2 9 t (by omega) (by omega) ht, E.2.2 10 t (by omega) (by omega) ht] at h
    rw [w 6 _ (by omega), w 7 _ (by omega), w 8 _ (by omega), w 9 _ (by omega), w 10 _ (by omega), w 11 _ (by omega)]
    exact h
  · rw [w 14 _ (by omega), w 15 _ (by omega), w 16 _ (by omega)]
    exact r7 i hi
theorem RepR_cut {st st' : Nat → Int32} (E : ExtA A A') (R : RepR st A' B) (h1 : st' 1 = nI (A 4 0)) (fr : ∀ i, i ≠ 1 → st' i = st i) : RepR st' A B := by
  obtain ⟨r1, r2, r3, r4, r5, r6, r7⟩ := R
  have e0 := E.1 0 (by omega)
  have e1 := E.1 1 (by omega)
  have e2 := E.1 2 (by omega)
  have e3 := E.1 3 (by omega)
  have e11 := E.1 11 (by omega)
  have e12 := E.1 12 (by omega)
  have e13 := E.1 13 (by omega)
  have e14 := E.1 14 (by omega)
  have e15 := E.1 15 (by omega)
  rw [e0] at r1 r5
  rw [e11] at r3
  rw [e12] at r4 r7
  rw [e1, e2, e3] at r5
  rw [e13, e14, e15] at r7
  refine ⟨(fr 0 (by omega)).trans r1, h1, (fr 2 (by omega)).trans r3, (fr 3 (by omega)).trans r4, fun p hp => ?_, fun t ht => ?_, fun i hi => ?_⟩
  · have := r5 p hp
    rw [fr _ (by omega), fr _ (by omega)]
    exact ⟨this.1, this.2.1, fun i hi => by rw [fr _ (by omega)]; exact this.2.2.1 i hi, this.2.2.2⟩
  · have h := r6 t (Nat.lt_of_lt_of_le ht E.2.1)
    rw [E.spot ht, E.2.2 5 t (by omega) (by omega) ht, E.2.2 6 t (by omega) (by omega) ht, E.2.2 7 t (by omega) (by omega) ht, E.2.2 8 t (by omega) (by omega) ht, E.2.2 9 t (by omega) (by omega) ht, E.2.2 10 t (by omega) (by omega) ht] at h
    rw [fr _ (by omega), fr _ (by omega), fr _ (by omega), fr _ (by omega), fr _ (by omega), fr _ (by omega)]
    exact h
  · rw [fr _ (by omega), fr _ (by omega), fr _ (by omega)]
    exact r7 i hi
theorem abs_ok {f t : Nat} (hf : f < 2 ^ 20) (ht : t < 2 ^ 20) : (if (0 : Int32) ≤ nI t - nI f then nI t - nI f else 0 - (nI t - nI f)) = nI (if t ≤ f then f - t else t - f) := by
  by_cases h : f ≤ t
  · rw [pk_sub h, if_pos (nI_pos' (by omega))]
    by_cases e : t ≤ f
    · rw [if_pos e]; congr 1; omega
    · rw [if_neg e]
  · have e : nI t - nI f = -nI (f - t) := by
      have := nI_subn t (f - t)
      rw [show t + (f - t) = f by omega] at this
      exact this
    have ng : ¬ (0 : Int32) ≤ -nI (f - t) := fun w => of_eq_false (nI_len (a := 0) (by omega) (by omega) (by omega)) w
    rw [e, if_neg ng, if_pos (by omega)]
    rw [Int32.sub_eq_add_neg, Int32.neg_neg]
    show nI 0 + _ = _
    rw [nI_add, Nat.zero_add]
theorem openTrain_ok (R : RepL μ k A) (h4 : A 4 0 < 4) {f t l : Nat} (hf : f < 2 ^ 20) (ht : t < 2 ^ 20) : ∃ μ', fL_openTrain k (nI f) (nI t) (nI l) μ = some μ' ∧ Off (sLn k) μ μ' ∧ RepL μ' k (addA A f t l) := by
  have ab := abs_ok hf ht
  unfold fL_openTrain
  rw [ab]
  have hn := R.n
  simp (disch := omega) only [lit_0, lit_1, lit_2, lit_3, lit_4, lit_5, lit_6, lit_7, lit_8, lit_9, lit_10, lit_11, lit_12, lit_13, lit_14, lit_15, lit_16, lit_17, lit_18, lit_19, lit_20, lit_23, lit_24, lit_31, lit_32, lit_34, lit_36, lit_40, lit_48, lit_49, lit_57, lit_58, lit_59, lit_60, lit_64, lit_96, lit_97, lit_99, lit_101, lit_105, lit_108, lit_110, lit_111, lit_112, lit_114, lit_115, lit_116, lit_122, lit_127, lit_160, lit_216, lit_235, lit_238, lit_343, lit_476, lit_1296, lit_2000, lit_2401, lt_def, bind_s, gd_d, ix_n, inb_n, nI_add, pk_mul, pk_sub, nI_leI, nI_ltI, nI_eq, nI_ltn, nI_eqn, nI_eqn2, if_pos, if_neg, if_true, if_false, nI_addm1, hn]
  generalize e1 : wr μ (0, k, 6) (A 4 0) (nI f) = m1
  have hn1 : m1 (0, k, 0) 4 = nI (A 4 0) := by rw [← e1]; exact (wr_off _ _ (by simp)).trans hn
  simp (disch := omega) only [lit_0, lit_1, lit_2, lit_3, lit_4, lit_5, lit_6, lit_7, lit_8, lit_9, lit_10, lit_11, lit_12, lit_13, lit_14, lit_15, lit_16, lit_17, lit_18, lit_19, lit_20, lit_23, lit_24, lit_31, lit_32, lit_34, lit_36, lit_40, lit_48, lit_49, lit_57, lit_58, lit_59, lit_60, lit_64, lit_96, lit_97, lit_99, lit_101, lit_105, lit_108, lit_110, lit_111, lit_112, lit_114, lit_115, lit_116, lit_122, lit_127, lit_160, lit_216, lit_235, lit_238, lit_343, lit_476, lit_1296, lit_2000, lit_2401, lt_def, bind_s, gd_d, ix_n, inb_n, nI_add, pk_mul, pk_sub, nI_leI, nI_ltI, nI_eq, nI_ltn, nI_eqn, nI_eqn2, if_pos, if_neg, if_true, if_false, nI_addm1, hn1]
  generalize e2 : wr m1 (0, k, 7) (A 4 0) (nI t) = m2
  have hn2 : m2 (0, k, 0) 4 = nI (A 4 0) := by rw [← e2]; exact (wr_off _ _ (by simp)).trans hn1
  simp (disch := omega) only [lit_0, lit_1, lit_2, lit_3, lit_4, lit_5, lit_6, lit_7, lit_8, lit_9, lit_10, lit_11, lit_12, lit_13, lit_14, lit_15, lit_16, lit_17, lit_18, lit_19, lit_20, lit_23, lit_24, lit_31, lit_32, lit_34, lit_36, lit_40, lit_48, lit_49, lit_57, lit_58, lit_59, lit_60, lit_64, lit_96, lit_97, lit_99, lit_101, lit_105, lit_108, lit_110, lit_111, lit_112, lit_114, lit_115, lit_116, lit_122, lit_127, lit_160, lit_216, lit_235, lit_238, lit_343, lit_476, lit_1296, lit_2000, lit_2401, lt_def, bind_s, gd_d, ix_n, inb_n, nI_add, pk_mul, pk_sub, nI_leI, nI_ltI, nI_eq, nI_ltn, nI_eqn, nI_eqn2, if_pos, if_neg, if_true, if_false, nI_addm1, hn2]
  generalize e3 : wr m2 (0, k, 8) (A 4 0) (nI l) = m3
  have hn3 : m3 (0, k, 0) 4 = nI (A 4 0) := by rw [← e3]; exact (wr_off _ _ (by simp)).trans hn2
  simp (disch := omega) only [lit_0, lit_1, lit_2, lit_3, lit_4, lit_5, lit_6, lit_7, lit_8, lit_9, lit_10, lit_11, lit_12, lit_13, lit_14, lit_15, lit_16, lit_17, lit_18, lit_19, lit_20, lit_23, lit_24, lit_31, lit_32, lit_34, lit_36, lit_40, lit_48, lit_49, lit_57, lit_58, lit_59, lit_60, lit_64, lit_96, lit_97, lit_99, lit_101, lit_105, lit_108, lit_110, lit_111, lit_112, lit_114, lit_115, lit_116, lit_122, lit_127, lit_160, lit_216, lit_235, lit_238, lit_343, lit_476, lit_1296, lit_2000, lit_2401, lt_def, bind_s, gd_d, ix_n, inb_n, nI_add, pk_mul, pk_sub, nI_leI, nI_ltI, nI_eq, nI_ltn, nI_eqn, nI_eqn2, if_pos, if_neg, if_true, if_false, nI_addm1, hn3]
  generalize e4 : wr m3 (0, k, 9) (A 4 0) (nI (if t ≤ f then f - t else t - f)) = m4
  have hn4 : m4 (0, k, 0) 4 = nI (A 4 0) := by rw [← e4]; exact (wr_off _ _ (by simp)).trans hn3
  simp (disch := omega) only [lit_0, lit_1, lit_2, lit_3, lit_4, lit_5, lit_6, lit_7, lit_8, lit_9, lit_10, lit_11, lit_12, lit_13, lit_14, lit_15, lit_16, lit_17, lit_18, lit_19, lit_20, lit_23, lit_24, lit_31, lit_32, lit_34, lit_36, lit_40, lit_48, lit_49, lit_57, lit_58, lit_59, lit_60, lit_64, lit_96, lit_97, lit_99, lit_101, lit_105, lit_108, lit_110, lit_111, lit_112, lit_114, lit_115, lit_116, lit_122, lit_127, lit_160, lit_216, lit_235, lit_238, lit_343, lit_476, lit_1296, lit_2000, lit_2401, lt_def, bind_s, gd_d, ix_n, inb_n, nI_add, pk_mul, pk_sub, nI_leI, nI_ltI, nI_eq, nI_ltn, nI_eqn, nI_eqn2, if_pos, if_neg, if_true, if_false, nI_addm1, hn4]
  generalize e5 : wr m4 (0, k, 10) (A 4 0) (nI 0) = m5
  have hn5 : m5 (0, k, 0) 4 = nI (A 4 0) := by rw [← e5]; exact (wr_off _ _ (by simp)).trans hn4
  simp (disch := omega) only [lit_0, lit_1, lit_2, lit_3, lit_4, lit_5, lit_6, lit_7, lit_8, lit_9, lit_10, lit_11, lit_12, lit_13, lit_14, lit_15, lit_16, lit_17, lit_18, lit_19, lit_20, lit_23, lit_24, lit_31, lit_32, lit_34, lit_36, lit_40, lit_48, lit_49, lit_57, lit_58, lit_59, lit_60, lit_64, lit_96, lit_97, lit_99, lit_101, lit_105, lit_108, lit_110, lit_111, lit_112, lit_114, lit_115, lit_116, lit_122, lit_127, lit_160, lit_216, lit_235, lit_238, lit_343, lit_476, lit_1296, lit_2000, lit_2401, lt_def, bind_s, gd_d, ix_n, inb_n, nI_add, pk_mul, pk_sub, nI_leI, nI_ltI, nI_eq, nI_ltn, nI_eqn, nI_eqn2, if_pos, if_neg, if_true, if_false, nI_addm1, hn5]
  generalize e6 : wr m5 (0, k, 11) (A 4 0) (nI 0) = m6
  have hn6 : m6 (0, k, 0) 4 = nI (A 4 0) := by rw [← e6]; exact (wr_off _ _ (by simp)).trans hn5
  simp (disch := omega) only [lit_0, lit_1, lit_2, lit_3, lit_4, lit_5, lit_6, lit_7, lit_8, lit_9, lit_10, lit_11, lit_12, lit_13, lit_14, lit_15, lit_16, lit_17, lit_18, lit_19, lit_20, lit_23, lit_24, lit_31, lit_32, lit_34, lit_36, lit_40, lit_48, lit_49, lit_57, lit_58, lit_59, lit_60, lit_64, lit_96, lit_97, lit_99, lit_101, lit_105, lit_108, lit_110, lit_111, lit_112, lit_114, lit_115, lit_116, lit_122, lit_127, lit_160, lit_216, lit_235, lit_238, lit_343, lit_476, lit_1296, lit_2000, lit_2401, lt_def, bind_s, gd_d, ix_n, inb_n, nI_add, pk_mul, pk_sub, nI_leI, nI_ltI, nI_eq, nI_ltn, nI_eqn, nI_eqn2, if_pos, if_neg, if_true, if_false, nI_addm1, hn6]
  have hk : ∀ j i, sLn k (0, k, j) i = true := fun j i => sLn_eq k j i
  refine ⟨_, rfl, ?_, ?_⟩
  · rw [← e6, ← e5, ← e4, ← e3, ← e2, ← e1]
    exact Off_wr (Off_wr (Off_wr (Off_wr (Off_wr (Off_wr (Off_wr (Off_refl _ _) (hk _ _)) (hk _ _)) (hk _ _)) (hk _ _)) (hk _ _)) (hk _ _)) (hk _ _)
  · obtain ⟨r1, r2, r3, r4, r5, r6, r7⟩ := R
    have oth : ∀ j i, j < 6 ∨ 11 < j → ¬ (j = 0 ∧ i = 4) → wr m6 (0, k, 0) 4 (nI (A 4 0 + 1)) (0, k, j) i = μ (0, k, j) i := by
      intro j i hj hi
      rw [wr_off _ _ (by simp; omega), ← e6, wr_off _ _ (by simp; omega), ← e5, wr_off _ _ (by simp; omega), ← e4, wr_off _ _ (by simp; omega), ← e3, wr_off _ _ (by simp; omega), ← e2, wr_off _ _ (by simp; omega), ← e1, wr_off _ _ (by simp; omega)]
    have o : ∀ g, g < 4 ∨ 10 < g → addA A f t l g = A g := fun g hg => addA_o A f t l hg
    refine ⟨?_, ?_, ?_, ?_, fun p hp => ?_, fun u hu => ?_, fun i hi => ?_⟩
    · rw [oth 0 0 (by omega) (by omega), o 0 (by omega)]; exact r1
    · rw [wr_at, addA_4]
    · rw [oth 0 11 (by omega) (by omega), o 11 (by omega)]; exact r3
    · rw [oth 0 12 (by omega) (by omega), o 12 (by omega)]; exact r4
    · rw [o 0 (by omega)] at hp
      rw [o 1 (by omega), o 2 (by omega), o 3 (by omega), oth 2 _ (by omega) (by omega), oth 4 _ (by omega) (by omega)]
      have := r5 p hp
      exact ⟨this.1, this.2.1, fun i hi => by rw [oth 3 _ (by omega) (by omega)]; exact this.2.2 i hi⟩
    · have g6 : wr m6 (0, k, 0) 4 (nI (A 4 0 + 1)) (0, k, 6) u = if u = A 4 0 then nI f else μ (0, k, 6) u := by
        rw [wr_off _ _ (by simp), ← e6, wr_off _ _ (by simp), ← e5, wr_off _ _ (by simp), ← e4, wr_off _ _ (by simp), ← e3, wr_off _ _ (by simp), ← e2, wr_off _ _ (by simp), ← e1, wr_get]
        simp
      have g7 : wr m6 (0, k, 0) 4 (nI (A 4 0 + 1)) (0, k, 7) u = if u = A 4 0 then nI t else μ (0, k, 7) u := by
        rw [wr_off _ _ (by simp), ← e6, wr_off _ _ (by simp), ← e5, wr_off _ _ (by simp), ← e4, wr_off _ _ (by simp), ← e3, wr_off _ _ (by simp), ← e2, wr_get, ← e1, wr_off _ _ (by simp)]
        simp
      have g8 : wr m6 (0, k, 0) 4 (nI (A 4 0 + 1)) (0, k, 8) u = if u = A 4 0 then nI l else μ (0, k, 8) u := by
        rw [wr_off _ _ (by simp), ← e6, wr_off _ _ (by simp), ← e5, wr_off _ _ (by simp), ← e4, wr_off _ _ (by simp), ← e3, wr_get, ← e2, wr_off _ _ (by simp), ← e1, wr_off _ _ (by simp)]
        simp
      have g9 : wr m6 (0, k, 0) 4 (nI (A 4 0 + 1)) (0, k, 9) u = if u = A 4 0 then nI (if t ≤ f then f - t else t - f) else μ (0, k, 9) u := by
        rw [wr_off _ _ (by simp), ← e6, wr_off _ _ (by simp), ← e5, wr_off _ _ (by simp), ← e4, wr_get, ← e3, wr_off _ _ (by simp), ← e2, wr_off _ _ (by simp), ← e1, wr_off _ _ (by simp)]
        simp
      have g10 : wr m6 (0, k, 0) 4 (nI (A 4 0 + 1)) (0, k, 10) u = if u = A 4 0 then nI 0 else μ (0, k, 10) u := by
        rw [wr_off _ _ (by simp), ← e6, wr_off _ _ (by simp), ← e5, wr_get, ← e4, wr_off _ _ (by simp), ← e3, wr_off _ _ (by simp), ← e2, wr_off _ _ (by simp), ← e1, wr_off _ _ (by simp)]
        simp
      have g11 : wr m6 (0, k, 0) 4 (nI (A 4 0 + 1)) (0, k, 11) u = if u = A 4 0 then nI 0 else μ (0, k, 11) u := by
        rw [wr_off _ _ (by simp), ← e6, wr_get, ← e5, wr_off _ _ (by simp), ← e4, wr_off _ _ (by simp), ← e3, wr_off _ _ (by simp), ← e2, wr_off _ _ (by simp), ← e1, wr_off _ _ (by simp)]
        simp
      rw [g6, g7, g8, g9, g10, g11, addA_5, addA_6, addA_7, addA_8, addA_9, addA_10]
      have hu2 : u < A 4 0 + 1 := hu
      by_cases e : u = A 4 0
      · subst e
        rw [if_pos rfl, if_pos rfl, if_pos rfl, if_pos rfl, if_pos rfl, if_pos rfl, upx_at, upx_at, upx_at, upx_at, upx_at, upx_at]
        exact ⟨rfl, rfl, rfl, rfl, rfl, fun _ => rfl⟩
      · rw [if_neg e, if_neg e, if_neg e, if_neg e, if_neg e, if_neg e, upx_ne _ e, upx_ne _ e, upx_ne _ e, upx_ne _ e, upx_ne _ e, upx_ne _ e]
        exact r6 u (by omega)
    · rw [o 12 (by omega)] at hi
      rw [o 13 (by omega), o 14 (by omega), o 15 (by omega), oth 14 _ (by omega) (by omega), oth 15 _ (by omega) (by omega), oth 16 _ (by omega) (by omega)]
      exact r7 i hi
theorem OkA_add (O : OkA A) (h4 : A 4 0 < 4) {f t l : Nat} (hf : f < A 0 0) (ht : t < A 0 0) (hne : f ≠ t) (h1 : 1 ≤ l) (h2 : l ≤ 20) : OkA (addA A f t l) := by
  have o : ∀ g, g < 4 ∨ 10 < g → addA A f t l g = A g := fun g hg => addA_o A f t l hg
  obtain ⟨q1, q2, q3, q4, q5, q6, q7⟩ := O
  unfold OkA
  rw [o 0 (by omega), o 1 (by omega), o 2 (by omega), o 3 (by omega), o 11 (by omega), o 12 (by omega), o 13 (by omega), o 14 (by omega), o 15 (by omega)]
  refine ⟨q1, by rw [addA_4]; omega, q3, q4, q5, fun u hu => ?_, q7⟩
  have hu2 : u < A 4 0 + 1 := hu
  unfold distA
  rw [addA_5, addA_6, addA_7, addA_8, addA_9, addA_10]
  by_cases e : u = A 4 0
  · subst e
    rw [upx_at, upx_at, upx_at, upx_at, upx_at, upx_at]
    refine ⟨hf, ht, hne, h1, h2, Nat.le_refl _, by omega, fun _ => ?_, fun z => ?_, fun z => ?_, by omega, fun z => ?_⟩
    · split <;> omega
    · omega
    · omega
    · omega
  · rw [upx_ne _ e, upx_ne _ e, upx_ne _ e, upx_ne _ e, upx_ne _ e, upx_ne _ e]
    exact q6 u (by omega)
theorem forget_ok (μ : Mem) : ∃ μ', fP_forget μ = some μ' ∧ Off (fun r _ => r == (1, 0, 0)) μ μ' ∧ μ' (1, 0, 0) 6 = nI 0 ∧ μ' (1, 0, 0) 7 = nI 0 ∧ ∀ A, Cache μ' A := by
  unfold fP_forget
  simp only [lt_def]
  have h6 : wr (wr μ (1, 0, 0) 6 0) (1, 0, 0) 7 0 (1, 0, 0) 6 = nI 0 := by rw [wr_off _ _ (by simp), wr_at]; rfl
  have h7 : wr (wr μ (1, 0, 0) 6 0) (1, 0, 0) 7 0 (1, 0, 0) 7 = nI 0 := wr_at _ _ _ _
  exact ⟨_, rfl, Off_wr (Off_wr (Off_refl _ _) rfl) rfl, h6, h7, fun A => ⟨Or.inl h6, Or.inl h7⟩⟩
end Add
