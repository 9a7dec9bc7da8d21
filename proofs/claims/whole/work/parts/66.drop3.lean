section Drop3
variable {μ : Mem} {A : Ab} {B : Nat → Nat → Nat}
theorem lvJ_ok {e t : Nat} {f g h : Nat → Nat} (he : e ≤ 60) (ht : t < 2 ^ 31) (h0 : μ (5, 0, 1) 3 = nI e) (hj : ∀ j, j < e → μ (5, 0, 1) (58 + 3 * j + 0) = nI (f j) ∧ μ (5, 0, 1) (58 + 3 * j + 1) = nI (g j) ∧ μ (5, 0, 1) (58 + 3 * j + 2) = nI (h j)) (hg : ∀ j, j < e → g j < 2 ^ 31) : ∃ μ', fM_leavesJournal (nI t) μ = some μ' ∧ Off sJr μ μ' ∧ μ' (5, 0, 1) 3 = nI (cnt (fun i => decide (g i ≠ t)) e) ∧ ∀ j, j < cnt (fun i => decide (g i ≠ t)) e → μ' (5, 0, 1) (58 + 3 * j + 0) = nI (fltJ (fun i => decide (g i ≠ t)) f e j) ∧ μ' (5, 0, 1) (58 + 3 * j + 1) = nI (fltJ (fun i => decide (g i ≠ t)) (fun i => if g i ≤ t then g i else g i - 1) e j) ∧ μ' (5, 0, 1) (58 + 3 * j + 2) = nI (fltJ (fun i => decide (g i ≠ t)) h e j) := by
  generalize hq : (fun i => decide (g i ≠ t)) = q
  have qt : ∀ i, g i = t → q i = false := fun i hi => by rw [← hq]; simp [hi]
  have qf : ∀ i, g i ≠ t → q i = true := fun i hi => by rw [← hq]; simp [hi]
  unfold fM_leavesJournal
  rw [lt_def, lt_def]
  refine up21 (B := bM_leavesJournal_4 (nI t)) (fun r => ∃ μ', r = some μ' ∧ Off sJr μ μ' ∧ μ' (5, 0, 1) 3 = nI (cnt q e) ∧ ∀ j, j < cnt q e → μ' (5, 0, 1) (58 + 3 * j + 0) = nI (fltJ q f e j) ∧ μ' (5, 0, 1) (58 + 3 * j + 1) = nI (fltJ q (fun i => if g i ≤ t then g i else g i - 1) e j) ∧ μ' (5, 0, 1) (58 + 3 * j + 2) = nI (fltJ q h e j)) e (by omega) (fun i a m => a = nI (cnt q i) ∧ Off sJr μ m ∧ m (5, 0, 1) 3 = nI e ∧ (∀ j, j < cnt q i → m (5, 0, 1) (58 + 3 * j + 0) = nI (fltJ q f i j) ∧ m (5, 0, 1) (58 + 3 * j + 1) = nI (fltJ q (fun i => if g i ≤ t then g i else g i - 1) i j) ∧ m (5, 0, 1) (58 + 3 * j + 2) = nI (fltJ q h i j)) ∧ ∀ j, i ≤ j → j < e → m (5, 0, 1) (58 + 3 * j + 0) = nI (f j) ∧ m (5, 0, 1) (58 + 3 * j + 1) = nI (g j) ∧ m (5, 0, 1) (58 + 3 * j + 2) = nI (h j)) ⟨rfl, Off_refl _ _, h0, fun j hj => absurd hj (by simp [cnt]), fun j _ hj2 => hj j hj2⟩ (fun sf i a m hi hJ => ?_) (fun sf a m hJ => ?_) <;> unfold bM_leavesJournal_4
  · obtain ⟨rfl, o1, n1, c1, c2⟩ := hJ
    have cl := cnt_le q i
    obtain ⟨b1, b2, b3⟩ := c2 i (Nat.le_refl _) hi
    have gl := hg i hi
    have en0 := entry_ok (i := i) (c := 0) (by omega) (by omega) m
    have en1 := entry_ok (i := i) (c := 1) (by omega) (by omega) m
    have en2 := entry_ok (i := i) (c := 2) (by omega) (by omega) m
    rw [b1] at en0
    rw [b2] at en1
    rw [b3] at en2
    left
    by_cases z : g i = t
    · have qi := qt i z
      simp (disch := omega) only [lit_0, lit_1, lit_2, lit_3, lit_4, lit_5, lit_6, lit_7, lit_8, lit_9, lit_10, lit_11, lit_12, lit_13, lit_14, lit_15, lit_16, lit_17, lit_18, lit_19, lit_20, lit_23, lit_24, lit_31, lit_32, lit_34, lit_36, lit_40, lit_48, lit_49, lit_57, lit_58, lit_59, lit_60, lit_64, lit_96, lit_97, lit_99, lit_101, lit_105, lit_108, lit_110, lit_111, lit_112, lit_114, lit_115, lit_116, lit_122, lit_127, lit_160, lit_216, lit_235, lit_238, lit_343, lit_476, lit_1296, lit_2000, lit_2401, lt_def, bind_s, gd_d, ix_n, inb_n, nI_add, pk_mul, pk_sub, nI_leI, nI_ltI, nI_eq, nI_ltn, nI_eqn, nI_eqn2, if_pos, if_neg, if_true, if_false, nI_addm1, n1, en1]
      refine ⟨_, m, ⟨by rw [cnt_s, qi]; rfl, o1, n1, ?_, fun j h1 h2 => c2 j (by omega) h2⟩, rfl⟩
      rw [cnt_s, qi, if_neg (by simp), Nat.add_zero, fltJ_n _ qi, fltJ_n _ qi, fltJ_n _ qi]
      exact c1
    · have qi := qf i z
      have fin : ∃ a' m', (a' = nI (cnt q (i + 1)) ∧ Off sJr μ m' ∧ m' (5, 0, 1) 3 = nI e ∧ (∀ j, j < cnt q (i + 1) → m' (5, 0, 1) (58 + 3 * j + 0) = nI (fltJ q f (i + 1) j) ∧ m' (5, 0, 1) (58 + 3 * j + 1) = nI (fltJ q (fun i => if g i ≤ t then g i else g i - 1) (i + 1) j) ∧ m' (5, 0, 1) (58 + 3 * j + 2) = nI (fltJ q h (i + 1) j)) ∧ ∀ j, i + 1 ≤ j → j < e → m' (5, 0, 1) (58 + 3 * j + 0) = nI (f j) ∧ m' (5, 0, 1) (58 + 3 * j + 1) = nI (g j) ∧ m' (5, 0, 1) (58 + 3 * j + 2) = nI (h j)) ∧ sf (nI (cnt q i + 1)) (nI (i + 1)) (wr (wr (wr m (5, 0, 1) (58 + 3 * cnt q i + 0) (nI (f i))) (5, 0, 1) (58 + 3 * cnt q i + 1) (nI (if g i ≤ t then g i else g i - 1))) (5, 0, 1) (58 + 3 * cnt q i + 2) (nI (h i))) = sf a' (nI (i + 1)) m' := by
        refine ⟨_, _, ⟨by rw [cnt_s, if_pos qi], Off_wr (Off_wr (Off_wr o1 (sJr_t (by omega))) (sJr_t (by omega))) (sJr_t (by omega)), ?_, fun j hj => ?_, fun j h1 h2 => ?_⟩, rfl⟩
        · rw [wr_off _ _ (by simp; omega), wr_off _ _ (by simp; omega), wr_off _ _ (by simp; omega)]; exact n1
        · rw [cnt_s, if_pos qi] at hj
          rw [fltJ_y _ qi, fltJ_y _ qi, fltJ_y _ qi]
          by_cases y : j = cnt q i
          · subst y
            rw [upx_at, upx_at, upx_at]
            refine ⟨?_, ?_, wr_at _ _ _ _⟩
            · rw [wr_off _ _ (by simp), wr_off _ _ (by simp), wr_at]
            · rw [wr_off _ _ (by simp), wr_at]
          · rw [upx_ne _ y, upx_ne _ y, upx_ne _ y]
            have := c1 j (by omega)
            refine ⟨?_, ?_, ?_⟩
            · rw [wr_off _ _ (by simp; omega), wr_off _ _ (by simp; omega), wr_off _ _ (by simp; omega)]; exact this.1
            · rw [wr_off _ _ (by simp; omega), wr_off _ _ (by simp; omega), wr_off _ _ (by simp; omega)]; exact this.2.1
            · rw [wr_off _ _ (by simp; omega), wr_off _ _ (by simp; omega), wr_off _ _ (by simp; omega)]; exact this.2.2
        · have y : j ≠ cnt q i := by omega
          have := c2 j (by omega) h2
          refine ⟨?_, ?_, ?_⟩
          · rw [wr_off _ _ (by simp; omega), wr_off _ _ (by simp; omega), wr_off _ _ (by simp; omega)]; exact this.1
          · rw [wr_off _ _ (by simp; omega), wr_off _ _ (by simp; omega), wr_off _ _ (by simp; omega)]; exact this.2.1
          · rw [wr_off _ _ (by simp; omega), wr_off _ _ (by simp; omega), wr_off _ _ (by simp; omega)]; exact this.2.2
      by_cases y : g i ≤ t
      · simp only [if_pos y] at fin
        simp (disch := omega) only [lit_0, lit_1, lit_2, lit_3, lit_4, lit_5, lit_6, lit_7, lit_8, lit_9, lit_10, lit_11, lit_12, lit_13, lit_14, lit_15, lit_16, lit_17, lit_18, lit_19, lit_20, lit_23, lit_24, lit_31, lit_32, lit_34, lit_36, lit_40, lit_48, lit_49, lit_57, lit_58, lit_59, lit_60, lit_64, lit_96, lit_97, lit_99, lit_101, lit_105, lit_108, lit_110, lit_111, lit_112, lit_114, lit_115, lit_116, lit_122, lit_127, lit_160, lit_216, lit_235, lit_238, lit_343, lit_476, lit_1296, lit_2000, lit_2401, lt_def, bind_s, gd_d, ix_n, inb_n, nI_add, pk_mul, pk_sub, nI_leI, nI_ltI, nI_eq, nI_ltn, nI_eqn, nI_eqn2, if_pos, if_neg, if_true, if_false, nI_addm1, n1, en0, en1, en2]
        exact fin
      · simp only [if_neg y] at fin
        simp (disch := omega) only [lit_0, lit_1, lit_2, lit_3, lit_4, lit_5, lit_6, lit_7, lit_8, lit_9, lit_10, lit_11, lit_12, lit_13, lit_14, lit_15, lit_16, lit_17, lit_18, lit_19, lit_20, lit_23, lit_24, lit_31, lit_32, lit_34, lit_36, lit_40, lit_48, lit_49, lit_57, lit_58, lit_59, lit_60, lit_64, lit_96, lit_97, lit_99, lit_101, lit_105, lit_108, lit_110, lit_111, lit_112, lit_114, lit_115, lit_116, lit_122, lit_127, lit_160, lit_216, lit_235, lit_238, lit_343, lit_476, lit_1296, lit_2000, lit_2401, lt_def, bind_s, gd_d, ix_n, inb_n, nI_add, pk_mul, pk_sub, nI_leI, nI_ltI, nI_eq, nI_ltn, nI_eqn, nI_eqn2, if_pos, if_neg, if_true, if_false, nI_addm1, n1, en0, en1, en2]
        exact fin
  · obtain ⟨rfl, o1, n1, c1, c2⟩ := hJ
    have cl := cnt_le q e
    simp (disch := omega) only [lit_0, lit_1, lit_2, lit_3, lit_4, lit_5, lit_6, lit_7, lit_8, lit_9, lit_10, lit_11, lit_12, lit_13, lit_14, lit_15, lit_16, lit_17, lit_18, lit_19, lit_20, lit_23, lit_24, lit_31, lit_32, lit_34, lit_36, lit_40, lit_48, lit_49, lit_57, lit_58, lit_59, lit_60, lit_64, lit_96, lit_97, lit_99, lit_101, lit_105, lit_108, lit_110, lit_111, lit_112, lit_114, lit_115, lit_116, lit_122, lit_127, lit_160, lit_216, lit_235, lit_238, lit_343, lit_476, lit_1296, lit_2000, lit_2401, lt_def, bind_s, gd_d, ix_n, inb_n, nI_add, pk_mul, pk_sub, nI_leI, nI_ltI, nI_eq, nI_ltn, nI_eqn, nI_eqn2, if_pos, if_neg, if_true, if_false, nI_addm1, n1, jM_leavesJournal_111]
    refine ⟨_, rfl, Off_wr o1 (sJr_t (by omega)), wr_at _ _ _ _, fun j hj => ?_⟩
    rw [wr_off _ _ (by simp; omega), wr_off _ _ (by simp; omega), wr_off _ _ (by simp; omega)]
    exact c1 j hj
theorem dropM_ok (R : RepR (μ (5, 0, 1)) A B) (O : OkA A) {t : Nat} (ht : t < A 4 0) : ∃ μ', fM_drop (nI t) μ = some (if A 9 t = 1 then -2 else nI (A 4 0 - 1), μ') ∧ Off sSt μ μ' ∧ RepR (μ' (5, 0, 1)) (if A 9 t = 1 then A else drpA A t) B := by
  have hn := O.n4
  have e60 := O.e60
  have h6 := O.p6
  have h9 := (O.tr ht).2.2.2.2.2.2.1
  have it : fM_isTrain (nI t) μ = some (nI 1) := by rw [isTrainM_ok R O, if_pos ⟨t, ht, rfl⟩]
  unfold fM_drop
  by_cases z : A 9 t = 1
  · rw [if_pos z, if_pos z]
    simp (disch := omega) only [lit_0, lit_1, lit_2, lit_3, lit_4, lit_5, lit_6, lit_7, lit_8, lit_9, lit_10, lit_11, lit_12, lit_13, lit_14, lit_15, lit_16, lit_17, lit_18, lit_19, lit_20, lit_23, lit_24, lit_31, lit_32, lit_34, lit_36, lit_40, lit_48, lit_49, lit_57, lit_58, lit_59, lit_60, lit_64, lit_96, lit_97, lit_99, lit_101, lit_105, lit_108, lit_110, lit_111, lit_112, lit_114, lit_115, lit_116, lit_122, lit_127, lit_160, lit_216, lit_235, lit_238, lit_343, lit_476, lit_1296, lit_2000, lit_2401, lt_def, bind_s, gd_d, ix_n, inb_n, nI_add, pk_mul, pk_sub, nI_leI, nI_ltI, nI_eq, nI_ltn, nI_eqn, nI_eqn2, if_pos, if_neg, if_true, if_false, nI_addm1, it, of4 R O ht]
    exact ⟨μ, rfl, Off_refl _ _, R⟩
  · rw [if_neg z, if_neg z]
    simp (disch := omega) only [lit_0, lit_1, lit_2, lit_3, lit_4, lit_5, lit_6, lit_7, lit_8, lit_9, lit_10, lit_11, lit_12, lit_13, lit_14, lit_15, lit_16, lit_17, lit_18, lit_19, lit_20, lit_23, lit_24, lit_31, lit_32, lit_34, lit_36, lit_40, lit_48, lit_49, lit_57, lit_58, lit_59, lit_60, lit_64, lit_96, lit_97, lit_99, lit_101, lit_105, lit_108, lit_110, lit_111, lit_112, lit_114, lit_115, lit_116, lit_122, lit_127, lit_160, lit_216, lit_235, lit_238, lit_343, lit_476, lit_1296, lit_2000, lit_2401, lt_def, bind_s, gd_d, ix_n, inb_n, nI_add, pk_mul, pk_sub, nI_leI, nI_ltI, nI_eq, nI_ltn, nI_eqn, nI_eqn2, if_pos, if_neg, if_true, if_false, nI_addm1, it, of4 R O ht]
    refine up11s (B := bM_drop_31 (nI t)) (fun r => ∃ μ', r = some (nI (A 4 0 - 1), μ') ∧ Off sSt μ μ' ∧ RepR (μ' (5, 0, 1)) (drpA A t) B) (34 + 6 * t) (34 + 6 * (A 4 0 - 1)) (by omega) (by omega) (fun i m => Off sSt μ m ∧ ∀ x, m (5, 0, 1) x = μ (5, 0, 1) (if 34 + 6 * t ≤ x ∧ x < i then x + 6 else x)) ⟨Off_refl _ _, fun x => by rw [if_neg (by omega)]⟩ (fun sf i m h1 hi hJ => ?_) (fun sf m hJ => ?_) <;> unfold bM_drop_31
    · left
      obtain ⟨o1, c1⟩ := hJ
      have n1 : m (5, 0, 1) 1 = nI (A 4 0) := by rw [c1 1, if_neg (by omega)]; exact R.n
      simp (disch := omega) only [lit_0, lit_1, lit_2, lit_3, lit_4, lit_5, lit_6, lit_7, lit_8, lit_9, lit_10, lit_11, lit_12, lit_13, lit_14, lit_15, lit_16, lit_17, lit_18, lit_19, lit_20, lit_23, lit_24, lit_31, lit_32, lit_34, lit_36, lit_40, lit_48, lit_49, lit_57, lit_58, lit_59, lit_60, lit_64, lit_96, lit_97, lit_99, lit_101, lit_105, lit_108, lit_110, lit_111, lit_112, lit_114, lit_115, lit_116, lit_122, lit_127, lit_160, lit_216, lit_235, lit_238, lit_343, lit_476, lit_1296, lit_2000, lit_2401, lt_def, bind_s, gd_d, ix_n, inb_n, nI_add, pk_mul, pk_sub, nI_leI, nI_ltI, nI_eq, nI_ltn, nI_eqn, nI_eqn2, if_pos, if_neg, if_true, if_false, nI_addm1, n1]
      refine ⟨_, ⟨Off_wr o1 rfl, fun x => ?_⟩, rfl⟩
      rw [wr_get]
      by_cases e : x = i
      · subst e
        rw [if_pos ⟨rfl, rfl⟩, c1, if_neg (by omega), if_pos (by omega)]
      · rw [if_neg (fun q => e q.2), c1]
        by_cases q : 34 + 6 * t ≤ x ∧ x < i
        · rw [if_pos q, if_pos (by omega)]
        · rw [if_neg q, if_neg (by omega)]
    · obtain ⟨o1, c1⟩ := hJ
      have n1 : m (5, 0, 1) 1 = nI (A 4 0) := by rw [c1 1, if_neg (by omega)]; exact R.n
      simp (disch := omega) only [lit_0, lit_1, lit_2, lit_3, lit_4, lit_5, lit_6, lit_7, lit_8, lit_9, lit_10, lit_11, lit_12, lit_13, lit_14, lit_15, lit_16, lit_17, lit_18, lit_19, lit_20, lit_23, lit_24, lit_31, lit_32, lit_34, lit_36, lit_40, lit_48, lit_49, lit_57, lit_58, lit_59, lit_60, lit_64, lit_96, lit_97, lit_99, lit_101, lit_105, lit_108, lit_110, lit_111, lit_112, lit_114, lit_115, lit_116, lit_122, lit_127, lit_160, lit_216, lit_235, lit_238, lit_343, lit_476, lit_1296, lit_2000, lit_2401, lt_def, bind_s, gd_d, ix_n, inb_n, nI_add, pk_mul, pk_sub, nI_leI, nI_ltI, nI_eq, nI_ltn, nI_eqn, nI_eqn2, if_pos, if_neg, if_true, if_false, nI_addm1, n1, jM_drop_70]
      obtain ⟨r1, r2, r3, r4, r5, r6, r7⟩ := R
      generalize e0 : wr m (5, 0, 1) 1 (nI (A 4 0 - 1)) = m1
      have f1 : ∀ x, x ≠ 1 → m1 (5, 0, 1) x = m (5, 0, 1) x := fun x hx => by rw [← e0, wr_off _ _ (by simp [hx])]
      have o11 : Off sSt μ m1 := by rw [← e0]; exact Off_wr o1 rfl
      have hi58 : ∀ x, 58 ≤ x → m1 (5, 0, 1) x = μ (5, 0, 1) x := fun x hx => by rw [f1 x (by omega), c1, if_neg (by omega)]
      have lo34 : ∀ x, x < 34 → x ≠ 1 → m1 (5, 0, 1) x = μ (5, 0, 1) x := fun x hx h1 => by rw [f1 x h1, c1, if_neg (by omega)]
      obtain ⟨m2, e2, o2, v2, w2⟩ := lvJ_ok (μ := m1) (e := A 12 0) (t := t) (f := A 13) (g := A 14) (h := A 15) e60 (by omega) (by rw [lo34 3 (by omega) (by omega)]; exact r4) (fun j hj => by rw [hi58 _ (by omega), hi58 _ (by omega), hi58 _ (by omega)]; exact r7 j hj) (fun j hj => by have := (O.jr hj).2.1; omega)
      have s0 : ∀ x, x < 58 → x ≠ 3 → m2 (5, 0, 1) x = m1 (5, 0, 1) x := fun x h1 h2 => o2 _ _ (sJr_f h1 h2)
      have n2 : m2 (5, 0, 1) 1 = nI (A 4 0 - 1) := by rw [s0 1 (by omega) (by omega), ← e0, wr_at]
      have o : ∀ f, f < 4 ∨ f = 11 → drpA A t f = A f := fun f h => drpA_o A t h
      simp (disch := omega) only [lit_0, lit_1, lit_2, lit_3, lit_4, lit_5, lit_6, lit_7, lit_8, lit_9, lit_10, lit_11, lit_12, lit_13, lit_14, lit_15, lit_16, lit_17, lit_18, lit_19, lit_20, lit_23, lit_24, lit_31, lit_32, lit_34, lit_36, lit_40, lit_48, lit_49, lit_57, lit_58, lit_59, lit_60, lit_64, lit_96, lit_97, lit_99, lit_101, lit_105, lit_108, lit_110, lit_111, lit_112, lit_114, lit_115, lit_116, lit_122, lit_127, lit_160, lit_216, lit_235, lit_238, lit_343, lit_476, lit_1296, lit_2000, lit_2401, lt_def, bind_s, gd_d, ix_n, inb_n, nI_add, pk_mul, pk_sub, nI_leI, nI_ltI, nI_eq, nI_ltn, nI_eqn, nI_eqn2, if_pos, if_neg, if_true, if_false, nI_addm1, e2, n2]
      refine ⟨m2, rfl, Off_trans o11 (Off_mono o2 sSt_sJr), ?_, ?_, ?_, ?_, fun p hp => ?_, fun u hu => ?_, fun i hi => ?_⟩
      · rw [s0 0 (by omega) (by omega), lo34 0 (by omega) (by omega), o 0 (by omega)]; exact r1
      · rw [n2, drpA_4]
      · rw [s0 2 (by omega) (by omega), lo34 2 (by omega) (by omega), o 11 (by omega)]; exact r3
      · rw [v2, drpA_12]; rfl
      · rw [o 0 (by omega)] at hp
        have h3 := (O.pc hp).2.1
        rw [o 1 (by omega), o 2 (by omega), o 3 (by omega), s0 _ (by omega) (by omega), s0 _ (by omega) (by omega), lo34 _ (by omega) (by omega), lo34 _ (by omega) (by omega)]
        have := r5 p hp
        exact ⟨this.1, this.2.1, fun i hi => by rw [s0 _ (by omega) (by omega), lo34 _ (by omega) (by omega)]; exact this.2.2.1 i hi, this.2.2.2⟩
      · rw [drpA_4] at hu
        have sk : ∀ c, c < 6 → m2 (5, 0, 1) (34 + 6 * u + c) = μ (5, 0, 1) (34 + 6 * skp t u + c) := fun c hc => by
          rw [s0 _ (by omega) (by omega), f1 _ (by omega), c1]
          unfold skp
          by_cases q : u < t
          · rw [if_pos q, if_neg (by omega)]
          · rw [if_neg q, if_pos (by omega)]
            congr 1; omega
        rw [sk 0 (by omega), sk 1 (by omega), sk 2 (by omega), sk 3 (by omega), sk 4 (by omega), sk 5 (by omega), drp_spot]
        rw [drpA_s A t (f := 5) (by omega) (by omega), drpA_s A t (f := 6) (by omega) (by omega), drpA_s A t (f := 7) (by omega) (by omega), drpA_s A t (f := 8) (by omega) (by omega), drpA_s A t (f := 9) (by omega) (by omega), drpA_s A t (f := 10) (by omega) (by omega)]
        exact r6 _ (skp_lt ht hu)
      · rw [drpA_12] at hi
        exact w2 i hi
theorem dropD_ok (R : RepL μ 0 A) (O : OkA A) (C : Cache μ A) {t : Nat} (ht : t < A 4 0) : ∃ μ', fD_drop (nI t) μ = some (if A 9 t = 1 then -2 else nI (A 4 0 - 1), μ') ∧ Off sAd μ μ' ∧ RepL μ' 0 (if A 9 t = 1 then A else drpA A t) ∧ Cache μ' (if A 9 t = 1 then A else drpA A t) := by
  have hn := O.n4
  have h9 := (O.tr ht).2.2.2.2.2.2.1
  have it : fL_hasTrain 0 (nI t) μ = some (nI 1) := by rw [hasTrain_ok R O, if_pos ⟨t, ht, rfl⟩]; rfl
  unfold fD_drop
  by_cases z : A 9 t = 1
  · rw [if_pos z, if_pos z]
    simp (disch := omega) only [lit_0, lit_1, lit_2, lit_3, lit_4, lit_5, lit_6, lit_7, lit_8, lit_9, lit_10, lit_11, lit_12, lit_13, lit_14, lit_15, lit_16, lit_17, lit_18, lit_19, lit_20, lit_23, lit_24, lit_31, lit_32, lit_34, lit_36, lit_40, lit_48, lit_49, lit_57, lit_58, lit_59, lit_60, lit_64, lit_96, lit_97, lit_99, lit_101, lit_105, lit_108, lit_110, lit_111, lit_112, lit_114, lit_115, lit_116, lit_122, lit_127, lit_160, lit_216, lit_235, lit_238, lit_343, lit_476, lit_1296, lit_2000, lit_2401, lt_def, bind_s, gd_d, ix_n, inb_n, nI_add, pk_mul, pk_sub, nI_leI, nI_ltI, nI_eq, nI_ltn, nI_eqn, nI_eqn2, if_pos, if_neg, if_true, if_false, nI_addm1, it, R.ss ht]
    exact ⟨μ, rfl, Off_refl _ _, R, C⟩
  · rw [if_neg z, if_neg z]
    obtain ⟨m1, e1, o1, R1⟩ := removeTrain_ok R O ht
    obtain ⟨m2, e2, o2, -, -, C2⟩ := forget_ok m1
    have R2 : RepL m2 0 (drpA A t) := RepL_off o2 (fun _ _ => rfl) R1
    have n2 := R2.n
    rw [drpA_4] at n2
    simp (disch := omega) only [lit_0, lit_1, lit_2, lit_3, lit_4, lit_5, lit_6, lit_7, lit_8, lit_9, lit_10, lit_11, lit_12, lit_13, lit_14, lit_15, lit_16, lit_17, lit_18, lit_19, lit_20, lit_23, lit_24, lit_31, lit_32, lit_34, lit_36, lit_40, lit_48, lit_49, lit_57, lit_58, lit_59, lit_60, lit_64, lit_96, lit_97, lit_99, lit_101, lit_105, lit_108, lit_110, lit_111, lit_112, lit_114, lit_115, lit_116, lit_122, lit_127, lit_160, lit_216, lit_235, lit_238, lit_343, lit_476, lit_1296, lit_2000, lit_2401, lt_def, bind_s, gd_d, ix_n, inb_n, nI_add, pk_mul, pk_sub, nI_leI, nI_ltI, nI_eq, nI_ltn, nI_eqn, nI_eqn2, if_pos, if_neg, if_true, if_false, nI_addm1, it, R.ss ht, e1, e2, n2]
    exact ⟨m2, rfl, Off_trans (Off_mono o1 sAd_l) (Off_mono o2 sAd_f), R2, C2 _⟩
end Drop3
