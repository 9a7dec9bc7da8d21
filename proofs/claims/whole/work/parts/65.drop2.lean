/-! drop, by both -/
def ShI (μ m : Mem) (k t i : Nat) (D : Nat → Bool) : Prop := (∀ r x, sLn k r x = false → m r x = μ r x) ∧ (∀ j x, j < 6 ∨ 11 < j → m (0, k, j) x = μ (0, k, j) x) ∧ ∀ j x, 6 ≤ j → j ≤ 11 → m (0, k, j) x = μ (0, k, j) (if t ≤ x ∧ x < (if D j then i + 1 else i) then x + 1 else x)
section Drop2
variable {μ : Mem} {k : Nat} {A : Ab} {B : Nat → Nat → Nat}
theorem sh_wr {τ : Type} {K : Mem → Option τ} {Q : Option τ → Prop} {m : Mem} {t i : Nat} {D : Nat → Bool} (c : ShI μ m k t i D) (j : Nat) (hD : D j = false) (h6 : 6 ≤ j) (h11 : j ≤ 11) (ti : t ≤ i) (i3 : i + 1 < 4) (h : ∀ m', ShI μ m' k t i (fun a => D a || a == j) → Q (K m')) : Q (gd (inb (nI i + 1) 4) (gd (inb (nI i) 4) (lt (wr m (0, k, j) (ix (nI i)) (m (0, k, j) (ix (nI i + 1)))) K))) := by
  simp (disch := omega) only [lit_0, lit_1, lit_2, lit_3, lit_4, lit_5, lit_6, lit_7, lit_8, lit_9, lit_10, lit_11, lit_12, lit_13, lit_14, lit_15, lit_16, lit_17, lit_18, lit_19, lit_20, lit_23, lit_24, lit_31, lit_32, lit_34, lit_36, lit_40, lit_48, lit_49, lit_57, lit_58, lit_59, lit_60, lit_64, lit_96, lit_97, lit_99, lit_101, lit_105, lit_108, lit_110, lit_111, lit_112, lit_114, lit_115, lit_116, lit_122, lit_127, lit_160, lit_216, lit_235, lit_238, lit_343, lit_476, lit_1296, lit_2000, lit_2401, lt_def, bind_s, gd_d, ix_n, inb_n, nI_add, pk_mul, pk_sub, nI_leI, nI_ltI, nI_eq, nI_ltn, nI_eqn, nI_eqn2, if_pos, if_neg, if_true, if_false, nI_addm1]
  refine h _ ⟨fun r x hr => ?_, fun a x ha => ?_, fun a x ha hb => ?_⟩
  · rw [wr_off _ _ (fun z => by rw [z.1, sLn_eq] at hr; cases hr)]
    exact c.1 r x hr
  · rw [wr_off _ _ (fun z => by have : a = j := by simpa using z.1
                                omega)]
    exact c.2.1 a x ha
  · by_cases e : a = j
    · subst e
      have e1 : (D a || a == a) = true := by simp
      rw [wr_get, if_pos e1]
      by_cases q : x = i
      · subst q
        rw [if_pos ⟨rfl, rfl⟩, c.2.2 a (x + 1) ha hb, hD, if_neg (by simp), if_pos (by omega)]
      · rw [if_neg (fun z => q z.2), c.2.2 a x ha hb, hD, if_neg (show ¬ false = true by simp)]
        by_cases w : t ≤ x ∧ x < i
        · rw [if_pos w, if_pos (by omega)]
        · rw [if_neg w, if_neg (by omega)]
    · have e1 : (D a || a == j) = D a := by
        have : (a == j) = false := by simp [e]
        rw [this, Bool.or_false]
      rw [wr_off _ _ (fun z => e (by simpa using z.1))]
      show m (0, k, a) x = μ (0, k, a) (if t ≤ x ∧ x < (if (D a || a == j) = true then i + 1 else i) then x + 1 else x)
      rw [e1]
      exact c.2.2 a x ha hb
theorem rmE_ok {e t : Nat} {f g h : Nat → Nat} (he : e ≤ 60) (ht : t < 2 ^ 31) (h0 : μ (0, k, 0) 12 = nI e) (hf : ∀ j, j < e → μ (0, k, 14) j = nI (f j)) (hg : ∀ j, j < e → μ (0, k, 15) j = nI (g j) ∧ g j < 2 ^ 31) (hh : ∀ j, j < e → μ (0, k, 16) j = nI (h j)) : ∃ μ', fL_removeEntries k (nI t) μ = some μ' ∧ Off (sJn k) μ μ' ∧ μ' (0, k, 0) 12 = nI (cnt (fun i => decide (g i ≠ t)) e) ∧ ∀ j, j < cnt (fun i => decide (g i ≠ t)) e → μ' (0, k, 14) j = nI (fltJ (fun i => decide (g i ≠ t)) f e j) ∧ μ' (0, k, 15) j = nI (fltJ (fun i => decide (g i ≠ t)) (fun i => if g i ≤ t then g i else g i - 1) e j) ∧ μ' (0, k, 16) j = nI (fltJ (fun i => decide (g i ≠ t)) h e j) := by
  generalize hq : (fun i => decide (g i ≠ t)) = q
  have qt : ∀ i, g i = t → q i = false := fun i hi => by rw [← hq]; simp [hi]
  have qf : ∀ i, g i ≠ t → q i = true := fun i hi => by rw [← hq]; simp [hi]
  have sj : ∀ j i, j = 14 ∨ j = 15 ∨ j = 16 → sJn k (0, k, j) i = true := fun j i hj => by
    rcases hj with rfl | rfl | rfl <;> simp [sJn]
  unfold fL_removeEntries
  rw [lt_def, lt_def]
  refine up21 (B := bL_removeEntries_4 k (nI t)) (fun r => ∃ μ', r = some μ' ∧ Off (sJn k) μ μ' ∧ μ' (0, k, 0) 12 = nI (cnt q e) ∧ ∀ j, j < cnt q e → μ' (0, k, 14) j = nI (fltJ q f e j) ∧ μ' (0, k, 15) j = nI (fltJ q (fun i => if g i ≤ t then g i else g i - 1) e j) ∧ μ' (0, k, 16) j = nI (fltJ q h e j)) e (by omega) (fun i a m => a = nI (cnt q i) ∧ Off (sJn k) μ m ∧ m (0, k, 0) 12 = nI e ∧ (∀ j, j < cnt q i → m (0, k, 14) j = nI (fltJ q f i j) ∧ m (0, k, 15) j = nI (fltJ q (fun i => if g i ≤ t then g i else g i - 1) i j) ∧ m (0, k, 16) j = nI (fltJ q h i j)) ∧ ∀ j, i ≤ j → j < e → m (0, k, 14) j = nI (f j) ∧ m (0, k, 15) j = nI (g j) ∧ m (0, k, 16) j = nI (h j)) ⟨rfl, Off_refl _ _, h0, fun j hj => absurd hj (by simp [cnt]), fun j _ hj => ⟨hf j hj, (hg j hj).1, hh j hj⟩⟩ (fun sf i a m hi hJ => ?_) (fun sf a m hJ => ?_) <;> unfold bL_removeEntries_4
  · obtain ⟨rfl, o1, n1, c1, c2⟩ := hJ
    have cl := cnt_le q i
    obtain ⟨b1, b2, b3⟩ := c2 i (Nat.le_refl _) hi
    have gl := (hg i hi).2
    left
    by_cases z : g i = t
    · have qi := qt i z
      simp (disch := omega) only [lit_0, lit_1, lit_2, lit_3, lit_4, lit_5, lit_6, lit_7, lit_8, lit_9, lit_10, lit_11, lit_12, lit_13, lit_14, lit_15, lit_16, lit_17, lit_18, lit_19, lit_20, lit_23, lit_24, lit_31, lit_32, lit_34, lit_36, lit_40, lit_48, lit_49, lit_57, lit_58, lit_59, lit_60, lit_64, lit_96, lit_97, lit_99, lit_101, lit_105, lit_108, lit_110, lit_111, lit_112, lit_114, lit_115, lit_116, lit_122, lit_127, lit_160, lit_216, lit_235, lit_238, lit_343, lit_476, lit_1296, lit_2000, lit_2401, lt_def, bind_s, gd_d, ix_n, inb_n, nI_add, pk_mul, pk_sub, nI_leI, nI_ltI, nI_eq, nI_ltn, nI_eqn, nI_eqn2, if_pos, if_neg, if_true, if_false, nI_addm1, n1, b2]
      refine ⟨_, m, ⟨by rw [cnt_s, qi]; rfl, o1, n1, ?_, fun j h1 h2 => c2 j (by omega) h2⟩, rfl⟩
      rw [cnt_s, qi, if_neg (by simp), Nat.add_zero, fltJ_n _ qi, fltJ_n _ qi, fltJ_n _ qi]
      exact c1
    · have qi := qf i z
      have v2 : ∀ v, wr m (0, k, 14) (cnt q i) v (0, k, 15) i = nI (g i) := fun v => (wr_off _ _ (by simp)).trans b2
      have v3 : ∀ v w, wr (wr m (0, k, 14) (cnt q i) v) (0, k, 15) (cnt q i) w (0, k, 16) i = nI (h i) := fun v w => (wr_off _ _ (by simp)).trans ((wr_off _ _ (by simp)).trans b3)
      have ew : (if g i ≤ t then nI (g i) else nI (g i - 1)) = nI (if g i ≤ t then g i else g i - 1) := by split <;> rfl
      have fin : ∃ a' m', (a' = nI (cnt q (i + 1)) ∧ Off (sJn k) μ m' ∧ m' (0, k, 0) 12 = nI e ∧ (∀ j, j < cnt q (i + 1) → m' (0, k, 14) j = nI (fltJ q f (i + 1) j) ∧ m' (0, k, 15) j = nI (fltJ q (fun i => if g i ≤ t then g i else g i - 1) (i + 1) j) ∧ m' (0, k, 16) j = nI (fltJ q h (i + 1) j)) ∧ ∀ j, i + 1 ≤ j → j < e → m' (0, k, 14) j = nI (f j) ∧ m' (0, k, 15) j = nI (g j) ∧ m' (0, k, 16) j = nI (h j)) ∧ sf (nI (cnt q i + 1)) (nI (i + 1)) (wr (wr (wr m (0, k, 14) (cnt q i) (nI (f i))) (0, k, 15) (cnt q i) (nI (if g i ≤ t then g i else g i - 1))) (0, k, 16) (cnt q i) (nI (h i))) = sf a' (nI (i + 1)) m' := by
        refine ⟨_, _, ⟨by rw [cnt_s, if_pos qi], Off_wr (Off_wr (Off_wr o1 (sj _ _ (by omega))) (sj _ _ (by omega))) (sj _ _ (by omega)), ?_, fun j hj => ?_, fun j h1 h2 => ?_⟩, rfl⟩
        · rw [wr_off _ _ (by simp), wr_off _ _ (by simp), wr_off _ _ (by simp)]; exact n1
        · rw [cnt_s, if_pos qi] at hj
          rw [fltJ_y _ qi, fltJ_y _ qi, fltJ_y _ qi]
          by_cases y : j = cnt q i
          · subst y
            rw [upx_at, upx_at, upx_at]
            refine ⟨?_, ?_, wr_at _ _ _ _⟩
            · rw [wr_off _ _ (by simp), wr_off _ _ (by simp), wr_at]
            · rw [wr_off _ _ (by simp), wr_at]
          · rw [upx_ne _ y, upx_ne _ y, upx_ne _ y]
            have := c1 j (by omega)
            refine ⟨?_, ?_, ?_⟩
            · rw [wr_off _ _ (by simp), wr_off _ _ (by simp), wr_off _ _ (by simp [y])]; exact this.1
            · rw [wr_off _ _ (by simp), wr_off _ _ (by simp [y]), wr_off _ _ (by simp)]; exact this.2.1
            · rw [wr_off _ _ (by simp [y]), wr_off _ _ (by simp), wr_off _ _ (by simp)]; exact this.2.2
        · have y : j ≠ cnt q i := by omega
          have := c2 j (by omega) h2
          refine ⟨?_, ?_, ?_⟩
          · rw [wr_off _ _ (by simp), wr_off _ _ (by simp), wr_off _ _ (by simp [y])]; exact this.1
          · rw [wr_off _ _ (by simp), wr_off _ _ (by simp [y]), wr_off _ _ (by simp)]; exact this.2.1
          · rw [wr_off _ _ (by simp [y]), wr_off _ _ (by simp), wr_off _ _ (by simp)]; exact this.2.2
      by_cases y : g i ≤ t
      · simp only [if_pos y] at fin
        simp (disch := omega) only [lit_0, lit_1, lit_2, lit_3, lit_4, lit_5, lit_6, lit_7, lit_8, lit_9, lit_10, lit_11, lit_12, lit_13, lit_14, lit_15, lit_16, lit_17, lit_18, lit_19, lit_20, lit_23, lit_24, lit_31, lit_32, lit_34, lit_36, lit_40, lit_48, lit_49, lit_57, lit_58, lit_59, lit_60, lit_64, lit_96, lit_97, lit_99, lit_101, lit_105, lit_108, lit_110, lit_111, lit_112, lit_114, lit_115, lit_116, lit_122, lit_127, lit_160, lit_216, lit_235, lit_238, lit_343, lit_476, lit_1296, lit_2000, lit_2401, lt_def, bind_s, gd_d, ix_n, inb_n, nI_add, pk_mul, pk_sub, nI_leI, nI_ltI, nI_eq, nI_ltn, nI_eqn, nI_eqn2, if_pos, if_neg, if_true, if_false, nI_addm1, n1, b1, b2, v2, jL_removeEntries_66, v3]
        exact fin
      · simp only [if_neg y] at fin
        simp (disch := omega) only [lit_0, lit_1, lit_2, lit_3, lit_4, lit_5, lit_6, lit_7, lit_8, lit_9, lit_10, lit_11, lit_12, lit_13, lit_14, lit_15, lit_16, lit_17, lit_18, lit_19, lit_20, lit_23, lit_24, lit_31, lit_32, lit_34, lit_36, lit_40, lit_48, lit_49, lit_57, lit_58, lit_59, lit_60, lit_64, lit_96, lit_97, lit_99, lit_101, lit_105, lit_108, lit_110, lit_111, lit_112, lit_114, lit_115, lit_116, lit_122, lit_127, lit_160, lit_216, lit_235, lit_238, lit_343, lit_476, lit_1296, lit_2000, lit_2401, lt_def, bind_s, gd_d, ix_n, inb_n, nI_add, pk_mul, pk_sub, nI_leI, nI_ltI, nI_eq, nI_ltn, nI_eqn, nI_eqn2, if_pos, if_neg, if_true, if_false, nI_addm1, n1, b1, b2, v2, jL_removeEntries_66, v3]
        exact fin
  · obtain ⟨rfl, o1, n1, c1, c2⟩ := hJ
    have cl := cnt_le q e
    simp (disch := omega) only [lit_0, lit_1, lit_2, lit_3, lit_4, lit_5, lit_6, lit_7, lit_8, lit_9, lit_10, lit_11, lit_12, lit_13, lit_14, lit_15, lit_16, lit_17, lit_18, lit_19, lit_20, lit_23, lit_24, lit_31, lit_32, lit_34, lit_36, lit_40, lit_48, lit_49, lit_57, lit_58, lit_59, lit_60, lit_64, lit_96, lit_97, lit_99, lit_101, lit_105, lit_108, lit_110, lit_111, lit_112, lit_114, lit_115, lit_116, lit_122, lit_127, lit_160, lit_216, lit_235, lit_238, lit_343, lit_476, lit_1296, lit_2000, lit_2401, lt_def, bind_s, gd_d, ix_n, inb_n, nI_add, pk_mul, pk_sub, nI_leI, nI_ltI, nI_eq, nI_ltn, nI_eqn, nI_eqn2, if_pos, if_neg, if_true, if_false, nI_addm1, n1, jL_removeEntries_88]
    refine ⟨_, rfl, Off_wr o1 (by simp [sJn]), wr_at _ _ _ _, fun j hj => ?_⟩
    rw [wr_off _ _ (by simp), wr_off _ _ (by simp), wr_off _ _ (by simp)]
    exact c1 j hj
theorem removeTrain_ok (R : RepL μ k A) (O : OkA A) {t : Nat} (ht : t < A 4 0) : ∃ μ', fL_removeTrain k (nI t) μ = some μ' ∧ Off (sLn k) μ μ' ∧ RepL μ' k (drpA A t) := by
  have hn := O.n4
  have e60 := O.e60
  unfold fL_removeTrain
  rw [lt_def]
  refine up11s (B := bL_removeTrain_2 k (nI t)) (fun r => ∃ μ', r = some μ' ∧ Off (sLn k) μ μ' ∧ RepL μ' k (drpA A t)) t (A 4 0 - 1) (by omega) (by omega) (fun i m => ShI μ m k t i (fun _ => false)) ⟨fun _ _ _ => rfl, fun _ _ _ => rfl, fun j x _ _ => by rw [if_neg (show ¬ false = true by simp), if_neg (by omega)]⟩ (fun sf i m h1 hi hJ => ?_) (fun sf m hJ => ?_) <;> unfold bL_removeTrain_2
  · left
    have n1 : m (0, k, 0) 4 = nI (A 4 0) := (hJ.2.1 0 4 (by omega)).trans R.n
    have c : ¬ (nI (A 4 0) - 1 ≤ nI i) := by
      rw [nI_sub1 (by omega), nI_leI (by omega) (by omega)]; omega
    rw [n1, if_neg c]
    refine sh_wr (Q := fun w => ∃ m', ShI μ m' k t (i + 1) (fun _ => false) ∧ w = sf (nI (i + 1)) m') hJ 6 rfl (by omega) (by omega) h1 (by omega) (fun m1 c1 => ?_)
    refine sh_wr (Q := fun w => ∃ m', ShI μ m' k t (i + 1) (fun _ => false) ∧ w = sf (nI (i + 1)) m') c1 7 rfl (by omega) (by omega) h1 (by omega) (fun m2 c2 => ?_)
    refine sh_wr (Q := fun w => ∃ m', ShI μ m' k t (i + 1) (fun _ => false) ∧ w = sf (nI (i + 1)) m') c2 8 rfl (by omega) (by omega) h1 (by omega) (fun m3 c3 => ?_)
    refine sh_wr (Q := fun w => ∃ m', ShI μ m' k t (i + 1) (fun _ => false) ∧ w = sf (nI (i + 1)) m') c3 9 rfl (by omega) (by omega) h1 (by omega) (fun m4 c4 => ?_)
    refine sh_wr (Q := fun w => ∃ m', ShI μ m' k t (i + 1) (fun _ => false) ∧ w = sf (nI (i + 1)) m') c4 10 rfl (by omega) (by omega) h1 (by omega) (fun m5 c5 => ?_)
    refine sh_wr (Q := fun w => ∃ m', ShI μ m' k t (i + 1) (fun _ => false) ∧ w = sf (nI (i + 1)) m') c5 11 rfl (by omega) (by omega) h1 (by omega) (fun m6 c6 => ?_)
    refine ⟨m6, ⟨c6.1, c6.2.1, fun j x ha hb => ?_⟩, by rw [lt_def, nI_s1]⟩
    have := c6.2.2 j x ha hb
    have d : j = 6 ∨ j = 7 ∨ j = 8 ∨ j = 9 ∨ j = 10 ∨ j = 11 := by omega
    rw [if_neg (show ¬ false = true by simp)]
    rcases d with rfl | rfl | rfl | rfl | rfl | rfl <;> exact this
  · have n1 : m (0, k, 0) 4 = nI (A 4 0) := (hJ.2.1 0 4 (by omega)).trans R.n
    simp (disch := omega) only [lit_0, lit_1, lit_2, lit_3, lit_4, lit_5, lit_6, lit_7, lit_8, lit_9, lit_10, lit_11, lit_12, lit_13, lit_14, lit_15, lit_16, lit_17, lit_18, lit_19, lit_20, lit_23, lit_24, lit_31, lit_32, lit_34, lit_36, lit_40, lit_48, lit_49, lit_57, lit_58, lit_59, lit_60, lit_64, lit_96, lit_97, lit_99, lit_101, lit_105, lit_108, lit_110, lit_111, lit_112, lit_114, lit_115, lit_116, lit_122, lit_127, lit_160, lit_216, lit_235, lit_238, lit_343, lit_476, lit_1296, lit_2000, lit_2401, lt_def, bind_s, gd_d, ix_n, inb_n, nI_add, pk_mul, pk_sub, nI_leI, nI_ltI, nI_eq, nI_ltn, nI_eqn, nI_eqn2, if_pos, if_neg, if_true, if_false, nI_addm1, n1, jL_removeTrain_102]
    obtain ⟨r1, r2, r3, r4, r5, r6, r7⟩ := R
    generalize e0 : wr m (0, k, 0) 4 (nI (A 4 0 - 1)) = m1
    have f0 : ∀ j x, j ≠ 0 → m1 (0, k, j) x = m (0, k, j) x := fun j x hj => by rw [← e0, wr_off _ _ (by simp [hj])]
    have f1 : ∀ x, x ≠ 4 → m1 (0, k, 0) x = m (0, k, 0) x := fun x hx => by rw [← e0, wr_off _ _ (by simp [hx])]
    have o1 : Off (sLn k) μ m1 := by
      rw [← e0]
      exact Off_wr hJ.1 (sLn_eq k 0 4)
    obtain ⟨m2, e2, o2, v2, w2⟩ := rmE_ok (μ := m1) (k := k) (e := A 12 0) (t := t) (f := A 13) (g := A 14) (h := A 15) e60 (by omega) (by rw [f1 12 (by omega), hJ.2.1 0 12 (by omega)]; exact r4) (fun j hj => by rw [f0 14 _ (by omega), hJ.2.1 14 _ (by omega)]; exact (r7 j hj).1) (fun j hj => by rw [f0 15 _ (by omega), hJ.2.1 15 _ (by omega)]; exact ⟨(r7 j hj).2.1, by have := (O.jr hj).2.1; omega⟩) (fun j hj => by rw [f0 16 _ (by omega), hJ.2.1 16 _ (by omega)]; exact (r7 j hj).2.2)
    rw [e2]
    have s0 : ∀ j x, j < 14 → ¬ (j = 0 ∧ x = 12) → m2 (0, k, j) x = m1 (0, k, j) x := fun j x h1 h2 => o2 _ _ (by
      simp only [sJn]
      simp
      omega)
    have o : ∀ f, f < 4 ∨ f = 11 → drpA A t f = A f := fun f h => drpA_o A t h
    refine ⟨m2, rfl, Off_trans o1 (Off_mono o2 (fun r i h => sLn_sJn k r i h)), ?_, ?_, ?_, ?_, fun p hp => ?_, fun u hu => ?_, fun i hi => ?_⟩
    · rw [s0 0 0 (by omega) (by omega), f1 0 (by omega), hJ.2.1 0 0 (by omega), o 0 (by omega)]; exact r1
    · rw [s0 0 4 (by omega) (by omega), ← e0, wr_at, drpA_4]
    · rw [s0 0 11 (by omega) (by omega), f1 11 (by omega), hJ.2.1 0 11 (by omega), o 11 (by omega)]; exact r3
    · rw [v2, drpA_12]; rfl
    · rw [o 0 (by omega)] at hp
      rw [o 1 (by omega), o 2 (by omega), o 3 (by omega), s0 2 _ (by omega) (by omega), s0 4 _ (by omega) (by omega), f0 2 _ (by omega), f0 4 _ (by omega), hJ.2.1 2 _ (by omega), hJ.2.1 4 _ (by omega)]
      have := r5 p hp
      exact ⟨this.1, this.2.1, fun i hi => by rw [s0 3 _ (by omega) (by omega), f0 3 _ (by omega), hJ.2.1 3 _ (by omega)]; exact this.2.2 i hi⟩
    · rw [drpA_4] at hu
      have sk : ∀ j, 6 ≤ j → j ≤ 11 → m2 (0, k, j) u = μ (0, k, j) (skp t u) := fun j h1 h2 => by
        rw [s0 j _ (by omega) (by omega), f0 j _ (by omega), hJ.2.2 j u h1 h2, if_neg (show ¬ false = true by simp)]
        unfold skp
        by_cases q : u < t
        · rw [if_pos q, if_neg (by omega)]
        · rw [if_neg q, if_pos (by omega)]
      rw [sk 6 (by omega) (by omega), sk 7 (by omega) (by omega), sk 8 (by omega) (by omega), sk 9 (by omega) (by omega), sk 10 (by omega) (by omega), sk 11 (by omega) (by omega)]
      rw [drpA_s A t (f := 5) (by omega) (by omega), drpA_s A t (f := 6) (by omega) (by omega), drpA_s A t (f := 7) (by omega) (by omega), drpA_s A t (f := 8) (by omega) (by omega), drpA_s A t (f := 9) (by omega) (by omega), drpA_s A t (f := 10) (by omega) (by omega)]
      exact r6 _ (skp_lt ht hu)
    · rw [drpA_12] at hi
      exact w2 i hi
end Drop2
