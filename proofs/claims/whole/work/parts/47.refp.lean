noncomputable def agA (A : Ab) (t : Nat) : Nat :=
  if A 9 t = 0 then (if fst (runA A (secA A t (A 8 t))) (A 4 0) 0 < A 4 0 then 3 else if canA A (dA A) t then (if safeB A (dec (dA A) t) then 0 else 5) else 4) else if A 9 t = 2 then 1 else 2
theorem agA_le (A : Ab) (t : Nat) : agA A t ≤ 5 := by
  unfold agA
  split
  · split
    · omega
    · split
      · split <;> omega
      · omega
  · split <;> omega
section Refp
variable {μ : Mem} {A : Ab} {B : Nat → Nat → Nat} {d : Nat → Nat}
theorem isHeldAll_ok (R : RepR (μ (5, 0, 1)) A B) (O : OkA A) : ∃ μ', fM_isHeldAll μ = some (nI (if heldA A (dA A) then 1 else 0), μ') ∧ Off sSp μ μ' := by
  have hn := O.n4
  have h6 := O.p6
  have D := DOk_dA O
  obtain ⟨m, e1, o1, S1⟩ := decode_ok O D μ
  have R1 := RepR_off o1 (fun _ => rfl) R
  unfold fM_isHeldAll
  simp only [postureNow_ok R O, bind_s, e1, lt_def]
  refine ⟨m, ?_, o1⟩
  refine up20 (B := bM_isHeldAll_12 m) (fun r => r = some (nI (if heldA A (dA A) then 1 else 0), m)) (A 0 0) (by omega) (fun i a => (a = nI 1 ∧ ∀ p, p < i → fitsA A p (occ A (dA A) p) = true) ∨ (a = nI 0 ∧ ¬ heldA A (dA A) = true)) (Or.inl ⟨rfl, fun j hj => absurd hj (by omega)⟩) (fun sf i a hi hJ => ?_) (fun sf a hJ => ?_) <;> unfold bM_isHeldAll_12
  · left
    rcases hJ with ⟨rfl, hJ⟩ | ⟨rfl, hJ⟩
    · by_cases z : fitsA A i (occ A (dA A) i) = true
      · simp (disch := omega) only [lit_0, lit_1, lit_2, lit_3, lit_4, lit_5, lit_6, lit_7, lit_8, lit_9, lit_10, lit_11, lit_12, lit_13, lit_14, lit_15, lit_16, lit_17, lit_18, lit_19, lit_20, lit_23, lit_24, lit_31, lit_32, lit_34, lit_36, lit_40, lit_48, lit_49, lit_57, lit_58, lit_59, lit_60, lit_64, lit_96, lit_97, lit_99, lit_101, lit_105, lit_108, lit_110, lit_111, lit_112, lit_114, lit_115, lit_116, lit_122, lit_127, lit_160, lit_216, lit_235, lit_238, lit_343, lit_476, lit_1296, lit_2000, lit_2401, lt_def, bind_s, gd_d, ix_n, inb_n, nI_add, pk_mul, pk_sub, nI_leI, nI_ltI, nI_eq, nI_ltn, nI_eqn, nI_eqn2, if_pos, if_neg, if_true, if_false, nI_addm1, R1.pl, holds_ok R1 O D S1 hi, if_pos z]
        refine ⟨_, Or.inl ⟨rfl, fun p hp => ?_⟩, rfl⟩
        by_cases e : p = i
        · subst e; exact z
        · exact hJ p (by omega)
      · simp (disch := omega) only [lit_0, lit_1, lit_2, lit_3, lit_4, lit_5, lit_6, lit_7, lit_8, lit_9, lit_10, lit_11, lit_12, lit_13, lit_14, lit_15, lit_16, lit_17, lit_18, lit_19, lit_20, lit_23, lit_24, lit_31, lit_32, lit_34, lit_36, lit_40, lit_48, lit_49, lit_57, lit_58, lit_59, lit_60, lit_64, lit_96, lit_97, lit_99, lit_101, lit_105, lit_108, lit_110, lit_111, lit_112, lit_114, lit_115, lit_116, lit_122, lit_127, lit_160, lit_216, lit_235, lit_238, lit_343, lit_476, lit_1296, lit_2000, lit_2401, lt_def, bind_s, gd_d, ix_n, inb_n, nI_add, pk_mul, pk_sub, nI_leI, nI_ltI, nI_eq, nI_ltn, nI_eqn, nI_eqn2, if_pos, if_neg, if_true, if_false, nI_addm1, R1.pl, holds_ok R1 O D S1 hi, if_neg z]
        exact ⟨_, Or.inr ⟨rfl, fun q => z (of_decide_eq_true q i hi)⟩, rfl⟩
    · simp (disch := omega) only [lit_0, lit_1, lit_2, lit_3, lit_4, lit_5, lit_6, lit_7, lit_8, lit_9, lit_10, lit_11, lit_12, lit_13, lit_14, lit_15, lit_16, lit_17, lit_18, lit_19, lit_20, lit_23, lit_24, lit_31, lit_32, lit_34, lit_36, lit_40, lit_48, lit_49, lit_57, lit_58, lit_59, lit_60, lit_64, lit_96, lit_97, lit_99, lit_101, lit_105, lit_108, lit_110, lit_111, lit_112, lit_114, lit_115, lit_116, lit_122, lit_127, lit_160, lit_216, lit_235, lit_238, lit_343, lit_476, lit_1296, lit_2000, lit_2401, lt_def, bind_s, gd_d, ix_n, inb_n, nI_add, pk_mul, pk_sub, nI_leI, nI_ltI, nI_eq, nI_ltn, nI_eqn, nI_eqn2, if_pos, if_neg, if_true, if_false, nI_addm1, R1.pl]
      exact ⟨_, Or.inr ⟨rfl, hJ⟩, rfl⟩
  · simp (disch := omega) only [lit_0, lit_1, lit_2, lit_3, lit_4, lit_5, lit_6, lit_7, lit_8, lit_9, lit_10, lit_11, lit_12, lit_13, lit_14, lit_15, lit_16, lit_17, lit_18, lit_19, lit_20, lit_23, lit_24, lit_31, lit_32, lit_34, lit_36, lit_40, lit_48, lit_49, lit_57, lit_58, lit_59, lit_60, lit_64, lit_96, lit_97, lit_99, lit_101, lit_105, lit_108, lit_110, lit_111, lit_112, lit_114, lit_115, lit_116, lit_122, lit_127, lit_160, lit_216, lit_235, lit_238, lit_343, lit_476, lit_1296, lit_2000, lit_2401, lt_def, bind_s, gd_d, ix_n, inb_n, nI_add, pk_mul, pk_sub, nI_leI, nI_ltI, nI_eq, nI_ltn, nI_eqn, nI_eqn2, if_pos, if_neg, if_true, if_false, nI_addm1, R1.pl]
    rcases hJ with ⟨rfl, hJ⟩ | ⟨rfl, hJ⟩
    · rw [if_pos (show heldA A (dA A) = true from decide_eq_true hJ)]; rfl
    · rw [if_neg hJ]; rfl
theorem isSafeNow_ok (R : RepR (μ (5, 0, 1)) A B) (O : OkA A) : ∃ μ', fM_isSafeNow μ = some (nI (if safeB A (dA A) then 1 else 0), μ') ∧ Off sEx μ μ' := by
  have D := DOk_dA O
  have hc := code7_lt O D
  obtain ⟨m, n, q, e1, o1, E1⟩ := explore_ok R O D
  have R1 := RepR_off o1 (fun _ => rfl) R
  have h := E1.2.2.2.2.2 (dA A) (Rch_refl _)
  unfold fM_isSafeNow
  simp (disch := omega) only [postureNow_ok R O, postureNow_ok R1 O, bind_s, e1, ix_n, inb_n, gd_d, h, isb_c, gd_tt]
  exact ⟨m, rfl, o1⟩
theorem dec_upx (d : Nat → Nat) (t y : Nat) : dec (upx d t y) t = upx d t (y - 1) := by
  funext u
  unfold dec upx
  by_cases e : u = t
  · rw [if_pos e, if_pos e, if_pos e]
  · rw [if_neg e, if_neg e, if_neg e]
theorem goesAloneM_ok (R : RepR (μ (5, 0, 1)) A B) (O : OkA A) (D : DOk A d) (hS : SpOk μ A d) {t : Nat} (ht : t < A 4 0) (h1 : 0 < d t) : ∃ μ', fM_goesAlone (nI t) μ = some (nI (if aloneA A d t then 1 else 0), μ') ∧ Off sSp μ μ' ∧ SpOk μ' A (if aloneA A d t then upx d t 0 else d) := by
  have hn := O.n4
  have h5 := D.le5 O t
  have hSt := hS t (by omega)
  have h7 := s7_le O D t
  unfold fM_goesAlone
  simp (disch := omega) only [lit_0, lit_1, lit_2, lit_3, lit_4, lit_5, lit_6, lit_7, lit_8, lit_9, lit_10, lit_11, lit_12, lit_13, lit_14, lit_15, lit_16, lit_17, lit_18, lit_19, lit_20, lit_23, lit_24, lit_31, lit_32, lit_34, lit_36, lit_40, lit_48, lit_49, lit_57, lit_58, lit_59, lit_60, lit_64, lit_96, lit_97, lit_99, lit_101, lit_105, lit_108, lit_110, lit_111, lit_112, lit_114, lit_115, lit_116, lit_122, lit_127, lit_160, lit_216, lit_235, lit_238, lit_343, lit_476, lit_1296, lit_2000, lit_2401, lt_def, bind_s, gd_d, ix_n, inb_n, nI_add, pk_mul, pk_sub, nI_leI, nI_ltI, nI_eq, nI_ltn, nI_eqn, nI_eqn2, if_pos, if_neg, if_true, if_false, nI_addm1, hSt]
  refine up21 (B := bM_goesAlone_12 (nI t) (nI (s7 A d t))) (fun r => ∃ μ', r = some (nI (if aloneA A d t then 1 else 0), μ') ∧ Off sSp μ μ' ∧ SpOk μ' A (if aloneA A d t then upx d t 0 else d)) 6 (by omega) (fun i a m => Off sSp μ m ∧ ((i ≤ d t ∧ (∃ x, x < 2401 ∧ a = nI x) ∧ SpOk m A (upx d t (d t - i)) ∧ ∀ x, d t - i ≤ x → x < d t → canA A (upx d t (x + 1)) t = true) ∨ (a = -nI 4 ∧ ¬ aloneA A d t = true ∧ ∃ y, 0 < y ∧ y ≤ d t ∧ SpOk m A (upx d t y)))) ⟨Off_refl _ _, Or.inl ⟨by omega, ⟨0, by omega, rfl⟩, by rw [Nat.sub_zero, upx_self]; exact hS, fun x h1 h2 => by omega⟩⟩ (fun sf i a m hi hJ => ?_) (fun sf a m hJ => ?_)
  · obtain ⟨o1, hJ⟩ := hJ
    have R1 := RepR_off o1 (fun _ => rfl) R
    unfold bM_goesAlone_12
    rcases hJ with ⟨j1, ⟨x, hx, rfl⟩, j3, j4⟩ | ⟨rfl, j2, y, y1, y2, y3⟩
    · have D1 : DOk A (upx d t (d t - i)) := DOk_upx D (by omega)
      have hs := j3 t (by omega)
      have g7 := s7_le O D1 t
      by_cases z : d t - i = 0
      · right
        have al : aloneA A d t = true := decide_eq_true (fun x hx => j4 x (by omega) hx)
        have e7 : s7 A (upx d t (d t - i)) t = 0 := by unfold s7; rw [upx_at, if_pos z]
        simp (disch := omega) only [lit_0, lit_1, lit_2, lit_3, lit_4, lit_5, lit_6, lit_7, lit_8, lit_9, lit_10, lit_11, lit_12, lit_13, lit_14, lit_15, lit_16, lit_17, lit_18, lit_19, lit_20, lit_23, lit_24, lit_31, lit_32, lit_34, lit_36, lit_40, lit_48, lit_49, lit_57, lit_58, lit_59, lit_60, lit_64, lit_96, lit_97, lit_99, lit_101, lit_105, lit_108, lit_110, lit_111, lit_112, lit_114, lit_115, lit_116, lit_122, lit_127, lit_160, lit_216, lit_235, lit_238, lit_343, lit_476, lit_1296, lit_2000, lit_2401, lt_def, bind_s, gd_d, ix_n, inb_n, nI_add, pk_mul, pk_sub, nI_leI, nI_ltI, nI_eq, nI_ltn, nI_eqn, nI_eqn2, if_pos, if_neg, if_true, if_false, nI_addm1, hs, e7, jM_goesAlone_76, if_pos al]
        refine ⟨_, rfl, Off_wr o1 rfl, SpOk_wr (d := upx d t (d t - i)) j3 (by unfold s7; rw [upx_at, if_pos rfl]) (fun u hu => by rw [upx_ne _ hu, upx_ne _ hu])⟩
      · left
        have e7 : s7 A (upx d t (d t - i)) t = spotA A t (d t - i) + 1 := by unfold s7; rw [upx_at, if_neg z]
        obtain ⟨m2, e2, o2, S2⟩ := movedBy_ok R1 O D1 j3 ht
        have hs2 := S2 t (by omega)
        rw [e7] at g7
        by_cases c : canA A (upx d t (d t - i)) t = true
        · have D2 : DOk A (dec (upx d t (d t - i)) t) := DOk_le D1 (dec_le _ _)
          have hc2 := code7_lt O D2
          have g4 : (!(7 == 0)) = true := rfl
          have g5 : (!(nI 7 == nI 0)) = true := by decide +kernel
          simp (disch := omega) only [lit_0, lit_1, lit_2, lit_3, lit_4, lit_5, lit_6, lit_7, lit_8, lit_9, lit_10, lit_11, lit_12, lit_13, lit_14, lit_15, lit_16, lit_17, lit_18, lit_19, lit_20, lit_23, lit_24, lit_31, lit_32, lit_34, lit_36, lit_40, lit_48, lit_49, lit_57, lit_58, lit_59, lit_60, lit_64, lit_96, lit_97, lit_99, lit_101, lit_105, lit_108, lit_110, lit_111, lit_112, lit_114, lit_115, lit_116, lit_122, lit_127, lit_160, lit_216, lit_235, lit_238, lit_343, lit_476, lit_1296, lit_2000, lit_2401, lt_def, bind_s, gd_d, ix_n, inb_n, nI_add, pk_mul, pk_sub, nI_leI, nI_ltI, nI_eq, nI_ltn, nI_eqn, nI_eqn2, if_pos, if_neg, if_true, if_false, nI_addm1, hs, e7, e2, if_pos c, weightOf_ok, nz7, g4, g5, gd_tt, rem7 O D2 (show t < 4 by omega)]
          refine ⟨_, _, ⟨Off_wr (Off_trans o1 o2) rfl, Or.inl ⟨by omega, ⟨_, hc2, rfl⟩, ?_, fun x h1 h2 => ?_⟩⟩, rfl⟩
          · have e8 : d t - i - 1 = d t - (i + 1) := by omega
            have := SpOk_wr (m := m2) (d := upx d t (d t - i)) (e := dec (upx d t (d t - i)) t) S2 rfl (fun u hu => dec_ne _ hu)
            rw [dec_upx, e8] at this
            rw [dec_upx, e8]
            exact this
          · by_cases e : x = d t - (i + 1)
            · have : x + 1 = d t - i := by omega
              rw [this]; exact c
            · exact j4 x (by omega) h2
        · have al : ¬ aloneA A d t = true := fun q => c (by
            have := of_decide_eq_true q (d t - i - 1) (by omega)
            have e : d t - i - 1 + 1 = d t - i := by omega
            rw [e] at this; exact this)
          simp (disch := omega) only [lit_0, lit_1, lit_2, lit_3, lit_4, lit_5, lit_6, lit_7, lit_8, lit_9, lit_10, lit_11, lit_12, lit_13, lit_14, lit_15, lit_16, lit_17, lit_18, lit_19, lit_20, lit_23, lit_24, lit_31, lit_32, lit_34, lit_36, lit_40, lit_48, lit_49, lit_57, lit_58, lit_59, lit_60, lit_64, lit_96, lit_97, lit_99, lit_101, lit_105, lit_108, lit_110, lit_111, lit_112, lit_114, lit_115, lit_116, lit_122, lit_127, lit_160, lit_216, lit_235, lit_238, lit_343, lit_476, lit_1296, lit_2000, lit_2401, lt_def, bind_s, gd_d, ix_n, inb_n, nI_add, pk_mul, pk_sub, nI_leI, nI_ltI, nI_eq, nI_ltn, nI_eqn, nI_eqn2, if_pos, if_neg, if_true, if_false, nI_addm1, hs, e7, e2, if_neg c, hs2]
          refine ⟨_, _, ⟨Off_wr (Off_trans o1 o2) rfl, Or.inr ⟨rfl, al, d t - i, by omega, by omega, ?_⟩⟩, rfl⟩
          exact SpOk_wr (d := upx d t (d t - i)) S2 e7.symm (fun u hu => rfl)
    · right
      have D1 : DOk A (upx d t y) := DOk_upx D y2
      have hs := y3 t (by omega)
      have g7 := s7_le O D1 t
      have e7 : s7 A (upx d t y) t = spotA A t y + 1 := by unfold s7; rw [upx_at, if_neg (by omega)]
      rw [e7] at g7
      simp (disch := omega) only [lit_0, lit_1, lit_2, lit_3, lit_4, lit_5, lit_6, lit_7, lit_8, lit_9, lit_10, lit_11, lit_12, lit_13, lit_14, lit_15, lit_16, lit_17, lit_18, lit_19, lit_20, lit_23, lit_24, lit_31, lit_32, lit_34, lit_36, lit_40, lit_48, lit_49, lit_57, lit_58, lit_59, lit_60, lit_64, lit_96, lit_97, lit_99, lit_101, lit_105, lit_108, lit_110, lit_111, lit_112, lit_114, lit_115, lit_116, lit_122, lit_127, lit_160, lit_216, lit_235, lit_238, lit_343, lit_476, lit_1296, lit_2000, lit_2401, lt_def, bind_s, gd_d, ix_n, inb_n, nI_add, pk_mul, pk_sub, nI_leI, nI_ltI, nI_eq, nI_ltn, nI_eqn, nI_eqn2, if_pos, if_neg, if_true, if_false, nI_addm1, hs, e7, jM_goesAlone_76, if_neg j2]
      refine ⟨_, rfl, Off_wr o1 rfl, SpOk_wr (d := upx d t y) y3 rfl (fun u hu => (upx_ne _ hu).symm)⟩
  · obtain ⟨o1, hJ⟩ := hJ
    unfold bM_goesAlone_12
    rcases hJ with ⟨j1, -⟩ | ⟨rfl, j2, y, y1, y2, y3⟩
    · omega
    · have D1 : DOk A (upx d t y) := DOk_upx D y2
      have hs := y3 t (by omega)
      have g7 := s7_le O D1 t
      have e7 : s7 A (upx d t y) t = spotA A t y + 1 := by unfold s7; rw [upx_at, if_neg (by omega)]
      rw [e7] at g7
      simp (disch := omega) only [lit_0, lit_1, lit_2, lit_3, lit_4, lit_5, lit_6, lit_7, lit_8, lit_9, lit_10, lit_11, lit_12, lit_13, lit_14, lit_15, lit_16, lit_17, lit_18, lit_19, lit_20, lit_23, lit_24, lit_31, lit_32, lit_34, lit_36, lit_40, lit_48, lit_49, lit_57, lit_58, lit_59, lit_60, lit_64, lit_96, lit_97, lit_99, lit_101, lit_105, lit_108, lit_110, lit_111, lit_112, lit_114, lit_115, lit_116, lit_122, lit_127, lit_160, lit_216, lit_235, lit_238, lit_343, lit_476, lit_1296, lit_2000, lit_2401, lt_def, bind_s, gd_d, ix_n, inb_n, nI_add, pk_mul, pk_sub, nI_leI, nI_ltI, nI_eq, nI_ltn, nI_eqn, nI_eqn2, if_pos, if_neg, if_true, if_false, nI_addm1, hs, e7, jM_goesAlone_76, if_neg j2]
      refine ⟨_, rfl, Off_wr o1 rfl, SpOk_wr (d := upx d t y) y3 rfl (fun u hu => (upx_ne _ hu).symm)⟩
def sSq : Rf → Nat → Bool := fun r i => r == (5, 0, 14) || r == (5, 0, 19) || (r == (5, 0, 0) && i == 19)
theorem sSq_sSp (r : Rf) (i : Nat) (h : sSq r i = false) : sSp r i = false := by
  simp only [sSq, sSp, Bool.or_eq_false_iff] at *
  exact h.1.1
theorem SeqM_le (O : OkA A) {M : Nat} (h : ∀ j, j < M → seqT A (seqD A j) < A 4 0) : M ≤ A 4 0 := by
  have h1 := seq_pos h
  have h2 := cnt_le (fun t => decide (0 < dA A t)) (A 4 0)
  unfold posN at h1
  omega
/-- so far j are found -/
def SqInv (μ m : Mem) (A : Ab) (j : Nat) : Prop := Off sSq μ m ∧ SpOk m A (seqD A j) ∧ m (5, 0, 0) 19 = nI j ∧ (∀ i, i < j → seqT A (seqD A i) < A 4 0) ∧ ∀ i, i < j → m (5, 0, 19) i = nI (seqT A (seqD A i))
theorem findSequence_ok (R : RepR (μ (5, 0, 1)) A B) (O : OkA A) : ∃ μ' M, fM_findSequence μ = some μ' ∧ SqInv μ μ' A M ∧ SeqM A M := by
  have hn := O.n4
  have D := DOk_dA O
  obtain ⟨m, e1, o1, S1⟩ := decode_ok O D μ
  unfold fM_findSequence
  simp only [postureNow_ok R O, bind_s, e1, lt_def]
  refine lz11_m (B := bM_findSequence_15) (fun r => ∃ μ' M, r = some μ' ∧ SqInv μ μ' A M ∧ SeqM A M) (fun a m => ∃ j, SqInv μ m A j ∧ (a = nI 1 ∨ (a = nI 0 ∧ ¬ seqT A (seqD A j) < A 4 0))) (fun a m => if a = 0 then 0 else 10 - ix (m (5, 0, 0) 19)) ?_ FU _ _ ⟨0, ⟨Off_wr (Off_mono o1 sSq_sSp) rfl, fun t ht => (wr_off _ _ (by simp)).trans (S1 t ht), wr_at _ _ _ _, fun i hi => absurd hi (by omega), fun i hi => absurd hi (by omega)⟩, Or.inl rfl⟩ (FU_gt (by split <;> omega))
  rintro sf a m2 ⟨j, hI, ha⟩
  have hj := SeqM_le O hI.2.2.2.1
  rcases ha with rfl | ⟨rfl, ha⟩
  · left
    have hne : ¬ ((nI 1 : Int32) = 0) := by decide +kernel
    have body : bM_findSequence_15 sf (nI 1) m2 = lz21 (bM_findSequence_23 sf) FU (nI 0) (nI 0) m2 := by
      unfold bM_findSequence_15
      rw [if_neg hne, lt_def, lt_def, lit_0]
    have key : (∃ m3, SqInv μ m3 A (j + 1) ∧ lz21 (bM_findSequence_23 sf) FU (nI 0) (nI 0) m2 = sf (nI 1) m3) ∨ (∃ m3, SqInv μ m3 A j ∧ ¬ seqT A (seqD A j) < A 4 0 ∧ lz21 (bM_findSequence_23 sf) FU (nI 0) (nI 0) m2 = sf (nI 0) m3) := by
      refine up21 (B := bM_findSequence_23 sf) (fun r => (∃ m3, SqInv μ m3 A (j + 1) ∧ r = sf (nI 1) m3) ∨ (∃ m3, SqInv μ m3 A j ∧ ¬ seqT A (seqD A j) < A 4 0 ∧ r = sf (nI 0) m3)) (A 4 0) (by omega) (fun t a m => (a = nI 0 ∧ SqInv μ m A j ∧ ∀ u, u < t → (decide (0 < seqD A j u) && aloneA A (seqD A j) u) = false) ∨ (a = nI 1 ∧ SqInv μ m A (j + 1))) (Or.inl ⟨rfl, hI, fun u hu => absurd hu (by omega)⟩) (fun sf2 t a m hi hK => ?_) (fun sf2 a m hK => ?_) <;> unfold bM_findSequence_23
      · rcases hK with ⟨rfl, ⟨i1, i2, i3, i4, i5⟩, c1⟩ | ⟨rfl, hK⟩
        · have Dj : DOk A (seqD A j) := DOk_le D (seqD_le A j)
          have R1 := RepR_off i1 (fun _ => rfl) R
          have h7 := s7_le O Dj t
          left
          by_cases z : seqD A j t = 0
          · have e7 : s7 A (seqD A j) t = 0 := by unfold s7; rw [if_pos z]
            simp (disch := omega) only [lit_0, lit_1, lit_2, lit_3, lit_4, lit_5, lit_6, lit_7, lit_8, lit_9, lit_10, lit_11, lit_12, lit_13, lit_14, lit_15, lit_16, lit_17, lit_18, lit_19, lit_20, lit_23, lit_24, lit_31, lit_32, lit_34, lit_36, lit_40, lit_48, lit_49, lit_57, lit_58, lit_59, lit_60, lit_64, lit_96, lit_97, lit_99, lit_101, lit_105, lit_108, lit_110, lit_111, lit_112, lit_114, lit_115, lit_116, lit_122, lit_127, lit_160, lit_216, lit_235, lit_238, lit_343, lit_476, lit_1296, lit_2000, lit_2401, lt_def, bind_s, gd_d, ix_n, inb_n, nI_add, pk_mul, pk_sub, nI_leI, nI_ltI, nI_eq, nI_ltn, nI_eqn, nI_eqn2, if_pos, if_neg, if_true, if_false, nI_addm1, R1.n, i2 t (by omega), e7]
            refine ⟨_, m, Or.inl ⟨rfl, ⟨i1, i2, i3, i4, i5⟩, fun u hu => ?_⟩, rfl⟩
            by_cases e : u = t
            · subst e; rw [z]; rfl
            · exact c1 u (by omega)
          · have e7 : s7 A (seqD A j) t = spotA A t (seqD A j t) + 1 := by unfold s7; rw [if_neg z]
            rw [e7] at h7
            obtain ⟨m3, e3, o3, S3⟩ := goesAloneM_ok R1 O Dj i2 hi (by omega)
            by_cases al : aloneA A (seqD A j) t = true
            · have e4 : seqT A (seqD A j) = t := fst_eq (p := fun u => decide (0 < seqD A j u) && aloneA A (seqD A j) u) hi c1 (by rw [al]; simp; omega)
              rw [if_pos al] at S3
              have r19 : m3 (5, 0, 0) 19 = nI j := (o3 _ _ rfl).trans i3
              have hj2 : j < 4 := by
                have := SeqM_le O (M := j + 1) (fun i hi2 => by
                  by_cases e : i = j
                  · subst e; rw [e4]; exact hi
                  · exact i4 i (by omega))
                omega
              have r20 : (wr m3 (5, 0, 19) j (nI t)) (5, 0, 0) 19 = nI j := (wr_off _ _ (by simp)).trans r19
              simp (disch := omega) only [lit_0, lit_1, lit_2, lit_3, lit_4, lit_5, lit_6, lit_7, lit_8, lit_9, lit_10, lit_11, lit_12, lit_13, lit_14, lit_15, lit_16, lit_17, lit_18, lit_19, lit_20, lit_23, lit_24, lit_31, lit_32, lit_34, lit_36, lit_40, lit_48, lit_49, lit_57, lit_58, lit_59, lit_60, lit_64, lit_96, lit_97, lit_99, lit_101, lit_105, lit_108, lit_110, lit_111, lit_112, lit_114, lit_115, lit_116, lit_122, lit_127, lit_160, lit_216, lit_235, lit_238, lit_343, lit_476, lit_1296, lit_2000, lit_2401, lt_def, bind_s, gd_d, ix_n, inb_n, nI_add, pk_mul, pk_sub, nI_leI, nI_ltI, nI_eq, nI_ltn, nI_eqn, nI_eqn2, if_pos, if_neg, if_true, if_false, nI_addm1, R1.n, i2 t (by omega), e7, e3, if_pos al, r19, r20]
              refine ⟨_, _, Or.inr ⟨rfl, Off_wr (Off_wr (Off_trans i1 (Off_mono o3 sSq_sSp)) rfl) rfl, fun u hu => ?_, wr_at _ _ _ _, fun i hi2 => ?_, fun i hi2 => ?_⟩, rfl⟩
              · rw [wr_off _ _ (by simp), wr_off _ _ (by simp)]
                show _ = nI (s7 A (upx (seqD A j) (seqT A (seqD A j)) 0) u)
                rw [e4]
                exact S3 u hu
              · by_cases e : i = j
                · subst e; rw [e4]; exact hi
                · exact i4 i (by omega)
              · rw [wr_off _ _ (by simp), wr_get]
                by_cases e : i = j
                · rw [if_pos ⟨rfl, e⟩, e, e4]
                · rw [if_neg (fun w => e w.2), o3 _ _ rfl]; exact i5 i (by omega)
            · rw [if_neg al] at S3
              simp (disch := omega) only [lit_0, lit_1, lit_2, lit_3, lit_4, lit_5, lit_6, lit_7, lit_8, lit_9, lit_10, lit_11, lit_12, lit_13, lit_14, lit_15, lit_16, lit_17, lit_18, lit_19, lit_20, lit_23, lit_24, lit_31, lit_32, lit_34, lit_36, lit_40, lit_48, lit_49, lit_57, lit_58, lit_59, lit_60, lit_64, lit_96, lit_97, lit_99, lit_101, lit_105, lit_108, lit_110, lit_111, lit_112, lit_114, lit_115, lit_116, lit_122, lit_127, lit_160, lit_216, lit_235, lit_238, lit_343, lit_476, lit_1296, lit_2000, lit_2401, lt_def, bind_s, gd_d, ix_n, inb_n, nI_add, pk_mul, pk_sub, nI_leI, nI_ltI, nI_eq, nI_ltn, nI_eqn, nI_eqn2, if_pos, if_neg, if_true, if_false, nI_addm1, R1.n, i2 t (by omega), e7, e3, if_neg al]
              refine ⟨_, m3, Or.inl ⟨rfl, ⟨Off_trans i1 (Off_mono o3 sSq_sSp), S3, (o3 _ _ rfl).trans i3, i4, fun i hi2 => (o3 _ _ rfl).trans (i5 i hi2)⟩, fun u hu => ?_⟩, rfl⟩
              by_cases e : u = t
              · subst e
                have : aloneA A (seqD A j) u = false := by simpa using al
                rw [this, Bool.and_false]
              · exact c1 u (by omega)
        · right
          have R1 := RepR_off hK.1 (fun _ => rfl) R
          simp (disch := omega) only [lit_0, lit_1, lit_2, lit_3, lit_4, lit_5, lit_6, lit_7, lit_8, lit_9, lit_10, lit_11, lit_12, lit_13, lit_14, lit_15, lit_16, lit_17, lit_18, lit_19, lit_20, lit_23, lit_24, lit_31, lit_32, lit_34, lit_36, lit_40, lit_48, lit_49, lit_57, lit_58, lit_59, lit_60, lit_64, lit_96, lit_97, lit_99, lit_101, lit_105, lit_108, lit_110, lit_111, lit_112, lit_114, lit_115, lit_116, lit_122, lit_127, lit_160, lit_216, lit_235, lit_238, lit_343, lit_476, lit_1296, lit_2000, lit_2401, lt_def, bind_s, gd_d, ix_n, inb_n, nI_add, pk_mul, pk_sub, nI_leI, nI_ltI, nI_eq, nI_ltn, nI_eqn, nI_eqn2, if_pos, if_neg, if_true, if_false, nI_addm1, R1.n]
          exact Or.inl ⟨m, hK, rfl⟩
      · rcases hK with ⟨rfl, hK, c1⟩ | ⟨rfl, hK⟩
        · have R1 := RepR_off hK.1 (fun _ => rfl) R
          simp (disch := omega) only [lit_0, lit_1, lit_2, lit_3, lit_4, lit_5, lit_6, lit_7, lit_8, lit_9, lit_10, lit_11, lit_12, lit_13, lit_14, lit_15, lit_16, lit_17, lit_18, lit_19, lit_20, lit_23, lit_24, lit_31, lit_32, lit_34, lit_36, lit_40, lit_48, lit_49, lit_57, lit_58, lit_59, lit_60, lit_64, lit_96, lit_97, lit_99, lit_101, lit_105, lit_108, lit_110, lit_111, lit_112, lit_114, lit_115, lit_116, lit_122, lit_127, lit_160, lit_216, lit_235, lit_238, lit_343, lit_476, lit_1296, lit_2000, lit_2401, lt_def, bind_s, gd_d, ix_n, inb_n, nI_add, pk_mul, pk_sub, nI_leI, nI_ltI, nI_eq, nI_ltn, nI_eqn, nI_eqn2, if_pos, if_neg, if_true, if_false, nI_addm1, R1.n]
          refine Or.inr ⟨m, hK, ?_, rfl⟩
          have e : seqT A (seqD A j) = A 4 0 := fst_none (p := fun u => decide (0 < seqD A j u) && aloneA A (seqD A j) u) c1
          omega
        · have R1 := RepR_off hK.1 (fun _ => rfl) R
          simp (disch := omega) only [lit_0, lit_1, lit_2, lit_3, lit_4, lit_5, lit_6, lit_7, lit_8, lit_9, lit_10, lit_11, lit_12, lit_13, lit_14, lit_15, lit_16, lit_17, lit_18, lit_19, lit_20, lit_23, lit_24, lit_31, lit_32, lit_34, lit_36, lit_40, lit_48, lit_49, lit_57, lit_58, lit_59, lit_60, lit_64, lit_96, lit_97, lit_99, lit_101, lit_105, lit_108, lit_110, lit_111, lit_112, lit_114, lit_115, lit_116, lit_122, lit_127, lit_160, lit_216, lit_235, lit_238, lit_343, lit_476, lit_1296, lit_2000, lit_2401, lt_def, bind_s, gd_d, ix_n, inb_n, nI_add, pk_mul, pk_sub, nI_leI, nI_ltI, nI_eq, nI_ltn, nI_eqn, nI_eqn2, if_pos, if_neg, if_true, if_false, nI_addm1, R1.n]
          exact Or.inl ⟨m, hK, rfl⟩
    have hms : (if nI 1 = 0 then 0 else 10 - ix (m2 (5, 0, 0) 19)) = 10 - j := by
      rw [if_neg hne, hI.2.2.1, ix_n (by omega)]
    rw [hms, body]
    rcases key with ⟨m3, h1, h2⟩ | ⟨m3, h1, h2, h3⟩
    · refine ⟨nI 1, m3, ⟨j + 1, h1, Or.inl rfl⟩, ?_, h2⟩
      rw [if_neg hne, h1.2.2.1, ix_n (by omega)]
      omega
    · refine ⟨nI 0, m3, ⟨j, h1, Or.inr ⟨rfl, h2⟩⟩, ?_, h3⟩
      rw [if_pos (by decide +kernel)]
      omega
  · right
    unfold bM_findSequence_15
    rw [if_pos (by decide +kernel)]
    exact ⟨m2, j, rfl, hI, hI.2.2.2.1, ha⟩
end Refp
