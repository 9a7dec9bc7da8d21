def exB (P : Nat → Bool) (x : Nat → Nat) : Nat → Nat → Bool
  | 0, _ => false
  | n + 1, c => exB P x n c || (decide (x n = c) && P n)
theorem exB_iff (P : Nat → Bool) (x : Nat → Nat) (c : Nat) : ∀ n, exB P x n c = true ↔ ∃ k, k < n ∧ x k = c ∧ P k = true
  | 0 => by simp [exB]
  | n + 1 => by
    unfold exB
    rw [Bool.or_eq_true, exB_iff P x c n, Bool.and_eq_true, decide_eq_true_eq]
    refine ⟨fun h => ?_, fun ⟨k, h1, h2, h3⟩ => ?_⟩
    · rcases h with ⟨k, h1, h2⟩ | ⟨h1, h2⟩
      · exact ⟨k, by omega, h2⟩
      · exact ⟨n, by omega, h1, h2⟩
    · by_cases e : k = n
      · subst e; exact Or.inr ⟨h2, h3⟩
      · exact Or.inl ⟨k, by omega, h2, h3⟩
theorem cnt_exB (P : Nat → Bool) (x : Nat → Nat) {N : Nat} : ∀ {n : Nat}, (∀ i j, i < j → j < n → x i ≠ x j) → (∀ i, i < n → x i < N) → cnt (exB P x n) N = cnt P n
  | 0, _, _ => cnt_zero (fun _ _ => rfl)
  | n + 1, h1, h2 => by
    have ih := cnt_exB P x (n := n) (fun i j a b => h1 i j a (by omega)) (fun i hi => h2 i (by omega))
    rw [cnt_s]
    by_cases p : P n = true
    · rw [if_pos p, ← ih, cnt_set (p := exB P x n) (c := x n) (n := N), if_pos (h2 n (by omega))]
      · cases e : exB P x n (x n) with
        | false => rfl
        | true =>
          obtain ⟨k, a, b, _⟩ := (exB_iff P x (x n) n).mp e
          exact absurd b (h1 k n a (by omega))
      · intro y
        show (exB P x n y || (decide (x n = y) && P n)) = _
        rw [p, Bool.and_true]
        have : decide (x n = y) = decide (y = x n) := decide_eq_decide.mpr ⟨Eq.symm, Eq.symm⟩
        rw [this]
    · rw [if_neg p, Nat.add_zero, ← ih]
      refine cnt_congr (fun y _ => ?_)
      show (exB P x n y || (decide (x n = y) && P n)) = _
      have : P n = false := by simpa using p
      rw [this, Bool.and_false, Bool.or_false]
section Ag
variable {μ : Mem} {k : Nat} {A : Ab} {B : Nat → Nat → Nat} {d0 : Nat → Nat} {nq : Nat} {q : Nat → Nat → Nat}
theorem Expl_off {S : Rf → Nat → Bool} {μ' : Mem} (h : Expl μ A d0 nq q) (o : Off S μ μ') (a : S (5, 0, 0) 17 = false) (b : ∀ i, S (5, 0, 15) i = false) (c : ∀ i, S (5, 0, 17) i = false) : Expl μ' A d0 nq q := by
  unfold Expl at *
  have e : μ' (5, 0, 15) = μ (5, 0, 15) := funext (fun i => o _ _ (b i))
  have e2 : μ' (5, 0, 17) = μ (5, 0, 17) := funext (fun i => o _ _ (c i))
  rw [e, e2, o _ _ a]
  exact h
theorem Expl_st {A' : Ab} (s : StEq A A') (h : Expl μ A d0 nq q) : Expl μ A' d0 nq q := by
  obtain ⟨h1, h2, h3, h4, h5, h6⟩ := h
  have c7 : ∀ e, code7 A' e = code7 A e := fun e => by
    unfold code7 s7 spotA
    rw [s 5 (by omega), s 6 (by omega)]
  have sb : ∀ e, safeB A' e = safeB A e := fun e => by
    cases w : safeB A e with
    | true => exact safeB_iff.mpr ((Safe_st s).mpr (safeB_iff.mp w))
    | false =>
      cases v : safeB A' e with
      | false => rfl
      | true => rw [safeB_iff.mpr ((Safe_st s).mp (safeB_iff.mp v))] at w; cases w
  refine ⟨h1, h2, fun i hi => ?_, h4, fun e he => h5 e ((Rch_st s).mp he), fun e he => ?_⟩
  · rw [c7]; exact ⟨(h3 i hi).1, (Rch_st s).mpr (h3 i hi).2⟩
  · rw [c7, sb]; exact h6 e ((Rch_st s).mp he)
theorem againstM_ok (R : RepR (μ (5, 0, 1)) A B) (O : OkA A) (E : Expl μ A d0 nq q) (hr : Rch A d0 (dA A)) {t : Nat} (ht : t < A 4 0) : ∃ μ', fM_against (nI t) μ = some (nI (agA A t), μ') ∧ Off sSp μ μ' := by
  have hn := O.n4
  have h := O.tr ht
  have D := DOk_dA O
  unfold fM_against agA
  by_cases z : A 9 t = 0
  · have h1 := h.2.2.2.2.2.2.2.1 z
    have nf := nextFrom_ok R O ht h.2.2.2.2.2.1 h1
    have rb := runsBetween_ok R O ht h.2.2.2.2.2.1 h1
    simp (disch := omega) only [lit_0, lit_1, lit_2, lit_3, lit_4, lit_5, lit_6, lit_7, lit_8, lit_9, lit_10, lit_11, lit_12, lit_13, lit_14, lit_15, lit_16, lit_17, lit_18, lit_19, lit_20, lit_23, lit_24, lit_31, lit_32, lit_34, lit_36, lit_40, lit_48, lit_49, lit_57, lit_58, lit_59, lit_60, lit_64, lit_96, lit_97, lit_99, lit_101, lit_105, lit_108, lit_110, lit_111, lit_112, lit_114, lit_115, lit_116, lit_122, lit_127, lit_160, lit_216, lit_235, lit_238, lit_343, lit_476, lit_1296, lit_2000, lit_2401, lt_def, bind_s, gd_d, ix_n, inb_n, nI_add, pk_mul, pk_sub, nI_leI, nI_ltI, nI_eq, nI_ltn, nI_eqn, nI_eqn2, if_pos, if_neg, if_true, if_false, nI_addm1, of4 R O ht, of3 R O ht, nf, rb]
    by_cases y : fst (runA A (secA A t (A 8 t))) (A 4 0) 0 < A 4 0
    · simp (disch := omega) only [lit_0, lit_1, lit_2, lit_3, lit_4, lit_5, lit_6, lit_7, lit_8, lit_9, lit_10, lit_11, lit_12, lit_13, lit_14, lit_15, lit_16, lit_17, lit_18, lit_19, lit_20, lit_23, lit_24, lit_31, lit_32, lit_34, lit_36, lit_40, lit_48, lit_49, lit_57, lit_58, lit_59, lit_60, lit_64, lit_96, lit_97, lit_99, lit_101, lit_105, lit_108, lit_110, lit_111, lit_112, lit_114, lit_115, lit_116, lit_122, lit_127, lit_160, lit_216, lit_235, lit_238, lit_343, lit_476, lit_1296, lit_2000, lit_2401, lt_def, bind_s, gd_d, ix_n, inb_n, nI_add, pk_mul, pk_sub, nI_leI, nI_ltI, nI_eq, nI_ltn, nI_eqn, nI_eqn2, if_pos, if_neg, if_true, if_false, nI_addm1, if_pos y]
      exact ⟨μ, rfl, Off_refl _ _⟩
    · obtain ⟨m, e1, o1, S1⟩ := decode_ok O D μ
      have R1 := RepR_off o1 (fun _ => rfl) R
      obtain ⟨m2, e2, o2, S2⟩ := movedBy_ok R1 O D S1 ht
      by_cases c : canA A (dA A) t = true
      · have D2 : DOk A (dec (dA A) t) := DOk_le D (dec_le _ _)
        have hc := code7_lt O D2
        have s := E.2.2.2.2.2 _ (Rch_tail hr ht c)
        have s2 : m2 (5, 0, 17) (code7 A (dec (dA A) t)) = nI (if safeB A (dec (dA A) t) then 1 else 0) := (o2 _ _ rfl).trans ((o1 _ _ rfl).trans s)
        simp (disch := omega) only [lit_0, lit_1, lit_2, lit_3, lit_4, lit_5, lit_6, lit_7, lit_8, lit_9, lit_10, lit_11, lit_12, lit_13, lit_14, lit_15, lit_16, lit_17, lit_18, lit_19, lit_20, lit_23, lit_24, lit_31, lit_32, lit_34, lit_36, lit_40, lit_48, lit_49, lit_57, lit_58, lit_59, lit_60, lit_64, lit_96, lit_97, lit_99, lit_101, lit_105, lit_108, lit_110, lit_111, lit_112, lit_114, lit_115, lit_116, lit_122, lit_127, lit_160, lit_216, lit_235, lit_238, lit_343, lit_476, lit_1296, lit_2000, lit_2401, lt_def, bind_s, gd_d, ix_n, inb_n, nI_add, pk_mul, pk_sub, nI_leI, nI_ltI, nI_eq, nI_ltn, nI_eqn, nI_eqn2, if_pos, if_neg, if_true, if_false, nI_addm1, if_neg y, postureNow_ok R O, e1, e2, if_pos c, s2]
        by_cases w : safeB A (dec (dA A) t) = true
        · simp (disch := omega) only [lit_0, lit_1, lit_2, lit_3, lit_4, lit_5, lit_6, lit_7, lit_8, lit_9, lit_10, lit_11, lit_12, lit_13, lit_14, lit_15, lit_16, lit_17, lit_18, lit_19, lit_20, lit_23, lit_24, lit_31, lit_32, lit_34, lit_36, lit_40, lit_48, lit_49, lit_57, lit_58, lit_59, lit_60, lit_64, lit_96, lit_97, lit_99, lit_101, lit_105, lit_108, lit_110, lit_111, lit_112, lit_114, lit_115, lit_116, lit_122, lit_127, lit_160, lit_216, lit_235, lit_238, lit_343, lit_476, lit_1296, lit_2000, lit_2401, lt_def, bind_s, gd_d, ix_n, inb_n, nI_add, pk_mul, pk_sub, nI_leI, nI_ltI, nI_eq, nI_ltn, nI_eqn, nI_eqn2, if_pos, if_neg, if_true, if_false, nI_addm1, if_pos w]
          exact ⟨m2, rfl, Off_trans o1 o2⟩
        · simp (disch := omega) only [lit_0, lit_1, lit_2, lit_3, lit_4, lit_5, lit_6, lit_7, lit_8, lit_9, lit_10, lit_11, lit_12, lit_13, lit_14, lit_15, lit_16, lit_17, lit_18, lit_19, lit_20, lit_23, lit_24, lit_31, lit_32, lit_34, lit_36, lit_40, lit_48, lit_49, lit_57, lit_58, lit_59, lit_60, lit_64, lit_96, lit_97, lit_99, lit_101, lit_105, lit_108, lit_110, lit_111, lit_112, lit_114, lit_115, lit_116, lit_122, lit_127, lit_160, lit_216, lit_235, lit_238, lit_343, lit_476, lit_1296, lit_2000, lit_2401, lt_def, bind_s, gd_d, ix_n, inb_n, nI_add, pk_mul, pk_sub, nI_leI, nI_ltI, nI_eq, nI_ltn, nI_eqn, nI_eqn2, if_pos, if_neg, if_true, if_false, nI_addm1, if_neg w]
          exact ⟨m2, rfl, Off_trans o1 o2⟩
      · simp (disch := omega) only [lit_0, lit_1, lit_2, lit_3, lit_4, lit_5, lit_6, lit_7, lit_8, lit_9, lit_10, lit_11, lit_12, lit_13, lit_14, lit_15, lit_16, lit_17, lit_18, lit_19, lit_20, lit_23, lit_24, lit_31, lit_32, lit_34, lit_36, lit_40, lit_48, lit_49, lit_57, lit_58, lit_59, lit_60, lit_64, lit_96, lit_97, lit_99, lit_101, lit_105, lit_108, lit_110, lit_111, lit_112, lit_114, lit_115, lit_116, lit_122, lit_127, lit_160, lit_216, lit_235, lit_238, lit_343, lit_476, lit_1296, lit_2000, lit_2401, lt_def, bind_s, gd_d, ix_n, inb_n, nI_add, pk_mul, pk_sub, nI_leI, nI_ltI, nI_eq, nI_ltn, nI_eqn, nI_eqn2, if_pos, if_neg, if_true, if_false, nI_addm1, if_neg y, postureNow_ok R O, e1, e2, if_neg c]
        exact ⟨m2, rfl, Off_trans o1 o2⟩
  · simp (disch := omega) only [lit_0, lit_1, lit_2, lit_3, lit_4, lit_5, lit_6, lit_7, lit_8, lit_9, lit_10, lit_11, lit_12, lit_13, lit_14, lit_15, lit_16, lit_17, lit_18, lit_19, lit_20, lit_23, lit_24, lit_31, lit_32, lit_34, lit_36, lit_40, lit_48, lit_49, lit_57, lit_58, lit_59, lit_60, lit_64, lit_96, lit_97, lit_99, lit_101, lit_105, lit_108, lit_110, lit_111, lit_112, lit_114, lit_115, lit_116, lit_122, lit_127, lit_160, lit_216, lit_235, lit_238, lit_343, lit_476, lit_1296, lit_2000, lit_2401, lt_def, bind_s, gd_d, ix_n, inb_n, nI_add, pk_mul, pk_sub, nI_leI, nI_ltI, nI_eq, nI_ltn, nI_eqn, nI_eqn2, if_pos, if_neg, if_true, if_false, nI_addm1, of4 R O ht]
    by_cases y : A 9 t = 2
    · simp (disch := omega) only [lit_0, lit_1, lit_2, lit_3, lit_4, lit_5, lit_6, lit_7, lit_8, lit_9, lit_10, lit_11, lit_12, lit_13, lit_14, lit_15, lit_16, lit_17, lit_18, lit_19, lit_20, lit_23, lit_24, lit_31, lit_32, lit_34, lit_36, lit_40, lit_48, lit_49, lit_57, lit_58, lit_59, lit_60, lit_64, lit_96, lit_97, lit_99, lit_101, lit_105, lit_108, lit_110, lit_111, lit_112, lit_114, lit_115, lit_116, lit_122, lit_127, lit_160, lit_216, lit_235, lit_238, lit_343, lit_476, lit_1296, lit_2000, lit_2401, lt_def, bind_s, gd_d, ix_n, inb_n, nI_add, pk_mul, pk_sub, nI_leI, nI_ltI, nI_eq, nI_ltn, nI_eqn, nI_eqn2, if_pos, if_neg, if_true, if_false, nI_addm1]
      exact ⟨μ, rfl, Off_refl _ _⟩
    · simp (disch := omega) only [lit_0, lit_1, lit_2, lit_3, lit_4, lit_5, lit_6, lit_7, lit_8, lit_9, lit_10, lit_11, lit_12, lit_13, lit_14, lit_15, lit_16, lit_17, lit_18, lit_19, lit_20, lit_23, lit_24, lit_31, lit_32, lit_34, lit_36, lit_40, lit_48, lit_49, lit_57, lit_58, lit_59, lit_60, lit_64, lit_96, lit_97, lit_99, lit_101, lit_105, lit_108, lit_110, lit_111, lit_112, lit_114, lit_115, lit_116, lit_122, lit_127, lit_160, lit_216, lit_235, lit_238, lit_343, lit_476, lit_1296, lit_2000, lit_2401, lt_def, bind_s, gd_d, ix_n, inb_n, nI_add, pk_mul, pk_sub, nI_leI, nI_ltI, nI_eq, nI_ltn, nI_eqn, nI_eqn2, if_pos, if_neg, if_true, if_false, nI_addm1]
      exact ⟨μ, rfl, Off_refl _ _⟩
theorem againstD_ok (R : RepL μ k A) (O : OkA A) (K : Known μ A) (L : Looked μ A) {t : Nat} (ht : t < A 4 0) : fD_against k (nI t) μ = some (nI (agA A t)) := by
  have hn := O.n4
  have h := O.tr ht
  have D := DOk_dA O
  have hl := L.1 t (by omega)
  unfold fD_against agA
  by_cases z : A 9 t = 0
  · have h1 := h.2.2.2.2.2.2.2.1 z
    have h5 := dist_le O ht
    have hs := secA_lt O ht h.2.2.2.2.2.1 h1
    have h6 := O.p6
    have cs := canStep_ok R O D ht (Nat.le_refl (dA A t)) hl L.2 K.2.1
    rw [upx_self] at cs
    simp (disch := omega) only [lit_0, lit_1, lit_2, lit_3, lit_4, lit_5, lit_6, lit_7, lit_8, lit_9, lit_10, lit_11, lit_12, lit_13, lit_14, lit_15, lit_16, lit_17, lit_18, lit_19, lit_20, lit_23, lit_24, lit_31, lit_32, lit_34, lit_36, lit_40, lit_48, lit_49, lit_57, lit_58, lit_59, lit_60, lit_64, lit_96, lit_97, lit_99, lit_101, lit_105, lit_108, lit_110, lit_111, lit_112, lit_114, lit_115, lit_116, lit_122, lit_127, lit_160, lit_216, lit_235, lit_238, lit_343, lit_476, lit_1296, lit_2000, lit_2401, lt_def, bind_s, gd_d, ix_n, inb_n, nI_add, pk_mul, pk_sub, nI_leI, nI_ltI, nI_eq, nI_ltn, nI_eqn, nI_eqn2, if_pos, if_neg, if_true, if_false, nI_addm1, R.ss ht, R.lf ht, sec_ok R O ht h.2.2.2.2.2.1 h1, runnerIn_ok R O (show secA A t (A 8 t) < 2 ^ 20 by omega), cs, isSafeBehind_ok O L.1 K.2.2.2 ht h1]
    by_cases y : fst (runA A (secA A t (A 8 t))) (A 4 0) 0 < A 4 0
    · simp (disch := omega) only [lit_0, lit_1, lit_2, lit_3, lit_4, lit_5, lit_6, lit_7, lit_8, lit_9, lit_10, lit_11, lit_12, lit_13, lit_14, lit_15, lit_16, lit_17, lit_18, lit_19, lit_20, lit_23, lit_24, lit_31, lit_32, lit_34, lit_36, lit_40, lit_48, lit_49, lit_57, lit_58, lit_59, lit_60, lit_64, lit_96, lit_97, lit_99, lit_101, lit_105, lit_108, lit_110, lit_111, lit_112, lit_114, lit_115, lit_116, lit_122, lit_127, lit_160, lit_216, lit_235, lit_238, lit_343, lit_476, lit_1296, lit_2000, lit_2401, lt_def, bind_s, gd_d, ix_n, inb_n, nI_add, pk_mul, pk_sub, nI_leI, nI_ltI, nI_eq, nI_ltn, nI_eqn, nI_eqn2, if_pos, if_neg, if_true, if_false, nI_addm1, if_pos y]
    · have ng : (-nI 4 < nI 0) := by decide +kernel
      simp (disch := omega) only [lit_0, lit_1, lit_2, lit_3, lit_4, lit_5, lit_6, lit_7, lit_8, lit_9, lit_10, lit_11, lit_12, lit_13, lit_14, lit_15, lit_16, lit_17, lit_18, lit_19, lit_20, lit_23, lit_24, lit_31, lit_32, lit_34, lit_36, lit_40, lit_48, lit_49, lit_57, lit_58, lit_59, lit_60, lit_64, lit_96, lit_97, lit_99, lit_101, lit_105, lit_108, lit_110, lit_111, lit_112, lit_114, lit_115, lit_116, lit_122, lit_127, lit_160, lit_216, lit_235, lit_238, lit_343, lit_476, lit_1296, lit_2000, lit_2401, lt_def, bind_s, gd_d, ix_n, inb_n, nI_add, pk_mul, pk_sub, nI_leI, nI_ltI, nI_eq, nI_ltn, nI_eqn, nI_eqn2, if_pos, if_neg, if_true, if_false, nI_addm1, if_neg y, if_pos ng]
      by_cases c : canA A (dA A) t = true
      · simp (disch := omega) only [lit_0, lit_1, lit_2, lit_3, lit_4, lit_5, lit_6, lit_7, lit_8, lit_9, lit_10, lit_11, lit_12, lit_13, lit_14, lit_15, lit_16, lit_17, lit_18, lit_19, lit_20, lit_23, lit_24, lit_31, lit_32, lit_34, lit_36, lit_40, lit_48, lit_49, lit_57, lit_58, lit_59, lit_60, lit_64, lit_96, lit_97, lit_99, lit_101, lit_105, lit_108, lit_110, lit_111, lit_112, lit_114, lit_115, lit_116, lit_122, lit_127, lit_160, lit_216, lit_235, lit_238, lit_343, lit_476, lit_1296, lit_2000, lit_2401, lt_def, bind_s, gd_d, ix_n, inb_n, nI_add, pk_mul, pk_sub, nI_leI, nI_ltI, nI_eq, nI_ltn, nI_eqn, nI_eqn2, if_pos, if_neg, if_true, if_false, nI_addm1, if_pos c]
        by_cases w : safeB A (dec (dA A) t) = true
        · simp (disch := omega) only [lit_0, lit_1, lit_2, lit_3, lit_4, lit_5, lit_6, lit_7, lit_8, lit_9, lit_10, lit_11, lit_12, lit_13, lit_14, lit_15, lit_16, lit_17, lit_18, lit_19, lit_20, lit_23, lit_24, lit_31, lit_32, lit_34, lit_36, lit_40, lit_48, lit_49, lit_57, lit_58, lit_59, lit_60, lit_64, lit_96, lit_97, lit_99, lit_101, lit_105, lit_108, lit_110, lit_111, lit_112, lit_114, lit_115, lit_116, lit_122, lit_127, lit_160, lit_216, lit_235, lit_238, lit_343, lit_476, lit_1296, lit_2000, lit_2401, lt_def, bind_s, gd_d, ix_n, inb_n, nI_add, pk_mul, pk_sub, nI_leI, nI_ltI, nI_eq, nI_ltn, nI_eqn, nI_eqn2, if_pos, if_neg, if_true, if_false, nI_addm1, if_pos w]
        · simp (disch := omega) only [lit_0, lit_1, lit_2, lit_3, lit_4, lit_5, lit_6, lit_7, lit_8, lit_9, lit_10, lit_11, lit_12, lit_13, lit_14, lit_15, lit_16, lit_17, lit_18, lit_19, lit_20, lit_23, lit_24, lit_31, lit_32, lit_34, lit_36, lit_40, lit_48, lit_49, lit_57, lit_58, lit_59, lit_60, lit_64, lit_96, lit_97, lit_99, lit_101, lit_105, lit_108, lit_110, lit_111, lit_112, lit_114, lit_115, lit_116, lit_122, lit_127, lit_160, lit_216, lit_235, lit_238, lit_343, lit_476, lit_1296, lit_2000, lit_2401, lt_def, bind_s, gd_d, ix_n, inb_n, nI_add, pk_mul, pk_sub, nI_leI, nI_ltI, nI_eq, nI_ltn, nI_eqn, nI_eqn2, if_pos, if_neg, if_true, if_false, nI_addm1, if_neg w]
      · simp (disch := omega) only [lit_0, lit_1, lit_2, lit_3, lit_4, lit_5, lit_6, lit_7, lit_8, lit_9, lit_10, lit_11, lit_12, lit_13, lit_14, lit_15, lit_16, lit_17, lit_18, lit_19, lit_20, lit_23, lit_24, lit_31, lit_32, lit_34, lit_36, lit_40, lit_48, lit_49, lit_57, lit_58, lit_59, lit_60, lit_64, lit_96, lit_97, lit_99, lit_101, lit_105, lit_108, lit_110, lit_111, lit_112, lit_114, lit_115, lit_116, lit_122, lit_127, lit_160, lit_216, lit_235, lit_238, lit_343, lit_476, lit_1296, lit_2000, lit_2401, lt_def, bind_s, gd_d, ix_n, inb_n, nI_add, pk_mul, pk_sub, nI_leI, nI_ltI, nI_eq, nI_ltn, nI_eqn, nI_eqn2, if_pos, if_neg, if_true, if_false, nI_addm1, if_neg c]
  · simp (disch := omega) only [lit_0, lit_1, lit_2, lit_3, lit_4, lit_5, lit_6, lit_7, lit_8, lit_9, lit_10, lit_11, lit_12, lit_13, lit_14, lit_15, lit_16, lit_17, lit_18, lit_19, lit_20, lit_23, lit_24, lit_31, lit_32, lit_34, lit_36, lit_40, lit_48, lit_49, lit_57, lit_58, lit_59, lit_60, lit_64, lit_96, lit_97, lit_99, lit_101, lit_105, lit_108, lit_110, lit_111, lit_112, lit_114, lit_115, lit_116, lit_122, lit_127, lit_160, lit_216, lit_235, lit_238, lit_343, lit_476, lit_1296, lit_2000, lit_2401, lt_def, bind_s, gd_d, ix_n, inb_n, nI_add, pk_mul, pk_sub, nI_leI, nI_ltI, nI_eq, nI_ltn, nI_eqn, nI_eqn2, if_pos, if_neg, if_true, if_false, nI_addm1, R.ss ht]
    by_cases y : A 9 t = 2
    · simp (disch := omega) only [lit_0, lit_1, lit_2, lit_3, lit_4, lit_5, lit_6, lit_7, lit_8, lit_9, lit_10, lit_11, lit_12, lit_13, lit_14, lit_15, lit_16, lit_17, lit_18, lit_19, lit_20, lit_23, lit_24, lit_31, lit_32, lit_34, lit_36, lit_40, lit_48, lit_49, lit_57, lit_58, lit_59, lit_60, lit_64, lit_96, lit_97, lit_99, lit_101, lit_105, lit_108, lit_110, lit_111, lit_112, lit_114, lit_115, lit_116, lit_122, lit_127, lit_160, lit_216, lit_235, lit_238, lit_343, lit_476, lit_1296, lit_2000, lit_2401, lt_def, bind_s, gd_d, ix_n, inb_n, nI_add, pk_mul, pk_sub, nI_leI, nI_ltI, nI_eq, nI_ltn, nI_eqn, nI_eqn2, if_pos, if_neg, if_true, if_false, nI_addm1]
    · simp (disch := omega) only [lit_0, lit_1, lit_2, lit_3, lit_4, lit_5, lit_6, lit_7, lit_8, lit_9, lit_10, lit_11, lit_12, lit_13, lit_14, lit_15, lit_16, lit_17, lit_18, lit_19, lit_20, lit_23, lit_24, lit_31, lit_32, lit_34, lit_36, lit_40, lit_48, lit_49, lit_57, lit_58, lit_59, lit_60, lit_64, lit_96, lit_97, lit_99, lit_101, lit_105, lit_108, lit_110, lit_111, lit_112, lit_114, lit_115, lit_116, lit_122, lit_127, lit_160, lit_216, lit_235, lit_238, lit_343, lit_476, lit_1296, lit_2000, lit_2401, lt_def, bind_s, gd_d, ix_n, inb_n, nI_add, pk_mul, pk_sub, nI_leI, nI_ltI, nI_eq, nI_ltn, nI_eqn, nI_eqn2, if_pos, if_neg, if_true, if_false, nI_addm1]
theorem canGo_ok (R : RepR (μ (5, 0, 1)) A B) (O : OkA A) : ∃ μ', fM_canGo μ = some (nI (cnt (fun t => decide (agA A t = 0)) (A 4 0)), μ') ∧ Off sEx μ μ' := by
  have hn := O.n4
  obtain ⟨m, n1, q1, e1, o1, E1⟩ := explore_ok R O (DOk_dA O)
  unfold fM_canGo
  simp only [postureNow_ok R O, bind_s, e1, lt_def]
  refine up21 (B := bM_canGo_12) (fun r => ∃ μ', r = some (nI (cnt (fun t => decide (agA A t = 0)) (A 4 0)), μ') ∧ Off sEx μ μ') (A 4 0) (by omega) (fun i a m' => a = nI (cnt (fun t => decide (agA A t = 0)) i) ∧ Off sSp m m') ⟨rfl, Off_refl _ _⟩ (fun sf i a m' hi hJ => ?_) (fun sf a m' hJ => ?_) <;> unfold bM_canGo_12
  · obtain ⟨rfl, o2⟩ := hJ
    have R2 := RepR_off o2 (fun _ => rfl) (RepR_off o1 (fun _ => rfl) R)
    obtain ⟨m3, e3, o3⟩ := againstM_ok R2 O (Expl_off E1 o2 rfl (fun _ => rfl) (fun _ => rfl)) (Rch_refl _) hi
    have ha := agA_le A i
    left
    simp (disch := omega) only [lit_0, lit_1, lit_2, lit_3, lit_4, lit_5, lit_6, lit_7, lit_8, lit_9, lit_10, lit_11, lit_12, lit_13, lit_14, lit_15, lit_16, lit_17, lit_18, lit_19, lit_20, lit_23, lit_24, lit_31, lit_32, lit_34, lit_36, lit_40, lit_48, lit_49, lit_57, lit_58, lit_59, lit_60, lit_64, lit_96, lit_97, lit_99, lit_101, lit_105, lit_108, lit_110, lit_111, lit_112, lit_114, lit_115, lit_116, lit_122, lit_127, lit_160, lit_216, lit_235, lit_238, lit_343, lit_476, lit_1296, lit_2000, lit_2401, lt_def, bind_s, gd_d, ix_n, inb_n, nI_add, pk_mul, pk_sub, nI_leI, nI_ltI, nI_eq, nI_ltn, nI_eqn, nI_eqn2, if_pos, if_neg, if_true, if_false, nI_addm1, R2.n, e3, flag_c]
    exact ⟨_, m3, ⟨by rw [cnt_s]; simp only [decide_eq_true_eq], Off_trans o2 o3⟩, rfl⟩
  · obtain ⟨rfl, o2⟩ := hJ
    have R2 := RepR_off o2 (fun _ => rfl) (RepR_off o1 (fun _ => rfl) R)
    simp (disch := omega) only [lit_0, lit_1, lit_2, lit_3, lit_4, lit_5, lit_6, lit_7, lit_8, lit_9, lit_10, lit_11, lit_12, lit_13, lit_14, lit_15, lit_16, lit_17, lit_18, lit_19, lit_20, lit_23, lit_24, lit_31, lit_32, lit_34, lit_36, lit_40, lit_48, lit_49, lit_57, lit_58, lit_59, lit_60, lit_64, lit_96, lit_97, lit_99, lit_101, lit_105, lit_108, lit_110, lit_111, lit_112, lit_114, lit_115, lit_116, lit_122, lit_127, lit_160, lit_216, lit_235, lit_238, lit_343, lit_476, lit_1296, lit_2000, lit_2401, lt_def, bind_s, gd_d, ix_n, inb_n, nI_add, pk_mul, pk_sub, nI_leI, nI_ltI, nI_eq, nI_ltn, nI_eqn, nI_eqn2, if_pos, if_neg, if_true, if_false, nI_addm1, R2.n]
    exact ⟨m', rfl, Off_trans o1 (Off_mono o2 sEx_sSp)⟩
theorem howManyFree_ok (R : RepL μ 0 A) (O : OkA A) (C : Cache μ A) : ∃ μ', fD_howManyFree μ = some (nI (cnt (fun t => decide (agA A t = 0)) (A 4 0)), μ') ∧ Off sP μ μ' ∧ Known μ' A := by
  have hn := O.n4
  obtain ⟨m, e1, o1, K1, L1⟩ := learn_ok R O C
  have R1 := RepL_off o1 (fun _ _ => rfl) R
  unfold fD_howManyFree
  simp only [e1, bind_s, lt_def]
  refine ⟨m, ?_, o1, K1⟩
  refine ac20 (B := bD_howManyFree_15 m) (A 4 0) (by omega) (fun i => nI (cnt (fun t => decide (agA A t = 0)) i)) (fun sf i hi => ?_) (fun sf => ?_) <;> unfold bD_howManyFree_15
  · have ha := agA_le A i
    simp (disch := omega) only [lit_0, lit_1, lit_2, lit_3, lit_4, lit_5, lit_6, lit_7, lit_8, lit_9, lit_10, lit_11, lit_12, lit_13, lit_14, lit_15, lit_16, lit_17, lit_18, lit_19, lit_20, lit_23, lit_24, lit_31, lit_32, lit_34, lit_36, lit_40, lit_48, lit_49, lit_57, lit_58, lit_59, lit_60, lit_64, lit_96, lit_97, lit_99, lit_101, lit_105, lit_108, lit_110, lit_111, lit_112, lit_114, lit_115, lit_116, lit_122, lit_127, lit_160, lit_216, lit_235, lit_238, lit_343, lit_476, lit_1296, lit_2000, lit_2401, lt_def, bind_s, gd_d, ix_n, inb_n, nI_add, pk_mul, pk_sub, nI_leI, nI_ltI, nI_eq, nI_ltn, nI_eqn, nI_eqn2, if_pos, if_neg, if_true, if_false, nI_addm1, R1.n, againstD_ok R1 O K1 L1 hi, cnt_s, decide_eq_true_eq]
    by_cases z : agA A i = 0
    · simp only [if_pos z, nI_add]
    · simp only [if_neg z, nI_add]
  · simp (disch := omega) only [lit_0, lit_1, lit_2, lit_3, lit_4, lit_5, lit_6, lit_7, lit_8, lit_9, lit_10, lit_11, lit_12, lit_13, lit_14, lit_15, lit_16, lit_17, lit_18, lit_19, lit_20, lit_23, lit_24, lit_31, lit_32, lit_34, lit_36, lit_40, lit_48, lit_49, lit_57, lit_58, lit_59, lit_60, lit_64, lit_96, lit_97, lit_99, lit_101, lit_105, lit_108, lit_110, lit_111, lit_112, lit_114, lit_115, lit_116, lit_122, lit_127, lit_160, lit_216, lit_235, lit_238, lit_343, lit_476, lit_1296, lit_2000, lit_2401, lt_def, bind_s, gd_d, ix_n, inb_n, nI_add, pk_mul, pk_sub, nI_leI, nI_ltI, nI_eq, nI_ltn, nI_eqn, nI_eqn2, if_pos, if_neg, if_true, if_false, nI_addm1, R1.n]
theorem plain_iff (O : OkA A) {M : Nat} (h : SeqM A M) : M = posN A (dA A) ↔ code7 A (seqD A M) = 0 := by
  have h1 := seq_pos h.1
  rw [code7_0 O (DOk_le (DOk_dA O) (seqD_le A M))]
  refine ⟨fun e t ht => ?_, fun e => ?_⟩
  · have hz : posN A (seqD A M) = 0 := by omega
    by_cases w : seqD A M t = 0
    · exact w
    · have := cnt_upx (d := seqD A M) (t := t) (by omega) ht
      unfold posN at hz
      omega
  · have : posN A (seqD A M) = 0 := cnt_zero (fun i hi => by rw [e i hi]; rfl)
    omega
theorem isPlainM_ok (R : RepR (μ (5, 0, 1)) A B) (O : OkA A) : ∃ μ' M, fM_isPlain μ = some (nI (if M = posN A (dA A) then 1 else 0), μ') ∧ Off sSq μ μ' ∧ SeqM A M := by
  obtain ⟨m, M, e1, I1, h1⟩ := findSequence_ok R O
  have hc := code7_lt O (DOk_le (DOk_dA O) (seqD_le A M))
  have hp := plain_iff O h1
  unfold fM_isPlain
  refine ⟨m, M, ?_, I1.1, h1⟩
  simp (disch := omega) only [lit_0, lit_1, lit_2, lit_3, lit_4, lit_5, lit_6, lit_7, lit_8, lit_9, lit_10, lit_11, lit_12, lit_13, lit_14, lit_15, lit_16, lit_17, lit_18, lit_19, lit_20, lit_23, lit_24, lit_31, lit_32, lit_34, lit_36, lit_40, lit_48, lit_49, lit_57, lit_58, lit_59, lit_60, lit_64, lit_96, lit_97, lit_99, lit_101, lit_105, lit_108, lit_110, lit_111, lit_112, lit_114, lit_115, lit_116, lit_122, lit_127, lit_160, lit_216, lit_235, lit_238, lit_343, lit_476, lit_1296, lit_2000, lit_2401, lt_def, bind_s, gd_d, ix_n, inb_n, nI_add, pk_mul, pk_sub, nI_leI, nI_ltI, nI_eq, nI_ltn, nI_eqn, nI_eqn2, if_pos, if_neg, if_true, if_false, nI_addm1, e1, encode_ok I1.2.1]
  by_cases z : M = posN A (dA A)
  · rw [if_pos (hp.mp z), if_pos z]
  · rw [if_neg (fun w => z (hp.mpr w)), if_neg z]
theorem isPlainD_ok (R : RepL μ 0 A) (O : OkA A) (C : Cache μ A) : ∃ μ' M, fD_isPlain μ = some (nI (if M = posN A (dA A) then 1 else 0), μ') ∧ Off sP μ μ' ∧ Cache μ' A ∧ SeqM A M := by
  have hn := O.n4
  obtain ⟨m, e1, o1, k1, r1⟩ := learnRooms_ok R O C.1
  have R1 := RepL_off o1 (fun _ _ => rfl) R
  obtain ⟨m2, M, e2, o2, h2, hM, w2⟩ := goOneByOne_ok R1 O r1
  unfold fD_isPlain
  simp only [e1, bind_s, lt_def]
  have o12 : Off sP μ m2 := Off_trans (Off_mono o1 sP_sRo) (Off_mono o2 (fun r i h => by
    obtain ⟨a, b, c⟩ := r
    have : a ≠ 1 := by intro z; subst z; cases h
    simp [sRw, this]))
  refine ⟨m2, M, ?_, o12, ⟨Or.inr ⟨(o2 _ _ rfl).trans k1, RoomsOk_off o2 (fun _ => rfl) r1⟩, ?_⟩, h2⟩
  · have hp : posN A (dA A) ≤ 4 := Nat.le_trans (cnt_le _ _) hn
    refine ac20 (B := bD_isPlain_15 m) (A 4 0) (by omega) (fun i => nI (cnt (fun t => decide (0 < dA A t)) i)) (fun sf i hi => ?_) (fun sf => ?_) <;> unfold bD_isPlain_15
    · have h := O.tr hi
      have h5 := dist_le O hi
      simp (disch := omega) only [lit_0, lit_1, lit_2, lit_3, lit_4, lit_5, lit_6, lit_7, lit_8, lit_9, lit_10, lit_11, lit_12, lit_13, lit_14, lit_15, lit_16, lit_17, lit_18, lit_19, lit_20, lit_23, lit_24, lit_31, lit_32, lit_34, lit_36, lit_40, lit_48, lit_49, lit_57, lit_58, lit_59, lit_60, lit_64, lit_96, lit_97, lit_99, lit_101, lit_105, lit_108, lit_110, lit_111, lit_112, lit_114, lit_115, lit_116, lit_122, lit_127, lit_160, lit_216, lit_235, lit_238, lit_343, lit_476, lit_1296, lit_2000, lit_2401, lt_def, bind_s, gd_d, ix_n, inb_n, nI_add, pk_mul, pk_sub, nI_leI, nI_ltI, nI_eq, nI_ltn, nI_eqn, nI_eqn2, if_pos, if_neg, if_true, if_false, nI_addm1, R1.n, R1.lf hi, cnt_s, decide_eq_true_eq, dA_lt hi]
      by_cases z : A 8 i = 0
      · simp (disch := omega) only [lit_0, lit_1, lit_2, lit_3, lit_4, lit_5, lit_6, lit_7, lit_8, lit_9, lit_10, lit_11, lit_12, lit_13, lit_14, lit_15, lit_16, lit_17, lit_18, lit_19, lit_20, lit_23, lit_24, lit_31, lit_32, lit_34, lit_36, lit_40, lit_48, lit_49, lit_57, lit_58, lit_59, lit_60, lit_64, lit_96, lit_97, lit_99, lit_101, lit_105, lit_108, lit_110, lit_111, lit_112, lit_114, lit_115, lit_116, lit_122, lit_127, lit_160, lit_216, lit_235, lit_238, lit_343, lit_476, lit_1296, lit_2000, lit_2401, lt_def, bind_s, gd_d, ix_n, inb_n, nI_add, pk_mul, pk_sub, nI_leI, nI_ltI, nI_eq, nI_ltn, nI_eqn, nI_eqn2, if_pos, if_neg, if_true, if_false, nI_addm1]
      · simp (disch := omega) only [lit_0, lit_1, lit_2, lit_3, lit_4, lit_5, lit_6, lit_7, lit_8, lit_9, lit_10, lit_11, lit_12, lit_13, lit_14, lit_15, lit_16, lit_17, lit_18, lit_19, lit_20, lit_23, lit_24, lit_31, lit_32, lit_34, lit_36, lit_40, lit_48, lit_49, lit_57, lit_58, lit_59, lit_60, lit_64, lit_96, lit_97, lit_99, lit_101, lit_105, lit_108, lit_110, lit_111, lit_112, lit_114, lit_115, lit_116, lit_122, lit_127, lit_160, lit_216, lit_235, lit_238, lit_343, lit_476, lit_1296, lit_2000, lit_2401, lt_def, bind_s, gd_d, ix_n, inb_n, nI_add, pk_mul, pk_sub, nI_leI, nI_ltI, nI_eq, nI_ltn, nI_eqn, nI_eqn2, if_pos, if_neg, if_true, if_false, nI_addm1]
    · unfold posN at hp ⊢
      simp (disch := omega) only [lit_0, lit_1, lit_2, lit_3, lit_4, lit_5, lit_6, lit_7, lit_8, lit_9, lit_10, lit_11, lit_12, lit_13, lit_14, lit_15, lit_16, lit_17, lit_18, lit_19, lit_20, lit_23, lit_24, lit_31, lit_32, lit_34, lit_36, lit_40, lit_48, lit_49, lit_57, lit_58, lit_59, lit_60, lit_64, lit_96, lit_97, lit_99, lit_101, lit_105, lit_108, lit_110, lit_111, lit_112, lit_114, lit_115, lit_116, lit_122, lit_127, lit_160, lit_216, lit_235, lit_238, lit_343, lit_476, lit_1296, lit_2000, lit_2401, lt_def, bind_s, gd_d, ix_n, inb_n, nI_add, pk_mul, pk_sub, nI_leI, nI_ltI, nI_eq, nI_ltn, nI_eqn, nI_eqn2, if_pos, if_neg, if_true, if_false, nI_addm1, R1.n, jD_isPlain_52, e2]
      by_cases z : M = cnt (fun t => decide (0 < dA A t)) (A 4 0)
      · simp only [if_pos z]
      · simp only [if_neg z]
  · rcases C.2 with c | ⟨c, E⟩
    · exact Or.inl ((o2 _ _ rfl).trans ((o1 _ _ rfl).trans c))
    · exact Or.inr ⟨(o2 _ _ rfl).trans ((o1 _ _ rfl).trans c), EndsOk_off o2 (fun _ => rfl) (EndsOk_off o1 (fun _ => rfl) E)⟩
theorem firstAt_ok (R : RepR (μ (5, 0, 1)) A B) (O : OkA A) {p : Nat} (hp : p < 6) : ∃ μ', fM_firstAt (nI p) μ = some (if fst (occ A (dA A) p) (A 4 0) 0 < A 4 0 then nI (fst (occ A (dA A) p) (A 4 0) 0) else -4, μ') ∧ Off sSp μ μ' := by
  have hn := O.n4
  have D := DOk_dA O
  obtain ⟨m, e1, o1, S1⟩ := decode_ok O D μ
  have R1 := RepR_off o1 (fun _ => rfl) R
  unfold fM_firstAt
  simp only [postureNow_ok R O, bind_s, e1, lt_def]
  refine ⟨m, ?_, o1⟩
  refine up10 (B := bM_firstAt_10 (nI p) m) (fun r => r = some (if fst (occ A (dA A) p) (A 4 0) 0 < A 4 0 then nI (fst (occ A (dA A) p) (A 4 0) 0) else -4, m)) (A 4 0) (by omega) (fun i => ∀ u, u < i → occ A (dA A) p u = false) (fun j hj => absurd hj (by omega)) (fun sf i hi hJ => ?_) (fun sf hJ => ?_) <;> unfold bM_firstAt_10
  · have h7 := s7_le O D i
    have ho := s7_occ D (t := i) (p := p)
    simp (disch := omega) only [lit_0, lit_1, lit_2, lit_3, lit_4, lit_5, lit_6, lit_7, lit_8, lit_9, lit_10, lit_11, lit_12, lit_13, lit_14, lit_15, lit_16, lit_17, lit_18, lit_19, lit_20, lit_23, lit_24, lit_31, lit_32, lit_34, lit_36, lit_40, lit_48, lit_49, lit_57, lit_58, lit_59, lit_60, lit_64, lit_96, lit_97, lit_99, lit_101, lit_105, lit_108, lit_110, lit_111, lit_112, lit_114, lit_115, lit_116, lit_122, lit_127, lit_160, lit_216, lit_235, lit_238, lit_343, lit_476, lit_1296, lit_2000, lit_2401, lt_def, bind_s, gd_d, ix_n, inb_n, nI_add, pk_mul, pk_sub, nI_leI, nI_ltI, nI_eq, nI_ltn, nI_eqn, nI_eqn2, if_pos, if_neg, if_true, if_false, nI_addm1, R1.n, S1 i (by omega)]
    by_cases z : occ A (dA A) p i = true
    · right
      rw [if_pos (ho.mpr z), fst_eq hi hJ z, if_pos hi]
    · left
      refine ⟨fun u hu => ?_, by rw [if_neg (fun w => z (ho.mp w))]⟩
      by_cases e : u = i
      · subst e; simpa using z
      · exact hJ u (by omega)
  · simp (disch := omega) only [lit_0, lit_1, lit_2, lit_3, lit_4, lit_5, lit_6, lit_7, lit_8, lit_9, lit_10, lit_11, lit_12, lit_13, lit_14, lit_15, lit_16, lit_17, lit_18, lit_19, lit_20, lit_23, lit_24, lit_31, lit_32, lit_34, lit_36, lit_40, lit_48, lit_49, lit_57, lit_58, lit_59, lit_60, lit_64, lit_96, lit_97, lit_99, lit_101, lit_105, lit_108, lit_110, lit_111, lit_112, lit_114, lit_115, lit_116, lit_122, lit_127, lit_160, lit_216, lit_235, lit_238, lit_343, lit_476, lit_1296, lit_2000, lit_2401, lt_def, bind_s, gd_d, ix_n, inb_n, nI_add, pk_mul, pk_sub, nI_leI, nI_ltI, nI_eq, nI_ltn, nI_eqn, nI_eqn2, if_pos, if_neg, if_true, if_false, nI_addm1, R1.n]
    rw [fst_none hJ, if_neg (Nat.lt_irrefl _)]
theorem isEverDone_ok (O : OkA A) (D : DOk A d0) (E : Expl μ A d0 nq q) {t : Nat} (ht : t < A 4 0) : fM_isEverDone (nI t) μ = some (nI (if endB A t d0 then 1 else 0)) := by
  have hn := O.n4
  obtain ⟨h1, h2, h3, h4, h5, h6⟩ := E
  refine up20 (B := bM_isEverDone_4 (nI t) μ) (fun r => r = some (nI (if endB A t d0 then 1 else 0))) nq (by omega) (fun i a => (a = nI 1 ∧ EndA A t d0) ∨ (a = nI 0 ∧ ∀ j, j < i → q j t ≠ 0)) (Or.inr ⟨rfl, fun j hj => absurd hj (by omega)⟩) (fun sf i a hi hJ => ?_) (fun sf a hJ => ?_) <;> unfold bM_isEverDone_4
  · left
    rcases hJ with ⟨rfl, hJ⟩ | ⟨rfl, hJ⟩
    · simp (disch := omega) only [lit_0, lit_1, lit_2, lit_3, lit_4, lit_5, lit_6, lit_7, lit_8, lit_9, lit_10, lit_11, lit_12, lit_13, lit_14, lit_15, lit_16, lit_17, lit_18, lit_19, lit_20, lit_23, lit_24, lit_31, lit_32, lit_34, lit_36, lit_40, lit_48, lit_49, lit_57, lit_58, lit_59, lit_60, lit_64, lit_96, lit_97, lit_99, lit_101, lit_105, lit_108, lit_110, lit_111, lit_112, lit_114, lit_115, lit_116, lit_122, lit_127, lit_160, lit_216, lit_235, lit_238, lit_343, lit_476, lit_1296, lit_2000, lit_2401, lt_def, bind_s, gd_d, ix_n, inb_n, nI_add, pk_mul, pk_sub, nI_leI, nI_ltI, nI_eq, nI_ltn, nI_eqn, nI_eqn2, if_pos, if_neg, if_true, if_false, nI_addm1, h1]
      exact ⟨_, Or.inl ⟨rfl, hJ⟩, rfl⟩
    · have Di : DOk A (q i) := DOk_le D (Rch_le (h3 i hi).2)
      have h7 := s7_le O Di t
      have g4 : (!(7 == 0)) = true := rfl
      have g5 : (!(nI 7 == nI 0)) = true := by decide +kernel
      have e7 : s7 A (q i) t = 0 ↔ q i t = 0 := by
        unfold s7
        by_cases z : q i t = 0
        · rw [if_pos z]; simp [z]
        · rw [if_neg z]; simp [z]
      simp (disch := omega) only [lit_0, lit_1, lit_2, lit_3, lit_4, lit_5, lit_6, lit_7, lit_8, lit_9, lit_10, lit_11, lit_12, lit_13, lit_14, lit_15, lit_16, lit_17, lit_18, lit_19, lit_20, lit_23, lit_24, lit_31, lit_32, lit_34, lit_36, lit_40, lit_48, lit_49, lit_57, lit_58, lit_59, lit_60, lit_64, lit_96, lit_97, lit_99, lit_101, lit_105, lit_108, lit_110, lit_111, lit_112, lit_114, lit_115, lit_116, lit_122, lit_127, lit_160, lit_216, lit_235, lit_238, lit_343, lit_476, lit_1296, lit_2000, lit_2401, lt_def, bind_s, gd_d, ix_n, inb_n, nI_add, pk_mul, pk_sub, nI_leI, nI_ltI, nI_eq, nI_ltn, nI_eqn, nI_eqn2, if_pos, if_neg, if_true, if_false, nI_addm1, h1, (h3 i hi).1, weightOf_ok, nz7, g4, g5, gd_tt, rem7 O Di (show t < 4 by omega), e7]
      by_cases z : q i t = 0
      · refine ⟨_, Or.inl ⟨rfl, q i, (h3 i hi).2, z⟩, by rw [if_pos z]⟩
      · refine ⟨_, Or.inr ⟨rfl, fun j hj => ?_⟩, by rw [if_neg z]⟩
        by_cases e : j = i
        · subst e; exact z
        · exact hJ j (by omega)
  · simp (disch := omega) only [lit_0, lit_1, lit_2, lit_3, lit_4, lit_5, lit_6, lit_7, lit_8, lit_9, lit_10, lit_11, lit_12, lit_13, lit_14, lit_15, lit_16, lit_17, lit_18, lit_19, lit_20, lit_23, lit_24, lit_31, lit_32, lit_34, lit_36, lit_40, lit_48, lit_49, lit_57, lit_58, lit_59, lit_60, lit_64, lit_96, lit_97, lit_99, lit_101, lit_105, lit_108, lit_110, lit_111, lit_112, lit_114, lit_115, lit_116, lit_122, lit_127, lit_160, lit_216, lit_235, lit_238, lit_343, lit_476, lit_1296, lit_2000, lit_2401, lt_def, bind_s, gd_d, ix_n, inb_n, nI_add, pk_mul, pk_sub, nI_leI, nI_ltI, nI_eq, nI_ltn, nI_eqn, nI_eqn2, if_pos, if_neg, if_true, if_false, nI_addm1, h1]
    rcases hJ with ⟨rfl, hJ⟩ | ⟨rfl, hJ⟩
    · rw [if_pos (endB_iff.mpr hJ)]; rfl
    · rw [if_neg]
      · rfl
      · intro w
        obtain ⟨e, he, hz⟩ := endB_iff.mp w
        obtain ⟨j, hj, rfl⟩ := h5 e he
        exact hJ j hj hz
theorem firstStuck_ok (R : RepR (μ (5, 0, 1)) A B) (O : OkA A) {t : Nat} (ht : t < A 4 0) (c : canA A (dA A) t = true) : ∃ μ', fM_firstStuck (nI t) μ = some (if fst (fun u => !endB A u (dec (dA A) t)) (A 4 0) 0 < A 4 0 then nI (fst (fun u => !endB A u (dec (dA A) t)) (A 4 0) 0) else -4, μ') ∧ Off sEx μ μ' := by
  have hn := O.n4
  have D := DOk_dA O
  have D2 : DOk A (dec (dA A) t) := DOk_le D (dec_le _ _)
  obtain ⟨m, e1, o1, S1⟩ := decode_ok O D μ
  have R1 := RepR_off o1 (fun _ => rfl) R
  obtain ⟨m2, e2, o2, S2⟩ := movedBy_ok R1 O D S1 ht
  have R2 := RepR_off o2 (fun _ => rfl) R1
  obtain ⟨m3, n3, q3, e3, o3, E3⟩ := explore_ok R2 O D2
  have R3 := RepR_off o3 (fun _ => rfl) R2
  unfold fM_firstStuck
  rw [if_pos c] at e2
  simp only [postureNow_ok R O, bind_s, e1, e2, e3, lt_def]
  refine ⟨m3, ?_, Off_trans (Off_mono (Off_trans o1 o2) sEx_sSp) o3⟩
  refine up10 (B := bM_firstStuck_19 m3) (fun r => r = some (if fst (fun u => !endB A u (dec (dA A) t)) (A 4 0) 0 < A 4 0 then nI (fst (fun u => !endB A u (dec (dA A) t)) (A 4 0) 0) else -4, m3)) (A 4 0) (by omega) (fun i => ∀ u, u < i → (!endB A u (dec (dA A) t)) = false) (fun j hj => absurd hj (by omega)) (fun sf i hi hJ => ?_) (fun sf hJ => ?_) <;> unfold bM_firstStuck_19
  · simp (disch := omega) only [lit_0, lit_1, lit_2, lit_3, lit_4, lit_5, lit_6, lit_7, lit_8, lit_9, lit_10, lit_11, lit_12, lit_13, lit_14, lit_15, lit_16, lit_17, lit_18, lit_19, lit_20, lit_23, lit_24, lit_31, lit_32, lit_34, lit_36, lit_40, lit_48, lit_49, lit_57, lit_58, lit_59, lit_60, lit_64, lit_96, lit_97, lit_99, lit_101, lit_105, lit_108, lit_110, lit_111, lit_112, lit_114, lit_115, lit_116, lit_122, lit_127, lit_160, lit_216, lit_235, lit_238, lit_343, lit_476, lit_1296, lit_2000, lit_2401, lt_def, bind_s, gd_d, ix_n, inb_n, nI_add, pk_mul, pk_sub, nI_leI, nI_ltI, nI_eq, nI_ltn, nI_eqn, nI_eqn2, if_pos, if_neg, if_true, if_false, nI_addm1, R3.n, isEverDone_ok O D2 E3 hi]
    cases w : endB A i (dec (dA A) t) with
    | false =>
      right
      have hp : (!endB A i (dec (dA A) t)) = true := by rw [w]; rfl
      rw [fst_eq (p := fun u => !endB A u (dec (dA A) t)) hi hJ hp]
      simp [hi]
    | true =>
      left
      refine ⟨fun u hu => ?_, ?_⟩
      · by_cases z : u = i
        · subst z; rw [w]; rfl
        · exact hJ u (by omega)
      · have n1 : ¬ nI 1 = nI 0 := by decide +kernel
        simp [n1]
  · simp (disch := omega) only [lit_0, lit_1, lit_2, lit_3, lit_4, lit_5, lit_6, lit_7, lit_8, lit_9, lit_10, lit_11, lit_12, lit_13, lit_14, lit_15, lit_16, lit_17, lit_18, lit_19, lit_20, lit_23, lit_24, lit_31, lit_32, lit_34, lit_36, lit_40, lit_48, lit_49, lit_57, lit_58, lit_59, lit_60, lit_64, lit_96, lit_97, lit_99, lit_101, lit_105, lit_108, lit_110, lit_111, lit_112, lit_114, lit_115, lit_116, lit_122, lit_127, lit_160, lit_216, lit_235, lit_238, lit_343, lit_476, lit_1296, lit_2000, lit_2401, lt_def, bind_s, gd_d, ix_n, inb_n, nI_add, pk_mul, pk_sub, nI_leI, nI_ltI, nI_eq, nI_ltn, nI_eqn, nI_eqn2, if_pos, if_neg, if_true, if_false, nI_addm1, R3.n]
    rw [fst_none (p := fun u => !endB A u (dec (dA A) t)) hJ, if_neg (Nat.lt_irrefl _)]
end Ag
