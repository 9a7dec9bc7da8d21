def ahA (A : Ab) (r t u : Nat) : Bool := decide ((r = 1 ∧ minA A t (A 8 t) < minA A u (A 8 u)) ∨ (r = 2 ∧ minA A u (A 8 u) < minA A t (A 8 t)))
/-- the first by a rule of those below i, and 1; 0: none -/
noncomputable def fbI (A : Ab) (r : Nat) : Nat → Nat
  | 0 => 0
  | i + 1 => if agA A i = 0 ∧ (fbI A r i = 0 ∨ ahA A r i (fbI A r i - 1) = true) then i + 1 else fbI A r i
theorem fbI_s (A : Ab) (r i : Nat) : fbI A r (i + 1) = if agA A i = 0 ∧ (fbI A r i = 0 ∨ ahA A r i (fbI A r i - 1) = true) then i + 1 else fbI A r i := rfl
theorem fbI_le (A : Ab) (r : Nat) : ∀ i, fbI A r i ≤ i
  | 0 => Nat.le_refl _
  | i + 1 => by
    have := fbI_le A r i
    rw [fbI_s]
    split <;> omega
theorem fbI_ag (A : Ab) (r : Nat) : ∀ i, fbI A r i ≠ 0 → agA A (fbI A r i - 1) = 0
  | 0, h => absurd rfl h
  | i + 1, h => by
    rw [fbI_s] at h ⊢
    by_cases c : agA A i = 0 ∧ (fbI A r i = 0 ∨ ahA A r i (fbI A r i - 1) = true)
    · rw [if_pos c, Nat.add_sub_cancel]; exact c.1
    · rw [if_neg c] at h ⊢; exact fbI_ag A r i h
theorem fbI_none (A : Ab) (r : Nat) : ∀ i, (∀ t, t < i → agA A t ≠ 0) → fbI A r i = 0
  | 0, _ => rfl
  | i + 1, h => by
    rw [fbI_s, if_neg (fun c => h i (by omega) c.1)]
    exact fbI_none A r i (fun t ht => h t (by omega))
theorem fbI_some (A : Ab) (r : Nat) : ∀ i, fbI A r i = 0 → ∀ t, t < i → agA A t ≠ 0
  | 0, _, t, ht => absurd ht (by omega)
  | i + 1, h, t, ht => by
    rw [fbI_s] at h
    by_cases c : agA A i = 0 ∧ (fbI A r i = 0 ∨ ahA A r i (fbI A r i - 1) = true)
    · rw [if_pos c] at h; omega
    · rw [if_neg c] at h
      by_cases e : t = i
      · subst e; exact fun z => c ⟨z, Or.inl h⟩
      · exact fbI_some A r i h t (by omega)
def fbV (v : Nat) : Int32 := if v = 0 then -4 else nI (v - 1)
theorem agA_0 {A : Ab} {t : Nat} (h : agA A t = 0) : A 9 t = 0 ∧ canA A (dA A) t = true ∧ SafeA A (dec (dA A) t) := by
  unfold agA at h
  by_cases z : A 9 t = 0
  · rw [if_pos z] at h
    by_cases y : fst (runA A (secA A t (A 8 t))) (A 4 0) 0 < A 4 0
    · rw [if_pos y] at h; omega
    · rw [if_neg y] at h
      by_cases c : canA A (dA A) t = true
      · rw [if_pos c] at h
        by_cases w : safeB A (dec (dA A) t) = true
        · exact ⟨z, c, safeB_iff.mp w⟩
        · rw [if_neg w] at h; omega
      · rw [if_neg c] at h; omega
  · rw [if_neg z] at h
    by_cases y : A 9 t = 2
    · rw [if_pos y] at h; omega
    · rw [if_neg y] at h; omega
noncomputable def sndA (A : Ab) (r : Nat) : Nat → Ab
  | 0 => A
  | j + 1 => depA (sndA A r j) (fbI (sndA A r j) r (A 4 0) - 1)
def SndM (A : Ab) (r M : Nat) : Prop := (∀ j, j < M → fbI (sndA A r j) r (A 4 0) ≠ 0) ∧ fbI (sndA A r M) r (A 4 0) = 0
theorem SndM_un {A : Ab} {r M N : Nat} (h : SndM A r M) (g : SndM A r N) : M = N := by
  rcases Nat.lt_trichotomy M N with q | q | q
  · exact absurd h.2 (g.1 M q)
  · exact q
  · exact absurd g.2 (h.1 N q)
def at0 (A : Ab) : Nat := cnt (fun t => decide (A 9 t = 0)) (A 4 0)
theorem cnt_at0 {f : Nat → Nat} {t : Nat} (h : f t = 0) : ∀ {n : Nat}, t < n → cnt (fun u => decide (upx f t 1 u = 0)) n + 1 = cnt (fun u => decide (f u = 0)) n
  | 0, q => absurd q (by omega)
  | n + 1, q => by
    rw [cnt_s, cnt_s]
    by_cases e : t = n
    · subst e
      rw [cnt_congr (q := fun u => decide (f u = 0)) (fun i hi => by
        show decide (upx f t 1 i = 0) = decide (f i = 0)
        rw [upx_ne _ (by omega)]), upx_at]
      simp [h]
    · have := cnt_at0 h (n := n) (by omega)
      rw [upx_ne f (u := n) (by omega)]
      omega
theorem snd_4 {A : Ab} {r : Nat} : ∀ j, StEq A (sndA A r j) ∧ sndA A r j 11 = A 11
  | 0 => ⟨fun _ _ => rfl, rfl⟩
  | j + 1 => by
    have h := snd_4 (A := A) (r := r) j
    refine ⟨fun f hf => ?_, ?_⟩
    · show depA _ _ f = _
      rw [depA_o _ _ f (Or.inl hf)]; exact h.1 f hf
    · show depA _ _ 11 = _
      rw [depA_o _ _ 11 (Or.inr rfl)]; exact h.2
theorem snd_at0 {A : Ab} {r : Nat} : ∀ {M : Nat}, (∀ j, j < M → fbI (sndA A r j) r (A 4 0) ≠ 0) → at0 (sndA A r M) + M = at0 A
  | 0, _ => rfl
  | M + 1, h => by
    have h1 := snd_at0 (A := A) (r := r) (M := M) (fun j hj => h j (by omega))
    have h2 := h M (by omega)
    have h3 := fbI_ag _ _ _ h2
    have h4 := fbI_le (sndA A r M) r (A 4 0)
    have e4 : sndA A r M 4 = A 4 := (snd_4 M).1 4 (by omega)
    have h5 := cnt_at0 (agA_0 h3).1 (n := A 4 0) (by omega)
    have e5 : at0 (sndA A r (M + 1)) = cnt (fun u => decide (upx (sndA A r M 9) (fbI (sndA A r M) r (A 4 0) - 1) 1 u = 0)) (A 4 0) := by
      unfold at0
      show cnt (fun t => decide (depA (sndA A r M) (fbI (sndA A r M) r (A 4 0) - 1) 9 t = 0)) (depA (sndA A r M) (fbI (sndA A r M) r (A 4 0) - 1) 4 0) = _
      rw [depA_9, depA_o _ _ 4 (by omega), e4]
    rw [e5]
    unfold at0 at h1 ⊢
    rw [e4] at h1
    omega
theorem snd_end {A : Ab} {r : Nat} (h : ∀ j, j < A 4 0 → fbI (sndA A r j) r (A 4 0) ≠ 0) : fbI (sndA A r (A 4 0)) r (A 4 0) = 0 := by
  by_cases z : fbI (sndA A r (A 4 0)) r (A 4 0) = 0
  · exact z
  · have h1 := snd_at0 h
    have h2 := cnt_le (fun t => decide (A 9 t = 0)) (A 4 0)
    have h3 := fbI_ag _ _ _ z
    have h4 := fbI_le (sndA A r (A 4 0)) r (A 4 0)
    have h5 := cnt_at0 (agA_0 h3).1 (n := A 4 0) (by omega)
    have e4 : sndA A r (A 4 0) 4 = A 4 := (snd_4 (A 4 0)).1 4 (by omega)
    unfold at0 at h1
    rw [e4] at h1
    omega
theorem snd_Mle {A : Ab} {r M : Nat} (h : ∀ j, j < M → fbI (sndA A r j) r (A 4 0) ≠ 0) : M ≤ A 4 0 := by
  have h1 := snd_at0 h
  have h2 := cnt_le (fun t => decide (A 9 t = 0)) (A 4 0)
  unfold at0 at h1
  omega
theorem fbI_snd {A : Ab} {r : Nat} (j i : Nat) : fbI (sndA A r j) r (A 4 0) = fbI (sndA A r j) r (sndA A r j 4 0) := by rw [(snd_4 j).1 4 (by omega)]
section Send
variable {μ : Mem} {k : Nat} {A : Ab} {B : Nat → Nat → Nat} {d0 : Nat → Nat} {nq : Nat} {q : Nat → Nat → Nat}
theorem RoomsOk_st {A' : Ab} (s : StEq A A') (h : RoomsOk μ A) : RoomsOk μ A' := by
  intro p hp m hm
  rw [s 0 (by omega)] at hp
  rw [s 4 (by omega)] at hm
  have e : fitsA A' p (fun t => m.testBit t) = fitsA A p (fun t => m.testBit t) := by
    unfold fitsA
    rw [s 1 (by omega), s 2 (by omega), s 4 (by omega), s 7 (by omega)]
  rw [e]
  exact h p hp m hm
theorem EndsOk_st {A' : Ab} (s : StEq A A') (hd : ∀ t, dA A' t ≤ dA A t) (h : EndsOk μ A) : EndsOk μ A' := by
  intro e he
  obtain ⟨x, a, b, c, d⟩ := h e (fun t => Nat.le_trans (he t) (hd t))
  refine ⟨x, a, b, fun u hu => ?_, ?_⟩
  · rw [s 4 (by omega)] at hu
    rw [End_st s]; exact c u hu
  · rw [Safe_st s]; exact d
theorem Known_st {A' : Ab} (s : StEq A A') (hd : ∀ t, dA A' t ≤ dA A t) (h : Known μ A) : Known μ A' := ⟨h.1, RoomsOk_st s h.2.1, h.2.2.1, EndsOk_st s hd h.2.2.2⟩
theorem Cache_st {A' : Ab} (s : StEq A A') (hd : ∀ t, dA A' t ≤ dA A t) (h : Cache μ A) : Cache μ A' := by
  refine ⟨?_, ?_⟩
  · rcases h.1 with c | ⟨c, R⟩
    · exact Or.inl c
    · exact Or.inr ⟨c, RoomsOk_st s R⟩
  · rcases h.2 with c | ⟨c, R⟩
    · exact Or.inl c
    · exact Or.inr ⟨c, EndsOk_st s hd R⟩
theorem min_lt (O : OkA A) {t : Nat} (ht : t < A 4 0) : minA A t (A 8 t) ≤ 45 := by
  have := minA_le O ht (O.tr ht).2.2.2.2.2.1
  have := dist_le O ht
  have := (O.tr ht).2.2.2.2.2.1
  omega
theorem isAheadD_ok (R : RepL μ k A) (O : OkA A) {r t u : Nat} (hr : r < 3) (ht : t < A 4 0) (hu : u < A 4 0) (hlt : u < t) : fD_isAhead k (nI r) (nI t) (nI u) μ = some (nI (if ahA A r t u then 1 else 0)) := by
  have hn := O.n4
  have m1 := min_lt O ht
  have m2 := min_lt O hu
  unfold fD_isAhead ahA
  simp (disch := omega) only [lit_0, lit_1, lit_2, lit_3, lit_4, lit_5, lit_6, lit_7, lit_8, lit_9, lit_10, lit_11, lit_12, lit_13, lit_14, lit_15, lit_16, lit_17, lit_18, lit_19, lit_20, lit_23, lit_24, lit_31, lit_32, lit_34, lit_36, lit_40, lit_48, lit_49, lit_57, lit_58, lit_59, lit_60, lit_64, lit_96, lit_97, lit_99, lit_101, lit_105, lit_108, lit_110, lit_111, lit_112, lit_114, lit_115, lit_116, lit_122, lit_127, lit_160, lit_216, lit_235, lit_238, lit_343, lit_476, lit_1296, lit_2000, lit_2401, lt_def, bind_s, gd_d, ix_n, inb_n, nI_add, pk_mul, pk_sub, nI_leI, nI_ltI, nI_eq, nI_ltn, nI_eqn, nI_eqn2, if_pos, if_neg, if_true, if_false, nI_addm1, minutesLeft_ok R O ht, minutesLeft_ok R O hu, decide_eq_true_eq]
  have c : r = 0 ∨ r = 1 ∨ r = 2 := by omega
  rcases c with rfl | rfl | rfl
  · simp (disch := omega) only [lit_0, lit_1, lit_2, lit_3, lit_4, lit_5, lit_6, lit_7, lit_8, lit_9, lit_10, lit_11, lit_12, lit_13, lit_14, lit_15, lit_16, lit_17, lit_18, lit_19, lit_20, lit_23, lit_24, lit_31, lit_32, lit_34, lit_36, lit_40, lit_48, lit_49, lit_57, lit_58, lit_59, lit_60, lit_64, lit_96, lit_97, lit_99, lit_101, lit_105, lit_108, lit_110, lit_111, lit_112, lit_114, lit_115, lit_116, lit_122, lit_127, lit_160, lit_216, lit_235, lit_238, lit_343, lit_476, lit_1296, lit_2000, lit_2401, lt_def, bind_s, gd_d, ix_n, inb_n, nI_add, pk_mul, pk_sub, nI_leI, nI_ltI, nI_eq, nI_ltn, nI_eqn, nI_eqn2, if_pos, if_neg, if_true, if_false, nI_addm1]
  · by_cases z : minA A t (A 8 t) < minA A u (A 8 u)
    · simp (disch := omega) only [lit_0, lit_1, lit_2, lit_3, lit_4, lit_5, lit_6, lit_7, lit_8, lit_9, lit_10, lit_11, lit_12, lit_13, lit_14, lit_15, lit_16, lit_17, lit_18, lit_19, lit_20, lit_23, lit_24, lit_31, lit_32, lit_34, lit_36, lit_40, lit_48, lit_49, lit_57, lit_58, lit_59, lit_60, lit_64, lit_96, lit_97, lit_99, lit_101, lit_105, lit_108, lit_110, lit_111, lit_112, lit_114, lit_115, lit_116, lit_122, lit_127, lit_160, lit_216, lit_235, lit_238, lit_343, lit_476, lit_1296, lit_2000, lit_2401, lt_def, bind_s, gd_d, ix_n, inb_n, nI_add, pk_mul, pk_sub, nI_leI, nI_ltI, nI_eq, nI_ltn, nI_eqn, nI_eqn2, if_pos, if_neg, if_true, if_false, nI_addm1]
      simp [z]
    · simp (disch := omega) only [lit_0, lit_1, lit_2, lit_3, lit_4, lit_5, lit_6, lit_7, lit_8, lit_9, lit_10, lit_11, lit_12, lit_13, lit_14, lit_15, lit_16, lit_17, lit_18, lit_19, lit_20, lit_23, lit_24, lit_31, lit_32, lit_34, lit_36, lit_40, lit_48, lit_49, lit_57, lit_58, lit_59, lit_60, lit_64, lit_96, lit_97, lit_99, lit_101, lit_105, lit_108, lit_110, lit_111, lit_112, lit_114, lit_115, lit_116, lit_122, lit_127, lit_160, lit_216, lit_235, lit_238, lit_343, lit_476, lit_1296, lit_2000, lit_2401, lt_def, bind_s, gd_d, ix_n, inb_n, nI_add, pk_mul, pk_sub, nI_leI, nI_ltI, nI_eq, nI_ltn, nI_eqn, nI_eqn2, if_pos, if_neg, if_true, if_false, nI_addm1]
  · by_cases z : minA A u (A 8 u) < minA A t (A 8 t)
    · simp (disch := omega) only [lit_0, lit_1, lit_2, lit_3, lit_4, lit_5, lit_6, lit_7, lit_8, lit_9, lit_10, lit_11, lit_12, lit_13, lit_14, lit_15, lit_16, lit_17, lit_18, lit_19, lit_20, lit_23, lit_24, lit_31, lit_32, lit_34, lit_36, lit_40, lit_48, lit_49, lit_57, lit_58, lit_59, lit_60, lit_64, lit_96, lit_97, lit_99, lit_101, lit_105, lit_108, lit_110, lit_111, lit_112, lit_114, lit_115, lit_116, lit_122, lit_127, lit_160, lit_216, lit_235, lit_238, lit_343, lit_476, lit_1296, lit_2000, lit_2401, lt_def, bind_s, gd_d, ix_n, inb_n, nI_add, pk_mul, pk_sub, nI_leI, nI_ltI, nI_eq, nI_ltn, nI_eqn, nI_eqn2, if_pos, if_neg, if_true, if_false, nI_addm1]
      simp [z]
    · simp (disch := omega) only [lit_0, lit_1, lit_2, lit_3, lit_4, lit_5, lit_6, lit_7, lit_8, lit_9, lit_10, lit_11, lit_12, lit_13, lit_14, lit_15, lit_16, lit_17, lit_18, lit_19, lit_20, lit_23, lit_24, lit_31, lit_32, lit_34, lit_36, lit_40, lit_48, lit_49, lit_57, lit_58, lit_59, lit_60, lit_64, lit_96, lit_97, lit_99, lit_101, lit_105, lit_108, lit_110, lit_111, lit_112, lit_114, lit_115, lit_116, lit_122, lit_127, lit_160, lit_216, lit_235, lit_238, lit_343, lit_476, lit_1296, lit_2000, lit_2401, lt_def, bind_s, gd_d, ix_n, inb_n, nI_add, pk_mul, pk_sub, nI_leI, nI_ltI, nI_eq, nI_ltn, nI_eqn, nI_eqn2, if_pos, if_neg, if_true, if_false, nI_addm1]
theorem isAheadM_ok (R : RepR (μ (5, 0, 1)) A B) (O : OkA A) {r t u : Nat} (hr : r < 3) (ht : t < A 4 0) (hu : u < A 4 0) : fM_isAhead (nI r) (nI t) (nI u) μ = some (nI (if ahA A r t u then 1 else 0)) := by
  have hn := O.n4
  have m1 := min_lt O ht
  have m2 := min_lt O hu
  unfold fM_isAhead ahA
  simp (disch := omega) only [lit_0, lit_1, lit_2, lit_3, lit_4, lit_5, lit_6, lit_7, lit_8, lit_9, lit_10, lit_11, lit_12, lit_13, lit_14, lit_15, lit_16, lit_17, lit_18, lit_19, lit_20, lit_23, lit_24, lit_31, lit_32, lit_34, lit_36, lit_40, lit_48, lit_49, lit_57, lit_58, lit_59, lit_60, lit_64, lit_96, lit_97, lit_99, lit_101, lit_105, lit_108, lit_110, lit_111, lit_112, lit_114, lit_115, lit_116, lit_122, lit_127, lit_160, lit_216, lit_235, lit_238, lit_343, lit_476, lit_1296, lit_2000, lit_2401, lt_def, bind_s, gd_d, ix_n, inb_n, nI_add, pk_mul, pk_sub, nI_leI, nI_ltI, nI_eq, nI_ltn, nI_eqn, nI_eqn2, if_pos, if_neg, if_true, if_false, nI_addm1, minutesStill_ok R O ht, minutesStill_ok R O hu, decide_eq_true_eq]
  have sn : minA A t (A 8 t) < minA A u (A 8 u) → nI (minA A t (A 8 t)) - nI (minA A u (A 8 u)) = -nI (minA A u (A 8 u) - minA A t (A 8 t)) := fun h => by
    have := nI_subn (minA A t (A 8 t)) (minA A u (A 8 u) - minA A t (A 8 t))
    rw [show minA A t (A 8 t) + (minA A u (A 8 u) - minA A t (A 8 t)) = minA A u (A 8 u) by omega] at this
    exact this
  have c : r = 0 ∨ r = 1 ∨ r = 2 := by omega
  rcases c with rfl | rfl | rfl
  · simp (disch := omega) only [lit_0, lit_1, lit_2, lit_3, lit_4, lit_5, lit_6, lit_7, lit_8, lit_9, lit_10, lit_11, lit_12, lit_13, lit_14, lit_15, lit_16, lit_17, lit_18, lit_19, lit_20, lit_23, lit_24, lit_31, lit_32, lit_34, lit_36, lit_40, lit_48, lit_49, lit_57, lit_58, lit_59, lit_60, lit_64, lit_96, lit_97, lit_99, lit_101, lit_105, lit_108, lit_110, lit_111, lit_112, lit_114, lit_115, lit_116, lit_122, lit_127, lit_160, lit_216, lit_235, lit_238, lit_343, lit_476, lit_1296, lit_2000, lit_2401, lt_def, bind_s, gd_d, ix_n, inb_n, nI_add, pk_mul, pk_sub, nI_leI, nI_ltI, nI_eq, nI_ltn, nI_eqn, nI_eqn2, if_pos, if_neg, if_true, if_false, nI_addm1]
  · by_cases z : minA A t (A 8 t) < minA A u (A 8 u)
    · simp (disch := omega) only [lit_0, lit_1, lit_2, lit_3, lit_4, lit_5, lit_6, lit_7, lit_8, lit_9, lit_10, lit_11, lit_12, lit_13, lit_14, lit_15, lit_16, lit_17, lit_18, lit_19, lit_20, lit_23, lit_24, lit_31, lit_32, lit_34, lit_36, lit_40, lit_48, lit_49, lit_57, lit_58, lit_59, lit_60, lit_64, lit_96, lit_97, lit_99, lit_101, lit_105, lit_108, lit_110, lit_111, lit_112, lit_114, lit_115, lit_116, lit_122, lit_127, lit_160, lit_216, lit_235, lit_238, lit_343, lit_476, lit_1296, lit_2000, lit_2401, lt_def, bind_s, gd_d, ix_n, inb_n, nI_add, pk_mul, pk_sub, nI_leI, nI_ltI, nI_eq, nI_ltn, nI_eqn, nI_eqn2, if_pos, if_neg, if_true, if_false, nI_addm1, sn z, nI_len]
      simp [z]
    · simp (disch := omega) only [lit_0, lit_1, lit_2, lit_3, lit_4, lit_5, lit_6, lit_7, lit_8, lit_9, lit_10, lit_11, lit_12, lit_13, lit_14, lit_15, lit_16, lit_17, lit_18, lit_19, lit_20, lit_23, lit_24, lit_31, lit_32, lit_34, lit_36, lit_40, lit_48, lit_49, lit_57, lit_58, lit_59, lit_60, lit_64, lit_96, lit_97, lit_99, lit_101, lit_105, lit_108, lit_110, lit_111, lit_112, lit_114, lit_115, lit_116, lit_122, lit_127, lit_160, lit_216, lit_235, lit_238, lit_343, lit_476, lit_1296, lit_2000, lit_2401, lt_def, bind_s, gd_d, ix_n, inb_n, nI_add, pk_mul, pk_sub, nI_leI, nI_ltI, nI_eq, nI_ltn, nI_eqn, nI_eqn2, if_pos, if_neg, if_true, if_false, nI_addm1]
  · by_cases z : minA A u (A 8 u) < minA A t (A 8 t)
    · simp (disch := omega) only [lit_0, lit_1, lit_2, lit_3, lit_4, lit_5, lit_6, lit_7, lit_8, lit_9, lit_10, lit_11, lit_12, lit_13, lit_14, lit_15, lit_16, lit_17, lit_18, lit_19, lit_20, lit_23, lit_24, lit_31, lit_32, lit_34, lit_36, lit_40, lit_48, lit_49, lit_57, lit_58, lit_59, lit_60, lit_64, lit_96, lit_97, lit_99, lit_101, lit_105, lit_108, lit_110, lit_111, lit_112, lit_114, lit_115, lit_116, lit_122, lit_127, lit_160, lit_216, lit_235, lit_238, lit_343, lit_476, lit_1296, lit_2000, lit_2401, lt_def, bind_s, gd_d, ix_n, inb_n, nI_add, pk_mul, pk_sub, nI_leI, nI_ltI, nI_eq, nI_ltn, nI_eqn, nI_eqn2, if_pos, if_neg, if_true, if_false, nI_addm1]
      simp [z]
    · by_cases y : minA A t (A 8 t) < minA A u (A 8 u)
      · have ng : -nI (minA A u (A 8 u) - minA A t (A 8 t)) ≤ nI 0 := Int32.le_of_lt (of_eq_true (nI_ltn (by omega) (by omega) (by omega)))
        simp (disch := omega) only [lit_0, lit_1, lit_2, lit_3, lit_4, lit_5, lit_6, lit_7, lit_8, lit_9, lit_10, lit_11, lit_12, lit_13, lit_14, lit_15, lit_16, lit_17, lit_18, lit_19, lit_20, lit_23, lit_24, lit_31, lit_32, lit_34, lit_36, lit_40, lit_48, lit_49, lit_57, lit_58, lit_59, lit_60, lit_64, lit_96, lit_97, lit_99, lit_101, lit_105, lit_108, lit_110, lit_111, lit_112, lit_114, lit_115, lit_116, lit_122, lit_127, lit_160, lit_216, lit_235, lit_238, lit_343, lit_476, lit_1296, lit_2000, lit_2401, lt_def, bind_s, gd_d, ix_n, inb_n, nI_add, pk_mul, pk_sub, nI_leI, nI_ltI, nI_eq, nI_ltn, nI_eqn, nI_eqn2, if_pos, if_neg, if_true, if_false, nI_addm1, sn y, if_pos ng]
      · simp (disch := omega) only [lit_0, lit_1, lit_2, lit_3, lit_4, lit_5, lit_6, lit_7, lit_8, lit_9, lit_10, lit_11, lit_12, lit_13, lit_14, lit_15, lit_16, lit_17, lit_18, lit_19, lit_20, lit_23, lit_24, lit_31, lit_32, lit_34, lit_36, lit_40, lit_48, lit_49, lit_57, lit_58, lit_59, lit_60, lit_64, lit_96, lit_97, lit_99, lit_101, lit_105, lit_108, lit_110, lit_111, lit_112, lit_114, lit_115, lit_116, lit_122, lit_127, lit_160, lit_216, lit_235, lit_238, lit_343, lit_476, lit_1296, lit_2000, lit_2401, lt_def, bind_s, gd_d, ix_n, inb_n, nI_add, pk_mul, pk_sub, nI_leI, nI_ltI, nI_eq, nI_ltn, nI_eqn, nI_eqn2, if_pos, if_neg, if_true, if_false, nI_addm1]
theorem firstByD_ok (R : RepL μ k A) (O : OkA A) (K : Known μ A) (L : Looked μ A) {r : Nat} (hr : r < 3) : fD_firstBy k (nI r) μ = some (fbV (fbI A r (A 4 0))) := by
  have hn := O.n4
  unfold fD_firstBy
  simp only [lt_def]
  refine ac20 (B := bD_firstBy_6 k (nI r) μ) (A 4 0) (by omega) (fun i => fbV (fbI A r i)) (fun sf i hi => ?_) (fun sf => ?_) <;> unfold bD_firstBy_6
  · have ha := agA_le A i
    have hf := fbI_le A r i
    simp (disch := omega) only [lit_0, lit_1, lit_2, lit_3, lit_4, lit_5, lit_6, lit_7, lit_8, lit_9, lit_10, lit_11, lit_12, lit_13, lit_14, lit_15, lit_16, lit_17, lit_18, lit_19, lit_20, lit_23, lit_24, lit_31, lit_32, lit_34, lit_36, lit_40, lit_48, lit_49, lit_57, lit_58, lit_59, lit_60, lit_64, lit_96, lit_97, lit_99, lit_101, lit_105, lit_108, lit_110, lit_111, lit_112, lit_114, lit_115, lit_116, lit_122, lit_127, lit_160, lit_216, lit_235, lit_238, lit_343, lit_476, lit_1296, lit_2000, lit_2401, lt_def, bind_s, gd_d, ix_n, inb_n, nI_add, pk_mul, pk_sub, nI_leI, nI_ltI, nI_eq, nI_ltn, nI_eqn, nI_eqn2, if_pos, if_neg, if_true, if_false, nI_addm1, R.n, againstD_ok R O K L hi, fbI_s]
    by_cases a : agA A i = 0
    · by_cases z : fbI A r i = 0
      · have ng : -nI 4 < nI 0 := by decide +kernel
        have e1 : fbV (fbI A r i) = -nI 4 := by unfold fbV; rw [if_pos z]; rfl
        have e2 : fbV (i + 1) = nI i := by unfold fbV; rw [if_neg (by omega), Nat.add_sub_cancel]
        rw [e1, if_pos (show agA A i = 0 ∧ (fbI A r i = 0 ∨ ahA A r i (fbI A r i - 1) = true) from ⟨a, Or.inl z⟩), e2]
        simp (disch := omega) only [lit_0, lit_1, lit_2, lit_3, lit_4, lit_5, lit_6, lit_7, lit_8, lit_9, lit_10, lit_11, lit_12, lit_13, lit_14, lit_15, lit_16, lit_17, lit_18, lit_19, lit_20, lit_23, lit_24, lit_31, lit_32, lit_34, lit_36, lit_40, lit_48, lit_49, lit_57, lit_58, lit_59, lit_60, lit_64, lit_96, lit_97, lit_99, lit_101, lit_105, lit_108, lit_110, lit_111, lit_112, lit_114, lit_115, lit_116, lit_122, lit_127, lit_160, lit_216, lit_235, lit_238, lit_343, lit_476, lit_1296, lit_2000, lit_2401, lt_def, bind_s, gd_d, ix_n, inb_n, nI_add, pk_mul, pk_sub, nI_leI, nI_ltI, nI_eq, nI_ltn, nI_eqn, nI_eqn2, if_pos, if_neg, if_true, if_false, nI_addm1, if_pos ng]
      · have e1 : fbV (fbI A r i) = nI (fbI A r i - 1) := by unfold fbV; rw [if_neg z]
        have e2 : fbV (i + 1) = nI i := by unfold fbV; rw [if_neg (by omega), Nat.add_sub_cancel]
        rw [e1]
        simp (disch := omega) only [lit_0, lit_1, lit_2, lit_3, lit_4, lit_5, lit_6, lit_7, lit_8, lit_9, lit_10, lit_11, lit_12, lit_13, lit_14, lit_15, lit_16, lit_17, lit_18, lit_19, lit_20, lit_23, lit_24, lit_31, lit_32, lit_34, lit_36, lit_40, lit_48, lit_49, lit_57, lit_58, lit_59, lit_60, lit_64, lit_96, lit_97, lit_99, lit_101, lit_105, lit_108, lit_110, lit_111, lit_112, lit_114, lit_115, lit_116, lit_122, lit_127, lit_160, lit_216, lit_235, lit_238, lit_343, lit_476, lit_1296, lit_2000, lit_2401, lt_def, bind_s, gd_d, ix_n, inb_n, nI_add, pk_mul, pk_sub, nI_leI, nI_ltI, nI_eq, nI_ltn, nI_eqn, nI_eqn2, if_pos, if_neg, if_true, if_false, nI_addm1, isAheadD_ok R O hr hi (show fbI A r i - 1 < A 4 0 by omega) (show fbI A r i - 1 < i by omega)]
        by_cases y : ahA A r i (fbI A r i - 1) = true
        · simp (disch := omega) only [lit_0, lit_1, lit_2, lit_3, lit_4, lit_5, lit_6, lit_7, lit_8, lit_9, lit_10, lit_11, lit_12, lit_13, lit_14, lit_15, lit_16, lit_17, lit_18, lit_19, lit_20, lit_23, lit_24, lit_31, lit_32, lit_34, lit_36, lit_40, lit_48, lit_49, lit_57, lit_58, lit_59, lit_60, lit_64, lit_96, lit_97, lit_99, lit_101, lit_105, lit_108, lit_110, lit_111, lit_112, lit_114, lit_115, lit_116, lit_122, lit_127, lit_160, lit_216, lit_235, lit_238, lit_343, lit_476, lit_1296, lit_2000, lit_2401, lt_def, bind_s, gd_d, ix_n, inb_n, nI_add, pk_mul, pk_sub, nI_leI, nI_ltI, nI_eq, nI_ltn, nI_eqn, nI_eqn2, if_pos, if_neg, if_true, if_false, nI_addm1, if_pos y]
          rw [if_pos (show agA A i = 0 ∧ (fbI A r i = 0 ∨ ahA A r i (fbI A r i - 1) = true) from ⟨a, Or.inr y⟩), e2]
        · simp (disch := omega) only [lit_0, lit_1, lit_2, lit_3, lit_4, lit_5, lit_6, lit_7, lit_8, lit_9, lit_10, lit_11, lit_12, lit_13, lit_14, lit_15, lit_16, lit_17, lit_18, lit_19, lit_20, lit_23, lit_24, lit_31, lit_32, lit_34, lit_36, lit_40, lit_48, lit_49, lit_57, lit_58, lit_59, lit_60, lit_64, lit_96, lit_97, lit_99, lit_101, lit_105, lit_108, lit_110, lit_111, lit_112, lit_114, lit_115, lit_116, lit_122, lit_127, lit_160, lit_216, lit_235, lit_238, lit_343, lit_476, lit_1296, lit_2000, lit_2401, lt_def, bind_s, gd_d, ix_n, inb_n, nI_add, pk_mul, pk_sub, nI_leI, nI_ltI, nI_eq, nI_ltn, nI_eqn, nI_eqn2, if_pos, if_neg, if_true, if_false, nI_addm1, if_neg y]
          rw [if_neg (show ¬ (agA A i = 0 ∧ (fbI A r i = 0 ∨ ahA A r i (fbI A r i - 1) = true)) from fun w => w.2.elim z y), e1]
    · rw [if_neg a, if_neg (show ¬ (agA A i = 0 ∧ (fbI A r i = 0 ∨ ahA A r i (fbI A r i - 1) = true)) from fun w => a w.1)]
  · simp (disch := omega) only [lit_0, lit_1, lit_2, lit_3, lit_4, lit_5, lit_6, lit_7, lit_8, lit_9, lit_10, lit_11, lit_12, lit_13, lit_14, lit_15, lit_16, lit_17, lit_18, lit_19, lit_20, lit_23, lit_24, lit_31, lit_32, lit_34, lit_36, lit_40, lit_48, lit_49, lit_57, lit_58, lit_59, lit_60, lit_64, lit_96, lit_97, lit_99, lit_101, lit_105, lit_108, lit_110, lit_111, lit_112, lit_114, lit_115, lit_116, lit_122, lit_127, lit_160, lit_216, lit_235, lit_238, lit_343, lit_476, lit_1296, lit_2000, lit_2401, lt_def, bind_s, gd_d, ix_n, inb_n, nI_add, pk_mul, pk_sub, nI_leI, nI_ltI, nI_eq, nI_ltn, nI_eqn, nI_eqn2, if_pos, if_neg, if_true, if_false, nI_addm1, R.n]
theorem firstByM_ok (R : RepR (μ (5, 0, 1)) A B) (O : OkA A) (E : Expl μ A d0 nq q) (hd : Rch A d0 (dA A)) {r : Nat} (hr : r < 3) : ∃ μ', fM_firstBy (nI r) μ = some (fbV (fbI A r (A 4 0)), μ') ∧ Off sSp μ μ' := by
  have hn := O.n4
  unfold fM_firstBy
  simp only [lt_def]
  refine up21 (B := bM_firstBy_5 (nI r)) (fun w => ∃ μ', w = some (fbV (fbI A r (A 4 0)), μ') ∧ Off sSp μ μ') (A 4 0) (by omega) (fun i a m => a = fbV (fbI A r i) ∧ Off sSp μ m) ⟨rfl, Off_refl _ _⟩ (fun sf i a m hi hJ => ?_) (fun sf a m hJ => ?_) <;> unfold bM_firstBy_5
  · obtain ⟨rfl, o1⟩ := hJ
    have R1 := RepR_off o1 (fun _ => rfl) R
    have E1 := Expl_off E o1 rfl (fun _ => rfl) (fun _ => rfl)
    obtain ⟨m2, e2, o2⟩ := againstM_ok R1 O E1 hd hi
    have R2 := RepR_off o2 (fun _ => rfl) R1
    have ha := agA_le A i
    have hf := fbI_le A r i
    left
    simp (disch := omega) only [lit_0, lit_1, lit_2, lit_3, lit_4, lit_5, lit_6, lit_7, lit_8, lit_9, lit_10, lit_11, lit_12, lit_13, lit_14, lit_15, lit_16, lit_17, lit_18, lit_19, lit_20, lit_23, lit_24, lit_31, lit_32, lit_34, lit_36, lit_40, lit_48, lit_49, lit_57, lit_58, lit_59, lit_60, lit_64, lit_96, lit_97, lit_99, lit_101, lit_105, lit_108, lit_110, lit_111, lit_112, lit_114, lit_115, lit_116, lit_122, lit_127, lit_160, lit_216, lit_235, lit_238, lit_343, lit_476, lit_1296, lit_2000, lit_2401, lt_def, bind_s, gd_d, ix_n, inb_n, nI_add, pk_mul, pk_sub, nI_leI, nI_ltI, nI_eq, nI_ltn, nI_eqn, nI_eqn2, if_pos, if_neg, if_true, if_false, nI_addm1, R1.n, e2]
    have v2 : fbV (i + 1) = nI i := by unfold fbV; rw [if_neg (by omega), Nat.add_sub_cancel]
    by_cases a : agA A i = 0
    · by_cases z : fbI A r i = 0
      · have e1 : fbV (fbI A r i) = -nI 4 := by unfold fbV; rw [if_pos z]; rfl
        have c : fbI A r (i + 1) = i + 1 := by rw [fbI_s, if_pos ⟨a, Or.inl z⟩]
        rw [e1, if_pos a, if_pos rfl]
        exact ⟨_, m2, ⟨by rw [c, v2], Off_trans o1 o2⟩, rfl⟩
      · have e1 : fbV (fbI A r i) = nI (fbI A r i - 1) := by unfold fbV; rw [if_neg z]
        rw [e1]
        simp (disch := omega) only [lit_0, lit_1, lit_2, lit_3, lit_4, lit_5, lit_6, lit_7, lit_8, lit_9, lit_10, lit_11, lit_12, lit_13, lit_14, lit_15, lit_16, lit_17, lit_18, lit_19, lit_20, lit_23, lit_24, lit_31, lit_32, lit_34, lit_36, lit_40, lit_48, lit_49, lit_57, lit_58, lit_59, lit_60, lit_64, lit_96, lit_97, lit_99, lit_101, lit_105, lit_108, lit_110, lit_111, lit_112, lit_114, lit_115, lit_116, lit_122, lit_127, lit_160, lit_216, lit_235, lit_238, lit_343, lit_476, lit_1296, lit_2000, lit_2401, lt_def, bind_s, gd_d, ix_n, inb_n, nI_add, pk_mul, pk_sub, nI_leI, nI_ltI, nI_eq, nI_ltn, nI_eqn, nI_eqn2, if_pos, if_neg, if_true, if_false, nI_addm1, isAheadM_ok R2 O hr hi (show fbI A r i - 1 < A 4 0 by omega)]
        by_cases y : ahA A r i (fbI A r i - 1) = true
        · have c : fbI A r (i + 1) = i + 1 := by rw [fbI_s, if_pos ⟨a, Or.inr y⟩]
          simp (disch := omega) only [lit_0, lit_1, lit_2, lit_3, lit_4, lit_5, lit_6, lit_7, lit_8, lit_9, lit_10, lit_11, lit_12, lit_13, lit_14, lit_15, lit_16, lit_17, lit_18, lit_19, lit_20, lit_23, lit_24, lit_31, lit_32, lit_34, lit_36, lit_40, lit_48, lit_49, lit_57, lit_58, lit_59, lit_60, lit_64, lit_96, lit_97, lit_99, lit_101, lit_105, lit_108, lit_110, lit_111, lit_112, lit_114, lit_115, lit_116, lit_122, lit_127, lit_160, lit_216, lit_235, lit_238, lit_343, lit_476, lit_1296, lit_2000, lit_2401, lt_def, bind_s, gd_d, ix_n, inb_n, nI_add, pk_mul, pk_sub, nI_leI, nI_ltI, nI_eq, nI_ltn, nI_eqn, nI_eqn2, if_pos, if_neg, if_true, if_false, nI_addm1, if_pos y]
          exact ⟨_, m2, ⟨by rw [c, v2], Off_trans o1 o2⟩, rfl⟩
        · have c : fbI A r (i + 1) = fbI A r i := by rw [fbI_s, if_neg (fun w => w.2.elim z y)]
          simp (disch := omega) only [lit_0, lit_1, lit_2, lit_3, lit_4, lit_5, lit_6, lit_7, lit_8, lit_9, lit_10, lit_11, lit_12, lit_13, lit_14, lit_15, lit_16, lit_17, lit_18, lit_19, lit_20, lit_23, lit_24, lit_31, lit_32, lit_34, lit_36, lit_40, lit_48, lit_49, lit_57, lit_58, lit_59, lit_60, lit_64, lit_96, lit_97, lit_99, lit_101, lit_105, lit_108, lit_110, lit_111, lit_112, lit_114, lit_115, lit_116, lit_122, lit_127, lit_160, lit_216, lit_235, lit_238, lit_343, lit_476, lit_1296, lit_2000, lit_2401, lt_def, bind_s, gd_d, ix_n, inb_n, nI_add, pk_mul, pk_sub, nI_leI, nI_ltI, nI_eq, nI_ltn, nI_eqn, nI_eqn2, if_pos, if_neg, if_true, if_false, nI_addm1, if_neg y]
          exact ⟨_, m2, ⟨by rw [c, e1], Off_trans o1 o2⟩, rfl⟩
    · have c : fbI A r (i + 1) = fbI A r i := by rw [fbI_s, if_neg (fun w => a w.1)]
      rw [if_neg a]
      exact ⟨_, m2, ⟨by rw [c], Off_trans o1 o2⟩, rfl⟩
  · obtain ⟨rfl, o1⟩ := hJ
    have R1 := RepR_off o1 (fun _ => rfl) R
    simp (disch := omega) only [lit_0, lit_1, lit_2, lit_3, lit_4, lit_5, lit_6, lit_7, lit_8, lit_9, lit_10, lit_11, lit_12, lit_13, lit_14, lit_15, lit_16, lit_17, lit_18, lit_19, lit_20, lit_23, lit_24, lit_31, lit_32, lit_34, lit_36, lit_40, lit_48, lit_49, lit_57, lit_58, lit_59, lit_60, lit_64, lit_96, lit_97, lit_99, lit_101, lit_105, lit_108, lit_110, lit_111, lit_112, lit_114, lit_115, lit_116, lit_122, lit_127, lit_160, lit_216, lit_235, lit_238, lit_343, lit_476, lit_1296, lit_2000, lit_2401, lt_def, bind_s, gd_d, ix_n, inb_n, nI_add, pk_mul, pk_sub, nI_leI, nI_ltI, nI_eq, nI_ltn, nI_eqn, nI_eqn2, if_pos, if_neg, if_true, if_false, nI_addm1, R1.n]
    exact ⟨m, rfl, o1⟩
end Send
