/-! the reference's plan: minute by minute -/
def ckA (A : Ab) (a : Nat) : Ab := fun f => if f = 11 then fun _ => A 11 0 + a else A f
theorem ckA_o (A : Ab) (a : Nat) {f : Nat} (h : f ≠ 11) : ckA A a f = A f := if_neg h
theorem ckA_11 (A : Ab) (a : Nat) : ckA A a 11 = fun _ => A 11 0 + a := rfl
def sBf : Rf → Nat → Bool := fun r _ => r == (5, 0, 3)
section Plan3
variable {μ : Mem} {A : Ab} {B : Nat → Nat → Nat}
theorem ck_st (A : Ab) (a : Nat) : StEq A (ckA A a) := fun f hf => ckA_o A a (by omega)
theorem ck_dA (A : Ab) (a : Nat) : dA (ckA A a) = dA A := by
  funext t
  unfold dA
  rw [ckA_o A a (by omega), ckA_o A a (by omega)]
theorem ck_ag (A : Ab) (a t : Nat) : agA (ckA A a) t = agA A t := by
  have st := ck_st A a
  have s1 : safeB (ckA A a) (dec (dA A) t) = safeB A (dec (dA A) t) := by
    rw [Bool.eq_iff_iff, safeB_iff, safeB_iff, Safe_st st]
  have ru : ∀ s, runA (ckA A a) s = runA A s := fun s => by
    funext u
    unfold runA secA
    rw [ckA_o A a (by omega), ckA_o A a (by omega), ckA_o A a (by omega), ckA_o A a (by omega)]
  have se : secA (ckA A a) t (A 8 t) = secA A t (A 8 t) := by
    unfold secA
    rw [ckA_o A a (by omega), ckA_o A a (by omega)]
  unfold agA
  rw [ck_dA, can_st st, s1, ru, ckA_o A a (by omega), ckA_o A a (by omega), ckA_o A a (by omega), se]
theorem ck_fb (A : Ab) (a r : Nat) : ∀ i, fbI A r i = 0 → fbI (ckA A a) r i = 0 := by
  intro i h
  refine fbI_none _ _ _ (fun t ht => ?_)
  rw [ck_ag]
  exact fbI_some _ _ _ h t ht
theorem ck_let {r : Nat} (a : Nat) (h : fbI A r (A 4 0) = 0) : letA (ckA A a) r = ckA A a := by
  have e : SndM (ckA A a) r 0 := ⟨fun j hj => absurd hj (by omega), by
    rw [ckA_o A a (by omega)]
    exact ck_fb A a r _ h⟩
  have : sM (ckA A a) r = 0 := SndM_un (sM_ok _ _) e
  unfold letA
  rw [this]
  rfl
theorem tick_1 {n : Nat} (O : OkA A) {a : Nat} (h : a + 1 < wtA A (A 4 0)) (hn : n = 1) : tickA (ckA A a) n = ckA A (a + 1) := by
  subst hn
  funext f
  by_cases f11 : f = 11
  · subst f11
    show (fun _ => A 11 0 + a + 1) = fun _ => A 11 0 + (a + 1)
    funext _; omega
  · by_cases f9 : f = 9
    · subst f9
      funext t
      show (if t < ckA A a 4 0 ∧ ckA A a 9 t = 1 ∧ ckA A a 10 t ≤ A 11 0 + a + 1 then (if ckA A a 8 t = 0 then 2 else 0) else ckA A a 9 t) = ckA A (a + 1) 9 t
      rw [ckA_o A a (by omega), ckA_o A a (by omega), ckA_o A a (by omega), ckA_o A a (by omega), ckA_o A (a + 1) (by omega), if_neg]
      rintro ⟨q1, q2, q3⟩
      have := wt_le O (Nat.le_refl _) t q1 q2
      have := (O.tr q1).2.2.2.2.2.2.2.2.2.2.2 q2
      omega
    · show tkA (ckA A a) 1 _ f = _
      rw [tkA_o _ _ _ f9 f11, ckA_o A a f11, ckA_o A _ f11]
theorem tick_w (O : OkA A) {a : Nat} (h : a + 1 = wtA A (A 4 0)) : tickA (ckA A a) 1 = tickA A (wtA A (A 4 0)) := by
  rw [← h]
  funext f
  by_cases f11 : f = 11
  · subst f11
    show (fun _ => A 11 0 + a + 1) = fun _ => A 11 0 + (a + 1)
    funext _; omega
  · by_cases f9 : f = 9
    · subst f9
      funext t
      show (if t < ckA A a 4 0 ∧ ckA A a 9 t = 1 ∧ ckA A a 10 t ≤ A 11 0 + a + 1 then (if ckA A a 8 t = 0 then 2 else 0) else ckA A a 9 t) = (if t < A 4 0 ∧ A 9 t = 1 ∧ A 10 t ≤ A 11 0 + (a + 1) then (if A 8 t = 0 then 2 else 0) else A 9 t)
      rw [ckA_o A a (by omega), ckA_o A a (by omega), ckA_o A a (by omega), ckA_o A a (by omega)]
      rfl
    · show tkA (ckA A a) 1 _ f = tkA A _ _ f
      rw [tkA_o _ _ _ f9 f11, ckA_o A a f11, tkA_o _ _ _ f9 f11]
theorem OkA_ck (O : OkA A) {a : Nat} (h : a = 0 ∨ a < wtA A (A 4 0)) (hc : A 11 0 + a < 2 ^ 20) : OkA (ckA A a) := by
  have e : ∀ t, t < A 4 0 → A 9 t = 1 → A 11 0 + a < A 10 t ∧ A 10 t ≤ A 11 0 + a + 9 := fun t ht h9 => by
    have := wt_le O (Nat.le_refl _) t ht h9
    have := (O.tr ht).2.2.2.2.2.2.2.2.2.2.2 h9
    omega
  have o : ∀ f, f ≠ 11 → ckA A a f = A f := fun f hf => ckA_o A a hf
  have di : ∀ t, distA (ckA A a) t = distA A t := fun t => by unfold distA; rw [o 5 (by omega), o 6 (by omega)]
  obtain ⟨q1, q2, q3, q4, q5, q6, q7⟩ := O
  unfold OkA
  simp only [di, o 0 (by omega), o 1 (by omega), o 2 (by omega), o 3 (by omega), o 4 (by omega), o 5 (by omega), o 6 (by omega), o 7 (by omega), o 8 (by omega), o 9 (by omega), o 10 (by omega), o 12 (by omega), o 13 (by omega), o 14 (by omega), o 15 (by omega), ckA_11]
  refine ⟨q1, q2, hc, q4, q5, fun t ht => ?_, q7⟩
  obtain ⟨a1, a2, a3, a4, a5, a6, a7, a8, a9, a10, a11, a12⟩ := q6 t ht
  exact ⟨a1, a2, a3, a4, a5, a6, a7, a8, a9, a10, a11, fun h9 => e t ht h9⟩
theorem RepR_ck0 {st : Nat → Int32} (R : RepR st A B) : RepR st (ckA A 0) B := by
  have o : ∀ f, f ≠ 11 → ckA A 0 f = A f := fun f hf => ckA_o A 0 hf
  have sp : ∀ t d, spotA (ckA A 0) t d = spotA A t d := fun t d => by unfold spotA; rw [o 5 (by omega), o 6 (by omega)]
  unfold RepR
  simp only [sp, o 0 (by omega), o 1 (by omega), o 2 (by omega), o 3 (by omega), o 4 (by omega), o 5 (by omega), o 6 (by omega), o 7 (by omega), o 8 (by omega), o 9 (by omega), o 10 (by omega), o 12 (by omega), o 13 (by omega), o 14 (by omega), o 15 (by omega), ckA_11]
  exact R
theorem keepBefore_ok (μ : Mem) : ∃ μ', fM_keepBefore μ = some μ' ∧ Off sBf μ μ' ∧ ∀ i, i < 238 → μ' (5, 0, 3) i = μ (5, 0, 1) i := by
  unfold fM_keepBefore
  simp only [lt_def]
  refine up11 (B := bM_keepBefore_2) (fun w => ∃ μ', w = some μ' ∧ Off sBf μ μ' ∧ ∀ i, i < 238 → μ' (5, 0, 3) i = μ (5, 0, 1) i) 238 (by omega) (fun i m => Off sBf μ m ∧ ∀ j, j < i → m (5, 0, 3) j = μ (5, 0, 1) j) ⟨Off_refl _ _, fun j hj => absurd hj (by omega)⟩ (fun sf i m hi hJ => ?_) (fun sf m hJ => ?_) <;> unfold bM_keepBefore_2
  · left
    simp (disch := omega) only [lit_0, lit_1, lit_2, lit_3, lit_4, lit_5, lit_6, lit_7, lit_8, lit_9, lit_10, lit_11, lit_12, lit_13, lit_14, lit_15, lit_16, lit_17, lit_18, lit_19, lit_20, lit_23, lit_24, lit_31, lit_32, lit_34, lit_36, lit_40, lit_48, lit_49, lit_57, lit_58, lit_59, lit_60, lit_64, lit_96, lit_97, lit_99, lit_101, lit_105, lit_108, lit_110, lit_111, lit_112, lit_114, lit_115, lit_116, lit_122, lit_127, lit_160, lit_216, lit_235, lit_238, lit_343, lit_476, lit_1296, lit_2000, lit_2401, lt_def, bind_s, gd_d, ix_n, inb_n, nI_add, pk_mul, pk_sub, nI_leI, nI_ltI, nI_eq, nI_ltn, nI_eqn, nI_eqn2, if_pos, if_neg, if_true, if_false, nI_addm1]
    refine ⟨_, ⟨Off_wr hJ.1 rfl, fun j hj => ?_⟩, rfl⟩
    rw [wr_get]
    by_cases e : j = i
    · subst e; rw [if_pos ⟨rfl, rfl⟩]; exact hJ.1 _ _ rfl
    · rw [if_neg (fun z => e z.2)]; exact hJ.2 j (by omega)
  · simp (disch := omega) only [lit_0, lit_1, lit_2, lit_3, lit_4, lit_5, lit_6, lit_7, lit_8, lit_9, lit_10, lit_11, lit_12, lit_13, lit_14, lit_15, lit_16, lit_17, lit_18, lit_19, lit_20, lit_23, lit_24, lit_31, lit_32, lit_34, lit_36, lit_40, lit_48, lit_49, lit_57, lit_58, lit_59, lit_60, lit_64, lit_96, lit_97, lit_99, lit_101, lit_105, lit_108, lit_110, lit_111, lit_112, lit_114, lit_115, lit_116, lit_122, lit_127, lit_160, lit_216, lit_235, lit_238, lit_343, lit_476, lit_1296, lit_2000, lit_2401, lt_def, bind_s, gd_d, ix_n, inb_n, nI_add, pk_mul, pk_sub, nI_leI, nI_ltI, nI_eq, nI_ltn, nI_eqn, nI_eqn2, if_pos, if_neg, if_true, if_false, nI_addm1]
    exact ⟨m, rfl, hJ.1, hJ.2⟩
theorem backBefore_ok (μ : Mem) : ∃ μ', fM_backBefore μ = some μ' ∧ Off sSt μ μ' ∧ ∀ i, i < 238 → μ' (5, 0, 1) i = μ (5, 0, 3) i := by
  unfold fM_backBefore
  simp only [lt_def]
  refine up11 (B := bM_backBefore_2) (fun w => ∃ μ', w = some μ' ∧ Off sSt μ μ' ∧ ∀ i, i < 238 → μ' (5, 0, 1) i = μ (5, 0, 3) i) 238 (by omega) (fun i m => Off sSt μ m ∧ ∀ j, j < i → m (5, 0, 1) j = μ (5, 0, 3) j) ⟨Off_refl _ _, fun j hj => absurd hj (by omega)⟩ (fun sf i m hi hJ => ?_) (fun sf m hJ => ?_) <;> unfold bM_backBefore_2
  · left
    simp (disch := omega) only [lit_0, lit_1, lit_2, lit_3, lit_4, lit_5, lit_6, lit_7, lit_8, lit_9, lit_10, lit_11, lit_12, lit_13, lit_14, lit_15, lit_16, lit_17, lit_18, lit_19, lit_20, lit_23, lit_24, lit_31, lit_32, lit_34, lit_36, lit_40, lit_48, lit_49, lit_57, lit_58, lit_59, lit_60, lit_64, lit_96, lit_97, lit_99, lit_101, lit_105, lit_108, lit_110, lit_111, lit_112, lit_114, lit_115, lit_116, lit_122, lit_127, lit_160, lit_216, lit_235, lit_238, lit_343, lit_476, lit_1296, lit_2000, lit_2401, lt_def, bind_s, gd_d, ix_n, inb_n, nI_add, pk_mul, pk_sub, nI_leI, nI_ltI, nI_eq, nI_ltn, nI_eqn, nI_eqn2, if_pos, if_neg, if_true, if_false, nI_addm1]
    refine ⟨_, ⟨Off_wr hJ.1 rfl, fun j hj => ?_⟩, rfl⟩
    rw [wr_get]
    by_cases e : j = i
    · subst e; rw [if_pos ⟨rfl, rfl⟩]; exact hJ.1 _ _ rfl
    · rw [if_neg (fun z => e z.2)]; exact hJ.2 j (by omega)
  · simp (disch := omega) only [lit_0, lit_1, lit_2, lit_3, lit_4, lit_5, lit_6, lit_7, lit_8, lit_9, lit_10, lit_11, lit_12, lit_13, lit_14, lit_15, lit_16, lit_17, lit_18, lit_19, lit_20, lit_23, lit_24, lit_31, lit_32, lit_34, lit_36, lit_40, lit_48, lit_49, lit_57, lit_58, lit_59, lit_60, lit_64, lit_96, lit_97, lit_99, lit_101, lit_105, lit_108, lit_110, lit_111, lit_112, lit_114, lit_115, lit_116, lit_122, lit_127, lit_160, lit_216, lit_235, lit_238, lit_343, lit_476, lit_1296, lit_2000, lit_2401, lt_def, bind_s, gd_d, ix_n, inb_n, nI_add, pk_mul, pk_sub, nI_leI, nI_ltI, nI_eq, nI_ltn, nI_eqn, nI_eqn2, if_pos, if_neg, if_true, if_false, nI_addm1]
    exact ⟨m, rfl, hJ.1, hJ.2⟩
theorem RepR_ext {st st' : Nat → Int32} (R : RepR st A B) (h6 : A 0 0 ≤ 6) (h4 : A 4 0 ≤ 4) (h60 : A 12 0 ≤ 60) (h3 : ∀ p, p < A 0 0 → A 1 p ≤ 3) (e : ∀ i, i < 238 → st' i = st i) : RepR st' A B := by
  obtain ⟨r1, r2, r3, r4, r5, r6, r7⟩ := R
  refine ⟨(e _ (by omega)).trans r1, (e _ (by omega)).trans r2, (e _ (by omega)).trans r3, (e _ (by omega)).trans r4, fun p hp => ?_, fun t ht => ?_, fun i hi => ?_⟩
  · obtain ⟨a, b, c, d⟩ := r5 p hp
    have := h3 p hp
    exact ⟨(e _ (by omega)).trans a, (e _ (by omega)).trans b, fun i hi => ⟨(e _ (by omega)).trans (c i hi).1, (c i hi).2⟩, d⟩
  · obtain ⟨a1, a2, a3, a4, a5, a6⟩ := r6 t ht
    exact ⟨(e _ (by omega)).trans a1, (e _ (by omega)).trans a2, (e _ (by omega)).trans a3, (e _ (by omega)).trans a4, (e _ (by omega)).trans a5, (e _ (by omega)).trans a6⟩
  · obtain ⟨a1, a2, a3⟩ := r7 i hi
    exact ⟨(e _ (by omega)).trans a1, (e _ (by omega)).trans a2, (e _ (by omega)).trans a3⟩
theorem RepR_okx {st st' : Nat → Int32} (R : RepR st A B) (O : OkA A) (e : ∀ i, i < 238 → st' i = st i) : RepR st' A B :=
  RepR_ext R O.p6 O.n4 O.e60 (fun p hp => (O.pc hp).2.1) e
end Plan3
