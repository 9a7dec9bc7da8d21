/-! the text: tokens -/
def kd (c : Nat) : Nat := if 97 ≤ c ∧ c ≤ 122 then 1 else if 48 ≤ c ∧ c ≤ 57 then 2 else if c = 59 then 3 else 4
def tS (T : Nat → Nat) (n p : Nat) : Nat := fst (fun i => decide (T i ≠ 32)) (n - p) p
def tK (T : Nat → Nat) (n p : Nat) : Nat := if tS T n p < n then kd (T (tS T n p)) else 0
def tE (T : Nat → Nat) (n p : Nat) : Nat := if tK T n p = 0 then tS T n p else if tK T n p = 1 ∨ tK T n p = 2 then fst (fun i => decide (kd (T i) ≠ tK T n p)) (n - (tS T n p + 1)) (tS T n p + 1) else tS T n p + 1
def tB (T : Nat → Nat) (n p : Nat) : Bool := decide (tK T n p = 4 ∨ (tK T n p = 2 ∧ 2 < tE T n p - tS T n p))
def tV (T : Nat → Nat) (n p : Nat) : Nat := if tE T n p = tS T n p + 1 then T (tS T n p) - 48 else 10 * (T (tS T n p) - 48) + (T (tS T n p + 1) - 48)
theorem kd_r (c : Nat) : 1 ≤ kd c ∧ kd c ≤ 4 := by
  unfold kd
  split
  · omega
  · split
    · omega
    · split <;> omega
theorem kd_1 {c : Nat} : kd c = 1 ↔ 97 ≤ c ∧ c ≤ 122 := by
  unfold kd
  split
  · omega
  · split
    · omega
    · split <;> omega
theorem kd_2 {c : Nat} : kd c = 2 ↔ 48 ≤ c ∧ c ≤ 57 := by
  unfold kd
  split
  · omega
  · split
    · omega
    · split <;> omega
theorem kd_3 {c : Nat} : kd c = 3 ↔ c = 59 := by
  unfold kd
  split
  · omega
  · split
    · omega
    · split <;> omega
section Tok
variable {T : Nat → Nat} {n p : Nat}
theorem tS_b (hp : p ≤ n) : p ≤ tS T n p ∧ tS T n p ≤ n := by
  have a := fst_le (fun i => decide (T i ≠ 32)) (n - p) p
  unfold tS
  have b : ∀ N i, i ≤ fst (fun i => decide (T i ≠ 32)) N i := by
    intro N
    induction N with
    | zero => intro i; exact Nat.le_refl _
    | succ N ih =>
      intro i
      unfold fst
      split
      · exact Nat.le_refl _
      · exact Nat.le_trans (Nat.le_succ i) (ih (i + 1))
  have := b (n - p) p
  omega
theorem tS_32 {i : Nat} (h1 : p ≤ i) (h2 : i < tS T n p) : T i = 32 := by
  have a := (fst_spec (fun i => decide (T i ≠ 32)) (n - p) p).1 i h1 h2
  have := of_decide_eq_false a
  omega
theorem tS_n32 (hp : p ≤ n) (h : tS T n p < n) : T (tS T n p) ≠ 32 := by
  have a := (fst_spec (fun i => decide (T i ≠ 32)) (n - p) p).2 (by unfold tS at h; omega)
  exact of_decide_eq_true a
theorem tK_0 (hp : p ≤ n) : tK T n p = 0 ↔ tS T n p = n := by
  have := (tS_b (T := T) hp).2
  have k := kd_r (T (tS T n p))
  unfold tK
  split <;> omega
theorem tK_p (h : tS T n p < n) : tK T n p = kd (T (tS T n p)) := if_pos h
theorem tK_le : tK T n p ≤ 4 := by
  have k := kd_r (T (tS T n p))
  unfold tK
  split <;> omega
theorem fst_ge (q : Nat → Bool) : ∀ N i, i ≤ fst q N i := by
  intro N
  induction N with
  | zero => intro i; exact Nat.le_refl _
  | succ N ih =>
    intro i
    unfold fst
    split
    · exact Nat.le_refl _
    · exact Nat.le_trans (Nat.le_succ i) (ih (i + 1))
theorem tE_0 (h : tK T n p = 0) : tE T n p = tS T n p := if_pos h
theorem tE_12 (h : tK T n p = 1 ∨ tK T n p = 2) : tE T n p = fst (fun i => decide (kd (T i) ≠ tK T n p)) (n - (tS T n p + 1)) (tS T n p + 1) := by
  unfold tE
  rw [if_neg (by omega), if_pos h]
theorem tE_34 (h : tK T n p = 3 ∨ tK T n p = 4) : tE T n p = tS T n p + 1 := by
  unfold tE
  rw [if_neg (by omega), if_neg (by omega)]
theorem tE_b (hp : p ≤ n) (h : tK T n p ≠ 0) : tS T n p + 1 ≤ tE T n p ∧ tE T n p ≤ n := by
  have hs := tS_b (T := T) hp
  have hk := tK_0 (T := T) hp
  have hl := tK_le (T := T) (n := n) (p := p)
  by_cases c : tK T n p = 1 ∨ tK T n p = 2
  · rw [tE_12 c]
    have a := fst_le (fun i => decide (kd (T i) ≠ tK T n p)) (n - (tS T n p + 1)) (tS T n p + 1)
    have b := fst_ge (fun i => decide (kd (T i) ≠ tK T n p)) (n - (tS T n p + 1)) (tS T n p + 1)
    omega
  · rw [tE_34 (by omega)]; omega
theorem tE_le (hp : p ≤ n) : p ≤ tE T n p ∧ tE T n p ≤ n := by
  have hs := tS_b (T := T) hp
  by_cases c : tK T n p = 0
  · rw [tE_0 c]; exact hs
  · have := tE_b (T := T) hp c; omega
theorem tE_in (hp : p ≤ n) (c : tK T n p = 1 ∨ tK T n p = 2) {i : Nat} (h1 : tS T n p ≤ i) (h2 : i < tE T n p) : kd (T i) = tK T n p := by
  have hk := tK_0 (T := T) hp
  have hs := tS_b (T := T) hp
  by_cases e : i = tS T n p
  · subst e; rw [tK_p (by omega)]
  · rw [tE_12 c] at h2
    have a := (fst_spec (fun i => decide (kd (T i) ≠ tK T n p)) (n - (tS T n p + 1)) (tS T n p + 1)).1 i (by omega) h2
    have := of_decide_eq_false a
    omega
theorem tE_out (hp : p ≤ n) (c : tK T n p = 1 ∨ tK T n p = 2) (h : tE T n p < n) : kd (T (tE T n p)) ≠ tK T n p := by
  have hk := tK_0 (T := T) hp
  have hs := tS_b (T := T) hp
  have e := tE_12 c
  have a := (fst_spec (fun i => decide (kd (T i) ≠ tK T n p)) (n - (tS T n p + 1)) (tS T n p + 1)).2 (by rw [← e]; omega)
  rw [← e] at a
  exact of_decide_eq_true a
theorem tB_f : tB T n p = false ↔ tK T n p ≠ 4 ∧ (tK T n p = 2 → tE T n p ≤ tS T n p + 2) := by
  unfold tB
  rw [decide_eq_false_iff_not]
  omega
theorem tB_t : tB T n p = true ↔ tK T n p = 4 ∨ (tK T n p = 2 ∧ tS T n p + 2 < tE T n p) := by
  unfold tB
  rw [decide_eq_true_iff]
  omega
end Tok
def TpC (μ : Mem) (T : Nat → Nat) (n : Nat) : Prop := n ≤ 160 ∧ μ (2, 0, 0) 1 = nI n ∧ ∀ i, i < n → μ (2, 0, 1) i = nI (T i) ∧ T i ≤ 127
def sR4 : Rf → Nat → Bool := fun r i => r == (2, 0, 0) && decide (4 ≤ i)
def sRd : Rf → Nat → Bool := fun r i => r == (2, 0, 0) && decide (2 ≤ i)
theorem sRd_4 (r : Rf) (i : Nat) (h : sRd r i = false) : sR4 r i = false := by
  simp only [sRd, sR4, Bool.and_eq_false_iff, decide_eq_false_iff_not] at *
  rcases h with h | h
  · exact Or.inl h
  · exact Or.inr (by omega)
section TokC
variable {μ : Mem} {T : Nat → Nat} {n p : Nat}
theorem TpC_off {S : Rf → Nat → Bool} {μ' : Mem} (o : Off S μ μ') (h1 : S (2, 0, 0) 1 = false) (h2 : ∀ i, S (2, 0, 1) i = false) (H : TpC μ T n) : TpC μ' T n :=
  ⟨H.1, (o _ _ h1).trans H.2.1, fun i hi => ⟨(o _ _ (h2 i)).trans (H.2.2 i hi).1, (H.2.2 i hi).2⟩⟩
theorem kindOf_ok {c : Nat} (hc : c < 2 ^ 31) (m : Mem) : fR_kindOf (nI c) m = some (nI (kd c)) := by
  unfold fR_kindOf jR_kindOf_14 jR_kindOf_28 kd
  simp (disch := omega) only [lit_0, lit_1, lit_2, lit_3, lit_4, lit_5, lit_6, lit_7, lit_8, lit_9, lit_10, lit_11, lit_12, lit_13, lit_14, lit_15, lit_16, lit_17, lit_18, lit_19, lit_20, lit_23, lit_24, lit_31, lit_32, lit_34, lit_36, lit_40, lit_48, lit_49, lit_57, lit_58, lit_59, lit_60, lit_64, lit_96, lit_97, lit_99, lit_101, lit_105, lit_108, lit_110, lit_111, lit_112, lit_114, lit_115, lit_116, lit_122, lit_127, lit_160, lit_216, lit_235, lit_238, lit_343, lit_476, lit_1296, lit_2000, lit_2401, lt_def, bind_s, gd_d, ix_n, inb_n, nI_add, pk_mul, pk_sub, nI_leI, nI_ltI, nI_eq, nI_ltn, nI_eqn, nI_eqn2, if_pos, if_neg, if_true, if_false, nI_addm1]
  by_cases h1 : c < 48
  · simp (disch := omega) only [if_pos, if_neg]
  by_cases h2 : c ≤ 57
  · simp (disch := omega) only [if_pos, if_neg]
  by_cases h3 : c = 59
  · simp (disch := omega) only [if_pos, if_neg]
  by_cases h4 : c < 97
  · simp (disch := omega) only [if_pos, if_neg]
  by_cases h5 : c ≤ 122
  · simp (disch := omega) only [if_pos, if_neg]
  · simp (disch := omega) only [if_pos, if_neg]
theorem fail_ok {c s : Nat} {m : Mem} (h5 : m (2, 0, 0) 5 = nI s) : ∃ m', fR_fail (nI c) m = some (nI 0, m') ∧ Off (fun r i => r == (2, 0, 0) && decide (2 ≤ i ∧ i ≤ 3)) m m' ∧ m' (2, 0, 0) 2 = nI c ∧ m' (2, 0, 0) 3 = nI s := by
  unfold fR_fail
  have e : wr m (2, 0, 0) 2 (nI c) (2, 0, 0) 5 = nI s := (wr_off _ _ (by simp)).trans h5
  simp only [lt_def, e, lit_0]
  refine ⟨_, rfl, Off_wr (Off_wr (Off_refl _ _) rfl) rfl, ?_, wr_at _ _ _ _⟩
  rw [wr_off _ _ (by simp), wr_at]
theorem j159_ok {k s e : Nat} {m : Mem} (hk : k ≤ 4) (hs : s < e) (he : e ≤ 160) (h4 : m (2, 0, 0) 4 = nI e) (h5 : m (2, 0, 0) 5 = nI s) (h6 : m (2, 0, 0) 6 = nI k) : ∃ m', jR_takeToken_159 m = some (nI (if k = 4 ∨ (k = 2 ∧ 2 < e - s) then 0 else 1), m') ∧ Off sRd m m' ∧ m' (2, 0, 0) 4 = nI e ∧ m' (2, 0, 0) 5 = nI s ∧ m' (2, 0, 0) 6 = nI k ∧ (¬ (k = 4 ∨ (k = 2 ∧ 2 < e - s)) → m' (2, 0, 0) 2 = m (2, 0, 0) 2) ∧ ((k = 4 ∨ (k = 2 ∧ 2 < e - s)) → m' (2, 0, 0) 2 = nI 1 ∧ m' (2, 0, 0) 3 = nI s) := by
  unfold jR_takeToken_159 jR_takeToken_198
  by_cases b : k = 4 ∨ (k = 2 ∧ 2 < e - s)
  · obtain ⟨m1, e1, o1, a2, a3⟩ := fail_ok (c := 1) h5
    rw [if_pos b]
    have fin : some (nI 0, m1) = some (nI 0, m1) ∧ True := ⟨rfl, trivial⟩
    have rs : Off sRd m m1 ∧ m1 (2, 0, 0) 4 = nI e ∧ m1 (2, 0, 0) 5 = nI s ∧ m1 (2, 0, 0) 6 = nI k ∧ (¬ (k = 4 ∨ (k = 2 ∧ 2 < e - s)) → m1 (2, 0, 0) 2 = m (2, 0, 0) 2) ∧ ((k = 4 ∨ (k = 2 ∧ 2 < e - s)) → m1 (2, 0, 0) 2 = nI 1 ∧ m1 (2, 0, 0) 3 = nI s) := by
      refine ⟨Off_mono o1 (fun r i h => ?_), (o1 _ _ rfl).trans h4, (o1 _ _ rfl).trans h5, (o1 _ _ rfl).trans h6, fun z => absurd b z, fun _ => ⟨a2, a3⟩⟩
      simp only [sRd, Bool.and_eq_false_iff, decide_eq_false_iff_not] at *
      rcases h with h | h
      · exact Or.inl h
      · exact Or.inr (by omega)
    by_cases c : k = 4
    · simp (disch := omega) only [lit_0, lit_1, lit_2, lit_3, lit_4, lit_5, lit_6, lit_7, lit_8, lit_9, lit_10, lit_11, lit_12, lit_13, lit_14, lit_15, lit_16, lit_17, lit_18, lit_19, lit_20, lit_23, lit_24, lit_31, lit_32, lit_34, lit_36, lit_40, lit_48, lit_49, lit_57, lit_58, lit_59, lit_60, lit_64, lit_96, lit_97, lit_99, lit_101, lit_105, lit_108, lit_110, lit_111, lit_112, lit_114, lit_115, lit_116, lit_122, lit_127, lit_160, lit_216, lit_235, lit_238, lit_343, lit_476, lit_1296, lit_2000, lit_2401, lt_def, bind_s, gd_d, ix_n, inb_n, nI_add, pk_mul, pk_sub, nI_leI, nI_ltI, nI_eq, nI_ltn, nI_eqn, nI_eqn2, if_pos, if_neg, if_true, if_false, nI_addm1, h6, h4, h5, e1]
      exact ⟨m1, rfl, rs⟩
    · have c2 : k = 2 := by omega
      simp (disch := omega) only [lit_0, lit_1, lit_2, lit_3, lit_4, lit_5, lit_6, lit_7, lit_8, lit_9, lit_10, lit_11, lit_12, lit_13, lit_14, lit_15, lit_16, lit_17, lit_18, lit_19, lit_20, lit_23, lit_24, lit_31, lit_32, lit_34, lit_36, lit_40, lit_48, lit_49, lit_57, lit_58, lit_59, lit_60, lit_64, lit_96, lit_97, lit_99, lit_101, lit_105, lit_108, lit_110, lit_111, lit_112, lit_114, lit_115, lit_116, lit_122, lit_127, lit_160, lit_216, lit_235, lit_238, lit_343, lit_476, lit_1296, lit_2000, lit_2401, lt_def, bind_s, gd_d, ix_n, inb_n, nI_add, pk_mul, pk_sub, nI_leI, nI_ltI, nI_eq, nI_ltn, nI_eqn, nI_eqn2, if_pos, if_neg, if_true, if_false, nI_addm1, h6, h4, h5, e1]
      exact ⟨m1, rfl, rs⟩
  · rw [if_neg b]
    refine ⟨m, ?_, Off_refl _ _, h4, h5, h6, fun _ => rfl, fun z => absurd z b⟩
    by_cases c : k = 2
    · have d : e - s ≤ 2 := by omega
      simp (disch := omega) only [lit_0, lit_1, lit_2, lit_3, lit_4, lit_5, lit_6, lit_7, lit_8, lit_9, lit_10, lit_11, lit_12, lit_13, lit_14, lit_15, lit_16, lit_17, lit_18, lit_19, lit_20, lit_23, lit_24, lit_31, lit_32, lit_34, lit_36, lit_40, lit_48, lit_49, lit_57, lit_58, lit_59, lit_60, lit_64, lit_96, lit_97, lit_99, lit_101, lit_105, lit_108, lit_110, lit_111, lit_112, lit_114, lit_115, lit_116, lit_122, lit_127, lit_160, lit_216, lit_235, lit_238, lit_343, lit_476, lit_1296, lit_2000, lit_2401, lt_def, bind_s, gd_d, ix_n, inb_n, nI_add, pk_mul, pk_sub, nI_leI, nI_ltI, nI_eq, nI_ltn, nI_eqn, nI_eqn2, if_pos, if_neg, if_true, if_false, nI_addm1, h6, h4, h5]
    · simp (disch := omega) only [lit_0, lit_1, lit_2, lit_3, lit_4, lit_5, lit_6, lit_7, lit_8, lit_9, lit_10, lit_11, lit_12, lit_13, lit_14, lit_15, lit_16, lit_17, lit_18, lit_19, lit_20, lit_23, lit_24, lit_31, lit_32, lit_34, lit_36, lit_40, lit_48, lit_49, lit_57, lit_58, lit_59, lit_60, lit_64, lit_96, lit_97, lit_99, lit_101, lit_105, lit_108, lit_110, lit_111, lit_112, lit_114, lit_115, lit_116, lit_122, lit_127, lit_160, lit_216, lit_235, lit_238, lit_343, lit_476, lit_1296, lit_2000, lit_2401, lt_def, bind_s, gd_d, ix_n, inb_n, nI_add, pk_mul, pk_sub, nI_leI, nI_ltI, nI_eq, nI_ltn, nI_eqn, nI_eqn2, if_pos, if_neg, if_true, if_false, nI_addm1, h6, h4, h5]
theorem j38_ok (H : TpC μ T n) (hp : p ≤ n) {m : Mem} (o : Off sR4 μ m) (h4 : m (2, 0, 0) 4 = nI (tS T n p)) : ∃ μ', jR_takeToken_38 m = some (nI (if tB T n p then 0 else 1), μ') ∧ Off sRd μ μ' ∧ μ' (2, 0, 0) 4 = nI (tE T n p) ∧ μ' (2, 0, 0) 5 = nI (tS T n p) ∧ μ' (2, 0, 0) 6 = nI (tK T n p) ∧ (tB T n p = false → μ' (2, 0, 0) 2 = μ (2, 0, 0) 2) ∧ (tB T n p = true → μ' (2, 0, 0) 2 = nI 1 ∧ μ' (2, 0, 0) 3 = nI (tS T n p)) := by
  have hs := tS_b (T := T) hp
  have hk0 := tK_0 (T := T) hp
  have h160 := H.1
  have H1 := TpC_off o rfl (fun _ => rfl) H
  unfold jR_takeToken_38
  generalize e1 : wr m (2, 0, 0) 5 (m (2, 0, 0) 4) = m1
  have g1 : ∀ i, i ≠ 5 → m1 (2, 0, 0) i = m (2, 0, 0) i := fun i hi => by rw [← e1, wr_off _ _ (by simp [hi])]
  have o1 : Off sR4 μ m1 := by rw [← e1]; exact Off_wr o rfl
  have H2 := TpC_off o1 rfl (fun _ => rfl) H
  have a4 : m1 (2, 0, 0) 4 = nI (tS T n p) := (g1 4 (by omega)).trans h4
  have a5 : m1 (2, 0, 0) 5 = nI (tS T n p) := by rw [← e1, wr_at]; exact h4
  rw [lt_def]
  by_cases c : tS T n p = n
  · have k0 := hk0.mpr c
    have bf : tB T n p = false := tB_f.mpr (by omega)
    rw [a4, H2.2.1, if_neg (fun z => by have := (nI_ltI (by omega) (by omega)).mp z; omega), lt_def, bf]
    refine ⟨_, rfl, Off_mono (Off_wr o1 rfl) sRd_4, ?_, ?_, ?_, fun _ => ?_, fun z => by cases z⟩
    · rw [wr_off _ _ (by simp), tE_0 k0]; exact a4
    · rw [wr_off _ _ (by simp)]; exact a5
    · rw [wr_at, k0]; rfl
    · rw [wr_off _ _ (by simp)]; exact o1 _ _ rfl
  · have hl : tS T n p < n := by omega
    have kp := tK_p (T := T) hl
    have kr := kd_r (T (tS T n p))
    have t127 := (H2.2.2 _ hl).2
    have ht := (H2.2.2 _ hl).1
    have hE := tE_b (T := T) hp (by omega)
    have ko := kindOf_ok (c := T (tS T n p)) (by omega) m1
    rw [← kp] at ko kr
    rw [a4, H2.2.1, if_pos ((nI_ltI (by omega) (by omega)).mpr hl), gd_in (by omega) (by omega), ix_n (by omega), ht, ko, bind_s, lt_def]
    generalize e2 : wr m1 (2, 0, 0) 6 (nI (tK T n p)) = m2
    have g2 : ∀ i, i ≠ 6 → m2 (2, 0, 0) i = m1 (2, 0, 0) i := fun i hi => by rw [← e2, wr_off _ _ (by simp [hi])]
    have b6 : m2 (2, 0, 0) 6 = nI (tK T n p) := by rw [← e2, wr_at]
    have b4 : m2 (2, 0, 0) 4 = nI (tS T n p) := (g2 4 (by omega)).trans a4
    have o2 : Off sR4 μ m2 := by rw [← e2]; exact Off_wr o1 rfl
    rw [lt_def, b4, nI_s1]
    generalize e3 : wr m2 (2, 0, 0) 4 (nI (tS T n p + 1)) = m3
    have c4 : m3 (2, 0, 0) 4 = nI (tS T n p + 1) := by rw [← e3, wr_at]
    have g3 : ∀ i, i ≠ 4 → m3 (2, 0, 0) i = m2 (2, 0, 0) i := fun i hi => by rw [← e3, wr_off _ _ (by simp [hi])]
    have c6 : m3 (2, 0, 0) 6 = nI (tK T n p) := (g3 6 (by omega)).trans b6
    have c5 : m3 (2, 0, 0) 5 = nI (tS T n p) := (g3 5 (by omega)).trans ((g2 5 (by omega)).trans a5)
    have o3 : Off sR4 μ m3 := by rw [← e3]; exact Off_wr o2 rfl
    have x8 : (if nI (tK T n p) = 1 then (1 : Int32) else if nI (tK T n p) = 2 then 1 else 0) = nI (if tK T n p = 1 ∨ tK T n p = 2 then 1 else 0) := by
      by_cases q1 : tK T n p = 1
      · rw [q1]; rfl
      · by_cases q2 : tK T n p = 2
        · rw [q2]; rfl
        · have w1 : ¬ nI (tK T n p) = 1 := fun z => q1 ((nI_eq (b := 1) (by omega) (by omega)).mp z)
          have w2 : ¬ nI (tK T n p) = 2 := fun z => q2 ((nI_eq (b := 2) (by omega) (by omega)).mp z)
          rw [if_neg w1, if_neg w2, if_neg (by omega)]; rfl
    rw [lt_def, c6, x8, lt_def]
    refine lz01_m (B := bR_takeToken_112 (nI (if tK T n p = 1 ∨ tK T n p = 2 then 1 else 0))) (fun w => ∃ μ', w = some (nI (if tB T n p then 0 else 1), μ') ∧ Off sRd μ μ' ∧ μ' (2, 0, 0) 4 = nI (tE T n p) ∧ μ' (2, 0, 0) 5 = nI (tS T n p) ∧ μ' (2, 0, 0) 6 = nI (tK T n p) ∧ (tB T n p = false → μ' (2, 0, 0) 2 = μ (2, 0, 0) 2) ∧ (tB T n p = true → μ' (2, 0, 0) 2 = nI 1 ∧ μ' (2, 0, 0) 3 = nI (tS T n p))) (fun m => ∃ i, tS T n p + 1 ≤ i ∧ i ≤ tE T n p ∧ m (2, 0, 0) 4 = nI i ∧ m (2, 0, 0) 5 = nI (tS T n p) ∧ m (2, 0, 0) 6 = nI (tK T n p) ∧ Off sR4 μ m) (fun m => 200 - ix (m (2, 0, 0) 4)) ?_ FU _ ⟨tS T n p + 1, Nat.le_refl _, hE.1, c4, c5, c6, o3⟩ (FU_gt (by omega))
    rintro sf m ⟨i, i1, i2, d4, d5, d6, o4⟩
    have H4 := TpC_off o4 rfl (fun _ => rfl) H
    have ex : i = tE T n p → ∃ μ', jR_takeToken_159 m = some (nI (if tB T n p then 0 else 1), μ') ∧ Off sRd μ μ' ∧ μ' (2, 0, 0) 4 = nI (tE T n p) ∧ μ' (2, 0, 0) 5 = nI (tS T n p) ∧ μ' (2, 0, 0) 6 = nI (tK T n p) ∧ (tB T n p = false → μ' (2, 0, 0) 2 = μ (2, 0, 0) 2) ∧ (tB T n p = true → μ' (2, 0, 0) 2 = nI 1 ∧ μ' (2, 0, 0) 3 = nI (tS T n p)) := by
      intro ei
      subst ei
      obtain ⟨m', f1, f2, f3, f4, f5, f6, f7⟩ := j159_ok (m := m) tK_le (by omega) (by omega) d4 d5 d6
      have bb : (if tB T n p = true then 0 else 1) = if tK T n p = 4 ∨ (tK T n p = 2 ∧ 2 < tE T n p - tS T n p) then 0 else 1 := by
        unfold tB
        simp only [decide_eq_true_eq]
      refine ⟨m', by rw [f1, bb], Off_trans (Off_mono o4 sRd_4) f2, f3, f4, f5, fun z => ?_, fun z => ?_⟩
      · rw [f6 (of_decide_eq_false z)]; exact o4 _ _ rfl
      · exact f7 (of_decide_eq_true z)
    unfold bR_takeToken_112
    by_cases k12 : tK T n p = 1 ∨ tK T n p = 2
    · rw [if_pos k12]
      by_cases ei : i = tE T n p
      · right
        by_cases en : n ≤ i
        · simp (disch := omega) only [lit_0, lit_1, lit_2, lit_3, lit_4, lit_5, lit_6, lit_7, lit_8, lit_9, lit_10, lit_11, lit_12, lit_13, lit_14, lit_15, lit_16, lit_17, lit_18, lit_19, lit_20, lit_23, lit_24, lit_31, lit_32, lit_34, lit_36, lit_40, lit_48, lit_49, lit_57, lit_58, lit_59, lit_60, lit_64, lit_96, lit_97, lit_99, lit_101, lit_105, lit_108, lit_110, lit_111, lit_112, lit_114, lit_115, lit_116, lit_122, lit_127, lit_160, lit_216, lit_235, lit_238, lit_343, lit_476, lit_1296, lit_2000, lit_2401, lt_def, bind_s, gd_d, ix_n, inb_n, nI_add, pk_mul, pk_sub, nI_leI, nI_ltI, nI_eq, nI_ltn, nI_eqn, nI_eqn2, if_pos, if_neg, if_true, if_false, nI_addm1, H4.2.1, d4]
          exact ex ei
        · have ti := H4.2.2 i (by omega)
          have kr2 := kd_r (T i)
          have kne := tE_out (T := T) hp k12 (by omega)
          rw [← ei] at kne
          have ko2 := kindOf_ok (c := T i) (by omega) m
          simp (disch := omega) only [lit_0, lit_1, lit_2, lit_3, lit_4, lit_5, lit_6, lit_7, lit_8, lit_9, lit_10, lit_11, lit_12, lit_13, lit_14, lit_15, lit_16, lit_17, lit_18, lit_19, lit_20, lit_23, lit_24, lit_31, lit_32, lit_34, lit_36, lit_40, lit_48, lit_49, lit_57, lit_58, lit_59, lit_60, lit_64, lit_96, lit_97, lit_99, lit_101, lit_105, lit_108, lit_110, lit_111, lit_112, lit_114, lit_115, lit_116, lit_122, lit_127, lit_160, lit_216, lit_235, lit_238, lit_343, lit_476, lit_1296, lit_2000, lit_2401, lt_def, bind_s, gd_d, ix_n, inb_n, nI_add, pk_mul, pk_sub, nI_leI, nI_ltI, nI_eq, nI_ltn, nI_eqn, nI_eqn2, if_pos, if_neg, if_true, if_false, nI_addm1, H4.2.1, d4, ti.1, ko2, d6]
          exact ex ei
      · left
        have ti := H4.2.2 i (by omega)
        have kin := tE_in (T := T) hp k12 (i := i) (by omega) (by omega)
        have ko2 := kindOf_ok (c := T i) (by omega) m
        rw [kin] at ko2
        refine ⟨wr m (2, 0, 0) 4 (nI (i + 1)), ⟨i + 1, by omega, by omega, wr_at _ _ _ _, (wr_off _ _ (by simp)).trans d5, (wr_off _ _ (by simp)).trans d6, Off_wr o4 rfl⟩, ?_, ?_⟩
        · rw [wr_at, d4, ix_n (by omega), ix_n (by omega)]; omega
        · simp (disch := omega) only [lit_0, lit_1, lit_2, lit_3, lit_4, lit_5, lit_6, lit_7, lit_8, lit_9, lit_10, lit_11, lit_12, lit_13, lit_14, lit_15, lit_16, lit_17, lit_18, lit_19, lit_20, lit_23, lit_24, lit_31, lit_32, lit_34, lit_36, lit_40, lit_48, lit_49, lit_57, lit_58, lit_59, lit_60, lit_64, lit_96, lit_97, lit_99, lit_101, lit_105, lit_108, lit_110, lit_111, lit_112, lit_114, lit_115, lit_116, lit_122, lit_127, lit_160, lit_216, lit_235, lit_238, lit_343, lit_476, lit_1296, lit_2000, lit_2401, lt_def, bind_s, gd_d, ix_n, inb_n, nI_add, pk_mul, pk_sub, nI_leI, nI_ltI, nI_eq, nI_ltn, nI_eqn, nI_eqn2, if_pos, if_neg, if_true, if_false, nI_addm1, H4.2.1, d4, ti.1, ko2, d6]
    · right
      rw [if_neg k12]
      have ei : i = tE T n p := by rw [tE_34 (by omega)] at i2 ⊢; omega
      simp (disch := omega) only [lit_0, lit_1, lit_2, lit_3, lit_4, lit_5, lit_6, lit_7, lit_8, lit_9, lit_10, lit_11, lit_12, lit_13, lit_14, lit_15, lit_16, lit_17, lit_18, lit_19, lit_20, lit_23, lit_24, lit_31, lit_32, lit_34, lit_36, lit_40, lit_48, lit_49, lit_57, lit_58, lit_59, lit_60, lit_64, lit_96, lit_97, lit_99, lit_101, lit_105, lit_108, lit_110, lit_111, lit_112, lit_114, lit_115, lit_116, lit_122, lit_127, lit_160, lit_216, lit_235, lit_238, lit_343, lit_476, lit_1296, lit_2000, lit_2401, lt_def, bind_s, gd_d, ix_n, inb_n, nI_add, pk_mul, pk_sub, nI_leI, nI_ltI, nI_eq, nI_ltn, nI_eqn, nI_eqn2, if_pos, if_neg, if_true, if_false, nI_addm1]
      exact ex ei
theorem takeToken_ok (H : TpC μ T n) (hp : p ≤ n) (h4 : μ (2, 0, 0) 4 = nI p) : ∃ μ', fR_takeToken μ = some (nI (if tB T n p then 0 else 1), μ') ∧ Off sRd μ μ' ∧ μ' (2, 0, 0) 4 = nI (tE T n p) ∧ μ' (2, 0, 0) 5 = nI (tS T n p) ∧ μ' (2, 0, 0) 6 = nI (tK T n p) ∧ (tB T n p = false → μ' (2, 0, 0) 2 = μ (2, 0, 0) 2) ∧ (tB T n p = true → μ' (2, 0, 0) 2 = nI 1 ∧ μ' (2, 0, 0) 3 = nI (tS T n p)) := by
  have hs := tS_b (T := T) hp
  have h160 := H.1
  unfold fR_takeToken
  refine lz01_m (B := bR_takeToken_0) (fun w => ∃ μ', w = some (nI (if tB T n p then 0 else 1), μ') ∧ Off sRd μ μ' ∧ μ' (2, 0, 0) 4 = nI (tE T n p) ∧ μ' (2, 0, 0) 5 = nI (tS T n p) ∧ μ' (2, 0, 0) 6 = nI (tK T n p) ∧ (tB T n p = false → μ' (2, 0, 0) 2 = μ (2, 0, 0) 2) ∧ (tB T n p = true → μ' (2, 0, 0) 2 = nI 1 ∧ μ' (2, 0, 0) 3 = nI (tS T n p))) (fun m => ∃ i, p ≤ i ∧ i ≤ tS T n p ∧ m (2, 0, 0) 4 = nI i ∧ Off sR4 μ m) (fun m => 200 - ix (m (2, 0, 0) 4)) ?_ FU _ ⟨p, Nat.le_refl _, hs.1, h4, Off_refl _ _⟩ (FU_gt (by omega))
  rintro sf m ⟨i, i1, i2, d4, o4⟩
  have H4 := TpC_off o4 rfl (fun _ => rfl) H
  unfold bR_takeToken_0
  by_cases ei : i = tS T n p
  · right
    have jj := j38_ok H hp o4 (by rw [← ei]; exact d4)
    by_cases en : n ≤ i
    · simp (disch := omega) only [H4.2.1, d4, nI_leI, if_pos]
      exact jj
    · have ti := H4.2.2 i (by omega)
      have n32 := tS_n32 (T := T) hp (by omega)
      rw [← ei] at n32
      simp (disch := omega) only [lit_32, H4.2.1, d4, nI_leI, if_neg, gd_d, inb_n, ix_n, ti.1, nI_eq]
      exact jj
  · left
    have ti := H4.2.2 i (by omega)
    have t32 := tS_32 (T := T) (n := n) i1 (by omega)
    refine ⟨wr m (2, 0, 0) 4 (nI (i + 1)), ⟨i + 1, by omega, by omega, wr_at _ _ _ _, Off_wr o4 rfl⟩, ?_, ?_⟩
    · rw [wr_at, d4, ix_n (by omega), ix_n (by omega)]; omega
    · simp (disch := omega) only [lit_0, lit_1, lit_2, lit_3, lit_4, lit_5, lit_6, lit_7, lit_8, lit_9, lit_10, lit_11, lit_12, lit_13, lit_14, lit_15, lit_16, lit_17, lit_18, lit_19, lit_20, lit_23, lit_24, lit_31, lit_32, lit_34, lit_36, lit_40, lit_48, lit_49, lit_57, lit_58, lit_59, lit_60, lit_64, lit_96, lit_97, lit_99, lit_101, lit_105, lit_108, lit_110, lit_111, lit_112, lit_114, lit_115, lit_116, lit_122, lit_127, lit_160, lit_216, lit_235, lit_238, lit_343, lit_476, lit_1296, lit_2000, lit_2401, lt_def, bind_s, gd_d, ix_n, inb_n, nI_add, pk_mul, pk_sub, nI_leI, nI_ltI, nI_eq, nI_ltn, nI_eqn, nI_eqn2, if_pos, if_neg, if_true, if_false, nI_addm1, H4.2.1, d4, ti.1, t32]
end TokC
