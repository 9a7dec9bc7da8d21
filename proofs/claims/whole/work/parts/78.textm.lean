/-! text, by the reference -/
def sUm : Rf → Nat → Bool := fun r i => (r == (5, 0, 1) || (r == (5, 0, 2) || r == (5, 0, 3))) || (sEx r i || (r == (5, 0, 0) && decide (6 ≤ i ∧ i ≤ 12)))
def sVm : Rf → Nat → Bool := fun r i => sUm r i || r == (5, 0, 5)
theorem sUm_st (r : Rf) (i : Nat) (h : sUm r i = false) : sSt r i = false := by
  simp only [sUm, sSt, Bool.or_eq_false_iff] at *; exact h.1.1
theorem sUm_d (r : Rf) (i : Nat) (h : sUm r i = false) : sDr r i = false := by
  simp only [sUm, sDr, Bool.or_eq_false_iff] at *; exact h.1.2.1
theorem sUm_b (r : Rf) (i : Nat) (h : sUm r i = false) : sBf r i = false := by
  simp only [sUm, sBf, Bool.or_eq_false_iff] at *; exact h.1.2.2
theorem sUm_e (r : Rf) (i : Nat) (h : sUm r i = false) : sEx r i = false := by
  simp only [sUm, Bool.or_eq_false_iff] at h; exact h.2.1
theorem sUm_6 (r : Rf) (i : Nat) (h : sUm r i = false) : (r == (5, 0, 0) && decide (6 ≤ i ∧ i ≤ 12)) = false := by
  simp only [sUm, Bool.or_eq_false_iff] at h; exact h.2.2
theorem sUm_r (r : Rf) (i : Nat) (h : sUm r i = false) : sRf r i = false := by
  have := sUm_6 r i h
  simp only [sRf, Bool.and_eq_false_iff, decide_eq_false_iff_not] at *
  rcases this with h | h
  · exact Or.inl h
  · exact Or.inr (by omega)
theorem sUm_t (r : Rf) (i : Nat) (h : sUm r i = false) : sTm r i = false := by
  have a := sUm_d r i h
  have b := sUm_r r i h
  simp only [sDr] at a
  simp only [sTm, a, b, Bool.or_false]
theorem sVm_u (r : Rf) (i : Nat) (h : sVm r i = false) : sUm r i = false := by
  simp only [sVm, Bool.or_eq_false_iff] at h; exact h.1
section TextM
variable {μ m : Mem} {T : Nat → Nat} {n : Nat} {A : Ab} {B : Nat → Nat → Nat}
theorem areAll_ok (R : RepR (m (5, 0, 1)) A B) (O : OkP A) : fM_areAllPlaces m = some (nI (if allP A then 1 else 0)) := by
  have h0 := O.1
  have h4 := O.2.1
  unfold fM_areAllPlaces
  rw [lt_def, lt_def]
  refine up20 (B := bM_areAllPlaces_4 m) (fun w => w = some (nI (if allP A then 1 else 0))) (A 4 0) (by omega) (fun i a => a = nI (if ∀ t, t < i → A 5 t < A 0 0 ∧ A 6 t < A 0 0 then 1 else 0)) ?_ (fun sf i a hi hJ => ?_) (fun sf a hJ => ?_)
  · rw [if_pos (fun t ht => absurd ht (by omega))]; rfl
  · subst hJ
    left
    obtain ⟨b1, b2, -⟩ := O.2.2.2.2.2 i hi
    have o0 : fM_ofTrain (nI i) (nI 0) m = some (nI (A 5 i)) := by rw [oft_ok (by omega) (by omega), R.fr hi]
    have o1 : fM_ofTrain (nI i) (nI 1) m = some (nI (A 6 i)) := by rw [oft_ok (by omega) (by omega), R.to hi]
    unfold bM_areAllPlaces_4
    by_cases g : ∀ t, t < i → A 5 t < A 0 0 ∧ A 6 t < A 0 0
    · rw [if_pos g]
      have gs : (∀ t, t < i + 1 → A 5 t < A 0 0 ∧ A 6 t < A 0 0) ↔ A 5 i < A 0 0 ∧ A 6 i < A 0 0 := by
        refine ⟨fun z => z i (by omega), fun z t ht => ?_⟩
        by_cases e : t = i
        · subst e; exact z
        · exact g t (by omega)
      by_cases c1 : A 5 i < A 0 0
      · by_cases c2 : A 6 i < A 0 0
        · simp (disch := omega) only [lit_0, lit_1, lit_2, lit_3, lit_4, lit_5, lit_6, lit_7, lit_8, lit_9, lit_10, lit_11, lit_12, lit_13, lit_14, lit_15, lit_16, lit_17, lit_18, lit_19, lit_20, lit_23, lit_24, lit_31, lit_32, lit_34, lit_36, lit_40, lit_48, lit_49, lit_57, lit_58, lit_59, lit_60, lit_64, lit_96, lit_97, lit_99, lit_101, lit_105, lit_108, lit_110, lit_111, lit_112, lit_114, lit_115, lit_116, lit_122, lit_127, lit_160, lit_216, lit_235, lit_238, lit_343, lit_476, lit_1296, lit_2000, lit_2401, lt_def, bind_s, gd_d, ix_n, inb_n, nI_add, pk_mul, pk_sub, nI_leI, nI_ltI, nI_eq, nI_ltn, nI_eqn, nI_eqn2, if_pos, if_neg, if_true, if_false, nI_addm1, R.n, R.pl, o0, o1]
          exact ⟨_, by rw [if_pos (gs.mpr ⟨c1, c2⟩)], rfl⟩
        · simp (disch := omega) only [lit_0, lit_1, lit_2, lit_3, lit_4, lit_5, lit_6, lit_7, lit_8, lit_9, lit_10, lit_11, lit_12, lit_13, lit_14, lit_15, lit_16, lit_17, lit_18, lit_19, lit_20, lit_23, lit_24, lit_31, lit_32, lit_34, lit_36, lit_40, lit_48, lit_49, lit_57, lit_58, lit_59, lit_60, lit_64, lit_96, lit_97, lit_99, lit_101, lit_105, lit_108, lit_110, lit_111, lit_112, lit_114, lit_115, lit_116, lit_122, lit_127, lit_160, lit_216, lit_235, lit_238, lit_343, lit_476, lit_1296, lit_2000, lit_2401, lt_def, bind_s, gd_d, ix_n, inb_n, nI_add, pk_mul, pk_sub, nI_leI, nI_ltI, nI_eq, nI_ltn, nI_eqn, nI_eqn2, if_pos, if_neg, if_true, if_false, nI_addm1, R.n, R.pl, o0, o1]
          exact ⟨_, by rw [if_neg (fun z => c2 (gs.mp z).2)], rfl⟩
      · simp (disch := omega) only [lit_0, lit_1, lit_2, lit_3, lit_4, lit_5, lit_6, lit_7, lit_8, lit_9, lit_10, lit_11, lit_12, lit_13, lit_14, lit_15, lit_16, lit_17, lit_18, lit_19, lit_20, lit_23, lit_24, lit_31, lit_32, lit_34, lit_36, lit_40, lit_48, lit_49, lit_57, lit_58, lit_59, lit_60, lit_64, lit_96, lit_97, lit_99, lit_101, lit_105, lit_108, lit_110, lit_111, lit_112, lit_114, lit_115, lit_116, lit_122, lit_127, lit_160, lit_216, lit_235, lit_238, lit_343, lit_476, lit_1296, lit_2000, lit_2401, lt_def, bind_s, gd_d, ix_n, inb_n, nI_add, pk_mul, pk_sub, nI_leI, nI_ltI, nI_eq, nI_ltn, nI_eqn, nI_eqn2, if_pos, if_neg, if_true, if_false, nI_addm1, R.n, R.pl, o0, o1]
        exact ⟨_, by rw [if_neg (fun z => c1 (gs.mp z).1)], rfl⟩
    · rw [if_neg g]
      simp (disch := omega) only [lit_0, lit_1, lit_2, lit_3, lit_4, lit_5, lit_6, lit_7, lit_8, lit_9, lit_10, lit_11, lit_12, lit_13, lit_14, lit_15, lit_16, lit_17, lit_18, lit_19, lit_20, lit_23, lit_24, lit_31, lit_32, lit_34, lit_36, lit_40, lit_48, lit_49, lit_57, lit_58, lit_59, lit_60, lit_64, lit_96, lit_97, lit_99, lit_101, lit_105, lit_108, lit_110, lit_111, lit_112, lit_114, lit_115, lit_116, lit_122, lit_127, lit_160, lit_216, lit_235, lit_238, lit_343, lit_476, lit_1296, lit_2000, lit_2401, lt_def, bind_s, gd_d, ix_n, inb_n, nI_add, pk_mul, pk_sub, nI_leI, nI_ltI, nI_eq, nI_ltn, nI_eqn, nI_eqn2, if_pos, if_neg, if_true, if_false, nI_addm1, R.n]
      exact ⟨_, by rw [if_neg (fun z => g (fun t ht => z t (by omega)))], rfl⟩
  · subst hJ
    unfold bM_areAllPlaces_4
    simp (disch := omega) only [lit_0, lit_1, lit_2, lit_3, lit_4, lit_5, lit_6, lit_7, lit_8, lit_9, lit_10, lit_11, lit_12, lit_13, lit_14, lit_15, lit_16, lit_17, lit_18, lit_19, lit_20, lit_23, lit_24, lit_31, lit_32, lit_34, lit_36, lit_40, lit_48, lit_49, lit_57, lit_58, lit_59, lit_60, lit_64, lit_96, lit_97, lit_99, lit_101, lit_105, lit_108, lit_110, lit_111, lit_112, lit_114, lit_115, lit_116, lit_122, lit_127, lit_160, lit_216, lit_235, lit_238, lit_343, lit_476, lit_1296, lit_2000, lit_2401, lt_def, bind_s, gd_d, ix_n, inb_n, nI_add, pk_mul, pk_sub, nI_leI, nI_ltI, nI_eq, nI_ltn, nI_eqn, nI_eqn2, if_pos, if_neg, if_true, if_false, nI_addm1, R.n, isb_c, gd_tt]
    unfold allP
    simp only [decide_eq_true_eq]
theorem j171_ok {c s : Nat} (x9 x11 : Int32) (hc : c < 2 ^ 31) (h11 : m (5, 0, 0) 11 = nI c) (h12 : c ≠ 0 → m (5, 0, 0) 12 = nI s) : ∃ m', jM_text_171 x9 x11 m = some (if c = 0 then x9 else (-10) - nI s, m') ∧ m' (5, 0, 0) 6 = nI 0 ∧ m' (5, 0, 0) 11 = nI c ∧ (c ≠ 0 → Off (fun r i => r == (5, 0, 0) && i == 6) m m') ∧ (c = 0 → Off (fun r i => (r == (5, 0, 0) && i == 6) || r == (5, 0, 5)) m m' ∧ m' (5, 0, 5) 0 = nI 0 ∧ m' (5, 0, 5) 1 = nI 0) := by
  unfold jM_text_171
  rw [lt_def]
  generalize em : wr m (5, 0, 0) 6 0 = m1
  have o1 : Off (fun r i => r == (5, 0, 0) && i == 6) m m1 := by rw [← em]; exact Off_wr (Off_refl _ _) rfl
  have a6 : m1 (5, 0, 0) 6 = nI 0 := by rw [← em, wr_at]; rfl
  have a11 : m1 (5, 0, 0) 11 = nI c := (o1 _ _ rfl).trans h11
  rw [a11]
  by_cases z : c = 0
  · have c0 : nI c ≤ (0 : Int32) := by rw [z]; decide +kernel
    rw [if_pos c0, gd_t (show inb 0 2 = true by decide +kernel), lt_def, gd_t (show inb 1 2 = true by decide +kernel), lt_def, if_pos z, ix0, ix1]
    have v0 : vp_nar .boolean 0 = nI 0 := nar_b0
    rw [v0]
    refine ⟨_, rfl, ?_, ?_, fun w => absurd z w, fun _ => ⟨?_, ?_, wr_at _ _ _ _⟩⟩
    · rw [wr_off _ _ (by simp), wr_off _ _ (by simp)]; exact a6
    · rw [wr_off _ _ (by simp), wr_off _ _ (by simp)]; exact a11
    · exact Off_wr (Off_wr (Off_mono o1 (fun r i h => by simp only [Bool.or_eq_false_iff] at h; exact h.1)) rfl) rfl
    · rw [wr_off _ _ (by simp), wr_at]
  · rw [if_neg (nI_neg (by omega) hc), if_neg z, (o1 _ _ rfl).trans (h12 z)]
    exact ⟨m1, rfl, a6, a11, fun _ => o1, fun w => absurd w z⟩
/-- behind all: what is found of the line that stands in the row -/
theorem behind_ok (x9 x19 : Int32) (R : RepR (m (5, 0, 1)) A B) (O : OkP A) (h8 : m (5, 0, 0) 8 = nI n) (h11 : m (5, 0, 0) 11 = nI 0) : ∃ m', jM_text_100 x9 x19 m = some (if bhC A = 0 then x9 else (-10) - nI n, m') ∧ m' (5, 0, 0) 6 = nI 0 ∧ m' (5, 0, 0) 11 = nI (bhC A) ∧ (bhC A ≠ 0 → Off sUm m m' ∧ ∀ i, i < 238 → m' (5, 0, 1) i = m (5, 0, 3) i) ∧ (bhC A = 0 → Off sVm m m' ∧ (∀ i, m' (5, 0, 1) i = m (5, 0, 1) i) ∧ m' (5, 0, 5) 0 = nI 0 ∧ m' (5, 0, 5) 1 = nI 0) := by
  have n0 : nI 0 = 0 := rfl
  have n1 : ¬ nI 1 = 0 := by decide +kernel
  have p0 : ¬ (0 : Int32) < nI 0 := by decide +kernel
  have l0 : nI 0 ≤ (0 : Int32) := by decide +kernel
  have fail : ∀ {mm : Mem} {c : Nat}, c ≠ 0 → c ≤ 8 → Off sUm m mm → (∀ i, mm (5, 0, 3) i = m (5, 0, 3) i) → FlM mm c n → bhC A = c → ∃ m', (Option.bind (fM_backBefore mm) (fun m29 => jM_text_171 x9 x19 m29)) = some (if bhC A = 0 then x9 else (-10) - nI n, m') ∧ m' (5, 0, 0) 6 = nI 0 ∧ m' (5, 0, 0) 11 = nI (bhC A) ∧ (bhC A ≠ 0 → Off sUm m m' ∧ ∀ i, i < 238 → m' (5, 0, 1) i = m (5, 0, 3) i) ∧ (bhC A = 0 → Off sVm m m' ∧ (∀ i, m' (5, 0, 1) i = m (5, 0, 1) i) ∧ m' (5, 0, 5) 0 = nI 0 ∧ m' (5, 0, 5) 1 = nI 0) := by
    intro mm c hc c8 om v3 F eb
    obtain ⟨m2, e2, o2, v2⟩ := backBefore_ok mm
    obtain ⟨m3, e3, q6, q11, q1, -⟩ := j171_ok (m := m2) (c := c) (s := n) x9 x19 (by omega) ((o2 _ _ rfl).trans F.1) (fun _ => (o2 _ _ rfl).trans F.2)
    rw [e2, bind_s, eb]
    have o3 := q1 hc
    refine ⟨m3, e3, q6, q11, fun _ => ⟨Off_trans om (Off_trans (Off_mono o2 sUm_st) (Off_mono o3 (fun r i h => ?_))), fun i hi => ?_⟩, fun z => absurd z hc⟩
    · have := sUm_6 r i h
      simp only [Bool.and_eq_false_iff, decide_eq_false_iff_not] at this
      simp only [Bool.and_eq_false_iff, beq_eq_false_iff_ne, ne_eq]
      simp only [beq_eq_false_iff_ne, ne_eq] at this
      rcases this with h | h
      · exact Or.inl h
      · exact Or.inr (by omega)
    · rw [o3 _ _ (by simp), v2 i hi]; exact v3 i
  have lt8 : ∀ c : Nat, c ≠ 0 → c ≤ 8 → (0 : Int32) < nI c := fun c h1 h2 => (nI_ltI (a := 0) (by omega) (by omega)).mpr (by omega)
  have req7 : ∀ mm, fM_requires 1 7 mm = some mm := fun mm => requires_t (c := 7) mm
  have req8 : ∀ mm, fM_requires 1 8 mm = some mm := fun mm => requires_t (c := 8) mm
  have ru : ∀ (r : Rf) (i : Nat), sUm r i = false → (fun (r : Rf) (i : Nat) => r == (5, 0, 0) && decide (11 ≤ i ∧ i ≤ 12)) r i = false := fun r i h => sRf_r r i (sUm_r r i h)
  unfold jM_text_100
  rw [areAll_ok R O, bind_s]
  by_cases a : allP A = true
  · have OA := OkP_ok O (of_decide_eq_true a)
    have rt6 : fM_requires (nI 1) 6 m = some m := requires_t (c := 6) m
    obtain ⟨m1, e1, o1⟩ := isHeldAll_ok R OA
    have R1 := RepR_off o1 (fun _ => rfl) R
    have u1 : Off sUm m m1 := Off_mono o1 (fun r i h => sEx_sSp r i (sUm_e r i h))
    rw [if_pos a, rt6, bind_s, h11, if_neg p0, e1, bind_s]
    by_cases b : heldA A (dA A) = true
    · rw [if_pos b, if_neg n1]
      unfold jM_text_130
      obtain ⟨m2, e2, o2⟩ := isSafeNow_ok R1 OA
      have u2 : Off sUm m m2 := Off_trans u1 (Off_mono o2 sUm_e)
      show ∃ m', Option.bind (fM_requires 1 7 m1) _ = _ ∧ _
      rw [req7, bind_s, (o1 _ _ rfl).trans h11, if_neg p0, e2, bind_s]
      have g11 : m2 (5, 0, 0) 11 = nI 0 := (o2 _ _ rfl).trans ((o1 _ _ rfl).trans h11)
      have g8 : m2 (5, 0, 0) 8 = nI n := (o2 _ _ rfl).trans ((o1 _ _ rfl).trans h8)
      by_cases c : safeB A (dA A) = true
      · have eb : bhC A = 0 := by unfold bhC; rw [if_pos a, if_pos b, if_pos c]
        rw [if_pos c, if_neg n1]
        unfold jM_text_155
        show ∃ m', Option.bind (fM_requires 1 8 m2) _ = _ ∧ _
        rw [req8, bind_s, g11, if_pos l0]
        obtain ⟨m3, e3, q6, q11, -, q0⟩ := j171_ok (m := m2) (c := 0) (s := n) x9 x19 (by omega) g11 (fun w => absurd rfl w)
        obtain ⟨o3, k0, k1⟩ := q0 rfl
        rw [eb]
        refine ⟨m3, e3, q6, q11, fun w => absurd rfl w, fun _ => ⟨Off_trans (Off_mono u2 sVm_u) (Off_mono o3 (fun r i h => ?_)), fun i => ?_, k0, k1⟩⟩
        · have h5 : (r == (5, 0, 5)) = false := by simp only [sVm, Bool.or_eq_false_iff] at h; exact h.2
          have := sUm_6 r i (sVm_u r i h)
          show ((r == (5, 0, 0) && i == 6) || r == (5, 0, 5)) = false
          rw [h5, Bool.or_false]
          simp only [Bool.and_eq_false_iff, decide_eq_false_iff_not] at this
          simp only [Bool.and_eq_false_iff, beq_eq_false_iff_ne, ne_eq]
          simp only [beq_eq_false_iff_ne, ne_eq] at this
          rcases this with h | h
          · exact Or.inl h
          · exact Or.inr (by omega)
        · rw [o3 _ _ (by simp), o2 _ _ rfl, o1 _ _ rfl]
      · have eb : bhC A = 8 := by unfold bhC; rw [if_pos a, if_pos b, if_neg c]
        obtain ⟨m3, f1, o3, k11, k12⟩ := requires_f (c := 8) g11 g8
        have f1' : fM_requires 0 8 m2 = some m3 := f1
        rw [if_neg c, if_pos n0]
        unfold jM_text_155
        show ∃ m', Option.bind (fM_requires 0 8 m2) _ = _ ∧ _
        rw [f1', bind_s, k11, if_neg (nI_neg (c := 8) (by omega) (by omega))]
        exact fail (c := 8) (by omega) (by omega) (Off_trans u2 (Off_mono o3 ru)) (fun i => by rw [o3 _ _ rfl, o2 _ _ rfl, o1 _ _ rfl]) ⟨k11, k12⟩ eb
    · have eb : bhC A = 7 := by unfold bhC; rw [if_pos a, if_neg b]
      obtain ⟨m3, f1, o3, k11, k12⟩ := requires_f (m := m1) (c := 7) ((o1 _ _ rfl).trans h11) ((o1 _ _ rfl).trans h8)
      have f1' : fM_requires 0 7 m1 = some m3 := f1
      rw [if_neg b, if_pos n0]
      unfold jM_text_130
      show ∃ m', Option.bind (fM_requires 0 7 m1) _ = _ ∧ _
      rw [f1', bind_s, k11, if_pos (lt8 7 (by omega) (by omega))]
      unfold jM_text_155
      rw [req8, bind_s, k11, if_neg (nI_neg (c := 7) (by omega) (by omega))]
      exact fail (c := 7) (by omega) (by omega) (Off_trans u1 (Off_mono o3 ru)) (fun i => by rw [o3 _ _ rfl, o1 _ _ rfl]) ⟨k11, k12⟩ eb
  · have eb : bhC A = 6 := by unfold bhC; rw [if_neg a]
    obtain ⟨m3, f1, o3, k11, k12⟩ := requires_f (c := 6) h11 h8
    have f1' : fM_requires (nI 0) 6 m = some m3 := f1
    rw [if_neg a, f1', bind_s, k11, if_pos (lt8 6 (by omega) (by omega))]
    unfold jM_text_130
    rw [req7, bind_s, k11, if_pos (lt8 6 (by omega) (by omega))]
    unfold jM_text_155
    rw [req8, bind_s, k11, if_neg (nI_neg (c := 6) (by omega) (by omega))]
    exact fail (c := 6) (by omega) (by omega) (Off_mono o3 ru) (fun i => by rw [o3 _ _ rfl]) ⟨k11, k12⟩ eb
theorem textM_ok (H : TpM μ T n) : ∃ μ' M, fM_text μ = some (if (txF T n M).1 = 0 then nI M else (-10) - nI (txF T n M).2, μ') ∧ TxM T n M ∧ μ' (5, 0, 0) 6 = nI 0 ∧ μ' (5, 0, 0) 11 = nI (txF T n M).1 ∧ ((txF T n M).1 ≠ 0 → Off sUm μ μ' ∧ ∀ i, i < 238 → μ' (5, 0, 1) i = μ (5, 0, 1) i) ∧ ((txF T n M).1 = 0 → Off sVm μ μ' ∧ (∃ B, RepR (μ' (5, 0, 1)) (stP T n M).1 B) ∧ μ' (5, 0, 5) 0 = nI 0 ∧ μ' (5, 0, 5) 1 = nI 0) := by
  have n0 : nI 0 = 0 := rfl
  unfold fM_text
  rw [lt_def, lt_def, lt_def, lt_def]
  generalize em : wr (wr μ (5, 0, 0) 11 0) (5, 0, 0) 7 0 = m0
  have o0 : Off sTm μ m0 := by rw [← em]; exact Off_wr (Off_wr (Off_refl _ _) rfl) rfl
  have a7 : m0 (5, 0, 0) 7 = nI 0 := by rw [← em, wr_at]; rfl
  have a11 : m0 (5, 0, 0) 11 = nI 0 := by rw [← em, wr_off _ _ (by simp), wr_at]; rfl
  refine up11 (B := bM_text_14 0) (fun w => ∃ μ' M, w = some (if (txF T n M).1 = 0 then nI M else (-10) - nI (txF T n M).2, μ') ∧ TxM T n M ∧ μ' (5, 0, 0) 6 = nI 0 ∧ μ' (5, 0, 0) 11 = nI (txF T n M).1 ∧ ((txF T n M).1 ≠ 0 → Off sUm μ μ' ∧ ∀ i, i < 238 → μ' (5, 0, 1) i = μ (5, 0, 1) i) ∧ ((txF T n M).1 = 0 → Off sVm μ μ' ∧ (∃ B, RepR (μ' (5, 0, 1)) (stP T n M).1 B) ∧ μ' (5, 0, 5) 0 = nI 0 ∧ μ' (5, 0, 5) 1 = nI 0)) 238 (by omega) (fun i m => Off sDr m0 m ∧ ∀ j, j < i → m (5, 0, 2) j = nI 0) ⟨Off_refl _ _, fun j hj => absurd hj (by omega)⟩ (fun sf i m hi hJ => ?_) (fun sf m hJ => ?_) <;> unfold bM_text_14
  · left
    have c : ¬ (238 : Int32) ≤ nI i := fun z => by have := (nI_leI (a := 238) (by omega) (by omega)).mp z; omega
    rw [if_neg c, gd_in (by omega) (by omega), ix_n (by omega), lt_def, nI_s1, lt_def]
    refine ⟨_, ⟨Off_wr hJ.1 rfl, fun j hj => ?_⟩, rfl⟩
    rw [wr_get]
    by_cases e : j = i
    · rw [if_pos ⟨rfl, e⟩]; rfl
    · rw [if_neg (fun z => e z.2)]; exact hJ.2 j (by omega)
  · obtain ⟨o1, z1⟩ := hJ
    rw [if_pos (show (238 : Int32) ≤ nI 238 by decide +kernel)]
    unfold jM_text_34
    have s1 : Off sTm μ m := Off_trans o0 (Off_mono o1 sTm_d)
    have H1 := TpM_tm s1 H
    obtain ⟨m2, e2, o2, R2⟩ := reads_ok H1 (p := 0) (Nat.zero_le _) ((o1 _ _ rfl).trans a7) ((o1 _ _ rfl).trans a11)
    have s2 : Off sTm μ m2 := Off_trans s1 (Off_mono o2 sTm_r)
    have D2 : RepR (m2 (5, 0, 2)) zA (fun _ _ => 0) := by
      refine ⟨(o2 _ _ rfl).trans (z1 0 (by omega)), (o2 _ _ rfl).trans (z1 1 (by omega)), (o2 _ _ rfl).trans (z1 2 (by omega)), (o2 _ _ rfl).trans (z1 3 (by omega)), fun p hp => absurd hp (Nat.not_lt_zero _), fun t ht => absurd ht (Nat.not_lt_zero _), fun i hi => absurd hi (Nat.not_lt_zero _)⟩
    obtain ⟨M, a, m3, e3, s3, tm, ml, g1, g2, g3⟩ := parse_ok H s2 R2 D2 (nI 238)
    have e3' : lz11 (bM_text_38 (nI 238)) FU 0 m2 = jM_text_62 (nI 238) a m3 := e3
    have Om := (stP_okM H tm.1).1
    rw [e2, bind_s, e3']
    unfold jM_text_62
    by_cases z : (txR T n M).1 = 0
    · obtain ⟨ea, h8, h11, B, D3⟩ := g1 z
      have eF : txF T n M = (bhC (stP T n M).1, n) := by unfold txF; rw [if_pos z]
      obtain ⟨m4, e4, o4, v4⟩ := keepBefore_ok m3
      rw [h11, if_pos n0, e4, bind_s, lt_def, ea]
      refine up11 (B := bM_text_75 (nI M)) (fun w => ∃ μ' M, w = some (if (txF T n M).1 = 0 then nI M else (-10) - nI (txF T n M).2, μ') ∧ TxM T n M ∧ μ' (5, 0, 0) 6 = nI 0 ∧ μ' (5, 0, 0) 11 = nI (txF T n M).1 ∧ ((txF T n M).1 ≠ 0 → Off sUm μ μ' ∧ ∀ i, i < 238 → μ' (5, 0, 1) i = μ (5, 0, 1) i) ∧ ((txF T n M).1 = 0 → Off sVm μ μ' ∧ (∃ B, RepR (μ' (5, 0, 1)) (stP T n M).1 B) ∧ μ' (5, 0, 5) 0 = nI 0 ∧ μ' (5, 0, 5) 1 = nI 0)) 238 (by omega) (fun i m => Off sSt m4 m ∧ ∀ j, j < i → m (5, 0, 1) j = m4 (5, 0, 2) j) ⟨Off_refl _ _, fun j hj => absurd hj (by omega)⟩ (fun sf i m hi hJ => ?_) (fun sf m hJ => ?_) <;> unfold bM_text_75
      · left
        have c : ¬ (238 : Int32) ≤ nI i := fun z => by have := (nI_leI (a := 238) (by omega) (by omega)).mp z; omega
        rw [if_neg c, gd_in (by omega) (by omega), gd_in (by omega) (by omega), ix_n (by omega), lt_def, nI_s1, lt_def]
        refine ⟨_, ⟨Off_wr hJ.1 rfl, fun j hj => ?_⟩, rfl⟩
        rw [wr_get]
        by_cases e : j = i
        · rw [if_pos ⟨rfl, e⟩, e]; exact hJ.1 _ _ rfl
        · rw [if_neg (fun z => e z.2)]; exact hJ.2 j (by omega)
      · obtain ⟨o5, v5⟩ := hJ
        rw [if_pos (show (238 : Int32) ≤ nI 238 by decide +kernel)]
        have R5 : RepR (m (5, 0, 1)) (stP T n M).1 B := by
          refine RepR_ext D3 Om.1 Om.2.1 (by have := Om.2.2.2.1; omega) (fun p hp => (Om.2.2.2.2.1 p hp).2.1) (fun i hi => ?_)
          rw [v5 i hi, o4 _ _ rfl]
        obtain ⟨m6, e6, q6, q11, q1, q0⟩ := behind_ok (n := n) (nI M) (nI 238) R5 Om (by rw [o5 _ _ rfl, o4 _ _ rfl]; exact h8) (by rw [o5 _ _ rfl, o4 _ _ rfl]; exact h11)
        have u5 : Off sUm μ m := Off_trans (Off_mono s3 sUm_t) (Off_trans (Off_mono o4 sUm_b) (Off_mono o5 sUm_st))
        refine ⟨m6, M, ?_⟩
        rw [eF]
        refine ⟨e6, tm, q6, q11, fun w => ⟨Off_trans u5 (q1 w).1, fun i hi => ?_⟩, fun w => ?_⟩
        · rw [(q1 w).2 i hi, o5 _ _ rfl, v4 i hi]; exact s3 _ _ rfl
        · obtain ⟨p1, p2, p3, p4⟩ := q0 w
          refine ⟨Off_trans (Off_mono u5 sVm_u) p1, ⟨B, ?_⟩, p3, p4⟩
          have : m6 (5, 0, 1) = m (5, 0, 1) := funext p2
          rw [this]; exact R5
    · have F := g2 z
      have eF : txF T n M = txR T n M := by unfold txF; rw [if_neg z]
      obtain ⟨m4, e4, q6, q11, q1, -⟩ := j171_ok (c := (txR T n M).1) (s := (txR T n M).2) a (nI 238) g3 F.1 (fun _ => F.2)
      have o4 := q1 z
      rw [F.1, if_neg (nI_nz0 (by omega) g3)]
      refine ⟨m4, M, ?_⟩
      rw [eF]
      refine ⟨?_, tm, q6, q11, fun w => ⟨Off_trans (Off_mono s3 sUm_t) (Off_mono o4 (fun r i h => ?_)), fun i hi => ?_⟩, fun w => absurd w z⟩
      · rw [e4, if_neg z, if_neg z]
      · have := sUm_6 r i h
        simp only [Bool.and_eq_false_iff, decide_eq_false_iff_not] at this
        simp only [Bool.and_eq_false_iff, beq_eq_false_iff_ne, ne_eq]
        simp only [beq_eq_false_iff_ne, ne_eq] at this
        rcases this with h | h
        · exact Or.inl h
        · exact Or.inr (by omega)
      · rw [o4 _ _ (by simp)]; exact s3 _ _ rfl
end TextM
