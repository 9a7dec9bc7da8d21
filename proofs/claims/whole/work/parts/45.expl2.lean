section Expl2
variable {μ : Mem} {A : Ab} {B : Nat → Nat → Nat} {d0 : Nat → Nat}
theorem Que_add {m : Mem} {n : Nat} {q : Nat → Nat → Nat} {e : Nat → Nat} (O : OkA A) (D : DOk A d0) (h : Que m A d0 n q) (he : Rch A d0 e) (hz : m (5, 0, 16) (code7 A e) = nI 0) (hs : ∀ j, j < n → sm e (A 4 0) ≤ sm (q j) (A 4 0)) : n < 2401 ∧ Que (wr (wr (wr m (5, 0, 16) (code7 A e) (nI 1)) (5, 0, 15) n (nI (code7 A e))) (5, 0, 0) 17 (nI (n + 1))) A d0 (n + 1) (fun i => if i = n then e else q i) := by
  obtain ⟨h1, h2, h3, h4, h5, h6, h7, h8⟩ := h
  have De := DOk_le D (Rch_le he)
  have hc := code7_lt O De
  have n1 : nI 0 ≠ nI 1 := by decide +kernel
  have hne : ∀ i, i < n → code7 A (q i) ≠ code7 A e := by
    rcases h6 _ hc with w | w
    · exact w.2
    · rw [w.1] at hz; exact absurd hz.symm n1
  have hcnt : cnt (fun c => (wr (wr (wr m (5, 0, 16) (code7 A e) (nI 1)) (5, 0, 15) n (nI (code7 A e))) (5, 0, 0) 17 (nI (n + 1))) (5, 0, 16) c == nI 1) 2401 = n + 1 := by
    rw [cnt_set (p := fun c => m (5, 0, 16) c == nI 1) (c := code7 A e) (by show (m (5, 0, 16) (code7 A e) == nI 1) = false; rw [hz]; exact beq_eq_false_iff_ne.mpr n1) (fun x => by
      rw [wr_off _ _ (by simp), wr_off _ _ (by simp), wr_get]
      by_cases w : x = code7 A e
      · rw [if_pos ⟨rfl, w⟩, decide_eq_true w, Bool.or_true]; rfl
      · rw [if_neg (fun z => w z.2), decide_eq_false w, Bool.or_false]), h7, if_pos hc]
  have hn : n + 1 ≤ 2401 := by
    rw [← hcnt]; exact cnt_le _ _
  have qn : ∀ i, i < n → (if i = n then e else q i) = q i := fun i hi => if_neg (by omega)
  refine ⟨by omega, wr_at _ _ _ _, by omega, ?_, fun i hi => ?_, fun i j hij hj => ?_, fun c hcc => ?_, hcnt, fun i j hij hj => ?_⟩
  · show (if 0 = n then e else q 0) = d0
    rw [if_neg (by omega)]; exact h3
  · show _ = nI (code7 A (if i = n then e else q i)) ∧ Rch A d0 (if i = n then e else q i)
    rw [wr_off _ _ (by simp), wr_get]
    by_cases w : i = n
    · rw [if_pos ⟨rfl, w⟩, if_pos w]; exact ⟨rfl, he⟩
    · rw [if_neg (fun z => w z.2), if_neg w, wr_off _ _ (by simp)]; exact h4 i (by omega)
  · show (if i = n then e else q i) ≠ (if j = n then e else q j)
    rw [if_neg (show i ≠ n by omega)]
    by_cases w : j = n
    · rw [if_pos w]
      intro z
      exact hne i (by omega) (by rw [z])
    · rw [if_neg w]; exact h5 i j hij (by omega)
  · rw [wr_off _ _ (by simp), wr_off _ _ (by simp), wr_get]
    by_cases w : c = code7 A e
    · rw [if_pos ⟨rfl, w⟩]
      exact Or.inr ⟨rfl, n, by omega, by show code7 A (if n = n then e else q n) = c; rw [if_pos rfl, w]⟩
    · rw [if_neg (fun z => w z.2)]
      rcases h6 c hcc with ⟨a, b⟩ | ⟨a, i, b, c2⟩
      · refine Or.inl ⟨a, fun i hi => ?_⟩
        by_cases v : i = n
        · show code7 A (if i = n then e else q i) ≠ c
          rw [if_pos v]; exact fun z => w z.symm
        · show code7 A (if i = n then e else q i) ≠ c
          rw [if_neg v]; exact b i (by omega)
      · exact Or.inr ⟨a, i, by omega, by show code7 A (if i = n then e else q i) = c; rw [qn i b]; exact c2⟩
  · show sm (if j = n then e else q j) (A 4 0) ≤ sm (if i = n then e else q i) (A 4 0)
    by_cases w : j = n
    · rw [if_pos w]
      by_cases v : i = n
      · rw [if_pos v]; exact Nat.le_refl _
      · rw [if_neg v]; exact hs i (by omega)
    · rw [if_neg w, if_neg (show i ≠ n by omega)]; exact h8 i j hij (by omega)
theorem Que_off {S : Rf → Nat → Bool} {m m' : Mem} {n : Nat} {q : Nat → Nat → Nat} (h : Que m A d0 n q) (o : Off S m m') (a : S (5, 0, 0) 17 = false) (b : ∀ i, S (5, 0, 15) i = false) (c : ∀ i, S (5, 0, 16) i = false) : Que m' A d0 n q := by
  unfold Que at *
  have e : m' (5, 0, 16) = m (5, 0, 16) := funext (fun i => o _ _ (c i))
  have e2 : m' (5, 0, 15) = m (5, 0, 15) := funext (fun i => o _ _ (b i))
  rw [e, e2, o _ _ a]
  exact h
theorem sEx_sSp (r : Rf) (i : Nat) (h : sEx r i = false) : sSp r i = false := by
  simp only [sEx, sSp, Bool.or_eq_false_iff] at *
  exact h.1.1.1.1
/-- all MOVES of the first k are in the row -/
def Clo (A : Ab) (k n : Nat) (q : Nat → Nat → Nat) : Prop := ∀ i, i < k → ∀ t, t < A 4 0 → canA A (q i) t = true → ∃ j, j < n ∧ q j = dec (q i) t
theorem Clo_all {n : Nat} {q : Nat → Nat → Nat} (h0 : q 0 = d0) (h1 : 1 ≤ n) (h : Clo A n n q) : ∀ e, Rch A d0 e → ∃ i, i < n ∧ q i = e := by
  rintro e ⟨k, hk⟩
  induction k generalizing e with
  | zero => exact ⟨0, by omega, by rw [h0]; exact hk⟩
  | succ k ih =>
    obtain ⟨f, t, a, b, c, rfl⟩ := RS_last hk
    obtain ⟨i, hi, rfl⟩ := ih f b
    exact h i hi t a c
theorem phase2_ok (R : RepR (μ (5, 0, 1)) A B) (O : OkA A) (D : DOk A d0) {n : Nat} {q : Nat → Nat → Nat} {m : Mem} (o : Off sEx μ m) (hQ : Que m A d0 n q) (hC : Clo A n n q) (x : Int32) : ∃ μ', jM_explore_145 x m = some μ' ∧ Off sEx μ μ' ∧ Expl μ' A d0 n q := by
  have hn := O.n4
  have hle := Que_le hQ
  obtain ⟨q1, q2, q3, q4, q5, q6, q7, q8⟩ := hQ
  have hall := Clo_all q3 q2 hC
  have Dq : ∀ i, i < n → DOk A (q i) := fun i hi => DOk_le D (Rch_le (q4 i hi).2)
  unfold jM_explore_145
  have e0 : nI n - 1 = nI n + (-1) := by
    rw [nI_m1 (by omega), nI_sub1 (by omega)]
  rw [lt_def, q1, e0]
  refine dn11 (B := bM_explore_152) (fun r => ∃ μ', r = some μ' ∧ Off sEx μ μ' ∧ Expl μ' A d0 n q) (fun c m => c ≤ n ∧ Off sEx μ m ∧ m (5, 0, 0) 17 = nI n ∧ (∀ i, i < n → m (5, 0, 15) i = nI (code7 A (q i))) ∧ ∀ i, c ≤ i → i < n → m (5, 0, 17) (code7 A (q i)) = nI (if safeB A (q i) then 1 else 0)) (fun sf c m hJ => ?_) (fun sf m hJ => ?_) FU _ _ (FU_gt (by omega)) ⟨Nat.le_refl _, o, q1, fun i hi => (q4 i hi).1, fun i h1 h2 => by omega⟩
  · obtain ⟨a1, a2, a3, a4, a5⟩ := hJ
    have Dc := Dq c (by omega)
    have hcc := code7_lt O Dc
    left
    obtain ⟨m2, e2, o2, S2⟩ := decode_ok O Dc m
    have e3 : m2 (5, 0, 15) c = nI (code7 A (q c)) := (o2 _ _ rfl).trans (a4 c (by omega))
    unfold bM_explore_152
    simp (disch := omega) only [lit_0, lit_1, lit_2, lit_3, lit_4, lit_5, lit_6, lit_7, lit_8, lit_9, lit_10, lit_11, lit_12, lit_13, lit_14, lit_15, lit_16, lit_17, lit_18, lit_19, lit_20, lit_23, lit_24, lit_31, lit_32, lit_34, lit_36, lit_40, lit_48, lit_49, lit_57, lit_58, lit_59, lit_60, lit_64, lit_96, lit_97, lit_99, lit_101, lit_105, lit_108, lit_110, lit_111, lit_112, lit_114, lit_115, lit_116, lit_122, lit_127, lit_160, lit_216, lit_235, lit_238, lit_343, lit_476, lit_1296, lit_2000, lit_2401, lt_def, bind_s, gd_d, ix_n, inb_n, nI_add, pk_mul, pk_sub, nI_leI, nI_ltI, nI_eq, nI_ltn, nI_eqn, nI_eqn2, if_pos, if_neg, if_true, if_false, nI_addm1, a4 c (by omega), e2, e3]
    refine up21 (B := bM_explore_184 sf (nI c)) (fun r => ∃ m', (c ≤ n ∧ Off sEx μ m' ∧ m' (5, 0, 0) 17 = nI n ∧ (∀ i, i < n → m' (5, 0, 15) i = nI (code7 A (q i))) ∧ ∀ i, c ≤ i → i < n → m' (5, 0, 17) (code7 A (q i)) = nI (if safeB A (q i) then 1 else 0)) ∧ r = sf (nI c + (-nI 1)) m') (A 4 0) (by omega) (fun i a m' => Off sSp m m' ∧ SpOk m' A (q c) ∧ ((a = nI 1 ∧ (code7 A (q c) = 0 ∨ ∃ t, t < i ∧ canA A (q c) t = true ∧ SafeA A (dec (q c) t))) ∨ (a = nI 0 ∧ ¬ (code7 A (q c) = 0 ∨ ∃ t, t < i ∧ canA A (q c) t = true ∧ SafeA A (dec (q c) t))))) ⟨o2, S2, ?_⟩ (fun sf2 i a m' hi hK => ?_) (fun sf2 a m' hK => ?_)
    · by_cases w : code7 A (q c) = 0
      · rw [if_pos w]; exact Or.inl ⟨rfl, Or.inl w⟩
      · rw [if_neg w]
        refine Or.inr ⟨rfl, fun z => ?_⟩
        rcases z with z | ⟨t, z, _⟩
        · exact w z
        · omega
    · obtain ⟨b1, b2, b3⟩ := hK
      have o3 : Off sEx μ m' := Off_trans a2 (Off_mono b1 sEx_sSp)
      have R3 := RepR_off o3 (fun _ => rfl) R
      obtain ⟨m4, e4, o4, S4⟩ := movedBy_ok R3 O Dc b2 hi
      left
      unfold bM_explore_184
      by_cases cn : canA A (q c) i = true
      · obtain ⟨j, hj, hje⟩ := hC c (by omega) i hi cn
        have hjc : c < j := by
          by_cases w : c < j
          · exact w
          · have g1 := q8 j c (by omega) (by omega)
            have g2 := sm_dec (can_pos cn) hi
            rw [hje] at g1
            omega
        have D4 : DOk A (dec (q c) i) := DOk_le Dc (dec_le _ _)
        have hc4 := code7_lt O D4
        have s4 : m4 (5, 0, 17) (code7 A (dec (q c) i)) = nI (if safeB A (dec (q c) i) then 1 else 0) := by
          rw [o4 _ _ rfl, b1 _ _ rfl, ← hje]
          exact a5 j (by omega) hj
        simp (disch := omega) only [lit_0, lit_1, lit_2, lit_3, lit_4, lit_5, lit_6, lit_7, lit_8, lit_9, lit_10, lit_11, lit_12, lit_13, lit_14, lit_15, lit_16, lit_17, lit_18, lit_19, lit_20, lit_23, lit_24, lit_31, lit_32, lit_34, lit_36, lit_40, lit_48, lit_49, lit_57, lit_58, lit_59, lit_60, lit_64, lit_96, lit_97, lit_99, lit_101, lit_105, lit_108, lit_110, lit_111, lit_112, lit_114, lit_115, lit_116, lit_122, lit_127, lit_160, lit_216, lit_235, lit_238, lit_343, lit_476, lit_1296, lit_2000, lit_2401, lt_def, bind_s, gd_d, ix_n, inb_n, nI_add, pk_mul, pk_sub, nI_leI, nI_ltI, nI_eq, nI_ltn, nI_eqn, nI_eqn2, if_pos, if_neg, if_true, if_false, nI_addm1, R3.n, e4, if_pos cn, s4]
        rcases b3 with ⟨rfl, b3⟩ | ⟨rfl, b3⟩
        · simp (disch := omega) only [lit_0, lit_1, lit_2, lit_3, lit_4, lit_5, lit_6, lit_7, lit_8, lit_9, lit_10, lit_11, lit_12, lit_13, lit_14, lit_15, lit_16, lit_17, lit_18, lit_19, lit_20, lit_23, lit_24, lit_31, lit_32, lit_34, lit_36, lit_40, lit_48, lit_49, lit_57, lit_58, lit_59, lit_60, lit_64, lit_96, lit_97, lit_99, lit_101, lit_105, lit_108, lit_110, lit_111, lit_112, lit_114, lit_115, lit_116, lit_122, lit_127, lit_160, lit_216, lit_235, lit_238, lit_343, lit_476, lit_1296, lit_2000, lit_2401, lt_def, bind_s, gd_d, ix_n, inb_n, nI_add, pk_mul, pk_sub, nI_leI, nI_ltI, nI_eq, nI_ltn, nI_eqn, nI_eqn2, if_pos, if_neg, if_true, if_false, nI_addm1]
          refine ⟨_, m4, ⟨Off_trans b1 o4, S4, Or.inl ⟨rfl, ?_⟩⟩, rfl⟩
          rcases b3 with z | ⟨t, z⟩
          · exact Or.inl z
          · exact Or.inr ⟨t, by omega, z.2⟩
        · by_cases sf4 : SafeA A (dec (q c) i)
          · simp (disch := omega) only [lit_0, lit_1, lit_2, lit_3, lit_4, lit_5, lit_6, lit_7, lit_8, lit_9, lit_10, lit_11, lit_12, lit_13, lit_14, lit_15, lit_16, lit_17, lit_18, lit_19, lit_20, lit_23, lit_24, lit_31, lit_32, lit_34, lit_36, lit_40, lit_48, lit_49, lit_57, lit_58, lit_59, lit_60, lit_64, lit_96, lit_97, lit_99, lit_101, lit_105, lit_108, lit_110, lit_111, lit_112, lit_114, lit_115, lit_116, lit_122, lit_127, lit_160, lit_216, lit_235, lit_238, lit_343, lit_476, lit_1296, lit_2000, lit_2401, lt_def, bind_s, gd_d, ix_n, inb_n, nI_add, pk_mul, pk_sub, nI_leI, nI_ltI, nI_eq, nI_ltn, nI_eqn, nI_eqn2, if_pos, if_neg, if_true, if_false, nI_addm1, if_pos (safeB_iff.mpr sf4)]
            exact ⟨_, m4, ⟨Off_trans b1 o4, S4, Or.inl ⟨rfl, Or.inr ⟨i, by omega, cn, sf4⟩⟩⟩, rfl⟩
          · simp (disch := omega) only [lit_0, lit_1, lit_2, lit_3, lit_4, lit_5, lit_6, lit_7, lit_8, lit_9, lit_10, lit_11, lit_12, lit_13, lit_14, lit_15, lit_16, lit_17, lit_18, lit_19, lit_20, lit_23, lit_24, lit_31, lit_32, lit_34, lit_36, lit_40, lit_48, lit_49, lit_57, lit_58, lit_59, lit_60, lit_64, lit_96, lit_97, lit_99, lit_101, lit_105, lit_108, lit_110, lit_111, lit_112, lit_114, lit_115, lit_116, lit_122, lit_127, lit_160, lit_216, lit_235, lit_238, lit_343, lit_476, lit_1296, lit_2000, lit_2401, lt_def, bind_s, gd_d, ix_n, inb_n, nI_add, pk_mul, pk_sub, nI_leI, nI_ltI, nI_eq, nI_ltn, nI_eqn, nI_eqn2, if_pos, if_neg, if_true, if_false, nI_addm1, if_neg (fun z => sf4 (safeB_iff.mp z))]
            refine ⟨_, m4, ⟨Off_trans b1 o4, S4, Or.inr ⟨rfl, fun z => b3 ?_⟩⟩, rfl⟩
            rcases z with z | ⟨t, z1, z2, z3⟩
            · exact Or.inl z
            · by_cases w : t = i
              · subst w; exact absurd z3 sf4
              · exact Or.inr ⟨t, by omega, z2, z3⟩
      · simp (disch := omega) only [lit_0, lit_1, lit_2, lit_3, lit_4, lit_5, lit_6, lit_7, lit_8, lit_9, lit_10, lit_11, lit_12, lit_13, lit_14, lit_15, lit_16, lit_17, lit_18, lit_19, lit_20, lit_23, lit_24, lit_31, lit_32, lit_34, lit_36, lit_40, lit_48, lit_49, lit_57, lit_58, lit_59, lit_60, lit_64, lit_96, lit_97, lit_99, lit_101, lit_105, lit_108, lit_110, lit_111, lit_112, lit_114, lit_115, lit_116, lit_122, lit_127, lit_160, lit_216, lit_235, lit_238, lit_343, lit_476, lit_1296, lit_2000, lit_2401, lt_def, bind_s, gd_d, ix_n, inb_n, nI_add, pk_mul, pk_sub, nI_leI, nI_ltI, nI_eq, nI_ltn, nI_eqn, nI_eqn2, if_pos, if_neg, if_true, if_false, nI_addm1, R3.n, e4, if_neg cn]
        rcases b3 with ⟨rfl, b3⟩ | ⟨rfl, b3⟩
        · simp (disch := omega) only [lit_0, lit_1, lit_2, lit_3, lit_4, lit_5, lit_6, lit_7, lit_8, lit_9, lit_10, lit_11, lit_12, lit_13, lit_14, lit_15, lit_16, lit_17, lit_18, lit_19, lit_20, lit_23, lit_24, lit_31, lit_32, lit_34, lit_36, lit_40, lit_48, lit_49, lit_57, lit_58, lit_59, lit_60, lit_64, lit_96, lit_97, lit_99, lit_101, lit_105, lit_108, lit_110, lit_111, lit_112, lit_114, lit_115, lit_116, lit_122, lit_127, lit_160, lit_216, lit_235, lit_238, lit_343, lit_476, lit_1296, lit_2000, lit_2401, lt_def, bind_s, gd_d, ix_n, inb_n, nI_add, pk_mul, pk_sub, nI_leI, nI_ltI, nI_eq, nI_ltn, nI_eqn, nI_eqn2, if_pos, if_neg, if_true, if_false, nI_addm1]
          refine ⟨_, m4, ⟨Off_trans b1 o4, S4, Or.inl ⟨rfl, ?_⟩⟩, rfl⟩
          rcases b3 with z | ⟨t, z⟩
          · exact Or.inl z
          · exact Or.inr ⟨t, by omega, z.2⟩
        · simp (disch := omega) only [lit_0, lit_1, lit_2, lit_3, lit_4, lit_5, lit_6, lit_7, lit_8, lit_9, lit_10, lit_11, lit_12, lit_13, lit_14, lit_15, lit_16, lit_17, lit_18, lit_19, lit_20, lit_23, lit_24, lit_31, lit_32, lit_34, lit_36, lit_40, lit_48, lit_49, lit_57, lit_58, lit_59, lit_60, lit_64, lit_96, lit_97, lit_99, lit_101, lit_105, lit_108, lit_110, lit_111, lit_112, lit_114, lit_115, lit_116, lit_122, lit_127, lit_160, lit_216, lit_235, lit_238, lit_343, lit_476, lit_1296, lit_2000, lit_2401, lt_def, bind_s, gd_d, ix_n, inb_n, nI_add, pk_mul, pk_sub, nI_leI, nI_ltI, nI_eq, nI_ltn, nI_eqn, nI_eqn2, if_pos, if_neg, if_true, if_false, nI_addm1]
          refine ⟨_, m4, ⟨Off_trans b1 o4, S4, Or.inr ⟨rfl, fun z => b3 ?_⟩⟩, rfl⟩
          rcases z with z | ⟨t, z1, z2, z3⟩
          · exact Or.inl z
          · by_cases w : t = i
            · subst w; exact absurd z2 cn
            · exact Or.inr ⟨t, by omega, z2, z3⟩
    · obtain ⟨b1, b2, b3⟩ := hK
      have o3 : Off sEx μ m' := Off_trans a2 (Off_mono b1 sEx_sSp)
      have R3 := RepR_off o3 (fun _ => rfl) R
      have e5 : m' (5, 0, 15) c = nI (code7 A (q c)) := (b1 _ _ rfl).trans (a4 c (by omega))
      have ha : a = nI (if safeB A (q c) then 1 else 0) := by
        have hr : SafeA A (q c) ↔ (code7 A (q c) = 0 ∨ ∃ t, t < A 4 0 ∧ canA A (q c) t = true ∧ SafeA A (dec (q c) t)) := by
          rw [Safe_rec, code7_0 O Dc]
        rcases b3 with ⟨rfl, b3⟩ | ⟨rfl, b3⟩
        · rw [if_pos (safeB_iff.mpr (hr.mpr b3))]
        · rw [if_neg (fun z => b3 (hr.mp (safeB_iff.mp z)))]
      unfold bM_explore_184
      rw [ha]
      simp (disch := omega) only [lit_0, lit_1, lit_2, lit_3, lit_4, lit_5, lit_6, lit_7, lit_8, lit_9, lit_10, lit_11, lit_12, lit_13, lit_14, lit_15, lit_16, lit_17, lit_18, lit_19, lit_20, lit_23, lit_24, lit_31, lit_32, lit_34, lit_36, lit_40, lit_48, lit_49, lit_57, lit_58, lit_59, lit_60, lit_64, lit_96, lit_97, lit_99, lit_101, lit_105, lit_108, lit_110, lit_111, lit_112, lit_114, lit_115, lit_116, lit_122, lit_127, lit_160, lit_216, lit_235, lit_238, lit_343, lit_476, lit_1296, lit_2000, lit_2401, lt_def, bind_s, gd_d, ix_n, inb_n, nI_add, pk_mul, pk_sub, nI_leI, nI_ltI, nI_eq, nI_ltn, nI_eqn, nI_eqn2, if_pos, if_neg, if_true, if_false, nI_addm1, R3.n, jM_explore_236, e5, nar_b]
      refine ⟨_, ⟨by omega, Off_wr o3 rfl, ?_, fun i hi => ?_, fun i h1 h2 => ?_⟩, rfl⟩
      · rw [wr_off _ _ (by simp), b1 _ _ rfl]; exact a3
      · rw [wr_off _ _ (by simp), b1 _ _ rfl]; exact a4 i hi
      · rw [wr_get]
        by_cases w : i = c
        · subst w; rw [if_pos ⟨rfl, rfl⟩]
        · rw [if_neg (fun z => ?_), b1 _ _ rfl]
          · exact a5 i (by omega) h2
          · have := code7_inj O (Dq i h2) Dc z.2
            exact q5 c i (by omega) h2 this.symm
  · obtain ⟨a1, a2, a3, a4, a5⟩ := hJ
    unfold bM_explore_152
    rw [if_pos (by decide +kernel)]
    refine ⟨m, rfl, a2, a3, hle, fun i hi => ⟨a4 i hi, (q4 i hi).2⟩, q5, hall, fun e he => ?_⟩
    obtain ⟨i, hi, rfl⟩ := hall e he
    exact a5 i (by omega) hi
end Expl2
