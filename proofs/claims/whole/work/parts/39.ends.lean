def BitsOk (A : Ab) (d : Nat → Nat) (x : Nat) : Prop := x < 32 ∧ (∀ u, u < A 4 0 → (x.testBit u = true ↔ EndA A u d)) ∧ (x.testBit 4 = true ↔ SafeA A d)
def EndAt (μ : Mem) (A : Ab) (d : Nat → Nat) : Prop := ∃ x, μ (1, 0, 2) (code6 d) = nI x ∧ BitsOk A d x
def sOne (c : Nat) : Rf → Nat → Bool := fun r i => r == (1, 0, 5) || (r == (1, 0, 2) && i == c)
def sEn : Rf → Nat → Bool := fun r i => r == (1, 0, 5) || r == (1, 0, 4) || r == (1, 0, 2) || (r == (1, 0, 0) && i == 7)
section Ends
variable {μ : Mem} {k : Nat} {A : Ab} {d : Nat → Nat}
theorem RoomsOk_off {S : Rf → Nat → Bool} {μ' : Mem} (h : Off S μ μ') (hS : ∀ i, S (1, 0, 1) i = false) (g : RoomsOk μ A) : RoomsOk μ' A :=
  fun p hp m hm => (h _ _ (hS _)).trans (g p hp m hm)
theorem code6_0 (O : OkA A) (D : DOk A d) : code6 d = 0 ↔ ∀ t, t < A 4 0 → d t = 0 := by
  have hn := O.n4
  refine ⟨fun h t ht => ?_, fun h => ?_⟩
  · unfold code6 at h
    have : t = 0 ∨ t = 1 ∨ t = 2 ∨ t = 3 := by omega
    rcases this with rfl | rfl | rfl | rfl <;> omega
  · have g : ∀ t, d t = 0 := fun t => by
      by_cases z : t < A 4 0
      · exact h t z
      · exact D.2 t (by omega)
    simp [code6, g]
theorem learnOne_ok (R : RepL μ k A) (O : OkA A) (D : DOk A d) (hL : LeftOk μ d) (hR : RoomsOk μ A) (hE : ∀ t, t < A 4 0 → canA A d t = true → EndAt μ A (dec d t)) : ∃ μ', fP_learnOne k μ = some μ' ∧ Off (sOne (code6 d)) μ μ' ∧ EndAt μ' A d := by
  have hn := O.n4
  have hc := code6_lt O D
  unfold fP_learnOne
  obtain ⟨m, e1, o1, t1⟩ := placeAll_ok R O D hL
  have R1 : RepL m k A := RepL_off o1 (fun _ _ => rfl) R
  have hR1 : RoomsOk m A := RoomsOk_off o1 (fun _ => rfl) hR
  have hL1 : LeftOk m d := fun t ht => (o1 _ _ rfl).trans (hL t ht)
  simp (disch := omega) only [lit_0, lit_1, lit_2, lit_3, lit_4, lit_5, lit_6, lit_7, lit_8, lit_9, lit_10, lit_11, lit_12, lit_13, lit_14, lit_15, lit_16, lit_17, lit_18, lit_19, lit_20, lit_23, lit_24, lit_31, lit_32, lit_34, lit_36, lit_40, lit_48, lit_49, lit_57, lit_58, lit_59, lit_60, lit_64, lit_96, lit_97, lit_99, lit_101, lit_105, lit_108, lit_110, lit_111, lit_112, lit_114, lit_115, lit_116, lit_122, lit_127, lit_160, lit_216, lit_235, lit_238, lit_343, lit_476, lit_1296, lit_2000, lit_2401, lt_def, bind_s, gd_d, ix_n, inb_n, nI_add, pk_mul, pk_sub, nI_leI, nI_ltI, nI_eq, nI_ltn, nI_eqn, nI_eqn2, if_pos, if_neg, if_true, if_false, nI_addm1, e1, code_ok hL1]
  refine up20 (B := bP_learnOne_24 k m (nI (code6 d))) (fun r => ∃ μ', r = some μ' ∧ Off (sOne (code6 d)) μ μ' ∧ EndAt μ' A d) (A 4 0) (by omega) (fun i a => ∃ x, a = nI x ∧ x < 32 ∧ (∀ u, u < A 4 0 → (x.testBit u = true ↔ (u < i ∧ d u = 0) ∨ ∃ t, t < i ∧ canA A d t = true ∧ EndA A u (dec d t))) ∧ (x.testBit 4 = true ↔ code6 d = 0 ∨ ∃ t, t < i ∧ canA A d t = true ∧ SafeA A (dec d t))) ?_ (fun sf i a hi hJ => ?_) (fun sf a hJ => ?_)
  · by_cases z : code6 d = 0
    · rw [if_pos z]
      refine ⟨16, rfl, by omega, fun u hu => ?_, ?_⟩
      · have : u = 0 ∨ u = 1 ∨ u = 2 ∨ u = 3 := by omega
        have g : Nat.testBit 16 u = false := by rcases this with rfl | rfl | rfl | rfl <;> rfl
        rw [g]
        simp
      · simp [z]; rfl
    · rw [if_neg z]
      refine ⟨0, rfl, by omega, fun u hu => ?_, ?_⟩
      · simp
      · simp [z]
  · obtain ⟨x, rfl, hx, h1, h2⟩ := hJ
    have hl := hL1 i (by omega)
    have h5 := D.le5 O i
    have hp2 : 2 ^ i < 32 := Nat.lt_of_le_of_lt (pow2_le16 (show i ≤ 4 by omega)) (by omega)
    left
    unfold bP_learnOne_24
    by_cases z : d i = 0
    · simp (disch := omega) only [lit_0, lit_1, lit_2, lit_3, lit_4, lit_5, lit_6, lit_7, lit_8, lit_9, lit_10, lit_11, lit_12, lit_13, lit_14, lit_15, lit_16, lit_17, lit_18, lit_19, lit_20, lit_23, lit_24, lit_31, lit_32, lit_34, lit_36, lit_40, lit_48, lit_49, lit_57, lit_58, lit_59, lit_60, lit_64, lit_96, lit_97, lit_99, lit_101, lit_105, lit_108, lit_110, lit_111, lit_112, lit_114, lit_115, lit_116, lit_122, lit_127, lit_160, lit_216, lit_235, lit_238, lit_343, lit_476, lit_1296, lit_2000, lit_2401, lt_def, bind_s, gd_d, ix_n, inb_n, nI_add, pk_mul, pk_sub, nI_leI, nI_ltI, nI_eq, nI_ltn, nI_eqn, nI_eqn2, if_pos, if_neg, if_true, if_false, nI_addm1, R1.n, hl, nI_shl, nI_or5]
      have nc : ∀ P : Prop, (canA A d i = true ∧ P) ↔ False := fun P => ⟨fun q => by have := can_pos q.1; omega, fun q => q.elim⟩
      refine ⟨_, ⟨_, rfl, or_lt32 hx hp2, fun u hu => ?_, ?_⟩, rfl⟩
      · rw [Nat.testBit_or, Nat.testBit_two_pow, Bool.or_eq_true, h1 u hu, decide_eq_true_eq]
        refine ⟨fun q => ?_, fun q => ?_⟩
        · rcases q with (⟨a, b⟩ | ⟨t, a, b⟩) | q
          · exact Or.inl ⟨by omega, b⟩
          · exact Or.inr ⟨t, by omega, b⟩
          · subst q; exact Or.inl ⟨by omega, z⟩
        · rcases q with ⟨a, b⟩ | ⟨t, a, b⟩
          · by_cases e : i = u
            · exact Or.inr e
            · exact Or.inl (Or.inl ⟨by omega, b⟩)
          · by_cases e : t = i
            · subst e; exact ((nc _).mp b).elim
            · exact Or.inl (Or.inr ⟨t, by omega, b⟩)
      · rw [Nat.testBit_or, Nat.testBit_two_pow_of_ne (by omega), Bool.or_false, h2]
        refine ⟨fun q => ?_, fun q => ?_⟩
        · rcases q with q | ⟨t, a, b⟩
          · exact Or.inl q
          · exact Or.inr ⟨t, by omega, b⟩
        · rcases q with q | ⟨t, a, b⟩
          · exact Or.inl q
          · by_cases e : t = i
            · subst e; exact ((nc _).mp b).elim
            · exact Or.inr ⟨t, by omega, b⟩
    · have hcs := canStep_ok R1 O D hi (Nat.le_refl (d i)) hl t1 hR1
      rw [upx_self] at hcs
      by_cases c : canA A d i = true
      · obtain ⟨y, y1, y2, y3, y4⟩ := hE i hi c
        have hu := code6_dec (d := d) (show i < 4 by omega) (by omega)
        have e2 : m (1, 0, 2) (code6 d - u6 i) = nI y := by
          rw [o1 _ _ rfl, ← y1]; congr 1; omega
        simp (disch := omega) only [lit_0, lit_1, lit_2, lit_3, lit_4, lit_5, lit_6, lit_7, lit_8, lit_9, lit_10, lit_11, lit_12, lit_13, lit_14, lit_15, lit_16, lit_17, lit_18, lit_19, lit_20, lit_23, lit_24, lit_31, lit_32, lit_34, lit_36, lit_40, lit_48, lit_49, lit_57, lit_58, lit_59, lit_60, lit_64, lit_96, lit_97, lit_99, lit_101, lit_105, lit_108, lit_110, lit_111, lit_112, lit_114, lit_115, lit_116, lit_122, lit_127, lit_160, lit_216, lit_235, lit_238, lit_343, lit_476, lit_1296, lit_2000, lit_2401, lt_def, bind_s, gd_d, ix_n, inb_n, nI_add, pk_mul, pk_sub, nI_leI, nI_ltI, nI_eq, nI_ltn, nI_eqn, nI_eqn2, if_pos, if_neg, if_true, if_false, nI_addm1, R1.n, hl, hcs, if_pos c, unitV_n, e2, nI_or5]
        refine ⟨_, ⟨_, rfl, or_lt32 hx y2, fun u hu => ?_, ?_⟩, rfl⟩
        · rw [Nat.testBit_or, Bool.or_eq_true, h1 u hu, y3 u hu]
          refine ⟨fun q => ?_, fun q => ?_⟩
          · rcases q with (⟨a, b⟩ | ⟨t, a, b⟩) | q
            · exact Or.inl ⟨by omega, b⟩
            · exact Or.inr ⟨t, by omega, b⟩
            · exact Or.inr ⟨i, by omega, c, q⟩
          · rcases q with ⟨a, b⟩ | ⟨t, a, b⟩
            · by_cases e : u = i
              · subst e; exact absurd b z
              · exact Or.inl (Or.inl ⟨by omega, b⟩)
            · by_cases e : t = i
              · subst e; exact Or.inr b.2
              · exact Or.inl (Or.inr ⟨t, by omega, b⟩)
        · rw [Nat.testBit_or, Bool.or_eq_true, h2, y4]
          refine ⟨fun q => ?_, fun q => ?_⟩
          · rcases q with (q | ⟨t, a, b⟩) | q
            · exact Or.inl q
            · exact Or.inr ⟨t, by omega, b⟩
            · exact Or.inr ⟨i, by omega, c, q⟩
          · rcases q with q | ⟨t, a, b⟩
            · exact Or.inl (Or.inl q)
            · by_cases e : t = i
              · subst e; exact Or.inr b.2
              · exact Or.inl (Or.inr ⟨t, by omega, b⟩)
      · simp (disch := omega) only [lit_0, lit_1, lit_2, lit_3, lit_4, lit_5, lit_6, lit_7, lit_8, lit_9, lit_10, lit_11, lit_12, lit_13, lit_14, lit_15, lit_16, lit_17, lit_18, lit_19, lit_20, lit_23, lit_24, lit_31, lit_32, lit_34, lit_36, lit_40, lit_48, lit_49, lit_57, lit_58, lit_59, lit_60, lit_64, lit_96, lit_97, lit_99, lit_101, lit_105, lit_108, lit_110, lit_111, lit_112, lit_114, lit_115, lit_116, lit_122, lit_127, lit_160, lit_216, lit_235, lit_238, lit_343, lit_476, lit_1296, lit_2000, lit_2401, lt_def, bind_s, gd_d, ix_n, inb_n, nI_add, pk_mul, pk_sub, nI_leI, nI_ltI, nI_eq, nI_ltn, nI_eqn, nI_eqn2, if_pos, if_neg, if_true, if_false, nI_addm1, R1.n, hl, hcs, if_neg c]
        refine ⟨_, ⟨x, rfl, hx, fun u hu => ?_, ?_⟩, rfl⟩
        · rw [h1 u hu]
          refine ⟨fun q => ?_, fun q => ?_⟩
          · rcases q with ⟨a, b⟩ | ⟨t, a, b⟩
            · exact Or.inl ⟨by omega, b⟩
            · exact Or.inr ⟨t, by omega, b⟩
          · rcases q with ⟨a, b⟩ | ⟨t, a, b⟩
            · by_cases e : u = i
              · subst e; exact absurd b z
              · exact Or.inl ⟨by omega, b⟩
            · by_cases e : t = i
              · subst e; exact absurd b.1 c
              · exact Or.inr ⟨t, by omega, b⟩
        · rw [h2]
          refine ⟨fun q => ?_, fun q => ?_⟩
          · rcases q with q | ⟨t, a, b⟩
            · exact Or.inl q
            · exact Or.inr ⟨t, by omega, b⟩
          · rcases q with q | ⟨t, a, b⟩
            · exact Or.inl q
            · by_cases e : t = i
              · subst e; exact absurd b.1 c
              · exact Or.inr ⟨t, by omega, b⟩
  · obtain ⟨x, rfl, hx, h1, h2⟩ := hJ
    unfold bP_learnOne_24
    simp (disch := omega) only [lit_0, lit_1, lit_2, lit_3, lit_4, lit_5, lit_6, lit_7, lit_8, lit_9, lit_10, lit_11, lit_12, lit_13, lit_14, lit_15, lit_16, lit_17, lit_18, lit_19, lit_20, lit_23, lit_24, lit_31, lit_32, lit_34, lit_36, lit_40, lit_48, lit_49, lit_57, lit_58, lit_59, lit_60, lit_64, lit_96, lit_97, lit_99, lit_101, lit_105, lit_108, lit_110, lit_111, lit_112, lit_114, lit_115, lit_116, lit_122, lit_127, lit_160, lit_216, lit_235, lit_238, lit_343, lit_476, lit_1296, lit_2000, lit_2401, lt_def, bind_s, gd_d, ix_n, inb_n, nI_add, pk_mul, pk_sub, nI_leI, nI_ltI, nI_eq, nI_ltn, nI_eqn, nI_eqn2, if_pos, if_neg, if_true, if_false, nI_addm1, R1.n, jP_learnOne_85]
    refine ⟨_, rfl, ?_, x, wr_at _ _ _ _, hx, fun u hu => ?_, ?_⟩
    · refine Off_wr (Off_mono o1 (fun r i h => ?_)) (by simp [sOne])
      simp only [sOne, Bool.or_eq_false_iff] at h
      exact h.1
    · rw [h1 u hu, End_rec]
      refine ⟨fun q => ?_, fun q => ?_⟩
      · rcases q with ⟨a, b⟩ | q
        · exact Or.inl b
        · exact Or.inr q
      · rcases q with q | q
        · exact Or.inl ⟨hu, q⟩
        · exact Or.inr q
    · rw [h2, Safe_rec, code6_0 O D]
/-- a vector of four -/
def v4 (i j k l : Nat) : Nat → Nat := fun t => if t = 0 then i else if t = 1 then j else if t = 2 then k else if t = 3 then l else 0
def Lex (e : Nat → Nat) (i j k l : Nat) : Prop := e 3 < l ∨ (e 3 = l ∧ (e 2 < k ∨ (e 2 = k ∧ (e 1 < j ∨ (e 1 = j ∧ e 0 < i)))))
def EndsTo (μ : Mem) (A : Ab) (T : Nat → Nat) (i j k l : Nat) : Prop := ∀ e, (∀ t, e t ≤ T t) → Lex e i j k l → EndAt μ A e
theorem le_v4 (O : OkA A) {T e : Nat → Nat} (D : DOk A T) (h : ∀ t, e t ≤ T t) : e = v4 (e 0) (e 1) (e 2) (e 3) := by
  funext t
  unfold v4
  by_cases h0 : t = 0
  · rw [if_pos h0, h0]
  by_cases h1 : t = 1
  · rw [if_neg h0, if_pos h1, h1]
  by_cases h2 : t = 2
  · rw [if_neg h0, if_neg h1, if_pos h2, h2]
  by_cases h3 : t = 3
  · rw [if_neg h0, if_neg h1, if_neg h2, if_pos h3, h3]
  · rw [if_neg h0, if_neg h1, if_neg h2, if_neg h3]
    have := h t
    rw [D.2 t (by have := O.n4; omega)] at this
    omega
theorem learn_step {kk : Nat} (R : RepL μ kk A) (O : OkA A) {T : Nat → Nat} (D : DOk A T) (hR : RoomsOk μ A) {i j k l : Nat} (hi : i ≤ T 0) (hj : j ≤ T 1) (hk : k ≤ T 2) (hl : l ≤ T 3) (hL : LeftOk μ (v4 i j k l)) (hE : EndsTo μ A T i j k l) : ∃ μ', fP_learnOne kk μ = some μ' ∧ Off sEn μ μ' ∧ LeftOk μ' (v4 i j k l) ∧ EndsTo μ' A T (i + 1) j k l := by
  have hT : ∀ t, v4 i j k l t ≤ T t := by
    intro t
    unfold v4
    by_cases h0 : t = 0
    · rw [if_pos h0, h0]; exact hi
    by_cases h1 : t = 1
    · rw [if_neg h0, if_pos h1, h1]; exact hj
    by_cases h2 : t = 2
    · rw [if_neg h0, if_neg h1, if_pos h2, h2]; exact hk
    by_cases h3 : t = 3
    · rw [if_neg h0, if_neg h1, if_neg h2, if_pos h3, h3]; exact hl
    · rw [if_neg h0, if_neg h1, if_neg h2, if_neg h3]; omega
  have D1 : DOk A (v4 i j k l) := DOk_le D hT
  have hn := O.n4
  obtain ⟨μ', e1, o1, x1⟩ := learnOne_ok R O D1 hL hR (fun t ht hc => by
    refine hE _ (fun u => Nat.le_trans (dec_le _ _ _) (hT u)) ?_
    have := can_pos hc
    unfold Lex dec
    have c : t = 0 ∨ t = 1 ∨ t = 2 ∨ t = 3 := by omega
    rcases c with rfl | rfl | rfl | rfl <;> simp [v4] at * <;> omega)
  refine ⟨μ', e1, Off_mono o1 (fun r i h => ?_), fun t ht => ?_, fun e he hx => ?_⟩
  · simp only [sEn, sOne, Bool.or_eq_false_iff, Bool.and_eq_false_iff] at *
    exact ⟨h.1.1.1, Or.inl h.1.2⟩
  · rw [o1 _ _ rfl]; exact hL t ht
  · by_cases c : e = v4 i j k l
    · rw [c]; exact x1
    · have c2 := le_v4 O D he
      have g0 := (DOk_le D he).le5 O 0
      have g1 := (DOk_le D he).le5 O 1
      have g2 := (DOk_le D he).le5 O 2
      have g3 := (DOk_le D he).le5 O 3
      have f0 := D1.le5 O 0
      have f1 := D1.le5 O 1
      have f2 := D1.le5 O 2
      have f3 := D1.le5 O 3
      have ne : ¬ (e 0 = i ∧ e 1 = j ∧ e 2 = k ∧ e 3 = l) := fun q => c (by rw [c2, q.1, q.2.1, q.2.2.1, q.2.2.2])
      have a0 : v4 i j k l 0 = i := rfl
      have a1 : v4 i j k l 1 = j := rfl
      have a2 : v4 i j k l 2 = k := rfl
      have a3 : v4 i j k l 3 = l := rfl
      rw [a0] at f0; rw [a1] at f1; rw [a2] at f2; rw [a3] at f3
      have hx2 : Lex e i j k l := by
        unfold Lex at *; omega
      obtain ⟨x, x2, x3⟩ := hE e he hx2
      refine ⟨x, ?_, x3⟩
      rw [o1, x2]
      have : code6 e ≠ code6 (v4 i j k l) := by
        unfold code6
        rw [a0, a1, a2, a3]
        omega
      simp [sOne, this]
end Ends
