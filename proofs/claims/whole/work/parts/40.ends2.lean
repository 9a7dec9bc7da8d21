/-- what Postures knows of a line -/
def EndsOk (μ : Mem) (A : Ab) : Prop := ∀ e, (∀ t, e t ≤ dA A t) → EndAt μ A e
section Ends2
variable {μ : Mem} {k : Nat} {A : Ab} {d : Nat → Nat}
theorem LeftOk_wr {m : Mem} {d : Nat → Nat} {t x : Nat} (h : LeftOk m d) : LeftOk (wr m (1, 0, 4) t (nI x)) (upx d t x) := by
  intro u hu
  rw [wr_get]
  unfold upx
  by_cases e : u = t
  · rw [if_pos ⟨rfl, e⟩, if_pos e]
  · rw [if_neg (fun z => e z.2), if_neg e]; exact h u hu
theorem EndsTo_off {S : Rf → Nat → Bool} {μ' : Mem} {T : Nat → Nat} {i j k l : Nat} (h : Off S μ μ') (hS : ∀ i, S (1, 0, 2) i = false) (g : EndsTo μ A T i j k l) : EndsTo μ' A T i j k l := by
  intro e he hx
  obtain ⟨x, a, b⟩ := g e he hx
  exact ⟨x, (h _ _ (hS _)).trans a, b⟩
def sL4 : Rf → Nat → Bool := fun r _ => r == (1, 0, 4)
theorem learnEnds_ok (R : RepL μ k A) (O : OkA A) (hR : RoomsOk μ A) : ∃ μ', fP_learnEnds k μ = some μ' ∧ Off sEn μ μ' ∧ μ' (1, 0, 0) 7 = nI 1 ∧ EndsOk μ' A := by
  have D := DOk_dA O
  have b0 := D.le5 O 0
  have b1 := D.le5 O 1
  have b2 := D.le5 O 2
  have b3 := D.le5 O 3
  have g0 := highest_ok R O (t := 0) (by omega)
  have g1 := highest_ok R O (t := 1) (by omega)
  have g2 := highest_ok R O (t := 2) (by omega)
  have g3 := highest_ok R O (t := 3) (by omega)
  unfold fP_learnEnds
  simp (disch := omega) only [lit_0, lit_1, lit_2, lit_3, lit_4, lit_5, lit_6, lit_7, lit_8, lit_9, lit_10, lit_11, lit_12, lit_13, lit_14, lit_15, lit_16, lit_17, lit_18, lit_19, lit_20, lit_23, lit_24, lit_31, lit_32, lit_34, lit_36, lit_40, lit_48, lit_49, lit_57, lit_58, lit_59, lit_60, lit_64, lit_96, lit_97, lit_99, lit_101, lit_105, lit_108, lit_110, lit_111, lit_112, lit_114, lit_115, lit_116, lit_122, lit_127, lit_160, lit_216, lit_235, lit_238, lit_343, lit_476, lit_1296, lit_2000, lit_2401, lt_def, bind_s, gd_d, ix_n, inb_n, nI_add, pk_mul, pk_sub, nI_leI, nI_ltI, nI_eq, nI_ltn, nI_eqn, nI_eqn2, if_pos, if_neg, if_true, if_false, nI_addm1, g0, g1, g2, g3]
  refine up11 (B := bP_learnEnds_29 k (nI (dA A 0)) (nI (dA A 1)) (nI (dA A 2)) (nI (dA A 3))) (fun r => ∃ μ', r = some μ' ∧ Off sEn μ μ' ∧ μ' (1, 0, 0) 7 = nI 1 ∧ EndsOk μ' A) (dA A 3 + 1) (by omega) (fun l m => Off sEn μ m ∧ EndsTo m A (dA A) 0 0 0 l) ⟨Off_refl _ _, fun e _ h => by unfold Lex at h; omega⟩ (fun sf l m hl hJ => ?_) (fun sf m hJ => ?_) <;> unfold bP_learnEnds_29
  · left
    obtain ⟨o1, E1⟩ := hJ
    simp (disch := omega) only [lit_0, lit_1, lit_2, lit_3, lit_4, lit_5, lit_6, lit_7, lit_8, lit_9, lit_10, lit_11, lit_12, lit_13, lit_14, lit_15, lit_16, lit_17, lit_18, lit_19, lit_20, lit_23, lit_24, lit_31, lit_32, lit_34, lit_36, lit_40, lit_48, lit_49, lit_57, lit_58, lit_59, lit_60, lit_64, lit_96, lit_97, lit_99, lit_101, lit_105, lit_108, lit_110, lit_111, lit_112, lit_114, lit_115, lit_116, lit_122, lit_127, lit_160, lit_216, lit_235, lit_238, lit_343, lit_476, lit_1296, lit_2000, lit_2401, lt_def, bind_s, gd_d, ix_n, inb_n, nI_add, pk_mul, pk_sub, nI_leI, nI_ltI, nI_eq, nI_ltn, nI_eqn, nI_eqn2, if_pos, if_neg, if_true, if_false, nI_addm1]
    refine up11 (B := bP_learnEnds_47 k (nI (dA A 0)) (nI (dA A 1)) (nI (dA A 2)) sf (nI l)) (fun r => ∃ m', (Off sEn μ m' ∧ EndsTo m' A (dA A) 0 0 0 (l + 1)) ∧ r = sf (nI (l + 1)) m') (dA A 2 + 1) (by omega) (fun c m' => Off sEn μ m' ∧ EndsTo m' A (dA A) 0 0 c l ∧ m' (1, 0, 4) 3 = nI l) ⟨Off_wr o1 rfl, EndsTo_off (S := sL4) (Off_wr (Off_refl _ _) rfl) (fun _ => rfl) E1, wr_at _ _ _ _⟩ (fun sf2 c m2 hc hK => ?_) (fun sf2 m2 hK => ?_) <;> unfold bP_learnEnds_47
    · left
      obtain ⟨o2, E2, l2⟩ := hK
      simp (disch := omega) only [lit_0, lit_1, lit_2, lit_3, lit_4, lit_5, lit_6, lit_7, lit_8, lit_9, lit_10, lit_11, lit_12, lit_13, lit_14, lit_15, lit_16, lit_17, lit_18, lit_19, lit_20, lit_23, lit_24, lit_31, lit_32, lit_34, lit_36, lit_40, lit_48, lit_49, lit_57, lit_58, lit_59, lit_60, lit_64, lit_96, lit_97, lit_99, lit_101, lit_105, lit_108, lit_110, lit_111, lit_112, lit_114, lit_115, lit_116, lit_122, lit_127, lit_160, lit_216, lit_235, lit_238, lit_343, lit_476, lit_1296, lit_2000, lit_2401, lt_def, bind_s, gd_d, ix_n, inb_n, nI_add, pk_mul, pk_sub, nI_leI, nI_ltI, nI_eq, nI_ltn, nI_eqn, nI_eqn2, if_pos, if_neg, if_true, if_false, nI_addm1]
      refine up11 (B := bP_learnEnds_65 k (nI (dA A 0)) (nI (dA A 1)) sf2 (nI c)) (fun r => ∃ m', (Off sEn μ m' ∧ EndsTo m' A (dA A) 0 0 (c + 1) l ∧ m' (1, 0, 4) 3 = nI l) ∧ r = sf2 (nI (c + 1)) m') (dA A 1 + 1) (by omega) (fun b m' => Off sEn μ m' ∧ EndsTo m' A (dA A) 0 b c l ∧ m' (1, 0, 4) 3 = nI l ∧ m' (1, 0, 4) 2 = nI c) ⟨Off_wr o2 rfl, EndsTo_off (S := sL4) (Off_wr (Off_refl _ _) rfl) (fun _ => rfl) E2, (wr_off _ _ (by simp)).trans l2, wr_at _ _ _ _⟩ (fun sf3 b m3 hb hN => ?_) (fun sf3 m3 hN => ?_) <;> unfold bP_learnEnds_65
      · left
        obtain ⟨o3, E3, l3, k3⟩ := hN
        simp (disch := omega) only [lit_0, lit_1, lit_2, lit_3, lit_4, lit_5, lit_6, lit_7, lit_8, lit_9, lit_10, lit_11, lit_12, lit_13, lit_14, lit_15, lit_16, lit_17, lit_18, lit_19, lit_20, lit_23, lit_24, lit_31, lit_32, lit_34, lit_36, lit_40, lit_48, lit_49, lit_57, lit_58, lit_59, lit_60, lit_64, lit_96, lit_97, lit_99, lit_101, lit_105, lit_108, lit_110, lit_111, lit_112, lit_114, lit_115, lit_116, lit_122, lit_127, lit_160, lit_216, lit_235, lit_238, lit_343, lit_476, lit_1296, lit_2000, lit_2401, lt_def, bind_s, gd_d, ix_n, inb_n, nI_add, pk_mul, pk_sub, nI_leI, nI_ltI, nI_eq, nI_ltn, nI_eqn, nI_eqn2, if_pos, if_neg, if_true, if_false, nI_addm1]
        refine up11 (B := bP_learnEnds_82 k (nI (dA A 0)) sf3 (nI b)) (fun r => ∃ m', (Off sEn μ m' ∧ EndsTo m' A (dA A) 0 (b + 1) c l ∧ m' (1, 0, 4) 3 = nI l ∧ m' (1, 0, 4) 2 = nI c) ∧ r = sf3 (nI (b + 1)) m') (dA A 0 + 1) (by omega) (fun a m' => Off sEn μ m' ∧ EndsTo m' A (dA A) a b c l ∧ m' (1, 0, 4) 3 = nI l ∧ m' (1, 0, 4) 2 = nI c ∧ m' (1, 0, 4) 1 = nI b) ⟨Off_wr o3 rfl, EndsTo_off (S := sL4) (Off_wr (Off_refl _ _) rfl) (fun _ => rfl) E3, (wr_off _ _ (by simp)).trans l3, (wr_off _ _ (by simp)).trans k3, wr_at _ _ _ _⟩ (fun sf4 a m4 ha hM => ?_) (fun sf4 m4 hM => ?_) <;> unfold bP_learnEnds_82
        · left
          obtain ⟨o4, E4, l4, k4, j4⟩ := hM
          have o5 : Off sEn μ (wr m4 (1, 0, 4) 0 (nI a)) := Off_wr o4 rfl
          have R5 := RepL_off o5 (fun _ _ => rfl) R
          have hR5 := RoomsOk_off (A := A) o5 (fun _ => rfl) hR
          obtain ⟨m5, e5, p5, L5, E5⟩ := learn_step R5 O D hR5 (i := a) (j := b) (k := c) (l := l) (by omega) (by omega) (by omega) (by omega) (fun t ht => by
            have c : t = 0 ∨ t = 1 ∨ t = 2 ∨ t = 3 := by omega
            rcases c with rfl | rfl | rfl | rfl
            · exact wr_at _ _ _ _
            · exact (wr_off _ _ (by simp)).trans j4
            · exact (wr_off _ _ (by simp)).trans k4
            · exact (wr_off _ _ (by simp)).trans l4) (EndsTo_off (S := sL4) (Off_wr (Off_refl _ _) rfl) (fun _ => rfl) E4)
          simp (disch := omega) only [lit_0, lit_1, lit_2, lit_3, lit_4, lit_5, lit_6, lit_7, lit_8, lit_9, lit_10, lit_11, lit_12, lit_13, lit_14, lit_15, lit_16, lit_17, lit_18, lit_19, lit_20, lit_23, lit_24, lit_31, lit_32, lit_34, lit_36, lit_40, lit_48, lit_49, lit_57, lit_58, lit_59, lit_60, lit_64, lit_96, lit_97, lit_99, lit_101, lit_105, lit_108, lit_110, lit_111, lit_112, lit_114, lit_115, lit_116, lit_122, lit_127, lit_160, lit_216, lit_235, lit_238, lit_343, lit_476, lit_1296, lit_2000, lit_2401, lt_def, bind_s, gd_d, ix_n, inb_n, nI_add, pk_mul, pk_sub, nI_leI, nI_ltI, nI_eq, nI_ltn, nI_eqn, nI_eqn2, if_pos, if_neg, if_true, if_false, nI_addm1, e5]
          exact ⟨m5, ⟨Off_trans o5 p5, E5, L5 3 (by omega), L5 2 (by omega), L5 1 (by omega)⟩, rfl⟩
        · obtain ⟨o4, E4, l4, k4, j4⟩ := hM
          simp (disch := omega) only [lit_0, lit_1, lit_2, lit_3, lit_4, lit_5, lit_6, lit_7, lit_8, lit_9, lit_10, lit_11, lit_12, lit_13, lit_14, lit_15, lit_16, lit_17, lit_18, lit_19, lit_20, lit_23, lit_24, lit_31, lit_32, lit_34, lit_36, lit_40, lit_48, lit_49, lit_57, lit_58, lit_59, lit_60, lit_64, lit_96, lit_97, lit_99, lit_101, lit_105, lit_108, lit_110, lit_111, lit_112, lit_114, lit_115, lit_116, lit_122, lit_127, lit_160, lit_216, lit_235, lit_238, lit_343, lit_476, lit_1296, lit_2000, lit_2401, lt_def, bind_s, gd_d, ix_n, inb_n, nI_add, pk_mul, pk_sub, nI_leI, nI_ltI, nI_eq, nI_ltn, nI_eqn, nI_eqn2, if_pos, if_neg, if_true, if_false, nI_addm1, jP_learnEnds_107]
          refine ⟨m4, ⟨o4, fun e he hx => E4 e he ?_, l4, k4⟩, rfl⟩
          have := he 0
          unfold Lex at *; omega
      · obtain ⟨o3, E3, l3, k3⟩ := hN
        simp (disch := omega) only [lit_0, lit_1, lit_2, lit_3, lit_4, lit_5, lit_6, lit_7, lit_8, lit_9, lit_10, lit_11, lit_12, lit_13, lit_14, lit_15, lit_16, lit_17, lit_18, lit_19, lit_20, lit_23, lit_24, lit_31, lit_32, lit_34, lit_36, lit_40, lit_48, lit_49, lit_57, lit_58, lit_59, lit_60, lit_64, lit_96, lit_97, lit_99, lit_101, lit_105, lit_108, lit_110, lit_111, lit_112, lit_114, lit_115, lit_116, lit_122, lit_127, lit_160, lit_216, lit_235, lit_238, lit_343, lit_476, lit_1296, lit_2000, lit_2401, lt_def, bind_s, gd_d, ix_n, inb_n, nI_add, pk_mul, pk_sub, nI_leI, nI_ltI, nI_eq, nI_ltn, nI_eqn, nI_eqn2, if_pos, if_neg, if_true, if_false, nI_addm1, jP_learnEnds_113]
        refine ⟨m3, ⟨o3, fun e he hx => E3 e he ?_, l3⟩, rfl⟩
        have := he 1
        unfold Lex at *; omega
    · obtain ⟨o2, E2, l2⟩ := hK
      simp (disch := omega) only [lit_0, lit_1, lit_2, lit_3, lit_4, lit_5, lit_6, lit_7, lit_8, lit_9, lit_10, lit_11, lit_12, lit_13, lit_14, lit_15, lit_16, lit_17, lit_18, lit_19, lit_20, lit_23, lit_24, lit_31, lit_32, lit_34, lit_36, lit_40, lit_48, lit_49, lit_57, lit_58, lit_59, lit_60, lit_64, lit_96, lit_97, lit_99, lit_101, lit_105, lit_108, lit_110, lit_111, lit_112, lit_114, lit_115, lit_116, lit_122, lit_127, lit_160, lit_216, lit_235, lit_238, lit_343, lit_476, lit_1296, lit_2000, lit_2401, lt_def, bind_s, gd_d, ix_n, inb_n, nI_add, pk_mul, pk_sub, nI_leI, nI_ltI, nI_eq, nI_ltn, nI_eqn, nI_eqn2, if_pos, if_neg, if_true, if_false, nI_addm1, jP_learnEnds_119]
      refine ⟨m2, ⟨o2, fun e he hx => E2 e he ?_⟩, rfl⟩
      have := he 2
      unfold Lex at *; omega
  · obtain ⟨o1, E1⟩ := hJ
    simp (disch := omega) only [lit_0, lit_1, lit_2, lit_3, lit_4, lit_5, lit_6, lit_7, lit_8, lit_9, lit_10, lit_11, lit_12, lit_13, lit_14, lit_15, lit_16, lit_17, lit_18, lit_19, lit_20, lit_23, lit_24, lit_31, lit_32, lit_34, lit_36, lit_40, lit_48, lit_49, lit_57, lit_58, lit_59, lit_60, lit_64, lit_96, lit_97, lit_99, lit_101, lit_105, lit_108, lit_110, lit_111, lit_112, lit_114, lit_115, lit_116, lit_122, lit_127, lit_160, lit_216, lit_235, lit_238, lit_343, lit_476, lit_1296, lit_2000, lit_2401, lt_def, bind_s, gd_d, ix_n, inb_n, nI_add, pk_mul, pk_sub, nI_leI, nI_ltI, nI_eq, nI_ltn, nI_eqn, nI_eqn2, if_pos, if_neg, if_true, if_false, nI_addm1, jP_learnEnds_125]
    refine ⟨_, rfl, Off_wr o1 rfl, wr_at _ _ _ _, fun e he => ?_⟩
    obtain ⟨x, a, b⟩ := E1 e he (by have := he 3; unfold Lex; omega)
    exact ⟨x, (wr_off _ _ (by simp)).trans a, b⟩
/-- the class's memory of POSTURES is right for A -/
def Cache (μ : Mem) (A : Ab) : Prop := (μ (1, 0, 0) 6 = nI 0 ∨ (μ (1, 0, 0) 6 = nI 1 ∧ RoomsOk μ A)) ∧ (μ (1, 0, 0) 7 = nI 0 ∨ (μ (1, 0, 0) 7 = nI 1 ∧ EndsOk μ A))
/-- all is known, and the POSTURE as it is is looked at -/
def Known (μ : Mem) (A : Ab) : Prop := μ (1, 0, 0) 6 = nI 1 ∧ RoomsOk μ A ∧ μ (1, 0, 0) 7 = nI 1 ∧ EndsOk μ A
def Looked (μ : Mem) (A : Ab) : Prop := LeftOk μ (dA A) ∧ ThereOk μ A (dA A)
def sP : Rf → Nat → Bool := fun r _ => r.1 == 1
theorem sP_of {S : Rf → Nat → Bool} {μ' : Mem} (h : Off S μ μ') (g : ∀ r i, S r i = true → r.1 = 1) : Off sP μ μ' := by
  refine Off_mono h (fun r i q => ?_)
  cases e : S r i with
  | false => rfl
  | true => simp [sP, g r i e] at q
theorem EndsOk_off {S : Rf → Nat → Bool} {μ' : Mem} (h : Off S μ μ') (hS : ∀ i, S (1, 0, 2) i = false) (g : EndsOk μ A) : EndsOk μ' A := by
  intro e he
  obtain ⟨x, a, b⟩ := g e he
  exact ⟨x, (h _ _ (hS _)).trans a, b⟩
theorem Off_sP {S : Rf → Nat → Bool} {μ' : Mem} (h : Off S μ μ') (g : ∀ r i, sP r i = false → S r i = false) : Off sP μ μ' := Off_mono h g
theorem sP_sRo (r : Rf) (i : Nat) (h : sP r i = false) : sRo r i = false := by
  obtain ⟨a, b, c⟩ := r
  have : a ≠ 1 := by intro z; subst z; cases h
  simp [sRo, this]
theorem sP_sEn (r : Rf) (i : Nat) (h : sP r i = false) : sEn r i = false := by
  obtain ⟨a, b, c⟩ := r
  have : a ≠ 1 := by intro z; subst z; cases h
  simp [sEn, this]
theorem sP_sLk (r : Rf) (i : Nat) (h : sP r i = false) : sLk r i = false := by
  obtain ⟨a, b, c⟩ := r
  have : a ≠ 1 := by intro z; subst z; cases h
  simp [sLk, this]
theorem learn_ok (R : RepL μ k A) (O : OkA A) (C : Cache μ A) : ∃ μ', fP_learn k μ = some μ' ∧ Off sP μ μ' ∧ Known μ' A ∧ Looked μ' A := by
  unfold fP_learn
  obtain ⟨m1, e1, o1, k1, r1⟩ := learnRooms_ok R O C.1
  have R1 := RepL_off o1 (fun _ _ => rfl) R
  have key : ∀ m : Mem, Off sP μ m → Known m A → ∃ μ', jP_learn_17 k m = some μ' ∧ Off sP μ μ' ∧ Known μ' A ∧ Looked μ' A := by
    intro m o K
    have R2 := RepL_off o (fun _ _ => rfl) R
    obtain ⟨m3, e3, o3, l3, t3⟩ := look_ok R2 O
    unfold jP_learn_17
    simp only [e3, bind_s]
    refine ⟨m3, rfl, Off_trans o (Off_mono o3 sP_sLk), ⟨(o3 _ _ rfl).trans K.1, RoomsOk_off o3 (fun _ => rfl) K.2.1, (o3 _ _ rfl).trans K.2.2.1, EndsOk_off o3 (fun _ => rfl) K.2.2.2⟩, l3, t3⟩
  rcases C.2 with c | ⟨c, E⟩
  · have c1 : m1 (1, 0, 0) 7 = nI 0 := (o1 _ _ rfl).trans c
    obtain ⟨m2, e2, o2, k2, E2⟩ := learnEnds_ok R1 O r1
    simp (disch := omega) only [lit_0, lit_1, lit_2, lit_3, lit_4, lit_5, lit_6, lit_7, lit_8, lit_9, lit_10, lit_11, lit_12, lit_13, lit_14, lit_15, lit_16, lit_17, lit_18, lit_19, lit_20, lit_23, lit_24, lit_31, lit_32, lit_34, lit_36, lit_40, lit_48, lit_49, lit_57, lit_58, lit_59, lit_60, lit_64, lit_96, lit_97, lit_99, lit_101, lit_105, lit_108, lit_110, lit_111, lit_112, lit_114, lit_115, lit_116, lit_122, lit_127, lit_160, lit_216, lit_235, lit_238, lit_343, lit_476, lit_1296, lit_2000, lit_2401, lt_def, bind_s, gd_d, ix_n, inb_n, nI_add, pk_mul, pk_sub, nI_leI, nI_ltI, nI_eq, nI_ltn, nI_eqn, nI_eqn2, if_pos, if_neg, if_true, if_false, nI_addm1, e1, c1, e2]
    exact key m2 (Off_trans (Off_mono o1 sP_sRo) (Off_mono o2 sP_sEn)) ⟨(o2 _ _ rfl).trans k1, RoomsOk_off o2 (fun _ => rfl) r1, k2, E2⟩
  · have c1 : m1 (1, 0, 0) 7 = nI 1 := (o1 _ _ rfl).trans c
    simp (disch := omega) only [lit_0, lit_1, lit_2, lit_3, lit_4, lit_5, lit_6, lit_7, lit_8, lit_9, lit_10, lit_11, lit_12, lit_13, lit_14, lit_15, lit_16, lit_17, lit_18, lit_19, lit_20, lit_23, lit_24, lit_31, lit_32, lit_34, lit_36, lit_40, lit_48, lit_49, lit_57, lit_58, lit_59, lit_60, lit_64, lit_96, lit_97, lit_99, lit_101, lit_105, lit_108, lit_110, lit_111, lit_112, lit_114, lit_115, lit_116, lit_122, lit_127, lit_160, lit_216, lit_235, lit_238, lit_343, lit_476, lit_1296, lit_2000, lit_2401, lt_def, bind_s, gd_d, ix_n, inb_n, nI_add, pk_mul, pk_sub, nI_leI, nI_ltI, nI_eq, nI_ltn, nI_eqn, nI_eqn2, if_pos, if_neg, if_true, if_false, nI_addm1, e1, c1]
    exact key m1 (Off_mono o1 sP_sRo) ⟨k1, r1, c1, EndsOk_off o1 (fun _ => rfl) E⟩
theorem Known.cache {μ : Mem} {A : Ab} (h : Known μ A) : Cache μ A := ⟨Or.inr ⟨h.1, h.2.1⟩, Or.inr ⟨h.2.2.1, h.2.2.2⟩⟩
theorem endsBehind_ok (O : OkA A) (hL : LeftOk μ (dA A)) (E : EndsOk μ A) {t : Nat} (ht : t < A 4 0) (h1 : 1 ≤ A 8 t) : ∃ x, fP_endsBehind (nI t) μ = some (nI x) ∧ BitsOk A (dec (dA A) t) x := by
  have hn := O.n4
  have D := DOk_dA O
  have hc := code6_lt O D
  have hl := hL t (by omega)
  rw [dA_lt ht] at hl
  have h5 : A 8 t ≤ 5 := by have := D.le5 O t; rw [dA_lt ht] at this; exact this
  have hu := code6_dec (d := dA A) (show t < 4 by omega) (by rw [dA_lt ht]; exact h1)
  obtain ⟨x, a, b⟩ := E (dec (dA A) t) (fun u => dec_le _ _ _)
  have e2 : μ (1, 0, 2) (code6 (dA A) - u6 t) = nI x := by
    rw [← a]; congr 1; omega
  unfold fP_endsBehind
  simp (disch := omega) only [lit_0, lit_1, lit_2, lit_3, lit_4, lit_5, lit_6, lit_7, lit_8, lit_9, lit_10, lit_11, lit_12, lit_13, lit_14, lit_15, lit_16, lit_17, lit_18, lit_19, lit_20, lit_23, lit_24, lit_31, lit_32, lit_34, lit_36, lit_40, lit_48, lit_49, lit_57, lit_58, lit_59, lit_60, lit_64, lit_96, lit_97, lit_99, lit_101, lit_105, lit_108, lit_110, lit_111, lit_112, lit_114, lit_115, lit_116, lit_122, lit_127, lit_160, lit_216, lit_235, lit_238, lit_343, lit_476, lit_1296, lit_2000, lit_2401, lt_def, bind_s, gd_d, ix_n, inb_n, nI_add, pk_mul, pk_sub, nI_leI, nI_ltI, nI_eq, nI_ltn, nI_eqn, nI_eqn2, if_pos, if_neg, if_true, if_false, nI_addm1, hl, code_ok hL, unitV_n, e2]
  exact ⟨x, rfl, b⟩
theorem isSafeBehind_ok (O : OkA A) (hL : LeftOk μ (dA A)) (E : EndsOk μ A) {t : Nat} (ht : t < A 4 0) (h1 : 1 ≤ A 8 t) : fP_isSafeBehind (nI t) μ = some (nI (if safeB A (dec (dA A) t) then 1 else 0)) := by
  obtain ⟨x, a, b, c, e⟩ := endsBehind_ok O hL E ht h1
  unfold fP_isSafeBehind
  have h16 := nI_and16 x b
  simp (disch := omega) only [lit_0, lit_1, lit_2, lit_3, lit_4, lit_5, lit_6, lit_7, lit_8, lit_9, lit_10, lit_11, lit_12, lit_13, lit_14, lit_15, lit_16, lit_17, lit_18, lit_19, lit_20, lit_23, lit_24, lit_31, lit_32, lit_34, lit_36, lit_40, lit_48, lit_49, lit_57, lit_58, lit_59, lit_60, lit_64, lit_96, lit_97, lit_99, lit_101, lit_105, lit_108, lit_110, lit_111, lit_112, lit_114, lit_115, lit_116, lit_122, lit_127, lit_160, lit_216, lit_235, lit_238, lit_343, lit_476, lit_1296, lit_2000, lit_2401, lt_def, bind_s, gd_d, ix_n, inb_n, nI_add, pk_mul, pk_sub, nI_leI, nI_ltI, nI_eq, nI_ltn, nI_eqn, nI_eqn2, if_pos, if_neg, if_true, if_false, nI_addm1, a, h16]
  by_cases z : SafeA A (dec (dA A) t)
  · rw [if_pos (safeB_iff.mpr z), e.mpr z]; rfl
  · have : x.testBit 4 = false := by
      cases q : x.testBit 4 with
      | false => rfl
      | true => exact absurd (e.mp q) z
    rw [if_neg (fun q => z (safeB_iff.mp q)), this]; rfl
theorem isSafe_ok (O : OkA A) (hL : LeftOk μ (dA A)) (E : EndsOk μ A) : fP_isSafe μ = some (nI (if safeB A (dA A) then 1 else 0)) := by
  obtain ⟨x, a, b, c, e⟩ := E (dA A) (fun u => Nat.le_refl _)
  have hc := code6_lt O (DOk_dA O)
  unfold fP_isSafe
  have h16 := nI_and16 x b
  simp (disch := omega) only [lit_0, lit_1, lit_2, lit_3, lit_4, lit_5, lit_6, lit_7, lit_8, lit_9, lit_10, lit_11, lit_12, lit_13, lit_14, lit_15, lit_16, lit_17, lit_18, lit_19, lit_20, lit_23, lit_24, lit_31, lit_32, lit_34, lit_36, lit_40, lit_48, lit_49, lit_57, lit_58, lit_59, lit_60, lit_64, lit_96, lit_97, lit_99, lit_101, lit_105, lit_108, lit_110, lit_111, lit_112, lit_114, lit_115, lit_116, lit_122, lit_127, lit_160, lit_216, lit_235, lit_238, lit_343, lit_476, lit_1296, lit_2000, lit_2401, lt_def, bind_s, gd_d, ix_n, inb_n, nI_add, pk_mul, pk_sub, nI_leI, nI_ltI, nI_eq, nI_ltn, nI_eqn, nI_eqn2, if_pos, if_neg, if_true, if_false, nI_addm1, code_ok hL, a, h16]
  by_cases z : SafeA A (dA A)
  · rw [if_pos (safeB_iff.mpr z), e.mpr z]; rfl
  · have : x.testBit 4 = false := by
      cases q : x.testBit 4 with
      | false => rfl
      | true => exact absurd (e.mp q) z
    rw [if_neg (fun q => z (safeB_iff.mp q)), this]; rfl
theorem firstLost_ok (R : RepL μ k A) (O : OkA A) (hL : LeftOk μ (dA A)) (E : EndsOk μ A) {t : Nat} (ht : t < A 4 0) (h1 : 1 ≤ A 8 t) : fP_firstLostBehind k (nI t) μ = some (if fst (fun u => !endB A u (dec (dA A) t)) (A 4 0) 0 < A 4 0 then nI (fst (fun u => !endB A u (dec (dA A) t)) (A 4 0) 0) else -4) := by
  have hn := O.n4
  obtain ⟨x, a, b, c, e⟩ := endsBehind_ok O hL E ht h1
  unfold fP_firstLostBehind
  simp (disch := omega) only [lt_def, bind_s, a]
  have key : ∀ u, u < A 4 0 → x.testBit u = endB A u (dec (dA A) t) := fun u hu => by
    cases q : x.testBit u with
    | true => exact (endB_iff.mpr ((c u hu).mp q)).symm
    | false =>
      cases q2 : endB A u (dec (dA A) t) with
      | false => rfl
      | true => rw [(c u hu).mpr (endB_iff.mp q2)] at q; exact q.symm
  refine up10 (B := bP_firstLostBehind_9 k μ (nI x)) (fun r => r = some (if fst (fun u => !endB A u (dec (dA A) t)) (A 4 0) 0 < A 4 0 then nI (fst (fun u => !endB A u (dec (dA A) t)) (A 4 0) 0) else -4)) (A 4 0) (by omega) (fun i => ∀ u, u < i → (!endB A u (dec (dA A) t)) = false) (fun j hj => absurd hj (by omega)) (fun sf i hi hJ => ?_) (fun sf hJ => ?_) <;> unfold bP_firstLostBehind_9
  · have hb := nI_bit0 x b i (by omega)
    simp (disch := omega) only [lit_0, lit_1, lit_2, lit_3, lit_4, lit_5, lit_6, lit_7, lit_8, lit_9, lit_10, lit_11, lit_12, lit_13, lit_14, lit_15, lit_16, lit_17, lit_18, lit_19, lit_20, lit_23, lit_24, lit_31, lit_32, lit_34, lit_36, lit_40, lit_48, lit_49, lit_57, lit_58, lit_59, lit_60, lit_64, lit_96, lit_97, lit_99, lit_101, lit_105, lit_108, lit_110, lit_111, lit_112, lit_114, lit_115, lit_116, lit_122, lit_127, lit_160, lit_216, lit_235, lit_238, lit_343, lit_476, lit_1296, lit_2000, lit_2401, lt_def, bind_s, gd_d, ix_n, inb_n, nI_add, pk_mul, pk_sub, nI_leI, nI_ltI, nI_eq, nI_ltn, nI_eqn, nI_eqn2, if_pos, if_neg, if_true, if_false, nI_addm1, R.n, hb, key i hi]
    cases q : endB A i (dec (dA A) t) with
    | false =>
      right
      have hp : (!endB A i (dec (dA A) t)) = true := by rw [q]; rfl
      rw [fst_eq (p := fun u => !endB A u (dec (dA A) t)) hi hJ hp]
      simp [hi]
    | true =>
      left
      refine ⟨fun u hu => ?_, by simp⟩
      by_cases z : u = i
      · subst z; rw [q]; rfl
      · exact hJ u (by omega)
  · simp (disch := omega) only [lit_0, lit_1, lit_2, lit_3, lit_4, lit_5, lit_6, lit_7, lit_8, lit_9, lit_10, lit_11, lit_12, lit_13, lit_14, lit_15, lit_16, lit_17, lit_18, lit_19, lit_20, lit_23, lit_24, lit_31, lit_32, lit_34, lit_36, lit_40, lit_48, lit_49, lit_57, lit_58, lit_59, lit_60, lit_64, lit_96, lit_97, lit_99, lit_101, lit_105, lit_108, lit_110, lit_111, lit_112, lit_114, lit_115, lit_116, lit_122, lit_127, lit_160, lit_216, lit_235, lit_238, lit_343, lit_476, lit_1296, lit_2000, lit_2401, lt_def, bind_s, gd_d, ix_n, inb_n, nI_add, pk_mul, pk_sub, nI_leI, nI_ltI, nI_eq, nI_ltn, nI_eqn, nI_eqn2, if_pos, if_neg, if_true, if_false, nI_addm1, R.n]
    rw [fst_none (p := fun u => !endB A u (dec (dA A) t)) hJ, if_neg (Nat.lt_irrefl _)]
end Ends2
