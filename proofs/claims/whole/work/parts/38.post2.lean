def sTh : Rf → Nat → Bool := fun r _ => r == (1, 0, 5)
def sLk : Rf → Nat → Bool := fun r _ => r == (1, 0, 4) || r == (1, 0, 5)
def code6 (d : Nat → Nat) : Nat := d 0 + 6 * (d 1 + 6 * (d 2 + 6 * d 3))
def u6 (t : Nat) : Nat := if t = 0 then 1 else if t = 1 then 6 else if t = 2 then 36 else 216
theorem unitV_n (t : Nat) : unitV t = nI (u6 t) := by
  unfold unitV u6
  by_cases h0 : t = 0
  · simp only [if_pos h0]; rfl
  by_cases h1 : t = 1
  · simp only [if_neg h0, if_pos h1]; rfl
  by_cases h2 : t = 2
  · simp only [if_neg h0, if_neg h1, if_pos h2]; rfl
  · simp only [if_neg h0, if_neg h1, if_neg h2]; rfl
theorem fits_congr {A : Ab} {p : Nat} {q q' : Nat → Bool} (h : ∀ t, t < A 4 0 → q t = q' t) : fitsA A p q = fitsA A p q' := by
  unfold fitsA
  refine decide_eq_decide.mpr ⟨fun g t ht hq => ?_, fun g t ht hq => ?_⟩
  · have := g t ht (by rw [h t ht]; exact hq)
    rw [cnt_congr (q := fun u => q u && decide (A 7 t ≤ A 7 u)) (fun i hi => by show (q' i && _) = (q i && _); rw [h i hi])]
    exact this
  · have := g t ht (by rw [← h t ht]; exact hq)
    rw [cnt_congr (q := fun u => q' u && decide (A 7 t ≤ A 7 u)) (fun i hi => by show (q i && _) = (q' i && _); rw [h i hi])]
    exact this
section Post2
variable {μ : Mem} {k : Nat} {A : Ab} {d : Nat → Nat}
theorem DOk.le5 (O : OkA A) (D : DOk A d) (t : Nat) : d t ≤ 5 := by
  by_cases h : t < A 4 0
  · exact Nat.le_trans (D.1 t h) (dist_le O h)
  · rw [D.2 t (by omega)]; omega
theorem DOk_le {e : Nat → Nat} (D : DOk A d) (h : ∀ t, e t ≤ d t) : DOk A e :=
  ⟨fun t ht => Nat.le_trans (h t) (D.1 t ht), fun t ht => by have := h t; rw [D.2 t ht] at this; omega⟩
theorem DOk_dA (O : OkA A) : DOk A (dA A) :=
  ⟨fun t ht => by rw [dA_lt ht]; exact (O.tr ht).2.2.2.2.2.1, fun t ht => dA_ge (by omega)⟩
theorem fill5_ok (μ : Mem) : ∃ μ', fJ_fill_1_5 0 (nI 0) μ = some μ' ∧ Off sTh μ μ' ∧ ∀ p, p < 6 → μ' (1, 0, 5) p = nI 0 := by
  unfold fJ_fill_1_5
  refine up11 (B := bJ_fill_1_5_5 0 (nI 0) 6) (fun r => ∃ μ', r = some μ' ∧ Off sTh μ μ' ∧ ∀ p, p < 6 → μ' (1, 0, 5) p = nI 0) 6 (by omega) (fun i m => Off sTh μ m ∧ ∀ p, p < i → m (1, 0, 5) p = nI 0) ⟨Off_refl _ _, fun j hj => absurd hj (by omega)⟩ (fun sf i m hi hJ => ?_) (fun sf m hJ => ?_) <;> unfold bJ_fill_1_5_5
  · left
    simp (disch := omega) only [lit_0, lit_1, lit_2, lit_3, lit_4, lit_5, lit_6, lit_7, lit_8, lit_9, lit_10, lit_11, lit_12, lit_13, lit_14, lit_15, lit_16, lit_17, lit_18, lit_19, lit_20, lit_23, lit_24, lit_31, lit_32, lit_34, lit_36, lit_40, lit_48, lit_49, lit_57, lit_58, lit_59, lit_60, lit_64, lit_96, lit_97, lit_99, lit_101, lit_105, lit_108, lit_110, lit_111, lit_112, lit_114, lit_115, lit_116, lit_122, lit_127, lit_160, lit_216, lit_235, lit_238, lit_343, lit_476, lit_1296, lit_2000, lit_2401, lt_def, bind_s, gd_d, ix_n, inb_n, nI_add, pk_mul, pk_sub, nI_leI, nI_ltI, nI_eq, nI_ltn, nI_eqn, nI_eqn2, if_pos, if_neg, if_true, if_false, nI_addm1]
    refine ⟨_, ⟨Off_wr hJ.1 rfl, fun p hp => ?_⟩, rfl⟩
    rw [wr_get]
    by_cases e : p = i
    · subst e; rw [if_pos ⟨rfl, rfl⟩]
    · rw [if_neg (fun z => e z.2)]; exact hJ.2 p (by omega)
  · simp (disch := omega) only [lit_0, lit_1, lit_2, lit_3, lit_4, lit_5, lit_6, lit_7, lit_8, lit_9, lit_10, lit_11, lit_12, lit_13, lit_14, lit_15, lit_16, lit_17, lit_18, lit_19, lit_20, lit_23, lit_24, lit_31, lit_32, lit_34, lit_36, lit_40, lit_48, lit_49, lit_57, lit_58, lit_59, lit_60, lit_64, lit_96, lit_97, lit_99, lit_101, lit_105, lit_108, lit_110, lit_111, lit_112, lit_114, lit_115, lit_116, lit_122, lit_127, lit_160, lit_216, lit_235, lit_238, lit_343, lit_476, lit_1296, lit_2000, lit_2401, lt_def, bind_s, gd_d, ix_n, inb_n, nI_add, pk_mul, pk_sub, nI_leI, nI_ltI, nI_eq, nI_ltn, nI_eqn, nI_eqn2, if_pos, if_neg, if_true, if_false, nI_addm1]
    exact ⟨m, rfl, hJ.1, hJ.2⟩
theorem placeAll_ok (R : RepL μ k A) (O : OkA A) (D : DOk A d) (hL : LeftOk μ d) : ∃ μ', fP_placeAll k μ = some μ' ∧ Off sTh μ μ' ∧ ThereOk μ' A d := by
  have hn := O.n4
  have h6 := O.p6
  unfold fP_placeAll
  obtain ⟨μ1, e1, o1, z1⟩ := fill5_ok μ
  simp only [lit_0, e1, bind_s, lt_def]
  refine up11 (B := bP_placeAll_10 k) (fun r => ∃ μ', r = some μ' ∧ Off sTh μ μ' ∧ ThereOk μ' A d) (A 4 0) (by omega) (fun i m => Off sTh μ m ∧ ∀ p, p < 6 → m (1, 0, 5) p = nI (msk (occ A d p) i)) ⟨o1, z1⟩ (fun sf i m hi hJ => ?_) (fun sf m hJ => ?_) <;> unfold bP_placeAll_10
  · obtain ⟨a1, a2⟩ := hJ
    have R1 : RepL m k A := RepL_off a1 (fun _ _ => rfl) R
    have hl : m (1, 0, 4) i = nI (d i) := (a1 _ _ rfl).trans (hL i (by omega))
    have hd := D.1 i hi
    have h5 := D.le5 O i
    left
    by_cases z : d i = 0
    · simp (disch := omega) only [lit_0, lit_1, lit_2, lit_3, lit_4, lit_5, lit_6, lit_7, lit_8, lit_9, lit_10, lit_11, lit_12, lit_13, lit_14, lit_15, lit_16, lit_17, lit_18, lit_19, lit_20, lit_23, lit_24, lit_31, lit_32, lit_34, lit_36, lit_40, lit_48, lit_49, lit_57, lit_58, lit_59, lit_60, lit_64, lit_96, lit_97, lit_99, lit_101, lit_105, lit_108, lit_110, lit_111, lit_112, lit_114, lit_115, lit_116, lit_122, lit_127, lit_160, lit_216, lit_235, lit_238, lit_343, lit_476, lit_1296, lit_2000, lit_2401, lt_def, bind_s, gd_d, ix_n, inb_n, nI_add, pk_mul, pk_sub, nI_leI, nI_ltI, nI_eq, nI_ltn, nI_eqn, nI_eqn2, if_pos, if_neg, if_true, if_false, nI_addm1, R1.n, hl]
      refine ⟨m, ⟨a1, fun p hp => ?_⟩, rfl⟩
      have : occ A d p i = false := by simp [occ]; omega
      rw [msk_s, this, if_neg (by simp), Nat.or_zero]
      exact a2 p hp
    · have hs := spotA_lt O hi hd
      have hb := msk_lt16 (q := occ A d (spotA A i (d i))) (show i ≤ 4 by omega)
      have hp2 : 2 ^ i < 32 := Nat.lt_of_le_of_lt (pow2_le16 (show i ≤ 4 by omega)) (by omega)
      simp (disch := omega) only [lit_0, lit_1, lit_2, lit_3, lit_4, lit_5, lit_6, lit_7, lit_8, lit_9, lit_10, lit_11, lit_12, lit_13, lit_14, lit_15, lit_16, lit_17, lit_18, lit_19, lit_20, lit_23, lit_24, lit_31, lit_32, lit_34, lit_36, lit_40, lit_48, lit_49, lit_57, lit_58, lit_59, lit_60, lit_64, lit_96, lit_97, lit_99, lit_101, lit_105, lit_108, lit_110, lit_111, lit_112, lit_114, lit_115, lit_116, lit_122, lit_127, lit_160, lit_216, lit_235, lit_238, lit_343, lit_476, lit_1296, lit_2000, lit_2401, lt_def, bind_s, gd_d, ix_n, inb_n, nI_add, pk_mul, pk_sub, nI_leI, nI_ltI, nI_eq, nI_ltn, nI_eqn, nI_eqn2, if_pos, if_neg, if_true, if_false, nI_addm1, R1.n, hl, spot_ok R1 O hi hd, a2, nI_shl, nI_or5]
      refine ⟨_, ⟨Off_wr a1 rfl, fun p hp => ?_⟩, rfl⟩
      rw [wr_get, msk_s]
      by_cases e : p = spotA A i (d i)
      · subst e
        have : occ A d (spotA A i (d i)) i = true := by simp [occ]; omega
        rw [if_pos ⟨rfl, rfl⟩, this, if_pos rfl]
      · have : occ A d p i = false := by simp [occ]; intro _ z; exact e z.symm
        rw [if_neg (fun z => e z.2), this, if_neg (by simp), Nat.or_zero]
        exact a2 p hp
  · obtain ⟨a1, a2⟩ := hJ
    have R1 : RepL m k A := RepL_off a1 (fun _ _ => rfl) R
    simp (disch := omega) only [lit_0, lit_1, lit_2, lit_3, lit_4, lit_5, lit_6, lit_7, lit_8, lit_9, lit_10, lit_11, lit_12, lit_13, lit_14, lit_15, lit_16, lit_17, lit_18, lit_19, lit_20, lit_23, lit_24, lit_31, lit_32, lit_34, lit_36, lit_40, lit_48, lit_49, lit_57, lit_58, lit_59, lit_60, lit_64, lit_96, lit_97, lit_99, lit_101, lit_105, lit_108, lit_110, lit_111, lit_112, lit_114, lit_115, lit_116, lit_122, lit_127, lit_160, lit_216, lit_235, lit_238, lit_343, lit_476, lit_1296, lit_2000, lit_2401, lt_def, bind_s, gd_d, ix_n, inb_n, nI_add, pk_mul, pk_sub, nI_leI, nI_ltI, nI_eq, nI_ltn, nI_eqn, nI_eqn2, if_pos, if_neg, if_true, if_false, nI_addm1, R1.n]
    exact ⟨m, rfl, a1, a2⟩
theorem canStep_ok (R : RepL μ k A) (O : OkA A) (D : DOk A d) {t x : Nat} (ht : t < A 4 0) (hx : x ≤ d t) (hl : μ (1, 0, 4) t = nI x) (hT : ThereOk μ A d) (hR : RoomsOk μ A) : fP_canStep k (nI t) μ = some (nI (if canA A (upx d t x) t then 1 else 0)) := by
  have hn := O.n4
  have h6 := O.p6
  have hd := D.1 t ht
  have h5 := D.le5 O t
  have hxx : upx d t x t = x := if_pos rfl
  unfold fP_canStep canA
  rw [hxx]
  by_cases h2 : 2 ≤ x
  · have hs := spotA_lt O ht (d := x - 1) (by omega)
    have hb := msk_lt16 (q := occ A d (spotA A t (x - 1))) hn
    have hp2 : 2 ^ t < 2 ^ A 4 0 := Nat.pow_lt_pow_right (by omega) ht
    have h16 := pow2_le16 hn
    have hm : msk (occ A d (spotA A t (x - 1))) (A 4 0) ||| 2 ^ t < 2 ^ A 4 0 := Nat.or_lt_two_pow (msk_lt _ _) hp2
    have e1 : spotA A t (x - 1) * 16 + (msk (occ A d (spotA A t (x - 1))) (A 4 0) ||| 2 ^ t) = 16 * spotA A t (x - 1) + (msk (occ A d (spotA A t (x - 1))) (A 4 0) ||| 2 ^ t) := by omega
    have e2 := hR _ hs _ hm
    have e3 := hT _ (show spotA A t (x - 1) < 6 by omega)
    have e4 : fitsA A (spotA A t (x - 1)) (fun u => (msk (occ A d (spotA A t (x - 1))) (A 4 0) ||| 2 ^ t).testBit u) = fitsA A (spotA A t (x - 1)) (occ A (dec (upx d t x) t) (spotA A t (x - 1))) := by
      refine fits_congr (fun u hu => ?_)
      rw [Nat.testBit_or, msk_bit, Nat.testBit_two_pow, decide_eq_true hu, Bool.true_and]
      by_cases e : u = t
      · subst e
        have : occ A (dec (upx d u x) u) (spotA A u (x - 1)) u = true := by
          simp only [occ, dec_same, hxx]
          exact decide_eq_true ⟨by omega, trivial⟩
        rw [this, decide_eq_true rfl, Bool.or_true]
      · have : dec (upx d t x) t u = d u := by rw [dec_ne _ e]; exact if_neg e
        rw [decide_eq_false (fun z => e z.symm), Bool.or_false]
        simp only [occ, this]
    simp (disch := omega) only [lit_0, lit_1, lit_2, lit_3, lit_4, lit_5, lit_6, lit_7, lit_8, lit_9, lit_10, lit_11, lit_12, lit_13, lit_14, lit_15, lit_16, lit_17, lit_18, lit_19, lit_20, lit_23, lit_24, lit_31, lit_32, lit_34, lit_36, lit_40, lit_48, lit_49, lit_57, lit_58, lit_59, lit_60, lit_64, lit_96, lit_97, lit_99, lit_101, lit_105, lit_108, lit_110, lit_111, lit_112, lit_114, lit_115, lit_116, lit_122, lit_127, lit_160, lit_216, lit_235, lit_238, lit_343, lit_476, lit_1296, lit_2000, lit_2401, lt_def, bind_s, gd_d, ix_n, inb_n, nI_add, pk_mul, pk_sub, nI_leI, nI_ltI, nI_eq, nI_ltn, nI_eqn, nI_eqn2, if_pos, if_neg, if_true, if_false, nI_addm1, hl, spot_ok R O ht (d := x - 1) (by omega), e3, nI_shl, nI_or5, e1, e2, isb_c, gd_tt, e4]
    have d1 : decide (x = 1) = false := decide_eq_false (by omega)
    have d2 : decide (2 ≤ x) = true := decide_eq_true h2
    rw [d1, d2, Bool.false_or, Bool.true_and]
  · have d2 : decide (2 ≤ x) = false := decide_eq_false h2
    rw [d2, Bool.false_and, Bool.or_false]
    simp (disch := omega) only [lit_0, lit_1, lit_2, lit_3, lit_4, lit_5, lit_6, lit_7, lit_8, lit_9, lit_10, lit_11, lit_12, lit_13, lit_14, lit_15, lit_16, lit_17, lit_18, lit_19, lit_20, lit_23, lit_24, lit_31, lit_32, lit_34, lit_36, lit_40, lit_48, lit_49, lit_57, lit_58, lit_59, lit_60, lit_64, lit_96, lit_97, lit_99, lit_101, lit_105, lit_108, lit_110, lit_111, lit_112, lit_114, lit_115, lit_116, lit_122, lit_127, lit_160, lit_216, lit_235, lit_238, lit_343, lit_476, lit_1296, lit_2000, lit_2401, lt_def, bind_s, gd_d, ix_n, inb_n, nI_add, pk_mul, pk_sub, nI_leI, nI_ltI, nI_eq, nI_ltn, nI_eqn, nI_eqn2, if_pos, if_neg, if_true, if_false, nI_addm1, hl, decide_eq_true_eq]
    by_cases e : x = 1
    · simp only [if_pos e]
    · simp only [if_neg e]
theorem highest_ok (R : RepL μ k A) (O : OkA A) {t : Nat} (ht : t < 4) : fP_highest k (nI t) μ = some (nI (dA A t)) := by
  have hn := O.n4
  unfold fP_highest
  by_cases h : t < A 4 0
  · simp (disch := omega) only [lit_0, lit_1, lit_2, lit_3, lit_4, lit_5, lit_6, lit_7, lit_8, lit_9, lit_10, lit_11, lit_12, lit_13, lit_14, lit_15, lit_16, lit_17, lit_18, lit_19, lit_20, lit_23, lit_24, lit_31, lit_32, lit_34, lit_36, lit_40, lit_48, lit_49, lit_57, lit_58, lit_59, lit_60, lit_64, lit_96, lit_97, lit_99, lit_101, lit_105, lit_108, lit_110, lit_111, lit_112, lit_114, lit_115, lit_116, lit_122, lit_127, lit_160, lit_216, lit_235, lit_238, lit_343, lit_476, lit_1296, lit_2000, lit_2401, lt_def, bind_s, gd_d, ix_n, inb_n, nI_add, pk_mul, pk_sub, nI_leI, nI_ltI, nI_eq, nI_ltn, nI_eqn, nI_eqn2, if_pos, if_neg, if_true, if_false, nI_addm1, R.n, R.lf h, dA_lt h]
  · simp (disch := omega) only [lit_0, lit_1, lit_2, lit_3, lit_4, lit_5, lit_6, lit_7, lit_8, lit_9, lit_10, lit_11, lit_12, lit_13, lit_14, lit_15, lit_16, lit_17, lit_18, lit_19, lit_20, lit_23, lit_24, lit_31, lit_32, lit_34, lit_36, lit_40, lit_48, lit_49, lit_57, lit_58, lit_59, lit_60, lit_64, lit_96, lit_97, lit_99, lit_101, lit_105, lit_108, lit_110, lit_111, lit_112, lit_114, lit_115, lit_116, lit_122, lit_127, lit_160, lit_216, lit_235, lit_238, lit_343, lit_476, lit_1296, lit_2000, lit_2401, lt_def, bind_s, gd_d, ix_n, inb_n, nI_add, pk_mul, pk_sub, nI_leI, nI_ltI, nI_eq, nI_ltn, nI_eqn, nI_eqn2, if_pos, if_neg, if_true, if_false, nI_addm1, R.n, dA_ge h]
theorem look_ok (R : RepL μ k A) (O : OkA A) : ∃ μ', fP_look k μ = some μ' ∧ Off sLk μ μ' ∧ LeftOk μ' (dA A) ∧ ThereOk μ' A (dA A) := by
  have hn := O.n4
  unfold fP_look
  refine up11 (B := bP_look_2 k) (fun r => ∃ μ', r = some μ' ∧ Off sLk μ μ' ∧ LeftOk μ' (dA A) ∧ ThereOk μ' A (dA A)) 4 (by omega) (fun i m => Off sLk μ m ∧ ∀ t, t < i → m (1, 0, 4) t = nI (dA A t)) ⟨Off_refl _ _, fun j hj => absurd hj (by omega)⟩ (fun sf i m hi hJ => ?_) (fun sf m hJ => ?_) <;> unfold bP_look_2
  · have R1 : RepL m k A := RepL_off hJ.1 (fun _ _ => rfl) R
    left
    simp (disch := omega) only [lit_0, lit_1, lit_2, lit_3, lit_4, lit_5, lit_6, lit_7, lit_8, lit_9, lit_10, lit_11, lit_12, lit_13, lit_14, lit_15, lit_16, lit_17, lit_18, lit_19, lit_20, lit_23, lit_24, lit_31, lit_32, lit_34, lit_36, lit_40, lit_48, lit_49, lit_57, lit_58, lit_59, lit_60, lit_64, lit_96, lit_97, lit_99, lit_101, lit_105, lit_108, lit_110, lit_111, lit_112, lit_114, lit_115, lit_116, lit_122, lit_127, lit_160, lit_216, lit_235, lit_238, lit_343, lit_476, lit_1296, lit_2000, lit_2401, lt_def, bind_s, gd_d, ix_n, inb_n, nI_add, pk_mul, pk_sub, nI_leI, nI_ltI, nI_eq, nI_ltn, nI_eqn, nI_eqn2, if_pos, if_neg, if_true, if_false, nI_addm1, highest_ok R1 O hi]
    refine ⟨_, ⟨Off_wr hJ.1 rfl, fun t ht => ?_⟩, rfl⟩
    rw [wr_get]
    by_cases e : t = i
    · subst e; rw [if_pos ⟨rfl, rfl⟩]
    · rw [if_neg (fun z => e z.2)]; exact hJ.2 t (by omega)
  · have R1 : RepL m k A := RepL_off hJ.1 (fun _ _ => rfl) R
    obtain ⟨m1, e1, o1, t1⟩ := placeAll_ok R1 O (DOk_dA O) hJ.2
    simp (disch := omega) only [lit_0, lit_1, lit_2, lit_3, lit_4, lit_5, lit_6, lit_7, lit_8, lit_9, lit_10, lit_11, lit_12, lit_13, lit_14, lit_15, lit_16, lit_17, lit_18, lit_19, lit_20, lit_23, lit_24, lit_31, lit_32, lit_34, lit_36, lit_40, lit_48, lit_49, lit_57, lit_58, lit_59, lit_60, lit_64, lit_96, lit_97, lit_99, lit_101, lit_105, lit_108, lit_110, lit_111, lit_112, lit_114, lit_115, lit_116, lit_122, lit_127, lit_160, lit_216, lit_235, lit_238, lit_343, lit_476, lit_1296, lit_2000, lit_2401, lt_def, bind_s, gd_d, ix_n, inb_n, nI_add, pk_mul, pk_sub, nI_leI, nI_ltI, nI_eq, nI_ltn, nI_eqn, nI_eqn2, if_pos, if_neg, if_true, if_false, nI_addm1, jP_look_24, e1]
    refine ⟨m1, rfl, Off_trans hJ.1 (Off_mono o1 (fun r i h => ?_)), fun t ht => ?_, t1⟩
    · simp only [sLk, Bool.or_eq_false_iff] at h
      exact h.2
    · rw [o1 _ _ rfl]; exact hJ.2 t ht
theorem code_ok (hL : LeftOk μ d) : fP_code μ = some (nI (code6 d)) := by
  unfold fP_code code6
  have h0 := hL 0 (by omega)
  have h1 := hL 1 (by omega)
  have h2 := hL 2 (by omega)
  have h3 := hL 3 (by omega)
  simp (disch := omega) only [lit_0, lit_1, lit_2, lit_3, lit_4, lit_5, lit_6, lit_7, lit_8, lit_9, lit_10, lit_11, lit_12, lit_13, lit_14, lit_15, lit_16, lit_17, lit_18, lit_19, lit_20, lit_23, lit_24, lit_31, lit_32, lit_34, lit_36, lit_40, lit_48, lit_49, lit_57, lit_58, lit_59, lit_60, lit_64, lit_96, lit_97, lit_99, lit_101, lit_105, lit_108, lit_110, lit_111, lit_112, lit_114, lit_115, lit_116, lit_122, lit_127, lit_160, lit_216, lit_235, lit_238, lit_343, lit_476, lit_1296, lit_2000, lit_2401, lt_def, bind_s, gd_d, ix_n, inb_n, nI_add, pk_mul, pk_sub, nI_leI, nI_ltI, nI_eq, nI_ltn, nI_eqn, nI_eqn2, if_pos, if_neg, if_true, if_false, nI_addm1, h0, h1, h2, h3]
theorem code6_lt (O : OkA A) (D : DOk A d) : code6 d < 1296 := by
  have h0 := D.le5 O 0
  have h1 := D.le5 O 1
  have h2 := D.le5 O 2
  have h3 := D.le5 O 3
  unfold code6
  omega
theorem code6_dec {t : Nat} (ht : t < 4) (h1 : 1 ≤ d t) : code6 (dec d t) + u6 t = code6 d := by
  unfold code6 dec u6
  have : t = 0 ∨ t = 1 ∨ t = 2 ∨ t = 3 := by omega
  rcases this with rfl | rfl | rfl | rfl
  · simp; omega
  · simp; omega
  · simp; omega
  · simp; omega
end Post2
