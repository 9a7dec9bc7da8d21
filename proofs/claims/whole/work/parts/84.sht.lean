section Shts
variable {N : Nat}
theorem fill32_ok (μ : Mem) (k : Nat) : ∃ μ', fJ_fill_3_2 k 0 μ = some μ' ∧ Off (fun r _ => r == (3, k, 2)) μ μ' ∧ ∀ p, p < 40 → μ' (3, k, 2) p = nI 0 := by
  unfold fJ_fill_3_2
  rw [lt_def, lt_def]
  refine up11 (B := bJ_fill_3_2_5 k 0 40) (fun r => ∃ μ', r = some μ' ∧ Off (fun r _ => r == (3, k, 2)) μ μ' ∧ ∀ p, p < 40 → μ' (3, k, 2) p = nI 0) 40 (by omega) (fun i m => Off (fun r _ => r == (3, k, 2)) μ m ∧ ∀ p, p < i → m (3, k, 2) p = nI 0) ⟨Off_refl _ _, fun j hj => absurd hj (by omega)⟩ (fun sf i m hi hJ => ?_) (fun sf m hJ => ?_) <;> unfold bJ_fill_3_2_5
  · left
    simp (disch := omega) only [lit_0, lit_1, lit_2, lit_3, lit_4, lit_5, lit_6, lit_7, lit_8, lit_9, lit_10, lit_11, lit_12, lit_13, lit_14, lit_15, lit_16, lit_17, lit_18, lit_19, lit_20, lit_23, lit_24, lit_31, lit_32, lit_34, lit_36, lit_40, lit_48, lit_49, lit_57, lit_58, lit_59, lit_60, lit_64, lit_96, lit_97, lit_99, lit_101, lit_105, lit_108, lit_110, lit_111, lit_112, lit_114, lit_115, lit_116, lit_122, lit_127, lit_160, lit_216, lit_235, lit_238, lit_343, lit_476, lit_1296, lit_2000, lit_2401, lt_def, bind_s, gd_d, ix_n, inb_n, nI_add, pk_mul, pk_sub, nI_leI, nI_ltI, nI_eq, nI_ltn, nI_eqn, nI_eqn2, if_pos, if_neg, if_true, if_false, nI_addm1]
    refine ⟨_, ⟨Off_wr hJ.1 (by simp), fun p hp => ?_⟩, rfl⟩
    rw [wr_get]
    by_cases e : p = i
    · subst e; rw [if_pos ⟨rfl, rfl⟩]
    · rw [if_neg (fun z => e z.2)]; exact hJ.2 p (by omega)
  · simp (disch := omega) only [lit_0, lit_1, lit_2, lit_3, lit_4, lit_5, lit_6, lit_7, lit_8, lit_9, lit_10, lit_11, lit_12, lit_13, lit_14, lit_15, lit_16, lit_17, lit_18, lit_19, lit_20, lit_23, lit_24, lit_31, lit_32, lit_34, lit_36, lit_40, lit_48, lit_49, lit_57, lit_58, lit_59, lit_60, lit_64, lit_96, lit_97, lit_99, lit_101, lit_105, lit_108, lit_110, lit_111, lit_112, lit_114, lit_115, lit_116, lit_122, lit_127, lit_160, lit_216, lit_235, lit_238, lit_343, lit_476, lit_1296, lit_2000, lit_2401, lt_def, bind_s, gd_d, ix_n, inb_n, nI_add, pk_mul, pk_sub, nI_leI, nI_ltI, nI_eq, nI_ltn, nI_eqn, nI_eqn2, if_pos, if_neg, if_true, if_false, nI_addm1]
    exact ⟨m, rfl, hJ.1, hJ.2⟩
theorem zeroM_ok (μ : Mem) {k : Nat} (hk : k < 4) : ∃ μ', lz11 (bM_sheet_40 (nI k)) FU (nI 0) μ = some (nI 1, μ') ∧ Off (fun r i => r == (5, 0, 23) && (decide (40 * k ≤ i) && decide (i < 40 * k + 40))) μ μ' ∧ ∀ p, p < 40 → μ' (5, 0, 23) (40 * k + p) = nI 0 := by
  refine up11 (B := bM_sheet_40 (nI k)) (fun r => ∃ μ', r = some (nI 1, μ') ∧ Off (fun r i => r == (5, 0, 23) && (decide (40 * k ≤ i) && decide (i < 40 * k + 40))) μ μ' ∧ ∀ p, p < 40 → μ' (5, 0, 23) (40 * k + p) = nI 0) 40 (by omega) (fun i m => Off (fun r i => r == (5, 0, 23) && (decide (40 * k ≤ i) && decide (i < 40 * k + 40))) μ m ∧ ∀ p, p < i → m (5, 0, 23) (40 * k + p) = nI 0) ⟨Off_refl _ _, fun j hj => absurd hj (by omega)⟩ (fun sf i m hi hJ => ?_) (fun sf m hJ => ?_) <;> unfold bM_sheet_40
  · left
    simp (disch := omega) only [lit_0, lit_1, lit_2, lit_3, lit_4, lit_5, lit_6, lit_7, lit_8, lit_9, lit_10, lit_11, lit_12, lit_13, lit_14, lit_15, lit_16, lit_17, lit_18, lit_19, lit_20, lit_23, lit_24, lit_31, lit_32, lit_34, lit_36, lit_40, lit_48, lit_49, lit_57, lit_58, lit_59, lit_60, lit_64, lit_96, lit_97, lit_99, lit_101, lit_105, lit_108, lit_110, lit_111, lit_112, lit_114, lit_115, lit_116, lit_122, lit_127, lit_160, lit_216, lit_235, lit_238, lit_343, lit_476, lit_1296, lit_2000, lit_2401, lt_def, bind_s, gd_d, ix_n, inb_n, nI_add, pk_mul, pk_sub, nI_leI, nI_ltI, nI_eq, nI_ltn, nI_eqn, nI_eqn2, if_pos, if_neg, if_true, if_false, nI_addm1]
    refine ⟨_, ⟨Off_wr hJ.1 (by simp; omega), fun p hp => ?_⟩, rfl⟩
    rw [wr_get]
    by_cases e : p = i
    · subst e; rw [if_pos ⟨rfl, rfl⟩]
    · rw [if_neg (fun z => e (by have := z.2; omega))]; exact hJ.2 p (by omega)
  · simp (disch := omega) only [lit_0, lit_1, lit_2, lit_3, lit_4, lit_5, lit_6, lit_7, lit_8, lit_9, lit_10, lit_11, lit_12, lit_13, lit_14, lit_15, lit_16, lit_17, lit_18, lit_19, lit_20, lit_23, lit_24, lit_31, lit_32, lit_34, lit_36, lit_40, lit_48, lit_49, lit_57, lit_58, lit_59, lit_60, lit_64, lit_96, lit_97, lit_99, lit_101, lit_105, lit_108, lit_110, lit_111, lit_112, lit_114, lit_115, lit_116, lit_122, lit_127, lit_160, lit_216, lit_235, lit_238, lit_343, lit_476, lit_1296, lit_2000, lit_2401, lt_def, bind_s, gd_d, ix_n, inb_n, nI_add, pk_mul, pk_sub, nI_leI, nI_ltI, nI_eq, nI_ltn, nI_eqn, nI_eqn2, if_pos, if_neg, if_true, if_false, nI_addm1]
    exact ⟨m, rfl, hJ.1, hJ.2⟩
/-- the cells of sheet k, by both -/
def sSd (k : Nat) : Rf → Nat → Bool := fun r _ => r.1 == 3 && r.2.1 == k
def sSm (k : Nat) : Rf → Nat → Bool := fun r i => ((r == (5, 0, 21) || r == (5, 0, 22)) && i == k) || (r == (5, 0, 23) && (decide (40 * k ≤ i) && decide (i < 40 * k + 40)))
theorem Inv_sh {μ μ1 μ2 : Mem} {A : Ab} {B : Nat → Nat → Nat} {k : Nat} (h : LnA N μ A B) (r : Rst N μ) (hk : k < 4) (oD : Off (sSd k) μ μ1) (oM : Off (sSm k) μ1 μ2) (hs : ShtK μ2 k) : Inv (N + 60) μ2 := by
  obtain ⟨R, RR, O, S, C, hA⟩ := id h
  obtain ⟨tp, fl, im, sh, tr⟩ := id r
  refine Inv_n ⟨⟨A, B, RepL_off oM (fun _ _ => rfl) (RepL_off oD (fun _ _ => rfl) R), RepR_off oM (fun _ => rfl) (RepR_off oD (fun _ => rfl) RR), O, S, Cache_off oM (fun _ _ => rfl) (Cache_off oD (fun _ _ => rfl) C), hA⟩, Tape_off oM rfl (fun _ => rfl) rfl (fun _ => rfl) (Tape_off oD rfl (fun _ => rfl) rfl (fun _ => rfl) tp), ?_, fun k' hk' => ImgK_off oM (fun _ => rfl) (fun _ => rfl) (fun _ _ _ _ => rfl) (fun _ => rfl) (ImgK_off oD (fun _ => rfl) (fun _ => rfl) (fun _ _ _ _ => rfl) (fun _ => rfl) (im k' hk')), fun k' hk' => ?_, ?_⟩
  · unfold Flt at *
    rw [oM _ _ rfl, oD _ _ rfl, oM _ _ rfl, oD _ _ rfl]; exact fl
  · by_cases e : k' = k
    · subst e; exact hs
    · have d : ∀ j i, μ2 (3, k', j) i = μ (3, k', j) i := fun j i => by
        rw [oM _ _ rfl, oD _ _ (by unfold sSd; simp [e])]
      have m21 : μ2 (5, 0, 21) k' = μ (5, 0, 21) k' := by rw [oM _ _ (by unfold sSm; simp [e]), oD _ _ rfl]
      have m22 : μ2 (5, 0, 22) k' = μ (5, 0, 22) k' := by rw [oM _ _ (by unfold sSm; simp [e]), oD _ _ rfl]
      have m23 : ∀ i, i < 40 → μ2 (5, 0, 23) (40 * k' + i) = μ (5, 0, 23) (40 * k' + i) := fun i hi => by
        rw [oM _ _ (by unfold sSm; simp; omega), oD _ _ rfl]
      rcases sh k' hk' with ⟨a, b⟩ | ⟨s, l, a1, a2, a3, a4, a5, a6, a7⟩
      · exact Or.inl ⟨(d 0 0).trans a, m21.trans b⟩
      · exact Or.inr ⟨s, l, a1, a2, (d 0 0).trans a3, (d 0 2).trans a4, m21.trans a5, m22.trans a6, fun i hi => by rw [d, m23 i hi]; exact a7 i hi⟩
  · unfold Trn at *
    rw [oM _ _ rfl, oD _ _ rfl, oM _ _ rfl, oD _ _ rfl]; exact tr
theorem stp_sheet (x y z : Int32) : StpB N (fD_sheet x y z) (fM_sheet x y z) := by
  rintro μ ⟨⟨A, B, h⟩, r⟩
  have n0 : nI 0 = 0 := rfl
  have n1 : ¬ nI 1 = 0 := by decide +kernel
  have I0 : Inv (N + 60) μ := Inv_n ⟨⟨A, B, h⟩, r⟩
  unfold fD_sheet fM_sheet
  rw [isSheetD_ok, bind_s]
  rcases rgN x 0 3 (by omega) (by omega) with g | ⟨k, -, hk, rfl⟩
  · rw [if_neg g, if_pos n0]
    refine ⟨-1, μ, μ, rfl, ?_, I0⟩
    rw [isSheetM_ok, if_neg (fun w => g w.1), bind_s, if_pos n0]
  have gk : nI 0 ≤ nI k ∧ nI k ≤ nI 3 := ⟨(nI_leI (by omega) (by omega)).mpr (by omega), (nI_leI (by omega) (by omega)).mpr hk⟩
  rw [if_pos gk, if_neg n1, isLane_ok, bind_s]
  rcases rgN y 0 2 (by omega) (by omega) with g | ⟨l, -, hl, rfl⟩
  · rw [if_neg g, if_pos n0]
    refine ⟨-1, μ, μ, rfl, ?_, I0⟩
    rw [isSheetM_ok, if_neg (fun w => g w.2), bind_s, if_pos n0]
  have gl : nI 0 ≤ nI l ∧ nI l ≤ nI 2 := ⟨(nI_leI (by omega) (by omega)).mpr (by omega), (nI_leI (by omega) (by omega)).mpr hl⟩
  have im : ∀ m, fM_isSheet (nI k) (nI l) m = some (nI 1) := fun m => by rw [isSheetM_ok, if_pos ⟨gk, gl⟩]
  rw [if_pos gl, if_neg n1]
  by_cases z40 : z ≤ 40
  rotate_left
  · refine ⟨-1, μ, μ, ?_, ?_, I0⟩
    · rw [if_neg z40]
    · rw [im, bind_s, if_neg n1, if_neg z40]
  by_cases z0 : 0 ≤ z
  rotate_left
  · refine ⟨-14, μ, μ, ?_, ?_, I0⟩
    · rw [if_pos z40, if_neg z0]
    · rw [im, bind_s, if_neg n1, if_pos z40, if_neg z0]
  rcases rgN z 0 40 (by omega) (by omega) with g | ⟨s, -, hs, rfl⟩
  · exact absurd ⟨z0, z40⟩ g
  rw [if_pos z40, if_pos z0, gd_in (by omega) (by omega), ix_n (by omega)]
  unfold fS_renew
  rw [lt_def, lt_def]
  generalize e1 : wr (wr μ (3, k, 0) 2 (nI l)) (3, k, 0) 0 (nI s) = m1
  have o1 : Off (sSd k) μ m1 := by rw [← e1]; exact Off_wr (Off_wr (Off_refl _ _) (by simp [sSd])) (by simp [sSd])
  have a0 : m1 (3, k, 0) 0 = nI s := by rw [← e1, wr_at]
  have a2 : m1 (3, k, 0) 2 = nI l := by rw [← e1, wr_off _ _ (by simp), wr_at]
  obtain ⟨m2, e2, o2, v2⟩ := fill32_ok m1 k
  have o12 : Off (sSd k) μ m2 := Off_trans o1 (Off_mono o2 (fun r i h => by
    cases w : r == (3, k, 2) with
    | true => rw [beq_iff_eq] at w; rw [w] at h; simp [sSd] at h
    | false => rfl))
  generalize e3 : wr (wr m2 (5, 0, 21) k (nI l)) (5, 0, 22) k (nI s) = m3
  have o3 : Off (sSm k) m2 m3 := by rw [← e3]; exact Off_wr (Off_wr (Off_refl _ _) (by simp [sSm])) (by simp [sSm])
  have b21 : m3 (5, 0, 21) k = nI l := by rw [← e3, wr_off _ _ (by simp), wr_at]
  have b22 : m3 (5, 0, 22) k = nI s := by rw [← e3, wr_at]
  obtain ⟨m4, e4, o4, v4⟩ := zeroM_ok m3 (k := k) (by omega)
  have e4' : lz11 (bM_sheet_40 (nI k)) FU 0 m3 = some (nI 1, m4) := e4
  have o34 : Off (sSm k) m2 m4 := Off_trans o3 (Off_mono o4 (fun r i h => by
    simp only [sSm, Bool.or_eq_false_iff] at h; exact h.2))
  refine ⟨nI 1, m2, m4, ?_, ?_, Inv_sh h r (by omega) o12 o34 (Or.inr ⟨s, l, hs, hl, ?_, ?_, ?_, ?_, fun i hi => ?_⟩)⟩
  · rw [e2, bind_s, bind_s]; rfl
  · rw [im, bind_s, if_neg n1, if_pos z40, if_pos z0, gd_in (by omega) (by omega), lt_def, gd_in (by omega) (by omega), lt_def, e3, lt_def, e4']
  · rw [o34 _ _ rfl, o2 _ _ (by simp)]; exact a0
  · rw [o34 _ _ rfl, o2 _ _ (by simp)]; exact a2
  · rw [o4 _ _ rfl]; exact b21
  · rw [o4 _ _ rfl]; exact b22
  · rw [v4 i hi, o34 _ _ rfl, v2 i hi]
theorem stp_lay (x y z : Int32) : StpB N (fD_lay x y z) (fM_lay x y z) := by
  rintro μ ⟨⟨A, B, h⟩, r⟩
  have n0 : nI 0 = 0 := rfl
  have n1 : ¬ nI 1 = 0 := by decide +kernel
  have I0 : Inv (N + 60) μ := Inv_n ⟨⟨A, B, h⟩, r⟩
  unfold fD_lay fM_lay
  rw [isSheetD_ok, bind_s]
  rcases rgN x 0 3 (by omega) (by omega) with g | ⟨k, -, hk, rfl⟩
  · rw [if_neg g, if_pos n0]
    refine ⟨-1, μ, μ, rfl, ?_, I0⟩
    rw [isSheetM_ok, if_neg (fun w => g w.1), bind_s, if_pos n0]
  have gk : nI 0 ≤ nI k ∧ nI k ≤ nI 3 := ⟨(nI_leI (by omega) (by omega)).mpr (by omega), (nI_leI (by omega) (by omega)).mpr hk⟩
  have im : ∀ m, fM_isSheet (nI k) 0 m = some (nI 1) := fun m => by
    rw [isSheetM_ok, if_pos ⟨gk, (by decide +kernel : nI 0 ≤ (0 : Int32)), (by decide +kernel : (0 : Int32) ≤ nI 2)⟩]
  rw [if_pos gk, if_neg n1, gd_in (by omega) (by omega), ix_n (by omega)]
  unfold fS_faultOfCell
  rcases r.2.2.2.1 k (by omega) with ⟨a, b⟩ | ⟨s, l, s40, l2, a3, a4, a5, a6, a7⟩
  · rw [a, if_neg (by decide +kernel), bind_s, lt_def, if_neg (by decide +kernel)]
    refine ⟨_, μ, μ, rfl, ?_, I0⟩
    rw [im, bind_s, if_neg n1, gd_in (by omega) (by omega), b, if_pos rfl]
    rfl
  have nl : ¬ nI l = -4 := fun w => of_eq_false (nI_eqn (a := l) (k := 4) (by omega) (by omega) (by omega)) w
  have ps : (0 : Int32) ≤ nI s := nI_pos' (by omega)
  have ip := inP (n := s) (by omega) y μ
  rw [a3, if_pos ps]
  rcases pk_ix y (n := s) (by omega) with c | c | ⟨i, hi, rfl⟩
  · have np : ¬ ∃ p, p < s ∧ y = nI p := fun ⟨p, hp, e⟩ => by rw [e] at c; exact nI_pos (by omega) c
    rw [if_pos c, bind_s, lt_def, if_neg (by decide +kernel)]
    refine ⟨_, μ, μ, rfl, ?_, I0⟩
    rw [im, bind_s, if_neg n1, gd_in (by omega) (by omega), a5, if_neg nl, gd_in (by omega) (by omega), a6, ip, if_neg np, bind_s, if_pos n0]
    rfl
  · by_cases c0 : y < 0
    · exact absurd (Int32.lt_of_le_of_lt (Int32.le_trans ps c) c0) (by decide +kernel)
    have np : ¬ ∃ p, p < s ∧ y = nI p := fun ⟨p, hp, e⟩ => by rw [e] at c; exact nI_ge hp (by omega) c
    rw [if_neg c0, if_neg (Int32.not_lt.mpr c), bind_s, lt_def, if_neg (by decide +kernel)]
    refine ⟨_, μ, μ, rfl, ?_, I0⟩
    rw [im, bind_s, if_neg n1, gd_in (by omega) (by omega), a5, if_neg nl, gd_in (by omega) (by omega), a6, ip, if_neg np, bind_s, if_pos n0]
    rfl
  · have c0 : ¬ nI i < (0 : Int32) := nI_pos (by omega)
    have c1 : nI i < nI s := (nI_ltI (by omega) (by omega)).mpr hi
    have yp : ∃ p, p < s ∧ nI i = nI p := ⟨i, hi, rfl⟩
    have ex : (40 : Int32) * nI k + nI i = nI (40 * k + i) := by
      have : (40 : Int32) = nI 40 := rfl
      rw [this, pk_mul, nI_add]
    rw [if_neg c0, if_pos c1, bind_s, lt_def, if_pos rfl, gd_in (by omega) (by omega)]
    have put : ∀ w : Int32, (if l = 0 then z.toInt8.toInt32 else if l = 1 then z.toInt16.toInt32 else z) = w → fS_put k (nI i) z μ = some (wr μ (3, k, 2) i w) := by
      intro w hw
      unfold fS_put
      rw [a4, gd_in (by omega) (by omega), gd_in (by omega) (by omega), gd_in (by omega) (by omega), ix_n (by omega), lt_def, lt_def, lt_def]
      have : l = 0 ∨ l = 1 ∨ l = 2 := by omega
      rcases this with rfl | rfl | rfl
      · rw [if_pos n0]; rw [if_pos rfl] at hw; rw [hw]
      · rw [if_neg n1, if_pos (show nI 1 = (1 : Int32) from rfl)]; rw [if_neg (by omega), if_pos rfl] at hw; rw [hw]
      · rw [if_neg (show ¬ nI 2 = (0 : Int32) by decide +kernel), if_neg (show ¬ nI 2 = (1 : Int32) by decide +kernel)]; rw [if_neg (by omega), if_neg (by omega)] at hw; rw [hw]
    generalize hw : (if l = 0 then z.toInt8.toInt32 else if l = 1 then z.toInt16.toInt32 else z) = w at put
    rw [put w rfl, bind_s]
    have oD : Off (sSd k) μ (wr μ (3, k, 2) i w) := Off_wr (Off_refl _ _) (by simp [sSd])
    generalize e1 : wr μ (3, k, 2) i w = m1 at oD
    have d0 : m1 (3, k, 0) 0 = nI s := by rw [← e1, wr_off _ _ (by simp)]; exact a3
    have d2 : m1 (3, k, 0) 2 = nI l := by rw [← e1, wr_off _ _ (by simp)]; exact a4
    have oM : Off (sSm k) m1 (wr m1 (5, 0, 23) (40 * k + i) w) := Off_wr (Off_refl _ _) (by simp [sSm]; omega)
    have b21 : m1 (5, 0, 21) k = nI l := (oD _ _ rfl).trans a5
    have b22 : m1 (5, 0, 22) k = nI s := (oD _ _ rfl).trans a6
    have ip1 := inP (n := s) (by omega) (nI i) m1
    refine ⟨nI 1, m1, wr m1 (5, 0, 23) (40 * k + i) w, rfl, ?_, Inv_sh h r (by omega) oD oM (Or.inr ⟨s, l, s40, l2, ?_, ?_, ?_, ?_, fun j hj => ?_⟩)⟩
    · rw [im, bind_s, if_neg n1, gd_in (by omega) (by omega), b21, if_neg nl, gd_in (by omega) (by omega), b22, ip1, if_pos yp, bind_s, if_neg n1, gd_in (by omega) (by omega), gd_in (by omega) (by omega), ex, gd_in (by omega) (by omega), gd_in (by omega) (by omega), gd_in (by omega) (by omega), ix_n (by omega), lt_def, lt_def, lt_def]
      have : l = 0 ∨ l = 1 ∨ l = 2 := by omega
      rcases this with rfl | rfl | rfl
      · rw [if_pos n0]; rw [if_pos rfl] at hw; rw [hw]; rfl
      · rw [if_neg n1, if_pos (show nI 1 = (1 : Int32) from rfl)]; rw [if_neg (by omega), if_pos rfl] at hw; rw [hw]; rfl
      · rw [if_neg (show ¬ nI 2 = (0 : Int32) by decide +kernel), if_neg (show ¬ nI 2 = (1 : Int32) by decide +kernel)]; rw [if_neg (by omega), if_neg (by omega)] at hw; rw [hw]; rfl
    · rw [oM _ _ rfl]; exact d0
    · rw [oM _ _ rfl]; exact d2
    · rw [wr_off _ _ (by simp)]; exact b21
    · rw [wr_off _ _ (by simp)]; exact b22
    · rw [wr_off _ _ (by simp), ← e1, wr_get, wr_get]
      by_cases e : j = i
      · subst e; rw [if_pos ⟨rfl, rfl⟩, if_pos ⟨rfl, rfl⟩]
      · rw [if_neg (fun q => e q.2), if_neg (fun q => e (by have := q.2; omega)), wr_off _ _ (by simp)]
        exact a7 j hj
end Shts
