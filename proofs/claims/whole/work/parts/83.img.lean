section Imgs
variable {N : Nat}
theorem isImage_ok (x : Int32) (m : Mem) : fD_isImage x m = some (if nI 0 ≤ x ∧ x ≤ nI 1 then nI 1 else nI 0) := by
  unfold fD_isImage
  by_cases g : nI 0 ≤ x ∧ x ≤ nI 1
  · rcases rgN x 0 1 (by omega) (by omega) with a | ⟨j, -, h, rfl⟩
    · exact absurd g a
    · have c0 : ¬ nI j < (0 : Int32) := nI_pos (by omega)
      have c1 : ¬ (2 : Int32) ≤ nI j := fun z => by have := (nI_leI (a := 2) (by omega) (by omega)).mp z; omega
      rw [if_pos g, if_neg c0, if_neg c1]; rfl
  · rw [if_neg g]
    exact rg_no2 (l := 0) (h := 1) (by omega) g _ _
theorem isSheetD_ok (x : Int32) (m : Mem) : fD_isSheet x m = some (if nI 0 ≤ x ∧ x ≤ nI 3 then nI 1 else nI 0) := by
  unfold fD_isSheet
  by_cases g : nI 0 ≤ x ∧ x ≤ nI 3
  · rcases rgN x 0 3 (by omega) (by omega) with a | ⟨j, -, h, rfl⟩
    · exact absurd g a
    · have c0 : ¬ nI j < (0 : Int32) := nI_pos (by omega)
      have c1 : ¬ (4 : Int32) ≤ nI j := fun z => by have := (nI_leI (a := 4) (by omega) (by omega)).mp z; omega
      rw [if_pos g, if_neg c0, if_neg c1]; rfl
  · rw [if_neg g]
    exact rg_no2 (l := 0) (h := 3) (by omega) g _ _
theorem isLane_ok (x : Int32) (m : Mem) : fD_isLane x m = some (if nI 0 ≤ x ∧ x ≤ nI 2 then nI 1 else nI 0) := by
  unfold fD_isLane
  by_cases g : nI 0 ≤ x ∧ x ≤ nI 2
  · rcases rgN x 0 2 (by omega) (by omega) with a | ⟨j, -, h, rfl⟩
    · exact absurd g a
    · have c0 : ¬ nI j < (0 : Int32) := nI_pos (by omega)
      have c1 : ¬ (3 : Int32) ≤ nI j := fun z => by have := (nI_leI (a := 3) (by omega) (by omega)).mp z; omega
      rw [if_pos g, if_neg c0, if_neg c1]; rfl
  · rw [if_neg g]
    exact rg_no2 (l := 0) (h := 2) (by omega) g _ _
theorem isSheetM_ok (x y : Int32) (m : Mem) : fM_isSheet x y m = some (if (nI 0 ≤ x ∧ x ≤ nI 3) ∧ (nI 0 ≤ y ∧ y ≤ nI 2) then nI 1 else nI 0) := by
  have i1 : fM_in x.toInt64 (0 : Int64) (3 : Int64) m = some (if nI 0 ≤ x ∧ x ≤ nI 3 then nI 1 else nI 0) := inR x 0 3 rfl rfl m
  have i2 : fM_in y.toInt64 (0 : Int64) (2 : Int64) m = some (if nI 0 ≤ y ∧ y ≤ nI 2 then nI 1 else nI 0) := inR y 0 2 rfl rfl m
  have n0 : nI 0 = 0 := rfl
  have n1 : ¬ nI 1 = 0 := by decide +kernel
  unfold fM_isSheet
  rw [i1, bind_s, i2]
  by_cases a : nI 0 ≤ x ∧ x ≤ nI 3
  · by_cases b : nI 0 ≤ y ∧ y ≤ nI 2
    · rw [if_pos a, if_neg n1, if_pos b, bind_s, if_neg n1, if_pos ⟨a, b⟩]; rfl
    · rw [if_pos a, if_neg n1, if_neg b, bind_s, if_pos n0, if_neg (fun z => b z.2)]; rfl
  · rw [if_neg a, if_pos n0, if_neg (fun z => a z.1)]; rfl
theorem keepLoop_ok {μ : Mem} {k : Nat} (hk : k < 2) (x5 : Int32) : ∃ μ', lz11 (bM_keep_31 (nI k) x5) FU (nI 0) μ = some (x5, μ') ∧ Off (fun r i => r == (5, 0, 4) && (decide (238 * k ≤ i) && decide (i < 238 * k + 238))) μ μ' ∧ ∀ i, i < 238 → μ' (5, 0, 4) (238 * k + i) = μ (5, 0, 1) i := by
  refine up11 (B := bM_keep_31 (nI k) x5) (fun w => ∃ μ', w = some (x5, μ') ∧ Off (fun r i => r == (5, 0, 4) && (decide (238 * k ≤ i) && decide (i < 238 * k + 238))) μ μ' ∧ ∀ i, i < 238 → μ' (5, 0, 4) (238 * k + i) = μ (5, 0, 1) i) 238 (by omega) (fun i m => Off (fun r i => r == (5, 0, 4) && (decide (238 * k ≤ i) && decide (i < 238 * k + 238))) μ m ∧ ∀ j, j < i → m (5, 0, 4) (238 * k + j) = μ (5, 0, 1) j) ⟨Off_refl _ _, fun j hj => absurd hj (by omega)⟩ (fun sf i m hi hJ => ?_) (fun sf m hJ => ?_) <;> unfold bM_keep_31
  · left
    simp (disch := omega) only [lit_0, lit_1, lit_2, lit_3, lit_4, lit_5, lit_6, lit_7, lit_8, lit_9, lit_10, lit_11, lit_12, lit_13, lit_14, lit_15, lit_16, lit_17, lit_18, lit_19, lit_20, lit_23, lit_24, lit_31, lit_32, lit_34, lit_36, lit_40, lit_48, lit_49, lit_57, lit_58, lit_59, lit_60, lit_64, lit_96, lit_97, lit_99, lit_101, lit_105, lit_108, lit_110, lit_111, lit_112, lit_114, lit_115, lit_116, lit_122, lit_127, lit_160, lit_216, lit_235, lit_238, lit_343, lit_476, lit_1296, lit_2000, lit_2401, lt_def, bind_s, gd_d, ix_n, inb_n, nI_add, pk_mul, pk_sub, nI_leI, nI_ltI, nI_eq, nI_ltn, nI_eqn, nI_eqn2, if_pos, if_neg, if_true, if_false, nI_addm1]
    refine ⟨_, ⟨Off_wr hJ.1 (by simp; omega), fun j hj => ?_⟩, rfl⟩
    rw [wr_get]
    by_cases e : j = i
    · subst e; rw [if_pos ⟨rfl, rfl⟩]; exact hJ.1 _ _ (by simp)
    · rw [if_neg (fun z => e (by have := z.2; omega))]; exact hJ.2 j (by omega)
  · simp (disch := omega) only [lit_0, lit_1, lit_2, lit_3, lit_4, lit_5, lit_6, lit_7, lit_8, lit_9, lit_10, lit_11, lit_12, lit_13, lit_14, lit_15, lit_16, lit_17, lit_18, lit_19, lit_20, lit_23, lit_24, lit_31, lit_32, lit_34, lit_36, lit_40, lit_48, lit_49, lit_57, lit_58, lit_59, lit_60, lit_64, lit_96, lit_97, lit_99, lit_101, lit_105, lit_108, lit_110, lit_111, lit_112, lit_114, lit_115, lit_116, lit_122, lit_127, lit_160, lit_216, lit_235, lit_238, lit_343, lit_476, lit_1296, lit_2000, lit_2401, lt_def, bind_s, gd_d, ix_n, inb_n, nI_add, pk_mul, pk_sub, nI_leI, nI_ltI, nI_eq, nI_ltn, nI_eqn, nI_eqn2, if_pos, if_neg, if_true, if_false, nI_addm1]
    exact ⟨m, rfl, hJ.1, hJ.2⟩
theorem backLoop_ok {μ : Mem} {k : Nat} (hk : k < 2) : ∃ μ', lz11 (bM_back_26 (nI k)) FU (nI 0) μ = some (μ' (5, 0, 1) 1, μ') ∧ Off sSt μ μ' ∧ ∀ i, i < 238 → μ' (5, 0, 1) i = μ (5, 0, 4) (238 * k + i) := by
  refine up11 (B := bM_back_26 (nI k)) (fun w => ∃ μ', w = some (μ' (5, 0, 1) 1, μ') ∧ Off sSt μ μ' ∧ ∀ i, i < 238 → μ' (5, 0, 1) i = μ (5, 0, 4) (238 * k + i)) 238 (by omega) (fun i m => Off sSt μ m ∧ ∀ j, j < i → m (5, 0, 1) j = μ (5, 0, 4) (238 * k + j)) ⟨Off_refl _ _, fun j hj => absurd hj (by omega)⟩ (fun sf i m hi hJ => ?_) (fun sf m hJ => ?_) <;> unfold bM_back_26
  · left
    simp (disch := omega) only [lit_0, lit_1, lit_2, lit_3, lit_4, lit_5, lit_6, lit_7, lit_8, lit_9, lit_10, lit_11, lit_12, lit_13, lit_14, lit_15, lit_16, lit_17, lit_18, lit_19, lit_20, lit_23, lit_24, lit_31, lit_32, lit_34, lit_36, lit_40, lit_48, lit_49, lit_57, lit_58, lit_59, lit_60, lit_64, lit_96, lit_97, lit_99, lit_101, lit_105, lit_108, lit_110, lit_111, lit_112, lit_114, lit_115, lit_116, lit_122, lit_127, lit_160, lit_216, lit_235, lit_238, lit_343, lit_476, lit_1296, lit_2000, lit_2401, lt_def, bind_s, gd_d, ix_n, inb_n, nI_add, pk_mul, pk_sub, nI_leI, nI_ltI, nI_eq, nI_ltn, nI_eqn, nI_eqn2, if_pos, if_neg, if_true, if_false, nI_addm1]
    refine ⟨_, ⟨Off_wr hJ.1 rfl, fun j hj => ?_⟩, rfl⟩
    rw [wr_get]
    by_cases e : j = i
    · subst e; rw [if_pos ⟨rfl, rfl⟩]; exact hJ.1 _ _ rfl
    · rw [if_neg (fun z => e z.2)]; exact hJ.2 j (by omega)
  · unfold jM_back_57
    simp (disch := omega) only [lit_0, lit_1, lit_2, lit_3, lit_4, lit_5, lit_6, lit_7, lit_8, lit_9, lit_10, lit_11, lit_12, lit_13, lit_14, lit_15, lit_16, lit_17, lit_18, lit_19, lit_20, lit_23, lit_24, lit_31, lit_32, lit_34, lit_36, lit_40, lit_48, lit_49, lit_57, lit_58, lit_59, lit_60, lit_64, lit_96, lit_97, lit_99, lit_101, lit_105, lit_108, lit_110, lit_111, lit_112, lit_114, lit_115, lit_116, lit_122, lit_127, lit_160, lit_216, lit_235, lit_238, lit_343, lit_476, lit_1296, lit_2000, lit_2401, lt_def, bind_s, gd_d, ix_n, inb_n, nI_add, pk_mul, pk_sub, nI_leI, nI_ltI, nI_eq, nI_ltn, nI_eqn, nI_eqn2, if_pos, if_neg, if_true, if_false, nI_addm1]
    exact ⟨m, rfl, hJ.1, hJ.2⟩
theorem stp_keep (x : Int32) : StpB N (fD_keep x) (fM_keep x) := by
  rintro μ ⟨⟨A, B, h⟩, r⟩
  obtain ⟨R, RR, O, S, C, hA⟩ := id h
  obtain ⟨tp, fl, im, sh, tr⟩ := id r
  have n0 : nI 0 = 0 := rfl
  have n1 : ¬ nI 1 = 0 := by decide +kernel
  have i1 : ∀ m, fM_in x.toInt64 (0 : Int64) (1 : Int64) m = some (if nI 0 ≤ x ∧ x ≤ nI 1 then nI 1 else nI 0) := fun m => inR x 0 1 rfl rfl m
  unfold fD_keep fM_keep
  rw [isImage_ok, bind_s]
  rcases rgN x 0 1 (by omega) (by omega) with g | ⟨k, -, hk, rfl⟩
  · rw [if_neg g, if_pos n0]
    refine ⟨-1, μ, μ, rfl, ?_, Inv_n ⟨⟨A, B, h⟩, r⟩⟩
    rw [i1, if_neg g, bind_s, if_pos n0]
  have gx : nI 0 ≤ nI k ∧ nI k ≤ nI 1 := ⟨(nI_leI (by omega) (by omega)).mpr (by omega), (nI_leI (by omega) (by omega)).mpr hk⟩
  have kv : ∃ b, b ≤ 1 ∧ μ (4, 0, 4) k = nI b ∧ μ (5, 0, 5) k = nI b := by
    rcases im k (by omega) with ⟨a, b⟩ | ⟨a, b, -⟩
    · exact ⟨0, by omega, a, b⟩
    · exact ⟨1, by omega, a, b⟩
  obtain ⟨b, hb, kb, qb⟩ := kv
  have fb : ∀ m, fM_flag (nI b) m = some (nI b) := fun m => by
    have : b = 0 ∨ b = 1 := by omega
    rcases this with rfl | rfl <;> rfl
  have vb : (if nI b = (0 : Int32) then (0 : Int32) else 1) = nI b := by
    have : b = 0 ∨ b = 1 := by omega
    rcases this with rfl | rfl <;> rfl
  have nb1 : vp_nar .boolean (1 : Int32) = nI 1 := nar_b1
  obtain ⟨m1, e1, o1, R1⟩ := copyOk (k1 := 2 + k) (k2 := 0) (by omega) R O
  have sne : ∀ k' j i, k' ≠ 2 + k → sLn (2 + k) (0, k', j) i = false := fun k' j i hne => sLn_ne (fun z => hne z.symm) j i
  have R0 : RepL m1 0 A := RepL_off o1 (fun j i => sne 0 j i (by omega)) R
  rw [if_pos gx, if_neg n1, gd_in (by omega) (by omega), ix_n (by omega), kb, vb, lt_def, lt_def, gd_in (by omega) (by omega), e1, bind_s, gd_in (by omega) (by omega), nb1, lt_def]
  have o2 : Off (fun r i => r == (4, 0, 4) && i == k) m1 (wr m1 (4, 0, 4) k (nI 1)) := Off_wr (Off_refl _ _) (by simp)
  generalize e2 : wr m1 (4, 0, 4) k (nI 1) = m2 at o2
  have k2 : m2 (4, 0, 4) k = nI 1 := by rw [← e2, wr_at]
  have q2 : m2 (5, 0, 5) k = nI b := by rw [o2 _ _ rfl, o1 _ _ rfl]; exact qb
  have o3 : Off (fun r i => r == (5, 0, 5) && i == k) m2 (wr m2 (5, 0, 5) k (nI 1)) := Off_wr (Off_refl _ _) (by simp)
  obtain ⟨m4, e4, o4, v4⟩ := keepLoop_ok (μ := wr m2 (5, 0, 5) k (nI 1)) (k := k) (by omega) (nI b)
  refine ⟨nI b, m2, m4, rfl, ?_, ?_⟩
  · have e4' : lz11 (bM_keep_31 (nI k) (nI b)) FU 0 (wr m2 (5, 0, 5) k (nI 1)) = some (nI b, m4) := e4
    rw [i1, if_pos gx, bind_s, if_neg n1, gd_in (by omega) (by omega), q2, fb, bind_s, lt_def, gd_in (by omega) (by omega), lt_def, lt_def, e4']
  · generalize e3 : wr m2 (5, 0, 5) k (nI 1) = m3 at o3 e4 o4 v4
    have q3 : m3 (5, 0, 5) k = nI 1 := by rw [← e3, wr_at]
    have st : ∀ i, m4 (5, 0, 1) i = μ (5, 0, 1) i := fun i => by rw [o4 _ _ rfl, o3 _ _ rfl, o2 _ _ rfl, o1 _ _ rfl]
    have cls : ∀ j i, j ≠ 2 + k → ∀ a, m4 (0, j, a) i = μ (0, j, a) i := fun j i hj a => by rw [o4 _ _ rfl, o3 _ _ rfl, o2 _ _ rfl, o1 _ _ (sne j a i hj)]
    have all : ∀ rr i, ¬ (rr.1 = 0 ∧ rr.2.1 = 2 + k) → rr ≠ (4, 0, 4) → rr ≠ (5, 0, 5) → rr ≠ (5, 0, 4) → m4 rr i = μ rr i := by
      intro rr i h1 h2 h3 h4
      rw [o4 _ _ (by simp [h4]), o3 _ _ (by simp [h3]), o2 _ _ (by simp [h2])]
      refine o1 _ _ ?_
      unfold sLn
      simp
      exact fun a c => h1 ⟨a, c⟩
    have oB : Off (fun rr _ => (rr.1 == 0 && rr.2.1 == 2 + k) || (rr == (4, 0, 4) || (rr == (5, 0, 5) || rr == (5, 0, 4)))) μ m4 := by
      intro rr i q
      simp only [Bool.or_eq_false_iff, beq_eq_false_iff_ne, ne_eq, Bool.and_eq_false_iff] at q
      obtain ⟨q1, q2, q3, q4⟩ := q
      exact all rr i (fun z => q1.elim (fun w => w z.1) (fun w => w z.2)) q2 q3 q4
    refine Inv_n ⟨⟨A, B, RepL_off oB (fun j i => by simp <;> omega) R, RepR_off oB (fun _ => by simp) RR, O, S, Cache_off oB (fun _ _ => by simp) C, hA⟩, Tape_off oB (by simp) (fun _ => by simp) (by simp) (fun _ => by simp) tp, ?_, fun k' hk' => ?_, fun k' hk' => ShtK_off oB (fun _ _ _ => by simp) (fun _ => by simp) (fun _ => by simp) (fun _ => by simp) (sh k' hk'), ?_⟩
    · unfold Flt at *
      rw [oB _ _ (by simp), oB _ _ (by simp)]; exact fl
    · by_cases e : k' = k
      · subst e
        refine Or.inr ⟨?_, ?_, A, B, ?_, ?_, O, S, hA⟩
        · rw [o4 _ _ rfl, o3 _ _ rfl]; exact k2
        · rw [o4 _ _ rfl]; exact q3
        · exact RepL_off o4 (fun _ _ => rfl) (RepL_off o3 (fun _ _ => rfl) (RepL_off o2 (fun _ _ => rfl) R1))
        · refine RepR_okx RR O (fun i hi => ?_)
          show m4 (5, 0, 4) (238 * k' + i) = _
          rw [v4 i hi, o3 _ _ rfl, o2 _ _ rfl, o1 _ _ rfl]
      · have c4 : m4 (4, 0, 4) k' = μ (4, 0, 4) k' := by rw [o4 _ _ rfl, o3 _ _ rfl, o2 _ _ (by simp [e]), o1 _ _ rfl]
        have c5 : m4 (5, 0, 5) k' = μ (5, 0, 5) k' := by rw [o4 _ _ rfl, o3 _ _ (by simp [e]), o2 _ _ rfl, o1 _ _ rfl]
        have c6 : ∀ i, i < 238 → m4 (5, 0, 4) (238 * k' + i) = μ (5, 0, 4) (238 * k' + i) := fun i hi => by
          rw [o4 _ _ (by simp; omega), o3 _ _ rfl, o2 _ _ rfl, o1 _ _ rfl]
        rcases im k' hk' with ⟨a, c⟩ | ⟨a, c, A', B', x1, x2, x3, x4, x5⟩
        · exact Or.inl ⟨c4.trans a, c5.trans c⟩
        · refine Or.inr ⟨c4.trans a, c5.trans c, A', B', RepL_off oB (fun j i => by simp; omega) x1, RepR_okx x2 x3 (fun i hi => c6 i hi), x3, x4, x5⟩
    · unfold Trn at *
      rw [oB _ _ (by simp), oB _ _ (by simp)]; exact tr
theorem stp_back (x : Int32) : StpB N (fD_back x) (fM_back x) := by
  rintro μ ⟨⟨A, B, h⟩, r⟩
  obtain ⟨R, RR, O, S, C, hA⟩ := id h
  obtain ⟨tp, fl, im, sh, tr⟩ := id r
  have n0 : nI 0 = 0 := rfl
  have n1 : ¬ nI 1 = 0 := by decide +kernel
  have i1 : ∀ m, fM_in x.toInt64 (0 : Int64) (1 : Int64) m = some (if nI 0 ≤ x ∧ x ≤ nI 1 then nI 1 else nI 0) := fun m => inR x 0 1 rfl rfl m
  unfold fD_back fM_back
  rw [isImage_ok, bind_s]
  rcases rgN x 0 1 (by omega) (by omega) with g | ⟨k, -, hk, rfl⟩
  · rw [if_neg g, if_pos n0]
    refine ⟨-1, μ, μ, rfl, ?_, Inv_n ⟨⟨A, B, h⟩, r⟩⟩
    rw [i1, if_neg g, bind_s, if_pos n0]
  have gx : nI 0 ≤ nI k ∧ nI k ≤ nI 1 := ⟨(nI_leI (by omega) (by omega)).mpr (by omega), (nI_leI (by omega) (by omega)).mpr hk⟩
  rw [if_pos gx, if_neg n1, gd_in (by omega) (by omega), ix_n (by omega)]
  rcases im k (by omega) with ⟨a, b⟩ | ⟨a, b, A', B', x1, x2, x3, x4, x5⟩
  · refine ⟨-2, μ, μ, ?_, ?_, Inv_n ⟨⟨A, B, h⟩, r⟩⟩
    · rw [a, if_pos n0]
    · rw [i1, if_pos gx, bind_s, if_neg n1, gd_in (by omega) (by omega), b, if_pos n0]
  · obtain ⟨m1, e1, o1, R1⟩ := copyOk (k1 := 0) (k2 := 2 + k) (by omega) x1 x3
    obtain ⟨m2, e2, o2, -, -, C2⟩ := forget_ok m1
    have R2 : RepL m2 0 A' := RepL_off o2 (fun _ _ => rfl) R1
    obtain ⟨m3, e3, o3, v3⟩ := backLoop_ok (μ := m2) (k := k) (by omega)
    have e3' : lz11 (bM_back_26 (nI k)) FU 0 m2 = some (m3 (5, 0, 1) 1, m3) := e3
    have b2 : m2 (5, 0, 5) k = nI 1 := by rw [o2 _ _ rfl, o1 _ _ rfl]; exact b
    have RR3 : RepR (m3 (5, 0, 1)) A' B' := RepR_okx x2 x3 (fun i hi => by rw [v3 i hi, o2 _ _ rfl, o1 _ _ rfl])
    refine ⟨nI (A' 4 0), m2, m3, ?_, ?_, Inv_c r (Off_trans (Off_mono o1 sAd_l) (Off_mono o2 sAd_f)) R2 (C2 A') (Off_mono o3 sAm_st) RR3 x3 x4 (by omega)⟩
    · rw [a, if_neg n1, gd_in (by omega) (by omega), e1, bind_s, e2, bind_s, R2.n]
    · rw [i1, if_pos gx, bind_s, if_neg n1, gd_in (by omega) (by omega), b2, if_neg n1, lt_def, e3', RR3.n]
end Imgs
