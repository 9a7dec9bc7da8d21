/-! the class's plan -/
noncomputable def plJ (A : Ab) (r : Nat) : Nat := fst (fun j => decide (wtA (letA (itA A r j) r) (A 4 0) = 0)) 21 0
noncomputable def finA (A : Ab) (r : Nat) : Ab := letA (itA A r (plJ A r)) r
noncomputable def plV (A : Ab) (r so : Nat) : Nat := if so = 0 then mx (fun t => finA A r 10 t) (A 4 0) else sm (fun t => finA A r 10 t) (A 4 0)
section Plan2
variable {μ : Mem} {k : Nat} {A : Ab} {B : Nat → Nat → Nat}
theorem plJ_ok (O : OkA A) (hc : A 11 0 + 200 < 2 ^ 19) (r : Nat) : (∀ j, j < plJ A r → 0 < wtA (letA (itA A r j) r) (A 4 0)) ∧ wtA (letA (itA A r (plJ A r)) r) (A 4 0) = 0 ∧ plJ A r ≤ 20 := by
  have sp := fst_spec (fun j => decide (wtA (letA (itA A r j) r) (A 4 0) = 0)) 21 0
  have h1 : ∀ j, j < plJ A r → 0 < wtA (letA (itA A r j) r) (A 4 0) := fun j hj => by
    have := of_decide_eq_false (sp.1 j (by omega) hj)
    omega
  have h2 := (it_ok O hc h1).2.2.2.2.2.2.1
  have h3 := (phi_b O).2
  have h4 : plJ A r < 0 + 21 := by omega
  exact ⟨h1, of_decide_eq_true (sp.2 h4), by omega⟩
theorem fin_ok (O : OkA A) (hc : A 11 0 + 200 < 2 ^ 19) (S : SafeA A (dA A)) (r : Nat) : OkA (finA A r) ∧ StEq A (finA A r) ∧ ∀ t, t < A 4 0 → finA A r 9 t = 2 := by
  obtain ⟨h1, h2, h3⟩ := plJ_ok O hc r
  obtain ⟨o, s, d, rc, sf, ph, ps, ck⟩ := it_ok O hc h1
  have pb := phi_b O
  obtain ⟨lo, ls, lc, ld, lr, lsf, lph, lps, lf⟩ := let_ok o (by omega) r
  have st : StEq A (finA A r) := fun f hf => (ls f hf).trans (s f hf)
  have e4 : finA A r 4 = A 4 := st 4 (by omega)
  have e4' : itA A r (plJ A r) 4 = A 4 := s 4 (by omega)
  refine ⟨lo, st, fun t ht => ?_⟩
  refine all_done lo ((Safe_st st).mpr ((Safe_st s).mp (lsf ((Safe_st s).mpr (sf S))))) (fun u hu => ?_) ?_ t ?_
  · rw [e4'] at lf
    refine fbI_some _ _ _ lf u ?_
    have : u < finA A r 4 0 := hu
    rw [e4] at this
    exact this
  · show wtA (finA A r) (finA A r 4 0) = 0
    rw [e4]; exact h2
  · show t < finA A r 4 0
    rw [e4]; exact ht
theorem sumW_ok (R : RepL μ k A) (O : OkA A) (hd : ∀ t, t < A 4 0 → A 9 t ≠ 0) : fD_sum_0_11 k (nI (A 4 0)) μ = some (nI (sm (fun t => A 10 t) (A 4 0))) := by
  have hn := O.n4
  unfold fD_sum_0_11
  simp only [lt_def]
  refine ac20 (B := bD_sum_0_11_4 k (nI (A 4 0)) μ) (A 4 0) (by omega) (fun i => nI (sm (fun t => A 10 t) i)) (fun sf i hi => ?_) (fun sf => ?_) <;> unfold bD_sum_0_11_4
  · simp (disch := omega) only [lit_0, lit_1, lit_2, lit_3, lit_4, lit_5, lit_6, lit_7, lit_8, lit_9, lit_10, lit_11, lit_12, lit_13, lit_14, lit_15, lit_16, lit_17, lit_18, lit_19, lit_20, lit_23, lit_24, lit_31, lit_32, lit_34, lit_36, lit_40, lit_48, lit_49, lit_57, lit_58, lit_59, lit_60, lit_64, lit_96, lit_97, lit_99, lit_101, lit_105, lit_108, lit_110, lit_111, lit_112, lit_114, lit_115, lit_116, lit_122, lit_127, lit_160, lit_216, lit_235, lit_238, lit_343, lit_476, lit_1296, lit_2000, lit_2401, lt_def, bind_s, gd_d, ix_n, inb_n, nI_add, pk_mul, pk_sub, nI_leI, nI_ltI, nI_eq, nI_ltn, nI_eqn, nI_eqn2, if_pos, if_neg, if_true, if_false, nI_addm1, R.wh hi (hd i hi), sm_s]
  · simp (disch := omega) only [lit_0, lit_1, lit_2, lit_3, lit_4, lit_5, lit_6, lit_7, lit_8, lit_9, lit_10, lit_11, lit_12, lit_13, lit_14, lit_15, lit_16, lit_17, lit_18, lit_19, lit_20, lit_23, lit_24, lit_31, lit_32, lit_34, lit_36, lit_40, lit_48, lit_49, lit_57, lit_58, lit_59, lit_60, lit_64, lit_96, lit_97, lit_99, lit_101, lit_105, lit_108, lit_110, lit_111, lit_112, lit_114, lit_115, lit_116, lit_122, lit_127, lit_160, lit_216, lit_235, lit_238, lit_343, lit_476, lit_1296, lit_2000, lit_2401, lt_def, bind_s, gd_d, ix_n, inb_n, nI_add, pk_mul, pk_sub, nI_leI, nI_ltI, nI_eq, nI_ltn, nI_eqn, nI_eqn2, if_pos, if_neg, if_true, if_false, nI_addm1]
theorem Looked_st {A' : Ab} (s : StEq A A') (e : dA A' = dA A) (h : Looked μ A) : Looked μ A' := by
  refine ⟨by rw [e]; exact h.1, fun p hp => ?_⟩
  have := h.2 p hp
  rw [e, s 4 (by omega)]
  have q : occ A' (dA A) p = occ A (dA A) p := by
    funext t
    unfold occ spotA
    rw [s 5 (by omega), s 6 (by omega)]
  rw [q]; exact this
theorem Looked_off {S : Rf → Nat → Bool} {μ' : Mem} (o : Off S μ μ') (h4 : ∀ i, S (1, 0, 4) i = false) (h5 : ∀ i, S (1, 0, 5) i = false) (h : Looked μ A) : Looked μ' A :=
  ⟨fun t ht => (o _ _ (h4 t)).trans (h.1 t ht), fun p hp => (o _ _ (h5 p)).trans (h.2 p hp)⟩
theorem sLn_p (k j i : Nat) : sLn k (1, 0, j) i = false := rfl
def sPn : Rf → Nat → Bool := fun r i => r.1 == 1 || sLn 1 r i
theorem sPn_lp (r : Rf) (i : Nat) (h : sPn r i = false) : sLP 1 r i = false := by
  simp only [sPn, Bool.or_eq_false_iff] at h
  have : sLk r i = false := sP_sLk r i h.1
  simp only [sLP, this, h.2, Bool.or_false]
theorem sPn_p (r : Rf) (i : Nat) (h : sPn r i = false) : sP r i = false := by
  simp only [sPn, Bool.or_eq_false_iff] at h; exact h.1
theorem sPn_l (r : Rf) (i : Nat) (h : sPn r i = false) : sLn 1 r i = false := by
  simp only [sPn, Bool.or_eq_false_iff] at h; exact h.2
theorem KnownLP {μ' : Mem} (o : Off (sLP k) μ μ') (K : Known μ A) : Known μ' A :=
  ⟨(o _ _ rfl).trans K.1, RoomsOk_off o (fun _ => rfl) K.2.1, (o _ _ rfl).trans K.2.2.1, EndsOk_off o (fun _ => rfl) K.2.2.2⟩
theorem plannedD_ok (R : RepL μ 0 A) (O : OkA A) (C : Cache μ A) (S : SafeA A (dA A)) (hc : A 11 0 + 200 < 2 ^ 19) {r so : Nat} (hr : r < 3) (hso : so ≤ 1) : ∃ μ', fD_planned (nI r) (nI so) μ = some (nI (plV A r so), μ') ∧ Off sPn μ μ' ∧ Known μ' A := by
  obtain ⟨h1, h2, h3⟩ := plJ_ok O hc r
  obtain ⟨fo, fs, fd⟩ := fin_ok O hc S r
  have pb := phi_b O
  unfold fD_planned
  obtain ⟨m1, e1, o1, K1, L1⟩ := learn_ok R O C
  have R1 := RepL_off o1 (fun _ _ => rfl) R
  obtain ⟨m2, e2, o2, R2⟩ := copyOk (k1 := 1) (by omega) R1 O
  have K2 : Known m2 A := Known_off o2 (fun j i => sLn_p 1 j i) K1
  have L2 : Looked m2 A := Looked_off o2 (fun i => sLn_p 1 4 i) (fun i => sLn_p 1 5 i) L1
  have o12 : Off sPn μ m2 := Off_trans (Off_mono o1 sPn_p) (Off_mono o2 sPn_l)
  rw [e1, bind_s, e2, bind_s, lt_def]
  refine up11 (B := bD_planned_24 (nI r) (nI so)) (fun w => ∃ μ', w = some (nI (plV A r so), μ') ∧ Off sPn μ μ' ∧ Known μ' A) 24 (by omega) (fun j m => j ≤ plJ A r ∧ Off sPn μ m ∧ Known m A ∧ RepL m 1 (itA A r j) ∧ Looked m (itA A r j)) ⟨by omega, o12, K2, R2, L2⟩ (fun sf j m hj hJ => ?_) (fun sf m hJ => ?_) <;> unfold bD_planned_24
  · obtain ⟨a1, a2, a3, a4, a5⟩ := hJ
    have v1 : ∀ i, i < j → 0 < wtA (letA (itA A r i) r) (A 4 0) := fun i hi => h1 i (by omega)
    obtain ⟨o, s, d, rc, sf1, ph, ps, ck⟩ := it_ok O hc v1
    have hcj : itA A r j 11 0 < 2 ^ 19 := by omega
    have K3 : Known m (itA A r j) := Known_st s d a3
    obtain ⟨m3, M, e3, o3, s3, R3, K4, L3⟩ := letAllGo_ok a4 o K3 a5 hcj hr
    have eM : M = sM (itA A r j) r := SndM_un s3 (sM_ok _ _)
    subst eM
    obtain ⟨lo, ls, lc, ld, lr, lsf, lph, lps, lf⟩ := let_ok o hcj r
    have R3' : RepL m3 1 (letA (itA A r j) r) := R3
    have L3' : Looked m3 (letA (itA A r j) r) := L3
    have e4 : letA (itA A r j) r 4 0 = A 4 0 := by rw [ls 4 (by omega), s 4 (by omega)]
    have w0 := waitForNext_ok R3' lo
    rw [e4] at w0
    have w9 := wtA_le lo (n := A 4 0) (by rw [e4]; exact Nat.le_refl _)
    have o13 : Off sPn μ m3 := Off_trans a2 (Off_mono o3 sPn_lp)
    have K5 : Known m3 A := KnownLP o3 a3
    by_cases z : j = plJ A r
    · right
      subst z
      rw [h2] at w0
      have eF : letA (itA A r (plJ A r)) r = finA A r := rfl
      rw [eF] at R3' e4
      have dn : ∀ t, t < finA A r 4 0 → finA A r 9 t ≠ 0 := fun t ht => by rw [fd t (by rw [e4] at ht; exact ht)]; omega
      have n3 := R3'.n
      rw [e4] at n3
      have su := sumW_ok R3' fo dn
      have la := latestEnd_ok R3' fo dn
      rw [e4] at su la
      have c : so = 0 ∨ so = 1 := by omega
      unfold plV
      rcases c with rfl | rfl
      · simp (disch := omega) only [lit_0, lit_1, lit_2, lit_3, lit_4, lit_5, lit_6, lit_7, lit_8, lit_9, lit_10, lit_11, lit_12, lit_13, lit_14, lit_15, lit_16, lit_17, lit_18, lit_19, lit_20, lit_23, lit_24, lit_31, lit_32, lit_34, lit_36, lit_40, lit_48, lit_49, lit_57, lit_58, lit_59, lit_60, lit_64, lit_96, lit_97, lit_99, lit_101, lit_105, lit_108, lit_110, lit_111, lit_112, lit_114, lit_115, lit_116, lit_122, lit_127, lit_160, lit_216, lit_235, lit_238, lit_343, lit_476, lit_1296, lit_2000, lit_2401, lt_def, bind_s, gd_d, ix_n, inb_n, nI_add, pk_mul, pk_sub, nI_leI, nI_ltI, nI_eq, nI_ltn, nI_eqn, nI_eqn2, if_pos, if_neg, if_true, if_false, nI_addm1, e3, w0, jD_planned_73, la]
        exact ⟨m3, rfl, o13, K5⟩
      · simp (disch := omega) only [lit_0, lit_1, lit_2, lit_3, lit_4, lit_5, lit_6, lit_7, lit_8, lit_9, lit_10, lit_11, lit_12, lit_13, lit_14, lit_15, lit_16, lit_17, lit_18, lit_19, lit_20, lit_23, lit_24, lit_31, lit_32, lit_34, lit_36, lit_40, lit_48, lit_49, lit_57, lit_58, lit_59, lit_60, lit_64, lit_96, lit_97, lit_99, lit_101, lit_105, lit_108, lit_110, lit_111, lit_112, lit_114, lit_115, lit_116, lit_122, lit_127, lit_160, lit_216, lit_235, lit_238, lit_343, lit_476, lit_1296, lit_2000, lit_2401, lt_def, bind_s, gd_d, ix_n, inb_n, nI_add, pk_mul, pk_sub, nI_leI, nI_ltI, nI_eq, nI_ltn, nI_eqn, nI_eqn2, if_pos, if_neg, if_true, if_false, nI_addm1, e3, w0, jD_planned_73, n3, su]
        exact ⟨m3, rfl, o13, K5⟩
    · left
      have hw := h1 j (by omega)
      obtain ⟨m4, e5, o4, R4⟩ := passTime_ok R3' lo (n := wtA (letA (itA A r j) r) (A 4 0)) (by rw [lc]; omega)
      simp (disch := omega) only [lit_0, lit_1, lit_2, lit_3, lit_4, lit_5, lit_6, lit_7, lit_8, lit_9, lit_10, lit_11, lit_12, lit_13, lit_14, lit_15, lit_16, lit_17, lit_18, lit_19, lit_20, lit_23, lit_24, lit_31, lit_32, lit_34, lit_36, lit_40, lit_48, lit_49, lit_57, lit_58, lit_59, lit_60, lit_64, lit_96, lit_97, lit_99, lit_101, lit_105, lit_108, lit_110, lit_111, lit_112, lit_114, lit_115, lit_116, lit_122, lit_127, lit_160, lit_216, lit_235, lit_238, lit_343, lit_476, lit_1296, lit_2000, lit_2401, lt_def, bind_s, gd_d, ix_n, inb_n, nI_add, pk_mul, pk_sub, nI_leI, nI_ltI, nI_eq, nI_ltn, nI_eqn, nI_eqn2, if_pos, if_neg, if_true, if_false, nI_addm1, e3, w0, e5]
      refine ⟨m4, ⟨by omega, Off_trans o13 (Off_mono o4 sPn_l), Known_off o4 (fun j i => sLn_p 1 j i) K5, R4, ?_⟩, rfl⟩
      exact Looked_st (tick_st _ _) (dA_tick _ _) (Looked_off o4 (fun i => sLn_p 1 4 i) (fun i => sLn_p 1 5 i) L3')
  · obtain ⟨a1, -⟩ := hJ
    omega
end Plan2
