section Lets
variable {μ : Mem} {k : Nat} {A : Ab} {B : Nat → Nat → Nat} {d0 : Nat → Nat} {nq : Nat} {q : Nat → Nat → Nat}
def sLP (k : Nat) : Rf → Nat → Bool := fun r i => sLn k r i || sLk r i
theorem sLP_l (k : Nat) (r : Rf) (i : Nat) (h : sLP k r i = false) : sLn k r i = false := by
  simp only [sLP, Bool.or_eq_false_iff] at h; exact h.1
theorem sLP_p (k : Nat) (r : Rf) (i : Nat) (h : sLP k r i = false) : sLk r i = false := by
  simp only [sLP, Bool.or_eq_false_iff] at h; exact h.2
theorem Known_off {S : Rf → Nat → Bool} {μ' : Mem} (o : Off S μ μ') (h : ∀ j i, S (1, 0, j) i = false) (K : Known μ A) : Known μ' A :=
  ⟨(o _ _ (h _ _)).trans K.1, RoomsOk_off o (fun _ => h _ _) K.2.1, (o _ _ (h _ _)).trans K.2.2.1, EndsOk_off o (fun _ => h _ _) K.2.2.2⟩
theorem Cache_off {S : Rf → Nat → Bool} {μ' : Mem} (o : Off S μ μ') (h : ∀ j i, S (1, 0, j) i = false) (K : Cache μ A) : Cache μ' A := by
  refine ⟨?_, ?_⟩
  · rcases K.1 with c | ⟨c, R⟩
    · exact Or.inl ((o _ _ (h _ _)).trans c)
    · exact Or.inr ⟨(o _ _ (h _ _)).trans c, RoomsOk_off o (fun _ => h _ _) R⟩
  · rcases K.2 with c | ⟨c, R⟩
    · exact Or.inl ((o _ _ (h _ _)).trans c)
    · exact Or.inr ⟨(o _ _ (h _ _)).trans c, EndsOk_off o (fun _ => h _ _) R⟩
theorem dep_le {A : Ab} {t : Nat} (ht : t < A 4 0) (u : Nat) : dA (depA A t) u ≤ dA A u := by
  rw [dA_dep ht]; exact dec_le _ _ _
/-- what a step by a rule keeps -/
theorem snd_ok (O : OkA A) (hc : A 11 0 < 2 ^ 19) {r : Nat} : ∀ {M : Nat}, (∀ j, j < M → fbI (sndA A r j) r (A 4 0) ≠ 0) → OkA (sndA A r M) ∧ (∀ u, dA (sndA A r M) u ≤ dA A u) ∧ Rch A (dA A) (dA (sndA A r M)) ∧ (SafeA A (dA A) → SafeA A (dA (sndA A r M)))
  | 0, _ => ⟨O, fun _ => Nat.le_refl _, Rch_refl _, fun h => h⟩
  | M + 1, h => by
    obtain ⟨a, b, c, s⟩ := snd_ok O hc (M := M) (fun j hj => h j (by omega))
    have h2 := h M (by omega)
    have h3 := fbI_ag _ _ _ h2
    have h4 := fbI_le (sndA A r M) r (A 4 0)
    have st := (snd_4 (A := A) (r := r) M).1
    have e4 : sndA A r M 4 = A 4 := st 4 (by omega)
    have e11 : sndA A r M 11 = A 11 := (snd_4 M).2
    have ht : fbI (sndA A r M) r (A 4 0) - 1 < sndA A r M 4 0 := by rw [e4]; omega
    have g := agA_0 h3
    refine ⟨OkA_dep a (by rw [e11]; exact hc) ht g.1, fun u => Nat.le_trans (dep_le ht u) (b u), ?_, fun _ => ?_⟩
    · show Rch A (dA A) (dA (depA (sndA A r M) (fbI (sndA A r M) r (A 4 0) - 1)))
      rw [dA_dep ht]
      exact Rch_tail c (by omega) (by rw [← can_st st]; exact g.2.1)
    · show SafeA A (dA (depA (sndA A r M) (fbI (sndA A r M) r (A 4 0) - 1)))
      rw [dA_dep ht]
      exact (Safe_st st).mp g.2.2
theorem letAllGo_ok (R : RepL μ k A) (O : OkA A) (K : Known μ A) (L : Looked μ A) (hc : A 11 0 < 2 ^ 19) {r : Nat} (hr : r < 3) : ∃ μ' M, fD_letAllGo k (nI r) μ = some (nI M, μ') ∧ Off (sLP k) μ μ' ∧ SndM A r M ∧ RepL μ' k (sndA A r M) ∧ Known μ' (sndA A r M) ∧ Looked μ' (sndA A r M) := by
  have hn := O.n4
  unfold fD_letAllGo
  simp only [lt_def]
  refine up21 (B := bD_letAllGo_5 k (nI r)) (fun w => ∃ μ' M, w = some (nI M, μ') ∧ Off (sLP k) μ μ' ∧ SndM A r M ∧ RepL μ' k (sndA A r M) ∧ Known μ' (sndA A r M) ∧ Looked μ' (sndA A r M)) (A 4 0) (by omega) (fun i a m => a = nI i ∧ Off (sLP k) μ m ∧ (∀ j, j < i → fbI (sndA A r j) r (A 4 0) ≠ 0) ∧ RepL m k (sndA A r i) ∧ Known m (sndA A r i) ∧ Looked m (sndA A r i)) ⟨rfl, Off_refl _ _, fun j hj => absurd hj (by omega), R, K, L⟩ (fun sf i a m hi hJ => ?_) (fun sf a m hJ => ?_) <;> unfold bD_letAllGo_5
  · obtain ⟨rfl, o1, v1, R1, K1, L1⟩ := hJ
    obtain ⟨O1, d1, _, _⟩ := snd_ok O hc v1
    have e4 : sndA A r i 4 = A 4 := (snd_4 i).1 4 (by omega)
    have n1 := R1.n
    rw [e4] at n1
    have fb := firstByD_ok R1 O1 K1 L1 hr
    rw [e4] at fb
    have hf := fbI_le (sndA A r i) r (A 4 0)
    by_cases z : fbI (sndA A r i) r (A 4 0) = 0
    · right
      have e1 : fbV (fbI (sndA A r i) r (A 4 0)) = -nI 4 := by unfold fbV; rw [if_pos z]; rfl
      have ng : ¬ (nI 0 ≤ -nI 4) := by decide +kernel
      simp (disch := omega) only [lit_0, lit_1, lit_2, lit_3, lit_4, lit_5, lit_6, lit_7, lit_8, lit_9, lit_10, lit_11, lit_12, lit_13, lit_14, lit_15, lit_16, lit_17, lit_18, lit_19, lit_20, lit_23, lit_24, lit_31, lit_32, lit_34, lit_36, lit_40, lit_48, lit_49, lit_57, lit_58, lit_59, lit_60, lit_64, lit_96, lit_97, lit_99, lit_101, lit_105, lit_108, lit_110, lit_111, lit_112, lit_114, lit_115, lit_116, lit_122, lit_127, lit_160, lit_216, lit_235, lit_238, lit_343, lit_476, lit_1296, lit_2000, lit_2401, lt_def, bind_s, gd_d, ix_n, inb_n, nI_add, pk_mul, pk_sub, nI_leI, nI_ltI, nI_eq, nI_ltn, nI_eqn, nI_eqn2, if_pos, if_neg, if_true, if_false, nI_addm1, n1, fb, e1, if_neg ng]
      exact ⟨m, i, rfl, o1, ⟨v1, z⟩, R1, K1, L1⟩
    · left
      have e1 : fbV (fbI (sndA A r i) r (A 4 0)) = nI (fbI (sndA A r i) r (A 4 0) - 1) := by unfold fbV; rw [if_neg z]
      have ht : fbI (sndA A r i) r (A 4 0) - 1 < sndA A r i 4 0 := by rw [e4]; omega
      have g := agA_0 (fbI_ag _ _ _ z)
      obtain ⟨m2, e2, o2, R2⟩ := depart_ok R1 O1 ht g.1
      have v2 : ∀ j, j < i + 1 → fbI (sndA A r j) r (A 4 0) ≠ 0 := fun j hj => by
        by_cases e : j = i
        · subst e; exact z
        · exact v1 j (by omega)
      obtain ⟨O2, _, _, _⟩ := snd_ok O hc v2
      have R2' : RepL m2 k (sndA A r (i + 1)) := R2
      obtain ⟨m3, e3, o3, l3, t3⟩ := look_ok R2' O2
      have K2 : Known m2 (sndA A r (i + 1)) := Known_st (depA_st _ _) (fun t => dep_le ht t) (Known_off o2 (fun _ _ => by simp [sLn]) K1)
      simp (disch := omega) only [lit_0, lit_1, lit_2, lit_3, lit_4, lit_5, lit_6, lit_7, lit_8, lit_9, lit_10, lit_11, lit_12, lit_13, lit_14, lit_15, lit_16, lit_17, lit_18, lit_19, lit_20, lit_23, lit_24, lit_31, lit_32, lit_34, lit_36, lit_40, lit_48, lit_49, lit_57, lit_58, lit_59, lit_60, lit_64, lit_96, lit_97, lit_99, lit_101, lit_105, lit_108, lit_110, lit_111, lit_112, lit_114, lit_115, lit_116, lit_122, lit_127, lit_160, lit_216, lit_235, lit_238, lit_343, lit_476, lit_1296, lit_2000, lit_2401, lt_def, bind_s, gd_d, ix_n, inb_n, nI_add, pk_mul, pk_sub, nI_leI, nI_ltI, nI_eq, nI_ltn, nI_eqn, nI_eqn2, if_pos, if_neg, if_true, if_false, nI_addm1, n1, fb, e1, e2, e3]
      refine ⟨_, m3, ⟨rfl, Off_trans (Off_trans o1 (Off_mono o2 (sLP_l k))) (Off_mono o3 (sLP_p k)), v2, RepL_off o3 (fun _ _ => rfl) R2', ⟨(o3 _ _ rfl).trans K2.1, RoomsOk_off o3 (fun _ => rfl) K2.2.1, (o3 _ _ rfl).trans K2.2.2.1, EndsOk_off o3 (fun _ => rfl) K2.2.2.2⟩, l3, t3⟩, rfl⟩
  · obtain ⟨rfl, o1, v1, R1, K1, L1⟩ := hJ
    have e4 : sndA A r (A 4 0) 4 = A 4 := (snd_4 (A 4 0)).1 4 (by omega)
    have n1 := R1.n
    rw [e4] at n1
    simp (disch := omega) only [lit_0, lit_1, lit_2, lit_3, lit_4, lit_5, lit_6, lit_7, lit_8, lit_9, lit_10, lit_11, lit_12, lit_13, lit_14, lit_15, lit_16, lit_17, lit_18, lit_19, lit_20, lit_23, lit_24, lit_31, lit_32, lit_34, lit_36, lit_40, lit_48, lit_49, lit_57, lit_58, lit_59, lit_60, lit_64, lit_96, lit_97, lit_99, lit_101, lit_105, lit_108, lit_110, lit_111, lit_112, lit_114, lit_115, lit_116, lit_122, lit_127, lit_160, lit_216, lit_235, lit_238, lit_343, lit_476, lit_1296, lit_2000, lit_2401, lt_def, bind_s, gd_d, ix_n, inb_n, nI_add, pk_mul, pk_sub, nI_leI, nI_ltI, nI_eq, nI_ltn, nI_eqn, nI_eqn2, if_pos, if_neg, if_true, if_false, nI_addm1, n1]
    exact ⟨m, A 4 0, rfl, o1, ⟨v1, snd_end v1⟩, R1, K1, L1⟩
def sMs : Rf → Nat → Bool := fun r _ => r == (5, 0, 1) || r == (5, 0, 14)
theorem sMs_st (r : Rf) (i : Nat) (h : sMs r i = false) : sSt r i = false := by
  simp only [sMs, sSt, Bool.or_eq_false_iff] at *; exact h.1
theorem sMs_sp (r : Rf) (i : Nat) (h : sMs r i = false) : sSp r i = false := by
  simp only [sMs, sSp, Bool.or_eq_false_iff] at *; exact h.2
theorem sends_ok (R : RepR (μ (5, 0, 1)) A B) (O : OkA A) (E : Expl μ A d0 nq q) (hd : Rch A d0 (dA A)) (hc : A 11 0 < 2 ^ 19) {r : Nat} (hr : r < 3) : ∃ μ' M, fM_sends (nI r) μ = some (nI M, μ') ∧ Off sMs μ μ' ∧ SndM A r M ∧ RepR (μ' (5, 0, 1)) (sndA A r M) B := by
  have hn := O.n4
  unfold fM_sends
  obtain ⟨m0, e0, o0⟩ := firstByM_ok R O E hd hr
  simp only [lt_def, e0, bind_s]
  refine lz21_m (B := bM_sends_8 (nI r)) (fun w => ∃ μ' M, w = some (nI M, μ') ∧ Off sMs μ μ' ∧ SndM A r M ∧ RepR (μ' (5, 0, 1)) (sndA A r M) B) (fun a b m => ∃ j, a = nI j ∧ b = fbV (fbI (sndA A r j) r (A 4 0)) ∧ Off sMs μ m ∧ (∀ i, i < j → fbI (sndA A r i) r (A 4 0) ≠ 0) ∧ RepR (m (5, 0, 1)) (sndA A r j) B) (fun a _ _ => 10 - ix a) ?_ FU _ _ _ ⟨0, rfl, rfl, Off_mono o0 sMs_sp, fun j hj => absurd hj (by omega), RepR_off o0 (fun _ => rfl) R⟩ (FU_gt (by omega))
  rintro sf a b m ⟨j, rfl, rfl, o1, v1, R1⟩
  obtain ⟨O1, d1, rc1, _⟩ := snd_ok O hc v1
  have hj := snd_Mle v1
  have st := (snd_4 (A := A) (r := r) j).1
  have e4 : sndA A r j 4 = A 4 := st 4 (by omega)
  have hf := fbI_le (sndA A r j) r (A 4 0)
  unfold bM_sends_8
  by_cases z : fbI (sndA A r j) r (A 4 0) = 0
  · right
    have e1 : fbV (fbI (sndA A r j) r (A 4 0)) = -nI 4 := by unfold fbV; rw [if_pos z]; rfl
    rw [e1]
    simp only [lit_4, if_true]
    exact ⟨m, j, rfl, o1, ⟨v1, z⟩, R1⟩
  · left
    have e1 : fbV (fbI (sndA A r j) r (A 4 0)) = nI (fbI (sndA A r j) r (A 4 0) - 1) := by unfold fbV; rw [if_neg z]
    have ht : fbI (sndA A r j) r (A 4 0) - 1 < sndA A r j 4 0 := by rw [e4]; omega
    have g := agA_0 (fbI_ag _ _ _ z)
    obtain ⟨m2, e2, o2, R2⟩ := goes_ok R1 O1 ht g.1
    have v2 : ∀ i, i < j + 1 → fbI (sndA A r i) r (A 4 0) ≠ 0 := fun i hi => by
      by_cases e : i = j
      · subst e; exact z
      · exact v1 i (by omega)
    obtain ⟨O2, _, rc2, _⟩ := snd_ok O hc v2
    have st2 := (snd_4 (A := A) (r := r) (j + 1)).1
    have o12 : Off sMs μ m2 := Off_trans o1 (Off_mono o2 sMs_st)
    have E2 : Expl m2 (sndA A r (j + 1)) d0 nq q := Expl_st st2 (Expl_off E o12 rfl (fun _ => rfl) (fun _ => rfl))
    have R2' : RepR (m2 (5, 0, 1)) (sndA A r (j + 1)) B := R2
    obtain ⟨m3, e3, o3⟩ := firstByM_ok R2' O2 E2 ((Rch_st st2).mpr (Rch_trans hd rc2)) hr
    have e4' : sndA A r (j + 1) 4 = A 4 := st2 4 (by omega)
    rw [e4'] at e3
    rw [e1]
    simp (disch := omega) only [lit_0, lit_1, lit_2, lit_3, lit_4, lit_5, lit_6, lit_7, lit_8, lit_9, lit_10, lit_11, lit_12, lit_13, lit_14, lit_15, lit_16, lit_17, lit_18, lit_19, lit_20, lit_23, lit_24, lit_31, lit_32, lit_34, lit_36, lit_40, lit_48, lit_49, lit_57, lit_58, lit_59, lit_60, lit_64, lit_96, lit_97, lit_99, lit_101, lit_105, lit_108, lit_110, lit_111, lit_112, lit_114, lit_115, lit_116, lit_122, lit_127, lit_160, lit_216, lit_235, lit_238, lit_343, lit_476, lit_1296, lit_2000, lit_2401, lt_def, bind_s, gd_d, ix_n, inb_n, nI_add, pk_mul, pk_sub, nI_leI, nI_ltI, nI_eq, nI_ltn, nI_eqn, nI_eqn2, if_pos, if_neg, if_true, if_false, nI_addm1, e2, e3]
    exact ⟨_, _, m3, ⟨j + 1, rfl, rfl, Off_trans o12 (Off_mono o3 sMs_sp), v2, RepR_off o3 (fun _ => rfl) R2'⟩, by rw [ix_n (by omega)]; omega, rfl⟩
end Lets
