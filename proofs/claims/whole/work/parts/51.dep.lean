def sLn (k : Nat) : Rf → Nat → Bool := fun r _ => r.1 == 0 && r.2.1 == k
theorem sLn_sJn (k : Nat) (r : Rf) (i : Nat) (h : sLn k r i = false) : sJn k r i = false := by
  obtain ⟨a, b, c⟩ := r
  by_cases z : a = 0 ∧ b = k
  · simp [sLn, z.1, z.2] at h
  · simp only [sJn, Bool.or_eq_false_iff, Bool.and_eq_false_iff, beq_eq_false_iff_ne, ne_eq, Prod.mk.injEq]
    refine ⟨⟨⟨fun w => z ⟨w.1, w.2.1⟩, fun w => z ⟨w.1, w.2.1⟩⟩, fun w => z ⟨w.1, w.2.1⟩⟩, Or.inl (fun w => z ⟨w.1, w.2.1⟩)⟩
theorem cpk_ok {n : Nat} (h : n ≤ 59) : cpk 1 0 (nI n) 60 60 = true := by
  have e : (nI n).toNatClampNeg = n := nI_clamp (by omega)
  have e1 : (1 : Int32).toNatClampNeg = 1 := by decide +kernel
  have e0 : (0 : Int32).toNatClampNeg = 0 := by decide +kernel
  have d1 : decide ((1 : Int32) < 0) = false := by decide +kernel
  have d0 : decide ((0 : Int32) < 0) = false := by decide +kernel
  have dn : decide (nI n < 0) = false := decide_eq_false (nI_pos (by omega))
  unfold cpk
  rw [e, e1, e0, d1, d0, dn, decide_eq_true (show 1 + n ≤ 60 by omega), decide_eq_true (show 0 + n ≤ 60 by omega)]
  rfl
theorem cpy_1 (f g : Nat → Int32) {n j : Nat} (h : j < n) : va_cpy f g 1 0 n j = f (j + 1) := by
  rw [pk_cpy_in (by omega) (by omega)]
  congr 1
  omega
section Dep
variable {μ : Mem} {k : Nat} {A : Ab}
theorem sr_at (m : Mem) (r : Rf) (g : Nat → Int32) (j : Nat) : sr m r g r j = g j := by rw [sr_same]
theorem sr_off (m : Mem) {r r' : Rf} (g : Nat → Int32) (h : r' ≠ r) (j : Nat) : sr m r g r' j = m r' j := by rw [sr_ne _ _ h]
theorem Off_sr {S : Rf → Nat → Bool} {μ μ' : Mem} {r : Rf} {g : Nat → Int32} (h : Off S μ μ') (q : ∀ i, S r i = true) : Off S μ (sr μ' r g) := by
  intro r' j w
  rw [sr_off _ _ (fun z => by rw [z, q] at w; cases w)]
  exact h r' j w
theorem forgetFirst_ok (h0 : μ (0, k, 0) 12 = nI 60) : ∃ μ', fL_forgetFirstEntry k μ = some μ' ∧ Off (sJn k) μ μ' ∧ μ' (0, k, 0) 12 = nI 59 ∧ ∀ j, j < 59 → μ' (0, k, 14) j = μ (0, k, 14) (j + 1) ∧ μ' (0, k, 15) j = μ (0, k, 15) (j + 1) ∧ μ' (0, k, 16) j = μ (0, k, 16) (j + 1) := by
  unfold fL_forgetFirstEntry
  have e1 : nI 60 - 1 = nI 59 := by decide +kernel
  have x1 : ix 1 = 1 := by decide +kernel
  have x0 : ix 0 = 0 := by decide +kernel
  have x59 : ix (nI 59) = 59 := ix_n (by omega)
  have a1 : ∀ (m : Mem) v, (wr m (0, k, 0) 12 v) (0, k, 0) 12 = v := fun m v => wr_at _ _ _ _
  have a2 : ∀ (m : Mem) g, (sr m (0, k, 14) g) (0, k, 0) 12 = m (0, k, 0) 12 := fun m g => sr_off _ _ (by simp) _
  have a3 : ∀ (m : Mem) g, (sr m (0, k, 15) g) (0, k, 0) 12 = m (0, k, 0) 12 := fun m g => sr_off _ _ (by simp) _
  simp only [lt_def, h0, e1, a1, a2, a3, cpk_ok (show 59 ≤ 59 by omega), gd_tt, x1, x0, x59]
  refine ⟨_, rfl, ?_, ?_, fun j hj => ⟨?_, ?_, ?_⟩⟩
  · exact Off_sr (Off_sr (Off_sr (Off_wr (Off_refl _ _) (by simp [sJn])) (fun _ => by simp [sJn])) (fun _ => by simp [sJn])) (fun _ => by simp [sJn])
  · rw [sr_off _ _ (by simp), sr_off _ _ (by simp), sr_off _ _ (by simp), wr_at]
  · rw [sr_off _ _ (by simp), sr_off _ _ (by simp), sr_at, cpy_1 _ _ hj, wr_off _ _ (by simp)]
  · rw [sr_off _ _ (by simp), sr_at, cpy_1 _ _ hj, sr_off _ _ (by simp), wr_off _ _ (by simp)]
  · rw [sr_at, cpy_1 _ _ hj, sr_off _ _ (by simp), sr_off _ _ (by simp), wr_off _ _ (by simp)]
theorem RepL.j13 (h : RepL μ k A) {i : Nat} (hi : i < A 12 0) : μ (0, k, 14) i = nI (A 13 i) := (h.2.2.2.2.2.2 i hi).1
theorem RepL.j14 (h : RepL μ k A) {i : Nat} (hi : i < A 12 0) : μ (0, k, 15) i = nI (A 14 i) := (h.2.2.2.2.2.2 i hi).2.1
theorem RepL.j15 (h : RepL μ k A) {i : Nat} (hi : i < A 12 0) : μ (0, k, 16) i = nI (A 15 i) := (h.2.2.2.2.2.2 i hi).2.2
theorem OkA.jr (h : OkA A) {i : Nat} (hi : i < A 12 0) : A 13 i < 2 ^ 20 ∧ A 14 i < 2 ^ 20 ∧ A 15 i < 2 ^ 20 := h.2.2.2.2.2.2 i hi
theorem preJ_b (O : OkA A) {i : Nat} (hi : i < preE A) : preJ A 13 i < 2 ^ 20 ∧ preJ A 14 i < 2 ^ 20 ∧ preJ A 15 i < 2 ^ 20 := by
  unfold preE at hi
  unfold preJ
  by_cases z : A 12 0 = 60
  · simp only [if_pos z] at *; exact O.jr (by omega)
  · simp only [if_neg z] at *; exact O.jr (by omega)
theorem enterJournal_ok (R : RepL μ k A) (O : OkA A) {t p : Nat} (ht : t < 4) : ∃ μ', fL_enterJournal k (nI t) (nI p) μ = some μ' ∧ Off (sJn k) μ μ' ∧ μ' (0, k, 0) 12 = nI (preE A + 1) ∧ (∀ j, j < preE A + 1 → μ' (0, k, 14) j = nI (insJ (preJ A 13) (posA A t) (A 11 0) j)) ∧ (∀ j, j < preE A + 1 → μ' (0, k, 15) j = nI (insJ (preJ A 14) (posA A t) t j)) ∧ ∀ j, j < preE A + 1 → μ' (0, k, 16) j = nI (insJ (preJ A 15) (posA A t) p j) := by
  have he := preE_le O
  have h60 := O.e60
  have hck := O.ck
  unfold fL_enterJournal
  by_cases z : A 12 0 = 60
  · have e12 : μ (0, k, 0) 12 = nI 60 := by rw [R.en, z]
    obtain ⟨m, e1, o1, m12, mj⟩ := forgetFirst_ok e12
    have pe : preE A = 59 := by unfold preE; rw [if_pos z]
    have pj : ∀ f, preJ A f = fun j => A f (j + 1) := fun f => by unfold preJ; rw [if_pos z]
    have n60 : ¬ (nI 60 < nI 60) := by decide +kernel
    simp only [e12, lit_60, if_neg n60, e1, bind_s]
    obtain ⟨m2, e2, o2, r12, r14, r15, r16⟩ := enterJ_ok (μ := m) (k := k) (e := 59) (c := A 11 0) (t := t) (p := p) (f := preJ A 13) (g := preJ A 14) (h := preJ A 15) (by omega) (by omega) (by omega) m12 ((o1 _ _ (by simp [sJn])).trans R.ck) (fun j hj => by
      have := O.jr (i := j + 1) (by omega)
      rw [(mj j hj).1, R.j13 (by omega), pj]
      exact ⟨rfl, by show A 13 (j + 1) < _; omega⟩) (fun j hj => by
      have := O.jr (i := j + 1) (by omega)
      rw [(mj j hj).2.1, R.j14 (by omega), pj]
      exact ⟨rfl, by show A 14 (j + 1) < _; omega⟩) (fun j hj => by rw [(mj j hj).2.2, R.j15 (by omega), pj])
    rw [pe]
    unfold posA
    rw [pe]
    exact ⟨m2, e2, Off_trans o1 o2, r12, r14, r15, r16⟩
  · have pe : preE A = A 12 0 := by unfold preE; rw [if_neg z]
    have pj : ∀ f, preJ A f = A f := fun f => by unfold preJ; rw [if_neg z]
    have n60 : (nI (A 12 0) < nI 60) := (nI_ltI (by omega) (by omega)).mpr (by omega)
    simp only [R.en, lit_60, if_pos n60]
    obtain ⟨m2, e2, o2, r12, r14, r15, r16⟩ := enterJ_ok (μ := μ) (k := k) (e := A 12 0) (c := A 11 0) (t := t) (p := p) (f := preJ A 13) (g := preJ A 14) (h := preJ A 15) (by omega) (by omega) (by omega) R.en R.ck (fun j hj => by
      have := O.jr hj
      rw [pj]; exact ⟨R.j13 hj, by omega⟩) (fun j hj => by
      have := O.jr hj
      rw [pj]; exact ⟨R.j14 hj, by omega⟩) (fun j hj => by rw [pj]; exact R.j15 hj)
    unfold posA
    rw [pe]
    exact ⟨m2, e2, o2, r12, r14, r15, r16⟩
theorem OkA_dep (O : OkA A) (hc : A 11 0 < 2 ^ 19) {t : Nat} (ht : t < A 4 0) (h9 : A 9 t = 0) : OkA (depA A t) := by
  have h := O.tr ht
  have h8 := h.2.2.2.2.2.2.2.1 h9
  have h5 := dist_le O ht
  have hs := secA_lt O ht h.2.2.2.2.2.1 h8
  have hm := O.pc (p := secA A t (A 8 t)) (by omega)
  have hl := spotA_lt O ht h.2.2.2.2.2.1
  have he := preE_le O
  have h6 := O.p6
  have hn := O.n4
  obtain ⟨o1, o2, o3, o4, o5, o6, o7⟩ := O
  have dd : ∀ u, distA (depA A t) u = distA A u := fun u => by
    unfold distA; rw [depA_o A t 5 (by omega), depA_o A t 6 (by omega)]
  refine ⟨?_, ?_, ?_, ?_, fun p hp => ?_, fun u hu => ?_, fun i hi => ?_⟩
  · rw [depA_o A t 0 (by omega)]; exact o1
  · rw [depA_o A t 4 (by omega)]; exact o2
  · rw [depA_o A t 11 (by omega)]; exact o3
  · rw [depA_12]; show preE A + 1 ≤ 60; omega
  · rw [depA_o A t 0 (by omega)] at hp
    rw [depA_o A t 1 (by omega), depA_o A t 2 (by omega), depA_o A t 3 (by omega)]
    exact o5 p hp
  · rw [depA_o A t 4 (by omega)] at hu
    rw [depA_o A t 0 (by omega), depA_o A t 5 (by omega), depA_o A t 6 (by omega), depA_o A t 7 (by omega), depA_o A t 11 (by omega), dd, depA_8, depA_9, depA_10]
    by_cases e : u = t
    · subst e
      rw [upx_at, upx_at, upx_at]
      refine ⟨h.1, h.2.1, h.2.2.1, h.2.2.2.1, h.2.2.2.2.1, by omega, by omega, fun z => by omega, fun _ => by omega, fun z => by omega, by omega, fun _ => by omega⟩
    · rw [upx_ne _ e, upx_ne _ e, upx_ne _ e]
      exact o6 u hu
  · rw [depA_12] at hi
    rw [depA_13, depA_14, depA_15]
    have hi2 : i < preE A + 1 := hi
    have b : ∀ j, j < preE A → preJ A 13 j < 2 ^ 20 ∧ preJ A 14 j < 2 ^ 20 ∧ preJ A 15 j < 2 ^ 20 := fun j hj => preJ_b ⟨o1, o2, o3, o4, o5, o6, o7⟩ hj
    have hp : posA A t ≤ preE A := posJ_le _ _ _ _ _
    unfold insJ
    by_cases z : i < posA A t
    · simp only [if_pos z]; exact b i (by omega)
    · simp only [if_neg z]
      by_cases y : i = posA A t
      · simp only [if_pos y]; omega
      · simp only [if_neg y]; exact b (i - 1) (by omega)
theorem depart_ok (R : RepL μ k A) (O : OkA A) {t : Nat} (ht : t < A 4 0) (h9 : A 9 t = 0) : ∃ μ', fL_depart k (nI t) μ = some μ' ∧ Off (sLn k) μ μ' ∧ RepL μ' k (depA A t) := by
  have h := O.tr ht
  have h8 := h.2.2.2.2.2.2.2.1 h9
  have h5 := dist_le O ht
  have hs := secA_lt O ht h.2.2.2.2.2.1 h8
  have h6 := O.p6
  have hn := O.n4
  have he := preE_le O
  obtain ⟨m, e1, o1, r12, r14, r15, r16⟩ := enterJournal_ok R O (t := t) (p := spotA A t (A 8 t)) (by omega)
  have f0 : ∀ j i, j ≠ 14 → j ≠ 15 → j ≠ 16 → (j ≠ 0 ∨ i ≠ 12) → m (0, k, j) i = μ (0, k, j) i := fun j i a b c d => o1 _ _ (by
    simp only [sJn, Bool.or_eq_false_iff, Bool.and_eq_false_iff, beq_eq_false_iff_ne, ne_eq, Prod.mk.injEq]
    omega)
  have sec1 : fL_sectionAhead k (nI t) (nI (A 8 t)) m = some (nI (secA A t (A 8 t))) := by
    have := sec_ok R O ht h.2.2.2.2.2.1 h8
    unfold fL_sectionAhead at *
    have e7 : m (0, k, 7) = μ (0, k, 7) := funext (fun i => f0 7 i (by omega) (by omega) (by omega) (by omega))
    have e6 : m (0, k, 6) = μ (0, k, 6) := funext (fun i => f0 6 i (by omega) (by omega) (by omega) (by omega))
    rw [e7, e6]
    exact this
  have m9 : m (0, k, 9) t = nI (A 8 t) := (f0 9 t (by omega) (by omega) (by omega) (by omega)).trans (R.lf ht)
  have m11 : m (0, k, 0) 11 = nI (A 11 0) := (f0 0 11 (by omega) (by omega) (by omega) (by omega)).trans R.ck
  have m4 : m (0, k, 4) (secA A t (A 8 t)) = nI (A 3 (secA A t (A 8 t))) := (f0 4 _ (by omega) (by omega) (by omega) (by omega)).trans (R.mi (by omega))
  have w9 : ∀ v, (wr m (0, k, 11) t v) (0, k, 9) t = nI (A 8 t) := fun v => (wr_off _ _ (by simp)).trans m9
  unfold fL_depart
  simp (disch := omega) only [lit_0, lit_1, lit_2, lit_3, lit_4, lit_5, lit_6, lit_7, lit_8, lit_9, lit_10, lit_11, lit_12, lit_13, lit_14, lit_15, lit_16, lit_17, lit_18, lit_19, lit_20, lit_23, lit_24, lit_31, lit_32, lit_34, lit_36, lit_40, lit_48, lit_49, lit_57, lit_58, lit_59, lit_60, lit_64, lit_96, lit_97, lit_99, lit_101, lit_105, lit_108, lit_110, lit_111, lit_112, lit_114, lit_115, lit_116, lit_122, lit_127, lit_160, lit_216, lit_235, lit_238, lit_343, lit_476, lit_1296, lit_2000, lit_2401, lt_def, bind_s, gd_d, ix_n, inb_n, nI_add, pk_mul, pk_sub, nI_leI, nI_ltI, nI_eq, nI_ltn, nI_eqn, nI_eqn2, if_pos, if_neg, if_true, if_false, nI_addm1, R.lf ht, spot_ok R O ht h.2.2.2.2.2.1, e1, m9, sec1, m11, m4, w9]
  refine ⟨_, rfl, Off_wr (Off_wr (Off_wr (Off_mono o1 (sLn_sJn k)) (by simp [sLn])) (by simp [sLn])) (by simp [sLn]), ?_⟩
  have fr : ∀ j i, j ≠ 9 → j ≠ 10 → j ≠ 11 → (wr (wr (wr m (0, k, 11) t (nI (A 11 0 + A 3 (secA A t (A 8 t))))) (0, k, 9) t (nI (A 8 t - 1))) (0, k, 10) t (nI 1)) (0, k, j) i = m (0, k, j) i := fun j i a b c => by
    rw [wr_off _ _ (by simp; omega), wr_off _ _ (by simp; omega), wr_off _ _ (by simp; omega)]
  refine ⟨?_, ?_, ?_, ?_, fun p hp => ?_, fun u hu => ?_, fun i hi => ?_⟩
  · rw [fr 0 0 (by omega) (by omega) (by omega), f0 0 0 (by omega) (by omega) (by omega) (by omega), depA_o A t 0 (by omega)]; exact R.pl
  · rw [fr 0 4 (by omega) (by omega) (by omega), f0 0 4 (by omega) (by omega) (by omega) (by omega), depA_o A t 4 (by omega)]; exact R.n
  · rw [fr 0 11 (by omega) (by omega) (by omega), depA_o A t 11 (by omega)]; exact m11
  · rw [fr 0 12 (by omega) (by omega) (by omega), depA_12]; exact r12
  · rw [depA_o A t 0 (by omega)] at hp
    rw [depA_o A t 1 (by omega), depA_o A t 2 (by omega), depA_o A t 3 (by omega)]
    refine ⟨?_, ?_, fun i hi => ?_⟩
    · rw [fr 2 p (by omega) (by omega) (by omega), f0 2 p (by omega) (by omega) (by omega) (by omega)]; exact R.tk hp
    · rw [fr 4 p (by omega) (by omega) (by omega), f0 4 p (by omega) (by omega) (by omega) (by omega)]; exact R.mi hp
    · rw [fr 3 _ (by omega) (by omega) (by omega), f0 3 _ (by omega) (by omega) (by omega) (by omega)]; exact R.le hp hi
  · rw [depA_o A t 4 (by omega)] at hu
    rw [depA_o A t 5 (by omega), depA_o A t 6 (by omega), depA_o A t 7 (by omega), depA_8, depA_9, depA_10]
    refine ⟨?_, ?_, ?_, ?_, ?_, fun hz => ?_⟩
    · rw [fr 6 u (by omega) (by omega) (by omega), f0 6 u (by omega) (by omega) (by omega) (by omega)]; exact R.fr hu
    · rw [fr 7 u (by omega) (by omega) (by omega), f0 7 u (by omega) (by omega) (by omega) (by omega)]; exact R.to hu
    · rw [fr 8 u (by omega) (by omega) (by omega), f0 8 u (by omega) (by omega) (by omega) (by omega)]; exact R.sz hu
    · rw [wr_off _ _ (by simp), wr_get]
      by_cases e : u = t
      · rw [if_pos ⟨rfl, e⟩, e, upx_at]
      · rw [if_neg (fun z => e z.2), upx_ne _ e, wr_off _ _ (by simp), f0 9 u (by omega) (by omega) (by omega) (by omega)]; exact R.lf hu
    · rw [wr_get]
      by_cases e : u = t
      · rw [if_pos ⟨rfl, e⟩, e, upx_at]
      · rw [if_neg (fun z => e z.2), upx_ne _ e, wr_off _ _ (by simp), wr_off _ _ (by simp), f0 10 u (by omega) (by omega) (by omega) (by omega)]; exact R.ss hu
    · rw [wr_off _ _ (by simp), wr_off _ _ (by simp), wr_get]
      by_cases e : u = t
      · rw [if_pos ⟨rfl, e⟩, e, upx_at]
      · rw [upx_ne _ e] at hz
        rw [if_neg (fun z => e z.2), upx_ne _ e, f0 11 u (by omega) (by omega) (by omega) (by omega)]; exact R.wh hu hz
  · rw [depA_12] at hi
    have hi2 : i < preE A + 1 := hi
    rw [depA_13, depA_14, depA_15, fr 14 i (by omega) (by omega) (by omega), fr 15 i (by omega) (by omega) (by omega), fr 16 i (by omega) (by omega) (by omega)]
    exact ⟨r14 i hi2, r15 i hi2, r16 i hi2⟩
end Dep
