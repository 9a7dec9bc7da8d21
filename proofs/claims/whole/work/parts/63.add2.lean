/-! add, by both -/
def Good (A : Ab) (x y z : Int32) : Prop := ∃ f t l, f < A 0 0 ∧ t < A 0 0 ∧ f ≠ t ∧ 1 ≤ l ∧ l ≤ 20 ∧ x = nI f ∧ y = nI t ∧ z = nI l
noncomputable def goodB (A : Ab) (x y z : Int32) : Bool := @decide (Good A x y z) (Classical.propDecidable _)
theorem goodB_iff {A : Ab} {x y z : Int32} : goodB A x y z = true ↔ Good A x y z := @decide_eq_true_iff _ (Classical.propDecidable _)
def adA (A : Ab) (x y z : Int32) : Ab := addA A (ix x) (ix y) (ix z)
noncomputable def adQ (A : Ab) (x y z : Int32) : Bool := goodB A x y z && (decide (A 4 0 < 4) && (heldA (adA A x y z) (dA (adA A x y z)) && safeB (adA A x y z) (dA (adA A x y z))))
noncomputable def adV (A : Ab) (x y z : Int32) : Int32 := if goodB A x y z then (if A 4 0 < 4 then (if adQ A x y z then nI (A 4 0 + 1) else -2) else -3) else -1
noncomputable def adN (A : Ab) (x y z : Int32) : Ab := if adQ A x y z then adA A x y z else A
def sAd : Rf → Nat → Bool := fun r i => r.1 == 1 || sLn 0 r i
theorem sAd_p (r : Rf) (i : Nat) (h : sAd r i = false) : sP r i = false := by
  simp only [sAd, Bool.or_eq_false_iff] at h; exact h.1
theorem sAd_l (r : Rf) (i : Nat) (h : sAd r i = false) : sLn 0 r i = false := by
  simp only [sAd, Bool.or_eq_false_iff] at h; exact h.2
theorem sAd_f (r : Rf) (i : Nat) (h : sAd r i = false) : (fun (r : Rf) (_ : Nat) => r == (1, 0, 0)) r i = false := by
  have := sAd_p r i h
  simp only [sP] at this
  simp only [beq_eq_false_iff_ne, ne_eq] at this ⊢
  intro z
  rw [z] at this
  exact this rfl
def sAm : Rf → Nat → Bool := fun r i => r == (5, 0, 1) || sEx r i
theorem sAm_st (r : Rf) (i : Nat) (h : sAm r i = false) : sSt r i = false := by
  simp only [sAm, sSt, Bool.or_eq_false_iff] at *; exact h.1
theorem sAm_ex (r : Rf) (i : Nat) (h : sAm r i = false) : sEx r i = false := by
  simp only [sAm, Bool.or_eq_false_iff] at h; exact h.2
theorem sAm_sp (r : Rf) (i : Nat) (h : sAm r i = false) : sSp r i = false := sEx_sSp r i (sAm_ex r i h)
section Add2
variable {μ : Mem} {A : Ab} {B : Nat → Nat → Nat}
theorem adQ_t {x y z : Int32} (h : adQ A x y z = true) : Good A x y z ∧ A 4 0 < 4 ∧ SafeA (adA A x y z) (dA (adA A x y z)) ∧ adV A x y z = nI (A 4 0 + 1) ∧ adN A x y z = adA A x y z := by
  have h' := h
  unfold adQ at h
  simp only [Bool.and_eq_true, decide_eq_true_eq] at h
  obtain ⟨a, b, c, d⟩ := h
  refine ⟨goodB_iff.mp a, b, safeB_iff.mp d, ?_, ?_⟩
  · unfold adV; rw [if_pos a, if_pos b, if_pos h']
  · unfold adN; rw [if_pos h']
theorem adQ_f {x y z : Int32} (h : adQ A x y z = false) : (adV A x y z = -1 ∨ adV A x y z = -2 ∨ adV A x y z = -3) ∧ adN A x y z = A := by
  refine ⟨?_, ?_⟩
  · unfold adV
    rw [h]
    split
    · split
      · exact Or.inr (Or.inl rfl)
      · exact Or.inr (Or.inr rfl)
    · exact Or.inl rfl
  · unfold adN; rw [h]; rfl
theorem adA_eq {f t l : Nat} (hf : f < 2 ^ 31) (ht : t < 2 ^ 31) (hl : l < 2 ^ 31) : adA A (nI f) (nI t) (nI l) = addA A f t l := by
  unfold adA
  rw [ix_n hf, ix_n ht, ix_n hl]
theorem adN_ok (O : OkA A) (S : SafeA A (dA A)) (x y z : Int32) : OkA (adN A x y z) ∧ SafeA (adN A x y z) (dA (adN A x y z)) ∧ ExtA A (adN A x y z) := by
  cases h : adQ A x y z with
  | true =>
    obtain ⟨⟨f, t, l, g1, g2, g3, g4, g5, rfl, rfl, rfl⟩, b, c, d, e⟩ := adQ_t h
    have h6 := O.p6
    rw [e]
    refine ⟨?_, c, ExtA_add _ _ _ _⟩
    rw [adA_eq (by omega) (by omega) (by omega)]
    exact OkA_add O b g1 g2 g3 g4 g5
  | false =>
    obtain ⟨-, e⟩ := adQ_f h
    rw [e]
    exact ⟨O, S, ExtA_refl A⟩
theorem addD_ok (R : RepL μ 0 A) (O : OkA A) (C : Cache μ A) (x y z : Int32) : ∃ μ', fD_add x y z μ = some (adV A x y z, μ') ∧ Off sAd μ μ' ∧ RepL μ' 0 (adN A x y z) ∧ Cache μ' (adN A x y z) := by
  have h6 := O.p6
  have hn := O.n4
  have bad : ¬ Good A x y z → fD_add x y z μ = some (-1, μ) → ∃ μ', fD_add x y z μ = some (adV A x y z, μ') ∧ Off sAd μ μ' ∧ RepL μ' 0 (adN A x y z) ∧ Cache μ' (adN A x y z) := by
    intro h e
    have g : goodB A x y z = false := by
      cases q : goodB A x y z with
      | true => exact absurd (goodB_iff.mp q) h
      | false => rfl
    have o : adQ A x y z = false := by unfold adQ; rw [g]; rfl
    have v : adV A x y z = -1 := by unfold adV; rw [g]; rfl
    rw [v, (adQ_f o).2]
    exact ⟨μ, e, Off_refl _ _, R, C⟩
  by_cases c1 : ∃ p, p < A 0 0 ∧ x = nI p
  rotate_left
  · refine bad (fun ⟨f, t, l, g1, g2, g3, g4, g5, e1, e2, e3⟩ => c1 ⟨f, g1, e1⟩) ?_
    unfold fD_add
    rw [hasPlace_ok R O x, if_neg c1]; rfl
  by_cases c2 : ∃ p, p < A 0 0 ∧ y = nI p
  rotate_left
  · refine bad (fun ⟨f, t, l, g1, g2, g3, g4, g5, e1, e2, e3⟩ => c2 ⟨t, g2, e2⟩) ?_
    unfold fD_add
    rw [hasPlace_ok R O x, if_pos c1, hasPlace_ok R O y, if_neg c2]; rfl
  have n10 : ¬ (1 : Int32) = 0 := by decide +kernel
  obtain ⟨f, hf, rfl⟩ := c1
  obtain ⟨t, ht, rfl⟩ := c2
  have hp1 : fL_hasPlace 0 (nI f) μ = some 1 := by rw [hasPlace_ok R O, if_pos ⟨f, hf, rfl⟩]
  have hp2 : fL_hasPlace 0 (nI t) μ = some 1 := by rw [hasPlace_ok R O, if_pos ⟨t, ht, rfl⟩]
  by_cases c3 : f = t
  · refine bad (fun ⟨f', t', l, g1, g2, g3, g4, g5, e1, e2, e3⟩ => ?_) ?_
    · have := (nI_eq (by omega) (by omega)).mp e1
      have := (nI_eq (by omega) (by omega)).mp e2
      omega
    · unfold fD_add
      rw [hp1, bind_s, if_neg n10, hp2, bind_s, if_neg n10, c3, if_pos rfl]
  have c3' : ¬ nI f = nI t := fun e => c3 ((nI_eq (by omega) (by omega)).mp e)
  rcases rgN z 1 20 (by omega) (by omega) with c4 | ⟨l, l1, l2, rfl⟩
  · refine bad (fun ⟨f', t', l, g1, g2, g3, g4, g5, e1, e2, e3⟩ => c4 ?_) ?_
    · rw [e3]
      exact ⟨(nI_leI (by omega) (by omega)).mpr g4, (nI_leI (by omega) (by omega)).mpr g5⟩
    · unfold fD_add
      rw [hp1, bind_s, if_neg n10, hp2, bind_s, if_neg n10, if_neg c3']
      exact rg_no (l := 1) (h := 20) c4 _ _
  have G : Good A (nI f) (nI t) (nI l) := ⟨f, t, l, hf, ht, c3, l1, l2, rfl, rfl, rfl⟩
  have g : goodB A (nI f) (nI t) (nI l) = true := goodB_iff.mpr G
  have n10' : ¬ nI 1 = nI 0 := by decide +kernel
  unfold fD_add
  by_cases c5 : A 4 0 < 4
  rotate_left
  · have o : adQ A (nI f) (nI t) (nI l) = false := by unfold adQ; rw [decide_eq_false c5]; simp
    have v : adV A (nI f) (nI t) (nI l) = -3 := by unfold adV; rw [if_pos g, if_neg c5]
    rw [v, (adQ_f o).2, hp1, bind_s, if_neg n10, hp2, bind_s, if_neg n10, if_neg c3']
    simp (disch := omega) only [lit_0, lit_1, lit_2, lit_3, lit_4, lit_5, lit_6, lit_7, lit_8, lit_9, lit_10, lit_11, lit_12, lit_13, lit_14, lit_15, lit_16, lit_17, lit_18, lit_19, lit_20, lit_23, lit_24, lit_31, lit_32, lit_34, lit_36, lit_40, lit_48, lit_49, lit_57, lit_58, lit_59, lit_60, lit_64, lit_96, lit_97, lit_99, lit_101, lit_105, lit_108, lit_110, lit_111, lit_112, lit_114, lit_115, lit_116, lit_122, lit_127, lit_160, lit_216, lit_235, lit_238, lit_343, lit_476, lit_1296, lit_2000, lit_2401, lt_def, bind_s, gd_d, ix_n, inb_n, nI_add, pk_mul, pk_sub, nI_leI, nI_ltI, nI_eq, nI_ltn, nI_eqn, nI_eqn2, if_pos, if_neg, if_true, if_false, nI_addm1, R.n]
    exact ⟨μ, rfl, Off_refl _ _, R, C⟩
  obtain ⟨m1, e1, o1, R1⟩ := openTrain_ok R c5 (f := f) (t := t) (l := l) (by omega) (by omega)
  have ea : adA A (nI f) (nI t) (nI l) = addA A f t l := adA_eq (by omega) (by omega) (by omega)
  have O1 : OkA (addA A f t l) := OkA_add O c5 hf ht c3 l1 l2
  obtain ⟨m2, e2, o2, f6, f7, C2⟩ := forget_ok m1
  have R2 : RepL m2 0 (addA A f t l) := RepL_off o2 (fun _ _ => rfl) R1
  obtain ⟨m3, e3, o3, q6, rm3⟩ := learnRooms_ok R2 O1 (C2 _).1
  have R3 := RepL_off o3 (fun _ _ => rfl) R2
  obtain ⟨m4, e4, o4, L4⟩ := holdsAll_ok R3 O1 rm3
  have R4 := RepL_off o4 (fun _ _ => rfl) R3
  have o14 : Off sAd μ m4 := Off_trans (Off_mono o1 sAd_l) (Off_trans (Off_mono o2 sAd_f) (Off_trans (Off_mono o3 (fun r i h => sP_sRo r i (sAd_p r i h))) (Off_mono o4 (fun r i h => sP_sLk r i (sAd_p r i h)))))
  have f7' : m4 (1, 0, 0) 7 = nI 0 := by rw [o4 _ _ rfl, o3 _ _ rfl]; exact f7
  have C4 : Cache m4 (addA A f t l) := ⟨Or.inr ⟨by rw [o4 _ _ rfl]; exact q6, RoomsOk_off o4 (fun _ => rfl) rm3⟩, Or.inl f7'⟩
  obtain ⟨m5, e5, o5, K5, L5⟩ := learn_ok R4 O1 C4
  have R5 := RepL_off o5 (fun _ _ => rfl) R4
  have o15 : Off sAd μ m5 := Off_trans o14 (Off_mono o5 sAd_p)
  have sf := isSafe_ok O1 L5.1 K5.2.2.2
  have n1 := R5.n
  rw [addA_4] at n1
  have res : ∀ m, RepL m 0 (addA A f t l) → Off sAd μ m → ∃ μ', jD_add_125 m = some (-2, μ') ∧ Off sAd μ μ' ∧ RepL μ' 0 A ∧ Cache μ' A := by
    intro m Rm om
    have nm := Rm.n
    rw [addA_4] at nm
    have Rc := RepL_cut (ExtA_add A f t l) Rm
    obtain ⟨m9, e9, o9, -, -, C9⟩ := forget_ok (wr m (0, 0, 0) 4 (nI (A 4 0)))
    unfold jD_add_125
    simp (disch := omega) only [lit_0, lit_1, lit_2, lit_3, lit_4, lit_5, lit_6, lit_7, lit_8, lit_9, lit_10, lit_11, lit_12, lit_13, lit_14, lit_15, lit_16, lit_17, lit_18, lit_19, lit_20, lit_23, lit_24, lit_31, lit_32, lit_34, lit_36, lit_40, lit_48, lit_49, lit_57, lit_58, lit_59, lit_60, lit_64, lit_96, lit_97, lit_99, lit_101, lit_105, lit_108, lit_110, lit_111, lit_112, lit_114, lit_115, lit_116, lit_122, lit_127, lit_160, lit_216, lit_235, lit_238, lit_343, lit_476, lit_1296, lit_2000, lit_2401, lt_def, bind_s, gd_d, ix_n, inb_n, nI_add, pk_mul, pk_sub, nI_leI, nI_ltI, nI_eq, nI_ltn, nI_eqn, nI_eqn2, if_pos, if_neg, if_true, if_false, nI_addm1, nm, Nat.add_sub_cancel, e9]
    refine ⟨m9, rfl, Off_trans (Off_wr om rfl) (Off_mono o9 sAd_f), RepL_off o9 (fun _ _ => rfl) Rc, C9 A⟩
  rw [hp1, bind_s, if_neg n10, hp2, bind_s, if_neg n10, if_neg c3']
  cases w : adQ A (nI f) (nI t) (nI l) with
  | true =>
    obtain ⟨-, -, -, v, nn⟩ := adQ_t w
    unfold adQ at w
    simp only [Bool.and_eq_true, ea] at w
    obtain ⟨-, -, wh, ws⟩ := w
    rw [if_pos wh] at e4
    rw [if_pos ws] at sf
    rw [v, nn, ea]
    simp (disch := omega) only [lit_0, lit_1, lit_2, lit_3, lit_4, lit_5, lit_6, lit_7, lit_8, lit_9, lit_10, lit_11, lit_12, lit_13, lit_14, lit_15, lit_16, lit_17, lit_18, lit_19, lit_20, lit_23, lit_24, lit_31, lit_32, lit_34, lit_36, lit_40, lit_48, lit_49, lit_57, lit_58, lit_59, lit_60, lit_64, lit_96, lit_97, lit_99, lit_101, lit_105, lit_108, lit_110, lit_111, lit_112, lit_114, lit_115, lit_116, lit_122, lit_127, lit_160, lit_216, lit_235, lit_238, lit_343, lit_476, lit_1296, lit_2000, lit_2401, lt_def, bind_s, gd_d, ix_n, inb_n, nI_add, pk_mul, pk_sub, nI_leI, nI_ltI, nI_eq, nI_ltn, nI_eqn, nI_eqn2, if_pos, if_neg, if_true, if_false, nI_addm1, R.n, e1, e2, e3, e4, e5, sf, n1]
    exact ⟨m5, rfl, o15, R5, K5.cache⟩
  | false =>
    obtain ⟨-, nn⟩ := adQ_f w
    have v : adV A (nI f) (nI t) (nI l) = -2 := by unfold adV; rw [if_pos g, if_pos c5, w]; rfl
    rw [v, nn]
    unfold adQ at w
    rw [g, decide_eq_true c5, ea, Bool.true_and, Bool.true_and] at w
    cases wh : heldA (addA A f t l) (dA (addA A f t l)) with
    | false =>
      rw [wh, if_neg (by simp)] at e4
      simp (disch := omega) only [lit_0, lit_1, lit_2, lit_3, lit_4, lit_5, lit_6, lit_7, lit_8, lit_9, lit_10, lit_11, lit_12, lit_13, lit_14, lit_15, lit_16, lit_17, lit_18, lit_19, lit_20, lit_23, lit_24, lit_31, lit_32, lit_34, lit_36, lit_40, lit_48, lit_49, lit_57, lit_58, lit_59, lit_60, lit_64, lit_96, lit_97, lit_99, lit_101, lit_105, lit_108, lit_110, lit_111, lit_112, lit_114, lit_115, lit_116, lit_122, lit_127, lit_160, lit_216, lit_235, lit_238, lit_343, lit_476, lit_1296, lit_2000, lit_2401, lt_def, bind_s, gd_d, ix_n, inb_n, nI_add, pk_mul, pk_sub, nI_leI, nI_ltI, nI_eq, nI_ltn, nI_eqn, nI_eqn2, if_pos, if_neg, if_true, if_false, nI_addm1, R.n, e1, e2, e3, e4]
      exact res m4 R4 o14
    | true =>
      rw [wh, Bool.true_and] at w
      rw [if_pos wh] at e4
      rw [w, if_neg (by simp)] at sf
      simp (disch := omega) only [lit_0, lit_1, lit_2, lit_3, lit_4, lit_5, lit_6, lit_7, lit_8, lit_9, lit_10, lit_11, lit_12, lit_13, lit_14, lit_15, lit_16, lit_17, lit_18, lit_19, lit_20, lit_23, lit_24, lit_31, lit_32, lit_34, lit_36, lit_40, lit_48, lit_49, lit_57, lit_58, lit_59, lit_60, lit_64, lit_96, lit_97, lit_99, lit_101, lit_105, lit_108, lit_110, lit_111, lit_112, lit_114, lit_115, lit_116, lit_122, lit_127, lit_160, lit_216, lit_235, lit_238, lit_343, lit_476, lit_1296, lit_2000, lit_2401, lt_def, bind_s, gd_d, ix_n, inb_n, nI_add, pk_mul, pk_sub, nI_leI, nI_ltI, nI_eq, nI_ltn, nI_eqn, nI_eqn2, if_pos, if_neg, if_true, if_false, nI_addm1, R.n, e1, e2, e3, e4, e5, sf]
      exact res m5 R5 o15
theorem addM_ok (R : RepR (μ (5, 0, 1)) A B) (O : OkA A) (x y z : Int32) : ∃ μ', fM_add x y z μ = some (adV A x y z, μ') ∧ Off sAm μ μ' ∧ RepR (μ' (5, 0, 1)) (adN A x y z) B := by
  have h6 := O.p6
  have hn := O.n4
  have n10 : ¬ nI 1 = nI 0 := by decide +kernel
  have in3 : ∀ w, fM_in z.toInt64 (1 : Int64) (20 : Int64) w = some (if nI 1 ≤ z ∧ z ≤ nI 20 then nI 1 else nI 0) := fun w => inR z 1 20 rfl rfl w
  have bad : ¬ Good A x y z → fM_isGood x y z μ = some (nI 0) → ∃ μ', fM_add x y z μ = some (adV A x y z, μ') ∧ Off sAm μ μ' ∧ RepR (μ' (5, 0, 1)) (adN A x y z) B := by
    intro h e
    have g : goodB A x y z = false := by
      cases q : goodB A x y z with
      | true => exact absurd (goodB_iff.mp q) h
      | false => rfl
    have o : adQ A x y z = false := by unfold adQ; rw [g]; rfl
    have v : adV A x y z = -1 := by unfold adV; rw [g]; rfl
    rw [v, (adQ_f o).2]
    unfold fM_add
    rw [e, bind_s, lit_0, if_pos rfl]
    exact ⟨μ, rfl, Off_refl _ _, R⟩
  by_cases c1 : ∃ p, p < A 0 0 ∧ x = nI p
  rotate_left
  · refine bad (fun ⟨f, t, l, g1, g2, g3, g4, g5, e1, e2, e3⟩ => c1 ⟨f, g1, e1⟩) ?_
    unfold fM_isGood
    rw [isPlaceM_ok R O x, if_neg c1]; rfl
  by_cases c2 : ∃ p, p < A 0 0 ∧ y = nI p
  rotate_left
  · refine bad (fun ⟨f, t, l, g1, g2, g3, g4, g5, e1, e2, e3⟩ => c2 ⟨t, g2, e2⟩) ?_
    unfold fM_isGood
    rw [isPlaceM_ok R O x, if_pos c1, bind_s, lit_0, if_neg n10, isPlaceM_ok R O y, if_neg c2]; rfl
  obtain ⟨f, hf, rfl⟩ := c1
  obtain ⟨t, ht, rfl⟩ := c2
  have hp1 : fM_isPlace (nI f) μ = some (nI 1) := by rw [isPlaceM_ok R O, if_pos ⟨f, hf, rfl⟩]
  have hp2 : fM_isPlace (nI t) μ = some (nI 1) := by rw [isPlaceM_ok R O, if_pos ⟨t, ht, rfl⟩]
  by_cases c3 : f = t
  · refine bad (fun ⟨f', t', l, g1, g2, g3, g4, g5, e1, e2, e3⟩ => ?_) ?_
    · have := (nI_eq (by omega) (by omega)).mp e1
      have := (nI_eq (by omega) (by omega)).mp e2
      omega
    · unfold fM_isGood
      rw [hp1, bind_s, lit_0, if_neg n10, hp2, bind_s, if_neg n10, c3, if_pos rfl]
  have c3' : ¬ nI f = nI t := fun e => c3 ((nI_eq (by omega) (by omega)).mp e)
  rcases rgN z 1 20 (by omega) (by omega) with c4 | ⟨l, l1, l2, rfl⟩
  · refine bad (fun ⟨f', t', l, g1, g2, g3, g4, g5, e1, e2, e3⟩ => c4 ?_) ?_
    · rw [e3]
      exact ⟨(nI_leI (by omega) (by omega)).mpr g4, (nI_leI (by omega) (by omega)).mpr g5⟩
    · unfold fM_isGood
      rw [hp1, bind_s, lit_0, if_neg n10, hp2, bind_s, if_neg n10, if_neg c3', in3, if_neg c4, bind_s, if_pos rfl]
  have c4 : nI 1 ≤ nI l ∧ nI l ≤ nI 20 := ⟨(nI_leI (by omega) (by omega)).mpr l1, (nI_leI (by omega) (by omega)).mpr l2⟩
  have gd : fM_isGood (nI f) (nI t) (nI l) μ = some (nI 1) := by
    unfold fM_isGood
    rw [hp1, bind_s, lit_0, if_neg n10, hp2, bind_s, if_neg n10, if_neg c3', in3, if_pos c4, bind_s, if_neg n10, lit_1]
  have G : Good A (nI f) (nI t) (nI l) := ⟨f, t, l, hf, ht, c3, l1, l2, rfl, rfl, rfl⟩
  have g : goodB A (nI f) (nI t) (nI l) = true := goodB_iff.mpr G
  unfold fM_add
  by_cases c5 : A 4 0 < 4
  rotate_left
  · have o : adQ A (nI f) (nI t) (nI l) = false := by unfold adQ; rw [decide_eq_false c5]; simp
    have v : adV A (nI f) (nI t) (nI l) = -3 := by unfold adV; rw [if_pos g, if_neg c5]
    have e4 : A 4 0 = 4 := by omega
    rw [v, (adQ_f o).2]
    simp (disch := omega) only [lit_0, lit_1, lit_2, lit_3, lit_4, lit_5, lit_6, lit_7, lit_8, lit_9, lit_10, lit_11, lit_12, lit_13, lit_14, lit_15, lit_16, lit_17, lit_18, lit_19, lit_20, lit_23, lit_24, lit_31, lit_32, lit_34, lit_36, lit_40, lit_48, lit_49, lit_57, lit_58, lit_59, lit_60, lit_64, lit_96, lit_97, lit_99, lit_101, lit_105, lit_108, lit_110, lit_111, lit_112, lit_114, lit_115, lit_116, lit_122, lit_127, lit_160, lit_216, lit_235, lit_238, lit_343, lit_476, lit_1296, lit_2000, lit_2401, lt_def, bind_s, gd_d, ix_n, inb_n, nI_add, pk_mul, pk_sub, nI_leI, nI_ltI, nI_eq, nI_ltn, nI_eqn, nI_eqn2, if_pos, if_neg, if_true, if_false, nI_addm1, gd, R.n]
    exact ⟨μ, rfl, Off_refl _ _, R⟩
  have ea : adA A (nI f) (nI t) (nI l) = addA A f t l := adA_eq (by omega) (by omega) (by omega)
  have O1 : OkA (addA A f t l) := OkA_add O c5 hf ht c3 l1 l2
  have hn0 := R.n
  simp (disch := omega) only [lit_0, lit_1, lit_2, lit_3, lit_4, lit_5, lit_6, lit_7, lit_8, lit_9, lit_10, lit_11, lit_12, lit_13, lit_14, lit_15, lit_16, lit_17, lit_18, lit_19, lit_20, lit_23, lit_24, lit_31, lit_32, lit_34, lit_36, lit_40, lit_48, lit_49, lit_57, lit_58, lit_59, lit_60, lit_64, lit_96, lit_97, lit_99, lit_101, lit_105, lit_108, lit_110, lit_111, lit_112, lit_114, lit_115, lit_116, lit_122, lit_127, lit_160, lit_216, lit_235, lit_238, lit_343, lit_476, lit_1296, lit_2000, lit_2401, lt_def, bind_s, gd_d, ix_n, inb_n, nI_add, pk_mul, pk_sub, nI_leI, nI_ltI, nI_eq, nI_ltn, nI_eqn, nI_eqn2, if_pos, if_neg, if_true, if_false, nI_addm1, gd, hn0, Nat.add_zero]
  generalize e1 : wr μ (5, 0, 1) (34 + 6 * A 4 0) (nI f) = m1
  generalize e2 : wr m1 (5, 0, 1) (34 + 6 * A 4 0 + 1) (nI t) = m2
  generalize e3 : wr m2 (5, 0, 1) (34 + 6 * A 4 0 + 2) (nI l) = m3
  generalize e4 : wr m3 (5, 0, 1) (34 + 6 * A 4 0 + 3) (nI f) = m4
  generalize e5 : wr m4 (5, 0, 1) (34 + 6 * A 4 0 + 4) (nI 0) = m5
  generalize e6 : wr m5 (5, 0, 1) (34 + 6 * A 4 0 + 5) (-nI 4) = m6
  have fr : ∀ i, ¬ (34 + 6 * A 4 0 ≤ i ∧ i ≤ 34 + 6 * A 4 0 + 5) → m6 (5, 0, 1) i = μ (5, 0, 1) i := by
    intro i hi
    rw [← e6, wr_off _ _ (by simp; omega), ← e5, wr_off _ _ (by simp; omega), ← e4, wr_off _ _ (by simp; omega), ← e3, wr_off _ _ (by simp; omega), ← e2, wr_off _ _ (by simp; omega), ← e1, wr_off _ _ (by simp; omega)]
  have v0 : m6 (5, 0, 1) (34 + 6 * A 4 0 + 0) = nI f := by
    rw [← e6, wr_off _ _ (by simp), ← e5, wr_off _ _ (by simp), ← e4, wr_off _ _ (by simp), ← e3, wr_off _ _ (by simp), ← e2, wr_off _ _ (by simp), ← e1, Nat.add_zero, wr_at]
  have v1 : m6 (5, 0, 1) (34 + 6 * A 4 0 + 1) = nI t := by
    rw [← e6, wr_off _ _ (by simp), ← e5, wr_off _ _ (by simp), ← e4, wr_off _ _ (by simp), ← e3, wr_off _ _ (by simp), ← e2, wr_at]
  have v2 : m6 (5, 0, 1) (34 + 6 * A 4 0 + 2) = nI l := by
    rw [← e6, wr_off _ _ (by simp), ← e5, wr_off _ _ (by simp), ← e4, wr_off _ _ (by simp), ← e3, wr_at]
  have v3 : m6 (5, 0, 1) (34 + 6 * A 4 0 + 3) = nI f := by
    rw [← e6, wr_off _ _ (by simp), ← e5, wr_off _ _ (by simp), ← e4, wr_at]
  have v4 : m6 (5, 0, 1) (34 + 6 * A 4 0 + 4) = nI 0 := by
    rw [← e6, wr_off _ _ (by simp), ← e5, wr_at]
  have v5 : m6 (5, 0, 1) (34 + 6 * A 4 0 + 5) = -4 := by
    rw [← e6, wr_at]; rfl
  have ot : Off sAm μ m6 := by
    rw [← e6, ← e5, ← e4, ← e3, ← e2, ← e1]
    exact Off_wr (Off_wr (Off_wr (Off_wr (Off_wr (Off_wr (Off_refl _ _) rfl) rfl) rfl) rfl) rfl) rfl
  have hn6 : m6 (5, 0, 1) 1 = nI (A 4 0) := by rw [fr 1 (by omega)]; exact hn0
  simp (disch := omega) only [lit_0, lit_1, lit_2, lit_3, lit_4, lit_5, lit_6, lit_7, lit_8, lit_9, lit_10, lit_11, lit_12, lit_13, lit_14, lit_15, lit_16, lit_17, lit_18, lit_19, lit_20, lit_23, lit_24, lit_31, lit_32, lit_34, lit_36, lit_40, lit_48, lit_49, lit_57, lit_58, lit_59, lit_60, lit_64, lit_96, lit_97, lit_99, lit_101, lit_105, lit_108, lit_110, lit_111, lit_112, lit_114, lit_115, lit_116, lit_122, lit_127, lit_160, lit_216, lit_235, lit_238, lit_343, lit_476, lit_1296, lit_2000, lit_2401, lt_def, bind_s, gd_d, ix_n, inb_n, nI_add, pk_mul, pk_sub, nI_leI, nI_ltI, nI_eq, nI_ltn, nI_eqn, nI_eqn2, if_pos, if_neg, if_true, if_false, nI_addm1, hn6]
  generalize e7 : wr m6 (5, 0, 1) 1 (nI (A 4 0 + 1)) = m7
  have o7 : Off sAm μ m7 := by rw [← e7]; exact Off_wr ot rfl
  have fr7 : ∀ i, i ≠ 1 → m7 (5, 0, 1) i = m6 (5, 0, 1) i := fun i hi => by rw [← e7, wr_off _ _ (by simp; omega)]
  have R7 : RepR (m7 (5, 0, 1)) (addA A f t l) B := by
    have o : ∀ g, g < 4 ∨ 10 < g → addA A f t l g = A g := fun g hg => addA_o A f t l hg
    obtain ⟨r1, r2, r3, r4, r5, r6, r7⟩ := R
    refine ⟨?_, ?_, ?_, ?_, fun p hp => ?_, fun u hu => ?_, fun i hi => ?_⟩
    · rw [fr7 0 (by omega), fr 0 (by omega), o 0 (by omega)]; exact r1
    · rw [← e7, wr_at, addA_4]
    · rw [fr7 2 (by omega), fr 2 (by omega), o 11 (by omega)]; exact r3
    · rw [fr7 3 (by omega), fr 3 (by omega), o 12 (by omega)]; exact r4
    · rw [o 0 (by omega)] at hp
      have h3 := (O.pc hp).2.1
      rw [o 1 (by omega), o 2 (by omega), o 3 (by omega), fr7 _ (by omega), fr7 _ (by omega), fr _ (by omega), fr _ (by omega)]
      have := r5 p hp
      exact ⟨this.1, this.2.1, fun i hi => by rw [fr7 _ (by omega), fr _ (by omega)]; exact this.2.2.1 i hi, this.2.2.2⟩
    · have hu2 : u < A 4 0 + 1 := hu
      rw [fr7 _ (by omega), fr7 _ (by omega), fr7 _ (by omega), fr7 _ (by omega), fr7 _ (by omega), fr7 _ (by omega)]
      by_cases e : u = A 4 0
      · subst e
        rw [v0, v1, v2, v3, v4, v5]
        unfold spotA
        rw [addA_5, addA_6, addA_7, addA_8, addA_9, addA_10, upx_at, upx_at, upx_at, upx_at, upx_at]
        refine ⟨rfl, rfl, rfl, ?_, rfl, rfl⟩
        congr 1
        by_cases q : t ≤ f
        · rw [if_pos q, if_pos q]; omega
        · rw [if_neg q, if_neg q]; omega
      · have ul : u < A 4 0 := by omega
        rw [fr _ (by omega), fr _ (by omega), fr _ (by omega), fr _ (by omega), fr _ (by omega), fr _ (by omega)]
        rw [(ExtA_add A f t l).spot ul, addA_5, addA_6, addA_7, addA_8, addA_9, addA_10, upx_ne _ e, upx_ne _ e, upx_ne _ e, upx_ne _ e, upx_ne _ e, upx_ne _ e]
        exact r6 u ul
    · rw [o 12 (by omega)] at hi
      rw [o 13 (by omega), o 14 (by omega), o 15 (by omega), fr7 _ (by omega), fr7 _ (by omega), fr7 _ (by omega), fr _ (by omega), fr _ (by omega), fr _ (by omega)]
      exact r7 i hi
  obtain ⟨m8, e8, o8⟩ := isHeldAll_ok R7 O1
  have R8 := RepR_off o8 (fun _ => rfl) R7
  obtain ⟨m9, e9, o9⟩ := isSafeNow_ok R8 O1
  have R9 := RepR_off o9 (fun _ => rfl) R8
  have o18 : Off sAm μ m8 := Off_trans o7 (Off_mono o8 sAm_sp)
  have o19 : Off sAm μ m9 := Off_trans o18 (Off_mono o9 sAm_ex)
  have n9 := R9.n
  rw [addA_4] at n9
  have res : ∀ m, RepR (m (5, 0, 1)) (addA A f t l) B → Off sAm μ m → ∃ μ', jM_add_124 m = some (-2, μ') ∧ Off sAm μ μ' ∧ RepR (μ' (5, 0, 1)) A B := by
    intro m Rm om
    have nm := Rm.n
    rw [addA_4] at nm
    unfold jM_add_124
    simp (disch := omega) only [lit_0, lit_1, lit_2, lit_3, lit_4, lit_5, lit_6, lit_7, lit_8, lit_9, lit_10, lit_11, lit_12, lit_13, lit_14, lit_15, lit_16, lit_17, lit_18, lit_19, lit_20, lit_23, lit_24, lit_31, lit_32, lit_34, lit_36, lit_40, lit_48, lit_49, lit_57, lit_58, lit_59, lit_60, lit_64, lit_96, lit_97, lit_99, lit_101, lit_105, lit_108, lit_110, lit_111, lit_112, lit_114, lit_115, lit_116, lit_122, lit_127, lit_160, lit_216, lit_235, lit_238, lit_343, lit_476, lit_1296, lit_2000, lit_2401, lt_def, bind_s, gd_d, ix_n, inb_n, nI_add, pk_mul, pk_sub, nI_leI, nI_ltI, nI_eq, nI_ltn, nI_eqn, nI_eqn2, if_pos, if_neg, if_true, if_false, nI_addm1, nm, Nat.add_sub_cancel]
    refine ⟨_, rfl, Off_wr om rfl, RepR_cut (ExtA_add A f t l) Rm (wr_at _ _ _ _) (fun i hi => wr_off _ _ (by simp; omega))⟩
  cases w : adQ A (nI f) (nI t) (nI l) with
  | true =>
    obtain ⟨-, -, -, v, nn⟩ := adQ_t w
    unfold adQ at w
    simp only [Bool.and_eq_true, ea] at w
    obtain ⟨-, -, wh, ws⟩ := w
    rw [if_pos wh] at e8
    rw [if_pos ws] at e9
    rw [v, nn, ea]
    simp (disch := omega) only [lit_0, lit_1, lit_2, lit_3, lit_4, lit_5, lit_6, lit_7, lit_8, lit_9, lit_10, lit_11, lit_12, lit_13, lit_14, lit_15, lit_16, lit_17, lit_18, lit_19, lit_20, lit_23, lit_24, lit_31, lit_32, lit_34, lit_36, lit_40, lit_48, lit_49, lit_57, lit_58, lit_59, lit_60, lit_64, lit_96, lit_97, lit_99, lit_101, lit_105, lit_108, lit_110, lit_111, lit_112, lit_114, lit_115, lit_116, lit_122, lit_127, lit_160, lit_216, lit_235, lit_238, lit_343, lit_476, lit_1296, lit_2000, lit_2401, lt_def, bind_s, gd_d, ix_n, inb_n, nI_add, pk_mul, pk_sub, nI_leI, nI_ltI, nI_eq, nI_ltn, nI_eqn, nI_eqn2, if_pos, if_neg, if_true, if_false, nI_addm1, e8, e9, n9]
    exact ⟨m9, rfl, o19, R9⟩
  | false =>
    obtain ⟨-, nn⟩ := adQ_f w
    have v : adV A (nI f) (nI t) (nI l) = -2 := by unfold adV; rw [if_pos g, if_pos c5, w]; rfl
    rw [v, nn]
    unfold adQ at w
    rw [g, decide_eq_true c5, ea, Bool.true_and, Bool.true_and] at w
    cases wh : heldA (addA A f t l) (dA (addA A f t l)) with
    | false =>
      rw [wh, if_neg (by simp)] at e8
      simp (disch := omega) only [lit_0, lit_1, lit_2, lit_3, lit_4, lit_5, lit_6, lit_7, lit_8, lit_9, lit_10, lit_11, lit_12, lit_13, lit_14, lit_15, lit_16, lit_17, lit_18, lit_19, lit_20, lit_23, lit_24, lit_31, lit_32, lit_34, lit_36, lit_40, lit_48, lit_49, lit_57, lit_58, lit_59, lit_60, lit_64, lit_96, lit_97, lit_99, lit_101, lit_105, lit_108, lit_110, lit_111, lit_112, lit_114, lit_115, lit_116, lit_122, lit_127, lit_160, lit_216, lit_235, lit_238, lit_343, lit_476, lit_1296, lit_2000, lit_2401, lt_def, bind_s, gd_d, ix_n, inb_n, nI_add, pk_mul, pk_sub, nI_leI, nI_ltI, nI_eq, nI_ltn, nI_eqn, nI_eqn2, if_pos, if_neg, if_true, if_false, nI_addm1, e8]
      exact res m8 R8 o18
    | true =>
      rw [wh, Bool.true_and] at w
      rw [if_pos wh] at e8
      rw [w, if_neg (by simp)] at e9
      simp (disch := omega) only [lit_0, lit_1, lit_2, lit_3, lit_4, lit_5, lit_6, lit_7, lit_8, lit_9, lit_10, lit_11, lit_12, lit_13, lit_14, lit_15, lit_16, lit_17, lit_18, lit_19, lit_20, lit_23, lit_24, lit_31, lit_32, lit_34, lit_36, lit_40, lit_48, lit_49, lit_57, lit_58, lit_59, lit_60, lit_64, lit_96, lit_97, lit_99, lit_101, lit_105, lit_108, lit_110, lit_111, lit_112, lit_114, lit_115, lit_116, lit_122, lit_127, lit_160, lit_216, lit_235, lit_238, lit_343, lit_476, lit_1296, lit_2000, lit_2401, lt_def, bind_s, gd_d, ix_n, inb_n, nI_add, pk_mul, pk_sub, nI_leI, nI_ltI, nI_eq, nI_ltn, nI_eqn, nI_eqn2, if_pos, if_neg, if_true, if_false, nI_addm1, e8, e9]
      exact res m9 R9 o19
end Add2
