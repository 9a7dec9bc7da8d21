def sPm : Rf → Nat → Bool := fun r i => r == (5, 0, 1) || r == (5, 0, 3) || sEx r i
theorem sPm_st (r : Rf) (i : Nat) (h : sPm r i = false) : sSt r i = false := by
  simp only [sPm, sSt, Bool.or_eq_false_iff] at *; exact h.1.1
theorem sPm_bf (r : Rf) (i : Nat) (h : sPm r i = false) : sBf r i = false := by
  simp only [sPm, sBf, Bool.or_eq_false_iff] at *; exact h.1.2
theorem sPm_ex (r : Rf) (i : Nat) (h : sPm r i = false) : sEx r i = false := by
  simp only [sPm, Bool.or_eq_false_iff] at h; exact h.2
theorem sPm_ms (r : Rf) (i : Nat) (h : sPm r i = false) : sMs r i = false := by
  have a := sPm_st r i h
  have b := sEx_sSp r i (sPm_ex r i h)
  simp only [sSt, sSp] at a b
  simp only [sMs, a, b, Bool.or_false]
theorem cnt_full {p : Nat → Bool} : ∀ {n : Nat}, (∀ i, i < n → p i = true) → cnt p n = n
  | 0, _ => rfl
  | n + 1, h => by
    rw [cnt_s, cnt_full (fun i hi => h i (by omega)), h n (by omega)]
    rfl
theorem cnt_lt {p : Nat → Bool} {t : Nat} (h : p t = false) : ∀ {n : Nat}, t < n → cnt p n < n
  | 0, q => absurd q (by omega)
  | n + 1, q => by
    rw [cnt_s]
    by_cases e : t = n
    · subst e
      have := cnt_le p t
      rw [h]
      simp
      omega
    · have := cnt_lt h (n := n) (by omega)
      split <;> omega
section Plan4
variable {μ : Mem} {A : Ab} {B : Nat → Nat → Nat}
theorem tots_ok {m : Mem} {F : Nat → Nat} {n4 so : Nat} (hn : n4 ≤ 4) (hso : so ≤ 1) (hF : ∀ t, t < n4 → F t < 2 ^ 20) (e1 : m (5, 0, 1) 1 = nI n4) (e5 : ∀ t, t < n4 → fM_ofTrain (nI t) (nI 5) m = some (nI (F t))) (x : Int32) : ∃ μ', jM_planned_59 (nI so) x m = some (nI (if so = 0 then mx F n4 else sm F n4), μ') ∧ Off sSt m μ' ∧ ∀ i, i < 238 → μ' (5, 0, 1) i = m (5, 0, 3) i := by
  unfold jM_planned_59
  simp only [lt_def]
  refine lz30_m (B := bM_planned_67 (nI so) m) (fun w => ∃ μ', w = some (nI (if so = 0 then mx F n4 else sm F n4), μ') ∧ Off sSt m μ' ∧ ∀ i, i < 238 → μ' (5, 0, 1) i = m (5, 0, 3) i) (fun a b c => ∃ i, i ≤ n4 ∧ a = nI (mx F i) ∧ b = nI (sm F i) ∧ c = nI i) (fun _ _ c => 6 - ix c) ?_ FU _ _ _ ⟨0, by omega, rfl, rfl, rfl⟩ (by show 6 - _ < _; exact FU_gt (by omega))
  rintro sf a b c ⟨i, hi, rfl, rfl, rfl⟩
  unfold bM_planned_67
  have hm := mx_lt (f := F) (b := 2 ^ 20) (by omega) (n := i) (fun j hj => hF j (by omega))
  by_cases z : i = n4
  · right
    subst z
    obtain ⟨m2, e2, o2, v2⟩ := backBefore_ok m
    have c : so = 0 ∨ so = 1 := by omega
    rcases c with rfl | rfl
    · simp (disch := omega) only [lit_0, lit_1, lit_2, lit_3, lit_4, lit_5, lit_6, lit_7, lit_8, lit_9, lit_10, lit_11, lit_12, lit_13, lit_14, lit_15, lit_16, lit_17, lit_18, lit_19, lit_20, lit_23, lit_24, lit_31, lit_32, lit_34, lit_36, lit_40, lit_48, lit_49, lit_57, lit_58, lit_59, lit_60, lit_64, lit_96, lit_97, lit_99, lit_101, lit_105, lit_108, lit_110, lit_111, lit_112, lit_114, lit_115, lit_116, lit_122, lit_127, lit_160, lit_216, lit_235, lit_238, lit_343, lit_476, lit_1296, lit_2000, lit_2401, lt_def, bind_s, gd_d, ix_n, inb_n, nI_add, pk_mul, pk_sub, nI_leI, nI_ltI, nI_eq, nI_ltn, nI_eqn, nI_eqn2, if_pos, if_neg, if_true, if_false, nI_addm1, e1, jM_planned_119, e2]
      exact ⟨m2, rfl, o2, v2⟩
    · simp (disch := omega) only [lit_0, lit_1, lit_2, lit_3, lit_4, lit_5, lit_6, lit_7, lit_8, lit_9, lit_10, lit_11, lit_12, lit_13, lit_14, lit_15, lit_16, lit_17, lit_18, lit_19, lit_20, lit_23, lit_24, lit_31, lit_32, lit_34, lit_36, lit_40, lit_48, lit_49, lit_57, lit_58, lit_59, lit_60, lit_64, lit_96, lit_97, lit_99, lit_101, lit_105, lit_108, lit_110, lit_111, lit_112, lit_114, lit_115, lit_116, lit_122, lit_127, lit_160, lit_216, lit_235, lit_238, lit_343, lit_476, lit_1296, lit_2000, lit_2401, lt_def, bind_s, gd_d, ix_n, inb_n, nI_add, pk_mul, pk_sub, nI_leI, nI_ltI, nI_eq, nI_ltn, nI_eqn, nI_eqn2, if_pos, if_neg, if_true, if_false, nI_addm1, e1, jM_planned_119, e2]
      exact ⟨m2, rfl, o2, v2⟩
  · left
    have hf := hF i (by omega)
    by_cases y : F i ≤ mx F i
    · simp (disch := omega) only [lit_0, lit_1, lit_2, lit_3, lit_4, lit_5, lit_6, lit_7, lit_8, lit_9, lit_10, lit_11, lit_12, lit_13, lit_14, lit_15, lit_16, lit_17, lit_18, lit_19, lit_20, lit_23, lit_24, lit_31, lit_32, lit_34, lit_36, lit_40, lit_48, lit_49, lit_57, lit_58, lit_59, lit_60, lit_64, lit_96, lit_97, lit_99, lit_101, lit_105, lit_108, lit_110, lit_111, lit_112, lit_114, lit_115, lit_116, lit_122, lit_127, lit_160, lit_216, lit_235, lit_238, lit_343, lit_476, lit_1296, lit_2000, lit_2401, lt_def, bind_s, gd_d, ix_n, inb_n, nI_add, pk_mul, pk_sub, nI_leI, nI_ltI, nI_eq, nI_ltn, nI_eqn, nI_eqn2, if_pos, if_neg, if_true, if_false, nI_addm1, e1, e5 i (by omega)]
      refine ⟨_, _, _, ⟨i + 1, by omega, ?_, rfl, rfl⟩, ?_, rfl⟩
      · rw [mx_s, if_neg (by omega)]
      · (try simp (disch := omega) only [ix_n]); omega
    · simp (disch := omega) only [lit_0, lit_1, lit_2, lit_3, lit_4, lit_5, lit_6, lit_7, lit_8, lit_9, lit_10, lit_11, lit_12, lit_13, lit_14, lit_15, lit_16, lit_17, lit_18, lit_19, lit_20, lit_23, lit_24, lit_31, lit_32, lit_34, lit_36, lit_40, lit_48, lit_49, lit_57, lit_58, lit_59, lit_60, lit_64, lit_96, lit_97, lit_99, lit_101, lit_105, lit_108, lit_110, lit_111, lit_112, lit_114, lit_115, lit_116, lit_122, lit_127, lit_160, lit_216, lit_235, lit_238, lit_343, lit_476, lit_1296, lit_2000, lit_2401, lt_def, bind_s, gd_d, ix_n, inb_n, nI_add, pk_mul, pk_sub, nI_leI, nI_ltI, nI_eq, nI_ltn, nI_eqn, nI_eqn2, if_pos, if_neg, if_true, if_false, nI_addm1, e1, e5 i (by omega)]
      refine ⟨_, _, _, ⟨i + 1, by omega, ?_, rfl, rfl⟩, ?_, rfl⟩
      · rw [mx_s, if_pos (by omega)]
      · (try simp (disch := omega) only [ix_n]); omega
theorem plannedM_ok (R : RepR (μ (5, 0, 1)) A B) (O : OkA A) (S : SafeA A (dA A)) (hc : A 11 0 + 200 < 2 ^ 19) {r so : Nat} (hr : r < 3) (hso : so ≤ 1) : ∃ μ', fM_planned (nI r) (nI so) μ = some (nI (plV A r so), μ') ∧ Off sPm μ μ' ∧ ∀ i, i < 238 → μ' (5, 0, 1) i = μ (5, 0, 1) i := by
  obtain ⟨h1, h2, h3⟩ := plJ_ok O hc r
  obtain ⟨fo, fs, fd⟩ := fin_ok O hc S r
  have pb := phi_b O
  have hn := O.n4
  unfold fM_planned
  obtain ⟨m1, e1, o1, v1⟩ := keepBefore_ok μ
  have R1 := RepR_off o1 (fun _ => rfl) R
  have p1 := postureNow_ok R1 O
  obtain ⟨m2, nq, q, e2, o2, E2⟩ := explore_ok R1 O (DOk_dA O)
  have R2 := RepR_off o2 (fun _ => rfl) R1
  obtain ⟨m3, M, e3, o3, s3, R3⟩ := sends_ok R2 O E2 (Rch_refl _) (by omega) hr
  have eM : M = sM A r := SndM_un s3 (sM_ok _ _)
  subst eM
  have E3 : Expl m3 A (dA A) nq q := Expl_off E2 o3 rfl (fun _ => rfl) (fun _ => rfl)
  have o13 : Off sPm μ m3 := Off_trans (Off_mono o1 sPm_bf) (Off_trans (Off_mono o2 sPm_ex) (Off_mono o3 sPm_ms))
  have v3 : ∀ i, i < 238 → m3 (5, 0, 3) i = μ (5, 0, 1) i := fun i hi => by rw [o3 _ _ rfl, o2 _ _ rfl]; exact v1 i hi
  have R3' : RepR (m3 (5, 0, 1)) (ckA (letA (itA A r 0) r) 0) B := RepR_ck0 R3
  rw [e1, bind_s, p1, bind_s, e2, bind_s, e3, bind_s, lt_def]
  refine up11 (B := bM_planned_20 (nI r) (nI so)) (fun w => ∃ μ', w = some (nI (plV A r so), μ') ∧ Off sPm μ μ' ∧ ∀ i, i < 238 → μ' (5, 0, 1) i = μ (5, 0, 1) i) 1000 (by omega) (fun n m => ∃ j a, j ≤ plJ A r ∧ (a = 0 ∨ a < wtA (letA (itA A r j) r) (A 4 0)) ∧ n + A 11 0 = itA A r j 11 0 + a ∧ Off sPm μ m ∧ (∀ i, i < 238 → m (5, 0, 3) i = μ (5, 0, 1) i) ∧ Expl m A (dA A) nq q ∧ RepR (m (5, 0, 1)) (ckA (letA (itA A r j) r) a) B) ⟨0, 0, by omega, Or.inl rfl, by show 0 + A 11 0 = A 11 0 + 0; omega, o13, v3, E3, R3'⟩ (fun sf n m hn1 hJ => ?_) (fun sf m hJ => ?_)
  · obtain ⟨j, a, b1, b2, b3, b4, b5, b6, b7⟩ := hJ
    have vj : ∀ i, i < j → 0 < wtA (letA (itA A r i) r) (A 4 0) := fun i hi => h1 i (by omega)
    obtain ⟨o, s, d, rc, sf1, ph, ps, ck⟩ := it_ok O hc vj
    have hcj : itA A r j 11 0 < 2 ^ 19 := by omega
    obtain ⟨lo, ls, lc, ld, lr, lsf, lph, lps, lf⟩ := let_ok o hcj r
    have stL : StEq A (letA (itA A r j) r) := fun f hf => (ls f hf).trans (s f hf)
    have e4 : letA (itA A r j) r 4 = A 4 := stL 4 (by omega)
    have e40 : letA (itA A r j) r 4 0 = A 4 0 := by rw [e4]
    have w9 := wtA_le lo (n := A 4 0) (by rw [e4]; exact Nat.le_refl _)
    have e11 : letA (itA A r j) r 11 0 = itA A r j 11 0 := by rw [lc]
    have Oc : OkA (ckA (letA (itA A r j) r) a) := OkA_ck lo (by rw [e40]; exact b2) (by rw [e11]; omega)
    have c40 : ckA (letA (itA A r j) r) a 4 0 = A 4 0 := by rw [ckA_o _ _ (by omega), e4]
    have n7 := b7.n
    rw [c40] at n7
    have ws := withStatus_ok b7 Oc (w := 2) (by omega)
    rw [c40] at ws
    unfold bM_planned_20
    by_cases z : j = plJ A r
    · right
      subst z
      have a0 : a = 0 := by rw [h2] at b2; omega
      subst a0
      have eF : letA (itA A r (plJ A r)) r = finA A r := rfl
      rw [eF] at b7 ws Oc c40
      have f9 : ∀ t, t < A 4 0 → ckA (finA A r) 0 9 t = 2 := fun t ht => by rw [ckA_o _ _ (by omega)]; exact fd t ht
      rw [cnt_full (fun i hi => decide_eq_true (f9 i hi))] at ws
      obtain ⟨m4, e6, o4, v4⟩ := tots_ok (m := m) (F := fun t => finA A r 10 t) (n4 := A 4 0) (so := so) hn hso (fun t ht => (fo.tr (t := t) (by rw [fs 4 (by omega)]; exact ht)).2.2.2.2.2.2.2.2.2.2.1) n7 (fun t ht => by
        rw [of5 b7 Oc (t := t) (by rw [c40]; exact ht), f9 t ht, if_neg (by omega), ckA_o _ _ (by omega)]) (nI n)
      simp (disch := omega) only [lit_0, lit_1, lit_2, lit_3, lit_4, lit_5, lit_6, lit_7, lit_8, lit_9, lit_10, lit_11, lit_12, lit_13, lit_14, lit_15, lit_16, lit_17, lit_18, lit_19, lit_20, lit_23, lit_24, lit_31, lit_32, lit_34, lit_36, lit_40, lit_48, lit_49, lit_57, lit_58, lit_59, lit_60, lit_64, lit_96, lit_97, lit_99, lit_101, lit_105, lit_108, lit_110, lit_111, lit_112, lit_114, lit_115, lit_116, lit_122, lit_127, lit_160, lit_216, lit_235, lit_238, lit_343, lit_476, lit_1296, lit_2000, lit_2401, lt_def, bind_s, gd_d, ix_n, inb_n, nI_add, pk_mul, pk_sub, nI_leI, nI_ltI, nI_eq, nI_ltn, nI_eqn, nI_eqn2, if_pos, if_neg, if_true, if_false, nI_addm1, ws, n7, e6]
      refine ⟨m4, rfl, Off_trans b4 (Off_mono o4 sPm_st), fun i hi => (v4 i hi).trans (b5 i hi)⟩
    · left
      have hw := h1 j (by omega)
      obtain ⟨t0, t1, t2, t3⟩ := wt_at lo (n := A 4 0) (by rw [e4]; exact Nat.le_refl _) hw
      have cl := cnt_lt (p := fun t => decide (ckA (letA (itA A r j) r) a 9 t = 2)) (t := t0) (decide_eq_false (by rw [ckA_o _ _ (by omega), t2]; omega)) (n := A 4 0) t1
      obtain ⟨m4, e5, o4, R4⟩ := goesOn_ok b7 Oc (n := 1) (by rw [ckA_11]; show letA (itA A r j) r 11 0 + a + 1 < _; rw [e11]; omega)
      have OX : OkA (tickA (ckA (letA (itA A r j) r) a) 1) := OkA_tick Oc (by rw [ckA_11]; show letA (itA A r j) r 11 0 + a + 1 < _; rw [e11]; omega)
      have stX : StEq A (tickA (ckA (letA (itA A r j) r) a) 1) := fun f hf => (tick_st _ _ f hf).trans ((ck_st _ _ f hf).trans (stL f hf))
      have dX : dA (tickA (ckA (letA (itA A r j) r) a) 1) = dA (letA (itA A r j) r) := (dA_tick _ _).trans (ck_dA _ _)
      have cX : tickA (ckA (letA (itA A r j) r) a) 1 11 0 = itA A r j 11 0 + a + 1 := by
        show letA (itA A r j) r 11 0 + a + 1 = _
        rw [e11]
      have E4 : Expl m4 A (dA A) nq q := Expl_off b6 o4 rfl (fun _ => rfl) (fun _ => rfl)
      obtain ⟨m5, M, e6, o5, s5, R5⟩ := sends_ok R4 OX (Expl_st stX E4) (by rw [dX]; exact (Rch_st stX).mpr (Rch_trans rc ((Rch_st s).mp lr))) (by rw [cX]; omega) hr
      have eM5 : M = sM (tickA (ckA (letA (itA A r j) r) a) 1) r := SndM_un s5 (sM_ok _ _)
      subst eM5
      have R5' : RepR (m5 (5, 0, 1)) (letA (tickA (ckA (letA (itA A r j) r) a) 1) r) B := R5
      have o45 : Off sPm μ m5 := Off_trans b4 (Off_trans (Off_mono o4 sPm_st) (Off_mono o5 sPm_ms))
      have v5 : ∀ i, i < 238 → m5 (5, 0, 3) i = μ (5, 0, 1) i := fun i hi => by rw [o5 _ _ rfl, o4 _ _ rfl]; exact b5 i hi
      have E5 : Expl m5 A (dA A) nq q := Expl_off E4 o5 rfl (fun _ => rfl) (fun _ => rfl)
      have lit1 : nI 1 = nI 1 := rfl
      simp (disch := omega) only [lit_0, lit_1, lit_2, lit_3, lit_4, lit_5, lit_6, lit_7, lit_8, lit_9, lit_10, lit_11, lit_12, lit_13, lit_14, lit_15, lit_16, lit_17, lit_18, lit_19, lit_20, lit_23, lit_24, lit_31, lit_32, lit_34, lit_36, lit_40, lit_48, lit_49, lit_57, lit_58, lit_59, lit_60, lit_64, lit_96, lit_97, lit_99, lit_101, lit_105, lit_108, lit_110, lit_111, lit_112, lit_114, lit_115, lit_116, lit_122, lit_127, lit_160, lit_216, lit_235, lit_238, lit_343, lit_476, lit_1296, lit_2000, lit_2401, lt_def, bind_s, gd_d, ix_n, inb_n, nI_add, pk_mul, pk_sub, nI_leI, nI_ltI, nI_eq, nI_ltn, nI_eqn, nI_eqn2, if_pos, if_neg, if_true, if_false, nI_addm1, ws, n7, e5, e6]
      refine ⟨m5, ?_, rfl⟩
      by_cases y : a + 1 < wtA (letA (itA A r j) r) (A 4 0)
      · refine ⟨j, a + 1, b1, Or.inr y, by omega, o45, v5, E5, ?_⟩
        have e40' : itA A r j 4 0 = A 4 0 := by rw [s 4 (by omega)]
        rw [e40'] at lf
        rw [tick_1 lo (by rw [e40]; exact y) rfl, ck_let _ (by rw [e40]; exact lf)] at R5'
        exact R5'
      · have ew : a + 1 = wtA (letA (itA A r j) r) (letA (itA A r j) r 4 0) := by rw [e40]; omega
        refine ⟨j + 1, 0, by omega, Or.inl rfl, ?_, o45, v5, E5, ?_⟩
        · have : itA A r (j + 1) 11 0 = letA (itA A r j) r 11 0 + wtA (letA (itA A r j) r) (A 4 0) := rfl
          rw [this, e11]
          rw [e40] at ew
          omega
        · rw [tick_w lo ew, e40] at R5'
          exact RepR_ck0 R5'
  · obtain ⟨j, a, b1, b2, b3, -⟩ := hJ
    have vj : ∀ i, i < j → 0 < wtA (letA (itA A r i) r) (A 4 0) := fun i hi => h1 i (by omega)
    obtain ⟨o, s, d, rc, sf1, ph, ps, ck⟩ := it_ok O hc vj
    obtain ⟨lo, ls, -⟩ := let_ok o (by omega) r
    have e4 : letA (itA A r j) r 4 = A 4 := (ls 4 (by omega)).trans (s 4 (by omega))
    have w9 := wtA_le lo (n := A 4 0) (by rw [e4]; exact Nat.le_refl _)
    omega
theorem plV_lt (O : OkA A) (hc : A 11 0 + 200 < 2 ^ 19) (S : SafeA A (dA A)) (r so : Nat) : plV A r so < 2 ^ 24 := by
  obtain ⟨fo, fs, fd⟩ := fin_ok O hc S r
  have hn := O.n4
  have hb : ∀ t, t < A 4 0 → finA A r 10 t < 2 ^ 20 := fun t ht => (fo.tr (t := t) (by rw [fs 4 (by omega)]; exact ht)).2.2.2.2.2.2.2.2.2.2.1
  have h1 := mx_lt (f := fun t => finA A r 10 t) (b := 2 ^ 20) (by omega) hb
  have h2 := sm_le (f := fun t => finA A r 10 t) (b := 2 ^ 20) (n := A 4 0) (fun t ht => by have := hb t ht; omega)
  unfold plV
  split
  · omega
  · omega
noncomputable def biA (A : Ab) : Nat → Nat
  | 0 => 0
  | i + 1 => if 1 ≤ i ∧ plV A i 1 < plV A (biA A i) 1 then i else biA A i
theorem biA_s (A : Ab) (i : Nat) : biA A (i + 1) = if 1 ≤ i ∧ plV A i 1 < plV A (biA A i) 1 then i else biA A i := rfl
theorem biA_1 (A : Ab) : biA A 1 = 0 := by rw [biA_s, if_neg (by omega)]; rfl
theorem biA_le (A : Ab) : ∀ i, biA A i ≤ i
  | 0 => Nat.le_refl _
  | i + 1 => by
    have := biA_le A i
    rw [biA_s]
    split <;> omega
theorem bestD_ok (R : RepL μ 0 A) (O : OkA A) (C : Cache μ A) (S : SafeA A (dA A)) (hc : A 11 0 + 200 < 2 ^ 19) : ∃ μ', fD_best μ = some (if A 4 0 = 0 then -4 else nI (biA A 3), μ') ∧ Off sPn μ μ' ∧ Cache μ' A := by
  have hn := O.n4
  unfold fD_best
  by_cases z : A 4 0 = 0
  · simp (disch := omega) only [lit_0, lit_1, lit_2, lit_3, lit_4, lit_5, lit_6, lit_7, lit_8, lit_9, lit_10, lit_11, lit_12, lit_13, lit_14, lit_15, lit_16, lit_17, lit_18, lit_19, lit_20, lit_23, lit_24, lit_31, lit_32, lit_34, lit_36, lit_40, lit_48, lit_49, lit_57, lit_58, lit_59, lit_60, lit_64, lit_96, lit_97, lit_99, lit_101, lit_105, lit_108, lit_110, lit_111, lit_112, lit_114, lit_115, lit_116, lit_122, lit_127, lit_160, lit_216, lit_235, lit_238, lit_343, lit_476, lit_1296, lit_2000, lit_2401, lt_def, bind_s, gd_d, ix_n, inb_n, nI_add, pk_mul, pk_sub, nI_leI, nI_ltI, nI_eq, nI_ltn, nI_eqn, nI_eqn2, if_pos, if_neg, if_true, if_false, nI_addm1, R.n, if_pos z]
    exact ⟨μ, rfl, Off_refl _ _, C⟩
  · obtain ⟨m1, e1, o1, K1⟩ := plannedD_ok R O C S hc (r := 0) (so := 1) (by omega) (by omega)
    simp (disch := omega) only [lit_0, lit_1, lit_2, lit_3, lit_4, lit_5, lit_6, lit_7, lit_8, lit_9, lit_10, lit_11, lit_12, lit_13, lit_14, lit_15, lit_16, lit_17, lit_18, lit_19, lit_20, lit_23, lit_24, lit_31, lit_32, lit_34, lit_36, lit_40, lit_48, lit_49, lit_57, lit_58, lit_59, lit_60, lit_64, lit_96, lit_97, lit_99, lit_101, lit_105, lit_108, lit_110, lit_111, lit_112, lit_114, lit_115, lit_116, lit_122, lit_127, lit_160, lit_216, lit_235, lit_238, lit_343, lit_476, lit_1296, lit_2000, lit_2401, lt_def, bind_s, gd_d, ix_n, inb_n, nI_add, pk_mul, pk_sub, nI_leI, nI_ltI, nI_eq, nI_ltn, nI_eqn, nI_eqn2, if_pos, if_neg, if_true, if_false, nI_addm1, R.n, if_neg z, e1]
    refine lz31_m (B := bD_best_24) (fun w => ∃ μ', w = some (nI (biA A 3), μ') ∧ Off sPn μ μ' ∧ Cache μ' A) (fun a b c m => ∃ i, 1 ≤ i ∧ i ≤ 3 ∧ a = nI (biA A i) ∧ b = nI (plV A (biA A i) 1) ∧ c = nI i ∧ Off sPn μ m ∧ Cache m A) (fun _ _ c _ => 6 - ix c) ?_ FU _ _ _ _ ⟨1, by omega, by omega, by rw [biA_1], by rw [biA_1], rfl, o1, K1.cache⟩ (by show 6 - _ < _; exact FU_gt (by omega))
    rintro sf a b c m ⟨i, h1, h3, rfl, rfl, rfl, o2, C2⟩
    have R2 := RepL_off o2 (fun j i => by simp [sPn, sLn]) R
    unfold bD_best_24
    by_cases y : i = 3
    · right
      subst y
      simp (disch := omega) only [lit_0, lit_1, lit_2, lit_3, lit_4, lit_5, lit_6, lit_7, lit_8, lit_9, lit_10, lit_11, lit_12, lit_13, lit_14, lit_15, lit_16, lit_17, lit_18, lit_19, lit_20, lit_23, lit_24, lit_31, lit_32, lit_34, lit_36, lit_40, lit_48, lit_49, lit_57, lit_58, lit_59, lit_60, lit_64, lit_96, lit_97, lit_99, lit_101, lit_105, lit_108, lit_110, lit_111, lit_112, lit_114, lit_115, lit_116, lit_122, lit_127, lit_160, lit_216, lit_235, lit_238, lit_343, lit_476, lit_1296, lit_2000, lit_2401, lt_def, bind_s, gd_d, ix_n, inb_n, nI_add, pk_mul, pk_sub, nI_leI, nI_ltI, nI_eq, nI_ltn, nI_eqn, nI_eqn2, if_pos, if_neg, if_true, if_false, nI_addm1]
      exact ⟨m, rfl, o2, C2⟩
    · left
      obtain ⟨m2, e2, o3, K3⟩ := plannedD_ok R2 O C2 S hc (r := i) (so := 1) (by omega) (by omega)
      have l1 := plV_lt O hc S i 1
      have l2 := plV_lt O hc S (biA A i) 1
      by_cases x : plV A (biA A i) 1 ≤ plV A i 1
      · have eb : biA A (i + 1) = biA A i := by rw [biA_s, if_neg (by omega)]
        simp (disch := omega) only [lit_0, lit_1, lit_2, lit_3, lit_4, lit_5, lit_6, lit_7, lit_8, lit_9, lit_10, lit_11, lit_12, lit_13, lit_14, lit_15, lit_16, lit_17, lit_18, lit_19, lit_20, lit_23, lit_24, lit_31, lit_32, lit_34, lit_36, lit_40, lit_48, lit_49, lit_57, lit_58, lit_59, lit_60, lit_64, lit_96, lit_97, lit_99, lit_101, lit_105, lit_108, lit_110, lit_111, lit_112, lit_114, lit_115, lit_116, lit_122, lit_127, lit_160, lit_216, lit_235, lit_238, lit_343, lit_476, lit_1296, lit_2000, lit_2401, lt_def, bind_s, gd_d, ix_n, inb_n, nI_add, pk_mul, pk_sub, nI_leI, nI_ltI, nI_eq, nI_ltn, nI_eqn, nI_eqn2, if_pos, if_neg, if_true, if_false, nI_addm1, e2]
        refine ⟨_, _, _, m2, ⟨i + 1, by omega, by omega, by rw [eb], by rw [eb], rfl, Off_trans o2 o3, K3.cache⟩, ?_, rfl⟩
        (try simp (disch := omega) only [ix_n]); omega
      · have eb : biA A (i + 1) = i := by rw [biA_s, if_pos (by omega)]
        simp (disch := omega) only [lit_0, lit_1, lit_2, lit_3, lit_4, lit_5, lit_6, lit_7, lit_8, lit_9, lit_10, lit_11, lit_12, lit_13, lit_14, lit_15, lit_16, lit_17, lit_18, lit_19, lit_20, lit_23, lit_24, lit_31, lit_32, lit_34, lit_36, lit_40, lit_48, lit_49, lit_57, lit_58, lit_59, lit_60, lit_64, lit_96, lit_97, lit_99, lit_101, lit_105, lit_108, lit_110, lit_111, lit_112, lit_114, lit_115, lit_116, lit_122, lit_127, lit_160, lit_216, lit_235, lit_238, lit_343, lit_476, lit_1296, lit_2000, lit_2401, lt_def, bind_s, gd_d, ix_n, inb_n, nI_add, pk_mul, pk_sub, nI_leI, nI_ltI, nI_eq, nI_ltn, nI_eqn, nI_eqn2, if_pos, if_neg, if_true, if_false, nI_addm1, e2]
        refine ⟨_, _, _, m2, ⟨i + 1, by omega, by omega, by rw [eb], by rw [eb], rfl, Off_trans o2 o3, K3.cache⟩, ?_, rfl⟩
        (try simp (disch := omega) only [ix_n]); omega
theorem bestM_ok (R : RepR (μ (5, 0, 1)) A B) (O : OkA A) (S : SafeA A (dA A)) (hc : A 11 0 + 200 < 2 ^ 19) : ∃ μ', fM_best μ = some (if A 4 0 = 0 then -4 else nI (biA A 3), μ') ∧ Off sPm μ μ' ∧ ∀ i, i < 238 → μ' (5, 0, 1) i = μ (5, 0, 1) i := by
  have hn := O.n4
  unfold fM_best
  by_cases z : A 4 0 = 0
  · simp (disch := omega) only [lit_0, lit_1, lit_2, lit_3, lit_4, lit_5, lit_6, lit_7, lit_8, lit_9, lit_10, lit_11, lit_12, lit_13, lit_14, lit_15, lit_16, lit_17, lit_18, lit_19, lit_20, lit_23, lit_24, lit_31, lit_32, lit_34, lit_36, lit_40, lit_48, lit_49, lit_57, lit_58, lit_59, lit_60, lit_64, lit_96, lit_97, lit_99, lit_101, lit_105, lit_108, lit_110, lit_111, lit_112, lit_114, lit_115, lit_116, lit_122, lit_127, lit_160, lit_216, lit_235, lit_238, lit_343, lit_476, lit_1296, lit_2000, lit_2401, lt_def, bind_s, gd_d, ix_n, inb_n, nI_add, pk_mul, pk_sub, nI_leI, nI_ltI, nI_eq, nI_ltn, nI_eqn, nI_eqn2, if_pos, if_neg, if_true, if_false, nI_addm1, R.n, if_pos z]
    exact ⟨μ, rfl, Off_refl _ _, fun _ _ => rfl⟩
  · obtain ⟨m1, e1, o1, v1⟩ := plannedM_ok R O S hc (r := 0) (so := 1) (by omega) (by omega)
    simp (disch := omega) only [lit_0, lit_1, lit_2, lit_3, lit_4, lit_5, lit_6, lit_7, lit_8, lit_9, lit_10, lit_11, lit_12, lit_13, lit_14, lit_15, lit_16, lit_17, lit_18, lit_19, lit_20, lit_23, lit_24, lit_31, lit_32, lit_34, lit_36, lit_40, lit_48, lit_49, lit_57, lit_58, lit_59, lit_60, lit_64, lit_96, lit_97, lit_99, lit_101, lit_105, lit_108, lit_110, lit_111, lit_112, lit_114, lit_115, lit_116, lit_122, lit_127, lit_160, lit_216, lit_235, lit_238, lit_343, lit_476, lit_1296, lit_2000, lit_2401, lt_def, bind_s, gd_d, ix_n, inb_n, nI_add, pk_mul, pk_sub, nI_leI, nI_ltI, nI_eq, nI_ltn, nI_eqn, nI_eqn2, if_pos, if_neg, if_true, if_false, nI_addm1, R.n, if_neg z, e1]
    refine lz31_m (B := bM_best_23) (fun w => ∃ μ', w = some (nI (biA A 3), μ') ∧ Off sPm μ μ' ∧ ∀ i, i < 238 → μ' (5, 0, 1) i = μ (5, 0, 1) i) (fun a b c m => ∃ i, 1 ≤ i ∧ i ≤ 3 ∧ a = nI (biA A i) ∧ b = nI (plV A (biA A i) 1) ∧ c = nI i ∧ Off sPm μ m ∧ ∀ i, i < 238 → m (5, 0, 1) i = μ (5, 0, 1) i) (fun _ _ c _ => 6 - ix c) ?_ FU _ _ _ _ ⟨1, by omega, by omega, by rw [biA_1], by rw [biA_1], rfl, o1, v1⟩ (by show 6 - _ < _; exact FU_gt (by omega))
    rintro sf a b c m ⟨i, h1, h3, rfl, rfl, rfl, o2, v2⟩
    have R2 := RepR_okx R O v2
    unfold bM_best_23
    by_cases y : i = 3
    · right
      subst y
      simp (disch := omega) only [lit_0, lit_1, lit_2, lit_3, lit_4, lit_5, lit_6, lit_7, lit_8, lit_9, lit_10, lit_11, lit_12, lit_13, lit_14, lit_15, lit_16, lit_17, lit_18, lit_19, lit_20, lit_23, lit_24, lit_31, lit_32, lit_34, lit_36, lit_40, lit_48, lit_49, lit_57, lit_58, lit_59, lit_60, lit_64, lit_96, lit_97, lit_99, lit_101, lit_105, lit_108, lit_110, lit_111, lit_112, lit_114, lit_115, lit_116, lit_122, lit_127, lit_160, lit_216, lit_235, lit_238, lit_343, lit_476, lit_1296, lit_2000, lit_2401, lt_def, bind_s, gd_d, ix_n, inb_n, nI_add, pk_mul, pk_sub, nI_leI, nI_ltI, nI_eq, nI_ltn, nI_eqn, nI_eqn2, if_pos, if_neg, if_true, if_false, nI_addm1]
      exact ⟨m, rfl, o2, v2⟩
    · left
      obtain ⟨m2, e2, o3, v3⟩ := plannedM_ok R2 O S hc (r := i) (so := 1) (by omega) (by omega)
      have l1 := plV_lt O hc S i 1
      have l2 := plV_lt O hc S (biA A i) 1
      by_cases x : plV A (biA A i) 1 ≤ plV A i 1
      · have eb : biA A (i + 1) = biA A i := by rw [biA_s, if_neg (by omega)]
        simp (disch := omega) only [lit_0, lit_1, lit_2, lit_3, lit_4, lit_5, lit_6, lit_7, lit_8, lit_9, lit_10, lit_11, lit_12, lit_13, lit_14, lit_15, lit_16, lit_17, lit_18, lit_19, lit_20, lit_23, lit_24, lit_31, lit_32, lit_34, lit_36, lit_40, lit_48, lit_49, lit_57, lit_58, lit_59, lit_60, lit_64, lit_96, lit_97, lit_99, lit_101, lit_105, lit_108, lit_110, lit_111, lit_112, lit_114, lit_115, lit_116, lit_122, lit_127, lit_160, lit_216, lit_235, lit_238, lit_343, lit_476, lit_1296, lit_2000, lit_2401, lt_def, bind_s, gd_d, ix_n, inb_n, nI_add, pk_mul, pk_sub, nI_leI, nI_ltI, nI_eq, nI_ltn, nI_eqn, nI_eqn2, if_pos, if_neg, if_true, if_false, nI_addm1, e2]
        refine ⟨_, _, _, m2, ⟨i + 1, by omega, by omega, by rw [eb], by rw [eb], rfl, Off_trans o2 o3, fun i hi => (v3 i hi).trans (v2 i hi)⟩, ?_, rfl⟩
        (try simp (disch := omega) only [ix_n]); omega
      · have eb : biA A (i + 1) = i := by rw [biA_s, if_pos (by omega)]
        simp (disch := omega) only [lit_0, lit_1, lit_2, lit_3, lit_4, lit_5, lit_6, lit_7, lit_8, lit_9, lit_10, lit_11, lit_12, lit_13, lit_14, lit_15, lit_16, lit_17, lit_18, lit_19, lit_20, lit_23, lit_24, lit_31, lit_32, lit_34, lit_36, lit_40, lit_48, lit_49, lit_57, lit_58, lit_59, lit_60, lit_64, lit_96, lit_97, lit_99, lit_101, lit_105, lit_108, lit_110, lit_111, lit_112, lit_114, lit_115, lit_116, lit_122, lit_127, lit_160, lit_216, lit_235, lit_238, lit_343, lit_476, lit_1296, lit_2000, lit_2401, lt_def, bind_s, gd_d, ix_n, inb_n, nI_add, pk_mul, pk_sub, nI_leI, nI_ltI, nI_eq, nI_ltn, nI_eqn, nI_eqn2, if_pos, if_neg, if_true, if_false, nI_addm1, e2]
        refine ⟨_, _, _, m2, ⟨i + 1, by omega, by omega, by rw [eb], by rw [eb], rfl, Off_trans o2 o3, fun i hi => (v3 i hi).trans (v2 i hi)⟩, ?_, rfl⟩
        (try simp (disch := omega) only [ix_n]); omega
end Plan4
