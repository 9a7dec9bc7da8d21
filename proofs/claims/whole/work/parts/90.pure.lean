/-! the law's loop -/
theorem inv0 : Inv 0 mu0 := by
  have z : ∀ (r : Rf) (i : Nat), r.1 ≠ 3 → ¬ (r.1 = 5 ∧ r.2.2 = 21) → mu0 r i = nI 0 := by
    intro r i h1 h2
    unfold mu0
    by_cases a : r.1 = 5
    · rw [if_pos a, if_neg (fun w => h2 ⟨a, w⟩)]; rfl
    · rw [if_neg a, if_neg h1]; rfl
  refine ⟨⟨zA, fun _ _ => 0, ⟨z _ _ (by simp) (by simp), z _ _ (by simp) (by simp), z _ _ (by simp) (by simp), z _ _ (by simp) (by simp), fun p hp => absurd hp (Nat.not_lt_zero _), fun p hp => absurd hp (Nat.not_lt_zero _), fun p hp => absurd hp (Nat.not_lt_zero _)⟩, ⟨z _ _ (by simp) (by simp), z _ _ (by simp) (by simp), z _ _ (by simp) (by simp), z _ _ (by simp) (by simp), fun p hp => absurd hp (Nat.not_lt_zero _), fun p hp => absurd hp (Nat.not_lt_zero _), fun p hp => absurd hp (Nat.not_lt_zero _)⟩, OkP_ok OkP_z (fun t ht => absurd ht (Nat.not_lt_zero _)), ⟨_, Rch_refl _, fun t ht => absurd ht (Nat.not_lt_zero _)⟩, ⟨Or.inl (z _ _ (by simp) (by simp)), Or.inl (z _ _ (by simp) (by simp))⟩, Nat.le_refl _⟩, ⟨fun _ => 0, 0, ⟨Nat.zero_le _, z _ _ (by simp) (by simp), fun i hi => absurd hi (Nat.not_lt_zero _)⟩, ⟨Nat.zero_le _, z _ _ (by simp) (by simp), fun i hi => absurd hi (Nat.not_lt_zero _)⟩⟩, ?_, fun k hk => Or.inl ⟨z _ _ (by simp) (by simp), z _ _ (by simp) (by simp)⟩, fun k hk => Or.inl ⟨?_, ?_⟩, ?_⟩
  · unfold Flt
    rw [z _ _ (by simp) (by simp), z _ _ (by simp) (by simp)]
  · rfl
  · have : k = 0 ∨ k = 1 ∨ k = 2 ∨ k = 3 := by omega
    rcases this with rfl | rfl | rfl | rfl <;> rfl
  · unfold Trn
    rw [z _ _ (by simp) (by simp), z _ _ (by simp) (by simp)]
theorem and31 (x : Int32) : ∃ w, w < 32 ∧ x &&& 31 = nI w := pk_andE x 5 (by decide +kernel)
/-- class and reference agree on every script: the pure part -/
theorem law_pure (X : Sc) (hL : X.1 ≤ 2560) : ∃ m', fW_law X mu0 = some (1, m') := by
  unfold fW_law
  rw [lt_def]
  refine lz11_m (B := bW_law_18 X) (fun w => ∃ m', w = some (1, m')) (fun a m => ∃ j, j ≤ 512 ∧ a = nI (5 * j) ∧ Inv (60 * j) m) (fun a _ => 3000 - ix a) ?_ FU _ _ ⟨0, by omega, rfl, inv0⟩ (by show 3000 - _ < _; exact FU_gt (by omega))
  rintro sf a m ⟨j, hj, rfl, I⟩
  have ex : (Int32.ofNat X.1 - 5 < nI (5 * j)) ↔ X.1 < 5 * j + 5 := by
    have e5 : (5 : Int32) = nI 5 := rfl
    have e1 : Int32.ofNat X.1 = nI X.1 := rfl
    rw [Int32.lt_iff_toInt_lt, e5, e1, pk_sub_toInt (by omega) (by omega), nI_toInt (by omega)]
    omega
  by_cases en : X.1 < 5 * j + 5
  · right
    unfold bW_law_18
    rw [if_pos (ex.mpr en)]
    exact ⟨m, rfl⟩
  left
  have hN : 60 * j < 2 ^ 18 := by omega
  have go : ∀ m2, Inv (60 * j + 60) m2 → bW_law_18 X sf (nI (5 * j)) m = sf (nI (5 * j + 5)) m2 → ∃ b n9, (∃ j, j ≤ 512 ∧ b = nI (5 * j) ∧ Inv (60 * j) n9) ∧ 3000 - ix b < 3000 - ix (nI (5 * j)) ∧ bW_law_18 X sf (nI (5 * j)) m = sf b n9 := by
    intro m2 I2 e
    refine ⟨nI (5 * j + 5), m2, ⟨j + 1, by omega, rfl, I2⟩, ?_, e⟩
    rw [ix_n (by omega), ix_n (by omega)]
    omega
  obtain ⟨w, hw, ht⟩ := and31 (X.2 (5 * j))
  have hd : ∀ {τ : Type} (a b : Option τ), (if Int32.ofNat X.1 - 5 < nI (5 * j) then a else b) = b := fun a b => if_neg (fun z => en (ex.mp z))
  have g0 : 5 * j < X.1 := by omega
  by_cases w0 : w = 0
  · subst w0
    obtain ⟨r, μ1, μ2, e1, e2, I2⟩ := stp_feed (X.2 (5 * j + 1)) m I
    refine go μ2 I2 ?_
    unfold bW_law_18
    rw [hd, gd_in (by omega) g0, ix_n (by omega), ht, if_pos (show nI 0 = (0 : Int32) from rfl)]
    rw [nI_a1, gd_in (by omega) (by omega), ix_n (n := 5 * j + 1) (by omega), e1, bind_s, gd_in (by omega) (by omega), e2, bind_s, if_pos rfl, nI_a5, lt_def]
  by_cases w1 : w = 1
  · subst w1
    obtain ⟨r, μ1, μ2, e1, e2, I2⟩ := stp_end (X.2 (5 * j + 1)) m I
    refine go μ2 I2 ?_
    unfold bW_law_18
    rw [hd, gd_in (by omega) g0, ix_n (by omega), ht, if_neg (show ¬ nI 1 = (0 : Int32) by decide +kernel), if_pos (show nI 1 = (1 : Int32) from rfl)]
    rw [nI_a1, gd_in (by omega) (by omega), ix_n (n := 5 * j + 1) (by omega), e1, bind_s, gd_in (by omega) (by omega), e2, bind_s, if_pos rfl, nI_a5, lt_def]
  by_cases w2 : w = 2
  · subst w2
    obtain ⟨r, μ1, μ2, e1, e2, I2⟩ := stp_text  m I
    refine go μ2 I2 ?_
    unfold bW_law_18
    rw [hd, gd_in (by omega) g0, ix_n (by omega), ht, if_neg (show ¬ nI 2 = (0 : Int32) by decide +kernel), if_neg (show ¬ nI 2 = (1 : Int32) by decide +kernel), if_pos (show nI 2 = (2 : Int32) from rfl)]
    rw [e1, bind_s, e2, bind_s, if_pos rfl, nI_a5, lt_def]
  by_cases w3 : w = 3
  · subst w3
    obtain ⟨r, e1, e2⟩ := stv_fault  m I
    refine go m (Inv_n I) ?_
    unfold bW_law_18
    rw [hd, gd_in (by omega) g0, ix_n (by omega), ht, if_neg (show ¬ nI 3 = (0 : Int32) by decide +kernel), if_neg (show ¬ nI 3 = (1 : Int32) by decide +kernel), if_neg (show ¬ nI 3 = (2 : Int32) by decide +kernel), if_pos (show nI 3 = (3 : Int32) from rfl)]
    rw [e1, bind_s, e2, bind_s, if_pos rfl, nI_a5, lt_def]
  by_cases w4 : w = 4
  · subst w4
    obtain ⟨r, μ1, μ2, e1, e2, I2⟩ := stp_rule (X.2 (5 * j + 1)) m I
    refine go μ2 I2 ?_
    unfold bW_law_18
    rw [hd, gd_in (by omega) g0, ix_n (by omega), ht, if_neg (show ¬ nI 4 = (0 : Int32) by decide +kernel), if_neg (show ¬ nI 4 = (1 : Int32) by decide +kernel), if_neg (show ¬ nI 4 = (2 : Int32) by decide +kernel), if_neg (show ¬ nI 4 = (3 : Int32) by decide +kernel), if_pos (show nI 4 = (4 : Int32) from rfl)]
    rw [nI_a1, gd_in (by omega) (by omega), ix_n (n := 5 * j + 1) (by omega), e1, bind_s, gd_in (by omega) (by omega), e2, bind_s, if_pos rfl, nI_a5, lt_def]
  by_cases w5 : w = 5
  · subst w5
    obtain ⟨r, e1, e2⟩ := stv_place (X.2 (5 * j + 1)) (X.2 (5 * j + 2)) m I
    refine go m (Inv_n I) ?_
    unfold bW_law_18
    rw [hd, gd_in (by omega) g0, ix_n (by omega), ht, if_neg (show ¬ nI 5 = (0 : Int32) by decide +kernel), if_neg (show ¬ nI 5 = (1 : Int32) by decide +kernel), if_neg (show ¬ nI 5 = (2 : Int32) by decide +kernel), if_neg (show ¬ nI 5 = (3 : Int32) by decide +kernel), if_neg (show ¬ nI 5 = (4 : Int32) by decide +kernel), if_pos (show nI 5 = (5 : Int32) from rfl)]
    rw [nI_a1, nI_a2, gd_in (by omega) (by omega), gd_in (by omega) (by omega), ix_n (n := 5 * j + 1) (by omega), ix_n (n := 5 * j + 2) (by omega), e1, bind_s, gd_in (by omega) (by omega), gd_in (by omega) (by omega), e2, bind_s, if_pos rfl, nI_a5, lt_def]
  by_cases w6 : w = 6
  · subst w6
    obtain ⟨r, e1, e2⟩ := stv_train (X.2 (5 * j + 1)) (X.2 (5 * j + 2)) m I
    refine go m (Inv_n I) ?_
    unfold bW_law_18
    rw [hd, gd_in (by omega) g0, ix_n (by omega), ht, if_neg (show ¬ nI 6 = (0 : Int32) by decide +kernel), if_neg (show ¬ nI 6 = (1 : Int32) by decide +kernel), if_neg (show ¬ nI 6 = (2 : Int32) by decide +kernel), if_neg (show ¬ nI 6 = (3 : Int32) by decide +kernel), if_neg (show ¬ nI 6 = (4 : Int32) by decide +kernel), if_neg (show ¬ nI 6 = (5 : Int32) by decide +kernel), if_pos (show nI 6 = (6 : Int32) from rfl)]
    rw [nI_a1, nI_a2, gd_in (by omega) (by omega), gd_in (by omega) (by omega), ix_n (n := 5 * j + 1) (by omega), ix_n (n := 5 * j + 2) (by omega), e1, bind_s, gd_in (by omega) (by omega), gd_in (by omega) (by omega), e2, bind_s, if_pos rfl, nI_a5, lt_def]
  by_cases w7 : w = 7
  · subst w7
    obtain ⟨r, μ1, μ2, e1, e2, I2⟩ := stp_why (X.2 (5 * j + 1)) m I
    refine go μ2 I2 ?_
    unfold bW_law_18
    rw [hd, gd_in (by omega) g0, ix_n (by omega), ht, if_neg (show ¬ nI 7 = (0 : Int32) by decide +kernel), if_neg (show ¬ nI 7 = (1 : Int32) by decide +kernel), if_neg (show ¬ nI 7 = (2 : Int32) by decide +kernel), if_neg (show ¬ nI 7 = (3 : Int32) by decide +kernel), if_neg (show ¬ nI 7 = (4 : Int32) by decide +kernel), if_neg (show ¬ nI 7 = (5 : Int32) by decide +kernel), if_neg (show ¬ nI 7 = (6 : Int32) by decide +kernel), if_pos (show nI 7 = (7 : Int32) from rfl)]
    rw [nI_a1, gd_in (by omega) (by omega), ix_n (n := 5 * j + 1) (by omega), e1, bind_s, gd_in (by omega) (by omega), e2, bind_s, if_pos rfl, nI_a5, lt_def]
  by_cases w8 : w = 8
  · subst w8
    obtain ⟨r, μ1, μ2, e1, e2, I2⟩ := stp_who (X.2 (5 * j + 1)) m I
    refine go μ2 I2 ?_
    unfold bW_law_18
    rw [hd, gd_in (by omega) g0, ix_n (by omega), ht, if_neg (show ¬ nI 8 = (0 : Int32) by decide +kernel), if_neg (show ¬ nI 8 = (1 : Int32) by decide +kernel), if_neg (show ¬ nI 8 = (2 : Int32) by decide +kernel), if_neg (show ¬ nI 8 = (3 : Int32) by decide +kernel), if_neg (show ¬ nI 8 = (4 : Int32) by decide +kernel), if_neg (show ¬ nI 8 = (5 : Int32) by decide +kernel), if_neg (show ¬ nI 8 = (6 : Int32) by decide +kernel), if_neg (show ¬ nI 8 = (7 : Int32) by decide +kernel), if_pos (show nI 8 = (8 : Int32) from rfl)]
    rw [nI_a1, gd_in (by omega) (by omega), ix_n (n := 5 * j + 1) (by omega), e1, bind_s, gd_in (by omega) (by omega), e2, bind_s, if_pos rfl, nI_a5, lt_def]
  by_cases w9 : w = 9
  · subst w9
    obtain ⟨r, μ1, μ2, e1, e2, I2⟩ := stp_order (X.2 (5 * j + 1)) m I
    refine go μ2 I2 ?_
    unfold bW_law_18
    rw [hd, gd_in (by omega) g0, ix_n (by omega), ht, if_neg (show ¬ nI 9 = (0 : Int32) by decide +kernel), if_neg (show ¬ nI 9 = (1 : Int32) by decide +kernel), if_neg (show ¬ nI 9 = (2 : Int32) by decide +kernel), if_neg (show ¬ nI 9 = (3 : Int32) by decide +kernel), if_neg (show ¬ nI 9 = (4 : Int32) by decide +kernel), if_neg (show ¬ nI 9 = (5 : Int32) by decide +kernel), if_neg (show ¬ nI 9 = (6 : Int32) by decide +kernel), if_neg (show ¬ nI 9 = (7 : Int32) by decide +kernel), if_neg (show ¬ nI 9 = (8 : Int32) by decide +kernel), if_pos (show nI 9 = (9 : Int32) from rfl)]
    rw [nI_a1, gd_in (by omega) (by omega), ix_n (n := 5 * j + 1) (by omega), e1, bind_s, gd_in (by omega) (by omega), e2, bind_s, if_pos rfl, nI_a5, lt_def]
  by_cases w10 : w = 10
  · subst w10
    obtain ⟨r, μ1, μ2, e1, e2, I2⟩ := stp_reach (X.2 (5 * j + 1)) m I
    refine go μ2 I2 ?_
    unfold bW_law_18
    rw [hd, gd_in (by omega) g0, ix_n (by omega), ht, if_neg (show ¬ nI 10 = (0 : Int32) by decide +kernel), if_neg (show ¬ nI 10 = (1 : Int32) by decide +kernel), if_neg (show ¬ nI 10 = (2 : Int32) by decide +kernel), if_neg (show ¬ nI 10 = (3 : Int32) by decide +kernel), if_neg (show ¬ nI 10 = (4 : Int32) by decide +kernel), if_neg (show ¬ nI 10 = (5 : Int32) by decide +kernel), if_neg (show ¬ nI 10 = (6 : Int32) by decide +kernel), if_neg (show ¬ nI 10 = (7 : Int32) by decide +kernel), if_neg (show ¬ nI 10 = (8 : Int32) by decide +kernel), if_neg (show ¬ nI 10 = (9 : Int32) by decide +kernel), if_pos (show nI 10 = (10 : Int32) from rfl)]
    rw [nI_a1, gd_in (by omega) (by omega), ix_n (n := 5 * j + 1) (by omega), e1, bind_s, gd_in (by omega) (by omega), e2, bind_s, if_pos rfl, nI_a5, lt_def]
  by_cases w11 : w = 11
  · subst w11
    obtain ⟨r, μ1, μ2, e1, e2, I2⟩ := stp_plan hN (X.2 (5 * j + 1)) (X.2 (5 * j + 2)) m I
    refine go μ2 I2 ?_
    unfold bW_law_18
    rw [hd, gd_in (by omega) g0, ix_n (by omega), ht, if_neg (show ¬ nI 11 = (0 : Int32) by decide +kernel), if_neg (show ¬ nI 11 = (1 : Int32) by decide +kernel), if_neg (show ¬ nI 11 = (2 : Int32) by decide +kernel), if_neg (show ¬ nI 11 = (3 : Int32) by decide +kernel), if_neg (show ¬ nI 11 = (4 : Int32) by decide +kernel), if_neg (show ¬ nI 11 = (5 : Int32) by decide +kernel), if_neg (show ¬ nI 11 = (6 : Int32) by decide +kernel), if_neg (show ¬ nI 11 = (7 : Int32) by decide +kernel), if_neg (show ¬ nI 11 = (8 : Int32) by decide +kernel), if_neg (show ¬ nI 11 = (9 : Int32) by decide +kernel), if_neg (show ¬ nI 11 = (10 : Int32) by decide +kernel), if_pos (show nI 11 = (11 : Int32) from rfl)]
    rw [nI_a1, nI_a2, gd_in (by omega) (by omega), gd_in (by omega) (by omega), ix_n (n := 5 * j + 1) (by omega), ix_n (n := 5 * j + 2) (by omega), e1, bind_s, gd_in (by omega) (by omega), gd_in (by omega) (by omega), e2, bind_s, if_pos rfl, nI_a5, lt_def]
  by_cases w12 : w = 12
  · subst w12
    obtain ⟨r, μ1, μ2, e1, e2, I2⟩ := stp_best hN  m I
    refine go μ2 I2 ?_
    unfold bW_law_18
    rw [hd, gd_in (by omega) g0, ix_n (by omega), ht, if_neg (show ¬ nI 12 = (0 : Int32) by decide +kernel), if_neg (show ¬ nI 12 = (1 : Int32) by decide +kernel), if_neg (show ¬ nI 12 = (2 : Int32) by decide +kernel), if_neg (show ¬ nI 12 = (3 : Int32) by decide +kernel), if_neg (show ¬ nI 12 = (4 : Int32) by decide +kernel), if_neg (show ¬ nI 12 = (5 : Int32) by decide +kernel), if_neg (show ¬ nI 12 = (6 : Int32) by decide +kernel), if_neg (show ¬ nI 12 = (7 : Int32) by decide +kernel), if_neg (show ¬ nI 12 = (8 : Int32) by decide +kernel), if_neg (show ¬ nI 12 = (9 : Int32) by decide +kernel), if_neg (show ¬ nI 12 = (10 : Int32) by decide +kernel), if_neg (show ¬ nI 12 = (11 : Int32) by decide +kernel), if_pos (show nI 12 = (12 : Int32) from rfl)]
    rw [e1, bind_s, e2, bind_s, if_pos rfl, nI_a5, lt_def]
  by_cases w13 : w = 13
  · subst w13
    obtain ⟨r, μ1, μ2, e1, e2, I2⟩ := stp_let hN (X.2 (5 * j + 1)) m I
    refine go μ2 I2 ?_
    unfold bW_law_18
    rw [hd, gd_in (by omega) g0, ix_n (by omega), ht, if_neg (show ¬ nI 13 = (0 : Int32) by decide +kernel), if_neg (show ¬ nI 13 = (1 : Int32) by decide +kernel), if_neg (show ¬ nI 13 = (2 : Int32) by decide +kernel), if_neg (show ¬ nI 13 = (3 : Int32) by decide +kernel), if_neg (show ¬ nI 13 = (4 : Int32) by decide +kernel), if_neg (show ¬ nI 13 = (5 : Int32) by decide +kernel), if_neg (show ¬ nI 13 = (6 : Int32) by decide +kernel), if_neg (show ¬ nI 13 = (7 : Int32) by decide +kernel), if_neg (show ¬ nI 13 = (8 : Int32) by decide +kernel), if_neg (show ¬ nI 13 = (9 : Int32) by decide +kernel), if_neg (show ¬ nI 13 = (10 : Int32) by decide +kernel), if_neg (show ¬ nI 13 = (11 : Int32) by decide +kernel), if_neg (show ¬ nI 13 = (12 : Int32) by decide +kernel), if_pos (show nI 13 = (13 : Int32) from rfl)]
    rw [nI_a1, gd_in (by omega) (by omega), ix_n (n := 5 * j + 1) (by omega), e1, bind_s, gd_in (by omega) (by omega), e2, bind_s, if_pos rfl, nI_a5, lt_def]
  by_cases w14 : w = 14
  · subst w14
    obtain ⟨r, μ1, μ2, e1, e2, I2⟩ := stp_tick hN (X.2 (5 * j + 1)) m I
    refine go μ2 I2 ?_
    unfold bW_law_18
    rw [hd, gd_in (by omega) g0, ix_n (by omega), ht, if_neg (show ¬ nI 14 = (0 : Int32) by decide +kernel), if_neg (show ¬ nI 14 = (1 : Int32) by decide +kernel), if_neg (show ¬ nI 14 = (2 : Int32) by decide +kernel), if_neg (show ¬ nI 14 = (3 : Int32) by decide +kernel), if_neg (show ¬ nI 14 = (4 : Int32) by decide +kernel), if_neg (show ¬ nI 14 = (5 : Int32) by decide +kernel), if_neg (show ¬ nI 14 = (6 : Int32) by decide +kernel), if_neg (show ¬ nI 14 = (7 : Int32) by decide +kernel), if_neg (show ¬ nI 14 = (8 : Int32) by decide +kernel), if_neg (show ¬ nI 14 = (9 : Int32) by decide +kernel), if_neg (show ¬ nI 14 = (10 : Int32) by decide +kernel), if_neg (show ¬ nI 14 = (11 : Int32) by decide +kernel), if_neg (show ¬ nI 14 = (12 : Int32) by decide +kernel), if_neg (show ¬ nI 14 = (13 : Int32) by decide +kernel), if_pos (show nI 14 = (14 : Int32) from rfl)]
    rw [nI_a1, gd_in (by omega) (by omega), ix_n (n := 5 * j + 1) (by omega), e1, bind_s, gd_in (by omega) (by omega), e2, bind_s, if_pos rfl, nI_a5, lt_def]
  by_cases w15 : w = 15
  · subst w15
    obtain ⟨r, μ1, μ2, e1, e2, I2⟩ := stp_send hN (X.2 (5 * j + 1)) m I
    refine go μ2 I2 ?_
    unfold bW_law_18
    rw [hd, gd_in (by omega) g0, ix_n (by omega), ht, if_neg (show ¬ nI 15 = (0 : Int32) by decide +kernel), if_neg (show ¬ nI 15 = (1 : Int32) by decide +kernel), if_neg (show ¬ nI 15 = (2 : Int32) by decide +kernel), if_neg (show ¬ nI 15 = (3 : Int32) by decide +kernel), if_neg (show ¬ nI 15 = (4 : Int32) by decide +kernel), if_neg (show ¬ nI 15 = (5 : Int32) by decide +kernel), if_neg (show ¬ nI 15 = (6 : Int32) by decide +kernel), if_neg (show ¬ nI 15 = (7 : Int32) by decide +kernel), if_neg (show ¬ nI 15 = (8 : Int32) by decide +kernel), if_neg (show ¬ nI 15 = (9 : Int32) by decide +kernel), if_neg (show ¬ nI 15 = (10 : Int32) by decide +kernel), if_neg (show ¬ nI 15 = (11 : Int32) by decide +kernel), if_neg (show ¬ nI 15 = (12 : Int32) by decide +kernel), if_neg (show ¬ nI 15 = (13 : Int32) by decide +kernel), if_neg (show ¬ nI 15 = (14 : Int32) by decide +kernel), if_pos (show nI 15 = (15 : Int32) from rfl)]
    rw [nI_a1, gd_in (by omega) (by omega), ix_n (n := 5 * j + 1) (by omega), e1, bind_s, gd_in (by omega) (by omega), e2, bind_s, if_pos rfl, nI_a5, lt_def]
  by_cases w16 : w = 16
  · subst w16
    obtain ⟨r, e1, e2⟩ := stv_journal (X.2 (5 * j + 1)) (X.2 (5 * j + 2)) m I
    refine go m (Inv_n I) ?_
    unfold bW_law_18
    rw [hd, gd_in (by omega) g0, ix_n (by omega), ht, if_neg (show ¬ nI 16 = (0 : Int32) by decide +kernel), if_neg (show ¬ nI 16 = (1 : Int32) by decide +kernel), if_neg (show ¬ nI 16 = (2 : Int32) by decide +kernel), if_neg (show ¬ nI 16 = (3 : Int32) by decide +kernel), if_neg (show ¬ nI 16 = (4 : Int32) by decide +kernel), if_neg (show ¬ nI 16 = (5 : Int32) by decide +kernel), if_neg (show ¬ nI 16 = (6 : Int32) by decide +kernel), if_neg (show ¬ nI 16 = (7 : Int32) by decide +kernel), if_neg (show ¬ nI 16 = (8 : Int32) by decide +kernel), if_neg (show ¬ nI 16 = (9 : Int32) by decide +kernel), if_neg (show ¬ nI 16 = (10 : Int32) by decide +kernel), if_neg (show ¬ nI 16 = (11 : Int32) by decide +kernel), if_neg (show ¬ nI 16 = (12 : Int32) by decide +kernel), if_neg (show ¬ nI 16 = (13 : Int32) by decide +kernel), if_neg (show ¬ nI 16 = (14 : Int32) by decide +kernel), if_neg (show ¬ nI 16 = (15 : Int32) by decide +kernel), if_pos (show nI 16 = (16 : Int32) from rfl)]
    rw [nI_a1, nI_a2, gd_in (by omega) (by omega), gd_in (by omega) (by omega), ix_n (n := 5 * j + 1) (by omega), ix_n (n := 5 * j + 2) (by omega), e1, bind_s, gd_in (by omega) (by omega), gd_in (by omega) (by omega), e2, bind_s, if_pos rfl, nI_a5, lt_def]
  by_cases w17 : w = 17
  · subst w17
    obtain ⟨r, μ1, μ2, e1, e2, I2⟩ := stp_add (X.2 (5 * j + 1)) (X.2 (5 * j + 2)) (X.2 (5 * j + 3)) m I
    refine go μ2 I2 ?_
    unfold bW_law_18
    rw [hd, gd_in (by omega) g0, ix_n (by omega), ht, if_neg (show ¬ nI 17 = (0 : Int32) by decide +kernel), if_neg (show ¬ nI 17 = (1 : Int32) by decide +kernel), if_neg (show ¬ nI 17 = (2 : Int32) by decide +kernel), if_neg (show ¬ nI 17 = (3 : Int32) by decide +kernel), if_neg (show ¬ nI 17 = (4 : Int32) by decide +kernel), if_neg (show ¬ nI 17 = (5 : Int32) by decide +kernel), if_neg (show ¬ nI 17 = (6 : Int32) by decide +kernel), if_neg (show ¬ nI 17 = (7 : Int32) by decide +kernel), if_neg (show ¬ nI 17 = (8 : Int32) by decide +kernel), if_neg (show ¬ nI 17 = (9 : Int32) by decide +kernel), if_neg (show ¬ nI 17 = (10 : Int32) by decide +kernel), if_neg (show ¬ nI 17 = (11 : Int32) by decide +kernel), if_neg (show ¬ nI 17 = (12 : Int32) by decide +kernel), if_neg (show ¬ nI 17 = (13 : Int32) by decide +kernel), if_neg (show ¬ nI 17 = (14 : Int32) by decide +kernel), if_neg (show ¬ nI 17 = (15 : Int32) by decide +kernel), if_neg (show ¬ nI 17 = (16 : Int32) by decide +kernel), if_pos (show nI 17 = (17 : Int32) from rfl)]
    rw [nI_a1, nI_a2, nI_a3, gd_in (by omega) (by omega), gd_in (by omega) (by omega), gd_in (by omega) (by omega), ix_n (n := 5 * j + 1) (by omega), ix_n (n := 5 * j + 2) (by omega), ix_n (n := 5 * j + 3) (by omega), e1, bind_s, gd_in (by omega) (by omega), gd_in (by omega) (by omega), gd_in (by omega) (by omega), e2, bind_s, if_pos rfl, nI_a5, lt_def]
  by_cases w18 : w = 18
  · subst w18
    obtain ⟨r, μ1, μ2, e1, e2, I2⟩ := stp_drop (X.2 (5 * j + 1)) m I
    refine go μ2 I2 ?_
    unfold bW_law_18
    rw [hd, gd_in (by omega) g0, ix_n (by omega), ht, if_neg (show ¬ nI 18 = (0 : Int32) by decide +kernel), if_neg (show ¬ nI 18 = (1 : Int32) by decide +kernel), if_neg (show ¬ nI 18 = (2 : Int32) by decide +kernel), if_neg (show ¬ nI 18 = (3 : Int32) by decide +kernel), if_neg (show ¬ nI 18 = (4 : Int32) by decide +kernel), if_neg (show ¬ nI 18 = (5 : Int32) by decide +kernel), if_neg (show ¬ nI 18 = (6 : Int32) by decide +kernel), if_neg (show ¬ nI 18 = (7 : Int32) by decide +kernel), if_neg (show ¬ nI 18 = (8 : Int32) by decide +kernel), if_neg (show ¬ nI 18 = (9 : Int32) by decide +kernel), if_neg (show ¬ nI 18 = (10 : Int32) by decide +kernel), if_neg (show ¬ nI 18 = (11 : Int32) by decide +kernel), if_neg (show ¬ nI 18 = (12 : Int32) by decide +kernel), if_neg (show ¬ nI 18 = (13 : Int32) by decide +kernel), if_neg (show ¬ nI 18 = (14 : Int32) by decide +kernel), if_neg (show ¬ nI 18 = (15 : Int32) by decide +kernel), if_neg (show ¬ nI 18 = (16 : Int32) by decide +kernel), if_neg (show ¬ nI 18 = (17 : Int32) by decide +kernel), if_pos (show nI 18 = (18 : Int32) from rfl)]
    rw [nI_a1, gd_in (by omega) (by omega), ix_n (n := 5 * j + 1) (by omega), e1, bind_s, gd_in (by omega) (by omega), e2, bind_s, if_pos rfl, nI_a5, lt_def]
  by_cases w19 : w = 19
  · subst w19
    obtain ⟨r, μ1, μ2, e1, e2, I2⟩ := stp_draw (X.2 (5 * j + 1)) (X.2 (5 * j + 2)) m I
    refine go μ2 I2 ?_
    unfold bW_law_18
    rw [hd, gd_in (by omega) g0, ix_n (by omega), ht, if_neg (show ¬ nI 19 = (0 : Int32) by decide +kernel), if_neg (show ¬ nI 19 = (1 : Int32) by decide +kernel), if_neg (show ¬ nI 19 = (2 : Int32) by decide +kernel), if_neg (show ¬ nI 19 = (3 : Int32) by decide +kernel), if_neg (show ¬ nI 19 = (4 : Int32) by decide +kernel), if_neg (show ¬ nI 19 = (5 : Int32) by decide +kernel), if_neg (show ¬ nI 19 = (6 : Int32) by decide +kernel), if_neg (show ¬ nI 19 = (7 : Int32) by decide +kernel), if_neg (show ¬ nI 19 = (8 : Int32) by decide +kernel), if_neg (show ¬ nI 19 = (9 : Int32) by decide +kernel), if_neg (show ¬ nI 19 = (10 : Int32) by decide +kernel), if_neg (show ¬ nI 19 = (11 : Int32) by decide +kernel), if_neg (show ¬ nI 19 = (12 : Int32) by decide +kernel), if_neg (show ¬ nI 19 = (13 : Int32) by decide +kernel), if_neg (show ¬ nI 19 = (14 : Int32) by decide +kernel), if_neg (show ¬ nI 19 = (15 : Int32) by decide +kernel), if_neg (show ¬ nI 19 = (16 : Int32) by decide +kernel), if_neg (show ¬ nI 19 = (17 : Int32) by decide +kernel), if_neg (show ¬ nI 19 = (18 : Int32) by decide +kernel), if_pos (show nI 19 = (19 : Int32) from rfl)]
    rw [nI_a1, nI_a2, gd_in (by omega) (by omega), gd_in (by omega) (by omega), ix_n (n := 5 * j + 1) (by omega), ix_n (n := 5 * j + 2) (by omega), e1, bind_s, gd_in (by omega) (by omega), gd_in (by omega) (by omega), e2, bind_s, if_pos rfl, nI_a5, lt_def]
  by_cases w20 : w = 20
  · subst w20
    obtain ⟨r, μ1, μ2, e1, e2, I2⟩ := stp_keep (X.2 (5 * j + 1)) m I
    refine go μ2 I2 ?_
    unfold bW_law_18
    rw [hd, gd_in (by omega) g0, ix_n (by omega), ht, if_neg (show ¬ nI 20 = (0 : Int32) by decide +kernel), if_neg (show ¬ nI 20 = (1 : Int32) by decide +kernel), if_neg (show ¬ nI 20 = (2 : Int32) by decide +kernel), if_neg (show ¬ nI 20 = (3 : Int32) by decide +kernel), if_neg (show ¬ nI 20 = (4 : Int32) by decide +kernel), if_neg (show ¬ nI 20 = (5 : Int32) by decide +kernel), if_neg (show ¬ nI 20 = (6 : Int32) by decide +kernel), if_neg (show ¬ nI 20 = (7 : Int32) by decide +kernel), if_neg (show ¬ nI 20 = (8 : Int32) by decide +kernel), if_neg (show ¬ nI 20 = (9 : Int32) by decide +kernel), if_neg (show ¬ nI 20 = (10 : Int32) by decide +kernel), if_neg (show ¬ nI 20 = (11 : Int32) by decide +kernel), if_neg (show ¬ nI 20 = (12 : Int32) by decide +kernel), if_neg (show ¬ nI 20 = (13 : Int32) by decide +kernel), if_neg (show ¬ nI 20 = (14 : Int32) by decide +kernel), if_neg (show ¬ nI 20 = (15 : Int32) by decide +kernel), if_neg (show ¬ nI 20 = (16 : Int32) by decide +kernel), if_neg (show ¬ nI 20 = (17 : Int32) by decide +kernel), if_neg (show ¬ nI 20 = (18 : Int32) by decide +kernel), if_neg (show ¬ nI 20 = (19 : Int32) by decide +kernel), if_pos (show nI 20 = (20 : Int32) from rfl)]
    rw [nI_a1, gd_in (by omega) (by omega), ix_n (n := 5 * j + 1) (by omega), e1, bind_s, gd_in (by omega) (by omega), e2, bind_s, if_pos rfl, nI_a5, lt_def]
  by_cases w21 : w = 21
  · subst w21
    obtain ⟨r, μ1, μ2, e1, e2, I2⟩ := stp_back (X.2 (5 * j + 1)) m I
    refine go μ2 I2 ?_
    unfold bW_law_18
    rw [hd, gd_in (by omega) g0, ix_n (by omega), ht, if_neg (show ¬ nI 21 = (0 : Int32) by decide +kernel), if_neg (show ¬ nI 21 = (1 : Int32) by decide +kernel), if_neg (show ¬ nI 21 = (2 : Int32) by decide +kernel), if_neg (show ¬ nI 21 = (3 : Int32) by decide +kernel), if_neg (show ¬ nI 21 = (4 : Int32) by decide +kernel), if_neg (show ¬ nI 21 = (5 : Int32) by decide +kernel), if_neg (show ¬ nI 21 = (6 : Int32) by decide +kernel), if_neg (show ¬ nI 21 = (7 : Int32) by decide +kernel), if_neg (show ¬ nI 21 = (8 : Int32) by decide +kernel), if_neg (show ¬ nI 21 = (9 : Int32) by decide +kernel), if_neg (show ¬ nI 21 = (10 : Int32) by decide +kernel), if_neg (show ¬ nI 21 = (11 : Int32) by decide +kernel), if_neg (show ¬ nI 21 = (12 : Int32) by decide +kernel), if_neg (show ¬ nI 21 = (13 : Int32) by decide +kernel), if_neg (show ¬ nI 21 = (14 : Int32) by decide +kernel), if_neg (show ¬ nI 21 = (15 : Int32) by decide +kernel), if_neg (show ¬ nI 21 = (16 : Int32) by decide +kernel), if_neg (show ¬ nI 21 = (17 : Int32) by decide +kernel), if_neg (show ¬ nI 21 = (18 : Int32) by decide +kernel), if_neg (show ¬ nI 21 = (19 : Int32) by decide +kernel), if_neg (show ¬ nI 21 = (20 : Int32) by decide +kernel), if_pos (show nI 21 = (21 : Int32) from rfl)]
    rw [nI_a1, gd_in (by omega) (by omega), ix_n (n := 5 * j + 1) (by omega), e1, bind_s, gd_in (by omega) (by omega), e2, bind_s, if_pos rfl, nI_a5, lt_def]
  by_cases w22 : w = 22
  · subst w22
    obtain ⟨r, μ1, μ2, e1, e2, I2⟩ := stp_sheet (X.2 (5 * j + 1)) (X.2 (5 * j + 2)) (X.2 (5 * j + 3)) m I
    refine go μ2 I2 ?_
    unfold bW_law_18
    rw [hd, gd_in (by omega) g0, ix_n (by omega), ht, if_neg (show ¬ nI 22 = (0 : Int32) by decide +kernel), if_neg (show ¬ nI 22 = (1 : Int32) by decide +kernel), if_neg (show ¬ nI 22 = (2 : Int32) by decide +kernel), if_neg (show ¬ nI 22 = (3 : Int32) by decide +kernel), if_neg (show ¬ nI 22 = (4 : Int32) by decide +kernel), if_neg (show ¬ nI 22 = (5 : Int32) by decide +kernel), if_neg (show ¬ nI 22 = (6 : Int32) by decide +kernel), if_neg (show ¬ nI 22 = (7 : Int32) by decide +kernel), if_neg (show ¬ nI 22 = (8 : Int32) by decide +kernel), if_neg (show ¬ nI 22 = (9 : Int32) by decide +kernel), if_neg (show ¬ nI 22 = (10 : Int32) by decide +kernel), if_neg (show ¬ nI 22 = (11 : Int32) by decide +kernel), if_neg (show ¬ nI 22 = (12 : Int32) by decide +kernel), if_neg (show ¬ nI 22 = (13 : Int32) by decide +kernel), if_neg (show ¬ nI 22 = (14 : Int32) by decide +kernel), if_neg (show ¬ nI 22 = (15 : Int32) by decide +kernel), if_neg (show ¬ nI 22 = (16 : Int32) by decide +kernel), if_neg (show ¬ nI 22 = (17 : Int32) by decide +kernel), if_neg (show ¬ nI 22 = (18 : Int32) by decide +kernel), if_neg (show ¬ nI 22 = (19 : Int32) by decide +kernel), if_neg (show ¬ nI 22 = (20 : Int32) by decide +kernel), if_neg (show ¬ nI 22 = (21 : Int32) by decide +kernel), if_pos (show nI 22 = (22 : Int32) from rfl)]
    rw [nI_a1, nI_a2, nI_a3, gd_in (by omega) (by omega), gd_in (by omega) (by omega), gd_in (by omega) (by omega), ix_n (n := 5 * j + 1) (by omega), ix_n (n := 5 * j + 2) (by omega), ix_n (n := 5 * j + 3) (by omega), e1, bind_s, gd_in (by omega) (by omega), gd_in (by omega) (by omega), gd_in (by omega) (by omega), e2, bind_s, if_pos rfl, nI_a5, lt_def]
  by_cases w23 : w = 23
  · subst w23
    obtain ⟨r, μ1, μ2, e1, e2, I2⟩ := stp_lay (X.2 (5 * j + 1)) (X.2 (5 * j + 2)) (X.2 (5 * j + 3)) m I
    refine go μ2 I2 ?_
    unfold bW_law_18
    rw [hd, gd_in (by omega) g0, ix_n (by omega), ht, if_neg (show ¬ nI 23 = (0 : Int32) by decide +kernel), if_neg (show ¬ nI 23 = (1 : Int32) by decide +kernel), if_neg (show ¬ nI 23 = (2 : Int32) by decide +kernel), if_neg (show ¬ nI 23 = (3 : Int32) by decide +kernel), if_neg (show ¬ nI 23 = (4 : Int32) by decide +kernel), if_neg (show ¬ nI 23 = (5 : Int32) by decide +kernel), if_neg (show ¬ nI 23 = (6 : Int32) by decide +kernel), if_neg (show ¬ nI 23 = (7 : Int32) by decide +kernel), if_neg (show ¬ nI 23 = (8 : Int32) by decide +kernel), if_neg (show ¬ nI 23 = (9 : Int32) by decide +kernel), if_neg (show ¬ nI 23 = (10 : Int32) by decide +kernel), if_neg (show ¬ nI 23 = (11 : Int32) by decide +kernel), if_neg (show ¬ nI 23 = (12 : Int32) by decide +kernel), if_neg (show ¬ nI 23 = (13 : Int32) by decide +kernel), if_neg (show ¬ nI 23 = (14 : Int32) by decide +kernel), if_neg (show ¬ nI 23 = (15 : Int32) by decide +kernel), if_neg (show ¬ nI 23 = (16 : Int32) by decide +kernel), if_neg (show ¬ nI 23 = (17 : Int32) by decide +kernel), if_neg (show ¬ nI 23 = (18 : Int32) by decide +kernel), if_neg (show ¬ nI 23 = (19 : Int32) by decide +kernel), if_neg (show ¬ nI 23 = (20 : Int32) by decide +kernel), if_neg (show ¬ nI 23 = (21 : Int32) by decide +kernel), if_neg (show ¬ nI 23 = (22 : Int32) by decide +kernel), if_pos (show nI 23 = (23 : Int32) from rfl)]
    rw [nI_a1, nI_a2, nI_a3, gd_in (by omega) (by omega), gd_in (by omega) (by omega), gd_in (by omega) (by omega), ix_n (n := 5 * j + 1) (by omega), ix_n (n := 5 * j + 2) (by omega), ix_n (n := 5 * j + 3) (by omega), e1, bind_s, gd_in (by omega) (by omega), gd_in (by omega) (by omega), gd_in (by omega) (by omega), e2, bind_s, if_pos rfl, nI_a5, lt_def]
  by_cases w24 : w = 24
  · subst w24
    obtain ⟨r, μ1, μ2, e1, e2, I2⟩ := stp_read (X.2 (5 * j + 1)) (X.2 (5 * j + 2)) (X.2 (5 * j + 3)) (X.2 (5 * j + 4)) m I
    refine go μ2 I2 ?_
    unfold bW_law_18
    rw [hd, gd_in (by omega) g0, ix_n (by omega), ht, if_neg (show ¬ nI 24 = (0 : Int32) by decide +kernel), if_neg (show ¬ nI 24 = (1 : Int32) by decide +kernel), if_neg (show ¬ nI 24 = (2 : Int32) by decide +kernel), if_neg (show ¬ nI 24 = (3 : Int32) by decide +kernel), if_neg (show ¬ nI 24 = (4 : Int32) by decide +kernel), if_neg (show ¬ nI 24 = (5 : Int32) by decide +kernel), if_neg (show ¬ nI 24 = (6 : Int32) by decide +kernel), if_neg (show ¬ nI 24 = (7 : Int32) by decide +kernel), if_neg (show ¬ nI 24 = (8 : Int32) by decide +kernel), if_neg (show ¬ nI 24 = (9 : Int32) by decide +kernel), if_neg (show ¬ nI 24 = (10 : Int32) by decide +kernel), if_neg (show ¬ nI 24 = (11 : Int32) by decide +kernel), if_neg (show ¬ nI 24 = (12 : Int32) by decide +kernel), if_neg (show ¬ nI 24 = (13 : Int32) by decide +kernel), if_neg (show ¬ nI 24 = (14 : Int32) by decide +kernel), if_neg (show ¬ nI 24 = (15 : Int32) by decide +kernel), if_neg (show ¬ nI 24 = (16 : Int32) by decide +kernel), if_neg (show ¬ nI 24 = (17 : Int32) by decide +kernel), if_neg (show ¬ nI 24 = (18 : Int32) by decide +kernel), if_neg (show ¬ nI 24 = (19 : Int32) by decide +kernel), if_neg (show ¬ nI 24 = (20 : Int32) by decide +kernel), if_neg (show ¬ nI 24 = (21 : Int32) by decide +kernel), if_neg (show ¬ nI 24 = (22 : Int32) by decide +kernel), if_neg (show ¬ nI 24 = (23 : Int32) by decide +kernel), if_pos (show nI 24 = (24 : Int32) from rfl)]
    rw [nI_a1, nI_a2, nI_a3, nI_a4, gd_in (by omega) (by omega), gd_in (by omega) (by omega), gd_in (by omega) (by omega), gd_in (by omega) (by omega), ix_n (n := 5 * j + 1) (by omega), ix_n (n := 5 * j + 2) (by omega), ix_n (n := 5 * j + 3) (by omega), ix_n (n := 5 * j + 4) (by omega), e1, bind_s, gd_in (by omega) (by omega), gd_in (by omega) (by omega), gd_in (by omega) (by omega), gd_in (by omega) (by omega), e2, bind_s, if_pos rfl, nI_a5, lt_def]
  by_cases w25 : w = 25
  · subst w25
    obtain ⟨r, e1, e2⟩ := stv_torn  m I
    refine go m (Inv_n I) ?_
    unfold bW_law_18
    rw [hd, gd_in (by omega) g0, ix_n (by omega), ht, if_neg (show ¬ nI 25 = (0 : Int32) by decide +kernel), if_neg (show ¬ nI 25 = (1 : Int32) by decide +kernel), if_neg (show ¬ nI 25 = (2 : Int32) by decide +kernel), if_neg (show ¬ nI 25 = (3 : Int32) by decide +kernel), if_neg (show ¬ nI 25 = (4 : Int32) by decide +kernel), if_neg (show ¬ nI 25 = (5 : Int32) by decide +kernel), if_neg (show ¬ nI 25 = (6 : Int32) by decide +kernel), if_neg (show ¬ nI 25 = (7 : Int32) by decide +kernel), if_neg (show ¬ nI 25 = (8 : Int32) by decide +kernel), if_neg (show ¬ nI 25 = (9 : Int32) by decide +kernel), if_neg (show ¬ nI 25 = (10 : Int32) by decide +kernel), if_neg (show ¬ nI 25 = (11 : Int32) by decide +kernel), if_neg (show ¬ nI 25 = (12 : Int32) by decide +kernel), if_neg (show ¬ nI 25 = (13 : Int32) by decide +kernel), if_neg (show ¬ nI 25 = (14 : Int32) by decide +kernel), if_neg (show ¬ nI 25 = (15 : Int32) by decide +kernel), if_neg (show ¬ nI 25 = (16 : Int32) by decide +kernel), if_neg (show ¬ nI 25 = (17 : Int32) by decide +kernel), if_neg (show ¬ nI 25 = (18 : Int32) by decide +kernel), if_neg (show ¬ nI 25 = (19 : Int32) by decide +kernel), if_neg (show ¬ nI 25 = (20 : Int32) by decide +kernel), if_neg (show ¬ nI 25 = (21 : Int32) by decide +kernel), if_neg (show ¬ nI 25 = (22 : Int32) by decide +kernel), if_neg (show ¬ nI 25 = (23 : Int32) by decide +kernel), if_neg (show ¬ nI 25 = (24 : Int32) by decide +kernel), if_pos (show nI 25 = (25 : Int32) from rfl)]
    rw [e1, bind_s, e2, bind_s, if_pos rfl, nI_a5, lt_def]
  by_cases w26 : w = 26
  · subst w26
    obtain ⟨r, e1, e2⟩ := stv_count (X.2 (5 * j + 1)) m I
    refine go m (Inv_n I) ?_
    unfold bW_law_18
    rw [hd, gd_in (by omega) g0, ix_n (by omega), ht, if_neg (show ¬ nI 26 = (0 : Int32) by decide +kernel), if_neg (show ¬ nI 26 = (1 : Int32) by decide +kernel), if_neg (show ¬ nI 26 = (2 : Int32) by decide +kernel), if_neg (show ¬ nI 26 = (3 : Int32) by decide +kernel), if_neg (show ¬ nI 26 = (4 : Int32) by decide +kernel), if_neg (show ¬ nI 26 = (5 : Int32) by decide +kernel), if_neg (show ¬ nI 26 = (6 : Int32) by decide +kernel), if_neg (show ¬ nI 26 = (7 : Int32) by decide +kernel), if_neg (show ¬ nI 26 = (8 : Int32) by decide +kernel), if_neg (show ¬ nI 26 = (9 : Int32) by decide +kernel), if_neg (show ¬ nI 26 = (10 : Int32) by decide +kernel), if_neg (show ¬ nI 26 = (11 : Int32) by decide +kernel), if_neg (show ¬ nI 26 = (12 : Int32) by decide +kernel), if_neg (show ¬ nI 26 = (13 : Int32) by decide +kernel), if_neg (show ¬ nI 26 = (14 : Int32) by decide +kernel), if_neg (show ¬ nI 26 = (15 : Int32) by decide +kernel), if_neg (show ¬ nI 26 = (16 : Int32) by decide +kernel), if_neg (show ¬ nI 26 = (17 : Int32) by decide +kernel), if_neg (show ¬ nI 26 = (18 : Int32) by decide +kernel), if_neg (show ¬ nI 26 = (19 : Int32) by decide +kernel), if_neg (show ¬ nI 26 = (20 : Int32) by decide +kernel), if_neg (show ¬ nI 26 = (21 : Int32) by decide +kernel), if_neg (show ¬ nI 26 = (22 : Int32) by decide +kernel), if_neg (show ¬ nI 26 = (23 : Int32) by decide +kernel), if_neg (show ¬ nI 26 = (24 : Int32) by decide +kernel), if_neg (show ¬ nI 26 = (25 : Int32) by decide +kernel), if_pos (show nI 26 = (26 : Int32) from rfl)]
    rw [nI_a1, gd_in (by omega) (by omega), ix_n (n := 5 * j + 1) (by omega), e1, bind_s, gd_in (by omega) (by omega), e2, bind_s, if_pos rfl, nI_a5, lt_def]
  refine go m (Inv_n I) ?_
  unfold bW_law_18
  have v0 : ¬ nI w = (0 : Int32) := fun z => w0 ((nI_eq (b := 0) (by omega) (by omega)).mp z)
  have v1 : ¬ nI w = (1 : Int32) := fun z => w1 ((nI_eq (b := 1) (by omega) (by omega)).mp z)
  have v2 : ¬ nI w = (2 : Int32) := fun z => w2 ((nI_eq (b := 2) (by omega) (by omega)).mp z)
  have v3 : ¬ nI w = (3 : Int32) := fun z => w3 ((nI_eq (b := 3) (by omega) (by omega)).mp z)
  have v4 : ¬ nI w = (4 : Int32) := fun z => w4 ((nI_eq (b := 4) (by omega) (by omega)).mp z)
  have v5 : ¬ nI w = (5 : Int32) := fun z => w5 ((nI_eq (b := 5) (by omega) (by omega)).mp z)
  have v6 : ¬ nI w = (6 : Int32) := fun z => w6 ((nI_eq (b := 6) (by omega) (by omega)).mp z)
  have v7 : ¬ nI w = (7 : Int32) := fun z => w7 ((nI_eq (b := 7) (by omega) (by omega)).mp z)
  have v8 : ¬ nI w = (8 : Int32) := fun z => w8 ((nI_eq (b := 8) (by omega) (by omega)).mp z)
  have v9 : ¬ nI w = (9 : Int32) := fun z => w9 ((nI_eq (b := 9) (by omega) (by omega)).mp z)
  have v10 : ¬ nI w = (10 : Int32) := fun z => w10 ((nI_eq (b := 10) (by omega) (by omega)).mp z)
  have v11 : ¬ nI w = (11 : Int32) := fun z => w11 ((nI_eq (b := 11) (by omega) (by omega)).mp z)
  have v12 : ¬ nI w = (12 : Int32) := fun z => w12 ((nI_eq (b := 12) (by omega) (by omega)).mp z)
  have v13 : ¬ nI w = (13 : Int32) := fun z => w13 ((nI_eq (b := 13) (by omega) (by omega)).mp z)
  have v14 : ¬ nI w = (14 : Int32) := fun z => w14 ((nI_eq (b := 14) (by omega) (by omega)).mp z)
  have v15 : ¬ nI w = (15 : Int32) := fun z => w15 ((nI_eq (b := 15) (by omega) (by omega)).mp z)
  have v16 : ¬ nI w = (16 : Int32) := fun z => w16 ((nI_eq (b := 16) (by omega) (by omega)).mp z)
  have v17 : ¬ nI w = (17 : Int32) := fun z => w17 ((nI_eq (b := 17) (by omega) (by omega)).mp z)
  have v18 : ¬ nI w = (18 : Int32) := fun z => w18 ((nI_eq (b := 18) (by omega) (by omega)).mp z)
  have v19 : ¬ nI w = (19 : Int32) := fun z => w19 ((nI_eq (b := 19) (by omega) (by omega)).mp z)
  have v20 : ¬ nI w = (20 : Int32) := fun z => w20 ((nI_eq (b := 20) (by omega) (by omega)).mp z)
  have v21 : ¬ nI w = (21 : Int32) := fun z => w21 ((nI_eq (b := 21) (by omega) (by omega)).mp z)
  have v22 : ¬ nI w = (22 : Int32) := fun z => w22 ((nI_eq (b := 22) (by omega) (by omega)).mp z)
  have v23 : ¬ nI w = (23 : Int32) := fun z => w23 ((nI_eq (b := 23) (by omega) (by omega)).mp z)
  have v24 : ¬ nI w = (24 : Int32) := fun z => w24 ((nI_eq (b := 24) (by omega) (by omega)).mp z)
  have v25 : ¬ nI w = (25 : Int32) := fun z => w25 ((nI_eq (b := 25) (by omega) (by omega)).mp z)
  have v26 : ¬ nI w = (26 : Int32) := fun z => w26 ((nI_eq (b := 26) (by omega) (by omega)).mp z)
  rw [hd, gd_in (by omega) g0, ix_n (by omega), ht, if_neg v0, if_neg v1, if_neg v2, if_neg v3, if_neg v4, if_neg v5, if_neg v6, if_neg v7, if_neg v8, if_neg v9, if_neg v10, if_neg v11, if_neg v12, if_neg v13, if_neg v14, if_neg v15, if_neg v16, if_neg v17, if_neg v18, if_neg v19, if_neg v20, if_neg v21, if_neg v22, if_neg v23, if_neg v24, if_neg v25, if_neg v26, nI_a5, lt_def]
