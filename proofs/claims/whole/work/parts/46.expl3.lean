section Expl3
variable {μ : Mem} {A : Ab} {B : Nat → Nat → Nat} {d0 : Nat → Nat}
theorem Que_init {m : Mem} (hc0 : code7 A d0 < 2401) (z1 : ∀ c, c < 2401 → m (5, 0, 16) c = nI 0) : Que (wr (wr (wr m (5, 0, 15) 0 (nI (code7 A d0))) (5, 0, 16) (code7 A d0) (nI 1)) (5, 0, 0) 17 (nI 1)) A d0 1 (fun _ => d0) := by
  refine ⟨wr_at _ _ _ _, by omega, rfl, fun i hi => ⟨?_, Rch_refl _⟩, fun i j h1 h2 => by omega, fun c hc => ?_, ?_, fun i j h1 h2 => Nat.le_refl _⟩
  · have : i = 0 := by omega
    subst this
    rw [wr_off _ _ (by simp), wr_off _ _ (by simp), wr_at]
  · rw [wr_off _ _ (by simp), wr_get]
    by_cases w : c = code7 A d0
    · rw [if_pos ⟨rfl, w⟩]; exact Or.inr ⟨rfl, 0, by omega, w.symm⟩
    · rw [if_neg (fun z => w z.2), wr_off _ _ (by simp), z1 c hc]; exact Or.inl ⟨rfl, fun i _ z => w z.symm⟩
  · have n1 : nI 0 ≠ nI 1 := by decide +kernel
    rw [cnt_congr (q := fun x => false || decide (x = code7 A d0)) (fun c hc => by
      show ((wr _ _ _ _) (5, 0, 16) c == nI 1) = _
      rw [wr_off _ _ (by simp), wr_get]
      by_cases w : c = code7 A d0
      · rw [if_pos ⟨rfl, w⟩, decide_eq_true w]; rfl
      · rw [if_neg (fun z => w z.2), wr_off _ _ (by simp), z1 c hc, decide_eq_false w]; exact beq_eq_false_iff_ne.mpr n1)]
    rw [cnt_set (p := fun _ => false) (c := code7 A d0) rfl (fun x => rfl), cnt_zero (fun _ _ => rfl), if_pos hc0]
theorem row_ok (R : RepR (μ (5, 0, 1)) A B) (O : OkA A) (D : DOk A d0) {k n : Nat} {q : Nat → Nat → Nat} {m' m2 : Mem} {sf2 : Int32 → Mem → Option Mem} (o2 : Off sEx μ m') (hQ : Que m' A d0 n q) (hC : Clo A k n q) (hS : ∀ j, j < n → sm (q k) (A 4 0) ≤ sm (q j) (A 4 0) + 1) (hk2 : k < n) (p2 : Off sSp m' m2) (S2 : SpOk m2 A (q k)) : ∃ m3 : Mem, (∃ n q, k + 1 ≤ n ∧ Off sEx μ m3 ∧ Que m3 A d0 n q ∧ Clo A (k + 1) n q ∧ (k + 1 < n → ∀ j, j < n → sm (q (k + 1)) (A 4 0) ≤ sm (q j) (A 4 0) + 1)) ∧ lz11 (bM_explore_70 sf2 (nI k)) FU (nI 0) m2 = sf2 (nI (k + 1)) m3 := by
  have hn := O.n4
  have hle := Que_le hQ
  have hq4 := hQ.2.2.2.1
  have Dk : DOk A (q k) := DOk_le D (Rch_le (hq4 k hk2).2)
  refine up11 (B := bM_explore_70 sf2 (nI k)) (fun r => ∃ m3 : Mem, (∃ n q, k + 1 ≤ n ∧ Off sEx μ m3 ∧ Que m3 A d0 n q ∧ Clo A (k + 1) n q ∧ (k + 1 < n → ∀ j, j < n → sm (q (k + 1)) (A 4 0) ≤ sm (q j) (A 4 0) + 1)) ∧ r = sf2 (nI (k + 1)) m3) (A 4 0) (by omega) (fun t m3 => ∃ n q', k < n ∧ q' k = q k ∧ Off sEx μ m3 ∧ SpOk m3 A (q k) ∧ Que m3 A d0 n q' ∧ Clo A k n q' ∧ (∀ u, u < t → canA A (q k) u = true → ∃ j, j < n ∧ q' j = dec (q k) u) ∧ ∀ j, j < n → sm (q k) (A 4 0) ≤ sm (q' j) (A 4 0) + 1) ⟨n, q, hk2, rfl, Off_trans o2 (Off_mono p2 sEx_sSp), S2, Que_off hQ p2 rfl (fun _ => rfl) (fun _ => rfl), hC, fun u hu => absurd hu (by omega), hS⟩ (fun sf3 t m3 ht hK => ?_) (fun sf3 m3 hK => ?_) <;> unfold bM_explore_70
  · obtain ⟨n2, q', b1, b2, b3, b4, b5, b6, b7, b8⟩ := hK
    have R3 := RepR_off b3 (fun _ => rfl) R
    obtain ⟨m4, e4, o4, S4⟩ := movedBy_ok R3 O Dk b4 ht
    have Q4 := Que_off b5 o4 rfl (fun _ => rfl) (fun _ => rfl)
    have o5 : Off sEx μ m4 := Off_trans b3 (Off_mono o4 sEx_sSp)
    left
    by_cases cn : canA A (q k) t = true
    · have De : DOk A (dec (q k) t) := DOk_le Dk (dec_le _ _)
      have hce := code7_lt O De
      have hre : Rch A d0 (dec (q k) t) := Rch_tail (hq4 k hk2).2 ht cn
      have hsm := sm_dec (can_pos cn) ht
      rcases Q4.2.2.2.2.2.1 _ hce with ⟨w1, w2⟩ | ⟨w1, j, w2, w3⟩
      · obtain ⟨g1, g2⟩ := Que_add O D Q4 hre w1 (fun j hj => by have := b8 j hj; omega)
        have q17 := Q4.1
        have r1 : (wr m4 (5, 0, 16) (code7 A (dec (q k) t)) (nI 1)) (5, 0, 0) 17 = nI n2 := (wr_off _ _ (by simp)).trans q17
        have r2 : (wr (wr m4 (5, 0, 16) (code7 A (dec (q k) t)) (nI 1)) (5, 0, 15) n2 (nI (code7 A (dec (q k) t)))) (5, 0, 0) 17 = nI n2 := (wr_off _ _ (by simp)).trans r1
        simp (disch := omega) only [lit_0, lit_1, lit_2, lit_3, lit_4, lit_5, lit_6, lit_7, lit_8, lit_9, lit_10, lit_11, lit_12, lit_13, lit_14, lit_15, lit_16, lit_17, lit_18, lit_19, lit_20, lit_23, lit_24, lit_31, lit_32, lit_34, lit_36, lit_40, lit_48, lit_49, lit_57, lit_58, lit_59, lit_60, lit_64, lit_96, lit_97, lit_99, lit_101, lit_105, lit_108, lit_110, lit_111, lit_112, lit_114, lit_115, lit_116, lit_122, lit_127, lit_160, lit_216, lit_235, lit_238, lit_343, lit_476, lit_1296, lit_2000, lit_2401, lt_def, bind_s, gd_d, ix_n, inb_n, nI_add, pk_mul, pk_sub, nI_leI, nI_ltI, nI_eq, nI_ltn, nI_eqn, nI_eqn2, if_pos, if_neg, if_true, if_false, nI_addm1, R3.n, e4, if_pos cn, w1, nar_b1, r1, r2]
        have qn : ∀ i, i < n2 → (if i = n2 then dec (q k) t else q' i) = q' i := fun i hi => if_neg (by omega)
        refine ⟨_, ⟨n2 + 1, _, by omega, ?_, Off_wr (Off_wr (Off_wr o5 rfl) rfl) rfl, ?_, g2, ?_, ?_, ?_⟩, rfl⟩
        · show (if k = n2 then dec (q k) t else q' k) = q k
          rw [qn k b1, b2]
        · intro u hu
          rw [wr_off _ _ (by simp), wr_off _ _ (by simp), wr_off _ _ (by simp)]
          exact S4 u hu
        · intro i hi u hu hcu
          have hcu2 : canA A (if i = n2 then dec (q k) t else q' i) u = true := hcu
          rw [qn i (by omega)] at hcu2
          obtain ⟨j, hj, hje⟩ := b6 i hi u hu hcu2
          refine ⟨j, by omega, ?_⟩
          show (if j = n2 then dec (q k) t else q' j) = dec (if i = n2 then dec (q k) t else q' i) u
          rw [qn j hj, qn i (by omega), hje]
        · intro u hu hcu
          by_cases v : u = t
          · subst v
            exact ⟨n2, by omega, if_pos rfl⟩
          · obtain ⟨j, hj, hje⟩ := b7 u (by omega) hcu
            exact ⟨j, by omega, by show (if j = n2 then dec (q k) t else q' j) = _; rw [qn j hj, hje]⟩
        · intro j hj
          show _ ≤ sm (if j = n2 then dec (q k) t else q' j) (A 4 0) + 1
          by_cases v : j = n2
          · rw [if_pos v]; omega
          · rw [qn j (by omega)]; exact b8 j (by omega)
      · simp (disch := omega) only [lit_0, lit_1, lit_2, lit_3, lit_4, lit_5, lit_6, lit_7, lit_8, lit_9, lit_10, lit_11, lit_12, lit_13, lit_14, lit_15, lit_16, lit_17, lit_18, lit_19, lit_20, lit_23, lit_24, lit_31, lit_32, lit_34, lit_36, lit_40, lit_48, lit_49, lit_57, lit_58, lit_59, lit_60, lit_64, lit_96, lit_97, lit_99, lit_101, lit_105, lit_108, lit_110, lit_111, lit_112, lit_114, lit_115, lit_116, lit_122, lit_127, lit_160, lit_216, lit_235, lit_238, lit_343, lit_476, lit_1296, lit_2000, lit_2401, lt_def, bind_s, gd_d, ix_n, inb_n, nI_add, pk_mul, pk_sub, nI_leI, nI_ltI, nI_eq, nI_ltn, nI_eqn, nI_eqn2, if_pos, if_neg, if_true, if_false, nI_addm1, R3.n, e4, if_pos cn, w1]
        refine ⟨m4, ⟨n2, q', b1, b2, o5, S4, Q4, b6, fun u hu hcu => ?_, b8⟩, rfl⟩
        by_cases v : u = t
        · subst v
          refine ⟨j, w2, code7_inj O (DOk_le D (Rch_le (Q4.2.2.2.1 j w2).2)) De w3⟩
        · exact b7 u (by omega) hcu
    · simp (disch := omega) only [lit_0, lit_1, lit_2, lit_3, lit_4, lit_5, lit_6, lit_7, lit_8, lit_9, lit_10, lit_11, lit_12, lit_13, lit_14, lit_15, lit_16, lit_17, lit_18, lit_19, lit_20, lit_23, lit_24, lit_31, lit_32, lit_34, lit_36, lit_40, lit_48, lit_49, lit_57, lit_58, lit_59, lit_60, lit_64, lit_96, lit_97, lit_99, lit_101, lit_105, lit_108, lit_110, lit_111, lit_112, lit_114, lit_115, lit_116, lit_122, lit_127, lit_160, lit_216, lit_235, lit_238, lit_343, lit_476, lit_1296, lit_2000, lit_2401, lt_def, bind_s, gd_d, ix_n, inb_n, nI_add, pk_mul, pk_sub, nI_leI, nI_ltI, nI_eq, nI_ltn, nI_eqn, nI_eqn2, if_pos, if_neg, if_true, if_false, nI_addm1, R3.n, e4, if_neg cn]
      refine ⟨m4, ⟨n2, q', b1, b2, o5, S4, Q4, b6, fun u hu hcu => ?_, b8⟩, rfl⟩
      by_cases v : u = t
      · subst v; exact absurd hcu cn
      · exact b7 u (by omega) hcu
  · obtain ⟨n2, q', b1, b2, b3, b4, b5, b6, b7, b8⟩ := hK
    have R3 := RepR_off b3 (fun _ => rfl) R
    simp (disch := omega) only [lit_0, lit_1, lit_2, lit_3, lit_4, lit_5, lit_6, lit_7, lit_8, lit_9, lit_10, lit_11, lit_12, lit_13, lit_14, lit_15, lit_16, lit_17, lit_18, lit_19, lit_20, lit_23, lit_24, lit_31, lit_32, lit_34, lit_36, lit_40, lit_48, lit_49, lit_57, lit_58, lit_59, lit_60, lit_64, lit_96, lit_97, lit_99, lit_101, lit_105, lit_108, lit_110, lit_111, lit_112, lit_114, lit_115, lit_116, lit_122, lit_127, lit_160, lit_216, lit_235, lit_238, lit_343, lit_476, lit_1296, lit_2000, lit_2401, lt_def, bind_s, gd_d, ix_n, inb_n, nI_add, pk_mul, pk_sub, nI_leI, nI_ltI, nI_eq, nI_ltn, nI_eqn, nI_eqn2, if_pos, if_neg, if_true, if_false, nI_addm1, R3.n, jM_explore_139]
    refine ⟨m3, ⟨n2, q', by omega, b3, b5, fun i hi u hu hcu => ?_, fun hk3 j hj => ?_⟩, rfl⟩
    · by_cases v : i = k
      · subst v
        rw [b2] at hcu ⊢
        exact b7 u hu hcu
      · exact b6 i (by omega) u hu hcu
    · have g1 := b5.2.2.2.2.2.2.2 k (k + 1) (by omega) hk3
      have g2 := b8 j hj
      rw [b2] at g1
      omega
theorem ex_a {c : Nat} {sf : Int32 → Mem → Option Mem} {m : Mem} : bM_explore_2 (nI c) sf (nI 2401) m = jM_explore_29 (nI c) (nI 2401) m := by
  unfold bM_explore_2
  exact if_pos (by decide +kernel)
theorem ex_b {c : Nat} (hc0 : c < 2401) {x : Int32} {m : Mem} : jM_explore_29 (nI c) x m = lz11 (bM_explore_50) FU (nI 0) (wr (wr (wr m (5, 0, 15) 0 (nI c)) (5, 0, 16) c (nI 1)) (5, 0, 0) 17 (nI 1)) := by
  have i1 : inb (nI c) 2401 = true := by rw [inb_n (by omega)]; exact decide_eq_true hc0
  have i2 : ix 0 = 0 := by decide +kernel
  have i3 : ix (nI c) = c := ix_n (by omega)
  have i4 : vp_nar .boolean 1 = 1 := by decide +kernel
  unfold jM_explore_29
  rw [gd_t (show inb 0 2401 = true by decide +kernel), lt_def, gd_t i1, lt_def, lt_def, lt_def, i2, i3, i4, lit_0, lit_1]
theorem explore_ok (R : RepR (μ (5, 0, 1)) A B) (O : OkA A) (D : DOk A d0) : ∃ μ' n q, fM_explore (nI (code7 A d0)) μ = some μ' ∧ Off sEx μ μ' ∧ Expl μ' A d0 n q := by
  have hn := O.n4
  have hc0 := code7_lt O D
  unfold fM_explore
  simp only [lt_def, lit_0]
  refine up11 (B := bM_explore_2 (nI (code7 A d0))) (fun r => ∃ μ' n q, r = some μ' ∧ Off sEx μ μ' ∧ Expl μ' A d0 n q) 2401 (by omega) (fun i m => Off sEx μ m ∧ ∀ c, c < i → m (5, 0, 16) c = nI 0) ⟨Off_refl _ _, fun j hj => absurd hj (by omega)⟩ (fun sf i m hi hJ => ?_) (fun sf m hJ => ?_) 
  · unfold bM_explore_2
    left
    simp (disch := omega) only [lit_0, lit_1, lit_2, lit_3, lit_4, lit_5, lit_6, lit_7, lit_8, lit_9, lit_10, lit_11, lit_12, lit_13, lit_14, lit_15, lit_16, lit_17, lit_18, lit_19, lit_20, lit_23, lit_24, lit_31, lit_32, lit_34, lit_36, lit_40, lit_48, lit_49, lit_57, lit_58, lit_59, lit_60, lit_64, lit_96, lit_97, lit_99, lit_101, lit_105, lit_108, lit_110, lit_111, lit_112, lit_114, lit_115, lit_116, lit_122, lit_127, lit_160, lit_216, lit_235, lit_238, lit_343, lit_476, lit_1296, lit_2000, lit_2401, lt_def, bind_s, gd_d, ix_n, inb_n, nI_add, pk_mul, pk_sub, nI_leI, nI_ltI, nI_eq, nI_ltn, nI_eqn, nI_eqn2, if_pos, if_neg, if_true, if_false, nI_addm1, nar_b0]
    refine ⟨_, ⟨Off_wr (Off_wr hJ.1 rfl) rfl, fun c hc => ?_⟩, rfl⟩
    rw [wr_off _ _ (by simp), wr_get]
    by_cases w : c = i
    · rw [if_pos ⟨rfl, w⟩]
    · rw [if_neg (fun z => w z.2)]; exact hJ.2 c (by omega)
  · obtain ⟨o1, z1⟩ := hJ
    rw [ex_a, ex_b hc0]
    refine lz11_m (B := bM_explore_50) (fun r => ∃ μ' n q, r = some μ' ∧ Off sEx μ μ' ∧ Expl μ' A d0 n q) (fun a m => ∃ k n q, a = nI k ∧ k ≤ n ∧ Off sEx μ m ∧ Que m A d0 n q ∧ Clo A k n q ∧ (k < n → ∀ j, j < n → sm (q k) (A 4 0) ≤ sm (q j) (A 4 0) + 1)) (fun a _ => 2401 - ix a) ?_ FU _ _ ⟨0, 1, fun _ => d0, rfl, by omega, Off_wr (Off_wr (Off_wr o1 rfl) rfl) rfl, ?_, fun i hi => absurd hi (by omega), fun _ j _ => Nat.le_succ _⟩ (FU_gt (by omega))
    · rintro sf2 a m' ⟨k, n, q, rfl, hk, o2, hQ, hC, hS⟩
      have hle := Que_le hQ
      have q1 := hQ.1
      unfold bM_explore_50
      by_cases hkn : k = n
      · right
        subst hkn
        obtain ⟨μ', a1, a2, a3⟩ := phase2_ok R O D o2 hQ hC (nI k)
        simp (disch := omega) only [lit_0, lit_1, lit_2, lit_3, lit_4, lit_5, lit_6, lit_7, lit_8, lit_9, lit_10, lit_11, lit_12, lit_13, lit_14, lit_15, lit_16, lit_17, lit_18, lit_19, lit_20, lit_23, lit_24, lit_31, lit_32, lit_34, lit_36, lit_40, lit_48, lit_49, lit_57, lit_58, lit_59, lit_60, lit_64, lit_96, lit_97, lit_99, lit_101, lit_105, lit_108, lit_110, lit_111, lit_112, lit_114, lit_115, lit_116, lit_122, lit_127, lit_160, lit_216, lit_235, lit_238, lit_343, lit_476, lit_1296, lit_2000, lit_2401, lt_def, bind_s, gd_d, ix_n, inb_n, nI_add, pk_mul, pk_sub, nI_leI, nI_ltI, nI_eq, nI_ltn, nI_eqn, nI_eqn2, if_pos, if_neg, if_true, if_false, nI_addm1, q1, a1]
        exact ⟨μ', k, q, rfl, a2, a3⟩
      · left
        have hk2 : k < n := by omega
        have hq4 := hQ.2.2.2.1
        have Dk : DOk A (q k) := DOk_le D (Rch_le (hq4 k hk2).2)
        obtain ⟨m2, e2, p2, S2⟩ := decode_ok O Dk m'
        simp (disch := omega) only [lit_0, lit_1, lit_2, lit_3, lit_4, lit_5, lit_6, lit_7, lit_8, lit_9, lit_10, lit_11, lit_12, lit_13, lit_14, lit_15, lit_16, lit_17, lit_18, lit_19, lit_20, lit_23, lit_24, lit_31, lit_32, lit_34, lit_36, lit_40, lit_48, lit_49, lit_57, lit_58, lit_59, lit_60, lit_64, lit_96, lit_97, lit_99, lit_101, lit_105, lit_108, lit_110, lit_111, lit_112, lit_114, lit_115, lit_116, lit_122, lit_127, lit_160, lit_216, lit_235, lit_238, lit_343, lit_476, lit_1296, lit_2000, lit_2401, lt_def, bind_s, gd_d, ix_n, inb_n, nI_add, pk_mul, pk_sub, nI_leI, nI_ltI, nI_eq, nI_ltn, nI_eqn, nI_eqn2, if_pos, if_neg, if_true, if_false, nI_addm1, q1, (hq4 k hk2).1, e2]
        have key := row_ok (sf2 := sf2) R O D o2 hQ hC (hS hk2) hk2 p2 S2
        obtain ⟨m3, ⟨n3, q3, c1, c2, c3, c4, c5⟩, e3⟩ := key
        exact ⟨nI (k + 1), m3, ⟨k + 1, n3, q3, rfl, c1, c2, c3, c4, c5⟩, by rw [ix_n (by omega)]; omega, e3⟩
    · exact Que_init hc0 z1
end Expl3
