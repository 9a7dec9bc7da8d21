def heldA (A : Ab) (d : Nat → Nat) : Bool := decide (∀ p, p < A 0 0 → fitsA A p (occ A d p) = true)
def aloneA (A : Ab) (d : Nat → Nat) (t : Nat) : Bool := decide (∀ x, x < d t → canA A (upx d t (x + 1)) t = true)
def seqT (A : Ab) (d : Nat → Nat) : Nat := fst (fun t => decide (0 < d t) && aloneA A d t) (A 4 0) 0
def seqD (A : Ab) : Nat → Nat → Nat
  | 0 => dA A
  | m + 1 => upx (seqD A m) (seqT A (seqD A m)) 0
def SeqM (A : Ab) (M : Nat) : Prop := (∀ j, j < M → seqT A (seqD A j) < A 4 0) ∧ ¬ seqT A (seqD A M) < A 4 0
theorem SeqM_un {A : Ab} {M N : Nat} (h : SeqM A M) (g : SeqM A N) : M = N := by
  rcases Nat.lt_trichotomy M N with q | q | q
  · exact absurd (g.1 M q) h.2
  · exact q
  · exact absurd (h.1 N q) g.2
def posN (A : Ab) (d : Nat → Nat) : Nat := cnt (fun t => decide (0 < d t)) (A 4 0)
theorem cnt_upx {d : Nat → Nat} {t : Nat} (h : 0 < d t) : ∀ {n : Nat}, t < n → cnt (fun u => decide (0 < upx d t 0 u)) n + 1 = cnt (fun u => decide (0 < d u)) n
  | 0, q => absurd q (by omega)
  | n + 1, q => by
    rw [cnt_s, cnt_s]
    by_cases e : t = n
    · subst e
      rw [cnt_congr (q := fun u => decide (0 < d u)) (fun i hi => by
        have : upx d t 0 i = d i := if_neg (by omega)
        show decide (0 < upx d t 0 i) = decide (0 < d i)
        rw [this])]
      have : upx d t 0 t = 0 := if_pos rfl
      rw [this]
      simp [h]
    · have := cnt_upx h (n := n) (by omega)
      have e2 : upx d t 0 n = d n := if_neg (by omega)
      rw [e2]
      omega
theorem seqT_spec {A : Ab} {d : Nat → Nat} (h : seqT A d < A 4 0) : 0 < d (seqT A d) ∧ aloneA A d (seqT A d) = true := by
  have := (fst_spec (fun t => decide (0 < d t) && aloneA A d t) (A 4 0) 0).2 (by rw [Nat.zero_add]; exact h)
  simp only [Bool.and_eq_true, decide_eq_true_eq] at this
  exact this
theorem seq_pos {A : Ab} : ∀ {M : Nat}, (∀ j, j < M → seqT A (seqD A j) < A 4 0) → posN A (seqD A M) + M = posN A (dA A)
  | 0, _ => rfl
  | M + 1, h => by
    have h1 := seq_pos (A := A) (M := M) (fun j hj => h j (by omega))
    have h2 := h M (by omega)
    have h3 := cnt_upx (seqT_spec h2).1 h2
    show cnt (fun u => decide (0 < upx (seqD A M) (seqT A (seqD A M)) 0 u)) (A 4 0) + (M + 1) = _
    unfold posN at *
    omega
theorem seq_end {A : Ab} (h : ∀ j, j < A 4 0 → seqT A (seqD A j) < A 4 0) : ¬ seqT A (seqD A (A 4 0)) < A 4 0 := by
  intro z
  have h1 := seq_pos h
  have h2 := cnt_le (fun t => decide (0 < dA A t)) (A 4 0)
  have h3 := (seqT_spec z).1
  have h4 := cnt_upx h3 z
  unfold posN at *
  omega
section Alone
variable {μ : Mem} {k : Nat} {A : Ab} {d : Nat → Nat}
theorem firstAhead_ok (R : RepL μ k A) (O : OkA A) (hL : LeftOk μ (dA A)) {t : Nat} (ht : t < A 4 0) (h1 : 1 ≤ A 8 t) : fP_firstAhead k (nI t) μ = some (if fst (occ A (dA A) (spotA A t (A 8 t - 1))) (A 4 0) 0 < A 4 0 then nI (fst (occ A (dA A) (spotA A t (A 8 t - 1))) (A 4 0) 0) else -4) := by
  have hn := O.n4
  have h6 := O.p6
  have hl := hL t (by omega)
  rw [dA_lt ht] at hl
  have h := O.tr ht
  have h5 := dist_le O ht
  have hs := spotA_lt O ht (d := A 8 t - 1) (by omega)
  unfold fP_firstAhead
  simp (disch := omega) only [lit_0, lit_1, lit_2, lit_3, lit_4, lit_5, lit_6, lit_7, lit_8, lit_9, lit_10, lit_11, lit_12, lit_13, lit_14, lit_15, lit_16, lit_17, lit_18, lit_19, lit_20, lit_23, lit_24, lit_31, lit_32, lit_34, lit_36, lit_40, lit_48, lit_49, lit_57, lit_58, lit_59, lit_60, lit_64, lit_96, lit_97, lit_99, lit_101, lit_105, lit_108, lit_110, lit_111, lit_112, lit_114, lit_115, lit_116, lit_122, lit_127, lit_160, lit_216, lit_235, lit_238, lit_343, lit_476, lit_1296, lit_2000, lit_2401, lt_def, bind_s, gd_d, ix_n, inb_n, nI_add, pk_mul, pk_sub, nI_leI, nI_ltI, nI_eq, nI_ltn, nI_eqn, nI_eqn2, if_pos, if_neg, if_true, if_false, nI_addm1, hl, spot_ok R O ht (d := A 8 t - 1) (by omega)]
  refine up10 (B := bP_firstAhead_17 k μ (nI (spotA A t (A 8 t - 1)))) (fun r => r = some (if fst (occ A (dA A) (spotA A t (A 8 t - 1))) (A 4 0) 0 < A 4 0 then nI (fst (occ A (dA A) (spotA A t (A 8 t - 1))) (A 4 0) 0) else -nI 4)) (A 4 0) (by omega) (fun i => ∀ u, u < i → occ A (dA A) (spotA A t (A 8 t - 1)) u = false) (fun j hj => absurd hj (by omega)) (fun sf i hi hJ => ?_) (fun sf hJ => ?_) <;> unfold bP_firstAhead_17
  · have hli := hL i (by omega)
    rw [dA_lt hi] at hli
    have g := O.tr hi
    have g5 := dist_le O hi
    have gs := spotA_lt O hi (d := A 8 i) (by omega)
    by_cases z : A 8 i = 0
    · left
      simp (disch := omega) only [lit_0, lit_1, lit_2, lit_3, lit_4, lit_5, lit_6, lit_7, lit_8, lit_9, lit_10, lit_11, lit_12, lit_13, lit_14, lit_15, lit_16, lit_17, lit_18, lit_19, lit_20, lit_23, lit_24, lit_31, lit_32, lit_34, lit_36, lit_40, lit_48, lit_49, lit_57, lit_58, lit_59, lit_60, lit_64, lit_96, lit_97, lit_99, lit_101, lit_105, lit_108, lit_110, lit_111, lit_112, lit_114, lit_115, lit_116, lit_122, lit_127, lit_160, lit_216, lit_235, lit_238, lit_343, lit_476, lit_1296, lit_2000, lit_2401, lt_def, bind_s, gd_d, ix_n, inb_n, nI_add, pk_mul, pk_sub, nI_leI, nI_ltI, nI_eq, nI_ltn, nI_eqn, nI_eqn2, if_pos, if_neg, if_true, if_false, nI_addm1, R.n, hli]
      refine ⟨fun u hu => ?_, trivial⟩
      by_cases e : u = i
      · subst e; simp [occ, dA_lt hi, z]
      · exact hJ u (by omega)
    · simp (disch := omega) only [lit_0, lit_1, lit_2, lit_3, lit_4, lit_5, lit_6, lit_7, lit_8, lit_9, lit_10, lit_11, lit_12, lit_13, lit_14, lit_15, lit_16, lit_17, lit_18, lit_19, lit_20, lit_23, lit_24, lit_31, lit_32, lit_34, lit_36, lit_40, lit_48, lit_49, lit_57, lit_58, lit_59, lit_60, lit_64, lit_96, lit_97, lit_99, lit_101, lit_105, lit_108, lit_110, lit_111, lit_112, lit_114, lit_115, lit_116, lit_122, lit_127, lit_160, lit_216, lit_235, lit_238, lit_343, lit_476, lit_1296, lit_2000, lit_2401, lt_def, bind_s, gd_d, ix_n, inb_n, nI_add, pk_mul, pk_sub, nI_leI, nI_ltI, nI_eq, nI_ltn, nI_eqn, nI_eqn2, if_pos, if_neg, if_true, if_false, nI_addm1, R.n, hli, spot_ok R O hi (d := A 8 i) (by omega)]
      by_cases y : spotA A i (A 8 i) = spotA A t (A 8 t - 1)
      · right
        have hp : occ A (dA A) (spotA A t (A 8 t - 1)) i = true := by simp [occ, dA_lt hi, y]; omega
        rw [if_pos y, fst_eq hi hJ hp, if_pos hi]
      · left
        refine ⟨fun u hu => ?_, by rw [if_neg y]⟩
        by_cases e : u = i
        · subst e; simp [occ, dA_lt hi, y]
        · exact hJ u (by omega)
  · simp (disch := omega) only [lit_0, lit_1, lit_2, lit_3, lit_4, lit_5, lit_6, lit_7, lit_8, lit_9, lit_10, lit_11, lit_12, lit_13, lit_14, lit_15, lit_16, lit_17, lit_18, lit_19, lit_20, lit_23, lit_24, lit_31, lit_32, lit_34, lit_36, lit_40, lit_48, lit_49, lit_57, lit_58, lit_59, lit_60, lit_64, lit_96, lit_97, lit_99, lit_101, lit_105, lit_108, lit_110, lit_111, lit_112, lit_114, lit_115, lit_116, lit_122, lit_127, lit_160, lit_216, lit_235, lit_238, lit_343, lit_476, lit_1296, lit_2000, lit_2401, lt_def, bind_s, gd_d, ix_n, inb_n, nI_add, pk_mul, pk_sub, nI_leI, nI_ltI, nI_eq, nI_ltn, nI_eqn, nI_eqn2, if_pos, if_neg, if_true, if_false, nI_addm1, R.n]
    rw [fst_none hJ, if_neg (Nat.lt_irrefl _)]
theorem holdsAll_ok (R : RepL μ k A) (O : OkA A) (hR : RoomsOk μ A) : ∃ μ', fP_holdsAll k μ = some (nI (if heldA A (dA A) then 1 else 0), μ') ∧ Off sLk μ μ' ∧ Looked μ' A := by
  have hn := O.n4
  have h6 := O.p6
  obtain ⟨m, e1, o1, l1, t1⟩ := look_ok R O
  have R1 := RepL_off o1 (fun _ _ => rfl) R
  have hR1 := RoomsOk_off (A := A) o1 (fun _ => rfl) hR
  have h16 := pow2_le16 hn
  unfold fP_holdsAll
  simp only [e1, bind_s, lt_def]
  refine ⟨m, ?_, o1, l1, t1⟩
  have key : ∀ p, p < A 0 0 → m (1, 0, 1) (16 * p + msk (occ A (dA A) p) (A 4 0)) = nI (if fitsA A p (occ A (dA A) p) then 1 else 0) := by
    intro p hp
    rw [hR1 p hp _ (msk_lt _ _)]
    rw [fits_congr (q' := occ A (dA A) p) (fun t ht => by rw [msk_bit, decide_eq_true ht, Bool.true_and])]
  refine up10 (B := bP_holdsAll_7 k m) (fun r => r = some (nI (if heldA A (dA A) then 1 else 0), m)) (A 0 0) (by omega) (fun i => ∀ p, p < i → fitsA A p (occ A (dA A) p) = true) (fun j hj => absurd hj (by omega)) (fun sf i hi hJ => ?_) (fun sf hJ => ?_) <;> unfold bP_holdsAll_7
  · have hb := msk_lt16 (q := occ A (dA A) i) hn
    have e : i * 16 + msk (occ A (dA A) i) (A 4 0) = 16 * i + msk (occ A (dA A) i) (A 4 0) := by omega
    simp (disch := omega) only [lit_0, lit_1, lit_2, lit_3, lit_4, lit_5, lit_6, lit_7, lit_8, lit_9, lit_10, lit_11, lit_12, lit_13, lit_14, lit_15, lit_16, lit_17, lit_18, lit_19, lit_20, lit_23, lit_24, lit_31, lit_32, lit_34, lit_36, lit_40, lit_48, lit_49, lit_57, lit_58, lit_59, lit_60, lit_64, lit_96, lit_97, lit_99, lit_101, lit_105, lit_108, lit_110, lit_111, lit_112, lit_114, lit_115, lit_116, lit_122, lit_127, lit_160, lit_216, lit_235, lit_238, lit_343, lit_476, lit_1296, lit_2000, lit_2401, lt_def, bind_s, gd_d, ix_n, inb_n, nI_add, pk_mul, pk_sub, nI_leI, nI_ltI, nI_eq, nI_ltn, nI_eqn, nI_eqn2, if_pos, if_neg, if_true, if_false, nI_addm1, R1.pl, t1 i (by omega), e, key i hi]
    by_cases z : fitsA A i (occ A (dA A) i) = true
    · left
      refine ⟨fun p hp => ?_, ?_⟩
      · by_cases e : p = i
        · subst e; exact z
        · exact hJ p (by omega)
      · simp (disch := omega) only [lit_0, lit_1, lit_2, lit_3, lit_4, lit_5, lit_6, lit_7, lit_8, lit_9, lit_10, lit_11, lit_12, lit_13, lit_14, lit_15, lit_16, lit_17, lit_18, lit_19, lit_20, lit_23, lit_24, lit_31, lit_32, lit_34, lit_36, lit_40, lit_48, lit_49, lit_57, lit_58, lit_59, lit_60, lit_64, lit_96, lit_97, lit_99, lit_101, lit_105, lit_108, lit_110, lit_111, lit_112, lit_114, lit_115, lit_116, lit_122, lit_127, lit_160, lit_216, lit_235, lit_238, lit_343, lit_476, lit_1296, lit_2000, lit_2401, lt_def, bind_s, gd_d, ix_n, inb_n, nI_add, pk_mul, pk_sub, nI_leI, nI_ltI, nI_eq, nI_ltn, nI_eqn, nI_eqn2, if_pos, if_neg, if_true, if_false, nI_addm1, if_pos z]
    · right
      have : ¬ heldA A (dA A) = true := fun q => z (of_decide_eq_true q i hi)
      simp (disch := omega) only [lit_0, lit_1, lit_2, lit_3, lit_4, lit_5, lit_6, lit_7, lit_8, lit_9, lit_10, lit_11, lit_12, lit_13, lit_14, lit_15, lit_16, lit_17, lit_18, lit_19, lit_20, lit_23, lit_24, lit_31, lit_32, lit_34, lit_36, lit_40, lit_48, lit_49, lit_57, lit_58, lit_59, lit_60, lit_64, lit_96, lit_97, lit_99, lit_101, lit_105, lit_108, lit_110, lit_111, lit_112, lit_114, lit_115, lit_116, lit_122, lit_127, lit_160, lit_216, lit_235, lit_238, lit_343, lit_476, lit_1296, lit_2000, lit_2401, lt_def, bind_s, gd_d, ix_n, inb_n, nI_add, pk_mul, pk_sub, nI_leI, nI_ltI, nI_eq, nI_ltn, nI_eqn, nI_eqn2, if_pos, if_neg, if_true, if_false, nI_addm1, if_neg z, if_neg this]
  · simp (disch := omega) only [lit_0, lit_1, lit_2, lit_3, lit_4, lit_5, lit_6, lit_7, lit_8, lit_9, lit_10, lit_11, lit_12, lit_13, lit_14, lit_15, lit_16, lit_17, lit_18, lit_19, lit_20, lit_23, lit_24, lit_31, lit_32, lit_34, lit_36, lit_40, lit_48, lit_49, lit_57, lit_58, lit_59, lit_60, lit_64, lit_96, lit_97, lit_99, lit_101, lit_105, lit_108, lit_110, lit_111, lit_112, lit_114, lit_115, lit_116, lit_122, lit_127, lit_160, lit_216, lit_235, lit_238, lit_343, lit_476, lit_1296, lit_2000, lit_2401, lt_def, bind_s, gd_d, ix_n, inb_n, nI_add, pk_mul, pk_sub, nI_leI, nI_ltI, nI_eq, nI_ltn, nI_eqn, nI_eqn2, if_pos, if_neg, if_true, if_false, nI_addm1, R1.pl]
    rw [if_pos (show heldA A (dA A) = true from decide_eq_true hJ)]
theorem upx_upx (d : Nat → Nat) (t x y : Nat) : upx (upx d t x) t y = upx d t y := by
  funext u
  unfold upx
  by_cases e : u = t
  · rw [if_pos e, if_pos e]
  · rw [if_neg e, if_neg e, if_neg e]
theorem upx_at (d : Nat → Nat) (t x : Nat) : upx d t x t = x := if_pos rfl
theorem upx_ne (d : Nat → Nat) {t x u : Nat} (h : u ≠ t) : upx d t x u = d u := if_neg h
theorem DOk_upx (D : DOk A d) {t x : Nat} (h : x ≤ d t) : DOk A (upx d t x) := DOk_le D (fun u => by
  by_cases e : u = t
  · subst e; rw [upx_at]; exact h
  · rw [upx_ne d e]; exact Nat.le_refl _)
theorem goesAlone_ok (R : RepL μ k A) (O : OkA A) (D : DOk A d) (hR : RoomsOk μ A) (hL : LeftOk μ d) (hT : ThereOk μ A d) {t : Nat} (ht : t < A 4 0) : ∃ μ', fP_goesAlone k (nI t) μ = some (nI (if aloneA A d t then 1 else 0), μ') ∧ Off sLk μ μ' ∧ LeftOk μ' (if aloneA A d t then upx d t 0 else d) ∧ ThereOk μ' A (if aloneA A d t then upx d t 0 else d) := by
  have hn := O.n4
  have h5 := D.le5 O t
  have fin : ∀ (m : Mem) (e : Nat → Nat) (v : Nat), Off sLk μ m → DOk A e → LeftOk m e → (v = 0 ∨ v = 1) → ∃ μ', jP_goesAlone_69 k (nI v) m = some (nI v, μ') ∧ Off sLk μ μ' ∧ LeftOk μ' e ∧ ThereOk μ' A e := by
    intro m e v o De hLe hv
    have R1 := RepL_off o (fun _ _ => rfl) R
    obtain ⟨m1, e1, o1, t1⟩ := placeAll_ok R1 O De hLe
    unfold jP_goesAlone_69
    simp only [e1, bind_s]
    refine ⟨m1, ?_, Off_trans o (Off_mono o1 (fun r i h => ?_)), fun t ht => ?_, t1⟩
    · rcases hv with rfl | rfl <;> rfl
    · simp only [sLk, Bool.or_eq_false_iff] at h
      exact h.2
    · rw [o1 _ _ rfl]; exact hLe t ht
  unfold fP_goesAlone
  have hl := hL t (by omega)
  simp (disch := omega) only [lit_0, lit_1, lit_2, lit_3, lit_4, lit_5, lit_6, lit_7, lit_8, lit_9, lit_10, lit_11, lit_12, lit_13, lit_14, lit_15, lit_16, lit_17, lit_18, lit_19, lit_20, lit_23, lit_24, lit_31, lit_32, lit_34, lit_36, lit_40, lit_48, lit_49, lit_57, lit_58, lit_59, lit_60, lit_64, lit_96, lit_97, lit_99, lit_101, lit_105, lit_108, lit_110, lit_111, lit_112, lit_114, lit_115, lit_116, lit_122, lit_127, lit_160, lit_216, lit_235, lit_238, lit_343, lit_476, lit_1296, lit_2000, lit_2401, lt_def, bind_s, gd_d, ix_n, inb_n, nI_add, pk_mul, pk_sub, nI_leI, nI_ltI, nI_eq, nI_ltn, nI_eqn, nI_eqn2, if_pos, if_neg, if_true, if_false, nI_addm1, hl]
  refine up11 (B := bP_goesAlone_10 k (nI t) (nI (d t))) (fun r => ∃ μ', r = some (nI (if aloneA A d t then 1 else 0), μ') ∧ Off sLk μ μ' ∧ LeftOk μ' (if aloneA A d t then upx d t 0 else d) ∧ ThereOk μ' A (if aloneA A d t then upx d t 0 else d)) (d t) (by omega) (fun i m => Off sL4 μ m ∧ LeftOk m (upx d t (d t - i)) ∧ ∀ x, d t - i ≤ x → x < d t → canA A (upx d t (x + 1)) t = true) ⟨Off_refl _ _, by rw [Nat.sub_zero, upx_self]; exact hL, fun x h1 h2 => by omega⟩ (fun sf i m hi hJ => ?_) (fun sf m hJ => ?_) <;> unfold bP_goesAlone_10
  · obtain ⟨o1, L1, c1⟩ := hJ
    have R1 := RepL_off o1 (fun _ _ => rfl) R
    have hR1 := RoomsOk_off (A := A) o1 (fun _ => rfl) hR
    have hT1 : ThereOk m A d := fun p hp => (o1 _ _ rfl).trans (hT p hp)
    have hlm := L1 t (by omega)
    rw [upx_at] at hlm
    have cs := canStep_ok R1 O D ht (show d t - i ≤ d t by omega) hlm hT1 hR1
    by_cases c : canA A (upx d t (d t - i)) t = true
    · left
      simp (disch := omega) only [lit_0, lit_1, lit_2, lit_3, lit_4, lit_5, lit_6, lit_7, lit_8, lit_9, lit_10, lit_11, lit_12, lit_13, lit_14, lit_15, lit_16, lit_17, lit_18, lit_19, lit_20, lit_23, lit_24, lit_31, lit_32, lit_34, lit_36, lit_40, lit_48, lit_49, lit_57, lit_58, lit_59, lit_60, lit_64, lit_96, lit_97, lit_99, lit_101, lit_105, lit_108, lit_110, lit_111, lit_112, lit_114, lit_115, lit_116, lit_122, lit_127, lit_160, lit_216, lit_235, lit_238, lit_343, lit_476, lit_1296, lit_2000, lit_2401, lt_def, bind_s, gd_d, ix_n, inb_n, nI_add, pk_mul, pk_sub, nI_leI, nI_ltI, nI_eq, nI_ltn, nI_eqn, nI_eqn2, if_pos, if_neg, if_true, if_false, nI_addm1, cs, if_pos c, hlm]
      refine ⟨_, ⟨Off_wr o1 rfl, ?_, fun x h1 h2 => ?_⟩, rfl⟩
      · have := LeftOk_wr (t := t) (x := d t - i - 1) L1
        rw [upx_upx] at this
        have e : d t - i - 1 = d t - (i + 1) := by omega
        rw [e] at this ⊢
        exact this
      · by_cases e : x = d t - (i + 1)
        · have : x + 1 = d t - i := by omega
          rw [this]; exact c
        · exact c1 x (by omega) h2
    · right
      have na : ¬ aloneA A d t = true := fun q => c (by
        have := of_decide_eq_true q (d t - i - 1) (by omega)
        have e : d t - i - 1 + 1 = d t - i := by omega
        rw [e] at this; exact this)
      simp (disch := omega) only [lit_0, lit_1, lit_2, lit_3, lit_4, lit_5, lit_6, lit_7, lit_8, lit_9, lit_10, lit_11, lit_12, lit_13, lit_14, lit_15, lit_16, lit_17, lit_18, lit_19, lit_20, lit_23, lit_24, lit_31, lit_32, lit_34, lit_36, lit_40, lit_48, lit_49, lit_57, lit_58, lit_59, lit_60, lit_64, lit_96, lit_97, lit_99, lit_101, lit_105, lit_108, lit_110, lit_111, lit_112, lit_114, lit_115, lit_116, lit_122, lit_127, lit_160, lit_216, lit_235, lit_238, lit_343, lit_476, lit_1296, lit_2000, lit_2401, lt_def, bind_s, gd_d, ix_n, inb_n, nI_add, pk_mul, pk_sub, nI_leI, nI_ltI, nI_eq, nI_ltn, nI_eqn, nI_eqn2, if_pos, if_neg, if_true, if_false, nI_addm1, cs, if_neg c, hlm, jP_goesAlone_41, if_neg na]
      have e0 : ¬ (d t - i = 0) := by omega
      refine fin _ d 0 (Off_wr (Off_mono o1 (fun r i h => ?_)) rfl) D ?_ (Or.inl rfl)
      · simp only [sLk, Bool.or_eq_false_iff] at h
        exact h.1
      · have := LeftOk_wr (t := t) (x := d t) L1
        rw [upx_upx, upx_self] at this
        exact this
  · obtain ⟨o1, L1, c1⟩ := hJ
    rw [Nat.sub_self] at L1 c1
    have hlm := L1 t (by omega)
    rw [upx_at] at hlm
    have na : aloneA A d t = true := decide_eq_true (fun x hx => c1 x (by omega) hx)
    simp (disch := omega) only [lit_0, lit_1, lit_2, lit_3, lit_4, lit_5, lit_6, lit_7, lit_8, lit_9, lit_10, lit_11, lit_12, lit_13, lit_14, lit_15, lit_16, lit_17, lit_18, lit_19, lit_20, lit_23, lit_24, lit_31, lit_32, lit_34, lit_36, lit_40, lit_48, lit_49, lit_57, lit_58, lit_59, lit_60, lit_64, lit_96, lit_97, lit_99, lit_101, lit_105, lit_108, lit_110, lit_111, lit_112, lit_114, lit_115, lit_116, lit_122, lit_127, lit_160, lit_216, lit_235, lit_238, lit_343, lit_476, lit_1296, lit_2000, lit_2401, lt_def, bind_s, gd_d, ix_n, inb_n, nI_add, pk_mul, pk_sub, nI_leI, nI_ltI, nI_eq, nI_ltn, nI_eqn, nI_eqn2, if_pos, if_neg, if_true, if_false, nI_addm1, hlm, jP_goesAlone_41, if_pos na]
    refine fin _ (upx d t 0) 1 (Off_mono o1 (fun r i h => ?_)) (DOk_upx D (by omega)) L1 (Or.inr rfl)
    simp only [sLk, Bool.or_eq_false_iff] at h
    exact h.1
theorem firstToGo_ok (R : RepL μ k A) (O : OkA A) (D : DOk A d) (hR : RoomsOk μ A) (hL : LeftOk μ d) (hT : ThereOk μ A d) : ∃ μ', fP_firstToGoAlone k μ = some (if seqT A d < A 4 0 then nI (seqT A d) else -4, μ') ∧ Off sLk μ μ' ∧ LeftOk μ' (if seqT A d < A 4 0 then upx d (seqT A d) 0 else d) ∧ ThereOk μ' A (if seqT A d < A 4 0 then upx d (seqT A d) 0 else d) := by
  have hn := O.n4
  unfold fP_firstToGoAlone
  refine up11 (B := bP_firstToGoAlone_2 k) (fun r => ∃ μ', r = some (if seqT A d < A 4 0 then nI (seqT A d) else -4, μ') ∧ Off sLk μ μ' ∧ LeftOk μ' (if seqT A d < A 4 0 then upx d (seqT A d) 0 else d) ∧ ThereOk μ' A (if seqT A d < A 4 0 then upx d (seqT A d) 0 else d)) (A 4 0) (by omega) (fun i m => Off sLk μ m ∧ LeftOk m d ∧ ThereOk m A d ∧ ∀ j, j < i → (decide (0 < d j) && aloneA A d j) = false) ⟨Off_refl _ _, hL, hT, fun j hj => absurd hj (by omega)⟩ (fun sf i m hi hJ => ?_) (fun sf m hJ => ?_) <;> unfold bP_firstToGoAlone_2
  · obtain ⟨o1, L1, T1, c1⟩ := hJ
    have R1 := RepL_off o1 (fun _ _ => rfl) R
    have hR1 := RoomsOk_off (A := A) o1 (fun _ => rfl) hR
    have h5 := D.le5 O i
    have hli := L1 i (by omega)
    by_cases z : d i = 0
    · left
      simp (disch := omega) only [lit_0, lit_1, lit_2, lit_3, lit_4, lit_5, lit_6, lit_7, lit_8, lit_9, lit_10, lit_11, lit_12, lit_13, lit_14, lit_15, lit_16, lit_17, lit_18, lit_19, lit_20, lit_23, lit_24, lit_31, lit_32, lit_34, lit_36, lit_40, lit_48, lit_49, lit_57, lit_58, lit_59, lit_60, lit_64, lit_96, lit_97, lit_99, lit_101, lit_105, lit_108, lit_110, lit_111, lit_112, lit_114, lit_115, lit_116, lit_122, lit_127, lit_160, lit_216, lit_235, lit_238, lit_343, lit_476, lit_1296, lit_2000, lit_2401, lt_def, bind_s, gd_d, ix_n, inb_n, nI_add, pk_mul, pk_sub, nI_leI, nI_ltI, nI_eq, nI_ltn, nI_eqn, nI_eqn2, if_pos, if_neg, if_true, if_false, nI_addm1, R1.n, hli]
      refine ⟨m, ⟨o1, L1, T1, fun j hj => ?_⟩, rfl⟩
      by_cases e : j = i
      · subst e; simp [z]
      · exact c1 j (by omega)
    · obtain ⟨m2, e2, o2, L2, T2⟩ := goesAlone_ok R1 O D hR1 L1 T1 hi
      simp (disch := omega) only [lit_0, lit_1, lit_2, lit_3, lit_4, lit_5, lit_6, lit_7, lit_8, lit_9, lit_10, lit_11, lit_12, lit_13, lit_14, lit_15, lit_16, lit_17, lit_18, lit_19, lit_20, lit_23, lit_24, lit_31, lit_32, lit_34, lit_36, lit_40, lit_48, lit_49, lit_57, lit_58, lit_59, lit_60, lit_64, lit_96, lit_97, lit_99, lit_101, lit_105, lit_108, lit_110, lit_111, lit_112, lit_114, lit_115, lit_116, lit_122, lit_127, lit_160, lit_216, lit_235, lit_238, lit_343, lit_476, lit_1296, lit_2000, lit_2401, lt_def, bind_s, gd_d, ix_n, inb_n, nI_add, pk_mul, pk_sub, nI_leI, nI_ltI, nI_eq, nI_ltn, nI_eqn, nI_eqn2, if_pos, if_neg, if_true, if_false, nI_addm1, R1.n, hli, e2]
      by_cases a : aloneA A d i = true
      · right
        have hp : (decide (0 < d i) && aloneA A d i) = true := by rw [a]; simp; omega
        have e : seqT A d = i := fst_eq (p := fun t => decide (0 < d t) && aloneA A d t) hi c1 hp
        rw [if_pos a] at L2 T2
        simp (disch := omega) only [lit_0, lit_1, lit_2, lit_3, lit_4, lit_5, lit_6, lit_7, lit_8, lit_9, lit_10, lit_11, lit_12, lit_13, lit_14, lit_15, lit_16, lit_17, lit_18, lit_19, lit_20, lit_23, lit_24, lit_31, lit_32, lit_34, lit_36, lit_40, lit_48, lit_49, lit_57, lit_58, lit_59, lit_60, lit_64, lit_96, lit_97, lit_99, lit_101, lit_105, lit_108, lit_110, lit_111, lit_112, lit_114, lit_115, lit_116, lit_122, lit_127, lit_160, lit_216, lit_235, lit_238, lit_343, lit_476, lit_1296, lit_2000, lit_2401, lt_def, bind_s, gd_d, ix_n, inb_n, nI_add, pk_mul, pk_sub, nI_leI, nI_ltI, nI_eq, nI_ltn, nI_eqn, nI_eqn2, if_pos, if_neg, if_true, if_false, nI_addm1, e, if_pos a]
        exact ⟨m2, rfl, Off_trans o1 o2, L2, T2⟩
      · left
        rw [if_neg a] at L2 T2
        simp (disch := omega) only [lit_0, lit_1, lit_2, lit_3, lit_4, lit_5, lit_6, lit_7, lit_8, lit_9, lit_10, lit_11, lit_12, lit_13, lit_14, lit_15, lit_16, lit_17, lit_18, lit_19, lit_20, lit_23, lit_24, lit_31, lit_32, lit_34, lit_36, lit_40, lit_48, lit_49, lit_57, lit_58, lit_59, lit_60, lit_64, lit_96, lit_97, lit_99, lit_101, lit_105, lit_108, lit_110, lit_111, lit_112, lit_114, lit_115, lit_116, lit_122, lit_127, lit_160, lit_216, lit_235, lit_238, lit_343, lit_476, lit_1296, lit_2000, lit_2401, lt_def, bind_s, gd_d, ix_n, inb_n, nI_add, pk_mul, pk_sub, nI_leI, nI_ltI, nI_eq, nI_ltn, nI_eqn, nI_eqn2, if_pos, if_neg, if_true, if_false, nI_addm1, if_neg a]
        refine ⟨m2, ⟨Off_trans o1 o2, L2, T2, fun j hj => ?_⟩, rfl⟩
        by_cases e : j = i
        · subst e
          have : aloneA A d j = false := by simpa using a
          rw [this, Bool.and_false]
        · exact c1 j (by omega)
  · obtain ⟨o1, L1, T1, c1⟩ := hJ
    have R1 := RepL_off o1 (fun _ _ => rfl) R
    have e : seqT A d = A 4 0 := fst_none (p := fun t => decide (0 < d t) && aloneA A d t) c1
    simp (disch := omega) only [lit_0, lit_1, lit_2, lit_3, lit_4, lit_5, lit_6, lit_7, lit_8, lit_9, lit_10, lit_11, lit_12, lit_13, lit_14, lit_15, lit_16, lit_17, lit_18, lit_19, lit_20, lit_23, lit_24, lit_31, lit_32, lit_34, lit_36, lit_40, lit_48, lit_49, lit_57, lit_58, lit_59, lit_60, lit_64, lit_96, lit_97, lit_99, lit_101, lit_105, lit_108, lit_110, lit_111, lit_112, lit_114, lit_115, lit_116, lit_122, lit_127, lit_160, lit_216, lit_235, lit_238, lit_343, lit_476, lit_1296, lit_2000, lit_2401, lt_def, bind_s, gd_d, ix_n, inb_n, nI_add, pk_mul, pk_sub, nI_leI, nI_ltI, nI_eq, nI_ltn, nI_eqn, nI_eqn2, if_pos, if_neg, if_true, if_false, nI_addm1, R1.n, e]
    exact ⟨m, rfl, o1, L1, T1⟩
theorem seqD_le (A : Ab) : ∀ m t, seqD A m t ≤ dA A t
  | 0, t => Nat.le_refl _
  | m + 1, t => by
    show upx (seqD A m) (seqT A (seqD A m)) 0 t ≤ _
    by_cases e : t = seqT A (seqD A m)
    · subst e; rw [upx_at]; omega
    · rw [upx_ne _ e]; exact seqD_le A m t
def sRw : Rf → Nat → Bool := fun r _ => r == (1, 0, 4) || r == (1, 0, 5) || r == (1, 0, 6)
theorem goOneByOne_ok (R : RepL μ k A) (O : OkA A) (hR : RoomsOk μ A) : ∃ μ' M, fP_goOneByOne k μ = some (nI M, μ') ∧ Off sRw μ μ' ∧ SeqM A M ∧ M ≤ 4 ∧ ∀ j, j < M → μ' (1, 0, 6) j = nI (seqT A (seqD A j)) := by
  have hn := O.n4
  unfold fP_goOneByOne
  obtain ⟨m0, e0, o0, L0, T0⟩ := look_ok R O
  have sub : ∀ (r : Rf) (i : Nat), sRw r i = false → sLk r i = false := fun r i h => by
    simp only [sRw, sLk, Bool.or_eq_false_iff] at *
    exact h.1
  simp only [e0, bind_s, lt_def]
  refine up21 (B := bP_goOneByOne_9 k) (fun r => ∃ μ' M, r = some (nI M, μ') ∧ Off sRw μ μ' ∧ SeqM A M ∧ M ≤ 4 ∧ ∀ j, j < M → μ' (1, 0, 6) j = nI (seqT A (seqD A j))) (A 4 0) (by omega) (fun i a m => a = nI i ∧ Off sRw μ m ∧ LeftOk m (seqD A i) ∧ ThereOk m A (seqD A i) ∧ (∀ j, j < i → seqT A (seqD A j) < A 4 0) ∧ ∀ j, j < i → m (1, 0, 6) j = nI (seqT A (seqD A j))) ⟨rfl, Off_mono o0 sub, L0, T0, fun j hj => absurd hj (by omega), fun j hj => absurd hj (by omega)⟩ (fun sf i a m hi hJ => ?_) (fun sf a m hJ => ?_) <;> unfold bP_goOneByOne_9
  · obtain ⟨rfl, o1, L1, T1, v1, w1⟩ := hJ
    have R1 := RepL_off o1 (fun _ _ => rfl) R
    have hR1 := RoomsOk_off (A := A) o1 (fun _ => rfl) hR
    obtain ⟨m2, e2, o2, L2, T2⟩ := firstToGo_ok R1 O (DOk_le (DOk_dA O) (seqD_le A i)) hR1 L1 T1
    by_cases c : seqT A (seqD A i) < A 4 0
    · left
      rw [if_pos c] at L2 T2
      simp (disch := omega) only [lit_0, lit_1, lit_2, lit_3, lit_4, lit_5, lit_6, lit_7, lit_8, lit_9, lit_10, lit_11, lit_12, lit_13, lit_14, lit_15, lit_16, lit_17, lit_18, lit_19, lit_20, lit_23, lit_24, lit_31, lit_32, lit_34, lit_36, lit_40, lit_48, lit_49, lit_57, lit_58, lit_59, lit_60, lit_64, lit_96, lit_97, lit_99, lit_101, lit_105, lit_108, lit_110, lit_111, lit_112, lit_114, lit_115, lit_116, lit_122, lit_127, lit_160, lit_216, lit_235, lit_238, lit_343, lit_476, lit_1296, lit_2000, lit_2401, lt_def, bind_s, gd_d, ix_n, inb_n, nI_add, pk_mul, pk_sub, nI_leI, nI_ltI, nI_eq, nI_ltn, nI_eqn, nI_eqn2, if_pos, if_neg, if_true, if_false, nI_addm1, R1.n, e2, if_pos c]
      refine ⟨_, _, ⟨rfl, Off_wr (Off_trans o1 (Off_mono o2 sub)) rfl, fun t ht => ?_, fun p hp => ?_, fun j hj => ?_, fun j hj => ?_⟩, rfl⟩
      · rw [wr_off _ _ (by simp)]; exact L2 t ht
      · rw [wr_off _ _ (by simp)]; exact T2 p hp
      · by_cases e : j = i
        · subst e; exact c
        · exact v1 j (by omega)
      · rw [wr_get]
        by_cases e : j = i
        · subst e; rw [if_pos ⟨rfl, rfl⟩]
        · rw [if_neg (fun z => e z.2), o2 _ _ rfl]; exact w1 j (by omega)
    · right
      have hneg : ¬ (nI 0 ≤ -nI 4) := by decide +kernel
      simp (disch := omega) only [lit_0, lit_1, lit_2, lit_3, lit_4, lit_5, lit_6, lit_7, lit_8, lit_9, lit_10, lit_11, lit_12, lit_13, lit_14, lit_15, lit_16, lit_17, lit_18, lit_19, lit_20, lit_23, lit_24, lit_31, lit_32, lit_34, lit_36, lit_40, lit_48, lit_49, lit_57, lit_58, lit_59, lit_60, lit_64, lit_96, lit_97, lit_99, lit_101, lit_105, lit_108, lit_110, lit_111, lit_112, lit_114, lit_115, lit_116, lit_122, lit_127, lit_160, lit_216, lit_235, lit_238, lit_343, lit_476, lit_1296, lit_2000, lit_2401, lt_def, bind_s, gd_d, ix_n, inb_n, nI_add, pk_mul, pk_sub, nI_leI, nI_ltI, nI_eq, nI_ltn, nI_eqn, nI_eqn2, if_pos, if_neg, if_true, if_false, nI_addm1, R1.n, e2, if_neg c, if_neg hneg]
      exact ⟨m2, i, rfl, Off_trans o1 (Off_mono o2 sub), ⟨v1, c⟩, by omega, fun j hj => by rw [o2 _ _ rfl]; exact w1 j hj⟩
  · obtain ⟨rfl, o1, L1, T1, v1, w1⟩ := hJ
    have R1 := RepL_off o1 (fun _ _ => rfl) R
    simp (disch := omega) only [lit_0, lit_1, lit_2, lit_3, lit_4, lit_5, lit_6, lit_7, lit_8, lit_9, lit_10, lit_11, lit_12, lit_13, lit_14, lit_15, lit_16, lit_17, lit_18, lit_19, lit_20, lit_23, lit_24, lit_31, lit_32, lit_34, lit_36, lit_40, lit_48, lit_49, lit_57, lit_58, lit_59, lit_60, lit_64, lit_96, lit_97, lit_99, lit_101, lit_105, lit_108, lit_110, lit_111, lit_112, lit_114, lit_115, lit_116, lit_122, lit_127, lit_160, lit_216, lit_235, lit_238, lit_343, lit_476, lit_1296, lit_2000, lit_2401, lt_def, bind_s, gd_d, ix_n, inb_n, nI_add, pk_mul, pk_sub, nI_leI, nI_ltI, nI_eq, nI_ltn, nI_eqn, nI_eqn2, if_pos, if_neg, if_true, if_false, nI_addm1, R1.n]
    exact ⟨m, A 4 0, rfl, o1, ⟨v1, seq_end v1⟩, hn, w1⟩
end Alone
