theorem dn21 {τ : Type} {B : (Int32 → Int32 → Mem → Option τ) → Int32 → Int32 → Mem → Option τ} (Q : Option τ → Prop) (J : Nat → Int32 → Mem → Prop) (hs : ∀ sf c a m, J (c + 1) a m → (∃ a' m', J c a' m' ∧ B sf a (nI c) m = sf a' (nI c + (-1)) m') ∨ Q (B sf a (nI c) m)) (he : ∀ sf a m, J 0 a m → Q (B sf a (-1) m)) : ∀ (n c : Nat) (a : Int32) (m : Mem), c < n → J c a m → Q (lz21 B n a (nI c + (-1)) m)
  | 0, c, a, m, h, _ => absurd h (by omega)
  | n + 1, 0, a, m, h, hJ => by
    show Q (B (lz21 B n) a (nI 0 + (-1)) m)
    exact he _ a m hJ
  | n + 1, c + 1, a, m, h, hJ => by
    show Q (B (lz21 B n) a (nI (c + 1) + (-1)) m)
    rw [pk_m1]
    rcases hs (lz21 B n) c a m hJ with ⟨a', m', h1, h2⟩ | h1
    · rw [h2]
      exact dn21 Q J hs he n c a' m' (by omega) h1
    · exact h1
theorem dn11 {τ : Type} {B : (Int32 → Mem → Option τ) → Int32 → Mem → Option τ} (Q : Option τ → Prop) (J : Nat → Mem → Prop) (hs : ∀ sf c m, J (c + 1) m → (∃ m', J c m' ∧ B sf (nI c) m = sf (nI c + (-1)) m') ∨ Q (B sf (nI c) m)) (he : ∀ sf m, J 0 m → Q (B sf (-1) m)) : ∀ (n c : Nat) (m : Mem), c < n → J c m → Q (lz11 B n (nI c + (-1)) m)
  | 0, c, m, h, _ => absurd h (by omega)
  | n + 1, 0, m, h, hJ => by
    show Q (B (lz11 B n) (nI 0 + (-1)) m)
    exact he _ m hJ
  | n + 1, c + 1, m, h, hJ => by
    show Q (B (lz11 B n) (nI (c + 1) + (-1)) m)
    rw [pk_m1]
    rcases hs (lz11 B n) c m hJ with ⟨m', h1, h2⟩ | h1
    · rw [h2]
      exact dn11 Q J hs he n c m' (by omega) h1
    · exact h1
noncomputable def rB (A : Ab) (d0 : Nat → Nat) (so : Nat) (c : Nat) : Bool := @decide (∃ e, Rch A d0 e ∧ code6 e = c ∧ (so = 1 → SafeA A e)) (Classical.propDecidable _)
theorem rB_iff {A : Ab} {d0 : Nat → Nat} {so c : Nat} : rB A d0 so c = true ↔ ∃ e, Rch A d0 e ∧ code6 e = c ∧ (so = 1 → SafeA A e) := @decide_eq_true_iff _ (Classical.propDecidable _)
theorem code6_inj {A : Ab} (O : OkA A) {d e : Nat → Nat} (D : DOk A d) (E : DOk A e) (h : code6 d = code6 e) : d = e := by
  have hn := O.n4
  have d0 := D.le5 O 0
  have d1 := D.le5 O 1
  have d2 := D.le5 O 2
  have d3 := D.le5 O 3
  have e0 := E.le5 O 0
  have e1 := E.le5 O 1
  have e2 := E.le5 O 2
  have e3 := E.le5 O 3
  unfold code6 at h
  funext t
  by_cases z : t < 4
  · have : t = 0 ∨ t = 1 ∨ t = 2 ∨ t = 3 := by omega
    rcases this with rfl | rfl | rfl | rfl <;> omega
  · rw [D.2 t (by omega), E.2 t (by omega)]
def sSn : Rf → Nat → Bool := fun r _ => r == (1, 0, 3) || r == (1, 0, 4) || r == (1, 0, 5)
theorem nar_y1 : vp_nar .byte (nI 1) = nI 1 := by decide +kernel
theorem nar_y0 : vp_nar .byte (nI 0) = nI 0 := by decide +kernel
theorem u6_pos (t : Nat) : 0 < u6 t ∧ u6 t ≤ 216 := by
  unfold u6
  split
  · omega
  split
  · omega
  split <;> omega
theorem dig6 {A : Ab} (O : OkA A) {e : Nat → Nat} (D : DOk A e) {t : Nat} (ht : t < 4) : code6 e / u6 t % 6 = e t := by
  have e0 := D.le5 O 0
  have e1 := D.le5 O 1
  have e2 := D.le5 O 2
  have e3 := D.le5 O 3
  unfold code6 u6
  have : t = 0 ∨ t = 1 ∨ t = 2 ∨ t = 3 := by omega
  rcases this with rfl | rfl | rfl | rfl
  · simp; omega
  · simp; omega
  · simp; omega
  · simp; omega
section Reach
variable {μ : Mem} {k : Nat} {A : Ab} {e : Nat → Nat}
theorem markNext_ok (R : RepL μ k A) (O : OkA A) (D : DOk A e) (hR : RoomsOk μ A) : ∃ μ', fP_markNext k (nI (code6 e)) μ = some μ' ∧ Off sSn μ μ' ∧ (∀ x, μ' (1, 0, 3) x = μ (1, 0, 3) x ∨ (μ' (1, 0, 3) x = nI 1 ∧ ∃ t, t < A 4 0 ∧ canA A e t = true ∧ x = code6 (dec e t))) ∧ ∀ t, t < A 4 0 → canA A e t = true → μ' (1, 0, 3) (code6 (dec e t)) = nI 1 := by
  have hn := O.n4
  have hc := code6_lt O D
  unfold fP_markNext
  refine up11 (B := bP_markNext_2 k (nI (code6 e))) (fun r => ∃ μ', r = some μ' ∧ Off sSn μ μ' ∧ (∀ x, μ' (1, 0, 3) x = μ (1, 0, 3) x ∨ (μ' (1, 0, 3) x = nI 1 ∧ ∃ t, t < A 4 0 ∧ canA A e t = true ∧ x = code6 (dec e t))) ∧ ∀ t, t < A 4 0 → canA A e t = true → μ' (1, 0, 3) (code6 (dec e t)) = nI 1) 4 (by omega) (fun i m => Off sL4 μ m ∧ ∀ t, t < i → m (1, 0, 4) t = nI (e t)) ⟨Off_refl _ _, fun j hj => absurd hj (by omega)⟩ (fun sf i m hi hJ => ?_) (fun sf m hJ => ?_) <;> unfold bP_markNext_2
  · obtain ⟨o1, l1⟩ := hJ
    have hu := u6_pos i
    left
    have g1 : (!(nI (u6 i) == nI 0)) = true := by
      rw [Bool.not_eq_true', beq_eq_false_iff_ne]
      intro z
      have := (nI_eq (by omega) (by omega)).mp z
      omega
    have g2 : (!(nI 6 == nI 0)) = true := by decide +kernel
    have g3 : nI (code6 e) / nI (u6 i) - nI (code6 e) / nI (u6 i) / nI 6 * nI 6 = nI (e i) := by
      rw [pk_div (by omega) hu.1 (by omega), pk_rem (by have := Nat.div_le_self (code6 e) (u6 i); omega) (by omega) (by omega), dig6 O D hi]
    have g4 : (!(6 == 0)) = true := rfl
    simp (disch := omega) only [lit_0, lit_1, lit_2, lit_3, lit_4, lit_5, lit_6, lit_7, lit_8, lit_9, lit_10, lit_11, lit_12, lit_13, lit_14, lit_15, lit_16, lit_17, lit_18, lit_19, lit_20, lit_23, lit_24, lit_31, lit_32, lit_34, lit_36, lit_40, lit_48, lit_49, lit_57, lit_58, lit_59, lit_60, lit_64, lit_96, lit_97, lit_99, lit_101, lit_105, lit_108, lit_110, lit_111, lit_112, lit_114, lit_115, lit_116, lit_122, lit_127, lit_160, lit_216, lit_235, lit_238, lit_343, lit_476, lit_1296, lit_2000, lit_2401, lt_def, bind_s, gd_d, ix_n, inb_n, nI_add, pk_mul, pk_sub, nI_leI, nI_ltI, nI_eq, nI_ltn, nI_eqn, nI_eqn2, if_pos, if_neg, if_true, if_false, nI_addm1, unitV_n, g1, g2, g4, g3, gd_tt]
    refine ⟨_, ⟨Off_wr o1 rfl, fun t ht => ?_⟩, rfl⟩
    rw [wr_get]
    by_cases q : t = i
    · subst q; rw [if_pos ⟨rfl, rfl⟩]
    · rw [if_neg (fun z => q z.2)]; exact l1 t (by omega)
  · obtain ⟨o1, l1⟩ := hJ
    have R1 := RepL_off o1 (fun _ _ => rfl) R
    obtain ⟨m2, e2, o2, t2⟩ := placeAll_ok R1 O D l1
    have o3 : Off sSn μ m2 := Off_trans (Off_mono o1 (fun r i h => by simp only [sSn, Bool.or_eq_false_iff] at h; exact h.1.2)) (Off_mono o2 (fun r i h => by simp only [sSn, Bool.or_eq_false_iff] at h; exact h.2))
    have s3 : ∀ x, m2 (1, 0, 3) x = μ (1, 0, 3) x := fun x => (o2 _ _ rfl).trans (o1 _ _ rfl)
    have L2 : LeftOk m2 e := fun t ht => (o2 _ _ rfl).trans (l1 t ht)
    simp (disch := omega) only [lit_0, lit_1, lit_2, lit_3, lit_4, lit_5, lit_6, lit_7, lit_8, lit_9, lit_10, lit_11, lit_12, lit_13, lit_14, lit_15, lit_16, lit_17, lit_18, lit_19, lit_20, lit_23, lit_24, lit_31, lit_32, lit_34, lit_36, lit_40, lit_48, lit_49, lit_57, lit_58, lit_59, lit_60, lit_64, lit_96, lit_97, lit_99, lit_101, lit_105, lit_108, lit_110, lit_111, lit_112, lit_114, lit_115, lit_116, lit_122, lit_127, lit_160, lit_216, lit_235, lit_238, lit_343, lit_476, lit_1296, lit_2000, lit_2401, lt_def, bind_s, gd_d, ix_n, inb_n, nI_add, pk_mul, pk_sub, nI_leI, nI_ltI, nI_eq, nI_ltn, nI_eqn, nI_eqn2, if_pos, if_neg, if_true, if_false, nI_addm1, jP_markNext_29, e2]
    refine up11 (B := bP_markNext_36 k (nI (code6 e))) (fun r => ∃ μ', r = some μ' ∧ Off sSn μ μ' ∧ (∀ x, μ' (1, 0, 3) x = μ (1, 0, 3) x ∨ (μ' (1, 0, 3) x = nI 1 ∧ ∃ t, t < A 4 0 ∧ canA A e t = true ∧ x = code6 (dec e t))) ∧ ∀ t, t < A 4 0 → canA A e t = true → μ' (1, 0, 3) (code6 (dec e t)) = nI 1) (A 4 0) (by omega) (fun i m => Off sSn μ m ∧ LeftOk m e ∧ ThereOk m A e ∧ (∀ x, m (1, 0, 3) x = μ (1, 0, 3) x ∨ (m (1, 0, 3) x = nI 1 ∧ ∃ t, t < A 4 0 ∧ canA A e t = true ∧ x = code6 (dec e t))) ∧ ∀ t, t < i → canA A e t = true → m (1, 0, 3) (code6 (dec e t)) = nI 1) ⟨o3, L2, t2, fun x => Or.inl (s3 x), fun j hj => absurd hj (by omega)⟩ (fun sf i m hi hJ => ?_) (fun sf m hJ => ?_) <;> unfold bP_markNext_36
    · obtain ⟨a1, a2, a3, a4, a5⟩ := hJ
      have R4 := RepL_off a1 (fun _ _ => rfl) R
      have hR4 := RoomsOk_off (A := A) a1 (fun _ => rfl) hR
      have cs := canStep_ok R4 O D hi (Nat.le_refl (e i)) (a2 i (by omega)) a3 hR4
      rw [upx_self] at cs
      left
      by_cases c : canA A e i = true
      · have hu := code6_dec (d := e) (show i < 4 by omega) (can_pos c)
        have hp := u6_pos i
        simp (disch := omega) only [lit_0, lit_1, lit_2, lit_3, lit_4, lit_5, lit_6, lit_7, lit_8, lit_9, lit_10, lit_11, lit_12, lit_13, lit_14, lit_15, lit_16, lit_17, lit_18, lit_19, lit_20, lit_23, lit_24, lit_31, lit_32, lit_34, lit_36, lit_40, lit_48, lit_49, lit_57, lit_58, lit_59, lit_60, lit_64, lit_96, lit_97, lit_99, lit_101, lit_105, lit_108, lit_110, lit_111, lit_112, lit_114, lit_115, lit_116, lit_122, lit_127, lit_160, lit_216, lit_235, lit_238, lit_343, lit_476, lit_1296, lit_2000, lit_2401, lt_def, bind_s, gd_d, ix_n, inb_n, nI_add, pk_mul, pk_sub, nI_leI, nI_ltI, nI_eq, nI_ltn, nI_eqn, nI_eqn2, if_pos, if_neg, if_true, if_false, nI_addm1, R4.n, cs, if_pos c, unitV_n, nar_y1]
        have ee : code6 e - u6 i = code6 (dec e i) := by omega
        refine ⟨_, ⟨Off_wr a1 rfl, fun t ht => ?_, fun p hp => ?_, fun x => ?_, fun t ht hc => ?_⟩, rfl⟩
        · rw [wr_off _ _ (by simp)]; exact a2 t ht
        · rw [wr_off _ _ (by simp)]; exact a3 p hp
        · rw [wr_get]
          by_cases q : x = code6 e - u6 i
          · rw [if_pos ⟨rfl, q⟩]; exact Or.inr ⟨rfl, i, hi, c, by omega⟩
          · rw [if_neg (fun z => q z.2)]; exact a4 x
        · rw [wr_get]
          by_cases q : code6 (dec e t) = code6 e - u6 i
          · rw [if_pos ⟨rfl, q⟩]
          · rw [if_neg (fun z => q z.2)]
            exact a5 t (by
              by_cases w : t = i
              · subst w; omega
              · omega) hc
      · simp (disch := omega) only [lit_0, lit_1, lit_2, lit_3, lit_4, lit_5, lit_6, lit_7, lit_8, lit_9, lit_10, lit_11, lit_12, lit_13, lit_14, lit_15, lit_16, lit_17, lit_18, lit_19, lit_20, lit_23, lit_24, lit_31, lit_32, lit_34, lit_36, lit_40, lit_48, lit_49, lit_57, lit_58, lit_59, lit_60, lit_64, lit_96, lit_97, lit_99, lit_101, lit_105, lit_108, lit_110, lit_111, lit_112, lit_114, lit_115, lit_116, lit_122, lit_127, lit_160, lit_216, lit_235, lit_238, lit_343, lit_476, lit_1296, lit_2000, lit_2401, lt_def, bind_s, gd_d, ix_n, inb_n, nI_add, pk_mul, pk_sub, nI_leI, nI_ltI, nI_eq, nI_ltn, nI_eqn, nI_eqn2, if_pos, if_neg, if_true, if_false, nI_addm1, R4.n, cs, if_neg c]
        refine ⟨m, ⟨a1, a2, a3, a4, fun t ht hc => ?_⟩, rfl⟩
        by_cases w : t = i
        · subst w; exact absurd hc c
        · exact a5 t (by omega) hc
    · obtain ⟨a1, a2, a3, a4, a5⟩ := hJ
      have R4 := RepL_off a1 (fun _ _ => rfl) R
      simp (disch := omega) only [lit_0, lit_1, lit_2, lit_3, lit_4, lit_5, lit_6, lit_7, lit_8, lit_9, lit_10, lit_11, lit_12, lit_13, lit_14, lit_15, lit_16, lit_17, lit_18, lit_19, lit_20, lit_23, lit_24, lit_31, lit_32, lit_34, lit_36, lit_40, lit_48, lit_49, lit_57, lit_58, lit_59, lit_60, lit_64, lit_96, lit_97, lit_99, lit_101, lit_105, lit_108, lit_110, lit_111, lit_112, lit_114, lit_115, lit_116, lit_122, lit_127, lit_160, lit_216, lit_235, lit_238, lit_343, lit_476, lit_1296, lit_2000, lit_2401, lt_def, bind_s, gd_d, ix_n, inb_n, nI_add, pk_mul, pk_sub, nI_leI, nI_ltI, nI_eq, nI_ltn, nI_eqn, nI_eqn2, if_pos, if_neg, if_true, if_false, nI_addm1, R4.n]
      exact ⟨m, rfl, a1, a4, a5⟩
theorem fill3_ok (μ : Mem) : ∃ μ', fJ_fill_1_3 0 (nI 0) μ = some μ' ∧ Off sSn μ μ' ∧ ∀ p, p < 1296 → μ' (1, 0, 3) p = nI 0 := by
  unfold fJ_fill_1_3
  simp only [lt_def, lit_0, lit_1296]
  refine up11 (B := bJ_fill_1_3_5 0 (nI 0) (nI 1296)) (fun r => ∃ μ', r = some μ' ∧ Off sSn μ μ' ∧ ∀ p, p < 1296 → μ' (1, 0, 3) p = nI 0) 1296 (by omega) (fun i m => Off sSn μ m ∧ ∀ p, p < i → m (1, 0, 3) p = nI 0) ⟨Off_refl _ _, fun j hj => absurd hj (by omega)⟩ (fun sf i m hi hJ => ?_) (fun sf m hJ => ?_) <;> unfold bJ_fill_1_3_5
  · left
    simp (disch := omega) only [lit_0, lit_1, lit_2, lit_3, lit_4, lit_5, lit_6, lit_7, lit_8, lit_9, lit_10, lit_11, lit_12, lit_13, lit_14, lit_15, lit_16, lit_17, lit_18, lit_19, lit_20, lit_23, lit_24, lit_31, lit_32, lit_34, lit_36, lit_40, lit_48, lit_49, lit_57, lit_58, lit_59, lit_60, lit_64, lit_96, lit_97, lit_99, lit_101, lit_105, lit_108, lit_110, lit_111, lit_112, lit_114, lit_115, lit_116, lit_122, lit_127, lit_160, lit_216, lit_235, lit_238, lit_343, lit_476, lit_1296, lit_2000, lit_2401, lt_def, bind_s, gd_d, ix_n, inb_n, nI_add, pk_mul, pk_sub, nI_leI, nI_ltI, nI_eq, nI_ltn, nI_eqn, nI_eqn2, if_pos, if_neg, if_true, if_false, nI_addm1, nar_y0]
    refine ⟨_, ⟨Off_wr hJ.1 rfl, fun p hp => ?_⟩, rfl⟩
    rw [wr_get]
    by_cases e : p = i
    · subst e; rw [if_pos ⟨rfl, rfl⟩]
    · rw [if_neg (fun z => e z.2)]; exact hJ.2 p (by omega)
  · simp (disch := omega) only [lit_0, lit_1, lit_2, lit_3, lit_4, lit_5, lit_6, lit_7, lit_8, lit_9, lit_10, lit_11, lit_12, lit_13, lit_14, lit_15, lit_16, lit_17, lit_18, lit_19, lit_20, lit_23, lit_24, lit_31, lit_32, lit_34, lit_36, lit_40, lit_48, lit_49, lit_57, lit_58, lit_59, lit_60, lit_64, lit_96, lit_97, lit_99, lit_101, lit_105, lit_108, lit_110, lit_111, lit_112, lit_114, lit_115, lit_116, lit_122, lit_127, lit_160, lit_216, lit_235, lit_238, lit_343, lit_476, lit_1296, lit_2000, lit_2401, lt_def, bind_s, gd_d, ix_n, inb_n, nI_add, pk_mul, pk_sub, nI_leI, nI_ltI, nI_eq, nI_ltn, nI_eqn, nI_eqn2, if_pos, if_neg, if_true, if_false, nI_addm1]
    exact ⟨m, rfl, hJ.1, hJ.2⟩
theorem reached_ok (R : RepL μ k A) (O : OkA A) (hR : RoomsOk μ A) (hE : EndsOk μ A) {so : Nat} (hso : so ≤ 1) : ∃ μ', fP_reached k (nI so) μ = some (nI (cnt (rB A (dA A) so) 1296), μ') ∧ Off sSn μ μ' := by
  have hn := O.n4
  have D := DOk_dA O
  have hc := code6_lt O D
  obtain ⟨m1, e1, o1, z1⟩ := fill3_ok μ
  have R1 := RepL_off o1 (fun _ _ => rfl) R
  obtain ⟨m2, e2, o2, L2, T2⟩ := look_ok R1 O
  have o12 : Off sSn μ m2 := Off_trans o1 (Off_mono o2 (fun r i h => by
    simp only [sSn, sLk, Bool.or_eq_false_iff] at *; exact ⟨h.1.2, h.2⟩))
  unfold fP_reached
  simp (disch := omega) only [lit_0, lit_1, lit_2, lit_3, lit_4, lit_5, lit_6, lit_7, lit_8, lit_9, lit_10, lit_11, lit_12, lit_13, lit_14, lit_15, lit_16, lit_17, lit_18, lit_19, lit_20, lit_23, lit_24, lit_31, lit_32, lit_34, lit_36, lit_40, lit_48, lit_49, lit_57, lit_58, lit_59, lit_60, lit_64, lit_96, lit_97, lit_99, lit_101, lit_105, lit_108, lit_110, lit_111, lit_112, lit_114, lit_115, lit_116, lit_122, lit_127, lit_160, lit_216, lit_235, lit_238, lit_343, lit_476, lit_1296, lit_2000, lit_2401, lt_def, bind_s, gd_d, ix_n, inb_n, nI_add, pk_mul, pk_sub, nI_leI, nI_ltI, nI_eq, nI_ltn, nI_eqn, nI_eqn2, if_pos, if_neg, if_true, if_false, nI_addm1, e1, e2, code_ok L2, nar_y1]
  have hi0 : nI (code6 (dA A)) = nI (code6 (dA A) + 1) + (-1) := (pk_m1 _).symm
  rw [hi0]
  refine dn21 (B := bP_reached_31 k (nI so)) (fun r => ∃ μ', r = some (nI (cnt (rB A (dA A) so) 1296), μ') ∧ Off sSn μ μ') (fun c a m => ∃ N, a = nI N ∧ N + cnt (rB A (dA A) so) c = cnt (rB A (dA A) so) 1296 ∧ N ≤ 1296 ∧ c ≤ 1296 ∧ Off sSn μ m ∧ (∀ x, x < 1296 → m (1, 0, 3) x = nI 0 ∨ m (1, 0, 3) x = nI 1) ∧ (∀ x, x < 1296 → m (1, 0, 3) x = nI 1 → ∃ e, Rch A (dA A) e ∧ code6 e = x) ∧ m (1, 0, 3) (code6 (dA A)) = nI 1 ∧ ∀ e t, Rch A (dA A) e → c ≤ code6 e → t < A 4 0 → canA A e t = true → m (1, 0, 3) (code6 (dec e t)) = nI 1) (fun sf c a m hJ => ?_) (fun sf a m hJ => ?_) FU _ _ _ (FU_gt (by omega)) ?_
  · obtain ⟨N, rfl, hN, hN2, hc1, o3, b3, r3, s3, p3⟩ := hJ
    have R3 := RepL_off o3 (fun _ _ => rfl) R
    have hR3 := RoomsOk_off (A := A) o3 (fun _ => rfl) hR
    have hE3 := EndsOk_off (A := A) o3 (fun _ => rfl) hE
    have hr : (∃ e, Rch A (dA A) e ∧ code6 e = c) → m (1, 0, 3) c = nI 1 := by
      rintro ⟨e, he, rfl⟩
      rcases Rch_last he with q | ⟨f, t, ht, hf, hcf, rfl⟩
      · rw [← q]; exact s3
      · have hu := code6_dec (d := f) (show t < 4 by omega) (can_pos hcf)
        have hp := u6_pos t
        exact p3 f t hf (by omega) ht hcf
    unfold bP_reached_31
    left
    rw [cnt_s] at hN
    rcases b3 c (by omega) with q | q
    · have nr : ¬ ∃ e, Rch A (dA A) e ∧ code6 e = c := fun z => by
        have := hr z
        rw [q] at this
        exact absurd this (by decide +kernel)
      have hf : rB A (dA A) so c = false := by
        cases w : rB A (dA A) so c with
        | false => rfl
        | true => obtain ⟨e, h1, h2, _⟩ := rB_iff.mp w; exact absurd ⟨e, h1, h2⟩ nr
      rw [hf] at hN
      simp (disch := omega) only [lit_0, lit_1, lit_2, lit_3, lit_4, lit_5, lit_6, lit_7, lit_8, lit_9, lit_10, lit_11, lit_12, lit_13, lit_14, lit_15, lit_16, lit_17, lit_18, lit_19, lit_20, lit_23, lit_24, lit_31, lit_32, lit_34, lit_36, lit_40, lit_48, lit_49, lit_57, lit_58, lit_59, lit_60, lit_64, lit_96, lit_97, lit_99, lit_101, lit_105, lit_108, lit_110, lit_111, lit_112, lit_114, lit_115, lit_116, lit_122, lit_127, lit_160, lit_216, lit_235, lit_238, lit_343, lit_476, lit_1296, lit_2000, lit_2401, lt_def, bind_s, gd_d, ix_n, inb_n, nI_add, pk_mul, pk_sub, nI_leI, nI_ltI, nI_eq, nI_ltn, nI_eqn, nI_eqn2, if_pos, if_neg, if_true, if_false, nI_addm1, q]
      refine ⟨_, m, ⟨N, rfl, by simpa using hN, hN2, by omega, o3, b3, r3, s3, fun e t h1 h2 h3 h4 => ?_⟩, rfl⟩
      by_cases w : code6 e = c
      · exact absurd ⟨e, h1, w⟩ nr
      · exact p3 e t h1 (by omega) h3 h4
    · obtain ⟨e, he, hec⟩ := r3 c (by omega) q
      have De : DOk A e := DOk_le D (Rch_le he)
      obtain ⟨x, x1, x2, x3, x4⟩ := hE3 e (Rch_le he)
      rw [hec] at x1
      have h16 := nI_and16 x x2
      obtain ⟨m4, e4, o4, f4, g4⟩ := markNext_ok R3 O De hR3
      rw [hec] at e4
      have un : ∀ f, Rch A (dA A) f → code6 f = c → f = e := fun f hf hfc => code6_inj O (DOk_le D (Rch_le hf)) De (by rw [hfc, hec])
      have rest : ∀ v, (rB A (dA A) so c = true ↔ v = 1) → v ≤ 1 → ∃ a' m', (∃ N, a' = nI N ∧ N + cnt (rB A (dA A) so) c = cnt (rB A (dA A) so) 1296 ∧ N ≤ 1296 ∧ c ≤ 1296 ∧ Off sSn μ m' ∧ (∀ x, x < 1296 → m' (1, 0, 3) x = nI 0 ∨ m' (1, 0, 3) x = nI 1) ∧ (∀ x, x < 1296 → m' (1, 0, 3) x = nI 1 → ∃ e, Rch A (dA A) e ∧ code6 e = x) ∧ m' (1, 0, 3) (code6 (dA A)) = nI 1 ∧ ∀ e t, Rch A (dA A) e → c ≤ code6 e → t < A 4 0 → canA A e t = true → m' (1, 0, 3) (code6 (dec e t)) = nI 1) ∧ jP_reached_70 k sf (nI N) (nI c) m (nI v) = sf a' (nI c + (-1)) m' := by
        intro v hv hv1
        unfold jP_reached_70
        simp only [lt_def, bind_s, e4, nI_add]
        have hl := cnt_le (rB A (dA A) so) 1296
        refine ⟨_, m4, ⟨N + v, rfl, ?_, ?_, by omega, Off_trans o3 o4, fun x hx => ?_, fun x hx h1 => ?_, ?_, fun f t h1 h2 h3 h4 => ?_⟩, rfl⟩
        · by_cases w : rB A (dA A) so c = true
          · rw [if_pos w] at hN; have := hv.mp w; omega
          · rw [if_neg w] at hN
            have : v ≠ 1 := fun z => w (hv.mpr z)
            omega
        · by_cases w : rB A (dA A) so c = true
          · rw [if_pos w] at hN; omega
          · have : v ≠ 1 := fun z => w (hv.mpr z)
            omega
        · rcases f4 x with w | w
          · rw [w]; exact b3 x hx
          · exact Or.inr w.1
        · rcases f4 x with w | ⟨w, t, ht, hct, rfl⟩
          · rw [w] at h1; exact r3 x hx h1
          · exact ⟨dec e t, Rch_tail he ht hct, rfl⟩
        · rcases f4 (code6 (dA A)) with w | w
          · rw [w]; exact s3
          · exact w.1
        · by_cases w : code6 f = c
          · have := un f h1 w
            subst this
            exact g4 t h3 h4
          · rcases f4 (code6 (dec f t)) with y | y
            · rw [y]; exact p3 f t h1 (by omega) h3 h4
            · exact y.1
      by_cases s0 : so = 0
      · subst s0
        have := rest 1 ⟨fun _ => rfl, fun _ => rB_iff.mpr ⟨e, he, hec, fun z => by omega⟩⟩ (by omega)
        simp (disch := omega) only [lit_0, lit_1, lit_2, lit_3, lit_4, lit_5, lit_6, lit_7, lit_8, lit_9, lit_10, lit_11, lit_12, lit_13, lit_14, lit_15, lit_16, lit_17, lit_18, lit_19, lit_20, lit_23, lit_24, lit_31, lit_32, lit_34, lit_36, lit_40, lit_48, lit_49, lit_57, lit_58, lit_59, lit_60, lit_64, lit_96, lit_97, lit_99, lit_101, lit_105, lit_108, lit_110, lit_111, lit_112, lit_114, lit_115, lit_116, lit_122, lit_127, lit_160, lit_216, lit_235, lit_238, lit_343, lit_476, lit_1296, lit_2000, lit_2401, lt_def, bind_s, gd_d, ix_n, inb_n, nI_add, pk_mul, pk_sub, nI_leI, nI_ltI, nI_eq, nI_ltn, nI_eqn, nI_eqn2, if_pos, if_neg, if_true, if_false, nI_addm1, q]
        exact this
      · have s1 : so = 1 := by omega
        subst s1
        simp (disch := omega) only [lit_0, lit_1, lit_2, lit_3, lit_4, lit_5, lit_6, lit_7, lit_8, lit_9, lit_10, lit_11, lit_12, lit_13, lit_14, lit_15, lit_16, lit_17, lit_18, lit_19, lit_20, lit_23, lit_24, lit_31, lit_32, lit_34, lit_36, lit_40, lit_48, lit_49, lit_57, lit_58, lit_59, lit_60, lit_64, lit_96, lit_97, lit_99, lit_101, lit_105, lit_108, lit_110, lit_111, lit_112, lit_114, lit_115, lit_116, lit_122, lit_127, lit_160, lit_216, lit_235, lit_238, lit_343, lit_476, lit_1296, lit_2000, lit_2401, lt_def, bind_s, gd_d, ix_n, inb_n, nI_add, pk_mul, pk_sub, nI_leI, nI_ltI, nI_eq, nI_ltn, nI_eqn, nI_eqn2, if_pos, if_neg, if_true, if_false, nI_addm1, q, x1, h16]
        by_cases w : SafeA A e
        · have := rest 1 ⟨fun _ => rfl, fun _ => rB_iff.mpr ⟨e, he, hec, fun _ => w⟩⟩ (by omega)
          rw [x4.mpr w, if_neg (by simp)]
          exact this
        · have xf : x.testBit 4 = false := by
            cases y : x.testBit 4 with
            | false => rfl
            | true => exact absurd (x4.mp y) w
          have := rest 0 ⟨fun z => by
            obtain ⟨f, h1, h2, h3⟩ := rB_iff.mp z
            have := un f h1 h2
            subst this
            exact absurd (h3 rfl) w, fun z => by omega⟩ (by omega)
          rw [xf, if_pos rfl]
          exact this
  · obtain ⟨N, rfl, hN, hN2, hc1, o3, -⟩ := hJ
    unfold bP_reached_31
    rw [if_pos (by decide +kernel)]
    rw [show cnt (rB A (dA A) so) 0 = 0 from rfl, Nat.add_zero] at hN
    exact ⟨m, by rw [hN], o3⟩
  · refine ⟨0, rfl, ?_, by omega, by omega, Off_wr o12 rfl, fun x hx => ?_, fun x hx h1 => ?_, wr_at _ _ _ _, fun e t h1 h2 h3 h4 => ?_⟩
    · rw [Nat.zero_add]
      have hz : ∀ n, code6 (dA A) + 1 ≤ n → cnt (rB A (dA A) so) (code6 (dA A) + 1) = cnt (rB A (dA A) so) n := by
        intro n
        induction n with
        | zero => intro h; omega
        | succ n ih =>
          intro h
          by_cases w : code6 (dA A) + 1 = n + 1
          · rw [w]
          · rw [ih (by omega), cnt_s]
            have : rB A (dA A) so n = false := by
              cases y : rB A (dA A) so n with
              | false => rfl
              | true =>
                obtain ⟨e, h1, h2, _⟩ := rB_iff.mp y
                have a0 := Rch_le h1 0
                have a1 := Rch_le h1 1
                have a2 := Rch_le h1 2
                have a3 := Rch_le h1 3
                unfold code6 at h2 h w
                omega
            rw [this]
            simp
      exact hz 1296 (by omega)
    · rw [wr_get]
      by_cases w : x = code6 (dA A)
      · rw [if_pos ⟨rfl, w⟩]; exact Or.inr rfl
      · rw [if_neg (fun z => w z.2), o2 _ _ rfl, z1 x hx]; exact Or.inl rfl
    · rw [wr_get] at h1
      by_cases w : x = code6 (dA A)
      · exact ⟨dA A, Rch_refl _, w.symm⟩
      · rw [if_neg (fun z => w z.2), o2 _ _ rfl, z1 x hx] at h1
        exact absurd h1 (by decide +kernel)
    · have a0 := Rch_le h1 0
      have a1 := Rch_le h1 1
      have a2 := Rch_le h1 2
      have a3 := Rch_le h1 3
      unfold code6 at h2
      omega
end Reach
