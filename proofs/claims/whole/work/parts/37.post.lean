/-! the class's Postures: rooms, there, steps -/
def Off (S : Rf → Nat → Bool) (μ μ' : Mem) : Prop := ∀ r i, S r i = false → μ' r i = μ r i
theorem Off_refl (S : Rf → Nat → Bool) (μ : Mem) : Off S μ μ := fun _ _ _ => rfl
theorem Off_trans {S : Rf → Nat → Bool} {μ μ1 μ2 : Mem} (h : Off S μ μ1) (g : Off S μ1 μ2) : Off S μ μ2 := fun r i q => (g r i q).trans (h r i q)
theorem Off_mono {S T : Rf → Nat → Bool} {μ μ' : Mem} (h : Off S μ μ') (g : ∀ r i, T r i = false → S r i = false) : Off T μ μ' := fun r i q => h r i (g r i q)
theorem wr_get (m : Mem) (r : Rf) (i : Nat) (v : Int32) (r' : Rf) (j : Nat) : wr m r i v r' j = if r' = r ∧ j = i then v else m r' j := by
  unfold wr sr upd
  by_cases h : r' = r
  · subst h
    by_cases g : j = i
    · subst g; simp
    · simp [g]
  · simp [h]
theorem wr_at (m : Mem) (r : Rf) (i : Nat) (v : Int32) : wr m r i v r i = v := by rw [wr_get, if_pos ⟨rfl, rfl⟩]
theorem wr_off (m : Mem) {r : Rf} {i : Nat} (v : Int32) {r' : Rf} {j : Nat} (h : ¬ (r' = r ∧ j = i)) : wr m r i v r' j = m r' j := by rw [wr_get, if_neg h]
theorem wr_of2 (m : Mem) {r : Rf} {i : Nat} (v : Int32) {r' : Rf} (h : ¬ r' = r) : wr m r i v r' = m r' := by
  funext j
  rw [wr_get, if_neg (fun z => h z.1)]
theorem Off_wr {S : Rf → Nat → Bool} {μ μ' : Mem} {r : Rf} {i : Nat} {v : Int32} (h : Off S μ μ') (g : S r i = true) : Off S μ (wr μ' r i v) := by
  intro r' j q
  rw [wr_off _ _ (fun z => by rw [z.1, z.2, g] at q; cases q)]
  exact h r' j q
theorem RepL_off {S : Rf → Nat → Bool} {μ μ' : Mem} {k : Nat} {A : Ab} (h : Off S μ μ') (hS : ∀ j i, S (0, k, j) i = false) (R : RepL μ k A) : RepL μ' k A := by
  unfold RepL at *
  simp only [h _ _ (hS _ _)]
  exact R
theorem RepR_off {S : Rf → Nat → Bool} {μ μ' : Mem} {A : Ab} {B : Nat → Nat → Nat} (h : Off S μ μ') (hS : ∀ i, S (5, 0, 1) i = false) (R : RepR (μ (5, 0, 1)) A B) : RepR (μ' (5, 0, 1)) A B := by
  have : μ' (5, 0, 1) = μ (5, 0, 1) := funext (fun i => h _ i (hS i))
  rw [this]
  exact R
def RoomsTo (μ : Mem) (A : Ab) (n : Nat) : Prop := ∀ p, p < n → ∀ m, m < 2 ^ A 4 0 → μ (1, 0, 1) (16 * p + m) = nI (if fitsA A p (fun t => m.testBit t) then 1 else 0)
def RoomsOk (μ : Mem) (A : Ab) : Prop := RoomsTo μ A (A 0 0)
def LeftOk (μ : Mem) (d : Nat → Nat) : Prop := ∀ t, t < 4 → μ (1, 0, 4) t = nI (d t)
def ThereOk (μ : Mem) (A : Ab) (d : Nat → Nat) : Prop := ∀ p, p < 6 → μ (1, 0, 5) p = nI (msk (occ A d p) (A 4 0))
def DOk (A : Ab) (d : Nat → Nat) : Prop := (∀ t, t < A 4 0 → d t ≤ distA A t) ∧ ∀ t, A 4 0 ≤ t → d t = 0
def upx (d : Nat → Nat) (t x : Nat) : Nat → Nat := fun u => if u = t then x else d u
theorem upx_self (d : Nat → Nat) (t : Nat) : upx d t (d t) = d := by
  funext u
  unfold upx
  split
  · rename_i h; rw [h]
  · rfl
theorem nar_b (c : Prop) [Decidable c] : vp_nar .boolean (nI (if c then 1 else 0)) = nI (if c then 1 else 0) := by
  by_cases h : c
  · rw [if_pos h]; decide +kernel
  · rw [if_neg h]; decide +kernel
theorem nar_b1 : vp_nar .boolean (nI 1) = nI 1 := by decide +kernel
theorem nar_b0 : vp_nar .boolean (nI 0) = nI 0 := by decide +kernel
theorem isb_c (c : Prop) [Decidable c] : isb (nI (if c then 1 else 0)) = true := by
  by_cases h : c
  · rw [if_pos h]; rfl
  · rw [if_neg h]; rfl
theorem pow2_le16 {n : Nat} (h : n ≤ 4) : 2 ^ n ≤ 16 := Nat.pow_le_pow_right (n := 2) (j := 4) (by omega) h
section Post
variable {μ : Mem} {k : Nat} {A : Ab} {d : Nat → Nat}
theorem tracksForP_ok (R : RepL μ k A) (O : OkA A) {p x : Nat} (hp : p < A 0 0) (hx : x < 2 ^ 31) : fP_tracksFor k (nI p) (nI x) μ = some (nI (cnt (fun i => decide (x ≤ A 2 (3 * p + i))) (A 1 p))) := by
  have h6 := O.p6
  have h := O.pc hp
  refine ac20 (A 1 p) (by omega) (fun i => nI (cnt (fun i => decide (x ≤ A 2 (3 * p + i))) i)) (fun sf i hi => ?_) (fun sf => ?_) <;> unfold bP_tracksFor_5
  · have h2 := h.2.2.2.2.1 i hi
    have e : p * 3 + i = 3 * p + i := by omega
    simp (disch := omega) only [lit_0, lit_1, lit_2, lit_3, lit_4, lit_5, lit_6, lit_7, lit_8, lit_9, lit_10, lit_11, lit_12, lit_13, lit_14, lit_15, lit_16, lit_17, lit_18, lit_19, lit_20, lit_23, lit_24, lit_31, lit_32, lit_34, lit_36, lit_40, lit_48, lit_49, lit_57, lit_58, lit_59, lit_60, lit_64, lit_96, lit_97, lit_99, lit_101, lit_105, lit_108, lit_110, lit_111, lit_112, lit_114, lit_115, lit_116, lit_122, lit_127, lit_160, lit_216, lit_235, lit_238, lit_343, lit_476, lit_1296, lit_2000, lit_2401, lt_def, bind_s, gd_d, ix_n, inb_n, nI_add, pk_mul, pk_sub, nI_leI, nI_ltI, nI_eq, nI_ltn, nI_eqn, nI_eqn2, if_pos, if_neg, if_true, if_false, nI_addm1, R.tk hp, e, R.le hp hi, cnt_s, decide_eq_true_eq]
    by_cases z : x ≤ A 2 (3 * p + i)
    · simp (disch := omega) only [lit_0, lit_1, lit_2, lit_3, lit_4, lit_5, lit_6, lit_7, lit_8, lit_9, lit_10, lit_11, lit_12, lit_13, lit_14, lit_15, lit_16, lit_17, lit_18, lit_19, lit_20, lit_23, lit_24, lit_31, lit_32, lit_34, lit_36, lit_40, lit_48, lit_49, lit_57, lit_58, lit_59, lit_60, lit_64, lit_96, lit_97, lit_99, lit_101, lit_105, lit_108, lit_110, lit_111, lit_112, lit_114, lit_115, lit_116, lit_122, lit_127, lit_160, lit_216, lit_235, lit_238, lit_343, lit_476, lit_1296, lit_2000, lit_2401, lt_def, bind_s, gd_d, ix_n, inb_n, nI_add, pk_mul, pk_sub, nI_leI, nI_ltI, nI_eq, nI_ltn, nI_eqn, nI_eqn2, if_pos, if_neg, if_true, if_false, nI_addm1]
    · simp (disch := omega) only [lit_0, lit_1, lit_2, lit_3, lit_4, lit_5, lit_6, lit_7, lit_8, lit_9, lit_10, lit_11, lit_12, lit_13, lit_14, lit_15, lit_16, lit_17, lit_18, lit_19, lit_20, lit_23, lit_24, lit_31, lit_32, lit_34, lit_36, lit_40, lit_48, lit_49, lit_57, lit_58, lit_59, lit_60, lit_64, lit_96, lit_97, lit_99, lit_101, lit_105, lit_108, lit_110, lit_111, lit_112, lit_114, lit_115, lit_116, lit_122, lit_127, lit_160, lit_216, lit_235, lit_238, lit_343, lit_476, lit_1296, lit_2000, lit_2401, lt_def, bind_s, gd_d, ix_n, inb_n, nI_add, pk_mul, pk_sub, nI_leI, nI_ltI, nI_eq, nI_ltn, nI_eqn, nI_eqn2, if_pos, if_neg, if_true, if_false, nI_addm1]
  · simp (disch := omega) only [lit_0, lit_1, lit_2, lit_3, lit_4, lit_5, lit_6, lit_7, lit_8, lit_9, lit_10, lit_11, lit_12, lit_13, lit_14, lit_15, lit_16, lit_17, lit_18, lit_19, lit_20, lit_23, lit_24, lit_31, lit_32, lit_34, lit_36, lit_40, lit_48, lit_49, lit_57, lit_58, lit_59, lit_60, lit_64, lit_96, lit_97, lit_99, lit_101, lit_105, lit_108, lit_110, lit_111, lit_112, lit_114, lit_115, lit_116, lit_122, lit_127, lit_160, lit_216, lit_235, lit_238, lit_343, lit_476, lit_1296, lit_2000, lit_2401, lt_def, bind_s, gd_d, ix_n, inb_n, nI_add, pk_mul, pk_sub, nI_leI, nI_ltI, nI_eq, nI_ltn, nI_eqn, nI_eqn2, if_pos, if_neg, if_true, if_false, nI_addm1, R.tk hp]
theorem trainsOf_ok (R : RepL μ k A) (O : OkA A) {m x : Nat} (hm : m < 16) (hx : x < 2 ^ 31) : fP_trainsOf k (nI m) (nI x) μ = some (nI (cnt (fun u => m.testBit u && decide (x ≤ A 7 u)) (A 4 0))) := by
  have hn := O.n4
  refine ac20 (A 4 0) (by omega) (fun i => nI (cnt (fun u => m.testBit u && decide (x ≤ A 7 u)) i)) (fun sf i hi => ?_) (fun sf => ?_) <;> unfold bP_trainsOf_5
  · have h := O.tr hi
    have hb := nI_bit1 m (by omega) i (by omega)
    simp (disch := omega) only [lit_0, lit_1, lit_2, lit_3, lit_4, lit_5, lit_6, lit_7, lit_8, lit_9, lit_10, lit_11, lit_12, lit_13, lit_14, lit_15, lit_16, lit_17, lit_18, lit_19, lit_20, lit_23, lit_24, lit_31, lit_32, lit_34, lit_36, lit_40, lit_48, lit_49, lit_57, lit_58, lit_59, lit_60, lit_64, lit_96, lit_97, lit_99, lit_101, lit_105, lit_108, lit_110, lit_111, lit_112, lit_114, lit_115, lit_116, lit_122, lit_127, lit_160, lit_216, lit_235, lit_238, lit_343, lit_476, lit_1296, lit_2000, lit_2401, lt_def, bind_s, gd_d, ix_n, inb_n, nI_add, pk_mul, pk_sub, nI_leI, nI_ltI, nI_eq, nI_ltn, nI_eqn, nI_eqn2, if_pos, if_neg, if_true, if_false, nI_addm1, R.n, R.sz hi, hb, cnt_s]
    by_cases z : m.testBit i = true
    · by_cases y : x ≤ A 7 i
      · simp [z, y]; intro; omega
      · simp [z, y]
    · simp [z]
  · simp (disch := omega) only [lit_0, lit_1, lit_2, lit_3, lit_4, lit_5, lit_6, lit_7, lit_8, lit_9, lit_10, lit_11, lit_12, lit_13, lit_14, lit_15, lit_16, lit_17, lit_18, lit_19, lit_20, lit_23, lit_24, lit_31, lit_32, lit_34, lit_36, lit_40, lit_48, lit_49, lit_57, lit_58, lit_59, lit_60, lit_64, lit_96, lit_97, lit_99, lit_101, lit_105, lit_108, lit_110, lit_111, lit_112, lit_114, lit_115, lit_116, lit_122, lit_127, lit_160, lit_216, lit_235, lit_238, lit_343, lit_476, lit_1296, lit_2000, lit_2401, lt_def, bind_s, gd_d, ix_n, inb_n, nI_add, pk_mul, pk_sub, nI_leI, nI_ltI, nI_eq, nI_ltn, nI_eqn, nI_eqn2, if_pos, if_neg, if_true, if_false, nI_addm1, R.n]
theorem fits_ok (R : RepL μ k A) (O : OkA A) {p m : Nat} (hp : p < A 0 0) (hm : m < 16) : fP_fits k (nI p) (nI m) μ = some (nI (if fitsA A p (fun t => m.testBit t) then 1 else 0)) := by
  have hn := O.n4
  refine up10 (fun r => r = some (nI (if fitsA A p (fun t => m.testBit t) then 1 else 0))) (A 4 0) (by omega) (fun i => ∀ t, t < i → m.testBit t = true → cnt (fun u => m.testBit u && decide (A 7 t ≤ A 7 u)) (A 4 0) ≤ cnt (fun i => decide (A 7 t ≤ A 2 (3 * p + i))) (A 1 p)) (fun j hj => absurd hj (by omega)) (fun sf i hi hJ => ?_) (fun sf hJ => ?_) <;> unfold bP_fits_2
  · have h := O.tr hi
    have hb := nI_bit1 m (by omega) i (by omega)
    have c1 := cnt_le (fun u => m.testBit u && decide (A 7 i ≤ A 7 u)) (A 4 0)
    have c2 := cnt_le (fun j => decide (A 7 i ≤ A 2 (3 * p + j))) (A 1 p)
    have c3 := (O.pc hp).2.1
    by_cases z : m.testBit i = true
    · simp (disch := omega) only [lit_0, lit_1, lit_2, lit_3, lit_4, lit_5, lit_6, lit_7, lit_8, lit_9, lit_10, lit_11, lit_12, lit_13, lit_14, lit_15, lit_16, lit_17, lit_18, lit_19, lit_20, lit_23, lit_24, lit_31, lit_32, lit_34, lit_36, lit_40, lit_48, lit_49, lit_57, lit_58, lit_59, lit_60, lit_64, lit_96, lit_97, lit_99, lit_101, lit_105, lit_108, lit_110, lit_111, lit_112, lit_114, lit_115, lit_116, lit_122, lit_127, lit_160, lit_216, lit_235, lit_238, lit_343, lit_476, lit_1296, lit_2000, lit_2401, lt_def, bind_s, gd_d, ix_n, inb_n, nI_add, pk_mul, pk_sub, nI_leI, nI_ltI, nI_eq, nI_ltn, nI_eqn, nI_eqn2, if_pos, if_neg, if_true, if_false, nI_addm1, R.n, R.sz hi, hb, z, tracksForP_ok R O hp (show A 7 i < 2 ^ 31 by omega), trainsOf_ok R O hm (show A 7 i < 2 ^ 31 by omega)]
      by_cases y : cnt (fun u => m.testBit u && decide (A 7 i ≤ A 7 u)) (A 4 0) ≤ cnt (fun j => decide (A 7 i ≤ A 2 (3 * p + j))) (A 1 p)
      · left
        refine ⟨fun t ht hz => ?_, by rw [if_pos y]⟩
        by_cases e : t = i
        · subst e; exact y
        · exact hJ t (by omega) hz
      · right
        rw [if_neg y, if_neg]
        intro q
        exact y (of_decide_eq_true q i hi z)
    · left
      simp (disch := omega) only [lit_0, lit_1, lit_2, lit_3, lit_4, lit_5, lit_6, lit_7, lit_8, lit_9, lit_10, lit_11, lit_12, lit_13, lit_14, lit_15, lit_16, lit_17, lit_18, lit_19, lit_20, lit_23, lit_24, lit_31, lit_32, lit_34, lit_36, lit_40, lit_48, lit_49, lit_57, lit_58, lit_59, lit_60, lit_64, lit_96, lit_97, lit_99, lit_101, lit_105, lit_108, lit_110, lit_111, lit_112, lit_114, lit_115, lit_116, lit_122, lit_127, lit_160, lit_216, lit_235, lit_238, lit_343, lit_476, lit_1296, lit_2000, lit_2401, lt_def, bind_s, gd_d, ix_n, inb_n, nI_add, pk_mul, pk_sub, nI_leI, nI_ltI, nI_eq, nI_ltn, nI_eqn, nI_eqn2, if_pos, if_neg, if_true, if_false, nI_addm1, R.n, hb]
      refine ⟨fun t ht hz => ?_, trivial⟩
      by_cases e : t = i
      · subst e; exact absurd hz z
      · exact hJ t (by omega) hz
  · simp (disch := omega) only [lit_0, lit_1, lit_2, lit_3, lit_4, lit_5, lit_6, lit_7, lit_8, lit_9, lit_10, lit_11, lit_12, lit_13, lit_14, lit_15, lit_16, lit_17, lit_18, lit_19, lit_20, lit_23, lit_24, lit_31, lit_32, lit_34, lit_36, lit_40, lit_48, lit_49, lit_57, lit_58, lit_59, lit_60, lit_64, lit_96, lit_97, lit_99, lit_101, lit_105, lit_108, lit_110, lit_111, lit_112, lit_114, lit_115, lit_116, lit_122, lit_127, lit_160, lit_216, lit_235, lit_238, lit_343, lit_476, lit_1296, lit_2000, lit_2401, lt_def, bind_s, gd_d, ix_n, inb_n, nI_add, pk_mul, pk_sub, nI_leI, nI_ltI, nI_eq, nI_ltn, nI_eqn, nI_eqn2, if_pos, if_neg, if_true, if_false, nI_addm1, R.n]
    rw [if_pos]
    exact decide_eq_true hJ
def sRo : Rf → Nat → Bool := fun r i => r == (1, 0, 1) || (r == (1, 0, 0) && i == 6)
theorem learnRooms_ok (R : RepL μ k A) (O : OkA A) (hc : μ (1, 0, 0) 6 = nI 0 ∨ (μ (1, 0, 0) 6 = nI 1 ∧ RoomsOk μ A)) : ∃ μ', fP_learnRooms k μ = some μ' ∧ Off sRo μ μ' ∧ μ' (1, 0, 0) 6 = nI 1 ∧ RoomsOk μ' A := by
  have hn := O.n4
  have h6 := O.p6
  have h16 := pow2_le16 hn
  unfold fP_learnRooms
  rcases hc with hc | ⟨hc, hr⟩
  · simp (disch := omega) only [lit_0, lit_1, lit_2, lit_3, lit_4, lit_5, lit_6, lit_7, lit_8, lit_9, lit_10, lit_11, lit_12, lit_13, lit_14, lit_15, lit_16, lit_17, lit_18, lit_19, lit_20, lit_23, lit_24, lit_31, lit_32, lit_34, lit_36, lit_40, lit_48, lit_49, lit_57, lit_58, lit_59, lit_60, lit_64, lit_96, lit_97, lit_99, lit_101, lit_105, lit_108, lit_110, lit_111, lit_112, lit_114, lit_115, lit_116, lit_122, lit_127, lit_160, lit_216, lit_235, lit_238, lit_343, lit_476, lit_1296, lit_2000, lit_2401, lt_def, bind_s, gd_d, ix_n, inb_n, nI_add, pk_mul, pk_sub, nI_leI, nI_ltI, nI_eq, nI_ltn, nI_eqn, nI_eqn2, if_pos, if_neg, if_true, if_false, nI_addm1, hc]
    refine up11 (fun r => ∃ μ', r = some μ' ∧ Off sRo μ μ' ∧ μ' (1, 0, 0) 6 = nI 1 ∧ RoomsOk μ' A) (A 0 0) (by omega) (fun i m => Off sRo μ m ∧ RoomsTo m A i) ⟨Off_refl _ _, fun j hj => absurd hj (by omega)⟩ (fun sf i m hi hJ => ?_) (fun sf m hJ => ?_) <;> unfold bP_learnRooms_10
    · obtain ⟨hO, hJ⟩ := hJ
      have R1 : RepL m k A := RepL_off hO (fun _ _ => rfl) R
      left
      simp (disch := omega) only [lit_0, lit_1, lit_2, lit_3, lit_4, lit_5, lit_6, lit_7, lit_8, lit_9, lit_10, lit_11, lit_12, lit_13, lit_14, lit_15, lit_16, lit_17, lit_18, lit_19, lit_20, lit_23, lit_24, lit_31, lit_32, lit_34, lit_36, lit_40, lit_48, lit_49, lit_57, lit_58, lit_59, lit_60, lit_64, lit_96, lit_97, lit_99, lit_101, lit_105, lit_108, lit_110, lit_111, lit_112, lit_114, lit_115, lit_116, lit_122, lit_127, lit_160, lit_216, lit_235, lit_238, lit_343, lit_476, lit_1296, lit_2000, lit_2401, lt_def, bind_s, gd_d, ix_n, inb_n, nI_add, pk_mul, pk_sub, nI_leI, nI_ltI, nI_eq, nI_ltn, nI_eqn, nI_eqn2, if_pos, if_neg, if_true, if_false, nI_addm1, R1.pl]
      refine up11 (B := bP_learnRooms_20 k sf (nI i)) (fun r => ∃ m', (Off sRo μ m' ∧ RoomsTo m' A (i + 1)) ∧ r = sf (nI (i + 1)) m') (2 ^ A 4 0) (by omega) (fun x m' => Off sRo μ m' ∧ RoomsTo m' A i ∧ ∀ y, y < x → m' (1, 0, 1) (16 * i + y) = nI (if fitsA A i (fun t => y.testBit t) then 1 else 0)) ⟨hO, hJ, fun j hj => absurd hj (by omega)⟩ (fun sf2 x m2 hx hK => ?_) (fun sf2 m2 hK => ?_) <;> unfold bP_learnRooms_20
      · obtain ⟨a1, a2, a3⟩ := hK
        have R2 : RepL m2 k A := RepL_off a1 (fun _ _ => rfl) R
        left
        have hs := nI_shl (A 4 0) (by omega)
        simp (disch := omega) only [lit_0, lit_1, lit_2, lit_3, lit_4, lit_5, lit_6, lit_7, lit_8, lit_9, lit_10, lit_11, lit_12, lit_13, lit_14, lit_15, lit_16, lit_17, lit_18, lit_19, lit_20, lit_23, lit_24, lit_31, lit_32, lit_34, lit_36, lit_40, lit_48, lit_49, lit_57, lit_58, lit_59, lit_60, lit_64, lit_96, lit_97, lit_99, lit_101, lit_105, lit_108, lit_110, lit_111, lit_112, lit_114, lit_115, lit_116, lit_122, lit_127, lit_160, lit_216, lit_235, lit_238, lit_343, lit_476, lit_1296, lit_2000, lit_2401, lt_def, bind_s, gd_d, ix_n, inb_n, nI_add, pk_mul, pk_sub, nI_leI, nI_ltI, nI_eq, nI_ltn, nI_eqn, nI_eqn2, if_pos, if_neg, if_true, if_false, nI_addm1, R2.n, hs, fits_ok R2 O (show i < A 0 0 by omega) (show x < 16 by omega), nar_b]
        refine ⟨_, ⟨Off_wr a1 rfl, fun p hp y hy => ?_, fun y hy => ?_⟩, rfl⟩
        · rw [wr_off _ _ (fun z => by have := z.2; omega)]
          exact a2 p hp y hy
        · rw [wr_get]
          by_cases e : y = x
          · subst e
            rw [if_pos ⟨rfl, by omega⟩]
          · rw [if_neg (fun z => e (by have := z.2; omega))]
            exact a3 y (by omega)
      · obtain ⟨a1, a2, a3⟩ := hK
        have R2 : RepL m2 k A := RepL_off a1 (fun _ _ => rfl) R
        have hs := nI_shl (A 4 0) (by omega)
        simp (disch := omega) only [lit_0, lit_1, lit_2, lit_3, lit_4, lit_5, lit_6, lit_7, lit_8, lit_9, lit_10, lit_11, lit_12, lit_13, lit_14, lit_15, lit_16, lit_17, lit_18, lit_19, lit_20, lit_23, lit_24, lit_31, lit_32, lit_34, lit_36, lit_40, lit_48, lit_49, lit_57, lit_58, lit_59, lit_60, lit_64, lit_96, lit_97, lit_99, lit_101, lit_105, lit_108, lit_110, lit_111, lit_112, lit_114, lit_115, lit_116, lit_122, lit_127, lit_160, lit_216, lit_235, lit_238, lit_343, lit_476, lit_1296, lit_2000, lit_2401, lt_def, bind_s, gd_d, ix_n, inb_n, nI_add, pk_mul, pk_sub, nI_leI, nI_ltI, nI_eq, nI_ltn, nI_eqn, nI_eqn2, if_pos, if_neg, if_true, if_false, nI_addm1, R2.n, hs, jP_learnRooms_53]
        refine ⟨m2, ⟨a1, fun p hp y hy => ?_⟩, rfl⟩
        by_cases e : p = i
        · subst e; exact a3 y hy
        · exact a2 p (by omega) y hy
    · obtain ⟨hO, hJ⟩ := hJ
      have R1 : RepL m k A := RepL_off hO (fun _ _ => rfl) R
      simp (disch := omega) only [lit_0, lit_1, lit_2, lit_3, lit_4, lit_5, lit_6, lit_7, lit_8, lit_9, lit_10, lit_11, lit_12, lit_13, lit_14, lit_15, lit_16, lit_17, lit_18, lit_19, lit_20, lit_23, lit_24, lit_31, lit_32, lit_34, lit_36, lit_40, lit_48, lit_49, lit_57, lit_58, lit_59, lit_60, lit_64, lit_96, lit_97, lit_99, lit_101, lit_105, lit_108, lit_110, lit_111, lit_112, lit_114, lit_115, lit_116, lit_122, lit_127, lit_160, lit_216, lit_235, lit_238, lit_343, lit_476, lit_1296, lit_2000, lit_2401, lt_def, bind_s, gd_d, ix_n, inb_n, nI_add, pk_mul, pk_sub, nI_leI, nI_ltI, nI_eq, nI_ltn, nI_eqn, nI_eqn2, if_pos, if_neg, if_true, if_false, nI_addm1, R1.pl, jP_learnRooms_59]
      refine ⟨_, rfl, Off_wr hO rfl, wr_at _ _ _ _, fun p hp x hx => ?_⟩
      rw [wr_off _ _ (fun z => by have := z.1; simp at this)]
      exact hJ p hp x hx
  · simp (disch := omega) only [lit_0, lit_1, lit_2, lit_3, lit_4, lit_5, lit_6, lit_7, lit_8, lit_9, lit_10, lit_11, lit_12, lit_13, lit_14, lit_15, lit_16, lit_17, lit_18, lit_19, lit_20, lit_23, lit_24, lit_31, lit_32, lit_34, lit_36, lit_40, lit_48, lit_49, lit_57, lit_58, lit_59, lit_60, lit_64, lit_96, lit_97, lit_99, lit_101, lit_105, lit_108, lit_110, lit_111, lit_112, lit_114, lit_115, lit_116, lit_122, lit_127, lit_160, lit_216, lit_235, lit_238, lit_343, lit_476, lit_1296, lit_2000, lit_2401, lt_def, bind_s, gd_d, ix_n, inb_n, nI_add, pk_mul, pk_sub, nI_leI, nI_ltI, nI_eq, nI_ltn, nI_eqn, nI_eqn2, if_pos, if_neg, if_true, if_false, nI_addm1, hc]
    exact ⟨μ, rfl, Off_refl _ _, hc, hr⟩
end Post
