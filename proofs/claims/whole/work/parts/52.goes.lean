theorem up11s {τ : Type} {B : (Int32 → Mem → Option τ) → Int32 → Mem → Option τ} (Q : Option τ → Prop) (s N : Nat) (hN : N ≤ 5000) (hsN : s ≤ N) (J : Nat → Mem → Prop) {m : Mem} (h0 : J s m) (hs : ∀ sf i m, s ≤ i → i < N → J i m → (∃ m', J (i + 1) m' ∧ B sf (nI i) m = sf (nI (i + 1)) m') ∨ Q (B sf (nI i) m)) (he : ∀ sf m, J N m → Q (B sf (nI N) m)) : Q (lz11 B FU (nI s) m) := by
  refine lz11_m Q (fun b m => ∃ i, s ≤ i ∧ i ≤ N ∧ b = nI i ∧ J i m) (fun b _ => N - ix b) ?_ FU _ _ ⟨s, Nat.le_refl _, hsN, rfl, h0⟩ (FU_gt (by omega))
  rintro sf b m ⟨i, h1, hi, rfl, hJ⟩
  by_cases h : i = N
  · subst h
    exact Or.inr (he sf m hJ)
  · rcases hs sf i m h1 (by omega) hJ with ⟨m', h1', h2⟩ | h1'
    · exact Or.inl ⟨nI (i + 1), m', ⟨i + 1, by omega, by omega, rfl, h1'⟩, by rw [ix_n (by omega), ix_n (by omega)]; omega, h2⟩
    · exact Or.inr h1'
def sSt : Rf → Nat → Bool := fun r _ => r == (5, 0, 1)
def sJr : Rf → Nat → Bool := fun r i => r == (5, 0, 1) && (decide (58 ≤ i) || i == 3)
theorem sSt_sJr (r : Rf) (i : Nat) (h : sSt r i = false) : sJr r i = false := by
  simp only [sSt, sJr] at *
  rw [h]; rfl
theorem entry_ok {i c : Nat} (hi : i < 60) (hc : c < 3) (μ : Mem) : fM_entry (nI i) (nI c) μ = some (μ (5, 0, 1) (58 + 3 * i + c)) := by
  unfold fM_entry
  simp (disch := omega) only [lit_0, lit_1, lit_2, lit_3, lit_4, lit_5, lit_6, lit_7, lit_8, lit_9, lit_10, lit_11, lit_12, lit_13, lit_14, lit_15, lit_16, lit_17, lit_18, lit_19, lit_20, lit_23, lit_24, lit_31, lit_32, lit_34, lit_36, lit_40, lit_48, lit_49, lit_57, lit_58, lit_59, lit_60, lit_64, lit_96, lit_97, lit_99, lit_101, lit_105, lit_108, lit_110, lit_111, lit_112, lit_114, lit_115, lit_116, lit_122, lit_127, lit_160, lit_216, lit_235, lit_238, lit_343, lit_476, lit_1296, lit_2000, lit_2401, lt_def, bind_s, gd_d, ix_n, inb_n, nI_add, pk_mul, pk_sub, nI_leI, nI_ltI, nI_eq, nI_ltn, nI_eqn, nI_eqn2, if_pos, if_neg, if_true, if_false, nI_addm1]
section Goes
variable {μ : Mem} {A : Ab} {B : Nat → Nat → Nat}
theorem sJr_t {i : Nat} (h : 58 ≤ i ∨ i = 3) : sJr (5, 0, 1) i = true := by
  simp only [sJr, beq_self_eq_true, Bool.true_and, Bool.or_eq_true, decide_eq_true_eq, beq_iff_eq]
  exact h
theorem sJr_f {i : Nat} (h : i < 58) (h3 : i ≠ 3) : sJr (5, 0, 1) i = false := by
  simp only [sJr, beq_self_eq_true, Bool.true_and, Bool.or_eq_false_iff, decide_eq_false_iff_not, beq_eq_false_iff_ne]
  omega
theorem entersJ_ok {e c t p : Nat} {f g h : Nat → Nat} (he : e ≤ 59) (hc : c < 2 ^ 31) (ht : t < 2 ^ 31) (h0 : μ (5, 0, 1) 3 = nI e) (h1 : μ (5, 0, 1) 2 = nI c) (hf : ∀ j, j < e → μ (5, 0, 1) (58 + 3 * j + 0) = nI (f j) ∧ f j < 2 ^ 31) (hg : ∀ j, j < e → μ (5, 0, 1) (58 + 3 * j + 1) = nI (g j) ∧ g j < 2 ^ 31) (hh : ∀ j, j < e → μ (5, 0, 1) (58 + 3 * j + 2) = nI (h j)) : ∃ μ', jM_enters_51 (nI t) (nI p) μ = some μ' ∧ Off sJr μ μ' ∧ μ' (5, 0, 1) 3 = nI (e + 1) ∧ ∀ j, j < e + 1 → μ' (5, 0, 1) (58 + 3 * j + 0) = nI (insJ f (posJ f g c t e) c j) ∧ μ' (5, 0, 1) (58 + 3 * j + 1) = nI (insJ g (posJ f g c t e) t j) ∧ μ' (5, 0, 1) (58 + 3 * j + 2) = nI (insJ h (posJ f g c t e) p j) := by
  unfold jM_enters_51
  simp (disch := omega) only [lit_0, lit_1, lit_2, lit_3, lit_4, lit_5, lit_6, lit_7, lit_8, lit_9, lit_10, lit_11, lit_12, lit_13, lit_14, lit_15, lit_16, lit_17, lit_18, lit_19, lit_20, lit_23, lit_24, lit_31, lit_32, lit_34, lit_36, lit_40, lit_48, lit_49, lit_57, lit_58, lit_59, lit_60, lit_64, lit_96, lit_97, lit_99, lit_101, lit_105, lit_108, lit_110, lit_111, lit_112, lit_114, lit_115, lit_116, lit_122, lit_127, lit_160, lit_216, lit_235, lit_238, lit_343, lit_476, lit_1296, lit_2000, lit_2401, lt_def, bind_s, gd_d, ix_n, inb_n, nI_add, pk_mul, pk_sub, nI_leI, nI_ltI, nI_eq, nI_ltn, nI_eqn, nI_eqn2, if_pos, if_neg, if_true, if_false, nI_addm1, h0]
  refine lz11_m (B := bM_enters_58 (nI t) (nI p)) (fun r => ∃ μ', r = some μ' ∧ Off sJr μ μ' ∧ μ' (5, 0, 1) 3 = nI (e + 1) ∧ ∀ j, j < e + 1 → μ' (5, 0, 1) (58 + 3 * j + 0) = nI (insJ f (posJ f g c t e) c j) ∧ μ' (5, 0, 1) (58 + 3 * j + 1) = nI (insJ g (posJ f g c t e) t j) ∧ μ' (5, 0, 1) (58 + 3 * j + 2) = nI (insJ h (posJ f g c t e) p j)) (fun a m => ∃ x, x ≤ e ∧ a = nI x ∧ posJ f g c t e = posJ f g c t x ∧ Off sJr μ m ∧ m (5, 0, 1) 3 = nI e ∧ (∀ j, j < x → m (5, 0, 1) (58 + 3 * j + 0) = nI (f j) ∧ m (5, 0, 1) (58 + 3 * j + 1) = nI (g j) ∧ m (5, 0, 1) (58 + 3 * j + 2) = nI (h j)) ∧ ∀ j, x < j → j ≤ e → m (5, 0, 1) (58 + 3 * j + 0) = nI (f (j - 1)) ∧ m (5, 0, 1) (58 + 3 * j + 1) = nI (g (j - 1)) ∧ m (5, 0, 1) (58 + 3 * j + 2) = nI (h (j - 1))) (fun a _ => ix a) ?_ FU _ _ ⟨e, Nat.le_refl _, rfl, rfl, Off_refl _ _, h0, fun j hj => ⟨(hf j hj).1, (hg j hj).1, hh j hj⟩, fun j a b => by omega⟩ (by show ix (nI e) < FU; rw [ix_n (by omega)]; exact FU_gt (by omega))
  rintro sf a m ⟨x, hx, rfl, hp, o1, m3, lo, hi⟩
  have c1 : m (5, 0, 1) 2 = nI c := (o1 _ _ (sJr_f (by omega) (by omega))).trans h1
  have fin : posJ f g c t x = x → ∃ μ', jM_enters_135 (nI t) (nI p) (nI x) m = some μ' ∧ Off sJr μ μ' ∧ μ' (5, 0, 1) 3 = nI (e + 1) ∧ ∀ j, j < e + 1 → μ' (5, 0, 1) (58 + 3 * j + 0) = nI (insJ f (posJ f g c t e) c j) ∧ μ' (5, 0, 1) (58 + 3 * j + 1) = nI (insJ g (posJ f g c t e) t j) ∧ μ' (5, 0, 1) (58 + 3 * j + 2) = nI (insJ h (posJ f g c t e) p j) := by
    intro hpx
    unfold jM_enters_135
    have r3 : ∀ v1 v2 v3, (wr (wr (wr m (5, 0, 1) (58 + 3 * x + 0) v1) (5, 0, 1) (58 + 3 * x + 1) v2) (5, 0, 1) (58 + 3 * x + 2) v3) (5, 0, 1) 3 = nI e := fun v1 v2 v3 => by
      rw [wr_off _ _ (by simp; omega), wr_off _ _ (by simp; omega), wr_off _ _ (by simp; omega), m3]
    simp (disch := omega) only [lit_0, lit_1, lit_2, lit_3, lit_4, lit_5, lit_6, lit_7, lit_8, lit_9, lit_10, lit_11, lit_12, lit_13, lit_14, lit_15, lit_16, lit_17, lit_18, lit_19, lit_20, lit_23, lit_24, lit_31, lit_32, lit_34, lit_36, lit_40, lit_48, lit_49, lit_57, lit_58, lit_59, lit_60, lit_64, lit_96, lit_97, lit_99, lit_101, lit_105, lit_108, lit_110, lit_111, lit_112, lit_114, lit_115, lit_116, lit_122, lit_127, lit_160, lit_216, lit_235, lit_238, lit_343, lit_476, lit_1296, lit_2000, lit_2401, lt_def, bind_s, gd_d, ix_n, inb_n, nI_add, pk_mul, pk_sub, nI_leI, nI_ltI, nI_eq, nI_ltn, nI_eqn, nI_eqn2, if_pos, if_neg, if_true, if_false, nI_addm1, c1, r3]
    rw [hp, hpx]
    refine ⟨_, rfl, Off_wr (Off_wr (Off_wr (Off_wr o1 (sJr_t (by omega))) (sJr_t (by omega))) (sJr_t (by omega))) (sJr_t (by omega)), wr_at _ _ _ _, fun j hj => ?_⟩
    unfold insJ
    by_cases w : j = x
    · subst w
      rw [if_neg (Nat.lt_irrefl _), if_pos rfl, if_neg (Nat.lt_irrefl _), if_pos rfl, if_neg (Nat.lt_irrefl _), if_pos rfl]
      refine ⟨?_, ?_, ?_⟩
      · rw [wr_off _ _ (by simp; omega), wr_off _ _ (by simp), wr_off _ _ (by simp), wr_at]
      · rw [wr_off _ _ (by simp; omega), wr_off _ _ (by simp), wr_at]
      · rw [wr_off _ _ (by simp; omega), wr_at]
    · rw [if_neg w, if_neg w, if_neg w]
      have fr : ∀ b, b < 3 → ∀ v1 v2 v3 v4, (wr (wr (wr (wr m (5, 0, 1) (58 + 3 * x + 0) v1) (5, 0, 1) (58 + 3 * x + 1) v2) (5, 0, 1) (58 + 3 * x + 2) v3) (5, 0, 1) 3 v4) (5, 0, 1) (58 + 3 * j + b) = m (5, 0, 1) (58 + 3 * j + b) := fun b hb v1 v2 v3 v4 => by
        rw [wr_off _ _ (by simp; omega), wr_off _ _ (by simp; omega), wr_off _ _ (by simp; omega), wr_off _ _ (by simp; omega)]
      rw [fr 0 (by omega), fr 1 (by omega), fr 2 (by omega)]
      by_cases v : j < x
      · rw [if_pos v, if_pos v, if_pos v]; exact lo j v
      · rw [if_neg v, if_neg v, if_neg v]; exact hi j (by omega) (by omega)
  unfold bM_enters_58
  by_cases x0 : x = 0
  · right
    subst x0
    rw [if_pos (by decide +kernel)]
    exact fin rfl
  · obtain ⟨y, rfl⟩ : ∃ y, x = y + 1 := ⟨x - 1, by omega⟩
    have l1 := lo y (by omega)
    have b1 := (hf y (by omega)).2
    have b2 := (hg y (by omega)).2
    simp (disch := omega) only [lit_0, lit_1, lit_2, lit_3, lit_4, lit_5, lit_6, lit_7, lit_8, lit_9, lit_10, lit_11, lit_12, lit_13, lit_14, lit_15, lit_16, lit_17, lit_18, lit_19, lit_20, lit_23, lit_24, lit_31, lit_32, lit_34, lit_36, lit_40, lit_48, lit_49, lit_57, lit_58, lit_59, lit_60, lit_64, lit_96, lit_97, lit_99, lit_101, lit_105, lit_108, lit_110, lit_111, lit_112, lit_114, lit_115, lit_116, lit_122, lit_127, lit_160, lit_216, lit_235, lit_238, lit_343, lit_476, lit_1296, lit_2000, lit_2401, lt_def, bind_s, gd_d, ix_n, inb_n, nI_add, pk_mul, pk_sub, nI_leI, nI_ltI, nI_eq, nI_ltn, nI_eqn, nI_eqn2, if_pos, if_neg, if_true, if_false, nI_addm1, Nat.add_sub_cancel, entry_ok, l1.1, l1.2.1, c1]
    by_cases q1 : f y = c
    · by_cases q2 : g y ≤ t
      · right
        rw [if_pos q1, if_pos q2]
        exact fin (by rw [posJ_s, if_neg (by omega)])
      · left
        rw [if_pos q1, if_neg q2]
        have key : ∃ m2 : Mem, (Off sJr m m2 ∧ (∀ b, b < 3 → m2 (5, 0, 1) (58 + 3 * (y + 1) + b) = m (5, 0, 1) (58 + 3 * y + b)) ∧ ∀ i, (i < 58 + 3 * (y + 1) ∨ 58 + 3 * (y + 1) + 3 ≤ i) → m2 (5, 0, 1) i = m (5, 0, 1) i) ∧ lz11 (bM_enters_94 sf (nI (y + 1))) FU (nI 0) m = sf (nI y) m2 := by
          refine up11 (B := bM_enters_94 sf (nI (y + 1))) (fun r => ∃ m2 : Mem, (Off sJr m m2 ∧ (∀ b, b < 3 → m2 (5, 0, 1) (58 + 3 * (y + 1) + b) = m (5, 0, 1) (58 + 3 * y + b)) ∧ ∀ i, (i < 58 + 3 * (y + 1) ∨ 58 + 3 * (y + 1) + 3 ≤ i) → m2 (5, 0, 1) i = m (5, 0, 1) i) ∧ r = sf (nI y) m2) 3 (by omega) (fun b m2 => Off sJr m m2 ∧ (∀ b', b' < b → m2 (5, 0, 1) (58 + 3 * (y + 1) + b') = m (5, 0, 1) (58 + 3 * y + b')) ∧ ∀ i, (i < 58 + 3 * (y + 1) ∨ 58 + 3 * (y + 1) + 3 ≤ i) → m2 (5, 0, 1) i = m (5, 0, 1) i) ⟨Off_refl _ _, fun b hb => absurd hb (by omega), fun i _ => rfl⟩ (fun sf2 b m2 hb hK => ?_) (fun sf2 m2 hK => ?_) <;> unfold bM_enters_94
          · obtain ⟨k1, k2, k3⟩ := hK
            left
            simp (disch := omega) only [lit_0, lit_1, lit_2, lit_3, lit_4, lit_5, lit_6, lit_7, lit_8, lit_9, lit_10, lit_11, lit_12, lit_13, lit_14, lit_15, lit_16, lit_17, lit_18, lit_19, lit_20, lit_23, lit_24, lit_31, lit_32, lit_34, lit_36, lit_40, lit_48, lit_49, lit_57, lit_58, lit_59, lit_60, lit_64, lit_96, lit_97, lit_99, lit_101, lit_105, lit_108, lit_110, lit_111, lit_112, lit_114, lit_115, lit_116, lit_122, lit_127, lit_160, lit_216, lit_235, lit_238, lit_343, lit_476, lit_1296, lit_2000, lit_2401, lt_def, bind_s, gd_d, ix_n, inb_n, nI_add, pk_mul, pk_sub, nI_leI, nI_ltI, nI_eq, nI_ltn, nI_eqn, nI_eqn2, if_pos, if_neg, if_true, if_false, nI_addm1, Nat.add_sub_cancel, entry_ok]
            refine ⟨_, ⟨Off_wr k1 (sJr_t (by omega)), fun b' hb' => ?_, fun i hi2 => ?_⟩, rfl⟩
            · rw [wr_get]
              by_cases w : b' = b
              · subst w; rw [if_pos ⟨rfl, rfl⟩]; exact k3 _ (by omega)
              · rw [if_neg (by simp; omega)]; exact k2 b' (by omega)
            · rw [wr_off _ _ (by simp; omega)]; exact k3 i hi2
          · simp (disch := omega) only [lit_0, lit_1, lit_2, lit_3, lit_4, lit_5, lit_6, lit_7, lit_8, lit_9, lit_10, lit_11, lit_12, lit_13, lit_14, lit_15, lit_16, lit_17, lit_18, lit_19, lit_20, lit_23, lit_24, lit_31, lit_32, lit_34, lit_36, lit_40, lit_48, lit_49, lit_57, lit_58, lit_59, lit_60, lit_64, lit_96, lit_97, lit_99, lit_101, lit_105, lit_108, lit_110, lit_111, lit_112, lit_114, lit_115, lit_116, lit_122, lit_127, lit_160, lit_216, lit_235, lit_238, lit_343, lit_476, lit_1296, lit_2000, lit_2401, lt_def, bind_s, gd_d, ix_n, inb_n, nI_add, pk_mul, pk_sub, nI_leI, nI_ltI, nI_eq, nI_ltn, nI_eqn, nI_eqn2, if_pos, if_neg, if_true, if_false, nI_addm1, jM_enters_129, Nat.add_sub_cancel]
            exact ⟨m2, hK, rfl⟩
        obtain ⟨m2, ⟨k1, k2, k3⟩, k4⟩ := key
        have em : lz11 (bM_enters_94 sf (nI (y + 1))) FU (nI 0) m = sf (nI y) m2 := k4
        rw [em]
        refine ⟨nI y, m2, ⟨y, by omega, rfl, ?_, Off_trans o1 k1, ?_, fun j hj => ?_, fun j j1 j2 => ?_⟩, ?_, rfl⟩
        · rw [hp, posJ_s, if_pos ⟨q1, by omega⟩]
        · rw [k3 3 (by omega), m3]
        · rw [k3 _ (by omega), k3 _ (by omega), k3 _ (by omega)]; exact lo j (by omega)
        · by_cases w : j = y + 1
          · subst w
            rw [k2 0 (by omega), k2 1 (by omega), k2 2 (by omega), Nat.add_sub_cancel]; exact l1
          · rw [k3 _ (by omega), k3 _ (by omega), k3 _ (by omega)]; exact hi j (by omega) j2
        · rw [ix_n (by omega)]; omega
    · right
      rw [if_neg q1]
      exact fin (by rw [posJ_s, if_neg (by omega)])
theorem RepR.j13 {st : Nat → Int32} (h : RepR st A B) {i : Nat} (hi : i < A 12 0) : st (58 + 3 * i + 0) = nI (A 13 i) := (h.2.2.2.2.2.2 i hi).1
theorem RepR.j14 {st : Nat → Int32} (h : RepR st A B) {i : Nat} (hi : i < A 12 0) : st (58 + 3 * i + 1) = nI (A 14 i) := (h.2.2.2.2.2.2 i hi).2.1
theorem RepR.j15 {st : Nat → Int32} (h : RepR st A B) {i : Nat} (hi : i < A 12 0) : st (58 + 3 * i + 2) = nI (A 15 i) := (h.2.2.2.2.2.2 i hi).2.2
theorem enters_ok (O : OkA A) (hen : μ (5, 0, 1) 3 = nI (A 12 0)) (hck : μ (5, 0, 1) 2 = nI (A 11 0)) (hj : ∀ i, i < A 12 0 → μ (5, 0, 1) (58 + 3 * i + 0) = nI (A 13 i) ∧ μ (5, 0, 1) (58 + 3 * i + 1) = nI (A 14 i) ∧ μ (5, 0, 1) (58 + 3 * i + 2) = nI (A 15 i)) {t p : Nat} (ht : t < 4) : ∃ μ', fM_enters (nI t) (nI p) μ = some μ' ∧ Off sJr μ μ' ∧ μ' (5, 0, 1) 3 = nI (preE A + 1) ∧ ∀ j, j < preE A + 1 → μ' (5, 0, 1) (58 + 3 * j + 0) = nI (insJ (preJ A 13) (posA A t) (A 11 0) j) ∧ μ' (5, 0, 1) (58 + 3 * j + 1) = nI (insJ (preJ A 14) (posA A t) t j) ∧ μ' (5, 0, 1) (58 + 3 * j + 2) = nI (insJ (preJ A 15) (posA A t) p j) := by
  have he := preE_le O
  have h60 := O.e60
  have hc := O.ck
  unfold fM_enters
  by_cases z : A 12 0 = 60
  · have pe : preE A = 59 := by unfold preE; rw [if_pos z]
    have pj : ∀ f, preJ A f = fun j => A f (j + 1) := fun f => by unfold preJ; rw [if_pos z]
    rw [pe]
    unfold posA
    rw [pe]
    simp (disch := omega) only [lit_0, lit_1, lit_2, lit_3, lit_4, lit_5, lit_6, lit_7, lit_8, lit_9, lit_10, lit_11, lit_12, lit_13, lit_14, lit_15, lit_16, lit_17, lit_18, lit_19, lit_20, lit_23, lit_24, lit_31, lit_32, lit_34, lit_36, lit_40, lit_48, lit_49, lit_57, lit_58, lit_59, lit_60, lit_64, lit_96, lit_97, lit_99, lit_101, lit_105, lit_108, lit_110, lit_111, lit_112, lit_114, lit_115, lit_116, lit_122, lit_127, lit_160, lit_216, lit_235, lit_238, lit_343, lit_476, lit_1296, lit_2000, lit_2401, lt_def, bind_s, gd_d, ix_n, inb_n, nI_add, pk_mul, pk_sub, nI_leI, nI_ltI, nI_eq, nI_ltn, nI_eqn, nI_eqn2, if_pos, if_neg, if_true, if_false, nI_addm1, hen]
    refine up11s (B := bM_enters_14 (nI t) (nI p)) (fun r => ∃ μ', r = some μ' ∧ Off sJr μ μ' ∧ μ' (5, 0, 1) 3 = nI (59 + 1) ∧ ∀ j, j < 59 + 1 → μ' (5, 0, 1) (58 + 3 * j + 0) = nI (insJ (preJ A 13) (posJ (preJ A 13) (preJ A 14) (A 11 0) t 59) (A 11 0) j) ∧ μ' (5, 0, 1) (58 + 3 * j + 1) = nI (insJ (preJ A 14) (posJ (preJ A 13) (preJ A 14) (A 11 0) t 59) t j) ∧ μ' (5, 0, 1) (58 + 3 * j + 2) = nI (insJ (preJ A 15) (posJ (preJ A 13) (preJ A 14) (A 11 0) t 59) p j)) 58 235 (by omega) (by omega) (fun c m => Off sJr μ m ∧ (∀ i, 58 ≤ i → i < c → m (5, 0, 1) i = μ (5, 0, 1) (i + 3)) ∧ ∀ i, (i < 58 ∨ c ≤ i) → m (5, 0, 1) i = μ (5, 0, 1) i) ⟨Off_refl _ _, fun i a b => absurd b (by omega), fun i _ => rfl⟩ (fun sf i m h1 h2 hJ => ?_) (fun sf m hJ => ?_) <;> unfold bM_enters_14
    · obtain ⟨k1, k2, k3⟩ := hJ
      left
      simp (disch := omega) only [lit_0, lit_1, lit_2, lit_3, lit_4, lit_5, lit_6, lit_7, lit_8, lit_9, lit_10, lit_11, lit_12, lit_13, lit_14, lit_15, lit_16, lit_17, lit_18, lit_19, lit_20, lit_23, lit_24, lit_31, lit_32, lit_34, lit_36, lit_40, lit_48, lit_49, lit_57, lit_58, lit_59, lit_60, lit_64, lit_96, lit_97, lit_99, lit_101, lit_105, lit_108, lit_110, lit_111, lit_112, lit_114, lit_115, lit_116, lit_122, lit_127, lit_160, lit_216, lit_235, lit_238, lit_343, lit_476, lit_1296, lit_2000, lit_2401, lt_def, bind_s, gd_d, ix_n, inb_n, nI_add, pk_mul, pk_sub, nI_leI, nI_ltI, nI_eq, nI_ltn, nI_eqn, nI_eqn2, if_pos, if_neg, if_true, if_false, nI_addm1]
      refine ⟨_, ⟨Off_wr k1 (sJr_t (by omega)), fun i' a b => ?_, fun i' a => ?_⟩, rfl⟩
      · rw [wr_get]
        by_cases w : i' = i
        · subst w; rw [if_pos ⟨rfl, rfl⟩]; exact k3 _ (by omega)
        · rw [if_neg (by simp; omega)]; exact k2 i' a (by omega)
      · rw [wr_off _ _ (by simp; omega)]; exact k3 i' (by omega)
    · obtain ⟨k1, k2, k3⟩ := hJ
      have m3 : m (5, 0, 1) 3 = nI 60 := by rw [k3 3 (by omega), hen, z]
      simp (disch := omega) only [lit_0, lit_1, lit_2, lit_3, lit_4, lit_5, lit_6, lit_7, lit_8, lit_9, lit_10, lit_11, lit_12, lit_13, lit_14, lit_15, lit_16, lit_17, lit_18, lit_19, lit_20, lit_23, lit_24, lit_31, lit_32, lit_34, lit_36, lit_40, lit_48, lit_49, lit_57, lit_58, lit_59, lit_60, lit_64, lit_96, lit_97, lit_99, lit_101, lit_105, lit_108, lit_110, lit_111, lit_112, lit_114, lit_115, lit_116, lit_122, lit_127, lit_160, lit_216, lit_235, lit_238, lit_343, lit_476, lit_1296, lit_2000, lit_2401, lt_def, bind_s, gd_d, ix_n, inb_n, nI_add, pk_mul, pk_sub, nI_leI, nI_ltI, nI_eq, nI_ltn, nI_eqn, nI_eqn2, if_pos, if_neg, if_true, if_false, nI_addm1, jM_enters_41, m3]
      have ec : ∀ j b, j < 59 → b < 3 → (wr m (5, 0, 1) 3 (nI 59)) (5, 0, 1) (58 + 3 * j + b) = μ (5, 0, 1) (58 + 3 * (j + 1) + b) := fun j b hj hb => by
        rw [wr_off _ _ (by simp; omega), k2 _ (by omega) (by omega)]
        congr 1
        omega
      obtain ⟨m2, e2, o2, r3, rj⟩ := entersJ_ok (μ := wr m (5, 0, 1) 3 (nI 59)) (e := 59) (c := A 11 0) (t := t) (p := p) (f := preJ A 13) (g := preJ A 14) (h := preJ A 15) (by omega) (by omega) (by omega) (wr_at _ _ _ _) ((wr_off _ _ (by simp)).trans ((k3 2 (by omega)).trans hck)) (fun j hj2 => by
        have := O.jr (i := j + 1) (by omega)
        rw [ec j 0 hj2 (by omega), (hj (j + 1) (by omega)).1, pj]
        exact ⟨rfl, by show A 13 (j + 1) < _; omega⟩) (fun j hj2 => by
        have := O.jr (i := j + 1) (by omega)
        rw [ec j 1 hj2 (by omega), (hj (j + 1) (by omega)).2.1, pj]
        exact ⟨rfl, by show A 14 (j + 1) < _; omega⟩) (fun j hj2 => by rw [ec j 2 hj2 (by omega), (hj (j + 1) (by omega)).2.2, pj])
      exact ⟨m2, e2, Off_trans (Off_wr k1 (sJr_t (by omega))) o2, r3, rj⟩
  · have pe : preE A = A 12 0 := by unfold preE; rw [if_neg z]
    have pj : ∀ f, preJ A f = A f := fun f => by unfold preJ; rw [if_neg z]
    rw [pe]
    unfold posA
    rw [pe]
    simp (disch := omega) only [lit_0, lit_1, lit_2, lit_3, lit_4, lit_5, lit_6, lit_7, lit_8, lit_9, lit_10, lit_11, lit_12, lit_13, lit_14, lit_15, lit_16, lit_17, lit_18, lit_19, lit_20, lit_23, lit_24, lit_31, lit_32, lit_34, lit_36, lit_40, lit_48, lit_49, lit_57, lit_58, lit_59, lit_60, lit_64, lit_96, lit_97, lit_99, lit_101, lit_105, lit_108, lit_110, lit_111, lit_112, lit_114, lit_115, lit_116, lit_122, lit_127, lit_160, lit_216, lit_235, lit_238, lit_343, lit_476, lit_1296, lit_2000, lit_2401, lt_def, bind_s, gd_d, ix_n, inb_n, nI_add, pk_mul, pk_sub, nI_leI, nI_ltI, nI_eq, nI_ltn, nI_eqn, nI_eqn2, if_pos, if_neg, if_true, if_false, nI_addm1, hen]
    exact entersJ_ok (μ := μ) (e := A 12 0) (c := A 11 0) (t := t) (p := p) (f := preJ A 13) (g := preJ A 14) (h := preJ A 15) (by omega) (by omega) (by omega) hen hck (fun j hj2 => by
      have := O.jr hj2
      rw [pj]; exact ⟨(hj j hj2).1, by omega⟩) (fun j hj2 => by
      have := O.jr hj2
      rw [pj]; exact ⟨(hj j hj2).2.1, by omega⟩) (fun j hj2 => by rw [pj]; exact (hj j hj2).2.2)
theorem goes_ok (R : RepR (μ (5, 0, 1)) A B) (O : OkA A) {t : Nat} (ht : t < A 4 0) (h9 : A 9 t = 0) : ∃ μ', fM_goes (nI t) μ = some μ' ∧ Off sSt μ μ' ∧ RepR (μ' (5, 0, 1)) (depA A t) B := by
  have h := O.tr ht
  have h8 := h.2.2.2.2.2.2.2.1 h9
  have h5 := dist_le O ht
  have hs := secA_lt O ht h.2.2.2.2.2.1 h8
  have h6 := O.p6
  have hn := O.n4
  have he := preE_le O
  have h60 := O.e60
  have nf := nextFrom_ok R O ht h.2.2.2.2.2.1 h8
  have mo : ∀ m : Mem, (∀ i, i < 34 → m (5, 0, 1) i = μ (5, 0, 1) i) → fM_minutesOf (nI (spotA A t (A 8 t))) (nI (spotA A t (A 8 t - 1))) m = some (nI (A 3 (secA A t (A 8 t)))) := by
    intro m hm
    have hl := spotA_lt O ht h.2.2.2.2.2.1
    have hl1 := spotA_lt O ht (d := A 8 t - 1) (by omega)
    have := minutesOf_ok R O ht h.2.2.2.2.2.1 h8
    unfold fM_minutesOf fM_ofPlace at *
    have ee : (if nI (spotA A t (A 8 t - 1)) ≤ nI (spotA A t (A 8 t)) then nI (spotA A t (A 8 t - 1)) else nI (spotA A t (A 8 t))) = nI (if spotA A t (A 8 t - 1) ≤ spotA A t (A 8 t) then spotA A t (A 8 t - 1) else spotA A t (A 8 t)) := by
      rw [if_le (by omega) (by omega)]; split <;> rfl
    have hq : (if spotA A t (A 8 t - 1) ≤ spotA A t (A 8 t) then spotA A t (A 8 t - 1) else spotA A t (A 8 t)) < 6 := by split <;> omega
    rw [ee] at this ⊢
    generalize (if spotA A t (A 8 t - 1) ≤ spotA A t (A 8 t) then spotA A t (A 8 t - 1) else spotA A t (A 8 t)) = w at this hq ⊢
    simp (disch := omega) only [lit_0, lit_1, lit_2, lit_3, lit_4, lit_5, lit_6, lit_7, lit_8, lit_9, lit_10, lit_11, lit_12, lit_13, lit_14, lit_15, lit_16, lit_17, lit_18, lit_19, lit_20, lit_23, lit_24, lit_31, lit_32, lit_34, lit_36, lit_40, lit_48, lit_49, lit_57, lit_58, lit_59, lit_60, lit_64, lit_96, lit_97, lit_99, lit_101, lit_105, lit_108, lit_110, lit_111, lit_112, lit_114, lit_115, lit_116, lit_122, lit_127, lit_160, lit_216, lit_235, lit_238, lit_343, lit_476, lit_1296, lit_2000, lit_2401, lt_def, bind_s, gd_d, ix_n, inb_n, nI_add, pk_mul, pk_sub, nI_leI, nI_ltI, nI_eq, nI_ltn, nI_eqn, nI_eqn2, if_pos, if_neg, if_true, if_false, nI_addm1] at this ⊢
    rw [hm _ (by omega)]
    exact this
  unfold fM_goes
  have w2 : ∀ v1 v2, (wr (wr μ (5, 0, 1) (34 + 6 * t + 3) v1) (5, 0, 1) (34 + 6 * t + 4) v2) (5, 0, 1) 2 = nI (A 11 0) := fun v1 v2 => by
    rw [wr_off _ _ (by simp), wr_off _ _ (by simp)]; exact R.ck
  have mo2 := fun v1 v2 => mo (wr (wr μ (5, 0, 1) (34 + 6 * t + 3) v1) (5, 0, 1) (34 + 6 * t + 4) v2) (fun i hi => by
    rw [wr_off _ _ (by simp; omega), wr_off _ _ (by simp; omega)])
  simp (disch := omega) only [lit_0, lit_1, lit_2, lit_3, lit_4, lit_5, lit_6, lit_7, lit_8, lit_9, lit_10, lit_11, lit_12, lit_13, lit_14, lit_15, lit_16, lit_17, lit_18, lit_19, lit_20, lit_23, lit_24, lit_31, lit_32, lit_34, lit_36, lit_40, lit_48, lit_49, lit_57, lit_58, lit_59, lit_60, lit_64, lit_96, lit_97, lit_99, lit_101, lit_105, lit_108, lit_110, lit_111, lit_112, lit_114, lit_115, lit_116, lit_122, lit_127, lit_160, lit_216, lit_235, lit_238, lit_343, lit_476, lit_1296, lit_2000, lit_2401, lt_def, bind_s, gd_d, ix_n, inb_n, nI_add, pk_mul, pk_sub, nI_leI, nI_ltI, nI_eq, nI_ltn, nI_eqn, nI_eqn2, if_pos, if_neg, if_true, if_false, nI_addm1, of3 R O ht, nf, mo2, w2]
  have fr : ∀ v1 v2 v3 i, (i < 34 + 6 * t + 3 ∨ 34 + 6 * t + 6 ≤ i) → (wr (wr (wr μ (5, 0, 1) (34 + 6 * t + 3) v1) (5, 0, 1) (34 + 6 * t + 4) v2) (5, 0, 1) (34 + 6 * t + 5) v3) (5, 0, 1) i = μ (5, 0, 1) i := fun v1 v2 v3 i hi => by
    rw [wr_off _ _ (by simp; omega), wr_off _ _ (by simp; omega), wr_off _ _ (by simp; omega)]
  generalize hM : (wr (wr (wr μ (5, 0, 1) (34 + 6 * t + 3) (nI (spotA A t (A 8 t - 1)))) (5, 0, 1) (34 + 6 * t + 4) (nI 1)) (5, 0, 1) (34 + 6 * t + 5) (nI (A 11 0 + A 3 (secA A t (A 8 t))))) = M
  have fM : ∀ i, (i < 34 + 6 * t + 3 ∨ 34 + 6 * t + 6 ≤ i) → M (5, 0, 1) i = μ (5, 0, 1) i := fun i hi => by rw [← hM]; exact fr _ _ _ i hi
  have oM : Off sSt μ M := by rw [← hM]; exact Off_wr (Off_wr (Off_wr (Off_refl _ _) rfl) rfl) rfl
  have M3 : M (5, 0, 1) (34 + 6 * t + 3) = nI (spotA A t (A 8 t - 1)) := by rw [← hM, wr_off _ _ (by simp), wr_off _ _ (by simp), wr_at]
  have M4 : M (5, 0, 1) (34 + 6 * t + 4) = nI 1 := by rw [← hM, wr_off _ _ (by simp), wr_at]
  have M5 : M (5, 0, 1) (34 + 6 * t + 5) = nI (A 11 0 + A 3 (secA A t (A 8 t))) := by rw [← hM, wr_at]
  obtain ⟨m, e1, o1, r3, rj⟩ := enters_ok (μ := M) O ((fM 3 (by omega)).trans R.en) ((fM 2 (by omega)).trans R.ck) (fun i hi => by
    rw [fM _ (by omega), fM _ (by omega), fM _ (by omega)]
    exact ⟨R.j13 hi, R.j14 hi, R.j15 hi⟩) (t := t) (p := spotA A t (A 8 t)) (by omega)
  simp only [e1, bind_s]
  refine ⟨m, rfl, Off_trans oM (Off_mono o1 sSt_sJr), ?_⟩
  have g : ∀ i, i < 58 → i ≠ 3 → m (5, 0, 1) i = M (5, 0, 1) i := fun i a b => o1 _ _ (sJr_f a b)
  refine ⟨?_, ?_, ?_, ?_, fun p hp => ?_, fun u hu => ?_, fun i hi => ?_⟩
  · rw [g 0 (by omega) (by omega), fM 0 (by omega), depA_o A t 0 (by omega)]; exact R.pl
  · rw [g 1 (by omega) (by omega), fM 1 (by omega), depA_o A t 4 (by omega)]; exact R.n
  · rw [g 2 (by omega) (by omega), fM 2 (by omega), depA_o A t 11 (by omega)]; exact R.ck
  · rw [depA_12]; exact r3
  · rw [depA_o A t 0 (by omega)] at hp
    rw [depA_o A t 1 (by omega), depA_o A t 2 (by omega), depA_o A t 3 (by omega)]
    have hk := (O.pc hp).2.1
    have := R.2.2.2.2.1 p hp
    rw [g (4 + 5 * p) (by omega) (by omega), fM (4 + 5 * p) (by omega), g (4 + 5 * p + 4) (by omega) (by omega), fM (4 + 5 * p + 4) (by omega)]
    refine ⟨this.1, this.2.1, fun i hi => ?_, this.2.2.2⟩
    rw [g (4 + 5 * p + (1 + i)) (by omega) (by omega), fM (4 + 5 * p + (1 + i)) (by omega)]
    exact this.2.2.1 i hi
  · rw [depA_o A t 4 (by omega)] at hu
    have sp : ∀ d, spotA (depA A t) u d = spotA A u d := fun d => by
      unfold spotA; rw [depA_o A t 5 (by omega), depA_o A t 6 (by omega)]
    rw [sp, depA_o A t 5 (by omega), depA_o A t 6 (by omega), depA_o A t 7 (by omega), depA_8, depA_9, depA_10]
    have gu : ∀ b, b < 6 → m (5, 0, 1) (34 + 6 * u + b) = M (5, 0, 1) (34 + 6 * u + b) := fun b hb => g _ (by omega) (by omega)
    rw [gu 0 (by omega), gu 1 (by omega), gu 2 (by omega), gu 3 (by omega), gu 4 (by omega), gu 5 (by omega)]
    by_cases e : u = t
    · subst e
      rw [upx_at, upx_at, upx_at, M3, M4, M5, fM (34 + 6 * u + 0) (by omega), fM (34 + 6 * u + 1) (by omega), fM (34 + 6 * u + 2) (by omega)]
      exact ⟨R.fr hu, R.to hu, R.sz hu, rfl, rfl, by rw [if_neg (by omega)]⟩
    · rw [upx_ne _ e, upx_ne _ e, upx_ne _ e, fM _ (by omega), fM _ (by omega), fM _ (by omega), fM _ (by omega), fM _ (by omega), fM _ (by omega)]
      exact R.2.2.2.2.2.1 u hu
  · rw [depA_12] at hi
    rw [depA_13, depA_14, depA_15]
    exact rj i hi
end Goes
