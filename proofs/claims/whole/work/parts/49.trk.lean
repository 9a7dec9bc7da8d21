theorem pre_cnt {S : Nat → Nat} {x : Nat} : ∀ {m : Nat}, (∀ i, i + 1 < m → S (i + 1) ≤ S i) → ∀ i, i < cnt (fun i => decide (x ≤ S i)) m ↔ i < m ∧ x ≤ S i
  | 0, _, i => by simp [cnt]
  | m + 1, h, i => by
    have ih := pre_cnt (x := x) (m := m) (fun i hi => h i (by omega)) i
    have mono : ∀ j, j ≤ m → S m ≤ S j := by
      intro j
      induction m with
      | zero => intro hj; have : j = 0 := by omega
                rw [this]; exact Nat.le_refl _
      | succ m ihm =>
        intro hj
        by_cases e : j = m + 1
        · rw [e]; exact Nat.le_refl _
        · have h1 := h m (by omega)
          have h2 : S m ≤ S j := by
            have key : ∀ a b, a ≤ b → b ≤ m → S b ≤ S a := by
              intro a b hab
              induction b with
              | zero => intro _; have : a = 0 := by omega
                        rw [this]; exact Nat.le_refl _
              | succ b ihb =>
                intro hb
                by_cases w : a = b + 1
                · rw [w]; exact Nat.le_refl _
                · exact Nat.le_trans (h b (by omega)) (ihb (by omega) (by omega))
            exact key j m (by omega) (Nat.le_refl _)
          omega
    rw [cnt_s]
    by_cases z : x ≤ S m
    · have all : ∀ n, n ≤ m → cnt (fun i => decide (x ≤ S i)) n = n := by
        intro n
        induction n with
        | zero => intro _; rfl
        | succ n ihn =>
          intro hn
          have := mono n (by omega)
          rw [cnt_s, ihn (by omega), if_pos (decide_eq_true (show x ≤ S n by omega))]
      rw [if_pos (decide_eq_true z), all m (Nat.le_refl _)]
      refine ⟨fun hi => ⟨hi, ?_⟩, fun hi => hi.1⟩
      have := mono i (by omega)
      omega
    · rw [if_neg (by simpa using z), Nat.add_zero, ih]
      refine ⟨fun hi => ⟨by omega, hi.2⟩, fun hi => ⟨?_, hi.2⟩⟩
      by_cases e : i = m
      · subst e; exact absurd hi.2 z
      · omega
theorem cnt_mono {p q : Nat → Bool} : ∀ {n : Nat}, (∀ i, i < n → p i = true → q i = true) → cnt p n ≤ cnt q n
  | 0, _ => Nat.le_refl _
  | n + 1, h => by
    have ih := cnt_mono (p := p) (q := q) (n := n) (fun i hi => h i (by omega))
    rw [cnt_s, cnt_s]
    by_cases z : p n = true
    · rw [if_pos z, if_pos (h n (by omega) z)]; omega
    · rw [if_neg z]; split <;> omega
theorem cnt_strict {p q : Nat → Bool} {a : Nat} (h1 : p a = false) (h2 : q a = true) : ∀ {n : Nat}, a < n → (∀ i, i < n → p i = true → q i = true) → cnt p n < cnt q n
  | 0, ha, _ => absurd ha (by omega)
  | n + 1, ha, h => by
    rw [cnt_s, cnt_s]
    by_cases e : a = n
    · subst e
      have := cnt_mono (p := p) (q := q) (n := a) (fun i hi => h i (by omega))
      rw [h1, h2]
      simp
      omega
    · have ih := cnt_strict h1 h2 (n := n) (by omega) (fun i hi => h i (by omega))
      by_cases z : p n = true
      · rw [if_pos z, if_pos (h n (by omega) z)]; omega
      · rw [if_neg z]; split <;> omega
/-- how many are ahead of a -/
def hdN (b : Nat → Nat) (m a : Nat) : Nat := cnt (fun j => decide (b a < b j ∨ (b j = b a ∧ j < a))) m
theorem hdN_lt (b : Nat → Nat) {m a : Nat} (ha : a < m) : hdN b m a < m := by
  have h1 := cnt_strict (p := fun j => decide (b a < b j ∨ (b j = b a ∧ j < a))) (q := fun _ => true) (a := a) (decide_eq_false (by omega)) rfl ha (fun _ _ _ => rfl)
  have h2 := cnt_le (fun _ => true) m
  unfold hdN
  omega
theorem hdN_val {b S : Nat → Nat} {m a k : Nat} (hs : ∀ i, i + 1 < m → S (i + 1) ≤ S i) (hc : ∀ x, cnt (fun i => decide (x ≤ b i)) m = cnt (fun i => decide (x ≤ S i)) m) (ha : a < m) (hk : hdN b m a = k) : b a = S k := by
  have h1 : k < cnt (fun i => decide (b a ≤ b i)) m := by
    rw [← hk]
    exact cnt_strict (a := a) (decide_eq_false (by omega)) (decide_eq_true (Nat.le_refl _)) ha (fun i _ z => decide_eq_true (by have := of_decide_eq_true z; omega))
  have h2 : cnt (fun i => decide (b a + 1 ≤ b i)) m ≤ k := by
    rw [← hk]
    exact cnt_mono (fun i _ z => decide_eq_true (by have := of_decide_eq_true z; omega))
  rw [hc] at h1 h2
  have g1 := (pre_cnt hs k).mp h1
  have g2 : ¬ k < cnt (fun i => decide (b a + 1 ≤ S i)) m := by omega
  rw [pre_cnt hs k] at g2
  have : ¬ (b a + 1 ≤ S k) := fun z => g2 ⟨g1.1, z⟩
  omega
theorem hdN_ex (b : Nat → Nat) {m k : Nat} (hm : m ≤ 3) (hk : k < m) : ∃ a, a < m ∧ hdN b m a = k := by
  have c : m = 1 ∨ m = 2 ∨ m = 3 := by omega
  rcases c with rfl | rfl | rfl
  · refine ⟨0, by omega, ?_⟩
    have := hdN_lt b (m := 1) (a := 0) (by omega)
    omega
  · by_cases c01 : b 1 ≤ b 0
    · have e0 : hdN b 2 0 = 0 := by simp [hdN, cnt]; omega
      have e1 : hdN b 2 1 = 1 := by simp [hdN, cnt]; omega
      by_cases z : k = 0
      · exact ⟨0, by omega, by omega⟩
      · exact ⟨1, by omega, by omega⟩
    · have e0 : hdN b 2 0 = 1 := by simp [hdN, cnt]; omega
      have e1 : hdN b 2 1 = 0 := by simp [hdN, cnt]; omega
      by_cases z : k = 0
      · exact ⟨1, by omega, by omega⟩
      · exact ⟨0, by omega, by omega⟩
  · have f : ∀ a, hdN b 3 a = (if b a < b 0 ∨ (b 0 = b a ∧ 0 < a) then 1 else 0) + (if b a < b 1 ∨ (b 1 = b a ∧ 1 < a) then 1 else 0) + (if b a < b 2 ∨ (b 2 = b a ∧ 2 < a) then 1 else 0) := by
      intro a
      simp [hdN, cnt]
    have f0 := f 0
    have f1 := f 1
    have f2 := f 2
    have n0 : ¬ (b 0 < b 0 ∨ (b 0 = b 0 ∧ 0 < 0)) := by omega
    have n1 : ¬ (b 1 < b 1 ∨ (b 1 = b 1 ∧ 1 < 1)) := by omega
    have n2 : ¬ (b 2 < b 2 ∨ (b 2 = b 2 ∧ 2 < 2)) := by omega
    rw [if_neg n0] at f0
    rw [if_neg n1] at f1
    rw [if_neg n2] at f2
    have key : hdN b 3 0 = k ∨ hdN b 3 1 = k ∨ hdN b 3 2 = k := by
      by_cases c01 : b 1 ≤ b 0 <;> by_cases c02 : b 2 ≤ b 0 <;> by_cases c12 : b 2 ≤ b 1
      all_goals
        first
        | omega
        | (simp (disch := omega) only [if_pos, if_neg] at f0 f1 f2; omega)
    rcases key with h | h | h
    · exact ⟨0, by omega, h⟩
    · exact ⟨1, by omega, h⟩
    · exact ⟨2, by omega, h⟩
section Trk
variable {μ : Mem} {A : Ab} {B : Nat → Nat → Nat}
theorem trackOf_ok (R : RepR (μ (5, 0, 1)) A B) (O : OkA A) {p k : Nat} (hp : p < A 0 0) (hk : k < 3) : fM_trackOf (nI p) (nI k) μ = some (if k < A 1 p then nI (A 2 (3 * p + k)) else -4) := by
  have h := O.pc hp
  have h6 := O.p6
  have hB : ∀ i, i < A 1 p → 1 ≤ B p i ∧ B p i ≤ 20 := fun i hi => ((R.2.2.2.2.1 p hp).2.2.1 i hi).2
  refine up10 (B := bM_trackOf_2 (nI p) (nI k) μ) (fun r => r = some (if k < A 1 p then nI (A 2 (3 * p + k)) else -4)) (A 1 p) (by omega) (fun i => ∀ j, j < i → hdN (B p) (A 1 p) j ≠ k) (fun j hj => absurd hj (by omega)) (fun sf i hi hJ => ?_) (fun sf hJ => ?_) <;> unfold bM_trackOf_2
  · simp (disch := omega) only [lit_0, lit_1, lit_2, lit_3, lit_4, lit_5, lit_6, lit_7, lit_8, lit_9, lit_10, lit_11, lit_12, lit_13, lit_14, lit_15, lit_16, lit_17, lit_18, lit_19, lit_20, lit_23, lit_24, lit_31, lit_32, lit_34, lit_36, lit_40, lit_48, lit_49, lit_57, lit_58, lit_59, lit_60, lit_64, lit_96, lit_97, lit_99, lit_101, lit_105, lit_108, lit_110, lit_111, lit_112, lit_114, lit_115, lit_116, lit_122, lit_127, lit_160, lit_216, lit_235, lit_238, lit_343, lit_476, lit_1296, lit_2000, lit_2401, lt_def, bind_s, gd_d, ix_n, inb_n, nI_add, pk_mul, pk_sub, nI_leI, nI_ltI, nI_eq, nI_ltn, nI_eqn, nI_eqn2, if_pos, if_neg, if_true, if_false, nI_addm1, op0 R O hp]
    have hl := hdN_lt (B p) hi
    have key : lz20 (bM_trackOf_18 (nI p) (nI k) μ sf (nI i)) FU (nI 0) (nI 0) = jM_trackOf_84 (nI p) (nI k) μ sf (nI i) (nI (hdN (B p) (A 1 p) i)) (nI (A 1 p)) := by
      refine ac20 (B := bM_trackOf_18 (nI p) (nI k) μ sf (nI i)) (A 1 p) (by omega) (fun j => nI (cnt (fun j => decide (B p i < B p j ∨ (B p j = B p i ∧ j < i))) j)) (fun sf2 j hj => ?_) (fun sf2 => ?_) <;> unfold bM_trackOf_18
      · have b1 := hB i hi
        have b2 := hB j hj
        simp (disch := omega) only [lit_0, lit_1, lit_2, lit_3, lit_4, lit_5, lit_6, lit_7, lit_8, lit_9, lit_10, lit_11, lit_12, lit_13, lit_14, lit_15, lit_16, lit_17, lit_18, lit_19, lit_20, lit_23, lit_24, lit_31, lit_32, lit_34, lit_36, lit_40, lit_48, lit_49, lit_57, lit_58, lit_59, lit_60, lit_64, lit_96, lit_97, lit_99, lit_101, lit_105, lit_108, lit_110, lit_111, lit_112, lit_114, lit_115, lit_116, lit_122, lit_127, lit_160, lit_216, lit_235, lit_238, lit_343, lit_476, lit_1296, lit_2000, lit_2401, lt_def, bind_s, gd_d, ix_n, inb_n, nI_add, pk_mul, pk_sub, nI_leI, nI_ltI, nI_eq, nI_ltn, nI_eqn, nI_eqn2, if_pos, if_neg, if_true, if_false, nI_addm1, op0 R O hp, opi R O hp hj, opi R O hp hi, cnt_s, decide_eq_true_eq]
        by_cases c1 : B p i < B p j
        · simp (disch := omega) only [lit_0, lit_1, lit_2, lit_3, lit_4, lit_5, lit_6, lit_7, lit_8, lit_9, lit_10, lit_11, lit_12, lit_13, lit_14, lit_15, lit_16, lit_17, lit_18, lit_19, lit_20, lit_23, lit_24, lit_31, lit_32, lit_34, lit_36, lit_40, lit_48, lit_49, lit_57, lit_58, lit_59, lit_60, lit_64, lit_96, lit_97, lit_99, lit_101, lit_105, lit_108, lit_110, lit_111, lit_112, lit_114, lit_115, lit_116, lit_122, lit_127, lit_160, lit_216, lit_235, lit_238, lit_343, lit_476, lit_1296, lit_2000, lit_2401, lt_def, bind_s, gd_d, ix_n, inb_n, nI_add, pk_mul, pk_sub, nI_leI, nI_ltI, nI_eq, nI_ltn, nI_eqn, nI_eqn2, if_pos, if_neg, if_true, if_false, nI_addm1, flag_1]
        · by_cases c2 : B p j = B p i
          · have e : nI (B p j) - nI (B p i) = nI 0 := by rw [c2]; exact Int32.sub_self _
            rw [e]
            by_cases c3 : j < i
            · simp (disch := omega) only [lit_0, lit_1, lit_2, lit_3, lit_4, lit_5, lit_6, lit_7, lit_8, lit_9, lit_10, lit_11, lit_12, lit_13, lit_14, lit_15, lit_16, lit_17, lit_18, lit_19, lit_20, lit_23, lit_24, lit_31, lit_32, lit_34, lit_36, lit_40, lit_48, lit_49, lit_57, lit_58, lit_59, lit_60, lit_64, lit_96, lit_97, lit_99, lit_101, lit_105, lit_108, lit_110, lit_111, lit_112, lit_114, lit_115, lit_116, lit_122, lit_127, lit_160, lit_216, lit_235, lit_238, lit_343, lit_476, lit_1296, lit_2000, lit_2401, lt_def, bind_s, gd_d, ix_n, inb_n, nI_add, pk_mul, pk_sub, nI_leI, nI_ltI, nI_eq, nI_ltn, nI_eqn, nI_eqn2, if_pos, if_neg, if_true, if_false, nI_addm1, flag_1]
            · simp (disch := omega) only [lit_0, lit_1, lit_2, lit_3, lit_4, lit_5, lit_6, lit_7, lit_8, lit_9, lit_10, lit_11, lit_12, lit_13, lit_14, lit_15, lit_16, lit_17, lit_18, lit_19, lit_20, lit_23, lit_24, lit_31, lit_32, lit_34, lit_36, lit_40, lit_48, lit_49, lit_57, lit_58, lit_59, lit_60, lit_64, lit_96, lit_97, lit_99, lit_101, lit_105, lit_108, lit_110, lit_111, lit_112, lit_114, lit_115, lit_116, lit_122, lit_127, lit_160, lit_216, lit_235, lit_238, lit_343, lit_476, lit_1296, lit_2000, lit_2401, lt_def, bind_s, gd_d, ix_n, inb_n, nI_add, pk_mul, pk_sub, nI_leI, nI_ltI, nI_eq, nI_ltn, nI_eqn, nI_eqn2, if_pos, if_neg, if_true, if_false, nI_addm1, flag_0]
          · have e : nI (B p j) - nI (B p i) = -nI (B p i - B p j) := by
              have := nI_subn (B p j) (B p i - B p j)
              rw [show B p j + (B p i - B p j) = B p i by omega] at this
              exact this
            have e2 : ¬ (nI 0 < -nI (B p i - B p j)) := by
              rw [Int32.not_lt]
              exact Int32.le_of_lt (of_eq_true (nI_ltn (by omega) (by omega) (by omega)))
            have e3 : ¬ (-nI (B p i - B p j) = nI 0) := fun z => of_eq_false (nI_eqn2 (by omega) (by omega) (by omega)) z
            rw [e]
            simp (disch := omega) only [lit_0, lit_1, lit_2, lit_3, lit_4, lit_5, lit_6, lit_7, lit_8, lit_9, lit_10, lit_11, lit_12, lit_13, lit_14, lit_15, lit_16, lit_17, lit_18, lit_19, lit_20, lit_23, lit_24, lit_31, lit_32, lit_34, lit_36, lit_40, lit_48, lit_49, lit_57, lit_58, lit_59, lit_60, lit_64, lit_96, lit_97, lit_99, lit_101, lit_105, lit_108, lit_110, lit_111, lit_112, lit_114, lit_115, lit_116, lit_122, lit_127, lit_160, lit_216, lit_235, lit_238, lit_343, lit_476, lit_1296, lit_2000, lit_2401, lt_def, bind_s, gd_d, ix_n, inb_n, nI_add, pk_mul, pk_sub, nI_leI, nI_ltI, nI_eq, nI_ltn, nI_eqn, nI_eqn2, if_pos, if_neg, if_true, if_false, nI_addm1, if_neg e2, if_neg e3, flag_0]
      · simp (disch := omega) only [lit_0, lit_1, lit_2, lit_3, lit_4, lit_5, lit_6, lit_7, lit_8, lit_9, lit_10, lit_11, lit_12, lit_13, lit_14, lit_15, lit_16, lit_17, lit_18, lit_19, lit_20, lit_23, lit_24, lit_31, lit_32, lit_34, lit_36, lit_40, lit_48, lit_49, lit_57, lit_58, lit_59, lit_60, lit_64, lit_96, lit_97, lit_99, lit_101, lit_105, lit_108, lit_110, lit_111, lit_112, lit_114, lit_115, lit_116, lit_122, lit_127, lit_160, lit_216, lit_235, lit_238, lit_343, lit_476, lit_1296, lit_2000, lit_2401, lt_def, bind_s, gd_d, ix_n, inb_n, nI_add, pk_mul, pk_sub, nI_leI, nI_ltI, nI_eq, nI_ltn, nI_eqn, nI_eqn2, if_pos, if_neg, if_true, if_false, nI_addm1, op0 R O hp]
        rfl
    rw [key]
    unfold jM_trackOf_84 jM_trackOf_90
    simp (disch := omega) only [lit_0, lit_1, lit_2, lit_3, lit_4, lit_5, lit_6, lit_7, lit_8, lit_9, lit_10, lit_11, lit_12, lit_13, lit_14, lit_15, lit_16, lit_17, lit_18, lit_19, lit_20, lit_23, lit_24, lit_31, lit_32, lit_34, lit_36, lit_40, lit_48, lit_49, lit_57, lit_58, lit_59, lit_60, lit_64, lit_96, lit_97, lit_99, lit_101, lit_105, lit_108, lit_110, lit_111, lit_112, lit_114, lit_115, lit_116, lit_122, lit_127, lit_160, lit_216, lit_235, lit_238, lit_343, lit_476, lit_1296, lit_2000, lit_2401, lt_def, bind_s, gd_d, ix_n, inb_n, nI_add, pk_mul, pk_sub, nI_leI, nI_ltI, nI_eq, nI_ltn, nI_eqn, nI_eqn2, if_pos, if_neg, if_true, if_false, nI_addm1, opi R O hp hi]
    by_cases z : hdN (B p) (A 1 p) i = k
    · right
      have hv := hdN_val (S := fun i => A 2 (3 * p + i)) h.2.2.2.2.2 (R.ct hp) hi z
      rw [if_pos z, hv, if_pos (by omega)]
    · left
      refine ⟨fun j hj => ?_, by rw [if_neg z]⟩
      by_cases e : j = i
      · subst e; exact z
      · exact hJ j (by omega)
  · simp (disch := omega) only [lit_0, lit_1, lit_2, lit_3, lit_4, lit_5, lit_6, lit_7, lit_8, lit_9, lit_10, lit_11, lit_12, lit_13, lit_14, lit_15, lit_16, lit_17, lit_18, lit_19, lit_20, lit_23, lit_24, lit_31, lit_32, lit_34, lit_36, lit_40, lit_48, lit_49, lit_57, lit_58, lit_59, lit_60, lit_64, lit_96, lit_97, lit_99, lit_101, lit_105, lit_108, lit_110, lit_111, lit_112, lit_114, lit_115, lit_116, lit_122, lit_127, lit_160, lit_216, lit_235, lit_238, lit_343, lit_476, lit_1296, lit_2000, lit_2401, lt_def, bind_s, gd_d, ix_n, inb_n, nI_add, pk_mul, pk_sub, nI_leI, nI_ltI, nI_eq, nI_ltn, nI_eqn, nI_eqn2, if_pos, if_neg, if_true, if_false, nI_addm1, op0 R O hp]
    rw [if_neg]
    intro z
    obtain ⟨a, ha, hh⟩ := hdN_ex (B p) h.2.1 z
    exact hJ a ha hh
theorem reachM_ok (R : RepR (μ (5, 0, 1)) A B) (O : OkA A) {so : Nat} (hso : so ≤ 1) : ∃ μ', fM_reach (nI so) μ = some (nI (cnt (rB A (dA A) so) 1296), μ') ∧ Off sEx μ μ' := by
  have D := DOk_dA O
  obtain ⟨m, n, q, e1, o1, E1⟩ := explore_ok R O D
  obtain ⟨h1, h2, h3, h4, h5, h6⟩ := E1
  unfold fM_reach
  have hin : fM_in (nI so).toInt64 (0 : Int64) (1 : Int64) μ = some (nI 1) := by
    have := in_ok (nI so) 0 1 μ
    rw [if_pos] at this
    · exact this
    · have e0 : (0 : Int32) = nI 0 := rfl
      have e1 : (1 : Int32) = nI 1 := rfl
      rw [e0, e1, nI_leI (by omega) (by omega), nI_leI (by omega) (by omega)]
      omega
  have n1 : ¬ nI 1 = nI 0 := by decide +kernel
  simp only [hin, bind_s, lit_0, if_neg n1, postureNow_ok R O, e1, lt_def]
  refine ⟨m, ?_, o1⟩
  have Dq : ∀ i, i < n → DOk A (q i) := fun i hi => DOk_le D (Rch_le (h3 i hi).2)
  have hcnt : cnt (rB A (dA A) so) 1296 = cnt (fun k => decide (so = 0) || safeB A (q k)) n := by
    rw [← cnt_exB (fun k => decide (so = 0) || safeB A (q k)) (fun k => code6 (q k)) (N := 1296) (n := n) (fun i j a b z => h4 i j a b (code6_inj O (Dq i (by omega)) (Dq j b) z)) (fun i hi => code6_lt O (Dq i hi))]
    refine cnt_congr (fun c _ => ?_)
    cases w : exB (fun k => decide (so = 0) || safeB A (q k)) (fun k => code6 (q k)) n c with
    | true =>
      obtain ⟨i, a, b, c2⟩ := (exB_iff _ _ _ _).mp w
      refine rB_iff.mpr ⟨q i, (h3 i a).2, b, fun z => ?_⟩
      rw [Bool.or_eq_true, decide_eq_true_eq, safeB_iff] at c2
      rcases c2 with c2 | c2
      · omega
      · exact c2
    | false =>
      cases v : rB A (dA A) so c with
      | false => rfl
      | true =>
        obtain ⟨e, a, b, c2⟩ := rB_iff.mp v
        obtain ⟨i, hi, rfl⟩ := h5 e a
        have : exB (fun k => decide (so = 0) || safeB A (q k)) (fun k => code6 (q k)) n c = true := (exB_iff _ _ _ _).mpr ⟨i, hi, b, by
          rw [Bool.or_eq_true, decide_eq_true_eq, safeB_iff]
          by_cases z : so = 0
          · exact Or.inl z
          · exact Or.inr (c2 (by omega))⟩
        rw [this] at w; cases w
  rw [hcnt]
  refine ac20 (B := bM_reach_24 (nI so) m) n (by omega) (fun i => nI (cnt (fun k => decide (so = 0) || safeB A (q k)) i)) (fun sf i hi => ?_) (fun sf => ?_) <;> unfold bM_reach_24
  · have hs := h6 (q i) (h3 i hi).2
    have hc := code7_lt O (Dq i hi)
    simp (disch := omega) only [lit_0, lit_1, lit_2, lit_3, lit_4, lit_5, lit_6, lit_7, lit_8, lit_9, lit_10, lit_11, lit_12, lit_13, lit_14, lit_15, lit_16, lit_17, lit_18, lit_19, lit_20, lit_23, lit_24, lit_31, lit_32, lit_34, lit_36, lit_40, lit_48, lit_49, lit_57, lit_58, lit_59, lit_60, lit_64, lit_96, lit_97, lit_99, lit_101, lit_105, lit_108, lit_110, lit_111, lit_112, lit_114, lit_115, lit_116, lit_122, lit_127, lit_160, lit_216, lit_235, lit_238, lit_343, lit_476, lit_1296, lit_2000, lit_2401, lt_def, bind_s, gd_d, ix_n, inb_n, nI_add, pk_mul, pk_sub, nI_leI, nI_ltI, nI_eq, nI_ltn, nI_eqn, nI_eqn2, if_pos, if_neg, if_true, if_false, nI_addm1, h1, (h3 i hi).1, hs, jM_reach_56, flag_0, flag_1, cnt_s]
    by_cases z : so = 0
    · simp [z]
    · by_cases w : safeB A (q i) = true
      · simp (disch := omega) only [lit_0, lit_1, lit_2, lit_3, lit_4, lit_5, lit_6, lit_7, lit_8, lit_9, lit_10, lit_11, lit_12, lit_13, lit_14, lit_15, lit_16, lit_17, lit_18, lit_19, lit_20, lit_23, lit_24, lit_31, lit_32, lit_34, lit_36, lit_40, lit_48, lit_49, lit_57, lit_58, lit_59, lit_60, lit_64, lit_96, lit_97, lit_99, lit_101, lit_105, lit_108, lit_110, lit_111, lit_112, lit_114, lit_115, lit_116, lit_122, lit_127, lit_160, lit_216, lit_235, lit_238, lit_343, lit_476, lit_1296, lit_2000, lit_2401, lt_def, bind_s, gd_d, ix_n, inb_n, nI_add, pk_mul, pk_sub, nI_leI, nI_ltI, nI_eq, nI_ltn, nI_eqn, nI_eqn2, if_pos, if_neg, if_true, if_false, nI_addm1, if_pos w, decide_eq_false z, w, Bool.or_true]
      · have wf : safeB A (q i) = false := by simpa using w
        simp (disch := omega) only [lit_0, lit_1, lit_2, lit_3, lit_4, lit_5, lit_6, lit_7, lit_8, lit_9, lit_10, lit_11, lit_12, lit_13, lit_14, lit_15, lit_16, lit_17, lit_18, lit_19, lit_20, lit_23, lit_24, lit_31, lit_32, lit_34, lit_36, lit_40, lit_48, lit_49, lit_57, lit_58, lit_59, lit_60, lit_64, lit_96, lit_97, lit_99, lit_101, lit_105, lit_108, lit_110, lit_111, lit_112, lit_114, lit_115, lit_116, lit_122, lit_127, lit_160, lit_216, lit_235, lit_238, lit_343, lit_476, lit_1296, lit_2000, lit_2401, lt_def, bind_s, gd_d, ix_n, inb_n, nI_add, pk_mul, pk_sub, nI_leI, nI_ltI, nI_eq, nI_ltn, nI_eqn, nI_eqn2, if_pos, if_neg, if_true, if_false, nI_addm1, decide_eq_false z, wf, Bool.false_or, Bool.false_eq_true]
  · simp (disch := omega) only [lit_0, lit_1, lit_2, lit_3, lit_4, lit_5, lit_6, lit_7, lit_8, lit_9, lit_10, lit_11, lit_12, lit_13, lit_14, lit_15, lit_16, lit_17, lit_18, lit_19, lit_20, lit_23, lit_24, lit_31, lit_32, lit_34, lit_36, lit_40, lit_48, lit_49, lit_57, lit_58, lit_59, lit_60, lit_64, lit_96, lit_97, lit_99, lit_101, lit_105, lit_108, lit_110, lit_111, lit_112, lit_114, lit_115, lit_116, lit_122, lit_127, lit_160, lit_216, lit_235, lit_238, lit_343, lit_476, lit_1296, lit_2000, lit_2401, lt_def, bind_s, gd_d, ix_n, inb_n, nI_add, pk_mul, pk_sub, nI_leI, nI_ltI, nI_eq, nI_ltn, nI_eqn, nI_eqn2, if_pos, if_neg, if_true, if_false, nI_addm1, h1]
end Trk
