/-! numbers within bounds -/
theorem rgN (x : Int32) (lo hi : Nat) (hl : lo < 2 ^ 31) (h : hi + 1 < 2 ^ 31) : ¬ (nI lo ≤ x ∧ x ≤ nI hi) ∨ ∃ j, lo ≤ j ∧ j ≤ hi ∧ x = nI j := by
  rcases pk_ix x (n := hi + 1) h with a | a | ⟨j, a, rfl⟩
  · left
    rintro ⟨b, -⟩
    have c : nI lo < 0 := Int32.lt_of_le_of_lt b a
    exact nI_pos hl c
  · left
    rintro ⟨-, b⟩
    have c := (nI_leI h (show hi < 2 ^ 31 by omega)).mp (Int32.le_trans a b)
    omega
  · by_cases q : lo ≤ j
    · exact Or.inr ⟨j, q, by omega, rfl⟩
    · left
      rintro ⟨b, -⟩
      exact q ((nI_leI hl (by omega)).mp b)
theorem rg_no {α : Type} {x l h : Int32} (g : ¬ (l ≤ x ∧ x ≤ h)) (a b : α) : (if x < l then a else if x ≤ h then b else a) = a := by
  by_cases c : x < l
  · rw [if_pos c]
  · rw [if_neg c, if_neg (fun d => g ⟨Int32.not_lt.mp c, d⟩)]
theorem rg_no2 {α : Type} {x : Int32} {l h : Nat} (hl : h + 1 < 2 ^ 31) (g : ¬ (nI l ≤ x ∧ x ≤ nI h)) (a b : α) : (if x < nI l then a else if nI (h + 1) ≤ x then a else b) = a := by
  by_cases c : x < nI l
  · rw [if_pos c]
  · by_cases d : nI (h + 1) ≤ x
    · rw [if_neg c, if_pos d]
    · refine absurd ⟨Int32.not_lt.mp c, ?_⟩ g
      rcases pk_ix x (n := h + 1) hl with e | e | ⟨j, e, rfl⟩
      · exact Int32.le_of_lt (Int32.lt_of_lt_of_le e (nI_pos' (by omega)))
      · exact absurd e d
      · exact (nI_leI (by omega) (by omega)).mpr (by omega)
theorem inR (x : Int32) (lo hi : Nat) {L H : Int64} (hL : L = (nI lo).toInt64) (hH : H = (nI hi).toInt64) (m : Mem) : fM_in x.toInt64 L H m = some (if nI lo ≤ x ∧ x ≤ nI hi then nI 1 else nI 0) := by
  subst hL hH
  exact in_ok x (nI lo) (nI hi) m
theorem inP {n : Nat} (hn : n < 2 ^ 31) (x : Int32) (m : Mem) : fM_in x.toInt64 (0 : Int64) ((nI n - 1).toInt64) m = some (if ∃ p, p < n ∧ x = nI p then nI 1 else nI 0) := by
  have h := in_ok x 0 (nI n - 1) m
  have e : (0 ≤ x ∧ x ≤ nI n - 1) ↔ ∃ p, p < n ∧ x = nI p := by
    by_cases z : n = 0
    · subst z
      refine ⟨fun q => ?_, fun ⟨p, hp, _⟩ => absurd hp (by omega)⟩
      have : (0 : Int32) ≤ nI 0 - 1 := Int32.le_trans q.1 q.2
      exact absurd this (by decide +kernel)
    · rw [nI_sub1 (by omega)]
      refine ⟨fun q => ?_, fun ⟨p, hp, e⟩ => ?_⟩
      · rcases rgN x 0 (n - 1) (by omega) (by omega) with a | ⟨j, _, a, rfl⟩
        · exact absurd q a
        · exact ⟨j, by omega, rfl⟩
      · subst e
        exact ⟨nI_pos' (by omega), (nI_leI (by omega) (by omega)).mpr (by omega)⟩
  have f : fM_in x.toInt64 (0 : Int64) ((nI n - 1).toInt64) m = fM_in x.toInt64 ((0 : Int32).toInt64) ((nI n - 1).toInt64) m := rfl
  rw [f, h]
  by_cases q : ∃ p, p < n ∧ x = nI p
  · rw [if_pos q, if_pos (e.mpr q)]; rfl
  · rw [if_neg q, if_neg (fun w => q (e.mp w))]; rfl
section Rg
variable {μ : Mem} {A : Ab} {B : Nat → Nat → Nat}
theorem isPlaceM_ok (R : RepR (μ (5, 0, 1)) A B) (O : OkA A) (x : Int32) : fM_isPlace x μ = some (if ∃ p, p < A 0 0 ∧ x = nI p then nI 1 else nI 0) := by
  have h6 := O.p6
  have h := inP (n := A 0 0) (by omega) x μ
  unfold fM_isPlace
  rw [lit_1] at h
  simp (disch := omega) only [lit_0, lit_1, gd_d, ix_n, inb_n, R.pl, h, bind_s]
  by_cases q : ∃ p, p < A 0 0 ∧ x = nI p
  · rw [if_pos q]; rfl
  · rw [if_neg q]; rfl
theorem isTrainM_ok (R : RepR (μ (5, 0, 1)) A B) (O : OkA A) (x : Int32) : fM_isTrain x μ = some (if ∃ p, p < A 4 0 ∧ x = nI p then nI 1 else nI 0) := by
  have h6 := O.n4
  have h := inP (n := A 4 0) (by omega) x μ
  unfold fM_isTrain
  rw [lit_1] at h
  simp (disch := omega) only [lit_0, lit_1, gd_d, ix_n, inb_n, R.n, h, bind_s]
  by_cases q : ∃ p, p < A 4 0 ∧ x = nI p
  · rw [if_pos q]; rfl
  · rw [if_neg q]; rfl
end Rg
