section LineR
variable {μ : Mem} {k : Nat} {A : Ab}
theorem spot_ok (R : RepL μ k A) (O : OkA A) {t d : Nat} (ht : t < A 4 0) (hd : d ≤ distA A t) : fL_spot k (nI t) (nI d) μ = some (nI (spotA A t d)) := by
  have hn := O.n4
  have h6 := O.p6
  obtain ⟨q1, q2, q3, -⟩ := O.tr ht
  unfold fL_spot
  rw [gd_in (by omega) (by omega), gd_in (by omega) (by omega), ix_n (by omega), R.to ht, R.fr ht, if_le (by omega) (by omega)]
  unfold spotA
  unfold distA at hd
  by_cases h : A 6 t ≤ A 5 t
  · rw [if_pos h, gd_in (by omega) (by omega), if_pos h, nI_add]
  · rw [if_neg h, gd_in (by omega) (by omega), if_neg h, pk_sub (by rw [if_neg h] at hd; omega)]
theorem sec_ok (R : RepL μ k A) (O : OkA A) {t d : Nat} (ht : t < A 4 0) (hd : d ≤ distA A t) (h1 : 1 ≤ d) : fL_sectionAhead k (nI t) (nI d) μ = some (nI (secA A t d)) := by
  have hn := O.n4
  have h6 := O.p6
  obtain ⟨q1, q2, q3, -⟩ := O.tr ht
  unfold fL_sectionAhead
  rw [gd_in (by omega) (by omega), gd_in (by omega) (by omega), ix_n (by omega), R.to ht, R.fr ht, if_le (by omega) (by omega)]
  unfold secA
  unfold distA at hd
  by_cases h : A 6 t ≤ A 5 t
  · rw [if_pos h, gd_in (by omega) (by omega), if_pos h, nI_add, nI_sub1 (by omega)]
  · rw [if_neg h, gd_in (by omega) (by omega), if_neg h, pk_sub (by rw [if_neg h] at hd; omega)]
theorem spotA_lt (O : OkA A) {t d : Nat} (ht : t < A 4 0) (hd : d ≤ distA A t) : spotA A t d < A 0 0 := by
  obtain ⟨q1, q2, q3, -⟩ := O.tr ht
  unfold spotA
  unfold distA at hd
  by_cases h : A 6 t ≤ A 5 t
  · rw [if_pos h] at hd ⊢; omega
  · rw [if_neg h] at hd ⊢; omega
theorem secA_lt (O : OkA A) {t d : Nat} (ht : t < A 4 0) (hd : d ≤ distA A t) (h1 : 1 ≤ d) : secA A t d + 1 < A 0 0 := by
  obtain ⟨q1, q2, q3, -⟩ := O.tr ht
  unfold secA
  unfold distA at hd
  by_cases h : A 6 t ≤ A 5 t
  · rw [if_pos h] at hd ⊢; omega
  · rw [if_neg h] at hd ⊢; omega
theorem dist_le (O : OkA A) {t : Nat} (ht : t < A 4 0) : distA A t ≤ 5 := by
  obtain ⟨q1, q2, q3, -⟩ := O.tr ht
  have := O.p6
  unfold distA
  split <;> omega
theorem hasPlace_ok (R : RepL μ k A) (O : OkA A) (x : Int32) : fL_hasPlace k x μ = some (if ∃ p, p < A 0 0 ∧ x = nI p then 1 else 0) := by
  have h6 := O.p6
  unfold fL_hasPlace
  rw [R.pl]
  rcases pk_ix x (n := A 0 0) (by omega) with h | h | ⟨j, hj, rfl⟩
  · rw [if_pos h, if_neg]
    rintro ⟨p, hp, rfl⟩
    exact nI_pos (by omega) h
  · by_cases h0 : x < 0
    · rw [if_pos h0, if_neg]
      rintro ⟨p, hp, rfl⟩
      exact nI_pos (by omega) h0
    · rw [if_neg h0, if_pos h, if_neg]
      rintro ⟨p, hp, rfl⟩
      exact nI_ge hp (by omega) h
  · rw [if_neg (nI_pos (by omega)), if_lt (by omega) (by omega) hj, if_pos ⟨j, hj, rfl⟩]
theorem hasTrain_ok (R : RepL μ k A) (O : OkA A) (x : Int32) : fL_hasTrain k x μ = some (if ∃ p, p < A 4 0 ∧ x = nI p then 1 else 0) := by
  have h6 := O.n4
  unfold fL_hasTrain
  rw [R.n]
  rcases pk_ix x (n := A 4 0) (by omega) with h | h | ⟨j, hj, rfl⟩
  · rw [if_pos h, if_neg]
    rintro ⟨p, hp, rfl⟩
    exact nI_pos (by omega) h
  · by_cases h0 : x < 0
    · rw [if_pos h0, if_neg]
      rintro ⟨p, hp, rfl⟩
      exact nI_pos (by omega) h0
    · rw [if_neg h0, if_pos h, if_neg]
      rintro ⟨p, hp, rfl⟩
      exact nI_ge hp (by omega) h
  · rw [if_neg (nI_pos (by omega)), if_lt (by omega) (by omega) hj, if_pos ⟨j, hj, rfl⟩]
theorem howMany_ok (R : RepL μ k A) (O : OkA A) {w : Nat} (hw : w ≤ 2) : fL_howMany k (nI w) μ = some (nI (cnt (fun t => decide (A 9 t = w)) (A 4 0))) := by
  have hn := O.n4
  refine ac20 (A 4 0) (by omega) (fun i => nI (cnt (fun t => decide (A 9 t = w)) i)) (fun sf i hi => ?_) (fun sf => ?_) <;> unfold bL_howMany_4 <;> rw [R.n]
  · have h9 := (O.tr hi).2.2.2.2.2.2.1
    rw [if_lt (by omega) (by omega) hi, gd_in (by omega) (by omega), ix_n (by omega), R.ss hi]
    simp only [lt_def, nI_s1, if_ee (show A 9 i < 2 ^ 31 by omega) (show w < 2 ^ 31 by omega), b2i, nI_add, cnt_s, decide_eq_true_eq]
  · rw [if_ge (by omega) (by omega) (Nat.le_refl _)]
theorem stepsLeft_ok (R : RepL μ k A) (O : OkA A) : fL_stepsLeft k μ = some (nI (sm (fun t => A 8 t) (A 4 0))) := by
  have hn := O.n4
  refine ac20 (A 4 0) (by omega) (fun i => nI (sm (fun t => A 8 t) i)) (fun sf i hi => ?_) (fun sf => ?_) <;> unfold bL_stepsLeft_4 <;> rw [R.n]
  · rw [if_lt (by omega) (by omega) hi, gd_in (by omega) (by omega), ix_n (by omega), R.lf hi]
    simp only [lt_def, nI_s1, nI_add, sm_s]
  · rw [if_ge (by omega) (by omega) (Nat.le_refl _)]
/-- who is in the POSTURE at a place -/
def atA (A : Ab) (p t : Nat) : Bool := decide (0 < A 8 t ∧ spotA A t (A 8 t) = p)
theorem howManyThere_ok (R : RepL μ k A) (O : OkA A) {p : Nat} (hp : p < A 0 0) : fL_howManyThere k (nI p) μ = some (nI (cnt (atA A p) (A 4 0))) := by
  have hn := O.n4
  have h6 := O.p6
  refine ac20 (A 4 0) (by omega) (fun i => nI (cnt (atA A p) i)) (fun sf i hi => ?_) (fun sf => ?_) <;> unfold bL_howManyThere_4 <;> rw [R.n]
  · have hd := (O.tr hi).2.2.2.2.2.1
    have h5 := dist_le O hi
    rw [if_lt (by omega) (by omega) hi, gd_in (by omega) (by omega), ix_n (by omega), R.lf hi]
    rw [if_leR 0 0 rfl (by omega) (by omega)]
    by_cases h : A 8 i ≤ 0
    · rw [if_pos h]
      simp only [lt_def, nI_s1, cnt_s, nI_z]
      have : atA A p i = false := by simp [atA]; omega
      rw [this]
      rfl
    · rw [if_neg h, gd_in (by omega) (by omega), spot_ok R O hi hd]
      have hs := spotA_lt O hi hd
      simp only [bind_s, lt_def, nI_s1, cnt_s, nI_z]
      rw [if_ee (by omega) (by omega)]
      by_cases z : spotA A i (A 8 i) = p
      · have : atA A p i = true := by simp [atA, z]; omega
        rw [if_pos z, this]
        rfl
      · have : atA A p i = false := by simp [atA, z]
        rw [if_neg z, this]
        rfl
  · rw [if_ge (by omega) (by omega) (Nat.le_refl _)]
/-- the MINUTES of d SECTIONS to run still -/
def minA (A : Ab) (t : Nat) : Nat → Nat := sm (fun d => A 3 (secA A t (d + 1)))
theorem minutesLeft_ok (R : RepL μ k A) (O : OkA A) {t : Nat} (ht : t < A 4 0) : fL_minutesLeft k (nI t) μ = some (nI (minA A t (A 8 t))) := by
  have hn := O.n4
  have h6 := O.p6
  have hd := (O.tr ht).2.2.2.2.2.1
  have h5 := dist_le O ht
  unfold fL_minutesLeft
  rw [lt_def, gd_in (by omega) (by omega), ix_n (by omega), R.lf ht, lt_def]
  refine lz20_m (fun r => r = some (nI (minA A t (A 8 t)))) (fun a b => ∃ i, i ≤ A 8 t ∧ b = nI i ∧ ∃ x, a = nI x ∧ x + minA A t i = minA A t (A 8 t)) (fun _ b => ix b) ?_ FU _ _ ⟨A 8 t, Nat.le_refl _, rfl, 0, rfl, Nat.zero_add _⟩ (by rw [ix_n (by omega)]; exact FU_gt (by omega))
  rintro sf a b ⟨i, hi, rfl, x, rfl, hx⟩
  unfold bL_minutesLeft_9
  rw [if_leR 0 0 rfl (by omega) (by omega)]
  by_cases h : i ≤ 0
  · right
    have e : i = 0 := by omega
    subst e
    rw [if_pos h]
    have : x = minA A t (A 8 t) := by simpa [minA, sm] using hx
    rw [this]
  · left
    have hl := secA_lt O ht (d := i) (by omega) (by omega)
    obtain ⟨j, rfl⟩ : ∃ j, i = j + 1 := ⟨i - 1, by omega⟩
    refine ⟨nI (x + A 3 (secA A t (j + 1))), nI j, ⟨j, by omega, rfl, _, rfl, ?_⟩, ?_, ?_⟩
    · rw [← hx]
      simp only [minA, sm_s]
      omega
    · rw [ix_n (by omega), ix_n (by omega)]; omega
    · rw [if_neg h, sec_ok R O ht (by omega) (by omega), bind_s, gd_in (by omega) (by omega), ix_n (by omega), R.mi (by omega)]
      simp only [lt_def, nI_add, nI_m1 (show 0 < j + 1 by omega)]
      rfl
/-- who RUNS in a section -/
def runA (A : Ab) (s t : Nat) : Bool := decide (A 9 t = 1 ∧ secA A t (A 8 t + 1) = s)
theorem runnerIn_ok (R : RepL μ k A) (O : OkA A) {s : Nat} (hs : s < 2 ^ 20) : fL_runnerIn k (nI s) μ = some (if fst (runA A s) (A 4 0) 0 < A 4 0 then nI (fst (runA A s) (A 4 0) 0) else -4) := by
  have hn := O.n4
  have h6 := O.p6
  refine up10 (fun r => r = some (if fst (runA A s) (A 4 0) 0 < A 4 0 then nI (fst (runA A s) (A 4 0) 0) else -4)) (A 4 0) (by omega) (fun i => ∀ j, j < i → runA A s j = false) (fun j hj => absurd hj (by omega)) (fun sf i hi hJ => ?_) (fun sf hJ => ?_) <;> unfold bL_runnerIn_2 <;> rw [R.n]
  · have h9 := (O.tr hi).2.2.2.2.2.2.1
    rw [if_lt (by omega) (by omega) hi, gd_in (by omega) (by omega), ix_n (by omega), R.ss hi]
    by_cases h1 : A 9 i = 1
    · have hr := (O.tr hi).2.2.2.2.2.2.2.2.1 h1
      have h5 := dist_le O hi
      have hl := secA_lt O hi (d := A 8 i + 1) hr (by omega)
      rw [if_eeR 1 1 rfl (by omega) (by omega), if_pos h1, gd_in (by omega) (by omega), R.lf hi, nI_s1, sec_ok R O hi hr (by omega), bind_s, if_ee (by omega) (by omega)]
      by_cases h2 : secA A i (A 8 i + 1) = s
      · right
        have hp : runA A s i = true := by simp [runA, h1, h2]
        rw [if_pos h2, fst_eq hi hJ hp, if_pos hi]
      · left
        refine ⟨fun j hj => ?_, ?_⟩
        · by_cases hj2 : j = i
          · subst hj2; simp [runA, h2]
          · exact hJ j (by omega)
        · rw [if_neg h2, lt_def, nI_s1]
    · left
      refine ⟨fun j hj => ?_, ?_⟩
      · by_cases hj2 : j = i
        · subst hj2; simp [runA, h1]
        · exact hJ j (by omega)
      · rw [if_eeR 1 1 rfl (by omega) (by omega), if_neg h1, lt_def, nI_s1]
  · rw [if_ge (by omega) (by omega) (Nat.le_refl _), fst_none hJ, if_neg (Nat.lt_irrefl _)]
end LineR
