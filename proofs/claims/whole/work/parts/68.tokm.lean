/-! the reference's tokens -/
def TpM (μ : Mem) (T : Nat → Nat) (n : Nat) : Prop := n ≤ 160 ∧ μ (5, 0, 0) 6 = nI n ∧ ∀ i, i < n → μ (5, 0, 6) i = nI (T i) ∧ T i ≤ 127
def sRf : Rf → Nat → Bool := fun r i => r == (5, 0, 0) && decide (7 ≤ i ∧ i ≤ 12)
def RTok (m : Mem) (T : Nat → Nat) (n p : Nat) : Prop := m (5, 0, 0) 7 = nI (tE T n p) ∧ m (5, 0, 0) 8 = nI (tS T n p) ∧ m (5, 0, 0) 9 = nI (if tK T n p = 4 then 3 else tK T n p) ∧ (tK T n p = 2 → m (5, 0, 0) 10 = nI (tV T n p)) ∧ (tB T n p = false → m (5, 0, 0) 11 = nI 0) ∧ (tB T n p = true → m (5, 0, 0) 11 = nI 1 ∧ m (5, 0, 0) 12 = nI (tS T n p))
section TokM
variable {μ : Mem} {T : Nat → Nat} {n p : Nat}
theorem TpM_off {S : Rf → Nat → Bool} {μ' : Mem} (o : Off S μ μ') (h1 : S (5, 0, 0) 6 = false) (h2 : ∀ i, S (5, 0, 6) i = false) (H : TpM μ T n) : TpM μ' T n :=
  ⟨H.1, (o _ _ h1).trans H.2.1, fun i hi => ⟨(o _ _ (h2 i)).trans (H.2.2 i hi).1, (H.2.2 i hi).2⟩⟩
theorem RTok_off {S : Rf → Nat → Bool} {μ' : Mem} (o : Off S μ μ') (h1 : ∀ i, S (5, 0, 0) i = false) (R : RTok μ T n p) : RTok μ' T n p := by
  unfold RTok at *
  simp only [o _ _ (h1 _)]
  exact R
theorem byteAt_lt (H : TpM μ T n) {i : Nat} (hi : i < n) : fM_byteAt (nI i) μ = some (nI (T i)) := by
  have := H.1
  unfold fM_byteAt
  rw [H.2.1, if_neg (fun z => by have := (nI_leI (by omega) (by omega)).mp z; omega), gd_in (by omega) (by omega), ix_n (by omega), (H.2.2 i hi).1]
theorem byteAt_ge (H : TpM μ T n) {i : Nat} (hi : n ≤ i) (h : i < 2 ^ 31) : fM_byteAt (nI i) μ = some (-1) := by
  have := H.1
  unfold fM_byteAt
  rw [H.2.1, if_pos ((nI_leI (by omega) (by omega)).mpr hi)]
theorem in_c {c lo hi : Nat} (hc : c < 2 ^ 31) (hl : lo < 2 ^ 31) (hh : hi < 2 ^ 31) {L H : Int64} (hL : L = (nI lo).toInt64) (hH : H = (nI hi).toInt64) (m : Mem) : fM_in (nI c).toInt64 L H m = some (if lo ≤ c ∧ c ≤ hi then nI 1 else nI 0) := by
  rw [inR (nI c) lo hi hL hH m]
  by_cases q : lo ≤ c ∧ c ≤ hi
  · rw [if_pos q, if_pos ⟨(nI_leI hl hc).mpr q.1, (nI_leI hc hh).mpr q.2⟩]
  · rw [if_neg q, if_neg (fun z => q ⟨(nI_leI hl hc).mp z.1, (nI_leI hc hh).mp z.2⟩)]
theorem in_m1 {lo hi : Nat} (hl : lo < 2 ^ 31) {L H : Int64} (hL : L = (nI lo).toInt64) (hH : H = (nI hi).toInt64) (m : Mem) : fM_in (-1 : Int32).toInt64 L H m = some (nI 0) := by
  rw [inR (-1) lo hi hL hH m, if_neg]
  rintro ⟨z, -⟩
  exact of_eq_false (nI_len (a := lo) (k := 1) hl (by omega) (by omega)) z
theorem in_az {c : Nat} (hc : c < 2 ^ 31) (m : Mem) : fM_in (nI c).toInt64 (97 : Int64) (122 : Int64) m = some (if 97 ≤ c ∧ c ≤ 122 then nI 1 else nI 0) := in_c (lo := 97) (hi := 122) hc (by omega) (by omega) rfl rfl m
theorem in_09 {c : Nat} (hc : c < 2 ^ 31) (m : Mem) : fM_in (nI c).toInt64 (48 : Int64) (57 : Int64) m = some (if 48 ≤ c ∧ c ≤ 57 then nI 1 else nI 0) := in_c (lo := 48) (hi := 57) hc (by omega) (by omega) rfl rfl m
theorem in_azm (m : Mem) : fM_in (-1 : Int32).toInt64 (97 : Int64) (122 : Int64) m = some (nI 0) := in_m1 (lo := 97) (hi := 122) (by omega) rfl rfl m
theorem in_09m (m : Mem) : fM_in (-1 : Int32).toInt64 (48 : Int64) (57 : Int64) m = some (nI 0) := in_m1 (lo := 48) (hi := 57) (by omega) rfl rfl m
theorem requires_t {c : Nat} (m : Mem) : fM_requires (nI 1) (nI c) m = some m := by
  unfold fM_requires
  rw [if_neg (show ¬ nI 1 = 0 by decide +kernel)]
theorem requires_f {c s : Nat} {m : Mem} (h11 : m (5, 0, 0) 11 = nI 0) (h8 : m (5, 0, 0) 8 = nI s) : ∃ m', fM_requires (nI 0) (nI c) m = some m' ∧ Off (fun r i => r == (5, 0, 0) && decide (11 ≤ i ∧ i ≤ 12)) m m' ∧ m' (5, 0, 0) 11 = nI c ∧ m' (5, 0, 0) 12 = nI s := by
  unfold fM_requires
  have e : wr m (5, 0, 0) 11 (nI c) (5, 0, 0) 8 = nI s := (wr_off _ _ (by simp)).trans h8
  rw [if_pos (show nI 0 = 0 from rfl), h11, if_pos (show nI 0 = 0 from rfl), lt_def, lt_def, e]
  refine ⟨_, rfl, Off_wr (Off_wr (Off_refl _ _) rfl) rfl, ?_, wr_at _ _ _ _⟩
  rw [wr_off _ _ (by simp), wr_at]
def fg (T : Nat → Nat) (s i : Nat) : Nat := if i = s then 0 else if i = s + 1 then T s - 48 else 10 * (T s - 48) + (T (s + 1) - 48)
theorem sRf_r (r : Rf) (i : Nat) (h : sRf r i = false) : (fun (r : Rf) (i : Nat) => r == (5, 0, 0) && decide (11 ≤ i ∧ i ≤ 12)) r i = false := by
  simp only [sRf, Bool.and_eq_false_iff, decide_eq_false_iff_not] at *
  rcases h with h | h
  · exact Or.inl h
  · exact Or.inr (by omega)
theorem readsNum_ok (H : TpM μ T n) (hp : p ≤ n) (k2 : tK T n p = 2) {m : Mem} (o : Off sRf μ m) (h7 : m (5, 0, 0) 7 = nI (tS T n p)) (h8 : m (5, 0, 0) 8 = nI (tS T n p)) (h9 : m (5, 0, 0) 9 = nI 2) (h10 : m (5, 0, 0) 10 = nI 0) (h11 : m (5, 0, 0) 11 = nI 0) : ∃ μ', lz01 (bM_reads_140) FU m = some μ' ∧ Off sRf μ μ' ∧ RTok μ' T n p := by
  have hs := tS_b (T := T) hp
  have h160 := H.1
  have hE := tE_b (T := T) hp (by omega)
  refine lz01_m (B := bM_reads_140) (fun w => ∃ μ', w = some μ' ∧ Off sRf μ μ' ∧ RTok μ' T n p) (fun m => ∃ i, tS T n p ≤ i ∧ i ≤ tE T n p ∧ m (5, 0, 0) 7 = nI i ∧ m (5, 0, 0) 8 = nI (tS T n p) ∧ m (5, 0, 0) 9 = nI 2 ∧ m (5, 0, 0) 10 = nI (fg T (tS T n p) i) ∧ m (5, 0, 0) 11 = nI 0 ∧ Off sRf μ m) (fun m => 200 - ix (m (5, 0, 0) 7)) ?_ FU _ ⟨tS T n p, Nat.le_refl _, by omega, h7, h8, h9, by rw [h10]; unfold fg; rw [if_pos rfl], h11, o⟩ (FU_gt (by omega))
  rintro sf m ⟨i, i1, i2, d7, d8, d9, d10, d11, o4⟩
  have H4 := TpM_off o4 rfl (fun _ => rfl) H
  unfold bM_reads_140
  by_cases ei : i = tE T n p
  · right
    have ex : ∃ μ', jM_reads_217 m = some μ' ∧ Off sRf μ μ' ∧ RTok μ' T n p := by
      subst ei
      have ev : fg T (tS T n p) (tE T n p) = tV T n p := by
        unfold fg tV
        rw [if_neg (by omega)]
      rw [ev] at d10
      unfold jM_reads_217
      have e1 : (if (2 : Int32) < nI (tE T n p) - nI (tS T n p) then (0 : Int32) else 1) = nI (if 2 < tE T n p - tS T n p then 0 else 1) := by
        rw [pk_sub (by omega)]
        by_cases q : 2 < tE T n p - tS T n p
        · have c : (2 : Int32) < nI (tE T n p - tS T n p) := (nI_ltI (a := 2) (by omega) (by omega)).mpr q
          rw [if_pos c, if_pos q]; rfl
        · have c : ¬ (2 : Int32) < nI (tE T n p - tS T n p) := fun z => q ((nI_ltI (a := 2) (by omega) (by omega)).mp z)
          rw [if_neg c, if_neg q]; rfl
      rw [d7, d8, e1, lt_def]
      by_cases q : 2 < tE T n p - tS T n p
      · obtain ⟨m1, f1, o1, a11, a12⟩ := requires_f (c := 1) d11 d8
        have bt : tB T n p = true := tB_t.mpr (by omega)
        rw [if_pos q]
        refine ⟨m1, ?_, Off_trans o4 (Off_mono o1 sRf_r), (o1 _ _ rfl).trans d7, (o1 _ _ rfl).trans d8, ?_, fun _ => (o1 _ _ rfl).trans d10, fun z => ?_, fun _ => ⟨a11, a12⟩⟩
        · have : fM_requires (nI 0) 1 m = some m1 := f1
          rw [this]; rfl
        · rw [if_neg (by omega), k2]; exact (o1 _ _ rfl).trans d9
        · rw [bt] at z; cases z
      · have bf : tB T n p = false := tB_f.mpr (by omega)
        rw [if_neg q]
        have rt : fM_requires (nI 1) 1 m = some m := requires_t (c := 1) m
        refine ⟨m, by rw [rt]; rfl, o4, d7, d8, ?_, fun _ => d10, fun _ => d11, fun z => ?_⟩
        · rw [if_neg (by omega), k2]; exact d9
        · rw [bf] at z; cases z
    have n0 : nI 0 = 0 := rfl
    by_cases en : n ≤ i
    · rw [d7, byteAt_ge H4 en (by omega), bind_s, in_09m, bind_s, if_pos n0]
      exact ex
    · have ti := H4.2.2 i (by omega)
      have kne := tE_out (T := T) hp (Or.inr k2) (by omega)
      rw [← ei, k2] at kne
      rw [d7, byteAt_lt H4 (by omega), bind_s, in_09 (by omega), if_neg (fun z => kne (kd_2.mpr z)), bind_s, if_pos n0]
      exact ex
  · left
    have ti := H4.2.2 i (by omega)
    have kin := tE_in (T := T) hp (Or.inr k2) (i := i) (by omega) (by omega)
    rw [k2] at kin
    have k57 := kd_2.mp kin
    have n1 : ¬ nI 1 = 0 := by decide +kernel
    rw [d7, byteAt_lt H4 (by omega), bind_s, in_09 (by omega), if_pos k57, bind_s, if_neg n1, d8, pk_sub i1]
    by_cases q : 2 ≤ i - tS T n p
    · have c : (2 : Int32) ≤ nI (i - tS T n p) := (nI_leI (a := 2) (by omega) (by omega)).mpr q
      have w7 : wr m (5, 0, 0) 10 (m (5, 0, 0) 10) (5, 0, 0) 7 = nI i := (wr_off _ _ (by simp)).trans d7
      rw [if_pos c, lt_def, w7, nI_s1, lt_def]
      refine ⟨_, ⟨i + 1, by omega, by omega, wr_at _ _ _ _, ?_, ?_, ?_, ?_, Off_wr (Off_wr o4 rfl) rfl⟩, ?_, rfl⟩
      · rw [wr_off _ _ (by simp), wr_off _ _ (by simp)]; exact d8
      · rw [wr_off _ _ (by simp), wr_off _ _ (by simp)]; exact d9
      · rw [wr_off _ _ (by simp), wr_at, d10]
        unfold fg
        rw [if_neg (by omega), if_neg (by omega), if_neg (by omega), if_neg (by omega)]
      · rw [wr_off _ _ (by simp), wr_off _ _ (by simp)]; exact d11
      · rw [wr_at, ix_n (by omega), ix_n (by omega)]; omega
    · have c : ¬ (2 : Int32) ≤ nI (i - tS T n p) := fun z => q ((nI_leI (a := 2) (by omega) (by omega)).mp z)
      have ef : (10 : Int32) * nI (fg T (tS T n p) i) + nI (T i) - 48 = nI (fg T (tS T n p) (i + 1)) := by
        have e1 : (10 : Int32) = nI 10 := rfl
        have e2 : (48 : Int32) = nI 48 := rfl
        rw [e1, e2, pk_mul, nI_add, pk_sub (by omega)]
        congr 1
        unfold fg
        by_cases w : i = tS T n p
        · subst w
          rw [if_pos rfl, if_neg (by omega), if_pos rfl]; omega
        · have w2 : i = tS T n p + 1 := by omega
          rw [if_neg w, if_pos w2, if_neg (by omega), if_neg (by omega), ← w2]; omega
      rw [if_neg c, bind_s, d10, ef, lt_def]
      have w7 : wr m (5, 0, 0) 10 (nI (fg T (tS T n p) (i + 1))) (5, 0, 0) 7 = nI i := (wr_off _ _ (by simp)).trans d7
      rw [w7, nI_s1, lt_def]
      refine ⟨_, ⟨i + 1, by omega, by omega, wr_at _ _ _ _, ?_, ?_, ?_, ?_, Off_wr (Off_wr o4 rfl) rfl⟩, ?_, rfl⟩
      · rw [wr_off _ _ (by simp), wr_off _ _ (by simp)]; exact d8
      · rw [wr_off _ _ (by simp), wr_off _ _ (by simp)]; exact d9
      · rw [wr_off _ _ (by simp), wr_at]
      · rw [wr_off _ _ (by simp), wr_off _ _ (by simp)]; exact d11
      · rw [wr_at, ix_n (by omega), ix_n (by omega)]; omega
theorem readsName_ok (H : TpM μ T n) (hp : p ≤ n) (k1 : tK T n p = 1) {m : Mem} (o : Off sRf μ m) (h7 : m (5, 0, 0) 7 = nI (tS T n p)) (h8 : m (5, 0, 0) 8 = nI (tS T n p)) (h9 : m (5, 0, 0) 9 = nI 1) (h11 : m (5, 0, 0) 11 = nI 0) : ∃ μ', lz01 (bM_reads_82) FU m = some μ' ∧ Off sRf μ μ' ∧ RTok μ' T n p := by
  have hs := tS_b (T := T) hp
  have h160 := H.1
  have hE := tE_b (T := T) hp (by omega)
  have bf : tB T n p = false := tB_f.mpr (by omega)
  refine lz01_m (B := bM_reads_82) (fun w => ∃ μ', w = some μ' ∧ Off sRf μ μ' ∧ RTok μ' T n p) (fun m => ∃ i, tS T n p ≤ i ∧ i ≤ tE T n p ∧ m (5, 0, 0) 7 = nI i ∧ m (5, 0, 0) 8 = nI (tS T n p) ∧ m (5, 0, 0) 9 = nI 1 ∧ m (5, 0, 0) 11 = nI 0 ∧ Off sRf μ m) (fun m => 200 - ix (m (5, 0, 0) 7)) ?_ FU _ ⟨tS T n p, Nat.le_refl _, by omega, h7, h8, h9, h11, o⟩ (FU_gt (by omega))
  rintro sf m ⟨i, i1, i2, d7, d8, d9, d11, o4⟩
  have H4 := TpM_off o4 rfl (fun _ => rfl) H
  have n0 : nI 0 = 0 := rfl
  have n1 : ¬ nI 1 = 0 := by decide +kernel
  unfold bM_reads_82
  by_cases ei : i = tE T n p
  · right
    have ex : ∃ μ', some m = some μ' ∧ Off sRf μ μ' ∧ RTok μ' T n p := by
      subst ei
      refine ⟨m, rfl, o4, d7, d8, ?_, fun z => by omega, fun _ => d11, fun z => ?_⟩
      · rw [if_neg (by omega), k1]; exact d9
      · rw [bf] at z; cases z
    by_cases en : n ≤ i
    · rw [d7, byteAt_ge H4 en (by omega), bind_s, in_azm, bind_s, if_pos n0]
      exact ex
    · have ti := H4.2.2 i (by omega)
      have kne := tE_out (T := T) hp (Or.inl k1) (by omega)
      rw [← ei, k1] at kne
      rw [d7, byteAt_lt H4 (by omega), bind_s, in_az (by omega), if_neg (fun z => kne (kd_1.mpr z)), bind_s, if_pos n0]
      exact ex
  · left
    have ti := H4.2.2 i (by omega)
    have kin := tE_in (T := T) hp (Or.inl k1) (i := i) (by omega) (by omega)
    rw [k1] at kin
    have k57 := kd_1.mp kin
    rw [d7, byteAt_lt H4 (by omega), bind_s, in_az (by omega), if_pos k57, bind_s, if_neg n1, nI_s1, lt_def]
    refine ⟨_, ⟨i + 1, by omega, by omega, wr_at _ _ _ _, ?_, ?_, ?_, Off_wr o4 rfl⟩, ?_, rfl⟩
    · rw [wr_off _ _ (by simp)]; exact d8
    · rw [wr_off _ _ (by simp)]; exact d9
    · rw [wr_off _ _ (by simp)]; exact d11
    · rw [wr_at, ix_n (by omega), ix_n (by omega)]; omega
theorem reads34_ok (H : TpM μ T n) (hp : p ≤ n) {m : Mem} (o : Off sRf μ m) (h7 : m (5, 0, 0) 7 = nI (tS T n p)) (h11 : m (5, 0, 0) 11 = nI 0) : ∃ μ', jM_reads_34 m = some μ' ∧ Off sRf μ μ' ∧ RTok μ' T n p := by
  have hs := tS_b (T := T) hp
  have hk0 := tK_0 (T := T) hp
  have h160 := H.1
  unfold jM_reads_34
  generalize e1 : wr m (5, 0, 0) 8 (m (5, 0, 0) 7) = m1
  have g1 : ∀ i, i ≠ 8 → m1 (5, 0, 0) i = m (5, 0, 0) i := fun i hi => by rw [← e1, wr_off _ _ (by simp [hi])]
  have o1 : Off sRf μ m1 := by rw [← e1]; exact Off_wr o rfl
  have H1 := TpM_off o1 rfl (fun _ => rfl) H
  have a7 : m1 (5, 0, 0) 7 = nI (tS T n p) := (g1 7 (by omega)).trans h7
  have a8 : m1 (5, 0, 0) 8 = nI (tS T n p) := by rw [← e1, wr_at]; exact h7
  have a11 : m1 (5, 0, 0) 11 = nI 0 := (g1 11 (by omega)).trans h11
  have n0 : nI 0 = 0 := rfl
  have n1 : ¬ nI 1 = 0 := by decide +kernel
  rw [lt_def, a7]
  by_cases c : tS T n p = n
  · have k0 := hk0.mpr c
    have bf : tB T n p = false := tB_f.mpr (by omega)
    rw [byteAt_ge H1 (by omega) (by omega), bind_s, lt_def, if_neg (by decide +kernel), lt_def]
    refine ⟨_, rfl, Off_wr o1 rfl, ?_, ?_, ?_, fun z => by omega, fun _ => ?_, fun z => by rw [bf] at z; cases z⟩
    · rw [wr_off _ _ (by simp), tE_0 k0]; exact a7
    · rw [wr_off _ _ (by simp)]; exact a8
    · rw [wr_at, k0, if_neg (by omega)]; rfl
    · rw [wr_off _ _ (by simp)]; exact a11
  · have hl : tS T n p < n := by omega
    have kp := tK_p (T := T) hl
    have kr := kd_r (T (tS T n p))
    have ti := H1.2.2 _ hl
    have p0 : (0 : Int32) ≤ nI (T (tS T n p)) := nI_pos' (by omega)
    rw [byteAt_lt H1 hl, bind_s, lt_def, if_pos p0, in_az (by omega), bind_s]
    by_cases q1 : 97 ≤ T (tS T n p) ∧ T (tS T n p) ≤ 122
    · have k1 : tK T n p = 1 := by rw [kp]; exact kd_1.mpr q1
      rw [if_pos q1, if_neg n1, lt_def]
      refine readsName_ok H hp k1 (Off_wr o1 rfl) ?_ ?_ ?_ ?_
      · rw [wr_off _ _ (by simp)]; exact a7
      · rw [wr_off _ _ (by simp)]; exact a8
      · rw [wr_at]; rfl
      · rw [wr_off _ _ (by simp)]; exact a11
    · rw [if_neg q1, if_pos n0, in_09 (by omega), bind_s]
      by_cases q2 : 48 ≤ T (tS T n p) ∧ T (tS T n p) ≤ 57
      · have k2 : tK T n p = 2 := by rw [kp]; exact kd_2.mpr q2
        rw [if_pos q2, if_neg n1, lt_def, lt_def]
        refine readsNum_ok H hp k2 (Off_wr (Off_wr o1 rfl) rfl) ?_ ?_ ?_ ?_ ?_
        · rw [wr_off _ _ (by simp), wr_off _ _ (by simp)]; exact a7
        · rw [wr_off _ _ (by simp), wr_off _ _ (by simp)]; exact a8
        · rw [wr_off _ _ (by simp), wr_at]; rfl
        · rw [wr_at]; rfl
        · rw [wr_off _ _ (by simp), wr_off _ _ (by simp)]; exact a11
      · have k34 : tK T n p = 3 ∨ tK T n p = 4 := by
          have x1 : kd (T (tS T n p)) ≠ 1 := fun z => q1 (kd_1.mp z)
          have x2 : kd (T (tS T n p)) ≠ 2 := fun z => q2 (kd_2.mp z)
          omega
        rw [if_neg q2, if_pos n0, lt_def]
        generalize e2 : wr m1 (5, 0, 0) 9 3 = m2
        have g2 : ∀ i, i ≠ 9 → m2 (5, 0, 0) i = m1 (5, 0, 0) i := fun i hi => by rw [← e2, wr_off _ _ (by simp [hi])]
        have o2 : Off sRf μ m2 := by rw [← e2]; exact Off_wr o1 rfl
        have b7 := (g2 7 (by omega)).trans a7
        have b8 := (g2 8 (by omega)).trans a8
        have b11 := (g2 11 (by omega)).trans a11
        have b9 : m2 (5, 0, 0) 9 = nI 3 := by rw [← e2, wr_at]; rfl
        have fl : ∀ m3, Off (fun r i => r == (5, 0, 0) && decide (11 ≤ i ∧ i ≤ 12)) m2 m3 → (tB T n p = false → m3 (5, 0, 0) 11 = nI 0) → (tB T n p = true → m3 (5, 0, 0) 11 = nI 1 ∧ m3 (5, 0, 0) 12 = nI (tS T n p)) → ∃ μ', lt (wr m3 (5, 0, 0) 7 ((m3 (5, 0, 0) 7) + 1)) (fun m11 => some m11) = some μ' ∧ Off sRf μ μ' ∧ RTok μ' T n p := by
          intro m3 o3 f1 f2
          have c7 := (o3 (5, 0, 0) 7 rfl).trans b7
          rw [c7, nI_s1, lt_def]
          refine ⟨_, rfl, Off_wr (Off_trans o2 (Off_mono o3 sRf_r)) rfl, ?_, ?_, ?_, fun z => by omega, fun z => ?_, fun z => ?_⟩
          · rw [wr_at, tE_34 k34]
          · rw [wr_off _ _ (by simp)]; exact (o3 _ _ rfl).trans b8
          · rw [wr_off _ _ (by simp), o3 _ _ rfl, b9]
            by_cases w : tK T n p = 4
            · rw [if_pos w]
            · rw [if_neg w]; congr 1; omega
          · rw [wr_off _ _ (by simp)]; exact f1 z
          · rw [wr_off _ _ (by simp), wr_off _ _ (by simp)]; exact f2 z
        by_cases q3 : T (tS T n p) = 59
        · have k3 : tK T n p = 3 := by rw [kp]; exact kd_3.mpr q3
          have bf : tB T n p = false := tB_f.mpr (by omega)
          have e59 : (if nI (T (tS T n p)) = 59 then (1 : Int32) else 0) = nI 1 := by rw [q3]; rfl
          have rt : fM_requires (nI 1) 1 m2 = some m2 := requires_t (c := 1) m2
          rw [e59, lt_def, rt, bind_s]
          exact fl m2 (Off_refl _ _) (fun _ => b11) (fun z => by rw [bf] at z; cases z)
        · have k4 : tK T n p = 4 := by
            have x3 : kd (T (tS T n p)) ≠ 3 := fun z => q3 (kd_3.mp z)
            omega
          have bt : tB T n p = true := tB_t.mpr (by omega)
          have e59 : (if nI (T (tS T n p)) = 59 then (1 : Int32) else 0) = nI 0 := by
            have c59 : ¬ nI (T (tS T n p)) = 59 := fun z => q3 ((nI_eq (b := 59) (by omega) (by omega)).mp z)
            rw [if_neg c59]; rfl
          obtain ⟨m3, f1, o3, r11, r12⟩ := requires_f (c := 1) b11 b8
          have rt : fM_requires (nI 0) 1 m2 = some m3 := f1
          rw [e59, lt_def, rt, bind_s]
          exact fl m3 o3 (fun z => by rw [bt] at z; cases z) (fun _ => ⟨r11, r12⟩)
theorem reads_ok (H : TpM μ T n) (hp : p ≤ n) (h7 : μ (5, 0, 0) 7 = nI p) (h11 : μ (5, 0, 0) 11 = nI 0) : ∃ μ', fM_reads μ = some μ' ∧ Off sRf μ μ' ∧ RTok μ' T n p := by
  have hs := tS_b (T := T) hp
  have h160 := H.1
  unfold fM_reads
  rw [h11, if_pos (by decide +kernel)]
  refine lz01_m (B := bM_reads_8) (fun w => ∃ μ', w = some μ' ∧ Off sRf μ μ' ∧ RTok μ' T n p) (fun m => ∃ i, p ≤ i ∧ i ≤ tS T n p ∧ m (5, 0, 0) 7 = nI i ∧ m (5, 0, 0) 11 = nI 0 ∧ Off sRf μ m) (fun m => 200 - ix (m (5, 0, 0) 7)) ?_ FU _ ⟨p, Nat.le_refl _, hs.1, h7, h11, Off_refl _ _⟩ (FU_gt (by omega))
  rintro sf m ⟨i, i1, i2, d7, d11, o4⟩
  have H4 := TpM_off o4 rfl (fun _ => rfl) H
  unfold bM_reads_8
  by_cases ei : i = tS T n p
  · right
    have jj := reads34_ok H hp o4 (by rw [← ei]; exact d7) d11
    by_cases en : n ≤ i
    · rw [d7, byteAt_ge H4 en (by omega), bind_s, if_neg (by decide +kernel)]
      exact jj
    · have ti := H4.2.2 i (by omega)
      have n32 := tS_n32 (T := T) hp (by omega)
      rw [← ei] at n32
      have c32 : ¬ nI (T i) = 32 := fun z => n32 ((nI_eq (b := 32) (by omega) (by omega)).mp z)
      rw [d7, byteAt_lt H4 (by omega), bind_s, if_neg c32]
      exact jj
  · left
    have ti := H4.2.2 i (by omega)
    have t32 := tS_32 (T := T) (n := n) i1 (by omega)
    refine ⟨wr m (5, 0, 0) 7 (nI (i + 1)), ⟨i + 1, by omega, by omega, wr_at _ _ _ _, (wr_off _ _ (by simp)).trans d11, Off_wr o4 rfl⟩, ?_, ?_⟩
    · rw [wr_at, d7, ix_n (by omega), ix_n (by omega)]; omega
    · rw [d7, byteAt_lt H4 (by omega), bind_s, t32, if_pos (show nI 32 = 32 from rfl), nI_s1, lt_def]
theorem reads_f {c : Nat} (hc : 0 < c) (h : c < 2 ^ 31) (h11 : μ (5, 0, 0) 11 = nI c) : fM_reads μ = some μ := by
  unfold fM_reads
  have c0 : ¬ nI c ≤ 0 := fun z => by have := (nI_leI (b := 0) (by omega) (by omega)).mp z; omega
  rw [h11, if_neg c0]
end TokM
