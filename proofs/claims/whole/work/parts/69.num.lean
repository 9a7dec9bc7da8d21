/-! numbers and signs of the text -/
def nC (T : Nat → Nat) (n p lo hi : Nat) : Nat := if tB T n p then 1 else if tK T n p = 2 then (if lo ≤ tV T n p ∧ tV T n p ≤ hi then 0 else 3) else 2
def gC (T : Nat → Nat) (n p : Nat) : Nat := if tB T n p then 1 else if tK T n p = 3 then 0 else 2
def FlC (m : Mem) (c s : Nat) : Prop := m (2, 0, 0) 2 = nI c ∧ m (2, 0, 0) 3 = nI s
def FlM (m : Mem) (c s : Nat) : Prop := m (5, 0, 0) 11 = nI c ∧ m (5, 0, 0) 12 = nI s
theorem nC_le (T : Nat → Nat) (n p lo hi : Nat) : nC T n p lo hi ≤ 3 := by
  unfold nC
  split
  · omega
  · split
    · split <;> omega
    · omega
theorem gC_le (T : Nat → Nat) (n p : Nat) : gC T n p ≤ 2 := by
  unfold gC
  split
  · omega
  · split <;> omega
theorem nC_0 {T : Nat → Nat} {n p lo hi : Nat} (h : nC T n p lo hi = 0) : tB T n p = false ∧ tK T n p = 2 ∧ lo ≤ tV T n p ∧ tV T n p ≤ hi := by
  unfold nC at h
  cases b : tB T n p with
  | true => rw [b, if_pos rfl] at h; omega
  | false =>
    rw [b, if_neg (by simp)] at h
    by_cases k : tK T n p = 2
    · rw [if_pos k] at h
      by_cases v : lo ≤ tV T n p ∧ tV T n p ≤ hi
      · exact ⟨rfl, k, v⟩
      · rw [if_neg v] at h; omega
    · rw [if_neg k] at h; omega
theorem gC_0 {T : Nat → Nat} {n p : Nat} (h : gC T n p = 0) : tB T n p = false ∧ tK T n p = 3 := by
  unfold gC at h
  cases b : tB T n p with
  | true => rw [b, if_pos rfl] at h; omega
  | false =>
    rw [b, if_neg (by simp)] at h
    by_cases k : tK T n p = 3
    · exact ⟨rfl, k⟩
    · rw [if_neg k] at h; omega
theorem sRd_f (r : Rf) (i : Nat) (h : sRd r i = false) : (fun (r : Rf) (i : Nat) => r == (2, 0, 0) && decide (2 ≤ i ∧ i ≤ 3)) r i = false := by
  simp only [sRd, Bool.and_eq_false_iff, decide_eq_false_iff_not] at *
  rcases h with h | h
  · exact Or.inl h
  · exact Or.inr (by omega)
section NumC
variable {m : Mem} {T : Nat → Nat} {n p lo hi : Nat}
theorem tV_le (H : TpC m T n) (hp : p ≤ n) (k2 : tK T n p = 2) (hb : tB T n p = false) : tV T n p ≤ 99 := by
  have hE := tE_b (T := T) hp (by omega)
  have h2 := (tB_f.mp hb).2 k2
  have i0 := kd_2.mp ((tE_in (T := T) hp (Or.inr k2) (i := tS T n p) (by omega) (by omega)).trans k2)
  unfold tV
  by_cases e : tE T n p = tS T n p + 1
  · rw [if_pos e]; omega
  · have i1 := kd_2.mp ((tE_in (T := T) hp (Or.inr k2) (i := tS T n p + 1) (by omega) (by omega)).trans k2)
    rw [if_neg e]; omega
theorem isNumber_ok (H : TpC m T n) (hp : p ≤ n) (hb : tB T n p = false) (h4 : m (2, 0, 0) 4 = nI (tE T n p)) (h5 : m (2, 0, 0) 5 = nI (tS T n p)) (h6 : m (2, 0, 0) 6 = nI (tK T n p)) (hl : lo < 2 ^ 31) (hh : hi < 2 ^ 31) : ∃ m', fR_isNumberWithin (nI lo) (nI hi) m = some (nI (if nC T n p lo hi = 0 then 1 else 0), m') ∧ Off sRd m m' ∧ m' (2, 0, 0) 4 = nI (tE T n p) ∧ m' (2, 0, 0) 5 = nI (tS T n p) ∧ (nC T n p lo hi = 0 → m' (2, 0, 0) 2 = m (2, 0, 0) 2 ∧ m' (2, 0, 0) 7 = nI (tV T n p)) ∧ (nC T n p lo hi ≠ 0 → FlC m' (nC T n p lo hi) (tS T n p)) := by
  have hs := tS_b (T := T) hp
  have h160 := H.1
  have kl := tK_le (T := T) (n := n) (p := p)
  unfold fR_isNumberWithin
  by_cases k2 : tK T n p = 2
  · have hE := tE_b (T := T) hp (by omega)
    have h2 := (tB_f.mp hb).2 k2
    have v99 := tV_le H hp k2 hb
    have ce : nC T n p lo hi = if lo ≤ tV T n p ∧ tV T n p ≤ hi then 0 else 3 := by
      unfold nC; rw [hb, if_neg (by simp), if_pos k2]
    rw [h6, k2, if_pos (show nI 2 = 2 from rfl), lt_def]
    generalize e1 : wr m (2, 0, 0) 7 0 = m1
    have g1 : ∀ i, i ≠ 7 → m1 (2, 0, 0) i = m (2, 0, 0) i := fun i hi => by rw [← e1, wr_off _ _ (by simp [hi])]
    have o1 : Off sR4 m m1 := by rw [← e1]; exact Off_wr (Off_refl _ _) rfl
    have a7 : m1 (2, 0, 0) 7 = nI 0 := by rw [← e1, wr_at]; rfl
    rw [g1 5 (by omega), h5, lt_def]
    refine up11s (B := bR_isNumberWithin_24 (nI lo) (nI hi)) (fun w => ∃ m', w = some (nI (if nC T n p lo hi = 0 then 1 else 0), m') ∧ Off sRd m m' ∧ m' (2, 0, 0) 4 = nI (tE T n p) ∧ m' (2, 0, 0) 5 = nI (tS T n p) ∧ (nC T n p lo hi = 0 → m' (2, 0, 0) 2 = m (2, 0, 0) 2 ∧ m' (2, 0, 0) 7 = nI (tV T n p)) ∧ (nC T n p lo hi ≠ 0 → FlC m' (nC T n p lo hi) (tS T n p))) (tS T n p) (tE T n p) (by omega) (by omega) (fun i m' => Off sR4 m m' ∧ m' (2, 0, 0) 4 = nI (tE T n p) ∧ m' (2, 0, 0) 5 = nI (tS T n p) ∧ m' (2, 0, 0) 7 = nI (fg T (tS T n p) i)) ⟨o1, (g1 4 (by omega)).trans h4, (g1 5 (by omega)).trans h5, by rw [a7]; unfold fg; rw [if_pos rfl]⟩ (fun sf i m' i1 i2 hJ => ?_) (fun sf m' hJ => ?_) <;> unfold bR_isNumberWithin_24
    · left
      obtain ⟨o2, b4, b5, b7⟩ := hJ
      have H2 := TpC_off o2 rfl (fun _ => rfl) H
      have ti := H2.2.2 i (by omega)
      have k57 := kd_2.mp ((tE_in (T := T) hp (Or.inr k2) (i := i) (by omega) (by omega)).trans k2)
      have ef : nI (fg T (tS T n p) i) * (10 : Int32) + nI (T i) - 48 = nI (fg T (tS T n p) (i + 1)) := by
        have e1 : (10 : Int32) = nI 10 := rfl
        have e2 : (48 : Int32) = nI 48 := rfl
        rw [e1, e2, pk_mul, nI_add, pk_sub (by omega)]
        congr 1
        unfold fg
        by_cases w : i = tS T n p
        · subst w
          rw [if_pos rfl, if_neg (by omega), if_pos rfl]; omega
        · have w2 : i = tS T n p + 1 := by omega
          rw [if_neg w, if_pos w2, if_neg (by omega), if_neg (by omega), ← w2]; omega
      rw [b4, if_neg (fun z => by have := (nI_leI (by omega) (by omega)).mp z; omega), gd_in (by omega) (by omega), ix_n (by omega), ti.1, b7, ef, lt_def, nI_s1, lt_def]
      refine ⟨_, ⟨Off_wr o2 rfl, ?_, ?_, wr_at _ _ _ _⟩, rfl⟩
      · rw [wr_off _ _ (by simp)]; exact b4
      · rw [wr_off _ _ (by simp)]; exact b5
    · obtain ⟨o2, b4, b5, b7⟩ := hJ
      have ev : fg T (tS T n p) (tE T n p) = tV T n p := by
        unfold fg tV
        rw [if_neg (by omega)]
      rw [ev] at b7
      rw [b4, if_pos ((nI_leI (by omega) (by omega)).mpr (Nat.le_refl _))]
      unfold jR_isNumberWithin_59 jR_isNumberWithin_75
      obtain ⟨m2, f1, f2, f3, f4⟩ := fail_ok (c := 3) b5
      have f1' : fR_fail 3 m' = some (nI 0, m2) := f1
      have n0 : nI 0 = 0 := rfl
      by_cases v : lo ≤ tV T n p ∧ tV T n p ≤ hi
      · rw [ce, if_pos v, b7, if_neg (fun z => by have := (nI_ltI (by omega) hl).mp z; omega), if_pos ((nI_leI (by omega) hh).mpr v.2)]
        exact ⟨m', rfl, Off_mono o2 sRd_4, b4, b5, fun _ => ⟨o2 _ _ rfl, b7⟩, fun z => absurd rfl z⟩
      · have fin : ∃ m'_1, some ((0 : Int32), m2) = some (nI (if 3 = 0 then 1 else 0), m'_1) ∧ Off sRd m m'_1 ∧ m'_1 (2, 0, 0) 4 = nI (tE T n p) ∧ m'_1 (2, 0, 0) 5 = nI (tS T n p) ∧ (3 = 0 → m'_1 (2, 0, 0) 2 = m (2, 0, 0) 2 ∧ m'_1 (2, 0, 0) 7 = nI (tV T n p)) ∧ (3 ≠ 0 → FlC m'_1 3 (tS T n p)) :=
          ⟨m2, rfl, Off_trans (Off_mono o2 sRd_4) (Off_mono f2 sRd_f), (f2 _ _ rfl).trans b4, (f2 _ _ rfl).trans b5, fun z => by omega, fun _ => ⟨f3, f4⟩⟩
        rw [ce, if_neg v, b7, f1', bind_s, if_pos n0]
        by_cases w : tV T n p < lo
        · rw [if_pos ((nI_ltI (by omega) hl).mpr w)]
          exact fin
        · rw [if_neg (fun z => w ((nI_ltI (by omega) hl).mp z)), if_neg (fun z => v ⟨by omega, (nI_leI (by omega) hh).mp z⟩)]
          exact fin
  · have ce : nC T n p lo hi = 2 := by
      unfold nC; rw [hb, if_neg (by simp), if_neg k2]
    have c2 : ¬ nI (tK T n p) = 2 := fun z => k2 ((nI_eq (b := 2) (by omega) (by omega)).mp z)
    obtain ⟨m2, f1, f2, f3, f4⟩ := fail_ok (c := 2) h5
    have f1' : fR_fail 2 m = some (nI 0, m2) := f1
    rw [h6, if_neg c2, f1', bind_s, ce]
    exact ⟨m2, rfl, Off_mono f2 sRd_f, (f2 _ _ rfl).trans h4, (f2 _ _ rfl).trans h5, fun z => by omega, fun _ => ⟨f3, f4⟩⟩
theorem takeNumber_ok (H : TpC m T n) (hp : p ≤ n) (h4 : m (2, 0, 0) 4 = nI p) (hl : lo < 2 ^ 31) (hh : hi < 2 ^ 31) : ∃ m', fR_takeNumber (nI lo) (nI hi) m = some (nI (if nC T n p lo hi = 0 then 1 else 0), m') ∧ Off sRd m m' ∧ (nC T n p lo hi = 0 → m' (2, 0, 0) 4 = nI (tE T n p) ∧ m' (2, 0, 0) 5 = nI (tS T n p) ∧ m' (2, 0, 0) 2 = m (2, 0, 0) 2 ∧ m' (2, 0, 0) 7 = nI (tV T n p)) ∧ (nC T n p lo hi ≠ 0 → FlC m' (nC T n p lo hi) (tS T n p)) := by
  obtain ⟨m1, e1, o1, a4, a5, a6, a7, a8⟩ := takeToken_ok H hp h4
  have H1 := TpC_off o1 rfl (fun _ => rfl) H
  have n0 : nI 0 = 0 := rfl
  have n1 : ¬ nI 1 = 0 := by decide +kernel
  unfold fR_takeNumber
  cases b : tB T n p with
  | true =>
    have ce : nC T n p lo hi = 1 := by unfold nC; rw [b, if_pos rfl]
    rw [b, if_pos rfl] at e1
    rw [e1, bind_s, if_pos n0, ce]
    exact ⟨m1, rfl, o1, fun z => by omega, fun _ => a8 b⟩
  | false =>
    rw [b, if_neg (by simp)] at e1
    obtain ⟨m2, e2, o2, b4, b5, b6, b7⟩ := isNumber_ok H1 hp b a4 a5 a6 hl hh
    rw [e1, bind_s, if_neg n1, e2, bind_s]
    by_cases z : nC T n p lo hi = 0
    · rw [if_pos z, if_neg n1]
      exact ⟨m2, rfl, Off_trans o1 o2, fun _ => ⟨b4, b5, (b6 z).1.trans (a7 b), (b6 z).2⟩, fun w => absurd z w⟩
    · rw [if_neg z, if_pos n0]
      exact ⟨m2, rfl, Off_trans o1 o2, fun w => absurd w z, fun _ => b7 z⟩
theorem takeSign_ok (H : TpC m T n) (hp : p ≤ n) (h4 : m (2, 0, 0) 4 = nI p) : ∃ m', fR_takeSign m = some (nI (if gC T n p = 0 then 1 else 0), m') ∧ Off sRd m m' ∧ (gC T n p = 0 → m' (2, 0, 0) 4 = nI (tE T n p) ∧ m' (2, 0, 0) 2 = m (2, 0, 0) 2) ∧ (gC T n p ≠ 0 → FlC m' (gC T n p) (tS T n p)) := by
  obtain ⟨m1, e1, o1, a4, a5, a6, a7, a8⟩ := takeToken_ok H hp h4
  have kl := tK_le (T := T) (n := n) (p := p)
  have n0 : nI 0 = 0 := rfl
  have n1 : ¬ nI 1 = 0 := by decide +kernel
  unfold fR_takeSign
  cases b : tB T n p with
  | true =>
    have ce : gC T n p = 1 := by unfold gC; rw [b, if_pos rfl]
    rw [b, if_pos rfl] at e1
    rw [e1, bind_s, if_pos n0, ce]
    exact ⟨m1, rfl, o1, fun z => by omega, fun _ => a8 b⟩
  | false =>
    rw [b, if_neg (by simp)] at e1
    rw [e1, bind_s, if_neg n1]
    by_cases k3 : tK T n p = 3
    · have ce : gC T n p = 0 := by unfold gC; rw [b, if_neg (by simp), if_pos k3]
      rw [if_pos (show ((nI 1, m1) : Int32 × Mem).2 (2, 0, 0) 6 = 3 from a6.trans (by rw [k3]; rfl)), ce]
      exact ⟨m1, rfl, o1, fun _ => ⟨a4, a7 b⟩, fun z => absurd rfl z⟩
    · have ce : gC T n p = 2 := by unfold gC; rw [b, if_neg (by simp), if_neg k3]
      have c3 : ¬ nI (tK T n p) = 3 := fun z => k3 ((nI_eq (b := 3) (by omega) (by omega)).mp z)
      obtain ⟨m2, f1, f2, f3, f4⟩ := fail_ok (c := 2) a5
      have f1' : fR_fail 2 m1 = some (nI 0, m2) := f1
      rw [if_neg (show ¬ ((nI 1, m1) : Int32 × Mem).2 (2, 0, 0) 6 = 3 from fun z => c3 (a6.symm.trans z)), f1', bind_s, if_pos n0, ce]
      exact ⟨m2, rfl, Off_trans o1 (Off_mono f2 sRd_f), fun z => by omega, fun _ => ⟨f3, f4⟩⟩
end NumC
/-- what readNumber finds -/
def rC (T : Nat → Nat) (n p lo hi : Nat) (x : Int32) : Nat := if nC T n p lo hi ≠ 0 then nC T n p lo hi else if nI (tV T n p) = x then 4 else 0
section NumM
variable {m : Mem} {T : Nat → Nat} {n p lo hi : Nat}
theorem readNumber_flt {c s : Nat} (x1 x2 x3 : Int32) (hc : 0 < c) (h : c < 2 ^ 31) (F : FlM m c s) : fM_readNumber x1 x2 x3 m = some (nI 0, m) := by
  have c0 : ¬ nI c = 0 := fun z => by have := (nI_eq (b := 0) (by omega) (by omega)).mp z; omega
  unfold fM_readNumber jM_readNumber_25 jM_readNumber_49 jM_readNumber_74
  rw [F.1, if_neg c0, if_neg c0, if_neg c0, if_neg c0, lt_def, lt_def, reads_f hc h F.1]
  rfl
theorem j74_flt {c s : Nat} (hc : 0 < c) (h : c < 2 ^ 31) (F : FlM m c s) : jM_readNumber_74 m = some (nI 0, m) := by
  have c0 : ¬ nI c = 0 := fun z => by have := (nI_eq (b := 0) (by omega) (by omega)).mp z; omega
  unfold jM_readNumber_74
  rw [F.1, if_neg c0, lt_def, lt_def, reads_f hc h F.1]
  rfl
theorem tV_leM (H : TpM m T n) (hp : p ≤ n) (k2 : tK T n p = 2) (hb : tB T n p = false) : tV T n p ≤ 99 := by
  have hE := tE_b (T := T) hp (by omega)
  have h2 := (tB_f.mp hb).2 k2
  have i0 := kd_2.mp ((tE_in (T := T) hp (Or.inr k2) (i := tS T n p) (by omega) (by omega)).trans k2)
  unfold tV
  by_cases e : tE T n p = tS T n p + 1
  · rw [if_pos e]; omega
  · have i1 := kd_2.mp ((tE_in (T := T) hp (Or.inr k2) (i := tS T n p + 1) (by omega) (by omega)).trans k2)
    rw [if_neg e]; omega
theorem readNumber_ok (H : TpM m T n) (hp : p ≤ n) (R : RTok m T n p) (hl : lo < 2 ^ 31) (hh : hi < 2 ^ 31) (x : Int32) : ∃ m', fM_readNumber (nI lo) (nI hi) x m = some (if rC T n p lo hi x = 0 then nI (tV T n p) else nI 0, m') ∧ Off sRf m m' ∧ (rC T n p lo hi x = 0 → RTok m' T n (tE T n p)) ∧ (rC T n p lo hi x ≠ 0 → FlM m' (rC T n p lo hi x) (tS T n p)) := by
  have hE := tE_le (T := T) hp
  have kl := tK_le (T := T) (n := n) (p := p)
  have n0 : nI 0 = 0 := rfl
  obtain ⟨r7, r8, r9, r10, r11, r12⟩ := R
  cases b : tB T n p with
  | true =>
    have ce : nC T n p lo hi = 1 := by unfold nC; rw [b, if_pos rfl]
    have re : rC T n p lo hi x = 1 := by unfold rC; rw [ce, if_pos (by omega)]
    rw [readNumber_flt _ _ _ (by omega) (by omega) (r12 b), re]
    exact ⟨m, rfl, Off_refl _ _, fun z => by omega, fun _ => r12 b⟩
  | false =>
    have h11 := r11 b
    have k4 := (tB_f.mp b).1
    rw [if_neg k4] at r9
    unfold fM_readNumber
    rw [h11, if_pos n0, r9]
    by_cases k2 : tK T n p = 2
    · have v99 := tV_leM H hp k2 b
      have h10 := r10 k2
      have e2 : (if nI (tK T n p) = 2 then (1 : Int32) else 0) = nI 1 := by rw [k2]; rfl
      have rt : fM_requires (nI 1) 2 m = some m := requires_t (c := 2) m
      rw [e2, lt_def, rt, bind_s]
      unfold jM_readNumber_25
      rw [h11, if_pos n0, h10, in_c (by omega) hl hh rfl rfl m, bind_s]
      by_cases v : lo ≤ tV T n p ∧ tV T n p ≤ hi
      · have ce : nC T n p lo hi = 0 := by unfold nC; rw [b, if_neg (by simp), if_pos k2, if_pos v]
        have rt3 : fM_requires (nI 1) 3 m = some m := requires_t (c := 3) m
        rw [if_pos v, rt3, bind_s]
        unfold jM_readNumber_49
        rw [h11, if_pos n0, h10]
        by_cases w : nI (tV T n p) = x
        · have re : rC T n p lo hi x = 4 := by unfold rC; rw [ce, if_neg (by omega), if_pos w]
          obtain ⟨m1, f1, o1, g11, g12⟩ := requires_f (c := 4) h11 r8
          have f1' : fM_requires 0 4 m = some m1 := f1
          rw [if_pos w, lt_def, f1', bind_s, re, j74_flt (c := 4) (by omega) (by omega) ⟨g11, g12⟩]
          exact ⟨m1, rfl, Off_mono o1 sRf_r, fun z => by omega, fun _ => ⟨g11, g12⟩⟩
        · have re : rC T n p lo hi x = 0 := by unfold rC; rw [ce, if_neg (by omega), if_neg w]
          have rt4 : fM_requires 1 4 m = some m := requires_t (c := 4) m
          rw [if_neg w, lt_def, rt4, bind_s, re]
          unfold jM_readNumber_74
          obtain ⟨m1, f1, o1, R1⟩ := reads_ok H (p := tE T n p) hE.2 r7 h11
          rw [h11, if_pos n0, lt_def, lt_def, f1, bind_s, h10]
          exact ⟨m1, rfl, o1, fun _ => R1, fun z => absurd rfl z⟩
      · have ce : nC T n p lo hi = 3 := by unfold nC; rw [b, if_neg (by simp), if_pos k2, if_neg v]
        have re : rC T n p lo hi x = 3 := by unfold rC; rw [ce, if_pos (by omega)]
        obtain ⟨m1, f1, o1, g11, g12⟩ := requires_f (c := 3) h11 r8
        have f1' : fM_requires (nI 0) 3 m = some m1 := f1
        have c0 : ¬ nI 3 = 0 := by decide +kernel
        rw [if_neg v, f1', bind_s, re]
        unfold jM_readNumber_49
        rw [g11, if_neg c0, j74_flt (c := 3) (by omega) (by omega) ⟨g11, g12⟩]
        exact ⟨m1, rfl, Off_mono o1 sRf_r, fun z => by omega, fun _ => ⟨g11, g12⟩⟩
    · have ce : nC T n p lo hi = 2 := by unfold nC; rw [b, if_neg (by simp), if_neg k2]
      have re : rC T n p lo hi x = 2 := by unfold rC; rw [ce, if_pos (by omega)]
      have c2 : ¬ nI (tK T n p) = 2 := fun z => k2 ((nI_eq (b := 2) (by omega) (by omega)).mp z)
      have e2 : (if nI (tK T n p) = 2 then (1 : Int32) else 0) = nI 0 := by rw [if_neg c2]; rfl
      obtain ⟨m1, f1, o1, g11, g12⟩ := requires_f (c := 2) h11 r8
      have f1' : fM_requires (nI 0) 2 m = some m1 := f1
      have c0 : ¬ nI 2 = 0 := by decide +kernel
      rw [e2, lt_def, f1', bind_s, re]
      unfold jM_readNumber_25 jM_readNumber_49
      rw [g11, if_neg c0, if_neg c0, j74_flt (c := 2) (by omega) (by omega) ⟨g11, g12⟩]
      exact ⟨m1, rfl, Off_mono o1 sRf_r, fun z => by omega, fun _ => ⟨g11, g12⟩⟩
end NumM
