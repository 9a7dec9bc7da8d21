/-! one line into another -/
def CpI (μ m : Mem) (k1 k2 : Nat) (D : Nat → Nat → Bool) : Prop := (∀ r i, sLn k1 r i = false → m r i = μ r i) ∧ ∀ j i, D j i = true → m (0, k1, j) i = μ (0, k2, j) i
section Copy
variable {μ m : Mem} {k1 k2 : Nat} {A : Ab} {D : Nat → Nat → Bool}
theorem sLn_ne (h : k1 ≠ k2) (j i : Nat) : sLn k1 (0, k2, j) i = false := by
  unfold sLn
  simp
  exact fun z => h z.symm
theorem sLn_eq (k j i : Nat) : sLn k (0, k, j) i = true := by
  unfold sLn; simp
theorem cp_wr {τ : Type} {K : Mem → Option τ} {Q : Option τ → Prop} (hne : k1 ≠ k2) (c : CpI μ m k1 k2 D) (j i : Nat) (h : ∀ m', CpI μ m' k1 k2 (fun a b => D a b || (a == j && b == i)) → Q (K m')) : Q (lt (wr m (0, k1, j) i (m (0, k2, j) i)) K) := by
  refine h _ ⟨fun r b hr => ?_, fun a b hd => ?_⟩
  · rw [wr_off _ _ (fun z => by rw [z.1, sLn_eq] at hr; cases hr)]
    exact c.1 r b hr
  · rw [wr_get]
    by_cases e : ((0, k1, a) : Rf) = (0, k1, j) ∧ b = i
    · rw [if_pos e, c.1 _ _ (sLn_ne hne _ _)]
      have : a = j := by simpa using e.1
      rw [this, e.2]
    · rw [if_neg e]
      refine c.2 a b ?_
      simp only [Bool.or_eq_true, Bool.and_eq_true, beq_iff_eq] at hd
      rcases hd with hd | hd
      · exact hd
      · exact absurd ⟨by rw [hd.1], hd.2⟩ e
theorem cp_sr {τ : Type} {K : Mem → Option τ} {Q : Option τ → Prop} {c0 : Bool} {z1 z2 z3 : Nat} (hne : k1 ≠ k2) (c : CpI μ m k1 k2 D) (j n : Nat) (hc : c0 = true) (e1 : z1 = 0) (e2 : z2 = 0) (e3 : z3 = n) (h : ∀ m', CpI μ m' k1 k2 (fun a b => D a b || (a == j && decide (b < n))) → Q (K m')) : Q (gd c0 (lt (sr m (0, k1, j) (va_cpy (m (0, k2, j)) (m (0, k1, j)) z1 z2 z3)) K)) := by
  subst hc e1 e2 e3
  rw [gd_tt]
  refine h _ ⟨fun r b hr => ?_, fun a b hd => ?_⟩
  · rw [sr_off _ _ (fun z => by rw [z, sLn_eq] at hr; cases hr)]
    exact c.1 r b hr
  · simp only [Bool.or_eq_true, Bool.and_eq_true, beq_iff_eq, decide_eq_true_eq] at hd
    by_cases e : a = j
    · subst e
      rw [sr_at]
      unfold va_cpy
      by_cases hb : b < z3
      · rw [if_pos (by omega), c.1 _ _ (sLn_ne hne _ _)]
        congr 1
        omega
      · rw [if_neg (by omega)]
        refine c.2 a b ?_
        rcases hd with hd | hd
        · exact hd
        · exact absurd hd.2 hb
    · rw [sr_off _ _ (fun z => e (by simpa using z))]
      refine c.2 a b ?_
      rcases hd with hd | hd
      · exact hd
      · exact absurd hd.1 e
theorem copyFrom_ok (hne : k1 ≠ k2) (R : RepL μ k2 A) (h6 : A 0 0 ≤ 6) (h4 : A 4 0 ≤ 4) (h60 : A 12 0 ≤ 60) (h3 : ∀ p, p < A 0 0 → A 1 p ≤ 3) : ∃ μ', fL_copyFrom k1 k2 μ = some μ' ∧ Off (sLn k1) μ μ' ∧ RepL μ' k1 A := by
  have key : ∀ Q : Option Mem → Prop, (∀ μ', Off (sLn k1) μ μ' → RepL μ' k1 A → Q (some μ')) → Q (fL_copyFrom k1 k2 μ) := by
    intro Q hQ
    have c0 : CpI μ μ k1 k2 (fun _ _ => false) := ⟨fun _ _ _ => rfl, fun j i h => by cases h⟩
    unfold fL_copyFrom
    refine cp_wr hne c0 0 0 (fun m1 c1 => ?_)
    refine cp_sr hne c1 2 6 (by decide +kernel) (by decide +kernel) (by decide +kernel) (by decide +kernel) (fun m2 c2 => ?_)
    refine cp_sr hne c2 3 18 (by decide +kernel) (by decide +kernel) (by decide +kernel) (by decide +kernel) (fun m3 c3 => ?_)
    refine cp_sr hne c3 4 6 (by decide +kernel) (by decide +kernel) (by decide +kernel) (by decide +kernel) (fun m4 c4 => ?_)
    refine cp_wr hne c4 0 4 (fun m5 c5 => ?_)
    refine cp_sr hne c5 6 4 (by decide +kernel) (by decide +kernel) (by decide +kernel) (by decide +kernel) (fun m6 c6 => ?_)
    refine cp_sr hne c6 7 4 (by decide +kernel) (by decide +kernel) (by decide +kernel) (by decide +kernel) (fun m7 c7 => ?_)
    refine cp_sr hne c7 8 4 (by decide +kernel) (by decide +kernel) (by decide +kernel) (by decide +kernel) (fun m8 c8 => ?_)
    refine cp_sr hne c8 9 4 (by decide +kernel) (by decide +kernel) (by decide +kernel) (by decide +kernel) (fun m9 c9 => ?_)
    refine cp_sr hne c9 10 4 (by decide +kernel) (by decide +kernel) (by decide +kernel) (by decide +kernel) (fun m10 c10 => ?_)
    refine cp_sr hne c10 11 4 (by decide +kernel) (by decide +kernel) (by decide +kernel) (by decide +kernel) (fun m11 c11 => ?_)
    refine cp_wr hne c11 0 11 (fun m12 c12 => ?_)
    refine cp_wr hne c12 0 12 (fun m13 c13 => ?_)
    refine cp_sr hne c13 14 60 (by decide +kernel) (by decide +kernel) (by decide +kernel) (by decide +kernel) (fun m14 c14 => ?_)
    refine cp_sr hne c14 15 60 (by decide +kernel) (by decide +kernel) (by decide +kernel) (by decide +kernel) (fun m15 c15 => ?_)
    refine cp_sr hne c15 16 60 (by decide +kernel) (by decide +kernel) (by decide +kernel) (by decide +kernel) (fun m16 c16 => ?_)
    obtain ⟨r1, r2, r3, r4, r5, r6, r7⟩ := R
    have g := c16.2
    refine hQ m16 c16.1 ⟨(g 0 0 rfl).trans r1, (g 0 4 rfl).trans r2, (g 0 11 rfl).trans r3, (g 0 12 rfl).trans r4, fun p hp => ?_, fun t ht => ?_, fun i hi => ?_⟩
    · have p6 : p < 6 := by omega
      have q3 := h3 p hp
      obtain ⟨a, b, d⟩ := r5 p hp
      exact ⟨(g 2 p (by simp [p6])).trans a, (g 4 p (by simp [p6])).trans b, fun i hi => (g 3 (3 * p + i) (by have : 3 * p + i < 18 := by omega
                                                                                                              simp [this])).trans (d i hi)⟩
    · have t4 : t < 4 := by omega
      obtain ⟨a1, a2, a3, a4, a5, a6⟩ := r6 t ht
      exact ⟨(g 6 t (by simp [t4])).trans a1, (g 7 t (by simp [t4])).trans a2, (g 8 t (by simp [t4])).trans a3, (g 9 t (by simp [t4])).trans a4, (g 10 t (by simp [t4])).trans a5, fun h => (g 11 t (by simp [t4])).trans (a6 h)⟩
    · have i60 : i < 60 := by omega
      obtain ⟨a1, a2, a3⟩ := r7 i hi
      exact ⟨(g 14 i (by simp [i60])).trans a1, (g 15 i (by simp [i60])).trans a2, (g 16 i (by simp [i60])).trans a3⟩
  exact key (fun w => ∃ μ', w = some μ' ∧ Off (sLn k1) μ μ' ∧ RepL μ' k1 A) (fun μ' a b => ⟨μ', rfl, a, b⟩)
theorem copyOk (hne : k1 ≠ k2) (R : RepL μ k2 A) (O : OkA A) : ∃ μ', fL_copyFrom k1 k2 μ = some μ' ∧ Off (sLn k1) μ μ' ∧ RepL μ' k1 A :=
  copyFrom_ok hne R O.p6 O.n4 O.e60 (fun p hp => (O.pc hp).2.1)
end Copy
