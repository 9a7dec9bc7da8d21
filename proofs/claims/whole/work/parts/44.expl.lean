def sEx : Rf → Nat → Bool := fun r i => r == (5, 0, 14) || r == (5, 0, 15) || r == (5, 0, 16) || r == (5, 0, 17) || (r == (5, 0, 0) && i == 17)
/-- the row of postures, so far -/
def Que (m : Mem) (A : Ab) (d0 : Nat → Nat) (n : Nat) (q : Nat → Nat → Nat) : Prop :=
  m (5, 0, 0) 17 = nI n ∧ 1 ≤ n ∧ q 0 = d0 ∧
  (∀ i, i < n → m (5, 0, 15) i = nI (code7 A (q i)) ∧ Rch A d0 (q i)) ∧
  (∀ i j, i < j → j < n → q i ≠ q j) ∧
  (∀ c, c < 2401 → (m (5, 0, 16) c = nI 0 ∧ ∀ i, i < n → code7 A (q i) ≠ c) ∨ (m (5, 0, 16) c = nI 1 ∧ ∃ i, i < n ∧ code7 A (q i) = c)) ∧
  cnt (fun c => m (5, 0, 16) c == nI 1) 2401 = n ∧
  (∀ i j, i ≤ j → j < n → sm (q j) (A 4 0) ≤ sm (q i) (A 4 0))
/-- what explore found from d0 on -/
def Expl (m : Mem) (A : Ab) (d0 : Nat → Nat) (n : Nat) (q : Nat → Nat → Nat) : Prop :=
  m (5, 0, 0) 17 = nI n ∧ n ≤ 2401 ∧ (∀ i, i < n → m (5, 0, 15) i = nI (code7 A (q i)) ∧ Rch A d0 (q i)) ∧ (∀ i j, i < j → j < n → q i ≠ q j) ∧ (∀ e, Rch A d0 e → ∃ i, i < n ∧ q i = e) ∧
  ∀ e, Rch A d0 e → m (5, 0, 17) (code7 A e) = nI (if safeB A e then 1 else 0)
theorem cnt_set {p q : Nat → Bool} {c : Nat} (hc : p c = false) (hq : ∀ x, q x = (p x || decide (x = c))) : ∀ {n : Nat}, cnt q n = cnt p n + (if c < n then 1 else 0)
  | 0 => by simp [cnt]
  | n + 1 => by
    rw [cnt_s, cnt_s, cnt_set hc hq (n := n), hq n]
    by_cases e : n = c
    · subst e
      simp [hc]
    · have : decide (n = c) = false := decide_eq_false e
      rw [this, Bool.or_false]
      by_cases z : c < n
      · rw [if_pos z, if_pos (show c < n + 1 by omega)]; omega
      · rw [if_neg z, if_neg (show ¬ c < n + 1 by omega)]; omega
theorem cnt_zero {p : Nat → Bool} : ∀ {n : Nat}, (∀ i, i < n → p i = false) → cnt p n = 0
  | 0, _ => rfl
  | n + 1, h => by
    rw [cnt_s, cnt_zero (fun i hi => h i (by omega)), h n (by omega)]; rfl
section Expl
variable {μ : Mem} {A : Ab} {B : Nat → Nat → Nat} {d0 : Nat → Nat}
theorem Que_le {n : Nat} {q : Nat → Nat → Nat} (h : Que μ A d0 n q) : n ≤ 2401 := by
  have := cnt_le (fun c => μ (5, 0, 16) c == nI 1) 2401
  rw [h.2.2.2.2.2.2.1] at this
  exact this
end Expl
