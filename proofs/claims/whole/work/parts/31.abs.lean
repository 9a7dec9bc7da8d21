/-! THE ABSTRACT LINE: field, index -/
abbrev Ab : Type := Nat → Nat → Nat
def spotA (A : Ab) (t d : Nat) : Nat := if A 6 t ≤ A 5 t then A 6 t + d else A 6 t - d
def secA (A : Ab) (t d : Nat) : Nat := if A 6 t ≤ A 5 t then A 6 t + d - 1 else A 6 t - d
def distA (A : Ab) (t : Nat) : Nat := if A 6 t ≤ A 5 t then A 5 t - A 6 t else A 6 t - A 5 t
/-- bounds of what a line holds -/
def OkA (A : Ab) : Prop :=
  A 0 0 ≤ 6 ∧ A 4 0 ≤ 4 ∧ A 11 0 < 2 ^ 20 ∧ A 12 0 ≤ 60 ∧
  (∀ p, p < A 0 0 → 1 ≤ A 1 p ∧ A 1 p ≤ 3 ∧ 1 ≤ A 3 p ∧ A 3 p ≤ 9 ∧ (∀ i, i < A 1 p → 1 ≤ A 2 (3 * p + i) ∧ A 2 (3 * p + i) ≤ 20) ∧ ∀ i, i + 1 < A 1 p → A 2 (3 * p + (i + 1)) ≤ A 2 (3 * p + i)) ∧
  (∀ t, t < A 4 0 → A 5 t < A 0 0 ∧ A 6 t < A 0 0 ∧ A 5 t ≠ A 6 t ∧ 1 ≤ A 7 t ∧ A 7 t ≤ 20 ∧ A 8 t ≤ distA A t ∧ A 9 t ≤ 2 ∧ (A 9 t = 0 → 1 ≤ A 8 t) ∧ (A 9 t = 1 → A 8 t + 1 ≤ distA A t) ∧ (A 9 t = 2 → A 8 t = 0) ∧ A 10 t < 2 ^ 20 ∧ (A 9 t = 1 → A 11 0 < A 10 t ∧ A 10 t ≤ A 11 0 + 9)) ∧
  (∀ i, i < A 12 0 → A 13 i < 2 ^ 20 ∧ A 14 i < 2 ^ 20 ∧ A 15 i < 2 ^ 20)
/-- the class's Line k holds A -/
def RepL (μ : Mem) (k : Nat) (A : Ab) : Prop :=
  μ (0, k, 0) 0 = nI (A 0 0) ∧ μ (0, k, 0) 4 = nI (A 4 0) ∧ μ (0, k, 0) 11 = nI (A 11 0) ∧ μ (0, k, 0) 12 = nI (A 12 0) ∧
  (∀ p, p < A 0 0 → μ (0, k, 2) p = nI (A 1 p) ∧ μ (0, k, 4) p = nI (A 3 p) ∧ ∀ i, i < A 1 p → μ (0, k, 3) (3 * p + i) = nI (A 2 (3 * p + i))) ∧
  (∀ t, t < A 4 0 → μ (0, k, 6) t = nI (A 5 t) ∧ μ (0, k, 7) t = nI (A 6 t) ∧ μ (0, k, 8) t = nI (A 7 t) ∧ μ (0, k, 9) t = nI (A 8 t) ∧ μ (0, k, 10) t = nI (A 9 t) ∧ (A 9 t ≠ 0 → μ (0, k, 11) t = nI (A 10 t))) ∧
  (∀ i, i < A 12 0 → μ (0, k, 14) i = nI (A 13 i) ∧ μ (0, k, 15) i = nI (A 14 i) ∧ μ (0, k, 16) i = nI (A 15 i))
/-- the reference's row holds A; its lengths, as they were told, are B -/
def RepR (st : Nat → Int32) (A : Ab) (B : Nat → Nat → Nat) : Prop :=
  st 0 = nI (A 0 0) ∧ st 1 = nI (A 4 0) ∧ st 2 = nI (A 11 0) ∧ st 3 = nI (A 12 0) ∧
  (∀ p, p < A 0 0 → st (4 + 5 * p) = nI (A 1 p) ∧ st (4 + 5 * p + 4) = nI (A 3 p) ∧ (∀ i, i < A 1 p → st (4 + 5 * p + (1 + i)) = nI (B p i) ∧ 1 ≤ B p i ∧ B p i ≤ 20) ∧ ∀ x, cnt (fun i => decide (x ≤ B p i)) (A 1 p) = cnt (fun i => decide (x ≤ A 2 (3 * p + i))) (A 1 p)) ∧
  (∀ t, t < A 4 0 → st (34 + 6 * t + 0) = nI (A 5 t) ∧ st (34 + 6 * t + 1) = nI (A 6 t) ∧ st (34 + 6 * t + 2) = nI (A 7 t) ∧ st (34 + 6 * t + 3) = nI (spotA A t (A 8 t)) ∧ st (34 + 6 * t + 4) = nI (A 9 t) ∧ st (34 + 6 * t + 5) = if A 9 t = 0 then -4 else nI (A 10 t)) ∧
  (∀ i, i < A 12 0 → st (58 + 3 * i + 0) = nI (A 13 i) ∧ st (58 + 3 * i + 1) = nI (A 14 i) ∧ st (58 + 3 * i + 2) = nI (A 15 i))
section Acc
variable {μ : Mem} {k : Nat} {A : Ab}
theorem RepL.pl (h : RepL μ k A) : μ (0, k, 0) 0 = nI (A 0 0) := h.1
theorem RepL.n (h : RepL μ k A) : μ (0, k, 0) 4 = nI (A 4 0) := h.2.1
theorem RepL.ck (h : RepL μ k A) : μ (0, k, 0) 11 = nI (A 11 0) := h.2.2.1
theorem RepL.en (h : RepL μ k A) : μ (0, k, 0) 12 = nI (A 12 0) := h.2.2.2.1
theorem RepL.tk (h : RepL μ k A) {p : Nat} (hp : p < A 0 0) : μ (0, k, 2) p = nI (A 1 p) := (h.2.2.2.2.1 p hp).1
theorem RepL.mi (h : RepL μ k A) {p : Nat} (hp : p < A 0 0) : μ (0, k, 4) p = nI (A 3 p) := (h.2.2.2.2.1 p hp).2.1
theorem RepL.le (h : RepL μ k A) {p i : Nat} (hp : p < A 0 0) (hi : i < A 1 p) : μ (0, k, 3) (3 * p + i) = nI (A 2 (3 * p + i)) := (h.2.2.2.2.1 p hp).2.2 i hi
theorem RepL.fr (h : RepL μ k A) {t : Nat} (ht : t < A 4 0) : μ (0, k, 6) t = nI (A 5 t) := (h.2.2.2.2.2.1 t ht).1
theorem RepL.to (h : RepL μ k A) {t : Nat} (ht : t < A 4 0) : μ (0, k, 7) t = nI (A 6 t) := (h.2.2.2.2.2.1 t ht).2.1
theorem RepL.sz (h : RepL μ k A) {t : Nat} (ht : t < A 4 0) : μ (0, k, 8) t = nI (A 7 t) := (h.2.2.2.2.2.1 t ht).2.2.1
theorem RepL.lf (h : RepL μ k A) {t : Nat} (ht : t < A 4 0) : μ (0, k, 9) t = nI (A 8 t) := (h.2.2.2.2.2.1 t ht).2.2.2.1
theorem RepL.ss (h : RepL μ k A) {t : Nat} (ht : t < A 4 0) : μ (0, k, 10) t = nI (A 9 t) := (h.2.2.2.2.2.1 t ht).2.2.2.2.1
theorem RepL.wh (h : RepL μ k A) {t : Nat} (ht : t < A 4 0) (h0 : A 9 t ≠ 0) : μ (0, k, 11) t = nI (A 10 t) := (h.2.2.2.2.2.1 t ht).2.2.2.2.2 h0
theorem OkA.p6 (h : OkA A) : A 0 0 ≤ 6 := h.1
theorem OkA.n4 (h : OkA A) : A 4 0 ≤ 4 := h.2.1
theorem OkA.ck (h : OkA A) : A 11 0 < 2 ^ 20 := h.2.2.1
theorem OkA.e60 (h : OkA A) : A 12 0 ≤ 60 := h.2.2.2.1
theorem OkA.tr (h : OkA A) {t : Nat} (ht : t < A 4 0) : A 5 t < A 0 0 ∧ A 6 t < A 0 0 ∧ A 5 t ≠ A 6 t ∧ 1 ≤ A 7 t ∧ A 7 t ≤ 20 ∧ A 8 t ≤ distA A t ∧ A 9 t ≤ 2 ∧ (A 9 t = 0 → 1 ≤ A 8 t) ∧ (A 9 t = 1 → A 8 t + 1 ≤ distA A t) ∧ (A 9 t = 2 → A 8 t = 0) ∧ A 10 t < 2 ^ 20 ∧ (A 9 t = 1 → A 11 0 < A 10 t ∧ A 10 t ≤ A 11 0 + 9) := h.2.2.2.2.2.1 t ht
theorem OkA.pc (h : OkA A) {p : Nat} (hp : p < A 0 0) : 1 ≤ A 1 p ∧ A 1 p ≤ 3 ∧ 1 ≤ A 3 p ∧ A 3 p ≤ 9 ∧ (∀ i, i < A 1 p → 1 ≤ A 2 (3 * p + i) ∧ A 2 (3 * p + i) ≤ 20) ∧ ∀ i, i + 1 < A 1 p → A 2 (3 * p + (i + 1)) ≤ A 2 (3 * p + i) := h.2.2.2.2.1 p hp
end Acc
