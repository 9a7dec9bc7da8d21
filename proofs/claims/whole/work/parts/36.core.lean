/-! POSTURES, MOVES, what can be come to -/
def occ (A : Ab) (d : Nat → Nat) (p t : Nat) : Bool := decide (0 < d t ∧ spotA A t (d t) = p)
def fitsA (A : Ab) (p : Nat) (q : Nat → Bool) : Bool := decide (∀ t, t < A 4 0 → q t = true → cnt (fun u => q u && decide (A 7 t ≤ A 7 u)) (A 4 0) ≤ cnt (fun i => decide (A 7 t ≤ A 2 (3 * p + i))) (A 1 p))
def dec (d : Nat → Nat) (t : Nat) : Nat → Nat := fun u => if u = t then d u - 1 else d u
def canA (A : Ab) (d : Nat → Nat) (t : Nat) : Bool := decide (d t = 1) || (decide (2 ≤ d t) && fitsA A (spotA A t (d t - 1)) (occ A (dec d t) (spotA A t (d t - 1))))
def RS (A : Ab) : Nat → (Nat → Nat) → (Nat → Nat) → Prop
  | 0, d, e => d = e
  | k + 1, d, e => ∃ t, t < A 4 0 ∧ canA A d t = true ∧ RS A k (dec d t) e
def Rch (A : Ab) (d e : Nat → Nat) : Prop := ∃ k, RS A k d e
def Evt (A : Ab) (P : (Nat → Nat) → Prop) (d : Nat → Nat) : Prop := ∃ e, Rch A d e ∧ P e
def SafeA (A : Ab) (d : Nat → Nat) : Prop := Evt A (fun e => ∀ t, t < A 4 0 → e t = 0) d
def EndA (A : Ab) (u : Nat) (d : Nat → Nat) : Prop := Evt A (fun e => e u = 0) d
noncomputable def safeB (A : Ab) (d : Nat → Nat) : Bool := @decide (SafeA A d) (Classical.propDecidable _)
noncomputable def endB (A : Ab) (u : Nat) (d : Nat → Nat) : Bool := @decide (EndA A u d) (Classical.propDecidable _)
theorem safeB_iff {A : Ab} {d : Nat → Nat} : safeB A d = true ↔ SafeA A d := @decide_eq_true_iff _ (Classical.propDecidable _)
theorem endB_iff {A : Ab} {u : Nat} {d : Nat → Nat} : endB A u d = true ↔ EndA A u d := @decide_eq_true_iff _ (Classical.propDecidable _)
/-- where all are -/
def dA (A : Ab) : Nat → Nat := fun t => if t < A 4 0 then A 8 t else 0
section Core
variable {A : Ab} {d e : Nat → Nat}
theorem dA_lt {t : Nat} (h : t < A 4 0) : dA A t = A 8 t := if_pos h
theorem dA_ge {t : Nat} (h : ¬ t < A 4 0) : dA A t = 0 := if_neg h
theorem dec_same (d : Nat → Nat) (t : Nat) : dec d t t = d t - 1 := if_pos rfl
theorem dec_ne (d : Nat → Nat) {t u : Nat} (h : u ≠ t) : dec d t u = d u := if_neg h
theorem dec_le (d : Nat → Nat) (t u : Nat) : dec d t u ≤ d u := by
  unfold dec; split <;> omega
theorem can_pos {t : Nat} (h : canA A d t = true) : 1 ≤ d t := by
  unfold canA at h
  simp only [Bool.or_eq_true, decide_eq_true_eq, Bool.and_eq_true] at h
  omega
theorem sm_dec {t : Nat} (h1 : 1 ≤ d t) : ∀ {n : Nat}, t < n → sm (dec d t) n + 1 = sm d n
  | 0, h => absurd h (by omega)
  | n + 1, h => by
    rw [sm_s, sm_s]
    by_cases e : t = n
    · subst e
      rw [dec_same, sm_congr (g := d) (fun i hi => dec_ne d (by omega))]
      omega
    · have := sm_dec h1 (n := n) (by omega)
      rw [dec_ne d (u := n) (by omega)]
      omega
theorem RS_le : ∀ {k : Nat} {d e : Nat → Nat}, RS A k d e → ∀ u, e u ≤ d u
  | 0, d, e, h, u => by
    have : d = e := h
    rw [this]; exact Nat.le_refl _
  | k + 1, d, e, h, u => by
    obtain ⟨t, _, _, h3⟩ := h
    exact Nat.le_trans (RS_le h3 u) (dec_le d t u)
theorem RS_out : ∀ {k : Nat} {d e : Nat → Nat}, RS A k d e → ∀ u, A 4 0 ≤ u → e u = d u
  | 0, d, e, h, u, _ => by
    have : d = e := h
    rw [this]
  | k + 1, d, e, h, u, hu => by
    obtain ⟨t, h1, _, h3⟩ := h
    rw [RS_out h3 u hu, dec_ne d (by omega)]
theorem RS_sum : ∀ {k : Nat} {d e : Nat → Nat}, RS A k d e → k + sm e (A 4 0) = sm d (A 4 0)
  | 0, d, e, h => by
    have : d = e := h
    rw [this]; omega
  | k + 1, d, e, h => by
    obtain ⟨t, h1, h2, h3⟩ := h
    have := RS_sum h3
    have := sm_dec (d := d) (can_pos h2) h1
    omega
theorem RS_tail : ∀ {k : Nat} {d e : Nat → Nat} {t : Nat}, RS A k d e → t < A 4 0 → canA A e t = true → RS A (k + 1) d (dec e t)
  | 0, d, e, t, h, h1, h2 => by
    have : d = e := h
    subst this
    exact ⟨t, h1, h2, rfl⟩
  | k + 1, d, e, t, h, h1, h2 => by
    obtain ⟨u, a, b, c⟩ := h
    exact ⟨u, a, b, RS_tail c h1 h2⟩
theorem RS_last : ∀ {k : Nat} {d e : Nat → Nat}, RS A (k + 1) d e → ∃ f t, t < A 4 0 ∧ RS A k d f ∧ canA A f t = true ∧ e = dec f t
  | 0, d, e, h => by
    obtain ⟨t, a, b, c⟩ := h
    exact ⟨d, t, a, rfl, b, Eq.symm c⟩
  | k + 1, d, e, h => by
    obtain ⟨t, a, b, c⟩ := h
    obtain ⟨f, u, a2, b2, c2, e2⟩ := RS_last c
    exact ⟨f, u, a2, ⟨t, a, b, b2⟩, c2, e2⟩
theorem RS_trans : ∀ {k l : Nat} {d e f : Nat → Nat}, RS A k d e → RS A l e f → RS A (k + l) d f
  | 0, l, d, e, f, h, g => by
    have : d = e := h
    subst this
    rw [Nat.zero_add]; exact g
  | k + 1, l, d, e, f, h, g => by
    obtain ⟨u, a, b, c⟩ := h
    rw [Nat.add_right_comm]
    exact ⟨u, a, b, RS_trans c g⟩
theorem Rch_refl (d : Nat → Nat) : Rch A d d := ⟨0, rfl⟩
theorem Rch_trans {f : Nat → Nat} (h : Rch A d e) (g : Rch A e f) : Rch A d f := by
  obtain ⟨k, h⟩ := h
  obtain ⟨l, g⟩ := g
  exact ⟨k + l, RS_trans h g⟩
theorem Rch_tail {t : Nat} (h : Rch A d e) (h1 : t < A 4 0) (h2 : canA A e t = true) : Rch A d (dec e t) := by
  obtain ⟨k, h⟩ := h
  exact ⟨k + 1, RS_tail h h1 h2⟩
theorem Rch_cons {t : Nat} (h1 : t < A 4 0) (h2 : canA A d t = true) (h : Rch A (dec d t) e) : Rch A d e := by
  obtain ⟨k, h⟩ := h
  exact ⟨k + 1, t, h1, h2, h⟩
theorem Rch_le (h : Rch A d e) (u : Nat) : e u ≤ d u := by
  obtain ⟨k, h⟩ := h
  exact RS_le h u
theorem Rch_out (h : Rch A d e) {u : Nat} (hu : A 4 0 ≤ u) : e u = d u := by
  obtain ⟨k, h⟩ := h
  exact RS_out h u hu
theorem Rch_head (h : Rch A d e) : d = e ∨ ∃ t, t < A 4 0 ∧ canA A d t = true ∧ Rch A (dec d t) e := by
  obtain ⟨k, h⟩ := h
  cases k with
  | zero => exact Or.inl h
  | succ k =>
    obtain ⟨t, a, b, c⟩ := h
    exact Or.inr ⟨t, a, b, k, c⟩
theorem Rch_last (h : Rch A d e) : d = e ∨ ∃ f t, t < A 4 0 ∧ Rch A d f ∧ canA A f t = true ∧ e = dec f t := by
  obtain ⟨k, h⟩ := h
  cases k with
  | zero => exact Or.inl h
  | succ k =>
    obtain ⟨f, t, a, b, c, g⟩ := RS_last h
    exact Or.inr ⟨f, t, a, ⟨k, b⟩, c, g⟩
theorem Evt_rec (P : (Nat → Nat) → Prop) : Evt A P d ↔ P d ∨ ∃ t, t < A 4 0 ∧ canA A d t = true ∧ Evt A P (dec d t) := by
  refine ⟨fun h => ?_, fun h => ?_⟩
  · obtain ⟨e, h, p⟩ := h
    rcases Rch_head h with rfl | ⟨t, a, b, c⟩
    · exact Or.inl p
    · exact Or.inr ⟨t, a, b, e, c, p⟩
  · rcases h with h | ⟨t, a, b, e, c, p⟩
    · exact ⟨d, Rch_refl d, h⟩
    · exact ⟨e, Rch_cons a b c, p⟩
/-- two lines with the same PLACES and TRAINS have the same MOVES -/
def StEq (A A' : Ab) : Prop := ∀ f, f ≤ 7 → A' f = A f
theorem can_st {A' : Ab} (h : StEq A A') (d : Nat → Nat) (t : Nat) : canA A' d t = canA A d t := by
  unfold canA fitsA occ spotA
  rw [h 1 (by omega), h 2 (by omega), h 4 (by omega), h 5 (by omega), h 6 (by omega), h 7 (by omega)]
theorem RS_st {A' : Ab} (h : StEq A A') : ∀ {k : Nat} {d e : Nat → Nat}, RS A' k d e ↔ RS A k d e
  | 0, d, e => Iff.rfl
  | k + 1, d, e => by
    unfold RS
    rw [h 4 (by omega)]
    refine ⟨fun ⟨t, a, b, c⟩ => ⟨t, a, by rw [← can_st h]; exact b, (RS_st h).mp c⟩, fun ⟨t, a, b, c⟩ => ⟨t, a, by rw [can_st h]; exact b, (RS_st h).mpr c⟩⟩
theorem Rch_st {A' : Ab} (h : StEq A A') : Rch A' d e ↔ Rch A d e :=
  ⟨fun ⟨k, g⟩ => ⟨k, (RS_st h).mp g⟩, fun ⟨k, g⟩ => ⟨k, (RS_st h).mpr g⟩⟩
theorem Safe_st {A' : Ab} (h : StEq A A') : SafeA A' d ↔ SafeA A d := by
  unfold SafeA Evt
  rw [h 4 (by omega)]
  exact ⟨fun ⟨e, a, b⟩ => ⟨e, (Rch_st h).mp a, b⟩, fun ⟨e, a, b⟩ => ⟨e, (Rch_st h).mpr a, b⟩⟩
theorem End_st {A' : Ab} (h : StEq A A') {u : Nat} : EndA A' u d ↔ EndA A u d :=
  ⟨fun ⟨e, a, b⟩ => ⟨e, (Rch_st h).mp a, b⟩, fun ⟨e, a, b⟩ => ⟨e, (Rch_st h).mpr a, b⟩⟩
theorem Safe_rec : SafeA A d ↔ (∀ t, t < A 4 0 → d t = 0) ∨ ∃ t, t < A 4 0 ∧ canA A d t = true ∧ SafeA A (dec d t) := Evt_rec _
theorem End_rec {u : Nat} : EndA A u d ↔ d u = 0 ∨ ∃ t, t < A 4 0 ∧ canA A d t = true ∧ EndA A u (dec d t) := Evt_rec _
end Core
/-- a set of trains as a number -/
def msk (q : Nat → Bool) : Nat → Nat
  | 0 => 0
  | n + 1 => msk q n ||| (if q n then 2 ^ n else 0)
theorem msk_s (q : Nat → Bool) (n : Nat) : msk q (n + 1) = msk q n ||| (if q n then 2 ^ n else 0) := rfl
theorem msk_bit (q : Nat → Bool) : ∀ (n t : Nat), (msk q n).testBit t = (decide (t < n) && q t)
  | 0, t => by simp [msk]
  | n + 1, t => by
    rw [msk_s, Nat.testBit_or, msk_bit q n t]
    by_cases h : q n = true
    · rw [if_pos h, Nat.testBit_two_pow]
      by_cases e : n = t
      · subst e; simp [h]
      · have h1 : decide (n = t) = false := decide_eq_false e
        have h2 : decide (t < n + 1) = decide (t < n) := decide_eq_decide.mpr (by omega)
        rw [h1, h2, Bool.or_false]
    · rw [if_neg h, Nat.zero_testBit, Bool.or_false]
      by_cases e : n = t
      · subst e
        have : q n = false := by simpa using h
        rw [this]; simp
      · have h2 : decide (t < n + 1) = decide (t < n) := decide_eq_decide.mpr (by omega)
        rw [h2]
theorem msk_lt (q : Nat → Bool) : ∀ (n : Nat), msk q n < 2 ^ n
  | 0 => by simp [msk]
  | n + 1 => by
    rw [msk_s]
    refine Nat.or_lt_two_pow ?_ ?_
    · exact Nat.lt_trans (msk_lt q n) (Nat.pow_lt_pow_right (by omega) (by omega))
    · split
      · exact Nat.pow_lt_pow_right (by omega) (by omega)
      · exact Nat.two_pow_pos _
theorem msk_lt16 {q : Nat → Bool} {n : Nat} (hn : n ≤ 4) : msk q n < 16 :=
  Nat.lt_of_lt_of_le (msk_lt q n) (Nat.pow_le_pow_right (n := 2) (j := 4) (by omega) hn)
theorem nI_or : ∀ a, a < 32 → ∀ b, b < 32 → nI a ||| nI b = nI (a ||| b) := by decide +kernel
theorem nI_bit1 : ∀ m, m < 32 → ∀ t, t < 5 → ((((nI m) >>> (nI t &&& nI 31)) &&& nI 1 = nI 1) ↔ m.testBit t = true) := by decide +kernel
theorem nI_bit0 : ∀ m, m < 32 → ∀ t, t < 5 → ((((nI m) >>> (nI t &&& nI 31)) &&& nI 1 = nI 0) ↔ m.testBit t = false) := by decide +kernel
theorem nI_and16 : ∀ m, m < 32 → ((nI m &&& nI 16 = nI 0) ↔ m.testBit 4 = false) := by decide +kernel
theorem nI_shl : ∀ t, t < 5 → (nI 1) <<< (nI t &&& nI 31) = nI (2 ^ t) := by decide +kernel
theorem nI_or5 {a b : Nat} (ha : a < 32) (hb : b < 32) : nI a ||| nI b = nI (a ||| b) := nI_or a ha b hb
theorem or_lt32 {a b : Nat} (ha : a < 32) (hb : b < 32) : a ||| b < 32 := Nat.or_lt_two_pow (n := 5) ha hb
