/-! a train goes: what is SAFE stays so -/
def skp (t u : Nat) : Nat := if u < t then u else u + 1
theorem skp_lt {t u n : Nat} (ht : t < n) (hu : u < n - 1) : skp t u < n := by unfold skp; split <;> omega
theorem skp_ge {t u n : Nat} (ht : t < n) (hu : ¬ u < n - 1) : ¬ skp t u < n := by unfold skp; split <;> omega
theorem skp_ne (t u : Nat) : skp t u ≠ t := by unfold skp; split <;> omega
theorem skp_inj {t u v : Nat} (h : skp t u = skp t v) : u = v := by
  unfold skp at h
  split at h <;> split at h <;> omega
theorem skp_ex {t s n : Nat} (hs : s < n) (ht : t < n) (h : s ≠ t) : ∃ u, u < n - 1 ∧ skp t u = s := by
  by_cases q : s < t
  · exact ⟨s, by omega, if_pos q⟩
  · refine ⟨s - 1, by omega, ?_⟩
    unfold skp
    rw [if_neg (by omega)]
    omega
theorem cnt_skp (P : Nat → Bool) {t : Nat} : ∀ {m : Nat}, t ≤ m → cnt (fun u => P (skp t u)) m + (if P t then 1 else 0) = cnt P (m + 1)
  | 0, h => by
    have : t = 0 := by omega
    subst this
    rfl
  | m + 1, h => by
    by_cases e : t = m + 1
    · subst e
      rw [cnt_s P (m + 1), cnt_congr (q := P) (fun i hi => by show P (skp (m + 1) i) = P i; unfold skp; rw [if_pos hi])]
    · have := cnt_skp P (t := t) (m := m) (by omega)
      rw [cnt_s P (m + 1), ← this, cnt_s]
      have e2 : skp t m = m + 1 := by unfold skp; rw [if_neg (by omega)]
      rw [e2]
      omega
/-- what is left of rows of which some go -/
def fltJ (q : Nat → Bool) (g : Nat → Nat) : Nat → Nat → Nat
  | 0 => g
  | i + 1 => if q i then upx (fltJ q g i) (cnt q i) (g i) else fltJ q g i
theorem fltJ_y {q : Nat → Bool} (g : Nat → Nat) {i : Nat} (h : q i = true) : fltJ q g (i + 1) = upx (fltJ q g i) (cnt q i) (g i) := if_pos h
theorem fltJ_n {q : Nat → Bool} (g : Nat → Nat) {i : Nat} (h : q i = false) : fltJ q g (i + 1) = fltJ q g i := if_neg (by rw [h]; simp)
theorem fltJ_b {q : Nat → Bool} {g : Nat → Nat} {b : Nat} : ∀ {i : Nat}, (∀ k, k < i → g k < b) → ∀ j, j < cnt q i → fltJ q g i j < b
  | 0, _, j, hj => absurd hj (by simp [cnt])
  | i + 1, h, j, hj => by
    cases w : q i with
    | true =>
      rw [fltJ_y g w]
      rw [cnt_s, if_pos w] at hj
      by_cases e : j = cnt q i
      · subst e; rw [upx_at]; exact h i (by omega)
      · rw [upx_ne _ e]; exact fltJ_b (fun k hk => h k (by omega)) j (by omega)
    | false =>
      rw [fltJ_n g w]
      rw [cnt_s, w, if_neg (by simp)] at hj
      exact fltJ_b (fun k hk => h k (by omega)) j (by omega)
def stayA (A : Ab) (t : Nat) : Nat → Bool := fun i => decide (A 14 i ≠ t)
def drpA (A : Ab) (t : Nat) : Ab := fun f =>
  if f = 4 then fun _ => A 4 0 - 1 else if f = 12 then fun _ => cnt (stayA A t) (A 12 0)
  else if f = 13 then fltJ (stayA A t) (A 13) (A 12 0) else if f = 14 then fltJ (stayA A t) (fun i => if A 14 i ≤ t then A 14 i else A 14 i - 1) (A 12 0)
  else if f = 15 then fltJ (stayA A t) (A 15) (A 12 0) else if 5 ≤ f ∧ f ≤ 10 then fun u => A f (skp t u) else A f
theorem drpA_o (A : Ab) (t : Nat) {f : Nat} (h : f < 4 ∨ f = 11) : drpA A t f = A f := by
  unfold drpA
  rw [if_neg (by omega), if_neg (by omega), if_neg (by omega), if_neg (by omega), if_neg (by omega), if_neg (by omega)]
theorem drpA_s (A : Ab) (t : Nat) {f : Nat} (h : 5 ≤ f) (h2 : f ≤ 10) (u : Nat) : drpA A t f u = A f (skp t u) := by
  unfold drpA
  rw [if_neg (by omega), if_neg (by omega), if_neg (by omega), if_neg (by omega), if_neg (by omega), if_pos ⟨h, h2⟩]
theorem drpA_4 (A : Ab) (t : Nat) : drpA A t 4 0 = A 4 0 - 1 := rfl
theorem drpA_12 (A : Ab) (t : Nat) : drpA A t 12 0 = cnt (stayA A t) (A 12 0) := rfl
theorem drpA_13 (A : Ab) (t : Nat) : drpA A t 13 = fltJ (stayA A t) (A 13) (A 12 0) := rfl
theorem drpA_14 (A : Ab) (t : Nat) : drpA A t 14 = fltJ (stayA A t) (fun i => if A 14 i ≤ t then A 14 i else A 14 i - 1) (A 12 0) := rfl
theorem drpA_15 (A : Ab) (t : Nat) : drpA A t 15 = fltJ (stayA A t) (A 15) (A 12 0) := rfl
section Drop
variable {A : Ab} {t : Nat}
theorem drp_spot (u d : Nat) : spotA (drpA A t) u d = spotA A (skp t u) d := by
  unfold spotA
  rw [drpA_s A t (f := 5) (by omega) (by omega), drpA_s A t (f := 6) (by omega) (by omega)]
theorem drp_dist (u : Nat) : distA (drpA A t) u = distA A (skp t u) := by
  unfold distA
  rw [drpA_s A t (f := 5) (by omega) (by omega), drpA_s A t (f := 6) (by omega) (by omega)]
theorem dA_drp (ht : t < A 4 0) : dA (drpA A t) = fun u => dA A (skp t u) := by
  funext u
  unfold dA
  rw [drpA_4]
  by_cases h : u < A 4 0 - 1
  · rw [if_pos h, if_pos (skp_lt ht h), drpA_s A t (f := 8) (by omega) (by omega)]
  · rw [if_neg h, if_neg (skp_ge ht h)]
theorem can_drp (ht : t < A 4 0) {d : Nat → Nat} {u : Nat} (hu : u < A 4 0 - 1) (h : canA A d (skp t u) = true) : canA (drpA A t) (fun v => d (skp t v)) u = true := by
  unfold canA at h ⊢
  simp only [Bool.or_eq_true, decide_eq_true_eq, Bool.and_eq_true] at h ⊢
  rcases h with h | ⟨h1, h2⟩
  · exact Or.inl h
  · refine Or.inr ⟨h1, ?_⟩
    rw [drp_spot]
    have e : ∀ v, occ (drpA A t) (dec (fun v => d (skp t v)) u) (spotA A (skp t u) (d (skp t u) - 1)) v = occ A (dec d (skp t u)) (spotA A (skp t u) (d (skp t u) - 1)) (skp t v) := by
      intro v
      unfold occ
      have e1 : dec (fun v => d (skp t v)) u v = dec d (skp t u) (skp t v) := by
        by_cases q : v = u
        · subst q; rw [dec_same, dec_same]
        · rw [dec_ne _ q, dec_ne _ (fun z => q (skp_inj z))]
      rw [e1, drp_spot]
    unfold fitsA at h2 ⊢
    have h3 := of_decide_eq_true h2
    refine decide_eq_true (fun v hv hq => ?_)
    rw [drpA_4] at hv
    rw [e] at hq
    have h4 := h3 (skp t v) (skp_lt ht hv) hq
    rw [drpA_4, drpA_o A t (f := 1) (by omega), drpA_o A t (f := 2) (by omega), drpA_s A t (f := 7) (by omega) (by omega) v]
    refine Nat.le_trans ?_ h4
    have c := cnt_skp (fun w => occ A (dec d (skp t u)) (spotA A (skp t u) (d (skp t u) - 1)) w && decide (A 7 (skp t v) ≤ A 7 w)) (t := t) (m := A 4 0 - 1) (by omega)
    rw [show A 4 0 - 1 + 1 = A 4 0 by omega] at c
    rw [← c, cnt_congr (q := fun w => occ A (dec d (skp t u)) (spotA A (skp t u) (d (skp t u) - 1)) (skp t w) && decide (A 7 (skp t v) ≤ A 7 (skp t w))) (fun w _ => by
      show (occ _ _ _ w && decide (A 7 (skp t v) ≤ drpA A t 7 w)) = _
      rw [e, drpA_s A t (f := 7) (by omega) (by omega)])]
    exact Nat.le_add_right _ _
theorem RS_drp (ht : t < A 4 0) : ∀ {k : Nat} {d e : Nat → Nat}, RS A k d e → Rch (drpA A t) (fun v => d (skp t v)) (fun v => e (skp t v))
  | 0, d, e, h => by
    have : d = e := h
    subst this
    exact Rch_refl _
  | k + 1, d, e, h => by
    obtain ⟨s, h1, h2, h3⟩ := h
    have ih := RS_drp ht h3
    by_cases q : s = t
    · subst q
      have : (fun v => dec d s (skp s v)) = fun v => d (skp s v) := by
        funext v; rw [dec_ne _ (skp_ne s v)]
      rw [this] at ih
      exact ih
    · obtain ⟨u, hu, rfl⟩ := skp_ex h1 ht q
      have : (fun v => dec d (skp t u) (skp t v)) = dec (fun v => d (skp t v)) u := by
        funext v
        by_cases w : v = u
        · subst w; rw [dec_same, dec_same]
        · rw [dec_ne _ w, dec_ne _ (fun z => w (skp_inj z))]
      rw [this] at ih
      exact Rch_cons (by rw [drpA_4]; exact hu) (can_drp ht hu h2) ih
theorem Safe_drp (ht : t < A 4 0) (S : SafeA A (dA A)) : SafeA (drpA A t) (dA (drpA A t)) := by
  obtain ⟨e, ⟨k, h⟩, z⟩ := S
  rw [dA_drp ht]
  refine ⟨fun v => e (skp t v), RS_drp ht h, fun u hu => ?_⟩
  rw [drpA_4] at hu
  exact z _ (skp_lt ht hu)
theorem OkA_drp (O : OkA A) (ht : t < A 4 0) : OkA (drpA A t) := by
  have o : ∀ f, f < 4 ∨ f = 11 → drpA A t f = A f := fun f h => drpA_o A t h
  have j := O.2.2.2.2.2.2
  have e60 := O.e60
  have hn := O.n4
  refine ⟨by rw [o 0 (by omega)]; exact O.p6, by rw [drpA_4]; omega, by rw [o 11 (by omega)]; exact O.ck, ?_, ?_, ?_, ?_⟩
  · rw [drpA_12]
    exact Nat.le_trans (cnt_le _ _) e60
  · rw [o 0 (by omega), o 1 (by omega), o 2 (by omega), o 3 (by omega)]
    exact O.2.2.2.2.1
  · intro u hu
    rw [drpA_4] at hu
    rw [drp_dist, o 0 (by omega), o 11 (by omega), drpA_s A t (f := 5) (by omega) (by omega), drpA_s A t (f := 6) (by omega) (by omega), drpA_s A t (f := 7) (by omega) (by omega), drpA_s A t (f := 8) (by omega) (by omega), drpA_s A t (f := 9) (by omega) (by omega), drpA_s A t (f := 10) (by omega) (by omega)]
    exact O.tr (skp_lt ht hu)
  · intro i hi
    rw [drpA_12] at hi
    rw [drpA_13, drpA_14, drpA_15]
    exact ⟨fltJ_b (fun k hk => (j k hk).1) i hi, fltJ_b (fun k hk => by have := (j k hk).2.1; split <;> omega) i hi, fltJ_b (fun k hk => (j k hk).2.2) i hi⟩
end Drop
