/-! the journal -/
def posJ (m w : Nat → Nat) (c t : Nat) : Nat → Nat
  | 0 => 0
  | i + 1 => if m i = c ∧ t < w i then posJ m w c t i else i + 1
theorem posJ_s (m w : Nat → Nat) (c t i : Nat) : posJ m w c t (i + 1) = if m i = c ∧ t < w i then posJ m w c t i else i + 1 := rfl
theorem posJ_le (m w : Nat → Nat) (c t : Nat) : ∀ i, posJ m w c t i ≤ i
  | 0 => Nat.le_refl _
  | i + 1 => by
    rw [posJ_s]
    split
    · have := posJ_le m w c t i; omega
    · exact Nat.le_refl _
def insJ (f : Nat → Nat) (p v : Nat) : Nat → Nat := fun j => if j < p then f j else if j = p then v else f (j - 1)
def preE (A : Ab) : Nat := if A 12 0 = 60 then 59 else A 12 0
def preJ (A : Ab) (f : Nat) : Nat → Nat := if A 12 0 = 60 then fun j => A f (j + 1) else A f
def posA (A : Ab) (t : Nat) : Nat := posJ (preJ A 13) (preJ A 14) (A 11 0) t (preE A)
def depA (A : Ab) (t : Nat) : Ab := fun f =>
  if f = 8 then upx (A 8) t (A 8 t - 1) else if f = 9 then upx (A 9) t 1 else if f = 10 then upx (A 10) t (A 11 0 + A 3 (secA A t (A 8 t)))
  else if f = 12 then fun _ => preE A + 1 else if f = 13 then insJ (preJ A 13) (posA A t) (A 11 0) else if f = 14 then insJ (preJ A 14) (posA A t) t
  else if f = 15 then insJ (preJ A 15) (posA A t) (spotA A t (A 8 t)) else A f
theorem depA_o (A : Ab) (t f : Nat) (h : f ≤ 7 ∨ f = 11) : depA A t f = A f := by
  unfold depA
  simp (disch := omega) only [if_neg]
theorem depA_8 (A : Ab) (t : Nat) : depA A t 8 = upx (A 8) t (A 8 t - 1) := rfl
theorem depA_9 (A : Ab) (t : Nat) : depA A t 9 = upx (A 9) t 1 := rfl
theorem depA_10 (A : Ab) (t : Nat) : depA A t 10 = upx (A 10) t (A 11 0 + A 3 (secA A t (A 8 t))) := rfl
theorem depA_12 (A : Ab) (t : Nat) : depA A t 12 = fun _ => preE A + 1 := rfl
theorem depA_13 (A : Ab) (t : Nat) : depA A t 13 = insJ (preJ A 13) (posA A t) (A 11 0) := rfl
theorem depA_14 (A : Ab) (t : Nat) : depA A t 14 = insJ (preJ A 14) (posA A t) t := rfl
theorem depA_15 (A : Ab) (t : Nat) : depA A t 15 = insJ (preJ A 15) (posA A t) (spotA A t (A 8 t)) := rfl
theorem depA_st (A : Ab) (t : Nat) : StEq A (depA A t) := fun f hf => depA_o A t f (Or.inl hf)
theorem dA_dep {A : Ab} {t : Nat} (ht : t < A 4 0) : dA (depA A t) = dec (dA A) t := by
  funext u
  unfold dA
  rw [depA_o A t 4 (by omega), depA_8]
  unfold dec upx
  by_cases e : u = t
  · subst e
    rw [if_pos rfl, if_pos rfl, if_pos ht]
    show A 8 u - 1 = (if u < A 4 0 then A 8 u else 0) - 1
    rw [if_pos ht]
  · rw [if_neg e, if_neg e]
theorem preE_le {A : Ab} (O : OkA A) : preE A ≤ 59 := by
  have := O.e60
  unfold preE
  split <;> omega
/-- what lies in the journal, three rows of entries -/
def sJn (k : Nat) : Rf → Nat → Bool := fun r i => r == (0, k, 14) || r == (0, k, 15) || r == (0, k, 16) || (r == (0, k, 0) && i == 12)
section Jrn
variable {μ : Mem} {k : Nat} {A : Ab}
theorem enterJ_ok {e c t p : Nat} {f g h : Nat → Nat} (he : e ≤ 59) (hc : c < 2 ^ 31) (ht : t < 2 ^ 31) (h0 : μ (0, k, 0) 12 = nI e) (h1 : μ (0, k, 0) 11 = nI c) (hf : ∀ j, j < e → μ (0, k, 14) j = nI (f j) ∧ f j < 2 ^ 31) (hg : ∀ j, j < e → μ (0, k, 15) j = nI (g j) ∧ g j < 2 ^ 31) (hh : ∀ j, j < e → μ (0, k, 16) j = nI (h j)) : ∃ μ', jL_enterJournal_13 k (nI t) (nI p) μ = some μ' ∧ Off (sJn k) μ μ' ∧ μ' (0, k, 0) 12 = nI (e + 1) ∧ (∀ j, j < e + 1 → μ' (0, k, 14) j = nI (insJ f (posJ f g c t e) c j)) ∧ (∀ j, j < e + 1 → μ' (0, k, 15) j = nI (insJ g (posJ f g c t e) t j)) ∧ ∀ j, j < e + 1 → μ' (0, k, 16) j = nI (insJ h (posJ f g c t e) p j) := by
  unfold jL_enterJournal_13
  simp only [lt_def, h0]
  refine lz11_m (B := bL_enterJournal_18 k (nI t) (nI p)) (fun r => ∃ μ', r = some μ' ∧ Off (sJn k) μ μ' ∧ μ' (0, k, 0) 12 = nI (e + 1) ∧ (∀ j, j < e + 1 → μ' (0, k, 14) j = nI (insJ f (posJ f g c t e) c j)) ∧ (∀ j, j < e + 1 → μ' (0, k, 15) j = nI (insJ g (posJ f g c t e) t j)) ∧ ∀ j, j < e + 1 → μ' (0, k, 16) j = nI (insJ h (posJ f g c t e) p j)) (fun a m => ∃ x, x ≤ e ∧ a = nI x ∧ posJ f g c t e = posJ f g c t x ∧ Off (sJn k) μ m ∧ m (0, k, 0) 12 = nI e ∧ (∀ j, j < x → m (0, k, 14) j = nI (f j) ∧ m (0, k, 15) j = nI (g j) ∧ m (0, k, 16) j = nI (h j)) ∧ ∀ j, x < j → j ≤ e → m (0, k, 14) j = nI (f (j - 1)) ∧ m (0, k, 15) j = nI (g (j - 1)) ∧ m (0, k, 16) j = nI (h (j - 1))) (fun a _ => ix a) ?_ FU _ _ ⟨e, Nat.le_refl _, rfl, rfl, Off_refl _ _, h0, fun j hj => ⟨(hf j hj).1, (hg j hj).1, hh j hj⟩, fun j a b => by omega⟩ (by show ix (nI e) < FU; rw [ix_n (by omega)]; exact FU_gt (by omega))
  rintro sf a m ⟨x, hx, rfl, hp, o1, m12, lo, hi⟩
  have fin : posJ f g c t x = x → ∃ μ', jL_enterJournal_97 k (nI t) (nI p) (nI x) m = some μ' ∧ Off (sJn k) μ μ' ∧ μ' (0, k, 0) 12 = nI (e + 1) ∧ (∀ j, j < e + 1 → μ' (0, k, 14) j = nI (insJ f (posJ f g c t e) c j)) ∧ (∀ j, j < e + 1 → μ' (0, k, 15) j = nI (insJ g (posJ f g c t e) t j)) ∧ ∀ j, j < e + 1 → μ' (0, k, 16) j = nI (insJ h (posJ f g c t e) p j) := by
    intro hpx
    have c1 : m (0, k, 0) 11 = nI c := (o1 _ _ (by simp [sJn])).trans h1
    unfold jL_enterJournal_97
    have r12 : ∀ v1 v2 v3, (wr (wr (wr m (0, k, 14) x v1) (0, k, 15) x v2) (0, k, 16) x v3) (0, k, 0) 12 = nI e := fun v1 v2 v3 => by
      rw [wr_off _ _ (by simp), wr_off _ _ (by simp), wr_off _ _ (by simp), m12]
    simp (disch := omega) only [lit_0, lit_1, lit_2, lit_3, lit_4, lit_5, lit_6, lit_7, lit_8, lit_9, lit_10, lit_11, lit_12, lit_13, lit_14, lit_15, lit_16, lit_17, lit_18, lit_19, lit_20, lit_23, lit_24, lit_31, lit_32, lit_34, lit_36, lit_40, lit_48, lit_49, lit_57, lit_58, lit_59, lit_60, lit_64, lit_96, lit_97, lit_99, lit_101, lit_105, lit_108, lit_110, lit_111, lit_112, lit_114, lit_115, lit_116, lit_122, lit_127, lit_160, lit_216, lit_235, lit_238, lit_343, lit_476, lit_1296, lit_2000, lit_2401, lt_def, bind_s, gd_d, ix_n, inb_n, nI_add, pk_mul, pk_sub, nI_leI, nI_ltI, nI_eq, nI_ltn, nI_eqn, nI_eqn2, if_pos, if_neg, if_true, if_false, nI_addm1, c1, r12]
    rw [hp, hpx]
    refine ⟨_, rfl, Off_wr (Off_wr (Off_wr (Off_wr o1 (by simp [sJn])) (by simp [sJn])) (by simp [sJn])) (by simp [sJn]), wr_at _ _ _ _, fun j hj => ?_, fun j hj => ?_, fun j hj => ?_⟩
    · rw [wr_off _ _ (by simp), wr_off _ _ (by simp), wr_off _ _ (by simp), wr_get]
      unfold insJ
      by_cases w : j = x
      · rw [if_pos ⟨rfl, w⟩, if_neg (by omega), if_pos w]
      · rw [if_neg (fun z => w z.2)]
        by_cases v : j < x
        · rw [if_pos v]; exact (lo j v).1
        · rw [if_neg v, if_neg w]; exact (hi j (by omega) (by omega)).1
    · rw [wr_off _ _ (by simp), wr_off _ _ (by simp), wr_get]
      unfold insJ
      by_cases w : j = x
      · rw [if_pos ⟨rfl, w⟩, if_neg (by omega), if_pos w]
      · rw [if_neg (fun z => w z.2), wr_off _ _ (by simp)]
        by_cases v : j < x
        · rw [if_pos v]; exact (lo j v).2.1
        · rw [if_neg v, if_neg w]; exact (hi j (by omega) (by omega)).2.1
    · rw [wr_off _ _ (by simp), wr_get]
      unfold insJ
      by_cases w : j = x
      · rw [if_pos ⟨rfl, w⟩, if_neg (by omega), if_pos w]
      · rw [if_neg (fun z => w z.2), wr_off _ _ (by simp), wr_off _ _ (by simp)]
        by_cases v : j < x
        · rw [if_pos v]; exact (lo j v).2.2
        · rw [if_neg v, if_neg w]; exact (hi j (by omega) (by omega)).2.2
  have c1 : m (0, k, 0) 11 = nI c := (o1 _ _ (by simp [sJn])).trans h1
  unfold bL_enterJournal_18
  by_cases x0 : x = 0
  · right
    subst x0
    rw [if_pos (by decide +kernel)]
    exact fin rfl
  · obtain ⟨y, rfl⟩ : ∃ y, x = y + 1 := ⟨x - 1, by omega⟩
    have l1 := lo y (by omega)
    have b1 := (hf y (by omega)).2
    have b2 := (hg y (by omega)).2
    simp (disch := omega) only [lit_0, lit_1, lit_2, lit_3, lit_4, lit_5, lit_6, lit_7, lit_8, lit_9, lit_10, lit_11, lit_12, lit_13, lit_14, lit_15, lit_16, lit_17, lit_18, lit_19, lit_20, lit_23, lit_24, lit_31, lit_32, lit_34, lit_36, lit_40, lit_48, lit_49, lit_57, lit_58, lit_59, lit_60, lit_64, lit_96, lit_97, lit_99, lit_101, lit_105, lit_108, lit_110, lit_111, lit_112, lit_114, lit_115, lit_116, lit_122, lit_127, lit_160, lit_216, lit_235, lit_238, lit_343, lit_476, lit_1296, lit_2000, lit_2401, lt_def, bind_s, gd_d, ix_n, inb_n, nI_add, pk_mul, pk_sub, nI_leI, nI_ltI, nI_eq, nI_ltn, nI_eqn, nI_eqn2, if_pos, if_neg, if_true, if_false, nI_addm1, Nat.add_sub_cancel, l1.1, l1.2.1, c1]
    by_cases q1 : f y = c
    · by_cases q2 : g y ≤ t
      · right
        rw [if_pos q1, if_pos q2]
        exact fin (by rw [posJ_s, if_neg (by omega)])
      · left
        rw [if_pos q1, if_neg q2]
        refine ⟨nI y, _, ⟨y, by omega, rfl, ?_, ?_, ?_, fun j hj => ?_, fun j j1 j2 => ?_⟩, ?_, rfl⟩
        · rw [hp, posJ_s, if_pos ⟨q1, by omega⟩]
        · exact Off_wr (Off_wr (Off_wr o1 (by simp [sJn])) (by simp [sJn])) (by simp [sJn])
        · rw [wr_off _ _ (by simp), wr_off _ _ (by simp), wr_off _ _ (by simp), m12]
        · rw [wr_off _ _ (by simp), wr_off _ _ (by simp), wr_off _ _ (by simp; omega), wr_off _ _ (by simp), wr_off _ _ (by simp; omega), wr_off _ _ (by simp), wr_off _ _ (by simp; omega), wr_off _ _ (by simp), wr_off _ _ (by simp)]
          exact lo j (by omega)
        · by_cases w : j = y + 1
          · subst w
            rw [Nat.add_sub_cancel, wr_off _ _ (by simp), wr_off _ _ (by simp), wr_at, wr_off _ _ (by simp), wr_at, wr_at, wr_off _ _ (by simp), wr_off _ _ (by simp), wr_off _ _ (by simp)]
            exact ⟨rfl, l1.2⟩
          · rw [wr_off _ _ (by simp), wr_off _ _ (by simp), wr_off _ _ (by simp; omega), wr_off _ _ (by simp), wr_off _ _ (by simp; omega), wr_off _ _ (by simp), wr_off _ _ (by simp; omega), wr_off _ _ (by simp), wr_off _ _ (by simp)]
            exact hi j (by omega) j2
        · rw [ix_n (by omega)]; omega
    · right
      rw [if_neg q1]
      exact fin (by rw [posJ_s, if_neg (by omega)])
end Jrn
