/-! what goes on by a rule: rounds of letting go and waiting -/
noncomputable def sM (A : Ab) (r : Nat) : Nat := fst (fun j => decide (fbI (sndA A r j) r (A 4 0) = 0)) (A 4 0 + 1) 0
theorem sM_ok (A : Ab) (r : Nat) : SndM A r (sM A r) := by
  have sp := fst_spec (fun j => decide (fbI (sndA A r j) r (A 4 0) = 0)) (A 4 0 + 1) 0
  have le := fst_le (fun j => decide (fbI (sndA A r j) r (A 4 0) = 0)) (A 4 0 + 1) 0
  have h1 : ∀ j, j < sM A r → fbI (sndA A r j) r (A 4 0) ≠ 0 := fun j hj => of_decide_eq_false (sp.1 j (by omega) hj)
  refine ⟨h1, ?_⟩
  by_cases z : sM A r < A 4 0 + 1
  · exact of_decide_eq_true (sp.2 (by unfold sM at z; omega))
  · have := snd_Mle h1
    omega
noncomputable def letA (A : Ab) (r : Nat) : Ab := sndA A r (sM A r)
noncomputable def itA (A : Ab) (r : Nat) : Nat → Ab
  | 0 => A
  | j + 1 => tickA (letA (itA A r j) r) (wtA (letA (itA A r j) r) (A 4 0))
def remA (A : Ab) (t : Nat) : Nat := if A 9 t = 1 then A 10 t - A 11 0 else 0
def phiA (A : Ab) : Nat := sm (fun t => minA A t (A 8 t) + remA A t) (A 4 0)
def psiA (A : Ab) : Nat := sm (fun t => A 8 t + (if A 9 t = 1 then 1 else 0)) (A 4 0)
theorem sm_lt {f g : Nat → Nat} {w t0 : Nat} : ∀ {n : Nat}, t0 < n → f t0 + w ≤ g t0 → (∀ t, t < n → f t ≤ g t) → sm f n + w ≤ sm g n
  | 0, h, _, _ => absurd h (by omega)
  | n + 1, h, h1, h2 => by
    rw [sm_s, sm_s]
    by_cases e : t0 = n
    · subst e
      have : sm f t0 ≤ sm g t0 := by
        have aux : ∀ m, m ≤ t0 → sm f m ≤ sm g m := by
          intro m
          induction m with
          | zero => intro _; exact Nat.le_refl _
          | succ m ih =>
            intro hm
            have a := ih (by omega)
            have b := h2 m (by omega)
            rw [sm_s, sm_s]
            omega
        exact aux t0 (Nat.le_refl _)
      omega
    · have := sm_lt (f := f) (g := g) (n := n) (by omega) h1 (fun t ht => h2 t (by omega))
      have := h2 n (by omega)
      omega
section Plan
variable {A : Ab}
theorem minA_st {A' : Ab} (s : StEq A A') (t d : Nat) : minA A' t d = minA A t d := by
  unfold minA
  refine sm_congr (fun i _ => ?_)
  unfold secA
  rw [s 3 (by omega), s 5 (by omega), s 6 (by omega)]
theorem phi_dep (O : OkA A) {t : Nat} (ht : t < A 4 0) (h9 : A 9 t = 0) : phiA (depA A t) = phiA A ∧ psiA (depA A t) = psiA A := by
  have h := O.tr ht
  have h8 := h.2.2.2.2.2.2.2.1 h9
  have st := depA_st A t
  unfold phiA psiA
  rw [depA_o A t 4 (by omega)]
  refine ⟨sm_congr (fun u hu => ?_), sm_congr (fun u hu => ?_)⟩
  · rw [minA_st st]
    unfold remA
    rw [depA_8, depA_9, depA_10, depA_o A t 11 (by omega)]
    by_cases e : u = t
    · subst e
      rw [upx_at, upx_at, upx_at, if_pos rfl, if_neg (by omega)]
      obtain ⟨c, hc⟩ : ∃ c, A 8 u = c + 1 := ⟨A 8 u - 1, by omega⟩
      rw [hc, Nat.add_sub_cancel, minA_s]
      omega
    · rw [upx_ne _ e, upx_ne _ e, upx_ne _ e]
  · rw [depA_8, depA_9]
    by_cases e : u = t
    · subst e
      rw [upx_at, upx_at, if_pos rfl, if_neg (by omega)]
      omega
    · rw [upx_ne _ e, upx_ne _ e]
theorem phi_snd (O : OkA A) (hc : A 11 0 < 2 ^ 19) {r : Nat} : ∀ {M : Nat}, (∀ j, j < M → fbI (sndA A r j) r (A 4 0) ≠ 0) → phiA (sndA A r M) = phiA A ∧ psiA (sndA A r M) = psiA A
  | 0, _ => ⟨rfl, rfl⟩
  | M + 1, h => by
    have ih := phi_snd O hc (r := r) (M := M) (fun j hj => h j (by omega))
    obtain ⟨O1, -⟩ := snd_ok O hc (r := r) (M := M) (fun j hj => h j (by omega))
    have h2 := h M (by omega)
    have h3 := fbI_ag _ _ _ h2
    have h4 := fbI_le (sndA A r M) r (A 4 0)
    have e4 : sndA A r M 4 = A 4 := (snd_4 (A := A) (r := r) M).1 4 (by omega)
    have := phi_dep O1 (t := fbI (sndA A r M) r (A 4 0) - 1) (by rw [e4]; omega) (agA_0 h3).1
    exact ⟨this.1.trans ih.1, this.2.trans ih.2⟩
theorem let_ok (O : OkA A) (hc : A 11 0 < 2 ^ 19) (r : Nat) : OkA (letA A r) ∧ StEq A (letA A r) ∧ letA A r 11 = A 11 ∧ (∀ u, dA (letA A r) u ≤ dA A u) ∧ Rch A (dA A) (dA (letA A r)) ∧ (SafeA A (dA A) → SafeA A (dA (letA A r))) ∧ phiA (letA A r) = phiA A ∧ psiA (letA A r) = psiA A ∧ fbI (letA A r) r (A 4 0) = 0 := by
  have h := sM_ok A r
  obtain ⟨a, b, c, d⟩ := snd_ok O hc h.1
  have p := phi_snd O hc h.1
  exact ⟨a, (snd_4 _).1, (snd_4 _).2, b, c, d, p.1, p.2, h.2⟩
theorem wt_0 (O : OkA A) : ∀ {n : Nat}, n ≤ A 4 0 → wtA A n = 0 → ∀ t, t < n → A 9 t ≠ 1
  | 0, _, _, t, ht => absurd ht (by omega)
  | n + 1, hn, h, t, ht => by
    rw [wtA_s] at h
    have g := (O.tr (t := n) (by omega)).2.2.2.2.2.2.2.2.2.2.2
    by_cases c : A 9 n = 1 ∧ (wtA A n = 0 ∨ A 10 n - A 11 0 < wtA A n)
    · rw [if_pos c] at h
      have := g c.1
      omega
    · rw [if_neg c] at h
      by_cases e : t = n
      · subst e; exact fun z => c ⟨z, Or.inl h⟩
      · exact wt_0 O (by omega) h t (by omega)
theorem wt_le (O : OkA A) : ∀ {n : Nat}, n ≤ A 4 0 → ∀ t, t < n → A 9 t = 1 → wtA A n ≤ A 10 t - A 11 0 ∧ 0 < wtA A n
  | 0, _, t, ht, _ => absurd ht (by omega)
  | n + 1, hn, t, ht, h9 => by
    rw [wtA_s]
    have g := (O.tr (t := n) (by omega)).2.2.2.2.2.2.2.2.2.2.2
    by_cases c : A 9 n = 1 ∧ (wtA A n = 0 ∨ A 10 n - A 11 0 < wtA A n)
    · rw [if_pos c]
      have g1 := g c.1
      by_cases e : t = n
      · subst e; omega
      · have := wt_le O (n := n) (by omega) t (by omega) h9
        omega
    · rw [if_neg c]
      by_cases e : t = n
      · subst e
        have : ¬ (wtA A t = 0 ∨ A 10 t - A 11 0 < wtA A t) := fun z => c ⟨h9, z⟩
        omega
      · exact wt_le O (by omega) t (by omega) h9
theorem wt_at (O : OkA A) : ∀ {n : Nat}, n ≤ A 4 0 → 0 < wtA A n → ∃ t, t < n ∧ A 9 t = 1 ∧ A 10 t - A 11 0 = wtA A n
  | 0, _, h => absurd h (by simp [wtA])
  | n + 1, hn, h => by
    rw [wtA_s] at h ⊢
    by_cases c : A 9 n = 1 ∧ (wtA A n = 0 ∨ A 10 n - A 11 0 < wtA A n)
    · rw [if_pos c]; exact ⟨n, by omega, c.1, rfl⟩
    · rw [if_neg c] at h ⊢
      obtain ⟨t, a, b⟩ := wt_at O (n := n) (by omega) h
      exact ⟨t, by omega, b⟩
/-- waiting to the next that comes -/
theorem phi_tick (O : OkA A) (h : 0 < wtA A (A 4 0)) : phiA (tickA A (wtA A (A 4 0))) + wtA A (A 4 0) ≤ phiA A ∧ psiA (tickA A (wtA A (A 4 0))) + 1 ≤ psiA A := by
  obtain ⟨t0, a, b, c⟩ := wt_at O (Nat.le_refl _) h
  have g0 := (O.tr a).2.2.2.2.2.2.2.2.2.2.2 b
  have st := tick_st A (wtA A (A 4 0))
  have e8 : tickA A (wtA A (A 4 0)) 8 = A 8 := tkA_o A _ _ (by omega) (by omega)
  have e10 : tickA A (wtA A (A 4 0)) 10 = A 10 := tkA_o A _ _ (by omega) (by omega)
  have e11 : tickA A (wtA A (A 4 0)) 11 0 = A 11 0 + wtA A (A 4 0) := rfl
  have e9 : ∀ t, tickA A (wtA A (A 4 0)) 9 t = if t < A 4 0 ∧ A 9 t = 1 ∧ A 10 t ≤ A 11 0 + wtA A (A 4 0) then (if A 8 t = 0 then 2 else 0) else A 9 t := fun t => rfl
  unfold phiA psiA
  rw [st 4 (by omega)]
  have key : ∀ t, t < A 4 0 → remA (tickA A (wtA A (A 4 0))) t ≤ remA A t ∧ (A 9 t = 1 → remA (tickA A (wtA A (A 4 0))) t + wtA A (A 4 0) ≤ remA A t) := by
    intro t ht
    unfold remA
    rw [e9, e10, e11]
    by_cases z : A 9 t = 1
    · have g := wt_le O (Nat.le_refl _) t ht z
      have g1 := (O.tr ht).2.2.2.2.2.2.2.2.2.2.2 z
      rw [if_pos z]
      by_cases y : A 10 t ≤ A 11 0 + wtA A (A 4 0)
      · rw [if_pos (show t < A 4 0 ∧ A 9 t = 1 ∧ A 10 t ≤ A 11 0 + wtA A (A 4 0) from ⟨ht, z, y⟩)]
        rw [if_neg (by split <;> omega)]
        omega
      · rw [if_neg (show ¬ (t < A 4 0 ∧ A 9 t = 1 ∧ A 10 t ≤ A 11 0 + wtA A (A 4 0)) from fun q => y q.2.2), if_pos z]
        omega
    · rw [if_neg (show ¬ (t < A 4 0 ∧ A 9 t = 1 ∧ A 10 t ≤ A 11 0 + wtA A (A 4 0)) from fun q => z q.2.1), if_neg z]
      omega
  refine ⟨sm_lt (t0 := t0) a ?_ (fun t ht => ?_), sm_lt (t0 := t0) a ?_ (fun t ht => ?_)⟩
  · have := (key t0 a).2 b
    rw [minA_st st, e8]
    omega
  · have := (key t ht).1
    rw [minA_st st, e8]
    omega
  · rw [e8, e9, if_pos (show t0 < A 4 0 ∧ A 9 t0 = 1 ∧ A 10 t0 ≤ A 11 0 + wtA A (A 4 0) from ⟨a, b, by omega⟩), if_pos b, if_neg (by split <;> omega)]
    omega
  · rw [e8, e9]
    by_cases z : t < A 4 0 ∧ A 9 t = 1 ∧ A 10 t ≤ A 11 0 + wtA A (A 4 0)
    · rw [if_pos z, if_pos z.2.1, if_neg (by split <;> omega)]
      omega
    · rw [if_neg z]; exact Nat.le_refl _
theorem phi_b (O : OkA A) : phiA A ≤ 180 ∧ psiA A ≤ 20 := by
  have hn := O.n4
  have a : ∀ t, t < A 4 0 → minA A t (A 8 t) + remA A t ≤ 45 := by
    intro t ht
    have h := O.tr ht
    have h5 := dist_le O ht
    have m := minA_le O ht h.2.2.2.2.2.1
    unfold remA
    by_cases z : A 9 t = 1
    · rw [if_pos z]
      have := h.2.2.2.2.2.2.2.2.1 z
      have := h.2.2.2.2.2.2.2.2.2.2.2 z
      omega
    · rw [if_neg z]; omega
  have b : ∀ t, t < A 4 0 → A 8 t + (if A 9 t = 1 then 1 else 0) ≤ 5 := by
    intro t ht
    have h := O.tr ht
    have h5 := dist_le O ht
    by_cases z : A 9 t = 1
    · rw [if_pos z]
      have := h.2.2.2.2.2.2.2.2.1 z
      omega
    · rw [if_neg z]; omega
  have a1 := sm_le a
  have b1 := sm_le b
  unfold phiA psiA
  have : A 4 0 * 45 ≤ 4 * 45 := Nat.mul_le_mul_right _ hn
  have : A 4 0 * 5 ≤ 4 * 5 := Nat.mul_le_mul_right _ hn
  omega
/-- what each round keeps -/
theorem it_ok (O : OkA A) (hc : A 11 0 + 200 < 2 ^ 19) {r : Nat} : ∀ {J : Nat}, (∀ j, j < J → 0 < wtA (letA (itA A r j) r) (A 4 0)) → OkA (itA A r J) ∧ StEq A (itA A r J) ∧ (∀ u, dA (itA A r J) u ≤ dA A u) ∧ Rch A (dA A) (dA (itA A r J)) ∧ (SafeA A (dA A) → SafeA A (dA (itA A r J))) ∧ (itA A r J 11 0 - A 11 0) + phiA (itA A r J) ≤ phiA A ∧ J + psiA (itA A r J) ≤ psiA A ∧ A 11 0 ≤ itA A r J 11 0
  | 0, _ => ⟨O, fun _ _ => rfl, fun _ => Nat.le_refl _, Rch_refl _, fun h => h, by show (A 11 0 - A 11 0) + phiA A ≤ phiA A; omega, by show 0 + psiA A ≤ psiA A; omega, Nat.le_refl _⟩
  | J + 1, h => by
    obtain ⟨o, s, d, rc, sf, ph, ps, ck⟩ := it_ok O hc (r := r) (J := J) (fun j hj => h j (by omega))
    have pb := phi_b O
    have hcJ : itA A r J 11 0 < 2 ^ 19 := by omega
    obtain ⟨lo, ls, lc, ld, lr, lsf, lph, lps, lf⟩ := let_ok o hcJ r
    have hw := h J (by omega)
    have e4 : letA (itA A r J) r 4 = A 4 := (ls 4 (by omega)).trans (s 4 (by omega))
    have e4' : itA A r J 4 = A 4 := s 4 (by omega)
    have w9 := wtA_le lo (n := A 4 0) (by rw [e4]; exact Nat.le_refl _)
    have pt := phi_tick lo (by rw [e4]; exact hw)
    rw [e4] at pt
    have e11 : itA A r (J + 1) 11 0 = itA A r J 11 0 + wtA (letA (itA A r J) r) (A 4 0) := by
      show letA (itA A r J) r 11 0 + _ = _
      rw [lc]
    have stt : StEq A (itA A r (J + 1)) := fun f hf => (tick_st _ _ f hf).trans ((ls f hf).trans (s f hf))
    have dd : dA (itA A r (J + 1)) = dA (letA (itA A r J) r) := dA_tick _ _
    refine ⟨OkA_tick lo (by rw [lc]; omega), stt, fun u => ?_, ?_, fun q => ?_, ?_, ?_, ?_⟩
    · rw [dd]; exact Nat.le_trans (ld u) (d u)
    · rw [dd]; exact Rch_trans rc ((Rch_st s).mp lr)
    · rw [dd]; exact (Safe_st s).mp (lsf ((Safe_st s).mpr (sf q)))
    · rw [e11]
      have : phiA (itA A r (J + 1)) + wtA (letA (itA A r J) r) (A 4 0) ≤ phiA (letA (itA A r J) r) := pt.1
      omega
    · have : psiA (itA A r (J + 1)) + 1 ≤ psiA (letA (itA A r J) r) := pt.2
      omega
    · omega
/-- where nobody runs and nobody can go, all are DONE, if all was SAFE -/
theorem all_done (O : OkA A) (hs : SafeA A (dA A)) (hf : ∀ t, t < A 4 0 → agA A t ≠ 0) (hw : wtA A (A 4 0) = 0) : ∀ t, t < A 4 0 → A 9 t = 2 := by
  have nr := wt_0 O (Nat.le_refl _) hw
  have nr2 : ∀ s, ¬ fst (runA A s) (A 4 0) 0 < A 4 0 := by
    intro s z
    have := (fst_spec (runA A s) (A 4 0) 0).2 (by omega)
    have := of_decide_eq_true this
    exact nr _ z this.1
  intro t ht
  have h := O.tr ht
  by_cases z : A 9 t = 2
  · exact z
  · have z0 : A 9 t = 0 := by have := nr t ht; omega
    have h8 := h.2.2.2.2.2.2.2.1 z0
    rcases Safe_rec.mp hs with q | ⟨u, hu, hcn, hsf⟩
    · have := q t ht
      rw [dA_lt ht] at this
      omega
    · have hp := can_pos hcn
      rw [dA_lt hu] at hp
      have gu := O.tr hu
      have u0 : A 9 u = 0 := by
        have a1 := nr u hu
        have a2 : A 9 u ≠ 2 := fun w => by have := gu.2.2.2.2.2.2.2.2.2.1 w; omega
        omega
      refine absurd ?_ (hf u hu)
      unfold agA
      rw [if_pos u0, if_neg (nr2 _), if_pos hcn, if_pos (safeB_iff.mpr hsf)]
end Plan
