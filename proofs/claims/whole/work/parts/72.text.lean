/-! words, and the class's reading of the whole text -/
theorem jlen {k : Nat} (hk : k < 3) (m : Mem) : fJ_length k m = some (nI (wlen k)) := by
  have : k = 0 ∨ k = 1 ∨ k = 2 := by omega
  rcases this with rfl | rfl | rfl <;> rfl
theorem jchar {k i : Nat} (hk : k < 3) (hi : i < wlen k) (m : Mem) : fJ_charAt k (nI i) m = some (nI (wch k i)) := by
  have : k = 0 ∨ k = 1 ∨ k = 2 := by omega
  rcases this with rfl | rfl | rfl
  · have : i = 0 ∨ i = 1 ∨ i = 2 ∨ i = 3 ∨ i = 4 := by have : wlen 0 = 5 := rfl; omega
    rcases this with rfl | rfl | rfl | rfl | rfl <;> rfl
  · have : i = 0 ∨ i = 1 ∨ i = 2 ∨ i = 3 ∨ i = 4 ∨ i = 5 ∨ i = 6 := by have : wlen 1 = 7 := rfl; omega
    rcases this with rfl | rfl | rfl | rfl | rfl | rfl | rfl <;> rfl
  · have : i = 0 ∨ i = 1 ∨ i = 2 ∨ i = 3 ∨ i = 4 := by have : wlen 2 = 5 := rfl; omega
    rcases this with rfl | rfl | rfl | rfl | rfl <;> rfl
theorem wlen_b (k : Nat) : 5 ≤ wlen k ∧ wlen k ≤ 7 := by unfold wlen; split <;> omega
theorem wch_b {k i : Nat} : wch k i < 2 ^ 31 := by
  unfold wch
  have h : ∀ (l : List Nat), (∀ x ∈ l, x < 2 ^ 31) → l.getD i 0 < 2 ^ 31 := by
    intro l hl
    rw [List.getD_eq_getElem?_getD]
    cases e : l[i]? with
    | none => simp
    | some v => exact hl v (List.mem_of_getElem? e)
  split
  · exact h _ (by decide)
  · split
    · exact h _ (by decide)
    · exact h _ (by decide)
section TextC
variable {m : Mem} {T : Nat → Nat} {n p : Nat} {A : Ab}
theorem isWord_ok (H : TpC m T n) (hp : p ≤ n) (h4 : m (2, 0, 0) 4 = nI (tE T n p)) (h5 : m (2, 0, 0) 5 = nI (tS T n p)) (h6 : m (2, 0, 0) 6 = nI (tK T n p)) {k : Nat} (hk : k < 3) : fR_isWord k m = some (nI (if tK T n p = 1 ∧ isW T (tS T n p) (tE T n p) k = true then 1 else 0)) := by
  have h160 := H.1
  have kl := tK_le (T := T) (n := n) (p := p)
  have wb := wlen_b k
  unfold fR_isWord
  rw [h6]
  by_cases k1 : tK T n p = 1
  · have hE := tE_b (T := T) hp (by omega)
    rw [if_pos (show nI (tK T n p) = 1 by rw [k1]; rfl), jlen hk, bind_s, h4, h5, pk_sub (by omega)]
    by_cases q : tE T n p = tS T n p + wlen k
    · have e1 : nI (tE T n p - tS T n p) = nI (wlen k) := by congr 1; omega
      rw [if_pos e1, lt_def]
      refine up10 (B := bR_isWord_28 k m) (fun w => w = some (nI (if tK T n p = 1 ∧ isW T (tS T n p) (tE T n p) k = true then 1 else 0))) (wlen k) (by omega) (fun i => ∀ j, j < i → T (tS T n p + j) = wch k j) (fun j hj => absurd hj (by omega)) (fun sf i hi hJ => ?_) (fun sf hJ => ?_) <;> unfold bR_isWord_28
      · have ti := H.2.2 (tS T n p + i) (by omega)
        have wl := wch_b (k := k) (i := i)
        rw [jlen hk, bind_s, if_neg (fun z => by have := (nI_leI (by omega) (by omega)).mp z; omega), h5, nI_add, gd_in (by omega) (by omega), jchar hk hi, bind_s, ix_n (by omega), ti.1]
        by_cases w : T (tS T n p + i) = wch k i
        · left
          rw [if_pos (by rw [w]), lt_def, nI_s1]
          refine ⟨fun j hj => ?_, rfl⟩
          by_cases e : j = i
          · subst e; exact w
          · exact hJ j (by omega)
        · right
          rw [if_neg (fun z => w ((nI_eq (by omega) wl).mp z)), if_neg]
          · rfl
          · rintro ⟨-, z⟩
            unfold isW at z
            rw [Bool.and_eq_true, decide_eq_true_eq, decide_eq_true_eq] at z
            exact w (z.2 i hi)
      · rw [jlen hk, bind_s, if_pos ((nI_leI (by omega) (by omega)).mpr (Nat.le_refl _)), if_pos]
        · rfl
        · refine ⟨k1, ?_⟩
          unfold isW
          rw [Bool.and_eq_true, decide_eq_true_eq, decide_eq_true_eq]
          exact ⟨q, hJ⟩
    · rw [if_neg (fun z => q (by have := (nI_eq (by omega) (by omega)).mp z; omega)), if_neg]
      · rfl
      · rintro ⟨-, z⟩
        unfold isW at z
        rw [Bool.and_eq_true, decide_eq_true_eq] at z
        exact q z.1
  · have c1 : ¬ nI (tK T n p) = 1 := fun z => k1 ((nI_eq (b := 1) (by omega) (by omega)).mp z)
    rw [if_neg c1, if_neg (fun z => k1 z.1)]; rfl
theorem takeLine_ok (H : TpC m T n) (hp : p ≤ n) (h4 : m (2, 0, 0) 4 = nI (tE T n p)) (h5 : m (2, 0, 0) 5 = nI (tS T n p)) (h6 : m (2, 0, 0) 6 = nI (tK T n p)) (R : RepL m 1 A) (O : OkP A) : ∃ v m', fR_takeLine 1 m = some (v, m') ∧ ResC m m' v (lnR T n A p) := by
  have hp1 := tE_le (T := T) hp
  have o0 := O.1
  have o4 := O.2.1
  have n0 : nI 0 = 0 := rfl
  have n1 : ¬ nI 1 = 0 := by decide +kernel
  have w0 := isWord_ok H hp h4 h5 h6 (k := 0) (by omega)
  have w1 := isWord_ok H hp h4 h5 h6 (k := 1) (by omega)
  have w2 := isWord_ok H hp h4 h5 h6 (k := 2) (by omega)
  have fl : ∀ c : Nat, c ≠ 0 → ∃ v m', Option.bind (fR_fail (nI c) m) (fun q => gd (isb q.1) (some (q.1, q.2))) = some (v, m') ∧ ResC m m' v (c, tS T n p, 0, A) := by
    intro c hc
    obtain ⟨m1, f1, f2, f3, f4⟩ := fail_ok (c := c) h5
    rw [f1, bind_s]
    exact ⟨_, m1, rfl, ResC.bad hc (Off_mono f2 (fun r i h => sRd_f r i (sTx_r r i h))) ⟨f3, f4⟩⟩
  have wrp : ∀ {F : Option (Int32 × Mem)} {r : Nat × Nat × Nat × Ab}, (∃ v m', F = some (v, m') ∧ ResC m m' v r) → ∃ v m', Option.bind F (fun q => gd (isb q.1) (some (q.1, q.2))) = some (v, m') ∧ ResC m m' v r := by
    rintro F r ⟨v, m', rfl, h⟩
    refine ⟨v, m', ?_, h⟩
    rw [bind_s]
    show gd (isb v) (some (v, m')) = _
    rw [h.isb]; rfl
  unfold fR_takeLine lnR wC
  rw [w0, bind_s]
  by_cases c0 : tK T n p = 1 ∧ isW T (tS T n p) (tE T n p) 0 = true
  · rw [if_pos c0, if_neg n1, if_pos c0.1, if_pos c0.2, if_pos rfl]
    by_cases h : A 0 0 < 6
    · rw [if_pos h]
      exact wrp (takePlace_ok H hp1.2 h4 R O h)
    · rw [if_neg h]
      refine wrp ?_
      unfold fR_takePlace
      have cc : ¬ nI (A 0 0) < (6 : Int32) := fun z => h ((nI_ltI (b := 6) (by omega) (by omega)).mp z)
      rw [R.pl, if_neg cc]
      exact fl 5 (by omega)
  · rw [if_neg c0, if_pos n0, w1, bind_s]
    by_cases c1 : tK T n p = 1 ∧ isW T (tS T n p) (tE T n p) 1 = true
    · rw [if_pos c1, if_neg n1, if_pos c1.1, if_neg (fun z => c0 ⟨c1.1, z⟩), if_pos c1.2, if_neg (by omega), if_pos rfl]
      by_cases h : 1 ≤ A 0 0
      · rw [if_pos h]
        exact wrp (takeSection_ok H hp1.2 h4 R O h)
      · rw [if_neg h]
        refine wrp ?_
        unfold fR_takeSection
        have cc : ¬ (1 : Int32) ≤ nI (A 0 0) := fun z => h ((nI_leI (a := 1) (by omega) (by omega)).mp z)
        rw [R.pl, if_neg cc]
        exact fl 5 (by omega)
    · rw [if_neg c1, if_pos n0, w2, bind_s]
      by_cases c2 : tK T n p = 1 ∧ isW T (tS T n p) (tE T n p) 2 = true
      · rw [if_pos c2, if_neg n1, if_pos c2.1, if_neg (fun z => c0 ⟨c2.1, z⟩), if_neg (fun z => c1 ⟨c2.1, z⟩), if_pos c2.2, if_neg (by omega), if_neg (by omega), if_pos rfl]
        by_cases h : A 4 0 < 4
        · rw [if_pos h]
          exact wrp (takeTrain_ok H hp1.2 h4 R O h)
        · rw [if_neg h]
          refine wrp ?_
          unfold fR_takeTrain
          have cc : ¬ nI (A 4 0) < (4 : Int32) := fun z => h ((nI_ltI (b := 4) (by omega) (by omega)).mp z)
          rw [R.n, if_neg cc]
          exact fl 5 (by omega)
      · rw [if_neg c2, if_pos n0]
        have e : (if tK T n p = 1 then (if isW T (tS T n p) (tE T n p) 0 = true then 0 else if isW T (tS T n p) (tE T n p) 1 = true then 1 else if isW T (tS T n p) (tE T n p) 2 = true then 2 else 3) else 3) = 3 := by
          by_cases k1 : tK T n p = 1
          · rw [if_pos k1, if_neg (fun z => c0 ⟨k1, z⟩), if_neg (fun z => c1 ⟨k1, z⟩), if_neg (fun z => c2 ⟨k1, z⟩)]
          · rw [if_neg k1]
        rw [e, if_neg (by omega), if_neg (by omega), if_neg (by omega)]
        exact fl 2 (by omega)
theorem lnR_ok (H : TpC m T n) (hp : p ≤ n) (hk : tK T n p ≠ 0) (O : OkP A) (h : (lnR T n A p).1 = 0) : OkP (lnR T n A p).2.2.2 ∧ p + 1 ≤ (lnR T n A p).2.2.1 ∧ (lnR T n A p).2.2.1 ≤ n := by
  have hp1 := tE_le (T := T) hp
  have hE := tE_b (T := T) hp hk
  have hS := tS_b (T := T) hp
  have hp2 := tE_le (T := T) hp1.2
  have hp3 := tE_le (T := T) hp2.2
  have hp4 := tE_le (T := T) hp3.2
  have hp5 := tE_le (T := T) hp4.2
  have t0 : TrkOk (fun _ => 0) 0 (fun _ => 0) := ⟨fun i hi => absurd hi (by omega), fun i hi => absurd hi (by omega), fun i hi => absurd hi (by omega), fun x => rfl⟩
  have g0 := PlS_0 A (fun _ => 0)
  unfold lnR at h ⊢
  by_cases w0 : wC T n p = 0
  · rw [if_pos w0] at h ⊢
    by_cases c : A 0 0 < 6
    · rw [if_pos c] at h ⊢
      unfold plR at h ⊢
      by_cases z1 : nC T n (tE T n p) 1 20 = 0
      · have nz1 := nC_0 z1
        have g1 := PlS_s (v := tV T n (tE T n p)) g0
        have t1 := TrkOk_ins t0 nz1.2.2.1 nz1.2.2.2
        rw [if_neg (fun w => w z1)] at h ⊢
        by_cases k2 : tK T n (tE T n (tE T n p)) = 3
        · rw [if_pos k2]
          exact ⟨OkP_pl O c g1 t1 (by omega) (by omega), by dsimp only; omega, by dsimp only; omega⟩
        · rw [if_neg k2] at h ⊢
          by_cases z2 : nC T n (tE T n (tE T n p)) 1 20 = 0
          · have nz2 := nC_0 z2
            have g2 := PlS_s (v := tV T n (tE T n (tE T n p))) g1
            have t2 := TrkOk_ins t1 nz2.2.2.1 nz2.2.2.2
            rw [if_neg (fun w => w z2)] at h ⊢
            by_cases k3 : tK T n (tE T n (tE T n (tE T n p))) = 3
            · rw [if_pos k3]
              exact ⟨OkP_pl O c g2 t2 (by omega) (by omega), by dsimp only; omega, by dsimp only; omega⟩
            · rw [if_neg k3] at h ⊢
              by_cases z3 : nC T n (tE T n (tE T n (tE T n p))) 1 20 = 0
              · have nz3 := nC_0 z3
                have g3 := PlS_s (v := tV T n (tE T n (tE T n (tE T n p)))) g2
                have t3 := TrkOk_ins t2 nz3.2.2.1 nz3.2.2.2
                rw [if_neg (fun w => w z3)] at h ⊢
                by_cases z4 : gC T n (tE T n (tE T n (tE T n (tE T n p)))) = 0
                · rw [if_neg (fun w => w z4)]
                  exact ⟨OkP_pl O c g3 t3 (by omega) (by omega), by dsimp only; omega, by dsimp only; omega⟩
                · rw [if_pos z4] at h; exact absurd h z4
              · rw [if_pos z3] at h; exact absurd h z3
          · rw [if_pos z2] at h; exact absurd h z2
      · rw [if_pos z1] at h; exact absurd h z1
    · rw [if_neg c] at h; exact absurd h (by dsimp only; omega)
  · rw [if_neg w0] at h ⊢
    by_cases w1 : wC T n p = 1
    · rw [if_pos w1] at h ⊢
      by_cases c : 1 ≤ A 0 0
      · rw [if_pos c] at h ⊢
        unfold seR at h ⊢
        by_cases z1 : nC T n (tE T n p) 1 9 = 0
        · have nz1 := nC_0 z1
          rw [if_neg (fun w => w z1)] at h ⊢
          by_cases z2 : gC T n (tE T n (tE T n p)) = 0
          · rw [if_neg (fun w => w z2)]
            exact ⟨OkP_sen O nz1.2.2.1 nz1.2.2.2, by dsimp only; omega, by dsimp only; omega⟩
          · rw [if_pos z2] at h; exact absurd h z2
        · rw [if_pos z1] at h; exact absurd h z1
      · rw [if_neg c] at h; exact absurd h (by dsimp only; omega)
    · rw [if_neg w1] at h ⊢
      by_cases w2 : wC T n p = 2
      · rw [if_pos w2] at h ⊢
        by_cases c : A 4 0 < 4
        · rw [if_pos c] at h ⊢
          unfold trR at h ⊢
          by_cases z1 : nC T n (tE T n p) 0 5 = 0
          · have nz1 := nC_0 z1
            rw [if_neg (fun w => w z1)] at h ⊢
            by_cases z2 : nC T n (tE T n (tE T n p)) 0 5 = 0
            · have nz2 := nC_0 z2
              rw [if_neg (fun w => w z2)] at h ⊢
              by_cases y : tV T n (tE T n (tE T n p)) = tV T n (tE T n p)
              · rw [if_pos y] at h; exact absurd h (by dsimp only; omega)
              · rw [if_neg y] at h ⊢
                by_cases z3 : nC T n (tE T n (tE T n (tE T n p))) 1 20 = 0
                · have nz3 := nC_0 z3
                  rw [if_neg (fun w => w z3)] at h ⊢
                  by_cases z4 : gC T n (tE T n (tE T n (tE T n (tE T n p)))) = 0
                  · rw [if_neg (fun w => w z4)]
                    exact ⟨OkP_add O c nz1.2.2.2 nz2.2.2.2 (fun q => y q.symm) nz3.2.2.1 nz3.2.2.2, by dsimp only; omega, by dsimp only; omega⟩
                  · rw [if_pos z4] at h; exact absurd h z4
                · rw [if_pos z3] at h; exact absurd h z3
            · rw [if_pos z2] at h; exact absurd h z2
          · rw [if_pos z1] at h; exact absurd h z1
        · rw [if_neg c] at h; exact absurd h (by dsimp only; omega)
      · rw [if_neg w2] at h; exact absurd h (by dsimp only; omega)
end TextC
def zA : Ab := fun _ _ => 0
def stP (T : Nat → Nat) (n : Nat) : Nat → Ab × Nat
  | 0 => (zA, 0)
  | i + 1 => ((lnR T n (stP T n i).1 (stP T n i).2).2.2.2, (lnR T n (stP T n i).1 (stP T n i).2).2.2.1)
def lnOk (T : Nat → Nat) (n i : Nat) : Prop := tB T n (stP T n i).2 = false ∧ tK T n (stP T n i).2 ≠ 0 ∧ (lnR T n (stP T n i).1 (stP T n i).2).1 = 0
def TxM (T : Nat → Nat) (n M : Nat) : Prop := (∀ j, j < M → lnOk T n j) ∧ ¬ lnOk T n M
theorem TxM_un {T : Nat → Nat} {n M N : Nat} (h : TxM T n M) (g : TxM T n N) : M = N := by
  rcases Nat.lt_trichotomy M N with q | q | q
  · exact absurd (g.1 M q) h.2
  · exact q
  · exact absurd (h.1 N q) g.2
def txR (T : Nat → Nat) (n M : Nat) : Nat × Nat := if tB T n (stP T n M).2 then (1, tS T n (stP T n M).2) else if tK T n (stP T n M).2 = 0 then (0, n) else ((lnR T n (stP T n M).1 (stP T n M).2).1, (lnR T n (stP T n M).1 (stP T n M).2).2.1)
theorem OkP_z : OkP zA := ⟨Nat.zero_le _, Nat.zero_le _, rfl, rfl, fun p hp => absurd hp (Nat.not_lt_zero _), fun t ht => absurd ht (Nat.not_lt_zero _)⟩
section TextC2
variable {μ : Mem} {T : Nat → Nat} {n : Nat}
theorem stP_ok (H : TpC μ T n) : ∀ {i : Nat}, (∀ j, j < i → lnOk T n j) → OkP (stP T n i).1 ∧ i ≤ (stP T n i).2 ∧ (stP T n i).2 ≤ n
  | 0, _ => ⟨OkP_z, Nat.le_refl _, Nat.zero_le _⟩
  | i + 1, h => by
    obtain ⟨a, b, c⟩ := stP_ok H (i := i) (fun j hj => h j (by omega))
    obtain ⟨l1, l2, l3⟩ := h i (by omega)
    have r := lnR_ok H c l2 a l3
    exact ⟨r.1, by show i + 1 ≤ (lnR T n (stP T n i).1 (stP T n i).2).2.2.1; have := r.2.1; omega, r.2.2⟩
theorem readInto_ok (H : TpC μ T n) : ∃ μ' M, fR_readInto 1 μ = some (nI M, μ') ∧ Off sTx μ μ' ∧ TxM T n M ∧ M ≤ 160 ∧ ((txR T n M).1 = 0 → μ' (2, 0, 0) 2 = nI 0 ∧ RepL μ' 1 (stP T n M).1) ∧ ((txR T n M).1 ≠ 0 → FlC μ' (txR T n M).1 (txR T n M).2) := by
  have n0 : nI 0 = 0 := rfl
  have n1 : ¬ nI 1 = 0 := by decide +kernel
  have h160 := H.1
  unfold fR_readInto fL_clearAll
  rw [lt_def, lt_def, lt_def, lt_def, bind_s, lt_def, lt_def, lt_def, lt_def, lt_def]
  generalize e1 : wr (wr (wr (wr (wr (wr (wr μ (0, 1, 0) 0 0) (0, 1, 0) 4 0) (0, 1, 0) 11 0) (0, 1, 0) 12 0) (2, 0, 0) 2 0) (2, 0, 0) 3 0) (2, 0, 0) 4 0 = m0
  have o0 : Off sTx μ m0 := by
    rw [← e1]
    exact Off_wr (Off_wr (Off_wr (Off_wr (Off_wr (Off_wr (Off_wr (Off_refl _ _) rfl) rfl) rfl) rfl) rfl) rfl) rfl
  have a4 : m0 (2, 0, 0) 4 = nI 0 := by rw [← e1, wr_at]; rfl
  have a2 : m0 (2, 0, 0) 2 = nI 0 := by rw [← e1, wr_off _ _ (by simp), wr_off _ _ (by simp), wr_at]; rfl
  have R0 : RepL m0 1 zA := by
    refine ⟨?_, ?_, ?_, ?_, fun p hp => absurd hp (Nat.not_lt_zero _), fun t ht => absurd ht (Nat.not_lt_zero _), fun i hi => absurd hi (Nat.not_lt_zero _)⟩
    · rw [← e1, wr_off _ _ (by simp), wr_off _ _ (by simp), wr_off _ _ (by simp), wr_off _ _ (by simp), wr_off _ _ (by simp), wr_off _ _ (by simp), wr_at]; rfl
    · rw [← e1, wr_off _ _ (by simp), wr_off _ _ (by simp), wr_off _ _ (by simp), wr_off _ _ (by simp), wr_off _ _ (by simp), wr_at]; rfl
    · rw [← e1, wr_off _ _ (by simp), wr_off _ _ (by simp), wr_off _ _ (by simp), wr_off _ _ (by simp), wr_at]; rfl
    · rw [← e1, wr_off _ _ (by simp), wr_off _ _ (by simp), wr_off _ _ (by simp), wr_at]; rfl
  have body : ∀ (sf : Int32 → Int32 → Mem → Option (Int32 × Mem)) (i : Nat) (m : Mem), i ≤ 160 → Off sTx μ m → (∀ j, j < i → lnOk T n j) → m (2, 0, 0) 4 = nI (stP T n i).2 → m (2, 0, 0) 2 = nI 0 → RepL m 1 (stP T n i).1 → (i < 160 ∧ ∃ m', (Off sTx μ m' ∧ (∀ j, j < i + 1 → lnOk T n j) ∧ m' (2, 0, 0) 4 = nI (stP T n (i + 1)).2 ∧ m' (2, 0, 0) 2 = nI 0 ∧ RepL m' 1 (stP T n (i + 1)).1) ∧ bR_readInto_23 1 sf (nI i) (nI i) m = sf (nI (i + 1)) (nI (i + 1)) m') ∨ (∃ μ', bR_readInto_23 1 sf (nI i) (nI i) m = some (nI i, μ') ∧ Off sTx μ μ' ∧ TxM T n i ∧ ((txR T n i).1 = 0 → μ' (2, 0, 0) 2 = nI 0 ∧ RepL μ' 1 (stP T n i).1) ∧ ((txR T n i).1 ≠ 0 → FlC μ' (txR T n i).1 (txR T n i).2)) := by
    intro sf i m hi o1 v b4 b2 R1
    have H1 := TpC_tx o1 H
    obtain ⟨Oi, pi, pn⟩ := stP_ok H v
    obtain ⟨m1, e2, o2, c4, c5, c6, c7, c8⟩ := takeToken_ok H1 pn b4
    have H2 := TpC_off o2 rfl (fun _ => rfl) H1
    have R2 : RepL m1 1 (stP T n i).1 := RepL_off o2 (fun _ _ => rfl) R1
    have kl := tK_le (T := T) (n := n) (p := (stP T n i).2)
    have c160 : ¬ (160 : Int32) < nI i := fun z => by have := (nI_ltI (a := 160) (by omega) (by omega)).mp z; omega
    unfold bR_readInto_23
    rw [if_neg c160]
    cases b : tB T n (stP T n i).2 with
    | true =>
      right
      have er : txR T n i = (1, tS T n (stP T n i).2) := by unfold txR; rw [b, if_pos rfl]
      rw [b, if_pos rfl] at e2
      rw [e2, bind_s, if_pos n0, er]
      exact ⟨m1, rfl, Off_trans o1 (Off_mono o2 sTx_r), ⟨v, fun z => by have := z.1; rw [b] at this; cases this⟩, fun z => absurd z (by omega), fun _ => c8 b⟩
    | false =>
      rw [b, if_neg (by simp)] at e2
      rw [e2, bind_s, if_neg n1]
      by_cases k0 : tK T n (stP T n i).2 = 0
      · right
        have er : txR T n i = (0, n) := by unfold txR; rw [b, if_neg (by simp), if_pos k0]
        rw [if_pos (show ((nI 1, m1) : Int32 × Mem).2 (2, 0, 0) 6 = 0 from c6.trans (by rw [k0]; rfl)), er]
        exact ⟨m1, rfl, Off_trans o1 (Off_mono o2 sTx_r), ⟨v, fun z => z.2.1 k0⟩, fun _ => ⟨(c7 b).trans b2, R2⟩, fun z => absurd rfl z⟩
      · have nk : ¬ nI (tK T n (stP T n i).2) = 0 := fun z => k0 ((nI_eq (b := 0) (by omega) (by omega)).mp z)
        rw [if_neg (show ¬ ((nI 1, m1) : Int32 × Mem).2 (2, 0, 0) 6 = 0 from fun z => nk (c6.symm.trans z))]
        obtain ⟨v3, m3, e3, r1, r2, r3, r4⟩ := takeLine_ok H2 pn c4 c5 c6 R2 Oi
        show (_ ∧ ∃ m', _ ∧ Option.bind (fR_takeLine 1 m1) _ = _) ∨ (∃ μ', Option.bind (fR_takeLine 1 m1) _ = _ ∧ _)
        rw [e3, bind_s, r1]
        have er : txR T n i = ((lnR T n (stP T n i).1 (stP T n i).2).1, (lnR T n (stP T n i).1 (stP T n i).2).2.1) := by
          unfold txR; rw [b, if_neg (by simp), if_neg k0]
        have o13 : Off sTx μ m3 := Off_trans o1 (Off_trans (Off_mono o2 sTx_r) r2)
        by_cases z : (lnR T n (stP T n i).1 (stP T n i).2).1 = 0
        · left
          have i160 : i < 160 := by
            have hk0 := tK_0 (T := T) pn
            have hs := tS_b (T := T) pn
            omega
          have q := r3 z
          rw [if_pos z, if_neg n1, lt_def, lt_def, nI_s1]
          refine ⟨i160, m3, ⟨o13, fun j hj => ?_, q.1, q.2.1.trans ((c7 b).trans b2), q.2.2⟩, rfl⟩
          by_cases e : j = i
          · subst e; exact ⟨b, k0, z⟩
          · exact v j (by omega)
        · right
          rw [if_neg z, if_pos n0, er]
          exact ⟨m3, rfl, o13, ⟨v, fun w => z w.2.2⟩, fun w => absurd w z, fun _ => r4 z⟩
  refine up21 (B := bR_readInto_23 1) (fun w => ∃ μ' M, w = some (nI M, μ') ∧ Off sTx μ μ' ∧ TxM T n M ∧ M ≤ 160 ∧ ((txR T n M).1 = 0 → μ' (2, 0, 0) 2 = nI 0 ∧ RepL μ' 1 (stP T n M).1) ∧ ((txR T n M).1 ≠ 0 → FlC μ' (txR T n M).1 (txR T n M).2)) 160 (by omega) (fun i a m => a = nI i ∧ Off sTx μ m ∧ (∀ j, j < i → lnOk T n j) ∧ m (2, 0, 0) 4 = nI (stP T n i).2 ∧ m (2, 0, 0) 2 = nI 0 ∧ RepL m 1 (stP T n i).1) ⟨rfl, o0, fun j hj => absurd hj (by omega), a4, a2, R0⟩ (fun sf i a m hi hJ => ?_) (fun sf a m hJ => ?_)
  · obtain ⟨rfl, b1, b2, b3, b4, b5⟩ := hJ
    rcases body sf i m (by omega) b1 b2 b3 b4 b5 with ⟨-, m', q, e⟩ | ⟨μ', e, q1, q2, q3, q4⟩
    · exact Or.inl ⟨_, m', ⟨rfl, q⟩, e⟩
    · exact Or.inr ⟨μ', i, e, q1, q2, by omega, q3, q4⟩
  · obtain ⟨rfl, b1, b2, b3, b4, b5⟩ := hJ
    rcases body sf 160 m (by omega) b1 b2 b3 b4 b5 with ⟨x, -⟩ | ⟨μ', e, q1, q2, q3, q4⟩
    · omega
    · exact ⟨μ', 160, e, q1, q2, by omega, q3, q4⟩
end TextC2
