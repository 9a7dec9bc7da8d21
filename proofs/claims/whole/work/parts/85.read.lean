/-! trains read from sheets -/
noncomputable def rdA (A : Ab) (f : Nat → Int32) : Nat → Ab
  | 0 => A
  | i + 1 => adN (rdA A f i) (f (3 * i)) (f (3 * i + 1)) (f (3 * i + 2))
def rdOk (A : Ab) (f : Nat → Int32) (g s i : Nat) : Prop := g + 3 * i + 2 < s ∧ adQ (rdA A f i) (f (3 * i)) (f (3 * i + 1)) (f (3 * i + 2)) = true
def RdM (A : Ab) (f : Nat → Int32) (g s n M : Nat) : Prop := M ≤ n ∧ (∀ j, j < M → rdOk A f g s j) ∧ (M < n → ¬ rdOk A f g s M)
theorem RdM_un {A : Ab} {f : Nat → Int32} {g s n M M' : Nat} (h : RdM A f g s n M) (k : RdM A f g s n M') : M = M' := by
  rcases Nat.lt_trichotomy M M' with q | q | q
  · exact absurd (k.2.1 M q) (h.2.2 (by have := k.1; omega))
  · exact q
  · exact absurd (h.2.1 M' q) (k.2.2 (by have := h.1; omega))
theorem rdA_ok {A : Ab} (O : OkA A) (S : SafeA A (dA A)) (f : Nat → Int32) : ∀ i, OkA (rdA A f i) ∧ SafeA (rdA A f i) (dA (rdA A f i)) ∧ ExtA A (rdA A f i)
  | 0 => ⟨O, S, ExtA_refl A⟩
  | i + 1 => by
    obtain ⟨a, b, c⟩ := rdA_ok O S f i
    obtain ⟨x, y, z⟩ := adN_ok a b (f (3 * i)) (f (3 * i + 1)) (f (3 * i + 2))
    exact ⟨x, y, ExtA_trans c z⟩
section Read
variable {N : Nat}
theorem lN_y (f : Int32) {i c : Nat} (hi : i ≤ 10) (hc : c ≤ 2) : (f.toInt64 + ((3 : Int32) * nI i).toInt64 + (nI c).toInt64).toInt = f.toInt + (3 * i + c : Nat) := by
  have e3 : (3 : Int32) * nI i = nI (3 * i) := by
    have : (3 : Int32) = nI 3 := rfl
    rw [this, pk_mul]
  have b1 := Int32.toInt_lt f
  have b2 := Int32.le_toInt f
  rw [e3, Int64.toInt_add, Int64.toInt_add, Int32.toInt_toInt64, Int32.toInt_toInt64, Int32.toInt_toInt64, nI_toInt (by omega), nI_toInt (by omega)]
  have h1 : (f.toInt + ((3 * i : Nat) : Int)).bmod (2 ^ 64) = f.toInt + ((3 * i : Nat) : Int) := by
    apply Int.bmod_eq_of_le <;> omega
  rw [h1]
  have h2 : (f.toInt + ((3 * i : Nat) : Int) + (c : Int)).bmod (2 ^ 64) = f.toInt + ((3 * i : Nat) : Int) + (c : Int) := by
    apply Int.bmod_eq_of_le <;> omega
  rw [h2]
  omega
theorem cmp0 (f : Int32) {i c : Nat} (hi : i ≤ 10) (hc : c ≤ 2) : (lg_cmp (f.toInt64 + ((3 : Int32) * nI i).toInt64 + (nI c).toInt64) (0 : Int64) < 0) ↔ f.toInt + (3 * i + c : Nat) < 0 := by
  rw [lg_cmp_lt, Int64.lt_iff_toInt_lt, lN_y f hi hc]
  have : (0 : Int64).toInt = 0 := by decide +kernel
  rw [this]
theorem cmpS (f : Int32) {i c s : Nat} (hi : i ≤ 10) (hc : c ≤ 2) (hs : s ≤ 40) : (lg_cmp (f.toInt64 + ((3 : Int32) * nI i).toInt64 + (nI c).toInt64) ((nI s).toInt64) < 0) ↔ f.toInt + (3 * i + c : Nat) < (s : Int) := by
  rw [lg_cmp_lt, Int64.lt_iff_toInt_lt, lN_y f hi hc, Int32.toInt_toInt64, nI_toInt (by omega)]
/-- the inner loop: why a cell is refused -/
theorem inn_1 {m : Mem} {k : Nat} (hk : k < 4) (y f : Int32) (s29 : Int32 → Int32 → Int32 → Mem → Option (Int32 × Mem)) (w x : Int32) {q : Nat} (q1 : q = 1 ∨ q = 3 ∨ q = 2) (hb : ∀ s42 : Int32 → Int32 → Option (Int32 × Mem), bM_read_51 (nI k) y f s29 w x m s42 0 0 = s42 (nI q) 1) : lz20 (bM_read_51 (nI k) y f s29 w x m) FU 0 0 = s29 (nI q) w (x + 1) m := by
  have eF : FU = 5998 + 1 + 1 := rfl
  have u : ∀ M a b, lz20 (bM_read_51 (nI k) y f s29 w x m) (M + 1) a b = bM_read_51 (nI k) y f s29 w x m (lz20 (bM_read_51 (nI k) y f s29 w x m) M) a b := fun _ _ _ => rfl
  have nq : ¬ nI q = 0 := nI_nz0 (by omega) (by omega)
  rw [eF, u, hb, u]
  unfold bM_read_51 jM_read_138
  rw [if_neg (show ¬ (3 : Int32) ≤ 1 by decide +kernel), if_neg nq, if_neg nq, lt_def]
theorem inn_nul {m : Mem} {k : Nat} (hk : k < 4) (y f : Int32) (s29 : Int32 → Int32 → Int32 → Mem → Option (Int32 × Mem)) (w x : Int32) (h : m (5, 0, 21) k = -4) : lz20 (bM_read_51 (nI k) y f s29 w x m) FU 0 0 = s29 (nI 1) w (x + 1) m := by
  refine inn_1 hk y f s29 w x (Or.inl rfl) (fun s42 => ?_)
  unfold bM_read_51
  rw [if_neg (show ¬ (3 : Int32) ≤ 0 by decide +kernel), if_pos rfl, lt_def, gd_in (by omega) (by omega), ix_n (by omega), h, if_pos rfl, lt_def, lt_def]
  rfl
theorem inn_cst {m : Mem} {k l : Nat} (hk : k < 4) (hl : l ≤ 2) (y f : Int32) (s29 : Int32 → Int32 → Int32 → Mem → Option (Int32 × Mem)) (w x : Int32) (h : m (5, 0, 21) k = nI l) (ne : nI l ≠ y) : lz20 (bM_read_51 (nI k) y f s29 w x m) FU 0 0 = s29 (nI 3) w (x + 1) m := by
  have nl : ¬ nI l = -4 := fun w => of_eq_false (nI_eqn (a := l) (k := 4) (by omega) (by omega) (by omega)) w
  refine inn_1 hk y f s29 w x (Or.inr (Or.inl rfl)) (fun s42 => ?_)
  unfold bM_read_51
  rw [if_neg (show ¬ (3 : Int32) ≤ 0 by decide +kernel), if_pos rfl, lt_def, gd_in (by omega) (by omega), ix_n (by omega), h, if_neg nl, gd_in (by omega) (by omega), if_neg ne, lt_def, lt_def]
  rfl
theorem inn_idx {m : Mem} {k l s i : Nat} (hk : k < 4) (hl : l ≤ 2) (hs : s ≤ 40) (hi : i ≤ 10) (f : Int32) (s29 : Int32 → Int32 → Int32 → Mem → Option (Int32 × Mem)) (w : Int32) (h : m (5, 0, 21) k = nI l) (h2 : m (5, 0, 22) k = nI s) (b : f.toInt + (3 * i : Nat) < 0 ∨ (s : Int) ≤ f.toInt + (3 * i : Nat)) : lz20 (bM_read_51 (nI k) (nI l) f s29 w (nI i) m) FU 0 0 = s29 (nI 2) w (nI i + 1) m := by
  have nl : ¬ nI l = -4 := fun w => of_eq_false (nI_eqn (a := l) (k := 4) (by omega) (by omega) (by omega)) w
  have c0 := cmp0 f (i := i) (c := 0) hi (by omega)
  have cS := cmpS f (i := i) (c := 0) hi (by omega) hs
  refine inn_1 hk (nI l) f s29 w (nI i) (Or.inr (Or.inr rfl)) (fun s42 => ?_)
  unfold bM_read_51
  have z0 : (0 : Int32).toInt64 = (nI 0).toInt64 := rfl
  rw [if_neg (show ¬ (3 : Int32) ≤ 0 by decide +kernel), if_pos rfl, lt_def, gd_in (by omega) (by omega), ix_n (by omega), h, if_neg nl, gd_in (by omega) (by omega), if_pos rfl, gd_in (by omega) (by omega), h2, z0]
  by_cases a : f.toInt + (3 * i + 0 : Nat) < 0
  · rw [if_pos (c0.mpr a), lt_def, lt_def]; rfl
  · rw [if_neg (fun z => a (c0.mp z)), if_neg (fun z => by have := cS.mp z; omega), lt_def, lt_def]; rfl
theorem inn_num {m : Mem} {k l s i g : Nat} (hk : k < 4) (hl : l ≤ 2) (hs : s ≤ 40) (hi : i ≤ 10) (hg : g < 41) (s29 : Int32 → Int32 → Int32 → Mem → Option (Int32 × Mem)) (w : Int32) (h : m (5, 0, 21) k = nI l) (h2 : m (5, 0, 22) k = nI s) : lz20 (bM_read_51 (nI k) (nI l) (nI g) s29 w (nI i) m) FU 0 0 = if g + 3 * i + 2 < s then jM_read_138 (nI k) (nI g) s29 w (nI i) m 0 3 else s29 (nI 2) w (nI i + 1) m := by
  have nl : ¬ nI l = -4 := fun w => of_eq_false (nI_eqn (a := l) (k := 4) (by omega) (by omega) (by omega)) w
  have eF : FU = 5996 + 1 + 1 + 1 + 1 := rfl
  have u : ∀ M a b, lz20 (bM_read_51 (nI k) (nI l) (nI g) s29 w (nI i) m) (M + 1) a b = bM_read_51 (nI k) (nI l) (nI g) s29 w (nI i) m (lz20 (bM_read_51 (nI k) (nI l) (nI g) s29 w (nI i) m) M) a b := fun _ _ _ => rfl
  have gt := nI_toInt (n := g) (by omega)
  have step : ∀ (c : Nat) (s42 : Int32 → Int32 → Option (Int32 × Mem)), c ≤ 2 → bM_read_51 (nI k) (nI l) (nI g) s29 w (nI i) m s42 0 (nI c) = if g + 3 * i + c < s then s42 0 (nI (c + 1)) else s42 (nI 2) (nI (c + 1)) := by
    intro c s42 hc
    have c0 := cmp0 (nI g) (i := i) (c := c) hi hc
    have cS := cmpS (nI g) (i := i) (c := c) hi hc hs
    rw [gt] at c0 cS
    have c3 : ¬ (3 : Int32) ≤ nI c := fun z => by have := (nI_leI (a := 3) (by omega) (by omega)).mp z; omega
    unfold bM_read_51
    rw [if_neg c3, if_pos rfl, lt_def, gd_in (by omega) (by omega), ix_n (by omega), h, if_neg nl, gd_in (by omega) (by omega), if_pos rfl, gd_in (by omega) (by omega), h2, if_neg (fun z => by have := c0.mp z; omega), nI_s1]
    by_cases a : g + 3 * i + c < s
    · rw [if_pos (cS.mpr (by omega)), lt_def, lt_def, if_pos a]
    · rw [if_neg (fun z => a (by have := cS.mp z; omega)), lt_def, lt_def, if_neg a]; rfl
  have done : ∀ (M c : Nat), c ≤ 2 → lz20 (bM_read_51 (nI k) (nI l) (nI g) s29 w (nI i) m) (M + 1) (nI 2) (nI c) = s29 (nI 2) w (nI i + 1) m := by
    intro M c hc
    have c3 : ¬ (3 : Int32) ≤ nI c := fun z => by have := (nI_leI (a := 3) (by omega) (by omega)).mp z; omega
    have n2 : ¬ nI 2 = 0 := by decide +kernel
    rw [u]
    unfold bM_read_51 jM_read_138
    rw [if_neg c3, if_neg n2, if_neg n2, lt_def]
  have s0 : ∀ M, lz20 (bM_read_51 (nI k) (nI l) (nI g) s29 w (nI i) m) (M + 1) 0 0 = if g + 3 * i + 0 < s then lz20 (bM_read_51 (nI k) (nI l) (nI g) s29 w (nI i) m) M 0 (nI 1) else lz20 (bM_read_51 (nI k) (nI l) (nI g) s29 w (nI i) m) M (nI 2) (nI 1) := fun M => step 0 _ (by omega)
  have s1 : ∀ M, lz20 (bM_read_51 (nI k) (nI l) (nI g) s29 w (nI i) m) (M + 1) 0 (nI 1) = if g + 3 * i + 1 < s then lz20 (bM_read_51 (nI k) (nI l) (nI g) s29 w (nI i) m) M 0 (nI 2) else lz20 (bM_read_51 (nI k) (nI l) (nI g) s29 w (nI i) m) M (nI 2) (nI 2) := fun M => step 1 _ (by omega)
  have s2 : ∀ M, lz20 (bM_read_51 (nI k) (nI l) (nI g) s29 w (nI i) m) (M + 1) 0 (nI 2) = if g + 3 * i + 2 < s then lz20 (bM_read_51 (nI k) (nI l) (nI g) s29 w (nI i) m) M 0 (nI 3) else lz20 (bM_read_51 (nI k) (nI l) (nI g) s29 w (nI i) m) M (nI 2) (nI 3) := fun M => step 2 _ (by omega)
  have d3 : ∀ M, lz20 (bM_read_51 (nI k) (nI l) (nI g) s29 w (nI i) m) (M + 1) (nI 2) (nI 3) = s29 (nI 2) w (nI i + 1) m := by
    intro M
    have n2 : ¬ nI 2 = 0 := by decide +kernel
    rw [u]
    unfold bM_read_51 jM_read_138
    rw [if_pos (show (3 : Int32) ≤ nI 3 by decide +kernel), if_neg n2, lt_def]
  rw [eF, s0]
  by_cases a0 : g + 3 * i + 0 < s
  · rw [if_pos a0, s1]
    by_cases a1 : g + 3 * i + 1 < s
    · rw [if_pos a1, s2]
      by_cases a2 : g + 3 * i + 2 < s
      · rw [if_pos a2, if_pos a2, u]
        unfold bM_read_51
        rw [if_pos (show (3 : Int32) ≤ nI 3 by decide +kernel)]
        rfl
      · rw [if_neg a2, if_neg a2, d3]
    · rw [if_neg a1, done _ 2 (by omega), if_neg (by omega)]
  · rw [if_neg a0, done _ 1 (by omega), if_neg (by omega)]
theorem ot_end {m : Mem} {x y f : Int32} {n q : Nat} (s29 : Int32 → Int32 → Int32 → Mem → Option (Int32 × Mem)) (w : Int32) (i : Int32) (hq : q ≠ 0) (h : q ≤ 3) : bM_read_36 x y f (nI n) s29 (nI q) w i m = some (w, wr m (5, 0, 0) 23 (nI q)) := by
  unfold bM_read_36 jM_read_207
  have nq : ¬ nI q = 0 := nI_nz0 (by omega) (by omega)
  by_cases c : nI n ≤ i
  · rw [if_pos c, lt_def]
  · rw [if_neg c, if_neg nq, lt_def]
/-- torn is all that changes -/
theorem Inv_tn {μ : Mem} {A : Ab} {B : Nat → Nat → Nat} {SD SM : Rf → Nat → Bool} {μ1 μ2 : Mem} {A' : Ab} {B' : Nat → Nat → Nat} {v : Int32} (r : Rst N μ) (oD : Off SD μ μ1) (kD : SK SD) (R1 : RepL μ1 0 A') (C1 : Cache μ1 A') (oM : Off SM (wr μ1 (4, 0, 0) 7 v) μ2) (kM : SK SM) (mL : ∀ j i, SM (0, 0, j) i = false) (mP : ∀ j i, SM (1, 0, j) i = false) (RR2 : RepR (μ2 (5, 0, 1)) A' B') (O' : OkA A') (S' : SafeA A' (dA A')) (hA : A' 11 0 ≤ N + 60) : Inv (N + 60) (wr μ2 (5, 0, 0) 23 v) := by
  have o1 : Off (fun r i => r == (4, 0, 0) && i == 7) μ1 (wr μ1 (4, 0, 0) 7 v) := Off_wr (Off_refl _ _) rfl
  have o2 : Off (fun r i => r == (5, 0, 0) && i == 23) μ2 (wr μ2 (5, 0, 0) 23 v) := Off_wr (Off_refl _ _) rfl
  have e7 : wr μ2 (5, 0, 0) 23 v (4, 0, 0) 7 = v := by
    rw [wr_off _ _ (by simp), oM _ _ kM.2.2.2.2.2, wr_at]
  have e23 : wr μ2 (5, 0, 0) 23 v (5, 0, 0) 23 = v := wr_at _ _ _ _
  have RR3 : RepR (wr μ2 (5, 0, 0) 23 v (5, 0, 1)) A' B' := RepR_off o2 (fun _ => rfl) RR2
  generalize wr μ1 (4, 0, 0) 7 v = m1 at o1 oM
  generalize wr μ2 (5, 0, 0) 23 v = m2 at o2 e7 e23 RR3
  have r1 := Rst_off oD kD r
  obtain ⟨⟨a1, a2, a3⟩, ⟨b1, b2, b3⟩, ⟨c1, c2, c3⟩, ⟨d1, d2⟩, ⟨x1, x2, x3, x4⟩, f⟩ := kM
  obtain ⟨tp, fl, im, sh, tr⟩ := Rst_mono (N' := N + 60) (by omega) r1
  refine ⟨⟨A', B', RepL_off o2 (fun _ _ => rfl) (RepL_off oM mL (RepL_off o1 (fun _ _ => rfl) R1)), RR3, O', S', Cache_off o2 (fun _ _ => rfl) (Cache_off oM mP (Cache_off o1 (fun _ _ => rfl) C1)), hA⟩, Tape_off o2 rfl (fun _ => rfl) rfl (fun _ => rfl) (Tape_off oM a1 a3 b1 c1 (Tape_off o1 rfl (fun _ => rfl) rfl (fun _ => rfl) tp)), ?_, fun k hk => ImgK_off o2 (fun _ => rfl) (fun _ => rfl) (fun _ _ _ _ => rfl) (fun _ => rfl) (ImgK_off oM c2 c3 d1 d2 (ImgK_off o1 (fun _ => rfl) (fun _ => rfl) (fun _ _ _ _ => rfl) (fun _ => rfl) (im k hk))), fun k hk => ShtK_off o2 (fun _ _ _ => rfl) (fun _ => rfl) (fun _ => rfl) (fun _ => rfl) (ShtK_off oM x1 x2 x3 x4 (ShtK_off o1 (fun _ _ _ => rfl) (fun _ => rfl) (fun _ => rfl) (fun _ => rfl) (sh k hk))), ?_⟩
  · unfold Flt at *
    rw [o2 _ _ rfl, oM _ _ a2, o1 _ _ rfl, o2 _ _ rfl, oM _ _ b2, o1 _ _ rfl]; exact fl
  · unfold Trn
    rw [e7, e23]
end Read
