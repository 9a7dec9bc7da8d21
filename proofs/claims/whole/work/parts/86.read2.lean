def sAk : Rf → Nat → Bool := fun r i => sAm r i || r == (5, 0, 3)
theorem sAk_a (r : Rf) (i : Nat) (h : sAk r i = false) : sAm r i = false := by
  simp only [sAk, Bool.or_eq_false_iff] at h; exact h.1
theorem sAk_b (r : Rf) (i : Nat) (h : sAk r i = false) : sBf r i = false := by
  simp only [sAk, sBf, Bool.or_eq_false_iff] at *; exact h.2
theorem SK_Ak : SK sAk := ⟨⟨rfl, rfl, fun _ => rfl⟩, ⟨rfl, rfl, rfl⟩, ⟨fun _ => rfl, fun _ => rfl, fun _ => rfl⟩, ⟨fun _ _ _ _ => rfl, fun _ => rfl⟩, ⟨fun _ _ _ => rfl, fun _ => rfl, fun _ => rfl, fun _ => rfl⟩, rfl⟩
section Read2
variable {N : Nat}
theorem imD {μ : Mem} {k n q : Nat} {y f : Int32} (hk : k < 4) (hn : 1 ≤ n) (hn2 : n ≤ 10) (hq : q ≠ 0) (h3 : q ≤ 3) (x8 : Int32) (e : fS_faultOfThree k y f μ = some (nI q)) : lz11 (bD_read_51 (nI k) y f (nI n) x8) FU 0 μ = some (nI 0, wr μ (4, 0, 0) 7 (nI q)) := by
  have eF : FU = 5999 + 1 := rfl
  have u : ∀ M a m, lz11 (bD_read_51 (nI k) y f (nI n) x8) (M + 1) a m = bD_read_51 (nI k) y f (nI n) x8 (lz11 (bD_read_51 (nI k) y f (nI n) x8) M) a m := fun _ _ _ => rfl
  have c : ¬ nI n ≤ (0 : Int32) := nI_neg (by omega) (by omega)
  have nq : ¬ nI q = 0 := nI_nz0 (by omega) (by omega)
  have z : f + (3 : Int32) * 0 = f := by
    have : (3 : Int32) * 0 = 0 := by decide +kernel
    rw [this, Int32.add_zero]
  rw [eF, u]
  unfold bD_read_51 jD_read_85
  rw [if_neg c, z, lt_def, gd_in (by omega) (by omega), ix_n (by omega), e, bind_s, lt_def, if_neg nq, lt_def]
  rfl
theorem imM {m : Mem} {n q : Nat} {x y f : Int32} (hn : 1 ≤ n) (hn2 : n ≤ 10) (hq : q ≠ 0) (h3 : q ≤ 3) (e : ∀ s29 : Int32 → Int32 → Int32 → Mem → Option (Int32 × Mem), lz20 (bM_read_51 x y f s29 0 0 m) FU 0 0 = s29 (nI q) 0 (0 + 1) m) : lz31 (bM_read_36 x y f (nI n)) FU 0 0 0 m = some (nI 0, wr m (5, 0, 0) 23 (nI q)) := by
  have eF : FU = 5998 + 1 + 1 := rfl
  have u : ∀ M a b c m, lz31 (bM_read_36 x y f (nI n)) (M + 1) a b c m = bM_read_36 x y f (nI n) (lz31 (bM_read_36 x y f (nI n)) M) a b c m := fun _ _ _ _ _ => rfl
  have c : ¬ nI n ≤ (0 : Int32) := nI_neg (by omega) (by omega)
  have st : bM_read_36 x y f (nI n) (lz31 (bM_read_36 x y f (nI n)) (5998 + 1)) 0 0 0 m = lz31 (bM_read_36 x y f (nI n)) (5998 + 1) (nI q) 0 (0 + 1) m := by
    generalize lz31 (bM_read_36 x y f (nI n)) (5998 + 1) = s29
    unfold bM_read_36
    rw [if_neg c, if_pos rfl, lt_def, e]
  rw [eF, u, st, u, ot_end _ _ _ hq h3]
  rfl
theorem fo3 {m : Mem} {k l s p : Nat} (hs : s ≤ 40) (hp : p < 100) (h0 : m (3, k, 0) 0 = nI s) (h2 : m (3, k, 0) 2 = nI l) : fS_faultOfThree k (nI l) (nI p) m = some (nI (if p + 2 < s then 0 else 2)) := by
  have c0 : (0 : Int32) ≤ nI s := nI_pos' (by omega)
  have c1 : ¬ nI p < (0 : Int32) := nI_pos (by omega)
  unfold fS_faultOfThree
  rw [h0, if_pos c0, h2, if_pos rfl, if_neg c1]
  have hi : (nI p ≤ nI s - 3) ↔ p + 2 < s := by
    have e3 : (3 : Int32) = nI 3 := rfl
    rw [Int32.le_iff_toInt_le, e3, pk_sub_toInt (by omega) (by omega), nI_toInt (by omega)]
    omega
  by_cases z : p + 2 < s
  · rw [if_pos (hi.mpr z), if_pos z]; rfl
  · rw [if_neg (fun w => z (hi.mp w)), if_neg z]; rfl
theorem rdD_ok {μ : Mem} {A : Ab} {k l s g n : Nat} (R : RepL μ 0 A) (O : OkA A) (S : SafeA A (dA A)) (C : Cache μ A) (hk : k < 4) (hs : s ≤ 40) (hg : g < 41) (hn : n ≤ 10) (h0 : μ (3, k, 0) 0 = nI s) (h2 : μ (3, k, 0) 2 = nI l) : ∃ M m, RdM A (fun j => μ (3, k, 2) (g + j)) g s n M ∧ Off sAd μ m ∧
    ((M = n ∧ lz11 (bD_read_51 (nI k) (nI l) (nI g) (nI n) (nI (A 4 0))) FU (nI 0) μ = some (nI n, wr m (4, 0, 0) 7 (nI 0)) ∧ RepL m 0 (rdA A (fun j => μ (3, k, 2) (g + j)) M) ∧ Cache m (rdA A (fun j => μ (3, k, 2) (g + j)) M)) ∨
     (M < n ∧ ¬ g + 3 * M + 2 < s ∧ lz11 (bD_read_51 (nI k) (nI l) (nI g) (nI n) (nI (A 4 0))) FU (nI 0) μ = some (nI M, wr m (4, 0, 0) 7 (nI 2)) ∧ RepL m 0 (rdA A (fun j => μ (3, k, 2) (g + j)) M) ∧ Cache m (rdA A (fun j => μ (3, k, 2) (g + j)) M)) ∨
     (M < n ∧ g + 3 * M + 2 < s ∧ lz11 (bD_read_51 (nI k) (nI l) (nI g) (nI n) (nI (A 4 0))) FU (nI 0) μ = some ((-20) - nI M, m) ∧ RepL m 0 A ∧ Cache m A)) := by
  generalize hF : (fun j => μ (3, k, 2) (g + j)) = F
  have key : ∀ w, (∃ M m, RdM A F g s n M ∧ Off sAd μ m ∧ ((M = n ∧ w = some (nI n, wr m (4, 0, 0) 7 (nI 0)) ∧ RepL m 0 (rdA A F M) ∧ Cache m (rdA A F M)) ∨ (M < n ∧ ¬ g + 3 * M + 2 < s ∧ w = some (nI M, wr m (4, 0, 0) 7 (nI 2)) ∧ RepL m 0 (rdA A F M) ∧ Cache m (rdA A F M)) ∨ (M < n ∧ g + 3 * M + 2 < s ∧ w = some ((-20) - nI M, m) ∧ RepL m 0 A ∧ Cache m A))) → True := fun _ _ => trivial
  refine up11 (B := bD_read_51 (nI k) (nI l) (nI g) (nI n) (nI (A 4 0))) (fun w => ∃ M m, RdM A F g s n M ∧ Off sAd μ m ∧ ((M = n ∧ w = some (nI n, wr m (4, 0, 0) 7 (nI 0)) ∧ RepL m 0 (rdA A F M) ∧ Cache m (rdA A F M)) ∨ (M < n ∧ ¬ g + 3 * M + 2 < s ∧ w = some (nI M, wr m (4, 0, 0) 7 (nI 2)) ∧ RepL m 0 (rdA A F M) ∧ Cache m (rdA A F M)) ∨ (M < n ∧ g + 3 * M + 2 < s ∧ w = some ((-20) - nI M, m) ∧ RepL m 0 A ∧ Cache m A))) n (by omega) (fun i m => (∀ j, j < i → rdOk A F g s j) ∧ Off sAd μ m ∧ RepL m 0 (rdA A F i) ∧ Cache m (rdA A F i)) ⟨fun j hj => absurd hj (by omega), Off_refl _ _, R, C⟩ (fun sf i m hi hJ => ?_) (fun sf m hJ => ?_) <;> unfold bD_read_51
  · obtain ⟨v, o1, R1, C1⟩ := hJ
    obtain ⟨Oi, Si, Ei⟩ := rdA_ok O S F i
    have e3 : nI g + (3 : Int32) * nI i = nI (g + 3 * i) := by
      have : (3 : Int32) = nI 3 := rfl
      rw [this, pk_mul, nI_add]
    have f3 := fo3 (m := m) (k := k) (l := l) (s := s) (p := g + 3 * i) hs (by omega) ((o1 _ _ rfl).trans h0) ((o1 _ _ rfl).trans h2)
    rw [if_neg (fun z => by have := (nI_leI (by omega) (by omega)).mp z; omega), e3, lt_def, gd_in (by omega) (by omega), ix_n (n := k) (by omega), f3, bind_s, lt_def]
    by_cases z : g + 3 * i + 2 < s
    · have F0 : m (3, k, 2) (g + 3 * i) = F (3 * i) := by rw [← hF]; exact o1 _ _ rfl
      have F1 : m (3, k, 2) (g + 3 * i + 1) = F (3 * i + 1) := by rw [← hF]; exact o1 _ _ rfl
      have F2 : m (3, k, 2) (g + 3 * i + 2) = F (3 * i + 2) := by rw [← hF]; exact o1 _ _ rfl
      obtain ⟨m2, e2, o2, R2, C2⟩ := addD_ok R1 Oi C1 (F (3 * i)) (F (3 * i + 1)) (F (3 * i + 2))
      rw [if_pos z, if_pos (show nI 0 = (0 : Int32) from rfl), gd_in (by omega) (by omega), nI_a1, nI_a2, gd_in (by omega) (by omega), gd_in (by omega) (by omega), ix_n (n := g + 3 * i) (by omega), ix_n (n := g + 3 * i + 1) (by omega), ix_n (n := g + 3 * i + 2) (by omega), F0, F1, F2, e2, bind_s]
      have av := adV_neg (x := F (3 * i)) (y := F (3 * i + 1)) (z := F (3 * i + 2)) Oi
      cases q : adQ (rdA A F i) (F (3 * i)) (F (3 * i + 1)) (F (3 * i + 2)) with
      | true =>
        left
        rw [if_pos (av.mpr q), nI_s1, lt_def]
        refine ⟨m2, ⟨fun j hj => ?_, Off_trans o1 o2, R2, C2⟩, rfl⟩
        by_cases e : j = i
        · subst e; exact ⟨z, q⟩
        · exact v j (by omega)
      | false =>
        right
        have an := (adQ_f q).2
        rw [an] at R2
        have c : ¬ (0 : Int32) ≤ adV (rdA A F i) (F (3 * i)) (F (3 * i + 1)) (F (3 * i + 2)) := fun w => by rw [av.mp w] at q; cases q
        rw [if_neg c]
        unfold jD_read_120
        rw [lt_def]
        have Rc := RepL_cut Ei R2
        have oc : Off sAd μ (wr m2 (0, 0, 0) 4 (nI (A 4 0))) := Off_wr (Off_trans o1 o2) rfl
        obtain ⟨m9, e9, o9, -, -, C9⟩ := forget_ok (wr m2 (0, 0, 0) 4 (nI (A 4 0)))
        rw [e9, bind_s]
        refine ⟨i, m9, ⟨by omega, v, fun _ w => by rw [w.2] at q; cases q⟩, Off_trans oc (Off_mono o9 sAd_f), Or.inr (Or.inr ⟨hi, z, rfl, RepL_off o9 (fun _ _ => rfl) Rc, C9 A⟩)⟩
    · right
      rw [if_neg z, if_neg (show ¬ nI 2 = (0 : Int32) by decide +kernel)]
      unfold jD_read_85
      rw [lt_def]
      exact ⟨i, m, ⟨by omega, v, fun _ w => z w.1⟩, o1, Or.inr (Or.inl ⟨hi, z, rfl, R1, C1⟩)⟩
  · obtain ⟨v, o1, R1, C1⟩ := hJ
    rw [if_pos ((nI_leI (by omega) (by omega)).mpr (Nat.le_refl _))]
    unfold jD_read_148
    rw [lt_def]
    exact ⟨n, m, ⟨Nat.le_refl _, v, fun w => absurd w (by omega)⟩, o1, Or.inl ⟨rfl, rfl, R1, C1⟩⟩
theorem rdM_ok {μ : Mem} {A : Ab} {B : Nat → Nat → Nat} {F : Nat → Int32} {k l s g n : Nat} (R : RepR (μ (5, 0, 1)) A B) (O : OkA A) (S : SafeA A (dA A)) (hk : k < 4) (hl : l ≤ 2) (hs : s ≤ 40) (hg : g < 41) (hn : n ≤ 10) (h21 : μ (5, 0, 21) k = nI l) (h22 : μ (5, 0, 22) k = nI s) (hF : ∀ j, g + j < 40 → μ (5, 0, 23) (40 * k + (g + j)) = F j) : ∃ M m, RdM A F g s n M ∧ Off sAm μ m ∧
    ((M = n ∧ lz31 (bM_read_36 (nI k) (nI l) (nI g) (nI n)) FU (nI 0) (nI 0) (nI 0) μ = some (nI n, wr m (5, 0, 0) 23 (nI 0)) ∧ RepR (m (5, 0, 1)) (rdA A F M) B) ∨
     (M < n ∧ ¬ g + 3 * M + 2 < s ∧ lz31 (bM_read_36 (nI k) (nI l) (nI g) (nI n)) FU (nI 0) (nI 0) (nI 0) μ = some (nI M, wr m (5, 0, 0) 23 (nI 2)) ∧ RepR (m (5, 0, 1)) (rdA A F M) B) ∨
     (M < n ∧ g + 3 * M + 2 < s ∧ lz31 (bM_read_36 (nI k) (nI l) (nI g) (nI n)) FU (nI 0) (nI 0) (nI 0) μ = some ((-20) - nI M, m) ∧ ∀ i, i < 238 → m (5, 0, 1) i = μ (5, 0, 3) i)) := by
  refine lz31_m (B := bM_read_36 (nI k) (nI l) (nI g) (nI n)) (fun w => ∃ M m, RdM A F g s n M ∧ Off sAm μ m ∧ ((M = n ∧ w = some (nI n, wr m (5, 0, 0) 23 (nI 0)) ∧ RepR (m (5, 0, 1)) (rdA A F M) B) ∨ (M < n ∧ ¬ g + 3 * M + 2 < s ∧ w = some (nI M, wr m (5, 0, 0) 23 (nI 2)) ∧ RepR (m (5, 0, 1)) (rdA A F M) B) ∨ (M < n ∧ g + 3 * M + 2 < s ∧ w = some ((-20) - nI M, m) ∧ ∀ i, i < 238 → m (5, 0, 1) i = μ (5, 0, 3) i))) (fun a b c m => ∃ i, i ≤ n ∧ b = nI i ∧ Off sAm μ m ∧ RepR (m (5, 0, 1)) (rdA A F i) B ∧ (∀ j, j < i → rdOk A F g s j) ∧ ((a = nI 0 ∧ c = nI i) ∨ (a = nI 2 ∧ c = nI (i + 1) ∧ i < n ∧ ¬ g + 3 * i + 2 < s))) (fun _ _ c _ => 30 - ix c) ?_ FU _ _ _ _ ⟨0, by omega, rfl, Off_refl _ _, R, fun j hj => absurd hj (by omega), Or.inl ⟨rfl, rfl⟩⟩ (by show 30 - _ < _; exact FU_gt (by omega))
  rintro sf a b c m ⟨i, hi, rfl, o1, R1, v, ⟨rfl, rfl⟩ | ⟨rfl, rfl, i2, i3⟩⟩
  · obtain ⟨Oi, Si, Ei⟩ := rdA_ok O S F i
    by_cases e : i = n
    · right
      subst e
      unfold bM_read_36 jM_read_207
      rw [if_pos ((nI_leI (by omega) (by omega)).mpr (Nat.le_refl _)), lt_def]
      exact ⟨i, m, ⟨Nat.le_refl _, v, fun w => absurd w (by omega)⟩, o1, Or.inl ⟨rfl, rfl, R1⟩⟩
    · have inn := inn_num (m := m) (k := k) (l := l) (s := s) (i := i) (g := g) hk hl hs (by omega) hg sf (nI i) ((o1 _ _ rfl).trans h21) ((o1 _ _ rfl).trans h22)
      have inn' : lz20 (bM_read_51 (nI k) (nI l) (nI g) sf (nI i) (nI i) m) FU (nI 0) 0 = if g + 3 * i + 2 < s then jM_read_138 (nI k) (nI g) sf (nI i) (nI i) m 0 3 else sf (nI 2) (nI i) (nI i + 1) m := inn
      unfold bM_read_36
      rw [if_neg (fun z => by have := (nI_leI (by omega) (by omega)).mp z; omega), if_pos (show nI 0 = (0 : Int32) from rfl), lt_def, inn']
      by_cases z : g + 3 * i + 2 < s
      · rw [if_pos z]
        unfold jM_read_138
        have ex : (40 : Int32) * nI k + nI g + 3 * nI i = nI (40 * k + (g + 3 * i)) := by
          have x4 : (40 : Int32) = nI 40 := rfl
          have x3 : (3 : Int32) = nI 3 := rfl
          rw [x4, x3, pk_mul, pk_mul, nI_add, nI_add, Nat.add_assoc]
        have F0 : m (5, 0, 23) (40 * k + (g + 3 * i)) = F (3 * i) := (o1 _ _ rfl).trans (hF (3 * i) (by omega))
        have F1 : m (5, 0, 23) (40 * k + (g + 3 * i) + 1) = F (3 * i + 1) := (o1 _ _ rfl).trans (hF (3 * i + 1) (by omega))
        have F2 : m (5, 0, 23) (40 * k + (g + 3 * i) + 2) = F (3 * i + 2) := (o1 _ _ rfl).trans (hF (3 * i + 2) (by omega))
        obtain ⟨m2, e2, o2, R2⟩ := addM_ok R1 Oi (F (3 * i)) (F (3 * i + 1)) (F (3 * i + 2))
        rw [if_pos rfl, ex, lt_def, nI_a1, nI_a2, gd_in (by omega) (by omega), gd_in (by omega) (by omega), gd_in (by omega) (by omega), ix_n (n := 40 * k + (g + 3 * i)) (by omega), ix_n (n := 40 * k + (g + 3 * i) + 1) (by omega), ix_n (n := 40 * k + (g + 3 * i) + 2) (by omega), F0, F1, F2, e2, bind_s]
        have av := adV_neg (x := F (3 * i)) (y := F (3 * i + 1)) (z := F (3 * i + 2)) Oi
        cases q : adQ (rdA A F i) (F (3 * i)) (F (3 * i + 1)) (F (3 * i + 2)) with
        | true =>
          left
          rw [if_pos (av.mpr q), nI_s1, lt_def, lt_def]
          refine ⟨_, _, _, m2, ⟨i + 1, by omega, rfl, Off_trans o1 o2, R2, fun j hj => ?_, Or.inl ⟨rfl, rfl⟩⟩, ?_, rfl⟩
          · by_cases e : j = i
            · subst e; exact ⟨z, q⟩
            · exact v j (by omega)
          · (try simp (disch := omega) only [ix_n]); omega
        | false =>
          right
          have c : ¬ (0 : Int32) ≤ adV (rdA A F i) (F (3 * i)) (F (3 * i + 1)) (F (3 * i + 2)) := fun w => by rw [av.mp w] at q; cases q
          rw [if_neg c]
          unfold jM_read_188
          obtain ⟨m3, e3, o3, v3⟩ := backBefore_ok m2
          rw [e3, bind_s]
          refine ⟨i, m3, ⟨by omega, v, fun _ w => by rw [w.2] at q; cases q⟩, Off_trans (Off_trans o1 o2) (Off_mono o3 sAm_st), Or.inr (Or.inr ⟨by omega, z, rfl, fun j hj => ?_⟩)⟩
          rw [v3 j hj, o2 _ _ rfl, o1 _ _ rfl]
      · left
        rw [if_neg z, nI_s1]
        refine ⟨_, _, _, m, ⟨i, hi, rfl, o1, R1, v, Or.inr ⟨rfl, rfl, by omega, z⟩⟩, ?_, rfl⟩
        (try simp (disch := omega) only [ix_n]); omega
  · right
    rw [ot_end (q := 2) sf (nI i) _ (by omega) (by omega)]
    exact ⟨i, m, ⟨hi, v, fun _ w => i3 w.1⟩, o1, Or.inr (Or.inl ⟨i2, i3, rfl, R1⟩)⟩
theorem stp_read (x y f z : Int32) : StpB N (fD_read x y f z) (fM_read x y f z) := by
  rintro μ ⟨⟨A, B, h⟩, r⟩
  obtain ⟨R, RR, O, S, C, hA⟩ := id h
  have h4 := O.n4
  have n0 : nI 0 = 0 := rfl
  have n1 : ¬ nI 1 = 0 := by decide +kernel
  have I0 : Inv (N + 60) μ := Inv_n ⟨⟨A, B, h⟩, r⟩
  unfold fD_read fM_read
  rw [isSheetD_ok, bind_s]
  rcases rgN x 0 3 (by omega) (by omega) with g | ⟨k, -, hk, rfl⟩
  · rw [if_neg g, if_pos n0]
    refine ⟨-1, μ, μ, rfl, ?_, I0⟩
    rw [isSheetM_ok, if_neg (fun w => g w.1), bind_s, if_pos n0]
  have gk : nI 0 ≤ nI k ∧ nI k ≤ nI 3 := ⟨(nI_leI (by omega) (by omega)).mpr (by omega), (nI_leI (by omega) (by omega)).mpr hk⟩
  rw [if_pos gk, if_neg n1, isLane_ok, bind_s]
  rcases rgN y 0 2 (by omega) (by omega) with g | ⟨l, -, hl, rfl⟩
  · rw [if_neg g, if_pos n0]
    refine ⟨-1, μ, μ, rfl, ?_, I0⟩
    rw [isSheetM_ok, if_neg (fun w => g w.2), bind_s, if_pos n0]
  have gl : nI 0 ≤ nI l ∧ nI l ≤ nI 2 := ⟨(nI_leI (by omega) (by omega)).mpr (by omega), (nI_leI (by omega) (by omega)).mpr hl⟩
  have im : ∀ m, fM_isSheet (nI k) (nI l) m = some (nI 1) := fun m => by rw [isSheetM_ok, if_pos ⟨gk, gl⟩]
  have i2 : ∀ m, fM_in z.toInt64 (0 : Int64) (10 : Int64) m = some (if nI 0 ≤ z ∧ z ≤ nI 10 then nI 1 else nI 0) := fun m => inR z 0 10 rfl rfl m
  rw [if_pos gl, if_neg n1]
  rcases rgN z 0 10 (by omega) (by omega) with g | ⟨n, -, hn, rfl⟩
  · refine ⟨-1, μ, μ, rg_no (l := 0) (h := 10) g _ _, ?_, I0⟩
    rw [im, bind_s, if_neg n1, i2, if_neg g, bind_s, if_pos n0]
  have gz : nI 0 ≤ nI n ∧ nI n ≤ nI 10 := ⟨(nI_leI (by omega) (by omega)).mpr (by omega), (nI_leI (by omega) (by omega)).mpr hn⟩
  have c1 : ¬ nI n < (0 : Int32) := nI_pos (by omega)
  have c2 : nI n ≤ (10 : Int32) := gz.2
  rw [if_neg c1, if_pos c2, R.n, lt_def, gd_in (by omega) (by omega), lt_def]
  have mh : ∀ m, Option.bind (fM_isSheet (nI k) (nI l) m) (fun x6 => if x6 = 0 then (some ((-1), m)) else (Option.bind (fM_in (nI n).toInt64 (0 : Int64) (10 : Int64) m) (fun x7 => if x7 = 0 then (some ((-1), m)) else (Option.bind (fM_keepBefore m) (fun m8 => lt 0 (fun (x9 : Int32) => lt 0 (fun (x10 : Int32) => lt 0 (fun (x11 : Int32) => lz31 (bM_read_36 (nI k) (nI l) f (nI n)) FU x9 x10 x11 m8)))))))) = Option.bind (fM_keepBefore m) (fun m8 => lz31 (bM_read_36 (nI k) (nI l) f (nI n)) FU 0 0 0 m8) := by
    intro m
    rw [im, bind_s, if_neg n1, i2, if_pos gz, bind_s, if_neg n1]
    rfl
  -- nothing changes but torn
  have quick : ∀ q : Nat, q ≤ 3 → lz11 (bD_read_51 (nI k) (nI l) f (nI n) (nI (A 4 0))) FU 0 μ = some (nI 0, wr μ (4, 0, 0) 7 (nI q)) → (∀ m, (∀ i, m (5, 0, 21) i = μ (5, 0, 21) i) → (∀ i, m (5, 0, 22) i = μ (5, 0, 22) i) → lz31 (bM_read_36 (nI k) (nI l) f (nI n)) FU 0 0 0 m = some (nI 0, wr m (5, 0, 0) 23 (nI q))) → ∃ r μ1 μ2, lz11 (bD_read_51 (nI k) (nI l) f (nI n) (nI (A 4 0))) FU 0 μ = some (r, μ1) ∧ Option.bind (fM_keepBefore μ1) (fun m8 => lz31 (bM_read_36 (nI k) (nI l) f (nI n)) FU 0 0 0 m8) = some (r, μ2) ∧ Inv (N + 60) μ2 := by
    intro q hq e1 e2
    obtain ⟨m2, f1, f2, f3⟩ := keepBefore_ok (wr μ (4, 0, 0) 7 (nI q))
    have o1 : Off (fun r i => r == (4, 0, 0) && i == 7) μ (wr μ (4, 0, 0) 7 (nI q)) := Off_wr (Off_refl _ _) rfl
    refine ⟨nI 0, _, wr m2 (5, 0, 0) 23 (nI q), e1, ?_, ?_⟩
    · rw [f1, bind_s]
      exact e2 m2 (fun i => (f2 _ _ rfl).trans (o1 _ _ rfl)) (fun i => (f2 _ _ rfl).trans (o1 _ _ rfl))
    · exact Inv_tn (A := A) (B := B) (SD := fun _ _ => false) r (Off_refl _ _) SK_0 R C (Off_mono f2 sAk_b) SK_Ak (fun _ _ => rfl) (fun _ _ => rfl) (RepR_off f2 (fun _ => rfl) (RepR_off o1 (fun _ => rfl) RR)) O S (by omega)
  have head : (∃ r μ1 μ2, lz11 (bD_read_51 (nI k) (nI l) f (nI n) (nI (A 4 0))) FU 0 μ = some (r, μ1) ∧ Option.bind (fM_keepBefore μ1) (fun m8 => lz31 (bM_read_36 (nI k) (nI l) f (nI n)) FU 0 0 0 m8) = some (r, μ2) ∧ Inv (N + 60) μ2) → ∃ r μ1 μ2, lz11 (bD_read_51 (nI k) (nI l) f (nI n) (nI (A 4 0))) FU 0 μ = some (r, μ1) ∧ Option.bind (fM_isSheet (nI k) (nI l) μ1) (fun x6 => if x6 = 0 then (some ((-1), μ1)) else (Option.bind (fM_in (nI n).toInt64 (0 : Int64) (10 : Int64) μ1) (fun x7 => if x7 = 0 then (some ((-1), μ1)) else (Option.bind (fM_keepBefore μ1) (fun m8 => lt 0 (fun (x9 : Int32) => lt 0 (fun (x10 : Int32) => lt 0 (fun (x11 : Int32) => lz31 (bM_read_36 (nI k) (nI l) f (nI n)) FU x9 x10 x11 m8)))))))) = some (r, μ2) ∧ Inv (N + 60) μ2 := by
    rintro ⟨r, μ1, μ2, a, b, c⟩
    exact ⟨r, μ1, μ2, a, (mh μ1).trans b, c⟩
  refine head ?_
  by_cases nz : n = 0
  · subst nz
    refine quick 0 (by omega) ?_ (fun m _ _ => ?_)
    · have eF : FU = 5999 + 1 := rfl
      rw [eF]
      show bD_read_51 (nI k) (nI l) f (nI 0) (nI (A 4 0)) _ 0 μ = _
      unfold bD_read_51 jD_read_148
      rw [if_pos (by decide +kernel), lt_def]
      rfl
    · have eF : FU = 5999 + 1 := rfl
      rw [eF]
      show bM_read_36 (nI k) (nI l) f (nI 0) _ 0 0 0 m = _
      unfold bM_read_36 jM_read_207
      rw [if_pos (by decide +kernel), lt_def]
      rfl
  rcases r.2.2.2.1 k (by omega) with ⟨a, b⟩ | ⟨s, l', s40, l2, a3, a4, a5, a6, a7⟩
  · refine quick 1 (by omega) (imD (by omega) (by omega) hn (by omega) (by omega) _ ?_) (fun m h21 h22 => imM (by omega) hn (by omega) (by omega) (fun s29 => inn_nul (by omega) _ _ _ _ _ ((h21 k).trans b)))
    unfold fS_faultOfThree
    rw [a, if_neg (by decide +kernel)]
    rfl
  have c0 : (0 : Int32) ≤ nI s := nI_pos' (by omega)
  by_cases el : l' = l
  rotate_left
  · have ne : nI l' ≠ nI l := fun w => el ((nI_eq (by omega) (by omega)).mp w)
    refine quick 3 (by omega) (imD (by omega) (by omega) hn (by omega) (by omega) _ ?_) (fun m h21 h22 => imM (by omega) hn (by omega) (by omega) (fun s29 => inn_cst (by omega) l2 _ _ _ _ _ ((h21 k).trans a5) ne))
    unfold fS_faultOfThree
    rw [a3, if_pos c0, a4, if_neg (fun w => ne w.symm)]
    rfl
  subst el
  rcases pk_ix f (n := 41) (by omega) with c | c | ⟨g, hg, rfl⟩
  · refine quick 2 (by omega) (imD (by omega) (by omega) hn (by omega) (by omega) _ ?_) (fun m h21 h22 => imM (by omega) hn (by omega) (by omega) (fun s29 => ?_))
    · unfold fS_faultOfThree
      rw [a3, if_pos c0, a4, if_pos rfl, if_pos c]
      rfl
    · refine inn_idx (i := 0) (by omega) l2 s40 (by omega) f s29 0 ((h21 k).trans a5) ((h22 k).trans a6) (Or.inl ?_)
      have := Int32.lt_iff_toInt_lt.mp c
      have z0 : (0 : Int32).toInt = 0 := by decide +kernel
      rw [z0] at this
      omega
  · have cz : (41 : Int) ≤ f.toInt := by
      have := Int32.le_iff_toInt_le.mp c
      rw [nI_toInt (by omega)] at this
      omega
    have cn : ¬ f < 0 := fun w => by
      have := Int32.lt_iff_toInt_lt.mp w
      have z0 : (0 : Int32).toInt = 0 := by decide +kernel
      rw [z0] at this
      omega
    refine quick 2 (by omega) (imD (by omega) (by omega) hn (by omega) (by omega) _ ?_) (fun m h21 h22 => imM (by omega) hn (by omega) (by omega) (fun s29 => ?_))
    · unfold fS_faultOfThree
      have hi : ¬ (f ≤ nI s - 3) := fun w => by
        have e3 : (3 : Int32) = nI 3 := rfl
        have := Int32.le_iff_toInt_le.mp w
        rw [e3, pk_sub_toInt (by omega) (by omega)] at this
        omega
      rw [a3, if_pos c0, a4, if_pos rfl, if_neg cn, if_neg hi]
      rfl
    · exact inn_idx (i := 0) (by omega) l2 s40 (by omega) f s29 0 ((h21 k).trans a5) ((h22 k).trans a6) (Or.inr (by omega))
  -- cell by cell
  obtain ⟨M, m, rm, om, cs⟩ := rdD_ok (g := g) (n := n) R O S C (by omega) s40 hg hn a3 a4
  have mm : ∀ (μ1 : Mem), (∀ i, μ1 (5, 0, 1) i = μ (5, 0, 1) i) → (∀ i, μ1 (5, 0, 21) i = μ (5, 0, 21) i) → (∀ i, μ1 (5, 0, 22) i = μ (5, 0, 22) i) → (∀ i, μ1 (5, 0, 23) i = μ (5, 0, 23) i) → ∃ m8, fM_keepBefore μ1 = some m8 ∧ Off sBf μ1 m8 ∧ ∃ m2, Off sAm m8 m2 ∧
    ((M = n ∧ lz31 (bM_read_36 (nI k) (nI l') (nI g) (nI n)) FU (nI 0) (nI 0) (nI 0) m8 = some (nI n, wr m2 (5, 0, 0) 23 (nI 0)) ∧ RepR (m2 (5, 0, 1)) (rdA A (fun j => μ (3, k, 2) (g + j)) M) B) ∨
     (M < n ∧ ¬ g + 3 * M + 2 < s ∧ lz31 (bM_read_36 (nI k) (nI l') (nI g) (nI n)) FU (nI 0) (nI 0) (nI 0) m8 = some (nI M, wr m2 (5, 0, 0) 23 (nI 2)) ∧ RepR (m2 (5, 0, 1)) (rdA A (fun j => μ (3, k, 2) (g + j)) M) B) ∨
     (M < n ∧ g + 3 * M + 2 < s ∧ lz31 (bM_read_36 (nI k) (nI l') (nI g) (nI n)) FU (nI 0) (nI 0) (nI 0) m8 = some ((-20) - nI M, m2) ∧ ∀ i, i < 238 → m2 (5, 0, 1) i = μ (5, 0, 1) i)) := by
    intro μ1 q1 q21 q22 q23
    obtain ⟨m8, f1, f2, f3⟩ := keepBefore_ok μ1
    have RR8 : RepR (m8 (5, 0, 1)) A B := by
      have : m8 (5, 0, 1) = μ (5, 0, 1) := funext (fun i => (f2 _ _ rfl).trans (q1 i))
      rw [this]; exact RR
    obtain ⟨M', m2, rm2, o2, cs2⟩ := rdM_ok (F := fun j => μ (3, k, 2) (g + j)) (n := n) RR8 O S (by omega) l2 s40 hg hn ((f2 _ _ rfl).trans ((q21 k).trans a5)) ((f2 _ _ rfl).trans ((q22 k).trans a6)) (fun j hj => by
      rw [f2 _ _ rfl, q23]
      exact (a7 (g + j) hj).symm)
    have eM : M' = M := RdM_un rm2 rm
    subst eM
    refine ⟨m8, f1, f2, m2, o2, ?_⟩
    rcases cs2 with a | a | ⟨a, b, c, d⟩
    · exact Or.inl a
    · exact Or.inr (Or.inl a)
    · exact Or.inr (Or.inr ⟨a, b, c, fun i hi => by rw [d i hi, f3 i hi]; exact q1 i⟩)
  obtain ⟨Om, Sm, Em⟩ := rdA_ok O S (fun j => μ (3, k, 2) (g + j)) M
  have hAm : rdA A (fun j => μ (3, k, 2) (g + j)) M 11 0 ≤ N + 60 := by rw [Em.1 11 (by omega)]; omega
  rcases cs with ⟨d1, d2, d3, d4⟩ | ⟨d1, d2, d3, d4, d5⟩ | ⟨d1, d2, d3, d4, d5⟩
  · obtain ⟨m8, f1, f2, m2, o2, cm⟩ := mm (wr m (4, 0, 0) 7 (nI 0)) (fun i => by rw [wr_off _ _ (by simp)]; exact om _ _ rfl) (fun i => by rw [wr_off _ _ (by simp)]; exact om _ _ rfl) (fun i => by rw [wr_off _ _ (by simp)]; exact om _ _ rfl) (fun i => by rw [wr_off _ _ (by simp)]; exact om _ _ rfl)
    rcases cm with ⟨x1, x2, x3⟩ | ⟨x1, -⟩ | ⟨x1, -⟩
    · refine ⟨nI n, _, _, d2, by rw [f1, bind_s]; exact x2, ?_⟩
      exact Inv_tn (A := A) (B := B) (SD := sAd) r om SK_Ad d3 d4 (Off_trans (Off_mono f2 sAk_b) (Off_mono o2 sAk_a)) SK_Ak (fun _ _ => rfl) (fun _ _ => rfl) x3 Om Sm hAm
    · omega
    · omega
  · obtain ⟨m8, f1, f2, m2, o2, cm⟩ := mm (wr m (4, 0, 0) 7 (nI 2)) (fun i => by rw [wr_off _ _ (by simp)]; exact om _ _ rfl) (fun i => by rw [wr_off _ _ (by simp)]; exact om _ _ rfl) (fun i => by rw [wr_off _ _ (by simp)]; exact om _ _ rfl) (fun i => by rw [wr_off _ _ (by simp)]; exact om _ _ rfl)
    rcases cm with ⟨x1, -⟩ | ⟨x1, y1, x2, x3⟩ | ⟨x1, y1, -⟩
    · omega
    · refine ⟨nI M, _, _, d3, by rw [f1, bind_s]; exact x2, ?_⟩
      exact Inv_tn (A := A) (B := B) (SD := sAd) r om SK_Ad d4 d5 (Off_trans (Off_mono f2 sAk_b) (Off_mono o2 sAk_a)) SK_Ak (fun _ _ => rfl) (fun _ _ => rfl) x3 Om Sm hAm
    · exact absurd y1 d2
  · obtain ⟨m8, f1, f2, m2, o2, cm⟩ := mm m (fun i => om _ _ rfl) (fun i => om _ _ rfl) (fun i => om _ _ rfl) (fun i => om _ _ rfl)
    rcases cm with ⟨x1, -⟩ | ⟨x1, y1, -⟩ | ⟨x1, y1, x2, x3⟩
    · omega
    · exact absurd d2 y1
    · refine ⟨_, m, m2, d3, by rw [f1, bind_s]; exact x2, ?_⟩
      have oM : Off sAk m m2 := Off_trans (Off_mono f2 sAk_b) (Off_mono o2 sAk_a)
      exact ⟨⟨A, B, RepL_off oM (fun _ _ => rfl) d4, RepR_okx RR O x3, O, S, Cache_off oM (fun _ _ => rfl) d5, by omega⟩, Rst_mono (by omega) (Rst_off oM SK_Ak (Rst_off om SK_Ad r))⟩
end Read2
