/-! what holds between two calls -/
def Tape (μ : Mem) : Prop := ∃ T n, TpC μ T n ∧ TpM μ T n
def Flt (μ : Mem) : Prop := μ (2, 0, 0) 2 = μ (5, 0, 0) 11
def ImgK (N : Nat) (μ : Mem) (k : Nat) : Prop := (μ (4, 0, 4) k = nI 0 ∧ μ (5, 0, 5) k = nI 0) ∨ (μ (4, 0, 4) k = nI 1 ∧ μ (5, 0, 5) k = nI 1 ∧ ∃ A B, RepL μ (2 + k) A ∧ RepR (fun i => μ (5, 0, 4) (238 * k + i)) A B ∧ OkA A ∧ SafeA A (dA A) ∧ A 11 0 ≤ N)
def Img (N : Nat) (μ : Mem) : Prop := ∀ k, k < 2 → ImgK N μ k
def ShtK (μ : Mem) (k : Nat) : Prop := (μ (3, k, 0) 0 = -1 ∧ μ (5, 0, 21) k = -4) ∨ ∃ s l, s ≤ 40 ∧ l ≤ 2 ∧ μ (3, k, 0) 0 = nI s ∧ μ (3, k, 0) 2 = nI l ∧ μ (5, 0, 21) k = nI l ∧ μ (5, 0, 22) k = nI s ∧ ∀ i, i < 40 → μ (3, k, 2) i = μ (5, 0, 23) (40 * k + i)
def Sht (μ : Mem) : Prop := ∀ k, k < 4 → ShtK μ k
def Trn (μ : Mem) : Prop := μ (4, 0, 0) 7 = μ (5, 0, 0) 23
def LnA (N : Nat) (μ : Mem) (A : Ab) (B : Nat → Nat → Nat) : Prop := RepL μ 0 A ∧ RepR (μ (5, 0, 1)) A B ∧ OkA A ∧ SafeA A (dA A) ∧ Cache μ A ∧ A 11 0 ≤ N
def Rst (N : Nat) (μ : Mem) : Prop := Tape μ ∧ Flt μ ∧ Img N μ ∧ Sht μ ∧ Trn μ
def Inv (N : Nat) (μ : Mem) : Prop := (∃ A B, LnA N μ A B) ∧ Rst N μ
/-- a set of cells that Rst does not look at -/
def SK (S : Rf → Nat → Bool) : Prop := (S (2, 0, 0) 1 = false ∧ S (2, 0, 0) 2 = false ∧ (∀ i, S (2, 0, 1) i = false)) ∧ (S (5, 0, 0) 6 = false ∧ S (5, 0, 0) 11 = false ∧ S (5, 0, 0) 23 = false) ∧ ((∀ i, S (5, 0, 6) i = false) ∧ (∀ i, S (4, 0, 4) i = false) ∧ ∀ i, S (5, 0, 5) i = false) ∧ ((∀ k j i, 2 ≤ k → S (0, k, j) i = false) ∧ ∀ i, S (5, 0, 4) i = false) ∧ ((∀ k j i, S (3, k, j) i = false) ∧ (∀ i, S (5, 0, 21) i = false) ∧ (∀ i, S (5, 0, 22) i = false) ∧ ∀ i, S (5, 0, 23) i = false) ∧ S (4, 0, 0) 7 = false
section Inv
variable {μ μ' : Mem} {N : Nat} {S : Rf → Nat → Bool} {A : Ab} {B : Nat → Nat → Nat}
theorem Tape_off (o : Off S μ μ') (h1 : S (2, 0, 0) 1 = false) (h2 : ∀ i, S (2, 0, 1) i = false) (h3 : S (5, 0, 0) 6 = false) (h4 : ∀ i, S (5, 0, 6) i = false) (h : Tape μ) : Tape μ' := by
  obtain ⟨T, n, a, b⟩ := h
  exact ⟨T, n, TpC_off o h1 h2 a, TpM_off o h3 h4 b⟩
theorem ImgK_off {k : Nat} (o : Off S μ μ') (h1 : ∀ i, S (4, 0, 4) i = false) (h2 : ∀ i, S (5, 0, 5) i = false) (h3 : ∀ k j i, 2 ≤ k → S (0, k, j) i = false) (h4 : ∀ i, S (5, 0, 4) i = false) (h : ImgK N μ k) : ImgK N μ' k := by
  unfold ImgK at *
  rw [o _ _ (h1 k), o _ _ (h2 k)]
  rcases h with h | ⟨a, b, A, B, c, d, e⟩
  · exact Or.inl h
  · refine Or.inr ⟨a, b, A, B, RepL_off o (fun j i => h3 _ j i (by omega)) c, ?_, e⟩
    have : (fun i => μ' (5, 0, 4) (238 * k + i)) = fun i => μ (5, 0, 4) (238 * k + i) := funext (fun i => o _ _ (h4 _))
    rw [this]; exact d
theorem ShtK_off {k : Nat} (o : Off S μ μ') (h1 : ∀ k j i, S (3, k, j) i = false) (h2 : ∀ i, S (5, 0, 21) i = false) (h3 : ∀ i, S (5, 0, 22) i = false) (h4 : ∀ i, S (5, 0, 23) i = false) (h : ShtK μ k) : ShtK μ' k := by
  unfold ShtK at *
  simp only [o _ _ (h1 _ _ _), o _ _ (h2 _), o _ _ (h3 _), o _ _ (h4 _)]
  exact h
theorem Rst_off (o : Off S μ μ') (K : SK S) (h : Rst N μ) : Rst N μ' := by
  obtain ⟨⟨a1, a2, a3⟩, ⟨b1, b2, b3⟩, ⟨c1, c2, c3⟩, ⟨d1, d2⟩, ⟨e1, e2, e3, e4⟩, f⟩ := K
  obtain ⟨h1, h2, h3, h4, h5⟩ := h
  refine ⟨Tape_off o a1 a3 b1 c1 h1, ?_, fun k hk => ImgK_off o c2 c3 d1 d2 (h3 k hk), fun k hk => ShtK_off o e1 e2 e3 e4 (h4 k hk), ?_⟩
  · unfold Flt at *
    rw [o _ _ a2, o _ _ b2]; exact h2
  · unfold Trn at *
    rw [o _ _ f, o _ _ b3]; exact h5
theorem Rst_mono {N' : Nat} (hN : N ≤ N') (h : Rst N μ) : Rst N' μ := by
  obtain ⟨h1, h2, h3, h4, h5⟩ := h
  refine ⟨h1, h2, fun k hk => ?_, h4, h5⟩
  rcases h3 k hk with h | ⟨a, b, A, B, c, d, e, f, g⟩
  · exact Or.inl h
  · exact Or.inr ⟨a, b, A, B, c, d, e, f, by omega⟩
theorem LnA_mono {N' : Nat} (hN : N ≤ N') (h : LnA N μ A B) : LnA N' μ A B := ⟨h.1, h.2.1, h.2.2.1, h.2.2.2.1, h.2.2.2.2.1, by have := h.2.2.2.2.2; omega⟩
theorem Inv_mono {N' : Nat} (hN : N ≤ N') (h : Inv N μ) : Inv N' μ := by
  obtain ⟨⟨A, B, h1⟩, h2⟩ := h
  exact ⟨⟨A, B, LnA_mono hN h1⟩, Rst_mono hN h2⟩
/-- a call that only looks -/
theorem Inv_q {μ1 μ2 : Mem} {SD SM : Rf → Nat → Bool} (h : LnA N μ A B) (r : Rst N μ) (oD : Off SD μ μ1) (C1 : Cache μ1 A) (dL : ∀ j i, SD (0, 0, j) i = false) (dS : ∀ i, SD (5, 0, 1) i = false) (dK : SK SD) (oM : Off SM μ1 μ2) (mL : ∀ j i, SM (0, 0, j) i = false) (mP : ∀ j i, SM (1, 0, j) i = false) (mS : ∀ i, i < 238 → μ2 (5, 0, 1) i = μ1 (5, 0, 1) i) (mK : SK SM) : Inv N μ2 := by
  obtain ⟨a1, a2, a3, a4, a5, a6⟩ := h
  refine ⟨⟨A, B, RepL_off oM mL (RepL_off oD dL a1), RepR_okx (RepR_off oD dS a2) a3 mS, a3, a4, Cache_off oM mP C1, a6⟩, Rst_off oM mK (Rst_off oD dK r)⟩
theorem sLn_big {k k2 : Nat} (h : k < k2) (j i : Nat) : sLn k (0, k2, j) i = false := by
  unfold sLn
  simp
  omega
theorem SK_P : SK sP := ⟨⟨rfl, rfl, fun _ => rfl⟩, ⟨rfl, rfl, rfl⟩, ⟨fun _ => rfl, fun _ => rfl, fun _ => rfl⟩, ⟨fun _ _ _ _ => rfl, fun _ => rfl⟩, ⟨fun _ _ _ => rfl, fun _ => rfl, fun _ => rfl, fun _ => rfl⟩, rfl⟩
theorem SK_Pn : SK sPn := ⟨⟨rfl, rfl, fun _ => rfl⟩, ⟨rfl, rfl, rfl⟩, ⟨fun _ => rfl, fun _ => rfl, fun _ => rfl⟩, ⟨fun k j i h => by show ((0 : Nat) == 1 || sLn 1 (0, k, j) i) = false; rw [sLn_big (by omega)]; rfl, fun _ => rfl⟩, ⟨fun _ _ _ => rfl, fun _ => rfl, fun _ => rfl, fun _ => rfl⟩, rfl⟩
theorem SK_Ad : SK sAd := ⟨⟨rfl, rfl, fun _ => rfl⟩, ⟨rfl, rfl, rfl⟩, ⟨fun _ => rfl, fun _ => rfl, fun _ => rfl⟩, ⟨fun k j i h => by show ((0 : Nat) == 1 || sLn 0 (0, k, j) i) = false; rw [sLn_big (by omega)]; rfl, fun _ => rfl⟩, ⟨fun _ _ _ => rfl, fun _ => rfl, fun _ => rfl, fun _ => rfl⟩, rfl⟩
theorem SK_Ex : SK sEx := ⟨⟨rfl, rfl, fun _ => rfl⟩, ⟨rfl, rfl, rfl⟩, ⟨fun _ => rfl, fun _ => rfl, fun _ => rfl⟩, ⟨fun _ _ _ _ => rfl, fun _ => rfl⟩, ⟨fun _ _ _ => rfl, fun _ => rfl, fun _ => rfl, fun _ => rfl⟩, rfl⟩
theorem SK_Sq : SK sSq := ⟨⟨rfl, rfl, fun _ => rfl⟩, ⟨rfl, rfl, rfl⟩, ⟨fun _ => rfl, fun _ => rfl, fun _ => rfl⟩, ⟨fun _ _ _ _ => rfl, fun _ => rfl⟩, ⟨fun _ _ _ => rfl, fun _ => rfl, fun _ => rfl, fun _ => rfl⟩, rfl⟩
theorem SK_Pm : SK sPm := ⟨⟨rfl, rfl, fun _ => rfl⟩, ⟨rfl, rfl, rfl⟩, ⟨fun _ => rfl, fun _ => rfl, fun _ => rfl⟩, ⟨fun _ _ _ _ => rfl, fun _ => rfl⟩, ⟨fun _ _ _ => rfl, fun _ => rfl, fun _ => rfl, fun _ => rfl⟩, rfl⟩
theorem SK_Am : SK sAm := ⟨⟨rfl, rfl, fun _ => rfl⟩, ⟨rfl, rfl, rfl⟩, ⟨fun _ => rfl, fun _ => rfl, fun _ => rfl⟩, ⟨fun _ _ _ _ => rfl, fun _ => rfl⟩, ⟨fun _ _ _ => rfl, fun _ => rfl, fun _ => rfl, fun _ => rfl⟩, rfl⟩
theorem SK_0 : SK (fun _ _ => false) := ⟨⟨rfl, rfl, fun _ => rfl⟩, ⟨rfl, rfl, rfl⟩, ⟨fun _ => rfl, fun _ => rfl, fun _ => rfl⟩, ⟨fun _ _ _ _ => rfl, fun _ => rfl⟩, ⟨fun _ _ _ => rfl, fun _ => rfl, fun _ => rfl, fun _ => rfl⟩, rfl⟩
end Inv
/-- one call, by both: the same answer, and all holds again -/
def StpB (N : Nat) (FD FM : Mem → Option (Int32 × Mem)) : Prop := ∀ μ, Inv N μ → ∃ r μ1 μ2, FD μ = some (r, μ1) ∧ FM μ1 = some (r, μ2) ∧ Inv (N + 60) μ2
def StvB (N : Nat) (FD FM : Mem → Option Int32) : Prop := ∀ μ, Inv N μ → ∃ r, FD μ = some r ∧ FM μ = some r
section Queries
variable {N : Nat}
theorem agA_at {A : Ab} {t : Nat} (h : agA A t = 3 ∨ agA A t = 4 ∨ agA A t = 5) : A 9 t = 0 ∧ (agA A t = 5 → canA A (dA A) t = true) := by
  unfold agA at *
  by_cases z : A 9 t = 0
  · refine ⟨z, fun g => ?_⟩
    rw [if_pos z] at g
    by_cases y : fst (runA A (secA A t (A 8 t))) (A 4 0) 0 < A 4 0
    · rw [if_pos y] at g; omega
    · rw [if_neg y] at g
      by_cases c : canA A (dA A) t = true
      · exact c
      · rw [if_neg c] at g; omega
  · rw [if_neg z] at h
    by_cases y : A 9 t = 2
    · rw [if_pos y] at h; omega
    · rw [if_neg y] at h; omega
theorem stv_fault : StvB N fD_fault fM_fault := by
  rintro μ ⟨-, -, h, -⟩
  exact ⟨_, rfl, congrArg some h.symm⟩
theorem stv_torn : StvB N fD_torn fM_torn := by
  rintro μ ⟨-, -, -, -, -, h⟩
  exact ⟨_, rfl, congrArg some h.symm⟩
theorem stp_why (x : Int32) : StpB N (fD_why x) (fM_why x) := by
  rintro μ ⟨⟨A, B, h⟩, r⟩
  obtain ⟨R, RR, O, S, C, hN⟩ := id h
  have n0 : nI 0 = 0 := rfl
  have n1 : ¬ nI 1 = 0 := by decide +kernel
  by_cases c : ∃ p, p < A 4 0 ∧ x = nI p
  · obtain ⟨t, ht, rfl⟩ := c
    have d1 : fL_hasTrain 0 (nI t) μ = some 1 := by rw [hasTrain_ok R O, if_pos ⟨t, ht, rfl⟩]
    obtain ⟨m1, e1, o1, K1, L1⟩ := learn_ok R O C
    have R1 := RepL_off o1 (fun _ _ => rfl) R
    have RR1 := RepR_off o1 (fun _ => rfl) RR
    have ag := againstD_ok R1 O K1 L1 ht
    have d2 : fM_isTrain (nI t) m1 = some (nI 1) := by rw [isTrainM_ok RR1 O, if_pos ⟨t, ht, rfl⟩]
    have p1 := postureNow_ok RR1 O
    obtain ⟨m2, nq, q, e2, o2, E2⟩ := explore_ok RR1 O (DOk_dA O)
    have RR2 := RepR_off o2 (fun _ => rfl) RR1
    obtain ⟨m3, e3, o3⟩ := againstM_ok RR2 O E2 (Rch_refl _) ht
    refine ⟨nI (agA A t), m1, m3, ?_, ?_, Inv_mono (by omega) (Inv_q h r o1 K1.cache (fun _ _ => rfl) (fun _ => rfl) SK_P (Off_trans o2 (Off_mono o3 sEx_sSp)) (fun _ _ => rfl) (fun _ _ => rfl) (fun i _ => by rw [o3 _ _ rfl, o2 _ _ rfl]) SK_Ex)⟩
    · unfold fD_why
      rw [d1, bind_s, if_neg (show ¬ (1 : Int32) = 0 by decide +kernel), e1, bind_s, ag, bind_s]
    · unfold fM_why
      rw [d2, bind_s, if_neg n1, p1, bind_s, e2, bind_s, e3, bind_s]
  · refine ⟨-1, μ, μ, ?_, ?_, Inv_mono (by omega) ⟨⟨A, B, h⟩, r⟩⟩
    · unfold fD_why
      rw [hasTrain_ok R O, if_neg c, bind_s, if_pos rfl]
    · unfold fM_why
      rw [isTrainM_ok RR O, if_neg c, bind_s, if_pos n0]
theorem stp_who (x : Int32) : StpB N (fD_who x) (fM_who x) := by
  rintro μ ⟨⟨A, B, h⟩, r⟩
  obtain ⟨R, RR, O, S, C, hN⟩ := id h
  have n0 : nI 0 = 0 := rfl
  have n1 : ¬ nI 1 = 0 := by decide +kernel
  have hn := O.n4
  have h6 := O.p6
  by_cases c : ∃ p, p < A 4 0 ∧ x = nI p
  · obtain ⟨t, ht, rfl⟩ := c
    have ot := O.tr ht
    have hd := ot.2.2.2.2.2.1
    have d1 : fL_hasTrain 0 (nI t) μ = some 1 := by rw [hasTrain_ok R O, if_pos ⟨t, ht, rfl⟩]
    obtain ⟨m1, e1, o1, K1, L1⟩ := learn_ok R O C
    have R1 := RepL_off o1 (fun _ _ => rfl) R
    have RR1 := RepR_off o1 (fun _ => rfl) RR
    have ag := againstD_ok R1 O K1 L1 ht
    have d2 : fM_isTrain (nI t) m1 = some (nI 1) := by rw [isTrainM_ok RR1 O, if_pos ⟨t, ht, rfl⟩]
    have p1 := postureNow_ok RR1 O
    obtain ⟨m2, nq, q, e2, o2, E2⟩ := explore_ok RR1 O (DOk_dA O)
    have RR2 := RepR_off o2 (fun _ => rfl) RR1
    obtain ⟨m3, e3, o3⟩ := againstM_ok RR2 O E2 (Rch_refl _) ht
    have RR3 := RepR_off o3 (fun _ => rfl) RR2
    have of := of3 RR2 O ht
    have of' : fM_ofTrain (nI t) 3 m2 = some (nI (spotA A t (A 8 t))) := of
    have al := agA_le A t
    have o13 : Off sEx m1 m3 := Off_trans o2 (Off_mono o3 sEx_sSp)
    have hD : fD_who (nI t) μ = (if nI (agA A t) = 3 then (gd (inb (nI t) 4) (Option.bind (fL_sectionAhead 0 (nI t) (m1 (0, 0, 9) (ix (nI t))) m1) (fun x6 => Option.bind (fL_runnerIn 0 x6 m1) (fun x7 => some (x7, m1))))) else (if nI (agA A t) = 4 then (Option.bind (fP_firstAhead 0 (nI t) m1) (fun x9 => some (x9, m1))) else (if nI (agA A t) = 5 then (Option.bind (fP_firstLostBehind 0 (nI t) m1) (fun x11 => some (x11, m1))) else (some ((-4), m1))))) := by
      unfold fD_who
      rw [d1, bind_s, if_neg (show ¬ (1 : Int32) = 0 by decide +kernel), e1, bind_s, ag, bind_s]
    have hM : fM_who (nI t) m1 = (if nI (agA A t) = 3 then (Option.bind (fM_nextFrom (nI t) (nI (spotA A t (A 8 t))) m3) (fun x9 => Option.bind (fM_runsBetween (nI (spotA A t (A 8 t))) x9 m3) (fun x10 => some (x10, m3)))) else (if nI (agA A t) = 4 then (Option.bind (fM_nextFrom (nI t) (nI (spotA A t (A 8 t))) m3) (fun x12 => Option.bind (fM_firstAt x12 m3) (fun q13 => some (q13.1, q13.2)))) else (if nI (agA A t) = 5 then (Option.bind (fM_firstStuck (nI t) m3) (fun q15 => some (q15.1, q15.2))) else (some ((-4), m3))))) := by
      unfold fM_who
      rw [d2, bind_s, if_neg n1, p1, bind_s, e2, bind_s, of', bind_s, lt_def, e3, bind_s]
    have fin : ∀ {m4 : Mem}, Off sEx m3 m4 → Inv (N + 60) m4 := fun {m4} o4 => Inv_mono (by omega) (Inv_q h r o1 K1.cache (fun _ _ => rfl) (fun _ => rfl) SK_P (Off_trans o13 o4) (fun _ _ => rfl) (fun _ _ => rfl) (fun i _ => by rw [o4 _ _ rfl, o13 _ _ rfl]) SK_Ex)
    have k3 : (nI (agA A t) = 3) ↔ agA A t = 3 := nI_eq (b := 3) (by omega) (by omega)
    have k4 : (nI (agA A t) = 4) ↔ agA A t = 4 := nI_eq (b := 4) (by omega) (by omega)
    have k5 : (nI (agA A t) = 5) ↔ agA A t = 5 := nI_eq (b := 5) (by omega) (by omega)
    by_cases g3 : agA A t = 3
    · have at0 := (agA_at (Or.inl g3)).1
      have h8 := ot.2.2.2.2.2.2.2.1 at0
      have sl := secA_lt O ht hd h8
      have eD := hD
      rw [if_pos (k3.mpr g3), gd_in (by omega) (by omega), ix_n (by omega), R1.lf ht, sec_ok R1 O ht hd h8, bind_s, runnerIn_ok R1 O (by omega), bind_s] at eD
      refine ⟨_, m1, m3, eD, ?_, fin (Off_refl _ _)⟩
      rw [hM, if_pos (k3.mpr g3), nextFrom_ok RR3 O ht hd h8, bind_s, runsBetween_ok RR3 O ht hd h8, bind_s]
    · by_cases g4 : agA A t = 4
      · have at0 := (agA_at (Or.inr (Or.inl g4))).1
        have h8 := ot.2.2.2.2.2.2.2.1 at0
        have pl := spotA_lt O ht (d := A 8 t - 1) (by omega)
        obtain ⟨m4, e4, o4⟩ := firstAt_ok RR3 O (p := spotA A t (A 8 t - 1)) (by omega)
        have eD := hD
        rw [if_neg (fun z => g3 (k3.mp z)), if_pos (k4.mpr g4), firstAhead_ok R1 O L1.1 ht h8, bind_s] at eD
        refine ⟨_, m1, m4, eD, ?_, fin (Off_mono o4 sEx_sSp)⟩
        rw [hM, if_neg (fun z => g3 (k3.mp z)), if_pos (k4.mpr g4), nextFrom_ok RR3 O ht hd h8, bind_s, e4, bind_s]
      · by_cases g5 : agA A t = 5
        · have at0 := agA_at (Or.inr (Or.inr g5))
          have h8 := ot.2.2.2.2.2.2.2.1 at0.1
          obtain ⟨m4, e4, o4⟩ := firstStuck_ok RR3 O ht (at0.2 g5)
          have eD := hD
          rw [if_neg (fun z => g3 (k3.mp z)), if_neg (fun z => g4 (k4.mp z)), if_pos (k5.mpr g5), firstLost_ok R1 O L1.1 K1.2.2.2 ht h8, bind_s] at eD
          refine ⟨_, m1, m4, eD, ?_, fin o4⟩
          rw [hM, if_neg (fun z => g3 (k3.mp z)), if_neg (fun z => g4 (k4.mp z)), if_pos (k5.mpr g5), e4, bind_s]
        · refine ⟨-4, m1, m3, ?_, ?_, fin (Off_refl _ _)⟩
          · rw [hD, if_neg (fun z => g3 (k3.mp z)), if_neg (fun z => g4 (k4.mp z)), if_neg (fun z => g5 (k5.mp z))]
          · rw [hM, if_neg (fun z => g3 (k3.mp z)), if_neg (fun z => g4 (k4.mp z)), if_neg (fun z => g5 (k5.mp z))]
  · refine ⟨-1, μ, μ, ?_, ?_, Inv_mono (by omega) ⟨⟨A, B, h⟩, r⟩⟩
    · unfold fD_who
      rw [hasTrain_ok R O, if_neg c, bind_s, if_pos rfl]
    · unfold fM_who
      rw [isTrainM_ok RR O, if_neg c, bind_s, if_pos n0]
end Queries
