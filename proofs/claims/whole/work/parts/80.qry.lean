section Queries2
variable {N : Nat}
theorem Inv_n {μ : Mem} (h : Inv N μ) : Inv (N + 60) μ := Inv_mono (by omega) h
theorem stp_order (x : Int32) : StpB N (fD_order x) (fM_order x) := by
  rintro μ ⟨⟨A, B, h⟩, r⟩
  obtain ⟨R, RR, O, S, C, hN⟩ := id h
  have hn := O.n4
  unfold fD_order fM_order
  by_cases c : (0 : Int32) ≤ x
  · obtain ⟨m1, e1, o1, f6, rm⟩ := learnRooms_ok R O C.1
    have R1 := RepL_off o1 (fun _ _ => rfl) R
    obtain ⟨m2, M, e2, o2, sq, M4, row⟩ := goOneByOne_ok R1 O rm
    have RR2 := RepR_off o2 (fun _ => rfl) (RepR_off o1 (fun _ => rfl) RR)
    obtain ⟨m3, M', e3, q3, sq3⟩ := findSequence_ok RR2 O
    have eM : M' = M := SeqM_un sq3 sq
    subst eM
    have o12 : Off sP μ m2 := Off_trans (Off_mono o1 sP_sRo) (Off_mono o2 (fun r i h => by
      simp only [sP, beq_eq_false_iff_ne, ne_eq] at h
      simp only [sRw, Bool.or_eq_false_iff, beq_eq_false_iff_ne, ne_eq]
      refine ⟨⟨fun z => h (by rw [z]), fun z => h (by rw [z])⟩, fun z => h (by rw [z])⟩))
    have C2 : Cache m2 A := ⟨Or.inr ⟨(o2 _ _ rfl).trans f6, RoomsOk_off o2 (fun _ => rfl) rm⟩, by
      rcases C.2 with c | ⟨c, E⟩
      · exact Or.inl (by rw [o2 _ _ rfl, o1 _ _ rfl]; exact c)
      · exact Or.inr ⟨by rw [o2 _ _ rfl, o1 _ _ rfl]; exact c, EndsOk_off o2 (fun _ => rfl) (EndsOk_off o1 (fun _ => rfl) E)⟩⟩
    have I : Inv (N + 60) m3 := Inv_n (Inv_q h r o12 C2 (fun _ _ => rfl) (fun _ => rfl) SK_P q3.1 (fun _ _ => rfl) (fun _ _ => rfl) (fun i _ => by rw [q3.1 _ _ rfl]) SK_Sq)
    rw [if_pos c, e1, bind_s, e2, bind_s]
    rcases pk_ix x (n := M') (by omega) with a | a | ⟨j, hj, rfl⟩
    · exact absurd (Int32.lt_of_le_of_lt c a) (by decide +kernel)
    · refine ⟨-4, m2, m3, ?_, ?_, I⟩
      · rw [if_pos a]
      · rw [if_pos c, e3, bind_s, q3.2.2.1, if_pos a]
    · have na : ¬ nI M' ≤ nI j := fun z => by have := (nI_leI (by omega) (by omega)).mp z; omega
      refine ⟨nI (seqT A (seqD A j)), m2, m3, ?_, ?_, I⟩
      · rw [if_neg na, gd_in (by omega) (by omega), ix_n (by omega)]
        show some (m2 (1, 0, 6) j, m2) = _
        rw [row j hj]
      · rw [if_pos c, e3, bind_s, q3.2.2.1, if_neg na, gd_in (by omega) (by omega), ix_n (by omega), q3.2.2.2.2 j hj]
  · rw [if_neg c]
    refine ⟨-1, μ, μ, rfl, ?_, Inv_n ⟨⟨A, B, h⟩, r⟩⟩
    rw [if_neg c]
theorem stp_reach (x : Int32) : StpB N (fD_reach x) (fM_reach x) := by
  rintro μ ⟨⟨A, B, h⟩, r⟩
  obtain ⟨R, RR, O, S, C, hN⟩ := id h
  rcases rgN x 0 1 (by omega) (by omega) with g | ⟨so, -, hso, rfl⟩
  · refine ⟨-1, μ, μ, ?_, ?_, Inv_n ⟨⟨A, B, h⟩, r⟩⟩
    · unfold fD_reach
      exact rg_no (l := 0) (h := 1) g _ _
    · unfold fM_reach
      have e : fM_in x.toInt64 (0 : Int64) (1 : Int64) μ = some (if nI 0 ≤ x ∧ x ≤ nI 1 then nI 1 else nI 0) := inR x 0 1 rfl rfl μ
      rw [e, if_neg g, bind_s, if_pos (show nI 0 = 0 from rfl)]
  · obtain ⟨m1, e1, o1, K1, L1⟩ := learn_ok R O C
    have R1 := RepL_off o1 (fun _ _ => rfl) R
    obtain ⟨m2, e2, o2⟩ := reached_ok R1 O K1.2.1 K1.2.2.2 hso
    have RR2 := RepR_off o2 (fun _ => rfl) (RepR_off o1 (fun _ => rfl) RR)
    obtain ⟨m3, e3, o3⟩ := reachM_ok RR2 O hso
    have o12 : Off sP μ m2 := Off_trans o1 (Off_mono o2 (fun r i h => by
      simp only [sP, beq_eq_false_iff_ne, ne_eq] at h
      simp only [sSn, Bool.or_eq_false_iff, beq_eq_false_iff_ne, ne_eq]
      refine ⟨⟨fun z => h (by rw [z]), fun z => h (by rw [z])⟩, fun z => h (by rw [z])⟩))
    have C2 : Cache m2 A := ⟨Or.inr ⟨(o2 _ _ rfl).trans K1.1, RoomsOk_off o2 (fun _ => rfl) K1.2.1⟩, Or.inr ⟨(o2 _ _ rfl).trans K1.2.2.1, EndsOk_off o2 (fun _ => rfl) K1.2.2.2⟩⟩
    refine ⟨_, m2, m3, ?_, e3, Inv_n (Inv_q h r o12 C2 (fun _ _ => rfl) (fun _ => rfl) SK_P o3 (fun _ _ => rfl) (fun _ _ => rfl) (fun i _ => by rw [o3 _ _ rfl]) SK_Ex)⟩
    unfold fD_reach
    have es : (if nI so = (1 : Int32) then (1 : Int32) else 0) = nI so := by
      have : so = 0 ∨ so = 1 := by omega
      rcases this with rfl | rfl <;> rfl
    have c0 : ¬ nI so < (0 : Int32) := nI_pos (by omega)
    have c1 : nI so ≤ (1 : Int32) := (nI_leI (b := 1) (by omega) (by omega)).mpr hso
    rw [if_neg c0, if_pos c1, e1, bind_s, es, lt_def, e2, bind_s]
theorem isRule_ok (x : Int32) (m : Mem) : fD_isRule x m = some (if nI 0 ≤ x ∧ x ≤ nI 2 then nI 1 else nI 0) := by
  unfold fD_isRule
  by_cases g : nI 0 ≤ x ∧ x ≤ nI 2
  · rcases rgN x 0 2 (by omega) (by omega) with a | ⟨j, -, h, rfl⟩
    · exact absurd g a
    · have c0 : ¬ nI j < (0 : Int32) := nI_pos (by omega)
      have c1 : ¬ (3 : Int32) ≤ nI j := fun z => by have := (nI_leI (a := 3) (by omega) (by omega)).mp z; omega
      rw [if_pos g, if_neg c0, if_neg c1]; rfl
  · rw [if_neg g]
    exact rg_no2 (l := 0) (h := 2) (by omega) g _ _
theorem stp_plan (hN : N < 2 ^ 18) (x y : Int32) : StpB N (fD_plan x y) (fM_plan x y) := by
  rintro μ ⟨⟨A, B, h⟩, r⟩
  obtain ⟨R, RR, O, S, C, hA⟩ := id h
  have n0 : nI 0 = 0 := rfl
  have n1 : ¬ nI 1 = 0 := by decide +kernel
  have i1 : ∀ m, fM_in x.toInt64 (0 : Int64) (2 : Int64) m = some (if nI 0 ≤ x ∧ x ≤ nI 2 then nI 1 else nI 0) := fun m => inR x 0 2 rfl rfl m
  have i2 : ∀ m, fM_in y.toInt64 (0 : Int64) (1 : Int64) m = some (if nI 0 ≤ y ∧ y ≤ nI 1 then nI 1 else nI 0) := fun m => inR y 0 1 rfl rfl m
  unfold fD_plan fM_plan
  rw [isRule_ok, bind_s]
  rcases rgN x 0 2 (by omega) (by omega) with g | ⟨ru, -, hr, rfl⟩
  · rw [if_neg g, if_pos n0]
    refine ⟨-1, μ, μ, rfl, ?_, Inv_n ⟨⟨A, B, h⟩, r⟩⟩
    rw [i1, if_neg g, bind_s, if_pos n0]
  have gr : nI 0 ≤ nI ru ∧ nI ru ≤ nI 2 := ⟨(nI_leI (by omega) (by omega)).mpr (by omega), (nI_leI (by omega) (by omega)).mpr hr⟩
  rw [if_pos gr, if_neg n1]
  rcases rgN y 0 1 (by omega) (by omega) with g | ⟨so, -, hso, rfl⟩
  · refine ⟨-1, μ, μ, rg_no (l := 0) (h := 1) g _ _, ?_, Inv_n ⟨⟨A, B, h⟩, r⟩⟩
    rw [i1, if_pos gr, bind_s, if_neg n1, i2, if_neg g, bind_s, if_pos n0]
  obtain ⟨m1, e1, o1, K1⟩ := plannedD_ok R O C S (by omega) (r := ru) (so := so) (by omega) hso
  have RR1 := RepR_off o1 (fun _ => rfl) RR
  obtain ⟨m2, e2, o2, v2⟩ := plannedM_ok RR1 O S (by omega) (r := ru) (so := so) (by omega) hso
  have gs : nI 0 ≤ nI so ∧ nI so ≤ nI 1 := ⟨(nI_leI (by omega) (by omega)).mpr (by omega), (nI_leI (by omega) (by omega)).mpr hso⟩
  have es : (if nI so = (1 : Int32) then (1 : Int32) else 0) = nI so := by
    have : so = 0 ∨ so = 1 := by omega
    rcases this with rfl | rfl <;> rfl
  have c0 : ¬ nI so < (0 : Int32) := nI_pos (by omega)
  have c1 : nI so ≤ (1 : Int32) := (nI_leI (b := 1) (by omega) (by omega)).mpr hso
  refine ⟨nI (plV A ru so), m1, m2, ?_, ?_, Inv_n (Inv_q h r o1 K1.cache (fun j i => by simp [sPn, sLn]) (fun _ => rfl) SK_Pn o2 (fun _ _ => rfl) (fun _ _ => rfl) v2 SK_Pm)⟩
  · rw [if_neg c0, if_pos c1, es, lt_def, e1, bind_s]
  · rw [i1, if_pos gr, bind_s, if_neg n1, i2, if_pos gs, bind_s, if_neg n1, e2, bind_s]
theorem stp_best (hN : N < 2 ^ 18) : StpB N fD_best fM_best := by
  rintro μ ⟨⟨A, B, h⟩, r⟩
  obtain ⟨R, RR, O, S, C, hA⟩ := id h
  obtain ⟨m1, e1, o1, C1⟩ := bestD_ok R O C S (by omega)
  have RR1 := RepR_off o1 (fun _ => rfl) RR
  obtain ⟨m2, e2, o2, v2⟩ := bestM_ok RR1 O S (by omega)
  exact ⟨_, m1, m2, e1, e2, Inv_n (Inv_q h r o1 C1 (fun j i => by simp [sPn, sLn]) (fun _ => rfl) SK_Pn o2 (fun _ _ => rfl) (fun _ _ => rfl) v2 SK_Pm)⟩
theorem stv_journal (x y : Int32) : StvB N (fD_journal x y) (fM_journal x y) := by
  rintro μ ⟨⟨A, B, h⟩, r⟩
  obtain ⟨R, RR, O, S, C, hA⟩ := id h
  have e60 := O.e60
  have n0 : nI 0 = 0 := rfl
  have n1 : ¬ nI 1 = 0 := by decide +kernel
  have i2 : fM_in y.toInt64 (0 : Int64) (2 : Int64) μ = some (if nI 0 ≤ y ∧ y ≤ nI 2 then nI 1 else nI 0) := inR y 0 2 rfl rfl μ
  unfold fD_journal fM_journal
  by_cases c : x < 0
  · rw [if_pos c, if_pos c]; exact ⟨-1, rfl, rfl⟩
  rw [if_neg c, if_neg c, i2, bind_s]
  rcases rgN y 0 2 (by omega) (by omega) with g | ⟨w, -, hw, rfl⟩
  · rw [if_neg g, if_pos n0]
    exact ⟨-1, rg_no (l := 0) (h := 2) g _ _, rfl⟩
  have gw : nI 0 ≤ nI w ∧ nI w ≤ nI 2 := ⟨(nI_leI (by omega) (by omega)).mpr (by omega), (nI_leI (by omega) (by omega)).mpr hw⟩
  have c0 : ¬ nI w < (0 : Int32) := nI_pos (by omega)
  have c1 : nI w ≤ (2 : Int32) := (nI_leI (b := 2) (by omega) (by omega)).mpr hw
  have s3 : μ (5, 0, 1) (ix 3) = nI (A 12 0) := by
    rw [show ix 3 = 3 by decide +kernel]; exact RR.en
  rw [if_pos gw, if_neg n1, if_neg c0, if_pos c1, R.en, gd_t (show inb 3 238 = true by decide +kernel), s3]
  rcases pk_ix x (n := A 12 0) (by omega) with a | a | ⟨j, hj, rfl⟩
  · exact absurd a c
  · have na : ¬ x < nI (A 12 0) := Int32.not_lt.mpr a
    rw [if_neg na, if_pos a]; exact ⟨-4, rfl, rfl⟩
  · have a1 : nI j < nI (A 12 0) := (nI_ltI (by omega) (by omega)).mpr hj
    have a2 : ¬ nI (A 12 0) ≤ nI j := fun z => by have := (nI_leI (by omega) (by omega)).mp z; omega
    have en := entry_ok (i := j) (c := w) (by omega) (by omega) μ
    rw [if_pos a1, if_neg a2, en, bind_s, gd_in (by omega) (by omega), gd_in (by omega) (by omega), gd_in (by omega) (by omega), ix_n (by omega), R.j13 hj, R.j14 hj, R.j15 hj]
    have d : w = 0 ∨ w = 1 ∨ w = 2 := by omega
    rcases d with rfl | rfl | rfl
    · rw [RR.j13 hj, if_pos (show nI 0 = (0 : Int32) from rfl)]; exact ⟨_, rfl, rfl⟩
    · rw [RR.j14 hj, if_neg (show ¬ nI 1 = (0 : Int32) by decide +kernel), if_pos (show nI 1 = (1 : Int32) from rfl)]; exact ⟨_, rfl, rfl⟩
    · rw [RR.j15 hj, if_neg (show ¬ nI 2 = (0 : Int32) by decide +kernel), if_neg (show ¬ nI 2 = (1 : Int32) by decide +kernel)]; exact ⟨_, rfl, rfl⟩

theorem stp_rule (x : Int32) : StpB N (fD_rule x) (fM_rule x) := by
  rintro μ ⟨⟨A, B, h⟩, r⟩
  obtain ⟨R, RR, O, S, C, hA⟩ := id h
  have I0 : Inv (N + 60) μ := Inv_n ⟨⟨A, B, h⟩, r⟩
  by_cases c0 : x = 0
  · subst c0
    refine ⟨nI (A 0 0), μ, μ, ?_, ?_, I0⟩
    · unfold fD_rule
      rw [if_pos rfl, R.pl]
    · unfold fM_rule
      rw [if_pos rfl, gd_t (show inb 0 238 = true by decide +kernel), show ix 0 = 0 by decide +kernel, RR.pl]
  by_cases c1 : x = 1
  · subst c1
    refine ⟨nI (A 4 0), μ, μ, ?_, ?_, I0⟩
    · unfold fD_rule
      rw [if_neg (show ¬ (1 : Int32) = 0 by decide +kernel), if_pos rfl, R.n]
    · unfold fM_rule
      rw [if_neg (show ¬ (1 : Int32) = 0 by decide +kernel), if_pos rfl, gd_t (show inb 1 238 = true by decide +kernel), show ix 1 = 1 by decide +kernel, RR.n]
  by_cases c2 : x = 2
  · subst c2
    refine ⟨nI (A 11 0), μ, μ, ?_, ?_, I0⟩
    · unfold fD_rule
      rw [if_neg (show ¬ (2 : Int32) = 0 by decide +kernel), if_neg (show ¬ (2 : Int32) = 1 by decide +kernel), if_pos rfl, R.ck]
    · unfold fM_rule
      rw [if_neg (show ¬ (2 : Int32) = 0 by decide +kernel), if_neg (show ¬ (2 : Int32) = 1 by decide +kernel), if_pos rfl, gd_t (show inb 2 238 = true by decide +kernel), show ix 2 = 2 by decide +kernel, RR.ck]
  by_cases c3 : x = 3
  · subst c3
    have d1 : fL_howMany 0 1 μ = some (nI (cnt (fun t => decide (A 9 t = 1)) (A 4 0))) := howMany_ok R O (w := 1) (by omega)
    have d2 : fM_withStatus 1 μ = some (nI (cnt (fun t => decide (A 9 t = 1)) (A 4 0))) := withStatus_ok RR O (w := 1) (by omega)
    refine ⟨nI (cnt (fun t => decide (A 9 t = 1)) (A 4 0)), μ, μ, ?_, ?_, I0⟩
    · unfold fD_rule
      rw [if_neg (show ¬ (3 : Int32) = 0 by decide +kernel), if_neg (show ¬ (3 : Int32) = 1 by decide +kernel), if_neg (show ¬ (3 : Int32) = 2 by decide +kernel), if_pos rfl, d1, bind_s]
    · unfold fM_rule
      rw [if_neg (show ¬ (3 : Int32) = 0 by decide +kernel), if_neg (show ¬ (3 : Int32) = 1 by decide +kernel), if_neg (show ¬ (3 : Int32) = 2 by decide +kernel), if_pos rfl, d2, bind_s]
  by_cases c4 : x = 4
  · subst c4
    have d1 : fL_howMany 0 2 μ = some (nI (cnt (fun t => decide (A 9 t = 2)) (A 4 0))) := howMany_ok R O (w := 2) (by omega)
    have d2 : fM_withStatus 2 μ = some (nI (cnt (fun t => decide (A 9 t = 2)) (A 4 0))) := withStatus_ok RR O (w := 2) (by omega)
    refine ⟨nI (cnt (fun t => decide (A 9 t = 2)) (A 4 0)), μ, μ, ?_, ?_, I0⟩
    · unfold fD_rule
      rw [if_neg (show ¬ (4 : Int32) = 0 by decide +kernel), if_neg (show ¬ (4 : Int32) = 1 by decide +kernel), if_neg (show ¬ (4 : Int32) = 2 by decide +kernel), if_neg (show ¬ (4 : Int32) = 3 by decide +kernel), if_pos rfl, d1, bind_s]
    · unfold fM_rule
      rw [if_neg (show ¬ (4 : Int32) = 0 by decide +kernel), if_neg (show ¬ (4 : Int32) = 1 by decide +kernel), if_neg (show ¬ (4 : Int32) = 2 by decide +kernel), if_neg (show ¬ (4 : Int32) = 3 by decide +kernel), if_pos rfl, d2, bind_s]
  by_cases c5 : x = 5
  · subst c5
    refine ⟨nI (A 12 0), μ, μ, ?_, ?_, I0⟩
    · unfold fD_rule
      rw [if_neg (show ¬ (5 : Int32) = 0 by decide +kernel), if_neg (show ¬ (5 : Int32) = 1 by decide +kernel), if_neg (show ¬ (5 : Int32) = 2 by decide +kernel), if_neg (show ¬ (5 : Int32) = 3 by decide +kernel), if_neg (show ¬ (5 : Int32) = 4 by decide +kernel), if_pos rfl, R.en]
    · unfold fM_rule
      rw [if_neg (show ¬ (5 : Int32) = 0 by decide +kernel), if_neg (show ¬ (5 : Int32) = 1 by decide +kernel), if_neg (show ¬ (5 : Int32) = 2 by decide +kernel), if_neg (show ¬ (5 : Int32) = 3 by decide +kernel), if_neg (show ¬ (5 : Int32) = 4 by decide +kernel), if_pos rfl, gd_t (show inb 3 238 = true by decide +kernel), show ix 3 = 3 by decide +kernel, RR.en]
  by_cases c6 : x = 6
  · subst c6
    obtain ⟨m1, M, e1, o1, C1, s1⟩ := isPlainD_ok R O C
    have RR1 := RepR_off o1 (fun _ => rfl) RR
    obtain ⟨m2, M', e2, o2, s2⟩ := isPlainM_ok RR1 O
    have eM : M' = M := SeqM_un s2 s1
    subst eM
    refine ⟨nI (if M' = posN A (dA A) then 1 else 0), m1, m2, ?_, ?_, Inv_n (Inv_q h r o1 C1 (fun _ _ => rfl) (fun _ => rfl) SK_P o2 (fun _ _ => rfl) (fun _ _ => rfl) (fun i _ => by rw [o2 _ _ rfl]) SK_Sq)⟩
    · unfold fD_rule
      rw [if_neg (show ¬ (6 : Int32) = 0 by decide +kernel), if_neg (show ¬ (6 : Int32) = 1 by decide +kernel), if_neg (show ¬ (6 : Int32) = 2 by decide +kernel), if_neg (show ¬ (6 : Int32) = 3 by decide +kernel), if_neg (show ¬ (6 : Int32) = 4 by decide +kernel), if_neg (show ¬ (6 : Int32) = 5 by decide +kernel), if_pos rfl, e1, bind_s]
      by_cases z : M' = posN A (dA A)
      · rw [if_pos z, if_neg (show ¬ nI 1 = (0 : Int32) by decide +kernel)]; rfl
      · rw [if_neg z, if_pos (show nI 0 = (0 : Int32) from rfl)]; rfl
    · unfold fM_rule
      rw [if_neg (show ¬ (6 : Int32) = 0 by decide +kernel), if_neg (show ¬ (6 : Int32) = 1 by decide +kernel), if_neg (show ¬ (6 : Int32) = 2 by decide +kernel), if_neg (show ¬ (6 : Int32) = 3 by decide +kernel), if_neg (show ¬ (6 : Int32) = 4 by decide +kernel), if_neg (show ¬ (6 : Int32) = 5 by decide +kernel), if_pos rfl, e2, bind_s]
      by_cases z : M' = posN A (dA A)
      · rw [if_pos z]; rfl
      · rw [if_neg z]; rfl
  by_cases c7 : x = 7
  · subst c7
    refine ⟨nI (sm (fun t => A 8 t) (A 4 0)), μ, μ, ?_, ?_, I0⟩
    · unfold fD_rule
      rw [if_neg (show ¬ (7 : Int32) = 0 by decide +kernel), if_neg (show ¬ (7 : Int32) = 1 by decide +kernel), if_neg (show ¬ (7 : Int32) = 2 by decide +kernel), if_neg (show ¬ (7 : Int32) = 3 by decide +kernel), if_neg (show ¬ (7 : Int32) = 4 by decide +kernel), if_neg (show ¬ (7 : Int32) = 5 by decide +kernel), if_neg (show ¬ (7 : Int32) = 6 by decide +kernel), if_pos rfl, stepsLeft_ok R O, bind_s]
    · unfold fM_rule
      rw [if_neg (show ¬ (7 : Int32) = 0 by decide +kernel), if_neg (show ¬ (7 : Int32) = 1 by decide +kernel), if_neg (show ¬ (7 : Int32) = 2 by decide +kernel), if_neg (show ¬ (7 : Int32) = 3 by decide +kernel), if_neg (show ¬ (7 : Int32) = 4 by decide +kernel), if_neg (show ¬ (7 : Int32) = 5 by decide +kernel), if_neg (show ¬ (7 : Int32) = 6 by decide +kernel), if_pos rfl, movesLeft_ok RR O, bind_s]
  by_cases c8 : x = 8
  · subst c8
    obtain ⟨m1, e1, o1, K1⟩ := howManyFree_ok R O C
    have RR1 := RepR_off o1 (fun _ => rfl) RR
    obtain ⟨m2, e2, o2⟩ := canGo_ok RR1 O
    refine ⟨nI (cnt (fun t => decide (agA A t = 0)) (A 4 0)), m1, m2, ?_, ?_, Inv_n (Inv_q h r o1 K1.cache (fun _ _ => rfl) (fun _ => rfl) SK_P o2 (fun _ _ => rfl) (fun _ _ => rfl) (fun i _ => by rw [o2 _ _ rfl]) SK_Ex)⟩
    · unfold fD_rule
      rw [if_neg (show ¬ (8 : Int32) = 0 by decide +kernel), if_neg (show ¬ (8 : Int32) = 1 by decide +kernel), if_neg (show ¬ (8 : Int32) = 2 by decide +kernel), if_neg (show ¬ (8 : Int32) = 3 by decide +kernel), if_neg (show ¬ (8 : Int32) = 4 by decide +kernel), if_neg (show ¬ (8 : Int32) = 5 by decide +kernel), if_neg (show ¬ (8 : Int32) = 6 by decide +kernel), if_neg (show ¬ (8 : Int32) = 7 by decide +kernel), if_pos rfl, e1, bind_s]
    · unfold fM_rule
      rw [if_neg (show ¬ (8 : Int32) = 0 by decide +kernel), if_neg (show ¬ (8 : Int32) = 1 by decide +kernel), if_neg (show ¬ (8 : Int32) = 2 by decide +kernel), if_neg (show ¬ (8 : Int32) = 3 by decide +kernel), if_neg (show ¬ (8 : Int32) = 4 by decide +kernel), if_neg (show ¬ (8 : Int32) = 5 by decide +kernel), if_neg (show ¬ (8 : Int32) = 6 by decide +kernel), if_neg (show ¬ (8 : Int32) = 7 by decide +kernel), if_pos rfl, e2, bind_s]
  refine ⟨-1, μ, μ, ?_, ?_, I0⟩
  · unfold fD_rule
    rw [if_neg c0, if_neg c1, if_neg c2, if_neg c3, if_neg c4, if_neg c5, if_neg c6, if_neg c7, if_neg c8]
  · unfold fM_rule
    rw [if_neg c0, if_neg c1, if_neg c2, if_neg c3, if_neg c4, if_neg c5, if_neg c6, if_neg c7, if_neg c8]
theorem stv_place (x y : Int32) : StvB N (fD_place x y) (fM_place x y) := by
  rintro μ ⟨⟨A, B, h⟩, r⟩
  obtain ⟨R, RR, O, S, C, hA⟩ := id h
  have h6 := O.p6
  by_cases c : ∃ p, p < A 0 0 ∧ x = nI p
  rotate_left
  · refine ⟨-1, ?_, ?_⟩
    · unfold fD_place
      rw [hasPlace_ok R O, if_neg c, bind_s, if_pos rfl]
    · unfold fM_place
      rw [isPlaceM_ok RR O, if_neg c, bind_s, if_pos (show nI 0 = (0 : Int32) from rfl)]
  obtain ⟨p, hp, rfl⟩ := c
  have op := O.pc hp
  have d1 : fL_hasPlace 0 (nI p) μ = some 1 := by rw [hasPlace_ok R O, if_pos ⟨p, hp, rfl⟩]
  have d2 : fM_isPlace (nI p) μ = some (nI 1) := by rw [isPlaceM_ok RR O, if_pos ⟨p, hp, rfl⟩]
  have n1 : ¬ nI 1 = 0 := by decide +kernel
  have q1 : ¬ (1 : Int32) = 0 := by decide +kernel
  unfold fD_place fM_place
  rw [d1, d2, bind_s, bind_s, if_neg n1, if_neg q1]
  by_cases c0 : y = 0
  · subst c0
    have e : fM_ofPlace (nI p) 0 μ = some (nI (A 1 p)) := op0 RR O hp
    rw [if_pos rfl, if_pos rfl, gd_in (by omega) (by omega), ix_n (by omega), R.tk hp, e, bind_s]
    exact ⟨_, rfl, rfl⟩
  by_cases c1 : y = 1
  · subst c1
    rw [if_neg (show ¬ (1 : Int32) = 0 by decide +kernel)]
    have e1 : (1 : Int32) - 1 = nI 0 := by decide +kernel
    have e2 : nI p * (3 : Int32) + 1 - 1 = nI (3 * p + 0) := by
      have a : nI p * (3 : Int32) = nI (3 * p) := by
        have : (3 : Int32) = nI 3 := rfl
        rw [this, pk_mul, Nat.mul_comm]
      have b : nI (3 * p) + (1 : Int32) = nI (3 * p + 1) := nI_add (3 * p) 1
      rw [a, b, nI_sub1 (by omega)]
      congr 1
    rw [if_pos rfl, e1, trackOf_ok RR O hp (k := 0) (by omega), bind_s, e2, gd_in (by omega) (by omega), ix_n (by omega), R.tk hp]
    by_cases z : 0 < A 1 p
    · have c : (1 : Int32) ≤ nI (A 1 p) := (nI_leI (a := 1) (by omega) (by omega)).mpr (by omega)
      rw [if_pos z, if_pos rfl, if_pos c, gd_in (by omega) (by omega), ix_n (by omega), R.le hp z]
      exact ⟨_, rfl, rfl⟩
    · have c : ¬ (1 : Int32) ≤ nI (A 1 p) := fun w => by have := (nI_leI (a := 1) (by omega) (by omega)).mp w; omega
      rw [if_neg z, if_pos rfl, if_neg c]
      exact ⟨_, rfl, rfl⟩
  by_cases c2 : y = 2
  · subst c2
    rw [if_neg (show ¬ (2 : Int32) = 0 by decide +kernel), if_neg (show ¬ (2 : Int32) = 1 by decide +kernel)]
    have e1 : (2 : Int32) - 1 = nI 1 := by decide +kernel
    have e2 : nI p * (3 : Int32) + 2 - 1 = nI (3 * p + 1) := by
      have a : nI p * (3 : Int32) = nI (3 * p) := by
        have : (3 : Int32) = nI 3 := rfl
        rw [this, pk_mul, Nat.mul_comm]
      have b : nI (3 * p) + (2 : Int32) = nI (3 * p + 2) := nI_add (3 * p) 2
      rw [a, b, nI_sub1 (by omega)]
      congr 1
    rw [if_pos rfl, e1, trackOf_ok RR O hp (k := 1) (by omega), bind_s, e2, gd_in (by omega) (by omega), ix_n (by omega), R.tk hp]
    by_cases z : 1 < A 1 p
    · have c : (2 : Int32) ≤ nI (A 1 p) := (nI_leI (a := 2) (by omega) (by omega)).mpr (by omega)
      rw [if_pos z, if_pos rfl, if_pos c, gd_in (by omega) (by omega), ix_n (by omega), R.le hp z]
      exact ⟨_, rfl, rfl⟩
    · have c : ¬ (2 : Int32) ≤ nI (A 1 p) := fun w => by have := (nI_leI (a := 2) (by omega) (by omega)).mp w; omega
      rw [if_neg z, if_pos rfl, if_neg c]
      exact ⟨_, rfl, rfl⟩
  by_cases c3 : y = 3
  · subst c3
    rw [if_neg (show ¬ (3 : Int32) = 0 by decide +kernel), if_neg (show ¬ (3 : Int32) = 1 by decide +kernel), if_neg (show ¬ (3 : Int32) = 2 by decide +kernel)]
    have e1 : (3 : Int32) - 1 = nI 2 := by decide +kernel
    have e2 : nI p * (3 : Int32) + 3 - 1 = nI (3 * p + 2) := by
      have a : nI p * (3 : Int32) = nI (3 * p) := by
        have : (3 : Int32) = nI 3 := rfl
        rw [this, pk_mul, Nat.mul_comm]
      have b : nI (3 * p) + (3 : Int32) = nI (3 * p + 3) := nI_add (3 * p) 3
      rw [a, b, nI_sub1 (by omega)]
      congr 1
    rw [if_pos rfl, e1, trackOf_ok RR O hp (k := 2) (by omega), bind_s, e2, gd_in (by omega) (by omega), ix_n (by omega), R.tk hp]
    by_cases z : 2 < A 1 p
    · have c : (3 : Int32) ≤ nI (A 1 p) := (nI_leI (a := 3) (by omega) (by omega)).mpr (by omega)
      rw [if_pos z, if_pos rfl, if_pos c, gd_in (by omega) (by omega), ix_n (by omega), R.le hp z]
      exact ⟨_, rfl, rfl⟩
    · have c : ¬ (3 : Int32) ≤ nI (A 1 p) := fun w => by have := (nI_leI (a := 3) (by omega) (by omega)).mp w; omega
      rw [if_neg z, if_pos rfl, if_neg c]
      exact ⟨_, rfl, rfl⟩
  by_cases c4 : y = 4
  · subst c4
    rw [if_neg (show ¬ (4 : Int32) = 0 by decide +kernel), if_neg (show ¬ (4 : Int32) = 1 by decide +kernel), if_neg (show ¬ (4 : Int32) = 2 by decide +kernel), if_neg (show ¬ (4 : Int32) = 3 by decide +kernel)]
    rw [if_pos rfl, if_pos rfl, howManyThere_ok R O hp, trainsAt_ok RR O hp, bind_s]
    exact ⟨_, rfl, rfl⟩
  by_cases c5 : y = 5
  · subst c5
    rw [if_neg (show ¬ (5 : Int32) = 0 by decide +kernel), if_neg (show ¬ (5 : Int32) = 1 by decide +kernel), if_neg (show ¬ (5 : Int32) = 2 by decide +kernel), if_neg (show ¬ (5 : Int32) = 3 by decide +kernel), if_neg (show ¬ (5 : Int32) = 4 by decide +kernel)]
    have e4 : fM_ofPlace (nI p) 4 μ = some (nI (A 3 p)) := op4 RR O hp
    rw [if_pos rfl, if_pos rfl, R.pl, gd0, ix0, RR.pl, nI_sub1 (by omega), gd_in (by omega) (by omega), ix_n (by omega), R.mi hp, e4, bind_s]
    by_cases z : nI p = nI (A 0 0 - 1)
    · rw [if_pos z]; exact ⟨_, rfl, rfl⟩
    · rw [if_neg z]; exact ⟨_, rfl, rfl⟩
  refine ⟨-1, ?_, ?_⟩
  · rw [if_neg c0, if_neg c1, if_neg c2, if_neg c3, if_neg c4, if_neg c5]
  · rw [if_neg c0, if_neg c1, if_neg c2, if_neg c3, if_neg c4, if_neg c5]
end Queries2
