/-! the reference's reading of the whole text -/
section Parse
variable {m : Mem} {T : Nat → Nat} {n p q : Nat} {A : Ab} {B : Nat → Nat → Nat}
theorem ResM.tr {m1 m' : Mem} {r : Nat × Nat × Nat × Ab} (o : Off sTm m m1) (h : ResM T n m1 m' r) : ResM T n m m' r := ⟨Off_trans o h.1, h.2⟩
theorem hasRoom_ok {w : Nat} (hw : w < 3) (D : RepR (m (5, 0, 2)) A B) (O : OkP A) : fM_hasRoom (nI w) m = some (nI (if (w = 0 ∧ A 0 0 < 6) ∨ (w = 1 ∧ 1 ≤ A 0 0) ∨ (w = 2 ∧ A 4 0 < 4) then 1 else 0)) := by
  have n0 := (D.pl : m (5, 0, 2) 0 = nI (A 0 0))
  have n1 := (D.n : m (5, 0, 2) 1 = nI (A 4 0))
  have h0 := O.1
  have h4 := O.2.1
  unfold fM_hasRoom
  have c : w = 0 ∨ w = 1 ∨ w = 2 := by omega
  rcases c with rfl | rfl | rfl
  · simp (disch := omega) only [lit_0, lit_1, lit_2, lit_3, lit_4, lit_5, lit_6, lit_7, lit_8, lit_9, lit_10, lit_11, lit_12, lit_13, lit_14, lit_15, lit_16, lit_17, lit_18, lit_19, lit_20, lit_23, lit_24, lit_31, lit_32, lit_34, lit_36, lit_40, lit_48, lit_49, lit_57, lit_58, lit_59, lit_60, lit_64, lit_96, lit_97, lit_99, lit_101, lit_105, lit_108, lit_110, lit_111, lit_112, lit_114, lit_115, lit_116, lit_122, lit_127, lit_160, lit_216, lit_235, lit_238, lit_343, lit_476, lit_1296, lit_2000, lit_2401, lt_def, bind_s, gd_d, ix_n, inb_n, nI_add, pk_mul, pk_sub, nI_leI, nI_ltI, nI_eq, nI_ltn, nI_eqn, nI_eqn2, if_pos, if_neg, if_true, if_false, nI_addm1, n0]
    by_cases z : A 0 0 < 6
    · (simp (disch := omega) only [if_pos, if_neg]) <;> simp [z]
    · (simp (disch := omega) only [if_pos, if_neg]) <;> simp [z]
  · simp (disch := omega) only [lit_0, lit_1, lit_2, lit_3, lit_4, lit_5, lit_6, lit_7, lit_8, lit_9, lit_10, lit_11, lit_12, lit_13, lit_14, lit_15, lit_16, lit_17, lit_18, lit_19, lit_20, lit_23, lit_24, lit_31, lit_32, lit_34, lit_36, lit_40, lit_48, lit_49, lit_57, lit_58, lit_59, lit_60, lit_64, lit_96, lit_97, lit_99, lit_101, lit_105, lit_108, lit_110, lit_111, lit_112, lit_114, lit_115, lit_116, lit_122, lit_127, lit_160, lit_216, lit_235, lit_238, lit_343, lit_476, lit_1296, lit_2000, lit_2401, lt_def, bind_s, gd_d, ix_n, inb_n, nI_add, pk_mul, pk_sub, nI_leI, nI_ltI, nI_eq, nI_ltn, nI_eqn, nI_eqn2, if_pos, if_neg, if_true, if_false, nI_addm1, n0]
    by_cases z : 1 ≤ A 0 0
    · (simp (disch := omega) only [if_pos, if_neg]) <;> simp [z]
    · (simp (disch := omega) only [if_pos, if_neg]) <;> simp [z]
  · simp (disch := omega) only [lit_0, lit_1, lit_2, lit_3, lit_4, lit_5, lit_6, lit_7, lit_8, lit_9, lit_10, lit_11, lit_12, lit_13, lit_14, lit_15, lit_16, lit_17, lit_18, lit_19, lit_20, lit_23, lit_24, lit_31, lit_32, lit_34, lit_36, lit_40, lit_48, lit_49, lit_57, lit_58, lit_59, lit_60, lit_64, lit_96, lit_97, lit_99, lit_101, lit_105, lit_108, lit_110, lit_111, lit_112, lit_114, lit_115, lit_116, lit_122, lit_127, lit_160, lit_216, lit_235, lit_238, lit_343, lit_476, lit_1296, lit_2000, lit_2401, lt_def, bind_s, gd_d, ix_n, inb_n, nI_add, pk_mul, pk_sub, nI_leI, nI_ltI, nI_eq, nI_ltn, nI_eqn, nI_eqn2, if_pos, if_neg, if_true, if_false, nI_addm1, n1]
    by_cases z : A 4 0 < 4
    · (simp (disch := omega) only [if_pos, if_neg]) <;> simp [z]
    · (simp (disch := omega) only [if_pos, if_neg]) <;> simp [z]
theorem flt41 {c s : Nat} (x3 : Int32) (hc : 0 < c) (h : c < 2 ^ 31) (F : FlM m c s) : Option.bind (fM_reads m) (fun m8 => if (m8 (5, 0, 0) 11) ≤ 0 then (if x3 = 0 then (Option.bind (fM_readPlace m8) (fun m20 => jM_readLine_108 m20)) else (if x3 = 2 then (Option.bind (fM_readTrain m8) (fun m19 => jM_readLine_108 m19)) else (gd (inb 0 238) (Option.bind (fM_readNumber 1 9 (-4) m8) (fun q17 => gd (inb ((4 + (5 * ((m8 (5, 0, 2) (ix 0)) - 1))) + 4) 238) (lt (wr q17.2 (5, 0, 2) (ix ((4 + (5 * ((m8 (5, 0, 2) (ix 0)) - 1))) + 4)) q17.1) (fun m18 => jM_readLine_108 m18))))))) else (some m8)) = some m := by
  rw [reads_f hc h F.1, bind_s, F.1, if_neg (nI_neg hc h)]
theorem wC_le (T : Nat → Nat) (n q : Nat) : wC T n q ≤ 3 := by
  unfold wC
  split
  · split
    · omega
    · split
      · omega
      · split <;> omega
  · omega
theorem readLine_ok (H : TpM m T n) (hq : q ≤ n) (R : RTok m T n q) (b : tB T n q = false) (D : RepR (m (5, 0, 2)) A B) (O : OkP A) : ∃ m', fM_readLine m = some m' ∧ ResM T n m m' (lnR T n A q) := by
  have hp1 := tE_le (T := T) hq
  have n0 : nI 0 = 0 := rfl
  have n1 : ¬ nI 1 = 0 := by decide +kernel
  have h0 := O.1
  have h4 := O.2.1
  have ln := lineNow_ok H hq R b
  obtain ⟨r7, r8, r9, r10, r11, r12⟩ := id R
  have h11 := r11 b
  have wl := wC_le T n q
  unfold fM_readLine
  rw [ln, bind_s, lt_def]
  by_cases w3 : wC T n q = 3
  · obtain ⟨m1, f1, o1, g11, g12⟩ := requires_f (c := 2) h11 r8
    have f1' : fM_requires 0 2 m = some m1 := f1
    have rt : fM_requires 1 5 m1 = some m1 := requires_t (c := 5) m1
    rw [if_pos w3, if_pos rfl, lt_def, f1', bind_s, if_pos rfl]
    unfold jM_readLine_41
    rw [rt, bind_s, flt41 _ (c := 2) (by omega) (by omega) ⟨g11, g12⟩]
    unfold lnR
    rw [w3, if_neg (by omega), if_neg (by omega), if_neg (by omega)]
    exact ⟨m1, rfl, ResM.bad (by omega) (Off_mono o1 (fun r i h => sRf_r r i (sTm_r r i h))) ⟨g11, g12⟩⟩
  · have c4 : ¬ nI (wC T n q) = -4 := fun z => of_eq_false (nI_eqn (a := wC T n q) (k := 4) (by omega) (by omega) (by omega)) z
    have rt2 : fM_requires 1 2 m = some m := requires_t (c := 2) m
    rw [if_neg w3, if_neg c4, lt_def, rt2, bind_s, if_neg c4, hasRoom_ok (by omega) D O, bind_s]
    by_cases rm : (wC T n q = 0 ∧ A 0 0 < 6) ∨ (wC T n q = 1 ∧ 1 ≤ A 0 0) ∨ (wC T n q = 2 ∧ A 4 0 < 4)
    · have rt5 : fM_requires 1 5 m = some m := requires_t (c := 5) m
      obtain ⟨m1, f1, o1, R1⟩ := reads_ok H (p := tE T n q) hp1.2 r7 h11
      have s1 : Off sTm m m1 := Off_mono o1 sTm_r
      have H1 := TpM_tm s1 H
      have D1 : RepR (m1 (5, 0, 2)) A B := by
        have : m1 (5, 0, 2) = m (5, 0, 2) := funext (fun i => o1 _ i rfl)
        rw [this]; exact D
      rw [if_pos rm, if_neg n1]
      unfold jM_readLine_41
      rw [rt5, bind_s, f1, bind_s]
      obtain ⟨t7, t8, t9, t10, t11, t12⟩ := id R1
      cases b1 : tB T n (tE T n q) with
      | true =>
        have F1 := t12 b1
        rw [F1.1, if_neg (nI_neg (c := 1) (by omega) (by omega))]
        have e1 : nC T n (tE T n q) 1 20 = 1 := by unfold nC; rw [b1, if_pos rfl]
        have e2 : nC T n (tE T n q) 1 9 = 1 := by unfold nC; rw [b1, if_pos rfl]
        have e3 : nC T n (tE T n q) 0 5 = 1 := by unfold nC; rw [b1, if_pos rfl]
        refine ⟨m1, rfl, ?_⟩
        unfold lnR
        rcases rm with ⟨w, c⟩ | ⟨w, c⟩ | ⟨w, c⟩
        · rw [if_pos w, if_pos c]
          unfold plR
          rw [e1, if_pos (by omega)]
          exact ResM.bad (by omega) s1 F1
        · rw [if_neg (by omega), if_pos w, if_pos c]
          unfold seR
          rw [e2, if_pos (by omega)]
          exact ResM.bad (by omega) s1 F1
        · rw [if_neg (by omega), if_neg (by omega), if_pos w, if_pos c]
          unfold trR
          rw [e3, if_pos (by omega)]
          exact ResM.bad (by omega) s1 F1
      | false =>
        rw [t11 b1, if_pos (show nI 0 ≤ (0 : Int32) by decide +kernel)]
        rcases rm with ⟨w, c⟩ | ⟨w, c⟩ | ⟨w, c⟩
        · have el : lnR T n A q = plR T n A (tE T n q) := by unfold lnR; rw [if_pos w, if_pos c]
          rw [el, w, if_pos n0]
          obtain ⟨m2, f2, r2⟩ := readPlace_ok H1 hp1.2 R1 D1 O c
          exact ⟨m2, f2, ResM.tr s1 r2⟩
        · have el : lnR T n A q = seR T n A (tE T n q) := by unfold lnR; rw [if_neg (by omega), if_pos w, if_pos c]
          rw [el, w, if_neg n1, if_neg (show ¬ nI 1 = (2 : Int32) by decide +kernel)]
          obtain ⟨m2, f2, r2⟩ := readSection_ok H1 hp1.2 R1 D1 O c
          exact ⟨m2, f2, ResM.tr s1 r2⟩
        · have el : lnR T n A q = trR T n A (tE T n q) := by unfold lnR; rw [if_neg (by omega), if_neg (by omega), if_pos w, if_pos c]
          rw [el, w, if_neg (show ¬ nI 2 = (0 : Int32) by decide +kernel), if_pos (show nI 2 = (2 : Int32) from rfl)]
          obtain ⟨m2, f2, r2⟩ := readTrain_ok H1 hp1.2 R1 D1 O c
          exact ⟨m2, f2, ResM.tr s1 r2⟩
    · obtain ⟨m1, f1, o1, g11, g12⟩ := requires_f (c := 5) h11 r8
      have f1' : fM_requires 0 5 m = some m1 := f1
      rw [if_neg rm, if_pos n0]
      unfold jM_readLine_41
      rw [f1', bind_s, flt41 _ (c := 5) (by omega) (by omega) ⟨g11, g12⟩]
      refine ⟨m1, rfl, ?_⟩
      have rb : ResM T n m m1 (5, tS T n q, 0, A) := ResM.bad (by omega) (Off_mono o1 (fun r i h => sRf_r r i (sTm_r r i h))) ⟨g11, g12⟩
      unfold lnR
      by_cases w0 : wC T n q = 0
      · rw [if_pos w0, if_neg (fun c => rm (Or.inl ⟨w0, c⟩))]; exact rb
      · rw [if_neg w0]
        by_cases w1 : wC T n q = 1
        · rw [if_pos w1, if_neg (fun c => rm (Or.inr (Or.inl ⟨w1, c⟩)))]; exact rb
        · have w2 : wC T n q = 2 := by omega
          rw [if_neg w1, if_pos w2, if_neg (fun c => rm (Or.inr (Or.inr ⟨w2, c⟩)))]; exact rb
end Parse
section Parse2
variable {μ : Mem} {T : Nat → Nat} {n : Nat}
theorem stP_okM (H : TpM μ T n) : ∀ {i : Nat}, (∀ j, j < i → lnOk T n j) → OkP (stP T n i).1 ∧ i ≤ (stP T n i).2 ∧ (stP T n i).2 ≤ n := by
  have H' : TpC (fun r i => if r = (2, 0, 0) then nI n else nI (T i)) T n := by
    refine ⟨H.1, ?_, fun i hi => ⟨?_, (H.2.2 i hi).2⟩⟩
    · show (if ((2, 0, 0) : Rf) = (2, 0, 0) then nI n else nI (T 1)) = nI n
      rw [if_pos rfl]
    · show (if ((2, 0, 1) : Rf) = (2, 0, 0) then nI n else nI (T i)) = nI (T i)
      rw [if_neg (by simp)]
  intro i h
  exact stP_ok H' h
theorem lnOk_le (H : TpM μ T n) {i : Nat} (h : ∀ j, j < i → lnOk T n j) : i ≤ 160 := by
  have a := stP_okM H h
  have := H.1
  omega
/-- the loop over the lines -/
theorem parse_ok (H : TpM μ T n) {m : Mem} (o : Off sTm μ m) (R0 : RTok m T n 0) (D0 : RepR (m (5, 0, 2)) zA (fun _ _ => 0)) (x6 : Int32) : ∃ M a m', lz11 (bM_text_38 x6) FU (nI 0) m = jM_text_62 x6 a m' ∧ Off sTm μ m' ∧ TxM T n M ∧ M ≤ 160 ∧ ((txR T n M).1 = 0 → a = nI M ∧ m' (5, 0, 0) 8 = nI n ∧ m' (5, 0, 0) 11 = nI 0 ∧ ∃ B, RepR (m' (5, 0, 2)) (stP T n M).1 B) ∧ ((txR T n M).1 ≠ 0 → FlM m' (txR T n M).1 (txR T n M).2) ∧ (txR T n M).1 < 2 ^ 31 := by
  have n0 : nI 0 = 0 := rfl
  have h160 := H.1
  refine lz11_m (B := bM_text_38 x6) (fun w => ∃ M a m', w = jM_text_62 x6 a m' ∧ Off sTm μ m' ∧ TxM T n M ∧ M ≤ 160 ∧ ((txR T n M).1 = 0 → a = nI M ∧ m' (5, 0, 0) 8 = nI n ∧ m' (5, 0, 0) 11 = nI 0 ∧ ∃ B, RepR (m' (5, 0, 2)) (stP T n M).1 B) ∧ ((txR T n M).1 ≠ 0 → FlM m' (txR T n M).1 (txR T n M).2) ∧ (txR T n M).1 < 2 ^ 31) (fun a m => Off sTm μ m ∧ ((∃ i B, a = nI i ∧ (∀ j, j < i → lnOk T n j) ∧ RTok m T n (stP T n i).2 ∧ RepR (m (5, 0, 2)) (stP T n i).1 B) ∨ (∃ M, TxM T n M ∧ (txR T n M).1 ≠ 0 ∧ (txR T n M).1 < 2 ^ 31 ∧ FlM m (txR T n M).1 (txR T n M).2))) (fun a m => if m (5, 0, 0) 11 = nI 0 then 500 - ix a else 0) ?_ FU _ _ ⟨o, Or.inl ⟨0, fun _ _ => 0, rfl, fun j hj => absurd hj (by omega), R0, D0⟩⟩ (by split <;> exact FU_gt (by omega))
  rintro sf a m ⟨o1, ⟨i, B, rfl, v, R, D⟩ | ⟨M, t1, t2, t3, F⟩⟩
  · obtain ⟨Oi, pi, pn⟩ := stP_okM H v
    have i160 := lnOk_le H v
    have H1 := TpM_tm o1 H
    have kl := tK_le (T := T) (n := n) (p := (stP T n i).2)
    obtain ⟨r7, r8, r9, r10, r11, r12⟩ := id R
    unfold bM_text_38
    cases b : tB T n (stP T n i).2 with
    | true =>
      right
      have er : txR T n i = (1, tS T n (stP T n i).2) := by unfold txR; rw [b, if_pos rfl]
      have F := r12 b
      rw [F.1, if_neg (nI_nz0 (c := 1) (by omega) (by omega))]
      refine ⟨i, _, m, rfl, o1, ⟨v, fun z => by have := z.1; rw [b] at this; cases this⟩, i160, ?_, ?_, ?_⟩
      · rw [er]; exact fun z => absurd z (by dsimp only; omega)
      · rw [er]; exact fun _ => F
      · rw [er]; dsimp only; omega
    | false =>
      have h11 := r11 b
      have k4 := (tB_f.mp b).1
      rw [if_neg k4] at r9
      rw [h11, if_pos n0, r9]
      by_cases k0 : tK T n (stP T n i).2 = 0
      · right
        have er : txR T n i = (0, n) := by unfold txR; rw [b, if_neg (by simp), if_pos k0]
        have sn := (tK_0 (T := T) pn).mp k0
        rw [k0, if_pos n0]
        refine ⟨i, _, m, rfl, o1, ⟨v, fun z => z.2.1 k0⟩, i160, ?_, ?_, ?_⟩
        · exact fun _ => ⟨rfl, by rw [r8, sn], h11, B, D⟩
        · rw [er]; exact fun z => absurd rfl z
        · rw [er]; dsimp only; omega
      · left
        have nk : ¬ nI (tK T n (stP T n i).2) = 0 := nI_nz0 (by omega) (by omega)
        obtain ⟨m1, e1, r1, r2, r3⟩ := readLine_ok H1 pn R b D Oi
        have er : txR T n i = ((lnR T n (stP T n i).1 (stP T n i).2).1, (lnR T n (stP T n i).1 (stP T n i).2).2.1) := by
          unfold txR; rw [b, if_neg (by simp), if_neg k0]
        rw [if_neg nk, e1, bind_s, nI_s1, lt_def]
        by_cases z : (lnR T n (stP T n i).1 (stP T n i).2).1 = 0
        · obtain ⟨q1, B', q2⟩ := r2 z
          have v2 : ∀ j, j < i + 1 → lnOk T n j := fun j hj => by
            by_cases e : j = i
            · subst e; exact ⟨b, k0, z⟩
            · exact v j (by omega)
          have i161 := lnOk_le H v2
          refine ⟨nI (i + 1), m1, ⟨Off_trans o1 r1, Or.inl ⟨i + 1, B', rfl, v2, q1, q2⟩⟩, ?_, rfl⟩
          have e500 : (if nI 0 = nI 0 then 500 - ix (nI i) else 0) = 500 - i := by rw [if_pos rfl, ix_n (by omega)]
          rw [e500]
          split
          · rw [ix_n (by omega)]; omega
          · omega
        · have F1 := r3 z
          have bnd : (lnR T n (stP T n i).1 (stP T n i).2).1 < 2 ^ 31 := by
            unfold lnR plR seR trR
            have c1 := nC_le T n
            have c2 := gC_le T n
            repeat' split
            all_goals (first | (exact Nat.lt_of_le_of_lt (c1 _ _ _) (by omega)) | (exact Nat.lt_of_le_of_lt (c2 _) (by omega)) | (dsimp only; omega))
          refine ⟨nI (i + 1), m1, ⟨Off_trans o1 r1, Or.inr ⟨i, ⟨v, fun w => z w.2.2⟩, by rw [er]; exact z, by rw [er]; exact bnd, by rw [er]; exact F1⟩⟩, ?_, rfl⟩
          have e500 : (if nI 0 = nI 0 then 500 - ix (nI i) else 0) = 500 - i := by rw [if_pos rfl, ix_n (by omega)]
          rw [e500, F1.1, if_neg (fun w => by have := (nI_eq bnd (by omega)).mp w; omega)]
          omega
  · right
    unfold bM_text_38
    rw [F.1, if_neg (nI_nz0 (by omega) t3)]
    exact ⟨M, _, m, rfl, o1, t1, lnOk_le H t1.1, fun z => absurd z t2, fun _ => F, t3⟩
end Parse2
