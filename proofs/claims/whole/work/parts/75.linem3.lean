section LineM3
variable {m : Mem} {T : Nat → Nat} {n p q : Nat} {A : Ab} {B : Nat → Nat → Nat}
theorem readTrain_eq {m1 m2 m3 : Mem} {N a b d : Nat} (hN : N < 4) (n1 : m (5, 0, 2) 1 = nI N) (e1 : fM_readNumber (nI 0) (nI 5) (-nI 4) m = some (nI a, m1)) (e2 : fM_readNumber (nI 0) (nI 5) (nI a) (wr m1 (5, 0, 2) (34 + 6 * N) (nI a)) = some (nI b, m2)) (e3 : fM_readNumber (nI 1) (nI 20) (-nI 4) (wr m2 (5, 0, 2) (34 + 6 * N + 1) (nI b)) = some (nI d, m3)) (f0 : m3 (5, 0, 2) (34 + 6 * N) = nI a) (f1 : m3 (5, 0, 2) 1 = nI N) : fM_readTrain m = some (wr (wr (wr (wr (wr m3 (5, 0, 2) (34 + 6 * N + 2) (nI d)) (5, 0, 2) (34 + 6 * N + 3) (nI a)) (5, 0, 2) (34 + 6 * N + 4) (nI 0)) (5, 0, 2) (34 + 6 * N + 5) (-nI 4)) (5, 0, 2) 1 (nI (N + 1))) := by
  have t0 : wr m3 (5, 0, 2) (34 + 6 * N + 2) (nI d) (5, 0, 2) (34 + 6 * N) = nI a := by rw [wr_off _ _ (by simp)]; exact f0
  have t1 : wr (wr (wr (wr m3 (5, 0, 2) (34 + 6 * N + 2) (nI d)) (5, 0, 2) (34 + 6 * N + 3) (nI a)) (5, 0, 2) (34 + 6 * N + 4) (nI 0)) (5, 0, 2) (34 + 6 * N + 5) (-nI 4) (5, 0, 2) 1 = nI N := by
    rw [wr_off _ _ (by simp <;> omega), wr_off _ _ (by simp <;> omega), wr_off _ _ (by simp <;> omega), wr_off _ _ (by simp <;> omega)]; exact f1
  unfold fM_readTrain
  simp (disch := omega) only [lit_0, lit_1, lit_2, lit_3, lit_4, lit_5, lit_6, lit_7, lit_8, lit_9, lit_10, lit_11, lit_12, lit_13, lit_14, lit_15, lit_16, lit_17, lit_18, lit_19, lit_20, lit_23, lit_24, lit_31, lit_32, lit_34, lit_36, lit_40, lit_48, lit_49, lit_57, lit_58, lit_59, lit_60, lit_64, lit_96, lit_97, lit_99, lit_101, lit_105, lit_108, lit_110, lit_111, lit_112, lit_114, lit_115, lit_116, lit_122, lit_127, lit_160, lit_216, lit_235, lit_238, lit_343, lit_476, lit_1296, lit_2000, lit_2401, lt_def, bind_s, gd_d, ix_n, inb_n, nI_add, pk_mul, pk_sub, nI_leI, nI_ltI, nI_eq, nI_ltn, nI_eqn, nI_eqn2, if_pos, if_neg, if_true, if_false, nI_addm1, n1, e1, e2, e3, wr_at, Nat.add_zero, t0, t1]
theorem m4_eq : (-4 : Int32) = -nI 4 := rfl
theorem readTrain_ok (H : TpM m T n) (hq : q ≤ n) (R : RTok m T n q) (D : RepR (m (5, 0, 2)) A B) (O : OkP A) (h4 : A 4 0 < 4) : ∃ m', Option.bind (fM_readTrain m) (fun m20 => jM_readLine_108 m20) = some m' ∧ ResM T n m m' (trR T n A q) := by
  have hp1 := tE_le (T := T) hq
  have hp2 := tE_le (T := T) hp1.2
  have hp3 := tE_le (T := T) hp2.2
  have n1 := (D.n : m (5, 0, 2) 1 = nI (A 4 0))
  have fail : ∀ {m1 m2 m3 : Mem} {a b d c s e : Nat} {A' : Ab}, fM_readNumber (nI 0) (nI 5) (-nI 4) m = some (nI a, m1) → fM_readNumber (nI 0) (nI 5) (nI a) (wr m1 (5, 0, 2) (34 + 6 * A 4 0) (nI a)) = some (nI b, m2) → fM_readNumber (nI 1) (nI 20) (-nI 4) (wr m2 (5, 0, 2) (34 + 6 * A 4 0 + 1) (nI b)) = some (nI d, m3) → m3 (5, 0, 2) (34 + 6 * A 4 0) = nI a → m3 (5, 0, 2) 1 = nI (A 4 0) → Off sTm m m3 → FlM m3 c s → 0 < c → c < 2 ^ 31 → ∃ m', Option.bind (fM_readTrain m) (fun m20 => jM_readLine_108 m20) = some m' ∧ ResM T n m m' (c, s, e, A') := by
    intro m1 m2 m3 a b d c s e A' e1 e2 e3 f0 f1 om F hc hc2
    rw [readTrain_eq h4 n1 e1 e2 e3 f0 f1, bind_s]
    have o4 : Off sDr m3 (wr (wr (wr (wr (wr m3 (5, 0, 2) (34 + 6 * A 4 0 + 2) (nI d)) (5, 0, 2) (34 + 6 * A 4 0 + 3) (nI a)) (5, 0, 2) (34 + 6 * A 4 0 + 4) (nI 0)) (5, 0, 2) (34 + 6 * A 4 0 + 5) (-nI 4)) (5, 0, 2) 1 (nI (A 4 0 + 1))) := Off_wr (Off_wr (Off_wr (Off_wr (Off_wr (Off_refl _ _) rfl) rfl) rfl) rfl) rfl
    have F4 := FlM_off o4 rfl rfl F
    rw [finL_flt hc hc2 F4]
    exact ⟨_, rfl, ResM.bad (by omega) (Off_trans om (Off_mono o4 sTm_d)) F4⟩
  obtain ⟨m1, e1, o1, a1, a2⟩ := readNumber_ok H hq R (lo := 0) (hi := 5) (by omega) (by omega) (-4)
  rw [rC_m4 H hq, m4_eq] at e1
  rw [rC_m4 H hq] at a1 a2
  unfold trR
  by_cases z1 : nC T n q 0 5 = 0
  rotate_left
  · rw [if_pos z1]
    rw [if_neg z1] at e1
    have cl := nC_le T n q 0 5
    have F1 := a2 z1
    have o2 : Off sDr m1 (wr m1 (5, 0, 2) (34 + 6 * A 4 0) (nI 0)) := Off_wr (Off_refl _ _) rfl
    have F2 := FlM_off o2 rfl rfl F1
    have o3 : Off sDr (wr m1 (5, 0, 2) (34 + 6 * A 4 0) (nI 0)) (wr (wr m1 (5, 0, 2) (34 + 6 * A 4 0) (nI 0)) (5, 0, 2) (34 + 6 * A 4 0 + 1) (nI 0)) := Off_wr (Off_refl _ _) rfl
    have F3 := FlM_off o3 rfl rfl F2
    refine fail e1 (readNumber_flt _ _ _ (by omega) (by omega) F2) (readNumber_flt _ _ _ (by omega) (by omega) F3) ?_ ?_ (Off_trans (Off_mono o1 sTm_r) (Off_mono (Off_trans o2 o3) sTm_d)) F3 (by omega) (by omega)
    · rw [wr_off _ _ (by simp), wr_at]
    · rw [wr_off _ _ (by simp <;> omega), wr_off _ _ (by simp <;> omega), o1 _ _ rfl]; exact n1
  have nz1 := nC_0 z1
  rw [if_pos z1] at e1
  rw [if_neg (fun w => w z1)]
  generalize em2 : wr m1 (5, 0, 2) (34 + 6 * A 4 0) (nI (tV T n q)) = m2
  have o2 : Off sDr m1 m2 := by rw [← em2]; exact Off_wr (Off_refl _ _) rfl
  have s2 : Off sTm m m2 := Off_trans (Off_mono o1 sTm_r) (Off_mono o2 sTm_d)
  have R2 : RTok m2 T n (tE T n q) := RTok_off o2 (fun _ => rfl) (a1 z1)
  have H2 := TpM_tm s2 H
  have c2 : m2 (5, 0, 2) (34 + 6 * A 4 0) = nI (tV T n q) := by rw [← em2, wr_at]
  have x2 : ∀ x, x ≠ 34 + 6 * A 4 0 → m2 (5, 0, 2) x = m (5, 0, 2) x := fun x hx => by rw [← em2, wr_off _ _ (by simp <;> omega)]; exact o1 _ _ rfl
  obtain ⟨m3, e2, o3, a3, a4⟩ := readNumber_ok H2 hp1.2 R2 (lo := 0) (hi := 5) (by omega) (by omega) (nI (tV T n q))
  have er2 : rC T n (tE T n q) 0 5 (nI (tV T n q)) = if nC T n (tE T n q) 0 5 ≠ 0 then nC T n (tE T n q) 0 5 else if tV T n (tE T n q) = tV T n q then 4 else 0 := by
    unfold rC
    by_cases w : nC T n (tE T n q) 0 5 = 0
    · have nw := nC_0 w
      rw [if_neg (fun y => y w)]
      by_cases y : tV T n (tE T n q) = tV T n q
      · rw [if_pos y, if_pos (by rw [y]), if_neg (fun v => v w)]
      · rw [if_neg y, if_neg (fun z => y ((nI_eq (by omega) (by omega)).mp z)), if_neg (fun v => v w)]
    · rw [if_pos w, if_pos w]
  have cl2 := nC_le T n (tE T n q) 0 5
  by_cases z2 : rC T n (tE T n q) 0 5 (nI (tV T n q)) = 0
  rotate_left
  · rw [if_neg z2] at e2
    have F3 := a4 z2
    have o4 : Off sDr m3 (wr m3 (5, 0, 2) (34 + 6 * A 4 0 + 1) (nI 0)) := Off_wr (Off_refl _ _) rfl
    have F4 := FlM_off o4 rfl rfl F3
    have rb : rC T n (tE T n q) 0 5 (nI (tV T n q)) < 2 ^ 31 := by
      rw [er2]; split
      · omega
      · split <;> omega
    have key : ∀ {e : Nat} {A' : Ab}, ∃ m', Option.bind (fM_readTrain m) (fun m20 => jM_readLine_108 m20) = some m' ∧ ResM T n m m' (rC T n (tE T n q) 0 5 (nI (tV T n q)), tS T n (tE T n q), e, A') := by
      intro e A'
      refine fail e1 (by rw [em2]; exact e2) (readNumber_flt _ _ _ (by omega) rb F4) ?_ ?_ (Off_trans s2 (Off_trans (Off_mono o3 sTm_r) (Off_mono o4 sTm_d))) F4 (by omega) rb
      · rw [wr_off _ _ (by simp), o3 _ _ rfl]; exact c2
      · rw [wr_off _ _ (by simp <;> omega), o3 _ _ rfl, x2 1 (by omega)]; exact n1
    rw [er2] at key z2
    by_cases w : nC T n (tE T n q) 0 5 = 0
    · rw [if_neg (fun y => y w)] at key z2
      rw [if_neg (fun y => y w)]
      by_cases y : tV T n (tE T n q) = tV T n q
      · rw [if_pos y] at key
        rw [if_pos y]
        exact key
      · rw [if_neg y] at z2; exact absurd rfl z2
    · rw [if_pos w] at key
      rw [if_pos w]
      exact key
  have w2 : nC T n (tE T n q) 0 5 = 0 := by
    rw [er2] at z2
    by_cases w : nC T n (tE T n q) 0 5 = 0
    · exact w
    · rw [if_pos w] at z2; exact z2
  have y2 : tV T n (tE T n q) ≠ tV T n q := fun y => by
    rw [er2, if_neg (fun w => w w2), if_pos y] at z2; omega
  have nz2 := nC_0 w2
  rw [if_pos z2] at e2
  rw [if_neg (fun w => w w2), if_neg y2]
  generalize em4 : wr m3 (5, 0, 2) (34 + 6 * A 4 0 + 1) (nI (tV T n (tE T n q))) = m4
  have o4 : Off sDr m3 m4 := by rw [← em4]; exact Off_wr (Off_refl _ _) rfl
  have s4 : Off sTm m m4 := Off_trans s2 (Off_trans (Off_mono o3 sTm_r) (Off_mono o4 sTm_d))
  have R4 : RTok m4 T n (tE T n (tE T n q)) := RTok_off o4 (fun _ => rfl) (a3 z2)
  have H4 := TpM_tm s4 H
  have c4 : m4 (5, 0, 2) (34 + 6 * A 4 0) = nI (tV T n q) := by rw [← em4, wr_off _ _ (by simp), o3 _ _ rfl]; exact c2
  have c41 : m4 (5, 0, 2) (34 + 6 * A 4 0 + 1) = nI (tV T n (tE T n q)) := by rw [← em4, wr_at]
  have x4 : ∀ x, ¬ (34 + 6 * A 4 0 ≤ x ∧ x ≤ 34 + 6 * A 4 0 + 5) → m4 (5, 0, 2) x = m (5, 0, 2) x := fun x hx => by rw [← em4, wr_off _ _ (by simp <;> omega), o3 _ _ rfl]; exact x2 x (by omega)
  obtain ⟨m5, e3, o5, a5, a6⟩ := readNumber_ok H4 hp2.2 R4 (lo := 1) (hi := 20) (by omega) (by omega) (-4)
  rw [rC_m4 H4 hp2.2, m4_eq] at e3
  rw [rC_m4 H4 hp2.2] at a5 a6
  have s5 : Off sTm m m5 := Off_trans s4 (Off_mono o5 sTm_r)
  have c5 : m5 (5, 0, 2) (34 + 6 * A 4 0) = nI (tV T n q) := (o5 _ _ rfl).trans c4
  have c51 : m5 (5, 0, 2) (34 + 6 * A 4 0 + 1) = nI (tV T n (tE T n q)) := (o5 _ _ rfl).trans c41
  have x5 : ∀ x, ¬ (34 + 6 * A 4 0 ≤ x ∧ x ≤ 34 + 6 * A 4 0 + 5) → m5 (5, 0, 2) x = m (5, 0, 2) x := fun x hx => (o5 _ _ rfl).trans (x4 x hx)
  have n5 : m5 (5, 0, 2) 1 = nI (A 4 0) := (x5 1 (by omega)).trans n1
  by_cases z3 : nC T n (tE T n (tE T n q)) 1 20 = 0
  rotate_left
  · rw [if_pos z3]
    rw [if_neg z3] at e3
    have cl := nC_le T n (tE T n (tE T n q)) 1 20
    exact fail e1 (by rw [em2]; exact e2) (by rw [em4]; exact e3) c5 n5 s5 (a6 z3) (by omega) (by omega)
  rw [if_pos z3] at e3
  rw [if_neg (fun w => w z3)]
  rw [readTrain_eq h4 n1 e1 (by rw [em2]; exact e2) (by rw [em4]; exact e3) c5 n5, bind_s]
  generalize em6 : wr (wr (wr (wr (wr m5 (5, 0, 2) (34 + 6 * A 4 0 + 2) (nI (tV T n (tE T n (tE T n q))))) (5, 0, 2) (34 + 6 * A 4 0 + 3) (nI (tV T n q))) (5, 0, 2) (34 + 6 * A 4 0 + 4) (nI 0)) (5, 0, 2) (34 + 6 * A 4 0 + 5) (-nI 4)) (5, 0, 2) 1 (nI (A 4 0 + 1)) = m6
  have o6 : Off sDr m5 m6 := by rw [← em6]; exact Off_wr (Off_wr (Off_wr (Off_wr (Off_wr (Off_refl _ _) rfl) rfl) rfl) rfl) rfl
  have s6 : Off sTm m m6 := Off_trans s5 (Off_mono o6 sTm_d)
  have R6 : RTok m6 T n (tE T n (tE T n (tE T n q))) := RTok_off o6 (fun _ => rfl) (a5 z3)
  have D6 : RepR (m6 (5, 0, 2)) (addA A (tV T n q) (tV T n (tE T n q)) (tV T n (tE T n (tE T n q)))) B := by
    refine RepR_add D O h4 ?_ ?_ ?_ ?_ ?_ ?_ ?_ (fun x h1 h2 => ?_)
    · rw [← em6, wr_at]
    · rw [← em6, Nat.add_zero, wr_off _ _ (by simp <;> omega), wr_off _ _ (by simp), wr_off _ _ (by simp), wr_off _ _ (by simp), wr_off _ _ (by simp)]; exact c5
    · rw [← em6, wr_off _ _ (by simp <;> omega), wr_off _ _ (by simp), wr_off _ _ (by simp), wr_off _ _ (by simp), wr_off _ _ (by simp)]; exact c51
    · rw [← em6, wr_off _ _ (by simp <;> omega), wr_off _ _ (by simp), wr_off _ _ (by simp), wr_off _ _ (by simp), wr_at]
    · rw [← em6, wr_off _ _ (by simp <;> omega), wr_off _ _ (by simp), wr_off _ _ (by simp), wr_at]
    · rw [← em6, wr_off _ _ (by simp <;> omega), wr_off _ _ (by simp), wr_at]
    · rw [← em6, wr_off _ _ (by simp <;> omega), wr_at]; rfl
    · rw [← em6, wr_off _ _ (by simp <;> omega), wr_off _ _ (by simp <;> omega), wr_off _ _ (by simp <;> omega), wr_off _ _ (by simp <;> omega), wr_off _ _ (by simp <;> omega)]; exact x5 x h2
  obtain ⟨m7, e7, o7, v1, v2⟩ := finL_ok (TpM_tm s6 H) hp3.2 R6
  have D7 : RepR (m7 (5, 0, 2)) (addA A (tV T n q) (tV T n (tE T n q)) (tV T n (tE T n (tE T n q)))) B := by
    have : m7 (5, 0, 2) = m6 (5, 0, 2) := funext (fun i => o7 _ i rfl)
    rw [this]; exact D6
  refine ⟨m7, e7, ?_⟩
  by_cases z4 : gC T n (tE T n (tE T n (tE T n q))) = 0
  · rw [if_neg (fun w => w z4)]
    exact ResM.good (Off_trans s6 (Off_mono o7 sTm_r)) (v1 z4) D7
  · rw [if_pos z4]
    exact ResM.bad z4 (Off_trans s6 (Off_mono o7 sTm_r)) (v2 z4)
/-! the NAME that begins a line -/
theorem is_ok (H : TpM m T n) (hq : q ≤ n) (R : RTok m T n q) (b : tB T n q = false) {l f x y z : Nat} (hl : f + 2 < l) (hl7 : l ≤ 7) (hx : x < 2 ^ 31) (hy : y < 2 ^ 31) (hz : z < 2 ^ 31) : fM_is (nI l) (nI f) (nI x) (nI y) (nI z) m = some (nI (if tK T n q = 1 ∧ tE T n q = tS T n q + l ∧ T (tS T n q + f) = x ∧ T (tS T n q + f + 1) = y ∧ T (tS T n q + f + 2) = z then 1 else 0)) := by
  have h160 := H.1
  have kl := tK_le (T := T) (n := n) (p := q)
  obtain ⟨r7, r8, r9, r10, r11, r12⟩ := R
  have k4 := (tB_f.mp b).1
  rw [if_neg k4] at r9
  unfold fM_is
  rw [r9]
  by_cases k1 : tK T n q = 1
  · have hE := tE_b (T := T) hq (by omega)
    rw [if_pos (show nI (tK T n q) = 1 by rw [k1]; rfl), r7, r8, pk_sub (by omega)]
    by_cases e : tE T n q = tS T n q + l
    · have e1 : nI (tE T n q - tS T n q) = nI l := by congr 1; omega
      have b0 := byteAt_lt H (i := tS T n q + f) (by omega)
      have b1 := byteAt_lt H (i := tS T n q + f + 1) (by omega)
      have b2 := byteAt_lt H (i := tS T n q + f + 2) (by omega)
      have t0 := (H.2.2 (tS T n q + f) (by omega)).2
      have t1 := (H.2.2 (tS T n q + f + 1) (by omega)).2
      have t2 := (H.2.2 (tS T n q + f + 2) (by omega)).2
      rw [if_pos e1, nI_add, nI_a1, nI_a2, b0, bind_s, b1, b2]
      by_cases q0 : T (tS T n q + f) = x
      · by_cases q1 : T (tS T n q + f + 1) = y
        · by_cases q2 : T (tS T n q + f + 2) = z
          · rw [if_pos (by rw [q0]), bind_s, if_pos (by rw [q1]), bind_s, if_pos (by rw [q2]), if_pos ⟨k1, e, q0, q1, q2⟩]; rfl
          · rw [if_pos (by rw [q0]), bind_s, if_pos (by rw [q1]), bind_s, if_neg (fun w => q2 ((nI_eq (by omega) hz).mp w)), if_neg (fun w => q2 w.2.2.2.2)]; rfl
        · rw [if_pos (by rw [q0]), bind_s, if_neg (fun w => q1 ((nI_eq (by omega) hy).mp w)), if_neg (fun w => q1 w.2.2.2.1)]; rfl
      · rw [if_neg (fun w => q0 ((nI_eq (by omega) hx).mp w)), if_neg (fun w => q0 w.2.2.1)]; rfl
    · rw [if_neg (fun w => e (by have := (nI_eq (by omega) (by omega)).mp w; omega)), if_neg (fun w => e w.2.1)]; rfl
  · have c1 : ¬ nI (tK T n q) = 1 := fun w => k1 ((nI_eq (b := 1) (by omega) (by omega)).mp w)
    rw [if_neg c1, if_neg (fun w => k1 w.1)]; rfl
theorem isW_0 (s e : Nat) : isW T s e 0 = true ↔ e = s + 5 ∧ T (s + 0) = 112 ∧ T (s + 0 + 1) = 108 ∧ T (s + 0 + 2) = 97 ∧ T (s + 2) = 97 ∧ T (s + 2 + 1) = 99 ∧ T (s + 2 + 2) = 101 := by
  unfold isW
  rw [Bool.and_eq_true, decide_eq_true_eq, decide_eq_true_eq]
  refine ⟨fun h => ⟨h.1, h.2 0 (by decide), h.2 1 (by decide), h.2 2 (by decide), h.2 2 (by decide), h.2 3 (by decide), h.2 4 (by decide)⟩, fun h => ⟨h.1, fun i hi => ?_⟩⟩
  have : i = 0 ∨ i = 1 ∨ i = 2 ∨ i = 3 ∨ i = 4 := by have : wlen 0 = 5 := rfl; omega
  rcases this with rfl | rfl | rfl | rfl | rfl
  · exact h.2.1
  · exact h.2.2.1
  · exact h.2.2.2.1
  · exact h.2.2.2.2.2.1
  · exact h.2.2.2.2.2.2
theorem isW_2 (s e : Nat) : isW T s e 2 = true ↔ e = s + 5 ∧ T (s + 0) = 116 ∧ T (s + 0 + 1) = 114 ∧ T (s + 0 + 2) = 97 ∧ T (s + 2) = 97 ∧ T (s + 2 + 1) = 105 ∧ T (s + 2 + 2) = 110 := by
  unfold isW
  rw [Bool.and_eq_true, decide_eq_true_eq, decide_eq_true_eq]
  refine ⟨fun h => ⟨h.1, h.2 0 (by decide), h.2 1 (by decide), h.2 2 (by decide), h.2 2 (by decide), h.2 3 (by decide), h.2 4 (by decide)⟩, fun h => ⟨h.1, fun i hi => ?_⟩⟩
  have : i = 0 ∨ i = 1 ∨ i = 2 ∨ i = 3 ∨ i = 4 := by have : wlen 2 = 5 := rfl; omega
  rcases this with rfl | rfl | rfl | rfl | rfl
  · exact h.2.1
  · exact h.2.2.1
  · exact h.2.2.2.1
  · exact h.2.2.2.2.2.1
  · exact h.2.2.2.2.2.2
theorem isW_1 (s e : Nat) : isW T s e 1 = true ↔ e = s + 7 ∧ T (s + 0) = 115 ∧ T (s + 0 + 1) = 101 ∧ T (s + 0 + 2) = 99 ∧ T (s + 2) = 99 ∧ T (s + 2 + 1) = 116 ∧ T (s + 2 + 2) = 105 ∧ T (s + 4) = 105 ∧ T (s + 4 + 1) = 111 ∧ T (s + 4 + 2) = 110 := by
  unfold isW
  rw [Bool.and_eq_true, decide_eq_true_eq, decide_eq_true_eq]
  refine ⟨fun h => ⟨h.1, h.2 0 (by decide), h.2 1 (by decide), h.2 2 (by decide), h.2 2 (by decide), h.2 3 (by decide), h.2 4 (by decide), h.2 4 (by decide), h.2 5 (by decide), h.2 6 (by decide)⟩, fun h => ⟨h.1, fun i hi => ?_⟩⟩
  have : i = 0 ∨ i = 1 ∨ i = 2 ∨ i = 3 ∨ i = 4 ∨ i = 5 ∨ i = 6 := by have : wlen 1 = 7 := rfl; omega
  rcases this with rfl | rfl | rfl | rfl | rfl | rfl | rfl
  · exact h.2.1
  · exact h.2.2.1
  · exact h.2.2.2.1
  · exact h.2.2.2.2.2.1
  · exact h.2.2.2.2.2.2.1
  · exact h.2.2.2.2.2.2.2.2.1
  · exact h.2.2.2.2.2.2.2.2.2
theorem lineNow_ok (H : TpM m T n) (hq : q ≤ n) (R : RTok m T n q) (b : tB T n q = false) : fM_lineNow m = some (if wC T n q = 3 then -4 else nI (wC T n q)) := by
  have i0 := is_ok H hq R b (l := 5) (f := 0) (x := 112) (y := 108) (z := 97) (by omega) (by omega) (by omega) (by omega) (by omega)
  have i1 := is_ok H hq R b (l := 5) (f := 2) (x := 97) (y := 99) (z := 101) (by omega) (by omega) (by omega) (by omega) (by omega)
  have i2 := is_ok H hq R b (l := 5) (f := 0) (x := 116) (y := 114) (z := 97) (by omega) (by omega) (by omega) (by omega) (by omega)
  have i3 := is_ok H hq R b (l := 5) (f := 2) (x := 97) (y := 105) (z := 110) (by omega) (by omega) (by omega) (by omega) (by omega)
  have i4 := is_ok H hq R b (l := 7) (f := 0) (x := 115) (y := 101) (z := 99) (by omega) (by omega) (by omega) (by omega) (by omega)
  have i5 := is_ok H hq R b (l := 7) (f := 2) (x := 99) (y := 116) (z := 105) (by omega) (by omega) (by omega) (by omega) (by omega)
  have i6 := is_ok H hq R b (l := 7) (f := 4) (x := 105) (y := 111) (z := 110) (by omega) (by omega) (by omega) (by omega) (by omega)
  have n0 : nI 0 = 0 := rfl
  have n1 : ¬ nI 1 = 0 := by decide +kernel
  have two : ∀ {P Q : Prop} [Decidable P] [Decidable Q] {F G : Option Int32} {X Y : Option Int32}, F = some (nI (if P then 1 else 0)) → G = some (nI (if Q then 1 else 0)) → Option.bind F (fun x => if x = 0 then X else Option.bind G (fun y => if y = 0 then X else Y)) = if P ∧ Q then Y else X := by
    intro P Q _ _ F G X Y hF hG
    rw [hF, hG, bind_s, bind_s]
    by_cases hP : P
    · by_cases hQ : Q
      · rw [if_pos hP, if_pos hQ, if_neg n1, if_neg n1, if_pos ⟨hP, hQ⟩]
      · rw [if_pos hP, if_neg hQ, if_neg n1, if_pos n0, if_neg (fun w => hQ w.2)]
    · rw [if_neg hP, if_pos n0, if_neg (fun w => hP w.1)]
  have e1 := two (X := jM_lineNow_32 m) (Y := some 0) i0 i1
  have e2 := two (X := jM_lineNow_64 m) (Y := some 2) i2 i3
  have e3 := two (X := some (-4 : Int32)) (Y := Option.bind (fM_is 7 4 105 111 110 m) (fun x6 => if x6 = 0 then (some (-4)) else (some 1))) i4 i5
  unfold fM_lineNow
  refine Eq.trans e1 ?_
  unfold wC
  by_cases k1 : tK T n q = 1
  · rw [if_pos k1]
    by_cases w0 : isW T (tS T n q) (tE T n q) 0 = true
    · have h := (isW_0 (T := T) _ _).mp w0
      rw [if_pos w0, if_pos ⟨⟨k1, h.1, h.2.1, h.2.2.1, h.2.2.2.1⟩, k1, h.1, h.2.2.2.2.1, h.2.2.2.2.2.1, h.2.2.2.2.2.2⟩, if_neg (by omega)]; rfl
    · rw [if_neg w0, if_neg (fun z => w0 ((isW_0 (T := T) _ _).mpr ⟨z.1.2.1, z.1.2.2.1, z.1.2.2.2.1, z.1.2.2.2.2, z.2.2.2.1, z.2.2.2.2.1, z.2.2.2.2.2⟩))]
      unfold jM_lineNow_32
      refine Eq.trans e2 ?_
      by_cases w2 : isW T (tS T n q) (tE T n q) 2 = true
      · have h := (isW_2 (T := T) _ _).mp w2
        have w1 : ¬ isW T (tS T n q) (tE T n q) 1 = true := fun z => by
          have := (isW_1 (T := T) _ _).mp z
          omega
        rw [if_neg w1, if_pos w2, if_pos ⟨⟨k1, h.1, h.2.1, h.2.2.1, h.2.2.2.1⟩, k1, h.1, h.2.2.2.2.1, h.2.2.2.2.2.1, h.2.2.2.2.2.2⟩, if_neg (by omega)]; rfl
      · rw [if_neg (show ¬ ((tK T n q = 1 ∧ tE T n q = tS T n q + 5 ∧ T (tS T n q + 0) = 116 ∧ T (tS T n q + 0 + 1) = 114 ∧ T (tS T n q + 0 + 2) = 97) ∧ tK T n q = 1 ∧ tE T n q = tS T n q + 5 ∧ T (tS T n q + 2) = 97 ∧ T (tS T n q + 2 + 1) = 105 ∧ T (tS T n q + 2 + 2) = 110) from fun z => w2 ((isW_2 (T := T) _ _).mpr ⟨z.1.2.1, z.1.2.2.1, z.1.2.2.2.1, z.1.2.2.2.2, z.2.2.2.1, z.2.2.2.2.1, z.2.2.2.2.2⟩))]
        unfold jM_lineNow_64
        refine Eq.trans e3 ?_
        have i6' : fM_is 7 4 105 111 110 m = some (nI (if tK T n q = 1 ∧ tE T n q = tS T n q + 7 ∧ T (tS T n q + 4) = 105 ∧ T (tS T n q + 4 + 1) = 111 ∧ T (tS T n q + 4 + 2) = 110 then 1 else 0)) := i6
        rw [i6', bind_s, if_neg w2]
        by_cases w1 : isW T (tS T n q) (tE T n q) 1 = true
        · have h := (isW_1 (T := T) _ _).mp w1
          have cA : (tK T n q = 1 ∧ tE T n q = tS T n q + 7 ∧ T (tS T n q + 0) = 115 ∧ T (tS T n q + 0 + 1) = 101 ∧ T (tS T n q + 0 + 2) = 99) ∧ tK T n q = 1 ∧ tE T n q = tS T n q + 7 ∧ T (tS T n q + 2) = 99 ∧ T (tS T n q + 2 + 1) = 116 ∧ T (tS T n q + 2 + 2) = 105 := ⟨⟨k1, h.1, h.2.1, h.2.2.1, h.2.2.2.1⟩, k1, h.1, h.2.2.2.2.1, h.2.2.2.2.2.1, h.2.2.2.2.2.2.1⟩
          have cB : tK T n q = 1 ∧ tE T n q = tS T n q + 7 ∧ T (tS T n q + 4) = 105 ∧ T (tS T n q + 4 + 1) = 111 ∧ T (tS T n q + 4 + 2) = 110 := ⟨k1, h.1, h.2.2.2.2.2.2.2.1, h.2.2.2.2.2.2.2.2.1, h.2.2.2.2.2.2.2.2.2⟩
          rw [if_pos w1, if_pos cA, if_pos cB, if_neg n1, if_neg (by omega)]; rfl
        · rw [if_neg w1, if_pos rfl]
          by_cases c : (tK T n q = 1 ∧ tE T n q = tS T n q + 7 ∧ T (tS T n q + 0) = 115 ∧ T (tS T n q + 0 + 1) = 101 ∧ T (tS T n q + 0 + 2) = 99) ∧ tK T n q = 1 ∧ tE T n q = tS T n q + 7 ∧ T (tS T n q + 2) = 99 ∧ T (tS T n q + 2 + 1) = 116 ∧ T (tS T n q + 2 + 2) = 105
          · have cB : ¬ (tK T n q = 1 ∧ tE T n q = tS T n q + 7 ∧ T (tS T n q + 4) = 105 ∧ T (tS T n q + 4 + 1) = 111 ∧ T (tS T n q + 4 + 2) = 110) := fun z => w1 ((isW_1 (T := T) _ _).mpr ⟨c.1.2.1, c.1.2.2.1, c.1.2.2.2.1, c.1.2.2.2.2, c.2.2.2.1, c.2.2.2.2.1, c.2.2.2.2.2, z.2.2.1, z.2.2.2.1, z.2.2.2.2⟩)
            rw [if_pos c, if_neg cB, if_pos n0]
          · rw [if_neg c]
  · rw [if_neg k1, if_pos rfl, if_neg (fun z => k1 z.1.1)]
    unfold jM_lineNow_32
    refine Eq.trans e2 ?_
    rw [if_neg (fun z => k1 z.1.1)]
    unfold jM_lineNow_64
    refine Eq.trans e3 ?_
    rw [if_neg (fun z => k1 z.1.1)]
end LineM3
