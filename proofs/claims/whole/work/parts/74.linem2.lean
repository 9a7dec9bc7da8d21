/-- a place that is being told -/
def PlM (m0 m : Mem) (c i : Nat) (V : Nat → Nat) : Prop := m (5, 0, 2) c = nI i ∧ m (5, 0, 2) (c + 4) = nI 1 ∧ (∀ j, j < i → m (5, 0, 2) (c + (1 + j)) = nI (V j)) ∧ ∀ x, ¬ (c ≤ x ∧ x < c + 5) → m (5, 0, 2) x = m0 (5, 0, 2) x
section LineM2
variable {m : Mem} {T : Nat → Nat} {n p q : Nat} {A : Ab} {B : Nat → Nat → Nat}
theorem pl_flt {c s : Nat} (x : Int32) (sf : Mem → Option Mem) (hc : 0 < c) (h : c < 2 ^ 31) (F : FlM m c s) : bM_readPlace_46 x sf m = jM_readPlace_114 m := by
  unfold bM_readPlace_46
  rw [F.1, if_neg (nI_nz0 hc h)]
theorem pl_tok {m0 : Mem} {c i : Nat} {V : Nat → Nat} (sf : Mem → Option Mem) (hc : c + 5 ≤ 238) (R : RTok m T n q) (P : PlM m0 m c i V) (hi : i ≤ 3) (h : tB T n q = true ∨ tK T n q ≠ 2 ∨ i = 3) : bM_readPlace_46 (nI c) sf m = jM_readPlace_114 m := by
  have kl := tK_le (T := T) (n := n) (p := q)
  have n0 : nI 0 = 0 := rfl
  obtain ⟨r7, r8, r9, r10, r11, r12⟩ := R
  cases b : tB T n q with
  | true => exact pl_flt (c := 1) _ _ (by omega) (by omega) (r12 b)
  | false =>
    have k4 := (tB_f.mp b).1
    rw [if_neg k4] at r9
    unfold bM_readPlace_46
    rw [r11 b, if_pos n0, r9]
    by_cases k2 : tK T n q = 2
    · have i3 : i = 3 := by
        rcases h with h | h | h
        · rw [b] at h; cases h
        · exact absurd k2 h
        · exact h
      rw [k2, if_pos (show nI 2 = 2 from rfl), nI_a0, gd_in (by omega) (by omega), ix_n (by omega), P.1, i3, if_pos (show (3 : Int32) ≤ nI 3 by decide +kernel)]
    · have c2 : ¬ nI (tK T n q) = 2 := fun z => k2 ((nI_eq (b := 2) (by omega) (by omega)).mp z)
      rw [if_neg c2]
theorem pl_go {m0 : Mem} {c i : Nat} {V : Nat → Nat} (sf : Mem → Option Mem) (hc : c + 5 ≤ 238) (H : TpM m T n) (hq : q ≤ n) (R : RTok m T n q) (P : PlM m0 m c i V) (hi : i < 3) (b : tB T n q = false) (k2 : tK T n q = 2) : ∃ m', bM_readPlace_46 (nI c) sf m = sf m' ∧ Off sTm m m' ∧ (nC T n q 1 20 = 0 → RTok m' T n (tE T n q) ∧ PlM m0 m' c (i + 1) (upx V i (tV T n q))) ∧ (nC T n q 1 20 ≠ 0 → FlM m' (nC T n q 1 20) (tS T n q)) := by
  have n0 : nI 0 = 0 := rfl
  obtain ⟨m1, e1, o1, a1, a2⟩ := readNumber_ok H hq R (lo := 1) (hi := 20) (by omega) (by omega) (-4)
  rw [rC_m4 H hq] at e1 a1 a2
  have e1' : fM_readNumber 1 20 (-4) m = some (if nC T n q 1 20 = 0 then nI (tV T n q) else nI 0, m1) := e1
  obtain ⟨r7, r8, r9, r10, r11, r12⟩ := R
  have k4 := (tB_f.mp b).1
  rw [if_neg k4] at r9
  have c3 : ¬ (3 : Int32) ≤ nI i := fun z => by have := (nI_leI (a := 3) (by omega) (by omega)).mp z; omega
  unfold bM_readPlace_46
  rw [r11 b, if_pos n0, r9, k2, if_pos (show nI 2 = 2 from rfl), nI_a0, gd_in (by omega) (by omega), ix_n (by omega), P.1, if_neg c3, gd_in (by omega) (by omega), e1', bind_s, nI_a1, nI_add, gd_in (by omega) (by omega), ix_n (by omega), lt_def]
  generalize hv : (if nC T n q 1 20 = 0 then nI (tV T n q) else nI 0) = v
  show ∃ m', gd (inb (nI c) 238) (gd (inb (nI c) 238) (lt (wr (wr m1 (5, 0, 2) (c + 1 + i) v) (5, 0, 2) c ((wr m1 (5, 0, 2) (c + 1 + i) v) (5, 0, 2) c + 1)) _)) = sf m' ∧ _
  have w1 : (wr m1 (5, 0, 2) (c + 1 + i) v) (5, 0, 2) c = nI i := by
    rw [wr_off _ _ (by simp; omega), o1 _ _ rfl]; exact P.1
  rw [gd_in (by omega) (by omega), gd_in (by omega) (by omega), w1, nI_a1, lt_def]
  have o2 : Off sDr m1 (wr (wr m1 (5, 0, 2) (c + 1 + i) v) (5, 0, 2) c (nI (i + 1))) := Off_wr (Off_wr (Off_refl _ _) rfl) rfl
  refine ⟨_, rfl, Off_trans (Off_mono o1 sTm_r) (Off_mono o2 sTm_d), fun z => ⟨RTok_off o2 (fun _ => rfl) (a1 z), ?_⟩, fun z => FlM_off o2 rfl rfl (a2 z)⟩
  rw [if_pos z] at hv
  refine ⟨wr_at _ _ _ _, ?_, fun j hj => ?_, fun x hx => ?_⟩
  · rw [wr_off _ _ (by simp), wr_off _ _ (by simp; omega), o1 _ _ rfl]; exact P.2.1
  · rw [wr_off _ _ (by simp), wr_get]
    by_cases e : j = i
    · subst e
      rw [if_pos ⟨rfl, by omega⟩, upx_at, hv]
    · rw [if_neg (fun w => e (by have := w.2; omega)), upx_ne _ e, o1 _ _ rfl]
      exact P.2.2.1 j (by omega)
  · rw [wr_off _ _ (by simp; omega), wr_off _ _ (by simp; omega), o1 _ _ rfl]; exact P.2.2.2 x hx
theorem nC_gC (h2 : tB T n q = true ∨ tK T n q ≠ 2) (h3 : tK T n q ≠ 3) : nC T n q 1 20 = gC T n q ∧ gC T n q ≠ 0 := by
  unfold nC gC
  cases b : tB T n q with
  | true => simp
  | false =>
    have k2 : tK T n q ≠ 2 := by
      rcases h2 with h | h
      · rw [b] at h; cases h
      · exact h
    rw [if_neg (by simp), if_neg k2, if_neg (by simp), if_neg h3]
    exact ⟨rfl, by omega⟩
theorem j114_ok (m : Mem) : ∃ m', jM_readPlace_114 m = some m' ∧ Off sDr m m' ∧ m' (5, 0, 2) 0 = m (5, 0, 2) 0 + 1 ∧ ∀ x, x ≠ 0 → m' (5, 0, 2) x = m (5, 0, 2) x := by
  unfold jM_readPlace_114
  rw [gd0, gd0, ix0, lt_def]
  exact ⟨_, rfl, Off_wr (Off_refl _ _) rfl, wr_at _ _ _ _, fun x hx => wr_off _ _ (by simp; omega)⟩
theorem readPlace_ok (H : TpM m T n) (hq : q ≤ n) (R : RTok m T n q) (D : RepR (m (5, 0, 2)) A B) (O : OkP A) (hP : A 0 0 < 6) : ∃ m', Option.bind (fM_readPlace m) (fun m20 => jM_readLine_108 m20) = some m' ∧ ResM T n m m' (plR T n A q) := by
  have hp1 := tE_le (T := T) hq
  have hp2 := tE_le (T := T) hp1.2
  have hp3 := tE_le (T := T) hp2.2
  have t0 : TrkOk (fun _ => 0) 0 (fun _ => 0) := ⟨fun i hi => absurd hi (by omega), fun i hi => absurd hi (by omega), fun i hi => absurd hi (by omega), fun x => rfl⟩
  have g0 := PlS_0 A (fun _ => 0)
  have u : ∀ N m, lz01 (bM_readPlace_46 (nI (4 + 5 * A 0 0))) (N + 1) m = bM_readPlace_46 (nI (4 + 5 * A 0 0)) (lz01 (bM_readPlace_46 (nI (4 + 5 * A 0 0))) N) m := fun _ _ => rfl
  have eF : FU = 5996 + 1 + 1 + 1 + 1 := rfl
  obtain ⟨m1, e1, o1, a1, a2⟩ := readNumber_ok H hq R (lo := 1) (hi := 20) (by omega) (by omega) (-4)
  rw [rC_m4 H hq] at e1 a1 a2
  have e1' : fM_readNumber 1 20 (-4) m = some (if nC T n q 1 20 = 0 then nI (tV T n q) else nI 0, m1) := e1
  have n00 := (D.pl : m (5, 0, 2) 0 = nI (A 0 0))
  have ex : (4 : Int32) + 5 * nI (A 0 0) = nI (4 + 5 * A 0 0) := by
    have x4 : (4 : Int32) = nI 4 := rfl
    have x5 : (5 : Int32) = nI 5 := rfl
    rw [x4, x5, pk_mul, nI_add]
  unfold fM_readPlace
  rw [gd0, ix0, n00, ex, lt_def, e1', bind_s, nI_a1, nI_a0, nI_a4, gd_in (by omega) (by omega), ix_n (by omega), lt_def, gd_in (by omega) (by omega), ix_n (by omega), lt_def, gd_in (by omega) (by omega), ix_n (by omega), lt_def]
  generalize hv : (if nC T n q 1 20 = 0 then nI (tV T n q) else nI 0) = v
  show ∃ m', Option.bind (lz01 (bM_readPlace_46 (nI (4 + 5 * A 0 0))) FU (wr (wr (wr m1 (5, 0, 2) (4 + 5 * A 0 0 + 1) v) (5, 0, 2) (4 + 5 * A 0 0) 1) (5, 0, 2) (4 + 5 * A 0 0 + 4) 1)) _ = some m' ∧ _
  generalize e2 : wr (wr (wr m1 (5, 0, 2) (4 + 5 * A 0 0 + 1) v) (5, 0, 2) (4 + 5 * A 0 0) 1) (5, 0, 2) (4 + 5 * A 0 0 + 4) 1 = m2
  have o2 : Off sDr m1 m2 := by rw [← e2]; exact Off_wr (Off_wr (Off_wr (Off_refl _ _) rfl) rfl) rfl
  have s2 : Off sTm m m2 := Off_trans (Off_mono o1 sTm_r) (Off_mono o2 sTm_d)
  have H2 := TpM_tm s2 H
  rw [eF, u]
  have fail : ∀ {mm : Mem} {c s e : Nat} {A' : Ab}, 0 < c → c < 2 ^ 31 → Off sTm m mm → FlM mm c s → ∃ m', Option.bind (jM_readPlace_114 mm) (fun m20 => jM_readLine_108 m20) = some m' ∧ ResM T n m m' (c, s, e, A') := by
    intro mm c s e A' h1 h2 om F
    obtain ⟨m3, f1, f2, -, -⟩ := j114_ok mm
    have F3 := FlM_off f2 rfl rfl F
    rw [f1, bind_s, finL_flt h1 h2 F3]
    exact ⟨m3, rfl, ResM.bad (by omega) (Off_trans om (Off_mono f2 sTm_d)) F3⟩
  have good : ∀ {mm : Mem} {A3 : Ab} {c q' : Nat} {S V : Nat → Nat}, q' ≤ n → Off sTm m mm → RTok mm T n q' → PlM m mm (4 + 5 * A 0 0) c V → PlS A A3 c S → TrkOk S c V → c ≤ 3 → ∃ m', Option.bind (jM_readPlace_114 mm) (fun m20 => jM_readLine_108 m20) = some m' ∧ (gC T n q' = 0 → ResM T n m m' (0, 0, tE T n q', A3)) ∧ (gC T n q' ≠ 0 → ResM T n m m' (gC T n q', tS T n q', 0, A)) := by
    intro mm A3 c q' S V hq' om Rm Pm g t c3
    obtain ⟨m3, f1, f2, f3, f4⟩ := j114_ok mm
    have R3 : RTok m3 T n q' := RTok_off f2 (fun _ => rfl) Rm
    have s3 := Off_trans om (Off_mono f2 sTm_d)
    obtain ⟨m4, f5, f6, v1, v2⟩ := finL_ok (TpM_tm s3 H) hq' R3
    have s4 := Off_trans s3 (Off_mono f6 sTm_r)
    have D3 : RepR (m3 (5, 0, 2)) A3 (bpl (A 0 0) V B) := by
      refine RepR_pl D O hP g t c3 ?_ ?_ ?_ (fun i hi => ?_) (fun x h1 h2 => ?_)
      · rw [f3, Pm.2.2.2 0 (by omega), n00, nI_a1]
      · rw [f4 _ (by omega)]; exact Pm.1
      · rw [f4 _ (by omega)]; exact Pm.2.1
      · rw [f4 _ (by omega)]; exact Pm.2.2.1 i hi
      · rw [f4 _ h1]; exact Pm.2.2.2 x h2
    have D4 : RepR (m4 (5, 0, 2)) A3 (bpl (A 0 0) V B) := by
      have : m4 (5, 0, 2) = m3 (5, 0, 2) := funext (fun i => f6 _ i rfl)
      rw [this]; exact D3
    rw [f1, bind_s]
    exact ⟨m4, f5, fun z => ResM.good s4 (v1 z) D4, fun z => ResM.bad z s4 (v2 z)⟩
  have c6 : 4 + 5 * A 0 0 + 5 ≤ 238 := by omega
  unfold plR
  by_cases z1 : nC T n q 1 20 = 0
  rotate_left
  · rw [if_pos z1]
    have cl := nC_le T n q 1 20
    have F2 := FlM_off o2 rfl rfl (a2 z1)
    rw [pl_flt _ _ (by omega) (by omega) F2]
    exact fail (by omega) (by omega) s2 F2
  have nz1 := nC_0 z1
  rw [if_pos z1] at hv
  rw [if_neg (fun w => w z1)]
  have R2 : RTok m2 T n (tE T n q) := RTok_off o2 (fun _ => rfl) (a1 z1)
  have g1 := PlS_s (v := tV T n q) g0
  have t1 := TrkOk_ins t0 nz1.2.2.1 nz1.2.2.2
  have P2 : PlM m m2 (4 + 5 * A 0 0) 1 (upx (fun _ => 0) 0 (tV T n q)) := by
    refine ⟨?_, ?_, fun j hj => ?_, fun x hx => ?_⟩
    · rw [← e2, wr_off _ _ (by simp), wr_at]; rfl
    · rw [← e2, wr_at]; rfl
    · have : j = 0 := by omega
      subst this
      rw [← e2, wr_off _ _ (by simp), wr_off _ _ (by simp), wr_at, upx_at, hv]
    · rw [← e2, wr_off _ _ (by simp; omega), wr_off _ _ (by simp; omega), wr_off _ _ (by simp; omega)]; exact o1 _ _ rfl
  -- the second number
  by_cases y1 : tB T n (tE T n q) = true ∨ tK T n (tE T n q) ≠ 2
  · rw [pl_tok _ c6 R2 P2 (by omega) (by rcases y1 with y | y; exact Or.inl y; exact Or.inr (Or.inl y))]
    obtain ⟨m3, f1, f2, f3⟩ := good hp1.2 s2 R2 P2 g1 t1 (by omega)
    refine ⟨m3, f1, ?_⟩
    by_cases k3 : tK T n (tE T n q) = 3
    · rw [if_pos k3]
      refine f2 ?_
      unfold gC
      rw [tB_f.mpr (by omega), if_neg (by simp), if_pos k3]
    · have ng := nC_gC y1 k3
      rw [if_neg k3, if_pos (by rw [ng.1]; exact ng.2), ng.1]
      exact f3 ng.2
  have b1 : tB T n (tE T n q) = false := by
    cases b : tB T n (tE T n q) with
    | true => exact absurd (Or.inl b) y1
    | false => rfl
  have k21 : tK T n (tE T n q) = 2 := Decidable.byContradiction (fun w => y1 (Or.inr w))
  rw [if_neg (by omega)]
  obtain ⟨m3, e3, o3, x1, x2⟩ := pl_go (lz01 (bM_readPlace_46 (nI (4 + 5 * A 0 0))) (5996 + 1 + 1 + 1)) c6 H2 hp1.2 R2 P2 (by omega) b1 k21
  have s3 := Off_trans s2 o3
  rw [e3, u]
  by_cases z2 : nC T n (tE T n q) 1 20 = 0
  rotate_left
  · rw [if_pos z2]
    have cl := nC_le T n (tE T n q) 1 20
    rw [pl_flt _ _ (by omega) (by omega) (x2 z2)]
    exact fail (by omega) (by omega) s3 (x2 z2)
  have nz2 := nC_0 z2
  obtain ⟨R3, P3⟩ := x1 z2
  have H3 := TpM_tm s3 H
  have g2 := PlS_s (v := tV T n (tE T n q)) g1
  have t2 := TrkOk_ins t1 nz2.2.2.1 nz2.2.2.2
  rw [if_neg (fun w => w z2)]
  -- the third number
  by_cases y2 : tB T n (tE T n (tE T n q)) = true ∨ tK T n (tE T n (tE T n q)) ≠ 2
  · rw [pl_tok _ c6 R3 P3 (by omega) (by rcases y2 with y | y; exact Or.inl y; exact Or.inr (Or.inl y))]
    obtain ⟨m4, f1, f2, f3⟩ := good hp2.2 s3 R3 P3 g2 t2 (by omega)
    refine ⟨m4, f1, ?_⟩
    by_cases k3 : tK T n (tE T n (tE T n q)) = 3
    · rw [if_pos k3]
      refine f2 ?_
      unfold gC
      rw [tB_f.mpr (by omega), if_neg (by simp), if_pos k3]
    · have ng := nC_gC y2 k3
      rw [if_neg k3, if_pos (by rw [ng.1]; exact ng.2), ng.1]
      exact f3 ng.2
  have b2 : tB T n (tE T n (tE T n q)) = false := by
    cases b : tB T n (tE T n (tE T n q)) with
    | true => exact absurd (Or.inl b) y2
    | false => rfl
  have k22 : tK T n (tE T n (tE T n q)) = 2 := Decidable.byContradiction (fun w => y2 (Or.inr w))
  rw [if_neg (by omega)]
  obtain ⟨m4, e4, o4, x3, x4⟩ := pl_go (lz01 (bM_readPlace_46 (nI (4 + 5 * A 0 0))) (5996 + 1 + 1)) c6 H3 hp2.2 R3 P3 (by omega) b2 k22
  have s4 := Off_trans s3 o4
  rw [e4, u]
  by_cases z3 : nC T n (tE T n (tE T n q)) 1 20 = 0
  rotate_left
  · rw [if_pos z3]
    have cl := nC_le T n (tE T n (tE T n q)) 1 20
    rw [pl_flt _ _ (by omega) (by omega) (x4 z3)]
    exact fail (by omega) (by omega) s4 (x4 z3)
  have nz3 := nC_0 z3
  obtain ⟨R4, P4⟩ := x3 z3
  have g3 := PlS_s (v := tV T n (tE T n (tE T n q))) g2
  have t3 := TrkOk_ins t2 nz3.2.2.1 nz3.2.2.2
  rw [if_neg (fun w => w z3), pl_tok _ c6 R4 P4 (by omega) (Or.inr (Or.inr rfl))]
  obtain ⟨m5, f1, f2, f3⟩ := good hp3.2 s4 R4 P4 g3 t3 (by omega)
  refine ⟨m5, f1, ?_⟩
  by_cases z4 : gC T n (tE T n (tE T n (tE T n q))) = 0
  · rw [if_neg (fun w => w z4)]; exact f2 z4
  · rw [if_pos z4]; exact f3 z4
end LineM2
