/-! lines of the text, by the reference -/
def sTm : Rf → Nat → Bool := fun r i => r == (5, 0, 2) || sRf r i
theorem sTm_r (r : Rf) (i : Nat) (h : sTm r i = false) : sRf r i = false := by
  simp only [sTm, Bool.or_eq_false_iff] at h; exact h.2
theorem gd0 {α : Type} (a : Option α) : gd (inb 0 238) a = a := gd_t (by decide +kernel) a
theorem gd1 {α : Type} (a : Option α) : gd (inb 1 238) a = a := gd_t (by decide +kernel) a
theorem ix0 : ix 0 = 0 := by decide +kernel
theorem ix1 : ix 1 = 1 := by decide +kernel
theorem nI_a0 (a : Nat) : nI a + 0 = nI a := nI_z
theorem nI_a1 (a : Nat) : nI a + 1 = nI (a + 1) := nI_s1
theorem nI_a2 (a : Nat) : nI a + 2 = nI (a + 2) := nI_add a 2
theorem nI_a3 (a : Nat) : nI a + 3 = nI (a + 3) := nI_add a 3
theorem nI_a4 (a : Nat) : nI a + 4 = nI (a + 4) := nI_add a 4
theorem nI_a5 (a : Nat) : nI a + 5 = nI (a + 5) := nI_add a 5
def bpl (P : Nat) (V : Nat → Nat) (B : Nat → Nat → Nat) : Nat → Nat → Nat := fun p => if p = P then V else B p
theorem bpl_at (P : Nat) (V : Nat → Nat) (B : Nat → Nat → Nat) : bpl P V B P = V := if_pos rfl
theorem bpl_ne {P p : Nat} (V : Nat → Nat) (B : Nat → Nat → Nat) (h : p ≠ P) : bpl P V B p = B p := if_neg h
section RepRs
variable {st st' : Nat → Int32} {A A3 : Ab} {B : Nat → Nat → Nat}
theorem RepR_pl {c : Nat} {S V : Nat → Nat} (R : RepR st A B) (O : OkP A) (hP : A 0 0 < 6) (g : PlS A A3 c S) (t : TrkOk S c V) (c3 : c ≤ 3) (e0 : st' 0 = nI (A 0 0 + 1)) (e1 : st' (4 + 5 * A 0 0) = nI c) (e4 : st' (4 + 5 * A 0 0 + 4) = nI 1) (ei : ∀ i, i < c → st' (4 + 5 * A 0 0 + (1 + i)) = nI (V i)) (fr : ∀ x, x ≠ 0 → ¬ (4 + 5 * A 0 0 ≤ x ∧ x < 4 + 5 * A 0 0 + 5) → st' x = st x) : RepR st' A3 (bpl (A 0 0) V B) := by
  obtain ⟨r1, r2, r3, r4, r5, r6, r7⟩ := R
  obtain ⟨g0, g1, g2, g3, g4, g5, g6, g7⟩ := g
  have o : ∀ f, 4 ≤ f → A3 f = A f := g7
  have h4 := O.2.1
  have h12 := O.2.2.2.1
  refine ⟨by rw [g0]; exact e0, by rw [fr 1 (by omega) (by omega), o 4 (by omega)]; exact r2, by rw [fr 2 (by omega) (by omega), o 11 (by omega)]; exact r3, by rw [fr 3 (by omega) (by omega), o 12 (by omega)]; exact r4, fun p hp => ?_, fun u hu => ?_, fun i hi => ?_⟩
  · by_cases e : p = A 0 0
    · subst e
      rw [g2, g4, bpl_at]
      refine ⟨e1, e4, fun i hi => ⟨ei i hi, t.2.2.1 i hi⟩, fun x => ?_⟩
      rw [t.2.2.2 x]
      exact cnt_congr (fun i hi => by rw [g6 i hi])
    · have hp' : p < A 0 0 := by omega
      have b3 := (O.2.2.2.2.1 p hp').2.1
      obtain ⟨q1, q2, q3, q4⟩ := r5 p hp'
      rw [g1 p e, g3 p e, bpl_ne V B e, fr _ (by omega) (by omega), fr _ (by omega) (by omega)]
      refine ⟨q1, q2, fun i hi => ⟨?_, (q3 i hi).2⟩, fun x => ?_⟩
      · rw [fr _ (by omega) (by omega)]; exact (q3 i hi).1
      · rw [q4 x]
        exact cnt_congr (fun i hi => by rw [g5 _ (by omega)])
  · rw [o 4 (by omega)] at hu
    have sp : ∀ d, spotA A3 u d = spotA A u d := fun d => by unfold spotA; rw [o 5 (by omega), o 6 (by omega)]
    rw [sp, o 5 (by omega), o 6 (by omega), o 7 (by omega), o 8 (by omega), o 9 (by omega), o 10 (by omega), fr _ (by omega) (by omega), fr _ (by omega) (by omega), fr _ (by omega) (by omega), fr _ (by omega) (by omega), fr _ (by omega) (by omega), fr _ (by omega) (by omega)]
    exact r6 u hu
  · rw [o 12 (by omega)] at hi
    omega
theorem RepR_sen {v : Nat} (R : RepR st A B) (O : OkP A) (hP : 1 ≤ A 0 0) (e4 : st' (4 + 5 * (A 0 0 - 1) + 4) = nI v) (fr : ∀ x, x ≠ 4 + 5 * (A 0 0 - 1) + 4 → st' x = st x) : RepR st' (senA A v) B := by
  obtain ⟨r1, r2, r3, r4, r5, r6, r7⟩ := R
  have o : ∀ f, f ≠ 3 → senA A v f = A f := fun f hf => senA_o A v hf
  have h0 := O.1
  have h12 := O.2.2.2.1
  refine ⟨by rw [fr 0 (by omega), o 0 (by omega)]; exact r1, by rw [fr 1 (by omega), o 4 (by omega)]; exact r2, by rw [fr 2 (by omega), o 11 (by omega)]; exact r3, by rw [fr 3 (by omega), o 12 (by omega)]; exact r4, fun p hp => ?_, fun u hu => ?_, fun i hi => ?_⟩
  · rw [o 0 (by omega)] at hp
    have b3 := (O.2.2.2.2.1 p hp).2.1
    obtain ⟨q1, q2, q3, q4⟩ := r5 p hp
    rw [o 1 (by omega), o 2 (by omega), senA_3, fr _ (by omega)]
    refine ⟨q1, ?_, fun i hi => ⟨by rw [fr _ (by omega)]; exact (q3 i hi).1, (q3 i hi).2⟩, q4⟩
    by_cases e : p = A 0 0 - 1
    · rw [e, upx_at]; exact e4
    · rw [upx_ne _ e, fr _ (by omega)]; exact q2
  · rw [o 4 (by omega)] at hu
    have sp : ∀ d, spotA (senA A v) u d = spotA A u d := fun d => by unfold spotA; rw [o 5 (by omega), o 6 (by omega)]
    rw [sp, o 5 (by omega), o 6 (by omega), o 7 (by omega), o 8 (by omega), o 9 (by omega), o 10 (by omega), fr _ (by omega), fr _ (by omega), fr _ (by omega), fr _ (by omega), fr _ (by omega), fr _ (by omega)]
    exact r6 u hu
  · rw [o 12 (by omega)] at hi
    omega
theorem RepR_add {f t l : Nat} (R : RepR st A B) (O : OkP A) (h4 : A 4 0 < 4) (e1 : st' 1 = nI (A 4 0 + 1)) (v0 : st' (34 + 6 * A 4 0 + 0) = nI f) (v1 : st' (34 + 6 * A 4 0 + 1) = nI t) (v2 : st' (34 + 6 * A 4 0 + 2) = nI l) (v3 : st' (34 + 6 * A 4 0 + 3) = nI f) (v4 : st' (34 + 6 * A 4 0 + 4) = nI 0) (v5 : st' (34 + 6 * A 4 0 + 5) = -4) (fr : ∀ i, i ≠ 1 → ¬ (34 + 6 * A 4 0 ≤ i ∧ i ≤ 34 + 6 * A 4 0 + 5) → st' i = st i) : RepR st' (addA A f t l) B := by
  have o : ∀ g, g < 4 ∨ 10 < g → addA A f t l g = A g := fun g hg => addA_o A f t l hg
  have h0 := O.1
  have h12 := O.2.2.2.1
  obtain ⟨r1, r2, r3, r4, r5, r6, r7⟩ := R
  refine ⟨?_, ?_, ?_, ?_, fun p hp => ?_, fun u hu => ?_, fun i hi => ?_⟩
  · rw [fr 0 (by omega) (by omega), o 0 (by omega)]; exact r1
  · rw [e1, addA_4]
  · rw [fr 2 (by omega) (by omega), o 11 (by omega)]; exact r3
  · rw [fr 3 (by omega) (by omega), o 12 (by omega)]; exact r4
  · rw [o 0 (by omega)] at hp
    have h3 := (O.2.2.2.2.1 p hp).2.1
    rw [o 1 (by omega), o 2 (by omega), o 3 (by omega), fr _ (by omega) (by omega), fr _ (by omega) (by omega)]
    have := r5 p hp
    exact ⟨this.1, this.2.1, fun i hi => by rw [fr _ (by omega) (by omega)]; exact this.2.2.1 i hi, this.2.2.2⟩
  · rw [addA_4] at hu
    by_cases e : u = A 4 0
    · subst e
      rw [v0, v1, v2, v3, v4, v5]
      unfold spotA
      rw [addA_5, addA_6, addA_7, addA_8, addA_9, addA_10, upx_at, upx_at, upx_at, upx_at, upx_at]
      refine ⟨rfl, rfl, rfl, ?_, rfl, rfl⟩
      congr 1
      by_cases q : t ≤ f
      · rw [if_pos q, if_pos q]; omega
      · rw [if_neg q, if_neg q]; omega
    · have ul : u < A 4 0 := by omega
      rw [fr _ (by omega) (by omega), fr _ (by omega) (by omega), fr _ (by omega) (by omega), fr _ (by omega) (by omega), fr _ (by omega) (by omega), fr _ (by omega) (by omega)]
      rw [(ExtA_add A f t l).spot ul, addA_5, addA_6, addA_7, addA_8, addA_9, addA_10, upx_ne _ e, upx_ne _ e, upx_ne _ e, upx_ne _ e, upx_ne _ e, upx_ne _ e]
      exact r6 u ul
  · rw [o 12 (by omega)] at hi
    omega
end RepRs
section LineM
variable {m : Mem} {T : Nat → Nat} {n p q : Nat} {A : Ab} {B : Nat → Nat → Nat}
theorem TpM_tm {m' : Mem} (o : Off sTm m m') (H : TpM m T n) : TpM m' T n := TpM_off o rfl (fun _ => rfl) H
theorem nI_neg {c : Nat} (hc : 0 < c) (h : c < 2 ^ 31) : ¬ nI c ≤ (0 : Int32) := fun z => by
  have := (nI_leI (b := 0) (by omega) (by omega)).mp z; omega
theorem nI_nz0 {c : Nat} (hc : 0 < c) (h : c < 2 ^ 31) : ¬ nI c = (0 : Int32) := fun z => by
  have := (nI_eq (b := 0) (by omega) (by omega)).mp z; omega
theorem finL_flt {c s : Nat} (hc : 0 < c) (h : c < 2 ^ 31) (F : FlM m c s) : jM_readLine_108 m = some m := by
  unfold jM_readLine_108 jM_readLine_133
  rw [F.1, if_neg (nI_nz0 hc h), reads_f hc h F.1]
  rfl
theorem finL_ok (H : TpM m T n) (hq : q ≤ n) (R : RTok m T n q) : ∃ m', jM_readLine_108 m = some m' ∧ Off sRf m m' ∧ (gC T n q = 0 → RTok m' T n (tE T n q)) ∧ (gC T n q ≠ 0 → FlM m' (gC T n q) (tS T n q)) := by
  have hE := tE_le (T := T) hq
  have kl := tK_le (T := T) (n := n) (p := q)
  have n0 : nI 0 = 0 := rfl
  obtain ⟨r7, r8, r9, r10, r11, r12⟩ := R
  cases b : tB T n q with
  | true =>
    have ce : gC T n q = 1 := by unfold gC; rw [b, if_pos rfl]
    rw [finL_flt (c := 1) (by omega) (by omega) (r12 b), ce]
    exact ⟨m, rfl, Off_refl _ _, fun z => by omega, fun _ => r12 b⟩
  | false =>
    have h11 := r11 b
    have k4 := (tB_f.mp b).1
    rw [if_neg k4] at r9
    unfold jM_readLine_108
    rw [h11, if_pos n0, r9]
    by_cases k3 : tK T n q = 3
    · have ce : gC T n q = 0 := by unfold gC; rw [b, if_neg (by simp), if_pos k3]
      have e2 : (if nI (tK T n q) = 3 then (1 : Int32) else 0) = nI 1 := by rw [k3]; rfl
      have rt : fM_requires (nI 1) 2 m = some m := requires_t (c := 2) m
      obtain ⟨m1, f1, o1, R1⟩ := reads_ok H (p := tE T n q) hE.2 r7 h11
      rw [e2, lt_def, rt, bind_s, ce]
      unfold jM_readLine_133
      rw [f1]
      exact ⟨m1, rfl, o1, fun _ => R1, fun z => absurd rfl z⟩
    · have ce : gC T n q = 2 := by unfold gC; rw [b, if_neg (by simp), if_neg k3]
      have c3 : ¬ nI (tK T n q) = 3 := fun z => k3 ((nI_eq (b := 3) (by omega) (by omega)).mp z)
      have e2 : (if nI (tK T n q) = 3 then (1 : Int32) else 0) = nI 0 := by rw [if_neg c3]; rfl
      obtain ⟨m1, f1, o1, g11, g12⟩ := requires_f (c := 2) h11 r8
      have f1' : fM_requires (nI 0) 2 m = some m1 := f1
      rw [e2, lt_def, f1', bind_s, ce]
      unfold jM_readLine_133
      rw [reads_f (c := 2) (by omega) (by omega) g11]
      exact ⟨m1, rfl, Off_mono o1 sRf_r, fun z => by omega, fun _ => ⟨g11, g12⟩⟩
theorem rC_m4 {lo hi : Nat} (H : TpM m T n) (hq : q ≤ n) : rC T n q lo hi (-4) = nC T n q lo hi := by
  unfold rC
  by_cases z : nC T n q lo hi = 0
  · have nz := nC_0 z
    have v := tV_leM H hq nz.2.1 nz.1
    have c : ¬ nI (tV T n q) = -4 := fun w => of_eq_false (nI_eqn (a := tV T n q) (k := 4) (by omega) (by omega) (by omega)) w
    rw [if_neg (fun w => w z), if_neg c, z]
  · rw [if_pos z]
def ResM (T : Nat → Nat) (n : Nat) (m m' : Mem) (r : Nat × Nat × Nat × Ab) : Prop := Off sTm m m' ∧ (r.1 = 0 → RTok m' T n r.2.2.1 ∧ ∃ B', RepR (m' (5, 0, 2)) r.2.2.2 B') ∧ (r.1 ≠ 0 → FlM m' r.1 r.2.1)
theorem ResM.bad {m' : Mem} {c s e : Nat} {A' : Ab} (hc : c ≠ 0) (o : Off sTm m m') (F : FlM m' c s) : ResM T n m m' (c, s, e, A') := ⟨o, fun z => absurd z hc, fun _ => F⟩
theorem ResM.good {m' : Mem} {s e : Nat} {A' : Ab} {B' : Nat → Nat → Nat} (o : Off sTm m m') (R : RTok m' T n e) (D : RepR (m' (5, 0, 2)) A' B') : ResM T n m m' (0, s, e, A') := ⟨o, fun _ => ⟨R, B', D⟩, fun z => absurd rfl z⟩
theorem FlM_off {S : Rf → Nat → Bool} {m' : Mem} {c s : Nat} (o : Off S m m') (h1 : S (5, 0, 0) 11 = false) (h2 : S (5, 0, 0) 12 = false) (F : FlM m c s) : FlM m' c s := ⟨(o _ _ h1).trans F.1, (o _ _ h2).trans F.2⟩
def sDr : Rf → Nat → Bool := fun r _ => r == (5, 0, 2)
theorem sTm_d (r : Rf) (i : Nat) (h : sTm r i = false) : sDr r i = false := by
  simp only [sTm, sDr, Bool.or_eq_false_iff] at *; exact h.1
theorem readSection_ok (H : TpM m T n) (hq : q ≤ n) (R : RTok m T n q) (D : RepR (m (5, 0, 2)) A B) (O : OkP A) (hP : 1 ≤ A 0 0) : ∃ m', gd (inb 0 238) (Option.bind (fM_readNumber 1 9 (-4) m) (fun q17 => gd (inb ((4 + (5 * ((m (5, 0, 2) (ix 0)) - 1))) + 4) 238) (lt (wr q17.2 (5, 0, 2) (ix ((4 + (5 * ((m (5, 0, 2) (ix 0)) - 1))) + 4)) q17.1) (fun m18 => jM_readLine_108 m18)))) = some m' ∧ ResM T n m m' (seR T n A q) := by
  have hE := tE_le (T := T) hq
  have h0 := O.1
  obtain ⟨m1, e1, o1, a1, a2⟩ := readNumber_ok H hq R (lo := 1) (hi := 9) (by omega) (by omega) (-4)
  rw [rC_m4 H hq] at e1 a1 a2
  have e1' : fM_readNumber 1 9 (-4) m = some (if nC T n q 1 9 = 0 then nI (tV T n q) else nI 0, m1) := e1
  have ei : (4 : Int32) + 5 * (nI (A 0 0) - 1) + 4 = nI (4 + 5 * (A 0 0 - 1) + 4) := by
    have x4 : (4 : Int32) = nI 4 := rfl
    have x5 : (5 : Int32) = nI 5 := rfl
    rw [nI_sub1 hP, x4, x5, pk_mul, nI_add, nI_add]
  have n00 := (D.pl : m (5, 0, 2) 0 = nI (A 0 0))
  rw [gd0, e1', bind_s, ix0, n00, ei, gd_in (by omega) (by omega), ix_n (by omega), lt_def]
  unfold seR
  by_cases z : nC T n q 1 9 = 0
  · have nz := nC_0 z
    rw [if_pos z, if_neg (fun w => w z)]
    show ∃ m', jM_readLine_108 (wr m1 (5, 0, 2) (4 + 5 * (A 0 0 - 1) + 4) (nI (tV T n q))) = some m' ∧ _
    generalize e2 : wr m1 (5, 0, 2) (4 + 5 * (A 0 0 - 1) + 4) (nI (tV T n q)) = m2
    have o2 : Off sDr m1 m2 := by rw [← e2]; exact Off_wr (Off_refl _ _) rfl
    have D1 : RepR (m1 (5, 0, 2)) A B := by
      have : m1 (5, 0, 2) = m (5, 0, 2) := funext (fun i => o1 _ i rfl)
      rw [this]; exact D
    have D2 : RepR (m2 (5, 0, 2)) (senA A (tV T n q)) B := RepR_sen D1 O hP (by rw [← e2, wr_at]) (fun x hx => by rw [← e2, wr_off _ _ (by simp; omega)])
    have R2 : RTok m2 T n (tE T n q) := RTok_off o2 (fun _ => rfl) (a1 z)
    have H2 := TpM_off o2 rfl (fun _ => rfl) (TpM_off o1 rfl (fun _ => rfl) H)
    obtain ⟨m3, e3, o3, v1, v2⟩ := finL_ok H2 hE.2 R2
    have s3 : Off sTm m m3 := Off_trans (Off_mono o1 sTm_r) (Off_trans (Off_mono o2 sTm_d) (Off_mono o3 sTm_r))
    have D3 : RepR (m3 (5, 0, 2)) (senA A (tV T n q)) B := by
      have : m3 (5, 0, 2) = m2 (5, 0, 2) := funext (fun i => o3 _ i rfl)
      rw [this]; exact D2
    refine ⟨m3, e3, ?_⟩
    by_cases w : gC T n (tE T n q) = 0
    · rw [if_neg (fun y => y w)]
      exact ResM.good s3 (v1 w) D3
    · rw [if_pos w]
      exact ResM.bad w s3 (v2 w)
  · rw [if_neg z, if_pos z]
    show ∃ m', jM_readLine_108 (wr m1 (5, 0, 2) (4 + 5 * (A 0 0 - 1) + 4) (nI 0)) = some m' ∧ _
    generalize e2 : wr m1 (5, 0, 2) (4 + 5 * (A 0 0 - 1) + 4) (nI 0) = m2
    have o2 : Off sDr m1 m2 := by rw [← e2]; exact Off_wr (Off_refl _ _) rfl
    have F2 := FlM_off o2 rfl rfl (a2 z)
    have cl := nC_le T n q 1 9
    exact ⟨m2, finL_flt (by omega) (by omega) F2, ResM.bad z (Off_trans (Off_mono o1 sTm_r) (Off_mono o2 sTm_d)) F2⟩
end LineM
