/-! lines of the text, by the class -/
def plR (T : Nat → Nat) (n : Nat) (A : Ab) (p : Nat) : Nat × Nat × Nat × Ab :=
  if nC T n p 1 20 ≠ 0 then (nC T n p 1 20, tS T n p, 0, A) else
  if tK T n (tE T n p) = 3 then (0, 0, tE T n (tE T n p), trkA (pl0 A) (tV T n p)) else
  if nC T n (tE T n p) 1 20 ≠ 0 then (nC T n (tE T n p) 1 20, tS T n (tE T n p), 0, A) else
  if tK T n (tE T n (tE T n p)) = 3 then (0, 0, tE T n (tE T n (tE T n p)), trkA (trkA (pl0 A) (tV T n p)) (tV T n (tE T n p))) else
  if nC T n (tE T n (tE T n p)) 1 20 ≠ 0 then (nC T n (tE T n (tE T n p)) 1 20, tS T n (tE T n (tE T n p)), 0, A) else
  if gC T n (tE T n (tE T n (tE T n p))) ≠ 0 then (gC T n (tE T n (tE T n (tE T n p))), tS T n (tE T n (tE T n (tE T n p))), 0, A) else
  (0, 0, tE T n (tE T n (tE T n (tE T n p))), trkA (trkA (trkA (pl0 A) (tV T n p)) (tV T n (tE T n p))) (tV T n (tE T n (tE T n p))))
def seR (T : Nat → Nat) (n : Nat) (A : Ab) (p : Nat) : Nat × Nat × Nat × Ab :=
  if nC T n p 1 9 ≠ 0 then (nC T n p 1 9, tS T n p, 0, A) else
  if gC T n (tE T n p) ≠ 0 then (gC T n (tE T n p), tS T n (tE T n p), 0, A) else
  (0, 0, tE T n (tE T n p), senA A (tV T n p))
def trR (T : Nat → Nat) (n : Nat) (A : Ab) (p : Nat) : Nat × Nat × Nat × Ab :=
  if nC T n p 0 5 ≠ 0 then (nC T n p 0 5, tS T n p, 0, A) else
  if nC T n (tE T n p) 0 5 ≠ 0 then (nC T n (tE T n p) 0 5, tS T n (tE T n p), 0, A) else
  if tV T n (tE T n p) = tV T n p then (4, tS T n (tE T n p), 0, A) else
  if nC T n (tE T n (tE T n p)) 1 20 ≠ 0 then (nC T n (tE T n (tE T n p)) 1 20, tS T n (tE T n (tE T n p)), 0, A) else
  if gC T n (tE T n (tE T n (tE T n p))) ≠ 0 then (gC T n (tE T n (tE T n (tE T n p))), tS T n (tE T n (tE T n (tE T n p))), 0, A) else
  (0, 0, tE T n (tE T n (tE T n (tE T n p))), addA A (tV T n p) (tV T n (tE T n p)) (tV T n (tE T n (tE T n p))))
def wlen (k : Nat) : Nat := if k = 1 then 7 else 5
def wch (k i : Nat) : Nat := ((if k = 0 then [112, 108, 97, 99, 101] else if k = 1 then [115, 101, 99, 116, 105, 111, 110] else [116, 114, 97, 105, 110]) : List Nat).getD i 0
def isW (T : Nat → Nat) (s e k : Nat) : Bool := decide (e = s + wlen k) && decide (∀ i, i < wlen k → T (s + i) = wch k i)
def wC (T : Nat → Nat) (n p : Nat) : Nat := if tK T n p = 1 then (if isW T (tS T n p) (tE T n p) 0 then 0 else if isW T (tS T n p) (tE T n p) 1 then 1 else if isW T (tS T n p) (tE T n p) 2 then 2 else 3) else 3
def lnR (T : Nat → Nat) (n : Nat) (A : Ab) (p : Nat) : Nat × Nat × Nat × Ab :=
  if wC T n p = 0 then (if A 0 0 < 6 then plR T n A (tE T n p) else (5, tS T n p, 0, A)) else
  if wC T n p = 1 then (if 1 ≤ A 0 0 then seR T n A (tE T n p) else (5, tS T n p, 0, A)) else
  if wC T n p = 2 then (if A 4 0 < 4 then trR T n A (tE T n p) else (5, tS T n p, 0, A)) else (2, tS T n p, 0, A)
def sTx : Rf → Nat → Bool := fun r i => sLn 1 r i || sRd r i
theorem sTx_l (r : Rf) (i : Nat) (h : sTx r i = false) : sLn 1 r i = false := by
  simp only [sTx, Bool.or_eq_false_iff] at h; exact h.1
theorem sTx_r (r : Rf) (i : Nat) (h : sTx r i = false) : sRd r i = false := by
  simp only [sTx, Bool.or_eq_false_iff] at h; exact h.2
def ResC (m m' : Mem) (v : Int32) (r : Nat × Nat × Nat × Ab) : Prop := v = nI (if r.1 = 0 then 1 else 0) ∧ Off sTx m m' ∧ (r.1 = 0 → m' (2, 0, 0) 4 = nI r.2.2.1 ∧ m' (2, 0, 0) 2 = m (2, 0, 0) 2 ∧ RepL m' 1 r.2.2.2) ∧ (r.1 ≠ 0 → FlC m' r.1 r.2.1)
theorem ResC.bad {m m' : Mem} {c s e : Nat} {A' : Ab} (hc : c ≠ 0) (o : Off sTx m m') (F : FlC m' c s) : ResC m m' (nI 0) (c, s, e, A') :=
  ⟨by rw [if_neg hc], o, fun z => absurd z hc, fun _ => F⟩
theorem ResC.good {m m' : Mem} {s e : Nat} {A' : Ab} (o : Off sTx m m') (h4 : m' (2, 0, 0) 4 = nI e) (h2 : m' (2, 0, 0) 2 = m (2, 0, 0) 2) (R : RepL m' 1 A') : ResC m m' (nI 1) (0, s, e, A') :=
  ⟨by rw [if_pos rfl], o, fun _ => ⟨h4, h2, R⟩, fun z => absurd rfl z⟩
theorem ResC.isb {m m' : Mem} {v : Int32} {r : Nat × Nat × Nat × Ab} (h : ResC m m' v r) : isb v = true := by
  rw [h.1]
  split <;> rfl
section LineC
variable {m : Mem} {T : Nat → Nat} {n p : Nat} {A : Ab}
theorem TpC_tx {m' : Mem} (o : Off sTx m m') (H : TpC m T n) : TpC m' T n := TpC_off o rfl (fun _ => rfl) H
theorem FlC_off {S : Rf → Nat → Bool} {m' : Mem} {c s : Nat} (o : Off S m m') (h2 : S (2, 0, 0) 2 = false) (h3 : S (2, 0, 0) 3 = false) (F : FlC m c s) : FlC m' c s := ⟨(o _ _ h2).trans F.1, (o _ _ h3).trans F.2⟩
theorem place_step {A3 : Ab} {S V : Nat → Nat} {i : Nat} (hi : i < 3) (H : TpC m T n) (hp : p ≤ n) (h4 : m (2, 0, 0) 4 = nI p) (R : RepL m 1 A3) (hP : A 0 0 < 6) (h3 : ∀ p, p < A 0 0 → A 1 p ≤ 3) (g : PlS A A3 i S) (t : TrkOk S i V) (sf : Int32 → Mem → Option (Int32 × Mem)) :
    (1 ≤ i ∧ tK T n p = 3 ∧ ∃ m', bR_takePlace_21 1 sf (nI i) m = some (nI 1, m') ∧ Off sTx m m' ∧ m' (2, 0, 0) 4 = nI (tE T n p) ∧ m' (2, 0, 0) 2 = m (2, 0, 0) 2 ∧ RepL m' 1 A3) ∨
    (¬ (1 ≤ i ∧ tK T n p = 3) ∧ nC T n p 1 20 ≠ 0 ∧ ∃ m', bR_takePlace_21 1 sf (nI i) m = some (nI 0, m') ∧ Off sTx m m' ∧ FlC m' (nC T n p 1 20) (tS T n p)) ∨
    (¬ (1 ≤ i ∧ tK T n p = 3) ∧ nC T n p 1 20 = 0 ∧ ∃ m', bR_takePlace_21 1 sf (nI i) m = sf (nI (i + 1)) m' ∧ Off sTx m m' ∧ m' (2, 0, 0) 4 = nI (tE T n p) ∧ m' (2, 0, 0) 2 = m (2, 0, 0) 2 ∧ RepL m' 1 (trkA A3 (tV T n p))) := by
  have n0 : nI 0 = 0 := rfl
  have n1 : ¬ nI 1 = 0 := by decide +kernel
  have kl := tK_le (T := T) (n := n) (p := p)
  obtain ⟨m1, e1, o1, a4, a5, a6, a7, a8⟩ := takeToken_ok H hp h4
  have H1 := TpC_off o1 rfl (fun _ => rfl) H
  have R1 : RepL m1 1 A3 := RepL_off o1 (fun _ _ => rfl) R
  have c3 : ¬ (3 : Int32) ≤ nI i := fun z => by have := (nI_leI (a := 3) (by omega) (by omega)).mp z; omega
  unfold bR_takePlace_21
  rw [if_neg c3]
  cases b : tB T n p with
  | true =>
    have kne : tK T n p ≠ 3 := by have := tB_t.mp b; omega
    have ce : nC T n p 1 20 = 1 := by unfold nC; rw [b, if_pos rfl]
    rw [b, if_pos rfl] at e1
    rw [e1, bind_s, if_pos n0, ce]
    exact Or.inr (Or.inl ⟨fun z => kne z.2, by omega, m1, rfl, Off_mono o1 sTx_r, a8 b⟩)
  | false =>
    rw [b, if_neg (by simp)] at e1
    rw [e1, bind_s, if_neg n1]
    have rest : ¬ (1 ≤ i ∧ tK T n p = 3) → (nC T n p 1 20 ≠ 0 ∧ ∃ m', jR_takePlace_49 1 sf (nI i) (nI 1, m1) = some (nI 0, m') ∧ Off sTx m m' ∧ FlC m' (nC T n p 1 20) (tS T n p)) ∨ (nC T n p 1 20 = 0 ∧ ∃ m', jR_takePlace_49 1 sf (nI i) (nI 1, m1) = sf (nI (i + 1)) m' ∧ Off sTx m m' ∧ m' (2, 0, 0) 4 = nI (tE T n p) ∧ m' (2, 0, 0) 2 = m (2, 0, 0) 2 ∧ RepL m' 1 (trkA A3 (tV T n p))) := by
      intro _
      obtain ⟨m2, e2, o2, b4, b5, b6, b7⟩ := isNumber_ok H1 hp b a4 a5 a6 (lo := 1) (hi := 20) (by omega) (by omega)
      have e2' : fR_isNumberWithin 1 20 m1 = some (nI (if nC T n p 1 20 = 0 then 1 else 0), m2) := e2
      unfold jR_takePlace_49
      rw [e2', bind_s]
      by_cases z : nC T n p 1 20 = 0
      · right
        refine ⟨z, ?_⟩
        have nz := nC_0 z
        have R2 : RepL m2 1 A3 := RepL_off o2 (fun _ _ => rfl) R1
        have eP : A3 0 0 - 1 = A 0 0 := by rw [g.1, Nat.add_sub_cancel]
        obtain ⟨m3, e3, o3, R3⟩ := openTrack_ok R2 (v := tV T n p) (by rw [g.1]; omega) (by rw [g.1]; omega) (by rw [eP, g.2.2.1]; exact hi) (fun p hp => by
          by_cases e : p = A 0 0
          · subst e; rw [g.2.2.1]; omega
          · rw [g.2.1 p e]; exact h3 p (by rw [g.1] at hp; omega)) (fun j hj => by
          rw [eP, g.2.2.1] at hj
          rw [eP, g.2.2.2.2.2.2.1 j (by omega), g.2.2.2.2.2.2.1 _ hj]
          exact t.2.1 j hj) (fun j hj => by
          rw [eP, g.2.2.1] at hj
          rw [eP, g.2.2.2.2.2.2.1 j hj]
          have := t.1 j hj
          omega) (by omega)
        rw [if_pos z, if_neg n1]
        have v7 : ((nI 1, m2) : Int32 × Mem).2 (2, 0, 0) 7 = nI (tV T n p) := (b6 z).2
        refine ⟨m3, ?_, Off_trans (Off_mono (Off_trans o1 o2) sTx_r) (Off_mono o3 sTx_l), ?_, ?_, R3⟩
        · rw [v7]
          show Option.bind (fL_openTrack 1 (nI (tV T n p)) m2) _ = _
          rw [e3, bind_s, lt_def, nI_s1]
        · rw [o3 _ _ rfl]; exact b4
        · rw [o3 _ _ rfl, (b6 z).1]; exact a7 b
      · left
        refine ⟨z, m2, ?_, Off_mono (Off_trans o1 o2) sTx_r, b7 z⟩
        rw [if_neg z, if_pos n0]
        rfl
    by_cases i0 : i = 0
    · subst i0
      have c0 : nI 0 ≤ (0 : Int32) := by decide +kernel
      rw [if_pos c0]
      have ng : ¬ (1 ≤ 0 ∧ tK T n p = 3) := fun z => by omega
      rcases rest ng with ⟨x, y⟩ | ⟨x, y⟩
      · exact Or.inr (Or.inl ⟨ng, x, y⟩)
      · exact Or.inr (Or.inr ⟨ng, x, y⟩)
    · have c0 : ¬ nI i ≤ (0 : Int32) := fun z => by have := (nI_leI (b := 0) (by omega) (by omega)).mp z; omega
      rw [if_neg c0]
      by_cases k3 : tK T n p = 3
      · left
        rw [if_pos (show ((nI 1, m1) : Int32 × Mem).2 (2, 0, 0) 6 = 3 from a6.trans (by rw [k3]; rfl))]
        exact ⟨by omega, k3, m1, rfl, Off_mono o1 sTx_r, a4, a7 b, R1⟩
      · right
        have nk : ¬ nI (tK T n p) = 3 := fun z => k3 ((nI_eq (b := 3) (by omega) (by omega)).mp z)
        rw [if_neg (show ¬ ((nI 1, m1) : Int32 × Mem).2 (2, 0, 0) 6 = 3 from fun z => nk (a6.symm.trans z))]
        have ng : ¬ (1 ≤ i ∧ tK T n p = 3) := fun z => k3 z.2
        rcases rest ng with ⟨x, y⟩ | ⟨x, y⟩
        · exact Or.inl ⟨ng, x, y⟩
        · exact Or.inr ⟨ng, x, y⟩
theorem takePlace_ok (H : TpC m T n) (hp : p ≤ n) (h4 : m (2, 0, 0) 4 = nI p) (R : RepL m 1 A) (O : OkP A) (hP : A 0 0 < 6) : ∃ v m', fR_takePlace 1 m = some (v, m') ∧ ResC m m' v (plR T n A p) := by
  have h3 : ∀ p, p < A 0 0 → A 1 p ≤ 3 := fun p hp => (O.2.2.2.2.1 p hp).2.1
  have n0 : nI 0 = 0 := rfl
  have n1 : ¬ nI 1 = 0 := by decide +kernel
  obtain ⟨m0, e0, o0, R0⟩ := openPlace_ok R hP
  have H0 := TpC_off o0 rfl (fun _ => rfl) H
  have q4 : m0 (2, 0, 0) 4 = nI p := (o0 _ _ rfl).trans h4
  have q2 : m0 (2, 0, 0) 2 = m (2, 0, 0) 2 := o0 _ _ rfl
  have s0 : Off sTx m m0 := Off_mono o0 sTx_l
  have t0 : TrkOk (fun _ => 0) 0 (fun _ => 0) := ⟨fun i hi => absurd hi (by omega), fun i hi => absurd hi (by omega), fun i hi => absurd hi (by omega), fun x => rfl⟩
  have g0 := PlS_0 A (fun _ => 0)
  have u : ∀ N x m, lz11 (bR_takePlace_21 1) (N + 1) x m = bR_takePlace_21 1 (lz11 (bR_takePlace_21 1) N) x m := fun _ _ _ => rfl
  have eF : FU = 5996 + 1 + 1 + 1 + 1 := rfl
  unfold fR_takePlace
  have c6 : nI (A 0 0) < (6 : Int32) := (nI_ltI (b := 6) (by omega) (by omega)).mpr hP
  rw [R.pl, if_pos c6, e0, bind_s, lt_def, eF, u]
  have hp1 := tE_le (T := T) hp
  have hp2 := tE_le (T := T) hp1.2
  have hp3 := tE_le (T := T) hp2.2
  unfold plR
  have z0 : (0 : Int32) = nI 0 := rfl
  rw [z0]
  rcases place_step (i := 0) (by omega) H0 hp q4 R0 hP h3 g0 t0 (lz11 (bR_takePlace_21 1) (5996 + 1 + 1 + 1)) with ⟨x, -⟩ | ⟨-, w1, m1, e1, o1, F1⟩ | ⟨-, w1, m1, e1, o1, f4, f2, R1⟩
  · omega
  · rw [if_pos w1, e1]
    exact ⟨_, m1, rfl, ResC.bad w1 (Off_trans s0 o1) F1⟩
  · have nz1 := nC_0 w1
    have H1 := TpC_tx o1 H0
    have g1 := PlS_s (v := tV T n p) g0
    have t1 := TrkOk_ins t0 nz1.2.2.1 nz1.2.2.2
    have s1 := Off_trans s0 o1
    rw [if_neg (fun z => z w1), e1, u]
    rcases place_step (i := 1) (by omega) H1 hp1.2 f4 R1 hP h3 g1 t1 (lz11 (bR_takePlace_21 1) (5996 + 1 + 1)) with ⟨-, k3, m2, e2, o2, y4, y2, R2⟩ | ⟨k3, w2, m2, e2, o2, F2⟩ | ⟨k3, w2, m2, e2, o2, y4, y2, R2⟩
    · rw [if_pos k3, e2]
      exact ⟨_, m2, rfl, ResC.good (Off_trans s1 o2) y4 (y2.trans (f2.trans q2)) R2⟩
    · rw [if_neg (fun z => k3 ⟨by omega, z⟩), if_pos w2, e2]
      exact ⟨_, m2, rfl, ResC.bad w2 (Off_trans s1 o2) F2⟩
    · have nz2 := nC_0 w2
      have H2 := TpC_tx o2 H1
      have g2 := PlS_s (v := tV T n (tE T n p)) g1
      have t2 := TrkOk_ins t1 nz2.2.2.1 nz2.2.2.2
      have s2 := Off_trans s1 o2
      rw [if_neg (fun z => k3 ⟨by omega, z⟩), if_neg (fun z => z w2), e2, u]
      rcases place_step (i := 2) (by omega) H2 hp2.2 y4 R2 hP h3 g2 t2 (lz11 (bR_takePlace_21 1) (5996 + 1)) with ⟨-, k4, m3, e3, o3, x4, x2, R3⟩ | ⟨k4, w3, m3, e3, o3, F3⟩ | ⟨k4, w3, m3, e3, o3, x4, x2, R3⟩
      · rw [if_pos k4, e3]
        exact ⟨_, m3, rfl, ResC.good (Off_trans s2 o3) x4 (x2.trans (y2.trans (f2.trans q2))) R3⟩
      · rw [if_neg (fun z => k4 ⟨by omega, z⟩), if_pos w3, e3]
        exact ⟨_, m3, rfl, ResC.bad w3 (Off_trans s2 o3) F3⟩
      · have H3 := TpC_tx o3 H2
        have s3 := Off_trans s2 o3
        have c33 : (3 : Int32) ≤ nI 3 := by decide +kernel
        rw [if_neg (fun z => k4 ⟨by omega, z⟩), if_neg (fun z => z w3), e3, u]
        unfold bR_takePlace_21 jR_takePlace_75
        rw [if_pos c33]
        obtain ⟨m4, e4, o4, v4, v5⟩ := takeSign_ok H3 hp3.2 x4
        rw [e4, bind_s]
        by_cases z : gC T n (tE T n (tE T n (tE T n p))) = 0
        · rw [if_pos z, if_neg (fun w => w z)]
          exact ⟨_, m4, rfl, ResC.good (Off_trans s3 (Off_mono o4 sTx_r)) (v4 z).1 ((v4 z).2.trans (x2.trans (y2.trans (f2.trans q2)))) (RepL_off o4 (fun _ _ => rfl) R3)⟩
        · rw [if_neg z, if_pos z]
          exact ⟨_, m4, rfl, ResC.bad z (Off_trans s3 (Off_mono o4 sTx_r)) (v5 z)⟩
theorem takeSection_ok (H : TpC m T n) (hp : p ≤ n) (h4 : m (2, 0, 0) 4 = nI p) (R : RepL m 1 A) (O : OkP A) (hP : 1 ≤ A 0 0) : ∃ v m', fR_takeSection 1 m = some (v, m') ∧ ResC m m' v (seR T n A p) := by
  have n0 : nI 0 = 0 := rfl
  have n1 : ¬ nI 1 = 0 := by decide +kernel
  have h6 := O.1
  have hp1 := tE_le (T := T) hp
  unfold fR_takeSection seR
  have c1 : (1 : Int32) ≤ nI (A 0 0) := (nI_leI (a := 1) (by omega) (by omega)).mpr hP
  obtain ⟨m1, e1, o1, a1, a2⟩ := takeNumber_ok H hp h4 (lo := 1) (hi := 9) (by omega) (by omega)
  have e1' : fR_takeNumber 1 9 m = some (nI (if nC T n p 1 9 = 0 then 1 else 0), m1) := e1
  rw [R.pl, if_pos c1, e1', bind_s]
  by_cases z : nC T n p 1 9 = 0
  · have nz := nC_0 z
    obtain ⟨b4, b5, b2, b7⟩ := a1 z
    have R1 : RepL m1 1 A := RepL_off o1 (fun _ _ => rfl) R
    have H1 := TpC_off o1 rfl (fun _ => rfl) H
    rw [if_pos z, if_neg n1, if_neg (fun w => w z)]
    show ∃ v m', gd (inb (m1 (0, 1, 0) 0 - 1) 6) (lt (wr m1 (0, 1, 4) (ix (m1 (0, 1, 0) 0 - 1)) (m1 (2, 0, 0) 7)) _) = some (v, m') ∧ _
    rw [R1.pl, nI_sub1 (by omega), gd_in (by omega) (by omega), ix_n (by omega), b7, lt_def]
    generalize e2 : wr m1 (0, 1, 4) (A 0 0 - 1) (nI (tV T n p)) = m2
    have o2 : Off (sLn 1) m1 m2 := by rw [← e2]; exact Off_wr (Off_refl _ _) rfl
    have H2 := TpC_off o2 rfl (fun _ => rfl) H1
    have R2 : RepL m2 1 (senA A (tV T n p)) := by
      obtain ⟨r1, r2, r3, r4, r5, r6, r7⟩ := R1
      have oth : ∀ j i, j ≠ 4 → m2 (0, 1, j) i = m1 (0, 1, j) i := fun j i hj => by rw [← e2, wr_off _ _ (by simp; omega)]
      have o : ∀ f, f ≠ 3 → senA A (tV T n p) f = A f := fun f hf => senA_o A _ hf
      refine ⟨?_, ?_, ?_, ?_, fun q hq => ?_, fun t ht => ?_, fun i hi => ?_⟩
      · rw [oth 0 0 (by omega), o 0 (by omega)]; exact r1
      · rw [oth 0 4 (by omega), o 4 (by omega)]; exact r2
      · rw [oth 0 11 (by omega), o 11 (by omega)]; exact r3
      · rw [oth 0 12 (by omega), o 12 (by omega)]; exact r4
      · rw [o 0 (by omega)] at hq
        obtain ⟨b1, b2, b3⟩ := r5 q hq
        rw [oth 2 _ (by omega), o 1 (by omega), o 2 (by omega), senA_3]
        refine ⟨b1, ?_, fun i hi => by rw [oth 3 _ (by omega)]; exact b3 i hi⟩
        rw [← e2, wr_get]
        by_cases e : q = A 0 0 - 1
        · rw [if_pos ⟨rfl, e⟩, e, upx_at]
        · rw [if_neg (fun w => e w.2), upx_ne _ e]; exact b2
      · rw [o 4 (by omega)] at ht
        rw [o 5 (by omega), o 6 (by omega), o 7 (by omega), o 8 (by omega), o 9 (by omega), o 10 (by omega), oth 6 _ (by omega), oth 7 _ (by omega), oth 8 _ (by omega), oth 9 _ (by omega), oth 10 _ (by omega), oth 11 _ (by omega)]
        exact r6 t ht
      · rw [o 12 (by omega)] at hi
        rw [o 13 (by omega), o 14 (by omega), o 15 (by omega), oth 14 _ (by omega), oth 15 _ (by omega), oth 16 _ (by omega)]
        exact r7 i hi
    have s2 : Off sTx m m2 := Off_trans (Off_mono o1 sTx_r) (Off_mono o2 sTx_l)
    obtain ⟨m3, e3, o3, v4, v5⟩ := takeSign_ok H2 hp1.2 ((o2 _ _ rfl).trans b4)
    rw [e3, bind_s]
    by_cases w : gC T n (tE T n p) = 0
    · rw [if_pos w, if_neg (fun y => y w)]
      exact ⟨_, m3, rfl, ResC.good (Off_trans s2 (Off_mono o3 sTx_r)) (v4 w).1 ((v4 w).2.trans ((o2 _ _ rfl).trans b2)) (RepL_off o3 (fun _ _ => rfl) R2)⟩
    · rw [if_neg w, if_pos w]
      exact ⟨_, m3, rfl, ResC.bad w (Off_trans s2 (Off_mono o3 sTx_r)) (v5 w)⟩
  · rw [if_neg z, if_pos n0, if_pos z]
    exact ⟨_, m1, rfl, ResC.bad z (Off_mono o1 sTx_r) (a2 z)⟩
theorem takeTrain_ok (H : TpC m T n) (hp : p ≤ n) (h4 : m (2, 0, 0) 4 = nI p) (R : RepL m 1 A) (O : OkP A) (hP : A 4 0 < 4) : ∃ v m', fR_takeTrain 1 m = some (v, m') ∧ ResC m m' v (trR T n A p) := by
  have n0 : nI 0 = 0 := rfl
  have n1 : ¬ nI 1 = 0 := by decide +kernel
  have hp1 := tE_le (T := T) hp
  have hp2 := tE_le (T := T) hp1.2
  have hp3 := tE_le (T := T) hp2.2
  unfold fR_takeTrain trR
  have c1 : nI (A 4 0) < (4 : Int32) := (nI_ltI (b := 4) (by omega) (by omega)).mpr hP
  obtain ⟨m1, e1, o1, a1, a2⟩ := takeNumber_ok H hp h4 (lo := 0) (hi := 5) (by omega) (by omega)
  have e1' : fR_takeNumber 0 5 m = some (nI (if nC T n p 0 5 = 0 then 1 else 0), m1) := e1
  rw [R.n, if_pos c1, e1', bind_s]
  by_cases z : nC T n p 0 5 = 0
  rotate_left
  · rw [if_neg z, if_pos n0, if_pos z]
    exact ⟨_, m1, rfl, ResC.bad z (Off_mono o1 sTx_r) (a2 z)⟩
  have nz := nC_0 z
  obtain ⟨b4, b5, b2, b7⟩ := a1 z
  have R1 : RepL m1 1 A := RepL_off o1 (fun _ _ => rfl) R
  have H1 := TpC_off o1 rfl (fun _ => rfl) H
  obtain ⟨m2, e2, o2, d1, d2⟩ := takeNumber_ok H1 hp1.2 b4 (lo := 0) (hi := 5) (by omega) (by omega)
  have e2' : fR_takeNumber 0 5 m1 = some (nI (if nC T n (tE T n p) 0 5 = 0 then 1 else 0), m2) := e2
  rw [if_pos z, if_neg n1, if_neg (fun w => w z)]
  show ∃ v m', lt (m1 (2, 0, 0) 7) _ = some (v, m') ∧ _
  rw [b7, lt_def]
  show ∃ v m', Option.bind (fR_takeNumber 0 5 m1) _ = some (v, m') ∧ _
  rw [e2', bind_s]
  have s2 : Off sTx m m2 := Off_trans (Off_mono o1 sTx_r) (Off_mono o2 sTx_r)
  by_cases w : nC T n (tE T n p) 0 5 = 0
  rotate_left
  · rw [if_neg w, if_pos n0, if_pos w]
    exact ⟨_, m2, rfl, ResC.bad w s2 (d2 w)⟩
  have nw := nC_0 w
  obtain ⟨f4, f5, f2, f7⟩ := d1 w
  have R2 : RepL m2 1 A := RepL_off o2 (fun _ _ => rfl) R1
  have H2 := TpC_off o2 rfl (fun _ => rfl) H1
  rw [if_pos w, if_neg n1, if_neg (fun y => y w)]
  show ∃ v m', lt (m2 (2, 0, 0) 7) _ = some (v, m') ∧ _
  rw [f7, lt_def]
  by_cases y : tV T n (tE T n p) = tV T n p
  · obtain ⟨m3, g1, g2, g3, g4⟩ := fail_ok (c := 4) f5
    have g1' : fR_fail 4 m2 = some (nI 0, m3) := g1
    rw [if_pos y, if_pos (by rw [y])]
    show ∃ v m', Option.bind (fR_fail 4 m2) _ = some (v, m') ∧ _
    rw [g1', bind_s]
    exact ⟨_, m3, rfl, ResC.bad (by omega) (Off_trans s2 (Off_mono g2 (fun r i h => sRd_f r i (sTx_r r i h)))) ⟨g3, g4⟩⟩
  · rw [if_neg y, if_neg (fun q => y ((nI_eq (by omega) (by omega)).mp q))]
    obtain ⟨m3, e3, o3, h1, h2⟩ := takeNumber_ok H2 hp2.2 f4 (lo := 1) (hi := 20) (by omega) (by omega)
    have e3' : fR_takeNumber 1 20 m2 = some (nI (if nC T n (tE T n (tE T n p)) 1 20 = 0 then 1 else 0), m3) := e3
    show ∃ v m', Option.bind (fR_takeNumber 1 20 m2) _ = some (v, m') ∧ _
    rw [e3', bind_s]
    have s3 : Off sTx m m3 := Off_trans s2 (Off_mono o3 sTx_r)
    by_cases x : nC T n (tE T n (tE T n p)) 1 20 = 0
    rotate_left
    · rw [if_neg x, if_pos n0, if_pos x]
      exact ⟨_, m3, rfl, ResC.bad x s3 (h2 x)⟩
    obtain ⟨k4, k5, k2, k7⟩ := h1 x
    have R3 : RepL m3 1 A := RepL_off o3 (fun _ _ => rfl) R2
    have H3 := TpC_off o3 rfl (fun _ => rfl) H2
    obtain ⟨m4, e4, o4, R4⟩ := openTrain_ok R3 hP (f := tV T n p) (t := tV T n (tE T n p)) (l := tV T n (tE T n (tE T n p))) (by omega) (by omega)
    have H4 := TpC_off o4 rfl (fun _ => rfl) H3
    have s4 := Off_trans s3 (Off_mono o4 sTx_l)
    rw [if_pos x, if_neg n1, if_neg (fun y => y x)]
    show ∃ v m', Option.bind (fL_openTrain 1 (nI (tV T n p)) (nI (tV T n (tE T n p))) (m3 (2, 0, 0) 7) m3) _ = some (v, m') ∧ _
    rw [k7, e4, bind_s]
    obtain ⟨m5, e5, o5, v4, v5⟩ := takeSign_ok H4 hp3.2 ((o4 _ _ rfl).trans k4)
    rw [e5, bind_s]
    by_cases q : gC T n (tE T n (tE T n (tE T n p))) = 0
    · rw [if_pos q, if_neg (fun y => y q)]
      refine ⟨_, m5, rfl, ResC.good (Off_trans s4 (Off_mono o5 sTx_r)) (v4 q).1 ?_ (RepL_off o5 (fun _ _ => rfl) R4)⟩
      rw [(v4 q).2, o4 _ _ rfl, k2, f2, b2]
    · rw [if_neg q, if_pos q]
      exact ⟨_, m5, rfl, ResC.bad q (Off_trans s4 (Off_mono o5 sTx_r)) (v5 q)⟩
end LineC
