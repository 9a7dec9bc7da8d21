/-! places and their tracks, told -/
def pl0 (A : Ab) : Ab := fun g => if g = 0 then fun _ => A 0 0 + 1 else if g = 1 then upx (A 1) (A 0 0) 0 else if g = 3 then upx (A 3) (A 0 0) 1 else A g
def trkA (A : Ab) (v : Nat) : Ab := fun g => if g = 1 then upx (A 1) (A 0 0 - 1) (A 1 (A 0 0 - 1) + 1) else if g = 2 then (fun x => if 3 * (A 0 0 - 1) ≤ x then insJ (fun i => A 2 (3 * (A 0 0 - 1) + i)) (cnt (fun i => decide (v ≤ A 2 (3 * (A 0 0 - 1) + i))) (A 1 (A 0 0 - 1))) v (x - 3 * (A 0 0 - 1)) else A 2 x) else A g
def senA (A : Ab) (v : Nat) : Ab := fun g => if g = 3 then upx (A 3) (A 0 0 - 1) v else A g
theorem pl0_o (A : Ab) {g : Nat} (h0 : g ≠ 0) (h1 : g ≠ 1) (h3 : g ≠ 3) : pl0 A g = A g := by unfold pl0; rw [if_neg h0, if_neg h1, if_neg h3]
theorem trkA_o (A : Ab) (v : Nat) {g : Nat} (h1 : g ≠ 1) (h2 : g ≠ 2) : trkA A v g = A g := by unfold trkA; rw [if_neg h1, if_neg h2]
theorem trkA_1 (A : Ab) (v : Nat) : trkA A v 1 = upx (A 1) (A 0 0 - 1) (A 1 (A 0 0 - 1) + 1) := rfl
theorem trkA_2 (A : Ab) (v x : Nat) : trkA A v 2 x = if 3 * (A 0 0 - 1) ≤ x then insJ (fun i => A 2 (3 * (A 0 0 - 1) + i)) (cnt (fun i => decide (v ≤ A 2 (3 * (A 0 0 - 1) + i))) (A 1 (A 0 0 - 1))) v (x - 3 * (A 0 0 - 1)) else A 2 x := rfl
theorem senA_o (A : Ab) (v : Nat) {g : Nat} (h : g ≠ 3) : senA A v g = A g := if_neg h
theorem senA_3 (A : Ab) (v : Nat) : senA A v 3 = upx (A 3) (A 0 0 - 1) v := rfl
def TrkOk (S : Nat → Nat) (c : Nat) (V : Nat → Nat) : Prop := (∀ i, i < c → 1 ≤ S i ∧ S i ≤ 20) ∧ (∀ i, i + 1 < c → S (i + 1) ≤ S i) ∧ (∀ i, i < c → 1 ≤ V i ∧ V i ≤ 20) ∧ ∀ x, cnt (fun i => decide (x ≤ V i)) c = cnt (fun i => decide (x ≤ S i)) c
theorem insJ_lt (f : Nat → Nat) {p v j : Nat} (h : j < p) : insJ f p v j = f j := if_pos h
theorem insJ_at (f : Nat → Nat) (p v : Nat) : insJ f p v p = v := by unfold insJ; rw [if_neg (Nat.lt_irrefl _), if_pos rfl]
theorem insJ_gt (f : Nat → Nat) {p v j : Nat} (h : p < j) : insJ f p v j = f (j - 1) := by unfold insJ; rw [if_neg (by omega), if_neg (by omega)]
theorem cnt_ins (P : Nat → Bool) (S : Nat → Nat) {q v : Nat} : ∀ {c : Nat}, q ≤ c → cnt (fun i => P (insJ S q v i)) (c + 1) = cnt (fun i => P (S i)) c + (if P v then 1 else 0)
  | 0, h => by
    have : q = 0 := by omega
    subst this
    rw [cnt_s, insJ_at]
    rfl
  | c + 1, h => by
    by_cases e : q = c + 1
    · subst e
      rw [cnt_s, insJ_at, cnt_congr (q := fun i => P (S i)) (fun i hi => by show P (insJ S (c + 1) v i) = _; rw [insJ_lt _ hi])]
    · have := cnt_ins P S (q := q) (v := v) (c := c) (by omega)
      rw [cnt_s, this, insJ_gt _ (by omega), cnt_s, Nat.add_sub_cancel]
      omega
theorem TrkOk_ins {S V : Nat → Nat} {c v : Nat} (h : TrkOk S c V) (v1 : 1 ≤ v) (v2 : v ≤ 20) : TrkOk (insJ S (cnt (fun i => decide (v ≤ S i)) c) v) (c + 1) (upx V c v) := by
  obtain ⟨a1, a2, a3, a4⟩ := h
  have pc := pre_cnt (S := S) (x := v) (m := c) a2
  have ql := cnt_le (fun i => decide (v ≤ S i)) c
  generalize cnt (fun i => decide (v ≤ S i)) c = q at pc ql
  have vl : ∀ j, j < c + 1 → (j < q ∧ insJ S q v j = S j ∧ v ≤ S j) ∨ (j = q ∧ insJ S q v j = v) ∨ (q < j ∧ insJ S q v j = S (j - 1) ∧ S (j - 1) < v) := by
    intro j hj
    rcases Nat.lt_trichotomy j q with h | h | h
    · exact Or.inl ⟨h, insJ_lt _ h, ((pc j).mp h).2⟩
    · subst h; exact Or.inr (Or.inl ⟨rfl, insJ_at _ _ _⟩)
    · refine Or.inr (Or.inr ⟨h, insJ_gt _ h, ?_⟩)
      have : ¬ (j - 1 < q) := by omega
      exact Nat.lt_of_not_le (fun w => this ((pc (j - 1)).mpr ⟨by omega, w⟩))
  refine ⟨fun i hi => ?_, fun i hi => ?_, fun i hi => ?_, fun x => ?_⟩
  · rcases vl i hi with ⟨b1, b2, b3⟩ | ⟨b1, b2⟩ | ⟨b1, b2, b3⟩
    · rw [b2]; exact a1 i (by omega)
    · rw [b2]; exact ⟨v1, v2⟩
    · rw [b2]; exact a1 _ (by omega)
  · rcases vl i (by omega) with ⟨b1, b2, b3⟩ | ⟨b1, b2⟩ | ⟨b1, b2, b3⟩
    · rcases vl (i + 1) hi with ⟨c1, c2, c3⟩ | ⟨c1, c2⟩ | ⟨c1, c2, c3⟩
      · rw [b2, c2]; exact a2 i (by omega)
      · rw [b2, c2]; exact b3
      · omega
    · rcases vl (i + 1) hi with ⟨c1, c2, c3⟩ | ⟨c1, c2⟩ | ⟨c1, c2, c3⟩
      · omega
      · omega
      · rw [b2, c2]; omega
    · rcases vl (i + 1) hi with ⟨c1, c2, c3⟩ | ⟨c1, c2⟩ | ⟨c1, c2, c3⟩
      · omega
      · omega
      · rw [b2, c2]
        have := a2 (i - 1) (by omega)
        rw [show i - 1 + 1 = i by omega] at this
        rw [Nat.add_sub_cancel]; exact this
  · by_cases e : i = c
    · subst e; rw [upx_at]; exact ⟨v1, v2⟩
    · rw [upx_ne _ e]; exact a3 i (by omega)
  · rw [cnt_ins (fun y => decide (x ≤ y)) S ql, cnt_s, upx_at, cnt_congr (q := fun i => decide (x ≤ V i)) (fun i hi => by show decide (x ≤ upx V c v i) = _; rw [upx_ne _ (by omega)]), a4 x]
/-- a place more -/
def PlS (A A3 : Ab) (c : Nat) (S : Nat → Nat) : Prop := A3 0 0 = A 0 0 + 1 ∧ (∀ p, p ≠ A 0 0 → A3 1 p = A 1 p) ∧ A3 1 (A 0 0) = c ∧ (∀ p, p ≠ A 0 0 → A3 3 p = A 3 p) ∧ A3 3 (A 0 0) = 1 ∧ (∀ x, x < 3 * A 0 0 → A3 2 x = A 2 x) ∧ (∀ i, i < c → A3 2 (3 * A 0 0 + i) = S i) ∧ ∀ g, 4 ≤ g → A3 g = A g
theorem PlS_0 (A : Ab) (S : Nat → Nat) : PlS A (pl0 A) 0 S := by
  refine ⟨rfl, fun p hp => ?_, ?_, fun p hp => ?_, ?_, fun x _ => ?_, fun i hi => absurd hi (by omega), fun g hg => pl0_o A (by omega) (by omega) (by omega)⟩
  · show upx (A 1) (A 0 0) 0 p = _
    rw [upx_ne _ hp]
  · show upx (A 1) (A 0 0) 0 _ = _
    rw [upx_at]
  · show upx (A 3) (A 0 0) 1 p = _
    rw [upx_ne _ hp]
  · show upx (A 3) (A 0 0) 1 _ = _
    rw [upx_at]
  · rw [pl0_o A (by omega) (by omega) (by omega)]
theorem PlS_s {A A3 : Ab} {c v : Nat} {S : Nat → Nat} (h : PlS A A3 c S) : PlS A (trkA A3 v) (c + 1) (insJ S (cnt (fun i => decide (v ≤ S i)) c) v) := by
  obtain ⟨a0, a1, a2, a3, a4, a5, a6, a7⟩ := h
  have e : A3 0 0 - 1 = A 0 0 := by omega
  refine ⟨?_, fun p hp => ?_, ?_, fun p hp => ?_, ?_, fun x hx => ?_, fun i hi => ?_, fun g hg => ?_⟩
  · rw [trkA_o A3 v (by omega) (by omega)]; exact a0
  · rw [trkA_1, e, upx_ne _ hp]; exact a1 p hp
  · rw [trkA_1, e, upx_at, a2]
  · rw [trkA_o A3 v (by omega) (by omega)]; exact a3 p hp
  · rw [trkA_o A3 v (by omega) (by omega)]; exact a4
  · rw [trkA_2, e, if_neg (by omega)]; exact a5 x hx
  · rw [trkA_2, e, if_pos (by omega), a2, show 3 * A 0 0 + i - 3 * A 0 0 = i by omega]
    rw [cnt_congr (q := fun i => decide (v ≤ S i)) (fun j hj => by show decide (v ≤ A3 2 (3 * A 0 0 + j)) = _; rw [a6 j hj])]
    have ql := cnt_le (fun i => decide (v ≤ S i)) c
    rcases Nat.lt_trichotomy i (cnt (fun i => decide (v ≤ S i)) c) with h | h | h
    · rw [insJ_lt _ h, insJ_lt _ h]; exact a6 i (by omega)
    · rw [← h, insJ_at, insJ_at]
    · rw [insJ_gt _ h, insJ_gt _ h]; exact a6 _ (by omega)
  · rw [trkA_o A3 v (by omega) (by omega)]; exact a7 g hg
/-- what a text has told so far -/
def OkP (A : Ab) : Prop :=
  A 0 0 ≤ 6 ∧ A 4 0 ≤ 4 ∧ A 11 0 = 0 ∧ A 12 0 = 0 ∧
  (∀ p, p < A 0 0 → 1 ≤ A 1 p ∧ A 1 p ≤ 3 ∧ 1 ≤ A 3 p ∧ A 3 p ≤ 9 ∧ (∀ i, i < A 1 p → 1 ≤ A 2 (3 * p + i) ∧ A 2 (3 * p + i) ≤ 20) ∧ ∀ i, i + 1 < A 1 p → A 2 (3 * p + (i + 1)) ≤ A 2 (3 * p + i)) ∧
  ∀ t, t < A 4 0 → A 5 t ≤ 5 ∧ A 6 t ≤ 5 ∧ A 5 t ≠ A 6 t ∧ 1 ≤ A 7 t ∧ A 7 t ≤ 20 ∧ A 8 t = distA A t ∧ A 9 t = 0 ∧ A 10 t = 0
theorem OkP_ok {A : Ab} (h : OkP A) (g : ∀ t, t < A 4 0 → A 5 t < A 0 0 ∧ A 6 t < A 0 0) : OkA A := by
  obtain ⟨a1, a2, a3, a4, a5, a6⟩ := h
  refine ⟨a1, a2, by omega, by omega, a5, fun t ht => ?_, fun i hi => by omega⟩
  obtain ⟨b1, b2, b3, b4, b5, b6, b7, b8⟩ := a6 t ht
  have gt := g t ht
  refine ⟨gt.1, gt.2, b3, b4, b5, by omega, by omega, fun _ => ?_, fun z => by omega, fun z => by omega, by omega, fun z => by omega⟩
  rw [b6]
  unfold distA
  split <;> omega
theorem OkP_pl {A A3 : Ab} {c : Nat} {S V : Nat → Nat} (h : OkP A) (hP : A 0 0 < 6) (g : PlS A A3 c S) (t : TrkOk S c V) (c1 : 1 ≤ c) (c3 : c ≤ 3) : OkP A3 := by
  obtain ⟨a1, a2, a3, a4, a5, a6⟩ := h
  obtain ⟨g0, g1, g2, g3, g4, g5, g6, g7⟩ := g
  have o : ∀ f, 4 ≤ f → A3 f = A f := g7
  refine ⟨by omega, by rw [o 4 (by omega)]; exact a2, by rw [o 11 (by omega)]; exact a3, by rw [o 12 (by omega)]; exact a4, fun p hp => ?_, fun u hu => ?_⟩
  · by_cases e : p = A 0 0
    · subst e
      rw [g2, g4]
      refine ⟨c1, c3, by omega, by omega, fun i hi => ?_, fun i hi => ?_⟩
      · rw [g6 i hi]; exact t.1 i hi
      · rw [g6 i (by omega), g6 _ hi]; exact t.2.1 i hi
    · have hp' : p < A 0 0 := by omega
      obtain ⟨b1, b2, b3, b4, b5, b6⟩ := a5 p hp'
      rw [g1 p e, g3 p e]
      refine ⟨b1, b2, b3, b4, fun i hi => ?_, fun i hi => ?_⟩
      · rw [g5 _ (by omega)]; exact b5 i hi
      · rw [g5 _ (by omega), g5 _ (by omega)]; exact b6 i hi
  · rw [o 4 (by omega)] at hu
    have di : distA A3 u = distA A u := by unfold distA; rw [o 5 (by omega), o 6 (by omega)]
    rw [di, o 5 (by omega), o 6 (by omega), o 7 (by omega), o 8 (by omega), o 9 (by omega), o 10 (by omega)]
    exact a6 u hu
theorem OkP_sen {A : Ab} {v : Nat} (h : OkP A) (v1 : 1 ≤ v) (v9 : v ≤ 9) : OkP (senA A v) := by
  obtain ⟨a1, a2, a3, a4, a5, a6⟩ := h
  have o : ∀ f, f ≠ 3 → senA A v f = A f := fun f hf => senA_o A v hf
  have di : ∀ u, distA (senA A v) u = distA A u := fun u => by unfold distA; rw [o 5 (by omega), o 6 (by omega)]
  unfold OkP
  rw [o 0 (by omega), o 1 (by omega), o 2 (by omega), o 4 (by omega), o 5 (by omega), o 6 (by omega), o 7 (by omega), o 8 (by omega), o 9 (by omega), o 10 (by omega), o 11 (by omega), o 12 (by omega), senA_3]
  refine ⟨a1, a2, a3, a4, fun p hp => ?_, fun u hu => by rw [di]; exact a6 u hu⟩
  obtain ⟨b1, b2, b3, b4, b5, b6⟩ := a5 p hp
  by_cases e : p = A 0 0 - 1
  · subst e; rw [upx_at]; exact ⟨b1, b2, v1, v9, b5, b6⟩
  · rw [upx_ne _ e]; exact ⟨b1, b2, b3, b4, b5, b6⟩
theorem OkP_add {A : Ab} {f t l : Nat} (h : OkP A) (h4 : A 4 0 < 4) (hf : f ≤ 5) (ht : t ≤ 5) (hne : f ≠ t) (l1 : 1 ≤ l) (l2 : l ≤ 20) : OkP (addA A f t l) := by
  obtain ⟨a1, a2, a3, a4, a5, a6⟩ := h
  have o : ∀ g, g < 4 ∨ 10 < g → addA A f t l g = A g := fun g hg => addA_o A f t l hg
  unfold OkP
  rw [o 0 (by omega), o 1 (by omega), o 2 (by omega), o 3 (by omega), o 11 (by omega), o 12 (by omega), addA_4]
  refine ⟨a1, by omega, a3, a4, a5, fun u hu => ?_⟩
  unfold distA
  rw [addA_5, addA_6, addA_7, addA_8, addA_9, addA_10]
  by_cases e : u = A 4 0
  · subst e
    rw [upx_at, upx_at, upx_at, upx_at, upx_at, upx_at]
    exact ⟨hf, ht, hne, l1, l2, rfl, rfl, rfl⟩
  · rw [upx_ne _ e, upx_ne _ e, upx_ne _ e, upx_ne _ e, upx_ne _ e, upx_ne _ e]
    exact a6 u (by omega)
section Trk2
variable {m : Mem} {k : Nat} {A : Ab} {B : Nat → Nat → Nat}
theorem openPlace_ok (R : RepL m k A) (h : A 0 0 < 6) : ∃ m', fL_openPlace k m = some m' ∧ Off (sLn k) m m' ∧ RepL m' k (pl0 A) := by
  unfold fL_openPlace
  have h0 := R.pl
  have c6 : ¬ (6 : Int32) ≤ nI (A 0 0) := fun z => by have := (nI_leI (a := 6) (by omega) (by omega)).mp z; omega
  rw [h0, if_neg c6, gd_in (by omega) (by omega), ix_n (by omega), lt_def]
  generalize e1 : wr m (0, k, 2) (A 0 0) 0 = m1
  have h1 : m1 (0, k, 0) 0 = nI (A 0 0) := by rw [← e1, wr_off _ _ (by simp)]; exact h0
  rw [h1, gd_in (by omega) (by omega), ix_n (by omega), lt_def]
  generalize e2 : wr m1 (0, k, 4) (A 0 0) 1 = m2
  have h2 : m2 (0, k, 0) 0 = nI (A 0 0) := by rw [← e2, wr_off _ _ (by simp)]; exact h1
  rw [h2, nI_s1, lt_def]
  have hk : ∀ j i, sLn k (0, k, j) i = true := fun j i => sLn_eq k j i
  refine ⟨_, rfl, ?_, ?_⟩
  · rw [← e2, ← e1]
    exact Off_wr (Off_wr (Off_wr (Off_refl _ _) (hk _ _)) (hk _ _)) (hk _ _)
  · obtain ⟨r1, r2, r3, r4, r5, r6, r7⟩ := R
    have oth : ∀ j i, j ≠ 2 → j ≠ 4 → ¬ (j = 0 ∧ i = 0) → wr m2 (0, k, 0) 0 (nI (A 0 0 + 1)) (0, k, j) i = m (0, k, j) i := by
      intro j i j2 j4 hj
      rw [wr_off _ _ (by simp; omega), ← e2, wr_off _ _ (by simp; omega), ← e1, wr_off _ _ (by simp; omega)]
    have g2 : ∀ i, wr m2 (0, k, 0) 0 (nI (A 0 0 + 1)) (0, k, 2) i = if i = A 0 0 then nI 0 else m (0, k, 2) i := by
      intro i
      rw [wr_off _ _ (by simp), ← e2, wr_off _ _ (by simp), ← e1, wr_get]
      simp
      rfl
    have g4 : ∀ i, wr m2 (0, k, 0) 0 (nI (A 0 0 + 1)) (0, k, 4) i = if i = A 0 0 then nI 1 else m (0, k, 4) i := by
      intro i
      rw [wr_off _ _ (by simp), ← e2, wr_get, ← e1, wr_off _ _ (by simp)]
      simp
      rfl
    have o : ∀ g, 4 ≤ g → pl0 A g = A g := fun g hg => pl0_o A (by omega) (by omega) (by omega)
    refine ⟨wr_at _ _ _ _, ?_, ?_, ?_, fun p hp => ?_, fun t ht => ?_, fun i hi => ?_⟩
    · rw [oth 0 4 (by omega) (by omega) (by omega), o 4 (by omega)]; exact r2
    · rw [oth 0 11 (by omega) (by omega) (by omega), o 11 (by omega)]; exact r3
    · rw [oth 0 12 (by omega) (by omega) (by omega), o 12 (by omega)]; exact r4
    · have hp2 : p < A 0 0 + 1 := hp
      obtain ⟨q0, q1, q2, q3, q4, q5, q6, q7⟩ := PlS_0 A (fun _ => 0)
      rw [g2, g4]
      by_cases e : p = A 0 0
      · subst e
        rw [if_pos rfl, if_pos rfl, q2, q4]
        exact ⟨rfl, rfl, fun i hi => absurd hi (by omega)⟩
      · rw [if_neg e, if_neg e, q1 p e, q3 p e]
        have := r5 p (by omega)
        refine ⟨this.1, this.2.1, fun i hi => ?_⟩
        rw [oth 3 _ (by omega) (by omega) (by omega), pl0_o A (g := 2) (by omega) (by omega) (by omega)]
        exact this.2.2 i hi
    · rw [o 4 (by omega)] at ht
      rw [o 5 (by omega), o 6 (by omega), o 7 (by omega), o 8 (by omega), o 9 (by omega), o 10 (by omega), oth 6 _ (by omega) (by omega) (by omega), oth 7 _ (by omega) (by omega) (by omega), oth 8 _ (by omega) (by omega) (by omega), oth 9 _ (by omega) (by omega) (by omega), oth 10 _ (by omega) (by omega) (by omega), oth 11 _ (by omega) (by omega) (by omega)]
      exact r6 t ht
    · rw [o 12 (by omega)] at hi
      rw [o 13 (by omega), o 14 (by omega), o 15 (by omega), oth 14 _ (by omega) (by omega) (by omega), oth 15 _ (by omega) (by omega) (by omega), oth 16 _ (by omega) (by omega) (by omega)]
      exact r7 i hi
theorem openTrack_ok (R : RepL m k A) (h1 : 1 ≤ A 0 0) (h6 : A 0 0 ≤ 6) (hc : A 1 (A 0 0 - 1) < 3) (h3 : ∀ p, p < A 0 0 → A 1 p ≤ 3) (hs : ∀ i, i + 1 < A 1 (A 0 0 - 1) → A 2 (3 * (A 0 0 - 1) + (i + 1)) ≤ A 2 (3 * (A 0 0 - 1) + i)) (hb : ∀ i, i < A 1 (A 0 0 - 1) → A 2 (3 * (A 0 0 - 1) + i) < 2 ^ 31) {v : Nat} (hv : v < 2 ^ 31) : ∃ m', fL_openTrack k (nI v) m = some m' ∧ Off (sLn k) m m' ∧ RepL m' k (trkA A v) := by
  have hk : ∀ j i, sLn k (0, k, j) i = true := fun j i => sLn_eq k j i
  have h0 := R.pl
  have pc := pre_cnt (S := fun i => A 2 (3 * (A 0 0 - 1) + i)) (x := v) (m := A 1 (A 0 0 - 1)) hs
  have ql := cnt_le (fun i => decide (v ≤ A 2 (3 * (A 0 0 - 1) + i))) (A 1 (A 0 0 - 1))
  obtain ⟨P, hP⟩ : ∃ P, A 0 0 = P + 1 := ⟨A 0 0 - 1, by omega⟩
  have eP : A 0 0 - 1 = P := by omega
  have t1 := trkA_1 A v
  have t2 := trkA_2 A v
  rw [eP] at hc hs hb pc ql t1
  simp only [eP] at t2
  generalize hq : cnt (fun i => decide (v ≤ A 2 (3 * P + i))) (A 1 P) = q at pc ql t2
  have tk := R.tk (p := P) (by omega)
  unfold fL_openTrack
  have c0 : ¬ (nI P : Int32) < 0 := nI_pos (by omega)
  have e1 : nI (A 0 0) - 1 = nI P := by rw [nI_sub1 (by omega), eP]
  have c3 : nI (A 1 P) < (3 : Int32) := (nI_ltI (b := 3) (by omega) (by omega)).mpr hc
  have m3 : nI P * 3 = nI (3 * P) := by
    have : (3 : Int32) = nI 3 := rfl
    rw [this, pk_mul, Nat.mul_comm]
  rw [h0, e1, lt_def, if_neg c0, gd_in (by omega) (by omega), ix_n (by omega), tk, if_pos c3, m3, lt_def, gd_in (by omega) (by omega), nI_add, lt_def]
  refine lz11_m (B := bL_openTrack_36 k (nI v) (nI P) (nI (3 * P))) (fun w => ∃ m', w = some m' ∧ Off (sLn k) m m' ∧ RepL m' k (trkA A v)) (fun x m' => ∃ i, q ≤ i ∧ i ≤ A 1 P ∧ x = nI (3 * P + i) ∧ Off (fun r x => r == (0, k, 3) && decide (3 * P ≤ x)) m m' ∧ (∀ j, j < i → m' (0, k, 3) (3 * P + j) = nI (A 2 (3 * P + j))) ∧ ∀ j, i < j → j ≤ A 1 P → m' (0, k, 3) (3 * P + j) = nI (A 2 (3 * P + (j - 1)))) (fun x _ => ix x) ?_ FU _ _ ⟨A 1 P, ql, Nat.le_refl _, rfl, Off_refl _ _, fun j hj => R.le (by omega) hj, fun j h1 h2 => absurd h1 (by omega)⟩ (by rw [ix_n (by omega)]; exact FU_gt (by omega))
  rintro sf x m' ⟨i, i1, i2, rfl, o1, s1, s2⟩
  unfold bL_openTrack_36
  by_cases ei : i = q
  · right
    have ex : ∃ m'_1, jL_openTrack_77 k (nI v) (nI P) (nI (3 * P + i)) m' = some m'_1 ∧ Off (sLn k) m m'_1 ∧ RepL m'_1 k (trkA A v) := by
      subst ei
      unfold jL_openTrack_77
      rw [gd_in (by omega) (by omega), ix_n (by omega), lt_def]
      generalize e2 : wr m' (0, k, 3) (3 * P + i) (nI v) = m2
      have k2 : m2 (0, k, 2) P = nI (A 1 P) := by
        rw [← e2, wr_off _ _ (by simp), o1 _ _ (by simp)]; exact tk
      rw [gd_in (by omega) (by omega), gd_in (by omega) (by omega), ix_n (by omega), k2, nI_s1, lt_def]
      have o2 : Off (fun r x => r == (0, k, 3) && decide (3 * P ≤ x)) m m2 := by
        rw [← e2]; exact Off_wr o1 (by simp)
      refine ⟨_, rfl, Off_wr (Off_mono o2 (fun r y hr => ?_)) (hk _ _), ?_⟩
      · simp only [Bool.and_eq_false_iff]
        left
        cases w : r == (0, k, 3) with
        | true =>
          rw [beq_iff_eq] at w
          rw [w, hk] at hr
          cases hr
        | false => rfl
      · obtain ⟨r1, r2, r3, r4, r5, r6, r7⟩ := R
        have oth : ∀ j y, j ≠ 2 → j ≠ 3 → wr m2 (0, k, 2) P (nI (A 1 P + 1)) (0, k, j) y = m (0, k, j) y := fun j y h2 h3 => by
          rw [wr_off _ _ (by simp; omega), o2 _ _ (by simp [h3])]
        have o : ∀ g, g ≠ 1 → g ≠ 2 → trkA A v g = A g := fun g a b => trkA_o A v a b
        refine ⟨?_, ?_, ?_, ?_, fun p hp => ?_, fun t ht => ?_, fun j hj => ?_⟩
        · rw [oth 0 0 (by omega) (by omega), o 0 (by omega) (by omega)]; exact r1
        · rw [oth 0 4 (by omega) (by omega), o 4 (by omega) (by omega)]; exact r2
        · rw [oth 0 11 (by omega) (by omega), o 11 (by omega) (by omega)]; exact r3
        · rw [oth 0 12 (by omega) (by omega), o 12 (by omega) (by omega)]; exact r4
        · rw [o 0 (by omega) (by omega)] at hp
          rw [oth 4 _ (by omega) (by omega), o 3 (by omega) (by omega), t1, wr_get]
          by_cases e : p = P
          · subst e
            rw [if_pos ⟨rfl, rfl⟩, upx_at]
            refine ⟨rfl, (r5 p hp).2.1, fun j hj => ?_⟩
            rw [wr_off _ _ (by simp), t2, if_pos (by omega), show 3 * p + j - 3 * p = j by omega]
            rcases Nat.lt_trichotomy j i with h | h | h
            · rw [insJ_lt _ h, ← e2, wr_off _ _ (by simp; omega)]; exact s1 j h
            · subst h; rw [insJ_at, ← e2, wr_at]
            · rw [insJ_gt _ h, ← e2, wr_off _ _ (by simp; omega)]; exact s2 j h (by omega)
          · rw [if_neg (fun z => e z.2), upx_ne _ e, o2 _ _ (by simp)]
            obtain ⟨b1, b2, b3⟩ := r5 p hp
            refine ⟨b1, b2, fun j hj => ?_⟩
            have := h3 p hp
            rw [wr_off _ _ (by simp), o2 _ _ (by simp; omega), t2, if_neg (by omega)]
            exact b3 j hj
        · rw [o 4 (by omega) (by omega)] at ht
          rw [o 5 (by omega) (by omega), o 6 (by omega) (by omega), o 7 (by omega) (by omega), o 8 (by omega) (by omega), o 9 (by omega) (by omega), o 10 (by omega) (by omega), oth 6 _ (by omega) (by omega), oth 7 _ (by omega) (by omega), oth 8 _ (by omega) (by omega), oth 9 _ (by omega) (by omega), oth 10 _ (by omega) (by omega), oth 11 _ (by omega) (by omega)]
          exact r6 t ht
        · rw [o 12 (by omega) (by omega)] at hj
          rw [o 13 (by omega) (by omega), o 14 (by omega) (by omega), o 15 (by omega) (by omega), oth 14 _ (by omega) (by omega), oth 15 _ (by omega) (by omega), oth 16 _ (by omega) (by omega)]
          exact r7 j hj
    by_cases i0 : i = 0
    · rw [if_pos ((nI_leI (by omega) (by omega)).mpr (by omega))]
      exact ex
    · have bb := (pc (i - 1)).mp (by omega)
      have vb := s1 (i - 1) (by omega)
      rw [show 3 * P + (i - 1) = 3 * P + i - 1 by omega] at vb
      have hbi := hb (i - 1) (by omega)
      have bb2 : v ≤ A 2 (3 * P + i - 1) := by have := bb.2; rw [show 3 * P + (i - 1) = 3 * P + i - 1 by omega] at this; exact this
      rw [show 3 * P + (i - 1) = 3 * P + i - 1 by omega] at hbi
      rw [if_neg (fun z => by have := (nI_leI (by omega) (by omega)).mp z; omega), nI_sub1 (by omega), gd_in (by omega) (by omega), ix_n (by omega), vb, if_pos ((nI_leI hv hbi).mpr bb2)]
      exact ex
  · left
    have vb := s1 (i - 1) (by omega)
    rw [show 3 * P + (i - 1) = 3 * P + i - 1 by omega] at vb
    have hbi := hb (i - 1) (by omega)
    rw [show 3 * P + (i - 1) = 3 * P + i - 1 by omega] at hbi
    have nb : ¬ v ≤ A 2 (3 * P + i - 1) := fun z => by
      have := (pc (i - 1)).mpr ⟨by omega, by show v ≤ A 2 (3 * P + (i - 1)); rw [show 3 * P + (i - 1) = 3 * P + i - 1 by omega]; exact z⟩
      omega
    rw [if_neg (fun z => by have := (nI_leI (by omega) (by omega)).mp z; omega), nI_sub1 (by omega), gd_in (by omega) (by omega), ix_n (n := 3 * P + i - 1) (by omega), vb, if_neg (fun z => nb ((nI_leI hv hbi).mp z)), gd_in (by omega) (by omega), gd_in (by omega) (by omega), ix_n (n := 3 * P + i) (by omega), lt_def, nI_m1 (by omega), lt_def]
    refine ⟨_, _, ⟨i - 1, by omega, by omega, by congr 1; omega, Off_wr o1 (by simp), fun j hj => ?_, fun j j1 j2 => ?_⟩, ?_, rfl⟩
    · rw [wr_off _ _ (by simp; omega)]; exact s1 j (by omega)
    · rw [wr_get]
      by_cases e : j = i
      · subst e
        rw [if_pos ⟨rfl, rfl⟩, show 3 * P + (j - 1) = 3 * P + j - 1 by omega]
      · rw [if_neg (fun z => e (by have := z.2; omega))]
        exact s2 j (by omega) j2
    · (try simp (disch := omega) only [ix_n]); omega
end Trk2
