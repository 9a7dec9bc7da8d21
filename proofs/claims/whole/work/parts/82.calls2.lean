section Calls2
variable {N : Nat}
theorem sTf_img (k j i : Nat) (h : 2 ≤ k) : sTf (0, k, j) i = false := by
  show (sLn 1 (0, k, j) i || ((0 : Nat) == 1 || ((0, k, j) : Rf) == (2, 0, 0))) = false
  rw [sLn_big (by omega)]
  simp
theorem stp_text : StpB N fD_text fM_text := by
  rintro μ ⟨⟨A, B, h⟩, r⟩
  obtain ⟨R, RR, O, S, C, hA⟩ := id h
  obtain ⟨⟨T, n, tc, tm⟩, fl, im, sh, tr⟩ := id r
  obtain ⟨m1, M, e1, x1, a1, a2, a3, a4, a5⟩ := textD_ok tc
  by_cases z : (txF T n M).1 = 0
  · obtain ⟨o1, R1, P1, k0, k1⟩ := a5 z
    have tm1 : TpM m1 T n := TpM_off o1 rfl (fun _ => rfl) tm
    obtain ⟨m2, M', e2, x2, b1, b2, b3, b4⟩ := textM_ok tm1
    have eM : M' = M := TxM_un x2 x1
    subst eM
    obtain ⟨o2, ⟨B', RR2⟩, q0, q1⟩ := b4 z
    have zb : bhC (stP T n M').1 = 0 := by
      unfold txF at z
      by_cases w : (txR T n M').1 = 0
      · rw [if_pos w] at z; exact z
      · rw [if_neg w] at z; exact absurd z w
    obtain ⟨g1, g2⟩ := bhC_0 zb
    have O' := OkP_ok P1 g1
    refine ⟨_, m1, m2, e1, e2, ⟨⟨_, B', RepL_off o2 (fun _ _ => rfl) R1, RR2, O', g2, Cache_off o2 (fun _ _ => rfl) (a3 _), by have := P1.2.2.1; omega⟩, ⟨T, 0, ⟨Nat.zero_le _, (o2 _ _ rfl).trans a1, fun i hi => absurd hi (by omega)⟩, ⟨Nat.zero_le _, b1, fun i hi => absurd hi (by omega)⟩⟩, ?_, fun k hk => ?_, fun k hk => ShtK_off o2 (fun _ _ _ => rfl) (fun _ => rfl) (fun _ => rfl) (fun _ => rfl) (ShtK_off o1 (fun _ _ _ => rfl) (fun _ => rfl) (fun _ => rfl) (fun _ => rfl) (sh k hk)), ?_⟩⟩
    · unfold Flt
      rw [o2 _ _ rfl, a2, b2]
    · have : k = 0 ∨ k = 1 := by omega
      rcases this with rfl | rfl
      · exact Or.inl ⟨(o2 _ _ rfl).trans k0, q0⟩
      · exact Or.inl ⟨(o2 _ _ rfl).trans k1, q1⟩
    · unfold Trn at *
      rw [o2 _ _ rfl, o1 _ _ rfl, o2 _ _ rfl, o1 _ _ rfl]; exact tr
  · have o1 := a4 z
    have tm1 : TpM m1 T n := TpM_off o1 rfl (fun _ => rfl) tm
    obtain ⟨m2, M', e2, x2, b1, b2, b3, b4⟩ := textM_ok tm1
    have eM : M' = M := TxM_un x2 x1
    subst eM
    obtain ⟨o2, v2⟩ := b3 z
    refine ⟨_, m1, m2, e1, e2, Inv_n ⟨⟨A, B, RepL_off o2 (fun _ _ => rfl) (RepL_off o1 (fun _ _ => rfl) R), RepR_okx (RepR_off o1 (fun _ => rfl) RR) O v2, O, S, Cache_off o2 (fun _ _ => rfl) (a3 _), hA⟩, ⟨T, 0, ⟨Nat.zero_le _, (o2 _ _ rfl).trans a1, fun i hi => absurd hi (by omega)⟩, ⟨Nat.zero_le _, b1, fun i hi => absurd hi (by omega)⟩⟩, ?_, fun k hk => ImgK_off o2 (fun _ => rfl) (fun _ => rfl) (fun _ _ _ _ => rfl) (fun _ => rfl) (ImgK_off o1 (fun _ => rfl) (fun _ => rfl) (fun k j i h => sTf_img k j i h) (fun _ => rfl) (im k hk)), fun k hk => ShtK_off o2 (fun _ _ _ => rfl) (fun _ => rfl) (fun _ => rfl) (fun _ => rfl) (ShtK_off o1 (fun _ _ _ => rfl) (fun _ => rfl) (fun _ => rfl) (fun _ => rfl) (sh k hk)), ?_⟩⟩
    · unfold Flt
      rw [o2 _ _ rfl, a2, b2]
    · unfold Trn at *
      rw [o2 _ _ rfl, o1 _ _ rfl, o2 _ _ rfl, o1 _ _ rfl]; exact tr
/-! trains by a seed -/
def nxS (s : Int32) : Int32 := s * 1103515245 + 12345
def gtS (s : Int32) : Int32 := ((nxS s).toUInt32 >>> ((16 : Int32).toUInt32 &&& Int32.toUInt32 31)).toInt32 &&& 32767
theorem got_eq (x : Int32) : ((x.toUInt32 >>> ((16 : Int32).toUInt32 &&& Int32.toUInt32 31)).toInt32 &&& 32767) = ((x >>> ((16 &&& 31) : Int32)) &&& 32767) := by
  rw [pk_and _ (m := 32767) 15 (by decide +kernel), pk_and _ (m := 32767) 15 (by decide +kernel), pk_ushr x 16 16 (by decide +kernel)]
  congr 1
  have h := pk_shr x ((16 &&& 31) : Int32) 16 (by decide +kernel)
  rw [Int.shiftRight_eq_div_pow] at h
  generalize hy : (x >>> ((16 &&& 31) : Int32)) = y at h ⊢
  have a1 : x.toInt = x.toBitVec.toInt := rfl
  have b1 : y.toInt = y.toBitVec.toInt := rfl
  rw [a1, b1, BitVec.toInt_eq_toNat_cond, BitVec.toInt_eq_toNat_cond] at h
  have u := x.toBitVec.isLt
  have w := y.toBitVec.isLt
  generalize x.toBitVec.toNat = p at h u ⊢
  generalize y.toBitVec.toNat = q at h w ⊢
  split at h <;> split at h <;> omega
def drX (A : Ab) (s : Int32) : Int32 := gtS s - gtS s / nI (A 0 0) * nI (A 0 0)
def drY (A : Ab) (s : Int32) : Int32 := gtS s / 8 - gtS s / 8 / nI (A 0 0) * nI (A 0 0)
def drZ (s : Int32) : Int32 := gtS s / 64 - gtS s / 64 / 6 * 6 + 1
noncomputable def drS (A : Ab) (s : Int32) : Nat → Ab × Int32 × Nat
  | 0 => (A, s, 0)
  | i + 1 => (adN (drS A s i).1 (drX A (drS A s i).2.1) (drY A (drS A s i).2.1) (drZ (drS A s i).2.1), nxS (drS A s i).2.1, (drS A s i).2.2 + (if adQ (drS A s i).1 (drX A (drS A s i).2.1) (drY A (drS A s i).2.1) (drZ (drS A s i).2.1) then 1 else 0))
theorem drS_ok {A : Ab} (O : OkA A) (S : SafeA A (dA A)) (s : Int32) : ∀ i, OkA (drS A s i).1 ∧ SafeA (drS A s i).1 (dA (drS A s i).1) ∧ ExtA A (drS A s i).1 ∧ (drS A s i).2.2 ≤ i
  | 0 => ⟨O, S, ExtA_refl A, Nat.le_refl _⟩
  | i + 1 => by
    obtain ⟨a, b, c, d⟩ := drS_ok O S s i
    obtain ⟨x, y, z⟩ := adN_ok a b (drX A (drS A s i).2.1) (drY A (drS A s i).2.1) (drZ (drS A s i).2.1)
    refine ⟨x, y, ExtA_trans c z, ?_⟩
    show (drS A s i).2.2 + _ ≤ i + 1
    split <;> omega
theorem adV_pos {A : Ab} {x y z : Int32} (O : OkA A) : adV A x y z ≤ 0 ↔ adQ A x y z = false := by
  have hn := O.n4
  cases h : adQ A x y z with
  | true =>
    rw [(adQ_t h).2.2.2.1]
    have : ¬ nI (A 4 0 + 1) ≤ (0 : Int32) := nI_neg (by omega) (by omega)
    simp [this]
  | false =>
    rcases (adQ_f h).1 with e | e | e <;> rw [e] <;> simp <;> decide +kernel
theorem adV_neg {A : Ab} {x y z : Int32} (O : OkA A) : 0 ≤ adV A x y z ↔ adQ A x y z = true := by
  have hn := O.n4
  cases h : adQ A x y z with
  | true =>
    rw [(adQ_t h).2.2.2.1]
    have : (0 : Int32) ≤ nI (A 4 0 + 1) := nI_pos' (by omega)
    simp [this]
  | false =>
    rcases (adQ_f h).1 with e | e | e <;> rw [e] <;> simp <;> decide +kernel
theorem g8 : (!((8 : Nat) == 0)) = true := by decide +kernel
theorem g64 : (!((64 : Nat) == 0)) = true := by decide +kernel
theorem g6 : (!((6 : Nat) == 0)) = true := by decide +kernel
theorem gP {p : Nat} (h1 : 1 ≤ p) (h2 : p < 2 ^ 31) : (!(nI p == (0 : Int32))) = true := by
  have : ¬ nI p = (0 : Int32) := nI_nz0 (by omega) h2
  simp [this]
theorem drawD_ok {μ : Mem} {A : Ab} (R : RepL μ 0 A) (O : OkA A) (S : SafeA A (dA A)) (C : Cache μ A) (hP : 1 ≤ A 0 0) (s : Int32) {n : Nat} (hn : n ≤ 8) : ∃ μ', lz31 (bD_draw_35 (nI n)) FU (nI 0) s (nI 0) μ = some (nI (drS A s n).2.2, μ') ∧ Off sAd μ μ' ∧ RepL μ' 0 (drS A s n).1 ∧ Cache μ' (drS A s n).1 := by
  have h6 := O.p6
  refine lz31_m (B := bD_draw_35 (nI n)) (fun w => ∃ μ', w = some (nI (drS A s n).2.2, μ') ∧ Off sAd μ μ' ∧ RepL μ' 0 (drS A s n).1 ∧ Cache μ' (drS A s n).1) (fun a b c m => ∃ i, i ≤ n ∧ a = nI (drS A s i).2.2 ∧ b = (drS A s i).2.1 ∧ c = nI i ∧ Off sAd μ m ∧ RepL m 0 (drS A s i).1 ∧ Cache m (drS A s i).1) (fun _ _ c _ => 20 - ix c) ?_ FU _ _ _ _ ⟨0, by omega, rfl, rfl, rfl, Off_refl _ _, R, C⟩ (by show 20 - _ < _; exact FU_gt (by omega))
  rintro sf a b c m ⟨i, hi, rfl, rfl, rfl, o1, R1, C1⟩
  obtain ⟨Oi, Si, Ei, ci⟩ := drS_ok O S s i
  unfold bD_draw_35
  by_cases e : i = n
  · right
    subst e
    rw [if_pos ((nI_leI (by omega) (by omega)).mpr (Nat.le_refl _))]
    exact ⟨m, rfl, o1, R1, C1⟩
  · left
    obtain ⟨m2, e2, o2, R2, C2⟩ := addD_ok R1 Oi C1 (drX A (drS A s i).2.1) (drY A (drS A s i).2.1) (drZ (drS A s i).2.1)
    have p0 : m (0, 0, 0) 0 = nI (A 0 0) := by rw [R1.pl, Ei.1 0 (by omega)]
    have e2' : fD_add (gtS (drS A s i).2.1 - gtS (drS A s i).2.1 / nI (A 0 0) * nI (A 0 0)) (gtS (drS A s i).2.1 / 8 - gtS (drS A s i).2.1 / 8 / nI (A 0 0) * nI (A 0 0)) (gtS (drS A s i).2.1 / 64 - gtS (drS A s i).2.1 / 64 / 6 * 6 + 1) m = some (adV (drS A s i).1 (drX A (drS A s i).2.1) (drY A (drS A s i).2.1) (drZ (drS A s i).2.1), m2) := e2
    have nx : (drS A s i).2.1 * 1103515245 + 12345 = nxS (drS A s i).2.1 := rfl
    have gt : ((nxS (drS A s i).2.1).toUInt32 >>> ((16 : Int32).toUInt32 &&& Int32.toUInt32 31)).toInt32 &&& 32767 = gtS (drS A s i).2.1 := rfl
    rw [if_neg (fun z => by have := (nI_leI (by omega) (by omega)).mp z; omega), nx, lt_def, gt, lt_def, p0, gd_t (gP hP (by omega)), gd_t g8, gd_t (gP hP (by omega)), gd_t g64, gd_t g6, e2', bind_s, nI_s1]
    have av := adV_pos (x := drX A (drS A s i).2.1) (y := drY A (drS A s i).2.1) (z := drZ (drS A s i).2.1) Oi
    have ms : 20 - ix (nI (i + 1)) < 20 - ix (nI i) := by rw [ix_n (by omega), ix_n (by omega)]; omega
    cases q : adQ (drS A s i).1 (drX A (drS A s i).2.1) (drY A (drS A s i).2.1) (drZ (drS A s i).2.1) with
    | true =>
      have c : ¬ adV (drS A s i).1 (drX A (drS A s i).2.1) (drY A (drS A s i).2.1) (drZ (drS A s i).2.1) ≤ 0 := fun z => by rw [av.mp z] at q; cases q
      rw [if_neg c, nI_s1, lt_def, lt_def]
      refine ⟨_, _, _, m2, ⟨i + 1, by omega, ?_, rfl, rfl, Off_trans o1 o2, R2, C2⟩, ms, rfl⟩
      show _ = nI ((drS A s i).2.2 + _)
      rw [q]; rfl
    | false =>
      rw [if_pos (av.mpr q), lt_def]
      refine ⟨_, _, _, m2, ⟨i + 1, by omega, ?_, rfl, rfl, Off_trans o1 o2, R2, C2⟩, ms, rfl⟩
      show _ = nI ((drS A s i).2.2 + _)
      rw [q]; rfl
theorem drawM_ok {μ : Mem} {A : Ab} {B : Nat → Nat → Nat} (R : RepR (μ (5, 0, 1)) A B) (O : OkA A) (S : SafeA A (dA A)) (hP : 1 ≤ A 0 0) (s : Int32) {n : Nat} (hn : n ≤ 8) : ∃ μ', lz31 (bM_draw_34 (nI n)) FU s (nI 0) (nI 0) μ = some (nI (drS A s n).2.2, μ') ∧ Off sAm μ μ' ∧ RepR (μ' (5, 0, 1)) (drS A s n).1 B := by
  have h6 := O.p6
  refine lz31_m (B := bM_draw_34 (nI n)) (fun w => ∃ μ', w = some (nI (drS A s n).2.2, μ') ∧ Off sAm μ μ' ∧ RepR (μ' (5, 0, 1)) (drS A s n).1 B) (fun b a c m => ∃ i, i ≤ n ∧ a = nI (drS A s i).2.2 ∧ b = (drS A s i).2.1 ∧ c = nI i ∧ Off sAm μ m ∧ RepR (m (5, 0, 1)) (drS A s i).1 B) (fun _ _ c _ => 20 - ix c) ?_ FU _ _ _ _ ⟨0, by omega, rfl, rfl, rfl, Off_refl _ _, R⟩ (by show 20 - _ < _; exact FU_gt (by omega))
  rintro sf b a c m ⟨i, hi, rfl, rfl, rfl, o1, R1⟩
  obtain ⟨Oi, Si, Ei, ci⟩ := drS_ok O S s i
  unfold bM_draw_34
  by_cases e : i = n
  · right
    subst e
    rw [if_pos ((nI_leI (by omega) (by omega)).mpr (Nat.le_refl _))]
    exact ⟨m, rfl, o1, R1⟩
  · left
    obtain ⟨m2, e2, o2, R2⟩ := addM_ok R1 Oi (drX A (drS A s i).2.1) (drY A (drS A s i).2.1) (drZ (drS A s i).2.1)
    have p0 : m (5, 0, 1) 0 = nI (A 0 0) := by rw [R1.pl, Ei.1 0 (by omega)]
    have e2' : fM_add (gtS (drS A s i).2.1 - gtS (drS A s i).2.1 / nI (A 0 0) * nI (A 0 0)) (gtS (drS A s i).2.1 / 8 - gtS (drS A s i).2.1 / 8 / nI (A 0 0) * nI (A 0 0)) (gtS (drS A s i).2.1 / 64 - gtS (drS A s i).2.1 / 64 / 6 * 6 + 1) m = some (adV (drS A s i).1 (drX A (drS A s i).2.1) (drY A (drS A s i).2.1) (drZ (drS A s i).2.1), m2) := e2
    have nx : (drS A s i).2.1 * 1103515245 + 12345 = nxS (drS A s i).2.1 := rfl
    have gt : ((nxS (drS A s i).2.1) >>> ((16 &&& 31) : Int32)) &&& 32767 = gtS (drS A s i).2.1 := (got_eq _).symm
    rw [if_neg (fun z => by have := (nI_leI (by omega) (by omega)).mp z; omega), nx, lt_def, gt, lt_def, gd0, ix0, p0, gd_t (gP hP (by omega)), gd_t g8, gd0, gd_t (gP hP (by omega)), gd_t g64, gd_t g6, e2', bind_s]
    have av := adV_pos (x := drX A (drS A s i).2.1) (y := drY A (drS A s i).2.1) (z := drZ (drS A s i).2.1) Oi
    have ms : 20 - ix (nI (i + 1)) < 20 - ix (nI i) := by rw [ix_n (by omega), ix_n (by omega)]; omega
    cases q : adQ (drS A s i).1 (drX A (drS A s i).2.1) (drY A (drS A s i).2.1) (drZ (drS A s i).2.1) with
    | true =>
      have c : ¬ adV (drS A s i).1 (drX A (drS A s i).2.1) (drY A (drS A s i).2.1) (drZ (drS A s i).2.1) ≤ 0 := fun z => by rw [av.mp z] at q; cases q
      have f1 : fM_flag 1 m2 = some (nI 1) := rfl
      rw [if_neg c, lt_def, f1, bind_s, nI_add, lt_def, nI_s1, lt_def]
      refine ⟨_, _, _, m2, ⟨i + 1, by omega, ?_, rfl, rfl, Off_trans o1 o2, R2⟩, ms, rfl⟩
      show _ = nI ((drS A s i).2.2 + _)
      rw [q]; rfl
    | false =>
      have f0 : fM_flag 0 m2 = some (nI 0) := rfl
      rw [if_pos (av.mpr q), lt_def, f0, bind_s, nI_add, lt_def, nI_s1, lt_def]
      refine ⟨_, _, _, m2, ⟨i + 1, by omega, ?_, rfl, rfl, Off_trans o1 o2, R2⟩, ms, rfl⟩
      show _ = nI ((drS A s i).2.2 + _)
      rw [q]; rfl
theorem stp_draw (x y : Int32) : StpB N (fD_draw x y) (fM_draw x y) := by
  rintro μ ⟨⟨A, B, h⟩, r⟩
  obtain ⟨R, RR, O, S, C, hA⟩ := id h
  have h6 := O.p6
  have n0 : nI 0 = 0 := rfl
  have n1 : ¬ nI 1 = 0 := by decide +kernel
  have i1 : ∀ m, fM_in y.toInt64 (1 : Int64) (8 : Int64) m = some (if nI 1 ≤ y ∧ y ≤ nI 8 then nI 1 else nI 0) := fun m => inR y 1 8 rfl rfl m
  unfold fD_draw fM_draw
  rcases rgN y 1 8 (by omega) (by omega) with g | ⟨n, g1, g2, rfl⟩
  · refine ⟨-1, μ, μ, rg_no (l := 1) (h := 8) g _ _, ?_, Inv_n ⟨⟨A, B, h⟩, r⟩⟩
    rw [i1, if_neg g, bind_s, if_pos n0]
  have gx : nI 1 ≤ nI n ∧ nI n ≤ nI 8 := ⟨(nI_leI (by omega) (by omega)).mpr g1, (nI_leI (by omega) (by omega)).mpr g2⟩
  have c1 : ¬ nI n < (1 : Int32) := Int32.not_lt.mpr gx.1
  have c2 : nI n ≤ (8 : Int32) := gx.2
  rw [if_neg c1, if_pos c2, R.pl]
  by_cases z : 1 ≤ A 0 0
  · obtain ⟨m1, e1, o1, R1, C1⟩ := drawD_ok R O S C z x g2
    have RR1 := RepR_off o1 (fun _ => rfl) RR
    obtain ⟨m2, e2, o2, RR2⟩ := drawM_ok RR1 O S z x g2
    obtain ⟨O', S', E', -⟩ := drS_ok O S x n
    have e1' : lz31 (bD_draw_35 (nI n)) FU 0 x 0 μ = some (nI (drS A x n).2.2, m1) := e1
    have e2' : lz31 (bM_draw_34 (nI n)) FU x 0 0 m1 = some (nI (drS A x n).2.2, m2) := e2
    have z1 : (1 : Int32) ≤ nI (A 0 0) := (nI_leI (a := 1) (by omega) (by omega)).mpr z
    refine ⟨nI (drS A x n).2.2, m1, m2, ?_, ?_, Inv_c r o1 R1 C1 o2 RR2 O' S' (by rw [E'.1 11 (by omega)]; omega)⟩
    · rw [if_pos z1, lt_def, lt_def, lt_def, e1']
    · rw [i1, if_pos gx, bind_s, if_neg n1, gd0, ix0, RR1.pl, if_neg (nI_nz0 (by omega) (by omega)), lt_def, lt_def, lt_def, e2']
  · have z0 : A 0 0 = 0 := by omega
    have z1 : ¬ (1 : Int32) ≤ nI (A 0 0) := by rw [z0]; decide +kernel
    refine ⟨-2, μ, μ, ?_, ?_, Inv_n ⟨⟨A, B, h⟩, r⟩⟩
    · rw [if_neg z1]
    · rw [i1, if_pos gx, bind_s, if_neg n1, gd0, ix0, RR.pl, z0, if_pos n0]
end Calls2
