abbrev ix (i : Int32) : Nat := i.toNatClampNeg
def inb (i : Int32) (n : Nat) : Bool := !(decide (i < 0) || decide (n ≤ i.toNatClampNeg))
theorem inb_in {i : Int32} {n : Nat} (h : inb i n = true) : vp_in i n := by
  unfold inb at h
  simp only [Bool.not_eq_true', Bool.or_eq_false_iff, decide_eq_false_iff_not] at h
  exact fun z => z.elim h.1 h.2
theorem inb_lt {i : Int32} {n : Nat} (h : inb i n = true) : ix i < n := by
  unfold inb at h
  simp only [Bool.not_eq_true', Bool.or_eq_false_iff, decide_eq_false_iff_not, Nat.not_le] at h
  exact h.2
def isb (v : Int32) : Bool := v == 0 || v == 1
theorem isb_nar {v : Int32} (h : isb v = true) : narrow .boolean (.int v) = .int v := by
  unfold isb at h
  simp only [Bool.or_eq_true, beq_iff_eq] at h
  rcases h with rfl | rfl <;> rfl
theorem pick_mem {l l' : List (Nat × PV)} {ks : List Nat} (h : ks.filterMap (fun q => l[q]?) = l') : ∀ q ∈ l', q ∈ l := by
  intro q hq
  rw [← h] at hq
  obtain ⟨k, -, hk⟩ := List.mem_filterMap.mp hq
  exact List.mem_of_getElem? hk
theorem pick_has {G : Gm} {ls : Array Slot} {nL : Nat} {l l' : List (Nat × PV)} {ks : List Nat} (h : ks.filterMap (fun q => l[q]?) = l') (hh : lv_has ls nL (l.map (fun q => (q.1, emb G q.2)))) : lv_has ls nL (l'.map (fun q => (q.1, emb G q.2))) := by
  refine ⟨hh.1, hh.2.1, fun q hq => ?_⟩
  obtain ⟨z, hz, rfl⟩ := List.mem_map.mp hq
  exact hh.2.2 _ (List.mem_map.mpr ⟨z, pick_mem h z hz, rfl⟩)
section SimMem
variable {τ : Type} {X : Sc} {cc : ByteArray} {nL : Nat} {ret : Option FieldType} {own : String} {R : Room} {ro : τ → Int32} {mo : τ → Mem} {pc : Nat} {lo : List (Nat × PV)} {st : List PV} {μ : Mem} {ex a b : Option τ}
/-- fewer locals, in any order -/
theorem sim_pick (lo' : List (Nat × PV)) (ks : List Nat) (h : ks.filterMap (fun q => lo[q]?) = lo') (k : Sim X cc nL ret own R ro mo pc lo' st μ ex) : Sim X cc nL ret own R ro mo pc lo st μ ex := by
  intro t he G p l e s m args below meth c A cells slots Q F hcs hR H locs ls o1 o2 hP hD hS hl
  exact k t he G p l e s m args below meth c A cells slots Q F hcs hR H locs ls (fun q hq => o1 q (pick_mem h q hq)) o2 hP hD hS (pick_has h hl)
theorem sim_istore {i : Nat} {x : Int32} {K : Int32 → Option τ} (lo' : Int32 → List (Nat × PV)) (ks : List Nat) (d : decode cc pc = .ok (.istore i, 2)) (hn : i < nL) (h : ∀ z, ks.filterMap (fun q => (sto lo i (pI z))[q]?) = lo' z) (k : ∀ z, Sim X cc nL ret own R ro mo (pc + 2) (lo' z) st μ (K z)) : Sim X cc nL ret own R ro mo pc lo (pI x :: st) μ (lt x K) := by
  intro t he G p l e s m args below meth c A cells slots Q F hcs hR H locs ls o1 o2 hP hD hS hl
  exact lv_istore F.1 F.2.1 d hl hn (sto_emb G lo i (pI x)) (fun ls' hl' => k x t he G p l e s m args below meth c A cells slots Q F hcs hR H locs ls' (fun q hq => sto_ok (v := pI x) o1 trivial q (pick_mem (h x) q hq)) (fun v hv => o2 v (List.mem_cons_of_mem _ hv)) hP hD hS (pick_has (h x) hl'))
theorem sim_istore_n {i : Fin 4} {x : Int32} {K : Int32 → Option τ} (lo' : Int32 → List (Nat × PV)) (ks : List Nat) (d : decode cc pc = .ok (.istore_n i, 1)) (hn : i.val < nL) (h : ∀ z, ks.filterMap (fun q => (sto lo i.val (pI z))[q]?) = lo' z) (k : ∀ z, Sim X cc nL ret own R ro mo (pc + 1) (lo' z) st μ (K z)) : Sim X cc nL ret own R ro mo pc lo (pI x :: st) μ (lt x K) := by
  intro t he G p l e s m args below meth c A cells slots Q F hcs hR H locs ls o1 o2 hP hD hS hl
  exact lv_istore_n F.1 F.2.1 d rfl hl hn (sto_emb G lo i.val (pI x)) (fun ls' hl' => k x t he G p l e s m args below meth c A cells slots Q F hcs hR H locs ls' (fun q hq => sto_ok (v := pI x) o1 trivial q (pick_mem (h x) q hq)) (fun v hv => o2 v (List.mem_cons_of_mem _ hv)) hP hD hS (pick_has (h x) hl'))
theorem sim_lstore {i : Nat} {x : Int64} {K : Int64 → Option τ} (lo' : Int64 → List (Nat × PV)) (ks : List Nat) (d : decode cc pc = .ok (.lstore i, 2)) (hn : i + 1 < nL) (h : ∀ z, ks.filterMap (fun q => (sto2 lo i (pL z))[q]?) = lo' z) (k : ∀ z, Sim X cc nL ret own R ro mo (pc + 2) (lo' z) st μ (K z)) : Sim X cc nL ret own R ro mo pc lo (pL x :: st) μ (lt x K) := by
  intro t he G p l e s m args below meth c A cells slots Q F hcs hR H locs ls o1 o2 hP hD hS hl
  exact lv_lstore F.1 F.2.1 d hl hn (sto2_emb G lo i (pL x)) (fun ls' hl' => k x t he G p l e s m args below meth c A cells slots Q F hcs hR H locs ls' (fun q hq => sto2_ok (v := pL x) o1 trivial q (pick_mem (h x) q hq)) (fun v hv => o2 v (List.mem_cons_of_mem _ hv)) hP hD hS (pick_has (h x) hl'))
theorem sim_astore {i : Nat} {r : Rf} (lo' : List (Nat × PV)) (ks : List Nat) (d : decode cc pc = .ok (.astore i, 2)) (hn : i < nL) (h : ks.filterMap (fun q => (sto lo i (.inr (.inr r)))[q]?) = lo') (k : Sim X cc nL ret own R ro mo (pc + 2) lo' st μ ex) : Sim X cc nL ret own R ro mo pc lo (.inr (.inr r) :: st) μ ex := by
  intro t he G p l e s m args below meth c A cells slots Q F hcs hR H locs ls o1 o2 hP hD hS hl
  exact lv_astore F.1 F.2.1 d hl hn (sto_emb G lo i (.inr (.inr r))) (fun ls' hl' => k t he G p l e s m args below meth c A cells slots Q F hcs hR H locs ls' (fun q hq => sto_ok o1 (o2 _ List.mem_cons_self) q (pick_mem h q hq)) (fun v hv => o2 v (List.mem_cons_of_mem _ hv)) hP hD hS (pick_has h hl'))
theorem sim_iinc {i : Nat} {n : Int} {x y : Int32} {K : Int32 → Option τ} (lo' : Int32 → List (Nat × PV)) (ks : List Nat) (d : decode cc pc = .ok (.iinc i n, 3)) (hx : lk lo i = some (pI x)) (hy : Int32.ofInt n = y) (hn : i < nL) (h : ∀ z, ks.filterMap (fun q => (sto lo i (pI z))[q]?) = lo' z) (k : ∀ z, Sim X cc nL ret own R ro mo (pc + 3) (lo' z) st μ (K z)) : Sim X cc nL ret own R ro mo pc lo st μ (lt (x + y) K) := by
  intro t he G p l e s m args below meth c A cells slots Q F hcs hR H locs ls o1 o2 hP hD hS hl
  subst hy
  obtain ⟨q9, hq9⟩ := List.mem_iff_getElem?.mp (lk_mem hx)
  exact lv_iinc (k := q9) (v := x + Int32.ofInt n) F.1 F.2.1 d hl (by rw [List.getElem?_map, hq9]; rfl) rfl hn (sto_emb G lo i (pI (x + Int32.ofInt n))) (fun ls' hl' => k _ t he G p l e s m args below meth c A cells slots Q F hcs hR H locs ls' (fun q hq => sto_ok (v := pI (x + Int32.ofInt n)) o1 trivial q (pick_mem (h _) q hq)) o2 hP hD hS (pick_has (h _) hl'))
/-- a field's link, and its class's words -/
def FL (own : String) (index c j : Nat) : Prop := ∃ (C : String) (T : u_T) (ty0 : Nat → FieldType), vwCl[c]? = some (C, T, nF c) ∧ j < nF c ∧ (∀ w ∈ u_ws C T (nF c), w ∈ lw_ok) ∧ Cond.fieldLink own index (T j).1 (T j).2.1 (T j).2.2.1 ∈ lw_ok ∧ (∀ k, k < nF c → parseFieldDescriptor (T k).2.2.1 = some (ty0 k)) ∧ (∀ a, a < nF c → ∀ b, b < nF c → a ≠ b → (T a).2.1 ≠ (T b).2.1)
/-- that a field may be written: not final, an int (or a boolean) -/
def FP (c j : Nat) (ty : FieldType) : Prop := c < 6 ∧ arT c j = none ∧ rfT c j = none ∧ ∀ (C : String) (T : u_T), vwCl[c]? = some (C, T, nF c) → (T j).2.2.2 = false ∧ parseFieldDescriptor (T j).2.2.1 = some ty
theorem sim_get {c k j index : Nat} {v : PV} (d : decode cc pc = .ok (.getfield index, 3)) (hf : FL own index c j) (hc6 : c < 6) (hv : fval (μ (c, k, 0)) c k j = v) (kk : Sim X cc nL ret own R ro mo (pc + 3) lo (v :: st) μ ex) : Sim X cc nL ret own R ro mo pc lo (pR c k 0 :: st) μ ex := by
  intro t he G p l e s m args below meth cd A cells slots Q F hcs hR H locs ls o1 o2 hP hD hS hl
  obtain ⟨C, T, ty0, h1, h2, h3, h4, h5, h6⟩ := hf
  have hid : (c, k, 0) ∈ ids := ids_of (o2 _ List.mem_cons_self) hc6
  obtain ⟨q, hq, hw⟩ := ws_at hid
  have hk := ok_fval hid rfl h2 (μ (c, k, 0))
  refine va_get (D := G.1) (v := emb G v) F.1 F.2.1 F.2.2.2.2.1 h3 F.2.2.2.1 F.2.2.2.2.2.2.1 hP q (hw G μ) h1 j h2 (F.2.2.2.2.1 _ h4) (fun _ h9 => h9) ?_ d (kk t he G p l e s m args below meth cd A cells slots Q F hcs hR H locs ls o1 (List.forall_mem_cons.mpr ⟨by rw [← hv]; exact hk, fun u hu => o2 u (List.mem_cons_of_mem _ hu)⟩) hP hD hS hl)
  rw [← hv]
  simp [h2]
theorem cell_put (G : Gm) {c k j : Nat} {x : Int32} (f : Nat → Int32) (hj : j < nF c) (ha : arT c j = none) (hr : rfT c j = none) : ((List.range (nF c)).map (fun i => emb G (fval f c k i))).set j (.int x) = (List.range (nF c)).map (fun i => emb G (fval (upd f j x) c k i)) := by
  apply List.ext_getElem?
  intro i
  rw [List.getElem?_set]
  by_cases h : j = i
  · subst h
    rw [if_pos rfl, if_pos (by simp [hj])]
    simp [hj, fval, ha, hr, upd, emb]
  · rw [if_neg h]
    simp only [List.getElem?_map]
    cases hi : (List.range (nF c))[i]? with
    | none => rfl
    | some i' =>
      have e : i' = i := by
        obtain ⟨h1, h2⟩ := List.getElem?_eq_some_iff.mp hi
        simpa using h2.symm
      subst e
      have : fval (upd f j x) c k i' = fval f c k i' := by
        unfold fval
        rw [show upd f j x i' = f i' from if_neg (fun z => h z.symm)]
      rw [Option.map_some, Option.map_some, this]
theorem sim_put {c k j index : Nat} {x : Int32} {ty : FieldType} {K : Mem → Option τ} (d : decode cc pc = .ok (.putfield index, 3)) (hf : FL own index c j) (hp : FP c j ty) (hn : narrow ty (.int x) = .int x) (hfit : fits ty (.int x) = true) (kk : ∀ μ', Sim X cc nL ret own R ro mo (pc + 3) lo st μ' (K μ')) : Sim X cc nL ret own R ro mo pc lo (pI x :: pR c k 0 :: st) μ (lt (wr μ (c, k, 0) j x) K) := by
  intro t he G p l e s m args below meth cd A cells slots Q F hcs hR H locs ls o1 o2 hP hD hS hl
  obtain ⟨C, T, ty0, h1, h2, h3, h4, h5, h6⟩ := hf
  obtain ⟨hc6, ha, hr, hfin⟩ := hp
  obtain ⟨g1, g2⟩ := hfin C T h1
  have hid : (c, k, 0) ∈ ids := ids_of (o2 _ (List.mem_cons_of_mem _ List.mem_cons_self)) hc6
  obtain ⟨q, hq, hw⟩ := ws_at hid
  refine va_put (D := G.1) (v := .int x) (ty := ty) F.1 F.2.1 F.2.2.2.2.1 h3 ty0 h5 h6 F.2.2.2.1 F.2.2.2.2.2.2.1 hP hD hS q (hw G μ) h1 j h2 (F.2.2.2.2.1 _ h4) (fun _ h9 => h9) g1 g2 hn hfit (by simp [h2]) d (fun H1 locs1 hP1 hD1 hS1 => ?_)
  have e9 : (wsO G μ).set q (G.2.1 (c, k, 0), .inr (c, ((List.range (nF c)).map (fun i => emb G (fval (μ (c, k, 0)) c k i))).set j (.int x))) = wsO G (wr μ (c, k, 0) j x) := by
    rw [cell_put G (μ (c, k, 0)) h2 ha hr]
    exact ws_set G μ hq (upd (μ (c, k, 0)) j x)
  have hP2 : va_P G.1 vwCl (wsO G (wr μ (c, k, 0) j x)) H1 := e9 ▸ hP1
  have hD2 : va_D A (wsO G (wr μ (c, k, 0) j x)) := e9 ▸ hD1
  exact kk _ t he G p l e s m args below meth cd A cells slots Q F hcs hR H1 locs1 ls o1 (fun v hv => o2 v (List.mem_cons_of_mem _ (List.mem_cons_of_mem _ hv))) hP2 hD2 hS1 hl
theorem cell_arr (G : Gm) {c k j ty n : Nat} (f : Nat → Int32) (ha : arT c j = some (ty, n)) (ht : ty < 3) : cellR G (c, k, j + 1) f = .inl (G.2.2 ty, n, .inl f) := by
  simp [cellR, ha, ht]
theorem sim_iald {c k j n : Nat} {i : Int32} (d : decode cc pc = .ok (.iaload, 1)) (ha : arT c j = some (0, n)) (hc6 : c < 6) (kk : Sim X cc nL ret own R ro mo (pc + 1) lo (pI (μ (c, k, j + 1) (ix i)) :: st) μ a) : Sim X cc nL ret own R ro mo pc lo (pI i :: pR c k (j + 1) :: st) μ (gd (inb i n) a) := by
  refine sim_gd fun hi => ?_
  intro t he G p l e s m args below meth cd A cells slots Q F hcs hR H locs ls o1 o2 hP hD hS hl
  have hid : (c, k, j + 1) ∈ ids := ids_of (o2 _ (List.mem_cons_of_mem _ List.mem_cons_self)) hc6
  obtain ⟨q, hq, hw⟩ := ws_at hid
  exact va_iald (D := G.1) F.1 F.2.1 F.2.2.2.2.2.2.1 hP q 0 (by rw [hw G μ, cell_arr G _ ha (by decide)]) rfl (inb_in hi) d (kk t he G p l e s m args below meth cd A cells slots Q F hcs hR H locs ls o1 (List.forall_mem_cons.mpr ⟨trivial, fun u hu => o2 u (List.mem_cons_of_mem _ (List.mem_cons_of_mem _ hu))⟩) hP hD hS hl)
theorem sim_zald {c k j n : Nat} {i : Int32} (d : decode cc pc = .ok (.baload, 1)) (ha : arT c j = some (1, n)) (hc6 : c < 6) (kk : Sim X cc nL ret own R ro mo (pc + 1) lo (pI (μ (c, k, j + 1) (ix i)) :: st) μ a) : Sim X cc nL ret own R ro mo pc lo (pI i :: pR c k (j + 1) :: st) μ (gd (inb i n) a) := by
  refine sim_gd fun hi => ?_
  intro t he G p l e s m args below meth cd A cells slots Q F hcs hR H locs ls o1 o2 hP hD hS hl
  have hid : (c, k, j + 1) ∈ ids := ids_of (o2 _ (List.mem_cons_of_mem _ List.mem_cons_self)) hc6
  obtain ⟨q, hq, hw⟩ := ws_at hid
  exact va_zald (D := G.1) F.1 F.2.1 F.2.2.2.2.2.2.1 hP q 1 (by rw [hw G μ, cell_arr G _ ha (by decide)]) rfl (inb_in hi) d (kk t he G p l e s m args below meth cd A cells slots Q F hcs hR H locs ls o1 (List.forall_mem_cons.mpr ⟨trivial, fun u hu => o2 u (List.mem_cons_of_mem _ (List.mem_cons_of_mem _ hu))⟩) hP hD hS hl)
theorem sim_bald {c k j n : Nat} {i : Int32} (d : decode cc pc = .ok (.baload, 1)) (ha : arT c j = some (2, n)) (hc6 : c < 6) (kk : Sim X cc nL ret own R ro mo (pc + 1) lo (pI (μ (c, k, j + 1) (ix i)) :: st) μ a) : Sim X cc nL ret own R ro mo pc lo (pI i :: pR c k (j + 1) :: st) μ (gd (inb i n) a) := by
  refine sim_gd fun hi => ?_
  intro t he G p l e s m args below meth cd A cells slots Q F hcs hR H locs ls o1 o2 hP hD hS hl
  have hid : (c, k, j + 1) ∈ ids := ids_of (o2 _ (List.mem_cons_of_mem _ List.mem_cons_self)) hc6
  obtain ⟨q, hq, hw⟩ := ws_at hid
  exact va_bald (D := G.1) F.1 F.2.1 F.2.2.2.2.2.2.1 hP q 2 (by rw [hw G μ, cell_arr G _ ha (by decide)]) rfl (inb_in hi) d (kk t he G p l e s m args below meth cd A cells slots Q F hcs hR H locs ls o1 (List.forall_mem_cons.mpr ⟨trivial, fun u hu => o2 u (List.mem_cons_of_mem _ (List.mem_cons_of_mem _ hu))⟩) hP hD hS hl)
theorem ws_put (G : Gm) (μ : Mem) {c k j ty n q : Nat} (ha : arT c j = some (ty, n)) (ht : ty < 3) (hq : ids[q]? = some (c, k, j + 1)) (g : Nat → Int32) : (wsO G μ).set q (G.2.1 (c, k, j + 1), .inl (G.2.2 ty, n, .inl g)) = wsO G (sr μ (c, k, j + 1) g) := by
  rw [← cell_arr G g ha ht]
  exact ws_set G μ hq g
theorem sim_iast {c k j n : Nat} {i x : Int32} {K : Mem → Option τ} (d : decode cc pc = .ok (.iastore, 1)) (ha : arT c j = some (0, n)) (hc6 : c < 6) (kk : ∀ μ', Sim X cc nL ret own R ro mo (pc + 1) lo st μ' (K μ')) : Sim X cc nL ret own R ro mo pc lo (pI x :: pI i :: pR c k (j + 1) :: st) μ (gd (inb i n) (lt (wr μ (c, k, j + 1) (ix i) x) K)) := by
  refine sim_gd fun hi => ?_
  intro t he G p l e s m args below meth cd A cells slots Q F hcs hR H locs ls o1 o2 hP hD hS hl
  have hid : (c, k, j + 1) ∈ ids := ids_of (o2 _ (List.mem_cons_of_mem _ (List.mem_cons_of_mem _ List.mem_cons_self))) hc6
  obtain ⟨q, hq, hw⟩ := ws_at hid
  refine va_iast (D := G.1) (x := x) F.1 F.2.1 F.2.2.2.2.2.2.1 hP hD hS q 0 (by rw [hw G μ, cell_arr G _ ha (by decide)]) rfl (inb_in hi) d (fun H1 locs1 hP1 hD1 hS1 => ?_)
  rw [ws_put G μ ha (by decide) hq] at hP1 hD1
  exact kk _ t he G p l e s m args below meth cd A cells slots Q F hcs hR H1 locs1 ls o1 (fun v hv => o2 v (List.mem_cons_of_mem _ (List.mem_cons_of_mem _ (List.mem_cons_of_mem _ hv)))) hP1 hD1 hS1 hl
theorem sim_zast {c k j n : Nat} {i x : Int32} {K : Mem → Option τ} (d : decode cc pc = .ok (.bastore, 1)) (ha : arT c j = some (1, n)) (hc6 : c < 6) (kk : ∀ μ', Sim X cc nL ret own R ro mo (pc + 1) lo st μ' (K μ')) : Sim X cc nL ret own R ro mo pc lo (pI x :: pI i :: pR c k (j + 1) :: st) μ (gd (inb i n) (lt (wr μ (c, k, j + 1) (ix i) (vp_nar .boolean x)) K)) := by
  refine sim_gd fun hi => ?_
  intro t he G p l e s m args below meth cd A cells slots Q F hcs hR H locs ls o1 o2 hP hD hS hl
  have hid : (c, k, j + 1) ∈ ids := ids_of (o2 _ (List.mem_cons_of_mem _ (List.mem_cons_of_mem _ List.mem_cons_self))) hc6
  obtain ⟨q, hq, hw⟩ := ws_at hid
  refine va_zast (D := G.1) (x := x) F.1 F.2.1 F.2.2.2.2.2.2.1 hP hD hS q 1 (by rw [hw G μ, cell_arr G _ ha (by decide)]) rfl (inb_in hi) d (fun H1 locs1 hP1 hD1 hS1 => ?_)
  rw [ws_put G μ ha (by decide) hq] at hP1 hD1
  exact kk _ t he G p l e s m args below meth cd A cells slots Q F hcs hR H1 locs1 ls o1 (fun v hv => o2 v (List.mem_cons_of_mem _ (List.mem_cons_of_mem _ (List.mem_cons_of_mem _ hv)))) hP1 hD1 hS1 hl
theorem sim_bast {c k j n : Nat} {i x : Int32} {K : Mem → Option τ} (d : decode cc pc = .ok (.bastore, 1)) (ha : arT c j = some (2, n)) (hc6 : c < 6) (kk : ∀ μ', Sim X cc nL ret own R ro mo (pc + 1) lo st μ' (K μ')) : Sim X cc nL ret own R ro mo pc lo (pI x :: pI i :: pR c k (j + 1) :: st) μ (gd (inb i n) (lt (wr μ (c, k, j + 1) (ix i) (vp_nar .byte x)) K)) := by
  refine sim_gd fun hi => ?_
  intro t he G p l e s m args below meth cd A cells slots Q F hcs hR H locs ls o1 o2 hP hD hS hl
  have hid : (c, k, j + 1) ∈ ids := ids_of (o2 _ (List.mem_cons_of_mem _ (List.mem_cons_of_mem _ List.mem_cons_self))) hc6
  obtain ⟨q, hq, hw⟩ := ws_at hid
  refine va_bast (D := G.1) (x := x) F.1 F.2.1 F.2.2.2.2.2.2.1 hP hD hS q 2 (by rw [hw G μ, cell_arr G _ ha (by decide)]) rfl (inb_in hi) d (fun H1 locs1 hP1 hD1 hS1 => ?_)
  rw [ws_put G μ ha (by decide) hq] at hP1 hD1
  exact kk _ t he G p l e s m args below meth cd A cells slots Q F hcs hR H1 locs1 ls o1 (fun v hv => o2 v (List.mem_cons_of_mem _ (List.mem_cons_of_mem _ (List.mem_cons_of_mem _ hv)))) hP1 hD1 hS1 hl
theorem ids_el3 : ∀ i, i < 2 → (0, 2 + i, 0) ∈ idsX := by decide +kernel
theorem ids_el4 : ∀ i, i < 4 → (3, i, 0) ∈ idsX := by decide +kernel
/-- an image -/
theorem sim_aald3 {k : Nat} {i : Int32} (d : decode cc pc = .ok (.aaload, 1)) (kk : Sim X cc nL ret own R ro mo (pc + 1) lo (pR 0 (2 + ix i) 0 :: st) μ a) : Sim X cc nL ret own R ro mo pc lo (pI i :: pR 4 k 3 :: st) μ (gd (inb i 2) a) := by
  refine sim_gd fun hi => ?_
  intro t he G p l e s m args below meth cd A cells slots Q F hcs hR H locs ls o1 o2 hP hD hS hl
  have hid : (4, k, 3) ∈ ids := ids_of (o2 _ (List.mem_cons_of_mem _ List.mem_cons_self)) (Nat.le_of_ble_eq_true rfl)
  obtain ⟨q, hq, hw⟩ := ws_at hid
  refine va_aldq (D := G.1) (C := "LineDispatch$Line") (n := 2) (f := fun i => some (G.2.1 (elR 3 i))) F.1 F.2.1 F.2.2.2.2.2.2.1 hP q 3 ?_ rfl (inb_in hi) d ?_
  · rw [hw G μ]; rfl
  · exact kk t he G p l e s m args below meth cd A cells slots Q F hcs hR H locs ls o1 (List.forall_mem_cons.mpr ⟨ids_el3 _ (inb_lt hi), fun u hu => o2 u (List.mem_cons_of_mem _ (List.mem_cons_of_mem _ hu))⟩) hP hD hS hl
/-- a sheet -/
theorem sim_aald4 {k : Nat} {i : Int32} (d : decode cc pc = .ok (.aaload, 1)) (kk : Sim X cc nL ret own R ro mo (pc + 1) lo (pR 3 (ix i) 0 :: st) μ a) : Sim X cc nL ret own R ro mo pc lo (pI i :: pR 4 k 5 :: st) μ (gd (inb i 4) a) := by
  refine sim_gd fun hi => ?_
  intro t he G p l e s m args below meth cd A cells slots Q F hcs hR H locs ls o1 o2 hP hD hS hl
  have hid : (4, k, 5) ∈ ids := ids_of (o2 _ (List.mem_cons_of_mem _ List.mem_cons_self)) (Nat.le_of_ble_eq_true rfl)
  obtain ⟨q, hq, hw⟩ := ws_at hid
  refine va_aldq (D := G.1) (C := "LineDispatch$Sheet") (n := 4) (f := fun i => some (G.2.1 (elR 4 i))) F.1 F.2.1 F.2.2.2.2.2.2.1 hP q 4 ?_ rfl (inb_in hi) d ?_
  · rw [hw G μ]; rfl
  · exact kk t he G p l e s m args below meth cd A cells slots Q F hcs hR H locs ls o1 (List.forall_mem_cons.mpr ⟨ids_el4 _ (inb_lt hi), fun u hu => o2 u (List.mem_cons_of_mem _ (List.mem_cons_of_mem _ hu))⟩) hP hD hS hl
theorem sim_alen {c k j ty n : Nat} {v : Int32} (d : decode cc pc = .ok (.arraylength, 1)) (ha : arT c j = some (ty, n)) (ht : ty < 3) (hc6 : c < 6) (hv : Int32.ofNat n = v) (kk : Sim X cc nL ret own R ro mo (pc + 1) lo (pI v :: st) μ ex) : Sim X cc nL ret own R ro mo pc lo (pR c k (j + 1) :: st) μ ex := by
  intro t he G p l e s m args below meth cd A cells slots Q F hcs hR H locs ls o1 o2 hP hD hS hl
  have hid : (c, k, j + 1) ∈ ids := ids_of (o2 _ List.mem_cons_self) hc6
  obtain ⟨q, hq, hw⟩ := ws_at hid
  have ht2 : ∃ fty, (tysO G)[ty]? = some (G.2.2 ty, fty) := by
    match ty, ht with
    | 0, _ => exact ⟨_, rfl⟩
    | 1, _ => exact ⟨_, rfl⟩
    | 2, _ => exact ⟨_, rfl⟩
  obtain ⟨fty, hfty⟩ := ht2
  exact va_alen (D := G.1) F.1 F.2.1 F.2.2.2.2.2.2.1 hP q ty (by rw [hw G μ, cell_arr G _ ha ht]) hfty hv d (kk t he G p l e s m args below meth cd A cells slots Q F hcs hR H locs ls o1 (List.forall_mem_cons.mpr ⟨trivial, fun u hu => o2 u (List.mem_cons_of_mem _ hu)⟩) hP hD hS hl)
/-- the script -/
theorem sim_slen (d : decode cc pc = .ok (.arraylength, 1)) (kk : Sim X cc nL ret own R ro mo (pc + 1) lo (pI (Int32.ofNat X.1) :: st) μ ex) : Sim X cc nL ret own R ro mo pc lo (pR 8 0 0 :: st) μ ex := by
  intro t he G p l e s m args below meth cd A cells slots Q F hcs hR H locs ls o1 o2 hP hD hS hl
  obtain ⟨-, -, -, -, -, -, x1, x2, x3⟩ := F.2.2.2.2.2.2.2
  exact va_slen F.1 F.2.1 x1 x2 x3 hS d (kk t he G p l e s m args below meth cd A cells slots Q F hcs hR H locs ls o1 (List.forall_mem_cons.mpr ⟨trivial, fun u hu => o2 u (List.mem_cons_of_mem _ hu)⟩) hP hD hS hl)
theorem sim_sld {i : Int32} (d : decode cc pc = .ok (.iaload, 1)) (kk : Sim X cc nL ret own R ro mo (pc + 1) lo (pI (X.2 (ix i)) :: st) μ a) : Sim X cc nL ret own R ro mo pc lo (pI i :: pR 8 0 0 :: st) μ (gd (inb i X.1) a) := by
  refine sim_gd fun hi => ?_
  intro t he G p l e s m args below meth cd A cells slots Q F hcs hR H locs ls o1 o2 hP hD hS hl
  obtain ⟨-, -, -, -, -, -, x1, x2, x3⟩ := F.2.2.2.2.2.2.2
  exact va_sld F.1 F.2.1 x1 x2 x3 hS (inb_in hi) d (kk t he G p l e s m args below meth cd A cells slots Q F hcs hR H locs ls o1 (List.forall_mem_cons.mpr ⟨trivial, fun u hu => o2 u (List.mem_cons_of_mem _ (List.mem_cons_of_mem _ hu))⟩) hP hD hS hl)
/-- the static row of the postures' weights -/
theorem sim_unit {index : Nat} (d : decode cc pc = .ok (.getstatic index, 3)) (hk : Cond.fieldLink own index "LineDispatch$Postures" "UNIT" "[I" ∈ lw_ok) (kk : Sim X cc nL ret own R ro mo (pc + 3) lo (pR 7 0 0 :: st) μ ex) : Sim X cc nL ret own R ro mo pc lo st μ ex := by
  intro t he G p l e s m args below meth cd A cells slots Q F hcs hR H locs ls o1 o2 hP hD hS hl
  exact va_gets F.1 F.2.1 F.2.2.2.2.2.2.2.1 hS F.2.2.2.1 (F.2.2.2.2.1 _ hk) (fun _ h9 => h9) d (kk t he G p l e s m args below meth cd A cells slots Q F hcs hR H locs ls o1 (List.forall_mem_cons.mpr ⟨List.mem_append_right _ (by decide), o2⟩) hP hD hS hl)
theorem sim_uld {i : Int32} (d : decode cc pc = .ok (.iaload, 1)) (kk : Sim X cc nL ret own R ro mo (pc + 1) lo (pI (unitV (ix i)) :: st) μ a) : Sim X cc nL ret own R ro mo pc lo (pI i :: pR 7 0 0 :: st) μ (gd (inb i 4) a) := by
  refine sim_gd fun hi => ?_
  intro t he G p l e s m args below meth cd A cells slots Q F hcs hR H locs ls o1 o2 hP hD hS hl
  exact va_ti F.1 F.2.1 F.2.2.2.2.2.2.2.2.1 hS (inb_in hi) rfl d (kk t he G p l e s m args below meth cd A cells slots Q F hcs hR H locs ls o1 (List.forall_mem_cons.mpr ⟨trivial, fun u hu => o2 u (List.mem_cons_of_mem _ (List.mem_cons_of_mem _ hu))⟩) hP hD hS hl)
/-- ends -/
theorem sim_iret {v : Int32} {t : τ} (d : decode cc pc = .ok (.ireturn, 1)) (hr : ro t = v) (hm : mo t = μ) : Sim X cc nL (some .int) own R ro mo pc lo (pI v :: []) μ (some t) := by
  intro t' he G p l e s m args below meth cd A cells slots Q F hcs hR H locs ls o1 o2 hP hD hS hl
  cases he
  subst hr; subst hm
  exact hR H locs ls pc d (fun ty h => by cases h; rfl) hP hD hS
theorem sim_zret {v : Int32} {t : τ} (d : decode cc pc = .ok (.ireturn, 1)) (hb : isb v = true) (hr : ro t = v) (hm : mo t = μ) : Sim X cc nL (some .boolean) own R ro mo pc lo (pI v :: []) μ (some t) := by
  intro t' he G p l e s m args below meth cd A cells slots Q F hcs hR H locs ls o1 o2 hP hD hS hl
  cases he
  subst hr; subst hm
  exact hR H locs ls pc d (fun ty h => by cases h; exact isb_nar hb) hP hD hS
theorem sim_zretg {v : Int32} {t : τ} (d : decode cc pc = .ok (.ireturn, 1)) (hr : ro t = v) (hm : mo t = μ) : Sim X cc nL (some .boolean) own R ro mo pc lo (pI v :: []) μ (gd (isb v) (some t)) :=
  sim_gd fun hb => sim_zret d hb hr hm
theorem sim_ret {t : τ} (d : decode cc pc = .ok (.return_, 1)) (hm : mo t = μ) : Sim X cc nL none own R ro mo pc lo [] μ (some t) := by
  intro t' he G p l e s m args below meth cd A cells slots Q F hcs hR H locs ls o1 o2 hP hD hS hl
  cases he
  subst hm
  exact hR H locs ls pc d (fun ty h => by cases h) hP hD hS
end SimMem
