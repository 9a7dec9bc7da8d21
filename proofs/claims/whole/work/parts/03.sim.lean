/-! THE PURE MEMORY. A cell is named by (class, number of the object, 0) for an object, (class, number, slot and 1) for the array in its slot; what it holds is a row of ints. -/
abbrev Rf : Type := Nat × Nat × Nat
abbrev PV : Type := Int32 ⊕ (Int64 ⊕ Rf)
abbrev Mem : Type := Rf → Nat → Int32
abbrev pI (x : Int32) : PV := Sum.inl x
abbrev pL (x : Int64) : PV := Sum.inr (Sum.inl x)
abbrev pR (c k j : Nat) : PV := Sum.inr (Sum.inr (c, k, j))
/-- the world's own names: the tables' numbers, where each cell lies, the classes of the arrays -/
abbrev Gm : Type := va_G × (Rf → Nat) × (Nat → ClassId)
def emb (G : Gm) : PV → Value
  | .inl x => .int x
  | .inr (.inl x) => .long x
  | .inr (.inr r) => .ref (G.2.1 r)
def pcat : PV → Nat
  | .inl _ => 1
  | .inr (.inl _) => 2
  | .inr (.inr _) => 1
theorem emb_cat (G : Gm) (v : PV) : (emb G v).category = pcat v := by
  match v with
  | .inl x => rfl
  | .inr (.inl x) => rfl
  | .inr (.inr r) => rfl
def nF : Nat → Nat := fun c => match c with
  | 0 => 16
  | 1 => 8
  | 2 => 8
  | 3 => 3
  | 4 => 8
  | _ => 24
/-- the arrays in the slots: their kind (0 int, 1 boolean, 2 byte, 3 and 4 references) and length -/
def arT : Nat → Nat → Option (Nat × Nat) := fun c j => match c with
  | 0 => (match j with | 1 => some (0, 6) | 2 => some (0, 18) | 3 => some (0, 6) | 5 => some (0, 4) | 6 => some (0, 4) | 7 => some (0, 4) | 8 => some (0, 4) | 9 => some (0, 4) | 10 => some (0, 4) | 13 => some (0, 60) | 14 => some (0, 60) | 15 => some (0, 60) | _ => none)
  | 1 => (match j with | 0 => some (1, 96) | 1 => some (0, 1296) | 2 => some (2, 1296) | 3 => some (0, 4) | 4 => some (0, 6) | 5 => some (0, 4) | _ => none)
  | 2 => (match j with | 0 => some (2, 160) | _ => none)
  | 3 => (match j with | 1 => some (0, 40) | _ => none)
  | 4 => (match j with | 2 => some (3, 2) | 3 => some (1, 2) | 4 => some (4, 4) | _ => none)
  | 5 => (match j with | 0 => some (0, 238) | 1 => some (0, 238) | 2 => some (0, 238) | 3 => some (0, 476) | 4 => some (1, 2) | 5 => some (0, 160) | 13 => some (0, 4) | 14 => some (0, 2401) | 15 => some (1, 2401) | 16 => some (1, 2401) | 18 => some (0, 4) | 20 => some (0, 4) | 21 => some (0, 4) | 22 => some (0, 160) | _ => none)
  | _ => none
/-- references in slots that are no arrays -/
def rfT : Nat → Nat → Option Rf := fun c j => match c with
  | 4 => (match j with | 0 => some (0, 0, 0) | 1 => some (0, 1, 0) | 5 => some (1, 0, 0) | 6 => some (2, 0, 0) | _ => none)
  | _ => none
def fval (f : Nat → Int32) (c k j : Nat) : PV := match arT c j with
  | some _ => .inr (.inr (c, k, j + 1))
  | none => (match rfT c j with
    | some r => .inr (.inr r)
    | none => .inl (f j))
def elR (ty i : Nat) : Rf := if ty = 3 then (0, 2 + i, 0) else (3, i, 0)
def cellR (G : Gm) (r : Rf) (f : Nat → Int32) : va_E := match r.2.2 with
  | 0 => .inr (r.1, (List.range (nF r.1)).map (fun j => emb G (fval f r.1 r.2.1 j)))
  | j + 1 => (match arT r.1 j with
    | some tn => if tn.1 < 3 then .inl (G.2.2 tn.1, tn.2, .inl f) else .inl (G.2.2 tn.1, tn.2, .inr (.inr (.inr (.inr (fun i => some (G.2.1 (elR tn.1 i)))))))
    | none => .inr (0, []))
def idsL (k : Nat) : List Rf := [(0, k, 0), (0, k, 2), (0, k, 3), (0, k, 4), (0, k, 6), (0, k, 7), (0, k, 8), (0, k, 9), (0, k, 10), (0, k, 11), (0, k, 14), (0, k, 15), (0, k, 16)]
def ids : List Rf := idsL 0 ++ (idsL 1 ++ (idsL 2 ++ (idsL 3 ++ [(1, 0, 0), (1, 0, 1), (1, 0, 2), (1, 0, 3), (1, 0, 4), (1, 0, 5), (1, 0, 6), (2, 0, 0), (2, 0, 1), (3, 0, 0), (3, 0, 2), (3, 1, 0), (3, 1, 2), (3, 2, 0), (3, 2, 2), (3, 3, 0), (3, 3, 2), (4, 0, 0), (4, 0, 3), (4, 0, 4), (4, 0, 5), (5, 0, 0), (5, 0, 1), (5, 0, 2), (5, 0, 3), (5, 0, 4), (5, 0, 5), (5, 0, 6), (5, 0, 14), (5, 0, 15), (5, 0, 16), (5, 0, 17), (5, 0, 19), (5, 0, 21), (5, 0, 22), (5, 0, 23)])))
/-- what isn't of the pool: String constants (6), the static row (7), the script (8) -/
def idsX : List Rf := ids ++ [(6, 0, 0), (6, 1, 0), (6, 2, 0), (7, 0, 0), (8, 0, 0), (6, 0, 1), (6, 1, 1), (6, 2, 1)]
theorem ids_inj : ∀ i, i < 88 → ∀ j, j < 88 → ids[i]? = ids[j]? → i = j := by decide +kernel
theorem ids_len : ids.length = 88 := by decide +kernel
theorem ids_of {r : Rf} (h : r ∈ idsX) (hc : r.1 < 6) : r ∈ ids := by
  rcases List.mem_append.mp h with h | h
  · exact h
  · simp only [List.mem_cons, List.not_mem_nil, or_false] at h
    rcases h with rfl | rfl | rfl | rfl | rfl | rfl | rfl | rfl <;> exact absurd hc (by decide)
theorem ids_str {k j : Nat} (h : (6, k, j) ∈ idsX) : k < 3 := by
  rcases List.mem_append.mp h with h | h
  · exact absurd (show (6, k, j).1 < 6 from (show ∀ r ∈ ids, r.1 < 6 by decide +kernel) _ h) (Nat.lt_irrefl 6)
  · simp only [List.mem_cons, List.not_mem_nil, or_false, Prod.mk.injEq] at h
    omega
theorem ids_st1 : ∀ k, k < 3 → (6, k, 1) ∈ idsX := by decide +kernel
def okV : PV → Prop
  | .inl _ => True
  | .inr (.inl _) => True
  | .inr (.inr r) => r ∈ idsX
def fldOk (r : Rf) (j : Nat) : Bool := match arT r.1 j with
  | some _ => decide ((r.1, r.2.1, j + 1) ∈ ids)
  | none => (match rfT r.1 j with
    | some q => decide (q ∈ ids)
    | none => true)
theorem ids_fld : ∀ r ∈ ids, r.2.2 = 0 → ∀ j, j < nF r.1 → fldOk r j = true := by decide +kernel
theorem ok_fval {r : Rf} (h : r ∈ ids) (h0 : r.2.2 = 0) {j : Nat} (hj : j < nF r.1) (f : Nat → Int32) : okV (fval f r.1 r.2.1 j) := by
  have h1 := ids_fld r h h0 j hj
  unfold fldOk at h1
  unfold fval
  cases ha : arT r.1 j with
  | some tn => rw [ha] at h1; exact List.mem_append_left _ (of_decide_eq_true h1)
  | none =>
    rw [ha] at h1
    cases hb : rfT r.1 j with
    | some q => rw [hb] at h1; exact List.mem_append_left _ (of_decide_eq_true h1)
    | none => trivial
def sr (μ : Mem) (r : Rf) (g : Nat → Int32) : Mem := fun r' => if r' = r then g else μ r'
def wr (μ : Mem) (r : Rf) (i : Nat) (v : Int32) : Mem := sr μ r (upd (μ r) i v)
def wsO (G : Gm) (μ : Mem) : va_W := ids.map (fun r => (G.2.1 r, cellR G r (μ r)))
theorem ws_at {r : Rf} (h : r ∈ ids) : ∃ q : Nat, ids[q]? = some r ∧ ∀ (G : Gm) (μ : Mem), (wsO G μ)[q]? = some (G.2.1 r, cellR G r (μ r)) := by
  obtain ⟨q, hq⟩ := List.mem_iff_getElem?.mp h
  exact ⟨q, hq, fun G μ => by simp [wsO, hq]⟩
theorem ws_set (G : Gm) (μ : Mem) {r : Rf} {q : Nat} (hq : ids[q]? = some r) (g : Nat → Int32) : (wsO G μ).set q (G.2.1 r, cellR G r g) = wsO G (sr μ r g) := by
  have hql : q < 88 := by
    have := (List.getElem?_eq_some_iff.mp hq).1
    rwa [ids_len] at this
  apply List.ext_getElem?
  intro i
  rw [List.getElem?_set]
  by_cases h : q = i
  · subst h
    rw [if_pos rfl, if_pos (by simp [wsO, ids_len, hql])]
    simp [wsO, hq, sr]
  · rw [if_neg h]
    simp only [wsO, List.getElem?_map]
    cases hi : ids[i]? with
    | none => rfl
    | some r' =>
      have hil : i < 88 := by
        have := (List.getElem?_eq_some_iff.mp hi).1
        rwa [ids_len] at this
      have hne : r' ≠ r := fun e => h (ids_inj q hql i hil (by rw [hq, hi, e]))
      simp [sr, hne]
def unitV : Nat → Int32 := fun i => if i = 0 then 1 else if i = 1 then 6 else if i = 2 then 36 else 216
def strT : Nat → String := fun i => if i = 0 then "place" else if i = 1 then "section" else "train"
def strI : Nat → Nat := fun i => if i = 0 then 47 else if i = 1 then 56 else 61
def strN : List Nat := [5, 7, 5]
def strB : List (List Int32) := [[112, 108, 97, 99, 101], [115, 101, 99, 116, 105, 111, 110], [116, 114, 97, 105, 110]]
/-- the script: its length and ints -/
abbrev Sc : Type := Nat × (Nat → Int32)
/-- what lies outside the pool and never changes -/
def Xt (G : Gm) (X : Sc) (A : Nat → Prop) (U : State) (H : Heap) : Prop :=
  va_Z "LineDispatch$Postures" "UNIT" "[I" (.ref (G.2.1 (7, 0, 0))) A U H ∧ va_T .int (G.2.1 (7, 0, 0)) 4 (fun j => .int (unitV j)) A U H ∧
  vk_S 3 strN strB (fun i => G.2.1 (6, i, 0)) (fun i => G.2.1 (6, i, 1)) A U H ∧ (∀ i : Nat, i < 3 → vk_R "LineDispatch$Reader" (strI i) (strT i) (G.2.1 (6, i, 0)) U) ∧
  va_Z "java/lang/String" "COMPACT_STRINGS" "Z" (.int 1) A U H ∧ va_Zq "jdk/internal/util/Preconditions" "SIOOBE_FORMATTER" "Ljava/util/function/BiFunction;" A U H ∧
  va_X (G.2.1 (8, 0, 0)) X.1 X.2 U H ∧ G.2.1 (8, 0, 0) < H.size ∧ ¬ A (G.2.1 (8, 0, 0))
theorem Xt.kept {G : Gm} {X : Sc} {A : Nat → Prop} {U : State} {H H1 : Heap} (h : Xt G X A U H) (hz : H.size ≤ H1.size) (hq : ∀ a : Nat, a < H.size → ¬ A a → H1[a]? = H[a]?) : Xt G X A U H1 := by
  obtain ⟨h1, h2, h3, h4, h5, h6, h7, h8, h9⟩ := h
  exact ⟨h1.kept hq, h2.kept hq, h3.kept hq, h4, h5.kept hq, h6.kept hq, h7.kept (hq _ h8 h9), Nat.lt_of_lt_of_le h8 hz, h9⟩
theorem Xt.narrow {G : Gm} {X : Sc} {A B : Nat → Prop} {U : State} {H : Heap} (h : Xt G X A U H) (hAB : ∀ q, B q → A q) : Xt G X B U H := by
  obtain ⟨h1, h2, h3, h4, h5, h6, h7, h8, h9⟩ := h
  exact ⟨h1.narrow hAB, h2.narrow hAB, h3.narrow hAB, h4, h5.narrow hAB, h6.narrow hAB, h7, h8, fun z => h9 (hAB _ z)⟩
theorem Xt.warm {G : Gm} {X : Sc} {A : Nat → Prop} {s U : State} {H : Heap} (hW : s.WarmedH U.vm) (h : Xt G X A s H) : Xt G X A U H := by
  obtain ⟨h1, h2, h3, h4, h5, h6, h7, h8, h9⟩ := h
  exact ⟨h1.moved hW.alike, h2.moved hW.alike, h3.moved hW.alike, fun i hi => (h4 i hi).warm hW, h5.moved hW.alike, h6.moved hW.alike, h7.moved hW.alike, h8, h9⟩
theorem Xt.call {G : Gm} {X : Sc} {A : Nat → Prop} {U : State} {H : Heap} {g : JFrame} {mk : MethodId} {a : Array Value} (h : Xt G X A U H) : Xt G X A (U.calling g mk a) H := by
  obtain ⟨h1, h2, h3, h4, h5, h6, h7, h8, h9⟩ := h
  have hv : U.vm.Alike (U.calling g mk a).vm := Vm.Alike.refl U.vm
  exact ⟨h1.moved hv, h2.moved hv, h3.moved hv, fun i hi => (h4 i hi).same rfl, h5.moved hv, h6.moved hv, h7.moved hv, h8, h9⟩
def tysO (G : Gm) : List (ClassId × FieldType) := [(G.2.2 0, .int), (G.2.2 1, .boolean), (G.2.2 2, .byte), (G.2.2 3, .object "LineDispatch$Line"), (G.2.2 4, .object "LineDispatch$Sheet")]
/-- what holds in a method's frame all along -/
def Fm (G : Gm) (X : Sc) (p : Program) (s : State) (m : MethodId) (args : Array Value) (c : Code) (cc : ByteArray) (nL : Nat) (own : String) (A : Nat → Prop) : Prop :=
  p.tables.exec = Jvm.exec ∧ c.code = cc ∧ c.maxLocals = nL ∧ s.vm.findClass own = some m.cls ∧ (∀ w ∈ lw_ok, w.before args s = true) ∧ (∀ q : Nat, s.heap.size ≤ q → A q) ∧ va_K G.1 vwCl (tysO G) s ∧ Xt G X A s s.heap
def rtI : Option FieldType → Instr
  | none => .return_
  | some _ => .ireturn
def rtS : Option FieldType → Int32 → List Value
  | none, _ => []
  | some _, x => [.int x]
/-- A SIMULATION: where the pure value ex is 'some t', the machine, from this place of the method with these locals, stack and memory, comes to the method's end with the answer 'ro t' and the memory 'mo t' -/
def Sim {τ : Type} (X : Sc) (cc : ByteArray) (nL : Nat) (ret : Option FieldType) (own : String) (R : Room) (ro : τ → Int32) (mo : τ → Mem) (pc : Nat) (lo : List (Nat × PV)) (st : List PV) (μ : Mem) (ex : Option τ) : Prop :=
  ∀ (t : τ), ex = some t → ∀ (G : Gm) (p : Program) (l : Launch) (e : Env) (s : State) (m : MethodId) (args : Array Value) (below : List Frame) (meth : Method) (c : Code) (A : Nat → Prop) (cells slots : Nat) (Q : State → Prop),
  Fm G X p s m args c cc nL own A → (cells ≤ R.cells ∧ slots ≤ R.slots) →
  (∀ (H1 : Heap) (locs1 : List Loc) (ls1 : Array Slot) (pc1 : Nat), decode cc pc1 = .ok (rtI ret, 1) → (∀ ty, ret = some ty → narrow ty (.int (ro t)) = .int (ro t)) → va_P G.1 vwCl (wsO G (mo t)) H1 → va_D A (wsO G (mo t)) → va_S A s.heap H1 locs1 → W p l e R s m args below meth c H1 locs1 cells slots Q (F0 m pc1 ls1 (rtS ret (ro t)))) →
  ∀ (H : Heap) (locs : List Loc) (ls : Array Slot), (∀ q ∈ lo, okV q.2) → (∀ v ∈ st, okV v) → va_P G.1 vwCl (wsO G μ) H → va_D A (wsO G μ) → va_S A s.heap H locs → lv_has ls nL (lo.map (fun q => (q.1, emb G q.2))) →
  W p l e R s m args below meth c H locs cells slots Q (F0 m pc ls (st.map (emb G)))
def lt {α β : Type} (v : α) (K : α → β) : β := K v
/-- the value of a local -/
def lk : List (Nat × PV) → Nat → Option PV
  | [], _ => none
  | q :: l, i => if q.1 = i then some q.2 else lk l i
theorem lk_mem {i : Nat} {v : PV} : ∀ {l : List (Nat × PV)}, lk l i = some v → (i, v) ∈ l
  | [], h => by cases h
  | q :: l, h => by
    unfold lk at h
    by_cases hq : q.1 = i
    · rw [if_pos hq] at h
      cases h
      rw [← hq]
      exact List.mem_cons_self
    · rw [if_neg hq] at h
      exact List.mem_cons_of_mem _ (lk_mem h)
/-- a local is stored -/
def sto (l : List (Nat × PV)) (i : Nat) (v : PV) : List (Nat × PV) := (i, v) :: l.filter (fun q => !(q.1 == i) && !(q.1 + 1 == i && pcat q.2 == 2))
def sto2 (l : List (Nat × PV)) (i : Nat) (v : PV) : List (Nat × PV) := (i, v) :: l.filter (fun q => !(q.1 == i) && (!(q.1 == i + 1) && !(q.1 + 1 == i && pcat q.2 == 2)))
theorem sto_emb (G : Gm) (l : List (Nat × PV)) (i : Nat) (v : PV) : (i, emb G v) :: (l.map (fun q => (q.1, emb G q.2))).filter (fun q => !(q.1 == i) && !(q.1 + 1 == i && q.2.category == 2)) = (sto l i v).map (fun q => (q.1, emb G q.2)) := by
  simp only [sto, List.map_cons, List.filter_map]
  congr 2
  apply List.filter_congr
  intro q _
  simp [emb_cat]
theorem sto2_emb (G : Gm) (l : List (Nat × PV)) (i : Nat) (v : PV) : (i, emb G v) :: (l.map (fun q => (q.1, emb G q.2))).filter (fun q => !(q.1 == i) && (!(q.1 == i + 1) && !(q.1 + 1 == i && q.2.category == 2))) = (sto2 l i v).map (fun q => (q.1, emb G q.2)) := by
  simp only [sto2, List.map_cons, List.filter_map]
  congr 2
  apply List.filter_congr
  intro q _
  simp [emb_cat]
theorem sto_ok {l : List (Nat × PV)} {i : Nat} {v : PV} (h : ∀ q ∈ l, okV q.2) (hv : okV v) : ∀ q ∈ sto l i v, okV q.2 := by
  intro q hq
  rcases List.mem_cons.mp hq with rfl | hq
  · exact hv
  · exact h q (List.mem_filter.mp hq).1
theorem sto2_ok {l : List (Nat × PV)} {i : Nat} {v : PV} (h : ∀ q ∈ l, okV q.2) (hv : okV v) : ∀ q ∈ sto2 l i v, okV q.2 := by
  intro q hq
  rcases List.mem_cons.mp hq with rfl | hq
  · exact hv
  · exact h q (List.mem_filter.mp hq).1
theorem lk_at {ls : Array Slot} {nL i : Nat} {lo : List (Nat × PV)} {G : Gm} {v : PV} (h : lv_has ls nL (lo.map (fun q => (q.1, emb G q.2)))) (hv : lk lo i = some v) : ls[i]? = some (.val (emb G v)) := h.2.2 (i, emb G v) (List.mem_map.mpr ⟨(i, v), lk_mem hv, rfl⟩)
