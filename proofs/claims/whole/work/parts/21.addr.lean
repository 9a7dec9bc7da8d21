set_option maxRecDepth 20000 in
theorem xt_start {args : Array Value} {s : State} (hg : (Jvm.Cond.and given_1 narrow_1).before args s = true) (hts : ∀ w ∈ lw_tbl, w.before args s = true) {A : Nat → Prop} (hA : ∀ a : Nat, a < s.heap.size → ¬ A a) : ∃ (au : Nat) (adK adV : Nat → Nat), va_Z "LineDispatch$Postures" "UNIT" "[I" (.ref au) A s s.heap ∧ va_T .int au 4 (fun j => .int (unitV j)) A s s.heap ∧ vk_S 3 strN strB adK adV A s s.heap ∧ (∀ i : Nat, i < 3 → vk_R "LineDispatch$Reader" (strI i) (strT i) (adK i) s) ∧ va_Z "java/lang/String" "COMPACT_STRINGS" "Z" (.int 1) A s s.heap ∧ va_Zq "jdk/internal/util/Preconditions" "SIOOBE_FORMATTER" "Ljava/util/function/BiFunction;" A s s.heap := by
  have hs := flat_of_before _ hg
  obtain ⟨au, hau, hT⟩ := va_Tof (tm := .static "LineDispatch$Postures" "UNIT" "[I") (ty := .int) (N := 4) (f := fun j => .int (unitV j)) (A := A) (by decide) (hs _ (by decide +kernel)) (va_eqt (z := Int32.ofNat 4) (hs _ (by decide +kernel))) (fun j hj => by
    rcases (show j = 0 ∨ j = 1 ∨ j = 2 ∨ j = 3 by omega) with rfl | rfl | rfl | rfl
    · exact va_eqt (z := unitV 0) (hs _ (by decide +kernel))
    · exact va_eqt (z := unitV 1) (hs _ (by decide +kernel))
    · exact va_eqt (z := unitV 2) (hs _ (by decide +kernel))
    · exact va_eqt (z := unitV 3) (hs _ (by decide +kernel))) hA
  have hZ := va_Zref (hts _ (List.mem_of_getElem? (i := 490) (by decide +kernel))) (hts _ (List.mem_of_getElem? (i := 87) (by decide +kernel))) hau hA
  obtain ⟨adK, adV, hS, hE⟩ := vk_Sof (N := 3) (tm := fun i => .string "LineDispatch$Reader" (strI i)) (len := strN) (byt := strB) (A := A) (args := args) (s := s) (by decide) (fun i hi => by
      rcases (show i = 0 ∨ i = 1 ∨ i = 2 by omega) with rfl | rfl | rfl <;> exact hs _ (by decide +kernel)) (fun i hi => by
      rcases (show i = 0 ∨ i = 1 ∨ i = 2 by omega) with rfl | rfl | rfl <;> exact hs _ (by decide +kernel)) (fun i hi => by
      rcases (show i = 0 ∨ i = 1 ∨ i = 2 by omega) with rfl | rfl | rfl <;> exact hs _ (by decide +kernel)) (fun i hi => by
      rcases (show i = 0 ∨ i = 1 ∨ i = 2 by omega) with rfl | rfl | rfl <;> exact hs _ (by decide +kernel)) (fun i hi j hj => by
      rcases (show i = 0 ∨ i = 1 ∨ i = 2 by omega) with rfl | rfl | rfl
      · have hj : j < 5 := hj
        rcases (show j = 0 ∨ j = 1 ∨ j = 2 ∨ j = 3 ∨ j = 4 by omega) with rfl | rfl | rfl | rfl | rfl <;> exact hs _ (by decide +kernel)
      · have hj : j < 7 := hj
        rcases (show j = 0 ∨ j = 1 ∨ j = 2 ∨ j = 3 ∨ j = 4 ∨ j = 5 ∨ j = 6 by omega) with rfl | rfl | rfl | rfl | rfl | rfl | rfl <;> exact hs _ (by decide +kernel)
      · have hj : j < 5 := hj
        rcases (show j = 0 ∨ j = 1 ∨ j = 2 ∨ j = 3 ∨ j = 4 by omega) with rfl | rfl | rfl | rfl | rfl <;> exact hs _ (by decide +kernel)) (fun i j hi hj hn => by
      rcases (show i = 0 ∨ i = 1 ∨ i = 2 by omega) with rfl | rfl | rfl <;> rcases (show j = 0 ∨ j = 1 ∨ j = 2 by omega) with rfl | rfl | rfl <;> first | exact absurd rfl hn | exact Or.inl (hs _ (by decide +kernel)) | exact Or.inr (hs _ (by decide +kernel))) hA
  refine ⟨au, adK, adV, hZ, hT, hS, fun i hi => ?_, va_Zof (hts _ (List.mem_of_getElem? (i := 350) (by decide +kernel))) (hts _ (List.mem_of_getElem? (i := 91) (by decide +kernel))) (va_eqi (hs _ (by decide +kernel))) hA, va_Zqof (hts _ (List.mem_of_getElem? (i := 366) (by decide +kernel))) (hts _ (List.mem_of_getElem? (i := 93) (by decide +kernel))) (hs _ (by decide +kernel)) hA⟩
  rcases (show i = 0 ∨ i = 1 ∨ i = 2 by omega) with rfl | rfl | rfl
  · exact vk_R.of (A := args) (hts _ (List.mem_of_getElem? (i := 336) (by decide +kernel))) (by rw [Term.string_eval_of_vm (args := args) rfl]; exact hE 0 (by decide))
  · exact vk_R.of (A := args) (hts _ (List.mem_of_getElem? (i := 409) (by decide +kernel))) (by rw [Term.string_eval_of_vm (args := args) rfl]; exact hE 1 (by decide))
  · exact vk_R.of (A := args) (hts _ (List.mem_of_getElem? (i := 418) (by decide +kernel))) (by rw [Term.string_eval_of_vm (args := args) rfl]; exact hE 2 (by decide))

def adO (q0 q1 : Nat) (u : List Nat × List (List Nat)) (w : List Nat) (b au : Nat) (adK adV : Nat → Nat) : Rf → Nat := fun r => match r with
  | (c, k, j) => if c = 0 then (if j = 0 then u.1.getD ([0, 1, 7, 8].getD k 0) 0 else (u.2.getD ([0, 1, 4, 5].getD k 0) []).getD ([0, 0, 0, 1, 2, 0, 3, 4, 5, 6, 7, 8, 0, 0, 9, 10, 11].getD j 0) 0) else if c = 1 then (if j = 0 then u.1.getD 5 0 else (u.2.getD 2 []).getD (j - 1) 0) else if c = 2 then (if j = 0 then u.1.getD 6 0 else (u.2.getD 3 []).getD 0 0) else if c = 3 then (if j = 0 then u.1.getD ([9, 10, 11, 12].getD k 0) 0 else (u.2.getD ([6, 7, 8, 9].getD k 0) []).getD 0 0) else if c = 4 then (if j = 0 then q0 else if j = 3 then u.1.getD 2 0 else if j = 4 then u.1.getD 3 0 else u.1.getD 4 0) else if c = 5 then (if j = 0 then q1 else w.getD ([0, 0, 1, 2, 3, 4, 5, 0, 0, 0, 0, 0, 0, 0, 6, 7, 8, 9, 0, 10, 0, 11, 12, 13].getD j 0) 0) else if c = 6 then (if j = 0 then adK k else adV k) else if c = 7 then au else b
theorem D_iff {A : Nat → Prop} {ws : va_W} : va_D A ws ↔ (ws.map (fun q => q.1)).Nodup ∧ ∀ q ∈ ws, A q.1 := by
  constructor
  · intro h
    refine ⟨?_, fun q hq => ?_⟩
    · refine List.pairwise_iff_getElem.mpr (fun i j hi hj hij e9 => ?_)
      rw [List.length_map] at hi hj
      rw [List.getElem_map, List.getElem_map] at e9
      have := h.1 i j _ _ (List.getElem?_eq_getElem hi) (List.getElem?_eq_getElem hj) e9
      omega
    · obtain ⟨k, hk⟩ := List.mem_iff_getElem?.mp hq
      exact h.2 k q hk
  · rintro ⟨h1, h2⟩
    refine ⟨fun i j p q hi hj e9 => ?_, fun k q hk => h2 q (List.mem_of_getElem? hk)⟩
    have h1 := List.pairwise_iff_getElem.mp h1
    obtain ⟨li, ei⟩ := List.getElem?_eq_some_iff.mp hi
    obtain ⟨lj, ej⟩ := List.getElem?_eq_some_iff.mp hj
    rcases Nat.lt_trichotomy i j with h | h | h
    · exact absurd (by rw [List.getElem_map, List.getElem_map, ei, ej]; exact e9) (h1 i j (by rw [List.length_map]; exact li) (by rw [List.length_map]; exact lj) h)
    · exact h
    · exact absurd (by rw [List.getElem_map, List.getElem_map, ei, ej]; exact e9.symm) (h1 j i (by rw [List.length_map]; exact lj) (by rw [List.length_map]; exact li) h)
set_option maxRecDepth 20000 in
theorem wsl0 (D : va_G) (cy : Nat → ClassId) (ad0 : Rf → Nat) (q0 q1 : Nat) (u : List Nat × List (List Nat)) (w : List Nat) (b au : Nat) (adK adV : Nat → Nat) : (idsL 0).map (fun r => ((adO q0 q1 u w b au adK adV) r, cellR (D, adO q0 q1 u w b au adK adV, cy) r (mu0 r))) = cellsX0 (D, ad0, cy) (u.1.getD 0 0) (u.2.getD 0 []) := rfl
set_option maxRecDepth 20000 in
theorem wsl1 (D : va_G) (cy : Nat → ClassId) (ad0 : Rf → Nat) (q0 q1 : Nat) (u : List Nat × List (List Nat)) (w : List Nat) (b au : Nat) (adK adV : Nat → Nat) : (idsL 1).map (fun r => ((adO q0 q1 u w b au adK adV) r, cellR (D, adO q0 q1 u w b au adK adV, cy) r (mu0 r))) = cellsX0 (D, ad0, cy) (u.1.getD 1 0) (u.2.getD 1 []) := rfl
set_option maxRecDepth 20000 in
theorem wsl2 (D : va_G) (cy : Nat → ClassId) (ad0 : Rf → Nat) (q0 q1 : Nat) (u : List Nat × List (List Nat)) (w : List Nat) (b au : Nat) (adK adV : Nat → Nat) : (idsL 2).map (fun r => ((adO q0 q1 u w b au adK adV) r, cellR (D, adO q0 q1 u w b au adK adV, cy) r (mu0 r))) = cellsX0 (D, ad0, cy) (u.1.getD 7 0) (u.2.getD 4 []) := rfl
set_option maxRecDepth 20000 in
theorem wsl3 (D : va_G) (cy : Nat → ClassId) (ad0 : Rf → Nat) (q0 q1 : Nat) (u : List Nat × List (List Nat)) (w : List Nat) (b au : Nat) (adK adV : Nat → Nat) : (idsL 3).map (fun r => ((adO q0 q1 u w b au adK adV) r, cellR (D, adO q0 q1 u w b au adK adV, cy) r (mu0 r))) = cellsX0 (D, ad0, cy) (u.1.getD 8 0) (u.2.getD 5 []) := rfl
set_option maxRecDepth 20000 in
theorem wsp (D : va_G) (cy : Nat → ClassId) (ad0 : Rf → Nat) (q0 q1 : Nat) (u : List Nat × List (List Nat)) (w : List Nat) (b au : Nat) (adK adV : Nat → Nat) : ([(1, 0, 0), (1, 0, 1), (1, 0, 2), (1, 0, 3), (1, 0, 4), (1, 0, 5), (1, 0, 6)] : List Rf).map (fun r => ((adO q0 q1 u w b au adK adV) r, cellR (D, adO q0 q1 u w b au adK adV, cy) r (mu0 r))) = cellsX1 (D, ad0, cy) (u.1.getD 5 0) (u.2.getD 2 []) := rfl
set_option maxRecDepth 20000 in
theorem wsr (D : va_G) (cy : Nat → ClassId) (ad0 : Rf → Nat) (q0 q1 : Nat) (u : List Nat × List (List Nat)) (w : List Nat) (b au : Nat) (adK adV : Nat → Nat) : ([(2, 0, 0), (2, 0, 1)] : List Rf).map (fun r => ((adO q0 q1 u w b au adK adV) r, cellR (D, adO q0 q1 u w b au adK adV, cy) r (mu0 r))) = cellsX2 (D, ad0, cy) (u.1.getD 6 0) (u.2.getD 3 []) := rfl
set_option maxRecDepth 20000 in
theorem wss0 (D : va_G) (cy : Nat → ClassId) (ad0 : Rf → Nat) (q0 q1 : Nat) (u : List Nat × List (List Nat)) (w : List Nat) (b au : Nat) (adK adV : Nat → Nat) : ([(3, 0, 0), (3, 0, 2)] : List Rf).map (fun r => ((adO q0 q1 u w b au adK adV) r, cellR (D, adO q0 q1 u w b au adK adV, cy) r (mu0 r))) = cellsX3 (D, ad0, cy) (u.1.getD 9 0) (u.2.getD 6 []) := rfl
set_option maxRecDepth 20000 in
theorem wss1 (D : va_G) (cy : Nat → ClassId) (ad0 : Rf → Nat) (q0 q1 : Nat) (u : List Nat × List (List Nat)) (w : List Nat) (b au : Nat) (adK adV : Nat → Nat) : ([(3, 1, 0), (3, 1, 2)] : List Rf).map (fun r => ((adO q0 q1 u w b au adK adV) r, cellR (D, adO q0 q1 u w b au adK adV, cy) r (mu0 r))) = cellsX3 (D, ad0, cy) (u.1.getD 10 0) (u.2.getD 7 []) := rfl
set_option maxRecDepth 20000 in
theorem wss2 (D : va_G) (cy : Nat → ClassId) (ad0 : Rf → Nat) (q0 q1 : Nat) (u : List Nat × List (List Nat)) (w : List Nat) (b au : Nat) (adK adV : Nat → Nat) : ([(3, 2, 0), (3, 2, 2)] : List Rf).map (fun r => ((adO q0 q1 u w b au adK adV) r, cellR (D, adO q0 q1 u w b au adK adV, cy) r (mu0 r))) = cellsX3 (D, ad0, cy) (u.1.getD 11 0) (u.2.getD 8 []) := rfl
set_option maxRecDepth 20000 in
theorem wss3 (D : va_G) (cy : Nat → ClassId) (ad0 : Rf → Nat) (q0 q1 : Nat) (u : List Nat × List (List Nat)) (w : List Nat) (b au : Nat) (adK adV : Nat → Nat) : ([(3, 3, 0), (3, 3, 2)] : List Rf).map (fun r => ((adO q0 q1 u w b au adK adV) r, cellR (D, adO q0 q1 u w b au adK adV, cy) r (mu0 r))) = cellsX3 (D, ad0, cy) (u.1.getD 12 0) (u.2.getD 9 []) := rfl
set_option maxRecDepth 20000 in
theorem wsd (D : va_G) (cy : Nat → ClassId) (ad0 : Rf → Nat) (q0 q1 : Nat) (u : List Nat × List (List Nat)) (w : List Nat) (b au : Nat) (adK adV : Nat → Nat) : ([(4, 0, 0), (4, 0, 3), (4, 0, 4), (4, 0, 5)] : List Rf).map (fun r => ((adO q0 q1 u w b au adK adV) r, cellR (D, adO q0 q1 u w b au adK adV, cy) r (mu0 r))) = [(q0, .inr (4, [.ref (u.1.getD 0 0), .ref (u.1.getD 1 0), .ref (u.1.getD 2 0), .ref (u.1.getD 3 0), .ref (u.1.getD 4 0), .ref (u.1.getD 5 0), .ref (u.1.getD 6 0), .int 0])), ((u.1.getD 2 0), .inl (cy 3, 2, .inr (.inr (.inr (.inr (fun i => some (adO q0 q1 u w b au adK adV (elR 3 i)))))))), ((u.1.getD 3 0), .inl (cy 1, 2, .inl (fun _ => 0))), ((u.1.getD 4 0), .inl (cy 4, 4, .inr (.inr (.inr (.inr (fun i => some (adO q0 q1 u w b au adK adV (elR 4 i))))))))] := rfl
set_option maxRecDepth 20000 in
theorem wsm (D : va_G) (cy : Nat → ClassId) (ad0 : Rf → Nat) (q0 q1 : Nat) (u : List Nat × List (List Nat)) (w : List Nat) (b au : Nat) (adK adV : Nat → Nat) : ([(5, 0, 0), (5, 0, 1), (5, 0, 2), (5, 0, 3), (5, 0, 4), (5, 0, 5), (5, 0, 6), (5, 0, 14), (5, 0, 15), (5, 0, 16), (5, 0, 17), (5, 0, 19), (5, 0, 21), (5, 0, 22), (5, 0, 23)] : List Rf).map (fun r => ((adO q0 q1 u w b au adK adV) r, cellR (D, adO q0 q1 u w b au adK adV, cy) r (mu0 r))) = cellsX5 (D, ad0, cy) q1 w := rfl
theorem ids_eq : ids = (idsL 0 ++ (idsL 1 ++ (idsL 2 ++ (idsL 3 ++ (([(1, 0, 0), (1, 0, 1), (1, 0, 2), (1, 0, 3), (1, 0, 4), (1, 0, 5), (1, 0, 6)] : List Rf) ++ (([(2, 0, 0), (2, 0, 1)] : List Rf) ++ (([(3, 0, 0), (3, 0, 2)] : List Rf) ++ (([(3, 1, 0), (3, 1, 2)] : List Rf) ++ (([(3, 2, 0), (3, 2, 2)] : List Rf) ++ (([(3, 3, 0), (3, 3, 2)] : List Rf) ++ (([(4, 0, 0), (4, 0, 3), (4, 0, 4), (4, 0, 5)] : List Rf) ++ ([(5, 0, 0), (5, 0, 1), (5, 0, 2), (5, 0, 3), (5, 0, 4), (5, 0, 5), (5, 0, 6), (5, 0, 14), (5, 0, 15), (5, 0, 16), (5, 0, 17), (5, 0, 19), (5, 0, 21), (5, 0, 22), (5, 0, 23)] : List Rf)))))))))))) := rfl
theorem ws_eq (D : va_G) (cy : Nat → ClassId) (ad0 : Rf → Nat) (q0 q1 : Nat) (u : List Nat × List (List Nat)) (w : List Nat) (b au : Nat) (adK adV : Nat → Nat) : wsO (D, adO q0 q1 u w b au adK adV, cy) mu0 = (cellsX0 (D, ad0, cy) (u.1.getD 0 0) (u.2.getD 0 []) ++ (cellsX0 (D, ad0, cy) (u.1.getD 1 0) (u.2.getD 1 []) ++ (cellsX0 (D, ad0, cy) (u.1.getD 7 0) (u.2.getD 4 []) ++ (cellsX0 (D, ad0, cy) (u.1.getD 8 0) (u.2.getD 5 []) ++ (cellsX1 (D, ad0, cy) (u.1.getD 5 0) (u.2.getD 2 []) ++ (cellsX2 (D, ad0, cy) (u.1.getD 6 0) (u.2.getD 3 []) ++ (cellsX3 (D, ad0, cy) (u.1.getD 9 0) (u.2.getD 6 []) ++ (cellsX3 (D, ad0, cy) (u.1.getD 10 0) (u.2.getD 7 []) ++ (cellsX3 (D, ad0, cy) (u.1.getD 11 0) (u.2.getD 8 []) ++ (cellsX3 (D, ad0, cy) (u.1.getD 12 0) (u.2.getD 9 []) ++ ([(q0, .inr (4, [.ref (u.1.getD 0 0), .ref (u.1.getD 1 0), .ref (u.1.getD 2 0), .ref (u.1.getD 3 0), .ref (u.1.getD 4 0), .ref (u.1.getD 5 0), .ref (u.1.getD 6 0), .int 0])), ((u.1.getD 2 0), .inl (cy 3, 2, .inr (.inr (.inr (.inr (fun i => some (adO q0 q1 u w b au adK adV (elR 3 i)))))))), ((u.1.getD 3 0), .inl (cy 1, 2, .inl (fun _ => 0))), ((u.1.getD 4 0), .inl (cy 4, 4, .inr (.inr (.inr (.inr (fun i => some (adO q0 q1 u w b au adK adV (elR 4 i))))))))] ++ cellsX5 (D, ad0, cy) q1 w))))))))))) := by
  have e9 : wsO (D, adO q0 q1 u w b au adK adV, cy) mu0 = ids.map (fun r => ((adO q0 q1 u w b au adK adV) r, cellR (D, adO q0 q1 u w b au adK adV, cy) r (mu0 r))) := rfl
  rw [e9, ids_eq]
  simp only [List.map_append]
  rw [wsl0 D cy ad0 q0 q1 u w b au adK adV, wsl1 D cy ad0 q0 q1 u w b au adK adV, wsl2 D cy ad0 q0 q1 u w b au adK adV, wsl3 D cy ad0 q0 q1 u w b au adK adV, wsp D cy ad0 q0 q1 u w b au adK adV, wsr D cy ad0 q0 q1 u w b au adK adV, wss0 D cy ad0 q0 q1 u w b au adK adV, wss1 D cy ad0 q0 q1 u w b au adK adV, wss2 D cy ad0 q0 q1 u w b au adK adV, wss3 D cy ad0 q0 q1 u w b au adK adV, wsd D cy ad0 q0 q1 u w b au adK adV, wsm D cy ad0 q0 q1 u w b au adK adV]
theorem img_cell {cA : ClassId} {f : Nat → Option Nat} {a0 a1 : Nat} (h0 : f 0 = some a0) (h1 : f 1 = some a1) : vp_cell cA (2, .inr (.inr (.inr (.inr (va_up (va_up (fun _ => none) 0 (some a0)) 1 (some a1)))))) = vp_cell cA (2, .inr (.inr (.inr (.inr f)))) := by
  rw [vp_cell_q, vp_cell_q]
  unfold arrV
  congr 2
  funext j
  match j with
  | ⟨0, _⟩ => simp [va_up, h0]
  | ⟨1, _⟩ => simp [va_up, h1]
theorem shs_cell {cA : ClassId} {f : Nat → Option Nat} {a0 a1 a2 a3 : Nat} (h0 : f 0 = some a0) (h1 : f 1 = some a1) (h2 : f 2 = some a2) (h3 : f 3 = some a3) : vp_cell cA (4, .inr (.inr (.inr (.inr (va_up (va_up (va_up (va_up (fun _ => none) 0 (some a0)) 1 (some a1)) 2 (some a2)) 3 (some a3)))))) = vp_cell cA (4, .inr (.inr (.inr (.inr f)))) := by
  rw [vp_cell_q, vp_cell_q]
  unfold arrV
  congr 2
  funext j
  match j with
  | ⟨0, _⟩ => simp [va_up, h0]
  | ⟨1, _⟩ => simp [va_up, h1]
  | ⟨2, _⟩ => simp [va_up, h2]
  | ⟨3, _⟩ => simp [va_up, h3]
theorem P_mem {D : va_G} {cl : List vw_C} {ws : va_W} {H : Heap} : va_P D cl ws H ↔ ∀ q ∈ ws, va_at D cl q H := by
  constructor
  · intro h q hq
    obtain ⟨i, hi⟩ := List.mem_iff_getElem?.mp hq
    exact h i q hi
  · intro h k q hk
    exact h q (List.mem_of_getElem? hk)
theorem x4_eq (D : va_G) (cy : Nat → ClassId) (ad0 : Rf → Nat) (q0 q1 : Nat) (u : List Nat × List (List Nat)) (w : List Nat) (b au : Nat) (adK adV : Nat → Nat) : cellsX4 (D, ad0, cy) q0 u = ((((((((((((([(q0, .inr (4, [.ref (u.1.getD 0 0), .ref (u.1.getD 1 0), .ref (u.1.getD 2 0), .ref (u.1.getD 3 0), .ref (u.1.getD 4 0), .ref (u.1.getD 5 0), .ref (u.1.getD 6 0), .int 0]))] ++ cellsX0 (D, ad0, cy) (u.1.getD 0 0) (u.2.getD 0 [])) ++ cellsX0 (D, ad0, cy) (u.1.getD 1 0) (u.2.getD 1 [])) ++ [((u.1.getD 2 0), .inl (cy 3, 2, .inr (.inr (.inr (.inr (va_up (va_up (fun _ => none) 0 (some (u.1.getD 7 0))) 1 (some (u.1.getD 8 0))))))))]) ++ [((u.1.getD 3 0), .inl (cy 1, 2, .inl (fun _ => 0)))]) ++ [((u.1.getD 4 0), .inl (cy 4, 4, .inr (.inr (.inr (.inr (va_up (va_up (va_up (va_up (fun _ => none) 0 (some (u.1.getD 9 0))) 1 (some (u.1.getD 10 0))) 2 (some (u.1.getD 11 0))) 3 (some (u.1.getD 12 0))))))))]) ++ cellsX1 (D, ad0, cy) (u.1.getD 5 0) (u.2.getD 2 [])) ++ cellsX2 (D, ad0, cy) (u.1.getD 6 0) (u.2.getD 3 [])) ++ cellsX0 (D, ad0, cy) (u.1.getD 7 0) (u.2.getD 4 [])) ++ cellsX0 (D, ad0, cy) (u.1.getD 8 0) (u.2.getD 5 [])) ++ cellsX3 (D, ad0, cy) (u.1.getD 9 0) (u.2.getD 6 [])) ++ cellsX3 (D, ad0, cy) (u.1.getD 10 0) (u.2.getD 7 [])) ++ cellsX3 (D, ad0, cy) (u.1.getD 11 0) (u.2.getD 8 [])) ++ cellsX3 (D, ad0, cy) (u.1.getD 12 0) (u.2.getD 9 [])) := rfl
theorem mix {D : va_G} {cl : List vw_C} {H : Heap} {A : Nat → Prop} (C0 C1 C2 C3 P9 R9 S0 S1 S2 S3 M9 : va_W) (d9 I0 k9 T0 I1 T1 : Nat × va_E) (hI : va_at D cl I0 H → va_at D cl I1 H) (hT : va_at D cl T0 H → va_at D cl T1 H) (eI : I1.1 = I0.1) (eT : T1.1 = T0.1)
    (hP : va_P D cl (((((((((((((([d9] ++ C0) ++ C1) ++ [I0]) ++ [k9]) ++ [T0]) ++ P9) ++ R9) ++ C2) ++ C3) ++ S0) ++ S1) ++ S2) ++ S3) ++ M9) H) (hD : va_D A (((((((((((((([d9] ++ C0) ++ C1) ++ [I0]) ++ [k9]) ++ [T0]) ++ P9) ++ R9) ++ C2) ++ C3) ++ S0) ++ S1) ++ S2) ++ S3) ++ M9)) :
    va_P D cl (C0 ++ (C1 ++ (C2 ++ (C3 ++ (P9 ++ (R9 ++ (S0 ++ (S1 ++ (S2 ++ (S3 ++ ([d9, I1, k9, T1] ++ M9))))))))))) H ∧ va_D A (C0 ++ (C1 ++ (C2 ++ (C3 ++ (P9 ++ (R9 ++ (S0 ++ (S1 ++ (S2 ++ (S3 ++ ([d9, I1, k9, T1] ++ M9))))))))))) := by
  have e4 : [d9, I1, k9, T1] = [d9] ++ ([I1] ++ ([k9] ++ [T1])) := rfl
  rw [e4]
  constructor
  · rw [P_mem] at hP ⊢
    simp only [List.forall_mem_append, List.forall_mem_singleton] at hP ⊢
    obtain ⟨⟨⟨⟨⟨⟨⟨⟨⟨⟨⟨⟨⟨⟨hd, h0⟩, h1⟩, hi⟩, hk⟩, ht⟩, hp⟩, hr⟩, h2⟩, h3⟩, s0⟩, s1⟩, s2⟩, s3⟩, hm⟩ := hP
    exact ⟨h0, h1, h2, h3, hp, hr, s0, s1, s2, s3, ⟨hd, hI hi, hk, hT ht⟩, hm⟩
  · rw [D_iff] at hD ⊢
    obtain ⟨hn, ha⟩ := hD
    constructor
    · refine (List.Perm.nodup_iff ?_).mp hn
      simp only [List.map_append, List.map_cons, List.map_nil, eI, eT]
      rw [List.perm_iff_count]
      intro x
      simp only [List.count_append]
      omega
    · simp only [List.forall_mem_append, List.forall_mem_singleton] at ha ⊢
      obtain ⟨⟨⟨⟨⟨⟨⟨⟨⟨⟨⟨⟨⟨⟨hd, h0⟩, h1⟩, hi⟩, hk⟩, ht⟩, hp⟩, hr⟩, h2⟩, h3⟩, s0⟩, s1⟩, s2⟩, s3⟩, hm⟩ := ha
      exact ⟨h0, h1, h2, h3, hp, hr, s0, s1, s2, s3, ⟨hd, by rw [eI]; exact hi, hk, by rw [eT]; exact ht⟩, hm⟩
theorem start_PD (D : va_G) (cy : Nat → ClassId) (ad0 : Rf → Nat) (q0 q1 : Nat) (u : List Nat × List (List Nat)) (w : List Nat) (b au : Nat) (adK adV : Nat → Nat) {H : Heap} {A : Nat → Prop} (hP : va_P D vwCl (cellsX4 (D, ad0, cy) q0 u ++ cellsX5 (D, ad0, cy) q1 w) H) (hD : va_D A (cellsX4 (D, ad0, cy) q0 u ++ cellsX5 (D, ad0, cy) q1 w)) : va_P D vwCl (wsO (D, adO q0 q1 u w b au adK adV, cy) mu0) H ∧ va_D A (wsO (D, adO q0 q1 u w b au adK adV, cy) mu0) := by
  have hI : va_at D vwCl (((u.1.getD 2 0), .inl (cy 3, 2, .inr (.inr (.inr (.inr (va_up (va_up (fun _ => none) 0 (some (u.1.getD 7 0))) 1 (some (u.1.getD 8 0)))))))) : Nat × va_E) H → va_at D vwCl (((u.1.getD 2 0), .inl (cy 3, 2, .inr (.inr (.inr (.inr (fun i => some (adO q0 q1 u w b au adK adV (elR 3 i)))))))) : Nat × va_E) H := fun h => Eq.trans (show H[_]? = some (vp_cell _ _) from h) (congrArg some (img_cell rfl rfl))
  have hT : va_at D vwCl (((u.1.getD 4 0), .inl (cy 4, 4, .inr (.inr (.inr (.inr (va_up (va_up (va_up (va_up (fun _ => none) 0 (some (u.1.getD 9 0))) 1 (some (u.1.getD 10 0))) 2 (some (u.1.getD 11 0))) 3 (some (u.1.getD 12 0)))))))) : Nat × va_E) H → va_at D vwCl (((u.1.getD 4 0), .inl (cy 4, 4, .inr (.inr (.inr (.inr (fun i => some (adO q0 q1 u w b au adK adV (elR 4 i)))))))) : Nat × va_E) H := fun h => Eq.trans (show H[_]? = some (vp_cell _ _) from h) (congrArg some (shs_cell rfl rfl rfl rfl))
  rw [x4_eq D cy ad0 q0 q1 u w b au adK adV] at hP hD
  rw [ws_eq D cy ad0 q0 q1 u w b au adK adV]
  exact mix (cellsX0 (D, ad0, cy) (u.1.getD 0 0) (u.2.getD 0 [])) (cellsX0 (D, ad0, cy) (u.1.getD 1 0) (u.2.getD 1 [])) (cellsX0 (D, ad0, cy) (u.1.getD 7 0) (u.2.getD 4 [])) (cellsX0 (D, ad0, cy) (u.1.getD 8 0) (u.2.getD 5 [])) (cellsX1 (D, ad0, cy) (u.1.getD 5 0) (u.2.getD 2 [])) (cellsX2 (D, ad0, cy) (u.1.getD 6 0) (u.2.getD 3 [])) (cellsX3 (D, ad0, cy) (u.1.getD 9 0) (u.2.getD 6 [])) (cellsX3 (D, ad0, cy) (u.1.getD 10 0) (u.2.getD 7 [])) (cellsX3 (D, ad0, cy) (u.1.getD 11 0) (u.2.getD 8 [])) (cellsX3 (D, ad0, cy) (u.1.getD 12 0) (u.2.getD 9 [])) (cellsX5 (D, ad0, cy) q1 w) (q0, .inr (4, [.ref (u.1.getD 0 0), .ref (u.1.getD 1 0), .ref (u.1.getD 2 0), .ref (u.1.getD 3 0), .ref (u.1.getD 4 0), .ref (u.1.getD 5 0), .ref (u.1.getD 6 0), .int 0])) ((u.1.getD 2 0), .inl (cy 3, 2, .inr (.inr (.inr (.inr (va_up (va_up (fun _ => none) 0 (some (u.1.getD 7 0))) 1 (some (u.1.getD 8 0)))))))) ((u.1.getD 3 0), .inl (cy 1, 2, .inl (fun _ => 0))) ((u.1.getD 4 0), .inl (cy 4, 4, .inr (.inr (.inr (.inr (va_up (va_up (va_up (va_up (fun _ => none) 0 (some (u.1.getD 9 0))) 1 (some (u.1.getD 10 0))) 2 (some (u.1.getD 11 0))) 3 (some (u.1.getD 12 0)))))))) ((u.1.getD 2 0), .inl (cy 3, 2, .inr (.inr (.inr (.inr (fun i => some (adO q0 q1 u w b au adK adV (elR 3 i)))))))) ((u.1.getD 4 0), .inl (cy 4, 4, .inr (.inr (.inr (.inr (fun i => some (adO q0 q1 u w b au adK adV (elR 4 i)))))))) hI hT rfl rfl hP hD
