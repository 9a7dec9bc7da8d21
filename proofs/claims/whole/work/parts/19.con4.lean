theorem ok_self2 {y : Cond} (hy : y ∈ lw_ok) : GoodIn lw_ok (y :: lw_ok) := by
  intro w hw
  rcases List.mem_cons.mp hw with rfl | h
  · exact ok_self hy
  · exact ok_self h
theorem P_last {G : Gm} {ws : va_W} {x : Nat × va_E} {H : Heap} (h : va_P G.1 vwCl (ws ++ [x]) H) : va_P G.1 vwCl [x] H := by
  intro k q hq
  have hk : k = 0 := by
    have := (List.getElem?_eq_some_iff.mp hq).1
    simp at this
    exact this
  subst hk
  cases hq
  exact h ws.length x (by simp)
theorem D_one {x : Nat × va_E} : va_D (fun _ => True) [x] := by
  refine ⟨fun i j p q h1 h2 _ => ?_, fun _ _ _ => trivial⟩
  have a1 := (List.getElem?_eq_some_iff.mp h1).1
  have a2 := (List.getElem?_eq_some_iff.mp h2).1
  simp at a1 a2
  omega
theorem F_last {A : Nat → Prop} {ws : va_W} {q : Nat} {e9 : va_E} {H0 H : Heap} {locs : List Loc} (hD : va_D A (ws ++ [(q, e9)])) (hS : va_S A H0 H locs) (hA : ∀ q, H0.size ≤ q → A q) : ∀ x, va_A [(q, e9)] H.size x → A x := by
  intro x h
  rcases h with ⟨k, e2, h⟩ | h
  · have hk : k = 0 := by
      have := (List.getElem?_eq_some_iff.mp h).1
      simp at this
      exact this
    subst hk
    have e3 : (q, e9) = (x, e2) := Option.some.inj h
    have := hD.2 ws.length (q, e9) (by simp)
    rw [e3] at this
    exact this
  · exact hA x (Nat.le_trans hS.1 h)
set_option maxHeartbeats 1000000 in
/-- new, dup, a private constructor of a nest mate -/
theorem con_obj {p : Program} {l : Launch} {e : Env} {R : Room} {s : State} {m : MethodId} {args : Array Value} {below : List Frame} {meth : Method} {c : Code} {H : Heap} {locs : List Loc} {cells slots : Nat} {Q : State → Prop} {cc : ByteArray} {pc : Nat} {ls : Array Slot} {rest : List Value} {A : Nat → Prop} {ws : va_W} {G : Gm}
    {nL ci N idx idx2 nL' mc ms : Nat} {own C host : String} {T : u_T} {fs : List Value} {y : MethodName} {cc' : ByteArray} {rm : Room} {cf : Nat → List Nat → va_W} (ty : Nat → FieldType)
    (hx : p.tables.exec = Jvm.exec) (hb : c.code = cc) (hml : c.maxLocals = nL) (hsz : ls.size = nL) (hown : s.vm.findClass own = some m.cls) (hts : ∀ w ∈ lw_ok, w.before args s = true) (hin : ∀ w ∈ u_ws C T N, w ∈ lw_ok) (hty : ∀ k, k < N → parseFieldDescriptor (T k).2.2.1 = some (ty k)) (hcl : Cond.classLink own idx C ∈ lw_ok) (hinst : Cond.instantiable C N ∈ lw_ok) (hini : Cond.initialized C ∈ lw_ok)
    (hK : va_K G.1 vwCl (tysO G) s) (hP : va_P G.1 vwCl ws H) (hD : va_D A ws) (hS : va_S A s.heap H locs) (hA : ∀ q, s.heap.size ≤ q → A q) (hc : vwCl[ci]? = some (C, T, N)) (hfs : ∀ j, j < N → defaultValue (ty j) = vp_V fs j)
    (hM : ∀ q sz, Met l y (.code y cc' nL' none :: lw_ok) rm (Pcn G ci q fs sz) (Qcn G (cf q) (va_A [(q, .inr (ci, fs))] sz)) mc ms (va_A [(q, .inr (ci, fs))] sz))
    (hme : Cond.instanceMethod y ∈ lw_ok ∧ Cond.code y cc' nL' none ∈ lw_ok ∧ (y.cls ≠ "java/lang/invoke/MethodHandle" ∧ y.cls ≠ "java/lang/invoke/VarHandle" ∧ (parseMethodDescriptor y.desc).map (fun d => d.parameters.length) = some 0) ∧ y.name = "<init>" ∧ y.cls = C)
    (hnw : va_Nw (.methodLinkNest own idx2 y host) s) (hroom : rm.cells = mc ∧ rm.slots = ms ∧ rm.frames + 1 ≤ R.frames ∧ 8 + (nL' + 11) + rm.locals ≤ R.locals) (hcells : cells + 1 + mc ≤ R.cells) (hslots : slots + N + ms ≤ R.slots) (hw : 1 + (rest.map fun v => v.category).sum ≤ 8)
    (d1 : decode cc pc = .ok (.new idx, 3)) (d2 : decode cc (pc + 3) = .ok (.dup, 1)) (d3 : decode cc (pc + 4) = .ok (.invokespecial idx2, 3))
    (kk : ∀ (q : Nat) (u : List Nat) (H1 : Heap) (locs1 : List Loc), va_P G.1 vwCl (ws ++ cf q u) H1 → va_D A (ws ++ cf q u) → va_S A s.heap H1 locs1 → W p l e R s m args below meth c H1 locs1 (cells + 1 + mc) (slots + N + ms) Q (F0 m (pc + 7) ls (.ref q :: rest))) :
    W p l e R s m args below meth c H locs cells slots Q (F0 m pc ls rest) := by
  refine va_new (ci := ci) (fs := fs) (C := C) (T := T) (N := N) hx hb hts hin ty hty hown (hts _ hcl) (hts _ hinst) (hts _ hini) hK hP hD hS hA hc hfs (by omega) (by omega) d1 (fun q H hP hD hS => ?_)
  refine lv_dup hx hb d2 rfl ?_
  have hF := F_last hD hS hA
  refine va_callv (a := (Value.ref q :: ([] : List Value)).toArray) (post := fun _ : List Nat => True) (va_runIN (As := []) (rest := .ref q :: rest) ⟨hx, hb, hml, hown, hts⟩ (hM q H.size) ⟨va_cnB 0 hts (ok_self2 hme.2.1) rfl hroom.1 hroom.2.1 hnw (by rw [hme.2.2.2.2]; exact hts _ hini) hme.2.2.1 hroom.2.2, hme.2.2.2.1, hts _ hme.1⟩ ⟨Pcn_blind _ _ _ _ _, fun U hU hW => ⟨rfl, by rw [hU], by rw [hU]; exact P_last hP, va_K.moved hW.alike hK, D_one⟩⟩ rfl rfl hsz rfl (by
      show 2 * 0 + ((Value.ref q :: rest).map fun v => v.category).sum ≤ 8
      simp only [List.map_cons, List.sum_cons, show (Value.ref q).category = 1 from rfl]
      omega) d3 ⟨hcells, hslots⟩) hS (fun x _ h => hF x h) hF (fun u t H1 locs1 ht hvm _ hB hz hk hS1 => ?_)
  obtain ⟨hP1, hD1⟩ := hB
  rw [ht] at hP1
  obtain ⟨hP2, hD2⟩ := join_last hP hD hk hF hP1 hD1
  exact kk q u H1 locs1 hP2 hD2 hS1

theorem df_X0 : ∀ j, j < 16 → defaultValue (tyX0 j) = vp_V [.int 0, .null, .null, .null, .int 0, .null, .null, .null, .null, .null, .null, .int 0, .int 0, .null, .null, .null] j := by
  intro j hj
  rcases (show j = 0 ∨ j = 1 ∨ j = 2 ∨ j = 3 ∨ j = 4 ∨ j = 5 ∨ j = 6 ∨ j = 7 ∨ j = 8 ∨ j = 9 ∨ j = 10 ∨ j = 11 ∨ j = 12 ∨ j = 13 ∨ j = 14 ∨ j = 15 by omega) with rfl | rfl | rfl | rfl | rfl | rfl | rfl | rfl | rfl | rfl | rfl | rfl | rfl | rfl | rfl | rfl <;> rfl
theorem df_X1 : ∀ j, j < 8 → defaultValue (tyX1 j) = vp_V [.null, .null, .null, .null, .null, .null, .int 0, .int 0] j := by
  intro j hj
  rcases (show j = 0 ∨ j = 1 ∨ j = 2 ∨ j = 3 ∨ j = 4 ∨ j = 5 ∨ j = 6 ∨ j = 7 by omega) with rfl | rfl | rfl | rfl | rfl | rfl | rfl | rfl <;> rfl
theorem df_X2 : ∀ j, j < 8 → defaultValue (tyX2 j) = vp_V [.null, .int 0, .int 0, .int 0, .int 0, .int 0, .int 0, .int 0] j := by
  intro j hj
  rcases (show j = 0 ∨ j = 1 ∨ j = 2 ∨ j = 3 ∨ j = 4 ∨ j = 5 ∨ j = 6 ∨ j = 7 by omega) with rfl | rfl | rfl | rfl | rfl | rfl | rfl | rfl <;> rfl
theorem df_X3 : ∀ j, j < 3 → defaultValue (tyX3 j) = vp_V [.int 0, .null, .int 0] j := by
  intro j hj
  rcases (show j = 0 ∨ j = 1 ∨ j = 2 by omega) with rfl | rfl | rfl <;> rfl
theorem df_X4 : ∀ j, j < 8 → defaultValue (tyX4 j) = vp_V [.null, .null, .null, .null, .null, .null, .null, .int 0] j := by
  intro j hj
  rcases (show j = 0 ∨ j = 1 ∨ j = 2 ∨ j = 3 ∨ j = 4 ∨ j = 5 ∨ j = 6 ∨ j = 7 by omega) with rfl | rfl | rfl | rfl | rfl | rfl | rfl | rfl <;> rfl
theorem df_X5 : ∀ j, j < 24 → defaultValue (tyX5 j) = vp_V [.null, .null, .null, .null, .null, .null, .int 0, .int 0, .int 0, .int 0, .int 0, .int 0, .int 0, .null, .null, .null, .null, .int 0, .null, .int 0, .null, .null, .null, .int 0] j := by
  intro j hj
  rcases (show j = 0 ∨ j = 1 ∨ j = 2 ∨ j = 3 ∨ j = 4 ∨ j = 5 ∨ j = 6 ∨ j = 7 ∨ j = 8 ∨ j = 9 ∨ j = 10 ∨ j = 11 ∨ j = 12 ∨ j = 13 ∨ j = 14 ∨ j = 15 ∨ j = 16 ∨ j = 17 ∨ j = 18 ∨ j = 19 ∨ j = 20 ∨ j = 21 ∨ j = 22 ∨ j = 23 by omega) with rfl | rfl | rfl | rfl | rfl | rfl | rfl | rfl | rfl | rfl | rfl | rfl | rfl | rfl | rfl | rfl | rfl | rfl | rfl | rfl | rfl | rfl | rfl | rfl <;> rfl
def cellsX4 (G : Gm) (h0 : Nat) (u : List Nat × List (List Nat)) : va_W := ((((((((((((([(h0, .inr (4, [.ref (u.1.getD 0 0), .ref (u.1.getD 1 0), .ref (u.1.getD 2 0), .ref (u.1.getD 3 0), .ref (u.1.getD 4 0), .ref (u.1.getD 5 0), .ref (u.1.getD 6 0), .int 0]))] ++ cellsX0 G (u.1.getD 0 0) (u.2.getD 0 [])) ++ cellsX0 G (u.1.getD 1 0) (u.2.getD 1 [])) ++ [((u.1.getD 2 0), .inl (G.2.2 3, 2, .inr (.inr (.inr (.inr (va_up (va_up (fun _ => none) 0 (some (u.1.getD 7 0))) 1 (some (u.1.getD 8 0))))))))]) ++ [((u.1.getD 3 0), .inl (G.2.2 1, 2, .inl (fun _ => 0)))]) ++ [((u.1.getD 4 0), .inl (G.2.2 4, 4, .inr (.inr (.inr (.inr (va_up (va_up (va_up (va_up (fun _ => none) 0 (some (u.1.getD 9 0))) 1 (some (u.1.getD 10 0))) 2 (some (u.1.getD 11 0))) 3 (some (u.1.getD 12 0))))))))]) ++ cellsX1 G (u.1.getD 5 0) (u.2.getD 2 [])) ++ cellsX2 G (u.1.getD 6 0) (u.2.getD 3 [])) ++ cellsX0 G (u.1.getD 7 0) (u.2.getD 4 [])) ++ cellsX0 G (u.1.getD 8 0) (u.2.getD 5 [])) ++ cellsX3 G (u.1.getD 9 0) (u.2.getD 6 [])) ++ cellsX3 G (u.1.getD 10 0) (u.2.getD 7 [])) ++ cellsX3 G (u.1.getD 11 0) (u.2.getD 8 [])) ++ cellsX3 G (u.1.getD 12 0) (u.2.getD 9 []))
abbrev rmc_X4 : Room := { frames := 2, cells := 72, slots := 4058, locals := 40 }
/-- the nest's links of the four private constructors, the classes of the arrays of objects -/
def Nw4 (U : State) : Prop := va_Nw (.methodLinkNest RX4 9 yX0_init "LineDispatch") U ∧ va_Nw (.methodLinkNest RX4 35 yX1_init "LineDispatch") U ∧ va_Nw (.methodLinkNest RX4 42 yX2_init "LineDispatch") U ∧ va_Nw (.methodLinkNest RX4 47 yX3_init "LineDispatch") U
def Ao2 (U : State) : Prop := va_AO "LineDispatch$Line" U ∧ va_AO "LineDispatch$Sheet" U
def Pc4 (G : Gm) (h0 sz : Nat) : Array Value → State → Prop := va_Pc [.ref h0] (fun U => U.heap.size = sz ∧ va_P G.1 vwCl [(h0, .inr (4, [.null, .null, .null, .null, .null, .null, .null, .int 0]))] U.heap ∧ va_K G.1 vwCl (tysO G) U ∧ va_D (fun _ => True) [(h0, .inr (4, [.null, .null, .null, .null, .null, .null, .null, .int 0]))] ∧ Nw4 U ∧ Ao2 U)
def Qc4 (G : Gm) (h0 : Nat) (A : Nat → Prop) : Array Value → State → Outcome → State → Prop := va_Qv (fun _ : List Nat × List (List Nat) => True) (fun u t => va_P G.1 vwCl (cellsX4 G h0 u) t.heap ∧ va_D A (cellsX4 G h0 u)) A
theorem Pc4_blind (G : Gm) (h0 sz : Nat) : FrameBlind (Pc4 G h0 sz) := by
  intro a U g mk h
  obtain ⟨h0, h1, h2, h3, h4, h5, h6⟩ := h
  exact ⟨h0, h1, h2, va_K.moved (u := U) (U := U.calling g mk a) (Vm.Alike.refl U.vm) h3, h4, ⟨h5.1.same rfl rfl, h5.2.1.same rfl rfl, h5.2.2.1.same rfl rfl, h5.2.2.2.same rfl rfl⟩, h6.1.moved (Vm.Alike.refl U.vm), h6.2.moved (Vm.Alike.refl U.vm)⟩
set_option maxHeartbeats 8000000 in
set_option maxRecDepth 100000 in
theorem mkX4_init (l : Launch) (G : Gm) (h0 sz : Nat) : Met l yX4_init (.code yX4_init cX4_init 2 none :: lw_ok) rmc_X4 (Pc4 G h0 sz) (Qc4 G h0 (va_A [(h0, .inr (4, [.null, .null, .null, .null, .null, .null, .null, .int 0]))] sz)) 72 4058 (va_A [(h0, .inr (4, [.null, .null, .null, .null, .null, .null, .null, .int 0]))] sz) := by
  refine Met.ofW (cc := cX4_init) (maxL := 2) (ret := none) (by decide +kernel) rfl ?_
  intro p e s m args below meth c s₁ B hml hv
  obtain ⟨rfl, rfl, hP, hK, hD0, hnw, hao⟩ := hv
  have hx := B.exec
  have hb := B.bytes
  have hr := B.returns
  have hts0 := atoms_spec (ws := Cond.code yX4_init cX4_init 2 none :: lw_ok) B.pre
  have hts : ∀ w ∈ lw_ok, w.before #[Value.ref h0] s = true := fun w hw => hts0 w (List.mem_cons_of_mem _ hw)
  have hown : s.vm.findClass RX4 = some m.cls := findClass_of_methodNamed B.named
  have hlocks := B.notSynchronized
  have hin : meth.name = "<init>" := (name_of_methodNamed B.named B.method).1
  have hD := hD0.self (sz := s.heap.size)
  generalize hAe : va_A [(h0, .inr (4, [.null, .null, .null, .null, .null, .null, .null, .int 0]))] s.heap.size = A at hD ⊢
  have hA : ∀ q : Nat, s.heap.size ≤ q → A q := fun q h => by rw [← hAe]; exact Or.inr h
  have hS : va_S A s.heap s.heap [] := va_S.rf
  have hl := lv_entry ([.ref h0]) (n := 2) (Nat.le_of_ble_eq_true rfl)
  rw [lg_entry_eq]
  generalize (lg_sl ([.ref h0]) ++ List.replicate (2 - (lg_sl ([.ref h0])).length) Slot.unset).toArray = ls at hl ⊢
  have hl : lv_has ls 2 [(0, .ref h0)] := hl
  refine lv_aload_n hx hb dX4_init_0 rfl (lv_at hl 0 rfl) ?_
  refine W.objInit hx hb hown (hts _ wq_103) (hts _ wq_104) (hts _ wq_105) rfl (by rw [hml]; exact hl.1) rfl dX4_init_1 (Nat.le_of_ble_eq_true rfl) (Nat.le_of_ble_eq_true rfl) ?_
  refine W.eq (g2 := F0 m 4 ls []) rfl ?_
  refine lv_aload_n hx hb dX4_init_4 rfl (lv_at hl 0 rfl) ?_
  refine con_obj (G := G) (ci := 0) (fs := [.int 0, .null, .null, .null, .int 0, .null, .null, .null, .null, .null, .null, .int 0, .int 0, .null, .null, .null]) (C := RX0) (T := TX0) (N := 16) (cf := cellsX0 G) (host := "LineDispatch") (mc := 12) (ms := 234) tyX0 hx hb hml hl.1 hown hts uw_X0 tyX0_ok wq_106 wq_107 wq_86 hK hP hD hS hA rfl df_X0 (fun q sz => mkX0_init l G q sz) ⟨wq_109, wq_110, ⟨by decide +kernel, by decide +kernel, by decide +kernel⟩, rfl, rfl⟩ hnw.1 ⟨rfl, rfl, Nat.le_of_ble_eq_true rfl, Nat.le_of_ble_eq_true rfl⟩ (Nat.le_of_ble_eq_true rfl) (Nat.le_of_ble_eq_true rfl) (Nat.le_of_ble_eq_true rfl) dX4_init_5 dX4_init_8 dX4_init_9 (fun q5_0 u5_0 H locs hP hD hS => ?_)
  have hP : va_P G.1 vwCl ([(h0, .inr (4, [.null, .null, .null, .null, .null, .null, .null, .int 0]))] ++ cellsX0 G q5_0 u5_0) H := hP
  have hD : va_D A ([(h0, .inr (4, [.null, .null, .null, .null, .null, .null, .null, .int 0]))] ++ cellsX0 G q5_0 u5_0) := hD
  refine va_putF (D := G.1) (ci := 4) (v := .ref q5_0) (ty := .object "LineDispatch$Line") (C := RX4) (T := TX4) (N := 8) hx hb hts uw_X4 tyX4 tyX4_ok nmX4 hown hK hP hD hS 0 rfl rfl 0 (by decide) (hts _ wq_276) (fun _ h9 => h9) rfl hin rfl (by decide +kernel) rfl rfl (Nat.le_of_ble_eq_true rfl) dX4_init_12 (fun H locs hP hD hS => ?_)
  have hP : va_P G.1 vwCl ([(h0, .inr (4, [.ref q5_0, .null, .null, .null, .null, .null, .null, .int 0]))] ++ cellsX0 G q5_0 u5_0) H := hP
  have hD : va_D A ([(h0, .inr (4, [.ref q5_0, .null, .null, .null, .null, .null, .null, .int 0]))] ++ cellsX0 G q5_0 u5_0) := hD
  refine lv_aload_n hx hb dX4_init_15 rfl (lv_at hl 0 rfl) ?_
  refine con_obj (G := G) (ci := 0) (fs := [.int 0, .null, .null, .null, .int 0, .null, .null, .null, .null, .null, .null, .int 0, .int 0, .null, .null, .null]) (C := RX0) (T := TX0) (N := 16) (cf := cellsX0 G) (host := "LineDispatch") (mc := 12) (ms := 234) tyX0 hx hb hml hl.1 hown hts uw_X0 tyX0_ok wq_106 wq_107 wq_86 hK hP hD hS hA rfl df_X0 (fun q sz => mkX0_init l G q sz) ⟨wq_109, wq_110, ⟨by decide +kernel, by decide +kernel, by decide +kernel⟩, rfl, rfl⟩ hnw.1 ⟨rfl, rfl, Nat.le_of_ble_eq_true rfl, Nat.le_of_ble_eq_true rfl⟩ (Nat.le_of_ble_eq_true rfl) (Nat.le_of_ble_eq_true rfl) (Nat.le_of_ble_eq_true rfl) dX4_init_16 dX4_init_19 dX4_init_20 (fun q16_1 u16_1 H locs hP hD hS => ?_)
  have hP : va_P G.1 vwCl (([(h0, .inr (4, [.ref q5_0, .null, .null, .null, .null, .null, .null, .int 0]))] ++ cellsX0 G q5_0 u5_0) ++ cellsX0 G q16_1 u16_1) H := hP
  have hD : va_D A (([(h0, .inr (4, [.ref q5_0, .null, .null, .null, .null, .null, .null, .int 0]))] ++ cellsX0 G q5_0 u5_0) ++ cellsX0 G q16_1 u16_1) := hD
  refine va_putF (D := G.1) (ci := 4) (v := .ref q16_1) (ty := .object "LineDispatch$Line") (C := RX4) (T := TX4) (N := 8) hx hb hts uw_X4 tyX4 tyX4_ok nmX4 hown hK hP hD hS 0 rfl rfl 1 (by decide) (hts _ wq_277) (fun _ h9 => h9) rfl hin rfl (by decide +kernel) rfl rfl (Nat.le_of_ble_eq_true rfl) dX4_init_23 (fun H locs hP hD hS => ?_)
  have hP : va_P G.1 vwCl (([(h0, .inr (4, [.ref q5_0, .ref q16_1, .null, .null, .null, .null, .null, .int 0]))] ++ cellsX0 G q5_0 u5_0) ++ cellsX0 G q16_1 u16_1) H := hP
  have hD : va_D A (([(h0, .inr (4, [.ref q5_0, .ref q16_1, .null, .null, .null, .null, .null, .int 0]))] ++ cellsX0 G q5_0 u5_0) ++ cellsX0 G q16_1 u16_1) := hD
  refine lv_aload_n hx hb dX4_init_26 rfl (lv_at hl 0 rfl) ?_
  refine lv_iconst (v := 2) hx hb dX4_init_27 (by decide) ?_
  refine con_newq hx hb hown (hts _ wq_106) (va_AO.use hao.1) hK hP hD hS hA 3 rfl (by decide) (N' := 2) (by decide) (Nat.le_of_ble_eq_true rfl) (Nat.le_of_ble_eq_true rfl) (Nat.le_of_ble_eq_true rfl) dX4_init_28 (fun q28 H hP hD hS => ?_)
  have hP : va_P G.1 vwCl ((([(h0, .inr (4, [.ref q5_0, .ref q16_1, .null, .null, .null, .null, .null, .int 0]))] ++ cellsX0 G q5_0 u5_0) ++ cellsX0 G q16_1 u16_1) ++ [(q28, .inl (G.2.2 3, 2, .inr (.inr (.inr (.inr (fun _ => none))))))]) H := hP
  have hD : va_D A ((([(h0, .inr (4, [.ref q5_0, .ref q16_1, .null, .null, .null, .null, .null, .int 0]))] ++ cellsX0 G q5_0 u5_0) ++ cellsX0 G q16_1 u16_1) ++ [(q28, .inl (G.2.2 3, 2, .inr (.inr (.inr (.inr (fun _ => none))))))]) := hD
  refine va_putF (D := G.1) (ci := 4) (v := .ref q28) (ty := .array (.object "LineDispatch$Line")) (C := RX4) (T := TX4) (N := 8) hx hb hts uw_X4 tyX4 tyX4_ok nmX4 hown hK hP hD hS 0 rfl rfl 2 (by decide) (hts _ wq_278) (fun _ h9 => h9) rfl hin rfl (by decide +kernel) rfl rfl (Nat.le_of_ble_eq_true rfl) dX4_init_31 (fun H locs hP hD hS => ?_)
  have hP : va_P G.1 vwCl ((([(h0, .inr (4, [.ref q5_0, .ref q16_1, .ref q28, .null, .null, .null, .null, .int 0]))] ++ cellsX0 G q5_0 u5_0) ++ cellsX0 G q16_1 u16_1) ++ [(q28, .inl (G.2.2 3, 2, .inr (.inr (.inr (.inr (fun _ => none))))))]) H := hP
  have hD : va_D A ((([(h0, .inr (4, [.ref q5_0, .ref q16_1, .ref q28, .null, .null, .null, .null, .int 0]))] ++ cellsX0 G q5_0 u5_0) ++ cellsX0 G q16_1 u16_1) ++ [(q28, .inl (G.2.2 3, 2, .inr (.inr (.inr (.inr (fun _ => none))))))]) := hD
  refine lv_aload_n hx hb dX4_init_34 rfl (lv_at hl 0 rfl) ?_
  refine lv_iconst (v := 2) hx hb dX4_init_35 (by decide) ?_
  refine con_newa hx hb .boolean rfl (hts _ wq_222) hK hP hD hS hA 1 (ty := .boolean) rfl (fun _ h9 => h9) (a0 := (2, .inl (fun _ => 0))) (fun _ => rfl) (by decide) (N' := 2) (by decide) (Nat.le_of_ble_eq_true rfl) (Nat.le_of_ble_eq_true rfl) (Nat.le_of_ble_eq_true rfl) dX4_init_36 (fun q36 H hP hD hS => ?_)
  have hP : va_P G.1 vwCl (((([(h0, .inr (4, [.ref q5_0, .ref q16_1, .ref q28, .null, .null, .null, .null, .int 0]))] ++ cellsX0 G q5_0 u5_0) ++ cellsX0 G q16_1 u16_1) ++ [(q28, .inl (G.2.2 3, 2, .inr (.inr (.inr (.inr (fun _ => none))))))]) ++ [(q36, .inl (G.2.2 1, 2, .inl (fun _ => 0)))]) H := hP
  have hD : va_D A (((([(h0, .inr (4, [.ref q5_0, .ref q16_1, .ref q28, .null, .null, .null, .null, .int 0]))] ++ cellsX0 G q5_0 u5_0) ++ cellsX0 G q16_1 u16_1) ++ [(q28, .inl (G.2.2 3, 2, .inr (.inr (.inr (.inr (fun _ => none))))))]) ++ [(q36, .inl (G.2.2 1, 2, .inl (fun _ => 0)))]) := hD
  refine va_putF (D := G.1) (ci := 4) (v := .ref q36) (ty := .array .boolean) (C := RX4) (T := TX4) (N := 8) hx hb hts uw_X4 tyX4 tyX4_ok nmX4 hown hK hP hD hS 0 rfl rfl 3 (by decide) (hts _ wq_279) (fun _ h9 => h9) rfl hin rfl (by decide +kernel) rfl rfl (Nat.le_of_ble_eq_true rfl) dX4_init_38 (fun H locs hP hD hS => ?_)
  have hP : va_P G.1 vwCl (((([(h0, .inr (4, [.ref q5_0, .ref q16_1, .ref q28, .ref q36, .null, .null, .null, .int 0]))] ++ cellsX0 G q5_0 u5_0) ++ cellsX0 G q16_1 u16_1) ++ [(q28, .inl (G.2.2 3, 2, .inr (.inr (.inr (.inr (fun _ => none))))))]) ++ [(q36, .inl (G.2.2 1, 2, .inl (fun _ => 0)))]) H := hP
  have hD : va_D A (((([(h0, .inr (4, [.ref q5_0, .ref q16_1, .ref q28, .ref q36, .null, .null, .null, .int 0]))] ++ cellsX0 G q5_0 u5_0) ++ cellsX0 G q16_1 u16_1) ++ [(q28, .inl (G.2.2 3, 2, .inr (.inr (.inr (.inr (fun _ => none))))))]) ++ [(q36, .inl (G.2.2 1, 2, .inl (fun _ => 0)))]) := hD
  refine lv_aload_n hx hb dX4_init_41 rfl (lv_at hl 0 rfl) ?_
  refine lv_iconst (v := 4) hx hb dX4_init_42 (by decide) ?_
  refine con_newq hx hb hown (hts _ wq_188) (va_AO.use hao.2) hK hP hD hS hA 4 rfl (by decide) (N' := 4) (by decide) (Nat.le_of_ble_eq_true rfl) (Nat.le_of_ble_eq_true rfl) (Nat.le_of_ble_eq_true rfl) dX4_init_43 (fun q43 H hP hD hS => ?_)
  have hP : va_P G.1 vwCl ((((([(h0, .inr (4, [.ref q5_0, .ref q16_1, .ref q28, .ref q36, .null, .null, .null, .int 0]))] ++ cellsX0 G q5_0 u5_0) ++ cellsX0 G q16_1 u16_1) ++ [(q28, .inl (G.2.2 3, 2, .inr (.inr (.inr (.inr (fun _ => none))))))]) ++ [(q36, .inl (G.2.2 1, 2, .inl (fun _ => 0)))]) ++ [(q43, .inl (G.2.2 4, 4, .inr (.inr (.inr (.inr (fun _ => none))))))]) H := hP
  have hD : va_D A ((((([(h0, .inr (4, [.ref q5_0, .ref q16_1, .ref q28, .ref q36, .null, .null, .null, .int 0]))] ++ cellsX0 G q5_0 u5_0) ++ cellsX0 G q16_1 u16_1) ++ [(q28, .inl (G.2.2 3, 2, .inr (.inr (.inr (.inr (fun _ => none))))))]) ++ [(q36, .inl (G.2.2 1, 2, .inl (fun _ => 0)))]) ++ [(q43, .inl (G.2.2 4, 4, .inr (.inr (.inr (.inr (fun _ => none))))))]) := hD
  refine va_putF (D := G.1) (ci := 4) (v := .ref q43) (ty := .array (.object "LineDispatch$Sheet")) (C := RX4) (T := TX4) (N := 8) hx hb hts uw_X4 tyX4 tyX4_ok nmX4 hown hK hP hD hS 0 rfl rfl 4 (by decide) (hts _ wq_280) (fun _ h9 => h9) rfl hin rfl (by decide +kernel) rfl rfl (Nat.le_of_ble_eq_true rfl) dX4_init_46 (fun H locs hP hD hS => ?_)
  have hP : va_P G.1 vwCl ((((([(h0, .inr (4, [.ref q5_0, .ref q16_1, .ref q28, .ref q36, .ref q43, .null, .null, .int 0]))] ++ cellsX0 G q5_0 u5_0) ++ cellsX0 G q16_1 u16_1) ++ [(q28, .inl (G.2.2 3, 2, .inr (.inr (.inr (.inr (fun _ => none))))))]) ++ [(q36, .inl (G.2.2 1, 2, .inl (fun _ => 0)))]) ++ [(q43, .inl (G.2.2 4, 4, .inr (.inr (.inr (.inr (fun _ => none))))))]) H := hP
  have hD : va_D A ((((([(h0, .inr (4, [.ref q5_0, .ref q16_1, .ref q28, .ref q36, .ref q43, .null, .null, .int 0]))] ++ cellsX0 G q5_0 u5_0) ++ cellsX0 G q16_1 u16_1) ++ [(q28, .inl (G.2.2 3, 2, .inr (.inr (.inr (.inr (fun _ => none))))))]) ++ [(q36, .inl (G.2.2 1, 2, .inl (fun _ => 0)))]) ++ [(q43, .inl (G.2.2 4, 4, .inr (.inr (.inr (.inr (fun _ => none))))))]) := hD
  refine lv_aload_n hx hb dX4_init_49 rfl (lv_at hl 0 rfl) ?_
  refine con_obj (G := G) (ci := 1) (fs := [.null, .null, .null, .null, .null, .null, .int 0, .int 0]) (C := RX1) (T := TX1) (N := 8) (cf := cellsX1 G) (host := "LineDispatch") (mc := 6) (ms := 2702) tyX1 hx hb hml hl.1 hown hts uw_X1 tyX1_ok wq_190 wq_191 wq_87 hK hP hD hS hA rfl df_X1 (fun q sz => mkX1_init l G q sz) ⟨wq_193, wq_194, ⟨by decide +kernel, by decide +kernel, by decide +kernel⟩, rfl, rfl⟩ hnw.2.1 ⟨rfl, rfl, Nat.le_of_ble_eq_true rfl, Nat.le_of_ble_eq_true rfl⟩ (Nat.le_of_ble_eq_true rfl) (Nat.le_of_ble_eq_true rfl) (Nat.le_of_ble_eq_true rfl) dX4_init_50 dX4_init_53 dX4_init_54 (fun q50_5 u50_5 H locs hP hD hS => ?_)
  have hP : va_P G.1 vwCl (((((([(h0, .inr (4, [.ref q5_0, .ref q16_1, .ref q28, .ref q36, .ref q43, .null, .null, .int 0]))] ++ cellsX0 G q5_0 u5_0) ++ cellsX0 G q16_1 u16_1) ++ [(q28, .inl (G.2.2 3, 2, .inr (.inr (.inr (.inr (fun _ => none))))))]) ++ [(q36, .inl (G.2.2 1, 2, .inl (fun _ => 0)))]) ++ [(q43, .inl (G.2.2 4, 4, .inr (.inr (.inr (.inr (fun _ => none))))))]) ++ cellsX1 G q50_5 u50_5) H := hP
  have hD : va_D A (((((([(h0, .inr (4, [.ref q5_0, .ref q16_1, .ref q28, .ref q36, .ref q43, .null, .null, .int 0]))] ++ cellsX0 G q5_0 u5_0) ++ cellsX0 G q16_1 u16_1) ++ [(q28, .inl (G.2.2 3, 2, .inr (.inr (.inr (.inr (fun _ => none))))))]) ++ [(q36, .inl (G.2.2 1, 2, .inl (fun _ => 0)))]) ++ [(q43, .inl (G.2.2 4, 4, .inr (.inr (.inr (.inr (fun _ => none))))))]) ++ cellsX1 G q50_5 u50_5) := hD
  refine va_putF (D := G.1) (ci := 4) (v := .ref q50_5) (ty := .object "LineDispatch$Postures") (C := RX4) (T := TX4) (N := 8) hx hb hts uw_X4 tyX4 tyX4_ok nmX4 hown hK hP hD hS 0 rfl rfl 5 (by decide) (hts _ wq_281) (fun _ h9 => h9) rfl hin rfl (by decide +kernel) rfl rfl (Nat.le_of_ble_eq_true rfl) dX4_init_57 (fun H locs hP hD hS => ?_)
  have hP : va_P G.1 vwCl (((((([(h0, .inr (4, [.ref q5_0, .ref q16_1, .ref q28, .ref q36, .ref q43, .ref q50_5, .null, .int 0]))] ++ cellsX0 G q5_0 u5_0) ++ cellsX0 G q16_1 u16_1) ++ [(q28, .inl (G.2.2 3, 2, .inr (.inr (.inr (.inr (fun _ => none))))))]) ++ [(q36, .inl (G.2.2 1, 2, .inl (fun _ => 0)))]) ++ [(q43, .inl (G.2.2 4, 4, .inr (.inr (.inr (.inr (fun _ => none))))))]) ++ cellsX1 G q50_5 u50_5) H := hP
  have hD : va_D A (((((([(h0, .inr (4, [.ref q5_0, .ref q16_1, .ref q28, .ref q36, .ref q43, .ref q50_5, .null, .int 0]))] ++ cellsX0 G q5_0 u5_0) ++ cellsX0 G q16_1 u16_1) ++ [(q28, .inl (G.2.2 3, 2, .inr (.inr (.inr (.inr (fun _ => none))))))]) ++ [(q36, .inl (G.2.2 1, 2, .inl (fun _ => 0)))]) ++ [(q43, .inl (G.2.2 4, 4, .inr (.inr (.inr (.inr (fun _ => none))))))]) ++ cellsX1 G q50_5 u50_5) := hD
  refine lv_aload_n hx hb dX4_init_60 rfl (lv_at hl 0 rfl) ?_
  refine con_obj (G := G) (ci := 2) (fs := [.null, .int 0, .int 0, .int 0, .int 0, .int 0, .int 0, .int 0]) (C := RX2) (T := TX2) (N := 8) (cf := cellsX2 G) (host := "LineDispatch") (mc := 1) (ms := 160) tyX2 hx hb hml hl.1 hown hts uw_X2 tyX2_ok wq_224 wq_225 wq_88 hK hP hD hS hA rfl df_X2 (fun q sz => mkX2_init l G q sz) ⟨wq_227, wq_228, ⟨by decide +kernel, by decide +kernel, by decide +kernel⟩, rfl, rfl⟩ hnw.2.2.1 ⟨rfl, rfl, Nat.le_of_ble_eq_true rfl, Nat.le_of_ble_eq_true rfl⟩ (Nat.le_of_ble_eq_true rfl) (Nat.le_of_ble_eq_true rfl) (Nat.le_of_ble_eq_true rfl) dX4_init_61 dX4_init_64 dX4_init_65 (fun q61_6 u61_6 H locs hP hD hS => ?_)
  have hP : va_P G.1 vwCl ((((((([(h0, .inr (4, [.ref q5_0, .ref q16_1, .ref q28, .ref q36, .ref q43, .ref q50_5, .null, .int 0]))] ++ cellsX0 G q5_0 u5_0) ++ cellsX0 G q16_1 u16_1) ++ [(q28, .inl (G.2.2 3, 2, .inr (.inr (.inr (.inr (fun _ => none))))))]) ++ [(q36, .inl (G.2.2 1, 2, .inl (fun _ => 0)))]) ++ [(q43, .inl (G.2.2 4, 4, .inr (.inr (.inr (.inr (fun _ => none))))))]) ++ cellsX1 G q50_5 u50_5) ++ cellsX2 G q61_6 u61_6) H := hP
  have hD : va_D A ((((((([(h0, .inr (4, [.ref q5_0, .ref q16_1, .ref q28, .ref q36, .ref q43, .ref q50_5, .null, .int 0]))] ++ cellsX0 G q5_0 u5_0) ++ cellsX0 G q16_1 u16_1) ++ [(q28, .inl (G.2.2 3, 2, .inr (.inr (.inr (.inr (fun _ => none))))))]) ++ [(q36, .inl (G.2.2 1, 2, .inl (fun _ => 0)))]) ++ [(q43, .inl (G.2.2 4, 4, .inr (.inr (.inr (.inr (fun _ => none))))))]) ++ cellsX1 G q50_5 u50_5) ++ cellsX2 G q61_6 u61_6) := hD
  refine va_putF (D := G.1) (ci := 4) (v := .ref q61_6) (ty := .object "LineDispatch$Reader") (C := RX4) (T := TX4) (N := 8) hx hb hts uw_X4 tyX4 tyX4_ok nmX4 hown hK hP hD hS 0 rfl rfl 6 (by decide) (hts _ wq_282) (fun _ h9 => h9) rfl hin rfl (by decide +kernel) rfl rfl (Nat.le_of_ble_eq_true rfl) dX4_init_68 (fun H locs hP hD hS => ?_)
  have hP : va_P G.1 vwCl ((((((([(h0, .inr (4, [.ref q5_0, .ref q16_1, .ref q28, .ref q36, .ref q43, .ref q50_5, .ref q61_6, .int 0]))] ++ cellsX0 G q5_0 u5_0) ++ cellsX0 G q16_1 u16_1) ++ [(q28, .inl (G.2.2 3, 2, .inr (.inr (.inr (.inr (fun _ => none))))))]) ++ [(q36, .inl (G.2.2 1, 2, .inl (fun _ => 0)))]) ++ [(q43, .inl (G.2.2 4, 4, .inr (.inr (.inr (.inr (fun _ => none))))))]) ++ cellsX1 G q50_5 u50_5) ++ cellsX2 G q61_6 u61_6) H := hP
  have hD : va_D A ((((((([(h0, .inr (4, [.ref q5_0, .ref q16_1, .ref q28, .ref q36, .ref q43, .ref q50_5, .ref q61_6, .int 0]))] ++ cellsX0 G q5_0 u5_0) ++ cellsX0 G q16_1 u16_1) ++ [(q28, .inl (G.2.2 3, 2, .inr (.inr (.inr (.inr (fun _ => none))))))]) ++ [(q36, .inl (G.2.2 1, 2, .inl (fun _ => 0)))]) ++ [(q43, .inl (G.2.2 4, 4, .inr (.inr (.inr (.inr (fun _ => none))))))]) ++ cellsX1 G q50_5 u50_5) ++ cellsX2 G q61_6 u61_6) := hD
  refine lv_iconst (v := 0) hx hb dX4_init_71 (by decide) ?_
  refine lv_istore_n (x := 0) (lv' := [(1, .int 0), (0, .ref h0)]) hx hb dX4_init_72 rfl hl (by decide) rfl (fun ls hl => ?_)
  refine lv_iload_n hx hb dX4_init_73 rfl (lv_at hl 0 rfl) ?_
  refine lv_iconst (v := 2) hx hb dX4_init_74 (by decide) ?_
  refine lv_icmp_ge (tgt := 97) hx hb dX4_init_75 (by decide) (fun z => absurd z (by decide)) (fun _ => ?_)
  refine lv_aload_n hx hb dX4_init_78 rfl (lv_at hl 1 rfl) ?_
  refine va_get (D := G.1) (ci := 4) (v := .ref q28) (C := RX4) (T := TX4) (N := 8) hx hb hts uw_X4 hown hK hP 0 rfl rfl 2 (by decide) (hts _ wq_278) (fun _ h9 => h9) rfl dX4_init_79 ?_
  refine lv_iload_n hx hb dX4_init_82 rfl (lv_at hl 0 rfl) ?_
  refine con_obj (G := G) (ci := 0) (fs := [.int 0, .null, .null, .null, .int 0, .null, .null, .null, .null, .null, .null, .int 0, .int 0, .null, .null, .null]) (C := RX0) (T := TX0) (N := 16) (cf := cellsX0 G) (host := "LineDispatch") (mc := 12) (ms := 234) tyX0 hx hb hml hl.1 hown hts uw_X0 tyX0_ok wq_106 wq_107 wq_86 hK hP hD hS hA rfl df_X0 (fun q sz => mkX0_init l G q sz) ⟨wq_109, wq_110, ⟨by decide +kernel, by decide +kernel, by decide +kernel⟩, rfl, rfl⟩ hnw.1 ⟨rfl, rfl, Nat.le_of_ble_eq_true rfl, Nat.le_of_ble_eq_true rfl⟩ (Nat.le_of_ble_eq_true rfl) (Nat.le_of_ble_eq_true rfl) (Nat.le_of_ble_eq_true rfl) dX4_init_83 dX4_init_86 dX4_init_87 (fun q83_7 u83_7 H locs hP hD hS => ?_)
  have hP : va_P G.1 vwCl (((((((([(h0, .inr (4, [.ref q5_0, .ref q16_1, .ref q28, .ref q36, .ref q43, .ref q50_5, .ref q61_6, .int 0]))] ++ cellsX0 G q5_0 u5_0) ++ cellsX0 G q16_1 u16_1) ++ [(q28, .inl (G.2.2 3, 2, .inr (.inr (.inr (.inr (fun _ => none))))))]) ++ [(q36, .inl (G.2.2 1, 2, .inl (fun _ => 0)))]) ++ [(q43, .inl (G.2.2 4, 4, .inr (.inr (.inr (.inr (fun _ => none))))))]) ++ cellsX1 G q50_5 u50_5) ++ cellsX2 G q61_6 u61_6) ++ cellsX0 G q83_7 u83_7) H := hP
  have hD : va_D A (((((((([(h0, .inr (4, [.ref q5_0, .ref q16_1, .ref q28, .ref q36, .ref q43, .ref q50_5, .ref q61_6, .int 0]))] ++ cellsX0 G q5_0 u5_0) ++ cellsX0 G q16_1 u16_1) ++ [(q28, .inl (G.2.2 3, 2, .inr (.inr (.inr (.inr (fun _ => none))))))]) ++ [(q36, .inl (G.2.2 1, 2, .inl (fun _ => 0)))]) ++ [(q43, .inl (G.2.2 4, 4, .inr (.inr (.inr (.inr (fun _ => none))))))]) ++ cellsX1 G q50_5 u50_5) ++ cellsX2 G q61_6 u61_6) ++ cellsX0 G q83_7 u83_7) := hD
  refine va_astq (D := G.1) hx hb hK hP hD hS 27 3 39 0 rfl rfl rfl rfl (vp_in_nI (n := 0) (by decide) (by decide)) dX4_init_90 (fun H locs hP hD hS => ?_)
  have hP : va_P G.1 vwCl (((((((([(h0, .inr (4, [.ref q5_0, .ref q16_1, .ref q28, .ref q36, .ref q43, .ref q50_5, .ref q61_6, .int 0]))] ++ cellsX0 G q5_0 u5_0) ++ cellsX0 G q16_1 u16_1) ++ [(q28, .inl (G.2.2 3, 2, .inr (.inr (.inr (.inr (va_up (fun _ => none) 0 (some q83_7)))))))]) ++ [(q36, .inl (G.2.2 1, 2, .inl (fun _ => 0)))]) ++ [(q43, .inl (G.2.2 4, 4, .inr (.inr (.inr (.inr (fun _ => none))))))]) ++ cellsX1 G q50_5 u50_5) ++ cellsX2 G q61_6 u61_6) ++ cellsX0 G q83_7 u83_7) H := hP
  have hD : va_D A (((((((([(h0, .inr (4, [.ref q5_0, .ref q16_1, .ref q28, .ref q36, .ref q43, .ref q50_5, .ref q61_6, .int 0]))] ++ cellsX0 G q5_0 u5_0) ++ cellsX0 G q16_1 u16_1) ++ [(q28, .inl (G.2.2 3, 2, .inr (.inr (.inr (.inr (va_up (fun _ => none) 0 (some q83_7)))))))]) ++ [(q36, .inl (G.2.2 1, 2, .inl (fun _ => 0)))]) ++ [(q43, .inl (G.2.2 4, 4, .inr (.inr (.inr (.inr (fun _ => none))))))]) ++ cellsX1 G q50_5 u50_5) ++ cellsX2 G q61_6 u61_6) ++ cellsX0 G q83_7 u83_7) := hD
  refine lv_iinc (v := 1) (lv' := [(1, .int 1), (0, .ref h0)]) hx hb dX4_init_91 hl (k := 0) rfl (by decide) (by decide) rfl (fun ls hl => ?_)
  refine lv_goto (tgt := 73) hx hb dX4_init_94 (by decide) ?_
  refine lv_iload_n hx hb dX4_init_73 rfl (lv_at hl 0 rfl) ?_
  refine lv_iconst (v := 2) hx hb dX4_init_74 (by decide) ?_
  refine lv_icmp_ge (tgt := 97) hx hb dX4_init_75 (by decide) (fun z => absurd z (by decide)) (fun _ => ?_)
  refine lv_aload_n hx hb dX4_init_78 rfl (lv_at hl 1 rfl) ?_
  refine va_get (D := G.1) (ci := 4) (v := .ref q28) (C := RX4) (T := TX4) (N := 8) hx hb hts uw_X4 hown hK hP 0 rfl rfl 2 (by decide) (hts _ wq_278) (fun _ h9 => h9) rfl dX4_init_79 ?_
  refine lv_iload_n hx hb dX4_init_82 rfl (lv_at hl 0 rfl) ?_
  refine con_obj (G := G) (ci := 0) (fs := [.int 0, .null, .null, .null, .int 0, .null, .null, .null, .null, .null, .null, .int 0, .int 0, .null, .null, .null]) (C := RX0) (T := TX0) (N := 16) (cf := cellsX0 G) (host := "LineDispatch") (mc := 12) (ms := 234) tyX0 hx hb hml hl.1 hown hts uw_X0 tyX0_ok wq_106 wq_107 wq_86 hK hP hD hS hA rfl df_X0 (fun q sz => mkX0_init l G q sz) ⟨wq_109, wq_110, ⟨by decide +kernel, by decide +kernel, by decide +kernel⟩, rfl, rfl⟩ hnw.1 ⟨rfl, rfl, Nat.le_of_ble_eq_true rfl, Nat.le_of_ble_eq_true rfl⟩ (Nat.le_of_ble_eq_true rfl) (Nat.le_of_ble_eq_true rfl) (Nat.le_of_ble_eq_true rfl) dX4_init_83 dX4_init_86 dX4_init_87 (fun q83_8 u83_8 H locs hP hD hS => ?_)
  have hP : va_P G.1 vwCl ((((((((([(h0, .inr (4, [.ref q5_0, .ref q16_1, .ref q28, .ref q36, .ref q43, .ref q50_5, .ref q61_6, .int 0]))] ++ cellsX0 G q5_0 u5_0) ++ cellsX0 G q16_1 u16_1) ++ [(q28, .inl (G.2.2 3, 2, .inr (.inr (.inr (.inr (va_up (fun _ => none) 0 (some q83_7)))))))]) ++ [(q36, .inl (G.2.2 1, 2, .inl (fun _ => 0)))]) ++ [(q43, .inl (G.2.2 4, 4, .inr (.inr (.inr (.inr (fun _ => none))))))]) ++ cellsX1 G q50_5 u50_5) ++ cellsX2 G q61_6 u61_6) ++ cellsX0 G q83_7 u83_7) ++ cellsX0 G q83_8 u83_8) H := hP
  have hD : va_D A ((((((((([(h0, .inr (4, [.ref q5_0, .ref q16_1, .ref q28, .ref q36, .ref q43, .ref q50_5, .ref q61_6, .int 0]))] ++ cellsX0 G q5_0 u5_0) ++ cellsX0 G q16_1 u16_1) ++ [(q28, .inl (G.2.2 3, 2, .inr (.inr (.inr (.inr (va_up (fun _ => none) 0 (some q83_7)))))))]) ++ [(q36, .inl (G.2.2 1, 2, .inl (fun _ => 0)))]) ++ [(q43, .inl (G.2.2 4, 4, .inr (.inr (.inr (.inr (fun _ => none))))))]) ++ cellsX1 G q50_5 u50_5) ++ cellsX2 G q61_6 u61_6) ++ cellsX0 G q83_7 u83_7) ++ cellsX0 G q83_8 u83_8) := hD
  refine va_astq (D := G.1) hx hb hK hP hD hS 27 3 52 0 rfl rfl rfl rfl (vp_in_nI (n := 1) (by decide) (by decide)) dX4_init_90 (fun H locs hP hD hS => ?_)
  have hP : va_P G.1 vwCl ((((((((([(h0, .inr (4, [.ref q5_0, .ref q16_1, .ref q28, .ref q36, .ref q43, .ref q50_5, .ref q61_6, .int 0]))] ++ cellsX0 G q5_0 u5_0) ++ cellsX0 G q16_1 u16_1) ++ [(q28, .inl (G.2.2 3, 2, .inr (.inr (.inr (.inr (va_up (va_up (fun _ => none) 0 (some q83_7)) 1 (some q83_8)))))))]) ++ [(q36, .inl (G.2.2 1, 2, .inl (fun _ => 0)))]) ++ [(q43, .inl (G.2.2 4, 4, .inr (.inr (.inr (.inr (fun _ => none))))))]) ++ cellsX1 G q50_5 u50_5) ++ cellsX2 G q61_6 u61_6) ++ cellsX0 G q83_7 u83_7) ++ cellsX0 G q83_8 u83_8) H := hP
  have hD : va_D A ((((((((([(h0, .inr (4, [.ref q5_0, .ref q16_1, .ref q28, .ref q36, .ref q43, .ref q50_5, .ref q61_6, .int 0]))] ++ cellsX0 G q5_0 u5_0) ++ cellsX0 G q16_1 u16_1) ++ [(q28, .inl (G.2.2 3, 2, .inr (.inr (.inr (.inr (va_up (va_up (fun _ => none) 0 (some q83_7)) 1 (some q83_8)))))))]) ++ [(q36, .inl (G.2.2 1, 2, .inl (fun _ => 0)))]) ++ [(q43, .inl (G.2.2 4, 4, .inr (.inr (.inr (.inr (fun _ => none))))))]) ++ cellsX1 G q50_5 u50_5) ++ cellsX2 G q61_6 u61_6) ++ cellsX0 G q83_7 u83_7) ++ cellsX0 G q83_8 u83_8) := hD
  refine lv_iinc (v := 2) (lv' := [(1, .int 2), (0, .ref h0)]) hx hb dX4_init_91 hl (k := 0) rfl (by decide) (by decide) rfl (fun ls hl => ?_)
  refine lv_goto (tgt := 73) hx hb dX4_init_94 (by decide) ?_
  refine lv_iload_n hx hb dX4_init_73 rfl (lv_at hl 0 rfl) ?_
  refine lv_iconst (v := 2) hx hb dX4_init_74 (by decide) ?_
  refine lv_icmp_ge (tgt := 97) hx hb dX4_init_75 (by decide) (fun _ => ?_) (fun z => absurd (by decide) z)
  refine lv_iconst (v := 0) hx hb dX4_init_97 (by decide) ?_
  refine lv_istore_n (x := 0) (lv' := [(1, .int 0), (0, .ref h0)]) hx hb dX4_init_98 rfl hl (by decide) rfl (fun ls hl => ?_)
  refine lv_iload_n hx hb dX4_init_99 rfl (lv_at hl 0 rfl) ?_
  refine lv_iconst (v := 4) hx hb dX4_init_100 (by decide) ?_
  refine lv_icmp_ge (tgt := 123) hx hb dX4_init_101 (by decide) (fun z => absurd z (by decide)) (fun _ => ?_)
  refine lv_aload_n hx hb dX4_init_104 rfl (lv_at hl 1 rfl) ?_
  refine va_get (D := G.1) (ci := 4) (v := .ref q43) (C := RX4) (T := TX4) (N := 8) hx hb hts uw_X4 hown hK hP 0 rfl rfl 4 (by decide) (hts _ wq_280) (fun _ h9 => h9) rfl dX4_init_105 ?_
  refine lv_iload_n hx hb dX4_init_108 rfl (lv_at hl 0 rfl) ?_
  refine con_obj (G := G) (ci := 3) (fs := [.int 0, .null, .int 0]) (C := RX3) (T := TX3) (N := 3) (cf := cellsX3 G) (host := "LineDispatch") (mc := 1) (ms := 40) tyX3 hx hb hml hl.1 hown hts uw_X3 tyX3_ok wq_188 wq_259 wq_89 hK hP hD hS hA rfl df_X3 (fun q sz => mkX3_init l G q sz) ⟨wq_261, wq_262, ⟨by decide +kernel, by decide +kernel, by decide +kernel⟩, rfl, rfl⟩ hnw.2.2.2 ⟨rfl, rfl, Nat.le_of_ble_eq_true rfl, Nat.le_of_ble_eq_true rfl⟩ (Nat.le_of_ble_eq_true rfl) (Nat.le_of_ble_eq_true rfl) (Nat.le_of_ble_eq_true rfl) dX4_init_109 dX4_init_112 dX4_init_113 (fun q109_9 u109_9 H locs hP hD hS => ?_)
  have hP : va_P G.1 vwCl (((((((((([(h0, .inr (4, [.ref q5_0, .ref q16_1, .ref q28, .ref q36, .ref q43, .ref q50_5, .ref q61_6, .int 0]))] ++ cellsX0 G q5_0 u5_0) ++ cellsX0 G q16_1 u16_1) ++ [(q28, .inl (G.2.2 3, 2, .inr (.inr (.inr (.inr (va_up (va_up (fun _ => none) 0 (some q83_7)) 1 (some q83_8)))))))]) ++ [(q36, .inl (G.2.2 1, 2, .inl (fun _ => 0)))]) ++ [(q43, .inl (G.2.2 4, 4, .inr (.inr (.inr (.inr (fun _ => none))))))]) ++ cellsX1 G q50_5 u50_5) ++ cellsX2 G q61_6 u61_6) ++ cellsX0 G q83_7 u83_7) ++ cellsX0 G q83_8 u83_8) ++ cellsX3 G q109_9 u109_9) H := hP
  have hD : va_D A (((((((((([(h0, .inr (4, [.ref q5_0, .ref q16_1, .ref q28, .ref q36, .ref q43, .ref q50_5, .ref q61_6, .int 0]))] ++ cellsX0 G q5_0 u5_0) ++ cellsX0 G q16_1 u16_1) ++ [(q28, .inl (G.2.2 3, 2, .inr (.inr (.inr (.inr (va_up (va_up (fun _ => none) 0 (some q83_7)) 1 (some q83_8)))))))]) ++ [(q36, .inl (G.2.2 1, 2, .inl (fun _ => 0)))]) ++ [(q43, .inl (G.2.2 4, 4, .inr (.inr (.inr (.inr (fun _ => none))))))]) ++ cellsX1 G q50_5 u50_5) ++ cellsX2 G q61_6 u61_6) ++ cellsX0 G q83_7 u83_7) ++ cellsX0 G q83_8 u83_8) ++ cellsX3 G q109_9 u109_9) := hD
  refine va_astq (D := G.1) hx hb hK hP hD hS 29 4 65 3 rfl rfl rfl rfl (vp_in_nI (n := 0) (by decide) (by decide)) dX4_init_116 (fun H locs hP hD hS => ?_)
  have hP : va_P G.1 vwCl (((((((((([(h0, .inr (4, [.ref q5_0, .ref q16_1, .ref q28, .ref q36, .ref q43, .ref q50_5, .ref q61_6, .int 0]))] ++ cellsX0 G q5_0 u5_0) ++ cellsX0 G q16_1 u16_1) ++ [(q28, .inl (G.2.2 3, 2, .inr (.inr (.inr (.inr (va_up (va_up (fun _ => none) 0 (some q83_7)) 1 (some q83_8)))))))]) ++ [(q36, .inl (G.2.2 1, 2, .inl (fun _ => 0)))]) ++ [(q43, .inl (G.2.2 4, 4, .inr (.inr (.inr (.inr (va_up (fun _ => none) 0 (some q109_9)))))))]) ++ cellsX1 G q50_5 u50_5) ++ cellsX2 G q61_6 u61_6) ++ cellsX0 G q83_7 u83_7) ++ cellsX0 G q83_8 u83_8) ++ cellsX3 G q109_9 u109_9) H := hP
  have hD : va_D A (((((((((([(h0, .inr (4, [.ref q5_0, .ref q16_1, .ref q28, .ref q36, .ref q43, .ref q50_5, .ref q61_6, .int 0]))] ++ cellsX0 G q5_0 u5_0) ++ cellsX0 G q16_1 u16_1) ++ [(q28, .inl (G.2.2 3, 2, .inr (.inr (.inr (.inr (va_up (va_up (fun _ => none) 0 (some q83_7)) 1 (some q83_8)))))))]) ++ [(q36, .inl (G.2.2 1, 2, .inl (fun _ => 0)))]) ++ [(q43, .inl (G.2.2 4, 4, .inr (.inr (.inr (.inr (va_up (fun _ => none) 0 (some q109_9)))))))]) ++ cellsX1 G q50_5 u50_5) ++ cellsX2 G q61_6 u61_6) ++ cellsX0 G q83_7 u83_7) ++ cellsX0 G q83_8 u83_8) ++ cellsX3 G q109_9 u109_9) := hD
  refine lv_iinc (v := 1) (lv' := [(1, .int 1), (0, .ref h0)]) hx hb dX4_init_117 hl (k := 0) rfl (by decide) (by decide) rfl (fun ls hl => ?_)
  refine lv_goto (tgt := 99) hx hb dX4_init_120 (by decide) ?_
  refine lv_iload_n hx hb dX4_init_99 rfl (lv_at hl 0 rfl) ?_
  refine lv_iconst (v := 4) hx hb dX4_init_100 (by decide) ?_
  refine lv_icmp_ge (tgt := 123) hx hb dX4_init_101 (by decide) (fun z => absurd z (by decide)) (fun _ => ?_)
  refine lv_aload_n hx hb dX4_init_104 rfl (lv_at hl 1 rfl) ?_
  refine va_get (D := G.1) (ci := 4) (v := .ref q43) (C := RX4) (T := TX4) (N := 8) hx hb hts uw_X4 hown hK hP 0 rfl rfl 4 (by decide) (hts _ wq_280) (fun _ h9 => h9) rfl dX4_init_105 ?_
  refine lv_iload_n hx hb dX4_init_108 rfl (lv_at hl 0 rfl) ?_
  refine con_obj (G := G) (ci := 3) (fs := [.int 0, .null, .int 0]) (C := RX3) (T := TX3) (N := 3) (cf := cellsX3 G) (host := "LineDispatch") (mc := 1) (ms := 40) tyX3 hx hb hml hl.1 hown hts uw_X3 tyX3_ok wq_188 wq_259 wq_89 hK hP hD hS hA rfl df_X3 (fun q sz => mkX3_init l G q sz) ⟨wq_261, wq_262, ⟨by decide +kernel, by decide +kernel, by decide +kernel⟩, rfl, rfl⟩ hnw.2.2.2 ⟨rfl, rfl, Nat.le_of_ble_eq_true rfl, Nat.le_of_ble_eq_true rfl⟩ (Nat.le_of_ble_eq_true rfl) (Nat.le_of_ble_eq_true rfl) (Nat.le_of_ble_eq_true rfl) dX4_init_109 dX4_init_112 dX4_init_113 (fun q109_10 u109_10 H locs hP hD hS => ?_)
  have hP : va_P G.1 vwCl ((((((((((([(h0, .inr (4, [.ref q5_0, .ref q16_1, .ref q28, .ref q36, .ref q43, .ref q50_5, .ref q61_6, .int 0]))] ++ cellsX0 G q5_0 u5_0) ++ cellsX0 G q16_1 u16_1) ++ [(q28, .inl (G.2.2 3, 2, .inr (.inr (.inr (.inr (va_up (va_up (fun _ => none) 0 (some q83_7)) 1 (some q83_8)))))))]) ++ [(q36, .inl (G.2.2 1, 2, .inl (fun _ => 0)))]) ++ [(q43, .inl (G.2.2 4, 4, .inr (.inr (.inr (.inr (va_up (fun _ => none) 0 (some q109_9)))))))]) ++ cellsX1 G q50_5 u50_5) ++ cellsX2 G q61_6 u61_6) ++ cellsX0 G q83_7 u83_7) ++ cellsX0 G q83_8 u83_8) ++ cellsX3 G q109_9 u109_9) ++ cellsX3 G q109_10 u109_10) H := hP
  have hD : va_D A ((((((((((([(h0, .inr (4, [.ref q5_0, .ref q16_1, .ref q28, .ref q36, .ref q43, .ref q50_5, .ref q61_6, .int 0]))] ++ cellsX0 G q5_0 u5_0) ++ cellsX0 G q16_1 u16_1) ++ [(q28, .inl (G.2.2 3, 2, .inr (.inr (.inr (.inr (va_up (va_up (fun _ => none) 0 (some q83_7)) 1 (some q83_8)))))))]) ++ [(q36, .inl (G.2.2 1, 2, .inl (fun _ => 0)))]) ++ [(q43, .inl (G.2.2 4, 4, .inr (.inr (.inr (.inr (va_up (fun _ => none) 0 (some q109_9)))))))]) ++ cellsX1 G q50_5 u50_5) ++ cellsX2 G q61_6 u61_6) ++ cellsX0 G q83_7 u83_7) ++ cellsX0 G q83_8 u83_8) ++ cellsX3 G q109_9 u109_9) ++ cellsX3 G q109_10 u109_10) := hD
  refine va_astq (D := G.1) hx hb hK hP hD hS 29 4 67 3 rfl rfl rfl rfl (vp_in_nI (n := 1) (by decide) (by decide)) dX4_init_116 (fun H locs hP hD hS => ?_)
  have hP : va_P G.1 vwCl ((((((((((([(h0, .inr (4, [.ref q5_0, .ref q16_1, .ref q28, .ref q36, .ref q43, .ref q50_5, .ref q61_6, .int 0]))] ++ cellsX0 G q5_0 u5_0) ++ cellsX0 G q16_1 u16_1) ++ [(q28, .inl (G.2.2 3, 2, .inr (.inr (.inr (.inr (va_up (va_up (fun _ => none) 0 (some q83_7)) 1 (some q83_8)))))))]) ++ [(q36, .inl (G.2.2 1, 2, .inl (fun _ => 0)))]) ++ [(q43, .inl (G.2.2 4, 4, .inr (.inr (.inr (.inr (va_up (va_up (fun _ => none) 0 (some q109_9)) 1 (some q109_10)))))))]) ++ cellsX1 G q50_5 u50_5) ++ cellsX2 G q61_6 u61_6) ++ cellsX0 G q83_7 u83_7) ++ cellsX0 G q83_8 u83_8) ++ cellsX3 G q109_9 u109_9) ++ cellsX3 G q109_10 u109_10) H := hP
  have hD : va_D A ((((((((((([(h0, .inr (4, [.ref q5_0, .ref q16_1, .ref q28, .ref q36, .ref q43, .ref q50_5, .ref q61_6, .int 0]))] ++ cellsX0 G q5_0 u5_0) ++ cellsX0 G q16_1 u16_1) ++ [(q28, .inl (G.2.2 3, 2, .inr (.inr (.inr (.inr (va_up (va_up (fun _ => none) 0 (some q83_7)) 1 (some q83_8)))))))]) ++ [(q36, .inl (G.2.2 1, 2, .inl (fun _ => 0)))]) ++ [(q43, .inl (G.2.2 4, 4, .inr (.inr (.inr (.inr (va_up (va_up (fun _ => none) 0 (some q109_9)) 1 (some q109_10)))))))]) ++ cellsX1 G q50_5 u50_5) ++ cellsX2 G q61_6 u61_6) ++ cellsX0 G q83_7 u83_7) ++ cellsX0 G q83_8 u83_8) ++ cellsX3 G q109_9 u109_9) ++ cellsX3 G q109_10 u109_10) := hD
  refine lv_iinc (v := 2) (lv' := [(1, .int 2), (0, .ref h0)]) hx hb dX4_init_117 hl (k := 0) rfl (by decide) (by decide) rfl (fun ls hl => ?_)
  refine lv_goto (tgt := 99) hx hb dX4_init_120 (by decide) ?_
  refine lv_iload_n hx hb dX4_init_99 rfl (lv_at hl 0 rfl) ?_
  refine lv_iconst (v := 4) hx hb dX4_init_100 (by decide) ?_
  refine lv_icmp_ge (tgt := 123) hx hb dX4_init_101 (by decide) (fun z => absurd z (by decide)) (fun _ => ?_)
  refine lv_aload_n hx hb dX4_init_104 rfl (lv_at hl 1 rfl) ?_
  refine va_get (D := G.1) (ci := 4) (v := .ref q43) (C := RX4) (T := TX4) (N := 8) hx hb hts uw_X4 hown hK hP 0 rfl rfl 4 (by decide) (hts _ wq_280) (fun _ h9 => h9) rfl dX4_init_105 ?_
  refine lv_iload_n hx hb dX4_init_108 rfl (lv_at hl 0 rfl) ?_
  refine con_obj (G := G) (ci := 3) (fs := [.int 0, .null, .int 0]) (C := RX3) (T := TX3) (N := 3) (cf := cellsX3 G) (host := "LineDispatch") (mc := 1) (ms := 40) tyX3 hx hb hml hl.1 hown hts uw_X3 tyX3_ok wq_188 wq_259 wq_89 hK hP hD hS hA rfl df_X3 (fun q sz => mkX3_init l G q sz) ⟨wq_261, wq_262, ⟨by decide +kernel, by decide +kernel, by decide +kernel⟩, rfl, rfl⟩ hnw.2.2.2 ⟨rfl, rfl, Nat.le_of_ble_eq_true rfl, Nat.le_of_ble_eq_true rfl⟩ (Nat.le_of_ble_eq_true rfl) (Nat.le_of_ble_eq_true rfl) (Nat.le_of_ble_eq_true rfl) dX4_init_109 dX4_init_112 dX4_init_113 (fun q109_11 u109_11 H locs hP hD hS => ?_)
  have hP : va_P G.1 vwCl (((((((((((([(h0, .inr (4, [.ref q5_0, .ref q16_1, .ref q28, .ref q36, .ref q43, .ref q50_5, .ref q61_6, .int 0]))] ++ cellsX0 G q5_0 u5_0) ++ cellsX0 G q16_1 u16_1) ++ [(q28, .inl (G.2.2 3, 2, .inr (.inr (.inr (.inr (va_up (va_up (fun _ => none) 0 (some q83_7)) 1 (some q83_8)))))))]) ++ [(q36, .inl (G.2.2 1, 2, .inl (fun _ => 0)))]) ++ [(q43, .inl (G.2.2 4, 4, .inr (.inr (.inr (.inr (va_up (va_up (fun _ => none) 0 (some q109_9)) 1 (some q109_10)))))))]) ++ cellsX1 G q50_5 u50_5) ++ cellsX2 G q61_6 u61_6) ++ cellsX0 G q83_7 u83_7) ++ cellsX0 G q83_8 u83_8) ++ cellsX3 G q109_9 u109_9) ++ cellsX3 G q109_10 u109_10) ++ cellsX3 G q109_11 u109_11) H := hP
  have hD : va_D A (((((((((((([(h0, .inr (4, [.ref q5_0, .ref q16_1, .ref q28, .ref q36, .ref q43, .ref q50_5, .ref q61_6, .int 0]))] ++ cellsX0 G q5_0 u5_0) ++ cellsX0 G q16_1 u16_1) ++ [(q28, .inl (G.2.2 3, 2, .inr (.inr (.inr (.inr (va_up (va_up (fun _ => none) 0 (some q83_7)) 1 (some q83_8)))))))]) ++ [(q36, .inl (G.2.2 1, 2, .inl (fun _ => 0)))]) ++ [(q43, .inl (G.2.2 4, 4, .inr (.inr (.inr (.inr (va_up (va_up (fun _ => none) 0 (some q109_9)) 1 (some q109_10)))))))]) ++ cellsX1 G q50_5 u50_5) ++ cellsX2 G q61_6 u61_6) ++ cellsX0 G q83_7 u83_7) ++ cellsX0 G q83_8 u83_8) ++ cellsX3 G q109_9 u109_9) ++ cellsX3 G q109_10 u109_10) ++ cellsX3 G q109_11 u109_11) := hD
  refine va_astq (D := G.1) hx hb hK hP hD hS 29 4 69 3 rfl rfl rfl rfl (vp_in_nI (n := 2) (by decide) (by decide)) dX4_init_116 (fun H locs hP hD hS => ?_)
  have hP : va_P G.1 vwCl (((((((((((([(h0, .inr (4, [.ref q5_0, .ref q16_1, .ref q28, .ref q36, .ref q43, .ref q50_5, .ref q61_6, .int 0]))] ++ cellsX0 G q5_0 u5_0) ++ cellsX0 G q16_1 u16_1) ++ [(q28, .inl (G.2.2 3, 2, .inr (.inr (.inr (.inr (va_up (va_up (fun _ => none) 0 (some q83_7)) 1 (some q83_8)))))))]) ++ [(q36, .inl (G.2.2 1, 2, .inl (fun _ => 0)))]) ++ [(q43, .inl (G.2.2 4, 4, .inr (.inr (.inr (.inr (va_up (va_up (va_up (fun _ => none) 0 (some q109_9)) 1 (some q109_10)) 2 (some q109_11)))))))]) ++ cellsX1 G q50_5 u50_5) ++ cellsX2 G q61_6 u61_6) ++ cellsX0 G q83_7 u83_7) ++ cellsX0 G q83_8 u83_8) ++ cellsX3 G q109_9 u109_9) ++ cellsX3 G q109_10 u109_10) ++ cellsX3 G q109_11 u109_11) H := hP
  have hD : va_D A (((((((((((([(h0, .inr (4, [.ref q5_0, .ref q16_1, .ref q28, .ref q36, .ref q43, .ref q50_5, .ref q61_6, .int 0]))] ++ cellsX0 G q5_0 u5_0) ++ cellsX0 G q16_1 u16_1) ++ [(q28, .inl (G.2.2 3, 2, .inr (.inr (.inr (.inr (va_up (va_up (fun _ => none) 0 (some q83_7)) 1 (some q83_8)))))))]) ++ [(q36, .inl (G.2.2 1, 2, .inl (fun _ => 0)))]) ++ [(q43, .inl (G.2.2 4, 4, .inr (.inr (.inr (.inr (va_up (va_up (va_up (fun _ => none) 0 (some q109_9)) 1 (some q109_10)) 2 (some q109_11)))))))]) ++ cellsX1 G q50_5 u50_5) ++ cellsX2 G q61_6 u61_6) ++ cellsX0 G q83_7 u83_7) ++ cellsX0 G q83_8 u83_8) ++ cellsX3 G q109_9 u109_9) ++ cellsX3 G q109_10 u109_10) ++ cellsX3 G q109_11 u109_11) := hD
  refine lv_iinc (v := 3) (lv' := [(1, .int 3), (0, .ref h0)]) hx hb dX4_init_117 hl (k := 0) rfl (by decide) (by decide) rfl (fun ls hl => ?_)
  refine lv_goto (tgt := 99) hx hb dX4_init_120 (by decide) ?_
  refine lv_iload_n hx hb dX4_init_99 rfl (lv_at hl 0 rfl) ?_
  refine lv_iconst (v := 4) hx hb dX4_init_100 (by decide) ?_
  refine lv_icmp_ge (tgt := 123) hx hb dX4_init_101 (by decide) (fun z => absurd z (by decide)) (fun _ => ?_)
  refine lv_aload_n hx hb dX4_init_104 rfl (lv_at hl 1 rfl) ?_
  refine va_get (D := G.1) (ci := 4) (v := .ref q43) (C := RX4) (T := TX4) (N := 8) hx hb hts uw_X4 hown hK hP 0 rfl rfl 4 (by decide) (hts _ wq_280) (fun _ h9 => h9) rfl dX4_init_105 ?_
  refine lv_iload_n hx hb dX4_init_108 rfl (lv_at hl 0 rfl) ?_
  refine con_obj (G := G) (ci := 3) (fs := [.int 0, .null, .int 0]) (C := RX3) (T := TX3) (N := 3) (cf := cellsX3 G) (host := "LineDispatch") (mc := 1) (ms := 40) tyX3 hx hb hml hl.1 hown hts uw_X3 tyX3_ok wq_188 wq_259 wq_89 hK hP hD hS hA rfl df_X3 (fun q sz => mkX3_init l G q sz) ⟨wq_261, wq_262, ⟨by decide +kernel, by decide +kernel, by decide +kernel⟩, rfl, rfl⟩ hnw.2.2.2 ⟨rfl, rfl, Nat.le_of_ble_eq_true rfl, Nat.le_of_ble_eq_true rfl⟩ (Nat.le_of_ble_eq_true rfl) (Nat.le_of_ble_eq_true rfl) (Nat.le_of_ble_eq_true rfl) dX4_init_109 dX4_init_112 dX4_init_113 (fun q109_12 u109_12 H locs hP hD hS => ?_)
  have hP : va_P G.1 vwCl ((((((((((((([(h0, .inr (4, [.ref q5_0, .ref q16_1, .ref q28, .ref q36, .ref q43, .ref q50_5, .ref q61_6, .int 0]))] ++ cellsX0 G q5_0 u5_0) ++ cellsX0 G q16_1 u16_1) ++ [(q28, .inl (G.2.2 3, 2, .inr (.inr (.inr (.inr (va_up (va_up (fun _ => none) 0 (some q83_7)) 1 (some q83_8)))))))]) ++ [(q36, .inl (G.2.2 1, 2, .inl (fun _ => 0)))]) ++ [(q43, .inl (G.2.2 4, 4, .inr (.inr (.inr (.inr (va_up (va_up (va_up (fun _ => none) 0 (some q109_9)) 1 (some q109_10)) 2 (some q109_11)))))))]) ++ cellsX1 G q50_5 u50_5) ++ cellsX2 G q61_6 u61_6) ++ cellsX0 G q83_7 u83_7) ++ cellsX0 G q83_8 u83_8) ++ cellsX3 G q109_9 u109_9) ++ cellsX3 G q109_10 u109_10) ++ cellsX3 G q109_11 u109_11) ++ cellsX3 G q109_12 u109_12) H := hP
  have hD : va_D A ((((((((((((([(h0, .inr (4, [.ref q5_0, .ref q16_1, .ref q28, .ref q36, .ref q43, .ref q50_5, .ref q61_6, .int 0]))] ++ cellsX0 G q5_0 u5_0) ++ cellsX0 G q16_1 u16_1) ++ [(q28, .inl (G.2.2 3, 2, .inr (.inr (.inr (.inr (va_up (va_up (fun _ => none) 0 (some q83_7)) 1 (some q83_8)))))))]) ++ [(q36, .inl (G.2.2 1, 2, .inl (fun _ => 0)))]) ++ [(q43, .inl (G.2.2 4, 4, .inr (.inr (.inr (.inr (va_up (va_up (va_up (fun _ => none) 0 (some q109_9)) 1 (some q109_10)) 2 (some q109_11)))))))]) ++ cellsX1 G q50_5 u50_5) ++ cellsX2 G q61_6 u61_6) ++ cellsX0 G q83_7 u83_7) ++ cellsX0 G q83_8 u83_8) ++ cellsX3 G q109_9 u109_9) ++ cellsX3 G q109_10 u109_10) ++ cellsX3 G q109_11 u109_11) ++ cellsX3 G q109_12 u109_12) := hD
  refine va_astq (D := G.1) hx hb hK hP hD hS 29 4 71 3 rfl rfl rfl rfl (vp_in_nI (n := 3) (by decide) (by decide)) dX4_init_116 (fun H locs hP hD hS => ?_)
  have hP : va_P G.1 vwCl ((((((((((((([(h0, .inr (4, [.ref q5_0, .ref q16_1, .ref q28, .ref q36, .ref q43, .ref q50_5, .ref q61_6, .int 0]))] ++ cellsX0 G q5_0 u5_0) ++ cellsX0 G q16_1 u16_1) ++ [(q28, .inl (G.2.2 3, 2, .inr (.inr (.inr (.inr (va_up (va_up (fun _ => none) 0 (some q83_7)) 1 (some q83_8)))))))]) ++ [(q36, .inl (G.2.2 1, 2, .inl (fun _ => 0)))]) ++ [(q43, .inl (G.2.2 4, 4, .inr (.inr (.inr (.inr (va_up (va_up (va_up (va_up (fun _ => none) 0 (some q109_9)) 1 (some q109_10)) 2 (some q109_11)) 3 (some q109_12)))))))]) ++ cellsX1 G q50_5 u50_5) ++ cellsX2 G q61_6 u61_6) ++ cellsX0 G q83_7 u83_7) ++ cellsX0 G q83_8 u83_8) ++ cellsX3 G q109_9 u109_9) ++ cellsX3 G q109_10 u109_10) ++ cellsX3 G q109_11 u109_11) ++ cellsX3 G q109_12 u109_12) H := hP
  have hD : va_D A ((((((((((((([(h0, .inr (4, [.ref q5_0, .ref q16_1, .ref q28, .ref q36, .ref q43, .ref q50_5, .ref q61_6, .int 0]))] ++ cellsX0 G q5_0 u5_0) ++ cellsX0 G q16_1 u16_1) ++ [(q28, .inl (G.2.2 3, 2, .inr (.inr (.inr (.inr (va_up (va_up (fun _ => none) 0 (some q83_7)) 1 (some q83_8)))))))]) ++ [(q36, .inl (G.2.2 1, 2, .inl (fun _ => 0)))]) ++ [(q43, .inl (G.2.2 4, 4, .inr (.inr (.inr (.inr (va_up (va_up (va_up (va_up (fun _ => none) 0 (some q109_9)) 1 (some q109_10)) 2 (some q109_11)) 3 (some q109_12)))))))]) ++ cellsX1 G q50_5 u50_5) ++ cellsX2 G q61_6 u61_6) ++ cellsX0 G q83_7 u83_7) ++ cellsX0 G q83_8 u83_8) ++ cellsX3 G q109_9 u109_9) ++ cellsX3 G q109_10 u109_10) ++ cellsX3 G q109_11 u109_11) ++ cellsX3 G q109_12 u109_12) := hD
  refine lv_iinc (v := 4) (lv' := [(1, .int 4), (0, .ref h0)]) hx hb dX4_init_117 hl (k := 0) rfl (by decide) (by decide) rfl (fun ls hl => ?_)
  refine lv_goto (tgt := 99) hx hb dX4_init_120 (by decide) ?_
  refine lv_iload_n hx hb dX4_init_99 rfl (lv_at hl 0 rfl) ?_
  refine lv_iconst (v := 4) hx hb dX4_init_100 (by decide) ?_
  refine lv_icmp_ge (tgt := 123) hx hb dX4_init_101 (by decide) (fun _ => ?_) (fun z => absurd (by decide) z)
  exact W.vret hx hb hr (fun t ht hW => ⟨⟨([q5_0, q16_1, q28, q36, q43, q50_5, q61_6, q83_7, q83_8, q109_9, q109_10, q109_11, q109_12], [u5_0, u16_1, u50_5, u61_6, u83_7, u83_8, u109_9, u109_10, u109_11, u109_12]), rfl, trivial, by rw [ht]; exact hP, hD⟩, hS.F ht⟩) hS.2.2 dX4_init_123
