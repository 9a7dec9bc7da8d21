def R_law : String := "LineDispatchLaw"
def lw_P (b : Addr) (xs : List Int32) (args : Array Value) (s : State) : Prop := args = #[.ref b] ∧ s.IntsAt b xs ∧ xs.length ≤ 2560 ∧ (Jvm.Cond.and given_1 narrow_1).before args s = true
def lw_Q (_ : Array Value) (s : State) (o : Outcome) (t : State) : Prop := o = .returned (some (.int 1)) ∧ Framed s o t [] 600000 7302250
def lw_Z (below : List Frame) (a : Array Value) (s : State) : State → Prop := fun t => ∃ o, t.status = .running ∧ Ended t below o ∧ lw_Q a s o t
/-- the law's own end, with 1 on the stack, nothing written that was there before, its room as the claim has it -/
theorem lw_ret {p : Program} {l : Launch} {e : Env} {s : State} {m : MethodId} {below : List Frame} {meth : Method} {c : Code} {b : Nat} (hx : p.tables.exec = Jvm.exec) (hb : c.code = code) (hr : meth.sig.returnType = ret) (hlocks : meth.locks = false) {pc : Nat} {H : Heap} {ls : Array Slot} (hdg : decode code pc = .ok (.ireturn, 1)) : W p l e room_1 s m #[Value.ref b] below meth c H [] 600000 7302250 (lw_Z below #[Value.ref b] s) (F0 m pc ls [.int 1]) := by
  intro T hT X
  obtain ⟨fs, hret, hrun, hended, hW, hframe⟩ := X.leave (v := some (.int 1)) (hlocks := hlocks) (fun h => by rw [hr] at h; cases h)
  have hmeth' : T.vm.method? m = some meth := X.method'
  refine ⟨T.setFrames fs, ?_, .returned (some (.int 1)), hrun, hended, rfl, ⟨_, rfl⟩, hW, hframe⟩
  jvm_step X.here [X.here.top, hx, hb, hdg, hmeth', hr, ret, narrow_b1]
  (try refine ⟨rfl, ?_⟩); (try refine ⟨rfl, ?_⟩)
  first | (intro acts; rw [hret _ acts rfl rfl rfl]) | rw [hret _ _ rfl rfl rfl]
  exact Steps.refl _
/-- what holds at the law's entry: the machine, the code, the tables' words (any of lw_tbl by 'hts w (by decide +kernel)'), the script of L ints xs at the cell b, what the Statement gives of the start (any of its parts by flat_of_before) -/
def lw_At (p : Program) (s : State) (m : MethodId) (meth : Method) (c : Code) (b L : Nat) (xs : Nat → Int32) : Prop :=
  p.tables.exec = Jvm.exec ∧ c.code = code ∧ meth.sig.returnType = ret ∧ c.maxLocals = 4 ∧ s.vm.findClass R_law = some m.cls ∧ (∀ w ∈ lw_tbl, w.before #[Value.ref b] s = true) ∧ va_X b L xs s s.heap ∧ b < s.heap.size ∧ meth.locks = false ∧ (Jvm.Cond.and given_1 narrow_1).before #[Value.ref b] s = true
set_option maxHeartbeats 8000000 in
set_option maxRecDepth 100000 in
/-- THE LAW, from its entry: the two constructors, then the simulation -/
theorem whole_start {p : Program} {e : Env} {s : State} {m : MethodId} {below : List Frame} {meth : Method} {c : Code} (l : Launch) (hflags : l.flags = flags0) {b L : Nat} {xs : Nat → Int32} (hL : L ≤ 2560) (C0 : lw_At p s m meth c b L xs) : W p l e room_1 s m #[Value.ref b] below meth c s.heap [] 0 0 (lw_Z below #[Value.ref b] s) (entryFrame m ([Value.ref b] : List Value).toArray 4) := by
  obtain ⟨hx, hb, hr, hml, hown, hts, hX, hbl, hlocks, hgv⟩ := id C0
  have hto : ∀ w ∈ lw_ok, w.before #[Value.ref b] s = true := fun w hw => hts w (List.mem_filter.mp hw).1
  have hA : ∀ q : Nat, s.heap.size ≤ q → (fun q : Nat => s.heap.size ≤ q) q := fun _ h => h
  have hbA : ¬ (fun q : Nat => s.heap.size ≤ q) b := Nat.not_le.mpr hbl
  obtain ⟨c0, iS0, hKn0⟩ := u_known (C := RX0) (T := TX0) (N := 16) (n := 16) hto uw_X0 (hto _ wq_107)
  obtain ⟨c1, iS1, hKn1⟩ := u_known (C := RX1) (T := TX1) (N := 8) (n := 8) hto uw_X1 (hto _ wq_191)
  obtain ⟨c2, iS2, hKn2⟩ := u_known (C := RX2) (T := TX2) (N := 8) (n := 8) hto uw_X2 (hto _ wq_225)
  obtain ⟨c3, iS3, hKn3⟩ := u_known (C := RX3) (T := TX3) (N := 3) (n := 3) hto uw_X3 (hto _ wq_259)
  obtain ⟨c4, iS4, hKn4⟩ := u_known (C := RX4) (T := TX4) (N := 8) (n := 8) hto uw_X4 (hto _ wq_99)
  obtain ⟨c5, iS5, hKn5⟩ := u_known (C := RX5) (T := TX5) (N := 24) (n := 24) hto uw_X5 (hto _ wq_785)
  obtain ⟨dC, dI, hKc⟩ : ∃ (dC : Nat → ClassId) (dI : Nat → Nat → Nat), ∀ (k : Nat) (q : vw_C), vwCl[k]? = some q → u_Kn s q.1 q.2.1 q.2.2 (dC k) (dI k) := by
    refine ⟨fun k => if k = 0 then c0 else if k = 1 then c1 else if k = 2 then c2 else if k = 3 then c3 else if k = 4 then c4 else c5, fun k => if k = 0 then iS0 else if k = 1 then iS1 else if k = 2 then iS2 else if k = 3 then iS3 else if k = 4 then iS4 else iS5, ?_⟩
    intro k q hq
    match k, hq with
    | 0, hq => cases hq; exact hKn0
    | 1, hq => cases hq; exact hKn1
    | 2, hq => cases hq; exact hKn2
    | 3, hq => cases hq; exact hKn3
    | 4, hq => cases hq; exact hKn4
    | 5, hq => cases hq; exact hKn5
    | k + 6, hq => simp [vwCl] at hq
  obtain ⟨cI, kI, pI9, fI, gI, hI⟩ := Cond.arrayClass_spec (hto (.arrayClass .int) wq_186)
  obtain ⟨cZ, kZ, pZ9, fZ, gZ, hZ9⟩ := Cond.arrayClass_spec (hto (.arrayClass .boolean) wq_222)
  obtain ⟨cB, kB, pB9, fB, gB, hB9⟩ := Cond.arrayClass_spec (hto (.arrayClass .byte) wq_223)
  have ao3 := hts (.arrayOver (.object "LineDispatch$Line")) (List.mem_of_getElem? (i := 187) (by decide +kernel))
  have ao4 := hts (.arrayOver (.object "LineDispatch$Sheet")) (List.mem_of_getElem? (i := 189) (by decide +kernel))
  obtain ⟨p3, c3a, k3, f31, -, f33, f34, f35⟩ := Cond.arrayOver_spec ao3
  obtain ⟨p4, c4a, k4, f41, -, f43, f44, f45⟩ := Cond.arrayOver_spec ao4
  have aof : ∀ {cA : ClassId} {kA : Class} {comp : ClassId} {ty : FieldType}, s.vm.classes[cA]? = some kA → kA.kind = .array comp ty → ArrOfT s cA ty := fun h1 h2 _ _ => ⟨(fun k h => by cases h), _, h1, _, h2⟩
  have hK : ∀ ad0 : Rf → Nat, va_K (dC, dI) vwCl (tysO ((dC, dI), ad0, fun k => if k = 0 then cI else if k = 1 then cZ else if k = 2 then cB else if k = 3 then c3a else c4a)) s := by
    intro ad0
    refine ⟨hKc, fun k q hq => ?_⟩
    match k, hq with
    | 0, hq => cases hq; exact ⟨aof gI hI, fI⟩
    | 1, hq => cases hq; exact ⟨aof gZ hZ9, fZ⟩
    | 2, hq => cases hq; exact ⟨aof gB hB9, fB⟩
    | 3, hq => cases hq; exact ⟨aof f33 f34, k3, p3, f33, f34, f31, f35⟩
    | 4, hq => cases hq; exact ⟨aof f43 f44, k4, p4, f43, f44, f41, f45⟩
    | k + 5, hq => simp [tysO] at hq
  generalize (fun k : Nat => if k = 0 then cI else if k = 1 then cZ else if k = 2 then cB else if k = 3 then c3a else c4a) = cy at hK
  have hnw : Nw4 s := ⟨va_Nw.of rfl (hts _ (List.mem_of_getElem? (i := 108) (by decide +kernel))), va_Nw.of rfl (hts _ (List.mem_of_getElem? (i := 192) (by decide +kernel))), va_Nw.of rfl (hts _ (List.mem_of_getElem? (i := 226) (by decide +kernel))), va_Nw.of rfl (hts _ (List.mem_of_getElem? (i := 260) (by decide +kernel)))⟩
  obtain ⟨au, adK, adV, x1, x2, x3, x4, x5, x6⟩ := xt_start hgv hts (A := fun q : Nat => s.heap.size ≤ q) (fun a h => Nat.not_le.mpr h)
  have hS : va_S (fun q : Nat => s.heap.size ≤ q) s.heap s.heap [] := va_S.rf
  have hP : va_P (dC, dI) vwCl [] s.heap := fun k q h => by simp at h
  have hD : va_D (fun q : Nat => s.heap.size ≤ q) [] := ⟨fun i j p q h => by simp at h, fun k q h => by simp at h⟩
  have hl := lv_entry ([.ref b]) (n := 4) (Nat.le_of_ble_eq_true rfl)
  rw [lg_entry_eq]
  generalize (lg_sl ([.ref b]) ++ List.replicate (4 - (lg_sl ([.ref b])).length) Slot.unset).toArray = ls at hl ⊢
  have hl : lv_has ls 4 [(0, .ref b)] := hl
  have hK0 := hK (fun _ => 0)
  refine va_new (ci := 4) (fs := [.null, .null, .null, .null, .null, .null, .null, .int 0]) (C := RX4) (T := TX4) (N := 8) hx hb hto uw_X4 tyX4 tyX4_ok hown (hto _ wq_98) (hto _ wq_99) (hto _ wq_85) hK0 hP hD hS hA rfl df_X4 (Nat.le_of_ble_eq_true rfl) (Nat.le_of_ble_eq_true rfl) dL_law_0 (fun q0 H hP hD hS => ?_)
  refine lv_dup hx hb dL_law_3 rfl ?_
  have hF := F_last hD hS hA
  refine va_callv (a := (Value.ref q0 :: ([] : List Value)).toArray) (post := fun _ : List Nat × List (List Nat) => True) (va_runI (As := []) (rest := [.ref q0]) ⟨hx, hb, hml, hown, hto⟩ (mkX4_init l ((dC, dI), (fun _ => 0), cy) q0 H.size) (cwI 0 hto (ok_self2 wq_102) rfl rfl rfl (hto _ wq_85) (hto _ wq_100) (hto _ wq_101) rfl (by decide +kernel) ⟨Nat.le_of_ble_eq_true rfl, Nat.le_of_ble_eq_true rfl⟩) ⟨Pc4_blind _ _ _, fun U hU hW => ⟨rfl, by rw [hU], by rw [hU]; exact P_last (G := ((dC, dI), (fun _ => 0), cy)) hP, va_K.moved hW.alike hK0, D_one, ⟨hnw.1.warmM hW, hnw.2.1.warmM hW, hnw.2.2.1.warmM hW, hnw.2.2.2.warmM hW⟩, (va_AO.of ao3).moved hW.alike, (va_AO.of ao4).moved hW.alike⟩⟩ rfl rfl hl.1 rfl (lv_room (Nat.le_of_ble_eq_true rfl)) dL_law_4 ⟨Nat.le_of_ble_eq_true rfl, Nat.le_of_ble_eq_true rfl⟩) hS (fun x _ h => hF x h) hF (fun u t H1 locs ht hvm _ hB hz hk hS => ?_)
  obtain ⟨hP1, hD1⟩ := hB
  rw [ht] at hP1
  obtain ⟨hP, hD⟩ := join_last hP hD hk hF hP1 hD1
  clear hP1 hD1 hF hk hz
  have hP : va_P (dC, dI) vwCl (cellsX4 ((dC, dI), (fun _ => 0), cy) q0 u) H1 := hP
  have hD : va_D (fun q : Nat => s.heap.size ≤ q) (cellsX4 ((dC, dI), (fun _ => 0), cy) q0 u) := hD
  refine lv_astore_n (lv' := [(1, .ref q0), (0, .ref b)]) hx hb dL_law_7 rfl hl (by decide) rfl (fun ls hl => ?_)
  refine va_new (ci := 5) (fs := [.null, .null, .null, .null, .null, .null, .int 0, .int 0, .int 0, .int 0, .int 0, .int 0, .int 0, .null, .null, .null, .null, .int 0, .null, .int 0, .null, .null, .null, .int 0]) (C := RX5) (T := TX5) (N := 24) hx hb hto uw_X5 tyX5 tyX5_ok hown (hto _ wq_784) (hto _ wq_785) (hto _ wq_90) hK0 hP hD hS hA rfl df_X5 (Nat.le_of_ble_eq_true rfl) (Nat.le_of_ble_eq_true rfl) dL_law_8 (fun q1 H hP hD hS => ?_)
  refine lv_dup hx hb dL_law_11 rfl ?_
  have hF := F_last hD hS hA
  refine va_callv (a := (Value.ref q1 :: ([] : List Value)).toArray) (post := fun _ : List Nat => True) (va_runI (As := []) (rest := [.ref q1]) ⟨hx, hb, hml, hown, hto⟩ (mkX5_init l ((dC, dI), (fun _ => 0), cy) q1 H.size) (cwI 0 hto (ok_self2 wq_788) rfl rfl rfl (hto _ wq_90) (hto _ wq_786) (hto _ wq_787) rfl (by decide +kernel) ⟨Nat.le_of_ble_eq_true rfl, Nat.le_of_ble_eq_true rfl⟩) ⟨Pcn_blind _ _ _ _ _, fun U hU hW => ⟨rfl, by rw [hU], by rw [hU]; exact P_last (G := ((dC, dI), (fun _ => 0), cy)) hP, va_K.moved hW.alike hK0, D_one⟩⟩ rfl rfl hl.1 rfl (lv_room (Nat.le_of_ble_eq_true rfl)) dL_law_12 ⟨Nat.le_of_ble_eq_true rfl, Nat.le_of_ble_eq_true rfl⟩) hS (fun x _ h => hF x h) hF (fun w t2 H2 locs2 ht2 hvm2 _ hB hz hk hS => ?_)
  obtain ⟨hP1, hD1⟩ := hB
  rw [ht2] at hP1
  obtain ⟨hP, hD⟩ := join_last hP hD hk hF hP1 hD1
  refine lv_astore_n (lv' := [(2, .ref q1), (1, .ref q0), (0, .ref b)]) hx hb dL_law_15 rfl hl (by decide) rfl (fun ls hl => ?_)
  obtain ⟨hP9, hD9⟩ := start_PD (dC, dI) cy (fun _ => 0) q0 q1 u w b au adK adV hP hD
  obtain ⟨m', hpure⟩ := law_pure (L, xs) hL
  refine sW_law (L, xs) mu0 (1, m') hpure ((dC, dI), adO q0 q1 u w b au adK adV, cy) p l e s m #[Value.ref b] below meth c (fun q : Nat => s.heap.size ≤ q) 88 12821 _ ⟨hx, hb, hml, hown, hto, hA, hK _, x1, x2, x3, x4, x5, x6, hX, hbl, hbA⟩ ⟨Nat.le_of_ble_eq_true rfl, Nat.le_of_ble_eq_true rfl⟩ ?_ H2 locs2 ls ?_ (fun v hv => by cases hv) hP9 hD9 hS (lv_sub hl [2, 1, 0] rfl)
  · intro H3 locs3 ls3 pc3 d hn hP3 hD3 hS3
    refine va_forget (fun q hq => hS3.2.2 q hq) ?_
    refine W.widen (k := 600000) (n := 7302250) (Nat.le_of_ble_eq_true rfl) (Nat.le_of_ble_eq_true rfl) ?_
    exact lw_ret hx hb hr hlocks d
  · intro q hq
    simp only [List.mem_cons, List.not_mem_nil, or_false] at hq
    rcases hq with rfl | rfl | rfl
    · exact (show ((8, 0, 0) : Rf) ∈ idsX by decide +kernel)
    · exact (show ((4, 0, 0) : Rf) ∈ idsX by decide +kernel)
    · exact (show ((5, 0, 0) : Rf) ∈ idsX by decide +kernel)

set_option maxHeartbeats 4000000 in
theorem lw_walk (l : Launch) (hflags : l.flags = flags0) (b : Addr) (xs : List Int32) : MetFree l x (headSpec (Jvm.Cond.code x code maxLocals ret :: tables_1) room_1) (lw_P b xs) (fun _ _ _ _ _ => True) lw_Q := by
  refine MetFree.of_bodyS (code := code) (maxLocals := maxLocals) (ret := ret) (by decide) ?_ ?_
  · intro args s m h hn
    obtain ⟨meth, c, h1, h2, h3, h4, h5, h6, -, -⟩ := Cond.code_spec hn (atoms_spec (ws := Jvm.Cond.code x code maxLocals ret :: tables_1) h _ List.mem_cons_self)
    exact ⟨meth, c, h1, h2, h3, h4, h5, h6⟩
  · intro p e s m args below meth c s₁ B hml0 hP _
    obtain ⟨rfl, hx, hbd, hgv⟩ := hP
    obtain ⟨scr, harrAt, hlist, hof, hsmall⟩ := hx
    obtain ⟨hcb, hkn, -, -⟩ := State.arrayAt?_spec harrAt
    have hown : s.vm.findClass R_law = some m.cls := findClass_of_methodNamed B.named
    have hts0 : ∀ c ∈ (Jvm.Cond.code x code maxLocals ret :: tables_1), c.before #[Value.ref b] s = true := atoms_spec (ws := Jvm.Cond.code x code maxLocals ret :: tables_1) B.pre
    have hts : ∀ w ∈ lw_tbl, w.before #[Value.ref b] s = true := k2_hts_sels lw_privs (fun w hw => hts0 w (List.mem_cons_of_mem _ hw)) lw_privs_ok
    have hml : c.maxLocals = 4 := B.maxLocals_eq (hts0 _ List.mem_cons_self)
    have X₀ : Stand p l e room_1 s m #[Value.ref b] below meth c s₁ [] 0 0 := Stand.of_body B
    have hh0 : s₁.heap = s.heap := by rw [B.state]; rfl
    have hsz : scr.slots.size = xs.length := by rw [← Array.length_toList, hlist, List.length_map]
    have hval : ∀ j : Nat, j < xs.length → scr.slots[j]? = some (.int (xs.getD j 0)) := fun j hj => by
      rw [← Array.getElem?_toList, hlist]
      simp [hj]
    have hbl : b < s.heap.size := (Array.getElem?_eq_some_iff.mp hcb).1
    have hX : va_X b xs.length (fun j => xs.getD j 0) s s.heap := ⟨scr, hcb, hof, hkn, hsz, hval⟩
    have K : W p l e room_1 s m #[Value.ref b] below meth c s₁.heap [] 0 0 (lw_Z below #[Value.ref b] s) (entryFrame m ([Value.ref b] : List Value).toArray 4) := by
      rw [hh0]
      exact whole_start l hflags hbd ⟨B.exec, B.bytes, B.returns, hml, hown, hts, hX, hbl, B.notSynchronized, hgv⟩
    obtain ⟨t, a1, o, b1, b2, b3⟩ := K s₁ rfl X₀
    exact ⟨t, o, a1, b1, b2, b3⟩
theorem lw_pre_spec {args : Array Value} {s : State} (h : (Jvm.Cond.and given_1 narrow_1).before args s = true) (hr : rest_1_c.before args s = true) : ∃ (b : Addr) (xs : List Int32), lw_P b xs args s := by
  have hs := flat_of_before _ h
  have hq := flat_of_before _ hr
  have hc : (Cond.count 1).before args s = true := hs _ (by decide +kernel)
  have harr : (Cond.arrayOf (.arg 0) .int).before args s = true := hs _ (by decide +kernel)
  have hle : (Cond.le (.length (.arg 0)) (.int 2560)).before args s = true := hs _ (by decide +kernel)
  have hlen : (Cond.isInt (.length (.arg 0))).before args s = true := hq _ (by decide +kernel)
  have hall : (Cond.all (.arg 0) (.isInt (.elem (.arg 0) (.index 0)))).before args s = true := hq _ (by decide +kernel)
  obtain ⟨b, xs, hb, hx⟩ := State.ints_of_pre rfl harr hlen hall
  have hsm : xs.length < 2 ^ 31 := hx.choose_spec.2.2.2
  have hev : (Term.length (.arg 0)).eval args s none [] s = some (.int xs.length.toInt32) := hx.length_eval hb
  have hv := Cond.le_ints hev (show (Term.int 2560).eval args s none [] s = some (.int 2560) from rfl)
  have hd : xs.length.toInt32 ≤ 2560 := by
    simpa [Cond.before, Cond.holds, hv] using hle
  have hN : xs.length ≤ 2560 := (Int32.ofNat_le_ofNat hsm (by decide)).mp (show Int32.ofNat xs.length ≤ Int32.ofNat 2560 from hd)
  exact ⟨b, xs, Cond.one_arg hc (show args[0]? = some (.ref b) from hb), hx, hN, h⟩
theorem lw_comes (l : Launch) (hflags : l.flags = flags0) : Comes l x (Jvm.Cond.code x code maxLocals ret :: tables_1) room_1 (fun tb e args s => Calls_1 tb e args s ∧ rest_1 tb e args s ∧ Pre_1 tb e args s)
    (fun _ _ args s o t => lw_Q args s o t) := by
  intro p e ha hc hk s m args below hf hfit hheap happ hpre
  obtain ⟨b, xs, hP⟩ := lw_pre_spec hpre.2.2 hpre.2.1
  obtain ⟨k, o, h1, h2, h3, hQ⟩ := lw_walk l hflags b xs p e ha hc hk s m args below hf ((Spec.applies_iff_loose hf).mp happ).1 hP trivial
  exact ⟨k, o, h1, h2, h3, hQ⟩
theorem lw_frame {s t : State} {o : Outcome} {args : Array Value} (h : Framed s o t [] 600000 7302250) :
    Framed s o t (fieldLocs frame_1_writes args s ++ arrayLocs frame_1_arrays args s ++ staticLocs frame_1_statics s) 600000 7302250 := h
theorem lw_limb (L : Cond) (hL : ∀ (args : Array Value) (s t : State), L.after args s (.returned (some (.int 1))) t = true) :
    ArmFor flags0 classFile x code maxLocals ret World_1 tables_1 room_1 Calls_1 rest_1 Pre_1
      (fun tb e a s o t => postC L tb e a s o t ∧ Framed s o t (fieldLocs frame_1_writes a s ++ arrayLocs frame_1_arrays a s ++ staticLocs frame_1_statics s) 600000 7302250) := by
  intro l hflags _ _ p e ha hc hk s m args below hf hfit hheap happ hpre
  obtain ⟨k, o, h1, h2, h3, rfl, hF⟩ := lw_comes l hflags p e ha hc hk s m args below hf hfit hheap happ hpre
  exact ⟨k, _, h1, h2, h3, hL args s _, lw_frame hF⟩
theorem i_vc : Claimed_1_1 ∧ Claimed_1_2 := ⟨lw_limb limb_1_1 (fun args s t => by simp [limb_1_1, Cond.after, Cond.holds, Cond.value]), lw_limb limb_1_2 (fun args s t => Cond.after_iff.mpr (by
  first | (rw [show limb_1_2 = Cond.eq .result (.int 1) from rfl, Cond.eq_ints (x := 1) (y := 1) rfl rfl]; simp; done) | (simp [limb_1_2, Cond.value, Term.eval]; done)))⟩

