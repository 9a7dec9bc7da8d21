/-- the locals at a method's entry -/
def parg : Nat → List PV → List (Nat × PV)
  | _, [] => []
  | i, v :: vs => (i, v) :: parg (if pcat v = 2 then i + 2 else i + 1) vs
def psz : List PV → Nat
  | [] => 0
  | v :: vs => pcat v + psz vs
theorem parg_emb (G : Gm) : ∀ (vs : List PV) (i : Nat), lv_args i (vs.map (emb G)) = (parg i vs).map (fun q => (q.1, emb G q.2))
  | [], i => rfl
  | v :: vs, i => by
    show (i, emb G v) :: lv_args (if (emb G v).category = 2 then i + 2 else i + 1) (vs.map (emb G)) = _
    rw [emb_cat, parg_emb G vs]
    rfl
theorem psz_emb (G : Gm) : ∀ (vs : List PV), (lg_sl (vs.map (emb G))).length = psz vs
  | [] => rfl
  | v :: vs => by
    have ih := psz_emb G vs
    unfold lg_sl at ih ⊢
    rw [List.map_cons, List.flatMap_cons, List.length_append, ih, emb_cat]
    rcases v with x | x | x <;> rfl
theorem parg_ok : ∀ {vs : List PV} {i : Nat}, (∀ v ∈ vs, okV v) → ∀ q ∈ parg i vs, okV q.2
  | [], i, h, q, hq => by cases hq
  | v :: vs, i, h, q, hq => by
    rcases List.mem_cons.mp hq with rfl | hq
    · exact h v List.mem_cons_self
    · exact parg_ok (fun u hu => h u (List.mem_cons_of_mem _ hu)) q hq
/-- a method's start: arguments, the pool, what lies outside it -/
def Po (G : Gm) (X : Sc) (vs : List PV) (μ : Mem) (sz : Nat) : Array Value → State → Prop := va_Pc (vs.map (emb G)) (fun U => U.heap.size = sz ∧ va_P G.1 vwCl (wsO G μ) U.heap ∧ va_K G.1 vwCl (tysO G) U ∧ va_D (fun _ => True) (wsO G μ) ∧ Xt G X (va_A (wsO G μ) sz) U U.heap)
/-- its end -/
def Qo (ret : Option FieldType) (G : Gm) (A : Nat → Prop) (r : Int32) (μ' : Mem) : Array Value → State → Outcome → State → Prop := match ret with
  | none => va_Qv (fun _ : Unit => True) (fun _ t => va_P G.1 vwCl (wsO G μ') t.heap ∧ va_D A (wsO G μ')) A
  | some _ => va_Qi (fun (x : Int32) (_ : Unit) => x = r) (fun _ t => va_P G.1 vwCl (wsO G μ') t.heap ∧ va_D A (wsO G μ')) A
theorem met_of_sim {τ : Type} {X : Sc} {y : MethodName} {cc : ByteArray} {nL : Nat} {ret : Option FieldType} {R : Room} {ro : τ → Int32} {mo : τ → Mem} {vs : List PV} {μ : Mem} {ex : Option τ} {t : τ} (hy : plainName y.cls = true) (hR0 : R.cells = 0 ∧ R.slots = 0) (hsz : psz vs ≤ nL)
    (S : Sim X cc nL ret y.cls R ro mo 0 (parg 0 vs) [] μ ex) (he : ex = some t) (hok : ∀ v ∈ vs, okV v) (l : Launch) (G : Gm) (sz : Nat) :
    Met l y (.code y cc nL ret :: lw_ok) R (Po G X vs μ sz) (Qo ret G (va_A (wsO G μ) sz) (ro t) (mo t)) 0 0 (va_A (wsO G μ) sz) := by
  refine Met.ofW (cc := cc) (maxL := nL) (ret := ret) hy rfl ?_
  intro p e s m args below meth c s₁ B hml hv
  obtain ⟨rfl, rfl, hP, hK, hD0, hX⟩ := hv
  have hts := atoms_spec (ws := Cond.code y cc nL ret :: lw_ok) B.pre
  have hown : s.vm.findClass y.cls = some m.cls := findClass_of_methodNamed B.named
  have hr := B.returns
  have hlocks := B.notSynchronized
  have hD := hD0.self (sz := s.heap.size)
  rw [lg_entry_eq]
  have hl := lv_entry (vs.map (emb G)) (n := nL) (by rw [psz_emb]; exact hsz)
  rw [parg_emb] at hl
  refine S t he G p l e s m (vs.map (emb G)).toArray below meth c (va_A (wsO G μ) s.heap.size) 0 0 _ ⟨B.exec, B.bytes, hml, hown, fun w hw => hts w (List.mem_cons_of_mem _ hw), fun q hq => Or.inr hq, hK, hX⟩ ⟨Nat.zero_le _, Nat.zero_le _⟩ ?_ s.heap [] _ (parg_ok hok) (fun v hv => by cases hv) hP hD va_S.rf hl
  intro H1 locs1 ls1 pc1 d hn hP1 hD1 hS1
  cases ret with
  | none => exact W.vret B.exec B.bytes hr (fun t' ht hW => ⟨⟨(), rfl, trivial, by rw [ht]; exact hP1, hD1⟩, hS1.F ht⟩) hS1.2.2 d hlocks
  | some ty => exact W.zret B.exec B.bytes hr (hn ty rfl) (fun t' ht hW => ⟨⟨ro t, (), rfl, rfl, by rw [ht]; exact hP1, hD1⟩, hS1.F ht⟩) hS1.2.2 d hlocks
/-- what the tables say of a method that is called -/
def MeV (y : MethodName) (cc : ByteArray) (nL : Nat) (ret : Option FieldType) (n : Nat) : Prop := Cond.instanceMethod y ∈ lw_ok ∧ Cond.selects y.cls y y ∈ lw_ok ∧ Cond.initialized y.cls ∈ lw_ok ∧ Cond.code y cc nL ret ∈ lw_ok ∧ (y.cls ≠ "java/lang/invoke/MethodHandle" ∧ y.cls ≠ "java/lang/invoke/VarHandle" ∧ (parseMethodDescriptor y.desc).map (fun d => d.parameters.length) = some n) ∧ plainName y.cls = true
def MeS (y : MethodName) (cc : ByteArray) (nL : Nat) (ret : Option FieldType) (n : Nat) : Prop := Cond.static y ∈ lw_ok ∧ Cond.initialized y.cls ∈ lw_ok ∧ Cond.code y cc nL ret ∈ lw_ok ∧ (y.cls ≠ "java/lang/invoke/MethodHandle" ∧ y.cls ≠ "java/lang/invoke/VarHandle" ∧ (parseMethodDescriptor y.desc).map (fun d => d.parameters.length) = some n) ∧ plainName y.cls = true
theorem ok_self {w : Cond} (h : w ∈ lw_ok) : w ∈ lw_ok ∧ ((w.onTables && w.keeps) = true ∨ ∃ ty, w = .arrayClass ty) := ⟨h, good_of_word (List.mem_filter.mp h).2⟩
theorem ok_V {own : String} {idx : Nat} {y : MethodName} {cc : ByteArray} {nL : Nat} {ret : Option FieldType} {n : Nat} (hl : Cond.methodLink own idx y ∈ lw_ok) (h : MeV y cc nL ret n) : GoodIn lw_ok (wsV own idx y.cls y (.code y cc nL ret :: lw_ok)) := by
  obtain ⟨h1, h2, h3, h4, -⟩ := h
  intro w hw
  simp only [wsV, List.mem_append, List.mem_cons, List.not_mem_nil, or_false] at hw
  rcases hw with (rfl | rfl | rfl | rfl) | rfl | hw
  · exact ok_self hl
  · exact ok_self h1
  · exact ok_self h2
  · exact ok_self h3
  · exact ok_self h4
  · exact ok_self hw
theorem ok_S {own : String} {idx : Nat} {y : MethodName} {cc : ByteArray} {nL : Nat} {ret : Option FieldType} {n : Nat} (hl : Cond.methodLink own idx y ∈ lw_ok) (h : MeS y cc nL ret n) : GoodIn lw_ok (va_wsS own idx y (.code y cc nL ret :: lw_ok)) := by
  obtain ⟨h1, h3, h4, -⟩ := h
  intro w hw
  simp only [va_wsS, List.mem_append, List.mem_cons, List.not_mem_nil, or_false] at hw
  rcases hw with (rfl | rfl | rfl) | rfl | hw
  · exact ok_self hl
  · exact ok_self h1
  · exact ok_self h3
  · exact ok_self h4
  · exact ok_self hw
theorem Po_blind (G : Gm) (X : Sc) (vs : List PV) (μ : Mem) (sz : Nat) : FrameBlind (Po G X vs μ sz) := by
  intro a U g mk h
  obtain ⟨h0, h1, h2, h3, h4, h5⟩ := h
  exact ⟨h0, h1, h2, va_K.moved (u := U) (U := U.calling g mk a) (Vm.Alike.refl U.vm) h3, h4, h5.call⟩
/-- the room of a callee fits the caller's -/
abbrev RoomIn (R' : Room) (nL' : Nat) (R : Room) : Prop := (R'.cells = 0 ∧ R'.slots = 0) ∧ R'.frames + 1 ≤ R.frames ∧ 8 + (nL' + 11) + R'.locals ≤ R.locals
section SimCall
variable {τ τ' : Type} {X : Sc} {cc cc' : ByteArray} {nL nL' : Nat} {ret ret' : Option FieldType} {own : String} {R R' : Room} {ro : τ → Int32} {mo : τ → Mem} {ro' : τ' → Int32} {mo' : τ' → Mem} {pc idx : Nat} {lo : List (Nat × PV)} {st : List PV} {μ : Mem} {ex a b : Option τ} {y : MethodName} {n : Nat} {ex' : Option τ'} {K : τ' → Option τ}
def rtP : Option FieldType → Int32 → List PV
  | none, _ => []
  | some _, x => [pI x]
/-- behind a call -/
theorem call_on {A : Nat → Prop} {G : Gm} {p : Program} {l : Launch} {e : Env} {s : State} {m : MethodId} {args : Array Value} {below : List Frame} {meth : Method} {c : Code} {cells slots : Nat} {Q : State → Prop} {H : Heap} {locs : List Loc} {ls : Array Slot} {t' : τ'} {st0 rest : List Value} {ar : Array Value}
    (hA : ∀ q : Nat, s.heap.size ≤ q → A q) (hD : va_D A (wsO G μ)) (hS : va_S A s.heap H locs)
    (hr : va_Run p l e R s m args below meth c H locs cells slots 0 0 (F0 m pc ls st0) rest (Qo ret' G (va_A (wsO G μ) H.size) (ro' t') (mo' t') ar) (va_A (wsO G μ) H.size))
    (kk : ∀ (H1 : Heap) (locs1 : List Loc), va_P G.1 vwCl (wsO G (mo' t')) H1 → va_D A (wsO G (mo' t')) → va_S A s.heap H1 locs1 → W p l e R s m args below meth c H1 locs1 cells slots Q (F0 m (pc + 3) ls ((rtP ret' (ro' t')).map (emb G) ++ rest))) :
    W p l e R s m args below meth c H locs cells slots Q (F0 m pc ls st0) := by
  have hF : ∀ q, va_A (wsO G μ) H.size q → A q := by
    intro q h
    rcases h with ⟨k, e9, h⟩ | h
    · exact hD.2 k (q, e9) h
    · exact hA q (Nat.le_trans hS.1 h)
  cases ret' with
  | none => exact va_callv (a := ar) (post := fun _ : Unit => True) hr hS (fun q _ h => hF q h) hF (fun u t H1 locs1 ht hvm hw hB hz hk hS1 => kk H1 locs1 (ht ▸ hB.1) (hB.2.weaken (fun _ q _ h => hF q.1 h)) hS1)
  | some ty => exact va_calli (a := ar) (post := fun (x : Int32) (_ : Unit) => x = ro' t') hr hS (fun q _ h => hF q h) hF (fun r u t H1 locs1 ht hvm hw hB hz hk hS1 => by
      subst hw
      exact kk H1 locs1 (ht ▸ hB.1) (hB.2.weaken (fun _ q _ h => hF q.1 h)) hS1)
theorem ok_rt (r : Option FieldType) (x : Int32) : ∀ v ∈ rtP r x, okV v := by
  cases r with
  | none => intro v hv; cases hv
  | some _ => intro v hv; rw [List.mem_singleton.mp hv]; trivial
theorem Xt_for {G : Gm} {A : Nat → Prop} {p : Program} {s : State} {m : MethodId} {args : Array Value} {c : Code} {H : Heap} {locs : List Loc} (F : Fm G X p s m args c cc nL own A) (hD : va_D A (wsO G μ)) (hS : va_S A s.heap H locs) {U : State} (hU : U.heap = H) (hW : s.WarmedH U.vm) : Xt G X (va_A (wsO G μ) H.size) U U.heap := by
  have h1 := F.2.2.2.2.2.2.2.kept hS.1 hS.2.1
  have h2 := h1.warm hW
  rw [hU]
  refine h2.narrow (fun q h => ?_)
  rcases h with ⟨k, e9, h⟩ | h
  · exact hD.2 k (q, e9) h
  · exact F.2.2.2.2.2.1 q (Nat.le_trans hS.1 h)
/-- a call of an instance's method -/
theorem sim_callV {c0 k0 : Nat} {As rest : List PV} (d : decode cc pc = .ok (.invokevirtual idx, 3)) (hl : Cond.methodLink own idx y ∈ lw_ok) (hm : MeV y cc' nL' ret' n) (hn : As.length = n) (hc : c0 < 6) (hcl : (vwCl[c0]?).map (fun q => q.1) = some y.cls) (hR : RoomIn R' nL' R) (hz : psz (pR c0 k0 0 :: As) ≤ nL') (hw : (rest.map pcat).sum ≤ 8)
    (hst : st = As.reverse ++ pR c0 k0 0 :: rest) (S : Sim X cc' nL' ret' y.cls R' ro' mo' 0 (parg 0 (pR c0 k0 0 :: As)) [] μ ex') (kk : ∀ q : τ', Sim X cc nL ret own R ro mo (pc + 3) lo (rtP ret' (ro' q) ++ rest) (mo' q) (K q)) : Sim X cc nL ret own R ro mo pc lo st μ (ex'.bind K) := by
  intro t he G p l e s m args below meth c A cells slots Q F hcs hRt H locs ls o1 o2 hP hD hS hl'
  obtain ⟨t', he', hK⟩ := Option.bind_eq_some_iff.mp he
  subst hst
  have hok : ∀ v ∈ pR c0 k0 0 :: As, okV v := fun v hv => o2 v (by
    rcases List.mem_cons.mp hv with rfl | hv
    · exact List.mem_append_right _ List.mem_cons_self
    · exact List.mem_append_left _ (List.mem_reverse.mpr hv))
  have hid : (c0, k0, 0) ∈ ids := ids_of (hok _ List.mem_cons_self) hc
  obtain ⟨q0, hq0, hw0⟩ := ws_at hid
  have hM := met_of_sim hm.2.2.2.2.2 hR.1 hz S he' hok l G H.size
  have hK0 := F.2.2.2.2.2.2.1
  obtain ⟨qc, hqc, hqn⟩ := Option.map_eq_some_iff.mp hcl
  have hrc := va_recv hK0 hP hqc (hw0 G μ)
  rw [hqn] at hrc
  have hrun := va_runV (cells := cells) (slots := slots) (locs := locs) (e := e) (below := below) (meth := meth) (g := F0 m pc ls ((As.reverse ++ pR c0 k0 0 :: rest).map (emb G))) (As := As.map (emb G)) (b := G.2.1 (c0, k0, 0)) (rest := rest.map (emb G)) (H := H) ⟨F.1, F.2.1, F.2.2.1, F.2.2.2.1, F.2.2.2.2.1⟩ hM (cwV n F.2.2.2.2.1 (ok_V hl hm) rfl hR.1.1 hR.1.2 ⟨rfl, hm.2.2.2.2.1⟩ hR.2)
    ⟨Po_blind _ _ _ _ _, hrc, fun U hU hW => ⟨rfl, by rw [hU], by rw [hU]; exact hP, va_K.moved hW.alike hK0, hD.weaken (fun _ _ _ _ => trivial), Xt_for F hD hS hU hW⟩⟩ rfl (by rw [List.length_map]; exact hn) hl'.1 (by simp [List.map_reverse, emb]) (by
      show 2 * 0 + ((rest.map (emb G)).map fun v => v.category).sum ≤ 8
      rw [List.map_map]
      have : (fun v => v.category) ∘ emb G = pcat := funext (emb_cat G)
      rw [this]
      omega) d hcs
  refine call_on F.2.2.2.2.2.1 hD hS hrun (fun H1 locs1 hP1 hD1 hS1 => ?_)
  rw [← List.map_append]
  exact kk t' t hK G p l e s m args below meth c A cells slots Q F hcs hRt H1 locs1 ls o1 (fun v hv => by
    rcases List.mem_append.mp hv with hv | hv
    · exact ok_rt _ _ v hv
    · exact o2 v (List.mem_append_right _ (List.mem_cons_of_mem _ hv))) hP1 hD1 hS1 hl'
/-- a call of a static method -/
theorem sim_callS {As rest : List PV} (d : decode cc pc = .ok (.invokestatic idx, 3)) (hl : Cond.methodLink own idx y ∈ lw_ok) (hm : MeS y cc' nL' ret' n) (hn : As.length = n) (hR : RoomIn R' nL' R) (hz : psz As ≤ nL') (hw : (rest.map pcat).sum ≤ 8)
    (hst : st = As.reverse ++ rest) (S : Sim X cc' nL' ret' y.cls R' ro' mo' 0 (parg 0 As) [] μ ex') (kk : ∀ q : τ', Sim X cc nL ret own R ro mo (pc + 3) lo (rtP ret' (ro' q) ++ rest) (mo' q) (K q)) : Sim X cc nL ret own R ro mo pc lo st μ (ex'.bind K) := by
  intro t he G p l e s m args below meth c A cells slots Q F hcs hRt H locs ls o1 o2 hP hD hS hl'
  obtain ⟨t', he', hK⟩ := Option.bind_eq_some_iff.mp he
  subst hst
  have hok : ∀ v ∈ As, okV v := fun v hv => o2 v (List.mem_append_left _ (List.mem_reverse.mpr hv))
  have hM := met_of_sim hm.2.2.2.2 hR.1 hz S he' hok l G H.size
  have hK0 := F.2.2.2.2.2.2.1
  have hrun := va_runS (cells := cells) (slots := slots) (locs := locs) (e := e) (below := below) (meth := meth) (g := F0 m pc ls ((As.reverse ++ rest).map (emb G))) (As := As.map (emb G)) (rest := rest.map (emb G)) (H := H) ⟨F.1, F.2.1, F.2.2.1, F.2.2.2.1, F.2.2.2.2.1⟩ hM (va_cwS n F.2.2.2.2.1 (ok_S hl hm) rfl hR.1.1 hR.1.2 hm.2.2.2.1 hR.2)
    ⟨Po_blind _ _ _ _ _, fun U hU hW => ⟨rfl, by rw [hU], by rw [hU]; exact hP, va_K.moved hW.alike hK0, hD.weaken (fun _ _ _ _ => trivial), Xt_for F hD hS hU hW⟩⟩ rfl (by rw [List.length_map]; exact hn) hl'.1 (by simp [List.map_reverse]) (by
      show 2 * 0 + ((rest.map (emb G)).map fun v => v.category).sum ≤ 8
      rw [List.map_map]
      have : (fun v => v.category) ∘ emb G = pcat := funext (emb_cat G)
      rw [this]
      omega) d hcs
  refine call_on F.2.2.2.2.2.1 hD hS hrun (fun H1 locs1 hP1 hD1 hS1 => ?_)
  rw [← List.map_append]
  exact kk t' t hK G p l e s m args below meth c A cells slots Q F hcs hRt H1 locs1 ls o1 (fun v hv => by
    rcases List.mem_append.mp hv with hv | hv
    · exact ok_rt _ _ v hv
    · exact o2 v (List.mem_append_right _ hv)) hP1 hD1 hS1 hl'
end SimCall
