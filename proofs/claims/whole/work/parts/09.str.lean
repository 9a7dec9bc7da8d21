def strLen (i : Nat) : Int32 := Int32.ofNat (strN.getD i 0)
def strCh (i k : Nat) : Int32 := (strB.getD i []).getD k 0
section SimStr
variable {τ τ' : Type} {X : Sc} {cc cc' : ByteArray} {nL nL' : Nat} {ret ret' : Option FieldType} {own : String} {R R' : Room} {ro : τ → Int32} {mo : τ → Mem} {ro' : τ' → Int32} {mo' : τ' → Mem} {pc idx : Nat} {lo : List (Nat × PV)} {st : List PV} {μ : Mem} {ex a b : Option τ} {y : MethodName} {n : Nat} {ex' : Option τ'} {K : τ' → Option τ}
theorem sim_i2c {x : Int32} (d : decode cc pc = .ok (.i2c, 1)) (k : Sim X cc nL ret own R ro mo (pc + 1) lo (pI ((x.toUInt32 % 65536).toInt32) :: st) μ ex) : Sim X cc nL ret own R ro mo pc lo (pI x :: st) μ ex :=
  sim_pure k (fun h _ => List.forall_mem_cons.mpr ⟨trivial, fun v hv => h v (List.mem_cons_of_mem _ hv)⟩) (fun _ _ _ _ _ _ _ _ _ _ _ _ _ _ _ _ _ F _ _ w => lv_i2c F.1 F.2.1 d rfl w)
theorem sim_cret {v : Int32} {t : τ} (d : decode cc pc = .ok (.ireturn, 1)) (hb : narrow .char (.int v) = .int v) (hr : ro t = v) (hm : mo t = μ) : Sim X cc nL (some .char) own R ro mo pc lo (pI v :: []) μ (some t) := by
  intro t' he G p l e s m args below meth cd A cells slots Q F hcs hR H locs ls o1 o2 hP hD hS hl
  cases he
  subst hr; subst hm
  exact hR H locs ls pc d (fun ty h => by cases h; exact hb) hP hD hS
theorem sim_cretg {v : Int32} {t : τ} (d : decode cc pc = .ok (.ireturn, 1)) (hr : ro t = v) (hm : mo t = μ) : Sim X cc nL (some .char) own R ro mo pc lo (pI v :: []) μ (gd (vp_nar .char v == v) (some t)) :=
  sim_gd fun hb => sim_cret d (by
    have h1 : vp_nar .char v = v := by simpa using hb
    have h2 : narrow .char (.int v) = .int (vp_nar .char v) := rfl
    rw [h2, h1]) hr hm
theorem sim_byret {v : Int32} {t : τ} (d : decode cc pc = .ok (.ireturn, 1)) (hb : narrow .byte (.int v) = .int v) (hr : ro t = v) (hm : mo t = μ) : Sim X cc nL (some .byte) own R ro mo pc lo (pI v :: []) μ (some t) := by
  intro t' he G p l e s m args below meth cd A cells slots Q F hcs hR H locs ls o1 o2 hP hD hS hl
  cases he
  subst hr; subst hm
  exact hR H locs ls pc d (fun ty h => by cases h; exact hb) hP hD hS
theorem sim_byretg {v : Int32} {t : τ} (d : decode cc pc = .ok (.ireturn, 1)) (hr : ro t = v) (hm : mo t = μ) : Sim X cc nL (some .byte) own R ro mo pc lo (pI v :: []) μ (gd (vp_nar .byte v == v) (some t)) :=
  sim_gd fun hb => sim_byret d (by
    have h1 : vp_nar .byte v = v := by simpa using hb
    have h2 : narrow .byte (.int v) = .int (vp_nar .byte v) := rfl
    rw [h2, h1]) hr hm
theorem sim_compact {index : Nat} (d : decode cc pc = .ok (.getstatic index, 3)) (hk : Cond.fieldLink own index "java/lang/String" "COMPACT_STRINGS" "Z" ∈ lw_ok) (kk : Sim X cc nL ret own R ro mo (pc + 3) lo (pI 1 :: st) μ ex) : Sim X cc nL ret own R ro mo pc lo st μ ex := by
  intro t he G p l e s m args below meth cd A cells slots Q F hcs hR H locs ls o1 o2 hP hD hS hl
  obtain ⟨-, -, -, -, hZ, -⟩ := F.2.2.2.2.2.2.2
  exact va_gets F.1 F.2.1 hZ hS F.2.2.2.1 (F.2.2.2.2.1 _ hk) (fun _ h9 => h9) d (kk t he G p l e s m args below meth cd A cells slots Q F hcs hR H locs ls o1 (List.forall_mem_cons.mpr ⟨trivial, o2⟩) hP hD hS hl)
theorem sim_ldcs {i index : Nat} (d : decode cc pc = .ok (.ldc index, 2)) (hi : i < 3) (hx : strI i = index) (ho : own = "LineDispatch$Reader") (kk : Sim X cc nL ret own R ro mo (pc + 2) lo (pR 6 i 0 :: st) μ ex) : Sim X cc nL ret own R ro mo pc lo st μ ex := by
  intro t he G p l e s m args below meth cd A cells slots Q F hcs hR H locs ls o1 o2 hP hD hS hl
  obtain ⟨-, -, -, hV, -⟩ := F.2.2.2.2.2.2.2
  subst hx
  have hv := hV i hi
  rw [← ho] at hv
  exact va_ldcS F.1 F.2.1 F.2.2.2.1 hv d (kk t he G p l e s m args below meth cd A cells slots Q F hcs hR H locs ls o1 (List.forall_mem_cons.mpr ⟨(show ∀ k, k < 3 → (6, k, 0) ∈ idsX by decide +kernel) i hi, o2⟩) hP hD hS hl)
theorem sim_sval {k index : Nat} (d : decode cc pc = .ok (.getfield index, 3)) (hk : Cond.fieldLink own index "java/lang/String" "value" "[B" ∈ lw_ok) (kk : Sim X cc nL ret own R ro mo (pc + 3) lo (pR 6 k 1 :: st) μ ex) : Sim X cc nL ret own R ro mo pc lo (pR 6 k 0 :: st) μ ex := by
  intro t he G p l e s m args below meth cd A cells slots Q F hcs hR H locs ls o1 o2 hP hD hS hl
  obtain ⟨-, -, hV, -⟩ := F.2.2.2.2.2.2.2
  have hi := ids_str (o2 _ List.mem_cons_self)
  exact vk_getf F.1 F.2.1 (hV.1 k hi).2.2.1 hS F.2.2.2.1 (F.2.2.2.2.1 _ hk) (fun _ h9 => h9) d (kk t he G p l e s m args below meth cd A cells slots Q F hcs hR H locs ls o1 (List.forall_mem_cons.mpr ⟨ids_st1 k hi, fun u hu => o2 u (List.mem_cons_of_mem _ hu)⟩) hP hD hS hl)
theorem sim_scod {k index : Nat} (d : decode cc pc = .ok (.getfield index, 3)) (hk : Cond.fieldLink own index "java/lang/String" "coder" "B" ∈ lw_ok) (kk : Sim X cc nL ret own R ro mo (pc + 3) lo (pI 0 :: st) μ ex) : Sim X cc nL ret own R ro mo pc lo (pR 6 k 0 :: st) μ ex := by
  intro t he G p l e s m args below meth cd A cells slots Q F hcs hR H locs ls o1 o2 hP hD hS hl
  obtain ⟨-, -, hV, -⟩ := F.2.2.2.2.2.2.2
  have hi := ids_str (o2 _ List.mem_cons_self)
  exact vk_getf F.1 F.2.1 (hV.1 k hi).2.1 hS F.2.2.2.1 (F.2.2.2.2.1 _ hk) (fun _ h9 => h9) d (kk t he G p l e s m args below meth cd A cells slots Q F hcs hR H locs ls o1 (List.forall_mem_cons.mpr ⟨trivial, fun u hu => o2 u (List.mem_cons_of_mem _ hu)⟩) hP hD hS hl)
theorem sim_sblen {k : Nat} (d : decode cc pc = .ok (.arraylength, 1)) (kk : Sim X cc nL ret own R ro mo (pc + 1) lo (pI (strLen k) :: st) μ ex) : Sim X cc nL ret own R ro mo pc lo (pR 6 k 1 :: st) μ ex := by
  intro t he G p l e s m args below meth cd A cells slots Q F hcs hR H locs ls o1 o2 hP hD hS hl
  obtain ⟨-, -, hV, -⟩ := F.2.2.2.2.2.2.2
  have hi := ids_str (o2 _ List.mem_cons_self)
  exact va_tlen F.1 F.2.1 (hV.1 k hi).2.2.2 hS rfl d (kk t he G p l e s m args below meth cd A cells slots Q F hcs hR H locs ls o1 (List.forall_mem_cons.mpr ⟨trivial, fun u hu => o2 u (List.mem_cons_of_mem _ hu)⟩) hP hD hS hl)
theorem sim_sbld {k : Nat} {i : Int32} (d : decode cc pc = .ok (.baload, 1)) (kk : Sim X cc nL ret own R ro mo (pc + 1) lo (pI (strCh k (ix i)) :: st) μ a) : Sim X cc nL ret own R ro mo pc lo (pI i :: pR 6 k 1 :: st) μ (gd (inb i (strN.getD k 0)) a) := by
  refine sim_gd fun hb => ?_
  intro t he G p l e s m args below meth cd A cells slots Q F hcs hR H locs ls o1 o2 hP hD hS hl
  obtain ⟨-, -, hV, -⟩ := F.2.2.2.2.2.2.2
  have hi := ids_str (o2 _ (List.mem_cons_of_mem _ List.mem_cons_self))
  exact va_tb F.1 F.2.1 (hV.1 k hi).2.2.2 hS (inb_in hb) rfl d (kk t he G p l e s m args below meth cd A cells slots Q F hcs hR H locs ls o1 (List.forall_mem_cons.mpr ⟨trivial, fun u hu => o2 u (List.mem_cons_of_mem _ (List.mem_cons_of_mem _ hu))⟩) hP hD hS hl)
/-- a call on a String constant -/
theorem sim_callT {k0 : Nat} {As rest : List PV} (d : decode cc pc = .ok (.invokevirtual idx, 3)) (hl : Cond.methodLink own idx y ∈ lw_ok) (hm : MeV y cc' nL' ret' n) (hn : As.length = n) (hcl : y.cls = "java/lang/String") (hR : RoomIn R' nL' R) (hz : psz (pR 6 k0 0 :: As) ≤ nL') (hw : (rest.map pcat).sum ≤ 8)
    (hst : st = As.reverse ++ pR 6 k0 0 :: rest) (S : Sim X cc' nL' ret' y.cls R' ro' mo' 0 (parg 0 (pR 6 k0 0 :: As)) [] μ ex') (kk : ∀ q : τ', Sim X cc nL ret own R ro mo (pc + 3) lo (rtP ret' (ro' q) ++ rest) (mo' q) (K q)) : Sim X cc nL ret own R ro mo pc lo st μ (ex'.bind K) := by
  intro t he G p l e s m args below meth c A cells slots Q F hcs hRt H locs ls o1 o2 hP hD hS hl'
  obtain ⟨t', he', hK⟩ := Option.bind_eq_some_iff.mp he
  subst hst
  have hok : ∀ v ∈ pR 6 k0 0 :: As, okV v := fun v hv => o2 v (by
    rcases List.mem_cons.mp hv with rfl | hv
    · exact List.mem_append_right _ List.mem_cons_self
    · exact List.mem_append_left _ (List.mem_reverse.mpr hv))
  have hi := ids_str (hok _ List.mem_cons_self)
  have hM := met_of_sim hm.2.2.2.2.2 hR.1 hz S he' hok l G H.size
  have hK0 := F.2.2.2.2.2.2.1
  obtain ⟨-, -, hV, -⟩ := F.2.2.2.2.2.2.2
  have hrc := vk_recv hV hi hS
  rw [← hcl] at hrc
  have hrun := va_runV (cells := cells) (slots := slots) (locs := locs) (e := e) (below := below) (meth := meth) (g := F0 m pc ls ((As.reverse ++ pR 6 k0 0 :: rest).map (emb G))) (As := As.map (emb G)) (b := G.2.1 (6, k0, 0)) (rest := rest.map (emb G)) (H := H) ⟨F.1, F.2.1, F.2.2.1, F.2.2.2.1, F.2.2.2.2.1⟩ hM (cwV n F.2.2.2.2.1 (ok_V hl hm) rfl hR.1.1 hR.1.2 ⟨rfl, hm.2.2.2.2.1⟩ hR.2)
    ⟨Po_blind _ _ _ _ _, hrc, fun U hU hW => ⟨rfl, by rw [hU], by rw [hU]; exact hP, va_K.moved hW.alike hK0, hD.weaken (fun _ _ _ _ => trivial), Xt_for F hD hS hU hW⟩⟩ rfl (by rw [List.length_map]; exact hn) hl'.1 (by simp [List.map_reverse, emb]) (by
      show 2 * 0 + ((rest.map (emb G)).map fun v => v.category).sum ≤ 8
      rw [List.map_map]
      have : (fun v => v.category) ∘ emb G = pcat := funext (emb_cat G)
      rw [this]
      omega) d hcs
  refine call_on F.2.2.2.2.2.1 hD hS hrun (fun H1 locs1 hP1 hD1 hS1 => ?_)
  rw [← List.map_append]
  exact kk t' t hK G p l e s m args below meth c A cells slots Q F hcs hRt H1 locs1 ls o1 (fun v hv => by
    rcases List.mem_append.mp hv with hv | hv
    · exact ok_rt _ _ v hv
    · exact o2 v (List.mem_append_right _ (List.mem_cons_of_mem _ hv))) hP1 hD1 hS1 hl'
end SimStr
abbrev rm_chk : Room := { frames := 0, cells := 0, slots := 0, locals := 0 }
/-- Preconditions.checkIndex with an index that is in: whatever the formatter is -/
theorem met_chk {l : Launch} {G : Gm} {X : Sc} {μ : Mem} {sz : Nat} {i n : Int32} {v : Value} (hv : v.category = 1) (hi : ¬ i < 0) (hn : i < n) :
    Met l yJ3_checkIndex_8e157 (.code yJ3_checkIndex_8e157 cJ3_checkIndex_8e157 3 (some .int) :: lw_ok) rm_chk (va_Pc [.int i, .int n, v] (fun U => U.heap.size = sz ∧ va_P G.1 vwCl (wsO G μ) U.heap ∧ va_D (fun _ => True) (wsO G μ))) (Qo (some .int) G (va_A (wsO G μ) sz) i μ) 0 0 (va_A (wsO G μ) sz) := by
  refine Met.ofW (cc := cJ3_checkIndex_8e157) (maxL := 3) (ret := some .int) (by decide) rfl ?_
  intro p e s m args below meth c s₁ B hml hv'
  obtain ⟨rfl, rfl, hP, hD0⟩ := hv'
  have hx := B.exec
  have hb := B.bytes
  have hr := B.returns
  have hlocks := B.notSynchronized
  have hD := hD0.self (sz := s.heap.size)
  have hsl : lg_sl [.int i, .int n, v] = [.val (.int i), .val (.int n), .val v] := by
    simp [lg_sl, hv, show (Value.int i).category = 1 from rfl, show (Value.int n).category = 1 from rfl]
  have hl := lv_entry ([.int i, .int n, v]) (n := 3) (by rw [hsl]; exact Nat.le_refl _)
  rw [lg_entry_eq]
  generalize (lg_sl ([.int i, .int n, v]) ++ List.replicate (3 - (lg_sl ([.int i, .int n, v])).length) Slot.unset).toArray = ls at hl ⊢
  have hl : lv_has ls 3 [(0, .int i), (1, .int n), (2, v)] := hl
  refine lv_iload_n hx hb dJ3_checkIndex_8e157_0 rfl (lv_at hl 0 rfl) ?_
  refine lv_if_lt (tgt := 9) hx hb dJ3_checkIndex_8e157_1 (by decide) (fun z => absurd z hi) (fun _ => ?_)
  refine lv_iload_n hx hb dJ3_checkIndex_8e157_4 rfl (lv_at hl 0 rfl) ?_
  refine lv_iload_n hx hb dJ3_checkIndex_8e157_5 rfl (lv_at hl 1 rfl) ?_
  refine lv_icmp_lt (tgt := 16) hx hb dJ3_checkIndex_8e157_6 (by decide) (fun _ => ?_) (fun z => absurd hn z)
  refine lv_iload_n hx hb dJ3_checkIndex_8e157_16 rfl (lv_at hl 0 rfl) ?_
  exact W.iret (v := i) hx hb hr (fun t ht hW => ⟨⟨i, (), rfl, rfl, by rw [ht]; exact hP, hD⟩, va_S.rf.F ht⟩) (fun q hq => by cases hq) dJ3_checkIndex_8e157_17
theorem w_chk0 : Cond.methodLink RJ0 1059 yJ3_checkIndex_8e157 ∈ lw_ok := ok_mem (List.mem_of_getElem? (i := 367) (by decide +kernel)) (by decide +kernel)
theorem me_chk : MeS yJ3_checkIndex_8e157 cJ3_checkIndex_8e157 3 (some .int) 3 := ⟨ok_mem (List.mem_of_getElem? (i := 368) (by decide +kernel)) (by decide +kernel), ok_mem (List.mem_of_getElem? (i := 93) (by decide +kernel)) (by decide +kernel), ok_mem (List.mem_of_getElem? (i := 369) (by decide +kernel)) (by decide +kernel), ⟨by decide +kernel, by decide +kernel, by decide +kernel⟩, by decide +kernel⟩
theorem w_siobe : Cond.fieldLink RJ0 1053 "jdk/internal/util/Preconditions" "SIOOBE_FORMATTER" "Ljava/util/function/BiFunction;" ∈ lw_ok := ok_mem (List.mem_of_getElem? (i := 365) (by decide +kernel)) (by decide +kernel)
/-- the formatter is read, the index checked -/
theorem sim_chk {τ : Type} {X : Sc} {cc : ByteArray} {nL : Nat} {ret : Option FieldType} {R : Room} {ro : τ → Int32} {mo : τ → Mem} {pc : Nat} {lo : List (Nat × PV)} {st : List PV} {μ : Mem} {a : Option τ} {i n : Int32} (d1 : decode cc pc = .ok (.getstatic 1053, 3)) (d2 : decode cc (pc + 3) = .ok (.invokestatic 1059, 3)) (hR : RoomIn rm_chk 3 R) (hw : (st.map pcat).sum ≤ 8) (kk : Sim X cc nL ret RJ0 R ro mo (pc + 6) lo (pI i :: st) μ a) : Sim X cc nL ret RJ0 R ro mo pc lo (pI n :: pI i :: st) μ (gd (!(decide (i < 0)) && decide (i < n)) a) := by
  refine sim_gd fun hg => ?_
  simp only [Bool.and_eq_true, Bool.not_eq_true', decide_eq_false_iff_not, decide_eq_true_eq] at hg
  intro t he G p l e s m args below meth c A cells slots Q F hcs hRt H locs ls o1 o2 hP hD hS hl'
  have hK0 := F.2.2.2.2.2.2.1
  have go : ∀ v : Value, v.category = 1 → W p l e R s m args below meth c H locs cells slots Q (F0 m (pc + 3) ls (v :: .int n :: .int i :: st.map (emb G))) := by
    intro v hv
    have hM := met_chk (l := l) (G := G) (X := X) (μ := μ) (sz := H.size) hv hg.1 hg.2
    have hrun := va_runS (cells := cells) (slots := slots) (locs := locs) (e := e) (below := below) (meth := meth) (g := F0 m (pc + 3) ls (v :: .int n :: .int i :: st.map (emb G))) (As := [.int i, .int n, v]) (rest := st.map (emb G)) (H := H) ⟨F.1, F.2.1, F.2.2.1, F.2.2.2.1, F.2.2.2.2.1⟩ hM (va_cwS 3 F.2.2.2.2.1 (ok_S w_chk0 me_chk) rfl hR.1.1 hR.1.2 me_chk.2.2.2.1 hR.2)
      ⟨fun a U g mk h => ⟨h.1, h.2.1, h.2.2.1, h.2.2.2⟩, fun U hU hW => ⟨rfl, by rw [hU], by rw [hU]; exact hP, hD.weaken (fun _ _ _ _ => trivial)⟩⟩ rfl rfl hl'.1 rfl (by
        show 2 * 0 + ((st.map (emb G)).map fun v => v.category).sum ≤ 8
        rw [List.map_map]
        have : (fun v => v.category) ∘ emb G = pcat := funext (emb_cat G)
        rw [this]
        omega) d2 hcs
    refine call_on (ro' := fun r : Int32 => r) (mo' := fun _ => μ) (t' := i) F.2.2.2.2.2.1 hD hS hrun (fun H1 locs1 hP1 hD1 hS1 => ?_)
    exact kk t he G p l e s m args below meth c A cells slots Q F hcs hRt H1 locs1 ls o1 (List.forall_mem_cons.mpr ⟨trivial, fun u hu => o2 u (List.mem_cons_of_mem _ (List.mem_cons_of_mem _ hu))⟩) hP1 hD1 hS1 hl'
  obtain ⟨-, -, -, -, -, hZ, -⟩ := F.2.2.2.2.2.2.2
  rcases hZ with hZ | ⟨z, hZ⟩
  · exact va_gets F.1 F.2.1 hZ hS F.2.2.2.1 (F.2.2.2.2.1 _ w_siobe) (fun _ h9 => h9) d1 (go _ rfl)
  · exact va_gets F.1 F.2.1 hZ hS F.2.2.2.1 (F.2.2.2.2.1 _ w_siobe) (fun _ h9 => h9) d1 (go _ rfl)
