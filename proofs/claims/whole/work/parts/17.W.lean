def bW_law_18 (X : Sc) (s5 : Int32 → Mem → Option (Int32 × Mem)) (x3 : Int32) (m4 : Mem) : Option (Int32 × Mem) :=
  if ((Int32.ofNat X.1) - 5) < x3 then (some (1, m4)) else (gd (inb x3 X.1) (if ((X.2 (ix x3)) &&& 31) = 0 then (gd (inb (x3 + 1) X.1) (Option.bind (fD_feed (X.2 (ix (x3 + 1))) m4) (fun q7 => gd (inb (x3 + 1) X.1) (Option.bind (fM_feed (X.2 (ix (x3 + 1))) q7.2) (fun q8 => if q7.1 = q8.1 then (lt (x3 + 5) (fun (x9 : Int32) => s5 x9 q8.2)) else (some (0, q8.2))))))) else (if ((X.2 (ix x3)) &&& 31) = 1 then (gd (inb (x3 + 1) X.1) (Option.bind (fD_end (X.2 (ix (x3 + 1))) m4) (fun q11 => gd (inb (x3 + 1) X.1) (Option.bind (fM_end (X.2 (ix (x3 + 1))) q11.2) (fun q12 => if q11.1 = q12.1 then (lt (x3 + 5) (fun (x13 : Int32) => s5 x13 q12.2)) else (some (0, q12.2))))))) else (if ((X.2 (ix x3)) &&& 31) = 2 then (Option.bind (fD_text m4) (fun q15 => Option.bind (fM_text q15.2) (fun q16 => if q15.1 = q16.1 then (lt (x3 + 5) (fun (x17 : Int32) => s5 x17 q16.2)) else (some (0, q16.2))))) else (if ((X.2 (ix x3)) &&& 31) = 3 then (Option.bind (fD_fault m4) (fun x19 => Option.bind (fM_fault m4) (fun x20 => if x19 = x20 then (lt (x3 + 5) (fun (x21 : Int32) => s5 x21 m4)) else (some (0, m4))))) else (if ((X.2 (ix x3)) &&& 31) = 4 then (gd (inb (x3 + 1) X.1) (Option.bind (fD_rule (X.2 (ix (x3 + 1))) m4) (fun q23 => gd (inb (x3 + 1) X.1) (Option.bind (fM_rule (X.2 (ix (x3 + 1))) q23.2) (fun q24 => if q23.1 = q24.1 then (lt (x3 + 5) (fun (x25 : Int32) => s5 x25 q24.2)) else (some (0, q24.2))))))) else (if ((X.2 (ix x3)) &&& 31) = 5 then (gd (inb (x3 + 1) X.1) (gd (inb (x3 + 2) X.1) (Option.bind (fD_place (X.2 (ix (x3 + 1))) (X.2 (ix (x3 + 2))) m4) (fun x27 => gd (inb (x3 + 1) X.1) (gd (inb (x3 + 2) X.1) (Option.bind (fM_place (X.2 (ix (x3 + 1))) (X.2 (ix (x3 + 2))) m4) (fun x28 => if x27 = x28 then (lt (x3 + 5) (fun (x29 : Int32) => s5 x29 m4)) else (some (0, m4))))))))) else (if ((X.2 (ix x3)) &&& 31) = 6 then (gd (inb (x3 + 1) X.1) (gd (inb (x3 + 2) X.1) (Option.bind (fD_train (X.2 (ix (x3 + 1))) (X.2 (ix (x3 + 2))) m4) (fun x31 => gd (inb (x3 + 1) X.1) (gd (inb (x3 + 2) X.1) (Option.bind (fM_train (X.2 (ix (x3 + 1))) (X.2 (ix (x3 + 2))) m4) (fun x32 => if x31 = x32 then (lt (x3 + 5) (fun (x33 : Int32) => s5 x33 m4)) else (some (0, m4))))))))) else (if ((X.2 (ix x3)) &&& 31) = 7 then (gd (inb (x3 + 1) X.1) (Option.bind (fD_why (X.2 (ix (x3 + 1))) m4) (fun q35 => gd (inb (x3 + 1) X.1) (Option.bind (fM_why (X.2 (ix (x3 + 1))) q35.2) (fun q36 => if q35.1 = q36.1 then (lt (x3 + 5) (fun (x37 : Int32) => s5 x37 q36.2)) else (some (0, q36.2))))))) else (if ((X.2 (ix x3)) &&& 31) = 8 then (gd (inb (x3 + 1) X.1) (Option.bind (fD_who (X.2 (ix (x3 + 1))) m4) (fun q39 => gd (inb (x3 + 1) X.1) (Option.bind (fM_who (X.2 (ix (x3 + 1))) q39.2) (fun q40 => if q39.1 = q40.1 then (lt (x3 + 5) (fun (x41 : Int32) => s5 x41 q40.2)) else (some (0, q40.2))))))) else (if ((X.2 (ix x3)) &&& 31) = 9 then (gd (inb (x3 + 1) X.1) (Option.bind (fD_order (X.2 (ix (x3 + 1))) m4) (fun q43 => gd (inb (x3 + 1) X.1) (Option.bind (fM_order (X.2 (ix (x3 + 1))) q43.2) (fun q44 => if q43.1 = q44.1 then (lt (x3 + 5) (fun (x45 : Int32) => s5 x45 q44.2)) else (some (0, q44.2))))))) else (if ((X.2 (ix x3)) &&& 31) = 10 then (gd (inb (x3 + 1) X.1) (Option.bind (fD_reach (X.2 (ix (x3 + 1))) m4) (fun q47 => gd (inb (x3 + 1) X.1) (Option.bind (fM_reach (X.2 (ix (x3 + 1))) q47.2) (fun q48 => if q47.1 = q48.1 then (lt (x3 + 5) (fun (x49 : Int32) => s5 x49 q48.2)) else (some (0, q48.2))))))) else (if ((X.2 (ix x3)) &&& 31) = 11 then (gd (inb (x3 + 1) X.1) (gd (inb (x3 + 2) X.1) (Option.bind (fD_plan (X.2 (ix (x3 + 1))) (X.2 (ix (x3 + 2))) m4) (fun q51 => gd (inb (x3 + 1) X.1) (gd (inb (x3 + 2) X.1) (Option.bind (fM_plan (X.2 (ix (x3 + 1))) (X.2 (ix (x3 + 2))) q51.2) (fun q52 => if q51.1 = q52.1 then (lt (x3 + 5) (fun (x53 : Int32) => s5 x53 q52.2)) else (some (0, q52.2))))))))) else (if ((X.2 (ix x3)) &&& 31) = 12 then (Option.bind (fD_best m4) (fun q55 => Option.bind (fM_best q55.2) (fun q56 => if q55.1 = q56.1 then (lt (x3 + 5) (fun (x57 : Int32) => s5 x57 q56.2)) else (some (0, q56.2))))) else (if ((X.2 (ix x3)) &&& 31) = 13 then (gd (inb (x3 + 1) X.1) (Option.bind (fD_let (X.2 (ix (x3 + 1))) m4) (fun q59 => gd (inb (x3 + 1) X.1) (Option.bind (fM_let (X.2 (ix (x3 + 1))) q59.2) (fun q60 => if q59.1 = q60.1 then (lt (x3 + 5) (fun (x61 : Int32) => s5 x61 q60.2)) else (some (0, q60.2))))))) else (if ((X.2 (ix x3)) &&& 31) = 14 then (gd (inb (x3 + 1) X.1) (Option.bind (fD_tick (X.2 (ix (x3 + 1))) m4) (fun q63 => gd (inb (x3 + 1) X.1) (Option.bind (fM_tick (X.2 (ix (x3 + 1))) q63.2) (fun q64 => if q63.1 = q64.1 then (lt (x3 + 5) (fun (x65 : Int32) => s5 x65 q64.2)) else (some (0, q64.2))))))) else (if ((X.2 (ix x3)) &&& 31) = 15 then (gd (inb (x3 + 1) X.1) (Option.bind (fD_send (X.2 (ix (x3 + 1))) m4) (fun q67 => gd (inb (x3 + 1) X.1) (Option.bind (fM_send (X.2 (ix (x3 + 1))) q67.2) (fun q68 => if q67.1 = q68.1 then (lt (x3 + 5) (fun (x69 : Int32) => s5 x69 q68.2)) else (some (0, q68.2))))))) else (if ((X.2 (ix x3)) &&& 31) = 16 then (gd (inb (x3 + 1) X.1) (gd (inb (x3 + 2) X.1) (Option.bind (fD_journal (X.2 (ix (x3 + 1))) (X.2 (ix (x3 + 2))) m4) (fun x71 => gd (inb (x3 + 1) X.1) (gd (inb (x3 + 2) X.1) (Option.bind (fM_journal (X.2 (ix (x3 + 1))) (X.2 (ix (x3 + 2))) m4) (fun x72 => if x71 = x72 then (lt (x3 + 5) (fun (x73 : Int32) => s5 x73 m4)) else (some (0, m4))))))))) else (if ((X.2 (ix x3)) &&& 31) = 17 then (gd (inb (x3 + 1) X.1) (gd (inb (x3 + 2) X.1) (gd (inb (x3 + 3) X.1) (Option.bind (fD_add (X.2 (ix (x3 + 1))) (X.2 (ix (x3 + 2))) (X.2 (ix (x3 + 3))) m4) (fun q75 => gd (inb (x3 + 1) X.1) (gd (inb (x3 + 2) X.1) (gd (inb (x3 + 3) X.1) (Option.bind (fM_add (X.2 (ix (x3 + 1))) (X.2 (ix (x3 + 2))) (X.2 (ix (x3 + 3))) q75.2) (fun q76 => if q75.1 = q76.1 then (lt (x3 + 5) (fun (x77 : Int32) => s5 x77 q76.2)) else (some (0, q76.2))))))))))) else (if ((X.2 (ix x3)) &&& 31) = 18 then (gd (inb (x3 + 1) X.1) (Option.bind (fD_drop (X.2 (ix (x3 + 1))) m4) (fun q79 => gd (inb (x3 + 1) X.1) (Option.bind (fM_drop (X.2 (ix (x3 + 1))) q79.2) (fun q80 => if q79.1 = q80.1 then (lt (x3 + 5) (fun (x81 : Int32) => s5 x81 q80.2)) else (some (0, q80.2))))))) else (if ((X.2 (ix x3)) &&& 31) = 19 then (gd (inb (x3 + 1) X.1) (gd (inb (x3 + 2) X.1) (Option.bind (fD_draw (X.2 (ix (x3 + 1))) (X.2 (ix (x3 + 2))) m4) (fun q83 => gd (inb (x3 + 1) X.1) (gd (inb (x3 + 2) X.1) (Option.bind (fM_draw (X.2 (ix (x3 + 1))) (X.2 (ix (x3 + 2))) q83.2) (fun q84 => if q83.1 = q84.1 then (lt (x3 + 5) (fun (x85 : Int32) => s5 x85 q84.2)) else (some (0, q84.2))))))))) else (if ((X.2 (ix x3)) &&& 31) = 20 then (gd (inb (x3 + 1) X.1) (Option.bind (fD_keep (X.2 (ix (x3 + 1))) m4) (fun q87 => gd (inb (x3 + 1) X.1) (Option.bind (fM_keep (X.2 (ix (x3 + 1))) q87.2) (fun q88 => if q87.1 = q88.1 then (lt (x3 + 5) (fun (x89 : Int32) => s5 x89 q88.2)) else (some (0, q88.2))))))) else (if ((X.2 (ix x3)) &&& 31) = 21 then (gd (inb (x3 + 1) X.1) (Option.bind (fD_back (X.2 (ix (x3 + 1))) m4) (fun q91 => gd (inb (x3 + 1) X.1) (Option.bind (fM_back (X.2 (ix (x3 + 1))) q91.2) (fun q92 => if q91.1 = q92.1 then (lt (x3 + 5) (fun (x93 : Int32) => s5 x93 q92.2)) else (some (0, q92.2))))))) else (if ((X.2 (ix x3)) &&& 31) = 22 then (gd (inb (x3 + 1) X.1) (gd (inb (x3 + 2) X.1) (gd (inb (x3 + 3) X.1) (Option.bind (fD_sheet (X.2 (ix (x3 + 1))) (X.2 (ix (x3 + 2))) (X.2 (ix (x3 + 3))) m4) (fun q95 => gd (inb (x3 + 1) X.1) (gd (inb (x3 + 2) X.1) (gd (inb (x3 + 3) X.1) (Option.bind (fM_sheet (X.2 (ix (x3 + 1))) (X.2 (ix (x3 + 2))) (X.2 (ix (x3 + 3))) q95.2) (fun q96 => if q95.1 = q96.1 then (lt (x3 + 5) (fun (x97 : Int32) => s5 x97 q96.2)) else (some (0, q96.2))))))))))) else (if ((X.2 (ix x3)) &&& 31) = 23 then (gd (inb (x3 + 1) X.1) (gd (inb (x3 + 2) X.1) (gd (inb (x3 + 3) X.1) (Option.bind (fD_lay (X.2 (ix (x3 + 1))) (X.2 (ix (x3 + 2))) (X.2 (ix (x3 + 3))) m4) (fun q99 => gd (inb (x3 + 1) X.1) (gd (inb (x3 + 2) X.1) (gd (inb (x3 + 3) X.1) (Option.bind (fM_lay (X.2 (ix (x3 + 1))) (X.2 (ix (x3 + 2))) (X.2 (ix (x3 + 3))) q99.2) (fun q100 => if q99.1 = q100.1 then (lt (x3 + 5) (fun (x101 : Int32) => s5 x101 q100.2)) else (some (0, q100.2))))))))))) else (if ((X.2 (ix x3)) &&& 31) = 24 then (gd (inb (x3 + 1) X.1) (gd (inb (x3 + 2) X.1) (gd (inb (x3 + 3) X.1) (gd (inb (x3 + 4) X.1) (Option.bind (fD_read (X.2 (ix (x3 + 1))) (X.2 (ix (x3 + 2))) (X.2 (ix (x3 + 3))) (X.2 (ix (x3 + 4))) m4) (fun q103 => gd (inb (x3 + 1) X.1) (gd (inb (x3 + 2) X.1) (gd (inb (x3 + 3) X.1) (gd (inb (x3 + 4) X.1) (Option.bind (fM_read (X.2 (ix (x3 + 1))) (X.2 (ix (x3 + 2))) (X.2 (ix (x3 + 3))) (X.2 (ix (x3 + 4))) q103.2) (fun q104 => if q103.1 = q104.1 then (lt (x3 + 5) (fun (x105 : Int32) => s5 x105 q104.2)) else (some (0, q104.2))))))))))))) else (if ((X.2 (ix x3)) &&& 31) = 25 then (Option.bind (fD_torn m4) (fun x107 => Option.bind (fM_torn m4) (fun x108 => if x107 = x108 then (lt (x3 + 5) (fun (x109 : Int32) => s5 x109 m4)) else (some (0, m4))))) else (if ((X.2 (ix x3)) &&& 31) = 26 then (gd (inb (x3 + 1) X.1) (Option.bind (fD_count (X.2 (ix (x3 + 1))) m4) (fun x111 => gd (inb (x3 + 1) X.1) (Option.bind (fM_count (X.2 (ix (x3 + 1))) m4) (fun x112 => if x111 = x112 then (lt (x3 + 5) (fun (x113 : Int32) => s5 x113 m4)) else (some (0, m4))))))) else (lt (x3 + 5) (fun (x115 : Int32) => s5 x115 m4))))))))))))))))))))))))))))))
def fW_law (X : Sc) (m1 : Mem) : Option (Int32 × Mem) :=
  lt 0 (fun (x2 : Int32) => lz11 (bW_law_18 X) FU x2 m1)
abbrev rm_W_law : Room := room_1
set_option maxRecDepth 4000 in
theorem sW_law (X : Sc) (m1 : Mem) : Sim X cL_law 4 (some .boolean) RL rm_W_law (fun q : Int32 × Mem => q.1) (fun q : Int32 × Mem => q.2) 16 [(0, pR 8 0 0), (1, pR 4 0 0), (2, pR 5 0 0)] [] m1 (fW_law X m1) := by
  unfold fW_law
  refine sim_iconst (v := 0) dL_law_16 (by decide) ?_
  refine sim_istore_n (fun z => [(0, pR 8 0 0), (1, pR 4 0 0), (2, pR 5 0 0), (3, pI z)]) [1, 2, 3, 0] dL_law_17 (by decide) (fun _ => rfl) (fun x2 => ?_)
  refine sim_lz11 (fun z0 => [(0, pR 8 0 0), (1, pR 4 0 0), (2, pR 5 0 0), (3, pI z0)]) (fun s5 hs6 x3 m4 => ?_) FU x2 m1
  unfold bW_law_18
  refine sim_iload_n dL_law_18 rfl ?_
  refine sim_aload_n dL_law_19 rfl ?_
  refine sim_slen dL_law_20 ?_
  refine sim_iconst (v := 5) dL_law_21 (by decide) ?_
  refine sim_isub dL_law_22 ?_
  refine sim_icmp_gt (tgt := 883) dL_law_23 (by decide) ?_ ?_
  · refine sim_iconst (v := 1) dL_law_883 (by decide) ?_
    exact sim_zret dL_law_884 rfl rfl rfl
  · refine sim_aload_n dL_law_26 rfl ?_
    refine sim_iload_n dL_law_27 rfl ?_
    refine sim_sld dL_law_28 ?_
    refine sim_bipush (v := 31) dL_law_29 (by decide) ?_
    refine sim_iand dL_law_31 ?_
    refine sim_case ?_ (fun hc10 => ?_)
    · refine sim_tab (off := 124) (tgt := 156) dL_law_32 (by decide) (by decide) (by decide) (by decide) ?_
      refine sim_aload_n dL_law_156 rfl ?_
      refine sim_aload_n dL_law_157 rfl ?_
      refine sim_iload_n dL_law_158 rfl ?_
      refine sim_iconst (v := 1) dL_law_159 (by decide) ?_
      refine sim_iadd dL_law_160 ?_
      refine sim_sld dL_law_161 ?_
      refine sim_callV (As := [pI (X.2 (ix (x3 + 1)))]) (rest := []) (k0 := 0) dL_law_162 ln_L_13 me_X4_feed rfl (by decide) rfl (by decide) (Nat.le_of_ble_eq_true rfl) (Nat.le_of_ble_eq_true rfl) rfl (sD_feed X (X.2 (ix (x3 + 1))) m4) (fun q7 => ?_)
      refine sim_aload_n dL_law_165 rfl ?_
      refine sim_aload_n dL_law_166 rfl ?_
      refine sim_iload_n dL_law_167 rfl ?_
      refine sim_iconst (v := 1) dL_law_168 (by decide) ?_
      refine sim_iadd dL_law_169 ?_
      refine sim_sld dL_law_170 ?_
      refine sim_callV (As := [pI (X.2 (ix (x3 + 1)))]) (rest := [pI q7.1]) (k0 := 0) dL_law_171 ln_L_17 me_X5_feed rfl (by decide) rfl (by decide) (Nat.le_of_ble_eq_true rfl) (Nat.le_of_ble_eq_true rfl) rfl (sM_feed X (X.2 (ix (x3 + 1))) q7.2) (fun q8 => ?_)
      refine sim_icmp_eq (tgt := 877) dL_law_174 (by decide) ?_ ?_
      · refine sim_iinc (y := 5) (fun z => [(0, pR 8 0 0), (1, pR 4 0 0), (2, pR 5 0 0), (3, pI z)]) [1, 2, 3, 0] dL_law_877 rfl (by decide) (by decide) (fun _ => rfl) (fun x9 => ?_)
        refine sim_goto (tgt := 18) dL_law_880 (by decide) ?_
        exact hs6 x9 q8.2
      · refine sim_iconst (v := 0) dL_law_177 (by decide) ?_
        exact sim_zret dL_law_178 rfl rfl rfl
    · refine sim_case ?_ (fun hc14 => ?_)
      · refine sim_tab (off := 147) (tgt := 179) dL_law_32 (by decide) (by decide) (by decide) (by decide) ?_
        refine sim_aload_n dL_law_179 rfl ?_
        refine sim_aload_n dL_law_180 rfl ?_
        refine sim_iload_n dL_law_181 rfl ?_
        refine sim_iconst (v := 1) dL_law_182 (by decide) ?_
        refine sim_iadd dL_law_183 ?_
        refine sim_sld dL_law_184 ?_
        refine sim_callV (As := [pI (X.2 (ix (x3 + 1)))]) (rest := []) (k0 := 0) dL_law_185 ln_L_18 me_X4_end rfl (by decide) rfl (by decide) (Nat.le_of_ble_eq_true rfl) (Nat.le_of_ble_eq_true rfl) rfl (sD_end X (X.2 (ix (x3 + 1))) m4) (fun q11 => ?_)
        refine sim_aload_n dL_law_188 rfl ?_
        refine sim_aload_n dL_law_189 rfl ?_
        refine sim_iload_n dL_law_190 rfl ?_
        refine sim_iconst (v := 1) dL_law_191 (by decide) ?_
        refine sim_iadd dL_law_192 ?_
        refine sim_sld dL_law_193 ?_
        refine sim_callV (As := [pI (X.2 (ix (x3 + 1)))]) (rest := [pI q11.1]) (k0 := 0) dL_law_194 ln_L_21 me_X5_end rfl (by decide) rfl (by decide) (Nat.le_of_ble_eq_true rfl) (Nat.le_of_ble_eq_true rfl) rfl (sM_end X (X.2 (ix (x3 + 1))) q11.2) (fun q12 => ?_)
        refine sim_icmp_eq (tgt := 877) dL_law_197 (by decide) ?_ ?_
        · refine sim_iinc (y := 5) (fun z => [(0, pR 8 0 0), (1, pR 4 0 0), (2, pR 5 0 0), (3, pI z)]) [1, 2, 3, 0] dL_law_877 rfl (by decide) (by decide) (fun _ => rfl) (fun x13 => ?_)
          refine sim_goto (tgt := 18) dL_law_880 (by decide) ?_
          exact hs6 x13 q12.2
        · refine sim_iconst (v := 0) dL_law_200 (by decide) ?_
          exact sim_zret dL_law_201 rfl rfl rfl
      · refine sim_case ?_ (fun hc18 => ?_)
        · refine sim_tab (off := 170) (tgt := 202) dL_law_32 (by decide) (by decide) (by decide) (by decide) ?_
          refine sim_aload_n dL_law_202 rfl ?_
          refine sim_callV (As := []) (rest := []) (k0 := 0) dL_law_203 ln_L_22 me_X4_text rfl (by decide) rfl (by decide) (Nat.le_of_ble_eq_true rfl) (Nat.le_of_ble_eq_true rfl) rfl (sD_text X m4) (fun q15 => ?_)
          refine sim_aload_n dL_law_206 rfl ?_
          refine sim_callV (As := []) (rest := [pI q15.1]) (k0 := 0) dL_law_207 ln_L_26 me_X5_text rfl (by decide) rfl (by decide) (Nat.le_of_ble_eq_true rfl) (Nat.le_of_ble_eq_true rfl) rfl (sM_text X q15.2) (fun q16 => ?_)
          refine sim_icmp_eq (tgt := 877) dL_law_210 (by decide) ?_ ?_
          · refine sim_iinc (y := 5) (fun z => [(0, pR 8 0 0), (1, pR 4 0 0), (2, pR 5 0 0), (3, pI z)]) [1, 2, 3, 0] dL_law_877 rfl (by decide) (by decide) (fun _ => rfl) (fun x17 => ?_)
            refine sim_goto (tgt := 18) dL_law_880 (by decide) ?_
            exact hs6 x17 q16.2
          · refine sim_iconst (v := 0) dL_law_213 (by decide) ?_
            exact sim_zret dL_law_214 rfl rfl rfl
        · refine sim_case ?_ (fun hc22 => ?_)
          · refine sim_tab (off := 183) (tgt := 215) dL_law_32 (by decide) (by decide) (by decide) (by decide) ?_
            refine sim_aload_n dL_law_215 rfl ?_
            refine sim_callV (As := []) (rest := []) (k0 := 0) dL_law_216 ln_L_27 me_X4_fault rfl (by decide) rfl (by decide) (Nat.le_of_ble_eq_true rfl) (Nat.le_of_ble_eq_true rfl) rfl (sD_fault X m4) (fun x19 => ?_)
            refine sim_aload_n dL_law_219 rfl ?_
            refine sim_callV (As := []) (rest := [pI x19]) (k0 := 0) dL_law_220 ln_L_30 me_X5_fault rfl (by decide) rfl (by decide) (Nat.le_of_ble_eq_true rfl) (Nat.le_of_ble_eq_true rfl) rfl (sM_fault X m4) (fun x20 => ?_)
            refine sim_icmp_eq (tgt := 877) dL_law_223 (by decide) ?_ ?_
            · refine sim_iinc (y := 5) (fun z => [(0, pR 8 0 0), (1, pR 4 0 0), (2, pR 5 0 0), (3, pI z)]) [1, 2, 3, 0] dL_law_877 rfl (by decide) (by decide) (fun _ => rfl) (fun x21 => ?_)
              refine sim_goto (tgt := 18) dL_law_880 (by decide) ?_
              exact hs6 x21 m4
            · refine sim_iconst (v := 0) dL_law_226 (by decide) ?_
              exact sim_zret dL_law_227 rfl rfl rfl
          · refine sim_case ?_ (fun hc26 => ?_)
            · refine sim_tab (off := 196) (tgt := 228) dL_law_32 (by decide) (by decide) (by decide) (by decide) ?_
              refine sim_aload_n dL_law_228 rfl ?_
              refine sim_aload_n dL_law_229 rfl ?_
              refine sim_iload_n dL_law_230 rfl ?_
              refine sim_iconst (v := 1) dL_law_231 (by decide) ?_
              refine sim_iadd dL_law_232 ?_
              refine sim_sld dL_law_233 ?_
              refine sim_callV (As := [pI (X.2 (ix (x3 + 1)))]) (rest := []) (k0 := 0) dL_law_234 ln_L_31 me_X4_rule rfl (by decide) rfl (by decide) (Nat.le_of_ble_eq_true rfl) (Nat.le_of_ble_eq_true rfl) rfl (sD_rule X (X.2 (ix (x3 + 1))) m4) (fun q23 => ?_)
              refine sim_aload_n dL_law_237 rfl ?_
              refine sim_aload_n dL_law_238 rfl ?_
              refine sim_iload_n dL_law_239 rfl ?_
              refine sim_iconst (v := 1) dL_law_240 (by decide) ?_
              refine sim_iadd dL_law_241 ?_
              refine sim_sld dL_law_242 ?_
              refine sim_callV (As := [pI (X.2 (ix (x3 + 1)))]) (rest := [pI q23.1]) (k0 := 0) dL_law_243 ln_L_34 me_X5_rule rfl (by decide) rfl (by decide) (Nat.le_of_ble_eq_true rfl) (Nat.le_of_ble_eq_true rfl) rfl (sM_rule X (X.2 (ix (x3 + 1))) q23.2) (fun q24 => ?_)
              refine sim_icmp_eq (tgt := 877) dL_law_246 (by decide) ?_ ?_
              · refine sim_iinc (y := 5) (fun z => [(0, pR 8 0 0), (1, pR 4 0 0), (2, pR 5 0 0), (3, pI z)]) [1, 2, 3, 0] dL_law_877 rfl (by decide) (by decide) (fun _ => rfl) (fun x25 => ?_)
                refine sim_goto (tgt := 18) dL_law_880 (by decide) ?_
                exact hs6 x25 q24.2
              · refine sim_iconst (v := 0) dL_law_249 (by decide) ?_
                exact sim_zret dL_law_250 rfl rfl rfl
            · refine sim_case ?_ (fun hc30 => ?_)
              · refine sim_tab (off := 219) (tgt := 251) dL_law_32 (by decide) (by decide) (by decide) (by decide) ?_
                refine sim_aload_n dL_law_251 rfl ?_
                refine sim_aload_n dL_law_252 rfl ?_
                refine sim_iload_n dL_law_253 rfl ?_
                refine sim_iconst (v := 1) dL_law_254 (by decide) ?_
                refine sim_iadd dL_law_255 ?_
                refine sim_sld dL_law_256 ?_
                refine sim_aload_n dL_law_257 rfl ?_
                refine sim_iload_n dL_law_258 rfl ?_
                refine sim_iconst (v := 2) dL_law_259 (by decide) ?_
                refine sim_iadd dL_law_260 ?_
                refine sim_sld dL_law_261 ?_
                refine sim_callV (As := [pI (X.2 (ix (x3 + 1))), pI (X.2 (ix (x3 + 2)))]) (rest := []) (k0 := 0) dL_law_262 ln_L_35 me_X4_place rfl (by decide) rfl (by decide) (Nat.le_of_ble_eq_true rfl) (Nat.le_of_ble_eq_true rfl) rfl (sD_place X (X.2 (ix (x3 + 1))) (X.2 (ix (x3 + 2))) m4) (fun x27 => ?_)
                refine sim_aload_n dL_law_265 rfl ?_
                refine sim_aload_n dL_law_266 rfl ?_
                refine sim_iload_n dL_law_267 rfl ?_
                refine sim_iconst (v := 1) dL_law_268 (by decide) ?_
                refine sim_iadd dL_law_269 ?_
                refine sim_sld dL_law_270 ?_
                refine sim_aload_n dL_law_271 rfl ?_
                refine sim_iload_n dL_law_272 rfl ?_
                refine sim_iconst (v := 2) dL_law_273 (by decide) ?_
                refine sim_iadd dL_law_274 ?_
                refine sim_sld dL_law_275 ?_
                refine sim_callV (As := [pI (X.2 (ix (x3 + 1))), pI (X.2 (ix (x3 + 2)))]) (rest := [pI x27]) (k0 := 0) dL_law_276 ln_L_39 me_X5_place rfl (by decide) rfl (by decide) (Nat.le_of_ble_eq_true rfl) (Nat.le_of_ble_eq_true rfl) rfl (sM_place X (X.2 (ix (x3 + 1))) (X.2 (ix (x3 + 2))) m4) (fun x28 => ?_)
                refine sim_icmp_eq (tgt := 877) dL_law_279 (by decide) ?_ ?_
                · refine sim_iinc (y := 5) (fun z => [(0, pR 8 0 0), (1, pR 4 0 0), (2, pR 5 0 0), (3, pI z)]) [1, 2, 3, 0] dL_law_877 rfl (by decide) (by decide) (fun _ => rfl) (fun x29 => ?_)
                  refine sim_goto (tgt := 18) dL_law_880 (by decide) ?_
                  exact hs6 x29 m4
                · refine sim_iconst (v := 0) dL_law_282 (by decide) ?_
                  exact sim_zret dL_law_283 rfl rfl rfl
              · refine sim_case ?_ (fun hc34 => ?_)
                · refine sim_tab (off := 252) (tgt := 284) dL_law_32 (by decide) (by decide) (by decide) (by decide) ?_
                  refine sim_aload_n dL_law_284 rfl ?_
                  refine sim_aload_n dL_law_285 rfl ?_
                  refine sim_iload_n dL_law_286 rfl ?_
                  refine sim_iconst (v := 1) dL_law_287 (by decide) ?_
                  refine sim_iadd dL_law_288 ?_
                  refine sim_sld dL_law_289 ?_
                  refine sim_aload_n dL_law_290 rfl ?_
                  refine sim_iload_n dL_law_291 rfl ?_
                  refine sim_iconst (v := 2) dL_law_292 (by decide) ?_
                  refine sim_iadd dL_law_293 ?_
                  refine sim_sld dL_law_294 ?_
                  refine sim_callV (As := [pI (X.2 (ix (x3 + 1))), pI (X.2 (ix (x3 + 2)))]) (rest := []) (k0 := 0) dL_law_295 ln_L_40 me_X4_train rfl (by decide) rfl (by decide) (Nat.le_of_ble_eq_true rfl) (Nat.le_of_ble_eq_true rfl) rfl (sD_train X (X.2 (ix (x3 + 1))) (X.2 (ix (x3 + 2))) m4) (fun x31 => ?_)
                  refine sim_aload_n dL_law_298 rfl ?_
                  refine sim_aload_n dL_law_299 rfl ?_
                  refine sim_iload_n dL_law_300 rfl ?_
                  refine sim_iconst (v := 1) dL_law_301 (by decide) ?_
                  refine sim_iadd dL_law_302 ?_
                  refine sim_sld dL_law_303 ?_
                  refine sim_aload_n dL_law_304 rfl ?_
                  refine sim_iload_n dL_law_305 rfl ?_
                  refine sim_iconst (v := 2) dL_law_306 (by decide) ?_
                  refine sim_iadd dL_law_307 ?_
                  refine sim_sld dL_law_308 ?_
                  refine sim_callV (As := [pI (X.2 (ix (x3 + 1))), pI (X.2 (ix (x3 + 2)))]) (rest := [pI x31]) (k0 := 0) dL_law_309 ln_L_43 me_X5_train rfl (by decide) rfl (by decide) (Nat.le_of_ble_eq_true rfl) (Nat.le_of_ble_eq_true rfl) rfl (sM_train X (X.2 (ix (x3 + 1))) (X.2 (ix (x3 + 2))) m4) (fun x32 => ?_)
                  refine sim_icmp_eq (tgt := 877) dL_law_312 (by decide) ?_ ?_
                  · refine sim_iinc (y := 5) (fun z => [(0, pR 8 0 0), (1, pR 4 0 0), (2, pR 5 0 0), (3, pI z)]) [1, 2, 3, 0] dL_law_877 rfl (by decide) (by decide) (fun _ => rfl) (fun x33 => ?_)
                    refine sim_goto (tgt := 18) dL_law_880 (by decide) ?_
                    exact hs6 x33 m4
                  · refine sim_iconst (v := 0) dL_law_315 (by decide) ?_
                    exact sim_zret dL_law_316 rfl rfl rfl
                · refine sim_case ?_ (fun hc38 => ?_)
                  · refine sim_tab (off := 285) (tgt := 317) dL_law_32 (by decide) (by decide) (by decide) (by decide) ?_
                    refine sim_aload_n dL_law_317 rfl ?_
                    refine sim_aload_n dL_law_318 rfl ?_
                    refine sim_iload_n dL_law_319 rfl ?_
                    refine sim_iconst (v := 1) dL_law_320 (by decide) ?_
                    refine sim_iadd dL_law_321 ?_
                    refine sim_sld dL_law_322 ?_
                    refine sim_callV (As := [pI (X.2 (ix (x3 + 1)))]) (rest := []) (k0 := 0) dL_law_323 ln_L_44 me_X4_why rfl (by decide) rfl (by decide) (Nat.le_of_ble_eq_true rfl) (Nat.le_of_ble_eq_true rfl) rfl (sD_why X (X.2 (ix (x3 + 1))) m4) (fun q35 => ?_)
                    refine sim_aload_n dL_law_326 rfl ?_
                    refine sim_aload_n dL_law_327 rfl ?_
                    refine sim_iload_n dL_law_328 rfl ?_
                    refine sim_iconst (v := 1) dL_law_329 (by decide) ?_
                    refine sim_iadd dL_law_330 ?_
                    refine sim_sld dL_law_331 ?_
                    refine sim_callV (As := [pI (X.2 (ix (x3 + 1)))]) (rest := [pI q35.1]) (k0 := 0) dL_law_332 ln_L_47 me_X5_why rfl (by decide) rfl (by decide) (Nat.le_of_ble_eq_true rfl) (Nat.le_of_ble_eq_true rfl) rfl (sM_why X (X.2 (ix (x3 + 1))) q35.2) (fun q36 => ?_)
                    refine sim_icmp_eq (tgt := 877) dL_law_335 (by decide) ?_ ?_
                    · refine sim_iinc (y := 5) (fun z => [(0, pR 8 0 0), (1, pR 4 0 0), (2, pR 5 0 0), (3, pI z)]) [1, 2, 3, 0] dL_law_877 rfl (by decide) (by decide) (fun _ => rfl) (fun x37 => ?_)
                      refine sim_goto (tgt := 18) dL_law_880 (by decide) ?_
                      exact hs6 x37 q36.2
                    · refine sim_iconst (v := 0) dL_law_338 (by decide) ?_
                      exact sim_zret dL_law_339 rfl rfl rfl
                  · refine sim_case ?_ (fun hc42 => ?_)
                    · refine sim_tab (off := 308) (tgt := 340) dL_law_32 (by decide) (by decide) (by decide) (by decide) ?_
                      refine sim_aload_n dL_law_340 rfl ?_
                      refine sim_aload_n dL_law_341 rfl ?_
                      refine sim_iload_n dL_law_342 rfl ?_
                      refine sim_iconst (v := 1) dL_law_343 (by decide) ?_
                      refine sim_iadd dL_law_344 ?_
                      refine sim_sld dL_law_345 ?_
                      refine sim_callV (As := [pI (X.2 (ix (x3 + 1)))]) (rest := []) (k0 := 0) dL_law_346 ln_L_48 me_X4_who rfl (by decide) rfl (by decide) (Nat.le_of_ble_eq_true rfl) (Nat.le_of_ble_eq_true rfl) rfl (sD_who X (X.2 (ix (x3 + 1))) m4) (fun q39 => ?_)
                      refine sim_aload_n dL_law_349 rfl ?_
                      refine sim_aload_n dL_law_350 rfl ?_
                      refine sim_iload_n dL_law_351 rfl ?_
                      refine sim_iconst (v := 1) dL_law_352 (by decide) ?_
                      refine sim_iadd dL_law_353 ?_
                      refine sim_sld dL_law_354 ?_
                      refine sim_callV (As := [pI (X.2 (ix (x3 + 1)))]) (rest := [pI q39.1]) (k0 := 0) dL_law_355 ln_L_51 me_X5_who rfl (by decide) rfl (by decide) (Nat.le_of_ble_eq_true rfl) (Nat.le_of_ble_eq_true rfl) rfl (sM_who X (X.2 (ix (x3 + 1))) q39.2) (fun q40 => ?_)
                      refine sim_icmp_eq (tgt := 877) dL_law_358 (by decide) ?_ ?_
                      · refine sim_iinc (y := 5) (fun z => [(0, pR 8 0 0), (1, pR 4 0 0), (2, pR 5 0 0), (3, pI z)]) [1, 2, 3, 0] dL_law_877 rfl (by decide) (by decide) (fun _ => rfl) (fun x41 => ?_)
                        refine sim_goto (tgt := 18) dL_law_880 (by decide) ?_
                        exact hs6 x41 q40.2
                      · refine sim_iconst (v := 0) dL_law_361 (by decide) ?_
                        exact sim_zret dL_law_362 rfl rfl rfl
                    · refine sim_case ?_ (fun hc46 => ?_)
                      · refine sim_tab (off := 331) (tgt := 363) dL_law_32 (by decide) (by decide) (by decide) (by decide) ?_
                        refine sim_aload_n dL_law_363 rfl ?_
                        refine sim_aload_n dL_law_364 rfl ?_
                        refine sim_iload_n dL_law_365 rfl ?_
                        refine sim_iconst (v := 1) dL_law_366 (by decide) ?_
                        refine sim_iadd dL_law_367 ?_
                        refine sim_sld dL_law_368 ?_
                        refine sim_callV (As := [pI (X.2 (ix (x3 + 1)))]) (rest := []) (k0 := 0) dL_law_369 ln_L_52 me_X4_order rfl (by decide) rfl (by decide) (Nat.le_of_ble_eq_true rfl) (Nat.le_of_ble_eq_true rfl) rfl (sD_order X (X.2 (ix (x3 + 1))) m4) (fun q43 => ?_)
                        refine sim_aload_n dL_law_372 rfl ?_
                        refine sim_aload_n dL_law_373 rfl ?_
                        refine sim_iload_n dL_law_374 rfl ?_
                        refine sim_iconst (v := 1) dL_law_375 (by decide) ?_
                        refine sim_iadd dL_law_376 ?_
                        refine sim_sld dL_law_377 ?_
                        refine sim_callV (As := [pI (X.2 (ix (x3 + 1)))]) (rest := [pI q43.1]) (k0 := 0) dL_law_378 ln_L_55 me_X5_order rfl (by decide) rfl (by decide) (Nat.le_of_ble_eq_true rfl) (Nat.le_of_ble_eq_true rfl) rfl (sM_order X (X.2 (ix (x3 + 1))) q43.2) (fun q44 => ?_)
                        refine sim_icmp_eq (tgt := 877) dL_law_381 (by decide) ?_ ?_
                        · refine sim_iinc (y := 5) (fun z => [(0, pR 8 0 0), (1, pR 4 0 0), (2, pR 5 0 0), (3, pI z)]) [1, 2, 3, 0] dL_law_877 rfl (by decide) (by decide) (fun _ => rfl) (fun x45 => ?_)
                          refine sim_goto (tgt := 18) dL_law_880 (by decide) ?_
                          exact hs6 x45 q44.2
                        · refine sim_iconst (v := 0) dL_law_384 (by decide) ?_
                          exact sim_zret dL_law_385 rfl rfl rfl
                      · refine sim_case ?_ (fun hc50 => ?_)
                        · refine sim_tab (off := 354) (tgt := 386) dL_law_32 (by decide) (by decide) (by decide) (by decide) ?_
                          refine sim_aload_n dL_law_386 rfl ?_
                          refine sim_aload_n dL_law_387 rfl ?_
                          refine sim_iload_n dL_law_388 rfl ?_
                          refine sim_iconst (v := 1) dL_law_389 (by decide) ?_
                          refine sim_iadd dL_law_390 ?_
                          refine sim_sld dL_law_391 ?_
                          refine sim_callV (As := [pI (X.2 (ix (x3 + 1)))]) (rest := []) (k0 := 0) dL_law_392 ln_L_56 me_X4_reach rfl (by decide) rfl (by decide) (Nat.le_of_ble_eq_true rfl) (Nat.le_of_ble_eq_true rfl) rfl (sD_reach X (X.2 (ix (x3 + 1))) m4) (fun q47 => ?_)
                          refine sim_aload_n dL_law_395 rfl ?_
                          refine sim_aload_n dL_law_396 rfl ?_
                          refine sim_iload_n dL_law_397 rfl ?_
                          refine sim_iconst (v := 1) dL_law_398 (by decide) ?_
                          refine sim_iadd dL_law_399 ?_
                          refine sim_sld dL_law_400 ?_
                          refine sim_callV (As := [pI (X.2 (ix (x3 + 1)))]) (rest := [pI q47.1]) (k0 := 0) dL_law_401 ln_L_59 me_X5_reach rfl (by decide) rfl (by decide) (Nat.le_of_ble_eq_true rfl) (Nat.le_of_ble_eq_true rfl) rfl (sM_reach X (X.2 (ix (x3 + 1))) q47.2) (fun q48 => ?_)
                          refine sim_icmp_eq (tgt := 877) dL_law_404 (by decide) ?_ ?_
                          · refine sim_iinc (y := 5) (fun z => [(0, pR 8 0 0), (1, pR 4 0 0), (2, pR 5 0 0), (3, pI z)]) [1, 2, 3, 0] dL_law_877 rfl (by decide) (by decide) (fun _ => rfl) (fun x49 => ?_)
                            refine sim_goto (tgt := 18) dL_law_880 (by decide) ?_
                            exact hs6 x49 q48.2
                          · refine sim_iconst (v := 0) dL_law_407 (by decide) ?_
                            exact sim_zret dL_law_408 rfl rfl rfl
                        · refine sim_case ?_ (fun hc54 => ?_)
                          · refine sim_tab (off := 377) (tgt := 409) dL_law_32 (by decide) (by decide) (by decide) (by decide) ?_
                            refine sim_aload_n dL_law_409 rfl ?_
                            refine sim_aload_n dL_law_410 rfl ?_
                            refine sim_iload_n dL_law_411 rfl ?_
                            refine sim_iconst (v := 1) dL_law_412 (by decide) ?_
                            refine sim_iadd dL_law_413 ?_
                            refine sim_sld dL_law_414 ?_
                            refine sim_aload_n dL_law_415 rfl ?_
                            refine sim_iload_n dL_law_416 rfl ?_
                            refine sim_iconst (v := 2) dL_law_417 (by decide) ?_
                            refine sim_iadd dL_law_418 ?_
                            refine sim_sld dL_law_419 ?_
                            refine sim_callV (As := [pI (X.2 (ix (x3 + 1))), pI (X.2 (ix (x3 + 2)))]) (rest := []) (k0 := 0) dL_law_420 ln_L_60 me_X4_plan rfl (by decide) rfl (by decide) (Nat.le_of_ble_eq_true rfl) (Nat.le_of_ble_eq_true rfl) rfl (sD_plan X (X.2 (ix (x3 + 1))) (X.2 (ix (x3 + 2))) m4) (fun q51 => ?_)
                            refine sim_aload_n dL_law_423 rfl ?_
                            refine sim_aload_n dL_law_424 rfl ?_
                            refine sim_iload_n dL_law_425 rfl ?_
                            refine sim_iconst (v := 1) dL_law_426 (by decide) ?_
                            refine sim_iadd dL_law_427 ?_
                            refine sim_sld dL_law_428 ?_
                            refine sim_aload_n dL_law_429 rfl ?_
                            refine sim_iload_n dL_law_430 rfl ?_
                            refine sim_iconst (v := 2) dL_law_431 (by decide) ?_
                            refine sim_iadd dL_law_432 ?_
                            refine sim_sld dL_law_433 ?_
                            refine sim_callV (As := [pI (X.2 (ix (x3 + 1))), pI (X.2 (ix (x3 + 2)))]) (rest := [pI q51.1]) (k0 := 0) dL_law_434 ln_L_63 me_X5_plan rfl (by decide) rfl (by decide) (Nat.le_of_ble_eq_true rfl) (Nat.le_of_ble_eq_true rfl) rfl (sM_plan X (X.2 (ix (x3 + 1))) (X.2 (ix (x3 + 2))) q51.2) (fun q52 => ?_)
                            refine sim_icmp_eq (tgt := 877) dL_law_437 (by decide) ?_ ?_
                            · refine sim_iinc (y := 5) (fun z => [(0, pR 8 0 0), (1, pR 4 0 0), (2, pR 5 0 0), (3, pI z)]) [1, 2, 3, 0] dL_law_877 rfl (by decide) (by decide) (fun _ => rfl) (fun x53 => ?_)
                              refine sim_goto (tgt := 18) dL_law_880 (by decide) ?_
                              exact hs6 x53 q52.2
                            · refine sim_iconst (v := 0) dL_law_440 (by decide) ?_
                              exact sim_zret dL_law_441 rfl rfl rfl
                          · refine sim_case ?_ (fun hc58 => ?_)
                            · refine sim_tab (off := 410) (tgt := 442) dL_law_32 (by decide) (by decide) (by decide) (by decide) ?_
                              refine sim_aload_n dL_law_442 rfl ?_
                              refine sim_callV (As := []) (rest := []) (k0 := 0) dL_law_443 ln_L_64 me_X4_best rfl (by decide) rfl (by decide) (Nat.le_of_ble_eq_true rfl) (Nat.le_of_ble_eq_true rfl) rfl (sD_best X m4) (fun q55 => ?_)
                              refine sim_aload_n dL_law_446 rfl ?_
                              refine sim_callV (As := []) (rest := [pI q55.1]) (k0 := 0) dL_law_447 ln_L_67 me_X5_best rfl (by decide) rfl (by decide) (Nat.le_of_ble_eq_true rfl) (Nat.le_of_ble_eq_true rfl) rfl (sM_best X q55.2) (fun q56 => ?_)
                              refine sim_icmp_eq (tgt := 877) dL_law_450 (by decide) ?_ ?_
                              · refine sim_iinc (y := 5) (fun z => [(0, pR 8 0 0), (1, pR 4 0 0), (2, pR 5 0 0), (3, pI z)]) [1, 2, 3, 0] dL_law_877 rfl (by decide) (by decide) (fun _ => rfl) (fun x57 => ?_)
                                refine sim_goto (tgt := 18) dL_law_880 (by decide) ?_
                                exact hs6 x57 q56.2
                              · refine sim_iconst (v := 0) dL_law_453 (by decide) ?_
                                exact sim_zret dL_law_454 rfl rfl rfl
                            · refine sim_case ?_ (fun hc62 => ?_)
                              · refine sim_tab (off := 423) (tgt := 455) dL_law_32 (by decide) (by decide) (by decide) (by decide) ?_
                                refine sim_aload_n dL_law_455 rfl ?_
                                refine sim_aload_n dL_law_456 rfl ?_
                                refine sim_iload_n dL_law_457 rfl ?_
                                refine sim_iconst (v := 1) dL_law_458 (by decide) ?_
                                refine sim_iadd dL_law_459 ?_
                                refine sim_sld dL_law_460 ?_
                                refine sim_callV (As := [pI (X.2 (ix (x3 + 1)))]) (rest := []) (k0 := 0) dL_law_461 ln_L_68 me_X4_let rfl (by decide) rfl (by decide) (Nat.le_of_ble_eq_true rfl) (Nat.le_of_ble_eq_true rfl) rfl (sD_let X (X.2 (ix (x3 + 1))) m4) (fun q59 => ?_)
                                refine sim_aload_n dL_law_464 rfl ?_
                                refine sim_aload_n dL_law_465 rfl ?_
                                refine sim_iload_n dL_law_466 rfl ?_
                                refine sim_iconst (v := 1) dL_law_467 (by decide) ?_
                                refine sim_iadd dL_law_468 ?_
                                refine sim_sld dL_law_469 ?_
                                refine sim_callV (As := [pI (X.2 (ix (x3 + 1)))]) (rest := [pI q59.1]) (k0 := 0) dL_law_470 ln_L_71 me_X5_let rfl (by decide) rfl (by decide) (Nat.le_of_ble_eq_true rfl) (Nat.le_of_ble_eq_true rfl) rfl (sM_let X (X.2 (ix (x3 + 1))) q59.2) (fun q60 => ?_)
                                refine sim_icmp_eq (tgt := 877) dL_law_473 (by decide) ?_ ?_
                                · refine sim_iinc (y := 5) (fun z => [(0, pR 8 0 0), (1, pR 4 0 0), (2, pR 5 0 0), (3, pI z)]) [1, 2, 3, 0] dL_law_877 rfl (by decide) (by decide) (fun _ => rfl) (fun x61 => ?_)
                                  refine sim_goto (tgt := 18) dL_law_880 (by decide) ?_
                                  exact hs6 x61 q60.2
                                · refine sim_iconst (v := 0) dL_law_476 (by decide) ?_
                                  exact sim_zret dL_law_477 rfl rfl rfl
                              · refine sim_case ?_ (fun hc66 => ?_)
                                · refine sim_tab (off := 446) (tgt := 478) dL_law_32 (by decide) (by decide) (by decide) (by decide) ?_
                                  refine sim_aload_n dL_law_478 rfl ?_
                                  refine sim_aload_n dL_law_479 rfl ?_
                                  refine sim_iload_n dL_law_480 rfl ?_
                                  refine sim_iconst (v := 1) dL_law_481 (by decide) ?_
                                  refine sim_iadd dL_law_482 ?_
                                  refine sim_sld dL_law_483 ?_
                                  refine sim_callV (As := [pI (X.2 (ix (x3 + 1)))]) (rest := []) (k0 := 0) dL_law_484 ln_L_72 me_X4_tick rfl (by decide) rfl (by decide) (Nat.le_of_ble_eq_true rfl) (Nat.le_of_ble_eq_true rfl) rfl (sD_tick X (X.2 (ix (x3 + 1))) m4) (fun q63 => ?_)
                                  refine sim_aload_n dL_law_487 rfl ?_
                                  refine sim_aload_n dL_law_488 rfl ?_
                                  refine sim_iload_n dL_law_489 rfl ?_
                                  refine sim_iconst (v := 1) dL_law_490 (by decide) ?_
                                  refine sim_iadd dL_law_491 ?_
                                  refine sim_sld dL_law_492 ?_
                                  refine sim_callV (As := [pI (X.2 (ix (x3 + 1)))]) (rest := [pI q63.1]) (k0 := 0) dL_law_493 ln_L_75 me_X5_tick rfl (by decide) rfl (by decide) (Nat.le_of_ble_eq_true rfl) (Nat.le_of_ble_eq_true rfl) rfl (sM_tick X (X.2 (ix (x3 + 1))) q63.2) (fun q64 => ?_)
                                  refine sim_icmp_eq (tgt := 877) dL_law_496 (by decide) ?_ ?_
                                  · refine sim_iinc (y := 5) (fun z => [(0, pR 8 0 0), (1, pR 4 0 0), (2, pR 5 0 0), (3, pI z)]) [1, 2, 3, 0] dL_law_877 rfl (by decide) (by decide) (fun _ => rfl) (fun x65 => ?_)
                                    refine sim_goto (tgt := 18) dL_law_880 (by decide) ?_
                                    exact hs6 x65 q64.2
                                  · refine sim_iconst (v := 0) dL_law_499 (by decide) ?_
                                    exact sim_zret dL_law_500 rfl rfl rfl
                                · refine sim_case ?_ (fun hc70 => ?_)
                                  · refine sim_tab (off := 469) (tgt := 501) dL_law_32 (by decide) (by decide) (by decide) (by decide) ?_
                                    refine sim_aload_n dL_law_501 rfl ?_
                                    refine sim_aload_n dL_law_502 rfl ?_
                                    refine sim_iload_n dL_law_503 rfl ?_
                                    refine sim_iconst (v := 1) dL_law_504 (by decide) ?_
                                    refine sim_iadd dL_law_505 ?_
                                    refine sim_sld dL_law_506 ?_
                                    refine sim_callV (As := [pI (X.2 (ix (x3 + 1)))]) (rest := []) (k0 := 0) dL_law_507 ln_L_76 me_X4_send rfl (by decide) rfl (by decide) (Nat.le_of_ble_eq_true rfl) (Nat.le_of_ble_eq_true rfl) rfl (sD_send X (X.2 (ix (x3 + 1))) m4) (fun q67 => ?_)
                                    refine sim_aload_n dL_law_510 rfl ?_
                                    refine sim_aload_n dL_law_511 rfl ?_
                                    refine sim_iload_n dL_law_512 rfl ?_
                                    refine sim_iconst (v := 1) dL_law_513 (by decide) ?_
                                    refine sim_iadd dL_law_514 ?_
                                    refine sim_sld dL_law_515 ?_
                                    refine sim_callV (As := [pI (X.2 (ix (x3 + 1)))]) (rest := [pI q67.1]) (k0 := 0) dL_law_516 ln_L_79 me_X5_send rfl (by decide) rfl (by decide) (Nat.le_of_ble_eq_true rfl) (Nat.le_of_ble_eq_true rfl) rfl (sM_send X (X.2 (ix (x3 + 1))) q67.2) (fun q68 => ?_)
                                    refine sim_icmp_eq (tgt := 877) dL_law_519 (by decide) ?_ ?_
                                    · refine sim_iinc (y := 5) (fun z => [(0, pR 8 0 0), (1, pR 4 0 0), (2, pR 5 0 0), (3, pI z)]) [1, 2, 3, 0] dL_law_877 rfl (by decide) (by decide) (fun _ => rfl) (fun x69 => ?_)
                                      refine sim_goto (tgt := 18) dL_law_880 (by decide) ?_
                                      exact hs6 x69 q68.2
                                    · refine sim_iconst (v := 0) dL_law_522 (by decide) ?_
                                      exact sim_zret dL_law_523 rfl rfl rfl
                                  · refine sim_case ?_ (fun hc74 => ?_)
                                    · refine sim_tab (off := 492) (tgt := 524) dL_law_32 (by decide) (by decide) (by decide) (by decide) ?_
                                      refine sim_aload_n dL_law_524 rfl ?_
                                      refine sim_aload_n dL_law_525 rfl ?_
                                      refine sim_iload_n dL_law_526 rfl ?_
                                      refine sim_iconst (v := 1) dL_law_527 (by decide) ?_
                                      refine sim_iadd dL_law_528 ?_
                                      refine sim_sld dL_law_529 ?_
                                      refine sim_aload_n dL_law_530 rfl ?_
                                      refine sim_iload_n dL_law_531 rfl ?_
                                      refine sim_iconst (v := 2) dL_law_532 (by decide) ?_
                                      refine sim_iadd dL_law_533 ?_
                                      refine sim_sld dL_law_534 ?_
                                      refine sim_callV (As := [pI (X.2 (ix (x3 + 1))), pI (X.2 (ix (x3 + 2)))]) (rest := []) (k0 := 0) dL_law_535 ln_L_80 me_X4_journal rfl (by decide) rfl (by decide) (Nat.le_of_ble_eq_true rfl) (Nat.le_of_ble_eq_true rfl) rfl (sD_journal X (X.2 (ix (x3 + 1))) (X.2 (ix (x3 + 2))) m4) (fun x71 => ?_)
                                      refine sim_aload_n dL_law_538 rfl ?_
                                      refine sim_aload_n dL_law_539 rfl ?_
                                      refine sim_iload_n dL_law_540 rfl ?_
                                      refine sim_iconst (v := 1) dL_law_541 (by decide) ?_
                                      refine sim_iadd dL_law_542 ?_
                                      refine sim_sld dL_law_543 ?_
                                      refine sim_aload_n dL_law_544 rfl ?_
                                      refine sim_iload_n dL_law_545 rfl ?_
                                      refine sim_iconst (v := 2) dL_law_546 (by decide) ?_
                                      refine sim_iadd dL_law_547 ?_
                                      refine sim_sld dL_law_548 ?_
                                      refine sim_callV (As := [pI (X.2 (ix (x3 + 1))), pI (X.2 (ix (x3 + 2)))]) (rest := [pI x71]) (k0 := 0) dL_law_549 ln_L_83 me_X5_journal rfl (by decide) rfl (by decide) (Nat.le_of_ble_eq_true rfl) (Nat.le_of_ble_eq_true rfl) rfl (sM_journal X (X.2 (ix (x3 + 1))) (X.2 (ix (x3 + 2))) m4) (fun x72 => ?_)
                                      refine sim_icmp_eq (tgt := 877) dL_law_552 (by decide) ?_ ?_
                                      · refine sim_iinc (y := 5) (fun z => [(0, pR 8 0 0), (1, pR 4 0 0), (2, pR 5 0 0), (3, pI z)]) [1, 2, 3, 0] dL_law_877 rfl (by decide) (by decide) (fun _ => rfl) (fun x73 => ?_)
                                        refine sim_goto (tgt := 18) dL_law_880 (by decide) ?_
                                        exact hs6 x73 m4
                                      · refine sim_iconst (v := 0) dL_law_555 (by decide) ?_
                                        exact sim_zret dL_law_556 rfl rfl rfl
                                    · refine sim_case ?_ (fun hc78 => ?_)
                                      · refine sim_tab (off := 525) (tgt := 557) dL_law_32 (by decide) (by decide) (by decide) (by decide) ?_
                                        refine sim_aload_n dL_law_557 rfl ?_
                                        refine sim_aload_n dL_law_558 rfl ?_
                                        refine sim_iload_n dL_law_559 rfl ?_
                                        refine sim_iconst (v := 1) dL_law_560 (by decide) ?_
                                        refine sim_iadd dL_law_561 ?_
                                        refine sim_sld dL_law_562 ?_
                                        refine sim_aload_n dL_law_563 rfl ?_
                                        refine sim_iload_n dL_law_564 rfl ?_
                                        refine sim_iconst (v := 2) dL_law_565 (by decide) ?_
                                        refine sim_iadd dL_law_566 ?_
                                        refine sim_sld dL_law_567 ?_
                                        refine sim_aload_n dL_law_568 rfl ?_
                                        refine sim_iload_n dL_law_569 rfl ?_
                                        refine sim_iconst (v := 3) dL_law_570 (by decide) ?_
                                        refine sim_iadd dL_law_571 ?_
                                        refine sim_sld dL_law_572 ?_
                                        refine sim_callV (As := [pI (X.2 (ix (x3 + 1))), pI (X.2 (ix (x3 + 2))), pI (X.2 (ix (x3 + 3)))]) (rest := []) (k0 := 0) dL_law_573 ln_L_84 me_X4_add rfl (by decide) rfl (by decide) (Nat.le_of_ble_eq_true rfl) (Nat.le_of_ble_eq_true rfl) rfl (sD_add X (X.2 (ix (x3 + 1))) (X.2 (ix (x3 + 2))) (X.2 (ix (x3 + 3))) m4) (fun q75 => ?_)
                                        refine sim_aload_n dL_law_576 rfl ?_
                                        refine sim_aload_n dL_law_577 rfl ?_
                                        refine sim_iload_n dL_law_578 rfl ?_
                                        refine sim_iconst (v := 1) dL_law_579 (by decide) ?_
                                        refine sim_iadd dL_law_580 ?_
                                        refine sim_sld dL_law_581 ?_
                                        refine sim_aload_n dL_law_582 rfl ?_
                                        refine sim_iload_n dL_law_583 rfl ?_
                                        refine sim_iconst (v := 2) dL_law_584 (by decide) ?_
                                        refine sim_iadd dL_law_585 ?_
                                        refine sim_sld dL_law_586 ?_
                                        refine sim_aload_n dL_law_587 rfl ?_
                                        refine sim_iload_n dL_law_588 rfl ?_
                                        refine sim_iconst (v := 3) dL_law_589 (by decide) ?_
                                        refine sim_iadd dL_law_590 ?_
                                        refine sim_sld dL_law_591 ?_
                                        refine sim_callV (As := [pI (X.2 (ix (x3 + 1))), pI (X.2 (ix (x3 + 2))), pI (X.2 (ix (x3 + 3)))]) (rest := [pI q75.1]) (k0 := 0) dL_law_592 ln_L_88 me_X5_add rfl (by decide) rfl (by decide) (Nat.le_of_ble_eq_true rfl) (Nat.le_of_ble_eq_true rfl) rfl (sM_add X (X.2 (ix (x3 + 1))) (X.2 (ix (x3 + 2))) (X.2 (ix (x3 + 3))) q75.2) (fun q76 => ?_)
                                        refine sim_icmp_eq (tgt := 877) dL_law_595 (by decide) ?_ ?_
                                        · refine sim_iinc (y := 5) (fun z => [(0, pR 8 0 0), (1, pR 4 0 0), (2, pR 5 0 0), (3, pI z)]) [1, 2, 3, 0] dL_law_877 rfl (by decide) (by decide) (fun _ => rfl) (fun x77 => ?_)
                                          refine sim_goto (tgt := 18) dL_law_880 (by decide) ?_
                                          exact hs6 x77 q76.2
                                        · refine sim_iconst (v := 0) dL_law_598 (by decide) ?_
                                          exact sim_zret dL_law_599 rfl rfl rfl
                                      · refine sim_case ?_ (fun hc82 => ?_)
                                        · refine sim_tab (off := 568) (tgt := 600) dL_law_32 (by decide) (by decide) (by decide) (by decide) ?_
                                          refine sim_aload_n dL_law_600 rfl ?_
                                          refine sim_aload_n dL_law_601 rfl ?_
                                          refine sim_iload_n dL_law_602 rfl ?_
                                          refine sim_iconst (v := 1) dL_law_603 (by decide) ?_
                                          refine sim_iadd dL_law_604 ?_
                                          refine sim_sld dL_law_605 ?_
                                          refine sim_callV (As := [pI (X.2 (ix (x3 + 1)))]) (rest := []) (k0 := 0) dL_law_606 ln_L_89 me_X4_drop rfl (by decide) rfl (by decide) (Nat.le_of_ble_eq_true rfl) (Nat.le_of_ble_eq_true rfl) rfl (sD_drop X (X.2 (ix (x3 + 1))) m4) (fun q79 => ?_)
                                          refine sim_aload_n dL_law_609 rfl ?_
                                          refine sim_aload_n dL_law_610 rfl ?_
                                          refine sim_iload_n dL_law_611 rfl ?_
                                          refine sim_iconst (v := 1) dL_law_612 (by decide) ?_
                                          refine sim_iadd dL_law_613 ?_
                                          refine sim_sld dL_law_614 ?_
                                          refine sim_callV (As := [pI (X.2 (ix (x3 + 1)))]) (rest := [pI q79.1]) (k0 := 0) dL_law_615 ln_L_92 me_X5_drop rfl (by decide) rfl (by decide) (Nat.le_of_ble_eq_true rfl) (Nat.le_of_ble_eq_true rfl) rfl (sM_drop X (X.2 (ix (x3 + 1))) q79.2) (fun q80 => ?_)
                                          refine sim_icmp_eq (tgt := 877) dL_law_618 (by decide) ?_ ?_
                                          · refine sim_iinc (y := 5) (fun z => [(0, pR 8 0 0), (1, pR 4 0 0), (2, pR 5 0 0), (3, pI z)]) [1, 2, 3, 0] dL_law_877 rfl (by decide) (by decide) (fun _ => rfl) (fun x81 => ?_)
                                            refine sim_goto (tgt := 18) dL_law_880 (by decide) ?_
                                            exact hs6 x81 q80.2
                                          · refine sim_iconst (v := 0) dL_law_621 (by decide) ?_
                                            exact sim_zret dL_law_622 rfl rfl rfl
                                        · refine sim_case ?_ (fun hc86 => ?_)
                                          · refine sim_tab (off := 591) (tgt := 623) dL_law_32 (by decide) (by decide) (by decide) (by decide) ?_
                                            refine sim_aload_n dL_law_623 rfl ?_
                                            refine sim_aload_n dL_law_624 rfl ?_
                                            refine sim_iload_n dL_law_625 rfl ?_
                                            refine sim_iconst (v := 1) dL_law_626 (by decide) ?_
                                            refine sim_iadd dL_law_627 ?_
                                            refine sim_sld dL_law_628 ?_
                                            refine sim_aload_n dL_law_629 rfl ?_
                                            refine sim_iload_n dL_law_630 rfl ?_
                                            refine sim_iconst (v := 2) dL_law_631 (by decide) ?_
                                            refine sim_iadd dL_law_632 ?_
                                            refine sim_sld dL_law_633 ?_
                                            refine sim_callV (As := [pI (X.2 (ix (x3 + 1))), pI (X.2 (ix (x3 + 2)))]) (rest := []) (k0 := 0) dL_law_634 ln_L_93 me_X4_draw rfl (by decide) rfl (by decide) (Nat.le_of_ble_eq_true rfl) (Nat.le_of_ble_eq_true rfl) rfl (sD_draw X (X.2 (ix (x3 + 1))) (X.2 (ix (x3 + 2))) m4) (fun q83 => ?_)
                                            refine sim_aload_n dL_law_637 rfl ?_
                                            refine sim_aload_n dL_law_638 rfl ?_
                                            refine sim_iload_n dL_law_639 rfl ?_
                                            refine sim_iconst (v := 1) dL_law_640 (by decide) ?_
                                            refine sim_iadd dL_law_641 ?_
                                            refine sim_sld dL_law_642 ?_
                                            refine sim_aload_n dL_law_643 rfl ?_
                                            refine sim_iload_n dL_law_644 rfl ?_
                                            refine sim_iconst (v := 2) dL_law_645 (by decide) ?_
                                            refine sim_iadd dL_law_646 ?_
                                            refine sim_sld dL_law_647 ?_
                                            refine sim_callV (As := [pI (X.2 (ix (x3 + 1))), pI (X.2 (ix (x3 + 2)))]) (rest := [pI q83.1]) (k0 := 0) dL_law_648 ln_L_96 me_X5_draw rfl (by decide) rfl (by decide) (Nat.le_of_ble_eq_true rfl) (Nat.le_of_ble_eq_true rfl) rfl (sM_draw X (X.2 (ix (x3 + 1))) (X.2 (ix (x3 + 2))) q83.2) (fun q84 => ?_)
                                            refine sim_icmp_eq (tgt := 877) dL_law_651 (by decide) ?_ ?_
                                            · refine sim_iinc (y := 5) (fun z => [(0, pR 8 0 0), (1, pR 4 0 0), (2, pR 5 0 0), (3, pI z)]) [1, 2, 3, 0] dL_law_877 rfl (by decide) (by decide) (fun _ => rfl) (fun x85 => ?_)
                                              refine sim_goto (tgt := 18) dL_law_880 (by decide) ?_
                                              exact hs6 x85 q84.2
                                            · refine sim_iconst (v := 0) dL_law_654 (by decide) ?_
                                              exact sim_zret dL_law_655 rfl rfl rfl
                                          · refine sim_case ?_ (fun hc90 => ?_)
                                            · refine sim_tab (off := 624) (tgt := 656) dL_law_32 (by decide) (by decide) (by decide) (by decide) ?_
                                              refine sim_aload_n dL_law_656 rfl ?_
                                              refine sim_aload_n dL_law_657 rfl ?_
                                              refine sim_iload_n dL_law_658 rfl ?_
                                              refine sim_iconst (v := 1) dL_law_659 (by decide) ?_
                                              refine sim_iadd dL_law_660 ?_
                                              refine sim_sld dL_law_661 ?_
                                              refine sim_callV (As := [pI (X.2 (ix (x3 + 1)))]) (rest := []) (k0 := 0) dL_law_662 ln_L_97 me_X4_keep rfl (by decide) rfl (by decide) (Nat.le_of_ble_eq_true rfl) (Nat.le_of_ble_eq_true rfl) rfl (sD_keep X (X.2 (ix (x3 + 1))) m4) (fun q87 => ?_)
                                              refine sim_aload_n dL_law_665 rfl ?_
                                              refine sim_aload_n dL_law_666 rfl ?_
                                              refine sim_iload_n dL_law_667 rfl ?_
                                              refine sim_iconst (v := 1) dL_law_668 (by decide) ?_
                                              refine sim_iadd dL_law_669 ?_
                                              refine sim_sld dL_law_670 ?_
                                              refine sim_callV (As := [pI (X.2 (ix (x3 + 1)))]) (rest := [pI q87.1]) (k0 := 0) dL_law_671 ln_L_100 me_X5_keep rfl (by decide) rfl (by decide) (Nat.le_of_ble_eq_true rfl) (Nat.le_of_ble_eq_true rfl) rfl (sM_keep X (X.2 (ix (x3 + 1))) q87.2) (fun q88 => ?_)
                                              refine sim_icmp_eq (tgt := 877) dL_law_674 (by decide) ?_ ?_
                                              · refine sim_iinc (y := 5) (fun z => [(0, pR 8 0 0), (1, pR 4 0 0), (2, pR 5 0 0), (3, pI z)]) [1, 2, 3, 0] dL_law_877 rfl (by decide) (by decide) (fun _ => rfl) (fun x89 => ?_)
                                                refine sim_goto (tgt := 18) dL_law_880 (by decide) ?_
                                                exact hs6 x89 q88.2
                                              · refine sim_iconst (v := 0) dL_law_677 (by decide) ?_
                                                exact sim_zret dL_law_678 rfl rfl rfl
                                            · refine sim_case ?_ (fun hc94 => ?_)
                                              · refine sim_tab (off := 647) (tgt := 679) dL_law_32 (by decide) (by decide) (by decide) (by decide) ?_
                                                refine sim_aload_n dL_law_679 rfl ?_
                                                refine sim_aload_n dL_law_680 rfl ?_
                                                refine sim_iload_n dL_law_681 rfl ?_
                                                refine sim_iconst (v := 1) dL_law_682 (by decide) ?_
                                                refine sim_iadd dL_law_683 ?_
                                                refine sim_sld dL_law_684 ?_
                                                refine sim_callV (As := [pI (X.2 (ix (x3 + 1)))]) (rest := []) (k0 := 0) dL_law_685 ln_L_101 me_X4_back rfl (by decide) rfl (by decide) (Nat.le_of_ble_eq_true rfl) (Nat.le_of_ble_eq_true rfl) rfl (sD_back X (X.2 (ix (x3 + 1))) m4) (fun q91 => ?_)
                                                refine sim_aload_n dL_law_688 rfl ?_
                                                refine sim_aload_n dL_law_689 rfl ?_
                                                refine sim_iload_n dL_law_690 rfl ?_
                                                refine sim_iconst (v := 1) dL_law_691 (by decide) ?_
                                                refine sim_iadd dL_law_692 ?_
                                                refine sim_sld dL_law_693 ?_
                                                refine sim_callV (As := [pI (X.2 (ix (x3 + 1)))]) (rest := [pI q91.1]) (k0 := 0) dL_law_694 ln_L_104 me_X5_back rfl (by decide) rfl (by decide) (Nat.le_of_ble_eq_true rfl) (Nat.le_of_ble_eq_true rfl) rfl (sM_back X (X.2 (ix (x3 + 1))) q91.2) (fun q92 => ?_)
                                                refine sim_icmp_eq (tgt := 877) dL_law_697 (by decide) ?_ ?_
                                                · refine sim_iinc (y := 5) (fun z => [(0, pR 8 0 0), (1, pR 4 0 0), (2, pR 5 0 0), (3, pI z)]) [1, 2, 3, 0] dL_law_877 rfl (by decide) (by decide) (fun _ => rfl) (fun x93 => ?_)
                                                  refine sim_goto (tgt := 18) dL_law_880 (by decide) ?_
                                                  exact hs6 x93 q92.2
                                                · refine sim_iconst (v := 0) dL_law_700 (by decide) ?_
                                                  exact sim_zret dL_law_701 rfl rfl rfl
                                              · refine sim_case ?_ (fun hc98 => ?_)
                                                · refine sim_tab (off := 670) (tgt := 702) dL_law_32 (by decide) (by decide) (by decide) (by decide) ?_
                                                  refine sim_aload_n dL_law_702 rfl ?_
                                                  refine sim_aload_n dL_law_703 rfl ?_
                                                  refine sim_iload_n dL_law_704 rfl ?_
                                                  refine sim_iconst (v := 1) dL_law_705 (by decide) ?_
                                                  refine sim_iadd dL_law_706 ?_
                                                  refine sim_sld dL_law_707 ?_
                                                  refine sim_aload_n dL_law_708 rfl ?_
                                                  refine sim_iload_n dL_law_709 rfl ?_
                                                  refine sim_iconst (v := 2) dL_law_710 (by decide) ?_
                                                  refine sim_iadd dL_law_711 ?_
                                                  refine sim_sld dL_law_712 ?_
                                                  refine sim_aload_n dL_law_713 rfl ?_
                                                  refine sim_iload_n dL_law_714 rfl ?_
                                                  refine sim_iconst (v := 3) dL_law_715 (by decide) ?_
                                                  refine sim_iadd dL_law_716 ?_
                                                  refine sim_sld dL_law_717 ?_
                                                  refine sim_callV (As := [pI (X.2 (ix (x3 + 1))), pI (X.2 (ix (x3 + 2))), pI (X.2 (ix (x3 + 3)))]) (rest := []) (k0 := 0) dL_law_718 ln_L_105 me_X4_sheet rfl (by decide) rfl (by decide) (Nat.le_of_ble_eq_true rfl) (Nat.le_of_ble_eq_true rfl) rfl (sD_sheet X (X.2 (ix (x3 + 1))) (X.2 (ix (x3 + 2))) (X.2 (ix (x3 + 3))) m4) (fun q95 => ?_)
                                                  refine sim_aload_n dL_law_721 rfl ?_
                                                  refine sim_aload_n dL_law_722 rfl ?_
                                                  refine sim_iload_n dL_law_723 rfl ?_
                                                  refine sim_iconst (v := 1) dL_law_724 (by decide) ?_
                                                  refine sim_iadd dL_law_725 ?_
                                                  refine sim_sld dL_law_726 ?_
                                                  refine sim_aload_n dL_law_727 rfl ?_
                                                  refine sim_iload_n dL_law_728 rfl ?_
                                                  refine sim_iconst (v := 2) dL_law_729 (by decide) ?_
                                                  refine sim_iadd dL_law_730 ?_
                                                  refine sim_sld dL_law_731 ?_
                                                  refine sim_aload_n dL_law_732 rfl ?_
                                                  refine sim_iload_n dL_law_733 rfl ?_
                                                  refine sim_iconst (v := 3) dL_law_734 (by decide) ?_
                                                  refine sim_iadd dL_law_735 ?_
                                                  refine sim_sld dL_law_736 ?_
                                                  refine sim_callV (As := [pI (X.2 (ix (x3 + 1))), pI (X.2 (ix (x3 + 2))), pI (X.2 (ix (x3 + 3)))]) (rest := [pI q95.1]) (k0 := 0) dL_law_737 ln_L_108 me_X5_sheet rfl (by decide) rfl (by decide) (Nat.le_of_ble_eq_true rfl) (Nat.le_of_ble_eq_true rfl) rfl (sM_sheet X (X.2 (ix (x3 + 1))) (X.2 (ix (x3 + 2))) (X.2 (ix (x3 + 3))) q95.2) (fun q96 => ?_)
                                                  refine sim_icmp_eq (tgt := 877) dL_law_740 (by decide) ?_ ?_
                                                  · refine sim_iinc (y := 5) (fun z => [(0, pR 8 0 0), (1, pR 4 0 0), (2, pR 5 0 0), (3, pI z)]) [1, 2, 3, 0] dL_law_877 rfl (by decide) (by decide) (fun _ => rfl) (fun x97 => ?_)
                                                    refine sim_goto (tgt := 18) dL_law_880 (by decide) ?_
                                                    exact hs6 x97 q96.2
                                                  · refine sim_iconst (v := 0) dL_law_743 (by decide) ?_
                                                    exact sim_zret dL_law_744 rfl rfl rfl
                                                · refine sim_case ?_ (fun hc102 => ?_)
                                                  · refine sim_tab (off := 713) (tgt := 745) dL_law_32 (by decide) (by decide) (by decide) (by decide) ?_
                                                    refine sim_aload_n dL_law_745 rfl ?_
                                                    refine sim_aload_n dL_law_746 rfl ?_
                                                    refine sim_iload_n dL_law_747 rfl ?_
                                                    refine sim_iconst (v := 1) dL_law_748 (by decide) ?_
                                                    refine sim_iadd dL_law_749 ?_
                                                    refine sim_sld dL_law_750 ?_
                                                    refine sim_aload_n dL_law_751 rfl ?_
                                                    refine sim_iload_n dL_law_752 rfl ?_
                                                    refine sim_iconst (v := 2) dL_law_753 (by decide) ?_
                                                    refine sim_iadd dL_law_754 ?_
                                                    refine sim_sld dL_law_755 ?_
                                                    refine sim_aload_n dL_law_756 rfl ?_
                                                    refine sim_iload_n dL_law_757 rfl ?_
                                                    refine sim_iconst (v := 3) dL_law_758 (by decide) ?_
                                                    refine sim_iadd dL_law_759 ?_
                                                    refine sim_sld dL_law_760 ?_
                                                    refine sim_callV (As := [pI (X.2 (ix (x3 + 1))), pI (X.2 (ix (x3 + 2))), pI (X.2 (ix (x3 + 3)))]) (rest := []) (k0 := 0) dL_law_761 ln_L_109 me_X4_lay rfl (by decide) rfl (by decide) (Nat.le_of_ble_eq_true rfl) (Nat.le_of_ble_eq_true rfl) rfl (sD_lay X (X.2 (ix (x3 + 1))) (X.2 (ix (x3 + 2))) (X.2 (ix (x3 + 3))) m4) (fun q99 => ?_)
                                                    refine sim_aload_n dL_law_764 rfl ?_
                                                    refine sim_aload_n dL_law_765 rfl ?_
                                                    refine sim_iload_n dL_law_766 rfl ?_
                                                    refine sim_iconst (v := 1) dL_law_767 (by decide) ?_
                                                    refine sim_iadd dL_law_768 ?_
                                                    refine sim_sld dL_law_769 ?_
                                                    refine sim_aload_n dL_law_770 rfl ?_
                                                    refine sim_iload_n dL_law_771 rfl ?_
                                                    refine sim_iconst (v := 2) dL_law_772 (by decide) ?_
                                                    refine sim_iadd dL_law_773 ?_
                                                    refine sim_sld dL_law_774 ?_
                                                    refine sim_aload_n dL_law_775 rfl ?_
                                                    refine sim_iload_n dL_law_776 rfl ?_
                                                    refine sim_iconst (v := 3) dL_law_777 (by decide) ?_
                                                    refine sim_iadd dL_law_778 ?_
                                                    refine sim_sld dL_law_779 ?_
                                                    refine sim_callV (As := [pI (X.2 (ix (x3 + 1))), pI (X.2 (ix (x3 + 2))), pI (X.2 (ix (x3 + 3)))]) (rest := [pI q99.1]) (k0 := 0) dL_law_780 ln_L_112 me_X5_lay rfl (by decide) rfl (by decide) (Nat.le_of_ble_eq_true rfl) (Nat.le_of_ble_eq_true rfl) rfl (sM_lay X (X.2 (ix (x3 + 1))) (X.2 (ix (x3 + 2))) (X.2 (ix (x3 + 3))) q99.2) (fun q100 => ?_)
                                                    refine sim_icmp_eq (tgt := 877) dL_law_783 (by decide) ?_ ?_
                                                    · refine sim_iinc (y := 5) (fun z => [(0, pR 8 0 0), (1, pR 4 0 0), (2, pR 5 0 0), (3, pI z)]) [1, 2, 3, 0] dL_law_877 rfl (by decide) (by decide) (fun _ => rfl) (fun x101 => ?_)
                                                      refine sim_goto (tgt := 18) dL_law_880 (by decide) ?_
                                                      exact hs6 x101 q100.2
                                                    · refine sim_iconst (v := 0) dL_law_786 (by decide) ?_
                                                      exact sim_zret dL_law_787 rfl rfl rfl
                                                  · refine sim_case ?_ (fun hc106 => ?_)
                                                    · refine sim_tab (off := 756) (tgt := 788) dL_law_32 (by decide) (by decide) (by decide) (by decide) ?_
                                                      refine sim_aload_n dL_law_788 rfl ?_
                                                      refine sim_aload_n dL_law_789 rfl ?_
                                                      refine sim_iload_n dL_law_790 rfl ?_
                                                      refine sim_iconst (v := 1) dL_law_791 (by decide) ?_
                                                      refine sim_iadd dL_law_792 ?_
                                                      refine sim_sld dL_law_793 ?_
                                                      refine sim_aload_n dL_law_794 rfl ?_
                                                      refine sim_iload_n dL_law_795 rfl ?_
                                                      refine sim_iconst (v := 2) dL_law_796 (by decide) ?_
                                                      refine sim_iadd dL_law_797 ?_
                                                      refine sim_sld dL_law_798 ?_
                                                      refine sim_aload_n dL_law_799 rfl ?_
                                                      refine sim_iload_n dL_law_800 rfl ?_
                                                      refine sim_iconst (v := 3) dL_law_801 (by decide) ?_
                                                      refine sim_iadd dL_law_802 ?_
                                                      refine sim_sld dL_law_803 ?_
                                                      refine sim_aload_n dL_law_804 rfl ?_
                                                      refine sim_iload_n dL_law_805 rfl ?_
                                                      refine sim_iconst (v := 4) dL_law_806 (by decide) ?_
                                                      refine sim_iadd dL_law_807 ?_
                                                      refine sim_sld dL_law_808 ?_
                                                      refine sim_callV (As := [pI (X.2 (ix (x3 + 1))), pI (X.2 (ix (x3 + 2))), pI (X.2 (ix (x3 + 3))), pI (X.2 (ix (x3 + 4)))]) (rest := []) (k0 := 0) dL_law_809 ln_L_113 me_X4_read rfl (by decide) rfl (by decide) (Nat.le_of_ble_eq_true rfl) (Nat.le_of_ble_eq_true rfl) rfl (sD_read X (X.2 (ix (x3 + 1))) (X.2 (ix (x3 + 2))) (X.2 (ix (x3 + 3))) (X.2 (ix (x3 + 4))) m4) (fun q103 => ?_)
                                                      refine sim_aload_n dL_law_812 rfl ?_
                                                      refine sim_aload_n dL_law_813 rfl ?_
                                                      refine sim_iload_n dL_law_814 rfl ?_
                                                      refine sim_iconst (v := 1) dL_law_815 (by decide) ?_
                                                      refine sim_iadd dL_law_816 ?_
                                                      refine sim_sld dL_law_817 ?_
                                                      refine sim_aload_n dL_law_818 rfl ?_
                                                      refine sim_iload_n dL_law_819 rfl ?_
                                                      refine sim_iconst (v := 2) dL_law_820 (by decide) ?_
                                                      refine sim_iadd dL_law_821 ?_
                                                      refine sim_sld dL_law_822 ?_
                                                      refine sim_aload_n dL_law_823 rfl ?_
                                                      refine sim_iload_n dL_law_824 rfl ?_
                                                      refine sim_iconst (v := 3) dL_law_825 (by decide) ?_
                                                      refine sim_iadd dL_law_826 ?_
                                                      refine sim_sld dL_law_827 ?_
                                                      refine sim_aload_n dL_law_828 rfl ?_
                                                      refine sim_iload_n dL_law_829 rfl ?_
                                                      refine sim_iconst (v := 4) dL_law_830 (by decide) ?_
                                                      refine sim_iadd dL_law_831 ?_
                                                      refine sim_sld dL_law_832 ?_
                                                      refine sim_callV (As := [pI (X.2 (ix (x3 + 1))), pI (X.2 (ix (x3 + 2))), pI (X.2 (ix (x3 + 3))), pI (X.2 (ix (x3 + 4)))]) (rest := [pI q103.1]) (k0 := 0) dL_law_833 ln_L_117 me_X5_read rfl (by decide) rfl (by decide) (Nat.le_of_ble_eq_true rfl) (Nat.le_of_ble_eq_true rfl) rfl (sM_read X (X.2 (ix (x3 + 1))) (X.2 (ix (x3 + 2))) (X.2 (ix (x3 + 3))) (X.2 (ix (x3 + 4))) q103.2) (fun q104 => ?_)
                                                      refine sim_icmp_eq (tgt := 877) dL_law_836 (by decide) ?_ ?_
                                                      · refine sim_iinc (y := 5) (fun z => [(0, pR 8 0 0), (1, pR 4 0 0), (2, pR 5 0 0), (3, pI z)]) [1, 2, 3, 0] dL_law_877 rfl (by decide) (by decide) (fun _ => rfl) (fun x105 => ?_)
                                                        refine sim_goto (tgt := 18) dL_law_880 (by decide) ?_
                                                        exact hs6 x105 q104.2
                                                      · refine sim_iconst (v := 0) dL_law_839 (by decide) ?_
                                                        exact sim_zret dL_law_840 rfl rfl rfl
                                                    · refine sim_case ?_ (fun hc110 => ?_)
                                                      · refine sim_tab (off := 809) (tgt := 841) dL_law_32 (by decide) (by decide) (by decide) (by decide) ?_
                                                        refine sim_aload_n dL_law_841 rfl ?_
                                                        refine sim_callV (As := []) (rest := []) (k0 := 0) dL_law_842 ln_L_118 me_X4_torn rfl (by decide) rfl (by decide) (Nat.le_of_ble_eq_true rfl) (Nat.le_of_ble_eq_true rfl) rfl (sD_torn X m4) (fun x107 => ?_)
                                                        refine sim_aload_n dL_law_845 rfl ?_
                                                        refine sim_callV (As := []) (rest := [pI x107]) (k0 := 0) dL_law_846 ln_L_121 me_X5_torn rfl (by decide) rfl (by decide) (Nat.le_of_ble_eq_true rfl) (Nat.le_of_ble_eq_true rfl) rfl (sM_torn X m4) (fun x108 => ?_)
                                                        refine sim_icmp_eq (tgt := 877) dL_law_849 (by decide) ?_ ?_
                                                        · refine sim_iinc (y := 5) (fun z => [(0, pR 8 0 0), (1, pR 4 0 0), (2, pR 5 0 0), (3, pI z)]) [1, 2, 3, 0] dL_law_877 rfl (by decide) (by decide) (fun _ => rfl) (fun x109 => ?_)
                                                          refine sim_goto (tgt := 18) dL_law_880 (by decide) ?_
                                                          exact hs6 x109 m4
                                                        · refine sim_iconst (v := 0) dL_law_852 (by decide) ?_
                                                          exact sim_zret dL_law_853 rfl rfl rfl
                                                      · refine sim_case ?_ (fun hc114 => ?_)
                                                        · refine sim_tab (off := 822) (tgt := 854) dL_law_32 (by decide) (by decide) (by decide) (by decide) ?_
                                                          refine sim_aload_n dL_law_854 rfl ?_
                                                          refine sim_aload_n dL_law_855 rfl ?_
                                                          refine sim_iload_n dL_law_856 rfl ?_
                                                          refine sim_iconst (v := 1) dL_law_857 (by decide) ?_
                                                          refine sim_iadd dL_law_858 ?_
                                                          refine sim_sld dL_law_859 ?_
                                                          refine sim_callV (As := [pI (X.2 (ix (x3 + 1)))]) (rest := []) (k0 := 0) dL_law_860 ln_L_122 me_X4_count rfl (by decide) rfl (by decide) (Nat.le_of_ble_eq_true rfl) (Nat.le_of_ble_eq_true rfl) rfl (sD_count X (X.2 (ix (x3 + 1))) m4) (fun x111 => ?_)
                                                          refine sim_aload_n dL_law_863 rfl ?_
                                                          refine sim_aload_n dL_law_864 rfl ?_
                                                          refine sim_iload_n dL_law_865 rfl ?_
                                                          refine sim_iconst (v := 1) dL_law_866 (by decide) ?_
                                                          refine sim_iadd dL_law_867 ?_
                                                          refine sim_sld dL_law_868 ?_
                                                          refine sim_callV (As := [pI (X.2 (ix (x3 + 1)))]) (rest := [pI x111]) (k0 := 0) dL_law_869 ln_L_125 me_X5_count rfl (by decide) rfl (by decide) (Nat.le_of_ble_eq_true rfl) (Nat.le_of_ble_eq_true rfl) rfl (sM_count X (X.2 (ix (x3 + 1))) m4) (fun x112 => ?_)
                                                          refine sim_icmp_eq (tgt := 877) dL_law_872 (by decide) ?_ ?_
                                                          · refine sim_iinc (y := 5) (fun z => [(0, pR 8 0 0), (1, pR 4 0 0), (2, pR 5 0 0), (3, pI z)]) [1, 2, 3, 0] dL_law_877 rfl (by decide) (by decide) (fun _ => rfl) (fun x113 => ?_)
                                                            refine sim_goto (tgt := 18) dL_law_880 (by decide) ?_
                                                            exact hs6 x113 m4
                                                          · refine sim_iconst (v := 0) dL_law_875 (by decide) ?_
                                                            exact sim_zret dL_law_876 rfl rfl rfl
                                                        · have e0_ := ne_lit hc10 (n := 0) (by decide)
                                                          have e1_ := ne_lit hc14 (n := 1) (by decide)
                                                          have e2_ := ne_lit hc18 (n := 2) (by decide)
                                                          have e3_ := ne_lit hc22 (n := 3) (by decide)
                                                          have e4_ := ne_lit hc26 (n := 4) (by decide)
                                                          have e5_ := ne_lit hc30 (n := 5) (by decide)
                                                          have e6_ := ne_lit hc34 (n := 6) (by decide)
                                                          have e7_ := ne_lit hc38 (n := 7) (by decide)
                                                          have e8_ := ne_lit hc42 (n := 8) (by decide)
                                                          have e9_ := ne_lit hc46 (n := 9) (by decide)
                                                          have e10_ := ne_lit hc50 (n := 10) (by decide)
                                                          have e11_ := ne_lit hc54 (n := 11) (by decide)
                                                          have e12_ := ne_lit hc58 (n := 12) (by decide)
                                                          have e13_ := ne_lit hc62 (n := 13) (by decide)
                                                          have e14_ := ne_lit hc66 (n := 14) (by decide)
                                                          have e15_ := ne_lit hc70 (n := 15) (by decide)
                                                          have e16_ := ne_lit hc74 (n := 16) (by decide)
                                                          have e17_ := ne_lit hc78 (n := 17) (by decide)
                                                          have e18_ := ne_lit hc82 (n := 18) (by decide)
                                                          have e19_ := ne_lit hc86 (n := 19) (by decide)
                                                          have e20_ := ne_lit hc90 (n := 20) (by decide)
                                                          have e21_ := ne_lit hc94 (n := 21) (by decide)
                                                          have e22_ := ne_lit hc98 (n := 22) (by decide)
                                                          have e23_ := ne_lit hc102 (n := 23) (by decide)
                                                          have e24_ := ne_lit hc106 (n := 24) (by decide)
                                                          have e25_ := ne_lit hc110 (n := 25) (by decide)
                                                          have e26_ := ne_lit hc114 (n := 26) (by decide)
                                                          refine sim_tabd (tgt := 877) dL_law_32 (by omega) (by decide) ?_
                                                          refine sim_iinc (y := 5) (fun z => [(0, pR 8 0 0), (1, pR 4 0 0), (2, pR 5 0 0), (3, pI z)]) [1, 2, 3, 0] dL_law_877 rfl (by decide) (by decide) (fun _ => rfl) (fun x115 => ?_)
                                                          refine sim_goto (tgt := 18) dL_law_880 (by decide) ?_
                                                          exact hs6 x115 m4
