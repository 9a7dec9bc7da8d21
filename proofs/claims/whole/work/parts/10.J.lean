def bJ_fill_1_5_5 (k1 : Nat) (x2 : Int32) (x5 : Int32) (s8 : Int32 → Mem → Option Mem) (x6 : Int32) (m7 : Mem) : Option Mem :=
  if x5 ≤ x6 then (some m7) else (gd (inb x6 6) (lt (wr m7 (1, k1, 5) (ix x6) x2) (fun m10 => lt (x6 + 1) (fun (x11 : Int32) => s8 x11 m10))))
def fJ_fill_1_5 (k1 : Nat) (x2 : Int32) (m3 : Mem) : Option Mem :=
  lt 0 (fun (x4 : Int32) => lt 6 (fun (x5 : Int32) => lz11 (bJ_fill_1_5_5 k1 x2 x5) FU x4 m3))
abbrev rm_J_fill_1_5 : Room := { frames := 0, cells := 0, slots := 0, locals := 0 }
set_option maxRecDepth 4000 in
theorem sJ_fill_1_5 (X : Sc) (k1 : Nat) (x2 : Int32) (m3 : Mem) : Sim X cJ7_fill_53178 4 none RJ7 rm_J_fill_1_5 (fun _ : Mem => 0) (fun m : Mem => m) 0 [(0, pR 1 k1 5), (1, pI x2)] [] m3 (fJ_fill_1_5 k1 x2 m3) := by
  unfold fJ_fill_1_5
  refine sim_iconst (v := 0) dJ7_fill_53178_0 (by decide) ?_
  refine sim_istore_n (fun z => [(0, pR 1 k1 5), (1, pI x2), (2, pI z)]) [1, 2, 0] dJ7_fill_53178_1 (by decide) (fun _ => rfl) (fun x4 => ?_)
  refine sim_aload_n dJ7_fill_53178_2 rfl ?_
  refine sim_alen (v := 6) dJ7_fill_53178_3 rfl (by decide) (by decide) (by decide) ?_
  refine sim_istore_n (fun z => [(0, pR 1 k1 5), (1, pI x2), (2, pI x4), (3, pI z)]) [1, 2, 3, 0] dJ7_fill_53178_4 (by decide) (fun _ => rfl) (fun x5 => ?_)
  refine sim_lz11 (fun z0 => [(0, pR 1 k1 5), (1, pI x2), (2, pI z0), (3, pI x5)]) (fun s8 hs9 x6 m7 => ?_) FU x4 m3
  unfold bJ_fill_1_5_5
  refine sim_iload_n dJ7_fill_53178_5 rfl ?_
  refine sim_iload_n dJ7_fill_53178_6 rfl ?_
  refine sim_icmp_ge (tgt := 20) dJ7_fill_53178_7 (by decide) ?_ ?_
  · exact sim_ret dJ7_fill_53178_20 rfl
  · refine sim_aload_n dJ7_fill_53178_10 rfl ?_
    refine sim_iload_n dJ7_fill_53178_11 rfl ?_
    refine sim_iload_n dJ7_fill_53178_12 rfl ?_
    refine sim_iast dJ7_fill_53178_13 rfl (by decide) (fun m10 => ?_)
    refine sim_iinc (y := 1) (fun z => [(0, pR 1 k1 5), (1, pI x2), (2, pI z), (3, pI x5)]) [1, 2, 0, 3] dJ7_fill_53178_14 rfl (by decide) (by decide) (fun _ => rfl) (fun x11 => ?_)
    refine sim_goto (tgt := 5) dJ7_fill_53178_17 (by decide) ?_
    exact hs9 x11 m10

def bJ_fill_1_3_5 (k1 : Nat) (x2 : Int32) (x5 : Int32) (s8 : Int32 → Mem → Option Mem) (x6 : Int32) (m7 : Mem) : Option Mem :=
  if x5 ≤ x6 then (some m7) else (gd (inb x6 1296) (lt (wr m7 (1, k1, 3) (ix x6) (vp_nar .byte x2)) (fun m10 => lt (x6 + 1) (fun (x11 : Int32) => s8 x11 m10))))
def fJ_fill_1_3 (k1 : Nat) (x2 : Int32) (m3 : Mem) : Option Mem :=
  lt 0 (fun (x4 : Int32) => lt 1296 (fun (x5 : Int32) => lz11 (bJ_fill_1_3_5 k1 x2 x5) FU x4 m3))
abbrev rm_J_fill_1_3 : Room := { frames := 0, cells := 0, slots := 0, locals := 0 }
set_option maxRecDepth 4000 in
theorem sJ_fill_1_3 (X : Sc) (k1 : Nat) (x2 : Int32) (m3 : Mem) : Sim X cJ7_fill_031fb 4 none RJ7 rm_J_fill_1_3 (fun _ : Mem => 0) (fun m : Mem => m) 0 [(0, pR 1 k1 3), (1, pI x2)] [] m3 (fJ_fill_1_3 k1 x2 m3) := by
  unfold fJ_fill_1_3
  refine sim_iconst (v := 0) dJ7_fill_031fb_0 (by decide) ?_
  refine sim_istore_n (fun z => [(0, pR 1 k1 3), (1, pI x2), (2, pI z)]) [1, 2, 0] dJ7_fill_031fb_1 (by decide) (fun _ => rfl) (fun x4 => ?_)
  refine sim_aload_n dJ7_fill_031fb_2 rfl ?_
  refine sim_alen (v := 1296) dJ7_fill_031fb_3 rfl (by decide) (by decide) (by decide) ?_
  refine sim_istore_n (fun z => [(0, pR 1 k1 3), (1, pI x2), (2, pI x4), (3, pI z)]) [1, 2, 3, 0] dJ7_fill_031fb_4 (by decide) (fun _ => rfl) (fun x5 => ?_)
  refine sim_lz11 (fun z0 => [(0, pR 1 k1 3), (1, pI x2), (2, pI z0), (3, pI x5)]) (fun s8 hs9 x6 m7 => ?_) FU x4 m3
  unfold bJ_fill_1_3_5
  refine sim_iload_n dJ7_fill_031fb_5 rfl ?_
  refine sim_iload_n dJ7_fill_031fb_6 rfl ?_
  refine sim_icmp_ge (tgt := 20) dJ7_fill_031fb_7 (by decide) ?_ ?_
  · exact sim_ret dJ7_fill_031fb_20 rfl
  · refine sim_aload_n dJ7_fill_031fb_10 rfl ?_
    refine sim_iload_n dJ7_fill_031fb_11 rfl ?_
    refine sim_iload_n dJ7_fill_031fb_12 rfl ?_
    refine sim_bast dJ7_fill_031fb_13 rfl (by decide) (fun m10 => ?_)
    refine sim_iinc (y := 1) (fun z => [(0, pR 1 k1 3), (1, pI x2), (2, pI z), (3, pI x5)]) [1, 2, 0, 3] dJ7_fill_031fb_14 rfl (by decide) (by decide) (fun _ => rfl) (fun x11 => ?_)
    refine sim_goto (tgt := 5) dJ7_fill_031fb_17 (by decide) ?_
    exact hs9 x11 m10

def fJ_coder (k1 : Nat) (m2 : Mem) : Option Int32 :=
  if (1 : Int32) = 0 then (gd (vp_nar .byte 1 == 1) (some 1)) else (gd (vp_nar .byte (0 : Int32) == (0 : Int32)) (some (0 : Int32)))
abbrev rm_J_coder : Room := { frames := 0, cells := 0, slots := 0, locals := 0 }
set_option maxRecDepth 4000 in
theorem sJ_coder (X : Sc) (k1 : Nat) (m2 : Mem) : Sim X cJ0_coder_7d493 1 (some .byte) RJ0 rm_J_coder (fun r : Int32 => r) (fun _ : Int32 => m2) 0 [(0, pR 6 k1 0)] [] m2 (fJ_coder k1 m2) := by
  unfold fJ_coder
  refine sim_compact dJ0_coder_7d493_0 gs_J0_38 ?_
  refine sim_if_eq (tgt := 13) dJ0_coder_7d493_3 (by decide) ?_ ?_
  · refine sim_iconst (v := 1) dJ0_coder_7d493_13 (by decide) ?_
    exact sim_byretg dJ0_coder_7d493_14 rfl rfl
  · refine sim_aload_n dJ0_coder_7d493_6 rfl ?_
    refine sim_scod dJ0_coder_7d493_7 gs_J0_15 ?_
    refine sim_goto (tgt := 14) dJ0_coder_7d493_10 (by decide) ?_
    exact sim_byretg dJ0_coder_7d493_14 rfl rfl

def fJ_length (k1 : Nat) (m2 : Mem) : Option Int32 :=
  Option.bind (fJ_coder k1 m2) (fun x3 => some (((strLen k1) : Int32) >>> ((x3 &&& 31) : Int32)))
abbrev rm_J_length : Room := { frames := 1, cells := 0, slots := 0, locals := 20 }
set_option maxRecDepth 4000 in
theorem sJ_length (X : Sc) (k1 : Nat) (m2 : Mem) : Sim X cJ0_length_8abf5 1 (some .int) RJ0 rm_J_length (fun r : Int32 => r) (fun _ : Int32 => m2) 0 [(0, pR 6 k1 0)] [] m2 (fJ_length k1 m2) := by
  unfold fJ_length
  refine sim_aload_n dJ0_length_8abf5_0 rfl ?_
  refine sim_sval dJ0_length_8abf5_1 gs_J0_9 ?_
  refine sim_sblen dJ0_length_8abf5_4 ?_
  refine sim_aload_n dJ0_length_8abf5_5 rfl ?_
  refine sim_callT (As := []) (rest := [pI (strLen k1)]) (k0 := k1) dJ0_length_8abf5_6 ln_J0_335 me_J0_coder_7d493 rfl rfl (by decide) (Nat.le_of_ble_eq_true rfl) (Nat.le_of_ble_eq_true rfl) rfl (sJ_coder X k1 m2) (fun x3 => ?_)
  refine sim_ishr dJ0_length_8abf5_9 ?_
  exact sim_iret dJ0_length_8abf5_10 rfl rfl

def fJ_isLatin1 (k1 : Nat) (m2 : Mem) : Option Int32 :=
  if (1 : Int32) = 0 then (some 0) else (if (0 : Int32) = 0 then (some 1) else (some 0))
abbrev rm_J_isLatin1 : Room := { frames := 0, cells := 0, slots := 0, locals := 0 }
set_option maxRecDepth 4000 in
theorem sJ_isLatin1 (X : Sc) (k1 : Nat) (m2 : Mem) : Sim X cJ0_isLatin1_aae02 1 (some .boolean) RJ0 rm_J_isLatin1 (fun r : Int32 => r) (fun _ : Int32 => m2) 0 [(0, pR 6 k1 0)] [] m2 (fJ_isLatin1 k1 m2) := by
  unfold fJ_isLatin1
  refine sim_compact dJ0_isLatin1_aae02_0 gs_J0_38 ?_
  refine sim_if_eq (tgt := 17) dJ0_isLatin1_aae02_3 (by decide) ?_ ?_
  · refine sim_iconst (v := 0) dJ0_isLatin1_aae02_17 (by decide) ?_
    exact sim_zret dJ0_isLatin1_aae02_18 rfl rfl rfl
  · refine sim_aload_n dJ0_isLatin1_aae02_6 rfl ?_
    refine sim_scod dJ0_isLatin1_aae02_7 gs_J0_15 ?_
    refine sim_if_ne (tgt := 17) dJ0_isLatin1_aae02_10 (by decide) ?_ ?_
    · refine sim_iconst (v := 1) dJ0_isLatin1_aae02_13 (by decide) ?_
      refine sim_goto (tgt := 18) dJ0_isLatin1_aae02_14 (by decide) ?_
      exact sim_zret dJ0_isLatin1_aae02_18 rfl rfl rfl
    · refine sim_iconst (v := 0) dJ0_isLatin1_aae02_17 (by decide) ?_
      exact sim_zret dJ0_isLatin1_aae02_18 rfl rfl rfl

def fJ_checkIndex (x1 : Int32) (x2 : Int32) (m3 : Mem) : Option Int32 :=
  gd (!(decide (x1 < 0)) && decide (x1 < x2)) (some 0)
abbrev rm_J_checkIndex : Room := { frames := 1, cells := 0, slots := 0, locals := 22 }
set_option maxRecDepth 4000 in
theorem sJ_checkIndex (X : Sc) (x1 : Int32) (x2 : Int32) (m3 : Mem) : Sim X cJ0_checkIndex_df160 2 none RJ0 rm_J_checkIndex (fun r : Int32 => r) (fun _ : Int32 => m3) 0 [(0, pI x1), (1, pI x2)] [] m3 (fJ_checkIndex x1 x2 m3) := by
  unfold fJ_checkIndex
  refine sim_iload_n dJ0_checkIndex_df160_0 rfl ?_
  refine sim_iload_n dJ0_checkIndex_df160_1 rfl ?_
  refine sim_chk dJ0_checkIndex_df160_2 dJ0_checkIndex_df160_5 (by decide) (Nat.le_of_ble_eq_true rfl) ?_
  refine sim_pop dJ0_checkIndex_df160_8 rfl ?_
  exact sim_ret dJ0_checkIndex_df160_9 rfl

def fK_charAt_6_1 (k1 : Nat) (x2 : Int32) (m3 : Mem) : Option Int32 :=
  Option.bind (fJ_checkIndex x2 (strLen k1) m3) (fun x4 => gd (inb x2 (strN.getD k1 0)) (gd (vp_nar .char ((((strCh k1 (ix x2)) &&& 255).toUInt32 % 65536).toInt32) == ((((strCh k1 (ix x2)) &&& 255).toUInt32 % 65536).toInt32)) (some ((((strCh k1 (ix x2)) &&& 255).toUInt32 % 65536).toInt32))))
abbrev rm_K_charAt_6_1 : Room := { frames := 2, cells := 0, slots := 0, locals := 43 }
set_option maxRecDepth 4000 in
theorem sK_charAt_6_1 (X : Sc) (k1 : Nat) (x2 : Int32) (m3 : Mem) : Sim X cJ1_charAt_3b067 2 (some .char) RJ1 rm_K_charAt_6_1 (fun r : Int32 => r) (fun _ : Int32 => m3) 0 [(0, pR 6 k1 1), (1, pI x2)] [] m3 (fK_charAt_6_1 k1 x2 m3) := by
  unfold fK_charAt_6_1
  refine sim_iload_n dJ1_charAt_3b067_0 rfl ?_
  refine sim_aload_n dJ1_charAt_3b067_1 rfl ?_
  refine sim_sblen dJ1_charAt_3b067_2 ?_
  refine sim_callS (As := [pI x2, pI (strLen k1)]) (rest := []) dJ1_charAt_3b067_3 ln_J1_9 me_J0_checkIndex_df160 rfl (by decide) (Nat.le_of_ble_eq_true rfl) (Nat.le_of_ble_eq_true rfl) rfl (sJ_checkIndex X x2 (strLen k1) m3) (fun x4 => ?_)
  refine sim_aload_n dJ1_charAt_3b067_6 rfl ?_
  refine sim_iload_n dJ1_charAt_3b067_7 rfl ?_
  refine sim_sbld dJ1_charAt_3b067_8 ?_
  refine sim_sipush (v := 255) dJ1_charAt_3b067_9 (by decide) ?_
  refine sim_iand dJ1_charAt_3b067_12 ?_
  refine sim_i2c dJ1_charAt_3b067_13 ?_
  exact sim_cretg dJ1_charAt_3b067_14 rfl rfl

def fJ_charAt (k1 : Nat) (x2 : Int32) (m3 : Mem) : Option Int32 :=
  Option.bind (fJ_isLatin1 k1 m3) (fun x4 => if x4 = 0 then none else (Option.bind (fK_charAt_6_1 k1 x2 m3) (fun x5 => gd (vp_nar .char x5 == x5) (some x5))))
abbrev rm_J_charAt : Room := { frames := 3, cells := 0, slots := 0, locals := 64 }
set_option maxRecDepth 4000 in
theorem sJ_charAt (X : Sc) (k1 : Nat) (x2 : Int32) (m3 : Mem) : Sim X cJ0_charAt_5068e 2 (some .char) RJ0 rm_J_charAt (fun r : Int32 => r) (fun _ : Int32 => m3) 0 [(0, pR 6 k1 0), (1, pI x2)] [] m3 (fJ_charAt k1 x2 m3) := by
  unfold fJ_charAt
  refine sim_aload_n dJ0_charAt_5068e_0 rfl ?_
  refine sim_callT (As := []) (rest := []) (k0 := k1) dJ0_charAt_5068e_1 ln_J0_492 me_J0_isLatin1_aae02 rfl rfl (by decide) (Nat.le_of_ble_eq_true rfl) (Nat.le_of_ble_eq_true rfl) rfl (sJ_isLatin1 X k1 m3) (fun x4 => ?_)
  refine sim_if_eq (tgt := 16) dJ0_charAt_5068e_4 (by decide) ?_ ?_
  · refine sim_aload_n dJ0_charAt_5068e_16 rfl ?_
    refine sim_sval dJ0_charAt_5068e_17 gs_J0_9 ?_
    refine sim_iload_n dJ0_charAt_5068e_20 rfl ?_
    exact sim_none
  · refine sim_aload_n dJ0_charAt_5068e_7 rfl ?_
    refine sim_sval dJ0_charAt_5068e_8 gs_J0_9 ?_
    refine sim_iload_n dJ0_charAt_5068e_11 rfl ?_
    refine sim_callS (As := [pR 6 k1 1, pI x2]) (rest := []) dJ0_charAt_5068e_12 ln_J0_495 me_J1_charAt_3b067 rfl (by decide) (Nat.le_of_ble_eq_true rfl) (Nat.le_of_ble_eq_true rfl) rfl (sK_charAt_6_1 X k1 x2 m3) (fun x5 => ?_)
    exact sim_cretg dJ0_charAt_5068e_15 rfl rfl

def bJ_fill_3_2_5 (k1 : Nat) (x2 : Int32) (x5 : Int32) (s8 : Int32 → Mem → Option Mem) (x6 : Int32) (m7 : Mem) : Option Mem :=
  if x5 ≤ x6 then (some m7) else (gd (inb x6 40) (lt (wr m7 (3, k1, 2) (ix x6) x2) (fun m10 => lt (x6 + 1) (fun (x11 : Int32) => s8 x11 m10))))
def fJ_fill_3_2 (k1 : Nat) (x2 : Int32) (m3 : Mem) : Option Mem :=
  lt 0 (fun (x4 : Int32) => lt 40 (fun (x5 : Int32) => lz11 (bJ_fill_3_2_5 k1 x2 x5) FU x4 m3))
abbrev rm_J_fill_3_2 : Room := { frames := 0, cells := 0, slots := 0, locals := 0 }
set_option maxRecDepth 4000 in
theorem sJ_fill_3_2 (X : Sc) (k1 : Nat) (x2 : Int32) (m3 : Mem) : Sim X cJ7_fill_53178 4 none RJ7 rm_J_fill_3_2 (fun _ : Mem => 0) (fun m : Mem => m) 0 [(0, pR 3 k1 2), (1, pI x2)] [] m3 (fJ_fill_3_2 k1 x2 m3) := by
  unfold fJ_fill_3_2
  refine sim_iconst (v := 0) dJ7_fill_53178_0 (by decide) ?_
  refine sim_istore_n (fun z => [(0, pR 3 k1 2), (1, pI x2), (2, pI z)]) [1, 2, 0] dJ7_fill_53178_1 (by decide) (fun _ => rfl) (fun x4 => ?_)
  refine sim_aload_n dJ7_fill_53178_2 rfl ?_
  refine sim_alen (v := 40) dJ7_fill_53178_3 rfl (by decide) (by decide) (by decide) ?_
  refine sim_istore_n (fun z => [(0, pR 3 k1 2), (1, pI x2), (2, pI x4), (3, pI z)]) [1, 2, 3, 0] dJ7_fill_53178_4 (by decide) (fun _ => rfl) (fun x5 => ?_)
  refine sim_lz11 (fun z0 => [(0, pR 3 k1 2), (1, pI x2), (2, pI z0), (3, pI x5)]) (fun s8 hs9 x6 m7 => ?_) FU x4 m3
  unfold bJ_fill_3_2_5
  refine sim_iload_n dJ7_fill_53178_5 rfl ?_
  refine sim_iload_n dJ7_fill_53178_6 rfl ?_
  refine sim_icmp_ge (tgt := 20) dJ7_fill_53178_7 (by decide) ?_ ?_
  · exact sim_ret dJ7_fill_53178_20 rfl
  · refine sim_aload_n dJ7_fill_53178_10 rfl ?_
    refine sim_iload_n dJ7_fill_53178_11 rfl ?_
    refine sim_iload_n dJ7_fill_53178_12 rfl ?_
    refine sim_iast dJ7_fill_53178_13 rfl (by decide) (fun m10 => ?_)
    refine sim_iinc (y := 1) (fun z => [(0, pR 3 k1 2), (1, pI x2), (2, pI z), (3, pI x5)]) [1, 2, 0, 3] dJ7_fill_53178_14 rfl (by decide) (by decide) (fun _ => rfl) (fun x11 => ?_)
    refine sim_goto (tgt := 5) dJ7_fill_53178_17 (by decide) ?_
    exact hs9 x11 m10
