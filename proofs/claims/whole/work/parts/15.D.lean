def fD_feed (x1 : Int32) (m2 : Mem) : Option (Int32 × Mem) :=
  if x1 < 0 then (some ((-1), m2)) else (if x1 ≤ 127 then (if (m2 (2, 0, 0) 1) < 160 then (gd (inb (m2 (2, 0, 0) 1) 160) (lt (wr m2 (2, 0, 1) (ix (m2 (2, 0, 0) 1)) (vp_nar .byte x1.toInt8.toInt32)) (fun m3 => lt (wr m3 (2, 0, 0) 1 ((m3 (2, 0, 0) 1) + 1)) (fun m4 => some (m4 (2, 0, 0) 1, m4))))) else (some ((-3), m2))) else (some ((-1), m2)))
abbrev rm_D_feed : Room := { frames := 0, cells := 0, slots := 0, locals := 0 }
set_option maxRecDepth 4000 in
theorem sD_feed (X : Sc) (x1 : Int32) (m2 : Mem) : Sim X cX4_feed 2 (some .int) RX4 rm_D_feed (fun q : Int32 × Mem => q.1) (fun q : Int32 × Mem => q.2) 0 [(0, pR 4 0 0), (1, pI x1)] [] m2 (fD_feed x1 m2) := by
  unfold fD_feed
  refine sim_iload_n dX4_feed_0 rfl ?_
  refine sim_if_lt (tgt := 10) dX4_feed_1 (by decide) ?_ ?_
  · refine sim_iconst (v := (-1)) dX4_feed_10 (by decide) ?_
    exact sim_iret dX4_feed_11 rfl rfl
  · refine sim_iload_n dX4_feed_4 rfl ?_
    refine sim_bipush (v := 127) dX4_feed_5 (by decide) ?_
    refine sim_icmp_le (tgt := 12) dX4_feed_7 (by decide) ?_ ?_
    · refine sim_aload_n dX4_feed_12 rfl ?_
      refine sim_get (v := pR 2 0 0) dX4_feed_13 fl_X4_43 (by decide) rfl ?_
      refine sim_get (v := pI (m2 (2, 0, 0) 1)) dX4_feed_16 fl_X4_48 (by decide) rfl ?_
      refine sim_sipush (v := 160) dX4_feed_19 (by decide) ?_
      refine sim_icmp_lt (tgt := 28) dX4_feed_22 (by decide) ?_ ?_
      · refine sim_aload_n dX4_feed_28 rfl ?_
        refine sim_get (v := pR 2 0 0) dX4_feed_29 fl_X4_43 (by decide) rfl ?_
        refine sim_get (v := pR 2 0 1) dX4_feed_32 fl_X4_52 (by decide) rfl ?_
        refine sim_aload_n dX4_feed_35 rfl ?_
        refine sim_get (v := pR 2 0 0) dX4_feed_36 fl_X4_43 (by decide) rfl ?_
        refine sim_get (v := pI (m2 (2, 0, 0) 1)) dX4_feed_39 fl_X4_48 (by decide) rfl ?_
        refine sim_iload_n dX4_feed_42 rfl ?_
        refine sim_i2b dX4_feed_43 ?_
        refine sim_bast dX4_feed_44 rfl (by decide) (fun m3 => ?_)
        refine sim_aload_n dX4_feed_45 rfl ?_
        refine sim_get (v := pR 2 0 0) dX4_feed_46 fl_X4_43 (by decide) rfl ?_
        refine sim_dup dX4_feed_49 rfl ?_
        refine sim_get (v := pI (m3 (2, 0, 0) 1)) dX4_feed_50 fl_X4_48 (by decide) rfl ?_
        refine sim_iconst (v := 1) dX4_feed_53 (by decide) ?_
        refine sim_iadd dX4_feed_54 ?_
        refine sim_put dX4_feed_55 fl_X4_48 fp_2_1 rfl rfl (fun m4 => ?_)
        refine sim_aload_n dX4_feed_58 rfl ?_
        refine sim_get (v := pR 2 0 0) dX4_feed_59 fl_X4_43 (by decide) rfl ?_
        refine sim_get (v := pI (m4 (2, 0, 0) 1)) dX4_feed_62 fl_X4_48 (by decide) rfl ?_
        exact sim_iret dX4_feed_65 rfl rfl
      · refine sim_bipush (v := (-3)) dX4_feed_25 (by decide) ?_
        exact sim_iret dX4_feed_27 rfl rfl
    · refine sim_iconst (v := (-1)) dX4_feed_10 (by decide) ?_
      exact sim_iret dX4_feed_11 rfl rfl

def fD_end (x1 : Int32) (m2 : Mem) : Option (Int32 × Mem) :=
  if x1 < 0 then (some ((-1), m2)) else (if x1 ≤ (m2 (2, 0, 0) 1) then (lt (m2 (2, 0, 0) 1) (fun (x3 : Int32) => lt (wr m2 (2, 0, 0) 1 x1) (fun m4 => some (x3, m4)))) else (some ((-1), m2)))
abbrev rm_D_end : Room := { frames := 0, cells := 0, slots := 0, locals := 0 }
set_option maxRecDepth 4000 in
theorem sD_end (X : Sc) (x1 : Int32) (m2 : Mem) : Sim X cX4_end 3 (some .int) RX4 rm_D_end (fun q : Int32 × Mem => q.1) (fun q : Int32 × Mem => q.2) 0 [(0, pR 4 0 0), (1, pI x1)] [] m2 (fD_end x1 m2) := by
  unfold fD_end
  refine sim_iload_n dX4_end_0 rfl ?_
  refine sim_if_lt (tgt := 15) dX4_end_1 (by decide) ?_ ?_
  · refine sim_iconst (v := (-1)) dX4_end_15 (by decide) ?_
    exact sim_iret dX4_end_16 rfl rfl
  · refine sim_iload_n dX4_end_4 rfl ?_
    refine sim_aload_n dX4_end_5 rfl ?_
    refine sim_get (v := pR 2 0 0) dX4_end_6 fl_X4_43 (by decide) rfl ?_
    refine sim_get (v := pI (m2 (2, 0, 0) 1)) dX4_end_9 fl_X4_48 (by decide) rfl ?_
    refine sim_icmp_le (tgt := 17) dX4_end_12 (by decide) ?_ ?_
    · refine sim_aload_n dX4_end_17 rfl ?_
      refine sim_get (v := pR 2 0 0) dX4_end_18 fl_X4_43 (by decide) rfl ?_
      refine sim_get (v := pI (m2 (2, 0, 0) 1)) dX4_end_21 fl_X4_48 (by decide) rfl ?_
      refine sim_istore_n (fun z => [(0, pR 4 0 0), (1, pI x1), (2, pI z)]) [1, 2, 0] dX4_end_24 (by decide) (fun _ => rfl) (fun x3 => ?_)
      refine sim_aload_n dX4_end_25 rfl ?_
      refine sim_get (v := pR 2 0 0) dX4_end_26 fl_X4_43 (by decide) rfl ?_
      refine sim_iload_n dX4_end_29 rfl ?_
      refine sim_put dX4_end_30 fl_X4_48 fp_2_1 rfl rfl (fun m4 => ?_)
      refine sim_iload_n dX4_end_33 rfl ?_
      exact sim_iret dX4_end_34 rfl rfl
    · refine sim_iconst (v := (-1)) dX4_end_15 (by decide) ?_
      exact sim_iret dX4_end_16 rfl rfl

def fD_faultBehindAll (k1 : Nat) (m2 : Mem) : Option (Int32 × Mem) :=
  Option.bind (fL_hasAllToldPlaces k1 m2) (fun x3 => if x3 = 0 then (some (6, m2)) else (Option.bind (fP_forget m2) (fun m4 => Option.bind (fP_learn k1 m4) (fun m5 => Option.bind (fP_holdsAll k1 m5) (fun q6 => if q6.1 = 0 then (some (7, q6.2)) else (Option.bind (fP_isSafe q6.2) (fun x7 => if x7 = 0 then (some (8, q6.2)) else (some (0, q6.2)))))))))
abbrev rm_D_faultBehindAll : Room := { frames := 5, cells := 0, slots := 0, locals := 119 }
set_option maxRecDepth 4000 in
theorem sD_faultBehindAll (X : Sc) (k1 : Nat) (m2 : Mem) : Sim X cX4_faultBehindAll 2 (some .int) RX4 rm_D_faultBehindAll (fun q : Int32 × Mem => q.1) (fun q : Int32 × Mem => q.2) 0 [(0, pR 4 0 0), (1, pR 0 k1 0)] [] m2 (fD_faultBehindAll k1 m2) := by
  unfold fD_faultBehindAll
  refine sim_aload_n dX4_faultBehindAll_0 rfl ?_
  refine sim_callV (As := []) (rest := []) (k0 := k1) dX4_faultBehindAll_1 ln_X4_260 me_X0_hasAllToldPlaces rfl (by decide) rfl (by decide) (Nat.le_of_ble_eq_true rfl) (Nat.le_of_ble_eq_true rfl) rfl (sL_hasAllToldPlaces X k1 m2) (fun x3 => ?_)
  refine sim_if_ne (tgt := 10) dX4_faultBehindAll_4 (by decide) ?_ ?_
  · refine sim_bipush (v := 6) dX4_faultBehindAll_7 (by decide) ?_
    exact sim_iret dX4_faultBehindAll_9 rfl rfl
  · refine sim_aload_n dX4_faultBehindAll_10 rfl ?_
    refine sim_get (v := pR 1 0 0) dX4_faultBehindAll_11 fl_X4_36 (by decide) rfl ?_
    refine sim_callV (As := []) (rest := []) (k0 := 0) dX4_faultBehindAll_14 ln_X4_70 me_X1_forget rfl (by decide) rfl (by decide) (Nat.le_of_ble_eq_true rfl) (Nat.le_of_ble_eq_true rfl) rfl (sP_forget X m2) (fun m4 => ?_)
    refine sim_aload_n dX4_faultBehindAll_17 rfl ?_
    refine sim_get (v := pR 1 0 0) dX4_faultBehindAll_18 fl_X4_36 (by decide) rfl ?_
    refine sim_aload_n dX4_faultBehindAll_21 rfl ?_
    refine sim_callV (As := [pR 0 k1 0]) (rest := []) (k0 := 0) dX4_faultBehindAll_22 ln_X4_151 me_X1_learn rfl (by decide) rfl (by decide) (Nat.le_of_ble_eq_true rfl) (Nat.le_of_ble_eq_true rfl) rfl (sP_learn X k1 m4) (fun m5 => ?_)
    refine sim_aload_n dX4_faultBehindAll_25 rfl ?_
    refine sim_get (v := pR 1 0 0) dX4_faultBehindAll_26 fl_X4_36 (by decide) rfl ?_
    refine sim_aload_n dX4_faultBehindAll_29 rfl ?_
    refine sim_callV (As := [pR 0 k1 0]) (rest := []) (k0 := 0) dX4_faultBehindAll_30 ln_X4_212 me_X1_holdsAll rfl (by decide) rfl (by decide) (Nat.le_of_ble_eq_true rfl) (Nat.le_of_ble_eq_true rfl) rfl (sP_holdsAll X k1 m5) (fun q6 => ?_)
    refine sim_if_ne (tgt := 39) dX4_faultBehindAll_33 (by decide) ?_ ?_
    · refine sim_bipush (v := 7) dX4_faultBehindAll_36 (by decide) ?_
      exact sim_iret dX4_faultBehindAll_38 rfl rfl
    · refine sim_aload_n dX4_faultBehindAll_39 rfl ?_
      refine sim_get (v := pR 1 0 0) dX4_faultBehindAll_40 fl_X4_36 (by decide) rfl ?_
      refine sim_callV (As := []) (rest := []) (k0 := 0) dX4_faultBehindAll_43 ln_X4_216 me_X1_isSafe rfl (by decide) rfl (by decide) (Nat.le_of_ble_eq_true rfl) (Nat.le_of_ble_eq_true rfl) rfl (sP_isSafe X q6.2) (fun x7 => ?_)
      refine sim_if_eq (tgt := 53) dX4_faultBehindAll_46 (by decide) ?_ ?_
      · refine sim_bipush (v := 8) dX4_faultBehindAll_53 (by decide) ?_
        exact sim_iret dX4_faultBehindAll_55 rfl rfl
      · refine sim_iconst (v := 0) dX4_faultBehindAll_49 (by decide) ?_
        refine sim_goto (tgt := 55) dX4_faultBehindAll_50 (by decide) ?_
        exact sim_iret dX4_faultBehindAll_55 rfl rfl

def bD_text_86 (x3 : Int32) (s11 : Int32 → Mem → Option (Int32 × Mem)) (x9 : Int32) (m10 : Mem) : Option (Int32 × Mem) :=
  if 2 ≤ x9 then (some (x3, m10)) else (gd (inb x9 2) (lt (wr m10 (4, 0, 4) (ix x9) (vp_nar .boolean 0)) (fun m13 => lt (x9 + 1) (fun (x14 : Int32) => s11 x14 m13))))
def jD_text_37 (x3 : Int32) (m4 : Mem) : Option (Int32 × Mem) :=
  Option.bind (fP_forget m4) (fun m5 => lt (wr m5 (2, 0, 0) 1 0) (fun m6 => if (m6 (2, 0, 0) 2) = 0 then (Option.bind (fL_copyFrom 0 1 m6) (fun m7 => lt 0 (fun (x8 : Int32) => lz11 (bD_text_86 x3) FU x8 m7))) else (some ((-10) - (m6 (2, 0, 0) 3), m6))))
def fD_text (m1 : Mem) : Option (Int32 × Mem) :=
  Option.bind (fR_readInto 1 m1) (fun q2 => lt q2.1 (fun (x3 : Int32) => if (q2.2 (2, 0, 0) 2) = 0 then (Option.bind (fD_faultBehindAll 1 q2.2) (fun q16 => Option.bind (fR_failBehindAll q16.1 q16.2) (fun m17 => jD_text_37 x3 m17))) else (jD_text_37 x3 q2.2)))
abbrev rm_D_text : Room := { frames := 7, cells := 0, slots := 0, locals := 151 }
set_option maxRecDepth 4000 in
theorem sD_text (X : Sc) (m1 : Mem) : Sim X cX4_text 3 (some .int) RX4 rm_D_text (fun q : Int32 × Mem => q.1) (fun q : Int32 × Mem => q.2) 0 [(0, pR 4 0 0)] [] m1 (fD_text m1) := by
  unfold fD_text
  refine sim_aload_n dX4_text_0 rfl ?_
  refine sim_get (v := pR 2 0 0) dX4_text_1 fl_X4_43 (by decide) rfl ?_
  refine sim_aload_n dX4_text_4 rfl ?_
  refine sim_get (v := pR 0 1 0) dX4_text_5 fl_X4_16 (by decide) rfl ?_
  refine sim_callV (As := [pR 0 1 0]) (rest := []) (k0 := 0) dX4_text_8 ln_X4_56 me_X2_readInto rfl (by decide) rfl (by decide) (Nat.le_of_ble_eq_true rfl) (Nat.le_of_ble_eq_true rfl) rfl (sR_readInto X 1 m1) (fun q2 => ?_)
  refine sim_istore_n (fun z => [(0, pR 4 0 0), (1, pI z)]) [1, 0] dX4_text_11 (by decide) (fun _ => rfl) (fun x3 => ?_)
  refine sim_aload_n dX4_text_12 rfl ?_
  refine sim_get (v := pR 2 0 0) dX4_text_13 fl_X4_43 (by decide) rfl ?_
  refine sim_get (v := pI (q2.2 (2, 0, 0) 2)) dX4_text_16 fl_X4_60 (by decide) rfl ?_
  have hJ15 : ∀ (m4 : Mem), Sim X cX4_text 3 (some .int) RX4 rm_D_text (fun q : Int32 × Mem => q.1) (fun q : Int32 × Mem => q.2) 37 [(0, pR 4 0 0), (1, pI x3)] [] m4 (jD_text_37 x3 m4) := by
    intro m4
    unfold jD_text_37
    refine sim_aload_n dX4_text_37 rfl ?_
    refine sim_get (v := pR 1 0 0) dX4_text_38 fl_X4_36 (by decide) rfl ?_
    refine sim_callV (As := []) (rest := []) (k0 := 0) dX4_text_41 ln_X4_70 me_X1_forget rfl (by decide) rfl (by decide) (Nat.le_of_ble_eq_true rfl) (Nat.le_of_ble_eq_true rfl) rfl (sP_forget X m4) (fun m5 => ?_)
    refine sim_aload_n dX4_text_44 rfl ?_
    refine sim_get (v := pR 2 0 0) dX4_text_45 fl_X4_43 (by decide) rfl ?_
    refine sim_iconst (v := 0) dX4_text_48 (by decide) ?_
    refine sim_put dX4_text_49 fl_X4_48 fp_2_1 rfl rfl (fun m6 => ?_)
    refine sim_aload_n dX4_text_52 rfl ?_
    refine sim_get (v := pR 2 0 0) dX4_text_53 fl_X4_43 (by decide) rfl ?_
    refine sim_get (v := pI (m6 (2, 0, 0) 2)) dX4_text_56 fl_X4_60 (by decide) rfl ?_
    refine sim_if_eq (tgt := 73) dX4_text_59 (by decide) ?_ ?_
    · refine sim_aload_n dX4_text_73 rfl ?_
      refine sim_get (v := pR 0 0 0) dX4_text_74 fl_X4_10 (by decide) rfl ?_
      refine sim_aload_n dX4_text_77 rfl ?_
      refine sim_get (v := pR 0 1 0) dX4_text_78 fl_X4_16 (by decide) rfl ?_
      refine sim_callV (As := [pR 0 1 0]) (rest := []) (k0 := 0) dX4_text_81 ln_X4_76 me_X0_copyFrom rfl (by decide) rfl (by decide) (Nat.le_of_ble_eq_true rfl) (Nat.le_of_ble_eq_true rfl) rfl (sL_copyFrom X 0 1 m6) (fun m7 => ?_)
      refine sim_iconst (v := 0) dX4_text_84 (by decide) ?_
      refine sim_istore_n (fun z => [(0, pR 4 0 0), (1, pI x3), (2, pI z)]) [1, 2, 0] dX4_text_85 (by decide) (fun _ => rfl) (fun x8 => ?_)
      refine sim_lz11 (fun z0 => [(0, pR 4 0 0), (1, pI x3), (2, pI z0)]) (fun s11 hs12 x9 m10 => ?_) FU x8 m7
      unfold bD_text_86
      refine sim_iload_n dX4_text_86 rfl ?_
      refine sim_iconst (v := 2) dX4_text_87 (by decide) ?_
      refine sim_icmp_ge (tgt := 104) dX4_text_88 (by decide) ?_ ?_
      · refine sim_iload_n dX4_text_104 rfl ?_
        exact sim_iret dX4_text_105 rfl rfl
      · refine sim_aload_n dX4_text_91 rfl ?_
        refine sim_get (v := pR 4 0 4) dX4_text_92 fl_X4_23 (by decide) rfl ?_
        refine sim_iload_n dX4_text_95 rfl ?_
        refine sim_iconst (v := 0) dX4_text_96 (by decide) ?_
        refine sim_zast dX4_text_97 rfl (by decide) (fun m13 => ?_)
        refine sim_iinc (y := 1) (fun z => [(0, pR 4 0 0), (1, pI x3), (2, pI z)]) [1, 2, 0] dX4_text_98 rfl (by decide) (by decide) (fun _ => rfl) (fun x14 => ?_)
        refine sim_goto (tgt := 86) dX4_text_101 (by decide) ?_
        exact hs12 x14 m13
    · refine sim_bipush (v := (-10)) dX4_text_62 (by decide) ?_
      refine sim_aload_n dX4_text_64 rfl ?_
      refine sim_get (v := pR 2 0 0) dX4_text_65 fl_X4_43 (by decide) rfl ?_
      refine sim_get (v := pI (m6 (2, 0, 0) 3)) dX4_text_68 fl_X4_73 (by decide) rfl ?_
      refine sim_isub dX4_text_71 ?_
      exact sim_iret dX4_text_72 rfl rfl
  refine sim_if_ne (tgt := 37) dX4_text_19 (by decide) ?_ ?_
  · refine sim_aload_n dX4_text_22 rfl ?_
    refine sim_get (v := pR 2 0 0) dX4_text_23 fl_X4_43 (by decide) rfl ?_
    refine sim_aload_n dX4_text_26 rfl ?_
    refine sim_aload_n dX4_text_27 rfl ?_
    refine sim_get (v := pR 0 1 0) dX4_text_28 fl_X4_16 (by decide) rfl ?_
    refine sim_callV (As := [pR 0 1 0]) (rest := [pR 2 0 0]) (k0 := 0) dX4_text_31 ln_X4_63 me_X4_faultBehindAll rfl (by decide) rfl (by decide) (Nat.le_of_ble_eq_true rfl) (Nat.le_of_ble_eq_true rfl) rfl (sD_faultBehindAll X 1 q2.2) (fun q16 => ?_)
    refine sim_callV (As := [pI q16.1]) (rest := []) (k0 := 0) dX4_text_34 ln_X4_66 me_X2_failBehindAll rfl (by decide) rfl (by decide) (Nat.le_of_ble_eq_true rfl) (Nat.le_of_ble_eq_true rfl) rfl (sR_failBehindAll X q16.1 q16.2) (fun m17 => ?_)
    exact hJ15 m17
  · exact hJ15 q2.2

def fD_fault (m1 : Mem) : Option Int32 :=
  some (m1 (2, 0, 0) 2)
abbrev rm_D_fault : Room := { frames := 0, cells := 0, slots := 0, locals := 0 }
set_option maxRecDepth 4000 in
theorem sD_fault (X : Sc) (m1 : Mem) : Sim X cX4_fault 1 (some .int) RX4 rm_D_fault (fun r : Int32 => r) (fun _ : Int32 => m1) 0 [(0, pR 4 0 0)] [] m1 (fD_fault m1) := by
  unfold fD_fault
  refine sim_aload_n dX4_fault_0 rfl ?_
  refine sim_get (v := pR 2 0 0) dX4_fault_1 fl_X4_43 (by decide) rfl ?_
  refine sim_get (v := pI (m1 (2, 0, 0) 2)) dX4_fault_4 fl_X4_60 (by decide) rfl ?_
  exact sim_iret dX4_fault_7 rfl rfl

def jD_isPlain_52 (m2 : Mem) (x5 : Int32) (x6 : Int32) : Option (Int32 × Mem) :=
  Option.bind (fP_goOneByOne 0 m2) (fun q7 => if q7.1 = x5 then (some (1, q7.2)) else (some (0, q7.2)))
def bD_isPlain_15 (m2 : Mem) (s11 : Int32 → Int32 → Option (Int32 × Mem)) (x9 : Int32) (x10 : Int32) : Option (Int32 × Mem) :=
  if (m2 (0, 0, 0) 4) ≤ x10 then (jD_isPlain_52 m2 x9 x10) else (gd (inb x10 4) (lt (if (m2 (0, 0, 9) (ix x10)) ≤ 0 then 0 else 1) (fun (x13 : Int32) => lt (x9 + x13) (fun (x14 : Int32) => lt (x10 + 1) (fun (x15 : Int32) => s11 x14 x15)))))
def fD_isPlain (m1 : Mem) : Option (Int32 × Mem) :=
  Option.bind (fP_learnRooms 0 m1) (fun m2 => lt 0 (fun (x3 : Int32) => lt 0 (fun (x4 : Int32) => lz20 (bD_isPlain_15 m2) FU x3 x4)))
abbrev rm_D_isPlain : Room := { frames := 5, cells := 0, slots := 0, locals := 115 }
set_option maxRecDepth 4000 in
theorem sD_isPlain (X : Sc) (m1 : Mem) : Sim X cX4_isPlain 3 (some .boolean) RX4 rm_D_isPlain (fun q : Int32 × Mem => q.1) (fun q : Int32 × Mem => q.2) 0 [(0, pR 4 0 0)] [] m1 (fD_isPlain m1) := by
  unfold fD_isPlain
  refine sim_aload_n dX4_isPlain_0 rfl ?_
  refine sim_get (v := pR 1 0 0) dX4_isPlain_1 fl_X4_36 (by decide) rfl ?_
  refine sim_aload_n dX4_isPlain_4 rfl ?_
  refine sim_get (v := pR 0 0 0) dX4_isPlain_5 fl_X4_10 (by decide) rfl ?_
  refine sim_callV (As := [pR 0 0 0]) (rest := []) (k0 := 0) dX4_isPlain_8 ln_X4_170 me_X1_learnRooms rfl (by decide) rfl (by decide) (Nat.le_of_ble_eq_true rfl) (Nat.le_of_ble_eq_true rfl) rfl (sP_learnRooms X 0 m1) (fun m2 => ?_)
  refine sim_iconst (v := 0) dX4_isPlain_11 (by decide) ?_
  refine sim_istore_n (fun z => [(0, pR 4 0 0), (1, pI z)]) [1, 0] dX4_isPlain_12 (by decide) (fun _ => rfl) (fun x3 => ?_)
  refine sim_iconst (v := 0) dX4_isPlain_13 (by decide) ?_
  refine sim_istore_n (fun z => [(0, pR 4 0 0), (1, pI x3), (2, pI z)]) [1, 2, 0] dX4_isPlain_14 (by decide) (fun _ => rfl) (fun x4 => ?_)
  have hJ8 : ∀ (x5 : Int32) (x6 : Int32), Sim X cX4_isPlain 3 (some .boolean) RX4 rm_D_isPlain (fun q : Int32 × Mem => q.1) (fun q : Int32 × Mem => q.2) 52 [(0, pR 4 0 0), (1, pI x5), (2, pI x6)] [] m2 (jD_isPlain_52 m2 x5 x6) := by
    intro x5 x6
    unfold jD_isPlain_52
    refine sim_aload_n dX4_isPlain_52 rfl ?_
    refine sim_get (v := pR 1 0 0) dX4_isPlain_53 fl_X4_36 (by decide) rfl ?_
    refine sim_aload_n dX4_isPlain_56 rfl ?_
    refine sim_get (v := pR 0 0 0) dX4_isPlain_57 fl_X4_10 (by decide) rfl ?_
    refine sim_callV (As := [pR 0 0 0]) (rest := []) (k0 := 0) dX4_isPlain_60 ln_X4_173 me_X1_goOneByOne rfl (by decide) rfl (by decide) (Nat.le_of_ble_eq_true rfl) (Nat.le_of_ble_eq_true rfl) rfl (sP_goOneByOne X 0 m2) (fun q7 => ?_)
    refine sim_iload_n dX4_isPlain_63 rfl ?_
    refine sim_icmp_ne (tgt := 71) dX4_isPlain_64 (by decide) ?_ ?_
    · refine sim_iconst (v := 1) dX4_isPlain_67 (by decide) ?_
      refine sim_goto (tgt := 72) dX4_isPlain_68 (by decide) ?_
      exact sim_zret dX4_isPlain_72 rfl rfl rfl
    · refine sim_iconst (v := 0) dX4_isPlain_71 (by decide) ?_
      exact sim_zret dX4_isPlain_72 rfl rfl rfl
  refine sim_lz20 (fun z0 z1 => [(0, pR 4 0 0), (1, pI z0), (2, pI z1)]) (fun s11 hs12 x9 x10 => ?_) FU x3 x4
  unfold bD_isPlain_15
  refine sim_iload_n dX4_isPlain_15 rfl ?_
  refine sim_aload_n dX4_isPlain_16 rfl ?_
  refine sim_get (v := pR 0 0 0) dX4_isPlain_17 fl_X4_10 (by decide) rfl ?_
  refine sim_get (v := pI (m2 (0, 0, 0) 4)) dX4_isPlain_20 fl_X4_83 (by decide) rfl ?_
  refine sim_icmp_ge (tgt := 52) dX4_isPlain_23 (by decide) ?_ ?_
  · exact hJ8 x9 x10
  · refine sim_iload_n dX4_isPlain_26 rfl ?_
    refine sim_aload_n dX4_isPlain_27 rfl ?_
    refine sim_get (v := pR 0 0 0) dX4_isPlain_28 fl_X4_10 (by decide) rfl ?_
    refine sim_get (v := pR 0 0 9) dX4_isPlain_31 fl_X4_135 (by decide) rfl ?_
    refine sim_iload_n dX4_isPlain_34 rfl ?_
    refine sim_iald dX4_isPlain_35 rfl (by decide) ?_
    refine sim_jv 44 [(0, pR 4 0 0), (1, pI x9), (2, pI x10)] [pI x9] (fun x13 => ?_) (fun hV16 => ?_)
    · refine sim_iadd dX4_isPlain_44 ?_
      refine sim_istore_n (fun z => [(0, pR 4 0 0), (1, pI z), (2, pI x10)]) [1, 0, 2] dX4_isPlain_45 (by decide) (fun _ => rfl) (fun x14 => ?_)
      refine sim_iinc (y := 1) (fun z => [(0, pR 4 0 0), (1, pI x14), (2, pI z)]) [1, 2, 0] dX4_isPlain_46 rfl (by decide) (by decide) (fun _ => rfl) (fun x15 => ?_)
      refine sim_goto (tgt := 15) dX4_isPlain_49 (by decide) ?_
      exact hs12 x14 x15
    · refine sim_eq (lt_ite _ _ _ _) ?_
      refine sim_if_le (tgt := 43) dX4_isPlain_36 (by decide) ?_ ?_
      · refine sim_iconst (v := 0) dX4_isPlain_43 (by decide) ?_
        exact hV16 _
      · refine sim_iconst (v := 1) dX4_isPlain_39 (by decide) ?_
        refine sim_goto (tgt := 44) dX4_isPlain_40 (by decide) ?_
        exact hV16 _

def fD_against (k1 : Nat) (x2 : Int32) (m3 : Mem) : Option Int32 :=
  gd (inb x2 4) (if (m3 (0, k1, 10) (ix x2)) = 0 then (gd (inb x2 4) (Option.bind (fL_sectionAhead k1 x2 (m3 (0, k1, 9) (ix x2)) m3) (fun x4 => Option.bind (fL_runnerIn k1 x4 m3) (fun x5 => if x5 < 0 then (Option.bind (fP_canStep k1 x2 m3) (fun x6 => if x6 = 0 then (some 4) else (Option.bind (fP_isSafeBehind x2 m3) (fun x7 => if x7 = 0 then (some 5) else (some 0))))) else (some 3))))) else (gd (inb x2 4) (if (m3 (0, k1, 10) (ix x2)) = 2 then (some 1) else (some 2))))
abbrev rm_D_against : Room := { frames := 3, cells := 0, slots := 0, locals := 62 }
set_option maxRecDepth 4000 in
theorem sD_against (X : Sc) (k1 : Nat) (x2 : Int32) (m3 : Mem) : Sim X cX4_against 3 (some .int) RX4 rm_D_against (fun r : Int32 => r) (fun _ : Int32 => m3) 0 [(0, pR 4 0 0), (1, pR 0 k1 0), (2, pI x2)] [] m3 (fD_against k1 x2 m3) := by
  unfold fD_against
  refine sim_aload_n dX4_against_0 rfl ?_
  refine sim_get (v := pR 0 k1 10) dX4_against_1 fl_X4_142 (by decide) rfl ?_
  refine sim_iload_n dX4_against_4 rfl ?_
  refine sim_iald dX4_against_5 rfl (by decide) ?_
  refine sim_if_eq (tgt := 25) dX4_against_6 (by decide) ?_ ?_
  · refine sim_aload_n dX4_against_25 rfl ?_
    refine sim_aload_n dX4_against_26 rfl ?_
    refine sim_iload_n dX4_against_27 rfl ?_
    refine sim_aload_n dX4_against_28 rfl ?_
    refine sim_get (v := pR 0 k1 9) dX4_against_29 fl_X4_135 (by decide) rfl ?_
    refine sim_iload_n dX4_against_32 rfl ?_
    refine sim_iald dX4_against_33 rfl (by decide) ?_
    refine sim_callV (As := [pI x2, pI (m3 (0, k1, 9) (ix x2))]) (rest := [pR 0 k1 0]) (k0 := k1) dX4_against_34 ln_X4_158 me_X0_sectionAhead rfl (by decide) rfl (by decide) (Nat.le_of_ble_eq_true rfl) (Nat.le_of_ble_eq_true rfl) rfl (sL_sectionAhead X k1 x2 (m3 (0, k1, 9) (ix x2)) m3) (fun x4 => ?_)
    refine sim_callV (As := [pI x4]) (rest := []) (k0 := k1) dX4_against_37 ln_X4_161 me_X0_runnerIn rfl (by decide) rfl (by decide) (Nat.le_of_ble_eq_true rfl) (Nat.le_of_ble_eq_true rfl) rfl (sL_runnerIn X k1 x4 m3) (fun x5 => ?_)
    refine sim_if_lt (tgt := 45) dX4_against_40 (by decide) ?_ ?_
    · refine sim_aload_n dX4_against_45 rfl ?_
      refine sim_get (v := pR 1 0 0) dX4_against_46 fl_X4_36 (by decide) rfl ?_
      refine sim_aload_n dX4_against_49 rfl ?_
      refine sim_iload_n dX4_against_50 rfl ?_
      refine sim_callV (As := [pR 0 k1 0, pI x2]) (rest := []) (k0 := 0) dX4_against_51 ln_X4_263 me_X1_canStep rfl (by decide) rfl (by decide) (Nat.le_of_ble_eq_true rfl) (Nat.le_of_ble_eq_true rfl) rfl (sP_canStep X k1 x2 m3) (fun x6 => ?_)
      refine sim_if_ne (tgt := 59) dX4_against_54 (by decide) ?_ ?_
      · refine sim_iconst (v := 4) dX4_against_57 (by decide) ?_
        exact sim_iret dX4_against_58 rfl rfl
      · refine sim_aload_n dX4_against_59 rfl ?_
        refine sim_get (v := pR 1 0 0) dX4_against_60 fl_X4_36 (by decide) rfl ?_
        refine sim_iload_n dX4_against_63 rfl ?_
        refine sim_callV (As := [pI x2]) (rest := []) (k0 := 0) dX4_against_64 ln_X4_267 me_X1_isSafeBehind rfl (by decide) rfl (by decide) (Nat.le_of_ble_eq_true rfl) (Nat.le_of_ble_eq_true rfl) rfl (sP_isSafeBehind X x2 m3) (fun x7 => ?_)
        refine sim_if_eq (tgt := 74) dX4_against_67 (by decide) ?_ ?_
        · refine sim_iconst (v := 5) dX4_against_74 (by decide) ?_
          exact sim_iret dX4_against_75 rfl rfl
        · refine sim_iconst (v := 0) dX4_against_70 (by decide) ?_
          refine sim_goto (tgt := 75) dX4_against_71 (by decide) ?_
          exact sim_iret dX4_against_75 rfl rfl
    · refine sim_iconst (v := 3) dX4_against_43 (by decide) ?_
      exact sim_iret dX4_against_44 rfl rfl
  · refine sim_aload_n dX4_against_9 rfl ?_
    refine sim_get (v := pR 0 k1 10) dX4_against_10 fl_X4_142 (by decide) rfl ?_
    refine sim_iload_n dX4_against_13 rfl ?_
    refine sim_iald dX4_against_14 rfl (by decide) ?_
    refine sim_iconst (v := 2) dX4_against_15 (by decide) ?_
    refine sim_icmp_ne (tgt := 23) dX4_against_16 (by decide) ?_ ?_
    · refine sim_iconst (v := 1) dX4_against_19 (by decide) ?_
      refine sim_goto (tgt := 24) dX4_against_20 (by decide) ?_
      exact sim_iret dX4_against_24 rfl rfl
    · refine sim_iconst (v := 2) dX4_against_23 (by decide) ?_
      exact sim_iret dX4_against_24 rfl rfl

def bD_howManyFree_15 (m2 : Mem) (s7 : Int32 → Int32 → Option (Int32 × Mem)) (x5 : Int32) (x6 : Int32) : Option (Int32 × Mem) :=
  if (m2 (0, 0, 0) 4) ≤ x6 then (some (x5, m2)) else (Option.bind (fD_against 0 x6 m2) (fun x9 => lt (if x9 = 0 then 1 else 0) (fun (x10 : Int32) => lt (x5 + x10) (fun (x11 : Int32) => lt (x6 + 1) (fun (x12 : Int32) => s7 x11 x12)))))
def fD_howManyFree (m1 : Mem) : Option (Int32 × Mem) :=
  Option.bind (fP_learn 0 m1) (fun m2 => lt 0 (fun (x3 : Int32) => lt 0 (fun (x4 : Int32) => lz20 (bD_howManyFree_15 m2) FU x3 x4)))
abbrev rm_D_howManyFree : Room := { frames := 5, cells := 0, slots := 0, locals := 119 }
set_option maxRecDepth 4000 in
theorem sD_howManyFree (X : Sc) (m1 : Mem) : Sim X cX4_howManyFree 3 (some .int) RX4 rm_D_howManyFree (fun q : Int32 × Mem => q.1) (fun q : Int32 × Mem => q.2) 0 [(0, pR 4 0 0)] [] m1 (fD_howManyFree m1) := by
  unfold fD_howManyFree
  refine sim_aload_n dX4_howManyFree_0 rfl ?_
  refine sim_get (v := pR 1 0 0) dX4_howManyFree_1 fl_X4_36 (by decide) rfl ?_
  refine sim_aload_n dX4_howManyFree_4 rfl ?_
  refine sim_get (v := pR 0 0 0) dX4_howManyFree_5 fl_X4_10 (by decide) rfl ?_
  refine sim_callV (As := [pR 0 0 0]) (rest := []) (k0 := 0) dX4_howManyFree_8 ln_X4_151 me_X1_learn rfl (by decide) rfl (by decide) (Nat.le_of_ble_eq_true rfl) (Nat.le_of_ble_eq_true rfl) rfl (sP_learn X 0 m1) (fun m2 => ?_)
  refine sim_iconst (v := 0) dX4_howManyFree_11 (by decide) ?_
  refine sim_istore_n (fun z => [(0, pR 4 0 0), (1, pI z)]) [1, 0] dX4_howManyFree_12 (by decide) (fun _ => rfl) (fun x3 => ?_)
  refine sim_iconst (v := 0) dX4_howManyFree_13 (by decide) ?_
  refine sim_istore_n (fun z => [(0, pR 4 0 0), (1, pI x3), (2, pI z)]) [1, 2, 0] dX4_howManyFree_14 (by decide) (fun _ => rfl) (fun x4 => ?_)
  refine sim_lz20 (fun z0 z1 => [(0, pR 4 0 0), (1, pI z0), (2, pI z1)]) (fun s7 hs8 x5 x6 => ?_) FU x3 x4
  unfold bD_howManyFree_15
  refine sim_iload_n dX4_howManyFree_15 rfl ?_
  refine sim_aload_n dX4_howManyFree_16 rfl ?_
  refine sim_get (v := pR 0 0 0) dX4_howManyFree_17 fl_X4_10 (by decide) rfl ?_
  refine sim_get (v := pI (m2 (0, 0, 0) 4)) dX4_howManyFree_20 fl_X4_83 (by decide) rfl ?_
  refine sim_icmp_ge (tgt := 52) dX4_howManyFree_23 (by decide) ?_ ?_
  · refine sim_iload_n dX4_howManyFree_52 rfl ?_
    exact sim_iret dX4_howManyFree_53 rfl rfl
  · refine sim_iload_n dX4_howManyFree_26 rfl ?_
    refine sim_aload_n dX4_howManyFree_27 rfl ?_
    refine sim_aload_n dX4_howManyFree_28 rfl ?_
    refine sim_get (v := pR 0 0 0) dX4_howManyFree_29 fl_X4_10 (by decide) rfl ?_
    refine sim_iload_n dX4_howManyFree_32 rfl ?_
    refine sim_callV (As := [pR 0 0 0, pI x6]) (rest := [pI x5]) (k0 := 0) dX4_howManyFree_33 ln_X4_154 me_X4_against rfl (by decide) rfl (by decide) (Nat.le_of_ble_eq_true rfl) (Nat.le_of_ble_eq_true rfl) rfl (sD_against X 0 x6 m2) (fun x9 => ?_)
    refine sim_jv 44 [(0, pR 4 0 0), (1, pI x5), (2, pI x6)] [pI x5] (fun x10 => ?_) (fun hV13 => ?_)
    · refine sim_iadd dX4_howManyFree_44 ?_
      refine sim_istore_n (fun z => [(0, pR 4 0 0), (1, pI z), (2, pI x6)]) [1, 0, 2] dX4_howManyFree_45 (by decide) (fun _ => rfl) (fun x11 => ?_)
      refine sim_iinc (y := 1) (fun z => [(0, pR 4 0 0), (1, pI x11), (2, pI z)]) [1, 2, 0] dX4_howManyFree_46 rfl (by decide) (by decide) (fun _ => rfl) (fun x12 => ?_)
      refine sim_goto (tgt := 15) dX4_howManyFree_49 (by decide) ?_
      exact hs8 x11 x12
    · refine sim_eq (lt_ite _ _ _ _) ?_
      refine sim_if_ne (tgt := 43) dX4_howManyFree_36 (by decide) ?_ ?_
      · refine sim_iconst (v := 1) dX4_howManyFree_39 (by decide) ?_
        refine sim_goto (tgt := 44) dX4_howManyFree_40 (by decide) ?_
        exact hV13 _
      · refine sim_iconst (v := 0) dX4_howManyFree_43 (by decide) ?_
        exact hV13 _

def fD_rule (x1 : Int32) (m2 : Mem) : Option (Int32 × Mem) :=
  if x1 = 0 then (some (m2 (0, 0, 0) 0, m2)) else (if x1 = 1 then (some (m2 (0, 0, 0) 4, m2)) else (if x1 = 2 then (some (m2 (0, 0, 0) 11, m2)) else (if x1 = 3 then (Option.bind (fL_howMany 0 1 m2) (fun x6 => some (x6, m2))) else (if x1 = 4 then (Option.bind (fL_howMany 0 2 m2) (fun x8 => some (x8, m2))) else (if x1 = 5 then (some (m2 (0, 0, 0) 12, m2)) else (if x1 = 6 then (Option.bind (fD_isPlain m2) (fun q11 => if q11.1 = 0 then (some (0, q11.2)) else (some (1, q11.2)))) else (if x1 = 7 then (Option.bind (fL_stepsLeft 0 m2) (fun x13 => some (x13, m2))) else (if x1 = 8 then (Option.bind (fD_howManyFree m2) (fun q15 => some (q15.1, q15.2))) else (some ((-1), m2))))))))))
abbrev rm_D_rule : Room := { frames := 6, cells := 0, slots := 0, locals := 141 }
set_option maxRecDepth 4000 in
theorem sD_rule (X : Sc) (x1 : Int32) (m2 : Mem) : Sim X cX4_rule 2 (some .int) RX4 rm_D_rule (fun q : Int32 × Mem => q.1) (fun q : Int32 × Mem => q.2) 0 [(0, pR 4 0 0), (1, pI x1)] [] m2 (fD_rule x1 m2) := by
  unfold fD_rule
  refine sim_iload_n dX4_rule_0 rfl ?_
  refine sim_case ?_ (fun hc3 => ?_)
  · refine sim_tab (off := 51) (tgt := 52) dX4_rule_1 (by decide) (by decide) (by decide) (by decide) ?_
    refine sim_aload_n dX4_rule_52 rfl ?_
    refine sim_get (v := pR 0 0 0) dX4_rule_53 fl_X4_10 (by decide) rfl ?_
    refine sim_get (v := pI (m2 (0, 0, 0) 0)) dX4_rule_56 fl_X4_80 (by decide) rfl ?_
    exact sim_iret dX4_rule_59 rfl rfl
  · refine sim_case ?_ (fun hc4 => ?_)
    · refine sim_tab (off := 59) (tgt := 60) dX4_rule_1 (by decide) (by decide) (by decide) (by decide) ?_
      refine sim_aload_n dX4_rule_60 rfl ?_
      refine sim_get (v := pR 0 0 0) dX4_rule_61 fl_X4_10 (by decide) rfl ?_
      refine sim_get (v := pI (m2 (0, 0, 0) 4)) dX4_rule_64 fl_X4_83 (by decide) rfl ?_
      exact sim_iret dX4_rule_67 rfl rfl
    · refine sim_case ?_ (fun hc5 => ?_)
      · refine sim_tab (off := 67) (tgt := 68) dX4_rule_1 (by decide) (by decide) (by decide) (by decide) ?_
        refine sim_aload_n dX4_rule_68 rfl ?_
        refine sim_get (v := pR 0 0 0) dX4_rule_69 fl_X4_10 (by decide) rfl ?_
        refine sim_get (v := pI (m2 (0, 0, 0) 11)) dX4_rule_72 fl_X4_86 (by decide) rfl ?_
        exact sim_iret dX4_rule_75 rfl rfl
      · refine sim_case ?_ (fun hc7 => ?_)
        · refine sim_tab (off := 75) (tgt := 76) dX4_rule_1 (by decide) (by decide) (by decide) (by decide) ?_
          refine sim_aload_n dX4_rule_76 rfl ?_
          refine sim_get (v := pR 0 0 0) dX4_rule_77 fl_X4_10 (by decide) rfl ?_
          refine sim_iconst (v := 1) dX4_rule_80 (by decide) ?_
          refine sim_callV (As := [pI 1]) (rest := []) (k0 := 0) dX4_rule_81 ln_X4_89 me_X0_howMany rfl (by decide) rfl (by decide) (Nat.le_of_ble_eq_true rfl) (Nat.le_of_ble_eq_true rfl) rfl (sL_howMany X 0 1 m2) (fun x6 => ?_)
          exact sim_iret dX4_rule_84 rfl rfl
        · refine sim_case ?_ (fun hc9 => ?_)
          · refine sim_tab (off := 84) (tgt := 85) dX4_rule_1 (by decide) (by decide) (by decide) (by decide) ?_
            refine sim_aload_n dX4_rule_85 rfl ?_
            refine sim_get (v := pR 0 0 0) dX4_rule_86 fl_X4_10 (by decide) rfl ?_
            refine sim_iconst (v := 2) dX4_rule_89 (by decide) ?_
            refine sim_callV (As := [pI 2]) (rest := []) (k0 := 0) dX4_rule_90 ln_X4_89 me_X0_howMany rfl (by decide) rfl (by decide) (Nat.le_of_ble_eq_true rfl) (Nat.le_of_ble_eq_true rfl) rfl (sL_howMany X 0 2 m2) (fun x8 => ?_)
            exact sim_iret dX4_rule_93 rfl rfl
          · refine sim_case ?_ (fun hc10 => ?_)
            · refine sim_tab (off := 93) (tgt := 94) dX4_rule_1 (by decide) (by decide) (by decide) (by decide) ?_
              refine sim_aload_n dX4_rule_94 rfl ?_
              refine sim_get (v := pR 0 0 0) dX4_rule_95 fl_X4_10 (by decide) rfl ?_
              refine sim_get (v := pI (m2 (0, 0, 0) 12)) dX4_rule_98 fl_X4_93 (by decide) rfl ?_
              exact sim_iret dX4_rule_101 rfl rfl
            · refine sim_case ?_ (fun hc12 => ?_)
              · refine sim_tab (off := 101) (tgt := 102) dX4_rule_1 (by decide) (by decide) (by decide) (by decide) ?_
                refine sim_aload_n dX4_rule_102 rfl ?_
                refine sim_callV (As := []) (rest := []) (k0 := 0) dX4_rule_103 ln_X4_96 me_X4_isPlain rfl (by decide) rfl (by decide) (Nat.le_of_ble_eq_true rfl) (Nat.le_of_ble_eq_true rfl) rfl (sD_isPlain X m2) (fun q11 => ?_)
                refine sim_if_eq (tgt := 113) dX4_rule_106 (by decide) ?_ ?_
                · refine sim_iconst (v := 0) dX4_rule_113 (by decide) ?_
                  exact sim_iret dX4_rule_114 rfl rfl
                · refine sim_iconst (v := 1) dX4_rule_109 (by decide) ?_
                  refine sim_goto (tgt := 114) dX4_rule_110 (by decide) ?_
                  exact sim_iret dX4_rule_114 rfl rfl
              · refine sim_case ?_ (fun hc14 => ?_)
                · refine sim_tab (off := 114) (tgt := 115) dX4_rule_1 (by decide) (by decide) (by decide) (by decide) ?_
                  refine sim_aload_n dX4_rule_115 rfl ?_
                  refine sim_get (v := pR 0 0 0) dX4_rule_116 fl_X4_10 (by decide) rfl ?_
                  refine sim_callV (As := []) (rest := []) (k0 := 0) dX4_rule_119 ln_X4_100 me_X0_stepsLeft rfl (by decide) rfl (by decide) (Nat.le_of_ble_eq_true rfl) (Nat.le_of_ble_eq_true rfl) rfl (sL_stepsLeft X 0 m2) (fun x13 => ?_)
                  exact sim_iret dX4_rule_122 rfl rfl
                · refine sim_case ?_ (fun hc16 => ?_)
                  · refine sim_tab (off := 122) (tgt := 123) dX4_rule_1 (by decide) (by decide) (by decide) (by decide) ?_
                    refine sim_aload_n dX4_rule_123 rfl ?_
                    refine sim_callV (As := []) (rest := []) (k0 := 0) dX4_rule_124 ln_X4_104 me_X4_howManyFree rfl (by decide) rfl (by decide) (Nat.le_of_ble_eq_true rfl) (Nat.le_of_ble_eq_true rfl) rfl (sD_howManyFree X m2) (fun q15 => ?_)
                    exact sim_iret dX4_rule_127 rfl rfl
                  · have e0_ := ne_lit hc3 (n := 0) (by decide)
                    have e1_ := ne_lit hc4 (n := 1) (by decide)
                    have e2_ := ne_lit hc5 (n := 2) (by decide)
                    have e3_ := ne_lit hc7 (n := 3) (by decide)
                    have e4_ := ne_lit hc9 (n := 4) (by decide)
                    have e5_ := ne_lit hc10 (n := 5) (by decide)
                    have e6_ := ne_lit hc12 (n := 6) (by decide)
                    have e7_ := ne_lit hc14 (n := 7) (by decide)
                    have e8_ := ne_lit hc16 (n := 8) (by decide)
                    refine sim_tabd (tgt := 128) dX4_rule_1 (by omega) (by decide) ?_
                    refine sim_iconst (v := (-1)) dX4_rule_128 (by decide) ?_
                    exact sim_iret dX4_rule_129 rfl rfl

def fD_place (x1 : Int32) (x2 : Int32) (m3 : Mem) : Option Int32 :=
  Option.bind (fL_hasPlace 0 x1 m3) (fun x4 => if x4 = 0 then (some (-1)) else (if x2 = 0 then (gd (inb x1 6) (some (m3 (0, 0, 2) (ix x1)))) else (if x2 = 1 then (gd (inb x1 6) (if x2 ≤ (m3 (0, 0, 2) (ix x1)) then (gd (inb (((x1 * 3) + x2) - 1) 18) (some (m3 (0, 0, 3) (ix (((x1 * 3) + x2) - 1))))) else (some (-4)))) else (if x2 = 2 then (gd (inb x1 6) (if x2 ≤ (m3 (0, 0, 2) (ix x1)) then (gd (inb (((x1 * 3) + x2) - 1) 18) (some (m3 (0, 0, 3) (ix (((x1 * 3) + x2) - 1))))) else (some (-4)))) else (if x2 = 3 then (gd (inb x1 6) (if x2 ≤ (m3 (0, 0, 2) (ix x1)) then (gd (inb (((x1 * 3) + x2) - 1) 18) (some (m3 (0, 0, 3) (ix (((x1 * 3) + x2) - 1))))) else (some (-4)))) else (if x2 = 4 then (Option.bind (fL_howManyThere 0 x1 m3) (fun x9 => some x9)) else (if x2 = 5 then (if x1 = ((m3 (0, 0, 0) 0) - 1) then (some (-4)) else (gd (inb x1 6) (some (m3 (0, 0, 4) (ix x1))))) else (some (-1)))))))))
abbrev rm_D_place : Room := { frames := 2, cells := 0, slots := 0, locals := 45 }
set_option maxRecDepth 4000 in
theorem sD_place (X : Sc) (x1 : Int32) (x2 : Int32) (m3 : Mem) : Sim X cX4_place 3 (some .int) RX4 rm_D_place (fun r : Int32 => r) (fun _ : Int32 => m3) 0 [(0, pR 4 0 0), (1, pI x1), (2, pI x2)] [] m3 (fD_place x1 x2 m3) := by
  unfold fD_place
  refine sim_aload_n dX4_place_0 rfl ?_
  refine sim_get (v := pR 0 0 0) dX4_place_1 fl_X4_10 (by decide) rfl ?_
  refine sim_iload_n dX4_place_4 rfl ?_
  refine sim_callV (As := [pI x1]) (rest := []) (k0 := 0) dX4_place_5 ln_X4_107 me_X0_hasPlace rfl (by decide) rfl (by decide) (Nat.le_of_ble_eq_true rfl) (Nat.le_of_ble_eq_true rfl) rfl (sL_hasPlace X 0 x1 m3) (fun x4 => ?_)
  refine sim_if_ne (tgt := 13) dX4_place_8 (by decide) ?_ ?_
  · refine sim_iconst (v := (-1)) dX4_place_11 (by decide) ?_
    exact sim_iret dX4_place_12 rfl rfl
  · refine sim_iload_n dX4_place_13 rfl ?_
    refine sim_case ?_ (fun hc5 => ?_)
    · refine sim_tab (off := 38) (tgt := 52) dX4_place_14 (by decide) (by decide) (by decide) (by decide) ?_
      refine sim_aload_n dX4_place_52 rfl ?_
      refine sim_get (v := pR 0 0 0) dX4_place_53 fl_X4_10 (by decide) rfl ?_
      refine sim_get (v := pR 0 0 2) dX4_place_56 fl_X4_111 (by decide) rfl ?_
      refine sim_iload_n dX4_place_59 rfl ?_
      refine sim_iald dX4_place_60 rfl (by decide) ?_
      exact sim_iret dX4_place_61 rfl rfl
    · refine sim_case ?_ (fun hc6 => ?_)
      · refine sim_tab (off := 48) (tgt := 62) dX4_place_14 (by decide) (by decide) (by decide) (by decide) ?_
        refine sim_iload_n dX4_place_62 rfl ?_
        refine sim_aload_n dX4_place_63 rfl ?_
        refine sim_get (v := pR 0 0 0) dX4_place_64 fl_X4_10 (by decide) rfl ?_
        refine sim_get (v := pR 0 0 2) dX4_place_67 fl_X4_111 (by decide) rfl ?_
        refine sim_iload_n dX4_place_70 rfl ?_
        refine sim_iald dX4_place_71 rfl (by decide) ?_
        refine sim_icmp_le (tgt := 80) dX4_place_72 (by decide) ?_ ?_
        · refine sim_aload_n dX4_place_80 rfl ?_
          refine sim_get (v := pR 0 0 0) dX4_place_81 fl_X4_10 (by decide) rfl ?_
          refine sim_get (v := pR 0 0 3) dX4_place_84 fl_X4_115 (by decide) rfl ?_
          refine sim_iload_n dX4_place_87 rfl ?_
          refine sim_iconst (v := 3) dX4_place_88 (by decide) ?_
          refine sim_imul dX4_place_89 ?_
          refine sim_iload_n dX4_place_90 rfl ?_
          refine sim_iadd dX4_place_91 ?_
          refine sim_iconst (v := 1) dX4_place_92 (by decide) ?_
          refine sim_isub dX4_place_93 ?_
          refine sim_iald dX4_place_94 rfl (by decide) ?_
          exact sim_iret dX4_place_95 rfl rfl
        · refine sim_bipush (v := (-4)) dX4_place_75 (by decide) ?_
          refine sim_goto (tgt := 95) dX4_place_77 (by decide) ?_
          exact sim_iret dX4_place_95 rfl rfl
      · refine sim_case ?_ (fun hc7 => ?_)
        · refine sim_tab (off := 48) (tgt := 62) dX4_place_14 (by decide) (by decide) (by decide) (by decide) ?_
          refine sim_iload_n dX4_place_62 rfl ?_
          refine sim_aload_n dX4_place_63 rfl ?_
          refine sim_get (v := pR 0 0 0) dX4_place_64 fl_X4_10 (by decide) rfl ?_
          refine sim_get (v := pR 0 0 2) dX4_place_67 fl_X4_111 (by decide) rfl ?_
          refine sim_iload_n dX4_place_70 rfl ?_
          refine sim_iald dX4_place_71 rfl (by decide) ?_
          refine sim_icmp_le (tgt := 80) dX4_place_72 (by decide) ?_ ?_
          · refine sim_aload_n dX4_place_80 rfl ?_
            refine sim_get (v := pR 0 0 0) dX4_place_81 fl_X4_10 (by decide) rfl ?_
            refine sim_get (v := pR 0 0 3) dX4_place_84 fl_X4_115 (by decide) rfl ?_
            refine sim_iload_n dX4_place_87 rfl ?_
            refine sim_iconst (v := 3) dX4_place_88 (by decide) ?_
            refine sim_imul dX4_place_89 ?_
            refine sim_iload_n dX4_place_90 rfl ?_
            refine sim_iadd dX4_place_91 ?_
            refine sim_iconst (v := 1) dX4_place_92 (by decide) ?_
            refine sim_isub dX4_place_93 ?_
            refine sim_iald dX4_place_94 rfl (by decide) ?_
            exact sim_iret dX4_place_95 rfl rfl
          · refine sim_bipush (v := (-4)) dX4_place_75 (by decide) ?_
            refine sim_goto (tgt := 95) dX4_place_77 (by decide) ?_
            exact sim_iret dX4_place_95 rfl rfl
        · refine sim_case ?_ (fun hc8 => ?_)
          · refine sim_tab (off := 48) (tgt := 62) dX4_place_14 (by decide) (by decide) (by decide) (by decide) ?_
            refine sim_iload_n dX4_place_62 rfl ?_
            refine sim_aload_n dX4_place_63 rfl ?_
            refine sim_get (v := pR 0 0 0) dX4_place_64 fl_X4_10 (by decide) rfl ?_
            refine sim_get (v := pR 0 0 2) dX4_place_67 fl_X4_111 (by decide) rfl ?_
            refine sim_iload_n dX4_place_70 rfl ?_
            refine sim_iald dX4_place_71 rfl (by decide) ?_
            refine sim_icmp_le (tgt := 80) dX4_place_72 (by decide) ?_ ?_
            · refine sim_aload_n dX4_place_80 rfl ?_
              refine sim_get (v := pR 0 0 0) dX4_place_81 fl_X4_10 (by decide) rfl ?_
              refine sim_get (v := pR 0 0 3) dX4_place_84 fl_X4_115 (by decide) rfl ?_
              refine sim_iload_n dX4_place_87 rfl ?_
              refine sim_iconst (v := 3) dX4_place_88 (by decide) ?_
              refine sim_imul dX4_place_89 ?_
              refine sim_iload_n dX4_place_90 rfl ?_
              refine sim_iadd dX4_place_91 ?_
              refine sim_iconst (v := 1) dX4_place_92 (by decide) ?_
              refine sim_isub dX4_place_93 ?_
              refine sim_iald dX4_place_94 rfl (by decide) ?_
              exact sim_iret dX4_place_95 rfl rfl
            · refine sim_bipush (v := (-4)) dX4_place_75 (by decide) ?_
              refine sim_goto (tgt := 95) dX4_place_77 (by decide) ?_
              exact sim_iret dX4_place_95 rfl rfl
          · refine sim_case ?_ (fun hc10 => ?_)
            · refine sim_tab (off := 82) (tgt := 96) dX4_place_14 (by decide) (by decide) (by decide) (by decide) ?_
              refine sim_aload_n dX4_place_96 rfl ?_
              refine sim_get (v := pR 0 0 0) dX4_place_97 fl_X4_10 (by decide) rfl ?_
              refine sim_iload_n dX4_place_100 rfl ?_
              refine sim_callV (As := [pI x1]) (rest := []) (k0 := 0) dX4_place_101 ln_X4_118 me_X0_howManyThere rfl (by decide) rfl (by decide) (Nat.le_of_ble_eq_true rfl) (Nat.le_of_ble_eq_true rfl) rfl (sL_howManyThere X 0 x1 m3) (fun x9 => ?_)
              exact sim_iret dX4_place_104 rfl rfl
            · refine sim_case ?_ (fun hc11 => ?_)
              · refine sim_tab (off := 91) (tgt := 105) dX4_place_14 (by decide) (by decide) (by decide) (by decide) ?_
                refine sim_iload_n dX4_place_105 rfl ?_
                refine sim_aload_n dX4_place_106 rfl ?_
                refine sim_get (v := pR 0 0 0) dX4_place_107 fl_X4_10 (by decide) rfl ?_
                refine sim_get (v := pI (m3 (0, 0, 0) 0)) dX4_place_110 fl_X4_80 (by decide) rfl ?_
                refine sim_iconst (v := 1) dX4_place_113 (by decide) ?_
                refine sim_isub dX4_place_114 ?_
                refine sim_icmp_ne (tgt := 123) dX4_place_115 (by decide) ?_ ?_
                · refine sim_bipush (v := (-4)) dX4_place_118 (by decide) ?_
                  refine sim_goto (tgt := 132) dX4_place_120 (by decide) ?_
                  exact sim_iret dX4_place_132 rfl rfl
                · refine sim_aload_n dX4_place_123 rfl ?_
                  refine sim_get (v := pR 0 0 0) dX4_place_124 fl_X4_10 (by decide) rfl ?_
                  refine sim_get (v := pR 0 0 4) dX4_place_127 fl_X4_121 (by decide) rfl ?_
                  refine sim_iload_n dX4_place_130 rfl ?_
                  refine sim_iald dX4_place_131 rfl (by decide) ?_
                  exact sim_iret dX4_place_132 rfl rfl
              · have e0_ := ne_lit hc5 (n := 0) (by decide)
                have e1_ := ne_lit hc6 (n := 1) (by decide)
                have e2_ := ne_lit hc7 (n := 2) (by decide)
                have e3_ := ne_lit hc8 (n := 3) (by decide)
                have e4_ := ne_lit hc10 (n := 4) (by decide)
                have e5_ := ne_lit hc11 (n := 5) (by decide)
                refine sim_tabd (tgt := 133) dX4_place_14 (by omega) (by decide) ?_
                refine sim_iconst (v := (-1)) dX4_place_133 (by decide) ?_
                exact sim_iret dX4_place_134 rfl rfl

def fD_train (x1 : Int32) (x2 : Int32) (m3 : Mem) : Option Int32 :=
  Option.bind (fL_hasTrain 0 x1 m3) (fun x4 => if x4 = 0 then (some (-1)) else (if x2 = 0 then (gd (inb x1 4) (some (m3 (0, 0, 6) (ix x1)))) else (if x2 = 1 then (gd (inb x1 4) (some (m3 (0, 0, 7) (ix x1)))) else (if x2 = 2 then (gd (inb x1 4) (some (m3 (0, 0, 8) (ix x1)))) else (if x2 = 3 then (gd (inb x1 4) (if (m3 (0, 0, 9) (ix x1)) = 0 then (some (-4)) else (gd (inb x1 4) (Option.bind (fL_spot 0 x1 (m3 (0, 0, 9) (ix x1)) m3) (fun x8 => some x8))))) else (if x2 = 4 then (gd (inb x1 4) (some (m3 (0, 0, 10) (ix x1)))) else (if x2 = 5 then (gd (inb x1 4) (if (m3 (0, 0, 10) (ix x1)) = 0 then (some (-4)) else (gd (inb x1 4) (some (m3 (0, 0, 11) (ix x1)))))) else (if x2 = 6 then (Option.bind (fL_minutesLeft 0 x1 m3) (fun x12 => some x12)) else (some (-1))))))))))
abbrev rm_D_train : Room := { frames := 2, cells := 0, slots := 0, locals := 45 }
set_option maxRecDepth 4000 in
theorem sD_train (X : Sc) (x1 : Int32) (x2 : Int32) (m3 : Mem) : Sim X cX4_train 3 (some .int) RX4 rm_D_train (fun r : Int32 => r) (fun _ : Int32 => m3) 0 [(0, pR 4 0 0), (1, pI x1), (2, pI x2)] [] m3 (fD_train x1 x2 m3) := by
  unfold fD_train
  refine sim_aload_n dX4_train_0 rfl ?_
  refine sim_get (v := pR 0 0 0) dX4_train_1 fl_X4_10 (by decide) rfl ?_
  refine sim_iload_n dX4_train_4 rfl ?_
  refine sim_callV (As := [pI x1]) (rest := []) (k0 := 0) dX4_train_5 ln_X4_124 me_X0_hasTrain rfl (by decide) rfl (by decide) (Nat.le_of_ble_eq_true rfl) (Nat.le_of_ble_eq_true rfl) rfl (sL_hasTrain X 0 x1 m3) (fun x4 => ?_)
  refine sim_if_ne (tgt := 13) dX4_train_8 (by decide) ?_ ?_
  · refine sim_iconst (v := (-1)) dX4_train_11 (by decide) ?_
    exact sim_iret dX4_train_12 rfl rfl
  · refine sim_iload_n dX4_train_13 rfl ?_
    refine sim_case ?_ (fun hc5 => ?_)
    · refine sim_tab (off := 42) (tgt := 56) dX4_train_14 (by decide) (by decide) (by decide) (by decide) ?_
      refine sim_aload_n dX4_train_56 rfl ?_
      refine sim_get (v := pR 0 0 0) dX4_train_57 fl_X4_10 (by decide) rfl ?_
      refine sim_get (v := pR 0 0 6) dX4_train_60 fl_X4_127 (by decide) rfl ?_
      refine sim_iload_n dX4_train_63 rfl ?_
      refine sim_iald dX4_train_64 rfl (by decide) ?_
      exact sim_iret dX4_train_65 rfl rfl
    · refine sim_case ?_ (fun hc6 => ?_)
      · refine sim_tab (off := 52) (tgt := 66) dX4_train_14 (by decide) (by decide) (by decide) (by decide) ?_
        refine sim_aload_n dX4_train_66 rfl ?_
        refine sim_get (v := pR 0 0 0) dX4_train_67 fl_X4_10 (by decide) rfl ?_
        refine sim_get (v := pR 0 0 7) dX4_train_70 fl_X4_130 (by decide) rfl ?_
        refine sim_iload_n dX4_train_73 rfl ?_
        refine sim_iald dX4_train_74 rfl (by decide) ?_
        exact sim_iret dX4_train_75 rfl rfl
      · refine sim_case ?_ (fun hc7 => ?_)
        · refine sim_tab (off := 62) (tgt := 76) dX4_train_14 (by decide) (by decide) (by decide) (by decide) ?_
          refine sim_aload_n dX4_train_76 rfl ?_
          refine sim_get (v := pR 0 0 0) dX4_train_77 fl_X4_10 (by decide) rfl ?_
          refine sim_get (v := pR 0 0 8) dX4_train_80 fl_X4_133 (by decide) rfl ?_
          refine sim_iload_n dX4_train_83 rfl ?_
          refine sim_iald dX4_train_84 rfl (by decide) ?_
          exact sim_iret dX4_train_85 rfl rfl
        · refine sim_case ?_ (fun hc9 => ?_)
          · refine sim_tab (off := 72) (tgt := 86) dX4_train_14 (by decide) (by decide) (by decide) (by decide) ?_
            refine sim_aload_n dX4_train_86 rfl ?_
            refine sim_get (v := pR 0 0 0) dX4_train_87 fl_X4_10 (by decide) rfl ?_
            refine sim_get (v := pR 0 0 9) dX4_train_90 fl_X4_135 (by decide) rfl ?_
            refine sim_iload_n dX4_train_93 rfl ?_
            refine sim_iald dX4_train_94 rfl (by decide) ?_
            refine sim_if_ne (tgt := 103) dX4_train_95 (by decide) ?_ ?_
            · refine sim_bipush (v := (-4)) dX4_train_98 (by decide) ?_
              refine sim_goto (tgt := 120) dX4_train_100 (by decide) ?_
              exact sim_iret dX4_train_120 rfl rfl
            · refine sim_aload_n dX4_train_103 rfl ?_
              refine sim_get (v := pR 0 0 0) dX4_train_104 fl_X4_10 (by decide) rfl ?_
              refine sim_iload_n dX4_train_107 rfl ?_
              refine sim_aload_n dX4_train_108 rfl ?_
              refine sim_get (v := pR 0 0 0) dX4_train_109 fl_X4_10 (by decide) rfl ?_
              refine sim_get (v := pR 0 0 9) dX4_train_112 fl_X4_135 (by decide) rfl ?_
              refine sim_iload_n dX4_train_115 rfl ?_
              refine sim_iald dX4_train_116 rfl (by decide) ?_
              refine sim_callV (As := [pI x1, pI (m3 (0, 0, 9) (ix x1))]) (rest := []) (k0 := 0) dX4_train_117 ln_X4_138 me_X0_spot rfl (by decide) rfl (by decide) (Nat.le_of_ble_eq_true rfl) (Nat.le_of_ble_eq_true rfl) rfl (sL_spot X 0 x1 (m3 (0, 0, 9) (ix x1)) m3) (fun x8 => ?_)
              exact sim_iret dX4_train_120 rfl rfl
          · refine sim_case ?_ (fun hc10 => ?_)
            · refine sim_tab (off := 107) (tgt := 121) dX4_train_14 (by decide) (by decide) (by decide) (by decide) ?_
              refine sim_aload_n dX4_train_121 rfl ?_
              refine sim_get (v := pR 0 0 0) dX4_train_122 fl_X4_10 (by decide) rfl ?_
              refine sim_get (v := pR 0 0 10) dX4_train_125 fl_X4_142 (by decide) rfl ?_
              refine sim_iload_n dX4_train_128 rfl ?_
              refine sim_iald dX4_train_129 rfl (by decide) ?_
              exact sim_iret dX4_train_130 rfl rfl
            · refine sim_case ?_ (fun hc11 => ?_)
              · refine sim_tab (off := 117) (tgt := 131) dX4_train_14 (by decide) (by decide) (by decide) (by decide) ?_
                refine sim_aload_n dX4_train_131 rfl ?_
                refine sim_get (v := pR 0 0 0) dX4_train_132 fl_X4_10 (by decide) rfl ?_
                refine sim_get (v := pR 0 0 10) dX4_train_135 fl_X4_142 (by decide) rfl ?_
                refine sim_iload_n dX4_train_138 rfl ?_
                refine sim_iald dX4_train_139 rfl (by decide) ?_
                refine sim_if_ne (tgt := 148) dX4_train_140 (by decide) ?_ ?_
                · refine sim_bipush (v := (-4)) dX4_train_143 (by decide) ?_
                  refine sim_goto (tgt := 157) dX4_train_145 (by decide) ?_
                  exact sim_iret dX4_train_157 rfl rfl
                · refine sim_aload_n dX4_train_148 rfl ?_
                  refine sim_get (v := pR 0 0 0) dX4_train_149 fl_X4_10 (by decide) rfl ?_
                  refine sim_get (v := pR 0 0 11) dX4_train_152 fl_X4_145 (by decide) rfl ?_
                  refine sim_iload_n dX4_train_155 rfl ?_
                  refine sim_iald dX4_train_156 rfl (by decide) ?_
                  exact sim_iret dX4_train_157 rfl rfl
              · refine sim_case ?_ (fun hc13 => ?_)
                · refine sim_tab (off := 144) (tgt := 158) dX4_train_14 (by decide) (by decide) (by decide) (by decide) ?_
                  refine sim_aload_n dX4_train_158 rfl ?_
                  refine sim_get (v := pR 0 0 0) dX4_train_159 fl_X4_10 (by decide) rfl ?_
                  refine sim_iload_n dX4_train_162 rfl ?_
                  refine sim_callV (As := [pI x1]) (rest := []) (k0 := 0) dX4_train_163 ln_X4_148 me_X0_minutesLeft rfl (by decide) rfl (by decide) (Nat.le_of_ble_eq_true rfl) (Nat.le_of_ble_eq_true rfl) rfl (sL_minutesLeft X 0 x1 m3) (fun x12 => ?_)
                  exact sim_iret dX4_train_166 rfl rfl
                · have e0_ := ne_lit hc5 (n := 0) (by decide)
                  have e1_ := ne_lit hc6 (n := 1) (by decide)
                  have e2_ := ne_lit hc7 (n := 2) (by decide)
                  have e3_ := ne_lit hc9 (n := 3) (by decide)
                  have e4_ := ne_lit hc10 (n := 4) (by decide)
                  have e5_ := ne_lit hc11 (n := 5) (by decide)
                  have e6_ := ne_lit hc13 (n := 6) (by decide)
                  refine sim_tabd (tgt := 167) dX4_train_14 (by omega) (by decide) ?_
                  refine sim_iconst (v := (-1)) dX4_train_167 (by decide) ?_
                  exact sim_iret dX4_train_168 rfl rfl

def fD_why (x1 : Int32) (m2 : Mem) : Option (Int32 × Mem) :=
  Option.bind (fL_hasTrain 0 x1 m2) (fun x3 => if x3 = 0 then (some ((-1), m2)) else (Option.bind (fP_learn 0 m2) (fun m4 => Option.bind (fD_against 0 x1 m4) (fun x5 => some (x5, m4)))))
abbrev rm_D_why : Room := { frames := 5, cells := 0, slots := 0, locals := 119 }
set_option maxRecDepth 4000 in
theorem sD_why (X : Sc) (x1 : Int32) (m2 : Mem) : Sim X cX4_why 2 (some .int) RX4 rm_D_why (fun q : Int32 × Mem => q.1) (fun q : Int32 × Mem => q.2) 0 [(0, pR 4 0 0), (1, pI x1)] [] m2 (fD_why x1 m2) := by
  unfold fD_why
  refine sim_aload_n dX4_why_0 rfl ?_
  refine sim_get (v := pR 0 0 0) dX4_why_1 fl_X4_10 (by decide) rfl ?_
  refine sim_iload_n dX4_why_4 rfl ?_
  refine sim_callV (As := [pI x1]) (rest := []) (k0 := 0) dX4_why_5 ln_X4_124 me_X0_hasTrain rfl (by decide) rfl (by decide) (Nat.le_of_ble_eq_true rfl) (Nat.le_of_ble_eq_true rfl) rfl (sL_hasTrain X 0 x1 m2) (fun x3 => ?_)
  refine sim_if_ne (tgt := 13) dX4_why_8 (by decide) ?_ ?_
  · refine sim_iconst (v := (-1)) dX4_why_11 (by decide) ?_
    exact sim_iret dX4_why_12 rfl rfl
  · refine sim_aload_n dX4_why_13 rfl ?_
    refine sim_get (v := pR 1 0 0) dX4_why_14 fl_X4_36 (by decide) rfl ?_
    refine sim_aload_n dX4_why_17 rfl ?_
    refine sim_get (v := pR 0 0 0) dX4_why_18 fl_X4_10 (by decide) rfl ?_
    refine sim_callV (As := [pR 0 0 0]) (rest := []) (k0 := 0) dX4_why_21 ln_X4_151 me_X1_learn rfl (by decide) rfl (by decide) (Nat.le_of_ble_eq_true rfl) (Nat.le_of_ble_eq_true rfl) rfl (sP_learn X 0 m2) (fun m4 => ?_)
    refine sim_aload_n dX4_why_24 rfl ?_
    refine sim_aload_n dX4_why_25 rfl ?_
    refine sim_get (v := pR 0 0 0) dX4_why_26 fl_X4_10 (by decide) rfl ?_
    refine sim_iload_n dX4_why_29 rfl ?_
    refine sim_callV (As := [pR 0 0 0, pI x1]) (rest := []) (k0 := 0) dX4_why_30 ln_X4_154 me_X4_against rfl (by decide) rfl (by decide) (Nat.le_of_ble_eq_true rfl) (Nat.le_of_ble_eq_true rfl) rfl (sD_against X 0 x1 m4) (fun x5 => ?_)
    exact sim_iret dX4_why_33 rfl rfl

def fD_who (x1 : Int32) (m2 : Mem) : Option (Int32 × Mem) :=
  Option.bind (fL_hasTrain 0 x1 m2) (fun x3 => if x3 = 0 then (some ((-1), m2)) else (Option.bind (fP_learn 0 m2) (fun m4 => Option.bind (fD_against 0 x1 m4) (fun x5 => if x5 = 3 then (gd (inb x1 4) (Option.bind (fL_sectionAhead 0 x1 (m4 (0, 0, 9) (ix x1)) m4) (fun x6 => Option.bind (fL_runnerIn 0 x6 m4) (fun x7 => some (x7, m4))))) else (if x5 = 4 then (Option.bind (fP_firstAhead 0 x1 m4) (fun x9 => some (x9, m4))) else (if x5 = 5 then (Option.bind (fP_firstLostBehind 0 x1 m4) (fun x11 => some (x11, m4))) else (some ((-4), m4))))))))
abbrev rm_D_who : Room := { frames := 5, cells := 0, slots := 0, locals := 119 }
set_option maxRecDepth 4000 in
theorem sD_who (X : Sc) (x1 : Int32) (m2 : Mem) : Sim X cX4_who 2 (some .int) RX4 rm_D_who (fun q : Int32 × Mem => q.1) (fun q : Int32 × Mem => q.2) 0 [(0, pR 4 0 0), (1, pI x1)] [] m2 (fD_who x1 m2) := by
  unfold fD_who
  refine sim_aload_n dX4_who_0 rfl ?_
  refine sim_get (v := pR 0 0 0) dX4_who_1 fl_X4_10 (by decide) rfl ?_
  refine sim_iload_n dX4_who_4 rfl ?_
  refine sim_callV (As := [pI x1]) (rest := []) (k0 := 0) dX4_who_5 ln_X4_124 me_X0_hasTrain rfl (by decide) rfl (by decide) (Nat.le_of_ble_eq_true rfl) (Nat.le_of_ble_eq_true rfl) rfl (sL_hasTrain X 0 x1 m2) (fun x3 => ?_)
  refine sim_if_ne (tgt := 13) dX4_who_8 (by decide) ?_ ?_
  · refine sim_iconst (v := (-1)) dX4_who_11 (by decide) ?_
    exact sim_iret dX4_who_12 rfl rfl
  · refine sim_aload_n dX4_who_13 rfl ?_
    refine sim_get (v := pR 1 0 0) dX4_who_14 fl_X4_36 (by decide) rfl ?_
    refine sim_aload_n dX4_who_17 rfl ?_
    refine sim_get (v := pR 0 0 0) dX4_who_18 fl_X4_10 (by decide) rfl ?_
    refine sim_callV (As := [pR 0 0 0]) (rest := []) (k0 := 0) dX4_who_21 ln_X4_151 me_X1_learn rfl (by decide) rfl (by decide) (Nat.le_of_ble_eq_true rfl) (Nat.le_of_ble_eq_true rfl) rfl (sP_learn X 0 m2) (fun m4 => ?_)
    refine sim_aload_n dX4_who_24 rfl ?_
    refine sim_aload_n dX4_who_25 rfl ?_
    refine sim_get (v := pR 0 0 0) dX4_who_26 fl_X4_10 (by decide) rfl ?_
    refine sim_iload_n dX4_who_29 rfl ?_
    refine sim_callV (As := [pR 0 0 0, pI x1]) (rest := []) (k0 := 0) dX4_who_30 ln_X4_154 me_X4_against rfl (by decide) rfl (by decide) (Nat.le_of_ble_eq_true rfl) (Nat.le_of_ble_eq_true rfl) rfl (sD_against X 0 x1 m4) (fun x5 => ?_)
    refine sim_case ?_ (fun hc8 => ?_)
    · refine sim_tab (off := 27) (tgt := 60) dX4_who_33 (by decide) (by decide) (by decide) (by decide) ?_
      refine sim_aload_n dX4_who_60 rfl ?_
      refine sim_get (v := pR 0 0 0) dX4_who_61 fl_X4_10 (by decide) rfl ?_
      refine sim_aload_n dX4_who_64 rfl ?_
      refine sim_get (v := pR 0 0 0) dX4_who_65 fl_X4_10 (by decide) rfl ?_
      refine sim_iload_n dX4_who_68 rfl ?_
      refine sim_aload_n dX4_who_69 rfl ?_
      refine sim_get (v := pR 0 0 0) dX4_who_70 fl_X4_10 (by decide) rfl ?_
      refine sim_get (v := pR 0 0 9) dX4_who_73 fl_X4_135 (by decide) rfl ?_
      refine sim_iload_n dX4_who_76 rfl ?_
      refine sim_iald dX4_who_77 rfl (by decide) ?_
      refine sim_callV (As := [pI x1, pI (m4 (0, 0, 9) (ix x1))]) (rest := [pR 0 0 0]) (k0 := 0) dX4_who_78 ln_X4_158 me_X0_sectionAhead rfl (by decide) rfl (by decide) (Nat.le_of_ble_eq_true rfl) (Nat.le_of_ble_eq_true rfl) rfl (sL_sectionAhead X 0 x1 (m4 (0, 0, 9) (ix x1)) m4) (fun x6 => ?_)
      refine sim_callV (As := [pI x6]) (rest := []) (k0 := 0) dX4_who_81 ln_X4_161 me_X0_runnerIn rfl (by decide) rfl (by decide) (Nat.le_of_ble_eq_true rfl) (Nat.le_of_ble_eq_true rfl) rfl (sL_runnerIn X 0 x6 m4) (fun x7 => ?_)
      exact sim_iret dX4_who_84 rfl rfl
    · refine sim_case ?_ (fun hc10 => ?_)
      · refine sim_tab (off := 52) (tgt := 85) dX4_who_33 (by decide) (by decide) (by decide) (by decide) ?_
        refine sim_aload_n dX4_who_85 rfl ?_
        refine sim_get (v := pR 1 0 0) dX4_who_86 fl_X4_36 (by decide) rfl ?_
        refine sim_aload_n dX4_who_89 rfl ?_
        refine sim_get (v := pR 0 0 0) dX4_who_90 fl_X4_10 (by decide) rfl ?_
        refine sim_iload_n dX4_who_93 rfl ?_
        refine sim_callV (As := [pR 0 0 0, pI x1]) (rest := []) (k0 := 0) dX4_who_94 ln_X4_164 me_X1_firstAhead rfl (by decide) rfl (by decide) (Nat.le_of_ble_eq_true rfl) (Nat.le_of_ble_eq_true rfl) rfl (sP_firstAhead X 0 x1 m4) (fun x9 => ?_)
        exact sim_iret dX4_who_97 rfl rfl
      · refine sim_case ?_ (fun hc12 => ?_)
        · refine sim_tab (off := 65) (tgt := 98) dX4_who_33 (by decide) (by decide) (by decide) (by decide) ?_
          refine sim_aload_n dX4_who_98 rfl ?_
          refine sim_get (v := pR 1 0 0) dX4_who_99 fl_X4_36 (by decide) rfl ?_
          refine sim_aload_n dX4_who_102 rfl ?_
          refine sim_get (v := pR 0 0 0) dX4_who_103 fl_X4_10 (by decide) rfl ?_
          refine sim_iload_n dX4_who_106 rfl ?_
          refine sim_callV (As := [pR 0 0 0, pI x1]) (rest := []) (k0 := 0) dX4_who_107 ln_X4_167 me_X1_firstLostBehind rfl (by decide) rfl (by decide) (Nat.le_of_ble_eq_true rfl) (Nat.le_of_ble_eq_true rfl) rfl (sP_firstLostBehind X 0 x1 m4) (fun x11 => ?_)
          exact sim_iret dX4_who_110 rfl rfl
        · have e0_ := ne_lit hc8 (n := 3) (by decide)
          have e1_ := ne_lit hc10 (n := 4) (by decide)
          have e2_ := ne_lit hc12 (n := 5) (by decide)
          refine sim_tabd (tgt := 111) dX4_who_33 (by omega) (by decide) ?_
          refine sim_bipush (v := (-4)) dX4_who_111 (by decide) ?_
          exact sim_iret dX4_who_113 rfl rfl

def fD_order (x1 : Int32) (m2 : Mem) : Option (Int32 × Mem) :=
  if 0 ≤ x1 then (Option.bind (fP_learnRooms 0 m2) (fun m3 => Option.bind (fP_goOneByOne 0 m3) (fun q4 => if q4.1 ≤ x1 then (some ((-4), q4.2)) else (gd (inb x1 4) (some (q4.2 (1, 0, 6) (ix x1), q4.2)))))) else (some ((-1), m2))
abbrev rm_D_order : Room := { frames := 5, cells := 0, slots := 0, locals := 115 }
set_option maxRecDepth 4000 in
theorem sD_order (X : Sc) (x1 : Int32) (m2 : Mem) : Sim X cX4_order 2 (some .int) RX4 rm_D_order (fun q : Int32 × Mem => q.1) (fun q : Int32 × Mem => q.2) 0 [(0, pR 4 0 0), (1, pI x1)] [] m2 (fD_order x1 m2) := by
  unfold fD_order
  refine sim_iload_n dX4_order_0 rfl ?_
  refine sim_if_ge (tgt := 6) dX4_order_1 (by decide) ?_ ?_
  · refine sim_aload_n dX4_order_6 rfl ?_
    refine sim_get (v := pR 1 0 0) dX4_order_7 fl_X4_36 (by decide) rfl ?_
    refine sim_aload_n dX4_order_10 rfl ?_
    refine sim_get (v := pR 0 0 0) dX4_order_11 fl_X4_10 (by decide) rfl ?_
    refine sim_callV (As := [pR 0 0 0]) (rest := []) (k0 := 0) dX4_order_14 ln_X4_170 me_X1_learnRooms rfl (by decide) rfl (by decide) (Nat.le_of_ble_eq_true rfl) (Nat.le_of_ble_eq_true rfl) rfl (sP_learnRooms X 0 m2) (fun m3 => ?_)
    refine sim_iload_n dX4_order_17 rfl ?_
    refine sim_aload_n dX4_order_18 rfl ?_
    refine sim_get (v := pR 1 0 0) dX4_order_19 fl_X4_36 (by decide) rfl ?_
    refine sim_aload_n dX4_order_22 rfl ?_
    refine sim_get (v := pR 0 0 0) dX4_order_23 fl_X4_10 (by decide) rfl ?_
    refine sim_callV (As := [pR 0 0 0]) (rest := [pI x1]) (k0 := 0) dX4_order_26 ln_X4_173 me_X1_goOneByOne rfl (by decide) rfl (by decide) (Nat.le_of_ble_eq_true rfl) (Nat.le_of_ble_eq_true rfl) rfl (sP_goOneByOne X 0 m3) (fun q4 => ?_)
    refine sim_icmp_ge (tgt := 44) dX4_order_29 (by decide) ?_ ?_
    · refine sim_bipush (v := (-4)) dX4_order_44 (by decide) ?_
      exact sim_iret dX4_order_46 rfl rfl
    · refine sim_aload_n dX4_order_32 rfl ?_
      refine sim_get (v := pR 1 0 0) dX4_order_33 fl_X4_36 (by decide) rfl ?_
      refine sim_get (v := pR 1 0 6) dX4_order_36 fl_X4_176 (by decide) rfl ?_
      refine sim_iload_n dX4_order_39 rfl ?_
      refine sim_iald dX4_order_40 rfl (by decide) ?_
      refine sim_goto (tgt := 46) dX4_order_41 (by decide) ?_
      exact sim_iret dX4_order_46 rfl rfl
  · refine sim_iconst (v := (-1)) dX4_order_4 (by decide) ?_
    exact sim_iret dX4_order_5 rfl rfl

def fD_reach (x1 : Int32) (m2 : Mem) : Option (Int32 × Mem) :=
  if x1 < 0 then (some ((-1), m2)) else (if x1 ≤ 1 then (Option.bind (fP_learn 0 m2) (fun m3 => lt (if x1 = 1 then 1 else 0) (fun (x4 : Int32) => Option.bind (fP_reached 0 x4 m3) (fun q5 => some (q5.1, q5.2))))) else (some ((-1), m2)))
abbrev rm_D_reach : Room := { frames := 5, cells := 0, slots := 0, locals := 119 }
set_option maxRecDepth 4000 in
theorem sD_reach (X : Sc) (x1 : Int32) (m2 : Mem) : Sim X cX4_reach 2 (some .int) RX4 rm_D_reach (fun q : Int32 × Mem => q.1) (fun q : Int32 × Mem => q.2) 0 [(0, pR 4 0 0), (1, pI x1)] [] m2 (fD_reach x1 m2) := by
  unfold fD_reach
  refine sim_iload_n dX4_reach_0 rfl ?_
  refine sim_if_lt (tgt := 9) dX4_reach_1 (by decide) ?_ ?_
  · refine sim_iconst (v := (-1)) dX4_reach_9 (by decide) ?_
    exact sim_iret dX4_reach_10 rfl rfl
  · refine sim_iload_n dX4_reach_4 rfl ?_
    refine sim_iconst (v := 1) dX4_reach_5 (by decide) ?_
    refine sim_icmp_le (tgt := 11) dX4_reach_6 (by decide) ?_ ?_
    · refine sim_aload_n dX4_reach_11 rfl ?_
      refine sim_get (v := pR 1 0 0) dX4_reach_12 fl_X4_36 (by decide) rfl ?_
      refine sim_aload_n dX4_reach_15 rfl ?_
      refine sim_get (v := pR 0 0 0) dX4_reach_16 fl_X4_10 (by decide) rfl ?_
      refine sim_callV (As := [pR 0 0 0]) (rest := []) (k0 := 0) dX4_reach_19 ln_X4_151 me_X1_learn rfl (by decide) rfl (by decide) (Nat.le_of_ble_eq_true rfl) (Nat.le_of_ble_eq_true rfl) rfl (sP_learn X 0 m2) (fun m3 => ?_)
      refine sim_aload_n dX4_reach_22 rfl ?_
      refine sim_get (v := pR 1 0 0) dX4_reach_23 fl_X4_36 (by decide) rfl ?_
      refine sim_aload_n dX4_reach_26 rfl ?_
      refine sim_get (v := pR 0 0 0) dX4_reach_27 fl_X4_10 (by decide) rfl ?_
      refine sim_iload_n dX4_reach_30 rfl ?_
      refine sim_iconst (v := 1) dX4_reach_31 (by decide) ?_
      refine sim_jv 40 [(0, pR 4 0 0), (1, pI x1)] [pR 0 0 0, pR 1 0 0] (fun x4 => ?_) (fun hV6 => ?_)
      · refine sim_callV (As := [pR 0 0 0, pI x4]) (rest := []) (k0 := 0) dX4_reach_40 ln_X4_179 me_X1_reached rfl (by decide) rfl (by decide) (Nat.le_of_ble_eq_true rfl) (Nat.le_of_ble_eq_true rfl) rfl (sP_reached X 0 x4 m3) (fun q5 => ?_)
        exact sim_iret dX4_reach_43 rfl rfl
      · refine sim_eq (lt_ite _ _ _ _) ?_
        refine sim_icmp_ne (tgt := 39) dX4_reach_32 (by decide) ?_ ?_
        · refine sim_iconst (v := 1) dX4_reach_35 (by decide) ?_
          refine sim_goto (tgt := 40) dX4_reach_36 (by decide) ?_
          exact hV6 _
        · refine sim_iconst (v := 0) dX4_reach_39 (by decide) ?_
          exact hV6 _
    · refine sim_iconst (v := (-1)) dX4_reach_9 (by decide) ?_
      exact sim_iret dX4_reach_10 rfl rfl

def fD_isRule (x1 : Int32) (m2 : Mem) : Option Int32 :=
  if x1 < 0 then (some 0) else (if 3 ≤ x1 then (some 0) else (some 1))
abbrev rm_D_isRule : Room := { frames := 0, cells := 0, slots := 0, locals := 0 }
set_option maxRecDepth 4000 in
theorem sD_isRule (X : Sc) (x1 : Int32) (m2 : Mem) : Sim X cX4_isRule 1 (some .boolean) RX4 rm_D_isRule (fun r : Int32 => r) (fun _ : Int32 => m2) 0 [(0, pI x1)] [] m2 (fD_isRule x1 m2) := by
  unfold fD_isRule
  refine sim_iload_n dX4_isRule_0 rfl ?_
  refine sim_if_lt (tgt := 13) dX4_isRule_1 (by decide) ?_ ?_
  · refine sim_iconst (v := 0) dX4_isRule_13 (by decide) ?_
    exact sim_zret dX4_isRule_14 rfl rfl rfl
  · refine sim_iload_n dX4_isRule_4 rfl ?_
    refine sim_iconst (v := 3) dX4_isRule_5 (by decide) ?_
    refine sim_icmp_ge (tgt := 13) dX4_isRule_6 (by decide) ?_ ?_
    · refine sim_iconst (v := 0) dX4_isRule_13 (by decide) ?_
      exact sim_zret dX4_isRule_14 rfl rfl rfl
    · refine sim_iconst (v := 1) dX4_isRule_9 (by decide) ?_
      refine sim_goto (tgt := 14) dX4_isRule_10 (by decide) ?_
      exact sim_zret dX4_isRule_14 rfl rfl rfl

def fD_isAhead (k1 : Nat) (x2 : Int32) (x3 : Int32) (x4 : Int32) (m5 : Mem) : Option Int32 :=
  if x2 = 0 then (if x4 ≤ x3 then (some 0) else (some 1)) else (Option.bind (fL_minutesLeft k1 x3 m5) (fun x6 => lt x6 (fun (x7 : Int32) => Option.bind (fL_minutesLeft k1 x4 m5) (fun x8 => lt x8 (fun (x9 : Int32) => if x2 = 1 then (if x9 ≤ x7 then (some 0) else (some 1)) else (if x7 ≤ x9 then (some 0) else (some 1)))))))
abbrev rm_D_isAhead : Room := { frames := 2, cells := 0, slots := 0, locals := 45 }
set_option maxRecDepth 4000 in
theorem sD_isAhead (X : Sc) (k1 : Nat) (x2 : Int32) (x3 : Int32) (x4 : Int32) (m5 : Mem) : Sim X cX4_isAhead 6 (some .boolean) RX4 rm_D_isAhead (fun r : Int32 => r) (fun _ : Int32 => m5) 0 [(0, pR 0 k1 0), (1, pI x2), (2, pI x3), (3, pI x4)] [] m5 (fD_isAhead k1 x2 x3 x4 m5) := by
  unfold fD_isAhead
  refine sim_iload_n dX4_isAhead_0 rfl ?_
  refine sim_if_ne (tgt := 15) dX4_isAhead_1 (by decide) ?_ ?_
  · refine sim_iload_n dX4_isAhead_4 rfl ?_
    refine sim_iload_n dX4_isAhead_5 rfl ?_
    refine sim_icmp_ge (tgt := 13) dX4_isAhead_6 (by decide) ?_ ?_
    · refine sim_iconst (v := 0) dX4_isAhead_13 (by decide) ?_
      exact sim_zret dX4_isAhead_14 rfl rfl rfl
    · refine sim_iconst (v := 1) dX4_isAhead_9 (by decide) ?_
      refine sim_goto (tgt := 14) dX4_isAhead_10 (by decide) ?_
      exact sim_zret dX4_isAhead_14 rfl rfl rfl
  · refine sim_aload_n dX4_isAhead_15 rfl ?_
    refine sim_iload_n dX4_isAhead_16 rfl ?_
    refine sim_callV (As := [pI x3]) (rest := []) (k0 := k1) dX4_isAhead_17 ln_X4_148 me_X0_minutesLeft rfl (by decide) rfl (by decide) (Nat.le_of_ble_eq_true rfl) (Nat.le_of_ble_eq_true rfl) rfl (sL_minutesLeft X k1 x3 m5) (fun x6 => ?_)
    refine sim_istore (fun z => [(0, pR 0 k1 0), (1, pI x2), (2, pI x3), (3, pI x4), (4, pI z)]) [1, 2, 3, 4, 0] dX4_isAhead_20 (by decide) (fun _ => rfl) (fun x7 => ?_)
    refine sim_aload_n dX4_isAhead_22 rfl ?_
    refine sim_iload_n dX4_isAhead_23 rfl ?_
    refine sim_callV (As := [pI x4]) (rest := []) (k0 := k1) dX4_isAhead_24 ln_X4_148 me_X0_minutesLeft rfl (by decide) rfl (by decide) (Nat.le_of_ble_eq_true rfl) (Nat.le_of_ble_eq_true rfl) rfl (sL_minutesLeft X k1 x4 m5) (fun x8 => ?_)
    refine sim_istore (fun z => [(0, pR 0 k1 0), (1, pI x2), (2, pI x3), (3, pI x4), (4, pI x7), (5, pI z)]) [1, 2, 3, 4, 5, 0] dX4_isAhead_27 (by decide) (fun _ => rfl) (fun x9 => ?_)
    refine sim_iload_n dX4_isAhead_29 rfl ?_
    refine sim_iconst (v := 1) dX4_isAhead_30 (by decide) ?_
    refine sim_icmp_ne (tgt := 49) dX4_isAhead_31 (by decide) ?_ ?_
    · refine sim_iload dX4_isAhead_34 rfl ?_
      refine sim_iload dX4_isAhead_36 rfl ?_
      refine sim_icmp_ge (tgt := 45) dX4_isAhead_38 (by decide) ?_ ?_
      · refine sim_iconst (v := 0) dX4_isAhead_45 (by decide) ?_
        refine sim_goto (tgt := 61) dX4_isAhead_46 (by decide) ?_
        exact sim_zret dX4_isAhead_61 rfl rfl rfl
      · refine sim_iconst (v := 1) dX4_isAhead_41 (by decide) ?_
        refine sim_goto (tgt := 61) dX4_isAhead_42 (by decide) ?_
        exact sim_zret dX4_isAhead_61 rfl rfl rfl
    · refine sim_iload dX4_isAhead_49 rfl ?_
      refine sim_iload dX4_isAhead_51 rfl ?_
      refine sim_icmp_le (tgt := 60) dX4_isAhead_53 (by decide) ?_ ?_
      · refine sim_iconst (v := 0) dX4_isAhead_60 (by decide) ?_
        exact sim_zret dX4_isAhead_61 rfl rfl rfl
      · refine sim_iconst (v := 1) dX4_isAhead_56 (by decide) ?_
        refine sim_goto (tgt := 61) dX4_isAhead_57 (by decide) ?_
        exact sim_zret dX4_isAhead_61 rfl rfl rfl

def bD_firstBy_6 (k1 : Nat) (x2 : Int32) (m3 : Mem) (s8 : Int32 → Int32 → Option Int32) (x6 : Int32) (x7 : Int32) : Option Int32 :=
  if (m3 (0, k1, 0) 4) ≤ x7 then (some x6) else (Option.bind (fD_against k1 x7 m3) (fun x10 => if x10 = 0 then (if x6 < 0 then (lt x7 (fun (x12 : Int32) => lt (x7 + 1) (fun (x13 : Int32) => s8 x12 x13))) else (Option.bind (fD_isAhead k1 x2 x7 x6 m3) (fun x14 => if x14 = 0 then (lt (x7 + 1) (fun (x15 : Int32) => s8 x6 x15)) else (lt x7 (fun (x16 : Int32) => lt (x7 + 1) (fun (x17 : Int32) => s8 x16 x17)))))) else (lt (x7 + 1) (fun (x11 : Int32) => s8 x6 x11))))
def fD_firstBy (k1 : Nat) (x2 : Int32) (m3 : Mem) : Option Int32 :=
  lt (-4) (fun (x4 : Int32) => lt 0 (fun (x5 : Int32) => lz20 (bD_firstBy_6 k1 x2 m3) FU x4 x5))
abbrev rm_D_firstBy : Room := { frames := 4, cells := 0, slots := 0, locals := 84 }
set_option maxRecDepth 4000 in
theorem sD_firstBy (X : Sc) (k1 : Nat) (x2 : Int32) (m3 : Mem) : Sim X cX4_firstBy 5 (some .int) RX4 rm_D_firstBy (fun r : Int32 => r) (fun _ : Int32 => m3) 0 [(0, pR 4 0 0), (1, pR 0 k1 0), (2, pI x2)] [] m3 (fD_firstBy k1 x2 m3) := by
  unfold fD_firstBy
  refine sim_bipush (v := (-4)) dX4_firstBy_0 (by decide) ?_
  refine sim_istore_n (fun z => [(0, pR 4 0 0), (1, pR 0 k1 0), (2, pI x2), (3, pI z)]) [1, 2, 3, 0] dX4_firstBy_2 (by decide) (fun _ => rfl) (fun x4 => ?_)
  refine sim_iconst (v := 0) dX4_firstBy_3 (by decide) ?_
  refine sim_istore (fun z => [(0, pR 4 0 0), (1, pR 0 k1 0), (2, pI x2), (3, pI x4), (4, pI z)]) [1, 2, 3, 4, 0] dX4_firstBy_4 (by decide) (fun _ => rfl) (fun x5 => ?_)
  refine sim_lz20 (fun z0 z1 => [(0, pR 4 0 0), (1, pR 0 k1 0), (2, pI x2), (3, pI z0), (4, pI z1)]) (fun s8 hs9 x6 x7 => ?_) FU x4 x5
  unfold bD_firstBy_6
  refine sim_iload dX4_firstBy_6 rfl ?_
  refine sim_aload_n dX4_firstBy_8 rfl ?_
  refine sim_get (v := pI (m3 (0, k1, 0) 4)) dX4_firstBy_9 fl_X4_83 (by decide) rfl ?_
  refine sim_icmp_ge (tgt := 49) dX4_firstBy_12 (by decide) ?_ ?_
  · refine sim_iload_n dX4_firstBy_49 rfl ?_
    exact sim_iret dX4_firstBy_50 rfl rfl
  · refine sim_aload_n dX4_firstBy_15 rfl ?_
    refine sim_aload_n dX4_firstBy_16 rfl ?_
    refine sim_iload dX4_firstBy_17 rfl ?_
    refine sim_callV (As := [pR 0 k1 0, pI x7]) (rest := []) (k0 := 0) dX4_firstBy_19 ln_X4_154 me_X4_against rfl (by decide) rfl (by decide) (Nat.le_of_ble_eq_true rfl) (Nat.le_of_ble_eq_true rfl) rfl (sD_against X k1 x7 m3) (fun x10 => ?_)
    refine sim_if_ne (tgt := 43) dX4_firstBy_22 (by decide) ?_ ?_
    · refine sim_iload_n dX4_firstBy_25 rfl ?_
      refine sim_if_lt (tgt := 40) dX4_firstBy_26 (by decide) ?_ ?_
      · refine sim_iload dX4_firstBy_40 rfl ?_
        refine sim_istore_n (fun z => [(0, pR 4 0 0), (1, pR 0 k1 0), (2, pI x2), (3, pI z), (4, pI x7)]) [1, 2, 3, 0, 4] dX4_firstBy_42 (by decide) (fun _ => rfl) (fun x12 => ?_)
        refine sim_iinc (y := 1) (fun z => [(0, pR 4 0 0), (1, pR 0 k1 0), (2, pI x2), (3, pI x12), (4, pI z)]) [1, 2, 3, 4, 0] dX4_firstBy_43 rfl (by decide) (by decide) (fun _ => rfl) (fun x13 => ?_)
        refine sim_goto (tgt := 6) dX4_firstBy_46 (by decide) ?_
        exact hs9 x12 x13
      · refine sim_aload_n dX4_firstBy_29 rfl ?_
        refine sim_iload_n dX4_firstBy_30 rfl ?_
        refine sim_iload dX4_firstBy_31 rfl ?_
        refine sim_iload_n dX4_firstBy_33 rfl ?_
        refine sim_callS (As := [pR 0 k1 0, pI x2, pI x7, pI x6]) (rest := []) dX4_firstBy_34 ln_X4_276 me_X4_isAhead rfl (by decide) (Nat.le_of_ble_eq_true rfl) (Nat.le_of_ble_eq_true rfl) rfl (sD_isAhead X k1 x2 x7 x6 m3) (fun x14 => ?_)
        refine sim_if_eq (tgt := 43) dX4_firstBy_37 (by decide) ?_ ?_
        · refine sim_iinc (y := 1) (fun z => [(0, pR 4 0 0), (1, pR 0 k1 0), (2, pI x2), (3, pI x6), (4, pI z)]) [1, 2, 3, 4, 0] dX4_firstBy_43 rfl (by decide) (by decide) (fun _ => rfl) (fun x15 => ?_)
          refine sim_goto (tgt := 6) dX4_firstBy_46 (by decide) ?_
          exact hs9 x6 x15
        · refine sim_iload dX4_firstBy_40 rfl ?_
          refine sim_istore_n (fun z => [(0, pR 4 0 0), (1, pR 0 k1 0), (2, pI x2), (3, pI z), (4, pI x7)]) [1, 2, 3, 0, 4] dX4_firstBy_42 (by decide) (fun _ => rfl) (fun x16 => ?_)
          refine sim_iinc (y := 1) (fun z => [(0, pR 4 0 0), (1, pR 0 k1 0), (2, pI x2), (3, pI x16), (4, pI z)]) [1, 2, 3, 4, 0] dX4_firstBy_43 rfl (by decide) (by decide) (fun _ => rfl) (fun x17 => ?_)
          refine sim_goto (tgt := 6) dX4_firstBy_46 (by decide) ?_
          exact hs9 x16 x17
    · refine sim_iinc (y := 1) (fun z => [(0, pR 4 0 0), (1, pR 0 k1 0), (2, pI x2), (3, pI x6), (4, pI z)]) [1, 2, 3, 4, 0] dX4_firstBy_43 rfl (by decide) (by decide) (fun _ => rfl) (fun x11 => ?_)
      refine sim_goto (tgt := 6) dX4_firstBy_46 (by decide) ?_
      exact hs9 x6 x11

def bD_letAllGo_5 (k1 : Nat) (x2 : Int32) (s9 : Int32 → Int32 → Mem → Option (Int32 × Mem)) (x6 : Int32) (x7 : Int32) (m8 : Mem) : Option (Int32 × Mem) :=
  if (m8 (0, k1, 0) 4) ≤ x7 then (some (x6, m8)) else (Option.bind (fD_firstBy k1 x2 m8) (fun x11 => lt x11 (fun (x12 : Int32) => if 0 ≤ x12 then (Option.bind (fL_depart k1 x12 m8) (fun m13 => Option.bind (fP_look k1 m13) (fun m14 => lt (x6 + 1) (fun (x15 : Int32) => lt (x7 + 1) (fun (x16 : Int32) => s9 x15 x16 m14))))) else (some (x6, m8)))))
def fD_letAllGo (k1 : Nat) (x2 : Int32) (m3 : Mem) : Option (Int32 × Mem) :=
  lt 0 (fun (x4 : Int32) => lt 0 (fun (x5 : Int32) => lz21 (bD_letAllGo_5 k1 x2) FU x4 x5 m3))
abbrev rm_D_letAllGo : Room := { frames := 5, cells := 0, slots := 0, locals := 108 }
set_option maxRecDepth 4000 in
theorem sD_letAllGo (X : Sc) (k1 : Nat) (x2 : Int32) (m3 : Mem) : Sim X cX4_letAllGo 6 (some .int) RX4 rm_D_letAllGo (fun q : Int32 × Mem => q.1) (fun q : Int32 × Mem => q.2) 0 [(0, pR 4 0 0), (1, pR 0 k1 0), (2, pI x2)] [] m3 (fD_letAllGo k1 x2 m3) := by
  unfold fD_letAllGo
  refine sim_iconst (v := 0) dX4_letAllGo_0 (by decide) ?_
  refine sim_istore_n (fun z => [(0, pR 4 0 0), (1, pR 0 k1 0), (2, pI x2), (3, pI z)]) [1, 2, 3, 0] dX4_letAllGo_1 (by decide) (fun _ => rfl) (fun x4 => ?_)
  refine sim_iconst (v := 0) dX4_letAllGo_2 (by decide) ?_
  refine sim_istore (fun z => [(0, pR 4 0 0), (1, pR 0 k1 0), (2, pI x2), (3, pI x4), (4, pI z)]) [1, 2, 3, 4, 0] dX4_letAllGo_3 (by decide) (fun _ => rfl) (fun x5 => ?_)
  refine sim_lz21 (fun z0 z1 => [(0, pR 4 0 0), (1, pR 0 k1 0), (2, pI x2), (3, pI z0), (4, pI z1)]) (fun s9 hs10 x6 x7 m8 => ?_) FU x4 x5 m3
  unfold bD_letAllGo_5
  refine sim_iload dX4_letAllGo_5 rfl ?_
  refine sim_aload_n dX4_letAllGo_7 rfl ?_
  refine sim_get (v := pI (m8 (0, k1, 0) 4)) dX4_letAllGo_8 fl_X4_83 (by decide) rfl ?_
  refine sim_icmp_ge (tgt := 52) dX4_letAllGo_11 (by decide) ?_ ?_
  · refine sim_iload_n dX4_letAllGo_52 rfl ?_
    exact sim_iret dX4_letAllGo_53 rfl rfl
  · refine sim_aload_n dX4_letAllGo_14 rfl ?_
    refine sim_aload_n dX4_letAllGo_15 rfl ?_
    refine sim_iload_n dX4_letAllGo_16 rfl ?_
    refine sim_callV (As := [pR 0 k1 0, pI x2]) (rest := []) (k0 := 0) dX4_letAllGo_17 ln_X4_270 me_X4_firstBy rfl (by decide) rfl (by decide) (Nat.le_of_ble_eq_true rfl) (Nat.le_of_ble_eq_true rfl) rfl (sD_firstBy X k1 x2 m8) (fun x11 => ?_)
    refine sim_istore (fun z => [(0, pR 4 0 0), (1, pR 0 k1 0), (2, pI x2), (3, pI x6), (4, pI x7), (5, pI z)]) [1, 2, 3, 4, 5, 0] dX4_letAllGo_20 (by decide) (fun _ => rfl) (fun x12 => ?_)
    refine sim_iload dX4_letAllGo_22 rfl ?_
    refine sim_if_ge (tgt := 29) dX4_letAllGo_24 (by decide) ?_ ?_
    · refine sim_aload_n dX4_letAllGo_29 rfl ?_
      refine sim_iload dX4_letAllGo_30 rfl ?_
      refine sim_callV (As := [pI x12]) (rest := []) (k0 := k1) dX4_letAllGo_32 ln_X4_190 me_X0_depart rfl (by decide) rfl (by decide) (Nat.le_of_ble_eq_true rfl) (Nat.le_of_ble_eq_true rfl) rfl (sL_depart X k1 x12 m8) (fun m13 => ?_)
      refine sim_aload_n dX4_letAllGo_35 rfl ?_
      refine sim_get (v := pR 1 0 0) dX4_letAllGo_36 fl_X4_36 (by decide) rfl ?_
      refine sim_aload_n dX4_letAllGo_39 rfl ?_
      refine sim_callV (As := [pR 0 k1 0]) (rest := []) (k0 := 0) dX4_letAllGo_40 ln_X4_273 me_X1_look rfl (by decide) rfl (by decide) (Nat.le_of_ble_eq_true rfl) (Nat.le_of_ble_eq_true rfl) rfl (sP_look X k1 m13) (fun m14 => ?_)
      refine sim_iinc (y := 1) (fun z => [(0, pR 4 0 0), (1, pR 0 k1 0), (2, pI x2), (3, pI z), (4, pI x7), (5, pI x12)]) [1, 2, 3, 0, 4, 5] dX4_letAllGo_43 rfl (by decide) (by decide) (fun _ => rfl) (fun x15 => ?_)
      refine sim_iinc (y := 1) (fun z => [(0, pR 4 0 0), (1, pR 0 k1 0), (2, pI x2), (3, pI x15), (4, pI z), (5, pI x12)]) [1, 2, 3, 4, 0, 5] dX4_letAllGo_46 rfl (by decide) (by decide) (fun _ => rfl) (fun x16 => ?_)
      refine sim_goto (tgt := 5) dX4_letAllGo_49 (by decide) ?_
      refine sim_pick [(0, pR 4 0 0), (1, pR 0 k1 0), (2, pI x2), (3, pI x15), (4, pI x16)] [0, 1, 2, 3, 4] rfl ?_
      exact hs10 x15 x16 m14
    · refine sim_iload_n dX4_letAllGo_27 rfl ?_
      exact sim_iret dX4_letAllGo_28 rfl rfl

def bD_sum_0_11_4 (k1 : Nat) (x2 : Int32) (m3 : Mem) (s8 : Int32 → Int32 → Option Int32) (x6 : Int32) (x7 : Int32) : Option Int32 :=
  if x2 ≤ x7 then (some x6) else (if 4 ≤ x7 then (some x6) else (gd (inb x7 4) (lt (x6 + (m3 (0, k1, 11) (ix x7))) (fun (x10 : Int32) => lt (x7 + 1) (fun (x11 : Int32) => s8 x10 x11)))))
def fD_sum_0_11 (k1 : Nat) (x2 : Int32) (m3 : Mem) : Option Int32 :=
  lt 0 (fun (x4 : Int32) => lt 0 (fun (x5 : Int32) => lz20 (bD_sum_0_11_4 k1 x2 m3) FU x4 x5))
abbrev rm_D_sum_0_11 : Room := { frames := 0, cells := 0, slots := 0, locals := 0 }
set_option maxRecDepth 4000 in
theorem sD_sum_0_11 (X : Sc) (k1 : Nat) (x2 : Int32) (m3 : Mem) : Sim X cX4_sum 4 (some .int) RX4 rm_D_sum_0_11 (fun r : Int32 => r) (fun _ : Int32 => m3) 0 [(0, pR 0 k1 11), (1, pI x2)] [] m3 (fD_sum_0_11 k1 x2 m3) := by
  unfold fD_sum_0_11
  refine sim_iconst (v := 0) dX4_sum_0 (by decide) ?_
  refine sim_istore_n (fun z => [(0, pR 0 k1 11), (1, pI x2), (2, pI z)]) [1, 2, 0] dX4_sum_1 (by decide) (fun _ => rfl) (fun x4 => ?_)
  refine sim_iconst (v := 0) dX4_sum_2 (by decide) ?_
  refine sim_istore_n (fun z => [(0, pR 0 k1 11), (1, pI x2), (2, pI x4), (3, pI z)]) [1, 2, 3, 0] dX4_sum_3 (by decide) (fun _ => rfl) (fun x5 => ?_)
  refine sim_lz20 (fun z0 z1 => [(0, pR 0 k1 11), (1, pI x2), (2, pI z0), (3, pI z1)]) (fun s8 hs9 x6 x7 => ?_) FU x4 x5
  unfold bD_sum_0_11_4
  refine sim_iload_n dX4_sum_4 rfl ?_
  refine sim_iload_n dX4_sum_5 rfl ?_
  refine sim_icmp_ge (tgt := 27) dX4_sum_6 (by decide) ?_ ?_
  · refine sim_iload_n dX4_sum_27 rfl ?_
    exact sim_iret dX4_sum_28 rfl rfl
  · refine sim_iload_n dX4_sum_9 rfl ?_
    refine sim_aload_n dX4_sum_10 rfl ?_
    refine sim_alen (v := 4) dX4_sum_11 rfl (by decide) (by decide) (by decide) ?_
    refine sim_icmp_ge (tgt := 27) dX4_sum_12 (by decide) ?_ ?_
    · refine sim_iload_n dX4_sum_27 rfl ?_
      exact sim_iret dX4_sum_28 rfl rfl
    · refine sim_iload_n dX4_sum_15 rfl ?_
      refine sim_aload_n dX4_sum_16 rfl ?_
      refine sim_iload_n dX4_sum_17 rfl ?_
      refine sim_iald dX4_sum_18 rfl (by decide) ?_
      refine sim_iadd dX4_sum_19 ?_
      refine sim_istore_n (fun z => [(0, pR 0 k1 11), (1, pI x2), (2, pI z), (3, pI x7)]) [1, 2, 0, 3] dX4_sum_20 (by decide) (fun _ => rfl) (fun x10 => ?_)
      refine sim_iinc (y := 1) (fun z => [(0, pR 0 k1 11), (1, pI x2), (2, pI x10), (3, pI z)]) [1, 2, 3, 0] dX4_sum_21 rfl (by decide) (by decide) (fun _ => rfl) (fun x11 => ?_)
      refine sim_goto (tgt := 4) dX4_sum_24 (by decide) ?_
      exact hs9 x10 x11

def jD_planned_73 (x2 : Int32) (x7 : Int32) (m8 : Mem) : Option (Int32 × Mem) :=
  if x2 = 0 then (Option.bind (fL_latestEnd 1 m8) (fun x9 => some (x9, m8))) else (Option.bind (fD_sum_0_11 1 (m8 (0, 1, 0) 4) m8) (fun x10 => some (x10, m8)))
def bD_planned_24 (x1 : Int32) (x2 : Int32) (s14 : Int32 → Mem → Option (Int32 × Mem)) (x12 : Int32) (m13 : Mem) : Option (Int32 × Mem) :=
  if 24 < x12 then (jD_planned_73 x2 x12 m13) else (Option.bind (fD_letAllGo 1 x1 m13) (fun q16 => Option.bind (fL_waitForNext 1 q16.2) (fun x17 => lt x17 (fun (x18 : Int32) => if 0 < x18 then (Option.bind (fL_passTime 1 x18 q16.2) (fun q19 => lt (x12 + 1) (fun (x20 : Int32) => s14 x20 q19.2))) else (jD_planned_73 x2 x12 q16.2)))))
def fD_planned (x1 : Int32) (x2 : Int32) (m3 : Mem) : Option (Int32 × Mem) :=
  Option.bind (fP_learn 0 m3) (fun m4 => Option.bind (fL_copyFrom 1 0 m4) (fun m5 => lt 0 (fun (x6 : Int32) => lz11 (bD_planned_24 x1 x2) FU x6 m5)))
abbrev rm_D_planned : Room := { frames := 6, cells := 0, slots := 0, locals := 133 }
set_option maxRecDepth 4000 in
theorem sD_planned (X : Sc) (x1 : Int32) (x2 : Int32) (m3 : Mem) : Sim X cX4_planned 5 (some .int) RX4 rm_D_planned (fun q : Int32 × Mem => q.1) (fun q : Int32 × Mem => q.2) 0 [(0, pR 4 0 0), (1, pI x1), (2, pI x2)] [] m3 (fD_planned x1 x2 m3) := by
  unfold fD_planned
  refine sim_aload_n dX4_planned_0 rfl ?_
  refine sim_get (v := pR 1 0 0) dX4_planned_1 fl_X4_36 (by decide) rfl ?_
  refine sim_aload_n dX4_planned_4 rfl ?_
  refine sim_get (v := pR 0 0 0) dX4_planned_5 fl_X4_10 (by decide) rfl ?_
  refine sim_callV (As := [pR 0 0 0]) (rest := []) (k0 := 0) dX4_planned_8 ln_X4_151 me_X1_learn rfl (by decide) rfl (by decide) (Nat.le_of_ble_eq_true rfl) (Nat.le_of_ble_eq_true rfl) rfl (sP_learn X 0 m3) (fun m4 => ?_)
  refine sim_aload_n dX4_planned_11 rfl ?_
  refine sim_get (v := pR 0 1 0) dX4_planned_12 fl_X4_16 (by decide) rfl ?_
  refine sim_aload_n dX4_planned_15 rfl ?_
  refine sim_get (v := pR 0 0 0) dX4_planned_16 fl_X4_10 (by decide) rfl ?_
  refine sim_callV (As := [pR 0 0 0]) (rest := []) (k0 := 1) dX4_planned_19 ln_X4_76 me_X0_copyFrom rfl (by decide) rfl (by decide) (Nat.le_of_ble_eq_true rfl) (Nat.le_of_ble_eq_true rfl) rfl (sL_copyFrom X 1 0 m4) (fun m5 => ?_)
  refine sim_iconst (v := 0) dX4_planned_22 (by decide) ?_
  refine sim_istore_n (fun z => [(0, pR 4 0 0), (1, pI x1), (2, pI x2), (3, pI z)]) [1, 2, 3, 0] dX4_planned_23 (by decide) (fun _ => rfl) (fun x6 => ?_)
  have hJ11 : ∀ (x7 : Int32) (m8 : Mem), Sim X cX4_planned 5 (some .int) RX4 rm_D_planned (fun q : Int32 × Mem => q.1) (fun q : Int32 × Mem => q.2) 73 [(0, pR 4 0 0), (1, pI x1), (2, pI x2), (3, pI x7)] [] m8 (jD_planned_73 x2 x7 m8) := by
    intro x7 m8
    unfold jD_planned_73
    refine sim_iload_n dX4_planned_73 rfl ?_
    refine sim_if_eq (tgt := 97) dX4_planned_74 (by decide) ?_ ?_
    · refine sim_aload_n dX4_planned_97 rfl ?_
      refine sim_get (v := pR 0 1 0) dX4_planned_98 fl_X4_16 (by decide) rfl ?_
      refine sim_callV (As := []) (rest := []) (k0 := 1) dX4_planned_101 ln_X4_283 me_X0_latestEnd rfl (by decide) rfl (by decide) (Nat.le_of_ble_eq_true rfl) (Nat.le_of_ble_eq_true rfl) rfl (sL_latestEnd X 1 m8) (fun x9 => ?_)
      exact sim_iret dX4_planned_104 rfl rfl
    · refine sim_aload_n dX4_planned_77 rfl ?_
      refine sim_get (v := pR 0 1 0) dX4_planned_78 fl_X4_16 (by decide) rfl ?_
      refine sim_get (v := pR 0 1 11) dX4_planned_81 fl_X4_145 (by decide) rfl ?_
      refine sim_aload_n dX4_planned_84 rfl ?_
      refine sim_get (v := pR 0 1 0) dX4_planned_85 fl_X4_16 (by decide) rfl ?_
      refine sim_get (v := pI (m8 (0, 1, 0) 4)) dX4_planned_88 fl_X4_83 (by decide) rfl ?_
      refine sim_callS (As := [pR 0 1 11, pI (m8 (0, 1, 0) 4)]) (rest := []) dX4_planned_91 ln_X4_255 me_X4_sum rfl (by decide) (Nat.le_of_ble_eq_true rfl) (Nat.le_of_ble_eq_true rfl) rfl (sD_sum_0_11 X 1 (m8 (0, 1, 0) 4) m8) (fun x10 => ?_)
      refine sim_goto (tgt := 104) dX4_planned_94 (by decide) ?_
      exact sim_iret dX4_planned_104 rfl rfl
  refine sim_lz11 (fun z0 => [(0, pR 4 0 0), (1, pI x1), (2, pI x2), (3, pI z0)]) (fun s14 hs15 x12 m13 => ?_) FU x6 m5
  unfold bD_planned_24
  refine sim_iload_n dX4_planned_24 rfl ?_
  refine sim_bipush (v := 24) dX4_planned_25 (by decide) ?_
  refine sim_icmp_gt (tgt := 73) dX4_planned_27 (by decide) ?_ ?_
  · exact hJ11 x12 m13
  · refine sim_aload_n dX4_planned_30 rfl ?_
    refine sim_aload_n dX4_planned_31 rfl ?_
    refine sim_get (v := pR 0 1 0) dX4_planned_32 fl_X4_16 (by decide) rfl ?_
    refine sim_iload_n dX4_planned_35 rfl ?_
    refine sim_callV (As := [pR 0 1 0, pI x1]) (rest := []) (k0 := 0) dX4_planned_36 ln_X4_196 me_X4_letAllGo rfl (by decide) rfl (by decide) (Nat.le_of_ble_eq_true rfl) (Nat.le_of_ble_eq_true rfl) rfl (sD_letAllGo X 1 x1 m13) (fun q16 => ?_)
    refine sim_pop dX4_planned_39 rfl ?_
    refine sim_aload_n dX4_planned_40 rfl ?_
    refine sim_get (v := pR 0 1 0) dX4_planned_41 fl_X4_16 (by decide) rfl ?_
    refine sim_callV (As := []) (rest := []) (k0 := 1) dX4_planned_44 ln_X4_280 me_X0_waitForNext rfl (by decide) rfl (by decide) (Nat.le_of_ble_eq_true rfl) (Nat.le_of_ble_eq_true rfl) rfl (sL_waitForNext X 1 q16.2) (fun x17 => ?_)
    refine sim_istore (fun z => [(0, pR 4 0 0), (1, pI x1), (2, pI x2), (3, pI x12), (4, pI z)]) [1, 2, 3, 4, 0] dX4_planned_47 (by decide) (fun _ => rfl) (fun x18 => ?_)
    refine sim_iload dX4_planned_49 rfl ?_
    refine sim_if_gt (tgt := 57) dX4_planned_51 (by decide) ?_ ?_
    · refine sim_aload_n dX4_planned_57 rfl ?_
      refine sim_get (v := pR 0 1 0) dX4_planned_58 fl_X4_16 (by decide) rfl ?_
      refine sim_iload dX4_planned_61 rfl ?_
      refine sim_callV (As := [pI x18]) (rest := []) (k0 := 1) dX4_planned_63 ln_X4_193 me_X0_passTime rfl (by decide) rfl (by decide) (Nat.le_of_ble_eq_true rfl) (Nat.le_of_ble_eq_true rfl) rfl (sL_passTime X 1 x18 q16.2) (fun q19 => ?_)
      refine sim_pop dX4_planned_66 rfl ?_
      refine sim_iinc (y := 1) (fun z => [(0, pR 4 0 0), (1, pI x1), (2, pI x2), (3, pI z), (4, pI x18)]) [1, 2, 3, 0, 4] dX4_planned_67 rfl (by decide) (by decide) (fun _ => rfl) (fun x20 => ?_)
      refine sim_goto (tgt := 24) dX4_planned_70 (by decide) ?_
      refine sim_pick [(0, pR 4 0 0), (1, pI x1), (2, pI x2), (3, pI x20)] [0, 1, 2, 3] rfl ?_
      exact hs15 x20 q19.2
    · refine sim_goto (tgt := 73) dX4_planned_54 (by decide) ?_
      refine sim_pick [(0, pR 4 0 0), (1, pI x1), (2, pI x2), (3, pI x12)] [0, 1, 2, 3] rfl ?_
      exact hJ11 x12 q16.2

def fD_plan (x1 : Int32) (x2 : Int32) (m3 : Mem) : Option (Int32 × Mem) :=
  Option.bind (fD_isRule x1 m3) (fun x4 => if x4 = 0 then (some ((-1), m3)) else (if x2 < 0 then (some ((-1), m3)) else (if x2 ≤ 1 then (lt (if x2 = 1 then 1 else 0) (fun (x5 : Int32) => Option.bind (fD_planned x1 x5 m3) (fun q6 => some (q6.1, q6.2)))) else (some ((-1), m3)))))
abbrev rm_D_plan : Room := { frames := 7, cells := 0, slots := 0, locals := 157 }
set_option maxRecDepth 4000 in
theorem sD_plan (X : Sc) (x1 : Int32) (x2 : Int32) (m3 : Mem) : Sim X cX4_plan 3 (some .int) RX4 rm_D_plan (fun q : Int32 × Mem => q.1) (fun q : Int32 × Mem => q.2) 0 [(0, pR 4 0 0), (1, pI x1), (2, pI x2)] [] m3 (fD_plan x1 x2 m3) := by
  unfold fD_plan
  refine sim_iload_n dX4_plan_0 rfl ?_
  refine sim_callS (As := [pI x1]) (rest := []) dX4_plan_1 ln_X4_183 me_X4_isRule rfl (by decide) (Nat.le_of_ble_eq_true rfl) (Nat.le_of_ble_eq_true rfl) rfl (sD_isRule X x1 m3) (fun x4 => ?_)
  refine sim_if_eq (tgt := 16) dX4_plan_4 (by decide) ?_ ?_
  · refine sim_iconst (v := (-1)) dX4_plan_16 (by decide) ?_
    exact sim_iret dX4_plan_17 rfl rfl
  · refine sim_iload_n dX4_plan_7 rfl ?_
    refine sim_if_lt (tgt := 16) dX4_plan_8 (by decide) ?_ ?_
    · refine sim_iconst (v := (-1)) dX4_plan_16 (by decide) ?_
      exact sim_iret dX4_plan_17 rfl rfl
    · refine sim_iload_n dX4_plan_11 rfl ?_
      refine sim_iconst (v := 1) dX4_plan_12 (by decide) ?_
      refine sim_icmp_le (tgt := 18) dX4_plan_13 (by decide) ?_ ?_
      · refine sim_aload_n dX4_plan_18 rfl ?_
        refine sim_iload_n dX4_plan_19 rfl ?_
        refine sim_iload_n dX4_plan_20 rfl ?_
        refine sim_iconst (v := 1) dX4_plan_21 (by decide) ?_
        refine sim_jv 30 [(0, pR 4 0 0), (1, pI x1), (2, pI x2)] [pI x1, pR 4 0 0] (fun x5 => ?_) (fun hV7 => ?_)
        · refine sim_callV (As := [pI x1, pI x5]) (rest := []) (k0 := 0) dX4_plan_30 ln_X4_186 me_X4_planned rfl (by decide) rfl (by decide) (Nat.le_of_ble_eq_true rfl) (Nat.le_of_ble_eq_true rfl) rfl (sD_planned X x1 x5 m3) (fun q6 => ?_)
          exact sim_iret dX4_plan_33 rfl rfl
        · refine sim_eq (lt_ite _ _ _ _) ?_
          refine sim_icmp_ne (tgt := 29) dX4_plan_22 (by decide) ?_ ?_
          · refine sim_iconst (v := 1) dX4_plan_25 (by decide) ?_
            refine sim_goto (tgt := 30) dX4_plan_26 (by decide) ?_
            exact hV7 _
          · refine sim_iconst (v := 0) dX4_plan_29 (by decide) ?_
            exact hV7 _
      · refine sim_iconst (v := (-1)) dX4_plan_16 (by decide) ?_
        exact sim_iret dX4_plan_17 rfl rfl

def bD_best_24 (s10 : Int32 → Int32 → Int32 → Mem → Option (Int32 × Mem)) (x6 : Int32) (x7 : Int32) (x8 : Int32) (m9 : Mem) : Option (Int32 × Mem) :=
  if 3 ≤ x8 then (some (x6, m9)) else (Option.bind (fD_planned x8 1 m9) (fun q12 => lt q12.1 (fun (x13 : Int32) => if x7 ≤ x13 then (lt (x8 + 1) (fun (x14 : Int32) => s10 x6 x7 x14 q12.2)) else (lt x13 (fun (x15 : Int32) => lt x8 (fun (x16 : Int32) => lt (x8 + 1) (fun (x17 : Int32) => s10 x16 x15 x17 q12.2)))))))
def fD_best (m1 : Mem) : Option (Int32 × Mem) :=
  if (m1 (0, 0, 0) 4) = 0 then (some ((-4), m1)) else (lt 0 (fun (x2 : Int32) => Option.bind (fD_planned 0 1 m1) (fun q3 => lt q3.1 (fun (x4 : Int32) => lt 1 (fun (x5 : Int32) => lz31 (bD_best_24) FU x2 x4 x5 q3.2)))))
abbrev rm_D_best : Room := { frames := 7, cells := 0, slots := 0, locals := 157 }
set_option maxRecDepth 4000 in
theorem sD_best (X : Sc) (m1 : Mem) : Sim X cX4_best 5 (some .int) RX4 rm_D_best (fun q : Int32 × Mem => q.1) (fun q : Int32 × Mem => q.2) 0 [(0, pR 4 0 0)] [] m1 (fD_best m1) := by
  unfold fD_best
  refine sim_aload_n dX4_best_0 rfl ?_
  refine sim_get (v := pR 0 0 0) dX4_best_1 fl_X4_10 (by decide) rfl ?_
  refine sim_get (v := pI (m1 (0, 0, 0) 4)) dX4_best_4 fl_X4_83 (by decide) rfl ?_
  refine sim_if_ne (tgt := 13) dX4_best_7 (by decide) ?_ ?_
  · refine sim_bipush (v := (-4)) dX4_best_10 (by decide) ?_
    exact sim_iret dX4_best_12 rfl rfl
  · refine sim_iconst (v := 0) dX4_best_13 (by decide) ?_
    refine sim_istore_n (fun z => [(0, pR 4 0 0), (1, pI z)]) [1, 0] dX4_best_14 (by decide) (fun _ => rfl) (fun x2 => ?_)
    refine sim_aload_n dX4_best_15 rfl ?_
    refine sim_iconst (v := 0) dX4_best_16 (by decide) ?_
    refine sim_iconst (v := 1) dX4_best_17 (by decide) ?_
    refine sim_callV (As := [pI 0, pI 1]) (rest := []) (k0 := 0) dX4_best_18 ln_X4_186 me_X4_planned rfl (by decide) rfl (by decide) (Nat.le_of_ble_eq_true rfl) (Nat.le_of_ble_eq_true rfl) rfl (sD_planned X 0 1 m1) (fun q3 => ?_)
    refine sim_istore_n (fun z => [(0, pR 4 0 0), (1, pI x2), (2, pI z)]) [1, 2, 0] dX4_best_21 (by decide) (fun _ => rfl) (fun x4 => ?_)
    refine sim_iconst (v := 1) dX4_best_22 (by decide) ?_
    refine sim_istore_n (fun z => [(0, pR 4 0 0), (1, pI x2), (2, pI x4), (3, pI z)]) [1, 2, 3, 0] dX4_best_23 (by decide) (fun _ => rfl) (fun x5 => ?_)
    refine sim_lz31 (fun z0 z1 z2 => [(0, pR 4 0 0), (1, pI z0), (2, pI z1), (3, pI z2)]) (fun s10 hs11 x6 x7 x8 m9 => ?_) FU x2 x4 x5 q3.2
    unfold bD_best_24
    refine sim_iload_n dX4_best_24 rfl ?_
    refine sim_iconst (v := 3) dX4_best_25 (by decide) ?_
    refine sim_icmp_ge (tgt := 54) dX4_best_26 (by decide) ?_ ?_
    · refine sim_iload_n dX4_best_54 rfl ?_
      exact sim_iret dX4_best_55 rfl rfl
    · refine sim_aload_n dX4_best_29 rfl ?_
      refine sim_iload_n dX4_best_30 rfl ?_
      refine sim_iconst (v := 1) dX4_best_31 (by decide) ?_
      refine sim_callV (As := [pI x8, pI 1]) (rest := []) (k0 := 0) dX4_best_32 ln_X4_186 me_X4_planned rfl (by decide) rfl (by decide) (Nat.le_of_ble_eq_true rfl) (Nat.le_of_ble_eq_true rfl) rfl (sD_planned X x8 1 m9) (fun q12 => ?_)
      refine sim_istore (fun z => [(0, pR 4 0 0), (1, pI x6), (2, pI x7), (3, pI x8), (4, pI z)]) [1, 2, 3, 4, 0] dX4_best_35 (by decide) (fun _ => rfl) (fun x13 => ?_)
      refine sim_iload dX4_best_37 rfl ?_
      refine sim_iload_n dX4_best_39 rfl ?_
      refine sim_icmp_ge (tgt := 48) dX4_best_40 (by decide) ?_ ?_
      · refine sim_iinc (y := 1) (fun z => [(0, pR 4 0 0), (1, pI x6), (2, pI x7), (3, pI z), (4, pI x13)]) [1, 2, 3, 0, 4] dX4_best_48 rfl (by decide) (by decide) (fun _ => rfl) (fun x14 => ?_)
        refine sim_goto (tgt := 24) dX4_best_51 (by decide) ?_
        refine sim_pick [(0, pR 4 0 0), (1, pI x6), (2, pI x7), (3, pI x14)] [0, 1, 2, 3] rfl ?_
        exact hs11 x6 x7 x14 q12.2
      · refine sim_iload dX4_best_43 rfl ?_
        refine sim_istore_n (fun z => [(0, pR 4 0 0), (1, pI x6), (2, pI z), (3, pI x8), (4, pI x13)]) [1, 2, 0, 3, 4] dX4_best_45 (by decide) (fun _ => rfl) (fun x15 => ?_)
        refine sim_iload_n dX4_best_46 rfl ?_
        refine sim_istore_n (fun z => [(0, pR 4 0 0), (1, pI z), (2, pI x15), (3, pI x8), (4, pI x13)]) [1, 0, 2, 3, 4] dX4_best_47 (by decide) (fun _ => rfl) (fun x16 => ?_)
        refine sim_iinc (y := 1) (fun z => [(0, pR 4 0 0), (1, pI x16), (2, pI x15), (3, pI z), (4, pI x13)]) [1, 2, 3, 0, 4] dX4_best_48 rfl (by decide) (by decide) (fun _ => rfl) (fun x17 => ?_)
        refine sim_goto (tgt := 24) dX4_best_51 (by decide) ?_
        refine sim_pick [(0, pR 4 0 0), (1, pI x16), (2, pI x15), (3, pI x17)] [0, 1, 2, 3] rfl ?_
        exact hs11 x16 x15 x17 q12.2

def fD_let (x1 : Int32) (m2 : Mem) : Option (Int32 × Mem) :=
  Option.bind (fL_hasTrain 0 x1 m2) (fun x3 => if x3 = 0 then (some ((-1), m2)) else (Option.bind (fP_learn 0 m2) (fun m4 => Option.bind (fD_against 0 x1 m4) (fun x5 => if x5 = 0 then (Option.bind (fL_depart 0 x1 m4) (fun m6 => gd (inb x1 4) (some (m6 (0, 0, 11) (ix x1), m6)))) else (some ((-2), m4))))))
abbrev rm_D_let : Room := { frames := 5, cells := 0, slots := 0, locals := 119 }
set_option maxRecDepth 4000 in
theorem sD_let (X : Sc) (x1 : Int32) (m2 : Mem) : Sim X cX4_let 2 (some .int) RX4 rm_D_let (fun q : Int32 × Mem => q.1) (fun q : Int32 × Mem => q.2) 0 [(0, pR 4 0 0), (1, pI x1)] [] m2 (fD_let x1 m2) := by
  unfold fD_let
  refine sim_aload_n dX4_let_0 rfl ?_
  refine sim_get (v := pR 0 0 0) dX4_let_1 fl_X4_10 (by decide) rfl ?_
  refine sim_iload_n dX4_let_4 rfl ?_
  refine sim_callV (As := [pI x1]) (rest := []) (k0 := 0) dX4_let_5 ln_X4_124 me_X0_hasTrain rfl (by decide) rfl (by decide) (Nat.le_of_ble_eq_true rfl) (Nat.le_of_ble_eq_true rfl) rfl (sL_hasTrain X 0 x1 m2) (fun x3 => ?_)
  refine sim_if_ne (tgt := 13) dX4_let_8 (by decide) ?_ ?_
  · refine sim_iconst (v := (-1)) dX4_let_11 (by decide) ?_
    exact sim_iret dX4_let_12 rfl rfl
  · refine sim_aload_n dX4_let_13 rfl ?_
    refine sim_get (v := pR 1 0 0) dX4_let_14 fl_X4_36 (by decide) rfl ?_
    refine sim_aload_n dX4_let_17 rfl ?_
    refine sim_get (v := pR 0 0 0) dX4_let_18 fl_X4_10 (by decide) rfl ?_
    refine sim_callV (As := [pR 0 0 0]) (rest := []) (k0 := 0) dX4_let_21 ln_X4_151 me_X1_learn rfl (by decide) rfl (by decide) (Nat.le_of_ble_eq_true rfl) (Nat.le_of_ble_eq_true rfl) rfl (sP_learn X 0 m2) (fun m4 => ?_)
    refine sim_aload_n dX4_let_24 rfl ?_
    refine sim_aload_n dX4_let_25 rfl ?_
    refine sim_get (v := pR 0 0 0) dX4_let_26 fl_X4_10 (by decide) rfl ?_
    refine sim_iload_n dX4_let_29 rfl ?_
    refine sim_callV (As := [pR 0 0 0, pI x1]) (rest := []) (k0 := 0) dX4_let_30 ln_X4_154 me_X4_against rfl (by decide) rfl (by decide) (Nat.le_of_ble_eq_true rfl) (Nat.le_of_ble_eq_true rfl) rfl (sD_against X 0 x1 m4) (fun x5 => ?_)
    refine sim_if_eq (tgt := 39) dX4_let_33 (by decide) ?_ ?_
    · refine sim_aload_n dX4_let_39 rfl ?_
      refine sim_get (v := pR 0 0 0) dX4_let_40 fl_X4_10 (by decide) rfl ?_
      refine sim_iload_n dX4_let_43 rfl ?_
      refine sim_callV (As := [pI x1]) (rest := []) (k0 := 0) dX4_let_44 ln_X4_190 me_X0_depart rfl (by decide) rfl (by decide) (Nat.le_of_ble_eq_true rfl) (Nat.le_of_ble_eq_true rfl) rfl (sL_depart X 0 x1 m4) (fun m6 => ?_)
      refine sim_aload_n dX4_let_47 rfl ?_
      refine sim_get (v := pR 0 0 0) dX4_let_48 fl_X4_10 (by decide) rfl ?_
      refine sim_get (v := pR 0 0 11) dX4_let_51 fl_X4_145 (by decide) rfl ?_
      refine sim_iload_n dX4_let_54 rfl ?_
      refine sim_iald dX4_let_55 rfl (by decide) ?_
      exact sim_iret dX4_let_56 rfl rfl
    · refine sim_bipush (v := (-2)) dX4_let_36 (by decide) ?_
      exact sim_iret dX4_let_38 rfl rfl

def fD_tick (x1 : Int32) (m2 : Mem) : Option (Int32 × Mem) :=
  if x1 < 1 then (some ((-1), m2)) else (if x1 ≤ 60 then (Option.bind (fL_passTime 0 x1 m2) (fun q3 => some (q3.1, q3.2))) else (some ((-1), m2)))
abbrev rm_D_tick : Room := { frames := 1, cells := 0, slots := 0, locals := 23 }
set_option maxRecDepth 4000 in
theorem sD_tick (X : Sc) (x1 : Int32) (m2 : Mem) : Sim X cX4_tick 2 (some .int) RX4 rm_D_tick (fun q : Int32 × Mem => q.1) (fun q : Int32 × Mem => q.2) 0 [(0, pR 4 0 0), (1, pI x1)] [] m2 (fD_tick x1 m2) := by
  unfold fD_tick
  refine sim_iload_n dX4_tick_0 rfl ?_
  refine sim_iconst (v := 1) dX4_tick_1 (by decide) ?_
  refine sim_icmp_lt (tgt := 11) dX4_tick_2 (by decide) ?_ ?_
  · refine sim_iconst (v := (-1)) dX4_tick_11 (by decide) ?_
    exact sim_iret dX4_tick_12 rfl rfl
  · refine sim_iload_n dX4_tick_5 rfl ?_
    refine sim_bipush (v := 60) dX4_tick_6 (by decide) ?_
    refine sim_icmp_le (tgt := 13) dX4_tick_8 (by decide) ?_ ?_
    · refine sim_aload_n dX4_tick_13 rfl ?_
      refine sim_get (v := pR 0 0 0) dX4_tick_14 fl_X4_10 (by decide) rfl ?_
      refine sim_iload_n dX4_tick_17 rfl ?_
      refine sim_callV (As := [pI x1]) (rest := []) (k0 := 0) dX4_tick_18 ln_X4_193 me_X0_passTime rfl (by decide) rfl (by decide) (Nat.le_of_ble_eq_true rfl) (Nat.le_of_ble_eq_true rfl) rfl (sL_passTime X 0 x1 m2) (fun q3 => ?_)
      exact sim_iret dX4_tick_21 rfl rfl
    · refine sim_iconst (v := (-1)) dX4_tick_11 (by decide) ?_
      exact sim_iret dX4_tick_12 rfl rfl

def fD_send (x1 : Int32) (m2 : Mem) : Option (Int32 × Mem) :=
  Option.bind (fD_isRule x1 m2) (fun x3 => if x3 = 0 then (some ((-1), m2)) else (Option.bind (fP_learn 0 m2) (fun m4 => Option.bind (fD_letAllGo 0 x1 m4) (fun q5 => some (q5.1, q5.2)))))
abbrev rm_D_send : Room := { frames := 6, cells := 0, slots := 0, locals := 133 }
set_option maxRecDepth 4000 in
theorem sD_send (X : Sc) (x1 : Int32) (m2 : Mem) : Sim X cX4_send 2 (some .int) RX4 rm_D_send (fun q : Int32 × Mem => q.1) (fun q : Int32 × Mem => q.2) 0 [(0, pR 4 0 0), (1, pI x1)] [] m2 (fD_send x1 m2) := by
  unfold fD_send
  refine sim_iload_n dX4_send_0 rfl ?_
  refine sim_callS (As := [pI x1]) (rest := []) dX4_send_1 ln_X4_183 me_X4_isRule rfl (by decide) (Nat.le_of_ble_eq_true rfl) (Nat.le_of_ble_eq_true rfl) rfl (sD_isRule X x1 m2) (fun x3 => ?_)
  refine sim_if_ne (tgt := 9) dX4_send_4 (by decide) ?_ ?_
  · refine sim_iconst (v := (-1)) dX4_send_7 (by decide) ?_
    exact sim_iret dX4_send_8 rfl rfl
  · refine sim_aload_n dX4_send_9 rfl ?_
    refine sim_get (v := pR 1 0 0) dX4_send_10 fl_X4_36 (by decide) rfl ?_
    refine sim_aload_n dX4_send_13 rfl ?_
    refine sim_get (v := pR 0 0 0) dX4_send_14 fl_X4_10 (by decide) rfl ?_
    refine sim_callV (As := [pR 0 0 0]) (rest := []) (k0 := 0) dX4_send_17 ln_X4_151 me_X1_learn rfl (by decide) rfl (by decide) (Nat.le_of_ble_eq_true rfl) (Nat.le_of_ble_eq_true rfl) rfl (sP_learn X 0 m2) (fun m4 => ?_)
    refine sim_aload_n dX4_send_20 rfl ?_
    refine sim_aload_n dX4_send_21 rfl ?_
    refine sim_get (v := pR 0 0 0) dX4_send_22 fl_X4_10 (by decide) rfl ?_
    refine sim_iload_n dX4_send_25 rfl ?_
    refine sim_callV (As := [pR 0 0 0, pI x1]) (rest := []) (k0 := 0) dX4_send_26 ln_X4_196 me_X4_letAllGo rfl (by decide) rfl (by decide) (Nat.le_of_ble_eq_true rfl) (Nat.le_of_ble_eq_true rfl) rfl (sD_letAllGo X 0 x1 m4) (fun q5 => ?_)
    exact sim_iret dX4_send_29 rfl rfl

def fD_journal (x1 : Int32) (x2 : Int32) (m3 : Mem) : Option Int32 :=
  if x1 < 0 then (some (-1)) else (if x2 < 0 then (some (-1)) else (if x2 ≤ 2 then (if x1 < (m3 (0, 0, 0) 12) then (if x2 = 0 then (gd (inb x1 60) (some (m3 (0, 0, 14) (ix x1)))) else (if x2 = 1 then (gd (inb x1 60) (some (m3 (0, 0, 15) (ix x1)))) else (gd (inb x1 60) (some (m3 (0, 0, 16) (ix x1)))))) else (some (-4))) else (some (-1))))
abbrev rm_D_journal : Room := { frames := 0, cells := 0, slots := 0, locals := 0 }
set_option maxRecDepth 4000 in
theorem sD_journal (X : Sc) (x1 : Int32) (x2 : Int32) (m3 : Mem) : Sim X cX4_journal 3 (some .int) RX4 rm_D_journal (fun r : Int32 => r) (fun _ : Int32 => m3) 0 [(0, pR 4 0 0), (1, pI x1), (2, pI x2)] [] m3 (fD_journal x1 x2 m3) := by
  unfold fD_journal
  refine sim_iload_n dX4_journal_0 rfl ?_
  refine sim_if_lt (tgt := 13) dX4_journal_1 (by decide) ?_ ?_
  · refine sim_iconst (v := (-1)) dX4_journal_13 (by decide) ?_
    exact sim_iret dX4_journal_14 rfl rfl
  · refine sim_iload_n dX4_journal_4 rfl ?_
    refine sim_if_lt (tgt := 13) dX4_journal_5 (by decide) ?_ ?_
    · refine sim_iconst (v := (-1)) dX4_journal_13 (by decide) ?_
      exact sim_iret dX4_journal_14 rfl rfl
    · refine sim_iload_n dX4_journal_8 rfl ?_
      refine sim_iconst (v := 2) dX4_journal_9 (by decide) ?_
      refine sim_icmp_le (tgt := 15) dX4_journal_10 (by decide) ?_ ?_
      · refine sim_iload_n dX4_journal_15 rfl ?_
        refine sim_aload_n dX4_journal_16 rfl ?_
        refine sim_get (v := pR 0 0 0) dX4_journal_17 fl_X4_10 (by decide) rfl ?_
        refine sim_get (v := pI (m3 (0, 0, 0) 12)) dX4_journal_20 fl_X4_93 (by decide) rfl ?_
        refine sim_icmp_lt (tgt := 29) dX4_journal_23 (by decide) ?_ ?_
        · refine sim_iload_n dX4_journal_29 rfl ?_
          refine sim_case ?_ (fun hc4 => ?_)
          · refine sim_look (off := 26) (tgt := 56) dX4_journal_30 (by decide) (by decide) (by decide) ?_
            refine sim_aload_n dX4_journal_56 rfl ?_
            refine sim_get (v := pR 0 0 0) dX4_journal_57 fl_X4_10 (by decide) rfl ?_
            refine sim_get (v := pR 0 0 14) dX4_journal_60 fl_X4_199 (by decide) rfl ?_
            refine sim_iload_n dX4_journal_63 rfl ?_
            refine sim_iald dX4_journal_64 rfl (by decide) ?_
            exact sim_iret dX4_journal_65 rfl rfl
          · refine sim_case ?_ (fun hc5 => ?_)
            · refine sim_look (off := 36) (tgt := 66) dX4_journal_30 (by decide) (by decide) (by decide) ?_
              refine sim_aload_n dX4_journal_66 rfl ?_
              refine sim_get (v := pR 0 0 0) dX4_journal_67 fl_X4_10 (by decide) rfl ?_
              refine sim_get (v := pR 0 0 15) dX4_journal_70 fl_X4_202 (by decide) rfl ?_
              refine sim_iload_n dX4_journal_73 rfl ?_
              refine sim_iald dX4_journal_74 rfl (by decide) ?_
              exact sim_iret dX4_journal_75 rfl rfl
            · have e0_ := ne_lit hc4 (n := 0) (by decide)
              have e1_ := ne_lit hc5 (n := 1) (by decide)
              refine sim_look (off := 46) (tgt := 76) dX4_journal_30 (by decide) (by rw [Op.lookupswitch.offset_cons, if_neg (fun z => e0_ z.symm), Op.lookupswitch.offset_cons, if_neg (fun z => e1_ z.symm), Op.lookupswitch.offset_nil]) (by decide) ?_
              refine sim_aload_n dX4_journal_76 rfl ?_
              refine sim_get (v := pR 0 0 0) dX4_journal_77 fl_X4_10 (by decide) rfl ?_
              refine sim_get (v := pR 0 0 16) dX4_journal_80 fl_X4_205 (by decide) rfl ?_
              refine sim_iload_n dX4_journal_83 rfl ?_
              refine sim_iald dX4_journal_84 rfl (by decide) ?_
              exact sim_iret dX4_journal_85 rfl rfl
        · refine sim_bipush (v := (-4)) dX4_journal_26 (by decide) ?_
          exact sim_iret dX4_journal_28 rfl rfl
      · refine sim_iconst (v := (-1)) dX4_journal_13 (by decide) ?_
        exact sim_iret dX4_journal_14 rfl rfl

def jD_add_125 (m11 : Mem) : Option (Int32 × Mem) :=
  lt (wr m11 (0, 0, 0) 4 ((m11 (0, 0, 0) 4) - 1)) (fun m12 => Option.bind (fP_forget m12) (fun m13 => some ((-2), m13)))
def fD_add (x1 : Int32) (x2 : Int32) (x3 : Int32) (m4 : Mem) : Option (Int32 × Mem) :=
  Option.bind (fL_hasPlace 0 x1 m4) (fun x5 => if x5 = 0 then (some ((-1), m4)) else (Option.bind (fL_hasPlace 0 x2 m4) (fun x6 => if x6 = 0 then (some ((-1), m4)) else (if x1 = x2 then (some ((-1), m4)) else (if x3 < 1 then (some ((-1), m4)) else (if x3 ≤ 20 then (if (m4 (0, 0, 0) 4) < 4 then (Option.bind (fL_openTrain 0 x1 x2 x3 m4) (fun m7 => Option.bind (fP_forget m7) (fun m8 => Option.bind (fP_learnRooms 0 m8) (fun m9 => Option.bind (fP_holdsAll 0 m9) (fun q10 => if q10.1 = 0 then (jD_add_125 q10.2) else (Option.bind (fP_learn 0 q10.2) (fun m15 => Option.bind (fP_isSafe m15) (fun x16 => if x16 = 0 then (jD_add_125 m15) else (some (m15 (0, 0, 0) 4, m15)))))))))) else (some ((-3), m4))) else (some ((-1), m4))))))))
abbrev rm_D_add : Room := { frames := 5, cells := 0, slots := 0, locals := 119 }
set_option maxRecDepth 4000 in
theorem sD_add (X : Sc) (x1 : Int32) (x2 : Int32) (x3 : Int32) (m4 : Mem) : Sim X cX4_add 4 (some .int) RX4 rm_D_add (fun q : Int32 × Mem => q.1) (fun q : Int32 × Mem => q.2) 0 [(0, pR 4 0 0), (1, pI x1), (2, pI x2), (3, pI x3)] [] m4 (fD_add x1 x2 x3 m4) := by
  unfold fD_add
  refine sim_aload_n dX4_add_0 rfl ?_
  refine sim_get (v := pR 0 0 0) dX4_add_1 fl_X4_10 (by decide) rfl ?_
  refine sim_iload_n dX4_add_4 rfl ?_
  refine sim_callV (As := [pI x1]) (rest := []) (k0 := 0) dX4_add_5 ln_X4_107 me_X0_hasPlace rfl (by decide) rfl (by decide) (Nat.le_of_ble_eq_true rfl) (Nat.le_of_ble_eq_true rfl) rfl (sL_hasPlace X 0 x1 m4) (fun x5 => ?_)
  refine sim_if_eq (tgt := 38) dX4_add_8 (by decide) ?_ ?_
  · refine sim_iconst (v := (-1)) dX4_add_38 (by decide) ?_
    exact sim_iret dX4_add_39 rfl rfl
  · refine sim_aload_n dX4_add_11 rfl ?_
    refine sim_get (v := pR 0 0 0) dX4_add_12 fl_X4_10 (by decide) rfl ?_
    refine sim_iload_n dX4_add_15 rfl ?_
    refine sim_callV (As := [pI x2]) (rest := []) (k0 := 0) dX4_add_16 ln_X4_107 me_X0_hasPlace rfl (by decide) rfl (by decide) (Nat.le_of_ble_eq_true rfl) (Nat.le_of_ble_eq_true rfl) rfl (sL_hasPlace X 0 x2 m4) (fun x6 => ?_)
    refine sim_if_eq (tgt := 38) dX4_add_19 (by decide) ?_ ?_
    · refine sim_iconst (v := (-1)) dX4_add_38 (by decide) ?_
      exact sim_iret dX4_add_39 rfl rfl
    · refine sim_iload_n dX4_add_22 rfl ?_
      refine sim_iload_n dX4_add_23 rfl ?_
      refine sim_icmp_eq (tgt := 38) dX4_add_24 (by decide) ?_ ?_
      · refine sim_iconst (v := (-1)) dX4_add_38 (by decide) ?_
        exact sim_iret dX4_add_39 rfl rfl
      · refine sim_iload_n dX4_add_27 rfl ?_
        refine sim_iconst (v := 1) dX4_add_28 (by decide) ?_
        refine sim_icmp_lt (tgt := 38) dX4_add_29 (by decide) ?_ ?_
        · refine sim_iconst (v := (-1)) dX4_add_38 (by decide) ?_
          exact sim_iret dX4_add_39 rfl rfl
        · refine sim_iload_n dX4_add_32 rfl ?_
          refine sim_bipush (v := 20) dX4_add_33 (by decide) ?_
          refine sim_icmp_le (tgt := 40) dX4_add_35 (by decide) ?_ ?_
          · refine sim_aload_n dX4_add_40 rfl ?_
            refine sim_get (v := pR 0 0 0) dX4_add_41 fl_X4_10 (by decide) rfl ?_
            refine sim_get (v := pI (m4 (0, 0, 0) 4)) dX4_add_44 fl_X4_83 (by decide) rfl ?_
            refine sim_iconst (v := 4) dX4_add_47 (by decide) ?_
            refine sim_icmp_lt (tgt := 54) dX4_add_48 (by decide) ?_ ?_
            · refine sim_aload_n dX4_add_54 rfl ?_
              refine sim_get (v := pR 0 0 0) dX4_add_55 fl_X4_10 (by decide) rfl ?_
              refine sim_iload_n dX4_add_58 rfl ?_
              refine sim_iload_n dX4_add_59 rfl ?_
              refine sim_iload_n dX4_add_60 rfl ?_
              refine sim_callV (As := [pI x1, pI x2, pI x3]) (rest := []) (k0 := 0) dX4_add_61 ln_X4_208 me_X0_openTrain rfl (by decide) rfl (by decide) (Nat.le_of_ble_eq_true rfl) (Nat.le_of_ble_eq_true rfl) rfl (sL_openTrain X 0 x1 x2 x3 m4) (fun m7 => ?_)
              refine sim_aload_n dX4_add_64 rfl ?_
              refine sim_get (v := pR 1 0 0) dX4_add_65 fl_X4_36 (by decide) rfl ?_
              refine sim_callV (As := []) (rest := []) (k0 := 0) dX4_add_68 ln_X4_70 me_X1_forget rfl (by decide) rfl (by decide) (Nat.le_of_ble_eq_true rfl) (Nat.le_of_ble_eq_true rfl) rfl (sP_forget X m7) (fun m8 => ?_)
              refine sim_aload_n dX4_add_71 rfl ?_
              refine sim_get (v := pR 1 0 0) dX4_add_72 fl_X4_36 (by decide) rfl ?_
              refine sim_aload_n dX4_add_75 rfl ?_
              refine sim_get (v := pR 0 0 0) dX4_add_76 fl_X4_10 (by decide) rfl ?_
              refine sim_callV (As := [pR 0 0 0]) (rest := []) (k0 := 0) dX4_add_79 ln_X4_170 me_X1_learnRooms rfl (by decide) rfl (by decide) (Nat.le_of_ble_eq_true rfl) (Nat.le_of_ble_eq_true rfl) rfl (sP_learnRooms X 0 m8) (fun m9 => ?_)
              refine sim_aload_n dX4_add_82 rfl ?_
              refine sim_get (v := pR 1 0 0) dX4_add_83 fl_X4_36 (by decide) rfl ?_
              refine sim_aload_n dX4_add_86 rfl ?_
              refine sim_get (v := pR 0 0 0) dX4_add_87 fl_X4_10 (by decide) rfl ?_
              refine sim_callV (As := [pR 0 0 0]) (rest := []) (k0 := 0) dX4_add_90 ln_X4_212 me_X1_holdsAll rfl (by decide) rfl (by decide) (Nat.le_of_ble_eq_true rfl) (Nat.le_of_ble_eq_true rfl) rfl (sP_holdsAll X 0 m9) (fun q10 => ?_)
              have hJ14 : ∀ (m11 : Mem), Sim X cX4_add 4 (some .int) RX4 rm_D_add (fun q : Int32 × Mem => q.1) (fun q : Int32 × Mem => q.2) 125 [(0, pR 4 0 0), (1, pI x1), (2, pI x2), (3, pI x3)] [] m11 (jD_add_125 m11) := by
                intro m11
                unfold jD_add_125
                refine sim_aload_n dX4_add_125 rfl ?_
                refine sim_get (v := pR 0 0 0) dX4_add_126 fl_X4_10 (by decide) rfl ?_
                refine sim_dup dX4_add_129 rfl ?_
                refine sim_get (v := pI (m11 (0, 0, 0) 4)) dX4_add_130 fl_X4_83 (by decide) rfl ?_
                refine sim_iconst (v := 1) dX4_add_133 (by decide) ?_
                refine sim_isub dX4_add_134 ?_
                refine sim_put dX4_add_135 fl_X4_83 fp_0_4 rfl rfl (fun m12 => ?_)
                refine sim_aload_n dX4_add_138 rfl ?_
                refine sim_get (v := pR 1 0 0) dX4_add_139 fl_X4_36 (by decide) rfl ?_
                refine sim_callV (As := []) (rest := []) (k0 := 0) dX4_add_142 ln_X4_70 me_X1_forget rfl (by decide) rfl (by decide) (Nat.le_of_ble_eq_true rfl) (Nat.le_of_ble_eq_true rfl) rfl (sP_forget X m12) (fun m13 => ?_)
                refine sim_bipush (v := (-2)) dX4_add_145 (by decide) ?_
                exact sim_iret dX4_add_147 rfl rfl
              refine sim_if_eq (tgt := 125) dX4_add_93 (by decide) ?_ ?_
              · exact hJ14 q10.2
              · refine sim_aload_n dX4_add_96 rfl ?_
                refine sim_get (v := pR 1 0 0) dX4_add_97 fl_X4_36 (by decide) rfl ?_
                refine sim_aload_n dX4_add_100 rfl ?_
                refine sim_get (v := pR 0 0 0) dX4_add_101 fl_X4_10 (by decide) rfl ?_
                refine sim_callV (As := [pR 0 0 0]) (rest := []) (k0 := 0) dX4_add_104 ln_X4_151 me_X1_learn rfl (by decide) rfl (by decide) (Nat.le_of_ble_eq_true rfl) (Nat.le_of_ble_eq_true rfl) rfl (sP_learn X 0 q10.2) (fun m15 => ?_)
                refine sim_aload_n dX4_add_107 rfl ?_
                refine sim_get (v := pR 1 0 0) dX4_add_108 fl_X4_36 (by decide) rfl ?_
                refine sim_callV (As := []) (rest := []) (k0 := 0) dX4_add_111 ln_X4_216 me_X1_isSafe rfl (by decide) rfl (by decide) (Nat.le_of_ble_eq_true rfl) (Nat.le_of_ble_eq_true rfl) rfl (sP_isSafe X m15) (fun x16 => ?_)
                refine sim_if_eq (tgt := 125) dX4_add_114 (by decide) ?_ ?_
                · exact hJ14 m15
                · refine sim_aload_n dX4_add_117 rfl ?_
                  refine sim_get (v := pR 0 0 0) dX4_add_118 fl_X4_10 (by decide) rfl ?_
                  refine sim_get (v := pI (m15 (0, 0, 0) 4)) dX4_add_121 fl_X4_83 (by decide) rfl ?_
                  exact sim_iret dX4_add_124 rfl rfl
            · refine sim_bipush (v := (-3)) dX4_add_51 (by decide) ?_
              exact sim_iret dX4_add_53 rfl rfl
          · refine sim_iconst (v := (-1)) dX4_add_38 (by decide) ?_
            exact sim_iret dX4_add_39 rfl rfl

def fD_drop (x1 : Int32) (m2 : Mem) : Option (Int32 × Mem) :=
  Option.bind (fL_hasTrain 0 x1 m2) (fun x3 => if x3 = 0 then (some ((-1), m2)) else (gd (inb x1 4) (if (m2 (0, 0, 10) (ix x1)) = 1 then (some ((-2), m2)) else (Option.bind (fL_removeTrain 0 x1 m2) (fun m4 => Option.bind (fP_forget m4) (fun m5 => some (m5 (0, 0, 0) 4, m5)))))))
abbrev rm_D_drop : Room := { frames := 2, cells := 0, slots := 0, locals := 45 }
set_option maxRecDepth 4000 in
theorem sD_drop (X : Sc) (x1 : Int32) (m2 : Mem) : Sim X cX4_drop 2 (some .int) RX4 rm_D_drop (fun q : Int32 × Mem => q.1) (fun q : Int32 × Mem => q.2) 0 [(0, pR 4 0 0), (1, pI x1)] [] m2 (fD_drop x1 m2) := by
  unfold fD_drop
  refine sim_aload_n dX4_drop_0 rfl ?_
  refine sim_get (v := pR 0 0 0) dX4_drop_1 fl_X4_10 (by decide) rfl ?_
  refine sim_iload_n dX4_drop_4 rfl ?_
  refine sim_callV (As := [pI x1]) (rest := []) (k0 := 0) dX4_drop_5 ln_X4_124 me_X0_hasTrain rfl (by decide) rfl (by decide) (Nat.le_of_ble_eq_true rfl) (Nat.le_of_ble_eq_true rfl) rfl (sL_hasTrain X 0 x1 m2) (fun x3 => ?_)
  refine sim_if_ne (tgt := 13) dX4_drop_8 (by decide) ?_ ?_
  · refine sim_iconst (v := (-1)) dX4_drop_11 (by decide) ?_
    exact sim_iret dX4_drop_12 rfl rfl
  · refine sim_aload_n dX4_drop_13 rfl ?_
    refine sim_get (v := pR 0 0 0) dX4_drop_14 fl_X4_10 (by decide) rfl ?_
    refine sim_get (v := pR 0 0 10) dX4_drop_17 fl_X4_142 (by decide) rfl ?_
    refine sim_iload_n dX4_drop_20 rfl ?_
    refine sim_iald dX4_drop_21 rfl (by decide) ?_
    refine sim_iconst (v := 1) dX4_drop_22 (by decide) ?_
    refine sim_icmp_ne (tgt := 29) dX4_drop_23 (by decide) ?_ ?_
    · refine sim_bipush (v := (-2)) dX4_drop_26 (by decide) ?_
      exact sim_iret dX4_drop_28 rfl rfl
    · refine sim_aload_n dX4_drop_29 rfl ?_
      refine sim_get (v := pR 0 0 0) dX4_drop_30 fl_X4_10 (by decide) rfl ?_
      refine sim_iload_n dX4_drop_33 rfl ?_
      refine sim_callV (As := [pI x1]) (rest := []) (k0 := 0) dX4_drop_34 ln_X4_219 me_X0_removeTrain rfl (by decide) rfl (by decide) (Nat.le_of_ble_eq_true rfl) (Nat.le_of_ble_eq_true rfl) rfl (sL_removeTrain X 0 x1 m2) (fun m4 => ?_)
      refine sim_aload_n dX4_drop_37 rfl ?_
      refine sim_get (v := pR 1 0 0) dX4_drop_38 fl_X4_36 (by decide) rfl ?_
      refine sim_callV (As := []) (rest := []) (k0 := 0) dX4_drop_41 ln_X4_70 me_X1_forget rfl (by decide) rfl (by decide) (Nat.le_of_ble_eq_true rfl) (Nat.le_of_ble_eq_true rfl) rfl (sP_forget X m4) (fun m5 => ?_)
      refine sim_aload_n dX4_drop_44 rfl ?_
      refine sim_get (v := pR 0 0 0) dX4_drop_45 fl_X4_10 (by decide) rfl ?_
      refine sim_get (v := pI (m5 (0, 0, 0) 4)) dX4_drop_48 fl_X4_83 (by decide) rfl ?_
      exact sim_iret dX4_drop_51 rfl rfl

def bD_draw_35 (x2 : Int32) (s11 : Int32 → Int32 → Int32 → Mem → Option (Int32 × Mem)) (x7 : Int32) (x8 : Int32) (x9 : Int32) (m10 : Mem) : Option (Int32 × Mem) :=
  if x2 ≤ x9 then (some (x7, m10)) else (lt ((x8 * 1103515245) + 12345) (fun (x13 : Int32) => lt ((((x13 : Int32).toUInt32 >>> ((16 : Int32).toUInt32 &&& Int32.toUInt32 31)).toInt32) &&& 32767) (fun (x14 : Int32) => gd (!((m10 (0, 0, 0) 0) == 0)) (gd (!(8 == 0)) (gd (!((m10 (0, 0, 0) 0) == 0)) (gd (!(64 == 0)) (gd (!(6 == 0)) (Option.bind (fD_add (x14 - x14 / (m10 (0, 0, 0) 0) * (m10 (0, 0, 0) 0)) ((x14 / 8) - (x14 / 8) / (m10 (0, 0, 0) 0) * (m10 (0, 0, 0) 0)) (((x14 / 64) - (x14 / 64) / 6 * 6) + 1) m10) (fun q15 => if q15.1 ≤ 0 then (lt (x9 + 1) (fun (x16 : Int32) => s11 x7 x13 x16 q15.2)) else (lt (x7 + 1) (fun (x17 : Int32) => lt (x9 + 1) (fun (x18 : Int32) => s11 x17 x13 x18 q15.2))))))))))))
def fD_draw (x1 : Int32) (x2 : Int32) (m3 : Mem) : Option (Int32 × Mem) :=
  if x2 < 1 then (some ((-1), m3)) else (if x2 ≤ 8 then (if 1 ≤ (m3 (0, 0, 0) 0) then (lt 0 (fun (x4 : Int32) => lt x1 (fun (x5 : Int32) => lt 0 (fun (x6 : Int32) => lz31 (bD_draw_35 x2) FU x4 x5 x6 m3)))) else (some ((-2), m3))) else (some ((-1), m3)))
abbrev rm_D_draw : Room := { frames := 6, cells := 0, slots := 0, locals := 142 }
set_option maxRecDepth 4000 in
theorem sD_draw (X : Sc) (x1 : Int32) (x2 : Int32) (m3 : Mem) : Sim X cX4_draw 7 (some .int) RX4 rm_D_draw (fun q : Int32 × Mem => q.1) (fun q : Int32 × Mem => q.2) 0 [(0, pR 4 0 0), (1, pI x1), (2, pI x2)] [] m3 (fD_draw x1 x2 m3) := by
  unfold fD_draw
  refine sim_iload_n dX4_draw_0 rfl ?_
  refine sim_iconst (v := 1) dX4_draw_1 (by decide) ?_
  refine sim_icmp_lt (tgt := 11) dX4_draw_2 (by decide) ?_ ?_
  · refine sim_iconst (v := (-1)) dX4_draw_11 (by decide) ?_
    exact sim_iret dX4_draw_12 rfl rfl
  · refine sim_iload_n dX4_draw_5 rfl ?_
    refine sim_bipush (v := 8) dX4_draw_6 (by decide) ?_
    refine sim_icmp_le (tgt := 13) dX4_draw_8 (by decide) ?_ ?_
    · refine sim_aload_n dX4_draw_13 rfl ?_
      refine sim_get (v := pR 0 0 0) dX4_draw_14 fl_X4_10 (by decide) rfl ?_
      refine sim_get (v := pI (m3 (0, 0, 0) 0)) dX4_draw_17 fl_X4_80 (by decide) rfl ?_
      refine sim_iconst (v := 1) dX4_draw_20 (by decide) ?_
      refine sim_icmp_ge (tgt := 27) dX4_draw_21 (by decide) ?_ ?_
      · refine sim_iconst (v := 0) dX4_draw_27 (by decide) ?_
        refine sim_istore_n (fun z => [(0, pR 4 0 0), (1, pI x1), (2, pI x2), (3, pI z)]) [1, 2, 3, 0] dX4_draw_28 (by decide) (fun _ => rfl) (fun x4 => ?_)
        refine sim_iload_n dX4_draw_29 rfl ?_
        refine sim_istore (fun z => [(0, pR 4 0 0), (1, pI x1), (2, pI x2), (3, pI x4), (4, pI z)]) [1, 2, 3, 4, 0] dX4_draw_30 (by decide) (fun _ => rfl) (fun x5 => ?_)
        refine sim_iconst (v := 0) dX4_draw_32 (by decide) ?_
        refine sim_istore (fun z => [(0, pR 4 0 0), (1, pI x1), (2, pI x2), (3, pI x4), (4, pI x5), (5, pI z)]) [1, 2, 3, 4, 5, 0] dX4_draw_33 (by decide) (fun _ => rfl) (fun x6 => ?_)
        refine sim_lz31 (fun z0 z1 z2 => [(0, pR 4 0 0), (1, pI x1), (2, pI x2), (3, pI z0), (4, pI z1), (5, pI z2)]) (fun s11 hs12 x7 x8 x9 m10 => ?_) FU x4 x5 x6 m3
        unfold bD_draw_35
        refine sim_iload dX4_draw_35 rfl ?_
        refine sim_iload_n dX4_draw_37 rfl ?_
        refine sim_icmp_ge (tgt := 112) dX4_draw_38 (by decide) ?_ ?_
        · refine sim_iload_n dX4_draw_112 rfl ?_
          exact sim_iret dX4_draw_113 rfl rfl
        · refine sim_iload dX4_draw_41 rfl ?_
          refine sim_ldc (v := 1103515245) dX4_draw_43 kc_X4_222 ?_
          refine sim_imul dX4_draw_45 ?_
          refine sim_sipush (v := 12345) dX4_draw_46 (by decide) ?_
          refine sim_iadd dX4_draw_49 ?_
          refine sim_istore (fun z => [(0, pR 4 0 0), (1, pI x1), (2, pI x2), (3, pI x7), (4, pI z), (5, pI x9)]) [1, 2, 3, 4, 0, 5] dX4_draw_50 (by decide) (fun _ => rfl) (fun x13 => ?_)
          refine sim_iload dX4_draw_52 rfl ?_
          refine sim_bipush (v := 16) dX4_draw_54 (by decide) ?_
          refine sim_iushr dX4_draw_56 ?_
          refine sim_sipush (v := 32767) dX4_draw_57 (by decide) ?_
          refine sim_iand dX4_draw_60 ?_
          refine sim_istore (fun z => [(0, pR 4 0 0), (1, pI x1), (2, pI x2), (3, pI x7), (4, pI x13), (5, pI x9), (6, pI z)]) [1, 2, 3, 4, 5, 6, 0] dX4_draw_61 (by decide) (fun _ => rfl) (fun x14 => ?_)
          refine sim_aload_n dX4_draw_63 rfl ?_
          refine sim_iload dX4_draw_64 rfl ?_
          refine sim_aload_n dX4_draw_66 rfl ?_
          refine sim_get (v := pR 0 0 0) dX4_draw_67 fl_X4_10 (by decide) rfl ?_
          refine sim_get (v := pI (m10 (0, 0, 0) 0)) dX4_draw_70 fl_X4_80 (by decide) rfl ?_
          refine sim_irem dX4_draw_73 ?_
          refine sim_iload dX4_draw_74 rfl ?_
          refine sim_bipush (v := 8) dX4_draw_76 (by decide) ?_
          refine sim_idiv dX4_draw_78 ?_
          refine sim_aload_n dX4_draw_79 rfl ?_
          refine sim_get (v := pR 0 0 0) dX4_draw_80 fl_X4_10 (by decide) rfl ?_
          refine sim_get (v := pI (m10 (0, 0, 0) 0)) dX4_draw_83 fl_X4_80 (by decide) rfl ?_
          refine sim_irem dX4_draw_86 ?_
          refine sim_iload dX4_draw_87 rfl ?_
          refine sim_bipush (v := 64) dX4_draw_89 (by decide) ?_
          refine sim_idiv dX4_draw_91 ?_
          refine sim_bipush (v := 6) dX4_draw_92 (by decide) ?_
          refine sim_irem dX4_draw_94 ?_
          refine sim_iconst (v := 1) dX4_draw_95 (by decide) ?_
          refine sim_iadd dX4_draw_96 ?_
          refine sim_callV (As := [pI (x14 - x14 / (m10 (0, 0, 0) 0) * (m10 (0, 0, 0) 0)), pI ((x14 / 8) - (x14 / 8) / (m10 (0, 0, 0) 0) * (m10 (0, 0, 0) 0)), pI (((x14 / 64) - (x14 / 64) / 6 * 6) + 1)]) (rest := []) (k0 := 0) dX4_draw_97 ln_X4_223 me_X4_add rfl (by decide) rfl (by decide) (Nat.le_of_ble_eq_true rfl) (Nat.le_of_ble_eq_true rfl) rfl (sD_add X (x14 - x14 / (m10 (0, 0, 0) 0) * (m10 (0, 0, 0) 0)) ((x14 / 8) - (x14 / 8) / (m10 (0, 0, 0) 0) * (m10 (0, 0, 0) 0)) (((x14 / 64) - (x14 / 64) / 6 * 6) + 1) m10) (fun q15 => ?_)
          refine sim_if_le (tgt := 106) dX4_draw_100 (by decide) ?_ ?_
          · refine sim_iinc (y := 1) (fun z => [(0, pR 4 0 0), (1, pI x1), (2, pI x2), (3, pI x7), (4, pI x13), (5, pI z), (6, pI x14)]) [1, 2, 3, 4, 5, 0, 6] dX4_draw_106 rfl (by decide) (by decide) (fun _ => rfl) (fun x16 => ?_)
            refine sim_goto (tgt := 35) dX4_draw_109 (by decide) ?_
            refine sim_pick [(0, pR 4 0 0), (1, pI x1), (2, pI x2), (3, pI x7), (4, pI x13), (5, pI x16)] [0, 1, 2, 3, 4, 5] rfl ?_
            exact hs12 x7 x13 x16 q15.2
          · refine sim_iinc (y := 1) (fun z => [(0, pR 4 0 0), (1, pI x1), (2, pI x2), (3, pI z), (4, pI x13), (5, pI x9), (6, pI x14)]) [1, 2, 3, 0, 4, 5, 6] dX4_draw_103 rfl (by decide) (by decide) (fun _ => rfl) (fun x17 => ?_)
            refine sim_iinc (y := 1) (fun z => [(0, pR 4 0 0), (1, pI x1), (2, pI x2), (3, pI x17), (4, pI x13), (5, pI z), (6, pI x14)]) [1, 2, 3, 4, 5, 0, 6] dX4_draw_106 rfl (by decide) (by decide) (fun _ => rfl) (fun x18 => ?_)
            refine sim_goto (tgt := 35) dX4_draw_109 (by decide) ?_
            refine sim_pick [(0, pR 4 0 0), (1, pI x1), (2, pI x2), (3, pI x17), (4, pI x13), (5, pI x18)] [0, 1, 2, 3, 4, 5] rfl ?_
            exact hs12 x17 x13 x18 q15.2
      · refine sim_bipush (v := (-2)) dX4_draw_24 (by decide) ?_
        exact sim_iret dX4_draw_26 rfl rfl
    · refine sim_iconst (v := (-1)) dX4_draw_11 (by decide) ?_
      exact sim_iret dX4_draw_12 rfl rfl

def fD_isImage (x1 : Int32) (m2 : Mem) : Option Int32 :=
  if x1 < 0 then (some 0) else (if 2 ≤ x1 then (some 0) else (some 1))
abbrev rm_D_isImage : Room := { frames := 0, cells := 0, slots := 0, locals := 0 }
set_option maxRecDepth 4000 in
theorem sD_isImage (X : Sc) (x1 : Int32) (m2 : Mem) : Sim X cX4_isImage 1 (some .boolean) RX4 rm_D_isImage (fun r : Int32 => r) (fun _ : Int32 => m2) 0 [(0, pI x1)] [] m2 (fD_isImage x1 m2) := by
  unfold fD_isImage
  refine sim_iload_n dX4_isImage_0 rfl ?_
  refine sim_if_lt (tgt := 13) dX4_isImage_1 (by decide) ?_ ?_
  · refine sim_iconst (v := 0) dX4_isImage_13 (by decide) ?_
    exact sim_zret dX4_isImage_14 rfl rfl rfl
  · refine sim_iload_n dX4_isImage_4 rfl ?_
    refine sim_iconst (v := 2) dX4_isImage_5 (by decide) ?_
    refine sim_icmp_ge (tgt := 13) dX4_isImage_6 (by decide) ?_ ?_
    · refine sim_iconst (v := 0) dX4_isImage_13 (by decide) ?_
      exact sim_zret dX4_isImage_14 rfl rfl rfl
    · refine sim_iconst (v := 1) dX4_isImage_9 (by decide) ?_
      refine sim_goto (tgt := 14) dX4_isImage_10 (by decide) ?_
      exact sim_zret dX4_isImage_14 rfl rfl rfl

def fD_keep (x1 : Int32) (m2 : Mem) : Option (Int32 × Mem) :=
  Option.bind (fD_isImage x1 m2) (fun x3 => if x3 = 0 then (some ((-1), m2)) else (gd (inb x1 2) (lt (if (m2 (4, 0, 4) (ix x1)) = 0 then 0 else 1) (fun (x4 : Int32) => lt x4 (fun (x5 : Int32) => gd (inb x1 2) (Option.bind (fL_copyFrom (2 + ix x1) 0 m2) (fun m6 => gd (inb x1 2) (lt (wr m6 (4, 0, 4) (ix x1) (vp_nar .boolean 1)) (fun m7 => some (x5, m7))))))))))
abbrev rm_D_keep : Room := { frames := 2, cells := 0, slots := 0, locals := 61 }
set_option maxRecDepth 4000 in
theorem sD_keep (X : Sc) (x1 : Int32) (m2 : Mem) : Sim X cX4_keep 3 (some .int) RX4 rm_D_keep (fun q : Int32 × Mem => q.1) (fun q : Int32 × Mem => q.2) 0 [(0, pR 4 0 0), (1, pI x1)] [] m2 (fD_keep x1 m2) := by
  unfold fD_keep
  refine sim_iload_n dX4_keep_0 rfl ?_
  refine sim_callS (As := [pI x1]) (rest := []) dX4_keep_1 ln_X4_227 me_X4_isImage rfl (by decide) (Nat.le_of_ble_eq_true rfl) (Nat.le_of_ble_eq_true rfl) rfl (sD_isImage X x1 m2) (fun x3 => ?_)
  refine sim_if_ne (tgt := 9) dX4_keep_4 (by decide) ?_ ?_
  · refine sim_iconst (v := (-1)) dX4_keep_7 (by decide) ?_
    exact sim_iret dX4_keep_8 rfl rfl
  · refine sim_aload_n dX4_keep_9 rfl ?_
    refine sim_get (v := pR 4 0 4) dX4_keep_10 fl_X4_23 (by decide) rfl ?_
    refine sim_iload_n dX4_keep_13 rfl ?_
    refine sim_zald dX4_keep_14 rfl (by decide) ?_
    refine sim_jv 23 [(0, pR 4 0 0), (1, pI x1)] [] (fun x4 => ?_) (fun hV8 => ?_)
    · refine sim_istore_n (fun z => [(0, pR 4 0 0), (1, pI x1), (2, pI z)]) [1, 2, 0] dX4_keep_23 (by decide) (fun _ => rfl) (fun x5 => ?_)
      refine sim_aload_n dX4_keep_24 rfl ?_
      refine sim_get (v := pR 4 0 3) dX4_keep_25 fl_X4_19 (by decide) rfl ?_
      refine sim_iload_n dX4_keep_28 rfl ?_
      refine sim_aald3 dX4_keep_29 ?_
      refine sim_aload_n dX4_keep_30 rfl ?_
      refine sim_get (v := pR 0 0 0) dX4_keep_31 fl_X4_10 (by decide) rfl ?_
      refine sim_callV (As := [pR 0 0 0]) (rest := []) (k0 := (2 + ix x1)) dX4_keep_34 ln_X4_76 me_X0_copyFrom rfl (by decide) rfl (by decide) (Nat.le_of_ble_eq_true rfl) (Nat.le_of_ble_eq_true rfl) rfl (sL_copyFrom X (2 + ix x1) 0 m2) (fun m6 => ?_)
      refine sim_aload_n dX4_keep_37 rfl ?_
      refine sim_get (v := pR 4 0 4) dX4_keep_38 fl_X4_23 (by decide) rfl ?_
      refine sim_iload_n dX4_keep_41 rfl ?_
      refine sim_iconst (v := 1) dX4_keep_42 (by decide) ?_
      refine sim_zast dX4_keep_43 rfl (by decide) (fun m7 => ?_)
      refine sim_iload_n dX4_keep_44 rfl ?_
      exact sim_iret dX4_keep_45 rfl rfl
    · refine sim_eq (lt_ite _ _ _ _) ?_
      refine sim_if_eq (tgt := 22) dX4_keep_15 (by decide) ?_ ?_
      · refine sim_iconst (v := 0) dX4_keep_22 (by decide) ?_
        exact hV8 _
      · refine sim_iconst (v := 1) dX4_keep_18 (by decide) ?_
        refine sim_goto (tgt := 23) dX4_keep_19 (by decide) ?_
        exact hV8 _

def fD_back (x1 : Int32) (m2 : Mem) : Option (Int32 × Mem) :=
  Option.bind (fD_isImage x1 m2) (fun x3 => if x3 = 0 then (some ((-1), m2)) else (gd (inb x1 2) (if (m2 (4, 0, 4) (ix x1)) = 0 then (some ((-2), m2)) else (gd (inb x1 2) (Option.bind (fL_copyFrom 0 (2 + ix x1) m2) (fun m4 => Option.bind (fP_forget m4) (fun m5 => some (m5 (0, 0, 0) 4, m5))))))))
abbrev rm_D_back : Room := { frames := 2, cells := 0, slots := 0, locals := 61 }
set_option maxRecDepth 4000 in
theorem sD_back (X : Sc) (x1 : Int32) (m2 : Mem) : Sim X cX4_back 2 (some .int) RX4 rm_D_back (fun q : Int32 × Mem => q.1) (fun q : Int32 × Mem => q.2) 0 [(0, pR 4 0 0), (1, pI x1)] [] m2 (fD_back x1 m2) := by
  unfold fD_back
  refine sim_iload_n dX4_back_0 rfl ?_
  refine sim_callS (As := [pI x1]) (rest := []) dX4_back_1 ln_X4_227 me_X4_isImage rfl (by decide) (Nat.le_of_ble_eq_true rfl) (Nat.le_of_ble_eq_true rfl) rfl (sD_isImage X x1 m2) (fun x3 => ?_)
  refine sim_if_ne (tgt := 9) dX4_back_4 (by decide) ?_ ?_
  · refine sim_iconst (v := (-1)) dX4_back_7 (by decide) ?_
    exact sim_iret dX4_back_8 rfl rfl
  · refine sim_aload_n dX4_back_9 rfl ?_
    refine sim_get (v := pR 4 0 4) dX4_back_10 fl_X4_23 (by decide) rfl ?_
    refine sim_iload_n dX4_back_13 rfl ?_
    refine sim_zald dX4_back_14 rfl (by decide) ?_
    refine sim_if_ne (tgt := 21) dX4_back_15 (by decide) ?_ ?_
    · refine sim_bipush (v := (-2)) dX4_back_18 (by decide) ?_
      exact sim_iret dX4_back_20 rfl rfl
    · refine sim_aload_n dX4_back_21 rfl ?_
      refine sim_get (v := pR 0 0 0) dX4_back_22 fl_X4_10 (by decide) rfl ?_
      refine sim_aload_n dX4_back_25 rfl ?_
      refine sim_get (v := pR 4 0 3) dX4_back_26 fl_X4_19 (by decide) rfl ?_
      refine sim_iload_n dX4_back_29 rfl ?_
      refine sim_aald3 dX4_back_30 ?_
      refine sim_callV (As := [pR 0 (2 + ix x1) 0]) (rest := []) (k0 := 0) dX4_back_31 ln_X4_76 me_X0_copyFrom rfl (by decide) rfl (by decide) (Nat.le_of_ble_eq_true rfl) (Nat.le_of_ble_eq_true rfl) rfl (sL_copyFrom X 0 (2 + ix x1) m2) (fun m4 => ?_)
      refine sim_aload_n dX4_back_34 rfl ?_
      refine sim_get (v := pR 1 0 0) dX4_back_35 fl_X4_36 (by decide) rfl ?_
      refine sim_callV (As := []) (rest := []) (k0 := 0) dX4_back_38 ln_X4_70 me_X1_forget rfl (by decide) rfl (by decide) (Nat.le_of_ble_eq_true rfl) (Nat.le_of_ble_eq_true rfl) rfl (sP_forget X m4) (fun m5 => ?_)
      refine sim_aload_n dX4_back_41 rfl ?_
      refine sim_get (v := pR 0 0 0) dX4_back_42 fl_X4_10 (by decide) rfl ?_
      refine sim_get (v := pI (m5 (0, 0, 0) 4)) dX4_back_45 fl_X4_83 (by decide) rfl ?_
      exact sim_iret dX4_back_48 rfl rfl

def fD_isSheet (x1 : Int32) (m2 : Mem) : Option Int32 :=
  if x1 < 0 then (some 0) else (if 4 ≤ x1 then (some 0) else (some 1))
abbrev rm_D_isSheet : Room := { frames := 0, cells := 0, slots := 0, locals := 0 }
set_option maxRecDepth 4000 in
theorem sD_isSheet (X : Sc) (x1 : Int32) (m2 : Mem) : Sim X cX4_isSheet 1 (some .boolean) RX4 rm_D_isSheet (fun r : Int32 => r) (fun _ : Int32 => m2) 0 [(0, pI x1)] [] m2 (fD_isSheet x1 m2) := by
  unfold fD_isSheet
  refine sim_iload_n dX4_isSheet_0 rfl ?_
  refine sim_if_lt (tgt := 13) dX4_isSheet_1 (by decide) ?_ ?_
  · refine sim_iconst (v := 0) dX4_isSheet_13 (by decide) ?_
    exact sim_zret dX4_isSheet_14 rfl rfl rfl
  · refine sim_iload_n dX4_isSheet_4 rfl ?_
    refine sim_iconst (v := 4) dX4_isSheet_5 (by decide) ?_
    refine sim_icmp_ge (tgt := 13) dX4_isSheet_6 (by decide) ?_ ?_
    · refine sim_iconst (v := 0) dX4_isSheet_13 (by decide) ?_
      exact sim_zret dX4_isSheet_14 rfl rfl rfl
    · refine sim_iconst (v := 1) dX4_isSheet_9 (by decide) ?_
      refine sim_goto (tgt := 14) dX4_isSheet_10 (by decide) ?_
      exact sim_zret dX4_isSheet_14 rfl rfl rfl

def fD_isLane (x1 : Int32) (m2 : Mem) : Option Int32 :=
  if x1 < 0 then (some 0) else (if 3 ≤ x1 then (some 0) else (some 1))
abbrev rm_D_isLane : Room := { frames := 0, cells := 0, slots := 0, locals := 0 }
set_option maxRecDepth 4000 in
theorem sD_isLane (X : Sc) (x1 : Int32) (m2 : Mem) : Sim X cX4_isLane 1 (some .boolean) RX4 rm_D_isLane (fun r : Int32 => r) (fun _ : Int32 => m2) 0 [(0, pI x1)] [] m2 (fD_isLane x1 m2) := by
  unfold fD_isLane
  refine sim_iload_n dX4_isLane_0 rfl ?_
  refine sim_if_lt (tgt := 13) dX4_isLane_1 (by decide) ?_ ?_
  · refine sim_iconst (v := 0) dX4_isLane_13 (by decide) ?_
    exact sim_zret dX4_isLane_14 rfl rfl rfl
  · refine sim_iload_n dX4_isLane_4 rfl ?_
    refine sim_iconst (v := 3) dX4_isLane_5 (by decide) ?_
    refine sim_icmp_ge (tgt := 13) dX4_isLane_6 (by decide) ?_ ?_
    · refine sim_iconst (v := 0) dX4_isLane_13 (by decide) ?_
      exact sim_zret dX4_isLane_14 rfl rfl rfl
    · refine sim_iconst (v := 1) dX4_isLane_9 (by decide) ?_
      refine sim_goto (tgt := 14) dX4_isLane_10 (by decide) ?_
      exact sim_zret dX4_isLane_14 rfl rfl rfl

def fD_sheet (x1 : Int32) (x2 : Int32) (x3 : Int32) (m4 : Mem) : Option (Int32 × Mem) :=
  Option.bind (fD_isSheet x1 m4) (fun x5 => if x5 = 0 then (some ((-1), m4)) else (Option.bind (fD_isLane x2 m4) (fun x6 => if x6 = 0 then (some ((-1), m4)) else (if x3 ≤ 40 then (if 0 ≤ x3 then (gd (inb x1 4) (Option.bind (fS_renew (ix x1) x2 x3 m4) (fun m7 => some (1, m7)))) else (some ((-14), m4))) else (some ((-1), m4))))))
abbrev rm_D_sheet : Room := { frames := 2, cells := 0, slots := 0, locals := 45 }
set_option maxRecDepth 4000 in
theorem sD_sheet (X : Sc) (x1 : Int32) (x2 : Int32) (x3 : Int32) (m4 : Mem) : Sim X cX4_sheet 4 (some .int) RX4 rm_D_sheet (fun q : Int32 × Mem => q.1) (fun q : Int32 × Mem => q.2) 0 [(0, pR 4 0 0), (1, pI x1), (2, pI x2), (3, pI x3)] [] m4 (fD_sheet x1 x2 x3 m4) := by
  unfold fD_sheet
  refine sim_iload_n dX4_sheet_0 rfl ?_
  refine sim_callS (As := [pI x1]) (rest := []) dX4_sheet_1 ln_X4_230 me_X4_isSheet rfl (by decide) (Nat.le_of_ble_eq_true rfl) (Nat.le_of_ble_eq_true rfl) rfl (sD_isSheet X x1 m4) (fun x5 => ?_)
  refine sim_if_eq (tgt := 20) dX4_sheet_4 (by decide) ?_ ?_
  · refine sim_iconst (v := (-1)) dX4_sheet_20 (by decide) ?_
    exact sim_iret dX4_sheet_21 rfl rfl
  · refine sim_iload_n dX4_sheet_7 rfl ?_
    refine sim_callS (As := [pI x2]) (rest := []) dX4_sheet_8 ln_X4_233 me_X4_isLane rfl (by decide) (Nat.le_of_ble_eq_true rfl) (Nat.le_of_ble_eq_true rfl) rfl (sD_isLane X x2 m4) (fun x6 => ?_)
    refine sim_if_eq (tgt := 20) dX4_sheet_11 (by decide) ?_ ?_
    · refine sim_iconst (v := (-1)) dX4_sheet_20 (by decide) ?_
      exact sim_iret dX4_sheet_21 rfl rfl
    · refine sim_iload_n dX4_sheet_14 rfl ?_
      refine sim_bipush (v := 40) dX4_sheet_15 (by decide) ?_
      refine sim_icmp_le (tgt := 22) dX4_sheet_17 (by decide) ?_ ?_
      · refine sim_iload_n dX4_sheet_22 rfl ?_
        refine sim_if_ge (tgt := 29) dX4_sheet_23 (by decide) ?_ ?_
        · refine sim_aload_n dX4_sheet_29 rfl ?_
          refine sim_get (v := pR 4 0 5) dX4_sheet_30 fl_X4_29 (by decide) rfl ?_
          refine sim_iload_n dX4_sheet_33 rfl ?_
          refine sim_aald4 dX4_sheet_34 ?_
          refine sim_iload_n dX4_sheet_35 rfl ?_
          refine sim_iload_n dX4_sheet_36 rfl ?_
          refine sim_callV (As := [pI x2, pI x3]) (rest := []) (k0 := (ix x1)) dX4_sheet_37 ln_X4_236 me_X3_renew rfl (by decide) rfl (by decide) (Nat.le_of_ble_eq_true rfl) (Nat.le_of_ble_eq_true rfl) rfl (sS_renew X (ix x1) x2 x3 m4) (fun m7 => ?_)
          refine sim_iconst (v := 1) dX4_sheet_40 (by decide) ?_
          exact sim_iret dX4_sheet_41 rfl rfl
        · refine sim_bipush (v := (-14)) dX4_sheet_26 (by decide) ?_
          exact sim_iret dX4_sheet_28 rfl rfl
      · refine sim_iconst (v := (-1)) dX4_sheet_20 (by decide) ?_
        exact sim_iret dX4_sheet_21 rfl rfl

def fD_lay (x1 : Int32) (x2 : Int32) (x3 : Int32) (m4 : Mem) : Option (Int32 × Mem) :=
  Option.bind (fD_isSheet x1 m4) (fun x5 => if x5 = 0 then (some ((-1), m4)) else (gd (inb x1 4) (Option.bind (fS_faultOfCell (ix x1) x2 m4) (fun x6 => lt x6 (fun (x7 : Int32) => if x7 = 0 then (gd (inb x1 4) (Option.bind (fS_put (ix x1) x2 x3 m4) (fun m8 => some (1, m8)))) else (some ((-10) - x7, m4)))))))
abbrev rm_D_lay : Room := { frames := 1, cells := 0, slots := 0, locals := 22 }
set_option maxRecDepth 4000 in
theorem sD_lay (X : Sc) (x1 : Int32) (x2 : Int32) (x3 : Int32) (m4 : Mem) : Sim X cX4_lay 5 (some .int) RX4 rm_D_lay (fun q : Int32 × Mem => q.1) (fun q : Int32 × Mem => q.2) 0 [(0, pR 4 0 0), (1, pI x1), (2, pI x2), (3, pI x3)] [] m4 (fD_lay x1 x2 x3 m4) := by
  unfold fD_lay
  refine sim_iload_n dX4_lay_0 rfl ?_
  refine sim_callS (As := [pI x1]) (rest := []) dX4_lay_1 ln_X4_230 me_X4_isSheet rfl (by decide) (Nat.le_of_ble_eq_true rfl) (Nat.le_of_ble_eq_true rfl) rfl (sD_isSheet X x1 m4) (fun x5 => ?_)
  refine sim_if_ne (tgt := 9) dX4_lay_4 (by decide) ?_ ?_
  · refine sim_iconst (v := (-1)) dX4_lay_7 (by decide) ?_
    exact sim_iret dX4_lay_8 rfl rfl
  · refine sim_aload_n dX4_lay_9 rfl ?_
    refine sim_get (v := pR 4 0 5) dX4_lay_10 fl_X4_29 (by decide) rfl ?_
    refine sim_iload_n dX4_lay_13 rfl ?_
    refine sim_aald4 dX4_lay_14 ?_
    refine sim_iload_n dX4_lay_15 rfl ?_
    refine sim_callV (As := [pI x2]) (rest := []) (k0 := (ix x1)) dX4_lay_16 ln_X4_240 me_X3_faultOfCell rfl (by decide) rfl (by decide) (Nat.le_of_ble_eq_true rfl) (Nat.le_of_ble_eq_true rfl) rfl (sS_faultOfCell X (ix x1) x2 m4) (fun x6 => ?_)
    refine sim_istore (fun z => [(0, pR 4 0 0), (1, pI x1), (2, pI x2), (3, pI x3), (4, pI z)]) [1, 2, 3, 4, 0] dX4_lay_19 (by decide) (fun _ => rfl) (fun x7 => ?_)
    refine sim_iload dX4_lay_21 rfl ?_
    refine sim_if_eq (tgt := 32) dX4_lay_23 (by decide) ?_ ?_
    · refine sim_aload_n dX4_lay_32 rfl ?_
      refine sim_get (v := pR 4 0 5) dX4_lay_33 fl_X4_29 (by decide) rfl ?_
      refine sim_iload_n dX4_lay_36 rfl ?_
      refine sim_aald4 dX4_lay_37 ?_
      refine sim_iload_n dX4_lay_38 rfl ?_
      refine sim_iload_n dX4_lay_39 rfl ?_
      refine sim_callV (As := [pI x2, pI x3]) (rest := []) (k0 := (ix x1)) dX4_lay_40 ln_X4_243 me_X3_put rfl (by decide) rfl (by decide) (Nat.le_of_ble_eq_true rfl) (Nat.le_of_ble_eq_true rfl) rfl (sS_put X (ix x1) x2 x3 m4) (fun m8 => ?_)
      refine sim_iconst (v := 1) dX4_lay_43 (by decide) ?_
      exact sim_iret dX4_lay_44 rfl rfl
    · refine sim_bipush (v := (-10)) dX4_lay_26 (by decide) ?_
      refine sim_iload dX4_lay_28 rfl ?_
      refine sim_isub dX4_lay_30 ?_
      exact sim_iret dX4_lay_31 rfl rfl

def jD_read_148 (x4 : Int32) (x10 : Int32) (m11 : Mem) : Option (Int32 × Mem) :=
  lt (wr m11 (4, 0, 0) 7 0) (fun m12 => some (x4, m12))
def jD_read_120 (x8 : Int32) (x14 : Int32) (x15 : Int32) (x16 : Int32) (m17 : Mem) : Option (Int32 × Mem) :=
  lt (wr m17 (0, 0, 0) 4 x8) (fun m18 => Option.bind (fP_forget m18) (fun m19 => some ((-20) - x14, m19)))
def jD_read_85 (x21 : Int32) (x22 : Int32) (x23 : Int32) (m24 : Mem) : Option (Int32 × Mem) :=
  lt (wr m24 (4, 0, 0) 7 x23) (fun m25 => some (x21, m25))
def bD_read_51 (x1 : Int32) (x2 : Int32) (x3 : Int32) (x4 : Int32) (x8 : Int32) (s29 : Int32 → Mem → Option (Int32 × Mem)) (x27 : Int32) (m28 : Mem) : Option (Int32 × Mem) :=
  if x4 ≤ x27 then (jD_read_148 x4 x27 m28) else (lt (x3 + (3 * x27)) (fun (x31 : Int32) => gd (inb x1 4) (Option.bind (fS_faultOfThree (ix x1) x2 x31 m28) (fun x32 => lt x32 (fun (x33 : Int32) => if x33 = 0 then (gd (inb x31 40) (gd (inb (x31 + 1) 40) (gd (inb (x31 + 2) 40) (Option.bind (fD_add (m28 (3, (ix x1), 2) (ix x31)) (m28 (3, (ix x1), 2) (ix (x31 + 1))) (m28 (3, (ix x1), 2) (ix (x31 + 2))) m28) (fun q34 => if 0 ≤ q34.1 then (lt (x27 + 1) (fun (x35 : Int32) => s29 x35 q34.2)) else (jD_read_120 x8 x27 x31 x33 q34.2)))))) else (jD_read_85 x27 x31 x33 m28))))))
def fD_read (x1 : Int32) (x2 : Int32) (x3 : Int32) (x4 : Int32) (m5 : Mem) : Option (Int32 × Mem) :=
  Option.bind (fD_isSheet x1 m5) (fun x6 => if x6 = 0 then (some ((-1), m5)) else (Option.bind (fD_isLane x2 m5) (fun x7 => if x7 = 0 then (some ((-1), m5)) else (if x4 < 0 then (some ((-1), m5)) else (if x4 ≤ 10 then (lt (m5 (0, 0, 0) 4) (fun (x8 : Int32) => gd (inb x1 4) (lt 0 (fun (x9 : Int32) => lz11 (bD_read_51 x1 x2 x3 x4 x8) FU x9 m5)))) else (some ((-1), m5)))))))
abbrev rm_D_read : Room := { frames := 6, cells := 0, slots := 0, locals := 142 }
set_option maxRecDepth 4000 in
theorem sD_read (X : Sc) (x1 : Int32) (x2 : Int32) (x3 : Int32) (x4 : Int32) (m5 : Mem) : Sim X cX4_read 10 (some .int) RX4 rm_D_read (fun q : Int32 × Mem => q.1) (fun q : Int32 × Mem => q.2) 0 [(0, pR 4 0 0), (1, pI x1), (2, pI x2), (3, pI x3), (4, pI x4)] [] m5 (fD_read x1 x2 x3 x4 m5) := by
  unfold fD_read
  refine sim_iload_n dX4_read_0 rfl ?_
  refine sim_callS (As := [pI x1]) (rest := []) dX4_read_1 ln_X4_230 me_X4_isSheet rfl (by decide) (Nat.le_of_ble_eq_true rfl) (Nat.le_of_ble_eq_true rfl) rfl (sD_isSheet X x1 m5) (fun x6 => ?_)
  refine sim_if_eq (tgt := 26) dX4_read_4 (by decide) ?_ ?_
  · refine sim_iconst (v := (-1)) dX4_read_26 (by decide) ?_
    exact sim_iret dX4_read_27 rfl rfl
  · refine sim_iload_n dX4_read_7 rfl ?_
    refine sim_callS (As := [pI x2]) (rest := []) dX4_read_8 ln_X4_233 me_X4_isLane rfl (by decide) (Nat.le_of_ble_eq_true rfl) (Nat.le_of_ble_eq_true rfl) rfl (sD_isLane X x2 m5) (fun x7 => ?_)
    refine sim_if_eq (tgt := 26) dX4_read_11 (by decide) ?_ ?_
    · refine sim_iconst (v := (-1)) dX4_read_26 (by decide) ?_
      exact sim_iret dX4_read_27 rfl rfl
    · refine sim_iload dX4_read_14 rfl ?_
      refine sim_if_lt (tgt := 26) dX4_read_16 (by decide) ?_ ?_
      · refine sim_iconst (v := (-1)) dX4_read_26 (by decide) ?_
        exact sim_iret dX4_read_27 rfl rfl
      · refine sim_iload dX4_read_19 rfl ?_
        refine sim_bipush (v := 10) dX4_read_21 (by decide) ?_
        refine sim_icmp_le (tgt := 28) dX4_read_23 (by decide) ?_ ?_
        · refine sim_aload_n dX4_read_28 rfl ?_
          refine sim_get (v := pR 0 0 0) dX4_read_29 fl_X4_10 (by decide) rfl ?_
          refine sim_get (v := pI (m5 (0, 0, 0) 4)) dX4_read_32 fl_X4_83 (by decide) rfl ?_
          refine sim_istore (fun z => [(0, pR 4 0 0), (1, pI x1), (2, pI x2), (3, pI x3), (4, pI x4), (5, pI z)]) [1, 2, 3, 4, 5, 0] dX4_read_35 (by decide) (fun _ => rfl) (fun x8 => ?_)
          refine sim_aload_n dX4_read_37 rfl ?_
          refine sim_get (v := pR 4 0 5) dX4_read_38 fl_X4_29 (by decide) rfl ?_
          refine sim_iload_n dX4_read_41 rfl ?_
          refine sim_aald4 dX4_read_42 ?_
          refine sim_get (v := pR 3 (ix x1) 2) dX4_read_43 fl_X4_246 (by decide) rfl ?_
          refine sim_astore [(0, pR 4 0 0), (1, pI x1), (2, pI x2), (3, pI x3), (4, pI x4), (5, pI x8), (6, pR 3 (ix x1) 2)] [1, 2, 3, 4, 5, 6, 0] dX4_read_46 (by decide) rfl ?_
          refine sim_iconst (v := 0) dX4_read_48 (by decide) ?_
          refine sim_istore (fun z => [(0, pR 4 0 0), (1, pI x1), (2, pI x2), (3, pI x3), (4, pI x4), (5, pI x8), (6, pR 3 (ix x1) 2), (7, pI z)]) [1, 2, 3, 4, 5, 6, 7, 0] dX4_read_49 (by decide) (fun _ => rfl) (fun x9 => ?_)
          have hJ13 : ∀ (x10 : Int32) (m11 : Mem), Sim X cX4_read 10 (some .int) RX4 rm_D_read (fun q : Int32 × Mem => q.1) (fun q : Int32 × Mem => q.2) 148 [(0, pR 4 0 0), (1, pI x1), (2, pI x2), (3, pI x3), (4, pI x4), (5, pI x8), (6, pR 3 (ix x1) 2), (7, pI x10)] [] m11 (jD_read_148 x4 x10 m11) := by
            intro x10 m11
            unfold jD_read_148
            refine sim_aload_n dX4_read_148 rfl ?_
            refine sim_iconst (v := 0) dX4_read_149 (by decide) ?_
            refine sim_put dX4_read_150 fl_X4_252 fp_4_7 rfl rfl (fun m12 => ?_)
            refine sim_iload dX4_read_153 rfl ?_
            exact sim_iret dX4_read_155 rfl rfl
          have hJ20 : ∀ (x14 : Int32) (x15 : Int32) (x16 : Int32) (m17 : Mem), Sim X cX4_read 10 (some .int) RX4 rm_D_read (fun q : Int32 × Mem => q.1) (fun q : Int32 × Mem => q.2) 120 [(0, pR 4 0 0), (1, pI x1), (2, pI x2), (3, pI x3), (4, pI x4), (5, pI x8), (6, pR 3 (ix x1) 2), (7, pI x14), (8, pI x15), (9, pI x16)] [] m17 (jD_read_120 x8 x14 x15 x16 m17) := by
            intro x14 x15 x16 m17
            unfold jD_read_120
            refine sim_aload_n dX4_read_120 rfl ?_
            refine sim_get (v := pR 0 0 0) dX4_read_121 fl_X4_10 (by decide) rfl ?_
            refine sim_iload dX4_read_124 rfl ?_
            refine sim_put dX4_read_126 fl_X4_83 fp_0_4 rfl rfl (fun m18 => ?_)
            refine sim_aload_n dX4_read_129 rfl ?_
            refine sim_get (v := pR 1 0 0) dX4_read_130 fl_X4_36 (by decide) rfl ?_
            refine sim_callV (As := []) (rest := []) (k0 := 0) dX4_read_133 ln_X4_70 me_X1_forget rfl (by decide) rfl (by decide) (Nat.le_of_ble_eq_true rfl) (Nat.le_of_ble_eq_true rfl) rfl (sP_forget X m18) (fun m19 => ?_)
            refine sim_bipush (v := (-20)) dX4_read_136 (by decide) ?_
            refine sim_iload dX4_read_138 rfl ?_
            refine sim_isub dX4_read_140 ?_
            exact sim_iret dX4_read_141 rfl rfl
          have hJ26 : ∀ (x21 : Int32) (x22 : Int32) (x23 : Int32) (m24 : Mem), Sim X cX4_read 10 (some .int) RX4 rm_D_read (fun q : Int32 × Mem => q.1) (fun q : Int32 × Mem => q.2) 85 [(0, pR 4 0 0), (1, pI x1), (2, pI x2), (3, pI x3), (4, pI x4), (5, pI x8), (6, pR 3 (ix x1) 2), (7, pI x21), (8, pI x22), (9, pI x23)] [] m24 (jD_read_85 x21 x22 x23 m24) := by
            intro x21 x22 x23 m24
            unfold jD_read_85
            refine sim_aload_n dX4_read_85 rfl ?_
            refine sim_iload dX4_read_86 rfl ?_
            refine sim_put dX4_read_88 fl_X4_252 fp_4_7 rfl rfl (fun m25 => ?_)
            refine sim_iload dX4_read_91 rfl ?_
            exact sim_iret dX4_read_93 rfl rfl
          refine sim_lz11 (fun z0 => [(0, pR 4 0 0), (1, pI x1), (2, pI x2), (3, pI x3), (4, pI x4), (5, pI x8), (6, pR 3 (ix x1) 2), (7, pI z0)]) (fun s29 hs30 x27 m28 => ?_) FU x9 m5
          unfold bD_read_51
          refine sim_iload dX4_read_51 rfl ?_
          refine sim_iload dX4_read_53 rfl ?_
          refine sim_icmp_ge (tgt := 148) dX4_read_55 (by decide) ?_ ?_
          · exact hJ13 x27 m28
          · refine sim_iload_n dX4_read_58 rfl ?_
            refine sim_iconst (v := 3) dX4_read_59 (by decide) ?_
            refine sim_iload dX4_read_60 rfl ?_
            refine sim_imul dX4_read_62 ?_
            refine sim_iadd dX4_read_63 ?_
            refine sim_istore (fun z => [(0, pR 4 0 0), (1, pI x1), (2, pI x2), (3, pI x3), (4, pI x4), (5, pI x8), (6, pR 3 (ix x1) 2), (7, pI x27), (8, pI z)]) [1, 2, 3, 4, 5, 6, 7, 8, 0] dX4_read_64 (by decide) (fun _ => rfl) (fun x31 => ?_)
            refine sim_aload_n dX4_read_66 rfl ?_
            refine sim_get (v := pR 4 0 5) dX4_read_67 fl_X4_29 (by decide) rfl ?_
            refine sim_iload_n dX4_read_70 rfl ?_
            refine sim_aald4 dX4_read_71 ?_
            refine sim_iload_n dX4_read_72 rfl ?_
            refine sim_iload dX4_read_73 rfl ?_
            refine sim_callV (As := [pI x2, pI x31]) (rest := []) (k0 := (ix x1)) dX4_read_75 ln_X4_249 me_X3_faultOfThree rfl (by decide) rfl (by decide) (Nat.le_of_ble_eq_true rfl) (Nat.le_of_ble_eq_true rfl) rfl (sS_faultOfThree X (ix x1) x2 x31 m28) (fun x32 => ?_)
            refine sim_istore (fun z => [(0, pR 4 0 0), (1, pI x1), (2, pI x2), (3, pI x3), (4, pI x4), (5, pI x8), (6, pR 3 (ix x1) 2), (7, pI x27), (8, pI x31), (9, pI z)]) [1, 2, 3, 4, 5, 6, 7, 8, 9, 0] dX4_read_78 (by decide) (fun _ => rfl) (fun x33 => ?_)
            refine sim_iload dX4_read_80 rfl ?_
            refine sim_if_eq (tgt := 94) dX4_read_82 (by decide) ?_ ?_
            · refine sim_aload_n dX4_read_94 rfl ?_
              refine sim_aload dX4_read_95 rfl ?_
              refine sim_iload dX4_read_97 rfl ?_
              refine sim_iald dX4_read_99 rfl (by decide) ?_
              refine sim_aload dX4_read_100 rfl ?_
              refine sim_iload dX4_read_102 rfl ?_
              refine sim_iconst (v := 1) dX4_read_104 (by decide) ?_
              refine sim_iadd dX4_read_105 ?_
              refine sim_iald dX4_read_106 rfl (by decide) ?_
              refine sim_aload dX4_read_107 rfl ?_
              refine sim_iload dX4_read_109 rfl ?_
              refine sim_iconst (v := 2) dX4_read_111 (by decide) ?_
              refine sim_iadd dX4_read_112 ?_
              refine sim_iald dX4_read_113 rfl (by decide) ?_
              refine sim_callV (As := [pI (m28 (3, (ix x1), 2) (ix x31)), pI (m28 (3, (ix x1), 2) (ix (x31 + 1))), pI (m28 (3, (ix x1), 2) (ix (x31 + 2)))]) (rest := []) (k0 := 0) dX4_read_114 ln_X4_223 me_X4_add rfl (by decide) rfl (by decide) (Nat.le_of_ble_eq_true rfl) (Nat.le_of_ble_eq_true rfl) rfl (sD_add X (m28 (3, (ix x1), 2) (ix x31)) (m28 (3, (ix x1), 2) (ix (x31 + 1))) (m28 (3, (ix x1), 2) (ix (x31 + 2))) m28) (fun q34 => ?_)
              refine sim_if_ge (tgt := 142) dX4_read_117 (by decide) ?_ ?_
              · refine sim_iinc (y := 1) (fun z => [(0, pR 4 0 0), (1, pI x1), (2, pI x2), (3, pI x3), (4, pI x4), (5, pI x8), (6, pR 3 (ix x1) 2), (7, pI z), (8, pI x31), (9, pI x33)]) [1, 2, 3, 4, 5, 6, 7, 0, 8, 9] dX4_read_142 rfl (by decide) (by decide) (fun _ => rfl) (fun x35 => ?_)
                refine sim_goto (tgt := 51) dX4_read_145 (by decide) ?_
                refine sim_pick [(0, pR 4 0 0), (1, pI x1), (2, pI x2), (3, pI x3), (4, pI x4), (5, pI x8), (6, pR 3 (ix x1) 2), (7, pI x35)] [0, 1, 2, 3, 4, 5, 6, 7] rfl ?_
                exact hs30 x35 q34.2
              · exact hJ20 x27 x31 x33 q34.2
            · exact hJ26 x27 x31 x33 m28
        · refine sim_iconst (v := (-1)) dX4_read_26 (by decide) ?_
          exact sim_iret dX4_read_27 rfl rfl

def fD_torn (m1 : Mem) : Option Int32 :=
  some (m1 (4, 0, 0) 7)
abbrev rm_D_torn : Room := { frames := 0, cells := 0, slots := 0, locals := 0 }
set_option maxRecDepth 4000 in
theorem sD_torn (X : Sc) (m1 : Mem) : Sim X cX4_torn 1 (some .int) RX4 rm_D_torn (fun r : Int32 => r) (fun _ : Int32 => m1) 0 [(0, pR 4 0 0)] [] m1 (fD_torn m1) := by
  unfold fD_torn
  refine sim_aload_n dX4_torn_0 rfl ?_
  refine sim_get (v := pI (m1 (4, 0, 0) 7)) dX4_torn_1 fl_X4_252 (by decide) rfl ?_
  exact sim_iret dX4_torn_4 rfl rfl

def bD_sum_0_2_4 (k1 : Nat) (x2 : Int32) (m3 : Mem) (s8 : Int32 → Int32 → Option Int32) (x6 : Int32) (x7 : Int32) : Option Int32 :=
  if x2 ≤ x7 then (some x6) else (if 6 ≤ x7 then (some x6) else (gd (inb x7 6) (lt (x6 + (m3 (0, k1, 2) (ix x7))) (fun (x10 : Int32) => lt (x7 + 1) (fun (x11 : Int32) => s8 x10 x11)))))
def fD_sum_0_2 (k1 : Nat) (x2 : Int32) (m3 : Mem) : Option Int32 :=
  lt 0 (fun (x4 : Int32) => lt 0 (fun (x5 : Int32) => lz20 (bD_sum_0_2_4 k1 x2 m3) FU x4 x5))
abbrev rm_D_sum_0_2 : Room := { frames := 0, cells := 0, slots := 0, locals := 0 }
set_option maxRecDepth 4000 in
theorem sD_sum_0_2 (X : Sc) (k1 : Nat) (x2 : Int32) (m3 : Mem) : Sim X cX4_sum 4 (some .int) RX4 rm_D_sum_0_2 (fun r : Int32 => r) (fun _ : Int32 => m3) 0 [(0, pR 0 k1 2), (1, pI x2)] [] m3 (fD_sum_0_2 k1 x2 m3) := by
  unfold fD_sum_0_2
  refine sim_iconst (v := 0) dX4_sum_0 (by decide) ?_
  refine sim_istore_n (fun z => [(0, pR 0 k1 2), (1, pI x2), (2, pI z)]) [1, 2, 0] dX4_sum_1 (by decide) (fun _ => rfl) (fun x4 => ?_)
  refine sim_iconst (v := 0) dX4_sum_2 (by decide) ?_
  refine sim_istore_n (fun z => [(0, pR 0 k1 2), (1, pI x2), (2, pI x4), (3, pI z)]) [1, 2, 3, 0] dX4_sum_3 (by decide) (fun _ => rfl) (fun x5 => ?_)
  refine sim_lz20 (fun z0 z1 => [(0, pR 0 k1 2), (1, pI x2), (2, pI z0), (3, pI z1)]) (fun s8 hs9 x6 x7 => ?_) FU x4 x5
  unfold bD_sum_0_2_4
  refine sim_iload_n dX4_sum_4 rfl ?_
  refine sim_iload_n dX4_sum_5 rfl ?_
  refine sim_icmp_ge (tgt := 27) dX4_sum_6 (by decide) ?_ ?_
  · refine sim_iload_n dX4_sum_27 rfl ?_
    exact sim_iret dX4_sum_28 rfl rfl
  · refine sim_iload_n dX4_sum_9 rfl ?_
    refine sim_aload_n dX4_sum_10 rfl ?_
    refine sim_alen (v := 6) dX4_sum_11 rfl (by decide) (by decide) (by decide) ?_
    refine sim_icmp_ge (tgt := 27) dX4_sum_12 (by decide) ?_ ?_
    · refine sim_iload_n dX4_sum_27 rfl ?_
      exact sim_iret dX4_sum_28 rfl rfl
    · refine sim_iload_n dX4_sum_15 rfl ?_
      refine sim_aload_n dX4_sum_16 rfl ?_
      refine sim_iload_n dX4_sum_17 rfl ?_
      refine sim_iald dX4_sum_18 rfl (by decide) ?_
      refine sim_iadd dX4_sum_19 ?_
      refine sim_istore_n (fun z => [(0, pR 0 k1 2), (1, pI x2), (2, pI z), (3, pI x7)]) [1, 2, 0, 3] dX4_sum_20 (by decide) (fun _ => rfl) (fun x10 => ?_)
      refine sim_iinc (y := 1) (fun z => [(0, pR 0 k1 2), (1, pI x2), (2, pI x10), (3, pI z)]) [1, 2, 3, 0] dX4_sum_21 rfl (by decide) (by decide) (fun _ => rfl) (fun x11 => ?_)
      refine sim_goto (tgt := 4) dX4_sum_24 (by decide) ?_
      exact hs9 x10 x11

def bD_sum_0_8_4 (k1 : Nat) (x2 : Int32) (m3 : Mem) (s8 : Int32 → Int32 → Option Int32) (x6 : Int32) (x7 : Int32) : Option Int32 :=
  if x2 ≤ x7 then (some x6) else (if 4 ≤ x7 then (some x6) else (gd (inb x7 4) (lt (x6 + (m3 (0, k1, 8) (ix x7))) (fun (x10 : Int32) => lt (x7 + 1) (fun (x11 : Int32) => s8 x10 x11)))))
def fD_sum_0_8 (k1 : Nat) (x2 : Int32) (m3 : Mem) : Option Int32 :=
  lt 0 (fun (x4 : Int32) => lt 0 (fun (x5 : Int32) => lz20 (bD_sum_0_8_4 k1 x2 m3) FU x4 x5))
abbrev rm_D_sum_0_8 : Room := { frames := 0, cells := 0, slots := 0, locals := 0 }
set_option maxRecDepth 4000 in
theorem sD_sum_0_8 (X : Sc) (k1 : Nat) (x2 : Int32) (m3 : Mem) : Sim X cX4_sum 4 (some .int) RX4 rm_D_sum_0_8 (fun r : Int32 => r) (fun _ : Int32 => m3) 0 [(0, pR 0 k1 8), (1, pI x2)] [] m3 (fD_sum_0_8 k1 x2 m3) := by
  unfold fD_sum_0_8
  refine sim_iconst (v := 0) dX4_sum_0 (by decide) ?_
  refine sim_istore_n (fun z => [(0, pR 0 k1 8), (1, pI x2), (2, pI z)]) [1, 2, 0] dX4_sum_1 (by decide) (fun _ => rfl) (fun x4 => ?_)
  refine sim_iconst (v := 0) dX4_sum_2 (by decide) ?_
  refine sim_istore_n (fun z => [(0, pR 0 k1 8), (1, pI x2), (2, pI x4), (3, pI z)]) [1, 2, 3, 0] dX4_sum_3 (by decide) (fun _ => rfl) (fun x5 => ?_)
  refine sim_lz20 (fun z0 z1 => [(0, pR 0 k1 8), (1, pI x2), (2, pI z0), (3, pI z1)]) (fun s8 hs9 x6 x7 => ?_) FU x4 x5
  unfold bD_sum_0_8_4
  refine sim_iload_n dX4_sum_4 rfl ?_
  refine sim_iload_n dX4_sum_5 rfl ?_
  refine sim_icmp_ge (tgt := 27) dX4_sum_6 (by decide) ?_ ?_
  · refine sim_iload_n dX4_sum_27 rfl ?_
    exact sim_iret dX4_sum_28 rfl rfl
  · refine sim_iload_n dX4_sum_9 rfl ?_
    refine sim_aload_n dX4_sum_10 rfl ?_
    refine sim_alen (v := 4) dX4_sum_11 rfl (by decide) (by decide) (by decide) ?_
    refine sim_icmp_ge (tgt := 27) dX4_sum_12 (by decide) ?_ ?_
    · refine sim_iload_n dX4_sum_27 rfl ?_
      exact sim_iret dX4_sum_28 rfl rfl
    · refine sim_iload_n dX4_sum_15 rfl ?_
      refine sim_aload_n dX4_sum_16 rfl ?_
      refine sim_iload_n dX4_sum_17 rfl ?_
      refine sim_iald dX4_sum_18 rfl (by decide) ?_
      refine sim_iadd dX4_sum_19 ?_
      refine sim_istore_n (fun z => [(0, pR 0 k1 8), (1, pI x2), (2, pI z), (3, pI x7)]) [1, 2, 0, 3] dX4_sum_20 (by decide) (fun _ => rfl) (fun x10 => ?_)
      refine sim_iinc (y := 1) (fun z => [(0, pR 0 k1 8), (1, pI x2), (2, pI x10), (3, pI z)]) [1, 2, 3, 0] dX4_sum_21 rfl (by decide) (by decide) (fun _ => rfl) (fun x11 => ?_)
      refine sim_goto (tgt := 4) dX4_sum_24 (by decide) ?_
      exact hs9 x10 x11

def bD_sum_0_4_4 (k1 : Nat) (x2 : Int32) (m3 : Mem) (s8 : Int32 → Int32 → Option Int32) (x6 : Int32) (x7 : Int32) : Option Int32 :=
  if x2 ≤ x7 then (some x6) else (if 6 ≤ x7 then (some x6) else (gd (inb x7 6) (lt (x6 + (m3 (0, k1, 4) (ix x7))) (fun (x10 : Int32) => lt (x7 + 1) (fun (x11 : Int32) => s8 x10 x11)))))
def fD_sum_0_4 (k1 : Nat) (x2 : Int32) (m3 : Mem) : Option Int32 :=
  lt 0 (fun (x4 : Int32) => lt 0 (fun (x5 : Int32) => lz20 (bD_sum_0_4_4 k1 x2 m3) FU x4 x5))
abbrev rm_D_sum_0_4 : Room := { frames := 0, cells := 0, slots := 0, locals := 0 }
set_option maxRecDepth 4000 in
theorem sD_sum_0_4 (X : Sc) (k1 : Nat) (x2 : Int32) (m3 : Mem) : Sim X cX4_sum 4 (some .int) RX4 rm_D_sum_0_4 (fun r : Int32 => r) (fun _ : Int32 => m3) 0 [(0, pR 0 k1 4), (1, pI x2)] [] m3 (fD_sum_0_4 k1 x2 m3) := by
  unfold fD_sum_0_4
  refine sim_iconst (v := 0) dX4_sum_0 (by decide) ?_
  refine sim_istore_n (fun z => [(0, pR 0 k1 4), (1, pI x2), (2, pI z)]) [1, 2, 0] dX4_sum_1 (by decide) (fun _ => rfl) (fun x4 => ?_)
  refine sim_iconst (v := 0) dX4_sum_2 (by decide) ?_
  refine sim_istore_n (fun z => [(0, pR 0 k1 4), (1, pI x2), (2, pI x4), (3, pI z)]) [1, 2, 3, 0] dX4_sum_3 (by decide) (fun _ => rfl) (fun x5 => ?_)
  refine sim_lz20 (fun z0 z1 => [(0, pR 0 k1 4), (1, pI x2), (2, pI z0), (3, pI z1)]) (fun s8 hs9 x6 x7 => ?_) FU x4 x5
  unfold bD_sum_0_4_4
  refine sim_iload_n dX4_sum_4 rfl ?_
  refine sim_iload_n dX4_sum_5 rfl ?_
  refine sim_icmp_ge (tgt := 27) dX4_sum_6 (by decide) ?_ ?_
  · refine sim_iload_n dX4_sum_27 rfl ?_
    exact sim_iret dX4_sum_28 rfl rfl
  · refine sim_iload_n dX4_sum_9 rfl ?_
    refine sim_aload_n dX4_sum_10 rfl ?_
    refine sim_alen (v := 6) dX4_sum_11 rfl (by decide) (by decide) (by decide) ?_
    refine sim_icmp_ge (tgt := 27) dX4_sum_12 (by decide) ?_ ?_
    · refine sim_iload_n dX4_sum_27 rfl ?_
      exact sim_iret dX4_sum_28 rfl rfl
    · refine sim_iload_n dX4_sum_15 rfl ?_
      refine sim_aload_n dX4_sum_16 rfl ?_
      refine sim_iload_n dX4_sum_17 rfl ?_
      refine sim_iald dX4_sum_18 rfl (by decide) ?_
      refine sim_iadd dX4_sum_19 ?_
      refine sim_istore_n (fun z => [(0, pR 0 k1 4), (1, pI x2), (2, pI z), (3, pI x7)]) [1, 2, 0, 3] dX4_sum_20 (by decide) (fun _ => rfl) (fun x10 => ?_)
      refine sim_iinc (y := 1) (fun z => [(0, pR 0 k1 4), (1, pI x2), (2, pI x10), (3, pI z)]) [1, 2, 3, 0] dX4_sum_21 rfl (by decide) (by decide) (fun _ => rfl) (fun x11 => ?_)
      refine sim_goto (tgt := 4) dX4_sum_24 (by decide) ?_
      exact hs9 x10 x11

def fD_count (x1 : Int32) (m2 : Mem) : Option Int32 :=
  if x1 = 0 then (gd (inb 0 2) (lt (if (m2 (4, 0, 4) (ix 0)) = 0 then 0 else 1) (fun (x3 : Int32) => gd (inb 1 2) (lt (if (m2 (4, 0, 4) (ix 1)) = 0 then 0 else 1) (fun (x4 : Int32) => some (x3 + x4)))))) else (if x1 = 1 then (Option.bind (fD_sum_0_2 0 (m2 (0, 0, 0) 0) m2) (fun x8 => some x8)) else (if x1 = 2 then (some (m2 (2, 0, 0) 1)) else (if x1 = 3 then (gd (inb 0 4) (if 0 ≤ (m2 (3, (ix 0), 0) 0) then (gd (inb 0 4) (some (m2 (3, (ix 0), 0) 0))) else (some (-4)))) else (if x1 = 4 then (Option.bind (fD_sum_0_8 0 (m2 (0, 0, 0) 4) m2) (fun x12 => some x12)) else (if x1 = 5 then (Option.bind (fD_sum_0_4 0 ((m2 (0, 0, 0) 0) - 1) m2) (fun x14 => some x14)) else (some (-1)))))))
abbrev rm_D_count : Room := { frames := 1, cells := 0, slots := 0, locals := 23 }
set_option maxRecDepth 4000 in
theorem sD_count (X : Sc) (x1 : Int32) (m2 : Mem) : Sim X cX4_count 2 (some .int) RX4 rm_D_count (fun r : Int32 => r) (fun _ : Int32 => m2) 0 [(0, pR 4 0 0), (1, pI x1)] [] m2 (fD_count x1 m2) := by
  unfold fD_count
  refine sim_iload_n dX4_count_0 rfl ?_
  refine sim_case ?_ (fun hc7 => ?_)
  · refine sim_tab (off := 39) (tgt := 40) dX4_count_1 (by decide) (by decide) (by decide) (by decide) ?_
    refine sim_aload_n dX4_count_40 rfl ?_
    refine sim_get (v := pR 4 0 4) dX4_count_41 fl_X4_23 (by decide) rfl ?_
    refine sim_iconst (v := 0) dX4_count_44 (by decide) ?_
    refine sim_zald dX4_count_45 rfl (by decide) ?_
    refine sim_jv 54 [(0, pR 4 0 0), (1, pI x1)] [] (fun x3 => ?_) (fun hV6 => ?_)
    · refine sim_aload_n dX4_count_54 rfl ?_
      refine sim_get (v := pR 4 0 4) dX4_count_55 fl_X4_23 (by decide) rfl ?_
      refine sim_iconst (v := 1) dX4_count_58 (by decide) ?_
      refine sim_zald dX4_count_59 rfl (by decide) ?_
      refine sim_jv 68 [(0, pR 4 0 0), (1, pI x1)] [pI x3] (fun x4 => ?_) (fun hV5 => ?_)
      · refine sim_iadd dX4_count_68 ?_
        exact sim_iret dX4_count_69 rfl rfl
      · refine sim_eq (lt_ite _ _ _ _) ?_
        refine sim_if_eq (tgt := 67) dX4_count_60 (by decide) ?_ ?_
        · refine sim_iconst (v := 0) dX4_count_67 (by decide) ?_
          exact hV5 _
        · refine sim_iconst (v := 1) dX4_count_63 (by decide) ?_
          refine sim_goto (tgt := 68) dX4_count_64 (by decide) ?_
          exact hV5 _
    · refine sim_eq (lt_ite _ _ _ _) ?_
      refine sim_if_eq (tgt := 53) dX4_count_46 (by decide) ?_ ?_
      · refine sim_iconst (v := 0) dX4_count_53 (by decide) ?_
        exact hV6 _
      · refine sim_iconst (v := 1) dX4_count_49 (by decide) ?_
        refine sim_goto (tgt := 54) dX4_count_50 (by decide) ?_
        exact hV6 _
  · refine sim_case ?_ (fun hc9 => ?_)
    · refine sim_tab (off := 69) (tgt := 70) dX4_count_1 (by decide) (by decide) (by decide) (by decide) ?_
      refine sim_aload_n dX4_count_70 rfl ?_
      refine sim_get (v := pR 0 0 0) dX4_count_71 fl_X4_10 (by decide) rfl ?_
      refine sim_get (v := pR 0 0 2) dX4_count_74 fl_X4_111 (by decide) rfl ?_
      refine sim_aload_n dX4_count_77 rfl ?_
      refine sim_get (v := pR 0 0 0) dX4_count_78 fl_X4_10 (by decide) rfl ?_
      refine sim_get (v := pI (m2 (0, 0, 0) 0)) dX4_count_81 fl_X4_80 (by decide) rfl ?_
      refine sim_callS (As := [pR 0 0 2, pI (m2 (0, 0, 0) 0)]) (rest := []) dX4_count_84 ln_X4_255 me_X4_sum rfl (by decide) (Nat.le_of_ble_eq_true rfl) (Nat.le_of_ble_eq_true rfl) rfl (sD_sum_0_2 X 0 (m2 (0, 0, 0) 0) m2) (fun x8 => ?_)
      exact sim_iret dX4_count_87 rfl rfl
    · refine sim_case ?_ (fun hc10 => ?_)
      · refine sim_tab (off := 87) (tgt := 88) dX4_count_1 (by decide) (by decide) (by decide) (by decide) ?_
        refine sim_aload_n dX4_count_88 rfl ?_
        refine sim_get (v := pR 2 0 0) dX4_count_89 fl_X4_43 (by decide) rfl ?_
        refine sim_get (v := pI (m2 (2, 0, 0) 1)) dX4_count_92 fl_X4_48 (by decide) rfl ?_
        exact sim_iret dX4_count_95 rfl rfl
      · refine sim_case ?_ (fun hc11 => ?_)
        · refine sim_tab (off := 95) (tgt := 96) dX4_count_1 (by decide) (by decide) (by decide) (by decide) ?_
          refine sim_aload_n dX4_count_96 rfl ?_
          refine sim_get (v := pR 4 0 5) dX4_count_97 fl_X4_29 (by decide) rfl ?_
          refine sim_iconst (v := 0) dX4_count_100 (by decide) ?_
          refine sim_aald4 dX4_count_101 ?_
          refine sim_get (v := pI (m2 (3, (ix 0), 0) 0)) dX4_count_102 fl_X4_259 (by decide) rfl ?_
          refine sim_if_ge (tgt := 113) dX4_count_105 (by decide) ?_ ?_
          · refine sim_aload_n dX4_count_113 rfl ?_
            refine sim_get (v := pR 4 0 5) dX4_count_114 fl_X4_29 (by decide) rfl ?_
            refine sim_iconst (v := 0) dX4_count_117 (by decide) ?_
            refine sim_aald4 dX4_count_118 ?_
            refine sim_get (v := pI (m2 (3, (ix 0), 0) 0)) dX4_count_119 fl_X4_259 (by decide) rfl ?_
            exact sim_iret dX4_count_122 rfl rfl
          · refine sim_bipush (v := (-4)) dX4_count_108 (by decide) ?_
            refine sim_goto (tgt := 122) dX4_count_110 (by decide) ?_
            exact sim_iret dX4_count_122 rfl rfl
        · refine sim_case ?_ (fun hc13 => ?_)
          · refine sim_tab (off := 122) (tgt := 123) dX4_count_1 (by decide) (by decide) (by decide) (by decide) ?_
            refine sim_aload_n dX4_count_123 rfl ?_
            refine sim_get (v := pR 0 0 0) dX4_count_124 fl_X4_10 (by decide) rfl ?_
            refine sim_get (v := pR 0 0 8) dX4_count_127 fl_X4_133 (by decide) rfl ?_
            refine sim_aload_n dX4_count_130 rfl ?_
            refine sim_get (v := pR 0 0 0) dX4_count_131 fl_X4_10 (by decide) rfl ?_
            refine sim_get (v := pI (m2 (0, 0, 0) 4)) dX4_count_134 fl_X4_83 (by decide) rfl ?_
            refine sim_callS (As := [pR 0 0 8, pI (m2 (0, 0, 0) 4)]) (rest := []) dX4_count_137 ln_X4_255 me_X4_sum rfl (by decide) (Nat.le_of_ble_eq_true rfl) (Nat.le_of_ble_eq_true rfl) rfl (sD_sum_0_8 X 0 (m2 (0, 0, 0) 4) m2) (fun x12 => ?_)
            exact sim_iret dX4_count_140 rfl rfl
          · refine sim_case ?_ (fun hc15 => ?_)
            · refine sim_tab (off := 140) (tgt := 141) dX4_count_1 (by decide) (by decide) (by decide) (by decide) ?_
              refine sim_aload_n dX4_count_141 rfl ?_
              refine sim_get (v := pR 0 0 0) dX4_count_142 fl_X4_10 (by decide) rfl ?_
              refine sim_get (v := pR 0 0 4) dX4_count_145 fl_X4_121 (by decide) rfl ?_
              refine sim_aload_n dX4_count_148 rfl ?_
              refine sim_get (v := pR 0 0 0) dX4_count_149 fl_X4_10 (by decide) rfl ?_
              refine sim_get (v := pI (m2 (0, 0, 0) 0)) dX4_count_152 fl_X4_80 (by decide) rfl ?_
              refine sim_iconst (v := 1) dX4_count_155 (by decide) ?_
              refine sim_isub dX4_count_156 ?_
              refine sim_callS (As := [pR 0 0 4, pI ((m2 (0, 0, 0) 0) - 1)]) (rest := []) dX4_count_157 ln_X4_255 me_X4_sum rfl (by decide) (Nat.le_of_ble_eq_true rfl) (Nat.le_of_ble_eq_true rfl) rfl (sD_sum_0_4 X 0 ((m2 (0, 0, 0) 0) - 1) m2) (fun x14 => ?_)
              exact sim_iret dX4_count_160 rfl rfl
            · have e0_ := ne_lit hc7 (n := 0) (by decide)
              have e1_ := ne_lit hc9 (n := 1) (by decide)
              have e2_ := ne_lit hc10 (n := 2) (by decide)
              have e3_ := ne_lit hc11 (n := 3) (by decide)
              have e4_ := ne_lit hc13 (n := 4) (by decide)
              have e5_ := ne_lit hc15 (n := 5) (by decide)
              refine sim_tabd (tgt := 161) dX4_count_1 (by omega) (by decide) ?_
              refine sim_iconst (v := (-1)) dX4_count_161 (by decide) ?_
              exact sim_iret dX4_count_162 rfl rfl
