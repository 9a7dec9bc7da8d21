def fP_forget (m1 : Mem) : Option Mem :=
  lt (wr m1 (1, 0, 0) 6 0) (fun m2 => lt (wr m2 (1, 0, 0) 7 0) (fun m3 => some m3))
abbrev rm_P_forget : Room := { frames := 0, cells := 0, slots := 0, locals := 0 }
set_option maxRecDepth 4000 in
theorem sP_forget (X : Sc) (m1 : Mem) : Sim X cX1_forget 1 none RX1 rm_P_forget (fun _ : Mem => 0) (fun m : Mem => m) 0 [(0, pR 1 0 0)] [] m1 (fP_forget m1) := by
  unfold fP_forget
  refine sim_aload_n dX1_forget_0 rfl ?_
  refine sim_iconst (v := 0) dX1_forget_1 (by decide) ?_
  refine sim_put dX1_forget_2 fl_X1_32 fp_1_6 rfl rfl (fun m2 => ?_)
  refine sim_aload_n dX1_forget_5 rfl ?_
  refine sim_iconst (v := 0) dX1_forget_6 (by decide) ?_
  refine sim_put dX1_forget_7 fl_X1_36 fp_1_7 rfl rfl (fun m3 => ?_)
  exact sim_ret dX1_forget_10 rfl

def bP_tracksFor_5 (k1 : Nat) (x2 : Int32) (x3 : Int32) (m4 : Mem) (s9 : Int32 → Int32 → Option Int32) (x7 : Int32) (x8 : Int32) : Option Int32 :=
  gd (inb x2 6) (if (m4 (0, k1, 2) (ix x2)) ≤ x8 then (some x7) else (gd (inb ((x2 * 3) + x8) 18) (lt (if (m4 (0, k1, 3) (ix ((x2 * 3) + x8))) < x3 then 0 else 1) (fun (x11 : Int32) => lt (x7 + x11) (fun (x12 : Int32) => lt (x8 + 1) (fun (x13 : Int32) => s9 x12 x13))))))
def fP_tracksFor (k1 : Nat) (x2 : Int32) (x3 : Int32) (m4 : Mem) : Option Int32 :=
  lt 0 (fun (x5 : Int32) => lt 0 (fun (x6 : Int32) => lz20 (bP_tracksFor_5 k1 x2 x3 m4) FU x5 x6))
abbrev rm_P_tracksFor : Room := { frames := 0, cells := 0, slots := 0, locals := 0 }
set_option maxRecDepth 4000 in
theorem sP_tracksFor (X : Sc) (k1 : Nat) (x2 : Int32) (x3 : Int32) (m4 : Mem) : Sim X cX1_tracksFor 5 (some .int) RX1 rm_P_tracksFor (fun r : Int32 => r) (fun _ : Int32 => m4) 0 [(0, pR 0 k1 0), (1, pI x2), (2, pI x3)] [] m4 (fP_tracksFor k1 x2 x3 m4) := by
  unfold fP_tracksFor
  refine sim_iconst (v := 0) dX1_tracksFor_0 (by decide) ?_
  refine sim_istore_n (fun z => [(0, pR 0 k1 0), (1, pI x2), (2, pI x3), (3, pI z)]) [1, 2, 3, 0] dX1_tracksFor_1 (by decide) (fun _ => rfl) (fun x5 => ?_)
  refine sim_iconst (v := 0) dX1_tracksFor_2 (by decide) ?_
  refine sim_istore (fun z => [(0, pR 0 k1 0), (1, pI x2), (2, pI x3), (3, pI x5), (4, pI z)]) [1, 2, 3, 4, 0] dX1_tracksFor_3 (by decide) (fun _ => rfl) (fun x6 => ?_)
  refine sim_lz20 (fun z0 z1 => [(0, pR 0 k1 0), (1, pI x2), (2, pI x3), (3, pI z0), (4, pI z1)]) (fun s9 hs10 x7 x8 => ?_) FU x5 x6
  unfold bP_tracksFor_5
  refine sim_iload dX1_tracksFor_5 rfl ?_
  refine sim_aload_n dX1_tracksFor_7 rfl ?_
  refine sim_get (v := pR 0 k1 2) dX1_tracksFor_8 fl_X1_62 (by decide) rfl ?_
  refine sim_iload_n dX1_tracksFor_11 rfl ?_
  refine sim_iald dX1_tracksFor_12 rfl (by decide) ?_
  refine sim_icmp_ge (tgt := 45) dX1_tracksFor_13 (by decide) ?_ ?_
  · refine sim_iload_n dX1_tracksFor_45 rfl ?_
    exact sim_iret dX1_tracksFor_46 rfl rfl
  · refine sim_iload_n dX1_tracksFor_16 rfl ?_
    refine sim_aload_n dX1_tracksFor_17 rfl ?_
    refine sim_get (v := pR 0 k1 3) dX1_tracksFor_18 fl_X1_65 (by decide) rfl ?_
    refine sim_iload_n dX1_tracksFor_21 rfl ?_
    refine sim_iconst (v := 3) dX1_tracksFor_22 (by decide) ?_
    refine sim_imul dX1_tracksFor_23 ?_
    refine sim_iload dX1_tracksFor_24 rfl ?_
    refine sim_iadd dX1_tracksFor_26 ?_
    refine sim_iald dX1_tracksFor_27 rfl (by decide) ?_
    refine sim_iload_n dX1_tracksFor_28 rfl ?_
    refine sim_jv 37 [(0, pR 0 k1 0), (1, pI x2), (2, pI x3), (3, pI x7), (4, pI x8)] [pI x7] (fun x11 => ?_) (fun hV14 => ?_)
    · refine sim_iadd dX1_tracksFor_37 ?_
      refine sim_istore_n (fun z => [(0, pR 0 k1 0), (1, pI x2), (2, pI x3), (3, pI z), (4, pI x8)]) [1, 2, 3, 0, 4] dX1_tracksFor_38 (by decide) (fun _ => rfl) (fun x12 => ?_)
      refine sim_iinc (y := 1) (fun z => [(0, pR 0 k1 0), (1, pI x2), (2, pI x3), (3, pI x12), (4, pI z)]) [1, 2, 3, 4, 0] dX1_tracksFor_39 rfl (by decide) (by decide) (fun _ => rfl) (fun x13 => ?_)
      refine sim_goto (tgt := 5) dX1_tracksFor_42 (by decide) ?_
      exact hs10 x12 x13
    · refine sim_eq (lt_ite _ _ _ _) ?_
      refine sim_icmp_lt (tgt := 36) dX1_tracksFor_29 (by decide) ?_ ?_
      · refine sim_iconst (v := 0) dX1_tracksFor_36 (by decide) ?_
        exact hV14 _
      · refine sim_iconst (v := 1) dX1_tracksFor_32 (by decide) ?_
        refine sim_goto (tgt := 37) dX1_tracksFor_33 (by decide) ?_
        exact hV14 _

def bP_trainsOf_5 (k1 : Nat) (x2 : Int32) (x3 : Int32) (m4 : Mem) (s9 : Int32 → Int32 → Option Int32) (x7 : Int32) (x8 : Int32) : Option Int32 :=
  if (m4 (0, k1, 0) 4) ≤ x8 then (some x7) else (if (((x2 : Int32) >>> ((x8 &&& 31) : Int32)) &&& 1) = 1 then (gd (inb x8 4) (if (m4 (0, k1, 8) (ix x8)) < x3 then (lt (x7 + 0) (fun (x13 : Int32) => lt (x8 + 1) (fun (x14 : Int32) => s9 x13 x14))) else (lt (x7 + 1) (fun (x15 : Int32) => lt (x8 + 1) (fun (x16 : Int32) => s9 x15 x16))))) else (lt (x7 + 0) (fun (x11 : Int32) => lt (x8 + 1) (fun (x12 : Int32) => s9 x11 x12))))
def fP_trainsOf (k1 : Nat) (x2 : Int32) (x3 : Int32) (m4 : Mem) : Option Int32 :=
  lt 0 (fun (x5 : Int32) => lt 0 (fun (x6 : Int32) => lz20 (bP_trainsOf_5 k1 x2 x3 m4) FU x5 x6))
abbrev rm_P_trainsOf : Room := { frames := 0, cells := 0, slots := 0, locals := 0 }
set_option maxRecDepth 4000 in
theorem sP_trainsOf (X : Sc) (k1 : Nat) (x2 : Int32) (x3 : Int32) (m4 : Mem) : Sim X cX1_trainsOf 5 (some .int) RX1 rm_P_trainsOf (fun r : Int32 => r) (fun _ : Int32 => m4) 0 [(0, pR 0 k1 0), (1, pI x2), (2, pI x3)] [] m4 (fP_trainsOf k1 x2 x3 m4) := by
  unfold fP_trainsOf
  refine sim_iconst (v := 0) dX1_trainsOf_0 (by decide) ?_
  refine sim_istore_n (fun z => [(0, pR 0 k1 0), (1, pI x2), (2, pI x3), (3, pI z)]) [1, 2, 3, 0] dX1_trainsOf_1 (by decide) (fun _ => rfl) (fun x5 => ?_)
  refine sim_iconst (v := 0) dX1_trainsOf_2 (by decide) ?_
  refine sim_istore (fun z => [(0, pR 0 k1 0), (1, pI x2), (2, pI x3), (3, pI x5), (4, pI z)]) [1, 2, 3, 4, 0] dX1_trainsOf_3 (by decide) (fun _ => rfl) (fun x6 => ?_)
  refine sim_lz20 (fun z0 z1 => [(0, pR 0 k1 0), (1, pI x2), (2, pI x3), (3, pI z0), (4, pI z1)]) (fun s9 hs10 x7 x8 => ?_) FU x5 x6
  unfold bP_trainsOf_5
  refine sim_iload dX1_trainsOf_5 rfl ?_
  refine sim_aload_n dX1_trainsOf_7 rfl ?_
  refine sim_get (v := pI (m4 (0, k1, 0) 4)) dX1_trainsOf_8 fl_X1_45 (by decide) rfl ?_
  refine sim_icmp_ge (tgt := 49) dX1_trainsOf_11 (by decide) ?_ ?_
  · refine sim_iload_n dX1_trainsOf_49 rfl ?_
    exact sim_iret dX1_trainsOf_50 rfl rfl
  · refine sim_iload_n dX1_trainsOf_14 rfl ?_
    refine sim_iload_n dX1_trainsOf_15 rfl ?_
    refine sim_iload dX1_trainsOf_16 rfl ?_
    refine sim_ishr dX1_trainsOf_18 ?_
    refine sim_iconst (v := 1) dX1_trainsOf_19 (by decide) ?_
    refine sim_iand dX1_trainsOf_20 ?_
    refine sim_iconst (v := 1) dX1_trainsOf_21 (by decide) ?_
    refine sim_icmp_ne (tgt := 40) dX1_trainsOf_22 (by decide) ?_ ?_
    · refine sim_aload_n dX1_trainsOf_25 rfl ?_
      refine sim_get (v := pR 0 k1 8) dX1_trainsOf_26 fl_X1_52 (by decide) rfl ?_
      refine sim_iload dX1_trainsOf_29 rfl ?_
      refine sim_iald dX1_trainsOf_31 rfl (by decide) ?_
      refine sim_iload_n dX1_trainsOf_32 rfl ?_
      refine sim_icmp_lt (tgt := 40) dX1_trainsOf_33 (by decide) ?_ ?_
      · refine sim_iconst (v := 0) dX1_trainsOf_40 (by decide) ?_
        refine sim_iadd dX1_trainsOf_41 ?_
        refine sim_istore_n (fun z => [(0, pR 0 k1 0), (1, pI x2), (2, pI x3), (3, pI z), (4, pI x8)]) [1, 2, 3, 0, 4] dX1_trainsOf_42 (by decide) (fun _ => rfl) (fun x13 => ?_)
        refine sim_iinc (y := 1) (fun z => [(0, pR 0 k1 0), (1, pI x2), (2, pI x3), (3, pI x13), (4, pI z)]) [1, 2, 3, 4, 0] dX1_trainsOf_43 rfl (by decide) (by decide) (fun _ => rfl) (fun x14 => ?_)
        refine sim_goto (tgt := 5) dX1_trainsOf_46 (by decide) ?_
        exact hs10 x13 x14
      · refine sim_iconst (v := 1) dX1_trainsOf_36 (by decide) ?_
        refine sim_goto (tgt := 41) dX1_trainsOf_37 (by decide) ?_
        refine sim_iadd dX1_trainsOf_41 ?_
        refine sim_istore_n (fun z => [(0, pR 0 k1 0), (1, pI x2), (2, pI x3), (3, pI z), (4, pI x8)]) [1, 2, 3, 0, 4] dX1_trainsOf_42 (by decide) (fun _ => rfl) (fun x15 => ?_)
        refine sim_iinc (y := 1) (fun z => [(0, pR 0 k1 0), (1, pI x2), (2, pI x3), (3, pI x15), (4, pI z)]) [1, 2, 3, 4, 0] dX1_trainsOf_43 rfl (by decide) (by decide) (fun _ => rfl) (fun x16 => ?_)
        refine sim_goto (tgt := 5) dX1_trainsOf_46 (by decide) ?_
        exact hs10 x15 x16
    · refine sim_iconst (v := 0) dX1_trainsOf_40 (by decide) ?_
      refine sim_iadd dX1_trainsOf_41 ?_
      refine sim_istore_n (fun z => [(0, pR 0 k1 0), (1, pI x2), (2, pI x3), (3, pI z), (4, pI x8)]) [1, 2, 3, 0, 4] dX1_trainsOf_42 (by decide) (fun _ => rfl) (fun x11 => ?_)
      refine sim_iinc (y := 1) (fun z => [(0, pR 0 k1 0), (1, pI x2), (2, pI x3), (3, pI x11), (4, pI z)]) [1, 2, 3, 4, 0] dX1_trainsOf_43 rfl (by decide) (by decide) (fun _ => rfl) (fun x12 => ?_)
      refine sim_goto (tgt := 5) dX1_trainsOf_46 (by decide) ?_
      exact hs10 x11 x12

def bP_fits_2 (k1 : Nat) (x2 : Int32) (x3 : Int32) (m4 : Mem) (s7 : Int32 → Option Int32) (x6 : Int32) : Option Int32 :=
  if (m4 (0, k1, 0) 4) ≤ x6 then (some 1) else (if (((x3 : Int32) >>> ((x6 &&& 31) : Int32)) &&& 1) = 1 then (gd (inb x6 4) (Option.bind (fP_tracksFor k1 x2 (m4 (0, k1, 8) (ix x6)) m4) (fun x10 => gd (inb x6 4) (Option.bind (fP_trainsOf k1 x3 (m4 (0, k1, 8) (ix x6)) m4) (fun x11 => if x11 ≤ x10 then (lt (x6 + 1) (fun (x12 : Int32) => s7 x12)) else (some 0)))))) else (lt (x6 + 1) (fun (x9 : Int32) => s7 x9)))
def fP_fits (k1 : Nat) (x2 : Int32) (x3 : Int32) (m4 : Mem) : Option Int32 :=
  lt 0 (fun (x5 : Int32) => lz10 (bP_fits_2 k1 x2 x3 m4) FU x5)
abbrev rm_P_fits : Room := { frames := 1, cells := 0, slots := 0, locals := 24 }
set_option maxRecDepth 4000 in
theorem sP_fits (X : Sc) (k1 : Nat) (x2 : Int32) (x3 : Int32) (m4 : Mem) : Sim X cX1_fits 4 (some .boolean) RX1 rm_P_fits (fun r : Int32 => r) (fun _ : Int32 => m4) 0 [(0, pR 0 k1 0), (1, pI x2), (2, pI x3)] [] m4 (fP_fits k1 x2 x3 m4) := by
  unfold fP_fits
  refine sim_iconst (v := 0) dX1_fits_0 (by decide) ?_
  refine sim_istore_n (fun z => [(0, pR 0 k1 0), (1, pI x2), (2, pI x3), (3, pI z)]) [1, 2, 3, 0] dX1_fits_1 (by decide) (fun _ => rfl) (fun x5 => ?_)
  refine sim_lz10 (fun z0 => [(0, pR 0 k1 0), (1, pI x2), (2, pI x3), (3, pI z0)]) (fun s7 hs8 x6 => ?_) FU x5
  unfold bP_fits_2
  refine sim_iload_n dX1_fits_2 rfl ?_
  refine sim_aload_n dX1_fits_3 rfl ?_
  refine sim_get (v := pI (m4 (0, k1, 0) 4)) dX1_fits_4 fl_X1_45 (by decide) rfl ?_
  refine sim_icmp_ge (tgt := 52) dX1_fits_7 (by decide) ?_ ?_
  · refine sim_iconst (v := 1) dX1_fits_52 (by decide) ?_
    exact sim_zret dX1_fits_53 rfl rfl rfl
  · refine sim_iload_n dX1_fits_10 rfl ?_
    refine sim_iload_n dX1_fits_11 rfl ?_
    refine sim_ishr dX1_fits_12 ?_
    refine sim_iconst (v := 1) dX1_fits_13 (by decide) ?_
    refine sim_iand dX1_fits_14 ?_
    refine sim_iconst (v := 1) dX1_fits_15 (by decide) ?_
    refine sim_icmp_ne (tgt := 46) dX1_fits_16 (by decide) ?_ ?_
    · refine sim_aload_n dX1_fits_19 rfl ?_
      refine sim_iload_n dX1_fits_20 rfl ?_
      refine sim_aload_n dX1_fits_21 rfl ?_
      refine sim_get (v := pR 0 k1 8) dX1_fits_22 fl_X1_52 (by decide) rfl ?_
      refine sim_iload_n dX1_fits_25 rfl ?_
      refine sim_iald dX1_fits_26 rfl (by decide) ?_
      refine sim_callS (As := [pR 0 k1 0, pI x2, pI (m4 (0, k1, 8) (ix x6))]) (rest := []) dX1_fits_27 ln_X1_55 me_X1_tracksFor rfl (by decide) (Nat.le_of_ble_eq_true rfl) (Nat.le_of_ble_eq_true rfl) rfl (sP_tracksFor X k1 x2 (m4 (0, k1, 8) (ix x6)) m4) (fun x10 => ?_)
      refine sim_aload_n dX1_fits_30 rfl ?_
      refine sim_iload_n dX1_fits_31 rfl ?_
      refine sim_aload_n dX1_fits_32 rfl ?_
      refine sim_get (v := pR 0 k1 8) dX1_fits_33 fl_X1_52 (by decide) rfl ?_
      refine sim_iload_n dX1_fits_36 rfl ?_
      refine sim_iald dX1_fits_37 rfl (by decide) ?_
      refine sim_callS (As := [pR 0 k1 0, pI x3, pI (m4 (0, k1, 8) (ix x6))]) (rest := [pI x10]) dX1_fits_38 ln_X1_59 me_X1_trainsOf rfl (by decide) (Nat.le_of_ble_eq_true rfl) (Nat.le_of_ble_eq_true rfl) rfl (sP_trainsOf X k1 x3 (m4 (0, k1, 8) (ix x6)) m4) (fun x11 => ?_)
      refine sim_icmp_ge (tgt := 46) dX1_fits_41 (by decide) ?_ ?_
      · refine sim_iinc (y := 1) (fun z => [(0, pR 0 k1 0), (1, pI x2), (2, pI x3), (3, pI z)]) [1, 2, 3, 0] dX1_fits_46 rfl (by decide) (by decide) (fun _ => rfl) (fun x12 => ?_)
        refine sim_goto (tgt := 2) dX1_fits_49 (by decide) ?_
        exact hs8 x12
      · refine sim_iconst (v := 0) dX1_fits_44 (by decide) ?_
        exact sim_zret dX1_fits_45 rfl rfl rfl
    · refine sim_iinc (y := 1) (fun z => [(0, pR 0 k1 0), (1, pI x2), (2, pI x3), (3, pI z)]) [1, 2, 3, 0] dX1_fits_46 rfl (by decide) (by decide) (fun _ => rfl) (fun x9 => ?_)
      refine sim_goto (tgt := 2) dX1_fits_49 (by decide) ?_
      exact hs8 x9

def jP_learnRooms_59 (x4 : Int32) (m5 : Mem) : Option Mem :=
  lt (wr m5 (1, 0, 0) 6 1) (fun m6 => some m6)
def jP_learnRooms_53 (s10 : Int32 → Mem → Option Mem) (x8 : Int32) (x13 : Int32) (m14 : Mem) : Option Mem :=
  lt (x8 + 1) (fun (x15 : Int32) => s10 x15 m14)
def bP_learnRooms_20 (k1 : Nat) (s10 : Int32 → Mem → Option Mem) (x8 : Int32) (s19 : Int32 → Mem → Option Mem) (x17 : Int32) (m18 : Mem) : Option Mem :=
  if ((1 : Int32) <<< (((m18 (0, k1, 0) 4) &&& 31) : Int32)) ≤ x17 then (jP_learnRooms_53 s10 x8 x17 m18) else (Option.bind (fP_fits k1 x8 x17 m18) (fun x21 => gd (inb ((x8 * 16) + x17) 96) (lt (wr m18 (1, 0, 1) (ix ((x8 * 16) + x17)) (vp_nar .boolean x21)) (fun m22 => lt (x17 + 1) (fun (x23 : Int32) => s19 x23 m22)))))
def bP_learnRooms_10 (k1 : Nat) (s10 : Int32 → Mem → Option Mem) (x8 : Int32) (m9 : Mem) : Option Mem :=
  if (m9 (0, k1, 0) 0) ≤ x8 then (jP_learnRooms_59 x8 m9) else (lt 0 (fun (x12 : Int32) => lz11 (bP_learnRooms_20 k1 s10 x8) FU x12 m9))
def fP_learnRooms (k1 : Nat) (m2 : Mem) : Option Mem :=
  if (m2 (1, 0, 0) 6) = 0 then (lt 0 (fun (x3 : Int32) => lz11 (bP_learnRooms_10 k1) FU x3 m2)) else (some m2)
abbrev rm_P_learnRooms : Room := { frames := 2, cells := 0, slots := 0, locals := 47 }
set_option maxRecDepth 4000 in
theorem sP_learnRooms (X : Sc) (k1 : Nat) (m2 : Mem) : Sim X cX1_learnRooms 4 none RX1 rm_P_learnRooms (fun _ : Mem => 0) (fun m : Mem => m) 0 [(0, pR 1 0 0), (1, pR 0 k1 0)] [] m2 (fP_learnRooms k1 m2) := by
  unfold fP_learnRooms
  refine sim_aload_n dX1_learnRooms_0 rfl ?_
  refine sim_get (v := pI (m2 (1, 0, 0) 6)) dX1_learnRooms_1 fl_X1_32 (by decide) rfl ?_
  refine sim_if_eq (tgt := 8) dX1_learnRooms_4 (by decide) ?_ ?_
  · refine sim_iconst (v := 0) dX1_learnRooms_8 (by decide) ?_
    refine sim_istore_n (fun z => [(0, pR 1 0 0), (1, pR 0 k1 0), (2, pI z)]) [1, 2, 0] dX1_learnRooms_9 (by decide) (fun _ => rfl) (fun x3 => ?_)
    have hJ7 : ∀ (x4 : Int32) (m5 : Mem), Sim X cX1_learnRooms 4 none RX1 rm_P_learnRooms (fun _ : Mem => 0) (fun m : Mem => m) 59 [(0, pR 1 0 0), (1, pR 0 k1 0), (2, pI x4)] [] m5 (jP_learnRooms_59 x4 m5) := by
      intro x4 m5
      unfold jP_learnRooms_59
      refine sim_aload_n dX1_learnRooms_59 rfl ?_
      refine sim_iconst (v := 1) dX1_learnRooms_60 (by decide) ?_
      refine sim_put dX1_learnRooms_61 fl_X1_32 fp_1_6 rfl rfl (fun m6 => ?_)
      exact sim_ret dX1_learnRooms_64 rfl
    refine sim_lz11 (fun z0 => [(0, pR 1 0 0), (1, pR 0 k1 0), (2, pI z0)]) (fun s10 hs11 x8 m9 => ?_) FU x3 m2
    unfold bP_learnRooms_10
    refine sim_iload_n dX1_learnRooms_10 rfl ?_
    refine sim_aload_n dX1_learnRooms_11 rfl ?_
    refine sim_get (v := pI (m9 (0, k1, 0) 0)) dX1_learnRooms_12 fl_X1_39 (by decide) rfl ?_
    refine sim_icmp_ge (tgt := 59) dX1_learnRooms_15 (by decide) ?_ ?_
    · exact hJ7 x8 m9
    · refine sim_iconst (v := 0) dX1_learnRooms_18 (by decide) ?_
      refine sim_istore_n (fun z => [(0, pR 1 0 0), (1, pR 0 k1 0), (2, pI x8), (3, pI z)]) [1, 2, 3, 0] dX1_learnRooms_19 (by decide) (fun _ => rfl) (fun x12 => ?_)
      have hJ16 : ∀ (x13 : Int32) (m14 : Mem), Sim X cX1_learnRooms 4 none RX1 rm_P_learnRooms (fun _ : Mem => 0) (fun m : Mem => m) 53 [(0, pR 1 0 0), (1, pR 0 k1 0), (2, pI x8), (3, pI x13)] [] m14 (jP_learnRooms_53 s10 x8 x13 m14) := by
        intro x13 m14
        unfold jP_learnRooms_53
        refine sim_iinc (y := 1) (fun z => [(0, pR 1 0 0), (1, pR 0 k1 0), (2, pI z), (3, pI x13)]) [1, 2, 0, 3] dX1_learnRooms_53 rfl (by decide) (by decide) (fun _ => rfl) (fun x15 => ?_)
        refine sim_goto (tgt := 10) dX1_learnRooms_56 (by decide) ?_
        refine sim_pick [(0, pR 1 0 0), (1, pR 0 k1 0), (2, pI x15)] [0, 1, 2] rfl ?_
        exact hs11 x15 m14
      refine sim_lz11 (fun z0 => [(0, pR 1 0 0), (1, pR 0 k1 0), (2, pI x8), (3, pI z0)]) (fun s19 hs20 x17 m18 => ?_) FU x12 m9
      unfold bP_learnRooms_20
      refine sim_iload_n dX1_learnRooms_20 rfl ?_
      refine sim_iconst (v := 1) dX1_learnRooms_21 (by decide) ?_
      refine sim_aload_n dX1_learnRooms_22 rfl ?_
      refine sim_get (v := pI (m18 (0, k1, 0) 4)) dX1_learnRooms_23 fl_X1_45 (by decide) rfl ?_
      refine sim_ishl dX1_learnRooms_26 ?_
      refine sim_icmp_ge (tgt := 53) dX1_learnRooms_27 (by decide) ?_ ?_
      · exact hJ16 x17 m18
      · refine sim_aload_n dX1_learnRooms_30 rfl ?_
        refine sim_get (v := pR 1 0 1) dX1_learnRooms_31 fl_X1_11 (by decide) rfl ?_
        refine sim_iload_n dX1_learnRooms_34 rfl ?_
        refine sim_bipush (v := 16) dX1_learnRooms_35 (by decide) ?_
        refine sim_imul dX1_learnRooms_37 ?_
        refine sim_iload_n dX1_learnRooms_38 rfl ?_
        refine sim_iadd dX1_learnRooms_39 ?_
        refine sim_aload_n dX1_learnRooms_40 rfl ?_
        refine sim_iload_n dX1_learnRooms_41 rfl ?_
        refine sim_iload_n dX1_learnRooms_42 rfl ?_
        refine sim_callS (As := [pR 0 k1 0, pI x8, pI x17]) (rest := [pI ((x8 * 16) + x17), pR 1 0 1]) dX1_learnRooms_43 ln_X1_48 me_X1_fits rfl (by decide) (Nat.le_of_ble_eq_true rfl) (Nat.le_of_ble_eq_true rfl) rfl (sP_fits X k1 x8 x17 m18) (fun x21 => ?_)
        refine sim_zast dX1_learnRooms_46 rfl (by decide) (fun m22 => ?_)
        refine sim_iinc (y := 1) (fun z => [(0, pR 1 0 0), (1, pR 0 k1 0), (2, pI x8), (3, pI z)]) [1, 2, 3, 0] dX1_learnRooms_47 rfl (by decide) (by decide) (fun _ => rfl) (fun x23 => ?_)
        refine sim_goto (tgt := 20) dX1_learnRooms_50 (by decide) ?_
        exact hs20 x23 m22
  · exact sim_ret dX1_learnRooms_7 rfl

def fP_highest (k1 : Nat) (x2 : Int32) (m3 : Mem) : Option Int32 :=
  if (m3 (0, k1, 0) 4) ≤ x2 then (some 0) else (gd (inb x2 4) (some (m3 (0, k1, 9) (ix x2))))
abbrev rm_P_highest : Room := { frames := 0, cells := 0, slots := 0, locals := 0 }
set_option maxRecDepth 4000 in
theorem sP_highest (X : Sc) (k1 : Nat) (x2 : Int32) (m3 : Mem) : Sim X cX1_highest 2 (some .int) RX1 rm_P_highest (fun r : Int32 => r) (fun _ : Int32 => m3) 0 [(0, pR 0 k1 0), (1, pI x2)] [] m3 (fP_highest k1 x2 m3) := by
  unfold fP_highest
  refine sim_iload_n dX1_highest_0 rfl ?_
  refine sim_aload_n dX1_highest_1 rfl ?_
  refine sim_get (v := pI (m3 (0, k1, 0) 4)) dX1_highest_2 fl_X1_45 (by decide) rfl ?_
  refine sim_icmp_ge (tgt := 17) dX1_highest_5 (by decide) ?_ ?_
  · refine sim_iconst (v := 0) dX1_highest_17 (by decide) ?_
    exact sim_iret dX1_highest_18 rfl rfl
  · refine sim_aload_n dX1_highest_8 rfl ?_
    refine sim_get (v := pR 0 k1 9) dX1_highest_9 fl_X1_85 (by decide) rfl ?_
    refine sim_iload_n dX1_highest_12 rfl ?_
    refine sim_iald dX1_highest_13 rfl (by decide) ?_
    refine sim_goto (tgt := 18) dX1_highest_14 (by decide) ?_
    exact sim_iret dX1_highest_18 rfl rfl

def bP_placeAll_10 (k1 : Nat) (s7 : Int32 → Mem → Option Mem) (x5 : Int32) (m6 : Mem) : Option Mem :=
  if (m6 (0, k1, 0) 4) ≤ x5 then (some m6) else (gd (inb x5 4) (if (m6 (1, 0, 4) (ix x5)) ≤ 0 then (lt (x5 + 1) (fun (x9 : Int32) => s7 x9 m6)) else (gd (inb x5 4) (Option.bind (fL_spot k1 x5 (m6 (1, 0, 4) (ix x5)) m6) (fun x10 => gd (inb x10 6) (gd (inb x10 6) (lt (wr m6 (1, 0, 5) (ix x10) ((m6 (1, 0, 5) (ix x10)) ||| ((1 : Int32) <<< ((x5 &&& 31) : Int32)))) (fun m11 => lt (x5 + 1) (fun (x12 : Int32) => s7 x12 m11)))))))))
def fP_placeAll (k1 : Nat) (m2 : Mem) : Option Mem :=
  Option.bind (fJ_fill_1_5 0 0 m2) (fun m3 => lt 0 (fun (x4 : Int32) => lz11 (bP_placeAll_10 k1) FU x4 m3))
abbrev rm_P_placeAll : Room := { frames := 1, cells := 0, slots := 0, locals := 23 }
set_option maxRecDepth 4000 in
theorem sP_placeAll (X : Sc) (k1 : Nat) (m2 : Mem) : Sim X cX1_placeAll 3 none RX1 rm_P_placeAll (fun _ : Mem => 0) (fun m : Mem => m) 0 [(0, pR 1 0 0), (1, pR 0 k1 0)] [] m2 (fP_placeAll k1 m2) := by
  unfold fP_placeAll
  refine sim_aload_n dX1_placeAll_0 rfl ?_
  refine sim_get (v := pR 1 0 5) dX1_placeAll_1 fl_X1_26 (by decide) rfl ?_
  refine sim_iconst (v := 0) dX1_placeAll_4 (by decide) ?_
  refine sim_callS (As := [pR 1 0 5, pI 0]) (rest := []) dX1_placeAll_5 ln_X1_100 me_J7_fill_53178 rfl (by decide) (Nat.le_of_ble_eq_true rfl) (Nat.le_of_ble_eq_true rfl) rfl (sJ_fill_1_5 X 0 0 m2) (fun m3 => ?_)
  refine sim_iconst (v := 0) dX1_placeAll_8 (by decide) ?_
  refine sim_istore_n (fun z => [(0, pR 1 0 0), (1, pR 0 k1 0), (2, pI z)]) [1, 2, 0] dX1_placeAll_9 (by decide) (fun _ => rfl) (fun x4 => ?_)
  refine sim_lz11 (fun z0 => [(0, pR 1 0 0), (1, pR 0 k1 0), (2, pI z0)]) (fun s7 hs8 x5 m6 => ?_) FU x4 m3
  unfold bP_placeAll_10
  refine sim_iload_n dX1_placeAll_10 rfl ?_
  refine sim_aload_n dX1_placeAll_11 rfl ?_
  refine sim_get (v := pI (m6 (0, k1, 0) 4)) dX1_placeAll_12 fl_X1_45 (by decide) rfl ?_
  refine sim_icmp_ge (tgt := 55) dX1_placeAll_15 (by decide) ?_ ?_
  · exact sim_ret dX1_placeAll_55 rfl
  · refine sim_aload_n dX1_placeAll_18 rfl ?_
    refine sim_get (v := pR 1 0 4) dX1_placeAll_19 fl_X1_23 (by decide) rfl ?_
    refine sim_iload_n dX1_placeAll_22 rfl ?_
    refine sim_iald dX1_placeAll_23 rfl (by decide) ?_
    refine sim_if_le (tgt := 49) dX1_placeAll_24 (by decide) ?_ ?_
    · refine sim_iinc (y := 1) (fun z => [(0, pR 1 0 0), (1, pR 0 k1 0), (2, pI z)]) [1, 2, 0] dX1_placeAll_49 rfl (by decide) (by decide) (fun _ => rfl) (fun x9 => ?_)
      refine sim_goto (tgt := 10) dX1_placeAll_52 (by decide) ?_
      exact hs8 x9 m6
    · refine sim_aload_n dX1_placeAll_27 rfl ?_
      refine sim_get (v := pR 1 0 5) dX1_placeAll_28 fl_X1_26 (by decide) rfl ?_
      refine sim_aload_n dX1_placeAll_31 rfl ?_
      refine sim_iload_n dX1_placeAll_32 rfl ?_
      refine sim_aload_n dX1_placeAll_33 rfl ?_
      refine sim_get (v := pR 1 0 4) dX1_placeAll_34 fl_X1_23 (by decide) rfl ?_
      refine sim_iload_n dX1_placeAll_37 rfl ?_
      refine sim_iald dX1_placeAll_38 rfl (by decide) ?_
      refine sim_callV (As := [pI x5, pI (m6 (1, 0, 4) (ix x5))]) (rest := [pR 1 0 5]) (k0 := k1) dX1_placeAll_39 ln_X1_106 me_X0_spot rfl (by decide) rfl (by decide) (Nat.le_of_ble_eq_true rfl) (Nat.le_of_ble_eq_true rfl) rfl (sL_spot X k1 x5 (m6 (1, 0, 4) (ix x5)) m6) (fun x10 => ?_)
      refine sim_dup2 dX1_placeAll_42 rfl rfl ?_
      refine sim_iald dX1_placeAll_43 rfl (by decide) ?_
      refine sim_iconst (v := 1) dX1_placeAll_44 (by decide) ?_
      refine sim_iload_n dX1_placeAll_45 rfl ?_
      refine sim_ishl dX1_placeAll_46 ?_
      refine sim_ior dX1_placeAll_47 ?_
      refine sim_iast dX1_placeAll_48 rfl (by decide) (fun m11 => ?_)
      refine sim_iinc (y := 1) (fun z => [(0, pR 1 0 0), (1, pR 0 k1 0), (2, pI z)]) [1, 2, 0] dX1_placeAll_49 rfl (by decide) (by decide) (fun _ => rfl) (fun x12 => ?_)
      refine sim_goto (tgt := 10) dX1_placeAll_52 (by decide) ?_
      exact hs8 x12 m11

def fP_code (m1 : Mem) : Option Int32 :=
  gd (inb 0 4) (gd (inb 1 4) (gd (inb 2 4) (gd (inb 3 4) (some ((m1 (1, 0, 4) (ix 0)) + (6 * ((m1 (1, 0, 4) (ix 1)) + (6 * ((m1 (1, 0, 4) (ix 2)) + (6 * (m1 (1, 0, 4) (ix 3))))))))))))
abbrev rm_P_code : Room := { frames := 0, cells := 0, slots := 0, locals := 0 }
set_option maxRecDepth 4000 in
theorem sP_code (X : Sc) (m1 : Mem) : Sim X cX1_code 1 (some .int) RX1 rm_P_code (fun r : Int32 => r) (fun _ : Int32 => m1) 0 [(0, pR 1 0 0)] [] m1 (fP_code m1) := by
  unfold fP_code
  refine sim_aload_n dX1_code_0 rfl ?_
  refine sim_get (v := pR 1 0 4) dX1_code_1 fl_X1_23 (by decide) rfl ?_
  refine sim_iconst (v := 0) dX1_code_4 (by decide) ?_
  refine sim_iald dX1_code_5 rfl (by decide) ?_
  refine sim_bipush (v := 6) dX1_code_6 (by decide) ?_
  refine sim_aload_n dX1_code_8 rfl ?_
  refine sim_get (v := pR 1 0 4) dX1_code_9 fl_X1_23 (by decide) rfl ?_
  refine sim_iconst (v := 1) dX1_code_12 (by decide) ?_
  refine sim_iald dX1_code_13 rfl (by decide) ?_
  refine sim_bipush (v := 6) dX1_code_14 (by decide) ?_
  refine sim_aload_n dX1_code_16 rfl ?_
  refine sim_get (v := pR 1 0 4) dX1_code_17 fl_X1_23 (by decide) rfl ?_
  refine sim_iconst (v := 2) dX1_code_20 (by decide) ?_
  refine sim_iald dX1_code_21 rfl (by decide) ?_
  refine sim_bipush (v := 6) dX1_code_22 (by decide) ?_
  refine sim_aload_n dX1_code_24 rfl ?_
  refine sim_get (v := pR 1 0 4) dX1_code_25 fl_X1_23 (by decide) rfl ?_
  refine sim_iconst (v := 3) dX1_code_28 (by decide) ?_
  refine sim_iald dX1_code_29 rfl (by decide) ?_
  refine sim_imul dX1_code_30 ?_
  refine sim_iadd dX1_code_31 ?_
  refine sim_imul dX1_code_32 ?_
  refine sim_iadd dX1_code_33 ?_
  refine sim_imul dX1_code_34 ?_
  refine sim_iadd dX1_code_35 ?_
  exact sim_iret dX1_code_36 rfl rfl

def fP_canStep (k1 : Nat) (x2 : Int32) (m3 : Mem) : Option Int32 :=
  gd (inb x2 4) (if 2 ≤ (m3 (1, 0, 4) (ix x2)) then (gd (inb x2 4) (Option.bind (fL_spot k1 x2 ((m3 (1, 0, 4) (ix x2)) - 1) m3) (fun x4 => lt x4 (fun (x5 : Int32) => gd (inb x5 6) (gd (inb ((x5 * 16) + ((m3 (1, 0, 5) (ix x5)) ||| ((1 : Int32) <<< ((x2 &&& 31) : Int32)))) 96) (gd (isb (m3 (1, 0, 1) (ix ((x5 * 16) + ((m3 (1, 0, 5) (ix x5)) ||| ((1 : Int32) <<< ((x2 &&& 31) : Int32))))))) (some (m3 (1, 0, 1) (ix ((x5 * 16) + ((m3 (1, 0, 5) (ix x5)) ||| ((1 : Int32) <<< ((x2 &&& 31) : Int32))))))))))))) else (gd (inb x2 4) (if (m3 (1, 0, 4) (ix x2)) = 1 then (some 1) else (some 0))))
abbrev rm_P_canStep : Room := { frames := 1, cells := 0, slots := 0, locals := 22 }
set_option maxRecDepth 4000 in
theorem sP_canStep (X : Sc) (k1 : Nat) (x2 : Int32) (m3 : Mem) : Sim X cX1_canStep 4 (some .boolean) RX1 rm_P_canStep (fun r : Int32 => r) (fun _ : Int32 => m3) 0 [(0, pR 1 0 0), (1, pR 0 k1 0), (2, pI x2)] [] m3 (fP_canStep k1 x2 m3) := by
  unfold fP_canStep
  refine sim_aload_n dX1_canStep_0 rfl ?_
  refine sim_get (v := pR 1 0 4) dX1_canStep_1 fl_X1_23 (by decide) rfl ?_
  refine sim_iload_n dX1_canStep_4 rfl ?_
  refine sim_iald dX1_canStep_5 rfl (by decide) ?_
  refine sim_iconst (v := 2) dX1_canStep_6 (by decide) ?_
  refine sim_icmp_ge (tgt := 26) dX1_canStep_7 (by decide) ?_ ?_
  · refine sim_aload_n dX1_canStep_26 rfl ?_
    refine sim_iload_n dX1_canStep_27 rfl ?_
    refine sim_aload_n dX1_canStep_28 rfl ?_
    refine sim_get (v := pR 1 0 4) dX1_canStep_29 fl_X1_23 (by decide) rfl ?_
    refine sim_iload_n dX1_canStep_32 rfl ?_
    refine sim_iald dX1_canStep_33 rfl (by decide) ?_
    refine sim_iconst (v := 1) dX1_canStep_34 (by decide) ?_
    refine sim_isub dX1_canStep_35 ?_
    refine sim_callV (As := [pI x2, pI ((m3 (1, 0, 4) (ix x2)) - 1)]) (rest := []) (k0 := k1) dX1_canStep_36 ln_X1_106 me_X0_spot rfl (by decide) rfl (by decide) (Nat.le_of_ble_eq_true rfl) (Nat.le_of_ble_eq_true rfl) rfl (sL_spot X k1 x2 ((m3 (1, 0, 4) (ix x2)) - 1) m3) (fun x4 => ?_)
    refine sim_istore_n (fun z => [(0, pR 1 0 0), (1, pR 0 k1 0), (2, pI x2), (3, pI z)]) [1, 2, 3, 0] dX1_canStep_39 (by decide) (fun _ => rfl) (fun x5 => ?_)
    refine sim_aload_n dX1_canStep_40 rfl ?_
    refine sim_get (v := pR 1 0 1) dX1_canStep_41 fl_X1_11 (by decide) rfl ?_
    refine sim_iload_n dX1_canStep_44 rfl ?_
    refine sim_bipush (v := 16) dX1_canStep_45 (by decide) ?_
    refine sim_imul dX1_canStep_47 ?_
    refine sim_aload_n dX1_canStep_48 rfl ?_
    refine sim_get (v := pR 1 0 5) dX1_canStep_49 fl_X1_26 (by decide) rfl ?_
    refine sim_iload_n dX1_canStep_52 rfl ?_
    refine sim_iald dX1_canStep_53 rfl (by decide) ?_
    refine sim_iconst (v := 1) dX1_canStep_54 (by decide) ?_
    refine sim_iload_n dX1_canStep_55 rfl ?_
    refine sim_ishl dX1_canStep_56 ?_
    refine sim_ior dX1_canStep_57 ?_
    refine sim_iadd dX1_canStep_58 ?_
    refine sim_zald dX1_canStep_59 rfl (by decide) ?_
    exact sim_zretg dX1_canStep_60 rfl rfl
  · refine sim_aload_n dX1_canStep_10 rfl ?_
    refine sim_get (v := pR 1 0 4) dX1_canStep_11 fl_X1_23 (by decide) rfl ?_
    refine sim_iload_n dX1_canStep_14 rfl ?_
    refine sim_iald dX1_canStep_15 rfl (by decide) ?_
    refine sim_iconst (v := 1) dX1_canStep_16 (by decide) ?_
    refine sim_icmp_ne (tgt := 24) dX1_canStep_17 (by decide) ?_ ?_
    · refine sim_iconst (v := 1) dX1_canStep_20 (by decide) ?_
      refine sim_goto (tgt := 25) dX1_canStep_21 (by decide) ?_
      exact sim_zret dX1_canStep_25 rfl rfl rfl
    · refine sim_iconst (v := 0) dX1_canStep_24 (by decide) ?_
      exact sim_zret dX1_canStep_25 rfl rfl rfl

def jP_learnOne_85 (m3 : Mem) (x5 : Int32) (x9 : Int32) (x10 : Int32) : Option Mem :=
  gd (inb x5 1296) (lt (wr m3 (1, 0, 2) (ix x5) x9) (fun m11 => some m11))
def bP_learnOne_24 (k1 : Nat) (m3 : Mem) (x5 : Int32) (s15 : Int32 → Int32 → Option Mem) (x13 : Int32) (x14 : Int32) : Option Mem :=
  if (m3 (0, k1, 0) 4) ≤ x14 then (jP_learnOne_85 m3 x5 x13 x14) else (gd (inb x14 4) (if (m3 (1, 0, 4) (ix x14)) = 0 then (lt (x13 ||| ((1 : Int32) <<< ((x14 &&& 31) : Int32))) (fun (x21 : Int32) => lt (x14 + 1) (fun (x22 : Int32) => s15 x21 x22))) else (Option.bind (fP_canStep k1 x14 m3) (fun x17 => if x17 = 0 then (lt (x14 + 1) (fun (x18 : Int32) => s15 x13 x18)) else (gd (inb x14 4) (gd (inb (x5 - (unitV (ix x14))) 1296) (lt (x13 ||| (m3 (1, 0, 2) (ix (x5 - (unitV (ix x14)))))) (fun (x19 : Int32) => lt (x14 + 1) (fun (x20 : Int32) => s15 x19 x20)))))))))
def fP_learnOne (k1 : Nat) (m2 : Mem) : Option Mem :=
  Option.bind (fP_placeAll k1 m2) (fun m3 => Option.bind (fP_code m3) (fun x4 => lt x4 (fun (x5 : Int32) => lt (if x5 = 0 then 16 else 0) (fun (x6 : Int32) => lt x6 (fun (x7 : Int32) => lt 0 (fun (x8 : Int32) => lz20 (bP_learnOne_24 k1 m3 x5) FU x7 x8))))))
abbrev rm_P_learnOne : Room := { frames := 2, cells := 0, slots := 0, locals := 45 }
set_option maxRecDepth 4000 in
theorem sP_learnOne (X : Sc) (k1 : Nat) (m2 : Mem) : Sim X cX1_learnOne 5 none RX1 rm_P_learnOne (fun _ : Mem => 0) (fun m : Mem => m) 0 [(0, pR 1 0 0), (1, pR 0 k1 0)] [] m2 (fP_learnOne k1 m2) := by
  unfold fP_learnOne
  refine sim_aload_n dX1_learnOne_0 rfl ?_
  refine sim_aload_n dX1_learnOne_1 rfl ?_
  refine sim_callV (As := [pR 0 k1 0]) (rest := []) (k0 := 0) dX1_learnOne_2 ln_X1_86 me_X1_placeAll rfl (by decide) rfl (by decide) (Nat.le_of_ble_eq_true rfl) (Nat.le_of_ble_eq_true rfl) rfl (sP_placeAll X k1 m2) (fun m3 => ?_)
  refine sim_aload_n dX1_learnOne_5 rfl ?_
  refine sim_callV (As := []) (rest := []) (k0 := 0) dX1_learnOne_6 ln_X1_89 me_X1_code rfl (by decide) rfl (by decide) (Nat.le_of_ble_eq_true rfl) (Nat.le_of_ble_eq_true rfl) rfl (sP_code X m3) (fun x4 => ?_)
  refine sim_istore_n (fun z => [(0, pR 1 0 0), (1, pR 0 k1 0), (2, pI z)]) [1, 2, 0] dX1_learnOne_9 (by decide) (fun _ => rfl) (fun x5 => ?_)
  refine sim_iload_n dX1_learnOne_10 rfl ?_
  refine sim_jv 20 [(0, pR 1 0 0), (1, pR 0 k1 0), (2, pI x5)] [] (fun x6 => ?_) (fun hV23 => ?_)
  · refine sim_istore_n (fun z => [(0, pR 1 0 0), (1, pR 0 k1 0), (2, pI x5), (3, pI z)]) [1, 2, 3, 0] dX1_learnOne_20 (by decide) (fun _ => rfl) (fun x7 => ?_)
    refine sim_iconst (v := 0) dX1_learnOne_21 (by decide) ?_
    refine sim_istore (fun z => [(0, pR 1 0 0), (1, pR 0 k1 0), (2, pI x5), (3, pI x7), (4, pI z)]) [1, 2, 3, 4, 0] dX1_learnOne_22 (by decide) (fun _ => rfl) (fun x8 => ?_)
    have hJ12 : ∀ (x9 : Int32) (x10 : Int32), Sim X cX1_learnOne 5 none RX1 rm_P_learnOne (fun _ : Mem => 0) (fun m : Mem => m) 85 [(0, pR 1 0 0), (1, pR 0 k1 0), (2, pI x5), (3, pI x9), (4, pI x10)] [] m3 (jP_learnOne_85 m3 x5 x9 x10) := by
      intro x9 x10
      unfold jP_learnOne_85
      refine sim_aload_n dX1_learnOne_85 rfl ?_
      refine sim_get (v := pR 1 0 2) dX1_learnOne_86 fl_X1_15 (by decide) rfl ?_
      refine sim_iload_n dX1_learnOne_89 rfl ?_
      refine sim_iload_n dX1_learnOne_90 rfl ?_
      refine sim_iast dX1_learnOne_91 rfl (by decide) (fun m11 => ?_)
      exact sim_ret dX1_learnOne_92 rfl
    refine sim_lz20 (fun z0 z1 => [(0, pR 1 0 0), (1, pR 0 k1 0), (2, pI x5), (3, pI z0), (4, pI z1)]) (fun s15 hs16 x13 x14 => ?_) FU x7 x8
    unfold bP_learnOne_24
    refine sim_iload dX1_learnOne_24 rfl ?_
    refine sim_aload_n dX1_learnOne_26 rfl ?_
    refine sim_get (v := pI (m3 (0, k1, 0) 4)) dX1_learnOne_27 fl_X1_45 (by decide) rfl ?_
    refine sim_icmp_ge (tgt := 85) dX1_learnOne_30 (by decide) ?_ ?_
    · exact hJ12 x13 x14
    · refine sim_aload_n dX1_learnOne_33 rfl ?_
      refine sim_get (v := pR 1 0 4) dX1_learnOne_34 fl_X1_23 (by decide) rfl ?_
      refine sim_iload dX1_learnOne_37 rfl ?_
      refine sim_iald dX1_learnOne_39 rfl (by decide) ?_
      refine sim_if_ne (tgt := 53) dX1_learnOne_40 (by decide) ?_ ?_
      · refine sim_iload_n dX1_learnOne_43 rfl ?_
        refine sim_iconst (v := 1) dX1_learnOne_44 (by decide) ?_
        refine sim_iload dX1_learnOne_45 rfl ?_
        refine sim_ishl dX1_learnOne_47 ?_
        refine sim_ior dX1_learnOne_48 ?_
        refine sim_istore_n (fun z => [(0, pR 1 0 0), (1, pR 0 k1 0), (2, pI x5), (3, pI z), (4, pI x14)]) [1, 2, 3, 0, 4] dX1_learnOne_49 (by decide) (fun _ => rfl) (fun x21 => ?_)
        refine sim_goto (tgt := 79) dX1_learnOne_50 (by decide) ?_
        refine sim_iinc (y := 1) (fun z => [(0, pR 1 0 0), (1, pR 0 k1 0), (2, pI x5), (3, pI x21), (4, pI z)]) [1, 2, 3, 4, 0] dX1_learnOne_79 rfl (by decide) (by decide) (fun _ => rfl) (fun x22 => ?_)
        refine sim_goto (tgt := 24) dX1_learnOne_82 (by decide) ?_
        exact hs16 x21 x22
      · refine sim_aload_n dX1_learnOne_53 rfl ?_
        refine sim_aload_n dX1_learnOne_54 rfl ?_
        refine sim_iload dX1_learnOne_55 rfl ?_
        refine sim_callV (As := [pR 0 k1 0, pI x14]) (rest := []) (k0 := 0) dX1_learnOne_57 ln_X1_93 me_X1_canStep rfl (by decide) rfl (by decide) (Nat.le_of_ble_eq_true rfl) (Nat.le_of_ble_eq_true rfl) rfl (sP_canStep X k1 x14 m3) (fun x17 => ?_)
        refine sim_if_eq (tgt := 79) dX1_learnOne_60 (by decide) ?_ ?_
        · refine sim_iinc (y := 1) (fun z => [(0, pR 1 0 0), (1, pR 0 k1 0), (2, pI x5), (3, pI x13), (4, pI z)]) [1, 2, 3, 4, 0] dX1_learnOne_79 rfl (by decide) (by decide) (fun _ => rfl) (fun x18 => ?_)
          refine sim_goto (tgt := 24) dX1_learnOne_82 (by decide) ?_
          exact hs16 x13 x18
        · refine sim_iload_n dX1_learnOne_63 rfl ?_
          refine sim_aload_n dX1_learnOne_64 rfl ?_
          refine sim_get (v := pR 1 0 2) dX1_learnOne_65 fl_X1_15 (by decide) rfl ?_
          refine sim_iload_n dX1_learnOne_68 rfl ?_
          refine sim_unit dX1_learnOne_69 gs_X1_97 ?_
          refine sim_iload dX1_learnOne_72 rfl ?_
          refine sim_uld dX1_learnOne_74 ?_
          refine sim_isub dX1_learnOne_75 ?_
          refine sim_iald dX1_learnOne_76 rfl (by decide) ?_
          refine sim_ior dX1_learnOne_77 ?_
          refine sim_istore_n (fun z => [(0, pR 1 0 0), (1, pR 0 k1 0), (2, pI x5), (3, pI z), (4, pI x14)]) [1, 2, 3, 0, 4] dX1_learnOne_78 (by decide) (fun _ => rfl) (fun x19 => ?_)
          refine sim_iinc (y := 1) (fun z => [(0, pR 1 0 0), (1, pR 0 k1 0), (2, pI x5), (3, pI x19), (4, pI z)]) [1, 2, 3, 4, 0] dX1_learnOne_79 rfl (by decide) (by decide) (fun _ => rfl) (fun x20 => ?_)
          refine sim_goto (tgt := 24) dX1_learnOne_82 (by decide) ?_
          exact hs16 x19 x20
  · refine sim_eq (lt_ite _ _ _ _) ?_
    refine sim_if_ne (tgt := 19) dX1_learnOne_11 (by decide) ?_ ?_
    · refine sim_bipush (v := 16) dX1_learnOne_14 (by decide) ?_
      refine sim_goto (tgt := 20) dX1_learnOne_16 (by decide) ?_
      exact hV23 _
    · refine sim_iconst (v := 0) dX1_learnOne_19 (by decide) ?_
      exact hV23 _

def jP_learnEnds_125 (x12 : Int32) (m13 : Mem) : Option Mem :=
  lt (wr m13 (1, 0, 0) 7 1) (fun m14 => some m14)
def jP_learnEnds_119 (s18 : Int32 → Mem → Option Mem) (x16 : Int32) (x22 : Int32) (m23 : Mem) : Option Mem :=
  lt (x16 + 1) (fun (x24 : Int32) => s18 x24 m23)
def jP_learnEnds_113 (s28 : Int32 → Mem → Option Mem) (x26 : Int32) (x32 : Int32) (m33 : Mem) : Option Mem :=
  lt (x26 + 1) (fun (x34 : Int32) => s28 x34 m33)
def jP_learnEnds_107 (s38 : Int32 → Mem → Option Mem) (x36 : Int32) (x42 : Int32) (m43 : Mem) : Option Mem :=
  lt (x36 + 1) (fun (x44 : Int32) => s38 x44 m43)
def bP_learnEnds_82 (k1 : Nat) (x4 : Int32) (s38 : Int32 → Mem → Option Mem) (x36 : Int32) (s48 : Int32 → Mem → Option Mem) (x46 : Int32) (m47 : Mem) : Option Mem :=
  if x4 < x46 then (jP_learnEnds_107 s38 x36 x46 m47) else (gd (inb 0 4) (lt (wr m47 (1, 0, 4) (ix 0) x46) (fun m50 => Option.bind (fP_learnOne k1 m50) (fun m51 => lt (x46 + 1) (fun (x52 : Int32) => s48 x52 m51)))))
def bP_learnEnds_65 (k1 : Nat) (x4 : Int32) (x6 : Int32) (s28 : Int32 → Mem → Option Mem) (x26 : Int32) (s38 : Int32 → Mem → Option Mem) (x36 : Int32) (m37 : Mem) : Option Mem :=
  if x6 < x36 then (jP_learnEnds_113 s28 x26 x36 m37) else (gd (inb 1 4) (lt (wr m37 (1, 0, 4) (ix 1) x36) (fun m40 => lt 0 (fun (x41 : Int32) => lz11 (bP_learnEnds_82 k1 x4 s38 x36) FU x41 m40))))
def bP_learnEnds_47 (k1 : Nat) (x4 : Int32) (x6 : Int32) (x8 : Int32) (s18 : Int32 → Mem → Option Mem) (x16 : Int32) (s28 : Int32 → Mem → Option Mem) (x26 : Int32) (m27 : Mem) : Option Mem :=
  if x8 < x26 then (jP_learnEnds_119 s18 x16 x26 m27) else (gd (inb 2 4) (lt (wr m27 (1, 0, 4) (ix 2) x26) (fun m30 => lt 0 (fun (x31 : Int32) => lz11 (bP_learnEnds_65 k1 x4 x6 s28 x26) FU x31 m30))))
def bP_learnEnds_29 (k1 : Nat) (x4 : Int32) (x6 : Int32) (x8 : Int32) (x10 : Int32) (s18 : Int32 → Mem → Option Mem) (x16 : Int32) (m17 : Mem) : Option Mem :=
  if x10 < x16 then (jP_learnEnds_125 x16 m17) else (gd (inb 3 4) (lt (wr m17 (1, 0, 4) (ix 3) x16) (fun m20 => lt 0 (fun (x21 : Int32) => lz11 (bP_learnEnds_47 k1 x4 x6 x8 s18 x16) FU x21 m20))))
def fP_learnEnds (k1 : Nat) (m2 : Mem) : Option Mem :=
  Option.bind (fP_highest k1 0 m2) (fun x3 => lt x3 (fun (x4 : Int32) => Option.bind (fP_highest k1 1 m2) (fun x5 => lt x5 (fun (x6 : Int32) => Option.bind (fP_highest k1 2 m2) (fun x7 => lt x7 (fun (x8 : Int32) => Option.bind (fP_highest k1 3 m2) (fun x9 => lt x9 (fun (x10 : Int32) => lt 0 (fun (x11 : Int32) => lz11 (bP_learnEnds_29 k1 x4 x6 x8 x10) FU x11 m2)))))))))
abbrev rm_P_learnEnds : Room := { frames := 3, cells := 0, slots := 0, locals := 69 }
set_option maxRecDepth 4000 in
theorem sP_learnEnds (X : Sc) (k1 : Nat) (m2 : Mem) : Sim X cX1_learnEnds 10 none RX1 rm_P_learnEnds (fun _ : Mem => 0) (fun m : Mem => m) 0 [(0, pR 1 0 0), (1, pR 0 k1 0)] [] m2 (fP_learnEnds k1 m2) := by
  unfold fP_learnEnds
  refine sim_aload_n dX1_learnEnds_0 rfl ?_
  refine sim_iconst (v := 0) dX1_learnEnds_1 (by decide) ?_
  refine sim_callS (As := [pR 0 k1 0, pI 0]) (rest := []) dX1_learnEnds_2 ln_X1_78 me_X1_highest rfl (by decide) (Nat.le_of_ble_eq_true rfl) (Nat.le_of_ble_eq_true rfl) rfl (sP_highest X k1 0 m2) (fun x3 => ?_)
  refine sim_istore_n (fun z => [(0, pR 1 0 0), (1, pR 0 k1 0), (2, pI z)]) [1, 2, 0] dX1_learnEnds_5 (by decide) (fun _ => rfl) (fun x4 => ?_)
  refine sim_aload_n dX1_learnEnds_6 rfl ?_
  refine sim_iconst (v := 1) dX1_learnEnds_7 (by decide) ?_
  refine sim_callS (As := [pR 0 k1 0, pI 1]) (rest := []) dX1_learnEnds_8 ln_X1_78 me_X1_highest rfl (by decide) (Nat.le_of_ble_eq_true rfl) (Nat.le_of_ble_eq_true rfl) rfl (sP_highest X k1 1 m2) (fun x5 => ?_)
  refine sim_istore_n (fun z => [(0, pR 1 0 0), (1, pR 0 k1 0), (2, pI x4), (3, pI z)]) [1, 2, 3, 0] dX1_learnEnds_11 (by decide) (fun _ => rfl) (fun x6 => ?_)
  refine sim_aload_n dX1_learnEnds_12 rfl ?_
  refine sim_iconst (v := 2) dX1_learnEnds_13 (by decide) ?_
  refine sim_callS (As := [pR 0 k1 0, pI 2]) (rest := []) dX1_learnEnds_14 ln_X1_78 me_X1_highest rfl (by decide) (Nat.le_of_ble_eq_true rfl) (Nat.le_of_ble_eq_true rfl) rfl (sP_highest X k1 2 m2) (fun x7 => ?_)
  refine sim_istore (fun z => [(0, pR 1 0 0), (1, pR 0 k1 0), (2, pI x4), (3, pI x6), (4, pI z)]) [1, 2, 3, 4, 0] dX1_learnEnds_17 (by decide) (fun _ => rfl) (fun x8 => ?_)
  refine sim_aload_n dX1_learnEnds_19 rfl ?_
  refine sim_iconst (v := 3) dX1_learnEnds_20 (by decide) ?_
  refine sim_callS (As := [pR 0 k1 0, pI 3]) (rest := []) dX1_learnEnds_21 ln_X1_78 me_X1_highest rfl (by decide) (Nat.le_of_ble_eq_true rfl) (Nat.le_of_ble_eq_true rfl) rfl (sP_highest X k1 3 m2) (fun x9 => ?_)
  refine sim_istore (fun z => [(0, pR 1 0 0), (1, pR 0 k1 0), (2, pI x4), (3, pI x6), (4, pI x8), (5, pI z)]) [1, 2, 3, 4, 5, 0] dX1_learnEnds_24 (by decide) (fun _ => rfl) (fun x10 => ?_)
  refine sim_iconst (v := 0) dX1_learnEnds_26 (by decide) ?_
  refine sim_istore (fun z => [(0, pR 1 0 0), (1, pR 0 k1 0), (2, pI x4), (3, pI x6), (4, pI x8), (5, pI x10), (6, pI z)]) [1, 2, 3, 4, 5, 6, 0] dX1_learnEnds_27 (by decide) (fun _ => rfl) (fun x11 => ?_)
  have hJ15 : ∀ (x12 : Int32) (m13 : Mem), Sim X cX1_learnEnds 10 none RX1 rm_P_learnEnds (fun _ : Mem => 0) (fun m : Mem => m) 125 [(0, pR 1 0 0), (1, pR 0 k1 0), (2, pI x4), (3, pI x6), (4, pI x8), (5, pI x10), (6, pI x12)] [] m13 (jP_learnEnds_125 x12 m13) := by
    intro x12 m13
    unfold jP_learnEnds_125
    refine sim_aload_n dX1_learnEnds_125 rfl ?_
    refine sim_iconst (v := 1) dX1_learnEnds_126 (by decide) ?_
    refine sim_put dX1_learnEnds_127 fl_X1_36 fp_1_7 rfl rfl (fun m14 => ?_)
    exact sim_ret dX1_learnEnds_130 rfl
  refine sim_lz11 (fun z0 => [(0, pR 1 0 0), (1, pR 0 k1 0), (2, pI x4), (3, pI x6), (4, pI x8), (5, pI x10), (6, pI z0)]) (fun s18 hs19 x16 m17 => ?_) FU x11 m2
  unfold bP_learnEnds_29
  refine sim_iload dX1_learnEnds_29 rfl ?_
  refine sim_iload dX1_learnEnds_31 rfl ?_
  refine sim_icmp_gt (tgt := 125) dX1_learnEnds_33 (by decide) ?_ ?_
  · exact hJ15 x16 m17
  · refine sim_aload_n dX1_learnEnds_36 rfl ?_
    refine sim_get (v := pR 1 0 4) dX1_learnEnds_37 fl_X1_23 (by decide) rfl ?_
    refine sim_iconst (v := 3) dX1_learnEnds_40 (by decide) ?_
    refine sim_iload dX1_learnEnds_41 rfl ?_
    refine sim_iast dX1_learnEnds_43 rfl (by decide) (fun m20 => ?_)
    refine sim_iconst (v := 0) dX1_learnEnds_44 (by decide) ?_
    refine sim_istore (fun z => [(0, pR 1 0 0), (1, pR 0 k1 0), (2, pI x4), (3, pI x6), (4, pI x8), (5, pI x10), (6, pI x16), (7, pI z)]) [1, 2, 3, 4, 5, 6, 7, 0] dX1_learnEnds_45 (by decide) (fun _ => rfl) (fun x21 => ?_)
    have hJ25 : ∀ (x22 : Int32) (m23 : Mem), Sim X cX1_learnEnds 10 none RX1 rm_P_learnEnds (fun _ : Mem => 0) (fun m : Mem => m) 119 [(0, pR 1 0 0), (1, pR 0 k1 0), (2, pI x4), (3, pI x6), (4, pI x8), (5, pI x10), (6, pI x16), (7, pI x22)] [] m23 (jP_learnEnds_119 s18 x16 x22 m23) := by
      intro x22 m23
      unfold jP_learnEnds_119
      refine sim_iinc (y := 1) (fun z => [(0, pR 1 0 0), (1, pR 0 k1 0), (2, pI x4), (3, pI x6), (4, pI x8), (5, pI x10), (6, pI z), (7, pI x22)]) [1, 2, 3, 4, 5, 6, 0, 7] dX1_learnEnds_119 rfl (by decide) (by decide) (fun _ => rfl) (fun x24 => ?_)
      refine sim_goto (tgt := 29) dX1_learnEnds_122 (by decide) ?_
      refine sim_pick [(0, pR 1 0 0), (1, pR 0 k1 0), (2, pI x4), (3, pI x6), (4, pI x8), (5, pI x10), (6, pI x24)] [0, 1, 2, 3, 4, 5, 6] rfl ?_
      exact hs19 x24 m23
    refine sim_lz11 (fun z0 => [(0, pR 1 0 0), (1, pR 0 k1 0), (2, pI x4), (3, pI x6), (4, pI x8), (5, pI x10), (6, pI x16), (7, pI z0)]) (fun s28 hs29 x26 m27 => ?_) FU x21 m20
    unfold bP_learnEnds_47
    refine sim_iload dX1_learnEnds_47 rfl ?_
    refine sim_iload dX1_learnEnds_49 rfl ?_
    refine sim_icmp_gt (tgt := 119) dX1_learnEnds_51 (by decide) ?_ ?_
    · exact hJ25 x26 m27
    · refine sim_aload_n dX1_learnEnds_54 rfl ?_
      refine sim_get (v := pR 1 0 4) dX1_learnEnds_55 fl_X1_23 (by decide) rfl ?_
      refine sim_iconst (v := 2) dX1_learnEnds_58 (by decide) ?_
      refine sim_iload dX1_learnEnds_59 rfl ?_
      refine sim_iast dX1_learnEnds_61 rfl (by decide) (fun m30 => ?_)
      refine sim_iconst (v := 0) dX1_learnEnds_62 (by decide) ?_
      refine sim_istore (fun z => [(0, pR 1 0 0), (1, pR 0 k1 0), (2, pI x4), (3, pI x6), (4, pI x8), (5, pI x10), (6, pI x16), (7, pI x26), (8, pI z)]) [1, 2, 3, 4, 5, 6, 7, 8, 0] dX1_learnEnds_63 (by decide) (fun _ => rfl) (fun x31 => ?_)
      have hJ35 : ∀ (x32 : Int32) (m33 : Mem), Sim X cX1_learnEnds 10 none RX1 rm_P_learnEnds (fun _ : Mem => 0) (fun m : Mem => m) 113 [(0, pR 1 0 0), (1, pR 0 k1 0), (2, pI x4), (3, pI x6), (4, pI x8), (5, pI x10), (6, pI x16), (7, pI x26), (8, pI x32)] [] m33 (jP_learnEnds_113 s28 x26 x32 m33) := by
        intro x32 m33
        unfold jP_learnEnds_113
        refine sim_iinc (y := 1) (fun z => [(0, pR 1 0 0), (1, pR 0 k1 0), (2, pI x4), (3, pI x6), (4, pI x8), (5, pI x10), (6, pI x16), (7, pI z), (8, pI x32)]) [1, 2, 3, 4, 5, 6, 7, 0, 8] dX1_learnEnds_113 rfl (by decide) (by decide) (fun _ => rfl) (fun x34 => ?_)
        refine sim_goto (tgt := 47) dX1_learnEnds_116 (by decide) ?_
        refine sim_pick [(0, pR 1 0 0), (1, pR 0 k1 0), (2, pI x4), (3, pI x6), (4, pI x8), (5, pI x10), (6, pI x16), (7, pI x34)] [0, 1, 2, 3, 4, 5, 6, 7] rfl ?_
        exact hs29 x34 m33
      refine sim_lz11 (fun z0 => [(0, pR 1 0 0), (1, pR 0 k1 0), (2, pI x4), (3, pI x6), (4, pI x8), (5, pI x10), (6, pI x16), (7, pI x26), (8, pI z0)]) (fun s38 hs39 x36 m37 => ?_) FU x31 m30
      unfold bP_learnEnds_65
      refine sim_iload dX1_learnEnds_65 rfl ?_
      refine sim_iload_n dX1_learnEnds_67 rfl ?_
      refine sim_icmp_gt (tgt := 113) dX1_learnEnds_68 (by decide) ?_ ?_
      · exact hJ35 x36 m37
      · refine sim_aload_n dX1_learnEnds_71 rfl ?_
        refine sim_get (v := pR 1 0 4) dX1_learnEnds_72 fl_X1_23 (by decide) rfl ?_
        refine sim_iconst (v := 1) dX1_learnEnds_75 (by decide) ?_
        refine sim_iload dX1_learnEnds_76 rfl ?_
        refine sim_iast dX1_learnEnds_78 rfl (by decide) (fun m40 => ?_)
        refine sim_iconst (v := 0) dX1_learnEnds_79 (by decide) ?_
        refine sim_istore (fun z => [(0, pR 1 0 0), (1, pR 0 k1 0), (2, pI x4), (3, pI x6), (4, pI x8), (5, pI x10), (6, pI x16), (7, pI x26), (8, pI x36), (9, pI z)]) [1, 2, 3, 4, 5, 6, 7, 8, 9, 0] dX1_learnEnds_80 (by decide) (fun _ => rfl) (fun x41 => ?_)
        have hJ45 : ∀ (x42 : Int32) (m43 : Mem), Sim X cX1_learnEnds 10 none RX1 rm_P_learnEnds (fun _ : Mem => 0) (fun m : Mem => m) 107 [(0, pR 1 0 0), (1, pR 0 k1 0), (2, pI x4), (3, pI x6), (4, pI x8), (5, pI x10), (6, pI x16), (7, pI x26), (8, pI x36), (9, pI x42)] [] m43 (jP_learnEnds_107 s38 x36 x42 m43) := by
          intro x42 m43
          unfold jP_learnEnds_107
          refine sim_iinc (y := 1) (fun z => [(0, pR 1 0 0), (1, pR 0 k1 0), (2, pI x4), (3, pI x6), (4, pI x8), (5, pI x10), (6, pI x16), (7, pI x26), (8, pI z), (9, pI x42)]) [1, 2, 3, 4, 5, 6, 7, 8, 0, 9] dX1_learnEnds_107 rfl (by decide) (by decide) (fun _ => rfl) (fun x44 => ?_)
          refine sim_goto (tgt := 65) dX1_learnEnds_110 (by decide) ?_
          refine sim_pick [(0, pR 1 0 0), (1, pR 0 k1 0), (2, pI x4), (3, pI x6), (4, pI x8), (5, pI x10), (6, pI x16), (7, pI x26), (8, pI x44)] [0, 1, 2, 3, 4, 5, 6, 7, 8] rfl ?_
          exact hs39 x44 m43
        refine sim_lz11 (fun z0 => [(0, pR 1 0 0), (1, pR 0 k1 0), (2, pI x4), (3, pI x6), (4, pI x8), (5, pI x10), (6, pI x16), (7, pI x26), (8, pI x36), (9, pI z0)]) (fun s48 hs49 x46 m47 => ?_) FU x41 m40
        unfold bP_learnEnds_82
        refine sim_iload dX1_learnEnds_82 rfl ?_
        refine sim_iload_n dX1_learnEnds_84 rfl ?_
        refine sim_icmp_gt (tgt := 107) dX1_learnEnds_85 (by decide) ?_ ?_
        · exact hJ45 x46 m47
        · refine sim_aload_n dX1_learnEnds_88 rfl ?_
          refine sim_get (v := pR 1 0 4) dX1_learnEnds_89 fl_X1_23 (by decide) rfl ?_
          refine sim_iconst (v := 0) dX1_learnEnds_92 (by decide) ?_
          refine sim_iload dX1_learnEnds_93 rfl ?_
          refine sim_iast dX1_learnEnds_95 rfl (by decide) (fun m50 => ?_)
          refine sim_aload_n dX1_learnEnds_96 rfl ?_
          refine sim_aload_n dX1_learnEnds_97 rfl ?_
          refine sim_callV (As := [pR 0 k1 0]) (rest := []) (k0 := 0) dX1_learnEnds_98 ln_X1_82 me_X1_learnOne rfl (by decide) rfl (by decide) (Nat.le_of_ble_eq_true rfl) (Nat.le_of_ble_eq_true rfl) rfl (sP_learnOne X k1 m50) (fun m51 => ?_)
          refine sim_iinc (y := 1) (fun z => [(0, pR 1 0 0), (1, pR 0 k1 0), (2, pI x4), (3, pI x6), (4, pI x8), (5, pI x10), (6, pI x16), (7, pI x26), (8, pI x36), (9, pI z)]) [1, 2, 3, 4, 5, 6, 7, 8, 9, 0] dX1_learnEnds_101 rfl (by decide) (by decide) (fun _ => rfl) (fun x52 => ?_)
          refine sim_goto (tgt := 82) dX1_learnEnds_104 (by decide) ?_
          exact hs49 x52 m51

def jP_look_24 (k1 : Nat) (x4 : Int32) (m5 : Mem) : Option Mem :=
  Option.bind (fP_placeAll k1 m5) (fun m6 => some m6)
def bP_look_2 (k1 : Nat) (s10 : Int32 → Mem → Option Mem) (x8 : Int32) (m9 : Mem) : Option Mem :=
  if 4 ≤ x8 then (jP_look_24 k1 x8 m9) else (Option.bind (fP_highest k1 x8 m9) (fun x12 => gd (inb x8 4) (lt (wr m9 (1, 0, 4) (ix x8) x12) (fun m13 => lt (x8 + 1) (fun (x14 : Int32) => s10 x14 m13)))))
def fP_look (k1 : Nat) (m2 : Mem) : Option Mem :=
  lt 0 (fun (x3 : Int32) => lz11 (bP_look_2 k1) FU x3 m2)
abbrev rm_P_look : Room := { frames := 2, cells := 0, slots := 0, locals := 45 }
set_option maxRecDepth 4000 in
theorem sP_look (X : Sc) (k1 : Nat) (m2 : Mem) : Sim X cX1_look 3 none RX1 rm_P_look (fun _ : Mem => 0) (fun m : Mem => m) 0 [(0, pR 1 0 0), (1, pR 0 k1 0)] [] m2 (fP_look k1 m2) := by
  unfold fP_look
  refine sim_iconst (v := 0) dX1_look_0 (by decide) ?_
  refine sim_istore_n (fun z => [(0, pR 1 0 0), (1, pR 0 k1 0), (2, pI z)]) [1, 2, 0] dX1_look_1 (by decide) (fun _ => rfl) (fun x3 => ?_)
  have hJ7 : ∀ (x4 : Int32) (m5 : Mem), Sim X cX1_look 3 none RX1 rm_P_look (fun _ : Mem => 0) (fun m : Mem => m) 24 [(0, pR 1 0 0), (1, pR 0 k1 0), (2, pI x4)] [] m5 (jP_look_24 k1 x4 m5) := by
    intro x4 m5
    unfold jP_look_24
    refine sim_aload_n dX1_look_24 rfl ?_
    refine sim_aload_n dX1_look_25 rfl ?_
    refine sim_callV (As := [pR 0 k1 0]) (rest := []) (k0 := 0) dX1_look_26 ln_X1_86 me_X1_placeAll rfl (by decide) rfl (by decide) (Nat.le_of_ble_eq_true rfl) (Nat.le_of_ble_eq_true rfl) rfl (sP_placeAll X k1 m5) (fun m6 => ?_)
    exact sim_ret dX1_look_29 rfl
  refine sim_lz11 (fun z0 => [(0, pR 1 0 0), (1, pR 0 k1 0), (2, pI z0)]) (fun s10 hs11 x8 m9 => ?_) FU x3 m2
  unfold bP_look_2
  refine sim_iload_n dX1_look_2 rfl ?_
  refine sim_iconst (v := 4) dX1_look_3 (by decide) ?_
  refine sim_icmp_ge (tgt := 24) dX1_look_4 (by decide) ?_ ?_
  · exact hJ7 x8 m9
  · refine sim_aload_n dX1_look_7 rfl ?_
    refine sim_get (v := pR 1 0 4) dX1_look_8 fl_X1_23 (by decide) rfl ?_
    refine sim_iload_n dX1_look_11 rfl ?_
    refine sim_aload_n dX1_look_12 rfl ?_
    refine sim_iload_n dX1_look_13 rfl ?_
    refine sim_callS (As := [pR 0 k1 0, pI x8]) (rest := [pI x8, pR 1 0 4]) dX1_look_14 ln_X1_78 me_X1_highest rfl (by decide) (Nat.le_of_ble_eq_true rfl) (Nat.le_of_ble_eq_true rfl) rfl (sP_highest X k1 x8 m9) (fun x12 => ?_)
    refine sim_iast dX1_look_17 rfl (by decide) (fun m13 => ?_)
    refine sim_iinc (y := 1) (fun z => [(0, pR 1 0 0), (1, pR 0 k1 0), (2, pI z)]) [1, 2, 0] dX1_look_18 rfl (by decide) (by decide) (fun _ => rfl) (fun x14 => ?_)
    refine sim_goto (tgt := 2) dX1_look_21 (by decide) ?_
    exact hs11 x14 m13

def jP_learn_17 (k1 : Nat) (m4 : Mem) : Option Mem :=
  Option.bind (fP_look k1 m4) (fun m5 => some m5)
def fP_learn (k1 : Nat) (m2 : Mem) : Option Mem :=
  Option.bind (fP_learnRooms k1 m2) (fun m3 => if (m3 (1, 0, 0) 7) = 0 then (Option.bind (fP_learnEnds k1 m3) (fun m7 => jP_learn_17 k1 m7)) else (jP_learn_17 k1 m3))
abbrev rm_P_learn : Room := { frames := 4, cells := 0, slots := 0, locals := 98 }
set_option maxRecDepth 4000 in
theorem sP_learn (X : Sc) (k1 : Nat) (m2 : Mem) : Sim X cX1_learn 2 none RX1 rm_P_learn (fun _ : Mem => 0) (fun m : Mem => m) 0 [(0, pR 1 0 0), (1, pR 0 k1 0)] [] m2 (fP_learn k1 m2) := by
  unfold fP_learn
  refine sim_aload_n dX1_learn_0 rfl ?_
  refine sim_aload_n dX1_learn_1 rfl ?_
  refine sim_callV (As := [pR 0 k1 0]) (rest := []) (k0 := 0) dX1_learn_2 ln_X1_68 me_X1_learnRooms rfl (by decide) rfl (by decide) (Nat.le_of_ble_eq_true rfl) (Nat.le_of_ble_eq_true rfl) rfl (sP_learnRooms X k1 m2) (fun m3 => ?_)
  refine sim_aload_n dX1_learn_5 rfl ?_
  refine sim_get (v := pI (m3 (1, 0, 0) 7)) dX1_learn_6 fl_X1_36 (by decide) rfl ?_
  have hJ6 : ∀ (m4 : Mem), Sim X cX1_learn 2 none RX1 rm_P_learn (fun _ : Mem => 0) (fun m : Mem => m) 17 [(0, pR 1 0 0), (1, pR 0 k1 0)] [] m4 (jP_learn_17 k1 m4) := by
    intro m4
    unfold jP_learn_17
    refine sim_aload_n dX1_learn_17 rfl ?_
    refine sim_aload_n dX1_learn_18 rfl ?_
    refine sim_callV (As := [pR 0 k1 0]) (rest := []) (k0 := 0) dX1_learn_19 ln_X1_75 me_X1_look rfl (by decide) rfl (by decide) (Nat.le_of_ble_eq_true rfl) (Nat.le_of_ble_eq_true rfl) rfl (sP_look X k1 m4) (fun m5 => ?_)
    exact sim_ret dX1_learn_22 rfl
  refine sim_if_ne (tgt := 17) dX1_learn_9 (by decide) ?_ ?_
  · refine sim_aload_n dX1_learn_12 rfl ?_
    refine sim_aload_n dX1_learn_13 rfl ?_
    refine sim_callV (As := [pR 0 k1 0]) (rest := []) (k0 := 0) dX1_learn_14 ln_X1_72 me_X1_learnEnds rfl (by decide) rfl (by decide) (Nat.le_of_ble_eq_true rfl) (Nat.le_of_ble_eq_true rfl) rfl (sP_learnEnds X k1 m3) (fun m7 => ?_)
    exact hJ6 m7
  · exact hJ6 m3

def fP_endsBehind (x1 : Int32) (m2 : Mem) : Option Int32 :=
  gd (inb x1 4) (if (m2 (1, 0, 4) (ix x1)) ≤ 0 then (some 0) else (Option.bind (fP_code m2) (fun x3 => gd (inb x1 4) (gd (inb (x3 - (unitV (ix x1))) 1296) (some (m2 (1, 0, 2) (ix (x3 - (unitV (ix x1))))))))))
abbrev rm_P_endsBehind : Room := { frames := 1, cells := 0, slots := 0, locals := 20 }
set_option maxRecDepth 4000 in
theorem sP_endsBehind (X : Sc) (x1 : Int32) (m2 : Mem) : Sim X cX1_endsBehind 2 (some .int) RX1 rm_P_endsBehind (fun r : Int32 => r) (fun _ : Int32 => m2) 0 [(0, pR 1 0 0), (1, pI x1)] [] m2 (fP_endsBehind x1 m2) := by
  unfold fP_endsBehind
  refine sim_aload_n dX1_endsBehind_0 rfl ?_
  refine sim_get (v := pR 1 0 4) dX1_endsBehind_1 fl_X1_23 (by decide) rfl ?_
  refine sim_iload_n dX1_endsBehind_4 rfl ?_
  refine sim_iald dX1_endsBehind_5 rfl (by decide) ?_
  refine sim_if_le (tgt := 27) dX1_endsBehind_6 (by decide) ?_ ?_
  · refine sim_iconst (v := 0) dX1_endsBehind_27 (by decide) ?_
    exact sim_iret dX1_endsBehind_28 rfl rfl
  · refine sim_aload_n dX1_endsBehind_9 rfl ?_
    refine sim_get (v := pR 1 0 2) dX1_endsBehind_10 fl_X1_15 (by decide) rfl ?_
    refine sim_aload_n dX1_endsBehind_13 rfl ?_
    refine sim_callV (As := []) (rest := [pR 1 0 2]) (k0 := 0) dX1_endsBehind_14 ln_X1_89 me_X1_code rfl (by decide) rfl (by decide) (Nat.le_of_ble_eq_true rfl) (Nat.le_of_ble_eq_true rfl) rfl (sP_code X m2) (fun x3 => ?_)
    refine sim_unit dX1_endsBehind_17 gs_X1_97 ?_
    refine sim_iload_n dX1_endsBehind_20 rfl ?_
    refine sim_uld dX1_endsBehind_21 ?_
    refine sim_isub dX1_endsBehind_22 ?_
    refine sim_iald dX1_endsBehind_23 rfl (by decide) ?_
    refine sim_goto (tgt := 28) dX1_endsBehind_24 (by decide) ?_
    exact sim_iret dX1_endsBehind_28 rfl rfl

def fP_isSafeBehind (x1 : Int32) (m2 : Mem) : Option Int32 :=
  Option.bind (fP_endsBehind x1 m2) (fun x3 => if (x3 &&& 16) = 0 then (some 0) else (some 1))
abbrev rm_P_isSafeBehind : Room := { frames := 2, cells := 0, slots := 0, locals := 41 }
set_option maxRecDepth 4000 in
theorem sP_isSafeBehind (X : Sc) (x1 : Int32) (m2 : Mem) : Sim X cX1_isSafeBehind 2 (some .boolean) RX1 rm_P_isSafeBehind (fun r : Int32 => r) (fun _ : Int32 => m2) 0 [(0, pR 1 0 0), (1, pI x1)] [] m2 (fP_isSafeBehind x1 m2) := by
  unfold fP_isSafeBehind
  refine sim_aload_n dX1_isSafeBehind_0 rfl ?_
  refine sim_iload_n dX1_isSafeBehind_1 rfl ?_
  refine sim_callV (As := [pI x1]) (rest := []) (k0 := 0) dX1_isSafeBehind_2 ln_X1_110 me_X1_endsBehind rfl (by decide) rfl (by decide) (Nat.le_of_ble_eq_true rfl) (Nat.le_of_ble_eq_true rfl) rfl (sP_endsBehind X x1 m2) (fun x3 => ?_)
  refine sim_bipush (v := 16) dX1_isSafeBehind_5 (by decide) ?_
  refine sim_iand dX1_isSafeBehind_7 ?_
  refine sim_if_eq (tgt := 15) dX1_isSafeBehind_8 (by decide) ?_ ?_
  · refine sim_iconst (v := 0) dX1_isSafeBehind_15 (by decide) ?_
    exact sim_zret dX1_isSafeBehind_16 rfl rfl rfl
  · refine sim_iconst (v := 1) dX1_isSafeBehind_11 (by decide) ?_
    refine sim_goto (tgt := 16) dX1_isSafeBehind_12 (by decide) ?_
    exact sim_zret dX1_isSafeBehind_16 rfl rfl rfl

def bP_firstLostBehind_9 (k1 : Nat) (m3 : Mem) (x5 : Int32) (s8 : Int32 → Option Int32) (x7 : Int32) : Option Int32 :=
  if (m3 (0, k1, 0) 4) ≤ x7 then (some (-4)) else (if (((x5 : Int32) >>> ((x7 &&& 31) : Int32)) &&& 1) = 0 then (some x7) else (lt (x7 + 1) (fun (x10 : Int32) => s8 x10)))
def fP_firstLostBehind (k1 : Nat) (x2 : Int32) (m3 : Mem) : Option Int32 :=
  Option.bind (fP_endsBehind x2 m3) (fun x4 => lt x4 (fun (x5 : Int32) => lt 0 (fun (x6 : Int32) => lz10 (bP_firstLostBehind_9 k1 m3 x5) FU x6)))
abbrev rm_P_firstLostBehind : Room := { frames := 2, cells := 0, slots := 0, locals := 41 }
set_option maxRecDepth 4000 in
theorem sP_firstLostBehind (X : Sc) (k1 : Nat) (x2 : Int32) (m3 : Mem) : Sim X cX1_firstLostBehind 5 (some .int) RX1 rm_P_firstLostBehind (fun r : Int32 => r) (fun _ : Int32 => m3) 0 [(0, pR 1 0 0), (1, pR 0 k1 0), (2, pI x2)] [] m3 (fP_firstLostBehind k1 x2 m3) := by
  unfold fP_firstLostBehind
  refine sim_aload_n dX1_firstLostBehind_0 rfl ?_
  refine sim_iload_n dX1_firstLostBehind_1 rfl ?_
  refine sim_callV (As := [pI x2]) (rest := []) (k0 := 0) dX1_firstLostBehind_2 ln_X1_110 me_X1_endsBehind rfl (by decide) rfl (by decide) (Nat.le_of_ble_eq_true rfl) (Nat.le_of_ble_eq_true rfl) rfl (sP_endsBehind X x2 m3) (fun x4 => ?_)
  refine sim_istore_n (fun z => [(0, pR 1 0 0), (1, pR 0 k1 0), (2, pI x2), (3, pI z)]) [1, 2, 3, 0] dX1_firstLostBehind_5 (by decide) (fun _ => rfl) (fun x5 => ?_)
  refine sim_iconst (v := 0) dX1_firstLostBehind_6 (by decide) ?_
  refine sim_istore (fun z => [(0, pR 1 0 0), (1, pR 0 k1 0), (2, pI x2), (3, pI x5), (4, pI z)]) [1, 2, 3, 4, 0] dX1_firstLostBehind_7 (by decide) (fun _ => rfl) (fun x6 => ?_)
  refine sim_lz10 (fun z0 => [(0, pR 1 0 0), (1, pR 0 k1 0), (2, pI x2), (3, pI x5), (4, pI z0)]) (fun s8 hs9 x7 => ?_) FU x6
  unfold bP_firstLostBehind_9
  refine sim_iload dX1_firstLostBehind_9 rfl ?_
  refine sim_aload_n dX1_firstLostBehind_11 rfl ?_
  refine sim_get (v := pI (m3 (0, k1, 0) 4)) dX1_firstLostBehind_12 fl_X1_45 (by decide) rfl ?_
  refine sim_icmp_ge (tgt := 36) dX1_firstLostBehind_15 (by decide) ?_ ?_
  · refine sim_bipush (v := (-4)) dX1_firstLostBehind_36 (by decide) ?_
    exact sim_iret dX1_firstLostBehind_38 rfl rfl
  · refine sim_iload_n dX1_firstLostBehind_18 rfl ?_
    refine sim_iload dX1_firstLostBehind_19 rfl ?_
    refine sim_ishr dX1_firstLostBehind_21 ?_
    refine sim_iconst (v := 1) dX1_firstLostBehind_22 (by decide) ?_
    refine sim_iand dX1_firstLostBehind_23 ?_
    refine sim_if_ne (tgt := 30) dX1_firstLostBehind_24 (by decide) ?_ ?_
    · refine sim_iload dX1_firstLostBehind_27 rfl ?_
      exact sim_iret dX1_firstLostBehind_29 rfl rfl
    · refine sim_iinc (y := 1) (fun z => [(0, pR 1 0 0), (1, pR 0 k1 0), (2, pI x2), (3, pI x5), (4, pI z)]) [1, 2, 3, 4, 0] dX1_firstLostBehind_30 rfl (by decide) (by decide) (fun _ => rfl) (fun x10 => ?_)
      refine sim_goto (tgt := 9) dX1_firstLostBehind_33 (by decide) ?_
      exact hs9 x10

def bP_firstAhead_17 (k1 : Nat) (m3 : Mem) (x5 : Int32) (s8 : Int32 → Option Int32) (x7 : Int32) : Option Int32 :=
  if (m3 (0, k1, 0) 4) ≤ x7 then (some (-4)) else (gd (inb x7 4) (if (m3 (1, 0, 4) (ix x7)) ≤ 0 then (lt (x7 + 1) (fun (x10 : Int32) => s8 x10)) else (gd (inb x7 4) (Option.bind (fL_spot k1 x7 (m3 (1, 0, 4) (ix x7)) m3) (fun x11 => if x11 = x5 then (some x7) else (lt (x7 + 1) (fun (x12 : Int32) => s8 x12)))))))
def fP_firstAhead (k1 : Nat) (x2 : Int32) (m3 : Mem) : Option Int32 :=
  gd (inb x2 4) (Option.bind (fL_spot k1 x2 ((m3 (1, 0, 4) (ix x2)) - 1) m3) (fun x4 => lt x4 (fun (x5 : Int32) => lt 0 (fun (x6 : Int32) => lz10 (bP_firstAhead_17 k1 m3 x5) FU x6))))
abbrev rm_P_firstAhead : Room := { frames := 1, cells := 0, slots := 0, locals := 22 }
set_option maxRecDepth 4000 in
theorem sP_firstAhead (X : Sc) (k1 : Nat) (x2 : Int32) (m3 : Mem) : Sim X cX1_firstAhead 5 (some .int) RX1 rm_P_firstAhead (fun r : Int32 => r) (fun _ : Int32 => m3) 0 [(0, pR 1 0 0), (1, pR 0 k1 0), (2, pI x2)] [] m3 (fP_firstAhead k1 x2 m3) := by
  unfold fP_firstAhead
  refine sim_aload_n dX1_firstAhead_0 rfl ?_
  refine sim_iload_n dX1_firstAhead_1 rfl ?_
  refine sim_aload_n dX1_firstAhead_2 rfl ?_
  refine sim_get (v := pR 1 0 4) dX1_firstAhead_3 fl_X1_23 (by decide) rfl ?_
  refine sim_iload_n dX1_firstAhead_6 rfl ?_
  refine sim_iald dX1_firstAhead_7 rfl (by decide) ?_
  refine sim_iconst (v := 1) dX1_firstAhead_8 (by decide) ?_
  refine sim_isub dX1_firstAhead_9 ?_
  refine sim_callV (As := [pI x2, pI ((m3 (1, 0, 4) (ix x2)) - 1)]) (rest := []) (k0 := k1) dX1_firstAhead_10 ln_X1_106 me_X0_spot rfl (by decide) rfl (by decide) (Nat.le_of_ble_eq_true rfl) (Nat.le_of_ble_eq_true rfl) rfl (sL_spot X k1 x2 ((m3 (1, 0, 4) (ix x2)) - 1) m3) (fun x4 => ?_)
  refine sim_istore_n (fun z => [(0, pR 1 0 0), (1, pR 0 k1 0), (2, pI x2), (3, pI z)]) [1, 2, 3, 0] dX1_firstAhead_13 (by decide) (fun _ => rfl) (fun x5 => ?_)
  refine sim_iconst (v := 0) dX1_firstAhead_14 (by decide) ?_
  refine sim_istore (fun z => [(0, pR 1 0 0), (1, pR 0 k1 0), (2, pI x2), (3, pI x5), (4, pI z)]) [1, 2, 3, 4, 0] dX1_firstAhead_15 (by decide) (fun _ => rfl) (fun x6 => ?_)
  refine sim_lz10 (fun z0 => [(0, pR 1 0 0), (1, pR 0 k1 0), (2, pI x2), (3, pI x5), (4, pI z0)]) (fun s8 hs9 x7 => ?_) FU x6
  unfold bP_firstAhead_17
  refine sim_iload dX1_firstAhead_17 rfl ?_
  refine sim_aload_n dX1_firstAhead_19 rfl ?_
  refine sim_get (v := pI (m3 (0, k1, 0) 4)) dX1_firstAhead_20 fl_X1_45 (by decide) rfl ?_
  refine sim_icmp_ge (tgt := 62) dX1_firstAhead_23 (by decide) ?_ ?_
  · refine sim_bipush (v := (-4)) dX1_firstAhead_62 (by decide) ?_
    exact sim_iret dX1_firstAhead_64 rfl rfl
  · refine sim_aload_n dX1_firstAhead_26 rfl ?_
    refine sim_get (v := pR 1 0 4) dX1_firstAhead_27 fl_X1_23 (by decide) rfl ?_
    refine sim_iload dX1_firstAhead_30 rfl ?_
    refine sim_iald dX1_firstAhead_32 rfl (by decide) ?_
    refine sim_if_le (tgt := 56) dX1_firstAhead_33 (by decide) ?_ ?_
    · refine sim_iinc (y := 1) (fun z => [(0, pR 1 0 0), (1, pR 0 k1 0), (2, pI x2), (3, pI x5), (4, pI z)]) [1, 2, 3, 4, 0] dX1_firstAhead_56 rfl (by decide) (by decide) (fun _ => rfl) (fun x10 => ?_)
      refine sim_goto (tgt := 17) dX1_firstAhead_59 (by decide) ?_
      exact hs9 x10
    · refine sim_aload_n dX1_firstAhead_36 rfl ?_
      refine sim_iload dX1_firstAhead_37 rfl ?_
      refine sim_aload_n dX1_firstAhead_39 rfl ?_
      refine sim_get (v := pR 1 0 4) dX1_firstAhead_40 fl_X1_23 (by decide) rfl ?_
      refine sim_iload dX1_firstAhead_43 rfl ?_
      refine sim_iald dX1_firstAhead_45 rfl (by decide) ?_
      refine sim_callV (As := [pI x7, pI (m3 (1, 0, 4) (ix x7))]) (rest := []) (k0 := k1) dX1_firstAhead_46 ln_X1_106 me_X0_spot rfl (by decide) rfl (by decide) (Nat.le_of_ble_eq_true rfl) (Nat.le_of_ble_eq_true rfl) rfl (sL_spot X k1 x7 (m3 (1, 0, 4) (ix x7)) m3) (fun x11 => ?_)
      refine sim_iload_n dX1_firstAhead_49 rfl ?_
      refine sim_icmp_ne (tgt := 56) dX1_firstAhead_50 (by decide) ?_ ?_
      · refine sim_iload dX1_firstAhead_53 rfl ?_
        exact sim_iret dX1_firstAhead_55 rfl rfl
      · refine sim_iinc (y := 1) (fun z => [(0, pR 1 0 0), (1, pR 0 k1 0), (2, pI x2), (3, pI x5), (4, pI z)]) [1, 2, 3, 4, 0] dX1_firstAhead_56 rfl (by decide) (by decide) (fun _ => rfl) (fun x12 => ?_)
        refine sim_goto (tgt := 17) dX1_firstAhead_59 (by decide) ?_
        exact hs9 x12

def bP_holdsAll_7 (k1 : Nat) (m3 : Mem) (s6 : Int32 → Option (Int32 × Mem)) (x5 : Int32) : Option (Int32 × Mem) :=
  if (m3 (0, k1, 0) 0) ≤ x5 then (some (1, m3)) else (gd (inb x5 6) (gd (inb ((x5 * 16) + (m3 (1, 0, 5) (ix x5))) 96) (if (m3 (1, 0, 1) (ix ((x5 * 16) + (m3 (1, 0, 5) (ix x5))))) = 0 then (some (0, m3)) else (lt (x5 + 1) (fun (x8 : Int32) => s6 x8)))))
def fP_holdsAll (k1 : Nat) (m2 : Mem) : Option (Int32 × Mem) :=
  Option.bind (fP_look k1 m2) (fun m3 => lt 0 (fun (x4 : Int32) => lz10 (bP_holdsAll_7 k1 m3) FU x4))
abbrev rm_P_holdsAll : Room := { frames := 3, cells := 0, slots := 0, locals := 67 }
set_option maxRecDepth 4000 in
theorem sP_holdsAll (X : Sc) (k1 : Nat) (m2 : Mem) : Sim X cX1_holdsAll 3 (some .boolean) RX1 rm_P_holdsAll (fun q : Int32 × Mem => q.1) (fun q : Int32 × Mem => q.2) 0 [(0, pR 1 0 0), (1, pR 0 k1 0)] [] m2 (fP_holdsAll k1 m2) := by
  unfold fP_holdsAll
  refine sim_aload_n dX1_holdsAll_0 rfl ?_
  refine sim_aload_n dX1_holdsAll_1 rfl ?_
  refine sim_callV (As := [pR 0 k1 0]) (rest := []) (k0 := 0) dX1_holdsAll_2 ln_X1_75 me_X1_look rfl (by decide) rfl (by decide) (Nat.le_of_ble_eq_true rfl) (Nat.le_of_ble_eq_true rfl) rfl (sP_look X k1 m2) (fun m3 => ?_)
  refine sim_iconst (v := 0) dX1_holdsAll_5 (by decide) ?_
  refine sim_istore_n (fun z => [(0, pR 1 0 0), (1, pR 0 k1 0), (2, pI z)]) [1, 2, 0] dX1_holdsAll_6 (by decide) (fun _ => rfl) (fun x4 => ?_)
  refine sim_lz10 (fun z0 => [(0, pR 1 0 0), (1, pR 0 k1 0), (2, pI z0)]) (fun s6 hs7 x5 => ?_) FU x4
  unfold bP_holdsAll_7
  refine sim_iload_n dX1_holdsAll_7 rfl ?_
  refine sim_aload_n dX1_holdsAll_8 rfl ?_
  refine sim_get (v := pI (m3 (0, k1, 0) 0)) dX1_holdsAll_9 fl_X1_39 (by decide) rfl ?_
  refine sim_icmp_ge (tgt := 42) dX1_holdsAll_12 (by decide) ?_ ?_
  · refine sim_iconst (v := 1) dX1_holdsAll_42 (by decide) ?_
    exact sim_zret dX1_holdsAll_43 rfl rfl rfl
  · refine sim_aload_n dX1_holdsAll_15 rfl ?_
    refine sim_get (v := pR 1 0 1) dX1_holdsAll_16 fl_X1_11 (by decide) rfl ?_
    refine sim_iload_n dX1_holdsAll_19 rfl ?_
    refine sim_bipush (v := 16) dX1_holdsAll_20 (by decide) ?_
    refine sim_imul dX1_holdsAll_22 ?_
    refine sim_aload_n dX1_holdsAll_23 rfl ?_
    refine sim_get (v := pR 1 0 5) dX1_holdsAll_24 fl_X1_26 (by decide) rfl ?_
    refine sim_iload_n dX1_holdsAll_27 rfl ?_
    refine sim_iald dX1_holdsAll_28 rfl (by decide) ?_
    refine sim_iadd dX1_holdsAll_29 ?_
    refine sim_zald dX1_holdsAll_30 rfl (by decide) ?_
    refine sim_if_ne (tgt := 36) dX1_holdsAll_31 (by decide) ?_ ?_
    · refine sim_iconst (v := 0) dX1_holdsAll_34 (by decide) ?_
      exact sim_zret dX1_holdsAll_35 rfl rfl rfl
    · refine sim_iinc (y := 1) (fun z => [(0, pR 1 0 0), (1, pR 0 k1 0), (2, pI z)]) [1, 2, 0] dX1_holdsAll_36 rfl (by decide) (by decide) (fun _ => rfl) (fun x8 => ?_)
      refine sim_goto (tgt := 7) dX1_holdsAll_39 (by decide) ?_
      exact hs7 x8

def fP_isSafe (m1 : Mem) : Option Int32 :=
  Option.bind (fP_code m1) (fun x2 => gd (inb x2 1296) (if ((m1 (1, 0, 2) (ix x2)) &&& 16) = 0 then (some 0) else (some 1)))
abbrev rm_P_isSafe : Room := { frames := 1, cells := 0, slots := 0, locals := 20 }
set_option maxRecDepth 4000 in
theorem sP_isSafe (X : Sc) (m1 : Mem) : Sim X cX1_isSafe 1 (some .boolean) RX1 rm_P_isSafe (fun r : Int32 => r) (fun _ : Int32 => m1) 0 [(0, pR 1 0 0)] [] m1 (fP_isSafe m1) := by
  unfold fP_isSafe
  refine sim_aload_n dX1_isSafe_0 rfl ?_
  refine sim_get (v := pR 1 0 2) dX1_isSafe_1 fl_X1_15 (by decide) rfl ?_
  refine sim_aload_n dX1_isSafe_4 rfl ?_
  refine sim_callV (As := []) (rest := [pR 1 0 2]) (k0 := 0) dX1_isSafe_5 ln_X1_89 me_X1_code rfl (by decide) rfl (by decide) (Nat.le_of_ble_eq_true rfl) (Nat.le_of_ble_eq_true rfl) rfl (sP_code X m1) (fun x2 => ?_)
  refine sim_iald dX1_isSafe_8 rfl (by decide) ?_
  refine sim_bipush (v := 16) dX1_isSafe_9 (by decide) ?_
  refine sim_iand dX1_isSafe_11 ?_
  refine sim_if_eq (tgt := 19) dX1_isSafe_12 (by decide) ?_ ?_
  · refine sim_iconst (v := 0) dX1_isSafe_19 (by decide) ?_
    exact sim_zret dX1_isSafe_20 rfl rfl rfl
  · refine sim_iconst (v := 1) dX1_isSafe_15 (by decide) ?_
    refine sim_goto (tgt := 20) dX1_isSafe_16 (by decide) ?_
    exact sim_zret dX1_isSafe_20 rfl rfl rfl

def bP_markNext_36 (k1 : Nat) (x2 : Int32) (s11 : Int32 → Mem → Option Mem) (x9 : Int32) (m10 : Mem) : Option Mem :=
  if (m10 (0, k1, 0) 4) ≤ x9 then (some m10) else (Option.bind (fP_canStep k1 x9 m10) (fun x13 => if x13 = 0 then (lt (x9 + 1) (fun (x14 : Int32) => s11 x14 m10)) else (gd (inb x9 4) (gd (inb (x2 - (unitV (ix x9))) 1296) (lt (wr m10 (1, 0, 3) (ix (x2 - (unitV (ix x9)))) (vp_nar .byte 1)) (fun m15 => lt (x9 + 1) (fun (x16 : Int32) => s11 x16 m15)))))))
def jP_markNext_29 (k1 : Nat) (x2 : Int32) (x5 : Int32) (m6 : Mem) : Option Mem :=
  Option.bind (fP_placeAll k1 m6) (fun m7 => lt 0 (fun (x8 : Int32) => lz11 (bP_markNext_36 k1 x2) FU x8 m7))
def bP_markNext_2 (k1 : Nat) (x2 : Int32) (s20 : Int32 → Mem → Option Mem) (x18 : Int32) (m19 : Mem) : Option Mem :=
  if 4 ≤ x18 then (jP_markNext_29 k1 x2 x18 m19) else (gd (inb x18 4) (gd (!((unitV (ix x18)) == 0)) (gd (!(6 == 0)) (gd (inb x18 4) (lt (wr m19 (1, 0, 4) (ix x18) ((x2 / (unitV (ix x18))) - (x2 / (unitV (ix x18))) / 6 * 6)) (fun m22 => lt (x18 + 1) (fun (x23 : Int32) => s20 x23 m22)))))))
def fP_markNext (k1 : Nat) (x2 : Int32) (m3 : Mem) : Option Mem :=
  lt 0 (fun (x4 : Int32) => lz11 (bP_markNext_2 k1 x2) FU x4 m3)
abbrev rm_P_markNext : Room := { frames := 2, cells := 0, slots := 0, locals := 45 }
set_option maxRecDepth 4000 in
theorem sP_markNext (X : Sc) (k1 : Nat) (x2 : Int32) (m3 : Mem) : Sim X cX1_markNext 4 none RX1 rm_P_markNext (fun _ : Mem => 0) (fun m : Mem => m) 0 [(0, pR 1 0 0), (1, pR 0 k1 0), (2, pI x2)] [] m3 (fP_markNext k1 x2 m3) := by
  unfold fP_markNext
  refine sim_iconst (v := 0) dX1_markNext_0 (by decide) ?_
  refine sim_istore_n (fun z => [(0, pR 1 0 0), (1, pR 0 k1 0), (2, pI x2), (3, pI z)]) [1, 2, 3, 0] dX1_markNext_1 (by decide) (fun _ => rfl) (fun x4 => ?_)
  have hJ17 : ∀ (x5 : Int32) (m6 : Mem), Sim X cX1_markNext 4 none RX1 rm_P_markNext (fun _ : Mem => 0) (fun m : Mem => m) 29 [(0, pR 1 0 0), (1, pR 0 k1 0), (2, pI x2), (3, pI x5)] [] m6 (jP_markNext_29 k1 x2 x5 m6) := by
    intro x5 m6
    unfold jP_markNext_29
    refine sim_aload_n dX1_markNext_29 rfl ?_
    refine sim_aload_n dX1_markNext_30 rfl ?_
    refine sim_callV (As := [pR 0 k1 0]) (rest := []) (k0 := 0) dX1_markNext_31 ln_X1_86 me_X1_placeAll rfl (by decide) rfl (by decide) (Nat.le_of_ble_eq_true rfl) (Nat.le_of_ble_eq_true rfl) rfl (sP_placeAll X k1 m6) (fun m7 => ?_)
    refine sim_iconst (v := 0) dX1_markNext_34 (by decide) ?_
    refine sim_istore_n (fun z => [(0, pR 1 0 0), (1, pR 0 k1 0), (2, pI x2), (3, pI z)]) [1, 2, 3, 0] dX1_markNext_35 (by decide) (fun _ => rfl) (fun x8 => ?_)
    refine sim_lz11 (fun z0 => [(0, pR 1 0 0), (1, pR 0 k1 0), (2, pI x2), (3, pI z0)]) (fun s11 hs12 x9 m10 => ?_) FU x8 m7
    unfold bP_markNext_36
    refine sim_iload_n dX1_markNext_36 rfl ?_
    refine sim_aload_n dX1_markNext_37 rfl ?_
    refine sim_get (v := pI (m10 (0, k1, 0) 4)) dX1_markNext_38 fl_X1_45 (by decide) rfl ?_
    refine sim_icmp_ge (tgt := 72) dX1_markNext_41 (by decide) ?_ ?_
    · exact sim_ret dX1_markNext_72 rfl
    · refine sim_aload_n dX1_markNext_44 rfl ?_
      refine sim_aload_n dX1_markNext_45 rfl ?_
      refine sim_iload_n dX1_markNext_46 rfl ?_
      refine sim_callV (As := [pR 0 k1 0, pI x9]) (rest := []) (k0 := 0) dX1_markNext_47 ln_X1_93 me_X1_canStep rfl (by decide) rfl (by decide) (Nat.le_of_ble_eq_true rfl) (Nat.le_of_ble_eq_true rfl) rfl (sP_canStep X k1 x9 m10) (fun x13 => ?_)
      refine sim_if_eq (tgt := 66) dX1_markNext_50 (by decide) ?_ ?_
      · refine sim_iinc (y := 1) (fun z => [(0, pR 1 0 0), (1, pR 0 k1 0), (2, pI x2), (3, pI z)]) [1, 2, 3, 0] dX1_markNext_66 rfl (by decide) (by decide) (fun _ => rfl) (fun x14 => ?_)
        refine sim_goto (tgt := 36) dX1_markNext_69 (by decide) ?_
        exact hs12 x14 m10
      · refine sim_aload_n dX1_markNext_53 rfl ?_
        refine sim_get (v := pR 1 0 3) dX1_markNext_54 fl_X1_19 (by decide) rfl ?_
        refine sim_iload_n dX1_markNext_57 rfl ?_
        refine sim_unit dX1_markNext_58 gs_X1_97 ?_
        refine sim_iload_n dX1_markNext_61 rfl ?_
        refine sim_uld dX1_markNext_62 ?_
        refine sim_isub dX1_markNext_63 ?_
        refine sim_iconst (v := 1) dX1_markNext_64 (by decide) ?_
        refine sim_bast dX1_markNext_65 rfl (by decide) (fun m15 => ?_)
        refine sim_iinc (y := 1) (fun z => [(0, pR 1 0 0), (1, pR 0 k1 0), (2, pI x2), (3, pI z)]) [1, 2, 3, 0] dX1_markNext_66 rfl (by decide) (by decide) (fun _ => rfl) (fun x16 => ?_)
        refine sim_goto (tgt := 36) dX1_markNext_69 (by decide) ?_
        exact hs12 x16 m15
  refine sim_lz11 (fun z0 => [(0, pR 1 0 0), (1, pR 0 k1 0), (2, pI x2), (3, pI z0)]) (fun s20 hs21 x18 m19 => ?_) FU x4 m3
  unfold bP_markNext_2
  refine sim_iload_n dX1_markNext_2 rfl ?_
  refine sim_iconst (v := 4) dX1_markNext_3 (by decide) ?_
  refine sim_icmp_ge (tgt := 29) dX1_markNext_4 (by decide) ?_ ?_
  · exact hJ17 x18 m19
  · refine sim_aload_n dX1_markNext_7 rfl ?_
    refine sim_get (v := pR 1 0 4) dX1_markNext_8 fl_X1_23 (by decide) rfl ?_
    refine sim_iload_n dX1_markNext_11 rfl ?_
    refine sim_iload_n dX1_markNext_12 rfl ?_
    refine sim_unit dX1_markNext_13 gs_X1_97 ?_
    refine sim_iload_n dX1_markNext_16 rfl ?_
    refine sim_uld dX1_markNext_17 ?_
    refine sim_idiv dX1_markNext_18 ?_
    refine sim_bipush (v := 6) dX1_markNext_19 (by decide) ?_
    refine sim_irem dX1_markNext_21 ?_
    refine sim_iast dX1_markNext_22 rfl (by decide) (fun m22 => ?_)
    refine sim_iinc (y := 1) (fun z => [(0, pR 1 0 0), (1, pR 0 k1 0), (2, pI x2), (3, pI z)]) [1, 2, 3, 0] dX1_markNext_23 rfl (by decide) (by decide) (fun _ => rfl) (fun x23 => ?_)
    refine sim_goto (tgt := 2) dX1_markNext_26 (by decide) ?_
    exact hs21 x23 m22

def jP_reached_70 (k1 : Nat) (s14 : Int32 → Int32 → Mem → Option (Int32 × Mem)) (x11 : Int32) (x12 : Int32) (m13 : Mem) (x17 : Int32) : Option (Int32 × Mem) :=
  lt (x11 + x17) (fun (x18 : Int32) => Option.bind (fP_markNext k1 x12 m13) (fun m19 => lt (x12 + (-1)) (fun (x20 : Int32) => s14 x18 x20 m19)))
def bP_reached_31 (k1 : Nat) (x2 : Int32) (s14 : Int32 → Int32 → Mem → Option (Int32 × Mem)) (x11 : Int32) (x12 : Int32) (m13 : Mem) : Option (Int32 × Mem) :=
  if x12 < 0 then (some (x11, m13)) else (gd (inb x12 1296) (if (m13 (1, 0, 3) (ix x12)) = 0 then (lt (x12 + (-1)) (fun (x16 : Int32) => s14 x11 x16 m13)) else (if x2 = 0 then (jP_reached_70 k1 s14 x11 x12 m13 1) else (gd (inb x12 1296) (if ((m13 (1, 0, 2) (ix x12)) &&& 16) = 0 then (jP_reached_70 k1 s14 x11 x12 m13 0) else (jP_reached_70 k1 s14 x11 x12 m13 1))))))
def fP_reached (k1 : Nat) (x2 : Int32) (m3 : Mem) : Option (Int32 × Mem) :=
  Option.bind (fJ_fill_1_3 0 0 m3) (fun m4 => Option.bind (fP_look k1 m4) (fun m5 => Option.bind (fP_code m5) (fun x6 => lt x6 (fun (x7 : Int32) => gd (inb x7 1296) (lt (wr m5 (1, 0, 3) (ix x7) (vp_nar .byte 1)) (fun m8 => lt 0 (fun (x9 : Int32) => lt x7 (fun (x10 : Int32) => lz21 (bP_reached_31 k1 x2) FU x9 x10 m8))))))))
abbrev rm_P_reached : Room := { frames := 3, cells := 0, slots := 0, locals := 68 }
set_option maxRecDepth 4000 in
theorem sP_reached (X : Sc) (k1 : Nat) (x2 : Int32) (m3 : Mem) : Sim X cX1_reached 6 (some .int) RX1 rm_P_reached (fun q : Int32 × Mem => q.1) (fun q : Int32 × Mem => q.2) 0 [(0, pR 1 0 0), (1, pR 0 k1 0), (2, pI x2)] [] m3 (fP_reached k1 x2 m3) := by
  unfold fP_reached
  refine sim_aload_n dX1_reached_0 rfl ?_
  refine sim_get (v := pR 1 0 3) dX1_reached_1 fl_X1_19 (by decide) rfl ?_
  refine sim_iconst (v := 0) dX1_reached_4 (by decide) ?_
  refine sim_callS (As := [pR 1 0 3, pI 0]) (rest := []) dX1_reached_5 ln_X1_114 me_J7_fill_031fb rfl (by decide) (Nat.le_of_ble_eq_true rfl) (Nat.le_of_ble_eq_true rfl) rfl (sJ_fill_1_3 X 0 0 m3) (fun m4 => ?_)
  refine sim_aload_n dX1_reached_8 rfl ?_
  refine sim_aload_n dX1_reached_9 rfl ?_
  refine sim_callV (As := [pR 0 k1 0]) (rest := []) (k0 := 0) dX1_reached_10 ln_X1_75 me_X1_look rfl (by decide) rfl (by decide) (Nat.le_of_ble_eq_true rfl) (Nat.le_of_ble_eq_true rfl) rfl (sP_look X k1 m4) (fun m5 => ?_)
  refine sim_aload_n dX1_reached_13 rfl ?_
  refine sim_callV (As := []) (rest := []) (k0 := 0) dX1_reached_14 ln_X1_89 me_X1_code rfl (by decide) rfl (by decide) (Nat.le_of_ble_eq_true rfl) (Nat.le_of_ble_eq_true rfl) rfl (sP_code X m5) (fun x6 => ?_)
  refine sim_istore_n (fun z => [(0, pR 1 0 0), (1, pR 0 k1 0), (2, pI x2), (3, pI z)]) [1, 2, 3, 0] dX1_reached_17 (by decide) (fun _ => rfl) (fun x7 => ?_)
  refine sim_aload_n dX1_reached_18 rfl ?_
  refine sim_get (v := pR 1 0 3) dX1_reached_19 fl_X1_19 (by decide) rfl ?_
  refine sim_iload_n dX1_reached_22 rfl ?_
  refine sim_iconst (v := 1) dX1_reached_23 (by decide) ?_
  refine sim_bast dX1_reached_24 rfl (by decide) (fun m8 => ?_)
  refine sim_iconst (v := 0) dX1_reached_25 (by decide) ?_
  refine sim_istore (fun z => [(0, pR 1 0 0), (1, pR 0 k1 0), (2, pI x2), (3, pI x7), (4, pI z)]) [1, 2, 3, 4, 0] dX1_reached_26 (by decide) (fun _ => rfl) (fun x9 => ?_)
  refine sim_iload_n dX1_reached_28 rfl ?_
  refine sim_istore (fun z => [(0, pR 1 0 0), (1, pR 0 k1 0), (2, pI x2), (3, pI x7), (4, pI x9), (5, pI z)]) [1, 2, 3, 4, 5, 0] dX1_reached_29 (by decide) (fun _ => rfl) (fun x10 => ?_)
  refine sim_lz21 (fun z0 z1 => [(0, pR 1 0 0), (1, pR 0 k1 0), (2, pI x2), (3, pI x7), (4, pI z0), (5, pI z1)]) (fun s14 hs15 x11 x12 m13 => ?_) FU x9 x10 m8
  unfold bP_reached_31
  refine sim_iload dX1_reached_31 rfl ?_
  refine sim_if_lt (tgt := 86) dX1_reached_33 (by decide) ?_ ?_
  · refine sim_iload dX1_reached_86 rfl ?_
    exact sim_iret dX1_reached_88 rfl rfl
  · refine sim_aload_n dX1_reached_36 rfl ?_
    refine sim_get (v := pR 1 0 3) dX1_reached_37 fl_X1_19 (by decide) rfl ?_
    refine sim_iload dX1_reached_40 rfl ?_
    refine sim_bald dX1_reached_42 rfl (by decide) ?_
    refine sim_if_eq (tgt := 80) dX1_reached_43 (by decide) ?_ ?_
    · refine sim_iinc (y := (-1)) (fun z => [(0, pR 1 0 0), (1, pR 0 k1 0), (2, pI x2), (3, pI x7), (4, pI x11), (5, pI z)]) [1, 2, 3, 4, 5, 0] dX1_reached_80 rfl (by decide) (by decide) (fun _ => rfl) (fun x16 => ?_)
      refine sim_goto (tgt := 31) dX1_reached_83 (by decide) ?_
      exact hs15 x11 x16 m13
    · refine sim_iload dX1_reached_46 rfl ?_
      refine sim_iload_n dX1_reached_48 rfl ?_
      have hJ21 : ∀ (x17 : Int32), Sim X cX1_reached 6 (some .int) RX1 rm_P_reached (fun q : Int32 × Mem => q.1) (fun q : Int32 × Mem => q.2) 70 [(0, pR 1 0 0), (1, pR 0 k1 0), (2, pI x2), (3, pI x7), (4, pI x11), (5, pI x12)] [pI x17, pI x11] m13 (jP_reached_70 k1 s14 x11 x12 m13 x17) := by
        intro x17
        unfold jP_reached_70
        refine sim_iadd dX1_reached_70 ?_
        refine sim_istore (fun z => [(0, pR 1 0 0), (1, pR 0 k1 0), (2, pI x2), (3, pI x7), (4, pI z), (5, pI x12)]) [1, 2, 3, 4, 0, 5] dX1_reached_71 (by decide) (fun _ => rfl) (fun x18 => ?_)
        refine sim_aload_n dX1_reached_73 rfl ?_
        refine sim_aload_n dX1_reached_74 rfl ?_
        refine sim_iload dX1_reached_75 rfl ?_
        refine sim_callV (As := [pR 0 k1 0, pI x12]) (rest := []) (k0 := 0) dX1_reached_77 ln_X1_117 me_X1_markNext rfl (by decide) rfl (by decide) (Nat.le_of_ble_eq_true rfl) (Nat.le_of_ble_eq_true rfl) rfl (sP_markNext X k1 x12 m13) (fun m19 => ?_)
        refine sim_iinc (y := (-1)) (fun z => [(0, pR 1 0 0), (1, pR 0 k1 0), (2, pI x2), (3, pI x7), (4, pI x18), (5, pI z)]) [1, 2, 3, 4, 5, 0] dX1_reached_80 rfl (by decide) (by decide) (fun _ => rfl) (fun x20 => ?_)
        refine sim_goto (tgt := 31) dX1_reached_83 (by decide) ?_
        exact hs15 x18 x20 m19
      refine sim_if_eq (tgt := 65) dX1_reached_49 (by decide) ?_ ?_
      · refine sim_iconst (v := 1) dX1_reached_65 (by decide) ?_
        refine sim_goto (tgt := 70) dX1_reached_66 (by decide) ?_
        exact hJ21 1
      · refine sim_aload_n dX1_reached_52 rfl ?_
        refine sim_get (v := pR 1 0 2) dX1_reached_53 fl_X1_15 (by decide) rfl ?_
        refine sim_iload dX1_reached_56 rfl ?_
        refine sim_iald dX1_reached_58 rfl (by decide) ?_
        refine sim_bipush (v := 16) dX1_reached_59 (by decide) ?_
        refine sim_iand dX1_reached_61 ?_
        refine sim_if_eq (tgt := 69) dX1_reached_62 (by decide) ?_ ?_
        · refine sim_iconst (v := 0) dX1_reached_69 (by decide) ?_
          exact hJ21 0
        · refine sim_iconst (v := 1) dX1_reached_65 (by decide) ?_
          refine sim_goto (tgt := 70) dX1_reached_66 (by decide) ?_
          exact hJ21 1

def jP_goesAlone_69 (k1 : Nat) (x9 : Int32) (m10 : Mem) : Option (Int32 × Mem) :=
  Option.bind (fP_placeAll k1 m10) (fun m11 => gd (isb x9) (some (x9, m11)))
def jP_goesAlone_41 (k1 : Nat) (x2 : Int32) (x4 : Int32) (x6 : Int32) (m7 : Mem) : Option (Int32 × Mem) :=
  gd (inb x2 4) (lt (if (m7 (1, 0, 4) (ix x2)) = 0 then 1 else 0) (fun (x8 : Int32) => lt x8 (fun (x9 : Int32) => if x9 = 0 then (gd (inb x2 4) (lt (wr m7 (1, 0, 4) (ix x2) x4) (fun m13 => jP_goesAlone_69 k1 x9 m13))) else (jP_goesAlone_69 k1 x9 m7))))
def bP_goesAlone_10 (k1 : Nat) (x2 : Int32) (x4 : Int32) (s18 : Int32 → Mem → Option (Int32 × Mem)) (x16 : Int32) (m17 : Mem) : Option (Int32 × Mem) :=
  if x4 ≤ x16 then (jP_goesAlone_41 k1 x2 x4 x16 m17) else (Option.bind (fP_canStep k1 x2 m17) (fun x20 => if x20 = 0 then (jP_goesAlone_41 k1 x2 x4 x16 m17) else (gd (inb x2 4) (gd (inb x2 4) (lt (wr m17 (1, 0, 4) (ix x2) ((m17 (1, 0, 4) (ix x2)) - 1)) (fun m21 => lt (x16 + 1) (fun (x22 : Int32) => s18 x22 m21)))))))
def fP_goesAlone (k1 : Nat) (x2 : Int32) (m3 : Mem) : Option (Int32 × Mem) :=
  gd (inb x2 4) (lt (m3 (1, 0, 4) (ix x2)) (fun (x4 : Int32) => lt 0 (fun (x5 : Int32) => lz11 (bP_goesAlone_10 k1 x2 x4) FU x5 m3)))
abbrev rm_P_goesAlone : Room := { frames := 2, cells := 0, slots := 0, locals := 45 }
set_option maxRecDepth 4000 in
theorem sP_goesAlone (X : Sc) (k1 : Nat) (x2 : Int32) (m3 : Mem) : Sim X cX1_goesAlone 5 (some .boolean) RX1 rm_P_goesAlone (fun q : Int32 × Mem => q.1) (fun q : Int32 × Mem => q.2) 0 [(0, pR 1 0 0), (1, pR 0 k1 0), (2, pI x2)] [] m3 (fP_goesAlone k1 x2 m3) := by
  unfold fP_goesAlone
  refine sim_aload_n dX1_goesAlone_0 rfl ?_
  refine sim_get (v := pR 1 0 4) dX1_goesAlone_1 fl_X1_23 (by decide) rfl ?_
  refine sim_iload_n dX1_goesAlone_4 rfl ?_
  refine sim_iald dX1_goesAlone_5 rfl (by decide) ?_
  refine sim_istore_n (fun z => [(0, pR 1 0 0), (1, pR 0 k1 0), (2, pI x2), (3, pI z)]) [1, 2, 3, 0] dX1_goesAlone_6 (by decide) (fun _ => rfl) (fun x4 => ?_)
  refine sim_iconst (v := 0) dX1_goesAlone_7 (by decide) ?_
  refine sim_istore (fun z => [(0, pR 1 0 0), (1, pR 0 k1 0), (2, pI x2), (3, pI x4), (4, pI z)]) [1, 2, 3, 4, 0] dX1_goesAlone_8 (by decide) (fun _ => rfl) (fun x5 => ?_)
  have hJ15 : ∀ (x6 : Int32) (m7 : Mem), Sim X cX1_goesAlone 5 (some .boolean) RX1 rm_P_goesAlone (fun q : Int32 × Mem => q.1) (fun q : Int32 × Mem => q.2) 41 [(0, pR 1 0 0), (1, pR 0 k1 0), (2, pI x2), (3, pI x4), (4, pI x6)] [] m7 (jP_goesAlone_41 k1 x2 x4 x6 m7) := by
    intro x6 m7
    unfold jP_goesAlone_41
    refine sim_aload_n dX1_goesAlone_41 rfl ?_
    refine sim_get (v := pR 1 0 4) dX1_goesAlone_42 fl_X1_23 (by decide) rfl ?_
    refine sim_iload_n dX1_goesAlone_45 rfl ?_
    refine sim_iald dX1_goesAlone_46 rfl (by decide) ?_
    refine sim_jv 55 [(0, pR 1 0 0), (1, pR 0 k1 0), (2, pI x2), (3, pI x4), (4, pI x6)] [] (fun x8 => ?_) (fun hV14 => ?_)
    · refine sim_istore (fun z => [(0, pR 1 0 0), (1, pR 0 k1 0), (2, pI x2), (3, pI x4), (4, pI z)]) [1, 2, 3, 4, 0] dX1_goesAlone_55 (by decide) (fun _ => rfl) (fun x9 => ?_)
      refine sim_iload dX1_goesAlone_57 rfl ?_
      have hJ12 : ∀ (m10 : Mem), Sim X cX1_goesAlone 5 (some .boolean) RX1 rm_P_goesAlone (fun q : Int32 × Mem => q.1) (fun q : Int32 × Mem => q.2) 69 [(0, pR 1 0 0), (1, pR 0 k1 0), (2, pI x2), (3, pI x4), (4, pI x9)] [] m10 (jP_goesAlone_69 k1 x9 m10) := by
        intro m10
        unfold jP_goesAlone_69
        refine sim_aload_n dX1_goesAlone_69 rfl ?_
        refine sim_aload_n dX1_goesAlone_70 rfl ?_
        refine sim_callV (As := [pR 0 k1 0]) (rest := []) (k0 := 0) dX1_goesAlone_71 ln_X1_86 me_X1_placeAll rfl (by decide) rfl (by decide) (Nat.le_of_ble_eq_true rfl) (Nat.le_of_ble_eq_true rfl) rfl (sP_placeAll X k1 m10) (fun m11 => ?_)
        refine sim_iload dX1_goesAlone_74 rfl ?_
        exact sim_zretg dX1_goesAlone_76 rfl rfl
      refine sim_if_ne (tgt := 69) dX1_goesAlone_59 (by decide) ?_ ?_
      · refine sim_aload_n dX1_goesAlone_62 rfl ?_
        refine sim_get (v := pR 1 0 4) dX1_goesAlone_63 fl_X1_23 (by decide) rfl ?_
        refine sim_iload_n dX1_goesAlone_66 rfl ?_
        refine sim_iload_n dX1_goesAlone_67 rfl ?_
        refine sim_iast dX1_goesAlone_68 rfl (by decide) (fun m13 => ?_)
        exact hJ12 m13
      · exact hJ12 m7
    · refine sim_eq (lt_ite _ _ _ _) ?_
      refine sim_if_ne (tgt := 54) dX1_goesAlone_47 (by decide) ?_ ?_
      · refine sim_iconst (v := 1) dX1_goesAlone_50 (by decide) ?_
        refine sim_goto (tgt := 55) dX1_goesAlone_51 (by decide) ?_
        exact hV14 _
      · refine sim_iconst (v := 0) dX1_goesAlone_54 (by decide) ?_
        exact hV14 _
  refine sim_lz11 (fun z0 => [(0, pR 1 0 0), (1, pR 0 k1 0), (2, pI x2), (3, pI x4), (4, pI z0)]) (fun s18 hs19 x16 m17 => ?_) FU x5 m3
  unfold bP_goesAlone_10
  refine sim_iload dX1_goesAlone_10 rfl ?_
  refine sim_iload_n dX1_goesAlone_12 rfl ?_
  refine sim_icmp_ge (tgt := 41) dX1_goesAlone_13 (by decide) ?_ ?_
  · exact hJ15 x16 m17
  · refine sim_aload_n dX1_goesAlone_16 rfl ?_
    refine sim_aload_n dX1_goesAlone_17 rfl ?_
    refine sim_iload_n dX1_goesAlone_18 rfl ?_
    refine sim_callV (As := [pR 0 k1 0, pI x2]) (rest := []) (k0 := 0) dX1_goesAlone_19 ln_X1_93 me_X1_canStep rfl (by decide) rfl (by decide) (Nat.le_of_ble_eq_true rfl) (Nat.le_of_ble_eq_true rfl) rfl (sP_canStep X k1 x2 m17) (fun x20 => ?_)
    refine sim_if_eq (tgt := 41) dX1_goesAlone_22 (by decide) ?_ ?_
    · exact hJ15 x16 m17
    · refine sim_aload_n dX1_goesAlone_25 rfl ?_
      refine sim_get (v := pR 1 0 4) dX1_goesAlone_26 fl_X1_23 (by decide) rfl ?_
      refine sim_iload_n dX1_goesAlone_29 rfl ?_
      refine sim_dup2 dX1_goesAlone_30 rfl rfl ?_
      refine sim_iald dX1_goesAlone_31 rfl (by decide) ?_
      refine sim_iconst (v := 1) dX1_goesAlone_32 (by decide) ?_
      refine sim_isub dX1_goesAlone_33 ?_
      refine sim_iast dX1_goesAlone_34 rfl (by decide) (fun m21 => ?_)
      refine sim_iinc (y := 1) (fun z => [(0, pR 1 0 0), (1, pR 0 k1 0), (2, pI x2), (3, pI x4), (4, pI z)]) [1, 2, 3, 4, 0] dX1_goesAlone_35 rfl (by decide) (by decide) (fun _ => rfl) (fun x22 => ?_)
      refine sim_goto (tgt := 10) dX1_goesAlone_38 (by decide) ?_
      exact hs19 x22 m21

def bP_firstToGoAlone_2 (k1 : Nat) (s6 : Int32 → Mem → Option (Int32 × Mem)) (x4 : Int32) (m5 : Mem) : Option (Int32 × Mem) :=
  if (m5 (0, k1, 0) 4) ≤ x4 then (some ((-4), m5)) else (gd (inb x4 4) (if (m5 (1, 0, 4) (ix x4)) ≤ 0 then (lt (x4 + 1) (fun (x8 : Int32) => s6 x8 m5)) else (Option.bind (fP_goesAlone k1 x4 m5) (fun q9 => if q9.1 = 0 then (lt (x4 + 1) (fun (x10 : Int32) => s6 x10 q9.2)) else (some (x4, q9.2))))))
def fP_firstToGoAlone (k1 : Nat) (m2 : Mem) : Option (Int32 × Mem) :=
  lt 0 (fun (x3 : Int32) => lz11 (bP_firstToGoAlone_2 k1) FU x3 m2)
abbrev rm_P_firstToGoAlone : Room := { frames := 3, cells := 0, slots := 0, locals := 69 }
set_option maxRecDepth 4000 in
theorem sP_firstToGoAlone (X : Sc) (k1 : Nat) (m2 : Mem) : Sim X cX1_firstToGoAlone 3 (some .int) RX1 rm_P_firstToGoAlone (fun q : Int32 × Mem => q.1) (fun q : Int32 × Mem => q.2) 0 [(0, pR 1 0 0), (1, pR 0 k1 0)] [] m2 (fP_firstToGoAlone k1 m2) := by
  unfold fP_firstToGoAlone
  refine sim_iconst (v := 0) dX1_firstToGoAlone_0 (by decide) ?_
  refine sim_istore_n (fun z => [(0, pR 1 0 0), (1, pR 0 k1 0), (2, pI z)]) [1, 2, 0] dX1_firstToGoAlone_1 (by decide) (fun _ => rfl) (fun x3 => ?_)
  refine sim_lz11 (fun z0 => [(0, pR 1 0 0), (1, pR 0 k1 0), (2, pI z0)]) (fun s6 hs7 x4 m5 => ?_) FU x3 m2
  unfold bP_firstToGoAlone_2
  refine sim_iload_n dX1_firstToGoAlone_2 rfl ?_
  refine sim_aload_n dX1_firstToGoAlone_3 rfl ?_
  refine sim_get (v := pI (m5 (0, k1, 0) 4)) dX1_firstToGoAlone_4 fl_X1_45 (by decide) rfl ?_
  refine sim_icmp_ge (tgt := 36) dX1_firstToGoAlone_7 (by decide) ?_ ?_
  · refine sim_bipush (v := (-4)) dX1_firstToGoAlone_36 (by decide) ?_
    exact sim_iret dX1_firstToGoAlone_38 rfl rfl
  · refine sim_aload_n dX1_firstToGoAlone_10 rfl ?_
    refine sim_get (v := pR 1 0 4) dX1_firstToGoAlone_11 fl_X1_23 (by decide) rfl ?_
    refine sim_iload_n dX1_firstToGoAlone_14 rfl ?_
    refine sim_iald dX1_firstToGoAlone_15 rfl (by decide) ?_
    refine sim_if_le (tgt := 30) dX1_firstToGoAlone_16 (by decide) ?_ ?_
    · refine sim_iinc (y := 1) (fun z => [(0, pR 1 0 0), (1, pR 0 k1 0), (2, pI z)]) [1, 2, 0] dX1_firstToGoAlone_30 rfl (by decide) (by decide) (fun _ => rfl) (fun x8 => ?_)
      refine sim_goto (tgt := 2) dX1_firstToGoAlone_33 (by decide) ?_
      exact hs7 x8 m5
    · refine sim_aload_n dX1_firstToGoAlone_19 rfl ?_
      refine sim_aload_n dX1_firstToGoAlone_20 rfl ?_
      refine sim_iload_n dX1_firstToGoAlone_21 rfl ?_
      refine sim_callV (As := [pR 0 k1 0, pI x4]) (rest := []) (k0 := 0) dX1_firstToGoAlone_22 ln_X1_125 me_X1_goesAlone rfl (by decide) rfl (by decide) (Nat.le_of_ble_eq_true rfl) (Nat.le_of_ble_eq_true rfl) rfl (sP_goesAlone X k1 x4 m5) (fun q9 => ?_)
      refine sim_if_eq (tgt := 30) dX1_firstToGoAlone_25 (by decide) ?_ ?_
      · refine sim_iinc (y := 1) (fun z => [(0, pR 1 0 0), (1, pR 0 k1 0), (2, pI z)]) [1, 2, 0] dX1_firstToGoAlone_30 rfl (by decide) (by decide) (fun _ => rfl) (fun x10 => ?_)
        refine sim_goto (tgt := 2) dX1_firstToGoAlone_33 (by decide) ?_
        exact hs7 x10 q9.2
      · refine sim_iload_n dX1_firstToGoAlone_28 rfl ?_
        exact sim_iret dX1_firstToGoAlone_29 rfl rfl

def bP_goOneByOne_9 (k1 : Nat) (s9 : Int32 → Int32 → Mem → Option (Int32 × Mem)) (x6 : Int32) (x7 : Int32) (m8 : Mem) : Option (Int32 × Mem) :=
  if (m8 (0, k1, 0) 4) ≤ x7 then (some (x6, m8)) else (Option.bind (fP_firstToGoAlone k1 m8) (fun q11 => lt q11.1 (fun (x12 : Int32) => if 0 ≤ x12 then (gd (inb x6 4) (lt (wr q11.2 (1, 0, 6) (ix x6) x12) (fun m13 => lt (x6 + 1) (fun (x14 : Int32) => lt (x7 + 1) (fun (x15 : Int32) => s9 x14 x15 m13))))) else (some (x6, q11.2)))))
def fP_goOneByOne (k1 : Nat) (m2 : Mem) : Option (Int32 × Mem) :=
  Option.bind (fP_look k1 m2) (fun m3 => lt 0 (fun (x4 : Int32) => lt 0 (fun (x5 : Int32) => lz21 (bP_goOneByOne_9 k1) FU x4 x5 m3)))
abbrev rm_P_goOneByOne : Room := { frames := 4, cells := 0, slots := 0, locals := 91 }
set_option maxRecDepth 4000 in
theorem sP_goOneByOne (X : Sc) (k1 : Nat) (m2 : Mem) : Sim X cX1_goOneByOne 5 (some .int) RX1 rm_P_goOneByOne (fun q : Int32 × Mem => q.1) (fun q : Int32 × Mem => q.2) 0 [(0, pR 1 0 0), (1, pR 0 k1 0)] [] m2 (fP_goOneByOne k1 m2) := by
  unfold fP_goOneByOne
  refine sim_aload_n dX1_goOneByOne_0 rfl ?_
  refine sim_aload_n dX1_goOneByOne_1 rfl ?_
  refine sim_callV (As := [pR 0 k1 0]) (rest := []) (k0 := 0) dX1_goOneByOne_2 ln_X1_75 me_X1_look rfl (by decide) rfl (by decide) (Nat.le_of_ble_eq_true rfl) (Nat.le_of_ble_eq_true rfl) rfl (sP_look X k1 m2) (fun m3 => ?_)
  refine sim_iconst (v := 0) dX1_goOneByOne_5 (by decide) ?_
  refine sim_istore_n (fun z => [(0, pR 1 0 0), (1, pR 0 k1 0), (2, pI z)]) [1, 2, 0] dX1_goOneByOne_6 (by decide) (fun _ => rfl) (fun x4 => ?_)
  refine sim_iconst (v := 0) dX1_goOneByOne_7 (by decide) ?_
  refine sim_istore_n (fun z => [(0, pR 1 0 0), (1, pR 0 k1 0), (2, pI x4), (3, pI z)]) [1, 2, 3, 0] dX1_goOneByOne_8 (by decide) (fun _ => rfl) (fun x5 => ?_)
  refine sim_lz21 (fun z0 z1 => [(0, pR 1 0 0), (1, pR 0 k1 0), (2, pI z0), (3, pI z1)]) (fun s9 hs10 x6 x7 m8 => ?_) FU x4 x5 m3
  unfold bP_goOneByOne_9
  refine sim_iload_n dX1_goOneByOne_9 rfl ?_
  refine sim_aload_n dX1_goOneByOne_10 rfl ?_
  refine sim_get (v := pI (m8 (0, k1, 0) 4)) dX1_goOneByOne_11 fl_X1_45 (by decide) rfl ?_
  refine sim_icmp_ge (tgt := 48) dX1_goOneByOne_14 (by decide) ?_ ?_
  · refine sim_iload_n dX1_goOneByOne_48 rfl ?_
    exact sim_iret dX1_goOneByOne_49 rfl rfl
  · refine sim_aload_n dX1_goOneByOne_17 rfl ?_
    refine sim_aload_n dX1_goOneByOne_18 rfl ?_
    refine sim_callV (As := [pR 0 k1 0]) (rest := []) (k0 := 0) dX1_goOneByOne_19 ln_X1_121 me_X1_firstToGoAlone rfl (by decide) rfl (by decide) (Nat.le_of_ble_eq_true rfl) (Nat.le_of_ble_eq_true rfl) rfl (sP_firstToGoAlone X k1 m8) (fun q11 => ?_)
    refine sim_istore (fun z => [(0, pR 1 0 0), (1, pR 0 k1 0), (2, pI x6), (3, pI x7), (4, pI z)]) [1, 2, 3, 4, 0] dX1_goOneByOne_22 (by decide) (fun _ => rfl) (fun x12 => ?_)
    refine sim_iload dX1_goOneByOne_24 rfl ?_
    refine sim_if_ge (tgt := 31) dX1_goOneByOne_26 (by decide) ?_ ?_
    · refine sim_aload_n dX1_goOneByOne_31 rfl ?_
      refine sim_get (v := pR 1 0 6) dX1_goOneByOne_32 fl_X1_29 (by decide) rfl ?_
      refine sim_iload_n dX1_goOneByOne_35 rfl ?_
      refine sim_iload dX1_goOneByOne_36 rfl ?_
      refine sim_iast dX1_goOneByOne_38 rfl (by decide) (fun m13 => ?_)
      refine sim_iinc (y := 1) (fun z => [(0, pR 1 0 0), (1, pR 0 k1 0), (2, pI z), (3, pI x7), (4, pI x12)]) [1, 2, 0, 3, 4] dX1_goOneByOne_39 rfl (by decide) (by decide) (fun _ => rfl) (fun x14 => ?_)
      refine sim_iinc (y := 1) (fun z => [(0, pR 1 0 0), (1, pR 0 k1 0), (2, pI x14), (3, pI z), (4, pI x12)]) [1, 2, 3, 0, 4] dX1_goOneByOne_42 rfl (by decide) (by decide) (fun _ => rfl) (fun x15 => ?_)
      refine sim_goto (tgt := 9) dX1_goOneByOne_45 (by decide) ?_
      refine sim_pick [(0, pR 1 0 0), (1, pR 0 k1 0), (2, pI x14), (3, pI x15)] [0, 1, 2, 3] rfl ?_
      exact hs10 x14 x15 m13
    · refine sim_iload_n dX1_goOneByOne_29 rfl ?_
      exact sim_iret dX1_goOneByOne_30 rfl rfl
