def fM_in (y1 : Int64) (y2 : Int64) (y3 : Int64) (m4 : Mem) : Option Int32 :=
  if (lg_cmp y1 y2) < 0 then (some 0) else (if 0 < (lg_cmp y1 y3) then (some 0) else (some 1))
abbrev rm_M_in : Room := { frames := 0, cells := 0, slots := 0, locals := 0 }
set_option maxRecDepth 4000 in
theorem sM_in (X : Sc) (y1 : Int64) (y2 : Int64) (y3 : Int64) (m4 : Mem) : Sim X cX5_in 6 (some .boolean) RX5 rm_M_in (fun r : Int32 => r) (fun _ : Int32 => m4) 0 [(0, pL y1), (2, pL y2), (4, pL y3)] [] m4 (fM_in y1 y2 y3 m4) := by
  unfold fM_in
  refine sim_lload_n dX5_in_0 rfl ?_
  refine sim_lload_n dX5_in_1 rfl ?_
  refine sim_lcmp dX5_in_2 ?_
  refine sim_if_lt (tgt := 17) dX5_in_3 (by decide) ?_ ?_
  · refine sim_iconst (v := 0) dX5_in_17 (by decide) ?_
    exact sim_zret dX5_in_18 rfl rfl rfl
  · refine sim_lload_n dX5_in_6 rfl ?_
    refine sim_lload dX5_in_7 rfl ?_
    refine sim_lcmp dX5_in_9 ?_
    refine sim_if_gt (tgt := 17) dX5_in_10 (by decide) ?_ ?_
    · refine sim_iconst (v := 0) dX5_in_17 (by decide) ?_
      exact sim_zret dX5_in_18 rfl rfl rfl
    · refine sim_iconst (v := 1) dX5_in_13 (by decide) ?_
      refine sim_goto (tgt := 18) dX5_in_14 (by decide) ?_
      exact sim_zret dX5_in_18 rfl rfl rfl

def fM_flag (x1 : Int32) (m2 : Mem) : Option Int32 :=
  if x1 = 0 then (some 0) else (some 1)
abbrev rm_M_flag : Room := { frames := 0, cells := 0, slots := 0, locals := 0 }
set_option maxRecDepth 4000 in
theorem sM_flag (X : Sc) (x1 : Int32) (m2 : Mem) : Sim X cX5_flag 1 (some .int) RX5 rm_M_flag (fun r : Int32 => r) (fun _ : Int32 => m2) 0 [(0, pI x1)] [] m2 (fM_flag x1 m2) := by
  unfold fM_flag
  refine sim_iload_n dX5_flag_0 rfl ?_
  refine sim_if_eq (tgt := 8) dX5_flag_1 (by decide) ?_ ?_
  · refine sim_iconst (v := 0) dX5_flag_8 (by decide) ?_
    exact sim_iret dX5_flag_9 rfl rfl
  · refine sim_iconst (v := 1) dX5_flag_4 (by decide) ?_
    refine sim_goto (tgt := 9) dX5_flag_5 (by decide) ?_
    exact sim_iret dX5_flag_9 rfl rfl

def bM_keepBefore_2 (s5 : Int32 → Mem → Option Mem) (x3 : Int32) (m4 : Mem) : Option Mem :=
  if 238 ≤ x3 then (some m4) else (gd (inb x3 238) (gd (inb x3 238) (lt (wr m4 (5, 0, 3) (ix x3) (m4 (5, 0, 1) (ix x3))) (fun m7 => lt (x3 + 1) (fun (x8 : Int32) => s5 x8 m7)))))
def fM_keepBefore (m1 : Mem) : Option Mem :=
  lt 0 (fun (x2 : Int32) => lz11 (bM_keepBefore_2) FU x2 m1)
abbrev rm_M_keepBefore : Room := { frames := 0, cells := 0, slots := 0, locals := 0 }
set_option maxRecDepth 4000 in
theorem sM_keepBefore (X : Sc) (m1 : Mem) : Sim X cX5_keepBefore 2 none RX5 rm_M_keepBefore (fun _ : Mem => 0) (fun m : Mem => m) 0 [(0, pR 5 0 0)] [] m1 (fM_keepBefore m1) := by
  unfold fM_keepBefore
  refine sim_iconst (v := 0) dX5_keepBefore_0 (by decide) ?_
  refine sim_istore_n (fun z => [(0, pR 5 0 0), (1, pI z)]) [1, 0] dX5_keepBefore_1 (by decide) (fun _ => rfl) (fun x2 => ?_)
  refine sim_lz11 (fun z0 => [(0, pR 5 0 0), (1, pI z0)]) (fun s5 hs6 x3 m4 => ?_) FU x2 m1
  unfold bM_keepBefore_2
  refine sim_iload_n dX5_keepBefore_2 rfl ?_
  refine sim_sipush (v := 238) dX5_keepBefore_3 (by decide) ?_
  refine sim_icmp_ge (tgt := 27) dX5_keepBefore_6 (by decide) ?_ ?_
  · exact sim_ret dX5_keepBefore_27 rfl
  · refine sim_aload_n dX5_keepBefore_9 rfl ?_
    refine sim_get (v := pR 5 0 3) dX5_keepBefore_10 fl_X5_16 (by decide) rfl ?_
    refine sim_iload_n dX5_keepBefore_13 rfl ?_
    refine sim_aload_n dX5_keepBefore_14 rfl ?_
    refine sim_get (v := pR 5 0 1) dX5_keepBefore_15 fl_X5_7 (by decide) rfl ?_
    refine sim_iload_n dX5_keepBefore_18 rfl ?_
    refine sim_iald dX5_keepBefore_19 rfl (by decide) ?_
    refine sim_iast dX5_keepBefore_20 rfl (by decide) (fun m7 => ?_)
    refine sim_iinc (y := 1) (fun z => [(0, pR 5 0 0), (1, pI z)]) [1, 0] dX5_keepBefore_21 rfl (by decide) (by decide) (fun _ => rfl) (fun x8 => ?_)
    refine sim_goto (tgt := 2) dX5_keepBefore_24 (by decide) ?_
    exact hs6 x8 m7

def bM_backBefore_2 (s5 : Int32 → Mem → Option Mem) (x3 : Int32) (m4 : Mem) : Option Mem :=
  if 238 ≤ x3 then (some m4) else (gd (inb x3 238) (gd (inb x3 238) (lt (wr m4 (5, 0, 1) (ix x3) (m4 (5, 0, 3) (ix x3))) (fun m7 => lt (x3 + 1) (fun (x8 : Int32) => s5 x8 m7)))))
def fM_backBefore (m1 : Mem) : Option Mem :=
  lt 0 (fun (x2 : Int32) => lz11 (bM_backBefore_2) FU x2 m1)
abbrev rm_M_backBefore : Room := { frames := 0, cells := 0, slots := 0, locals := 0 }
set_option maxRecDepth 4000 in
theorem sM_backBefore (X : Sc) (m1 : Mem) : Sim X cX5_backBefore 2 none RX5 rm_M_backBefore (fun _ : Mem => 0) (fun m : Mem => m) 0 [(0, pR 5 0 0)] [] m1 (fM_backBefore m1) := by
  unfold fM_backBefore
  refine sim_iconst (v := 0) dX5_backBefore_0 (by decide) ?_
  refine sim_istore_n (fun z => [(0, pR 5 0 0), (1, pI z)]) [1, 0] dX5_backBefore_1 (by decide) (fun _ => rfl) (fun x2 => ?_)
  refine sim_lz11 (fun z0 => [(0, pR 5 0 0), (1, pI z0)]) (fun s5 hs6 x3 m4 => ?_) FU x2 m1
  unfold bM_backBefore_2
  refine sim_iload_n dX5_backBefore_2 rfl ?_
  refine sim_sipush (v := 238) dX5_backBefore_3 (by decide) ?_
  refine sim_icmp_ge (tgt := 27) dX5_backBefore_6 (by decide) ?_ ?_
  · exact sim_ret dX5_backBefore_27 rfl
  · refine sim_aload_n dX5_backBefore_9 rfl ?_
    refine sim_get (v := pR 5 0 1) dX5_backBefore_10 fl_X5_7 (by decide) rfl ?_
    refine sim_iload_n dX5_backBefore_13 rfl ?_
    refine sim_aload_n dX5_backBefore_14 rfl ?_
    refine sim_get (v := pR 5 0 3) dX5_backBefore_15 fl_X5_16 (by decide) rfl ?_
    refine sim_iload_n dX5_backBefore_18 rfl ?_
    refine sim_iald dX5_backBefore_19 rfl (by decide) ?_
    refine sim_iast dX5_backBefore_20 rfl (by decide) (fun m7 => ?_)
    refine sim_iinc (y := 1) (fun z => [(0, pR 5 0 0), (1, pI z)]) [1, 0] dX5_backBefore_21 rfl (by decide) (by decide) (fun _ => rfl) (fun x8 => ?_)
    refine sim_goto (tgt := 2) dX5_backBefore_24 (by decide) ?_
    exact hs6 x8 m7

def fM_feed (x1 : Int32) (m2 : Mem) : Option (Int32 × Mem) :=
  Option.bind (fM_in x1.toInt64 (0 : Int64) (127 : Int64) m2) (fun x3 => if x3 = 0 then (some ((-1), m2)) else (if (m2 (5, 0, 0) 6) = 160 then (some ((-3), m2)) else (gd (inb (m2 (5, 0, 0) 6) 160) (lt (wr m2 (5, 0, 6) (ix (m2 (5, 0, 0) 6)) x1) (fun m4 => lt (wr m4 (5, 0, 0) 6 ((m4 (5, 0, 0) 6) + 1)) (fun m5 => some (m5 (5, 0, 0) 6, m5)))))))
abbrev rm_M_feed : Room := { frames := 1, cells := 0, slots := 0, locals := 25 }
set_option maxRecDepth 4000 in
theorem sM_feed (X : Sc) (x1 : Int32) (m2 : Mem) : Sim X cX5_feed 2 (some .int) RX5 rm_M_feed (fun q : Int32 × Mem => q.1) (fun q : Int32 × Mem => q.2) 0 [(0, pR 5 0 0), (1, pI x1)] [] m2 (fM_feed x1 m2) := by
  unfold fM_feed
  refine sim_iload_n dX5_feed_0 rfl ?_
  refine sim_i2l dX5_feed_1 ?_
  refine sim_lconst (v := 0) dX5_feed_2 (by decide) ?_
  refine sim_ldc2 (v := 127) dX5_feed_3 kl_X5_53 ?_
  refine sim_callS (As := [pL x1.toInt64, pL (0 : Int64), pL (127 : Int64)]) (rest := []) dX5_feed_6 ln_X5_55 me_X5_in rfl (by decide) (Nat.le_of_ble_eq_true rfl) (Nat.le_of_ble_eq_true rfl) rfl (sM_in X x1.toInt64 (0 : Int64) (127 : Int64) m2) (fun x3 => ?_)
  refine sim_if_ne (tgt := 14) dX5_feed_9 (by decide) ?_ ?_
  · refine sim_iconst (v := (-1)) dX5_feed_12 (by decide) ?_
    exact sim_iret dX5_feed_13 rfl rfl
  · refine sim_aload_n dX5_feed_14 rfl ?_
    refine sim_get (v := pI (m2 (5, 0, 0) 6)) dX5_feed_15 fl_X5_59 (by decide) rfl ?_
    refine sim_sipush (v := 160) dX5_feed_18 (by decide) ?_
    refine sim_icmp_ne (tgt := 27) dX5_feed_21 (by decide) ?_ ?_
    · refine sim_bipush (v := (-3)) dX5_feed_24 (by decide) ?_
      exact sim_iret dX5_feed_26 rfl rfl
    · refine sim_aload_n dX5_feed_27 rfl ?_
      refine sim_get (v := pR 5 0 6) dX5_feed_28 fl_X5_26 (by decide) rfl ?_
      refine sim_aload_n dX5_feed_31 rfl ?_
      refine sim_get (v := pI (m2 (5, 0, 0) 6)) dX5_feed_32 fl_X5_59 (by decide) rfl ?_
      refine sim_iload_n dX5_feed_35 rfl ?_
      refine sim_iast dX5_feed_36 rfl (by decide) (fun m4 => ?_)
      refine sim_aload_n dX5_feed_37 rfl ?_
      refine sim_dup dX5_feed_38 rfl ?_
      refine sim_get (v := pI (m4 (5, 0, 0) 6)) dX5_feed_39 fl_X5_59 (by decide) rfl ?_
      refine sim_iconst (v := 1) dX5_feed_42 (by decide) ?_
      refine sim_iadd dX5_feed_43 ?_
      refine sim_put dX5_feed_44 fl_X5_59 fp_5_6 rfl rfl (fun m5 => ?_)
      refine sim_aload_n dX5_feed_47 rfl ?_
      refine sim_get (v := pI (m5 (5, 0, 0) 6)) dX5_feed_48 fl_X5_59 (by decide) rfl ?_
      exact sim_iret dX5_feed_51 rfl rfl

def fM_end (x1 : Int32) (m2 : Mem) : Option (Int32 × Mem) :=
  Option.bind (fM_in x1.toInt64 (0 : Int64) ((m2 (5, 0, 0) 6).toInt64) m2) (fun x3 => if x3 = 0 then (some ((-1), m2)) else (lt (m2 (5, 0, 0) 6) (fun (x4 : Int32) => lt (wr m2 (5, 0, 0) 6 x1) (fun m5 => some (x4, m5)))))
abbrev rm_M_end : Room := { frames := 1, cells := 0, slots := 0, locals := 25 }
set_option maxRecDepth 4000 in
theorem sM_end (X : Sc) (x1 : Int32) (m2 : Mem) : Sim X cX5_end 3 (some .int) RX5 rm_M_end (fun q : Int32 × Mem => q.1) (fun q : Int32 × Mem => q.2) 0 [(0, pR 5 0 0), (1, pI x1)] [] m2 (fM_end x1 m2) := by
  unfold fM_end
  refine sim_iload_n dX5_end_0 rfl ?_
  refine sim_i2l dX5_end_1 ?_
  refine sim_lconst (v := 0) dX5_end_2 (by decide) ?_
  refine sim_aload_n dX5_end_3 rfl ?_
  refine sim_get (v := pI (m2 (5, 0, 0) 6)) dX5_end_4 fl_X5_59 (by decide) rfl ?_
  refine sim_i2l dX5_end_7 ?_
  refine sim_callS (As := [pL x1.toInt64, pL (0 : Int64), pL ((m2 (5, 0, 0) 6).toInt64)]) (rest := []) dX5_end_8 ln_X5_55 me_X5_in rfl (by decide) (Nat.le_of_ble_eq_true rfl) (Nat.le_of_ble_eq_true rfl) rfl (sM_in X x1.toInt64 (0 : Int64) ((m2 (5, 0, 0) 6).toInt64) m2) (fun x3 => ?_)
  refine sim_if_ne (tgt := 16) dX5_end_11 (by decide) ?_ ?_
  · refine sim_iconst (v := (-1)) dX5_end_14 (by decide) ?_
    exact sim_iret dX5_end_15 rfl rfl
  · refine sim_aload_n dX5_end_16 rfl ?_
    refine sim_get (v := pI (m2 (5, 0, 0) 6)) dX5_end_17 fl_X5_59 (by decide) rfl ?_
    refine sim_istore_n (fun z => [(0, pR 5 0 0), (1, pI x1), (2, pI z)]) [1, 2, 0] dX5_end_20 (by decide) (fun _ => rfl) (fun x4 => ?_)
    refine sim_aload_n dX5_end_21 rfl ?_
    refine sim_iload_n dX5_end_22 rfl ?_
    refine sim_put dX5_end_23 fl_X5_59 fp_5_6 rfl rfl (fun m5 => ?_)
    refine sim_iload_n dX5_end_26 rfl ?_
    exact sim_iret dX5_end_27 rfl rfl

def fM_requires (x1 : Int32) (x2 : Int32) (m3 : Mem) : Option Mem :=
  if x1 = 0 then (if (m3 (5, 0, 0) 11) = 0 then (lt (wr m3 (5, 0, 0) 11 x2) (fun m4 => lt (wr m4 (5, 0, 0) 12 (m4 (5, 0, 0) 8)) (fun m5 => some m5))) else (some m3)) else (some m3)
abbrev rm_M_requires : Room := { frames := 0, cells := 0, slots := 0, locals := 0 }
set_option maxRecDepth 4000 in
theorem sM_requires (X : Sc) (x1 : Int32) (x2 : Int32) (m3 : Mem) : Sim X cX5_requires 3 none RX5 rm_M_requires (fun _ : Mem => 0) (fun m : Mem => m) 0 [(0, pR 5 0 0), (1, pI x1), (2, pI x2)] [] m3 (fM_requires x1 x2 m3) := by
  unfold fM_requires
  refine sim_iload_n dX5_requires_0 rfl ?_
  refine sim_if_ne (tgt := 24) dX5_requires_1 (by decide) ?_ ?_
  · refine sim_aload_n dX5_requires_4 rfl ?_
    refine sim_get (v := pI (m3 (5, 0, 0) 11)) dX5_requires_5 fl_X5_63 (by decide) rfl ?_
    refine sim_if_ne (tgt := 24) dX5_requires_8 (by decide) ?_ ?_
    · refine sim_aload_n dX5_requires_11 rfl ?_
      refine sim_iload_n dX5_requires_12 rfl ?_
      refine sim_put dX5_requires_13 fl_X5_63 fp_5_11 rfl rfl (fun m4 => ?_)
      refine sim_aload_n dX5_requires_16 rfl ?_
      refine sim_aload_n dX5_requires_17 rfl ?_
      refine sim_get (v := pI (m4 (5, 0, 0) 8)) dX5_requires_18 fl_X5_66 (by decide) rfl ?_
      refine sim_put dX5_requires_21 fl_X5_69 fp_5_12 rfl rfl (fun m5 => ?_)
      exact sim_ret dX5_requires_24 rfl
    · exact sim_ret dX5_requires_24 rfl
  · exact sim_ret dX5_requires_24 rfl

def fM_byteAt (x1 : Int32) (m2 : Mem) : Option Int32 :=
  if (m2 (5, 0, 0) 6) ≤ x1 then (some (-1)) else (gd (inb x1 160) (some (m2 (5, 0, 6) (ix x1))))
abbrev rm_M_byteAt : Room := { frames := 0, cells := 0, slots := 0, locals := 0 }
set_option maxRecDepth 4000 in
theorem sM_byteAt (X : Sc) (x1 : Int32) (m2 : Mem) : Sim X cX5_byteAt 2 (some .int) RX5 rm_M_byteAt (fun r : Int32 => r) (fun _ : Int32 => m2) 0 [(0, pR 5 0 0), (1, pI x1)] [] m2 (fM_byteAt x1 m2) := by
  unfold fM_byteAt
  refine sim_iload_n dX5_byteAt_0 rfl ?_
  refine sim_aload_n dX5_byteAt_1 rfl ?_
  refine sim_get (v := pI (m2 (5, 0, 0) 6)) dX5_byteAt_2 fl_X5_59 (by decide) rfl ?_
  refine sim_icmp_ge (tgt := 17) dX5_byteAt_5 (by decide) ?_ ?_
  · refine sim_iconst (v := (-1)) dX5_byteAt_17 (by decide) ?_
    exact sim_iret dX5_byteAt_18 rfl rfl
  · refine sim_aload_n dX5_byteAt_8 rfl ?_
    refine sim_get (v := pR 5 0 6) dX5_byteAt_9 fl_X5_26 (by decide) rfl ?_
    refine sim_iload_n dX5_byteAt_12 rfl ?_
    refine sim_iald dX5_byteAt_13 rfl (by decide) ?_
    refine sim_goto (tgt := 18) dX5_byteAt_14 (by decide) ?_
    exact sim_iret dX5_byteAt_18 rfl rfl

def fM_is (x1 : Int32) (x2 : Int32) (x3 : Int32) (x4 : Int32) (x5 : Int32) (m6 : Mem) : Option Int32 :=
  if (m6 (5, 0, 0) 9) = 1 then (if ((m6 (5, 0, 0) 7) - (m6 (5, 0, 0) 8)) = x1 then (Option.bind (fM_byteAt ((m6 (5, 0, 0) 8) + x2) m6) (fun x7 => if x7 = x3 then (Option.bind (fM_byteAt (((m6 (5, 0, 0) 8) + x2) + 1) m6) (fun x8 => if x8 = x4 then (Option.bind (fM_byteAt (((m6 (5, 0, 0) 8) + x2) + 2) m6) (fun x9 => if x9 = x5 then (some 1) else (some 0))) else (some 0))) else (some 0))) else (some 0)) else (some 0)
abbrev rm_M_is : Room := { frames := 1, cells := 0, slots := 0, locals := 21 }
set_option maxRecDepth 4000 in
theorem sM_is (X : Sc) (x1 : Int32) (x2 : Int32) (x3 : Int32) (x4 : Int32) (x5 : Int32) (m6 : Mem) : Sim X cX5_is 6 (some .boolean) RX5 rm_M_is (fun r : Int32 => r) (fun _ : Int32 => m6) 0 [(0, pR 5 0 0), (1, pI x1), (2, pI x2), (3, pI x3), (4, pI x4), (5, pI x5)] [] m6 (fM_is x1 x2 x3 x4 x5 m6) := by
  unfold fM_is
  refine sim_aload_n dX5_is_0 rfl ?_
  refine sim_get (v := pI (m6 (5, 0, 0) 9)) dX5_is_1 fl_X5_72 (by decide) rfl ?_
  refine sim_iconst (v := 1) dX5_is_4 (by decide) ?_
  refine sim_icmp_ne (tgt := 73) dX5_is_5 (by decide) ?_ ?_
  · refine sim_aload_n dX5_is_8 rfl ?_
    refine sim_get (v := pI (m6 (5, 0, 0) 7)) dX5_is_9 fl_X5_75 (by decide) rfl ?_
    refine sim_aload_n dX5_is_12 rfl ?_
    refine sim_get (v := pI (m6 (5, 0, 0) 8)) dX5_is_13 fl_X5_66 (by decide) rfl ?_
    refine sim_isub dX5_is_16 ?_
    refine sim_iload_n dX5_is_17 rfl ?_
    refine sim_icmp_ne (tgt := 73) dX5_is_18 (by decide) ?_ ?_
    · refine sim_aload_n dX5_is_21 rfl ?_
      refine sim_aload_n dX5_is_22 rfl ?_
      refine sim_get (v := pI (m6 (5, 0, 0) 8)) dX5_is_23 fl_X5_66 (by decide) rfl ?_
      refine sim_iload_n dX5_is_26 rfl ?_
      refine sim_iadd dX5_is_27 ?_
      refine sim_callV (As := [pI ((m6 (5, 0, 0) 8) + x2)]) (rest := []) (k0 := 0) dX5_is_28 ln_X5_78 me_X5_byteAt rfl (by decide) rfl (by decide) (Nat.le_of_ble_eq_true rfl) (Nat.le_of_ble_eq_true rfl) rfl (sM_byteAt X ((m6 (5, 0, 0) 8) + x2) m6) (fun x7 => ?_)
      refine sim_iload_n dX5_is_31 rfl ?_
      refine sim_icmp_ne (tgt := 73) dX5_is_32 (by decide) ?_ ?_
      · refine sim_aload_n dX5_is_35 rfl ?_
        refine sim_aload_n dX5_is_36 rfl ?_
        refine sim_get (v := pI (m6 (5, 0, 0) 8)) dX5_is_37 fl_X5_66 (by decide) rfl ?_
        refine sim_iload_n dX5_is_40 rfl ?_
        refine sim_iadd dX5_is_41 ?_
        refine sim_iconst (v := 1) dX5_is_42 (by decide) ?_
        refine sim_iadd dX5_is_43 ?_
        refine sim_callV (As := [pI (((m6 (5, 0, 0) 8) + x2) + 1)]) (rest := []) (k0 := 0) dX5_is_44 ln_X5_78 me_X5_byteAt rfl (by decide) rfl (by decide) (Nat.le_of_ble_eq_true rfl) (Nat.le_of_ble_eq_true rfl) rfl (sM_byteAt X (((m6 (5, 0, 0) 8) + x2) + 1) m6) (fun x8 => ?_)
        refine sim_iload dX5_is_47 rfl ?_
        refine sim_icmp_ne (tgt := 73) dX5_is_49 (by decide) ?_ ?_
        · refine sim_aload_n dX5_is_52 rfl ?_
          refine sim_aload_n dX5_is_53 rfl ?_
          refine sim_get (v := pI (m6 (5, 0, 0) 8)) dX5_is_54 fl_X5_66 (by decide) rfl ?_
          refine sim_iload_n dX5_is_57 rfl ?_
          refine sim_iadd dX5_is_58 ?_
          refine sim_iconst (v := 2) dX5_is_59 (by decide) ?_
          refine sim_iadd dX5_is_60 ?_
          refine sim_callV (As := [pI (((m6 (5, 0, 0) 8) + x2) + 2)]) (rest := []) (k0 := 0) dX5_is_61 ln_X5_78 me_X5_byteAt rfl (by decide) rfl (by decide) (Nat.le_of_ble_eq_true rfl) (Nat.le_of_ble_eq_true rfl) rfl (sM_byteAt X (((m6 (5, 0, 0) 8) + x2) + 2) m6) (fun x9 => ?_)
          refine sim_iload dX5_is_64 rfl ?_
          refine sim_icmp_ne (tgt := 73) dX5_is_66 (by decide) ?_ ?_
          · refine sim_iconst (v := 1) dX5_is_69 (by decide) ?_
            refine sim_goto (tgt := 74) dX5_is_70 (by decide) ?_
            exact sim_zret dX5_is_74 rfl rfl rfl
          · refine sim_iconst (v := 0) dX5_is_73 (by decide) ?_
            exact sim_zret dX5_is_74 rfl rfl rfl
        · refine sim_iconst (v := 0) dX5_is_73 (by decide) ?_
          exact sim_zret dX5_is_74 rfl rfl rfl
      · refine sim_iconst (v := 0) dX5_is_73 (by decide) ?_
        exact sim_zret dX5_is_74 rfl rfl rfl
    · refine sim_iconst (v := 0) dX5_is_73 (by decide) ?_
      exact sim_zret dX5_is_74 rfl rfl rfl
  · refine sim_iconst (v := 0) dX5_is_73 (by decide) ?_
    exact sim_zret dX5_is_74 rfl rfl rfl

def jM_lineNow_64 (m1 : Mem) : Option Int32 :=
  Option.bind (fM_is 7 0 115 101 99 m1) (fun x4 => if x4 = 0 then (some (-4)) else (Option.bind (fM_is 7 2 99 116 105 m1) (fun x5 => if x5 = 0 then (some (-4)) else (Option.bind (fM_is 7 4 105 111 110 m1) (fun x6 => if x6 = 0 then (some (-4)) else (some 1))))))
def jM_lineNow_32 (m1 : Mem) : Option Int32 :=
  Option.bind (fM_is 5 0 116 114 97 m1) (fun x3 => if x3 = 0 then (jM_lineNow_64 m1) else (Option.bind (fM_is 5 2 97 105 110 m1) (fun x8 => if x8 = 0 then (jM_lineNow_64 m1) else (some 2))))
def fM_lineNow (m1 : Mem) : Option Int32 :=
  Option.bind (fM_is 5 0 112 108 97 m1) (fun x2 => if x2 = 0 then (jM_lineNow_32 m1) else (Option.bind (fM_is 5 2 97 99 101 m1) (fun x10 => if x10 = 0 then (jM_lineNow_32 m1) else (some 0))))
abbrev rm_M_lineNow : Room := { frames := 2, cells := 0, slots := 0, locals := 46 }
set_option maxRecDepth 4000 in
theorem sM_lineNow (X : Sc) (m1 : Mem) : Sim X cX5_lineNow 1 (some .int) RX5 rm_M_lineNow (fun r : Int32 => r) (fun _ : Int32 => m1) 0 [(0, pR 5 0 0)] [] m1 (fM_lineNow m1) := by
  unfold fM_lineNow
  refine sim_aload_n dX5_lineNow_0 rfl ?_
  refine sim_iconst (v := 5) dX5_lineNow_1 (by decide) ?_
  refine sim_iconst (v := 0) dX5_lineNow_2 (by decide) ?_
  refine sim_bipush (v := 112) dX5_lineNow_3 (by decide) ?_
  refine sim_bipush (v := 108) dX5_lineNow_5 (by decide) ?_
  refine sim_bipush (v := 97) dX5_lineNow_7 (by decide) ?_
  refine sim_callV (As := [pI 5, pI 0, pI 112, pI 108, pI 97]) (rest := []) (k0 := 0) dX5_lineNow_9 ln_X5_82 me_X5_is rfl (by decide) rfl (by decide) (Nat.le_of_ble_eq_true rfl) (Nat.le_of_ble_eq_true rfl) rfl (sM_is X 5 0 112 108 97 m1) (fun x2 => ?_)
  have hJ9 : Sim X cX5_lineNow 1 (some .int) RX5 rm_M_lineNow (fun r : Int32 => r) (fun _ : Int32 => m1) 32 [(0, pR 5 0 0)] [] m1 (jM_lineNow_32 m1) := by
    unfold jM_lineNow_32
    refine sim_aload_n dX5_lineNow_32 rfl ?_
    refine sim_iconst (v := 5) dX5_lineNow_33 (by decide) ?_
    refine sim_iconst (v := 0) dX5_lineNow_34 (by decide) ?_
    refine sim_bipush (v := 116) dX5_lineNow_35 (by decide) ?_
    refine sim_bipush (v := 114) dX5_lineNow_37 (by decide) ?_
    refine sim_bipush (v := 97) dX5_lineNow_39 (by decide) ?_
    refine sim_callV (As := [pI 5, pI 0, pI 116, pI 114, pI 97]) (rest := []) (k0 := 0) dX5_lineNow_41 ln_X5_82 me_X5_is rfl (by decide) rfl (by decide) (Nat.le_of_ble_eq_true rfl) (Nat.le_of_ble_eq_true rfl) rfl (sM_is X 5 0 116 114 97 m1) (fun x3 => ?_)
    have hJ7 : Sim X cX5_lineNow 1 (some .int) RX5 rm_M_lineNow (fun r : Int32 => r) (fun _ : Int32 => m1) 64 [(0, pR 5 0 0)] [] m1 (jM_lineNow_64 m1) := by
      unfold jM_lineNow_64
      refine sim_aload_n dX5_lineNow_64 rfl ?_
      refine sim_bipush (v := 7) dX5_lineNow_65 (by decide) ?_
      refine sim_iconst (v := 0) dX5_lineNow_67 (by decide) ?_
      refine sim_bipush (v := 115) dX5_lineNow_68 (by decide) ?_
      refine sim_bipush (v := 101) dX5_lineNow_70 (by decide) ?_
      refine sim_bipush (v := 99) dX5_lineNow_72 (by decide) ?_
      refine sim_callV (As := [pI 7, pI 0, pI 115, pI 101, pI 99]) (rest := []) (k0 := 0) dX5_lineNow_74 ln_X5_82 me_X5_is rfl (by decide) rfl (by decide) (Nat.le_of_ble_eq_true rfl) (Nat.le_of_ble_eq_true rfl) rfl (sM_is X 7 0 115 101 99 m1) (fun x4 => ?_)
      refine sim_if_eq (tgt := 116) dX5_lineNow_77 (by decide) ?_ ?_
      · refine sim_bipush (v := (-4)) dX5_lineNow_116 (by decide) ?_
        exact sim_iret dX5_lineNow_118 rfl rfl
      · refine sim_aload_n dX5_lineNow_80 rfl ?_
        refine sim_bipush (v := 7) dX5_lineNow_81 (by decide) ?_
        refine sim_iconst (v := 2) dX5_lineNow_83 (by decide) ?_
        refine sim_bipush (v := 99) dX5_lineNow_84 (by decide) ?_
        refine sim_bipush (v := 116) dX5_lineNow_86 (by decide) ?_
        refine sim_bipush (v := 105) dX5_lineNow_88 (by decide) ?_
        refine sim_callV (As := [pI 7, pI 2, pI 99, pI 116, pI 105]) (rest := []) (k0 := 0) dX5_lineNow_90 ln_X5_82 me_X5_is rfl (by decide) rfl (by decide) (Nat.le_of_ble_eq_true rfl) (Nat.le_of_ble_eq_true rfl) rfl (sM_is X 7 2 99 116 105 m1) (fun x5 => ?_)
        refine sim_if_eq (tgt := 116) dX5_lineNow_93 (by decide) ?_ ?_
        · refine sim_bipush (v := (-4)) dX5_lineNow_116 (by decide) ?_
          exact sim_iret dX5_lineNow_118 rfl rfl
        · refine sim_aload_n dX5_lineNow_96 rfl ?_
          refine sim_bipush (v := 7) dX5_lineNow_97 (by decide) ?_
          refine sim_iconst (v := 4) dX5_lineNow_99 (by decide) ?_
          refine sim_bipush (v := 105) dX5_lineNow_100 (by decide) ?_
          refine sim_bipush (v := 111) dX5_lineNow_102 (by decide) ?_
          refine sim_bipush (v := 110) dX5_lineNow_104 (by decide) ?_
          refine sim_callV (As := [pI 7, pI 4, pI 105, pI 111, pI 110]) (rest := []) (k0 := 0) dX5_lineNow_106 ln_X5_82 me_X5_is rfl (by decide) rfl (by decide) (Nat.le_of_ble_eq_true rfl) (Nat.le_of_ble_eq_true rfl) rfl (sM_is X 7 4 105 111 110 m1) (fun x6 => ?_)
          refine sim_if_eq (tgt := 116) dX5_lineNow_109 (by decide) ?_ ?_
          · refine sim_bipush (v := (-4)) dX5_lineNow_116 (by decide) ?_
            exact sim_iret dX5_lineNow_118 rfl rfl
          · refine sim_iconst (v := 1) dX5_lineNow_112 (by decide) ?_
            refine sim_goto (tgt := 118) dX5_lineNow_113 (by decide) ?_
            exact sim_iret dX5_lineNow_118 rfl rfl
    refine sim_if_eq (tgt := 64) dX5_lineNow_44 (by decide) ?_ ?_
    · exact hJ7
    · refine sim_aload_n dX5_lineNow_47 rfl ?_
      refine sim_iconst (v := 5) dX5_lineNow_48 (by decide) ?_
      refine sim_iconst (v := 2) dX5_lineNow_49 (by decide) ?_
      refine sim_bipush (v := 97) dX5_lineNow_50 (by decide) ?_
      refine sim_bipush (v := 105) dX5_lineNow_52 (by decide) ?_
      refine sim_bipush (v := 110) dX5_lineNow_54 (by decide) ?_
      refine sim_callV (As := [pI 5, pI 2, pI 97, pI 105, pI 110]) (rest := []) (k0 := 0) dX5_lineNow_56 ln_X5_82 me_X5_is rfl (by decide) rfl (by decide) (Nat.le_of_ble_eq_true rfl) (Nat.le_of_ble_eq_true rfl) rfl (sM_is X 5 2 97 105 110 m1) (fun x8 => ?_)
      refine sim_if_eq (tgt := 64) dX5_lineNow_59 (by decide) ?_ ?_
      · exact hJ7
      · refine sim_iconst (v := 2) dX5_lineNow_62 (by decide) ?_
        exact sim_iret dX5_lineNow_63 rfl rfl
  refine sim_if_eq (tgt := 32) dX5_lineNow_12 (by decide) ?_ ?_
  · exact hJ9
  · refine sim_aload_n dX5_lineNow_15 rfl ?_
    refine sim_iconst (v := 5) dX5_lineNow_16 (by decide) ?_
    refine sim_iconst (v := 2) dX5_lineNow_17 (by decide) ?_
    refine sim_bipush (v := 97) dX5_lineNow_18 (by decide) ?_
    refine sim_bipush (v := 99) dX5_lineNow_20 (by decide) ?_
    refine sim_bipush (v := 101) dX5_lineNow_22 (by decide) ?_
    refine sim_callV (As := [pI 5, pI 2, pI 97, pI 99, pI 101]) (rest := []) (k0 := 0) dX5_lineNow_24 ln_X5_82 me_X5_is rfl (by decide) rfl (by decide) (Nat.le_of_ble_eq_true rfl) (Nat.le_of_ble_eq_true rfl) rfl (sM_is X 5 2 97 99 101 m1) (fun x10 => ?_)
    refine sim_if_eq (tgt := 32) dX5_lineNow_27 (by decide) ?_ ?_
    · exact hJ9
    · refine sim_iconst (v := 0) dX5_lineNow_30 (by decide) ?_
      exact sim_iret dX5_lineNow_31 rfl rfl

def fM_hasRoom (x1 : Int32) (m2 : Mem) : Option Int32 :=
  if x1 = 0 then (gd (inb 0 238) (if 6 ≤ (m2 (5, 0, 2) (ix 0)) then (some 0) else (some 1))) else (if x1 = 2 then (gd (inb 1 238) (if 4 ≤ (m2 (5, 0, 2) (ix 1)) then (some 0) else (some 1))) else (gd (inb 0 238) (if (m2 (5, 0, 2) (ix 0)) ≤ 0 then (some 0) else (some 1))))
abbrev rm_M_hasRoom : Room := { frames := 0, cells := 0, slots := 0, locals := 0 }
set_option maxRecDepth 4000 in
theorem sM_hasRoom (X : Sc) (x1 : Int32) (m2 : Mem) : Sim X cX5_hasRoom 2 (some .boolean) RX5 rm_M_hasRoom (fun r : Int32 => r) (fun _ : Int32 => m2) 0 [(0, pR 5 0 0), (1, pI x1)] [] m2 (fM_hasRoom x1 m2) := by
  unfold fM_hasRoom
  refine sim_iload_n dX5_hasRoom_0 rfl ?_
  refine sim_if_ne (tgt := 23) dX5_hasRoom_1 (by decide) ?_ ?_
  · refine sim_aload_n dX5_hasRoom_4 rfl ?_
    refine sim_get (v := pR 5 0 2) dX5_hasRoom_5 fl_X5_13 (by decide) rfl ?_
    refine sim_iconst (v := 0) dX5_hasRoom_8 (by decide) ?_
    refine sim_iald dX5_hasRoom_9 rfl (by decide) ?_
    refine sim_bipush (v := 6) dX5_hasRoom_10 (by decide) ?_
    refine sim_icmp_ge (tgt := 19) dX5_hasRoom_12 (by decide) ?_ ?_
    · refine sim_iconst (v := 0) dX5_hasRoom_19 (by decide) ?_
      refine sim_goto (tgt := 60) dX5_hasRoom_20 (by decide) ?_
      exact sim_zret dX5_hasRoom_60 rfl rfl rfl
    · refine sim_iconst (v := 1) dX5_hasRoom_15 (by decide) ?_
      refine sim_goto (tgt := 60) dX5_hasRoom_16 (by decide) ?_
      exact sim_zret dX5_hasRoom_60 rfl rfl rfl
  · refine sim_iload_n dX5_hasRoom_23 rfl ?_
    refine sim_iconst (v := 2) dX5_hasRoom_24 (by decide) ?_
    refine sim_icmp_ne (tgt := 46) dX5_hasRoom_25 (by decide) ?_ ?_
    · refine sim_aload_n dX5_hasRoom_28 rfl ?_
      refine sim_get (v := pR 5 0 2) dX5_hasRoom_29 fl_X5_13 (by decide) rfl ?_
      refine sim_iconst (v := 1) dX5_hasRoom_32 (by decide) ?_
      refine sim_iald dX5_hasRoom_33 rfl (by decide) ?_
      refine sim_iconst (v := 4) dX5_hasRoom_34 (by decide) ?_
      refine sim_icmp_ge (tgt := 42) dX5_hasRoom_35 (by decide) ?_ ?_
      · refine sim_iconst (v := 0) dX5_hasRoom_42 (by decide) ?_
        refine sim_goto (tgt := 60) dX5_hasRoom_43 (by decide) ?_
        exact sim_zret dX5_hasRoom_60 rfl rfl rfl
      · refine sim_iconst (v := 1) dX5_hasRoom_38 (by decide) ?_
        refine sim_goto (tgt := 60) dX5_hasRoom_39 (by decide) ?_
        exact sim_zret dX5_hasRoom_60 rfl rfl rfl
    · refine sim_aload_n dX5_hasRoom_46 rfl ?_
      refine sim_get (v := pR 5 0 2) dX5_hasRoom_47 fl_X5_13 (by decide) rfl ?_
      refine sim_iconst (v := 0) dX5_hasRoom_50 (by decide) ?_
      refine sim_iald dX5_hasRoom_51 rfl (by decide) ?_
      refine sim_if_le (tgt := 59) dX5_hasRoom_52 (by decide) ?_ ?_
      · refine sim_iconst (v := 0) dX5_hasRoom_59 (by decide) ?_
        exact sim_zret dX5_hasRoom_60 rfl rfl rfl
      · refine sim_iconst (v := 1) dX5_hasRoom_55 (by decide) ?_
        refine sim_goto (tgt := 60) dX5_hasRoom_56 (by decide) ?_
        exact sim_zret dX5_hasRoom_60 rfl rfl rfl

def jM_reads_217 (m15 : Mem) : Option Mem :=
  lt (if 2 < ((m15 (5, 0, 0) 7) - (m15 (5, 0, 0) 8)) then 0 else 1) (fun (x16 : Int32) => Option.bind (fM_requires x16 1 m15) (fun m17 => some m17))
def bM_reads_140 (s21 : Mem → Option Mem) (m20 : Mem) : Option Mem :=
  Option.bind (fM_byteAt (m20 (5, 0, 0) 7) m20) (fun x23 => Option.bind (fM_in x23.toInt64 (48 : Int64) (57 : Int64) m20) (fun x24 => if x24 = 0 then (jM_reads_217 m20) else (if 2 ≤ ((m20 (5, 0, 0) 7) - (m20 (5, 0, 0) 8)) then (lt (wr m20 (5, 0, 0) 10 (m20 (5, 0, 0) 10)) (fun m25 => lt (wr m25 (5, 0, 0) 7 ((m25 (5, 0, 0) 7) + 1)) (fun m26 => s21 m26))) else (Option.bind (fM_byteAt (m20 (5, 0, 0) 7) m20) (fun x27 => lt (wr m20 (5, 0, 0) 10 (((10 * (m20 (5, 0, 0) 10)) + x27) - 48)) (fun m28 => lt (wr m28 (5, 0, 0) 7 ((m28 (5, 0, 0) 7) + 1)) (fun m29 => s21 m29)))))))
def bM_reads_82 (s32 : Mem → Option Mem) (m31 : Mem) : Option Mem :=
  Option.bind (fM_byteAt (m31 (5, 0, 0) 7) m31) (fun x34 => Option.bind (fM_in x34.toInt64 (97 : Int64) (122 : Int64) m31) (fun x35 => if x35 = 0 then (some m31) else (lt (wr m31 (5, 0, 0) 7 ((m31 (5, 0, 0) 7) + 1)) (fun m36 => s32 m36))))
def jM_reads_34 (m2 : Mem) : Option Mem :=
  lt (wr m2 (5, 0, 0) 8 (m2 (5, 0, 0) 7)) (fun m3 => Option.bind (fM_byteAt (m3 (5, 0, 0) 7) m3) (fun x4 => lt x4 (fun (x5 : Int32) => if 0 ≤ x5 then (Option.bind (fM_in x5.toInt64 (97 : Int64) (122 : Int64) m3) (fun x6 => if x6 = 0 then (Option.bind (fM_in x5.toInt64 (48 : Int64) (57 : Int64) m3) (fun x7 => if x7 = 0 then (lt (wr m3 (5, 0, 0) 9 3) (fun m8 => lt (if x5 = 59 then 1 else 0) (fun (x9 : Int32) => Option.bind (fM_requires x9 1 m8) (fun m10 => lt (wr m10 (5, 0, 0) 7 ((m10 (5, 0, 0) 7) + 1)) (fun m11 => some m11))))) else (lt (wr m3 (5, 0, 0) 9 2) (fun m13 => lt (wr m13 (5, 0, 0) 10 0) (fun m14 => lz01 (bM_reads_140) FU m14))))) else (lt (wr m3 (5, 0, 0) 9 1) (fun m30 => lz01 (bM_reads_82) FU m30)))) else (lt (wr m3 (5, 0, 0) 9 0) (fun m37 => some m37)))))
def bM_reads_8 (s40 : Mem → Option Mem) (m39 : Mem) : Option Mem :=
  Option.bind (fM_byteAt (m39 (5, 0, 0) 7) m39) (fun x42 => if x42 = 32 then (lt (wr m39 (5, 0, 0) 7 ((m39 (5, 0, 0) 7) + 1)) (fun m43 => s40 m43)) else (jM_reads_34 m39))
def fM_reads (m1 : Mem) : Option Mem :=
  if (m1 (5, 0, 0) 11) ≤ 0 then (lz01 (bM_reads_8) FU m1) else (some m1)
abbrev rm_M_reads : Room := { frames := 1, cells := 0, slots := 0, locals := 25 }
set_option maxRecDepth 4000 in
theorem sM_reads (X : Sc) (m1 : Mem) : Sim X cX5_reads 2 none RX5 rm_M_reads (fun _ : Mem => 0) (fun m : Mem => m) 0 [(0, pR 5 0 0)] [] m1 (fM_reads m1) := by
  unfold fM_reads
  refine sim_aload_n dX5_reads_0 rfl ?_
  refine sim_get (v := pI (m1 (5, 0, 0) 11)) dX5_reads_1 fl_X5_63 (by decide) rfl ?_
  refine sim_if_le (tgt := 8) dX5_reads_4 (by decide) ?_ ?_
  · have hJ38 : ∀ (m2 : Mem), Sim X cX5_reads 2 none RX5 rm_M_reads (fun _ : Mem => 0) (fun m : Mem => m) 34 [(0, pR 5 0 0)] [] m2 (jM_reads_34 m2) := by
      intro m2
      unfold jM_reads_34
      refine sim_aload_n dX5_reads_34 rfl ?_
      refine sim_aload_n dX5_reads_35 rfl ?_
      refine sim_get (v := pI (m2 (5, 0, 0) 7)) dX5_reads_36 fl_X5_75 (by decide) rfl ?_
      refine sim_put dX5_reads_39 fl_X5_66 fp_5_8 rfl rfl (fun m3 => ?_)
      refine sim_aload_n dX5_reads_42 rfl ?_
      refine sim_aload_n dX5_reads_43 rfl ?_
      refine sim_get (v := pI (m3 (5, 0, 0) 7)) dX5_reads_44 fl_X5_75 (by decide) rfl ?_
      refine sim_callV (As := [pI (m3 (5, 0, 0) 7)]) (rest := []) (k0 := 0) dX5_reads_47 ln_X5_78 me_X5_byteAt rfl (by decide) rfl (by decide) (Nat.le_of_ble_eq_true rfl) (Nat.le_of_ble_eq_true rfl) rfl (sM_byteAt X (m3 (5, 0, 0) 7) m3) (fun x4 => ?_)
      refine sim_istore_n (fun z => [(0, pR 5 0 0), (1, pI z)]) [1, 0] dX5_reads_50 (by decide) (fun _ => rfl) (fun x5 => ?_)
      refine sim_iload_n dX5_reads_51 rfl ?_
      refine sim_if_ge (tgt := 63) dX5_reads_52 (by decide) ?_ ?_
      · refine sim_iload_n dX5_reads_63 rfl ?_
        refine sim_i2l dX5_reads_64 ?_
        refine sim_ldc2 (v := 97) dX5_reads_65 kl_X5_86 ?_
        refine sim_ldc2 (v := 122) dX5_reads_68 kl_X5_88 ?_
        refine sim_callS (As := [pL x5.toInt64, pL (97 : Int64), pL (122 : Int64)]) (rest := []) dX5_reads_71 ln_X5_55 me_X5_in rfl (by decide) (Nat.le_of_ble_eq_true rfl) (Nat.le_of_ble_eq_true rfl) rfl (sM_in X x5.toInt64 (97 : Int64) (122 : Int64) m3) (fun x6 => ?_)
        refine sim_if_eq (tgt := 116) dX5_reads_74 (by decide) ?_ ?_
        · refine sim_iload_n dX5_reads_116 rfl ?_
          refine sim_i2l dX5_reads_117 ?_
          refine sim_ldc2 (v := 48) dX5_reads_118 kl_X5_90 ?_
          refine sim_ldc2 (v := 57) dX5_reads_121 kl_X5_92 ?_
          refine sim_callS (As := [pL x5.toInt64, pL (48 : Int64), pL (57 : Int64)]) (rest := []) dX5_reads_124 ln_X5_55 me_X5_in rfl (by decide) (Nat.le_of_ble_eq_true rfl) (Nat.le_of_ble_eq_true rfl) rfl (sM_in X x5.toInt64 (48 : Int64) (57 : Int64) m3) (fun x7 => ?_)
          refine sim_if_eq (tgt := 243) dX5_reads_127 (by decide) ?_ ?_
          · refine sim_aload_n dX5_reads_243 rfl ?_
            refine sim_iconst (v := 3) dX5_reads_244 (by decide) ?_
            refine sim_put dX5_reads_245 fl_X5_72 fp_5_9 rfl rfl (fun m8 => ?_)
            refine sim_aload_n dX5_reads_248 rfl ?_
            refine sim_iload_n dX5_reads_249 rfl ?_
            refine sim_bipush (v := 59) dX5_reads_250 (by decide) ?_
            refine sim_jv 260 [(0, pR 5 0 0), (1, pI x5)] [pR 5 0 0] (fun x9 => ?_) (fun hV12 => ?_)
            · refine sim_iconst (v := 1) dX5_reads_260 (by decide) ?_
              refine sim_callV (As := [pI x9, pI 1]) (rest := []) (k0 := 0) dX5_reads_261 ln_X5_97 me_X5_requires rfl (by decide) rfl (by decide) (Nat.le_of_ble_eq_true rfl) (Nat.le_of_ble_eq_true rfl) rfl (sM_requires X x9 1 m8) (fun m10 => ?_)
              refine sim_aload_n dX5_reads_264 rfl ?_
              refine sim_dup dX5_reads_265 rfl ?_
              refine sim_get (v := pI (m10 (5, 0, 0) 7)) dX5_reads_266 fl_X5_75 (by decide) rfl ?_
              refine sim_iconst (v := 1) dX5_reads_269 (by decide) ?_
              refine sim_iadd dX5_reads_270 ?_
              refine sim_put dX5_reads_271 fl_X5_75 fp_5_7 rfl rfl (fun m11 => ?_)
              exact sim_ret dX5_reads_274 rfl
            · refine sim_eq (lt_ite _ _ _ _) ?_
              refine sim_icmp_ne (tgt := 259) dX5_reads_252 (by decide) ?_ ?_
              · refine sim_iconst (v := 1) dX5_reads_255 (by decide) ?_
                refine sim_goto (tgt := 260) dX5_reads_256 (by decide) ?_
                exact hV12 _
              · refine sim_iconst (v := 0) dX5_reads_259 (by decide) ?_
                exact hV12 _
          · refine sim_aload_n dX5_reads_130 rfl ?_
            refine sim_iconst (v := 2) dX5_reads_131 (by decide) ?_
            refine sim_put dX5_reads_132 fl_X5_72 fp_5_9 rfl rfl (fun m13 => ?_)
            refine sim_aload_n dX5_reads_135 rfl ?_
            refine sim_iconst (v := 0) dX5_reads_136 (by decide) ?_
            refine sim_put dX5_reads_137 fl_X5_94 fp_5_10 rfl rfl (fun m14 => ?_)
            have hJ19 : ∀ (m15 : Mem), Sim X cX5_reads 2 none RX5 rm_M_reads (fun _ : Mem => 0) (fun m : Mem => m) 217 [(0, pR 5 0 0), (1, pI x5)] [] m15 (jM_reads_217 m15) := by
              intro m15
              unfold jM_reads_217
              refine sim_aload_n dX5_reads_217 rfl ?_
              refine sim_aload_n dX5_reads_218 rfl ?_
              refine sim_get (v := pI (m15 (5, 0, 0) 7)) dX5_reads_219 fl_X5_75 (by decide) rfl ?_
              refine sim_aload_n dX5_reads_222 rfl ?_
              refine sim_get (v := pI (m15 (5, 0, 0) 8)) dX5_reads_223 fl_X5_66 (by decide) rfl ?_
              refine sim_isub dX5_reads_226 ?_
              refine sim_iconst (v := 2) dX5_reads_227 (by decide) ?_
              refine sim_jv 236 [(0, pR 5 0 0), (1, pI x5)] [pR 5 0 0] (fun x16 => ?_) (fun hV18 => ?_)
              · refine sim_iconst (v := 1) dX5_reads_236 (by decide) ?_
                refine sim_callV (As := [pI x16, pI 1]) (rest := []) (k0 := 0) dX5_reads_237 ln_X5_97 me_X5_requires rfl (by decide) rfl (by decide) (Nat.le_of_ble_eq_true rfl) (Nat.le_of_ble_eq_true rfl) rfl (sM_requires X x16 1 m15) (fun m17 => ?_)
                refine sim_goto (tgt := 274) dX5_reads_240 (by decide) ?_
                exact sim_ret dX5_reads_274 rfl
              · refine sim_eq (lt_ite _ _ _ _) ?_
                refine sim_icmp_gt (tgt := 235) dX5_reads_228 (by decide) ?_ ?_
                · refine sim_iconst (v := 0) dX5_reads_235 (by decide) ?_
                  exact hV18 _
                · refine sim_iconst (v := 1) dX5_reads_231 (by decide) ?_
                  refine sim_goto (tgt := 236) dX5_reads_232 (by decide) ?_
                  exact hV18 _
            refine sim_lz01 ([(0, pR 5 0 0), (1, pI x5)]) (fun s21 hs22 m20 => ?_) FU m14
            unfold bM_reads_140
            refine sim_aload_n dX5_reads_140 rfl ?_
            refine sim_aload_n dX5_reads_141 rfl ?_
            refine sim_get (v := pI (m20 (5, 0, 0) 7)) dX5_reads_142 fl_X5_75 (by decide) rfl ?_
            refine sim_callV (As := [pI (m20 (5, 0, 0) 7)]) (rest := []) (k0 := 0) dX5_reads_145 ln_X5_78 me_X5_byteAt rfl (by decide) rfl (by decide) (Nat.le_of_ble_eq_true rfl) (Nat.le_of_ble_eq_true rfl) rfl (sM_byteAt X (m20 (5, 0, 0) 7) m20) (fun x23 => ?_)
            refine sim_i2l dX5_reads_148 ?_
            refine sim_ldc2 (v := 48) dX5_reads_149 kl_X5_90 ?_
            refine sim_ldc2 (v := 57) dX5_reads_152 kl_X5_92 ?_
            refine sim_callS (As := [pL x23.toInt64, pL (48 : Int64), pL (57 : Int64)]) (rest := []) dX5_reads_155 ln_X5_55 me_X5_in rfl (by decide) (Nat.le_of_ble_eq_true rfl) (Nat.le_of_ble_eq_true rfl) rfl (sM_in X x23.toInt64 (48 : Int64) (57 : Int64) m20) (fun x24 => ?_)
            refine sim_if_eq (tgt := 217) dX5_reads_158 (by decide) ?_ ?_
            · exact hJ19 m20
            · refine sim_aload_n dX5_reads_161 rfl ?_
              refine sim_aload_n dX5_reads_162 rfl ?_
              refine sim_get (v := pI (m20 (5, 0, 0) 7)) dX5_reads_163 fl_X5_75 (by decide) rfl ?_
              refine sim_aload_n dX5_reads_166 rfl ?_
              refine sim_get (v := pI (m20 (5, 0, 0) 8)) dX5_reads_167 fl_X5_66 (by decide) rfl ?_
              refine sim_isub dX5_reads_170 ?_
              refine sim_iconst (v := 2) dX5_reads_171 (by decide) ?_
              refine sim_icmp_ge (tgt := 197) dX5_reads_172 (by decide) ?_ ?_
              · refine sim_aload_n dX5_reads_197 rfl ?_
                refine sim_get (v := pI (m20 (5, 0, 0) 10)) dX5_reads_198 fl_X5_94 (by decide) rfl ?_
                refine sim_put dX5_reads_201 fl_X5_94 fp_5_10 rfl rfl (fun m25 => ?_)
                refine sim_aload_n dX5_reads_204 rfl ?_
                refine sim_dup dX5_reads_205 rfl ?_
                refine sim_get (v := pI (m25 (5, 0, 0) 7)) dX5_reads_206 fl_X5_75 (by decide) rfl ?_
                refine sim_iconst (v := 1) dX5_reads_209 (by decide) ?_
                refine sim_iadd dX5_reads_210 ?_
                refine sim_put dX5_reads_211 fl_X5_75 fp_5_7 rfl rfl (fun m26 => ?_)
                refine sim_goto (tgt := 140) dX5_reads_214 (by decide) ?_
                exact hs22 m26
              · refine sim_bipush (v := 10) dX5_reads_175 (by decide) ?_
                refine sim_aload_n dX5_reads_177 rfl ?_
                refine sim_get (v := pI (m20 (5, 0, 0) 10)) dX5_reads_178 fl_X5_94 (by decide) rfl ?_
                refine sim_imul dX5_reads_181 ?_
                refine sim_aload_n dX5_reads_182 rfl ?_
                refine sim_aload_n dX5_reads_183 rfl ?_
                refine sim_get (v := pI (m20 (5, 0, 0) 7)) dX5_reads_184 fl_X5_75 (by decide) rfl ?_
                refine sim_callV (As := [pI (m20 (5, 0, 0) 7)]) (rest := [pI (10 * (m20 (5, 0, 0) 10)), pR 5 0 0]) (k0 := 0) dX5_reads_187 ln_X5_78 me_X5_byteAt rfl (by decide) rfl (by decide) (Nat.le_of_ble_eq_true rfl) (Nat.le_of_ble_eq_true rfl) rfl (sM_byteAt X (m20 (5, 0, 0) 7) m20) (fun x27 => ?_)
                refine sim_iadd dX5_reads_190 ?_
                refine sim_bipush (v := 48) dX5_reads_191 (by decide) ?_
                refine sim_isub dX5_reads_193 ?_
                refine sim_goto (tgt := 201) dX5_reads_194 (by decide) ?_
                refine sim_put dX5_reads_201 fl_X5_94 fp_5_10 rfl rfl (fun m28 => ?_)
                refine sim_aload_n dX5_reads_204 rfl ?_
                refine sim_dup dX5_reads_205 rfl ?_
                refine sim_get (v := pI (m28 (5, 0, 0) 7)) dX5_reads_206 fl_X5_75 (by decide) rfl ?_
                refine sim_iconst (v := 1) dX5_reads_209 (by decide) ?_
                refine sim_iadd dX5_reads_210 ?_
                refine sim_put dX5_reads_211 fl_X5_75 fp_5_7 rfl rfl (fun m29 => ?_)
                refine sim_goto (tgt := 140) dX5_reads_214 (by decide) ?_
                exact hs22 m29
        · refine sim_aload_n dX5_reads_77 rfl ?_
          refine sim_iconst (v := 1) dX5_reads_78 (by decide) ?_
          refine sim_put dX5_reads_79 fl_X5_72 fp_5_9 rfl rfl (fun m30 => ?_)
          refine sim_lz01 ([(0, pR 5 0 0), (1, pI x5)]) (fun s32 hs33 m31 => ?_) FU m30
          unfold bM_reads_82
          refine sim_aload_n dX5_reads_82 rfl ?_
          refine sim_aload_n dX5_reads_83 rfl ?_
          refine sim_get (v := pI (m31 (5, 0, 0) 7)) dX5_reads_84 fl_X5_75 (by decide) rfl ?_
          refine sim_callV (As := [pI (m31 (5, 0, 0) 7)]) (rest := []) (k0 := 0) dX5_reads_87 ln_X5_78 me_X5_byteAt rfl (by decide) rfl (by decide) (Nat.le_of_ble_eq_true rfl) (Nat.le_of_ble_eq_true rfl) rfl (sM_byteAt X (m31 (5, 0, 0) 7) m31) (fun x34 => ?_)
          refine sim_i2l dX5_reads_90 ?_
          refine sim_ldc2 (v := 97) dX5_reads_91 kl_X5_86 ?_
          refine sim_ldc2 (v := 122) dX5_reads_94 kl_X5_88 ?_
          refine sim_callS (As := [pL x34.toInt64, pL (97 : Int64), pL (122 : Int64)]) (rest := []) dX5_reads_97 ln_X5_55 me_X5_in rfl (by decide) (Nat.le_of_ble_eq_true rfl) (Nat.le_of_ble_eq_true rfl) rfl (sM_in X x34.toInt64 (97 : Int64) (122 : Int64) m31) (fun x35 => ?_)
          refine sim_if_eq (tgt := 274) dX5_reads_100 (by decide) ?_ ?_
          · exact sim_ret dX5_reads_274 rfl
          · refine sim_aload_n dX5_reads_103 rfl ?_
            refine sim_dup dX5_reads_104 rfl ?_
            refine sim_get (v := pI (m31 (5, 0, 0) 7)) dX5_reads_105 fl_X5_75 (by decide) rfl ?_
            refine sim_iconst (v := 1) dX5_reads_108 (by decide) ?_
            refine sim_iadd dX5_reads_109 ?_
            refine sim_put dX5_reads_110 fl_X5_75 fp_5_7 rfl rfl (fun m36 => ?_)
            refine sim_goto (tgt := 82) dX5_reads_113 (by decide) ?_
            exact hs33 m36
      · refine sim_aload_n dX5_reads_55 rfl ?_
        refine sim_iconst (v := 0) dX5_reads_56 (by decide) ?_
        refine sim_put dX5_reads_57 fl_X5_72 fp_5_9 rfl rfl (fun m37 => ?_)
        refine sim_goto (tgt := 274) dX5_reads_60 (by decide) ?_
        exact sim_ret dX5_reads_274 rfl
    refine sim_lz01 ([(0, pR 5 0 0)]) (fun s40 hs41 m39 => ?_) FU m1
    unfold bM_reads_8
    refine sim_aload_n dX5_reads_8 rfl ?_
    refine sim_aload_n dX5_reads_9 rfl ?_
    refine sim_get (v := pI (m39 (5, 0, 0) 7)) dX5_reads_10 fl_X5_75 (by decide) rfl ?_
    refine sim_callV (As := [pI (m39 (5, 0, 0) 7)]) (rest := []) (k0 := 0) dX5_reads_13 ln_X5_78 me_X5_byteAt rfl (by decide) rfl (by decide) (Nat.le_of_ble_eq_true rfl) (Nat.le_of_ble_eq_true rfl) rfl (sM_byteAt X (m39 (5, 0, 0) 7) m39) (fun x42 => ?_)
    refine sim_bipush (v := 32) dX5_reads_16 (by decide) ?_
    refine sim_icmp_ne (tgt := 34) dX5_reads_18 (by decide) ?_ ?_
    · refine sim_aload_n dX5_reads_21 rfl ?_
      refine sim_dup dX5_reads_22 rfl ?_
      refine sim_get (v := pI (m39 (5, 0, 0) 7)) dX5_reads_23 fl_X5_75 (by decide) rfl ?_
      refine sim_iconst (v := 1) dX5_reads_26 (by decide) ?_
      refine sim_iadd dX5_reads_27 ?_
      refine sim_put dX5_reads_28 fl_X5_75 fp_5_7 rfl rfl (fun m43 => ?_)
      refine sim_goto (tgt := 8) dX5_reads_31 (by decide) ?_
      exact hs41 m43
    · exact hJ38 m39
  · exact sim_ret dX5_reads_7 rfl

def jM_readNumber_74 (m7 : Mem) : Option (Int32 × Mem) :=
  lt (if (m7 (5, 0, 0) 11) = 0 then (m7 (5, 0, 0) 10) else 0) (fun (x8 : Int32) => lt x8 (fun (x9 : Int32) => Option.bind (fM_reads m7) (fun m10 => some (x9, m10))))
def jM_readNumber_49 (x3 : Int32) (m6 : Mem) : Option (Int32 × Mem) :=
  if (m6 (5, 0, 0) 11) = 0 then (lt (if (m6 (5, 0, 0) 10) = x3 then 0 else 1) (fun (x13 : Int32) => Option.bind (fM_requires x13 4 m6) (fun m14 => jM_readNumber_74 m14))) else (jM_readNumber_74 m6)
def jM_readNumber_25 (x1 : Int32) (x2 : Int32) (x3 : Int32) (m5 : Mem) : Option (Int32 × Mem) :=
  if (m5 (5, 0, 0) 11) = 0 then (Option.bind (fM_in ((m5 (5, 0, 0) 10).toInt64) x1.toInt64 x2.toInt64 m5) (fun x17 => Option.bind (fM_requires x17 3 m5) (fun m18 => jM_readNumber_49 x3 m18))) else (jM_readNumber_49 x3 m5)
def fM_readNumber (x1 : Int32) (x2 : Int32) (x3 : Int32) (m4 : Mem) : Option (Int32 × Mem) :=
  if (m4 (5, 0, 0) 11) = 0 then (lt (if (m4 (5, 0, 0) 9) = 2 then 1 else 0) (fun (x20 : Int32) => Option.bind (fM_requires x20 2 m4) (fun m21 => jM_readNumber_25 x1 x2 x3 m21))) else (jM_readNumber_25 x1 x2 x3 m4)
abbrev rm_M_readNumber : Room := { frames := 2, cells := 0, slots := 0, locals := 46 }
set_option maxRecDepth 4000 in
theorem sM_readNumber (X : Sc) (x1 : Int32) (x2 : Int32) (x3 : Int32) (m4 : Mem) : Sim X cX5_readNumber 5 (some .int) RX5 rm_M_readNumber (fun q : Int32 × Mem => q.1) (fun q : Int32 × Mem => q.2) 0 [(0, pR 5 0 0), (1, pI x1), (2, pI x2), (3, pI x3)] [] m4 (fM_readNumber x1 x2 x3 m4) := by
  unfold fM_readNumber
  refine sim_aload_n dX5_readNumber_0 rfl ?_
  refine sim_get (v := pI (m4 (5, 0, 0) 11)) dX5_readNumber_1 fl_X5_63 (by decide) rfl ?_
  have hJ19 : ∀ (m5 : Mem), Sim X cX5_readNumber 5 (some .int) RX5 rm_M_readNumber (fun q : Int32 × Mem => q.1) (fun q : Int32 × Mem => q.2) 25 [(0, pR 5 0 0), (1, pI x1), (2, pI x2), (3, pI x3)] [] m5 (jM_readNumber_25 x1 x2 x3 m5) := by
    intro m5
    unfold jM_readNumber_25
    refine sim_aload_n dX5_readNumber_25 rfl ?_
    refine sim_get (v := pI (m5 (5, 0, 0) 11)) dX5_readNumber_26 fl_X5_63 (by decide) rfl ?_
    have hJ16 : ∀ (m6 : Mem), Sim X cX5_readNumber 5 (some .int) RX5 rm_M_readNumber (fun q : Int32 × Mem => q.1) (fun q : Int32 × Mem => q.2) 49 [(0, pR 5 0 0), (1, pI x1), (2, pI x2), (3, pI x3)] [] m6 (jM_readNumber_49 x3 m6) := by
      intro m6
      unfold jM_readNumber_49
      refine sim_aload_n dX5_readNumber_49 rfl ?_
      refine sim_get (v := pI (m6 (5, 0, 0) 11)) dX5_readNumber_50 fl_X5_63 (by decide) rfl ?_
      have hJ12 : ∀ (m7 : Mem), Sim X cX5_readNumber 5 (some .int) RX5 rm_M_readNumber (fun q : Int32 × Mem => q.1) (fun q : Int32 × Mem => q.2) 74 [(0, pR 5 0 0), (1, pI x1), (2, pI x2), (3, pI x3)] [] m7 (jM_readNumber_74 m7) := by
        intro m7
        unfold jM_readNumber_74
        refine sim_aload_n dX5_readNumber_74 rfl ?_
        refine sim_get (v := pI (m7 (5, 0, 0) 11)) dX5_readNumber_75 fl_X5_63 (by decide) rfl ?_
        refine sim_jv 89 [(0, pR 5 0 0), (1, pI x1), (2, pI x2), (3, pI x3)] [] (fun x8 => ?_) (fun hV11 => ?_)
        · refine sim_istore (fun z => [(0, pR 5 0 0), (1, pI x1), (2, pI x2), (3, pI x3), (4, pI z)]) [1, 2, 3, 4, 0] dX5_readNumber_89 (by decide) (fun _ => rfl) (fun x9 => ?_)
          refine sim_aload_n dX5_readNumber_91 rfl ?_
          refine sim_callV (As := []) (rest := []) (k0 := 0) dX5_readNumber_92 ln_X5_101 me_X5_reads rfl (by decide) rfl (by decide) (Nat.le_of_ble_eq_true rfl) (Nat.le_of_ble_eq_true rfl) rfl (sM_reads X m7) (fun m10 => ?_)
          refine sim_iload dX5_readNumber_95 rfl ?_
          exact sim_iret dX5_readNumber_97 rfl rfl
        · refine sim_eq (lt_ite _ _ _ _) ?_
          refine sim_if_ne (tgt := 88) dX5_readNumber_78 (by decide) ?_ ?_
          · refine sim_aload_n dX5_readNumber_81 rfl ?_
            refine sim_get (v := pI (m7 (5, 0, 0) 10)) dX5_readNumber_82 fl_X5_94 (by decide) rfl ?_
            refine sim_goto (tgt := 89) dX5_readNumber_85 (by decide) ?_
            exact hV11 _
          · refine sim_iconst (v := 0) dX5_readNumber_88 (by decide) ?_
            exact hV11 _
      refine sim_if_ne (tgt := 74) dX5_readNumber_53 (by decide) ?_ ?_
      · refine sim_aload_n dX5_readNumber_56 rfl ?_
        refine sim_aload_n dX5_readNumber_57 rfl ?_
        refine sim_get (v := pI (m6 (5, 0, 0) 10)) dX5_readNumber_58 fl_X5_94 (by decide) rfl ?_
        refine sim_iload_n dX5_readNumber_61 rfl ?_
        refine sim_jv 70 [(0, pR 5 0 0), (1, pI x1), (2, pI x2), (3, pI x3)] [pR 5 0 0] (fun x13 => ?_) (fun hV15 => ?_)
        · refine sim_iconst (v := 4) dX5_readNumber_70 (by decide) ?_
          refine sim_callV (As := [pI x13, pI 4]) (rest := []) (k0 := 0) dX5_readNumber_71 ln_X5_97 me_X5_requires rfl (by decide) rfl (by decide) (Nat.le_of_ble_eq_true rfl) (Nat.le_of_ble_eq_true rfl) rfl (sM_requires X x13 4 m6) (fun m14 => ?_)
          exact hJ12 m14
        · refine sim_eq (lt_ite _ _ _ _) ?_
          refine sim_icmp_eq (tgt := 69) dX5_readNumber_62 (by decide) ?_ ?_
          · refine sim_iconst (v := 0) dX5_readNumber_69 (by decide) ?_
            exact hV15 _
          · refine sim_iconst (v := 1) dX5_readNumber_65 (by decide) ?_
            refine sim_goto (tgt := 70) dX5_readNumber_66 (by decide) ?_
            exact hV15 _
      · exact hJ12 m6
    refine sim_if_ne (tgt := 49) dX5_readNumber_29 (by decide) ?_ ?_
    · refine sim_aload_n dX5_readNumber_32 rfl ?_
      refine sim_aload_n dX5_readNumber_33 rfl ?_
      refine sim_get (v := pI (m5 (5, 0, 0) 10)) dX5_readNumber_34 fl_X5_94 (by decide) rfl ?_
      refine sim_i2l dX5_readNumber_37 ?_
      refine sim_iload_n dX5_readNumber_38 rfl ?_
      refine sim_i2l dX5_readNumber_39 ?_
      refine sim_iload_n dX5_readNumber_40 rfl ?_
      refine sim_i2l dX5_readNumber_41 ?_
      refine sim_callS (As := [pL ((m5 (5, 0, 0) 10).toInt64), pL x1.toInt64, pL x2.toInt64]) (rest := [pR 5 0 0]) dX5_readNumber_42 ln_X5_55 me_X5_in rfl (by decide) (Nat.le_of_ble_eq_true rfl) (Nat.le_of_ble_eq_true rfl) rfl (sM_in X ((m5 (5, 0, 0) 10).toInt64) x1.toInt64 x2.toInt64 m5) (fun x17 => ?_)
      refine sim_iconst (v := 3) dX5_readNumber_45 (by decide) ?_
      refine sim_callV (As := [pI x17, pI 3]) (rest := []) (k0 := 0) dX5_readNumber_46 ln_X5_97 me_X5_requires rfl (by decide) rfl (by decide) (Nat.le_of_ble_eq_true rfl) (Nat.le_of_ble_eq_true rfl) rfl (sM_requires X x17 3 m5) (fun m18 => ?_)
      exact hJ16 m18
    · exact hJ16 m5
  refine sim_if_ne (tgt := 25) dX5_readNumber_4 (by decide) ?_ ?_
  · refine sim_aload_n dX5_readNumber_7 rfl ?_
    refine sim_aload_n dX5_readNumber_8 rfl ?_
    refine sim_get (v := pI (m4 (5, 0, 0) 9)) dX5_readNumber_9 fl_X5_72 (by decide) rfl ?_
    refine sim_iconst (v := 2) dX5_readNumber_12 (by decide) ?_
    refine sim_jv 21 [(0, pR 5 0 0), (1, pI x1), (2, pI x2), (3, pI x3)] [pR 5 0 0] (fun x20 => ?_) (fun hV22 => ?_)
    · refine sim_iconst (v := 2) dX5_readNumber_21 (by decide) ?_
      refine sim_callV (As := [pI x20, pI 2]) (rest := []) (k0 := 0) dX5_readNumber_22 ln_X5_97 me_X5_requires rfl (by decide) rfl (by decide) (Nat.le_of_ble_eq_true rfl) (Nat.le_of_ble_eq_true rfl) rfl (sM_requires X x20 2 m4) (fun m21 => ?_)
      exact hJ19 m21
    · refine sim_eq (lt_ite _ _ _ _) ?_
      refine sim_icmp_ne (tgt := 20) dX5_readNumber_13 (by decide) ?_ ?_
      · refine sim_iconst (v := 1) dX5_readNumber_16 (by decide) ?_
        refine sim_goto (tgt := 21) dX5_readNumber_17 (by decide) ?_
        exact hV22 _
      · refine sim_iconst (v := 0) dX5_readNumber_20 (by decide) ?_
        exact hV22 _
  · exact hJ19 m4

def jM_readPlace_114 (m7 : Mem) : Option Mem :=
  gd (inb 0 238) (gd (inb 0 238) (lt (wr m7 (5, 0, 2) (ix 0) ((m7 (5, 0, 2) (ix 0)) + 1)) (fun m8 => some m8)))
def bM_readPlace_46 (x2 : Int32) (s11 : Mem → Option Mem) (m10 : Mem) : Option Mem :=
  if (m10 (5, 0, 0) 11) = 0 then (if (m10 (5, 0, 0) 9) = 2 then (gd (inb (x2 + 0) 238) (if 3 ≤ (m10 (5, 0, 2) (ix (x2 + 0))) then (jM_readPlace_114 m10) else (gd (inb (x2 + 0) 238) (Option.bind (fM_readNumber 1 20 (-4) m10) (fun q13 => gd (inb ((x2 + 1) + (m10 (5, 0, 2) (ix (x2 + 0)))) 238) (lt (wr q13.2 (5, 0, 2) (ix ((x2 + 1) + (m10 (5, 0, 2) (ix (x2 + 0))))) q13.1) (fun m14 => gd (inb (x2 + 0) 238) (gd (inb (x2 + 0) 238) (lt (wr m14 (5, 0, 2) (ix (x2 + 0)) ((m14 (5, 0, 2) (ix (x2 + 0))) + 1)) (fun m15 => s11 m15)))))))))) else (jM_readPlace_114 m10)) else (jM_readPlace_114 m10)
def fM_readPlace (m1 : Mem) : Option Mem :=
  gd (inb 0 238) (lt (4 + (5 * (m1 (5, 0, 2) (ix 0)))) (fun (x2 : Int32) => Option.bind (fM_readNumber 1 20 (-4) m1) (fun q3 => gd (inb (x2 + 1) 238) (lt (wr q3.2 (5, 0, 2) (ix (x2 + 1)) q3.1) (fun m4 => gd (inb (x2 + 0) 238) (lt (wr m4 (5, 0, 2) (ix (x2 + 0)) 1) (fun m5 => gd (inb (x2 + 4) 238) (lt (wr m5 (5, 0, 2) (ix (x2 + 4)) 1) (fun m6 => lz01 (bM_readPlace_46 x2) FU m6)))))))))
abbrev rm_M_readPlace : Room := { frames := 3, cells := 0, slots := 0, locals := 70 }
set_option maxRecDepth 4000 in
theorem sM_readPlace (X : Sc) (m1 : Mem) : Sim X cX5_readPlace 2 none RX5 rm_M_readPlace (fun _ : Mem => 0) (fun m : Mem => m) 0 [(0, pR 5 0 0)] [] m1 (fM_readPlace m1) := by
  unfold fM_readPlace
  refine sim_iconst (v := 4) dX5_readPlace_0 (by decide) ?_
  refine sim_iconst (v := 5) dX5_readPlace_1 (by decide) ?_
  refine sim_aload_n dX5_readPlace_2 rfl ?_
  refine sim_get (v := pR 5 0 2) dX5_readPlace_3 fl_X5_13 (by decide) rfl ?_
  refine sim_iconst (v := 0) dX5_readPlace_6 (by decide) ?_
  refine sim_iald dX5_readPlace_7 rfl (by decide) ?_
  refine sim_imul dX5_readPlace_8 ?_
  refine sim_iadd dX5_readPlace_9 ?_
  refine sim_istore_n (fun z => [(0, pR 5 0 0), (1, pI z)]) [1, 0] dX5_readPlace_10 (by decide) (fun _ => rfl) (fun x2 => ?_)
  refine sim_aload_n dX5_readPlace_11 rfl ?_
  refine sim_get (v := pR 5 0 2) dX5_readPlace_12 fl_X5_13 (by decide) rfl ?_
  refine sim_iload_n dX5_readPlace_15 rfl ?_
  refine sim_iconst (v := 1) dX5_readPlace_16 (by decide) ?_
  refine sim_iadd dX5_readPlace_17 ?_
  refine sim_aload_n dX5_readPlace_18 rfl ?_
  refine sim_iconst (v := 1) dX5_readPlace_19 (by decide) ?_
  refine sim_bipush (v := 20) dX5_readPlace_20 (by decide) ?_
  refine sim_bipush (v := (-4)) dX5_readPlace_22 (by decide) ?_
  refine sim_callV (As := [pI 1, pI 20, pI (-4)]) (rest := [pI (x2 + 1), pR 5 0 2]) (k0 := 0) dX5_readPlace_24 ln_X5_104 me_X5_readNumber rfl (by decide) rfl (by decide) (Nat.le_of_ble_eq_true rfl) (Nat.le_of_ble_eq_true rfl) rfl (sM_readNumber X 1 20 (-4) m1) (fun q3 => ?_)
  refine sim_iast dX5_readPlace_27 rfl (by decide) (fun m4 => ?_)
  refine sim_aload_n dX5_readPlace_28 rfl ?_
  refine sim_get (v := pR 5 0 2) dX5_readPlace_29 fl_X5_13 (by decide) rfl ?_
  refine sim_iload_n dX5_readPlace_32 rfl ?_
  refine sim_iconst (v := 0) dX5_readPlace_33 (by decide) ?_
  refine sim_iadd dX5_readPlace_34 ?_
  refine sim_iconst (v := 1) dX5_readPlace_35 (by decide) ?_
  refine sim_iast dX5_readPlace_36 rfl (by decide) (fun m5 => ?_)
  refine sim_aload_n dX5_readPlace_37 rfl ?_
  refine sim_get (v := pR 5 0 2) dX5_readPlace_38 fl_X5_13 (by decide) rfl ?_
  refine sim_iload_n dX5_readPlace_41 rfl ?_
  refine sim_iconst (v := 4) dX5_readPlace_42 (by decide) ?_
  refine sim_iadd dX5_readPlace_43 ?_
  refine sim_iconst (v := 1) dX5_readPlace_44 (by decide) ?_
  refine sim_iast dX5_readPlace_45 rfl (by decide) (fun m6 => ?_)
  have hJ9 : ∀ (m7 : Mem), Sim X cX5_readPlace 2 none RX5 rm_M_readPlace (fun _ : Mem => 0) (fun m : Mem => m) 114 [(0, pR 5 0 0), (1, pI x2)] [] m7 (jM_readPlace_114 m7) := by
    intro m7
    unfold jM_readPlace_114
    refine sim_aload_n dX5_readPlace_114 rfl ?_
    refine sim_get (v := pR 5 0 2) dX5_readPlace_115 fl_X5_13 (by decide) rfl ?_
    refine sim_iconst (v := 0) dX5_readPlace_118 (by decide) ?_
    refine sim_dup2 dX5_readPlace_119 rfl rfl ?_
    refine sim_iald dX5_readPlace_120 rfl (by decide) ?_
    refine sim_iconst (v := 1) dX5_readPlace_121 (by decide) ?_
    refine sim_iadd dX5_readPlace_122 ?_
    refine sim_iast dX5_readPlace_123 rfl (by decide) (fun m8 => ?_)
    exact sim_ret dX5_readPlace_124 rfl
  refine sim_lz01 ([(0, pR 5 0 0), (1, pI x2)]) (fun s11 hs12 m10 => ?_) FU m6
  unfold bM_readPlace_46
  refine sim_aload_n dX5_readPlace_46 rfl ?_
  refine sim_get (v := pI (m10 (5, 0, 0) 11)) dX5_readPlace_47 fl_X5_63 (by decide) rfl ?_
  refine sim_if_ne (tgt := 114) dX5_readPlace_50 (by decide) ?_ ?_
  · refine sim_aload_n dX5_readPlace_53 rfl ?_
    refine sim_get (v := pI (m10 (5, 0, 0) 9)) dX5_readPlace_54 fl_X5_72 (by decide) rfl ?_
    refine sim_iconst (v := 2) dX5_readPlace_57 (by decide) ?_
    refine sim_icmp_ne (tgt := 114) dX5_readPlace_58 (by decide) ?_ ?_
    · refine sim_aload_n dX5_readPlace_61 rfl ?_
      refine sim_get (v := pR 5 0 2) dX5_readPlace_62 fl_X5_13 (by decide) rfl ?_
      refine sim_iload_n dX5_readPlace_65 rfl ?_
      refine sim_iconst (v := 0) dX5_readPlace_66 (by decide) ?_
      refine sim_iadd dX5_readPlace_67 ?_
      refine sim_iald dX5_readPlace_68 rfl (by decide) ?_
      refine sim_iconst (v := 3) dX5_readPlace_69 (by decide) ?_
      refine sim_icmp_ge (tgt := 114) dX5_readPlace_70 (by decide) ?_ ?_
      · exact hJ9 m10
      · refine sim_aload_n dX5_readPlace_73 rfl ?_
        refine sim_get (v := pR 5 0 2) dX5_readPlace_74 fl_X5_13 (by decide) rfl ?_
        refine sim_iload_n dX5_readPlace_77 rfl ?_
        refine sim_iconst (v := 1) dX5_readPlace_78 (by decide) ?_
        refine sim_iadd dX5_readPlace_79 ?_
        refine sim_aload_n dX5_readPlace_80 rfl ?_
        refine sim_get (v := pR 5 0 2) dX5_readPlace_81 fl_X5_13 (by decide) rfl ?_
        refine sim_iload_n dX5_readPlace_84 rfl ?_
        refine sim_iconst (v := 0) dX5_readPlace_85 (by decide) ?_
        refine sim_iadd dX5_readPlace_86 ?_
        refine sim_iald dX5_readPlace_87 rfl (by decide) ?_
        refine sim_iadd dX5_readPlace_88 ?_
        refine sim_aload_n dX5_readPlace_89 rfl ?_
        refine sim_iconst (v := 1) dX5_readPlace_90 (by decide) ?_
        refine sim_bipush (v := 20) dX5_readPlace_91 (by decide) ?_
        refine sim_bipush (v := (-4)) dX5_readPlace_93 (by decide) ?_
        refine sim_callV (As := [pI 1, pI 20, pI (-4)]) (rest := [pI ((x2 + 1) + (m10 (5, 0, 2) (ix (x2 + 0)))), pR 5 0 2]) (k0 := 0) dX5_readPlace_95 ln_X5_104 me_X5_readNumber rfl (by decide) rfl (by decide) (Nat.le_of_ble_eq_true rfl) (Nat.le_of_ble_eq_true rfl) rfl (sM_readNumber X 1 20 (-4) m10) (fun q13 => ?_)
        refine sim_iast dX5_readPlace_98 rfl (by decide) (fun m14 => ?_)
        refine sim_aload_n dX5_readPlace_99 rfl ?_
        refine sim_get (v := pR 5 0 2) dX5_readPlace_100 fl_X5_13 (by decide) rfl ?_
        refine sim_iload_n dX5_readPlace_103 rfl ?_
        refine sim_iconst (v := 0) dX5_readPlace_104 (by decide) ?_
        refine sim_iadd dX5_readPlace_105 ?_
        refine sim_dup2 dX5_readPlace_106 rfl rfl ?_
        refine sim_iald dX5_readPlace_107 rfl (by decide) ?_
        refine sim_iconst (v := 1) dX5_readPlace_108 (by decide) ?_
        refine sim_iadd dX5_readPlace_109 ?_
        refine sim_iast dX5_readPlace_110 rfl (by decide) (fun m15 => ?_)
        refine sim_goto (tgt := 46) dX5_readPlace_111 (by decide) ?_
        exact hs12 m15
    · exact hJ9 m10
  · exact hJ9 m10

def fM_readTrain (m1 : Mem) : Option Mem :=
  gd (inb 1 238) (lt (34 + (6 * (m1 (5, 0, 2) (ix 1)))) (fun (x2 : Int32) => Option.bind (fM_readNumber 0 5 (-4) m1) (fun q3 => gd (inb (x2 + 0) 238) (lt (wr q3.2 (5, 0, 2) (ix (x2 + 0)) q3.1) (fun m4 => gd (inb (x2 + 0) 238) (Option.bind (fM_readNumber 0 5 (m4 (5, 0, 2) (ix (x2 + 0))) m4) (fun q5 => gd (inb (x2 + 1) 238) (lt (wr q5.2 (5, 0, 2) (ix (x2 + 1)) q5.1) (fun m6 => Option.bind (fM_readNumber 1 20 (-4) m6) (fun q7 => gd (inb (x2 + 2) 238) (lt (wr q7.2 (5, 0, 2) (ix (x2 + 2)) q7.1) (fun m8 => gd (inb (x2 + 0) 238) (gd (inb (x2 + 3) 238) (lt (wr m8 (5, 0, 2) (ix (x2 + 3)) (m8 (5, 0, 2) (ix (x2 + 0)))) (fun m9 => gd (inb (x2 + 4) 238) (lt (wr m9 (5, 0, 2) (ix (x2 + 4)) 0) (fun m10 => gd (inb (x2 + 5) 238) (lt (wr m10 (5, 0, 2) (ix (x2 + 5)) (-4)) (fun m11 => gd (inb 1 238) (gd (inb 1 238) (lt (wr m11 (5, 0, 2) (ix 1) ((m11 (5, 0, 2) (ix 1)) + 1)) (fun m12 => some m12))))))))))))))))))))))
abbrev rm_M_readTrain : Room := { frames := 3, cells := 0, slots := 0, locals := 70 }
set_option maxRecDepth 4000 in
theorem sM_readTrain (X : Sc) (m1 : Mem) : Sim X cX5_readTrain 2 none RX5 rm_M_readTrain (fun _ : Mem => 0) (fun m : Mem => m) 0 [(0, pR 5 0 0)] [] m1 (fM_readTrain m1) := by
  unfold fM_readTrain
  refine sim_bipush (v := 34) dX5_readTrain_0 (by decide) ?_
  refine sim_bipush (v := 6) dX5_readTrain_2 (by decide) ?_
  refine sim_aload_n dX5_readTrain_4 rfl ?_
  refine sim_get (v := pR 5 0 2) dX5_readTrain_5 fl_X5_13 (by decide) rfl ?_
  refine sim_iconst (v := 1) dX5_readTrain_8 (by decide) ?_
  refine sim_iald dX5_readTrain_9 rfl (by decide) ?_
  refine sim_imul dX5_readTrain_10 ?_
  refine sim_iadd dX5_readTrain_11 ?_
  refine sim_istore_n (fun z => [(0, pR 5 0 0), (1, pI z)]) [1, 0] dX5_readTrain_12 (by decide) (fun _ => rfl) (fun x2 => ?_)
  refine sim_aload_n dX5_readTrain_13 rfl ?_
  refine sim_get (v := pR 5 0 2) dX5_readTrain_14 fl_X5_13 (by decide) rfl ?_
  refine sim_iload_n dX5_readTrain_17 rfl ?_
  refine sim_iconst (v := 0) dX5_readTrain_18 (by decide) ?_
  refine sim_iadd dX5_readTrain_19 ?_
  refine sim_aload_n dX5_readTrain_20 rfl ?_
  refine sim_iconst (v := 0) dX5_readTrain_21 (by decide) ?_
  refine sim_iconst (v := 5) dX5_readTrain_22 (by decide) ?_
  refine sim_bipush (v := (-4)) dX5_readTrain_23 (by decide) ?_
  refine sim_callV (As := [pI 0, pI 5, pI (-4)]) (rest := [pI (x2 + 0), pR 5 0 2]) (k0 := 0) dX5_readTrain_25 ln_X5_104 me_X5_readNumber rfl (by decide) rfl (by decide) (Nat.le_of_ble_eq_true rfl) (Nat.le_of_ble_eq_true rfl) rfl (sM_readNumber X 0 5 (-4) m1) (fun q3 => ?_)
  refine sim_iast dX5_readTrain_28 rfl (by decide) (fun m4 => ?_)
  refine sim_aload_n dX5_readTrain_29 rfl ?_
  refine sim_get (v := pR 5 0 2) dX5_readTrain_30 fl_X5_13 (by decide) rfl ?_
  refine sim_iload_n dX5_readTrain_33 rfl ?_
  refine sim_iconst (v := 1) dX5_readTrain_34 (by decide) ?_
  refine sim_iadd dX5_readTrain_35 ?_
  refine sim_aload_n dX5_readTrain_36 rfl ?_
  refine sim_iconst (v := 0) dX5_readTrain_37 (by decide) ?_
  refine sim_iconst (v := 5) dX5_readTrain_38 (by decide) ?_
  refine sim_aload_n dX5_readTrain_39 rfl ?_
  refine sim_get (v := pR 5 0 2) dX5_readTrain_40 fl_X5_13 (by decide) rfl ?_
  refine sim_iload_n dX5_readTrain_43 rfl ?_
  refine sim_iconst (v := 0) dX5_readTrain_44 (by decide) ?_
  refine sim_iadd dX5_readTrain_45 ?_
  refine sim_iald dX5_readTrain_46 rfl (by decide) ?_
  refine sim_callV (As := [pI 0, pI 5, pI (m4 (5, 0, 2) (ix (x2 + 0)))]) (rest := [pI (x2 + 1), pR 5 0 2]) (k0 := 0) dX5_readTrain_47 ln_X5_104 me_X5_readNumber rfl (by decide) rfl (by decide) (Nat.le_of_ble_eq_true rfl) (Nat.le_of_ble_eq_true rfl) rfl (sM_readNumber X 0 5 (m4 (5, 0, 2) (ix (x2 + 0))) m4) (fun q5 => ?_)
  refine sim_iast dX5_readTrain_50 rfl (by decide) (fun m6 => ?_)
  refine sim_aload_n dX5_readTrain_51 rfl ?_
  refine sim_get (v := pR 5 0 2) dX5_readTrain_52 fl_X5_13 (by decide) rfl ?_
  refine sim_iload_n dX5_readTrain_55 rfl ?_
  refine sim_iconst (v := 2) dX5_readTrain_56 (by decide) ?_
  refine sim_iadd dX5_readTrain_57 ?_
  refine sim_aload_n dX5_readTrain_58 rfl ?_
  refine sim_iconst (v := 1) dX5_readTrain_59 (by decide) ?_
  refine sim_bipush (v := 20) dX5_readTrain_60 (by decide) ?_
  refine sim_bipush (v := (-4)) dX5_readTrain_62 (by decide) ?_
  refine sim_callV (As := [pI 1, pI 20, pI (-4)]) (rest := [pI (x2 + 2), pR 5 0 2]) (k0 := 0) dX5_readTrain_64 ln_X5_104 me_X5_readNumber rfl (by decide) rfl (by decide) (Nat.le_of_ble_eq_true rfl) (Nat.le_of_ble_eq_true rfl) rfl (sM_readNumber X 1 20 (-4) m6) (fun q7 => ?_)
  refine sim_iast dX5_readTrain_67 rfl (by decide) (fun m8 => ?_)
  refine sim_aload_n dX5_readTrain_68 rfl ?_
  refine sim_get (v := pR 5 0 2) dX5_readTrain_69 fl_X5_13 (by decide) rfl ?_
  refine sim_iload_n dX5_readTrain_72 rfl ?_
  refine sim_iconst (v := 3) dX5_readTrain_73 (by decide) ?_
  refine sim_iadd dX5_readTrain_74 ?_
  refine sim_aload_n dX5_readTrain_75 rfl ?_
  refine sim_get (v := pR 5 0 2) dX5_readTrain_76 fl_X5_13 (by decide) rfl ?_
  refine sim_iload_n dX5_readTrain_79 rfl ?_
  refine sim_iconst (v := 0) dX5_readTrain_80 (by decide) ?_
  refine sim_iadd dX5_readTrain_81 ?_
  refine sim_iald dX5_readTrain_82 rfl (by decide) ?_
  refine sim_iast dX5_readTrain_83 rfl (by decide) (fun m9 => ?_)
  refine sim_aload_n dX5_readTrain_84 rfl ?_
  refine sim_get (v := pR 5 0 2) dX5_readTrain_85 fl_X5_13 (by decide) rfl ?_
  refine sim_iload_n dX5_readTrain_88 rfl ?_
  refine sim_iconst (v := 4) dX5_readTrain_89 (by decide) ?_
  refine sim_iadd dX5_readTrain_90 ?_
  refine sim_iconst (v := 0) dX5_readTrain_91 (by decide) ?_
  refine sim_iast dX5_readTrain_92 rfl (by decide) (fun m10 => ?_)
  refine sim_aload_n dX5_readTrain_93 rfl ?_
  refine sim_get (v := pR 5 0 2) dX5_readTrain_94 fl_X5_13 (by decide) rfl ?_
  refine sim_iload_n dX5_readTrain_97 rfl ?_
  refine sim_iconst (v := 5) dX5_readTrain_98 (by decide) ?_
  refine sim_iadd dX5_readTrain_99 ?_
  refine sim_bipush (v := (-4)) dX5_readTrain_100 (by decide) ?_
  refine sim_iast dX5_readTrain_102 rfl (by decide) (fun m11 => ?_)
  refine sim_aload_n dX5_readTrain_103 rfl ?_
  refine sim_get (v := pR 5 0 2) dX5_readTrain_104 fl_X5_13 (by decide) rfl ?_
  refine sim_iconst (v := 1) dX5_readTrain_107 (by decide) ?_
  refine sim_dup2 dX5_readTrain_108 rfl rfl ?_
  refine sim_iald dX5_readTrain_109 rfl (by decide) ?_
  refine sim_iconst (v := 1) dX5_readTrain_110 (by decide) ?_
  refine sim_iadd dX5_readTrain_111 ?_
  refine sim_iast dX5_readTrain_112 rfl (by decide) (fun m12 => ?_)
  exact sim_ret dX5_readTrain_113 rfl

def jM_readLine_133 (m10 : Mem) : Option Mem :=
  Option.bind (fM_reads m10) (fun m11 => some m11)
def jM_readLine_108 (m9 : Mem) : Option Mem :=
  if (m9 (5, 0, 0) 11) = 0 then (lt (if (m9 (5, 0, 0) 9) = 3 then 1 else 0) (fun (x13 : Int32) => Option.bind (fM_requires x13 2 m9) (fun m14 => jM_readLine_133 m14))) else (jM_readLine_133 m9)
def jM_readLine_41 (x3 : Int32) (m5 : Mem) (x6 : Int32) : Option Mem :=
  Option.bind (fM_requires x6 5 m5) (fun m7 => Option.bind (fM_reads m7) (fun m8 => if (m8 (5, 0, 0) 11) ≤ 0 then (if x3 = 0 then (Option.bind (fM_readPlace m8) (fun m20 => jM_readLine_108 m20)) else (if x3 = 2 then (Option.bind (fM_readTrain m8) (fun m19 => jM_readLine_108 m19)) else (gd (inb 0 238) (Option.bind (fM_readNumber 1 9 (-4) m8) (fun q17 => gd (inb ((4 + (5 * ((m8 (5, 0, 2) (ix 0)) - 1))) + 4) 238) (lt (wr q17.2 (5, 0, 2) (ix ((4 + (5 * ((m8 (5, 0, 2) (ix 0)) - 1))) + 4)) q17.1) (fun m18 => jM_readLine_108 m18))))))) else (some m8)))
def fM_readLine (m1 : Mem) : Option Mem :=
  Option.bind (fM_lineNow m1) (fun x2 => lt x2 (fun (x3 : Int32) => lt (if x3 = (-4) then 0 else 1) (fun (x4 : Int32) => Option.bind (fM_requires x4 2 m1) (fun m5 => if x3 = (-4) then (jM_readLine_41 x3 m5 1) else (Option.bind (fM_hasRoom x3 m5) (fun x22 => if x22 = 0 then (jM_readLine_41 x3 m5 0) else (jM_readLine_41 x3 m5 1)))))))
abbrev rm_M_readLine : Room := { frames := 4, cells := 0, slots := 0, locals := 91 }
set_option maxRecDepth 4000 in
theorem sM_readLine (X : Sc) (m1 : Mem) : Sim X cX5_readLine 2 none RX5 rm_M_readLine (fun _ : Mem => 0) (fun m : Mem => m) 0 [(0, pR 5 0 0)] [] m1 (fM_readLine m1) := by
  unfold fM_readLine
  refine sim_aload_n dX5_readLine_0 rfl ?_
  refine sim_callV (As := []) (rest := []) (k0 := 0) dX5_readLine_1 ln_X5_108 me_X5_lineNow rfl (by decide) rfl (by decide) (Nat.le_of_ble_eq_true rfl) (Nat.le_of_ble_eq_true rfl) rfl (sM_lineNow X m1) (fun x2 => ?_)
  refine sim_istore_n (fun z => [(0, pR 5 0 0), (1, pI z)]) [1, 0] dX5_readLine_4 (by decide) (fun _ => rfl) (fun x3 => ?_)
  refine sim_aload_n dX5_readLine_5 rfl ?_
  refine sim_iload_n dX5_readLine_6 rfl ?_
  refine sim_bipush (v := (-4)) dX5_readLine_7 (by decide) ?_
  refine sim_jv 17 [(0, pR 5 0 0), (1, pI x3)] [pR 5 0 0] (fun x4 => ?_) (fun hV23 => ?_)
  · refine sim_iconst (v := 2) dX5_readLine_17 (by decide) ?_
    refine sim_callV (As := [pI x4, pI 2]) (rest := []) (k0 := 0) dX5_readLine_18 ln_X5_97 me_X5_requires rfl (by decide) rfl (by decide) (Nat.le_of_ble_eq_true rfl) (Nat.le_of_ble_eq_true rfl) rfl (sM_requires X x4 2 m1) (fun m5 => ?_)
    refine sim_aload_n dX5_readLine_21 rfl ?_
    refine sim_iload_n dX5_readLine_22 rfl ?_
    refine sim_bipush (v := (-4)) dX5_readLine_23 (by decide) ?_
    have hJ21 : ∀ (x6 : Int32), Sim X cX5_readLine 2 none RX5 rm_M_readLine (fun _ : Mem => 0) (fun m : Mem => m) 41 [(0, pR 5 0 0), (1, pI x3)] [pI x6, pR 5 0 0] m5 (jM_readLine_41 x3 m5 x6) := by
      intro x6
      unfold jM_readLine_41
      refine sim_iconst (v := 5) dX5_readLine_41 (by decide) ?_
      refine sim_callV (As := [pI x6, pI 5]) (rest := []) (k0 := 0) dX5_readLine_42 ln_X5_97 me_X5_requires rfl (by decide) rfl (by decide) (Nat.le_of_ble_eq_true rfl) (Nat.le_of_ble_eq_true rfl) rfl (sM_requires X x6 5 m5) (fun m7 => ?_)
      refine sim_aload_n dX5_readLine_45 rfl ?_
      refine sim_callV (As := []) (rest := []) (k0 := 0) dX5_readLine_46 ln_X5_101 me_X5_reads rfl (by decide) rfl (by decide) (Nat.le_of_ble_eq_true rfl) (Nat.le_of_ble_eq_true rfl) rfl (sM_reads X m7) (fun m8 => ?_)
      refine sim_aload_n dX5_readLine_49 rfl ?_
      refine sim_get (v := pI (m8 (5, 0, 0) 11)) dX5_readLine_50 fl_X5_63 (by decide) rfl ?_
      refine sim_if_le (tgt := 57) dX5_readLine_53 (by decide) ?_ ?_
      · refine sim_iload_n dX5_readLine_57 rfl ?_
        have hJ16 : ∀ (m9 : Mem), Sim X cX5_readLine 2 none RX5 rm_M_readLine (fun _ : Mem => 0) (fun m : Mem => m) 108 [(0, pR 5 0 0), (1, pI x3)] [] m9 (jM_readLine_108 m9) := by
          intro m9
          unfold jM_readLine_108
          refine sim_aload_n dX5_readLine_108 rfl ?_
          refine sim_get (v := pI (m9 (5, 0, 0) 11)) dX5_readLine_109 fl_X5_63 (by decide) rfl ?_
          have hJ12 : ∀ (m10 : Mem), Sim X cX5_readLine 2 none RX5 rm_M_readLine (fun _ : Mem => 0) (fun m : Mem => m) 133 [(0, pR 5 0 0), (1, pI x3)] [] m10 (jM_readLine_133 m10) := by
            intro m10
            unfold jM_readLine_133
            refine sim_aload_n dX5_readLine_133 rfl ?_
            refine sim_callV (As := []) (rest := []) (k0 := 0) dX5_readLine_134 ln_X5_101 me_X5_reads rfl (by decide) rfl (by decide) (Nat.le_of_ble_eq_true rfl) (Nat.le_of_ble_eq_true rfl) rfl (sM_reads X m10) (fun m11 => ?_)
            exact sim_ret dX5_readLine_137 rfl
          refine sim_if_ne (tgt := 133) dX5_readLine_112 (by decide) ?_ ?_
          · refine sim_aload_n dX5_readLine_115 rfl ?_
            refine sim_aload_n dX5_readLine_116 rfl ?_
            refine sim_get (v := pI (m9 (5, 0, 0) 9)) dX5_readLine_117 fl_X5_72 (by decide) rfl ?_
            refine sim_iconst (v := 3) dX5_readLine_120 (by decide) ?_
            refine sim_jv 129 [(0, pR 5 0 0), (1, pI x3)] [pR 5 0 0] (fun x13 => ?_) (fun hV15 => ?_)
            · refine sim_iconst (v := 2) dX5_readLine_129 (by decide) ?_
              refine sim_callV (As := [pI x13, pI 2]) (rest := []) (k0 := 0) dX5_readLine_130 ln_X5_97 me_X5_requires rfl (by decide) rfl (by decide) (Nat.le_of_ble_eq_true rfl) (Nat.le_of_ble_eq_true rfl) rfl (sM_requires X x13 2 m9) (fun m14 => ?_)
              exact hJ12 m14
            · refine sim_eq (lt_ite _ _ _ _) ?_
              refine sim_icmp_ne (tgt := 128) dX5_readLine_121 (by decide) ?_ ?_
              · refine sim_iconst (v := 1) dX5_readLine_124 (by decide) ?_
                refine sim_goto (tgt := 129) dX5_readLine_125 (by decide) ?_
                exact hV15 _
              · refine sim_iconst (v := 0) dX5_readLine_128 (by decide) ?_
                exact hV15 _
          · exact hJ12 m9
        refine sim_if_ne (tgt := 68) dX5_readLine_58 (by decide) ?_ ?_
        · refine sim_aload_n dX5_readLine_61 rfl ?_
          refine sim_callV (As := []) (rest := []) (k0 := 0) dX5_readLine_62 ln_X5_116 me_X5_readPlace rfl (by decide) rfl (by decide) (Nat.le_of_ble_eq_true rfl) (Nat.le_of_ble_eq_true rfl) rfl (sM_readPlace X m8) (fun m20 => ?_)
          refine sim_goto (tgt := 108) dX5_readLine_65 (by decide) ?_
          exact hJ16 m20
        · refine sim_iload_n dX5_readLine_68 rfl ?_
          refine sim_iconst (v := 2) dX5_readLine_69 (by decide) ?_
          refine sim_icmp_ne (tgt := 80) dX5_readLine_70 (by decide) ?_ ?_
          · refine sim_aload_n dX5_readLine_73 rfl ?_
            refine sim_callV (As := []) (rest := []) (k0 := 0) dX5_readLine_74 ln_X5_119 me_X5_readTrain rfl (by decide) rfl (by decide) (Nat.le_of_ble_eq_true rfl) (Nat.le_of_ble_eq_true rfl) rfl (sM_readTrain X m8) (fun m19 => ?_)
            refine sim_goto (tgt := 108) dX5_readLine_77 (by decide) ?_
            exact hJ16 m19
          · refine sim_aload_n dX5_readLine_80 rfl ?_
            refine sim_get (v := pR 5 0 2) dX5_readLine_81 fl_X5_13 (by decide) rfl ?_
            refine sim_iconst (v := 4) dX5_readLine_84 (by decide) ?_
            refine sim_iconst (v := 5) dX5_readLine_85 (by decide) ?_
            refine sim_aload_n dX5_readLine_86 rfl ?_
            refine sim_get (v := pR 5 0 2) dX5_readLine_87 fl_X5_13 (by decide) rfl ?_
            refine sim_iconst (v := 0) dX5_readLine_90 (by decide) ?_
            refine sim_iald dX5_readLine_91 rfl (by decide) ?_
            refine sim_iconst (v := 1) dX5_readLine_92 (by decide) ?_
            refine sim_isub dX5_readLine_93 ?_
            refine sim_imul dX5_readLine_94 ?_
            refine sim_iadd dX5_readLine_95 ?_
            refine sim_iconst (v := 4) dX5_readLine_96 (by decide) ?_
            refine sim_iadd dX5_readLine_97 ?_
            refine sim_aload_n dX5_readLine_98 rfl ?_
            refine sim_iconst (v := 1) dX5_readLine_99 (by decide) ?_
            refine sim_bipush (v := 9) dX5_readLine_100 (by decide) ?_
            refine sim_bipush (v := (-4)) dX5_readLine_102 (by decide) ?_
            refine sim_callV (As := [pI 1, pI 9, pI (-4)]) (rest := [pI ((4 + (5 * ((m8 (5, 0, 2) (ix 0)) - 1))) + 4), pR 5 0 2]) (k0 := 0) dX5_readLine_104 ln_X5_104 me_X5_readNumber rfl (by decide) rfl (by decide) (Nat.le_of_ble_eq_true rfl) (Nat.le_of_ble_eq_true rfl) rfl (sM_readNumber X 1 9 (-4) m8) (fun q17 => ?_)
            refine sim_iast dX5_readLine_107 rfl (by decide) (fun m18 => ?_)
            exact hJ16 m18
      · exact sim_ret dX5_readLine_56 rfl
    refine sim_icmp_eq (tgt := 36) dX5_readLine_25 (by decide) ?_ ?_
    · refine sim_iconst (v := 1) dX5_readLine_36 (by decide) ?_
      refine sim_goto (tgt := 41) dX5_readLine_37 (by decide) ?_
      exact hJ21 1
    · refine sim_aload_n dX5_readLine_28 rfl ?_
      refine sim_iload_n dX5_readLine_29 rfl ?_
      refine sim_callV (As := [pI x3]) (rest := [pR 5 0 0]) (k0 := 0) dX5_readLine_30 ln_X5_112 me_X5_hasRoom rfl (by decide) rfl (by decide) (Nat.le_of_ble_eq_true rfl) (Nat.le_of_ble_eq_true rfl) rfl (sM_hasRoom X x3 m5) (fun x22 => ?_)
      refine sim_if_eq (tgt := 40) dX5_readLine_33 (by decide) ?_ ?_
      · refine sim_iconst (v := 0) dX5_readLine_40 (by decide) ?_
        exact hJ21 0
      · refine sim_iconst (v := 1) dX5_readLine_36 (by decide) ?_
        refine sim_goto (tgt := 41) dX5_readLine_37 (by decide) ?_
        exact hJ21 1
  · refine sim_eq (lt_ite _ _ _ _) ?_
    refine sim_icmp_eq (tgt := 16) dX5_readLine_9 (by decide) ?_ ?_
    · refine sim_iconst (v := 0) dX5_readLine_16 (by decide) ?_
      exact hV23 _
    · refine sim_iconst (v := 1) dX5_readLine_12 (by decide) ?_
      refine sim_goto (tgt := 17) dX5_readLine_13 (by decide) ?_
      exact hV23 _

def fM_ofTrain (x1 : Int32) (x2 : Int32) (m3 : Mem) : Option Int32 :=
  gd (inb ((34 + (6 * x1)) + x2) 238) (some (m3 (5, 0, 1) (ix ((34 + (6 * x1)) + x2))))
abbrev rm_M_ofTrain : Room := { frames := 0, cells := 0, slots := 0, locals := 0 }
set_option maxRecDepth 4000 in
theorem sM_ofTrain (X : Sc) (x1 : Int32) (x2 : Int32) (m3 : Mem) : Sim X cX5_ofTrain 3 (some .int) RX5 rm_M_ofTrain (fun r : Int32 => r) (fun _ : Int32 => m3) 0 [(0, pR 5 0 0), (1, pI x1), (2, pI x2)] [] m3 (fM_ofTrain x1 x2 m3) := by
  unfold fM_ofTrain
  refine sim_aload_n dX5_ofTrain_0 rfl ?_
  refine sim_get (v := pR 5 0 1) dX5_ofTrain_1 fl_X5_7 (by decide) rfl ?_
  refine sim_bipush (v := 34) dX5_ofTrain_4 (by decide) ?_
  refine sim_bipush (v := 6) dX5_ofTrain_6 (by decide) ?_
  refine sim_iload_n dX5_ofTrain_8 rfl ?_
  refine sim_imul dX5_ofTrain_9 ?_
  refine sim_iadd dX5_ofTrain_10 ?_
  refine sim_iload_n dX5_ofTrain_11 rfl ?_
  refine sim_iadd dX5_ofTrain_12 ?_
  refine sim_iald dX5_ofTrain_13 rfl (by decide) ?_
  exact sim_iret dX5_ofTrain_14 rfl rfl

def bM_areAllPlaces_4 (m1 : Mem) (s6 : Int32 → Int32 → Option Int32) (x4 : Int32) (x5 : Int32) : Option Int32 :=
  gd (inb 1 238) (if (m1 (5, 0, 1) (ix 1)) ≤ x5 then (gd (isb x4) (some x4)) else (if x4 = 0 then (lt 0 (fun (x8 : Int32) => lt (x5 + 1) (fun (x9 : Int32) => s6 x8 x9))) else (Option.bind (fM_ofTrain x5 0 m1) (fun x10 => gd (inb 0 238) (if (m1 (5, 0, 1) (ix 0)) ≤ x10 then (lt 0 (fun (x11 : Int32) => lt (x5 + 1) (fun (x12 : Int32) => s6 x11 x12))) else (Option.bind (fM_ofTrain x5 1 m1) (fun x13 => gd (inb 0 238) (if (m1 (5, 0, 1) (ix 0)) ≤ x13 then (lt 0 (fun (x14 : Int32) => lt (x5 + 1) (fun (x15 : Int32) => s6 x14 x15))) else (lt 1 (fun (x16 : Int32) => lt (x5 + 1) (fun (x17 : Int32) => s6 x16 x17)))))))))))
def fM_areAllPlaces (m1 : Mem) : Option Int32 :=
  lt 1 (fun (x2 : Int32) => lt 0 (fun (x3 : Int32) => lz20 (bM_areAllPlaces_4 m1) FU x2 x3))
abbrev rm_M_areAllPlaces : Room := { frames := 1, cells := 0, slots := 0, locals := 22 }
set_option maxRecDepth 4000 in
theorem sM_areAllPlaces (X : Sc) (m1 : Mem) : Sim X cX5_areAllPlaces 3 (some .boolean) RX5 rm_M_areAllPlaces (fun r : Int32 => r) (fun _ : Int32 => m1) 0 [(0, pR 5 0 0)] [] m1 (fM_areAllPlaces m1) := by
  unfold fM_areAllPlaces
  refine sim_iconst (v := 1) dX5_areAllPlaces_0 (by decide) ?_
  refine sim_istore_n (fun z => [(0, pR 5 0 0), (1, pI z)]) [1, 0] dX5_areAllPlaces_1 (by decide) (fun _ => rfl) (fun x2 => ?_)
  refine sim_iconst (v := 0) dX5_areAllPlaces_2 (by decide) ?_
  refine sim_istore_n (fun z => [(0, pR 5 0 0), (1, pI x2), (2, pI z)]) [1, 2, 0] dX5_areAllPlaces_3 (by decide) (fun _ => rfl) (fun x3 => ?_)
  refine sim_lz20 (fun z0 z1 => [(0, pR 5 0 0), (1, pI z0), (2, pI z1)]) (fun s6 hs7 x4 x5 => ?_) FU x2 x3
  unfold bM_areAllPlaces_4
  refine sim_iload_n dX5_areAllPlaces_4 rfl ?_
  refine sim_aload_n dX5_areAllPlaces_5 rfl ?_
  refine sim_get (v := pR 5 0 1) dX5_areAllPlaces_6 fl_X5_7 (by decide) rfl ?_
  refine sim_iconst (v := 1) dX5_areAllPlaces_9 (by decide) ?_
  refine sim_iald dX5_areAllPlaces_10 rfl (by decide) ?_
  refine sim_icmp_ge (tgt := 60) dX5_areAllPlaces_11 (by decide) ?_ ?_
  · refine sim_iload_n dX5_areAllPlaces_60 rfl ?_
    exact sim_zretg dX5_areAllPlaces_61 rfl rfl
  · refine sim_iload_n dX5_areAllPlaces_14 rfl ?_
    refine sim_if_eq (tgt := 52) dX5_areAllPlaces_15 (by decide) ?_ ?_
    · refine sim_iconst (v := 0) dX5_areAllPlaces_52 (by decide) ?_
      refine sim_istore_n (fun z => [(0, pR 5 0 0), (1, pI z), (2, pI x5)]) [1, 0, 2] dX5_areAllPlaces_53 (by decide) (fun _ => rfl) (fun x8 => ?_)
      refine sim_iinc (y := 1) (fun z => [(0, pR 5 0 0), (1, pI x8), (2, pI z)]) [1, 2, 0] dX5_areAllPlaces_54 rfl (by decide) (by decide) (fun _ => rfl) (fun x9 => ?_)
      refine sim_goto (tgt := 4) dX5_areAllPlaces_57 (by decide) ?_
      exact hs7 x8 x9
    · refine sim_aload_n dX5_areAllPlaces_18 rfl ?_
      refine sim_iload_n dX5_areAllPlaces_19 rfl ?_
      refine sim_iconst (v := 0) dX5_areAllPlaces_20 (by decide) ?_
      refine sim_callV (As := [pI x5, pI 0]) (rest := []) (k0 := 0) dX5_areAllPlaces_21 ln_X5_122 me_X5_ofTrain rfl (by decide) rfl (by decide) (Nat.le_of_ble_eq_true rfl) (Nat.le_of_ble_eq_true rfl) rfl (sM_ofTrain X x5 0 m1) (fun x10 => ?_)
      refine sim_aload_n dX5_areAllPlaces_24 rfl ?_
      refine sim_get (v := pR 5 0 1) dX5_areAllPlaces_25 fl_X5_7 (by decide) rfl ?_
      refine sim_iconst (v := 0) dX5_areAllPlaces_28 (by decide) ?_
      refine sim_iald dX5_areAllPlaces_29 rfl (by decide) ?_
      refine sim_icmp_ge (tgt := 52) dX5_areAllPlaces_30 (by decide) ?_ ?_
      · refine sim_iconst (v := 0) dX5_areAllPlaces_52 (by decide) ?_
        refine sim_istore_n (fun z => [(0, pR 5 0 0), (1, pI z), (2, pI x5)]) [1, 0, 2] dX5_areAllPlaces_53 (by decide) (fun _ => rfl) (fun x11 => ?_)
        refine sim_iinc (y := 1) (fun z => [(0, pR 5 0 0), (1, pI x11), (2, pI z)]) [1, 2, 0] dX5_areAllPlaces_54 rfl (by decide) (by decide) (fun _ => rfl) (fun x12 => ?_)
        refine sim_goto (tgt := 4) dX5_areAllPlaces_57 (by decide) ?_
        exact hs7 x11 x12
      · refine sim_aload_n dX5_areAllPlaces_33 rfl ?_
        refine sim_iload_n dX5_areAllPlaces_34 rfl ?_
        refine sim_iconst (v := 1) dX5_areAllPlaces_35 (by decide) ?_
        refine sim_callV (As := [pI x5, pI 1]) (rest := []) (k0 := 0) dX5_areAllPlaces_36 ln_X5_122 me_X5_ofTrain rfl (by decide) rfl (by decide) (Nat.le_of_ble_eq_true rfl) (Nat.le_of_ble_eq_true rfl) rfl (sM_ofTrain X x5 1 m1) (fun x13 => ?_)
        refine sim_aload_n dX5_areAllPlaces_39 rfl ?_
        refine sim_get (v := pR 5 0 1) dX5_areAllPlaces_40 fl_X5_7 (by decide) rfl ?_
        refine sim_iconst (v := 0) dX5_areAllPlaces_43 (by decide) ?_
        refine sim_iald dX5_areAllPlaces_44 rfl (by decide) ?_
        refine sim_icmp_ge (tgt := 52) dX5_areAllPlaces_45 (by decide) ?_ ?_
        · refine sim_iconst (v := 0) dX5_areAllPlaces_52 (by decide) ?_
          refine sim_istore_n (fun z => [(0, pR 5 0 0), (1, pI z), (2, pI x5)]) [1, 0, 2] dX5_areAllPlaces_53 (by decide) (fun _ => rfl) (fun x14 => ?_)
          refine sim_iinc (y := 1) (fun z => [(0, pR 5 0 0), (1, pI x14), (2, pI z)]) [1, 2, 0] dX5_areAllPlaces_54 rfl (by decide) (by decide) (fun _ => rfl) (fun x15 => ?_)
          refine sim_goto (tgt := 4) dX5_areAllPlaces_57 (by decide) ?_
          exact hs7 x14 x15
        · refine sim_iconst (v := 1) dX5_areAllPlaces_48 (by decide) ?_
          refine sim_goto (tgt := 53) dX5_areAllPlaces_49 (by decide) ?_
          refine sim_istore_n (fun z => [(0, pR 5 0 0), (1, pI z), (2, pI x5)]) [1, 0, 2] dX5_areAllPlaces_53 (by decide) (fun _ => rfl) (fun x16 => ?_)
          refine sim_iinc (y := 1) (fun z => [(0, pR 5 0 0), (1, pI x16), (2, pI z)]) [1, 2, 0] dX5_areAllPlaces_54 rfl (by decide) (by decide) (fun _ => rfl) (fun x17 => ?_)
          refine sim_goto (tgt := 4) dX5_areAllPlaces_57 (by decide) ?_
          exact hs7 x16 x17

def fM_isDoneIn (x1 : Int32) (m2 : Mem) : Option Int32 :=
  Option.bind (fM_ofTrain x1 4 m2) (fun x3 => if x3 = 2 then (some 1) else (Option.bind (fM_ofTrain x1 4 m2) (fun x4 => if x4 = 1 then (Option.bind (fM_ofTrain x1 3 m2) (fun x5 => Option.bind (fM_ofTrain x1 1 m2) (fun x6 => if x5 = x6 then (some 1) else (some 0)))) else (some 0))))
abbrev rm_M_isDoneIn : Room := { frames := 1, cells := 0, slots := 0, locals := 22 }
set_option maxRecDepth 4000 in
theorem sM_isDoneIn (X : Sc) (x1 : Int32) (m2 : Mem) : Sim X cX5_isDoneIn 2 (some .boolean) RX5 rm_M_isDoneIn (fun r : Int32 => r) (fun _ : Int32 => m2) 0 [(0, pR 5 0 0), (1, pI x1)] [] m2 (fM_isDoneIn x1 m2) := by
  unfold fM_isDoneIn
  refine sim_aload_n dX5_isDoneIn_0 rfl ?_
  refine sim_iload_n dX5_isDoneIn_1 rfl ?_
  refine sim_iconst (v := 4) dX5_isDoneIn_2 (by decide) ?_
  refine sim_callV (As := [pI x1, pI 4]) (rest := []) (k0 := 0) dX5_isDoneIn_3 ln_X5_122 me_X5_ofTrain rfl (by decide) rfl (by decide) (Nat.le_of_ble_eq_true rfl) (Nat.le_of_ble_eq_true rfl) rfl (sM_ofTrain X x1 4 m2) (fun x3 => ?_)
  refine sim_iconst (v := 2) dX5_isDoneIn_6 (by decide) ?_
  refine sim_icmp_eq (tgt := 35) dX5_isDoneIn_7 (by decide) ?_ ?_
  · refine sim_iconst (v := 1) dX5_isDoneIn_35 (by decide) ?_
    refine sim_goto (tgt := 40) dX5_isDoneIn_36 (by decide) ?_
    exact sim_zret dX5_isDoneIn_40 rfl rfl rfl
  · refine sim_aload_n dX5_isDoneIn_10 rfl ?_
    refine sim_iload_n dX5_isDoneIn_11 rfl ?_
    refine sim_iconst (v := 4) dX5_isDoneIn_12 (by decide) ?_
    refine sim_callV (As := [pI x1, pI 4]) (rest := []) (k0 := 0) dX5_isDoneIn_13 ln_X5_122 me_X5_ofTrain rfl (by decide) rfl (by decide) (Nat.le_of_ble_eq_true rfl) (Nat.le_of_ble_eq_true rfl) rfl (sM_ofTrain X x1 4 m2) (fun x4 => ?_)
    refine sim_iconst (v := 1) dX5_isDoneIn_16 (by decide) ?_
    refine sim_icmp_ne (tgt := 39) dX5_isDoneIn_17 (by decide) ?_ ?_
    · refine sim_aload_n dX5_isDoneIn_20 rfl ?_
      refine sim_iload_n dX5_isDoneIn_21 rfl ?_
      refine sim_iconst (v := 3) dX5_isDoneIn_22 (by decide) ?_
      refine sim_callV (As := [pI x1, pI 3]) (rest := []) (k0 := 0) dX5_isDoneIn_23 ln_X5_122 me_X5_ofTrain rfl (by decide) rfl (by decide) (Nat.le_of_ble_eq_true rfl) (Nat.le_of_ble_eq_true rfl) rfl (sM_ofTrain X x1 3 m2) (fun x5 => ?_)
      refine sim_aload_n dX5_isDoneIn_26 rfl ?_
      refine sim_iload_n dX5_isDoneIn_27 rfl ?_
      refine sim_iconst (v := 1) dX5_isDoneIn_28 (by decide) ?_
      refine sim_callV (As := [pI x1, pI 1]) (rest := [pI x5]) (k0 := 0) dX5_isDoneIn_29 ln_X5_122 me_X5_ofTrain rfl (by decide) rfl (by decide) (Nat.le_of_ble_eq_true rfl) (Nat.le_of_ble_eq_true rfl) rfl (sM_ofTrain X x1 1 m2) (fun x6 => ?_)
      refine sim_icmp_ne (tgt := 39) dX5_isDoneIn_32 (by decide) ?_ ?_
      · refine sim_iconst (v := 1) dX5_isDoneIn_35 (by decide) ?_
        refine sim_goto (tgt := 40) dX5_isDoneIn_36 (by decide) ?_
        exact sim_zret dX5_isDoneIn_40 rfl rfl rfl
      · refine sim_iconst (v := 0) dX5_isDoneIn_39 (by decide) ?_
        exact sim_zret dX5_isDoneIn_40 rfl rfl rfl
    · refine sim_iconst (v := 0) dX5_isDoneIn_39 (by decide) ?_
      exact sim_zret dX5_isDoneIn_40 rfl rfl rfl

def fM_weightOf (x1 : Int32) (m2 : Mem) : Option Int32 :=
  if x1 = 0 then (some 1) else (if x1 = 1 then (some 7) else (if x1 = 2 then (some 49) else (some 343)))
abbrev rm_M_weightOf : Room := { frames := 0, cells := 0, slots := 0, locals := 0 }
set_option maxRecDepth 4000 in
theorem sM_weightOf (X : Sc) (x1 : Int32) (m2 : Mem) : Sim X cX5_weightOf 1 (some .int) RX5 rm_M_weightOf (fun r : Int32 => r) (fun _ : Int32 => m2) 0 [(0, pI x1)] [] m2 (fM_weightOf x1 m2) := by
  unfold fM_weightOf
  refine sim_iload_n dX5_weightOf_0 rfl ?_
  refine sim_if_ne (tgt := 8) dX5_weightOf_1 (by decide) ?_ ?_
  · refine sim_iconst (v := 1) dX5_weightOf_4 (by decide) ?_
    refine sim_goto (tgt := 31) dX5_weightOf_5 (by decide) ?_
    exact sim_iret dX5_weightOf_31 rfl rfl
  · refine sim_iload_n dX5_weightOf_8 rfl ?_
    refine sim_iconst (v := 1) dX5_weightOf_9 (by decide) ?_
    refine sim_icmp_ne (tgt := 18) dX5_weightOf_10 (by decide) ?_ ?_
    · refine sim_bipush (v := 7) dX5_weightOf_13 (by decide) ?_
      refine sim_goto (tgt := 31) dX5_weightOf_15 (by decide) ?_
      exact sim_iret dX5_weightOf_31 rfl rfl
    · refine sim_iload_n dX5_weightOf_18 rfl ?_
      refine sim_iconst (v := 2) dX5_weightOf_19 (by decide) ?_
      refine sim_icmp_ne (tgt := 28) dX5_weightOf_20 (by decide) ?_ ?_
      · refine sim_bipush (v := 49) dX5_weightOf_23 (by decide) ?_
        refine sim_goto (tgt := 31) dX5_weightOf_25 (by decide) ?_
        exact sim_iret dX5_weightOf_31 rfl rfl
      · refine sim_sipush (v := 343) dX5_weightOf_28 (by decide) ?_
        exact sim_iret dX5_weightOf_31 rfl rfl

def bM_postureNow_4 (m1 : Mem) (s6 : Int32 → Int32 → Option Int32) (x4 : Int32) (x5 : Int32) : Option Int32 :=
  gd (inb 1 238) (if (m1 (5, 0, 1) (ix 1)) ≤ x5 then (some x4) else (Option.bind (fM_isDoneIn x5 m1) (fun x8 => if x8 = 0 then (Option.bind (fM_weightOf x5 m1) (fun x9 => Option.bind (fM_ofTrain x5 3 m1) (fun x10 => lt (x4 + (x9 * (x10 + 1))) (fun (x11 : Int32) => lt (x5 + 1) (fun (x12 : Int32) => s6 x11 x12))))) else (lt (x4 + 0) (fun (x13 : Int32) => lt (x5 + 1) (fun (x14 : Int32) => s6 x13 x14))))))
def fM_postureNow (m1 : Mem) : Option Int32 :=
  lt 0 (fun (x2 : Int32) => lt 0 (fun (x3 : Int32) => lz20 (bM_postureNow_4 m1) FU x2 x3))
abbrev rm_M_postureNow : Room := { frames := 2, cells := 0, slots := 0, locals := 43 }
set_option maxRecDepth 4000 in
theorem sM_postureNow (X : Sc) (m1 : Mem) : Sim X cX5_postureNow 3 (some .int) RX5 rm_M_postureNow (fun r : Int32 => r) (fun _ : Int32 => m1) 0 [(0, pR 5 0 0)] [] m1 (fM_postureNow m1) := by
  unfold fM_postureNow
  refine sim_iconst (v := 0) dX5_postureNow_0 (by decide) ?_
  refine sim_istore_n (fun z => [(0, pR 5 0 0), (1, pI z)]) [1, 0] dX5_postureNow_1 (by decide) (fun _ => rfl) (fun x2 => ?_)
  refine sim_iconst (v := 0) dX5_postureNow_2 (by decide) ?_
  refine sim_istore_n (fun z => [(0, pR 5 0 0), (1, pI x2), (2, pI z)]) [1, 2, 0] dX5_postureNow_3 (by decide) (fun _ => rfl) (fun x3 => ?_)
  refine sim_lz20 (fun z0 z1 => [(0, pR 5 0 0), (1, pI z0), (2, pI z1)]) (fun s6 hs7 x4 x5 => ?_) FU x2 x3
  unfold bM_postureNow_4
  refine sim_iload_n dX5_postureNow_4 rfl ?_
  refine sim_aload_n dX5_postureNow_5 rfl ?_
  refine sim_get (v := pR 5 0 1) dX5_postureNow_6 fl_X5_7 (by decide) rfl ?_
  refine sim_iconst (v := 1) dX5_postureNow_9 (by decide) ?_
  refine sim_iald dX5_postureNow_10 rfl (by decide) ?_
  refine sim_icmp_ge (tgt := 48) dX5_postureNow_11 (by decide) ?_ ?_
  · refine sim_iload_n dX5_postureNow_48 rfl ?_
    exact sim_iret dX5_postureNow_49 rfl rfl
  · refine sim_iload_n dX5_postureNow_14 rfl ?_
    refine sim_aload_n dX5_postureNow_15 rfl ?_
    refine sim_iload_n dX5_postureNow_16 rfl ?_
    refine sim_callV (As := [pI x5]) (rest := [pI x4]) (k0 := 0) dX5_postureNow_17 ln_X5_171 me_X5_isDoneIn rfl (by decide) rfl (by decide) (Nat.le_of_ble_eq_true rfl) (Nat.le_of_ble_eq_true rfl) rfl (sM_isDoneIn X x5 m1) (fun x8 => ?_)
    refine sim_if_eq (tgt := 27) dX5_postureNow_20 (by decide) ?_ ?_
    · refine sim_iload_n dX5_postureNow_27 rfl ?_
      refine sim_callS (As := [pI x5]) (rest := [pI x4]) dX5_postureNow_28 ln_X5_174 me_X5_weightOf rfl (by decide) (Nat.le_of_ble_eq_true rfl) (Nat.le_of_ble_eq_true rfl) rfl (sM_weightOf X x5 m1) (fun x9 => ?_)
      refine sim_aload_n dX5_postureNow_31 rfl ?_
      refine sim_iload_n dX5_postureNow_32 rfl ?_
      refine sim_iconst (v := 3) dX5_postureNow_33 (by decide) ?_
      refine sim_callV (As := [pI x5, pI 3]) (rest := [pI x9, pI x4]) (k0 := 0) dX5_postureNow_34 ln_X5_122 me_X5_ofTrain rfl (by decide) rfl (by decide) (Nat.le_of_ble_eq_true rfl) (Nat.le_of_ble_eq_true rfl) rfl (sM_ofTrain X x5 3 m1) (fun x10 => ?_)
      refine sim_iconst (v := 1) dX5_postureNow_37 (by decide) ?_
      refine sim_iadd dX5_postureNow_38 ?_
      refine sim_imul dX5_postureNow_39 ?_
      refine sim_iadd dX5_postureNow_40 ?_
      refine sim_istore_n (fun z => [(0, pR 5 0 0), (1, pI z), (2, pI x5)]) [1, 0, 2] dX5_postureNow_41 (by decide) (fun _ => rfl) (fun x11 => ?_)
      refine sim_iinc (y := 1) (fun z => [(0, pR 5 0 0), (1, pI x11), (2, pI z)]) [1, 2, 0] dX5_postureNow_42 rfl (by decide) (by decide) (fun _ => rfl) (fun x12 => ?_)
      refine sim_goto (tgt := 4) dX5_postureNow_45 (by decide) ?_
      exact hs7 x11 x12
    · refine sim_iconst (v := 0) dX5_postureNow_23 (by decide) ?_
      refine sim_goto (tgt := 40) dX5_postureNow_24 (by decide) ?_
      refine sim_iadd dX5_postureNow_40 ?_
      refine sim_istore_n (fun z => [(0, pR 5 0 0), (1, pI z), (2, pI x5)]) [1, 0, 2] dX5_postureNow_41 (by decide) (fun _ => rfl) (fun x13 => ?_)
      refine sim_iinc (y := 1) (fun z => [(0, pR 5 0 0), (1, pI x13), (2, pI z)]) [1, 2, 0] dX5_postureNow_42 rfl (by decide) (by decide) (fun _ => rfl) (fun x14 => ?_)
      refine sim_goto (tgt := 4) dX5_postureNow_45 (by decide) ?_
      exact hs7 x13 x14

def bM_decode_2 (x1 : Int32) (s6 : Int32 → Mem → Option Mem) (x4 : Int32) (m5 : Mem) : Option Mem :=
  if 4 ≤ x4 then (some m5) else (Option.bind (fM_weightOf x4 m5) (fun x8 => gd (!(x8 == 0)) (gd (!(7 == 0)) (gd (inb x4 4) (lt (wr m5 (5, 0, 14) (ix x4) ((x1 / x8) - (x1 / x8) / 7 * 7)) (fun m9 => lt (x4 + 1) (fun (x10 : Int32) => s6 x10 m9)))))))
def fM_decode (x1 : Int32) (m2 : Mem) : Option Mem :=
  lt 0 (fun (x3 : Int32) => lz11 (bM_decode_2 x1) FU x3 m2)
abbrev rm_M_decode : Room := { frames := 1, cells := 0, slots := 0, locals := 20 }
set_option maxRecDepth 4000 in
theorem sM_decode (X : Sc) (x1 : Int32) (m2 : Mem) : Sim X cX5_decode 3 none RX5 rm_M_decode (fun _ : Mem => 0) (fun m : Mem => m) 0 [(0, pR 5 0 0), (1, pI x1)] [] m2 (fM_decode x1 m2) := by
  unfold fM_decode
  refine sim_iconst (v := 0) dX5_decode_0 (by decide) ?_
  refine sim_istore_n (fun z => [(0, pR 5 0 0), (1, pI x1), (2, pI z)]) [1, 2, 0] dX5_decode_1 (by decide) (fun _ => rfl) (fun x3 => ?_)
  refine sim_lz11 (fun z0 => [(0, pR 5 0 0), (1, pI x1), (2, pI z0)]) (fun s6 hs7 x4 m5 => ?_) FU x3 m2
  unfold bM_decode_2
  refine sim_iload_n dX5_decode_2 rfl ?_
  refine sim_iconst (v := 4) dX5_decode_3 (by decide) ?_
  refine sim_icmp_ge (tgt := 28) dX5_decode_4 (by decide) ?_ ?_
  · exact sim_ret dX5_decode_28 rfl
  · refine sim_aload_n dX5_decode_7 rfl ?_
    refine sim_get (v := pR 5 0 14) dX5_decode_8 fl_X5_29 (by decide) rfl ?_
    refine sim_iload_n dX5_decode_11 rfl ?_
    refine sim_iload_n dX5_decode_12 rfl ?_
    refine sim_iload_n dX5_decode_13 rfl ?_
    refine sim_callS (As := [pI x4]) (rest := [pI x1, pI x4, pR 5 0 14]) dX5_decode_14 ln_X5_174 me_X5_weightOf rfl (by decide) (Nat.le_of_ble_eq_true rfl) (Nat.le_of_ble_eq_true rfl) rfl (sM_weightOf X x4 m5) (fun x8 => ?_)
    refine sim_idiv dX5_decode_17 ?_
    refine sim_bipush (v := 7) dX5_decode_18 (by decide) ?_
    refine sim_irem dX5_decode_20 ?_
    refine sim_iast dX5_decode_21 rfl (by decide) (fun m9 => ?_)
    refine sim_iinc (y := 1) (fun z => [(0, pR 5 0 0), (1, pI x1), (2, pI z)]) [1, 2, 0] dX5_decode_22 rfl (by decide) (by decide) (fun _ => rfl) (fun x10 => ?_)
    refine sim_goto (tgt := 2) dX5_decode_25 (by decide) ?_
    exact hs7 x10 m9

def jM_trainsFor_46 (m3 : Mem) (s8 : Int32 → Int32 → Option Int32) (x6 : Int32) (x7 : Int32) (x10 : Int32) : Option Int32 :=
  Option.bind (fM_flag x10 m3) (fun x11 => lt (x6 + x11) (fun (x12 : Int32) => lt (x7 + 1) (fun (x13 : Int32) => s8 x12 x13)))
def bM_trainsFor_5 (x1 : Int32) (x2 : Int32) (m3 : Mem) (s8 : Int32 → Int32 → Option Int32) (x6 : Int32) (x7 : Int32) : Option Int32 :=
  gd (inb 1 238) (if (m3 (5, 0, 1) (ix 1)) ≤ x7 then (some x6) else (gd (inb x7 4) (if (m3 (5, 0, 14) (ix x7)) = (x1 + 1) then (Option.bind (fM_ofTrain x7 2 m3) (fun x15 => if x15 < x2 then (jM_trainsFor_46 m3 s8 x6 x7 0) else (jM_trainsFor_46 m3 s8 x6 x7 1))) else (jM_trainsFor_46 m3 s8 x6 x7 0))))
def fM_trainsFor (x1 : Int32) (x2 : Int32) (m3 : Mem) : Option Int32 :=
  lt 0 (fun (x4 : Int32) => lt 0 (fun (x5 : Int32) => lz20 (bM_trainsFor_5 x1 x2 m3) FU x4 x5))
abbrev rm_M_trainsFor : Room := { frames := 1, cells := 0, slots := 0, locals := 22 }
set_option maxRecDepth 4000 in
theorem sM_trainsFor (X : Sc) (x1 : Int32) (x2 : Int32) (m3 : Mem) : Sim X cX5_trainsFor 5 (some .int) RX5 rm_M_trainsFor (fun r : Int32 => r) (fun _ : Int32 => m3) 0 [(0, pR 5 0 0), (1, pI x1), (2, pI x2)] [] m3 (fM_trainsFor x1 x2 m3) := by
  unfold fM_trainsFor
  refine sim_iconst (v := 0) dX5_trainsFor_0 (by decide) ?_
  refine sim_istore_n (fun z => [(0, pR 5 0 0), (1, pI x1), (2, pI x2), (3, pI z)]) [1, 2, 3, 0] dX5_trainsFor_1 (by decide) (fun _ => rfl) (fun x4 => ?_)
  refine sim_iconst (v := 0) dX5_trainsFor_2 (by decide) ?_
  refine sim_istore (fun z => [(0, pR 5 0 0), (1, pI x1), (2, pI x2), (3, pI x4), (4, pI z)]) [1, 2, 3, 4, 0] dX5_trainsFor_3 (by decide) (fun _ => rfl) (fun x5 => ?_)
  refine sim_lz20 (fun z0 z1 => [(0, pR 5 0 0), (1, pI x1), (2, pI x2), (3, pI z0), (4, pI z1)]) (fun s8 hs9 x6 x7 => ?_) FU x4 x5
  unfold bM_trainsFor_5
  refine sim_iload dX5_trainsFor_5 rfl ?_
  refine sim_aload_n dX5_trainsFor_7 rfl ?_
  refine sim_get (v := pR 5 0 1) dX5_trainsFor_8 fl_X5_7 (by decide) rfl ?_
  refine sim_iconst (v := 1) dX5_trainsFor_11 (by decide) ?_
  refine sim_iald dX5_trainsFor_12 rfl (by decide) ?_
  refine sim_icmp_ge (tgt := 57) dX5_trainsFor_13 (by decide) ?_ ?_
  · refine sim_iload_n dX5_trainsFor_57 rfl ?_
    exact sim_iret dX5_trainsFor_58 rfl rfl
  · refine sim_iload_n dX5_trainsFor_16 rfl ?_
    refine sim_aload_n dX5_trainsFor_17 rfl ?_
    refine sim_get (v := pR 5 0 14) dX5_trainsFor_18 fl_X5_29 (by decide) rfl ?_
    refine sim_iload dX5_trainsFor_21 rfl ?_
    refine sim_iald dX5_trainsFor_23 rfl (by decide) ?_
    refine sim_iload_n dX5_trainsFor_24 rfl ?_
    refine sim_iconst (v := 1) dX5_trainsFor_25 (by decide) ?_
    refine sim_iadd dX5_trainsFor_26 ?_
    have hJ14 : ∀ (x10 : Int32), Sim X cX5_trainsFor 5 (some .int) RX5 rm_M_trainsFor (fun r : Int32 => r) (fun _ : Int32 => m3) 46 [(0, pR 5 0 0), (1, pI x1), (2, pI x2), (3, pI x6), (4, pI x7)] [pI x10, pI x6] m3 (jM_trainsFor_46 m3 s8 x6 x7 x10) := by
      intro x10
      unfold jM_trainsFor_46
      refine sim_callS (As := [pI x10]) (rest := [pI x6]) dX5_trainsFor_46 ln_X5_167 me_X5_flag rfl (by decide) (Nat.le_of_ble_eq_true rfl) (Nat.le_of_ble_eq_true rfl) rfl (sM_flag X x10 m3) (fun x11 => ?_)
      refine sim_iadd dX5_trainsFor_49 ?_
      refine sim_istore_n (fun z => [(0, pR 5 0 0), (1, pI x1), (2, pI x2), (3, pI z), (4, pI x7)]) [1, 2, 3, 0, 4] dX5_trainsFor_50 (by decide) (fun _ => rfl) (fun x12 => ?_)
      refine sim_iinc (y := 1) (fun z => [(0, pR 5 0 0), (1, pI x1), (2, pI x2), (3, pI x12), (4, pI z)]) [1, 2, 3, 4, 0] dX5_trainsFor_51 rfl (by decide) (by decide) (fun _ => rfl) (fun x13 => ?_)
      refine sim_goto (tgt := 5) dX5_trainsFor_54 (by decide) ?_
      exact hs9 x12 x13
    refine sim_icmp_ne (tgt := 45) dX5_trainsFor_27 (by decide) ?_ ?_
    · refine sim_aload_n dX5_trainsFor_30 rfl ?_
      refine sim_iload dX5_trainsFor_31 rfl ?_
      refine sim_iconst (v := 2) dX5_trainsFor_33 (by decide) ?_
      refine sim_callV (As := [pI x7, pI 2]) (rest := [pI x6]) (k0 := 0) dX5_trainsFor_34 ln_X5_122 me_X5_ofTrain rfl (by decide) rfl (by decide) (Nat.le_of_ble_eq_true rfl) (Nat.le_of_ble_eq_true rfl) rfl (sM_ofTrain X x7 2 m3) (fun x15 => ?_)
      refine sim_iload_n dX5_trainsFor_37 rfl ?_
      refine sim_icmp_lt (tgt := 45) dX5_trainsFor_38 (by decide) ?_ ?_
      · refine sim_iconst (v := 0) dX5_trainsFor_45 (by decide) ?_
        exact hJ14 0
      · refine sim_iconst (v := 1) dX5_trainsFor_41 (by decide) ?_
        refine sim_goto (tgt := 46) dX5_trainsFor_42 (by decide) ?_
        exact hJ14 1
    · refine sim_iconst (v := 0) dX5_trainsFor_45 (by decide) ?_
      exact hJ14 0

def fM_ofPlace (x1 : Int32) (x2 : Int32) (m3 : Mem) : Option Int32 :=
  gd (inb ((4 + (5 * x1)) + x2) 238) (some (m3 (5, 0, 1) (ix ((4 + (5 * x1)) + x2))))
abbrev rm_M_ofPlace : Room := { frames := 0, cells := 0, slots := 0, locals := 0 }
set_option maxRecDepth 4000 in
theorem sM_ofPlace (X : Sc) (x1 : Int32) (x2 : Int32) (m3 : Mem) : Sim X cX5_ofPlace 3 (some .int) RX5 rm_M_ofPlace (fun r : Int32 => r) (fun _ : Int32 => m3) 0 [(0, pR 5 0 0), (1, pI x1), (2, pI x2)] [] m3 (fM_ofPlace x1 x2 m3) := by
  unfold fM_ofPlace
  refine sim_aload_n dX5_ofPlace_0 rfl ?_
  refine sim_get (v := pR 5 0 1) dX5_ofPlace_1 fl_X5_7 (by decide) rfl ?_
  refine sim_iconst (v := 4) dX5_ofPlace_4 (by decide) ?_
  refine sim_iconst (v := 5) dX5_ofPlace_5 (by decide) ?_
  refine sim_iload_n dX5_ofPlace_6 rfl ?_
  refine sim_imul dX5_ofPlace_7 ?_
  refine sim_iadd dX5_ofPlace_8 ?_
  refine sim_iload_n dX5_ofPlace_9 rfl ?_
  refine sim_iadd dX5_ofPlace_10 ?_
  refine sim_iald dX5_ofPlace_11 rfl (by decide) ?_
  exact sim_iret dX5_ofPlace_12 rfl rfl

def bM_tracksFor_5 (x1 : Int32) (x2 : Int32) (m3 : Mem) (s8 : Int32 → Int32 → Option Int32) (x6 : Int32) (x7 : Int32) : Option Int32 :=
  Option.bind (fM_ofPlace x1 0 m3) (fun x10 => if x10 ≤ x7 then (some x6) else (Option.bind (fM_ofPlace x1 (1 + x7) m3) (fun x11 => lt (if x11 < x2 then 0 else 1) (fun (x12 : Int32) => Option.bind (fM_flag x12 m3) (fun x13 => lt (x6 + x13) (fun (x14 : Int32) => lt (x7 + 1) (fun (x15 : Int32) => s8 x14 x15)))))))
def fM_tracksFor (x1 : Int32) (x2 : Int32) (m3 : Mem) : Option Int32 :=
  lt 0 (fun (x4 : Int32) => lt 0 (fun (x5 : Int32) => lz20 (bM_tracksFor_5 x1 x2 m3) FU x4 x5))
abbrev rm_M_tracksFor : Room := { frames := 1, cells := 0, slots := 0, locals := 22 }
set_option maxRecDepth 4000 in
theorem sM_tracksFor (X : Sc) (x1 : Int32) (x2 : Int32) (m3 : Mem) : Sim X cX5_tracksFor 5 (some .int) RX5 rm_M_tracksFor (fun r : Int32 => r) (fun _ : Int32 => m3) 0 [(0, pR 5 0 0), (1, pI x1), (2, pI x2)] [] m3 (fM_tracksFor x1 x2 m3) := by
  unfold fM_tracksFor
  refine sim_iconst (v := 0) dX5_tracksFor_0 (by decide) ?_
  refine sim_istore_n (fun z => [(0, pR 5 0 0), (1, pI x1), (2, pI x2), (3, pI z)]) [1, 2, 3, 0] dX5_tracksFor_1 (by decide) (fun _ => rfl) (fun x4 => ?_)
  refine sim_iconst (v := 0) dX5_tracksFor_2 (by decide) ?_
  refine sim_istore (fun z => [(0, pR 5 0 0), (1, pI x1), (2, pI x2), (3, pI x4), (4, pI z)]) [1, 2, 3, 4, 0] dX5_tracksFor_3 (by decide) (fun _ => rfl) (fun x5 => ?_)
  refine sim_lz20 (fun z0 z1 => [(0, pR 5 0 0), (1, pI x1), (2, pI x2), (3, pI z0), (4, pI z1)]) (fun s8 hs9 x6 x7 => ?_) FU x4 x5
  unfold bM_tracksFor_5
  refine sim_iload dX5_tracksFor_5 rfl ?_
  refine sim_aload_n dX5_tracksFor_7 rfl ?_
  refine sim_iload_n dX5_tracksFor_8 rfl ?_
  refine sim_iconst (v := 0) dX5_tracksFor_9 (by decide) ?_
  refine sim_callV (As := [pI x1, pI 0]) (rest := [pI x7]) (k0 := 0) dX5_tracksFor_10 ln_X5_158 me_X5_ofPlace rfl (by decide) rfl (by decide) (Nat.le_of_ble_eq_true rfl) (Nat.le_of_ble_eq_true rfl) rfl (sM_ofPlace X x1 0 m3) (fun x10 => ?_)
  refine sim_icmp_ge (tgt := 46) dX5_tracksFor_13 (by decide) ?_ ?_
  · refine sim_iload_n dX5_tracksFor_46 rfl ?_
    exact sim_iret dX5_tracksFor_47 rfl rfl
  · refine sim_iload_n dX5_tracksFor_16 rfl ?_
    refine sim_aload_n dX5_tracksFor_17 rfl ?_
    refine sim_iload_n dX5_tracksFor_18 rfl ?_
    refine sim_iconst (v := 1) dX5_tracksFor_19 (by decide) ?_
    refine sim_iload dX5_tracksFor_20 rfl ?_
    refine sim_iadd dX5_tracksFor_22 ?_
    refine sim_callV (As := [pI x1, pI (1 + x7)]) (rest := [pI x6]) (k0 := 0) dX5_tracksFor_23 ln_X5_158 me_X5_ofPlace rfl (by decide) rfl (by decide) (Nat.le_of_ble_eq_true rfl) (Nat.le_of_ble_eq_true rfl) rfl (sM_ofPlace X x1 (1 + x7) m3) (fun x11 => ?_)
    refine sim_iload_n dX5_tracksFor_26 rfl ?_
    refine sim_jv 35 [(0, pR 5 0 0), (1, pI x1), (2, pI x2), (3, pI x6), (4, pI x7)] [pI x6] (fun x12 => ?_) (fun hV16 => ?_)
    · refine sim_callS (As := [pI x12]) (rest := [pI x6]) dX5_tracksFor_35 ln_X5_167 me_X5_flag rfl (by decide) (Nat.le_of_ble_eq_true rfl) (Nat.le_of_ble_eq_true rfl) rfl (sM_flag X x12 m3) (fun x13 => ?_)
      refine sim_iadd dX5_tracksFor_38 ?_
      refine sim_istore_n (fun z => [(0, pR 5 0 0), (1, pI x1), (2, pI x2), (3, pI z), (4, pI x7)]) [1, 2, 3, 0, 4] dX5_tracksFor_39 (by decide) (fun _ => rfl) (fun x14 => ?_)
      refine sim_iinc (y := 1) (fun z => [(0, pR 5 0 0), (1, pI x1), (2, pI x2), (3, pI x14), (4, pI z)]) [1, 2, 3, 4, 0] dX5_tracksFor_40 rfl (by decide) (by decide) (fun _ => rfl) (fun x15 => ?_)
      refine sim_goto (tgt := 5) dX5_tracksFor_43 (by decide) ?_
      exact hs9 x14 x15
    · refine sim_eq (lt_ite _ _ _ _) ?_
      refine sim_icmp_lt (tgt := 34) dX5_tracksFor_27 (by decide) ?_ ?_
      · refine sim_iconst (v := 0) dX5_tracksFor_34 (by decide) ?_
        exact hV16 _
      · refine sim_iconst (v := 1) dX5_tracksFor_30 (by decide) ?_
        refine sim_goto (tgt := 35) dX5_tracksFor_31 (by decide) ?_
        exact hV16 _

def bM_holds_4 (x1 : Int32) (m2 : Mem) (s7 : Int32 → Int32 → Option Int32) (x5 : Int32) (x6 : Int32) : Option Int32 :=
  gd (inb 1 238) (if (m2 (5, 0, 1) (ix 1)) ≤ x6 then (gd (isb x5) (some x5)) else (gd (inb x6 4) (if (m2 (5, 0, 14) (ix x6)) = (x1 + 1) then (if x5 = 0 then (lt 0 (fun (x10 : Int32) => lt (x6 + 1) (fun (x11 : Int32) => s7 x10 x11))) else (Option.bind (fM_ofTrain x6 2 m2) (fun x12 => Option.bind (fM_trainsFor x1 x12 m2) (fun x13 => Option.bind (fM_ofTrain x6 2 m2) (fun x14 => Option.bind (fM_tracksFor x1 x14 m2) (fun x15 => if x15 < x13 then (lt 0 (fun (x16 : Int32) => lt (x6 + 1) (fun (x17 : Int32) => s7 x16 x17))) else (lt 1 (fun (x18 : Int32) => lt (x6 + 1) (fun (x19 : Int32) => s7 x18 x19))))))))) else (lt (x6 + 1) (fun (x9 : Int32) => s7 x5 x9)))))
def fM_holds (x1 : Int32) (m2 : Mem) : Option Int32 :=
  lt 1 (fun (x3 : Int32) => lt 0 (fun (x4 : Int32) => lz20 (bM_holds_4 x1 m2) FU x3 x4))
abbrev rm_M_holds : Room := { frames := 2, cells := 0, slots := 0, locals := 46 }
set_option maxRecDepth 4000 in
theorem sM_holds (X : Sc) (x1 : Int32) (m2 : Mem) : Sim X cX5_holds 4 (some .boolean) RX5 rm_M_holds (fun r : Int32 => r) (fun _ : Int32 => m2) 0 [(0, pR 5 0 0), (1, pI x1)] [] m2 (fM_holds x1 m2) := by
  unfold fM_holds
  refine sim_iconst (v := 1) dX5_holds_0 (by decide) ?_
  refine sim_istore_n (fun z => [(0, pR 5 0 0), (1, pI x1), (2, pI z)]) [1, 2, 0] dX5_holds_1 (by decide) (fun _ => rfl) (fun x3 => ?_)
  refine sim_iconst (v := 0) dX5_holds_2 (by decide) ?_
  refine sim_istore_n (fun z => [(0, pR 5 0 0), (1, pI x1), (2, pI x3), (3, pI z)]) [1, 2, 3, 0] dX5_holds_3 (by decide) (fun _ => rfl) (fun x4 => ?_)
  refine sim_lz20 (fun z0 z1 => [(0, pR 5 0 0), (1, pI x1), (2, pI z0), (3, pI z1)]) (fun s7 hs8 x5 x6 => ?_) FU x3 x4
  unfold bM_holds_4
  refine sim_iload_n dX5_holds_4 rfl ?_
  refine sim_aload_n dX5_holds_5 rfl ?_
  refine sim_get (v := pR 5 0 1) dX5_holds_6 fl_X5_7 (by decide) rfl ?_
  refine sim_iconst (v := 1) dX5_holds_9 (by decide) ?_
  refine sim_iald dX5_holds_10 rfl (by decide) ?_
  refine sim_icmp_ge (tgt := 67) dX5_holds_11 (by decide) ?_ ?_
  · refine sim_iload_n dX5_holds_67 rfl ?_
    exact sim_zretg dX5_holds_68 rfl rfl
  · refine sim_aload_n dX5_holds_14 rfl ?_
    refine sim_get (v := pR 5 0 14) dX5_holds_15 fl_X5_29 (by decide) rfl ?_
    refine sim_iload_n dX5_holds_18 rfl ?_
    refine sim_iald dX5_holds_19 rfl (by decide) ?_
    refine sim_iload_n dX5_holds_20 rfl ?_
    refine sim_iconst (v := 1) dX5_holds_21 (by decide) ?_
    refine sim_iadd dX5_holds_22 ?_
    refine sim_icmp_ne (tgt := 61) dX5_holds_23 (by decide) ?_ ?_
    · refine sim_iload_n dX5_holds_26 rfl ?_
      refine sim_if_eq (tgt := 59) dX5_holds_27 (by decide) ?_ ?_
      · refine sim_iconst (v := 0) dX5_holds_59 (by decide) ?_
        refine sim_istore_n (fun z => [(0, pR 5 0 0), (1, pI x1), (2, pI z), (3, pI x6)]) [1, 2, 0, 3] dX5_holds_60 (by decide) (fun _ => rfl) (fun x10 => ?_)
        refine sim_iinc (y := 1) (fun z => [(0, pR 5 0 0), (1, pI x1), (2, pI x10), (3, pI z)]) [1, 2, 3, 0] dX5_holds_61 rfl (by decide) (by decide) (fun _ => rfl) (fun x11 => ?_)
        refine sim_goto (tgt := 4) dX5_holds_64 (by decide) ?_
        exact hs8 x10 x11
      · refine sim_aload_n dX5_holds_30 rfl ?_
        refine sim_iload_n dX5_holds_31 rfl ?_
        refine sim_aload_n dX5_holds_32 rfl ?_
        refine sim_iload_n dX5_holds_33 rfl ?_
        refine sim_iconst (v := 2) dX5_holds_34 (by decide) ?_
        refine sim_callV (As := [pI x6, pI 2]) (rest := [pI x1, pR 5 0 0]) (k0 := 0) dX5_holds_35 ln_X5_122 me_X5_ofTrain rfl (by decide) rfl (by decide) (Nat.le_of_ble_eq_true rfl) (Nat.le_of_ble_eq_true rfl) rfl (sM_ofTrain X x6 2 m2) (fun x12 => ?_)
        refine sim_callV (As := [pI x1, pI x12]) (rest := []) (k0 := 0) dX5_holds_38 ln_X5_177 me_X5_trainsFor rfl (by decide) rfl (by decide) (Nat.le_of_ble_eq_true rfl) (Nat.le_of_ble_eq_true rfl) rfl (sM_trainsFor X x1 x12 m2) (fun x13 => ?_)
        refine sim_aload_n dX5_holds_41 rfl ?_
        refine sim_iload_n dX5_holds_42 rfl ?_
        refine sim_aload_n dX5_holds_43 rfl ?_
        refine sim_iload_n dX5_holds_44 rfl ?_
        refine sim_iconst (v := 2) dX5_holds_45 (by decide) ?_
        refine sim_callV (As := [pI x6, pI 2]) (rest := [pI x1, pR 5 0 0, pI x13]) (k0 := 0) dX5_holds_46 ln_X5_122 me_X5_ofTrain rfl (by decide) rfl (by decide) (Nat.le_of_ble_eq_true rfl) (Nat.le_of_ble_eq_true rfl) rfl (sM_ofTrain X x6 2 m2) (fun x14 => ?_)
        refine sim_callV (As := [pI x1, pI x14]) (rest := [pI x13]) (k0 := 0) dX5_holds_49 ln_X5_180 me_X5_tracksFor rfl (by decide) rfl (by decide) (Nat.le_of_ble_eq_true rfl) (Nat.le_of_ble_eq_true rfl) rfl (sM_tracksFor X x1 x14 m2) (fun x15 => ?_)
        refine sim_icmp_gt (tgt := 59) dX5_holds_52 (by decide) ?_ ?_
        · refine sim_iconst (v := 0) dX5_holds_59 (by decide) ?_
          refine sim_istore_n (fun z => [(0, pR 5 0 0), (1, pI x1), (2, pI z), (3, pI x6)]) [1, 2, 0, 3] dX5_holds_60 (by decide) (fun _ => rfl) (fun x16 => ?_)
          refine sim_iinc (y := 1) (fun z => [(0, pR 5 0 0), (1, pI x1), (2, pI x16), (3, pI z)]) [1, 2, 3, 0] dX5_holds_61 rfl (by decide) (by decide) (fun _ => rfl) (fun x17 => ?_)
          refine sim_goto (tgt := 4) dX5_holds_64 (by decide) ?_
          exact hs8 x16 x17
        · refine sim_iconst (v := 1) dX5_holds_55 (by decide) ?_
          refine sim_goto (tgt := 60) dX5_holds_56 (by decide) ?_
          refine sim_istore_n (fun z => [(0, pR 5 0 0), (1, pI x1), (2, pI z), (3, pI x6)]) [1, 2, 0, 3] dX5_holds_60 (by decide) (fun _ => rfl) (fun x18 => ?_)
          refine sim_iinc (y := 1) (fun z => [(0, pR 5 0 0), (1, pI x1), (2, pI x18), (3, pI z)]) [1, 2, 3, 0] dX5_holds_61 rfl (by decide) (by decide) (fun _ => rfl) (fun x19 => ?_)
          refine sim_goto (tgt := 4) dX5_holds_64 (by decide) ?_
          exact hs8 x18 x19
    · refine sim_iinc (y := 1) (fun z => [(0, pR 5 0 0), (1, pI x1), (2, pI x5), (3, pI z)]) [1, 2, 3, 0] dX5_holds_61 rfl (by decide) (by decide) (fun _ => rfl) (fun x9 => ?_)
      refine sim_goto (tgt := 4) dX5_holds_64 (by decide) ?_
      exact hs8 x5 x9

def bM_isHeldAll_12 (m3 : Mem) (s8 : Int32 → Int32 → Option (Int32 × Mem)) (x6 : Int32) (x7 : Int32) : Option (Int32 × Mem) :=
  gd (inb 0 238) (if (m3 (5, 0, 1) (ix 0)) ≤ x7 then (gd (isb x6) (some (x6, m3))) else (if x6 = 0 then (lt 0 (fun (x10 : Int32) => lt (x7 + 1) (fun (x11 : Int32) => s8 x10 x11))) else (Option.bind (fM_holds x7 m3) (fun x12 => if x12 = 0 then (lt 0 (fun (x13 : Int32) => lt (x7 + 1) (fun (x14 : Int32) => s8 x13 x14))) else (lt 1 (fun (x15 : Int32) => lt (x7 + 1) (fun (x16 : Int32) => s8 x15 x16)))))))
def fM_isHeldAll (m1 : Mem) : Option (Int32 × Mem) :=
  Option.bind (fM_postureNow m1) (fun x2 => Option.bind (fM_decode x2 m1) (fun m3 => lt 1 (fun (x4 : Int32) => lt 0 (fun (x5 : Int32) => lz20 (bM_isHeldAll_12 m3) FU x4 x5))))
abbrev rm_M_isHeldAll : Room := { frames := 3, cells := 0, slots := 0, locals := 69 }
set_option maxRecDepth 4000 in
theorem sM_isHeldAll (X : Sc) (m1 : Mem) : Sim X cX5_isHeldAll 3 (some .boolean) RX5 rm_M_isHeldAll (fun q : Int32 × Mem => q.1) (fun q : Int32 × Mem => q.2) 0 [(0, pR 5 0 0)] [] m1 (fM_isHeldAll m1) := by
  unfold fM_isHeldAll
  refine sim_aload_n dX5_isHeldAll_0 rfl ?_
  refine sim_aload_n dX5_isHeldAll_1 rfl ?_
  refine sim_callV (As := []) (rest := [pR 5 0 0]) (k0 := 0) dX5_isHeldAll_2 ln_X5_126 me_X5_postureNow rfl (by decide) rfl (by decide) (Nat.le_of_ble_eq_true rfl) (Nat.le_of_ble_eq_true rfl) rfl (sM_postureNow X m1) (fun x2 => ?_)
  refine sim_callV (As := [pI x2]) (rest := []) (k0 := 0) dX5_isHeldAll_5 ln_X5_129 me_X5_decode rfl (by decide) rfl (by decide) (Nat.le_of_ble_eq_true rfl) (Nat.le_of_ble_eq_true rfl) rfl (sM_decode X x2 m1) (fun m3 => ?_)
  refine sim_iconst (v := 1) dX5_isHeldAll_8 (by decide) ?_
  refine sim_istore_n (fun z => [(0, pR 5 0 0), (1, pI z)]) [1, 0] dX5_isHeldAll_9 (by decide) (fun _ => rfl) (fun x4 => ?_)
  refine sim_iconst (v := 0) dX5_isHeldAll_10 (by decide) ?_
  refine sim_istore_n (fun z => [(0, pR 5 0 0), (1, pI x4), (2, pI z)]) [1, 2, 0] dX5_isHeldAll_11 (by decide) (fun _ => rfl) (fun x5 => ?_)
  refine sim_lz20 (fun z0 z1 => [(0, pR 5 0 0), (1, pI z0), (2, pI z1)]) (fun s8 hs9 x6 x7 => ?_) FU x4 x5
  unfold bM_isHeldAll_12
  refine sim_iload_n dX5_isHeldAll_12 rfl ?_
  refine sim_aload_n dX5_isHeldAll_13 rfl ?_
  refine sim_get (v := pR 5 0 1) dX5_isHeldAll_14 fl_X5_7 (by decide) rfl ?_
  refine sim_iconst (v := 0) dX5_isHeldAll_17 (by decide) ?_
  refine sim_iald dX5_isHeldAll_18 rfl (by decide) ?_
  refine sim_icmp_ge (tgt := 46) dX5_isHeldAll_19 (by decide) ?_ ?_
  · refine sim_iload_n dX5_isHeldAll_46 rfl ?_
    exact sim_zretg dX5_isHeldAll_47 rfl rfl
  · refine sim_iload_n dX5_isHeldAll_22 rfl ?_
    refine sim_if_eq (tgt := 38) dX5_isHeldAll_23 (by decide) ?_ ?_
    · refine sim_iconst (v := 0) dX5_isHeldAll_38 (by decide) ?_
      refine sim_istore_n (fun z => [(0, pR 5 0 0), (1, pI z), (2, pI x7)]) [1, 0, 2] dX5_isHeldAll_39 (by decide) (fun _ => rfl) (fun x10 => ?_)
      refine sim_iinc (y := 1) (fun z => [(0, pR 5 0 0), (1, pI x10), (2, pI z)]) [1, 2, 0] dX5_isHeldAll_40 rfl (by decide) (by decide) (fun _ => rfl) (fun x11 => ?_)
      refine sim_goto (tgt := 12) dX5_isHeldAll_43 (by decide) ?_
      exact hs9 x10 x11
    · refine sim_aload_n dX5_isHeldAll_26 rfl ?_
      refine sim_iload_n dX5_isHeldAll_27 rfl ?_
      refine sim_callV (As := [pI x7]) (rest := []) (k0 := 0) dX5_isHeldAll_28 ln_X5_133 me_X5_holds rfl (by decide) rfl (by decide) (Nat.le_of_ble_eq_true rfl) (Nat.le_of_ble_eq_true rfl) rfl (sM_holds X x7 m3) (fun x12 => ?_)
      refine sim_if_eq (tgt := 38) dX5_isHeldAll_31 (by decide) ?_ ?_
      · refine sim_iconst (v := 0) dX5_isHeldAll_38 (by decide) ?_
        refine sim_istore_n (fun z => [(0, pR 5 0 0), (1, pI z), (2, pI x7)]) [1, 0, 2] dX5_isHeldAll_39 (by decide) (fun _ => rfl) (fun x13 => ?_)
        refine sim_iinc (y := 1) (fun z => [(0, pR 5 0 0), (1, pI x13), (2, pI z)]) [1, 2, 0] dX5_isHeldAll_40 rfl (by decide) (by decide) (fun _ => rfl) (fun x14 => ?_)
        refine sim_goto (tgt := 12) dX5_isHeldAll_43 (by decide) ?_
        exact hs9 x13 x14
      · refine sim_iconst (v := 1) dX5_isHeldAll_34 (by decide) ?_
        refine sim_goto (tgt := 39) dX5_isHeldAll_35 (by decide) ?_
        refine sim_istore_n (fun z => [(0, pR 5 0 0), (1, pI z), (2, pI x7)]) [1, 0, 2] dX5_isHeldAll_39 (by decide) (fun _ => rfl) (fun x15 => ?_)
        refine sim_iinc (y := 1) (fun z => [(0, pR 5 0 0), (1, pI x15), (2, pI z)]) [1, 2, 0] dX5_isHeldAll_40 rfl (by decide) (by decide) (fun _ => rfl) (fun x16 => ?_)
        refine sim_goto (tgt := 12) dX5_isHeldAll_43 (by decide) ?_
        exact hs9 x15 x16

def fM_nextFrom (x1 : Int32) (x2 : Int32) (m3 : Mem) : Option Int32 :=
  Option.bind (fM_ofTrain x1 1 m3) (fun x4 => Option.bind (fM_ofTrain x1 0 m3) (fun x5 => if x4 ≤ x5 then (some (x2 - 1)) else (some (x2 + 1))))
abbrev rm_M_nextFrom : Room := { frames := 1, cells := 0, slots := 0, locals := 22 }
set_option maxRecDepth 4000 in
theorem sM_nextFrom (X : Sc) (x1 : Int32) (x2 : Int32) (m3 : Mem) : Sim X cX5_nextFrom 3 (some .int) RX5 rm_M_nextFrom (fun r : Int32 => r) (fun _ : Int32 => m3) 0 [(0, pR 5 0 0), (1, pI x1), (2, pI x2)] [] m3 (fM_nextFrom x1 x2 m3) := by
  unfold fM_nextFrom
  refine sim_aload_n dX5_nextFrom_0 rfl ?_
  refine sim_iload_n dX5_nextFrom_1 rfl ?_
  refine sim_iconst (v := 1) dX5_nextFrom_2 (by decide) ?_
  refine sim_callV (As := [pI x1, pI 1]) (rest := []) (k0 := 0) dX5_nextFrom_3 ln_X5_122 me_X5_ofTrain rfl (by decide) rfl (by decide) (Nat.le_of_ble_eq_true rfl) (Nat.le_of_ble_eq_true rfl) rfl (sM_ofTrain X x1 1 m3) (fun x4 => ?_)
  refine sim_aload_n dX5_nextFrom_6 rfl ?_
  refine sim_iload_n dX5_nextFrom_7 rfl ?_
  refine sim_iconst (v := 0) dX5_nextFrom_8 (by decide) ?_
  refine sim_callV (As := [pI x1, pI 0]) (rest := [pI x4]) (k0 := 0) dX5_nextFrom_9 ln_X5_122 me_X5_ofTrain rfl (by decide) rfl (by decide) (Nat.le_of_ble_eq_true rfl) (Nat.le_of_ble_eq_true rfl) rfl (sM_ofTrain X x1 0 m3) (fun x5 => ?_)
  refine sim_icmp_le (tgt := 21) dX5_nextFrom_12 (by decide) ?_ ?_
  · refine sim_iload_n dX5_nextFrom_21 rfl ?_
    refine sim_iconst (v := 1) dX5_nextFrom_22 (by decide) ?_
    refine sim_isub dX5_nextFrom_23 ?_
    exact sim_iret dX5_nextFrom_24 rfl rfl
  · refine sim_iload_n dX5_nextFrom_15 rfl ?_
    refine sim_iconst (v := 1) dX5_nextFrom_16 (by decide) ?_
    refine sim_iadd dX5_nextFrom_17 ?_
    refine sim_goto (tgt := 24) dX5_nextFrom_18 (by decide) ?_
    exact sim_iret dX5_nextFrom_24 rfl rfl

def bM_encode_4 (m1 : Mem) (s6 : Int32 → Int32 → Option Int32) (x4 : Int32) (x5 : Int32) : Option Int32 :=
  if 4 ≤ x5 then (some x4) else (Option.bind (fM_weightOf x5 m1) (fun x8 => gd (inb x5 4) (lt (x4 + (x8 * (m1 (5, 0, 14) (ix x5)))) (fun (x9 : Int32) => lt (x5 + 1) (fun (x10 : Int32) => s6 x9 x10)))))
def fM_encode (m1 : Mem) : Option Int32 :=
  lt 0 (fun (x2 : Int32) => lt 0 (fun (x3 : Int32) => lz20 (bM_encode_4 m1) FU x2 x3))
abbrev rm_M_encode : Room := { frames := 1, cells := 0, slots := 0, locals := 20 }
set_option maxRecDepth 4000 in
theorem sM_encode (X : Sc) (m1 : Mem) : Sim X cX5_encode 3 (some .int) RX5 rm_M_encode (fun r : Int32 => r) (fun _ : Int32 => m1) 0 [(0, pR 5 0 0)] [] m1 (fM_encode m1) := by
  unfold fM_encode
  refine sim_iconst (v := 0) dX5_encode_0 (by decide) ?_
  refine sim_istore_n (fun z => [(0, pR 5 0 0), (1, pI z)]) [1, 0] dX5_encode_1 (by decide) (fun _ => rfl) (fun x2 => ?_)
  refine sim_iconst (v := 0) dX5_encode_2 (by decide) ?_
  refine sim_istore_n (fun z => [(0, pR 5 0 0), (1, pI x2), (2, pI z)]) [1, 2, 0] dX5_encode_3 (by decide) (fun _ => rfl) (fun x3 => ?_)
  refine sim_lz20 (fun z0 z1 => [(0, pR 5 0 0), (1, pI z0), (2, pI z1)]) (fun s6 hs7 x4 x5 => ?_) FU x2 x3
  unfold bM_encode_4
  refine sim_iload_n dX5_encode_4 rfl ?_
  refine sim_iconst (v := 4) dX5_encode_5 (by decide) ?_
  refine sim_icmp_ge (tgt := 29) dX5_encode_6 (by decide) ?_ ?_
  · refine sim_iload_n dX5_encode_29 rfl ?_
    exact sim_iret dX5_encode_30 rfl rfl
  · refine sim_iload_n dX5_encode_9 rfl ?_
    refine sim_iload_n dX5_encode_10 rfl ?_
    refine sim_callS (As := [pI x5]) (rest := [pI x4]) dX5_encode_11 ln_X5_174 me_X5_weightOf rfl (by decide) (Nat.le_of_ble_eq_true rfl) (Nat.le_of_ble_eq_true rfl) rfl (sM_weightOf X x5 m1) (fun x8 => ?_)
    refine sim_aload_n dX5_encode_14 rfl ?_
    refine sim_get (v := pR 5 0 14) dX5_encode_15 fl_X5_29 (by decide) rfl ?_
    refine sim_iload_n dX5_encode_18 rfl ?_
    refine sim_iald dX5_encode_19 rfl (by decide) ?_
    refine sim_imul dX5_encode_20 ?_
    refine sim_iadd dX5_encode_21 ?_
    refine sim_istore_n (fun z => [(0, pR 5 0 0), (1, pI z), (2, pI x5)]) [1, 0, 2] dX5_encode_22 (by decide) (fun _ => rfl) (fun x9 => ?_)
    refine sim_iinc (y := 1) (fun z => [(0, pR 5 0 0), (1, pI x9), (2, pI z)]) [1, 2, 0] dX5_encode_23 rfl (by decide) (by decide) (fun _ => rfl) (fun x10 => ?_)
    refine sim_goto (tgt := 4) dX5_encode_26 (by decide) ?_
    exact hs7 x9 x10

def jM_movedBy_67 (x1 : Int32) (x3 : Int32) (x8 : Int32) (m9 : Mem) : Option (Int32 × Mem) :=
  if x8 = 0 then (lt (-4) (fun (x10 : Int32) => gd (inb x1 4) (lt (wr m9 (5, 0, 14) (ix x1) x3) (fun m11 => some (x10, m11))))) else (Option.bind (fM_encode m9) (fun x12 => lt x12 (fun (x13 : Int32) => gd (inb x1 4) (lt (wr m9 (5, 0, 14) (ix x1) x3) (fun m14 => some (x13, m14))))))
def fM_movedBy (x1 : Int32) (m2 : Mem) : Option (Int32 × Mem) :=
  gd (inb x1 4) (if (m2 (5, 0, 14) (ix x1)) = 0 then (some ((-4), m2)) else (gd (inb x1 4) (lt (m2 (5, 0, 14) (ix x1)) (fun (x3 : Int32) => Option.bind (fM_nextFrom x1 (x3 - 1) m2) (fun x4 => lt x4 (fun (x5 : Int32) => lt 1 (fun (x6 : Int32) => Option.bind (fM_ofTrain x1 1 m2) (fun x7 => if x5 = x7 then (gd (inb x1 4) (lt (wr m2 (5, 0, 14) (ix x1) 0) (fun m19 => jM_movedBy_67 x1 x3 x6 m19))) else (gd (inb x1 4) (lt (wr m2 (5, 0, 14) (ix x1) (x5 + 1)) (fun m16 => Option.bind (fM_holds x5 m16) (fun x17 => lt x17 (fun (x18 : Int32) => jM_movedBy_67 x1 x3 x18 m16)))))))))))))
abbrev rm_M_movedBy : Room := { frames := 3, cells := 0, slots := 0, locals := 69 }
set_option maxRecDepth 4000 in
theorem sM_movedBy (X : Sc) (x1 : Int32) (m2 : Mem) : Sim X cX5_movedBy 6 (some .int) RX5 rm_M_movedBy (fun q : Int32 × Mem => q.1) (fun q : Int32 × Mem => q.2) 0 [(0, pR 5 0 0), (1, pI x1)] [] m2 (fM_movedBy x1 m2) := by
  unfold fM_movedBy
  refine sim_aload_n dX5_movedBy_0 rfl ?_
  refine sim_get (v := pR 5 0 14) dX5_movedBy_1 fl_X5_29 (by decide) rfl ?_
  refine sim_iload_n dX5_movedBy_4 rfl ?_
  refine sim_iald dX5_movedBy_5 rfl (by decide) ?_
  refine sim_if_ne (tgt := 12) dX5_movedBy_6 (by decide) ?_ ?_
  · refine sim_bipush (v := (-4)) dX5_movedBy_9 (by decide) ?_
    exact sim_iret dX5_movedBy_11 rfl rfl
  · refine sim_aload_n dX5_movedBy_12 rfl ?_
    refine sim_get (v := pR 5 0 14) dX5_movedBy_13 fl_X5_29 (by decide) rfl ?_
    refine sim_iload_n dX5_movedBy_16 rfl ?_
    refine sim_iald dX5_movedBy_17 rfl (by decide) ?_
    refine sim_istore_n (fun z => [(0, pR 5 0 0), (1, pI x1), (2, pI z)]) [1, 2, 0] dX5_movedBy_18 (by decide) (fun _ => rfl) (fun x3 => ?_)
    refine sim_aload_n dX5_movedBy_19 rfl ?_
    refine sim_iload_n dX5_movedBy_20 rfl ?_
    refine sim_iload_n dX5_movedBy_21 rfl ?_
    refine sim_iconst (v := 1) dX5_movedBy_22 (by decide) ?_
    refine sim_isub dX5_movedBy_23 ?_
    refine sim_callV (As := [pI x1, pI (x3 - 1)]) (rest := []) (k0 := 0) dX5_movedBy_24 ln_X5_161 me_X5_nextFrom rfl (by decide) rfl (by decide) (Nat.le_of_ble_eq_true rfl) (Nat.le_of_ble_eq_true rfl) rfl (sM_nextFrom X x1 (x3 - 1) m2) (fun x4 => ?_)
    refine sim_istore_n (fun z => [(0, pR 5 0 0), (1, pI x1), (2, pI x3), (3, pI z)]) [1, 2, 3, 0] dX5_movedBy_27 (by decide) (fun _ => rfl) (fun x5 => ?_)
    refine sim_iconst (v := 1) dX5_movedBy_28 (by decide) ?_
    refine sim_istore (fun z => [(0, pR 5 0 0), (1, pI x1), (2, pI x3), (3, pI x5), (4, pI z)]) [1, 2, 3, 4, 0] dX5_movedBy_29 (by decide) (fun _ => rfl) (fun x6 => ?_)
    refine sim_iload_n dX5_movedBy_31 rfl ?_
    refine sim_aload_n dX5_movedBy_32 rfl ?_
    refine sim_iload_n dX5_movedBy_33 rfl ?_
    refine sim_iconst (v := 1) dX5_movedBy_34 (by decide) ?_
    refine sim_callV (As := [pI x1, pI 1]) (rest := [pI x5]) (k0 := 0) dX5_movedBy_35 ln_X5_122 me_X5_ofTrain rfl (by decide) rfl (by decide) (Nat.le_of_ble_eq_true rfl) (Nat.le_of_ble_eq_true rfl) rfl (sM_ofTrain X x1 1 m2) (fun x7 => ?_)
    have hJ15 : ∀ (x8 : Int32) (m9 : Mem), Sim X cX5_movedBy 6 (some .int) RX5 rm_M_movedBy (fun q : Int32 × Mem => q.1) (fun q : Int32 × Mem => q.2) 67 [(0, pR 5 0 0), (1, pI x1), (2, pI x3), (3, pI x5), (4, pI x8)] [] m9 (jM_movedBy_67 x1 x3 x8 m9) := by
      intro x8 m9
      unfold jM_movedBy_67
      refine sim_iload dX5_movedBy_67 rfl ?_
      refine sim_if_eq (tgt := 79) dX5_movedBy_69 (by decide) ?_ ?_
      · refine sim_bipush (v := (-4)) dX5_movedBy_79 (by decide) ?_
        refine sim_istore (fun z => [(0, pR 5 0 0), (1, pI x1), (2, pI x3), (3, pI x5), (4, pI x8), (5, pI z)]) [1, 2, 3, 4, 5, 0] dX5_movedBy_81 (by decide) (fun _ => rfl) (fun x10 => ?_)
        refine sim_aload_n dX5_movedBy_83 rfl ?_
        refine sim_get (v := pR 5 0 14) dX5_movedBy_84 fl_X5_29 (by decide) rfl ?_
        refine sim_iload_n dX5_movedBy_87 rfl ?_
        refine sim_iload_n dX5_movedBy_88 rfl ?_
        refine sim_iast dX5_movedBy_89 rfl (by decide) (fun m11 => ?_)
        refine sim_iload dX5_movedBy_90 rfl ?_
        exact sim_iret dX5_movedBy_92 rfl rfl
      · refine sim_aload_n dX5_movedBy_72 rfl ?_
        refine sim_callV (As := []) (rest := []) (k0 := 0) dX5_movedBy_73 ln_X5_183 me_X5_encode rfl (by decide) rfl (by decide) (Nat.le_of_ble_eq_true rfl) (Nat.le_of_ble_eq_true rfl) rfl (sM_encode X m9) (fun x12 => ?_)
        refine sim_goto (tgt := 81) dX5_movedBy_76 (by decide) ?_
        refine sim_istore (fun z => [(0, pR 5 0 0), (1, pI x1), (2, pI x3), (3, pI x5), (4, pI x8), (5, pI z)]) [1, 2, 3, 4, 5, 0] dX5_movedBy_81 (by decide) (fun _ => rfl) (fun x13 => ?_)
        refine sim_aload_n dX5_movedBy_83 rfl ?_
        refine sim_get (v := pR 5 0 14) dX5_movedBy_84 fl_X5_29 (by decide) rfl ?_
        refine sim_iload_n dX5_movedBy_87 rfl ?_
        refine sim_iload_n dX5_movedBy_88 rfl ?_
        refine sim_iast dX5_movedBy_89 rfl (by decide) (fun m14 => ?_)
        refine sim_iload dX5_movedBy_90 rfl ?_
        exact sim_iret dX5_movedBy_92 rfl rfl
    refine sim_icmp_ne (tgt := 51) dX5_movedBy_38 (by decide) ?_ ?_
    · refine sim_aload_n dX5_movedBy_41 rfl ?_
      refine sim_get (v := pR 5 0 14) dX5_movedBy_42 fl_X5_29 (by decide) rfl ?_
      refine sim_iload_n dX5_movedBy_45 rfl ?_
      refine sim_iconst (v := 0) dX5_movedBy_46 (by decide) ?_
      refine sim_iast dX5_movedBy_47 rfl (by decide) (fun m19 => ?_)
      refine sim_goto (tgt := 67) dX5_movedBy_48 (by decide) ?_
      exact hJ15 x6 m19
    · refine sim_aload_n dX5_movedBy_51 rfl ?_
      refine sim_get (v := pR 5 0 14) dX5_movedBy_52 fl_X5_29 (by decide) rfl ?_
      refine sim_iload_n dX5_movedBy_55 rfl ?_
      refine sim_iload_n dX5_movedBy_56 rfl ?_
      refine sim_iconst (v := 1) dX5_movedBy_57 (by decide) ?_
      refine sim_iadd dX5_movedBy_58 ?_
      refine sim_iast dX5_movedBy_59 rfl (by decide) (fun m16 => ?_)
      refine sim_aload_n dX5_movedBy_60 rfl ?_
      refine sim_iload_n dX5_movedBy_61 rfl ?_
      refine sim_callV (As := [pI x5]) (rest := []) (k0 := 0) dX5_movedBy_62 ln_X5_133 me_X5_holds rfl (by decide) rfl (by decide) (Nat.le_of_ble_eq_true rfl) (Nat.le_of_ble_eq_true rfl) rfl (sM_holds X x5 m16) (fun x17 => ?_)
      refine sim_istore (fun z => [(0, pR 5 0 0), (1, pI x1), (2, pI x3), (3, pI x5), (4, pI z)]) [1, 2, 3, 4, 0] dX5_movedBy_65 (by decide) (fun _ => rfl) (fun x18 => ?_)
      exact hJ15 x18 m16

def jM_explore_236 (s15 : Int32 → Mem → Option Mem) (x13 : Int32) (x21 : Int32) (x22 : Int32) (m23 : Mem) : Option Mem :=
  gd (inb x13 2401) (gd (inb (m23 (5, 0, 15) (ix x13)) 2401) (lt (wr m23 (5, 0, 17) (ix (m23 (5, 0, 15) (ix x13))) (vp_nar .boolean x21)) (fun m24 => lt (x13 + (-1)) (fun (x25 : Int32) => s15 x25 m24))))
def bM_explore_184 (s15 : Int32 → Mem → Option Mem) (x13 : Int32) (s30 : Int32 → Int32 → Mem → Option Mem) (x27 : Int32) (x28 : Int32) (m29 : Mem) : Option Mem :=
  gd (inb 1 238) (if (m29 (5, 0, 1) (ix 1)) ≤ x28 then (jM_explore_236 s15 x13 x27 x28 m29) else (Option.bind (fM_movedBy x28 m29) (fun q32 => lt q32.1 (fun (x33 : Int32) => if x27 = 0 then (if x33 = (-4) then (lt 0 (fun (x36 : Int32) => lt (x28 + 1) (fun (x37 : Int32) => s30 x36 x37 q32.2))) else (gd (inb x33 2401) (if (q32.2 (5, 0, 17) (ix x33)) = 0 then (lt 0 (fun (x38 : Int32) => lt (x28 + 1) (fun (x39 : Int32) => s30 x38 x39 q32.2))) else (lt 1 (fun (x40 : Int32) => lt (x28 + 1) (fun (x41 : Int32) => s30 x40 x41 q32.2)))))) else (lt 1 (fun (x34 : Int32) => lt (x28 + 1) (fun (x35 : Int32) => s30 x34 x35 q32.2)))))))
def bM_explore_152 (s15 : Int32 → Mem → Option Mem) (x13 : Int32) (m14 : Mem) : Option Mem :=
  if x13 < 0 then (some m14) else (gd (inb x13 2401) (Option.bind (fM_decode (m14 (5, 0, 15) (ix x13)) m14) (fun m17 => gd (inb x13 2401) (lt (if (m17 (5, 0, 15) (ix x13)) = 0 then 1 else 0) (fun (x18 : Int32) => lt x18 (fun (x19 : Int32) => lt 0 (fun (x20 : Int32) => lz21 (bM_explore_184 s15 x13) FU x19 x20 m17)))))))
def jM_explore_145 (x10 : Int32) (m11 : Mem) : Option Mem :=
  lt ((m11 (5, 0, 0) 17) - 1) (fun (x12 : Int32) => lz11 (bM_explore_152) FU x12 m11)
def jM_explore_139 (s46 : Int32 → Mem → Option Mem) (x44 : Int32) (x50 : Int32) (m51 : Mem) : Option Mem :=
  lt (x44 + 1) (fun (x52 : Int32) => s46 x52 m51)
def bM_explore_70 (s46 : Int32 → Mem → Option Mem) (x44 : Int32) (s56 : Int32 → Mem → Option Mem) (x54 : Int32) (m55 : Mem) : Option Mem :=
  gd (inb 1 238) (if (m55 (5, 0, 1) (ix 1)) ≤ x54 then (jM_explore_139 s46 x44 x54 m55) else (Option.bind (fM_movedBy x54 m55) (fun q58 => lt q58.1 (fun (x59 : Int32) => if x59 = (-4) then (lt (x54 + 1) (fun (x60 : Int32) => s56 x60 q58.2)) else (gd (inb x59 2401) (if (q58.2 (5, 0, 16) (ix x59)) = 0 then (gd (inb x59 2401) (lt (wr q58.2 (5, 0, 16) (ix x59) (vp_nar .boolean 1)) (fun m62 => gd (inb (m62 (5, 0, 0) 17) 2401) (lt (wr m62 (5, 0, 15) (ix (m62 (5, 0, 0) 17)) x59) (fun m63 => lt (wr m63 (5, 0, 0) 17 ((m63 (5, 0, 0) 17) + 1)) (fun m64 => lt (x54 + 1) (fun (x65 : Int32) => s56 x65 m64))))))) else (lt (x54 + 1) (fun (x61 : Int32) => s56 x61 q58.2))))))))
def bM_explore_50 (s46 : Int32 → Mem → Option Mem) (x44 : Int32) (m45 : Mem) : Option Mem :=
  if (m45 (5, 0, 0) 17) ≤ x44 then (jM_explore_145 x44 m45) else (gd (inb x44 2401) (Option.bind (fM_decode (m45 (5, 0, 15) (ix x44)) m45) (fun m48 => lt 0 (fun (x49 : Int32) => lz11 (bM_explore_70 s46 x44) FU x49 m48))))
def jM_explore_29 (x1 : Int32) (x4 : Int32) (m5 : Mem) : Option Mem :=
  gd (inb 0 2401) (lt (wr m5 (5, 0, 15) (ix 0) x1) (fun m6 => gd (inb x1 2401) (lt (wr m6 (5, 0, 16) (ix x1) (vp_nar .boolean 1)) (fun m7 => lt (wr m7 (5, 0, 0) 17 1) (fun m8 => lt 0 (fun (x9 : Int32) => lz11 (bM_explore_50) FU x9 m8))))))
def bM_explore_2 (x1 : Int32) (s69 : Int32 → Mem → Option Mem) (x67 : Int32) (m68 : Mem) : Option Mem :=
  if 2401 ≤ x67 then (jM_explore_29 x1 x67 m68) else (gd (inb x67 2401) (lt (wr m68 (5, 0, 16) (ix x67) (vp_nar .boolean 0)) (fun m71 => gd (inb x67 2401) (lt (wr m71 (5, 0, 17) (ix x67) (vp_nar .boolean 0)) (fun m72 => lt (x67 + 1) (fun (x73 : Int32) => s69 x73 m72))))))
def fM_explore (x1 : Int32) (m2 : Mem) : Option Mem :=
  lt 0 (fun (x3 : Int32) => lz11 (bM_explore_2 x1) FU x3 m2)
abbrev rm_M_explore : Room := { frames := 4, cells := 0, slots := 0, locals := 94 }
set_option maxRecDepth 4000 in
theorem sM_explore (X : Sc) (x1 : Int32) (m2 : Mem) : Sim X cX5_explore 6 none RX5 rm_M_explore (fun _ : Mem => 0) (fun m : Mem => m) 0 [(0, pR 5 0 0), (1, pI x1)] [] m2 (fM_explore x1 m2) := by
  unfold fM_explore
  refine sim_iconst (v := 0) dX5_explore_0 (by decide) ?_
  refine sim_istore_n (fun z => [(0, pR 5 0 0), (1, pI x1), (2, pI z)]) [1, 2, 0] dX5_explore_1 (by decide) (fun _ => rfl) (fun x3 => ?_)
  have hJ66 : ∀ (x4 : Int32) (m5 : Mem), Sim X cX5_explore 6 none RX5 rm_M_explore (fun _ : Mem => 0) (fun m : Mem => m) 29 [(0, pR 5 0 0), (1, pI x1), (2, pI x4)] [] m5 (jM_explore_29 x1 x4 m5) := by
    intro x4 m5
    unfold jM_explore_29
    refine sim_aload_n dX5_explore_29 rfl ?_
    refine sim_get (v := pR 5 0 15) dX5_explore_30 fl_X5_32 (by decide) rfl ?_
    refine sim_iconst (v := 0) dX5_explore_33 (by decide) ?_
    refine sim_iload_n dX5_explore_34 rfl ?_
    refine sim_iast dX5_explore_35 rfl (by decide) (fun m6 => ?_)
    refine sim_aload_n dX5_explore_36 rfl ?_
    refine sim_get (v := pR 5 0 16) dX5_explore_37 fl_X5_35 (by decide) rfl ?_
    refine sim_iload_n dX5_explore_40 rfl ?_
    refine sim_iconst (v := 1) dX5_explore_41 (by decide) ?_
    refine sim_zast dX5_explore_42 rfl (by decide) (fun m7 => ?_)
    refine sim_aload_n dX5_explore_43 rfl ?_
    refine sim_iconst (v := 1) dX5_explore_44 (by decide) ?_
    refine sim_put dX5_explore_45 fl_X5_186 fp_5_17 rfl rfl (fun m8 => ?_)
    refine sim_iconst (v := 0) dX5_explore_48 (by decide) ?_
    refine sim_istore_n (fun z => [(0, pR 5 0 0), (1, pI x1), (2, pI z)]) [1, 2, 0] dX5_explore_49 (by decide) (fun _ => rfl) (fun x9 => ?_)
    have hJ43 : ∀ (x10 : Int32) (m11 : Mem), Sim X cX5_explore 6 none RX5 rm_M_explore (fun _ : Mem => 0) (fun m : Mem => m) 145 [(0, pR 5 0 0), (1, pI x1), (2, pI x10)] [] m11 (jM_explore_145 x10 m11) := by
      intro x10 m11
      unfold jM_explore_145
      refine sim_aload_n dX5_explore_145 rfl ?_
      refine sim_get (v := pI (m11 (5, 0, 0) 17)) dX5_explore_146 fl_X5_186 (by decide) rfl ?_
      refine sim_iconst (v := 1) dX5_explore_149 (by decide) ?_
      refine sim_isub dX5_explore_150 ?_
      refine sim_istore_n (fun z => [(0, pR 5 0 0), (1, pI x1), (2, pI z)]) [1, 2, 0] dX5_explore_151 (by decide) (fun _ => rfl) (fun x12 => ?_)
      refine sim_lz11 (fun z0 => [(0, pR 5 0 0), (1, pI x1), (2, pI z0)]) (fun s15 hs16 x13 m14 => ?_) FU x12 m11
      unfold bM_explore_152
      refine sim_iload_n dX5_explore_152 rfl ?_
      refine sim_if_lt (tgt := 254) dX5_explore_153 (by decide) ?_ ?_
      · exact sim_ret dX5_explore_254 rfl
      · refine sim_aload_n dX5_explore_156 rfl ?_
        refine sim_aload_n dX5_explore_157 rfl ?_
        refine sim_get (v := pR 5 0 15) dX5_explore_158 fl_X5_32 (by decide) rfl ?_
        refine sim_iload_n dX5_explore_161 rfl ?_
        refine sim_iald dX5_explore_162 rfl (by decide) ?_
        refine sim_callV (As := [pI (m14 (5, 0, 15) (ix x13))]) (rest := []) (k0 := 0) dX5_explore_163 ln_X5_129 me_X5_decode rfl (by decide) rfl (by decide) (Nat.le_of_ble_eq_true rfl) (Nat.le_of_ble_eq_true rfl) rfl (sM_decode X (m14 (5, 0, 15) (ix x13)) m14) (fun m17 => ?_)
        refine sim_aload_n dX5_explore_166 rfl ?_
        refine sim_get (v := pR 5 0 15) dX5_explore_167 fl_X5_32 (by decide) rfl ?_
        refine sim_iload_n dX5_explore_170 rfl ?_
        refine sim_iald dX5_explore_171 rfl (by decide) ?_
        refine sim_jv 180 [(0, pR 5 0 0), (1, pI x1), (2, pI x13)] [] (fun x18 => ?_) (fun hV42 => ?_)
        · refine sim_istore_n (fun z => [(0, pR 5 0 0), (1, pI x1), (2, pI x13), (3, pI z)]) [1, 2, 3, 0] dX5_explore_180 (by decide) (fun _ => rfl) (fun x19 => ?_)
          refine sim_iconst (v := 0) dX5_explore_181 (by decide) ?_
          refine sim_istore (fun z => [(0, pR 5 0 0), (1, pI x1), (2, pI x13), (3, pI x19), (4, pI z)]) [1, 2, 3, 4, 0] dX5_explore_182 (by decide) (fun _ => rfl) (fun x20 => ?_)
          have hJ26 : ∀ (x21 : Int32) (x22 : Int32) (m23 : Mem), Sim X cX5_explore 6 none RX5 rm_M_explore (fun _ : Mem => 0) (fun m : Mem => m) 236 [(0, pR 5 0 0), (1, pI x1), (2, pI x13), (3, pI x21), (4, pI x22)] [] m23 (jM_explore_236 s15 x13 x21 x22 m23) := by
            intro x21 x22 m23
            unfold jM_explore_236
            refine sim_aload_n dX5_explore_236 rfl ?_
            refine sim_get (v := pR 5 0 17) dX5_explore_237 fl_X5_38 (by decide) rfl ?_
            refine sim_aload_n dX5_explore_240 rfl ?_
            refine sim_get (v := pR 5 0 15) dX5_explore_241 fl_X5_32 (by decide) rfl ?_
            refine sim_iload_n dX5_explore_244 rfl ?_
            refine sim_iald dX5_explore_245 rfl (by decide) ?_
            refine sim_iload_n dX5_explore_246 rfl ?_
            refine sim_zast dX5_explore_247 rfl (by decide) (fun m24 => ?_)
            refine sim_iinc (y := (-1)) (fun z => [(0, pR 5 0 0), (1, pI x1), (2, pI z), (3, pI x21), (4, pI x22)]) [1, 2, 0, 3, 4] dX5_explore_248 rfl (by decide) (by decide) (fun _ => rfl) (fun x25 => ?_)
            refine sim_goto (tgt := 152) dX5_explore_251 (by decide) ?_
            refine sim_pick [(0, pR 5 0 0), (1, pI x1), (2, pI x25)] [0, 1, 2] rfl ?_
            exact hs16 x25 m24
          refine sim_lz21 (fun z0 z1 => [(0, pR 5 0 0), (1, pI x1), (2, pI x13), (3, pI z0), (4, pI z1)]) (fun s30 hs31 x27 x28 m29 => ?_) FU x19 x20 m17
          unfold bM_explore_184
          refine sim_iload dX5_explore_184 rfl ?_
          refine sim_aload_n dX5_explore_186 rfl ?_
          refine sim_get (v := pR 5 0 1) dX5_explore_187 fl_X5_7 (by decide) rfl ?_
          refine sim_iconst (v := 1) dX5_explore_190 (by decide) ?_
          refine sim_iald dX5_explore_191 rfl (by decide) ?_
          refine sim_icmp_ge (tgt := 236) dX5_explore_192 (by decide) ?_ ?_
          · exact hJ26 x27 x28 m29
          · refine sim_aload_n dX5_explore_195 rfl ?_
            refine sim_iload dX5_explore_196 rfl ?_
            refine sim_callV (As := [pI x28]) (rest := []) (k0 := 0) dX5_explore_198 ln_X5_189 me_X5_movedBy rfl (by decide) rfl (by decide) (Nat.le_of_ble_eq_true rfl) (Nat.le_of_ble_eq_true rfl) rfl (sM_movedBy X x28 m29) (fun q32 => ?_)
            refine sim_istore (fun z => [(0, pR 5 0 0), (1, pI x1), (2, pI x13), (3, pI x27), (4, pI x28), (5, pI z)]) [1, 2, 3, 4, 5, 0] dX5_explore_201 (by decide) (fun _ => rfl) (fun x33 => ?_)
            refine sim_iload_n dX5_explore_203 rfl ?_
            refine sim_if_ne (tgt := 224) dX5_explore_204 (by decide) ?_ ?_
            · refine sim_iload dX5_explore_207 rfl ?_
              refine sim_bipush (v := (-4)) dX5_explore_209 (by decide) ?_
              refine sim_icmp_eq (tgt := 228) dX5_explore_211 (by decide) ?_ ?_
              · refine sim_iconst (v := 0) dX5_explore_228 (by decide) ?_
                refine sim_istore_n (fun z => [(0, pR 5 0 0), (1, pI x1), (2, pI x13), (3, pI z), (4, pI x28), (5, pI x33)]) [1, 2, 3, 0, 4, 5] dX5_explore_229 (by decide) (fun _ => rfl) (fun x36 => ?_)
                refine sim_iinc (y := 1) (fun z => [(0, pR 5 0 0), (1, pI x1), (2, pI x13), (3, pI x36), (4, pI z), (5, pI x33)]) [1, 2, 3, 4, 0, 5] dX5_explore_230 rfl (by decide) (by decide) (fun _ => rfl) (fun x37 => ?_)
                refine sim_goto (tgt := 184) dX5_explore_233 (by decide) ?_
                refine sim_pick [(0, pR 5 0 0), (1, pI x1), (2, pI x13), (3, pI x36), (4, pI x37)] [0, 1, 2, 3, 4] rfl ?_
                exact hs31 x36 x37 q32.2
              · refine sim_aload_n dX5_explore_214 rfl ?_
                refine sim_get (v := pR 5 0 17) dX5_explore_215 fl_X5_38 (by decide) rfl ?_
                refine sim_iload dX5_explore_218 rfl ?_
                refine sim_zald dX5_explore_220 rfl (by decide) ?_
                refine sim_if_eq (tgt := 228) dX5_explore_221 (by decide) ?_ ?_
                · refine sim_iconst (v := 0) dX5_explore_228 (by decide) ?_
                  refine sim_istore_n (fun z => [(0, pR 5 0 0), (1, pI x1), (2, pI x13), (3, pI z), (4, pI x28), (5, pI x33)]) [1, 2, 3, 0, 4, 5] dX5_explore_229 (by decide) (fun _ => rfl) (fun x38 => ?_)
                  refine sim_iinc (y := 1) (fun z => [(0, pR 5 0 0), (1, pI x1), (2, pI x13), (3, pI x38), (4, pI z), (5, pI x33)]) [1, 2, 3, 4, 0, 5] dX5_explore_230 rfl (by decide) (by decide) (fun _ => rfl) (fun x39 => ?_)
                  refine sim_goto (tgt := 184) dX5_explore_233 (by decide) ?_
                  refine sim_pick [(0, pR 5 0 0), (1, pI x1), (2, pI x13), (3, pI x38), (4, pI x39)] [0, 1, 2, 3, 4] rfl ?_
                  exact hs31 x38 x39 q32.2
                · refine sim_iconst (v := 1) dX5_explore_224 (by decide) ?_
                  refine sim_goto (tgt := 229) dX5_explore_225 (by decide) ?_
                  refine sim_istore_n (fun z => [(0, pR 5 0 0), (1, pI x1), (2, pI x13), (3, pI z), (4, pI x28), (5, pI x33)]) [1, 2, 3, 0, 4, 5] dX5_explore_229 (by decide) (fun _ => rfl) (fun x40 => ?_)
                  refine sim_iinc (y := 1) (fun z => [(0, pR 5 0 0), (1, pI x1), (2, pI x13), (3, pI x40), (4, pI z), (5, pI x33)]) [1, 2, 3, 4, 0, 5] dX5_explore_230 rfl (by decide) (by decide) (fun _ => rfl) (fun x41 => ?_)
                  refine sim_goto (tgt := 184) dX5_explore_233 (by decide) ?_
                  refine sim_pick [(0, pR 5 0 0), (1, pI x1), (2, pI x13), (3, pI x40), (4, pI x41)] [0, 1, 2, 3, 4] rfl ?_
                  exact hs31 x40 x41 q32.2
            · refine sim_iconst (v := 1) dX5_explore_224 (by decide) ?_
              refine sim_goto (tgt := 229) dX5_explore_225 (by decide) ?_
              refine sim_istore_n (fun z => [(0, pR 5 0 0), (1, pI x1), (2, pI x13), (3, pI z), (4, pI x28), (5, pI x33)]) [1, 2, 3, 0, 4, 5] dX5_explore_229 (by decide) (fun _ => rfl) (fun x34 => ?_)
              refine sim_iinc (y := 1) (fun z => [(0, pR 5 0 0), (1, pI x1), (2, pI x13), (3, pI x34), (4, pI z), (5, pI x33)]) [1, 2, 3, 4, 0, 5] dX5_explore_230 rfl (by decide) (by decide) (fun _ => rfl) (fun x35 => ?_)
              refine sim_goto (tgt := 184) dX5_explore_233 (by decide) ?_
              refine sim_pick [(0, pR 5 0 0), (1, pI x1), (2, pI x13), (3, pI x34), (4, pI x35)] [0, 1, 2, 3, 4] rfl ?_
              exact hs31 x34 x35 q32.2
        · refine sim_eq (lt_ite _ _ _ _) ?_
          refine sim_if_ne (tgt := 179) dX5_explore_172 (by decide) ?_ ?_
          · refine sim_iconst (v := 1) dX5_explore_175 (by decide) ?_
            refine sim_goto (tgt := 180) dX5_explore_176 (by decide) ?_
            exact hV42 _
          · refine sim_iconst (v := 0) dX5_explore_179 (by decide) ?_
            exact hV42 _
    refine sim_lz11 (fun z0 => [(0, pR 5 0 0), (1, pI x1), (2, pI z0)]) (fun s46 hs47 x44 m45 => ?_) FU x9 m8
    unfold bM_explore_50
    refine sim_iload_n dX5_explore_50 rfl ?_
    refine sim_aload_n dX5_explore_51 rfl ?_
    refine sim_get (v := pI (m45 (5, 0, 0) 17)) dX5_explore_52 fl_X5_186 (by decide) rfl ?_
    refine sim_icmp_ge (tgt := 145) dX5_explore_55 (by decide) ?_ ?_
    · exact hJ43 x44 m45
    · refine sim_aload_n dX5_explore_58 rfl ?_
      refine sim_aload_n dX5_explore_59 rfl ?_
      refine sim_get (v := pR 5 0 15) dX5_explore_60 fl_X5_32 (by decide) rfl ?_
      refine sim_iload_n dX5_explore_63 rfl ?_
      refine sim_iald dX5_explore_64 rfl (by decide) ?_
      refine sim_callV (As := [pI (m45 (5, 0, 15) (ix x44))]) (rest := []) (k0 := 0) dX5_explore_65 ln_X5_129 me_X5_decode rfl (by decide) rfl (by decide) (Nat.le_of_ble_eq_true rfl) (Nat.le_of_ble_eq_true rfl) rfl (sM_decode X (m45 (5, 0, 15) (ix x44)) m45) (fun m48 => ?_)
      refine sim_iconst (v := 0) dX5_explore_68 (by decide) ?_
      refine sim_istore_n (fun z => [(0, pR 5 0 0), (1, pI x1), (2, pI x44), (3, pI z)]) [1, 2, 3, 0] dX5_explore_69 (by decide) (fun _ => rfl) (fun x49 => ?_)
      have hJ53 : ∀ (x50 : Int32) (m51 : Mem), Sim X cX5_explore 6 none RX5 rm_M_explore (fun _ : Mem => 0) (fun m : Mem => m) 139 [(0, pR 5 0 0), (1, pI x1), (2, pI x44), (3, pI x50)] [] m51 (jM_explore_139 s46 x44 x50 m51) := by
        intro x50 m51
        unfold jM_explore_139
        refine sim_iinc (y := 1) (fun z => [(0, pR 5 0 0), (1, pI x1), (2, pI z), (3, pI x50)]) [1, 2, 0, 3] dX5_explore_139 rfl (by decide) (by decide) (fun _ => rfl) (fun x52 => ?_)
        refine sim_goto (tgt := 50) dX5_explore_142 (by decide) ?_
        refine sim_pick [(0, pR 5 0 0), (1, pI x1), (2, pI x52)] [0, 1, 2] rfl ?_
        exact hs47 x52 m51
      refine sim_lz11 (fun z0 => [(0, pR 5 0 0), (1, pI x1), (2, pI x44), (3, pI z0)]) (fun s56 hs57 x54 m55 => ?_) FU x49 m48
      unfold bM_explore_70
      refine sim_iload_n dX5_explore_70 rfl ?_
      refine sim_aload_n dX5_explore_71 rfl ?_
      refine sim_get (v := pR 5 0 1) dX5_explore_72 fl_X5_7 (by decide) rfl ?_
      refine sim_iconst (v := 1) dX5_explore_75 (by decide) ?_
      refine sim_iald dX5_explore_76 rfl (by decide) ?_
      refine sim_icmp_ge (tgt := 139) dX5_explore_77 (by decide) ?_ ?_
      · exact hJ53 x54 m55
      · refine sim_aload_n dX5_explore_80 rfl ?_
        refine sim_iload_n dX5_explore_81 rfl ?_
        refine sim_callV (As := [pI x54]) (rest := []) (k0 := 0) dX5_explore_82 ln_X5_189 me_X5_movedBy rfl (by decide) rfl (by decide) (Nat.le_of_ble_eq_true rfl) (Nat.le_of_ble_eq_true rfl) rfl (sM_movedBy X x54 m55) (fun q58 => ?_)
        refine sim_istore (fun z => [(0, pR 5 0 0), (1, pI x1), (2, pI x44), (3, pI x54), (4, pI z)]) [1, 2, 3, 4, 0] dX5_explore_85 (by decide) (fun _ => rfl) (fun x59 => ?_)
        refine sim_iload dX5_explore_87 rfl ?_
        refine sim_bipush (v := (-4)) dX5_explore_89 (by decide) ?_
        refine sim_icmp_eq (tgt := 133) dX5_explore_91 (by decide) ?_ ?_
        · refine sim_iinc (y := 1) (fun z => [(0, pR 5 0 0), (1, pI x1), (2, pI x44), (3, pI z), (4, pI x59)]) [1, 2, 3, 0, 4] dX5_explore_133 rfl (by decide) (by decide) (fun _ => rfl) (fun x60 => ?_)
          refine sim_goto (tgt := 70) dX5_explore_136 (by decide) ?_
          refine sim_pick [(0, pR 5 0 0), (1, pI x1), (2, pI x44), (3, pI x60)] [0, 1, 2, 3] rfl ?_
          exact hs57 x60 q58.2
        · refine sim_aload_n dX5_explore_94 rfl ?_
          refine sim_get (v := pR 5 0 16) dX5_explore_95 fl_X5_35 (by decide) rfl ?_
          refine sim_iload dX5_explore_98 rfl ?_
          refine sim_zald dX5_explore_100 rfl (by decide) ?_
          refine sim_if_ne (tgt := 133) dX5_explore_101 (by decide) ?_ ?_
          · refine sim_aload_n dX5_explore_104 rfl ?_
            refine sim_get (v := pR 5 0 16) dX5_explore_105 fl_X5_35 (by decide) rfl ?_
            refine sim_iload dX5_explore_108 rfl ?_
            refine sim_iconst (v := 1) dX5_explore_110 (by decide) ?_
            refine sim_zast dX5_explore_111 rfl (by decide) (fun m62 => ?_)
            refine sim_aload_n dX5_explore_112 rfl ?_
            refine sim_get (v := pR 5 0 15) dX5_explore_113 fl_X5_32 (by decide) rfl ?_
            refine sim_aload_n dX5_explore_116 rfl ?_
            refine sim_get (v := pI (m62 (5, 0, 0) 17)) dX5_explore_117 fl_X5_186 (by decide) rfl ?_
            refine sim_iload dX5_explore_120 rfl ?_
            refine sim_iast dX5_explore_122 rfl (by decide) (fun m63 => ?_)
            refine sim_aload_n dX5_explore_123 rfl ?_
            refine sim_dup dX5_explore_124 rfl ?_
            refine sim_get (v := pI (m63 (5, 0, 0) 17)) dX5_explore_125 fl_X5_186 (by decide) rfl ?_
            refine sim_iconst (v := 1) dX5_explore_128 (by decide) ?_
            refine sim_iadd dX5_explore_129 ?_
            refine sim_put dX5_explore_130 fl_X5_186 fp_5_17 rfl rfl (fun m64 => ?_)
            refine sim_iinc (y := 1) (fun z => [(0, pR 5 0 0), (1, pI x1), (2, pI x44), (3, pI z), (4, pI x59)]) [1, 2, 3, 0, 4] dX5_explore_133 rfl (by decide) (by decide) (fun _ => rfl) (fun x65 => ?_)
            refine sim_goto (tgt := 70) dX5_explore_136 (by decide) ?_
            refine sim_pick [(0, pR 5 0 0), (1, pI x1), (2, pI x44), (3, pI x65)] [0, 1, 2, 3] rfl ?_
            exact hs57 x65 m64
          · refine sim_iinc (y := 1) (fun z => [(0, pR 5 0 0), (1, pI x1), (2, pI x44), (3, pI z), (4, pI x59)]) [1, 2, 3, 0, 4] dX5_explore_133 rfl (by decide) (by decide) (fun _ => rfl) (fun x61 => ?_)
            refine sim_goto (tgt := 70) dX5_explore_136 (by decide) ?_
            refine sim_pick [(0, pR 5 0 0), (1, pI x1), (2, pI x44), (3, pI x61)] [0, 1, 2, 3] rfl ?_
            exact hs57 x61 q58.2
  refine sim_lz11 (fun z0 => [(0, pR 5 0 0), (1, pI x1), (2, pI z0)]) (fun s69 hs70 x67 m68 => ?_) FU x3 m2
  unfold bM_explore_2
  refine sim_iload_n dX5_explore_2 rfl ?_
  refine sim_sipush (v := 2401) dX5_explore_3 (by decide) ?_
  refine sim_icmp_ge (tgt := 29) dX5_explore_6 (by decide) ?_ ?_
  · exact hJ66 x67 m68
  · refine sim_aload_n dX5_explore_9 rfl ?_
    refine sim_get (v := pR 5 0 16) dX5_explore_10 fl_X5_35 (by decide) rfl ?_
    refine sim_iload_n dX5_explore_13 rfl ?_
    refine sim_iconst (v := 0) dX5_explore_14 (by decide) ?_
    refine sim_zast dX5_explore_15 rfl (by decide) (fun m71 => ?_)
    refine sim_aload_n dX5_explore_16 rfl ?_
    refine sim_get (v := pR 5 0 17) dX5_explore_17 fl_X5_38 (by decide) rfl ?_
    refine sim_iload_n dX5_explore_20 rfl ?_
    refine sim_iconst (v := 0) dX5_explore_21 (by decide) ?_
    refine sim_zast dX5_explore_22 rfl (by decide) (fun m72 => ?_)
    refine sim_iinc (y := 1) (fun z => [(0, pR 5 0 0), (1, pI x1), (2, pI z)]) [1, 2, 0] dX5_explore_23 rfl (by decide) (by decide) (fun _ => rfl) (fun x73 => ?_)
    refine sim_goto (tgt := 2) dX5_explore_26 (by decide) ?_
    exact hs70 x73 m72

def fM_isSafeNow (m1 : Mem) : Option (Int32 × Mem) :=
  Option.bind (fM_postureNow m1) (fun x2 => Option.bind (fM_explore x2 m1) (fun m3 => Option.bind (fM_postureNow m3) (fun x4 => gd (inb x4 2401) (gd (isb (m3 (5, 0, 17) (ix x4))) (some (m3 (5, 0, 17) (ix x4), m3))))))
abbrev rm_M_isSafeNow : Room := { frames := 5, cells := 0, slots := 0, locals := 119 }
set_option maxRecDepth 4000 in
theorem sM_isSafeNow (X : Sc) (m1 : Mem) : Sim X cX5_isSafeNow 1 (some .boolean) RX5 rm_M_isSafeNow (fun q : Int32 × Mem => q.1) (fun q : Int32 × Mem => q.2) 0 [(0, pR 5 0 0)] [] m1 (fM_isSafeNow m1) := by
  unfold fM_isSafeNow
  refine sim_aload_n dX5_isSafeNow_0 rfl ?_
  refine sim_aload_n dX5_isSafeNow_1 rfl ?_
  refine sim_callV (As := []) (rest := [pR 5 0 0]) (k0 := 0) dX5_isSafeNow_2 ln_X5_126 me_X5_postureNow rfl (by decide) rfl (by decide) (Nat.le_of_ble_eq_true rfl) (Nat.le_of_ble_eq_true rfl) rfl (sM_postureNow X m1) (fun x2 => ?_)
  refine sim_callV (As := [pI x2]) (rest := []) (k0 := 0) dX5_isSafeNow_5 ln_X5_136 me_X5_explore rfl (by decide) rfl (by decide) (Nat.le_of_ble_eq_true rfl) (Nat.le_of_ble_eq_true rfl) rfl (sM_explore X x2 m1) (fun m3 => ?_)
  refine sim_aload_n dX5_isSafeNow_8 rfl ?_
  refine sim_get (v := pR 5 0 17) dX5_isSafeNow_9 fl_X5_38 (by decide) rfl ?_
  refine sim_aload_n dX5_isSafeNow_12 rfl ?_
  refine sim_callV (As := []) (rest := [pR 5 0 17]) (k0 := 0) dX5_isSafeNow_13 ln_X5_126 me_X5_postureNow rfl (by decide) rfl (by decide) (Nat.le_of_ble_eq_true rfl) (Nat.le_of_ble_eq_true rfl) rfl (sM_postureNow X m3) (fun x4 => ?_)
  refine sim_zald dX5_isSafeNow_16 rfl (by decide) ?_
  exact sim_zretg dX5_isSafeNow_17 rfl rfl

def jM_text_171 (x9 : Int32) (x11 : Int32) (m12 : Mem) : Option (Int32 × Mem) :=
  lt (wr m12 (5, 0, 0) 6 0) (fun m13 => if (m13 (5, 0, 0) 11) ≤ 0 then (gd (inb 0 2) (lt (wr m13 (5, 0, 5) (ix 0) (vp_nar .boolean 0)) (fun m14 => gd (inb 1 2) (lt (wr m14 (5, 0, 5) (ix 1) (vp_nar .boolean 0)) (fun m15 => some (x9, m15)))))) else (some ((-10) - (m13 (5, 0, 0) 12), m13)))
def jM_text_155 (x9 : Int32) (x19 : Int32) (x26 : Int32) (m27 : Mem) : Option (Int32 × Mem) :=
  Option.bind (fM_requires x26 8 m27) (fun m28 => if (m28 (5, 0, 0) 11) ≤ 0 then (jM_text_171 x9 x19 m28) else (Option.bind (fM_backBefore m28) (fun m29 => jM_text_171 x9 x19 m29)))
def jM_text_130 (x9 : Int32) (x19 : Int32) (x23 : Int32) (m24 : Mem) : Option (Int32 × Mem) :=
  Option.bind (fM_requires x23 7 m24) (fun m25 => if 0 < (m25 (5, 0, 0) 11) then (jM_text_155 x9 x19 1 m25) else (Option.bind (fM_isSafeNow m25) (fun q31 => if q31.1 = 0 then (jM_text_155 x9 x19 0 q31.2) else (jM_text_155 x9 x19 1 q31.2))))
def jM_text_100 (x9 : Int32) (x19 : Int32) (m20 : Mem) : Option (Int32 × Mem) :=
  Option.bind (fM_areAllPlaces m20) (fun x21 => Option.bind (fM_requires x21 6 m20) (fun m22 => if 0 < (m22 (5, 0, 0) 11) then (jM_text_130 x9 x19 1 m22) else (Option.bind (fM_isHeldAll m22) (fun q33 => if q33.1 = 0 then (jM_text_130 x9 x19 0 q33.2) else (jM_text_130 x9 x19 1 q33.2)))))
def bM_text_75 (x9 : Int32) (s37 : Int32 → Mem → Option (Int32 × Mem)) (x35 : Int32) (m36 : Mem) : Option (Int32 × Mem) :=
  if 238 ≤ x35 then (jM_text_100 x9 x35 m36) else (gd (inb x35 238) (gd (inb x35 238) (lt (wr m36 (5, 0, 1) (ix x35) (m36 (5, 0, 2) (ix x35))) (fun m39 => lt (x35 + 1) (fun (x40 : Int32) => s37 x40 m39)))))
def jM_text_62 (x6 : Int32) (x9 : Int32) (m10 : Mem) : Option (Int32 × Mem) :=
  if (m10 (5, 0, 0) 11) = 0 then (Option.bind (fM_keepBefore m10) (fun m17 => lt 0 (fun (x18 : Int32) => lz11 (bM_text_75 x9) FU x18 m17))) else (jM_text_171 x9 x6 m10)
def bM_text_38 (x6 : Int32) (s44 : Int32 → Mem → Option (Int32 × Mem)) (x42 : Int32) (m43 : Mem) : Option (Int32 × Mem) :=
  if (m43 (5, 0, 0) 11) = 0 then (if (m43 (5, 0, 0) 9) = 0 then (jM_text_62 x6 x42 m43) else (Option.bind (fM_readLine m43) (fun m46 => lt (x42 + 1) (fun (x47 : Int32) => s44 x47 m46)))) else (jM_text_62 x6 x42 m43)
def jM_text_34 (x2 : Int32) (x6 : Int32) (m7 : Mem) : Option (Int32 × Mem) :=
  Option.bind (fM_reads m7) (fun m8 => lz11 (bM_text_38 x6) FU x2 m8)
def bM_text_14 (x2 : Int32) (s51 : Int32 → Mem → Option (Int32 × Mem)) (x49 : Int32) (m50 : Mem) : Option (Int32 × Mem) :=
  if 238 ≤ x49 then (jM_text_34 x2 x49 m50) else (gd (inb x49 238) (lt (wr m50 (5, 0, 2) (ix x49) 0) (fun m53 => lt (x49 + 1) (fun (x54 : Int32) => s51 x54 m53))))
def fM_text (m1 : Mem) : Option (Int32 × Mem) :=
  lt 0 (fun (x2 : Int32) => lt (wr m1 (5, 0, 0) 11 0) (fun m3 => lt (wr m3 (5, 0, 0) 7 0) (fun m4 => lt 0 (fun (x5 : Int32) => lz11 (bM_text_14 x2) FU x5 m4))))
abbrev rm_M_text : Room := { frames := 6, cells := 0, slots := 0, locals := 139 }
set_option maxRecDepth 4000 in
theorem sM_text (X : Sc) (m1 : Mem) : Sim X cX5_text 3 (some .int) RX5 rm_M_text (fun q : Int32 × Mem => q.1) (fun q : Int32 × Mem => q.2) 0 [(0, pR 5 0 0)] [] m1 (fM_text m1) := by
  unfold fM_text
  refine sim_iconst (v := 0) dX5_text_0 (by decide) ?_
  refine sim_istore_n (fun z => [(0, pR 5 0 0), (1, pI z)]) [1, 0] dX5_text_1 (by decide) (fun _ => rfl) (fun x2 => ?_)
  refine sim_aload_n dX5_text_2 rfl ?_
  refine sim_iconst (v := 0) dX5_text_3 (by decide) ?_
  refine sim_put dX5_text_4 fl_X5_63 fp_5_11 rfl rfl (fun m3 => ?_)
  refine sim_aload_n dX5_text_7 rfl ?_
  refine sim_iconst (v := 0) dX5_text_8 (by decide) ?_
  refine sim_put dX5_text_9 fl_X5_75 fp_5_7 rfl rfl (fun m4 => ?_)
  refine sim_iconst (v := 0) dX5_text_12 (by decide) ?_
  refine sim_istore_n (fun z => [(0, pR 5 0 0), (1, pI x2), (2, pI z)]) [1, 2, 0] dX5_text_13 (by decide) (fun _ => rfl) (fun x5 => ?_)
  have hJ48 : ∀ (x6 : Int32) (m7 : Mem), Sim X cX5_text 3 (some .int) RX5 rm_M_text (fun q : Int32 × Mem => q.1) (fun q : Int32 × Mem => q.2) 34 [(0, pR 5 0 0), (1, pI x2), (2, pI x6)] [] m7 (jM_text_34 x2 x6 m7) := by
    intro x6 m7
    unfold jM_text_34
    refine sim_aload_n dX5_text_34 rfl ?_
    refine sim_callV (As := []) (rest := []) (k0 := 0) dX5_text_35 ln_X5_101 me_X5_reads rfl (by decide) rfl (by decide) (Nat.le_of_ble_eq_true rfl) (Nat.le_of_ble_eq_true rfl) rfl (sM_reads X m7) (fun m8 => ?_)
    have hJ41 : ∀ (x9 : Int32) (m10 : Mem), Sim X cX5_text 3 (some .int) RX5 rm_M_text (fun q : Int32 × Mem => q.1) (fun q : Int32 × Mem => q.2) 62 [(0, pR 5 0 0), (1, pI x9), (2, pI x6)] [] m10 (jM_text_62 x6 x9 m10) := by
      intro x9 m10
      unfold jM_text_62
      refine sim_aload_n dX5_text_62 rfl ?_
      refine sim_get (v := pI (m10 (5, 0, 0) 11)) dX5_text_63 fl_X5_63 (by decide) rfl ?_
      have hJ16 : ∀ (x11 : Int32) (m12 : Mem), Sim X cX5_text 3 (some .int) RX5 rm_M_text (fun q : Int32 × Mem => q.1) (fun q : Int32 × Mem => q.2) 171 [(0, pR 5 0 0), (1, pI x9), (2, pI x11)] [] m12 (jM_text_171 x9 x11 m12) := by
        intro x11 m12
        unfold jM_text_171
        refine sim_aload_n dX5_text_171 rfl ?_
        refine sim_iconst (v := 0) dX5_text_172 (by decide) ?_
        refine sim_put dX5_text_173 fl_X5_59 fp_5_6 rfl rfl (fun m13 => ?_)
        refine sim_aload_n dX5_text_176 rfl ?_
        refine sim_get (v := pI (m13 (5, 0, 0) 11)) dX5_text_177 fl_X5_63 (by decide) rfl ?_
        refine sim_if_le (tgt := 191) dX5_text_180 (by decide) ?_ ?_
        · refine sim_aload_n dX5_text_191 rfl ?_
          refine sim_get (v := pR 5 0 5) dX5_text_192 fl_X5_22 (by decide) rfl ?_
          refine sim_iconst (v := 0) dX5_text_195 (by decide) ?_
          refine sim_iconst (v := 0) dX5_text_196 (by decide) ?_
          refine sim_zast dX5_text_197 rfl (by decide) (fun m14 => ?_)
          refine sim_aload_n dX5_text_198 rfl ?_
          refine sim_get (v := pR 5 0 5) dX5_text_199 fl_X5_22 (by decide) rfl ?_
          refine sim_iconst (v := 1) dX5_text_202 (by decide) ?_
          refine sim_iconst (v := 0) dX5_text_203 (by decide) ?_
          refine sim_zast dX5_text_204 rfl (by decide) (fun m15 => ?_)
          refine sim_iload_n dX5_text_205 rfl ?_
          exact sim_iret dX5_text_206 rfl rfl
        · refine sim_bipush (v := (-10)) dX5_text_183 (by decide) ?_
          refine sim_aload_n dX5_text_185 rfl ?_
          refine sim_get (v := pI (m13 (5, 0, 0) 12)) dX5_text_186 fl_X5_69 (by decide) rfl ?_
          refine sim_isub dX5_text_189 ?_
          exact sim_iret dX5_text_190 rfl rfl
      refine sim_if_ne (tgt := 171) dX5_text_66 (by decide) ?_ ?_
      · refine sim_aload_n dX5_text_69 rfl ?_
        refine sim_callV (As := []) (rest := []) (k0 := 0) dX5_text_70 ln_X5_142 me_X5_keepBefore rfl (by decide) rfl (by decide) (Nat.le_of_ble_eq_true rfl) (Nat.le_of_ble_eq_true rfl) rfl (sM_keepBefore X m10) (fun m17 => ?_)
        refine sim_iconst (v := 0) dX5_text_73 (by decide) ?_
        refine sim_istore_n (fun z => [(0, pR 5 0 0), (1, pI x9), (2, pI z)]) [1, 2, 0] dX5_text_74 (by decide) (fun _ => rfl) (fun x18 => ?_)
        have hJ34 : ∀ (x19 : Int32) (m20 : Mem), Sim X cX5_text 3 (some .int) RX5 rm_M_text (fun q : Int32 × Mem => q.1) (fun q : Int32 × Mem => q.2) 100 [(0, pR 5 0 0), (1, pI x9), (2, pI x19)] [] m20 (jM_text_100 x9 x19 m20) := by
          intro x19 m20
          unfold jM_text_100
          refine sim_aload_n dX5_text_100 rfl ?_
          refine sim_aload_n dX5_text_101 rfl ?_
          refine sim_callV (As := []) (rest := [pR 5 0 0]) (k0 := 0) dX5_text_102 ln_X5_145 me_X5_areAllPlaces rfl (by decide) rfl (by decide) (Nat.le_of_ble_eq_true rfl) (Nat.le_of_ble_eq_true rfl) rfl (sM_areAllPlaces X m20) (fun x21 => ?_)
          refine sim_bipush (v := 6) dX5_text_105 (by decide) ?_
          refine sim_callV (As := [pI x21, pI 6]) (rest := []) (k0 := 0) dX5_text_107 ln_X5_97 me_X5_requires rfl (by decide) rfl (by decide) (Nat.le_of_ble_eq_true rfl) (Nat.le_of_ble_eq_true rfl) rfl (sM_requires X x21 6 m20) (fun m22 => ?_)
          refine sim_aload_n dX5_text_110 rfl ?_
          refine sim_aload_n dX5_text_111 rfl ?_
          refine sim_get (v := pI (m22 (5, 0, 0) 11)) dX5_text_112 fl_X5_63 (by decide) rfl ?_
          have hJ32 : ∀ (x23 : Int32) (m24 : Mem), Sim X cX5_text 3 (some .int) RX5 rm_M_text (fun q : Int32 × Mem => q.1) (fun q : Int32 × Mem => q.2) 130 [(0, pR 5 0 0), (1, pI x9), (2, pI x19)] [pI x23, pR 5 0 0] m24 (jM_text_130 x9 x19 x23 m24) := by
            intro x23 m24
            unfold jM_text_130
            refine sim_bipush (v := 7) dX5_text_130 (by decide) ?_
            refine sim_callV (As := [pI x23, pI 7]) (rest := []) (k0 := 0) dX5_text_132 ln_X5_97 me_X5_requires rfl (by decide) rfl (by decide) (Nat.le_of_ble_eq_true rfl) (Nat.le_of_ble_eq_true rfl) rfl (sM_requires X x23 7 m24) (fun m25 => ?_)
            refine sim_aload_n dX5_text_135 rfl ?_
            refine sim_aload_n dX5_text_136 rfl ?_
            refine sim_get (v := pI (m25 (5, 0, 0) 11)) dX5_text_137 fl_X5_63 (by decide) rfl ?_
            have hJ30 : ∀ (x26 : Int32) (m27 : Mem), Sim X cX5_text 3 (some .int) RX5 rm_M_text (fun q : Int32 × Mem => q.1) (fun q : Int32 × Mem => q.2) 155 [(0, pR 5 0 0), (1, pI x9), (2, pI x19)] [pI x26, pR 5 0 0] m27 (jM_text_155 x9 x19 x26 m27) := by
              intro x26 m27
              unfold jM_text_155
              refine sim_bipush (v := 8) dX5_text_155 (by decide) ?_
              refine sim_callV (As := [pI x26, pI 8]) (rest := []) (k0 := 0) dX5_text_157 ln_X5_97 me_X5_requires rfl (by decide) rfl (by decide) (Nat.le_of_ble_eq_true rfl) (Nat.le_of_ble_eq_true rfl) rfl (sM_requires X x26 8 m27) (fun m28 => ?_)
              refine sim_aload_n dX5_text_160 rfl ?_
              refine sim_get (v := pI (m28 (5, 0, 0) 11)) dX5_text_161 fl_X5_63 (by decide) rfl ?_
              refine sim_if_le (tgt := 171) dX5_text_164 (by decide) ?_ ?_
              · exact hJ16 x19 m28
              · refine sim_aload_n dX5_text_167 rfl ?_
                refine sim_callV (As := []) (rest := []) (k0 := 0) dX5_text_168 ln_X5_155 me_X5_backBefore rfl (by decide) rfl (by decide) (Nat.le_of_ble_eq_true rfl) (Nat.le_of_ble_eq_true rfl) rfl (sM_backBefore X m28) (fun m29 => ?_)
                exact hJ16 x19 m29
            refine sim_if_gt (tgt := 150) dX5_text_140 (by decide) ?_ ?_
            · refine sim_iconst (v := 1) dX5_text_150 (by decide) ?_
              refine sim_goto (tgt := 155) dX5_text_151 (by decide) ?_
              exact hJ30 1 m25
            · refine sim_aload_n dX5_text_143 rfl ?_
              refine sim_callV (As := []) (rest := [pR 5 0 0]) (k0 := 0) dX5_text_144 ln_X5_152 me_X5_isSafeNow rfl (by decide) rfl (by decide) (Nat.le_of_ble_eq_true rfl) (Nat.le_of_ble_eq_true rfl) rfl (sM_isSafeNow X m25) (fun q31 => ?_)
              refine sim_if_eq (tgt := 154) dX5_text_147 (by decide) ?_ ?_
              · refine sim_iconst (v := 0) dX5_text_154 (by decide) ?_
                exact hJ30 0 q31.2
              · refine sim_iconst (v := 1) dX5_text_150 (by decide) ?_
                refine sim_goto (tgt := 155) dX5_text_151 (by decide) ?_
                exact hJ30 1 q31.2
          refine sim_if_gt (tgt := 125) dX5_text_115 (by decide) ?_ ?_
          · refine sim_iconst (v := 1) dX5_text_125 (by decide) ?_
            refine sim_goto (tgt := 130) dX5_text_126 (by decide) ?_
            exact hJ32 1 m22
          · refine sim_aload_n dX5_text_118 rfl ?_
            refine sim_callV (As := []) (rest := [pR 5 0 0]) (k0 := 0) dX5_text_119 ln_X5_149 me_X5_isHeldAll rfl (by decide) rfl (by decide) (Nat.le_of_ble_eq_true rfl) (Nat.le_of_ble_eq_true rfl) rfl (sM_isHeldAll X m22) (fun q33 => ?_)
            refine sim_if_eq (tgt := 129) dX5_text_122 (by decide) ?_ ?_
            · refine sim_iconst (v := 0) dX5_text_129 (by decide) ?_
              exact hJ32 0 q33.2
            · refine sim_iconst (v := 1) dX5_text_125 (by decide) ?_
              refine sim_goto (tgt := 130) dX5_text_126 (by decide) ?_
              exact hJ32 1 q33.2
        refine sim_lz11 (fun z0 => [(0, pR 5 0 0), (1, pI x9), (2, pI z0)]) (fun s37 hs38 x35 m36 => ?_) FU x18 m17
        unfold bM_text_75
        refine sim_iload_n dX5_text_75 rfl ?_
        refine sim_sipush (v := 238) dX5_text_76 (by decide) ?_
        refine sim_icmp_ge (tgt := 100) dX5_text_79 (by decide) ?_ ?_
        · exact hJ34 x35 m36
        · refine sim_aload_n dX5_text_82 rfl ?_
          refine sim_get (v := pR 5 0 1) dX5_text_83 fl_X5_7 (by decide) rfl ?_
          refine sim_iload_n dX5_text_86 rfl ?_
          refine sim_aload_n dX5_text_87 rfl ?_
          refine sim_get (v := pR 5 0 2) dX5_text_88 fl_X5_13 (by decide) rfl ?_
          refine sim_iload_n dX5_text_91 rfl ?_
          refine sim_iald dX5_text_92 rfl (by decide) ?_
          refine sim_iast dX5_text_93 rfl (by decide) (fun m39 => ?_)
          refine sim_iinc (y := 1) (fun z => [(0, pR 5 0 0), (1, pI x9), (2, pI z)]) [1, 2, 0] dX5_text_94 rfl (by decide) (by decide) (fun _ => rfl) (fun x40 => ?_)
          refine sim_goto (tgt := 75) dX5_text_97 (by decide) ?_
          exact hs38 x40 m39
      · exact hJ16 x6 m10
    refine sim_lz11 (fun z0 => [(0, pR 5 0 0), (1, pI z0), (2, pI x6)]) (fun s44 hs45 x42 m43 => ?_) FU x2 m8
    unfold bM_text_38
    refine sim_aload_n dX5_text_38 rfl ?_
    refine sim_get (v := pI (m43 (5, 0, 0) 11)) dX5_text_39 fl_X5_63 (by decide) rfl ?_
    refine sim_if_ne (tgt := 62) dX5_text_42 (by decide) ?_ ?_
    · refine sim_aload_n dX5_text_45 rfl ?_
      refine sim_get (v := pI (m43 (5, 0, 0) 9)) dX5_text_46 fl_X5_72 (by decide) rfl ?_
      refine sim_if_eq (tgt := 62) dX5_text_49 (by decide) ?_ ?_
      · exact hJ41 x42 m43
      · refine sim_aload_n dX5_text_52 rfl ?_
        refine sim_callV (As := []) (rest := []) (k0 := 0) dX5_text_53 ln_X5_139 me_X5_readLine rfl (by decide) rfl (by decide) (Nat.le_of_ble_eq_true rfl) (Nat.le_of_ble_eq_true rfl) rfl (sM_readLine X m43) (fun m46 => ?_)
        refine sim_iinc (y := 1) (fun z => [(0, pR 5 0 0), (1, pI z), (2, pI x6)]) [1, 0, 2] dX5_text_56 rfl (by decide) (by decide) (fun _ => rfl) (fun x47 => ?_)
        refine sim_goto (tgt := 38) dX5_text_59 (by decide) ?_
        exact hs45 x47 m46
    · exact hJ41 x42 m43
  refine sim_lz11 (fun z0 => [(0, pR 5 0 0), (1, pI x2), (2, pI z0)]) (fun s51 hs52 x49 m50 => ?_) FU x5 m4
  unfold bM_text_14
  refine sim_iload_n dX5_text_14 rfl ?_
  refine sim_sipush (v := 238) dX5_text_15 (by decide) ?_
  refine sim_icmp_ge (tgt := 34) dX5_text_18 (by decide) ?_ ?_
  · exact hJ48 x49 m50
  · refine sim_aload_n dX5_text_21 rfl ?_
    refine sim_get (v := pR 5 0 2) dX5_text_22 fl_X5_13 (by decide) rfl ?_
    refine sim_iload_n dX5_text_25 rfl ?_
    refine sim_iconst (v := 0) dX5_text_26 (by decide) ?_
    refine sim_iast dX5_text_27 rfl (by decide) (fun m53 => ?_)
    refine sim_iinc (y := 1) (fun z => [(0, pR 5 0 0), (1, pI x2), (2, pI z)]) [1, 2, 0] dX5_text_28 rfl (by decide) (by decide) (fun _ => rfl) (fun x54 => ?_)
    refine sim_goto (tgt := 14) dX5_text_31 (by decide) ?_
    exact hs52 x54 m53

def fM_fault (m1 : Mem) : Option Int32 :=
  some (m1 (5, 0, 0) 11)
abbrev rm_M_fault : Room := { frames := 0, cells := 0, slots := 0, locals := 0 }
set_option maxRecDepth 4000 in
theorem sM_fault (X : Sc) (m1 : Mem) : Sim X cX5_fault 1 (some .int) RX5 rm_M_fault (fun r : Int32 => r) (fun _ : Int32 => m1) 0 [(0, pR 5 0 0)] [] m1 (fM_fault m1) := by
  unfold fM_fault
  refine sim_aload_n dX5_fault_0 rfl ?_
  refine sim_get (v := pI (m1 (5, 0, 0) 11)) dX5_fault_1 fl_X5_63 (by decide) rfl ?_
  exact sim_iret dX5_fault_4 rfl rfl

def fM_isPlace (x1 : Int32) (m2 : Mem) : Option Int32 :=
  gd (inb 0 238) (Option.bind (fM_in x1.toInt64 (0 : Int64) (((m2 (5, 0, 1) (ix 0)) - 1).toInt64) m2) (fun x3 => gd (isb x3) (some x3)))
abbrev rm_M_isPlace : Room := { frames := 1, cells := 0, slots := 0, locals := 25 }
set_option maxRecDepth 4000 in
theorem sM_isPlace (X : Sc) (x1 : Int32) (m2 : Mem) : Sim X cX5_isPlace 2 (some .boolean) RX5 rm_M_isPlace (fun r : Int32 => r) (fun _ : Int32 => m2) 0 [(0, pR 5 0 0), (1, pI x1)] [] m2 (fM_isPlace x1 m2) := by
  unfold fM_isPlace
  refine sim_iload_n dX5_isPlace_0 rfl ?_
  refine sim_i2l dX5_isPlace_1 ?_
  refine sim_lconst (v := 0) dX5_isPlace_2 (by decide) ?_
  refine sim_aload_n dX5_isPlace_3 rfl ?_
  refine sim_get (v := pR 5 0 1) dX5_isPlace_4 fl_X5_7 (by decide) rfl ?_
  refine sim_iconst (v := 0) dX5_isPlace_7 (by decide) ?_
  refine sim_iald dX5_isPlace_8 rfl (by decide) ?_
  refine sim_iconst (v := 1) dX5_isPlace_9 (by decide) ?_
  refine sim_isub dX5_isPlace_10 ?_
  refine sim_i2l dX5_isPlace_11 ?_
  refine sim_callS (As := [pL x1.toInt64, pL (0 : Int64), pL (((m2 (5, 0, 1) (ix 0)) - 1).toInt64)]) (rest := []) dX5_isPlace_12 ln_X5_55 me_X5_in rfl (by decide) (Nat.le_of_ble_eq_true rfl) (Nat.le_of_ble_eq_true rfl) rfl (sM_in X x1.toInt64 (0 : Int64) (((m2 (5, 0, 1) (ix 0)) - 1).toInt64) m2) (fun x3 => ?_)
  exact sim_zretg dX5_isPlace_15 rfl rfl

def fM_isTrain (x1 : Int32) (m2 : Mem) : Option Int32 :=
  gd (inb 1 238) (Option.bind (fM_in x1.toInt64 (0 : Int64) (((m2 (5, 0, 1) (ix 1)) - 1).toInt64) m2) (fun x3 => gd (isb x3) (some x3)))
abbrev rm_M_isTrain : Room := { frames := 1, cells := 0, slots := 0, locals := 25 }
set_option maxRecDepth 4000 in
theorem sM_isTrain (X : Sc) (x1 : Int32) (m2 : Mem) : Sim X cX5_isTrain 2 (some .boolean) RX5 rm_M_isTrain (fun r : Int32 => r) (fun _ : Int32 => m2) 0 [(0, pR 5 0 0), (1, pI x1)] [] m2 (fM_isTrain x1 m2) := by
  unfold fM_isTrain
  refine sim_iload_n dX5_isTrain_0 rfl ?_
  refine sim_i2l dX5_isTrain_1 ?_
  refine sim_lconst (v := 0) dX5_isTrain_2 (by decide) ?_
  refine sim_aload_n dX5_isTrain_3 rfl ?_
  refine sim_get (v := pR 5 0 1) dX5_isTrain_4 fl_X5_7 (by decide) rfl ?_
  refine sim_iconst (v := 1) dX5_isTrain_7 (by decide) ?_
  refine sim_iald dX5_isTrain_8 rfl (by decide) ?_
  refine sim_iconst (v := 1) dX5_isTrain_9 (by decide) ?_
  refine sim_isub dX5_isTrain_10 ?_
  refine sim_i2l dX5_isTrain_11 ?_
  refine sim_callS (As := [pL x1.toInt64, pL (0 : Int64), pL (((m2 (5, 0, 1) (ix 1)) - 1).toInt64)]) (rest := []) dX5_isTrain_12 ln_X5_55 me_X5_in rfl (by decide) (Nat.le_of_ble_eq_true rfl) (Nat.le_of_ble_eq_true rfl) rfl (sM_in X x1.toInt64 (0 : Int64) (((m2 (5, 0, 1) (ix 1)) - 1).toInt64) m2) (fun x3 => ?_)
  exact sim_zretg dX5_isTrain_15 rfl rfl

def fM_minutesOf (x1 : Int32) (x2 : Int32) (m3 : Mem) : Option Int32 :=
  lt (if x2 ≤ x1 then x2 else x1) (fun (x4 : Int32) => Option.bind (fM_ofPlace x4 4 m3) (fun x5 => some x5))
abbrev rm_M_minutesOf : Room := { frames := 1, cells := 0, slots := 0, locals := 22 }
set_option maxRecDepth 4000 in
theorem sM_minutesOf (X : Sc) (x1 : Int32) (x2 : Int32) (m3 : Mem) : Sim X cX5_minutesOf 3 (some .int) RX5 rm_M_minutesOf (fun r : Int32 => r) (fun _ : Int32 => m3) 0 [(0, pR 5 0 0), (1, pI x1), (2, pI x2)] [] m3 (fM_minutesOf x1 x2 m3) := by
  unfold fM_minutesOf
  refine sim_aload_n dX5_minutesOf_0 rfl ?_
  refine sim_iload_n dX5_minutesOf_1 rfl ?_
  refine sim_iload_n dX5_minutesOf_2 rfl ?_
  refine sim_jv 11 [(0, pR 5 0 0), (1, pI x1), (2, pI x2)] [pR 5 0 0] (fun x4 => ?_) (fun hV6 => ?_)
  · refine sim_iconst (v := 4) dX5_minutesOf_11 (by decide) ?_
    refine sim_callV (As := [pI x4, pI 4]) (rest := []) (k0 := 0) dX5_minutesOf_12 ln_X5_158 me_X5_ofPlace rfl (by decide) rfl (by decide) (Nat.le_of_ble_eq_true rfl) (Nat.le_of_ble_eq_true rfl) rfl (sM_ofPlace X x4 4 m3) (fun x5 => ?_)
    exact sim_iret dX5_minutesOf_15 rfl rfl
  · refine sim_eq (lt_ite _ _ _ _) ?_
    refine sim_icmp_ge (tgt := 10) dX5_minutesOf_3 (by decide) ?_ ?_
    · refine sim_iload_n dX5_minutesOf_10 rfl ?_
      exact hV6 _
    · refine sim_iload_n dX5_minutesOf_6 rfl ?_
      refine sim_goto (tgt := 11) dX5_minutesOf_7 (by decide) ?_
      exact hV6 _

def bM_minutesStill_12 (x1 : Int32) (m2 : Mem) (s10 : Int32 → Int32 → Int32 → Option Int32) (x7 : Int32) (x8 : Int32) (x9 : Int32) : Option Int32 :=
  if 6 ≤ x9 then (some x7) else (Option.bind (fM_ofTrain x1 4 m2) (fun x12 => if x12 = 2 then (some x7) else (Option.bind (fM_ofTrain x1 1 m2) (fun x13 => if x8 = x13 then (some x7) else (Option.bind (fM_nextFrom x1 x8 m2) (fun x14 => lt x14 (fun (x15 : Int32) => Option.bind (fM_minutesOf x8 x15 m2) (fun x16 => lt (x7 + x16) (fun (x17 : Int32) => lt x15 (fun (x18 : Int32) => lt (x9 + 1) (fun (x19 : Int32) => s10 x17 x18 x19)))))))))))
def fM_minutesStill (x1 : Int32) (m2 : Mem) : Option Int32 :=
  lt 0 (fun (x3 : Int32) => Option.bind (fM_ofTrain x1 3 m2) (fun x4 => lt x4 (fun (x5 : Int32) => lt 0 (fun (x6 : Int32) => lz30 (bM_minutesStill_12 x1 m2) FU x3 x5 x6))))
abbrev rm_M_minutesStill : Room := { frames := 2, cells := 0, slots := 0, locals := 44 }
set_option maxRecDepth 4000 in
theorem sM_minutesStill (X : Sc) (x1 : Int32) (m2 : Mem) : Sim X cX5_minutesStill 6 (some .int) RX5 rm_M_minutesStill (fun r : Int32 => r) (fun _ : Int32 => m2) 0 [(0, pR 5 0 0), (1, pI x1)] [] m2 (fM_minutesStill x1 m2) := by
  unfold fM_minutesStill
  refine sim_iconst (v := 0) dX5_minutesStill_0 (by decide) ?_
  refine sim_istore_n (fun z => [(0, pR 5 0 0), (1, pI x1), (2, pI z)]) [1, 2, 0] dX5_minutesStill_1 (by decide) (fun _ => rfl) (fun x3 => ?_)
  refine sim_aload_n dX5_minutesStill_2 rfl ?_
  refine sim_iload_n dX5_minutesStill_3 rfl ?_
  refine sim_iconst (v := 3) dX5_minutesStill_4 (by decide) ?_
  refine sim_callV (As := [pI x1, pI 3]) (rest := []) (k0 := 0) dX5_minutesStill_5 ln_X5_122 me_X5_ofTrain rfl (by decide) rfl (by decide) (Nat.le_of_ble_eq_true rfl) (Nat.le_of_ble_eq_true rfl) rfl (sM_ofTrain X x1 3 m2) (fun x4 => ?_)
  refine sim_istore_n (fun z => [(0, pR 5 0 0), (1, pI x1), (2, pI x3), (3, pI z)]) [1, 2, 3, 0] dX5_minutesStill_8 (by decide) (fun _ => rfl) (fun x5 => ?_)
  refine sim_iconst (v := 0) dX5_minutesStill_9 (by decide) ?_
  refine sim_istore (fun z => [(0, pR 5 0 0), (1, pI x1), (2, pI x3), (3, pI x5), (4, pI z)]) [1, 2, 3, 4, 0] dX5_minutesStill_10 (by decide) (fun _ => rfl) (fun x6 => ?_)
  refine sim_lz30 (fun z0 z1 z2 => [(0, pR 5 0 0), (1, pI x1), (2, pI z0), (3, pI z1), (4, pI z2)]) (fun s10 hs11 x7 x8 x9 => ?_) FU x3 x5 x6
  unfold bM_minutesStill_12
  refine sim_iload dX5_minutesStill_12 rfl ?_
  refine sim_bipush (v := 6) dX5_minutesStill_14 (by decide) ?_
  refine sim_icmp_ge (tgt := 66) dX5_minutesStill_16 (by decide) ?_ ?_
  · refine sim_iload_n dX5_minutesStill_66 rfl ?_
    exact sim_iret dX5_minutesStill_67 rfl rfl
  · refine sim_aload_n dX5_minutesStill_19 rfl ?_
    refine sim_iload_n dX5_minutesStill_20 rfl ?_
    refine sim_iconst (v := 4) dX5_minutesStill_21 (by decide) ?_
    refine sim_callV (As := [pI x1, pI 4]) (rest := []) (k0 := 0) dX5_minutesStill_22 ln_X5_122 me_X5_ofTrain rfl (by decide) rfl (by decide) (Nat.le_of_ble_eq_true rfl) (Nat.le_of_ble_eq_true rfl) rfl (sM_ofTrain X x1 4 m2) (fun x12 => ?_)
    refine sim_iconst (v := 2) dX5_minutesStill_25 (by decide) ?_
    refine sim_icmp_eq (tgt := 66) dX5_minutesStill_26 (by decide) ?_ ?_
    · refine sim_iload_n dX5_minutesStill_66 rfl ?_
      exact sim_iret dX5_minutesStill_67 rfl rfl
    · refine sim_iload_n dX5_minutesStill_29 rfl ?_
      refine sim_aload_n dX5_minutesStill_30 rfl ?_
      refine sim_iload_n dX5_minutesStill_31 rfl ?_
      refine sim_iconst (v := 1) dX5_minutesStill_32 (by decide) ?_
      refine sim_callV (As := [pI x1, pI 1]) (rest := [pI x8]) (k0 := 0) dX5_minutesStill_33 ln_X5_122 me_X5_ofTrain rfl (by decide) rfl (by decide) (Nat.le_of_ble_eq_true rfl) (Nat.le_of_ble_eq_true rfl) rfl (sM_ofTrain X x1 1 m2) (fun x13 => ?_)
      refine sim_icmp_eq (tgt := 66) dX5_minutesStill_36 (by decide) ?_ ?_
      · refine sim_iload_n dX5_minutesStill_66 rfl ?_
        exact sim_iret dX5_minutesStill_67 rfl rfl
      · refine sim_aload_n dX5_minutesStill_39 rfl ?_
        refine sim_iload_n dX5_minutesStill_40 rfl ?_
        refine sim_iload_n dX5_minutesStill_41 rfl ?_
        refine sim_callV (As := [pI x1, pI x8]) (rest := []) (k0 := 0) dX5_minutesStill_42 ln_X5_161 me_X5_nextFrom rfl (by decide) rfl (by decide) (Nat.le_of_ble_eq_true rfl) (Nat.le_of_ble_eq_true rfl) rfl (sM_nextFrom X x1 x8 m2) (fun x14 => ?_)
        refine sim_istore (fun z => [(0, pR 5 0 0), (1, pI x1), (2, pI x7), (3, pI x8), (4, pI x9), (5, pI z)]) [1, 2, 3, 4, 5, 0] dX5_minutesStill_45 (by decide) (fun _ => rfl) (fun x15 => ?_)
        refine sim_iload_n dX5_minutesStill_47 rfl ?_
        refine sim_aload_n dX5_minutesStill_48 rfl ?_
        refine sim_iload_n dX5_minutesStill_49 rfl ?_
        refine sim_iload dX5_minutesStill_50 rfl ?_
        refine sim_callV (As := [pI x8, pI x15]) (rest := [pI x7]) (k0 := 0) dX5_minutesStill_52 ln_X5_164 me_X5_minutesOf rfl (by decide) rfl (by decide) (Nat.le_of_ble_eq_true rfl) (Nat.le_of_ble_eq_true rfl) rfl (sM_minutesOf X x8 x15 m2) (fun x16 => ?_)
        refine sim_iadd dX5_minutesStill_55 ?_
        refine sim_istore_n (fun z => [(0, pR 5 0 0), (1, pI x1), (2, pI z), (3, pI x8), (4, pI x9), (5, pI x15)]) [1, 2, 0, 3, 4, 5] dX5_minutesStill_56 (by decide) (fun _ => rfl) (fun x17 => ?_)
        refine sim_iload dX5_minutesStill_57 rfl ?_
        refine sim_istore_n (fun z => [(0, pR 5 0 0), (1, pI x1), (2, pI x17), (3, pI z), (4, pI x9), (5, pI x15)]) [1, 2, 3, 0, 4, 5] dX5_minutesStill_59 (by decide) (fun _ => rfl) (fun x18 => ?_)
        refine sim_iinc (y := 1) (fun z => [(0, pR 5 0 0), (1, pI x1), (2, pI x17), (3, pI x18), (4, pI z), (5, pI x15)]) [1, 2, 3, 4, 0, 5] dX5_minutesStill_60 rfl (by decide) (by decide) (fun _ => rfl) (fun x19 => ?_)
        refine sim_goto (tgt := 12) dX5_minutesStill_63 (by decide) ?_
        refine sim_pick [(0, pR 5 0 0), (1, pI x1), (2, pI x17), (3, pI x18), (4, pI x19)] [0, 1, 2, 3, 4] rfl ?_
        exact hs11 x17 x18 x19

def bM_withStatus_4 (x1 : Int32) (m2 : Mem) (s7 : Int32 → Int32 → Option Int32) (x5 : Int32) (x6 : Int32) : Option Int32 :=
  gd (inb 1 238) (if (m2 (5, 0, 1) (ix 1)) ≤ x6 then (some x5) else (Option.bind (fM_ofTrain x6 4 m2) (fun x9 => lt (if x9 = x1 then 1 else 0) (fun (x10 : Int32) => Option.bind (fM_flag x10 m2) (fun x11 => lt (x5 + x11) (fun (x12 : Int32) => lt (x6 + 1) (fun (x13 : Int32) => s7 x12 x13)))))))
def fM_withStatus (x1 : Int32) (m2 : Mem) : Option Int32 :=
  lt 0 (fun (x3 : Int32) => lt 0 (fun (x4 : Int32) => lz20 (bM_withStatus_4 x1 m2) FU x3 x4))
abbrev rm_M_withStatus : Room := { frames := 1, cells := 0, slots := 0, locals := 22 }
set_option maxRecDepth 4000 in
theorem sM_withStatus (X : Sc) (x1 : Int32) (m2 : Mem) : Sim X cX5_withStatus 4 (some .int) RX5 rm_M_withStatus (fun r : Int32 => r) (fun _ : Int32 => m2) 0 [(0, pR 5 0 0), (1, pI x1)] [] m2 (fM_withStatus x1 m2) := by
  unfold fM_withStatus
  refine sim_iconst (v := 0) dX5_withStatus_0 (by decide) ?_
  refine sim_istore_n (fun z => [(0, pR 5 0 0), (1, pI x1), (2, pI z)]) [1, 2, 0] dX5_withStatus_1 (by decide) (fun _ => rfl) (fun x3 => ?_)
  refine sim_iconst (v := 0) dX5_withStatus_2 (by decide) ?_
  refine sim_istore_n (fun z => [(0, pR 5 0 0), (1, pI x1), (2, pI x3), (3, pI z)]) [1, 2, 3, 0] dX5_withStatus_3 (by decide) (fun _ => rfl) (fun x4 => ?_)
  refine sim_lz20 (fun z0 z1 => [(0, pR 5 0 0), (1, pI x1), (2, pI z0), (3, pI z1)]) (fun s7 hs8 x5 x6 => ?_) FU x3 x4
  unfold bM_withStatus_4
  refine sim_iload_n dX5_withStatus_4 rfl ?_
  refine sim_aload_n dX5_withStatus_5 rfl ?_
  refine sim_get (v := pR 5 0 1) dX5_withStatus_6 fl_X5_7 (by decide) rfl ?_
  refine sim_iconst (v := 1) dX5_withStatus_9 (by decide) ?_
  refine sim_iald dX5_withStatus_10 rfl (by decide) ?_
  refine sim_icmp_ge (tgt := 41) dX5_withStatus_11 (by decide) ?_ ?_
  · refine sim_iload_n dX5_withStatus_41 rfl ?_
    exact sim_iret dX5_withStatus_42 rfl rfl
  · refine sim_iload_n dX5_withStatus_14 rfl ?_
    refine sim_aload_n dX5_withStatus_15 rfl ?_
    refine sim_iload_n dX5_withStatus_16 rfl ?_
    refine sim_iconst (v := 4) dX5_withStatus_17 (by decide) ?_
    refine sim_callV (As := [pI x6, pI 4]) (rest := [pI x5]) (k0 := 0) dX5_withStatus_18 ln_X5_122 me_X5_ofTrain rfl (by decide) rfl (by decide) (Nat.le_of_ble_eq_true rfl) (Nat.le_of_ble_eq_true rfl) rfl (sM_ofTrain X x6 4 m2) (fun x9 => ?_)
    refine sim_iload_n dX5_withStatus_21 rfl ?_
    refine sim_jv 30 [(0, pR 5 0 0), (1, pI x1), (2, pI x5), (3, pI x6)] [pI x5] (fun x10 => ?_) (fun hV14 => ?_)
    · refine sim_callS (As := [pI x10]) (rest := [pI x5]) dX5_withStatus_30 ln_X5_167 me_X5_flag rfl (by decide) (Nat.le_of_ble_eq_true rfl) (Nat.le_of_ble_eq_true rfl) rfl (sM_flag X x10 m2) (fun x11 => ?_)
      refine sim_iadd dX5_withStatus_33 ?_
      refine sim_istore_n (fun z => [(0, pR 5 0 0), (1, pI x1), (2, pI z), (3, pI x6)]) [1, 2, 0, 3] dX5_withStatus_34 (by decide) (fun _ => rfl) (fun x12 => ?_)
      refine sim_iinc (y := 1) (fun z => [(0, pR 5 0 0), (1, pI x1), (2, pI x12), (3, pI z)]) [1, 2, 3, 0] dX5_withStatus_35 rfl (by decide) (by decide) (fun _ => rfl) (fun x13 => ?_)
      refine sim_goto (tgt := 4) dX5_withStatus_38 (by decide) ?_
      exact hs8 x12 x13
    · refine sim_eq (lt_ite _ _ _ _) ?_
      refine sim_icmp_ne (tgt := 29) dX5_withStatus_22 (by decide) ?_ ?_
      · refine sim_iconst (v := 1) dX5_withStatus_25 (by decide) ?_
        refine sim_goto (tgt := 30) dX5_withStatus_26 (by decide) ?_
        exact hV14 _
      · refine sim_iconst (v := 0) dX5_withStatus_29 (by decide) ?_
        exact hV14 _

def bM_movesLeft_4 (m1 : Mem) (s6 : Int32 → Int32 → Option Int32) (x4 : Int32) (x5 : Int32) : Option Int32 :=
  gd (inb 1 238) (if (m1 (5, 0, 1) (ix 1)) ≤ x5 then (some x4) else (Option.bind (fM_ofTrain x5 1 m1) (fun x8 => Option.bind (fM_ofTrain x5 3 m1) (fun x9 => lt (x8 - x9) (fun (x10 : Int32) => Option.bind (fM_ofTrain x5 4 m1) (fun x11 => lt (if x11 = 2 then 0 else (if 0 ≤ x10 then x10 else (-x10))) (fun (x12 : Int32) => lt (x4 + x12) (fun (x13 : Int32) => lt (x5 + 1) (fun (x14 : Int32) => s6 x13 x14)))))))))
def fM_movesLeft (m1 : Mem) : Option Int32 :=
  lt 0 (fun (x2 : Int32) => lt 0 (fun (x3 : Int32) => lz20 (bM_movesLeft_4 m1) FU x2 x3))
abbrev rm_M_movesLeft : Room := { frames := 1, cells := 0, slots := 0, locals := 22 }
set_option maxRecDepth 4000 in
theorem sM_movesLeft (X : Sc) (m1 : Mem) : Sim X cX5_movesLeft 4 (some .int) RX5 rm_M_movesLeft (fun r : Int32 => r) (fun _ : Int32 => m1) 0 [(0, pR 5 0 0)] [] m1 (fM_movesLeft m1) := by
  unfold fM_movesLeft
  refine sim_iconst (v := 0) dX5_movesLeft_0 (by decide) ?_
  refine sim_istore_n (fun z => [(0, pR 5 0 0), (1, pI z)]) [1, 0] dX5_movesLeft_1 (by decide) (fun _ => rfl) (fun x2 => ?_)
  refine sim_iconst (v := 0) dX5_movesLeft_2 (by decide) ?_
  refine sim_istore_n (fun z => [(0, pR 5 0 0), (1, pI x2), (2, pI z)]) [1, 2, 0] dX5_movesLeft_3 (by decide) (fun _ => rfl) (fun x3 => ?_)
  refine sim_lz20 (fun z0 z1 => [(0, pR 5 0 0), (1, pI z0), (2, pI z1)]) (fun s6 hs7 x4 x5 => ?_) FU x2 x3
  unfold bM_movesLeft_4
  refine sim_iload_n dX5_movesLeft_4 rfl ?_
  refine sim_aload_n dX5_movesLeft_5 rfl ?_
  refine sim_get (v := pR 5 0 1) dX5_movesLeft_6 fl_X5_7 (by decide) rfl ?_
  refine sim_iconst (v := 1) dX5_movesLeft_9 (by decide) ?_
  refine sim_iald dX5_movesLeft_10 rfl (by decide) ?_
  refine sim_icmp_ge (tgt := 61) dX5_movesLeft_11 (by decide) ?_ ?_
  · refine sim_iload_n dX5_movesLeft_61 rfl ?_
    exact sim_iret dX5_movesLeft_62 rfl rfl
  · refine sim_aload_n dX5_movesLeft_14 rfl ?_
    refine sim_iload_n dX5_movesLeft_15 rfl ?_
    refine sim_iconst (v := 1) dX5_movesLeft_16 (by decide) ?_
    refine sim_callV (As := [pI x5, pI 1]) (rest := []) (k0 := 0) dX5_movesLeft_17 ln_X5_122 me_X5_ofTrain rfl (by decide) rfl (by decide) (Nat.le_of_ble_eq_true rfl) (Nat.le_of_ble_eq_true rfl) rfl (sM_ofTrain X x5 1 m1) (fun x8 => ?_)
    refine sim_aload_n dX5_movesLeft_20 rfl ?_
    refine sim_iload_n dX5_movesLeft_21 rfl ?_
    refine sim_iconst (v := 3) dX5_movesLeft_22 (by decide) ?_
    refine sim_callV (As := [pI x5, pI 3]) (rest := [pI x8]) (k0 := 0) dX5_movesLeft_23 ln_X5_122 me_X5_ofTrain rfl (by decide) rfl (by decide) (Nat.le_of_ble_eq_true rfl) (Nat.le_of_ble_eq_true rfl) rfl (sM_ofTrain X x5 3 m1) (fun x9 => ?_)
    refine sim_isub dX5_movesLeft_26 ?_
    refine sim_istore_n (fun z => [(0, pR 5 0 0), (1, pI x4), (2, pI x5), (3, pI z)]) [1, 2, 3, 0] dX5_movesLeft_27 (by decide) (fun _ => rfl) (fun x10 => ?_)
    refine sim_iload_n dX5_movesLeft_28 rfl ?_
    refine sim_aload_n dX5_movesLeft_29 rfl ?_
    refine sim_iload_n dX5_movesLeft_30 rfl ?_
    refine sim_iconst (v := 4) dX5_movesLeft_31 (by decide) ?_
    refine sim_callV (As := [pI x5, pI 4]) (rest := [pI x4]) (k0 := 0) dX5_movesLeft_32 ln_X5_122 me_X5_ofTrain rfl (by decide) rfl (by decide) (Nat.le_of_ble_eq_true rfl) (Nat.le_of_ble_eq_true rfl) rfl (sM_ofTrain X x5 4 m1) (fun x11 => ?_)
    refine sim_iconst (v := 2) dX5_movesLeft_35 (by decide) ?_
    refine sim_jv 53 [(0, pR 5 0 0), (1, pI x4), (2, pI x5), (3, pI x10)] [pI x4] (fun x12 => ?_) (fun hV15 => ?_)
    · refine sim_iadd dX5_movesLeft_53 ?_
      refine sim_istore_n (fun z => [(0, pR 5 0 0), (1, pI z), (2, pI x5), (3, pI x10)]) [1, 0, 2, 3] dX5_movesLeft_54 (by decide) (fun _ => rfl) (fun x13 => ?_)
      refine sim_iinc (y := 1) (fun z => [(0, pR 5 0 0), (1, pI x13), (2, pI z), (3, pI x10)]) [1, 2, 0, 3] dX5_movesLeft_55 rfl (by decide) (by decide) (fun _ => rfl) (fun x14 => ?_)
      refine sim_goto (tgt := 4) dX5_movesLeft_58 (by decide) ?_
      refine sim_pick [(0, pR 5 0 0), (1, pI x13), (2, pI x14)] [0, 1, 2] rfl ?_
      exact hs7 x13 x14
    · refine sim_eq (lt_ite _ _ _ _) ?_
      refine sim_icmp_ne (tgt := 43) dX5_movesLeft_36 (by decide) ?_ ?_
      · refine sim_iconst (v := 0) dX5_movesLeft_39 (by decide) ?_
        refine sim_goto (tgt := 53) dX5_movesLeft_40 (by decide) ?_
        exact hV15 _
      · refine sim_iload_n dX5_movesLeft_43 rfl ?_
        refine sim_eq (lt_ite _ _ _ _) ?_
        refine sim_if_ge (tgt := 52) dX5_movesLeft_44 (by decide) ?_ ?_
        · refine sim_iload_n dX5_movesLeft_52 rfl ?_
          exact hV15 _
        · refine sim_iload_n dX5_movesLeft_47 rfl ?_
          refine sim_ineg dX5_movesLeft_48 ?_
          refine sim_goto (tgt := 53) dX5_movesLeft_49 (by decide) ?_
          exact hV15 _

def jM_goesAlone_76 (x1 : Int32) (x3 : Int32) (x6 : Int32) (x7 : Int32) (m8 : Mem) : Option (Int32 × Mem) :=
  gd (inb x1 4) (lt (if (m8 (5, 0, 14) (ix x1)) = 0 then 1 else 0) (fun (x9 : Int32) => lt x9 (fun (x10 : Int32) => lt (if x10 = 0 then x3 else 0) (fun (x11 : Int32) => gd (inb x1 4) (lt (wr m8 (5, 0, 14) (ix x1) x11) (fun m12 => gd (isb x10) (some (x10, m12))))))))
def bM_goesAlone_12 (x1 : Int32) (x3 : Int32) (s19 : Int32 → Int32 → Mem → Option (Int32 × Mem)) (x16 : Int32) (x17 : Int32) (m18 : Mem) : Option (Int32 × Mem) :=
  if 6 ≤ x17 then (jM_goesAlone_76 x1 x3 x16 x17 m18) else (gd (inb x1 4) (if (m18 (5, 0, 14) (ix x1)) ≤ 0 then (jM_goesAlone_76 x1 x3 x16 x17 m18) else (if x16 = (-4) then (jM_goesAlone_76 x1 x3 x16 x17 m18) else (Option.bind (fM_movedBy x1 m18) (fun q21 => lt q21.1 (fun (x22 : Int32) => if x22 = (-4) then (gd (inb x1 4) (gd (inb x1 4) (lt (wr q21.2 (5, 0, 14) (ix x1) (q21.2 (5, 0, 14) (ix x1))) (fun m26 => lt (x17 + 1) (fun (x27 : Int32) => s19 x22 x27 m26))))) else (Option.bind (fM_weightOf x1 q21.2) (fun x23 => gd (!(x23 == 0)) (gd (!(7 == 0)) (gd (inb x1 4) (lt (wr q21.2 (5, 0, 14) (ix x1) ((x22 / x23) - (x22 / x23) / 7 * 7)) (fun m24 => lt (x17 + 1) (fun (x25 : Int32) => s19 x22 x25 m24)))))))))))))
def fM_goesAlone (x1 : Int32) (m2 : Mem) : Option (Int32 × Mem) :=
  gd (inb x1 4) (lt (m2 (5, 0, 14) (ix x1)) (fun (x3 : Int32) => lt 0 (fun (x4 : Int32) => lt 0 (fun (x5 : Int32) => lz21 (bM_goesAlone_12 x1 x3) FU x4 x5 m2))))
abbrev rm_M_goesAlone : Room := { frames := 4, cells := 0, slots := 0, locals := 94 }
set_option maxRecDepth 4000 in
theorem sM_goesAlone (X : Sc) (x1 : Int32) (m2 : Mem) : Sim X cX5_goesAlone 5 (some .boolean) RX5 rm_M_goesAlone (fun q : Int32 × Mem => q.1) (fun q : Int32 × Mem => q.2) 0 [(0, pR 5 0 0), (1, pI x1)] [] m2 (fM_goesAlone x1 m2) := by
  unfold fM_goesAlone
  refine sim_aload_n dX5_goesAlone_0 rfl ?_
  refine sim_get (v := pR 5 0 14) dX5_goesAlone_1 fl_X5_29 (by decide) rfl ?_
  refine sim_iload_n dX5_goesAlone_4 rfl ?_
  refine sim_iald dX5_goesAlone_5 rfl (by decide) ?_
  refine sim_istore_n (fun z => [(0, pR 5 0 0), (1, pI x1), (2, pI z)]) [1, 2, 0] dX5_goesAlone_6 (by decide) (fun _ => rfl) (fun x3 => ?_)
  refine sim_iconst (v := 0) dX5_goesAlone_7 (by decide) ?_
  refine sim_istore_n (fun z => [(0, pR 5 0 0), (1, pI x1), (2, pI x3), (3, pI z)]) [1, 2, 3, 0] dX5_goesAlone_8 (by decide) (fun _ => rfl) (fun x4 => ?_)
  refine sim_iconst (v := 0) dX5_goesAlone_9 (by decide) ?_
  refine sim_istore (fun z => [(0, pR 5 0 0), (1, pI x1), (2, pI x3), (3, pI x4), (4, pI z)]) [1, 2, 3, 4, 0] dX5_goesAlone_10 (by decide) (fun _ => rfl) (fun x5 => ?_)
  have hJ15 : ∀ (x6 : Int32) (x7 : Int32) (m8 : Mem), Sim X cX5_goesAlone 5 (some .boolean) RX5 rm_M_goesAlone (fun q : Int32 × Mem => q.1) (fun q : Int32 × Mem => q.2) 76 [(0, pR 5 0 0), (1, pI x1), (2, pI x3), (3, pI x6), (4, pI x7)] [] m8 (jM_goesAlone_76 x1 x3 x6 x7 m8) := by
    intro x6 x7 m8
    unfold jM_goesAlone_76
    refine sim_aload_n dX5_goesAlone_76 rfl ?_
    refine sim_get (v := pR 5 0 14) dX5_goesAlone_77 fl_X5_29 (by decide) rfl ?_
    refine sim_iload_n dX5_goesAlone_80 rfl ?_
    refine sim_iald dX5_goesAlone_81 rfl (by decide) ?_
    refine sim_jv 90 [(0, pR 5 0 0), (1, pI x1), (2, pI x3), (3, pI x6), (4, pI x7)] [] (fun x9 => ?_) (fun hV14 => ?_)
    · refine sim_istore (fun z => [(0, pR 5 0 0), (1, pI x1), (2, pI x3), (3, pI x6), (4, pI z)]) [1, 2, 3, 4, 0] dX5_goesAlone_90 (by decide) (fun _ => rfl) (fun x10 => ?_)
      refine sim_aload_n dX5_goesAlone_92 rfl ?_
      refine sim_get (v := pR 5 0 14) dX5_goesAlone_93 fl_X5_29 (by decide) rfl ?_
      refine sim_iload_n dX5_goesAlone_96 rfl ?_
      refine sim_iload dX5_goesAlone_97 rfl ?_
      refine sim_jv 107 [(0, pR 5 0 0), (1, pI x1), (2, pI x3), (3, pI x6), (4, pI x10)] [pI x1, pR 5 0 14] (fun x11 => ?_) (fun hV13 => ?_)
      · refine sim_iast dX5_goesAlone_107 rfl (by decide) (fun m12 => ?_)
        refine sim_iload dX5_goesAlone_108 rfl ?_
        exact sim_zretg dX5_goesAlone_110 rfl rfl
      · refine sim_eq (lt_ite _ _ _ _) ?_
        refine sim_if_eq (tgt := 106) dX5_goesAlone_99 (by decide) ?_ ?_
        · refine sim_iload_n dX5_goesAlone_106 rfl ?_
          exact hV13 _
        · refine sim_iconst (v := 0) dX5_goesAlone_102 (by decide) ?_
          refine sim_goto (tgt := 107) dX5_goesAlone_103 (by decide) ?_
          exact hV13 _
    · refine sim_eq (lt_ite _ _ _ _) ?_
      refine sim_if_ne (tgt := 89) dX5_goesAlone_82 (by decide) ?_ ?_
      · refine sim_iconst (v := 1) dX5_goesAlone_85 (by decide) ?_
        refine sim_goto (tgt := 90) dX5_goesAlone_86 (by decide) ?_
        exact hV14 _
      · refine sim_iconst (v := 0) dX5_goesAlone_89 (by decide) ?_
        exact hV14 _
  refine sim_lz21 (fun z0 z1 => [(0, pR 5 0 0), (1, pI x1), (2, pI x3), (3, pI z0), (4, pI z1)]) (fun s19 hs20 x16 x17 m18 => ?_) FU x4 x5 m2
  unfold bM_goesAlone_12
  refine sim_iload dX5_goesAlone_12 rfl ?_
  refine sim_bipush (v := 6) dX5_goesAlone_14 (by decide) ?_
  refine sim_icmp_ge (tgt := 76) dX5_goesAlone_16 (by decide) ?_ ?_
  · exact hJ15 x16 x17 m18
  · refine sim_aload_n dX5_goesAlone_19 rfl ?_
    refine sim_get (v := pR 5 0 14) dX5_goesAlone_20 fl_X5_29 (by decide) rfl ?_
    refine sim_iload_n dX5_goesAlone_23 rfl ?_
    refine sim_iald dX5_goesAlone_24 rfl (by decide) ?_
    refine sim_if_le (tgt := 76) dX5_goesAlone_25 (by decide) ?_ ?_
    · exact hJ15 x16 x17 m18
    · refine sim_iload_n dX5_goesAlone_28 rfl ?_
      refine sim_bipush (v := (-4)) dX5_goesAlone_29 (by decide) ?_
      refine sim_icmp_eq (tgt := 76) dX5_goesAlone_31 (by decide) ?_ ?_
      · exact hJ15 x16 x17 m18
      · refine sim_aload_n dX5_goesAlone_34 rfl ?_
        refine sim_iload_n dX5_goesAlone_35 rfl ?_
        refine sim_callV (As := [pI x1]) (rest := []) (k0 := 0) dX5_goesAlone_36 ln_X5_189 me_X5_movedBy rfl (by decide) rfl (by decide) (Nat.le_of_ble_eq_true rfl) (Nat.le_of_ble_eq_true rfl) rfl (sM_movedBy X x1 m18) (fun q21 => ?_)
        refine sim_istore_n (fun z => [(0, pR 5 0 0), (1, pI x1), (2, pI x3), (3, pI z), (4, pI x17)]) [1, 2, 3, 0, 4] dX5_goesAlone_39 (by decide) (fun _ => rfl) (fun x22 => ?_)
        refine sim_aload_n dX5_goesAlone_40 rfl ?_
        refine sim_get (v := pR 5 0 14) dX5_goesAlone_41 fl_X5_29 (by decide) rfl ?_
        refine sim_iload_n dX5_goesAlone_44 rfl ?_
        refine sim_iload_n dX5_goesAlone_45 rfl ?_
        refine sim_bipush (v := (-4)) dX5_goesAlone_46 (by decide) ?_
        refine sim_icmp_ne (tgt := 60) dX5_goesAlone_48 (by decide) ?_ ?_
        · refine sim_aload_n dX5_goesAlone_51 rfl ?_
          refine sim_get (v := pR 5 0 14) dX5_goesAlone_52 fl_X5_29 (by decide) rfl ?_
          refine sim_iload_n dX5_goesAlone_55 rfl ?_
          refine sim_iald dX5_goesAlone_56 rfl (by decide) ?_
          refine sim_goto (tgt := 69) dX5_goesAlone_57 (by decide) ?_
          refine sim_iast dX5_goesAlone_69 rfl (by decide) (fun m26 => ?_)
          refine sim_iinc (y := 1) (fun z => [(0, pR 5 0 0), (1, pI x1), (2, pI x3), (3, pI x22), (4, pI z)]) [1, 2, 3, 4, 0] dX5_goesAlone_70 rfl (by decide) (by decide) (fun _ => rfl) (fun x27 => ?_)
          refine sim_goto (tgt := 12) dX5_goesAlone_73 (by decide) ?_
          exact hs20 x22 x27 m26
        · refine sim_iload_n dX5_goesAlone_60 rfl ?_
          refine sim_iload_n dX5_goesAlone_61 rfl ?_
          refine sim_callS (As := [pI x1]) (rest := [pI x22, pI x1, pR 5 0 14]) dX5_goesAlone_62 ln_X5_174 me_X5_weightOf rfl (by decide) (Nat.le_of_ble_eq_true rfl) (Nat.le_of_ble_eq_true rfl) rfl (sM_weightOf X x1 q21.2) (fun x23 => ?_)
          refine sim_idiv dX5_goesAlone_65 ?_
          refine sim_bipush (v := 7) dX5_goesAlone_66 (by decide) ?_
          refine sim_irem dX5_goesAlone_68 ?_
          refine sim_iast dX5_goesAlone_69 rfl (by decide) (fun m24 => ?_)
          refine sim_iinc (y := 1) (fun z => [(0, pR 5 0 0), (1, pI x1), (2, pI x3), (3, pI x22), (4, pI z)]) [1, 2, 3, 4, 0] dX5_goesAlone_70 rfl (by decide) (by decide) (fun _ => rfl) (fun x25 => ?_)
          refine sim_goto (tgt := 12) dX5_goesAlone_73 (by decide) ?_
          exact hs20 x22 x25 m24

def bM_findSequence_23 (s8 : Int32 → Mem → Option Mem) (s15 : Int32 → Int32 → Mem → Option Mem) (x12 : Int32) (x13 : Int32) (m14 : Mem) : Option Mem :=
  gd (inb 1 238) (if (m14 (5, 0, 1) (ix 1)) ≤ x13 then (s8 x12 m14) else (if x12 = 0 then (gd (inb x13 4) (if (m14 (5, 0, 14) (ix x13)) ≤ 0 then (lt (x13 + 1) (fun (x17 : Int32) => s15 x12 x17 m14)) else (Option.bind (fM_goesAlone x13 m14) (fun q18 => if q18.1 = 0 then (lt (x13 + 1) (fun (x19 : Int32) => s15 x12 x19 q18.2)) else (gd (inb (q18.2 (5, 0, 0) 19) 4) (lt (wr q18.2 (5, 0, 19) (ix (q18.2 (5, 0, 0) 19)) x13) (fun m20 => lt (wr m20 (5, 0, 0) 19 ((m20 (5, 0, 0) 19) + 1)) (fun m21 => lt 1 (fun (x22 : Int32) => lt (x13 + 1) (fun (x23 : Int32) => s15 x22 x23 m21)))))))))) else (s8 x12 m14)))
def bM_findSequence_15 (s8 : Int32 → Mem → Option Mem) (x6 : Int32) (m7 : Mem) : Option Mem :=
  if x6 = 0 then (some m7) else (lt 0 (fun (x10 : Int32) => lt 0 (fun (x11 : Int32) => lz21 (bM_findSequence_23 s8) FU x10 x11 m7)))
def fM_findSequence (m1 : Mem) : Option Mem :=
  Option.bind (fM_postureNow m1) (fun x2 => Option.bind (fM_decode x2 m1) (fun m3 => lt (wr m3 (5, 0, 0) 19 0) (fun m4 => lt 1 (fun (x5 : Int32) => lz11 (bM_findSequence_15) FU x5 m4))))
abbrev rm_M_findSequence : Room := { frames := 5, cells := 0, slots := 0, locals := 118 }
set_option maxRecDepth 4000 in
theorem sM_findSequence (X : Sc) (m1 : Mem) : Sim X cX5_findSequence 3 none RX5 rm_M_findSequence (fun _ : Mem => 0) (fun m : Mem => m) 0 [(0, pR 5 0 0)] [] m1 (fM_findSequence m1) := by
  unfold fM_findSequence
  refine sim_aload_n dX5_findSequence_0 rfl ?_
  refine sim_aload_n dX5_findSequence_1 rfl ?_
  refine sim_callV (As := []) (rest := [pR 5 0 0]) (k0 := 0) dX5_findSequence_2 ln_X5_126 me_X5_postureNow rfl (by decide) rfl (by decide) (Nat.le_of_ble_eq_true rfl) (Nat.le_of_ble_eq_true rfl) rfl (sM_postureNow X m1) (fun x2 => ?_)
  refine sim_callV (As := [pI x2]) (rest := []) (k0 := 0) dX5_findSequence_5 ln_X5_129 me_X5_decode rfl (by decide) rfl (by decide) (Nat.le_of_ble_eq_true rfl) (Nat.le_of_ble_eq_true rfl) rfl (sM_decode X x2 m1) (fun m3 => ?_)
  refine sim_aload_n dX5_findSequence_8 rfl ?_
  refine sim_iconst (v := 0) dX5_findSequence_9 (by decide) ?_
  refine sim_put dX5_findSequence_10 fl_X5_192 fp_5_19 rfl rfl (fun m4 => ?_)
  refine sim_iconst (v := 1) dX5_findSequence_13 (by decide) ?_
  refine sim_istore_n (fun z => [(0, pR 5 0 0), (1, pI z)]) [1, 0] dX5_findSequence_14 (by decide) (fun _ => rfl) (fun x5 => ?_)
  refine sim_lz11 (fun z0 => [(0, pR 5 0 0), (1, pI z0)]) (fun s8 hs9 x6 m7 => ?_) FU x5 m4
  unfold bM_findSequence_15
  refine sim_iload_n dX5_findSequence_15 rfl ?_
  refine sim_if_eq (tgt := 85) dX5_findSequence_16 (by decide) ?_ ?_
  · exact sim_ret dX5_findSequence_85 rfl
  · refine sim_iconst (v := 0) dX5_findSequence_19 (by decide) ?_
    refine sim_istore_n (fun z => [(0, pR 5 0 0), (1, pI z)]) [1, 0] dX5_findSequence_20 (by decide) (fun _ => rfl) (fun x10 => ?_)
    refine sim_iconst (v := 0) dX5_findSequence_21 (by decide) ?_
    refine sim_istore_n (fun z => [(0, pR 5 0 0), (1, pI x10), (2, pI z)]) [1, 2, 0] dX5_findSequence_22 (by decide) (fun _ => rfl) (fun x11 => ?_)
    refine sim_lz21 (fun z0 z1 => [(0, pR 5 0 0), (1, pI z0), (2, pI z1)]) (fun s15 hs16 x12 x13 m14 => ?_) FU x10 x11 m7
    unfold bM_findSequence_23
    refine sim_iload_n dX5_findSequence_23 rfl ?_
    refine sim_aload_n dX5_findSequence_24 rfl ?_
    refine sim_get (v := pR 5 0 1) dX5_findSequence_25 fl_X5_7 (by decide) rfl ?_
    refine sim_iconst (v := 1) dX5_findSequence_28 (by decide) ?_
    refine sim_iald dX5_findSequence_29 rfl (by decide) ?_
    refine sim_icmp_ge (tgt := 82) dX5_findSequence_30 (by decide) ?_ ?_
    · refine sim_goto (tgt := 15) dX5_findSequence_82 (by decide) ?_
      refine sim_pick [(0, pR 5 0 0), (1, pI x12)] [0, 1] rfl ?_
      exact hs9 x12 m14
    · refine sim_iload_n dX5_findSequence_33 rfl ?_
      refine sim_if_ne (tgt := 82) dX5_findSequence_34 (by decide) ?_ ?_
      · refine sim_aload_n dX5_findSequence_37 rfl ?_
        refine sim_get (v := pR 5 0 14) dX5_findSequence_38 fl_X5_29 (by decide) rfl ?_
        refine sim_iload_n dX5_findSequence_41 rfl ?_
        refine sim_iald dX5_findSequence_42 rfl (by decide) ?_
        refine sim_if_le (tgt := 76) dX5_findSequence_43 (by decide) ?_ ?_
        · refine sim_iinc (y := 1) (fun z => [(0, pR 5 0 0), (1, pI x12), (2, pI z)]) [1, 2, 0] dX5_findSequence_76 rfl (by decide) (by decide) (fun _ => rfl) (fun x17 => ?_)
          refine sim_goto (tgt := 23) dX5_findSequence_79 (by decide) ?_
          exact hs16 x12 x17 m14
        · refine sim_aload_n dX5_findSequence_46 rfl ?_
          refine sim_iload_n dX5_findSequence_47 rfl ?_
          refine sim_callV (As := [pI x13]) (rest := []) (k0 := 0) dX5_findSequence_48 ln_X5_195 me_X5_goesAlone rfl (by decide) rfl (by decide) (Nat.le_of_ble_eq_true rfl) (Nat.le_of_ble_eq_true rfl) rfl (sM_goesAlone X x13 m14) (fun q18 => ?_)
          refine sim_if_eq (tgt := 76) dX5_findSequence_51 (by decide) ?_ ?_
          · refine sim_iinc (y := 1) (fun z => [(0, pR 5 0 0), (1, pI x12), (2, pI z)]) [1, 2, 0] dX5_findSequence_76 rfl (by decide) (by decide) (fun _ => rfl) (fun x19 => ?_)
            refine sim_goto (tgt := 23) dX5_findSequence_79 (by decide) ?_
            exact hs16 x12 x19 q18.2
          · refine sim_aload_n dX5_findSequence_54 rfl ?_
            refine sim_get (v := pR 5 0 19) dX5_findSequence_55 fl_X5_41 (by decide) rfl ?_
            refine sim_aload_n dX5_findSequence_58 rfl ?_
            refine sim_get (v := pI (q18.2 (5, 0, 0) 19)) dX5_findSequence_59 fl_X5_192 (by decide) rfl ?_
            refine sim_iload_n dX5_findSequence_62 rfl ?_
            refine sim_iast dX5_findSequence_63 rfl (by decide) (fun m20 => ?_)
            refine sim_aload_n dX5_findSequence_64 rfl ?_
            refine sim_dup dX5_findSequence_65 rfl ?_
            refine sim_get (v := pI (m20 (5, 0, 0) 19)) dX5_findSequence_66 fl_X5_192 (by decide) rfl ?_
            refine sim_iconst (v := 1) dX5_findSequence_69 (by decide) ?_
            refine sim_iadd dX5_findSequence_70 ?_
            refine sim_put dX5_findSequence_71 fl_X5_192 fp_5_19 rfl rfl (fun m21 => ?_)
            refine sim_iconst (v := 1) dX5_findSequence_74 (by decide) ?_
            refine sim_istore_n (fun z => [(0, pR 5 0 0), (1, pI z), (2, pI x13)]) [1, 0, 2] dX5_findSequence_75 (by decide) (fun _ => rfl) (fun x22 => ?_)
            refine sim_iinc (y := 1) (fun z => [(0, pR 5 0 0), (1, pI x22), (2, pI z)]) [1, 2, 0] dX5_findSequence_76 rfl (by decide) (by decide) (fun _ => rfl) (fun x23 => ?_)
            refine sim_goto (tgt := 23) dX5_findSequence_79 (by decide) ?_
            exact hs16 x22 x23 m21
      · refine sim_goto (tgt := 15) dX5_findSequence_82 (by decide) ?_
        refine sim_pick [(0, pR 5 0 0), (1, pI x12)] [0, 1] rfl ?_
        exact hs9 x12 m14

def fM_isPlain (m1 : Mem) : Option (Int32 × Mem) :=
  Option.bind (fM_findSequence m1) (fun m2 => Option.bind (fM_encode m2) (fun x3 => if x3 = 0 then (some (1, m2)) else (some (0, m2))))
abbrev rm_M_isPlain : Room := { frames := 6, cells := 0, slots := 0, locals := 140 }
set_option maxRecDepth 4000 in
theorem sM_isPlain (X : Sc) (m1 : Mem) : Sim X cX5_isPlain 1 (some .boolean) RX5 rm_M_isPlain (fun q : Int32 × Mem => q.1) (fun q : Int32 × Mem => q.2) 0 [(0, pR 5 0 0)] [] m1 (fM_isPlain m1) := by
  unfold fM_isPlain
  refine sim_aload_n dX5_isPlain_0 rfl ?_
  refine sim_callV (As := []) (rest := []) (k0 := 0) dX5_isPlain_1 ln_X5_198 me_X5_findSequence rfl (by decide) rfl (by decide) (Nat.le_of_ble_eq_true rfl) (Nat.le_of_ble_eq_true rfl) rfl (sM_findSequence X m1) (fun m2 => ?_)
  refine sim_aload_n dX5_isPlain_4 rfl ?_
  refine sim_callV (As := []) (rest := []) (k0 := 0) dX5_isPlain_5 ln_X5_183 me_X5_encode rfl (by decide) rfl (by decide) (Nat.le_of_ble_eq_true rfl) (Nat.le_of_ble_eq_true rfl) rfl (sM_encode X m2) (fun x3 => ?_)
  refine sim_if_ne (tgt := 15) dX5_isPlain_8 (by decide) ?_ ?_
  · refine sim_iconst (v := 1) dX5_isPlain_11 (by decide) ?_
    refine sim_goto (tgt := 16) dX5_isPlain_12 (by decide) ?_
    exact sim_zret dX5_isPlain_16 rfl rfl rfl
  · refine sim_iconst (v := 0) dX5_isPlain_15 (by decide) ?_
    exact sim_zret dX5_isPlain_16 rfl rfl rfl

def fM_leftBy (x1 : Int32) (m2 : Mem) : Option Int32 :=
  Option.bind (fM_ofTrain x1 1 m2) (fun x3 => Option.bind (fM_ofTrain x1 0 m2) (fun x4 => if x3 ≤ x4 then (Option.bind (fM_ofTrain x1 3 m2) (fun x5 => some (x5 + 1))) else (Option.bind (fM_ofTrain x1 3 m2) (fun x6 => some (x6 - 1)))))
abbrev rm_M_leftBy : Room := { frames := 1, cells := 0, slots := 0, locals := 22 }
set_option maxRecDepth 4000 in
theorem sM_leftBy (X : Sc) (x1 : Int32) (m2 : Mem) : Sim X cX5_leftBy 2 (some .int) RX5 rm_M_leftBy (fun r : Int32 => r) (fun _ : Int32 => m2) 0 [(0, pR 5 0 0), (1, pI x1)] [] m2 (fM_leftBy x1 m2) := by
  unfold fM_leftBy
  refine sim_aload_n dX5_leftBy_0 rfl ?_
  refine sim_iload_n dX5_leftBy_1 rfl ?_
  refine sim_iconst (v := 1) dX5_leftBy_2 (by decide) ?_
  refine sim_callV (As := [pI x1, pI 1]) (rest := []) (k0 := 0) dX5_leftBy_3 ln_X5_122 me_X5_ofTrain rfl (by decide) rfl (by decide) (Nat.le_of_ble_eq_true rfl) (Nat.le_of_ble_eq_true rfl) rfl (sM_ofTrain X x1 1 m2) (fun x3 => ?_)
  refine sim_aload_n dX5_leftBy_6 rfl ?_
  refine sim_iload_n dX5_leftBy_7 rfl ?_
  refine sim_iconst (v := 0) dX5_leftBy_8 (by decide) ?_
  refine sim_callV (As := [pI x1, pI 0]) (rest := [pI x3]) (k0 := 0) dX5_leftBy_9 ln_X5_122 me_X5_ofTrain rfl (by decide) rfl (by decide) (Nat.le_of_ble_eq_true rfl) (Nat.le_of_ble_eq_true rfl) rfl (sM_ofTrain X x1 0 m2) (fun x4 => ?_)
  refine sim_icmp_le (tgt := 26) dX5_leftBy_12 (by decide) ?_ ?_
  · refine sim_aload_n dX5_leftBy_26 rfl ?_
    refine sim_iload_n dX5_leftBy_27 rfl ?_
    refine sim_iconst (v := 3) dX5_leftBy_28 (by decide) ?_
    refine sim_callV (As := [pI x1, pI 3]) (rest := []) (k0 := 0) dX5_leftBy_29 ln_X5_122 me_X5_ofTrain rfl (by decide) rfl (by decide) (Nat.le_of_ble_eq_true rfl) (Nat.le_of_ble_eq_true rfl) rfl (sM_ofTrain X x1 3 m2) (fun x5 => ?_)
    refine sim_iconst (v := 1) dX5_leftBy_32 (by decide) ?_
    refine sim_iadd dX5_leftBy_33 ?_
    exact sim_iret dX5_leftBy_34 rfl rfl
  · refine sim_aload_n dX5_leftBy_15 rfl ?_
    refine sim_iload_n dX5_leftBy_16 rfl ?_
    refine sim_iconst (v := 3) dX5_leftBy_17 (by decide) ?_
    refine sim_callV (As := [pI x1, pI 3]) (rest := []) (k0 := 0) dX5_leftBy_18 ln_X5_122 me_X5_ofTrain rfl (by decide) rfl (by decide) (Nat.le_of_ble_eq_true rfl) (Nat.le_of_ble_eq_true rfl) rfl (sM_ofTrain X x1 3 m2) (fun x6 => ?_)
    refine sim_iconst (v := 1) dX5_leftBy_21 (by decide) ?_
    refine sim_isub dX5_leftBy_22 ?_
    refine sim_goto (tgt := 34) dX5_leftBy_23 (by decide) ?_
    exact sim_iret dX5_leftBy_34 rfl rfl

def jM_runsBetween_45 (x1 : Int32) (x2 : Int32) (m3 : Mem) (s6 : Int32 → Option Int32) (x5 : Int32) (x11 : Int32) : Option Int32 :=
  if x11 = x2 then (Option.bind (fM_ofTrain x5 3 m3) (fun x13 => if x13 = x1 then (some x5) else (lt (x5 + 1) (fun (x14 : Int32) => s6 x14)))) else (lt (x5 + 1) (fun (x12 : Int32) => s6 x12))
def bM_runsBetween_2 (x1 : Int32) (x2 : Int32) (m3 : Mem) (s6 : Int32 → Option Int32) (x5 : Int32) : Option Int32 :=
  gd (inb 1 238) (if (m3 (5, 0, 1) (ix 1)) ≤ x5 then (some (-4)) else (Option.bind (fM_ofTrain x5 4 m3) (fun x8 => if x8 = 1 then (Option.bind (fM_leftBy x5 m3) (fun x10 => lt x10 (fun (x11 : Int32) => if x11 = x1 then (Option.bind (fM_ofTrain x5 3 m3) (fun x16 => if x16 = x2 then (some x5) else (jM_runsBetween_45 x1 x2 m3 s6 x5 x11))) else (jM_runsBetween_45 x1 x2 m3 s6 x5 x11)))) else (lt (x5 + 1) (fun (x9 : Int32) => s6 x9)))))
def fM_runsBetween (x1 : Int32) (x2 : Int32) (m3 : Mem) : Option Int32 :=
  lt 0 (fun (x4 : Int32) => lz10 (bM_runsBetween_2 x1 x2 m3) FU x4)
abbrev rm_M_runsBetween : Room := { frames := 2, cells := 0, slots := 0, locals := 43 }
set_option maxRecDepth 4000 in
theorem sM_runsBetween (X : Sc) (x1 : Int32) (x2 : Int32) (m3 : Mem) : Sim X cX5_runsBetween 5 (some .int) RX5 rm_M_runsBetween (fun r : Int32 => r) (fun _ : Int32 => m3) 0 [(0, pR 5 0 0), (1, pI x1), (2, pI x2)] [] m3 (fM_runsBetween x1 x2 m3) := by
  unfold fM_runsBetween
  refine sim_iconst (v := 0) dX5_runsBetween_0 (by decide) ?_
  refine sim_istore_n (fun z => [(0, pR 5 0 0), (1, pI x1), (2, pI x2), (3, pI z)]) [1, 2, 3, 0] dX5_runsBetween_1 (by decide) (fun _ => rfl) (fun x4 => ?_)
  refine sim_lz10 (fun z0 => [(0, pR 5 0 0), (1, pI x1), (2, pI x2), (3, pI z0)]) (fun s6 hs7 x5 => ?_) FU x4
  unfold bM_runsBetween_2
  refine sim_iload_n dX5_runsBetween_2 rfl ?_
  refine sim_aload_n dX5_runsBetween_3 rfl ?_
  refine sim_get (v := pR 5 0 1) dX5_runsBetween_4 fl_X5_7 (by decide) rfl ?_
  refine sim_iconst (v := 1) dX5_runsBetween_7 (by decide) ?_
  refine sim_iald dX5_runsBetween_8 rfl (by decide) ?_
  refine sim_icmp_ge (tgt := 69) dX5_runsBetween_9 (by decide) ?_ ?_
  · refine sim_bipush (v := (-4)) dX5_runsBetween_69 (by decide) ?_
    exact sim_iret dX5_runsBetween_71 rfl rfl
  · refine sim_aload_n dX5_runsBetween_12 rfl ?_
    refine sim_iload_n dX5_runsBetween_13 rfl ?_
    refine sim_iconst (v := 4) dX5_runsBetween_14 (by decide) ?_
    refine sim_callV (As := [pI x5, pI 4]) (rest := []) (k0 := 0) dX5_runsBetween_15 ln_X5_122 me_X5_ofTrain rfl (by decide) rfl (by decide) (Nat.le_of_ble_eq_true rfl) (Nat.le_of_ble_eq_true rfl) rfl (sM_ofTrain X x5 4 m3) (fun x8 => ?_)
    refine sim_iconst (v := 1) dX5_runsBetween_18 (by decide) ?_
    refine sim_icmp_ne (tgt := 63) dX5_runsBetween_19 (by decide) ?_ ?_
    · refine sim_aload_n dX5_runsBetween_22 rfl ?_
      refine sim_iload_n dX5_runsBetween_23 rfl ?_
      refine sim_callV (As := [pI x5]) (rest := []) (k0 := 0) dX5_runsBetween_24 ln_X5_201 me_X5_leftBy rfl (by decide) rfl (by decide) (Nat.le_of_ble_eq_true rfl) (Nat.le_of_ble_eq_true rfl) rfl (sM_leftBy X x5 m3) (fun x10 => ?_)
      refine sim_istore (fun z => [(0, pR 5 0 0), (1, pI x1), (2, pI x2), (3, pI x5), (4, pI z)]) [1, 2, 3, 4, 0] dX5_runsBetween_27 (by decide) (fun _ => rfl) (fun x11 => ?_)
      refine sim_iload dX5_runsBetween_29 rfl ?_
      refine sim_iload_n dX5_runsBetween_31 rfl ?_
      have hJ15 : Sim X cX5_runsBetween 5 (some .int) RX5 rm_M_runsBetween (fun r : Int32 => r) (fun _ : Int32 => m3) 45 [(0, pR 5 0 0), (1, pI x1), (2, pI x2), (3, pI x5), (4, pI x11)] [] m3 (jM_runsBetween_45 x1 x2 m3 s6 x5 x11) := by
        unfold jM_runsBetween_45
        refine sim_iload dX5_runsBetween_45 rfl ?_
        refine sim_iload_n dX5_runsBetween_47 rfl ?_
        refine sim_icmp_ne (tgt := 63) dX5_runsBetween_48 (by decide) ?_ ?_
        · refine sim_aload_n dX5_runsBetween_51 rfl ?_
          refine sim_iload_n dX5_runsBetween_52 rfl ?_
          refine sim_iconst (v := 3) dX5_runsBetween_53 (by decide) ?_
          refine sim_callV (As := [pI x5, pI 3]) (rest := []) (k0 := 0) dX5_runsBetween_54 ln_X5_122 me_X5_ofTrain rfl (by decide) rfl (by decide) (Nat.le_of_ble_eq_true rfl) (Nat.le_of_ble_eq_true rfl) rfl (sM_ofTrain X x5 3 m3) (fun x13 => ?_)
          refine sim_iload_n dX5_runsBetween_57 rfl ?_
          refine sim_icmp_ne (tgt := 63) dX5_runsBetween_58 (by decide) ?_ ?_
          · refine sim_iload_n dX5_runsBetween_61 rfl ?_
            exact sim_iret dX5_runsBetween_62 rfl rfl
          · refine sim_iinc (y := 1) (fun z => [(0, pR 5 0 0), (1, pI x1), (2, pI x2), (3, pI z), (4, pI x11)]) [1, 2, 3, 0, 4] dX5_runsBetween_63 rfl (by decide) (by decide) (fun _ => rfl) (fun x14 => ?_)
            refine sim_goto (tgt := 2) dX5_runsBetween_66 (by decide) ?_
            refine sim_pick [(0, pR 5 0 0), (1, pI x1), (2, pI x2), (3, pI x14)] [0, 1, 2, 3] rfl ?_
            exact hs7 x14
        · refine sim_iinc (y := 1) (fun z => [(0, pR 5 0 0), (1, pI x1), (2, pI x2), (3, pI z), (4, pI x11)]) [1, 2, 3, 0, 4] dX5_runsBetween_63 rfl (by decide) (by decide) (fun _ => rfl) (fun x12 => ?_)
          refine sim_goto (tgt := 2) dX5_runsBetween_66 (by decide) ?_
          refine sim_pick [(0, pR 5 0 0), (1, pI x1), (2, pI x2), (3, pI x12)] [0, 1, 2, 3] rfl ?_
          exact hs7 x12
      refine sim_icmp_ne (tgt := 45) dX5_runsBetween_32 (by decide) ?_ ?_
      · refine sim_aload_n dX5_runsBetween_35 rfl ?_
        refine sim_iload_n dX5_runsBetween_36 rfl ?_
        refine sim_iconst (v := 3) dX5_runsBetween_37 (by decide) ?_
        refine sim_callV (As := [pI x5, pI 3]) (rest := []) (k0 := 0) dX5_runsBetween_38 ln_X5_122 me_X5_ofTrain rfl (by decide) rfl (by decide) (Nat.le_of_ble_eq_true rfl) (Nat.le_of_ble_eq_true rfl) rfl (sM_ofTrain X x5 3 m3) (fun x16 => ?_)
        refine sim_iload_n dX5_runsBetween_41 rfl ?_
        refine sim_icmp_eq (tgt := 61) dX5_runsBetween_42 (by decide) ?_ ?_
        · refine sim_iload_n dX5_runsBetween_61 rfl ?_
          exact sim_iret dX5_runsBetween_62 rfl rfl
        · exact hJ15
      · exact hJ15
    · refine sim_iinc (y := 1) (fun z => [(0, pR 5 0 0), (1, pI x1), (2, pI x2), (3, pI z)]) [1, 2, 3, 0] dX5_runsBetween_63 rfl (by decide) (by decide) (fun _ => rfl) (fun x9 => ?_)
      refine sim_goto (tgt := 2) dX5_runsBetween_66 (by decide) ?_
      exact hs7 x9

def fM_against (x1 : Int32) (m2 : Mem) : Option (Int32 × Mem) :=
  Option.bind (fM_ofTrain x1 4 m2) (fun x3 => if x3 = 0 then (Option.bind (fM_ofTrain x1 3 m2) (fun x4 => lt x4 (fun (x5 : Int32) => Option.bind (fM_nextFrom x1 x5 m2) (fun x6 => Option.bind (fM_runsBetween x5 x6 m2) (fun x7 => if x7 = (-4) then (Option.bind (fM_postureNow m2) (fun x8 => Option.bind (fM_decode x8 m2) (fun m9 => Option.bind (fM_movedBy x1 m9) (fun q10 => lt q10.1 (fun (x11 : Int32) => if x11 = (-4) then (some (4, q10.2)) else (gd (inb x11 2401) (if (q10.2 (5, 0, 17) (ix x11)) = 0 then (some (5, q10.2)) else (some (0, q10.2))))))))) else (some (3, m2))))))) else (Option.bind (fM_ofTrain x1 4 m2) (fun x12 => if x12 = 2 then (some (1, m2)) else (some (2, m2)))))
abbrev rm_M_against : Room := { frames := 4, cells := 0, slots := 0, locals := 94 }
set_option maxRecDepth 4000 in
theorem sM_against (X : Sc) (x1 : Int32) (m2 : Mem) : Sim X cX5_against 4 (some .int) RX5 rm_M_against (fun q : Int32 × Mem => q.1) (fun q : Int32 × Mem => q.2) 0 [(0, pR 5 0 0), (1, pI x1)] [] m2 (fM_against x1 m2) := by
  unfold fM_against
  refine sim_aload_n dX5_against_0 rfl ?_
  refine sim_iload_n dX5_against_1 rfl ?_
  refine sim_iconst (v := 4) dX5_against_2 (by decide) ?_
  refine sim_callV (As := [pI x1, pI 4]) (rest := []) (k0 := 0) dX5_against_3 ln_X5_122 me_X5_ofTrain rfl (by decide) rfl (by decide) (Nat.le_of_ble_eq_true rfl) (Nat.le_of_ble_eq_true rfl) rfl (sM_ofTrain X x1 4 m2) (fun x3 => ?_)
  refine sim_if_eq (tgt := 25) dX5_against_6 (by decide) ?_ ?_
  · refine sim_aload_n dX5_against_25 rfl ?_
    refine sim_iload_n dX5_against_26 rfl ?_
    refine sim_iconst (v := 3) dX5_against_27 (by decide) ?_
    refine sim_callV (As := [pI x1, pI 3]) (rest := []) (k0 := 0) dX5_against_28 ln_X5_122 me_X5_ofTrain rfl (by decide) rfl (by decide) (Nat.le_of_ble_eq_true rfl) (Nat.le_of_ble_eq_true rfl) rfl (sM_ofTrain X x1 3 m2) (fun x4 => ?_)
    refine sim_istore_n (fun z => [(0, pR 5 0 0), (1, pI x1), (2, pI z)]) [1, 2, 0] dX5_against_31 (by decide) (fun _ => rfl) (fun x5 => ?_)
    refine sim_aload_n dX5_against_32 rfl ?_
    refine sim_iload_n dX5_against_33 rfl ?_
    refine sim_aload_n dX5_against_34 rfl ?_
    refine sim_iload_n dX5_against_35 rfl ?_
    refine sim_iload_n dX5_against_36 rfl ?_
    refine sim_callV (As := [pI x1, pI x5]) (rest := [pI x5, pR 5 0 0]) (k0 := 0) dX5_against_37 ln_X5_161 me_X5_nextFrom rfl (by decide) rfl (by decide) (Nat.le_of_ble_eq_true rfl) (Nat.le_of_ble_eq_true rfl) rfl (sM_nextFrom X x1 x5 m2) (fun x6 => ?_)
    refine sim_callV (As := [pI x5, pI x6]) (rest := []) (k0 := 0) dX5_against_40 ln_X5_204 me_X5_runsBetween rfl (by decide) rfl (by decide) (Nat.le_of_ble_eq_true rfl) (Nat.le_of_ble_eq_true rfl) rfl (sM_runsBetween X x5 x6 m2) (fun x7 => ?_)
    refine sim_bipush (v := (-4)) dX5_against_43 (by decide) ?_
    refine sim_icmp_eq (tgt := 50) dX5_against_45 (by decide) ?_ ?_
    · refine sim_aload_n dX5_against_50 rfl ?_
      refine sim_aload_n dX5_against_51 rfl ?_
      refine sim_callV (As := []) (rest := [pR 5 0 0]) (k0 := 0) dX5_against_52 ln_X5_126 me_X5_postureNow rfl (by decide) rfl (by decide) (Nat.le_of_ble_eq_true rfl) (Nat.le_of_ble_eq_true rfl) rfl (sM_postureNow X m2) (fun x8 => ?_)
      refine sim_callV (As := [pI x8]) (rest := []) (k0 := 0) dX5_against_55 ln_X5_129 me_X5_decode rfl (by decide) rfl (by decide) (Nat.le_of_ble_eq_true rfl) (Nat.le_of_ble_eq_true rfl) rfl (sM_decode X x8 m2) (fun m9 => ?_)
      refine sim_aload_n dX5_against_58 rfl ?_
      refine sim_iload_n dX5_against_59 rfl ?_
      refine sim_callV (As := [pI x1]) (rest := []) (k0 := 0) dX5_against_60 ln_X5_189 me_X5_movedBy rfl (by decide) rfl (by decide) (Nat.le_of_ble_eq_true rfl) (Nat.le_of_ble_eq_true rfl) rfl (sM_movedBy X x1 m9) (fun q10 => ?_)
      refine sim_istore_n (fun z => [(0, pR 5 0 0), (1, pI x1), (2, pI x5), (3, pI z)]) [1, 2, 3, 0] dX5_against_63 (by decide) (fun _ => rfl) (fun x11 => ?_)
      refine sim_iload_n dX5_against_64 rfl ?_
      refine sim_bipush (v := (-4)) dX5_against_65 (by decide) ?_
      refine sim_icmp_ne (tgt := 74) dX5_against_67 (by decide) ?_ ?_
      · refine sim_iconst (v := 4) dX5_against_70 (by decide) ?_
        refine sim_goto (tgt := 88) dX5_against_71 (by decide) ?_
        exact sim_iret dX5_against_88 rfl rfl
      · refine sim_aload_n dX5_against_74 rfl ?_
        refine sim_get (v := pR 5 0 17) dX5_against_75 fl_X5_38 (by decide) rfl ?_
        refine sim_iload_n dX5_against_78 rfl ?_
        refine sim_zald dX5_against_79 rfl (by decide) ?_
        refine sim_if_eq (tgt := 87) dX5_against_80 (by decide) ?_ ?_
        · refine sim_iconst (v := 5) dX5_against_87 (by decide) ?_
          exact sim_iret dX5_against_88 rfl rfl
        · refine sim_iconst (v := 0) dX5_against_83 (by decide) ?_
          refine sim_goto (tgt := 88) dX5_against_84 (by decide) ?_
          exact sim_iret dX5_against_88 rfl rfl
    · refine sim_iconst (v := 3) dX5_against_48 (by decide) ?_
      exact sim_iret dX5_against_49 rfl rfl
  · refine sim_aload_n dX5_against_9 rfl ?_
    refine sim_iload_n dX5_against_10 rfl ?_
    refine sim_iconst (v := 4) dX5_against_11 (by decide) ?_
    refine sim_callV (As := [pI x1, pI 4]) (rest := []) (k0 := 0) dX5_against_12 ln_X5_122 me_X5_ofTrain rfl (by decide) rfl (by decide) (Nat.le_of_ble_eq_true rfl) (Nat.le_of_ble_eq_true rfl) rfl (sM_ofTrain X x1 4 m2) (fun x12 => ?_)
    refine sim_iconst (v := 2) dX5_against_15 (by decide) ?_
    refine sim_icmp_ne (tgt := 23) dX5_against_16 (by decide) ?_ ?_
    · refine sim_iconst (v := 1) dX5_against_19 (by decide) ?_
      refine sim_goto (tgt := 24) dX5_against_20 (by decide) ?_
      exact sim_iret dX5_against_24 rfl rfl
    · refine sim_iconst (v := 2) dX5_against_23 (by decide) ?_
      exact sim_iret dX5_against_24 rfl rfl

def bM_canGo_12 (s9 : Int32 → Int32 → Mem → Option (Int32 × Mem)) (x6 : Int32) (x7 : Int32) (m8 : Mem) : Option (Int32 × Mem) :=
  gd (inb 1 238) (if (m8 (5, 0, 1) (ix 1)) ≤ x7 then (some (x6, m8)) else (Option.bind (fM_against x7 m8) (fun q11 => lt (if q11.1 = 0 then 1 else 0) (fun (x12 : Int32) => Option.bind (fM_flag x12 q11.2) (fun x13 => lt (x6 + x13) (fun (x14 : Int32) => lt (x7 + 1) (fun (x15 : Int32) => s9 x14 x15 q11.2)))))))
def fM_canGo (m1 : Mem) : Option (Int32 × Mem) :=
  Option.bind (fM_postureNow m1) (fun x2 => Option.bind (fM_explore x2 m1) (fun m3 => lt 0 (fun (x4 : Int32) => lt 0 (fun (x5 : Int32) => lz21 (bM_canGo_12) FU x4 x5 m3))))
abbrev rm_M_canGo : Room := { frames := 5, cells := 0, slots := 0, locals := 119 }
set_option maxRecDepth 4000 in
theorem sM_canGo (X : Sc) (m1 : Mem) : Sim X cX5_canGo 3 (some .int) RX5 rm_M_canGo (fun q : Int32 × Mem => q.1) (fun q : Int32 × Mem => q.2) 0 [(0, pR 5 0 0)] [] m1 (fM_canGo m1) := by
  unfold fM_canGo
  refine sim_aload_n dX5_canGo_0 rfl ?_
  refine sim_aload_n dX5_canGo_1 rfl ?_
  refine sim_callV (As := []) (rest := [pR 5 0 0]) (k0 := 0) dX5_canGo_2 ln_X5_126 me_X5_postureNow rfl (by decide) rfl (by decide) (Nat.le_of_ble_eq_true rfl) (Nat.le_of_ble_eq_true rfl) rfl (sM_postureNow X m1) (fun x2 => ?_)
  refine sim_callV (As := [pI x2]) (rest := []) (k0 := 0) dX5_canGo_5 ln_X5_136 me_X5_explore rfl (by decide) rfl (by decide) (Nat.le_of_ble_eq_true rfl) (Nat.le_of_ble_eq_true rfl) rfl (sM_explore X x2 m1) (fun m3 => ?_)
  refine sim_iconst (v := 0) dX5_canGo_8 (by decide) ?_
  refine sim_istore_n (fun z => [(0, pR 5 0 0), (1, pI z)]) [1, 0] dX5_canGo_9 (by decide) (fun _ => rfl) (fun x4 => ?_)
  refine sim_iconst (v := 0) dX5_canGo_10 (by decide) ?_
  refine sim_istore_n (fun z => [(0, pR 5 0 0), (1, pI x4), (2, pI z)]) [1, 2, 0] dX5_canGo_11 (by decide) (fun _ => rfl) (fun x5 => ?_)
  refine sim_lz21 (fun z0 z1 => [(0, pR 5 0 0), (1, pI z0), (2, pI z1)]) (fun s9 hs10 x6 x7 m8 => ?_) FU x4 x5 m3
  unfold bM_canGo_12
  refine sim_iload_n dX5_canGo_12 rfl ?_
  refine sim_aload_n dX5_canGo_13 rfl ?_
  refine sim_get (v := pR 5 0 1) dX5_canGo_14 fl_X5_7 (by decide) rfl ?_
  refine sim_iconst (v := 1) dX5_canGo_17 (by decide) ?_
  refine sim_iald dX5_canGo_18 rfl (by decide) ?_
  refine sim_icmp_ge (tgt := 47) dX5_canGo_19 (by decide) ?_ ?_
  · refine sim_iload_n dX5_canGo_47 rfl ?_
    exact sim_iret dX5_canGo_48 rfl rfl
  · refine sim_iload_n dX5_canGo_22 rfl ?_
    refine sim_aload_n dX5_canGo_23 rfl ?_
    refine sim_iload_n dX5_canGo_24 rfl ?_
    refine sim_callV (As := [pI x7]) (rest := [pI x6]) (k0 := 0) dX5_canGo_25 ln_X5_207 me_X5_against rfl (by decide) rfl (by decide) (Nat.le_of_ble_eq_true rfl) (Nat.le_of_ble_eq_true rfl) rfl (sM_against X x7 m8) (fun q11 => ?_)
    refine sim_jv 36 [(0, pR 5 0 0), (1, pI x6), (2, pI x7)] [pI x6] (fun x12 => ?_) (fun hV16 => ?_)
    · refine sim_callS (As := [pI x12]) (rest := [pI x6]) dX5_canGo_36 ln_X5_167 me_X5_flag rfl (by decide) (Nat.le_of_ble_eq_true rfl) (Nat.le_of_ble_eq_true rfl) rfl (sM_flag X x12 q11.2) (fun x13 => ?_)
      refine sim_iadd dX5_canGo_39 ?_
      refine sim_istore_n (fun z => [(0, pR 5 0 0), (1, pI z), (2, pI x7)]) [1, 0, 2] dX5_canGo_40 (by decide) (fun _ => rfl) (fun x14 => ?_)
      refine sim_iinc (y := 1) (fun z => [(0, pR 5 0 0), (1, pI x14), (2, pI z)]) [1, 2, 0] dX5_canGo_41 rfl (by decide) (by decide) (fun _ => rfl) (fun x15 => ?_)
      refine sim_goto (tgt := 12) dX5_canGo_44 (by decide) ?_
      exact hs10 x14 x15 q11.2
    · refine sim_eq (lt_ite _ _ _ _) ?_
      refine sim_if_ne (tgt := 35) dX5_canGo_28 (by decide) ?_ ?_
      · refine sim_iconst (v := 1) dX5_canGo_31 (by decide) ?_
        refine sim_goto (tgt := 36) dX5_canGo_32 (by decide) ?_
        exact hV16 _
      · refine sim_iconst (v := 0) dX5_canGo_35 (by decide) ?_
        exact hV16 _

def fM_rule (x1 : Int32) (m2 : Mem) : Option (Int32 × Mem) :=
  if x1 = 0 then (gd (inb x1 238) (some (m2 (5, 0, 1) (ix x1), m2))) else (if x1 = 1 then (gd (inb x1 238) (some (m2 (5, 0, 1) (ix x1), m2))) else (if x1 = 2 then (gd (inb x1 238) (some (m2 (5, 0, 1) (ix x1), m2))) else (if x1 = 3 then (Option.bind (fM_withStatus 1 m2) (fun x6 => some (x6, m2))) else (if x1 = 4 then (Option.bind (fM_withStatus 2 m2) (fun x8 => some (x8, m2))) else (if x1 = 5 then (gd (inb 3 238) (some (m2 (5, 0, 1) (ix 3), m2))) else (if x1 = 6 then (Option.bind (fM_isPlain m2) (fun q11 => Option.bind (fM_flag q11.1 q11.2) (fun x12 => some (x12, q11.2)))) else (if x1 = 7 then (Option.bind (fM_movesLeft m2) (fun x14 => some (x14, m2))) else (if x1 = 8 then (Option.bind (fM_canGo m2) (fun q16 => some (q16.1, q16.2))) else (some ((-1), m2))))))))))
abbrev rm_M_rule : Room := { frames := 7, cells := 0, slots := 0, locals := 160 }
set_option maxRecDepth 4000 in
theorem sM_rule (X : Sc) (x1 : Int32) (m2 : Mem) : Sim X cX5_rule 2 (some .int) RX5 rm_M_rule (fun q : Int32 × Mem => q.1) (fun q : Int32 × Mem => q.2) 0 [(0, pR 5 0 0), (1, pI x1)] [] m2 (fM_rule x1 m2) := by
  unfold fM_rule
  refine sim_iload_n dX5_rule_0 rfl ?_
  refine sim_case ?_ (fun hc3 => ?_)
  · refine sim_tab (off := 51) (tgt := 52) dX5_rule_1 (by decide) (by decide) (by decide) (by decide) ?_
    refine sim_aload_n dX5_rule_52 rfl ?_
    refine sim_get (v := pR 5 0 1) dX5_rule_53 fl_X5_7 (by decide) rfl ?_
    refine sim_iload_n dX5_rule_56 rfl ?_
    refine sim_iald dX5_rule_57 rfl (by decide) ?_
    exact sim_iret dX5_rule_58 rfl rfl
  · refine sim_case ?_ (fun hc4 => ?_)
    · refine sim_tab (off := 51) (tgt := 52) dX5_rule_1 (by decide) (by decide) (by decide) (by decide) ?_
      refine sim_aload_n dX5_rule_52 rfl ?_
      refine sim_get (v := pR 5 0 1) dX5_rule_53 fl_X5_7 (by decide) rfl ?_
      refine sim_iload_n dX5_rule_56 rfl ?_
      refine sim_iald dX5_rule_57 rfl (by decide) ?_
      exact sim_iret dX5_rule_58 rfl rfl
    · refine sim_case ?_ (fun hc5 => ?_)
      · refine sim_tab (off := 51) (tgt := 52) dX5_rule_1 (by decide) (by decide) (by decide) (by decide) ?_
        refine sim_aload_n dX5_rule_52 rfl ?_
        refine sim_get (v := pR 5 0 1) dX5_rule_53 fl_X5_7 (by decide) rfl ?_
        refine sim_iload_n dX5_rule_56 rfl ?_
        refine sim_iald dX5_rule_57 rfl (by decide) ?_
        exact sim_iret dX5_rule_58 rfl rfl
      · refine sim_case ?_ (fun hc7 => ?_)
        · refine sim_tab (off := 58) (tgt := 59) dX5_rule_1 (by decide) (by decide) (by decide) (by decide) ?_
          refine sim_aload_n dX5_rule_59 rfl ?_
          refine sim_iconst (v := 1) dX5_rule_60 (by decide) ?_
          refine sim_callV (As := [pI 1]) (rest := []) (k0 := 0) dX5_rule_61 ln_X5_210 me_X5_withStatus rfl (by decide) rfl (by decide) (Nat.le_of_ble_eq_true rfl) (Nat.le_of_ble_eq_true rfl) rfl (sM_withStatus X 1 m2) (fun x6 => ?_)
          exact sim_iret dX5_rule_64 rfl rfl
        · refine sim_case ?_ (fun hc9 => ?_)
          · refine sim_tab (off := 64) (tgt := 65) dX5_rule_1 (by decide) (by decide) (by decide) (by decide) ?_
            refine sim_aload_n dX5_rule_65 rfl ?_
            refine sim_iconst (v := 2) dX5_rule_66 (by decide) ?_
            refine sim_callV (As := [pI 2]) (rest := []) (k0 := 0) dX5_rule_67 ln_X5_210 me_X5_withStatus rfl (by decide) rfl (by decide) (Nat.le_of_ble_eq_true rfl) (Nat.le_of_ble_eq_true rfl) rfl (sM_withStatus X 2 m2) (fun x8 => ?_)
            exact sim_iret dX5_rule_70 rfl rfl
          · refine sim_case ?_ (fun hc10 => ?_)
            · refine sim_tab (off := 70) (tgt := 71) dX5_rule_1 (by decide) (by decide) (by decide) (by decide) ?_
              refine sim_aload_n dX5_rule_71 rfl ?_
              refine sim_get (v := pR 5 0 1) dX5_rule_72 fl_X5_7 (by decide) rfl ?_
              refine sim_iconst (v := 3) dX5_rule_75 (by decide) ?_
              refine sim_iald dX5_rule_76 rfl (by decide) ?_
              exact sim_iret dX5_rule_77 rfl rfl
            · refine sim_case ?_ (fun hc13 => ?_)
              · refine sim_tab (off := 77) (tgt := 78) dX5_rule_1 (by decide) (by decide) (by decide) (by decide) ?_
                refine sim_aload_n dX5_rule_78 rfl ?_
                refine sim_callV (As := []) (rest := []) (k0 := 0) dX5_rule_79 ln_X5_213 me_X5_isPlain rfl (by decide) rfl (by decide) (Nat.le_of_ble_eq_true rfl) (Nat.le_of_ble_eq_true rfl) rfl (sM_isPlain X m2) (fun q11 => ?_)
                refine sim_callS (As := [pI q11.1]) (rest := []) dX5_rule_82 ln_X5_167 me_X5_flag rfl (by decide) (Nat.le_of_ble_eq_true rfl) (Nat.le_of_ble_eq_true rfl) rfl (sM_flag X q11.1 q11.2) (fun x12 => ?_)
                exact sim_iret dX5_rule_85 rfl rfl
              · refine sim_case ?_ (fun hc15 => ?_)
                · refine sim_tab (off := 85) (tgt := 86) dX5_rule_1 (by decide) (by decide) (by decide) (by decide) ?_
                  refine sim_aload_n dX5_rule_86 rfl ?_
                  refine sim_callV (As := []) (rest := []) (k0 := 0) dX5_rule_87 ln_X5_216 me_X5_movesLeft rfl (by decide) rfl (by decide) (Nat.le_of_ble_eq_true rfl) (Nat.le_of_ble_eq_true rfl) rfl (sM_movesLeft X m2) (fun x14 => ?_)
                  exact sim_iret dX5_rule_90 rfl rfl
                · refine sim_case ?_ (fun hc17 => ?_)
                  · refine sim_tab (off := 90) (tgt := 91) dX5_rule_1 (by decide) (by decide) (by decide) (by decide) ?_
                    refine sim_aload_n dX5_rule_91 rfl ?_
                    refine sim_callV (As := []) (rest := []) (k0 := 0) dX5_rule_92 ln_X5_219 me_X5_canGo rfl (by decide) rfl (by decide) (Nat.le_of_ble_eq_true rfl) (Nat.le_of_ble_eq_true rfl) rfl (sM_canGo X m2) (fun q16 => ?_)
                    exact sim_iret dX5_rule_95 rfl rfl
                  · have e0_ := ne_lit hc3 (n := 0) (by decide)
                    have e1_ := ne_lit hc4 (n := 1) (by decide)
                    have e2_ := ne_lit hc5 (n := 2) (by decide)
                    have e3_ := ne_lit hc7 (n := 3) (by decide)
                    have e4_ := ne_lit hc9 (n := 4) (by decide)
                    have e5_ := ne_lit hc10 (n := 5) (by decide)
                    have e6_ := ne_lit hc13 (n := 6) (by decide)
                    have e7_ := ne_lit hc15 (n := 7) (by decide)
                    have e8_ := ne_lit hc17 (n := 8) (by decide)
                    refine sim_tabd (tgt := 96) dX5_rule_1 (by omega) (by decide) ?_
                    refine sim_iconst (v := (-1)) dX5_rule_96 (by decide) ?_
                    exact sim_iret dX5_rule_97 rfl rfl

def jM_trackOf_90 (x1 : Int32) (m3 : Mem) (x5 : Int32) (x6 : Int32) (x7 : Int32) : Option Int32 :=
  Option.bind (fM_ofPlace x1 (1 + x5) m3) (fun x8 => some x8)
def jM_trackOf_84 (x1 : Int32) (x2 : Int32) (m3 : Mem) (s11 : Int32 → Option Int32) (x10 : Int32) (x16 : Int32) (x17 : Int32) : Option Int32 :=
  if x16 = x2 then (jM_trackOf_90 x1 m3 x10 x16 x17) else (lt (x10 + 1) (fun (x18 : Int32) => s11 x18))
def bM_trackOf_18 (x1 : Int32) (x2 : Int32) (m3 : Mem) (s11 : Int32 → Option Int32) (x10 : Int32) (s22 : Int32 → Int32 → Option Int32) (x20 : Int32) (x21 : Int32) : Option Int32 :=
  Option.bind (fM_ofPlace x1 0 m3) (fun x24 => if x24 ≤ x21 then (jM_trackOf_84 x1 x2 m3 s11 x10 x20 x21) else (Option.bind (fM_ofPlace x1 (1 + x21) m3) (fun x25 => Option.bind (fM_ofPlace x1 (1 + x10) m3) (fun x26 => lt (x25 - x26) (fun (x27 : Int32) => lt (if 0 < x27 then 1 else (if x27 = 0 then (if x10 ≤ x21 then 0 else 1) else 0)) (fun (x28 : Int32) => Option.bind (fM_flag x28 m3) (fun x29 => lt (x20 + x29) (fun (x30 : Int32) => lt (x21 + 1) (fun (x31 : Int32) => s22 x30 x31)))))))))
def bM_trackOf_2 (x1 : Int32) (x2 : Int32) (m3 : Mem) (s11 : Int32 → Option Int32) (x10 : Int32) : Option Int32 :=
  Option.bind (fM_ofPlace x1 0 m3) (fun x13 => if x13 ≤ x10 then (some (-4)) else (lt 0 (fun (x14 : Int32) => lt 0 (fun (x15 : Int32) => lz20 (bM_trackOf_18 x1 x2 m3 s11 x10) FU x14 x15))))
def fM_trackOf (x1 : Int32) (x2 : Int32) (m3 : Mem) : Option Int32 :=
  lt 0 (fun (x4 : Int32) => lz10 (bM_trackOf_2 x1 x2 m3) FU x4)
abbrev rm_M_trackOf : Room := { frames := 1, cells := 0, slots := 0, locals := 22 }
set_option maxRecDepth 4000 in
theorem sM_trackOf (X : Sc) (x1 : Int32) (x2 : Int32) (m3 : Mem) : Sim X cX5_trackOf 7 (some .int) RX5 rm_M_trackOf (fun r : Int32 => r) (fun _ : Int32 => m3) 0 [(0, pR 5 0 0), (1, pI x1), (2, pI x2)] [] m3 (fM_trackOf x1 x2 m3) := by
  unfold fM_trackOf
  refine sim_iconst (v := 0) dX5_trackOf_0 (by decide) ?_
  refine sim_istore_n (fun z => [(0, pR 5 0 0), (1, pI x1), (2, pI x2), (3, pI z)]) [1, 2, 3, 0] dX5_trackOf_1 (by decide) (fun _ => rfl) (fun x4 => ?_)
  have hJ9 : ∀ (x5 : Int32) (x6 : Int32) (x7 : Int32), Sim X cX5_trackOf 7 (some .int) RX5 rm_M_trackOf (fun r : Int32 => r) (fun _ : Int32 => m3) 90 [(0, pR 5 0 0), (1, pI x1), (2, pI x2), (3, pI x5), (4, pI x6), (5, pI x7)] [] m3 (jM_trackOf_90 x1 m3 x5 x6 x7) := by
    intro x5 x6 x7
    unfold jM_trackOf_90
    refine sim_aload_n dX5_trackOf_90 rfl ?_
    refine sim_iload_n dX5_trackOf_91 rfl ?_
    refine sim_iconst (v := 1) dX5_trackOf_92 (by decide) ?_
    refine sim_iload_n dX5_trackOf_93 rfl ?_
    refine sim_iadd dX5_trackOf_94 ?_
    refine sim_callV (As := [pI x1, pI (1 + x5)]) (rest := []) (k0 := 0) dX5_trackOf_95 ln_X5_158 me_X5_ofPlace rfl (by decide) rfl (by decide) (Nat.le_of_ble_eq_true rfl) (Nat.le_of_ble_eq_true rfl) rfl (sM_ofPlace X x1 (1 + x5) m3) (fun x8 => ?_)
    exact sim_iret dX5_trackOf_98 rfl rfl
  refine sim_lz10 (fun z0 => [(0, pR 5 0 0), (1, pI x1), (2, pI x2), (3, pI z0)]) (fun s11 hs12 x10 => ?_) FU x4
  unfold bM_trackOf_2
  refine sim_iload_n dX5_trackOf_2 rfl ?_
  refine sim_aload_n dX5_trackOf_3 rfl ?_
  refine sim_iload_n dX5_trackOf_4 rfl ?_
  refine sim_iconst (v := 0) dX5_trackOf_5 (by decide) ?_
  refine sim_callV (As := [pI x1, pI 0]) (rest := [pI x10]) (k0 := 0) dX5_trackOf_6 ln_X5_158 me_X5_ofPlace rfl (by decide) rfl (by decide) (Nat.le_of_ble_eq_true rfl) (Nat.le_of_ble_eq_true rfl) rfl (sM_ofPlace X x1 0 m3) (fun x13 => ?_)
  refine sim_icmp_ge (tgt := 105) dX5_trackOf_9 (by decide) ?_ ?_
  · refine sim_bipush (v := (-4)) dX5_trackOf_105 (by decide) ?_
    exact sim_iret dX5_trackOf_107 rfl rfl
  · refine sim_iconst (v := 0) dX5_trackOf_12 (by decide) ?_
    refine sim_istore (fun z => [(0, pR 5 0 0), (1, pI x1), (2, pI x2), (3, pI x10), (4, pI z)]) [1, 2, 3, 4, 0] dX5_trackOf_13 (by decide) (fun _ => rfl) (fun x14 => ?_)
    refine sim_iconst (v := 0) dX5_trackOf_15 (by decide) ?_
    refine sim_istore (fun z => [(0, pR 5 0 0), (1, pI x1), (2, pI x2), (3, pI x10), (4, pI x14), (5, pI z)]) [1, 2, 3, 4, 5, 0] dX5_trackOf_16 (by decide) (fun _ => rfl) (fun x15 => ?_)
    have hJ19 : ∀ (x16 : Int32) (x17 : Int32), Sim X cX5_trackOf 7 (some .int) RX5 rm_M_trackOf (fun r : Int32 => r) (fun _ : Int32 => m3) 84 [(0, pR 5 0 0), (1, pI x1), (2, pI x2), (3, pI x10), (4, pI x16), (5, pI x17)] [] m3 (jM_trackOf_84 x1 x2 m3 s11 x10 x16 x17) := by
      intro x16 x17
      unfold jM_trackOf_84
      refine sim_iload dX5_trackOf_84 rfl ?_
      refine sim_iload_n dX5_trackOf_86 rfl ?_
      refine sim_icmp_ne (tgt := 99) dX5_trackOf_87 (by decide) ?_ ?_
      · exact hJ9 x10 x16 x17
      · refine sim_iinc (y := 1) (fun z => [(0, pR 5 0 0), (1, pI x1), (2, pI x2), (3, pI z), (4, pI x16), (5, pI x17)]) [1, 2, 3, 0, 4, 5] dX5_trackOf_99 rfl (by decide) (by decide) (fun _ => rfl) (fun x18 => ?_)
        refine sim_goto (tgt := 2) dX5_trackOf_102 (by decide) ?_
        refine sim_pick [(0, pR 5 0 0), (1, pI x1), (2, pI x2), (3, pI x18)] [0, 1, 2, 3] rfl ?_
        exact hs12 x18
    refine sim_lz20 (fun z0 z1 => [(0, pR 5 0 0), (1, pI x1), (2, pI x2), (3, pI x10), (4, pI z0), (5, pI z1)]) (fun s22 hs23 x20 x21 => ?_) FU x14 x15
    unfold bM_trackOf_18
    refine sim_iload dX5_trackOf_18 rfl ?_
    refine sim_aload_n dX5_trackOf_20 rfl ?_
    refine sim_iload_n dX5_trackOf_21 rfl ?_
    refine sim_iconst (v := 0) dX5_trackOf_22 (by decide) ?_
    refine sim_callV (As := [pI x1, pI 0]) (rest := [pI x21]) (k0 := 0) dX5_trackOf_23 ln_X5_158 me_X5_ofPlace rfl (by decide) rfl (by decide) (Nat.le_of_ble_eq_true rfl) (Nat.le_of_ble_eq_true rfl) rfl (sM_ofPlace X x1 0 m3) (fun x24 => ?_)
    refine sim_icmp_ge (tgt := 84) dX5_trackOf_26 (by decide) ?_ ?_
    · exact hJ19 x20 x21
    · refine sim_aload_n dX5_trackOf_29 rfl ?_
      refine sim_iload_n dX5_trackOf_30 rfl ?_
      refine sim_iconst (v := 1) dX5_trackOf_31 (by decide) ?_
      refine sim_iload dX5_trackOf_32 rfl ?_
      refine sim_iadd dX5_trackOf_34 ?_
      refine sim_callV (As := [pI x1, pI (1 + x21)]) (rest := []) (k0 := 0) dX5_trackOf_35 ln_X5_158 me_X5_ofPlace rfl (by decide) rfl (by decide) (Nat.le_of_ble_eq_true rfl) (Nat.le_of_ble_eq_true rfl) rfl (sM_ofPlace X x1 (1 + x21) m3) (fun x25 => ?_)
      refine sim_aload_n dX5_trackOf_38 rfl ?_
      refine sim_iload_n dX5_trackOf_39 rfl ?_
      refine sim_iconst (v := 1) dX5_trackOf_40 (by decide) ?_
      refine sim_iload_n dX5_trackOf_41 rfl ?_
      refine sim_iadd dX5_trackOf_42 ?_
      refine sim_callV (As := [pI x1, pI (1 + x10)]) (rest := [pI x25]) (k0 := 0) dX5_trackOf_43 ln_X5_158 me_X5_ofPlace rfl (by decide) rfl (by decide) (Nat.le_of_ble_eq_true rfl) (Nat.le_of_ble_eq_true rfl) rfl (sM_ofPlace X x1 (1 + x10) m3) (fun x26 => ?_)
      refine sim_isub dX5_trackOf_46 ?_
      refine sim_istore (fun z => [(0, pR 5 0 0), (1, pI x1), (2, pI x2), (3, pI x10), (4, pI x20), (5, pI x21), (6, pI z)]) [1, 2, 3, 4, 5, 6, 0] dX5_trackOf_47 (by decide) (fun _ => rfl) (fun x27 => ?_)
      refine sim_iload dX5_trackOf_49 rfl ?_
      refine sim_iload dX5_trackOf_51 rfl ?_
      refine sim_jv 72 [(0, pR 5 0 0), (1, pI x1), (2, pI x2), (3, pI x10), (4, pI x20), (5, pI x21), (6, pI x27)] [pI x20] (fun x28 => ?_) (fun hV32 => ?_)
      · refine sim_callS (As := [pI x28]) (rest := [pI x20]) dX5_trackOf_72 ln_X5_167 me_X5_flag rfl (by decide) (Nat.le_of_ble_eq_true rfl) (Nat.le_of_ble_eq_true rfl) rfl (sM_flag X x28 m3) (fun x29 => ?_)
        refine sim_iadd dX5_trackOf_75 ?_
        refine sim_istore (fun z => [(0, pR 5 0 0), (1, pI x1), (2, pI x2), (3, pI x10), (4, pI z), (5, pI x21), (6, pI x27)]) [1, 2, 3, 4, 0, 5, 6] dX5_trackOf_76 (by decide) (fun _ => rfl) (fun x30 => ?_)
        refine sim_iinc (y := 1) (fun z => [(0, pR 5 0 0), (1, pI x1), (2, pI x2), (3, pI x10), (4, pI x30), (5, pI z), (6, pI x27)]) [1, 2, 3, 4, 5, 0, 6] dX5_trackOf_78 rfl (by decide) (by decide) (fun _ => rfl) (fun x31 => ?_)
        refine sim_goto (tgt := 18) dX5_trackOf_81 (by decide) ?_
        refine sim_pick [(0, pR 5 0 0), (1, pI x1), (2, pI x2), (3, pI x10), (4, pI x30), (5, pI x31)] [0, 1, 2, 3, 4, 5] rfl ?_
        exact hs23 x30 x31
      · refine sim_eq (lt_ite _ _ _ _) ?_
        refine sim_if_gt (tgt := 67) dX5_trackOf_53 (by decide) ?_ ?_
        · refine sim_iconst (v := 1) dX5_trackOf_67 (by decide) ?_
          refine sim_goto (tgt := 72) dX5_trackOf_68 (by decide) ?_
          exact hV32 _
        · refine sim_iload dX5_trackOf_56 rfl ?_
          refine sim_eq (lt_ite _ _ _ _) ?_
          refine sim_if_ne (tgt := 71) dX5_trackOf_58 (by decide) ?_ ?_
          · refine sim_iload dX5_trackOf_61 rfl ?_
            refine sim_iload_n dX5_trackOf_63 rfl ?_
            refine sim_eq (lt_ite _ _ _ _) ?_
            refine sim_icmp_ge (tgt := 71) dX5_trackOf_64 (by decide) ?_ ?_
            · refine sim_iconst (v := 0) dX5_trackOf_71 (by decide) ?_
              exact hV32 _
            · refine sim_iconst (v := 1) dX5_trackOf_67 (by decide) ?_
              refine sim_goto (tgt := 72) dX5_trackOf_68 (by decide) ?_
              exact hV32 _
          · refine sim_iconst (v := 0) dX5_trackOf_71 (by decide) ?_
            exact hV32 _

def jM_trainsAt_38 (m2 : Mem) (s7 : Int32 → Int32 → Option Int32) (x5 : Int32) (x6 : Int32) (x10 : Int32) : Option Int32 :=
  Option.bind (fM_flag x10 m2) (fun x11 => lt (x5 + x11) (fun (x12 : Int32) => lt (x6 + 1) (fun (x13 : Int32) => s7 x12 x13)))
def bM_trainsAt_4 (x1 : Int32) (m2 : Mem) (s7 : Int32 → Int32 → Option Int32) (x5 : Int32) (x6 : Int32) : Option Int32 :=
  gd (inb 1 238) (if (m2 (5, 0, 1) (ix 1)) ≤ x6 then (some x5) else (Option.bind (fM_isDoneIn x6 m2) (fun x9 => if x9 = 0 then (Option.bind (fM_ofTrain x6 3 m2) (fun x15 => if x15 = x1 then (jM_trainsAt_38 m2 s7 x5 x6 1) else (jM_trainsAt_38 m2 s7 x5 x6 0))) else (jM_trainsAt_38 m2 s7 x5 x6 0))))
def fM_trainsAt (x1 : Int32) (m2 : Mem) : Option Int32 :=
  lt 0 (fun (x3 : Int32) => lt 0 (fun (x4 : Int32) => lz20 (bM_trainsAt_4 x1 m2) FU x3 x4))
abbrev rm_M_trainsAt : Room := { frames := 2, cells := 0, slots := 0, locals := 43 }
set_option maxRecDepth 4000 in
theorem sM_trainsAt (X : Sc) (x1 : Int32) (m2 : Mem) : Sim X cX5_trainsAt 4 (some .int) RX5 rm_M_trainsAt (fun r : Int32 => r) (fun _ : Int32 => m2) 0 [(0, pR 5 0 0), (1, pI x1)] [] m2 (fM_trainsAt x1 m2) := by
  unfold fM_trainsAt
  refine sim_iconst (v := 0) dX5_trainsAt_0 (by decide) ?_
  refine sim_istore_n (fun z => [(0, pR 5 0 0), (1, pI x1), (2, pI z)]) [1, 2, 0] dX5_trainsAt_1 (by decide) (fun _ => rfl) (fun x3 => ?_)
  refine sim_iconst (v := 0) dX5_trainsAt_2 (by decide) ?_
  refine sim_istore_n (fun z => [(0, pR 5 0 0), (1, pI x1), (2, pI x3), (3, pI z)]) [1, 2, 3, 0] dX5_trainsAt_3 (by decide) (fun _ => rfl) (fun x4 => ?_)
  refine sim_lz20 (fun z0 z1 => [(0, pR 5 0 0), (1, pI x1), (2, pI z0), (3, pI z1)]) (fun s7 hs8 x5 x6 => ?_) FU x3 x4
  unfold bM_trainsAt_4
  refine sim_iload_n dX5_trainsAt_4 rfl ?_
  refine sim_aload_n dX5_trainsAt_5 rfl ?_
  refine sim_get (v := pR 5 0 1) dX5_trainsAt_6 fl_X5_7 (by decide) rfl ?_
  refine sim_iconst (v := 1) dX5_trainsAt_9 (by decide) ?_
  refine sim_iald dX5_trainsAt_10 rfl (by decide) ?_
  refine sim_icmp_ge (tgt := 49) dX5_trainsAt_11 (by decide) ?_ ?_
  · refine sim_iload_n dX5_trainsAt_49 rfl ?_
    exact sim_iret dX5_trainsAt_50 rfl rfl
  · refine sim_iload_n dX5_trainsAt_14 rfl ?_
    refine sim_aload_n dX5_trainsAt_15 rfl ?_
    refine sim_iload_n dX5_trainsAt_16 rfl ?_
    refine sim_callV (As := [pI x6]) (rest := [pI x5]) (k0 := 0) dX5_trainsAt_17 ln_X5_171 me_X5_isDoneIn rfl (by decide) rfl (by decide) (Nat.le_of_ble_eq_true rfl) (Nat.le_of_ble_eq_true rfl) rfl (sM_isDoneIn X x6 m2) (fun x9 => ?_)
    have hJ14 : ∀ (x10 : Int32), Sim X cX5_trainsAt 4 (some .int) RX5 rm_M_trainsAt (fun r : Int32 => r) (fun _ : Int32 => m2) 38 [(0, pR 5 0 0), (1, pI x1), (2, pI x5), (3, pI x6)] [pI x10, pI x5] m2 (jM_trainsAt_38 m2 s7 x5 x6 x10) := by
      intro x10
      unfold jM_trainsAt_38
      refine sim_callS (As := [pI x10]) (rest := [pI x5]) dX5_trainsAt_38 ln_X5_167 me_X5_flag rfl (by decide) (Nat.le_of_ble_eq_true rfl) (Nat.le_of_ble_eq_true rfl) rfl (sM_flag X x10 m2) (fun x11 => ?_)
      refine sim_iadd dX5_trainsAt_41 ?_
      refine sim_istore_n (fun z => [(0, pR 5 0 0), (1, pI x1), (2, pI z), (3, pI x6)]) [1, 2, 0, 3] dX5_trainsAt_42 (by decide) (fun _ => rfl) (fun x12 => ?_)
      refine sim_iinc (y := 1) (fun z => [(0, pR 5 0 0), (1, pI x1), (2, pI x12), (3, pI z)]) [1, 2, 3, 0] dX5_trainsAt_43 rfl (by decide) (by decide) (fun _ => rfl) (fun x13 => ?_)
      refine sim_goto (tgt := 4) dX5_trainsAt_46 (by decide) ?_
      exact hs8 x12 x13
    refine sim_if_ne (tgt := 37) dX5_trainsAt_20 (by decide) ?_ ?_
    · refine sim_aload_n dX5_trainsAt_23 rfl ?_
      refine sim_iload_n dX5_trainsAt_24 rfl ?_
      refine sim_iconst (v := 3) dX5_trainsAt_25 (by decide) ?_
      refine sim_callV (As := [pI x6, pI 3]) (rest := [pI x5]) (k0 := 0) dX5_trainsAt_26 ln_X5_122 me_X5_ofTrain rfl (by decide) rfl (by decide) (Nat.le_of_ble_eq_true rfl) (Nat.le_of_ble_eq_true rfl) rfl (sM_ofTrain X x6 3 m2) (fun x15 => ?_)
      refine sim_iload_n dX5_trainsAt_29 rfl ?_
      refine sim_icmp_ne (tgt := 37) dX5_trainsAt_30 (by decide) ?_ ?_
      · refine sim_iconst (v := 1) dX5_trainsAt_33 (by decide) ?_
        refine sim_goto (tgt := 38) dX5_trainsAt_34 (by decide) ?_
        exact hJ14 1
      · refine sim_iconst (v := 0) dX5_trainsAt_37 (by decide) ?_
        exact hJ14 0
    · refine sim_iconst (v := 0) dX5_trainsAt_37 (by decide) ?_
      exact hJ14 0

def fM_place (x1 : Int32) (x2 : Int32) (m3 : Mem) : Option Int32 :=
  Option.bind (fM_isPlace x1 m3) (fun x4 => if x4 = 0 then (some (-1)) else (if x2 = 0 then (Option.bind (fM_ofPlace x1 0 m3) (fun x5 => some x5)) else (if x2 = 1 then (Option.bind (fM_trackOf x1 (x2 - 1) m3) (fun x7 => some x7)) else (if x2 = 2 then (Option.bind (fM_trackOf x1 (x2 - 1) m3) (fun x9 => some x9)) else (if x2 = 3 then (Option.bind (fM_trackOf x1 (x2 - 1) m3) (fun x11 => some x11)) else (if x2 = 4 then (Option.bind (fM_trainsAt x1 m3) (fun x13 => some x13)) else (if x2 = 5 then (gd (inb 0 238) (if x1 = ((m3 (5, 0, 1) (ix 0)) - 1) then (some (-4)) else (Option.bind (fM_ofPlace x1 4 m3) (fun x15 => some x15)))) else (some (-1)))))))))
abbrev rm_M_place : Room := { frames := 3, cells := 0, slots := 0, locals := 66 }
set_option maxRecDepth 4000 in
theorem sM_place (X : Sc) (x1 : Int32) (x2 : Int32) (m3 : Mem) : Sim X cX5_place 3 (some .int) RX5 rm_M_place (fun r : Int32 => r) (fun _ : Int32 => m3) 0 [(0, pR 5 0 0), (1, pI x1), (2, pI x2)] [] m3 (fM_place x1 x2 m3) := by
  unfold fM_place
  refine sim_aload_n dX5_place_0 rfl ?_
  refine sim_iload_n dX5_place_1 rfl ?_
  refine sim_callV (As := [pI x1]) (rest := []) (k0 := 0) dX5_place_2 ln_X5_222 me_X5_isPlace rfl (by decide) rfl (by decide) (Nat.le_of_ble_eq_true rfl) (Nat.le_of_ble_eq_true rfl) rfl (sM_isPlace X x1 m3) (fun x4 => ?_)
  refine sim_if_ne (tgt := 10) dX5_place_5 (by decide) ?_ ?_
  · refine sim_iconst (v := (-1)) dX5_place_8 (by decide) ?_
    exact sim_iret dX5_place_9 rfl rfl
  · refine sim_iload_n dX5_place_10 rfl ?_
    refine sim_case ?_ (fun hc6 => ?_)
    · refine sim_tab (off := 37) (tgt := 48) dX5_place_11 (by decide) (by decide) (by decide) (by decide) ?_
      refine sim_aload_n dX5_place_48 rfl ?_
      refine sim_iload_n dX5_place_49 rfl ?_
      refine sim_iconst (v := 0) dX5_place_50 (by decide) ?_
      refine sim_callV (As := [pI x1, pI 0]) (rest := []) (k0 := 0) dX5_place_51 ln_X5_158 me_X5_ofPlace rfl (by decide) rfl (by decide) (Nat.le_of_ble_eq_true rfl) (Nat.le_of_ble_eq_true rfl) rfl (sM_ofPlace X x1 0 m3) (fun x5 => ?_)
      exact sim_iret dX5_place_54 rfl rfl
    · refine sim_case ?_ (fun hc8 => ?_)
      · refine sim_tab (off := 44) (tgt := 55) dX5_place_11 (by decide) (by decide) (by decide) (by decide) ?_
        refine sim_aload_n dX5_place_55 rfl ?_
        refine sim_iload_n dX5_place_56 rfl ?_
        refine sim_iload_n dX5_place_57 rfl ?_
        refine sim_iconst (v := 1) dX5_place_58 (by decide) ?_
        refine sim_isub dX5_place_59 ?_
        refine sim_callV (As := [pI x1, pI (x2 - 1)]) (rest := []) (k0 := 0) dX5_place_60 ln_X5_225 me_X5_trackOf rfl (by decide) rfl (by decide) (Nat.le_of_ble_eq_true rfl) (Nat.le_of_ble_eq_true rfl) rfl (sM_trackOf X x1 (x2 - 1) m3) (fun x7 => ?_)
        exact sim_iret dX5_place_63 rfl rfl
      · refine sim_case ?_ (fun hc10 => ?_)
        · refine sim_tab (off := 44) (tgt := 55) dX5_place_11 (by decide) (by decide) (by decide) (by decide) ?_
          refine sim_aload_n dX5_place_55 rfl ?_
          refine sim_iload_n dX5_place_56 rfl ?_
          refine sim_iload_n dX5_place_57 rfl ?_
          refine sim_iconst (v := 1) dX5_place_58 (by decide) ?_
          refine sim_isub dX5_place_59 ?_
          refine sim_callV (As := [pI x1, pI (x2 - 1)]) (rest := []) (k0 := 0) dX5_place_60 ln_X5_225 me_X5_trackOf rfl (by decide) rfl (by decide) (Nat.le_of_ble_eq_true rfl) (Nat.le_of_ble_eq_true rfl) rfl (sM_trackOf X x1 (x2 - 1) m3) (fun x9 => ?_)
          exact sim_iret dX5_place_63 rfl rfl
        · refine sim_case ?_ (fun hc12 => ?_)
          · refine sim_tab (off := 44) (tgt := 55) dX5_place_11 (by decide) (by decide) (by decide) (by decide) ?_
            refine sim_aload_n dX5_place_55 rfl ?_
            refine sim_iload_n dX5_place_56 rfl ?_
            refine sim_iload_n dX5_place_57 rfl ?_
            refine sim_iconst (v := 1) dX5_place_58 (by decide) ?_
            refine sim_isub dX5_place_59 ?_
            refine sim_callV (As := [pI x1, pI (x2 - 1)]) (rest := []) (k0 := 0) dX5_place_60 ln_X5_225 me_X5_trackOf rfl (by decide) rfl (by decide) (Nat.le_of_ble_eq_true rfl) (Nat.le_of_ble_eq_true rfl) rfl (sM_trackOf X x1 (x2 - 1) m3) (fun x11 => ?_)
            exact sim_iret dX5_place_63 rfl rfl
          · refine sim_case ?_ (fun hc14 => ?_)
            · refine sim_tab (off := 53) (tgt := 64) dX5_place_11 (by decide) (by decide) (by decide) (by decide) ?_
              refine sim_aload_n dX5_place_64 rfl ?_
              refine sim_iload_n dX5_place_65 rfl ?_
              refine sim_callV (As := [pI x1]) (rest := []) (k0 := 0) dX5_place_66 ln_X5_228 me_X5_trainsAt rfl (by decide) rfl (by decide) (Nat.le_of_ble_eq_true rfl) (Nat.le_of_ble_eq_true rfl) rfl (sM_trainsAt X x1 m3) (fun x13 => ?_)
              exact sim_iret dX5_place_69 rfl rfl
            · refine sim_case ?_ (fun hc16 => ?_)
              · refine sim_tab (off := 59) (tgt := 70) dX5_place_11 (by decide) (by decide) (by decide) (by decide) ?_
                refine sim_iload_n dX5_place_70 rfl ?_
                refine sim_aload_n dX5_place_71 rfl ?_
                refine sim_get (v := pR 5 0 1) dX5_place_72 fl_X5_7 (by decide) rfl ?_
                refine sim_iconst (v := 0) dX5_place_75 (by decide) ?_
                refine sim_iald dX5_place_76 rfl (by decide) ?_
                refine sim_iconst (v := 1) dX5_place_77 (by decide) ?_
                refine sim_isub dX5_place_78 ?_
                refine sim_icmp_ne (tgt := 87) dX5_place_79 (by decide) ?_ ?_
                · refine sim_bipush (v := (-4)) dX5_place_82 (by decide) ?_
                  refine sim_goto (tgt := 93) dX5_place_84 (by decide) ?_
                  exact sim_iret dX5_place_93 rfl rfl
                · refine sim_aload_n dX5_place_87 rfl ?_
                  refine sim_iload_n dX5_place_88 rfl ?_
                  refine sim_iconst (v := 4) dX5_place_89 (by decide) ?_
                  refine sim_callV (As := [pI x1, pI 4]) (rest := []) (k0 := 0) dX5_place_90 ln_X5_158 me_X5_ofPlace rfl (by decide) rfl (by decide) (Nat.le_of_ble_eq_true rfl) (Nat.le_of_ble_eq_true rfl) rfl (sM_ofPlace X x1 4 m3) (fun x15 => ?_)
                  exact sim_iret dX5_place_93 rfl rfl
              · have e0_ := ne_lit hc6 (n := 0) (by decide)
                have e1_ := ne_lit hc8 (n := 1) (by decide)
                have e2_ := ne_lit hc10 (n := 2) (by decide)
                have e3_ := ne_lit hc12 (n := 3) (by decide)
                have e4_ := ne_lit hc14 (n := 4) (by decide)
                have e5_ := ne_lit hc16 (n := 5) (by decide)
                refine sim_tabd (tgt := 94) dX5_place_11 (by omega) (by decide) ?_
                refine sim_iconst (v := (-1)) dX5_place_94 (by decide) ?_
                exact sim_iret dX5_place_95 rfl rfl

def fM_train (x1 : Int32) (x2 : Int32) (m3 : Mem) : Option Int32 :=
  Option.bind (fM_isTrain x1 m3) (fun x4 => if x4 = 0 then (some (-1)) else (if x2 = 0 then (Option.bind (fM_ofTrain x1 x2 m3) (fun x5 => some x5)) else (if x2 = 1 then (Option.bind (fM_ofTrain x1 x2 m3) (fun x7 => some x7)) else (if x2 = 2 then (Option.bind (fM_ofTrain x1 x2 m3) (fun x9 => some x9)) else (if x2 = 3 then (Option.bind (fM_isDoneIn x1 m3) (fun x11 => if x11 = 0 then (Option.bind (fM_ofTrain x1 3 m3) (fun x12 => some x12)) else (some (-4)))) else (if x2 = 4 then (Option.bind (fM_ofTrain x1 x2 m3) (fun x14 => some x14)) else (if x2 = 5 then (Option.bind (fM_ofTrain x1 x2 m3) (fun x16 => some x16)) else (if x2 = 6 then (Option.bind (fM_minutesStill x1 m3) (fun x18 => some x18)) else (some (-1))))))))))
abbrev rm_M_train : Room := { frames := 3, cells := 0, slots := 0, locals := 69 }
set_option maxRecDepth 4000 in
theorem sM_train (X : Sc) (x1 : Int32) (x2 : Int32) (m3 : Mem) : Sim X cX5_train 3 (some .int) RX5 rm_M_train (fun r : Int32 => r) (fun _ : Int32 => m3) 0 [(0, pR 5 0 0), (1, pI x1), (2, pI x2)] [] m3 (fM_train x1 x2 m3) := by
  unfold fM_train
  refine sim_aload_n dX5_train_0 rfl ?_
  refine sim_iload_n dX5_train_1 rfl ?_
  refine sim_callV (As := [pI x1]) (rest := []) (k0 := 0) dX5_train_2 ln_X5_231 me_X5_isTrain rfl (by decide) rfl (by decide) (Nat.le_of_ble_eq_true rfl) (Nat.le_of_ble_eq_true rfl) rfl (sM_isTrain X x1 m3) (fun x4 => ?_)
  refine sim_if_ne (tgt := 10) dX5_train_5 (by decide) ?_ ?_
  · refine sim_iconst (v := (-1)) dX5_train_8 (by decide) ?_
    exact sim_iret dX5_train_9 rfl rfl
  · refine sim_iload_n dX5_train_10 rfl ?_
    refine sim_case ?_ (fun hc6 => ?_)
    · refine sim_tab (off := 41) (tgt := 52) dX5_train_11 (by decide) (by decide) (by decide) (by decide) ?_
      refine sim_aload_n dX5_train_52 rfl ?_
      refine sim_iload_n dX5_train_53 rfl ?_
      refine sim_iload_n dX5_train_54 rfl ?_
      refine sim_callV (As := [pI x1, pI x2]) (rest := []) (k0 := 0) dX5_train_55 ln_X5_122 me_X5_ofTrain rfl (by decide) rfl (by decide) (Nat.le_of_ble_eq_true rfl) (Nat.le_of_ble_eq_true rfl) rfl (sM_ofTrain X x1 x2 m3) (fun x5 => ?_)
      exact sim_iret dX5_train_58 rfl rfl
    · refine sim_case ?_ (fun hc8 => ?_)
      · refine sim_tab (off := 41) (tgt := 52) dX5_train_11 (by decide) (by decide) (by decide) (by decide) ?_
        refine sim_aload_n dX5_train_52 rfl ?_
        refine sim_iload_n dX5_train_53 rfl ?_
        refine sim_iload_n dX5_train_54 rfl ?_
        refine sim_callV (As := [pI x1, pI x2]) (rest := []) (k0 := 0) dX5_train_55 ln_X5_122 me_X5_ofTrain rfl (by decide) rfl (by decide) (Nat.le_of_ble_eq_true rfl) (Nat.le_of_ble_eq_true rfl) rfl (sM_ofTrain X x1 x2 m3) (fun x7 => ?_)
        exact sim_iret dX5_train_58 rfl rfl
      · refine sim_case ?_ (fun hc10 => ?_)
        · refine sim_tab (off := 41) (tgt := 52) dX5_train_11 (by decide) (by decide) (by decide) (by decide) ?_
          refine sim_aload_n dX5_train_52 rfl ?_
          refine sim_iload_n dX5_train_53 rfl ?_
          refine sim_iload_n dX5_train_54 rfl ?_
          refine sim_callV (As := [pI x1, pI x2]) (rest := []) (k0 := 0) dX5_train_55 ln_X5_122 me_X5_ofTrain rfl (by decide) rfl (by decide) (Nat.le_of_ble_eq_true rfl) (Nat.le_of_ble_eq_true rfl) rfl (sM_ofTrain X x1 x2 m3) (fun x9 => ?_)
          exact sim_iret dX5_train_58 rfl rfl
        · refine sim_case ?_ (fun hc13 => ?_)
          · refine sim_tab (off := 48) (tgt := 59) dX5_train_11 (by decide) (by decide) (by decide) (by decide) ?_
            refine sim_aload_n dX5_train_59 rfl ?_
            refine sim_iload_n dX5_train_60 rfl ?_
            refine sim_callV (As := [pI x1]) (rest := []) (k0 := 0) dX5_train_61 ln_X5_171 me_X5_isDoneIn rfl (by decide) rfl (by decide) (Nat.le_of_ble_eq_true rfl) (Nat.le_of_ble_eq_true rfl) rfl (sM_isDoneIn X x1 m3) (fun x11 => ?_)
            refine sim_if_eq (tgt := 72) dX5_train_64 (by decide) ?_ ?_
            · refine sim_aload_n dX5_train_72 rfl ?_
              refine sim_iload_n dX5_train_73 rfl ?_
              refine sim_iconst (v := 3) dX5_train_74 (by decide) ?_
              refine sim_callV (As := [pI x1, pI 3]) (rest := []) (k0 := 0) dX5_train_75 ln_X5_122 me_X5_ofTrain rfl (by decide) rfl (by decide) (Nat.le_of_ble_eq_true rfl) (Nat.le_of_ble_eq_true rfl) rfl (sM_ofTrain X x1 3 m3) (fun x12 => ?_)
              exact sim_iret dX5_train_78 rfl rfl
            · refine sim_bipush (v := (-4)) dX5_train_67 (by decide) ?_
              refine sim_goto (tgt := 78) dX5_train_69 (by decide) ?_
              exact sim_iret dX5_train_78 rfl rfl
          · refine sim_case ?_ (fun hc15 => ?_)
            · refine sim_tab (off := 41) (tgt := 52) dX5_train_11 (by decide) (by decide) (by decide) (by decide) ?_
              refine sim_aload_n dX5_train_52 rfl ?_
              refine sim_iload_n dX5_train_53 rfl ?_
              refine sim_iload_n dX5_train_54 rfl ?_
              refine sim_callV (As := [pI x1, pI x2]) (rest := []) (k0 := 0) dX5_train_55 ln_X5_122 me_X5_ofTrain rfl (by decide) rfl (by decide) (Nat.le_of_ble_eq_true rfl) (Nat.le_of_ble_eq_true rfl) rfl (sM_ofTrain X x1 x2 m3) (fun x14 => ?_)
              exact sim_iret dX5_train_58 rfl rfl
            · refine sim_case ?_ (fun hc17 => ?_)
              · refine sim_tab (off := 41) (tgt := 52) dX5_train_11 (by decide) (by decide) (by decide) (by decide) ?_
                refine sim_aload_n dX5_train_52 rfl ?_
                refine sim_iload_n dX5_train_53 rfl ?_
                refine sim_iload_n dX5_train_54 rfl ?_
                refine sim_callV (As := [pI x1, pI x2]) (rest := []) (k0 := 0) dX5_train_55 ln_X5_122 me_X5_ofTrain rfl (by decide) rfl (by decide) (Nat.le_of_ble_eq_true rfl) (Nat.le_of_ble_eq_true rfl) rfl (sM_ofTrain X x1 x2 m3) (fun x16 => ?_)
                exact sim_iret dX5_train_58 rfl rfl
              · refine sim_case ?_ (fun hc19 => ?_)
                · refine sim_tab (off := 68) (tgt := 79) dX5_train_11 (by decide) (by decide) (by decide) (by decide) ?_
                  refine sim_aload_n dX5_train_79 rfl ?_
                  refine sim_iload_n dX5_train_80 rfl ?_
                  refine sim_callV (As := [pI x1]) (rest := []) (k0 := 0) dX5_train_81 ln_X5_234 me_X5_minutesStill rfl (by decide) rfl (by decide) (Nat.le_of_ble_eq_true rfl) (Nat.le_of_ble_eq_true rfl) rfl (sM_minutesStill X x1 m3) (fun x18 => ?_)
                  exact sim_iret dX5_train_84 rfl rfl
                · have e0_ := ne_lit hc6 (n := 0) (by decide)
                  have e1_ := ne_lit hc8 (n := 1) (by decide)
                  have e2_ := ne_lit hc10 (n := 2) (by decide)
                  have e3_ := ne_lit hc13 (n := 3) (by decide)
                  have e4_ := ne_lit hc15 (n := 4) (by decide)
                  have e5_ := ne_lit hc17 (n := 5) (by decide)
                  have e6_ := ne_lit hc19 (n := 6) (by decide)
                  refine sim_tabd (tgt := 85) dX5_train_11 (by omega) (by decide) ?_
                  refine sim_iconst (v := (-1)) dX5_train_85 (by decide) ?_
                  exact sim_iret dX5_train_86 rfl rfl

def fM_why (x1 : Int32) (m2 : Mem) : Option (Int32 × Mem) :=
  Option.bind (fM_isTrain x1 m2) (fun x3 => if x3 = 0 then (some ((-1), m2)) else (Option.bind (fM_postureNow m2) (fun x4 => Option.bind (fM_explore x4 m2) (fun m5 => Option.bind (fM_against x1 m5) (fun q6 => some (q6.1, q6.2))))))
abbrev rm_M_why : Room := { frames := 5, cells := 0, slots := 0, locals := 119 }
set_option maxRecDepth 4000 in
theorem sM_why (X : Sc) (x1 : Int32) (m2 : Mem) : Sim X cX5_why 2 (some .int) RX5 rm_M_why (fun q : Int32 × Mem => q.1) (fun q : Int32 × Mem => q.2) 0 [(0, pR 5 0 0), (1, pI x1)] [] m2 (fM_why x1 m2) := by
  unfold fM_why
  refine sim_aload_n dX5_why_0 rfl ?_
  refine sim_iload_n dX5_why_1 rfl ?_
  refine sim_callV (As := [pI x1]) (rest := []) (k0 := 0) dX5_why_2 ln_X5_231 me_X5_isTrain rfl (by decide) rfl (by decide) (Nat.le_of_ble_eq_true rfl) (Nat.le_of_ble_eq_true rfl) rfl (sM_isTrain X x1 m2) (fun x3 => ?_)
  refine sim_if_ne (tgt := 10) dX5_why_5 (by decide) ?_ ?_
  · refine sim_iconst (v := (-1)) dX5_why_8 (by decide) ?_
    exact sim_iret dX5_why_9 rfl rfl
  · refine sim_aload_n dX5_why_10 rfl ?_
    refine sim_aload_n dX5_why_11 rfl ?_
    refine sim_callV (As := []) (rest := [pR 5 0 0]) (k0 := 0) dX5_why_12 ln_X5_126 me_X5_postureNow rfl (by decide) rfl (by decide) (Nat.le_of_ble_eq_true rfl) (Nat.le_of_ble_eq_true rfl) rfl (sM_postureNow X m2) (fun x4 => ?_)
    refine sim_callV (As := [pI x4]) (rest := []) (k0 := 0) dX5_why_15 ln_X5_136 me_X5_explore rfl (by decide) rfl (by decide) (Nat.le_of_ble_eq_true rfl) (Nat.le_of_ble_eq_true rfl) rfl (sM_explore X x4 m2) (fun m5 => ?_)
    refine sim_aload_n dX5_why_18 rfl ?_
    refine sim_iload_n dX5_why_19 rfl ?_
    refine sim_callV (As := [pI x1]) (rest := []) (k0 := 0) dX5_why_20 ln_X5_207 me_X5_against rfl (by decide) rfl (by decide) (Nat.le_of_ble_eq_true rfl) (Nat.le_of_ble_eq_true rfl) rfl (sM_against X x1 m5) (fun q6 => ?_)
    exact sim_iret dX5_why_23 rfl rfl

def bM_firstAt_10 (x1 : Int32) (m4 : Mem) (s7 : Int32 → Option (Int32 × Mem)) (x6 : Int32) : Option (Int32 × Mem) :=
  gd (inb 1 238) (if (m4 (5, 0, 1) (ix 1)) ≤ x6 then (some ((-4), m4)) else (gd (inb x6 4) (if (m4 (5, 0, 14) (ix x6)) = (x1 + 1) then (some (x6, m4)) else (lt (x6 + 1) (fun (x9 : Int32) => s7 x9)))))
def fM_firstAt (x1 : Int32) (m2 : Mem) : Option (Int32 × Mem) :=
  Option.bind (fM_postureNow m2) (fun x3 => Option.bind (fM_decode x3 m2) (fun m4 => lt 0 (fun (x5 : Int32) => lz10 (bM_firstAt_10 x1 m4) FU x5)))
abbrev rm_M_firstAt : Room := { frames := 3, cells := 0, slots := 0, locals := 65 }
set_option maxRecDepth 4000 in
theorem sM_firstAt (X : Sc) (x1 : Int32) (m2 : Mem) : Sim X cX5_firstAt 3 (some .int) RX5 rm_M_firstAt (fun q : Int32 × Mem => q.1) (fun q : Int32 × Mem => q.2) 0 [(0, pR 5 0 0), (1, pI x1)] [] m2 (fM_firstAt x1 m2) := by
  unfold fM_firstAt
  refine sim_aload_n dX5_firstAt_0 rfl ?_
  refine sim_aload_n dX5_firstAt_1 rfl ?_
  refine sim_callV (As := []) (rest := [pR 5 0 0]) (k0 := 0) dX5_firstAt_2 ln_X5_126 me_X5_postureNow rfl (by decide) rfl (by decide) (Nat.le_of_ble_eq_true rfl) (Nat.le_of_ble_eq_true rfl) rfl (sM_postureNow X m2) (fun x3 => ?_)
  refine sim_callV (As := [pI x3]) (rest := []) (k0 := 0) dX5_firstAt_5 ln_X5_129 me_X5_decode rfl (by decide) rfl (by decide) (Nat.le_of_ble_eq_true rfl) (Nat.le_of_ble_eq_true rfl) rfl (sM_decode X x3 m2) (fun m4 => ?_)
  refine sim_iconst (v := 0) dX5_firstAt_8 (by decide) ?_
  refine sim_istore_n (fun z => [(0, pR 5 0 0), (1, pI x1), (2, pI z)]) [1, 2, 0] dX5_firstAt_9 (by decide) (fun _ => rfl) (fun x5 => ?_)
  refine sim_lz10 (fun z0 => [(0, pR 5 0 0), (1, pI x1), (2, pI z0)]) (fun s7 hs8 x6 => ?_) FU x5
  unfold bM_firstAt_10
  refine sim_iload_n dX5_firstAt_10 rfl ?_
  refine sim_aload_n dX5_firstAt_11 rfl ?_
  refine sim_get (v := pR 5 0 1) dX5_firstAt_12 fl_X5_7 (by decide) rfl ?_
  refine sim_iconst (v := 1) dX5_firstAt_15 (by decide) ?_
  refine sim_iald dX5_firstAt_16 rfl (by decide) ?_
  refine sim_icmp_ge (tgt := 40) dX5_firstAt_17 (by decide) ?_ ?_
  · refine sim_bipush (v := (-4)) dX5_firstAt_40 (by decide) ?_
    exact sim_iret dX5_firstAt_42 rfl rfl
  · refine sim_aload_n dX5_firstAt_20 rfl ?_
    refine sim_get (v := pR 5 0 14) dX5_firstAt_21 fl_X5_29 (by decide) rfl ?_
    refine sim_iload_n dX5_firstAt_24 rfl ?_
    refine sim_iald dX5_firstAt_25 rfl (by decide) ?_
    refine sim_iload_n dX5_firstAt_26 rfl ?_
    refine sim_iconst (v := 1) dX5_firstAt_27 (by decide) ?_
    refine sim_iadd dX5_firstAt_28 ?_
    refine sim_icmp_ne (tgt := 34) dX5_firstAt_29 (by decide) ?_ ?_
    · refine sim_iload_n dX5_firstAt_32 rfl ?_
      exact sim_iret dX5_firstAt_33 rfl rfl
    · refine sim_iinc (y := 1) (fun z => [(0, pR 5 0 0), (1, pI x1), (2, pI z)]) [1, 2, 0] dX5_firstAt_34 rfl (by decide) (by decide) (fun _ => rfl) (fun x9 => ?_)
      refine sim_goto (tgt := 10) dX5_firstAt_37 (by decide) ?_
      exact hs8 x9

def bM_isEverDone_4 (x1 : Int32) (m2 : Mem) (s7 : Int32 → Int32 → Option Int32) (x5 : Int32) (x6 : Int32) : Option Int32 :=
  if (m2 (5, 0, 0) 17) ≤ x6 then (gd (isb x5) (some x5)) else (if x5 = 0 then (gd (inb x6 2401) (Option.bind (fM_weightOf x1 m2) (fun x11 => gd (!(x11 == 0)) (gd (!(7 == 0)) (if (((m2 (5, 0, 15) (ix x6)) / x11) - ((m2 (5, 0, 15) (ix x6)) / x11) / 7 * 7) = 0 then (lt 1 (fun (x14 : Int32) => lt (x6 + 1) (fun (x15 : Int32) => s7 x14 x15))) else (lt 0 (fun (x12 : Int32) => lt (x6 + 1) (fun (x13 : Int32) => s7 x12 x13)))))))) else (lt 1 (fun (x9 : Int32) => lt (x6 + 1) (fun (x10 : Int32) => s7 x9 x10))))
def fM_isEverDone (x1 : Int32) (m2 : Mem) : Option Int32 :=
  lt 0 (fun (x3 : Int32) => lt 0 (fun (x4 : Int32) => lz20 (bM_isEverDone_4 x1 m2) FU x3 x4))
abbrev rm_M_isEverDone : Room := { frames := 1, cells := 0, slots := 0, locals := 20 }
set_option maxRecDepth 4000 in
theorem sM_isEverDone (X : Sc) (x1 : Int32) (m2 : Mem) : Sim X cX5_isEverDone 4 (some .boolean) RX5 rm_M_isEverDone (fun r : Int32 => r) (fun _ : Int32 => m2) 0 [(0, pR 5 0 0), (1, pI x1)] [] m2 (fM_isEverDone x1 m2) := by
  unfold fM_isEverDone
  refine sim_iconst (v := 0) dX5_isEverDone_0 (by decide) ?_
  refine sim_istore_n (fun z => [(0, pR 5 0 0), (1, pI x1), (2, pI z)]) [1, 2, 0] dX5_isEverDone_1 (by decide) (fun _ => rfl) (fun x3 => ?_)
  refine sim_iconst (v := 0) dX5_isEverDone_2 (by decide) ?_
  refine sim_istore_n (fun z => [(0, pR 5 0 0), (1, pI x1), (2, pI x3), (3, pI z)]) [1, 2, 3, 0] dX5_isEverDone_3 (by decide) (fun _ => rfl) (fun x4 => ?_)
  refine sim_lz20 (fun z0 z1 => [(0, pR 5 0 0), (1, pI x1), (2, pI z0), (3, pI z1)]) (fun s7 hs8 x5 x6 => ?_) FU x3 x4
  unfold bM_isEverDone_4
  refine sim_iload_n dX5_isEverDone_4 rfl ?_
  refine sim_aload_n dX5_isEverDone_5 rfl ?_
  refine sim_get (v := pI (m2 (5, 0, 0) 17)) dX5_isEverDone_6 fl_X5_186 (by decide) rfl ?_
  refine sim_icmp_ge (tgt := 45) dX5_isEverDone_9 (by decide) ?_ ?_
  · refine sim_iload_n dX5_isEverDone_45 rfl ?_
    exact sim_zretg dX5_isEverDone_46 rfl rfl
  · refine sim_iload_n dX5_isEverDone_12 rfl ?_
    refine sim_if_ne (tgt := 33) dX5_isEverDone_13 (by decide) ?_ ?_
    · refine sim_aload_n dX5_isEverDone_16 rfl ?_
      refine sim_get (v := pR 5 0 15) dX5_isEverDone_17 fl_X5_32 (by decide) rfl ?_
      refine sim_iload_n dX5_isEverDone_20 rfl ?_
      refine sim_iald dX5_isEverDone_21 rfl (by decide) ?_
      refine sim_iload_n dX5_isEverDone_22 rfl ?_
      refine sim_callS (As := [pI x1]) (rest := [pI (m2 (5, 0, 15) (ix x6))]) dX5_isEverDone_23 ln_X5_174 me_X5_weightOf rfl (by decide) (Nat.le_of_ble_eq_true rfl) (Nat.le_of_ble_eq_true rfl) rfl (sM_weightOf X x1 m2) (fun x11 => ?_)
      refine sim_idiv dX5_isEverDone_26 ?_
      refine sim_bipush (v := 7) dX5_isEverDone_27 (by decide) ?_
      refine sim_irem dX5_isEverDone_29 ?_
      refine sim_if_ne (tgt := 37) dX5_isEverDone_30 (by decide) ?_ ?_
      · refine sim_iconst (v := 1) dX5_isEverDone_33 (by decide) ?_
        refine sim_goto (tgt := 38) dX5_isEverDone_34 (by decide) ?_
        refine sim_istore_n (fun z => [(0, pR 5 0 0), (1, pI x1), (2, pI z), (3, pI x6)]) [1, 2, 0, 3] dX5_isEverDone_38 (by decide) (fun _ => rfl) (fun x14 => ?_)
        refine sim_iinc (y := 1) (fun z => [(0, pR 5 0 0), (1, pI x1), (2, pI x14), (3, pI z)]) [1, 2, 3, 0] dX5_isEverDone_39 rfl (by decide) (by decide) (fun _ => rfl) (fun x15 => ?_)
        refine sim_goto (tgt := 4) dX5_isEverDone_42 (by decide) ?_
        exact hs8 x14 x15
      · refine sim_iconst (v := 0) dX5_isEverDone_37 (by decide) ?_
        refine sim_istore_n (fun z => [(0, pR 5 0 0), (1, pI x1), (2, pI z), (3, pI x6)]) [1, 2, 0, 3] dX5_isEverDone_38 (by decide) (fun _ => rfl) (fun x12 => ?_)
        refine sim_iinc (y := 1) (fun z => [(0, pR 5 0 0), (1, pI x1), (2, pI x12), (3, pI z)]) [1, 2, 3, 0] dX5_isEverDone_39 rfl (by decide) (by decide) (fun _ => rfl) (fun x13 => ?_)
        refine sim_goto (tgt := 4) dX5_isEverDone_42 (by decide) ?_
        exact hs8 x12 x13
    · refine sim_iconst (v := 1) dX5_isEverDone_33 (by decide) ?_
      refine sim_goto (tgt := 38) dX5_isEverDone_34 (by decide) ?_
      refine sim_istore_n (fun z => [(0, pR 5 0 0), (1, pI x1), (2, pI z), (3, pI x6)]) [1, 2, 0, 3] dX5_isEverDone_38 (by decide) (fun _ => rfl) (fun x9 => ?_)
      refine sim_iinc (y := 1) (fun z => [(0, pR 5 0 0), (1, pI x1), (2, pI x9), (3, pI z)]) [1, 2, 3, 0] dX5_isEverDone_39 rfl (by decide) (by decide) (fun _ => rfl) (fun x10 => ?_)
      refine sim_goto (tgt := 4) dX5_isEverDone_42 (by decide) ?_
      exact hs8 x9 x10

def bM_firstStuck_19 (m6 : Mem) (s9 : Int32 → Option (Int32 × Mem)) (x8 : Int32) : Option (Int32 × Mem) :=
  gd (inb 1 238) (if (m6 (5, 0, 1) (ix 1)) ≤ x8 then (some ((-4), m6)) else (Option.bind (fM_isEverDone x8 m6) (fun x11 => if x11 = 0 then (some (x8, m6)) else (lt (x8 + 1) (fun (x12 : Int32) => s9 x12)))))
def fM_firstStuck (x1 : Int32) (m2 : Mem) : Option (Int32 × Mem) :=
  Option.bind (fM_postureNow m2) (fun x3 => Option.bind (fM_decode x3 m2) (fun m4 => Option.bind (fM_movedBy x1 m4) (fun q5 => Option.bind (fM_explore q5.1 q5.2) (fun m6 => lt 0 (fun (x7 : Int32) => lz10 (bM_firstStuck_19 m6) FU x7)))))
abbrev rm_M_firstStuck : Room := { frames := 5, cells := 0, slots := 0, locals := 119 }
set_option maxRecDepth 4000 in
theorem sM_firstStuck (X : Sc) (x1 : Int32) (m2 : Mem) : Sim X cX5_firstStuck 3 (some .int) RX5 rm_M_firstStuck (fun q : Int32 × Mem => q.1) (fun q : Int32 × Mem => q.2) 0 [(0, pR 5 0 0), (1, pI x1)] [] m2 (fM_firstStuck x1 m2) := by
  unfold fM_firstStuck
  refine sim_aload_n dX5_firstStuck_0 rfl ?_
  refine sim_aload_n dX5_firstStuck_1 rfl ?_
  refine sim_callV (As := []) (rest := [pR 5 0 0]) (k0 := 0) dX5_firstStuck_2 ln_X5_126 me_X5_postureNow rfl (by decide) rfl (by decide) (Nat.le_of_ble_eq_true rfl) (Nat.le_of_ble_eq_true rfl) rfl (sM_postureNow X m2) (fun x3 => ?_)
  refine sim_callV (As := [pI x3]) (rest := []) (k0 := 0) dX5_firstStuck_5 ln_X5_129 me_X5_decode rfl (by decide) rfl (by decide) (Nat.le_of_ble_eq_true rfl) (Nat.le_of_ble_eq_true rfl) rfl (sM_decode X x3 m2) (fun m4 => ?_)
  refine sim_aload_n dX5_firstStuck_8 rfl ?_
  refine sim_aload_n dX5_firstStuck_9 rfl ?_
  refine sim_iload_n dX5_firstStuck_10 rfl ?_
  refine sim_callV (As := [pI x1]) (rest := [pR 5 0 0]) (k0 := 0) dX5_firstStuck_11 ln_X5_189 me_X5_movedBy rfl (by decide) rfl (by decide) (Nat.le_of_ble_eq_true rfl) (Nat.le_of_ble_eq_true rfl) rfl (sM_movedBy X x1 m4) (fun q5 => ?_)
  refine sim_callV (As := [pI q5.1]) (rest := []) (k0 := 0) dX5_firstStuck_14 ln_X5_136 me_X5_explore rfl (by decide) rfl (by decide) (Nat.le_of_ble_eq_true rfl) (Nat.le_of_ble_eq_true rfl) rfl (sM_explore X q5.1 q5.2) (fun m6 => ?_)
  refine sim_iconst (v := 0) dX5_firstStuck_17 (by decide) ?_
  refine sim_istore_n (fun z => [(0, pR 5 0 0), (1, pI x1), (2, pI z)]) [1, 2, 0] dX5_firstStuck_18 (by decide) (fun _ => rfl) (fun x7 => ?_)
  refine sim_lz10 (fun z0 => [(0, pR 5 0 0), (1, pI x1), (2, pI z0)]) (fun s9 hs10 x8 => ?_) FU x7
  unfold bM_firstStuck_19
  refine sim_iload_n dX5_firstStuck_19 rfl ?_
  refine sim_aload_n dX5_firstStuck_20 rfl ?_
  refine sim_get (v := pR 5 0 1) dX5_firstStuck_21 fl_X5_7 (by decide) rfl ?_
  refine sim_iconst (v := 1) dX5_firstStuck_24 (by decide) ?_
  refine sim_iald dX5_firstStuck_25 rfl (by decide) ?_
  refine sim_icmp_ge (tgt := 45) dX5_firstStuck_26 (by decide) ?_ ?_
  · refine sim_bipush (v := (-4)) dX5_firstStuck_45 (by decide) ?_
    exact sim_iret dX5_firstStuck_47 rfl rfl
  · refine sim_aload_n dX5_firstStuck_29 rfl ?_
    refine sim_iload_n dX5_firstStuck_30 rfl ?_
    refine sim_callV (As := [pI x8]) (rest := []) (k0 := 0) dX5_firstStuck_31 ln_X5_237 me_X5_isEverDone rfl (by decide) rfl (by decide) (Nat.le_of_ble_eq_true rfl) (Nat.le_of_ble_eq_true rfl) rfl (sM_isEverDone X x8 m6) (fun x11 => ?_)
    refine sim_if_ne (tgt := 39) dX5_firstStuck_34 (by decide) ?_ ?_
    · refine sim_iload_n dX5_firstStuck_37 rfl ?_
      exact sim_iret dX5_firstStuck_38 rfl rfl
    · refine sim_iinc (y := 1) (fun z => [(0, pR 5 0 0), (1, pI x1), (2, pI z)]) [1, 2, 0] dX5_firstStuck_39 rfl (by decide) (by decide) (fun _ => rfl) (fun x12 => ?_)
      refine sim_goto (tgt := 19) dX5_firstStuck_42 (by decide) ?_
      exact hs10 x12

def fM_who (x1 : Int32) (m2 : Mem) : Option (Int32 × Mem) :=
  Option.bind (fM_isTrain x1 m2) (fun x3 => if x3 = 0 then (some ((-1), m2)) else (Option.bind (fM_postureNow m2) (fun x4 => Option.bind (fM_explore x4 m2) (fun m5 => Option.bind (fM_ofTrain x1 3 m5) (fun x6 => lt x6 (fun (x7 : Int32) => Option.bind (fM_against x1 m5) (fun q8 => if q8.1 = 3 then (Option.bind (fM_nextFrom x1 x7 q8.2) (fun x9 => Option.bind (fM_runsBetween x7 x9 q8.2) (fun x10 => some (x10, q8.2)))) else (if q8.1 = 4 then (Option.bind (fM_nextFrom x1 x7 q8.2) (fun x12 => Option.bind (fM_firstAt x12 q8.2) (fun q13 => some (q13.1, q13.2)))) else (if q8.1 = 5 then (Option.bind (fM_firstStuck x1 q8.2) (fun q15 => some (q15.1, q15.2))) else (some ((-4), q8.2)))))))))))
abbrev rm_M_who : Room := { frames := 6, cells := 0, slots := 0, locals := 141 }
set_option maxRecDepth 4000 in
theorem sM_who (X : Sc) (x1 : Int32) (m2 : Mem) : Sim X cX5_who 3 (some .int) RX5 rm_M_who (fun q : Int32 × Mem => q.1) (fun q : Int32 × Mem => q.2) 0 [(0, pR 5 0 0), (1, pI x1)] [] m2 (fM_who x1 m2) := by
  unfold fM_who
  refine sim_aload_n dX5_who_0 rfl ?_
  refine sim_iload_n dX5_who_1 rfl ?_
  refine sim_callV (As := [pI x1]) (rest := []) (k0 := 0) dX5_who_2 ln_X5_231 me_X5_isTrain rfl (by decide) rfl (by decide) (Nat.le_of_ble_eq_true rfl) (Nat.le_of_ble_eq_true rfl) rfl (sM_isTrain X x1 m2) (fun x3 => ?_)
  refine sim_if_ne (tgt := 10) dX5_who_5 (by decide) ?_ ?_
  · refine sim_iconst (v := (-1)) dX5_who_8 (by decide) ?_
    exact sim_iret dX5_who_9 rfl rfl
  · refine sim_aload_n dX5_who_10 rfl ?_
    refine sim_aload_n dX5_who_11 rfl ?_
    refine sim_callV (As := []) (rest := [pR 5 0 0]) (k0 := 0) dX5_who_12 ln_X5_126 me_X5_postureNow rfl (by decide) rfl (by decide) (Nat.le_of_ble_eq_true rfl) (Nat.le_of_ble_eq_true rfl) rfl (sM_postureNow X m2) (fun x4 => ?_)
    refine sim_callV (As := [pI x4]) (rest := []) (k0 := 0) dX5_who_15 ln_X5_136 me_X5_explore rfl (by decide) rfl (by decide) (Nat.le_of_ble_eq_true rfl) (Nat.le_of_ble_eq_true rfl) rfl (sM_explore X x4 m2) (fun m5 => ?_)
    refine sim_aload_n dX5_who_18 rfl ?_
    refine sim_iload_n dX5_who_19 rfl ?_
    refine sim_iconst (v := 3) dX5_who_20 (by decide) ?_
    refine sim_callV (As := [pI x1, pI 3]) (rest := []) (k0 := 0) dX5_who_21 ln_X5_122 me_X5_ofTrain rfl (by decide) rfl (by decide) (Nat.le_of_ble_eq_true rfl) (Nat.le_of_ble_eq_true rfl) rfl (sM_ofTrain X x1 3 m5) (fun x6 => ?_)
    refine sim_istore_n (fun z => [(0, pR 5 0 0), (1, pI x1), (2, pI z)]) [1, 2, 0] dX5_who_24 (by decide) (fun _ => rfl) (fun x7 => ?_)
    refine sim_aload_n dX5_who_25 rfl ?_
    refine sim_iload_n dX5_who_26 rfl ?_
    refine sim_callV (As := [pI x1]) (rest := []) (k0 := 0) dX5_who_27 ln_X5_207 me_X5_against rfl (by decide) rfl (by decide) (Nat.le_of_ble_eq_true rfl) (Nat.le_of_ble_eq_true rfl) rfl (sM_against X x1 m5) (fun q8 => ?_)
    refine sim_case ?_ (fun hc11 => ?_)
    · refine sim_tab (off := 26) (tgt := 56) dX5_who_30 (by decide) (by decide) (by decide) (by decide) ?_
      refine sim_aload_n dX5_who_56 rfl ?_
      refine sim_iload_n dX5_who_57 rfl ?_
      refine sim_aload_n dX5_who_58 rfl ?_
      refine sim_iload_n dX5_who_59 rfl ?_
      refine sim_iload_n dX5_who_60 rfl ?_
      refine sim_callV (As := [pI x1, pI x7]) (rest := [pI x7, pR 5 0 0]) (k0 := 0) dX5_who_61 ln_X5_161 me_X5_nextFrom rfl (by decide) rfl (by decide) (Nat.le_of_ble_eq_true rfl) (Nat.le_of_ble_eq_true rfl) rfl (sM_nextFrom X x1 x7 q8.2) (fun x9 => ?_)
      refine sim_callV (As := [pI x7, pI x9]) (rest := []) (k0 := 0) dX5_who_64 ln_X5_204 me_X5_runsBetween rfl (by decide) rfl (by decide) (Nat.le_of_ble_eq_true rfl) (Nat.le_of_ble_eq_true rfl) rfl (sM_runsBetween X x7 x9 q8.2) (fun x10 => ?_)
      exact sim_iret dX5_who_67 rfl rfl
    · refine sim_case ?_ (fun hc14 => ?_)
      · refine sim_tab (off := 38) (tgt := 68) dX5_who_30 (by decide) (by decide) (by decide) (by decide) ?_
        refine sim_aload_n dX5_who_68 rfl ?_
        refine sim_aload_n dX5_who_69 rfl ?_
        refine sim_iload_n dX5_who_70 rfl ?_
        refine sim_iload_n dX5_who_71 rfl ?_
        refine sim_callV (As := [pI x1, pI x7]) (rest := [pR 5 0 0]) (k0 := 0) dX5_who_72 ln_X5_161 me_X5_nextFrom rfl (by decide) rfl (by decide) (Nat.le_of_ble_eq_true rfl) (Nat.le_of_ble_eq_true rfl) rfl (sM_nextFrom X x1 x7 q8.2) (fun x12 => ?_)
        refine sim_callV (As := [pI x12]) (rest := []) (k0 := 0) dX5_who_75 ln_X5_240 me_X5_firstAt rfl (by decide) rfl (by decide) (Nat.le_of_ble_eq_true rfl) (Nat.le_of_ble_eq_true rfl) rfl (sM_firstAt X x12 q8.2) (fun q13 => ?_)
        exact sim_iret dX5_who_78 rfl rfl
      · refine sim_case ?_ (fun hc16 => ?_)
        · refine sim_tab (off := 49) (tgt := 79) dX5_who_30 (by decide) (by decide) (by decide) (by decide) ?_
          refine sim_aload_n dX5_who_79 rfl ?_
          refine sim_iload_n dX5_who_80 rfl ?_
          refine sim_callV (As := [pI x1]) (rest := []) (k0 := 0) dX5_who_81 ln_X5_243 me_X5_firstStuck rfl (by decide) rfl (by decide) (Nat.le_of_ble_eq_true rfl) (Nat.le_of_ble_eq_true rfl) rfl (sM_firstStuck X x1 q8.2) (fun q15 => ?_)
          exact sim_iret dX5_who_84 rfl rfl
        · have e0_ := ne_lit hc11 (n := 3) (by decide)
          have e1_ := ne_lit hc14 (n := 4) (by decide)
          have e2_ := ne_lit hc16 (n := 5) (by decide)
          refine sim_tabd (tgt := 85) dX5_who_30 (by omega) (by decide) ?_
          refine sim_bipush (v := (-4)) dX5_who_85 (by decide) ?_
          exact sim_iret dX5_who_87 rfl rfl

def fM_order (x1 : Int32) (m2 : Mem) : Option (Int32 × Mem) :=
  if 0 ≤ x1 then (Option.bind (fM_findSequence m2) (fun m3 => if (m3 (5, 0, 0) 19) ≤ x1 then (some ((-4), m3)) else (gd (inb x1 4) (some (m3 (5, 0, 19) (ix x1), m3))))) else (some ((-1), m2))
abbrev rm_M_order : Room := { frames := 6, cells := 0, slots := 0, locals := 140 }
set_option maxRecDepth 4000 in
theorem sM_order (X : Sc) (x1 : Int32) (m2 : Mem) : Sim X cX5_order 2 (some .int) RX5 rm_M_order (fun q : Int32 × Mem => q.1) (fun q : Int32 × Mem => q.2) 0 [(0, pR 5 0 0), (1, pI x1)] [] m2 (fM_order x1 m2) := by
  unfold fM_order
  refine sim_iload_n dX5_order_0 rfl ?_
  refine sim_if_ge (tgt := 6) dX5_order_1 (by decide) ?_ ?_
  · refine sim_aload_n dX5_order_6 rfl ?_
    refine sim_callV (As := []) (rest := []) (k0 := 0) dX5_order_7 ln_X5_198 me_X5_findSequence rfl (by decide) rfl (by decide) (Nat.le_of_ble_eq_true rfl) (Nat.le_of_ble_eq_true rfl) rfl (sM_findSequence X m2) (fun m3 => ?_)
    refine sim_iload_n dX5_order_10 rfl ?_
    refine sim_aload_n dX5_order_11 rfl ?_
    refine sim_get (v := pI (m3 (5, 0, 0) 19)) dX5_order_12 fl_X5_192 (by decide) rfl ?_
    refine sim_icmp_ge (tgt := 27) dX5_order_15 (by decide) ?_ ?_
    · refine sim_bipush (v := (-4)) dX5_order_27 (by decide) ?_
      exact sim_iret dX5_order_29 rfl rfl
    · refine sim_aload_n dX5_order_18 rfl ?_
      refine sim_get (v := pR 5 0 19) dX5_order_19 fl_X5_41 (by decide) rfl ?_
      refine sim_iload_n dX5_order_22 rfl ?_
      refine sim_iald dX5_order_23 rfl (by decide) ?_
      refine sim_goto (tgt := 29) dX5_order_24 (by decide) ?_
      exact sim_iret dX5_order_29 rfl rfl
  · refine sim_iconst (v := (-1)) dX5_order_4 (by decide) ?_
    exact sim_iret dX5_order_5 rfl rfl

def jM_reach_56 (m5 : Mem) (s10 : Int32 → Int32 → Option (Int32 × Mem)) (x8 : Int32) (x9 : Int32) (x12 : Int32) : Option (Int32 × Mem) :=
  Option.bind (fM_flag x12 m5) (fun x13 => lt (x8 + x13) (fun (x14 : Int32) => lt (x9 + 1) (fun (x15 : Int32) => s10 x14 x15)))
def bM_reach_24 (x1 : Int32) (m5 : Mem) (s10 : Int32 → Int32 → Option (Int32 × Mem)) (x8 : Int32) (x9 : Int32) : Option (Int32 × Mem) :=
  if (m5 (5, 0, 0) 17) ≤ x9 then (some (x8, m5)) else (if x1 = 0 then (jM_reach_56 m5 s10 x8 x9 1) else (gd (inb x9 2401) (gd (inb (m5 (5, 0, 15) (ix x9)) 2401) (if (m5 (5, 0, 17) (ix (m5 (5, 0, 15) (ix x9)))) = 0 then (jM_reach_56 m5 s10 x8 x9 0) else (jM_reach_56 m5 s10 x8 x9 1)))))
def fM_reach (x1 : Int32) (m2 : Mem) : Option (Int32 × Mem) :=
  Option.bind (fM_in x1.toInt64 (0 : Int64) (1 : Int64) m2) (fun x3 => if x3 = 0 then (some ((-1), m2)) else (Option.bind (fM_postureNow m2) (fun x4 => Option.bind (fM_explore x4 m2) (fun m5 => lt 0 (fun (x6 : Int32) => lt 0 (fun (x7 : Int32) => lz20 (bM_reach_24 x1 m5) FU x6 x7))))))
abbrev rm_M_reach : Room := { frames := 5, cells := 0, slots := 0, locals := 119 }
set_option maxRecDepth 4000 in
theorem sM_reach (X : Sc) (x1 : Int32) (m2 : Mem) : Sim X cX5_reach 4 (some .int) RX5 rm_M_reach (fun q : Int32 × Mem => q.1) (fun q : Int32 × Mem => q.2) 0 [(0, pR 5 0 0), (1, pI x1)] [] m2 (fM_reach x1 m2) := by
  unfold fM_reach
  refine sim_iload_n dX5_reach_0 rfl ?_
  refine sim_i2l dX5_reach_1 ?_
  refine sim_lconst (v := 0) dX5_reach_2 (by decide) ?_
  refine sim_lconst (v := 1) dX5_reach_3 (by decide) ?_
  refine sim_callS (As := [pL x1.toInt64, pL (0 : Int64), pL (1 : Int64)]) (rest := []) dX5_reach_4 ln_X5_55 me_X5_in rfl (by decide) (Nat.le_of_ble_eq_true rfl) (Nat.le_of_ble_eq_true rfl) rfl (sM_in X x1.toInt64 (0 : Int64) (1 : Int64) m2) (fun x3 => ?_)
  refine sim_if_ne (tgt := 12) dX5_reach_7 (by decide) ?_ ?_
  · refine sim_iconst (v := (-1)) dX5_reach_10 (by decide) ?_
    exact sim_iret dX5_reach_11 rfl rfl
  · refine sim_aload_n dX5_reach_12 rfl ?_
    refine sim_aload_n dX5_reach_13 rfl ?_
    refine sim_callV (As := []) (rest := [pR 5 0 0]) (k0 := 0) dX5_reach_14 ln_X5_126 me_X5_postureNow rfl (by decide) rfl (by decide) (Nat.le_of_ble_eq_true rfl) (Nat.le_of_ble_eq_true rfl) rfl (sM_postureNow X m2) (fun x4 => ?_)
    refine sim_callV (As := [pI x4]) (rest := []) (k0 := 0) dX5_reach_17 ln_X5_136 me_X5_explore rfl (by decide) rfl (by decide) (Nat.le_of_ble_eq_true rfl) (Nat.le_of_ble_eq_true rfl) rfl (sM_explore X x4 m2) (fun m5 => ?_)
    refine sim_iconst (v := 0) dX5_reach_20 (by decide) ?_
    refine sim_istore_n (fun z => [(0, pR 5 0 0), (1, pI x1), (2, pI z)]) [1, 2, 0] dX5_reach_21 (by decide) (fun _ => rfl) (fun x6 => ?_)
    refine sim_iconst (v := 0) dX5_reach_22 (by decide) ?_
    refine sim_istore_n (fun z => [(0, pR 5 0 0), (1, pI x1), (2, pI x6), (3, pI z)]) [1, 2, 3, 0] dX5_reach_23 (by decide) (fun _ => rfl) (fun x7 => ?_)
    refine sim_lz20 (fun z0 z1 => [(0, pR 5 0 0), (1, pI x1), (2, pI z0), (3, pI z1)]) (fun s10 hs11 x8 x9 => ?_) FU x6 x7
    unfold bM_reach_24
    refine sim_iload_n dX5_reach_24 rfl ?_
    refine sim_aload_n dX5_reach_25 rfl ?_
    refine sim_get (v := pI (m5 (5, 0, 0) 17)) dX5_reach_26 fl_X5_186 (by decide) rfl ?_
    refine sim_icmp_ge (tgt := 67) dX5_reach_29 (by decide) ?_ ?_
    · refine sim_iload_n dX5_reach_67 rfl ?_
      exact sim_iret dX5_reach_68 rfl rfl
    · refine sim_iload_n dX5_reach_32 rfl ?_
      refine sim_iload_n dX5_reach_33 rfl ?_
      have hJ16 : ∀ (x12 : Int32), Sim X cX5_reach 4 (some .int) RX5 rm_M_reach (fun q : Int32 × Mem => q.1) (fun q : Int32 × Mem => q.2) 56 [(0, pR 5 0 0), (1, pI x1), (2, pI x8), (3, pI x9)] [pI x12, pI x8] m5 (jM_reach_56 m5 s10 x8 x9 x12) := by
        intro x12
        unfold jM_reach_56
        refine sim_callS (As := [pI x12]) (rest := [pI x8]) dX5_reach_56 ln_X5_167 me_X5_flag rfl (by decide) (Nat.le_of_ble_eq_true rfl) (Nat.le_of_ble_eq_true rfl) rfl (sM_flag X x12 m5) (fun x13 => ?_)
        refine sim_iadd dX5_reach_59 ?_
        refine sim_istore_n (fun z => [(0, pR 5 0 0), (1, pI x1), (2, pI z), (3, pI x9)]) [1, 2, 0, 3] dX5_reach_60 (by decide) (fun _ => rfl) (fun x14 => ?_)
        refine sim_iinc (y := 1) (fun z => [(0, pR 5 0 0), (1, pI x1), (2, pI x14), (3, pI z)]) [1, 2, 3, 0] dX5_reach_61 rfl (by decide) (by decide) (fun _ => rfl) (fun x15 => ?_)
        refine sim_goto (tgt := 24) dX5_reach_64 (by decide) ?_
        exact hs11 x14 x15
      refine sim_if_eq (tgt := 51) dX5_reach_34 (by decide) ?_ ?_
      · refine sim_iconst (v := 1) dX5_reach_51 (by decide) ?_
        refine sim_goto (tgt := 56) dX5_reach_52 (by decide) ?_
        exact hJ16 1
      · refine sim_aload_n dX5_reach_37 rfl ?_
        refine sim_get (v := pR 5 0 17) dX5_reach_38 fl_X5_38 (by decide) rfl ?_
        refine sim_aload_n dX5_reach_41 rfl ?_
        refine sim_get (v := pR 5 0 15) dX5_reach_42 fl_X5_32 (by decide) rfl ?_
        refine sim_iload_n dX5_reach_45 rfl ?_
        refine sim_iald dX5_reach_46 rfl (by decide) ?_
        refine sim_zald dX5_reach_47 rfl (by decide) ?_
        refine sim_if_eq (tgt := 55) dX5_reach_48 (by decide) ?_ ?_
        · refine sim_iconst (v := 0) dX5_reach_55 (by decide) ?_
          exact hJ16 0
        · refine sim_iconst (v := 1) dX5_reach_51 (by decide) ?_
          refine sim_goto (tgt := 56) dX5_reach_52 (by decide) ?_
          exact hJ16 1

def fM_entry (x1 : Int32) (x2 : Int32) (m3 : Mem) : Option Int32 :=
  gd (inb ((58 + (3 * x1)) + x2) 238) (some (m3 (5, 0, 1) (ix ((58 + (3 * x1)) + x2))))
abbrev rm_M_entry : Room := { frames := 0, cells := 0, slots := 0, locals := 0 }
set_option maxRecDepth 4000 in
theorem sM_entry (X : Sc) (x1 : Int32) (x2 : Int32) (m3 : Mem) : Sim X cX5_entry 3 (some .int) RX5 rm_M_entry (fun r : Int32 => r) (fun _ : Int32 => m3) 0 [(0, pR 5 0 0), (1, pI x1), (2, pI x2)] [] m3 (fM_entry x1 x2 m3) := by
  unfold fM_entry
  refine sim_aload_n dX5_entry_0 rfl ?_
  refine sim_get (v := pR 5 0 1) dX5_entry_1 fl_X5_7 (by decide) rfl ?_
  refine sim_bipush (v := 58) dX5_entry_4 (by decide) ?_
  refine sim_iconst (v := 3) dX5_entry_6 (by decide) ?_
  refine sim_iload_n dX5_entry_7 rfl ?_
  refine sim_imul dX5_entry_8 ?_
  refine sim_iadd dX5_entry_9 ?_
  refine sim_iload_n dX5_entry_10 rfl ?_
  refine sim_iadd dX5_entry_11 ?_
  refine sim_iald dX5_entry_12 rfl (by decide) ?_
  exact sim_iret dX5_entry_13 rfl rfl

def jM_enters_135 (x1 : Int32) (x2 : Int32) (x6 : Int32) (m7 : Mem) : Option Mem :=
  gd (inb 2 238) (gd (inb ((58 + (3 * x6)) + 0) 238) (lt (wr m7 (5, 0, 1) (ix ((58 + (3 * x6)) + 0)) (m7 (5, 0, 1) (ix 2))) (fun m8 => gd (inb ((58 + (3 * x6)) + 1) 238) (lt (wr m8 (5, 0, 1) (ix ((58 + (3 * x6)) + 1)) x1) (fun m9 => gd (inb ((58 + (3 * x6)) + 2) 238) (lt (wr m9 (5, 0, 1) (ix ((58 + (3 * x6)) + 2)) x2) (fun m10 => gd (inb 3 238) (gd (inb 3 238) (lt (wr m10 (5, 0, 1) (ix 3) ((m10 (5, 0, 1) (ix 3)) + 1)) (fun m11 => some m11))))))))))
def jM_enters_129 (s15 : Int32 → Mem → Option Mem) (x13 : Int32) (x20 : Int32) (m21 : Mem) : Option Mem :=
  lt (x13 + (-1)) (fun (x22 : Int32) => s15 x22 m21)
def bM_enters_94 (s15 : Int32 → Mem → Option Mem) (x13 : Int32) (s26 : Int32 → Mem → Option Mem) (x24 : Int32) (m25 : Mem) : Option Mem :=
  if 3 ≤ x24 then (jM_enters_129 s15 x13 x24 m25) else (Option.bind (fM_entry (x13 - 1) x24 m25) (fun x28 => gd (inb ((58 + (3 * x13)) + x24) 238) (lt (wr m25 (5, 0, 1) (ix ((58 + (3 * x13)) + x24)) x28) (fun m29 => lt (x24 + 1) (fun (x30 : Int32) => s26 x30 m29)))))
def bM_enters_58 (x1 : Int32) (x2 : Int32) (s15 : Int32 → Mem → Option Mem) (x13 : Int32) (m14 : Mem) : Option Mem :=
  if x13 ≤ 0 then (jM_enters_135 x1 x2 x13 m14) else (Option.bind (fM_entry (x13 - 1) 0 m14) (fun x17 => gd (inb 2 238) (if x17 = (m14 (5, 0, 1) (ix 2)) then (Option.bind (fM_entry (x13 - 1) 1 m14) (fun x18 => if x18 ≤ x1 then (jM_enters_135 x1 x2 x13 m14) else (lt 0 (fun (x19 : Int32) => lz11 (bM_enters_94 s15 x13) FU x19 m14)))) else (jM_enters_135 x1 x2 x13 m14))))
def jM_enters_51 (x1 : Int32) (x2 : Int32) (m4 : Mem) : Option Mem :=
  gd (inb 3 238) (lt (m4 (5, 0, 1) (ix 3)) (fun (x5 : Int32) => lz11 (bM_enters_58 x1 x2) FU x5 m4))
def jM_enters_41 (x1 : Int32) (x2 : Int32) (x33 : Int32) (m34 : Mem) : Option Mem :=
  gd (inb 3 238) (gd (inb 3 238) (lt (wr m34 (5, 0, 1) (ix 3) ((m34 (5, 0, 1) (ix 3)) - 1)) (fun m35 => jM_enters_51 x1 x2 m35)))
def bM_enters_14 (x1 : Int32) (x2 : Int32) (s39 : Int32 → Mem → Option Mem) (x37 : Int32) (m38 : Mem) : Option Mem :=
  if 235 ≤ x37 then (jM_enters_41 x1 x2 x37 m38) else (gd (inb (x37 + 3) 238) (gd (inb x37 238) (lt (wr m38 (5, 0, 1) (ix x37) (m38 (5, 0, 1) (ix (x37 + 3)))) (fun m41 => lt (x37 + 1) (fun (x42 : Int32) => s39 x42 m41)))))
def fM_enters (x1 : Int32) (x2 : Int32) (m3 : Mem) : Option Mem :=
  gd (inb 3 238) (if (m3 (5, 0, 1) (ix 3)) = 60 then (lt 58 (fun (x32 : Int32) => lz11 (bM_enters_14 x1 x2) FU x32 m3)) else (jM_enters_51 x1 x2 m3))
abbrev rm_M_enters : Room := { frames := 1, cells := 0, slots := 0, locals := 22 }
set_option maxRecDepth 4000 in
theorem sM_enters (X : Sc) (x1 : Int32) (x2 : Int32) (m3 : Mem) : Sim X cX5_enters 5 none RX5 rm_M_enters (fun _ : Mem => 0) (fun m : Mem => m) 0 [(0, pR 5 0 0), (1, pI x1), (2, pI x2)] [] m3 (fM_enters x1 x2 m3) := by
  unfold fM_enters
  refine sim_aload_n dX5_enters_0 rfl ?_
  refine sim_get (v := pR 5 0 1) dX5_enters_1 fl_X5_7 (by decide) rfl ?_
  refine sim_iconst (v := 3) dX5_enters_4 (by decide) ?_
  refine sim_iald dX5_enters_5 rfl (by decide) ?_
  refine sim_bipush (v := 60) dX5_enters_6 (by decide) ?_
  have hJ31 : ∀ (m4 : Mem), Sim X cX5_enters 5 none RX5 rm_M_enters (fun _ : Mem => 0) (fun m : Mem => m) 51 [(0, pR 5 0 0), (1, pI x1), (2, pI x2)] [] m4 (jM_enters_51 x1 x2 m4) := by
    intro m4
    unfold jM_enters_51
    refine sim_aload_n dX5_enters_51 rfl ?_
    refine sim_get (v := pR 5 0 1) dX5_enters_52 fl_X5_7 (by decide) rfl ?_
    refine sim_iconst (v := 3) dX5_enters_55 (by decide) ?_
    refine sim_iald dX5_enters_56 rfl (by decide) ?_
    refine sim_istore_n (fun z => [(0, pR 5 0 0), (1, pI x1), (2, pI x2), (3, pI z)]) [1, 2, 3, 0] dX5_enters_57 (by decide) (fun _ => rfl) (fun x5 => ?_)
    have hJ12 : ∀ (x6 : Int32) (m7 : Mem), Sim X cX5_enters 5 none RX5 rm_M_enters (fun _ : Mem => 0) (fun m : Mem => m) 135 [(0, pR 5 0 0), (1, pI x1), (2, pI x2), (3, pI x6)] [] m7 (jM_enters_135 x1 x2 x6 m7) := by
      intro x6 m7
      unfold jM_enters_135
      refine sim_aload_n dX5_enters_135 rfl ?_
      refine sim_get (v := pR 5 0 1) dX5_enters_136 fl_X5_7 (by decide) rfl ?_
      refine sim_bipush (v := 58) dX5_enters_139 (by decide) ?_
      refine sim_iconst (v := 3) dX5_enters_141 (by decide) ?_
      refine sim_iload_n dX5_enters_142 rfl ?_
      refine sim_imul dX5_enters_143 ?_
      refine sim_iadd dX5_enters_144 ?_
      refine sim_iconst (v := 0) dX5_enters_145 (by decide) ?_
      refine sim_iadd dX5_enters_146 ?_
      refine sim_aload_n dX5_enters_147 rfl ?_
      refine sim_get (v := pR 5 0 1) dX5_enters_148 fl_X5_7 (by decide) rfl ?_
      refine sim_iconst (v := 2) dX5_enters_151 (by decide) ?_
      refine sim_iald dX5_enters_152 rfl (by decide) ?_
      refine sim_iast dX5_enters_153 rfl (by decide) (fun m8 => ?_)
      refine sim_aload_n dX5_enters_154 rfl ?_
      refine sim_get (v := pR 5 0 1) dX5_enters_155 fl_X5_7 (by decide) rfl ?_
      refine sim_bipush (v := 58) dX5_enters_158 (by decide) ?_
      refine sim_iconst (v := 3) dX5_enters_160 (by decide) ?_
      refine sim_iload_n dX5_enters_161 rfl ?_
      refine sim_imul dX5_enters_162 ?_
      refine sim_iadd dX5_enters_163 ?_
      refine sim_iconst (v := 1) dX5_enters_164 (by decide) ?_
      refine sim_iadd dX5_enters_165 ?_
      refine sim_iload_n dX5_enters_166 rfl ?_
      refine sim_iast dX5_enters_167 rfl (by decide) (fun m9 => ?_)
      refine sim_aload_n dX5_enters_168 rfl ?_
      refine sim_get (v := pR 5 0 1) dX5_enters_169 fl_X5_7 (by decide) rfl ?_
      refine sim_bipush (v := 58) dX5_enters_172 (by decide) ?_
      refine sim_iconst (v := 3) dX5_enters_174 (by decide) ?_
      refine sim_iload_n dX5_enters_175 rfl ?_
      refine sim_imul dX5_enters_176 ?_
      refine sim_iadd dX5_enters_177 ?_
      refine sim_iconst (v := 2) dX5_enters_178 (by decide) ?_
      refine sim_iadd dX5_enters_179 ?_
      refine sim_iload_n dX5_enters_180 rfl ?_
      refine sim_iast dX5_enters_181 rfl (by decide) (fun m10 => ?_)
      refine sim_aload_n dX5_enters_182 rfl ?_
      refine sim_get (v := pR 5 0 1) dX5_enters_183 fl_X5_7 (by decide) rfl ?_
      refine sim_iconst (v := 3) dX5_enters_186 (by decide) ?_
      refine sim_dup2 dX5_enters_187 rfl rfl ?_
      refine sim_iald dX5_enters_188 rfl (by decide) ?_
      refine sim_iconst (v := 1) dX5_enters_189 (by decide) ?_
      refine sim_iadd dX5_enters_190 ?_
      refine sim_iast dX5_enters_191 rfl (by decide) (fun m11 => ?_)
      exact sim_ret dX5_enters_192 rfl
    refine sim_lz11 (fun z0 => [(0, pR 5 0 0), (1, pI x1), (2, pI x2), (3, pI z0)]) (fun s15 hs16 x13 m14 => ?_) FU x5 m4
    unfold bM_enters_58
    refine sim_iload_n dX5_enters_58 rfl ?_
    refine sim_if_le (tgt := 135) dX5_enters_59 (by decide) ?_ ?_
    · exact hJ12 x13 m14
    · refine sim_aload_n dX5_enters_62 rfl ?_
      refine sim_iload_n dX5_enters_63 rfl ?_
      refine sim_iconst (v := 1) dX5_enters_64 (by decide) ?_
      refine sim_isub dX5_enters_65 ?_
      refine sim_iconst (v := 0) dX5_enters_66 (by decide) ?_
      refine sim_callV (As := [pI (x13 - 1), pI 0]) (rest := []) (k0 := 0) dX5_enters_67 ln_X5_246 me_X5_entry rfl (by decide) rfl (by decide) (Nat.le_of_ble_eq_true rfl) (Nat.le_of_ble_eq_true rfl) rfl (sM_entry X (x13 - 1) 0 m14) (fun x17 => ?_)
      refine sim_aload_n dX5_enters_70 rfl ?_
      refine sim_get (v := pR 5 0 1) dX5_enters_71 fl_X5_7 (by decide) rfl ?_
      refine sim_iconst (v := 2) dX5_enters_74 (by decide) ?_
      refine sim_iald dX5_enters_75 rfl (by decide) ?_
      refine sim_icmp_ne (tgt := 135) dX5_enters_76 (by decide) ?_ ?_
      · refine sim_aload_n dX5_enters_79 rfl ?_
        refine sim_iload_n dX5_enters_80 rfl ?_
        refine sim_iconst (v := 1) dX5_enters_81 (by decide) ?_
        refine sim_isub dX5_enters_82 ?_
        refine sim_iconst (v := 1) dX5_enters_83 (by decide) ?_
        refine sim_callV (As := [pI (x13 - 1), pI 1]) (rest := []) (k0 := 0) dX5_enters_84 ln_X5_246 me_X5_entry rfl (by decide) rfl (by decide) (Nat.le_of_ble_eq_true rfl) (Nat.le_of_ble_eq_true rfl) rfl (sM_entry X (x13 - 1) 1 m14) (fun x18 => ?_)
        refine sim_iload_n dX5_enters_87 rfl ?_
        refine sim_icmp_le (tgt := 135) dX5_enters_88 (by decide) ?_ ?_
        · exact hJ12 x13 m14
        · refine sim_iconst (v := 0) dX5_enters_91 (by decide) ?_
          refine sim_istore (fun z => [(0, pR 5 0 0), (1, pI x1), (2, pI x2), (3, pI x13), (4, pI z)]) [1, 2, 3, 4, 0] dX5_enters_92 (by decide) (fun _ => rfl) (fun x19 => ?_)
          have hJ23 : ∀ (x20 : Int32) (m21 : Mem), Sim X cX5_enters 5 none RX5 rm_M_enters (fun _ : Mem => 0) (fun m : Mem => m) 129 [(0, pR 5 0 0), (1, pI x1), (2, pI x2), (3, pI x13), (4, pI x20)] [] m21 (jM_enters_129 s15 x13 x20 m21) := by
            intro x20 m21
            unfold jM_enters_129
            refine sim_iinc (y := (-1)) (fun z => [(0, pR 5 0 0), (1, pI x1), (2, pI x2), (3, pI z), (4, pI x20)]) [1, 2, 3, 0, 4] dX5_enters_129 rfl (by decide) (by decide) (fun _ => rfl) (fun x22 => ?_)
            refine sim_goto (tgt := 58) dX5_enters_132 (by decide) ?_
            refine sim_pick [(0, pR 5 0 0), (1, pI x1), (2, pI x2), (3, pI x22)] [0, 1, 2, 3] rfl ?_
            exact hs16 x22 m21
          refine sim_lz11 (fun z0 => [(0, pR 5 0 0), (1, pI x1), (2, pI x2), (3, pI x13), (4, pI z0)]) (fun s26 hs27 x24 m25 => ?_) FU x19 m14
          unfold bM_enters_94
          refine sim_iload dX5_enters_94 rfl ?_
          refine sim_iconst (v := 3) dX5_enters_96 (by decide) ?_
          refine sim_icmp_ge (tgt := 129) dX5_enters_97 (by decide) ?_ ?_
          · exact hJ23 x24 m25
          · refine sim_aload_n dX5_enters_100 rfl ?_
            refine sim_get (v := pR 5 0 1) dX5_enters_101 fl_X5_7 (by decide) rfl ?_
            refine sim_bipush (v := 58) dX5_enters_104 (by decide) ?_
            refine sim_iconst (v := 3) dX5_enters_106 (by decide) ?_
            refine sim_iload_n dX5_enters_107 rfl ?_
            refine sim_imul dX5_enters_108 ?_
            refine sim_iadd dX5_enters_109 ?_
            refine sim_iload dX5_enters_110 rfl ?_
            refine sim_iadd dX5_enters_112 ?_
            refine sim_aload_n dX5_enters_113 rfl ?_
            refine sim_iload_n dX5_enters_114 rfl ?_
            refine sim_iconst (v := 1) dX5_enters_115 (by decide) ?_
            refine sim_isub dX5_enters_116 ?_
            refine sim_iload dX5_enters_117 rfl ?_
            refine sim_callV (As := [pI (x13 - 1), pI x24]) (rest := [pI ((58 + (3 * x13)) + x24), pR 5 0 1]) (k0 := 0) dX5_enters_119 ln_X5_246 me_X5_entry rfl (by decide) rfl (by decide) (Nat.le_of_ble_eq_true rfl) (Nat.le_of_ble_eq_true rfl) rfl (sM_entry X (x13 - 1) x24 m25) (fun x28 => ?_)
            refine sim_iast dX5_enters_122 rfl (by decide) (fun m29 => ?_)
            refine sim_iinc (y := 1) (fun z => [(0, pR 5 0 0), (1, pI x1), (2, pI x2), (3, pI x13), (4, pI z)]) [1, 2, 3, 4, 0] dX5_enters_123 rfl (by decide) (by decide) (fun _ => rfl) (fun x30 => ?_)
            refine sim_goto (tgt := 94) dX5_enters_126 (by decide) ?_
            exact hs27 x30 m29
      · exact hJ12 x13 m14
  refine sim_icmp_ne (tgt := 51) dX5_enters_8 (by decide) ?_ ?_
  · refine sim_bipush (v := 58) dX5_enters_11 (by decide) ?_
    refine sim_istore_n (fun z => [(0, pR 5 0 0), (1, pI x1), (2, pI x2), (3, pI z)]) [1, 2, 3, 0] dX5_enters_13 (by decide) (fun _ => rfl) (fun x32 => ?_)
    have hJ36 : ∀ (x33 : Int32) (m34 : Mem), Sim X cX5_enters 5 none RX5 rm_M_enters (fun _ : Mem => 0) (fun m : Mem => m) 41 [(0, pR 5 0 0), (1, pI x1), (2, pI x2), (3, pI x33)] [] m34 (jM_enters_41 x1 x2 x33 m34) := by
      intro x33 m34
      unfold jM_enters_41
      refine sim_aload_n dX5_enters_41 rfl ?_
      refine sim_get (v := pR 5 0 1) dX5_enters_42 fl_X5_7 (by decide) rfl ?_
      refine sim_iconst (v := 3) dX5_enters_45 (by decide) ?_
      refine sim_dup2 dX5_enters_46 rfl rfl ?_
      refine sim_iald dX5_enters_47 rfl (by decide) ?_
      refine sim_iconst (v := 1) dX5_enters_48 (by decide) ?_
      refine sim_isub dX5_enters_49 ?_
      refine sim_iast dX5_enters_50 rfl (by decide) (fun m35 => ?_)
      refine sim_pick [(0, pR 5 0 0), (1, pI x1), (2, pI x2)] [0, 1, 2] rfl ?_
      exact hJ31 m35
    refine sim_lz11 (fun z0 => [(0, pR 5 0 0), (1, pI x1), (2, pI x2), (3, pI z0)]) (fun s39 hs40 x37 m38 => ?_) FU x32 m3
    unfold bM_enters_14
    refine sim_iload_n dX5_enters_14 rfl ?_
    refine sim_sipush (v := 235) dX5_enters_15 (by decide) ?_
    refine sim_icmp_ge (tgt := 41) dX5_enters_18 (by decide) ?_ ?_
    · exact hJ36 x37 m38
    · refine sim_aload_n dX5_enters_21 rfl ?_
      refine sim_get (v := pR 5 0 1) dX5_enters_22 fl_X5_7 (by decide) rfl ?_
      refine sim_iload_n dX5_enters_25 rfl ?_
      refine sim_aload_n dX5_enters_26 rfl ?_
      refine sim_get (v := pR 5 0 1) dX5_enters_27 fl_X5_7 (by decide) rfl ?_
      refine sim_iload_n dX5_enters_30 rfl ?_
      refine sim_iconst (v := 3) dX5_enters_31 (by decide) ?_
      refine sim_iadd dX5_enters_32 ?_
      refine sim_iald dX5_enters_33 rfl (by decide) ?_
      refine sim_iast dX5_enters_34 rfl (by decide) (fun m41 => ?_)
      refine sim_iinc (y := 1) (fun z => [(0, pR 5 0 0), (1, pI x1), (2, pI x2), (3, pI z)]) [1, 2, 3, 0] dX5_enters_35 rfl (by decide) (by decide) (fun _ => rfl) (fun x42 => ?_)
      refine sim_goto (tgt := 14) dX5_enters_38 (by decide) ?_
      exact hs40 x42 m41
  · exact hJ31 m3

def fM_goes (x1 : Int32) (m2 : Mem) : Option Mem :=
  lt (34 + (6 * x1)) (fun (x3 : Int32) => Option.bind (fM_ofTrain x1 3 m2) (fun x4 => lt x4 (fun (x5 : Int32) => Option.bind (fM_nextFrom x1 x5 m2) (fun x6 => lt x6 (fun (x7 : Int32) => gd (inb (x3 + 3) 238) (lt (wr m2 (5, 0, 1) (ix (x3 + 3)) x7) (fun m8 => gd (inb (x3 + 4) 238) (lt (wr m8 (5, 0, 1) (ix (x3 + 4)) 1) (fun m9 => gd (inb 2 238) (Option.bind (fM_minutesOf x5 x7 m9) (fun x10 => gd (inb (x3 + 5) 238) (lt (wr m9 (5, 0, 1) (ix (x3 + 5)) ((m9 (5, 0, 1) (ix 2)) + x10)) (fun m11 => Option.bind (fM_enters x1 x5 m11) (fun m12 => some m12))))))))))))))
abbrev rm_M_goes : Room := { frames := 2, cells := 0, slots := 0, locals := 46 }
set_option maxRecDepth 4000 in
theorem sM_goes (X : Sc) (x1 : Int32) (m2 : Mem) : Sim X cX5_goes 5 none RX5 rm_M_goes (fun _ : Mem => 0) (fun m : Mem => m) 0 [(0, pR 5 0 0), (1, pI x1)] [] m2 (fM_goes x1 m2) := by
  unfold fM_goes
  refine sim_bipush (v := 34) dX5_goes_0 (by decide) ?_
  refine sim_bipush (v := 6) dX5_goes_2 (by decide) ?_
  refine sim_iload_n dX5_goes_4 rfl ?_
  refine sim_imul dX5_goes_5 ?_
  refine sim_iadd dX5_goes_6 ?_
  refine sim_istore_n (fun z => [(0, pR 5 0 0), (1, pI x1), (2, pI z)]) [1, 2, 0] dX5_goes_7 (by decide) (fun _ => rfl) (fun x3 => ?_)
  refine sim_aload_n dX5_goes_8 rfl ?_
  refine sim_iload_n dX5_goes_9 rfl ?_
  refine sim_iconst (v := 3) dX5_goes_10 (by decide) ?_
  refine sim_callV (As := [pI x1, pI 3]) (rest := []) (k0 := 0) dX5_goes_11 ln_X5_122 me_X5_ofTrain rfl (by decide) rfl (by decide) (Nat.le_of_ble_eq_true rfl) (Nat.le_of_ble_eq_true rfl) rfl (sM_ofTrain X x1 3 m2) (fun x4 => ?_)
  refine sim_istore_n (fun z => [(0, pR 5 0 0), (1, pI x1), (2, pI x3), (3, pI z)]) [1, 2, 3, 0] dX5_goes_14 (by decide) (fun _ => rfl) (fun x5 => ?_)
  refine sim_aload_n dX5_goes_15 rfl ?_
  refine sim_iload_n dX5_goes_16 rfl ?_
  refine sim_iload_n dX5_goes_17 rfl ?_
  refine sim_callV (As := [pI x1, pI x5]) (rest := []) (k0 := 0) dX5_goes_18 ln_X5_161 me_X5_nextFrom rfl (by decide) rfl (by decide) (Nat.le_of_ble_eq_true rfl) (Nat.le_of_ble_eq_true rfl) rfl (sM_nextFrom X x1 x5 m2) (fun x6 => ?_)
  refine sim_istore (fun z => [(0, pR 5 0 0), (1, pI x1), (2, pI x3), (3, pI x5), (4, pI z)]) [1, 2, 3, 4, 0] dX5_goes_21 (by decide) (fun _ => rfl) (fun x7 => ?_)
  refine sim_aload_n dX5_goes_23 rfl ?_
  refine sim_get (v := pR 5 0 1) dX5_goes_24 fl_X5_7 (by decide) rfl ?_
  refine sim_iload_n dX5_goes_27 rfl ?_
  refine sim_iconst (v := 3) dX5_goes_28 (by decide) ?_
  refine sim_iadd dX5_goes_29 ?_
  refine sim_iload dX5_goes_30 rfl ?_
  refine sim_iast dX5_goes_32 rfl (by decide) (fun m8 => ?_)
  refine sim_aload_n dX5_goes_33 rfl ?_
  refine sim_get (v := pR 5 0 1) dX5_goes_34 fl_X5_7 (by decide) rfl ?_
  refine sim_iload_n dX5_goes_37 rfl ?_
  refine sim_iconst (v := 4) dX5_goes_38 (by decide) ?_
  refine sim_iadd dX5_goes_39 ?_
  refine sim_iconst (v := 1) dX5_goes_40 (by decide) ?_
  refine sim_iast dX5_goes_41 rfl (by decide) (fun m9 => ?_)
  refine sim_aload_n dX5_goes_42 rfl ?_
  refine sim_get (v := pR 5 0 1) dX5_goes_43 fl_X5_7 (by decide) rfl ?_
  refine sim_iload_n dX5_goes_46 rfl ?_
  refine sim_iconst (v := 5) dX5_goes_47 (by decide) ?_
  refine sim_iadd dX5_goes_48 ?_
  refine sim_aload_n dX5_goes_49 rfl ?_
  refine sim_get (v := pR 5 0 1) dX5_goes_50 fl_X5_7 (by decide) rfl ?_
  refine sim_iconst (v := 2) dX5_goes_53 (by decide) ?_
  refine sim_iald dX5_goes_54 rfl (by decide) ?_
  refine sim_aload_n dX5_goes_55 rfl ?_
  refine sim_iload_n dX5_goes_56 rfl ?_
  refine sim_iload dX5_goes_57 rfl ?_
  refine sim_callV (As := [pI x5, pI x7]) (rest := [pI (m9 (5, 0, 1) (ix 2)), pI (x3 + 5), pR 5 0 1]) (k0 := 0) dX5_goes_59 ln_X5_164 me_X5_minutesOf rfl (by decide) rfl (by decide) (Nat.le_of_ble_eq_true rfl) (Nat.le_of_ble_eq_true rfl) rfl (sM_minutesOf X x5 x7 m9) (fun x10 => ?_)
  refine sim_iadd dX5_goes_62 ?_
  refine sim_iast dX5_goes_63 rfl (by decide) (fun m11 => ?_)
  refine sim_aload_n dX5_goes_64 rfl ?_
  refine sim_iload_n dX5_goes_65 rfl ?_
  refine sim_iload_n dX5_goes_66 rfl ?_
  refine sim_callV (As := [pI x1, pI x5]) (rest := []) (k0 := 0) dX5_goes_67 ln_X5_249 me_X5_enters rfl (by decide) rfl (by decide) (Nat.le_of_ble_eq_true rfl) (Nat.le_of_ble_eq_true rfl) rfl (sM_enters X x1 x5 m11) (fun m12 => ?_)
  exact sim_ret dX5_goes_70 rfl

def bM_goesOn_14 (s9 : Int32 → Int32 → Mem → Option (Int32 × Mem)) (x6 : Int32) (x7 : Int32) (m8 : Mem) : Option (Int32 × Mem) :=
  gd (inb 1 238) (if (m8 (5, 0, 1) (ix 1)) ≤ x7 then (some (x6, m8)) else (lt (34 + (6 * x7)) (fun (x11 : Int32) => gd (inb (x11 + 4) 238) (if (m8 (5, 0, 1) (ix (x11 + 4))) = 1 then (gd (inb (x11 + 5) 238) (gd (inb 2 238) (if (m8 (5, 0, 1) (ix 2)) < (m8 (5, 0, 1) (ix (x11 + 5))) then (lt (x7 + 1) (fun (x13 : Int32) => s9 x6 x13 m8)) else (gd (inb (x11 + 3) 238) (gd (inb (x11 + 1) 238) (lt (if (m8 (5, 0, 1) (ix (x11 + 3))) = (m8 (5, 0, 1) (ix (x11 + 1))) then 1 else 0) (fun (x14 : Int32) => lt x14 (fun (x15 : Int32) => lt (if x15 = 0 then 0 else 2) (fun (x16 : Int32) => gd (inb (x11 + 4) 238) (lt (wr m8 (5, 0, 1) (ix (x11 + 4)) x16) (fun m17 => if x15 = 0 then (gd (inb (x11 + 5) 238) (lt (wr m17 (5, 0, 1) (ix (x11 + 5)) (-4)) (fun m18 => lt (x6 + 1) (fun (x19 : Int32) => lt (x7 + 1) (fun (x20 : Int32) => s9 x19 x20 m18))))) else (gd (inb (x11 + 5) 238) (gd (inb (x11 + 5) 238) (lt (wr m17 (5, 0, 1) (ix (x11 + 5)) (m17 (5, 0, 1) (ix (x11 + 5)))) (fun m21 => lt (x6 + 1) (fun (x22 : Int32) => lt (x7 + 1) (fun (x23 : Int32) => s9 x22 x23 m21))))))))))))))))) else (lt (x7 + 1) (fun (x12 : Int32) => s9 x6 x12 m8))))))
def fM_goesOn (x1 : Int32) (m2 : Mem) : Option (Int32 × Mem) :=
  gd (inb 2 238) (gd (inb 2 238) (lt (wr m2 (5, 0, 1) (ix 2) ((m2 (5, 0, 1) (ix 2)) + x1)) (fun m3 => lt 0 (fun (x4 : Int32) => lt 0 (fun (x5 : Int32) => lz21 (bM_goesOn_14) FU x4 x5 m3)))))
abbrev rm_M_goesOn : Room := { frames := 0, cells := 0, slots := 0, locals := 0 }
set_option maxRecDepth 4000 in
theorem sM_goesOn (X : Sc) (x1 : Int32) (m2 : Mem) : Sim X cX5_goesOn 6 (some .int) RX5 rm_M_goesOn (fun q : Int32 × Mem => q.1) (fun q : Int32 × Mem => q.2) 0 [(0, pR 5 0 0), (1, pI x1)] [] m2 (fM_goesOn x1 m2) := by
  unfold fM_goesOn
  refine sim_aload_n dX5_goesOn_0 rfl ?_
  refine sim_get (v := pR 5 0 1) dX5_goesOn_1 fl_X5_7 (by decide) rfl ?_
  refine sim_iconst (v := 2) dX5_goesOn_4 (by decide) ?_
  refine sim_dup2 dX5_goesOn_5 rfl rfl ?_
  refine sim_iald dX5_goesOn_6 rfl (by decide) ?_
  refine sim_iload_n dX5_goesOn_7 rfl ?_
  refine sim_iadd dX5_goesOn_8 ?_
  refine sim_iast dX5_goesOn_9 rfl (by decide) (fun m3 => ?_)
  refine sim_iconst (v := 0) dX5_goesOn_10 (by decide) ?_
  refine sim_istore_n (fun z => [(0, pR 5 0 0), (1, pI x1), (2, pI z)]) [1, 2, 0] dX5_goesOn_11 (by decide) (fun _ => rfl) (fun x4 => ?_)
  refine sim_iconst (v := 0) dX5_goesOn_12 (by decide) ?_
  refine sim_istore_n (fun z => [(0, pR 5 0 0), (1, pI x1), (2, pI x4), (3, pI z)]) [1, 2, 3, 0] dX5_goesOn_13 (by decide) (fun _ => rfl) (fun x5 => ?_)
  refine sim_lz21 (fun z0 z1 => [(0, pR 5 0 0), (1, pI x1), (2, pI z0), (3, pI z1)]) (fun s9 hs10 x6 x7 m8 => ?_) FU x4 x5 m3
  unfold bM_goesOn_14
  refine sim_iload_n dX5_goesOn_14 rfl ?_
  refine sim_aload_n dX5_goesOn_15 rfl ?_
  refine sim_get (v := pR 5 0 1) dX5_goesOn_16 fl_X5_7 (by decide) rfl ?_
  refine sim_iconst (v := 1) dX5_goesOn_19 (by decide) ?_
  refine sim_iald dX5_goesOn_20 rfl (by decide) ?_
  refine sim_icmp_ge (tgt := 148) dX5_goesOn_21 (by decide) ?_ ?_
  · refine sim_iload_n dX5_goesOn_148 rfl ?_
    exact sim_iret dX5_goesOn_149 rfl rfl
  · refine sim_bipush (v := 34) dX5_goesOn_24 (by decide) ?_
    refine sim_bipush (v := 6) dX5_goesOn_26 (by decide) ?_
    refine sim_iload_n dX5_goesOn_28 rfl ?_
    refine sim_imul dX5_goesOn_29 ?_
    refine sim_iadd dX5_goesOn_30 ?_
    refine sim_istore (fun z => [(0, pR 5 0 0), (1, pI x1), (2, pI x6), (3, pI x7), (4, pI z)]) [1, 2, 3, 4, 0] dX5_goesOn_31 (by decide) (fun _ => rfl) (fun x11 => ?_)
    refine sim_aload_n dX5_goesOn_33 rfl ?_
    refine sim_get (v := pR 5 0 1) dX5_goesOn_34 fl_X5_7 (by decide) rfl ?_
    refine sim_iload dX5_goesOn_37 rfl ?_
    refine sim_iconst (v := 4) dX5_goesOn_39 (by decide) ?_
    refine sim_iadd dX5_goesOn_40 ?_
    refine sim_iald dX5_goesOn_41 rfl (by decide) ?_
    refine sim_iconst (v := 1) dX5_goesOn_42 (by decide) ?_
    refine sim_icmp_ne (tgt := 142) dX5_goesOn_43 (by decide) ?_ ?_
    · refine sim_aload_n dX5_goesOn_46 rfl ?_
      refine sim_get (v := pR 5 0 1) dX5_goesOn_47 fl_X5_7 (by decide) rfl ?_
      refine sim_iload dX5_goesOn_50 rfl ?_
      refine sim_iconst (v := 5) dX5_goesOn_52 (by decide) ?_
      refine sim_iadd dX5_goesOn_53 ?_
      refine sim_iald dX5_goesOn_54 rfl (by decide) ?_
      refine sim_aload_n dX5_goesOn_55 rfl ?_
      refine sim_get (v := pR 5 0 1) dX5_goesOn_56 fl_X5_7 (by decide) rfl ?_
      refine sim_iconst (v := 2) dX5_goesOn_59 (by decide) ?_
      refine sim_iald dX5_goesOn_60 rfl (by decide) ?_
      refine sim_icmp_gt (tgt := 142) dX5_goesOn_61 (by decide) ?_ ?_
      · refine sim_iinc (y := 1) (fun z => [(0, pR 5 0 0), (1, pI x1), (2, pI x6), (3, pI z), (4, pI x11)]) [1, 2, 3, 0, 4] dX5_goesOn_142 rfl (by decide) (by decide) (fun _ => rfl) (fun x13 => ?_)
        refine sim_goto (tgt := 14) dX5_goesOn_145 (by decide) ?_
        refine sim_pick [(0, pR 5 0 0), (1, pI x1), (2, pI x6), (3, pI x13)] [0, 1, 2, 3] rfl ?_
        exact hs10 x6 x13 m8
      · refine sim_aload_n dX5_goesOn_64 rfl ?_
        refine sim_get (v := pR 5 0 1) dX5_goesOn_65 fl_X5_7 (by decide) rfl ?_
        refine sim_iload dX5_goesOn_68 rfl ?_
        refine sim_iconst (v := 3) dX5_goesOn_70 (by decide) ?_
        refine sim_iadd dX5_goesOn_71 ?_
        refine sim_iald dX5_goesOn_72 rfl (by decide) ?_
        refine sim_aload_n dX5_goesOn_73 rfl ?_
        refine sim_get (v := pR 5 0 1) dX5_goesOn_74 fl_X5_7 (by decide) rfl ?_
        refine sim_iload dX5_goesOn_77 rfl ?_
        refine sim_iconst (v := 1) dX5_goesOn_79 (by decide) ?_
        refine sim_iadd dX5_goesOn_80 ?_
        refine sim_iald dX5_goesOn_81 rfl (by decide) ?_
        refine sim_jv 90 [(0, pR 5 0 0), (1, pI x1), (2, pI x6), (3, pI x7), (4, pI x11)] [] (fun x14 => ?_) (fun hV25 => ?_)
        · refine sim_istore (fun z => [(0, pR 5 0 0), (1, pI x1), (2, pI x6), (3, pI x7), (4, pI x11), (5, pI z)]) [1, 2, 3, 4, 5, 0] dX5_goesOn_90 (by decide) (fun _ => rfl) (fun x15 => ?_)
          refine sim_aload_n dX5_goesOn_92 rfl ?_
          refine sim_get (v := pR 5 0 1) dX5_goesOn_93 fl_X5_7 (by decide) rfl ?_
          refine sim_iload dX5_goesOn_96 rfl ?_
          refine sim_iconst (v := 4) dX5_goesOn_98 (by decide) ?_
          refine sim_iadd dX5_goesOn_99 ?_
          refine sim_iload dX5_goesOn_100 rfl ?_
          refine sim_jv 110 [(0, pR 5 0 0), (1, pI x1), (2, pI x6), (3, pI x7), (4, pI x11), (5, pI x15)] [pI (x11 + 4), pR 5 0 1] (fun x16 => ?_) (fun hV24 => ?_)
          · refine sim_iast dX5_goesOn_110 rfl (by decide) (fun m17 => ?_)
            refine sim_aload_n dX5_goesOn_111 rfl ?_
            refine sim_get (v := pR 5 0 1) dX5_goesOn_112 fl_X5_7 (by decide) rfl ?_
            refine sim_iload dX5_goesOn_115 rfl ?_
            refine sim_iconst (v := 5) dX5_goesOn_117 (by decide) ?_
            refine sim_iadd dX5_goesOn_118 ?_
            refine sim_iload dX5_goesOn_119 rfl ?_
            refine sim_if_eq (tgt := 136) dX5_goesOn_121 (by decide) ?_ ?_
            · refine sim_bipush (v := (-4)) dX5_goesOn_136 (by decide) ?_
              refine sim_iast dX5_goesOn_138 rfl (by decide) (fun m18 => ?_)
              refine sim_iinc (y := 1) (fun z => [(0, pR 5 0 0), (1, pI x1), (2, pI z), (3, pI x7), (4, pI x11), (5, pI x15)]) [1, 2, 0, 3, 4, 5] dX5_goesOn_139 rfl (by decide) (by decide) (fun _ => rfl) (fun x19 => ?_)
              refine sim_iinc (y := 1) (fun z => [(0, pR 5 0 0), (1, pI x1), (2, pI x19), (3, pI z), (4, pI x11), (5, pI x15)]) [1, 2, 3, 0, 4, 5] dX5_goesOn_142 rfl (by decide) (by decide) (fun _ => rfl) (fun x20 => ?_)
              refine sim_goto (tgt := 14) dX5_goesOn_145 (by decide) ?_
              refine sim_pick [(0, pR 5 0 0), (1, pI x1), (2, pI x19), (3, pI x20)] [0, 1, 2, 3] rfl ?_
              exact hs10 x19 x20 m18
            · refine sim_aload_n dX5_goesOn_124 rfl ?_
              refine sim_get (v := pR 5 0 1) dX5_goesOn_125 fl_X5_7 (by decide) rfl ?_
              refine sim_iload dX5_goesOn_128 rfl ?_
              refine sim_iconst (v := 5) dX5_goesOn_130 (by decide) ?_
              refine sim_iadd dX5_goesOn_131 ?_
              refine sim_iald dX5_goesOn_132 rfl (by decide) ?_
              refine sim_goto (tgt := 138) dX5_goesOn_133 (by decide) ?_
              refine sim_iast dX5_goesOn_138 rfl (by decide) (fun m21 => ?_)
              refine sim_iinc (y := 1) (fun z => [(0, pR 5 0 0), (1, pI x1), (2, pI z), (3, pI x7), (4, pI x11), (5, pI x15)]) [1, 2, 0, 3, 4, 5] dX5_goesOn_139 rfl (by decide) (by decide) (fun _ => rfl) (fun x22 => ?_)
              refine sim_iinc (y := 1) (fun z => [(0, pR 5 0 0), (1, pI x1), (2, pI x22), (3, pI z), (4, pI x11), (5, pI x15)]) [1, 2, 3, 0, 4, 5] dX5_goesOn_142 rfl (by decide) (by decide) (fun _ => rfl) (fun x23 => ?_)
              refine sim_goto (tgt := 14) dX5_goesOn_145 (by decide) ?_
              refine sim_pick [(0, pR 5 0 0), (1, pI x1), (2, pI x22), (3, pI x23)] [0, 1, 2, 3] rfl ?_
              exact hs10 x22 x23 m21
          · refine sim_eq (lt_ite _ _ _ _) ?_
            refine sim_if_eq (tgt := 109) dX5_goesOn_102 (by decide) ?_ ?_
            · refine sim_iconst (v := 0) dX5_goesOn_109 (by decide) ?_
              exact hV24 _
            · refine sim_iconst (v := 2) dX5_goesOn_105 (by decide) ?_
              refine sim_goto (tgt := 110) dX5_goesOn_106 (by decide) ?_
              exact hV24 _
        · refine sim_eq (lt_ite _ _ _ _) ?_
          refine sim_icmp_ne (tgt := 89) dX5_goesOn_82 (by decide) ?_ ?_
          · refine sim_iconst (v := 1) dX5_goesOn_85 (by decide) ?_
            refine sim_goto (tgt := 90) dX5_goesOn_86 (by decide) ?_
            exact hV25 _
          · refine sim_iconst (v := 0) dX5_goesOn_89 (by decide) ?_
            exact hV25 _
    · refine sim_iinc (y := 1) (fun z => [(0, pR 5 0 0), (1, pI x1), (2, pI x6), (3, pI z), (4, pI x11)]) [1, 2, 3, 0, 4] dX5_goesOn_142 rfl (by decide) (by decide) (fun _ => rfl) (fun x12 => ?_)
      refine sim_goto (tgt := 14) dX5_goesOn_145 (by decide) ?_
      refine sim_pick [(0, pR 5 0 0), (1, pI x1), (2, pI x6), (3, pI x12)] [0, 1, 2, 3] rfl ?_
      exact hs10 x6 x12 m8

def fM_isAhead (x1 : Int32) (x2 : Int32) (x3 : Int32) (m4 : Mem) : Option Int32 :=
  Option.bind (fM_minutesStill x2 m4) (fun x5 => Option.bind (fM_minutesStill x3 m4) (fun x6 => lt (x5 - x6) (fun (x7 : Int32) => if x1 = 1 then (if 0 ≤ x7 then (some 0) else (some 1)) else (if x1 = 2 then (if x7 ≤ 0 then (some 0) else (some 1)) else (some 0)))))
abbrev rm_M_isAhead : Room := { frames := 3, cells := 0, slots := 0, locals := 69 }
set_option maxRecDepth 4000 in
theorem sM_isAhead (X : Sc) (x1 : Int32) (x2 : Int32) (x3 : Int32) (m4 : Mem) : Sim X cX5_isAhead 5 (some .boolean) RX5 rm_M_isAhead (fun r : Int32 => r) (fun _ : Int32 => m4) 0 [(0, pR 5 0 0), (1, pI x1), (2, pI x2), (3, pI x3)] [] m4 (fM_isAhead x1 x2 x3 m4) := by
  unfold fM_isAhead
  refine sim_aload_n dX5_isAhead_0 rfl ?_
  refine sim_iload_n dX5_isAhead_1 rfl ?_
  refine sim_callV (As := [pI x2]) (rest := []) (k0 := 0) dX5_isAhead_2 ln_X5_234 me_X5_minutesStill rfl (by decide) rfl (by decide) (Nat.le_of_ble_eq_true rfl) (Nat.le_of_ble_eq_true rfl) rfl (sM_minutesStill X x2 m4) (fun x5 => ?_)
  refine sim_aload_n dX5_isAhead_5 rfl ?_
  refine sim_iload_n dX5_isAhead_6 rfl ?_
  refine sim_callV (As := [pI x3]) (rest := [pI x5]) (k0 := 0) dX5_isAhead_7 ln_X5_234 me_X5_minutesStill rfl (by decide) rfl (by decide) (Nat.le_of_ble_eq_true rfl) (Nat.le_of_ble_eq_true rfl) rfl (sM_minutesStill X x3 m4) (fun x6 => ?_)
  refine sim_isub dX5_isAhead_10 ?_
  refine sim_istore (fun z => [(0, pR 5 0 0), (1, pI x1), (2, pI x2), (3, pI x3), (4, pI z)]) [1, 2, 3, 4, 0] dX5_isAhead_11 (by decide) (fun _ => rfl) (fun x7 => ?_)
  refine sim_iload_n dX5_isAhead_13 rfl ?_
  refine sim_iconst (v := 1) dX5_isAhead_14 (by decide) ?_
  refine sim_icmp_ne (tgt := 31) dX5_isAhead_15 (by decide) ?_ ?_
  · refine sim_iload dX5_isAhead_18 rfl ?_
    refine sim_if_ge (tgt := 27) dX5_isAhead_20 (by decide) ?_ ?_
    · refine sim_iconst (v := 0) dX5_isAhead_27 (by decide) ?_
      refine sim_goto (tgt := 46) dX5_isAhead_28 (by decide) ?_
      exact sim_zret dX5_isAhead_46 rfl rfl rfl
    · refine sim_iconst (v := 1) dX5_isAhead_23 (by decide) ?_
      refine sim_goto (tgt := 46) dX5_isAhead_24 (by decide) ?_
      exact sim_zret dX5_isAhead_46 rfl rfl rfl
  · refine sim_iload_n dX5_isAhead_31 rfl ?_
    refine sim_iconst (v := 2) dX5_isAhead_32 (by decide) ?_
    refine sim_icmp_ne (tgt := 45) dX5_isAhead_33 (by decide) ?_ ?_
    · refine sim_iload dX5_isAhead_36 rfl ?_
      refine sim_if_le (tgt := 45) dX5_isAhead_38 (by decide) ?_ ?_
      · refine sim_iconst (v := 0) dX5_isAhead_45 (by decide) ?_
        exact sim_zret dX5_isAhead_46 rfl rfl rfl
      · refine sim_iconst (v := 1) dX5_isAhead_41 (by decide) ?_
        refine sim_goto (tgt := 46) dX5_isAhead_42 (by decide) ?_
        exact sim_zret dX5_isAhead_46 rfl rfl rfl
    · refine sim_iconst (v := 0) dX5_isAhead_45 (by decide) ?_
      exact sim_zret dX5_isAhead_46 rfl rfl rfl

def bM_firstBy_5 (x1 : Int32) (s8 : Int32 → Int32 → Mem → Option (Int32 × Mem)) (x5 : Int32) (x6 : Int32) (m7 : Mem) : Option (Int32 × Mem) :=
  gd (inb 1 238) (if (m7 (5, 0, 1) (ix 1)) ≤ x6 then (some (x5, m7)) else (Option.bind (fM_against x6 m7) (fun q10 => if q10.1 = 0 then (if x5 = (-4) then (lt x6 (fun (x12 : Int32) => lt (x6 + 1) (fun (x13 : Int32) => s8 x12 x13 q10.2))) else (Option.bind (fM_isAhead x1 x6 x5 q10.2) (fun x14 => if x14 = 0 then (lt (x6 + 1) (fun (x15 : Int32) => s8 x5 x15 q10.2)) else (lt x6 (fun (x16 : Int32) => lt (x6 + 1) (fun (x17 : Int32) => s8 x16 x17 q10.2)))))) else (lt (x6 + 1) (fun (x11 : Int32) => s8 x5 x11 q10.2)))))
def fM_firstBy (x1 : Int32) (m2 : Mem) : Option (Int32 × Mem) :=
  lt (-4) (fun (x3 : Int32) => lt 0 (fun (x4 : Int32) => lz21 (bM_firstBy_5 x1) FU x3 x4 m2))
abbrev rm_M_firstBy : Room := { frames := 5, cells := 0, slots := 0, locals := 117 }
set_option maxRecDepth 4000 in
theorem sM_firstBy (X : Sc) (x1 : Int32) (m2 : Mem) : Sim X cX5_firstBy 4 (some .int) RX5 rm_M_firstBy (fun q : Int32 × Mem => q.1) (fun q : Int32 × Mem => q.2) 0 [(0, pR 5 0 0), (1, pI x1)] [] m2 (fM_firstBy x1 m2) := by
  unfold fM_firstBy
  refine sim_bipush (v := (-4)) dX5_firstBy_0 (by decide) ?_
  refine sim_istore_n (fun z => [(0, pR 5 0 0), (1, pI x1), (2, pI z)]) [1, 2, 0] dX5_firstBy_2 (by decide) (fun _ => rfl) (fun x3 => ?_)
  refine sim_iconst (v := 0) dX5_firstBy_3 (by decide) ?_
  refine sim_istore_n (fun z => [(0, pR 5 0 0), (1, pI x1), (2, pI x3), (3, pI z)]) [1, 2, 3, 0] dX5_firstBy_4 (by decide) (fun _ => rfl) (fun x4 => ?_)
  refine sim_lz21 (fun z0 z1 => [(0, pR 5 0 0), (1, pI x1), (2, pI z0), (3, pI z1)]) (fun s8 hs9 x5 x6 m7 => ?_) FU x3 x4 m2
  unfold bM_firstBy_5
  refine sim_iload_n dX5_firstBy_5 rfl ?_
  refine sim_aload_n dX5_firstBy_6 rfl ?_
  refine sim_get (v := pR 5 0 1) dX5_firstBy_7 fl_X5_7 (by decide) rfl ?_
  refine sim_iconst (v := 1) dX5_firstBy_10 (by decide) ?_
  refine sim_iald dX5_firstBy_11 rfl (by decide) ?_
  refine sim_icmp_ge (tgt := 47) dX5_firstBy_12 (by decide) ?_ ?_
  · refine sim_iload_n dX5_firstBy_47 rfl ?_
    exact sim_iret dX5_firstBy_48 rfl rfl
  · refine sim_aload_n dX5_firstBy_15 rfl ?_
    refine sim_iload_n dX5_firstBy_16 rfl ?_
    refine sim_callV (As := [pI x6]) (rest := []) (k0 := 0) dX5_firstBy_17 ln_X5_207 me_X5_against rfl (by decide) rfl (by decide) (Nat.le_of_ble_eq_true rfl) (Nat.le_of_ble_eq_true rfl) rfl (sM_against X x6 m7) (fun q10 => ?_)
    refine sim_if_ne (tgt := 41) dX5_firstBy_20 (by decide) ?_ ?_
    · refine sim_iload_n dX5_firstBy_23 rfl ?_
      refine sim_bipush (v := (-4)) dX5_firstBy_24 (by decide) ?_
      refine sim_icmp_eq (tgt := 39) dX5_firstBy_26 (by decide) ?_ ?_
      · refine sim_iload_n dX5_firstBy_39 rfl ?_
        refine sim_istore_n (fun z => [(0, pR 5 0 0), (1, pI x1), (2, pI z), (3, pI x6)]) [1, 2, 0, 3] dX5_firstBy_40 (by decide) (fun _ => rfl) (fun x12 => ?_)
        refine sim_iinc (y := 1) (fun z => [(0, pR 5 0 0), (1, pI x1), (2, pI x12), (3, pI z)]) [1, 2, 3, 0] dX5_firstBy_41 rfl (by decide) (by decide) (fun _ => rfl) (fun x13 => ?_)
        refine sim_goto (tgt := 5) dX5_firstBy_44 (by decide) ?_
        exact hs9 x12 x13 q10.2
      · refine sim_aload_n dX5_firstBy_29 rfl ?_
        refine sim_iload_n dX5_firstBy_30 rfl ?_
        refine sim_iload_n dX5_firstBy_31 rfl ?_
        refine sim_iload_n dX5_firstBy_32 rfl ?_
        refine sim_callV (As := [pI x1, pI x6, pI x5]) (rest := []) (k0 := 0) dX5_firstBy_33 ln_X5_253 me_X5_isAhead rfl (by decide) rfl (by decide) (Nat.le_of_ble_eq_true rfl) (Nat.le_of_ble_eq_true rfl) rfl (sM_isAhead X x1 x6 x5 q10.2) (fun x14 => ?_)
        refine sim_if_eq (tgt := 41) dX5_firstBy_36 (by decide) ?_ ?_
        · refine sim_iinc (y := 1) (fun z => [(0, pR 5 0 0), (1, pI x1), (2, pI x5), (3, pI z)]) [1, 2, 3, 0] dX5_firstBy_41 rfl (by decide) (by decide) (fun _ => rfl) (fun x15 => ?_)
          refine sim_goto (tgt := 5) dX5_firstBy_44 (by decide) ?_
          exact hs9 x5 x15 q10.2
        · refine sim_iload_n dX5_firstBy_39 rfl ?_
          refine sim_istore_n (fun z => [(0, pR 5 0 0), (1, pI x1), (2, pI z), (3, pI x6)]) [1, 2, 0, 3] dX5_firstBy_40 (by decide) (fun _ => rfl) (fun x16 => ?_)
          refine sim_iinc (y := 1) (fun z => [(0, pR 5 0 0), (1, pI x1), (2, pI x16), (3, pI z)]) [1, 2, 3, 0] dX5_firstBy_41 rfl (by decide) (by decide) (fun _ => rfl) (fun x17 => ?_)
          refine sim_goto (tgt := 5) dX5_firstBy_44 (by decide) ?_
          exact hs9 x16 x17 q10.2
    · refine sim_iinc (y := 1) (fun z => [(0, pR 5 0 0), (1, pI x1), (2, pI x5), (3, pI z)]) [1, 2, 3, 0] dX5_firstBy_41 rfl (by decide) (by decide) (fun _ => rfl) (fun x11 => ?_)
      refine sim_goto (tgt := 5) dX5_firstBy_44 (by decide) ?_
      exact hs9 x5 x11 q10.2

def bM_sends_8 (x1 : Int32) (s9 : Int32 → Int32 → Mem → Option (Int32 × Mem)) (x6 : Int32) (x7 : Int32) (m8 : Mem) : Option (Int32 × Mem) :=
  if x7 = (-4) then (some (x6, m8)) else (Option.bind (fM_goes x7 m8) (fun m11 => lt (x6 + 1) (fun (x12 : Int32) => Option.bind (fM_firstBy x1 m11) (fun q13 => lt q13.1 (fun (x14 : Int32) => s9 x12 x14 q13.2)))))
def fM_sends (x1 : Int32) (m2 : Mem) : Option (Int32 × Mem) :=
  lt 0 (fun (x3 : Int32) => Option.bind (fM_firstBy x1 m2) (fun q4 => lt q4.1 (fun (x5 : Int32) => lz21 (bM_sends_8 x1) FU x3 x5 q4.2)))
abbrev rm_M_sends : Room := { frames := 6, cells := 0, slots := 0, locals := 140 }
set_option maxRecDepth 4000 in
theorem sM_sends (X : Sc) (x1 : Int32) (m2 : Mem) : Sim X cX5_sends 4 (some .int) RX5 rm_M_sends (fun q : Int32 × Mem => q.1) (fun q : Int32 × Mem => q.2) 0 [(0, pR 5 0 0), (1, pI x1)] [] m2 (fM_sends x1 m2) := by
  unfold fM_sends
  refine sim_iconst (v := 0) dX5_sends_0 (by decide) ?_
  refine sim_istore_n (fun z => [(0, pR 5 0 0), (1, pI x1), (2, pI z)]) [1, 2, 0] dX5_sends_1 (by decide) (fun _ => rfl) (fun x3 => ?_)
  refine sim_aload_n dX5_sends_2 rfl ?_
  refine sim_iload_n dX5_sends_3 rfl ?_
  refine sim_callV (As := [pI x1]) (rest := []) (k0 := 0) dX5_sends_4 ln_X5_257 me_X5_firstBy rfl (by decide) rfl (by decide) (Nat.le_of_ble_eq_true rfl) (Nat.le_of_ble_eq_true rfl) rfl (sM_firstBy X x1 m2) (fun q4 => ?_)
  refine sim_istore_n (fun z => [(0, pR 5 0 0), (1, pI x1), (2, pI x3), (3, pI z)]) [1, 2, 3, 0] dX5_sends_7 (by decide) (fun _ => rfl) (fun x5 => ?_)
  refine sim_lz21 (fun z0 z1 => [(0, pR 5 0 0), (1, pI x1), (2, pI z0), (3, pI z1)]) (fun s9 hs10 x6 x7 m8 => ?_) FU x3 x5 q4.2
  unfold bM_sends_8
  refine sim_iload_n dX5_sends_8 rfl ?_
  refine sim_bipush (v := (-4)) dX5_sends_9 (by decide) ?_
  refine sim_icmp_eq (tgt := 31) dX5_sends_11 (by decide) ?_ ?_
  · refine sim_iload_n dX5_sends_31 rfl ?_
    exact sim_iret dX5_sends_32 rfl rfl
  · refine sim_aload_n dX5_sends_14 rfl ?_
    refine sim_iload_n dX5_sends_15 rfl ?_
    refine sim_callV (As := [pI x7]) (rest := []) (k0 := 0) dX5_sends_16 ln_X5_260 me_X5_goes rfl (by decide) rfl (by decide) (Nat.le_of_ble_eq_true rfl) (Nat.le_of_ble_eq_true rfl) rfl (sM_goes X x7 m8) (fun m11 => ?_)
    refine sim_iinc (y := 1) (fun z => [(0, pR 5 0 0), (1, pI x1), (2, pI z), (3, pI x7)]) [1, 2, 0, 3] dX5_sends_19 rfl (by decide) (by decide) (fun _ => rfl) (fun x12 => ?_)
    refine sim_aload_n dX5_sends_22 rfl ?_
    refine sim_iload_n dX5_sends_23 rfl ?_
    refine sim_callV (As := [pI x1]) (rest := []) (k0 := 0) dX5_sends_24 ln_X5_257 me_X5_firstBy rfl (by decide) rfl (by decide) (Nat.le_of_ble_eq_true rfl) (Nat.le_of_ble_eq_true rfl) rfl (sM_firstBy X x1 m11) (fun q13 => ?_)
    refine sim_istore_n (fun z => [(0, pR 5 0 0), (1, pI x1), (2, pI x12), (3, pI z)]) [1, 2, 3, 0] dX5_sends_27 (by decide) (fun _ => rfl) (fun x14 => ?_)
    refine sim_goto (tgt := 8) dX5_sends_28 (by decide) ?_
    exact hs10 x12 x14 q13.2

def jM_planned_119 (x2 : Int32) (m10 : Mem) (x14 : Int32) (x15 : Int32) (x16 : Int32) : Option (Int32 × Mem) :=
  Option.bind (fM_backBefore m10) (fun m17 => if x2 = 0 then (some (x14, m17)) else (some (x15, m17)))
def bM_planned_67 (x2 : Int32) (m10 : Mem) (s22 : Int32 → Int32 → Int32 → Option (Int32 × Mem)) (x19 : Int32) (x20 : Int32) (x21 : Int32) : Option (Int32 × Mem) :=
  gd (inb 1 238) (if (m10 (5, 0, 1) (ix 1)) ≤ x21 then (jM_planned_119 x2 m10 x19 x20 x21) else (Option.bind (fM_ofTrain x21 5 m10) (fun x24 => lt (x20 + x24) (fun (x25 : Int32) => Option.bind (fM_ofTrain x21 5 m10) (fun x26 => if x26 ≤ x19 then (lt x19 (fun (x27 : Int32) => lt (x21 + 1) (fun (x28 : Int32) => s22 x27 x25 x28))) else (Option.bind (fM_ofTrain x21 5 m10) (fun x29 => lt x29 (fun (x30 : Int32) => lt (x21 + 1) (fun (x31 : Int32) => s22 x30 x25 x31)))))))))
def jM_planned_59 (x2 : Int32) (x9 : Int32) (m10 : Mem) : Option (Int32 × Mem) :=
  lt 0 (fun (x11 : Int32) => lt 0 (fun (x12 : Int32) => lt 0 (fun (x13 : Int32) => lz30 (bM_planned_67 x2 m10) FU x11 x12 x13)))
def bM_planned_20 (x1 : Int32) (x2 : Int32) (s35 : Int32 → Mem → Option (Int32 × Mem)) (x33 : Int32) (m34 : Mem) : Option (Int32 × Mem) :=
  if 2000 ≤ x33 then (jM_planned_59 x2 x33 m34) else (Option.bind (fM_withStatus 2 m34) (fun x37 => gd (inb 1 238) (if (m34 (5, 0, 1) (ix 1)) ≤ x37 then (jM_planned_59 x2 x33 m34) else (Option.bind (fM_goesOn 1 m34) (fun q38 => Option.bind (fM_sends x1 q38.2) (fun q39 => lt (x33 + 1) (fun (x40 : Int32) => s35 x40 q39.2)))))))
def fM_planned (x1 : Int32) (x2 : Int32) (m3 : Mem) : Option (Int32 × Mem) :=
  Option.bind (fM_keepBefore m3) (fun m4 => Option.bind (fM_postureNow m4) (fun x5 => Option.bind (fM_explore x5 m4) (fun m6 => Option.bind (fM_sends x1 m6) (fun q7 => lt 0 (fun (x8 : Int32) => lz11 (bM_planned_20 x1 x2) FU x8 q7.2)))))
abbrev rm_M_planned : Room := { frames := 7, cells := 0, slots := 0, locals := 163 }
set_option maxRecDepth 4000 in
theorem sM_planned (X : Sc) (x1 : Int32) (x2 : Int32) (m3 : Mem) : Sim X cX5_planned 6 (some .int) RX5 rm_M_planned (fun q : Int32 × Mem => q.1) (fun q : Int32 × Mem => q.2) 0 [(0, pR 5 0 0), (1, pI x1), (2, pI x2)] [] m3 (fM_planned x1 x2 m3) := by
  unfold fM_planned
  refine sim_aload_n dX5_planned_0 rfl ?_
  refine sim_callV (As := []) (rest := []) (k0 := 0) dX5_planned_1 ln_X5_142 me_X5_keepBefore rfl (by decide) rfl (by decide) (Nat.le_of_ble_eq_true rfl) (Nat.le_of_ble_eq_true rfl) rfl (sM_keepBefore X m3) (fun m4 => ?_)
  refine sim_aload_n dX5_planned_4 rfl ?_
  refine sim_aload_n dX5_planned_5 rfl ?_
  refine sim_callV (As := []) (rest := [pR 5 0 0]) (k0 := 0) dX5_planned_6 ln_X5_126 me_X5_postureNow rfl (by decide) rfl (by decide) (Nat.le_of_ble_eq_true rfl) (Nat.le_of_ble_eq_true rfl) rfl (sM_postureNow X m4) (fun x5 => ?_)
  refine sim_callV (As := [pI x5]) (rest := []) (k0 := 0) dX5_planned_9 ln_X5_136 me_X5_explore rfl (by decide) rfl (by decide) (Nat.le_of_ble_eq_true rfl) (Nat.le_of_ble_eq_true rfl) rfl (sM_explore X x5 m4) (fun m6 => ?_)
  refine sim_aload_n dX5_planned_12 rfl ?_
  refine sim_iload_n dX5_planned_13 rfl ?_
  refine sim_callV (As := [pI x1]) (rest := []) (k0 := 0) dX5_planned_14 ln_X5_263 me_X5_sends rfl (by decide) rfl (by decide) (Nat.le_of_ble_eq_true rfl) (Nat.le_of_ble_eq_true rfl) rfl (sM_sends X x1 m6) (fun q7 => ?_)
  refine sim_pop dX5_planned_17 rfl ?_
  refine sim_iconst (v := 0) dX5_planned_18 (by decide) ?_
  refine sim_istore_n (fun z => [(0, pR 5 0 0), (1, pI x1), (2, pI x2), (3, pI z)]) [1, 2, 3, 0] dX5_planned_19 (by decide) (fun _ => rfl) (fun x8 => ?_)
  have hJ32 : ∀ (x9 : Int32) (m10 : Mem), Sim X cX5_planned 6 (some .int) RX5 rm_M_planned (fun q : Int32 × Mem => q.1) (fun q : Int32 × Mem => q.2) 59 [(0, pR 5 0 0), (1, pI x1), (2, pI x2), (3, pI x9)] [] m10 (jM_planned_59 x2 x9 m10) := by
    intro x9 m10
    unfold jM_planned_59
    refine sim_iconst (v := 0) dX5_planned_59 (by decide) ?_
    refine sim_istore_n (fun z => [(0, pR 5 0 0), (1, pI x1), (2, pI x2), (3, pI z)]) [1, 2, 3, 0] dX5_planned_60 (by decide) (fun _ => rfl) (fun x11 => ?_)
    refine sim_iconst (v := 0) dX5_planned_61 (by decide) ?_
    refine sim_istore (fun z => [(0, pR 5 0 0), (1, pI x1), (2, pI x2), (3, pI x11), (4, pI z)]) [1, 2, 3, 4, 0] dX5_planned_62 (by decide) (fun _ => rfl) (fun x12 => ?_)
    refine sim_iconst (v := 0) dX5_planned_64 (by decide) ?_
    refine sim_istore (fun z => [(0, pR 5 0 0), (1, pI x1), (2, pI x2), (3, pI x11), (4, pI x12), (5, pI z)]) [1, 2, 3, 4, 5, 0] dX5_planned_65 (by decide) (fun _ => rfl) (fun x13 => ?_)
    have hJ18 : ∀ (x14 : Int32) (x15 : Int32) (x16 : Int32), Sim X cX5_planned 6 (some .int) RX5 rm_M_planned (fun q : Int32 × Mem => q.1) (fun q : Int32 × Mem => q.2) 119 [(0, pR 5 0 0), (1, pI x1), (2, pI x2), (3, pI x14), (4, pI x15), (5, pI x16)] [] m10 (jM_planned_119 x2 m10 x14 x15 x16) := by
      intro x14 x15 x16
      unfold jM_planned_119
      refine sim_aload_n dX5_planned_119 rfl ?_
      refine sim_callV (As := []) (rest := []) (k0 := 0) dX5_planned_120 ln_X5_155 me_X5_backBefore rfl (by decide) rfl (by decide) (Nat.le_of_ble_eq_true rfl) (Nat.le_of_ble_eq_true rfl) rfl (sM_backBefore X m10) (fun m17 => ?_)
      refine sim_iload_n dX5_planned_123 rfl ?_
      refine sim_if_ne (tgt := 131) dX5_planned_124 (by decide) ?_ ?_
      · refine sim_iload_n dX5_planned_127 rfl ?_
        refine sim_goto (tgt := 133) dX5_planned_128 (by decide) ?_
        exact sim_iret dX5_planned_133 rfl rfl
      · refine sim_iload dX5_planned_131 rfl ?_
        exact sim_iret dX5_planned_133 rfl rfl
    refine sim_lz30 (fun z0 z1 z2 => [(0, pR 5 0 0), (1, pI x1), (2, pI x2), (3, pI z0), (4, pI z1), (5, pI z2)]) (fun s22 hs23 x19 x20 x21 => ?_) FU x11 x12 x13
    unfold bM_planned_67
    refine sim_iload dX5_planned_67 rfl ?_
    refine sim_aload_n dX5_planned_69 rfl ?_
    refine sim_get (v := pR 5 0 1) dX5_planned_70 fl_X5_7 (by decide) rfl ?_
    refine sim_iconst (v := 1) dX5_planned_73 (by decide) ?_
    refine sim_iald dX5_planned_74 rfl (by decide) ?_
    refine sim_icmp_ge (tgt := 119) dX5_planned_75 (by decide) ?_ ?_
    · exact hJ18 x19 x20 x21
    · refine sim_iload dX5_planned_78 rfl ?_
      refine sim_aload_n dX5_planned_80 rfl ?_
      refine sim_iload dX5_planned_81 rfl ?_
      refine sim_iconst (v := 5) dX5_planned_83 (by decide) ?_
      refine sim_callV (As := [pI x21, pI 5]) (rest := [pI x20]) (k0 := 0) dX5_planned_84 ln_X5_122 me_X5_ofTrain rfl (by decide) rfl (by decide) (Nat.le_of_ble_eq_true rfl) (Nat.le_of_ble_eq_true rfl) rfl (sM_ofTrain X x21 5 m10) (fun x24 => ?_)
      refine sim_iadd dX5_planned_87 ?_
      refine sim_istore (fun z => [(0, pR 5 0 0), (1, pI x1), (2, pI x2), (3, pI x19), (4, pI z), (5, pI x21)]) [1, 2, 3, 4, 0, 5] dX5_planned_88 (by decide) (fun _ => rfl) (fun x25 => ?_)
      refine sim_aload_n dX5_planned_90 rfl ?_
      refine sim_iload dX5_planned_91 rfl ?_
      refine sim_iconst (v := 5) dX5_planned_93 (by decide) ?_
      refine sim_callV (As := [pI x21, pI 5]) (rest := []) (k0 := 0) dX5_planned_94 ln_X5_122 me_X5_ofTrain rfl (by decide) rfl (by decide) (Nat.le_of_ble_eq_true rfl) (Nat.le_of_ble_eq_true rfl) rfl (sM_ofTrain X x21 5 m10) (fun x26 => ?_)
      refine sim_iload_n dX5_planned_97 rfl ?_
      refine sim_icmp_le (tgt := 111) dX5_planned_98 (by decide) ?_ ?_
      · refine sim_iload_n dX5_planned_111 rfl ?_
        refine sim_istore_n (fun z => [(0, pR 5 0 0), (1, pI x1), (2, pI x2), (3, pI z), (4, pI x25), (5, pI x21)]) [1, 2, 3, 0, 4, 5] dX5_planned_112 (by decide) (fun _ => rfl) (fun x27 => ?_)
        refine sim_iinc (y := 1) (fun z => [(0, pR 5 0 0), (1, pI x1), (2, pI x2), (3, pI x27), (4, pI x25), (5, pI z)]) [1, 2, 3, 4, 5, 0] dX5_planned_113 rfl (by decide) (by decide) (fun _ => rfl) (fun x28 => ?_)
        refine sim_goto (tgt := 67) dX5_planned_116 (by decide) ?_
        exact hs23 x27 x25 x28
      · refine sim_aload_n dX5_planned_101 rfl ?_
        refine sim_iload dX5_planned_102 rfl ?_
        refine sim_iconst (v := 5) dX5_planned_104 (by decide) ?_
        refine sim_callV (As := [pI x21, pI 5]) (rest := []) (k0 := 0) dX5_planned_105 ln_X5_122 me_X5_ofTrain rfl (by decide) rfl (by decide) (Nat.le_of_ble_eq_true rfl) (Nat.le_of_ble_eq_true rfl) rfl (sM_ofTrain X x21 5 m10) (fun x29 => ?_)
        refine sim_goto (tgt := 112) dX5_planned_108 (by decide) ?_
        refine sim_istore_n (fun z => [(0, pR 5 0 0), (1, pI x1), (2, pI x2), (3, pI z), (4, pI x25), (5, pI x21)]) [1, 2, 3, 0, 4, 5] dX5_planned_112 (by decide) (fun _ => rfl) (fun x30 => ?_)
        refine sim_iinc (y := 1) (fun z => [(0, pR 5 0 0), (1, pI x1), (2, pI x2), (3, pI x30), (4, pI x25), (5, pI z)]) [1, 2, 3, 4, 5, 0] dX5_planned_113 rfl (by decide) (by decide) (fun _ => rfl) (fun x31 => ?_)
        refine sim_goto (tgt := 67) dX5_planned_116 (by decide) ?_
        exact hs23 x30 x25 x31
  refine sim_lz11 (fun z0 => [(0, pR 5 0 0), (1, pI x1), (2, pI x2), (3, pI z0)]) (fun s35 hs36 x33 m34 => ?_) FU x8 q7.2
  unfold bM_planned_20
  refine sim_iload_n dX5_planned_20 rfl ?_
  refine sim_sipush (v := 2000) dX5_planned_21 (by decide) ?_
  refine sim_icmp_ge (tgt := 59) dX5_planned_24 (by decide) ?_ ?_
  · exact hJ32 x33 m34
  · refine sim_aload_n dX5_planned_27 rfl ?_
    refine sim_iconst (v := 2) dX5_planned_28 (by decide) ?_
    refine sim_callV (As := [pI 2]) (rest := []) (k0 := 0) dX5_planned_29 ln_X5_210 me_X5_withStatus rfl (by decide) rfl (by decide) (Nat.le_of_ble_eq_true rfl) (Nat.le_of_ble_eq_true rfl) rfl (sM_withStatus X 2 m34) (fun x37 => ?_)
    refine sim_aload_n dX5_planned_32 rfl ?_
    refine sim_get (v := pR 5 0 1) dX5_planned_33 fl_X5_7 (by decide) rfl ?_
    refine sim_iconst (v := 1) dX5_planned_36 (by decide) ?_
    refine sim_iald dX5_planned_37 rfl (by decide) ?_
    refine sim_icmp_ge (tgt := 59) dX5_planned_38 (by decide) ?_ ?_
    · exact hJ32 x33 m34
    · refine sim_aload_n dX5_planned_41 rfl ?_
      refine sim_iconst (v := 1) dX5_planned_42 (by decide) ?_
      refine sim_callV (As := [pI 1]) (rest := []) (k0 := 0) dX5_planned_43 ln_X5_266 me_X5_goesOn rfl (by decide) rfl (by decide) (Nat.le_of_ble_eq_true rfl) (Nat.le_of_ble_eq_true rfl) rfl (sM_goesOn X 1 m34) (fun q38 => ?_)
      refine sim_pop dX5_planned_46 rfl ?_
      refine sim_aload_n dX5_planned_47 rfl ?_
      refine sim_iload_n dX5_planned_48 rfl ?_
      refine sim_callV (As := [pI x1]) (rest := []) (k0 := 0) dX5_planned_49 ln_X5_263 me_X5_sends rfl (by decide) rfl (by decide) (Nat.le_of_ble_eq_true rfl) (Nat.le_of_ble_eq_true rfl) rfl (sM_sends X x1 q38.2) (fun q39 => ?_)
      refine sim_pop dX5_planned_52 rfl ?_
      refine sim_iinc (y := 1) (fun z => [(0, pR 5 0 0), (1, pI x1), (2, pI x2), (3, pI z)]) [1, 2, 3, 0] dX5_planned_53 rfl (by decide) (by decide) (fun _ => rfl) (fun x40 => ?_)
      refine sim_goto (tgt := 20) dX5_planned_56 (by decide) ?_
      exact hs36 x40 q39.2

def fM_plan (x1 : Int32) (x2 : Int32) (m3 : Mem) : Option (Int32 × Mem) :=
  Option.bind (fM_in x1.toInt64 (0 : Int64) (2 : Int64) m3) (fun x4 => if x4 = 0 then (some ((-1), m3)) else (Option.bind (fM_in x2.toInt64 (0 : Int64) (1 : Int64) m3) (fun x5 => if x5 = 0 then (some ((-1), m3)) else (Option.bind (fM_planned x1 x2 m3) (fun q6 => some (q6.1, q6.2))))))
abbrev rm_M_plan : Room := { frames := 8, cells := 0, slots := 0, locals := 188 }
set_option maxRecDepth 4000 in
theorem sM_plan (X : Sc) (x1 : Int32) (x2 : Int32) (m3 : Mem) : Sim X cX5_plan 3 (some .int) RX5 rm_M_plan (fun q : Int32 × Mem => q.1) (fun q : Int32 × Mem => q.2) 0 [(0, pR 5 0 0), (1, pI x1), (2, pI x2)] [] m3 (fM_plan x1 x2 m3) := by
  unfold fM_plan
  refine sim_iload_n dX5_plan_0 rfl ?_
  refine sim_i2l dX5_plan_1 ?_
  refine sim_lconst (v := 0) dX5_plan_2 (by decide) ?_
  refine sim_ldc2 (v := 2) dX5_plan_3 kl_X5_269 ?_
  refine sim_callS (As := [pL x1.toInt64, pL (0 : Int64), pL (2 : Int64)]) (rest := []) dX5_plan_6 ln_X5_55 me_X5_in rfl (by decide) (Nat.le_of_ble_eq_true rfl) (Nat.le_of_ble_eq_true rfl) rfl (sM_in X x1.toInt64 (0 : Int64) (2 : Int64) m3) (fun x4 => ?_)
  refine sim_if_eq (tgt := 31) dX5_plan_9 (by decide) ?_ ?_
  · refine sim_iconst (v := (-1)) dX5_plan_31 (by decide) ?_
    exact sim_iret dX5_plan_32 rfl rfl
  · refine sim_iload_n dX5_plan_12 rfl ?_
    refine sim_i2l dX5_plan_13 ?_
    refine sim_lconst (v := 0) dX5_plan_14 (by decide) ?_
    refine sim_lconst (v := 1) dX5_plan_15 (by decide) ?_
    refine sim_callS (As := [pL x2.toInt64, pL (0 : Int64), pL (1 : Int64)]) (rest := []) dX5_plan_16 ln_X5_55 me_X5_in rfl (by decide) (Nat.le_of_ble_eq_true rfl) (Nat.le_of_ble_eq_true rfl) rfl (sM_in X x2.toInt64 (0 : Int64) (1 : Int64) m3) (fun x5 => ?_)
    refine sim_if_eq (tgt := 31) dX5_plan_19 (by decide) ?_ ?_
    · refine sim_iconst (v := (-1)) dX5_plan_31 (by decide) ?_
      exact sim_iret dX5_plan_32 rfl rfl
    · refine sim_aload_n dX5_plan_22 rfl ?_
      refine sim_iload_n dX5_plan_23 rfl ?_
      refine sim_iload_n dX5_plan_24 rfl ?_
      refine sim_callV (As := [pI x1, pI x2]) (rest := []) (k0 := 0) dX5_plan_25 ln_X5_271 me_X5_planned rfl (by decide) rfl (by decide) (Nat.le_of_ble_eq_true rfl) (Nat.le_of_ble_eq_true rfl) rfl (sM_planned X x1 x2 m3) (fun q6 => ?_)
      refine sim_goto (tgt := 32) dX5_plan_28 (by decide) ?_
      exact sim_iret dX5_plan_32 rfl rfl

def bM_best_23 (s10 : Int32 → Int32 → Int32 → Mem → Option (Int32 × Mem)) (x6 : Int32) (x7 : Int32) (x8 : Int32) (m9 : Mem) : Option (Int32 × Mem) :=
  if 3 ≤ x8 then (some (x6, m9)) else (Option.bind (fM_planned x8 1 m9) (fun q12 => lt q12.1 (fun (x13 : Int32) => if x7 ≤ x13 then (lt (x8 + 1) (fun (x14 : Int32) => s10 x6 x7 x14 q12.2)) else (lt x8 (fun (x15 : Int32) => lt x13 (fun (x16 : Int32) => lt (x8 + 1) (fun (x17 : Int32) => s10 x15 x16 x17 q12.2)))))))
def fM_best (m1 : Mem) : Option (Int32 × Mem) :=
  gd (inb 1 238) (if (m1 (5, 0, 1) (ix 1)) = 0 then (some ((-4), m1)) else (lt 0 (fun (x2 : Int32) => Option.bind (fM_planned 0 1 m1) (fun q3 => lt q3.1 (fun (x4 : Int32) => lt 1 (fun (x5 : Int32) => lz31 (bM_best_23) FU x2 x4 x5 q3.2))))))
abbrev rm_M_best : Room := { frames := 8, cells := 0, slots := 0, locals := 188 }
set_option maxRecDepth 4000 in
theorem sM_best (X : Sc) (m1 : Mem) : Sim X cX5_best 5 (some .int) RX5 rm_M_best (fun q : Int32 × Mem => q.1) (fun q : Int32 × Mem => q.2) 0 [(0, pR 5 0 0)] [] m1 (fM_best m1) := by
  unfold fM_best
  refine sim_aload_n dX5_best_0 rfl ?_
  refine sim_get (v := pR 5 0 1) dX5_best_1 fl_X5_7 (by decide) rfl ?_
  refine sim_iconst (v := 1) dX5_best_4 (by decide) ?_
  refine sim_iald dX5_best_5 rfl (by decide) ?_
  refine sim_if_ne (tgt := 12) dX5_best_6 (by decide) ?_ ?_
  · refine sim_bipush (v := (-4)) dX5_best_9 (by decide) ?_
    exact sim_iret dX5_best_11 rfl rfl
  · refine sim_iconst (v := 0) dX5_best_12 (by decide) ?_
    refine sim_istore_n (fun z => [(0, pR 5 0 0), (1, pI z)]) [1, 0] dX5_best_13 (by decide) (fun _ => rfl) (fun x2 => ?_)
    refine sim_aload_n dX5_best_14 rfl ?_
    refine sim_iconst (v := 0) dX5_best_15 (by decide) ?_
    refine sim_iconst (v := 1) dX5_best_16 (by decide) ?_
    refine sim_callV (As := [pI 0, pI 1]) (rest := []) (k0 := 0) dX5_best_17 ln_X5_271 me_X5_planned rfl (by decide) rfl (by decide) (Nat.le_of_ble_eq_true rfl) (Nat.le_of_ble_eq_true rfl) rfl (sM_planned X 0 1 m1) (fun q3 => ?_)
    refine sim_istore_n (fun z => [(0, pR 5 0 0), (1, pI x2), (2, pI z)]) [1, 2, 0] dX5_best_20 (by decide) (fun _ => rfl) (fun x4 => ?_)
    refine sim_iconst (v := 1) dX5_best_21 (by decide) ?_
    refine sim_istore_n (fun z => [(0, pR 5 0 0), (1, pI x2), (2, pI x4), (3, pI z)]) [1, 2, 3, 0] dX5_best_22 (by decide) (fun _ => rfl) (fun x5 => ?_)
    refine sim_lz31 (fun z0 z1 z2 => [(0, pR 5 0 0), (1, pI z0), (2, pI z1), (3, pI z2)]) (fun s10 hs11 x6 x7 x8 m9 => ?_) FU x2 x4 x5 q3.2
    unfold bM_best_23
    refine sim_iload_n dX5_best_23 rfl ?_
    refine sim_iconst (v := 3) dX5_best_24 (by decide) ?_
    refine sim_icmp_ge (tgt := 53) dX5_best_25 (by decide) ?_ ?_
    · refine sim_iload_n dX5_best_53 rfl ?_
      exact sim_iret dX5_best_54 rfl rfl
    · refine sim_aload_n dX5_best_28 rfl ?_
      refine sim_iload_n dX5_best_29 rfl ?_
      refine sim_iconst (v := 1) dX5_best_30 (by decide) ?_
      refine sim_callV (As := [pI x8, pI 1]) (rest := []) (k0 := 0) dX5_best_31 ln_X5_271 me_X5_planned rfl (by decide) rfl (by decide) (Nat.le_of_ble_eq_true rfl) (Nat.le_of_ble_eq_true rfl) rfl (sM_planned X x8 1 m9) (fun q12 => ?_)
      refine sim_istore (fun z => [(0, pR 5 0 0), (1, pI x6), (2, pI x7), (3, pI x8), (4, pI z)]) [1, 2, 3, 4, 0] dX5_best_34 (by decide) (fun _ => rfl) (fun x13 => ?_)
      refine sim_iload dX5_best_36 rfl ?_
      refine sim_iload_n dX5_best_38 rfl ?_
      refine sim_icmp_ge (tgt := 47) dX5_best_39 (by decide) ?_ ?_
      · refine sim_iinc (y := 1) (fun z => [(0, pR 5 0 0), (1, pI x6), (2, pI x7), (3, pI z), (4, pI x13)]) [1, 2, 3, 0, 4] dX5_best_47 rfl (by decide) (by decide) (fun _ => rfl) (fun x14 => ?_)
        refine sim_goto (tgt := 23) dX5_best_50 (by decide) ?_
        refine sim_pick [(0, pR 5 0 0), (1, pI x6), (2, pI x7), (3, pI x14)] [0, 1, 2, 3] rfl ?_
        exact hs11 x6 x7 x14 q12.2
      · refine sim_iload_n dX5_best_42 rfl ?_
        refine sim_istore_n (fun z => [(0, pR 5 0 0), (1, pI z), (2, pI x7), (3, pI x8), (4, pI x13)]) [1, 0, 2, 3, 4] dX5_best_43 (by decide) (fun _ => rfl) (fun x15 => ?_)
        refine sim_iload dX5_best_44 rfl ?_
        refine sim_istore_n (fun z => [(0, pR 5 0 0), (1, pI x15), (2, pI z), (3, pI x8), (4, pI x13)]) [1, 2, 0, 3, 4] dX5_best_46 (by decide) (fun _ => rfl) (fun x16 => ?_)
        refine sim_iinc (y := 1) (fun z => [(0, pR 5 0 0), (1, pI x15), (2, pI x16), (3, pI z), (4, pI x13)]) [1, 2, 3, 0, 4] dX5_best_47 rfl (by decide) (by decide) (fun _ => rfl) (fun x17 => ?_)
        refine sim_goto (tgt := 23) dX5_best_50 (by decide) ?_
        refine sim_pick [(0, pR 5 0 0), (1, pI x15), (2, pI x16), (3, pI x17)] [0, 1, 2, 3] rfl ?_
        exact hs11 x15 x16 x17 q12.2

def fM_let (x1 : Int32) (m2 : Mem) : Option (Int32 × Mem) :=
  Option.bind (fM_isTrain x1 m2) (fun x3 => if x3 = 0 then (some ((-1), m2)) else (Option.bind (fM_postureNow m2) (fun x4 => Option.bind (fM_explore x4 m2) (fun m5 => Option.bind (fM_against x1 m5) (fun q6 => if q6.1 = 0 then (Option.bind (fM_goes x1 q6.2) (fun m7 => Option.bind (fM_ofTrain x1 5 m7) (fun x8 => some (x8, m7)))) else (some ((-2), q6.2)))))))
abbrev rm_M_let : Room := { frames := 5, cells := 0, slots := 0, locals := 119 }
set_option maxRecDepth 4000 in
theorem sM_let (X : Sc) (x1 : Int32) (m2 : Mem) : Sim X cX5_let 2 (some .int) RX5 rm_M_let (fun q : Int32 × Mem => q.1) (fun q : Int32 × Mem => q.2) 0 [(0, pR 5 0 0), (1, pI x1)] [] m2 (fM_let x1 m2) := by
  unfold fM_let
  refine sim_aload_n dX5_let_0 rfl ?_
  refine sim_iload_n dX5_let_1 rfl ?_
  refine sim_callV (As := [pI x1]) (rest := []) (k0 := 0) dX5_let_2 ln_X5_231 me_X5_isTrain rfl (by decide) rfl (by decide) (Nat.le_of_ble_eq_true rfl) (Nat.le_of_ble_eq_true rfl) rfl (sM_isTrain X x1 m2) (fun x3 => ?_)
  refine sim_if_ne (tgt := 10) dX5_let_5 (by decide) ?_ ?_
  · refine sim_iconst (v := (-1)) dX5_let_8 (by decide) ?_
    exact sim_iret dX5_let_9 rfl rfl
  · refine sim_aload_n dX5_let_10 rfl ?_
    refine sim_aload_n dX5_let_11 rfl ?_
    refine sim_callV (As := []) (rest := [pR 5 0 0]) (k0 := 0) dX5_let_12 ln_X5_126 me_X5_postureNow rfl (by decide) rfl (by decide) (Nat.le_of_ble_eq_true rfl) (Nat.le_of_ble_eq_true rfl) rfl (sM_postureNow X m2) (fun x4 => ?_)
    refine sim_callV (As := [pI x4]) (rest := []) (k0 := 0) dX5_let_15 ln_X5_136 me_X5_explore rfl (by decide) rfl (by decide) (Nat.le_of_ble_eq_true rfl) (Nat.le_of_ble_eq_true rfl) rfl (sM_explore X x4 m2) (fun m5 => ?_)
    refine sim_aload_n dX5_let_18 rfl ?_
    refine sim_iload_n dX5_let_19 rfl ?_
    refine sim_callV (As := [pI x1]) (rest := []) (k0 := 0) dX5_let_20 ln_X5_207 me_X5_against rfl (by decide) rfl (by decide) (Nat.le_of_ble_eq_true rfl) (Nat.le_of_ble_eq_true rfl) rfl (sM_against X x1 m5) (fun q6 => ?_)
    refine sim_if_eq (tgt := 29) dX5_let_23 (by decide) ?_ ?_
    · refine sim_aload_n dX5_let_29 rfl ?_
      refine sim_iload_n dX5_let_30 rfl ?_
      refine sim_callV (As := [pI x1]) (rest := []) (k0 := 0) dX5_let_31 ln_X5_260 me_X5_goes rfl (by decide) rfl (by decide) (Nat.le_of_ble_eq_true rfl) (Nat.le_of_ble_eq_true rfl) rfl (sM_goes X x1 q6.2) (fun m7 => ?_)
      refine sim_aload_n dX5_let_34 rfl ?_
      refine sim_iload_n dX5_let_35 rfl ?_
      refine sim_iconst (v := 5) dX5_let_36 (by decide) ?_
      refine sim_callV (As := [pI x1, pI 5]) (rest := []) (k0 := 0) dX5_let_37 ln_X5_122 me_X5_ofTrain rfl (by decide) rfl (by decide) (Nat.le_of_ble_eq_true rfl) (Nat.le_of_ble_eq_true rfl) rfl (sM_ofTrain X x1 5 m7) (fun x8 => ?_)
      exact sim_iret dX5_let_40 rfl rfl
    · refine sim_bipush (v := (-2)) dX5_let_26 (by decide) ?_
      exact sim_iret dX5_let_28 rfl rfl

def fM_tick (x1 : Int32) (m2 : Mem) : Option (Int32 × Mem) :=
  Option.bind (fM_in x1.toInt64 (1 : Int64) (60 : Int64) m2) (fun x3 => if x3 = 0 then (some ((-1), m2)) else (Option.bind (fM_goesOn x1 m2) (fun q4 => some (q4.1, q4.2))))
abbrev rm_M_tick : Room := { frames := 1, cells := 0, slots := 0, locals := 25 }
set_option maxRecDepth 4000 in
theorem sM_tick (X : Sc) (x1 : Int32) (m2 : Mem) : Sim X cX5_tick 2 (some .int) RX5 rm_M_tick (fun q : Int32 × Mem => q.1) (fun q : Int32 × Mem => q.2) 0 [(0, pR 5 0 0), (1, pI x1)] [] m2 (fM_tick x1 m2) := by
  unfold fM_tick
  refine sim_iload_n dX5_tick_0 rfl ?_
  refine sim_i2l dX5_tick_1 ?_
  refine sim_lconst (v := 1) dX5_tick_2 (by decide) ?_
  refine sim_ldc2 (v := 60) dX5_tick_3 kl_X5_274 ?_
  refine sim_callS (As := [pL x1.toInt64, pL (1 : Int64), pL (60 : Int64)]) (rest := []) dX5_tick_6 ln_X5_55 me_X5_in rfl (by decide) (Nat.le_of_ble_eq_true rfl) (Nat.le_of_ble_eq_true rfl) rfl (sM_in X x1.toInt64 (1 : Int64) (60 : Int64) m2) (fun x3 => ?_)
  refine sim_if_eq (tgt := 20) dX5_tick_9 (by decide) ?_ ?_
  · refine sim_iconst (v := (-1)) dX5_tick_20 (by decide) ?_
    exact sim_iret dX5_tick_21 rfl rfl
  · refine sim_aload_n dX5_tick_12 rfl ?_
    refine sim_iload_n dX5_tick_13 rfl ?_
    refine sim_callV (As := [pI x1]) (rest := []) (k0 := 0) dX5_tick_14 ln_X5_266 me_X5_goesOn rfl (by decide) rfl (by decide) (Nat.le_of_ble_eq_true rfl) (Nat.le_of_ble_eq_true rfl) rfl (sM_goesOn X x1 m2) (fun q4 => ?_)
    refine sim_goto (tgt := 21) dX5_tick_17 (by decide) ?_
    exact sim_iret dX5_tick_21 rfl rfl

def fM_send (x1 : Int32) (m2 : Mem) : Option (Int32 × Mem) :=
  Option.bind (fM_in x1.toInt64 (0 : Int64) (2 : Int64) m2) (fun x3 => if x3 = 0 then (some ((-1), m2)) else (Option.bind (fM_postureNow m2) (fun x4 => Option.bind (fM_explore x4 m2) (fun m5 => Option.bind (fM_sends x1 m5) (fun q6 => some (q6.1, q6.2))))))
abbrev rm_M_send : Room := { frames := 7, cells := 0, slots := 0, locals := 163 }
set_option maxRecDepth 4000 in
theorem sM_send (X : Sc) (x1 : Int32) (m2 : Mem) : Sim X cX5_send 2 (some .int) RX5 rm_M_send (fun q : Int32 × Mem => q.1) (fun q : Int32 × Mem => q.2) 0 [(0, pR 5 0 0), (1, pI x1)] [] m2 (fM_send x1 m2) := by
  unfold fM_send
  refine sim_iload_n dX5_send_0 rfl ?_
  refine sim_i2l dX5_send_1 ?_
  refine sim_lconst (v := 0) dX5_send_2 (by decide) ?_
  refine sim_ldc2 (v := 2) dX5_send_3 kl_X5_269 ?_
  refine sim_callS (As := [pL x1.toInt64, pL (0 : Int64), pL (2 : Int64)]) (rest := []) dX5_send_6 ln_X5_55 me_X5_in rfl (by decide) (Nat.le_of_ble_eq_true rfl) (Nat.le_of_ble_eq_true rfl) rfl (sM_in X x1.toInt64 (0 : Int64) (2 : Int64) m2) (fun x3 => ?_)
  refine sim_if_ne (tgt := 14) dX5_send_9 (by decide) ?_ ?_
  · refine sim_iconst (v := (-1)) dX5_send_12 (by decide) ?_
    exact sim_iret dX5_send_13 rfl rfl
  · refine sim_aload_n dX5_send_14 rfl ?_
    refine sim_aload_n dX5_send_15 rfl ?_
    refine sim_callV (As := []) (rest := [pR 5 0 0]) (k0 := 0) dX5_send_16 ln_X5_126 me_X5_postureNow rfl (by decide) rfl (by decide) (Nat.le_of_ble_eq_true rfl) (Nat.le_of_ble_eq_true rfl) rfl (sM_postureNow X m2) (fun x4 => ?_)
    refine sim_callV (As := [pI x4]) (rest := []) (k0 := 0) dX5_send_19 ln_X5_136 me_X5_explore rfl (by decide) rfl (by decide) (Nat.le_of_ble_eq_true rfl) (Nat.le_of_ble_eq_true rfl) rfl (sM_explore X x4 m2) (fun m5 => ?_)
    refine sim_aload_n dX5_send_22 rfl ?_
    refine sim_iload_n dX5_send_23 rfl ?_
    refine sim_callV (As := [pI x1]) (rest := []) (k0 := 0) dX5_send_24 ln_X5_263 me_X5_sends rfl (by decide) rfl (by decide) (Nat.le_of_ble_eq_true rfl) (Nat.le_of_ble_eq_true rfl) rfl (sM_sends X x1 m5) (fun q6 => ?_)
    exact sim_iret dX5_send_27 rfl rfl

def fM_journal (x1 : Int32) (x2 : Int32) (m3 : Mem) : Option Int32 :=
  if x1 < 0 then (some (-1)) else (Option.bind (fM_in x2.toInt64 (0 : Int64) (2 : Int64) m3) (fun x4 => if x4 = 0 then (some (-1)) else (gd (inb 3 238) (if (m3 (5, 0, 1) (ix 3)) ≤ x1 then (some (-4)) else (Option.bind (fM_entry x1 x2 m3) (fun x5 => some x5))))))
abbrev rm_M_journal : Room := { frames := 1, cells := 0, slots := 0, locals := 25 }
set_option maxRecDepth 4000 in
theorem sM_journal (X : Sc) (x1 : Int32) (x2 : Int32) (m3 : Mem) : Sim X cX5_journal 3 (some .int) RX5 rm_M_journal (fun r : Int32 => r) (fun _ : Int32 => m3) 0 [(0, pR 5 0 0), (1, pI x1), (2, pI x2)] [] m3 (fM_journal x1 x2 m3) := by
  unfold fM_journal
  refine sim_iload_n dX5_journal_0 rfl ?_
  refine sim_if_lt (tgt := 16) dX5_journal_1 (by decide) ?_ ?_
  · refine sim_iconst (v := (-1)) dX5_journal_16 (by decide) ?_
    exact sim_iret dX5_journal_17 rfl rfl
  · refine sim_iload_n dX5_journal_4 rfl ?_
    refine sim_i2l dX5_journal_5 ?_
    refine sim_lconst (v := 0) dX5_journal_6 (by decide) ?_
    refine sim_ldc2 (v := 2) dX5_journal_7 kl_X5_269 ?_
    refine sim_callS (As := [pL x2.toInt64, pL (0 : Int64), pL (2 : Int64)]) (rest := []) dX5_journal_10 ln_X5_55 me_X5_in rfl (by decide) (Nat.le_of_ble_eq_true rfl) (Nat.le_of_ble_eq_true rfl) rfl (sM_in X x2.toInt64 (0 : Int64) (2 : Int64) m3) (fun x4 => ?_)
    refine sim_if_ne (tgt := 18) dX5_journal_13 (by decide) ?_ ?_
    · refine sim_iconst (v := (-1)) dX5_journal_16 (by decide) ?_
      exact sim_iret dX5_journal_17 rfl rfl
    · refine sim_iload_n dX5_journal_18 rfl ?_
      refine sim_aload_n dX5_journal_19 rfl ?_
      refine sim_get (v := pR 5 0 1) dX5_journal_20 fl_X5_7 (by decide) rfl ?_
      refine sim_iconst (v := 3) dX5_journal_23 (by decide) ?_
      refine sim_iald dX5_journal_24 rfl (by decide) ?_
      refine sim_icmp_ge (tgt := 37) dX5_journal_25 (by decide) ?_ ?_
      · refine sim_bipush (v := (-4)) dX5_journal_37 (by decide) ?_
        exact sim_iret dX5_journal_39 rfl rfl
      · refine sim_aload_n dX5_journal_28 rfl ?_
        refine sim_iload_n dX5_journal_29 rfl ?_
        refine sim_iload_n dX5_journal_30 rfl ?_
        refine sim_callV (As := [pI x1, pI x2]) (rest := []) (k0 := 0) dX5_journal_31 ln_X5_246 me_X5_entry rfl (by decide) rfl (by decide) (Nat.le_of_ble_eq_true rfl) (Nat.le_of_ble_eq_true rfl) rfl (sM_entry X x1 x2 m3) (fun x5 => ?_)
        refine sim_goto (tgt := 39) dX5_journal_34 (by decide) ?_
        exact sim_iret dX5_journal_39 rfl rfl

def fM_isGood (x1 : Int32) (x2 : Int32) (x3 : Int32) (m4 : Mem) : Option Int32 :=
  Option.bind (fM_isPlace x1 m4) (fun x5 => if x5 = 0 then (some 0) else (Option.bind (fM_isPlace x2 m4) (fun x6 => if x6 = 0 then (some 0) else (if x1 = x2 then (some 0) else (Option.bind (fM_in x3.toInt64 (1 : Int64) (20 : Int64) m4) (fun x7 => if x7 = 0 then (some 0) else (some 1)))))))
abbrev rm_M_isGood : Room := { frames := 2, cells := 0, slots := 0, locals := 46 }
set_option maxRecDepth 4000 in
theorem sM_isGood (X : Sc) (x1 : Int32) (x2 : Int32) (x3 : Int32) (m4 : Mem) : Sim X cX5_isGood 4 (some .boolean) RX5 rm_M_isGood (fun r : Int32 => r) (fun _ : Int32 => m4) 0 [(0, pR 5 0 0), (1, pI x1), (2, pI x2), (3, pI x3)] [] m4 (fM_isGood x1 x2 x3 m4) := by
  unfold fM_isGood
  refine sim_aload_n dX5_isGood_0 rfl ?_
  refine sim_iload_n dX5_isGood_1 rfl ?_
  refine sim_callV (As := [pI x1]) (rest := []) (k0 := 0) dX5_isGood_2 ln_X5_222 me_X5_isPlace rfl (by decide) rfl (by decide) (Nat.le_of_ble_eq_true rfl) (Nat.le_of_ble_eq_true rfl) rfl (sM_isPlace X x1 m4) (fun x5 => ?_)
  refine sim_if_eq (tgt := 37) dX5_isGood_5 (by decide) ?_ ?_
  · refine sim_iconst (v := 0) dX5_isGood_37 (by decide) ?_
    exact sim_zret dX5_isGood_38 rfl rfl rfl
  · refine sim_aload_n dX5_isGood_8 rfl ?_
    refine sim_iload_n dX5_isGood_9 rfl ?_
    refine sim_callV (As := [pI x2]) (rest := []) (k0 := 0) dX5_isGood_10 ln_X5_222 me_X5_isPlace rfl (by decide) rfl (by decide) (Nat.le_of_ble_eq_true rfl) (Nat.le_of_ble_eq_true rfl) rfl (sM_isPlace X x2 m4) (fun x6 => ?_)
    refine sim_if_eq (tgt := 37) dX5_isGood_13 (by decide) ?_ ?_
    · refine sim_iconst (v := 0) dX5_isGood_37 (by decide) ?_
      exact sim_zret dX5_isGood_38 rfl rfl rfl
    · refine sim_iload_n dX5_isGood_16 rfl ?_
      refine sim_iload_n dX5_isGood_17 rfl ?_
      refine sim_icmp_eq (tgt := 37) dX5_isGood_18 (by decide) ?_ ?_
      · refine sim_iconst (v := 0) dX5_isGood_37 (by decide) ?_
        exact sim_zret dX5_isGood_38 rfl rfl rfl
      · refine sim_iload_n dX5_isGood_21 rfl ?_
        refine sim_i2l dX5_isGood_22 ?_
        refine sim_lconst (v := 1) dX5_isGood_23 (by decide) ?_
        refine sim_ldc2 (v := 20) dX5_isGood_24 kl_X5_276 ?_
        refine sim_callS (As := [pL x3.toInt64, pL (1 : Int64), pL (20 : Int64)]) (rest := []) dX5_isGood_27 ln_X5_55 me_X5_in rfl (by decide) (Nat.le_of_ble_eq_true rfl) (Nat.le_of_ble_eq_true rfl) rfl (sM_in X x3.toInt64 (1 : Int64) (20 : Int64) m4) (fun x7 => ?_)
        refine sim_if_eq (tgt := 37) dX5_isGood_30 (by decide) ?_ ?_
        · refine sim_iconst (v := 0) dX5_isGood_37 (by decide) ?_
          exact sim_zret dX5_isGood_38 rfl rfl rfl
        · refine sim_iconst (v := 1) dX5_isGood_33 (by decide) ?_
          refine sim_goto (tgt := 38) dX5_isGood_34 (by decide) ?_
          exact sim_zret dX5_isGood_38 rfl rfl rfl

def jM_add_124 (m15 : Mem) : Option (Int32 × Mem) :=
  gd (inb 1 238) (gd (inb 1 238) (lt (wr m15 (5, 0, 1) (ix 1) ((m15 (5, 0, 1) (ix 1)) - 1)) (fun m16 => some ((-2), m16))))
def fM_add (x1 : Int32) (x2 : Int32) (x3 : Int32) (m4 : Mem) : Option (Int32 × Mem) :=
  Option.bind (fM_isGood x1 x2 x3 m4) (fun x5 => if x5 = 0 then (some ((-1), m4)) else (gd (inb 1 238) (if (m4 (5, 0, 1) (ix 1)) = 4 then (some ((-3), m4)) else (gd (inb 1 238) (lt (34 + (6 * (m4 (5, 0, 1) (ix 1)))) (fun (x6 : Int32) => gd (inb (x6 + 0) 238) (lt (wr m4 (5, 0, 1) (ix (x6 + 0)) x1) (fun m7 => gd (inb (x6 + 1) 238) (lt (wr m7 (5, 0, 1) (ix (x6 + 1)) x2) (fun m8 => gd (inb (x6 + 2) 238) (lt (wr m8 (5, 0, 1) (ix (x6 + 2)) x3) (fun m9 => gd (inb (x6 + 3) 238) (lt (wr m9 (5, 0, 1) (ix (x6 + 3)) x1) (fun m10 => gd (inb (x6 + 4) 238) (lt (wr m10 (5, 0, 1) (ix (x6 + 4)) 0) (fun m11 => gd (inb (x6 + 5) 238) (lt (wr m11 (5, 0, 1) (ix (x6 + 5)) (-4)) (fun m12 => gd (inb 1 238) (gd (inb 1 238) (lt (wr m12 (5, 0, 1) (ix 1) ((m12 (5, 0, 1) (ix 1)) + 1)) (fun m13 => Option.bind (fM_isHeldAll m13) (fun q14 => if q14.1 = 0 then (jM_add_124 q14.2) else (Option.bind (fM_isSafeNow q14.2) (fun q18 => if q18.1 = 0 then (jM_add_124 q18.2) else (gd (inb 1 238) (some (q18.2 (5, 0, 1) (ix 1), q18.2)))))))))))))))))))))))))))
abbrev rm_M_add : Room := { frames := 6, cells := 0, slots := 0, locals := 139 }
set_option maxRecDepth 4000 in
theorem sM_add (X : Sc) (x1 : Int32) (x2 : Int32) (x3 : Int32) (m4 : Mem) : Sim X cX5_add 5 (some .int) RX5 rm_M_add (fun q : Int32 × Mem => q.1) (fun q : Int32 × Mem => q.2) 0 [(0, pR 5 0 0), (1, pI x1), (2, pI x2), (3, pI x3)] [] m4 (fM_add x1 x2 x3 m4) := by
  unfold fM_add
  refine sim_aload_n dX5_add_0 rfl ?_
  refine sim_iload_n dX5_add_1 rfl ?_
  refine sim_iload_n dX5_add_2 rfl ?_
  refine sim_iload_n dX5_add_3 rfl ?_
  refine sim_callV (As := [pI x1, pI x2, pI x3]) (rest := []) (k0 := 0) dX5_add_4 ln_X5_278 me_X5_isGood rfl (by decide) rfl (by decide) (Nat.le_of_ble_eq_true rfl) (Nat.le_of_ble_eq_true rfl) rfl (sM_isGood X x1 x2 x3 m4) (fun x5 => ?_)
  refine sim_if_ne (tgt := 12) dX5_add_7 (by decide) ?_ ?_
  · refine sim_iconst (v := (-1)) dX5_add_10 (by decide) ?_
    exact sim_iret dX5_add_11 rfl rfl
  · refine sim_aload_n dX5_add_12 rfl ?_
    refine sim_get (v := pR 5 0 1) dX5_add_13 fl_X5_7 (by decide) rfl ?_
    refine sim_iconst (v := 1) dX5_add_16 (by decide) ?_
    refine sim_iald dX5_add_17 rfl (by decide) ?_
    refine sim_iconst (v := 4) dX5_add_18 (by decide) ?_
    refine sim_icmp_ne (tgt := 25) dX5_add_19 (by decide) ?_ ?_
    · refine sim_bipush (v := (-3)) dX5_add_22 (by decide) ?_
      exact sim_iret dX5_add_24 rfl rfl
    · refine sim_bipush (v := 34) dX5_add_25 (by decide) ?_
      refine sim_bipush (v := 6) dX5_add_27 (by decide) ?_
      refine sim_aload_n dX5_add_29 rfl ?_
      refine sim_get (v := pR 5 0 1) dX5_add_30 fl_X5_7 (by decide) rfl ?_
      refine sim_iconst (v := 1) dX5_add_33 (by decide) ?_
      refine sim_iald dX5_add_34 rfl (by decide) ?_
      refine sim_imul dX5_add_35 ?_
      refine sim_iadd dX5_add_36 ?_
      refine sim_istore (fun z => [(0, pR 5 0 0), (1, pI x1), (2, pI x2), (3, pI x3), (4, pI z)]) [1, 2, 3, 4, 0] dX5_add_37 (by decide) (fun _ => rfl) (fun x6 => ?_)
      refine sim_aload_n dX5_add_39 rfl ?_
      refine sim_get (v := pR 5 0 1) dX5_add_40 fl_X5_7 (by decide) rfl ?_
      refine sim_iload dX5_add_43 rfl ?_
      refine sim_iconst (v := 0) dX5_add_45 (by decide) ?_
      refine sim_iadd dX5_add_46 ?_
      refine sim_iload_n dX5_add_47 rfl ?_
      refine sim_iast dX5_add_48 rfl (by decide) (fun m7 => ?_)
      refine sim_aload_n dX5_add_49 rfl ?_
      refine sim_get (v := pR 5 0 1) dX5_add_50 fl_X5_7 (by decide) rfl ?_
      refine sim_iload dX5_add_53 rfl ?_
      refine sim_iconst (v := 1) dX5_add_55 (by decide) ?_
      refine sim_iadd dX5_add_56 ?_
      refine sim_iload_n dX5_add_57 rfl ?_
      refine sim_iast dX5_add_58 rfl (by decide) (fun m8 => ?_)
      refine sim_aload_n dX5_add_59 rfl ?_
      refine sim_get (v := pR 5 0 1) dX5_add_60 fl_X5_7 (by decide) rfl ?_
      refine sim_iload dX5_add_63 rfl ?_
      refine sim_iconst (v := 2) dX5_add_65 (by decide) ?_
      refine sim_iadd dX5_add_66 ?_
      refine sim_iload_n dX5_add_67 rfl ?_
      refine sim_iast dX5_add_68 rfl (by decide) (fun m9 => ?_)
      refine sim_aload_n dX5_add_69 rfl ?_
      refine sim_get (v := pR 5 0 1) dX5_add_70 fl_X5_7 (by decide) rfl ?_
      refine sim_iload dX5_add_73 rfl ?_
      refine sim_iconst (v := 3) dX5_add_75 (by decide) ?_
      refine sim_iadd dX5_add_76 ?_
      refine sim_iload_n dX5_add_77 rfl ?_
      refine sim_iast dX5_add_78 rfl (by decide) (fun m10 => ?_)
      refine sim_aload_n dX5_add_79 rfl ?_
      refine sim_get (v := pR 5 0 1) dX5_add_80 fl_X5_7 (by decide) rfl ?_
      refine sim_iload dX5_add_83 rfl ?_
      refine sim_iconst (v := 4) dX5_add_85 (by decide) ?_
      refine sim_iadd dX5_add_86 ?_
      refine sim_iconst (v := 0) dX5_add_87 (by decide) ?_
      refine sim_iast dX5_add_88 rfl (by decide) (fun m11 => ?_)
      refine sim_aload_n dX5_add_89 rfl ?_
      refine sim_get (v := pR 5 0 1) dX5_add_90 fl_X5_7 (by decide) rfl ?_
      refine sim_iload dX5_add_93 rfl ?_
      refine sim_iconst (v := 5) dX5_add_95 (by decide) ?_
      refine sim_iadd dX5_add_96 ?_
      refine sim_bipush (v := (-4)) dX5_add_97 (by decide) ?_
      refine sim_iast dX5_add_99 rfl (by decide) (fun m12 => ?_)
      refine sim_aload_n dX5_add_100 rfl ?_
      refine sim_get (v := pR 5 0 1) dX5_add_101 fl_X5_7 (by decide) rfl ?_
      refine sim_iconst (v := 1) dX5_add_104 (by decide) ?_
      refine sim_dup2 dX5_add_105 rfl rfl ?_
      refine sim_iald dX5_add_106 rfl (by decide) ?_
      refine sim_iconst (v := 1) dX5_add_107 (by decide) ?_
      refine sim_iadd dX5_add_108 ?_
      refine sim_iast dX5_add_109 rfl (by decide) (fun m13 => ?_)
      refine sim_aload_n dX5_add_110 rfl ?_
      refine sim_callV (As := []) (rest := []) (k0 := 0) dX5_add_111 ln_X5_149 me_X5_isHeldAll rfl (by decide) rfl (by decide) (Nat.le_of_ble_eq_true rfl) (Nat.le_of_ble_eq_true rfl) rfl (sM_isHeldAll X m13) (fun q14 => ?_)
      have hJ17 : ∀ (m15 : Mem), Sim X cX5_add 5 (some .int) RX5 rm_M_add (fun q : Int32 × Mem => q.1) (fun q : Int32 × Mem => q.2) 124 [(0, pR 5 0 0), (1, pI x1), (2, pI x2), (3, pI x3), (4, pI x6)] [] m15 (jM_add_124 m15) := by
        intro m15
        unfold jM_add_124
        refine sim_aload_n dX5_add_124 rfl ?_
        refine sim_get (v := pR 5 0 1) dX5_add_125 fl_X5_7 (by decide) rfl ?_
        refine sim_iconst (v := 1) dX5_add_128 (by decide) ?_
        refine sim_dup2 dX5_add_129 rfl rfl ?_
        refine sim_iald dX5_add_130 rfl (by decide) ?_
        refine sim_iconst (v := 1) dX5_add_131 (by decide) ?_
        refine sim_isub dX5_add_132 ?_
        refine sim_iast dX5_add_133 rfl (by decide) (fun m16 => ?_)
        refine sim_bipush (v := (-2)) dX5_add_134 (by decide) ?_
        exact sim_iret dX5_add_136 rfl rfl
      refine sim_if_eq (tgt := 124) dX5_add_114 (by decide) ?_ ?_
      · exact hJ17 q14.2
      · refine sim_aload_n dX5_add_117 rfl ?_
        refine sim_callV (As := []) (rest := []) (k0 := 0) dX5_add_118 ln_X5_152 me_X5_isSafeNow rfl (by decide) rfl (by decide) (Nat.le_of_ble_eq_true rfl) (Nat.le_of_ble_eq_true rfl) rfl (sM_isSafeNow X q14.2) (fun q18 => ?_)
        refine sim_if_ne (tgt := 137) dX5_add_121 (by decide) ?_ ?_
        · exact hJ17 q18.2
        · refine sim_aload_n dX5_add_137 rfl ?_
          refine sim_get (v := pR 5 0 1) dX5_add_138 fl_X5_7 (by decide) rfl ?_
          refine sim_iconst (v := 1) dX5_add_141 (by decide) ?_
          refine sim_iald dX5_add_142 rfl (by decide) ?_
          exact sim_iret dX5_add_143 rfl rfl

def jM_leavesJournal_111 (x5 : Int32) (x6 : Int32) (m7 : Mem) : Option Mem :=
  gd (inb 3 238) (lt (wr m7 (5, 0, 1) (ix 3) x5) (fun m8 => some m8))
def bM_leavesJournal_4 (x1 : Int32) (s13 : Int32 → Int32 → Mem → Option Mem) (x10 : Int32) (x11 : Int32) (m12 : Mem) : Option Mem :=
  gd (inb 3 238) (if (m12 (5, 0, 1) (ix 3)) ≤ x11 then (jM_leavesJournal_111 x10 x11 m12) else (Option.bind (fM_entry x11 1 m12) (fun x15 => lt x15 (fun (x16 : Int32) => if x16 = x1 then (lt (x11 + 1) (fun (x17 : Int32) => s13 x10 x17 m12)) else (Option.bind (fM_entry x11 0 m12) (fun x18 => lt x18 (fun (x19 : Int32) => Option.bind (fM_entry x11 2 m12) (fun x20 => lt x20 (fun (x21 : Int32) => gd (inb ((58 + (3 * x10)) + 0) 238) (lt (wr m12 (5, 0, 1) (ix ((58 + (3 * x10)) + 0)) x19) (fun m22 => lt (if x16 ≤ x1 then x16 else (x16 - 1)) (fun (x23 : Int32) => gd (inb ((58 + (3 * x10)) + 1) 238) (lt (wr m22 (5, 0, 1) (ix ((58 + (3 * x10)) + 1)) x23) (fun m24 => gd (inb ((58 + (3 * x10)) + 2) 238) (lt (wr m24 (5, 0, 1) (ix ((58 + (3 * x10)) + 2)) x21) (fun m25 => lt (x10 + 1) (fun (x26 : Int32) => lt (x11 + 1) (fun (x27 : Int32) => s13 x26 x27 m25))))))))))))))))))
def fM_leavesJournal (x1 : Int32) (m2 : Mem) : Option Mem :=
  lt 0 (fun (x3 : Int32) => lt 0 (fun (x4 : Int32) => lz21 (bM_leavesJournal_4 x1) FU x3 x4 m2))
abbrev rm_M_leavesJournal : Room := { frames := 1, cells := 0, slots := 0, locals := 22 }
set_option maxRecDepth 4000 in
theorem sM_leavesJournal (X : Sc) (x1 : Int32) (m2 : Mem) : Sim X cX5_leavesJournal 7 none RX5 rm_M_leavesJournal (fun _ : Mem => 0) (fun m : Mem => m) 0 [(0, pR 5 0 0), (1, pI x1)] [] m2 (fM_leavesJournal x1 m2) := by
  unfold fM_leavesJournal
  refine sim_iconst (v := 0) dX5_leavesJournal_0 (by decide) ?_
  refine sim_istore_n (fun z => [(0, pR 5 0 0), (1, pI x1), (2, pI z)]) [1, 2, 0] dX5_leavesJournal_1 (by decide) (fun _ => rfl) (fun x3 => ?_)
  refine sim_iconst (v := 0) dX5_leavesJournal_2 (by decide) ?_
  refine sim_istore_n (fun z => [(0, pR 5 0 0), (1, pI x1), (2, pI x3), (3, pI z)]) [1, 2, 3, 0] dX5_leavesJournal_3 (by decide) (fun _ => rfl) (fun x4 => ?_)
  have hJ9 : ∀ (x5 : Int32) (x6 : Int32) (m7 : Mem), Sim X cX5_leavesJournal 7 none RX5 rm_M_leavesJournal (fun _ : Mem => 0) (fun m : Mem => m) 111 [(0, pR 5 0 0), (1, pI x1), (2, pI x5), (3, pI x6)] [] m7 (jM_leavesJournal_111 x5 x6 m7) := by
    intro x5 x6 m7
    unfold jM_leavesJournal_111
    refine sim_aload_n dX5_leavesJournal_111 rfl ?_
    refine sim_get (v := pR 5 0 1) dX5_leavesJournal_112 fl_X5_7 (by decide) rfl ?_
    refine sim_iconst (v := 3) dX5_leavesJournal_115 (by decide) ?_
    refine sim_iload_n dX5_leavesJournal_116 rfl ?_
    refine sim_iast dX5_leavesJournal_117 rfl (by decide) (fun m8 => ?_)
    exact sim_ret dX5_leavesJournal_118 rfl
  refine sim_lz21 (fun z0 z1 => [(0, pR 5 0 0), (1, pI x1), (2, pI z0), (3, pI z1)]) (fun s13 hs14 x10 x11 m12 => ?_) FU x3 x4 m2
  unfold bM_leavesJournal_4
  refine sim_iload_n dX5_leavesJournal_4 rfl ?_
  refine sim_aload_n dX5_leavesJournal_5 rfl ?_
  refine sim_get (v := pR 5 0 1) dX5_leavesJournal_6 fl_X5_7 (by decide) rfl ?_
  refine sim_iconst (v := 3) dX5_leavesJournal_9 (by decide) ?_
  refine sim_iald dX5_leavesJournal_10 rfl (by decide) ?_
  refine sim_icmp_ge (tgt := 111) dX5_leavesJournal_11 (by decide) ?_ ?_
  · exact hJ9 x10 x11 m12
  · refine sim_aload_n dX5_leavesJournal_14 rfl ?_
    refine sim_iload_n dX5_leavesJournal_15 rfl ?_
    refine sim_iconst (v := 1) dX5_leavesJournal_16 (by decide) ?_
    refine sim_callV (As := [pI x11, pI 1]) (rest := []) (k0 := 0) dX5_leavesJournal_17 ln_X5_246 me_X5_entry rfl (by decide) rfl (by decide) (Nat.le_of_ble_eq_true rfl) (Nat.le_of_ble_eq_true rfl) rfl (sM_entry X x11 1 m12) (fun x15 => ?_)
    refine sim_istore (fun z => [(0, pR 5 0 0), (1, pI x1), (2, pI x10), (3, pI x11), (4, pI z)]) [1, 2, 3, 4, 0] dX5_leavesJournal_20 (by decide) (fun _ => rfl) (fun x16 => ?_)
    refine sim_iload dX5_leavesJournal_22 rfl ?_
    refine sim_iload_n dX5_leavesJournal_24 rfl ?_
    refine sim_icmp_eq (tgt := 105) dX5_leavesJournal_25 (by decide) ?_ ?_
    · refine sim_iinc (y := 1) (fun z => [(0, pR 5 0 0), (1, pI x1), (2, pI x10), (3, pI z), (4, pI x16)]) [1, 2, 3, 0, 4] dX5_leavesJournal_105 rfl (by decide) (by decide) (fun _ => rfl) (fun x17 => ?_)
      refine sim_goto (tgt := 4) dX5_leavesJournal_108 (by decide) ?_
      refine sim_pick [(0, pR 5 0 0), (1, pI x1), (2, pI x10), (3, pI x17)] [0, 1, 2, 3] rfl ?_
      exact hs14 x10 x17 m12
    · refine sim_aload_n dX5_leavesJournal_28 rfl ?_
      refine sim_iload_n dX5_leavesJournal_29 rfl ?_
      refine sim_iconst (v := 0) dX5_leavesJournal_30 (by decide) ?_
      refine sim_callV (As := [pI x11, pI 0]) (rest := []) (k0 := 0) dX5_leavesJournal_31 ln_X5_246 me_X5_entry rfl (by decide) rfl (by decide) (Nat.le_of_ble_eq_true rfl) (Nat.le_of_ble_eq_true rfl) rfl (sM_entry X x11 0 m12) (fun x18 => ?_)
      refine sim_istore (fun z => [(0, pR 5 0 0), (1, pI x1), (2, pI x10), (3, pI x11), (4, pI x16), (5, pI z)]) [1, 2, 3, 4, 5, 0] dX5_leavesJournal_34 (by decide) (fun _ => rfl) (fun x19 => ?_)
      refine sim_aload_n dX5_leavesJournal_36 rfl ?_
      refine sim_iload_n dX5_leavesJournal_37 rfl ?_
      refine sim_iconst (v := 2) dX5_leavesJournal_38 (by decide) ?_
      refine sim_callV (As := [pI x11, pI 2]) (rest := []) (k0 := 0) dX5_leavesJournal_39 ln_X5_246 me_X5_entry rfl (by decide) rfl (by decide) (Nat.le_of_ble_eq_true rfl) (Nat.le_of_ble_eq_true rfl) rfl (sM_entry X x11 2 m12) (fun x20 => ?_)
      refine sim_istore (fun z => [(0, pR 5 0 0), (1, pI x1), (2, pI x10), (3, pI x11), (4, pI x16), (5, pI x19), (6, pI z)]) [1, 2, 3, 4, 5, 6, 0] dX5_leavesJournal_42 (by decide) (fun _ => rfl) (fun x21 => ?_)
      refine sim_aload_n dX5_leavesJournal_44 rfl ?_
      refine sim_get (v := pR 5 0 1) dX5_leavesJournal_45 fl_X5_7 (by decide) rfl ?_
      refine sim_bipush (v := 58) dX5_leavesJournal_48 (by decide) ?_
      refine sim_iconst (v := 3) dX5_leavesJournal_50 (by decide) ?_
      refine sim_iload_n dX5_leavesJournal_51 rfl ?_
      refine sim_imul dX5_leavesJournal_52 ?_
      refine sim_iadd dX5_leavesJournal_53 ?_
      refine sim_iconst (v := 0) dX5_leavesJournal_54 (by decide) ?_
      refine sim_iadd dX5_leavesJournal_55 ?_
      refine sim_iload dX5_leavesJournal_56 rfl ?_
      refine sim_iast dX5_leavesJournal_58 rfl (by decide) (fun m22 => ?_)
      refine sim_aload_n dX5_leavesJournal_59 rfl ?_
      refine sim_get (v := pR 5 0 1) dX5_leavesJournal_60 fl_X5_7 (by decide) rfl ?_
      refine sim_bipush (v := 58) dX5_leavesJournal_63 (by decide) ?_
      refine sim_iconst (v := 3) dX5_leavesJournal_65 (by decide) ?_
      refine sim_iload_n dX5_leavesJournal_66 rfl ?_
      refine sim_imul dX5_leavesJournal_67 ?_
      refine sim_iadd dX5_leavesJournal_68 ?_
      refine sim_iconst (v := 1) dX5_leavesJournal_69 (by decide) ?_
      refine sim_iadd dX5_leavesJournal_70 ?_
      refine sim_iload dX5_leavesJournal_71 rfl ?_
      refine sim_iload_n dX5_leavesJournal_73 rfl ?_
      refine sim_jv 86 [(0, pR 5 0 0), (1, pI x1), (2, pI x10), (3, pI x11), (4, pI x16), (5, pI x19), (6, pI x21)] [pI ((58 + (3 * x10)) + 1), pR 5 0 1] (fun x23 => ?_) (fun hV28 => ?_)
      · refine sim_iast dX5_leavesJournal_86 rfl (by decide) (fun m24 => ?_)
        refine sim_aload_n dX5_leavesJournal_87 rfl ?_
        refine sim_get (v := pR 5 0 1) dX5_leavesJournal_88 fl_X5_7 (by decide) rfl ?_
        refine sim_bipush (v := 58) dX5_leavesJournal_91 (by decide) ?_
        refine sim_iconst (v := 3) dX5_leavesJournal_93 (by decide) ?_
        refine sim_iload_n dX5_leavesJournal_94 rfl ?_
        refine sim_imul dX5_leavesJournal_95 ?_
        refine sim_iadd dX5_leavesJournal_96 ?_
        refine sim_iconst (v := 2) dX5_leavesJournal_97 (by decide) ?_
        refine sim_iadd dX5_leavesJournal_98 ?_
        refine sim_iload dX5_leavesJournal_99 rfl ?_
        refine sim_iast dX5_leavesJournal_101 rfl (by decide) (fun m25 => ?_)
        refine sim_iinc (y := 1) (fun z => [(0, pR 5 0 0), (1, pI x1), (2, pI z), (3, pI x11), (4, pI x16), (5, pI x19), (6, pI x21)]) [1, 2, 0, 3, 4, 5, 6] dX5_leavesJournal_102 rfl (by decide) (by decide) (fun _ => rfl) (fun x26 => ?_)
        refine sim_iinc (y := 1) (fun z => [(0, pR 5 0 0), (1, pI x1), (2, pI x26), (3, pI z), (4, pI x16), (5, pI x19), (6, pI x21)]) [1, 2, 3, 0, 4, 5, 6] dX5_leavesJournal_105 rfl (by decide) (by decide) (fun _ => rfl) (fun x27 => ?_)
        refine sim_goto (tgt := 4) dX5_leavesJournal_108 (by decide) ?_
        refine sim_pick [(0, pR 5 0 0), (1, pI x1), (2, pI x26), (3, pI x27)] [0, 1, 2, 3] rfl ?_
        exact hs14 x26 x27 m25
      · refine sim_eq (lt_ite _ _ _ _) ?_
        refine sim_icmp_le (tgt := 84) dX5_leavesJournal_74 (by decide) ?_ ?_
        · refine sim_iload dX5_leavesJournal_84 rfl ?_
          exact hV28 _
        · refine sim_iload dX5_leavesJournal_77 rfl ?_
          refine sim_iconst (v := 1) dX5_leavesJournal_79 (by decide) ?_
          refine sim_isub dX5_leavesJournal_80 ?_
          refine sim_goto (tgt := 86) dX5_leavesJournal_81 (by decide) ?_
          exact hV28 _

def jM_drop_70 (x1 : Int32) (x6 : Int32) (m7 : Mem) : Option (Int32 × Mem) :=
  gd (inb 1 238) (gd (inb 1 238) (lt (wr m7 (5, 0, 1) (ix 1) ((m7 (5, 0, 1) (ix 1)) - 1)) (fun m8 => Option.bind (fM_leavesJournal x1 m8) (fun m9 => gd (inb 1 238) (some (m9 (5, 0, 1) (ix 1), m9))))))
def bM_drop_31 (x1 : Int32) (s13 : Int32 → Mem → Option (Int32 × Mem)) (x11 : Int32) (m12 : Mem) : Option (Int32 × Mem) :=
  gd (inb 1 238) (if (34 + (6 * ((m12 (5, 0, 1) (ix 1)) - 1))) ≤ x11 then (jM_drop_70 x1 x11 m12) else (gd (inb (x11 + 6) 238) (gd (inb x11 238) (lt (wr m12 (5, 0, 1) (ix x11) (m12 (5, 0, 1) (ix (x11 + 6)))) (fun m15 => lt (x11 + 1) (fun (x16 : Int32) => s13 x16 m15))))))
def fM_drop (x1 : Int32) (m2 : Mem) : Option (Int32 × Mem) :=
  Option.bind (fM_isTrain x1 m2) (fun x3 => if x3 = 0 then (some ((-1), m2)) else (Option.bind (fM_ofTrain x1 4 m2) (fun x4 => if x4 = 1 then (some ((-2), m2)) else (lt (34 + (6 * x1)) (fun (x5 : Int32) => lz11 (bM_drop_31 x1) FU x5 m2)))))
abbrev rm_M_drop : Room := { frames := 2, cells := 0, slots := 0, locals := 48 }
set_option maxRecDepth 4000 in
theorem sM_drop (X : Sc) (x1 : Int32) (m2 : Mem) : Sim X cX5_drop 3 (some .int) RX5 rm_M_drop (fun q : Int32 × Mem => q.1) (fun q : Int32 × Mem => q.2) 0 [(0, pR 5 0 0), (1, pI x1)] [] m2 (fM_drop x1 m2) := by
  unfold fM_drop
  refine sim_aload_n dX5_drop_0 rfl ?_
  refine sim_iload_n dX5_drop_1 rfl ?_
  refine sim_callV (As := [pI x1]) (rest := []) (k0 := 0) dX5_drop_2 ln_X5_231 me_X5_isTrain rfl (by decide) rfl (by decide) (Nat.le_of_ble_eq_true rfl) (Nat.le_of_ble_eq_true rfl) rfl (sM_isTrain X x1 m2) (fun x3 => ?_)
  refine sim_if_ne (tgt := 10) dX5_drop_5 (by decide) ?_ ?_
  · refine sim_iconst (v := (-1)) dX5_drop_8 (by decide) ?_
    exact sim_iret dX5_drop_9 rfl rfl
  · refine sim_aload_n dX5_drop_10 rfl ?_
    refine sim_iload_n dX5_drop_11 rfl ?_
    refine sim_iconst (v := 4) dX5_drop_12 (by decide) ?_
    refine sim_callV (As := [pI x1, pI 4]) (rest := []) (k0 := 0) dX5_drop_13 ln_X5_122 me_X5_ofTrain rfl (by decide) rfl (by decide) (Nat.le_of_ble_eq_true rfl) (Nat.le_of_ble_eq_true rfl) rfl (sM_ofTrain X x1 4 m2) (fun x4 => ?_)
    refine sim_iconst (v := 1) dX5_drop_16 (by decide) ?_
    refine sim_icmp_ne (tgt := 23) dX5_drop_17 (by decide) ?_ ?_
    · refine sim_bipush (v := (-2)) dX5_drop_20 (by decide) ?_
      exact sim_iret dX5_drop_22 rfl rfl
    · refine sim_bipush (v := 34) dX5_drop_23 (by decide) ?_
      refine sim_bipush (v := 6) dX5_drop_25 (by decide) ?_
      refine sim_iload_n dX5_drop_27 rfl ?_
      refine sim_imul dX5_drop_28 ?_
      refine sim_iadd dX5_drop_29 ?_
      refine sim_istore_n (fun z => [(0, pR 5 0 0), (1, pI x1), (2, pI z)]) [1, 2, 0] dX5_drop_30 (by decide) (fun _ => rfl) (fun x5 => ?_)
      have hJ10 : ∀ (x6 : Int32) (m7 : Mem), Sim X cX5_drop 3 (some .int) RX5 rm_M_drop (fun q : Int32 × Mem => q.1) (fun q : Int32 × Mem => q.2) 70 [(0, pR 5 0 0), (1, pI x1), (2, pI x6)] [] m7 (jM_drop_70 x1 x6 m7) := by
        intro x6 m7
        unfold jM_drop_70
        refine sim_aload_n dX5_drop_70 rfl ?_
        refine sim_get (v := pR 5 0 1) dX5_drop_71 fl_X5_7 (by decide) rfl ?_
        refine sim_iconst (v := 1) dX5_drop_74 (by decide) ?_
        refine sim_dup2 dX5_drop_75 rfl rfl ?_
        refine sim_iald dX5_drop_76 rfl (by decide) ?_
        refine sim_iconst (v := 1) dX5_drop_77 (by decide) ?_
        refine sim_isub dX5_drop_78 ?_
        refine sim_iast dX5_drop_79 rfl (by decide) (fun m8 => ?_)
        refine sim_aload_n dX5_drop_80 rfl ?_
        refine sim_iload_n dX5_drop_81 rfl ?_
        refine sim_callV (As := [pI x1]) (rest := []) (k0 := 0) dX5_drop_82 ln_X5_281 me_X5_leavesJournal rfl (by decide) rfl (by decide) (Nat.le_of_ble_eq_true rfl) (Nat.le_of_ble_eq_true rfl) rfl (sM_leavesJournal X x1 m8) (fun m9 => ?_)
        refine sim_aload_n dX5_drop_85 rfl ?_
        refine sim_get (v := pR 5 0 1) dX5_drop_86 fl_X5_7 (by decide) rfl ?_
        refine sim_iconst (v := 1) dX5_drop_89 (by decide) ?_
        refine sim_iald dX5_drop_90 rfl (by decide) ?_
        exact sim_iret dX5_drop_91 rfl rfl
      refine sim_lz11 (fun z0 => [(0, pR 5 0 0), (1, pI x1), (2, pI z0)]) (fun s13 hs14 x11 m12 => ?_) FU x5 m2
      unfold bM_drop_31
      refine sim_iload_n dX5_drop_31 rfl ?_
      refine sim_bipush (v := 34) dX5_drop_32 (by decide) ?_
      refine sim_bipush (v := 6) dX5_drop_34 (by decide) ?_
      refine sim_aload_n dX5_drop_36 rfl ?_
      refine sim_get (v := pR 5 0 1) dX5_drop_37 fl_X5_7 (by decide) rfl ?_
      refine sim_iconst (v := 1) dX5_drop_40 (by decide) ?_
      refine sim_iald dX5_drop_41 rfl (by decide) ?_
      refine sim_iconst (v := 1) dX5_drop_42 (by decide) ?_
      refine sim_isub dX5_drop_43 ?_
      refine sim_imul dX5_drop_44 ?_
      refine sim_iadd dX5_drop_45 ?_
      refine sim_icmp_ge (tgt := 70) dX5_drop_46 (by decide) ?_ ?_
      · exact hJ10 x11 m12
      · refine sim_aload_n dX5_drop_49 rfl ?_
        refine sim_get (v := pR 5 0 1) dX5_drop_50 fl_X5_7 (by decide) rfl ?_
        refine sim_iload_n dX5_drop_53 rfl ?_
        refine sim_aload_n dX5_drop_54 rfl ?_
        refine sim_get (v := pR 5 0 1) dX5_drop_55 fl_X5_7 (by decide) rfl ?_
        refine sim_iload_n dX5_drop_58 rfl ?_
        refine sim_bipush (v := 6) dX5_drop_59 (by decide) ?_
        refine sim_iadd dX5_drop_61 ?_
        refine sim_iald dX5_drop_62 rfl (by decide) ?_
        refine sim_iast dX5_drop_63 rfl (by decide) (fun m15 => ?_)
        refine sim_iinc (y := 1) (fun z => [(0, pR 5 0 0), (1, pI x1), (2, pI z)]) [1, 2, 0] dX5_drop_64 rfl (by decide) (by decide) (fun _ => rfl) (fun x16 => ?_)
        refine sim_goto (tgt := 31) dX5_drop_67 (by decide) ?_
        exact hs14 x16 m15

def bM_draw_34 (x2 : Int32) (s12 : Int32 → Int32 → Int32 → Mem → Option (Int32 × Mem)) (x8 : Int32) (x9 : Int32) (x10 : Int32) (m11 : Mem) : Option (Int32 × Mem) :=
  if x2 ≤ x10 then (some (x9, m11)) else (lt ((x8 * 1103515245) + 12345) (fun (x14 : Int32) => lt (((x14 : Int32) >>> ((16 &&& 31) : Int32)) &&& 32767) (fun (x15 : Int32) => gd (inb 0 238) (gd (!((m11 (5, 0, 1) (ix 0)) == 0)) (gd (!(8 == 0)) (gd (inb 0 238) (gd (!((m11 (5, 0, 1) (ix 0)) == 0)) (gd (!(64 == 0)) (gd (!(6 == 0)) (Option.bind (fM_add (x15 - x15 / (m11 (5, 0, 1) (ix 0)) * (m11 (5, 0, 1) (ix 0))) ((x15 / 8) - (x15 / 8) / (m11 (5, 0, 1) (ix 0)) * (m11 (5, 0, 1) (ix 0))) (((x15 / 64) - (x15 / 64) / 6 * 6) + 1) m11) (fun q16 => lt (if q16.1 ≤ 0 then 0 else 1) (fun (x17 : Int32) => Option.bind (fM_flag x17 q16.2) (fun x18 => lt (x9 + x18) (fun (x19 : Int32) => lt (x10 + 1) (fun (x20 : Int32) => s12 x14 x19 x20 q16.2)))))))))))))))
def fM_draw (x1 : Int32) (x2 : Int32) (m3 : Mem) : Option (Int32 × Mem) :=
  Option.bind (fM_in x2.toInt64 (1 : Int64) (8 : Int64) m3) (fun x4 => if x4 = 0 then (some ((-1), m3)) else (gd (inb 0 238) (if (m3 (5, 0, 1) (ix 0)) = 0 then (some ((-2), m3)) else (lt x1 (fun (x5 : Int32) => lt 0 (fun (x6 : Int32) => lt 0 (fun (x7 : Int32) => lz31 (bM_draw_34 x2) FU x5 x6 x7 m3)))))))
abbrev rm_M_draw : Room := { frames := 7, cells := 0, slots := 0, locals := 163 }
set_option maxRecDepth 4000 in
theorem sM_draw (X : Sc) (x1 : Int32) (x2 : Int32) (m3 : Mem) : Sim X cX5_draw 7 (some .int) RX5 rm_M_draw (fun q : Int32 × Mem => q.1) (fun q : Int32 × Mem => q.2) 0 [(0, pR 5 0 0), (1, pI x1), (2, pI x2)] [] m3 (fM_draw x1 x2 m3) := by
  unfold fM_draw
  refine sim_iload_n dX5_draw_0 rfl ?_
  refine sim_i2l dX5_draw_1 ?_
  refine sim_lconst (v := 1) dX5_draw_2 (by decide) ?_
  refine sim_ldc2 (v := 8) dX5_draw_3 kl_X5_284 ?_
  refine sim_callS (As := [pL x2.toInt64, pL (1 : Int64), pL (8 : Int64)]) (rest := []) dX5_draw_6 ln_X5_55 me_X5_in rfl (by decide) (Nat.le_of_ble_eq_true rfl) (Nat.le_of_ble_eq_true rfl) rfl (sM_in X x2.toInt64 (1 : Int64) (8 : Int64) m3) (fun x4 => ?_)
  refine sim_if_ne (tgt := 14) dX5_draw_9 (by decide) ?_ ?_
  · refine sim_iconst (v := (-1)) dX5_draw_12 (by decide) ?_
    exact sim_iret dX5_draw_13 rfl rfl
  · refine sim_aload_n dX5_draw_14 rfl ?_
    refine sim_get (v := pR 5 0 1) dX5_draw_15 fl_X5_7 (by decide) rfl ?_
    refine sim_iconst (v := 0) dX5_draw_18 (by decide) ?_
    refine sim_iald dX5_draw_19 rfl (by decide) ?_
    refine sim_if_ne (tgt := 26) dX5_draw_20 (by decide) ?_ ?_
    · refine sim_bipush (v := (-2)) dX5_draw_23 (by decide) ?_
      exact sim_iret dX5_draw_25 rfl rfl
    · refine sim_iload_n dX5_draw_26 rfl ?_
      refine sim_istore_n (fun z => [(0, pR 5 0 0), (1, pI x1), (2, pI x2), (3, pI z)]) [1, 2, 3, 0] dX5_draw_27 (by decide) (fun _ => rfl) (fun x5 => ?_)
      refine sim_iconst (v := 0) dX5_draw_28 (by decide) ?_
      refine sim_istore (fun z => [(0, pR 5 0 0), (1, pI x1), (2, pI x2), (3, pI x5), (4, pI z)]) [1, 2, 3, 4, 0] dX5_draw_29 (by decide) (fun _ => rfl) (fun x6 => ?_)
      refine sim_iconst (v := 0) dX5_draw_31 (by decide) ?_
      refine sim_istore (fun z => [(0, pR 5 0 0), (1, pI x1), (2, pI x2), (3, pI x5), (4, pI x6), (5, pI z)]) [1, 2, 3, 4, 5, 0] dX5_draw_32 (by decide) (fun _ => rfl) (fun x7 => ?_)
      refine sim_lz31 (fun z0 z1 z2 => [(0, pR 5 0 0), (1, pI x1), (2, pI x2), (3, pI z0), (4, pI z1), (5, pI z2)]) (fun s12 hs13 x8 x9 x10 m11 => ?_) FU x5 x6 x7 m3
      unfold bM_draw_34
      refine sim_iload dX5_draw_34 rfl ?_
      refine sim_iload_n dX5_draw_36 rfl ?_
      refine sim_icmp_ge (tgt := 117) dX5_draw_37 (by decide) ?_ ?_
      · refine sim_iload dX5_draw_117 rfl ?_
        exact sim_iret dX5_draw_119 rfl rfl
      · refine sim_iload_n dX5_draw_40 rfl ?_
        refine sim_ldcw (v := 1103515245) dX5_draw_41 kc_X5_286 ?_
        refine sim_imul dX5_draw_44 ?_
        refine sim_sipush (v := 12345) dX5_draw_45 (by decide) ?_
        refine sim_iadd dX5_draw_48 ?_
        refine sim_istore_n (fun z => [(0, pR 5 0 0), (1, pI x1), (2, pI x2), (3, pI z), (4, pI x9), (5, pI x10)]) [1, 2, 3, 0, 4, 5] dX5_draw_49 (by decide) (fun _ => rfl) (fun x14 => ?_)
        refine sim_iload_n dX5_draw_50 rfl ?_
        refine sim_bipush (v := 16) dX5_draw_51 (by decide) ?_
        refine sim_ishr dX5_draw_53 ?_
        refine sim_sipush (v := 32767) dX5_draw_54 (by decide) ?_
        refine sim_iand dX5_draw_57 ?_
        refine sim_istore (fun z => [(0, pR 5 0 0), (1, pI x1), (2, pI x2), (3, pI x14), (4, pI x9), (5, pI x10), (6, pI z)]) [1, 2, 3, 4, 5, 6, 0] dX5_draw_58 (by decide) (fun _ => rfl) (fun x15 => ?_)
        refine sim_iload dX5_draw_60 rfl ?_
        refine sim_aload_n dX5_draw_62 rfl ?_
        refine sim_iload dX5_draw_63 rfl ?_
        refine sim_aload_n dX5_draw_65 rfl ?_
        refine sim_get (v := pR 5 0 1) dX5_draw_66 fl_X5_7 (by decide) rfl ?_
        refine sim_iconst (v := 0) dX5_draw_69 (by decide) ?_
        refine sim_iald dX5_draw_70 rfl (by decide) ?_
        refine sim_irem dX5_draw_71 ?_
        refine sim_iload dX5_draw_72 rfl ?_
        refine sim_bipush (v := 8) dX5_draw_74 (by decide) ?_
        refine sim_idiv dX5_draw_76 ?_
        refine sim_aload_n dX5_draw_77 rfl ?_
        refine sim_get (v := pR 5 0 1) dX5_draw_78 fl_X5_7 (by decide) rfl ?_
        refine sim_iconst (v := 0) dX5_draw_81 (by decide) ?_
        refine sim_iald dX5_draw_82 rfl (by decide) ?_
        refine sim_irem dX5_draw_83 ?_
        refine sim_iload dX5_draw_84 rfl ?_
        refine sim_bipush (v := 64) dX5_draw_86 (by decide) ?_
        refine sim_idiv dX5_draw_88 ?_
        refine sim_bipush (v := 6) dX5_draw_89 (by decide) ?_
        refine sim_irem dX5_draw_91 ?_
        refine sim_iconst (v := 1) dX5_draw_92 (by decide) ?_
        refine sim_iadd dX5_draw_93 ?_
        refine sim_callV (As := [pI (x15 - x15 / (m11 (5, 0, 1) (ix 0)) * (m11 (5, 0, 1) (ix 0))), pI ((x15 / 8) - (x15 / 8) / (m11 (5, 0, 1) (ix 0)) * (m11 (5, 0, 1) (ix 0))), pI (((x15 / 64) - (x15 / 64) / 6 * 6) + 1)]) (rest := [pI x9]) (k0 := 0) dX5_draw_94 ln_X5_287 me_X5_add rfl (by decide) rfl (by decide) (Nat.le_of_ble_eq_true rfl) (Nat.le_of_ble_eq_true rfl) rfl (sM_add X (x15 - x15 / (m11 (5, 0, 1) (ix 0)) * (m11 (5, 0, 1) (ix 0))) ((x15 / 8) - (x15 / 8) / (m11 (5, 0, 1) (ix 0)) * (m11 (5, 0, 1) (ix 0))) (((x15 / 64) - (x15 / 64) / 6 * 6) + 1) m11) (fun q16 => ?_)
        refine sim_jv 105 [(0, pR 5 0 0), (1, pI x1), (2, pI x2), (3, pI x14), (4, pI x9), (5, pI x10), (6, pI x15)] [pI x9] (fun x17 => ?_) (fun hV21 => ?_)
        · refine sim_callS (As := [pI x17]) (rest := [pI x9]) dX5_draw_105 ln_X5_167 me_X5_flag rfl (by decide) (Nat.le_of_ble_eq_true rfl) (Nat.le_of_ble_eq_true rfl) rfl (sM_flag X x17 q16.2) (fun x18 => ?_)
          refine sim_iadd dX5_draw_108 ?_
          refine sim_istore (fun z => [(0, pR 5 0 0), (1, pI x1), (2, pI x2), (3, pI x14), (4, pI z), (5, pI x10), (6, pI x15)]) [1, 2, 3, 4, 0, 5, 6] dX5_draw_109 (by decide) (fun _ => rfl) (fun x19 => ?_)
          refine sim_iinc (y := 1) (fun z => [(0, pR 5 0 0), (1, pI x1), (2, pI x2), (3, pI x14), (4, pI x19), (5, pI z), (6, pI x15)]) [1, 2, 3, 4, 5, 0, 6] dX5_draw_111 rfl (by decide) (by decide) (fun _ => rfl) (fun x20 => ?_)
          refine sim_goto (tgt := 34) dX5_draw_114 (by decide) ?_
          refine sim_pick [(0, pR 5 0 0), (1, pI x1), (2, pI x2), (3, pI x14), (4, pI x19), (5, pI x20)] [0, 1, 2, 3, 4, 5] rfl ?_
          exact hs13 x14 x19 x20 q16.2
        · refine sim_eq (lt_ite _ _ _ _) ?_
          refine sim_if_le (tgt := 104) dX5_draw_97 (by decide) ?_ ?_
          · refine sim_iconst (v := 0) dX5_draw_104 (by decide) ?_
            exact hV21 _
          · refine sim_iconst (v := 1) dX5_draw_100 (by decide) ?_
            refine sim_goto (tgt := 105) dX5_draw_101 (by decide) ?_
            exact hV21 _

def bM_keep_31 (x1 : Int32) (x5 : Int32) (s10 : Int32 → Mem → Option (Int32 × Mem)) (x8 : Int32) (m9 : Mem) : Option (Int32 × Mem) :=
  if 238 ≤ x8 then (some (x5, m9)) else (gd (inb x8 238) (gd (inb ((238 * x1) + x8) 476) (lt (wr m9 (5, 0, 4) (ix ((238 * x1) + x8)) (m9 (5, 0, 1) (ix x8))) (fun m12 => lt (x8 + 1) (fun (x13 : Int32) => s10 x13 m12)))))
def fM_keep (x1 : Int32) (m2 : Mem) : Option (Int32 × Mem) :=
  Option.bind (fM_in x1.toInt64 (0 : Int64) (1 : Int64) m2) (fun x3 => if x3 = 0 then (some ((-1), m2)) else (gd (inb x1 2) (Option.bind (fM_flag (m2 (5, 0, 5) (ix x1)) m2) (fun x4 => lt x4 (fun (x5 : Int32) => gd (inb x1 2) (lt (wr m2 (5, 0, 5) (ix x1) (vp_nar .boolean 1)) (fun m6 => lt 0 (fun (x7 : Int32) => lz11 (bM_keep_31 x1 x5) FU x7 m6))))))))
abbrev rm_M_keep : Room := { frames := 1, cells := 0, slots := 0, locals := 25 }
set_option maxRecDepth 4000 in
theorem sM_keep (X : Sc) (x1 : Int32) (m2 : Mem) : Sim X cX5_keep 4 (some .int) RX5 rm_M_keep (fun q : Int32 × Mem => q.1) (fun q : Int32 × Mem => q.2) 0 [(0, pR 5 0 0), (1, pI x1)] [] m2 (fM_keep x1 m2) := by
  unfold fM_keep
  refine sim_iload_n dX5_keep_0 rfl ?_
  refine sim_i2l dX5_keep_1 ?_
  refine sim_lconst (v := 0) dX5_keep_2 (by decide) ?_
  refine sim_lconst (v := 1) dX5_keep_3 (by decide) ?_
  refine sim_callS (As := [pL x1.toInt64, pL (0 : Int64), pL (1 : Int64)]) (rest := []) dX5_keep_4 ln_X5_55 me_X5_in rfl (by decide) (Nat.le_of_ble_eq_true rfl) (Nat.le_of_ble_eq_true rfl) rfl (sM_in X x1.toInt64 (0 : Int64) (1 : Int64) m2) (fun x3 => ?_)
  refine sim_if_ne (tgt := 12) dX5_keep_7 (by decide) ?_ ?_
  · refine sim_iconst (v := (-1)) dX5_keep_10 (by decide) ?_
    exact sim_iret dX5_keep_11 rfl rfl
  · refine sim_aload_n dX5_keep_12 rfl ?_
    refine sim_get (v := pR 5 0 5) dX5_keep_13 fl_X5_22 (by decide) rfl ?_
    refine sim_iload_n dX5_keep_16 rfl ?_
    refine sim_zald dX5_keep_17 rfl (by decide) ?_
    refine sim_callS (As := [pI (m2 (5, 0, 5) (ix x1))]) (rest := []) dX5_keep_18 ln_X5_167 me_X5_flag rfl (by decide) (Nat.le_of_ble_eq_true rfl) (Nat.le_of_ble_eq_true rfl) rfl (sM_flag X (m2 (5, 0, 5) (ix x1)) m2) (fun x4 => ?_)
    refine sim_istore_n (fun z => [(0, pR 5 0 0), (1, pI x1), (2, pI z)]) [1, 2, 0] dX5_keep_21 (by decide) (fun _ => rfl) (fun x5 => ?_)
    refine sim_aload_n dX5_keep_22 rfl ?_
    refine sim_get (v := pR 5 0 5) dX5_keep_23 fl_X5_22 (by decide) rfl ?_
    refine sim_iload_n dX5_keep_26 rfl ?_
    refine sim_iconst (v := 1) dX5_keep_27 (by decide) ?_
    refine sim_zast dX5_keep_28 rfl (by decide) (fun m6 => ?_)
    refine sim_iconst (v := 0) dX5_keep_29 (by decide) ?_
    refine sim_istore_n (fun z => [(0, pR 5 0 0), (1, pI x1), (2, pI x5), (3, pI z)]) [1, 2, 3, 0] dX5_keep_30 (by decide) (fun _ => rfl) (fun x7 => ?_)
    refine sim_lz11 (fun z0 => [(0, pR 5 0 0), (1, pI x1), (2, pI x5), (3, pI z0)]) (fun s10 hs11 x8 m9 => ?_) FU x7 m6
    unfold bM_keep_31
    refine sim_iload_n dX5_keep_31 rfl ?_
    refine sim_sipush (v := 238) dX5_keep_32 (by decide) ?_
    refine sim_icmp_ge (tgt := 62) dX5_keep_35 (by decide) ?_ ?_
    · refine sim_iload_n dX5_keep_62 rfl ?_
      exact sim_iret dX5_keep_63 rfl rfl
    · refine sim_aload_n dX5_keep_38 rfl ?_
      refine sim_get (v := pR 5 0 4) dX5_keep_39 fl_X5_19 (by decide) rfl ?_
      refine sim_sipush (v := 238) dX5_keep_42 (by decide) ?_
      refine sim_iload_n dX5_keep_45 rfl ?_
      refine sim_imul dX5_keep_46 ?_
      refine sim_iload_n dX5_keep_47 rfl ?_
      refine sim_iadd dX5_keep_48 ?_
      refine sim_aload_n dX5_keep_49 rfl ?_
      refine sim_get (v := pR 5 0 1) dX5_keep_50 fl_X5_7 (by decide) rfl ?_
      refine sim_iload_n dX5_keep_53 rfl ?_
      refine sim_iald dX5_keep_54 rfl (by decide) ?_
      refine sim_iast dX5_keep_55 rfl (by decide) (fun m12 => ?_)
      refine sim_iinc (y := 1) (fun z => [(0, pR 5 0 0), (1, pI x1), (2, pI x5), (3, pI z)]) [1, 2, 3, 0] dX5_keep_56 rfl (by decide) (by decide) (fun _ => rfl) (fun x13 => ?_)
      refine sim_goto (tgt := 31) dX5_keep_59 (by decide) ?_
      exact hs11 x13 m12

def jM_back_57 (x5 : Int32) (m6 : Mem) : Option (Int32 × Mem) :=
  gd (inb 1 238) (some (m6 (5, 0, 1) (ix 1), m6))
def bM_back_26 (x1 : Int32) (s10 : Int32 → Mem → Option (Int32 × Mem)) (x8 : Int32) (m9 : Mem) : Option (Int32 × Mem) :=
  if 238 ≤ x8 then (jM_back_57 x8 m9) else (gd (inb ((238 * x1) + x8) 476) (gd (inb x8 238) (lt (wr m9 (5, 0, 1) (ix x8) (m9 (5, 0, 4) (ix ((238 * x1) + x8)))) (fun m12 => lt (x8 + 1) (fun (x13 : Int32) => s10 x13 m12)))))
def fM_back (x1 : Int32) (m2 : Mem) : Option (Int32 × Mem) :=
  Option.bind (fM_in x1.toInt64 (0 : Int64) (1 : Int64) m2) (fun x3 => if x3 = 0 then (some ((-1), m2)) else (gd (inb x1 2) (if (m2 (5, 0, 5) (ix x1)) = 0 then (some ((-2), m2)) else (lt 0 (fun (x4 : Int32) => lz11 (bM_back_26 x1) FU x4 m2)))))
abbrev rm_M_back : Room := { frames := 1, cells := 0, slots := 0, locals := 25 }
set_option maxRecDepth 4000 in
theorem sM_back (X : Sc) (x1 : Int32) (m2 : Mem) : Sim X cX5_back 3 (some .int) RX5 rm_M_back (fun q : Int32 × Mem => q.1) (fun q : Int32 × Mem => q.2) 0 [(0, pR 5 0 0), (1, pI x1)] [] m2 (fM_back x1 m2) := by
  unfold fM_back
  refine sim_iload_n dX5_back_0 rfl ?_
  refine sim_i2l dX5_back_1 ?_
  refine sim_lconst (v := 0) dX5_back_2 (by decide) ?_
  refine sim_lconst (v := 1) dX5_back_3 (by decide) ?_
  refine sim_callS (As := [pL x1.toInt64, pL (0 : Int64), pL (1 : Int64)]) (rest := []) dX5_back_4 ln_X5_55 me_X5_in rfl (by decide) (Nat.le_of_ble_eq_true rfl) (Nat.le_of_ble_eq_true rfl) rfl (sM_in X x1.toInt64 (0 : Int64) (1 : Int64) m2) (fun x3 => ?_)
  refine sim_if_ne (tgt := 12) dX5_back_7 (by decide) ?_ ?_
  · refine sim_iconst (v := (-1)) dX5_back_10 (by decide) ?_
    exact sim_iret dX5_back_11 rfl rfl
  · refine sim_aload_n dX5_back_12 rfl ?_
    refine sim_get (v := pR 5 0 5) dX5_back_13 fl_X5_22 (by decide) rfl ?_
    refine sim_iload_n dX5_back_16 rfl ?_
    refine sim_zald dX5_back_17 rfl (by decide) ?_
    refine sim_if_ne (tgt := 24) dX5_back_18 (by decide) ?_ ?_
    · refine sim_bipush (v := (-2)) dX5_back_21 (by decide) ?_
      exact sim_iret dX5_back_23 rfl rfl
    · refine sim_iconst (v := 0) dX5_back_24 (by decide) ?_
      refine sim_istore_n (fun z => [(0, pR 5 0 0), (1, pI x1), (2, pI z)]) [1, 2, 0] dX5_back_25 (by decide) (fun _ => rfl) (fun x4 => ?_)
      have hJ7 : ∀ (x5 : Int32) (m6 : Mem), Sim X cX5_back 3 (some .int) RX5 rm_M_back (fun q : Int32 × Mem => q.1) (fun q : Int32 × Mem => q.2) 57 [(0, pR 5 0 0), (1, pI x1), (2, pI x5)] [] m6 (jM_back_57 x5 m6) := by
        intro x5 m6
        unfold jM_back_57
        refine sim_aload_n dX5_back_57 rfl ?_
        refine sim_get (v := pR 5 0 1) dX5_back_58 fl_X5_7 (by decide) rfl ?_
        refine sim_iconst (v := 1) dX5_back_61 (by decide) ?_
        refine sim_iald dX5_back_62 rfl (by decide) ?_
        exact sim_iret dX5_back_63 rfl rfl
      refine sim_lz11 (fun z0 => [(0, pR 5 0 0), (1, pI x1), (2, pI z0)]) (fun s10 hs11 x8 m9 => ?_) FU x4 m2
      unfold bM_back_26
      refine sim_iload_n dX5_back_26 rfl ?_
      refine sim_sipush (v := 238) dX5_back_27 (by decide) ?_
      refine sim_icmp_ge (tgt := 57) dX5_back_30 (by decide) ?_ ?_
      · exact hJ7 x8 m9
      · refine sim_aload_n dX5_back_33 rfl ?_
        refine sim_get (v := pR 5 0 1) dX5_back_34 fl_X5_7 (by decide) rfl ?_
        refine sim_iload_n dX5_back_37 rfl ?_
        refine sim_aload_n dX5_back_38 rfl ?_
        refine sim_get (v := pR 5 0 4) dX5_back_39 fl_X5_19 (by decide) rfl ?_
        refine sim_sipush (v := 238) dX5_back_42 (by decide) ?_
        refine sim_iload_n dX5_back_45 rfl ?_
        refine sim_imul dX5_back_46 ?_
        refine sim_iload_n dX5_back_47 rfl ?_
        refine sim_iadd dX5_back_48 ?_
        refine sim_iald dX5_back_49 rfl (by decide) ?_
        refine sim_iast dX5_back_50 rfl (by decide) (fun m12 => ?_)
        refine sim_iinc (y := 1) (fun z => [(0, pR 5 0 0), (1, pI x1), (2, pI z)]) [1, 2, 0] dX5_back_51 rfl (by decide) (by decide) (fun _ => rfl) (fun x13 => ?_)
        refine sim_goto (tgt := 26) dX5_back_54 (by decide) ?_
        exact hs11 x13 m12

def fM_isSheet (x1 : Int32) (x2 : Int32) (m3 : Mem) : Option Int32 :=
  Option.bind (fM_in x1.toInt64 (0 : Int64) (3 : Int64) m3) (fun x4 => if x4 = 0 then (some 0) else (Option.bind (fM_in x2.toInt64 (0 : Int64) (2 : Int64) m3) (fun x5 => if x5 = 0 then (some 0) else (some 1))))
abbrev rm_M_isSheet : Room := { frames := 1, cells := 0, slots := 0, locals := 25 }
set_option maxRecDepth 4000 in
theorem sM_isSheet (X : Sc) (x1 : Int32) (x2 : Int32) (m3 : Mem) : Sim X cX5_isSheet 2 (some .boolean) RX5 rm_M_isSheet (fun r : Int32 => r) (fun _ : Int32 => m3) 0 [(0, pI x1), (1, pI x2)] [] m3 (fM_isSheet x1 x2 m3) := by
  unfold fM_isSheet
  refine sim_iload_n dX5_isSheet_0 rfl ?_
  refine sim_i2l dX5_isSheet_1 ?_
  refine sim_lconst (v := 0) dX5_isSheet_2 (by decide) ?_
  refine sim_ldc2 (v := 3) dX5_isSheet_3 kl_X5_290 ?_
  refine sim_callS (As := [pL x1.toInt64, pL (0 : Int64), pL (3 : Int64)]) (rest := []) dX5_isSheet_6 ln_X5_55 me_X5_in rfl (by decide) (Nat.le_of_ble_eq_true rfl) (Nat.le_of_ble_eq_true rfl) rfl (sM_in X x1.toInt64 (0 : Int64) (3 : Int64) m3) (fun x4 => ?_)
  refine sim_if_eq (tgt := 28) dX5_isSheet_9 (by decide) ?_ ?_
  · refine sim_iconst (v := 0) dX5_isSheet_28 (by decide) ?_
    exact sim_zret dX5_isSheet_29 rfl rfl rfl
  · refine sim_iload_n dX5_isSheet_12 rfl ?_
    refine sim_i2l dX5_isSheet_13 ?_
    refine sim_lconst (v := 0) dX5_isSheet_14 (by decide) ?_
    refine sim_ldc2 (v := 2) dX5_isSheet_15 kl_X5_269 ?_
    refine sim_callS (As := [pL x2.toInt64, pL (0 : Int64), pL (2 : Int64)]) (rest := []) dX5_isSheet_18 ln_X5_55 me_X5_in rfl (by decide) (Nat.le_of_ble_eq_true rfl) (Nat.le_of_ble_eq_true rfl) rfl (sM_in X x2.toInt64 (0 : Int64) (2 : Int64) m3) (fun x5 => ?_)
    refine sim_if_eq (tgt := 28) dX5_isSheet_21 (by decide) ?_ ?_
    · refine sim_iconst (v := 0) dX5_isSheet_28 (by decide) ?_
      exact sim_zret dX5_isSheet_29 rfl rfl rfl
    · refine sim_iconst (v := 1) dX5_isSheet_24 (by decide) ?_
      refine sim_goto (tgt := 29) dX5_isSheet_25 (by decide) ?_
      exact sim_zret dX5_isSheet_29 rfl rfl rfl

def bM_sheet_40 (x1 : Int32) (s11 : Int32 → Mem → Option (Int32 × Mem)) (x9 : Int32) (m10 : Mem) : Option (Int32 × Mem) :=
  if 40 ≤ x9 then (some (1, m10)) else (gd (inb ((40 * x1) + x9) 160) (lt (wr m10 (5, 0, 23) (ix ((40 * x1) + x9)) 0) (fun m13 => lt (x9 + 1) (fun (x14 : Int32) => s11 x14 m13))))
def fM_sheet (x1 : Int32) (x2 : Int32) (x3 : Int32) (m4 : Mem) : Option (Int32 × Mem) :=
  Option.bind (fM_isSheet x1 x2 m4) (fun x5 => if x5 = 0 then (some ((-1), m4)) else (if x3 ≤ 40 then (if 0 ≤ x3 then (gd (inb x1 4) (lt (wr m4 (5, 0, 21) (ix x1) x2) (fun m6 => gd (inb x1 4) (lt (wr m6 (5, 0, 22) (ix x1) x3) (fun m7 => lt 0 (fun (x8 : Int32) => lz11 (bM_sheet_40 x1) FU x8 m7)))))) else (some ((-14), m4))) else (some ((-1), m4))))
abbrev rm_M_sheet : Room := { frames := 2, cells := 0, slots := 0, locals := 46 }
set_option maxRecDepth 4000 in
theorem sM_sheet (X : Sc) (x1 : Int32) (x2 : Int32) (x3 : Int32) (m4 : Mem) : Sim X cX5_sheet 5 (some .int) RX5 rm_M_sheet (fun q : Int32 × Mem => q.1) (fun q : Int32 × Mem => q.2) 0 [(0, pR 5 0 0), (1, pI x1), (2, pI x2), (3, pI x3)] [] m4 (fM_sheet x1 x2 x3 m4) := by
  unfold fM_sheet
  refine sim_iload_n dX5_sheet_0 rfl ?_
  refine sim_iload_n dX5_sheet_1 rfl ?_
  refine sim_callS (As := [pI x1, pI x2]) (rest := []) dX5_sheet_2 ln_X5_292 me_X5_isSheet rfl (by decide) (Nat.le_of_ble_eq_true rfl) (Nat.le_of_ble_eq_true rfl) rfl (sM_isSheet X x1 x2 m4) (fun x5 => ?_)
  refine sim_if_eq (tgt := 14) dX5_sheet_5 (by decide) ?_ ?_
  · refine sim_iconst (v := (-1)) dX5_sheet_14 (by decide) ?_
    exact sim_iret dX5_sheet_15 rfl rfl
  · refine sim_iload_n dX5_sheet_8 rfl ?_
    refine sim_bipush (v := 40) dX5_sheet_9 (by decide) ?_
    refine sim_icmp_le (tgt := 16) dX5_sheet_11 (by decide) ?_ ?_
    · refine sim_iload_n dX5_sheet_16 rfl ?_
      refine sim_if_ge (tgt := 23) dX5_sheet_17 (by decide) ?_ ?_
      · refine sim_aload_n dX5_sheet_23 rfl ?_
        refine sim_get (v := pR 5 0 21) dX5_sheet_24 fl_X5_44 (by decide) rfl ?_
        refine sim_iload_n dX5_sheet_27 rfl ?_
        refine sim_iload_n dX5_sheet_28 rfl ?_
        refine sim_iast dX5_sheet_29 rfl (by decide) (fun m6 => ?_)
        refine sim_aload_n dX5_sheet_30 rfl ?_
        refine sim_get (v := pR 5 0 22) dX5_sheet_31 fl_X5_47 (by decide) rfl ?_
        refine sim_iload_n dX5_sheet_34 rfl ?_
        refine sim_iload_n dX5_sheet_35 rfl ?_
        refine sim_iast dX5_sheet_36 rfl (by decide) (fun m7 => ?_)
        refine sim_iconst (v := 0) dX5_sheet_37 (by decide) ?_
        refine sim_istore (fun z => [(0, pR 5 0 0), (1, pI x1), (2, pI x2), (3, pI x3), (4, pI z)]) [1, 2, 3, 4, 0] dX5_sheet_38 (by decide) (fun _ => rfl) (fun x8 => ?_)
        refine sim_lz11 (fun z0 => [(0, pR 5 0 0), (1, pI x1), (2, pI x2), (3, pI x3), (4, pI z0)]) (fun s11 hs12 x9 m10 => ?_) FU x8 m7
        unfold bM_sheet_40
        refine sim_iload dX5_sheet_40 rfl ?_
        refine sim_bipush (v := 40) dX5_sheet_42 (by decide) ?_
        refine sim_icmp_ge (tgt := 66) dX5_sheet_44 (by decide) ?_ ?_
        · refine sim_iconst (v := 1) dX5_sheet_66 (by decide) ?_
          exact sim_iret dX5_sheet_67 rfl rfl
        · refine sim_aload_n dX5_sheet_47 rfl ?_
          refine sim_get (v := pR 5 0 23) dX5_sheet_48 fl_X5_50 (by decide) rfl ?_
          refine sim_bipush (v := 40) dX5_sheet_51 (by decide) ?_
          refine sim_iload_n dX5_sheet_53 rfl ?_
          refine sim_imul dX5_sheet_54 ?_
          refine sim_iload dX5_sheet_55 rfl ?_
          refine sim_iadd dX5_sheet_57 ?_
          refine sim_iconst (v := 0) dX5_sheet_58 (by decide) ?_
          refine sim_iast dX5_sheet_59 rfl (by decide) (fun m13 => ?_)
          refine sim_iinc (y := 1) (fun z => [(0, pR 5 0 0), (1, pI x1), (2, pI x2), (3, pI x3), (4, pI z)]) [1, 2, 3, 4, 0] dX5_sheet_60 rfl (by decide) (by decide) (fun _ => rfl) (fun x14 => ?_)
          refine sim_goto (tgt := 40) dX5_sheet_63 (by decide) ?_
          exact hs12 x14 m13
      · refine sim_bipush (v := (-14)) dX5_sheet_20 (by decide) ?_
        exact sim_iret dX5_sheet_22 rfl rfl
    · refine sim_iconst (v := (-1)) dX5_sheet_14 (by decide) ?_
      exact sim_iret dX5_sheet_15 rfl rfl

def fM_lay (x1 : Int32) (x2 : Int32) (x3 : Int32) (m4 : Mem) : Option (Int32 × Mem) :=
  Option.bind (fM_isSheet x1 0 m4) (fun x5 => if x5 = 0 then (some ((-1), m4)) else (gd (inb x1 4) (if (m4 (5, 0, 21) (ix x1)) = (-4) then (some ((-11), m4)) else (gd (inb x1 4) (Option.bind (fM_in x2.toInt64 (0 : Int64) (((m4 (5, 0, 22) (ix x1)) - 1).toInt64) m4) (fun x6 => if x6 = 0 then (some ((-12), m4)) else (gd (inb x1 4) (if (m4 (5, 0, 21) (ix x1)) = 0 then (gd (inb ((40 * x1) + x2) 160) (lt (wr m4 (5, 0, 23) (ix ((40 * x1) + x2)) x3.toInt8.toInt32) (fun m9 => some (1, m9)))) else (gd (inb x1 4) (if (m4 (5, 0, 21) (ix x1)) = 1 then (gd (inb ((40 * x1) + x2) 160) (lt (wr m4 (5, 0, 23) (ix ((40 * x1) + x2)) x3.toInt16.toInt32) (fun m8 => some (1, m8)))) else (gd (inb ((40 * x1) + x2) 160) (lt (wr m4 (5, 0, 23) (ix ((40 * x1) + x2)) x3) (fun m7 => some (1, m7))))))))))))))
abbrev rm_M_lay : Room := { frames := 2, cells := 0, slots := 0, locals := 46 }
set_option maxRecDepth 4000 in
theorem sM_lay (X : Sc) (x1 : Int32) (x2 : Int32) (x3 : Int32) (m4 : Mem) : Sim X cX5_lay 4 (some .int) RX5 rm_M_lay (fun q : Int32 × Mem => q.1) (fun q : Int32 × Mem => q.2) 0 [(0, pR 5 0 0), (1, pI x1), (2, pI x2), (3, pI x3)] [] m4 (fM_lay x1 x2 x3 m4) := by
  unfold fM_lay
  refine sim_iload_n dX5_lay_0 rfl ?_
  refine sim_iconst (v := 0) dX5_lay_1 (by decide) ?_
  refine sim_callS (As := [pI x1, pI 0]) (rest := []) dX5_lay_2 ln_X5_292 me_X5_isSheet rfl (by decide) (Nat.le_of_ble_eq_true rfl) (Nat.le_of_ble_eq_true rfl) rfl (sM_isSheet X x1 0 m4) (fun x5 => ?_)
  refine sim_if_ne (tgt := 10) dX5_lay_5 (by decide) ?_ ?_
  · refine sim_iconst (v := (-1)) dX5_lay_8 (by decide) ?_
    exact sim_iret dX5_lay_9 rfl rfl
  · refine sim_aload_n dX5_lay_10 rfl ?_
    refine sim_get (v := pR 5 0 21) dX5_lay_11 fl_X5_44 (by decide) rfl ?_
    refine sim_iload_n dX5_lay_14 rfl ?_
    refine sim_iald dX5_lay_15 rfl (by decide) ?_
    refine sim_bipush (v := (-4)) dX5_lay_16 (by decide) ?_
    refine sim_icmp_ne (tgt := 24) dX5_lay_18 (by decide) ?_ ?_
    · refine sim_bipush (v := (-11)) dX5_lay_21 (by decide) ?_
      exact sim_iret dX5_lay_23 rfl rfl
    · refine sim_iload_n dX5_lay_24 rfl ?_
      refine sim_i2l dX5_lay_25 ?_
      refine sim_lconst (v := 0) dX5_lay_26 (by decide) ?_
      refine sim_aload_n dX5_lay_27 rfl ?_
      refine sim_get (v := pR 5 0 22) dX5_lay_28 fl_X5_47 (by decide) rfl ?_
      refine sim_iload_n dX5_lay_31 rfl ?_
      refine sim_iald dX5_lay_32 rfl (by decide) ?_
      refine sim_iconst (v := 1) dX5_lay_33 (by decide) ?_
      refine sim_isub dX5_lay_34 ?_
      refine sim_i2l dX5_lay_35 ?_
      refine sim_callS (As := [pL x2.toInt64, pL (0 : Int64), pL (((m4 (5, 0, 22) (ix x1)) - 1).toInt64)]) (rest := []) dX5_lay_36 ln_X5_55 me_X5_in rfl (by decide) (Nat.le_of_ble_eq_true rfl) (Nat.le_of_ble_eq_true rfl) rfl (sM_in X x2.toInt64 (0 : Int64) (((m4 (5, 0, 22) (ix x1)) - 1).toInt64) m4) (fun x6 => ?_)
      refine sim_if_ne (tgt := 45) dX5_lay_39 (by decide) ?_ ?_
      · refine sim_bipush (v := (-12)) dX5_lay_42 (by decide) ?_
        exact sim_iret dX5_lay_44 rfl rfl
      · refine sim_aload_n dX5_lay_45 rfl ?_
        refine sim_get (v := pR 5 0 23) dX5_lay_46 fl_X5_50 (by decide) rfl ?_
        refine sim_bipush (v := 40) dX5_lay_49 (by decide) ?_
        refine sim_iload_n dX5_lay_51 rfl ?_
        refine sim_imul dX5_lay_52 ?_
        refine sim_iload_n dX5_lay_53 rfl ?_
        refine sim_iadd dX5_lay_54 ?_
        refine sim_aload_n dX5_lay_55 rfl ?_
        refine sim_get (v := pR 5 0 21) dX5_lay_56 fl_X5_44 (by decide) rfl ?_
        refine sim_iload_n dX5_lay_59 rfl ?_
        refine sim_iald dX5_lay_60 rfl (by decide) ?_
        refine sim_if_ne (tgt := 69) dX5_lay_61 (by decide) ?_ ?_
        · refine sim_iload_n dX5_lay_64 rfl ?_
          refine sim_i2b dX5_lay_65 ?_
          refine sim_goto (tgt := 85) dX5_lay_66 (by decide) ?_
          refine sim_iast dX5_lay_85 rfl (by decide) (fun m9 => ?_)
          refine sim_iconst (v := 1) dX5_lay_86 (by decide) ?_
          exact sim_iret dX5_lay_87 rfl rfl
        · refine sim_aload_n dX5_lay_69 rfl ?_
          refine sim_get (v := pR 5 0 21) dX5_lay_70 fl_X5_44 (by decide) rfl ?_
          refine sim_iload_n dX5_lay_73 rfl ?_
          refine sim_iald dX5_lay_74 rfl (by decide) ?_
          refine sim_iconst (v := 1) dX5_lay_75 (by decide) ?_
          refine sim_icmp_ne (tgt := 84) dX5_lay_76 (by decide) ?_ ?_
          · refine sim_iload_n dX5_lay_79 rfl ?_
            refine sim_i2s dX5_lay_80 ?_
            refine sim_goto (tgt := 85) dX5_lay_81 (by decide) ?_
            refine sim_iast dX5_lay_85 rfl (by decide) (fun m8 => ?_)
            refine sim_iconst (v := 1) dX5_lay_86 (by decide) ?_
            exact sim_iret dX5_lay_87 rfl rfl
          · refine sim_iload_n dX5_lay_84 rfl ?_
            refine sim_iast dX5_lay_85 rfl (by decide) (fun m7 => ?_)
            refine sim_iconst (v := 1) dX5_lay_86 (by decide) ?_
            exact sim_iret dX5_lay_87 rfl rfl

def jM_read_207 (x12 : Int32) (x13 : Int32) (x14 : Int32) (m15 : Mem) : Option (Int32 × Mem) :=
  lt (wr m15 (5, 0, 0) 23 x12) (fun m16 => some (x13, m16))
def jM_read_188 (x18 : Int32) (x19 : Int32) (x20 : Int32) (x21 : Int32) (m22 : Mem) : Option (Int32 × Mem) :=
  Option.bind (fM_backBefore m22) (fun m23 => some ((-20) - x20, m23))
def jM_read_138 (x1 : Int32) (x3 : Int32) (s29 : Int32 → Int32 → Int32 → Mem → Option (Int32 × Mem)) (x26 : Int32) (x27 : Int32) (m28 : Mem) (x32 : Int32) (x33 : Int32) : Option (Int32 × Mem) :=
  if x32 = 0 then (lt (((40 * x1) + x3) + (3 * x27)) (fun (x35 : Int32) => gd (inb x35 160) (gd (inb (x35 + 1) 160) (gd (inb (x35 + 2) 160) (Option.bind (fM_add (m28 (5, 0, 23) (ix x35)) (m28 (5, 0, 23) (ix (x35 + 1))) (m28 (5, 0, 23) (ix (x35 + 2))) m28) (fun q36 => if 0 ≤ q36.1 then (lt (x26 + 1) (fun (x37 : Int32) => lt (x27 + 1) (fun (x38 : Int32) => s29 x32 x37 x38 q36.2))) else (jM_read_188 x32 x26 x27 x35 q36.2))))))) else (lt (x27 + 1) (fun (x34 : Int32) => s29 x32 x26 x34 m28))
def bM_read_51 (x1 : Int32) (x2 : Int32) (x3 : Int32) (s29 : Int32 → Int32 → Int32 → Mem → Option (Int32 × Mem)) (x26 : Int32) (x27 : Int32) (m28 : Mem) (s42 : Int32 → Int32 → Option (Int32 × Mem)) (x40 : Int32) (x41 : Int32) : Option (Int32 × Mem) :=
  if 3 ≤ x41 then (jM_read_138 x1 x3 s29 x26 x27 m28 x40 x41) else (if x40 = 0 then (lt ((x3.toInt64 + ((3 * x27).toInt64)) + x41.toInt64) (fun (y44 : Int64) => gd (inb x1 4) (if (m28 (5, 0, 21) (ix x1)) = (-4) then (lt 1 (fun (x53 : Int32) => lt (x41 + 1) (fun (x54 : Int32) => s42 x53 x54))) else (gd (inb x1 4) (if (m28 (5, 0, 21) (ix x1)) = x2 then (if (lg_cmp y44 (0 : Int64)) < 0 then (lt 2 (fun (x45 : Int32) => lt (x41 + 1) (fun (x46 : Int32) => s42 x45 x46))) else (gd (inb x1 4) (if (lg_cmp y44 ((m28 (5, 0, 22) (ix x1)).toInt64)) < 0 then (lt 0 (fun (x47 : Int32) => lt (x41 + 1) (fun (x48 : Int32) => s42 x47 x48))) else (lt 2 (fun (x49 : Int32) => lt (x41 + 1) (fun (x50 : Int32) => s42 x49 x50)))))) else (lt 3 (fun (x51 : Int32) => lt (x41 + 1) (fun (x52 : Int32) => s42 x51 x52)))))))) else (jM_read_138 x1 x3 s29 x26 x27 m28 x40 x41))
def bM_read_36 (x1 : Int32) (x2 : Int32) (x3 : Int32) (x4 : Int32) (s29 : Int32 → Int32 → Int32 → Mem → Option (Int32 × Mem)) (x25 : Int32) (x26 : Int32) (x27 : Int32) (m28 : Mem) : Option (Int32 × Mem) :=
  if x4 ≤ x27 then (jM_read_207 x25 x26 x27 m28) else (if x25 = 0 then (lt 0 (fun (x31 : Int32) => lz20 (bM_read_51 x1 x2 x3 s29 x26 x27 m28) FU x25 x31)) else (jM_read_207 x25 x26 x27 m28))
def fM_read (x1 : Int32) (x2 : Int32) (x3 : Int32) (x4 : Int32) (m5 : Mem) : Option (Int32 × Mem) :=
  Option.bind (fM_isSheet x1 x2 m5) (fun x6 => if x6 = 0 then (some ((-1), m5)) else (Option.bind (fM_in x4.toInt64 (0 : Int64) (10 : Int64) m5) (fun x7 => if x7 = 0 then (some ((-1), m5)) else (Option.bind (fM_keepBefore m5) (fun m8 => lt 0 (fun (x9 : Int32) => lt 0 (fun (x10 : Int32) => lt 0 (fun (x11 : Int32) => lz31 (bM_read_36 x1 x2 x3 x4) FU x9 x10 x11 m8))))))))
abbrev rm_M_read : Room := { frames := 7, cells := 0, slots := 0, locals := 163 }
set_option maxRecDepth 4000 in
theorem sM_read (X : Sc) (x1 : Int32) (x2 : Int32) (x3 : Int32) (x4 : Int32) (m5 : Mem) : Sim X cX5_read 11 (some .int) RX5 rm_M_read (fun q : Int32 × Mem => q.1) (fun q : Int32 × Mem => q.2) 0 [(0, pR 5 0 0), (1, pI x1), (2, pI x2), (3, pI x3), (4, pI x4)] [] m5 (fM_read x1 x2 x3 x4 m5) := by
  unfold fM_read
  refine sim_iload_n dX5_read_0 rfl ?_
  refine sim_iload_n dX5_read_1 rfl ?_
  refine sim_callS (As := [pI x1, pI x2]) (rest := []) dX5_read_2 ln_X5_292 me_X5_isSheet rfl (by decide) (Nat.le_of_ble_eq_true rfl) (Nat.le_of_ble_eq_true rfl) rfl (sM_isSheet X x1 x2 m5) (fun x6 => ?_)
  refine sim_if_eq (tgt := 21) dX5_read_5 (by decide) ?_ ?_
  · refine sim_iconst (v := (-1)) dX5_read_21 (by decide) ?_
    exact sim_iret dX5_read_22 rfl rfl
  · refine sim_iload dX5_read_8 rfl ?_
    refine sim_i2l dX5_read_10 ?_
    refine sim_lconst (v := 0) dX5_read_11 (by decide) ?_
    refine sim_ldc2 (v := 10) dX5_read_12 kl_X5_296 ?_
    refine sim_callS (As := [pL x4.toInt64, pL (0 : Int64), pL (10 : Int64)]) (rest := []) dX5_read_15 ln_X5_55 me_X5_in rfl (by decide) (Nat.le_of_ble_eq_true rfl) (Nat.le_of_ble_eq_true rfl) rfl (sM_in X x4.toInt64 (0 : Int64) (10 : Int64) m5) (fun x7 => ?_)
    refine sim_if_ne (tgt := 23) dX5_read_18 (by decide) ?_ ?_
    · refine sim_iconst (v := (-1)) dX5_read_21 (by decide) ?_
      exact sim_iret dX5_read_22 rfl rfl
    · refine sim_aload_n dX5_read_23 rfl ?_
      refine sim_callV (As := []) (rest := []) (k0 := 0) dX5_read_24 ln_X5_142 me_X5_keepBefore rfl (by decide) rfl (by decide) (Nat.le_of_ble_eq_true rfl) (Nat.le_of_ble_eq_true rfl) rfl (sM_keepBefore X m5) (fun m8 => ?_)
      refine sim_iconst (v := 0) dX5_read_27 (by decide) ?_
      refine sim_istore (fun z => [(0, pR 5 0 0), (1, pI x1), (2, pI x2), (3, pI x3), (4, pI x4), (5, pI z)]) [1, 2, 3, 4, 5, 0] dX5_read_28 (by decide) (fun _ => rfl) (fun x9 => ?_)
      refine sim_iconst (v := 0) dX5_read_30 (by decide) ?_
      refine sim_istore (fun z => [(0, pR 5 0 0), (1, pI x1), (2, pI x2), (3, pI x3), (4, pI x4), (5, pI x9), (6, pI z)]) [1, 2, 3, 4, 5, 6, 0] dX5_read_31 (by decide) (fun _ => rfl) (fun x10 => ?_)
      refine sim_iconst (v := 0) dX5_read_33 (by decide) ?_
      refine sim_istore (fun z => [(0, pR 5 0 0), (1, pI x1), (2, pI x2), (3, pI x3), (4, pI x4), (5, pI x9), (6, pI x10), (7, pI z)]) [1, 2, 3, 4, 5, 6, 7, 0] dX5_read_34 (by decide) (fun _ => rfl) (fun x11 => ?_)
      have hJ17 : ∀ (x12 : Int32) (x13 : Int32) (x14 : Int32) (m15 : Mem), Sim X cX5_read 11 (some .int) RX5 rm_M_read (fun q : Int32 × Mem => q.1) (fun q : Int32 × Mem => q.2) 207 [(0, pR 5 0 0), (1, pI x1), (2, pI x2), (3, pI x3), (4, pI x4), (5, pI x12), (6, pI x13), (7, pI x14)] [] m15 (jM_read_207 x12 x13 x14 m15) := by
        intro x12 x13 x14 m15
        unfold jM_read_207
        refine sim_aload_n dX5_read_207 rfl ?_
        refine sim_iload dX5_read_208 rfl ?_
        refine sim_put dX5_read_210 fl_X5_298 fp_5_23 rfl rfl (fun m16 => ?_)
        refine sim_iload dX5_read_213 rfl ?_
        exact sim_iret dX5_read_215 rfl rfl
      have hJ24 : ∀ (x18 : Int32) (x19 : Int32) (x20 : Int32) (x21 : Int32) (m22 : Mem), Sim X cX5_read 11 (some .int) RX5 rm_M_read (fun q : Int32 × Mem => q.1) (fun q : Int32 × Mem => q.2) 188 [(0, pR 5 0 0), (1, pI x1), (2, pI x2), (3, pI x3), (4, pI x4), (5, pI x18), (6, pI x19), (7, pI x20), (8, pI x21)] [] m22 (jM_read_188 x18 x19 x20 x21 m22) := by
        intro x18 x19 x20 x21 m22
        unfold jM_read_188
        refine sim_aload_n dX5_read_188 rfl ?_
        refine sim_callV (As := []) (rest := []) (k0 := 0) dX5_read_189 ln_X5_155 me_X5_backBefore rfl (by decide) rfl (by decide) (Nat.le_of_ble_eq_true rfl) (Nat.le_of_ble_eq_true rfl) rfl (sM_backBefore X m22) (fun m23 => ?_)
        refine sim_bipush (v := (-20)) dX5_read_192 (by decide) ?_
        refine sim_iload dX5_read_194 rfl ?_
        refine sim_isub dX5_read_196 ?_
        exact sim_iret dX5_read_197 rfl rfl
      refine sim_lz31 (fun z0 z1 z2 => [(0, pR 5 0 0), (1, pI x1), (2, pI x2), (3, pI x3), (4, pI x4), (5, pI z0), (6, pI z1), (7, pI z2)]) (fun s29 hs30 x25 x26 x27 m28 => ?_) FU x9 x10 x11 m8
      unfold bM_read_36
      refine sim_iload dX5_read_36 rfl ?_
      refine sim_iload dX5_read_38 rfl ?_
      refine sim_icmp_ge (tgt := 207) dX5_read_40 (by decide) ?_ ?_
      · exact hJ17 x25 x26 x27 m28
      · refine sim_iload dX5_read_43 rfl ?_
        refine sim_if_ne (tgt := 207) dX5_read_45 (by decide) ?_ ?_
        · refine sim_iconst (v := 0) dX5_read_48 (by decide) ?_
          refine sim_istore (fun z => [(0, pR 5 0 0), (1, pI x1), (2, pI x2), (3, pI x3), (4, pI x4), (5, pI x25), (6, pI x26), (7, pI x27), (8, pI z)]) [1, 2, 3, 4, 5, 6, 7, 8, 0] dX5_read_49 (by decide) (fun _ => rfl) (fun x31 => ?_)
          have hJ39 : ∀ (x32 : Int32) (x33 : Int32), Sim X cX5_read 11 (some .int) RX5 rm_M_read (fun q : Int32 × Mem => q.1) (fun q : Int32 × Mem => q.2) 138 [(0, pR 5 0 0), (1, pI x1), (2, pI x2), (3, pI x3), (4, pI x4), (5, pI x32), (6, pI x26), (7, pI x27), (8, pI x33)] [] m28 (jM_read_138 x1 x3 s29 x26 x27 m28 x32 x33) := by
            intro x32 x33
            unfold jM_read_138
            refine sim_iload dX5_read_138 rfl ?_
            refine sim_if_ne (tgt := 201) dX5_read_140 (by decide) ?_ ?_
            · refine sim_bipush (v := 40) dX5_read_143 (by decide) ?_
              refine sim_iload_n dX5_read_145 rfl ?_
              refine sim_imul dX5_read_146 ?_
              refine sim_iload_n dX5_read_147 rfl ?_
              refine sim_iadd dX5_read_148 ?_
              refine sim_iconst (v := 3) dX5_read_149 (by decide) ?_
              refine sim_iload dX5_read_150 rfl ?_
              refine sim_imul dX5_read_152 ?_
              refine sim_iadd dX5_read_153 ?_
              refine sim_istore (fun z => [(0, pR 5 0 0), (1, pI x1), (2, pI x2), (3, pI x3), (4, pI x4), (5, pI x32), (6, pI x26), (7, pI x27), (8, pI z)]) [1, 2, 3, 4, 5, 6, 7, 8, 0] dX5_read_154 (by decide) (fun _ => rfl) (fun x35 => ?_)
              refine sim_aload_n dX5_read_156 rfl ?_
              refine sim_aload_n dX5_read_157 rfl ?_
              refine sim_get (v := pR 5 0 23) dX5_read_158 fl_X5_50 (by decide) rfl ?_
              refine sim_iload dX5_read_161 rfl ?_
              refine sim_iald dX5_read_163 rfl (by decide) ?_
              refine sim_aload_n dX5_read_164 rfl ?_
              refine sim_get (v := pR 5 0 23) dX5_read_165 fl_X5_50 (by decide) rfl ?_
              refine sim_iload dX5_read_168 rfl ?_
              refine sim_iconst (v := 1) dX5_read_170 (by decide) ?_
              refine sim_iadd dX5_read_171 ?_
              refine sim_iald dX5_read_172 rfl (by decide) ?_
              refine sim_aload_n dX5_read_173 rfl ?_
              refine sim_get (v := pR 5 0 23) dX5_read_174 fl_X5_50 (by decide) rfl ?_
              refine sim_iload dX5_read_177 rfl ?_
              refine sim_iconst (v := 2) dX5_read_179 (by decide) ?_
              refine sim_iadd dX5_read_180 ?_
              refine sim_iald dX5_read_181 rfl (by decide) ?_
              refine sim_callV (As := [pI (m28 (5, 0, 23) (ix x35)), pI (m28 (5, 0, 23) (ix (x35 + 1))), pI (m28 (5, 0, 23) (ix (x35 + 2)))]) (rest := []) (k0 := 0) dX5_read_182 ln_X5_287 me_X5_add rfl (by decide) rfl (by decide) (Nat.le_of_ble_eq_true rfl) (Nat.le_of_ble_eq_true rfl) rfl (sM_add X (m28 (5, 0, 23) (ix x35)) (m28 (5, 0, 23) (ix (x35 + 1))) (m28 (5, 0, 23) (ix (x35 + 2))) m28) (fun q36 => ?_)
              refine sim_if_ge (tgt := 198) dX5_read_185 (by decide) ?_ ?_
              · refine sim_iinc (y := 1) (fun z => [(0, pR 5 0 0), (1, pI x1), (2, pI x2), (3, pI x3), (4, pI x4), (5, pI x32), (6, pI z), (7, pI x27), (8, pI x35)]) [1, 2, 3, 4, 5, 6, 0, 7, 8] dX5_read_198 rfl (by decide) (by decide) (fun _ => rfl) (fun x37 => ?_)
                refine sim_iinc (y := 1) (fun z => [(0, pR 5 0 0), (1, pI x1), (2, pI x2), (3, pI x3), (4, pI x4), (5, pI x32), (6, pI x37), (7, pI z), (8, pI x35)]) [1, 2, 3, 4, 5, 6, 7, 0, 8] dX5_read_201 rfl (by decide) (by decide) (fun _ => rfl) (fun x38 => ?_)
                refine sim_goto (tgt := 36) dX5_read_204 (by decide) ?_
                refine sim_pick [(0, pR 5 0 0), (1, pI x1), (2, pI x2), (3, pI x3), (4, pI x4), (5, pI x32), (6, pI x37), (7, pI x38)] [0, 1, 2, 3, 4, 5, 6, 7] rfl ?_
                exact hs30 x32 x37 x38 q36.2
              · exact hJ24 x32 x26 x27 x35 q36.2
            · refine sim_iinc (y := 1) (fun z => [(0, pR 5 0 0), (1, pI x1), (2, pI x2), (3, pI x3), (4, pI x4), (5, pI x32), (6, pI x26), (7, pI z), (8, pI x33)]) [1, 2, 3, 4, 5, 6, 7, 0, 8] dX5_read_201 rfl (by decide) (by decide) (fun _ => rfl) (fun x34 => ?_)
              refine sim_goto (tgt := 36) dX5_read_204 (by decide) ?_
              refine sim_pick [(0, pR 5 0 0), (1, pI x1), (2, pI x2), (3, pI x3), (4, pI x4), (5, pI x32), (6, pI x26), (7, pI x34)] [0, 1, 2, 3, 4, 5, 6, 7] rfl ?_
              exact hs30 x32 x26 x34 m28
          refine sim_lz20 (fun z0 z1 => [(0, pR 5 0 0), (1, pI x1), (2, pI x2), (3, pI x3), (4, pI x4), (5, pI z0), (6, pI x26), (7, pI x27), (8, pI z1)]) (fun s42 hs43 x40 x41 => ?_) FU x25 x31
          unfold bM_read_51
          refine sim_iload dX5_read_51 rfl ?_
          refine sim_iconst (v := 3) dX5_read_53 (by decide) ?_
          refine sim_icmp_ge (tgt := 138) dX5_read_54 (by decide) ?_ ?_
          · exact hJ39 x40 x41
          · refine sim_iload dX5_read_57 rfl ?_
            refine sim_if_ne (tgt := 138) dX5_read_59 (by decide) ?_ ?_
            · refine sim_iload_n dX5_read_62 rfl ?_
              refine sim_i2l dX5_read_63 ?_
              refine sim_iconst (v := 3) dX5_read_64 (by decide) ?_
              refine sim_iload dX5_read_65 rfl ?_
              refine sim_imul dX5_read_67 ?_
              refine sim_i2l dX5_read_68 ?_
              refine sim_ladd dX5_read_69 ?_
              refine sim_iload dX5_read_70 rfl ?_
              refine sim_i2l dX5_read_72 ?_
              refine sim_ladd dX5_read_73 ?_
              refine sim_lstore (fun z => [(0, pR 5 0 0), (1, pI x1), (2, pI x2), (3, pI x3), (4, pI x4), (5, pI x40), (6, pI x26), (7, pI x27), (8, pI x41), (9, pL z)]) [1, 2, 3, 4, 5, 6, 7, 8, 9, 0] dX5_read_74 (by decide) (fun _ => rfl) (fun y44 => ?_)
              refine sim_aload_n dX5_read_76 rfl ?_
              refine sim_get (v := pR 5 0 21) dX5_read_77 fl_X5_44 (by decide) rfl ?_
              refine sim_iload_n dX5_read_80 rfl ?_
              refine sim_iald dX5_read_81 rfl (by decide) ?_
              refine sim_bipush (v := (-4)) dX5_read_82 (by decide) ?_
              refine sim_icmp_ne (tgt := 91) dX5_read_84 (by decide) ?_ ?_
              · refine sim_iconst (v := 1) dX5_read_87 (by decide) ?_
                refine sim_goto (tgt := 130) dX5_read_88 (by decide) ?_
                refine sim_istore (fun z => [(0, pR 5 0 0), (1, pI x1), (2, pI x2), (3, pI x3), (4, pI x4), (5, pI z), (6, pI x26), (7, pI x27), (8, pI x41), (9, pL y44)]) [1, 2, 3, 4, 5, 0, 6, 7, 8, 9] dX5_read_130 (by decide) (fun _ => rfl) (fun x53 => ?_)
                refine sim_iinc (y := 1) (fun z => [(0, pR 5 0 0), (1, pI x1), (2, pI x2), (3, pI x3), (4, pI x4), (5, pI x53), (6, pI x26), (7, pI x27), (8, pI z), (9, pL y44)]) [1, 2, 3, 4, 5, 6, 7, 8, 0, 9] dX5_read_132 rfl (by decide) (by decide) (fun _ => rfl) (fun x54 => ?_)
                refine sim_goto (tgt := 51) dX5_read_135 (by decide) ?_
                refine sim_pick [(0, pR 5 0 0), (1, pI x1), (2, pI x2), (3, pI x3), (4, pI x4), (5, pI x53), (6, pI x26), (7, pI x27), (8, pI x54)] [0, 1, 2, 3, 4, 5, 6, 7, 8] rfl ?_
                exact hs43 x53 x54
              · refine sim_aload_n dX5_read_91 rfl ?_
                refine sim_get (v := pR 5 0 21) dX5_read_92 fl_X5_44 (by decide) rfl ?_
                refine sim_iload_n dX5_read_95 rfl ?_
                refine sim_iald dX5_read_96 rfl (by decide) ?_
                refine sim_iload_n dX5_read_97 rfl ?_
                refine sim_icmp_eq (tgt := 105) dX5_read_98 (by decide) ?_ ?_
                · refine sim_lload dX5_read_105 rfl ?_
                  refine sim_lconst (v := 0) dX5_read_107 (by decide) ?_
                  refine sim_lcmp dX5_read_108 ?_
                  refine sim_if_lt (tgt := 125) dX5_read_109 (by decide) ?_ ?_
                  · refine sim_iconst (v := 2) dX5_read_125 (by decide) ?_
                    refine sim_goto (tgt := 130) dX5_read_126 (by decide) ?_
                    refine sim_istore (fun z => [(0, pR 5 0 0), (1, pI x1), (2, pI x2), (3, pI x3), (4, pI x4), (5, pI z), (6, pI x26), (7, pI x27), (8, pI x41), (9, pL y44)]) [1, 2, 3, 4, 5, 0, 6, 7, 8, 9] dX5_read_130 (by decide) (fun _ => rfl) (fun x45 => ?_)
                    refine sim_iinc (y := 1) (fun z => [(0, pR 5 0 0), (1, pI x1), (2, pI x2), (3, pI x3), (4, pI x4), (5, pI x45), (6, pI x26), (7, pI x27), (8, pI z), (9, pL y44)]) [1, 2, 3, 4, 5, 6, 7, 8, 0, 9] dX5_read_132 rfl (by decide) (by decide) (fun _ => rfl) (fun x46 => ?_)
                    refine sim_goto (tgt := 51) dX5_read_135 (by decide) ?_
                    refine sim_pick [(0, pR 5 0 0), (1, pI x1), (2, pI x2), (3, pI x3), (4, pI x4), (5, pI x45), (6, pI x26), (7, pI x27), (8, pI x46)] [0, 1, 2, 3, 4, 5, 6, 7, 8] rfl ?_
                    exact hs43 x45 x46
                  · refine sim_lload dX5_read_112 rfl ?_
                    refine sim_aload_n dX5_read_114 rfl ?_
                    refine sim_get (v := pR 5 0 22) dX5_read_115 fl_X5_47 (by decide) rfl ?_
                    refine sim_iload_n dX5_read_118 rfl ?_
                    refine sim_iald dX5_read_119 rfl (by decide) ?_
                    refine sim_i2l dX5_read_120 ?_
                    refine sim_lcmp dX5_read_121 ?_
                    refine sim_if_lt (tgt := 129) dX5_read_122 (by decide) ?_ ?_
                    · refine sim_iconst (v := 0) dX5_read_129 (by decide) ?_
                      refine sim_istore (fun z => [(0, pR 5 0 0), (1, pI x1), (2, pI x2), (3, pI x3), (4, pI x4), (5, pI z), (6, pI x26), (7, pI x27), (8, pI x41), (9, pL y44)]) [1, 2, 3, 4, 5, 0, 6, 7, 8, 9] dX5_read_130 (by decide) (fun _ => rfl) (fun x47 => ?_)
                      refine sim_iinc (y := 1) (fun z => [(0, pR 5 0 0), (1, pI x1), (2, pI x2), (3, pI x3), (4, pI x4), (5, pI x47), (6, pI x26), (7, pI x27), (8, pI z), (9, pL y44)]) [1, 2, 3, 4, 5, 6, 7, 8, 0, 9] dX5_read_132 rfl (by decide) (by decide) (fun _ => rfl) (fun x48 => ?_)
                      refine sim_goto (tgt := 51) dX5_read_135 (by decide) ?_
                      refine sim_pick [(0, pR 5 0 0), (1, pI x1), (2, pI x2), (3, pI x3), (4, pI x4), (5, pI x47), (6, pI x26), (7, pI x27), (8, pI x48)] [0, 1, 2, 3, 4, 5, 6, 7, 8] rfl ?_
                      exact hs43 x47 x48
                    · refine sim_iconst (v := 2) dX5_read_125 (by decide) ?_
                      refine sim_goto (tgt := 130) dX5_read_126 (by decide) ?_
                      refine sim_istore (fun z => [(0, pR 5 0 0), (1, pI x1), (2, pI x2), (3, pI x3), (4, pI x4), (5, pI z), (6, pI x26), (7, pI x27), (8, pI x41), (9, pL y44)]) [1, 2, 3, 4, 5, 0, 6, 7, 8, 9] dX5_read_130 (by decide) (fun _ => rfl) (fun x49 => ?_)
                      refine sim_iinc (y := 1) (fun z => [(0, pR 5 0 0), (1, pI x1), (2, pI x2), (3, pI x3), (4, pI x4), (5, pI x49), (6, pI x26), (7, pI x27), (8, pI z), (9, pL y44)]) [1, 2, 3, 4, 5, 6, 7, 8, 0, 9] dX5_read_132 rfl (by decide) (by decide) (fun _ => rfl) (fun x50 => ?_)
                      refine sim_goto (tgt := 51) dX5_read_135 (by decide) ?_
                      refine sim_pick [(0, pR 5 0 0), (1, pI x1), (2, pI x2), (3, pI x3), (4, pI x4), (5, pI x49), (6, pI x26), (7, pI x27), (8, pI x50)] [0, 1, 2, 3, 4, 5, 6, 7, 8] rfl ?_
                      exact hs43 x49 x50
                · refine sim_iconst (v := 3) dX5_read_101 (by decide) ?_
                  refine sim_goto (tgt := 130) dX5_read_102 (by decide) ?_
                  refine sim_istore (fun z => [(0, pR 5 0 0), (1, pI x1), (2, pI x2), (3, pI x3), (4, pI x4), (5, pI z), (6, pI x26), (7, pI x27), (8, pI x41), (9, pL y44)]) [1, 2, 3, 4, 5, 0, 6, 7, 8, 9] dX5_read_130 (by decide) (fun _ => rfl) (fun x51 => ?_)
                  refine sim_iinc (y := 1) (fun z => [(0, pR 5 0 0), (1, pI x1), (2, pI x2), (3, pI x3), (4, pI x4), (5, pI x51), (6, pI x26), (7, pI x27), (8, pI z), (9, pL y44)]) [1, 2, 3, 4, 5, 6, 7, 8, 0, 9] dX5_read_132 rfl (by decide) (by decide) (fun _ => rfl) (fun x52 => ?_)
                  refine sim_goto (tgt := 51) dX5_read_135 (by decide) ?_
                  refine sim_pick [(0, pR 5 0 0), (1, pI x1), (2, pI x2), (3, pI x3), (4, pI x4), (5, pI x51), (6, pI x26), (7, pI x27), (8, pI x52)] [0, 1, 2, 3, 4, 5, 6, 7, 8] rfl ?_
                  exact hs43 x51 x52
            · exact hJ39 x40 x41
        · exact hJ17 x25 x26 x27 m28

def fM_torn (m1 : Mem) : Option Int32 :=
  some (m1 (5, 0, 0) 23)
abbrev rm_M_torn : Room := { frames := 0, cells := 0, slots := 0, locals := 0 }
set_option maxRecDepth 4000 in
theorem sM_torn (X : Sc) (m1 : Mem) : Sim X cX5_torn 1 (some .int) RX5 rm_M_torn (fun r : Int32 => r) (fun _ : Int32 => m1) 0 [(0, pR 5 0 0)] [] m1 (fM_torn m1) := by
  unfold fM_torn
  refine sim_aload_n dX5_torn_0 rfl ?_
  refine sim_get (v := pI (m1 (5, 0, 0) 23)) dX5_torn_1 fl_X5_298 (by decide) rfl ?_
  exact sim_iret dX5_torn_4 rfl rfl

def bM_summed_6 (x1 : Int32) (x2 : Int32) (x3 : Int32) (m4 : Mem) (s9 : Int32 → Int32 → Option Int32) (x7 : Int32) (x8 : Int32) : Option Int32 :=
  if x3 ≤ x8 then (some x7) else (gd (inb (x1 + (x2 * x8)) 238) (lt (x7 + (m4 (5, 0, 1) (ix (x1 + (x2 * x8))))) (fun (x11 : Int32) => lt (x8 + 1) (fun (x12 : Int32) => s9 x11 x12))))
def fM_summed (x1 : Int32) (x2 : Int32) (x3 : Int32) (m4 : Mem) : Option Int32 :=
  lt 0 (fun (x5 : Int32) => lt 0 (fun (x6 : Int32) => lz20 (bM_summed_6 x1 x2 x3 m4) FU x5 x6))
abbrev rm_M_summed : Room := { frames := 0, cells := 0, slots := 0, locals := 0 }
set_option maxRecDepth 4000 in
theorem sM_summed (X : Sc) (x1 : Int32) (x2 : Int32) (x3 : Int32) (m4 : Mem) : Sim X cX5_summed 6 (some .int) RX5 rm_M_summed (fun r : Int32 => r) (fun _ : Int32 => m4) 0 [(0, pR 5 0 0), (1, pI x1), (2, pI x2), (3, pI x3)] [] m4 (fM_summed x1 x2 x3 m4) := by
  unfold fM_summed
  refine sim_iconst (v := 0) dX5_summed_0 (by decide) ?_
  refine sim_istore (fun z => [(0, pR 5 0 0), (1, pI x1), (2, pI x2), (3, pI x3), (4, pI z)]) [1, 2, 3, 4, 0] dX5_summed_1 (by decide) (fun _ => rfl) (fun x5 => ?_)
  refine sim_iconst (v := 0) dX5_summed_3 (by decide) ?_
  refine sim_istore (fun z => [(0, pR 5 0 0), (1, pI x1), (2, pI x2), (3, pI x3), (4, pI x5), (5, pI z)]) [1, 2, 3, 4, 5, 0] dX5_summed_4 (by decide) (fun _ => rfl) (fun x6 => ?_)
  refine sim_lz20 (fun z0 z1 => [(0, pR 5 0 0), (1, pI x1), (2, pI x2), (3, pI x3), (4, pI z0), (5, pI z1)]) (fun s9 hs10 x7 x8 => ?_) FU x5 x6
  unfold bM_summed_6
  refine sim_iload dX5_summed_6 rfl ?_
  refine sim_iload_n dX5_summed_8 rfl ?_
  refine sim_icmp_ge (tgt := 34) dX5_summed_9 (by decide) ?_ ?_
  · refine sim_iload dX5_summed_34 rfl ?_
    exact sim_iret dX5_summed_36 rfl rfl
  · refine sim_iload dX5_summed_12 rfl ?_
    refine sim_aload_n dX5_summed_14 rfl ?_
    refine sim_get (v := pR 5 0 1) dX5_summed_15 fl_X5_7 (by decide) rfl ?_
    refine sim_iload_n dX5_summed_18 rfl ?_
    refine sim_iload_n dX5_summed_19 rfl ?_
    refine sim_iload dX5_summed_20 rfl ?_
    refine sim_imul dX5_summed_22 ?_
    refine sim_iadd dX5_summed_23 ?_
    refine sim_iald dX5_summed_24 rfl (by decide) ?_
    refine sim_iadd dX5_summed_25 ?_
    refine sim_istore (fun z => [(0, pR 5 0 0), (1, pI x1), (2, pI x2), (3, pI x3), (4, pI z), (5, pI x8)]) [1, 2, 3, 4, 0, 5] dX5_summed_26 (by decide) (fun _ => rfl) (fun x11 => ?_)
    refine sim_iinc (y := 1) (fun z => [(0, pR 5 0 0), (1, pI x1), (2, pI x2), (3, pI x3), (4, pI x11), (5, pI z)]) [1, 2, 3, 4, 5, 0] dX5_summed_28 rfl (by decide) (by decide) (fun _ => rfl) (fun x12 => ?_)
    refine sim_goto (tgt := 6) dX5_summed_31 (by decide) ?_
    exact hs10 x11 x12

def fM_count (x1 : Int32) (m2 : Mem) : Option Int32 :=
  if x1 = 0 then (gd (inb 0 2) (Option.bind (fM_flag (m2 (5, 0, 5) (ix 0)) m2) (fun x3 => gd (inb 1 2) (Option.bind (fM_flag (m2 (5, 0, 5) (ix 1)) m2) (fun x4 => some (x3 + x4)))))) else (if x1 = 1 then (gd (inb 0 238) (Option.bind (fM_summed 4 5 (m2 (5, 0, 1) (ix 0)) m2) (fun x6 => some x6))) else (if x1 = 2 then (some (m2 (5, 0, 0) 6)) else (if x1 = 3 then (gd (inb 0 4) (if (m2 (5, 0, 21) (ix 0)) = (-4) then (some (-4)) else (gd (inb 0 4) (some (m2 (5, 0, 22) (ix 0)))))) else (if x1 = 4 then (gd (inb 1 238) (Option.bind (fM_summed 36 6 (m2 (5, 0, 1) (ix 1)) m2) (fun x10 => some x10))) else (if x1 = 5 then (gd (inb 0 238) (Option.bind (fM_summed 8 5 ((m2 (5, 0, 1) (ix 0)) - 1) m2) (fun x12 => some x12))) else (some (-1)))))))
abbrev rm_M_count : Room := { frames := 1, cells := 0, slots := 0, locals := 25 }
set_option maxRecDepth 4000 in
theorem sM_count (X : Sc) (x1 : Int32) (m2 : Mem) : Sim X cX5_count 2 (some .int) RX5 rm_M_count (fun r : Int32 => r) (fun _ : Int32 => m2) 0 [(0, pR 5 0 0), (1, pI x1)] [] m2 (fM_count x1 m2) := by
  unfold fM_count
  refine sim_iload_n dX5_count_0 rfl ?_
  refine sim_case ?_ (fun hc5 => ?_)
  · refine sim_tab (off := 39) (tgt := 40) dX5_count_1 (by decide) (by decide) (by decide) (by decide) ?_
    refine sim_aload_n dX5_count_40 rfl ?_
    refine sim_get (v := pR 5 0 5) dX5_count_41 fl_X5_22 (by decide) rfl ?_
    refine sim_iconst (v := 0) dX5_count_44 (by decide) ?_
    refine sim_zald dX5_count_45 rfl (by decide) ?_
    refine sim_callS (As := [pI (m2 (5, 0, 5) (ix 0))]) (rest := []) dX5_count_46 ln_X5_167 me_X5_flag rfl (by decide) (Nat.le_of_ble_eq_true rfl) (Nat.le_of_ble_eq_true rfl) rfl (sM_flag X (m2 (5, 0, 5) (ix 0)) m2) (fun x3 => ?_)
    refine sim_aload_n dX5_count_49 rfl ?_
    refine sim_get (v := pR 5 0 5) dX5_count_50 fl_X5_22 (by decide) rfl ?_
    refine sim_iconst (v := 1) dX5_count_53 (by decide) ?_
    refine sim_zald dX5_count_54 rfl (by decide) ?_
    refine sim_callS (As := [pI (m2 (5, 0, 5) (ix 1))]) (rest := [pI x3]) dX5_count_55 ln_X5_167 me_X5_flag rfl (by decide) (Nat.le_of_ble_eq_true rfl) (Nat.le_of_ble_eq_true rfl) rfl (sM_flag X (m2 (5, 0, 5) (ix 1)) m2) (fun x4 => ?_)
    refine sim_iadd dX5_count_58 ?_
    exact sim_iret dX5_count_59 rfl rfl
  · refine sim_case ?_ (fun hc7 => ?_)
    · refine sim_tab (off := 59) (tgt := 60) dX5_count_1 (by decide) (by decide) (by decide) (by decide) ?_
      refine sim_aload_n dX5_count_60 rfl ?_
      refine sim_iconst (v := 4) dX5_count_61 (by decide) ?_
      refine sim_iconst (v := 5) dX5_count_62 (by decide) ?_
      refine sim_aload_n dX5_count_63 rfl ?_
      refine sim_get (v := pR 5 0 1) dX5_count_64 fl_X5_7 (by decide) rfl ?_
      refine sim_iconst (v := 0) dX5_count_67 (by decide) ?_
      refine sim_iald dX5_count_68 rfl (by decide) ?_
      refine sim_callV (As := [pI 4, pI 5, pI (m2 (5, 0, 1) (ix 0))]) (rest := []) (k0 := 0) dX5_count_69 ln_X5_301 me_X5_summed rfl (by decide) rfl (by decide) (Nat.le_of_ble_eq_true rfl) (Nat.le_of_ble_eq_true rfl) rfl (sM_summed X 4 5 (m2 (5, 0, 1) (ix 0)) m2) (fun x6 => ?_)
      exact sim_iret dX5_count_72 rfl rfl
    · refine sim_case ?_ (fun hc8 => ?_)
      · refine sim_tab (off := 72) (tgt := 73) dX5_count_1 (by decide) (by decide) (by decide) (by decide) ?_
        refine sim_aload_n dX5_count_73 rfl ?_
        refine sim_get (v := pI (m2 (5, 0, 0) 6)) dX5_count_74 fl_X5_59 (by decide) rfl ?_
        exact sim_iret dX5_count_77 rfl rfl
      · refine sim_case ?_ (fun hc9 => ?_)
        · refine sim_tab (off := 77) (tgt := 78) dX5_count_1 (by decide) (by decide) (by decide) (by decide) ?_
          refine sim_aload_n dX5_count_78 rfl ?_
          refine sim_get (v := pR 5 0 21) dX5_count_79 fl_X5_44 (by decide) rfl ?_
          refine sim_iconst (v := 0) dX5_count_82 (by decide) ?_
          refine sim_iald dX5_count_83 rfl (by decide) ?_
          refine sim_bipush (v := (-4)) dX5_count_84 (by decide) ?_
          refine sim_icmp_ne (tgt := 94) dX5_count_86 (by decide) ?_ ?_
          · refine sim_bipush (v := (-4)) dX5_count_89 (by decide) ?_
            refine sim_goto (tgt := 100) dX5_count_91 (by decide) ?_
            exact sim_iret dX5_count_100 rfl rfl
          · refine sim_aload_n dX5_count_94 rfl ?_
            refine sim_get (v := pR 5 0 22) dX5_count_95 fl_X5_47 (by decide) rfl ?_
            refine sim_iconst (v := 0) dX5_count_98 (by decide) ?_
            refine sim_iald dX5_count_99 rfl (by decide) ?_
            exact sim_iret dX5_count_100 rfl rfl
        · refine sim_case ?_ (fun hc11 => ?_)
          · refine sim_tab (off := 100) (tgt := 101) dX5_count_1 (by decide) (by decide) (by decide) (by decide) ?_
            refine sim_aload_n dX5_count_101 rfl ?_
            refine sim_bipush (v := 36) dX5_count_102 (by decide) ?_
            refine sim_bipush (v := 6) dX5_count_104 (by decide) ?_
            refine sim_aload_n dX5_count_106 rfl ?_
            refine sim_get (v := pR 5 0 1) dX5_count_107 fl_X5_7 (by decide) rfl ?_
            refine sim_iconst (v := 1) dX5_count_110 (by decide) ?_
            refine sim_iald dX5_count_111 rfl (by decide) ?_
            refine sim_callV (As := [pI 36, pI 6, pI (m2 (5, 0, 1) (ix 1))]) (rest := []) (k0 := 0) dX5_count_112 ln_X5_301 me_X5_summed rfl (by decide) rfl (by decide) (Nat.le_of_ble_eq_true rfl) (Nat.le_of_ble_eq_true rfl) rfl (sM_summed X 36 6 (m2 (5, 0, 1) (ix 1)) m2) (fun x10 => ?_)
            exact sim_iret dX5_count_115 rfl rfl
          · refine sim_case ?_ (fun hc13 => ?_)
            · refine sim_tab (off := 115) (tgt := 116) dX5_count_1 (by decide) (by decide) (by decide) (by decide) ?_
              refine sim_aload_n dX5_count_116 rfl ?_
              refine sim_bipush (v := 8) dX5_count_117 (by decide) ?_
              refine sim_iconst (v := 5) dX5_count_119 (by decide) ?_
              refine sim_aload_n dX5_count_120 rfl ?_
              refine sim_get (v := pR 5 0 1) dX5_count_121 fl_X5_7 (by decide) rfl ?_
              refine sim_iconst (v := 0) dX5_count_124 (by decide) ?_
              refine sim_iald dX5_count_125 rfl (by decide) ?_
              refine sim_iconst (v := 1) dX5_count_126 (by decide) ?_
              refine sim_isub dX5_count_127 ?_
              refine sim_callV (As := [pI 8, pI 5, pI ((m2 (5, 0, 1) (ix 0)) - 1)]) (rest := []) (k0 := 0) dX5_count_128 ln_X5_301 me_X5_summed rfl (by decide) rfl (by decide) (Nat.le_of_ble_eq_true rfl) (Nat.le_of_ble_eq_true rfl) rfl (sM_summed X 8 5 ((m2 (5, 0, 1) (ix 0)) - 1) m2) (fun x12 => ?_)
              exact sim_iret dX5_count_131 rfl rfl
            · have e0_ := ne_lit hc5 (n := 0) (by decide)
              have e1_ := ne_lit hc7 (n := 1) (by decide)
              have e2_ := ne_lit hc8 (n := 2) (by decide)
              have e3_ := ne_lit hc9 (n := 3) (by decide)
              have e4_ := ne_lit hc11 (n := 4) (by decide)
              have e5_ := ne_lit hc13 (n := 5) (by decide)
              refine sim_tabd (tgt := 132) dX5_count_1 (by omega) (by decide) ?_
              refine sim_iconst (v := (-1)) dX5_count_132 (by decide) ?_
              exact sim_iret dX5_count_133 rfl rfl
