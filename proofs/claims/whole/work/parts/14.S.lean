def fS_renew (k1 : Nat) (x2 : Int32) (x3 : Int32) (m4 : Mem) : Option Mem :=
  lt (wr m4 (3, k1, 0) 2 x2) (fun m5 => lt (wr m5 (3, k1, 0) 0 x3) (fun m6 => Option.bind (fJ_fill_3_2 k1 0 m6) (fun m7 => some m7)))
abbrev rm_S_renew : Room := { frames := 1, cells := 0, slots := 0, locals := 23 }
set_option maxRecDepth 4000 in
theorem sS_renew (X : Sc) (k1 : Nat) (x2 : Int32) (x3 : Int32) (m4 : Mem) : Sim X cX3_renew 3 none RX3 rm_S_renew (fun _ : Mem => 0) (fun m : Mem => m) 0 [(0, pR 3 k1 0), (1, pI x2), (2, pI x3)] [] m4 (fS_renew k1 x2 x3 m4) := by
  unfold fS_renew
  refine sim_aload_n dX3_renew_0 rfl ?_
  refine sim_iload_n dX3_renew_1 rfl ?_
  refine sim_put dX3_renew_2 fl_X3_19 fp_3_2 rfl rfl (fun m5 => ?_)
  refine sim_aload_n dX3_renew_5 rfl ?_
  refine sim_iload_n dX3_renew_6 rfl ?_
  refine sim_put dX3_renew_7 fl_X3_9 fp_3_0 rfl rfl (fun m6 => ?_)
  refine sim_aload_n dX3_renew_10 rfl ?_
  refine sim_get (v := pR 3 k1 2) dX3_renew_11 fl_X3_15 (by decide) rfl ?_
  refine sim_iconst (v := 0) dX3_renew_14 (by decide) ?_
  refine sim_callS (As := [pR 3 k1 2, pI 0]) (rest := []) dX3_renew_15 ln_X3_22 me_J7_fill_53178 rfl (by decide) (Nat.le_of_ble_eq_true rfl) (Nat.le_of_ble_eq_true rfl) rfl (sJ_fill_3_2 X k1 0 m6) (fun m7 => ?_)
  exact sim_ret dX3_renew_18 rfl

def fS_faultOfCell (k1 : Nat) (x2 : Int32) (m3 : Mem) : Option Int32 :=
  if 0 ≤ (m3 (3, k1, 0) 0) then (if x2 < 0 then (some 2) else (if x2 < (m3 (3, k1, 0) 0) then (some 0) else (some 2))) else (some 1)
abbrev rm_S_faultOfCell : Room := { frames := 0, cells := 0, slots := 0, locals := 0 }
set_option maxRecDepth 4000 in
theorem sS_faultOfCell (X : Sc) (k1 : Nat) (x2 : Int32) (m3 : Mem) : Sim X cX3_faultOfCell 2 (some .int) RX3 rm_S_faultOfCell (fun r : Int32 => r) (fun _ : Int32 => m3) 0 [(0, pR 3 k1 0), (1, pI x2)] [] m3 (fS_faultOfCell k1 x2 m3) := by
  unfold fS_faultOfCell
  refine sim_aload_n dX3_faultOfCell_0 rfl ?_
  refine sim_get (v := pI (m3 (3, k1, 0) 0)) dX3_faultOfCell_1 fl_X3_9 (by decide) rfl ?_
  refine sim_if_ge (tgt := 9) dX3_faultOfCell_4 (by decide) ?_ ?_
  · refine sim_iload_n dX3_faultOfCell_9 rfl ?_
    refine sim_if_lt (tgt := 21) dX3_faultOfCell_10 (by decide) ?_ ?_
    · refine sim_iconst (v := 2) dX3_faultOfCell_21 (by decide) ?_
      refine sim_goto (tgt := 26) dX3_faultOfCell_22 (by decide) ?_
      exact sim_iret dX3_faultOfCell_26 rfl rfl
    · refine sim_iload_n dX3_faultOfCell_13 rfl ?_
      refine sim_aload_n dX3_faultOfCell_14 rfl ?_
      refine sim_get (v := pI (m3 (3, k1, 0) 0)) dX3_faultOfCell_15 fl_X3_9 (by decide) rfl ?_
      refine sim_icmp_lt (tgt := 25) dX3_faultOfCell_18 (by decide) ?_ ?_
      · refine sim_iconst (v := 0) dX3_faultOfCell_25 (by decide) ?_
        exact sim_iret dX3_faultOfCell_26 rfl rfl
      · refine sim_iconst (v := 2) dX3_faultOfCell_21 (by decide) ?_
        refine sim_goto (tgt := 26) dX3_faultOfCell_22 (by decide) ?_
        exact sim_iret dX3_faultOfCell_26 rfl rfl
  · refine sim_iconst (v := 1) dX3_faultOfCell_7 (by decide) ?_
    exact sim_iret dX3_faultOfCell_8 rfl rfl

def fS_faultOfThree (k1 : Nat) (x2 : Int32) (x3 : Int32) (m4 : Mem) : Option Int32 :=
  if 0 ≤ (m4 (3, k1, 0) 0) then (if x2 = (m4 (3, k1, 0) 2) then (if x3 < 0 then (some 2) else (if x3 ≤ ((m4 (3, k1, 0) 0) - 3) then (some 0) else (some 2))) else (some 3)) else (some 1)
abbrev rm_S_faultOfThree : Room := { frames := 0, cells := 0, slots := 0, locals := 0 }
set_option maxRecDepth 4000 in
theorem sS_faultOfThree (X : Sc) (k1 : Nat) (x2 : Int32) (x3 : Int32) (m4 : Mem) : Sim X cX3_faultOfThree 3 (some .int) RX3 rm_S_faultOfThree (fun r : Int32 => r) (fun _ : Int32 => m4) 0 [(0, pR 3 k1 0), (1, pI x2), (2, pI x3)] [] m4 (fS_faultOfThree k1 x2 x3 m4) := by
  unfold fS_faultOfThree
  refine sim_aload_n dX3_faultOfThree_0 rfl ?_
  refine sim_get (v := pI (m4 (3, k1, 0) 0)) dX3_faultOfThree_1 fl_X3_9 (by decide) rfl ?_
  refine sim_if_ge (tgt := 9) dX3_faultOfThree_4 (by decide) ?_ ?_
  · refine sim_iload_n dX3_faultOfThree_9 rfl ?_
    refine sim_aload_n dX3_faultOfThree_10 rfl ?_
    refine sim_get (v := pI (m4 (3, k1, 0) 2)) dX3_faultOfThree_11 fl_X3_19 (by decide) rfl ?_
    refine sim_icmp_eq (tgt := 19) dX3_faultOfThree_14 (by decide) ?_ ?_
    · refine sim_iload_n dX3_faultOfThree_19 rfl ?_
      refine sim_if_lt (tgt := 33) dX3_faultOfThree_20 (by decide) ?_ ?_
      · refine sim_iconst (v := 2) dX3_faultOfThree_33 (by decide) ?_
        refine sim_goto (tgt := 38) dX3_faultOfThree_34 (by decide) ?_
        exact sim_iret dX3_faultOfThree_38 rfl rfl
      · refine sim_iload_n dX3_faultOfThree_23 rfl ?_
        refine sim_aload_n dX3_faultOfThree_24 rfl ?_
        refine sim_get (v := pI (m4 (3, k1, 0) 0)) dX3_faultOfThree_25 fl_X3_9 (by decide) rfl ?_
        refine sim_iconst (v := 3) dX3_faultOfThree_28 (by decide) ?_
        refine sim_isub dX3_faultOfThree_29 ?_
        refine sim_icmp_le (tgt := 37) dX3_faultOfThree_30 (by decide) ?_ ?_
        · refine sim_iconst (v := 0) dX3_faultOfThree_37 (by decide) ?_
          exact sim_iret dX3_faultOfThree_38 rfl rfl
        · refine sim_iconst (v := 2) dX3_faultOfThree_33 (by decide) ?_
          refine sim_goto (tgt := 38) dX3_faultOfThree_34 (by decide) ?_
          exact sim_iret dX3_faultOfThree_38 rfl rfl
    · refine sim_iconst (v := 3) dX3_faultOfThree_17 (by decide) ?_
      exact sim_iret dX3_faultOfThree_18 rfl rfl
  · refine sim_iconst (v := 1) dX3_faultOfThree_7 (by decide) ?_
    exact sim_iret dX3_faultOfThree_8 rfl rfl

def fS_put (k1 : Nat) (x2 : Int32) (x3 : Int32) (m4 : Mem) : Option Mem :=
  if (m4 (3, k1, 0) 2) = 0 then (gd (inb x2 40) (lt (wr m4 (3, k1, 2) (ix x2) x3.toInt8.toInt32) (fun m5 => some m5))) else (if (m4 (3, k1, 0) 2) = 1 then (gd (inb x2 40) (lt (wr m4 (3, k1, 2) (ix x2) x3.toInt16.toInt32) (fun m7 => some m7))) else (gd (inb x2 40) (lt (wr m4 (3, k1, 2) (ix x2) x3) (fun m9 => some m9))))
abbrev rm_S_put : Room := { frames := 0, cells := 0, slots := 0, locals := 0 }
set_option maxRecDepth 4000 in
theorem sS_put (X : Sc) (k1 : Nat) (x2 : Int32) (x3 : Int32) (m4 : Mem) : Sim X cX3_put 3 none RX3 rm_S_put (fun _ : Mem => 0) (fun m : Mem => m) 0 [(0, pR 3 k1 0), (1, pI x2), (2, pI x3)] [] m4 (fS_put k1 x2 x3 m4) := by
  unfold fS_put
  refine sim_aload_n dX3_put_0 rfl ?_
  refine sim_get (v := pI (m4 (3, k1, 0) 2)) dX3_put_1 fl_X3_19 (by decide) rfl ?_
  refine sim_case ?_ (fun hc6 => ?_)
  · refine sim_look (off := 28) (tgt := 32) dX3_put_4 (by decide) (by decide) (by decide) ?_
    refine sim_aload_n dX3_put_32 rfl ?_
    refine sim_get (v := pR 3 k1 2) dX3_put_33 fl_X3_15 (by decide) rfl ?_
    refine sim_iload_n dX3_put_36 rfl ?_
    refine sim_iload_n dX3_put_37 rfl ?_
    refine sim_i2b dX3_put_38 ?_
    refine sim_iast dX3_put_39 rfl (by decide) (fun m5 => ?_)
    refine sim_goto (tgt := 61) dX3_put_40 (by decide) ?_
    exact sim_ret dX3_put_61 rfl
  · refine sim_case ?_ (fun hc8 => ?_)
    · refine sim_look (off := 39) (tgt := 43) dX3_put_4 (by decide) (by decide) (by decide) ?_
      refine sim_aload_n dX3_put_43 rfl ?_
      refine sim_get (v := pR 3 k1 2) dX3_put_44 fl_X3_15 (by decide) rfl ?_
      refine sim_iload_n dX3_put_47 rfl ?_
      refine sim_iload_n dX3_put_48 rfl ?_
      refine sim_i2s dX3_put_49 ?_
      refine sim_iast dX3_put_50 rfl (by decide) (fun m7 => ?_)
      refine sim_goto (tgt := 61) dX3_put_51 (by decide) ?_
      exact sim_ret dX3_put_61 rfl
    · have e0_ := ne_lit hc6 (n := 0) (by decide)
      have e1_ := ne_lit hc8 (n := 1) (by decide)
      refine sim_look (off := 50) (tgt := 54) dX3_put_4 (by decide) (by rw [Op.lookupswitch.offset_cons, if_neg (fun z => e0_ z.symm), Op.lookupswitch.offset_cons, if_neg (fun z => e1_ z.symm), Op.lookupswitch.offset_nil]) (by decide) ?_
      refine sim_aload_n dX3_put_54 rfl ?_
      refine sim_get (v := pR 3 k1 2) dX3_put_55 fl_X3_15 (by decide) rfl ?_
      refine sim_iload_n dX3_put_58 rfl ?_
      refine sim_iload_n dX3_put_59 rfl ?_
      refine sim_iast dX3_put_60 rfl (by decide) (fun m9 => ?_)
      exact sim_ret dX3_put_61 rfl
