def jR_kindOf_28 (x1 : Int32) : Option Int32 :=
  if x1 = 59 then (some 3) else (some 4)
def jR_kindOf_14 (x1 : Int32) : Option Int32 :=
  if x1 < 48 then (jR_kindOf_28 x1) else (if 57 < x1 then (jR_kindOf_28 x1) else (some 2))
def fR_kindOf (x1 : Int32) (m2 : Mem) : Option Int32 :=
  if x1 < 97 then (jR_kindOf_14 x1) else (if 122 < x1 then (jR_kindOf_14 x1) else (some 1))
abbrev rm_R_kindOf : Room := { frames := 0, cells := 0, slots := 0, locals := 0 }
set_option maxRecDepth 4000 in
theorem sR_kindOf (X : Sc) (x1 : Int32) (m2 : Mem) : Sim X cX2_kindOf 1 (some .int) RX2 rm_R_kindOf (fun r : Int32 => r) (fun _ : Int32 => m2) 0 [(0, pI x1)] [] m2 (fR_kindOf x1 m2) := by
  unfold fR_kindOf
  refine sim_iload_n dX2_kindOf_0 rfl ?_
  refine sim_bipush (v := 97) dX2_kindOf_1 (by decide) ?_
  have hJ4 : Sim X cX2_kindOf 1 (some .int) RX2 rm_R_kindOf (fun r : Int32 => r) (fun _ : Int32 => m2) 14 [(0, pI x1)] [] m2 (jR_kindOf_14 x1) := by
    unfold jR_kindOf_14
    refine sim_iload_n dX2_kindOf_14 rfl ?_
    refine sim_bipush (v := 48) dX2_kindOf_15 (by decide) ?_
    have hJ3 : Sim X cX2_kindOf 1 (some .int) RX2 rm_R_kindOf (fun r : Int32 => r) (fun _ : Int32 => m2) 28 [(0, pI x1)] [] m2 (jR_kindOf_28 x1) := by
      unfold jR_kindOf_28
      refine sim_iload_n dX2_kindOf_28 rfl ?_
      refine sim_bipush (v := 59) dX2_kindOf_29 (by decide) ?_
      refine sim_icmp_ne (tgt := 38) dX2_kindOf_31 (by decide) ?_ ?_
      · refine sim_iconst (v := 3) dX2_kindOf_34 (by decide) ?_
        refine sim_goto (tgt := 39) dX2_kindOf_35 (by decide) ?_
        exact sim_iret dX2_kindOf_39 rfl rfl
      · refine sim_iconst (v := 4) dX2_kindOf_38 (by decide) ?_
        exact sim_iret dX2_kindOf_39 rfl rfl
    refine sim_icmp_lt (tgt := 28) dX2_kindOf_17 (by decide) ?_ ?_
    · exact hJ3
    · refine sim_iload_n dX2_kindOf_20 rfl ?_
      refine sim_bipush (v := 57) dX2_kindOf_21 (by decide) ?_
      refine sim_icmp_gt (tgt := 28) dX2_kindOf_23 (by decide) ?_ ?_
      · exact hJ3
      · refine sim_iconst (v := 2) dX2_kindOf_26 (by decide) ?_
        exact sim_iret dX2_kindOf_27 rfl rfl
  refine sim_icmp_lt (tgt := 14) dX2_kindOf_3 (by decide) ?_ ?_
  · exact hJ4
  · refine sim_iload_n dX2_kindOf_6 rfl ?_
    refine sim_bipush (v := 122) dX2_kindOf_7 (by decide) ?_
    refine sim_icmp_gt (tgt := 14) dX2_kindOf_9 (by decide) ?_ ?_
    · exact hJ4
    · refine sim_iconst (v := 1) dX2_kindOf_12 (by decide) ?_
      exact sim_iret dX2_kindOf_13 rfl rfl

def fR_fail (x1 : Int32) (m2 : Mem) : Option (Int32 × Mem) :=
  lt (wr m2 (2, 0, 0) 2 x1) (fun m3 => lt (wr m3 (2, 0, 0) 3 (m3 (2, 0, 0) 5)) (fun m4 => some (0, m4)))
abbrev rm_R_fail : Room := { frames := 0, cells := 0, slots := 0, locals := 0 }
set_option maxRecDepth 4000 in
theorem sR_fail (X : Sc) (x1 : Int32) (m2 : Mem) : Sim X cX2_fail 2 (some .boolean) RX2 rm_R_fail (fun q : Int32 × Mem => q.1) (fun q : Int32 × Mem => q.2) 0 [(0, pR 2 0 0), (1, pI x1)] [] m2 (fR_fail x1 m2) := by
  unfold fR_fail
  refine sim_aload_n dX2_fail_0 rfl ?_
  refine sim_iload_n dX2_fail_1 rfl ?_
  refine sim_put dX2_fail_2 fl_X2_20 fp_2_2 rfl rfl (fun m3 => ?_)
  refine sim_aload_n dX2_fail_5 rfl ?_
  refine sim_aload_n dX2_fail_6 rfl ?_
  refine sim_get (v := pI (m3 (2, 0, 0) 5)) dX2_fail_7 fl_X2_44 (by decide) rfl ?_
  refine sim_put dX2_fail_10 fl_X2_24 fp_2_3 rfl rfl (fun m4 => ?_)
  refine sim_iconst (v := 0) dX2_fail_13 (by decide) ?_
  exact sim_zret dX2_fail_14 rfl rfl rfl

def jR_takeToken_198 (m9 : Mem) : Option (Int32 × Mem) :=
  Option.bind (fR_fail 1 m9) (fun q12 => if q12.1 = 0 then (some (0, q12.2)) else (some (1, q12.2)))
def jR_takeToken_159 (m9 : Mem) : Option (Int32 × Mem) :=
  lt (if (m9 (2, 0, 0) 6) = 2 then (if ((m9 (2, 0, 0) 4) - (m9 (2, 0, 0) 5)) ≤ 2 then 0 else 1) else 0) (fun (x10 : Int32) => lt x10 (fun (x11 : Int32) => if (m9 (2, 0, 0) 6) = 4 then (jR_takeToken_198 m9) else (if x11 = 0 then (some (1, m9)) else (jR_takeToken_198 m9))))
def bR_takeToken_112 (x8 : Int32) (s17 : Mem → Option (Int32 × Mem)) (m16 : Mem) : Option (Int32 × Mem) :=
  if x8 = 0 then (jR_takeToken_159 m16) else (if (m16 (2, 0, 0) 1) ≤ (m16 (2, 0, 0) 4) then (jR_takeToken_159 m16) else (gd (inb (m16 (2, 0, 0) 4) 160) (Option.bind (fR_kindOf (m16 (2, 0, 1) (ix (m16 (2, 0, 0) 4))) m16) (fun x19 => if x19 = (m16 (2, 0, 0) 6) then (lt (wr m16 (2, 0, 0) 4 ((m16 (2, 0, 0) 4) + 1)) (fun m20 => s17 m20)) else (jR_takeToken_159 m16)))))
def jR_takeToken_38 (m2 : Mem) : Option (Int32 × Mem) :=
  lt (wr m2 (2, 0, 0) 5 (m2 (2, 0, 0) 4)) (fun m3 => if (m3 (2, 0, 0) 4) < (m3 (2, 0, 0) 1) then (gd (inb (m3 (2, 0, 0) 4) 160) (Option.bind (fR_kindOf (m3 (2, 0, 1) (ix (m3 (2, 0, 0) 4))) m3) (fun x4 => lt (wr m3 (2, 0, 0) 6 x4) (fun m5 => lt (wr m5 (2, 0, 0) 4 ((m5 (2, 0, 0) 4) + 1)) (fun m6 => lt (if (m6 (2, 0, 0) 6) = 1 then 1 else (if (m6 (2, 0, 0) 6) = 2 then 1 else 0)) (fun (x7 : Int32) => lt x7 (fun (x8 : Int32) => lz01 (bR_takeToken_112 x8) FU m6))))))) else (lt (wr m3 (2, 0, 0) 6 0) (fun m22 => some (1, m22))))
def bR_takeToken_0 (s25 : Mem → Option (Int32 × Mem)) (m24 : Mem) : Option (Int32 × Mem) :=
  if (m24 (2, 0, 0) 1) ≤ (m24 (2, 0, 0) 4) then (jR_takeToken_38 m24) else (gd (inb (m24 (2, 0, 0) 4) 160) (if (m24 (2, 0, 1) (ix (m24 (2, 0, 0) 4))) = 32 then (lt (wr m24 (2, 0, 0) 4 ((m24 (2, 0, 0) 4) + 1)) (fun m27 => s25 m27)) else (jR_takeToken_38 m24)))
def fR_takeToken (m1 : Mem) : Option (Int32 × Mem) :=
  lz01 (bR_takeToken_0) FU m1
abbrev rm_R_takeToken : Room := { frames := 1, cells := 0, slots := 0, locals := 21 }
set_option maxRecDepth 4000 in
theorem sR_takeToken (X : Sc) (m1 : Mem) : Sim X cX2_takeToken 3 (some .boolean) RX2 rm_R_takeToken (fun q : Int32 × Mem => q.1) (fun q : Int32 × Mem => q.2) 0 [(0, pR 2 0 0)] [] m1 (fR_takeToken m1) := by
  unfold fR_takeToken
  have hJ23 : ∀ (m2 : Mem), Sim X cX2_takeToken 3 (some .boolean) RX2 rm_R_takeToken (fun q : Int32 × Mem => q.1) (fun q : Int32 × Mem => q.2) 38 [(0, pR 2 0 0)] [] m2 (jR_takeToken_38 m2) := by
    intro m2
    unfold jR_takeToken_38
    refine sim_aload_n dX2_takeToken_38 rfl ?_
    refine sim_aload_n dX2_takeToken_39 rfl ?_
    refine sim_get (v := pI (m2 (2, 0, 0) 4)) dX2_takeToken_40 fl_X2_27 (by decide) rfl ?_
    refine sim_put dX2_takeToken_43 fl_X2_44 fp_2_5 rfl rfl (fun m3 => ?_)
    refine sim_aload_n dX2_takeToken_46 rfl ?_
    refine sim_get (v := pI (m3 (2, 0, 0) 4)) dX2_takeToken_47 fl_X2_27 (by decide) rfl ?_
    refine sim_aload_n dX2_takeToken_50 rfl ?_
    refine sim_get (v := pI (m3 (2, 0, 0) 1)) dX2_takeToken_51 fl_X2_41 (by decide) rfl ?_
    refine sim_icmp_lt (tgt := 64) dX2_takeToken_54 (by decide) ?_ ?_
    · refine sim_aload_n dX2_takeToken_64 rfl ?_
      refine sim_aload_n dX2_takeToken_65 rfl ?_
      refine sim_get (v := pR 2 0 1) dX2_takeToken_66 fl_X2_9 (by decide) rfl ?_
      refine sim_aload_n dX2_takeToken_69 rfl ?_
      refine sim_get (v := pI (m3 (2, 0, 0) 4)) dX2_takeToken_70 fl_X2_27 (by decide) rfl ?_
      refine sim_bald dX2_takeToken_73 rfl (by decide) ?_
      refine sim_callS (As := [pI (m3 (2, 0, 1) (ix (m3 (2, 0, 0) 4)))]) (rest := [pR 2 0 0]) dX2_takeToken_74 ln_X2_104 me_X2_kindOf rfl (by decide) (Nat.le_of_ble_eq_true rfl) (Nat.le_of_ble_eq_true rfl) rfl (sR_kindOf X (m3 (2, 0, 1) (ix (m3 (2, 0, 0) 4))) m3) (fun x4 => ?_)
      refine sim_put dX2_takeToken_77 fl_X2_34 fp_2_6 rfl rfl (fun m5 => ?_)
      refine sim_aload_n dX2_takeToken_80 rfl ?_
      refine sim_dup dX2_takeToken_81 rfl ?_
      refine sim_get (v := pI (m5 (2, 0, 0) 4)) dX2_takeToken_82 fl_X2_27 (by decide) rfl ?_
      refine sim_iconst (v := 1) dX2_takeToken_85 (by decide) ?_
      refine sim_iadd dX2_takeToken_86 ?_
      refine sim_put dX2_takeToken_87 fl_X2_27 fp_2_4 rfl rfl (fun m6 => ?_)
      refine sim_aload_n dX2_takeToken_90 rfl ?_
      refine sim_get (v := pI (m6 (2, 0, 0) 6)) dX2_takeToken_91 fl_X2_34 (by decide) rfl ?_
      refine sim_iconst (v := 1) dX2_takeToken_94 (by decide) ?_
      refine sim_jv 111 [(0, pR 2 0 0)] [] (fun x7 => ?_) (fun hV21 => ?_)
      · refine sim_istore_n (fun z => [(0, pR 2 0 0), (1, pI z)]) [1, 0] dX2_takeToken_111 (by decide) (fun _ => rfl) (fun x8 => ?_)
        have hJ15 : ∀ (m9 : Mem), Sim X cX2_takeToken 3 (some .boolean) RX2 rm_R_takeToken (fun q : Int32 × Mem => q.1) (fun q : Int32 × Mem => q.2) 159 [(0, pR 2 0 0), (1, pI x8)] [] m9 (jR_takeToken_159 m9) := by
          intro m9
          unfold jR_takeToken_159
          refine sim_aload_n dX2_takeToken_159 rfl ?_
          refine sim_get (v := pI (m9 (2, 0, 0) 6)) dX2_takeToken_160 fl_X2_34 (by decide) rfl ?_
          refine sim_iconst (v := 2) dX2_takeToken_163 (by decide) ?_
          refine sim_jv 185 [(0, pR 2 0 0), (1, pI x8)] [] (fun x10 => ?_) (fun hV14 => ?_)
          · refine sim_istore_n (fun z => [(0, pR 2 0 0), (1, pI x8), (2, pI z)]) [1, 2, 0] dX2_takeToken_185 (by decide) (fun _ => rfl) (fun x11 => ?_)
            refine sim_aload_n dX2_takeToken_186 rfl ?_
            refine sim_get (v := pI (m9 (2, 0, 0) 6)) dX2_takeToken_187 fl_X2_34 (by decide) rfl ?_
            refine sim_iconst (v := 4) dX2_takeToken_190 (by decide) ?_
            have hJ13 : Sim X cX2_takeToken 3 (some .boolean) RX2 rm_R_takeToken (fun q : Int32 × Mem => q.1) (fun q : Int32 × Mem => q.2) 198 [(0, pR 2 0 0), (1, pI x8), (2, pI x11)] [] m9 (jR_takeToken_198 m9) := by
              unfold jR_takeToken_198
              refine sim_aload_n dX2_takeToken_198 rfl ?_
              refine sim_iconst (v := 1) dX2_takeToken_199 (by decide) ?_
              refine sim_callV (As := [pI 1]) (rest := []) (k0 := 0) dX2_takeToken_200 ln_X2_66 me_X2_fail rfl (by decide) rfl (by decide) (Nat.le_of_ble_eq_true rfl) (Nat.le_of_ble_eq_true rfl) rfl (sR_fail X 1 m9) (fun q12 => ?_)
              refine sim_if_eq (tgt := 210) dX2_takeToken_203 (by decide) ?_ ?_
              · refine sim_iconst (v := 0) dX2_takeToken_210 (by decide) ?_
                exact sim_zret dX2_takeToken_211 rfl rfl rfl
              · refine sim_iconst (v := 1) dX2_takeToken_206 (by decide) ?_
                refine sim_goto (tgt := 211) dX2_takeToken_207 (by decide) ?_
                exact sim_zret dX2_takeToken_211 rfl rfl rfl
            refine sim_icmp_eq (tgt := 198) dX2_takeToken_191 (by decide) ?_ ?_
            · exact hJ13
            · refine sim_iload_n dX2_takeToken_194 rfl ?_
              refine sim_if_eq (tgt := 206) dX2_takeToken_195 (by decide) ?_ ?_
              · refine sim_iconst (v := 1) dX2_takeToken_206 (by decide) ?_
                refine sim_goto (tgt := 211) dX2_takeToken_207 (by decide) ?_
                exact sim_zret dX2_takeToken_211 rfl rfl rfl
              · exact hJ13
          · refine sim_eq (lt_ite _ _ _ _) ?_
            refine sim_icmp_ne (tgt := 184) dX2_takeToken_164 (by decide) ?_ ?_
            · refine sim_aload_n dX2_takeToken_167 rfl ?_
              refine sim_get (v := pI (m9 (2, 0, 0) 4)) dX2_takeToken_168 fl_X2_27 (by decide) rfl ?_
              refine sim_aload_n dX2_takeToken_171 rfl ?_
              refine sim_get (v := pI (m9 (2, 0, 0) 5)) dX2_takeToken_172 fl_X2_44 (by decide) rfl ?_
              refine sim_isub dX2_takeToken_175 ?_
              refine sim_iconst (v := 2) dX2_takeToken_176 (by decide) ?_
              refine sim_eq (lt_ite _ _ _ _) ?_
              refine sim_icmp_le (tgt := 184) dX2_takeToken_177 (by decide) ?_ ?_
              · refine sim_iconst (v := 0) dX2_takeToken_184 (by decide) ?_
                exact hV14 _
              · refine sim_iconst (v := 1) dX2_takeToken_180 (by decide) ?_
                refine sim_goto (tgt := 185) dX2_takeToken_181 (by decide) ?_
                exact hV14 _
            · refine sim_iconst (v := 0) dX2_takeToken_184 (by decide) ?_
              exact hV14 _
        refine sim_lz01 ([(0, pR 2 0 0), (1, pI x8)]) (fun s17 hs18 m16 => ?_) FU m6
        unfold bR_takeToken_112
        refine sim_iload_n dX2_takeToken_112 rfl ?_
        refine sim_if_eq (tgt := 159) dX2_takeToken_113 (by decide) ?_ ?_
        · exact hJ15 m16
        · refine sim_aload_n dX2_takeToken_116 rfl ?_
          refine sim_get (v := pI (m16 (2, 0, 0) 4)) dX2_takeToken_117 fl_X2_27 (by decide) rfl ?_
          refine sim_aload_n dX2_takeToken_120 rfl ?_
          refine sim_get (v := pI (m16 (2, 0, 0) 1)) dX2_takeToken_121 fl_X2_41 (by decide) rfl ?_
          refine sim_icmp_ge (tgt := 159) dX2_takeToken_124 (by decide) ?_ ?_
          · exact hJ15 m16
          · refine sim_aload_n dX2_takeToken_127 rfl ?_
            refine sim_get (v := pR 2 0 1) dX2_takeToken_128 fl_X2_9 (by decide) rfl ?_
            refine sim_aload_n dX2_takeToken_131 rfl ?_
            refine sim_get (v := pI (m16 (2, 0, 0) 4)) dX2_takeToken_132 fl_X2_27 (by decide) rfl ?_
            refine sim_bald dX2_takeToken_135 rfl (by decide) ?_
            refine sim_callS (As := [pI (m16 (2, 0, 1) (ix (m16 (2, 0, 0) 4)))]) (rest := []) dX2_takeToken_136 ln_X2_104 me_X2_kindOf rfl (by decide) (Nat.le_of_ble_eq_true rfl) (Nat.le_of_ble_eq_true rfl) rfl (sR_kindOf X (m16 (2, 0, 1) (ix (m16 (2, 0, 0) 4))) m16) (fun x19 => ?_)
            refine sim_aload_n dX2_takeToken_139 rfl ?_
            refine sim_get (v := pI (m16 (2, 0, 0) 6)) dX2_takeToken_140 fl_X2_34 (by decide) rfl ?_
            refine sim_icmp_ne (tgt := 159) dX2_takeToken_143 (by decide) ?_ ?_
            · refine sim_aload_n dX2_takeToken_146 rfl ?_
              refine sim_dup dX2_takeToken_147 rfl ?_
              refine sim_get (v := pI (m16 (2, 0, 0) 4)) dX2_takeToken_148 fl_X2_27 (by decide) rfl ?_
              refine sim_iconst (v := 1) dX2_takeToken_151 (by decide) ?_
              refine sim_iadd dX2_takeToken_152 ?_
              refine sim_put dX2_takeToken_153 fl_X2_27 fp_2_4 rfl rfl (fun m20 => ?_)
              refine sim_goto (tgt := 112) dX2_takeToken_156 (by decide) ?_
              exact hs18 m20
            · exact hJ15 m16
      · refine sim_eq (lt_ite _ _ _ _) ?_
        refine sim_icmp_eq (tgt := 106) dX2_takeToken_95 (by decide) ?_ ?_
        · refine sim_iconst (v := 1) dX2_takeToken_106 (by decide) ?_
          refine sim_goto (tgt := 111) dX2_takeToken_107 (by decide) ?_
          exact hV21 _
        · refine sim_aload_n dX2_takeToken_98 rfl ?_
          refine sim_get (v := pI (m6 (2, 0, 0) 6)) dX2_takeToken_99 fl_X2_34 (by decide) rfl ?_
          refine sim_iconst (v := 2) dX2_takeToken_102 (by decide) ?_
          refine sim_eq (lt_ite _ _ _ _) ?_
          refine sim_icmp_ne (tgt := 110) dX2_takeToken_103 (by decide) ?_ ?_
          · refine sim_iconst (v := 1) dX2_takeToken_106 (by decide) ?_
            refine sim_goto (tgt := 111) dX2_takeToken_107 (by decide) ?_
            exact hV21 _
          · refine sim_iconst (v := 0) dX2_takeToken_110 (by decide) ?_
            exact hV21 _
    · refine sim_aload_n dX2_takeToken_57 rfl ?_
      refine sim_iconst (v := 0) dX2_takeToken_58 (by decide) ?_
      refine sim_put dX2_takeToken_59 fl_X2_34 fp_2_6 rfl rfl (fun m22 => ?_)
      refine sim_iconst (v := 1) dX2_takeToken_62 (by decide) ?_
      exact sim_zret dX2_takeToken_63 rfl rfl rfl
  refine sim_lz01 ([(0, pR 2 0 0)]) (fun s25 hs26 m24 => ?_) FU m1
  unfold bR_takeToken_0
  refine sim_aload_n dX2_takeToken_0 rfl ?_
  refine sim_get (v := pI (m24 (2, 0, 0) 4)) dX2_takeToken_1 fl_X2_27 (by decide) rfl ?_
  refine sim_aload_n dX2_takeToken_4 rfl ?_
  refine sim_get (v := pI (m24 (2, 0, 0) 1)) dX2_takeToken_5 fl_X2_41 (by decide) rfl ?_
  refine sim_icmp_ge (tgt := 38) dX2_takeToken_8 (by decide) ?_ ?_
  · exact hJ23 m24
  · refine sim_aload_n dX2_takeToken_11 rfl ?_
    refine sim_get (v := pR 2 0 1) dX2_takeToken_12 fl_X2_9 (by decide) rfl ?_
    refine sim_aload_n dX2_takeToken_15 rfl ?_
    refine sim_get (v := pI (m24 (2, 0, 0) 4)) dX2_takeToken_16 fl_X2_27 (by decide) rfl ?_
    refine sim_bald dX2_takeToken_19 rfl (by decide) ?_
    refine sim_bipush (v := 32) dX2_takeToken_20 (by decide) ?_
    refine sim_icmp_ne (tgt := 38) dX2_takeToken_22 (by decide) ?_ ?_
    · refine sim_aload_n dX2_takeToken_25 rfl ?_
      refine sim_dup dX2_takeToken_26 rfl ?_
      refine sim_get (v := pI (m24 (2, 0, 0) 4)) dX2_takeToken_27 fl_X2_27 (by decide) rfl ?_
      refine sim_iconst (v := 1) dX2_takeToken_30 (by decide) ?_
      refine sim_iadd dX2_takeToken_31 ?_
      refine sim_put dX2_takeToken_32 fl_X2_27 fp_2_4 rfl rfl (fun m27 => ?_)
      refine sim_goto (tgt := 0) dX2_takeToken_35 (by decide) ?_
      exact hs26 m27
    · exact hJ23 m24

def bR_isWord_28 (k1 : Nat) (m2 : Mem) (s6 : Int32 → Option Int32) (x5 : Int32) : Option Int32 :=
  Option.bind (fJ_length k1 m2) (fun x8 => if x8 ≤ x5 then (some 1) else (gd (inb ((m2 (2, 0, 0) 5) + x5) 160) (Option.bind (fJ_charAt k1 x5 m2) (fun x9 => if (m2 (2, 0, 1) (ix ((m2 (2, 0, 0) 5) + x5))) = x9 then (lt (x5 + 1) (fun (x10 : Int32) => s6 x10)) else (some 0)))))
def fR_isWord (k1 : Nat) (m2 : Mem) : Option Int32 :=
  if (m2 (2, 0, 0) 6) = 1 then (Option.bind (fJ_length k1 m2) (fun x3 => if ((m2 (2, 0, 0) 4) - (m2 (2, 0, 0) 5)) = x3 then (lt 0 (fun (x4 : Int32) => lz10 (bR_isWord_28 k1 m2) FU x4)) else (some 0))) else (some 0)
abbrev rm_R_isWord : Room := { frames := 4, cells := 0, slots := 0, locals := 85 }
set_option maxRecDepth 4000 in
theorem sR_isWord (X : Sc) (k1 : Nat) (m2 : Mem) : Sim X cX2_isWord 3 (some .boolean) RX2 rm_R_isWord (fun r : Int32 => r) (fun _ : Int32 => m2) 0 [(0, pR 2 0 0), (1, pR 6 k1 0)] [] m2 (fR_isWord k1 m2) := by
  unfold fR_isWord
  refine sim_aload_n dX2_isWord_0 rfl ?_
  refine sim_get (v := pI (m2 (2, 0, 0) 6)) dX2_isWord_1 fl_X2_34 (by decide) rfl ?_
  refine sim_iconst (v := 1) dX2_isWord_4 (by decide) ?_
  refine sim_icmp_ne (tgt := 24) dX2_isWord_5 (by decide) ?_ ?_
  · refine sim_aload_n dX2_isWord_8 rfl ?_
    refine sim_get (v := pI (m2 (2, 0, 0) 4)) dX2_isWord_9 fl_X2_27 (by decide) rfl ?_
    refine sim_aload_n dX2_isWord_12 rfl ?_
    refine sim_get (v := pI (m2 (2, 0, 0) 5)) dX2_isWord_13 fl_X2_44 (by decide) rfl ?_
    refine sim_isub dX2_isWord_16 ?_
    refine sim_aload_n dX2_isWord_17 rfl ?_
    refine sim_callT (As := []) (rest := [pI ((m2 (2, 0, 0) 4) - (m2 (2, 0, 0) 5))]) (k0 := k1) dX2_isWord_18 ln_X2_108 me_J0_length_8abf5 rfl rfl (by decide) (Nat.le_of_ble_eq_true rfl) (Nat.le_of_ble_eq_true rfl) rfl (sJ_length X k1 m2) (fun x3 => ?_)
    refine sim_icmp_eq (tgt := 26) dX2_isWord_21 (by decide) ?_ ?_
    · refine sim_iconst (v := 0) dX2_isWord_26 (by decide) ?_
      refine sim_istore_n (fun z => [(0, pR 2 0 0), (1, pR 6 k1 0), (2, pI z)]) [1, 2, 0] dX2_isWord_27 (by decide) (fun _ => rfl) (fun x4 => ?_)
      refine sim_lz10 (fun z0 => [(0, pR 2 0 0), (1, pR 6 k1 0), (2, pI z0)]) (fun s6 hs7 x5 => ?_) FU x4
      unfold bR_isWord_28
      refine sim_iload_n dX2_isWord_28 rfl ?_
      refine sim_aload_n dX2_isWord_29 rfl ?_
      refine sim_callT (As := []) (rest := [pI x5]) (k0 := k1) dX2_isWord_30 ln_X2_108 me_J0_length_8abf5 rfl rfl (by decide) (Nat.le_of_ble_eq_true rfl) (Nat.le_of_ble_eq_true rfl) rfl (sJ_length X k1 m2) (fun x8 => ?_)
      refine sim_icmp_ge (tgt := 63) dX2_isWord_33 (by decide) ?_ ?_
      · refine sim_iconst (v := 1) dX2_isWord_63 (by decide) ?_
        exact sim_zret dX2_isWord_64 rfl rfl rfl
      · refine sim_aload_n dX2_isWord_36 rfl ?_
        refine sim_get (v := pR 2 0 1) dX2_isWord_37 fl_X2_9 (by decide) rfl ?_
        refine sim_aload_n dX2_isWord_40 rfl ?_
        refine sim_get (v := pI (m2 (2, 0, 0) 5)) dX2_isWord_41 fl_X2_44 (by decide) rfl ?_
        refine sim_iload_n dX2_isWord_44 rfl ?_
        refine sim_iadd dX2_isWord_45 ?_
        refine sim_bald dX2_isWord_46 rfl (by decide) ?_
        refine sim_aload_n dX2_isWord_47 rfl ?_
        refine sim_iload_n dX2_isWord_48 rfl ?_
        refine sim_callT (As := [pI x5]) (rest := [pI (m2 (2, 0, 1) (ix ((m2 (2, 0, 0) 5) + x5)))]) (k0 := k1) dX2_isWord_49 ln_X2_114 me_J0_charAt_5068e rfl rfl (by decide) (Nat.le_of_ble_eq_true rfl) (Nat.le_of_ble_eq_true rfl) rfl (sJ_charAt X k1 x5 m2) (fun x9 => ?_)
        refine sim_icmp_eq (tgt := 57) dX2_isWord_52 (by decide) ?_ ?_
        · refine sim_iinc (y := 1) (fun z => [(0, pR 2 0 0), (1, pR 6 k1 0), (2, pI z)]) [1, 2, 0] dX2_isWord_57 rfl (by decide) (by decide) (fun _ => rfl) (fun x10 => ?_)
          refine sim_goto (tgt := 28) dX2_isWord_60 (by decide) ?_
          exact hs7 x10
        · refine sim_iconst (v := 0) dX2_isWord_55 (by decide) ?_
          exact sim_zret dX2_isWord_56 rfl rfl rfl
    · refine sim_iconst (v := 0) dX2_isWord_24 (by decide) ?_
      exact sim_zret dX2_isWord_25 rfl rfl rfl
  · refine sim_iconst (v := 0) dX2_isWord_24 (by decide) ?_
    exact sim_zret dX2_isWord_25 rfl rfl rfl

def jR_isNumberWithin_75 (m7 : Mem) : Option (Int32 × Mem) :=
  Option.bind (fR_fail 3 m7) (fun q8 => if q8.1 = 0 then (some (0, q8.2)) else (some (1, q8.2)))
def jR_isNumberWithin_59 (x1 : Int32) (x2 : Int32) (x6 : Int32) (m7 : Mem) : Option (Int32 × Mem) :=
  if (m7 (2, 0, 0) 7) < x1 then (jR_isNumberWithin_75 m7) else (if (m7 (2, 0, 0) 7) ≤ x2 then (some (1, m7)) else (jR_isNumberWithin_75 m7))
def bR_isNumberWithin_24 (x1 : Int32) (x2 : Int32) (s13 : Int32 → Mem → Option (Int32 × Mem)) (x11 : Int32) (m12 : Mem) : Option (Int32 × Mem) :=
  if (m12 (2, 0, 0) 4) ≤ x11 then (jR_isNumberWithin_59 x1 x2 x11 m12) else (gd (inb x11 160) (lt (wr m12 (2, 0, 0) 7 ((((m12 (2, 0, 0) 7) * 10) + (m12 (2, 0, 1) (ix x11))) - 48)) (fun m15 => lt (x11 + 1) (fun (x16 : Int32) => s13 x16 m15))))
def fR_isNumberWithin (x1 : Int32) (x2 : Int32) (m3 : Mem) : Option (Int32 × Mem) :=
  if (m3 (2, 0, 0) 6) = 2 then (lt (wr m3 (2, 0, 0) 7 0) (fun m4 => lt (m4 (2, 0, 0) 5) (fun (x5 : Int32) => lz11 (bR_isNumberWithin_24 x1 x2) FU x5 m4))) else (Option.bind (fR_fail 2 m3) (fun q17 => gd (isb q17.1) (some (q17.1, q17.2))))
abbrev rm_R_isNumberWithin : Room := { frames := 1, cells := 0, slots := 0, locals := 21 }
set_option maxRecDepth 4000 in
theorem sR_isNumberWithin (X : Sc) (x1 : Int32) (x2 : Int32) (m3 : Mem) : Sim X cX2_isNumberWithin 4 (some .boolean) RX2 rm_R_isNumberWithin (fun q : Int32 × Mem => q.1) (fun q : Int32 × Mem => q.2) 0 [(0, pR 2 0 0), (1, pI x1), (2, pI x2)] [] m3 (fR_isNumberWithin x1 x2 m3) := by
  unfold fR_isNumberWithin
  refine sim_aload_n dX2_isNumberWithin_0 rfl ?_
  refine sim_get (v := pI (m3 (2, 0, 0) 6)) dX2_isNumberWithin_1 fl_X2_34 (by decide) rfl ?_
  refine sim_iconst (v := 2) dX2_isNumberWithin_4 (by decide) ?_
  refine sim_icmp_eq (tgt := 14) dX2_isNumberWithin_5 (by decide) ?_ ?_
  · refine sim_aload_n dX2_isNumberWithin_14 rfl ?_
    refine sim_iconst (v := 0) dX2_isNumberWithin_15 (by decide) ?_
    refine sim_put dX2_isNumberWithin_16 fl_X2_80 fp_2_7 rfl rfl (fun m4 => ?_)
    refine sim_aload_n dX2_isNumberWithin_19 rfl ?_
    refine sim_get (v := pI (m4 (2, 0, 0) 5)) dX2_isNumberWithin_20 fl_X2_44 (by decide) rfl ?_
    refine sim_istore_n (fun z => [(0, pR 2 0 0), (1, pI x1), (2, pI x2), (3, pI z)]) [1, 2, 3, 0] dX2_isNumberWithin_23 (by decide) (fun _ => rfl) (fun x5 => ?_)
    have hJ10 : ∀ (x6 : Int32) (m7 : Mem), Sim X cX2_isNumberWithin 4 (some .boolean) RX2 rm_R_isNumberWithin (fun q : Int32 × Mem => q.1) (fun q : Int32 × Mem => q.2) 59 [(0, pR 2 0 0), (1, pI x1), (2, pI x2), (3, pI x6)] [] m7 (jR_isNumberWithin_59 x1 x2 x6 m7) := by
      intro x6 m7
      unfold jR_isNumberWithin_59
      refine sim_aload_n dX2_isNumberWithin_59 rfl ?_
      refine sim_get (v := pI (m7 (2, 0, 0) 7)) dX2_isNumberWithin_60 fl_X2_80 (by decide) rfl ?_
      refine sim_iload_n dX2_isNumberWithin_63 rfl ?_
      have hJ9 : Sim X cX2_isNumberWithin 4 (some .boolean) RX2 rm_R_isNumberWithin (fun q : Int32 × Mem => q.1) (fun q : Int32 × Mem => q.2) 75 [(0, pR 2 0 0), (1, pI x1), (2, pI x2), (3, pI x6)] [] m7 (jR_isNumberWithin_75 m7) := by
        unfold jR_isNumberWithin_75
        refine sim_aload_n dX2_isNumberWithin_75 rfl ?_
        refine sim_iconst (v := 3) dX2_isNumberWithin_76 (by decide) ?_
        refine sim_callV (As := [pI 3]) (rest := []) (k0 := 0) dX2_isNumberWithin_77 ln_X2_66 me_X2_fail rfl (by decide) rfl (by decide) (Nat.le_of_ble_eq_true rfl) (Nat.le_of_ble_eq_true rfl) rfl (sR_fail X 3 m7) (fun q8 => ?_)
        refine sim_if_eq (tgt := 87) dX2_isNumberWithin_80 (by decide) ?_ ?_
        · refine sim_iconst (v := 0) dX2_isNumberWithin_87 (by decide) ?_
          exact sim_zret dX2_isNumberWithin_88 rfl rfl rfl
        · refine sim_iconst (v := 1) dX2_isNumberWithin_83 (by decide) ?_
          refine sim_goto (tgt := 88) dX2_isNumberWithin_84 (by decide) ?_
          exact sim_zret dX2_isNumberWithin_88 rfl rfl rfl
      refine sim_icmp_lt (tgt := 75) dX2_isNumberWithin_64 (by decide) ?_ ?_
      · exact hJ9
      · refine sim_aload_n dX2_isNumberWithin_67 rfl ?_
        refine sim_get (v := pI (m7 (2, 0, 0) 7)) dX2_isNumberWithin_68 fl_X2_80 (by decide) rfl ?_
        refine sim_iload_n dX2_isNumberWithin_71 rfl ?_
        refine sim_icmp_le (tgt := 83) dX2_isNumberWithin_72 (by decide) ?_ ?_
        · refine sim_iconst (v := 1) dX2_isNumberWithin_83 (by decide) ?_
          refine sim_goto (tgt := 88) dX2_isNumberWithin_84 (by decide) ?_
          exact sim_zret dX2_isNumberWithin_88 rfl rfl rfl
        · exact hJ9
    refine sim_lz11 (fun z0 => [(0, pR 2 0 0), (1, pI x1), (2, pI x2), (3, pI z0)]) (fun s13 hs14 x11 m12 => ?_) FU x5 m4
    unfold bR_isNumberWithin_24
    refine sim_iload_n dX2_isNumberWithin_24 rfl ?_
    refine sim_aload_n dX2_isNumberWithin_25 rfl ?_
    refine sim_get (v := pI (m12 (2, 0, 0) 4)) dX2_isNumberWithin_26 fl_X2_27 (by decide) rfl ?_
    refine sim_icmp_ge (tgt := 59) dX2_isNumberWithin_29 (by decide) ?_ ?_
    · exact hJ10 x11 m12
    · refine sim_aload_n dX2_isNumberWithin_32 rfl ?_
      refine sim_aload_n dX2_isNumberWithin_33 rfl ?_
      refine sim_get (v := pI (m12 (2, 0, 0) 7)) dX2_isNumberWithin_34 fl_X2_80 (by decide) rfl ?_
      refine sim_bipush (v := 10) dX2_isNumberWithin_37 (by decide) ?_
      refine sim_imul dX2_isNumberWithin_39 ?_
      refine sim_aload_n dX2_isNumberWithin_40 rfl ?_
      refine sim_get (v := pR 2 0 1) dX2_isNumberWithin_41 fl_X2_9 (by decide) rfl ?_
      refine sim_iload_n dX2_isNumberWithin_44 rfl ?_
      refine sim_bald dX2_isNumberWithin_45 rfl (by decide) ?_
      refine sim_iadd dX2_isNumberWithin_46 ?_
      refine sim_bipush (v := 48) dX2_isNumberWithin_47 (by decide) ?_
      refine sim_isub dX2_isNumberWithin_49 ?_
      refine sim_put dX2_isNumberWithin_50 fl_X2_80 fp_2_7 rfl rfl (fun m15 => ?_)
      refine sim_iinc (y := 1) (fun z => [(0, pR 2 0 0), (1, pI x1), (2, pI x2), (3, pI z)]) [1, 2, 3, 0] dX2_isNumberWithin_53 rfl (by decide) (by decide) (fun _ => rfl) (fun x16 => ?_)
      refine sim_goto (tgt := 24) dX2_isNumberWithin_56 (by decide) ?_
      exact hs14 x16 m15
  · refine sim_aload_n dX2_isNumberWithin_8 rfl ?_
    refine sim_iconst (v := 2) dX2_isNumberWithin_9 (by decide) ?_
    refine sim_callV (As := [pI 2]) (rest := []) (k0 := 0) dX2_isNumberWithin_10 ln_X2_66 me_X2_fail rfl (by decide) rfl (by decide) (Nat.le_of_ble_eq_true rfl) (Nat.le_of_ble_eq_true rfl) rfl (sR_fail X 2 m3) (fun q17 => ?_)
    exact sim_zretg dX2_isNumberWithin_13 rfl rfl

def fR_takeNumber (x1 : Int32) (x2 : Int32) (m3 : Mem) : Option (Int32 × Mem) :=
  Option.bind (fR_takeToken m3) (fun q4 => if q4.1 = 0 then (some (0, q4.2)) else (Option.bind (fR_isNumberWithin x1 x2 q4.2) (fun q5 => if q5.1 = 0 then (some (0, q5.2)) else (some (1, q5.2)))))
abbrev rm_R_takeNumber : Room := { frames := 2, cells := 0, slots := 0, locals := 44 }
set_option maxRecDepth 4000 in
theorem sR_takeNumber (X : Sc) (x1 : Int32) (x2 : Int32) (m3 : Mem) : Sim X cX2_takeNumber 3 (some .boolean) RX2 rm_R_takeNumber (fun q : Int32 × Mem => q.1) (fun q : Int32 × Mem => q.2) 0 [(0, pR 2 0 0), (1, pI x1), (2, pI x2)] [] m3 (fR_takeNumber x1 x2 m3) := by
  unfold fR_takeNumber
  refine sim_aload_n dX2_takeNumber_0 rfl ?_
  refine sim_callV (As := []) (rest := []) (k0 := 0) dX2_takeNumber_1 ln_X2_30 me_X2_takeToken rfl (by decide) rfl (by decide) (Nat.le_of_ble_eq_true rfl) (Nat.le_of_ble_eq_true rfl) rfl (sR_takeToken X m3) (fun q4 => ?_)
  refine sim_if_eq (tgt := 20) dX2_takeNumber_4 (by decide) ?_ ?_
  · refine sim_iconst (v := 0) dX2_takeNumber_20 (by decide) ?_
    exact sim_zret dX2_takeNumber_21 rfl rfl rfl
  · refine sim_aload_n dX2_takeNumber_7 rfl ?_
    refine sim_iload_n dX2_takeNumber_8 rfl ?_
    refine sim_iload_n dX2_takeNumber_9 rfl ?_
    refine sim_callV (As := [pI x1, pI x2]) (rest := []) (k0 := 0) dX2_takeNumber_10 ln_X2_76 me_X2_isNumberWithin rfl (by decide) rfl (by decide) (Nat.le_of_ble_eq_true rfl) (Nat.le_of_ble_eq_true rfl) rfl (sR_isNumberWithin X x1 x2 q4.2) (fun q5 => ?_)
    refine sim_if_eq (tgt := 20) dX2_takeNumber_13 (by decide) ?_ ?_
    · refine sim_iconst (v := 0) dX2_takeNumber_20 (by decide) ?_
      exact sim_zret dX2_takeNumber_21 rfl rfl rfl
    · refine sim_iconst (v := 1) dX2_takeNumber_16 (by decide) ?_
      refine sim_goto (tgt := 21) dX2_takeNumber_17 (by decide) ?_
      exact sim_zret dX2_takeNumber_21 rfl rfl rfl

def fR_takeSign (m1 : Mem) : Option (Int32 × Mem) :=
  Option.bind (fR_takeToken m1) (fun q2 => if q2.1 = 0 then (some (0, q2.2)) else (if (q2.2 (2, 0, 0) 6) = 3 then (some (1, q2.2)) else (Option.bind (fR_fail 2 q2.2) (fun q3 => if q3.1 = 0 then (some (0, q3.2)) else (some (1, q3.2))))))
abbrev rm_R_takeSign : Room := { frames := 2, cells := 0, slots := 0, locals := 43 }
set_option maxRecDepth 4000 in
theorem sR_takeSign (X : Sc) (m1 : Mem) : Sim X cX2_takeSign 1 (some .boolean) RX2 rm_R_takeSign (fun q : Int32 × Mem => q.1) (fun q : Int32 × Mem => q.2) 0 [(0, pR 2 0 0)] [] m1 (fR_takeSign m1) := by
  unfold fR_takeSign
  refine sim_aload_n dX2_takeSign_0 rfl ?_
  refine sim_callV (As := []) (rest := []) (k0 := 0) dX2_takeSign_1 ln_X2_30 me_X2_takeToken rfl (by decide) rfl (by decide) (Nat.le_of_ble_eq_true rfl) (Nat.le_of_ble_eq_true rfl) rfl (sR_takeToken X m1) (fun q2 => ?_)
  refine sim_if_eq (tgt := 27) dX2_takeSign_4 (by decide) ?_ ?_
  · refine sim_iconst (v := 0) dX2_takeSign_27 (by decide) ?_
    exact sim_zret dX2_takeSign_28 rfl rfl rfl
  · refine sim_aload_n dX2_takeSign_7 rfl ?_
    refine sim_get (v := pI (q2.2 (2, 0, 0) 6)) dX2_takeSign_8 fl_X2_34 (by decide) rfl ?_
    refine sim_iconst (v := 3) dX2_takeSign_11 (by decide) ?_
    refine sim_icmp_eq (tgt := 23) dX2_takeSign_12 (by decide) ?_ ?_
    · refine sim_iconst (v := 1) dX2_takeSign_23 (by decide) ?_
      refine sim_goto (tgt := 28) dX2_takeSign_24 (by decide) ?_
      exact sim_zret dX2_takeSign_28 rfl rfl rfl
    · refine sim_aload_n dX2_takeSign_15 rfl ?_
      refine sim_iconst (v := 2) dX2_takeSign_16 (by decide) ?_
      refine sim_callV (As := [pI 2]) (rest := []) (k0 := 0) dX2_takeSign_17 ln_X2_66 me_X2_fail rfl (by decide) rfl (by decide) (Nat.le_of_ble_eq_true rfl) (Nat.le_of_ble_eq_true rfl) rfl (sR_fail X 2 q2.2) (fun q3 => ?_)
      refine sim_if_eq (tgt := 27) dX2_takeSign_20 (by decide) ?_ ?_
      · refine sim_iconst (v := 0) dX2_takeSign_27 (by decide) ?_
        exact sim_zret dX2_takeSign_28 rfl rfl rfl
      · refine sim_iconst (v := 1) dX2_takeSign_23 (by decide) ?_
        refine sim_goto (tgt := 28) dX2_takeSign_24 (by decide) ?_
        exact sim_zret dX2_takeSign_28 rfl rfl rfl

def fR_takeTrain (k1 : Nat) (m2 : Mem) : Option (Int32 × Mem) :=
  if (m2 (0, k1, 0) 4) < 4 then (Option.bind (fR_takeNumber 0 5 m2) (fun q3 => if q3.1 = 0 then (some (0, q3.2)) else (lt (q3.2 (2, 0, 0) 7) (fun (x4 : Int32) => Option.bind (fR_takeNumber 0 5 q3.2) (fun q5 => if q5.1 = 0 then (some (0, q5.2)) else (lt (q5.2 (2, 0, 0) 7) (fun (x6 : Int32) => if x6 = x4 then (Option.bind (fR_fail 4 q5.2) (fun q10 => gd (isb q10.1) (some (q10.1, q10.2)))) else (Option.bind (fR_takeNumber 1 20 q5.2) (fun q7 => if q7.1 = 0 then (some (0, q7.2)) else (Option.bind (fL_openTrain k1 x4 x6 (q7.2 (2, 0, 0) 7) q7.2) (fun m8 => Option.bind (fR_takeSign m8) (fun q9 => gd (isb q9.1) (some (q9.1, q9.2)))))))))))))) else (Option.bind (fR_fail 5 m2) (fun q11 => gd (isb q11.1) (some (q11.1, q11.2))))
abbrev rm_R_takeTrain : Room := { frames := 3, cells := 0, slots := 0, locals := 66 }
set_option maxRecDepth 4000 in
theorem sR_takeTrain (X : Sc) (k1 : Nat) (m2 : Mem) : Sim X cX2_takeTrain 4 (some .boolean) RX2 rm_R_takeTrain (fun q : Int32 × Mem => q.1) (fun q : Int32 × Mem => q.2) 0 [(0, pR 2 0 0), (1, pR 0 k1 0)] [] m2 (fR_takeTrain k1 m2) := by
  unfold fR_takeTrain
  refine sim_aload_n dX2_takeTrain_0 rfl ?_
  refine sim_get (v := pI (m2 (0, k1, 0) 4)) dX2_takeTrain_1 fl_X2_97 (by decide) rfl ?_
  refine sim_iconst (v := 4) dX2_takeTrain_4 (by decide) ?_
  refine sim_icmp_lt (tgt := 14) dX2_takeTrain_5 (by decide) ?_ ?_
  · refine sim_aload_n dX2_takeTrain_14 rfl ?_
    refine sim_iconst (v := 0) dX2_takeTrain_15 (by decide) ?_
    refine sim_iconst (v := 5) dX2_takeTrain_16 (by decide) ?_
    refine sim_callV (As := [pI 0, pI 5]) (rest := []) (k0 := 0) dX2_takeTrain_17 ln_X2_90 me_X2_takeNumber rfl (by decide) rfl (by decide) (Nat.le_of_ble_eq_true rfl) (Nat.le_of_ble_eq_true rfl) rfl (sR_takeNumber X 0 5 m2) (fun q3 => ?_)
    refine sim_if_ne (tgt := 25) dX2_takeTrain_20 (by decide) ?_ ?_
    · refine sim_iconst (v := 0) dX2_takeTrain_23 (by decide) ?_
      exact sim_zret dX2_takeTrain_24 rfl rfl rfl
    · refine sim_aload_n dX2_takeTrain_25 rfl ?_
      refine sim_get (v := pI (q3.2 (2, 0, 0) 7)) dX2_takeTrain_26 fl_X2_80 (by decide) rfl ?_
      refine sim_istore_n (fun z => [(0, pR 2 0 0), (1, pR 0 k1 0), (2, pI z)]) [1, 2, 0] dX2_takeTrain_29 (by decide) (fun _ => rfl) (fun x4 => ?_)
      refine sim_aload_n dX2_takeTrain_30 rfl ?_
      refine sim_iconst (v := 0) dX2_takeTrain_31 (by decide) ?_
      refine sim_iconst (v := 5) dX2_takeTrain_32 (by decide) ?_
      refine sim_callV (As := [pI 0, pI 5]) (rest := []) (k0 := 0) dX2_takeTrain_33 ln_X2_90 me_X2_takeNumber rfl (by decide) rfl (by decide) (Nat.le_of_ble_eq_true rfl) (Nat.le_of_ble_eq_true rfl) rfl (sR_takeNumber X 0 5 q3.2) (fun q5 => ?_)
      refine sim_if_ne (tgt := 41) dX2_takeTrain_36 (by decide) ?_ ?_
      · refine sim_iconst (v := 0) dX2_takeTrain_39 (by decide) ?_
        exact sim_zret dX2_takeTrain_40 rfl rfl rfl
      · refine sim_aload_n dX2_takeTrain_41 rfl ?_
        refine sim_get (v := pI (q5.2 (2, 0, 0) 7)) dX2_takeTrain_42 fl_X2_80 (by decide) rfl ?_
        refine sim_istore_n (fun z => [(0, pR 2 0 0), (1, pR 0 k1 0), (2, pI x4), (3, pI z)]) [1, 2, 3, 0] dX2_takeTrain_45 (by decide) (fun _ => rfl) (fun x6 => ?_)
        refine sim_iload_n dX2_takeTrain_46 rfl ?_
        refine sim_iload_n dX2_takeTrain_47 rfl ?_
        refine sim_icmp_ne (tgt := 57) dX2_takeTrain_48 (by decide) ?_ ?_
        · refine sim_aload_n dX2_takeTrain_51 rfl ?_
          refine sim_iconst (v := 4) dX2_takeTrain_52 (by decide) ?_
          refine sim_callV (As := [pI 4]) (rest := []) (k0 := 0) dX2_takeTrain_53 ln_X2_66 me_X2_fail rfl (by decide) rfl (by decide) (Nat.le_of_ble_eq_true rfl) (Nat.le_of_ble_eq_true rfl) rfl (sR_fail X 4 q5.2) (fun q10 => ?_)
          exact sim_zretg dX2_takeTrain_56 rfl rfl
        · refine sim_aload_n dX2_takeTrain_57 rfl ?_
          refine sim_iconst (v := 1) dX2_takeTrain_58 (by decide) ?_
          refine sim_bipush (v := 20) dX2_takeTrain_59 (by decide) ?_
          refine sim_callV (As := [pI 1, pI 20]) (rest := []) (k0 := 0) dX2_takeTrain_61 ln_X2_90 me_X2_takeNumber rfl (by decide) rfl (by decide) (Nat.le_of_ble_eq_true rfl) (Nat.le_of_ble_eq_true rfl) rfl (sR_takeNumber X 1 20 q5.2) (fun q7 => ?_)
          refine sim_if_ne (tgt := 69) dX2_takeTrain_64 (by decide) ?_ ?_
          · refine sim_iconst (v := 0) dX2_takeTrain_67 (by decide) ?_
            exact sim_zret dX2_takeTrain_68 rfl rfl rfl
          · refine sim_aload_n dX2_takeTrain_69 rfl ?_
            refine sim_iload_n dX2_takeTrain_70 rfl ?_
            refine sim_iload_n dX2_takeTrain_71 rfl ?_
            refine sim_aload_n dX2_takeTrain_72 rfl ?_
            refine sim_get (v := pI (q7.2 (2, 0, 0) 7)) dX2_takeTrain_73 fl_X2_80 (by decide) rfl ?_
            refine sim_callV (As := [pI x4, pI x6, pI (q7.2 (2, 0, 0) 7)]) (rest := []) (k0 := k1) dX2_takeTrain_76 ln_X2_100 me_X0_openTrain rfl (by decide) rfl (by decide) (Nat.le_of_ble_eq_true rfl) (Nat.le_of_ble_eq_true rfl) rfl (sL_openTrain X k1 x4 x6 (q7.2 (2, 0, 0) 7) q7.2) (fun m8 => ?_)
            refine sim_aload_n dX2_takeTrain_79 rfl ?_
            refine sim_callV (As := []) (rest := []) (k0 := 0) dX2_takeTrain_80 ln_X2_87 me_X2_takeSign rfl (by decide) rfl (by decide) (Nat.le_of_ble_eq_true rfl) (Nat.le_of_ble_eq_true rfl) rfl (sR_takeSign X m8) (fun q9 => ?_)
            exact sim_zretg dX2_takeTrain_83 rfl rfl
  · refine sim_aload_n dX2_takeTrain_8 rfl ?_
    refine sim_iconst (v := 5) dX2_takeTrain_9 (by decide) ?_
    refine sim_callV (As := [pI 5]) (rest := []) (k0 := 0) dX2_takeTrain_10 ln_X2_66 me_X2_fail rfl (by decide) rfl (by decide) (Nat.le_of_ble_eq_true rfl) (Nat.le_of_ble_eq_true rfl) rfl (sR_fail X 5 m2) (fun q11 => ?_)
    exact sim_zretg dX2_takeTrain_13 rfl rfl

def fR_takeSection (k1 : Nat) (m2 : Mem) : Option (Int32 × Mem) :=
  if 1 ≤ (m2 (0, k1, 0) 0) then (Option.bind (fR_takeNumber 1 9 m2) (fun q3 => if q3.1 = 0 then (some (0, q3.2)) else (gd (inb ((q3.2 (0, k1, 0) 0) - 1) 6) (lt (wr q3.2 (0, k1, 4) (ix ((q3.2 (0, k1, 0) 0) - 1)) (q3.2 (2, 0, 0) 7)) (fun m4 => Option.bind (fR_takeSign m4) (fun q5 => gd (isb q5.1) (some (q5.1, q5.2)))))))) else (Option.bind (fR_fail 5 m2) (fun q6 => gd (isb q6.1) (some (q6.1, q6.2))))
abbrev rm_R_takeSection : Room := { frames := 3, cells := 0, slots := 0, locals := 66 }
set_option maxRecDepth 4000 in
theorem sR_takeSection (X : Sc) (k1 : Nat) (m2 : Mem) : Sim X cX2_takeSection 2 (some .boolean) RX2 rm_R_takeSection (fun q : Int32 × Mem => q.1) (fun q : Int32 × Mem => q.2) 0 [(0, pR 2 0 0), (1, pR 0 k1 0)] [] m2 (fR_takeSection k1 m2) := by
  unfold fR_takeSection
  refine sim_aload_n dX2_takeSection_0 rfl ?_
  refine sim_get (v := pI (m2 (0, k1, 0) 0)) dX2_takeSection_1 fl_X2_70 (by decide) rfl ?_
  refine sim_iconst (v := 1) dX2_takeSection_4 (by decide) ?_
  refine sim_icmp_ge (tgt := 14) dX2_takeSection_5 (by decide) ?_ ?_
  · refine sim_aload_n dX2_takeSection_14 rfl ?_
    refine sim_iconst (v := 1) dX2_takeSection_15 (by decide) ?_
    refine sim_bipush (v := 9) dX2_takeSection_16 (by decide) ?_
    refine sim_callV (As := [pI 1, pI 9]) (rest := []) (k0 := 0) dX2_takeSection_18 ln_X2_90 me_X2_takeNumber rfl (by decide) rfl (by decide) (Nat.le_of_ble_eq_true rfl) (Nat.le_of_ble_eq_true rfl) rfl (sR_takeNumber X 1 9 m2) (fun q3 => ?_)
    refine sim_if_ne (tgt := 26) dX2_takeSection_21 (by decide) ?_ ?_
    · refine sim_iconst (v := 0) dX2_takeSection_24 (by decide) ?_
      exact sim_zret dX2_takeSection_25 rfl rfl rfl
    · refine sim_aload_n dX2_takeSection_26 rfl ?_
      refine sim_get (v := pR 0 k1 4) dX2_takeSection_27 fl_X2_93 (by decide) rfl ?_
      refine sim_aload_n dX2_takeSection_30 rfl ?_
      refine sim_get (v := pI (q3.2 (0, k1, 0) 0)) dX2_takeSection_31 fl_X2_70 (by decide) rfl ?_
      refine sim_iconst (v := 1) dX2_takeSection_34 (by decide) ?_
      refine sim_isub dX2_takeSection_35 ?_
      refine sim_aload_n dX2_takeSection_36 rfl ?_
      refine sim_get (v := pI (q3.2 (2, 0, 0) 7)) dX2_takeSection_37 fl_X2_80 (by decide) rfl ?_
      refine sim_iast dX2_takeSection_40 rfl (by decide) (fun m4 => ?_)
      refine sim_aload_n dX2_takeSection_41 rfl ?_
      refine sim_callV (As := []) (rest := []) (k0 := 0) dX2_takeSection_42 ln_X2_87 me_X2_takeSign rfl (by decide) rfl (by decide) (Nat.le_of_ble_eq_true rfl) (Nat.le_of_ble_eq_true rfl) rfl (sR_takeSign X m4) (fun q5 => ?_)
      exact sim_zretg dX2_takeSection_45 rfl rfl
  · refine sim_aload_n dX2_takeSection_8 rfl ?_
    refine sim_iconst (v := 5) dX2_takeSection_9 (by decide) ?_
    refine sim_callV (As := [pI 5]) (rest := []) (k0 := 0) dX2_takeSection_10 ln_X2_66 me_X2_fail rfl (by decide) rfl (by decide) (Nat.le_of_ble_eq_true rfl) (Nat.le_of_ble_eq_true rfl) rfl (sR_fail X 5 m2) (fun q6 => ?_)
    exact sim_zretg dX2_takeSection_13 rfl rfl

def jR_takePlace_75 (x5 : Int32) (m6 : Mem) : Option (Int32 × Mem) :=
  Option.bind (fR_takeSign m6) (fun q7 => gd (isb q7.1) (some (q7.1, q7.2)))
def jR_takePlace_49 (k1 : Nat) (s11 : Int32 → Mem → Option (Int32 × Mem)) (x9 : Int32) (q13 : Int32 × Mem) : Option (Int32 × Mem) :=
  Option.bind (fR_isNumberWithin 1 20 q13.2) (fun q14 => if q14.1 = 0 then (some (0, q14.2)) else (Option.bind (fL_openTrack k1 (q14.2 (2, 0, 0) 7) q14.2) (fun m15 => lt (x9 + 1) (fun (x16 : Int32) => s11 x16 m15))))
def bR_takePlace_21 (k1 : Nat) (s11 : Int32 → Mem → Option (Int32 × Mem)) (x9 : Int32) (m10 : Mem) : Option (Int32 × Mem) :=
  if 3 ≤ x9 then (jR_takePlace_75 x9 m10) else (Option.bind (fR_takeToken m10) (fun q13 => if q13.1 = 0 then (some (0, q13.2)) else (if x9 ≤ 0 then (jR_takePlace_49 k1 s11 x9 q13) else (if (q13.2 (2, 0, 0) 6) = 3 then (some (1, q13.2)) else (jR_takePlace_49 k1 s11 x9 q13)))))
def fR_takePlace (k1 : Nat) (m2 : Mem) : Option (Int32 × Mem) :=
  if (m2 (0, k1, 0) 0) < 6 then (Option.bind (fL_openPlace k1 m2) (fun m3 => lt 0 (fun (x4 : Int32) => lz11 (bR_takePlace_21 k1) FU x4 m3))) else (Option.bind (fR_fail 5 m2) (fun q18 => gd (isb q18.1) (some (q18.1, q18.2))))
abbrev rm_R_takePlace : Room := { frames := 3, cells := 0, slots := 0, locals := 63 }
set_option maxRecDepth 4000 in
theorem sR_takePlace (X : Sc) (k1 : Nat) (m2 : Mem) : Sim X cX2_takePlace 3 (some .boolean) RX2 rm_R_takePlace (fun q : Int32 × Mem => q.1) (fun q : Int32 × Mem => q.2) 0 [(0, pR 2 0 0), (1, pR 0 k1 0)] [] m2 (fR_takePlace k1 m2) := by
  unfold fR_takePlace
  refine sim_aload_n dX2_takePlace_0 rfl ?_
  refine sim_get (v := pI (m2 (0, k1, 0) 0)) dX2_takePlace_1 fl_X2_70 (by decide) rfl ?_
  refine sim_bipush (v := 6) dX2_takePlace_4 (by decide) ?_
  refine sim_icmp_lt (tgt := 15) dX2_takePlace_6 (by decide) ?_ ?_
  · refine sim_aload_n dX2_takePlace_15 rfl ?_
    refine sim_callV (As := []) (rest := []) (k0 := k1) dX2_takePlace_16 ln_X2_73 me_X0_openPlace rfl (by decide) rfl (by decide) (Nat.le_of_ble_eq_true rfl) (Nat.le_of_ble_eq_true rfl) rfl (sL_openPlace X k1 m2) (fun m3 => ?_)
    refine sim_iconst (v := 0) dX2_takePlace_19 (by decide) ?_
    refine sim_istore_n (fun z => [(0, pR 2 0 0), (1, pR 0 k1 0), (2, pI z)]) [1, 2, 0] dX2_takePlace_20 (by decide) (fun _ => rfl) (fun x4 => ?_)
    have hJ8 : ∀ (x5 : Int32) (m6 : Mem), Sim X cX2_takePlace 3 (some .boolean) RX2 rm_R_takePlace (fun q : Int32 × Mem => q.1) (fun q : Int32 × Mem => q.2) 75 [(0, pR 2 0 0), (1, pR 0 k1 0), (2, pI x5)] [] m6 (jR_takePlace_75 x5 m6) := by
      intro x5 m6
      unfold jR_takePlace_75
      refine sim_aload_n dX2_takePlace_75 rfl ?_
      refine sim_callV (As := []) (rest := []) (k0 := 0) dX2_takePlace_76 ln_X2_87 me_X2_takeSign rfl (by decide) rfl (by decide) (Nat.le_of_ble_eq_true rfl) (Nat.le_of_ble_eq_true rfl) rfl (sR_takeSign X m6) (fun q7 => ?_)
      exact sim_zretg dX2_takePlace_79 rfl rfl
    refine sim_lz11 (fun z0 => [(0, pR 2 0 0), (1, pR 0 k1 0), (2, pI z0)]) (fun s11 hs12 x9 m10 => ?_) FU x4 m3
    unfold bR_takePlace_21
    refine sim_iload_n dX2_takePlace_21 rfl ?_
    refine sim_iconst (v := 3) dX2_takePlace_22 (by decide) ?_
    refine sim_icmp_ge (tgt := 75) dX2_takePlace_23 (by decide) ?_ ?_
    · exact hJ8 x9 m10
    · refine sim_aload_n dX2_takePlace_26 rfl ?_
      refine sim_callV (As := []) (rest := []) (k0 := 0) dX2_takePlace_27 ln_X2_30 me_X2_takeToken rfl (by decide) rfl (by decide) (Nat.le_of_ble_eq_true rfl) (Nat.le_of_ble_eq_true rfl) rfl (sR_takeToken X m10) (fun q13 => ?_)
      refine sim_if_ne (tgt := 35) dX2_takePlace_30 (by decide) ?_ ?_
      · refine sim_iconst (v := 0) dX2_takePlace_33 (by decide) ?_
        exact sim_zret dX2_takePlace_34 rfl rfl rfl
      · refine sim_iload_n dX2_takePlace_35 rfl ?_
        have hJ17 : Sim X cX2_takePlace 3 (some .boolean) RX2 rm_R_takePlace (fun q : Int32 × Mem => q.1) (fun q : Int32 × Mem => q.2) 49 [(0, pR 2 0 0), (1, pR 0 k1 0), (2, pI x9)] [] q13.2 (jR_takePlace_49 k1 s11 x9 q13) := by
          unfold jR_takePlace_49
          refine sim_aload_n dX2_takePlace_49 rfl ?_
          refine sim_iconst (v := 1) dX2_takePlace_50 (by decide) ?_
          refine sim_bipush (v := 20) dX2_takePlace_51 (by decide) ?_
          refine sim_callV (As := [pI 1, pI 20]) (rest := []) (k0 := 0) dX2_takePlace_53 ln_X2_76 me_X2_isNumberWithin rfl (by decide) rfl (by decide) (Nat.le_of_ble_eq_true rfl) (Nat.le_of_ble_eq_true rfl) rfl (sR_isNumberWithin X 1 20 q13.2) (fun q14 => ?_)
          refine sim_if_ne (tgt := 61) dX2_takePlace_56 (by decide) ?_ ?_
          · refine sim_iconst (v := 0) dX2_takePlace_59 (by decide) ?_
            exact sim_zret dX2_takePlace_60 rfl rfl rfl
          · refine sim_aload_n dX2_takePlace_61 rfl ?_
            refine sim_aload_n dX2_takePlace_62 rfl ?_
            refine sim_get (v := pI (q14.2 (2, 0, 0) 7)) dX2_takePlace_63 fl_X2_80 (by decide) rfl ?_
            refine sim_callV (As := [pI (q14.2 (2, 0, 0) 7)]) (rest := []) (k0 := k1) dX2_takePlace_66 ln_X2_83 me_X0_openTrack rfl (by decide) rfl (by decide) (Nat.le_of_ble_eq_true rfl) (Nat.le_of_ble_eq_true rfl) rfl (sL_openTrack X k1 (q14.2 (2, 0, 0) 7) q14.2) (fun m15 => ?_)
            refine sim_iinc (y := 1) (fun z => [(0, pR 2 0 0), (1, pR 0 k1 0), (2, pI z)]) [1, 2, 0] dX2_takePlace_69 rfl (by decide) (by decide) (fun _ => rfl) (fun x16 => ?_)
            refine sim_goto (tgt := 21) dX2_takePlace_72 (by decide) ?_
            exact hs12 x16 m15
        refine sim_if_le (tgt := 49) dX2_takePlace_36 (by decide) ?_ ?_
        · exact hJ17
        · refine sim_aload_n dX2_takePlace_39 rfl ?_
          refine sim_get (v := pI (q13.2 (2, 0, 0) 6)) dX2_takePlace_40 fl_X2_34 (by decide) rfl ?_
          refine sim_iconst (v := 3) dX2_takePlace_43 (by decide) ?_
          refine sim_icmp_ne (tgt := 49) dX2_takePlace_44 (by decide) ?_ ?_
          · refine sim_iconst (v := 1) dX2_takePlace_47 (by decide) ?_
            exact sim_zret dX2_takePlace_48 rfl rfl rfl
          · exact hJ17
  · refine sim_aload_n dX2_takePlace_9 rfl ?_
    refine sim_iconst (v := 5) dX2_takePlace_10 (by decide) ?_
    refine sim_callV (As := [pI 5]) (rest := []) (k0 := 0) dX2_takePlace_11 ln_X2_66 me_X2_fail rfl (by decide) rfl (by decide) (Nat.le_of_ble_eq_true rfl) (Nat.le_of_ble_eq_true rfl) rfl (sR_fail X 5 m2) (fun q18 => ?_)
    exact sim_zretg dX2_takePlace_14 rfl rfl

def fR_takeLine (k1 : Nat) (m2 : Mem) : Option (Int32 × Mem) :=
  Option.bind (fR_isWord 0 m2) (fun x3 => if x3 = 0 then (Option.bind (fR_isWord 1 m2) (fun x4 => if x4 = 0 then (Option.bind (fR_isWord 2 m2) (fun x5 => if x5 = 0 then (Option.bind (fR_fail 2 m2) (fun q6 => gd (isb q6.1) (some (q6.1, q6.2)))) else (Option.bind (fR_takeTrain k1 m2) (fun q7 => gd (isb q7.1) (some (q7.1, q7.2)))))) else (Option.bind (fR_takeSection k1 m2) (fun q8 => gd (isb q8.1) (some (q8.1, q8.2)))))) else (Option.bind (fR_takePlace k1 m2) (fun q9 => gd (isb q9.1) (some (q9.1, q9.2)))))
abbrev rm_R_takeLine : Room := { frames := 5, cells := 0, slots := 0, locals := 107 }
set_option maxRecDepth 4000 in
theorem sR_takeLine (X : Sc) (k1 : Nat) (m2 : Mem) : Sim X cX2_takeLine 2 (some .boolean) RX2 rm_R_takeLine (fun q : Int32 × Mem => q.1) (fun q : Int32 × Mem => q.2) 0 [(0, pR 2 0 0), (1, pR 0 k1 0)] [] m2 (fR_takeLine k1 m2) := by
  unfold fR_takeLine
  refine sim_aload_n dX2_takeLine_0 rfl ?_
  refine sim_ldcs (i := 0) dX2_takeLine_1 (by decide) rfl rfl ?_
  refine sim_callV (As := [pR 6 0 0]) (rest := []) (k0 := 0) dX2_takeLine_3 ln_X2_49 me_X2_isWord rfl (by decide) rfl (by decide) (Nat.le_of_ble_eq_true rfl) (Nat.le_of_ble_eq_true rfl) rfl (sR_isWord X 0 m2) (fun x3 => ?_)
  refine sim_if_eq (tgt := 15) dX2_takeLine_6 (by decide) ?_ ?_
  · refine sim_aload_n dX2_takeLine_15 rfl ?_
    refine sim_ldcs (i := 1) dX2_takeLine_16 (by decide) rfl rfl ?_
    refine sim_callV (As := [pR 6 1 0]) (rest := []) (k0 := 0) dX2_takeLine_18 ln_X2_49 me_X2_isWord rfl (by decide) rfl (by decide) (Nat.le_of_ble_eq_true rfl) (Nat.le_of_ble_eq_true rfl) rfl (sR_isWord X 1 m2) (fun x4 => ?_)
    refine sim_if_eq (tgt := 30) dX2_takeLine_21 (by decide) ?_ ?_
    · refine sim_aload_n dX2_takeLine_30 rfl ?_
      refine sim_ldcs (i := 2) dX2_takeLine_31 (by decide) rfl rfl ?_
      refine sim_callV (As := [pR 6 2 0]) (rest := []) (k0 := 0) dX2_takeLine_33 ln_X2_49 me_X2_isWord rfl (by decide) rfl (by decide) (Nat.le_of_ble_eq_true rfl) (Nat.le_of_ble_eq_true rfl) rfl (sR_isWord X 2 m2) (fun x5 => ?_)
      refine sim_if_eq (tgt := 45) dX2_takeLine_36 (by decide) ?_ ?_
      · refine sim_aload_n dX2_takeLine_45 rfl ?_
        refine sim_iconst (v := 2) dX2_takeLine_46 (by decide) ?_
        refine sim_callV (As := [pI 2]) (rest := []) (k0 := 0) dX2_takeLine_47 ln_X2_66 me_X2_fail rfl (by decide) rfl (by decide) (Nat.le_of_ble_eq_true rfl) (Nat.le_of_ble_eq_true rfl) rfl (sR_fail X 2 m2) (fun q6 => ?_)
        exact sim_zretg dX2_takeLine_50 rfl rfl
      · refine sim_aload_n dX2_takeLine_39 rfl ?_
        refine sim_aload_n dX2_takeLine_40 rfl ?_
        refine sim_callV (As := [pR 0 k1 0]) (rest := []) (k0 := 0) dX2_takeLine_41 ln_X2_63 me_X2_takeTrain rfl (by decide) rfl (by decide) (Nat.le_of_ble_eq_true rfl) (Nat.le_of_ble_eq_true rfl) rfl (sR_takeTrain X k1 m2) (fun q7 => ?_)
        exact sim_zretg dX2_takeLine_44 rfl rfl
    · refine sim_aload_n dX2_takeLine_24 rfl ?_
      refine sim_aload_n dX2_takeLine_25 rfl ?_
      refine sim_callV (As := [pR 0 k1 0]) (rest := []) (k0 := 0) dX2_takeLine_26 ln_X2_58 me_X2_takeSection rfl (by decide) rfl (by decide) (Nat.le_of_ble_eq_true rfl) (Nat.le_of_ble_eq_true rfl) rfl (sR_takeSection X k1 m2) (fun q8 => ?_)
      exact sim_zretg dX2_takeLine_29 rfl rfl
  · refine sim_aload_n dX2_takeLine_9 rfl ?_
    refine sim_aload_n dX2_takeLine_10 rfl ?_
    refine sim_callV (As := [pR 0 k1 0]) (rest := []) (k0 := 0) dX2_takeLine_11 ln_X2_53 me_X2_takePlace rfl (by decide) rfl (by decide) (Nat.le_of_ble_eq_true rfl) (Nat.le_of_ble_eq_true rfl) rfl (sR_takePlace X k1 m2) (fun q9 => ?_)
    exact sim_zretg dX2_takeLine_14 rfl rfl

def bR_readInto_23 (k1 : Nat) (s12 : Int32 → Int32 → Mem → Option (Int32 × Mem)) (x9 : Int32) (x10 : Int32) (m11 : Mem) : Option (Int32 × Mem) :=
  if 160 < x10 then (some (x9, m11)) else (Option.bind (fR_takeToken m11) (fun q14 => if q14.1 = 0 then (some (x9, q14.2)) else (if (q14.2 (2, 0, 0) 6) = 0 then (some (x9, q14.2)) else (Option.bind (fR_takeLine k1 q14.2) (fun q15 => if q15.1 = 0 then (some (x9, q15.2)) else (lt (x9 + 1) (fun (x16 : Int32) => lt (x10 + 1) (fun (x17 : Int32) => s12 x16 x17 q15.2))))))))
def fR_readInto (k1 : Nat) (m2 : Mem) : Option (Int32 × Mem) :=
  Option.bind (fL_clearAll k1 m2) (fun m3 => lt (wr m3 (2, 0, 0) 2 0) (fun m4 => lt (wr m4 (2, 0, 0) 3 0) (fun m5 => lt (wr m5 (2, 0, 0) 4 0) (fun m6 => lt 0 (fun (x7 : Int32) => lt 0 (fun (x8 : Int32) => lz21 (bR_readInto_23 k1) FU x7 x8 m6))))))
abbrev rm_R_readInto : Room := { frames := 6, cells := 0, slots := 0, locals := 128 }
set_option maxRecDepth 4000 in
theorem sR_readInto (X : Sc) (k1 : Nat) (m2 : Mem) : Sim X cX2_readInto 4 (some .int) RX2 rm_R_readInto (fun q : Int32 × Mem => q.1) (fun q : Int32 × Mem => q.2) 0 [(0, pR 2 0 0), (1, pR 0 k1 0)] [] m2 (fR_readInto k1 m2) := by
  unfold fR_readInto
  refine sim_aload_n dX2_readInto_0 rfl ?_
  refine sim_callV (As := []) (rest := []) (k0 := k1) dX2_readInto_1 ln_X2_15 me_X0_clearAll rfl (by decide) rfl (by decide) (Nat.le_of_ble_eq_true rfl) (Nat.le_of_ble_eq_true rfl) rfl (sL_clearAll X k1 m2) (fun m3 => ?_)
  refine sim_aload_n dX2_readInto_4 rfl ?_
  refine sim_iconst (v := 0) dX2_readInto_5 (by decide) ?_
  refine sim_put dX2_readInto_6 fl_X2_20 fp_2_2 rfl rfl (fun m4 => ?_)
  refine sim_aload_n dX2_readInto_9 rfl ?_
  refine sim_iconst (v := 0) dX2_readInto_10 (by decide) ?_
  refine sim_put dX2_readInto_11 fl_X2_24 fp_2_3 rfl rfl (fun m5 => ?_)
  refine sim_aload_n dX2_readInto_14 rfl ?_
  refine sim_iconst (v := 0) dX2_readInto_15 (by decide) ?_
  refine sim_put dX2_readInto_16 fl_X2_27 fp_2_4 rfl rfl (fun m6 => ?_)
  refine sim_iconst (v := 0) dX2_readInto_19 (by decide) ?_
  refine sim_istore_n (fun z => [(0, pR 2 0 0), (1, pR 0 k1 0), (2, pI z)]) [1, 2, 0] dX2_readInto_20 (by decide) (fun _ => rfl) (fun x7 => ?_)
  refine sim_iconst (v := 0) dX2_readInto_21 (by decide) ?_
  refine sim_istore_n (fun z => [(0, pR 2 0 0), (1, pR 0 k1 0), (2, pI x7), (3, pI z)]) [1, 2, 3, 0] dX2_readInto_22 (by decide) (fun _ => rfl) (fun x8 => ?_)
  refine sim_lz21 (fun z0 z1 => [(0, pR 2 0 0), (1, pR 0 k1 0), (2, pI z0), (3, pI z1)]) (fun s12 hs13 x9 x10 m11 => ?_) FU x7 x8 m6
  unfold bR_readInto_23
  refine sim_iload_n dX2_readInto_23 rfl ?_
  refine sim_sipush (v := 160) dX2_readInto_24 (by decide) ?_
  refine sim_icmp_gt (tgt := 63) dX2_readInto_27 (by decide) ?_ ?_
  · refine sim_iload_n dX2_readInto_63 rfl ?_
    exact sim_iret dX2_readInto_64 rfl rfl
  · refine sim_aload_n dX2_readInto_30 rfl ?_
    refine sim_callV (As := []) (rest := []) (k0 := 0) dX2_readInto_31 ln_X2_30 me_X2_takeToken rfl (by decide) rfl (by decide) (Nat.le_of_ble_eq_true rfl) (Nat.le_of_ble_eq_true rfl) rfl (sR_takeToken X m11) (fun q14 => ?_)
    refine sim_if_eq (tgt := 52) dX2_readInto_34 (by decide) ?_ ?_
    · refine sim_iload_n dX2_readInto_52 rfl ?_
      exact sim_iret dX2_readInto_53 rfl rfl
    · refine sim_aload_n dX2_readInto_37 rfl ?_
      refine sim_get (v := pI (q14.2 (2, 0, 0) 6)) dX2_readInto_38 fl_X2_34 (by decide) rfl ?_
      refine sim_if_eq (tgt := 52) dX2_readInto_41 (by decide) ?_ ?_
      · refine sim_iload_n dX2_readInto_52 rfl ?_
        exact sim_iret dX2_readInto_53 rfl rfl
      · refine sim_aload_n dX2_readInto_44 rfl ?_
        refine sim_aload_n dX2_readInto_45 rfl ?_
        refine sim_callV (As := [pR 0 k1 0]) (rest := []) (k0 := 0) dX2_readInto_46 ln_X2_37 me_X2_takeLine rfl (by decide) rfl (by decide) (Nat.le_of_ble_eq_true rfl) (Nat.le_of_ble_eq_true rfl) rfl (sR_takeLine X k1 q14.2) (fun q15 => ?_)
        refine sim_if_ne (tgt := 54) dX2_readInto_49 (by decide) ?_ ?_
        · refine sim_iload_n dX2_readInto_52 rfl ?_
          exact sim_iret dX2_readInto_53 rfl rfl
        · refine sim_iinc (y := 1) (fun z => [(0, pR 2 0 0), (1, pR 0 k1 0), (2, pI z), (3, pI x10)]) [1, 2, 0, 3] dX2_readInto_54 rfl (by decide) (by decide) (fun _ => rfl) (fun x16 => ?_)
          refine sim_iinc (y := 1) (fun z => [(0, pR 2 0 0), (1, pR 0 k1 0), (2, pI x16), (3, pI z)]) [1, 2, 3, 0] dX2_readInto_57 rfl (by decide) (by decide) (fun _ => rfl) (fun x17 => ?_)
          refine sim_goto (tgt := 23) dX2_readInto_60 (by decide) ?_
          exact hs13 x16 x17 q15.2

def fR_failBehindAll (x1 : Int32) (m2 : Mem) : Option Mem :=
  lt (wr m2 (2, 0, 0) 2 x1) (fun m3 => lt (wr m3 (2, 0, 0) 3 (m3 (2, 0, 0) 1)) (fun m4 => some m4))
abbrev rm_R_failBehindAll : Room := { frames := 0, cells := 0, slots := 0, locals := 0 }
set_option maxRecDepth 4000 in
theorem sR_failBehindAll (X : Sc) (x1 : Int32) (m2 : Mem) : Sim X cX2_failBehindAll 2 none RX2 rm_R_failBehindAll (fun _ : Mem => 0) (fun m : Mem => m) 0 [(0, pR 2 0 0), (1, pI x1)] [] m2 (fR_failBehindAll x1 m2) := by
  unfold fR_failBehindAll
  refine sim_aload_n dX2_failBehindAll_0 rfl ?_
  refine sim_iload_n dX2_failBehindAll_1 rfl ?_
  refine sim_put dX2_failBehindAll_2 fl_X2_20 fp_2_2 rfl rfl (fun m3 => ?_)
  refine sim_aload_n dX2_failBehindAll_5 rfl ?_
  refine sim_aload_n dX2_failBehindAll_6 rfl ?_
  refine sim_get (v := pI (m3 (2, 0, 0) 1)) dX2_failBehindAll_7 fl_X2_41 (by decide) rfl ?_
  refine sim_put dX2_failBehindAll_10 fl_X2_24 fp_2_3 rfl rfl (fun m4 => ?_)
  exact sim_ret dX2_failBehindAll_13 rfl
