def fL_copyFrom (k1 : Nat) (k2 : Nat) (m3 : Mem) : Option Mem :=
  lt (wr m3 (0, k1, 0) 0 (m3 (0, k2, 0) 0)) (fun m4 => gd (cpk 0 0 6 6 6) (lt (sr m4 (0, k1, 2) (va_cpy (m4 (0, k2, 2)) (m4 (0, k1, 2)) (ix 0) (ix 0) (ix 6))) (fun m5 => gd (cpk 0 0 18 18 18) (lt (sr m5 (0, k1, 3) (va_cpy (m5 (0, k2, 3)) (m5 (0, k1, 3)) (ix 0) (ix 0) (ix 18))) (fun m6 => gd (cpk 0 0 6 6 6) (lt (sr m6 (0, k1, 4) (va_cpy (m6 (0, k2, 4)) (m6 (0, k1, 4)) (ix 0) (ix 0) (ix 6))) (fun m7 => lt (wr m7 (0, k1, 0) 4 (m7 (0, k2, 0) 4)) (fun m8 => gd (cpk 0 0 4 4 4) (lt (sr m8 (0, k1, 6) (va_cpy (m8 (0, k2, 6)) (m8 (0, k1, 6)) (ix 0) (ix 0) (ix 4))) (fun m9 => gd (cpk 0 0 4 4 4) (lt (sr m9 (0, k1, 7) (va_cpy (m9 (0, k2, 7)) (m9 (0, k1, 7)) (ix 0) (ix 0) (ix 4))) (fun m10 => gd (cpk 0 0 4 4 4) (lt (sr m10 (0, k1, 8) (va_cpy (m10 (0, k2, 8)) (m10 (0, k1, 8)) (ix 0) (ix 0) (ix 4))) (fun m11 => gd (cpk 0 0 4 4 4) (lt (sr m11 (0, k1, 9) (va_cpy (m11 (0, k2, 9)) (m11 (0, k1, 9)) (ix 0) (ix 0) (ix 4))) (fun m12 => gd (cpk 0 0 4 4 4) (lt (sr m12 (0, k1, 10) (va_cpy (m12 (0, k2, 10)) (m12 (0, k1, 10)) (ix 0) (ix 0) (ix 4))) (fun m13 => gd (cpk 0 0 4 4 4) (lt (sr m13 (0, k1, 11) (va_cpy (m13 (0, k2, 11)) (m13 (0, k1, 11)) (ix 0) (ix 0) (ix 4))) (fun m14 => lt (wr m14 (0, k1, 0) 11 (m14 (0, k2, 0) 11)) (fun m15 => lt (wr m15 (0, k1, 0) 12 (m15 (0, k2, 0) 12)) (fun m16 => gd (cpk 0 0 60 60 60) (lt (sr m16 (0, k1, 14) (va_cpy (m16 (0, k2, 14)) (m16 (0, k1, 14)) (ix 0) (ix 0) (ix 60))) (fun m17 => gd (cpk 0 0 60 60 60) (lt (sr m17 (0, k1, 15) (va_cpy (m17 (0, k2, 15)) (m17 (0, k1, 15)) (ix 0) (ix 0) (ix 60))) (fun m18 => gd (cpk 0 0 60 60 60) (lt (sr m18 (0, k1, 16) (va_cpy (m18 (0, k2, 16)) (m18 (0, k1, 16)) (ix 0) (ix 0) (ix 60))) (fun m19 => some m19))))))))))))))))))))))))))))
abbrev rm_L_copyFrom : Room := { frames := 1, cells := 0, slots := 0, locals := 40 }
set_option maxRecDepth 4000 in
theorem sL_copyFrom (X : Sc) (k1 : Nat) (k2 : Nat) (m3 : Mem) : Sim X cX0_copyFrom 2 none RX0 rm_L_copyFrom (fun _ : Mem => 0) (fun m : Mem => m) 0 [(0, pR 0 k1 0), (1, pR 0 k2 0)] [] m3 (fL_copyFrom k1 k2 m3) := by
  unfold fL_copyFrom
  refine sim_aload_n dX0_copyFrom_0 rfl ?_
  refine sim_aload_n dX0_copyFrom_1 rfl ?_
  refine sim_get (v := pI (m3 (0, k2, 0) 0)) dX0_copyFrom_2 fl_X0_48 (by decide) rfl ?_
  refine sim_put dX0_copyFrom_5 fl_X0_48 fp_0_0 rfl rfl (fun m4 => ?_)
  refine sim_aload_n dX0_copyFrom_8 rfl ?_
  refine sim_get (v := pR 0 k2 2) dX0_copyFrom_9 fl_X0_9 (by decide) rfl ?_
  refine sim_iconst (v := 0) dX0_copyFrom_12 (by decide) ?_
  refine sim_aload_n dX0_copyFrom_13 rfl ?_
  refine sim_get (v := pR 0 k1 2) dX0_copyFrom_14 fl_X0_9 (by decide) rfl ?_
  refine sim_iconst (v := 0) dX0_copyFrom_17 (by decide) ?_
  refine sim_bipush (v := 6) dX0_copyFrom_18 (by decide) ?_
  refine sim_copy dX0_copyFrom_20 ln_X0_52 acw rfl rfl (by decide) (by decide) (by decide) (Nat.le_of_ble_eq_true rfl) (fun m5 => ?_)
  refine sim_aload_n dX0_copyFrom_23 rfl ?_
  refine sim_get (v := pR 0 k2 3) dX0_copyFrom_24 fl_X0_15 (by decide) rfl ?_
  refine sim_iconst (v := 0) dX0_copyFrom_27 (by decide) ?_
  refine sim_aload_n dX0_copyFrom_28 rfl ?_
  refine sim_get (v := pR 0 k1 3) dX0_copyFrom_29 fl_X0_15 (by decide) rfl ?_
  refine sim_iconst (v := 0) dX0_copyFrom_32 (by decide) ?_
  refine sim_bipush (v := 18) dX0_copyFrom_33 (by decide) ?_
  refine sim_copy dX0_copyFrom_35 ln_X0_52 acw rfl rfl (by decide) (by decide) (by decide) (Nat.le_of_ble_eq_true rfl) (fun m6 => ?_)
  refine sim_aload_n dX0_copyFrom_38 rfl ?_
  refine sim_get (v := pR 0 k2 4) dX0_copyFrom_39 fl_X0_18 (by decide) rfl ?_
  refine sim_iconst (v := 0) dX0_copyFrom_42 (by decide) ?_
  refine sim_aload_n dX0_copyFrom_43 rfl ?_
  refine sim_get (v := pR 0 k1 4) dX0_copyFrom_44 fl_X0_18 (by decide) rfl ?_
  refine sim_iconst (v := 0) dX0_copyFrom_47 (by decide) ?_
  refine sim_bipush (v := 6) dX0_copyFrom_48 (by decide) ?_
  refine sim_copy dX0_copyFrom_50 ln_X0_52 acw rfl rfl (by decide) (by decide) (by decide) (Nat.le_of_ble_eq_true rfl) (fun m7 => ?_)
  refine sim_aload_n dX0_copyFrom_53 rfl ?_
  refine sim_aload_n dX0_copyFrom_54 rfl ?_
  refine sim_get (v := pI (m7 (0, k2, 0) 4)) dX0_copyFrom_55 fl_X0_58 (by decide) rfl ?_
  refine sim_put dX0_copyFrom_58 fl_X0_58 fp_0_4 rfl rfl (fun m8 => ?_)
  refine sim_aload_n dX0_copyFrom_61 rfl ?_
  refine sim_get (v := pR 0 k2 6) dX0_copyFrom_62 fl_X0_21 (by decide) rfl ?_
  refine sim_iconst (v := 0) dX0_copyFrom_65 (by decide) ?_
  refine sim_aload_n dX0_copyFrom_66 rfl ?_
  refine sim_get (v := pR 0 k1 6) dX0_copyFrom_67 fl_X0_21 (by decide) rfl ?_
  refine sim_iconst (v := 0) dX0_copyFrom_70 (by decide) ?_
  refine sim_iconst (v := 4) dX0_copyFrom_71 (by decide) ?_
  refine sim_copy dX0_copyFrom_72 ln_X0_52 acw rfl rfl (by decide) (by decide) (by decide) (Nat.le_of_ble_eq_true rfl) (fun m9 => ?_)
  refine sim_aload_n dX0_copyFrom_75 rfl ?_
  refine sim_get (v := pR 0 k2 7) dX0_copyFrom_76 fl_X0_24 (by decide) rfl ?_
  refine sim_iconst (v := 0) dX0_copyFrom_79 (by decide) ?_
  refine sim_aload_n dX0_copyFrom_80 rfl ?_
  refine sim_get (v := pR 0 k1 7) dX0_copyFrom_81 fl_X0_24 (by decide) rfl ?_
  refine sim_iconst (v := 0) dX0_copyFrom_84 (by decide) ?_
  refine sim_iconst (v := 4) dX0_copyFrom_85 (by decide) ?_
  refine sim_copy dX0_copyFrom_86 ln_X0_52 acw rfl rfl (by decide) (by decide) (by decide) (Nat.le_of_ble_eq_true rfl) (fun m10 => ?_)
  refine sim_aload_n dX0_copyFrom_89 rfl ?_
  refine sim_get (v := pR 0 k2 8) dX0_copyFrom_90 fl_X0_27 (by decide) rfl ?_
  refine sim_iconst (v := 0) dX0_copyFrom_93 (by decide) ?_
  refine sim_aload_n dX0_copyFrom_94 rfl ?_
  refine sim_get (v := pR 0 k1 8) dX0_copyFrom_95 fl_X0_27 (by decide) rfl ?_
  refine sim_iconst (v := 0) dX0_copyFrom_98 (by decide) ?_
  refine sim_iconst (v := 4) dX0_copyFrom_99 (by decide) ?_
  refine sim_copy dX0_copyFrom_100 ln_X0_52 acw rfl rfl (by decide) (by decide) (by decide) (Nat.le_of_ble_eq_true rfl) (fun m11 => ?_)
  refine sim_aload_n dX0_copyFrom_103 rfl ?_
  refine sim_get (v := pR 0 k2 9) dX0_copyFrom_104 fl_X0_30 (by decide) rfl ?_
  refine sim_iconst (v := 0) dX0_copyFrom_107 (by decide) ?_
  refine sim_aload_n dX0_copyFrom_108 rfl ?_
  refine sim_get (v := pR 0 k1 9) dX0_copyFrom_109 fl_X0_30 (by decide) rfl ?_
  refine sim_iconst (v := 0) dX0_copyFrom_112 (by decide) ?_
  refine sim_iconst (v := 4) dX0_copyFrom_113 (by decide) ?_
  refine sim_copy dX0_copyFrom_114 ln_X0_52 acw rfl rfl (by decide) (by decide) (by decide) (Nat.le_of_ble_eq_true rfl) (fun m12 => ?_)
  refine sim_aload_n dX0_copyFrom_117 rfl ?_
  refine sim_get (v := pR 0 k2 10) dX0_copyFrom_118 fl_X0_33 (by decide) rfl ?_
  refine sim_iconst (v := 0) dX0_copyFrom_121 (by decide) ?_
  refine sim_aload_n dX0_copyFrom_122 rfl ?_
  refine sim_get (v := pR 0 k1 10) dX0_copyFrom_123 fl_X0_33 (by decide) rfl ?_
  refine sim_iconst (v := 0) dX0_copyFrom_126 (by decide) ?_
  refine sim_iconst (v := 4) dX0_copyFrom_127 (by decide) ?_
  refine sim_copy dX0_copyFrom_128 ln_X0_52 acw rfl rfl (by decide) (by decide) (by decide) (Nat.le_of_ble_eq_true rfl) (fun m13 => ?_)
  refine sim_aload_n dX0_copyFrom_131 rfl ?_
  refine sim_get (v := pR 0 k2 11) dX0_copyFrom_132 fl_X0_36 (by decide) rfl ?_
  refine sim_iconst (v := 0) dX0_copyFrom_135 (by decide) ?_
  refine sim_aload_n dX0_copyFrom_136 rfl ?_
  refine sim_get (v := pR 0 k1 11) dX0_copyFrom_137 fl_X0_36 (by decide) rfl ?_
  refine sim_iconst (v := 0) dX0_copyFrom_140 (by decide) ?_
  refine sim_iconst (v := 4) dX0_copyFrom_141 (by decide) ?_
  refine sim_copy dX0_copyFrom_142 ln_X0_52 acw rfl rfl (by decide) (by decide) (by decide) (Nat.le_of_ble_eq_true rfl) (fun m14 => ?_)
  refine sim_aload_n dX0_copyFrom_145 rfl ?_
  refine sim_aload_n dX0_copyFrom_146 rfl ?_
  refine sim_get (v := pI (m14 (0, k2, 0) 11)) dX0_copyFrom_147 fl_X0_61 (by decide) rfl ?_
  refine sim_put dX0_copyFrom_150 fl_X0_61 fp_0_11 rfl rfl (fun m15 => ?_)
  refine sim_aload_n dX0_copyFrom_153 rfl ?_
  refine sim_aload_n dX0_copyFrom_154 rfl ?_
  refine sim_get (v := pI (m15 (0, k2, 0) 12)) dX0_copyFrom_155 fl_X0_64 (by decide) rfl ?_
  refine sim_put dX0_copyFrom_158 fl_X0_64 fp_0_12 rfl rfl (fun m16 => ?_)
  refine sim_aload_n dX0_copyFrom_161 rfl ?_
  refine sim_get (v := pR 0 k2 14) dX0_copyFrom_162 fl_X0_39 (by decide) rfl ?_
  refine sim_iconst (v := 0) dX0_copyFrom_165 (by decide) ?_
  refine sim_aload_n dX0_copyFrom_166 rfl ?_
  refine sim_get (v := pR 0 k1 14) dX0_copyFrom_167 fl_X0_39 (by decide) rfl ?_
  refine sim_iconst (v := 0) dX0_copyFrom_170 (by decide) ?_
  refine sim_bipush (v := 60) dX0_copyFrom_171 (by decide) ?_
  refine sim_copy dX0_copyFrom_173 ln_X0_52 acw rfl rfl (by decide) (by decide) (by decide) (Nat.le_of_ble_eq_true rfl) (fun m17 => ?_)
  refine sim_aload_n dX0_copyFrom_176 rfl ?_
  refine sim_get (v := pR 0 k2 15) dX0_copyFrom_177 fl_X0_42 (by decide) rfl ?_
  refine sim_iconst (v := 0) dX0_copyFrom_180 (by decide) ?_
  refine sim_aload_n dX0_copyFrom_181 rfl ?_
  refine sim_get (v := pR 0 k1 15) dX0_copyFrom_182 fl_X0_42 (by decide) rfl ?_
  refine sim_iconst (v := 0) dX0_copyFrom_185 (by decide) ?_
  refine sim_bipush (v := 60) dX0_copyFrom_186 (by decide) ?_
  refine sim_copy dX0_copyFrom_188 ln_X0_52 acw rfl rfl (by decide) (by decide) (by decide) (Nat.le_of_ble_eq_true rfl) (fun m18 => ?_)
  refine sim_aload_n dX0_copyFrom_191 rfl ?_
  refine sim_get (v := pR 0 k2 16) dX0_copyFrom_192 fl_X0_45 (by decide) rfl ?_
  refine sim_iconst (v := 0) dX0_copyFrom_195 (by decide) ?_
  refine sim_aload_n dX0_copyFrom_196 rfl ?_
  refine sim_get (v := pR 0 k1 16) dX0_copyFrom_197 fl_X0_45 (by decide) rfl ?_
  refine sim_iconst (v := 0) dX0_copyFrom_200 (by decide) ?_
  refine sim_bipush (v := 60) dX0_copyFrom_201 (by decide) ?_
  refine sim_copy dX0_copyFrom_203 ln_X0_52 acw rfl rfl (by decide) (by decide) (by decide) (Nat.le_of_ble_eq_true rfl) (fun m19 => ?_)
  exact sim_ret dX0_copyFrom_206 rfl

def fL_clearAll (k1 : Nat) (m2 : Mem) : Option Mem :=
  lt (wr m2 (0, k1, 0) 0 0) (fun m3 => lt (wr m3 (0, k1, 0) 4 0) (fun m4 => lt (wr m4 (0, k1, 0) 11 0) (fun m5 => lt (wr m5 (0, k1, 0) 12 0) (fun m6 => some m6))))
abbrev rm_L_clearAll : Room := { frames := 0, cells := 0, slots := 0, locals := 0 }
set_option maxRecDepth 4000 in
theorem sL_clearAll (X : Sc) (k1 : Nat) (m2 : Mem) : Sim X cX0_clearAll 1 none RX0 rm_L_clearAll (fun _ : Mem => 0) (fun m : Mem => m) 0 [(0, pR 0 k1 0)] [] m2 (fL_clearAll k1 m2) := by
  unfold fL_clearAll
  refine sim_aload_n dX0_clearAll_0 rfl ?_
  refine sim_iconst (v := 0) dX0_clearAll_1 (by decide) ?_
  refine sim_put dX0_clearAll_2 fl_X0_48 fp_0_0 rfl rfl (fun m3 => ?_)
  refine sim_aload_n dX0_clearAll_5 rfl ?_
  refine sim_iconst (v := 0) dX0_clearAll_6 (by decide) ?_
  refine sim_put dX0_clearAll_7 fl_X0_58 fp_0_4 rfl rfl (fun m4 => ?_)
  refine sim_aload_n dX0_clearAll_10 rfl ?_
  refine sim_iconst (v := 0) dX0_clearAll_11 (by decide) ?_
  refine sim_put dX0_clearAll_12 fl_X0_61 fp_0_11 rfl rfl (fun m5 => ?_)
  refine sim_aload_n dX0_clearAll_15 rfl ?_
  refine sim_iconst (v := 0) dX0_clearAll_16 (by decide) ?_
  refine sim_put dX0_clearAll_17 fl_X0_64 fp_0_12 rfl rfl (fun m6 => ?_)
  exact sim_ret dX0_clearAll_20 rfl

def fL_hasPlace (k1 : Nat) (x2 : Int32) (m3 : Mem) : Option Int32 :=
  if x2 < 0 then (some 0) else (if (m3 (0, k1, 0) 0) ≤ x2 then (some 0) else (some 1))
abbrev rm_L_hasPlace : Room := { frames := 0, cells := 0, slots := 0, locals := 0 }
set_option maxRecDepth 4000 in
theorem sL_hasPlace (X : Sc) (k1 : Nat) (x2 : Int32) (m3 : Mem) : Sim X cX0_hasPlace 2 (some .boolean) RX0 rm_L_hasPlace (fun r : Int32 => r) (fun _ : Int32 => m3) 0 [(0, pR 0 k1 0), (1, pI x2)] [] m3 (fL_hasPlace k1 x2 m3) := by
  unfold fL_hasPlace
  refine sim_iload_n dX0_hasPlace_0 rfl ?_
  refine sim_if_lt (tgt := 16) dX0_hasPlace_1 (by decide) ?_ ?_
  · refine sim_iconst (v := 0) dX0_hasPlace_16 (by decide) ?_
    exact sim_zret dX0_hasPlace_17 rfl rfl rfl
  · refine sim_iload_n dX0_hasPlace_4 rfl ?_
    refine sim_aload_n dX0_hasPlace_5 rfl ?_
    refine sim_get (v := pI (m3 (0, k1, 0) 0)) dX0_hasPlace_6 fl_X0_48 (by decide) rfl ?_
    refine sim_icmp_ge (tgt := 16) dX0_hasPlace_9 (by decide) ?_ ?_
    · refine sim_iconst (v := 0) dX0_hasPlace_16 (by decide) ?_
      exact sim_zret dX0_hasPlace_17 rfl rfl rfl
    · refine sim_iconst (v := 1) dX0_hasPlace_12 (by decide) ?_
      refine sim_goto (tgt := 17) dX0_hasPlace_13 (by decide) ?_
      exact sim_zret dX0_hasPlace_17 rfl rfl rfl

def fL_hasTrain (k1 : Nat) (x2 : Int32) (m3 : Mem) : Option Int32 :=
  if x2 < 0 then (some 0) else (if (m3 (0, k1, 0) 4) ≤ x2 then (some 0) else (some 1))
abbrev rm_L_hasTrain : Room := { frames := 0, cells := 0, slots := 0, locals := 0 }
set_option maxRecDepth 4000 in
theorem sL_hasTrain (X : Sc) (k1 : Nat) (x2 : Int32) (m3 : Mem) : Sim X cX0_hasTrain 2 (some .boolean) RX0 rm_L_hasTrain (fun r : Int32 => r) (fun _ : Int32 => m3) 0 [(0, pR 0 k1 0), (1, pI x2)] [] m3 (fL_hasTrain k1 x2 m3) := by
  unfold fL_hasTrain
  refine sim_iload_n dX0_hasTrain_0 rfl ?_
  refine sim_if_lt (tgt := 16) dX0_hasTrain_1 (by decide) ?_ ?_
  · refine sim_iconst (v := 0) dX0_hasTrain_16 (by decide) ?_
    exact sim_zret dX0_hasTrain_17 rfl rfl rfl
  · refine sim_iload_n dX0_hasTrain_4 rfl ?_
    refine sim_aload_n dX0_hasTrain_5 rfl ?_
    refine sim_get (v := pI (m3 (0, k1, 0) 4)) dX0_hasTrain_6 fl_X0_58 (by decide) rfl ?_
    refine sim_icmp_ge (tgt := 16) dX0_hasTrain_9 (by decide) ?_ ?_
    · refine sim_iconst (v := 0) dX0_hasTrain_16 (by decide) ?_
      exact sim_zret dX0_hasTrain_17 rfl rfl rfl
    · refine sim_iconst (v := 1) dX0_hasTrain_12 (by decide) ?_
      refine sim_goto (tgt := 17) dX0_hasTrain_13 (by decide) ?_
      exact sim_zret dX0_hasTrain_17 rfl rfl rfl

def bL_hasAllToldPlaces_2 (k1 : Nat) (m2 : Mem) (s5 : Int32 → Option Int32) (x4 : Int32) : Option Int32 :=
  if (m2 (0, k1, 0) 4) ≤ x4 then (some 1) else (gd (inb x4 4) (if (m2 (0, k1, 0) 0) ≤ (m2 (0, k1, 6) (ix x4)) then (some 0) else (gd (inb x4 4) (if (m2 (0, k1, 7) (ix x4)) < (m2 (0, k1, 0) 0) then (lt (x4 + 1) (fun (x7 : Int32) => s5 x7)) else (some 0)))))
def fL_hasAllToldPlaces (k1 : Nat) (m2 : Mem) : Option Int32 :=
  lt 0 (fun (x3 : Int32) => lz10 (bL_hasAllToldPlaces_2 k1 m2) FU x3)
abbrev rm_L_hasAllToldPlaces : Room := { frames := 0, cells := 0, slots := 0, locals := 0 }
set_option maxRecDepth 4000 in
theorem sL_hasAllToldPlaces (X : Sc) (k1 : Nat) (m2 : Mem) : Sim X cX0_hasAllToldPlaces 2 (some .boolean) RX0 rm_L_hasAllToldPlaces (fun r : Int32 => r) (fun _ : Int32 => m2) 0 [(0, pR 0 k1 0)] [] m2 (fL_hasAllToldPlaces k1 m2) := by
  unfold fL_hasAllToldPlaces
  refine sim_iconst (v := 0) dX0_hasAllToldPlaces_0 (by decide) ?_
  refine sim_istore_n (fun z => [(0, pR 0 k1 0), (1, pI z)]) [1, 0] dX0_hasAllToldPlaces_1 (by decide) (fun _ => rfl) (fun x3 => ?_)
  refine sim_lz10 (fun z0 => [(0, pR 0 k1 0), (1, pI z0)]) (fun s5 hs6 x4 => ?_) FU x3
  unfold bL_hasAllToldPlaces_2
  refine sim_iload_n dX0_hasAllToldPlaces_2 rfl ?_
  refine sim_aload_n dX0_hasAllToldPlaces_3 rfl ?_
  refine sim_get (v := pI (m2 (0, k1, 0) 4)) dX0_hasAllToldPlaces_4 fl_X0_58 (by decide) rfl ?_
  refine sim_icmp_ge (tgt := 44) dX0_hasAllToldPlaces_7 (by decide) ?_ ?_
  · refine sim_iconst (v := 1) dX0_hasAllToldPlaces_44 (by decide) ?_
    exact sim_zret dX0_hasAllToldPlaces_45 rfl rfl rfl
  · refine sim_aload_n dX0_hasAllToldPlaces_10 rfl ?_
    refine sim_get (v := pR 0 k1 6) dX0_hasAllToldPlaces_11 fl_X0_21 (by decide) rfl ?_
    refine sim_iload_n dX0_hasAllToldPlaces_14 rfl ?_
    refine sim_iald dX0_hasAllToldPlaces_15 rfl (by decide) ?_
    refine sim_aload_n dX0_hasAllToldPlaces_16 rfl ?_
    refine sim_get (v := pI (m2 (0, k1, 0) 0)) dX0_hasAllToldPlaces_17 fl_X0_48 (by decide) rfl ?_
    refine sim_icmp_ge (tgt := 36) dX0_hasAllToldPlaces_20 (by decide) ?_ ?_
    · refine sim_iconst (v := 0) dX0_hasAllToldPlaces_36 (by decide) ?_
      exact sim_zret dX0_hasAllToldPlaces_37 rfl rfl rfl
    · refine sim_aload_n dX0_hasAllToldPlaces_23 rfl ?_
      refine sim_get (v := pR 0 k1 7) dX0_hasAllToldPlaces_24 fl_X0_24 (by decide) rfl ?_
      refine sim_iload_n dX0_hasAllToldPlaces_27 rfl ?_
      refine sim_iald dX0_hasAllToldPlaces_28 rfl (by decide) ?_
      refine sim_aload_n dX0_hasAllToldPlaces_29 rfl ?_
      refine sim_get (v := pI (m2 (0, k1, 0) 0)) dX0_hasAllToldPlaces_30 fl_X0_48 (by decide) rfl ?_
      refine sim_icmp_lt (tgt := 38) dX0_hasAllToldPlaces_33 (by decide) ?_ ?_
      · refine sim_iinc (y := 1) (fun z => [(0, pR 0 k1 0), (1, pI z)]) [1, 0] dX0_hasAllToldPlaces_38 rfl (by decide) (by decide) (fun _ => rfl) (fun x7 => ?_)
        refine sim_goto (tgt := 2) dX0_hasAllToldPlaces_41 (by decide) ?_
        exact hs6 x7
      · refine sim_iconst (v := 0) dX0_hasAllToldPlaces_36 (by decide) ?_
        exact sim_zret dX0_hasAllToldPlaces_37 rfl rfl rfl

def fL_openPlace (k1 : Nat) (m2 : Mem) : Option Mem :=
  if 6 ≤ (m2 (0, k1, 0) 0) then (some m2) else (gd (inb (m2 (0, k1, 0) 0) 6) (lt (wr m2 (0, k1, 2) (ix (m2 (0, k1, 0) 0)) 0) (fun m3 => gd (inb (m3 (0, k1, 0) 0) 6) (lt (wr m3 (0, k1, 4) (ix (m3 (0, k1, 0) 0)) 1) (fun m4 => lt (wr m4 (0, k1, 0) 0 ((m4 (0, k1, 0) 0) + 1)) (fun m5 => some m5))))))
abbrev rm_L_openPlace : Room := { frames := 0, cells := 0, slots := 0, locals := 0 }
set_option maxRecDepth 4000 in
theorem sL_openPlace (X : Sc) (k1 : Nat) (m2 : Mem) : Sim X cX0_openPlace 1 none RX0 rm_L_openPlace (fun _ : Mem => 0) (fun m : Mem => m) 0 [(0, pR 0 k1 0)] [] m2 (fL_openPlace k1 m2) := by
  unfold fL_openPlace
  refine sim_aload_n dX0_openPlace_0 rfl ?_
  refine sim_get (v := pI (m2 (0, k1, 0) 0)) dX0_openPlace_1 fl_X0_48 (by decide) rfl ?_
  refine sim_bipush (v := 6) dX0_openPlace_4 (by decide) ?_
  refine sim_icmp_ge (tgt := 39) dX0_openPlace_6 (by decide) ?_ ?_
  · exact sim_ret dX0_openPlace_39 rfl
  · refine sim_aload_n dX0_openPlace_9 rfl ?_
    refine sim_get (v := pR 0 k1 2) dX0_openPlace_10 fl_X0_9 (by decide) rfl ?_
    refine sim_aload_n dX0_openPlace_13 rfl ?_
    refine sim_get (v := pI (m2 (0, k1, 0) 0)) dX0_openPlace_14 fl_X0_48 (by decide) rfl ?_
    refine sim_iconst (v := 0) dX0_openPlace_17 (by decide) ?_
    refine sim_iast dX0_openPlace_18 rfl (by decide) (fun m3 => ?_)
    refine sim_aload_n dX0_openPlace_19 rfl ?_
    refine sim_get (v := pR 0 k1 4) dX0_openPlace_20 fl_X0_18 (by decide) rfl ?_
    refine sim_aload_n dX0_openPlace_23 rfl ?_
    refine sim_get (v := pI (m3 (0, k1, 0) 0)) dX0_openPlace_24 fl_X0_48 (by decide) rfl ?_
    refine sim_iconst (v := 1) dX0_openPlace_27 (by decide) ?_
    refine sim_iast dX0_openPlace_28 rfl (by decide) (fun m4 => ?_)
    refine sim_aload_n dX0_openPlace_29 rfl ?_
    refine sim_dup dX0_openPlace_30 rfl ?_
    refine sim_get (v := pI (m4 (0, k1, 0) 0)) dX0_openPlace_31 fl_X0_48 (by decide) rfl ?_
    refine sim_iconst (v := 1) dX0_openPlace_34 (by decide) ?_
    refine sim_iadd dX0_openPlace_35 ?_
    refine sim_put dX0_openPlace_36 fl_X0_48 fp_0_0 rfl rfl (fun m5 => ?_)
    exact sim_ret dX0_openPlace_39 rfl

def jL_openTrack_77 (k1 : Nat) (x2 : Int32) (x4 : Int32) (x7 : Int32) (m8 : Mem) : Option Mem :=
  gd (inb x7 18) (lt (wr m8 (0, k1, 3) (ix x7) x2) (fun m9 => gd (inb x4 6) (gd (inb x4 6) (lt (wr m9 (0, k1, 2) (ix x4) ((m9 (0, k1, 2) (ix x4)) + 1)) (fun m10 => some m10)))))
def bL_openTrack_36 (k1 : Nat) (x2 : Int32) (x4 : Int32) (x5 : Int32) (s14 : Int32 → Mem → Option Mem) (x12 : Int32) (m13 : Mem) : Option Mem :=
  if x12 ≤ x5 then (jL_openTrack_77 k1 x2 x4 x12 m13) else (gd (inb (x12 - 1) 18) (if x2 ≤ (m13 (0, k1, 3) (ix (x12 - 1))) then (jL_openTrack_77 k1 x2 x4 x12 m13) else (gd (inb (x12 - 1) 18) (gd (inb x12 18) (lt (wr m13 (0, k1, 3) (ix x12) (m13 (0, k1, 3) (ix (x12 - 1)))) (fun m16 => lt (x12 + (-1)) (fun (x17 : Int32) => s14 x17 m16)))))))
def fL_openTrack (k1 : Nat) (x2 : Int32) (m3 : Mem) : Option Mem :=
  lt ((m3 (0, k1, 0) 0) - 1) (fun (x4 : Int32) => if x4 < 0 then (some m3) else (gd (inb x4 6) (if (m3 (0, k1, 2) (ix x4)) < 3 then (lt (x4 * 3) (fun (x5 : Int32) => gd (inb x4 6) (lt (x5 + (m3 (0, k1, 2) (ix x4))) (fun (x6 : Int32) => lz11 (bL_openTrack_36 k1 x2 x4 x5) FU x6 m3)))) else (some m3))))
abbrev rm_L_openTrack : Room := { frames := 0, cells := 0, slots := 0, locals := 0 }
set_option maxRecDepth 4000 in
theorem sL_openTrack (X : Sc) (k1 : Nat) (x2 : Int32) (m3 : Mem) : Sim X cX0_openTrack 5 none RX0 rm_L_openTrack (fun _ : Mem => 0) (fun m : Mem => m) 0 [(0, pR 0 k1 0), (1, pI x2)] [] m3 (fL_openTrack k1 x2 m3) := by
  unfold fL_openTrack
  refine sim_aload_n dX0_openTrack_0 rfl ?_
  refine sim_get (v := pI (m3 (0, k1, 0) 0)) dX0_openTrack_1 fl_X0_48 (by decide) rfl ?_
  refine sim_iconst (v := 1) dX0_openTrack_4 (by decide) ?_
  refine sim_isub dX0_openTrack_5 ?_
  refine sim_istore_n (fun z => [(0, pR 0 k1 0), (1, pI x2), (2, pI z)]) [1, 2, 0] dX0_openTrack_6 (by decide) (fun _ => rfl) (fun x4 => ?_)
  refine sim_iload_n dX0_openTrack_7 rfl ?_
  refine sim_if_lt (tgt := 21) dX0_openTrack_8 (by decide) ?_ ?_
  · exact sim_ret dX0_openTrack_21 rfl
  · refine sim_aload_n dX0_openTrack_11 rfl ?_
    refine sim_get (v := pR 0 k1 2) dX0_openTrack_12 fl_X0_9 (by decide) rfl ?_
    refine sim_iload_n dX0_openTrack_15 rfl ?_
    refine sim_iald dX0_openTrack_16 rfl (by decide) ?_
    refine sim_iconst (v := 3) dX0_openTrack_17 (by decide) ?_
    refine sim_icmp_lt (tgt := 22) dX0_openTrack_18 (by decide) ?_ ?_
    · refine sim_iload_n dX0_openTrack_22 rfl ?_
      refine sim_iconst (v := 3) dX0_openTrack_23 (by decide) ?_
      refine sim_imul dX0_openTrack_24 ?_
      refine sim_istore_n (fun z => [(0, pR 0 k1 0), (1, pI x2), (2, pI x4), (3, pI z)]) [1, 2, 3, 0] dX0_openTrack_25 (by decide) (fun _ => rfl) (fun x5 => ?_)
      refine sim_iload_n dX0_openTrack_26 rfl ?_
      refine sim_aload_n dX0_openTrack_27 rfl ?_
      refine sim_get (v := pR 0 k1 2) dX0_openTrack_28 fl_X0_9 (by decide) rfl ?_
      refine sim_iload_n dX0_openTrack_31 rfl ?_
      refine sim_iald dX0_openTrack_32 rfl (by decide) ?_
      refine sim_iadd dX0_openTrack_33 ?_
      refine sim_istore (fun z => [(0, pR 0 k1 0), (1, pI x2), (2, pI x4), (3, pI x5), (4, pI z)]) [1, 2, 3, 4, 0] dX0_openTrack_34 (by decide) (fun _ => rfl) (fun x6 => ?_)
      have hJ11 : ∀ (x7 : Int32) (m8 : Mem), Sim X cX0_openTrack 5 none RX0 rm_L_openTrack (fun _ : Mem => 0) (fun m : Mem => m) 77 [(0, pR 0 k1 0), (1, pI x2), (2, pI x4), (3, pI x5), (4, pI x7)] [] m8 (jL_openTrack_77 k1 x2 x4 x7 m8) := by
        intro x7 m8
        unfold jL_openTrack_77
        refine sim_aload_n dX0_openTrack_77 rfl ?_
        refine sim_get (v := pR 0 k1 3) dX0_openTrack_78 fl_X0_15 (by decide) rfl ?_
        refine sim_iload dX0_openTrack_81 rfl ?_
        refine sim_iload_n dX0_openTrack_83 rfl ?_
        refine sim_iast dX0_openTrack_84 rfl (by decide) (fun m9 => ?_)
        refine sim_aload_n dX0_openTrack_85 rfl ?_
        refine sim_get (v := pR 0 k1 2) dX0_openTrack_86 fl_X0_9 (by decide) rfl ?_
        refine sim_iload_n dX0_openTrack_89 rfl ?_
        refine sim_dup2 dX0_openTrack_90 rfl rfl ?_
        refine sim_iald dX0_openTrack_91 rfl (by decide) ?_
        refine sim_iconst (v := 1) dX0_openTrack_92 (by decide) ?_
        refine sim_iadd dX0_openTrack_93 ?_
        refine sim_iast dX0_openTrack_94 rfl (by decide) (fun m10 => ?_)
        exact sim_ret dX0_openTrack_95 rfl
      refine sim_lz11 (fun z0 => [(0, pR 0 k1 0), (1, pI x2), (2, pI x4), (3, pI x5), (4, pI z0)]) (fun s14 hs15 x12 m13 => ?_) FU x6 m3
      unfold bL_openTrack_36
      refine sim_iload dX0_openTrack_36 rfl ?_
      refine sim_iload_n dX0_openTrack_38 rfl ?_
      refine sim_icmp_le (tgt := 77) dX0_openTrack_39 (by decide) ?_ ?_
      · exact hJ11 x12 m13
      · refine sim_aload_n dX0_openTrack_42 rfl ?_
        refine sim_get (v := pR 0 k1 3) dX0_openTrack_43 fl_X0_15 (by decide) rfl ?_
        refine sim_iload dX0_openTrack_46 rfl ?_
        refine sim_iconst (v := 1) dX0_openTrack_48 (by decide) ?_
        refine sim_isub dX0_openTrack_49 ?_
        refine sim_iald dX0_openTrack_50 rfl (by decide) ?_
        refine sim_iload_n dX0_openTrack_51 rfl ?_
        refine sim_icmp_ge (tgt := 77) dX0_openTrack_52 (by decide) ?_ ?_
        · exact hJ11 x12 m13
        · refine sim_aload_n dX0_openTrack_55 rfl ?_
          refine sim_get (v := pR 0 k1 3) dX0_openTrack_56 fl_X0_15 (by decide) rfl ?_
          refine sim_iload dX0_openTrack_59 rfl ?_
          refine sim_aload_n dX0_openTrack_61 rfl ?_
          refine sim_get (v := pR 0 k1 3) dX0_openTrack_62 fl_X0_15 (by decide) rfl ?_
          refine sim_iload dX0_openTrack_65 rfl ?_
          refine sim_iconst (v := 1) dX0_openTrack_67 (by decide) ?_
          refine sim_isub dX0_openTrack_68 ?_
          refine sim_iald dX0_openTrack_69 rfl (by decide) ?_
          refine sim_iast dX0_openTrack_70 rfl (by decide) (fun m16 => ?_)
          refine sim_iinc (y := (-1)) (fun z => [(0, pR 0 k1 0), (1, pI x2), (2, pI x4), (3, pI x5), (4, pI z)]) [1, 2, 3, 4, 0] dX0_openTrack_71 rfl (by decide) (by decide) (fun _ => rfl) (fun x17 => ?_)
          refine sim_goto (tgt := 36) dX0_openTrack_74 (by decide) ?_
          exact hs15 x17 m16
    · exact sim_ret dX0_openTrack_21 rfl

def fL_openTrain (k1 : Nat) (x2 : Int32) (x3 : Int32) (x4 : Int32) (m5 : Mem) : Option Mem :=
  if 4 ≤ (m5 (0, k1, 0) 4) then (some m5) else (gd (inb (m5 (0, k1, 0) 4) 4) (lt (wr m5 (0, k1, 6) (ix (m5 (0, k1, 0) 4)) x2) (fun m6 => gd (inb (m6 (0, k1, 0) 4) 4) (lt (wr m6 (0, k1, 7) (ix (m6 (0, k1, 0) 4)) x3) (fun m7 => gd (inb (m7 (0, k1, 0) 4) 4) (lt (wr m7 (0, k1, 8) (ix (m7 (0, k1, 0) 4)) x4) (fun m8 => gd (inb (m8 (0, k1, 0) 4) 4) (lt (wr m8 (0, k1, 9) (ix (m8 (0, k1, 0) 4)) (if 0 ≤ (x3 - x2) then (x3 - x2) else 0 - (x3 - x2))) (fun m9 => gd (inb (m9 (0, k1, 0) 4) 4) (lt (wr m9 (0, k1, 10) (ix (m9 (0, k1, 0) 4)) 0) (fun m10 => gd (inb (m10 (0, k1, 0) 4) 4) (lt (wr m10 (0, k1, 11) (ix (m10 (0, k1, 0) 4)) 0) (fun m11 => lt (wr m11 (0, k1, 0) 4 ((m11 (0, k1, 0) 4) + 1)) (fun m12 => some m12))))))))))))))
abbrev rm_L_openTrain : Room := { frames := 1, cells := 0, slots := 0, locals := 40 }
set_option maxRecDepth 4000 in
theorem sL_openTrain (X : Sc) (k1 : Nat) (x2 : Int32) (x3 : Int32) (x4 : Int32) (m5 : Mem) : Sim X cX0_openTrain 4 none RX0 rm_L_openTrain (fun _ : Mem => 0) (fun m : Mem => m) 0 [(0, pR 0 k1 0), (1, pI x2), (2, pI x3), (3, pI x4)] [] m5 (fL_openTrain k1 x2 x3 x4 m5) := by
  unfold fL_openTrain
  refine sim_aload_n dX0_openTrain_0 rfl ?_
  refine sim_get (v := pI (m5 (0, k1, 0) 4)) dX0_openTrain_1 fl_X0_58 (by decide) rfl ?_
  refine sim_iconst (v := 4) dX0_openTrain_4 (by decide) ?_
  refine sim_icmp_ge (tgt := 83) dX0_openTrain_5 (by decide) ?_ ?_
  · exact sim_ret dX0_openTrain_83 rfl
  · refine sim_aload_n dX0_openTrain_8 rfl ?_
    refine sim_get (v := pR 0 k1 6) dX0_openTrain_9 fl_X0_21 (by decide) rfl ?_
    refine sim_aload_n dX0_openTrain_12 rfl ?_
    refine sim_get (v := pI (m5 (0, k1, 0) 4)) dX0_openTrain_13 fl_X0_58 (by decide) rfl ?_
    refine sim_iload_n dX0_openTrain_16 rfl ?_
    refine sim_iast dX0_openTrain_17 rfl (by decide) (fun m6 => ?_)
    refine sim_aload_n dX0_openTrain_18 rfl ?_
    refine sim_get (v := pR 0 k1 7) dX0_openTrain_19 fl_X0_24 (by decide) rfl ?_
    refine sim_aload_n dX0_openTrain_22 rfl ?_
    refine sim_get (v := pI (m6 (0, k1, 0) 4)) dX0_openTrain_23 fl_X0_58 (by decide) rfl ?_
    refine sim_iload_n dX0_openTrain_26 rfl ?_
    refine sim_iast dX0_openTrain_27 rfl (by decide) (fun m7 => ?_)
    refine sim_aload_n dX0_openTrain_28 rfl ?_
    refine sim_get (v := pR 0 k1 8) dX0_openTrain_29 fl_X0_27 (by decide) rfl ?_
    refine sim_aload_n dX0_openTrain_32 rfl ?_
    refine sim_get (v := pI (m7 (0, k1, 0) 4)) dX0_openTrain_33 fl_X0_58 (by decide) rfl ?_
    refine sim_iload_n dX0_openTrain_36 rfl ?_
    refine sim_iast dX0_openTrain_37 rfl (by decide) (fun m8 => ?_)
    refine sim_aload_n dX0_openTrain_38 rfl ?_
    refine sim_get (v := pR 0 k1 9) dX0_openTrain_39 fl_X0_30 (by decide) rfl ?_
    refine sim_aload_n dX0_openTrain_42 rfl ?_
    refine sim_get (v := pI (m8 (0, k1, 0) 4)) dX0_openTrain_43 fl_X0_58 (by decide) rfl ?_
    refine sim_iload_n dX0_openTrain_46 rfl ?_
    refine sim_iload_n dX0_openTrain_47 rfl ?_
    refine sim_isub dX0_openTrain_48 ?_
    refine sim_mabs dX0_openTrain_49 ln_X0_67 mabsw (by decide) (Nat.le_of_ble_eq_true rfl) ?_
    refine sim_iast dX0_openTrain_52 rfl (by decide) (fun m9 => ?_)
    refine sim_aload_n dX0_openTrain_53 rfl ?_
    refine sim_get (v := pR 0 k1 10) dX0_openTrain_54 fl_X0_33 (by decide) rfl ?_
    refine sim_aload_n dX0_openTrain_57 rfl ?_
    refine sim_get (v := pI (m9 (0, k1, 0) 4)) dX0_openTrain_58 fl_X0_58 (by decide) rfl ?_
    refine sim_iconst (v := 0) dX0_openTrain_61 (by decide) ?_
    refine sim_iast dX0_openTrain_62 rfl (by decide) (fun m10 => ?_)
    refine sim_aload_n dX0_openTrain_63 rfl ?_
    refine sim_get (v := pR 0 k1 11) dX0_openTrain_64 fl_X0_36 (by decide) rfl ?_
    refine sim_aload_n dX0_openTrain_67 rfl ?_
    refine sim_get (v := pI (m10 (0, k1, 0) 4)) dX0_openTrain_68 fl_X0_58 (by decide) rfl ?_
    refine sim_iconst (v := 0) dX0_openTrain_71 (by decide) ?_
    refine sim_iast dX0_openTrain_72 rfl (by decide) (fun m11 => ?_)
    refine sim_aload_n dX0_openTrain_73 rfl ?_
    refine sim_dup dX0_openTrain_74 rfl ?_
    refine sim_get (v := pI (m11 (0, k1, 0) 4)) dX0_openTrain_75 fl_X0_58 (by decide) rfl ?_
    refine sim_iconst (v := 1) dX0_openTrain_78 (by decide) ?_
    refine sim_iadd dX0_openTrain_79 ?_
    refine sim_put dX0_openTrain_80 fl_X0_58 fp_0_4 rfl rfl (fun m12 => ?_)
    exact sim_ret dX0_openTrain_83 rfl

def jL_removeEntries_88 (k1 : Nat) (x6 : Int32) (x7 : Int32) (m8 : Mem) : Option Mem :=
  lt (wr m8 (0, k1, 0) 12 x6) (fun m9 => some m9)
def jL_removeEntries_66 (k1 : Nat) (s14 : Int32 → Int32 → Mem → Option Mem) (x11 : Int32) (x12 : Int32) (m17 : Mem) (x18 : Int32) : Option Mem :=
  gd (inb x11 60) (lt (wr m17 (0, k1, 15) (ix x11) x18) (fun m19 => gd (inb x12 60) (gd (inb x11 60) (lt (wr m19 (0, k1, 16) (ix x11) (m19 (0, k1, 16) (ix x12))) (fun m20 => lt (x11 + 1) (fun (x21 : Int32) => lt (x12 + 1) (fun (x22 : Int32) => s14 x21 x22 m20)))))))
def bL_removeEntries_4 (k1 : Nat) (x2 : Int32) (s14 : Int32 → Int32 → Mem → Option Mem) (x11 : Int32) (x12 : Int32) (m13 : Mem) : Option Mem :=
  if (m13 (0, k1, 0) 12) ≤ x12 then (jL_removeEntries_88 k1 x11 x12 m13) else (gd (inb x12 60) (if (m13 (0, k1, 15) (ix x12)) = x2 then (lt (x12 + 1) (fun (x16 : Int32) => s14 x11 x16 m13)) else (gd (inb x12 60) (gd (inb x11 60) (lt (wr m13 (0, k1, 14) (ix x11) (m13 (0, k1, 14) (ix x12))) (fun m17 => gd (inb x12 60) (if (m17 (0, k1, 15) (ix x12)) ≤ x2 then (gd (inb x12 60) (jL_removeEntries_66 k1 s14 x11 x12 m17 (m17 (0, k1, 15) (ix x12)))) else (gd (inb x12 60) (jL_removeEntries_66 k1 s14 x11 x12 m17 ((m17 (0, k1, 15) (ix x12)) - 1))))))))))
def fL_removeEntries (k1 : Nat) (x2 : Int32) (m3 : Mem) : Option Mem :=
  lt 0 (fun (x4 : Int32) => lt 0 (fun (x5 : Int32) => lz21 (bL_removeEntries_4 k1 x2) FU x4 x5 m3))
abbrev rm_L_removeEntries : Room := { frames := 0, cells := 0, slots := 0, locals := 0 }
set_option maxRecDepth 4000 in
theorem sL_removeEntries (X : Sc) (k1 : Nat) (x2 : Int32) (m3 : Mem) : Sim X cX0_removeEntries 4 none RX0 rm_L_removeEntries (fun _ : Mem => 0) (fun m : Mem => m) 0 [(0, pR 0 k1 0), (1, pI x2)] [] m3 (fL_removeEntries k1 x2 m3) := by
  unfold fL_removeEntries
  refine sim_iconst (v := 0) dX0_removeEntries_0 (by decide) ?_
  refine sim_istore_n (fun z => [(0, pR 0 k1 0), (1, pI x2), (2, pI z)]) [1, 2, 0] dX0_removeEntries_1 (by decide) (fun _ => rfl) (fun x4 => ?_)
  refine sim_iconst (v := 0) dX0_removeEntries_2 (by decide) ?_
  refine sim_istore_n (fun z => [(0, pR 0 k1 0), (1, pI x2), (2, pI x4), (3, pI z)]) [1, 2, 3, 0] dX0_removeEntries_3 (by decide) (fun _ => rfl) (fun x5 => ?_)
  have hJ10 : ∀ (x6 : Int32) (x7 : Int32) (m8 : Mem), Sim X cX0_removeEntries 4 none RX0 rm_L_removeEntries (fun _ : Mem => 0) (fun m : Mem => m) 88 [(0, pR 0 k1 0), (1, pI x2), (2, pI x6), (3, pI x7)] [] m8 (jL_removeEntries_88 k1 x6 x7 m8) := by
    intro x6 x7 m8
    unfold jL_removeEntries_88
    refine sim_aload_n dX0_removeEntries_88 rfl ?_
    refine sim_iload_n dX0_removeEntries_89 rfl ?_
    refine sim_put dX0_removeEntries_90 fl_X0_64 fp_0_12 rfl rfl (fun m9 => ?_)
    exact sim_ret dX0_removeEntries_93 rfl
  refine sim_lz21 (fun z0 z1 => [(0, pR 0 k1 0), (1, pI x2), (2, pI z0), (3, pI z1)]) (fun s14 hs15 x11 x12 m13 => ?_) FU x4 x5 m3
  unfold bL_removeEntries_4
  refine sim_iload_n dX0_removeEntries_4 rfl ?_
  refine sim_aload_n dX0_removeEntries_5 rfl ?_
  refine sim_get (v := pI (m13 (0, k1, 0) 12)) dX0_removeEntries_6 fl_X0_64 (by decide) rfl ?_
  refine sim_icmp_ge (tgt := 88) dX0_removeEntries_9 (by decide) ?_ ?_
  · exact hJ10 x11 x12 m13
  · refine sim_aload_n dX0_removeEntries_12 rfl ?_
    refine sim_get (v := pR 0 k1 15) dX0_removeEntries_13 fl_X0_42 (by decide) rfl ?_
    refine sim_iload_n dX0_removeEntries_16 rfl ?_
    refine sim_iald dX0_removeEntries_17 rfl (by decide) ?_
    refine sim_iload_n dX0_removeEntries_18 rfl ?_
    refine sim_icmp_eq (tgt := 82) dX0_removeEntries_19 (by decide) ?_ ?_
    · refine sim_iinc (y := 1) (fun z => [(0, pR 0 k1 0), (1, pI x2), (2, pI x11), (3, pI z)]) [1, 2, 3, 0] dX0_removeEntries_82 rfl (by decide) (by decide) (fun _ => rfl) (fun x16 => ?_)
      refine sim_goto (tgt := 4) dX0_removeEntries_85 (by decide) ?_
      exact hs15 x11 x16 m13
    · refine sim_aload_n dX0_removeEntries_22 rfl ?_
      refine sim_get (v := pR 0 k1 14) dX0_removeEntries_23 fl_X0_39 (by decide) rfl ?_
      refine sim_iload_n dX0_removeEntries_26 rfl ?_
      refine sim_aload_n dX0_removeEntries_27 rfl ?_
      refine sim_get (v := pR 0 k1 14) dX0_removeEntries_28 fl_X0_39 (by decide) rfl ?_
      refine sim_iload_n dX0_removeEntries_31 rfl ?_
      refine sim_iald dX0_removeEntries_32 rfl (by decide) ?_
      refine sim_iast dX0_removeEntries_33 rfl (by decide) (fun m17 => ?_)
      refine sim_aload_n dX0_removeEntries_34 rfl ?_
      refine sim_get (v := pR 0 k1 15) dX0_removeEntries_35 fl_X0_42 (by decide) rfl ?_
      refine sim_iload_n dX0_removeEntries_38 rfl ?_
      refine sim_aload_n dX0_removeEntries_39 rfl ?_
      refine sim_get (v := pR 0 k1 15) dX0_removeEntries_40 fl_X0_42 (by decide) rfl ?_
      refine sim_iload_n dX0_removeEntries_43 rfl ?_
      refine sim_iald dX0_removeEntries_44 rfl (by decide) ?_
      refine sim_iload_n dX0_removeEntries_45 rfl ?_
      have hJ23 : ∀ (x18 : Int32), Sim X cX0_removeEntries 4 none RX0 rm_L_removeEntries (fun _ : Mem => 0) (fun m : Mem => m) 66 [(0, pR 0 k1 0), (1, pI x2), (2, pI x11), (3, pI x12)] [pI x18, pI x11, pR 0 k1 15] m17 (jL_removeEntries_66 k1 s14 x11 x12 m17 x18) := by
        intro x18
        unfold jL_removeEntries_66
        refine sim_iast dX0_removeEntries_66 rfl (by decide) (fun m19 => ?_)
        refine sim_aload_n dX0_removeEntries_67 rfl ?_
        refine sim_get (v := pR 0 k1 16) dX0_removeEntries_68 fl_X0_45 (by decide) rfl ?_
        refine sim_iload_n dX0_removeEntries_71 rfl ?_
        refine sim_aload_n dX0_removeEntries_72 rfl ?_
        refine sim_get (v := pR 0 k1 16) dX0_removeEntries_73 fl_X0_45 (by decide) rfl ?_
        refine sim_iload_n dX0_removeEntries_76 rfl ?_
        refine sim_iald dX0_removeEntries_77 rfl (by decide) ?_
        refine sim_iast dX0_removeEntries_78 rfl (by decide) (fun m20 => ?_)
        refine sim_iinc (y := 1) (fun z => [(0, pR 0 k1 0), (1, pI x2), (2, pI z), (3, pI x12)]) [1, 2, 0, 3] dX0_removeEntries_79 rfl (by decide) (by decide) (fun _ => rfl) (fun x21 => ?_)
        refine sim_iinc (y := 1) (fun z => [(0, pR 0 k1 0), (1, pI x2), (2, pI x21), (3, pI z)]) [1, 2, 3, 0] dX0_removeEntries_82 rfl (by decide) (by decide) (fun _ => rfl) (fun x22 => ?_)
        refine sim_goto (tgt := 4) dX0_removeEntries_85 (by decide) ?_
        exact hs15 x21 x22 m20
      refine sim_icmp_le (tgt := 60) dX0_removeEntries_46 (by decide) ?_ ?_
      · refine sim_aload_n dX0_removeEntries_60 rfl ?_
        refine sim_get (v := pR 0 k1 15) dX0_removeEntries_61 fl_X0_42 (by decide) rfl ?_
        refine sim_iload_n dX0_removeEntries_64 rfl ?_
        refine sim_iald dX0_removeEntries_65 rfl (by decide) ?_
        exact hJ23 (m17 (0, k1, 15) (ix x12))
      · refine sim_aload_n dX0_removeEntries_49 rfl ?_
        refine sim_get (v := pR 0 k1 15) dX0_removeEntries_50 fl_X0_42 (by decide) rfl ?_
        refine sim_iload_n dX0_removeEntries_53 rfl ?_
        refine sim_iald dX0_removeEntries_54 rfl (by decide) ?_
        refine sim_iconst (v := 1) dX0_removeEntries_55 (by decide) ?_
        refine sim_isub dX0_removeEntries_56 ?_
        refine sim_goto (tgt := 66) dX0_removeEntries_57 (by decide) ?_
        exact hJ23 ((m17 (0, k1, 15) (ix x12)) - 1)

def jL_removeTrain_102 (k1 : Nat) (x2 : Int32) (x5 : Int32) (m6 : Mem) : Option Mem :=
  lt (wr m6 (0, k1, 0) 4 ((m6 (0, k1, 0) 4) - 1)) (fun m7 => Option.bind (fL_removeEntries k1 x2 m7) (fun m8 => some m8))
def bL_removeTrain_2 (k1 : Nat) (x2 : Int32) (s12 : Int32 → Mem → Option Mem) (x10 : Int32) (m11 : Mem) : Option Mem :=
  if ((m11 (0, k1, 0) 4) - 1) ≤ x10 then (jL_removeTrain_102 k1 x2 x10 m11) else (gd (inb (x10 + 1) 4) (gd (inb x10 4) (lt (wr m11 (0, k1, 6) (ix x10) (m11 (0, k1, 6) (ix (x10 + 1)))) (fun m14 => gd (inb (x10 + 1) 4) (gd (inb x10 4) (lt (wr m14 (0, k1, 7) (ix x10) (m14 (0, k1, 7) (ix (x10 + 1)))) (fun m15 => gd (inb (x10 + 1) 4) (gd (inb x10 4) (lt (wr m15 (0, k1, 8) (ix x10) (m15 (0, k1, 8) (ix (x10 + 1)))) (fun m16 => gd (inb (x10 + 1) 4) (gd (inb x10 4) (lt (wr m16 (0, k1, 9) (ix x10) (m16 (0, k1, 9) (ix (x10 + 1)))) (fun m17 => gd (inb (x10 + 1) 4) (gd (inb x10 4) (lt (wr m17 (0, k1, 10) (ix x10) (m17 (0, k1, 10) (ix (x10 + 1)))) (fun m18 => gd (inb (x10 + 1) 4) (gd (inb x10 4) (lt (wr m18 (0, k1, 11) (ix x10) (m18 (0, k1, 11) (ix (x10 + 1)))) (fun m19 => lt (x10 + 1) (fun (x20 : Int32) => s12 x20 m19))))))))))))))))))))
def fL_removeTrain (k1 : Nat) (x2 : Int32) (m3 : Mem) : Option Mem :=
  lt x2 (fun (x4 : Int32) => lz11 (bL_removeTrain_2 k1 x2) FU x4 m3)
abbrev rm_L_removeTrain : Room := { frames := 1, cells := 0, slots := 0, locals := 23 }
set_option maxRecDepth 4000 in
theorem sL_removeTrain (X : Sc) (k1 : Nat) (x2 : Int32) (m3 : Mem) : Sim X cX0_removeTrain 3 none RX0 rm_L_removeTrain (fun _ : Mem => 0) (fun m : Mem => m) 0 [(0, pR 0 k1 0), (1, pI x2)] [] m3 (fL_removeTrain k1 x2 m3) := by
  unfold fL_removeTrain
  refine sim_iload_n dX0_removeTrain_0 rfl ?_
  refine sim_istore_n (fun z => [(0, pR 0 k1 0), (1, pI x2), (2, pI z)]) [1, 2, 0] dX0_removeTrain_1 (by decide) (fun _ => rfl) (fun x4 => ?_)
  have hJ9 : ∀ (x5 : Int32) (m6 : Mem), Sim X cX0_removeTrain 3 none RX0 rm_L_removeTrain (fun _ : Mem => 0) (fun m : Mem => m) 102 [(0, pR 0 k1 0), (1, pI x2), (2, pI x5)] [] m6 (jL_removeTrain_102 k1 x2 x5 m6) := by
    intro x5 m6
    unfold jL_removeTrain_102
    refine sim_aload_n dX0_removeTrain_102 rfl ?_
    refine sim_dup dX0_removeTrain_103 rfl ?_
    refine sim_get (v := pI (m6 (0, k1, 0) 4)) dX0_removeTrain_104 fl_X0_58 (by decide) rfl ?_
    refine sim_iconst (v := 1) dX0_removeTrain_107 (by decide) ?_
    refine sim_isub dX0_removeTrain_108 ?_
    refine sim_put dX0_removeTrain_109 fl_X0_58 fp_0_4 rfl rfl (fun m7 => ?_)
    refine sim_aload_n dX0_removeTrain_112 rfl ?_
    refine sim_iload_n dX0_removeTrain_113 rfl ?_
    refine sim_callV (As := [pI x2]) (rest := []) (k0 := k1) dX0_removeTrain_114 ln_X0_73 me_X0_removeEntries rfl (by decide) rfl (by decide) (Nat.le_of_ble_eq_true rfl) (Nat.le_of_ble_eq_true rfl) rfl (sL_removeEntries X k1 x2 m7) (fun m8 => ?_)
    exact sim_ret dX0_removeTrain_117 rfl
  refine sim_lz11 (fun z0 => [(0, pR 0 k1 0), (1, pI x2), (2, pI z0)]) (fun s12 hs13 x10 m11 => ?_) FU x4 m3
  unfold bL_removeTrain_2
  refine sim_iload_n dX0_removeTrain_2 rfl ?_
  refine sim_aload_n dX0_removeTrain_3 rfl ?_
  refine sim_get (v := pI (m11 (0, k1, 0) 4)) dX0_removeTrain_4 fl_X0_58 (by decide) rfl ?_
  refine sim_iconst (v := 1) dX0_removeTrain_7 (by decide) ?_
  refine sim_isub dX0_removeTrain_8 ?_
  refine sim_icmp_ge (tgt := 102) dX0_removeTrain_9 (by decide) ?_ ?_
  · exact hJ9 x10 m11
  · refine sim_aload_n dX0_removeTrain_12 rfl ?_
    refine sim_get (v := pR 0 k1 6) dX0_removeTrain_13 fl_X0_21 (by decide) rfl ?_
    refine sim_iload_n dX0_removeTrain_16 rfl ?_
    refine sim_aload_n dX0_removeTrain_17 rfl ?_
    refine sim_get (v := pR 0 k1 6) dX0_removeTrain_18 fl_X0_21 (by decide) rfl ?_
    refine sim_iload_n dX0_removeTrain_21 rfl ?_
    refine sim_iconst (v := 1) dX0_removeTrain_22 (by decide) ?_
    refine sim_iadd dX0_removeTrain_23 ?_
    refine sim_iald dX0_removeTrain_24 rfl (by decide) ?_
    refine sim_iast dX0_removeTrain_25 rfl (by decide) (fun m14 => ?_)
    refine sim_aload_n dX0_removeTrain_26 rfl ?_
    refine sim_get (v := pR 0 k1 7) dX0_removeTrain_27 fl_X0_24 (by decide) rfl ?_
    refine sim_iload_n dX0_removeTrain_30 rfl ?_
    refine sim_aload_n dX0_removeTrain_31 rfl ?_
    refine sim_get (v := pR 0 k1 7) dX0_removeTrain_32 fl_X0_24 (by decide) rfl ?_
    refine sim_iload_n dX0_removeTrain_35 rfl ?_
    refine sim_iconst (v := 1) dX0_removeTrain_36 (by decide) ?_
    refine sim_iadd dX0_removeTrain_37 ?_
    refine sim_iald dX0_removeTrain_38 rfl (by decide) ?_
    refine sim_iast dX0_removeTrain_39 rfl (by decide) (fun m15 => ?_)
    refine sim_aload_n dX0_removeTrain_40 rfl ?_
    refine sim_get (v := pR 0 k1 8) dX0_removeTrain_41 fl_X0_27 (by decide) rfl ?_
    refine sim_iload_n dX0_removeTrain_44 rfl ?_
    refine sim_aload_n dX0_removeTrain_45 rfl ?_
    refine sim_get (v := pR 0 k1 8) dX0_removeTrain_46 fl_X0_27 (by decide) rfl ?_
    refine sim_iload_n dX0_removeTrain_49 rfl ?_
    refine sim_iconst (v := 1) dX0_removeTrain_50 (by decide) ?_
    refine sim_iadd dX0_removeTrain_51 ?_
    refine sim_iald dX0_removeTrain_52 rfl (by decide) ?_
    refine sim_iast dX0_removeTrain_53 rfl (by decide) (fun m16 => ?_)
    refine sim_aload_n dX0_removeTrain_54 rfl ?_
    refine sim_get (v := pR 0 k1 9) dX0_removeTrain_55 fl_X0_30 (by decide) rfl ?_
    refine sim_iload_n dX0_removeTrain_58 rfl ?_
    refine sim_aload_n dX0_removeTrain_59 rfl ?_
    refine sim_get (v := pR 0 k1 9) dX0_removeTrain_60 fl_X0_30 (by decide) rfl ?_
    refine sim_iload_n dX0_removeTrain_63 rfl ?_
    refine sim_iconst (v := 1) dX0_removeTrain_64 (by decide) ?_
    refine sim_iadd dX0_removeTrain_65 ?_
    refine sim_iald dX0_removeTrain_66 rfl (by decide) ?_
    refine sim_iast dX0_removeTrain_67 rfl (by decide) (fun m17 => ?_)
    refine sim_aload_n dX0_removeTrain_68 rfl ?_
    refine sim_get (v := pR 0 k1 10) dX0_removeTrain_69 fl_X0_33 (by decide) rfl ?_
    refine sim_iload_n dX0_removeTrain_72 rfl ?_
    refine sim_aload_n dX0_removeTrain_73 rfl ?_
    refine sim_get (v := pR 0 k1 10) dX0_removeTrain_74 fl_X0_33 (by decide) rfl ?_
    refine sim_iload_n dX0_removeTrain_77 rfl ?_
    refine sim_iconst (v := 1) dX0_removeTrain_78 (by decide) ?_
    refine sim_iadd dX0_removeTrain_79 ?_
    refine sim_iald dX0_removeTrain_80 rfl (by decide) ?_
    refine sim_iast dX0_removeTrain_81 rfl (by decide) (fun m18 => ?_)
    refine sim_aload_n dX0_removeTrain_82 rfl ?_
    refine sim_get (v := pR 0 k1 11) dX0_removeTrain_83 fl_X0_36 (by decide) rfl ?_
    refine sim_iload_n dX0_removeTrain_86 rfl ?_
    refine sim_aload_n dX0_removeTrain_87 rfl ?_
    refine sim_get (v := pR 0 k1 11) dX0_removeTrain_88 fl_X0_36 (by decide) rfl ?_
    refine sim_iload_n dX0_removeTrain_91 rfl ?_
    refine sim_iconst (v := 1) dX0_removeTrain_92 (by decide) ?_
    refine sim_iadd dX0_removeTrain_93 ?_
    refine sim_iald dX0_removeTrain_94 rfl (by decide) ?_
    refine sim_iast dX0_removeTrain_95 rfl (by decide) (fun m19 => ?_)
    refine sim_iinc (y := 1) (fun z => [(0, pR 0 k1 0), (1, pI x2), (2, pI z)]) [1, 2, 0] dX0_removeTrain_96 rfl (by decide) (by decide) (fun _ => rfl) (fun x20 => ?_)
    refine sim_goto (tgt := 2) dX0_removeTrain_99 (by decide) ?_
    exact hs13 x20 m19

def bL_howMany_4 (k1 : Nat) (x2 : Int32) (m3 : Mem) (s8 : Int32 → Int32 → Option Int32) (x6 : Int32) (x7 : Int32) : Option Int32 :=
  if (m3 (0, k1, 0) 4) ≤ x7 then (some x6) else (gd (inb x7 4) (lt (if (m3 (0, k1, 10) (ix x7)) = x2 then 1 else 0) (fun (x10 : Int32) => lt (x6 + x10) (fun (x11 : Int32) => lt (x7 + 1) (fun (x12 : Int32) => s8 x11 x12)))))
def fL_howMany (k1 : Nat) (x2 : Int32) (m3 : Mem) : Option Int32 :=
  lt 0 (fun (x4 : Int32) => lt 0 (fun (x5 : Int32) => lz20 (bL_howMany_4 k1 x2 m3) FU x4 x5))
abbrev rm_L_howMany : Room := { frames := 0, cells := 0, slots := 0, locals := 0 }
set_option maxRecDepth 4000 in
theorem sL_howMany (X : Sc) (k1 : Nat) (x2 : Int32) (m3 : Mem) : Sim X cX0_howMany 4 (some .int) RX0 rm_L_howMany (fun r : Int32 => r) (fun _ : Int32 => m3) 0 [(0, pR 0 k1 0), (1, pI x2)] [] m3 (fL_howMany k1 x2 m3) := by
  unfold fL_howMany
  refine sim_iconst (v := 0) dX0_howMany_0 (by decide) ?_
  refine sim_istore_n (fun z => [(0, pR 0 k1 0), (1, pI x2), (2, pI z)]) [1, 2, 0] dX0_howMany_1 (by decide) (fun _ => rfl) (fun x4 => ?_)
  refine sim_iconst (v := 0) dX0_howMany_2 (by decide) ?_
  refine sim_istore_n (fun z => [(0, pR 0 k1 0), (1, pI x2), (2, pI x4), (3, pI z)]) [1, 2, 3, 0] dX0_howMany_3 (by decide) (fun _ => rfl) (fun x5 => ?_)
  refine sim_lz20 (fun z0 z1 => [(0, pR 0 k1 0), (1, pI x2), (2, pI z0), (3, pI z1)]) (fun s8 hs9 x6 x7 => ?_) FU x4 x5
  unfold bL_howMany_4
  refine sim_iload_n dX0_howMany_4 rfl ?_
  refine sim_aload_n dX0_howMany_5 rfl ?_
  refine sim_get (v := pI (m3 (0, k1, 0) 4)) dX0_howMany_6 fl_X0_58 (by decide) rfl ?_
  refine sim_icmp_ge (tgt := 36) dX0_howMany_9 (by decide) ?_ ?_
  · refine sim_iload_n dX0_howMany_36 rfl ?_
    exact sim_iret dX0_howMany_37 rfl rfl
  · refine sim_iload_n dX0_howMany_12 rfl ?_
    refine sim_aload_n dX0_howMany_13 rfl ?_
    refine sim_get (v := pR 0 k1 10) dX0_howMany_14 fl_X0_33 (by decide) rfl ?_
    refine sim_iload_n dX0_howMany_17 rfl ?_
    refine sim_iald dX0_howMany_18 rfl (by decide) ?_
    refine sim_iload_n dX0_howMany_19 rfl ?_
    refine sim_jv 28 [(0, pR 0 k1 0), (1, pI x2), (2, pI x6), (3, pI x7)] [pI x6] (fun x10 => ?_) (fun hV13 => ?_)
    · refine sim_iadd dX0_howMany_28 ?_
      refine sim_istore_n (fun z => [(0, pR 0 k1 0), (1, pI x2), (2, pI z), (3, pI x7)]) [1, 2, 0, 3] dX0_howMany_29 (by decide) (fun _ => rfl) (fun x11 => ?_)
      refine sim_iinc (y := 1) (fun z => [(0, pR 0 k1 0), (1, pI x2), (2, pI x11), (3, pI z)]) [1, 2, 3, 0] dX0_howMany_30 rfl (by decide) (by decide) (fun _ => rfl) (fun x12 => ?_)
      refine sim_goto (tgt := 4) dX0_howMany_33 (by decide) ?_
      exact hs9 x11 x12
    · refine sim_eq (lt_ite _ _ _ _) ?_
      refine sim_icmp_ne (tgt := 27) dX0_howMany_20 (by decide) ?_ ?_
      · refine sim_iconst (v := 1) dX0_howMany_23 (by decide) ?_
        refine sim_goto (tgt := 28) dX0_howMany_24 (by decide) ?_
        exact hV13 _
      · refine sim_iconst (v := 0) dX0_howMany_27 (by decide) ?_
        exact hV13 _

def fL_spot (k1 : Nat) (x2 : Int32) (x3 : Int32) (m4 : Mem) : Option Int32 :=
  gd (inb x2 4) (gd (inb x2 4) (if (m4 (0, k1, 7) (ix x2)) ≤ (m4 (0, k1, 6) (ix x2)) then (gd (inb x2 4) (some ((m4 (0, k1, 7) (ix x2)) + x3))) else (gd (inb x2 4) (some ((m4 (0, k1, 7) (ix x2)) - x3)))))
abbrev rm_L_spot : Room := { frames := 0, cells := 0, slots := 0, locals := 0 }
set_option maxRecDepth 4000 in
theorem sL_spot (X : Sc) (k1 : Nat) (x2 : Int32) (x3 : Int32) (m4 : Mem) : Sim X cX0_spot 3 (some .int) RX0 rm_L_spot (fun r : Int32 => r) (fun _ : Int32 => m4) 0 [(0, pR 0 k1 0), (1, pI x2), (2, pI x3)] [] m4 (fL_spot k1 x2 x3 m4) := by
  unfold fL_spot
  refine sim_aload_n dX0_spot_0 rfl ?_
  refine sim_get (v := pR 0 k1 7) dX0_spot_1 fl_X0_24 (by decide) rfl ?_
  refine sim_iload_n dX0_spot_4 rfl ?_
  refine sim_iald dX0_spot_5 rfl (by decide) ?_
  refine sim_aload_n dX0_spot_6 rfl ?_
  refine sim_get (v := pR 0 k1 6) dX0_spot_7 fl_X0_21 (by decide) rfl ?_
  refine sim_iload_n dX0_spot_10 rfl ?_
  refine sim_iald dX0_spot_11 rfl (by decide) ?_
  refine sim_icmp_le (tgt := 26) dX0_spot_12 (by decide) ?_ ?_
  · refine sim_aload_n dX0_spot_26 rfl ?_
    refine sim_get (v := pR 0 k1 7) dX0_spot_27 fl_X0_24 (by decide) rfl ?_
    refine sim_iload_n dX0_spot_30 rfl ?_
    refine sim_iald dX0_spot_31 rfl (by decide) ?_
    refine sim_iload_n dX0_spot_32 rfl ?_
    refine sim_iadd dX0_spot_33 ?_
    exact sim_iret dX0_spot_34 rfl rfl
  · refine sim_aload_n dX0_spot_15 rfl ?_
    refine sim_get (v := pR 0 k1 7) dX0_spot_16 fl_X0_24 (by decide) rfl ?_
    refine sim_iload_n dX0_spot_19 rfl ?_
    refine sim_iald dX0_spot_20 rfl (by decide) ?_
    refine sim_iload_n dX0_spot_21 rfl ?_
    refine sim_isub dX0_spot_22 ?_
    refine sim_goto (tgt := 34) dX0_spot_23 (by decide) ?_
    exact sim_iret dX0_spot_34 rfl rfl

def bL_howManyThere_4 (k1 : Nat) (x2 : Int32) (m3 : Mem) (s8 : Int32 → Int32 → Option Int32) (x6 : Int32) (x7 : Int32) : Option Int32 :=
  if (m3 (0, k1, 0) 4) ≤ x7 then (some x6) else (gd (inb x7 4) (if (m3 (0, k1, 9) (ix x7)) ≤ 0 then (lt (x6 + 0) (fun (x10 : Int32) => lt (x7 + 1) (fun (x11 : Int32) => s8 x10 x11))) else (gd (inb x7 4) (Option.bind (fL_spot k1 x7 (m3 (0, k1, 9) (ix x7)) m3) (fun x12 => if x12 = x2 then (lt (x6 + 1) (fun (x15 : Int32) => lt (x7 + 1) (fun (x16 : Int32) => s8 x15 x16))) else (lt (x6 + 0) (fun (x13 : Int32) => lt (x7 + 1) (fun (x14 : Int32) => s8 x13 x14))))))))
def fL_howManyThere (k1 : Nat) (x2 : Int32) (m3 : Mem) : Option Int32 :=
  lt 0 (fun (x4 : Int32) => lt 0 (fun (x5 : Int32) => lz20 (bL_howManyThere_4 k1 x2 m3) FU x4 x5))
abbrev rm_L_howManyThere : Room := { frames := 1, cells := 0, slots := 0, locals := 22 }
set_option maxRecDepth 4000 in
theorem sL_howManyThere (X : Sc) (k1 : Nat) (x2 : Int32) (m3 : Mem) : Sim X cX0_howManyThere 4 (some .int) RX0 rm_L_howManyThere (fun r : Int32 => r) (fun _ : Int32 => m3) 0 [(0, pR 0 k1 0), (1, pI x2)] [] m3 (fL_howManyThere k1 x2 m3) := by
  unfold fL_howManyThere
  refine sim_iconst (v := 0) dX0_howManyThere_0 (by decide) ?_
  refine sim_istore_n (fun z => [(0, pR 0 k1 0), (1, pI x2), (2, pI z)]) [1, 2, 0] dX0_howManyThere_1 (by decide) (fun _ => rfl) (fun x4 => ?_)
  refine sim_iconst (v := 0) dX0_howManyThere_2 (by decide) ?_
  refine sim_istore_n (fun z => [(0, pR 0 k1 0), (1, pI x2), (2, pI x4), (3, pI z)]) [1, 2, 3, 0] dX0_howManyThere_3 (by decide) (fun _ => rfl) (fun x5 => ?_)
  refine sim_lz20 (fun z0 z1 => [(0, pR 0 k1 0), (1, pI x2), (2, pI z0), (3, pI z1)]) (fun s8 hs9 x6 x7 => ?_) FU x4 x5
  unfold bL_howManyThere_4
  refine sim_iload_n dX0_howManyThere_4 rfl ?_
  refine sim_aload_n dX0_howManyThere_5 rfl ?_
  refine sim_get (v := pI (m3 (0, k1, 0) 4)) dX0_howManyThere_6 fl_X0_58 (by decide) rfl ?_
  refine sim_icmp_ge (tgt := 50) dX0_howManyThere_9 (by decide) ?_ ?_
  · refine sim_iload_n dX0_howManyThere_50 rfl ?_
    exact sim_iret dX0_howManyThere_51 rfl rfl
  · refine sim_iload_n dX0_howManyThere_12 rfl ?_
    refine sim_aload_n dX0_howManyThere_13 rfl ?_
    refine sim_get (v := pR 0 k1 9) dX0_howManyThere_14 fl_X0_30 (by decide) rfl ?_
    refine sim_iload_n dX0_howManyThere_17 rfl ?_
    refine sim_iald dX0_howManyThere_18 rfl (by decide) ?_
    refine sim_if_le (tgt := 41) dX0_howManyThere_19 (by decide) ?_ ?_
    · refine sim_iconst (v := 0) dX0_howManyThere_41 (by decide) ?_
      refine sim_iadd dX0_howManyThere_42 ?_
      refine sim_istore_n (fun z => [(0, pR 0 k1 0), (1, pI x2), (2, pI z), (3, pI x7)]) [1, 2, 0, 3] dX0_howManyThere_43 (by decide) (fun _ => rfl) (fun x10 => ?_)
      refine sim_iinc (y := 1) (fun z => [(0, pR 0 k1 0), (1, pI x2), (2, pI x10), (3, pI z)]) [1, 2, 3, 0] dX0_howManyThere_44 rfl (by decide) (by decide) (fun _ => rfl) (fun x11 => ?_)
      refine sim_goto (tgt := 4) dX0_howManyThere_47 (by decide) ?_
      exact hs9 x10 x11
    · refine sim_aload_n dX0_howManyThere_22 rfl ?_
      refine sim_iload_n dX0_howManyThere_23 rfl ?_
      refine sim_aload_n dX0_howManyThere_24 rfl ?_
      refine sim_get (v := pR 0 k1 9) dX0_howManyThere_25 fl_X0_30 (by decide) rfl ?_
      refine sim_iload_n dX0_howManyThere_28 rfl ?_
      refine sim_iald dX0_howManyThere_29 rfl (by decide) ?_
      refine sim_callV (As := [pI x7, pI (m3 (0, k1, 9) (ix x7))]) (rest := [pI x6]) (k0 := k1) dX0_howManyThere_30 ln_X0_77 me_X0_spot rfl (by decide) rfl (by decide) (Nat.le_of_ble_eq_true rfl) (Nat.le_of_ble_eq_true rfl) rfl (sL_spot X k1 x7 (m3 (0, k1, 9) (ix x7)) m3) (fun x12 => ?_)
      refine sim_iload_n dX0_howManyThere_33 rfl ?_
      refine sim_icmp_ne (tgt := 41) dX0_howManyThere_34 (by decide) ?_ ?_
      · refine sim_iconst (v := 1) dX0_howManyThere_37 (by decide) ?_
        refine sim_goto (tgt := 42) dX0_howManyThere_38 (by decide) ?_
        refine sim_iadd dX0_howManyThere_42 ?_
        refine sim_istore_n (fun z => [(0, pR 0 k1 0), (1, pI x2), (2, pI z), (3, pI x7)]) [1, 2, 0, 3] dX0_howManyThere_43 (by decide) (fun _ => rfl) (fun x15 => ?_)
        refine sim_iinc (y := 1) (fun z => [(0, pR 0 k1 0), (1, pI x2), (2, pI x15), (3, pI z)]) [1, 2, 3, 0] dX0_howManyThere_44 rfl (by decide) (by decide) (fun _ => rfl) (fun x16 => ?_)
        refine sim_goto (tgt := 4) dX0_howManyThere_47 (by decide) ?_
        exact hs9 x15 x16
      · refine sim_iconst (v := 0) dX0_howManyThere_41 (by decide) ?_
        refine sim_iadd dX0_howManyThere_42 ?_
        refine sim_istore_n (fun z => [(0, pR 0 k1 0), (1, pI x2), (2, pI z), (3, pI x7)]) [1, 2, 0, 3] dX0_howManyThere_43 (by decide) (fun _ => rfl) (fun x13 => ?_)
        refine sim_iinc (y := 1) (fun z => [(0, pR 0 k1 0), (1, pI x2), (2, pI x13), (3, pI z)]) [1, 2, 3, 0] dX0_howManyThere_44 rfl (by decide) (by decide) (fun _ => rfl) (fun x14 => ?_)
        refine sim_goto (tgt := 4) dX0_howManyThere_47 (by decide) ?_
        exact hs9 x13 x14

def bL_stepsLeft_4 (k1 : Nat) (m2 : Mem) (s7 : Int32 → Int32 → Option Int32) (x5 : Int32) (x6 : Int32) : Option Int32 :=
  if (m2 (0, k1, 0) 4) ≤ x6 then (some x5) else (gd (inb x6 4) (lt (x5 + (m2 (0, k1, 9) (ix x6))) (fun (x9 : Int32) => lt (x6 + 1) (fun (x10 : Int32) => s7 x9 x10))))
def fL_stepsLeft (k1 : Nat) (m2 : Mem) : Option Int32 :=
  lt 0 (fun (x3 : Int32) => lt 0 (fun (x4 : Int32) => lz20 (bL_stepsLeft_4 k1 m2) FU x3 x4))
abbrev rm_L_stepsLeft : Room := { frames := 0, cells := 0, slots := 0, locals := 0 }
set_option maxRecDepth 4000 in
theorem sL_stepsLeft (X : Sc) (k1 : Nat) (m2 : Mem) : Sim X cX0_stepsLeft 3 (some .int) RX0 rm_L_stepsLeft (fun r : Int32 => r) (fun _ : Int32 => m2) 0 [(0, pR 0 k1 0)] [] m2 (fL_stepsLeft k1 m2) := by
  unfold fL_stepsLeft
  refine sim_iconst (v := 0) dX0_stepsLeft_0 (by decide) ?_
  refine sim_istore_n (fun z => [(0, pR 0 k1 0), (1, pI z)]) [1, 0] dX0_stepsLeft_1 (by decide) (fun _ => rfl) (fun x3 => ?_)
  refine sim_iconst (v := 0) dX0_stepsLeft_2 (by decide) ?_
  refine sim_istore_n (fun z => [(0, pR 0 k1 0), (1, pI x3), (2, pI z)]) [1, 2, 0] dX0_stepsLeft_3 (by decide) (fun _ => rfl) (fun x4 => ?_)
  refine sim_lz20 (fun z0 z1 => [(0, pR 0 k1 0), (1, pI z0), (2, pI z1)]) (fun s7 hs8 x5 x6 => ?_) FU x3 x4
  unfold bL_stepsLeft_4
  refine sim_iload_n dX0_stepsLeft_4 rfl ?_
  refine sim_aload_n dX0_stepsLeft_5 rfl ?_
  refine sim_get (v := pI (m2 (0, k1, 0) 4)) dX0_stepsLeft_6 fl_X0_58 (by decide) rfl ?_
  refine sim_icmp_ge (tgt := 27) dX0_stepsLeft_9 (by decide) ?_ ?_
  · refine sim_iload_n dX0_stepsLeft_27 rfl ?_
    exact sim_iret dX0_stepsLeft_28 rfl rfl
  · refine sim_iload_n dX0_stepsLeft_12 rfl ?_
    refine sim_aload_n dX0_stepsLeft_13 rfl ?_
    refine sim_get (v := pR 0 k1 9) dX0_stepsLeft_14 fl_X0_30 (by decide) rfl ?_
    refine sim_iload_n dX0_stepsLeft_17 rfl ?_
    refine sim_iald dX0_stepsLeft_18 rfl (by decide) ?_
    refine sim_iadd dX0_stepsLeft_19 ?_
    refine sim_istore_n (fun z => [(0, pR 0 k1 0), (1, pI z), (2, pI x6)]) [1, 0, 2] dX0_stepsLeft_20 (by decide) (fun _ => rfl) (fun x9 => ?_)
    refine sim_iinc (y := 1) (fun z => [(0, pR 0 k1 0), (1, pI x9), (2, pI z)]) [1, 2, 0] dX0_stepsLeft_21 rfl (by decide) (by decide) (fun _ => rfl) (fun x10 => ?_)
    refine sim_goto (tgt := 4) dX0_stepsLeft_24 (by decide) ?_
    exact hs8 x9 x10

def fL_sectionAhead (k1 : Nat) (x2 : Int32) (x3 : Int32) (m4 : Mem) : Option Int32 :=
  gd (inb x2 4) (gd (inb x2 4) (if (m4 (0, k1, 7) (ix x2)) ≤ (m4 (0, k1, 6) (ix x2)) then (gd (inb x2 4) (some (((m4 (0, k1, 7) (ix x2)) + x3) - 1))) else (gd (inb x2 4) (some ((m4 (0, k1, 7) (ix x2)) - x3)))))
abbrev rm_L_sectionAhead : Room := { frames := 0, cells := 0, slots := 0, locals := 0 }
set_option maxRecDepth 4000 in
theorem sL_sectionAhead (X : Sc) (k1 : Nat) (x2 : Int32) (x3 : Int32) (m4 : Mem) : Sim X cX0_sectionAhead 3 (some .int) RX0 rm_L_sectionAhead (fun r : Int32 => r) (fun _ : Int32 => m4) 0 [(0, pR 0 k1 0), (1, pI x2), (2, pI x3)] [] m4 (fL_sectionAhead k1 x2 x3 m4) := by
  unfold fL_sectionAhead
  refine sim_aload_n dX0_sectionAhead_0 rfl ?_
  refine sim_get (v := pR 0 k1 7) dX0_sectionAhead_1 fl_X0_24 (by decide) rfl ?_
  refine sim_iload_n dX0_sectionAhead_4 rfl ?_
  refine sim_iald dX0_sectionAhead_5 rfl (by decide) ?_
  refine sim_aload_n dX0_sectionAhead_6 rfl ?_
  refine sim_get (v := pR 0 k1 6) dX0_sectionAhead_7 fl_X0_21 (by decide) rfl ?_
  refine sim_iload_n dX0_sectionAhead_10 rfl ?_
  refine sim_iald dX0_sectionAhead_11 rfl (by decide) ?_
  refine sim_icmp_le (tgt := 26) dX0_sectionAhead_12 (by decide) ?_ ?_
  · refine sim_aload_n dX0_sectionAhead_26 rfl ?_
    refine sim_get (v := pR 0 k1 7) dX0_sectionAhead_27 fl_X0_24 (by decide) rfl ?_
    refine sim_iload_n dX0_sectionAhead_30 rfl ?_
    refine sim_iald dX0_sectionAhead_31 rfl (by decide) ?_
    refine sim_iload_n dX0_sectionAhead_32 rfl ?_
    refine sim_iadd dX0_sectionAhead_33 ?_
    refine sim_iconst (v := 1) dX0_sectionAhead_34 (by decide) ?_
    refine sim_isub dX0_sectionAhead_35 ?_
    exact sim_iret dX0_sectionAhead_36 rfl rfl
  · refine sim_aload_n dX0_sectionAhead_15 rfl ?_
    refine sim_get (v := pR 0 k1 7) dX0_sectionAhead_16 fl_X0_24 (by decide) rfl ?_
    refine sim_iload_n dX0_sectionAhead_19 rfl ?_
    refine sim_iald dX0_sectionAhead_20 rfl (by decide) ?_
    refine sim_iload_n dX0_sectionAhead_21 rfl ?_
    refine sim_isub dX0_sectionAhead_22 ?_
    refine sim_goto (tgt := 36) dX0_sectionAhead_23 (by decide) ?_
    exact sim_iret dX0_sectionAhead_36 rfl rfl

def bL_minutesLeft_9 (k1 : Nat) (x2 : Int32) (m3 : Mem) (s8 : Int32 → Int32 → Option Int32) (x6 : Int32) (x7 : Int32) : Option Int32 :=
  if x7 ≤ 0 then (some x6) else (Option.bind (fL_sectionAhead k1 x2 x7 m3) (fun x10 => gd (inb x10 6) (lt (x6 + (m3 (0, k1, 4) (ix x10))) (fun (x11 : Int32) => lt (x7 + (-1)) (fun (x12 : Int32) => s8 x11 x12)))))
def fL_minutesLeft (k1 : Nat) (x2 : Int32) (m3 : Mem) : Option Int32 :=
  lt 0 (fun (x4 : Int32) => gd (inb x2 4) (lt (m3 (0, k1, 9) (ix x2)) (fun (x5 : Int32) => lz20 (bL_minutesLeft_9 k1 x2 m3) FU x4 x5)))
abbrev rm_L_minutesLeft : Room := { frames := 1, cells := 0, slots := 0, locals := 22 }
set_option maxRecDepth 4000 in
theorem sL_minutesLeft (X : Sc) (k1 : Nat) (x2 : Int32) (m3 : Mem) : Sim X cX0_minutesLeft 4 (some .int) RX0 rm_L_minutesLeft (fun r : Int32 => r) (fun _ : Int32 => m3) 0 [(0, pR 0 k1 0), (1, pI x2)] [] m3 (fL_minutesLeft k1 x2 m3) := by
  unfold fL_minutesLeft
  refine sim_iconst (v := 0) dX0_minutesLeft_0 (by decide) ?_
  refine sim_istore_n (fun z => [(0, pR 0 k1 0), (1, pI x2), (2, pI z)]) [1, 2, 0] dX0_minutesLeft_1 (by decide) (fun _ => rfl) (fun x4 => ?_)
  refine sim_aload_n dX0_minutesLeft_2 rfl ?_
  refine sim_get (v := pR 0 k1 9) dX0_minutesLeft_3 fl_X0_30 (by decide) rfl ?_
  refine sim_iload_n dX0_minutesLeft_6 rfl ?_
  refine sim_iald dX0_minutesLeft_7 rfl (by decide) ?_
  refine sim_istore_n (fun z => [(0, pR 0 k1 0), (1, pI x2), (2, pI x4), (3, pI z)]) [1, 2, 3, 0] dX0_minutesLeft_8 (by decide) (fun _ => rfl) (fun x5 => ?_)
  refine sim_lz20 (fun z0 z1 => [(0, pR 0 k1 0), (1, pI x2), (2, pI z0), (3, pI z1)]) (fun s8 hs9 x6 x7 => ?_) FU x4 x5
  unfold bL_minutesLeft_9
  refine sim_iload_n dX0_minutesLeft_9 rfl ?_
  refine sim_if_le (tgt := 33) dX0_minutesLeft_10 (by decide) ?_ ?_
  · refine sim_iload_n dX0_minutesLeft_33 rfl ?_
    exact sim_iret dX0_minutesLeft_34 rfl rfl
  · refine sim_iload_n dX0_minutesLeft_13 rfl ?_
    refine sim_aload_n dX0_minutesLeft_14 rfl ?_
    refine sim_get (v := pR 0 k1 4) dX0_minutesLeft_15 fl_X0_18 (by decide) rfl ?_
    refine sim_aload_n dX0_minutesLeft_18 rfl ?_
    refine sim_iload_n dX0_minutesLeft_19 rfl ?_
    refine sim_iload_n dX0_minutesLeft_20 rfl ?_
    refine sim_callV (As := [pI x2, pI x7]) (rest := [pR 0 k1 4, pI x6]) (k0 := k1) dX0_minutesLeft_21 ln_X0_81 me_X0_sectionAhead rfl (by decide) rfl (by decide) (Nat.le_of_ble_eq_true rfl) (Nat.le_of_ble_eq_true rfl) rfl (sL_sectionAhead X k1 x2 x7 m3) (fun x10 => ?_)
    refine sim_iald dX0_minutesLeft_24 rfl (by decide) ?_
    refine sim_iadd dX0_minutesLeft_25 ?_
    refine sim_istore_n (fun z => [(0, pR 0 k1 0), (1, pI x2), (2, pI z), (3, pI x7)]) [1, 2, 0, 3] dX0_minutesLeft_26 (by decide) (fun _ => rfl) (fun x11 => ?_)
    refine sim_iinc (y := (-1)) (fun z => [(0, pR 0 k1 0), (1, pI x2), (2, pI x11), (3, pI z)]) [1, 2, 3, 0] dX0_minutesLeft_27 rfl (by decide) (by decide) (fun _ => rfl) (fun x12 => ?_)
    refine sim_goto (tgt := 9) dX0_minutesLeft_30 (by decide) ?_
    exact hs9 x11 x12

def bL_runnerIn_2 (k1 : Nat) (x2 : Int32) (m3 : Mem) (s6 : Int32 → Option Int32) (x5 : Int32) : Option Int32 :=
  if (m3 (0, k1, 0) 4) ≤ x5 then (some (-4)) else (gd (inb x5 4) (if (m3 (0, k1, 10) (ix x5)) = 1 then (gd (inb x5 4) (Option.bind (fL_sectionAhead k1 x5 ((m3 (0, k1, 9) (ix x5)) + 1) m3) (fun x9 => if x9 = x2 then (some x5) else (lt (x5 + 1) (fun (x10 : Int32) => s6 x10))))) else (lt (x5 + 1) (fun (x8 : Int32) => s6 x8))))
def fL_runnerIn (k1 : Nat) (x2 : Int32) (m3 : Mem) : Option Int32 :=
  lt 0 (fun (x4 : Int32) => lz10 (bL_runnerIn_2 k1 x2 m3) FU x4)
abbrev rm_L_runnerIn : Room := { frames := 1, cells := 0, slots := 0, locals := 22 }
set_option maxRecDepth 4000 in
theorem sL_runnerIn (X : Sc) (k1 : Nat) (x2 : Int32) (m3 : Mem) : Sim X cX0_runnerIn 3 (some .int) RX0 rm_L_runnerIn (fun r : Int32 => r) (fun _ : Int32 => m3) 0 [(0, pR 0 k1 0), (1, pI x2)] [] m3 (fL_runnerIn k1 x2 m3) := by
  unfold fL_runnerIn
  refine sim_iconst (v := 0) dX0_runnerIn_0 (by decide) ?_
  refine sim_istore_n (fun z => [(0, pR 0 k1 0), (1, pI x2), (2, pI z)]) [1, 2, 0] dX0_runnerIn_1 (by decide) (fun _ => rfl) (fun x4 => ?_)
  refine sim_lz10 (fun z0 => [(0, pR 0 k1 0), (1, pI x2), (2, pI z0)]) (fun s6 hs7 x5 => ?_) FU x4
  unfold bL_runnerIn_2
  refine sim_iload_n dX0_runnerIn_2 rfl ?_
  refine sim_aload_n dX0_runnerIn_3 rfl ?_
  refine sim_get (v := pI (m3 (0, k1, 0) 4)) dX0_runnerIn_4 fl_X0_58 (by decide) rfl ?_
  refine sim_icmp_ge (tgt := 45) dX0_runnerIn_7 (by decide) ?_ ?_
  · refine sim_bipush (v := (-4)) dX0_runnerIn_45 (by decide) ?_
    exact sim_iret dX0_runnerIn_47 rfl rfl
  · refine sim_aload_n dX0_runnerIn_10 rfl ?_
    refine sim_get (v := pR 0 k1 10) dX0_runnerIn_11 fl_X0_33 (by decide) rfl ?_
    refine sim_iload_n dX0_runnerIn_14 rfl ?_
    refine sim_iald dX0_runnerIn_15 rfl (by decide) ?_
    refine sim_iconst (v := 1) dX0_runnerIn_16 (by decide) ?_
    refine sim_icmp_ne (tgt := 39) dX0_runnerIn_17 (by decide) ?_ ?_
    · refine sim_aload_n dX0_runnerIn_20 rfl ?_
      refine sim_iload_n dX0_runnerIn_21 rfl ?_
      refine sim_aload_n dX0_runnerIn_22 rfl ?_
      refine sim_get (v := pR 0 k1 9) dX0_runnerIn_23 fl_X0_30 (by decide) rfl ?_
      refine sim_iload_n dX0_runnerIn_26 rfl ?_
      refine sim_iald dX0_runnerIn_27 rfl (by decide) ?_
      refine sim_iconst (v := 1) dX0_runnerIn_28 (by decide) ?_
      refine sim_iadd dX0_runnerIn_29 ?_
      refine sim_callV (As := [pI x5, pI ((m3 (0, k1, 9) (ix x5)) + 1)]) (rest := []) (k0 := k1) dX0_runnerIn_30 ln_X0_81 me_X0_sectionAhead rfl (by decide) rfl (by decide) (Nat.le_of_ble_eq_true rfl) (Nat.le_of_ble_eq_true rfl) rfl (sL_sectionAhead X k1 x5 ((m3 (0, k1, 9) (ix x5)) + 1) m3) (fun x9 => ?_)
      refine sim_iload_n dX0_runnerIn_33 rfl ?_
      refine sim_icmp_ne (tgt := 39) dX0_runnerIn_34 (by decide) ?_ ?_
      · refine sim_iload_n dX0_runnerIn_37 rfl ?_
        exact sim_iret dX0_runnerIn_38 rfl rfl
      · refine sim_iinc (y := 1) (fun z => [(0, pR 0 k1 0), (1, pI x2), (2, pI z)]) [1, 2, 0] dX0_runnerIn_39 rfl (by decide) (by decide) (fun _ => rfl) (fun x10 => ?_)
        refine sim_goto (tgt := 2) dX0_runnerIn_42 (by decide) ?_
        exact hs7 x10
    · refine sim_iinc (y := 1) (fun z => [(0, pR 0 k1 0), (1, pI x2), (2, pI z)]) [1, 2, 0] dX0_runnerIn_39 rfl (by decide) (by decide) (fun _ => rfl) (fun x8 => ?_)
      refine sim_goto (tgt := 2) dX0_runnerIn_42 (by decide) ?_
      exact hs7 x8

def fL_forgetFirstEntry (k1 : Nat) (m2 : Mem) : Option Mem :=
  lt (wr m2 (0, k1, 0) 12 ((m2 (0, k1, 0) 12) - 1)) (fun m3 => gd (cpk 1 0 (m3 (0, k1, 0) 12) 60 60) (lt (sr m3 (0, k1, 14) (va_cpy (m3 (0, k1, 14)) (m3 (0, k1, 14)) (ix 1) (ix 0) (ix (m3 (0, k1, 0) 12)))) (fun m4 => gd (cpk 1 0 (m4 (0, k1, 0) 12) 60 60) (lt (sr m4 (0, k1, 15) (va_cpy (m4 (0, k1, 15)) (m4 (0, k1, 15)) (ix 1) (ix 0) (ix (m4 (0, k1, 0) 12)))) (fun m5 => gd (cpk 1 0 (m5 (0, k1, 0) 12) 60 60) (lt (sr m5 (0, k1, 16) (va_cpy (m5 (0, k1, 16)) (m5 (0, k1, 16)) (ix 1) (ix 0) (ix (m5 (0, k1, 0) 12)))) (fun m6 => some m6)))))))
abbrev rm_L_forgetFirstEntry : Room := { frames := 1, cells := 0, slots := 0, locals := 40 }
set_option maxRecDepth 4000 in
theorem sL_forgetFirstEntry (X : Sc) (k1 : Nat) (m2 : Mem) : Sim X cX0_forgetFirstEntry 1 none RX0 rm_L_forgetFirstEntry (fun _ : Mem => 0) (fun m : Mem => m) 0 [(0, pR 0 k1 0)] [] m2 (fL_forgetFirstEntry k1 m2) := by
  unfold fL_forgetFirstEntry
  refine sim_aload_n dX0_forgetFirstEntry_0 rfl ?_
  refine sim_dup dX0_forgetFirstEntry_1 rfl ?_
  refine sim_get (v := pI (m2 (0, k1, 0) 12)) dX0_forgetFirstEntry_2 fl_X0_64 (by decide) rfl ?_
  refine sim_iconst (v := 1) dX0_forgetFirstEntry_5 (by decide) ?_
  refine sim_isub dX0_forgetFirstEntry_6 ?_
  refine sim_put dX0_forgetFirstEntry_7 fl_X0_64 fp_0_12 rfl rfl (fun m3 => ?_)
  refine sim_aload_n dX0_forgetFirstEntry_10 rfl ?_
  refine sim_get (v := pR 0 k1 14) dX0_forgetFirstEntry_11 fl_X0_39 (by decide) rfl ?_
  refine sim_iconst (v := 1) dX0_forgetFirstEntry_14 (by decide) ?_
  refine sim_aload_n dX0_forgetFirstEntry_15 rfl ?_
  refine sim_get (v := pR 0 k1 14) dX0_forgetFirstEntry_16 fl_X0_39 (by decide) rfl ?_
  refine sim_iconst (v := 0) dX0_forgetFirstEntry_19 (by decide) ?_
  refine sim_aload_n dX0_forgetFirstEntry_20 rfl ?_
  refine sim_get (v := pI (m3 (0, k1, 0) 12)) dX0_forgetFirstEntry_21 fl_X0_64 (by decide) rfl ?_
  refine sim_copy dX0_forgetFirstEntry_24 ln_X0_52 acw rfl rfl (by decide) (by decide) (by decide) (Nat.le_of_ble_eq_true rfl) (fun m4 => ?_)
  refine sim_aload_n dX0_forgetFirstEntry_27 rfl ?_
  refine sim_get (v := pR 0 k1 15) dX0_forgetFirstEntry_28 fl_X0_42 (by decide) rfl ?_
  refine sim_iconst (v := 1) dX0_forgetFirstEntry_31 (by decide) ?_
  refine sim_aload_n dX0_forgetFirstEntry_32 rfl ?_
  refine sim_get (v := pR 0 k1 15) dX0_forgetFirstEntry_33 fl_X0_42 (by decide) rfl ?_
  refine sim_iconst (v := 0) dX0_forgetFirstEntry_36 (by decide) ?_
  refine sim_aload_n dX0_forgetFirstEntry_37 rfl ?_
  refine sim_get (v := pI (m4 (0, k1, 0) 12)) dX0_forgetFirstEntry_38 fl_X0_64 (by decide) rfl ?_
  refine sim_copy dX0_forgetFirstEntry_41 ln_X0_52 acw rfl rfl (by decide) (by decide) (by decide) (Nat.le_of_ble_eq_true rfl) (fun m5 => ?_)
  refine sim_aload_n dX0_forgetFirstEntry_44 rfl ?_
  refine sim_get (v := pR 0 k1 16) dX0_forgetFirstEntry_45 fl_X0_45 (by decide) rfl ?_
  refine sim_iconst (v := 1) dX0_forgetFirstEntry_48 (by decide) ?_
  refine sim_aload_n dX0_forgetFirstEntry_49 rfl ?_
  refine sim_get (v := pR 0 k1 16) dX0_forgetFirstEntry_50 fl_X0_45 (by decide) rfl ?_
  refine sim_iconst (v := 0) dX0_forgetFirstEntry_53 (by decide) ?_
  refine sim_aload_n dX0_forgetFirstEntry_54 rfl ?_
  refine sim_get (v := pI (m5 (0, k1, 0) 12)) dX0_forgetFirstEntry_55 fl_X0_64 (by decide) rfl ?_
  refine sim_copy dX0_forgetFirstEntry_58 ln_X0_52 acw rfl rfl (by decide) (by decide) (by decide) (Nat.le_of_ble_eq_true rfl) (fun m6 => ?_)
  exact sim_ret dX0_forgetFirstEntry_61 rfl

def jL_enterJournal_97 (k1 : Nat) (x2 : Int32) (x3 : Int32) (x7 : Int32) (m8 : Mem) : Option Mem :=
  gd (inb x7 60) (lt (wr m8 (0, k1, 14) (ix x7) (m8 (0, k1, 0) 11)) (fun m9 => gd (inb x7 60) (lt (wr m9 (0, k1, 15) (ix x7) x2) (fun m10 => gd (inb x7 60) (lt (wr m10 (0, k1, 16) (ix x7) x3) (fun m11 => lt (wr m11 (0, k1, 0) 12 ((m11 (0, k1, 0) 12) + 1)) (fun m12 => some m12)))))))
def bL_enterJournal_18 (k1 : Nat) (x2 : Int32) (x3 : Int32) (s16 : Int32 → Mem → Option Mem) (x14 : Int32) (m15 : Mem) : Option Mem :=
  if x14 ≤ 0 then (jL_enterJournal_97 k1 x2 x3 x14 m15) else (gd (inb (x14 - 1) 60) (if (m15 (0, k1, 14) (ix (x14 - 1))) = (m15 (0, k1, 0) 11) then (gd (inb (x14 - 1) 60) (if (m15 (0, k1, 15) (ix (x14 - 1))) ≤ x2 then (jL_enterJournal_97 k1 x2 x3 x14 m15) else (gd (inb (x14 - 1) 60) (gd (inb x14 60) (lt (wr m15 (0, k1, 14) (ix x14) (m15 (0, k1, 14) (ix (x14 - 1)))) (fun m18 => gd (inb (x14 - 1) 60) (gd (inb x14 60) (lt (wr m18 (0, k1, 15) (ix x14) (m18 (0, k1, 15) (ix (x14 - 1)))) (fun m19 => gd (inb (x14 - 1) 60) (gd (inb x14 60) (lt (wr m19 (0, k1, 16) (ix x14) (m19 (0, k1, 16) (ix (x14 - 1)))) (fun m20 => lt (x14 + (-1)) (fun (x21 : Int32) => s16 x21 m20))))))))))))) else (jL_enterJournal_97 k1 x2 x3 x14 m15)))
def jL_enterJournal_13 (k1 : Nat) (x2 : Int32) (x3 : Int32) (m5 : Mem) : Option Mem :=
  lt (m5 (0, k1, 0) 12) (fun (x6 : Int32) => lz11 (bL_enterJournal_18 k1 x2 x3) FU x6 m5)
def fL_enterJournal (k1 : Nat) (x2 : Int32) (x3 : Int32) (m4 : Mem) : Option Mem :=
  if (m4 (0, k1, 0) 12) < 60 then (jL_enterJournal_13 k1 x2 x3 m4) else (Option.bind (fL_forgetFirstEntry k1 m4) (fun m23 => jL_enterJournal_13 k1 x2 x3 m23))
abbrev rm_L_enterJournal : Room := { frames := 2, cells := 0, slots := 0, locals := 60 }
set_option maxRecDepth 4000 in
theorem sL_enterJournal (X : Sc) (k1 : Nat) (x2 : Int32) (x3 : Int32) (m4 : Mem) : Sim X cX0_enterJournal 4 none RX0 rm_L_enterJournal (fun _ : Mem => 0) (fun m : Mem => m) 0 [(0, pR 0 k1 0), (1, pI x2), (2, pI x3)] [] m4 (fL_enterJournal k1 x2 x3 m4) := by
  unfold fL_enterJournal
  refine sim_aload_n dX0_enterJournal_0 rfl ?_
  refine sim_get (v := pI (m4 (0, k1, 0) 12)) dX0_enterJournal_1 fl_X0_64 (by decide) rfl ?_
  refine sim_bipush (v := 60) dX0_enterJournal_4 (by decide) ?_
  have hJ22 : ∀ (m5 : Mem), Sim X cX0_enterJournal 4 none RX0 rm_L_enterJournal (fun _ : Mem => 0) (fun m : Mem => m) 13 [(0, pR 0 k1 0), (1, pI x2), (2, pI x3)] [] m5 (jL_enterJournal_13 k1 x2 x3 m5) := by
    intro m5
    unfold jL_enterJournal_13
    refine sim_aload_n dX0_enterJournal_13 rfl ?_
    refine sim_get (v := pI (m5 (0, k1, 0) 12)) dX0_enterJournal_14 fl_X0_64 (by decide) rfl ?_
    refine sim_istore_n (fun z => [(0, pR 0 k1 0), (1, pI x2), (2, pI x3), (3, pI z)]) [1, 2, 3, 0] dX0_enterJournal_17 (by decide) (fun _ => rfl) (fun x6 => ?_)
    have hJ13 : ∀ (x7 : Int32) (m8 : Mem), Sim X cX0_enterJournal 4 none RX0 rm_L_enterJournal (fun _ : Mem => 0) (fun m : Mem => m) 97 [(0, pR 0 k1 0), (1, pI x2), (2, pI x3), (3, pI x7)] [] m8 (jL_enterJournal_97 k1 x2 x3 x7 m8) := by
      intro x7 m8
      unfold jL_enterJournal_97
      refine sim_aload_n dX0_enterJournal_97 rfl ?_
      refine sim_get (v := pR 0 k1 14) dX0_enterJournal_98 fl_X0_39 (by decide) rfl ?_
      refine sim_iload_n dX0_enterJournal_101 rfl ?_
      refine sim_aload_n dX0_enterJournal_102 rfl ?_
      refine sim_get (v := pI (m8 (0, k1, 0) 11)) dX0_enterJournal_103 fl_X0_61 (by decide) rfl ?_
      refine sim_iast dX0_enterJournal_106 rfl (by decide) (fun m9 => ?_)
      refine sim_aload_n dX0_enterJournal_107 rfl ?_
      refine sim_get (v := pR 0 k1 15) dX0_enterJournal_108 fl_X0_42 (by decide) rfl ?_
      refine sim_iload_n dX0_enterJournal_111 rfl ?_
      refine sim_iload_n dX0_enterJournal_112 rfl ?_
      refine sim_iast dX0_enterJournal_113 rfl (by decide) (fun m10 => ?_)
      refine sim_aload_n dX0_enterJournal_114 rfl ?_
      refine sim_get (v := pR 0 k1 16) dX0_enterJournal_115 fl_X0_45 (by decide) rfl ?_
      refine sim_iload_n dX0_enterJournal_118 rfl ?_
      refine sim_iload_n dX0_enterJournal_119 rfl ?_
      refine sim_iast dX0_enterJournal_120 rfl (by decide) (fun m11 => ?_)
      refine sim_aload_n dX0_enterJournal_121 rfl ?_
      refine sim_dup dX0_enterJournal_122 rfl ?_
      refine sim_get (v := pI (m11 (0, k1, 0) 12)) dX0_enterJournal_123 fl_X0_64 (by decide) rfl ?_
      refine sim_iconst (v := 1) dX0_enterJournal_126 (by decide) ?_
      refine sim_iadd dX0_enterJournal_127 ?_
      refine sim_put dX0_enterJournal_128 fl_X0_64 fp_0_12 rfl rfl (fun m12 => ?_)
      exact sim_ret dX0_enterJournal_131 rfl
    refine sim_lz11 (fun z0 => [(0, pR 0 k1 0), (1, pI x2), (2, pI x3), (3, pI z0)]) (fun s16 hs17 x14 m15 => ?_) FU x6 m5
    unfold bL_enterJournal_18
    refine sim_iload_n dX0_enterJournal_18 rfl ?_
    refine sim_if_le (tgt := 97) dX0_enterJournal_19 (by decide) ?_ ?_
    · exact hJ13 x14 m15
    · refine sim_aload_n dX0_enterJournal_22 rfl ?_
      refine sim_get (v := pR 0 k1 14) dX0_enterJournal_23 fl_X0_39 (by decide) rfl ?_
      refine sim_iload_n dX0_enterJournal_26 rfl ?_
      refine sim_iconst (v := 1) dX0_enterJournal_27 (by decide) ?_
      refine sim_isub dX0_enterJournal_28 ?_
      refine sim_iald dX0_enterJournal_29 rfl (by decide) ?_
      refine sim_aload_n dX0_enterJournal_30 rfl ?_
      refine sim_get (v := pI (m15 (0, k1, 0) 11)) dX0_enterJournal_31 fl_X0_61 (by decide) rfl ?_
      refine sim_icmp_ne (tgt := 97) dX0_enterJournal_34 (by decide) ?_ ?_
      · refine sim_aload_n dX0_enterJournal_37 rfl ?_
        refine sim_get (v := pR 0 k1 15) dX0_enterJournal_38 fl_X0_42 (by decide) rfl ?_
        refine sim_iload_n dX0_enterJournal_41 rfl ?_
        refine sim_iconst (v := 1) dX0_enterJournal_42 (by decide) ?_
        refine sim_isub dX0_enterJournal_43 ?_
        refine sim_iald dX0_enterJournal_44 rfl (by decide) ?_
        refine sim_iload_n dX0_enterJournal_45 rfl ?_
        refine sim_icmp_le (tgt := 97) dX0_enterJournal_46 (by decide) ?_ ?_
        · exact hJ13 x14 m15
        · refine sim_aload_n dX0_enterJournal_49 rfl ?_
          refine sim_get (v := pR 0 k1 14) dX0_enterJournal_50 fl_X0_39 (by decide) rfl ?_
          refine sim_iload_n dX0_enterJournal_53 rfl ?_
          refine sim_aload_n dX0_enterJournal_54 rfl ?_
          refine sim_get (v := pR 0 k1 14) dX0_enterJournal_55 fl_X0_39 (by decide) rfl ?_
          refine sim_iload_n dX0_enterJournal_58 rfl ?_
          refine sim_iconst (v := 1) dX0_enterJournal_59 (by decide) ?_
          refine sim_isub dX0_enterJournal_60 ?_
          refine sim_iald dX0_enterJournal_61 rfl (by decide) ?_
          refine sim_iast dX0_enterJournal_62 rfl (by decide) (fun m18 => ?_)
          refine sim_aload_n dX0_enterJournal_63 rfl ?_
          refine sim_get (v := pR 0 k1 15) dX0_enterJournal_64 fl_X0_42 (by decide) rfl ?_
          refine sim_iload_n dX0_enterJournal_67 rfl ?_
          refine sim_aload_n dX0_enterJournal_68 rfl ?_
          refine sim_get (v := pR 0 k1 15) dX0_enterJournal_69 fl_X0_42 (by decide) rfl ?_
          refine sim_iload_n dX0_enterJournal_72 rfl ?_
          refine sim_iconst (v := 1) dX0_enterJournal_73 (by decide) ?_
          refine sim_isub dX0_enterJournal_74 ?_
          refine sim_iald dX0_enterJournal_75 rfl (by decide) ?_
          refine sim_iast dX0_enterJournal_76 rfl (by decide) (fun m19 => ?_)
          refine sim_aload_n dX0_enterJournal_77 rfl ?_
          refine sim_get (v := pR 0 k1 16) dX0_enterJournal_78 fl_X0_45 (by decide) rfl ?_
          refine sim_iload_n dX0_enterJournal_81 rfl ?_
          refine sim_aload_n dX0_enterJournal_82 rfl ?_
          refine sim_get (v := pR 0 k1 16) dX0_enterJournal_83 fl_X0_45 (by decide) rfl ?_
          refine sim_iload_n dX0_enterJournal_86 rfl ?_
          refine sim_iconst (v := 1) dX0_enterJournal_87 (by decide) ?_
          refine sim_isub dX0_enterJournal_88 ?_
          refine sim_iald dX0_enterJournal_89 rfl (by decide) ?_
          refine sim_iast dX0_enterJournal_90 rfl (by decide) (fun m20 => ?_)
          refine sim_iinc (y := (-1)) (fun z => [(0, pR 0 k1 0), (1, pI x2), (2, pI x3), (3, pI z)]) [1, 2, 3, 0] dX0_enterJournal_91 rfl (by decide) (by decide) (fun _ => rfl) (fun x21 => ?_)
          refine sim_goto (tgt := 18) dX0_enterJournal_94 (by decide) ?_
          exact hs17 x21 m20
      · exact hJ13 x14 m15
  refine sim_icmp_lt (tgt := 13) dX0_enterJournal_6 (by decide) ?_ ?_
  · exact hJ22 m4
  · refine sim_aload_n dX0_enterJournal_9 rfl ?_
    refine sim_callV (As := []) (rest := []) (k0 := k1) dX0_enterJournal_10 ln_X0_88 me_X0_forgetFirstEntry rfl (by decide) rfl (by decide) (Nat.le_of_ble_eq_true rfl) (Nat.le_of_ble_eq_true rfl) rfl (sL_forgetFirstEntry X k1 m4) (fun m23 => ?_)
    exact hJ22 m23

def fL_depart (k1 : Nat) (x2 : Int32) (m3 : Mem) : Option Mem :=
  gd (inb x2 4) (if 1 ≤ (m3 (0, k1, 9) (ix x2)) then (gd (inb x2 4) (Option.bind (fL_spot k1 x2 (m3 (0, k1, 9) (ix x2)) m3) (fun x4 => Option.bind (fL_enterJournal k1 x2 x4 m3) (fun m5 => gd (inb x2 4) (Option.bind (fL_sectionAhead k1 x2 (m5 (0, k1, 9) (ix x2)) m5) (fun x6 => gd (inb x6 6) (gd (inb x2 4) (lt (wr m5 (0, k1, 11) (ix x2) ((m5 (0, k1, 0) 11) + (m5 (0, k1, 4) (ix x6)))) (fun m7 => gd (inb x2 4) (gd (inb x2 4) (lt (wr m7 (0, k1, 9) (ix x2) ((m7 (0, k1, 9) (ix x2)) - 1)) (fun m8 => gd (inb x2 4) (lt (wr m8 (0, k1, 10) (ix x2) 1) (fun m9 => some m9)))))))))))))) else (some m3))
abbrev rm_L_depart : Room := { frames := 3, cells := 0, slots := 0, locals := 83 }
set_option maxRecDepth 4000 in
theorem sL_depart (X : Sc) (k1 : Nat) (x2 : Int32) (m3 : Mem) : Sim X cX0_depart 2 none RX0 rm_L_depart (fun _ : Mem => 0) (fun m : Mem => m) 0 [(0, pR 0 k1 0), (1, pI x2)] [] m3 (fL_depart k1 x2 m3) := by
  unfold fL_depart
  refine sim_aload_n dX0_depart_0 rfl ?_
  refine sim_get (v := pR 0 k1 9) dX0_depart_1 fl_X0_30 (by decide) rfl ?_
  refine sim_iload_n dX0_depart_4 rfl ?_
  refine sim_iald dX0_depart_5 rfl (by decide) ?_
  refine sim_iconst (v := 1) dX0_depart_6 (by decide) ?_
  refine sim_icmp_ge (tgt := 11) dX0_depart_7 (by decide) ?_ ?_
  · refine sim_aload_n dX0_depart_11 rfl ?_
    refine sim_iload_n dX0_depart_12 rfl ?_
    refine sim_aload_n dX0_depart_13 rfl ?_
    refine sim_iload_n dX0_depart_14 rfl ?_
    refine sim_aload_n dX0_depart_15 rfl ?_
    refine sim_get (v := pR 0 k1 9) dX0_depart_16 fl_X0_30 (by decide) rfl ?_
    refine sim_iload_n dX0_depart_19 rfl ?_
    refine sim_iald dX0_depart_20 rfl (by decide) ?_
    refine sim_callV (As := [pI x2, pI (m3 (0, k1, 9) (ix x2))]) (rest := [pI x2, pR 0 k1 0]) (k0 := k1) dX0_depart_21 ln_X0_77 me_X0_spot rfl (by decide) rfl (by decide) (Nat.le_of_ble_eq_true rfl) (Nat.le_of_ble_eq_true rfl) rfl (sL_spot X k1 x2 (m3 (0, k1, 9) (ix x2)) m3) (fun x4 => ?_)
    refine sim_callV (As := [pI x2, pI x4]) (rest := []) (k0 := k1) dX0_depart_24 ln_X0_84 me_X0_enterJournal rfl (by decide) rfl (by decide) (Nat.le_of_ble_eq_true rfl) (Nat.le_of_ble_eq_true rfl) rfl (sL_enterJournal X k1 x2 x4 m3) (fun m5 => ?_)
    refine sim_aload_n dX0_depart_27 rfl ?_
    refine sim_get (v := pR 0 k1 11) dX0_depart_28 fl_X0_36 (by decide) rfl ?_
    refine sim_iload_n dX0_depart_31 rfl ?_
    refine sim_aload_n dX0_depart_32 rfl ?_
    refine sim_get (v := pI (m5 (0, k1, 0) 11)) dX0_depart_33 fl_X0_61 (by decide) rfl ?_
    refine sim_aload_n dX0_depart_36 rfl ?_
    refine sim_get (v := pR 0 k1 4) dX0_depart_37 fl_X0_18 (by decide) rfl ?_
    refine sim_aload_n dX0_depart_40 rfl ?_
    refine sim_iload_n dX0_depart_41 rfl ?_
    refine sim_aload_n dX0_depart_42 rfl ?_
    refine sim_get (v := pR 0 k1 9) dX0_depart_43 fl_X0_30 (by decide) rfl ?_
    refine sim_iload_n dX0_depart_46 rfl ?_
    refine sim_iald dX0_depart_47 rfl (by decide) ?_
    refine sim_callV (As := [pI x2, pI (m5 (0, k1, 9) (ix x2))]) (rest := [pR 0 k1 4, pI (m5 (0, k1, 0) 11), pI x2, pR 0 k1 11]) (k0 := k1) dX0_depart_48 ln_X0_81 me_X0_sectionAhead rfl (by decide) rfl (by decide) (Nat.le_of_ble_eq_true rfl) (Nat.le_of_ble_eq_true rfl) rfl (sL_sectionAhead X k1 x2 (m5 (0, k1, 9) (ix x2)) m5) (fun x6 => ?_)
    refine sim_iald dX0_depart_51 rfl (by decide) ?_
    refine sim_iadd dX0_depart_52 ?_
    refine sim_iast dX0_depart_53 rfl (by decide) (fun m7 => ?_)
    refine sim_aload_n dX0_depart_54 rfl ?_
    refine sim_get (v := pR 0 k1 9) dX0_depart_55 fl_X0_30 (by decide) rfl ?_
    refine sim_iload_n dX0_depart_58 rfl ?_
    refine sim_dup2 dX0_depart_59 rfl rfl ?_
    refine sim_iald dX0_depart_60 rfl (by decide) ?_
    refine sim_iconst (v := 1) dX0_depart_61 (by decide) ?_
    refine sim_isub dX0_depart_62 ?_
    refine sim_iast dX0_depart_63 rfl (by decide) (fun m8 => ?_)
    refine sim_aload_n dX0_depart_64 rfl ?_
    refine sim_get (v := pR 0 k1 10) dX0_depart_65 fl_X0_33 (by decide) rfl ?_
    refine sim_iload_n dX0_depart_68 rfl ?_
    refine sim_iconst (v := 1) dX0_depart_69 (by decide) ?_
    refine sim_iast dX0_depart_70 rfl (by decide) (fun m9 => ?_)
    exact sim_ret dX0_depart_71 rfl
  · exact sim_ret dX0_depart_10 rfl

def bL_passTime_14 (k1 : Nat) (s10 : Int32 → Int32 → Mem → Option (Int32 × Mem)) (x7 : Int32) (x8 : Int32) (m9 : Mem) : Option (Int32 × Mem) :=
  if (m9 (0, k1, 0) 4) ≤ x8 then (some (x7, m9)) else (gd (inb x8 4) (if (m9 (0, k1, 10) (ix x8)) = 1 then (gd (inb x8 4) (if (m9 (0, k1, 0) 11) < (m9 (0, k1, 11) (ix x8)) then (lt (x8 + 1) (fun (x13 : Int32) => s10 x7 x13 m9)) else (gd (inb x8 4) (lt (if (m9 (0, k1, 9) (ix x8)) = 0 then 2 else 0) (fun (x14 : Int32) => gd (inb x8 4) (lt (wr m9 (0, k1, 10) (ix x8) x14) (fun m15 => lt (x7 + 1) (fun (x16 : Int32) => lt (x8 + 1) (fun (x17 : Int32) => s10 x16 x17 m15))))))))) else (lt (x8 + 1) (fun (x12 : Int32) => s10 x7 x12 m9))))
def fL_passTime (k1 : Nat) (x2 : Int32) (m3 : Mem) : Option (Int32 × Mem) :=
  lt (wr m3 (0, k1, 0) 11 ((m3 (0, k1, 0) 11) + x2)) (fun m4 => lt 0 (fun (x5 : Int32) => lt 0 (fun (x6 : Int32) => lz21 (bL_passTime_14 k1) FU x5 x6 m4)))
abbrev rm_L_passTime : Room := { frames := 0, cells := 0, slots := 0, locals := 0 }
set_option maxRecDepth 4000 in
theorem sL_passTime (X : Sc) (k1 : Nat) (x2 : Int32) (m3 : Mem) : Sim X cX0_passTime 4 (some .int) RX0 rm_L_passTime (fun q : Int32 × Mem => q.1) (fun q : Int32 × Mem => q.2) 0 [(0, pR 0 k1 0), (1, pI x2)] [] m3 (fL_passTime k1 x2 m3) := by
  unfold fL_passTime
  refine sim_aload_n dX0_passTime_0 rfl ?_
  refine sim_dup dX0_passTime_1 rfl ?_
  refine sim_get (v := pI (m3 (0, k1, 0) 11)) dX0_passTime_2 fl_X0_61 (by decide) rfl ?_
  refine sim_iload_n dX0_passTime_5 rfl ?_
  refine sim_iadd dX0_passTime_6 ?_
  refine sim_put dX0_passTime_7 fl_X0_61 fp_0_11 rfl rfl (fun m4 => ?_)
  refine sim_iconst (v := 0) dX0_passTime_10 (by decide) ?_
  refine sim_istore_n (fun z => [(0, pR 0 k1 0), (1, pI x2), (2, pI z)]) [1, 2, 0] dX0_passTime_11 (by decide) (fun _ => rfl) (fun x5 => ?_)
  refine sim_iconst (v := 0) dX0_passTime_12 (by decide) ?_
  refine sim_istore_n (fun z => [(0, pR 0 k1 0), (1, pI x2), (2, pI x5), (3, pI z)]) [1, 2, 3, 0] dX0_passTime_13 (by decide) (fun _ => rfl) (fun x6 => ?_)
  refine sim_lz21 (fun z0 z1 => [(0, pR 0 k1 0), (1, pI x2), (2, pI z0), (3, pI z1)]) (fun s10 hs11 x7 x8 m9 => ?_) FU x5 x6 m4
  unfold bL_passTime_14
  refine sim_iload_n dX0_passTime_14 rfl ?_
  refine sim_aload_n dX0_passTime_15 rfl ?_
  refine sim_get (v := pI (m9 (0, k1, 0) 4)) dX0_passTime_16 fl_X0_58 (by decide) rfl ?_
  refine sim_icmp_ge (tgt := 74) dX0_passTime_19 (by decide) ?_ ?_
  · refine sim_iload_n dX0_passTime_74 rfl ?_
    exact sim_iret dX0_passTime_75 rfl rfl
  · refine sim_aload_n dX0_passTime_22 rfl ?_
    refine sim_get (v := pR 0 k1 10) dX0_passTime_23 fl_X0_33 (by decide) rfl ?_
    refine sim_iload_n dX0_passTime_26 rfl ?_
    refine sim_iald dX0_passTime_27 rfl (by decide) ?_
    refine sim_iconst (v := 1) dX0_passTime_28 (by decide) ?_
    refine sim_icmp_ne (tgt := 68) dX0_passTime_29 (by decide) ?_ ?_
    · refine sim_aload_n dX0_passTime_32 rfl ?_
      refine sim_get (v := pR 0 k1 11) dX0_passTime_33 fl_X0_36 (by decide) rfl ?_
      refine sim_iload_n dX0_passTime_36 rfl ?_
      refine sim_iald dX0_passTime_37 rfl (by decide) ?_
      refine sim_aload_n dX0_passTime_38 rfl ?_
      refine sim_get (v := pI (m9 (0, k1, 0) 11)) dX0_passTime_39 fl_X0_61 (by decide) rfl ?_
      refine sim_icmp_gt (tgt := 68) dX0_passTime_42 (by decide) ?_ ?_
      · refine sim_iinc (y := 1) (fun z => [(0, pR 0 k1 0), (1, pI x2), (2, pI x7), (3, pI z)]) [1, 2, 3, 0] dX0_passTime_68 rfl (by decide) (by decide) (fun _ => rfl) (fun x13 => ?_)
        refine sim_goto (tgt := 14) dX0_passTime_71 (by decide) ?_
        exact hs11 x7 x13 m9
      · refine sim_aload_n dX0_passTime_45 rfl ?_
        refine sim_get (v := pR 0 k1 10) dX0_passTime_46 fl_X0_33 (by decide) rfl ?_
        refine sim_iload_n dX0_passTime_49 rfl ?_
        refine sim_aload_n dX0_passTime_50 rfl ?_
        refine sim_get (v := pR 0 k1 9) dX0_passTime_51 fl_X0_30 (by decide) rfl ?_
        refine sim_iload_n dX0_passTime_54 rfl ?_
        refine sim_iald dX0_passTime_55 rfl (by decide) ?_
        refine sim_jv 64 [(0, pR 0 k1 0), (1, pI x2), (2, pI x7), (3, pI x8)] [pI x8, pR 0 k1 10] (fun x14 => ?_) (fun hV18 => ?_)
        · refine sim_iast dX0_passTime_64 rfl (by decide) (fun m15 => ?_)
          refine sim_iinc (y := 1) (fun z => [(0, pR 0 k1 0), (1, pI x2), (2, pI z), (3, pI x8)]) [1, 2, 0, 3] dX0_passTime_65 rfl (by decide) (by decide) (fun _ => rfl) (fun x16 => ?_)
          refine sim_iinc (y := 1) (fun z => [(0, pR 0 k1 0), (1, pI x2), (2, pI x16), (3, pI z)]) [1, 2, 3, 0] dX0_passTime_68 rfl (by decide) (by decide) (fun _ => rfl) (fun x17 => ?_)
          refine sim_goto (tgt := 14) dX0_passTime_71 (by decide) ?_
          exact hs11 x16 x17 m15
        · refine sim_eq (lt_ite _ _ _ _) ?_
          refine sim_if_ne (tgt := 63) dX0_passTime_56 (by decide) ?_ ?_
          · refine sim_iconst (v := 2) dX0_passTime_59 (by decide) ?_
            refine sim_goto (tgt := 64) dX0_passTime_60 (by decide) ?_
            exact hV18 _
          · refine sim_iconst (v := 0) dX0_passTime_63 (by decide) ?_
            exact hV18 _
    · refine sim_iinc (y := 1) (fun z => [(0, pR 0 k1 0), (1, pI x2), (2, pI x7), (3, pI z)]) [1, 2, 3, 0] dX0_passTime_68 rfl (by decide) (by decide) (fun _ => rfl) (fun x12 => ?_)
      refine sim_goto (tgt := 14) dX0_passTime_71 (by decide) ?_
      exact hs11 x7 x12 m9

def bL_latestEnd_4 (k1 : Nat) (m2 : Mem) (s7 : Int32 → Int32 → Option Int32) (x5 : Int32) (x6 : Int32) : Option Int32 :=
  if (m2 (0, k1, 0) 4) ≤ x6 then (some x5) else (gd (inb x6 4) (lt (if x5 < (m2 (0, k1, 11) (ix x6)) then (m2 (0, k1, 11) (ix x6)) else x5) (fun (x9 : Int32) => lt (x6 + 1) (fun (x10 : Int32) => s7 x9 x10))))
def fL_latestEnd (k1 : Nat) (m2 : Mem) : Option Int32 :=
  lt 0 (fun (x3 : Int32) => lt 0 (fun (x4 : Int32) => lz20 (bL_latestEnd_4 k1 m2) FU x3 x4))
abbrev rm_L_latestEnd : Room := { frames := 1, cells := 0, slots := 0, locals := 40 }
set_option maxRecDepth 4000 in
theorem sL_latestEnd (X : Sc) (k1 : Nat) (m2 : Mem) : Sim X cX0_latestEnd 3 (some .int) RX0 rm_L_latestEnd (fun r : Int32 => r) (fun _ : Int32 => m2) 0 [(0, pR 0 k1 0)] [] m2 (fL_latestEnd k1 m2) := by
  unfold fL_latestEnd
  refine sim_iconst (v := 0) dX0_latestEnd_0 (by decide) ?_
  refine sim_istore_n (fun z => [(0, pR 0 k1 0), (1, pI z)]) [1, 0] dX0_latestEnd_1 (by decide) (fun _ => rfl) (fun x3 => ?_)
  refine sim_iconst (v := 0) dX0_latestEnd_2 (by decide) ?_
  refine sim_istore_n (fun z => [(0, pR 0 k1 0), (1, pI x3), (2, pI z)]) [1, 2, 0] dX0_latestEnd_3 (by decide) (fun _ => rfl) (fun x4 => ?_)
  refine sim_lz20 (fun z0 z1 => [(0, pR 0 k1 0), (1, pI z0), (2, pI z1)]) (fun s7 hs8 x5 x6 => ?_) FU x3 x4
  unfold bL_latestEnd_4
  refine sim_iload_n dX0_latestEnd_4 rfl ?_
  refine sim_aload_n dX0_latestEnd_5 rfl ?_
  refine sim_get (v := pI (m2 (0, k1, 0) 4)) dX0_latestEnd_6 fl_X0_58 (by decide) rfl ?_
  refine sim_icmp_ge (tgt := 29) dX0_latestEnd_9 (by decide) ?_ ?_
  · refine sim_iload_n dX0_latestEnd_29 rfl ?_
    exact sim_iret dX0_latestEnd_30 rfl rfl
  · refine sim_iload_n dX0_latestEnd_12 rfl ?_
    refine sim_aload_n dX0_latestEnd_13 rfl ?_
    refine sim_get (v := pR 0 k1 11) dX0_latestEnd_14 fl_X0_36 (by decide) rfl ?_
    refine sim_iload_n dX0_latestEnd_17 rfl ?_
    refine sim_iald dX0_latestEnd_18 rfl (by decide) ?_
    refine sim_mmax dX0_latestEnd_19 ln_X0_91 mmaxw (by decide) (Nat.le_of_ble_eq_true rfl) ?_
    refine sim_istore_n (fun z => [(0, pR 0 k1 0), (1, pI z), (2, pI x6)]) [1, 0, 2] dX0_latestEnd_22 (by decide) (fun _ => rfl) (fun x9 => ?_)
    refine sim_iinc (y := 1) (fun z => [(0, pR 0 k1 0), (1, pI x9), (2, pI z)]) [1, 2, 0] dX0_latestEnd_23 rfl (by decide) (by decide) (fun _ => rfl) (fun x10 => ?_)
    refine sim_goto (tgt := 4) dX0_latestEnd_26 (by decide) ?_
    exact hs8 x9 x10

def jL_waitForNext_41 (k1 : Nat) (m2 : Mem) (s7 : Int32 → Int32 → Option Int32) (x6 : Int32) : Option Int32 :=
  gd (inb x6 4) (lt ((m2 (0, k1, 11) (ix x6)) - (m2 (0, k1, 0) 11)) (fun (x10 : Int32) => lt (x6 + 1) (fun (x11 : Int32) => s7 x10 x11)))
def bL_waitForNext_4 (k1 : Nat) (m2 : Mem) (s7 : Int32 → Int32 → Option Int32) (x5 : Int32) (x6 : Int32) : Option Int32 :=
  if (m2 (0, k1, 0) 4) ≤ x6 then (some x5) else (gd (inb x6 4) (if (m2 (0, k1, 10) (ix x6)) = 1 then (if x5 = 0 then (jL_waitForNext_41 k1 m2 s7 x6) else (gd (inb x6 4) (if x5 ≤ ((m2 (0, k1, 11) (ix x6)) - (m2 (0, k1, 0) 11)) then (lt (x6 + 1) (fun (x13 : Int32) => s7 x5 x13)) else (jL_waitForNext_41 k1 m2 s7 x6)))) else (lt (x6 + 1) (fun (x9 : Int32) => s7 x5 x9))))
def fL_waitForNext (k1 : Nat) (m2 : Mem) : Option Int32 :=
  lt 0 (fun (x3 : Int32) => lt 0 (fun (x4 : Int32) => lz20 (bL_waitForNext_4 k1 m2) FU x3 x4))
abbrev rm_L_waitForNext : Room := { frames := 0, cells := 0, slots := 0, locals := 0 }
set_option maxRecDepth 4000 in
theorem sL_waitForNext (X : Sc) (k1 : Nat) (m2 : Mem) : Sim X cX0_waitForNext 3 (some .int) RX0 rm_L_waitForNext (fun r : Int32 => r) (fun _ : Int32 => m2) 0 [(0, pR 0 k1 0)] [] m2 (fL_waitForNext k1 m2) := by
  unfold fL_waitForNext
  refine sim_iconst (v := 0) dX0_waitForNext_0 (by decide) ?_
  refine sim_istore_n (fun z => [(0, pR 0 k1 0), (1, pI z)]) [1, 0] dX0_waitForNext_1 (by decide) (fun _ => rfl) (fun x3 => ?_)
  refine sim_iconst (v := 0) dX0_waitForNext_2 (by decide) ?_
  refine sim_istore_n (fun z => [(0, pR 0 k1 0), (1, pI x3), (2, pI z)]) [1, 2, 0] dX0_waitForNext_3 (by decide) (fun _ => rfl) (fun x4 => ?_)
  refine sim_lz20 (fun z0 z1 => [(0, pR 0 k1 0), (1, pI z0), (2, pI z1)]) (fun s7 hs8 x5 x6 => ?_) FU x3 x4
  unfold bL_waitForNext_4
  refine sim_iload_n dX0_waitForNext_4 rfl ?_
  refine sim_aload_n dX0_waitForNext_5 rfl ?_
  refine sim_get (v := pI (m2 (0, k1, 0) 4)) dX0_waitForNext_6 fl_X0_58 (by decide) rfl ?_
  refine sim_icmp_ge (tgt := 59) dX0_waitForNext_9 (by decide) ?_ ?_
  · refine sim_iload_n dX0_waitForNext_59 rfl ?_
    exact sim_iret dX0_waitForNext_60 rfl rfl
  · refine sim_aload_n dX0_waitForNext_12 rfl ?_
    refine sim_get (v := pR 0 k1 10) dX0_waitForNext_13 fl_X0_33 (by decide) rfl ?_
    refine sim_iload_n dX0_waitForNext_16 rfl ?_
    refine sim_iald dX0_waitForNext_17 rfl (by decide) ?_
    refine sim_iconst (v := 1) dX0_waitForNext_18 (by decide) ?_
    refine sim_icmp_ne (tgt := 53) dX0_waitForNext_19 (by decide) ?_ ?_
    · refine sim_iload_n dX0_waitForNext_22 rfl ?_
      have hJ12 : Sim X cX0_waitForNext 3 (some .int) RX0 rm_L_waitForNext (fun r : Int32 => r) (fun _ : Int32 => m2) 41 [(0, pR 0 k1 0), (1, pI x5), (2, pI x6)] [] m2 (jL_waitForNext_41 k1 m2 s7 x6) := by
        unfold jL_waitForNext_41
        refine sim_aload_n dX0_waitForNext_41 rfl ?_
        refine sim_get (v := pR 0 k1 11) dX0_waitForNext_42 fl_X0_36 (by decide) rfl ?_
        refine sim_iload_n dX0_waitForNext_45 rfl ?_
        refine sim_iald dX0_waitForNext_46 rfl (by decide) ?_
        refine sim_aload_n dX0_waitForNext_47 rfl ?_
        refine sim_get (v := pI (m2 (0, k1, 0) 11)) dX0_waitForNext_48 fl_X0_61 (by decide) rfl ?_
        refine sim_isub dX0_waitForNext_51 ?_
        refine sim_istore_n (fun z => [(0, pR 0 k1 0), (1, pI z), (2, pI x6)]) [1, 0, 2] dX0_waitForNext_52 (by decide) (fun _ => rfl) (fun x10 => ?_)
        refine sim_iinc (y := 1) (fun z => [(0, pR 0 k1 0), (1, pI x10), (2, pI z)]) [1, 2, 0] dX0_waitForNext_53 rfl (by decide) (by decide) (fun _ => rfl) (fun x11 => ?_)
        refine sim_goto (tgt := 4) dX0_waitForNext_56 (by decide) ?_
        exact hs8 x10 x11
      refine sim_if_eq (tgt := 41) dX0_waitForNext_23 (by decide) ?_ ?_
      · exact hJ12
      · refine sim_aload_n dX0_waitForNext_26 rfl ?_
        refine sim_get (v := pR 0 k1 11) dX0_waitForNext_27 fl_X0_36 (by decide) rfl ?_
        refine sim_iload_n dX0_waitForNext_30 rfl ?_
        refine sim_iald dX0_waitForNext_31 rfl (by decide) ?_
        refine sim_aload_n dX0_waitForNext_32 rfl ?_
        refine sim_get (v := pI (m2 (0, k1, 0) 11)) dX0_waitForNext_33 fl_X0_61 (by decide) rfl ?_
        refine sim_isub dX0_waitForNext_36 ?_
        refine sim_iload_n dX0_waitForNext_37 rfl ?_
        refine sim_icmp_ge (tgt := 53) dX0_waitForNext_38 (by decide) ?_ ?_
        · refine sim_iinc (y := 1) (fun z => [(0, pR 0 k1 0), (1, pI x5), (2, pI z)]) [1, 2, 0] dX0_waitForNext_53 rfl (by decide) (by decide) (fun _ => rfl) (fun x13 => ?_)
          refine sim_goto (tgt := 4) dX0_waitForNext_56 (by decide) ?_
          exact hs8 x5 x13
        · exact hJ12
    · refine sim_iinc (y := 1) (fun z => [(0, pR 0 k1 0), (1, pI x5), (2, pI z)]) [1, 2, 0] dX0_waitForNext_53 rfl (by decide) (by decide) (fun _ => rfl) (fun x9 => ?_)
      refine sim_goto (tgt := 4) dX0_waitForNext_56 (by decide) ?_
      exact hs8 x5 x9
