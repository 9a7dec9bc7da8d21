def bJ_fill_1_5_5 (k1 : Nat) (x2 : Int32) (x5 : Int32) (s8 : Int32 → Mem → Option Mem) (x6 : Int32) (m7 : Mem) : Option Mem :=
  if x5 ≤ x6 then (some m7) else (gd (inb x6 6) (lt (wr m7 (1, k1, 5) (ix x6) x2) (fun m10 => lt (x6 + 1) (fun (x11 : Int32) => s8 x11 m10))))
def fJ_fill_1_5 (k1 : Nat) (x2 : Int32) (m3 : Mem) : Option Mem :=
  lt 0 (fun (x4 : Int32) => lt 6 (fun (x5 : Int32) => lz11 (bJ_fill_1_5_5 k1 x2 x5) FU x4 m3))
abbrev rm_J_fill_1_5 : Room := { frames := 0, cells := 0, slots := 0, locals := 0 }
set_option maxRecDepth 4000 in
theorem sJ_fill_1_5 (X : Sc) (k1 : Nat) (x2 : Int32) (m3 : Mem) : Sim X cJ7_fill_53178 4 none RJ7 rm_J_fill_1_5 (fun _ : Mem => 0) (fun m : Mem => m) 0 [(0, pR 1 k1 5), (1, pI x2)] [] m3 (fJ_fill_1_5 k1 x2 m3) := by
  unfold fJ_fill_1_5
  refine sim_iconst (v := 0) dJ7_fill_53178_0 (by decide) ?_
  refine sim_istore_n (fun z => [(0, pR 1 k1 5), (1, pI x2), (2, pI z)]) [1, 2, 0] dJ7_fill_53178_1 (by decide) (fun _ => rfl) (fun x4 => ?_)
  refine sim_aload_n dJ7_fill_53178_2 rfl ?_
  refine sim_alen (v := 6) dJ7_fill_53178_3 rfl (by decide) (by decide) (by decide) ?_
  refine sim_istore_n (fun z => [(0, pR 1 k1 5), (1, pI x2), (2, pI x4), (3, pI z)]) [1, 2, 3, 0] dJ7_fill_53178_4 (by decide) (fun _ => rfl) (fun x5 => ?_)
  refine sim_lz11 (fun z0 => [(0, pR 1 k1 5), (1, pI x2), (2, pI z0), (3, pI x5)]) (fun s8 hs9 x6 m7 => ?_) FU x4 m3
  unfold bJ_fill_1_5_5
  refine sim_iload_n dJ7_fill_53178_5 rfl ?_
  refine sim_iload_n dJ7_fill_53178_6 rfl ?_
  refine sim_icmp_ge (tgt := 20) dJ7_fill_53178_7 (by decide) ?_ ?_
  · exact sim_ret dJ7_fill_53178_20 rfl
  · refine sim_aload_n dJ7_fill_53178_10 rfl ?_
    refine sim_iload_n dJ7_fill_53178_11 rfl ?_
    refine sim_iload_n dJ7_fill_53178_12 rfl ?_
    refine sim_iast dJ7_fill_53178_13 rfl (by decide) (fun m10 => ?_)
    refine sim_iinc (y := 1) (fun z => [(0, pR 1 k1 5), (1, pI x2), (2, pI z), (3, pI x5)]) [1, 2, 0, 3] dJ7_fill_53178_14 rfl (by decide) (by decide) (fun _ => rfl) (fun x11 => ?_)
    refine sim_goto (tgt := 5) dJ7_fill_53178_17 (by decide) ?_
    exact hs9 x11 m10

def bJ_fill_1_3_5 (k1 : Nat) (x2 : Int32) (x5 : Int32) (s8 : Int32 → Mem → Option Mem) (x6 : Int32) (m7 : Mem) : Option Mem :=
  if x5 ≤ x6 then (some m7) else (gd (inb x6 1296) (lt (wr m7 (1, k1, 3) (ix x6) (vp_nar .byte x2)) (fun m10 => lt (x6 + 1) (fun (x11 : Int32) => s8 x11 m10))))
def fJ_fill_1_3 (k1 : Nat) (x2 : Int32) (m3 : Mem) : Option Mem :=
  lt 0 (fun (x4 : Int32) => lt 1296 (fun (x5 : Int32) => lz11 (bJ_fill_1_3_5 k1 x2 x5) FU x4 m3))
abbrev rm_J_fill_1_3 : Room := { frames := 0, cells := 0, slots := 0, locals := 0 }
set_option maxRecDepth 4000 in
theorem sJ_fill_1_3 (X : Sc) (k1 : Nat) (x2 : Int32) (m3 : Mem) : Sim X cJ7_fill_031fb 4 none RJ7 rm_J_fill_1_3 (fun _ : Mem => 0) (fun m : Mem => m) 0 [(0, pR 1 k1 3), (1, pI x2)] [] m3 (fJ_fill_1_3 k1 x2 m3) := by
  unfold fJ_fill_1_3
  refine sim_iconst (v := 0) dJ7_fill_031fb_0 (by decide) ?_
  refine sim_istore_n (fun z => [(0, pR 1 k1 3), (1, pI x2), (2, pI z)]) [1, 2, 0] dJ7_fill_031fb_1 (by decide) (fun _ => rfl) (fun x4 => ?_)
  refine sim_aload_n dJ7_fill_031fb_2 rfl ?_
  refine sim_alen (v := 1296) dJ7_fill_031fb_3 rfl (by decide) (by decide) (by decide) ?_
  refine sim_istore_n (fun z => [(0, pR 1 k1 3), (1, pI x2), (2, pI x4), (3, pI z)]) [1, 2, 3, 0] dJ7_fill_031fb_4 (by decide) (fun _ => rfl) (fun x5 => ?_)
  refine sim_lz11 (fun z0 => [(0, pR 1 k1 3), (1, pI x2), (2, pI z0), (3, pI x5)]) (fun s8 hs9 x6 m7 => ?_) FU x4 m3
  unfold bJ_fill_1_3_5
  refine sim_iload_n dJ7_fill_031fb_5 rfl ?_
  refine sim_iload_n dJ7_fill_031fb_6 rfl ?_
  refine sim_icmp_ge (tgt := 20) dJ7_fill_031fb_7 (by decide) ?_ ?_
  · exact sim_ret dJ7_fill_031fb_20 rfl
  · refine sim_aload_n dJ7_fill_031fb_10 rfl ?_
    refine sim_iload_n dJ7_fill_031fb_11 rfl ?_
    refine sim_iload_n dJ7_fill_031fb_12 rfl ?_
    refine sim_bast dJ7_fill_031fb_13 rfl (by decide) (fun m10 => ?_)
    refine sim_iinc (y := 1) (fun z => [(0, pR 1 k1 3), (1, pI x2), (2, pI z), (3, pI x5)]) [1, 2, 0, 3] dJ7_fill_031fb_14 rfl (by decide) (by decide) (fun _ => rfl) (fun x11 => ?_)
    refine sim_goto (tgt := 5) dJ7_fill_031fb_17 (by decide) ?_
    exact hs9 x11 m10

def bJ_fill_3_2_5 (k1 : Nat) (x2 : Int32) (x5 : Int32) (s8 : Int32 → Mem → Option Mem) (x6 : Int32) (m7 : Mem) : Option Mem :=
  if x5 ≤ x6 then (some m7) else (gd (inb x6 40) (lt (wr m7 (3, k1, 2) (ix x6) x2) (fun m10 => lt (x6 + 1) (fun (x11 : Int32) => s8 x11 m10))))
def fJ_fill_3_2 (k1 : Nat) (x2 : Int32) (m3 : Mem) : Option Mem :=
  lt 0 (fun (x4 : Int32) => lt 40 (fun (x5 : Int32) => lz11 (bJ_fill_3_2_5 k1 x2 x5) FU x4 m3))
abbrev rm_J_fill_3_2 : Room := { frames := 0, cells := 0, slots := 0, locals := 0 }
set_option maxRecDepth 4000 in
theorem sJ_fill_3_2 (X : Sc) (k1 : Nat) (x2 : Int32) (m3 : Mem) : Sim X cJ7_fill_53178 4 none RJ7 rm_J_fill_3_2 (fun _ : Mem => 0) (fun m : Mem => m) 0 [(0, pR 3 k1 2), (1, pI x2)] [] m3 (fJ_fill_3_2 k1 x2 m3) := by
  unfold fJ_fill_3_2
  refine sim_iconst (v := 0) dJ7_fill_53178_0 (by decide) ?_
  refine sim_istore_n (fun z => [(0, pR 3 k1 2), (1, pI x2), (2, pI z)]) [1, 2, 0] dJ7_fill_53178_1 (by decide) (fun _ => rfl) (fun x4 => ?_)
  refine sim_aload_n dJ7_fill_53178_2 rfl ?_
  refine sim_alen (v := 40) dJ7_fill_53178_3 rfl (by decide) (by decide) (by decide) ?_
  refine sim_istore_n (fun z => [(0, pR 3 k1 2), (1, pI x2), (2, pI x4), (3, pI z)]) [1, 2, 3, 0] dJ7_fill_53178_4 (by decide) (fun _ => rfl) (fun x5 => ?_)
  refine sim_lz11 (fun z0 => [(0, pR 3 k1 2), (1, pI x2), (2, pI z0), (3, pI x5)]) (fun s8 hs9 x6 m7 => ?_) FU x4 m3
  unfold bJ_fill_3_2_5
  refine sim_iload_n dJ7_fill_53178_5 rfl ?_
  refine sim_iload_n dJ7_fill_53178_6 rfl ?_
  refine sim_icmp_ge (tgt := 20) dJ7_fill_53178_7 (by decide) ?_ ?_
  · exact sim_ret dJ7_fill_53178_20 rfl
  · refine sim_aload_n dJ7_fill_53178_10 rfl ?_
    refine sim_iload_n dJ7_fill_53178_11 rfl ?_
    refine sim_iload_n dJ7_fill_53178_12 rfl ?_
    refine sim_iast dJ7_fill_53178_13 rfl (by decide) (fun m10 => ?_)
    refine sim_iinc (y := 1) (fun z => [(0, pR 3 k1 2), (1, pI x2), (2, pI z), (3, pI x5)]) [1, 2, 0, 3] dJ7_fill_53178_14 rfl (by decide) (by decide) (fun _ => rfl) (fun x11 => ?_)
    refine sim_goto (tgt := 5) dJ7_fill_53178_17 (by decide) ?_
    exact hs9 x11 m10
