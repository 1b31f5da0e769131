def f_M_bringAnswer_79 : Nat → Option Nat → Int32 → g_St → Option (Unit × g_St)
  | 0, _, _, _ => none
  | n + 1, r0, x3, s0 =>
    g_gI s0 4353 r0 fun i1 =>
    if i1 ≤ x3 then
      g_gI s0 5377 r0 fun i2 =>
      g_pI s0 5377 r0 (i2 + 1) fun s3 =>
      some ((), s3)
    else
      g_gR s0 6273 r0 fun p4 =>
      g_gR s0 4545 r0 fun p5 =>
      g_aI s0 p5 x3 fun i6 =>
      g_aI s0 p4 i6 fun i7 =>
      g_gR s0 5569 r0 fun p8 =>
      g_gI s0 5377 r0 fun i9 =>
      g_gR s0 4609 r0 fun p10 =>
      g_aI s0 p10 x3 fun i11 =>
      if i11 = 100 then
        g_sL s0 p8 ((2 * i9) + x3) ((i7 - 100).toInt64) fun s17 =>
        f_M_bringAnswer_79 n r0 (x3 + 1) s17
      else
        g_gR s0 4609 r0 fun p12 =>
        g_aI s0 p12 x3 fun i13 =>
        g_c (g_nn r0 (f_M_cellOf r0 i7 i13 s0)) fun j14 s15 =>
        g_sL s15 p8 ((2 * i9) + x3) j14 fun s16 =>
        f_M_bringAnswer_79 n r0 (x3 + 1) s16
def f_M_bringAnswer_24 : Nat → Option Nat → Int32 → Int32 → Int32 → g_St → Option (Unit × g_St)
  | 0, _, _, _, _, _ => none
  | n + 1, r0, x1, x2, x3, s0 =>
    g_gR s0 2433 r0 fun p1 =>
    g_aI s0 p1 x1 fun i2 =>
    if i2 ≤ x3 then
      f_M_bringAnswer_79 200000 r0 0 s0
    else
      g_gR s0 5505 r0 fun p3 =>
      g_gI s0 5377 r0 fun i4 =>
      if x2 = (-1) then
        g_c (g_nn r0 (f_M_itemOf r0 x1 x3 s0)) fun j8 s9 =>
        g_sL s9 p3 ((4 * i4) + x3) j8 fun s10 =>
        f_M_bringAnswer_24 n r0 x1 x2 (x3 + 1) s10
      else
        g_gR s0 6401 r0 fun p5 =>
        g_aL s0 p5 ((4 * x2) + x3) fun j6 =>
        g_sL s0 p3 ((4 * i4) + x3) j6 fun s7 =>
        f_M_bringAnswer_24 n r0 x1 x2 (x3 + 1) s7
def f_M_bringAnswer (r0 : Option Nat) (x1 : Int32) (x2 : Int32) (s0 : g_St) : Option (Unit × g_St) :=
  g_gI s0 4929 r0 fun i1 =>
  g_gI s0 5377 r0 fun i2 =>
  g_gI s0 5441 r0 fun i3 =>
  if (i1 + i2) = i3 then
    g_pI s0 1 r0 4 fun s4 =>
    some ((), s4)
  else
    f_M_bringAnswer_24 200000 r0 x1 x2 0 s0
set_option maxHeartbeats 4000000 in
set_option maxRecDepth 100000 in
theorem t_M_bringAnswer_79 {K : g_C} {o : (Unit × g_St)} (hK : g_OK K b_M_bringAnswer "FixpointEngineModel" "bringAnswer" (Option.none : Option Jvm.ClassFile.FieldType)) (hN : g_nL K = 5) (hD : g_Kd K = 4) : ∀ (n : Nat) (r0 : Option Nat) (x3 : Int32) (s0 : g_St), f_M_bringAnswer_79 n r0 x3 s0 = some o → g_W K s0 [(0, g_r 1 r0), (3, g_i x3)] [] 79 (g_jV o) := by
  intro n
  induction n with
  | zero =>
    intro r0 x3 s0 h
    cases h
  | succ n ih =>
    intro r0 x3 s0 h
    unfold f_M_bringAnswer_79 at h
    refine r_iload_n hK d_M_bringAnswer_79 rfl 1 rfl ?_
    refine r_aload_n hK d_M_bringAnswer_80 rfl 0 rfl ?_
    refine r_gI hK fd_M_68 w7_100 d_M_bringAnswer_81 h (fun i1 h => ?_)
    refine r_if_icmpge (tgt := 151) hK d_M_bringAnswer_84 (by decide) h (fun h => ?_) (fun h => ?_)
    · refine r_aload_n hK d_M_bringAnswer_151 rfl 0 rfl ?_
      refine r_dup hK d_M_bringAnswer_152 rfl ?_
      refine r_gI hK fd_M_84 w7_116 d_M_bringAnswer_153 h (fun i2 h => ?_)
      refine r_iconst (v := 1) hK d_M_bringAnswer_156 (by decide) ?_
      refine r_iadd hK d_M_bringAnswer_157 ?_
      refine r_pI hK fd_M_84 rfl w7_116 d_M_bringAnswer_158 h (fun s3 h => ?_)
      exact r_return hK d_M_bringAnswer_161 h
    · refine r_aload_n hK d_M_bringAnswer_87 rfl 0 rfl ?_
      refine r_gR hK fd_M_98 w7_130 d_M_bringAnswer_88 h (fun p4 h => ?_)
      refine r_aload_n hK d_M_bringAnswer_91 rfl 0 rfl ?_
      refine r_gR hK fd_M_71 w7_103 d_M_bringAnswer_92 h (fun p5 h => ?_)
      refine r_iload_n hK d_M_bringAnswer_95 rfl 1 rfl ?_
      refine r_iaload hK ar_20 rfl d_M_bringAnswer_96 h (fun i6 h => ?_)
      refine r_iaload hK ar_20 rfl d_M_bringAnswer_97 h (fun i7 h => ?_)
      refine r_istore (ls1 := [(4, g_i i7), (0, g_r 1 r0), (3, g_i x3)]) hK d_M_bringAnswer_98 (by rw [hN]; decide) rfl ?_
      refine r_aload_n hK d_M_bringAnswer_100 rfl 1 rfl ?_
      refine r_gR hK fd_M_87 w7_119 d_M_bringAnswer_101 h (fun p8 h => ?_)
      refine r_iconst (v := 2) hK d_M_bringAnswer_104 (by decide) ?_
      refine r_aload_n hK d_M_bringAnswer_105 rfl 1 rfl ?_
      refine r_gI hK fd_M_84 w7_116 d_M_bringAnswer_106 h (fun i9 h => ?_)
      refine r_imul hK d_M_bringAnswer_109 ?_
      refine r_iload_n hK d_M_bringAnswer_110 rfl 2 rfl ?_
      refine r_iadd hK d_M_bringAnswer_111 ?_
      refine r_aload_n hK d_M_bringAnswer_112 rfl 1 rfl ?_
      refine r_gR hK fd_M_72 w7_104 d_M_bringAnswer_113 h (fun p10 h => ?_)
      refine r_iload_n hK d_M_bringAnswer_116 rfl 2 rfl ?_
      refine r_iaload hK ar_20 rfl d_M_bringAnswer_117 h (fun i11 h => ?_)
      refine r_bipush (v := 100) hK d_M_bringAnswer_118 (by decide) ?_
      refine r_if_icmpne (tgt := 132) hK d_M_bringAnswer_120 (by decide) h (fun h => ?_) (fun h => ?_)
      · refine r_aload_n hK d_M_bringAnswer_132 rfl 1 rfl ?_
        refine r_iload hK d_M_bringAnswer_133 0 rfl ?_
        refine r_aload_n hK d_M_bringAnswer_135 rfl 1 rfl ?_
        refine r_gR hK fd_M_72 w7_104 d_M_bringAnswer_136 h (fun p12 h => ?_)
        refine r_iload_n hK d_M_bringAnswer_139 rfl 2 rfl ?_
        refine r_iaload hK ar_20 rfl d_M_bringAnswer_140 h (fun i13 h => ?_)
        refine r_Vl (avL := [g_i i7, g_i i13]) (st := [g_i ((2 * i9) + x3), g_r 21 p8]) hK ob_M rfl w9_139 wp_61 w9_137 w9_140 w1_6 (by decide) pl_M_cellOf (by rw [hD]; decide) (Nat.le_of_ble_eq_true rfl) rfl d_M_bringAnswer_141 (fun o9 h9 => c_M_cellOf _ _ _ _ _ _ o9 h9) h (fun j14 s15 h => ?_)
        refine r_lastore hK ar_21 rfl d_M_bringAnswer_144 h (fun s16 h => ?_)
        refine r_iinc (ls1 := [(3, g_i (x3 + 1)), (4, g_i i7), (0, g_r 1 r0)]) hK d_M_bringAnswer_145 2 rfl rfl (by rw [hN]; decide) rfl ?_
        refine r_goto (tgt := 79) hK d_M_bringAnswer_148 (by decide) ?_
        exact r_sub [2, 0] rfl (ih _ _ _ h)
      · refine r_iload hK d_M_bringAnswer_123 0 rfl ?_
        refine r_bipush (v := 100) hK d_M_bringAnswer_125 (by decide) ?_
        refine r_isub hK d_M_bringAnswer_127 ?_
        refine r_i2l hK d_M_bringAnswer_128 ?_
        refine r_goto (tgt := 144) hK d_M_bringAnswer_129 (by decide) ?_
        refine r_lastore hK ar_21 rfl d_M_bringAnswer_144 h (fun s17 h => ?_)
        refine r_iinc (ls1 := [(3, g_i (x3 + 1)), (4, g_i i7), (0, g_r 1 r0)]) hK d_M_bringAnswer_145 2 rfl rfl (by rw [hN]; decide) rfl ?_
        refine r_goto (tgt := 79) hK d_M_bringAnswer_148 (by decide) ?_
        exact r_sub [2, 0] rfl (ih _ _ _ h)
set_option maxHeartbeats 4000000 in
set_option maxRecDepth 100000 in
theorem t_M_bringAnswer_24 {K : g_C} {o : (Unit × g_St)} (hK : g_OK K b_M_bringAnswer "FixpointEngineModel" "bringAnswer" (Option.none : Option Jvm.ClassFile.FieldType)) (hN : g_nL K = 5) (hD : g_Kd K = 4) : ∀ (n : Nat) (r0 : Option Nat) (x1 : Int32) (x2 : Int32) (x3 : Int32) (s0 : g_St), f_M_bringAnswer_24 n r0 x1 x2 x3 s0 = some o → g_W K s0 [(0, g_r 1 r0), (1, g_i x1), (2, g_i x2), (3, g_i x3)] [] 24 (g_jV o) := by
  intro n
  induction n with
  | zero =>
    intro r0 x1 x2 x3 s0 h
    cases h
  | succ n ih =>
    intro r0 x1 x2 x3 s0 h
    unfold f_M_bringAnswer_24 at h
    refine r_iload_n hK d_M_bringAnswer_24 rfl 3 rfl ?_
    refine r_aload_n hK d_M_bringAnswer_25 rfl 0 rfl ?_
    refine r_gR hK fd_M_38 w7_70 d_M_bringAnswer_26 h (fun p1 h => ?_)
    refine r_iload_n hK d_M_bringAnswer_29 rfl 1 rfl ?_
    refine r_iaload hK ar_20 rfl d_M_bringAnswer_30 h (fun i2 h => ?_)
    refine r_if_icmpge (tgt := 77) hK d_M_bringAnswer_31 (by decide) h (fun h => ?_) (fun h => ?_)
    · refine r_iconst (v := 0) hK d_M_bringAnswer_77 (by decide) ?_
      refine r_istore_n (ls1 := [(3, g_i 0), (0, g_r 1 r0), (1, g_i x1), (2, g_i x2)]) hK d_M_bringAnswer_78 rfl (by rw [hN]; decide) rfl ?_
      exact r_sub [1, 0] rfl (t_M_bringAnswer_79 hK hN hD _ _ _ _ h)
    · refine r_aload_n hK d_M_bringAnswer_34 rfl 0 rfl ?_
      refine r_gR hK fd_M_86 w7_118 d_M_bringAnswer_35 h (fun p3 h => ?_)
      refine r_iconst (v := 4) hK d_M_bringAnswer_38 (by decide) ?_
      refine r_aload_n hK d_M_bringAnswer_39 rfl 0 rfl ?_
      refine r_gI hK fd_M_84 w7_116 d_M_bringAnswer_40 h (fun i4 h => ?_)
      refine r_imul hK d_M_bringAnswer_43 ?_
      refine r_iload_n hK d_M_bringAnswer_44 rfl 3 rfl ?_
      refine r_iadd hK d_M_bringAnswer_45 ?_
      refine r_iload_n hK d_M_bringAnswer_46 rfl 2 rfl ?_
      refine r_iconst (v := (-1)) hK d_M_bringAnswer_47 (by decide) ?_
      refine r_if_icmpne (tgt := 60) hK d_M_bringAnswer_48 (by decide) h (fun h => ?_) (fun h => ?_)
      · refine r_aload_n hK d_M_bringAnswer_60 rfl 0 rfl ?_
        refine r_gR hK fd_M_100 w7_132 d_M_bringAnswer_61 h (fun p5 h => ?_)
        refine r_iconst (v := 4) hK d_M_bringAnswer_64 (by decide) ?_
        refine r_iload_n hK d_M_bringAnswer_65 rfl 2 rfl ?_
        refine r_imul hK d_M_bringAnswer_66 ?_
        refine r_iload_n hK d_M_bringAnswer_67 rfl 3 rfl ?_
        refine r_iadd hK d_M_bringAnswer_68 ?_
        refine r_laload hK ar_21 rfl d_M_bringAnswer_69 h (fun j6 h => ?_)
        refine r_lastore hK ar_21 rfl d_M_bringAnswer_70 h (fun s7 h => ?_)
        refine r_iinc (ls1 := [(3, g_i (x3 + 1)), (0, g_r 1 r0), (1, g_i x1), (2, g_i x2)]) hK d_M_bringAnswer_71 3 rfl rfl (by rw [hN]; decide) rfl ?_
        refine r_goto (tgt := 24) hK d_M_bringAnswer_74 (by decide) ?_
        exact r_sub [1, 2, 3, 0] rfl (ih _ _ _ _ _ h)
      · refine r_aload_n hK d_M_bringAnswer_51 rfl 0 rfl ?_
        refine r_iload_n hK d_M_bringAnswer_52 rfl 1 rfl ?_
        refine r_iload_n hK d_M_bringAnswer_53 rfl 3 rfl ?_
        refine r_Vl (avL := [g_i x1, g_i x3]) (st := [g_i ((4 * i4) + x3), g_r 21 p3]) hK ob_M rfl w9_147 wp_63 w9_145 w9_148 w1_6 (by decide) pl_M_itemOf (by rw [hD]; decide) (Nat.le_of_ble_eq_true rfl) rfl d_M_bringAnswer_54 (fun o9 h9 => c_M_itemOf _ _ _ _ _ _ o9 h9) h (fun j8 s9 h => ?_)
        refine r_goto (tgt := 70) hK d_M_bringAnswer_57 (by decide) ?_
        refine r_lastore hK ar_21 rfl d_M_bringAnswer_70 h (fun s10 h => ?_)
        refine r_iinc (ls1 := [(3, g_i (x3 + 1)), (0, g_r 1 r0), (1, g_i x1), (2, g_i x2)]) hK d_M_bringAnswer_71 3 rfl rfl (by rw [hN]; decide) rfl ?_
        refine r_goto (tgt := 24) hK d_M_bringAnswer_74 (by decide) ?_
        exact r_sub [1, 2, 3, 0] rfl (ih _ _ _ _ _ h)
set_option maxHeartbeats 4000000 in
set_option maxRecDepth 100000 in
theorem t_M_bringAnswer_0 {K : g_C} {o : (Unit × g_St)} (hK : g_OK K b_M_bringAnswer "FixpointEngineModel" "bringAnswer" (Option.none : Option Jvm.ClassFile.FieldType)) (hN : g_nL K = 5) (hD : g_Kd K = 4) : ∀ (r0 : Option Nat) (x1 : Int32) (x2 : Int32) (s0 : g_St), f_M_bringAnswer r0 x1 x2 s0 = some o → g_W K s0 [(0, g_r 1 r0), (1, g_i x1), (2, g_i x2)] [] 0 (g_jV o) := by
  intro r0 x1 x2 s0 h
  unfold f_M_bringAnswer at h
  refine r_aload_n hK d_M_bringAnswer_0 rfl 0 rfl ?_
  refine r_gI hK fd_M_77 w7_109 d_M_bringAnswer_1 h (fun i1 h => ?_)
  refine r_aload_n hK d_M_bringAnswer_4 rfl 0 rfl ?_
  refine r_gI hK fd_M_84 w7_116 d_M_bringAnswer_5 h (fun i2 h => ?_)
  refine r_iadd hK d_M_bringAnswer_8 ?_
  refine r_aload_n hK d_M_bringAnswer_9 rfl 0 rfl ?_
  refine r_gI hK fd_M_85 w7_117 d_M_bringAnswer_10 h (fun i3 h => ?_)
  refine r_if_icmpne (tgt := 22) hK d_M_bringAnswer_13 (by decide) h (fun h => ?_) (fun h => ?_)
  · refine r_iconst (v := 0) hK d_M_bringAnswer_22 (by decide) ?_
    refine r_istore_n (ls1 := [(3, g_i 0), (0, g_r 1 r0), (1, g_i x1), (2, g_i x2)]) hK d_M_bringAnswer_23 rfl (by rw [hN]; decide) rfl ?_
    exact r_sub [1, 2, 3, 0] rfl (t_M_bringAnswer_24 hK hN hD _ _ _ _ _ _ h)
  · refine r_aload_n hK d_M_bringAnswer_16 rfl 0 rfl ?_
    refine r_iconst (v := 4) hK d_M_bringAnswer_17 (by decide) ?_
    refine r_pI hK fd_M_0 rfl w7_32 d_M_bringAnswer_18 h (fun s4 h => ?_)
    exact r_return hK d_M_bringAnswer_21 h
theorem c_M_bringAnswer (l : Launch) (G : g_G) (r0 : Option Nat) (x1 : Int32) (x2 : Int32) (u : g_St) (o : (Unit × g_St)) (h : f_M_bringAnswer r0 x1 x2 u = some o) : g_Con l G y_M_bringAnswer b_M_bringAnswer 5 (Option.none : Option Jvm.ClassFile.FieldType) 4 [g_r 1 r0, g_i x1, g_i x2] u (g_jV o) :=
  g_Con.of rfl rfl (by decide +kernel) (Nat.le_of_ble_eq_true rfl) (fun K hK hN hD hX => t_M_bringAnswer_0 hK hN hD _ _ _ _ h)
def f_M_parent_5 : Nat → Option Nat → Int32 → Int32 → Int32 → Int32 → g_St → Option (Int32 × g_St)
  | 0, _, _, _, _, _, _ => none
  | n + 1, r0, x1, x2, x3, x4, s0 =>
    g_gR s0 2561 r0 fun p1 =>
    g_aI s0 p1 x1 fun i2 =>
    if i2 ≤ x4 then
      some (x3, s0)
    else
      g_gR s0 3777 r0 fun p3 =>
      g_gR s0 2497 r0 fun p4 =>
      g_aI s0 p4 x1 fun i5 =>
      g_aI s0 p3 (i5 + x4) fun i6 =>
      if i6 = (10 + x2) then
        g_gR s0 6273 r0 fun p7 =>
        g_aI s0 p7 x4 fun i8 =>
        f_M_parent_5 n r0 x1 x2 (i8 - 100) (x4 + 1) s0
      else
        f_M_parent_5 n r0 x1 x2 x3 (x4 + 1) s0
def f_M_parent (r0 : Option Nat) (x1 : Int32) (x2 : Int32) (s0 : g_St) : Option (Int32 × g_St) :=
  f_M_parent_5 200000 r0 x1 x2 (-1) 0 s0
set_option maxHeartbeats 4000000 in
set_option maxRecDepth 100000 in
theorem t_M_parent_5 {K : g_C} {o : (Int32 × g_St)} (hK : g_OK K b_M_parent "FixpointEngineModel" "parent" (Option.some Jvm.ClassFile.FieldType.int)) (hN : g_nL K = 5) (hD : g_Kd K = 1) : ∀ (n : Nat) (r0 : Option Nat) (x1 : Int32) (x2 : Int32) (x3 : Int32) (x4 : Int32) (s0 : g_St), f_M_parent_5 n r0 x1 x2 x3 x4 s0 = some o → g_W K s0 [(0, g_r 1 r0), (1, g_i x1), (2, g_i x2), (3, g_i x3), (4, g_i x4)] [] 5 (g_jI o) := by
  intro n
  induction n with
  | zero =>
    intro r0 x1 x2 x3 x4 s0 h
    cases h
  | succ n ih =>
    intro r0 x1 x2 x3 x4 s0 h
    unfold f_M_parent_5 at h
    refine r_iload hK d_M_parent_5 4 rfl ?_
    refine r_aload_n hK d_M_parent_7 rfl 0 rfl ?_
    refine r_gR hK fd_M_40 w7_72 d_M_parent_8 h (fun p1 h => ?_)
    refine r_iload_n hK d_M_parent_11 rfl 1 rfl ?_
    refine r_iaload hK ar_20 rfl d_M_parent_12 h (fun i2 h => ?_)
    refine r_if_icmpge (tgt := 54) hK d_M_parent_13 (by decide) h (fun h => ?_) (fun h => ?_)
    · refine r_iload_n hK d_M_parent_54 rfl 3 rfl ?_
      exact r_ireturn hK d_M_parent_55 h
    · refine r_aload_n hK d_M_parent_16 rfl 0 rfl ?_
      refine r_gR hK fd_M_59 w7_91 d_M_parent_17 h (fun p3 h => ?_)
      refine r_aload_n hK d_M_parent_20 rfl 0 rfl ?_
      refine r_gR hK fd_M_39 w7_71 d_M_parent_21 h (fun p4 h => ?_)
      refine r_iload_n hK d_M_parent_24 rfl 1 rfl ?_
      refine r_iaload hK ar_20 rfl d_M_parent_25 h (fun i5 h => ?_)
      refine r_iload hK d_M_parent_26 4 rfl ?_
      refine r_iadd hK d_M_parent_28 ?_
      refine r_iaload hK ar_20 rfl d_M_parent_29 h (fun i6 h => ?_)
      refine r_bipush (v := 10) hK d_M_parent_30 (by decide) ?_
      refine r_iload_n hK d_M_parent_32 rfl 2 rfl ?_
      refine r_iadd hK d_M_parent_33 ?_
      refine r_if_icmpne (tgt := 48) hK d_M_parent_34 (by decide) h (fun h => ?_) (fun h => ?_)
      · refine r_iinc (ls1 := [(4, g_i (x4 + 1)), (0, g_r 1 r0), (1, g_i x1), (2, g_i x2), (3, g_i x3)]) hK d_M_parent_48 4 rfl rfl (by rw [hN]; decide) rfl ?_
        refine r_goto (tgt := 5) hK d_M_parent_51 (by decide) ?_
        exact r_sub [1, 2, 3, 4, 0] rfl (ih _ _ _ _ _ _ h)
      · refine r_aload_n hK d_M_parent_37 rfl 0 rfl ?_
        refine r_gR hK fd_M_98 w7_130 d_M_parent_38 h (fun p7 h => ?_)
        refine r_iload hK d_M_parent_41 4 rfl ?_
        refine r_iaload hK ar_20 rfl d_M_parent_43 h (fun i8 h => ?_)
        refine r_bipush (v := 100) hK d_M_parent_44 (by decide) ?_
        refine r_isub hK d_M_parent_46 ?_
        refine r_istore_n (ls1 := [(3, g_i (i8 - 100)), (0, g_r 1 r0), (1, g_i x1), (2, g_i x2), (4, g_i x4)]) hK d_M_parent_47 rfl (by rw [hN]; decide) rfl ?_
        refine r_iinc (ls1 := [(4, g_i (x4 + 1)), (3, g_i (i8 - 100)), (0, g_r 1 r0), (1, g_i x1), (2, g_i x2)]) hK d_M_parent_48 4 rfl rfl (by rw [hN]; decide) rfl ?_
        refine r_goto (tgt := 5) hK d_M_parent_51 (by decide) ?_
        exact r_sub [2, 3, 4, 1, 0] rfl (ih _ _ _ _ _ _ h)
set_option maxHeartbeats 4000000 in
set_option maxRecDepth 100000 in
theorem t_M_parent_0 {K : g_C} {o : (Int32 × g_St)} (hK : g_OK K b_M_parent "FixpointEngineModel" "parent" (Option.some Jvm.ClassFile.FieldType.int)) (hN : g_nL K = 5) (hD : g_Kd K = 1) : ∀ (r0 : Option Nat) (x1 : Int32) (x2 : Int32) (s0 : g_St), f_M_parent r0 x1 x2 s0 = some o → g_W K s0 [(0, g_r 1 r0), (1, g_i x1), (2, g_i x2)] [] 0 (g_jI o) := by
  intro r0 x1 x2 s0 h
  unfold f_M_parent at h
  refine r_iconst (v := (-1)) hK d_M_parent_0 (by decide) ?_
  refine r_istore_n (ls1 := [(3, g_i (-1)), (0, g_r 1 r0), (1, g_i x1), (2, g_i x2)]) hK d_M_parent_1 rfl (by rw [hN]; decide) rfl ?_
  refine r_iconst (v := 0) hK d_M_parent_2 (by decide) ?_
  refine r_istore (ls1 := [(4, g_i 0), (3, g_i (-1)), (0, g_r 1 r0), (1, g_i x1), (2, g_i x2)]) hK d_M_parent_3 (by rw [hN]; decide) rfl ?_
  exact r_sub [2, 3, 4, 1, 0] rfl (t_M_parent_5 hK hN hD _ _ _ _ _ _ _ h)
theorem c_M_parent (l : Launch) (G : g_G) (r0 : Option Nat) (x1 : Int32) (x2 : Int32) (u : g_St) (o : (Int32 × g_St)) (h : f_M_parent r0 x1 x2 u = some o) : g_Con l G y_M_parent b_M_parent 5 (Option.some Jvm.ClassFile.FieldType.int) 1 [g_r 1 r0, g_i x1, g_i x2] u (g_jI o) :=
  g_Con.of rfl rfl (by decide +kernel) (Nat.le_of_ble_eq_true rfl) (fun K hK hN hD hX => t_M_parent_0 hK hN hD _ _ _ _ h)
def f_M_lengthen_196 : Nat → Option Nat → Int32 → Int32 → Int32 → Int64 → Int64 → Int32 → g_St → Option (Unit × g_St)
  | 0, _, _, _, _, _, _, _, _ => none
  | n + 1, r0, x2, x3, x4, y5, y7, x9, s0 =>
    if x4 ≤ x9 then
      g_gR s0 5313 r0 fun p1 =>
      g_gI s0 4929 r0 fun i2 =>
      g_sL s0 p1 ((32 * i2) + x4) y5 fun s3 =>
      g_gR s3 5249 r0 fun p4 =>
      g_gI s3 4929 r0 fun i5 =>
      g_sI s3 p4 i5 (x4 + 1) fun s6 =>
      g_gR s6 5057 r0 fun p7 =>
      g_gI s6 4929 r0 fun i8 =>
      g_gR s6 1281 r0 fun p9 =>
      g_aI s6 p9 x2 fun i10 =>
      g_sL s6 p7 ((4 * i8) + i10) y7 fun s11 =>
      some ((), s11)
    else
      g_gR s0 5313 r0 fun p12 =>
      g_gI s0 4929 r0 fun i13 =>
      g_gR s0 5313 r0 fun p14 =>
      g_aL s0 p14 ((32 * x3) + x9) fun j15 =>
      g_sL s0 p12 ((32 * i13) + x9) j15 fun s16 =>
      if y5 = 1099511627776 then
        f_M_lengthen_196 n r0 x2 x3 x4 y5 y7 (x9 + 1) s16
      else
        g_gR s16 5313 r0 fun p17 =>
        g_aL s16 p17 ((32 * x3) + x9) fun j18 =>
        if j18 = y5 then
          f_M_lengthen_196 n r0 x2 x3 x4 y5 1 (x9 + 1) s16
        else
          f_M_lengthen_196 n r0 x2 x3 x4 y5 y7 (x9 + 1) s16
def f_M_lengthen_168 (r0 : Option Nat) (x2 : Int32) (x3 : Int32) (x0s : Int32) (s0 : g_St) : Option (Unit × g_St) :=
  g_gR s0 5057 r0 fun p1 =>
  g_gI s0 4929 r0 fun i2 =>
  g_gR s0 1793 r0 fun p3 =>
  g_aI s0 p3 x2 fun i4 =>
  g_aL s0 p1 ((4 * i2) + i4) fun j5 =>
  f_M_lengthen_196 200000 r0 x2 x3 x0s j5 0 0 s0
def f_M_lengthen_142 (r0 : Option Nat) (x2 : Int32) (x3 : Int32) (s0 : g_St) : Option (Unit × g_St) :=
  g_gR s0 1601 r0 fun p1 =>
  g_aI s0 p1 x2 fun i2 =>
  if i2 = (-1) then
    some ((), s0)
  else
    if x3 = (-1) then
      f_M_lengthen_168 r0 x2 x3 0 s0
    else
      g_gR s0 5249 r0 fun p3 =>
      g_aI s0 p3 x3 fun i4 =>
      f_M_lengthen_168 r0 x2 x3 i4 s0
def f_M_lengthen_56 : Nat → Option Nat → Int32 → Int32 → Int32 → Int32 → g_St → Option (Unit × g_St)
  | 0, _, _, _, _, _, _ => none
  | n + 1, r0, x2, x3, x4, x5, s0 =>
    if x4 ≤ x5 then
      g_gR s0 5185 r0 fun p1 =>
      g_gI s0 4929 r0 fun i2 =>
      g_gR s0 5057 r0 fun p3 =>
      g_gI s0 4929 r0 fun i4 =>
      g_gR s0 1729 r0 fun p5 =>
      g_aI s0 p5 x2 fun i6 =>
      g_aL s0 p3 ((4 * i4) + i6) fun j7 =>
      g_sL s0 p1 ((32 * i2) + x4) j7 fun s8 =>
      g_gR s8 5121 r0 fun p9 =>
      g_gI s8 4929 r0 fun i10 =>
      g_sI s8 p9 i10 (x4 + 1) fun s11 =>
      f_M_lengthen_142 r0 x2 x3 s11
    else
      g_gR s0 5185 r0 fun p12 =>
      g_gI s0 4929 r0 fun i13 =>
      g_gR s0 5185 r0 fun p14 =>
      g_aL s0 p14 ((32 * x3) + x5) fun j15 =>
      g_sL s0 p12 ((32 * i13) + x5) j15 fun s16 =>
      f_M_lengthen_56 n r0 x2 x3 x4 (x5 + 1) s16
def f_M_lengthen_20 (r0 : Option Nat) (x1 : Int32) (x2 : Int32) (s0 : g_St) : Option (Unit × g_St) :=
  g_c (g_nn r0 (f_M_parent r0 x1 x2 s0)) fun i1 s2 =>
  g_gR s2 1409 r0 fun p3 =>
  g_aI s2 p3 x2 fun i4 =>
  if i4 ≤ 0 then
    f_M_lengthen_142 r0 x2 i1 s2
  else
    if i1 = (-1) then
      f_M_lengthen_56 200000 r0 x2 i1 0 0 s2
    else
      g_gR s2 5121 r0 fun p5 =>
      g_aI s2 p5 i1 fun i6 =>
      f_M_lengthen_56 200000 r0 x2 i1 i6 0 s2
def f_M_lengthen (r0 : Option Nat) (x1 : Int32) (x2 : Int32) (s0 : g_St) : Option (Unit × g_St) :=
  g_gR s0 1409 r0 fun p1 =>
  g_aI s0 p1 x2 fun i2 =>
  if i2 = 0 then
    g_gR s0 1601 r0 fun p3 =>
    g_aI s0 p3 x2 fun i4 =>
    if i4 = (-1) then
      some ((), s0)
    else
      f_M_lengthen_20 r0 x1 x2 s0
  else
    f_M_lengthen_20 r0 x1 x2 s0
set_option maxHeartbeats 4000000 in
set_option maxRecDepth 100000 in
theorem t_M_lengthen_196 {K : g_C} {o : (Unit × g_St)} (hK : g_OK K b_M_lengthen "FixpointEngineModel" "lengthen" (Option.none : Option Jvm.ClassFile.FieldType)) (hN : g_nL K = 10) (hD : g_Kd K = 2) : ∀ (n : Nat) (r0 : Option Nat) (x2 : Int32) (x3 : Int32) (x4 : Int32) (y5 : Int64) (y7 : Int64) (x9 : Int32) (s0 : g_St), f_M_lengthen_196 n r0 x2 x3 x4 y5 y7 x9 s0 = some o → g_W K s0 [(0, g_r 1 r0), (2, g_i x2), (3, g_i x3), (4, g_i x4), (5, g_l y5), (7, g_l y7), (9, g_i x9)] [] 196 (g_jV o) := by
  intro n
  induction n with
  | zero =>
    intro r0 x2 x3 x4 y5 y7 x9 s0 h
    cases h
  | succ n ih =>
    intro r0 x2 x3 x4 y5 y7 x9 s0 h
    unfold f_M_lengthen_196 at h
    refine r_iload hK d_M_lengthen_196 6 rfl ?_
    refine r_iload hK d_M_lengthen_198 3 rfl ?_
    refine r_if_icmpge (tgt := 266) hK d_M_lengthen_200 (by decide) h (fun h => ?_) (fun h => ?_)
    · refine r_aload_n hK d_M_lengthen_266 rfl 0 rfl ?_
      refine r_gR hK fd_M_83 w7_115 d_M_lengthen_267 h (fun p1 h => ?_)
      refine r_bipush (v := 32) hK d_M_lengthen_270 (by decide) ?_
      refine r_aload_n hK d_M_lengthen_272 rfl 0 rfl ?_
      refine r_gI hK fd_M_77 w7_109 d_M_lengthen_273 h (fun i2 h => ?_)
      refine r_imul hK d_M_lengthen_276 ?_
      refine r_iload hK d_M_lengthen_277 3 rfl ?_
      refine r_iadd hK d_M_lengthen_279 ?_
      refine r_lload hK d_M_lengthen_280 4 rfl ?_
      refine r_lastore hK ar_21 rfl d_M_lengthen_282 h (fun s3 h => ?_)
      refine r_aload_n hK d_M_lengthen_283 rfl 0 rfl ?_
      refine r_gR hK fd_M_82 w7_114 d_M_lengthen_284 h (fun p4 h => ?_)
      refine r_aload_n hK d_M_lengthen_287 rfl 0 rfl ?_
      refine r_gI hK fd_M_77 w7_109 d_M_lengthen_288 h (fun i5 h => ?_)
      refine r_iload hK d_M_lengthen_291 3 rfl ?_
      refine r_iconst (v := 1) hK d_M_lengthen_293 (by decide) ?_
      refine r_iadd hK d_M_lengthen_294 ?_
      refine r_iastore hK ar_20 rfl d_M_lengthen_295 h (fun s6 h => ?_)
      refine r_aload_n hK d_M_lengthen_296 rfl 0 rfl ?_
      refine r_gR hK fd_M_79 w7_111 d_M_lengthen_297 h (fun p7 h => ?_)
      refine r_iconst (v := 4) hK d_M_lengthen_300 (by decide) ?_
      refine r_aload_n hK d_M_lengthen_301 rfl 0 rfl ?_
      refine r_gI hK fd_M_77 w7_109 d_M_lengthen_302 h (fun i8 h => ?_)
      refine r_imul hK d_M_lengthen_305 ?_
      refine r_aload_n hK d_M_lengthen_306 rfl 0 rfl ?_
      refine r_gR hK fd_M_20 w7_52 d_M_lengthen_307 h (fun p9 h => ?_)
      refine r_iload_n hK d_M_lengthen_310 rfl 1 rfl ?_
      refine r_iaload hK ar_20 rfl d_M_lengthen_311 h (fun i10 h => ?_)
      refine r_iadd hK d_M_lengthen_312 ?_
      refine r_lload hK d_M_lengthen_313 5 rfl ?_
      refine r_lastore hK ar_21 rfl d_M_lengthen_315 h (fun s11 h => ?_)
      exact r_return hK d_M_lengthen_316 h
    · refine r_aload_n hK d_M_lengthen_203 rfl 0 rfl ?_
      refine r_gR hK fd_M_83 w7_115 d_M_lengthen_204 h (fun p12 h => ?_)
      refine r_bipush (v := 32) hK d_M_lengthen_207 (by decide) ?_
      refine r_aload_n hK d_M_lengthen_209 rfl 0 rfl ?_
      refine r_gI hK fd_M_77 w7_109 d_M_lengthen_210 h (fun i13 h => ?_)
      refine r_imul hK d_M_lengthen_213 ?_
      refine r_iload hK d_M_lengthen_214 6 rfl ?_
      refine r_iadd hK d_M_lengthen_216 ?_
      refine r_aload_n hK d_M_lengthen_217 rfl 0 rfl ?_
      refine r_gR hK fd_M_83 w7_115 d_M_lengthen_218 h (fun p14 h => ?_)
      refine r_bipush (v := 32) hK d_M_lengthen_221 (by decide) ?_
      refine r_iload_n hK d_M_lengthen_223 rfl 2 rfl ?_
      refine r_imul hK d_M_lengthen_224 ?_
      refine r_iload hK d_M_lengthen_225 6 rfl ?_
      refine r_iadd hK d_M_lengthen_227 ?_
      refine r_laload hK ar_21 rfl d_M_lengthen_228 h (fun j15 h => ?_)
      refine r_lastore hK ar_21 rfl d_M_lengthen_229 h (fun s16 h => ?_)
      refine r_lload hK d_M_lengthen_230 4 rfl ?_
      refine r_ldc2 hK w8_112 d_M_lengthen_232 ?_
      refine r_lifeq (tgt := 260) hK d_M_lengthen_235 d_M_lengthen_236 (by decide) h (fun h => ?_) (fun h => ?_)
      · refine r_iinc (ls1 := [(9, g_i (x9 + 1)), (0, g_r 1 r0), (2, g_i x2), (3, g_i x3), (4, g_i x4), (5, g_l y5), (7, g_l y7)]) hK d_M_lengthen_260 6 rfl rfl (by rw [hN]; decide) rfl ?_
        refine r_goto (tgt := 196) hK d_M_lengthen_263 (by decide) ?_
        exact r_sub [1, 2, 3, 4, 5, 6, 0] rfl (ih _ _ _ _ _ _ _ _ h)
      · refine r_aload_n hK d_M_lengthen_239 rfl 0 rfl ?_
        refine r_gR hK fd_M_83 w7_115 d_M_lengthen_240 h (fun p17 h => ?_)
        refine r_bipush (v := 32) hK d_M_lengthen_243 (by decide) ?_
        refine r_iload_n hK d_M_lengthen_245 rfl 2 rfl ?_
        refine r_imul hK d_M_lengthen_246 ?_
        refine r_iload hK d_M_lengthen_247 6 rfl ?_
        refine r_iadd hK d_M_lengthen_249 ?_
        refine r_laload hK ar_21 rfl d_M_lengthen_250 h (fun j18 h => ?_)
        refine r_lload hK d_M_lengthen_251 4 rfl ?_
        refine r_lifne (tgt := 260) hK d_M_lengthen_253 d_M_lengthen_254 (by decide) h (fun h => ?_) (fun h => ?_)
        · refine r_iinc (ls1 := [(9, g_i (x9 + 1)), (0, g_r 1 r0), (2, g_i x2), (3, g_i x3), (4, g_i x4), (5, g_l y5), (7, g_l y7)]) hK d_M_lengthen_260 6 rfl rfl (by rw [hN]; decide) rfl ?_
          refine r_goto (tgt := 196) hK d_M_lengthen_263 (by decide) ?_
          exact r_sub [1, 2, 3, 4, 5, 6, 0] rfl (ih _ _ _ _ _ _ _ _ h)
        · refine r_lconst (v := 1) hK d_M_lengthen_257 (by decide) ?_
          refine r_lstore (ls1 := [(7, g_l 1), (0, g_r 1 r0), (2, g_i x2), (3, g_i x3), (4, g_i x4), (5, g_l y5), (9, g_i x9)]) hK d_M_lengthen_258 (by rw [hN]; decide) rfl ?_
          refine r_iinc (ls1 := [(9, g_i (x9 + 1)), (7, g_l 1), (0, g_r 1 r0), (2, g_i x2), (3, g_i x3), (4, g_i x4), (5, g_l y5)]) hK d_M_lengthen_260 6 rfl rfl (by rw [hN]; decide) rfl ?_
          refine r_goto (tgt := 196) hK d_M_lengthen_263 (by decide) ?_
          exact r_sub [2, 3, 4, 5, 6, 1, 0] rfl (ih _ _ _ _ _ _ _ _ h)
set_option maxHeartbeats 4000000 in
set_option maxRecDepth 100000 in
theorem t_M_lengthen_168 {K : g_C} {o : (Unit × g_St)} (hK : g_OK K b_M_lengthen "FixpointEngineModel" "lengthen" (Option.none : Option Jvm.ClassFile.FieldType)) (hN : g_nL K = 10) (hD : g_Kd K = 2) : ∀ (r0 : Option Nat) (x2 : Int32) (x3 : Int32) (x0s : Int32) (s0 : g_St), f_M_lengthen_168 r0 x2 x3 x0s s0 = some o → g_W K s0 [(0, g_r 1 r0), (2, g_i x2), (3, g_i x3)] [g_i x0s] 168 (g_jV o) := by
  intro r0 x2 x3 x0s s0 h
  unfold f_M_lengthen_168 at h
  refine r_istore (ls1 := [(4, g_i x0s), (0, g_r 1 r0), (2, g_i x2), (3, g_i x3)]) hK d_M_lengthen_168 (by rw [hN]; decide) rfl ?_
  refine r_aload_n hK d_M_lengthen_170 rfl 1 rfl ?_
  refine r_gR hK fd_M_79 w7_111 d_M_lengthen_171 h (fun p1 h => ?_)
  refine r_iconst (v := 4) hK d_M_lengthen_174 (by decide) ?_
  refine r_aload_n hK d_M_lengthen_175 rfl 1 rfl ?_
  refine r_gI hK fd_M_77 w7_109 d_M_lengthen_176 h (fun i2 h => ?_)
  refine r_imul hK d_M_lengthen_179 ?_
  refine r_aload_n hK d_M_lengthen_180 rfl 1 rfl ?_
  refine r_gR hK fd_M_28 w7_60 d_M_lengthen_181 h (fun p3 h => ?_)
  refine r_iload_n hK d_M_lengthen_184 rfl 2 rfl ?_
  refine r_iaload hK ar_20 rfl d_M_lengthen_185 h (fun i4 h => ?_)
  refine r_iadd hK d_M_lengthen_186 ?_
  refine r_laload hK ar_21 rfl d_M_lengthen_187 h (fun j5 h => ?_)
  refine r_lstore (ls1 := [(5, g_l j5), (4, g_i x0s), (0, g_r 1 r0), (2, g_i x2), (3, g_i x3)]) hK d_M_lengthen_188 (by rw [hN]; decide) rfl ?_
  refine r_lconst (v := 0) hK d_M_lengthen_190 (by decide) ?_
  refine r_lstore (ls1 := [(7, g_l 0), (5, g_l j5), (4, g_i x0s), (0, g_r 1 r0), (2, g_i x2), (3, g_i x3)]) hK d_M_lengthen_191 (by rw [hN]; decide) rfl ?_
  refine r_iconst (v := 0) hK d_M_lengthen_193 (by decide) ?_
  refine r_istore (ls1 := [(9, g_i 0), (7, g_l 0), (5, g_l j5), (4, g_i x0s), (0, g_r 1 r0), (2, g_i x2), (3, g_i x3)]) hK d_M_lengthen_194 (by rw [hN]; decide) rfl ?_
  exact r_sub [4, 5, 6, 3, 2, 1, 0] rfl (t_M_lengthen_196 hK hN hD _ _ _ _ _ _ _ _ _ h)
set_option maxHeartbeats 4000000 in
set_option maxRecDepth 100000 in
theorem t_M_lengthen_142 {K : g_C} {o : (Unit × g_St)} (hK : g_OK K b_M_lengthen "FixpointEngineModel" "lengthen" (Option.none : Option Jvm.ClassFile.FieldType)) (hN : g_nL K = 10) (hD : g_Kd K = 2) : ∀ (r0 : Option Nat) (x2 : Int32) (x3 : Int32) (s0 : g_St), f_M_lengthen_142 r0 x2 x3 s0 = some o → g_W K s0 [(0, g_r 1 r0), (2, g_i x2), (3, g_i x3)] [] 142 (g_jV o) := by
  intro r0 x2 x3 s0 h
  unfold f_M_lengthen_142 at h
  refine r_aload_n hK d_M_lengthen_142 rfl 0 rfl ?_
  refine r_gR hK fd_M_25 w7_57 d_M_lengthen_143 h (fun p1 h => ?_)
  refine r_iload_n hK d_M_lengthen_146 rfl 1 rfl ?_
  refine r_iaload hK ar_20 rfl d_M_lengthen_147 h (fun i2 h => ?_)
  refine r_iconst (v := (-1)) hK d_M_lengthen_148 (by decide) ?_
  refine r_if_icmpne (tgt := 153) hK d_M_lengthen_149 (by decide) h (fun h => ?_) (fun h => ?_)
  · refine r_iload_n hK d_M_lengthen_153 rfl 2 rfl ?_
    refine r_iconst (v := (-1)) hK d_M_lengthen_154 (by decide) ?_
    refine r_if_icmpne (tgt := 162) hK d_M_lengthen_155 (by decide) h (fun h => ?_) (fun h => ?_)
    · refine r_aload_n hK d_M_lengthen_162 rfl 0 rfl ?_
      refine r_gR hK fd_M_82 w7_114 d_M_lengthen_163 h (fun p3 h => ?_)
      refine r_iload_n hK d_M_lengthen_166 rfl 2 rfl ?_
      refine r_iaload hK ar_20 rfl d_M_lengthen_167 h (fun i4 h => ?_)
      exact r_sub [0, 1, 2] rfl (t_M_lengthen_168 hK hN hD _ _ _ _ _ h)
    · refine r_iconst (v := 0) hK d_M_lengthen_158 (by decide) ?_
      refine r_goto (tgt := 168) hK d_M_lengthen_159 (by decide) ?_
      exact r_sub [0, 1, 2] rfl (t_M_lengthen_168 hK hN hD _ _ _ _ _ h)
  · exact r_return hK d_M_lengthen_152 h
set_option maxHeartbeats 4000000 in
set_option maxRecDepth 100000 in
theorem t_M_lengthen_56 {K : g_C} {o : (Unit × g_St)} (hK : g_OK K b_M_lengthen "FixpointEngineModel" "lengthen" (Option.none : Option Jvm.ClassFile.FieldType)) (hN : g_nL K = 10) (hD : g_Kd K = 2) : ∀ (n : Nat) (r0 : Option Nat) (x2 : Int32) (x3 : Int32) (x4 : Int32) (x5 : Int32) (s0 : g_St), f_M_lengthen_56 n r0 x2 x3 x4 x5 s0 = some o → g_W K s0 [(0, g_r 1 r0), (2, g_i x2), (3, g_i x3), (4, g_i x4), (5, g_i x5)] [] 56 (g_jV o) := by
  intro n
  induction n with
  | zero =>
    intro r0 x2 x3 x4 x5 s0 h
    cases h
  | succ n ih =>
    intro r0 x2 x3 x4 x5 s0 h
    unfold f_M_lengthen_56 at h
    refine r_iload hK d_M_lengthen_56 4 rfl ?_
    refine r_iload hK d_M_lengthen_58 3 rfl ?_
    refine r_if_icmpge (tgt := 96) hK d_M_lengthen_60 (by decide) h (fun h => ?_) (fun h => ?_)
    · refine r_aload_n hK d_M_lengthen_96 rfl 0 rfl ?_
      refine r_gR hK fd_M_81 w7_113 d_M_lengthen_97 h (fun p1 h => ?_)
      refine r_bipush (v := 32) hK d_M_lengthen_100 (by decide) ?_
      refine r_aload_n hK d_M_lengthen_102 rfl 0 rfl ?_
      refine r_gI hK fd_M_77 w7_109 d_M_lengthen_103 h (fun i2 h => ?_)
      refine r_imul hK d_M_lengthen_106 ?_
      refine r_iload hK d_M_lengthen_107 3 rfl ?_
      refine r_iadd hK d_M_lengthen_109 ?_
      refine r_aload_n hK d_M_lengthen_110 rfl 0 rfl ?_
      refine r_gR hK fd_M_79 w7_111 d_M_lengthen_111 h (fun p3 h => ?_)
      refine r_iconst (v := 4) hK d_M_lengthen_114 (by decide) ?_
      refine r_aload_n hK d_M_lengthen_115 rfl 0 rfl ?_
      refine r_gI hK fd_M_77 w7_109 d_M_lengthen_116 h (fun i4 h => ?_)
      refine r_imul hK d_M_lengthen_119 ?_
      refine r_aload_n hK d_M_lengthen_120 rfl 0 rfl ?_
      refine r_gR hK fd_M_27 w7_59 d_M_lengthen_121 h (fun p5 h => ?_)
      refine r_iload_n hK d_M_lengthen_124 rfl 1 rfl ?_
      refine r_iaload hK ar_20 rfl d_M_lengthen_125 h (fun i6 h => ?_)
      refine r_iadd hK d_M_lengthen_126 ?_
      refine r_laload hK ar_21 rfl d_M_lengthen_127 h (fun j7 h => ?_)
      refine r_lastore hK ar_21 rfl d_M_lengthen_128 h (fun s8 h => ?_)
      refine r_aload_n hK d_M_lengthen_129 rfl 0 rfl ?_
      refine r_gR hK fd_M_80 w7_112 d_M_lengthen_130 h (fun p9 h => ?_)
      refine r_aload_n hK d_M_lengthen_133 rfl 0 rfl ?_
      refine r_gI hK fd_M_77 w7_109 d_M_lengthen_134 h (fun i10 h => ?_)
      refine r_iload hK d_M_lengthen_137 3 rfl ?_
      refine r_iconst (v := 1) hK d_M_lengthen_139 (by decide) ?_
      refine r_iadd hK d_M_lengthen_140 ?_
      refine r_iastore hK ar_20 rfl d_M_lengthen_141 h (fun s11 h => ?_)
      exact r_sub [0, 1, 2] rfl (t_M_lengthen_142 hK hN hD _ _ _ _ h)
    · refine r_aload_n hK d_M_lengthen_63 rfl 0 rfl ?_
      refine r_gR hK fd_M_81 w7_113 d_M_lengthen_64 h (fun p12 h => ?_)
      refine r_bipush (v := 32) hK d_M_lengthen_67 (by decide) ?_
      refine r_aload_n hK d_M_lengthen_69 rfl 0 rfl ?_
      refine r_gI hK fd_M_77 w7_109 d_M_lengthen_70 h (fun i13 h => ?_)
      refine r_imul hK d_M_lengthen_73 ?_
      refine r_iload hK d_M_lengthen_74 4 rfl ?_
      refine r_iadd hK d_M_lengthen_76 ?_
      refine r_aload_n hK d_M_lengthen_77 rfl 0 rfl ?_
      refine r_gR hK fd_M_81 w7_113 d_M_lengthen_78 h (fun p14 h => ?_)
      refine r_bipush (v := 32) hK d_M_lengthen_81 (by decide) ?_
      refine r_iload_n hK d_M_lengthen_83 rfl 2 rfl ?_
      refine r_imul hK d_M_lengthen_84 ?_
      refine r_iload hK d_M_lengthen_85 4 rfl ?_
      refine r_iadd hK d_M_lengthen_87 ?_
      refine r_laload hK ar_21 rfl d_M_lengthen_88 h (fun j15 h => ?_)
      refine r_lastore hK ar_21 rfl d_M_lengthen_89 h (fun s16 h => ?_)
      refine r_iinc (ls1 := [(5, g_i (x5 + 1)), (0, g_r 1 r0), (2, g_i x2), (3, g_i x3), (4, g_i x4)]) hK d_M_lengthen_90 4 rfl rfl (by rw [hN]; decide) rfl ?_
      refine r_goto (tgt := 56) hK d_M_lengthen_93 (by decide) ?_
      exact r_sub [1, 2, 3, 4, 0] rfl (ih _ _ _ _ _ _ h)
set_option maxHeartbeats 4000000 in
set_option maxRecDepth 100000 in
theorem t_M_lengthen_20 {K : g_C} {o : (Unit × g_St)} (hK : g_OK K b_M_lengthen "FixpointEngineModel" "lengthen" (Option.none : Option Jvm.ClassFile.FieldType)) (hN : g_nL K = 10) (hD : g_Kd K = 2) : ∀ (r0 : Option Nat) (x1 : Int32) (x2 : Int32) (s0 : g_St), f_M_lengthen_20 r0 x1 x2 s0 = some o → g_W K s0 [(0, g_r 1 r0), (1, g_i x1), (2, g_i x2)] [] 20 (g_jV o) := by
  intro r0 x1 x2 s0 h
  unfold f_M_lengthen_20 at h
  refine r_aload_n hK d_M_lengthen_20 rfl 0 rfl ?_
  refine r_iload_n hK d_M_lengthen_21 rfl 1 rfl ?_
  refine r_iload_n hK d_M_lengthen_22 rfl 2 rfl ?_
  refine r_Vi (avL := [g_i x1, g_i x2]) (st := []) hK ob_M rfl w9_195 wp_73 w9_193 w9_196 w1_6 (by decide) pl_M_parent (by rw [hD]; decide) (Nat.le_of_ble_eq_true rfl) rfl d_M_lengthen_23 (fun o9 h9 => c_M_parent _ _ _ _ _ _ o9 h9) h (fun i1 s2 h => ?_)
  refine r_istore_n (ls1 := [(3, g_i i1), (0, g_r 1 r0), (1, g_i x1), (2, g_i x2)]) hK d_M_lengthen_26 rfl (by rw [hN]; decide) rfl ?_
  refine r_aload_n hK d_M_lengthen_27 rfl 1 rfl ?_
  refine r_gR hK fd_M_22 w7_54 d_M_lengthen_28 h (fun p3 h => ?_)
  refine r_iload_n hK d_M_lengthen_31 rfl 3 rfl ?_
  refine r_iaload hK ar_20 rfl d_M_lengthen_32 h (fun i4 h => ?_)
  refine r_ifle (tgt := 142) hK d_M_lengthen_33 (by decide) h (fun h => ?_) (fun h => ?_)
  · exact r_sub [1, 3, 0] rfl (t_M_lengthen_142 hK hN hD _ _ _ _ h)
  · refine r_iload_n hK d_M_lengthen_36 rfl 0 rfl ?_
    refine r_iconst (v := (-1)) hK d_M_lengthen_37 (by decide) ?_
    refine r_if_icmpne (tgt := 45) hK d_M_lengthen_38 (by decide) h (fun h => ?_) (fun h => ?_)
    · refine r_aload_n hK d_M_lengthen_45 rfl 1 rfl ?_
      refine r_gR hK fd_M_80 w7_112 d_M_lengthen_46 h (fun p5 h => ?_)
      refine r_iload_n hK d_M_lengthen_49 rfl 0 rfl ?_
      refine r_iaload hK ar_20 rfl d_M_lengthen_50 h (fun i6 h => ?_)
      refine r_istore (ls1 := [(4, g_i i6), (3, g_i i1), (0, g_r 1 r0), (1, g_i x1), (2, g_i x2)]) hK d_M_lengthen_51 (by rw [hN]; decide) rfl ?_
      refine r_iconst (v := 0) hK d_M_lengthen_53 (by decide) ?_
      refine r_istore (ls1 := [(5, g_i 0), (4, g_i i6), (3, g_i i1), (0, g_r 1 r0), (1, g_i x1), (2, g_i x2)]) hK d_M_lengthen_54 (by rw [hN]; decide) rfl ?_
      exact r_sub [3, 5, 2, 1, 0] rfl (t_M_lengthen_56 hK hN hD _ _ _ _ _ _ _ h)
    · refine r_iconst (v := 0) hK d_M_lengthen_41 (by decide) ?_
      refine r_goto (tgt := 51) hK d_M_lengthen_42 (by decide) ?_
      refine r_istore (ls1 := [(4, g_i 0), (3, g_i i1), (0, g_r 1 r0), (1, g_i x1), (2, g_i x2)]) hK d_M_lengthen_51 (by rw [hN]; decide) rfl ?_
      refine r_iconst (v := 0) hK d_M_lengthen_53 (by decide) ?_
      refine r_istore (ls1 := [(5, g_i 0), (4, g_i 0), (3, g_i i1), (0, g_r 1 r0), (1, g_i x1), (2, g_i x2)]) hK d_M_lengthen_54 (by rw [hN]; decide) rfl ?_
      exact r_sub [3, 5, 2, 1, 0] rfl (t_M_lengthen_56 hK hN hD _ _ _ _ _ _ _ h)
set_option maxHeartbeats 4000000 in
set_option maxRecDepth 100000 in
theorem t_M_lengthen_0 {K : g_C} {o : (Unit × g_St)} (hK : g_OK K b_M_lengthen "FixpointEngineModel" "lengthen" (Option.none : Option Jvm.ClassFile.FieldType)) (hN : g_nL K = 10) (hD : g_Kd K = 2) : ∀ (r0 : Option Nat) (x1 : Int32) (x2 : Int32) (s0 : g_St), f_M_lengthen r0 x1 x2 s0 = some o → g_W K s0 [(0, g_r 1 r0), (1, g_i x1), (2, g_i x2)] [] 0 (g_jV o) := by
  intro r0 x1 x2 s0 h
  unfold f_M_lengthen at h
  refine r_aload_n hK d_M_lengthen_0 rfl 0 rfl ?_
  refine r_gR hK fd_M_22 w7_54 d_M_lengthen_1 h (fun p1 h => ?_)
  refine r_iload_n hK d_M_lengthen_4 rfl 2 rfl ?_
  refine r_iaload hK ar_20 rfl d_M_lengthen_5 h (fun i2 h => ?_)
  refine r_ifne (tgt := 20) hK d_M_lengthen_6 (by decide) h (fun h => ?_) (fun h => ?_)
  · exact r_sub [0, 1, 2] rfl (t_M_lengthen_20 hK hN hD _ _ _ _ h)
  · refine r_aload_n hK d_M_lengthen_9 rfl 0 rfl ?_
    refine r_gR hK fd_M_25 w7_57 d_M_lengthen_10 h (fun p3 h => ?_)
    refine r_iload_n hK d_M_lengthen_13 rfl 2 rfl ?_
    refine r_iaload hK ar_20 rfl d_M_lengthen_14 h (fun i4 h => ?_)
    refine r_iconst (v := (-1)) hK d_M_lengthen_15 (by decide) ?_
    refine r_if_icmpne (tgt := 20) hK d_M_lengthen_16 (by decide) h (fun h => ?_) (fun h => ?_)
    · exact r_sub [0, 1, 2] rfl (t_M_lengthen_20 hK hN hD _ _ _ _ h)
    · exact r_return hK d_M_lengthen_19 h
theorem c_M_lengthen (l : Launch) (G : g_G) (r0 : Option Nat) (x1 : Int32) (x2 : Int32) (u : g_St) (o : (Unit × g_St)) (h : f_M_lengthen r0 x1 x2 u = some o) : g_Con l G y_M_lengthen b_M_lengthen 10 (Option.none : Option Jvm.ClassFile.FieldType) 2 [g_r 1 r0, g_i x1, g_i x2] u (g_jV o) :=
  g_Con.of rfl rfl (by decide +kernel) (Nat.le_of_ble_eq_true rfl) (fun K hK hN hD hX => t_M_lengthen_0 hK hN hD _ _ _ _ h)
def f_M_isAlike_219 : Nat → Option Nat → Int32 → Int32 → Int32 → g_St → Option (Int32 × g_St)
  | 0, _, _, _, _, _ => none
  | n + 1, r0, x2, x4, x6, s0 =>
    g_gR s0 5249 r0 fun p1 =>
    g_gI s0 4929 r0 fun i2 =>
    g_aI s0 p1 i2 fun i3 =>
    if i3 ≤ x6 then
      g_rZ x4 (some (x4, s0))
    else
      if x4 = 0 then
        g_rZ x4 (some (x4, s0))
      else
        g_gR s0 5313 r0 fun p4 =>
        g_aL s0 p4 ((32 * x2) + x6) fun j5 =>
        g_gR s0 5313 r0 fun p6 =>
        g_gI s0 4929 r0 fun i7 =>
        g_aL s0 p6 ((32 * i7) + x6) fun j8 =>
        if j5 = j8 then
          f_M_isAlike_219 n r0 x2 1 (x6 + 1) s0
        else
          f_M_isAlike_219 n r0 x2 0 (x6 + 1) s0
def f_M_isAlike_153 : Nat → Option Nat → Int32 → Int32 → Int32 → g_St → Option (Int32 × g_St)
  | 0, _, _, _, _, _ => none
  | n + 1, r0, x2, x4, x6, s0 =>
    g_gR s0 5121 r0 fun p1 =>
    g_gI s0 4929 r0 fun i2 =>
    g_aI s0 p1 i2 fun i3 =>
    if i3 ≤ x6 then
      f_M_isAlike_219 200000 r0 x2 x4 0 s0
    else
      if x4 = 0 then
        f_M_isAlike_219 200000 r0 x2 x4 0 s0
      else
        g_gR s0 5185 r0 fun p4 =>
        g_aL s0 p4 ((32 * x2) + x6) fun j5 =>
        g_gR s0 5185 r0 fun p6 =>
        g_gI s0 4929 r0 fun i7 =>
        g_aL s0 p6 ((32 * i7) + x6) fun j8 =>
        if j5 = j8 then
          f_M_isAlike_153 n r0 x2 1 (x6 + 1) s0
        else
          f_M_isAlike_153 n r0 x2 0 (x6 + 1) s0
def f_M_isAlike_122 (r0 : Option Nat) (x1 : Int32) (x2 : Int32) (x4 : Int32) (s0 : g_St) : Option (Int32 × g_St) :=
  g_gR s0 1409 r0 fun p1 =>
  g_aI s0 p1 x1 fun i2 =>
  if i2 = 2 then
    g_gR s0 5121 r0 fun p3 =>
    g_gI s0 4929 r0 fun i4 =>
    g_aI s0 p3 i4 fun i5 =>
    f_M_isAlike_153 200000 r0 x2 x4 (i5 - 1) s0
  else
    f_M_isAlike_153 200000 r0 x2 x4 0 s0
def f_M_isAlike_69 : Nat → Option Nat → Int32 → Int32 → Int32 → Int32 → Int32 → g_St → Option (Int32 × g_St)
  | 0, _, _, _, _, _, _, _ => none
  | n + 1, r0, x1, x2, x3, x4, x5, s0 =>
    if x3 ≤ x5 then
      f_M_isAlike_122 r0 x1 x2 x4 s0
    else
      if x4 = 0 then
        f_M_isAlike_122 r0 x1 x2 x4 s0
      else
        g_gR s0 5057 r0 fun p1 =>
        g_aL s0 p1 ((4 * x2) + x5) fun j2 =>
        g_gR s0 5057 r0 fun p3 =>
        g_gI s0 4929 r0 fun i4 =>
        g_aL s0 p3 ((4 * i4) + x5) fun j5 =>
        if j2 = j5 then
          f_M_isAlike_69 n r0 x1 x2 x3 1 (x5 + 1) s0
        else
          f_M_isAlike_69 n r0 x1 x2 x3 0 (x5 + 1) s0
def f_M_isAlike_21 (r0 : Option Nat) (x1 : Int32) (x2 : Int32) (x0s : Int32) (x1s : Int32) (s0 : g_St) : Option (Int32 × g_St) :=
  g_gR s0 5121 r0 fun p1 =>
  g_aI s0 p1 x2 fun i2 =>
  g_gR s0 5121 r0 fun p3 =>
  g_gI s0 4929 r0 fun i4 =>
  g_aI s0 p3 i4 fun i5 =>
  if i2 = i5 then
    g_gR s0 5249 r0 fun p6 =>
    g_aI s0 p6 x2 fun i7 =>
    g_gR s0 5249 r0 fun p8 =>
    g_gI s0 4929 r0 fun i9 =>
    g_aI s0 p8 i9 fun i10 =>
    if i7 = i10 then
      f_M_isAlike_69 200000 r0 x1 x2 (x0s + x1s) 1 0 s0
    else
      f_M_isAlike_69 200000 r0 x1 x2 (x0s + x1s) 0 0 s0
  else
    f_M_isAlike_69 200000 r0 x1 x2 (x0s + x1s) 0 0 s0
def f_M_isAlike (r0 : Option Nat) (x1 : Int32) (x2 : Int32) (s0 : g_St) : Option (Int32 × g_St) :=
  g_gR s0 1281 r0 fun p1 =>
  g_aI s0 p1 x1 fun i2 =>
  g_gR s0 1601 r0 fun p3 =>
  g_aI s0 p3 x1 fun i4 =>
  if i4 = (-1) then
    f_M_isAlike_21 r0 x1 x2 i2 0 s0
  else
    f_M_isAlike_21 r0 x1 x2 i2 1 s0
set_option maxHeartbeats 4000000 in
set_option maxRecDepth 100000 in
theorem t_M_isAlike_219 {K : g_C} {o : (Int32 × g_St)} (hK : g_OK K b_M_isAlike "FixpointEngineModel" "isAlike" (Option.some Jvm.ClassFile.FieldType.boolean)) (hN : g_nL K = 7) (hD : g_Kd K = 1) : ∀ (n : Nat) (r0 : Option Nat) (x2 : Int32) (x4 : Int32) (x6 : Int32) (s0 : g_St), f_M_isAlike_219 n r0 x2 x4 x6 s0 = some o → g_W K s0 [(0, g_r 1 r0), (2, g_i x2), (4, g_i x4), (6, g_i x6)] [] 219 (g_jI o) := by
  intro n
  induction n with
  | zero =>
    intro r0 x2 x4 x6 s0 h
    cases h
  | succ n ih =>
    intro r0 x2 x4 x6 s0 h
    unfold f_M_isAlike_219 at h
    refine r_iload hK d_M_isAlike_219 3 rfl ?_
    refine r_aload_n hK d_M_isAlike_221 rfl 0 rfl ?_
    refine r_gR hK fd_M_82 w7_114 d_M_isAlike_222 h (fun p1 h => ?_)
    refine r_aload_n hK d_M_isAlike_225 rfl 0 rfl ?_
    refine r_gI hK fd_M_77 w7_109 d_M_isAlike_226 h (fun i2 h => ?_)
    refine r_iaload hK ar_20 rfl d_M_isAlike_229 h (fun i3 h => ?_)
    refine r_if_icmpge (tgt := 282) hK d_M_isAlike_230 (by decide) h (fun h => ?_) (fun h => ?_)
    · refine r_iload hK d_M_isAlike_282 2 rfl ?_
      exact r_zreturn hK d_M_isAlike_284 h
    · refine r_iload hK d_M_isAlike_233 2 rfl ?_
      refine r_ifeq (tgt := 282) hK d_M_isAlike_235 (by decide) h (fun h => ?_) (fun h => ?_)
      · refine r_iload hK d_M_isAlike_282 2 rfl ?_
        exact r_zreturn hK d_M_isAlike_284 h
      · refine r_aload_n hK d_M_isAlike_238 rfl 0 rfl ?_
        refine r_gR hK fd_M_83 w7_115 d_M_isAlike_239 h (fun p4 h => ?_)
        refine r_bipush (v := 32) hK d_M_isAlike_242 (by decide) ?_
        refine r_iload_n hK d_M_isAlike_244 rfl 1 rfl ?_
        refine r_imul hK d_M_isAlike_245 ?_
        refine r_iload hK d_M_isAlike_246 3 rfl ?_
        refine r_iadd hK d_M_isAlike_248 ?_
        refine r_laload hK ar_21 rfl d_M_isAlike_249 h (fun j5 h => ?_)
        refine r_aload_n hK d_M_isAlike_250 rfl 0 rfl ?_
        refine r_gR hK fd_M_83 w7_115 d_M_isAlike_251 h (fun p6 h => ?_)
        refine r_bipush (v := 32) hK d_M_isAlike_254 (by decide) ?_
        refine r_aload_n hK d_M_isAlike_256 rfl 0 rfl ?_
        refine r_gI hK fd_M_77 w7_109 d_M_isAlike_257 h (fun i7 h => ?_)
        refine r_imul hK d_M_isAlike_260 ?_
        refine r_iload hK d_M_isAlike_261 3 rfl ?_
        refine r_iadd hK d_M_isAlike_263 ?_
        refine r_laload hK ar_21 rfl d_M_isAlike_264 h (fun j8 h => ?_)
        refine r_lifne (tgt := 273) hK d_M_isAlike_265 d_M_isAlike_266 (by decide) h (fun h => ?_) (fun h => ?_)
        · refine r_iconst (v := 0) hK d_M_isAlike_273 (by decide) ?_
          refine r_istore (ls1 := [(4, g_i 0), (0, g_r 1 r0), (2, g_i x2), (6, g_i x6)]) hK d_M_isAlike_274 (by rw [hN]; decide) rfl ?_
          refine r_iinc (ls1 := [(6, g_i (x6 + 1)), (4, g_i 0), (0, g_r 1 r0), (2, g_i x2)]) hK d_M_isAlike_276 3 rfl rfl (by rw [hN]; decide) rfl ?_
          refine r_goto (tgt := 219) hK d_M_isAlike_279 (by decide) ?_
          exact r_sub [2, 3, 1, 0] rfl (ih _ _ _ _ _ h)
        · refine r_iconst (v := 1) hK d_M_isAlike_269 (by decide) ?_
          refine r_goto (tgt := 274) hK d_M_isAlike_270 (by decide) ?_
          refine r_istore (ls1 := [(4, g_i 1), (0, g_r 1 r0), (2, g_i x2), (6, g_i x6)]) hK d_M_isAlike_274 (by rw [hN]; decide) rfl ?_
          refine r_iinc (ls1 := [(6, g_i (x6 + 1)), (4, g_i 1), (0, g_r 1 r0), (2, g_i x2)]) hK d_M_isAlike_276 3 rfl rfl (by rw [hN]; decide) rfl ?_
          refine r_goto (tgt := 219) hK d_M_isAlike_279 (by decide) ?_
          exact r_sub [2, 3, 1, 0] rfl (ih _ _ _ _ _ h)
set_option maxHeartbeats 4000000 in
set_option maxRecDepth 100000 in
theorem t_M_isAlike_153 {K : g_C} {o : (Int32 × g_St)} (hK : g_OK K b_M_isAlike "FixpointEngineModel" "isAlike" (Option.some Jvm.ClassFile.FieldType.boolean)) (hN : g_nL K = 7) (hD : g_Kd K = 1) : ∀ (n : Nat) (r0 : Option Nat) (x2 : Int32) (x4 : Int32) (x6 : Int32) (s0 : g_St), f_M_isAlike_153 n r0 x2 x4 x6 s0 = some o → g_W K s0 [(0, g_r 1 r0), (2, g_i x2), (4, g_i x4), (6, g_i x6)] [] 153 (g_jI o) := by
  intro n
  induction n with
  | zero =>
    intro r0 x2 x4 x6 s0 h
    cases h
  | succ n ih =>
    intro r0 x2 x4 x6 s0 h
    unfold f_M_isAlike_153 at h
    refine r_iload hK d_M_isAlike_153 3 rfl ?_
    refine r_aload_n hK d_M_isAlike_155 rfl 0 rfl ?_
    refine r_gR hK fd_M_80 w7_112 d_M_isAlike_156 h (fun p1 h => ?_)
    refine r_aload_n hK d_M_isAlike_159 rfl 0 rfl ?_
    refine r_gI hK fd_M_77 w7_109 d_M_isAlike_160 h (fun i2 h => ?_)
    refine r_iaload hK ar_20 rfl d_M_isAlike_163 h (fun i3 h => ?_)
    refine r_if_icmpge (tgt := 216) hK d_M_isAlike_164 (by decide) h (fun h => ?_) (fun h => ?_)
    · refine r_iconst (v := 0) hK d_M_isAlike_216 (by decide) ?_
      refine r_istore (ls1 := [(6, g_i 0), (0, g_r 1 r0), (2, g_i x2), (4, g_i x4)]) hK d_M_isAlike_217 (by rw [hN]; decide) rfl ?_
      exact r_sub [1, 2, 3, 0] rfl (t_M_isAlike_219 hK hN hD _ _ _ _ _ _ h)
    · refine r_iload hK d_M_isAlike_167 2 rfl ?_
      refine r_ifeq (tgt := 216) hK d_M_isAlike_169 (by decide) h (fun h => ?_) (fun h => ?_)
      · refine r_iconst (v := 0) hK d_M_isAlike_216 (by decide) ?_
        refine r_istore (ls1 := [(6, g_i 0), (0, g_r 1 r0), (2, g_i x2), (4, g_i x4)]) hK d_M_isAlike_217 (by rw [hN]; decide) rfl ?_
        exact r_sub [1, 2, 3, 0] rfl (t_M_isAlike_219 hK hN hD _ _ _ _ _ _ h)
      · refine r_aload_n hK d_M_isAlike_172 rfl 0 rfl ?_
        refine r_gR hK fd_M_81 w7_113 d_M_isAlike_173 h (fun p4 h => ?_)
        refine r_bipush (v := 32) hK d_M_isAlike_176 (by decide) ?_
        refine r_iload_n hK d_M_isAlike_178 rfl 1 rfl ?_
        refine r_imul hK d_M_isAlike_179 ?_
        refine r_iload hK d_M_isAlike_180 3 rfl ?_
        refine r_iadd hK d_M_isAlike_182 ?_
        refine r_laload hK ar_21 rfl d_M_isAlike_183 h (fun j5 h => ?_)
        refine r_aload_n hK d_M_isAlike_184 rfl 0 rfl ?_
        refine r_gR hK fd_M_81 w7_113 d_M_isAlike_185 h (fun p6 h => ?_)
        refine r_bipush (v := 32) hK d_M_isAlike_188 (by decide) ?_
        refine r_aload_n hK d_M_isAlike_190 rfl 0 rfl ?_
        refine r_gI hK fd_M_77 w7_109 d_M_isAlike_191 h (fun i7 h => ?_)
        refine r_imul hK d_M_isAlike_194 ?_
        refine r_iload hK d_M_isAlike_195 3 rfl ?_
        refine r_iadd hK d_M_isAlike_197 ?_
        refine r_laload hK ar_21 rfl d_M_isAlike_198 h (fun j8 h => ?_)
        refine r_lifne (tgt := 207) hK d_M_isAlike_199 d_M_isAlike_200 (by decide) h (fun h => ?_) (fun h => ?_)
        · refine r_iconst (v := 0) hK d_M_isAlike_207 (by decide) ?_
          refine r_istore (ls1 := [(4, g_i 0), (0, g_r 1 r0), (2, g_i x2), (6, g_i x6)]) hK d_M_isAlike_208 (by rw [hN]; decide) rfl ?_
          refine r_iinc (ls1 := [(6, g_i (x6 + 1)), (4, g_i 0), (0, g_r 1 r0), (2, g_i x2)]) hK d_M_isAlike_210 3 rfl rfl (by rw [hN]; decide) rfl ?_
          refine r_goto (tgt := 153) hK d_M_isAlike_213 (by decide) ?_
          exact r_sub [2, 3, 1, 0] rfl (ih _ _ _ _ _ h)
        · refine r_iconst (v := 1) hK d_M_isAlike_203 (by decide) ?_
          refine r_goto (tgt := 208) hK d_M_isAlike_204 (by decide) ?_
          refine r_istore (ls1 := [(4, g_i 1), (0, g_r 1 r0), (2, g_i x2), (6, g_i x6)]) hK d_M_isAlike_208 (by rw [hN]; decide) rfl ?_
          refine r_iinc (ls1 := [(6, g_i (x6 + 1)), (4, g_i 1), (0, g_r 1 r0), (2, g_i x2)]) hK d_M_isAlike_210 3 rfl rfl (by rw [hN]; decide) rfl ?_
          refine r_goto (tgt := 153) hK d_M_isAlike_213 (by decide) ?_
          exact r_sub [2, 3, 1, 0] rfl (ih _ _ _ _ _ h)
set_option maxHeartbeats 4000000 in
set_option maxRecDepth 100000 in
theorem t_M_isAlike_122 {K : g_C} {o : (Int32 × g_St)} (hK : g_OK K b_M_isAlike "FixpointEngineModel" "isAlike" (Option.some Jvm.ClassFile.FieldType.boolean)) (hN : g_nL K = 7) (hD : g_Kd K = 1) : ∀ (r0 : Option Nat) (x1 : Int32) (x2 : Int32) (x4 : Int32) (s0 : g_St), f_M_isAlike_122 r0 x1 x2 x4 s0 = some o → g_W K s0 [(0, g_r 1 r0), (1, g_i x1), (2, g_i x2), (4, g_i x4)] [] 122 (g_jI o) := by
  intro r0 x1 x2 x4 s0 h
  unfold f_M_isAlike_122 at h
  refine r_aload_n hK d_M_isAlike_122 rfl 0 rfl ?_
  refine r_gR hK fd_M_22 w7_54 d_M_isAlike_123 h (fun p1 h => ?_)
  refine r_iload_n hK d_M_isAlike_126 rfl 1 rfl ?_
  refine r_iaload hK ar_20 rfl d_M_isAlike_127 h (fun i2 h => ?_)
  refine r_iconst (v := 2) hK d_M_isAlike_128 (by decide) ?_
  refine r_if_icmpne (tgt := 146) hK d_M_isAlike_129 (by decide) h (fun h => ?_) (fun h => ?_)
  · refine r_iconst (v := 0) hK d_M_isAlike_146 (by decide) ?_
    refine r_istore (ls1 := [(5, g_i 0), (0, g_r 1 r0), (1, g_i x1), (2, g_i x2), (4, g_i x4)]) hK d_M_isAlike_147 (by rw [hN]; decide) rfl ?_
    refine r_iload hK d_M_isAlike_149 0 rfl ?_
    refine r_istore (ls1 := [(6, g_i 0), (5, g_i 0), (0, g_r 1 r0), (1, g_i x1), (2, g_i x2), (4, g_i x4)]) hK d_M_isAlike_151 (by rw [hN]; decide) rfl ?_
    exact r_sub [2, 4, 5, 0] rfl (t_M_isAlike_153 hK hN hD _ _ _ _ _ _ h)
  · refine r_aload_n hK d_M_isAlike_132 rfl 0 rfl ?_
    refine r_gR hK fd_M_80 w7_112 d_M_isAlike_133 h (fun p3 h => ?_)
    refine r_aload_n hK d_M_isAlike_136 rfl 0 rfl ?_
    refine r_gI hK fd_M_77 w7_109 d_M_isAlike_137 h (fun i4 h => ?_)
    refine r_iaload hK ar_20 rfl d_M_isAlike_140 h (fun i5 h => ?_)
    refine r_iconst (v := 1) hK d_M_isAlike_141 (by decide) ?_
    refine r_isub hK d_M_isAlike_142 ?_
    refine r_goto (tgt := 147) hK d_M_isAlike_143 (by decide) ?_
    refine r_istore (ls1 := [(5, g_i (i5 - 1)), (0, g_r 1 r0), (1, g_i x1), (2, g_i x2), (4, g_i x4)]) hK d_M_isAlike_147 (by rw [hN]; decide) rfl ?_
    refine r_iload hK d_M_isAlike_149 0 rfl ?_
    refine r_istore (ls1 := [(6, g_i (i5 - 1)), (5, g_i (i5 - 1)), (0, g_r 1 r0), (1, g_i x1), (2, g_i x2), (4, g_i x4)]) hK d_M_isAlike_151 (by rw [hN]; decide) rfl ?_
    exact r_sub [2, 4, 5, 0] rfl (t_M_isAlike_153 hK hN hD _ _ _ _ _ _ h)
set_option maxHeartbeats 4000000 in
set_option maxRecDepth 100000 in
theorem t_M_isAlike_69 {K : g_C} {o : (Int32 × g_St)} (hK : g_OK K b_M_isAlike "FixpointEngineModel" "isAlike" (Option.some Jvm.ClassFile.FieldType.boolean)) (hN : g_nL K = 7) (hD : g_Kd K = 1) : ∀ (n : Nat) (r0 : Option Nat) (x1 : Int32) (x2 : Int32) (x3 : Int32) (x4 : Int32) (x5 : Int32) (s0 : g_St), f_M_isAlike_69 n r0 x1 x2 x3 x4 x5 s0 = some o → g_W K s0 [(0, g_r 1 r0), (1, g_i x1), (2, g_i x2), (3, g_i x3), (4, g_i x4), (5, g_i x5)] [] 69 (g_jI o) := by
  intro n
  induction n with
  | zero =>
    intro r0 x1 x2 x3 x4 x5 s0 h
    cases h
  | succ n ih =>
    intro r0 x1 x2 x3 x4 x5 s0 h
    unfold f_M_isAlike_69 at h
    refine r_iload hK d_M_isAlike_69 5 rfl ?_
    refine r_iload_n hK d_M_isAlike_71 rfl 3 rfl ?_
    refine r_if_icmpge (tgt := 122) hK d_M_isAlike_72 (by decide) h (fun h => ?_) (fun h => ?_)
    · exact r_sub [0, 1, 2, 4] rfl (t_M_isAlike_122 hK hN hD _ _ _ _ _ h)
    · refine r_iload hK d_M_isAlike_75 4 rfl ?_
      refine r_ifeq (tgt := 122) hK d_M_isAlike_77 (by decide) h (fun h => ?_) (fun h => ?_)
      · exact r_sub [0, 1, 2, 4] rfl (t_M_isAlike_122 hK hN hD _ _ _ _ _ h)
      · refine r_aload_n hK d_M_isAlike_80 rfl 0 rfl ?_
        refine r_gR hK fd_M_79 w7_111 d_M_isAlike_81 h (fun p1 h => ?_)
        refine r_iconst (v := 4) hK d_M_isAlike_84 (by decide) ?_
        refine r_iload_n hK d_M_isAlike_85 rfl 2 rfl ?_
        refine r_imul hK d_M_isAlike_86 ?_
        refine r_iload hK d_M_isAlike_87 5 rfl ?_
        refine r_iadd hK d_M_isAlike_89 ?_
        refine r_laload hK ar_21 rfl d_M_isAlike_90 h (fun j2 h => ?_)
        refine r_aload_n hK d_M_isAlike_91 rfl 0 rfl ?_
        refine r_gR hK fd_M_79 w7_111 d_M_isAlike_92 h (fun p3 h => ?_)
        refine r_iconst (v := 4) hK d_M_isAlike_95 (by decide) ?_
        refine r_aload_n hK d_M_isAlike_96 rfl 0 rfl ?_
        refine r_gI hK fd_M_77 w7_109 d_M_isAlike_97 h (fun i4 h => ?_)
        refine r_imul hK d_M_isAlike_100 ?_
        refine r_iload hK d_M_isAlike_101 5 rfl ?_
        refine r_iadd hK d_M_isAlike_103 ?_
        refine r_laload hK ar_21 rfl d_M_isAlike_104 h (fun j5 h => ?_)
        refine r_lifne (tgt := 113) hK d_M_isAlike_105 d_M_isAlike_106 (by decide) h (fun h => ?_) (fun h => ?_)
        · refine r_iconst (v := 0) hK d_M_isAlike_113 (by decide) ?_
          refine r_istore (ls1 := [(4, g_i 0), (0, g_r 1 r0), (1, g_i x1), (2, g_i x2), (3, g_i x3), (5, g_i x5)]) hK d_M_isAlike_114 (by rw [hN]; decide) rfl ?_
          refine r_iinc (ls1 := [(5, g_i (x5 + 1)), (4, g_i 0), (0, g_r 1 r0), (1, g_i x1), (2, g_i x2), (3, g_i x3)]) hK d_M_isAlike_116 5 rfl rfl (by rw [hN]; decide) rfl ?_
          refine r_goto (tgt := 69) hK d_M_isAlike_119 (by decide) ?_
          exact r_sub [2, 3, 4, 5, 1, 0] rfl (ih _ _ _ _ _ _ _ h)
        · refine r_iconst (v := 1) hK d_M_isAlike_109 (by decide) ?_
          refine r_goto (tgt := 114) hK d_M_isAlike_110 (by decide) ?_
          refine r_istore (ls1 := [(4, g_i 1), (0, g_r 1 r0), (1, g_i x1), (2, g_i x2), (3, g_i x3), (5, g_i x5)]) hK d_M_isAlike_114 (by rw [hN]; decide) rfl ?_
          refine r_iinc (ls1 := [(5, g_i (x5 + 1)), (4, g_i 1), (0, g_r 1 r0), (1, g_i x1), (2, g_i x2), (3, g_i x3)]) hK d_M_isAlike_116 5 rfl rfl (by rw [hN]; decide) rfl ?_
          refine r_goto (tgt := 69) hK d_M_isAlike_119 (by decide) ?_
          exact r_sub [2, 3, 4, 5, 1, 0] rfl (ih _ _ _ _ _ _ _ h)
set_option maxHeartbeats 4000000 in
set_option maxRecDepth 100000 in
theorem t_M_isAlike_21 {K : g_C} {o : (Int32 × g_St)} (hK : g_OK K b_M_isAlike "FixpointEngineModel" "isAlike" (Option.some Jvm.ClassFile.FieldType.boolean)) (hN : g_nL K = 7) (hD : g_Kd K = 1) : ∀ (r0 : Option Nat) (x1 : Int32) (x2 : Int32) (x0s : Int32) (x1s : Int32) (s0 : g_St), f_M_isAlike_21 r0 x1 x2 x0s x1s s0 = some o → g_W K s0 [(0, g_r 1 r0), (1, g_i x1), (2, g_i x2)] [g_i x1s, g_i x0s] 21 (g_jI o) := by
  intro r0 x1 x2 x0s x1s s0 h
  unfold f_M_isAlike_21 at h
  refine r_iadd hK d_M_isAlike_21 ?_
  refine r_istore_n (ls1 := [(3, g_i (x0s + x1s)), (0, g_r 1 r0), (1, g_i x1), (2, g_i x2)]) hK d_M_isAlike_22 rfl (by rw [hN]; decide) rfl ?_
  refine r_aload_n hK d_M_isAlike_23 rfl 1 rfl ?_
  refine r_gR hK fd_M_80 w7_112 d_M_isAlike_24 h (fun p1 h => ?_)
  refine r_iload_n hK d_M_isAlike_27 rfl 3 rfl ?_
  refine r_iaload hK ar_20 rfl d_M_isAlike_28 h (fun i2 h => ?_)
  refine r_aload_n hK d_M_isAlike_29 rfl 1 rfl ?_
  refine r_gR hK fd_M_80 w7_112 d_M_isAlike_30 h (fun p3 h => ?_)
  refine r_aload_n hK d_M_isAlike_33 rfl 1 rfl ?_
  refine r_gI hK fd_M_77 w7_109 d_M_isAlike_34 h (fun i4 h => ?_)
  refine r_iaload hK ar_20 rfl d_M_isAlike_37 h (fun i5 h => ?_)
  refine r_if_icmpne (tgt := 63) hK d_M_isAlike_38 (by decide) h (fun h => ?_) (fun h => ?_)
  · refine r_iconst (v := 0) hK d_M_isAlike_63 (by decide) ?_
    refine r_istore (ls1 := [(4, g_i 0), (3, g_i (x0s + x1s)), (0, g_r 1 r0), (1, g_i x1), (2, g_i x2)]) hK d_M_isAlike_64 (by rw [hN]; decide) rfl ?_
    refine r_iconst (v := 0) hK d_M_isAlike_66 (by decide) ?_
    refine r_istore (ls1 := [(5, g_i 0), (4, g_i 0), (3, g_i (x0s + x1s)), (0, g_r 1 r0), (1, g_i x1), (2, g_i x2)]) hK d_M_isAlike_67 (by rw [hN]; decide) rfl ?_
    exact r_sub [3, 4, 5, 2, 1, 0] rfl (t_M_isAlike_69 hK hN hD _ _ _ _ _ _ _ _ h)
  · refine r_aload_n hK d_M_isAlike_41 rfl 1 rfl ?_
    refine r_gR hK fd_M_82 w7_114 d_M_isAlike_42 h (fun p6 h => ?_)
    refine r_iload_n hK d_M_isAlike_45 rfl 3 rfl ?_
    refine r_iaload hK ar_20 rfl d_M_isAlike_46 h (fun i7 h => ?_)
    refine r_aload_n hK d_M_isAlike_47 rfl 1 rfl ?_
    refine r_gR hK fd_M_82 w7_114 d_M_isAlike_48 h (fun p8 h => ?_)
    refine r_aload_n hK d_M_isAlike_51 rfl 1 rfl ?_
    refine r_gI hK fd_M_77 w7_109 d_M_isAlike_52 h (fun i9 h => ?_)
    refine r_iaload hK ar_20 rfl d_M_isAlike_55 h (fun i10 h => ?_)
    refine r_if_icmpne (tgt := 63) hK d_M_isAlike_56 (by decide) h (fun h => ?_) (fun h => ?_)
    · refine r_iconst (v := 0) hK d_M_isAlike_63 (by decide) ?_
      refine r_istore (ls1 := [(4, g_i 0), (3, g_i (x0s + x1s)), (0, g_r 1 r0), (1, g_i x1), (2, g_i x2)]) hK d_M_isAlike_64 (by rw [hN]; decide) rfl ?_
      refine r_iconst (v := 0) hK d_M_isAlike_66 (by decide) ?_
      refine r_istore (ls1 := [(5, g_i 0), (4, g_i 0), (3, g_i (x0s + x1s)), (0, g_r 1 r0), (1, g_i x1), (2, g_i x2)]) hK d_M_isAlike_67 (by rw [hN]; decide) rfl ?_
      exact r_sub [3, 4, 5, 2, 1, 0] rfl (t_M_isAlike_69 hK hN hD _ _ _ _ _ _ _ _ h)
    · refine r_iconst (v := 1) hK d_M_isAlike_59 (by decide) ?_
      refine r_goto (tgt := 64) hK d_M_isAlike_60 (by decide) ?_
      refine r_istore (ls1 := [(4, g_i 1), (3, g_i (x0s + x1s)), (0, g_r 1 r0), (1, g_i x1), (2, g_i x2)]) hK d_M_isAlike_64 (by rw [hN]; decide) rfl ?_
      refine r_iconst (v := 0) hK d_M_isAlike_66 (by decide) ?_
      refine r_istore (ls1 := [(5, g_i 0), (4, g_i 1), (3, g_i (x0s + x1s)), (0, g_r 1 r0), (1, g_i x1), (2, g_i x2)]) hK d_M_isAlike_67 (by rw [hN]; decide) rfl ?_
      exact r_sub [3, 4, 5, 2, 1, 0] rfl (t_M_isAlike_69 hK hN hD _ _ _ _ _ _ _ _ h)
set_option maxHeartbeats 4000000 in
set_option maxRecDepth 100000 in
theorem t_M_isAlike_0 {K : g_C} {o : (Int32 × g_St)} (hK : g_OK K b_M_isAlike "FixpointEngineModel" "isAlike" (Option.some Jvm.ClassFile.FieldType.boolean)) (hN : g_nL K = 7) (hD : g_Kd K = 1) : ∀ (r0 : Option Nat) (x1 : Int32) (x2 : Int32) (s0 : g_St), f_M_isAlike r0 x1 x2 s0 = some o → g_W K s0 [(0, g_r 1 r0), (1, g_i x1), (2, g_i x2)] [] 0 (g_jI o) := by
  intro r0 x1 x2 s0 h
  unfold f_M_isAlike at h
  refine r_aload_n hK d_M_isAlike_0 rfl 0 rfl ?_
  refine r_gR hK fd_M_20 w7_52 d_M_isAlike_1 h (fun p1 h => ?_)
  refine r_iload_n hK d_M_isAlike_4 rfl 1 rfl ?_
  refine r_iaload hK ar_20 rfl d_M_isAlike_5 h (fun i2 h => ?_)
  refine r_aload_n hK d_M_isAlike_6 rfl 0 rfl ?_
  refine r_gR hK fd_M_25 w7_57 d_M_isAlike_7 h (fun p3 h => ?_)
  refine r_iload_n hK d_M_isAlike_10 rfl 1 rfl ?_
  refine r_iaload hK ar_20 rfl d_M_isAlike_11 h (fun i4 h => ?_)
  refine r_iconst (v := (-1)) hK d_M_isAlike_12 (by decide) ?_
  refine r_if_icmpeq (tgt := 20) hK d_M_isAlike_13 (by decide) h (fun h => ?_) (fun h => ?_)
  · refine r_iconst (v := 0) hK d_M_isAlike_20 (by decide) ?_
    exact r_sub [0, 1, 2] rfl (t_M_isAlike_21 hK hN hD _ _ _ _ _ _ h)
  · refine r_iconst (v := 1) hK d_M_isAlike_16 (by decide) ?_
    refine r_goto (tgt := 21) hK d_M_isAlike_17 (by decide) ?_
    exact r_sub [0, 1, 2] rfl (t_M_isAlike_21 hK hN hD _ _ _ _ _ _ h)
theorem c_M_isAlike (l : Launch) (G : g_G) (r0 : Option Nat) (x1 : Int32) (x2 : Int32) (u : g_St) (o : (Int32 × g_St)) (h : f_M_isAlike r0 x1 x2 u = some o) : g_Con l G y_M_isAlike b_M_isAlike 7 (Option.some Jvm.ClassFile.FieldType.boolean) 1 [g_r 1 r0, g_i x1, g_i x2] u (g_jI o) :=
  g_Con.of rfl rfl (by decide +kernel) (Nat.le_of_ble_eq_true rfl) (fun K hK hN hD hX => t_M_isAlike_0 hK hN hD _ _ _ _ h)
def f_M_isThere_4 : Nat → Option Nat → Int32 → Int32 → Int32 → g_St → Option (Int32 × g_St)
  | 0, _, _, _, _, _ => none
  | n + 1, r0, x1, x2, x3, s0 =>
    g_gI s0 4929 r0 fun i1 =>
    if i1 ≤ x3 then
      g_rZ x2 (some (x2, s0))
    else
      if x2 = 0 then
        g_gR s0 4993 r0 fun p2 =>
        g_aI s0 p2 x3 fun i3 =>
        if i3 = x1 then
          g_c (g_nn r0 (f_M_isAlike r0 x1 x3 s0)) fun i4 s5 =>
          if i4 = 0 then
            f_M_isThere_4 n r0 x1 0 (x3 + 1) s5
          else
            f_M_isThere_4 n r0 x1 1 (x3 + 1) s5
        else
          f_M_isThere_4 n r0 x1 0 (x3 + 1) s0
      else
        g_rZ x2 (some (x2, s0))
def f_M_isThere (r0 : Option Nat) (x1 : Int32) (s0 : g_St) : Option (Int32 × g_St) :=
  f_M_isThere_4 200000 r0 x1 0 0 s0
set_option maxHeartbeats 4000000 in
set_option maxRecDepth 100000 in
theorem t_M_isThere_4 {K : g_C} {o : (Int32 × g_St)} (hK : g_OK K b_M_isThere "FixpointEngineModel" "isThere" (Option.some Jvm.ClassFile.FieldType.boolean)) (hN : g_nL K = 4) (hD : g_Kd K = 2) : ∀ (n : Nat) (r0 : Option Nat) (x1 : Int32) (x2 : Int32) (x3 : Int32) (s0 : g_St), f_M_isThere_4 n r0 x1 x2 x3 s0 = some o → g_W K s0 [(0, g_r 1 r0), (1, g_i x1), (2, g_i x2), (3, g_i x3)] [] 4 (g_jI o) := by
  intro n
  induction n with
  | zero =>
    intro r0 x1 x2 x3 s0 h
    cases h
  | succ n ih =>
    intro r0 x1 x2 x3 s0 h
    unfold f_M_isThere_4 at h
    refine r_iload_n hK d_M_isThere_4 rfl 3 rfl ?_
    refine r_aload_n hK d_M_isThere_5 rfl 0 rfl ?_
    refine r_gI hK fd_M_77 w7_109 d_M_isThere_6 h (fun i1 h => ?_)
    refine r_if_icmpge (tgt := 47) hK d_M_isThere_9 (by decide) h (fun h => ?_) (fun h => ?_)
    · refine r_iload_n hK d_M_isThere_47 rfl 2 rfl ?_
      exact r_zreturn hK d_M_isThere_48 h
    · refine r_iload_n hK d_M_isThere_12 rfl 2 rfl ?_
      refine r_ifne (tgt := 47) hK d_M_isThere_13 (by decide) h (fun h => ?_) (fun h => ?_)
      · refine r_iload_n hK d_M_isThere_47 rfl 2 rfl ?_
        exact r_zreturn hK d_M_isThere_48 h
      · refine r_aload_n hK d_M_isThere_16 rfl 0 rfl ?_
        refine r_gR hK fd_M_78 w7_110 d_M_isThere_17 h (fun p2 h => ?_)
        refine r_iload_n hK d_M_isThere_20 rfl 3 rfl ?_
        refine r_iaload hK ar_20 rfl d_M_isThere_21 h (fun i3 h => ?_)
        refine r_iload_n hK d_M_isThere_22 rfl 1 rfl ?_
        refine r_if_icmpne (tgt := 39) hK d_M_isThere_23 (by decide) h (fun h => ?_) (fun h => ?_)
        · refine r_iconst (v := 0) hK d_M_isThere_39 (by decide) ?_
          refine r_istore_n (ls1 := [(2, g_i 0), (0, g_r 1 r0), (1, g_i x1), (3, g_i x3)]) hK d_M_isThere_40 rfl (by rw [hN]; decide) rfl ?_
          refine r_iinc (ls1 := [(3, g_i (x3 + 1)), (2, g_i 0), (0, g_r 1 r0), (1, g_i x1)]) hK d_M_isThere_41 3 rfl rfl (by rw [hN]; decide) rfl ?_
          refine r_goto (tgt := 4) hK d_M_isThere_44 (by decide) ?_
          exact r_sub [2, 3, 1, 0] rfl (ih _ _ _ _ _ h)
        · refine r_aload_n hK d_M_isThere_26 rfl 0 rfl ?_
          refine r_iload_n hK d_M_isThere_27 rfl 1 rfl ?_
          refine r_iload_n hK d_M_isThere_28 rfl 3 rfl ?_
          refine r_Vi (avL := [g_i x1, g_i x3]) (st := []) hK ob_M rfl w9_203 wp_75 w9_201 w9_204 w1_6 (by decide) pl_M_isAlike (by rw [hD]; decide) (Nat.le_of_ble_eq_true rfl) rfl d_M_isThere_29 (fun o9 h9 => c_M_isAlike _ _ _ _ _ _ o9 h9) h (fun i4 s5 h => ?_)
          refine r_ifeq (tgt := 39) hK d_M_isThere_32 (by decide) h (fun h => ?_) (fun h => ?_)
          · refine r_iconst (v := 0) hK d_M_isThere_39 (by decide) ?_
            refine r_istore_n (ls1 := [(2, g_i 0), (0, g_r 1 r0), (1, g_i x1), (3, g_i x3)]) hK d_M_isThere_40 rfl (by rw [hN]; decide) rfl ?_
            refine r_iinc (ls1 := [(3, g_i (x3 + 1)), (2, g_i 0), (0, g_r 1 r0), (1, g_i x1)]) hK d_M_isThere_41 3 rfl rfl (by rw [hN]; decide) rfl ?_
            refine r_goto (tgt := 4) hK d_M_isThere_44 (by decide) ?_
            exact r_sub [2, 3, 1, 0] rfl (ih _ _ _ _ _ h)
          · refine r_iconst (v := 1) hK d_M_isThere_35 (by decide) ?_
            refine r_goto (tgt := 40) hK d_M_isThere_36 (by decide) ?_
            refine r_istore_n (ls1 := [(2, g_i 1), (0, g_r 1 r0), (1, g_i x1), (3, g_i x3)]) hK d_M_isThere_40 rfl (by rw [hN]; decide) rfl ?_
            refine r_iinc (ls1 := [(3, g_i (x3 + 1)), (2, g_i 1), (0, g_r 1 r0), (1, g_i x1)]) hK d_M_isThere_41 3 rfl rfl (by rw [hN]; decide) rfl ?_
            refine r_goto (tgt := 4) hK d_M_isThere_44 (by decide) ?_
            exact r_sub [2, 3, 1, 0] rfl (ih _ _ _ _ _ h)
set_option maxHeartbeats 4000000 in
set_option maxRecDepth 100000 in
theorem t_M_isThere_0 {K : g_C} {o : (Int32 × g_St)} (hK : g_OK K b_M_isThere "FixpointEngineModel" "isThere" (Option.some Jvm.ClassFile.FieldType.boolean)) (hN : g_nL K = 4) (hD : g_Kd K = 2) : ∀ (r0 : Option Nat) (x1 : Int32) (s0 : g_St), f_M_isThere r0 x1 s0 = some o → g_W K s0 [(0, g_r 1 r0), (1, g_i x1)] [] 0 (g_jI o) := by
  intro r0 x1 s0 h
  unfold f_M_isThere at h
  refine r_iconst (v := 0) hK d_M_isThere_0 (by decide) ?_
  refine r_istore_n (ls1 := [(2, g_i 0), (0, g_r 1 r0), (1, g_i x1)]) hK d_M_isThere_1 rfl (by rw [hN]; decide) rfl ?_
  refine r_iconst (v := 0) hK d_M_isThere_2 (by decide) ?_
  refine r_istore_n (ls1 := [(3, g_i 0), (2, g_i 0), (0, g_r 1 r0), (1, g_i x1)]) hK d_M_isThere_3 rfl (by rw [hN]; decide) rfl ?_
  exact r_sub [2, 3, 1, 0] rfl (t_M_isThere_4 hK hN hD _ _ _ _ _ _ h)
theorem c_M_isThere (l : Launch) (G : g_G) (r0 : Option Nat) (x1 : Int32) (u : g_St) (o : (Int32 × g_St)) (h : f_M_isThere r0 x1 u = some o) : g_Con l G y_M_isThere b_M_isThere 4 (Option.some Jvm.ClassFile.FieldType.boolean) 2 [g_r 1 r0, g_i x1] u (g_jI o) :=
  g_Con.of rfl rfl (by decide +kernel) (Nat.le_of_ble_eq_true rfl) (fun K hK hN hD hX => t_M_isThere_0 hK hN hD _ _ _ h)
