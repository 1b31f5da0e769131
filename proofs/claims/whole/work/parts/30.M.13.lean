def f_M_bring_143 (r0 : Option Nat) (s0 : g_St) : Option (Unit × g_St) :=
  g_gI s0 4929 r0 fun i1 =>
  g_gI s0 5377 r0 fun i2 =>
  g_gI s0 5441 r0 fun i3 =>
  if (i1 + i2) = i3 then
    g_pI s0 1 r0 4 fun s6 =>
    some ((), s6)
  else
    g_gI s0 4929 r0 fun i4 =>
    g_pI s0 4929 r0 (i4 + 1) fun s5 =>
    some ((), s5)
def f_M_bring_22 : Nat → Option Nat → Int32 → Int32 → Int32 → Int32 → g_St → Option (Unit × g_St)
  | 0, _, _, _, _, _, _ => none
  | n + 1, r0, x1, x2, x3, x4, s0 =>
    g_gR s0 2433 r0 fun p1 =>
    g_aI s0 p1 x1 fun i2 =>
    if i2 ≤ x4 then
      g_gR s0 4993 r0 fun p3 =>
      g_gI s0 4929 r0 fun i4 =>
      g_sI s0 p3 i4 x3 fun s5 =>
      g_gR s5 5121 r0 fun p6 =>
      g_gI s5 4929 r0 fun i7 =>
      g_sI s5 p6 i7 0 fun s8 =>
      g_gR s8 5249 r0 fun p9 =>
      g_gI s8 4929 r0 fun i10 =>
      g_sI s8 p9 i10 0 fun s11 =>
      g_c (g_nn r0 (f_M_lengthen r0 x1 x3 s11)) fun _ s13 =>
      g_gR s13 1921 r0 fun p14 =>
      g_aI s13 p14 x3 fun i15 =>
      if i15 = 0 then
        g_gR s13 2049 r0 fun p16 =>
        g_aI s13 p16 x3 fun i17 =>
        if i17 ≤ 1 then
          f_M_bring_143 r0 s13
        else
          g_c (g_nn r0 (f_M_isThere r0 x3 s13)) fun i18 s19 =>
          if i18 = 0 then
            f_M_bring_143 r0 s19
          else
            some ((), s19)
      else
        f_M_bring_143 r0 s13
    else
      g_gR s0 5057 r0 fun p20 =>
      g_gI s0 4929 r0 fun i21 =>
      if x2 = (-1) then
        g_c (g_nn r0 (f_M_itemOf r0 x1 x4 s0)) fun j25 s26 =>
        g_sL s26 p20 ((4 * i21) + x4) j25 fun s27 =>
        f_M_bring_22 n r0 x1 x2 x3 (x4 + 1) s27
      else
        g_gR s0 6401 r0 fun p22 =>
        g_aL s0 p22 ((4 * x2) + x4) fun j23 =>
        g_sL s0 p20 ((4 * i21) + x4) j23 fun s24 =>
        f_M_bring_22 n r0 x1 x2 x3 (x4 + 1) s24
def f_M_bring (r0 : Option Nat) (x1 : Int32) (x2 : Int32) (s0 : g_St) : Option (Unit × g_St) :=
  g_gR s0 2241 r0 fun p1 =>
  g_aI s0 p1 x1 fun i2 =>
  if i2 = 4 then
    g_c (g_nn r0 (f_M_bringAnswer r0 x1 x2 s0)) fun _ s4 =>
    some ((), s4)
  else
    f_M_bring_22 200000 r0 x1 x2 i2 0 s0
set_option maxHeartbeats 4000000 in
set_option maxRecDepth 100000 in
theorem t_M_bring_143 {K : g_C} {o : (Unit × g_St)} (hK : g_OK K b_M_bring "FixpointEngineModel" "bring" (Option.none : Option Jvm.ClassFile.FieldType)) (hN : g_nL K = 5) (hD : g_Kd K = 5) : ∀ (r0 : Option Nat) (s0 : g_St), f_M_bring_143 r0 s0 = some o → g_W K s0 [(0, g_r 1 r0)] [] 143 (g_jV o) := by
  intro r0 s0 h
  unfold f_M_bring_143 at h
  refine r_aload_n hK d_M_bring_143 rfl 0 rfl ?_
  refine r_gI hK fd_M_77 w7_109 d_M_bring_144 h (fun i1 h => ?_)
  refine r_aload_n hK d_M_bring_147 rfl 0 rfl ?_
  refine r_gI hK fd_M_84 w7_116 d_M_bring_148 h (fun i2 h => ?_)
  refine r_iadd hK d_M_bring_151 ?_
  refine r_aload_n hK d_M_bring_152 rfl 0 rfl ?_
  refine r_gI hK fd_M_85 w7_117 d_M_bring_153 h (fun i3 h => ?_)
  refine r_if_icmpne (tgt := 167) hK d_M_bring_156 (by decide) h (fun h => ?_) (fun h => ?_)
  · refine r_aload_n hK d_M_bring_167 rfl 0 rfl ?_
    refine r_dup hK d_M_bring_168 rfl ?_
    refine r_gI hK fd_M_77 w7_109 d_M_bring_169 h (fun i4 h => ?_)
    refine r_iconst (v := 1) hK d_M_bring_172 (by decide) ?_
    refine r_iadd hK d_M_bring_173 ?_
    refine r_pI hK fd_M_77 rfl w7_109 d_M_bring_174 h (fun s5 h => ?_)
    exact r_return hK d_M_bring_177 h
  · refine r_aload_n hK d_M_bring_159 rfl 0 rfl ?_
    refine r_iconst (v := 4) hK d_M_bring_160 (by decide) ?_
    refine r_pI hK fd_M_0 rfl w7_32 d_M_bring_161 h (fun s6 h => ?_)
    refine r_goto (tgt := 177) hK d_M_bring_164 (by decide) ?_
    exact r_return hK d_M_bring_177 h
set_option maxHeartbeats 4000000 in
set_option maxRecDepth 100000 in
theorem t_M_bring_22 {K : g_C} {o : (Unit × g_St)} (hK : g_OK K b_M_bring "FixpointEngineModel" "bring" (Option.none : Option Jvm.ClassFile.FieldType)) (hN : g_nL K = 5) (hD : g_Kd K = 5) : ∀ (n : Nat) (r0 : Option Nat) (x1 : Int32) (x2 : Int32) (x3 : Int32) (x4 : Int32) (s0 : g_St), f_M_bring_22 n r0 x1 x2 x3 x4 s0 = some o → g_W K s0 [(0, g_r 1 r0), (1, g_i x1), (2, g_i x2), (3, g_i x3), (4, g_i x4)] [] 22 (g_jV o) := by
  intro n
  induction n with
  | zero =>
    intro r0 x1 x2 x3 x4 s0 h
    cases h
  | succ n ih =>
    intro r0 x1 x2 x3 x4 s0 h
    unfold f_M_bring_22 at h
    refine r_iload hK d_M_bring_22 4 rfl ?_
    refine r_aload_n hK d_M_bring_24 rfl 0 rfl ?_
    refine r_gR hK fd_M_38 w7_70 d_M_bring_25 h (fun p1 h => ?_)
    refine r_iload_n hK d_M_bring_28 rfl 1 rfl ?_
    refine r_iaload hK ar_20 rfl d_M_bring_29 h (fun i2 h => ?_)
    refine r_if_icmpge (tgt := 79) hK d_M_bring_30 (by decide) h (fun h => ?_) (fun h => ?_)
    · refine r_aload_n hK d_M_bring_79 rfl 0 rfl ?_
      refine r_gR hK fd_M_78 w7_110 d_M_bring_80 h (fun p3 h => ?_)
      refine r_aload_n hK d_M_bring_83 rfl 0 rfl ?_
      refine r_gI hK fd_M_77 w7_109 d_M_bring_84 h (fun i4 h => ?_)
      refine r_iload_n hK d_M_bring_87 rfl 3 rfl ?_
      refine r_iastore hK ar_20 rfl d_M_bring_88 h (fun s5 h => ?_)
      refine r_aload_n hK d_M_bring_89 rfl 0 rfl ?_
      refine r_gR hK fd_M_80 w7_112 d_M_bring_90 h (fun p6 h => ?_)
      refine r_aload_n hK d_M_bring_93 rfl 0 rfl ?_
      refine r_gI hK fd_M_77 w7_109 d_M_bring_94 h (fun i7 h => ?_)
      refine r_iconst (v := 0) hK d_M_bring_97 (by decide) ?_
      refine r_iastore hK ar_20 rfl d_M_bring_98 h (fun s8 h => ?_)
      refine r_aload_n hK d_M_bring_99 rfl 0 rfl ?_
      refine r_gR hK fd_M_82 w7_114 d_M_bring_100 h (fun p9 h => ?_)
      refine r_aload_n hK d_M_bring_103 rfl 0 rfl ?_
      refine r_gI hK fd_M_77 w7_109 d_M_bring_104 h (fun i10 h => ?_)
      refine r_iconst (v := 0) hK d_M_bring_107 (by decide) ?_
      refine r_iastore hK ar_20 rfl d_M_bring_108 h (fun s11 h => ?_)
      refine r_aload_n hK d_M_bring_109 rfl 0 rfl ?_
      refine r_iload_n hK d_M_bring_110 rfl 1 rfl ?_
      refine r_iload_n hK d_M_bring_111 rfl 3 rfl ?_
      refine r_Vv (avL := [g_i x1, g_i x3]) (st := []) hK ob_M rfl w9_191 wp_72 w9_189 w9_192 w1_6 (by decide) pl_M_lengthen (by rw [hD]; decide) (Nat.le_of_ble_eq_true rfl) rfl d_M_bring_112 (fun o9 h9 => c_M_lengthen _ _ _ _ _ _ o9 h9) h (fun s13 h => ?_)
      refine r_aload_n hK d_M_bring_115 rfl 0 rfl ?_
      refine r_gR hK fd_M_30 w7_62 d_M_bring_116 h (fun p14 h => ?_)
      refine r_iload_n hK d_M_bring_119 rfl 3 rfl ?_
      refine r_zaload hK ar_31 rfl d_M_bring_120 h (fun i15 h => ?_)
      refine r_ifne (tgt := 143) hK d_M_bring_121 (by decide) h (fun h => ?_) (fun h => ?_)
      · exact r_sub [0] rfl (t_M_bring_143 hK hN hD _ _ h)
      · refine r_aload_n hK d_M_bring_124 rfl 0 rfl ?_
        refine r_gR hK fd_M_32 w7_64 d_M_bring_125 h (fun p16 h => ?_)
        refine r_iload_n hK d_M_bring_128 rfl 3 rfl ?_
        refine r_iaload hK ar_20 rfl d_M_bring_129 h (fun i17 h => ?_)
        refine r_iconst (v := 1) hK d_M_bring_130 (by decide) ?_
        refine r_if_icmple (tgt := 143) hK d_M_bring_131 (by decide) h (fun h => ?_) (fun h => ?_)
        · exact r_sub [0] rfl (t_M_bring_143 hK hN hD _ _ h)
        · refine r_aload_n hK d_M_bring_134 rfl 0 rfl ?_
          refine r_iload_n hK d_M_bring_135 rfl 3 rfl ?_
          refine r_Vi (avL := [g_i x3]) (st := []) hK ob_M rfl w9_199 wp_74 w9_197 w9_200 w1_6 (by decide) pl_M_isThere (by rw [hD]; decide) (Nat.le_of_ble_eq_true rfl) rfl d_M_bring_136 (fun o9 h9 => c_M_isThere _ _ _ _ _ o9 h9) h (fun i18 s19 h => ?_)
          refine r_ifeq (tgt := 143) hK d_M_bring_139 (by decide) h (fun h => ?_) (fun h => ?_)
          · exact r_sub [0] rfl (t_M_bring_143 hK hN hD _ _ h)
          · exact r_return hK d_M_bring_142 h
    · refine r_aload_n hK d_M_bring_33 rfl 0 rfl ?_
      refine r_gR hK fd_M_79 w7_111 d_M_bring_34 h (fun p20 h => ?_)
      refine r_iconst (v := 4) hK d_M_bring_37 (by decide) ?_
      refine r_aload_n hK d_M_bring_38 rfl 0 rfl ?_
      refine r_gI hK fd_M_77 w7_109 d_M_bring_39 h (fun i21 h => ?_)
      refine r_imul hK d_M_bring_42 ?_
      refine r_iload hK d_M_bring_43 4 rfl ?_
      refine r_iadd hK d_M_bring_45 ?_
      refine r_iload_n hK d_M_bring_46 rfl 2 rfl ?_
      refine r_iconst (v := (-1)) hK d_M_bring_47 (by decide) ?_
      refine r_if_icmpne (tgt := 61) hK d_M_bring_48 (by decide) h (fun h => ?_) (fun h => ?_)
      · refine r_aload_n hK d_M_bring_61 rfl 0 rfl ?_
        refine r_gR hK fd_M_100 w7_132 d_M_bring_62 h (fun p22 h => ?_)
        refine r_iconst (v := 4) hK d_M_bring_65 (by decide) ?_
        refine r_iload_n hK d_M_bring_66 rfl 2 rfl ?_
        refine r_imul hK d_M_bring_67 ?_
        refine r_iload hK d_M_bring_68 4 rfl ?_
        refine r_iadd hK d_M_bring_70 ?_
        refine r_laload hK ar_21 rfl d_M_bring_71 h (fun j23 h => ?_)
        refine r_lastore hK ar_21 rfl d_M_bring_72 h (fun s24 h => ?_)
        refine r_iinc (ls1 := [(4, g_i (x4 + 1)), (0, g_r 1 r0), (1, g_i x1), (2, g_i x2), (3, g_i x3)]) hK d_M_bring_73 4 rfl rfl (by rw [hN]; decide) rfl ?_
        refine r_goto (tgt := 22) hK d_M_bring_76 (by decide) ?_
        exact r_sub [1, 2, 3, 4, 0] rfl (ih _ _ _ _ _ _ h)
      · refine r_aload_n hK d_M_bring_51 rfl 0 rfl ?_
        refine r_iload_n hK d_M_bring_52 rfl 1 rfl ?_
        refine r_iload hK d_M_bring_53 4 rfl ?_
        refine r_Vl (avL := [g_i x1, g_i x4]) (st := [g_i ((4 * i21) + x4), g_r 21 p20]) hK ob_M rfl w9_147 wp_63 w9_145 w9_148 w1_6 (by decide) pl_M_itemOf (by rw [hD]; decide) (Nat.le_of_ble_eq_true rfl) rfl d_M_bring_55 (fun o9 h9 => c_M_itemOf _ _ _ _ _ _ o9 h9) h (fun j25 s26 h => ?_)
        refine r_goto (tgt := 72) hK d_M_bring_58 (by decide) ?_
        refine r_lastore hK ar_21 rfl d_M_bring_72 h (fun s27 h => ?_)
        refine r_iinc (ls1 := [(4, g_i (x4 + 1)), (0, g_r 1 r0), (1, g_i x1), (2, g_i x2), (3, g_i x3)]) hK d_M_bring_73 4 rfl rfl (by rw [hN]; decide) rfl ?_
        refine r_goto (tgt := 22) hK d_M_bring_76 (by decide) ?_
        exact r_sub [1, 2, 3, 4, 0] rfl (ih _ _ _ _ _ _ h)
set_option maxHeartbeats 4000000 in
set_option maxRecDepth 100000 in
theorem t_M_bring_0 {K : g_C} {o : (Unit × g_St)} (hK : g_OK K b_M_bring "FixpointEngineModel" "bring" (Option.none : Option Jvm.ClassFile.FieldType)) (hN : g_nL K = 5) (hD : g_Kd K = 5) : ∀ (r0 : Option Nat) (x1 : Int32) (x2 : Int32) (s0 : g_St), f_M_bring r0 x1 x2 s0 = some o → g_W K s0 [(0, g_r 1 r0), (1, g_i x1), (2, g_i x2)] [] 0 (g_jV o) := by
  intro r0 x1 x2 s0 h
  unfold f_M_bring at h
  refine r_aload_n hK d_M_bring_0 rfl 0 rfl ?_
  refine r_gR hK fd_M_35 w7_67 d_M_bring_1 h (fun p1 h => ?_)
  refine r_iload_n hK d_M_bring_4 rfl 1 rfl ?_
  refine r_iaload hK ar_20 rfl d_M_bring_5 h (fun i2 h => ?_)
  refine r_istore_n (ls1 := [(3, g_i i2), (0, g_r 1 r0), (1, g_i x1), (2, g_i x2)]) hK d_M_bring_6 rfl (by rw [hN]; decide) rfl ?_
  refine r_iload_n hK d_M_bring_7 rfl 0 rfl ?_
  refine r_iconst (v := 4) hK d_M_bring_8 (by decide) ?_
  refine r_if_icmpne (tgt := 19) hK d_M_bring_9 (by decide) h (fun h => ?_) (fun h => ?_)
  · refine r_iconst (v := 0) hK d_M_bring_19 (by decide) ?_
    refine r_istore (ls1 := [(4, g_i 0), (3, g_i i2), (0, g_r 1 r0), (1, g_i x1), (2, g_i x2)]) hK d_M_bring_20 (by rw [hN]; decide) rfl ?_
    exact r_sub [2, 3, 4, 1, 0] rfl (t_M_bring_22 hK hN hD _ _ _ _ _ _ _ h)
  · refine r_aload_n hK d_M_bring_12 rfl 1 rfl ?_
    refine r_iload_n hK d_M_bring_13 rfl 2 rfl ?_
    refine r_iload_n hK d_M_bring_14 rfl 3 rfl ?_
    refine r_Vv (avL := [g_i x1, g_i x2]) (st := []) hK ob_M rfl w9_187 wp_71 w9_185 w9_188 w1_6 (by decide) pl_M_bringAnswer (by rw [hD]; decide) (Nat.le_of_ble_eq_true rfl) rfl d_M_bring_15 (fun o9 h9 => c_M_bringAnswer _ _ _ _ _ _ o9 h9) h (fun s4 h => ?_)
    exact r_return hK d_M_bring_18 h
theorem c_M_bring (l : Launch) (G : g_G) (r0 : Option Nat) (x1 : Int32) (x2 : Int32) (u : g_St) (o : (Unit × g_St)) (h : f_M_bring r0 x1 x2 u = some o) : g_Con l G y_M_bring b_M_bring 5 (Option.none : Option Jvm.ClassFile.FieldType) 5 [g_r 1 r0, g_i x1, g_i x2] u (g_jV o) :=
  g_Con.of rfl rfl (by decide +kernel) (Nat.le_of_ble_eq_true rfl) (fun K hK hN hD hX => t_M_bring_0 hK hN hD _ _ _ _ h)
def f_M_workOut_190 (k164 : Option Nat → Int32 → Int32 → g_St → Option (Unit × g_St)) (r0 : Option Nat) (x1 : Int32) (s0 : g_St) : Option (Unit × g_St) :=
  g_c (g_nn r0 (f_M_next r0 x1 s0)) fun i1 s2 =>
  k164 r0 x1 i1 s2
def f_M_workOut_164 : Nat → Option Nat → Int32 → Int32 → g_St → Option (Unit × g_St)
  | 0, _, _, _, _ => none
  | n + 1, r0, x1, x5, s0 =>
    if x5 = 0 then
      some ((), s0)
    else
      g_gI s0 1 r0 fun i1 =>
      if i1 = 0 then
        g_c (g_nn r0 (f_M_matches r0 x1 s0)) fun i2 s3 =>
        if i2 = 0 then
          f_M_workOut_190 (f_M_workOut_164 n) r0 x1 s3
        else
          g_c (g_nn r0 (f_M_bring r0 x1 (-1) s3)) fun _ s5 =>
          f_M_workOut_190 (f_M_workOut_164 n) r0 x1 s5
      else
        some ((), s0)
def f_M_workOut_127 : Nat → Option Nat → Int32 → Int32 → g_St → Option (Unit × g_St)
  | 0, _, _, _, _ => none
  | n + 1, r0, x1, x5, s0 =>
    g_gI s0 6337 r0 fun i1 =>
    if i1 ≤ x5 then
      some ((), s0)
    else
      g_gI s0 1 r0 fun i2 =>
      if i2 = 0 then
        g_c (g_nn r0 (f_M_bring r0 x1 x5 s0)) fun _ s4 =>
        f_M_workOut_127 n r0 x1 (x5 + 1) s4
      else
        some ((), s0)
def f_M_workOut_88 (k16 : Option Nat → Int32 → Int32 → g_St → Option (Unit × g_St)) (r0 : Option Nat) (x1 : Int32) (s0 : g_St) : Option (Unit × g_St) :=
  g_c (g_nn r0 (f_M_next r0 x1 s0)) fun i1 s2 =>
  k16 r0 x1 i1 s2
def f_M_workOut_35 (k16 : Option Nat → Int32 → Int32 → g_St → Option (Unit × g_St)) : Nat → Option Nat → Int32 → Int32 → g_St → Option (Unit × g_St)
  | 0, _, _, _, _ => none
  | n + 1, r0, x1, x6, s0 =>
    g_gR s0 2433 r0 fun p1 =>
    g_aI s0 p1 x1 fun i2 =>
    if i2 ≤ x6 then
      g_gI s0 1 r0 fun i3 =>
      if i3 ≤ 0 then
        f_M_workOut_88 k16 r0 x1 s0
      else
        some ((), s0)
    else
      g_c (g_nn r0 (f_M_kindOf r0 x1 x6 s0)) fun i4 s5 =>
      if i4 = 0 then
        g_c (g_nn r0 (f_M_itemOf r0 x1 x6 s5)) fun j6 s7 =>
        g_c (f_M_fits j6 s7) fun i8 s9 =>
        if i8 = 0 then
          g_pI s9 1 r0 3 fun s10 =>
          f_M_workOut_35 k16 n r0 x1 (x6 + 1) s10
        else
          f_M_workOut_35 k16 n r0 x1 (x6 + 1) s9
      else
        f_M_workOut_35 k16 n r0 x1 (x6 + 1) s5
def f_M_workOut_16 : Nat → Option Nat → Int32 → Int32 → g_St → Option (Unit × g_St)
  | 0, _, _, _, _ => none
  | n + 1, r0, x1, x5, s0 =>
    if x5 = 0 then
      g_gR s0 2753 r0 fun p1 =>
      g_aI s0 p1 x1 fun i2 =>
      if i2 = 0 then
        g_c (g_nn r0 (f_M_first r0 x1 s0)) fun i3 s4 =>
        f_M_workOut_164 200000 r0 x1 i3 s4
      else
        g_c (g_nn r0 (f_M_makeGroups r0 x1 s0)) fun _ s6 =>
        g_gI s6 1 r0 fun i7 =>
        if i7 = 0 then
          g_c (g_nn r0 (f_M_checkGroups r0 x1 s6)) fun _ s9 =>
          f_M_workOut_127 200000 r0 x1 0 s9
        else
          f_M_workOut_127 200000 r0 x1 0 s6
    else
      g_c (g_nn r0 (f_M_matches r0 x1 s0)) fun i10 s11 =>
      if i10 = 0 then
        f_M_workOut_88 (f_M_workOut_16 n) r0 x1 s11
      else
        f_M_workOut_35 (f_M_workOut_16 n) 200000 r0 x1 0 s11
def f_M_workOut (r0 : Option Nat) (x1 : Int32) (x2 : Int32) (x3 : Int32) (x4 : Int32) (s0 : g_St) : Option (Unit × g_St) :=
  g_c (g_nn r0 (f_M_gather r0 x1 x2 x3 x4 s0)) fun _ s2 =>
  g_c (g_nn r0 (f_M_first r0 x1 s2)) fun i3 s4 =>
  f_M_workOut_16 200000 r0 x1 i3 s4
set_option maxHeartbeats 4000000 in
set_option maxRecDepth 100000 in
theorem t_M_workOut_190 {K : g_C} {o : (Unit × g_St)} (hK : g_OK K b_M_workOut "FixpointEngineModel" "workOut" (Option.none : Option Jvm.ClassFile.FieldType)) (hN : g_nL K = 7) (hD : g_Kd K = 8) {k164 : Option Nat → Int32 → Int32 → g_St → Option (Unit × g_St)} (hk164 : ∀ (r0 : Option Nat) (x1 : Int32) (x5 : Int32) (s0 : g_St), k164 r0 x1 x5 s0 = some o → g_W K s0 [(0, g_r 1 r0), (1, g_i x1), (5, g_i x5)] [] 164 (g_jV o)) : ∀ (r0 : Option Nat) (x1 : Int32) (s0 : g_St), f_M_workOut_190 k164 r0 x1 s0 = some o → g_W K s0 [(0, g_r 1 r0), (1, g_i x1)] [] 190 (g_jV o) := by
  intro r0 x1 s0 h
  unfold f_M_workOut_190 at h
  refine r_aload_n hK d_M_workOut_190 rfl 0 rfl ?_
  refine r_iload_n hK d_M_workOut_191 rfl 1 rfl ?_
  refine r_Vi (avL := [g_i x1]) (st := []) hK ob_M rfl w9_159 wp_64 w9_157 w9_160 w1_6 (by decide) pl_M_next (by rw [hD]; decide) (Nat.le_of_ble_eq_true rfl) rfl d_M_workOut_192 (fun o9 h9 => c_M_next _ _ _ _ _ o9 h9) h (fun i1 s2 h => ?_)
  refine r_istore (ls1 := [(5, g_i i1), (0, g_r 1 r0), (1, g_i x1)]) hK d_M_workOut_195 (by rw [hN]; decide) rfl ?_
  refine r_goto (tgt := 164) hK d_M_workOut_197 (by decide) ?_
  exact r_sub [1, 2, 0] rfl (hk164 _ _ _ _ h)
set_option maxHeartbeats 4000000 in
set_option maxRecDepth 100000 in
theorem t_M_workOut_164 {K : g_C} {o : (Unit × g_St)} (hK : g_OK K b_M_workOut "FixpointEngineModel" "workOut" (Option.none : Option Jvm.ClassFile.FieldType)) (hN : g_nL K = 7) (hD : g_Kd K = 8) : ∀ (n : Nat) (r0 : Option Nat) (x1 : Int32) (x5 : Int32) (s0 : g_St), f_M_workOut_164 n r0 x1 x5 s0 = some o → g_W K s0 [(0, g_r 1 r0), (1, g_i x1), (5, g_i x5)] [] 164 (g_jV o) := by
  intro n
  induction n with
  | zero =>
    intro r0 x1 x5 s0 h
    cases h
  | succ n ih =>
    intro r0 x1 x5 s0 h
    unfold f_M_workOut_164 at h
    refine r_iload hK d_M_workOut_164 2 rfl ?_
    refine r_ifeq (tgt := 200) hK d_M_workOut_166 (by decide) h (fun h => ?_) (fun h => ?_)
    · exact r_return hK d_M_workOut_200 h
    · refine r_aload_n hK d_M_workOut_169 rfl 0 rfl ?_
      refine r_gI hK fd_M_0 w7_32 d_M_workOut_170 h (fun i1 h => ?_)
      refine r_ifne (tgt := 200) hK d_M_workOut_173 (by decide) h (fun h => ?_) (fun h => ?_)
      · exact r_return hK d_M_workOut_200 h
      · refine r_aload_n hK d_M_workOut_176 rfl 0 rfl ?_
        refine r_iload_n hK d_M_workOut_177 rfl 1 rfl ?_
        refine r_Vi (avL := [g_i x1]) (st := []) hK ob_M rfl w9_119 wp_56 w9_117 w9_120 w1_6 (by decide) pl_M_matches (by rw [hD]; decide) (Nat.le_of_ble_eq_true rfl) rfl d_M_workOut_178 (fun o9 h9 => c_M_matches _ _ _ _ _ o9 h9) h (fun i2 s3 h => ?_)
        refine r_ifeq (tgt := 190) hK d_M_workOut_181 (by decide) h (fun h => ?_) (fun h => ?_)
        · exact r_sub [0, 1] rfl (t_M_workOut_190 hK hN hD ih _ _ _ h)
        · refine r_aload_n hK d_M_workOut_184 rfl 0 rfl ?_
          refine r_iload_n hK d_M_workOut_185 rfl 1 rfl ?_
          refine r_iconst (v := (-1)) hK d_M_workOut_186 (by decide) ?_
          refine r_Vv (avL := [g_i x1, g_i (-1)]) (st := []) hK ob_M rfl w9_183 wp_70 w9_181 w9_184 w1_6 (by decide) pl_M_bring (by rw [hD]; decide) (Nat.le_of_ble_eq_true rfl) rfl d_M_workOut_187 (fun o9 h9 => c_M_bring _ _ _ _ _ _ o9 h9) h (fun s5 h => ?_)
          exact r_sub [0, 1] rfl (t_M_workOut_190 hK hN hD ih _ _ _ h)
set_option maxHeartbeats 4000000 in
set_option maxRecDepth 100000 in
theorem t_M_workOut_127 {K : g_C} {o : (Unit × g_St)} (hK : g_OK K b_M_workOut "FixpointEngineModel" "workOut" (Option.none : Option Jvm.ClassFile.FieldType)) (hN : g_nL K = 7) (hD : g_Kd K = 8) : ∀ (n : Nat) (r0 : Option Nat) (x1 : Int32) (x5 : Int32) (s0 : g_St), f_M_workOut_127 n r0 x1 x5 s0 = some o → g_W K s0 [(0, g_r 1 r0), (1, g_i x1), (5, g_i x5)] [] 127 (g_jV o) := by
  intro n
  induction n with
  | zero =>
    intro r0 x1 x5 s0 h
    cases h
  | succ n ih =>
    intro r0 x1 x5 s0 h
    unfold f_M_workOut_127 at h
    refine r_iload hK d_M_workOut_127 2 rfl ?_
    refine r_aload_n hK d_M_workOut_129 rfl 0 rfl ?_
    refine r_gI hK fd_M_99 w7_131 d_M_workOut_130 h (fun i1 h => ?_)
    refine r_if_icmpge (tgt := 156) hK d_M_workOut_133 (by decide) h (fun h => ?_) (fun h => ?_)
    · exact r_return hK d_M_workOut_156 h
    · refine r_aload_n hK d_M_workOut_136 rfl 0 rfl ?_
      refine r_gI hK fd_M_0 w7_32 d_M_workOut_137 h (fun i2 h => ?_)
      refine r_ifne (tgt := 156) hK d_M_workOut_140 (by decide) h (fun h => ?_) (fun h => ?_)
      · exact r_return hK d_M_workOut_156 h
      · refine r_aload_n hK d_M_workOut_143 rfl 0 rfl ?_
        refine r_iload_n hK d_M_workOut_144 rfl 1 rfl ?_
        refine r_iload hK d_M_workOut_145 2 rfl ?_
        refine r_Vv (avL := [g_i x1, g_i x5]) (st := []) hK ob_M rfl w9_183 wp_70 w9_181 w9_184 w1_6 (by decide) pl_M_bring (by rw [hD]; decide) (Nat.le_of_ble_eq_true rfl) rfl d_M_workOut_147 (fun o9 h9 => c_M_bring _ _ _ _ _ _ o9 h9) h (fun s4 h => ?_)
        refine r_iinc (ls1 := [(5, g_i (x5 + 1)), (0, g_r 1 r0), (1, g_i x1)]) hK d_M_workOut_150 2 rfl rfl (by rw [hN]; decide) rfl ?_
        refine r_goto (tgt := 127) hK d_M_workOut_153 (by decide) ?_
        exact r_sub [1, 2, 0] rfl (ih _ _ _ _ h)
set_option maxHeartbeats 4000000 in
set_option maxRecDepth 100000 in
theorem t_M_workOut_88 {K : g_C} {o : (Unit × g_St)} (hK : g_OK K b_M_workOut "FixpointEngineModel" "workOut" (Option.none : Option Jvm.ClassFile.FieldType)) (hN : g_nL K = 7) (hD : g_Kd K = 8) {k16 : Option Nat → Int32 → Int32 → g_St → Option (Unit × g_St)} (hk16 : ∀ (r0 : Option Nat) (x1 : Int32) (x5 : Int32) (s0 : g_St), k16 r0 x1 x5 s0 = some o → g_W K s0 [(0, g_r 1 r0), (1, g_i x1), (5, g_i x5)] [] 16 (g_jV o)) : ∀ (r0 : Option Nat) (x1 : Int32) (s0 : g_St), f_M_workOut_88 k16 r0 x1 s0 = some o → g_W K s0 [(0, g_r 1 r0), (1, g_i x1)] [] 88 (g_jV o) := by
  intro r0 x1 s0 h
  unfold f_M_workOut_88 at h
  refine r_aload_n hK d_M_workOut_88 rfl 0 rfl ?_
  refine r_iload_n hK d_M_workOut_89 rfl 1 rfl ?_
  refine r_Vi (avL := [g_i x1]) (st := []) hK ob_M rfl w9_159 wp_64 w9_157 w9_160 w1_6 (by decide) pl_M_next (by rw [hD]; decide) (Nat.le_of_ble_eq_true rfl) rfl d_M_workOut_90 (fun o9 h9 => c_M_next _ _ _ _ _ o9 h9) h (fun i1 s2 h => ?_)
  refine r_istore (ls1 := [(5, g_i i1), (0, g_r 1 r0), (1, g_i x1)]) hK d_M_workOut_93 (by rw [hN]; decide) rfl ?_
  refine r_goto (tgt := 16) hK d_M_workOut_95 (by decide) ?_
  exact r_sub [1, 2, 0] rfl (hk16 _ _ _ _ h)
set_option maxHeartbeats 4000000 in
set_option maxRecDepth 100000 in
theorem t_M_workOut_35 {K : g_C} {o : (Unit × g_St)} (hK : g_OK K b_M_workOut "FixpointEngineModel" "workOut" (Option.none : Option Jvm.ClassFile.FieldType)) (hN : g_nL K = 7) (hD : g_Kd K = 8) {k16 : Option Nat → Int32 → Int32 → g_St → Option (Unit × g_St)} (hk16 : ∀ (r0 : Option Nat) (x1 : Int32) (x5 : Int32) (s0 : g_St), k16 r0 x1 x5 s0 = some o → g_W K s0 [(0, g_r 1 r0), (1, g_i x1), (5, g_i x5)] [] 16 (g_jV o)) : ∀ (n : Nat) (r0 : Option Nat) (x1 : Int32) (x6 : Int32) (s0 : g_St), f_M_workOut_35 k16 n r0 x1 x6 s0 = some o → g_W K s0 [(0, g_r 1 r0), (1, g_i x1), (6, g_i x6)] [] 35 (g_jV o) := by
  intro n
  induction n with
  | zero =>
    intro r0 x1 x6 s0 h
    cases h
  | succ n ih =>
    intro r0 x1 x6 s0 h
    unfold f_M_workOut_35 at h
    refine r_iload hK d_M_workOut_35 2 rfl ?_
    refine r_aload_n hK d_M_workOut_37 rfl 0 rfl ?_
    refine r_gR hK fd_M_38 w7_70 d_M_workOut_38 h (fun p1 h => ?_)
    refine r_iload_n hK d_M_workOut_41 rfl 1 rfl ?_
    refine r_iaload hK ar_20 rfl d_M_workOut_42 h (fun i2 h => ?_)
    refine r_if_icmpge (tgt := 80) hK d_M_workOut_43 (by decide) h (fun h => ?_) (fun h => ?_)
    · refine r_aload_n hK d_M_workOut_80 rfl 0 rfl ?_
      refine r_gI hK fd_M_0 w7_32 d_M_workOut_81 h (fun i3 h => ?_)
      refine r_ifle (tgt := 88) hK d_M_workOut_84 (by decide) h (fun h => ?_) (fun h => ?_)
      · exact r_sub [0, 1] rfl (t_M_workOut_88 hK hN hD hk16 _ _ _ h)
      · exact r_return hK d_M_workOut_87 h
    · refine r_aload_n hK d_M_workOut_46 rfl 0 rfl ?_
      refine r_iload_n hK d_M_workOut_47 rfl 1 rfl ?_
      refine r_iload hK d_M_workOut_48 2 rfl ?_
      refine r_Vi (avL := [g_i x1, g_i x6]) (st := []) hK ob_M rfl w9_143 wp_62 w9_141 w9_144 w1_6 (by decide) pl_M_kindOf (by rw [hD]; decide) (Nat.le_of_ble_eq_true rfl) rfl d_M_workOut_50 (fun o9 h9 => c_M_kindOf _ _ _ _ _ _ o9 h9) h (fun i4 s5 h => ?_)
      refine r_ifne (tgt := 74) hK d_M_workOut_53 (by decide) h (fun h => ?_) (fun h => ?_)
      · refine r_iinc (ls1 := [(6, g_i (x6 + 1)), (0, g_r 1 r0), (1, g_i x1)]) hK d_M_workOut_74 2 rfl rfl (by rw [hN]; decide) rfl ?_
        refine r_goto (tgt := 35) hK d_M_workOut_77 (by decide) ?_
        exact r_sub [1, 2, 0] rfl (ih _ _ _ _ h)
      · refine r_aload_n hK d_M_workOut_56 rfl 0 rfl ?_
        refine r_iload_n hK d_M_workOut_57 rfl 1 rfl ?_
        refine r_iload hK d_M_workOut_58 2 rfl ?_
        refine r_Vl (avL := [g_i x1, g_i x6]) (st := []) hK ob_M rfl w9_147 wp_63 w9_145 w9_148 w1_6 (by decide) pl_M_itemOf (by rw [hD]; decide) (Nat.le_of_ble_eq_true rfl) rfl d_M_workOut_60 (fun o9 h9 => c_M_itemOf _ _ _ _ _ _ o9 h9) h (fun j6 s7 h => ?_)
        refine r_Si (avL := [g_l j6]) (st := []) hK w9_150 w9_149 w9_151 w1_6 (by decide) pl_M_fits (by rw [hD]; decide) (Nat.le_of_ble_eq_true rfl) rfl d_M_workOut_63 (fun o9 h9 => c_M_fits _ _ _ _ o9 h9) h (fun i8 s9 h => ?_)
        refine r_ifne (tgt := 74) hK d_M_workOut_66 (by decide) h (fun h => ?_) (fun h => ?_)
        · refine r_iinc (ls1 := [(6, g_i (x6 + 1)), (0, g_r 1 r0), (1, g_i x1)]) hK d_M_workOut_74 2 rfl rfl (by rw [hN]; decide) rfl ?_
          refine r_goto (tgt := 35) hK d_M_workOut_77 (by decide) ?_
          exact r_sub [1, 2, 0] rfl (ih _ _ _ _ h)
        · refine r_aload_n hK d_M_workOut_69 rfl 0 rfl ?_
          refine r_iconst (v := 3) hK d_M_workOut_70 (by decide) ?_
          refine r_pI hK fd_M_0 rfl w7_32 d_M_workOut_71 h (fun s10 h => ?_)
          refine r_iinc (ls1 := [(6, g_i (x6 + 1)), (0, g_r 1 r0), (1, g_i x1)]) hK d_M_workOut_74 2 rfl rfl (by rw [hN]; decide) rfl ?_
          refine r_goto (tgt := 35) hK d_M_workOut_77 (by decide) ?_
          exact r_sub [1, 2, 0] rfl (ih _ _ _ _ h)
set_option maxHeartbeats 4000000 in
set_option maxRecDepth 100000 in
theorem t_M_workOut_16 {K : g_C} {o : (Unit × g_St)} (hK : g_OK K b_M_workOut "FixpointEngineModel" "workOut" (Option.none : Option Jvm.ClassFile.FieldType)) (hN : g_nL K = 7) (hD : g_Kd K = 8) : ∀ (n : Nat) (r0 : Option Nat) (x1 : Int32) (x5 : Int32) (s0 : g_St), f_M_workOut_16 n r0 x1 x5 s0 = some o → g_W K s0 [(0, g_r 1 r0), (1, g_i x1), (5, g_i x5)] [] 16 (g_jV o) := by
  intro n
  induction n with
  | zero =>
    intro r0 x1 x5 s0 h
    cases h
  | succ n ih =>
    intro r0 x1 x5 s0 h
    unfold f_M_workOut_16 at h
    refine r_iload hK d_M_workOut_16 2 rfl ?_
    refine r_ifeq (tgt := 98) hK d_M_workOut_18 (by decide) h (fun h => ?_) (fun h => ?_)
    · refine r_aload_n hK d_M_workOut_98 rfl 0 rfl ?_
      refine r_gR hK fd_M_43 w7_75 d_M_workOut_99 h (fun p1 h => ?_)
      refine r_iload_n hK d_M_workOut_102 rfl 1 rfl ?_
      refine r_zaload hK ar_31 rfl d_M_workOut_103 h (fun i2 h => ?_)
      refine r_ifeq (tgt := 157) hK d_M_workOut_104 (by decide) h (fun h => ?_) (fun h => ?_)
      · refine r_aload_n hK d_M_workOut_157 rfl 0 rfl ?_
        refine r_iload_n hK d_M_workOut_158 rfl 1 rfl ?_
        refine r_Vi (avL := [g_i x1]) (st := []) hK ob_M rfl w9_115 wp_55 w9_113 w9_116 w1_6 (by decide) pl_M_first (by rw [hD]; decide) (Nat.le_of_ble_eq_true rfl) rfl d_M_workOut_159 (fun o9 h9 => c_M_first _ _ _ _ _ o9 h9) h (fun i3 s4 h => ?_)
        refine r_istore (ls1 := [(5, g_i i3), (0, g_r 1 r0), (1, g_i x1)]) hK d_M_workOut_162 (by rw [hN]; decide) rfl ?_
        exact r_sub [1, 2, 0] rfl (t_M_workOut_164 hK hN hD _ _ _ _ _ h)
      · refine r_aload_n hK d_M_workOut_107 rfl 0 rfl ?_
        refine r_iload_n hK d_M_workOut_108 rfl 1 rfl ?_
        refine r_Vv (avL := [g_i x1]) (st := []) hK ob_M rfl w9_163 wp_65 w9_161 w9_164 w1_6 (by decide) pl_M_makeGroups (by rw [hD]; decide) (Nat.le_of_ble_eq_true rfl) rfl d_M_workOut_109 (fun o9 h9 => c_M_makeGroups _ _ _ _ _ o9 h9) h (fun s6 h => ?_)
        refine r_aload_n hK d_M_workOut_112 rfl 0 rfl ?_
        refine r_gI hK fd_M_0 w7_32 d_M_workOut_113 h (fun i7 h => ?_)
        refine r_ifne (tgt := 124) hK d_M_workOut_116 (by decide) h (fun h => ?_) (fun h => ?_)
        · refine r_iconst (v := 0) hK d_M_workOut_124 (by decide) ?_
          refine r_istore (ls1 := [(5, g_i 0), (0, g_r 1 r0), (1, g_i x1)]) hK d_M_workOut_125 (by rw [hN]; decide) rfl ?_
          exact r_sub [1, 2, 0] rfl (t_M_workOut_127 hK hN hD _ _ _ _ _ h)
        · refine r_aload_n hK d_M_workOut_119 rfl 0 rfl ?_
          refine r_iload_n hK d_M_workOut_120 rfl 1 rfl ?_
          refine r_Vv (avL := [g_i x1]) (st := []) hK ob_M rfl w9_179 wp_69 w9_177 w9_180 w1_6 (by decide) pl_M_checkGroups (by rw [hD]; decide) (Nat.le_of_ble_eq_true rfl) rfl d_M_workOut_121 (fun o9 h9 => c_M_checkGroups _ _ _ _ _ o9 h9) h (fun s9 h => ?_)
          refine r_iconst (v := 0) hK d_M_workOut_124 (by decide) ?_
          refine r_istore (ls1 := [(5, g_i 0), (0, g_r 1 r0), (1, g_i x1)]) hK d_M_workOut_125 (by rw [hN]; decide) rfl ?_
          exact r_sub [1, 2, 0] rfl (t_M_workOut_127 hK hN hD _ _ _ _ _ h)
    · refine r_aload_n hK d_M_workOut_21 rfl 0 rfl ?_
      refine r_iload_n hK d_M_workOut_22 rfl 1 rfl ?_
      refine r_Vi (avL := [g_i x1]) (st := []) hK ob_M rfl w9_119 wp_56 w9_117 w9_120 w1_6 (by decide) pl_M_matches (by rw [hD]; decide) (Nat.le_of_ble_eq_true rfl) rfl d_M_workOut_23 (fun o9 h9 => c_M_matches _ _ _ _ _ o9 h9) h (fun i10 s11 h => ?_)
      refine r_ifne (tgt := 32) hK d_M_workOut_26 (by decide) h (fun h => ?_) (fun h => ?_)
      · refine r_iconst (v := 0) hK d_M_workOut_32 (by decide) ?_
        refine r_istore (ls1 := [(6, g_i 0), (0, g_r 1 r0), (1, g_i x1), (5, g_i x5)]) hK d_M_workOut_33 (by rw [hN]; decide) rfl ?_
        exact r_sub [1, 2, 0] rfl (t_M_workOut_35 hK hN hD ih _ _ _ _ _ h)
      · refine r_goto (tgt := 88) hK d_M_workOut_29 (by decide) ?_
        exact r_sub [0, 1] rfl (t_M_workOut_88 hK hN hD ih _ _ _ h)
set_option maxHeartbeats 4000000 in
set_option maxRecDepth 100000 in
theorem t_M_workOut_0 {K : g_C} {o : (Unit × g_St)} (hK : g_OK K b_M_workOut "FixpointEngineModel" "workOut" (Option.none : Option Jvm.ClassFile.FieldType)) (hN : g_nL K = 7) (hD : g_Kd K = 8) : ∀ (r0 : Option Nat) (x1 : Int32) (x2 : Int32) (x3 : Int32) (x4 : Int32) (s0 : g_St), f_M_workOut r0 x1 x2 x3 x4 s0 = some o → g_W K s0 [(0, g_r 1 r0), (1, g_i x1), (2, g_i x2), (3, g_i x3), (4, g_i x4)] [] 0 (g_jV o) := by
  intro r0 x1 x2 x3 x4 s0 h
  unfold f_M_workOut at h
  refine r_aload_n hK d_M_workOut_0 rfl 0 rfl ?_
  refine r_iload_n hK d_M_workOut_1 rfl 1 rfl ?_
  refine r_iload_n hK d_M_workOut_2 rfl 2 rfl ?_
  refine r_iload_n hK d_M_workOut_3 rfl 3 rfl ?_
  refine r_iload hK d_M_workOut_4 4 rfl ?_
  refine r_Vv (avL := [g_i x1, g_i x2, g_i x3, g_i x4]) (st := []) hK ob_M rfl w9_107 wp_53 w9_105 w9_108 w1_6 (by decide) pl_M_gather (by rw [hD]; decide) (Nat.le_of_ble_eq_true rfl) rfl d_M_workOut_6 (fun o9 h9 => c_M_gather _ _ _ _ _ _ _ _ o9 h9) h (fun s2 h => ?_)
  refine r_aload_n hK d_M_workOut_9 rfl 0 rfl ?_
  refine r_iload_n hK d_M_workOut_10 rfl 1 rfl ?_
  refine r_Vi (avL := [g_i x1]) (st := []) hK ob_M rfl w9_115 wp_55 w9_113 w9_116 w1_6 (by decide) pl_M_first (by rw [hD]; decide) (Nat.le_of_ble_eq_true rfl) rfl d_M_workOut_11 (fun o9 h9 => c_M_first _ _ _ _ _ o9 h9) h (fun i3 s4 h => ?_)
  refine r_istore (ls1 := [(5, g_i i3), (0, g_r 1 r0), (1, g_i x1), (2, g_i x2), (3, g_i x3), (4, g_i x4)]) hK d_M_workOut_14 (by rw [hN]; decide) rfl ?_
  exact r_sub [1, 2, 0] rfl (t_M_workOut_16 hK hN hD _ _ _ _ _ h)
theorem c_M_workOut (l : Launch) (G : g_G) (r0 : Option Nat) (x1 : Int32) (x2 : Int32) (x3 : Int32) (x4 : Int32) (u : g_St) (o : (Unit × g_St)) (h : f_M_workOut r0 x1 x2 x3 x4 u = some o) : g_Con l G y_M_workOut b_M_workOut 7 (Option.none : Option Jvm.ClassFile.FieldType) 8 [g_r 1 r0, g_i x1, g_i x2, g_i x3, g_i x4] u (g_jV o) :=
  g_Con.of rfl rfl (by decide +kernel) (Nat.le_of_ble_eq_true rfl) (fun K hK hN hD hX => t_M_workOut_0 hK hN hD _ _ _ _ _ _ h)
def f_M_compare (y0 : Int64) (y2 : Int64) (s0 : g_St) : Option (Int32 × g_St) :=
  if y0 = y2 then
    some (0, s0)
  else
    if y0 = 1099511627776 then
      some ((-1), s0)
    else
      if y2 = 1099511627776 then
        some (1, s0)
      else
        if y2 ≤ y0 then
          some (1, s0)
        else
          some ((-1), s0)
set_option maxHeartbeats 4000000 in
set_option maxRecDepth 100000 in
theorem t_M_compare_0 {K : g_C} {o : (Int32 × g_St)} (hK : g_OK K b_M_compare "FixpointEngineModel" "compare" (Option.some Jvm.ClassFile.FieldType.int)) (hN : g_nL K = 4) (hD : g_Kd K = 1) : ∀ (y0 : Int64) (y2 : Int64) (s0 : g_St), f_M_compare y0 y2 s0 = some o → g_W K s0 [(0, g_l y0), (2, g_l y2)] [] 0 (g_jI o) := by
  intro y0 y2 s0 h
  unfold f_M_compare at h
  refine r_lload_n hK d_M_compare_0 rfl 0 rfl ?_
  refine r_lload_n hK d_M_compare_1 rfl 1 rfl ?_
  refine r_lifne (tgt := 8) hK d_M_compare_2 d_M_compare_3 (by decide) h (fun h => ?_) (fun h => ?_)
  · refine r_lload_n hK d_M_compare_8 rfl 0 rfl ?_
    refine r_ldc2 hK w8_112 d_M_compare_9 ?_
    refine r_lifne (tgt := 20) hK d_M_compare_12 d_M_compare_13 (by decide) h (fun h => ?_) (fun h => ?_)
    · refine r_lload_n hK d_M_compare_20 rfl 1 rfl ?_
      refine r_ldc2 hK w8_112 d_M_compare_21 ?_
      refine r_lifne (tgt := 32) hK d_M_compare_24 d_M_compare_25 (by decide) h (fun h => ?_) (fun h => ?_)
      · refine r_lload_n hK d_M_compare_32 rfl 0 rfl ?_
        refine r_lload_n hK d_M_compare_33 rfl 1 rfl ?_
        refine r_lifge (tgt := 42) hK d_M_compare_34 d_M_compare_35 (by decide) h (fun h => ?_) (fun h => ?_)
        · refine r_iconst (v := 1) hK d_M_compare_42 (by decide) ?_
          exact r_ireturn hK d_M_compare_43 h
        · refine r_iconst (v := (-1)) hK d_M_compare_38 (by decide) ?_
          refine r_goto (tgt := 43) hK d_M_compare_39 (by decide) ?_
          exact r_ireturn hK d_M_compare_43 h
      · refine r_iconst (v := 1) hK d_M_compare_28 (by decide) ?_
        refine r_goto (tgt := 43) hK d_M_compare_29 (by decide) ?_
        exact r_ireturn hK d_M_compare_43 h
    · refine r_iconst (v := (-1)) hK d_M_compare_16 (by decide) ?_
      refine r_goto (tgt := 43) hK d_M_compare_17 (by decide) ?_
      exact r_ireturn hK d_M_compare_43 h
  · refine r_iconst (v := 0) hK d_M_compare_6 (by decide) ?_
    exact r_ireturn hK d_M_compare_7 h
theorem c_M_compare (l : Launch) (G : g_G) (y0 : Int64) (y2 : Int64) (u : g_St) (o : (Int32 × g_St)) (h : f_M_compare y0 y2 u = some o) : g_Con l G y_M_compare b_M_compare 4 (Option.some Jvm.ClassFile.FieldType.int) 1 [g_l y0, g_l y2] u (g_jI o) :=
  g_Con.of rfl rfl (by decide +kernel) (Nat.le_of_ble_eq_true rfl) (fun K hK hN hD hX => t_M_compare_0 hK hN hD _ _ _ h)
def f_M_compareTrails_140 (x3 : Int32) (x4 : Int32) (s0 : g_St) : Option (Int32 × g_St) :=
  if x4 ≤ x3 then
    if x3 ≤ x4 then
      some (0, s0)
    else
      some (1, s0)
  else
    some ((-1), s0)
def f_M_compareTrails_84 : Nat → Option Nat → Int32 → Int32 → Int32 → Int32 → Int32 → g_St → Option (Int32 × g_St)
  | 0, _, _, _, _, _, _, _ => none
  | n + 1, r0, x1, x2, x3, x4, x5, s0 =>
    if x3 ≤ x5 then
      f_M_compareTrails_140 x3 x4 s0
    else
      if x4 ≤ x5 then
        f_M_compareTrails_140 x3 x4 s0
      else
        g_gR s0 5185 r0 fun p1 =>
        g_aL s0 p1 ((32 * x1) + x5) fun j2 =>
        g_gR s0 5185 r0 fun p3 =>
        g_aL s0 p3 ((32 * x2) + x5) fun j4 =>
        g_c (f_M_compare j2 j4 s0) fun i5 s6 =>
        if i5 = 0 then
          f_M_compareTrails_84 n r0 x1 x2 x3 x4 (x5 + 1) s6
        else
          some (i5, s6)
def f_M_compareTrails (r0 : Option Nat) (x1 : Int32) (x2 : Int32) (s0 : g_St) : Option (Int32 × g_St) :=
  g_gR s0 5121 r0 fun p1 =>
  g_aI s0 p1 x1 fun i2 =>
  g_gR s0 5121 r0 fun p3 =>
  g_aI s0 p3 x2 fun i4 =>
  g_gR s0 1409 r0 fun p5 =>
  g_gR s0 4993 r0 fun p6 =>
  g_aI s0 p6 x1 fun i7 =>
  g_aI s0 p5 i7 fun i8 =>
  if i8 = 2 then
    if i2 = i4 then
      g_gR s0 5185 r0 fun p9 =>
      g_aL s0 p9 (((32 * x1) + i2) - 1) fun j10 =>
      g_gR s0 5185 r0 fun p11 =>
      g_aL s0 p11 (((32 * x2) + i4) - 1) fun j12 =>
      g_c (f_M_compare j10 j12 s0) fun i13 s14 =>
      some (i13, s14)
    else
      if i4 ≤ i2 then
        some (1, s0)
      else
        some ((-1), s0)
  else
    f_M_compareTrails_84 200000 r0 x1 x2 i2 i4 0 s0
set_option maxHeartbeats 4000000 in
set_option maxRecDepth 100000 in
theorem t_M_compareTrails_140 {K : g_C} {o : (Int32 × g_St)} (hK : g_OK K b_M_compareTrails "FixpointEngineModel" "compareTrails" (Option.some Jvm.ClassFile.FieldType.int)) (hN : g_nL K = 7) (hD : g_Kd K = 2) : ∀ (x3 : Int32) (x4 : Int32) (s0 : g_St), f_M_compareTrails_140 x3 x4 s0 = some o → g_W K s0 [(3, g_i x3), (4, g_i x4)] [] 140 (g_jI o) := by
  intro x3 x4 s0 h
  unfold f_M_compareTrails_140 at h
  refine r_iload_n hK d_M_compareTrails_140 rfl 0 rfl ?_
  refine r_iload hK d_M_compareTrails_141 1 rfl ?_
  refine r_if_icmpge (tgt := 150) hK d_M_compareTrails_143 (by decide) h (fun h => ?_) (fun h => ?_)
  · refine r_iload_n hK d_M_compareTrails_150 rfl 0 rfl ?_
    refine r_iload hK d_M_compareTrails_151 1 rfl ?_
    refine r_if_icmple (tgt := 160) hK d_M_compareTrails_153 (by decide) h (fun h => ?_) (fun h => ?_)
    · refine r_iconst (v := 0) hK d_M_compareTrails_160 (by decide) ?_
      exact r_ireturn hK d_M_compareTrails_161 h
    · refine r_iconst (v := 1) hK d_M_compareTrails_156 (by decide) ?_
      refine r_goto (tgt := 161) hK d_M_compareTrails_157 (by decide) ?_
      exact r_ireturn hK d_M_compareTrails_161 h
  · refine r_iconst (v := (-1)) hK d_M_compareTrails_146 (by decide) ?_
    refine r_goto (tgt := 161) hK d_M_compareTrails_147 (by decide) ?_
    exact r_ireturn hK d_M_compareTrails_161 h
set_option maxHeartbeats 4000000 in
set_option maxRecDepth 100000 in
theorem t_M_compareTrails_84 {K : g_C} {o : (Int32 × g_St)} (hK : g_OK K b_M_compareTrails "FixpointEngineModel" "compareTrails" (Option.some Jvm.ClassFile.FieldType.int)) (hN : g_nL K = 7) (hD : g_Kd K = 2) : ∀ (n : Nat) (r0 : Option Nat) (x1 : Int32) (x2 : Int32) (x3 : Int32) (x4 : Int32) (x5 : Int32) (s0 : g_St), f_M_compareTrails_84 n r0 x1 x2 x3 x4 x5 s0 = some o → g_W K s0 [(0, g_r 1 r0), (1, g_i x1), (2, g_i x2), (3, g_i x3), (4, g_i x4), (5, g_i x5)] [] 84 (g_jI o) := by
  intro n
  induction n with
  | zero =>
    intro r0 x1 x2 x3 x4 x5 s0 h
    cases h
  | succ n ih =>
    intro r0 x1 x2 x3 x4 x5 s0 h
    unfold f_M_compareTrails_84 at h
    refine r_iload hK d_M_compareTrails_84 5 rfl ?_
    refine r_iload_n hK d_M_compareTrails_86 rfl 3 rfl ?_
    refine r_if_icmpge (tgt := 140) hK d_M_compareTrails_87 (by decide) h (fun h => ?_) (fun h => ?_)
    · exact r_sub [3, 4] rfl (t_M_compareTrails_140 hK hN hD _ _ _ h)
    · refine r_iload hK d_M_compareTrails_90 5 rfl ?_
      refine r_iload hK d_M_compareTrails_92 4 rfl ?_
      refine r_if_icmpge (tgt := 140) hK d_M_compareTrails_94 (by decide) h (fun h => ?_) (fun h => ?_)
      · exact r_sub [3, 4] rfl (t_M_compareTrails_140 hK hN hD _ _ _ h)
      · refine r_aload_n hK d_M_compareTrails_97 rfl 0 rfl ?_
        refine r_gR hK fd_M_81 w7_113 d_M_compareTrails_98 h (fun p1 h => ?_)
        refine r_bipush (v := 32) hK d_M_compareTrails_101 (by decide) ?_
        refine r_iload_n hK d_M_compareTrails_103 rfl 1 rfl ?_
        refine r_imul hK d_M_compareTrails_104 ?_
        refine r_iload hK d_M_compareTrails_105 5 rfl ?_
        refine r_iadd hK d_M_compareTrails_107 ?_
        refine r_laload hK ar_21 rfl d_M_compareTrails_108 h (fun j2 h => ?_)
        refine r_aload_n hK d_M_compareTrails_109 rfl 0 rfl ?_
        refine r_gR hK fd_M_81 w7_113 d_M_compareTrails_110 h (fun p3 h => ?_)
        refine r_bipush (v := 32) hK d_M_compareTrails_113 (by decide) ?_
        refine r_iload_n hK d_M_compareTrails_115 rfl 2 rfl ?_
        refine r_imul hK d_M_compareTrails_116 ?_
        refine r_iload hK d_M_compareTrails_117 5 rfl ?_
        refine r_iadd hK d_M_compareTrails_119 ?_
        refine r_laload hK ar_21 rfl d_M_compareTrails_120 h (fun j4 h => ?_)
        refine r_Si (avL := [g_l j2, g_l j4]) (st := []) hK w9_218 w9_217 w9_219 w1_6 (by decide) pl_M_compare (by rw [hD]; decide) (Nat.le_of_ble_eq_true rfl) rfl d_M_compareTrails_121 (fun o9 h9 => c_M_compare _ _ _ _ _ o9 h9) h (fun i5 s6 h => ?_)
        refine r_istore (ls1 := [(6, g_i i5), (0, g_r 1 r0), (1, g_i x1), (2, g_i x2), (3, g_i x3), (4, g_i x4), (5, g_i x5)]) hK d_M_compareTrails_124 (by rw [hN]; decide) rfl ?_
        refine r_iload hK d_M_compareTrails_126 0 rfl ?_
        refine r_ifeq (tgt := 134) hK d_M_compareTrails_128 (by decide) h (fun h => ?_) (fun h => ?_)
        · refine r_iinc (ls1 := [(5, g_i (x5 + 1)), (6, g_i i5), (0, g_r 1 r0), (1, g_i x1), (2, g_i x2), (3, g_i x3), (4, g_i x4)]) hK d_M_compareTrails_134 6 rfl rfl (by rw [hN]; decide) rfl ?_
          refine r_goto (tgt := 84) hK d_M_compareTrails_137 (by decide) ?_
          exact r_sub [2, 3, 4, 5, 6, 0] rfl (ih _ _ _ _ _ _ _ h)
        · refine r_iload hK d_M_compareTrails_131 0 rfl ?_
          exact r_ireturn hK d_M_compareTrails_133 h
set_option maxHeartbeats 4000000 in
set_option maxRecDepth 100000 in
theorem t_M_compareTrails_0 {K : g_C} {o : (Int32 × g_St)} (hK : g_OK K b_M_compareTrails "FixpointEngineModel" "compareTrails" (Option.some Jvm.ClassFile.FieldType.int)) (hN : g_nL K = 7) (hD : g_Kd K = 2) : ∀ (r0 : Option Nat) (x1 : Int32) (x2 : Int32) (s0 : g_St), f_M_compareTrails r0 x1 x2 s0 = some o → g_W K s0 [(0, g_r 1 r0), (1, g_i x1), (2, g_i x2)] [] 0 (g_jI o) := by
  intro r0 x1 x2 s0 h
  unfold f_M_compareTrails at h
  refine r_aload_n hK d_M_compareTrails_0 rfl 0 rfl ?_
  refine r_gR hK fd_M_80 w7_112 d_M_compareTrails_1 h (fun p1 h => ?_)
  refine r_iload_n hK d_M_compareTrails_4 rfl 1 rfl ?_
  refine r_iaload hK ar_20 rfl d_M_compareTrails_5 h (fun i2 h => ?_)
  refine r_istore_n (ls1 := [(3, g_i i2), (0, g_r 1 r0), (1, g_i x1), (2, g_i x2)]) hK d_M_compareTrails_6 rfl (by rw [hN]; decide) rfl ?_
  refine r_aload_n hK d_M_compareTrails_7 rfl 1 rfl ?_
  refine r_gR hK fd_M_80 w7_112 d_M_compareTrails_8 h (fun p3 h => ?_)
  refine r_iload_n hK d_M_compareTrails_11 rfl 3 rfl ?_
  refine r_iaload hK ar_20 rfl d_M_compareTrails_12 h (fun i4 h => ?_)
  refine r_istore (ls1 := [(4, g_i i4), (3, g_i i2), (0, g_r 1 r0), (1, g_i x1), (2, g_i x2)]) hK d_M_compareTrails_13 (by rw [hN]; decide) rfl ?_
  refine r_aload_n hK d_M_compareTrails_15 rfl 2 rfl ?_
  refine r_gR hK fd_M_22 w7_54 d_M_compareTrails_16 h (fun p5 h => ?_)
  refine r_aload_n hK d_M_compareTrails_19 rfl 2 rfl ?_
  refine r_gR hK fd_M_78 w7_110 d_M_compareTrails_20 h (fun p6 h => ?_)
  refine r_iload_n hK d_M_compareTrails_23 rfl 3 rfl ?_
  refine r_iaload hK ar_20 rfl d_M_compareTrails_24 h (fun i7 h => ?_)
  refine r_iaload hK ar_20 rfl d_M_compareTrails_25 h (fun i8 h => ?_)
  refine r_iconst (v := 2) hK d_M_compareTrails_26 (by decide) ?_
  refine r_if_icmpne (tgt := 81) hK d_M_compareTrails_27 (by decide) h (fun h => ?_) (fun h => ?_)
  · refine r_iconst (v := 0) hK d_M_compareTrails_81 (by decide) ?_
    refine r_istore (ls1 := [(5, g_i 0), (4, g_i i4), (3, g_i i2), (0, g_r 1 r0), (1, g_i x1), (2, g_i x2)]) hK d_M_compareTrails_82 (by rw [hN]; decide) rfl ?_
    exact r_sub [3, 4, 5, 2, 1, 0] rfl (t_M_compareTrails_84 hK hN hD _ _ _ _ _ _ _ _ h)
  · refine r_iload_n hK d_M_compareTrails_30 rfl 1 rfl ?_
    refine r_iload hK d_M_compareTrails_31 0 rfl ?_
    refine r_if_icmpeq (tgt := 50) hK d_M_compareTrails_33 (by decide) h (fun h => ?_) (fun h => ?_)
    · refine r_aload_n hK d_M_compareTrails_50 rfl 2 rfl ?_
      refine r_gR hK fd_M_81 w7_113 d_M_compareTrails_51 h (fun p9 h => ?_)
      refine r_bipush (v := 32) hK d_M_compareTrails_54 (by decide) ?_
      refine r_iload_n hK d_M_compareTrails_56 rfl 3 rfl ?_
      refine r_imul hK d_M_compareTrails_57 ?_
      refine r_iload_n hK d_M_compareTrails_58 rfl 1 rfl ?_
      refine r_iadd hK d_M_compareTrails_59 ?_
      refine r_iconst (v := 1) hK d_M_compareTrails_60 (by decide) ?_
      refine r_isub hK d_M_compareTrails_61 ?_
      refine r_laload hK ar_21 rfl d_M_compareTrails_62 h (fun j10 h => ?_)
      refine r_aload_n hK d_M_compareTrails_63 rfl 2 rfl ?_
      refine r_gR hK fd_M_81 w7_113 d_M_compareTrails_64 h (fun p11 h => ?_)
      refine r_bipush (v := 32) hK d_M_compareTrails_67 (by decide) ?_
      refine r_iload_n hK d_M_compareTrails_69 rfl 4 rfl ?_
      refine r_imul hK d_M_compareTrails_70 ?_
      refine r_iload hK d_M_compareTrails_71 0 rfl ?_
      refine r_iadd hK d_M_compareTrails_73 ?_
      refine r_iconst (v := 1) hK d_M_compareTrails_74 (by decide) ?_
      refine r_isub hK d_M_compareTrails_75 ?_
      refine r_laload hK ar_21 rfl d_M_compareTrails_76 h (fun j12 h => ?_)
      refine r_Si (avL := [g_l j10, g_l j12]) (st := []) hK w9_218 w9_217 w9_219 w1_6 (by decide) pl_M_compare (by rw [hD]; decide) (Nat.le_of_ble_eq_true rfl) rfl d_M_compareTrails_77 (fun o9 h9 => c_M_compare _ _ _ _ _ o9 h9) h (fun i13 s14 h => ?_)
      exact r_ireturn hK d_M_compareTrails_80 h
    · refine r_iload_n hK d_M_compareTrails_36 rfl 1 rfl ?_
      refine r_iload hK d_M_compareTrails_37 0 rfl ?_
      refine r_if_icmpge (tgt := 46) hK d_M_compareTrails_39 (by decide) h (fun h => ?_) (fun h => ?_)
      · refine r_iconst (v := 1) hK d_M_compareTrails_46 (by decide) ?_
        refine r_goto (tgt := 80) hK d_M_compareTrails_47 (by decide) ?_
        exact r_ireturn hK d_M_compareTrails_80 h
      · refine r_iconst (v := (-1)) hK d_M_compareTrails_42 (by decide) ?_
        refine r_goto (tgt := 80) hK d_M_compareTrails_43 (by decide) ?_
        exact r_ireturn hK d_M_compareTrails_80 h
theorem c_M_compareTrails (l : Launch) (G : g_G) (r0 : Option Nat) (x1 : Int32) (x2 : Int32) (u : g_St) (o : (Int32 × g_St)) (h : f_M_compareTrails r0 x1 x2 u = some o) : g_Con l G y_M_compareTrails b_M_compareTrails 7 (Option.some Jvm.ClassFile.FieldType.int) 2 [g_r 1 r0, g_i x1, g_i x2] u (g_jI o) :=
  g_Con.of rfl rfl (by decide +kernel) (Nat.le_of_ble_eq_true rfl) (fun K hK hN hD hX => t_M_compareTrails_0 hK hN hD _ _ _ _ h)
def f_M_compareAnswers_91 : Nat → Option Nat → Int32 → Int32 → Int32 → g_St → Option (Int32 × g_St)
  | 0, _, _, _, _, _ => none
  | n + 1, r0, x1, x2, x3, s0 =>
    g_gI s0 5633 r0 fun i1 =>
    if i1 ≤ x3 then
      some (0, s0)
    else
      g_gR s0 5505 r0 fun p2 =>
      g_aL s0 p2 ((4 * x1) + x3) fun j3 =>
      g_gR s0 5505 r0 fun p4 =>
      g_aL s0 p4 ((4 * x2) + x3) fun j5 =>
      g_c (f_M_compare j3 j5 s0) fun i6 s7 =>
      if i6 = 0 then
        f_M_compareAnswers_91 n r0 x1 x2 (x3 + 1) s7
      else
        some (i6, s7)
def f_M_compareAnswers_73 (k2 : Option Nat → Int32 → Int32 → Int32 → g_St → Option (Int32 × g_St)) (r0 : Option Nat) (x1 : Int32) (x2 : Int32) (x3 : Int32) (x0s : Int32) (s0 : g_St) : Option (Int32 × g_St) :=
  if x0s = 0 then
    k2 r0 x1 x2 (x3 + 1) s0
  else
    some (x0s, s0)
def f_M_compareAnswers_2 : Nat → Option Nat → Int32 → Int32 → Int32 → g_St → Option (Int32 × g_St)
  | 0, _, _, _, _, _ => none
  | n + 1, r0, x1, x2, x3, s0 =>
    g_gI s0 4353 r0 fun i1 =>
    if i1 ≤ x3 then
      f_M_compareAnswers_91 200000 r0 x1 x2 0 s0
    else
      g_gR s0 4609 r0 fun p2 =>
      g_aI s0 p2 x3 fun i3 =>
      if i3 = 100 then
        g_gR s0 5569 r0 fun p10 =>
        g_aL s0 p10 ((2 * x1) + x3) fun j11 =>
        g_gR s0 5569 r0 fun p12 =>
        g_aL s0 p12 ((2 * x2) + x3) fun j13 =>
        g_c (g_nn r0 (f_M_compareTrails r0 j11.toInt32 j13.toInt32 s0)) fun i14 s15 =>
        f_M_compareAnswers_73 (f_M_compareAnswers_2 n) r0 x1 x2 x3 i14 s15
      else
        g_gR s0 5569 r0 fun p4 =>
        g_aL s0 p4 ((2 * x1) + x3) fun j5 =>
        g_gR s0 5569 r0 fun p6 =>
        g_aL s0 p6 ((2 * x2) + x3) fun j7 =>
        g_c (f_M_compare j5 j7 s0) fun i8 s9 =>
        f_M_compareAnswers_73 (f_M_compareAnswers_2 n) r0 x1 x2 x3 i8 s9
def f_M_compareAnswers (r0 : Option Nat) (x1 : Int32) (x2 : Int32) (s0 : g_St) : Option (Int32 × g_St) :=
  f_M_compareAnswers_2 200000 r0 x1 x2 0 s0
set_option maxHeartbeats 4000000 in
set_option maxRecDepth 100000 in
theorem t_M_compareAnswers_91 {K : g_C} {o : (Int32 × g_St)} (hK : g_OK K b_M_compareAnswers "FixpointEngineModel" "compareAnswers" (Option.some Jvm.ClassFile.FieldType.int)) (hN : g_nL K = 5) (hD : g_Kd K = 3) : ∀ (n : Nat) (r0 : Option Nat) (x1 : Int32) (x2 : Int32) (x3 : Int32) (s0 : g_St), f_M_compareAnswers_91 n r0 x1 x2 x3 s0 = some o → g_W K s0 [(0, g_r 1 r0), (1, g_i x1), (2, g_i x2), (3, g_i x3)] [] 91 (g_jI o) := by
  intro n
  induction n with
  | zero =>
    intro r0 x1 x2 x3 s0 h
    cases h
  | succ n ih =>
    intro r0 x1 x2 x3 s0 h
    unfold f_M_compareAnswers_91 at h
    refine r_iload_n hK d_M_compareAnswers_91 rfl 3 rfl ?_
    refine r_aload_n hK d_M_compareAnswers_92 rfl 0 rfl ?_
    refine r_gI hK fd_M_88 w7_120 d_M_compareAnswers_93 h (fun i1 h => ?_)
    refine r_if_icmpge (tgt := 138) hK d_M_compareAnswers_96 (by decide) h (fun h => ?_) (fun h => ?_)
    · refine r_iconst (v := 0) hK d_M_compareAnswers_138 (by decide) ?_
      exact r_ireturn hK d_M_compareAnswers_139 h
    · refine r_aload_n hK d_M_compareAnswers_99 rfl 0 rfl ?_
      refine r_gR hK fd_M_86 w7_118 d_M_compareAnswers_100 h (fun p2 h => ?_)
      refine r_iconst (v := 4) hK d_M_compareAnswers_103 (by decide) ?_
      refine r_iload_n hK d_M_compareAnswers_104 rfl 1 rfl ?_
      refine r_imul hK d_M_compareAnswers_105 ?_
      refine r_iload_n hK d_M_compareAnswers_106 rfl 3 rfl ?_
      refine r_iadd hK d_M_compareAnswers_107 ?_
      refine r_laload hK ar_21 rfl d_M_compareAnswers_108 h (fun j3 h => ?_)
      refine r_aload_n hK d_M_compareAnswers_109 rfl 0 rfl ?_
      refine r_gR hK fd_M_86 w7_118 d_M_compareAnswers_110 h (fun p4 h => ?_)
      refine r_iconst (v := 4) hK d_M_compareAnswers_113 (by decide) ?_
      refine r_iload_n hK d_M_compareAnswers_114 rfl 2 rfl ?_
      refine r_imul hK d_M_compareAnswers_115 ?_
      refine r_iload_n hK d_M_compareAnswers_116 rfl 3 rfl ?_
      refine r_iadd hK d_M_compareAnswers_117 ?_
      refine r_laload hK ar_21 rfl d_M_compareAnswers_118 h (fun j5 h => ?_)
      refine r_Si (avL := [g_l j3, g_l j5]) (st := []) hK w9_218 w9_217 w9_219 w1_6 (by decide) pl_M_compare (by rw [hD]; decide) (Nat.le_of_ble_eq_true rfl) rfl d_M_compareAnswers_119 (fun o9 h9 => c_M_compare _ _ _ _ _ o9 h9) h (fun i6 s7 h => ?_)
      refine r_istore (ls1 := [(4, g_i i6), (0, g_r 1 r0), (1, g_i x1), (2, g_i x2), (3, g_i x3)]) hK d_M_compareAnswers_122 (by rw [hN]; decide) rfl ?_
      refine r_iload hK d_M_compareAnswers_124 0 rfl ?_
      refine r_ifeq (tgt := 132) hK d_M_compareAnswers_126 (by decide) h (fun h => ?_) (fun h => ?_)
      · refine r_iinc (ls1 := [(3, g_i (x3 + 1)), (4, g_i i6), (0, g_r 1 r0), (1, g_i x1), (2, g_i x2)]) hK d_M_compareAnswers_132 4 rfl rfl (by rw [hN]; decide) rfl ?_
        refine r_goto (tgt := 91) hK d_M_compareAnswers_135 (by decide) ?_
        exact r_sub [2, 3, 4, 0] rfl (ih _ _ _ _ _ h)
      · refine r_iload hK d_M_compareAnswers_129 0 rfl ?_
        exact r_ireturn hK d_M_compareAnswers_131 h
set_option maxHeartbeats 4000000 in
set_option maxRecDepth 100000 in
theorem t_M_compareAnswers_73 {K : g_C} {o : (Int32 × g_St)} (hK : g_OK K b_M_compareAnswers "FixpointEngineModel" "compareAnswers" (Option.some Jvm.ClassFile.FieldType.int)) (hN : g_nL K = 5) (hD : g_Kd K = 3) {k2 : Option Nat → Int32 → Int32 → Int32 → g_St → Option (Int32 × g_St)} (hk2 : ∀ (r0 : Option Nat) (x1 : Int32) (x2 : Int32) (x3 : Int32) (s0 : g_St), k2 r0 x1 x2 x3 s0 = some o → g_W K s0 [(0, g_r 1 r0), (1, g_i x1), (2, g_i x2), (3, g_i x3)] [] 2 (g_jI o)) : ∀ (r0 : Option Nat) (x1 : Int32) (x2 : Int32) (x3 : Int32) (x0s : Int32) (s0 : g_St), f_M_compareAnswers_73 k2 r0 x1 x2 x3 x0s s0 = some o → g_W K s0 [(0, g_r 1 r0), (1, g_i x1), (2, g_i x2), (3, g_i x3)] [g_i x0s] 73 (g_jI o) := by
  intro r0 x1 x2 x3 x0s s0 h
  unfold f_M_compareAnswers_73 at h
  refine r_istore (ls1 := [(4, g_i x0s), (0, g_r 1 r0), (1, g_i x1), (2, g_i x2), (3, g_i x3)]) hK d_M_compareAnswers_73 (by rw [hN]; decide) rfl ?_
  refine r_iload hK d_M_compareAnswers_75 0 rfl ?_
  refine r_ifeq (tgt := 83) hK d_M_compareAnswers_77 (by decide) h (fun h => ?_) (fun h => ?_)
  · refine r_iinc (ls1 := [(3, g_i (x3 + 1)), (4, g_i x0s), (0, g_r 1 r0), (1, g_i x1), (2, g_i x2)]) hK d_M_compareAnswers_83 4 rfl rfl (by rw [hN]; decide) rfl ?_
    refine r_goto (tgt := 2) hK d_M_compareAnswers_86 (by decide) ?_
    exact r_sub [2, 3, 4, 0] rfl (hk2 _ _ _ _ _ h)
  · refine r_iload hK d_M_compareAnswers_80 0 rfl ?_
    exact r_ireturn hK d_M_compareAnswers_82 h
set_option maxHeartbeats 4000000 in
set_option maxRecDepth 100000 in
theorem t_M_compareAnswers_2 {K : g_C} {o : (Int32 × g_St)} (hK : g_OK K b_M_compareAnswers "FixpointEngineModel" "compareAnswers" (Option.some Jvm.ClassFile.FieldType.int)) (hN : g_nL K = 5) (hD : g_Kd K = 3) : ∀ (n : Nat) (r0 : Option Nat) (x1 : Int32) (x2 : Int32) (x3 : Int32) (s0 : g_St), f_M_compareAnswers_2 n r0 x1 x2 x3 s0 = some o → g_W K s0 [(0, g_r 1 r0), (1, g_i x1), (2, g_i x2), (3, g_i x3)] [] 2 (g_jI o) := by
  intro n
  induction n with
  | zero =>
    intro r0 x1 x2 x3 s0 h
    cases h
  | succ n ih =>
    intro r0 x1 x2 x3 s0 h
    unfold f_M_compareAnswers_2 at h
    refine r_iload_n hK d_M_compareAnswers_2 rfl 3 rfl ?_
    refine r_aload_n hK d_M_compareAnswers_3 rfl 0 rfl ?_
    refine r_gI hK fd_M_68 w7_100 d_M_compareAnswers_4 h (fun i1 h => ?_)
    refine r_if_icmpge (tgt := 89) hK d_M_compareAnswers_7 (by decide) h (fun h => ?_) (fun h => ?_)
    · refine r_iconst (v := 0) hK d_M_compareAnswers_89 (by decide) ?_
      refine r_istore_n (ls1 := [(3, g_i 0), (0, g_r 1 r0), (1, g_i x1), (2, g_i x2)]) hK d_M_compareAnswers_90 rfl (by rw [hN]; decide) rfl ?_
      exact r_sub [1, 2, 3, 0] rfl (t_M_compareAnswers_91 hK hN hD _ _ _ _ _ _ h)
    · refine r_aload_n hK d_M_compareAnswers_10 rfl 0 rfl ?_
      refine r_gR hK fd_M_72 w7_104 d_M_compareAnswers_11 h (fun p2 h => ?_)
      refine r_iload_n hK d_M_compareAnswers_14 rfl 3 rfl ?_
      refine r_iaload hK ar_20 rfl d_M_compareAnswers_15 h (fun i3 h => ?_)
      refine r_bipush (v := 100) hK d_M_compareAnswers_16 (by decide) ?_
      refine r_if_icmpne (tgt := 50) hK d_M_compareAnswers_18 (by decide) h (fun h => ?_) (fun h => ?_)
      · refine r_aload_n hK d_M_compareAnswers_50 rfl 0 rfl ?_
        refine r_gR hK fd_M_87 w7_119 d_M_compareAnswers_51 h (fun p4 h => ?_)
        refine r_iconst (v := 2) hK d_M_compareAnswers_54 (by decide) ?_
        refine r_iload_n hK d_M_compareAnswers_55 rfl 1 rfl ?_
        refine r_imul hK d_M_compareAnswers_56 ?_
        refine r_iload_n hK d_M_compareAnswers_57 rfl 3 rfl ?_
        refine r_iadd hK d_M_compareAnswers_58 ?_
        refine r_laload hK ar_21 rfl d_M_compareAnswers_59 h (fun j5 h => ?_)
        refine r_aload_n hK d_M_compareAnswers_60 rfl 0 rfl ?_
        refine r_gR hK fd_M_87 w7_119 d_M_compareAnswers_61 h (fun p6 h => ?_)
        refine r_iconst (v := 2) hK d_M_compareAnswers_64 (by decide) ?_
        refine r_iload_n hK d_M_compareAnswers_65 rfl 2 rfl ?_
        refine r_imul hK d_M_compareAnswers_66 ?_
        refine r_iload_n hK d_M_compareAnswers_67 rfl 3 rfl ?_
        refine r_iadd hK d_M_compareAnswers_68 ?_
        refine r_laload hK ar_21 rfl d_M_compareAnswers_69 h (fun j7 h => ?_)
        refine r_Si (avL := [g_l j5, g_l j7]) (st := []) hK w9_218 w9_217 w9_219 w1_6 (by decide) pl_M_compare (by rw [hD]; decide) (Nat.le_of_ble_eq_true rfl) rfl d_M_compareAnswers_70 (fun o9 h9 => c_M_compare _ _ _ _ _ o9 h9) h (fun i8 s9 h => ?_)
        exact r_sub [0, 1, 2, 3] rfl (t_M_compareAnswers_73 hK hN hD ih _ _ _ _ _ _ h)
      · refine r_aload_n hK d_M_compareAnswers_21 rfl 0 rfl ?_
        refine r_aload_n hK d_M_compareAnswers_22 rfl 0 rfl ?_
        refine r_gR hK fd_M_87 w7_119 d_M_compareAnswers_23 h (fun p10 h => ?_)
        refine r_iconst (v := 2) hK d_M_compareAnswers_26 (by decide) ?_
        refine r_iload_n hK d_M_compareAnswers_27 rfl 1 rfl ?_
        refine r_imul hK d_M_compareAnswers_28 ?_
        refine r_iload_n hK d_M_compareAnswers_29 rfl 3 rfl ?_
        refine r_iadd hK d_M_compareAnswers_30 ?_
        refine r_laload hK ar_21 rfl d_M_compareAnswers_31 h (fun j11 h => ?_)
        refine r_l2i hK d_M_compareAnswers_32 ?_
        refine r_aload_n hK d_M_compareAnswers_33 rfl 0 rfl ?_
        refine r_gR hK fd_M_87 w7_119 d_M_compareAnswers_34 h (fun p12 h => ?_)
        refine r_iconst (v := 2) hK d_M_compareAnswers_37 (by decide) ?_
        refine r_iload_n hK d_M_compareAnswers_38 rfl 2 rfl ?_
        refine r_imul hK d_M_compareAnswers_39 ?_
        refine r_iload_n hK d_M_compareAnswers_40 rfl 3 rfl ?_
        refine r_iadd hK d_M_compareAnswers_41 ?_
        refine r_laload hK ar_21 rfl d_M_compareAnswers_42 h (fun j13 h => ?_)
        refine r_l2i hK d_M_compareAnswers_43 ?_
        refine r_Vi (avL := [g_i j11.toInt32, g_i j13.toInt32]) (st := []) hK ob_M rfl w9_215 wp_78 w9_213 w9_216 w1_6 (by decide) pl_M_compareTrails (by rw [hD]; decide) (Nat.le_of_ble_eq_true rfl) rfl d_M_compareAnswers_44 (fun o9 h9 => c_M_compareTrails _ _ _ _ _ _ o9 h9) h (fun i14 s15 h => ?_)
        refine r_goto (tgt := 73) hK d_M_compareAnswers_47 (by decide) ?_
        exact r_sub [0, 1, 2, 3] rfl (t_M_compareAnswers_73 hK hN hD ih _ _ _ _ _ _ h)
set_option maxHeartbeats 4000000 in
set_option maxRecDepth 100000 in
theorem t_M_compareAnswers_0 {K : g_C} {o : (Int32 × g_St)} (hK : g_OK K b_M_compareAnswers "FixpointEngineModel" "compareAnswers" (Option.some Jvm.ClassFile.FieldType.int)) (hN : g_nL K = 5) (hD : g_Kd K = 3) : ∀ (r0 : Option Nat) (x1 : Int32) (x2 : Int32) (s0 : g_St), f_M_compareAnswers r0 x1 x2 s0 = some o → g_W K s0 [(0, g_r 1 r0), (1, g_i x1), (2, g_i x2)] [] 0 (g_jI o) := by
  intro r0 x1 x2 s0 h
  unfold f_M_compareAnswers at h
  refine r_iconst (v := 0) hK d_M_compareAnswers_0 (by decide) ?_
  refine r_istore_n (ls1 := [(3, g_i 0), (0, g_r 1 r0), (1, g_i x1), (2, g_i x2)]) hK d_M_compareAnswers_1 rfl (by rw [hN]; decide) rfl ?_
  exact r_sub [1, 2, 3, 0] rfl (t_M_compareAnswers_2 hK hN hD _ _ _ _ _ _ h)
theorem c_M_compareAnswers (l : Launch) (G : g_G) (r0 : Option Nat) (x1 : Int32) (x2 : Int32) (u : g_St) (o : (Int32 × g_St)) (h : f_M_compareAnswers r0 x1 x2 u = some o) : g_Con l G y_M_compareAnswers b_M_compareAnswers 5 (Option.some Jvm.ClassFile.FieldType.int) 3 [g_r 1 r0, g_i x1, g_i x2] u (g_jI o) :=
  g_Con.of rfl rfl (by decide +kernel) (Nat.le_of_ble_eq_true rfl) (fun K hK hN hD hX => t_M_compareAnswers_0 hK hN hD _ _ _ _ h)
def f_M_sort_12 (k2 : Option Nat → Int32 → g_St → Option (Unit × g_St)) : Nat → Option Nat → Int32 → Int32 → g_St → Option (Unit × g_St)
  | 0, _, _, _, _ => none
  | n + 1, r0, x1, x2, s0 =>
    if x2 ≤ 0 then
      g_gR s0 5697 r0 fun p1 =>
      g_sI s0 p1 x2 x1 fun s2 =>
      k2 r0 (x1 + 1) s2
    else
      g_gR s0 5697 r0 fun p3 =>
      g_aI s0 p3 (x2 - 1) fun i4 =>
      g_c (g_nn r0 (f_M_compareAnswers r0 i4 x1 s0)) fun i5 s6 =>
      if i5 ≤ 0 then
        g_gR s6 5697 r0 fun p7 =>
        g_sI s6 p7 x2 x1 fun s8 =>
        k2 r0 (x1 + 1) s8
      else
        g_gR s6 5697 r0 fun p9 =>
        g_gR s6 5697 r0 fun p10 =>
        g_aI s6 p10 (x2 - 1) fun i11 =>
        g_sI s6 p9 x2 i11 fun s12 =>
        f_M_sort_12 k2 n r0 x1 (x2 + (-1)) s12
def f_M_sort_2 : Nat → Option Nat → Int32 → g_St → Option (Unit × g_St)
  | 0, _, _, _ => none
  | n + 1, r0, x1, s0 =>
    g_gI s0 5377 r0 fun i1 =>
    if i1 ≤ x1 then
      some ((), s0)
    else
      f_M_sort_12 (f_M_sort_2 n) 200000 r0 x1 x1 s0
def f_M_sort (r0 : Option Nat) (s0 : g_St) : Option (Unit × g_St) :=
  f_M_sort_2 200000 r0 0 s0
set_option maxHeartbeats 4000000 in
set_option maxRecDepth 100000 in
theorem t_M_sort_12 {K : g_C} {o : (Unit × g_St)} (hK : g_OK K b_M_sort "FixpointEngineModel" "sort" (Option.none : Option Jvm.ClassFile.FieldType)) (hN : g_nL K = 3) (hD : g_Kd K = 4) {k2 : Option Nat → Int32 → g_St → Option (Unit × g_St)} (hk2 : ∀ (r0 : Option Nat) (x1 : Int32) (s0 : g_St), k2 r0 x1 s0 = some o → g_W K s0 [(0, g_r 1 r0), (1, g_i x1)] [] 2 (g_jV o)) : ∀ (n : Nat) (r0 : Option Nat) (x1 : Int32) (x2 : Int32) (s0 : g_St), f_M_sort_12 k2 n r0 x1 x2 s0 = some o → g_W K s0 [(0, g_r 1 r0), (1, g_i x1), (2, g_i x2)] [] 12 (g_jV o) := by
  intro n
  induction n with
  | zero =>
    intro r0 x1 x2 s0 h
    cases h
  | succ n ih =>
    intro r0 x1 x2 s0 h
    unfold f_M_sort_12 at h
    refine r_iload_n hK d_M_sort_12 rfl 2 rfl ?_
    refine r_ifle (tgt := 52) hK d_M_sort_13 (by decide) h (fun h => ?_) (fun h => ?_)
    · refine r_aload_n hK d_M_sort_52 rfl 0 rfl ?_
      refine r_gR hK fd_M_89 w7_121 d_M_sort_53 h (fun p1 h => ?_)
      refine r_iload_n hK d_M_sort_56 rfl 2 rfl ?_
      refine r_iload_n hK d_M_sort_57 rfl 1 rfl ?_
      refine r_iastore hK ar_20 rfl d_M_sort_58 h (fun s2 h => ?_)
      refine r_iinc (ls1 := [(1, g_i (x1 + 1)), (0, g_r 1 r0), (2, g_i x2)]) hK d_M_sort_59 1 rfl rfl (by rw [hN]; decide) rfl ?_
      refine r_goto (tgt := 2) hK d_M_sort_62 (by decide) ?_
      exact r_sub [1, 0] rfl (hk2 _ _ _ h)
    · refine r_aload_n hK d_M_sort_16 rfl 0 rfl ?_
      refine r_aload_n hK d_M_sort_17 rfl 0 rfl ?_
      refine r_gR hK fd_M_89 w7_121 d_M_sort_18 h (fun p3 h => ?_)
      refine r_iload_n hK d_M_sort_21 rfl 2 rfl ?_
      refine r_iconst (v := 1) hK d_M_sort_22 (by decide) ?_
      refine r_isub hK d_M_sort_23 ?_
      refine r_iaload hK ar_20 rfl d_M_sort_24 h (fun i4 h => ?_)
      refine r_iload_n hK d_M_sort_25 rfl 1 rfl ?_
      refine r_Vi (avL := [g_i i4, g_i x1]) (st := []) hK ob_M rfl w9_211 wp_77 w9_209 w9_212 w1_6 (by decide) pl_M_compareAnswers (by rw [hD]; decide) (Nat.le_of_ble_eq_true rfl) rfl d_M_sort_26 (fun o9 h9 => c_M_compareAnswers _ _ _ _ _ _ o9 h9) h (fun i5 s6 h => ?_)
      refine r_ifle (tgt := 52) hK d_M_sort_29 (by decide) h (fun h => ?_) (fun h => ?_)
      · refine r_aload_n hK d_M_sort_52 rfl 0 rfl ?_
        refine r_gR hK fd_M_89 w7_121 d_M_sort_53 h (fun p7 h => ?_)
        refine r_iload_n hK d_M_sort_56 rfl 2 rfl ?_
        refine r_iload_n hK d_M_sort_57 rfl 1 rfl ?_
        refine r_iastore hK ar_20 rfl d_M_sort_58 h (fun s8 h => ?_)
        refine r_iinc (ls1 := [(1, g_i (x1 + 1)), (0, g_r 1 r0), (2, g_i x2)]) hK d_M_sort_59 1 rfl rfl (by rw [hN]; decide) rfl ?_
        refine r_goto (tgt := 2) hK d_M_sort_62 (by decide) ?_
        exact r_sub [1, 0] rfl (hk2 _ _ _ h)
      · refine r_aload_n hK d_M_sort_32 rfl 0 rfl ?_
        refine r_gR hK fd_M_89 w7_121 d_M_sort_33 h (fun p9 h => ?_)
        refine r_iload_n hK d_M_sort_36 rfl 2 rfl ?_
        refine r_aload_n hK d_M_sort_37 rfl 0 rfl ?_
        refine r_gR hK fd_M_89 w7_121 d_M_sort_38 h (fun p10 h => ?_)
        refine r_iload_n hK d_M_sort_41 rfl 2 rfl ?_
        refine r_iconst (v := 1) hK d_M_sort_42 (by decide) ?_
        refine r_isub hK d_M_sort_43 ?_
        refine r_iaload hK ar_20 rfl d_M_sort_44 h (fun i11 h => ?_)
        refine r_iastore hK ar_20 rfl d_M_sort_45 h (fun s12 h => ?_)
        refine r_iinc (ls1 := [(2, g_i (x2 + (-1))), (0, g_r 1 r0), (1, g_i x1)]) hK d_M_sort_46 2 rfl rfl (by rw [hN]; decide) rfl ?_
        refine r_goto (tgt := 12) hK d_M_sort_49 (by decide) ?_
        exact r_sub [1, 2, 0] rfl (ih _ _ _ _ h)
set_option maxHeartbeats 4000000 in
set_option maxRecDepth 100000 in
theorem t_M_sort_2 {K : g_C} {o : (Unit × g_St)} (hK : g_OK K b_M_sort "FixpointEngineModel" "sort" (Option.none : Option Jvm.ClassFile.FieldType)) (hN : g_nL K = 3) (hD : g_Kd K = 4) : ∀ (n : Nat) (r0 : Option Nat) (x1 : Int32) (s0 : g_St), f_M_sort_2 n r0 x1 s0 = some o → g_W K s0 [(0, g_r 1 r0), (1, g_i x1)] [] 2 (g_jV o) := by
  intro n
  induction n with
  | zero =>
    intro r0 x1 s0 h
    cases h
  | succ n ih =>
    intro r0 x1 s0 h
    unfold f_M_sort_2 at h
    refine r_iload_n hK d_M_sort_2 rfl 1 rfl ?_
    refine r_aload_n hK d_M_sort_3 rfl 0 rfl ?_
    refine r_gI hK fd_M_84 w7_116 d_M_sort_4 h (fun i1 h => ?_)
    refine r_if_icmpge (tgt := 65) hK d_M_sort_7 (by decide) h (fun h => ?_) (fun h => ?_)
    · exact r_return hK d_M_sort_65 h
    · refine r_iload_n hK d_M_sort_10 rfl 1 rfl ?_
      refine r_istore_n (ls1 := [(2, g_i x1), (0, g_r 1 r0), (1, g_i x1)]) hK d_M_sort_11 rfl (by rw [hN]; decide) rfl ?_
      exact r_sub [1, 2, 0] rfl (t_M_sort_12 hK hN hD ih _ _ _ _ _ h)
set_option maxHeartbeats 4000000 in
set_option maxRecDepth 100000 in
theorem t_M_sort_0 {K : g_C} {o : (Unit × g_St)} (hK : g_OK K b_M_sort "FixpointEngineModel" "sort" (Option.none : Option Jvm.ClassFile.FieldType)) (hN : g_nL K = 3) (hD : g_Kd K = 4) : ∀ (r0 : Option Nat) (s0 : g_St), f_M_sort r0 s0 = some o → g_W K s0 [(0, g_r 1 r0)] [] 0 (g_jV o) := by
  intro r0 s0 h
  unfold f_M_sort at h
  refine r_iconst (v := 0) hK d_M_sort_0 (by decide) ?_
  refine r_istore_n (ls1 := [(1, g_i 0), (0, g_r 1 r0)]) hK d_M_sort_1 rfl (by rw [hN]; decide) rfl ?_
  exact r_sub [1, 0] rfl (t_M_sort_2 hK hN hD _ _ _ _ h)
theorem c_M_sort (l : Launch) (G : g_G) (r0 : Option Nat) (u : g_St) (o : (Unit × g_St)) (h : f_M_sort r0 u = some o) : g_Con l G y_M_sort b_M_sort 3 (Option.none : Option Jvm.ClassFile.FieldType) 4 [g_r 1 r0] u (g_jV o) :=
  g_Con.of rfl rfl (by decide +kernel) (Nat.le_of_ble_eq_true rfl) (fun K hK hN hD hX => t_M_sort_0 hK hN hD _ _ h)
