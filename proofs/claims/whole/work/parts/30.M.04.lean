def f_M_readItem_165 (r0 : Option Nat) (x1 : Int32) (s0 : g_St) : Option (Unit × g_St) :=
  g_gI s0 2817 r0 fun i1 =>
  g_pI s0 2817 r0 (i1 + 1) fun s2 =>
  g_gR s2 2433 r0 fun p3 =>
  g_aI s2 p3 x1 fun i4 =>
  g_sI s2 p3 x1 (i4 + 1) fun s5 =>
  some ((), s5)
def f_M_readItem_130 (r0 : Option Nat) (x1 : Int32) (x2 : Int32) (s0 : g_St) : Option (Unit × g_St) :=
  if x2 < 21 then
    f_M_readItem_165 r0 x1 s0
  else
    if 24 < x2 then
      f_M_readItem_165 r0 x1 s0
    else
      g_c (g_nn r0 (f_M_needSign r0 41 s0)) fun _ s2 =>
      g_gR s2 2881 r0 fun p3 =>
      g_gI s2 2817 r0 fun i4 =>
      g_sI s2 p3 i4 x2 fun s5 =>
      g_gR s5 2753 r0 fun p6 =>
      g_sZ s5 p6 x1 1 fun s7 =>
      f_M_readItem_165 r0 x1 s7
def f_M_readItem_115 (r0 : Option Nat) (x1 : Int32) (s0 : g_St) : Option (Unit × g_St) :=
  g_gR s0 2945 r0 fun p1 =>
  g_gI s0 2817 r0 fun i2 =>
  g_c (g_nn r0 (f_M_readExpression r0 s0)) fun i3 s4 =>
  g_sI s4 p1 i2 i3 fun s5 =>
  f_M_readItem_130 r0 x1 0 s5
def f_M_readItem (r0 : Option Nat) (x1 : Int32) (s0 : g_St) : Option (Unit × g_St) :=
  g_gR s0 641 r0 fun p1 =>
  g_gI s0 577 r0 fun i2 =>
  g_aI s0 p1 i2 fun i3 =>
  g_gR s0 2881 r0 fun p4 =>
  g_gI s0 2817 r0 fun i5 =>
  g_sI s0 p4 i5 0 fun s6 =>
  g_c (g_nn r0 (f_M_is r0 21 s6)) fun i7 s8 =>
  if i7 = 0 then
    g_c (g_nn r0 (f_M_bad r0 s8)) fun i9 s10 =>
    if i9 = 0 then
      if i3 < 22 then
        f_M_readItem_115 r0 x1 s10
      else
        if 24 < i3 then
          f_M_readItem_115 r0 x1 s10
        else
          g_gI s10 577 r0 fun i11 =>
          g_pI s10 577 r0 (i11 + 1) fun s12 =>
          g_c (g_nn r0 (f_M_needSign r0 40 s12)) fun _ s14 =>
          g_gR s14 2945 r0 fun p15 =>
          g_gI s14 2817 r0 fun i16 =>
          g_c (g_nn r0 (f_M_readExpression r0 s14)) fun i17 s18 =>
          g_sI s18 p15 i16 i17 fun s19 =>
          f_M_readItem_130 r0 x1 i3 s19
    else
      f_M_readItem_115 r0 x1 s10
  else
    g_gI s8 577 r0 fun i20 =>
    g_pI s8 577 r0 (i20 + 1) fun s21 =>
    g_c (g_nn r0 (f_M_needSign r0 40 s21)) fun _ s23 =>
    g_c (g_nn r0 (f_M_needSign r0 42 s23)) fun _ s25 =>
    g_gR s25 2945 r0 fun p26 =>
    g_gI s25 2817 r0 fun i27 =>
    g_sI s25 p26 i27 (-1) fun s28 =>
    f_M_readItem_130 r0 x1 i3 s28
set_option maxHeartbeats 4000000 in
set_option maxRecDepth 100000 in
theorem t_M_readItem_165 {K : g_C} {o : (Unit × g_St)} (hK : g_OK K b_M_readItem "FixpointEngineModel" "readItem" (Option.none : Option Jvm.ClassFile.FieldType)) (hN : g_nL K = 3) (hD : g_Kd K = 7) : ∀ (r0 : Option Nat) (x1 : Int32) (s0 : g_St), f_M_readItem_165 r0 x1 s0 = some o → g_W K s0 [(0, g_r 1 r0), (1, g_i x1)] [] 165 (g_jV o) := by
  intro r0 x1 s0 h
  unfold f_M_readItem_165 at h
  refine r_aload_n hK d_M_readItem_165 rfl 0 rfl ?_
  refine r_dup hK d_M_readItem_166 rfl ?_
  refine r_gI hK fd_M_44 w7_76 d_M_readItem_167 h (fun i1 h => ?_)
  refine r_iconst (v := 1) hK d_M_readItem_170 (by decide) ?_
  refine r_iadd hK d_M_readItem_171 ?_
  refine r_pI hK fd_M_44 rfl w7_76 d_M_readItem_172 h (fun s2 h => ?_)
  refine r_aload_n hK d_M_readItem_175 rfl 0 rfl ?_
  refine r_gR hK fd_M_38 w7_70 d_M_readItem_176 h (fun p3 h => ?_)
  refine r_iload_n hK d_M_readItem_179 rfl 1 rfl ?_
  refine r_dup2_11 hK d_M_readItem_180 rfl rfl ?_
  refine r_iaload hK ar_20 rfl d_M_readItem_181 h (fun i4 h => ?_)
  refine r_iconst (v := 1) hK d_M_readItem_182 (by decide) ?_
  refine r_iadd hK d_M_readItem_183 ?_
  refine r_iastore hK ar_20 rfl d_M_readItem_184 h (fun s5 h => ?_)
  exact r_return hK d_M_readItem_185 h
set_option maxHeartbeats 4000000 in
set_option maxRecDepth 100000 in
theorem t_M_readItem_130 {K : g_C} {o : (Unit × g_St)} (hK : g_OK K b_M_readItem "FixpointEngineModel" "readItem" (Option.none : Option Jvm.ClassFile.FieldType)) (hN : g_nL K = 3) (hD : g_Kd K = 7) : ∀ (r0 : Option Nat) (x1 : Int32) (x2 : Int32) (s0 : g_St), f_M_readItem_130 r0 x1 x2 s0 = some o → g_W K s0 [(0, g_r 1 r0), (1, g_i x1), (2, g_i x2)] [] 130 (g_jV o) := by
  intro r0 x1 x2 s0 h
  unfold f_M_readItem_130 at h
  refine r_iload_n hK d_M_readItem_130 rfl 2 rfl ?_
  refine r_bipush (v := 21) hK d_M_readItem_131 (by decide) ?_
  refine r_if_icmplt (tgt := 165) hK d_M_readItem_133 (by decide) h (fun h => ?_) (fun h => ?_)
  · exact r_sub [0, 1] rfl (t_M_readItem_165 hK hN hD _ _ _ h)
  · refine r_iload_n hK d_M_readItem_136 rfl 2 rfl ?_
    refine r_bipush (v := 24) hK d_M_readItem_137 (by decide) ?_
    refine r_if_icmpgt (tgt := 165) hK d_M_readItem_139 (by decide) h (fun h => ?_) (fun h => ?_)
    · exact r_sub [0, 1] rfl (t_M_readItem_165 hK hN hD _ _ _ h)
    · refine r_aload_n hK d_M_readItem_142 rfl 0 rfl ?_
      refine r_bipush (v := 41) hK d_M_readItem_143 (by decide) ?_
      refine r_Vv (avL := [g_i 41]) (st := []) hK ob_M rfl w8_194 wp_18 w8_192 w8_195 w1_6 (by decide) pl_M_needSign (by rw [hD]; decide) (Nat.le_of_ble_eq_true rfl) rfl d_M_readItem_145 (fun o9 h9 => c_M_needSign _ _ _ _ _ o9 h9) h (fun s2 h => ?_)
      refine r_aload_n hK d_M_readItem_148 rfl 0 rfl ?_
      refine r_gR hK fd_M_45 w7_77 d_M_readItem_149 h (fun p3 h => ?_)
      refine r_aload_n hK d_M_readItem_152 rfl 0 rfl ?_
      refine r_gI hK fd_M_44 w7_76 d_M_readItem_153 h (fun i4 h => ?_)
      refine r_iload_n hK d_M_readItem_156 rfl 2 rfl ?_
      refine r_iastore hK ar_20 rfl d_M_readItem_157 h (fun s5 h => ?_)
      refine r_aload_n hK d_M_readItem_158 rfl 0 rfl ?_
      refine r_gR hK fd_M_43 w7_75 d_M_readItem_159 h (fun p6 h => ?_)
      refine r_iload_n hK d_M_readItem_162 rfl 1 rfl ?_
      refine r_iconst (v := 1) hK d_M_readItem_163 (by decide) ?_
      refine r_zastore hK ar_31 rfl d_M_readItem_164 h (fun s7 h => ?_)
      exact r_sub [0, 1] rfl (t_M_readItem_165 hK hN hD _ _ _ h)
set_option maxHeartbeats 4000000 in
set_option maxRecDepth 100000 in
theorem t_M_readItem_115 {K : g_C} {o : (Unit × g_St)} (hK : g_OK K b_M_readItem "FixpointEngineModel" "readItem" (Option.none : Option Jvm.ClassFile.FieldType)) (hN : g_nL K = 3) (hD : g_Kd K = 7) : ∀ (r0 : Option Nat) (x1 : Int32) (s0 : g_St), f_M_readItem_115 r0 x1 s0 = some o → g_W K s0 [(0, g_r 1 r0), (1, g_i x1)] [] 115 (g_jV o) := by
  intro r0 x1 s0 h
  unfold f_M_readItem_115 at h
  refine r_aload_n hK d_M_readItem_115 rfl 0 rfl ?_
  refine r_gR hK fd_M_46 w7_78 d_M_readItem_116 h (fun p1 h => ?_)
  refine r_aload_n hK d_M_readItem_119 rfl 0 rfl ?_
  refine r_gI hK fd_M_44 w7_76 d_M_readItem_120 h (fun i2 h => ?_)
  refine r_aload_n hK d_M_readItem_123 rfl 0 rfl ?_
  refine r_Vi (avL := []) (st := [g_i i2, g_r 20 p1]) hK ob_M rfl w8_210 wp_22 w8_208 w8_211 w1_6 (by decide) pl_M_readExpression (by rw [hD]; decide) (Nat.le_of_ble_eq_true rfl) rfl d_M_readItem_124 (fun o9 h9 => c_M_readExpression _ _ _ _ o9 h9) h (fun i3 s4 h => ?_)
  refine r_iastore hK ar_20 rfl d_M_readItem_127 h (fun s5 h => ?_)
  refine r_iconst (v := 0) hK d_M_readItem_128 (by decide) ?_
  refine r_istore_n (ls1 := [(2, g_i 0), (0, g_r 1 r0), (1, g_i x1)]) hK d_M_readItem_129 rfl (by rw [hN]; decide) rfl ?_
  exact r_sub [1, 2, 0] rfl (t_M_readItem_130 hK hN hD _ _ _ _ h)
set_option maxHeartbeats 4000000 in
set_option maxRecDepth 100000 in
theorem t_M_readItem_0 {K : g_C} {o : (Unit × g_St)} (hK : g_OK K b_M_readItem "FixpointEngineModel" "readItem" (Option.none : Option Jvm.ClassFile.FieldType)) (hN : g_nL K = 3) (hD : g_Kd K = 7) : ∀ (r0 : Option Nat) (x1 : Int32) (s0 : g_St), f_M_readItem r0 x1 s0 = some o → g_W K s0 [(0, g_r 1 r0), (1, g_i x1)] [] 0 (g_jV o) := by
  intro r0 x1 s0 h
  unfold f_M_readItem at h
  refine r_aload_n hK d_M_readItem_0 rfl 0 rfl ?_
  refine r_gR hK fd_M_10 w7_42 d_M_readItem_1 h (fun p1 h => ?_)
  refine r_aload_n hK d_M_readItem_4 rfl 0 rfl ?_
  refine r_gI hK fd_M_9 w7_41 d_M_readItem_5 h (fun i2 h => ?_)
  refine r_iaload hK ar_20 rfl d_M_readItem_8 h (fun i3 h => ?_)
  refine r_istore_n (ls1 := [(2, g_i i3), (0, g_r 1 r0), (1, g_i x1)]) hK d_M_readItem_9 rfl (by rw [hN]; decide) rfl ?_
  refine r_aload_n hK d_M_readItem_10 rfl 1 rfl ?_
  refine r_gR hK fd_M_45 w7_77 d_M_readItem_11 h (fun p4 h => ?_)
  refine r_aload_n hK d_M_readItem_14 rfl 1 rfl ?_
  refine r_gI hK fd_M_44 w7_76 d_M_readItem_15 h (fun i5 h => ?_)
  refine r_iconst (v := 0) hK d_M_readItem_18 (by decide) ?_
  refine r_iastore hK ar_20 rfl d_M_readItem_19 h (fun s6 h => ?_)
  refine r_aload_n hK d_M_readItem_20 rfl 1 rfl ?_
  refine r_bipush (v := 21) hK d_M_readItem_21 (by decide) ?_
  refine r_Vi (avL := [g_i 21]) (st := []) hK ob_M rfl w8_174 wp_13 w8_172 w8_175 w1_6 (by decide) pl_M_is (by rw [hD]; decide) (Nat.le_of_ble_eq_true rfl) rfl d_M_readItem_23 (fun o9 h9 => c_M_is _ _ _ _ _ o9 h9) h (fun i7 s8 h => ?_)
  refine r_ifeq (tgt := 64) hK d_M_readItem_26 (by decide) h (fun h => ?_) (fun h => ?_)
  · refine r_aload_n hK d_M_readItem_64 rfl 1 rfl ?_
    refine r_Vi (avL := []) (st := []) hK ob_M rfl w8_178 wp_14 w8_176 w8_179 w1_6 (by decide) pl_M_bad (by rw [hD]; decide) (Nat.le_of_ble_eq_true rfl) rfl d_M_readItem_65 (fun o9 h9 => c_M_bad _ _ _ _ o9 h9) h (fun i9 s10 h => ?_)
    refine r_ifne (tgt := 115) hK d_M_readItem_68 (by decide) h (fun h => ?_) (fun h => ?_)
    · exact r_sub [1, 2] rfl (t_M_readItem_115 hK hN hD _ _ _ h)
    · refine r_iload_n hK d_M_readItem_71 rfl 0 rfl ?_
      refine r_bipush (v := 22) hK d_M_readItem_72 (by decide) ?_
      refine r_if_icmplt (tgt := 115) hK d_M_readItem_74 (by decide) h (fun h => ?_) (fun h => ?_)
      · exact r_sub [1, 2] rfl (t_M_readItem_115 hK hN hD _ _ _ h)
      · refine r_iload_n hK d_M_readItem_77 rfl 0 rfl ?_
        refine r_bipush (v := 24) hK d_M_readItem_78 (by decide) ?_
        refine r_if_icmpgt (tgt := 115) hK d_M_readItem_80 (by decide) h (fun h => ?_) (fun h => ?_)
        · exact r_sub [1, 2] rfl (t_M_readItem_115 hK hN hD _ _ _ h)
        · refine r_aload_n hK d_M_readItem_83 rfl 1 rfl ?_
          refine r_dup hK d_M_readItem_84 rfl ?_
          refine r_gI hK fd_M_9 w7_41 d_M_readItem_85 h (fun i11 h => ?_)
          refine r_iconst (v := 1) hK d_M_readItem_88 (by decide) ?_
          refine r_iadd hK d_M_readItem_89 ?_
          refine r_pI hK fd_M_9 rfl w7_41 d_M_readItem_90 h (fun s12 h => ?_)
          refine r_aload_n hK d_M_readItem_93 rfl 1 rfl ?_
          refine r_bipush (v := 40) hK d_M_readItem_94 (by decide) ?_
          refine r_Vv (avL := [g_i 40]) (st := []) hK ob_M rfl w8_194 wp_18 w8_192 w8_195 w1_6 (by decide) pl_M_needSign (by rw [hD]; decide) (Nat.le_of_ble_eq_true rfl) rfl d_M_readItem_96 (fun o9 h9 => c_M_needSign _ _ _ _ _ o9 h9) h (fun s14 h => ?_)
          refine r_aload_n hK d_M_readItem_99 rfl 1 rfl ?_
          refine r_gR hK fd_M_46 w7_78 d_M_readItem_100 h (fun p15 h => ?_)
          refine r_aload_n hK d_M_readItem_103 rfl 1 rfl ?_
          refine r_gI hK fd_M_44 w7_76 d_M_readItem_104 h (fun i16 h => ?_)
          refine r_aload_n hK d_M_readItem_107 rfl 1 rfl ?_
          refine r_Vi (avL := []) (st := [g_i i16, g_r 20 p15]) hK ob_M rfl w8_210 wp_22 w8_208 w8_211 w1_6 (by decide) pl_M_readExpression (by rw [hD]; decide) (Nat.le_of_ble_eq_true rfl) rfl d_M_readItem_108 (fun o9 h9 => c_M_readExpression _ _ _ _ o9 h9) h (fun i17 s18 h => ?_)
          refine r_iastore hK ar_20 rfl d_M_readItem_111 h (fun s19 h => ?_)
          refine r_goto (tgt := 130) hK d_M_readItem_112 (by decide) ?_
          exact r_sub [1, 2, 0] rfl (t_M_readItem_130 hK hN hD _ _ _ _ h)
  · refine r_aload_n hK d_M_readItem_29 rfl 1 rfl ?_
    refine r_dup hK d_M_readItem_30 rfl ?_
    refine r_gI hK fd_M_9 w7_41 d_M_readItem_31 h (fun i20 h => ?_)
    refine r_iconst (v := 1) hK d_M_readItem_34 (by decide) ?_
    refine r_iadd hK d_M_readItem_35 ?_
    refine r_pI hK fd_M_9 rfl w7_41 d_M_readItem_36 h (fun s21 h => ?_)
    refine r_aload_n hK d_M_readItem_39 rfl 1 rfl ?_
    refine r_bipush (v := 40) hK d_M_readItem_40 (by decide) ?_
    refine r_Vv (avL := [g_i 40]) (st := []) hK ob_M rfl w8_194 wp_18 w8_192 w8_195 w1_6 (by decide) pl_M_needSign (by rw [hD]; decide) (Nat.le_of_ble_eq_true rfl) rfl d_M_readItem_42 (fun o9 h9 => c_M_needSign _ _ _ _ _ o9 h9) h (fun s23 h => ?_)
    refine r_aload_n hK d_M_readItem_45 rfl 1 rfl ?_
    refine r_bipush (v := 42) hK d_M_readItem_46 (by decide) ?_
    refine r_Vv (avL := [g_i 42]) (st := []) hK ob_M rfl w8_194 wp_18 w8_192 w8_195 w1_6 (by decide) pl_M_needSign (by rw [hD]; decide) (Nat.le_of_ble_eq_true rfl) rfl d_M_readItem_48 (fun o9 h9 => c_M_needSign _ _ _ _ _ o9 h9) h (fun s25 h => ?_)
    refine r_aload_n hK d_M_readItem_51 rfl 1 rfl ?_
    refine r_gR hK fd_M_46 w7_78 d_M_readItem_52 h (fun p26 h => ?_)
    refine r_aload_n hK d_M_readItem_55 rfl 1 rfl ?_
    refine r_gI hK fd_M_44 w7_76 d_M_readItem_56 h (fun i27 h => ?_)
    refine r_iconst (v := (-1)) hK d_M_readItem_59 (by decide) ?_
    refine r_iastore hK ar_20 rfl d_M_readItem_60 h (fun s28 h => ?_)
    refine r_goto (tgt := 130) hK d_M_readItem_61 (by decide) ?_
    exact r_sub [1, 2, 0] rfl (t_M_readItem_130 hK hN hD _ _ _ _ h)
theorem c_M_readItem (l : Launch) (G : g_G) (r0 : Option Nat) (x1 : Int32) (u : g_St) (o : (Unit × g_St)) (h : f_M_readItem r0 x1 u = some o) : g_Con l G y_M_readItem b_M_readItem 3 (Option.none : Option Jvm.ClassFile.FieldType) 7 [g_r 1 r0, g_i x1] u (g_jV o) :=
  g_Con.of rfl rfl (by decide +kernel) (Nat.le_of_ble_eq_true rfl) (fun K hK hN hD hX => t_M_readItem_0 hK hN hD _ _ _ h)
def f_M_readSource (r0 : Option Nat) (s0 : g_St) : Option (Unit × g_St) :=
  g_gR s0 3649 r0 fun p1 =>
  g_gI s0 3585 r0 fun i2 =>
  g_c (g_nn r0 (f_M_need r0 30 s0)) fun i3 s4 =>
  g_sI s4 p1 i2 i3 fun s5 =>
  g_gR s5 3713 r0 fun p6 =>
  g_gI s5 3585 r0 fun i7 =>
  g_c (g_nn r0 (f_M_need r0 30 s5)) fun i8 s9 =>
  g_sI s9 p6 i7 i8 fun s10 =>
  g_gI s10 3585 r0 fun i11 =>
  g_pI s10 3585 r0 (i11 + 1) fun s12 =>
  some ((), s12)
set_option maxHeartbeats 4000000 in
set_option maxRecDepth 100000 in
theorem t_M_readSource_0 {K : g_C} {o : (Unit × g_St)} (hK : g_OK K b_M_readSource "FixpointEngineModel" "readSource" (Option.none : Option Jvm.ClassFile.FieldType)) (hN : g_nL K = 1) (hD : g_Kd K = 4) : ∀ (r0 : Option Nat) (s0 : g_St), f_M_readSource r0 s0 = some o → g_W K s0 [(0, g_r 1 r0)] [] 0 (g_jV o) := by
  intro r0 s0 h
  unfold f_M_readSource at h
  refine r_aload_n hK d_M_readSource_0 rfl 0 rfl ?_
  refine r_gR hK fd_M_57 w7_89 d_M_readSource_1 h (fun p1 h => ?_)
  refine r_aload_n hK d_M_readSource_4 rfl 0 rfl ?_
  refine r_gI hK fd_M_56 w7_88 d_M_readSource_5 h (fun i2 h => ?_)
  refine r_aload_n hK d_M_readSource_8 rfl 0 rfl ?_
  refine r_bipush (v := 30) hK d_M_readSource_9 (by decide) ?_
  refine r_Vi (avL := [g_i 30]) (st := [g_i i2, g_r 20 p1]) hK ob_M rfl w8_186 wp_16 w8_184 w8_187 w1_6 (by decide) pl_M_need (by rw [hD]; decide) (Nat.le_of_ble_eq_true rfl) rfl d_M_readSource_11 (fun o9 h9 => c_M_need _ _ _ _ _ o9 h9) h (fun i3 s4 h => ?_)
  refine r_iastore hK ar_20 rfl d_M_readSource_14 h (fun s5 h => ?_)
  refine r_aload_n hK d_M_readSource_15 rfl 0 rfl ?_
  refine r_gR hK fd_M_58 w7_90 d_M_readSource_16 h (fun p6 h => ?_)
  refine r_aload_n hK d_M_readSource_19 rfl 0 rfl ?_
  refine r_gI hK fd_M_56 w7_88 d_M_readSource_20 h (fun i7 h => ?_)
  refine r_aload_n hK d_M_readSource_23 rfl 0 rfl ?_
  refine r_bipush (v := 30) hK d_M_readSource_24 (by decide) ?_
  refine r_Vi (avL := [g_i 30]) (st := [g_i i7, g_r 20 p6]) hK ob_M rfl w8_186 wp_16 w8_184 w8_187 w1_6 (by decide) pl_M_need (by rw [hD]; decide) (Nat.le_of_ble_eq_true rfl) rfl d_M_readSource_26 (fun o9 h9 => c_M_need _ _ _ _ _ o9 h9) h (fun i8 s9 h => ?_)
  refine r_iastore hK ar_20 rfl d_M_readSource_29 h (fun s10 h => ?_)
  refine r_aload_n hK d_M_readSource_30 rfl 0 rfl ?_
  refine r_dup hK d_M_readSource_31 rfl ?_
  refine r_gI hK fd_M_56 w7_88 d_M_readSource_32 h (fun i11 h => ?_)
  refine r_iconst (v := 1) hK d_M_readSource_35 (by decide) ?_
  refine r_iadd hK d_M_readSource_36 ?_
  refine r_pI hK fd_M_56 rfl w7_88 d_M_readSource_37 h (fun s12 h => ?_)
  exact r_return hK d_M_readSource_40 h
theorem c_M_readSource (l : Launch) (G : g_G) (r0 : Option Nat) (u : g_St) (o : (Unit × g_St)) (h : f_M_readSource r0 u = some o) : g_Con l G y_M_readSource b_M_readSource 1 (Option.none : Option Jvm.ClassFile.FieldType) 4 [g_r 1 r0] u (g_jV o) :=
  g_Con.of rfl rfl (by decide +kernel) (Nat.le_of_ble_eq_true rfl) (fun K hK hN hD hX => t_M_readSource_0 hK hN hD _ _ h)
def f_M_readCondition_144 (r0 : Option Nat) (x2 : Int32) (s0 : g_St) : Option (Int32 × g_St) :=
  g_gR s0 4097 r0 fun p1 =>
  g_c (g_nn r0 (f_M_readExpression r0 s0)) fun i2 s3 =>
  g_sI s3 p1 x2 i2 fun s4 =>
  some (x2, s4)
def f_M_readCondition (r0 : Option Nat) (s0 : g_St) : Option (Int32 × g_St) :=
  g_c (g_nn r0 (f_M_readExpression r0 s0)) fun i1 s2 =>
  g_gI s2 3841 r0 fun i3 =>
  g_gI s2 3841 r0 fun i4 =>
  g_pI s2 3841 r0 (i4 + 1) fun s5 =>
  g_gR s5 4033 r0 fun p6 =>
  g_sI s5 p6 i3 i1 fun s7 =>
  g_c (g_nn r0 (f_M_skip r0 10 s7)) fun i8 s9 =>
  if i8 = 0 then
    g_gR s9 3905 r0 fun p10 =>
    g_sI s9 p10 i3 0 fun s11 =>
    g_gR s11 3969 r0 fun p12 =>
    g_gR s11 641 r0 fun p13 =>
    g_gI s11 577 r0 fun i14 =>
    g_aI s11 p13 i14 fun i15 =>
    g_sI s11 p12 i3 i15 fun s16 =>
    g_c (g_nn r0 (f_M_isSign r0 61 s16)) fun i17 s18 =>
    if i17 = 0 then
      g_c (g_nn r0 (f_M_isSign r0 60 s18)) fun i21 s22 =>
      if i21 = 0 then
        g_c (g_nn r0 (f_M_isSign r0 62 s22)) fun i25 s26 =>
        if i25 = 0 then
          g_c (g_nn r0 (f_M_is r0 32 s26)) fun i29 s30 =>
          if i29 = 0 then
            g_c (g_nn r0 (f_M_bad r0 s30)) fun i31 s32 =>
            if i31 = 0 then
              g_gR s32 705 r0 fun p33 =>
              g_gI s32 577 r0 fun i34 =>
              g_aI s32 p33 i34 fun i35 =>
              g_c (g_nn r0 (f_M_note r0 1 i35 s32)) fun _ s37 =>
              f_M_readCondition_144 r0 i3 s37
            else
              f_M_readCondition_144 r0 i3 s32
          else
            g_gI s30 577 r0 fun i38 =>
            g_pI s30 577 r0 (i38 + 1) fun s39 =>
            f_M_readCondition_144 r0 i3 s39
        else
          g_gI s26 577 r0 fun i27 =>
          g_pI s26 577 r0 (i27 + 1) fun s28 =>
          f_M_readCondition_144 r0 i3 s28
      else
        g_gI s22 577 r0 fun i23 =>
        g_pI s22 577 r0 (i23 + 1) fun s24 =>
        f_M_readCondition_144 r0 i3 s24
    else
      g_gI s18 577 r0 fun i19 =>
      g_pI s18 577 r0 (i19 + 1) fun s20 =>
      f_M_readCondition_144 r0 i3 s20
  else
    g_c (g_nn r0 (f_M_need r0 11 s9)) fun i40 s41 =>
    g_gR s41 3905 r0 fun p42 =>
    g_sI s41 p42 i3 1 fun s43 =>
    some (i3, s43)
set_option maxHeartbeats 4000000 in
set_option maxRecDepth 100000 in
theorem t_M_readCondition_144 {K : g_C} {o : (Int32 × g_St)} (hK : g_OK K b_M_readCondition "FixpointEngineModel" "readCondition" (Option.some Jvm.ClassFile.FieldType.int)) (hN : g_nL K = 3) (hD : g_Kd K = 7) : ∀ (r0 : Option Nat) (x2 : Int32) (s0 : g_St), f_M_readCondition_144 r0 x2 s0 = some o → g_W K s0 [(0, g_r 1 r0), (2, g_i x2)] [] 144 (g_jI o) := by
  intro r0 x2 s0 h
  unfold f_M_readCondition_144 at h
  refine r_aload_n hK d_M_readCondition_144 rfl 0 rfl ?_
  refine r_gR hK fd_M_64 w7_96 d_M_readCondition_145 h (fun p1 h => ?_)
  refine r_iload_n hK d_M_readCondition_148 rfl 1 rfl ?_
  refine r_aload_n hK d_M_readCondition_149 rfl 0 rfl ?_
  refine r_Vi (avL := []) (st := [g_i x2, g_r 20 p1]) hK ob_M rfl w8_210 wp_22 w8_208 w8_211 w1_6 (by decide) pl_M_readExpression (by rw [hD]; decide) (Nat.le_of_ble_eq_true rfl) rfl d_M_readCondition_150 (fun o9 h9 => c_M_readExpression _ _ _ _ o9 h9) h (fun i2 s3 h => ?_)
  refine r_iastore hK ar_20 rfl d_M_readCondition_153 h (fun s4 h => ?_)
  refine r_iload_n hK d_M_readCondition_154 rfl 1 rfl ?_
  exact r_ireturn hK d_M_readCondition_155 h
set_option maxHeartbeats 4000000 in
set_option maxRecDepth 100000 in
theorem t_M_readCondition_0 {K : g_C} {o : (Int32 × g_St)} (hK : g_OK K b_M_readCondition "FixpointEngineModel" "readCondition" (Option.some Jvm.ClassFile.FieldType.int)) (hN : g_nL K = 3) (hD : g_Kd K = 7) : ∀ (r0 : Option Nat) (s0 : g_St), f_M_readCondition r0 s0 = some o → g_W K s0 [(0, g_r 1 r0)] [] 0 (g_jI o) := by
  intro r0 s0 h
  unfold f_M_readCondition at h
  refine r_aload_n hK d_M_readCondition_0 rfl 0 rfl ?_
  refine r_Vi (avL := []) (st := []) hK ob_M rfl w8_210 wp_22 w8_208 w8_211 w1_6 (by decide) pl_M_readExpression (by rw [hD]; decide) (Nat.le_of_ble_eq_true rfl) rfl d_M_readCondition_1 (fun o9 h9 => c_M_readExpression _ _ _ _ o9 h9) h (fun i1 s2 h => ?_)
  refine r_istore_n (ls1 := [(1, g_i i1), (0, g_r 1 r0)]) hK d_M_readCondition_4 rfl (by rw [hN]; decide) rfl ?_
  refine r_aload_n hK d_M_readCondition_5 rfl 1 rfl ?_
  refine r_gI hK fd_M_60 w7_92 d_M_readCondition_6 h (fun i3 h => ?_)
  refine r_istore_n (ls1 := [(2, g_i i3), (1, g_i i1), (0, g_r 1 r0)]) hK d_M_readCondition_9 rfl (by rw [hN]; decide) rfl ?_
  refine r_aload_n hK d_M_readCondition_10 rfl 2 rfl ?_
  refine r_dup hK d_M_readCondition_11 rfl ?_
  refine r_gI hK fd_M_60 w7_92 d_M_readCondition_12 h (fun i4 h => ?_)
  refine r_iconst (v := 1) hK d_M_readCondition_15 (by decide) ?_
  refine r_iadd hK d_M_readCondition_16 ?_
  refine r_pI hK fd_M_60 rfl w7_92 d_M_readCondition_17 h (fun s5 h => ?_)
  refine r_aload_n hK d_M_readCondition_20 rfl 2 rfl ?_
  refine r_gR hK fd_M_63 w7_95 d_M_readCondition_21 h (fun p6 h => ?_)
  refine r_iload_n hK d_M_readCondition_24 rfl 0 rfl ?_
  refine r_iload_n hK d_M_readCondition_25 rfl 1 rfl ?_
  refine r_iastore hK ar_20 rfl d_M_readCondition_26 h (fun s7 h => ?_)
  refine r_aload_n hK d_M_readCondition_27 rfl 2 rfl ?_
  refine r_bipush (v := 10) hK d_M_readCondition_28 (by decide) ?_
  refine r_Vi (avL := [g_i 10]) (st := []) hK ob_M rfl w8_170 wp_12 w8_168 w8_171 w1_6 (by decide) pl_M_skip (by rw [hD]; decide) (Nat.le_of_ble_eq_true rfl) rfl d_M_readCondition_30 (fun o9 h9 => c_M_skip _ _ _ _ _ o9 h9) h (fun i8 s9 h => ?_)
  refine r_ifeq (tgt := 52) hK d_M_readCondition_33 (by decide) h (fun h => ?_) (fun h => ?_)
  · refine r_aload_n hK d_M_readCondition_52 rfl 2 rfl ?_
    refine r_gR hK fd_M_61 w7_93 d_M_readCondition_53 h (fun p10 h => ?_)
    refine r_iload_n hK d_M_readCondition_56 rfl 0 rfl ?_
    refine r_iconst (v := 0) hK d_M_readCondition_57 (by decide) ?_
    refine r_iastore hK ar_20 rfl d_M_readCondition_58 h (fun s11 h => ?_)
    refine r_aload_n hK d_M_readCondition_59 rfl 2 rfl ?_
    refine r_gR hK fd_M_62 w7_94 d_M_readCondition_60 h (fun p12 h => ?_)
    refine r_iload_n hK d_M_readCondition_63 rfl 0 rfl ?_
    refine r_aload_n hK d_M_readCondition_64 rfl 2 rfl ?_
    refine r_gR hK fd_M_10 w7_42 d_M_readCondition_65 h (fun p13 h => ?_)
    refine r_aload_n hK d_M_readCondition_68 rfl 2 rfl ?_
    refine r_gI hK fd_M_9 w7_41 d_M_readCondition_69 h (fun i14 h => ?_)
    refine r_iaload hK ar_20 rfl d_M_readCondition_72 h (fun i15 h => ?_)
    refine r_iastore hK ar_20 rfl d_M_readCondition_73 h (fun s16 h => ?_)
    refine r_aload_n hK d_M_readCondition_74 rfl 2 rfl ?_
    refine r_bipush (v := 61) hK d_M_readCondition_75 (by decide) ?_
    refine r_Vi (avL := [g_i 61]) (st := []) hK ob_M rfl w8_218 wp_24 w8_216 w8_219 w1_6 (by decide) pl_M_isSign (by rw [hD]; decide) (Nat.le_of_ble_eq_true rfl) rfl d_M_readCondition_77 (fun o9 h9 => c_M_isSign _ _ _ _ _ o9 h9) h (fun i17 s18 h => ?_)
    refine r_ifne (tgt := 110) hK d_M_readCondition_80 (by decide) h (fun h => ?_) (fun h => ?_)
    · refine r_aload_n hK d_M_readCondition_110 rfl 2 rfl ?_
      refine r_dup hK d_M_readCondition_111 rfl ?_
      refine r_gI hK fd_M_9 w7_41 d_M_readCondition_112 h (fun i19 h => ?_)
      refine r_iconst (v := 1) hK d_M_readCondition_115 (by decide) ?_
      refine r_iadd hK d_M_readCondition_116 ?_
      refine r_pI hK fd_M_9 rfl w7_41 d_M_readCondition_117 h (fun s20 h => ?_)
      refine r_goto (tgt := 144) hK d_M_readCondition_120 (by decide) ?_
      exact r_sub [2, 0] rfl (t_M_readCondition_144 hK hN hD _ _ _ h)
    · refine r_aload_n hK d_M_readCondition_83 rfl 2 rfl ?_
      refine r_bipush (v := 60) hK d_M_readCondition_84 (by decide) ?_
      refine r_Vi (avL := [g_i 60]) (st := []) hK ob_M rfl w8_218 wp_24 w8_216 w8_219 w1_6 (by decide) pl_M_isSign (by rw [hD]; decide) (Nat.le_of_ble_eq_true rfl) rfl d_M_readCondition_86 (fun o9 h9 => c_M_isSign _ _ _ _ _ o9 h9) h (fun i21 s22 h => ?_)
      refine r_ifne (tgt := 110) hK d_M_readCondition_89 (by decide) h (fun h => ?_) (fun h => ?_)
      · refine r_aload_n hK d_M_readCondition_110 rfl 2 rfl ?_
        refine r_dup hK d_M_readCondition_111 rfl ?_
        refine r_gI hK fd_M_9 w7_41 d_M_readCondition_112 h (fun i23 h => ?_)
        refine r_iconst (v := 1) hK d_M_readCondition_115 (by decide) ?_
        refine r_iadd hK d_M_readCondition_116 ?_
        refine r_pI hK fd_M_9 rfl w7_41 d_M_readCondition_117 h (fun s24 h => ?_)
        refine r_goto (tgt := 144) hK d_M_readCondition_120 (by decide) ?_
        exact r_sub [2, 0] rfl (t_M_readCondition_144 hK hN hD _ _ _ h)
      · refine r_aload_n hK d_M_readCondition_92 rfl 2 rfl ?_
        refine r_bipush (v := 62) hK d_M_readCondition_93 (by decide) ?_
        refine r_Vi (avL := [g_i 62]) (st := []) hK ob_M rfl w8_218 wp_24 w8_216 w8_219 w1_6 (by decide) pl_M_isSign (by rw [hD]; decide) (Nat.le_of_ble_eq_true rfl) rfl d_M_readCondition_95 (fun o9 h9 => c_M_isSign _ _ _ _ _ o9 h9) h (fun i25 s26 h => ?_)
        refine r_ifne (tgt := 110) hK d_M_readCondition_98 (by decide) h (fun h => ?_) (fun h => ?_)
        · refine r_aload_n hK d_M_readCondition_110 rfl 2 rfl ?_
          refine r_dup hK d_M_readCondition_111 rfl ?_
          refine r_gI hK fd_M_9 w7_41 d_M_readCondition_112 h (fun i27 h => ?_)
          refine r_iconst (v := 1) hK d_M_readCondition_115 (by decide) ?_
          refine r_iadd hK d_M_readCondition_116 ?_
          refine r_pI hK fd_M_9 rfl w7_41 d_M_readCondition_117 h (fun s28 h => ?_)
          refine r_goto (tgt := 144) hK d_M_readCondition_120 (by decide) ?_
          exact r_sub [2, 0] rfl (t_M_readCondition_144 hK hN hD _ _ _ h)
        · refine r_aload_n hK d_M_readCondition_101 rfl 2 rfl ?_
          refine r_bipush (v := 32) hK d_M_readCondition_102 (by decide) ?_
          refine r_Vi (avL := [g_i 32]) (st := []) hK ob_M rfl w8_174 wp_13 w8_172 w8_175 w1_6 (by decide) pl_M_is (by rw [hD]; decide) (Nat.le_of_ble_eq_true rfl) rfl d_M_readCondition_104 (fun o9 h9 => c_M_is _ _ _ _ _ o9 h9) h (fun i29 s30 h => ?_)
          refine r_ifeq (tgt := 123) hK d_M_readCondition_107 (by decide) h (fun h => ?_) (fun h => ?_)
          · refine r_aload_n hK d_M_readCondition_123 rfl 2 rfl ?_
            refine r_Vi (avL := []) (st := []) hK ob_M rfl w8_178 wp_14 w8_176 w8_179 w1_6 (by decide) pl_M_bad (by rw [hD]; decide) (Nat.le_of_ble_eq_true rfl) rfl d_M_readCondition_124 (fun o9 h9 => c_M_bad _ _ _ _ o9 h9) h (fun i31 s32 h => ?_)
            refine r_ifne (tgt := 144) hK d_M_readCondition_127 (by decide) h (fun h => ?_) (fun h => ?_)
            · exact r_sub [2, 0] rfl (t_M_readCondition_144 hK hN hD _ _ _ h)
            · refine r_aload_n hK d_M_readCondition_130 rfl 2 rfl ?_
              refine r_iconst (v := 1) hK d_M_readCondition_131 (by decide) ?_
              refine r_aload_n hK d_M_readCondition_132 rfl 2 rfl ?_
              refine r_gR hK fd_M_11 w7_43 d_M_readCondition_133 h (fun p33 h => ?_)
              refine r_aload_n hK d_M_readCondition_136 rfl 2 rfl ?_
              refine r_gI hK fd_M_9 w7_41 d_M_readCondition_137 h (fun i34 h => ?_)
              refine r_iaload hK ar_20 rfl d_M_readCondition_140 h (fun i35 h => ?_)
              refine r_Vv (avL := [g_i 1, g_i i35]) (st := []) hK ob_M rfl w8_190 wp_17 w8_188 w8_191 w1_6 (by decide) pl_M_note (by rw [hD]; decide) (Nat.le_of_ble_eq_true rfl) rfl d_M_readCondition_141 (fun o9 h9 => c_M_note _ _ _ _ _ _ o9 h9) h (fun s37 h => ?_)
              exact r_sub [2, 0] rfl (t_M_readCondition_144 hK hN hD _ _ _ h)
          · refine r_aload_n hK d_M_readCondition_110 rfl 2 rfl ?_
            refine r_dup hK d_M_readCondition_111 rfl ?_
            refine r_gI hK fd_M_9 w7_41 d_M_readCondition_112 h (fun i38 h => ?_)
            refine r_iconst (v := 1) hK d_M_readCondition_115 (by decide) ?_
            refine r_iadd hK d_M_readCondition_116 ?_
            refine r_pI hK fd_M_9 rfl w7_41 d_M_readCondition_117 h (fun s39 h => ?_)
            refine r_goto (tgt := 144) hK d_M_readCondition_120 (by decide) ?_
            exact r_sub [2, 0] rfl (t_M_readCondition_144 hK hN hD _ _ _ h)
  · refine r_aload_n hK d_M_readCondition_36 rfl 2 rfl ?_
    refine r_bipush (v := 11) hK d_M_readCondition_37 (by decide) ?_
    refine r_Vi (avL := [g_i 11]) (st := []) hK ob_M rfl w8_186 wp_16 w8_184 w8_187 w1_6 (by decide) pl_M_need (by rw [hD]; decide) (Nat.le_of_ble_eq_true rfl) rfl d_M_readCondition_39 (fun o9 h9 => c_M_need _ _ _ _ _ o9 h9) h (fun i40 s41 h => ?_)
    refine r_pop hK d_M_readCondition_42 rfl ?_
    refine r_aload_n hK d_M_readCondition_43 rfl 2 rfl ?_
    refine r_gR hK fd_M_61 w7_93 d_M_readCondition_44 h (fun p42 h => ?_)
    refine r_iload_n hK d_M_readCondition_47 rfl 0 rfl ?_
    refine r_iconst (v := 1) hK d_M_readCondition_48 (by decide) ?_
    refine r_iastore hK ar_20 rfl d_M_readCondition_49 h (fun s43 h => ?_)
    refine r_iload_n hK d_M_readCondition_50 rfl 0 rfl ?_
    exact r_ireturn hK d_M_readCondition_51 h
theorem c_M_readCondition (l : Launch) (G : g_G) (r0 : Option Nat) (u : g_St) (o : (Int32 × g_St)) (h : f_M_readCondition r0 u = some o) : g_Con l G y_M_readCondition b_M_readCondition 3 (Option.some Jvm.ClassFile.FieldType.int) 7 [g_r 1 r0] u (g_jI o) :=
  g_Con.of rfl rfl (by decide +kernel) (Nat.le_of_ble_eq_true rfl) (fun K hK hN hD hX => t_M_readCondition_0 hK hN hD _ _ h)
def f_M_readNotExists_201 (r0 : Option Nat) (x1 : Int32) (s0 : g_St) : Option (Int32 × g_St) :=
  g_c (g_nn r0 (f_M_needSign r0 41 s0)) fun _ s2 =>
  some (x1, s2)
def f_M_readNotExists_133 : Nat → Option Nat → Int32 → Int32 → g_St → Option (Int32 × g_St)
  | 0, _, _, _, _ => none
  | n + 1, r0, x1, x2, s0 =>
    if x2 = 0 then
      f_M_readNotExists_201 r0 x1 s0
    else
      g_c (g_nn r0 (f_M_bad r0 s0)) fun i1 s2 =>
      if i1 = 0 then
        g_gR s2 4289 r0 fun p3 =>
        g_gR s2 4225 r0 fun p4 =>
        g_aI s2 p4 x1 fun i5 =>
        g_c (g_nn r0 (f_M_readCondition r0 s2)) fun i6 s7 =>
        g_sI s7 p3 ((3 * x1) + i5) i6 fun s8 =>
        g_gR s8 4225 r0 fun p9 =>
        g_aI s8 p9 x1 fun i10 =>
        g_sI s8 p9 x1 (i10 + 1) fun s11 =>
        g_gR s11 4225 r0 fun p12 =>
        g_aI s11 p12 x1 fun i13 =>
        if 3 ≤ i13 then
          f_M_readNotExists_133 n r0 x1 0 s11
        else
          g_c (g_nn r0 (f_M_skip r0 7 s11)) fun i14 s15 =>
          if i14 = 0 then
            f_M_readNotExists_133 n r0 x1 0 s15
          else
            f_M_readNotExists_133 n r0 x1 1 s15
      else
        f_M_readNotExists_201 r0 x1 s2
def f_M_readNotExists_95 (r0 : Option Nat) (x1 : Int32) (s0 : g_St) : Option (Int32 × g_St) :=
  g_c (g_nn r0 (f_M_need r0 31 s0)) fun i1 s2 =>
  g_c (g_nn r0 (f_M_need r0 5 s2)) fun i3 s4 =>
  g_gR s4 4161 r0 fun p5 =>
  g_gI s4 3585 r0 fun i6 =>
  g_sI s4 p5 x1 i6 fun s7 =>
  g_c (g_nn r0 (f_M_readSource r0 s7)) fun _ s9 =>
  g_c (g_nn r0 (f_M_skip r0 6 s9)) fun i10 s11 =>
  if i10 = 0 then
    f_M_readNotExists_201 r0 x1 s11
  else
    f_M_readNotExists_133 200000 r0 x1 1 s11
def f_M_readNotExists (r0 : Option Nat) (s0 : g_St) : Option (Int32 × g_St) :=
  g_gI s0 577 r0 fun i1 =>
  g_pI s0 577 r0 (i1 + 1) fun s2 =>
  g_gI s2 3841 r0 fun i3 =>
  g_gI s2 3841 r0 fun i4 =>
  g_pI s2 3841 r0 (i4 + 1) fun s5 =>
  g_gR s5 3905 r0 fun p6 =>
  g_sI s5 p6 i3 2 fun s7 =>
  g_gR s7 4225 r0 fun p8 =>
  g_sI s7 p8 i3 0 fun s9 =>
  g_c (g_nn r0 (f_M_need r0 9 s9)) fun i10 s11 =>
  g_c (g_nn r0 (f_M_needSign r0 40 s11)) fun _ s13 =>
  g_c (g_nn r0 (f_M_need r0 4 s13)) fun i14 s15 =>
  g_c (g_nn r0 (f_M_is r0 31 s15)) fun i16 s17 =>
  if i16 = 0 then
    f_M_readNotExists_95 r0 i3 s17
  else
    g_gR s17 769 r0 fun p18 =>
    g_gI s17 577 r0 fun i19 =>
    g_aL s17 p18 i19 fun j20 =>
    if j20 = 1 then
      f_M_readNotExists_95 r0 i3 s17
    else
      g_gR s17 705 r0 fun p21 =>
      g_gI s17 577 r0 fun i22 =>
      g_aI s17 p21 i22 fun i23 =>
      g_c (g_nn r0 (f_M_note r0 1 i23 s17)) fun _ s25 =>
      f_M_readNotExists_95 r0 i3 s25
set_option maxHeartbeats 4000000 in
set_option maxRecDepth 100000 in
theorem t_M_readNotExists_201 {K : g_C} {o : (Int32 × g_St)} (hK : g_OK K b_M_readNotExists "FixpointEngineModel" "readNotExists" (Option.some Jvm.ClassFile.FieldType.int)) (hN : g_nL K = 3) (hD : g_Kd K = 8) : ∀ (r0 : Option Nat) (x1 : Int32) (s0 : g_St), f_M_readNotExists_201 r0 x1 s0 = some o → g_W K s0 [(0, g_r 1 r0), (1, g_i x1)] [] 201 (g_jI o) := by
  intro r0 x1 s0 h
  unfold f_M_readNotExists_201 at h
  refine r_aload_n hK d_M_readNotExists_201 rfl 0 rfl ?_
  refine r_bipush (v := 41) hK d_M_readNotExists_202 (by decide) ?_
  refine r_Vv (avL := [g_i 41]) (st := []) hK ob_M rfl w8_194 wp_18 w8_192 w8_195 w1_6 (by decide) pl_M_needSign (by rw [hD]; decide) (Nat.le_of_ble_eq_true rfl) rfl d_M_readNotExists_204 (fun o9 h9 => c_M_needSign _ _ _ _ _ o9 h9) h (fun s2 h => ?_)
  refine r_iload_n hK d_M_readNotExists_207 rfl 1 rfl ?_
  exact r_ireturn hK d_M_readNotExists_208 h
set_option maxHeartbeats 4000000 in
set_option maxRecDepth 100000 in
theorem t_M_readNotExists_133 {K : g_C} {o : (Int32 × g_St)} (hK : g_OK K b_M_readNotExists "FixpointEngineModel" "readNotExists" (Option.some Jvm.ClassFile.FieldType.int)) (hN : g_nL K = 3) (hD : g_Kd K = 8) : ∀ (n : Nat) (r0 : Option Nat) (x1 : Int32) (x2 : Int32) (s0 : g_St), f_M_readNotExists_133 n r0 x1 x2 s0 = some o → g_W K s0 [(0, g_r 1 r0), (1, g_i x1), (2, g_i x2)] [] 133 (g_jI o) := by
  intro n
  induction n with
  | zero =>
    intro r0 x1 x2 s0 h
    cases h
  | succ n ih =>
    intro r0 x1 x2 s0 h
    unfold f_M_readNotExists_133 at h
    refine r_iload_n hK d_M_readNotExists_133 rfl 2 rfl ?_
    refine r_ifeq (tgt := 201) hK d_M_readNotExists_134 (by decide) h (fun h => ?_) (fun h => ?_)
    · exact r_sub [0, 1] rfl (t_M_readNotExists_201 hK hN hD _ _ _ h)
    · refine r_aload_n hK d_M_readNotExists_137 rfl 0 rfl ?_
      refine r_Vi (avL := []) (st := []) hK ob_M rfl w8_178 wp_14 w8_176 w8_179 w1_6 (by decide) pl_M_bad (by rw [hD]; decide) (Nat.le_of_ble_eq_true rfl) rfl d_M_readNotExists_138 (fun o9 h9 => c_M_bad _ _ _ _ o9 h9) h (fun i1 s2 h => ?_)
      refine r_ifne (tgt := 201) hK d_M_readNotExists_141 (by decide) h (fun h => ?_) (fun h => ?_)
      · exact r_sub [0, 1] rfl (t_M_readNotExists_201 hK hN hD _ _ _ h)
      · refine r_aload_n hK d_M_readNotExists_144 rfl 0 rfl ?_
        refine r_gR hK fd_M_67 w7_99 d_M_readNotExists_145 h (fun p3 h => ?_)
        refine r_iconst (v := 3) hK d_M_readNotExists_148 (by decide) ?_
        refine r_iload_n hK d_M_readNotExists_149 rfl 1 rfl ?_
        refine r_imul hK d_M_readNotExists_150 ?_
        refine r_aload_n hK d_M_readNotExists_151 rfl 0 rfl ?_
        refine r_gR hK fd_M_66 w7_98 d_M_readNotExists_152 h (fun p4 h => ?_)
        refine r_iload_n hK d_M_readNotExists_155 rfl 1 rfl ?_
        refine r_iaload hK ar_20 rfl d_M_readNotExists_156 h (fun i5 h => ?_)
        refine r_iadd hK d_M_readNotExists_157 ?_
        refine r_aload_n hK d_M_readNotExists_158 rfl 0 rfl ?_
        refine r_Vi (avL := []) (st := [g_i ((3 * x1) + i5), g_r 20 p3]) hK ob_M rfl w8_230 wp_27 w8_228 w8_231 w1_6 (by decide) pl_M_readCondition (by rw [hD]; decide) (Nat.le_of_ble_eq_true rfl) rfl d_M_readNotExists_159 (fun o9 h9 => c_M_readCondition _ _ _ _ o9 h9) h (fun i6 s7 h => ?_)
        refine r_iastore hK ar_20 rfl d_M_readNotExists_162 h (fun s8 h => ?_)
        refine r_aload_n hK d_M_readNotExists_163 rfl 0 rfl ?_
        refine r_gR hK fd_M_66 w7_98 d_M_readNotExists_164 h (fun p9 h => ?_)
        refine r_iload_n hK d_M_readNotExists_167 rfl 1 rfl ?_
        refine r_dup2_11 hK d_M_readNotExists_168 rfl rfl ?_
        refine r_iaload hK ar_20 rfl d_M_readNotExists_169 h (fun i10 h => ?_)
        refine r_iconst (v := 1) hK d_M_readNotExists_170 (by decide) ?_
        refine r_iadd hK d_M_readNotExists_171 ?_
        refine r_iastore hK ar_20 rfl d_M_readNotExists_172 h (fun s11 h => ?_)
        refine r_aload_n hK d_M_readNotExists_173 rfl 0 rfl ?_
        refine r_gR hK fd_M_66 w7_98 d_M_readNotExists_174 h (fun p12 h => ?_)
        refine r_iload_n hK d_M_readNotExists_177 rfl 1 rfl ?_
        refine r_iaload hK ar_20 rfl d_M_readNotExists_178 h (fun i13 h => ?_)
        refine r_iconst (v := 3) hK d_M_readNotExists_179 (by decide) ?_
        refine r_if_icmpge (tgt := 196) hK d_M_readNotExists_180 (by decide) h (fun h => ?_) (fun h => ?_)
        · refine r_iconst (v := 0) hK d_M_readNotExists_196 (by decide) ?_
          refine r_istore_n (ls1 := [(2, g_i 0), (0, g_r 1 r0), (1, g_i x1)]) hK d_M_readNotExists_197 rfl (by rw [hN]; decide) rfl ?_
          refine r_goto (tgt := 133) hK d_M_readNotExists_198 (by decide) ?_
          exact r_sub [1, 2, 0] rfl (ih _ _ _ _ h)
        · refine r_aload_n hK d_M_readNotExists_183 rfl 0 rfl ?_
          refine r_bipush (v := 7) hK d_M_readNotExists_184 (by decide) ?_
          refine r_Vi (avL := [g_i 7]) (st := []) hK ob_M rfl w8_170 wp_12 w8_168 w8_171 w1_6 (by decide) pl_M_skip (by rw [hD]; decide) (Nat.le_of_ble_eq_true rfl) rfl d_M_readNotExists_186 (fun o9 h9 => c_M_skip _ _ _ _ _ o9 h9) h (fun i14 s15 h => ?_)
          refine r_ifeq (tgt := 196) hK d_M_readNotExists_189 (by decide) h (fun h => ?_) (fun h => ?_)
          · refine r_iconst (v := 0) hK d_M_readNotExists_196 (by decide) ?_
            refine r_istore_n (ls1 := [(2, g_i 0), (0, g_r 1 r0), (1, g_i x1)]) hK d_M_readNotExists_197 rfl (by rw [hN]; decide) rfl ?_
            refine r_goto (tgt := 133) hK d_M_readNotExists_198 (by decide) ?_
            exact r_sub [1, 2, 0] rfl (ih _ _ _ _ h)
          · refine r_iconst (v := 1) hK d_M_readNotExists_192 (by decide) ?_
            refine r_goto (tgt := 197) hK d_M_readNotExists_193 (by decide) ?_
            refine r_istore_n (ls1 := [(2, g_i 1), (0, g_r 1 r0), (1, g_i x1)]) hK d_M_readNotExists_197 rfl (by rw [hN]; decide) rfl ?_
            refine r_goto (tgt := 133) hK d_M_readNotExists_198 (by decide) ?_
            exact r_sub [1, 2, 0] rfl (ih _ _ _ _ h)
set_option maxHeartbeats 4000000 in
set_option maxRecDepth 100000 in
theorem t_M_readNotExists_95 {K : g_C} {o : (Int32 × g_St)} (hK : g_OK K b_M_readNotExists "FixpointEngineModel" "readNotExists" (Option.some Jvm.ClassFile.FieldType.int)) (hN : g_nL K = 3) (hD : g_Kd K = 8) : ∀ (r0 : Option Nat) (x1 : Int32) (s0 : g_St), f_M_readNotExists_95 r0 x1 s0 = some o → g_W K s0 [(0, g_r 1 r0), (1, g_i x1)] [] 95 (g_jI o) := by
  intro r0 x1 s0 h
  unfold f_M_readNotExists_95 at h
  refine r_aload_n hK d_M_readNotExists_95 rfl 0 rfl ?_
  refine r_bipush (v := 31) hK d_M_readNotExists_96 (by decide) ?_
  refine r_Vi (avL := [g_i 31]) (st := []) hK ob_M rfl w8_186 wp_16 w8_184 w8_187 w1_6 (by decide) pl_M_need (by rw [hD]; decide) (Nat.le_of_ble_eq_true rfl) rfl d_M_readNotExists_98 (fun o9 h9 => c_M_need _ _ _ _ _ o9 h9) h (fun i1 s2 h => ?_)
  refine r_pop hK d_M_readNotExists_101 rfl ?_
  refine r_aload_n hK d_M_readNotExists_102 rfl 0 rfl ?_
  refine r_iconst (v := 5) hK d_M_readNotExists_103 (by decide) ?_
  refine r_Vi (avL := [g_i 5]) (st := []) hK ob_M rfl w8_186 wp_16 w8_184 w8_187 w1_6 (by decide) pl_M_need (by rw [hD]; decide) (Nat.le_of_ble_eq_true rfl) rfl d_M_readNotExists_104 (fun o9 h9 => c_M_need _ _ _ _ _ o9 h9) h (fun i3 s4 h => ?_)
  refine r_pop hK d_M_readNotExists_107 rfl ?_
  refine r_aload_n hK d_M_readNotExists_108 rfl 0 rfl ?_
  refine r_gR hK fd_M_65 w7_97 d_M_readNotExists_109 h (fun p5 h => ?_)
  refine r_iload_n hK d_M_readNotExists_112 rfl 1 rfl ?_
  refine r_aload_n hK d_M_readNotExists_113 rfl 0 rfl ?_
  refine r_gI hK fd_M_56 w7_88 d_M_readNotExists_114 h (fun i6 h => ?_)
  refine r_iastore hK ar_20 rfl d_M_readNotExists_117 h (fun s7 h => ?_)
  refine r_aload_n hK d_M_readNotExists_118 rfl 0 rfl ?_
  refine r_Vv (avL := []) (st := []) hK ob_M rfl w8_222 wp_25 w8_220 w8_223 w1_6 (by decide) pl_M_readSource (by rw [hD]; decide) (Nat.le_of_ble_eq_true rfl) rfl d_M_readNotExists_119 (fun o9 h9 => c_M_readSource _ _ _ _ o9 h9) h (fun s9 h => ?_)
  refine r_aload_n hK d_M_readNotExists_122 rfl 0 rfl ?_
  refine r_bipush (v := 6) hK d_M_readNotExists_123 (by decide) ?_
  refine r_Vi (avL := [g_i 6]) (st := []) hK ob_M rfl w8_170 wp_12 w8_168 w8_171 w1_6 (by decide) pl_M_skip (by rw [hD]; decide) (Nat.le_of_ble_eq_true rfl) rfl d_M_readNotExists_125 (fun o9 h9 => c_M_skip _ _ _ _ _ o9 h9) h (fun i10 s11 h => ?_)
  refine r_ifeq (tgt := 201) hK d_M_readNotExists_128 (by decide) h (fun h => ?_) (fun h => ?_)
  · exact r_sub [0, 1] rfl (t_M_readNotExists_201 hK hN hD _ _ _ h)
  · refine r_iconst (v := 1) hK d_M_readNotExists_131 (by decide) ?_
    refine r_istore_n (ls1 := [(2, g_i 1), (0, g_r 1 r0), (1, g_i x1)]) hK d_M_readNotExists_132 rfl (by rw [hN]; decide) rfl ?_
    exact r_sub [1, 2, 0] rfl (t_M_readNotExists_133 hK hN hD _ _ _ _ _ h)
set_option maxHeartbeats 4000000 in
set_option maxRecDepth 100000 in
theorem t_M_readNotExists_0 {K : g_C} {o : (Int32 × g_St)} (hK : g_OK K b_M_readNotExists "FixpointEngineModel" "readNotExists" (Option.some Jvm.ClassFile.FieldType.int)) (hN : g_nL K = 3) (hD : g_Kd K = 8) : ∀ (r0 : Option Nat) (s0 : g_St), f_M_readNotExists r0 s0 = some o → g_W K s0 [(0, g_r 1 r0)] [] 0 (g_jI o) := by
  intro r0 s0 h
  unfold f_M_readNotExists at h
  refine r_aload_n hK d_M_readNotExists_0 rfl 0 rfl ?_
  refine r_dup hK d_M_readNotExists_1 rfl ?_
  refine r_gI hK fd_M_9 w7_41 d_M_readNotExists_2 h (fun i1 h => ?_)
  refine r_iconst (v := 1) hK d_M_readNotExists_5 (by decide) ?_
  refine r_iadd hK d_M_readNotExists_6 ?_
  refine r_pI hK fd_M_9 rfl w7_41 d_M_readNotExists_7 h (fun s2 h => ?_)
  refine r_aload_n hK d_M_readNotExists_10 rfl 0 rfl ?_
  refine r_gI hK fd_M_60 w7_92 d_M_readNotExists_11 h (fun i3 h => ?_)
  refine r_istore_n (ls1 := [(1, g_i i3), (0, g_r 1 r0)]) hK d_M_readNotExists_14 rfl (by rw [hN]; decide) rfl ?_
  refine r_aload_n hK d_M_readNotExists_15 rfl 1 rfl ?_
  refine r_dup hK d_M_readNotExists_16 rfl ?_
  refine r_gI hK fd_M_60 w7_92 d_M_readNotExists_17 h (fun i4 h => ?_)
  refine r_iconst (v := 1) hK d_M_readNotExists_20 (by decide) ?_
  refine r_iadd hK d_M_readNotExists_21 ?_
  refine r_pI hK fd_M_60 rfl w7_92 d_M_readNotExists_22 h (fun s5 h => ?_)
  refine r_aload_n hK d_M_readNotExists_25 rfl 1 rfl ?_
  refine r_gR hK fd_M_61 w7_93 d_M_readNotExists_26 h (fun p6 h => ?_)
  refine r_iload_n hK d_M_readNotExists_29 rfl 0 rfl ?_
  refine r_iconst (v := 2) hK d_M_readNotExists_30 (by decide) ?_
  refine r_iastore hK ar_20 rfl d_M_readNotExists_31 h (fun s7 h => ?_)
  refine r_aload_n hK d_M_readNotExists_32 rfl 1 rfl ?_
  refine r_gR hK fd_M_66 w7_98 d_M_readNotExists_33 h (fun p8 h => ?_)
  refine r_iload_n hK d_M_readNotExists_36 rfl 0 rfl ?_
  refine r_iconst (v := 0) hK d_M_readNotExists_37 (by decide) ?_
  refine r_iastore hK ar_20 rfl d_M_readNotExists_38 h (fun s9 h => ?_)
  refine r_aload_n hK d_M_readNotExists_39 rfl 1 rfl ?_
  refine r_bipush (v := 9) hK d_M_readNotExists_40 (by decide) ?_
  refine r_Vi (avL := [g_i 9]) (st := []) hK ob_M rfl w8_186 wp_16 w8_184 w8_187 w1_6 (by decide) pl_M_need (by rw [hD]; decide) (Nat.le_of_ble_eq_true rfl) rfl d_M_readNotExists_42 (fun o9 h9 => c_M_need _ _ _ _ _ o9 h9) h (fun i10 s11 h => ?_)
  refine r_pop hK d_M_readNotExists_45 rfl ?_
  refine r_aload_n hK d_M_readNotExists_46 rfl 1 rfl ?_
  refine r_bipush (v := 40) hK d_M_readNotExists_47 (by decide) ?_
  refine r_Vv (avL := [g_i 40]) (st := []) hK ob_M rfl w8_194 wp_18 w8_192 w8_195 w1_6 (by decide) pl_M_needSign (by rw [hD]; decide) (Nat.le_of_ble_eq_true rfl) rfl d_M_readNotExists_49 (fun o9 h9 => c_M_needSign _ _ _ _ _ o9 h9) h (fun s13 h => ?_)
  refine r_aload_n hK d_M_readNotExists_52 rfl 1 rfl ?_
  refine r_iconst (v := 4) hK d_M_readNotExists_53 (by decide) ?_
  refine r_Vi (avL := [g_i 4]) (st := []) hK ob_M rfl w8_186 wp_16 w8_184 w8_187 w1_6 (by decide) pl_M_need (by rw [hD]; decide) (Nat.le_of_ble_eq_true rfl) rfl d_M_readNotExists_54 (fun o9 h9 => c_M_need _ _ _ _ _ o9 h9) h (fun i14 s15 h => ?_)
  refine r_pop hK d_M_readNotExists_57 rfl ?_
  refine r_aload_n hK d_M_readNotExists_58 rfl 1 rfl ?_
  refine r_bipush (v := 31) hK d_M_readNotExists_59 (by decide) ?_
  refine r_Vi (avL := [g_i 31]) (st := []) hK ob_M rfl w8_174 wp_13 w8_172 w8_175 w1_6 (by decide) pl_M_is (by rw [hD]; decide) (Nat.le_of_ble_eq_true rfl) rfl d_M_readNotExists_61 (fun o9 h9 => c_M_is _ _ _ _ _ o9 h9) h (fun i16 s17 h => ?_)
  refine r_ifeq (tgt := 95) hK d_M_readNotExists_64 (by decide) h (fun h => ?_) (fun h => ?_)
  · exact r_sub [1, 0] rfl (t_M_readNotExists_95 hK hN hD _ _ _ h)
  · refine r_aload_n hK d_M_readNotExists_67 rfl 1 rfl ?_
    refine r_gR hK fd_M_12 w7_44 d_M_readNotExists_68 h (fun p18 h => ?_)
    refine r_aload_n hK d_M_readNotExists_71 rfl 1 rfl ?_
    refine r_gI hK fd_M_9 w7_41 d_M_readNotExists_72 h (fun i19 h => ?_)
    refine r_laload hK ar_21 rfl d_M_readNotExists_75 h (fun j20 h => ?_)
    refine r_lconst (v := 1) hK d_M_readNotExists_76 (by decide) ?_
    refine r_lifeq (tgt := 95) hK d_M_readNotExists_77 d_M_readNotExists_78 (by decide) h (fun h => ?_) (fun h => ?_)
    · exact r_sub [1, 0] rfl (t_M_readNotExists_95 hK hN hD _ _ _ h)
    · refine r_aload_n hK d_M_readNotExists_81 rfl 1 rfl ?_
      refine r_iconst (v := 1) hK d_M_readNotExists_82 (by decide) ?_
      refine r_aload_n hK d_M_readNotExists_83 rfl 1 rfl ?_
      refine r_gR hK fd_M_11 w7_43 d_M_readNotExists_84 h (fun p21 h => ?_)
      refine r_aload_n hK d_M_readNotExists_87 rfl 1 rfl ?_
      refine r_gI hK fd_M_9 w7_41 d_M_readNotExists_88 h (fun i22 h => ?_)
      refine r_iaload hK ar_20 rfl d_M_readNotExists_91 h (fun i23 h => ?_)
      refine r_Vv (avL := [g_i 1, g_i i23]) (st := []) hK ob_M rfl w8_190 wp_17 w8_188 w8_191 w1_6 (by decide) pl_M_note (by rw [hD]; decide) (Nat.le_of_ble_eq_true rfl) rfl d_M_readNotExists_92 (fun o9 h9 => c_M_note _ _ _ _ _ _ o9 h9) h (fun s25 h => ?_)
      exact r_sub [1, 0] rfl (t_M_readNotExists_95 hK hN hD _ _ _ h)
theorem c_M_readNotExists (l : Launch) (G : g_G) (r0 : Option Nat) (u : g_St) (o : (Int32 × g_St)) (h : f_M_readNotExists r0 u = some o) : g_Con l G y_M_readNotExists b_M_readNotExists 3 (Option.some Jvm.ClassFile.FieldType.int) 8 [g_r 1 r0] u (g_jI o) :=
  g_Con.of rfl rfl (by decide +kernel) (Nat.le_of_ble_eq_true rfl) (fun K hK hN hD hX => t_M_readNotExists_0 hK hN hD _ _ h)
