def f_M_compares (r0 : Option Nat) (x1 : Int32) (s0 : g_St) : Option (Int32 × g_St) :=
  g_gR s0 4033 r0 fun p1 =>
  g_aI s0 p1 x1 fun i2 =>
  g_c (g_nn r0 (f_M_valueOf r0 i2 s0)) fun j3 s4 =>
  g_gR s4 3905 r0 fun p5 =>
  g_aI s4 p5 x1 fun i6 =>
  if i6 = 1 then
    if j3 = 1099511627776 then
      g_rZ 1 (some (1, s4))
    else
      g_rZ 0 (some (0, s4))
  else
    g_gR s4 4097 r0 fun p7 =>
    g_aI s4 p7 x1 fun i8 =>
    g_c (g_nn r0 (f_M_valueOf r0 i8 s4)) fun j9 s10 =>
    if j3 = 1099511627776 then
      g_rZ 0 (some (0, s10))
    else
      if j9 = 1099511627776 then
        g_rZ 0 (some (0, s10))
      else
        g_gR s10 3969 r0 fun p11 =>
        g_aI s10 p11 x1 fun i12 =>
        if i12 = 161 then
          if j3 = j9 then
            g_rZ 1 (some (1, s10))
          else
            g_rZ 0 (some (0, s10))
        else
          g_gR s10 3969 r0 fun p13 =>
          g_aI s10 p13 x1 fun i14 =>
          if i14 = 32 then
            if j3 = j9 then
              g_rZ 0 (some (0, s10))
            else
              g_rZ 1 (some (1, s10))
          else
            g_gR s10 3969 r0 fun p15 =>
            g_aI s10 p15 x1 fun i16 =>
            if i16 = 160 then
              if j9 ≤ j3 then
                g_rZ 0 (some (0, s10))
              else
                g_rZ 1 (some (1, s10))
            else
              if j3 ≤ j9 then
                g_rZ 0 (some (0, s10))
              else
                g_rZ 1 (some (1, s10))
set_option maxHeartbeats 4000000 in
set_option maxRecDepth 100000 in
theorem t_M_compares_0 {K : g_C} {o : (Int32 × g_St)} (hK : g_OK K b_M_compares "FixpointEngineModel" "compares" (Option.some Jvm.ClassFile.FieldType.boolean)) (hN : g_nL K = 6) (hD : g_Kd K = 3) : ∀ (r0 : Option Nat) (x1 : Int32) (s0 : g_St), f_M_compares r0 x1 s0 = some o → g_W K s0 [(0, g_r 1 r0), (1, g_i x1)] [] 0 (g_jI o) := by
  intro r0 x1 s0 h
  unfold f_M_compares at h
  refine r_aload_n hK d_M_compares_0 rfl 0 rfl ?_
  refine r_aload_n hK d_M_compares_1 rfl 0 rfl ?_
  refine r_gR hK fd_M_63 w7_95 d_M_compares_2 h (fun p1 h => ?_)
  refine r_iload_n hK d_M_compares_5 rfl 1 rfl ?_
  refine r_iaload hK ar_20 rfl d_M_compares_6 h (fun i2 h => ?_)
  refine r_Vl (avL := [g_i i2]) (st := []) hK ob_M rfl w9_135 wp_60 w9_133 w9_136 w1_6 (by decide) pl_M_valueOf (by rw [hD]; decide) (Nat.le_of_ble_eq_true rfl) rfl d_M_compares_7 (fun o9 h9 => c_M_valueOf _ _ _ _ _ o9 h9) h (fun j3 s4 h => ?_)
  refine r_lstore_n (ls1 := [(2, g_l j3), (0, g_r 1 r0), (1, g_i x1)]) hK d_M_compares_10 rfl (by rw [hN]; decide) rfl ?_
  refine r_aload_n hK d_M_compares_11 rfl 1 rfl ?_
  refine r_gR hK fd_M_61 w7_93 d_M_compares_12 h (fun p5 h => ?_)
  refine r_iload_n hK d_M_compares_15 rfl 2 rfl ?_
  refine r_iaload hK ar_20 rfl d_M_compares_16 h (fun i6 h => ?_)
  refine r_iconst (v := 1) hK d_M_compares_17 (by decide) ?_
  refine r_if_icmpne (tgt := 35) hK d_M_compares_18 (by decide) h (fun h => ?_) (fun h => ?_)
  · refine r_aload_n hK d_M_compares_35 rfl 1 rfl ?_
    refine r_aload_n hK d_M_compares_36 rfl 1 rfl ?_
    refine r_gR hK fd_M_64 w7_96 d_M_compares_37 h (fun p7 h => ?_)
    refine r_iload_n hK d_M_compares_40 rfl 2 rfl ?_
    refine r_iaload hK ar_20 rfl d_M_compares_41 h (fun i8 h => ?_)
    refine r_Vl (avL := [g_i i8]) (st := []) hK ob_M rfl w9_135 wp_60 w9_133 w9_136 w1_6 (by decide) pl_M_valueOf (by rw [hD]; decide) (Nat.le_of_ble_eq_true rfl) rfl d_M_compares_42 (fun o9 h9 => c_M_valueOf _ _ _ _ _ o9 h9) h (fun j9 s10 h => ?_)
    refine r_lstore (ls1 := [(4, g_l j9), (2, g_l j3), (0, g_r 1 r0), (1, g_i x1)]) hK d_M_compares_45 (by rw [hN]; decide) rfl ?_
    refine r_lload_n hK d_M_compares_47 rfl 1 rfl ?_
    refine r_ldc2 hK w8_112 d_M_compares_48 ?_
    refine r_lifeq (tgt := 64) hK d_M_compares_51 d_M_compares_52 (by decide) h (fun h => ?_) (fun h => ?_)
    · refine r_iconst (v := 0) hK d_M_compares_64 (by decide) ?_
      exact r_zreturn hK d_M_compares_65 h
    · refine r_lload hK d_M_compares_55 0 rfl ?_
      refine r_ldc2 hK w8_112 d_M_compares_57 ?_
      refine r_lifne (tgt := 66) hK d_M_compares_60 d_M_compares_61 (by decide) h (fun h => ?_) (fun h => ?_)
      · refine r_aload_n hK d_M_compares_66 rfl 2 rfl ?_
        refine r_gR hK fd_M_62 w7_94 d_M_compares_67 h (fun p11 h => ?_)
        refine r_iload_n hK d_M_compares_70 rfl 3 rfl ?_
        refine r_iaload hK ar_20 rfl d_M_compares_71 h (fun i12 h => ?_)
        refine r_sipush (v := 161) hK d_M_compares_72 (by decide) ?_
        refine r_if_icmpne (tgt := 91) hK d_M_compares_75 (by decide) h (fun h => ?_) (fun h => ?_)
        · refine r_aload_n hK d_M_compares_91 rfl 2 rfl ?_
          refine r_gR hK fd_M_62 w7_94 d_M_compares_92 h (fun p13 h => ?_)
          refine r_iload_n hK d_M_compares_95 rfl 3 rfl ?_
          refine r_iaload hK ar_20 rfl d_M_compares_96 h (fun i14 h => ?_)
          refine r_bipush (v := 32) hK d_M_compares_97 (by decide) ?_
          refine r_if_icmpne (tgt := 115) hK d_M_compares_99 (by decide) h (fun h => ?_) (fun h => ?_)
          · refine r_aload_n hK d_M_compares_115 rfl 2 rfl ?_
            refine r_gR hK fd_M_62 w7_94 d_M_compares_116 h (fun p15 h => ?_)
            refine r_iload_n hK d_M_compares_119 rfl 3 rfl ?_
            refine r_iaload hK ar_20 rfl d_M_compares_120 h (fun i16 h => ?_)
            refine r_sipush (v := 160) hK d_M_compares_121 (by decide) ?_
            refine r_if_icmpne (tgt := 142) hK d_M_compares_124 (by decide) h (fun h => ?_) (fun h => ?_)
            · refine r_lload_n hK d_M_compares_142 rfl 1 rfl ?_
              refine r_lload hK d_M_compares_143 0 rfl ?_
              refine r_lifle (tgt := 153) hK d_M_compares_145 d_M_compares_146 (by decide) h (fun h => ?_) (fun h => ?_)
              · refine r_iconst (v := 0) hK d_M_compares_153 (by decide) ?_
                exact r_zreturn hK d_M_compares_154 h
              · refine r_iconst (v := 1) hK d_M_compares_149 (by decide) ?_
                refine r_goto (tgt := 154) hK d_M_compares_150 (by decide) ?_
                exact r_zreturn hK d_M_compares_154 h
            · refine r_lload_n hK d_M_compares_127 rfl 1 rfl ?_
              refine r_lload hK d_M_compares_128 0 rfl ?_
              refine r_lifge (tgt := 138) hK d_M_compares_130 d_M_compares_131 (by decide) h (fun h => ?_) (fun h => ?_)
              · refine r_iconst (v := 0) hK d_M_compares_138 (by decide) ?_
                refine r_goto (tgt := 154) hK d_M_compares_139 (by decide) ?_
                exact r_zreturn hK d_M_compares_154 h
              · refine r_iconst (v := 1) hK d_M_compares_134 (by decide) ?_
                refine r_goto (tgt := 154) hK d_M_compares_135 (by decide) ?_
                exact r_zreturn hK d_M_compares_154 h
          · refine r_lload_n hK d_M_compares_102 rfl 1 rfl ?_
            refine r_lload hK d_M_compares_103 0 rfl ?_
            refine r_lifeq (tgt := 113) hK d_M_compares_105 d_M_compares_106 (by decide) h (fun h => ?_) (fun h => ?_)
            · refine r_iconst (v := 0) hK d_M_compares_113 (by decide) ?_
              exact r_zreturn hK d_M_compares_114 h
            · refine r_iconst (v := 1) hK d_M_compares_109 (by decide) ?_
              refine r_goto (tgt := 114) hK d_M_compares_110 (by decide) ?_
              exact r_zreturn hK d_M_compares_114 h
        · refine r_lload_n hK d_M_compares_78 rfl 1 rfl ?_
          refine r_lload hK d_M_compares_79 0 rfl ?_
          refine r_lifne (tgt := 89) hK d_M_compares_81 d_M_compares_82 (by decide) h (fun h => ?_) (fun h => ?_)
          · refine r_iconst (v := 0) hK d_M_compares_89 (by decide) ?_
            exact r_zreturn hK d_M_compares_90 h
          · refine r_iconst (v := 1) hK d_M_compares_85 (by decide) ?_
            refine r_goto (tgt := 90) hK d_M_compares_86 (by decide) ?_
            exact r_zreturn hK d_M_compares_90 h
      · refine r_iconst (v := 0) hK d_M_compares_64 (by decide) ?_
        exact r_zreturn hK d_M_compares_65 h
  · refine r_lload_n hK d_M_compares_21 rfl 0 rfl ?_
    refine r_ldc2 hK w8_112 d_M_compares_22 ?_
    refine r_lifne (tgt := 33) hK d_M_compares_25 d_M_compares_26 (by decide) h (fun h => ?_) (fun h => ?_)
    · refine r_iconst (v := 0) hK d_M_compares_33 (by decide) ?_
      exact r_zreturn hK d_M_compares_34 h
    · refine r_iconst (v := 1) hK d_M_compares_29 (by decide) ?_
      refine r_goto (tgt := 34) hK d_M_compares_30 (by decide) ?_
      exact r_zreturn hK d_M_compares_34 h
theorem c_M_compares (l : Launch) (G : g_G) (r0 : Option Nat) (x1 : Int32) (u : g_St) (o : (Int32 × g_St)) (h : f_M_compares r0 x1 u = some o) : g_Con l G y_M_compares b_M_compares 6 (Option.some Jvm.ClassFile.FieldType.boolean) 3 [g_r 1 r0, g_i x1] u (g_jI o) :=
  g_Con.of rfl rfl (by decide +kernel) (Nat.le_of_ble_eq_true rfl) (fun K hK hN hD hX => t_M_compares_0 hK hN hD _ _ _ h)
def f_M_hasNone_136 (k35 : Option Nat → Int32 → Int32 → Int32 → Int32 → g_St → Option (Int32 × g_St)) (r0 : Option Nat) (x1 : Int32) (x2 : Int32) (x3 : Int32) (x4 : Int32) (x5 : Int32) (s0 : g_St) : Option (Int32 × g_St) :=
  if x5 = 0 then
    k35 r0 x1 x2 x3 (x4 + 1) s0
  else
    g_rZ 0 (some (0, s0))
def f_M_hasNone_97 (k35 : Option Nat → Int32 → Int32 → Int32 → Int32 → g_St → Option (Int32 × g_St)) : Nat → Option Nat → Int32 → Int32 → Int32 → Int32 → Int32 → Int32 → g_St → Option (Int32 × g_St)
  | 0, _, _, _, _, _, _, _, _ => none
  | n + 1, r0, x1, x2, x3, x4, x5, x6, s0 =>
    g_gR s0 4225 r0 fun p1 =>
    g_aI s0 p1 x1 fun i2 =>
    if i2 ≤ x6 then
      f_M_hasNone_136 k35 r0 x1 x2 x3 x4 x5 s0
    else
      if x5 = 0 then
        f_M_hasNone_136 k35 r0 x1 x2 x3 x4 x5 s0
      else
        g_gR s0 4289 r0 fun p3 =>
        g_aI s0 p3 ((3 * x1) + x6) fun i4 =>
        g_c (g_nn r0 (f_M_compares r0 i4 s0)) fun i5 s6 =>
        f_M_hasNone_97 k35 n r0 x1 x2 x3 x4 i5 (x6 + 1) s6
def f_M_hasNone_64 (k35 : Option Nat → Int32 → Int32 → Int32 → Int32 → g_St → Option (Int32 × g_St)) (r0 : Option Nat) (x1 : Int32) (x2 : Int32) (x3 : Int32) (x4 : Int32) (s0 : g_St) : Option (Int32 × g_St) :=
  g_gR s0 6273 r0 fun p1 =>
  if 10 ≤ x2 then
    g_sI s0 p1 3 (100 + x4) fun s2 =>
    f_M_hasNone_97 k35 200000 r0 x1 x2 x3 x4 1 0 s2
  else
    g_sI s0 p1 3 ((16 * x2) + x4) fun s3 =>
    f_M_hasNone_97 k35 200000 r0 x1 x2 x3 x4 1 0 s3
def f_M_hasNone_35 : Nat → Option Nat → Int32 → Int32 → Int32 → Int32 → g_St → Option (Int32 × g_St)
  | 0, _, _, _, _, _, _ => none
  | n + 1, r0, x1, x2, x3, x4, s0 =>
    if x3 ≤ x4 then
      g_rZ 1 (some (1, s0))
    else
      if x2 < 10 then
        f_M_hasNone_64 (f_M_hasNone_35 n) r0 x1 x2 x3 x4 s0
      else
        g_gR s0 4993 r0 fun p1 =>
        g_aI s0 p1 x4 fun i2 =>
        if i2 = (x2 - 10) then
          f_M_hasNone_64 (f_M_hasNone_35 n) r0 x1 x2 x3 x4 s0
        else
          f_M_hasNone_35 n r0 x1 x2 x3 (x4 + 1) s0
def f_M_hasNone (r0 : Option Nat) (x1 : Int32) (s0 : g_St) : Option (Int32 × g_St) :=
  g_gR s0 3777 r0 fun p1 =>
  g_gR s0 4161 r0 fun p2 =>
  g_aI s0 p2 x1 fun i3 =>
  g_aI s0 p1 i3 fun i4 =>
  if 10 ≤ i4 then
    g_gI s0 4929 r0 fun i5 =>
    f_M_hasNone_35 200000 r0 x1 i4 i5 0 s0
  else
    g_gR s0 193 r0 fun p6 =>
    g_aI s0 p6 i4 fun i7 =>
    f_M_hasNone_35 200000 r0 x1 i4 i7 0 s0
set_option maxHeartbeats 4000000 in
set_option maxRecDepth 100000 in
theorem t_M_hasNone_136 {K : g_C} {o : (Int32 × g_St)} (hK : g_OK K b_M_hasNone "FixpointEngineModel" "hasNone" (Option.some Jvm.ClassFile.FieldType.boolean)) (hN : g_nL K = 7) (hD : g_Kd K = 4) {k35 : Option Nat → Int32 → Int32 → Int32 → Int32 → g_St → Option (Int32 × g_St)} (hk35 : ∀ (r0 : Option Nat) (x1 : Int32) (x2 : Int32) (x3 : Int32) (x4 : Int32) (s0 : g_St), k35 r0 x1 x2 x3 x4 s0 = some o → g_W K s0 [(0, g_r 1 r0), (1, g_i x1), (2, g_i x2), (3, g_i x3), (4, g_i x4)] [] 35 (g_jI o)) : ∀ (r0 : Option Nat) (x1 : Int32) (x2 : Int32) (x3 : Int32) (x4 : Int32) (x5 : Int32) (s0 : g_St), f_M_hasNone_136 k35 r0 x1 x2 x3 x4 x5 s0 = some o → g_W K s0 [(0, g_r 1 r0), (1, g_i x1), (2, g_i x2), (3, g_i x3), (4, g_i x4), (5, g_i x5)] [] 136 (g_jI o) := by
  intro r0 x1 x2 x3 x4 x5 s0 h
  unfold f_M_hasNone_136 at h
  refine r_iload hK d_M_hasNone_136 5 rfl ?_
  refine r_ifeq (tgt := 143) hK d_M_hasNone_138 (by decide) h (fun h => ?_) (fun h => ?_)
  · refine r_iinc (ls1 := [(4, g_i (x4 + 1)), (0, g_r 1 r0), (1, g_i x1), (2, g_i x2), (3, g_i x3), (5, g_i x5)]) hK d_M_hasNone_143 4 rfl rfl (by rw [hN]; decide) rfl ?_
    refine r_goto (tgt := 35) hK d_M_hasNone_146 (by decide) ?_
    exact r_sub [1, 2, 3, 4, 0] rfl (hk35 _ _ _ _ _ _ h)
  · refine r_iconst (v := 0) hK d_M_hasNone_141 (by decide) ?_
    exact r_zreturn hK d_M_hasNone_142 h
set_option maxHeartbeats 4000000 in
set_option maxRecDepth 100000 in
theorem t_M_hasNone_97 {K : g_C} {o : (Int32 × g_St)} (hK : g_OK K b_M_hasNone "FixpointEngineModel" "hasNone" (Option.some Jvm.ClassFile.FieldType.boolean)) (hN : g_nL K = 7) (hD : g_Kd K = 4) {k35 : Option Nat → Int32 → Int32 → Int32 → Int32 → g_St → Option (Int32 × g_St)} (hk35 : ∀ (r0 : Option Nat) (x1 : Int32) (x2 : Int32) (x3 : Int32) (x4 : Int32) (s0 : g_St), k35 r0 x1 x2 x3 x4 s0 = some o → g_W K s0 [(0, g_r 1 r0), (1, g_i x1), (2, g_i x2), (3, g_i x3), (4, g_i x4)] [] 35 (g_jI o)) : ∀ (n : Nat) (r0 : Option Nat) (x1 : Int32) (x2 : Int32) (x3 : Int32) (x4 : Int32) (x5 : Int32) (x6 : Int32) (s0 : g_St), f_M_hasNone_97 k35 n r0 x1 x2 x3 x4 x5 x6 s0 = some o → g_W K s0 [(0, g_r 1 r0), (1, g_i x1), (2, g_i x2), (3, g_i x3), (4, g_i x4), (5, g_i x5), (6, g_i x6)] [] 97 (g_jI o) := by
  intro n
  induction n with
  | zero =>
    intro r0 x1 x2 x3 x4 x5 x6 s0 h
    cases h
  | succ n ih =>
    intro r0 x1 x2 x3 x4 x5 x6 s0 h
    unfold f_M_hasNone_97 at h
    refine r_iload hK d_M_hasNone_97 6 rfl ?_
    refine r_aload_n hK d_M_hasNone_99 rfl 0 rfl ?_
    refine r_gR hK fd_M_66 w7_98 d_M_hasNone_100 h (fun p1 h => ?_)
    refine r_iload_n hK d_M_hasNone_103 rfl 1 rfl ?_
    refine r_iaload hK ar_20 rfl d_M_hasNone_104 h (fun i2 h => ?_)
    refine r_if_icmpge (tgt := 136) hK d_M_hasNone_105 (by decide) h (fun h => ?_) (fun h => ?_)
    · exact r_sub [0, 1, 2, 3, 4, 5] rfl (t_M_hasNone_136 hK hN hD hk35 _ _ _ _ _ _ _ h)
    · refine r_iload hK d_M_hasNone_108 5 rfl ?_
      refine r_ifeq (tgt := 136) hK d_M_hasNone_110 (by decide) h (fun h => ?_) (fun h => ?_)
      · exact r_sub [0, 1, 2, 3, 4, 5] rfl (t_M_hasNone_136 hK hN hD hk35 _ _ _ _ _ _ _ h)
      · refine r_aload_n hK d_M_hasNone_113 rfl 0 rfl ?_
        refine r_aload_n hK d_M_hasNone_114 rfl 0 rfl ?_
        refine r_gR hK fd_M_67 w7_99 d_M_hasNone_115 h (fun p3 h => ?_)
        refine r_iconst (v := 3) hK d_M_hasNone_118 (by decide) ?_
        refine r_iload_n hK d_M_hasNone_119 rfl 1 rfl ?_
        refine r_imul hK d_M_hasNone_120 ?_
        refine r_iload hK d_M_hasNone_121 6 rfl ?_
        refine r_iadd hK d_M_hasNone_123 ?_
        refine r_iaload hK ar_20 rfl d_M_hasNone_124 h (fun i4 h => ?_)
        refine r_Vi (avL := [g_i i4]) (st := []) hK ob_M rfl w9_131 wp_59 w9_129 w9_132 w1_6 (by decide) pl_M_compares (by rw [hD]; decide) (Nat.le_of_ble_eq_true rfl) rfl d_M_hasNone_125 (fun o9 h9 => c_M_compares _ _ _ _ _ o9 h9) h (fun i5 s6 h => ?_)
        refine r_istore (ls1 := [(5, g_i i5), (0, g_r 1 r0), (1, g_i x1), (2, g_i x2), (3, g_i x3), (4, g_i x4), (6, g_i x6)]) hK d_M_hasNone_128 (by rw [hN]; decide) rfl ?_
        refine r_iinc (ls1 := [(6, g_i (x6 + 1)), (5, g_i i5), (0, g_r 1 r0), (1, g_i x1), (2, g_i x2), (3, g_i x3), (4, g_i x4)]) hK d_M_hasNone_130 6 rfl rfl (by rw [hN]; decide) rfl ?_
        refine r_goto (tgt := 97) hK d_M_hasNone_133 (by decide) ?_
        exact r_sub [2, 3, 4, 5, 6, 1, 0] rfl (ih _ _ _ _ _ _ _ _ h)
set_option maxHeartbeats 4000000 in
set_option maxRecDepth 100000 in
theorem t_M_hasNone_64 {K : g_C} {o : (Int32 × g_St)} (hK : g_OK K b_M_hasNone "FixpointEngineModel" "hasNone" (Option.some Jvm.ClassFile.FieldType.boolean)) (hN : g_nL K = 7) (hD : g_Kd K = 4) {k35 : Option Nat → Int32 → Int32 → Int32 → Int32 → g_St → Option (Int32 × g_St)} (hk35 : ∀ (r0 : Option Nat) (x1 : Int32) (x2 : Int32) (x3 : Int32) (x4 : Int32) (s0 : g_St), k35 r0 x1 x2 x3 x4 s0 = some o → g_W K s0 [(0, g_r 1 r0), (1, g_i x1), (2, g_i x2), (3, g_i x3), (4, g_i x4)] [] 35 (g_jI o)) : ∀ (r0 : Option Nat) (x1 : Int32) (x2 : Int32) (x3 : Int32) (x4 : Int32) (s0 : g_St), f_M_hasNone_64 k35 r0 x1 x2 x3 x4 s0 = some o → g_W K s0 [(0, g_r 1 r0), (1, g_i x1), (2, g_i x2), (3, g_i x3), (4, g_i x4)] [] 64 (g_jI o) := by
  intro r0 x1 x2 x3 x4 s0 h
  unfold f_M_hasNone_64 at h
  refine r_aload_n hK d_M_hasNone_64 rfl 0 rfl ?_
  refine r_gR hK fd_M_98 w7_130 d_M_hasNone_65 h (fun p1 h => ?_)
  refine r_iconst (v := 3) hK d_M_hasNone_68 (by decide) ?_
  refine r_iload_n hK d_M_hasNone_69 rfl 2 rfl ?_
  refine r_bipush (v := 10) hK d_M_hasNone_70 (by decide) ?_
  refine r_if_icmpge (tgt := 85) hK d_M_hasNone_72 (by decide) h (fun h => ?_) (fun h => ?_)
  · refine r_bipush (v := 100) hK d_M_hasNone_85 (by decide) ?_
    refine r_iload hK d_M_hasNone_87 4 rfl ?_
    refine r_iadd hK d_M_hasNone_89 ?_
    refine r_iastore hK ar_20 rfl d_M_hasNone_90 h (fun s2 h => ?_)
    refine r_iconst (v := 1) hK d_M_hasNone_91 (by decide) ?_
    refine r_istore (ls1 := [(5, g_i 1), (0, g_r 1 r0), (1, g_i x1), (2, g_i x2), (3, g_i x3), (4, g_i x4)]) hK d_M_hasNone_92 (by rw [hN]; decide) rfl ?_
    refine r_iconst (v := 0) hK d_M_hasNone_94 (by decide) ?_
    refine r_istore (ls1 := [(6, g_i 0), (5, g_i 1), (0, g_r 1 r0), (1, g_i x1), (2, g_i x2), (3, g_i x3), (4, g_i x4)]) hK d_M_hasNone_95 (by rw [hN]; decide) rfl ?_
    exact r_sub [2, 3, 4, 5, 6, 1, 0] rfl (t_M_hasNone_97 hK hN hD hk35 _ _ _ _ _ _ _ _ _ h)
  · refine r_bipush (v := 16) hK d_M_hasNone_75 (by decide) ?_
    refine r_iload_n hK d_M_hasNone_77 rfl 2 rfl ?_
    refine r_imul hK d_M_hasNone_78 ?_
    refine r_iload hK d_M_hasNone_79 4 rfl ?_
    refine r_iadd hK d_M_hasNone_81 ?_
    refine r_goto (tgt := 90) hK d_M_hasNone_82 (by decide) ?_
    refine r_iastore hK ar_20 rfl d_M_hasNone_90 h (fun s3 h => ?_)
    refine r_iconst (v := 1) hK d_M_hasNone_91 (by decide) ?_
    refine r_istore (ls1 := [(5, g_i 1), (0, g_r 1 r0), (1, g_i x1), (2, g_i x2), (3, g_i x3), (4, g_i x4)]) hK d_M_hasNone_92 (by rw [hN]; decide) rfl ?_
    refine r_iconst (v := 0) hK d_M_hasNone_94 (by decide) ?_
    refine r_istore (ls1 := [(6, g_i 0), (5, g_i 1), (0, g_r 1 r0), (1, g_i x1), (2, g_i x2), (3, g_i x3), (4, g_i x4)]) hK d_M_hasNone_95 (by rw [hN]; decide) rfl ?_
    exact r_sub [2, 3, 4, 5, 6, 1, 0] rfl (t_M_hasNone_97 hK hN hD hk35 _ _ _ _ _ _ _ _ _ h)
set_option maxHeartbeats 4000000 in
set_option maxRecDepth 100000 in
theorem t_M_hasNone_35 {K : g_C} {o : (Int32 × g_St)} (hK : g_OK K b_M_hasNone "FixpointEngineModel" "hasNone" (Option.some Jvm.ClassFile.FieldType.boolean)) (hN : g_nL K = 7) (hD : g_Kd K = 4) : ∀ (n : Nat) (r0 : Option Nat) (x1 : Int32) (x2 : Int32) (x3 : Int32) (x4 : Int32) (s0 : g_St), f_M_hasNone_35 n r0 x1 x2 x3 x4 s0 = some o → g_W K s0 [(0, g_r 1 r0), (1, g_i x1), (2, g_i x2), (3, g_i x3), (4, g_i x4)] [] 35 (g_jI o) := by
  intro n
  induction n with
  | zero =>
    intro r0 x1 x2 x3 x4 s0 h
    cases h
  | succ n ih =>
    intro r0 x1 x2 x3 x4 s0 h
    unfold f_M_hasNone_35 at h
    refine r_iload hK d_M_hasNone_35 4 rfl ?_
    refine r_iload_n hK d_M_hasNone_37 rfl 3 rfl ?_
    refine r_if_icmpge (tgt := 149) hK d_M_hasNone_38 (by decide) h (fun h => ?_) (fun h => ?_)
    · refine r_iconst (v := 1) hK d_M_hasNone_149 (by decide) ?_
      exact r_zreturn hK d_M_hasNone_150 h
    · refine r_iload_n hK d_M_hasNone_41 rfl 2 rfl ?_
      refine r_bipush (v := 10) hK d_M_hasNone_42 (by decide) ?_
      refine r_if_icmplt (tgt := 64) hK d_M_hasNone_44 (by decide) h (fun h => ?_) (fun h => ?_)
      · exact r_sub [0, 1, 2, 3, 4] rfl (t_M_hasNone_64 hK hN hD ih _ _ _ _ _ _ h)
      · refine r_aload_n hK d_M_hasNone_47 rfl 0 rfl ?_
        refine r_gR hK fd_M_78 w7_110 d_M_hasNone_48 h (fun p1 h => ?_)
        refine r_iload hK d_M_hasNone_51 4 rfl ?_
        refine r_iaload hK ar_20 rfl d_M_hasNone_53 h (fun i2 h => ?_)
        refine r_iload_n hK d_M_hasNone_54 rfl 2 rfl ?_
        refine r_bipush (v := 10) hK d_M_hasNone_55 (by decide) ?_
        refine r_isub hK d_M_hasNone_57 ?_
        refine r_if_icmpeq (tgt := 64) hK d_M_hasNone_58 (by decide) h (fun h => ?_) (fun h => ?_)
        · exact r_sub [0, 1, 2, 3, 4] rfl (t_M_hasNone_64 hK hN hD ih _ _ _ _ _ _ h)
        · refine r_goto (tgt := 143) hK d_M_hasNone_61 (by decide) ?_
          refine r_iinc (ls1 := [(4, g_i (x4 + 1)), (0, g_r 1 r0), (1, g_i x1), (2, g_i x2), (3, g_i x3)]) hK d_M_hasNone_143 4 rfl rfl (by rw [hN]; decide) rfl ?_
          refine r_goto (tgt := 35) hK d_M_hasNone_146 (by decide) ?_
          exact r_sub [1, 2, 3, 4, 0] rfl (ih _ _ _ _ _ _ h)
set_option maxHeartbeats 4000000 in
set_option maxRecDepth 100000 in
theorem t_M_hasNone_0 {K : g_C} {o : (Int32 × g_St)} (hK : g_OK K b_M_hasNone "FixpointEngineModel" "hasNone" (Option.some Jvm.ClassFile.FieldType.boolean)) (hN : g_nL K = 7) (hD : g_Kd K = 4) : ∀ (r0 : Option Nat) (x1 : Int32) (s0 : g_St), f_M_hasNone r0 x1 s0 = some o → g_W K s0 [(0, g_r 1 r0), (1, g_i x1)] [] 0 (g_jI o) := by
  intro r0 x1 s0 h
  unfold f_M_hasNone at h
  refine r_aload_n hK d_M_hasNone_0 rfl 0 rfl ?_
  refine r_gR hK fd_M_59 w7_91 d_M_hasNone_1 h (fun p1 h => ?_)
  refine r_aload_n hK d_M_hasNone_4 rfl 0 rfl ?_
  refine r_gR hK fd_M_65 w7_97 d_M_hasNone_5 h (fun p2 h => ?_)
  refine r_iload_n hK d_M_hasNone_8 rfl 1 rfl ?_
  refine r_iaload hK ar_20 rfl d_M_hasNone_9 h (fun i3 h => ?_)
  refine r_iaload hK ar_20 rfl d_M_hasNone_10 h (fun i4 h => ?_)
  refine r_istore_n (ls1 := [(2, g_i i4), (0, g_r 1 r0), (1, g_i x1)]) hK d_M_hasNone_11 rfl (by rw [hN]; decide) rfl ?_
  refine r_iload_n hK d_M_hasNone_12 rfl 0 rfl ?_
  refine r_bipush (v := 10) hK d_M_hasNone_13 (by decide) ?_
  refine r_if_icmpge (tgt := 27) hK d_M_hasNone_15 (by decide) h (fun h => ?_) (fun h => ?_)
  · refine r_aload_n hK d_M_hasNone_27 rfl 1 rfl ?_
    refine r_gI hK fd_M_77 w7_109 d_M_hasNone_28 h (fun i5 h => ?_)
    refine r_istore_n (ls1 := [(3, g_i i5), (2, g_i i4), (0, g_r 1 r0), (1, g_i x1)]) hK d_M_hasNone_31 rfl (by rw [hN]; decide) rfl ?_
    refine r_iconst (v := 0) hK d_M_hasNone_32 (by decide) ?_
    refine r_istore (ls1 := [(4, g_i 0), (3, g_i i5), (2, g_i i4), (0, g_r 1 r0), (1, g_i x1)]) hK d_M_hasNone_33 (by rw [hN]; decide) rfl ?_
    exact r_sub [3, 4, 2, 1, 0] rfl (t_M_hasNone_35 hK hN hD _ _ _ _ _ _ _ h)
  · refine r_aload_n hK d_M_hasNone_18 rfl 1 rfl ?_
    refine r_gR hK fd_M_3 w7_35 d_M_hasNone_19 h (fun p6 h => ?_)
    refine r_iload_n hK d_M_hasNone_22 rfl 0 rfl ?_
    refine r_iaload hK ar_20 rfl d_M_hasNone_23 h (fun i7 h => ?_)
    refine r_goto (tgt := 31) hK d_M_hasNone_24 (by decide) ?_
    refine r_istore_n (ls1 := [(3, g_i i7), (2, g_i i4), (0, g_r 1 r0), (1, g_i x1)]) hK d_M_hasNone_31 rfl (by rw [hN]; decide) rfl ?_
    refine r_iconst (v := 0) hK d_M_hasNone_32 (by decide) ?_
    refine r_istore (ls1 := [(4, g_i 0), (3, g_i i7), (2, g_i i4), (0, g_r 1 r0), (1, g_i x1)]) hK d_M_hasNone_33 (by rw [hN]; decide) rfl ?_
    exact r_sub [3, 4, 2, 1, 0] rfl (t_M_hasNone_35 hK hN hD _ _ _ _ _ _ _ h)
theorem c_M_hasNone (l : Launch) (G : g_G) (r0 : Option Nat) (x1 : Int32) (u : g_St) (o : (Int32 × g_St)) (h : f_M_hasNone r0 x1 u = some o) : g_Con l G y_M_hasNone b_M_hasNone 7 (Option.some Jvm.ClassFile.FieldType.boolean) 4 [g_r 1 r0, g_i x1] u (g_jI o) :=
  g_Con.of rfl rfl (by decide +kernel) (Nat.le_of_ble_eq_true rfl) (fun K hK hN hD hX => t_M_hasNone_0 hK hN hD _ _ _ h)
def f_M_passes_4 : Nat → Option Nat → Int32 → Int32 → Int32 → g_St → Option (Int32 × g_St)
  | 0, _, _, _, _, _ => none
  | n + 1, r0, x1, x2, x3, s0 =>
    g_gR s0 2625 r0 fun p1 =>
    g_aI s0 p1 x1 fun i2 =>
    if i2 ≤ x3 then
      g_rZ x2 (some (x2, s0))
    else
      if x2 = 0 then
        g_rZ x2 (some (x2, s0))
      else
        g_gR s0 2689 r0 fun p3 =>
        g_aI s0 p3 ((6 * x1) + x3) fun i4 =>
        g_gR s0 3905 r0 fun p5 =>
        g_aI s0 p5 i4 fun i6 =>
        if i6 = 2 then
          g_c (g_nn r0 (f_M_hasNone r0 i4 s0)) fun i9 s10 =>
          f_M_passes_4 n r0 x1 i9 (x3 + 1) s10
        else
          g_c (g_nn r0 (f_M_compares r0 i4 s0)) fun i7 s8 =>
          f_M_passes_4 n r0 x1 i7 (x3 + 1) s8
def f_M_passes (r0 : Option Nat) (x1 : Int32) (s0 : g_St) : Option (Int32 × g_St) :=
  f_M_passes_4 200000 r0 x1 1 0 s0
set_option maxHeartbeats 4000000 in
set_option maxRecDepth 100000 in
theorem t_M_passes_4 {K : g_C} {o : (Int32 × g_St)} (hK : g_OK K b_M_passes "FixpointEngineModel" "passes" (Option.some Jvm.ClassFile.FieldType.boolean)) (hN : g_nL K = 5) (hD : g_Kd K = 5) : ∀ (n : Nat) (r0 : Option Nat) (x1 : Int32) (x2 : Int32) (x3 : Int32) (s0 : g_St), f_M_passes_4 n r0 x1 x2 x3 s0 = some o → g_W K s0 [(0, g_r 1 r0), (1, g_i x1), (2, g_i x2), (3, g_i x3)] [] 4 (g_jI o) := by
  intro n
  induction n with
  | zero =>
    intro r0 x1 x2 x3 s0 h
    cases h
  | succ n ih =>
    intro r0 x1 x2 x3 s0 h
    unfold f_M_passes_4 at h
    refine r_iload_n hK d_M_passes_4 rfl 3 rfl ?_
    refine r_aload_n hK d_M_passes_5 rfl 0 rfl ?_
    refine r_gR hK fd_M_41 w7_73 d_M_passes_6 h (fun p1 h => ?_)
    refine r_iload_n hK d_M_passes_9 rfl 1 rfl ?_
    refine r_iaload hK ar_20 rfl d_M_passes_10 h (fun i2 h => ?_)
    refine r_if_icmpge (tgt := 64) hK d_M_passes_11 (by decide) h (fun h => ?_) (fun h => ?_)
    · refine r_iload_n hK d_M_passes_64 rfl 2 rfl ?_
      exact r_zreturn hK d_M_passes_65 h
    · refine r_iload_n hK d_M_passes_14 rfl 2 rfl ?_
      refine r_ifeq (tgt := 64) hK d_M_passes_15 (by decide) h (fun h => ?_) (fun h => ?_)
      · refine r_iload_n hK d_M_passes_64 rfl 2 rfl ?_
        exact r_zreturn hK d_M_passes_65 h
      · refine r_aload_n hK d_M_passes_18 rfl 0 rfl ?_
        refine r_gR hK fd_M_42 w7_74 d_M_passes_19 h (fun p3 h => ?_)
        refine r_bipush (v := 6) hK d_M_passes_22 (by decide) ?_
        refine r_iload_n hK d_M_passes_24 rfl 1 rfl ?_
        refine r_imul hK d_M_passes_25 ?_
        refine r_iload_n hK d_M_passes_26 rfl 3 rfl ?_
        refine r_iadd hK d_M_passes_27 ?_
        refine r_iaload hK ar_20 rfl d_M_passes_28 h (fun i4 h => ?_)
        refine r_istore (ls1 := [(4, g_i i4), (0, g_r 1 r0), (1, g_i x1), (2, g_i x2), (3, g_i x3)]) hK d_M_passes_29 (by rw [hN]; decide) rfl ?_
        refine r_aload_n hK d_M_passes_31 rfl 1 rfl ?_
        refine r_gR hK fd_M_61 w7_93 d_M_passes_32 h (fun p5 h => ?_)
        refine r_iload hK d_M_passes_35 0 rfl ?_
        refine r_iaload hK ar_20 rfl d_M_passes_37 h (fun i6 h => ?_)
        refine r_iconst (v := 2) hK d_M_passes_38 (by decide) ?_
        refine r_if_icmpne (tgt := 51) hK d_M_passes_39 (by decide) h (fun h => ?_) (fun h => ?_)
        · refine r_aload_n hK d_M_passes_51 rfl 1 rfl ?_
          refine r_iload hK d_M_passes_52 0 rfl ?_
          refine r_Vi (avL := [g_i i4]) (st := []) hK ob_M rfl w9_131 wp_59 w9_129 w9_132 w1_6 (by decide) pl_M_compares (by rw [hD]; decide) (Nat.le_of_ble_eq_true rfl) rfl d_M_passes_54 (fun o9 h9 => c_M_compares _ _ _ _ _ o9 h9) h (fun i7 s8 h => ?_)
          refine r_istore_n (ls1 := [(2, g_i i7), (4, g_i i4), (0, g_r 1 r0), (1, g_i x1), (3, g_i x3)]) hK d_M_passes_57 rfl (by rw [hN]; decide) rfl ?_
          refine r_iinc (ls1 := [(3, g_i (x3 + 1)), (2, g_i i7), (4, g_i i4), (0, g_r 1 r0), (1, g_i x1)]) hK d_M_passes_58 4 rfl rfl (by rw [hN]; decide) rfl ?_
          refine r_goto (tgt := 4) hK d_M_passes_61 (by decide) ?_
          exact r_sub [3, 4, 1, 0] rfl (ih _ _ _ _ _ h)
        · refine r_aload_n hK d_M_passes_42 rfl 1 rfl ?_
          refine r_iload hK d_M_passes_43 0 rfl ?_
          refine r_Vi (avL := [g_i i4]) (st := []) hK ob_M rfl w9_127 wp_58 w9_125 w9_128 w1_6 (by decide) pl_M_hasNone (by rw [hD]; decide) (Nat.le_of_ble_eq_true rfl) rfl d_M_passes_45 (fun o9 h9 => c_M_hasNone _ _ _ _ _ o9 h9) h (fun i9 s10 h => ?_)
          refine r_goto (tgt := 57) hK d_M_passes_48 (by decide) ?_
          refine r_istore_n (ls1 := [(2, g_i i9), (4, g_i i4), (0, g_r 1 r0), (1, g_i x1), (3, g_i x3)]) hK d_M_passes_57 rfl (by rw [hN]; decide) rfl ?_
          refine r_iinc (ls1 := [(3, g_i (x3 + 1)), (2, g_i i9), (4, g_i i4), (0, g_r 1 r0), (1, g_i x1)]) hK d_M_passes_58 4 rfl rfl (by rw [hN]; decide) rfl ?_
          refine r_goto (tgt := 4) hK d_M_passes_61 (by decide) ?_
          exact r_sub [3, 4, 1, 0] rfl (ih _ _ _ _ _ h)
set_option maxHeartbeats 4000000 in
set_option maxRecDepth 100000 in
theorem t_M_passes_0 {K : g_C} {o : (Int32 × g_St)} (hK : g_OK K b_M_passes "FixpointEngineModel" "passes" (Option.some Jvm.ClassFile.FieldType.boolean)) (hN : g_nL K = 5) (hD : g_Kd K = 5) : ∀ (r0 : Option Nat) (x1 : Int32) (s0 : g_St), f_M_passes r0 x1 s0 = some o → g_W K s0 [(0, g_r 1 r0), (1, g_i x1)] [] 0 (g_jI o) := by
  intro r0 x1 s0 h
  unfold f_M_passes at h
  refine r_iconst (v := 1) hK d_M_passes_0 (by decide) ?_
  refine r_istore_n (ls1 := [(2, g_i 1), (0, g_r 1 r0), (1, g_i x1)]) hK d_M_passes_1 rfl (by rw [hN]; decide) rfl ?_
  refine r_iconst (v := 0) hK d_M_passes_2 (by decide) ?_
  refine r_istore_n (ls1 := [(3, g_i 0), (2, g_i 1), (0, g_r 1 r0), (1, g_i x1)]) hK d_M_passes_3 rfl (by rw [hN]; decide) rfl ?_
  exact r_sub [2, 3, 1, 0] rfl (t_M_passes_4 hK hN hD _ _ _ _ _ _ h)
theorem c_M_passes (l : Launch) (G : g_G) (r0 : Option Nat) (x1 : Int32) (u : g_St) (o : (Int32 × g_St)) (h : f_M_passes r0 x1 u = some o) : g_Con l G y_M_passes b_M_passes 5 (Option.some Jvm.ClassFile.FieldType.boolean) 5 [g_r 1 r0, g_i x1] u (g_jI o) :=
  g_Con.of rfl rfl (by decide +kernel) (Nat.le_of_ble_eq_true rfl) (fun K hK hN hD hX => t_M_passes_0 hK hN hD _ _ _ h)
def f_M_isSeen_56 (x3 : Int32) (x5 : Int32) (x6 : Int32) (x0s : Int32) (s0 : g_St) : Option (Int32 × g_St) :=
  if x3 < x5 then
    g_rZ 0 (some (0, s0))
  else
    if x6 ≤ x3 then
      g_rZ 0 (some (0, s0))
    else
      if x0s = 0 then
        g_rZ 1 (some (1, s0))
      else
        g_rZ 0 (some (0, s0))
def f_M_isSeen (r0 : Option Nat) (x1 : Int32) (x2 : Int32) (x3 : Int32) (x4 : Int32) (x5 : Int32) (x6 : Int32) (s0 : g_St) : Option (Int32 × g_St) :=
  if ((x4 >>> (x2 &&& 31)) &&& 1) = 0 then
    g_rZ 1 (some (1, s0))
  else
    g_gR s0 2241 r0 fun p1 =>
    g_aI s0 p1 x1 fun i2 =>
    if i2 = x2 then
      g_gR s0 1601 r0 fun p3 =>
      g_aI s0 p3 x2 fun i4 =>
      if i4 = (-1) then
        f_M_isSeen_56 x3 x5 x6 0 s0
      else
        g_gR s0 5057 r0 fun p5 =>
        g_gR s0 1281 r0 fun p6 =>
        g_aI s0 p6 x2 fun i7 =>
        g_aL s0 p5 ((4 * x3) + i7) fun j8 =>
        if j8 = 1 then
          f_M_isSeen_56 x3 x5 x6 1 s0
        else
          f_M_isSeen_56 x3 x5 x6 0 s0
    else
      f_M_isSeen_56 x3 x5 x6 0 s0
set_option maxHeartbeats 4000000 in
set_option maxRecDepth 100000 in
theorem t_M_isSeen_56 {K : g_C} {o : (Int32 × g_St)} (hK : g_OK K b_M_isSeen "FixpointEngineModel" "isSeen" (Option.some Jvm.ClassFile.FieldType.boolean)) (hN : g_nL K = 8) (hD : g_Kd K = 1) : ∀ (x3 : Int32) (x5 : Int32) (x6 : Int32) (x0s : Int32) (s0 : g_St), f_M_isSeen_56 x3 x5 x6 x0s s0 = some o → g_W K s0 [(3, g_i x3), (5, g_i x5), (6, g_i x6)] [g_i x0s] 56 (g_jI o) := by
  intro x3 x5 x6 x0s s0 h
  unfold f_M_isSeen_56 at h
  refine r_istore (ls1 := [(7, g_i x0s), (3, g_i x3), (5, g_i x5), (6, g_i x6)]) hK d_M_isSeen_56 (by rw [hN]; decide) rfl ?_
  refine r_iload_n hK d_M_isSeen_58 rfl 1 rfl ?_
  refine r_iload hK d_M_isSeen_59 2 rfl ?_
  refine r_if_icmplt (tgt := 79) hK d_M_isSeen_61 (by decide) h (fun h => ?_) (fun h => ?_)
  · refine r_iconst (v := 0) hK d_M_isSeen_79 (by decide) ?_
    exact r_zreturn hK d_M_isSeen_80 h
  · refine r_iload_n hK d_M_isSeen_64 rfl 1 rfl ?_
    refine r_iload hK d_M_isSeen_65 3 rfl ?_
    refine r_if_icmpge (tgt := 79) hK d_M_isSeen_67 (by decide) h (fun h => ?_) (fun h => ?_)
    · refine r_iconst (v := 0) hK d_M_isSeen_79 (by decide) ?_
      exact r_zreturn hK d_M_isSeen_80 h
    · refine r_iload hK d_M_isSeen_70 0 rfl ?_
      refine r_ifne (tgt := 79) hK d_M_isSeen_72 (by decide) h (fun h => ?_) (fun h => ?_)
      · refine r_iconst (v := 0) hK d_M_isSeen_79 (by decide) ?_
        exact r_zreturn hK d_M_isSeen_80 h
      · refine r_iconst (v := 1) hK d_M_isSeen_75 (by decide) ?_
        refine r_goto (tgt := 80) hK d_M_isSeen_76 (by decide) ?_
        exact r_zreturn hK d_M_isSeen_80 h
set_option maxHeartbeats 4000000 in
set_option maxRecDepth 100000 in
theorem t_M_isSeen_0 {K : g_C} {o : (Int32 × g_St)} (hK : g_OK K b_M_isSeen "FixpointEngineModel" "isSeen" (Option.some Jvm.ClassFile.FieldType.boolean)) (hN : g_nL K = 8) (hD : g_Kd K = 1) : ∀ (r0 : Option Nat) (x1 : Int32) (x2 : Int32) (x3 : Int32) (x4 : Int32) (x5 : Int32) (x6 : Int32) (s0 : g_St), f_M_isSeen r0 x1 x2 x3 x4 x5 x6 s0 = some o → g_W K s0 [(0, g_r 1 r0), (1, g_i x1), (2, g_i x2), (3, g_i x3), (4, g_i x4), (5, g_i x5), (6, g_i x6)] [] 0 (g_jI o) := by
  intro r0 x1 x2 x3 x4 x5 x6 s0 h
  unfold f_M_isSeen at h
  refine r_iload hK d_M_isSeen_0 4 rfl ?_
  refine r_iload_n hK d_M_isSeen_2 rfl 2 rfl ?_
  refine r_ishr hK d_M_isSeen_3 ?_
  refine r_iconst (v := 1) hK d_M_isSeen_4 (by decide) ?_
  refine r_iand hK d_M_isSeen_5 ?_
  refine r_ifne (tgt := 11) hK d_M_isSeen_6 (by decide) h (fun h => ?_) (fun h => ?_)
  · refine r_aload_n hK d_M_isSeen_11 rfl 0 rfl ?_
    refine r_gR hK fd_M_35 w7_67 d_M_isSeen_12 h (fun p1 h => ?_)
    refine r_iload_n hK d_M_isSeen_15 rfl 1 rfl ?_
    refine r_iaload hK ar_20 rfl d_M_isSeen_16 h (fun i2 h => ?_)
    refine r_iload_n hK d_M_isSeen_17 rfl 2 rfl ?_
    refine r_if_icmpne (tgt := 55) hK d_M_isSeen_18 (by decide) h (fun h => ?_) (fun h => ?_)
    · refine r_iconst (v := 0) hK d_M_isSeen_55 (by decide) ?_
      exact r_sub [3, 5, 6] rfl (t_M_isSeen_56 hK hN hD _ _ _ _ _ h)
    · refine r_aload_n hK d_M_isSeen_21 rfl 0 rfl ?_
      refine r_gR hK fd_M_25 w7_57 d_M_isSeen_22 h (fun p3 h => ?_)
      refine r_iload_n hK d_M_isSeen_25 rfl 2 rfl ?_
      refine r_iaload hK ar_20 rfl d_M_isSeen_26 h (fun i4 h => ?_)
      refine r_iconst (v := (-1)) hK d_M_isSeen_27 (by decide) ?_
      refine r_if_icmpeq (tgt := 55) hK d_M_isSeen_28 (by decide) h (fun h => ?_) (fun h => ?_)
      · refine r_iconst (v := 0) hK d_M_isSeen_55 (by decide) ?_
        exact r_sub [3, 5, 6] rfl (t_M_isSeen_56 hK hN hD _ _ _ _ _ h)
      · refine r_aload_n hK d_M_isSeen_31 rfl 0 rfl ?_
        refine r_gR hK fd_M_79 w7_111 d_M_isSeen_32 h (fun p5 h => ?_)
        refine r_iconst (v := 4) hK d_M_isSeen_35 (by decide) ?_
        refine r_iload_n hK d_M_isSeen_36 rfl 3 rfl ?_
        refine r_imul hK d_M_isSeen_37 ?_
        refine r_aload_n hK d_M_isSeen_38 rfl 0 rfl ?_
        refine r_gR hK fd_M_20 w7_52 d_M_isSeen_39 h (fun p6 h => ?_)
        refine r_iload_n hK d_M_isSeen_42 rfl 2 rfl ?_
        refine r_iaload hK ar_20 rfl d_M_isSeen_43 h (fun i7 h => ?_)
        refine r_iadd hK d_M_isSeen_44 ?_
        refine r_laload hK ar_21 rfl d_M_isSeen_45 h (fun j8 h => ?_)
        refine r_lconst (v := 1) hK d_M_isSeen_46 (by decide) ?_
        refine r_lifne (tgt := 55) hK d_M_isSeen_47 d_M_isSeen_48 (by decide) h (fun h => ?_) (fun h => ?_)
        · refine r_iconst (v := 0) hK d_M_isSeen_55 (by decide) ?_
          exact r_sub [3, 5, 6] rfl (t_M_isSeen_56 hK hN hD _ _ _ _ _ h)
        · refine r_iconst (v := 1) hK d_M_isSeen_51 (by decide) ?_
          refine r_goto (tgt := 56) hK d_M_isSeen_52 (by decide) ?_
          exact r_sub [3, 5, 6] rfl (t_M_isSeen_56 hK hN hD _ _ _ _ _ h)
  · refine r_iconst (v := 1) hK d_M_isSeen_9 (by decide) ?_
    exact r_zreturn hK d_M_isSeen_10 h
theorem c_M_isSeen (l : Launch) (G : g_G) (r0 : Option Nat) (x1 : Int32) (x2 : Int32) (x3 : Int32) (x4 : Int32) (x5 : Int32) (x6 : Int32) (u : g_St) (o : (Int32 × g_St)) (h : f_M_isSeen r0 x1 x2 x3 x4 x5 x6 u = some o) : g_Con l G y_M_isSeen b_M_isSeen 8 (Option.some Jvm.ClassFile.FieldType.boolean) 1 [g_r 1 r0, g_i x1, g_i x2, g_i x3, g_i x4, g_i x5, g_i x6] u (g_jI o) :=
  g_Con.of rfl rfl (by decide +kernel) (Nat.le_of_ble_eq_true rfl) (fun K hK hN hD hX => t_M_isSeen_0 hK hN hD _ _ _ _ _ _ _ _ h)
def f_M_gather_117 (k64 : Option Nat → Int32 → Int32 → Int32 → Int32 → Int32 → Int32 → Int32 → Int32 → g_St → Option (Unit × g_St)) (r0 : Option Nat) (x1 : Int32) (x2 : Int32) (x3 : Int32) (x4 : Int32) (x5 : Int32) (x6 : Int32) (x7 : Int32) (x8 : Int32) (x0s : Int32) (s0 : g_St) : Option (Unit × g_St) :=
  if x0s = 0 then
    k64 r0 x1 x2 x3 x4 x5 x6 x7 (x8 + 1) s0
  else
    g_gR s0 6081 r0 fun p1 =>
    g_gR s0 6145 r0 fun p2 =>
    g_aI s0 p2 x5 fun i3 =>
    if 10 ≤ x6 then
      g_sI s0 p1 ((64 * x5) + i3) (100 + x8) fun s4 =>
      g_gR s4 6145 r0 fun p5 =>
      g_aI s4 p5 x5 fun i6 =>
      g_sI s4 p5 x5 (i6 + 1) fun s7 =>
      k64 r0 x1 x2 x3 x4 x5 x6 x7 (x8 + 1) s7
    else
      g_sI s0 p1 ((64 * x5) + i3) ((16 * x6) + x8) fun s8 =>
      g_gR s8 6145 r0 fun p9 =>
      g_aI s8 p9 x5 fun i10 =>
      g_sI s8 p9 x5 (i10 + 1) fun s11 =>
      k64 r0 x1 x2 x3 x4 x5 x6 x7 (x8 + 1) s11
def f_M_gather_64 (k3 : Option Nat → Int32 → Int32 → Int32 → Int32 → Int32 → g_St → Option (Unit × g_St)) : Nat → Option Nat → Int32 → Int32 → Int32 → Int32 → Int32 → Int32 → Int32 → Int32 → g_St → Option (Unit × g_St)
  | 0, _, _, _, _, _, _, _, _, _, _ => none
  | n + 1, r0, x1, x2, x3, x4, x5, x6, x7, x8, s0 =>
    if x7 ≤ x8 then
      k3 r0 x1 x2 x3 x4 (x5 + 1) s0
    else
      if x6 < 10 then
        f_M_gather_117 (f_M_gather_64 k3 n) r0 x1 x2 x3 x4 x5 x6 x7 x8 1 s0
      else
        g_gR s0 4993 r0 fun p1 =>
        g_aI s0 p1 x8 fun i2 =>
        if i2 = (x6 - 10) then
          g_c (g_nn r0 (f_M_isSeen r0 x1 (x6 - 10) x8 x2 x3 x4 s0)) fun i3 s4 =>
          if i3 = 0 then
            f_M_gather_117 (f_M_gather_64 k3 n) r0 x1 x2 x3 x4 x5 x6 x7 x8 0 s4
          else
            f_M_gather_117 (f_M_gather_64 k3 n) r0 x1 x2 x3 x4 x5 x6 x7 x8 1 s4
        else
          f_M_gather_117 (f_M_gather_64 k3 n) r0 x1 x2 x3 x4 x5 x6 x7 x8 0 s0
def f_M_gather_3 : Nat → Option Nat → Int32 → Int32 → Int32 → Int32 → Int32 → g_St → Option (Unit × g_St)
  | 0, _, _, _, _, _, _, _ => none
  | n + 1, r0, x1, x2, x3, x4, x5, s0 =>
    g_gR s0 2561 r0 fun p1 =>
    g_aI s0 p1 x1 fun i2 =>
    if i2 ≤ x5 then
      some ((), s0)
    else
      g_gR s0 3777 r0 fun p3 =>
      g_gR s0 2497 r0 fun p4 =>
      g_aI s0 p4 x1 fun i5 =>
      g_aI s0 p3 (i5 + x5) fun i6 =>
      g_gR s0 6145 r0 fun p7 =>
      g_sI s0 p7 x5 0 fun s8 =>
      if 10 ≤ i6 then
        g_gI s8 4929 r0 fun i9 =>
        f_M_gather_64 (f_M_gather_3 n) 200000 r0 x1 x2 x3 x4 x5 i6 i9 0 s8
      else
        g_gR s8 193 r0 fun p10 =>
        g_aI s8 p10 i6 fun i11 =>
        f_M_gather_64 (f_M_gather_3 n) 200000 r0 x1 x2 x3 x4 x5 i6 i11 0 s8
def f_M_gather (r0 : Option Nat) (x1 : Int32) (x2 : Int32) (x3 : Int32) (x4 : Int32) (s0 : g_St) : Option (Unit × g_St) :=
  f_M_gather_3 200000 r0 x1 x2 x3 x4 0 s0
set_option maxHeartbeats 4000000 in
set_option maxRecDepth 100000 in
theorem t_M_gather_117 {K : g_C} {o : (Unit × g_St)} (hK : g_OK K b_M_gather "FixpointEngineModel" "gather" (Option.none : Option Jvm.ClassFile.FieldType)) (hN : g_nL K = 10) (hD : g_Kd K = 2) {k64 : Option Nat → Int32 → Int32 → Int32 → Int32 → Int32 → Int32 → Int32 → Int32 → g_St → Option (Unit × g_St)} (hk64 : ∀ (r0 : Option Nat) (x1 : Int32) (x2 : Int32) (x3 : Int32) (x4 : Int32) (x5 : Int32) (x6 : Int32) (x7 : Int32) (x8 : Int32) (s0 : g_St), k64 r0 x1 x2 x3 x4 x5 x6 x7 x8 s0 = some o → g_W K s0 [(0, g_r 1 r0), (1, g_i x1), (2, g_i x2), (3, g_i x3), (4, g_i x4), (5, g_i x5), (6, g_i x6), (7, g_i x7), (8, g_i x8)] [] 64 (g_jV o)) : ∀ (r0 : Option Nat) (x1 : Int32) (x2 : Int32) (x3 : Int32) (x4 : Int32) (x5 : Int32) (x6 : Int32) (x7 : Int32) (x8 : Int32) (x0s : Int32) (s0 : g_St), f_M_gather_117 k64 r0 x1 x2 x3 x4 x5 x6 x7 x8 x0s s0 = some o → g_W K s0 [(0, g_r 1 r0), (1, g_i x1), (2, g_i x2), (3, g_i x3), (4, g_i x4), (5, g_i x5), (6, g_i x6), (7, g_i x7), (8, g_i x8)] [g_i x0s] 117 (g_jV o) := by
  intro r0 x1 x2 x3 x4 x5 x6 x7 x8 x0s s0 h
  unfold f_M_gather_117 at h
  refine r_istore (ls1 := [(9, g_i x0s), (0, g_r 1 r0), (1, g_i x1), (2, g_i x2), (3, g_i x3), (4, g_i x4), (5, g_i x5), (6, g_i x6), (7, g_i x7), (8, g_i x8)]) hK d_M_gather_117 (by rw [hN]; decide) rfl ?_
  refine r_iload hK d_M_gather_119 0 rfl ?_
  refine r_ifne (tgt := 127) hK d_M_gather_121 (by decide) h (fun h => ?_) (fun h => ?_)
  · refine r_aload_n hK d_M_gather_127 rfl 1 rfl ?_
    refine r_gR hK fd_M_95 w7_127 d_M_gather_128 h (fun p1 h => ?_)
    refine r_bipush (v := 64) hK d_M_gather_131 (by decide) ?_
    refine r_iload hK d_M_gather_133 6 rfl ?_
    refine r_imul hK d_M_gather_135 ?_
    refine r_aload_n hK d_M_gather_136 rfl 1 rfl ?_
    refine r_gR hK fd_M_96 w7_128 d_M_gather_137 h (fun p2 h => ?_)
    refine r_iload hK d_M_gather_140 6 rfl ?_
    refine r_iaload hK ar_20 rfl d_M_gather_142 h (fun i3 h => ?_)
    refine r_iadd hK d_M_gather_143 ?_
    refine r_iload hK d_M_gather_144 7 rfl ?_
    refine r_bipush (v := 10) hK d_M_gather_146 (by decide) ?_
    refine r_if_icmpge (tgt := 162) hK d_M_gather_148 (by decide) h (fun h => ?_) (fun h => ?_)
    · refine r_bipush (v := 100) hK d_M_gather_162 (by decide) ?_
      refine r_iload hK d_M_gather_164 9 rfl ?_
      refine r_iadd hK d_M_gather_166 ?_
      refine r_iastore hK ar_20 rfl d_M_gather_167 h (fun s4 h => ?_)
      refine r_aload_n hK d_M_gather_168 rfl 1 rfl ?_
      refine r_gR hK fd_M_96 w7_128 d_M_gather_169 h (fun p5 h => ?_)
      refine r_iload hK d_M_gather_172 6 rfl ?_
      refine r_dup2_11 hK d_M_gather_174 rfl rfl ?_
      refine r_iaload hK ar_20 rfl d_M_gather_175 h (fun i6 h => ?_)
      refine r_iconst (v := 1) hK d_M_gather_176 (by decide) ?_
      refine r_iadd hK d_M_gather_177 ?_
      refine r_iastore hK ar_20 rfl d_M_gather_178 h (fun s7 h => ?_)
      refine r_iinc (ls1 := [(8, g_i (x8 + 1)), (9, g_i x0s), (0, g_r 1 r0), (1, g_i x1), (2, g_i x2), (3, g_i x3), (4, g_i x4), (5, g_i x5), (6, g_i x6), (7, g_i x7)]) hK d_M_gather_179 9 rfl rfl (by rw [hN]; decide) rfl ?_
      refine r_goto (tgt := 64) hK d_M_gather_182 (by decide) ?_
      exact r_sub [2, 3, 4, 5, 6, 7, 8, 9, 0] rfl (hk64 _ _ _ _ _ _ _ _ _ _ h)
    · refine r_bipush (v := 16) hK d_M_gather_151 (by decide) ?_
      refine r_iload hK d_M_gather_153 7 rfl ?_
      refine r_imul hK d_M_gather_155 ?_
      refine r_iload hK d_M_gather_156 9 rfl ?_
      refine r_iadd hK d_M_gather_158 ?_
      refine r_goto (tgt := 167) hK d_M_gather_159 (by decide) ?_
      refine r_iastore hK ar_20 rfl d_M_gather_167 h (fun s8 h => ?_)
      refine r_aload_n hK d_M_gather_168 rfl 1 rfl ?_
      refine r_gR hK fd_M_96 w7_128 d_M_gather_169 h (fun p9 h => ?_)
      refine r_iload hK d_M_gather_172 6 rfl ?_
      refine r_dup2_11 hK d_M_gather_174 rfl rfl ?_
      refine r_iaload hK ar_20 rfl d_M_gather_175 h (fun i10 h => ?_)
      refine r_iconst (v := 1) hK d_M_gather_176 (by decide) ?_
      refine r_iadd hK d_M_gather_177 ?_
      refine r_iastore hK ar_20 rfl d_M_gather_178 h (fun s11 h => ?_)
      refine r_iinc (ls1 := [(8, g_i (x8 + 1)), (9, g_i x0s), (0, g_r 1 r0), (1, g_i x1), (2, g_i x2), (3, g_i x3), (4, g_i x4), (5, g_i x5), (6, g_i x6), (7, g_i x7)]) hK d_M_gather_179 9 rfl rfl (by rw [hN]; decide) rfl ?_
      refine r_goto (tgt := 64) hK d_M_gather_182 (by decide) ?_
      exact r_sub [2, 3, 4, 5, 6, 7, 8, 9, 0] rfl (hk64 _ _ _ _ _ _ _ _ _ _ h)
  · refine r_goto (tgt := 179) hK d_M_gather_124 (by decide) ?_
    refine r_iinc (ls1 := [(8, g_i (x8 + 1)), (9, g_i x0s), (0, g_r 1 r0), (1, g_i x1), (2, g_i x2), (3, g_i x3), (4, g_i x4), (5, g_i x5), (6, g_i x6), (7, g_i x7)]) hK d_M_gather_179 9 rfl rfl (by rw [hN]; decide) rfl ?_
    refine r_goto (tgt := 64) hK d_M_gather_182 (by decide) ?_
    exact r_sub [2, 3, 4, 5, 6, 7, 8, 9, 0] rfl (hk64 _ _ _ _ _ _ _ _ _ _ h)
set_option maxHeartbeats 4000000 in
set_option maxRecDepth 100000 in
theorem t_M_gather_64 {K : g_C} {o : (Unit × g_St)} (hK : g_OK K b_M_gather "FixpointEngineModel" "gather" (Option.none : Option Jvm.ClassFile.FieldType)) (hN : g_nL K = 10) (hD : g_Kd K = 2) {k3 : Option Nat → Int32 → Int32 → Int32 → Int32 → Int32 → g_St → Option (Unit × g_St)} (hk3 : ∀ (r0 : Option Nat) (x1 : Int32) (x2 : Int32) (x3 : Int32) (x4 : Int32) (x5 : Int32) (s0 : g_St), k3 r0 x1 x2 x3 x4 x5 s0 = some o → g_W K s0 [(0, g_r 1 r0), (1, g_i x1), (2, g_i x2), (3, g_i x3), (4, g_i x4), (5, g_i x5)] [] 3 (g_jV o)) : ∀ (n : Nat) (r0 : Option Nat) (x1 : Int32) (x2 : Int32) (x3 : Int32) (x4 : Int32) (x5 : Int32) (x6 : Int32) (x7 : Int32) (x8 : Int32) (s0 : g_St), f_M_gather_64 k3 n r0 x1 x2 x3 x4 x5 x6 x7 x8 s0 = some o → g_W K s0 [(0, g_r 1 r0), (1, g_i x1), (2, g_i x2), (3, g_i x3), (4, g_i x4), (5, g_i x5), (6, g_i x6), (7, g_i x7), (8, g_i x8)] [] 64 (g_jV o) := by
  intro n
  induction n with
  | zero =>
    intro r0 x1 x2 x3 x4 x5 x6 x7 x8 s0 h
    cases h
  | succ n ih =>
    intro r0 x1 x2 x3 x4 x5 x6 x7 x8 s0 h
    unfold f_M_gather_64 at h
    refine r_iload hK d_M_gather_64 8 rfl ?_
    refine r_iload hK d_M_gather_66 7 rfl ?_
    refine r_if_icmpge (tgt := 185) hK d_M_gather_68 (by decide) h (fun h => ?_) (fun h => ?_)
    · refine r_iinc (ls1 := [(5, g_i (x5 + 1)), (0, g_r 1 r0), (1, g_i x1), (2, g_i x2), (3, g_i x3), (4, g_i x4), (6, g_i x6), (7, g_i x7), (8, g_i x8)]) hK d_M_gather_185 5 rfl rfl (by rw [hN]; decide) rfl ?_
      refine r_goto (tgt := 3) hK d_M_gather_188 (by decide) ?_
      exact r_sub [1, 2, 3, 4, 5, 0] rfl (hk3 _ _ _ _ _ _ _ h)
    · refine r_iload hK d_M_gather_71 6 rfl ?_
      refine r_bipush (v := 10) hK d_M_gather_73 (by decide) ?_
      refine r_if_icmplt (tgt := 112) hK d_M_gather_75 (by decide) h (fun h => ?_) (fun h => ?_)
      · refine r_iconst (v := 1) hK d_M_gather_112 (by decide) ?_
        refine r_goto (tgt := 117) hK d_M_gather_113 (by decide) ?_
        exact r_sub [0, 1, 2, 3, 4, 5, 6, 7, 8] rfl (t_M_gather_117 hK hN hD ih _ _ _ _ _ _ _ _ _ _ _ h)
      · refine r_aload_n hK d_M_gather_78 rfl 0 rfl ?_
        refine r_gR hK fd_M_78 w7_110 d_M_gather_79 h (fun p1 h => ?_)
        refine r_iload hK d_M_gather_82 8 rfl ?_
        refine r_iaload hK ar_20 rfl d_M_gather_84 h (fun i2 h => ?_)
        refine r_iload hK d_M_gather_85 6 rfl ?_
        refine r_bipush (v := 10) hK d_M_gather_87 (by decide) ?_
        refine r_isub hK d_M_gather_89 ?_
        refine r_if_icmpne (tgt := 116) hK d_M_gather_90 (by decide) h (fun h => ?_) (fun h => ?_)
        · refine r_iconst (v := 0) hK d_M_gather_116 (by decide) ?_
          exact r_sub [0, 1, 2, 3, 4, 5, 6, 7, 8] rfl (t_M_gather_117 hK hN hD ih _ _ _ _ _ _ _ _ _ _ _ h)
        · refine r_aload_n hK d_M_gather_93 rfl 0 rfl ?_
          refine r_iload_n hK d_M_gather_94 rfl 1 rfl ?_
          refine r_iload hK d_M_gather_95 6 rfl ?_
          refine r_bipush (v := 10) hK d_M_gather_97 (by decide) ?_
          refine r_isub hK d_M_gather_99 ?_
          refine r_iload hK d_M_gather_100 8 rfl ?_
          refine r_iload_n hK d_M_gather_102 rfl 2 rfl ?_
          refine r_iload_n hK d_M_gather_103 rfl 3 rfl ?_
          refine r_iload hK d_M_gather_104 4 rfl ?_
          refine r_Vi (avL := [g_i x1, g_i (x6 - 10), g_i x8, g_i x2, g_i x3, g_i x4]) (st := []) hK ob_M rfl w9_111 wp_54 w9_109 w9_112 w1_6 (by decide) pl_M_isSeen (by rw [hD]; decide) (Nat.le_of_ble_eq_true rfl) rfl d_M_gather_106 (fun o9 h9 => c_M_isSeen _ _ _ _ _ _ _ _ _ _ o9 h9) h (fun i3 s4 h => ?_)
          refine r_ifeq (tgt := 116) hK d_M_gather_109 (by decide) h (fun h => ?_) (fun h => ?_)
          · refine r_iconst (v := 0) hK d_M_gather_116 (by decide) ?_
            exact r_sub [0, 1, 2, 3, 4, 5, 6, 7, 8] rfl (t_M_gather_117 hK hN hD ih _ _ _ _ _ _ _ _ _ _ _ h)
          · refine r_iconst (v := 1) hK d_M_gather_112 (by decide) ?_
            refine r_goto (tgt := 117) hK d_M_gather_113 (by decide) ?_
            exact r_sub [0, 1, 2, 3, 4, 5, 6, 7, 8] rfl (t_M_gather_117 hK hN hD ih _ _ _ _ _ _ _ _ _ _ _ h)
set_option maxHeartbeats 4000000 in
set_option maxRecDepth 100000 in
theorem t_M_gather_3 {K : g_C} {o : (Unit × g_St)} (hK : g_OK K b_M_gather "FixpointEngineModel" "gather" (Option.none : Option Jvm.ClassFile.FieldType)) (hN : g_nL K = 10) (hD : g_Kd K = 2) : ∀ (n : Nat) (r0 : Option Nat) (x1 : Int32) (x2 : Int32) (x3 : Int32) (x4 : Int32) (x5 : Int32) (s0 : g_St), f_M_gather_3 n r0 x1 x2 x3 x4 x5 s0 = some o → g_W K s0 [(0, g_r 1 r0), (1, g_i x1), (2, g_i x2), (3, g_i x3), (4, g_i x4), (5, g_i x5)] [] 3 (g_jV o) := by
  intro n
  induction n with
  | zero =>
    intro r0 x1 x2 x3 x4 x5 s0 h
    cases h
  | succ n ih =>
    intro r0 x1 x2 x3 x4 x5 s0 h
    unfold f_M_gather_3 at h
    refine r_iload hK d_M_gather_3 5 rfl ?_
    refine r_aload_n hK d_M_gather_5 rfl 0 rfl ?_
    refine r_gR hK fd_M_40 w7_72 d_M_gather_6 h (fun p1 h => ?_)
    refine r_iload_n hK d_M_gather_9 rfl 1 rfl ?_
    refine r_iaload hK ar_20 rfl d_M_gather_10 h (fun i2 h => ?_)
    refine r_if_icmpge (tgt := 191) hK d_M_gather_11 (by decide) h (fun h => ?_) (fun h => ?_)
    · exact r_return hK d_M_gather_191 h
    · refine r_aload_n hK d_M_gather_14 rfl 0 rfl ?_
      refine r_gR hK fd_M_59 w7_91 d_M_gather_15 h (fun p3 h => ?_)
      refine r_aload_n hK d_M_gather_18 rfl 0 rfl ?_
      refine r_gR hK fd_M_39 w7_71 d_M_gather_19 h (fun p4 h => ?_)
      refine r_iload_n hK d_M_gather_22 rfl 1 rfl ?_
      refine r_iaload hK ar_20 rfl d_M_gather_23 h (fun i5 h => ?_)
      refine r_iload hK d_M_gather_24 5 rfl ?_
      refine r_iadd hK d_M_gather_26 ?_
      refine r_iaload hK ar_20 rfl d_M_gather_27 h (fun i6 h => ?_)
      refine r_istore (ls1 := [(6, g_i i6), (0, g_r 1 r0), (1, g_i x1), (2, g_i x2), (3, g_i x3), (4, g_i x4), (5, g_i x5)]) hK d_M_gather_28 (by rw [hN]; decide) rfl ?_
      refine r_aload_n hK d_M_gather_30 rfl 1 rfl ?_
      refine r_gR hK fd_M_96 w7_128 d_M_gather_31 h (fun p7 h => ?_)
      refine r_iload hK d_M_gather_34 6 rfl ?_
      refine r_iconst (v := 0) hK d_M_gather_36 (by decide) ?_
      refine r_iastore hK ar_20 rfl d_M_gather_37 h (fun s8 h => ?_)
      refine r_iload hK d_M_gather_38 0 rfl ?_
      refine r_bipush (v := 10) hK d_M_gather_40 (by decide) ?_
      refine r_if_icmpge (tgt := 55) hK d_M_gather_42 (by decide) h (fun h => ?_) (fun h => ?_)
      · refine r_aload_n hK d_M_gather_55 rfl 1 rfl ?_
        refine r_gI hK fd_M_77 w7_109 d_M_gather_56 h (fun i9 h => ?_)
        refine r_istore (ls1 := [(7, g_i i9), (6, g_i i6), (0, g_r 1 r0), (1, g_i x1), (2, g_i x2), (3, g_i x3), (4, g_i x4), (5, g_i x5)]) hK d_M_gather_59 (by rw [hN]; decide) rfl ?_
        refine r_iconst (v := 0) hK d_M_gather_61 (by decide) ?_
        refine r_istore (ls1 := [(8, g_i 0), (7, g_i i9), (6, g_i i6), (0, g_r 1 r0), (1, g_i x1), (2, g_i x2), (3, g_i x3), (4, g_i x4), (5, g_i x5)]) hK d_M_gather_62 (by rw [hN]; decide) rfl ?_
        exact r_sub [3, 4, 5, 6, 7, 8, 2, 1, 0] rfl (t_M_gather_64 hK hN hD ih _ _ _ _ _ _ _ _ _ _ _ h)
      · refine r_aload_n hK d_M_gather_45 rfl 1 rfl ?_
        refine r_gR hK fd_M_3 w7_35 d_M_gather_46 h (fun p10 h => ?_)
        refine r_iload hK d_M_gather_49 0 rfl ?_
        refine r_iaload hK ar_20 rfl d_M_gather_51 h (fun i11 h => ?_)
        refine r_goto (tgt := 59) hK d_M_gather_52 (by decide) ?_
        refine r_istore (ls1 := [(7, g_i i11), (6, g_i i6), (0, g_r 1 r0), (1, g_i x1), (2, g_i x2), (3, g_i x3), (4, g_i x4), (5, g_i x5)]) hK d_M_gather_59 (by rw [hN]; decide) rfl ?_
        refine r_iconst (v := 0) hK d_M_gather_61 (by decide) ?_
        refine r_istore (ls1 := [(8, g_i 0), (7, g_i i11), (6, g_i i6), (0, g_r 1 r0), (1, g_i x1), (2, g_i x2), (3, g_i x3), (4, g_i x4), (5, g_i x5)]) hK d_M_gather_62 (by rw [hN]; decide) rfl ?_
        exact r_sub [3, 4, 5, 6, 7, 8, 2, 1, 0] rfl (t_M_gather_64 hK hN hD ih _ _ _ _ _ _ _ _ _ _ _ h)
set_option maxHeartbeats 4000000 in
set_option maxRecDepth 100000 in
theorem t_M_gather_0 {K : g_C} {o : (Unit × g_St)} (hK : g_OK K b_M_gather "FixpointEngineModel" "gather" (Option.none : Option Jvm.ClassFile.FieldType)) (hN : g_nL K = 10) (hD : g_Kd K = 2) : ∀ (r0 : Option Nat) (x1 : Int32) (x2 : Int32) (x3 : Int32) (x4 : Int32) (s0 : g_St), f_M_gather r0 x1 x2 x3 x4 s0 = some o → g_W K s0 [(0, g_r 1 r0), (1, g_i x1), (2, g_i x2), (3, g_i x3), (4, g_i x4)] [] 0 (g_jV o) := by
  intro r0 x1 x2 x3 x4 s0 h
  unfold f_M_gather at h
  refine r_iconst (v := 0) hK d_M_gather_0 (by decide) ?_
  refine r_istore (ls1 := [(5, g_i 0), (0, g_r 1 r0), (1, g_i x1), (2, g_i x2), (3, g_i x3), (4, g_i x4)]) hK d_M_gather_1 (by rw [hN]; decide) rfl ?_
  exact r_sub [1, 2, 3, 4, 5, 0] rfl (t_M_gather_3 hK hN hD _ _ _ _ _ _ _ _ h)
theorem c_M_gather (l : Launch) (G : g_G) (r0 : Option Nat) (x1 : Int32) (x2 : Int32) (x3 : Int32) (x4 : Int32) (u : g_St) (o : (Unit × g_St)) (h : f_M_gather r0 x1 x2 x3 x4 u = some o) : g_Con l G y_M_gather b_M_gather 10 (Option.none : Option Jvm.ClassFile.FieldType) 2 [g_r 1 r0, g_i x1, g_i x2, g_i x3, g_i x4] u (g_jV o) :=
  g_Con.of rfl rfl (by decide +kernel) (Nat.le_of_ble_eq_true rfl) (fun K hK hN hD hX => t_M_gather_0 hK hN hD _ _ _ _ _ _ h)
def f_M_first_4 : Nat → Option Nat → Int32 → Int32 → Int32 → g_St → Option (Int32 × g_St)
  | 0, _, _, _, _, _ => none
  | n + 1, r0, x1, x2, x3, s0 =>
    g_gR s0 2561 r0 fun p1 =>
    g_aI s0 p1 x1 fun i2 =>
    if i2 ≤ x3 then
      g_rZ x2 (some (x2, s0))
    else
      g_gR s0 6209 r0 fun p3 =>
      g_sI s0 p3 x3 0 fun s4 =>
      if x2 = 0 then
        f_M_first_4 n r0 x1 0 (x3 + 1) s4
      else
        g_gR s4 6145 r0 fun p5 =>
        g_aI s4 p5 x3 fun i6 =>
        if i6 ≤ 0 then
          f_M_first_4 n r0 x1 0 (x3 + 1) s4
        else
          f_M_first_4 n r0 x1 1 (x3 + 1) s4
def f_M_first (r0 : Option Nat) (x1 : Int32) (s0 : g_St) : Option (Int32 × g_St) :=
  f_M_first_4 200000 r0 x1 1 0 s0
set_option maxHeartbeats 4000000 in
set_option maxRecDepth 100000 in
theorem t_M_first_4 {K : g_C} {o : (Int32 × g_St)} (hK : g_OK K b_M_first "FixpointEngineModel" "first" (Option.some Jvm.ClassFile.FieldType.boolean)) (hN : g_nL K = 4) (hD : g_Kd K = 1) : ∀ (n : Nat) (r0 : Option Nat) (x1 : Int32) (x2 : Int32) (x3 : Int32) (s0 : g_St), f_M_first_4 n r0 x1 x2 x3 s0 = some o → g_W K s0 [(0, g_r 1 r0), (1, g_i x1), (2, g_i x2), (3, g_i x3)] [] 4 (g_jI o) := by
  intro n
  induction n with
  | zero =>
    intro r0 x1 x2 x3 s0 h
    cases h
  | succ n ih =>
    intro r0 x1 x2 x3 s0 h
    unfold f_M_first_4 at h
    refine r_iload_n hK d_M_first_4 rfl 3 rfl ?_
    refine r_aload_n hK d_M_first_5 rfl 0 rfl ?_
    refine r_gR hK fd_M_40 w7_72 d_M_first_6 h (fun p1 h => ?_)
    refine r_iload_n hK d_M_first_9 rfl 1 rfl ?_
    refine r_iaload hK ar_20 rfl d_M_first_10 h (fun i2 h => ?_)
    refine r_if_icmpge (tgt := 46) hK d_M_first_11 (by decide) h (fun h => ?_) (fun h => ?_)
    · refine r_iload_n hK d_M_first_46 rfl 2 rfl ?_
      exact r_zreturn hK d_M_first_47 h
    · refine r_aload_n hK d_M_first_14 rfl 0 rfl ?_
      refine r_gR hK fd_M_97 w7_129 d_M_first_15 h (fun p3 h => ?_)
      refine r_iload_n hK d_M_first_18 rfl 3 rfl ?_
      refine r_iconst (v := 0) hK d_M_first_19 (by decide) ?_
      refine r_iastore hK ar_20 rfl d_M_first_20 h (fun s4 h => ?_)
      refine r_iload_n hK d_M_first_21 rfl 2 rfl ?_
      refine r_ifeq (tgt := 38) hK d_M_first_22 (by decide) h (fun h => ?_) (fun h => ?_)
      · refine r_iconst (v := 0) hK d_M_first_38 (by decide) ?_
        refine r_istore_n (ls1 := [(2, g_i 0), (0, g_r 1 r0), (1, g_i x1), (3, g_i x3)]) hK d_M_first_39 rfl (by rw [hN]; decide) rfl ?_
        refine r_iinc (ls1 := [(3, g_i (x3 + 1)), (2, g_i 0), (0, g_r 1 r0), (1, g_i x1)]) hK d_M_first_40 3 rfl rfl (by rw [hN]; decide) rfl ?_
        refine r_goto (tgt := 4) hK d_M_first_43 (by decide) ?_
        exact r_sub [2, 3, 1, 0] rfl (ih _ _ _ _ _ h)
      · refine r_aload_n hK d_M_first_25 rfl 0 rfl ?_
        refine r_gR hK fd_M_96 w7_128 d_M_first_26 h (fun p5 h => ?_)
        refine r_iload_n hK d_M_first_29 rfl 3 rfl ?_
        refine r_iaload hK ar_20 rfl d_M_first_30 h (fun i6 h => ?_)
        refine r_ifle (tgt := 38) hK d_M_first_31 (by decide) h (fun h => ?_) (fun h => ?_)
        · refine r_iconst (v := 0) hK d_M_first_38 (by decide) ?_
          refine r_istore_n (ls1 := [(2, g_i 0), (0, g_r 1 r0), (1, g_i x1), (3, g_i x3)]) hK d_M_first_39 rfl (by rw [hN]; decide) rfl ?_
          refine r_iinc (ls1 := [(3, g_i (x3 + 1)), (2, g_i 0), (0, g_r 1 r0), (1, g_i x1)]) hK d_M_first_40 3 rfl rfl (by rw [hN]; decide) rfl ?_
          refine r_goto (tgt := 4) hK d_M_first_43 (by decide) ?_
          exact r_sub [2, 3, 1, 0] rfl (ih _ _ _ _ _ h)
        · refine r_iconst (v := 1) hK d_M_first_34 (by decide) ?_
          refine r_goto (tgt := 39) hK d_M_first_35 (by decide) ?_
          refine r_istore_n (ls1 := [(2, g_i 1), (0, g_r 1 r0), (1, g_i x1), (3, g_i x3)]) hK d_M_first_39 rfl (by rw [hN]; decide) rfl ?_
          refine r_iinc (ls1 := [(3, g_i (x3 + 1)), (2, g_i 1), (0, g_r 1 r0), (1, g_i x1)]) hK d_M_first_40 3 rfl rfl (by rw [hN]; decide) rfl ?_
          refine r_goto (tgt := 4) hK d_M_first_43 (by decide) ?_
          exact r_sub [2, 3, 1, 0] rfl (ih _ _ _ _ _ h)
set_option maxHeartbeats 4000000 in
set_option maxRecDepth 100000 in
theorem t_M_first_0 {K : g_C} {o : (Int32 × g_St)} (hK : g_OK K b_M_first "FixpointEngineModel" "first" (Option.some Jvm.ClassFile.FieldType.boolean)) (hN : g_nL K = 4) (hD : g_Kd K = 1) : ∀ (r0 : Option Nat) (x1 : Int32) (s0 : g_St), f_M_first r0 x1 s0 = some o → g_W K s0 [(0, g_r 1 r0), (1, g_i x1)] [] 0 (g_jI o) := by
  intro r0 x1 s0 h
  unfold f_M_first at h
  refine r_iconst (v := 1) hK d_M_first_0 (by decide) ?_
  refine r_istore_n (ls1 := [(2, g_i 1), (0, g_r 1 r0), (1, g_i x1)]) hK d_M_first_1 rfl (by rw [hN]; decide) rfl ?_
  refine r_iconst (v := 0) hK d_M_first_2 (by decide) ?_
  refine r_istore_n (ls1 := [(3, g_i 0), (2, g_i 1), (0, g_r 1 r0), (1, g_i x1)]) hK d_M_first_3 rfl (by rw [hN]; decide) rfl ?_
  exact r_sub [2, 3, 1, 0] rfl (t_M_first_4 hK hN hD _ _ _ _ _ _ h)
theorem c_M_first (l : Launch) (G : g_G) (r0 : Option Nat) (x1 : Int32) (u : g_St) (o : (Int32 × g_St)) (h : f_M_first r0 x1 u = some o) : g_Con l G y_M_first b_M_first 4 (Option.some Jvm.ClassFile.FieldType.boolean) 1 [g_r 1 r0, g_i x1] u (g_jI o) :=
  g_Con.of rfl rfl (by decide +kernel) (Nat.le_of_ble_eq_true rfl) (fun K hK hN hD hX => t_M_first_0 hK hN hD _ _ _ h)
def f_M_next_43 (r0 : Option Nat) (x2 : Int32) (s0 : g_St) : Option (Int32 × g_St) :=
  if 0 ≤ x2 then
    g_gR s0 6209 r0 fun p1 =>
    g_aI s0 p1 x2 fun i2 =>
    g_sI s0 p1 x2 (i2 + 1) fun s3 =>
    g_rZ 1 (some (1, s3))
  else
    g_rZ 0 (some (0, s0))
def f_M_next_9 : Nat → Option Nat → Int32 → g_St → Option (Int32 × g_St)
  | 0, _, _, _ => none
  | n + 1, r0, x2, s0 =>
    if x2 < 0 then
      f_M_next_43 r0 x2 s0
    else
      g_gR s0 6209 r0 fun p1 =>
      g_aI s0 p1 x2 fun i2 =>
      g_gR s0 6145 r0 fun p3 =>
      g_aI s0 p3 x2 fun i4 =>
      if i2 = (i4 - 1) then
        g_gR s0 6209 r0 fun p5 =>
        g_sI s0 p5 x2 0 fun s6 =>
        f_M_next_9 n r0 (x2 + (-1)) s6
      else
        f_M_next_43 r0 x2 s0
def f_M_next (r0 : Option Nat) (x1 : Int32) (s0 : g_St) : Option (Int32 × g_St) :=
  g_gR s0 2561 r0 fun p1 =>
  g_aI s0 p1 x1 fun i2 =>
  f_M_next_9 200000 r0 (i2 - 1) s0
set_option maxHeartbeats 4000000 in
set_option maxRecDepth 100000 in
theorem t_M_next_43 {K : g_C} {o : (Int32 × g_St)} (hK : g_OK K b_M_next "FixpointEngineModel" "next" (Option.some Jvm.ClassFile.FieldType.boolean)) (hN : g_nL K = 3) (hD : g_Kd K = 1) : ∀ (r0 : Option Nat) (x2 : Int32) (s0 : g_St), f_M_next_43 r0 x2 s0 = some o → g_W K s0 [(0, g_r 1 r0), (2, g_i x2)] [] 43 (g_jI o) := by
  intro r0 x2 s0 h
  unfold f_M_next_43 at h
  refine r_iload_n hK d_M_next_43 rfl 1 rfl ?_
  refine r_ifge (tgt := 49) hK d_M_next_44 (by decide) h (fun h => ?_) (fun h => ?_)
  · refine r_aload_n hK d_M_next_49 rfl 0 rfl ?_
    refine r_gR hK fd_M_97 w7_129 d_M_next_50 h (fun p1 h => ?_)
    refine r_iload_n hK d_M_next_53 rfl 1 rfl ?_
    refine r_dup2_11 hK d_M_next_54 rfl rfl ?_
    refine r_iaload hK ar_20 rfl d_M_next_55 h (fun i2 h => ?_)
    refine r_iconst (v := 1) hK d_M_next_56 (by decide) ?_
    refine r_iadd hK d_M_next_57 ?_
    refine r_iastore hK ar_20 rfl d_M_next_58 h (fun s3 h => ?_)
    refine r_iconst (v := 1) hK d_M_next_59 (by decide) ?_
    exact r_zreturn hK d_M_next_60 h
  · refine r_iconst (v := 0) hK d_M_next_47 (by decide) ?_
    exact r_zreturn hK d_M_next_48 h
set_option maxHeartbeats 4000000 in
set_option maxRecDepth 100000 in
theorem t_M_next_9 {K : g_C} {o : (Int32 × g_St)} (hK : g_OK K b_M_next "FixpointEngineModel" "next" (Option.some Jvm.ClassFile.FieldType.boolean)) (hN : g_nL K = 3) (hD : g_Kd K = 1) : ∀ (n : Nat) (r0 : Option Nat) (x2 : Int32) (s0 : g_St), f_M_next_9 n r0 x2 s0 = some o → g_W K s0 [(0, g_r 1 r0), (2, g_i x2)] [] 9 (g_jI o) := by
  intro n
  induction n with
  | zero =>
    intro r0 x2 s0 h
    cases h
  | succ n ih =>
    intro r0 x2 s0 h
    unfold f_M_next_9 at h
    refine r_iload_n hK d_M_next_9 rfl 1 rfl ?_
    refine r_iflt (tgt := 43) hK d_M_next_10 (by decide) h (fun h => ?_) (fun h => ?_)
    · exact r_sub [0, 1] rfl (t_M_next_43 hK hN hD _ _ _ h)
    · refine r_aload_n hK d_M_next_13 rfl 0 rfl ?_
      refine r_gR hK fd_M_97 w7_129 d_M_next_14 h (fun p1 h => ?_)
      refine r_iload_n hK d_M_next_17 rfl 1 rfl ?_
      refine r_iaload hK ar_20 rfl d_M_next_18 h (fun i2 h => ?_)
      refine r_aload_n hK d_M_next_19 rfl 0 rfl ?_
      refine r_gR hK fd_M_96 w7_128 d_M_next_20 h (fun p3 h => ?_)
      refine r_iload_n hK d_M_next_23 rfl 1 rfl ?_
      refine r_iaload hK ar_20 rfl d_M_next_24 h (fun i4 h => ?_)
      refine r_iconst (v := 1) hK d_M_next_25 (by decide) ?_
      refine r_isub hK d_M_next_26 ?_
      refine r_if_icmpne (tgt := 43) hK d_M_next_27 (by decide) h (fun h => ?_) (fun h => ?_)
      · exact r_sub [0, 1] rfl (t_M_next_43 hK hN hD _ _ _ h)
      · refine r_aload_n hK d_M_next_30 rfl 0 rfl ?_
        refine r_gR hK fd_M_97 w7_129 d_M_next_31 h (fun p5 h => ?_)
        refine r_iload_n hK d_M_next_34 rfl 1 rfl ?_
        refine r_iconst (v := 0) hK d_M_next_35 (by decide) ?_
        refine r_iastore hK ar_20 rfl d_M_next_36 h (fun s6 h => ?_)
        refine r_iinc (ls1 := [(2, g_i (x2 + (-1))), (0, g_r 1 r0)]) hK d_M_next_37 1 rfl rfl (by rw [hN]; decide) rfl ?_
        refine r_goto (tgt := 9) hK d_M_next_40 (by decide) ?_
        exact r_sub [1, 0] rfl (ih _ _ _ h)
set_option maxHeartbeats 4000000 in
set_option maxRecDepth 100000 in
theorem t_M_next_0 {K : g_C} {o : (Int32 × g_St)} (hK : g_OK K b_M_next "FixpointEngineModel" "next" (Option.some Jvm.ClassFile.FieldType.boolean)) (hN : g_nL K = 3) (hD : g_Kd K = 1) : ∀ (r0 : Option Nat) (x1 : Int32) (s0 : g_St), f_M_next r0 x1 s0 = some o → g_W K s0 [(0, g_r 1 r0), (1, g_i x1)] [] 0 (g_jI o) := by
  intro r0 x1 s0 h
  unfold f_M_next at h
  refine r_aload_n hK d_M_next_0 rfl 0 rfl ?_
  refine r_gR hK fd_M_40 w7_72 d_M_next_1 h (fun p1 h => ?_)
  refine r_iload_n hK d_M_next_4 rfl 1 rfl ?_
  refine r_iaload hK ar_20 rfl d_M_next_5 h (fun i2 h => ?_)
  refine r_iconst (v := 1) hK d_M_next_6 (by decide) ?_
  refine r_isub hK d_M_next_7 ?_
  refine r_istore_n (ls1 := [(2, g_i (i2 - 1)), (0, g_r 1 r0), (1, g_i x1)]) hK d_M_next_8 rfl (by rw [hN]; decide) rfl ?_
  exact r_sub [1, 0] rfl (t_M_next_9 hK hN hD _ _ _ _ h)
theorem c_M_next (l : Launch) (G : g_G) (r0 : Option Nat) (x1 : Int32) (u : g_St) (o : (Int32 × g_St)) (h : f_M_next r0 x1 u = some o) : g_Con l G y_M_next b_M_next 3 (Option.some Jvm.ClassFile.FieldType.boolean) 1 [g_r 1 r0, g_i x1] u (g_jI o) :=
  g_Con.of rfl rfl (by decide +kernel) (Nat.le_of_ble_eq_true rfl) (fun K hK hN hD hX => t_M_next_0 hK hN hD _ _ _ h)
def f_M_matches_2 : Nat → Option Nat → Int32 → Int32 → g_St → Option (Int32 × g_St)
  | 0, _, _, _, _ => none
  | n + 1, r0, x1, x2, s0 =>
    g_gR s0 2561 r0 fun p1 =>
    g_aI s0 p1 x1 fun i2 =>
    if i2 ≤ x2 then
      g_c (g_nn r0 (f_M_passes r0 x1 s0)) fun i3 s4 =>
      g_rZ i3 (some (i3, s4))
    else
      g_gR s0 6273 r0 fun p5 =>
      g_gR s0 6081 r0 fun p6 =>
      g_gR s0 6209 r0 fun p7 =>
      g_aI s0 p7 x2 fun i8 =>
      g_aI s0 p6 ((64 * x2) + i8) fun i9 =>
      g_sI s0 p5 x2 i9 fun s10 =>
      f_M_matches_2 n r0 x1 (x2 + 1) s10
def f_M_matches (r0 : Option Nat) (x1 : Int32) (s0 : g_St) : Option (Int32 × g_St) :=
  f_M_matches_2 200000 r0 x1 0 s0
set_option maxHeartbeats 4000000 in
set_option maxRecDepth 100000 in
theorem t_M_matches_2 {K : g_C} {o : (Int32 × g_St)} (hK : g_OK K b_M_matches "FixpointEngineModel" "matches" (Option.some Jvm.ClassFile.FieldType.boolean)) (hN : g_nL K = 3) (hD : g_Kd K = 6) : ∀ (n : Nat) (r0 : Option Nat) (x1 : Int32) (x2 : Int32) (s0 : g_St), f_M_matches_2 n r0 x1 x2 s0 = some o → g_W K s0 [(0, g_r 1 r0), (1, g_i x1), (2, g_i x2)] [] 2 (g_jI o) := by
  intro n
  induction n with
  | zero =>
    intro r0 x1 x2 s0 h
    cases h
  | succ n ih =>
    intro r0 x1 x2 s0 h
    unfold f_M_matches_2 at h
    refine r_iload_n hK d_M_matches_2 rfl 2 rfl ?_
    refine r_aload_n hK d_M_matches_3 rfl 0 rfl ?_
    refine r_gR hK fd_M_40 w7_72 d_M_matches_4 h (fun p1 h => ?_)
    refine r_iload_n hK d_M_matches_7 rfl 1 rfl ?_
    refine r_iaload hK ar_20 rfl d_M_matches_8 h (fun i2 h => ?_)
    refine r_if_icmpge (tgt := 40) hK d_M_matches_9 (by decide) h (fun h => ?_) (fun h => ?_)
    · refine r_aload_n hK d_M_matches_40 rfl 0 rfl ?_
      refine r_iload_n hK d_M_matches_41 rfl 1 rfl ?_
      refine r_Vi (avL := [g_i x1]) (st := []) hK ob_M rfl w9_123 wp_57 w9_121 w9_124 w1_6 (by decide) pl_M_passes (by rw [hD]; decide) (Nat.le_of_ble_eq_true rfl) rfl d_M_matches_42 (fun o9 h9 => c_M_passes _ _ _ _ _ o9 h9) h (fun i3 s4 h => ?_)
      exact r_zreturn hK d_M_matches_45 h
    · refine r_aload_n hK d_M_matches_12 rfl 0 rfl ?_
      refine r_gR hK fd_M_98 w7_130 d_M_matches_13 h (fun p5 h => ?_)
      refine r_iload_n hK d_M_matches_16 rfl 2 rfl ?_
      refine r_aload_n hK d_M_matches_17 rfl 0 rfl ?_
      refine r_gR hK fd_M_95 w7_127 d_M_matches_18 h (fun p6 h => ?_)
      refine r_bipush (v := 64) hK d_M_matches_21 (by decide) ?_
      refine r_iload_n hK d_M_matches_23 rfl 2 rfl ?_
      refine r_imul hK d_M_matches_24 ?_
      refine r_aload_n hK d_M_matches_25 rfl 0 rfl ?_
      refine r_gR hK fd_M_97 w7_129 d_M_matches_26 h (fun p7 h => ?_)
      refine r_iload_n hK d_M_matches_29 rfl 2 rfl ?_
      refine r_iaload hK ar_20 rfl d_M_matches_30 h (fun i8 h => ?_)
      refine r_iadd hK d_M_matches_31 ?_
      refine r_iaload hK ar_20 rfl d_M_matches_32 h (fun i9 h => ?_)
      refine r_iastore hK ar_20 rfl d_M_matches_33 h (fun s10 h => ?_)
      refine r_iinc (ls1 := [(2, g_i (x2 + 1)), (0, g_r 1 r0), (1, g_i x1)]) hK d_M_matches_34 2 rfl rfl (by rw [hN]; decide) rfl ?_
      refine r_goto (tgt := 2) hK d_M_matches_37 (by decide) ?_
      exact r_sub [1, 2, 0] rfl (ih _ _ _ _ h)
set_option maxHeartbeats 4000000 in
set_option maxRecDepth 100000 in
theorem t_M_matches_0 {K : g_C} {o : (Int32 × g_St)} (hK : g_OK K b_M_matches "FixpointEngineModel" "matches" (Option.some Jvm.ClassFile.FieldType.boolean)) (hN : g_nL K = 3) (hD : g_Kd K = 6) : ∀ (r0 : Option Nat) (x1 : Int32) (s0 : g_St), f_M_matches r0 x1 s0 = some o → g_W K s0 [(0, g_r 1 r0), (1, g_i x1)] [] 0 (g_jI o) := by
  intro r0 x1 s0 h
  unfold f_M_matches at h
  refine r_iconst (v := 0) hK d_M_matches_0 (by decide) ?_
  refine r_istore_n (ls1 := [(2, g_i 0), (0, g_r 1 r0), (1, g_i x1)]) hK d_M_matches_1 rfl (by rw [hN]; decide) rfl ?_
  exact r_sub [1, 2, 0] rfl (t_M_matches_2 hK hN hD _ _ _ _ _ h)
theorem c_M_matches (l : Launch) (G : g_G) (r0 : Option Nat) (x1 : Int32) (u : g_St) (o : (Int32 × g_St)) (h : f_M_matches r0 x1 u = some o) : g_Con l G y_M_matches b_M_matches 3 (Option.some Jvm.ClassFile.FieldType.boolean) 6 [g_r 1 r0, g_i x1] u (g_jI o) :=
  g_Con.of rfl rfl (by decide +kernel) (Nat.le_of_ble_eq_true rfl) (fun K hK hN hD hX => t_M_matches_0 hK hN hD _ _ _ h)
def f_M_isInt (y0 : Int64) (s0 : g_St) : Option (Int32 × g_St) :=
  if y0 < (-2147483648) then
    g_rZ 0 (some (0, s0))
  else
    if 2147483647 < y0 then
      g_rZ 0 (some (0, s0))
    else
      g_rZ 1 (some (1, s0))
set_option maxHeartbeats 4000000 in
set_option maxRecDepth 100000 in
theorem t_M_isInt_0 {K : g_C} {o : (Int32 × g_St)} (hK : g_OK K b_M_isInt "FixpointEngineModel" "isInt" (Option.some Jvm.ClassFile.FieldType.boolean)) (hN : g_nL K = 2) (hD : g_Kd K = 1) : ∀ (y0 : Int64) (s0 : g_St), f_M_isInt y0 s0 = some o → g_W K s0 [(0, g_l y0)] [] 0 (g_jI o) := by
  intro y0 s0 h
  unfold f_M_isInt at h
  refine r_lload_n hK d_M_isInt_0 rfl 0 rfl ?_
  refine r_ldc2 hK w9_155 d_M_isInt_1 ?_
  refine r_liflt (tgt := 20) hK d_M_isInt_4 d_M_isInt_5 (by decide) h (fun h => ?_) (fun h => ?_)
  · refine r_iconst (v := 0) hK d_M_isInt_20 (by decide) ?_
    exact r_zreturn hK d_M_isInt_21 h
  · refine r_lload_n hK d_M_isInt_8 rfl 0 rfl ?_
    refine r_ldc2 hK w9_156 d_M_isInt_9 ?_
    refine r_lifgt (tgt := 20) hK d_M_isInt_12 d_M_isInt_13 (by decide) h (fun h => ?_) (fun h => ?_)
    · refine r_iconst (v := 0) hK d_M_isInt_20 (by decide) ?_
      exact r_zreturn hK d_M_isInt_21 h
    · refine r_iconst (v := 1) hK d_M_isInt_16 (by decide) ?_
      refine r_goto (tgt := 21) hK d_M_isInt_17 (by decide) ?_
      exact r_zreturn hK d_M_isInt_21 h
theorem c_M_isInt (l : Launch) (G : g_G) (y0 : Int64) (u : g_St) (o : (Int32 × g_St)) (h : f_M_isInt y0 u = some o) : g_Con l G y_M_isInt b_M_isInt 2 (Option.some Jvm.ClassFile.FieldType.boolean) 1 [g_l y0] u (g_jI o) :=
  g_Con.of rfl rfl (by decide +kernel) (Nat.le_of_ble_eq_true rfl) (fun K hK hN hD hX => t_M_isInt_0 hK hN hD _ _ h)
