def f_M_scanNumber_4 : Nat → Option Nat → Int32 → Int32 → Int64 → g_St → Option (Int32 × g_St)
  | 0, _, _, _, _, _ => none
  | n + 1, r0, x1, x2, y3, s0 =>
    g_c (g_nn r0 (f_M_letter r0 x2 s0)) fun i1 s2 =>
    g_c (f_M_isDigit i1 s2) fun i3 s4 =>
    if i3 = 0 then
      g_gR s4 641 r0 fun p5 =>
      g_gI s4 513 r0 fun i6 =>
      if (x2 - x1) ≤ 4 then
        g_sI s4 p5 i6 31 fun s7 =>
        g_gR s7 769 r0 fun p8 =>
        g_gI s7 513 r0 fun i9 =>
        g_sL s7 p8 i9 y3 fun s10 =>
        some (x2, s10)
      else
        g_sI s4 p5 i6 0 fun s11 =>
        g_gR s11 769 r0 fun p12 =>
        g_gI s11 513 r0 fun i13 =>
        g_sL s11 p12 i13 y3 fun s14 =>
        some (x2, s14)
    else
      if 4 ≤ (x2 - x1) then
        f_M_scanNumber_4 n r0 x1 (x2 + 1) y3 s4
      else
        g_c (g_nn r0 (f_M_letter r0 x2 s4)) fun i15 s16 =>
        f_M_scanNumber_4 n r0 x1 (x2 + 1) (((10 * y3) + i15.toInt64) - 48) s16
def f_M_scanNumber (r0 : Option Nat) (x1 : Int32) (s0 : g_St) : Option (Int32 × g_St) :=
  f_M_scanNumber_4 200000 r0 x1 x1 0 s0
set_option maxHeartbeats 4000000 in
set_option maxRecDepth 100000 in
theorem t_M_scanNumber_4 {K : g_C} {o : (Int32 × g_St)} (hK : g_OK K b_M_scanNumber "FixpointEngineModel" "scanNumber" (Option.some Jvm.ClassFile.FieldType.int)) (hN : g_nL K = 5) (hD : g_Kd K = 2) : ∀ (n : Nat) (r0 : Option Nat) (x1 : Int32) (x2 : Int32) (y3 : Int64) (s0 : g_St), f_M_scanNumber_4 n r0 x1 x2 y3 s0 = some o → g_W K s0 [(0, g_r 1 r0), (1, g_i x1), (2, g_i x2), (3, g_l y3)] [] 4 (g_jI o) := by
  intro n
  induction n with
  | zero =>
    intro r0 x1 x2 y3 s0 h
    cases h
  | succ n ih =>
    intro r0 x1 x2 y3 s0 h
    unfold f_M_scanNumber_4 at h
    refine r_aload_n hK d_M_scanNumber_4 rfl 0 rfl ?_
    refine r_iload_n hK d_M_scanNumber_5 rfl 2 rfl ?_
    refine r_Vi (avL := [g_i x2]) (st := []) hK ob_M rfl w8_141 wp_7 w8_139 w8_142 w1_6 (by decide) pl_M_letter (by rw [hD]; decide) (Nat.le_of_ble_eq_true rfl) rfl d_M_scanNumber_6 (fun o9 h9 => c_M_letter _ _ _ _ _ o9 h9) h (fun i1 s2 h => ?_)
    refine r_Si (avL := [g_i i1]) (st := []) hK w8_151 w8_150 w8_152 w1_6 (by decide) pl_M_isDigit (by rw [hD]; decide) (Nat.le_of_ble_eq_true rfl) rfl d_M_scanNumber_9 (fun o9 h9 => c_M_isDigit _ _ _ _ o9 h9) h (fun i3 s4 h => ?_)
    refine r_ifeq (tgt := 45) hK d_M_scanNumber_12 (by decide) h (fun h => ?_) (fun h => ?_)
    · refine r_aload_n hK d_M_scanNumber_45 rfl 0 rfl ?_
      refine r_gR hK fd_M_10 w7_42 d_M_scanNumber_46 h (fun p5 h => ?_)
      refine r_aload_n hK d_M_scanNumber_49 rfl 0 rfl ?_
      refine r_gI hK fd_M_8 w7_40 d_M_scanNumber_50 h (fun i6 h => ?_)
      refine r_iload_n hK d_M_scanNumber_53 rfl 2 rfl ?_
      refine r_iload_n hK d_M_scanNumber_54 rfl 1 rfl ?_
      refine r_isub hK d_M_scanNumber_55 ?_
      refine r_iconst (v := 4) hK d_M_scanNumber_56 (by decide) ?_
      refine r_if_icmple (tgt := 64) hK d_M_scanNumber_57 (by decide) h (fun h => ?_) (fun h => ?_)
      · refine r_bipush (v := 31) hK d_M_scanNumber_64 (by decide) ?_
        refine r_iastore hK ar_20 rfl d_M_scanNumber_66 h (fun s7 h => ?_)
        refine r_aload_n hK d_M_scanNumber_67 rfl 0 rfl ?_
        refine r_gR hK fd_M_12 w7_44 d_M_scanNumber_68 h (fun p8 h => ?_)
        refine r_aload_n hK d_M_scanNumber_71 rfl 0 rfl ?_
        refine r_gI hK fd_M_8 w7_40 d_M_scanNumber_72 h (fun i9 h => ?_)
        refine r_lload_n hK d_M_scanNumber_75 rfl 3 rfl ?_
        refine r_lastore hK ar_21 rfl d_M_scanNumber_76 h (fun s10 h => ?_)
        refine r_iload_n hK d_M_scanNumber_77 rfl 2 rfl ?_
        exact r_ireturn hK d_M_scanNumber_78 h
      · refine r_iconst (v := 0) hK d_M_scanNumber_60 (by decide) ?_
        refine r_goto (tgt := 66) hK d_M_scanNumber_61 (by decide) ?_
        refine r_iastore hK ar_20 rfl d_M_scanNumber_66 h (fun s11 h => ?_)
        refine r_aload_n hK d_M_scanNumber_67 rfl 0 rfl ?_
        refine r_gR hK fd_M_12 w7_44 d_M_scanNumber_68 h (fun p12 h => ?_)
        refine r_aload_n hK d_M_scanNumber_71 rfl 0 rfl ?_
        refine r_gI hK fd_M_8 w7_40 d_M_scanNumber_72 h (fun i13 h => ?_)
        refine r_lload_n hK d_M_scanNumber_75 rfl 3 rfl ?_
        refine r_lastore hK ar_21 rfl d_M_scanNumber_76 h (fun s14 h => ?_)
        refine r_iload_n hK d_M_scanNumber_77 rfl 2 rfl ?_
        exact r_ireturn hK d_M_scanNumber_78 h
    · refine r_iload_n hK d_M_scanNumber_15 rfl 2 rfl ?_
      refine r_iload_n hK d_M_scanNumber_16 rfl 1 rfl ?_
      refine r_isub hK d_M_scanNumber_17 ?_
      refine r_iconst (v := 4) hK d_M_scanNumber_18 (by decide) ?_
      refine r_if_icmpge (tgt := 39) hK d_M_scanNumber_19 (by decide) h (fun h => ?_) (fun h => ?_)
      · refine r_iinc (ls1 := [(2, g_i (x2 + 1)), (0, g_r 1 r0), (1, g_i x1), (3, g_l y3)]) hK d_M_scanNumber_39 2 rfl rfl (by rw [hN]; decide) rfl ?_
        refine r_goto (tgt := 4) hK d_M_scanNumber_42 (by decide) ?_
        exact r_sub [1, 2, 0, 3] rfl (ih _ _ _ _ _ h)
      · refine r_ldc2 hK w8_158 d_M_scanNumber_22 ?_
        refine r_lload_n hK d_M_scanNumber_25 rfl 3 rfl ?_
        refine r_lmul hK d_M_scanNumber_26 ?_
        refine r_aload_n hK d_M_scanNumber_27 rfl 0 rfl ?_
        refine r_iload_n hK d_M_scanNumber_28 rfl 2 rfl ?_
        refine r_Vi (avL := [g_i x2]) (st := [g_l (10 * y3)]) hK ob_M rfl w8_141 wp_7 w8_139 w8_142 w1_6 (by decide) pl_M_letter (by rw [hD]; decide) (Nat.le_of_ble_eq_true rfl) rfl d_M_scanNumber_29 (fun o9 h9 => c_M_letter _ _ _ _ _ o9 h9) h (fun i15 s16 h => ?_)
        refine r_i2l hK d_M_scanNumber_32 ?_
        refine r_ladd hK d_M_scanNumber_33 ?_
        refine r_ldc2 hK w8_159 d_M_scanNumber_34 ?_
        refine r_lsub hK d_M_scanNumber_37 ?_
        refine r_lstore_n (ls1 := [(3, g_l (((10 * y3) + i15.toInt64) - 48)), (0, g_r 1 r0), (1, g_i x1), (2, g_i x2)]) hK d_M_scanNumber_38 rfl (by rw [hN]; decide) rfl ?_
        refine r_iinc (ls1 := [(2, g_i (x2 + 1)), (3, g_l (((10 * y3) + i15.toInt64) - 48)), (0, g_r 1 r0), (1, g_i x1)]) hK d_M_scanNumber_39 3 rfl rfl (by rw [hN]; decide) rfl ?_
        refine r_goto (tgt := 4) hK d_M_scanNumber_42 (by decide) ?_
        exact r_sub [2, 3, 0, 1] rfl (ih _ _ _ _ _ h)
set_option maxHeartbeats 4000000 in
set_option maxRecDepth 100000 in
theorem t_M_scanNumber_0 {K : g_C} {o : (Int32 × g_St)} (hK : g_OK K b_M_scanNumber "FixpointEngineModel" "scanNumber" (Option.some Jvm.ClassFile.FieldType.int)) (hN : g_nL K = 5) (hD : g_Kd K = 2) : ∀ (r0 : Option Nat) (x1 : Int32) (s0 : g_St), f_M_scanNumber r0 x1 s0 = some o → g_W K s0 [(0, g_r 1 r0), (1, g_i x1)] [] 0 (g_jI o) := by
  intro r0 x1 s0 h
  unfold f_M_scanNumber at h
  refine r_iload_n hK d_M_scanNumber_0 rfl 1 rfl ?_
  refine r_istore_n (ls1 := [(2, g_i x1), (0, g_r 1 r0), (1, g_i x1)]) hK d_M_scanNumber_1 rfl (by rw [hN]; decide) rfl ?_
  refine r_lconst (v := 0) hK d_M_scanNumber_2 (by decide) ?_
  refine r_lstore_n (ls1 := [(3, g_l 0), (2, g_i x1), (0, g_r 1 r0), (1, g_i x1)]) hK d_M_scanNumber_3 rfl (by rw [hN]; decide) rfl ?_
  exact r_sub [2, 3, 1, 0] rfl (t_M_scanNumber_4 hK hN hD _ _ _ _ _ _ h)
theorem c_M_scanNumber (l : Launch) (G : g_G) (r0 : Option Nat) (x1 : Int32) (u : g_St) (o : (Int32 × g_St)) (h : f_M_scanNumber r0 x1 u = some o) : g_Con l G y_M_scanNumber b_M_scanNumber 5 (Option.some Jvm.ClassFile.FieldType.int) 2 [g_r 1 r0, g_i x1] u (g_jI o) :=
  g_Con.of rfl rfl (by decide +kernel) (Nat.le_of_ble_eq_true rfl) (fun K hK hN hD hX => t_M_scanNumber_0 hK hN hD _ _ _ h)
def f_M_scanSign_105 (r0 : Option Nat) (x1 : Int32) (x2 : Int32) (x0s : Int32) (s0 : g_St) : Option (Int32 × g_St) :=
  g_gR s0 641 r0 fun p1 =>
  g_gI s0 513 r0 fun i2 =>
  if x0s = 0 then
    g_sI s0 p1 i2 0 fun s3 =>
    some (x1 + 1, s3)
  else
    g_sI s0 p1 i2 (100 + x2) fun s4 =>
    some (x1 + 1, s4)
def f_M_scanSign_40 (r0 : Option Nat) (x1 : Int32) (x2 : Int32) (s0 : g_St) : Option (Int32 × g_St) :=
  if x2 = 44 then
    f_M_scanSign_105 r0 x1 x2 1 s0
  else
    if x2 = 40 then
      f_M_scanSign_105 r0 x1 x2 1 s0
    else
      if x2 = 41 then
        f_M_scanSign_105 r0 x1 x2 1 s0
      else
        if x2 = 46 then
          f_M_scanSign_105 r0 x1 x2 1 s0
        else
          if x2 = 43 then
            f_M_scanSign_105 r0 x1 x2 1 s0
          else
            if x2 = 45 then
              f_M_scanSign_105 r0 x1 x2 1 s0
            else
              if x2 = 61 then
                f_M_scanSign_105 r0 x1 x2 1 s0
              else
                if x2 = 60 then
                  f_M_scanSign_105 r0 x1 x2 1 s0
                else
                  if x2 = 62 then
                    f_M_scanSign_105 r0 x1 x2 1 s0
                  else
                    if x2 = 42 then
                      f_M_scanSign_105 r0 x1 x2 1 s0
                    else
                      f_M_scanSign_105 r0 x1 x2 0 s0
def f_M_scanSign (r0 : Option Nat) (x1 : Int32) (s0 : g_St) : Option (Int32 × g_St) :=
  g_gR s0 385 r0 fun p1 =>
  g_aI s0 p1 x1 fun i2 =>
  if i2 = 60 then
    g_c (g_nn r0 (f_M_letter r0 (x1 + 1) s0)) fun i3 s4 =>
    if i3 = 62 then
      g_gR s4 641 r0 fun p5 =>
      g_gI s4 513 r0 fun i6 =>
      g_sI s4 p5 i6 32 fun s7 =>
      some (x1 + 2, s7)
    else
      f_M_scanSign_40 r0 x1 i2 s4
  else
    f_M_scanSign_40 r0 x1 i2 s0
set_option maxHeartbeats 4000000 in
set_option maxRecDepth 100000 in
theorem t_M_scanSign_105 {K : g_C} {o : (Int32 × g_St)} (hK : g_OK K b_M_scanSign "FixpointEngineModel" "scanSign" (Option.some Jvm.ClassFile.FieldType.int)) (hN : g_nL K = 4) (hD : g_Kd K = 2) : ∀ (r0 : Option Nat) (x1 : Int32) (x2 : Int32) (x0s : Int32) (s0 : g_St), f_M_scanSign_105 r0 x1 x2 x0s s0 = some o → g_W K s0 [(0, g_r 1 r0), (1, g_i x1), (2, g_i x2)] [g_i x0s] 105 (g_jI o) := by
  intro r0 x1 x2 x0s s0 h
  unfold f_M_scanSign_105 at h
  refine r_istore_n (ls1 := [(3, g_i x0s), (0, g_r 1 r0), (1, g_i x1), (2, g_i x2)]) hK d_M_scanSign_105 rfl (by rw [hN]; decide) rfl ?_
  refine r_aload_n hK d_M_scanSign_106 rfl 1 rfl ?_
  refine r_gR hK fd_M_10 w7_42 d_M_scanSign_107 h (fun p1 h => ?_)
  refine r_aload_n hK d_M_scanSign_110 rfl 1 rfl ?_
  refine r_gI hK fd_M_8 w7_40 d_M_scanSign_111 h (fun i2 h => ?_)
  refine r_iload_n hK d_M_scanSign_114 rfl 0 rfl ?_
  refine r_ifeq (tgt := 125) hK d_M_scanSign_115 (by decide) h (fun h => ?_) (fun h => ?_)
  · refine r_iconst (v := 0) hK d_M_scanSign_125 (by decide) ?_
    refine r_iastore hK ar_20 rfl d_M_scanSign_126 h (fun s3 h => ?_)
    refine r_iload_n hK d_M_scanSign_127 rfl 2 rfl ?_
    refine r_iconst (v := 1) hK d_M_scanSign_128 (by decide) ?_
    refine r_iadd hK d_M_scanSign_129 ?_
    exact r_ireturn hK d_M_scanSign_130 h
  · refine r_bipush (v := 100) hK d_M_scanSign_118 (by decide) ?_
    refine r_iload_n hK d_M_scanSign_120 rfl 3 rfl ?_
    refine r_iadd hK d_M_scanSign_121 ?_
    refine r_goto (tgt := 126) hK d_M_scanSign_122 (by decide) ?_
    refine r_iastore hK ar_20 rfl d_M_scanSign_126 h (fun s4 h => ?_)
    refine r_iload_n hK d_M_scanSign_127 rfl 2 rfl ?_
    refine r_iconst (v := 1) hK d_M_scanSign_128 (by decide) ?_
    refine r_iadd hK d_M_scanSign_129 ?_
    exact r_ireturn hK d_M_scanSign_130 h
set_option maxHeartbeats 4000000 in
set_option maxRecDepth 100000 in
theorem t_M_scanSign_40 {K : g_C} {o : (Int32 × g_St)} (hK : g_OK K b_M_scanSign "FixpointEngineModel" "scanSign" (Option.some Jvm.ClassFile.FieldType.int)) (hN : g_nL K = 4) (hD : g_Kd K = 2) : ∀ (r0 : Option Nat) (x1 : Int32) (x2 : Int32) (s0 : g_St), f_M_scanSign_40 r0 x1 x2 s0 = some o → g_W K s0 [(0, g_r 1 r0), (1, g_i x1), (2, g_i x2)] [] 40 (g_jI o) := by
  intro r0 x1 x2 s0 h
  unfold f_M_scanSign_40 at h
  refine r_iload_n hK d_M_scanSign_40 rfl 2 rfl ?_
  refine r_bipush (v := 44) hK d_M_scanSign_41 (by decide) ?_
  refine r_if_icmpeq (tgt := 100) hK d_M_scanSign_43 (by decide) h (fun h => ?_) (fun h => ?_)
  · refine r_iconst (v := 1) hK d_M_scanSign_100 (by decide) ?_
    refine r_goto (tgt := 105) hK d_M_scanSign_101 (by decide) ?_
    exact r_sub [0, 1, 2] rfl (t_M_scanSign_105 hK hN hD _ _ _ _ _ h)
  · refine r_iload_n hK d_M_scanSign_46 rfl 2 rfl ?_
    refine r_bipush (v := 40) hK d_M_scanSign_47 (by decide) ?_
    refine r_if_icmpeq (tgt := 100) hK d_M_scanSign_49 (by decide) h (fun h => ?_) (fun h => ?_)
    · refine r_iconst (v := 1) hK d_M_scanSign_100 (by decide) ?_
      refine r_goto (tgt := 105) hK d_M_scanSign_101 (by decide) ?_
      exact r_sub [0, 1, 2] rfl (t_M_scanSign_105 hK hN hD _ _ _ _ _ h)
    · refine r_iload_n hK d_M_scanSign_52 rfl 2 rfl ?_
      refine r_bipush (v := 41) hK d_M_scanSign_53 (by decide) ?_
      refine r_if_icmpeq (tgt := 100) hK d_M_scanSign_55 (by decide) h (fun h => ?_) (fun h => ?_)
      · refine r_iconst (v := 1) hK d_M_scanSign_100 (by decide) ?_
        refine r_goto (tgt := 105) hK d_M_scanSign_101 (by decide) ?_
        exact r_sub [0, 1, 2] rfl (t_M_scanSign_105 hK hN hD _ _ _ _ _ h)
      · refine r_iload_n hK d_M_scanSign_58 rfl 2 rfl ?_
        refine r_bipush (v := 46) hK d_M_scanSign_59 (by decide) ?_
        refine r_if_icmpeq (tgt := 100) hK d_M_scanSign_61 (by decide) h (fun h => ?_) (fun h => ?_)
        · refine r_iconst (v := 1) hK d_M_scanSign_100 (by decide) ?_
          refine r_goto (tgt := 105) hK d_M_scanSign_101 (by decide) ?_
          exact r_sub [0, 1, 2] rfl (t_M_scanSign_105 hK hN hD _ _ _ _ _ h)
        · refine r_iload_n hK d_M_scanSign_64 rfl 2 rfl ?_
          refine r_bipush (v := 43) hK d_M_scanSign_65 (by decide) ?_
          refine r_if_icmpeq (tgt := 100) hK d_M_scanSign_67 (by decide) h (fun h => ?_) (fun h => ?_)
          · refine r_iconst (v := 1) hK d_M_scanSign_100 (by decide) ?_
            refine r_goto (tgt := 105) hK d_M_scanSign_101 (by decide) ?_
            exact r_sub [0, 1, 2] rfl (t_M_scanSign_105 hK hN hD _ _ _ _ _ h)
          · refine r_iload_n hK d_M_scanSign_70 rfl 2 rfl ?_
            refine r_bipush (v := 45) hK d_M_scanSign_71 (by decide) ?_
            refine r_if_icmpeq (tgt := 100) hK d_M_scanSign_73 (by decide) h (fun h => ?_) (fun h => ?_)
            · refine r_iconst (v := 1) hK d_M_scanSign_100 (by decide) ?_
              refine r_goto (tgt := 105) hK d_M_scanSign_101 (by decide) ?_
              exact r_sub [0, 1, 2] rfl (t_M_scanSign_105 hK hN hD _ _ _ _ _ h)
            · refine r_iload_n hK d_M_scanSign_76 rfl 2 rfl ?_
              refine r_bipush (v := 61) hK d_M_scanSign_77 (by decide) ?_
              refine r_if_icmpeq (tgt := 100) hK d_M_scanSign_79 (by decide) h (fun h => ?_) (fun h => ?_)
              · refine r_iconst (v := 1) hK d_M_scanSign_100 (by decide) ?_
                refine r_goto (tgt := 105) hK d_M_scanSign_101 (by decide) ?_
                exact r_sub [0, 1, 2] rfl (t_M_scanSign_105 hK hN hD _ _ _ _ _ h)
              · refine r_iload_n hK d_M_scanSign_82 rfl 2 rfl ?_
                refine r_bipush (v := 60) hK d_M_scanSign_83 (by decide) ?_
                refine r_if_icmpeq (tgt := 100) hK d_M_scanSign_85 (by decide) h (fun h => ?_) (fun h => ?_)
                · refine r_iconst (v := 1) hK d_M_scanSign_100 (by decide) ?_
                  refine r_goto (tgt := 105) hK d_M_scanSign_101 (by decide) ?_
                  exact r_sub [0, 1, 2] rfl (t_M_scanSign_105 hK hN hD _ _ _ _ _ h)
                · refine r_iload_n hK d_M_scanSign_88 rfl 2 rfl ?_
                  refine r_bipush (v := 62) hK d_M_scanSign_89 (by decide) ?_
                  refine r_if_icmpeq (tgt := 100) hK d_M_scanSign_91 (by decide) h (fun h => ?_) (fun h => ?_)
                  · refine r_iconst (v := 1) hK d_M_scanSign_100 (by decide) ?_
                    refine r_goto (tgt := 105) hK d_M_scanSign_101 (by decide) ?_
                    exact r_sub [0, 1, 2] rfl (t_M_scanSign_105 hK hN hD _ _ _ _ _ h)
                  · refine r_iload_n hK d_M_scanSign_94 rfl 2 rfl ?_
                    refine r_bipush (v := 42) hK d_M_scanSign_95 (by decide) ?_
                    refine r_if_icmpne (tgt := 104) hK d_M_scanSign_97 (by decide) h (fun h => ?_) (fun h => ?_)
                    · refine r_iconst (v := 0) hK d_M_scanSign_104 (by decide) ?_
                      exact r_sub [0, 1, 2] rfl (t_M_scanSign_105 hK hN hD _ _ _ _ _ h)
                    · refine r_iconst (v := 1) hK d_M_scanSign_100 (by decide) ?_
                      refine r_goto (tgt := 105) hK d_M_scanSign_101 (by decide) ?_
                      exact r_sub [0, 1, 2] rfl (t_M_scanSign_105 hK hN hD _ _ _ _ _ h)
set_option maxHeartbeats 4000000 in
set_option maxRecDepth 100000 in
theorem t_M_scanSign_0 {K : g_C} {o : (Int32 × g_St)} (hK : g_OK K b_M_scanSign "FixpointEngineModel" "scanSign" (Option.some Jvm.ClassFile.FieldType.int)) (hN : g_nL K = 4) (hD : g_Kd K = 2) : ∀ (r0 : Option Nat) (x1 : Int32) (s0 : g_St), f_M_scanSign r0 x1 s0 = some o → g_W K s0 [(0, g_r 1 r0), (1, g_i x1)] [] 0 (g_jI o) := by
  intro r0 x1 s0 h
  unfold f_M_scanSign at h
  refine r_aload_n hK d_M_scanSign_0 rfl 0 rfl ?_
  refine r_gR hK fd_M_6 w7_38 d_M_scanSign_1 h (fun p1 h => ?_)
  refine r_iload_n hK d_M_scanSign_4 rfl 1 rfl ?_
  refine r_iaload hK ar_20 rfl d_M_scanSign_5 h (fun i2 h => ?_)
  refine r_istore_n (ls1 := [(2, g_i i2), (0, g_r 1 r0), (1, g_i x1)]) hK d_M_scanSign_6 rfl (by rw [hN]; decide) rfl ?_
  refine r_iload_n hK d_M_scanSign_7 rfl 0 rfl ?_
  refine r_bipush (v := 60) hK d_M_scanSign_8 (by decide) ?_
  refine r_if_icmpne (tgt := 40) hK d_M_scanSign_10 (by decide) h (fun h => ?_) (fun h => ?_)
  · exact r_sub [1, 2, 0] rfl (t_M_scanSign_40 hK hN hD _ _ _ _ h)
  · refine r_aload_n hK d_M_scanSign_13 rfl 1 rfl ?_
    refine r_iload_n hK d_M_scanSign_14 rfl 2 rfl ?_
    refine r_iconst (v := 1) hK d_M_scanSign_15 (by decide) ?_
    refine r_iadd hK d_M_scanSign_16 ?_
    refine r_Vi (avL := [g_i (x1 + 1)]) (st := []) hK ob_M rfl w8_141 wp_7 w8_139 w8_142 w1_6 (by decide) pl_M_letter (by rw [hD]; decide) (Nat.le_of_ble_eq_true rfl) rfl d_M_scanSign_17 (fun o9 h9 => c_M_letter _ _ _ _ _ o9 h9) h (fun i3 s4 h => ?_)
    refine r_bipush (v := 62) hK d_M_scanSign_20 (by decide) ?_
    refine r_if_icmpne (tgt := 40) hK d_M_scanSign_22 (by decide) h (fun h => ?_) (fun h => ?_)
    · exact r_sub [1, 2, 0] rfl (t_M_scanSign_40 hK hN hD _ _ _ _ h)
    · refine r_aload_n hK d_M_scanSign_25 rfl 1 rfl ?_
      refine r_gR hK fd_M_10 w7_42 d_M_scanSign_26 h (fun p5 h => ?_)
      refine r_aload_n hK d_M_scanSign_29 rfl 1 rfl ?_
      refine r_gI hK fd_M_8 w7_40 d_M_scanSign_30 h (fun i6 h => ?_)
      refine r_bipush (v := 32) hK d_M_scanSign_33 (by decide) ?_
      refine r_iastore hK ar_20 rfl d_M_scanSign_35 h (fun s7 h => ?_)
      refine r_iload_n hK d_M_scanSign_36 rfl 2 rfl ?_
      refine r_iconst (v := 2) hK d_M_scanSign_37 (by decide) ?_
      refine r_iadd hK d_M_scanSign_38 ?_
      exact r_ireturn hK d_M_scanSign_39 h
theorem c_M_scanSign (l : Launch) (G : g_G) (r0 : Option Nat) (x1 : Int32) (u : g_St) (o : (Int32 × g_St)) (h : f_M_scanSign r0 x1 u = some o) : g_Con l G y_M_scanSign b_M_scanSign 4 (Option.some Jvm.ClassFile.FieldType.int) 2 [g_r 1 r0, g_i x1] u (g_jI o) :=
  g_Con.of rfl rfl (by decide +kernel) (Nat.le_of_ble_eq_true rfl) (fun K hK hN hD hX => t_M_scanSign_0 hK hN hD _ _ _ h)
def f_M_scan_7 : Nat → Option Nat → Int32 → g_St → Option (Unit × g_St)
  | 0, _, _, _ => none
  | n + 1, r0, x1, s0 =>
    g_gI s0 321 r0 fun i1 =>
    if i1 ≤ x1 then
      g_gR s0 641 r0 fun p2 =>
      g_gI s0 513 r0 fun i3 =>
      g_sI s0 p2 i3 99 fun s4 =>
      g_gR s4 705 r0 fun p5 =>
      g_gI s4 513 r0 fun i6 =>
      g_gI s4 321 r0 fun i7 =>
      g_sI s4 p5 i6 i7 fun s8 =>
      some ((), s8)
    else
      g_gR s0 385 r0 fun p9 =>
      g_aI s0 p9 x1 fun i10 =>
      if i10 = 32 then
        f_M_scan_7 n r0 (x1 + 1) s0
      else
        g_gR s0 705 r0 fun p11 =>
        g_gI s0 513 r0 fun i12 =>
        g_sI s0 p11 i12 x1 fun s13 =>
        g_gR s13 769 r0 fun p14 =>
        g_gI s13 513 r0 fun i15 =>
        g_sL s13 p14 i15 0 fun s16 =>
        g_c (f_M_isCapital i10 s16) fun i17 s18 =>
        if i17 = 0 then
          g_c (f_M_isSmall i10 s18) fun i19 s20 =>
          if i19 = 0 then
            g_c (f_M_isDigit i10 s20) fun i21 s22 =>
            if i21 = 0 then
              g_c (g_nn r0 (f_M_scanSign r0 x1 s22)) fun i23 s24 =>
              g_gI s24 513 r0 fun i25 =>
              g_pI s24 513 r0 (i25 + 1) fun s26 =>
              f_M_scan_7 n r0 i23 s26
            else
              g_c (g_nn r0 (f_M_scanNumber r0 x1 s22)) fun i27 s28 =>
              g_gI s28 513 r0 fun i29 =>
              g_pI s28 513 r0 (i29 + 1) fun s30 =>
              f_M_scan_7 n r0 i27 s30
          else
            g_c (g_nn r0 (f_M_scanName r0 x1 s20)) fun i31 s32 =>
            g_gI s32 513 r0 fun i33 =>
            g_pI s32 513 r0 (i33 + 1) fun s34 =>
            f_M_scan_7 n r0 i31 s34
        else
          g_c (g_nn r0 (f_M_scanKeyword r0 x1 s18)) fun i35 s36 =>
          g_gI s36 513 r0 fun i37 =>
          g_pI s36 513 r0 (i37 + 1) fun s38 =>
          f_M_scan_7 n r0 i35 s38
def f_M_scan (r0 : Option Nat) (s0 : g_St) : Option (Unit × g_St) :=
  g_pI s0 513 r0 0 fun s1 =>
  f_M_scan_7 200000 r0 0 s1
set_option maxHeartbeats 4000000 in
set_option maxRecDepth 100000 in
theorem t_M_scan_7 {K : g_C} {o : (Unit × g_St)} (hK : g_OK K b_M_scan "FixpointEngineModel" "scan" (Option.none : Option Jvm.ClassFile.FieldType)) (hN : g_nL K = 3) (hD : g_Kd K = 3) : ∀ (n : Nat) (r0 : Option Nat) (x1 : Int32) (s0 : g_St), f_M_scan_7 n r0 x1 s0 = some o → g_W K s0 [(0, g_r 1 r0), (1, g_i x1)] [] 7 (g_jV o) := by
  intro n
  induction n with
  | zero =>
    intro r0 x1 s0 h
    cases h
  | succ n ih =>
    intro r0 x1 s0 h
    unfold f_M_scan_7 at h
    refine r_iload_n hK d_M_scan_7 rfl 1 rfl ?_
    refine r_aload_n hK d_M_scan_8 rfl 0 rfl ?_
    refine r_gI hK fd_M_5 w7_37 d_M_scan_9 h (fun i1 h => ?_)
    refine r_if_icmpge (tgt := 118) hK d_M_scan_12 (by decide) h (fun h => ?_) (fun h => ?_)
    · refine r_aload_n hK d_M_scan_118 rfl 0 rfl ?_
      refine r_gR hK fd_M_10 w7_42 d_M_scan_119 h (fun p2 h => ?_)
      refine r_aload_n hK d_M_scan_122 rfl 0 rfl ?_
      refine r_gI hK fd_M_8 w7_40 d_M_scan_123 h (fun i3 h => ?_)
      refine r_bipush (v := 99) hK d_M_scan_126 (by decide) ?_
      refine r_iastore hK ar_20 rfl d_M_scan_128 h (fun s4 h => ?_)
      refine r_aload_n hK d_M_scan_129 rfl 0 rfl ?_
      refine r_gR hK fd_M_11 w7_43 d_M_scan_130 h (fun p5 h => ?_)
      refine r_aload_n hK d_M_scan_133 rfl 0 rfl ?_
      refine r_gI hK fd_M_8 w7_40 d_M_scan_134 h (fun i6 h => ?_)
      refine r_aload_n hK d_M_scan_137 rfl 0 rfl ?_
      refine r_gI hK fd_M_5 w7_37 d_M_scan_138 h (fun i7 h => ?_)
      refine r_iastore hK ar_20 rfl d_M_scan_141 h (fun s8 h => ?_)
      exact r_return hK d_M_scan_142 h
    · refine r_aload_n hK d_M_scan_15 rfl 0 rfl ?_
      refine r_gR hK fd_M_6 w7_38 d_M_scan_16 h (fun p9 h => ?_)
      refine r_iload_n hK d_M_scan_19 rfl 1 rfl ?_
      refine r_iaload hK ar_20 rfl d_M_scan_20 h (fun i10 h => ?_)
      refine r_istore_n (ls1 := [(2, g_i i10), (0, g_r 1 r0), (1, g_i x1)]) hK d_M_scan_21 rfl (by rw [hN]; decide) rfl ?_
      refine r_iload_n hK d_M_scan_22 rfl 0 rfl ?_
      refine r_bipush (v := 32) hK d_M_scan_23 (by decide) ?_
      refine r_if_icmpne (tgt := 34) hK d_M_scan_25 (by decide) h (fun h => ?_) (fun h => ?_)
      · refine r_aload_n hK d_M_scan_34 rfl 1 rfl ?_
        refine r_gR hK fd_M_11 w7_43 d_M_scan_35 h (fun p11 h => ?_)
        refine r_aload_n hK d_M_scan_38 rfl 1 rfl ?_
        refine r_gI hK fd_M_8 w7_40 d_M_scan_39 h (fun i12 h => ?_)
        refine r_iload_n hK d_M_scan_42 rfl 2 rfl ?_
        refine r_iastore hK ar_20 rfl d_M_scan_43 h (fun s13 h => ?_)
        refine r_aload_n hK d_M_scan_44 rfl 1 rfl ?_
        refine r_gR hK fd_M_12 w7_44 d_M_scan_45 h (fun p14 h => ?_)
        refine r_aload_n hK d_M_scan_48 rfl 1 rfl ?_
        refine r_gI hK fd_M_8 w7_40 d_M_scan_49 h (fun i15 h => ?_)
        refine r_lconst (v := 0) hK d_M_scan_52 (by decide) ?_
        refine r_lastore hK ar_21 rfl d_M_scan_53 h (fun s16 h => ?_)
        refine r_iload_n hK d_M_scan_54 rfl 0 rfl ?_
        refine r_Si (avL := [g_i i10]) (st := []) hK w8_133 w8_132 w8_134 w1_6 (by decide) pl_M_isCapital (by rw [hD]; decide) (Nat.le_of_ble_eq_true rfl) rfl d_M_scan_55 (fun o9 h9 => c_M_isCapital _ _ _ _ o9 h9) h (fun i17 s18 h => ?_)
        refine r_ifeq (tgt := 69) hK d_M_scan_58 (by decide) h (fun h => ?_) (fun h => ?_)
        · refine r_iload_n hK d_M_scan_69 rfl 0 rfl ?_
          refine r_Si (avL := [g_i i10]) (st := []) hK w8_144 w8_143 w8_145 w1_6 (by decide) pl_M_isSmall (by rw [hD]; decide) (Nat.le_of_ble_eq_true rfl) rfl d_M_scan_70 (fun o9 h9 => c_M_isSmall _ _ _ _ o9 h9) h (fun i19 s20 h => ?_)
          refine r_ifeq (tgt := 84) hK d_M_scan_73 (by decide) h (fun h => ?_) (fun h => ?_)
          · refine r_iload_n hK d_M_scan_84 rfl 0 rfl ?_
            refine r_Si (avL := [g_i i10]) (st := []) hK w8_151 w8_150 w8_152 w1_6 (by decide) pl_M_isDigit (by rw [hD]; decide) (Nat.le_of_ble_eq_true rfl) rfl d_M_scan_85 (fun o9 h9 => c_M_isDigit _ _ _ _ o9 h9) h (fun i21 s22 h => ?_)
            refine r_ifeq (tgt := 99) hK d_M_scan_88 (by decide) h (fun h => ?_) (fun h => ?_)
            · refine r_aload_n hK d_M_scan_99 rfl 1 rfl ?_
              refine r_iload_n hK d_M_scan_100 rfl 2 rfl ?_
              refine r_Vi (avL := [g_i x1]) (st := []) hK ob_M rfl w8_162 wp_10 w8_160 w8_163 w1_6 (by decide) pl_M_scanSign (by rw [hD]; decide) (Nat.le_of_ble_eq_true rfl) rfl d_M_scan_101 (fun o9 h9 => c_M_scanSign _ _ _ _ _ o9 h9) h (fun i23 s24 h => ?_)
              refine r_istore_n (ls1 := [(1, g_i i23), (2, g_i i10), (0, g_r 1 r0)]) hK d_M_scan_104 rfl (by rw [hN]; decide) rfl ?_
              refine r_aload_n hK d_M_scan_105 rfl 2 rfl ?_
              refine r_dup hK d_M_scan_106 rfl ?_
              refine r_gI hK fd_M_8 w7_40 d_M_scan_107 h (fun i25 h => ?_)
              refine r_iconst (v := 1) hK d_M_scan_110 (by decide) ?_
              refine r_iadd hK d_M_scan_111 ?_
              refine r_pI hK fd_M_8 rfl w7_40 d_M_scan_112 h (fun s26 h => ?_)
              refine r_goto (tgt := 7) hK d_M_scan_115 (by decide) ?_
              exact r_sub [2, 0] rfl (ih _ _ _ h)
            · refine r_aload_n hK d_M_scan_91 rfl 1 rfl ?_
              refine r_iload_n hK d_M_scan_92 rfl 2 rfl ?_
              refine r_Vi (avL := [g_i x1]) (st := []) hK ob_M rfl w8_156 wp_9 w8_154 w8_157 w1_6 (by decide) pl_M_scanNumber (by rw [hD]; decide) (Nat.le_of_ble_eq_true rfl) rfl d_M_scan_93 (fun o9 h9 => c_M_scanNumber _ _ _ _ _ o9 h9) h (fun i27 s28 h => ?_)
              refine r_goto (tgt := 104) hK d_M_scan_96 (by decide) ?_
              refine r_istore_n (ls1 := [(1, g_i i27), (2, g_i i10), (0, g_r 1 r0)]) hK d_M_scan_104 rfl (by rw [hN]; decide) rfl ?_
              refine r_aload_n hK d_M_scan_105 rfl 2 rfl ?_
              refine r_dup hK d_M_scan_106 rfl ?_
              refine r_gI hK fd_M_8 w7_40 d_M_scan_107 h (fun i29 h => ?_)
              refine r_iconst (v := 1) hK d_M_scan_110 (by decide) ?_
              refine r_iadd hK d_M_scan_111 ?_
              refine r_pI hK fd_M_8 rfl w7_40 d_M_scan_112 h (fun s30 h => ?_)
              refine r_goto (tgt := 7) hK d_M_scan_115 (by decide) ?_
              exact r_sub [2, 0] rfl (ih _ _ _ h)
          · refine r_aload_n hK d_M_scan_76 rfl 1 rfl ?_
            refine r_iload_n hK d_M_scan_77 rfl 2 rfl ?_
            refine r_Vi (avL := [g_i x1]) (st := []) hK ob_M rfl w8_148 wp_8 w8_146 w8_149 w1_6 (by decide) pl_M_scanName (by rw [hD]; decide) (Nat.le_of_ble_eq_true rfl) rfl d_M_scan_78 (fun o9 h9 => c_M_scanName _ _ _ _ _ o9 h9) h (fun i31 s32 h => ?_)
            refine r_goto (tgt := 104) hK d_M_scan_81 (by decide) ?_
            refine r_istore_n (ls1 := [(1, g_i i31), (2, g_i i10), (0, g_r 1 r0)]) hK d_M_scan_104 rfl (by rw [hN]; decide) rfl ?_
            refine r_aload_n hK d_M_scan_105 rfl 2 rfl ?_
            refine r_dup hK d_M_scan_106 rfl ?_
            refine r_gI hK fd_M_8 w7_40 d_M_scan_107 h (fun i33 h => ?_)
            refine r_iconst (v := 1) hK d_M_scan_110 (by decide) ?_
            refine r_iadd hK d_M_scan_111 ?_
            refine r_pI hK fd_M_8 rfl w7_40 d_M_scan_112 h (fun s34 h => ?_)
            refine r_goto (tgt := 7) hK d_M_scan_115 (by decide) ?_
            exact r_sub [2, 0] rfl (ih _ _ _ h)
        · refine r_aload_n hK d_M_scan_61 rfl 1 rfl ?_
          refine r_iload_n hK d_M_scan_62 rfl 2 rfl ?_
          refine r_Vi (avL := [g_i x1]) (st := []) hK ob_M rfl w8_137 wp_6 w8_135 w8_138 w1_6 (by decide) pl_M_scanKeyword (by rw [hD]; decide) (Nat.le_of_ble_eq_true rfl) rfl d_M_scan_63 (fun o9 h9 => c_M_scanKeyword _ _ _ _ _ o9 h9) h (fun i35 s36 h => ?_)
          refine r_goto (tgt := 104) hK d_M_scan_66 (by decide) ?_
          refine r_istore_n (ls1 := [(1, g_i i35), (2, g_i i10), (0, g_r 1 r0)]) hK d_M_scan_104 rfl (by rw [hN]; decide) rfl ?_
          refine r_aload_n hK d_M_scan_105 rfl 2 rfl ?_
          refine r_dup hK d_M_scan_106 rfl ?_
          refine r_gI hK fd_M_8 w7_40 d_M_scan_107 h (fun i37 h => ?_)
          refine r_iconst (v := 1) hK d_M_scan_110 (by decide) ?_
          refine r_iadd hK d_M_scan_111 ?_
          refine r_pI hK fd_M_8 rfl w7_40 d_M_scan_112 h (fun s38 h => ?_)
          refine r_goto (tgt := 7) hK d_M_scan_115 (by decide) ?_
          exact r_sub [2, 0] rfl (ih _ _ _ h)
      · refine r_iinc (ls1 := [(1, g_i (x1 + 1)), (2, g_i i10), (0, g_r 1 r0)]) hK d_M_scan_28 2 rfl rfl (by rw [hN]; decide) rfl ?_
        refine r_goto (tgt := 7) hK d_M_scan_31 (by decide) ?_
        exact r_sub [2, 0] rfl (ih _ _ _ h)
set_option maxHeartbeats 4000000 in
set_option maxRecDepth 100000 in
theorem t_M_scan_0 {K : g_C} {o : (Unit × g_St)} (hK : g_OK K b_M_scan "FixpointEngineModel" "scan" (Option.none : Option Jvm.ClassFile.FieldType)) (hN : g_nL K = 3) (hD : g_Kd K = 3) : ∀ (r0 : Option Nat) (s0 : g_St), f_M_scan r0 s0 = some o → g_W K s0 [(0, g_r 1 r0)] [] 0 (g_jV o) := by
  intro r0 s0 h
  unfold f_M_scan at h
  refine r_aload_n hK d_M_scan_0 rfl 0 rfl ?_
  refine r_iconst (v := 0) hK d_M_scan_1 (by decide) ?_
  refine r_pI hK fd_M_8 rfl w7_40 d_M_scan_2 h (fun s1 h => ?_)
  refine r_iconst (v := 0) hK d_M_scan_5 (by decide) ?_
  refine r_istore_n (ls1 := [(1, g_i 0), (0, g_r 1 r0)]) hK d_M_scan_6 rfl (by rw [hN]; decide) rfl ?_
  exact r_sub [1, 0] rfl (t_M_scan_7 hK hN hD _ _ _ _ h)
theorem c_M_scan (l : Launch) (G : g_G) (r0 : Option Nat) (u : g_St) (o : (Unit × g_St)) (h : f_M_scan r0 u = some o) : g_Con l G y_M_scan b_M_scan 3 (Option.none : Option Jvm.ClassFile.FieldType) 3 [g_r 1 r0] u (g_jV o) :=
  g_Con.of rfl rfl (by decide +kernel) (Nat.le_of_ble_eq_true rfl) (fun K hK hN hD hX => t_M_scan_0 hK hN hD _ _ h)
def f_M_note (r0 : Option Nat) (x1 : Int32) (x2 : Int32) (s0 : g_St) : Option (Unit × g_St) :=
  g_gI s0 833 r0 fun i1 =>
  if i1 ≤ 0 then
    g_pI s0 833 r0 x1 fun s2 =>
    g_pI s2 897 r0 x2 fun s3 =>
    some ((), s3)
  else
    g_gI s0 833 r0 fun i4 =>
    if i4 < x1 then
      some ((), s0)
    else
      g_gI s0 833 r0 fun i5 =>
      if i5 = x1 then
        g_gI s0 897 r0 fun i8 =>
        if x2 < i8 then
          g_pI s0 833 r0 x1 fun s9 =>
          g_pI s9 897 r0 x2 fun s10 =>
          some ((), s10)
        else
          some ((), s0)
      else
        g_pI s0 833 r0 x1 fun s6 =>
        g_pI s6 897 r0 x2 fun s7 =>
        some ((), s7)
set_option maxHeartbeats 4000000 in
set_option maxRecDepth 100000 in
theorem t_M_note_0 {K : g_C} {o : (Unit × g_St)} (hK : g_OK K b_M_note "FixpointEngineModel" "note" (Option.none : Option Jvm.ClassFile.FieldType)) (hN : g_nL K = 3) (hD : g_Kd K = 1) : ∀ (r0 : Option Nat) (x1 : Int32) (x2 : Int32) (s0 : g_St), f_M_note r0 x1 x2 s0 = some o → g_W K s0 [(0, g_r 1 r0), (1, g_i x1), (2, g_i x2)] [] 0 (g_jV o) := by
  intro r0 x1 x2 s0 h
  unfold f_M_note at h
  refine r_aload_n hK d_M_note_0 rfl 0 rfl ?_
  refine r_gI hK fd_M_13 w7_45 d_M_note_1 h (fun i1 h => ?_)
  refine r_ifle (tgt := 32) hK d_M_note_4 (by decide) h (fun h => ?_) (fun h => ?_)
  · refine r_aload_n hK d_M_note_32 rfl 0 rfl ?_
    refine r_iload_n hK d_M_note_33 rfl 1 rfl ?_
    refine r_pI hK fd_M_13 rfl w7_45 d_M_note_34 h (fun s2 h => ?_)
    refine r_aload_n hK d_M_note_37 rfl 0 rfl ?_
    refine r_iload_n hK d_M_note_38 rfl 2 rfl ?_
    refine r_pI hK fd_M_14 rfl w7_46 d_M_note_39 h (fun s3 h => ?_)
    exact r_return hK d_M_note_42 h
  · refine r_aload_n hK d_M_note_7 rfl 0 rfl ?_
    refine r_gI hK fd_M_13 w7_45 d_M_note_8 h (fun i4 h => ?_)
    refine r_iload_n hK d_M_note_11 rfl 1 rfl ?_
    refine r_if_icmplt (tgt := 31) hK d_M_note_12 (by decide) h (fun h => ?_) (fun h => ?_)
    · exact r_return hK d_M_note_31 h
    · refine r_aload_n hK d_M_note_15 rfl 0 rfl ?_
      refine r_gI hK fd_M_13 w7_45 d_M_note_16 h (fun i5 h => ?_)
      refine r_iload_n hK d_M_note_19 rfl 1 rfl ?_
      refine r_if_icmpne (tgt := 32) hK d_M_note_20 (by decide) h (fun h => ?_) (fun h => ?_)
      · refine r_aload_n hK d_M_note_32 rfl 0 rfl ?_
        refine r_iload_n hK d_M_note_33 rfl 1 rfl ?_
        refine r_pI hK fd_M_13 rfl w7_45 d_M_note_34 h (fun s6 h => ?_)
        refine r_aload_n hK d_M_note_37 rfl 0 rfl ?_
        refine r_iload_n hK d_M_note_38 rfl 2 rfl ?_
        refine r_pI hK fd_M_14 rfl w7_46 d_M_note_39 h (fun s7 h => ?_)
        exact r_return hK d_M_note_42 h
      · refine r_aload_n hK d_M_note_23 rfl 0 rfl ?_
        refine r_gI hK fd_M_14 w7_46 d_M_note_24 h (fun i8 h => ?_)
        refine r_iload_n hK d_M_note_27 rfl 2 rfl ?_
        refine r_if_icmpgt (tgt := 32) hK d_M_note_28 (by decide) h (fun h => ?_) (fun h => ?_)
        · refine r_aload_n hK d_M_note_32 rfl 0 rfl ?_
          refine r_iload_n hK d_M_note_33 rfl 1 rfl ?_
          refine r_pI hK fd_M_13 rfl w7_45 d_M_note_34 h (fun s9 h => ?_)
          refine r_aload_n hK d_M_note_37 rfl 0 rfl ?_
          refine r_iload_n hK d_M_note_38 rfl 2 rfl ?_
          refine r_pI hK fd_M_14 rfl w7_46 d_M_note_39 h (fun s10 h => ?_)
          exact r_return hK d_M_note_42 h
        · exact r_return hK d_M_note_31 h
theorem c_M_note (l : Launch) (G : g_G) (r0 : Option Nat) (x1 : Int32) (x2 : Int32) (u : g_St) (o : (Unit × g_St)) (h : f_M_note r0 x1 x2 u = some o) : g_Con l G y_M_note b_M_note 3 (Option.none : Option Jvm.ClassFile.FieldType) 1 [g_r 1 r0, g_i x1, g_i x2] u (g_jV o) :=
  g_Con.of rfl rfl (by decide +kernel) (Nat.le_of_ble_eq_true rfl) (fun K hK hN hD hX => t_M_note_0 hK hN hD _ _ _ _ h)
def f_M_bad (r0 : Option Nat) (s0 : g_St) : Option (Int32 × g_St) :=
  g_gI s0 833 r0 fun i1 =>
  if i1 = 1 then
    g_rZ 1 (some (1, s0))
  else
    g_rZ 0 (some (0, s0))
set_option maxHeartbeats 4000000 in
set_option maxRecDepth 100000 in
theorem t_M_bad_0 {K : g_C} {o : (Int32 × g_St)} (hK : g_OK K b_M_bad "FixpointEngineModel" "bad" (Option.some Jvm.ClassFile.FieldType.boolean)) (hN : g_nL K = 1) (hD : g_Kd K = 1) : ∀ (r0 : Option Nat) (s0 : g_St), f_M_bad r0 s0 = some o → g_W K s0 [(0, g_r 1 r0)] [] 0 (g_jI o) := by
  intro r0 s0 h
  unfold f_M_bad at h
  refine r_aload_n hK d_M_bad_0 rfl 0 rfl ?_
  refine r_gI hK fd_M_13 w7_45 d_M_bad_1 h (fun i1 h => ?_)
  refine r_iconst (v := 1) hK d_M_bad_4 (by decide) ?_
  refine r_if_icmpne (tgt := 12) hK d_M_bad_5 (by decide) h (fun h => ?_) (fun h => ?_)
  · refine r_iconst (v := 0) hK d_M_bad_12 (by decide) ?_
    exact r_zreturn hK d_M_bad_13 h
  · refine r_iconst (v := 1) hK d_M_bad_8 (by decide) ?_
    refine r_goto (tgt := 13) hK d_M_bad_9 (by decide) ?_
    exact r_zreturn hK d_M_bad_13 h
theorem c_M_bad (l : Launch) (G : g_G) (r0 : Option Nat) (u : g_St) (o : (Int32 × g_St)) (h : f_M_bad r0 u = some o) : g_Con l G y_M_bad b_M_bad 1 (Option.some Jvm.ClassFile.FieldType.boolean) 1 [g_r 1 r0] u (g_jI o) :=
  g_Con.of rfl rfl (by decide +kernel) (Nat.le_of_ble_eq_true rfl) (fun K hK hN hD hX => t_M_bad_0 hK hN hD _ _ h)
def f_M_is (r0 : Option Nat) (x1 : Int32) (s0 : g_St) : Option (Int32 × g_St) :=
  g_c (g_nn r0 (f_M_bad r0 s0)) fun i1 s2 =>
  if i1 = 0 then
    g_gR s2 641 r0 fun p3 =>
    g_gI s2 577 r0 fun i4 =>
    g_aI s2 p3 i4 fun i5 =>
    if i5 = x1 then
      g_rZ 1 (some (1, s2))
    else
      g_rZ 0 (some (0, s2))
  else
    g_rZ 0 (some (0, s2))
set_option maxHeartbeats 4000000 in
set_option maxRecDepth 100000 in
theorem t_M_is_0 {K : g_C} {o : (Int32 × g_St)} (hK : g_OK K b_M_is "FixpointEngineModel" "is" (Option.some Jvm.ClassFile.FieldType.boolean)) (hN : g_nL K = 2) (hD : g_Kd K = 2) : ∀ (r0 : Option Nat) (x1 : Int32) (s0 : g_St), f_M_is r0 x1 s0 = some o → g_W K s0 [(0, g_r 1 r0), (1, g_i x1)] [] 0 (g_jI o) := by
  intro r0 x1 s0 h
  unfold f_M_is at h
  refine r_aload_n hK d_M_is_0 rfl 0 rfl ?_
  refine r_Vi (avL := []) (st := []) hK ob_M rfl w8_178 wp_14 w8_176 w8_179 w1_6 (by decide) pl_M_bad (by rw [hD]; decide) (Nat.le_of_ble_eq_true rfl) rfl d_M_is_1 (fun o9 h9 => c_M_bad _ _ _ _ o9 h9) h (fun i1 s2 h => ?_)
  refine r_ifne (tgt := 24) hK d_M_is_4 (by decide) h (fun h => ?_) (fun h => ?_)
  · refine r_iconst (v := 0) hK d_M_is_24 (by decide) ?_
    exact r_zreturn hK d_M_is_25 h
  · refine r_aload_n hK d_M_is_7 rfl 0 rfl ?_
    refine r_gR hK fd_M_10 w7_42 d_M_is_8 h (fun p3 h => ?_)
    refine r_aload_n hK d_M_is_11 rfl 0 rfl ?_
    refine r_gI hK fd_M_9 w7_41 d_M_is_12 h (fun i4 h => ?_)
    refine r_iaload hK ar_20 rfl d_M_is_15 h (fun i5 h => ?_)
    refine r_iload_n hK d_M_is_16 rfl 1 rfl ?_
    refine r_if_icmpne (tgt := 24) hK d_M_is_17 (by decide) h (fun h => ?_) (fun h => ?_)
    · refine r_iconst (v := 0) hK d_M_is_24 (by decide) ?_
      exact r_zreturn hK d_M_is_25 h
    · refine r_iconst (v := 1) hK d_M_is_20 (by decide) ?_
      refine r_goto (tgt := 25) hK d_M_is_21 (by decide) ?_
      exact r_zreturn hK d_M_is_25 h
theorem c_M_is (l : Launch) (G : g_G) (r0 : Option Nat) (x1 : Int32) (u : g_St) (o : (Int32 × g_St)) (h : f_M_is r0 x1 u = some o) : g_Con l G y_M_is b_M_is 2 (Option.some Jvm.ClassFile.FieldType.boolean) 2 [g_r 1 r0, g_i x1] u (g_jI o) :=
  g_Con.of rfl rfl (by decide +kernel) (Nat.le_of_ble_eq_true rfl) (fun K hK hN hD hX => t_M_is_0 hK hN hD _ _ _ h)
def f_M_isSign (r0 : Option Nat) (x1 : Int32) (s0 : g_St) : Option (Int32 × g_St) :=
  g_c (g_nn r0 (f_M_is r0 (100 + x1) s0)) fun i1 s2 =>
  g_rZ i1 (some (i1, s2))
set_option maxHeartbeats 4000000 in
set_option maxRecDepth 100000 in
theorem t_M_isSign_0 {K : g_C} {o : (Int32 × g_St)} (hK : g_OK K b_M_isSign "FixpointEngineModel" "isSign" (Option.some Jvm.ClassFile.FieldType.boolean)) (hN : g_nL K = 2) (hD : g_Kd K = 3) : ∀ (r0 : Option Nat) (x1 : Int32) (s0 : g_St), f_M_isSign r0 x1 s0 = some o → g_W K s0 [(0, g_r 1 r0), (1, g_i x1)] [] 0 (g_jI o) := by
  intro r0 x1 s0 h
  unfold f_M_isSign at h
  refine r_aload_n hK d_M_isSign_0 rfl 0 rfl ?_
  refine r_bipush (v := 100) hK d_M_isSign_1 (by decide) ?_
  refine r_iload_n hK d_M_isSign_3 rfl 1 rfl ?_
  refine r_iadd hK d_M_isSign_4 ?_
  refine r_Vi (avL := [g_i (100 + x1)]) (st := []) hK ob_M rfl w8_174 wp_13 w8_172 w8_175 w1_6 (by decide) pl_M_is (by rw [hD]; decide) (Nat.le_of_ble_eq_true rfl) rfl d_M_isSign_5 (fun o9 h9 => c_M_is _ _ _ _ _ o9 h9) h (fun i1 s2 h => ?_)
  exact r_zreturn hK d_M_isSign_8 h
theorem c_M_isSign (l : Launch) (G : g_G) (r0 : Option Nat) (x1 : Int32) (u : g_St) (o : (Int32 × g_St)) (h : f_M_isSign r0 x1 u = some o) : g_Con l G y_M_isSign b_M_isSign 2 (Option.some Jvm.ClassFile.FieldType.boolean) 3 [g_r 1 r0, g_i x1] u (g_jI o) :=
  g_Con.of rfl rfl (by decide +kernel) (Nat.le_of_ble_eq_true rfl) (fun K hK hN hD hX => t_M_isSign_0 hK hN hD _ _ _ h)
def f_M_need (r0 : Option Nat) (x1 : Int32) (s0 : g_St) : Option (Int32 × g_St) :=
  g_c (g_nn r0 (f_M_is r0 x1 s0)) fun i1 s2 =>
  if i1 = 0 then
    g_c (g_nn r0 (f_M_bad r0 s2)) fun i3 s4 =>
    if i3 = 0 then
      g_gR s4 705 r0 fun p6 =>
      g_gI s4 577 r0 fun i7 =>
      g_aI s4 p6 i7 fun i8 =>
      g_c (g_nn r0 (f_M_note r0 1 i8 s4)) fun _ s10 =>
      g_gI s10 577 r0 fun i11 =>
      some (i11 - 1, s10)
    else
      g_gI s4 577 r0 fun i5 =>
      some (i5 - 1, s4)
  else
    g_gI s2 577 r0 fun i12 =>
    g_pI s2 577 r0 (i12 + 1) fun s13 =>
    g_gI s13 577 r0 fun i14 =>
    some (i14 - 1, s13)
set_option maxHeartbeats 4000000 in
set_option maxRecDepth 100000 in
theorem t_M_need_0 {K : g_C} {o : (Int32 × g_St)} (hK : g_OK K b_M_need "FixpointEngineModel" "need" (Option.some Jvm.ClassFile.FieldType.int)) (hN : g_nL K = 2) (hD : g_Kd K = 3) : ∀ (r0 : Option Nat) (x1 : Int32) (s0 : g_St), f_M_need r0 x1 s0 = some o → g_W K s0 [(0, g_r 1 r0), (1, g_i x1)] [] 0 (g_jI o) := by
  intro r0 x1 s0 h
  unfold f_M_need at h
  refine r_aload_n hK d_M_need_0 rfl 0 rfl ?_
  refine r_iload_n hK d_M_need_1 rfl 1 rfl ?_
  refine r_Vi (avL := [g_i x1]) (st := []) hK ob_M rfl w8_174 wp_13 w8_172 w8_175 w1_6 (by decide) pl_M_is (by rw [hD]; decide) (Nat.le_of_ble_eq_true rfl) rfl d_M_need_2 (fun o9 h9 => c_M_is _ _ _ _ _ o9 h9) h (fun i1 s2 h => ?_)
  refine r_ifeq (tgt := 21) hK d_M_need_5 (by decide) h (fun h => ?_) (fun h => ?_)
  · refine r_aload_n hK d_M_need_21 rfl 0 rfl ?_
    refine r_Vi (avL := []) (st := []) hK ob_M rfl w8_178 wp_14 w8_176 w8_179 w1_6 (by decide) pl_M_bad (by rw [hD]; decide) (Nat.le_of_ble_eq_true rfl) rfl d_M_need_22 (fun o9 h9 => c_M_bad _ _ _ _ o9 h9) h (fun i3 s4 h => ?_)
    refine r_ifne (tgt := 42) hK d_M_need_25 (by decide) h (fun h => ?_) (fun h => ?_)
    · refine r_aload_n hK d_M_need_42 rfl 0 rfl ?_
      refine r_gI hK fd_M_9 w7_41 d_M_need_43 h (fun i5 h => ?_)
      refine r_iconst (v := 1) hK d_M_need_46 (by decide) ?_
      refine r_isub hK d_M_need_47 ?_
      exact r_ireturn hK d_M_need_48 h
    · refine r_aload_n hK d_M_need_28 rfl 0 rfl ?_
      refine r_iconst (v := 1) hK d_M_need_29 (by decide) ?_
      refine r_aload_n hK d_M_need_30 rfl 0 rfl ?_
      refine r_gR hK fd_M_11 w7_43 d_M_need_31 h (fun p6 h => ?_)
      refine r_aload_n hK d_M_need_34 rfl 0 rfl ?_
      refine r_gI hK fd_M_9 w7_41 d_M_need_35 h (fun i7 h => ?_)
      refine r_iaload hK ar_20 rfl d_M_need_38 h (fun i8 h => ?_)
      refine r_Vv (avL := [g_i 1, g_i i8]) (st := []) hK ob_M rfl w8_190 wp_17 w8_188 w8_191 w1_6 (by decide) pl_M_note (by rw [hD]; decide) (Nat.le_of_ble_eq_true rfl) rfl d_M_need_39 (fun o9 h9 => c_M_note _ _ _ _ _ _ o9 h9) h (fun s10 h => ?_)
      refine r_aload_n hK d_M_need_42 rfl 0 rfl ?_
      refine r_gI hK fd_M_9 w7_41 d_M_need_43 h (fun i11 h => ?_)
      refine r_iconst (v := 1) hK d_M_need_46 (by decide) ?_
      refine r_isub hK d_M_need_47 ?_
      exact r_ireturn hK d_M_need_48 h
  · refine r_aload_n hK d_M_need_8 rfl 0 rfl ?_
    refine r_dup hK d_M_need_9 rfl ?_
    refine r_gI hK fd_M_9 w7_41 d_M_need_10 h (fun i12 h => ?_)
    refine r_iconst (v := 1) hK d_M_need_13 (by decide) ?_
    refine r_iadd hK d_M_need_14 ?_
    refine r_pI hK fd_M_9 rfl w7_41 d_M_need_15 h (fun s13 h => ?_)
    refine r_goto (tgt := 42) hK d_M_need_18 (by decide) ?_
    refine r_aload_n hK d_M_need_42 rfl 0 rfl ?_
    refine r_gI hK fd_M_9 w7_41 d_M_need_43 h (fun i14 h => ?_)
    refine r_iconst (v := 1) hK d_M_need_46 (by decide) ?_
    refine r_isub hK d_M_need_47 ?_
    exact r_ireturn hK d_M_need_48 h
theorem c_M_need (l : Launch) (G : g_G) (r0 : Option Nat) (x1 : Int32) (u : g_St) (o : (Int32 × g_St)) (h : f_M_need r0 x1 u = some o) : g_Con l G y_M_need b_M_need 2 (Option.some Jvm.ClassFile.FieldType.int) 3 [g_r 1 r0, g_i x1] u (g_jI o) :=
  g_Con.of rfl rfl (by decide +kernel) (Nat.le_of_ble_eq_true rfl) (fun K hK hN hD hX => t_M_need_0 hK hN hD _ _ _ h)
def f_M_needSign (r0 : Option Nat) (x1 : Int32) (s0 : g_St) : Option (Unit × g_St) :=
  g_c (g_nn r0 (f_M_need r0 (100 + x1) s0)) fun i1 s2 =>
  some ((), s2)
set_option maxHeartbeats 4000000 in
set_option maxRecDepth 100000 in
theorem t_M_needSign_0 {K : g_C} {o : (Unit × g_St)} (hK : g_OK K b_M_needSign "FixpointEngineModel" "needSign" (Option.none : Option Jvm.ClassFile.FieldType)) (hN : g_nL K = 2) (hD : g_Kd K = 4) : ∀ (r0 : Option Nat) (x1 : Int32) (s0 : g_St), f_M_needSign r0 x1 s0 = some o → g_W K s0 [(0, g_r 1 r0), (1, g_i x1)] [] 0 (g_jV o) := by
  intro r0 x1 s0 h
  unfold f_M_needSign at h
  refine r_aload_n hK d_M_needSign_0 rfl 0 rfl ?_
  refine r_bipush (v := 100) hK d_M_needSign_1 (by decide) ?_
  refine r_iload_n hK d_M_needSign_3 rfl 1 rfl ?_
  refine r_iadd hK d_M_needSign_4 ?_
  refine r_Vi (avL := [g_i (100 + x1)]) (st := []) hK ob_M rfl w8_186 wp_16 w8_184 w8_187 w1_6 (by decide) pl_M_need (by rw [hD]; decide) (Nat.le_of_ble_eq_true rfl) rfl d_M_needSign_5 (fun o9 h9 => c_M_need _ _ _ _ _ o9 h9) h (fun i1 s2 h => ?_)
  refine r_pop hK d_M_needSign_8 rfl ?_
  exact r_return hK d_M_needSign_9 h
theorem c_M_needSign (l : Launch) (G : g_G) (r0 : Option Nat) (x1 : Int32) (u : g_St) (o : (Unit × g_St)) (h : f_M_needSign r0 x1 u = some o) : g_Con l G y_M_needSign b_M_needSign 2 (Option.none : Option Jvm.ClassFile.FieldType) 4 [g_r 1 r0, g_i x1] u (g_jV o) :=
  g_Con.of rfl rfl (by decide +kernel) (Nat.le_of_ble_eq_true rfl) (fun K hK hN hD hX => t_M_needSign_0 hK hN hD _ _ _ h)
def f_M_skip (r0 : Option Nat) (x1 : Int32) (s0 : g_St) : Option (Int32 × g_St) :=
  g_c (g_nn r0 (f_M_is r0 x1 s0)) fun i1 s2 =>
  g_gI s2 577 r0 fun i3 =>
  if i1 = 0 then
    g_pI s2 577 r0 (i3 + 0) fun s4 =>
    g_rZ i1 (some (i1, s4))
  else
    g_pI s2 577 r0 (i3 + 1) fun s5 =>
    g_rZ i1 (some (i1, s5))
set_option maxHeartbeats 4000000 in
set_option maxRecDepth 100000 in
theorem t_M_skip_0 {K : g_C} {o : (Int32 × g_St)} (hK : g_OK K b_M_skip "FixpointEngineModel" "skip" (Option.some Jvm.ClassFile.FieldType.boolean)) (hN : g_nL K = 3) (hD : g_Kd K = 3) : ∀ (r0 : Option Nat) (x1 : Int32) (s0 : g_St), f_M_skip r0 x1 s0 = some o → g_W K s0 [(0, g_r 1 r0), (1, g_i x1)] [] 0 (g_jI o) := by
  intro r0 x1 s0 h
  unfold f_M_skip at h
  refine r_aload_n hK d_M_skip_0 rfl 0 rfl ?_
  refine r_iload_n hK d_M_skip_1 rfl 1 rfl ?_
  refine r_Vi (avL := [g_i x1]) (st := []) hK ob_M rfl w8_174 wp_13 w8_172 w8_175 w1_6 (by decide) pl_M_is (by rw [hD]; decide) (Nat.le_of_ble_eq_true rfl) rfl d_M_skip_2 (fun o9 h9 => c_M_is _ _ _ _ _ o9 h9) h (fun i1 s2 h => ?_)
  refine r_istore_n (ls1 := [(2, g_i i1), (0, g_r 1 r0), (1, g_i x1)]) hK d_M_skip_5 rfl (by rw [hN]; decide) rfl ?_
  refine r_aload_n hK d_M_skip_6 rfl 1 rfl ?_
  refine r_dup hK d_M_skip_7 rfl ?_
  refine r_gI hK fd_M_9 w7_41 d_M_skip_8 h (fun i3 h => ?_)
  refine r_iload_n hK d_M_skip_11 rfl 0 rfl ?_
  refine r_ifeq (tgt := 19) hK d_M_skip_12 (by decide) h (fun h => ?_) (fun h => ?_)
  · refine r_iconst (v := 0) hK d_M_skip_19 (by decide) ?_
    refine r_iadd hK d_M_skip_20 ?_
    refine r_pI hK fd_M_9 rfl w7_41 d_M_skip_21 h (fun s4 h => ?_)
    refine r_iload_n hK d_M_skip_24 rfl 0 rfl ?_
    exact r_zreturn hK d_M_skip_25 h
  · refine r_iconst (v := 1) hK d_M_skip_15 (by decide) ?_
    refine r_goto (tgt := 20) hK d_M_skip_16 (by decide) ?_
    refine r_iadd hK d_M_skip_20 ?_
    refine r_pI hK fd_M_9 rfl w7_41 d_M_skip_21 h (fun s5 h => ?_)
    refine r_iload_n hK d_M_skip_24 rfl 0 rfl ?_
    exact r_zreturn hK d_M_skip_25 h
theorem c_M_skip (l : Launch) (G : g_G) (r0 : Option Nat) (x1 : Int32) (u : g_St) (o : (Int32 × g_St)) (h : f_M_skip r0 x1 u = some o) : g_Con l G y_M_skip b_M_skip 3 (Option.some Jvm.ClassFile.FieldType.boolean) 3 [g_r 1 r0, g_i x1] u (g_jI o) :=
  g_Con.of rfl rfl (by decide +kernel) (Nat.le_of_ble_eq_true rfl) (fun K hK hN hD hX => t_M_skip_0 hK hN hD _ _ _ h)
def f_M_skipSign (r0 : Option Nat) (x1 : Int32) (s0 : g_St) : Option (Int32 × g_St) :=
  g_c (g_nn r0 (f_M_skip r0 (100 + x1) s0)) fun i1 s2 =>
  g_rZ i1 (some (i1, s2))
set_option maxHeartbeats 4000000 in
set_option maxRecDepth 100000 in
theorem t_M_skipSign_0 {K : g_C} {o : (Int32 × g_St)} (hK : g_OK K b_M_skipSign "FixpointEngineModel" "skipSign" (Option.some Jvm.ClassFile.FieldType.boolean)) (hN : g_nL K = 2) (hD : g_Kd K = 4) : ∀ (r0 : Option Nat) (x1 : Int32) (s0 : g_St), f_M_skipSign r0 x1 s0 = some o → g_W K s0 [(0, g_r 1 r0), (1, g_i x1)] [] 0 (g_jI o) := by
  intro r0 x1 s0 h
  unfold f_M_skipSign at h
  refine r_aload_n hK d_M_skipSign_0 rfl 0 rfl ?_
  refine r_bipush (v := 100) hK d_M_skipSign_1 (by decide) ?_
  refine r_iload_n hK d_M_skipSign_3 rfl 1 rfl ?_
  refine r_iadd hK d_M_skipSign_4 ?_
  refine r_Vi (avL := [g_i (100 + x1)]) (st := []) hK ob_M rfl w8_170 wp_12 w8_168 w8_171 w1_6 (by decide) pl_M_skip (by rw [hD]; decide) (Nat.le_of_ble_eq_true rfl) rfl d_M_skipSign_5 (fun o9 h9 => c_M_skip _ _ _ _ _ o9 h9) h (fun i1 s2 h => ?_)
  exact r_zreturn hK d_M_skipSign_8 h
theorem c_M_skipSign (l : Launch) (G : g_G) (r0 : Option Nat) (x1 : Int32) (u : g_St) (o : (Int32 × g_St)) (h : f_M_skipSign r0 x1 u = some o) : g_Con l G y_M_skipSign b_M_skipSign 2 (Option.some Jvm.ClassFile.FieldType.boolean) 4 [g_r 1 r0, g_i x1] u (g_jI o) :=
  g_Con.of rfl rfl (by decide +kernel) (Nat.le_of_ble_eq_true rfl) (fun K hK hN hD hX => t_M_skipSign_0 hK hN hD _ _ _ h)
def f_M_readOperand_64 (r0 : Option Nat) (x2 : Int32) (r0s : Option Nat) (x1s : Int32) (x2s : Int32) (s0 : g_St) : Option (Unit × g_St) :=
  g_sI s0 r0s x1s x2s fun s1 =>
  g_gR s1 3265 r0 fun p2 =>
  g_aI s1 p2 x2 fun i3 =>
  if 2 ≤ i3 then
    g_c (g_nn r0 (f_M_need r0 30 s1)) fun i4 s5 =>
    g_c (g_nn r0 (f_M_needSign r0 46 s5)) fun _ s7 =>
    g_c (g_nn r0 (f_M_need r0 30 s7)) fun i8 s9 =>
    some ((), s9)
  else
    g_gI s1 577 r0 fun i10 =>
    g_pI s1 577 r0 (i10 + 1) fun s11 =>
    some ((), s11)
def f_M_readOperand (r0 : Option Nat) (x1 : Int32) (s0 : g_St) : Option (Unit × g_St) :=
  g_gI s0 3073 r0 fun i1 =>
  g_gI s0 3073 r0 fun i2 =>
  g_pI s0 3073 r0 (i2 + 1) fun s3 =>
  g_gR s3 3329 r0 fun p4 =>
  g_sI s3 p4 i1 x1 fun s5 =>
  g_gR s5 3393 r0 fun p6 =>
  g_gI s5 577 r0 fun i7 =>
  g_sI s5 p6 i1 i7 fun s8 =>
  g_gR s8 3265 r0 fun p9 =>
  g_c (g_nn r0 (f_M_is r0 31 s8)) fun i10 s11 =>
  if i10 = 0 then
    g_c (g_nn r0 (f_M_is r0 11 s11)) fun i12 s13 =>
    if i12 = 0 then
      f_M_readOperand_64 r0 i1 p9 i1 2 s13
    else
      f_M_readOperand_64 r0 i1 p9 i1 1 s13
  else
    f_M_readOperand_64 r0 i1 p9 i1 0 s11
set_option maxHeartbeats 4000000 in
set_option maxRecDepth 100000 in
theorem t_M_readOperand_64 {K : g_C} {o : (Unit × g_St)} (hK : g_OK K b_M_readOperand "FixpointEngineModel" "readOperand" (Option.none : Option Jvm.ClassFile.FieldType)) (hN : g_nL K = 3) (hD : g_Kd K = 5) : ∀ (r0 : Option Nat) (x2 : Int32) (r0s : Option Nat) (x1s : Int32) (x2s : Int32) (s0 : g_St), f_M_readOperand_64 r0 x2 r0s x1s x2s s0 = some o → g_W K s0 [(0, g_r 1 r0), (2, g_i x2)] [g_i x2s, g_i x1s, g_r 20 r0s] 64 (g_jV o) := by
  intro r0 x2 r0s x1s x2s s0 h
  unfold f_M_readOperand_64 at h
  refine r_iastore hK ar_20 rfl d_M_readOperand_64 h (fun s1 h => ?_)
  refine r_aload_n hK d_M_readOperand_65 rfl 0 rfl ?_
  refine r_gR hK fd_M_51 w7_83 d_M_readOperand_66 h (fun p2 h => ?_)
  refine r_iload_n hK d_M_readOperand_69 rfl 1 rfl ?_
  refine r_iaload hK ar_20 rfl d_M_readOperand_70 h (fun i3 h => ?_)
  refine r_iconst (v := 2) hK d_M_readOperand_71 (by decide) ?_
  refine r_if_icmpge (tgt := 86) hK d_M_readOperand_72 (by decide) h (fun h => ?_) (fun h => ?_)
  · refine r_aload_n hK d_M_readOperand_86 rfl 0 rfl ?_
    refine r_bipush (v := 30) hK d_M_readOperand_87 (by decide) ?_
    refine r_Vi (avL := [g_i 30]) (st := []) hK ob_M rfl w8_186 wp_16 w8_184 w8_187 w1_6 (by decide) pl_M_need (by rw [hD]; decide) (Nat.le_of_ble_eq_true rfl) rfl d_M_readOperand_89 (fun o9 h9 => c_M_need _ _ _ _ _ o9 h9) h (fun i4 s5 h => ?_)
    refine r_pop hK d_M_readOperand_92 rfl ?_
    refine r_aload_n hK d_M_readOperand_93 rfl 0 rfl ?_
    refine r_bipush (v := 46) hK d_M_readOperand_94 (by decide) ?_
    refine r_Vv (avL := [g_i 46]) (st := []) hK ob_M rfl w8_194 wp_18 w8_192 w8_195 w1_6 (by decide) pl_M_needSign (by rw [hD]; decide) (Nat.le_of_ble_eq_true rfl) rfl d_M_readOperand_96 (fun o9 h9 => c_M_needSign _ _ _ _ _ o9 h9) h (fun s7 h => ?_)
    refine r_aload_n hK d_M_readOperand_99 rfl 0 rfl ?_
    refine r_bipush (v := 30) hK d_M_readOperand_100 (by decide) ?_
    refine r_Vi (avL := [g_i 30]) (st := []) hK ob_M rfl w8_186 wp_16 w8_184 w8_187 w1_6 (by decide) pl_M_need (by rw [hD]; decide) (Nat.le_of_ble_eq_true rfl) rfl d_M_readOperand_102 (fun o9 h9 => c_M_need _ _ _ _ _ o9 h9) h (fun i8 s9 h => ?_)
    refine r_pop hK d_M_readOperand_105 rfl ?_
    exact r_return hK d_M_readOperand_106 h
  · refine r_aload_n hK d_M_readOperand_75 rfl 0 rfl ?_
    refine r_dup hK d_M_readOperand_76 rfl ?_
    refine r_gI hK fd_M_9 w7_41 d_M_readOperand_77 h (fun i10 h => ?_)
    refine r_iconst (v := 1) hK d_M_readOperand_80 (by decide) ?_
    refine r_iadd hK d_M_readOperand_81 ?_
    refine r_pI hK fd_M_9 rfl w7_41 d_M_readOperand_82 h (fun s11 h => ?_)
    exact r_return hK d_M_readOperand_85 h
set_option maxHeartbeats 4000000 in
set_option maxRecDepth 100000 in
theorem t_M_readOperand_0 {K : g_C} {o : (Unit × g_St)} (hK : g_OK K b_M_readOperand "FixpointEngineModel" "readOperand" (Option.none : Option Jvm.ClassFile.FieldType)) (hN : g_nL K = 3) (hD : g_Kd K = 5) : ∀ (r0 : Option Nat) (x1 : Int32) (s0 : g_St), f_M_readOperand r0 x1 s0 = some o → g_W K s0 [(0, g_r 1 r0), (1, g_i x1)] [] 0 (g_jV o) := by
  intro r0 x1 s0 h
  unfold f_M_readOperand at h
  refine r_aload_n hK d_M_readOperand_0 rfl 0 rfl ?_
  refine r_gI hK fd_M_48 w7_80 d_M_readOperand_1 h (fun i1 h => ?_)
  refine r_istore_n (ls1 := [(2, g_i i1), (0, g_r 1 r0), (1, g_i x1)]) hK d_M_readOperand_4 rfl (by rw [hN]; decide) rfl ?_
  refine r_aload_n hK d_M_readOperand_5 rfl 1 rfl ?_
  refine r_dup hK d_M_readOperand_6 rfl ?_
  refine r_gI hK fd_M_48 w7_80 d_M_readOperand_7 h (fun i2 h => ?_)
  refine r_iconst (v := 1) hK d_M_readOperand_10 (by decide) ?_
  refine r_iadd hK d_M_readOperand_11 ?_
  refine r_pI hK fd_M_48 rfl w7_80 d_M_readOperand_12 h (fun s3 h => ?_)
  refine r_aload_n hK d_M_readOperand_15 rfl 1 rfl ?_
  refine r_gR hK fd_M_52 w7_84 d_M_readOperand_16 h (fun p4 h => ?_)
  refine r_iload_n hK d_M_readOperand_19 rfl 0 rfl ?_
  refine r_iload_n hK d_M_readOperand_20 rfl 2 rfl ?_
  refine r_iastore hK ar_20 rfl d_M_readOperand_21 h (fun s5 h => ?_)
  refine r_aload_n hK d_M_readOperand_22 rfl 1 rfl ?_
  refine r_gR hK fd_M_53 w7_85 d_M_readOperand_23 h (fun p6 h => ?_)
  refine r_iload_n hK d_M_readOperand_26 rfl 0 rfl ?_
  refine r_aload_n hK d_M_readOperand_27 rfl 1 rfl ?_
  refine r_gI hK fd_M_9 w7_41 d_M_readOperand_28 h (fun i7 h => ?_)
  refine r_iastore hK ar_20 rfl d_M_readOperand_31 h (fun s8 h => ?_)
  refine r_aload_n hK d_M_readOperand_32 rfl 1 rfl ?_
  refine r_gR hK fd_M_51 w7_83 d_M_readOperand_33 h (fun p9 h => ?_)
  refine r_iload_n hK d_M_readOperand_36 rfl 0 rfl ?_
  refine r_aload_n hK d_M_readOperand_37 rfl 1 rfl ?_
  refine r_bipush (v := 31) hK d_M_readOperand_38 (by decide) ?_
  refine r_Vi (avL := [g_i 31]) (st := [g_i i1, g_r 20 p9]) hK ob_M rfl w8_174 wp_13 w8_172 w8_175 w1_6 (by decide) pl_M_is (by rw [hD]; decide) (Nat.le_of_ble_eq_true rfl) rfl d_M_readOperand_40 (fun o9 h9 => c_M_is _ _ _ _ _ o9 h9) h (fun i10 s11 h => ?_)
  refine r_ifeq (tgt := 50) hK d_M_readOperand_43 (by decide) h (fun h => ?_) (fun h => ?_)
  · refine r_aload_n hK d_M_readOperand_50 rfl 1 rfl ?_
    refine r_bipush (v := 11) hK d_M_readOperand_51 (by decide) ?_
    refine r_Vi (avL := [g_i 11]) (st := [g_i i1, g_r 20 p9]) hK ob_M rfl w8_174 wp_13 w8_172 w8_175 w1_6 (by decide) pl_M_is (by rw [hD]; decide) (Nat.le_of_ble_eq_true rfl) rfl d_M_readOperand_53 (fun o9 h9 => c_M_is _ _ _ _ _ o9 h9) h (fun i12 s13 h => ?_)
    refine r_ifeq (tgt := 63) hK d_M_readOperand_56 (by decide) h (fun h => ?_) (fun h => ?_)
    · refine r_iconst (v := 2) hK d_M_readOperand_63 (by decide) ?_
      exact r_sub [1, 0] rfl (t_M_readOperand_64 hK hN hD _ _ _ _ _ _ h)
    · refine r_iconst (v := 1) hK d_M_readOperand_59 (by decide) ?_
      refine r_goto (tgt := 64) hK d_M_readOperand_60 (by decide) ?_
      exact r_sub [1, 0] rfl (t_M_readOperand_64 hK hN hD _ _ _ _ _ _ h)
  · refine r_iconst (v := 0) hK d_M_readOperand_46 (by decide) ?_
    refine r_goto (tgt := 64) hK d_M_readOperand_47 (by decide) ?_
    exact r_sub [1, 0] rfl (t_M_readOperand_64 hK hN hD _ _ _ _ _ _ h)
theorem c_M_readOperand (l : Launch) (G : g_G) (r0 : Option Nat) (x1 : Int32) (u : g_St) (o : (Unit × g_St)) (h : f_M_readOperand r0 x1 u = some o) : g_Con l G y_M_readOperand b_M_readOperand 3 (Option.none : Option Jvm.ClassFile.FieldType) 5 [g_r 1 r0, g_i x1] u (g_jV o) :=
  g_Con.of rfl rfl (by decide +kernel) (Nat.le_of_ble_eq_true rfl) (fun K hK hN hD hX => t_M_readOperand_0 hK hN hD _ _ _ h)
def f_M_readExpression_95 (k36 : Option Nat → Int32 → Int32 → Int32 → g_St → Option (Int32 × g_St)) (r0 : Option Nat) (x1 : Int32) (x2 : Int32) (x0s : Int32) (s0 : g_St) : Option (Int32 × g_St) :=
  if x0s = 0 then
    k36 r0 x1 x2 x0s s0
  else
    g_c (g_nn r0 (f_M_isSign r0 43 s0)) fun i1 s2 =>
    if i1 = 0 then
      g_gI s2 577 r0 fun i3 =>
      g_pI s2 577 r0 (i3 + 1) fun s4 =>
      k36 r0 x1 (-1) x0s s4
    else
      g_gI s2 577 r0 fun i5 =>
      g_pI s2 577 r0 (i5 + 1) fun s6 =>
      k36 r0 x1 1 x0s s6
def f_M_readExpression_36 : Nat → Option Nat → Int32 → Int32 → Int32 → g_St → Option (Int32 × g_St)
  | 0, _, _, _, _, _ => none
  | n + 1, r0, x1, x2, x3, s0 =>
    if x3 = 0 then
      some (x1, s0)
    else
      g_c (g_nn r0 (f_M_bad r0 s0)) fun i1 s2 =>
      if i1 = 0 then
        g_c (g_nn r0 (f_M_readOperand r0 x2 s2)) fun _ s4 =>
        g_gR s4 3201 r0 fun p5 =>
        g_aI s4 p5 x1 fun i6 =>
        g_sI s4 p5 x1 (i6 + 1) fun s7 =>
        g_gR s7 3201 r0 fun p8 =>
        g_aI s7 p8 x1 fun i9 =>
        if 4 ≤ i9 then
          f_M_readExpression_95 (f_M_readExpression_36 n) r0 x1 x2 0 s7
        else
          g_c (g_nn r0 (f_M_isSign r0 43 s7)) fun i10 s11 =>
          if i10 = 0 then
            g_c (g_nn r0 (f_M_isSign r0 45 s11)) fun i12 s13 =>
            if i12 = 0 then
              f_M_readExpression_95 (f_M_readExpression_36 n) r0 x1 x2 0 s13
            else
              f_M_readExpression_95 (f_M_readExpression_36 n) r0 x1 x2 1 s13
          else
            f_M_readExpression_95 (f_M_readExpression_36 n) r0 x1 x2 1 s11
      else
        some (x1, s2)
def f_M_readExpression (r0 : Option Nat) (s0 : g_St) : Option (Int32 × g_St) :=
  g_gI s0 3009 r0 fun i1 =>
  g_gI s0 3009 r0 fun i2 =>
  g_pI s0 3009 r0 (i2 + 1) fun s3 =>
  g_gR s3 3137 r0 fun p4 =>
  g_gI s3 3073 r0 fun i5 =>
  g_sI s3 p4 i1 i5 fun s6 =>
  g_gR s6 3201 r0 fun p7 =>
  g_sI s6 p7 i1 0 fun s8 =>
  f_M_readExpression_36 200000 r0 i1 1 1 s8
set_option maxHeartbeats 4000000 in
set_option maxRecDepth 100000 in
theorem t_M_readExpression_95 {K : g_C} {o : (Int32 × g_St)} (hK : g_OK K b_M_readExpression "FixpointEngineModel" "readExpression" (Option.some Jvm.ClassFile.FieldType.int)) (hN : g_nL K = 4) (hD : g_Kd K = 6) {k36 : Option Nat → Int32 → Int32 → Int32 → g_St → Option (Int32 × g_St)} (hk36 : ∀ (r0 : Option Nat) (x1 : Int32) (x2 : Int32) (x3 : Int32) (s0 : g_St), k36 r0 x1 x2 x3 s0 = some o → g_W K s0 [(0, g_r 1 r0), (1, g_i x1), (2, g_i x2), (3, g_i x3)] [] 36 (g_jI o)) : ∀ (r0 : Option Nat) (x1 : Int32) (x2 : Int32) (x0s : Int32) (s0 : g_St), f_M_readExpression_95 k36 r0 x1 x2 x0s s0 = some o → g_W K s0 [(0, g_r 1 r0), (1, g_i x1), (2, g_i x2)] [g_i x0s] 95 (g_jI o) := by
  intro r0 x1 x2 x0s s0 h
  unfold f_M_readExpression_95 at h
  refine r_istore_n (ls1 := [(3, g_i x0s), (0, g_r 1 r0), (1, g_i x1), (2, g_i x2)]) hK d_M_readExpression_95 rfl (by rw [hN]; decide) rfl ?_
  refine r_iload_n hK d_M_readExpression_96 rfl 0 rfl ?_
  refine r_ifne (tgt := 103) hK d_M_readExpression_97 (by decide) h (fun h => ?_) (fun h => ?_)
  · refine r_aload_n hK d_M_readExpression_103 rfl 1 rfl ?_
    refine r_bipush (v := 43) hK d_M_readExpression_104 (by decide) ?_
    refine r_Vi (avL := [g_i 43]) (st := []) hK ob_M rfl w8_218 wp_24 w8_216 w8_219 w1_6 (by decide) pl_M_isSign (by rw [hD]; decide) (Nat.le_of_ble_eq_true rfl) rfl d_M_readExpression_106 (fun o9 h9 => c_M_isSign _ _ _ _ _ o9 h9) h (fun i1 s2 h => ?_)
    refine r_ifeq (tgt := 116) hK d_M_readExpression_109 (by decide) h (fun h => ?_) (fun h => ?_)
    · refine r_iconst (v := (-1)) hK d_M_readExpression_116 (by decide) ?_
      refine r_istore_n (ls1 := [(2, g_i (-1)), (3, g_i x0s), (0, g_r 1 r0), (1, g_i x1)]) hK d_M_readExpression_117 rfl (by rw [hN]; decide) rfl ?_
      refine r_aload_n hK d_M_readExpression_118 rfl 2 rfl ?_
      refine r_dup hK d_M_readExpression_119 rfl ?_
      refine r_gI hK fd_M_9 w7_41 d_M_readExpression_120 h (fun i3 h => ?_)
      refine r_iconst (v := 1) hK d_M_readExpression_123 (by decide) ?_
      refine r_iadd hK d_M_readExpression_124 ?_
      refine r_pI hK fd_M_9 rfl w7_41 d_M_readExpression_125 h (fun s4 h => ?_)
      refine r_goto (tgt := 36) hK d_M_readExpression_128 (by decide) ?_
      exact r_sub [2, 3, 0, 1] rfl (hk36 _ _ _ _ _ h)
    · refine r_iconst (v := 1) hK d_M_readExpression_112 (by decide) ?_
      refine r_goto (tgt := 117) hK d_M_readExpression_113 (by decide) ?_
      refine r_istore_n (ls1 := [(2, g_i 1), (3, g_i x0s), (0, g_r 1 r0), (1, g_i x1)]) hK d_M_readExpression_117 rfl (by rw [hN]; decide) rfl ?_
      refine r_aload_n hK d_M_readExpression_118 rfl 2 rfl ?_
      refine r_dup hK d_M_readExpression_119 rfl ?_
      refine r_gI hK fd_M_9 w7_41 d_M_readExpression_120 h (fun i5 h => ?_)
      refine r_iconst (v := 1) hK d_M_readExpression_123 (by decide) ?_
      refine r_iadd hK d_M_readExpression_124 ?_
      refine r_pI hK fd_M_9 rfl w7_41 d_M_readExpression_125 h (fun s6 h => ?_)
      refine r_goto (tgt := 36) hK d_M_readExpression_128 (by decide) ?_
      exact r_sub [2, 3, 0, 1] rfl (hk36 _ _ _ _ _ h)
  · refine r_goto (tgt := 36) hK d_M_readExpression_100 (by decide) ?_
    exact r_sub [1, 2, 3, 0] rfl (hk36 _ _ _ _ _ h)
set_option maxHeartbeats 4000000 in
set_option maxRecDepth 100000 in
theorem t_M_readExpression_36 {K : g_C} {o : (Int32 × g_St)} (hK : g_OK K b_M_readExpression "FixpointEngineModel" "readExpression" (Option.some Jvm.ClassFile.FieldType.int)) (hN : g_nL K = 4) (hD : g_Kd K = 6) : ∀ (n : Nat) (r0 : Option Nat) (x1 : Int32) (x2 : Int32) (x3 : Int32) (s0 : g_St), f_M_readExpression_36 n r0 x1 x2 x3 s0 = some o → g_W K s0 [(0, g_r 1 r0), (1, g_i x1), (2, g_i x2), (3, g_i x3)] [] 36 (g_jI o) := by
  intro n
  induction n with
  | zero =>
    intro r0 x1 x2 x3 s0 h
    cases h
  | succ n ih =>
    intro r0 x1 x2 x3 s0 h
    unfold f_M_readExpression_36 at h
    refine r_iload_n hK d_M_readExpression_36 rfl 3 rfl ?_
    refine r_ifeq (tgt := 131) hK d_M_readExpression_37 (by decide) h (fun h => ?_) (fun h => ?_)
    · refine r_iload_n hK d_M_readExpression_131 rfl 1 rfl ?_
      exact r_ireturn hK d_M_readExpression_132 h
    · refine r_aload_n hK d_M_readExpression_40 rfl 0 rfl ?_
      refine r_Vi (avL := []) (st := []) hK ob_M rfl w8_178 wp_14 w8_176 w8_179 w1_6 (by decide) pl_M_bad (by rw [hD]; decide) (Nat.le_of_ble_eq_true rfl) rfl d_M_readExpression_41 (fun o9 h9 => c_M_bad _ _ _ _ o9 h9) h (fun i1 s2 h => ?_)
      refine r_ifne (tgt := 131) hK d_M_readExpression_44 (by decide) h (fun h => ?_) (fun h => ?_)
      · refine r_iload_n hK d_M_readExpression_131 rfl 1 rfl ?_
        exact r_ireturn hK d_M_readExpression_132 h
      · refine r_aload_n hK d_M_readExpression_47 rfl 0 rfl ?_
        refine r_iload_n hK d_M_readExpression_48 rfl 2 rfl ?_
        refine r_Vv (avL := [g_i x2]) (st := []) hK ob_M rfl w8_214 wp_23 w8_212 w8_215 w1_6 (by decide) pl_M_readOperand (by rw [hD]; decide) (Nat.le_of_ble_eq_true rfl) rfl d_M_readExpression_49 (fun o9 h9 => c_M_readOperand _ _ _ _ _ o9 h9) h (fun s4 h => ?_)
        refine r_aload_n hK d_M_readExpression_52 rfl 0 rfl ?_
        refine r_gR hK fd_M_50 w7_82 d_M_readExpression_53 h (fun p5 h => ?_)
        refine r_iload_n hK d_M_readExpression_56 rfl 1 rfl ?_
        refine r_dup2_11 hK d_M_readExpression_57 rfl rfl ?_
        refine r_iaload hK ar_20 rfl d_M_readExpression_58 h (fun i6 h => ?_)
        refine r_iconst (v := 1) hK d_M_readExpression_59 (by decide) ?_
        refine r_iadd hK d_M_readExpression_60 ?_
        refine r_iastore hK ar_20 rfl d_M_readExpression_61 h (fun s7 h => ?_)
        refine r_aload_n hK d_M_readExpression_62 rfl 0 rfl ?_
        refine r_gR hK fd_M_50 w7_82 d_M_readExpression_63 h (fun p8 h => ?_)
        refine r_iload_n hK d_M_readExpression_66 rfl 1 rfl ?_
        refine r_iaload hK ar_20 rfl d_M_readExpression_67 h (fun i9 h => ?_)
        refine r_iconst (v := 4) hK d_M_readExpression_68 (by decide) ?_
        refine r_if_icmpge (tgt := 94) hK d_M_readExpression_69 (by decide) h (fun h => ?_) (fun h => ?_)
        · refine r_iconst (v := 0) hK d_M_readExpression_94 (by decide) ?_
          exact r_sub [0, 1, 2] rfl (t_M_readExpression_95 hK hN hD ih _ _ _ _ _ h)
        · refine r_aload_n hK d_M_readExpression_72 rfl 0 rfl ?_
          refine r_bipush (v := 43) hK d_M_readExpression_73 (by decide) ?_
          refine r_Vi (avL := [g_i 43]) (st := []) hK ob_M rfl w8_218 wp_24 w8_216 w8_219 w1_6 (by decide) pl_M_isSign (by rw [hD]; decide) (Nat.le_of_ble_eq_true rfl) rfl d_M_readExpression_75 (fun o9 h9 => c_M_isSign _ _ _ _ _ o9 h9) h (fun i10 s11 h => ?_)
          refine r_ifne (tgt := 90) hK d_M_readExpression_78 (by decide) h (fun h => ?_) (fun h => ?_)
          · refine r_iconst (v := 1) hK d_M_readExpression_90 (by decide) ?_
            refine r_goto (tgt := 95) hK d_M_readExpression_91 (by decide) ?_
            exact r_sub [0, 1, 2] rfl (t_M_readExpression_95 hK hN hD ih _ _ _ _ _ h)
          · refine r_aload_n hK d_M_readExpression_81 rfl 0 rfl ?_
            refine r_bipush (v := 45) hK d_M_readExpression_82 (by decide) ?_
            refine r_Vi (avL := [g_i 45]) (st := []) hK ob_M rfl w8_218 wp_24 w8_216 w8_219 w1_6 (by decide) pl_M_isSign (by rw [hD]; decide) (Nat.le_of_ble_eq_true rfl) rfl d_M_readExpression_84 (fun o9 h9 => c_M_isSign _ _ _ _ _ o9 h9) h (fun i12 s13 h => ?_)
            refine r_ifeq (tgt := 94) hK d_M_readExpression_87 (by decide) h (fun h => ?_) (fun h => ?_)
            · refine r_iconst (v := 0) hK d_M_readExpression_94 (by decide) ?_
              exact r_sub [0, 1, 2] rfl (t_M_readExpression_95 hK hN hD ih _ _ _ _ _ h)
            · refine r_iconst (v := 1) hK d_M_readExpression_90 (by decide) ?_
              refine r_goto (tgt := 95) hK d_M_readExpression_91 (by decide) ?_
              exact r_sub [0, 1, 2] rfl (t_M_readExpression_95 hK hN hD ih _ _ _ _ _ h)
set_option maxHeartbeats 4000000 in
set_option maxRecDepth 100000 in
theorem t_M_readExpression_0 {K : g_C} {o : (Int32 × g_St)} (hK : g_OK K b_M_readExpression "FixpointEngineModel" "readExpression" (Option.some Jvm.ClassFile.FieldType.int)) (hN : g_nL K = 4) (hD : g_Kd K = 6) : ∀ (r0 : Option Nat) (s0 : g_St), f_M_readExpression r0 s0 = some o → g_W K s0 [(0, g_r 1 r0)] [] 0 (g_jI o) := by
  intro r0 s0 h
  unfold f_M_readExpression at h
  refine r_aload_n hK d_M_readExpression_0 rfl 0 rfl ?_
  refine r_gI hK fd_M_47 w7_79 d_M_readExpression_1 h (fun i1 h => ?_)
  refine r_istore_n (ls1 := [(1, g_i i1), (0, g_r 1 r0)]) hK d_M_readExpression_4 rfl (by rw [hN]; decide) rfl ?_
  refine r_aload_n hK d_M_readExpression_5 rfl 1 rfl ?_
  refine r_dup hK d_M_readExpression_6 rfl ?_
  refine r_gI hK fd_M_47 w7_79 d_M_readExpression_7 h (fun i2 h => ?_)
  refine r_iconst (v := 1) hK d_M_readExpression_10 (by decide) ?_
  refine r_iadd hK d_M_readExpression_11 ?_
  refine r_pI hK fd_M_47 rfl w7_79 d_M_readExpression_12 h (fun s3 h => ?_)
  refine r_aload_n hK d_M_readExpression_15 rfl 1 rfl ?_
  refine r_gR hK fd_M_49 w7_81 d_M_readExpression_16 h (fun p4 h => ?_)
  refine r_iload_n hK d_M_readExpression_19 rfl 0 rfl ?_
  refine r_aload_n hK d_M_readExpression_20 rfl 1 rfl ?_
  refine r_gI hK fd_M_48 w7_80 d_M_readExpression_21 h (fun i5 h => ?_)
  refine r_iastore hK ar_20 rfl d_M_readExpression_24 h (fun s6 h => ?_)
  refine r_aload_n hK d_M_readExpression_25 rfl 1 rfl ?_
  refine r_gR hK fd_M_50 w7_82 d_M_readExpression_26 h (fun p7 h => ?_)
  refine r_iload_n hK d_M_readExpression_29 rfl 0 rfl ?_
  refine r_iconst (v := 0) hK d_M_readExpression_30 (by decide) ?_
  refine r_iastore hK ar_20 rfl d_M_readExpression_31 h (fun s8 h => ?_)
  refine r_iconst (v := 1) hK d_M_readExpression_32 (by decide) ?_
  refine r_istore_n (ls1 := [(2, g_i 1), (1, g_i i1), (0, g_r 1 r0)]) hK d_M_readExpression_33 rfl (by rw [hN]; decide) rfl ?_
  refine r_iconst (v := 1) hK d_M_readExpression_34 (by decide) ?_
  refine r_istore_n (ls1 := [(3, g_i 1), (2, g_i 1), (1, g_i i1), (0, g_r 1 r0)]) hK d_M_readExpression_35 rfl (by rw [hN]; decide) rfl ?_
  exact r_sub [3, 2, 1, 0] rfl (t_M_readExpression_36 hK hN hD _ _ _ _ _ _ h)
theorem c_M_readExpression (l : Launch) (G : g_G) (r0 : Option Nat) (u : g_St) (o : (Int32 × g_St)) (h : f_M_readExpression r0 u = some o) : g_Con l G y_M_readExpression b_M_readExpression 4 (Option.some Jvm.ClassFile.FieldType.int) 6 [g_r 1 r0] u (g_jI o) :=
  g_Con.of rfl rfl (by decide +kernel) (Nat.le_of_ble_eq_true rfl) (fun K hK hN hD hX => t_M_readExpression_0 hK hN hD _ _ h)
