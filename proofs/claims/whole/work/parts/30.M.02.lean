def f_M_row_63 : Nat → Option Nat → Int32 → Int32 → Int32 → Int32 → Int32 → Int32 → Int32 → g_St → Option (Int32 × g_St)
  | 0, _, _, _, _, _, _, _, _, _ => none
  | n + 1, r0, x1, x2, x3, x4, x5, x6, x7, s0 =>
    if 3 ≤ x7 then
      g_gR s0 193 r0 fun p1 =>
      g_aI s0 p1 x1 fun i2 =>
      g_sI s0 p1 x1 (i2 + 1) fun s3 =>
      g_gR s3 193 r0 fun p4 =>
      g_aI s3 p4 x1 fun i5 =>
      some (i5, s3)
    else
      g_gR s0 257 r0 fun p6 =>
      if ((x5 >>> (x7 &&& 31)) &&& 1) = 1 then
        g_sL s0 p6 (x6 + x7) 1099511627776 fun s10 =>
        f_M_row_63 n r0 x1 x2 x3 x4 x5 x6 (x7 + 1) s10
      else
        if x7 = 0 then
          g_sL s0 p6 (x6 + x7) x2.toInt64 fun s9 =>
          f_M_row_63 n r0 x1 x2 x3 x4 x5 x6 (x7 + 1) s9
        else
          if x7 = 1 then
            g_sL s0 p6 (x6 + x7) x3.toInt64 fun s8 =>
            f_M_row_63 n r0 x1 x2 x3 x4 x5 x6 (x7 + 1) s8
          else
            g_sL s0 p6 (x6 + x7) x4.toInt64 fun s7 =>
            f_M_row_63 n r0 x1 x2 x3 x4 x5 x6 (x7 + 1) s7
def f_M_row_33 (r0 : Option Nat) (x1 : Int32) (x2 : Int32) (x3 : Int32) (x4 : Int32) (x5 : Int32) (r0s : Option Nat) (x1s : Int32) (s0 : g_St) : Option (Int32 × g_St) :=
  g_pI s0 1 r0s x1s fun s1 =>
  g_gI s1 1 r0 fun i2 =>
  if i2 ≤ 0 then
    g_gR s1 193 r0 fun p3 =>
    g_aI s1 p3 x1 fun i4 =>
    f_M_row_63 200000 r0 x1 x2 x3 x4 x5 ((48 * x1) + (3 * i4)) 0 s1
  else
    some (0, s1)
def f_M_row (r0 : Option Nat) (x1 : Int32) (x2 : Int32) (x3 : Int32) (x4 : Int32) (x5 : Int32) (s0 : g_St) : Option (Int32 × g_St) :=
  if x1 < 0 then
    f_M_row_33 r0 x1 x2 x3 x4 x5 r0 1 s0
  else
    g_gI s0 65 r0 fun i1 =>
    if x1 < i1 then
      g_gR s0 193 r0 fun p2 =>
      g_aI s0 p2 x1 fun i3 =>
      if i3 = 16 then
        f_M_row_33 r0 x1 x2 x3 x4 x5 r0 2 s0
      else
        f_M_row_33 r0 x1 x2 x3 x4 x5 r0 0 s0
    else
      f_M_row_33 r0 x1 x2 x3 x4 x5 r0 1 s0
set_option maxHeartbeats 4000000 in
set_option maxRecDepth 100000 in
theorem t_M_row_63 {K : g_C} {o : (Int32 × g_St)} (hK : g_OK K b_M_row "FixpointEngineModel" "row" (Option.some Jvm.ClassFile.FieldType.int)) (hN : g_nL K = 8) (hD : g_Kd K = 1) : ∀ (n : Nat) (r0 : Option Nat) (x1 : Int32) (x2 : Int32) (x3 : Int32) (x4 : Int32) (x5 : Int32) (x6 : Int32) (x7 : Int32) (s0 : g_St), f_M_row_63 n r0 x1 x2 x3 x4 x5 x6 x7 s0 = some o → g_W K s0 [(0, g_r 1 r0), (1, g_i x1), (2, g_i x2), (3, g_i x3), (4, g_i x4), (5, g_i x5), (6, g_i x6), (7, g_i x7)] [] 63 (g_jI o) := by
  intro n
  induction n with
  | zero =>
    intro r0 x1 x2 x3 x4 x5 x6 x7 s0 h
    cases h
  | succ n ih =>
    intro r0 x1 x2 x3 x4 x5 x6 x7 s0 h
    unfold f_M_row_63 at h
    refine r_iload hK d_M_row_63 7 rfl ?_
    refine r_iconst (v := 3) hK d_M_row_65 (by decide) ?_
    refine r_if_icmpge (tgt := 126) hK d_M_row_66 (by decide) h (fun h => ?_) (fun h => ?_)
    · refine r_aload_n hK d_M_row_126 rfl 0 rfl ?_
      refine r_gR hK fd_M_3 w7_35 d_M_row_127 h (fun p1 h => ?_)
      refine r_iload_n hK d_M_row_130 rfl 1 rfl ?_
      refine r_dup2_11 hK d_M_row_131 rfl rfl ?_
      refine r_iaload hK ar_20 rfl d_M_row_132 h (fun i2 h => ?_)
      refine r_iconst (v := 1) hK d_M_row_133 (by decide) ?_
      refine r_iadd hK d_M_row_134 ?_
      refine r_iastore hK ar_20 rfl d_M_row_135 h (fun s3 h => ?_)
      refine r_aload_n hK d_M_row_136 rfl 0 rfl ?_
      refine r_gR hK fd_M_3 w7_35 d_M_row_137 h (fun p4 h => ?_)
      refine r_iload_n hK d_M_row_140 rfl 1 rfl ?_
      refine r_iaload hK ar_20 rfl d_M_row_141 h (fun i5 h => ?_)
      exact r_ireturn hK d_M_row_142 h
    · refine r_aload_n hK d_M_row_69 rfl 0 rfl ?_
      refine r_gR hK fd_M_4 w7_36 d_M_row_70 h (fun p6 h => ?_)
      refine r_iload hK d_M_row_73 6 rfl ?_
      refine r_iload hK d_M_row_75 7 rfl ?_
      refine r_iadd hK d_M_row_77 ?_
      refine r_iload hK d_M_row_78 5 rfl ?_
      refine r_iload hK d_M_row_80 7 rfl ?_
      refine r_ishr hK d_M_row_82 ?_
      refine r_iconst (v := 1) hK d_M_row_83 (by decide) ?_
      refine r_iand hK d_M_row_84 ?_
      refine r_iconst (v := 1) hK d_M_row_85 (by decide) ?_
      refine r_if_icmpne (tgt := 95) hK d_M_row_86 (by decide) h (fun h => ?_) (fun h => ?_)
      · refine r_iload hK d_M_row_95 7 rfl ?_
        refine r_ifne (tgt := 105) hK d_M_row_97 (by decide) h (fun h => ?_) (fun h => ?_)
        · refine r_iload hK d_M_row_105 7 rfl ?_
          refine r_iconst (v := 1) hK d_M_row_107 (by decide) ?_
          refine r_if_icmpne (tgt := 116) hK d_M_row_108 (by decide) h (fun h => ?_) (fun h => ?_)
          · refine r_iload hK d_M_row_116 4 rfl ?_
            refine r_i2l hK d_M_row_118 ?_
            refine r_lastore hK ar_21 rfl d_M_row_119 h (fun s7 h => ?_)
            refine r_iinc (ls1 := [(7, g_i (x7 + 1)), (0, g_r 1 r0), (1, g_i x1), (2, g_i x2), (3, g_i x3), (4, g_i x4), (5, g_i x5), (6, g_i x6)]) hK d_M_row_120 7 rfl rfl (by rw [hN]; decide) rfl ?_
            refine r_goto (tgt := 63) hK d_M_row_123 (by decide) ?_
            exact r_sub [1, 2, 3, 4, 5, 6, 7, 0] rfl (ih _ _ _ _ _ _ _ _ _ h)
          · refine r_iload_n hK d_M_row_111 rfl 3 rfl ?_
            refine r_i2l hK d_M_row_112 ?_
            refine r_goto (tgt := 119) hK d_M_row_113 (by decide) ?_
            refine r_lastore hK ar_21 rfl d_M_row_119 h (fun s8 h => ?_)
            refine r_iinc (ls1 := [(7, g_i (x7 + 1)), (0, g_r 1 r0), (1, g_i x1), (2, g_i x2), (3, g_i x3), (4, g_i x4), (5, g_i x5), (6, g_i x6)]) hK d_M_row_120 7 rfl rfl (by rw [hN]; decide) rfl ?_
            refine r_goto (tgt := 63) hK d_M_row_123 (by decide) ?_
            exact r_sub [1, 2, 3, 4, 5, 6, 7, 0] rfl (ih _ _ _ _ _ _ _ _ _ h)
        · refine r_iload_n hK d_M_row_100 rfl 2 rfl ?_
          refine r_i2l hK d_M_row_101 ?_
          refine r_goto (tgt := 119) hK d_M_row_102 (by decide) ?_
          refine r_lastore hK ar_21 rfl d_M_row_119 h (fun s9 h => ?_)
          refine r_iinc (ls1 := [(7, g_i (x7 + 1)), (0, g_r 1 r0), (1, g_i x1), (2, g_i x2), (3, g_i x3), (4, g_i x4), (5, g_i x5), (6, g_i x6)]) hK d_M_row_120 7 rfl rfl (by rw [hN]; decide) rfl ?_
          refine r_goto (tgt := 63) hK d_M_row_123 (by decide) ?_
          exact r_sub [1, 2, 3, 4, 5, 6, 7, 0] rfl (ih _ _ _ _ _ _ _ _ _ h)
      · refine r_ldc2 hK w8_112 d_M_row_89 ?_
        refine r_goto (tgt := 119) hK d_M_row_92 (by decide) ?_
        refine r_lastore hK ar_21 rfl d_M_row_119 h (fun s10 h => ?_)
        refine r_iinc (ls1 := [(7, g_i (x7 + 1)), (0, g_r 1 r0), (1, g_i x1), (2, g_i x2), (3, g_i x3), (4, g_i x4), (5, g_i x5), (6, g_i x6)]) hK d_M_row_120 7 rfl rfl (by rw [hN]; decide) rfl ?_
        refine r_goto (tgt := 63) hK d_M_row_123 (by decide) ?_
        exact r_sub [1, 2, 3, 4, 5, 6, 7, 0] rfl (ih _ _ _ _ _ _ _ _ _ h)
set_option maxHeartbeats 4000000 in
set_option maxRecDepth 100000 in
theorem t_M_row_33 {K : g_C} {o : (Int32 × g_St)} (hK : g_OK K b_M_row "FixpointEngineModel" "row" (Option.some Jvm.ClassFile.FieldType.int)) (hN : g_nL K = 8) (hD : g_Kd K = 1) : ∀ (r0 : Option Nat) (x1 : Int32) (x2 : Int32) (x3 : Int32) (x4 : Int32) (x5 : Int32) (r0s : Option Nat) (x1s : Int32) (s0 : g_St), f_M_row_33 r0 x1 x2 x3 x4 x5 r0s x1s s0 = some o → g_W K s0 [(0, g_r 1 r0), (1, g_i x1), (2, g_i x2), (3, g_i x3), (4, g_i x4), (5, g_i x5)] [g_i x1s, g_r 1 r0s] 33 (g_jI o) := by
  intro r0 x1 x2 x3 x4 x5 r0s x1s s0 h
  unfold f_M_row_33 at h
  refine r_pI hK fd_M_0 rfl w7_32 d_M_row_33 h (fun s1 h => ?_)
  refine r_aload_n hK d_M_row_36 rfl 0 rfl ?_
  refine r_gI hK fd_M_0 w7_32 d_M_row_37 h (fun i2 h => ?_)
  refine r_ifle (tgt := 45) hK d_M_row_40 (by decide) h (fun h => ?_) (fun h => ?_)
  · refine r_bipush (v := 48) hK d_M_row_45 (by decide) ?_
    refine r_iload_n hK d_M_row_47 rfl 1 rfl ?_
    refine r_imul hK d_M_row_48 ?_
    refine r_iconst (v := 3) hK d_M_row_49 (by decide) ?_
    refine r_aload_n hK d_M_row_50 rfl 0 rfl ?_
    refine r_gR hK fd_M_3 w7_35 d_M_row_51 h (fun p3 h => ?_)
    refine r_iload_n hK d_M_row_54 rfl 1 rfl ?_
    refine r_iaload hK ar_20 rfl d_M_row_55 h (fun i4 h => ?_)
    refine r_imul hK d_M_row_56 ?_
    refine r_iadd hK d_M_row_57 ?_
    refine r_istore (ls1 := [(6, g_i ((48 * x1) + (3 * i4))), (0, g_r 1 r0), (1, g_i x1), (2, g_i x2), (3, g_i x3), (4, g_i x4), (5, g_i x5)]) hK d_M_row_58 (by rw [hN]; decide) rfl ?_
    refine r_iconst (v := 0) hK d_M_row_60 (by decide) ?_
    refine r_istore (ls1 := [(7, g_i 0), (6, g_i ((48 * x1) + (3 * i4))), (0, g_r 1 r0), (1, g_i x1), (2, g_i x2), (3, g_i x3), (4, g_i x4), (5, g_i x5)]) hK d_M_row_61 (by rw [hN]; decide) rfl ?_
    exact r_sub [2, 3, 4, 5, 6, 7, 1, 0] rfl (t_M_row_63 hK hN hD _ _ _ _ _ _ _ _ _ _ h)
  · refine r_iconst (v := 0) hK d_M_row_43 (by decide) ?_
    exact r_ireturn hK d_M_row_44 h
set_option maxHeartbeats 4000000 in
set_option maxRecDepth 100000 in
theorem t_M_row_0 {K : g_C} {o : (Int32 × g_St)} (hK : g_OK K b_M_row "FixpointEngineModel" "row" (Option.some Jvm.ClassFile.FieldType.int)) (hN : g_nL K = 8) (hD : g_Kd K = 1) : ∀ (r0 : Option Nat) (x1 : Int32) (x2 : Int32) (x3 : Int32) (x4 : Int32) (x5 : Int32) (s0 : g_St), f_M_row r0 x1 x2 x3 x4 x5 s0 = some o → g_W K s0 [(0, g_r 1 r0), (1, g_i x1), (2, g_i x2), (3, g_i x3), (4, g_i x4), (5, g_i x5)] [] 0 (g_jI o) := by
  intro r0 x1 x2 x3 x4 x5 s0 h
  unfold f_M_row at h
  refine r_aload_n hK d_M_row_0 rfl 0 rfl ?_
  refine r_iload_n hK d_M_row_1 rfl 1 rfl ?_
  refine r_iflt (tgt := 13) hK d_M_row_2 (by decide) h (fun h => ?_) (fun h => ?_)
  · refine r_iconst (v := 1) hK d_M_row_13 (by decide) ?_
    refine r_goto (tgt := 33) hK d_M_row_14 (by decide) ?_
    exact r_sub [0, 1, 2, 3, 4, 5] rfl (t_M_row_33 hK hN hD _ _ _ _ _ _ _ _ _ h)
  · refine r_iload_n hK d_M_row_5 rfl 1 rfl ?_
    refine r_aload_n hK d_M_row_6 rfl 0 rfl ?_
    refine r_gI hK fd_M_1 w7_33 d_M_row_7 h (fun i1 h => ?_)
    refine r_if_icmplt (tgt := 17) hK d_M_row_10 (by decide) h (fun h => ?_) (fun h => ?_)
    · refine r_aload_n hK d_M_row_17 rfl 0 rfl ?_
      refine r_gR hK fd_M_3 w7_35 d_M_row_18 h (fun p2 h => ?_)
      refine r_iload_n hK d_M_row_21 rfl 1 rfl ?_
      refine r_iaload hK ar_20 rfl d_M_row_22 h (fun i3 h => ?_)
      refine r_bipush (v := 16) hK d_M_row_23 (by decide) ?_
      refine r_if_icmpne (tgt := 32) hK d_M_row_25 (by decide) h (fun h => ?_) (fun h => ?_)
      · refine r_iconst (v := 0) hK d_M_row_32 (by decide) ?_
        exact r_sub [0, 1, 2, 3, 4, 5] rfl (t_M_row_33 hK hN hD _ _ _ _ _ _ _ _ _ h)
      · refine r_iconst (v := 2) hK d_M_row_28 (by decide) ?_
        refine r_goto (tgt := 33) hK d_M_row_29 (by decide) ?_
        exact r_sub [0, 1, 2, 3, 4, 5] rfl (t_M_row_33 hK hN hD _ _ _ _ _ _ _ _ _ h)
    · refine r_iconst (v := 1) hK d_M_row_13 (by decide) ?_
      refine r_goto (tgt := 33) hK d_M_row_14 (by decide) ?_
      exact r_sub [0, 1, 2, 3, 4, 5] rfl (t_M_row_33 hK hN hD _ _ _ _ _ _ _ _ _ h)
theorem c_M_row (l : Launch) (G : g_G) (r0 : Option Nat) (x1 : Int32) (x2 : Int32) (x3 : Int32) (x4 : Int32) (x5 : Int32) (u : g_St) (o : (Int32 × g_St)) (h : f_M_row r0 x1 x2 x3 x4 x5 u = some o) : g_Con l G y_M_row b_M_row 8 (Option.some Jvm.ClassFile.FieldType.int) 1 [g_r 1 r0, g_i x1, g_i x2, g_i x3, g_i x4, g_i x5] u (g_jI o) :=
  g_Con.of rfl rfl (by decide +kernel) (Nat.le_of_ble_eq_true rfl) (fun K hK hN hD hX => t_M_row_0 hK hN hD _ _ _ _ _ _ _ h)
def f_M_clear_18 (r0 : Option Nat) (x1 : Int32) (r0s : Option Nat) (x1s : Int32) (s0 : g_St) : Option (Int32 × g_St) :=
  g_pI s0 1 r0s x1s fun s1 =>
  g_gI s1 1 r0 fun i2 =>
  if i2 ≤ 0 then
    g_gR s1 193 r0 fun p3 =>
    g_aI s1 p3 x1 fun i4 =>
    g_gR s1 193 r0 fun p5 =>
    g_sI s1 p5 x1 0 fun s6 =>
    some (i4, s6)
  else
    some (0, s1)
def f_M_clear (r0 : Option Nat) (x1 : Int32) (s0 : g_St) : Option (Int32 × g_St) :=
  if x1 < 0 then
    f_M_clear_18 r0 x1 r0 1 s0
  else
    g_gI s0 65 r0 fun i1 =>
    if x1 < i1 then
      f_M_clear_18 r0 x1 r0 0 s0
    else
      f_M_clear_18 r0 x1 r0 1 s0
set_option maxHeartbeats 4000000 in
set_option maxRecDepth 100000 in
theorem t_M_clear_18 {K : g_C} {o : (Int32 × g_St)} (hK : g_OK K b_M_clear "FixpointEngineModel" "clear" (Option.some Jvm.ClassFile.FieldType.int)) (hN : g_nL K = 3) (hD : g_Kd K = 1) : ∀ (r0 : Option Nat) (x1 : Int32) (r0s : Option Nat) (x1s : Int32) (s0 : g_St), f_M_clear_18 r0 x1 r0s x1s s0 = some o → g_W K s0 [(0, g_r 1 r0), (1, g_i x1)] [g_i x1s, g_r 1 r0s] 18 (g_jI o) := by
  intro r0 x1 r0s x1s s0 h
  unfold f_M_clear_18 at h
  refine r_pI hK fd_M_0 rfl w7_32 d_M_clear_18 h (fun s1 h => ?_)
  refine r_aload_n hK d_M_clear_21 rfl 0 rfl ?_
  refine r_gI hK fd_M_0 w7_32 d_M_clear_22 h (fun i2 h => ?_)
  refine r_ifle (tgt := 30) hK d_M_clear_25 (by decide) h (fun h => ?_) (fun h => ?_)
  · refine r_aload_n hK d_M_clear_30 rfl 0 rfl ?_
    refine r_gR hK fd_M_3 w7_35 d_M_clear_31 h (fun p3 h => ?_)
    refine r_iload_n hK d_M_clear_34 rfl 1 rfl ?_
    refine r_iaload hK ar_20 rfl d_M_clear_35 h (fun i4 h => ?_)
    refine r_istore_n (ls1 := [(2, g_i i4), (0, g_r 1 r0), (1, g_i x1)]) hK d_M_clear_36 rfl (by rw [hN]; decide) rfl ?_
    refine r_aload_n hK d_M_clear_37 rfl 1 rfl ?_
    refine r_gR hK fd_M_3 w7_35 d_M_clear_38 h (fun p5 h => ?_)
    refine r_iload_n hK d_M_clear_41 rfl 2 rfl ?_
    refine r_iconst (v := 0) hK d_M_clear_42 (by decide) ?_
    refine r_iastore hK ar_20 rfl d_M_clear_43 h (fun s6 h => ?_)
    refine r_iload_n hK d_M_clear_44 rfl 0 rfl ?_
    exact r_ireturn hK d_M_clear_45 h
  · refine r_iconst (v := 0) hK d_M_clear_28 (by decide) ?_
    exact r_ireturn hK d_M_clear_29 h
set_option maxHeartbeats 4000000 in
set_option maxRecDepth 100000 in
theorem t_M_clear_0 {K : g_C} {o : (Int32 × g_St)} (hK : g_OK K b_M_clear "FixpointEngineModel" "clear" (Option.some Jvm.ClassFile.FieldType.int)) (hN : g_nL K = 3) (hD : g_Kd K = 1) : ∀ (r0 : Option Nat) (x1 : Int32) (s0 : g_St), f_M_clear r0 x1 s0 = some o → g_W K s0 [(0, g_r 1 r0), (1, g_i x1)] [] 0 (g_jI o) := by
  intro r0 x1 s0 h
  unfold f_M_clear at h
  refine r_aload_n hK d_M_clear_0 rfl 0 rfl ?_
  refine r_iload_n hK d_M_clear_1 rfl 1 rfl ?_
  refine r_iflt (tgt := 13) hK d_M_clear_2 (by decide) h (fun h => ?_) (fun h => ?_)
  · refine r_iconst (v := 1) hK d_M_clear_13 (by decide) ?_
    refine r_goto (tgt := 18) hK d_M_clear_14 (by decide) ?_
    exact r_sub [0, 1] rfl (t_M_clear_18 hK hN hD _ _ _ _ _ h)
  · refine r_iload_n hK d_M_clear_5 rfl 1 rfl ?_
    refine r_aload_n hK d_M_clear_6 rfl 0 rfl ?_
    refine r_gI hK fd_M_1 w7_33 d_M_clear_7 h (fun i1 h => ?_)
    refine r_if_icmplt (tgt := 17) hK d_M_clear_10 (by decide) h (fun h => ?_) (fun h => ?_)
    · refine r_iconst (v := 0) hK d_M_clear_17 (by decide) ?_
      exact r_sub [0, 1] rfl (t_M_clear_18 hK hN hD _ _ _ _ _ h)
    · refine r_iconst (v := 1) hK d_M_clear_13 (by decide) ?_
      refine r_goto (tgt := 18) hK d_M_clear_14 (by decide) ?_
      exact r_sub [0, 1] rfl (t_M_clear_18 hK hN hD _ _ _ _ _ h)
theorem c_M_clear (l : Launch) (G : g_G) (r0 : Option Nat) (x1 : Int32) (u : g_St) (o : (Int32 × g_St)) (h : f_M_clear r0 x1 u = some o) : g_Con l G y_M_clear b_M_clear 3 (Option.some Jvm.ClassFile.FieldType.int) 1 [g_r 1 r0, g_i x1] u (g_jI o) :=
  g_Con.of rfl rfl (by decide +kernel) (Nat.le_of_ble_eq_true rfl) (fun K hK hN hD hX => t_M_clear_0 hK hN hD _ _ _ h)
def f_M_byteOf_42 (x0 : Int32) (x0s : Int32) (s0 : g_St) : Option (Int32 × g_St) :=
  g_nz 4 (
  some ((x0s >>> ((24 - (8 * (x0 - x0 / 4 * 4))) &&& 31)) &&& 255, s0))
def f_M_byteOf (x0 : Int32) (x1 : Int32) (x2 : Int32) (x3 : Int32) (x4 : Int32) (x5 : Int32) (s0 : g_St) : Option (Int32 × g_St) :=
  if 4 ≤ x0 then
    if 8 ≤ x0 then
      if 12 ≤ x0 then
        if 16 ≤ x0 then
          f_M_byteOf_42 x0 x5 s0
        else
          f_M_byteOf_42 x0 x4 s0
      else
        f_M_byteOf_42 x0 x3 s0
    else
      f_M_byteOf_42 x0 x2 s0
  else
    f_M_byteOf_42 x0 x1 s0
set_option maxHeartbeats 4000000 in
set_option maxRecDepth 100000 in
theorem t_M_byteOf_42 {K : g_C} {o : (Int32 × g_St)} (hK : g_OK K b_M_byteOf "FixpointEngineModel" "byteOf" (Option.some Jvm.ClassFile.FieldType.int)) (hN : g_nL K = 7) (hD : g_Kd K = 1) : ∀ (x0 : Int32) (x0s : Int32) (s0 : g_St), f_M_byteOf_42 x0 x0s s0 = some o → g_W K s0 [(0, g_i x0)] [g_i x0s] 42 (g_jI o) := by
  intro x0 x0s s0 h
  unfold f_M_byteOf_42 at h
  refine r_istore (ls1 := [(6, g_i x0s), (0, g_i x0)]) hK d_M_byteOf_42 (by rw [hN]; decide) rfl ?_
  refine r_iload hK d_M_byteOf_44 0 rfl ?_
  refine r_bipush (v := 24) hK d_M_byteOf_46 (by decide) ?_
  refine r_bipush (v := 8) hK d_M_byteOf_48 (by decide) ?_
  refine r_iload_n hK d_M_byteOf_50 rfl 1 rfl ?_
  refine r_iconst (v := 4) hK d_M_byteOf_51 (by decide) ?_
  refine r_irem hK d_M_byteOf_52 h (fun h => ?_)
  refine r_imul hK d_M_byteOf_53 ?_
  refine r_isub hK d_M_byteOf_54 ?_
  refine r_ishr hK d_M_byteOf_55 ?_
  refine r_sipush (v := 255) hK d_M_byteOf_56 (by decide) ?_
  refine r_iand hK d_M_byteOf_59 ?_
  exact r_ireturn hK d_M_byteOf_60 h
set_option maxHeartbeats 4000000 in
set_option maxRecDepth 100000 in
theorem t_M_byteOf_0 {K : g_C} {o : (Int32 × g_St)} (hK : g_OK K b_M_byteOf "FixpointEngineModel" "byteOf" (Option.some Jvm.ClassFile.FieldType.int)) (hN : g_nL K = 7) (hD : g_Kd K = 1) : ∀ (x0 : Int32) (x1 : Int32) (x2 : Int32) (x3 : Int32) (x4 : Int32) (x5 : Int32) (s0 : g_St), f_M_byteOf x0 x1 x2 x3 x4 x5 s0 = some o → g_W K s0 [(0, g_i x0), (1, g_i x1), (2, g_i x2), (3, g_i x3), (4, g_i x4), (5, g_i x5)] [] 0 (g_jI o) := by
  intro x0 x1 x2 x3 x4 x5 s0 h
  unfold f_M_byteOf at h
  refine r_iload_n hK d_M_byteOf_0 rfl 0 rfl ?_
  refine r_iconst (v := 4) hK d_M_byteOf_1 (by decide) ?_
  refine r_if_icmpge (tgt := 9) hK d_M_byteOf_2 (by decide) h (fun h => ?_) (fun h => ?_)
  · refine r_iload_n hK d_M_byteOf_9 rfl 0 rfl ?_
    refine r_bipush (v := 8) hK d_M_byteOf_10 (by decide) ?_
    refine r_if_icmpge (tgt := 19) hK d_M_byteOf_12 (by decide) h (fun h => ?_) (fun h => ?_)
    · refine r_iload_n hK d_M_byteOf_19 rfl 0 rfl ?_
      refine r_bipush (v := 12) hK d_M_byteOf_20 (by decide) ?_
      refine r_if_icmpge (tgt := 29) hK d_M_byteOf_22 (by decide) h (fun h => ?_) (fun h => ?_)
      · refine r_iload_n hK d_M_byteOf_29 rfl 0 rfl ?_
        refine r_bipush (v := 16) hK d_M_byteOf_30 (by decide) ?_
        refine r_if_icmpge (tgt := 40) hK d_M_byteOf_32 (by decide) h (fun h => ?_) (fun h => ?_)
        · refine r_iload hK d_M_byteOf_40 5 rfl ?_
          exact r_sub [0] rfl (t_M_byteOf_42 hK hN hD _ _ _ h)
        · refine r_iload hK d_M_byteOf_35 4 rfl ?_
          refine r_goto (tgt := 42) hK d_M_byteOf_37 (by decide) ?_
          exact r_sub [0] rfl (t_M_byteOf_42 hK hN hD _ _ _ h)
      · refine r_iload_n hK d_M_byteOf_25 rfl 3 rfl ?_
        refine r_goto (tgt := 42) hK d_M_byteOf_26 (by decide) ?_
        exact r_sub [0] rfl (t_M_byteOf_42 hK hN hD _ _ _ h)
    · refine r_iload_n hK d_M_byteOf_15 rfl 2 rfl ?_
      refine r_goto (tgt := 42) hK d_M_byteOf_16 (by decide) ?_
      exact r_sub [0] rfl (t_M_byteOf_42 hK hN hD _ _ _ h)
  · refine r_iload_n hK d_M_byteOf_5 rfl 1 rfl ?_
    refine r_goto (tgt := 42) hK d_M_byteOf_6 (by decide) ?_
    exact r_sub [0] rfl (t_M_byteOf_42 hK hN hD _ _ _ h)
theorem c_M_byteOf (l : Launch) (G : g_G) (x0 : Int32) (x1 : Int32) (x2 : Int32) (x3 : Int32) (x4 : Int32) (x5 : Int32) (u : g_St) (o : (Int32 × g_St)) (h : f_M_byteOf x0 x1 x2 x3 x4 x5 u = some o) : g_Con l G y_M_byteOf b_M_byteOf 7 (Option.some Jvm.ClassFile.FieldType.int) 1 [g_i x0, g_i x1, g_i x2, g_i x3, g_i x4, g_i x5] u (g_jI o) :=
  g_Con.of rfl rfl (by decide +kernel) (Nat.le_of_ble_eq_true rfl) (fun K hK hN hD hX => t_M_byteOf_0 hK hN hD _ _ _ _ _ _ _ h)
def f_M_text_110 : Nat → Option Nat → Int32 → Int32 → Int32 → Int32 → Int32 → Int32 → g_St → Option (Int32 × g_St)
  | 0, _, _, _, _, _, _, _, _ => none
  | n + 1, r0, x1, x2, x3, x4, x5, x8, s0 =>
    if 20 ≤ x8 then
      g_rZ 1 (some (1, s0))
    else
      g_c (f_M_byteOf x8 x1 x2 x3 x4 x5 s0) fun i1 s2 =>
      if i1 = 0 then
        f_M_text_110 n r0 x1 x2 x3 x4 x5 (x8 + 1) s2
      else
        g_gR s2 385 r0 fun p3 =>
        g_gI s2 321 r0 fun i4 =>
        g_sI s2 p3 i4 i1 fun s5 =>
        g_gI s5 321 r0 fun i6 =>
        g_pI s5 321 r0 (i6 + 1) fun s7 =>
        f_M_text_110 n r0 x1 x2 x3 x4 x5 (x8 + 1) s7
def f_M_text_47 (k14 : Option Nat → Int32 → Int32 → Int32 → Int32 → Int32 → Int32 → Int32 → Int32 → g_St → Option (Int32 × g_St)) (r0 : Option Nat) (x1 : Int32) (x2 : Int32) (x3 : Int32) (x4 : Int32) (x5 : Int32) (x7 : Int32) (x8 : Int32) (x9 : Int32) (x0s : Int32) (x1s : Int32) (s0 : g_St) : Option (Int32 × g_St) :=
  if x7 = 0 then
    k14 r0 x1 x2 x3 x4 x5 (x0s + x1s) 0 (x8 + 1) s0
  else
    if x9 = 0 then
      k14 r0 x1 x2 x3 x4 x5 (x0s + x1s) 1 (x8 + 1) s0
    else
      if x9 ≤ 31 then
        k14 r0 x1 x2 x3 x4 x5 (x0s + x1s) 0 (x8 + 1) s0
      else
        if 127 ≤ x9 then
          k14 r0 x1 x2 x3 x4 x5 (x0s + x1s) 0 (x8 + 1) s0
        else
          k14 r0 x1 x2 x3 x4 x5 (x0s + x1s) 1 (x8 + 1) s0
def f_M_text_14 : Nat → Option Nat → Int32 → Int32 → Int32 → Int32 → Int32 → Int32 → Int32 → Int32 → g_St → Option (Int32 × g_St)
  | 0, _, _, _, _, _, _, _, _, _, _ => none
  | n + 1, r0, x1, x2, x3, x4, x5, x6, x7, x8, s0 =>
    if 20 ≤ x8 then
      if x7 = 0 then
        g_rZ 0 (some (0, s0))
      else
        g_gI s0 321 r0 fun i1 =>
        if (i1 + x6) ≤ 400 then
          f_M_text_110 200000 r0 x1 x2 x3 x4 x5 0 s0
        else
          g_rZ 0 (some (0, s0))
    else
      g_c (f_M_byteOf x8 x1 x2 x3 x4 x5 s0) fun i2 s3 =>
      if i2 = 0 then
        f_M_text_47 (f_M_text_14 n) r0 x1 x2 x3 x4 x5 x7 x8 i2 x6 0 s3
      else
        f_M_text_47 (f_M_text_14 n) r0 x1 x2 x3 x4 x5 x7 x8 i2 x6 1 s3
def f_M_text (r0 : Option Nat) (x1 : Int32) (x2 : Int32) (x3 : Int32) (x4 : Int32) (x5 : Int32) (s0 : g_St) : Option (Int32 × g_St) :=
  g_pI s0 1 r0 0 fun s1 =>
  f_M_text_14 200000 r0 x1 x2 x3 x4 x5 0 1 0 s1
set_option maxHeartbeats 4000000 in
set_option maxRecDepth 100000 in
theorem t_M_text_110 {K : g_C} {o : (Int32 × g_St)} (hK : g_OK K b_M_text "FixpointEngineModel" "text" (Option.some Jvm.ClassFile.FieldType.boolean)) (hN : g_nL K = 10) (hD : g_Kd K = 2) : ∀ (n : Nat) (r0 : Option Nat) (x1 : Int32) (x2 : Int32) (x3 : Int32) (x4 : Int32) (x5 : Int32) (x8 : Int32) (s0 : g_St), f_M_text_110 n r0 x1 x2 x3 x4 x5 x8 s0 = some o → g_W K s0 [(0, g_r 1 r0), (1, g_i x1), (2, g_i x2), (3, g_i x3), (4, g_i x4), (5, g_i x5), (8, g_i x8)] [] 110 (g_jI o) := by
  intro n
  induction n with
  | zero =>
    intro r0 x1 x2 x3 x4 x5 x8 s0 h
    cases h
  | succ n ih =>
    intro r0 x1 x2 x3 x4 x5 x8 s0 h
    unfold f_M_text_110 at h
    refine r_iload hK d_M_text_110 6 rfl ?_
    refine r_bipush (v := 20) hK d_M_text_112 (by decide) ?_
    refine r_if_icmpge (tgt := 166) hK d_M_text_114 (by decide) h (fun h => ?_) (fun h => ?_)
    · refine r_iconst (v := 1) hK d_M_text_166 (by decide) ?_
      exact r_zreturn hK d_M_text_167 h
    · refine r_iload hK d_M_text_117 6 rfl ?_
      refine r_iload_n hK d_M_text_119 rfl 1 rfl ?_
      refine r_iload_n hK d_M_text_120 rfl 2 rfl ?_
      refine r_iload_n hK d_M_text_121 rfl 3 rfl ?_
      refine r_iload hK d_M_text_122 4 rfl ?_
      refine r_iload hK d_M_text_124 5 rfl ?_
      refine r_Si (avL := [g_i x8, g_i x1, g_i x2, g_i x3, g_i x4, g_i x5]) (st := []) hK w8_122 w8_121 w8_123 w1_6 (by decide) pl_M_byteOf (by rw [hD]; decide) (Nat.le_of_ble_eq_true rfl) rfl d_M_text_126 (fun o9 h9 => c_M_byteOf _ _ _ _ _ _ _ _ _ o9 h9) h (fun i1 s2 h => ?_)
      refine r_istore (ls1 := [(9, g_i i1), (0, g_r 1 r0), (1, g_i x1), (2, g_i x2), (3, g_i x3), (4, g_i x4), (5, g_i x5), (8, g_i x8)]) hK d_M_text_129 (by rw [hN]; decide) rfl ?_
      refine r_iload hK d_M_text_131 0 rfl ?_
      refine r_ifne (tgt := 139) hK d_M_text_133 (by decide) h (fun h => ?_) (fun h => ?_)
      · refine r_aload_n hK d_M_text_139 rfl 1 rfl ?_
        refine r_gR hK fd_M_6 w7_38 d_M_text_140 h (fun p3 h => ?_)
        refine r_aload_n hK d_M_text_143 rfl 1 rfl ?_
        refine r_gI hK fd_M_5 w7_37 d_M_text_144 h (fun i4 h => ?_)
        refine r_iload hK d_M_text_147 0 rfl ?_
        refine r_iastore hK ar_20 rfl d_M_text_149 h (fun s5 h => ?_)
        refine r_aload_n hK d_M_text_150 rfl 1 rfl ?_
        refine r_dup hK d_M_text_151 rfl ?_
        refine r_gI hK fd_M_5 w7_37 d_M_text_152 h (fun i6 h => ?_)
        refine r_iconst (v := 1) hK d_M_text_155 (by decide) ?_
        refine r_iadd hK d_M_text_156 ?_
        refine r_pI hK fd_M_5 rfl w7_37 d_M_text_157 h (fun s7 h => ?_)
        refine r_iinc (ls1 := [(8, g_i (x8 + 1)), (9, g_i i1), (0, g_r 1 r0), (1, g_i x1), (2, g_i x2), (3, g_i x3), (4, g_i x4), (5, g_i x5)]) hK d_M_text_160 7 rfl rfl (by rw [hN]; decide) rfl ?_
        refine r_goto (tgt := 110) hK d_M_text_163 (by decide) ?_
        exact r_sub [2, 3, 4, 5, 6, 7, 0] rfl (ih _ _ _ _ _ _ _ _ h)
      · refine r_goto (tgt := 160) hK d_M_text_136 (by decide) ?_
        refine r_iinc (ls1 := [(8, g_i (x8 + 1)), (9, g_i i1), (0, g_r 1 r0), (1, g_i x1), (2, g_i x2), (3, g_i x3), (4, g_i x4), (5, g_i x5)]) hK d_M_text_160 7 rfl rfl (by rw [hN]; decide) rfl ?_
        refine r_goto (tgt := 110) hK d_M_text_163 (by decide) ?_
        exact r_sub [2, 3, 4, 5, 6, 7, 0] rfl (ih _ _ _ _ _ _ _ _ h)
set_option maxHeartbeats 4000000 in
set_option maxRecDepth 100000 in
theorem t_M_text_47 {K : g_C} {o : (Int32 × g_St)} (hK : g_OK K b_M_text "FixpointEngineModel" "text" (Option.some Jvm.ClassFile.FieldType.boolean)) (hN : g_nL K = 10) (hD : g_Kd K = 2) {k14 : Option Nat → Int32 → Int32 → Int32 → Int32 → Int32 → Int32 → Int32 → Int32 → g_St → Option (Int32 × g_St)} (hk14 : ∀ (r0 : Option Nat) (x1 : Int32) (x2 : Int32) (x3 : Int32) (x4 : Int32) (x5 : Int32) (x6 : Int32) (x7 : Int32) (x8 : Int32) (s0 : g_St), k14 r0 x1 x2 x3 x4 x5 x6 x7 x8 s0 = some o → g_W K s0 [(0, g_r 1 r0), (1, g_i x1), (2, g_i x2), (3, g_i x3), (4, g_i x4), (5, g_i x5), (6, g_i x6), (7, g_i x7), (8, g_i x8)] [] 14 (g_jI o)) : ∀ (r0 : Option Nat) (x1 : Int32) (x2 : Int32) (x3 : Int32) (x4 : Int32) (x5 : Int32) (x7 : Int32) (x8 : Int32) (x9 : Int32) (x0s : Int32) (x1s : Int32) (s0 : g_St), f_M_text_47 k14 r0 x1 x2 x3 x4 x5 x7 x8 x9 x0s x1s s0 = some o → g_W K s0 [(0, g_r 1 r0), (1, g_i x1), (2, g_i x2), (3, g_i x3), (4, g_i x4), (5, g_i x5), (7, g_i x7), (8, g_i x8), (9, g_i x9)] [g_i x1s, g_i x0s] 47 (g_jI o) := by
  intro r0 x1 x2 x3 x4 x5 x7 x8 x9 x0s x1s s0 h
  unfold f_M_text_47 at h
  refine r_iadd hK d_M_text_47 ?_
  refine r_istore (ls1 := [(6, g_i (x0s + x1s)), (0, g_r 1 r0), (1, g_i x1), (2, g_i x2), (3, g_i x3), (4, g_i x4), (5, g_i x5), (7, g_i x7), (8, g_i x8), (9, g_i x9)]) hK d_M_text_48 (by rw [hN]; decide) rfl ?_
  refine r_iload hK d_M_text_50 7 rfl ?_
  refine r_ifeq (tgt := 78) hK d_M_text_52 (by decide) h (fun h => ?_) (fun h => ?_)
  · refine r_iconst (v := 0) hK d_M_text_78 (by decide) ?_
    refine r_istore (ls1 := [(7, g_i 0), (6, g_i (x0s + x1s)), (0, g_r 1 r0), (1, g_i x1), (2, g_i x2), (3, g_i x3), (4, g_i x4), (5, g_i x5), (8, g_i x8), (9, g_i x9)]) hK d_M_text_79 (by rw [hN]; decide) rfl ?_
    refine r_iinc (ls1 := [(8, g_i (x8 + 1)), (7, g_i 0), (6, g_i (x0s + x1s)), (0, g_r 1 r0), (1, g_i x1), (2, g_i x2), (3, g_i x3), (4, g_i x4), (5, g_i x5), (9, g_i x9)]) hK d_M_text_81 8 rfl rfl (by rw [hN]; decide) rfl ?_
    refine r_goto (tgt := 14) hK d_M_text_84 (by decide) ?_
    exact r_sub [3, 4, 5, 6, 7, 8, 2, 1, 0] rfl (hk14 _ _ _ _ _ _ _ _ _ _ h)
  · refine r_iload hK d_M_text_55 9 rfl ?_
    refine r_ifeq (tgt := 74) hK d_M_text_57 (by decide) h (fun h => ?_) (fun h => ?_)
    · refine r_iconst (v := 1) hK d_M_text_74 (by decide) ?_
      refine r_goto (tgt := 79) hK d_M_text_75 (by decide) ?_
      refine r_istore (ls1 := [(7, g_i 1), (6, g_i (x0s + x1s)), (0, g_r 1 r0), (1, g_i x1), (2, g_i x2), (3, g_i x3), (4, g_i x4), (5, g_i x5), (8, g_i x8), (9, g_i x9)]) hK d_M_text_79 (by rw [hN]; decide) rfl ?_
      refine r_iinc (ls1 := [(8, g_i (x8 + 1)), (7, g_i 1), (6, g_i (x0s + x1s)), (0, g_r 1 r0), (1, g_i x1), (2, g_i x2), (3, g_i x3), (4, g_i x4), (5, g_i x5), (9, g_i x9)]) hK d_M_text_81 8 rfl rfl (by rw [hN]; decide) rfl ?_
      refine r_goto (tgt := 14) hK d_M_text_84 (by decide) ?_
      exact r_sub [3, 4, 5, 6, 7, 8, 2, 1, 0] rfl (hk14 _ _ _ _ _ _ _ _ _ _ h)
    · refine r_iload hK d_M_text_60 9 rfl ?_
      refine r_bipush (v := 31) hK d_M_text_62 (by decide) ?_
      refine r_if_icmple (tgt := 78) hK d_M_text_64 (by decide) h (fun h => ?_) (fun h => ?_)
      · refine r_iconst (v := 0) hK d_M_text_78 (by decide) ?_
        refine r_istore (ls1 := [(7, g_i 0), (6, g_i (x0s + x1s)), (0, g_r 1 r0), (1, g_i x1), (2, g_i x2), (3, g_i x3), (4, g_i x4), (5, g_i x5), (8, g_i x8), (9, g_i x9)]) hK d_M_text_79 (by rw [hN]; decide) rfl ?_
        refine r_iinc (ls1 := [(8, g_i (x8 + 1)), (7, g_i 0), (6, g_i (x0s + x1s)), (0, g_r 1 r0), (1, g_i x1), (2, g_i x2), (3, g_i x3), (4, g_i x4), (5, g_i x5), (9, g_i x9)]) hK d_M_text_81 8 rfl rfl (by rw [hN]; decide) rfl ?_
        refine r_goto (tgt := 14) hK d_M_text_84 (by decide) ?_
        exact r_sub [3, 4, 5, 6, 7, 8, 2, 1, 0] rfl (hk14 _ _ _ _ _ _ _ _ _ _ h)
      · refine r_iload hK d_M_text_67 9 rfl ?_
        refine r_bipush (v := 127) hK d_M_text_69 (by decide) ?_
        refine r_if_icmpge (tgt := 78) hK d_M_text_71 (by decide) h (fun h => ?_) (fun h => ?_)
        · refine r_iconst (v := 0) hK d_M_text_78 (by decide) ?_
          refine r_istore (ls1 := [(7, g_i 0), (6, g_i (x0s + x1s)), (0, g_r 1 r0), (1, g_i x1), (2, g_i x2), (3, g_i x3), (4, g_i x4), (5, g_i x5), (8, g_i x8), (9, g_i x9)]) hK d_M_text_79 (by rw [hN]; decide) rfl ?_
          refine r_iinc (ls1 := [(8, g_i (x8 + 1)), (7, g_i 0), (6, g_i (x0s + x1s)), (0, g_r 1 r0), (1, g_i x1), (2, g_i x2), (3, g_i x3), (4, g_i x4), (5, g_i x5), (9, g_i x9)]) hK d_M_text_81 8 rfl rfl (by rw [hN]; decide) rfl ?_
          refine r_goto (tgt := 14) hK d_M_text_84 (by decide) ?_
          exact r_sub [3, 4, 5, 6, 7, 8, 2, 1, 0] rfl (hk14 _ _ _ _ _ _ _ _ _ _ h)
        · refine r_iconst (v := 1) hK d_M_text_74 (by decide) ?_
          refine r_goto (tgt := 79) hK d_M_text_75 (by decide) ?_
          refine r_istore (ls1 := [(7, g_i 1), (6, g_i (x0s + x1s)), (0, g_r 1 r0), (1, g_i x1), (2, g_i x2), (3, g_i x3), (4, g_i x4), (5, g_i x5), (8, g_i x8), (9, g_i x9)]) hK d_M_text_79 (by rw [hN]; decide) rfl ?_
          refine r_iinc (ls1 := [(8, g_i (x8 + 1)), (7, g_i 1), (6, g_i (x0s + x1s)), (0, g_r 1 r0), (1, g_i x1), (2, g_i x2), (3, g_i x3), (4, g_i x4), (5, g_i x5), (9, g_i x9)]) hK d_M_text_81 8 rfl rfl (by rw [hN]; decide) rfl ?_
          refine r_goto (tgt := 14) hK d_M_text_84 (by decide) ?_
          exact r_sub [3, 4, 5, 6, 7, 8, 2, 1, 0] rfl (hk14 _ _ _ _ _ _ _ _ _ _ h)
set_option maxHeartbeats 4000000 in
set_option maxRecDepth 100000 in
theorem t_M_text_14 {K : g_C} {o : (Int32 × g_St)} (hK : g_OK K b_M_text "FixpointEngineModel" "text" (Option.some Jvm.ClassFile.FieldType.boolean)) (hN : g_nL K = 10) (hD : g_Kd K = 2) : ∀ (n : Nat) (r0 : Option Nat) (x1 : Int32) (x2 : Int32) (x3 : Int32) (x4 : Int32) (x5 : Int32) (x6 : Int32) (x7 : Int32) (x8 : Int32) (s0 : g_St), f_M_text_14 n r0 x1 x2 x3 x4 x5 x6 x7 x8 s0 = some o → g_W K s0 [(0, g_r 1 r0), (1, g_i x1), (2, g_i x2), (3, g_i x3), (4, g_i x4), (5, g_i x5), (6, g_i x6), (7, g_i x7), (8, g_i x8)] [] 14 (g_jI o) := by
  intro n
  induction n with
  | zero =>
    intro r0 x1 x2 x3 x4 x5 x6 x7 x8 s0 h
    cases h
  | succ n ih =>
    intro r0 x1 x2 x3 x4 x5 x6 x7 x8 s0 h
    unfold f_M_text_14 at h
    refine r_iload hK d_M_text_14 8 rfl ?_
    refine r_bipush (v := 20) hK d_M_text_16 (by decide) ?_
    refine r_if_icmpge (tgt := 87) hK d_M_text_18 (by decide) h (fun h => ?_) (fun h => ?_)
    · refine r_iload hK d_M_text_87 7 rfl ?_
      refine r_ifeq (tgt := 105) hK d_M_text_89 (by decide) h (fun h => ?_) (fun h => ?_)
      · refine r_iconst (v := 0) hK d_M_text_105 (by decide) ?_
        exact r_zreturn hK d_M_text_106 h
      · refine r_aload_n hK d_M_text_92 rfl 0 rfl ?_
        refine r_gI hK fd_M_5 w7_37 d_M_text_93 h (fun i1 h => ?_)
        refine r_iload hK d_M_text_96 6 rfl ?_
        refine r_iadd hK d_M_text_98 ?_
        refine r_sipush (v := 400) hK d_M_text_99 (by decide) ?_
        refine r_if_icmple (tgt := 107) hK d_M_text_102 (by decide) h (fun h => ?_) (fun h => ?_)
        · refine r_iconst (v := 0) hK d_M_text_107 (by decide) ?_
          refine r_istore (ls1 := [(8, g_i 0), (0, g_r 1 r0), (1, g_i x1), (2, g_i x2), (3, g_i x3), (4, g_i x4), (5, g_i x5), (6, g_i x6), (7, g_i x7)]) hK d_M_text_108 (by rw [hN]; decide) rfl ?_
          exact r_sub [1, 2, 3, 4, 5, 6, 0] rfl (t_M_text_110 hK hN hD _ _ _ _ _ _ _ _ _ h)
        · refine r_iconst (v := 0) hK d_M_text_105 (by decide) ?_
          exact r_zreturn hK d_M_text_106 h
    · refine r_iload hK d_M_text_21 8 rfl ?_
      refine r_iload_n hK d_M_text_23 rfl 1 rfl ?_
      refine r_iload_n hK d_M_text_24 rfl 2 rfl ?_
      refine r_iload_n hK d_M_text_25 rfl 3 rfl ?_
      refine r_iload hK d_M_text_26 4 rfl ?_
      refine r_iload hK d_M_text_28 5 rfl ?_
      refine r_Si (avL := [g_i x8, g_i x1, g_i x2, g_i x3, g_i x4, g_i x5]) (st := []) hK w8_122 w8_121 w8_123 w1_6 (by decide) pl_M_byteOf (by rw [hD]; decide) (Nat.le_of_ble_eq_true rfl) rfl d_M_text_30 (fun o9 h9 => c_M_byteOf _ _ _ _ _ _ _ _ _ o9 h9) h (fun i2 s3 h => ?_)
      refine r_istore (ls1 := [(9, g_i i2), (0, g_r 1 r0), (1, g_i x1), (2, g_i x2), (3, g_i x3), (4, g_i x4), (5, g_i x5), (6, g_i x6), (7, g_i x7), (8, g_i x8)]) hK d_M_text_33 (by rw [hN]; decide) rfl ?_
      refine r_iload hK d_M_text_35 7 rfl ?_
      refine r_iload hK d_M_text_37 0 rfl ?_
      refine r_ifne (tgt := 46) hK d_M_text_39 (by decide) h (fun h => ?_) (fun h => ?_)
      · refine r_iconst (v := 1) hK d_M_text_46 (by decide) ?_
        exact r_sub [1, 2, 3, 4, 5, 6, 8, 9, 0] rfl (t_M_text_47 hK hN hD ih _ _ _ _ _ _ _ _ _ _ _ _ h)
      · refine r_iconst (v := 0) hK d_M_text_42 (by decide) ?_
        refine r_goto (tgt := 47) hK d_M_text_43 (by decide) ?_
        exact r_sub [1, 2, 3, 4, 5, 6, 8, 9, 0] rfl (t_M_text_47 hK hN hD ih _ _ _ _ _ _ _ _ _ _ _ _ h)
set_option maxHeartbeats 4000000 in
set_option maxRecDepth 100000 in
theorem t_M_text_0 {K : g_C} {o : (Int32 × g_St)} (hK : g_OK K b_M_text "FixpointEngineModel" "text" (Option.some Jvm.ClassFile.FieldType.boolean)) (hN : g_nL K = 10) (hD : g_Kd K = 2) : ∀ (r0 : Option Nat) (x1 : Int32) (x2 : Int32) (x3 : Int32) (x4 : Int32) (x5 : Int32) (s0 : g_St), f_M_text r0 x1 x2 x3 x4 x5 s0 = some o → g_W K s0 [(0, g_r 1 r0), (1, g_i x1), (2, g_i x2), (3, g_i x3), (4, g_i x4), (5, g_i x5)] [] 0 (g_jI o) := by
  intro r0 x1 x2 x3 x4 x5 s0 h
  unfold f_M_text at h
  refine r_aload_n hK d_M_text_0 rfl 0 rfl ?_
  refine r_iconst (v := 0) hK d_M_text_1 (by decide) ?_
  refine r_pI hK fd_M_0 rfl w7_32 d_M_text_2 h (fun s1 h => ?_)
  refine r_iconst (v := 0) hK d_M_text_5 (by decide) ?_
  refine r_istore (ls1 := [(6, g_i 0), (0, g_r 1 r0), (1, g_i x1), (2, g_i x2), (3, g_i x3), (4, g_i x4), (5, g_i x5)]) hK d_M_text_6 (by rw [hN]; decide) rfl ?_
  refine r_iconst (v := 1) hK d_M_text_8 (by decide) ?_
  refine r_istore (ls1 := [(7, g_i 1), (6, g_i 0), (0, g_r 1 r0), (1, g_i x1), (2, g_i x2), (3, g_i x3), (4, g_i x4), (5, g_i x5)]) hK d_M_text_9 (by rw [hN]; decide) rfl ?_
  refine r_iconst (v := 0) hK d_M_text_11 (by decide) ?_
  refine r_istore (ls1 := [(8, g_i 0), (7, g_i 1), (6, g_i 0), (0, g_r 1 r0), (1, g_i x1), (2, g_i x2), (3, g_i x3), (4, g_i x4), (5, g_i x5)]) hK d_M_text_12 (by rw [hN]; decide) rfl ?_
  exact r_sub [3, 4, 5, 6, 7, 8, 2, 1, 0] rfl (t_M_text_14 hK hN hD _ _ _ _ _ _ _ _ _ _ _ h)
theorem c_M_text (l : Launch) (G : g_G) (r0 : Option Nat) (x1 : Int32) (x2 : Int32) (x3 : Int32) (x4 : Int32) (x5 : Int32) (u : g_St) (o : (Int32 × g_St)) (h : f_M_text r0 x1 x2 x3 x4 x5 u = some o) : g_Con l G y_M_text b_M_text 10 (Option.some Jvm.ClassFile.FieldType.boolean) 2 [g_r 1 r0, g_i x1, g_i x2, g_i x3, g_i x4, g_i x5] u (g_jI o) :=
  g_Con.of rfl rfl (by decide +kernel) (Nat.le_of_ble_eq_true rfl) (fun K hK hN hD hX => t_M_text_0 hK hN hD _ _ _ _ _ _ _ h)
def f_M_isCapital (x0 : Int32) (s0 : g_St) : Option (Int32 × g_St) :=
  if x0 ≤ 64 then
    g_rZ 0 (some (0, s0))
  else
    if 91 ≤ x0 then
      g_rZ 0 (some (0, s0))
    else
      g_rZ 1 (some (1, s0))
set_option maxHeartbeats 4000000 in
set_option maxRecDepth 100000 in
theorem t_M_isCapital_0 {K : g_C} {o : (Int32 × g_St)} (hK : g_OK K b_M_isCapital "FixpointEngineModel" "isCapital" (Option.some Jvm.ClassFile.FieldType.boolean)) (hN : g_nL K = 1) (hD : g_Kd K = 1) : ∀ (x0 : Int32) (s0 : g_St), f_M_isCapital x0 s0 = some o → g_W K s0 [(0, g_i x0)] [] 0 (g_jI o) := by
  intro x0 s0 h
  unfold f_M_isCapital at h
  refine r_iload_n hK d_M_isCapital_0 rfl 0 rfl ?_
  refine r_bipush (v := 64) hK d_M_isCapital_1 (by decide) ?_
  refine r_if_icmple (tgt := 16) hK d_M_isCapital_3 (by decide) h (fun h => ?_) (fun h => ?_)
  · refine r_iconst (v := 0) hK d_M_isCapital_16 (by decide) ?_
    exact r_zreturn hK d_M_isCapital_17 h
  · refine r_iload_n hK d_M_isCapital_6 rfl 0 rfl ?_
    refine r_bipush (v := 91) hK d_M_isCapital_7 (by decide) ?_
    refine r_if_icmpge (tgt := 16) hK d_M_isCapital_9 (by decide) h (fun h => ?_) (fun h => ?_)
    · refine r_iconst (v := 0) hK d_M_isCapital_16 (by decide) ?_
      exact r_zreturn hK d_M_isCapital_17 h
    · refine r_iconst (v := 1) hK d_M_isCapital_12 (by decide) ?_
      refine r_goto (tgt := 17) hK d_M_isCapital_13 (by decide) ?_
      exact r_zreturn hK d_M_isCapital_17 h
theorem c_M_isCapital (l : Launch) (G : g_G) (x0 : Int32) (u : g_St) (o : (Int32 × g_St)) (h : f_M_isCapital x0 u = some o) : g_Con l G y_M_isCapital b_M_isCapital 1 (Option.some Jvm.ClassFile.FieldType.boolean) 1 [g_i x0] u (g_jI o) :=
  g_Con.of rfl rfl (by decide +kernel) (Nat.le_of_ble_eq_true rfl) (fun K hK hN hD hX => t_M_isCapital_0 hK hN hD _ _ h)
def f_M_isSmall (x0 : Int32) (s0 : g_St) : Option (Int32 × g_St) :=
  if x0 ≤ 96 then
    g_rZ 0 (some (0, s0))
  else
    if 123 ≤ x0 then
      g_rZ 0 (some (0, s0))
    else
      g_rZ 1 (some (1, s0))
set_option maxHeartbeats 4000000 in
set_option maxRecDepth 100000 in
theorem t_M_isSmall_0 {K : g_C} {o : (Int32 × g_St)} (hK : g_OK K b_M_isSmall "FixpointEngineModel" "isSmall" (Option.some Jvm.ClassFile.FieldType.boolean)) (hN : g_nL K = 1) (hD : g_Kd K = 1) : ∀ (x0 : Int32) (s0 : g_St), f_M_isSmall x0 s0 = some o → g_W K s0 [(0, g_i x0)] [] 0 (g_jI o) := by
  intro x0 s0 h
  unfold f_M_isSmall at h
  refine r_iload_n hK d_M_isSmall_0 rfl 0 rfl ?_
  refine r_bipush (v := 96) hK d_M_isSmall_1 (by decide) ?_
  refine r_if_icmple (tgt := 16) hK d_M_isSmall_3 (by decide) h (fun h => ?_) (fun h => ?_)
  · refine r_iconst (v := 0) hK d_M_isSmall_16 (by decide) ?_
    exact r_zreturn hK d_M_isSmall_17 h
  · refine r_iload_n hK d_M_isSmall_6 rfl 0 rfl ?_
    refine r_bipush (v := 123) hK d_M_isSmall_7 (by decide) ?_
    refine r_if_icmpge (tgt := 16) hK d_M_isSmall_9 (by decide) h (fun h => ?_) (fun h => ?_)
    · refine r_iconst (v := 0) hK d_M_isSmall_16 (by decide) ?_
      exact r_zreturn hK d_M_isSmall_17 h
    · refine r_iconst (v := 1) hK d_M_isSmall_12 (by decide) ?_
      refine r_goto (tgt := 17) hK d_M_isSmall_13 (by decide) ?_
      exact r_zreturn hK d_M_isSmall_17 h
theorem c_M_isSmall (l : Launch) (G : g_G) (x0 : Int32) (u : g_St) (o : (Int32 × g_St)) (h : f_M_isSmall x0 u = some o) : g_Con l G y_M_isSmall b_M_isSmall 1 (Option.some Jvm.ClassFile.FieldType.boolean) 1 [g_i x0] u (g_jI o) :=
  g_Con.of rfl rfl (by decide +kernel) (Nat.le_of_ble_eq_true rfl) (fun K hK hN hD hX => t_M_isSmall_0 hK hN hD _ _ h)
def f_M_isDigit (x0 : Int32) (s0 : g_St) : Option (Int32 × g_St) :=
  if x0 ≤ 47 then
    g_rZ 0 (some (0, s0))
  else
    if 58 ≤ x0 then
      g_rZ 0 (some (0, s0))
    else
      g_rZ 1 (some (1, s0))
set_option maxHeartbeats 4000000 in
set_option maxRecDepth 100000 in
theorem t_M_isDigit_0 {K : g_C} {o : (Int32 × g_St)} (hK : g_OK K b_M_isDigit "FixpointEngineModel" "isDigit" (Option.some Jvm.ClassFile.FieldType.boolean)) (hN : g_nL K = 1) (hD : g_Kd K = 1) : ∀ (x0 : Int32) (s0 : g_St), f_M_isDigit x0 s0 = some o → g_W K s0 [(0, g_i x0)] [] 0 (g_jI o) := by
  intro x0 s0 h
  unfold f_M_isDigit at h
  refine r_iload_n hK d_M_isDigit_0 rfl 0 rfl ?_
  refine r_bipush (v := 47) hK d_M_isDigit_1 (by decide) ?_
  refine r_if_icmple (tgt := 16) hK d_M_isDigit_3 (by decide) h (fun h => ?_) (fun h => ?_)
  · refine r_iconst (v := 0) hK d_M_isDigit_16 (by decide) ?_
    exact r_zreturn hK d_M_isDigit_17 h
  · refine r_iload_n hK d_M_isDigit_6 rfl 0 rfl ?_
    refine r_bipush (v := 58) hK d_M_isDigit_7 (by decide) ?_
    refine r_if_icmpge (tgt := 16) hK d_M_isDigit_9 (by decide) h (fun h => ?_) (fun h => ?_)
    · refine r_iconst (v := 0) hK d_M_isDigit_16 (by decide) ?_
      exact r_zreturn hK d_M_isDigit_17 h
    · refine r_iconst (v := 1) hK d_M_isDigit_12 (by decide) ?_
      refine r_goto (tgt := 17) hK d_M_isDigit_13 (by decide) ?_
      exact r_zreturn hK d_M_isDigit_17 h
theorem c_M_isDigit (l : Launch) (G : g_G) (x0 : Int32) (u : g_St) (o : (Int32 × g_St)) (h : f_M_isDigit x0 u = some o) : g_Con l G y_M_isDigit b_M_isDigit 1 (Option.some Jvm.ClassFile.FieldType.boolean) 1 [g_i x0] u (g_jI o) :=
  g_Con.of rfl rfl (by decide +kernel) (Nat.le_of_ble_eq_true rfl) (fun K hK hN hD hX => t_M_isDigit_0 hK hN hD _ _ h)
def f_M_letter (r0 : Option Nat) (x1 : Int32) (s0 : g_St) : Option (Int32 × g_St) :=
  g_gI s0 321 r0 fun i1 =>
  if i1 ≤ x1 then
    some (0, s0)
  else
    g_gR s0 385 r0 fun p2 =>
    g_aI s0 p2 x1 fun i3 =>
    some (i3, s0)
set_option maxHeartbeats 4000000 in
set_option maxRecDepth 100000 in
theorem t_M_letter_0 {K : g_C} {o : (Int32 × g_St)} (hK : g_OK K b_M_letter "FixpointEngineModel" "letter" (Option.some Jvm.ClassFile.FieldType.int)) (hN : g_nL K = 2) (hD : g_Kd K = 1) : ∀ (r0 : Option Nat) (x1 : Int32) (s0 : g_St), f_M_letter r0 x1 s0 = some o → g_W K s0 [(0, g_r 1 r0), (1, g_i x1)] [] 0 (g_jI o) := by
  intro r0 x1 s0 h
  unfold f_M_letter at h
  refine r_iload_n hK d_M_letter_0 rfl 1 rfl ?_
  refine r_aload_n hK d_M_letter_1 rfl 0 rfl ?_
  refine r_gI hK fd_M_5 w7_37 d_M_letter_2 h (fun i1 h => ?_)
  refine r_if_icmpge (tgt := 17) hK d_M_letter_5 (by decide) h (fun h => ?_) (fun h => ?_)
  · refine r_iconst (v := 0) hK d_M_letter_17 (by decide) ?_
    exact r_ireturn hK d_M_letter_18 h
  · refine r_aload_n hK d_M_letter_8 rfl 0 rfl ?_
    refine r_gR hK fd_M_6 w7_38 d_M_letter_9 h (fun p2 h => ?_)
    refine r_iload_n hK d_M_letter_12 rfl 1 rfl ?_
    refine r_iaload hK ar_20 rfl d_M_letter_13 h (fun i3 h => ?_)
    refine r_goto (tgt := 18) hK d_M_letter_14 (by decide) ?_
    exact r_ireturn hK d_M_letter_18 h
theorem c_M_letter (l : Launch) (G : g_G) (r0 : Option Nat) (x1 : Int32) (u : g_St) (o : (Int32 × g_St)) (h : f_M_letter r0 x1 u = some o) : g_Con l G y_M_letter b_M_letter 2 (Option.some Jvm.ClassFile.FieldType.int) 1 [g_r 1 r0, g_i x1] u (g_jI o) :=
  g_Con.of rfl rfl (by decide +kernel) (Nat.le_of_ble_eq_true rfl) (fun K hK hN hD hX => t_M_letter_0 hK hN hD _ _ _ h)
def f_M_scanKeyword_52 : Nat → Option Nat → Int32 → Int32 → Int64 → Int32 → g_St → Option (Int32 × g_St)
  | 0, _, _, _, _, _, _ => none
  | n + 1, r0, x1, x2, y3, x5, s0 =>
    if 26 ≤ x5 then
      some (x2, s0)
    else
      g_gR s0 449 r0 fun p1 =>
      g_aL s0 p1 x5 fun j2 =>
      if j2 = y3 then
        if 10 ≤ (x2 - x1) then
          f_M_scanKeyword_52 n r0 x1 x2 y3 (x5 + 1) s0
        else
          g_gR s0 641 r0 fun p3 =>
          g_gI s0 513 r0 fun i4 =>
          g_sI s0 p3 i4 x5 fun s5 =>
          f_M_scanKeyword_52 n r0 x1 x2 y3 (x5 + 1) s5
      else
        f_M_scanKeyword_52 n r0 x1 x2 y3 (x5 + 1) s0
def f_M_scanKeyword_4 : Nat → Option Nat → Int32 → Int32 → Int64 → g_St → Option (Int32 × g_St)
  | 0, _, _, _, _, _ => none
  | n + 1, r0, x1, x2, y3, s0 =>
    g_c (g_nn r0 (f_M_letter r0 x2 s0)) fun i1 s2 =>
    g_c (f_M_isCapital i1 s2) fun i3 s4 =>
    if i3 = 0 then
      g_gR s4 641 r0 fun p5 =>
      g_gI s4 513 r0 fun i6 =>
      g_sI s4 p5 i6 0 fun s7 =>
      f_M_scanKeyword_52 200000 r0 x1 x2 y3 1 s7
    else
      if 10 ≤ (x2 - x1) then
        f_M_scanKeyword_4 n r0 x1 (x2 + 1) y3 s4
      else
        g_c (g_nn r0 (f_M_letter r0 x2 s4)) fun i8 s9 =>
        g_c (f_M_longer y3 i8 s9) fun j10 s11 =>
        f_M_scanKeyword_4 n r0 x1 (x2 + 1) j10 s11
def f_M_scanKeyword (r0 : Option Nat) (x1 : Int32) (s0 : g_St) : Option (Int32 × g_St) :=
  f_M_scanKeyword_4 200000 r0 x1 x1 0 s0
set_option maxHeartbeats 4000000 in
set_option maxRecDepth 100000 in
theorem t_M_scanKeyword_52 {K : g_C} {o : (Int32 × g_St)} (hK : g_OK K b_M_scanKeyword "FixpointEngineModel" "scanKeyword" (Option.some Jvm.ClassFile.FieldType.int)) (hN : g_nL K = 6) (hD : g_Kd K = 2) : ∀ (n : Nat) (r0 : Option Nat) (x1 : Int32) (x2 : Int32) (y3 : Int64) (x5 : Int32) (s0 : g_St), f_M_scanKeyword_52 n r0 x1 x2 y3 x5 s0 = some o → g_W K s0 [(0, g_r 1 r0), (1, g_i x1), (2, g_i x2), (3, g_l y3), (5, g_i x5)] [] 52 (g_jI o) := by
  intro n
  induction n with
  | zero =>
    intro r0 x1 x2 y3 x5 s0 h
    cases h
  | succ n ih =>
    intro r0 x1 x2 y3 x5 s0 h
    unfold f_M_scanKeyword_52 at h
    refine r_iload hK d_M_scanKeyword_52 4 rfl ?_
    refine r_bipush (v := 26) hK d_M_scanKeyword_54 (by decide) ?_
    refine r_if_icmpge (tgt := 96) hK d_M_scanKeyword_56 (by decide) h (fun h => ?_) (fun h => ?_)
    · refine r_iload_n hK d_M_scanKeyword_96 rfl 2 rfl ?_
      exact r_ireturn hK d_M_scanKeyword_97 h
    · refine r_aload_n hK d_M_scanKeyword_59 rfl 0 rfl ?_
      refine r_gR hK fd_M_7 w7_39 d_M_scanKeyword_60 h (fun p1 h => ?_)
      refine r_iload hK d_M_scanKeyword_63 4 rfl ?_
      refine r_laload hK ar_21 rfl d_M_scanKeyword_65 h (fun j2 h => ?_)
      refine r_lload_n hK d_M_scanKeyword_66 rfl 3 rfl ?_
      refine r_lifne (tgt := 90) hK d_M_scanKeyword_67 d_M_scanKeyword_68 (by decide) h (fun h => ?_) (fun h => ?_)
      · refine r_iinc (ls1 := [(5, g_i (x5 + 1)), (0, g_r 1 r0), (1, g_i x1), (2, g_i x2), (3, g_l y3)]) hK d_M_scanKeyword_90 4 rfl rfl (by rw [hN]; decide) rfl ?_
        refine r_goto (tgt := 52) hK d_M_scanKeyword_93 (by decide) ?_
        exact r_sub [1, 2, 3, 4, 0] rfl (ih _ _ _ _ _ _ h)
      · refine r_iload_n hK d_M_scanKeyword_71 rfl 2 rfl ?_
        refine r_iload_n hK d_M_scanKeyword_72 rfl 1 rfl ?_
        refine r_isub hK d_M_scanKeyword_73 ?_
        refine r_bipush (v := 10) hK d_M_scanKeyword_74 (by decide) ?_
        refine r_if_icmpge (tgt := 90) hK d_M_scanKeyword_76 (by decide) h (fun h => ?_) (fun h => ?_)
        · refine r_iinc (ls1 := [(5, g_i (x5 + 1)), (0, g_r 1 r0), (1, g_i x1), (2, g_i x2), (3, g_l y3)]) hK d_M_scanKeyword_90 4 rfl rfl (by rw [hN]; decide) rfl ?_
          refine r_goto (tgt := 52) hK d_M_scanKeyword_93 (by decide) ?_
          exact r_sub [1, 2, 3, 4, 0] rfl (ih _ _ _ _ _ _ h)
        · refine r_aload_n hK d_M_scanKeyword_79 rfl 0 rfl ?_
          refine r_gR hK fd_M_10 w7_42 d_M_scanKeyword_80 h (fun p3 h => ?_)
          refine r_aload_n hK d_M_scanKeyword_83 rfl 0 rfl ?_
          refine r_gI hK fd_M_8 w7_40 d_M_scanKeyword_84 h (fun i4 h => ?_)
          refine r_iload hK d_M_scanKeyword_87 4 rfl ?_
          refine r_iastore hK ar_20 rfl d_M_scanKeyword_89 h (fun s5 h => ?_)
          refine r_iinc (ls1 := [(5, g_i (x5 + 1)), (0, g_r 1 r0), (1, g_i x1), (2, g_i x2), (3, g_l y3)]) hK d_M_scanKeyword_90 4 rfl rfl (by rw [hN]; decide) rfl ?_
          refine r_goto (tgt := 52) hK d_M_scanKeyword_93 (by decide) ?_
          exact r_sub [1, 2, 3, 4, 0] rfl (ih _ _ _ _ _ _ h)
set_option maxHeartbeats 4000000 in
set_option maxRecDepth 100000 in
theorem t_M_scanKeyword_4 {K : g_C} {o : (Int32 × g_St)} (hK : g_OK K b_M_scanKeyword "FixpointEngineModel" "scanKeyword" (Option.some Jvm.ClassFile.FieldType.int)) (hN : g_nL K = 6) (hD : g_Kd K = 2) : ∀ (n : Nat) (r0 : Option Nat) (x1 : Int32) (x2 : Int32) (y3 : Int64) (s0 : g_St), f_M_scanKeyword_4 n r0 x1 x2 y3 s0 = some o → g_W K s0 [(0, g_r 1 r0), (1, g_i x1), (2, g_i x2), (3, g_l y3)] [] 4 (g_jI o) := by
  intro n
  induction n with
  | zero =>
    intro r0 x1 x2 y3 s0 h
    cases h
  | succ n ih =>
    intro r0 x1 x2 y3 s0 h
    unfold f_M_scanKeyword_4 at h
    refine r_aload_n hK d_M_scanKeyword_4 rfl 0 rfl ?_
    refine r_iload_n hK d_M_scanKeyword_5 rfl 2 rfl ?_
    refine r_Vi (avL := [g_i x2]) (st := []) hK ob_M rfl w8_141 wp_7 w8_139 w8_142 w1_6 (by decide) pl_M_letter (by rw [hD]; decide) (Nat.le_of_ble_eq_true rfl) rfl d_M_scanKeyword_6 (fun o9 h9 => c_M_letter _ _ _ _ _ o9 h9) h (fun i1 s2 h => ?_)
    refine r_Si (avL := [g_i i1]) (st := []) hK w8_133 w8_132 w8_134 w1_6 (by decide) pl_M_isCapital (by rw [hD]; decide) (Nat.le_of_ble_eq_true rfl) rfl d_M_scanKeyword_9 (fun o9 h9 => c_M_isCapital _ _ _ _ o9 h9) h (fun i3 s4 h => ?_)
    refine r_ifeq (tgt := 39) hK d_M_scanKeyword_12 (by decide) h (fun h => ?_) (fun h => ?_)
    · refine r_aload_n hK d_M_scanKeyword_39 rfl 0 rfl ?_
      refine r_gR hK fd_M_10 w7_42 d_M_scanKeyword_40 h (fun p5 h => ?_)
      refine r_aload_n hK d_M_scanKeyword_43 rfl 0 rfl ?_
      refine r_gI hK fd_M_8 w7_40 d_M_scanKeyword_44 h (fun i6 h => ?_)
      refine r_iconst (v := 0) hK d_M_scanKeyword_47 (by decide) ?_
      refine r_iastore hK ar_20 rfl d_M_scanKeyword_48 h (fun s7 h => ?_)
      refine r_iconst (v := 1) hK d_M_scanKeyword_49 (by decide) ?_
      refine r_istore (ls1 := [(5, g_i 1), (0, g_r 1 r0), (1, g_i x1), (2, g_i x2), (3, g_l y3)]) hK d_M_scanKeyword_50 (by rw [hN]; decide) rfl ?_
      exact r_sub [1, 2, 3, 4, 0] rfl (t_M_scanKeyword_52 hK hN hD _ _ _ _ _ _ _ h)
    · refine r_iload_n hK d_M_scanKeyword_15 rfl 2 rfl ?_
      refine r_iload_n hK d_M_scanKeyword_16 rfl 1 rfl ?_
      refine r_isub hK d_M_scanKeyword_17 ?_
      refine r_bipush (v := 10) hK d_M_scanKeyword_18 (by decide) ?_
      refine r_if_icmpge (tgt := 33) hK d_M_scanKeyword_20 (by decide) h (fun h => ?_) (fun h => ?_)
      · refine r_iinc (ls1 := [(2, g_i (x2 + 1)), (0, g_r 1 r0), (1, g_i x1), (3, g_l y3)]) hK d_M_scanKeyword_33 2 rfl rfl (by rw [hN]; decide) rfl ?_
        refine r_goto (tgt := 4) hK d_M_scanKeyword_36 (by decide) ?_
        exact r_sub [1, 2, 0, 3] rfl (ih _ _ _ _ _ h)
      · refine r_lload_n hK d_M_scanKeyword_23 rfl 3 rfl ?_
        refine r_aload_n hK d_M_scanKeyword_24 rfl 0 rfl ?_
        refine r_iload_n hK d_M_scanKeyword_25 rfl 2 rfl ?_
        refine r_Vi (avL := [g_i x2]) (st := [g_l y3]) hK ob_M rfl w8_141 wp_7 w8_139 w8_142 w1_6 (by decide) pl_M_letter (by rw [hD]; decide) (Nat.le_of_ble_eq_true rfl) rfl d_M_scanKeyword_26 (fun o9 h9 => c_M_letter _ _ _ _ _ o9 h9) h (fun i8 s9 h => ?_)
        refine r_Sl (avL := [g_l y3, g_i i8]) (st := []) hK w7_28 w7_27 w7_29 w1_6 (by decide) pl_M_longer (by rw [hD]; decide) (Nat.le_of_ble_eq_true rfl) rfl d_M_scanKeyword_29 (fun o9 h9 => c_M_longer _ _ _ _ _ o9 h9) h (fun j10 s11 h => ?_)
        refine r_lstore_n (ls1 := [(3, g_l j10), (0, g_r 1 r0), (1, g_i x1), (2, g_i x2)]) hK d_M_scanKeyword_32 rfl (by rw [hN]; decide) rfl ?_
        refine r_iinc (ls1 := [(2, g_i (x2 + 1)), (3, g_l j10), (0, g_r 1 r0), (1, g_i x1)]) hK d_M_scanKeyword_33 3 rfl rfl (by rw [hN]; decide) rfl ?_
        refine r_goto (tgt := 4) hK d_M_scanKeyword_36 (by decide) ?_
        exact r_sub [2, 3, 0, 1] rfl (ih _ _ _ _ _ h)
set_option maxHeartbeats 4000000 in
set_option maxRecDepth 100000 in
theorem t_M_scanKeyword_0 {K : g_C} {o : (Int32 × g_St)} (hK : g_OK K b_M_scanKeyword "FixpointEngineModel" "scanKeyword" (Option.some Jvm.ClassFile.FieldType.int)) (hN : g_nL K = 6) (hD : g_Kd K = 2) : ∀ (r0 : Option Nat) (x1 : Int32) (s0 : g_St), f_M_scanKeyword r0 x1 s0 = some o → g_W K s0 [(0, g_r 1 r0), (1, g_i x1)] [] 0 (g_jI o) := by
  intro r0 x1 s0 h
  unfold f_M_scanKeyword at h
  refine r_iload_n hK d_M_scanKeyword_0 rfl 1 rfl ?_
  refine r_istore_n (ls1 := [(2, g_i x1), (0, g_r 1 r0), (1, g_i x1)]) hK d_M_scanKeyword_1 rfl (by rw [hN]; decide) rfl ?_
  refine r_lconst (v := 0) hK d_M_scanKeyword_2 (by decide) ?_
  refine r_lstore_n (ls1 := [(3, g_l 0), (2, g_i x1), (0, g_r 1 r0), (1, g_i x1)]) hK d_M_scanKeyword_3 rfl (by rw [hN]; decide) rfl ?_
  exact r_sub [2, 3, 1, 0] rfl (t_M_scanKeyword_4 hK hN hD _ _ _ _ _ _ h)
theorem c_M_scanKeyword (l : Launch) (G : g_G) (r0 : Option Nat) (x1 : Int32) (u : g_St) (o : (Int32 × g_St)) (h : f_M_scanKeyword r0 x1 u = some o) : g_Con l G y_M_scanKeyword b_M_scanKeyword 6 (Option.some Jvm.ClassFile.FieldType.int) 2 [g_r 1 r0, g_i x1] u (g_jI o) :=
  g_Con.of rfl rfl (by decide +kernel) (Nat.le_of_ble_eq_true rfl) (fun K hK hN hD hX => t_M_scanKeyword_0 hK hN hD _ _ _ h)
def f_M_scanName_26 (k4 : Option Nat → Int32 → Int32 → Int64 → g_St → Option (Int32 × g_St)) (r0 : Option Nat) (x1 : Int32) (x2 : Int32) (y3 : Int64) (s0 : g_St) : Option (Int32 × g_St) :=
  if 6 ≤ (x2 - x1) then
    k4 r0 x1 (x2 + 1) y3 s0
  else
    g_c (g_nn r0 (f_M_letter r0 x2 s0)) fun i1 s2 =>
    g_c (f_M_isDigit i1 s2) fun i3 s4 =>
    if i3 = 0 then
      g_c (g_nn r0 (f_M_letter r0 x2 s4)) fun i5 s6 =>
      k4 r0 x1 (x2 + 1) ((37 * y3) + ((i5 - 96).toInt64)) s6
    else
      g_c (g_nn r0 (f_M_letter r0 x2 s4)) fun i7 s8 =>
      k4 r0 x1 (x2 + 1) ((37 * y3) + ((i7 - 21).toInt64)) s8
def f_M_scanName_4 : Nat → Option Nat → Int32 → Int32 → Int64 → g_St → Option (Int32 × g_St)
  | 0, _, _, _, _, _ => none
  | n + 1, r0, x1, x2, y3, s0 =>
    g_c (g_nn r0 (f_M_letter r0 x2 s0)) fun i1 s2 =>
    g_c (f_M_isSmall i1 s2) fun i3 s4 =>
    if i3 = 0 then
      g_c (g_nn r0 (f_M_letter r0 x2 s4)) fun i5 s6 =>
      g_c (f_M_isDigit i5 s6) fun i7 s8 =>
      if i7 = 0 then
        g_gR s8 641 r0 fun p9 =>
        g_gI s8 513 r0 fun i10 =>
        if (x2 - x1) ≤ 6 then
          g_sI s8 p9 i10 30 fun s11 =>
          g_gR s11 769 r0 fun p12 =>
          g_gI s11 513 r0 fun i13 =>
          g_sL s11 p12 i13 y3 fun s14 =>
          some (x2, s14)
        else
          g_sI s8 p9 i10 0 fun s15 =>
          g_gR s15 769 r0 fun p16 =>
          g_gI s15 513 r0 fun i17 =>
          g_sL s15 p16 i17 y3 fun s18 =>
          some (x2, s18)
      else
        f_M_scanName_26 (f_M_scanName_4 n) r0 x1 x2 y3 s8
    else
      f_M_scanName_26 (f_M_scanName_4 n) r0 x1 x2 y3 s4
def f_M_scanName (r0 : Option Nat) (x1 : Int32) (s0 : g_St) : Option (Int32 × g_St) :=
  f_M_scanName_4 200000 r0 x1 x1 0 s0
set_option maxHeartbeats 4000000 in
set_option maxRecDepth 100000 in
theorem t_M_scanName_26 {K : g_C} {o : (Int32 × g_St)} (hK : g_OK K b_M_scanName "FixpointEngineModel" "scanName" (Option.some Jvm.ClassFile.FieldType.int)) (hN : g_nL K = 5) (hD : g_Kd K = 2) {k4 : Option Nat → Int32 → Int32 → Int64 → g_St → Option (Int32 × g_St)} (hk4 : ∀ (r0 : Option Nat) (x1 : Int32) (x2 : Int32) (y3 : Int64) (s0 : g_St), k4 r0 x1 x2 y3 s0 = some o → g_W K s0 [(0, g_r 1 r0), (1, g_i x1), (2, g_i x2), (3, g_l y3)] [] 4 (g_jI o)) : ∀ (r0 : Option Nat) (x1 : Int32) (x2 : Int32) (y3 : Int64) (s0 : g_St), f_M_scanName_26 k4 r0 x1 x2 y3 s0 = some o → g_W K s0 [(0, g_r 1 r0), (1, g_i x1), (2, g_i x2), (3, g_l y3)] [] 26 (g_jI o) := by
  intro r0 x1 x2 y3 s0 h
  unfold f_M_scanName_26 at h
  refine r_iload_n hK d_M_scanName_26 rfl 2 rfl ?_
  refine r_iload_n hK d_M_scanName_27 rfl 1 rfl ?_
  refine r_isub hK d_M_scanName_28 ?_
  refine r_bipush (v := 6) hK d_M_scanName_29 (by decide) ?_
  refine r_if_icmpge (tgt := 72) hK d_M_scanName_31 (by decide) h (fun h => ?_) (fun h => ?_)
  · refine r_iinc (ls1 := [(2, g_i (x2 + 1)), (0, g_r 1 r0), (1, g_i x1), (3, g_l y3)]) hK d_M_scanName_72 2 rfl rfl (by rw [hN]; decide) rfl ?_
    refine r_goto (tgt := 4) hK d_M_scanName_75 (by decide) ?_
    exact r_sub [1, 2, 0, 3] rfl (hk4 _ _ _ _ _ h)
  · refine r_ldc2 hK w8_153 d_M_scanName_34 ?_
    refine r_lload_n hK d_M_scanName_37 rfl 3 rfl ?_
    refine r_lmul hK d_M_scanName_38 ?_
    refine r_aload_n hK d_M_scanName_39 rfl 0 rfl ?_
    refine r_iload_n hK d_M_scanName_40 rfl 2 rfl ?_
    refine r_Vi (avL := [g_i x2]) (st := [g_l (37 * y3)]) hK ob_M rfl w8_141 wp_7 w8_139 w8_142 w1_6 (by decide) pl_M_letter (by rw [hD]; decide) (Nat.le_of_ble_eq_true rfl) rfl d_M_scanName_41 (fun o9 h9 => c_M_letter _ _ _ _ _ o9 h9) h (fun i1 s2 h => ?_)
    refine r_Si (avL := [g_i i1]) (st := [g_l (37 * y3)]) hK w8_151 w8_150 w8_152 w1_6 (by decide) pl_M_isDigit (by rw [hD]; decide) (Nat.le_of_ble_eq_true rfl) rfl d_M_scanName_44 (fun o9 h9 => c_M_isDigit _ _ _ _ o9 h9) h (fun i3 s4 h => ?_)
    refine r_ifeq (tgt := 61) hK d_M_scanName_47 (by decide) h (fun h => ?_) (fun h => ?_)
    · refine r_aload_n hK d_M_scanName_61 rfl 0 rfl ?_
      refine r_iload_n hK d_M_scanName_62 rfl 2 rfl ?_
      refine r_Vi (avL := [g_i x2]) (st := [g_l (37 * y3)]) hK ob_M rfl w8_141 wp_7 w8_139 w8_142 w1_6 (by decide) pl_M_letter (by rw [hD]; decide) (Nat.le_of_ble_eq_true rfl) rfl d_M_scanName_63 (fun o9 h9 => c_M_letter _ _ _ _ _ o9 h9) h (fun i5 s6 h => ?_)
      refine r_bipush (v := 96) hK d_M_scanName_66 (by decide) ?_
      refine r_isub hK d_M_scanName_68 ?_
      refine r_i2l hK d_M_scanName_69 ?_
      refine r_ladd hK d_M_scanName_70 ?_
      refine r_lstore_n (ls1 := [(3, g_l ((37 * y3) + ((i5 - 96).toInt64))), (0, g_r 1 r0), (1, g_i x1), (2, g_i x2)]) hK d_M_scanName_71 rfl (by rw [hN]; decide) rfl ?_
      refine r_iinc (ls1 := [(2, g_i (x2 + 1)), (3, g_l ((37 * y3) + ((i5 - 96).toInt64))), (0, g_r 1 r0), (1, g_i x1)]) hK d_M_scanName_72 3 rfl rfl (by rw [hN]; decide) rfl ?_
      refine r_goto (tgt := 4) hK d_M_scanName_75 (by decide) ?_
      exact r_sub [2, 3, 0, 1] rfl (hk4 _ _ _ _ _ h)
    · refine r_aload_n hK d_M_scanName_50 rfl 0 rfl ?_
      refine r_iload_n hK d_M_scanName_51 rfl 2 rfl ?_
      refine r_Vi (avL := [g_i x2]) (st := [g_l (37 * y3)]) hK ob_M rfl w8_141 wp_7 w8_139 w8_142 w1_6 (by decide) pl_M_letter (by rw [hD]; decide) (Nat.le_of_ble_eq_true rfl) rfl d_M_scanName_52 (fun o9 h9 => c_M_letter _ _ _ _ _ o9 h9) h (fun i7 s8 h => ?_)
      refine r_bipush (v := 21) hK d_M_scanName_55 (by decide) ?_
      refine r_isub hK d_M_scanName_57 ?_
      refine r_goto (tgt := 69) hK d_M_scanName_58 (by decide) ?_
      refine r_i2l hK d_M_scanName_69 ?_
      refine r_ladd hK d_M_scanName_70 ?_
      refine r_lstore_n (ls1 := [(3, g_l ((37 * y3) + ((i7 - 21).toInt64))), (0, g_r 1 r0), (1, g_i x1), (2, g_i x2)]) hK d_M_scanName_71 rfl (by rw [hN]; decide) rfl ?_
      refine r_iinc (ls1 := [(2, g_i (x2 + 1)), (3, g_l ((37 * y3) + ((i7 - 21).toInt64))), (0, g_r 1 r0), (1, g_i x1)]) hK d_M_scanName_72 3 rfl rfl (by rw [hN]; decide) rfl ?_
      refine r_goto (tgt := 4) hK d_M_scanName_75 (by decide) ?_
      exact r_sub [2, 3, 0, 1] rfl (hk4 _ _ _ _ _ h)
set_option maxHeartbeats 4000000 in
set_option maxRecDepth 100000 in
theorem t_M_scanName_4 {K : g_C} {o : (Int32 × g_St)} (hK : g_OK K b_M_scanName "FixpointEngineModel" "scanName" (Option.some Jvm.ClassFile.FieldType.int)) (hN : g_nL K = 5) (hD : g_Kd K = 2) : ∀ (n : Nat) (r0 : Option Nat) (x1 : Int32) (x2 : Int32) (y3 : Int64) (s0 : g_St), f_M_scanName_4 n r0 x1 x2 y3 s0 = some o → g_W K s0 [(0, g_r 1 r0), (1, g_i x1), (2, g_i x2), (3, g_l y3)] [] 4 (g_jI o) := by
  intro n
  induction n with
  | zero =>
    intro r0 x1 x2 y3 s0 h
    cases h
  | succ n ih =>
    intro r0 x1 x2 y3 s0 h
    unfold f_M_scanName_4 at h
    refine r_aload_n hK d_M_scanName_4 rfl 0 rfl ?_
    refine r_iload_n hK d_M_scanName_5 rfl 2 rfl ?_
    refine r_Vi (avL := [g_i x2]) (st := []) hK ob_M rfl w8_141 wp_7 w8_139 w8_142 w1_6 (by decide) pl_M_letter (by rw [hD]; decide) (Nat.le_of_ble_eq_true rfl) rfl d_M_scanName_6 (fun o9 h9 => c_M_letter _ _ _ _ _ o9 h9) h (fun i1 s2 h => ?_)
    refine r_Si (avL := [g_i i1]) (st := []) hK w8_144 w8_143 w8_145 w1_6 (by decide) pl_M_isSmall (by rw [hD]; decide) (Nat.le_of_ble_eq_true rfl) rfl d_M_scanName_9 (fun o9 h9 => c_M_isSmall _ _ _ _ o9 h9) h (fun i3 s4 h => ?_)
    refine r_ifne (tgt := 26) hK d_M_scanName_12 (by decide) h (fun h => ?_) (fun h => ?_)
    · exact r_sub [0, 1, 2, 3] rfl (t_M_scanName_26 hK hN hD ih _ _ _ _ _ h)
    · refine r_aload_n hK d_M_scanName_15 rfl 0 rfl ?_
      refine r_iload_n hK d_M_scanName_16 rfl 2 rfl ?_
      refine r_Vi (avL := [g_i x2]) (st := []) hK ob_M rfl w8_141 wp_7 w8_139 w8_142 w1_6 (by decide) pl_M_letter (by rw [hD]; decide) (Nat.le_of_ble_eq_true rfl) rfl d_M_scanName_17 (fun o9 h9 => c_M_letter _ _ _ _ _ o9 h9) h (fun i5 s6 h => ?_)
      refine r_Si (avL := [g_i i5]) (st := []) hK w8_151 w8_150 w8_152 w1_6 (by decide) pl_M_isDigit (by rw [hD]; decide) (Nat.le_of_ble_eq_true rfl) rfl d_M_scanName_20 (fun o9 h9 => c_M_isDigit _ _ _ _ o9 h9) h (fun i7 s8 h => ?_)
      refine r_ifeq (tgt := 78) hK d_M_scanName_23 (by decide) h (fun h => ?_) (fun h => ?_)
      · refine r_aload_n hK d_M_scanName_78 rfl 0 rfl ?_
        refine r_gR hK fd_M_10 w7_42 d_M_scanName_79 h (fun p9 h => ?_)
        refine r_aload_n hK d_M_scanName_82 rfl 0 rfl ?_
        refine r_gI hK fd_M_8 w7_40 d_M_scanName_83 h (fun i10 h => ?_)
        refine r_iload_n hK d_M_scanName_86 rfl 2 rfl ?_
        refine r_iload_n hK d_M_scanName_87 rfl 1 rfl ?_
        refine r_isub hK d_M_scanName_88 ?_
        refine r_bipush (v := 6) hK d_M_scanName_89 (by decide) ?_
        refine r_if_icmple (tgt := 98) hK d_M_scanName_91 (by decide) h (fun h => ?_) (fun h => ?_)
        · refine r_bipush (v := 30) hK d_M_scanName_98 (by decide) ?_
          refine r_iastore hK ar_20 rfl d_M_scanName_100 h (fun s11 h => ?_)
          refine r_aload_n hK d_M_scanName_101 rfl 0 rfl ?_
          refine r_gR hK fd_M_12 w7_44 d_M_scanName_102 h (fun p12 h => ?_)
          refine r_aload_n hK d_M_scanName_105 rfl 0 rfl ?_
          refine r_gI hK fd_M_8 w7_40 d_M_scanName_106 h (fun i13 h => ?_)
          refine r_lload_n hK d_M_scanName_109 rfl 3 rfl ?_
          refine r_lastore hK ar_21 rfl d_M_scanName_110 h (fun s14 h => ?_)
          refine r_iload_n hK d_M_scanName_111 rfl 2 rfl ?_
          exact r_ireturn hK d_M_scanName_112 h
        · refine r_iconst (v := 0) hK d_M_scanName_94 (by decide) ?_
          refine r_goto (tgt := 100) hK d_M_scanName_95 (by decide) ?_
          refine r_iastore hK ar_20 rfl d_M_scanName_100 h (fun s15 h => ?_)
          refine r_aload_n hK d_M_scanName_101 rfl 0 rfl ?_
          refine r_gR hK fd_M_12 w7_44 d_M_scanName_102 h (fun p16 h => ?_)
          refine r_aload_n hK d_M_scanName_105 rfl 0 rfl ?_
          refine r_gI hK fd_M_8 w7_40 d_M_scanName_106 h (fun i17 h => ?_)
          refine r_lload_n hK d_M_scanName_109 rfl 3 rfl ?_
          refine r_lastore hK ar_21 rfl d_M_scanName_110 h (fun s18 h => ?_)
          refine r_iload_n hK d_M_scanName_111 rfl 2 rfl ?_
          exact r_ireturn hK d_M_scanName_112 h
      · exact r_sub [0, 1, 2, 3] rfl (t_M_scanName_26 hK hN hD ih _ _ _ _ _ h)
set_option maxHeartbeats 4000000 in
set_option maxRecDepth 100000 in
theorem t_M_scanName_0 {K : g_C} {o : (Int32 × g_St)} (hK : g_OK K b_M_scanName "FixpointEngineModel" "scanName" (Option.some Jvm.ClassFile.FieldType.int)) (hN : g_nL K = 5) (hD : g_Kd K = 2) : ∀ (r0 : Option Nat) (x1 : Int32) (s0 : g_St), f_M_scanName r0 x1 s0 = some o → g_W K s0 [(0, g_r 1 r0), (1, g_i x1)] [] 0 (g_jI o) := by
  intro r0 x1 s0 h
  unfold f_M_scanName at h
  refine r_iload_n hK d_M_scanName_0 rfl 1 rfl ?_
  refine r_istore_n (ls1 := [(2, g_i x1), (0, g_r 1 r0), (1, g_i x1)]) hK d_M_scanName_1 rfl (by rw [hN]; decide) rfl ?_
  refine r_lconst (v := 0) hK d_M_scanName_2 (by decide) ?_
  refine r_lstore_n (ls1 := [(3, g_l 0), (2, g_i x1), (0, g_r 1 r0), (1, g_i x1)]) hK d_M_scanName_3 rfl (by rw [hN]; decide) rfl ?_
  exact r_sub [2, 3, 1, 0] rfl (t_M_scanName_4 hK hN hD _ _ _ _ _ _ h)
theorem c_M_scanName (l : Launch) (G : g_G) (r0 : Option Nat) (x1 : Int32) (u : g_St) (o : (Int32 × g_St)) (h : f_M_scanName r0 x1 u = some o) : g_Con l G y_M_scanName b_M_scanName 5 (Option.some Jvm.ClassFile.FieldType.int) 2 [g_r 1 r0, g_i x1] u (g_jI o) :=
  g_Con.of rfl rfl (by decide +kernel) (Nat.le_of_ble_eq_true rfl) (fun K hK hN hD hX => t_M_scanName_0 hK hN hD _ _ _ h)
