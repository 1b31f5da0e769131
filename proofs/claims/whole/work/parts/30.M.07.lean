def f_M_resolveNotExists_53 : Nat → Option Nat → Int32 → Int32 → Int32 → Int32 → g_St → Option (Unit × g_St)
  | 0, _, _, _, _, _, _ => none
  | n + 1, r0, x1, x2, x3, x4, s0 =>
    g_gR s0 4225 r0 fun p1 =>
    g_aI s0 p1 x2 fun i2 =>
    if i2 ≤ x4 then
      some ((), s0)
    else
      g_gR s0 4289 r0 fun p3 =>
      g_aI s0 p3 ((3 * x2) + x4) fun i4 =>
      g_c (g_nn r0 (f_M_resolveCondition r0 x1 i4 x3 s0)) fun _ s6 =>
      f_M_resolveNotExists_53 n r0 x1 x2 x3 (x4 + 1) s6
def f_M_resolveNotExists (r0 : Option Nat) (x1 : Int32) (x2 : Int32) (s0 : g_St) : Option (Unit × g_St) :=
  g_gR s0 4161 r0 fun p1 =>
  g_aI s0 p1 x2 fun i2 =>
  g_c (g_nn r0 (f_M_resolveSource r0 x1 i2 s0)) fun _ s4 =>
  g_gR s4 769 r0 fun p5 =>
  g_gR s4 3713 r0 fun p6 =>
  g_aI s4 p6 i2 fun i7 =>
  g_aL s4 p5 i7 fun j8 =>
  g_c (g_nn r0 (f_M_slotOf r0 x1 j8 (-1) s4)) fun i9 s10 =>
  if i9 = (-1) then
    f_M_resolveNotExists_53 200000 r0 x1 x2 i2 0 s10
  else
    g_gR s10 705 r0 fun p11 =>
    g_gR s10 3713 r0 fun p12 =>
    g_aI s10 p12 i2 fun i13 =>
    g_aI s10 p11 i13 fun i14 =>
    g_c (g_nn r0 (f_M_note r0 2 i14 s10)) fun _ s16 =>
    f_M_resolveNotExists_53 200000 r0 x1 x2 i2 0 s16
set_option maxHeartbeats 4000000 in
set_option maxRecDepth 100000 in
theorem t_M_resolveNotExists_53 {K : g_C} {o : (Unit × g_St)} (hK : g_OK K b_M_resolveNotExists "FixpointEngineModel" "resolveNotExists" (Option.none : Option Jvm.ClassFile.FieldType)) (hN : g_nL K = 5) (hD : g_Kd K = 4) : ∀ (n : Nat) (r0 : Option Nat) (x1 : Int32) (x2 : Int32) (x3 : Int32) (x4 : Int32) (s0 : g_St), f_M_resolveNotExists_53 n r0 x1 x2 x3 x4 s0 = some o → g_W K s0 [(0, g_r 1 r0), (1, g_i x1), (2, g_i x2), (3, g_i x3), (4, g_i x4)] [] 53 (g_jV o) := by
  intro n
  induction n with
  | zero =>
    intro r0 x1 x2 x3 x4 s0 h
    cases h
  | succ n ih =>
    intro r0 x1 x2 x3 x4 s0 h
    unfold f_M_resolveNotExists_53 at h
    refine r_iload hK d_M_resolveNotExists_53 4 rfl ?_
    refine r_aload_n hK d_M_resolveNotExists_55 rfl 0 rfl ?_
    refine r_gR hK fd_M_66 w7_98 d_M_resolveNotExists_56 h (fun p1 h => ?_)
    refine r_iload_n hK d_M_resolveNotExists_59 rfl 2 rfl ?_
    refine r_iaload hK ar_20 rfl d_M_resolveNotExists_60 h (fun i2 h => ?_)
    refine r_if_icmpge (tgt := 87) hK d_M_resolveNotExists_61 (by decide) h (fun h => ?_) (fun h => ?_)
    · exact r_return hK d_M_resolveNotExists_87 h
    · refine r_aload_n hK d_M_resolveNotExists_64 rfl 0 rfl ?_
      refine r_iload_n hK d_M_resolveNotExists_65 rfl 1 rfl ?_
      refine r_aload_n hK d_M_resolveNotExists_66 rfl 0 rfl ?_
      refine r_gR hK fd_M_67 w7_99 d_M_resolveNotExists_67 h (fun p3 h => ?_)
      refine r_iconst (v := 3) hK d_M_resolveNotExists_70 (by decide) ?_
      refine r_iload_n hK d_M_resolveNotExists_71 rfl 2 rfl ?_
      refine r_imul hK d_M_resolveNotExists_72 ?_
      refine r_iload hK d_M_resolveNotExists_73 4 rfl ?_
      refine r_iadd hK d_M_resolveNotExists_75 ?_
      refine r_iaload hK ar_20 rfl d_M_resolveNotExists_76 h (fun i4 h => ?_)
      refine r_iload_n hK d_M_resolveNotExists_77 rfl 3 rfl ?_
      refine r_Vv (avL := [g_i x1, g_i i4, g_i x3]) (st := []) hK ob_M rfl w9_43 wp_40 w9_41 w9_44 w1_6 (by decide) pl_M_resolveCondition (by rw [hD]; decide) (Nat.le_of_ble_eq_true rfl) rfl d_M_resolveNotExists_78 (fun o9 h9 => c_M_resolveCondition _ _ _ _ _ _ _ o9 h9) h (fun s6 h => ?_)
      refine r_iinc (ls1 := [(4, g_i (x4 + 1)), (0, g_r 1 r0), (1, g_i x1), (2, g_i x2), (3, g_i x3)]) hK d_M_resolveNotExists_81 4 rfl rfl (by rw [hN]; decide) rfl ?_
      refine r_goto (tgt := 53) hK d_M_resolveNotExists_84 (by decide) ?_
      exact r_sub [1, 2, 3, 4, 0] rfl (ih _ _ _ _ _ _ h)
set_option maxHeartbeats 4000000 in
set_option maxRecDepth 100000 in
theorem t_M_resolveNotExists_0 {K : g_C} {o : (Unit × g_St)} (hK : g_OK K b_M_resolveNotExists "FixpointEngineModel" "resolveNotExists" (Option.none : Option Jvm.ClassFile.FieldType)) (hN : g_nL K = 5) (hD : g_Kd K = 4) : ∀ (r0 : Option Nat) (x1 : Int32) (x2 : Int32) (s0 : g_St), f_M_resolveNotExists r0 x1 x2 s0 = some o → g_W K s0 [(0, g_r 1 r0), (1, g_i x1), (2, g_i x2)] [] 0 (g_jV o) := by
  intro r0 x1 x2 s0 h
  unfold f_M_resolveNotExists at h
  refine r_aload_n hK d_M_resolveNotExists_0 rfl 0 rfl ?_
  refine r_gR hK fd_M_65 w7_97 d_M_resolveNotExists_1 h (fun p1 h => ?_)
  refine r_iload_n hK d_M_resolveNotExists_4 rfl 2 rfl ?_
  refine r_iaload hK ar_20 rfl d_M_resolveNotExists_5 h (fun i2 h => ?_)
  refine r_istore_n (ls1 := [(3, g_i i2), (0, g_r 1 r0), (1, g_i x1), (2, g_i x2)]) hK d_M_resolveNotExists_6 rfl (by rw [hN]; decide) rfl ?_
  refine r_aload_n hK d_M_resolveNotExists_7 rfl 1 rfl ?_
  refine r_iload_n hK d_M_resolveNotExists_8 rfl 2 rfl ?_
  refine r_iload_n hK d_M_resolveNotExists_9 rfl 0 rfl ?_
  refine r_Vv (avL := [g_i x1, g_i i2]) (st := []) hK ob_M rfl w9_18 wp_34 w9_16 w9_19 w1_6 (by decide) pl_M_resolveSource (by rw [hD]; decide) (Nat.le_of_ble_eq_true rfl) rfl d_M_resolveNotExists_10 (fun o9 h9 => c_M_resolveSource _ _ _ _ _ _ o9 h9) h (fun s4 h => ?_)
  refine r_aload_n hK d_M_resolveNotExists_13 rfl 1 rfl ?_
  refine r_iload_n hK d_M_resolveNotExists_14 rfl 2 rfl ?_
  refine r_aload_n hK d_M_resolveNotExists_15 rfl 1 rfl ?_
  refine r_gR hK fd_M_12 w7_44 d_M_resolveNotExists_16 h (fun p5 h => ?_)
  refine r_aload_n hK d_M_resolveNotExists_19 rfl 1 rfl ?_
  refine r_gR hK fd_M_58 w7_90 d_M_resolveNotExists_20 h (fun p6 h => ?_)
  refine r_iload_n hK d_M_resolveNotExists_23 rfl 0 rfl ?_
  refine r_iaload hK ar_20 rfl d_M_resolveNotExists_24 h (fun i7 h => ?_)
  refine r_laload hK ar_21 rfl d_M_resolveNotExists_25 h (fun j8 h => ?_)
  refine r_iconst (v := (-1)) hK d_M_resolveNotExists_26 (by decide) ?_
  refine r_Vi (avL := [g_i x1, g_l j8, g_i (-1)]) (st := []) hK ob_M rfl w9_27 wp_36 w9_25 w9_28 w1_6 (by decide) pl_M_slotOf (by rw [hD]; decide) (Nat.le_of_ble_eq_true rfl) rfl d_M_resolveNotExists_27 (fun o9 h9 => c_M_slotOf _ _ _ _ _ _ _ o9 h9) h (fun i9 s10 h => ?_)
  refine r_iconst (v := (-1)) hK d_M_resolveNotExists_30 (by decide) ?_
  refine r_if_icmpeq (tgt := 50) hK d_M_resolveNotExists_31 (by decide) h (fun h => ?_) (fun h => ?_)
  · refine r_iconst (v := 0) hK d_M_resolveNotExists_50 (by decide) ?_
    refine r_istore (ls1 := [(4, g_i 0), (3, g_i i2), (0, g_r 1 r0), (1, g_i x1), (2, g_i x2)]) hK d_M_resolveNotExists_51 (by rw [hN]; decide) rfl ?_
    exact r_sub [2, 3, 4, 1, 0] rfl (t_M_resolveNotExists_53 hK hN hD _ _ _ _ _ _ _ h)
  · refine r_aload_n hK d_M_resolveNotExists_34 rfl 1 rfl ?_
    refine r_iconst (v := 2) hK d_M_resolveNotExists_35 (by decide) ?_
    refine r_aload_n hK d_M_resolveNotExists_36 rfl 1 rfl ?_
    refine r_gR hK fd_M_11 w7_43 d_M_resolveNotExists_37 h (fun p11 h => ?_)
    refine r_aload_n hK d_M_resolveNotExists_40 rfl 1 rfl ?_
    refine r_gR hK fd_M_58 w7_90 d_M_resolveNotExists_41 h (fun p12 h => ?_)
    refine r_iload_n hK d_M_resolveNotExists_44 rfl 0 rfl ?_
    refine r_iaload hK ar_20 rfl d_M_resolveNotExists_45 h (fun i13 h => ?_)
    refine r_iaload hK ar_20 rfl d_M_resolveNotExists_46 h (fun i14 h => ?_)
    refine r_Vv (avL := [g_i 2, g_i i14]) (st := []) hK ob_M rfl w8_190 wp_17 w8_188 w8_191 w1_6 (by decide) pl_M_note (by rw [hD]; decide) (Nat.le_of_ble_eq_true rfl) rfl d_M_resolveNotExists_47 (fun o9 h9 => c_M_note _ _ _ _ _ _ o9 h9) h (fun s16 h => ?_)
    refine r_iconst (v := 0) hK d_M_resolveNotExists_50 (by decide) ?_
    refine r_istore (ls1 := [(4, g_i 0), (3, g_i i2), (0, g_r 1 r0), (1, g_i x1), (2, g_i x2)]) hK d_M_resolveNotExists_51 (by rw [hN]; decide) rfl ?_
    exact r_sub [2, 3, 4, 1, 0] rfl (t_M_resolveNotExists_53 hK hN hD _ _ _ _ _ _ _ h)
theorem c_M_resolveNotExists (l : Launch) (G : g_G) (r0 : Option Nat) (x1 : Int32) (x2 : Int32) (u : g_St) (o : (Unit × g_St)) (h : f_M_resolveNotExists r0 x1 x2 u = some o) : g_Con l G y_M_resolveNotExists b_M_resolveNotExists 5 (Option.none : Option Jvm.ClassFile.FieldType) 4 [g_r 1 r0, g_i x1, g_i x2] u (g_jV o) :=
  g_Con.of rfl rfl (by decide +kernel) (Nat.le_of_ble_eq_true rfl) (fun K hK hN hD hX => t_M_resolveNotExists_0 hK hN hD _ _ _ _ h)
def f_M_resolveSelection_116 : Nat → Option Nat → Int32 → Int32 → g_St → Option (Unit × g_St)
  | 0, _, _, _, _ => none
  | n + 1, r0, x1, x2, s0 =>
    g_gR s0 2625 r0 fun p1 =>
    g_aI s0 p1 x1 fun i2 =>
    if i2 ≤ x2 then
      some ((), s0)
    else
      g_gR s0 2689 r0 fun p3 =>
      g_aI s0 p3 ((6 * x1) + x2) fun i4 =>
      g_gR s0 3905 r0 fun p5 =>
      g_aI s0 p5 i4 fun i6 =>
      if i6 = 2 then
        g_c (g_nn r0 (f_M_resolveNotExists r0 x1 i4 s0)) fun _ s10 =>
        f_M_resolveSelection_116 n r0 x1 (x2 + 1) s10
      else
        g_c (g_nn r0 (f_M_resolveCondition r0 x1 i4 (-1) s0)) fun _ s8 =>
        f_M_resolveSelection_116 n r0 x1 (x2 + 1) s8
def f_M_resolveSelection_72 : Nat → Option Nat → Int32 → Int32 → g_St → Option (Unit × g_St)
  | 0, _, _, _, _ => none
  | n + 1, r0, x1, x2, s0 =>
    g_gR s0 2433 r0 fun p1 =>
    g_aI s0 p1 x1 fun i2 =>
    if i2 ≤ x2 then
      f_M_resolveSelection_116 200000 r0 x1 0 s0
    else
      g_gR s0 2945 r0 fun p3 =>
      g_gR s0 2369 r0 fun p4 =>
      g_aI s0 p4 x1 fun i5 =>
      g_aI s0 p3 (i5 + x2) fun i6 =>
      if i6 = (-1) then
        f_M_resolveSelection_72 n r0 x1 (x2 + 1) s0
      else
        g_c (g_nn r0 (f_M_resolveExpression r0 x1 i6 (-1) s0)) fun _ s8 =>
        f_M_resolveSelection_72 n r0 x1 (x2 + 1) s8
def f_M_resolveSelection_2 : Nat → Option Nat → Int32 → Int32 → g_St → Option (Unit × g_St)
  | 0, _, _, _, _ => none
  | n + 1, r0, x1, x2, s0 =>
    g_gR s0 2561 r0 fun p1 =>
    g_aI s0 p1 x1 fun i2 =>
    if i2 ≤ x2 then
      f_M_resolveSelection_72 200000 r0 x1 0 s0
    else
      g_gR s0 2497 r0 fun p3 =>
      g_aI s0 p3 x1 fun i4 =>
      g_c (g_nn r0 (f_M_resolveSource r0 x1 (i4 + x2) s0)) fun _ s6 =>
      g_gR s6 769 r0 fun p7 =>
      g_gR s6 3713 r0 fun p8 =>
      g_aI s6 p8 (i4 + x2) fun i9 =>
      g_aL s6 p7 i9 fun j10 =>
      g_c (g_nn r0 (f_M_slotOf r0 x1 j10 (-1) s6)) fun i11 s12 =>
      if x2 ≤ i11 then
        f_M_resolveSelection_2 n r0 x1 (x2 + 1) s12
      else
        g_gR s12 705 r0 fun p13 =>
        g_gR s12 3713 r0 fun p14 =>
        g_aI s12 p14 (i4 + x2) fun i15 =>
        g_aI s12 p13 i15 fun i16 =>
        g_c (g_nn r0 (f_M_note r0 2 i16 s12)) fun _ s18 =>
        f_M_resolveSelection_2 n r0 x1 (x2 + 1) s18
def f_M_resolveSelection (r0 : Option Nat) (x1 : Int32) (s0 : g_St) : Option (Unit × g_St) :=
  f_M_resolveSelection_2 200000 r0 x1 0 s0
set_option maxHeartbeats 4000000 in
set_option maxRecDepth 100000 in
theorem t_M_resolveSelection_116 {K : g_C} {o : (Unit × g_St)} (hK : g_OK K b_M_resolveSelection "FixpointEngineModel" "resolveSelection" (Option.none : Option Jvm.ClassFile.FieldType)) (hN : g_nL K = 4) (hD : g_Kd K = 5) : ∀ (n : Nat) (r0 : Option Nat) (x1 : Int32) (x2 : Int32) (s0 : g_St), f_M_resolveSelection_116 n r0 x1 x2 s0 = some o → g_W K s0 [(0, g_r 1 r0), (1, g_i x1), (2, g_i x2)] [] 116 (g_jV o) := by
  intro n
  induction n with
  | zero =>
    intro r0 x1 x2 s0 h
    cases h
  | succ n ih =>
    intro r0 x1 x2 s0 h
    unfold f_M_resolveSelection_116 at h
    refine r_iload_n hK d_M_resolveSelection_116 rfl 2 rfl ?_
    refine r_aload_n hK d_M_resolveSelection_117 rfl 0 rfl ?_
    refine r_gR hK fd_M_41 w7_73 d_M_resolveSelection_118 h (fun p1 h => ?_)
    refine r_iload_n hK d_M_resolveSelection_121 rfl 1 rfl ?_
    refine r_iaload hK ar_20 rfl d_M_resolveSelection_122 h (fun i2 h => ?_)
    refine r_if_icmpge (tgt := 170) hK d_M_resolveSelection_123 (by decide) h (fun h => ?_) (fun h => ?_)
    · exact r_return hK d_M_resolveSelection_170 h
    · refine r_aload_n hK d_M_resolveSelection_126 rfl 0 rfl ?_
      refine r_gR hK fd_M_42 w7_74 d_M_resolveSelection_127 h (fun p3 h => ?_)
      refine r_bipush (v := 6) hK d_M_resolveSelection_130 (by decide) ?_
      refine r_iload_n hK d_M_resolveSelection_132 rfl 1 rfl ?_
      refine r_imul hK d_M_resolveSelection_133 ?_
      refine r_iload_n hK d_M_resolveSelection_134 rfl 2 rfl ?_
      refine r_iadd hK d_M_resolveSelection_135 ?_
      refine r_iaload hK ar_20 rfl d_M_resolveSelection_136 h (fun i4 h => ?_)
      refine r_istore_n (ls1 := [(3, g_i i4), (0, g_r 1 r0), (1, g_i x1), (2, g_i x2)]) hK d_M_resolveSelection_137 rfl (by rw [hN]; decide) rfl ?_
      refine r_aload_n hK d_M_resolveSelection_138 rfl 1 rfl ?_
      refine r_gR hK fd_M_61 w7_93 d_M_resolveSelection_139 h (fun p5 h => ?_)
      refine r_iload_n hK d_M_resolveSelection_142 rfl 0 rfl ?_
      refine r_iaload hK ar_20 rfl d_M_resolveSelection_143 h (fun i6 h => ?_)
      refine r_iconst (v := 2) hK d_M_resolveSelection_144 (by decide) ?_
      refine r_if_icmpne (tgt := 157) hK d_M_resolveSelection_145 (by decide) h (fun h => ?_) (fun h => ?_)
      · refine r_aload_n hK d_M_resolveSelection_157 rfl 1 rfl ?_
        refine r_iload_n hK d_M_resolveSelection_158 rfl 2 rfl ?_
        refine r_iload_n hK d_M_resolveSelection_159 rfl 0 rfl ?_
        refine r_iconst (v := (-1)) hK d_M_resolveSelection_160 (by decide) ?_
        refine r_Vv (avL := [g_i x1, g_i i4, g_i (-1)]) (st := []) hK ob_M rfl w9_43 wp_40 w9_41 w9_44 w1_6 (by decide) pl_M_resolveCondition (by rw [hD]; decide) (Nat.le_of_ble_eq_true rfl) rfl d_M_resolveSelection_161 (fun o9 h9 => c_M_resolveCondition _ _ _ _ _ _ _ o9 h9) h (fun s8 h => ?_)
        refine r_iinc (ls1 := [(2, g_i (x2 + 1)), (3, g_i i4), (0, g_r 1 r0), (1, g_i x1)]) hK d_M_resolveSelection_164 3 rfl rfl (by rw [hN]; decide) rfl ?_
        refine r_goto (tgt := 116) hK d_M_resolveSelection_167 (by decide) ?_
        exact r_sub [2, 3, 0] rfl (ih _ _ _ _ h)
      · refine r_aload_n hK d_M_resolveSelection_148 rfl 1 rfl ?_
        refine r_iload_n hK d_M_resolveSelection_149 rfl 2 rfl ?_
        refine r_iload_n hK d_M_resolveSelection_150 rfl 0 rfl ?_
        refine r_Vv (avL := [g_i x1, g_i i4]) (st := []) hK ob_M rfl w9_39 wp_39 w9_37 w9_40 w1_6 (by decide) pl_M_resolveNotExists (by rw [hD]; decide) (Nat.le_of_ble_eq_true rfl) rfl d_M_resolveSelection_151 (fun o9 h9 => c_M_resolveNotExists _ _ _ _ _ _ o9 h9) h (fun s10 h => ?_)
        refine r_goto (tgt := 164) hK d_M_resolveSelection_154 (by decide) ?_
        refine r_iinc (ls1 := [(2, g_i (x2 + 1)), (3, g_i i4), (0, g_r 1 r0), (1, g_i x1)]) hK d_M_resolveSelection_164 3 rfl rfl (by rw [hN]; decide) rfl ?_
        refine r_goto (tgt := 116) hK d_M_resolveSelection_167 (by decide) ?_
        exact r_sub [2, 3, 0] rfl (ih _ _ _ _ h)
set_option maxHeartbeats 4000000 in
set_option maxRecDepth 100000 in
theorem t_M_resolveSelection_72 {K : g_C} {o : (Unit × g_St)} (hK : g_OK K b_M_resolveSelection "FixpointEngineModel" "resolveSelection" (Option.none : Option Jvm.ClassFile.FieldType)) (hN : g_nL K = 4) (hD : g_Kd K = 5) : ∀ (n : Nat) (r0 : Option Nat) (x1 : Int32) (x2 : Int32) (s0 : g_St), f_M_resolveSelection_72 n r0 x1 x2 s0 = some o → g_W K s0 [(0, g_r 1 r0), (1, g_i x1), (2, g_i x2)] [] 72 (g_jV o) := by
  intro n
  induction n with
  | zero =>
    intro r0 x1 x2 s0 h
    cases h
  | succ n ih =>
    intro r0 x1 x2 s0 h
    unfold f_M_resolveSelection_72 at h
    refine r_iload_n hK d_M_resolveSelection_72 rfl 2 rfl ?_
    refine r_aload_n hK d_M_resolveSelection_73 rfl 0 rfl ?_
    refine r_gR hK fd_M_38 w7_70 d_M_resolveSelection_74 h (fun p1 h => ?_)
    refine r_iload_n hK d_M_resolveSelection_77 rfl 1 rfl ?_
    refine r_iaload hK ar_20 rfl d_M_resolveSelection_78 h (fun i2 h => ?_)
    refine r_if_icmpge (tgt := 114) hK d_M_resolveSelection_79 (by decide) h (fun h => ?_) (fun h => ?_)
    · refine r_iconst (v := 0) hK d_M_resolveSelection_114 (by decide) ?_
      refine r_istore_n (ls1 := [(2, g_i 0), (0, g_r 1 r0), (1, g_i x1)]) hK d_M_resolveSelection_115 rfl (by rw [hN]; decide) rfl ?_
      exact r_sub [1, 2, 0] rfl (t_M_resolveSelection_116 hK hN hD _ _ _ _ _ h)
    · refine r_aload_n hK d_M_resolveSelection_82 rfl 0 rfl ?_
      refine r_gR hK fd_M_46 w7_78 d_M_resolveSelection_83 h (fun p3 h => ?_)
      refine r_aload_n hK d_M_resolveSelection_86 rfl 0 rfl ?_
      refine r_gR hK fd_M_37 w7_69 d_M_resolveSelection_87 h (fun p4 h => ?_)
      refine r_iload_n hK d_M_resolveSelection_90 rfl 1 rfl ?_
      refine r_iaload hK ar_20 rfl d_M_resolveSelection_91 h (fun i5 h => ?_)
      refine r_iload_n hK d_M_resolveSelection_92 rfl 2 rfl ?_
      refine r_iadd hK d_M_resolveSelection_93 ?_
      refine r_iaload hK ar_20 rfl d_M_resolveSelection_94 h (fun i6 h => ?_)
      refine r_istore_n (ls1 := [(3, g_i i6), (0, g_r 1 r0), (1, g_i x1), (2, g_i x2)]) hK d_M_resolveSelection_95 rfl (by rw [hN]; decide) rfl ?_
      refine r_iload_n hK d_M_resolveSelection_96 rfl 0 rfl ?_
      refine r_iconst (v := (-1)) hK d_M_resolveSelection_97 (by decide) ?_
      refine r_if_icmpeq (tgt := 108) hK d_M_resolveSelection_98 (by decide) h (fun h => ?_) (fun h => ?_)
      · refine r_iinc (ls1 := [(2, g_i (x2 + 1)), (3, g_i i6), (0, g_r 1 r0), (1, g_i x1)]) hK d_M_resolveSelection_108 3 rfl rfl (by rw [hN]; decide) rfl ?_
        refine r_goto (tgt := 72) hK d_M_resolveSelection_111 (by decide) ?_
        exact r_sub [2, 3, 0] rfl (ih _ _ _ _ h)
      · refine r_aload_n hK d_M_resolveSelection_101 rfl 1 rfl ?_
        refine r_iload_n hK d_M_resolveSelection_102 rfl 2 rfl ?_
        refine r_iload_n hK d_M_resolveSelection_103 rfl 0 rfl ?_
        refine r_iconst (v := (-1)) hK d_M_resolveSelection_104 (by decide) ?_
        refine r_Vv (avL := [g_i x1, g_i i6, g_i (-1)]) (st := []) hK ob_M rfl w9_31 wp_37 w9_29 w9_32 w1_6 (by decide) pl_M_resolveExpression (by rw [hD]; decide) (Nat.le_of_ble_eq_true rfl) rfl d_M_resolveSelection_105 (fun o9 h9 => c_M_resolveExpression _ _ _ _ _ _ _ o9 h9) h (fun s8 h => ?_)
        refine r_iinc (ls1 := [(2, g_i (x2 + 1)), (3, g_i i6), (0, g_r 1 r0), (1, g_i x1)]) hK d_M_resolveSelection_108 3 rfl rfl (by rw [hN]; decide) rfl ?_
        refine r_goto (tgt := 72) hK d_M_resolveSelection_111 (by decide) ?_
        exact r_sub [2, 3, 0] rfl (ih _ _ _ _ h)
set_option maxHeartbeats 4000000 in
set_option maxRecDepth 100000 in
theorem t_M_resolveSelection_2 {K : g_C} {o : (Unit × g_St)} (hK : g_OK K b_M_resolveSelection "FixpointEngineModel" "resolveSelection" (Option.none : Option Jvm.ClassFile.FieldType)) (hN : g_nL K = 4) (hD : g_Kd K = 5) : ∀ (n : Nat) (r0 : Option Nat) (x1 : Int32) (x2 : Int32) (s0 : g_St), f_M_resolveSelection_2 n r0 x1 x2 s0 = some o → g_W K s0 [(0, g_r 1 r0), (1, g_i x1), (2, g_i x2)] [] 2 (g_jV o) := by
  intro n
  induction n with
  | zero =>
    intro r0 x1 x2 s0 h
    cases h
  | succ n ih =>
    intro r0 x1 x2 s0 h
    unfold f_M_resolveSelection_2 at h
    refine r_iload_n hK d_M_resolveSelection_2 rfl 2 rfl ?_
    refine r_aload_n hK d_M_resolveSelection_3 rfl 0 rfl ?_
    refine r_gR hK fd_M_40 w7_72 d_M_resolveSelection_4 h (fun p1 h => ?_)
    refine r_iload_n hK d_M_resolveSelection_7 rfl 1 rfl ?_
    refine r_iaload hK ar_20 rfl d_M_resolveSelection_8 h (fun i2 h => ?_)
    refine r_if_icmpge (tgt := 70) hK d_M_resolveSelection_9 (by decide) h (fun h => ?_) (fun h => ?_)
    · refine r_iconst (v := 0) hK d_M_resolveSelection_70 (by decide) ?_
      refine r_istore_n (ls1 := [(2, g_i 0), (0, g_r 1 r0), (1, g_i x1)]) hK d_M_resolveSelection_71 rfl (by rw [hN]; decide) rfl ?_
      exact r_sub [1, 2, 0] rfl (t_M_resolveSelection_72 hK hN hD _ _ _ _ _ h)
    · refine r_aload_n hK d_M_resolveSelection_12 rfl 0 rfl ?_
      refine r_gR hK fd_M_39 w7_71 d_M_resolveSelection_13 h (fun p3 h => ?_)
      refine r_iload_n hK d_M_resolveSelection_16 rfl 1 rfl ?_
      refine r_iaload hK ar_20 rfl d_M_resolveSelection_17 h (fun i4 h => ?_)
      refine r_iload_n hK d_M_resolveSelection_18 rfl 2 rfl ?_
      refine r_iadd hK d_M_resolveSelection_19 ?_
      refine r_istore_n (ls1 := [(3, g_i (i4 + x2)), (0, g_r 1 r0), (1, g_i x1), (2, g_i x2)]) hK d_M_resolveSelection_20 rfl (by rw [hN]; decide) rfl ?_
      refine r_aload_n hK d_M_resolveSelection_21 rfl 1 rfl ?_
      refine r_iload_n hK d_M_resolveSelection_22 rfl 2 rfl ?_
      refine r_iload_n hK d_M_resolveSelection_23 rfl 0 rfl ?_
      refine r_Vv (avL := [g_i x1, g_i (i4 + x2)]) (st := []) hK ob_M rfl w9_18 wp_34 w9_16 w9_19 w1_6 (by decide) pl_M_resolveSource (by rw [hD]; decide) (Nat.le_of_ble_eq_true rfl) rfl d_M_resolveSelection_24 (fun o9 h9 => c_M_resolveSource _ _ _ _ _ _ o9 h9) h (fun s6 h => ?_)
      refine r_aload_n hK d_M_resolveSelection_27 rfl 1 rfl ?_
      refine r_iload_n hK d_M_resolveSelection_28 rfl 2 rfl ?_
      refine r_aload_n hK d_M_resolveSelection_29 rfl 1 rfl ?_
      refine r_gR hK fd_M_12 w7_44 d_M_resolveSelection_30 h (fun p7 h => ?_)
      refine r_aload_n hK d_M_resolveSelection_33 rfl 1 rfl ?_
      refine r_gR hK fd_M_58 w7_90 d_M_resolveSelection_34 h (fun p8 h => ?_)
      refine r_iload_n hK d_M_resolveSelection_37 rfl 0 rfl ?_
      refine r_iaload hK ar_20 rfl d_M_resolveSelection_38 h (fun i9 h => ?_)
      refine r_laload hK ar_21 rfl d_M_resolveSelection_39 h (fun j10 h => ?_)
      refine r_iconst (v := (-1)) hK d_M_resolveSelection_40 (by decide) ?_
      refine r_Vi (avL := [g_i x1, g_l j10, g_i (-1)]) (st := []) hK ob_M rfl w9_27 wp_36 w9_25 w9_28 w1_6 (by decide) pl_M_slotOf (by rw [hD]; decide) (Nat.le_of_ble_eq_true rfl) rfl d_M_resolveSelection_41 (fun o9 h9 => c_M_slotOf _ _ _ _ _ _ _ o9 h9) h (fun i11 s12 h => ?_)
      refine r_iload_n hK d_M_resolveSelection_44 rfl 3 rfl ?_
      refine r_if_icmpge (tgt := 64) hK d_M_resolveSelection_45 (by decide) h (fun h => ?_) (fun h => ?_)
      · refine r_iinc (ls1 := [(2, g_i (x2 + 1)), (3, g_i (i4 + x2)), (0, g_r 1 r0), (1, g_i x1)]) hK d_M_resolveSelection_64 3 rfl rfl (by rw [hN]; decide) rfl ?_
        refine r_goto (tgt := 2) hK d_M_resolveSelection_67 (by decide) ?_
        exact r_sub [2, 3, 0] rfl (ih _ _ _ _ h)
      · refine r_aload_n hK d_M_resolveSelection_48 rfl 1 rfl ?_
        refine r_iconst (v := 2) hK d_M_resolveSelection_49 (by decide) ?_
        refine r_aload_n hK d_M_resolveSelection_50 rfl 1 rfl ?_
        refine r_gR hK fd_M_11 w7_43 d_M_resolveSelection_51 h (fun p13 h => ?_)
        refine r_aload_n hK d_M_resolveSelection_54 rfl 1 rfl ?_
        refine r_gR hK fd_M_58 w7_90 d_M_resolveSelection_55 h (fun p14 h => ?_)
        refine r_iload_n hK d_M_resolveSelection_58 rfl 0 rfl ?_
        refine r_iaload hK ar_20 rfl d_M_resolveSelection_59 h (fun i15 h => ?_)
        refine r_iaload hK ar_20 rfl d_M_resolveSelection_60 h (fun i16 h => ?_)
        refine r_Vv (avL := [g_i 2, g_i i16]) (st := []) hK ob_M rfl w8_190 wp_17 w8_188 w8_191 w1_6 (by decide) pl_M_note (by rw [hD]; decide) (Nat.le_of_ble_eq_true rfl) rfl d_M_resolveSelection_61 (fun o9 h9 => c_M_note _ _ _ _ _ _ o9 h9) h (fun s18 h => ?_)
        refine r_iinc (ls1 := [(2, g_i (x2 + 1)), (3, g_i (i4 + x2)), (0, g_r 1 r0), (1, g_i x1)]) hK d_M_resolveSelection_64 3 rfl rfl (by rw [hN]; decide) rfl ?_
        refine r_goto (tgt := 2) hK d_M_resolveSelection_67 (by decide) ?_
        exact r_sub [2, 3, 0] rfl (ih _ _ _ _ h)
set_option maxHeartbeats 4000000 in
set_option maxRecDepth 100000 in
theorem t_M_resolveSelection_0 {K : g_C} {o : (Unit × g_St)} (hK : g_OK K b_M_resolveSelection "FixpointEngineModel" "resolveSelection" (Option.none : Option Jvm.ClassFile.FieldType)) (hN : g_nL K = 4) (hD : g_Kd K = 5) : ∀ (r0 : Option Nat) (x1 : Int32) (s0 : g_St), f_M_resolveSelection r0 x1 s0 = some o → g_W K s0 [(0, g_r 1 r0), (1, g_i x1)] [] 0 (g_jV o) := by
  intro r0 x1 s0 h
  unfold f_M_resolveSelection at h
  refine r_iconst (v := 0) hK d_M_resolveSelection_0 (by decide) ?_
  refine r_istore_n (ls1 := [(2, g_i 0), (0, g_r 1 r0), (1, g_i x1)]) hK d_M_resolveSelection_1 rfl (by rw [hN]; decide) rfl ?_
  exact r_sub [1, 2, 0] rfl (t_M_resolveSelection_2 hK hN hD _ _ _ _ _ h)
theorem c_M_resolveSelection (l : Launch) (G : g_G) (r0 : Option Nat) (x1 : Int32) (u : g_St) (o : (Unit × g_St)) (h : f_M_resolveSelection r0 x1 u = some o) : g_Con l G y_M_resolveSelection b_M_resolveSelection 4 (Option.none : Option Jvm.ClassFile.FieldType) 5 [g_r 1 r0, g_i x1] u (g_jV o) :=
  g_Con.of rfl rfl (by decide +kernel) (Nat.le_of_ble_eq_true rfl) (fun K hK hN hD hX => t_M_resolveSelection_0 hK hN hD _ _ _ h)
def f_M_ownColumn_2 : Nat → Option Nat → Int32 → Int32 → Int32 → g_St → Option (Int32 × g_St)
  | 0, _, _, _, _, _ => none
  | n + 1, r0, x1, x2, x3, s0 =>
    g_gR s0 1281 r0 fun p1 =>
    g_aI s0 p1 x1 fun i2 =>
    if i2 ≤ x3 then
      g_gR s0 705 r0 fun p3 =>
      g_aI s0 p3 x2 fun i4 =>
      g_c (g_nn r0 (f_M_note r0 2 i4 s0)) fun _ s6 =>
      some (0, s6)
    else
      g_gR s0 769 r0 fun p7 =>
      g_gR s0 1345 r0 fun p8 =>
      g_aI s0 p8 ((3 * x1) + x3) fun i9 =>
      g_aL s0 p7 i9 fun j10 =>
      g_gR s0 769 r0 fun p11 =>
      g_aL s0 p11 x2 fun j12 =>
      if j10 = j12 then
        some (x3, s0)
      else
        f_M_ownColumn_2 n r0 x1 x2 (x3 + 1) s0
def f_M_ownColumn (r0 : Option Nat) (x1 : Int32) (x2 : Int32) (s0 : g_St) : Option (Int32 × g_St) :=
  f_M_ownColumn_2 200000 r0 x1 x2 0 s0
set_option maxHeartbeats 4000000 in
set_option maxRecDepth 100000 in
theorem t_M_ownColumn_2 {K : g_C} {o : (Int32 × g_St)} (hK : g_OK K b_M_ownColumn "FixpointEngineModel" "ownColumn" (Option.some Jvm.ClassFile.FieldType.int)) (hN : g_nL K = 4) (hD : g_Kd K = 2) : ∀ (n : Nat) (r0 : Option Nat) (x1 : Int32) (x2 : Int32) (x3 : Int32) (s0 : g_St), f_M_ownColumn_2 n r0 x1 x2 x3 s0 = some o → g_W K s0 [(0, g_r 1 r0), (1, g_i x1), (2, g_i x2), (3, g_i x3)] [] 2 (g_jI o) := by
  intro n
  induction n with
  | zero =>
    intro r0 x1 x2 x3 s0 h
    cases h
  | succ n ih =>
    intro r0 x1 x2 x3 s0 h
    unfold f_M_ownColumn_2 at h
    refine r_iload_n hK d_M_ownColumn_2 rfl 3 rfl ?_
    refine r_aload_n hK d_M_ownColumn_3 rfl 0 rfl ?_
    refine r_gR hK fd_M_20 w7_52 d_M_ownColumn_4 h (fun p1 h => ?_)
    refine r_iload_n hK d_M_ownColumn_7 rfl 1 rfl ?_
    refine r_iaload hK ar_20 rfl d_M_ownColumn_8 h (fun i2 h => ?_)
    refine r_if_icmpge (tgt := 45) hK d_M_ownColumn_9 (by decide) h (fun h => ?_) (fun h => ?_)
    · refine r_aload_n hK d_M_ownColumn_45 rfl 0 rfl ?_
      refine r_iconst (v := 2) hK d_M_ownColumn_46 (by decide) ?_
      refine r_aload_n hK d_M_ownColumn_47 rfl 0 rfl ?_
      refine r_gR hK fd_M_11 w7_43 d_M_ownColumn_48 h (fun p3 h => ?_)
      refine r_iload_n hK d_M_ownColumn_51 rfl 2 rfl ?_
      refine r_iaload hK ar_20 rfl d_M_ownColumn_52 h (fun i4 h => ?_)
      refine r_Vv (avL := [g_i 2, g_i i4]) (st := []) hK ob_M rfl w8_190 wp_17 w8_188 w8_191 w1_6 (by decide) pl_M_note (by rw [hD]; decide) (Nat.le_of_ble_eq_true rfl) rfl d_M_ownColumn_53 (fun o9 h9 => c_M_note _ _ _ _ _ _ o9 h9) h (fun s6 h => ?_)
      refine r_iconst (v := 0) hK d_M_ownColumn_56 (by decide) ?_
      exact r_ireturn hK d_M_ownColumn_57 h
    · refine r_aload_n hK d_M_ownColumn_12 rfl 0 rfl ?_
      refine r_gR hK fd_M_12 w7_44 d_M_ownColumn_13 h (fun p7 h => ?_)
      refine r_aload_n hK d_M_ownColumn_16 rfl 0 rfl ?_
      refine r_gR hK fd_M_21 w7_53 d_M_ownColumn_17 h (fun p8 h => ?_)
      refine r_iconst (v := 3) hK d_M_ownColumn_20 (by decide) ?_
      refine r_iload_n hK d_M_ownColumn_21 rfl 1 rfl ?_
      refine r_imul hK d_M_ownColumn_22 ?_
      refine r_iload_n hK d_M_ownColumn_23 rfl 3 rfl ?_
      refine r_iadd hK d_M_ownColumn_24 ?_
      refine r_iaload hK ar_20 rfl d_M_ownColumn_25 h (fun i9 h => ?_)
      refine r_laload hK ar_21 rfl d_M_ownColumn_26 h (fun j10 h => ?_)
      refine r_aload_n hK d_M_ownColumn_27 rfl 0 rfl ?_
      refine r_gR hK fd_M_12 w7_44 d_M_ownColumn_28 h (fun p11 h => ?_)
      refine r_iload_n hK d_M_ownColumn_31 rfl 2 rfl ?_
      refine r_laload hK ar_21 rfl d_M_ownColumn_32 h (fun j12 h => ?_)
      refine r_lifne (tgt := 39) hK d_M_ownColumn_33 d_M_ownColumn_34 (by decide) h (fun h => ?_) (fun h => ?_)
      · refine r_iinc (ls1 := [(3, g_i (x3 + 1)), (0, g_r 1 r0), (1, g_i x1), (2, g_i x2)]) hK d_M_ownColumn_39 3 rfl rfl (by rw [hN]; decide) rfl ?_
        refine r_goto (tgt := 2) hK d_M_ownColumn_42 (by decide) ?_
        exact r_sub [1, 2, 3, 0] rfl (ih _ _ _ _ _ h)
      · refine r_iload_n hK d_M_ownColumn_37 rfl 3 rfl ?_
        exact r_ireturn hK d_M_ownColumn_38 h
set_option maxHeartbeats 4000000 in
set_option maxRecDepth 100000 in
theorem t_M_ownColumn_0 {K : g_C} {o : (Int32 × g_St)} (hK : g_OK K b_M_ownColumn "FixpointEngineModel" "ownColumn" (Option.some Jvm.ClassFile.FieldType.int)) (hN : g_nL K = 4) (hD : g_Kd K = 2) : ∀ (r0 : Option Nat) (x1 : Int32) (x2 : Int32) (s0 : g_St), f_M_ownColumn r0 x1 x2 s0 = some o → g_W K s0 [(0, g_r 1 r0), (1, g_i x1), (2, g_i x2)] [] 0 (g_jI o) := by
  intro r0 x1 x2 s0 h
  unfold f_M_ownColumn at h
  refine r_iconst (v := 0) hK d_M_ownColumn_0 (by decide) ?_
  refine r_istore_n (ls1 := [(3, g_i 0), (0, g_r 1 r0), (1, g_i x1), (2, g_i x2)]) hK d_M_ownColumn_1 rfl (by rw [hN]; decide) rfl ?_
  exact r_sub [1, 2, 3, 0] rfl (t_M_ownColumn_2 hK hN hD _ _ _ _ _ _ h)
theorem c_M_ownColumn (l : Launch) (G : g_G) (r0 : Option Nat) (x1 : Int32) (x2 : Int32) (u : g_St) (o : (Int32 × g_St)) (h : f_M_ownColumn r0 x1 x2 u = some o) : g_Con l G y_M_ownColumn b_M_ownColumn 4 (Option.some Jvm.ClassFile.FieldType.int) 2 [g_r 1 r0, g_i x1, g_i x2] u (g_jI o) :=
  g_Con.of rfl rfl (by decide +kernel) (Nat.le_of_ble_eq_true rfl) (fun K hK hN hD hX => t_M_ownColumn_0 hK hN hD _ _ _ _ h)
def f_M_fresh_45 : Nat → Option Nat → Int32 → Int32 → Int32 → Int32 → Int32 → g_St → Option (Unit × g_St)
  | 0, _, _, _, _, _, _, _ => none
  | n + 1, r0, x1, x2, x3, x5, x6, s0 =>
    if x3 ≤ x6 then
      if x5 = 0 then
        some ((), s0)
      else
        g_gR s0 705 r0 fun p1 =>
        g_aI s0 p1 x2 fun i2 =>
        g_c (g_nn r0 (f_M_note r0 2 i2 s0)) fun _ s4 =>
        some ((), s4)
    else
      if x5 = 0 then
        g_gR s0 769 r0 fun p5 =>
        g_gR s0 1345 r0 fun p6 =>
        g_aI s0 p6 ((3 * x1) + x6) fun i7 =>
        g_aL s0 p5 i7 fun j8 =>
        g_gR s0 769 r0 fun p9 =>
        g_aL s0 p9 x2 fun j10 =>
        if j8 = j10 then
          f_M_fresh_45 n r0 x1 x2 x3 1 (x6 + 1) s0
        else
          f_M_fresh_45 n r0 x1 x2 x3 0 (x6 + 1) s0
      else
        f_M_fresh_45 n r0 x1 x2 x3 1 (x6 + 1) s0
def f_M_fresh (r0 : Option Nat) (x1 : Int32) (x2 : Int32) (x3 : Int32) (x4 : Int32) (s0 : g_St) : Option (Unit × g_St) :=
  if x4 = 0 then
    f_M_fresh_45 200000 r0 x1 x2 x3 0 0 s0
  else
    g_gR s0 1409 r0 fun p1 =>
    g_aI s0 p1 x1 fun i2 =>
    if i2 ≤ 0 then
      f_M_fresh_45 200000 r0 x1 x2 x3 0 0 s0
    else
      g_gR s0 769 r0 fun p3 =>
      g_gR s0 1537 r0 fun p4 =>
      g_aI s0 p4 x1 fun i5 =>
      g_aL s0 p3 i5 fun j6 =>
      g_gR s0 769 r0 fun p7 =>
      g_aL s0 p7 x2 fun j8 =>
      if j6 = j8 then
        f_M_fresh_45 200000 r0 x1 x2 x3 1 0 s0
      else
        f_M_fresh_45 200000 r0 x1 x2 x3 0 0 s0
set_option maxHeartbeats 4000000 in
set_option maxRecDepth 100000 in
theorem t_M_fresh_45 {K : g_C} {o : (Unit × g_St)} (hK : g_OK K b_M_fresh "FixpointEngineModel" "fresh" (Option.none : Option Jvm.ClassFile.FieldType)) (hN : g_nL K = 7) (hD : g_Kd K = 2) : ∀ (n : Nat) (r0 : Option Nat) (x1 : Int32) (x2 : Int32) (x3 : Int32) (x5 : Int32) (x6 : Int32) (s0 : g_St), f_M_fresh_45 n r0 x1 x2 x3 x5 x6 s0 = some o → g_W K s0 [(0, g_r 1 r0), (1, g_i x1), (2, g_i x2), (3, g_i x3), (5, g_i x5), (6, g_i x6)] [] 45 (g_jV o) := by
  intro n
  induction n with
  | zero =>
    intro r0 x1 x2 x3 x5 x6 s0 h
    cases h
  | succ n ih =>
    intro r0 x1 x2 x3 x5 x6 s0 h
    unfold f_M_fresh_45 at h
    refine r_iload hK d_M_fresh_45 5 rfl ?_
    refine r_iload_n hK d_M_fresh_47 rfl 3 rfl ?_
    refine r_if_icmpge (tgt := 95) hK d_M_fresh_48 (by decide) h (fun h => ?_) (fun h => ?_)
    · refine r_iload hK d_M_fresh_95 4 rfl ?_
      refine r_ifeq (tgt := 111) hK d_M_fresh_97 (by decide) h (fun h => ?_) (fun h => ?_)
      · exact r_return hK d_M_fresh_111 h
      · refine r_aload_n hK d_M_fresh_100 rfl 0 rfl ?_
        refine r_iconst (v := 2) hK d_M_fresh_101 (by decide) ?_
        refine r_aload_n hK d_M_fresh_102 rfl 0 rfl ?_
        refine r_gR hK fd_M_11 w7_43 d_M_fresh_103 h (fun p1 h => ?_)
        refine r_iload_n hK d_M_fresh_106 rfl 2 rfl ?_
        refine r_iaload hK ar_20 rfl d_M_fresh_107 h (fun i2 h => ?_)
        refine r_Vv (avL := [g_i 2, g_i i2]) (st := []) hK ob_M rfl w8_190 wp_17 w8_188 w8_191 w1_6 (by decide) pl_M_note (by rw [hD]; decide) (Nat.le_of_ble_eq_true rfl) rfl d_M_fresh_108 (fun o9 h9 => c_M_note _ _ _ _ _ _ o9 h9) h (fun s4 h => ?_)
        exact r_return hK d_M_fresh_111 h
    · refine r_iload hK d_M_fresh_51 4 rfl ?_
      refine r_ifne (tgt := 82) hK d_M_fresh_53 (by decide) h (fun h => ?_) (fun h => ?_)
      · refine r_iconst (v := 1) hK d_M_fresh_82 (by decide) ?_
        refine r_goto (tgt := 87) hK d_M_fresh_83 (by decide) ?_
        refine r_istore (ls1 := [(5, g_i 1), (0, g_r 1 r0), (1, g_i x1), (2, g_i x2), (3, g_i x3), (6, g_i x6)]) hK d_M_fresh_87 (by rw [hN]; decide) rfl ?_
        refine r_iinc (ls1 := [(6, g_i (x6 + 1)), (5, g_i 1), (0, g_r 1 r0), (1, g_i x1), (2, g_i x2), (3, g_i x3)]) hK d_M_fresh_89 5 rfl rfl (by rw [hN]; decide) rfl ?_
        refine r_goto (tgt := 45) hK d_M_fresh_92 (by decide) ?_
        exact r_sub [2, 3, 4, 5, 1, 0] rfl (ih _ _ _ _ _ _ _ h)
      · refine r_aload_n hK d_M_fresh_56 rfl 0 rfl ?_
        refine r_gR hK fd_M_12 w7_44 d_M_fresh_57 h (fun p5 h => ?_)
        refine r_aload_n hK d_M_fresh_60 rfl 0 rfl ?_
        refine r_gR hK fd_M_21 w7_53 d_M_fresh_61 h (fun p6 h => ?_)
        refine r_iconst (v := 3) hK d_M_fresh_64 (by decide) ?_
        refine r_iload_n hK d_M_fresh_65 rfl 1 rfl ?_
        refine r_imul hK d_M_fresh_66 ?_
        refine r_iload hK d_M_fresh_67 5 rfl ?_
        refine r_iadd hK d_M_fresh_69 ?_
        refine r_iaload hK ar_20 rfl d_M_fresh_70 h (fun i7 h => ?_)
        refine r_laload hK ar_21 rfl d_M_fresh_71 h (fun j8 h => ?_)
        refine r_aload_n hK d_M_fresh_72 rfl 0 rfl ?_
        refine r_gR hK fd_M_12 w7_44 d_M_fresh_73 h (fun p9 h => ?_)
        refine r_iload_n hK d_M_fresh_76 rfl 2 rfl ?_
        refine r_laload hK ar_21 rfl d_M_fresh_77 h (fun j10 h => ?_)
        refine r_lifne (tgt := 86) hK d_M_fresh_78 d_M_fresh_79 (by decide) h (fun h => ?_) (fun h => ?_)
        · refine r_iconst (v := 0) hK d_M_fresh_86 (by decide) ?_
          refine r_istore (ls1 := [(5, g_i 0), (0, g_r 1 r0), (1, g_i x1), (2, g_i x2), (3, g_i x3), (6, g_i x6)]) hK d_M_fresh_87 (by rw [hN]; decide) rfl ?_
          refine r_iinc (ls1 := [(6, g_i (x6 + 1)), (5, g_i 0), (0, g_r 1 r0), (1, g_i x1), (2, g_i x2), (3, g_i x3)]) hK d_M_fresh_89 5 rfl rfl (by rw [hN]; decide) rfl ?_
          refine r_goto (tgt := 45) hK d_M_fresh_92 (by decide) ?_
          exact r_sub [2, 3, 4, 5, 1, 0] rfl (ih _ _ _ _ _ _ _ h)
        · refine r_iconst (v := 1) hK d_M_fresh_82 (by decide) ?_
          refine r_goto (tgt := 87) hK d_M_fresh_83 (by decide) ?_
          refine r_istore (ls1 := [(5, g_i 1), (0, g_r 1 r0), (1, g_i x1), (2, g_i x2), (3, g_i x3), (6, g_i x6)]) hK d_M_fresh_87 (by rw [hN]; decide) rfl ?_
          refine r_iinc (ls1 := [(6, g_i (x6 + 1)), (5, g_i 1), (0, g_r 1 r0), (1, g_i x1), (2, g_i x2), (3, g_i x3)]) hK d_M_fresh_89 5 rfl rfl (by rw [hN]; decide) rfl ?_
          refine r_goto (tgt := 45) hK d_M_fresh_92 (by decide) ?_
          exact r_sub [2, 3, 4, 5, 1, 0] rfl (ih _ _ _ _ _ _ _ h)
set_option maxHeartbeats 4000000 in
set_option maxRecDepth 100000 in
theorem t_M_fresh_0 {K : g_C} {o : (Unit × g_St)} (hK : g_OK K b_M_fresh "FixpointEngineModel" "fresh" (Option.none : Option Jvm.ClassFile.FieldType)) (hN : g_nL K = 7) (hD : g_Kd K = 2) : ∀ (r0 : Option Nat) (x1 : Int32) (x2 : Int32) (x3 : Int32) (x4 : Int32) (s0 : g_St), f_M_fresh r0 x1 x2 x3 x4 s0 = some o → g_W K s0 [(0, g_r 1 r0), (1, g_i x1), (2, g_i x2), (3, g_i x3), (4, g_i x4)] [] 0 (g_jV o) := by
  intro r0 x1 x2 x3 x4 s0 h
  unfold f_M_fresh at h
  refine r_iload hK d_M_fresh_0 4 rfl ?_
  refine r_ifeq (tgt := 39) hK d_M_fresh_2 (by decide) h (fun h => ?_) (fun h => ?_)
  · refine r_iconst (v := 0) hK d_M_fresh_39 (by decide) ?_
    refine r_istore (ls1 := [(5, g_i 0), (0, g_r 1 r0), (1, g_i x1), (2, g_i x2), (3, g_i x3), (4, g_i x4)]) hK d_M_fresh_40 (by rw [hN]; decide) rfl ?_
    refine r_iconst (v := 0) hK d_M_fresh_42 (by decide) ?_
    refine r_istore (ls1 := [(6, g_i 0), (5, g_i 0), (0, g_r 1 r0), (1, g_i x1), (2, g_i x2), (3, g_i x3), (4, g_i x4)]) hK d_M_fresh_43 (by rw [hN]; decide) rfl ?_
    exact r_sub [2, 3, 4, 5, 1, 0] rfl (t_M_fresh_45 hK hN hD _ _ _ _ _ _ _ _ h)
  · refine r_aload_n hK d_M_fresh_5 rfl 0 rfl ?_
    refine r_gR hK fd_M_22 w7_54 d_M_fresh_6 h (fun p1 h => ?_)
    refine r_iload_n hK d_M_fresh_9 rfl 1 rfl ?_
    refine r_iaload hK ar_20 rfl d_M_fresh_10 h (fun i2 h => ?_)
    refine r_ifle (tgt := 39) hK d_M_fresh_11 (by decide) h (fun h => ?_) (fun h => ?_)
    · refine r_iconst (v := 0) hK d_M_fresh_39 (by decide) ?_
      refine r_istore (ls1 := [(5, g_i 0), (0, g_r 1 r0), (1, g_i x1), (2, g_i x2), (3, g_i x3), (4, g_i x4)]) hK d_M_fresh_40 (by rw [hN]; decide) rfl ?_
      refine r_iconst (v := 0) hK d_M_fresh_42 (by decide) ?_
      refine r_istore (ls1 := [(6, g_i 0), (5, g_i 0), (0, g_r 1 r0), (1, g_i x1), (2, g_i x2), (3, g_i x3), (4, g_i x4)]) hK d_M_fresh_43 (by rw [hN]; decide) rfl ?_
      exact r_sub [2, 3, 4, 5, 1, 0] rfl (t_M_fresh_45 hK hN hD _ _ _ _ _ _ _ _ h)
    · refine r_aload_n hK d_M_fresh_14 rfl 0 rfl ?_
      refine r_gR hK fd_M_12 w7_44 d_M_fresh_15 h (fun p3 h => ?_)
      refine r_aload_n hK d_M_fresh_18 rfl 0 rfl ?_
      refine r_gR hK fd_M_24 w7_56 d_M_fresh_19 h (fun p4 h => ?_)
      refine r_iload_n hK d_M_fresh_22 rfl 1 rfl ?_
      refine r_iaload hK ar_20 rfl d_M_fresh_23 h (fun i5 h => ?_)
      refine r_laload hK ar_21 rfl d_M_fresh_24 h (fun j6 h => ?_)
      refine r_aload_n hK d_M_fresh_25 rfl 0 rfl ?_
      refine r_gR hK fd_M_12 w7_44 d_M_fresh_26 h (fun p7 h => ?_)
      refine r_iload_n hK d_M_fresh_29 rfl 2 rfl ?_
      refine r_laload hK ar_21 rfl d_M_fresh_30 h (fun j8 h => ?_)
      refine r_lifne (tgt := 39) hK d_M_fresh_31 d_M_fresh_32 (by decide) h (fun h => ?_) (fun h => ?_)
      · refine r_iconst (v := 0) hK d_M_fresh_39 (by decide) ?_
        refine r_istore (ls1 := [(5, g_i 0), (0, g_r 1 r0), (1, g_i x1), (2, g_i x2), (3, g_i x3), (4, g_i x4)]) hK d_M_fresh_40 (by rw [hN]; decide) rfl ?_
        refine r_iconst (v := 0) hK d_M_fresh_42 (by decide) ?_
        refine r_istore (ls1 := [(6, g_i 0), (5, g_i 0), (0, g_r 1 r0), (1, g_i x1), (2, g_i x2), (3, g_i x3), (4, g_i x4)]) hK d_M_fresh_43 (by rw [hN]; decide) rfl ?_
        exact r_sub [2, 3, 4, 5, 1, 0] rfl (t_M_fresh_45 hK hN hD _ _ _ _ _ _ _ _ h)
      · refine r_iconst (v := 1) hK d_M_fresh_35 (by decide) ?_
        refine r_goto (tgt := 40) hK d_M_fresh_36 (by decide) ?_
        refine r_istore (ls1 := [(5, g_i 1), (0, g_r 1 r0), (1, g_i x1), (2, g_i x2), (3, g_i x3), (4, g_i x4)]) hK d_M_fresh_40 (by rw [hN]; decide) rfl ?_
        refine r_iconst (v := 0) hK d_M_fresh_42 (by decide) ?_
        refine r_istore (ls1 := [(6, g_i 0), (5, g_i 1), (0, g_r 1 r0), (1, g_i x1), (2, g_i x2), (3, g_i x3), (4, g_i x4)]) hK d_M_fresh_43 (by rw [hN]; decide) rfl ?_
        exact r_sub [2, 3, 4, 5, 1, 0] rfl (t_M_fresh_45 hK hN hD _ _ _ _ _ _ _ _ h)
theorem c_M_fresh (l : Launch) (G : g_G) (r0 : Option Nat) (x1 : Int32) (x2 : Int32) (x3 : Int32) (x4 : Int32) (u : g_St) (o : (Unit × g_St)) (h : f_M_fresh r0 x1 x2 x3 x4 u = some o) : g_Con l G y_M_fresh b_M_fresh 7 (Option.none : Option Jvm.ClassFile.FieldType) 2 [g_r 1 r0, g_i x1, g_i x2, g_i x3, g_i x4] u (g_jV o) :=
  g_Con.of rfl rfl (by decide +kernel) (Nat.le_of_ble_eq_true rfl) (fun K hK hN hD hX => t_M_fresh_0 hK hN hD _ _ _ _ _ _ h)
def f_M_resolvePart_134 (r0 : Option Nat) (x1 : Int32) (s0 : g_St) : Option (Unit × g_St) :=
  g_gR s0 1601 r0 fun p1 =>
  g_aI s0 p1 x1 fun i2 =>
  if i2 = (-1) then
    some ((), s0)
  else
    g_gR s0 1793 r0 fun p3 =>
    g_gR s0 1601 r0 fun p4 =>
    g_aI s0 p4 x1 fun i5 =>
    g_c (g_nn r0 (f_M_ownColumn r0 x1 i5 s0)) fun i6 s7 =>
    g_sI s7 p3 x1 i6 fun s8 =>
    g_gR s8 1665 r0 fun p9 =>
    g_aI s8 p9 x1 fun i10 =>
    g_gR s8 1281 r0 fun p11 =>
    g_aI s8 p11 x1 fun i12 =>
    g_c (g_nn r0 (f_M_fresh r0 x1 i10 i12 1 s8)) fun _ s14 =>
    some ((), s14)
def f_M_resolvePart_57 : Nat → Option Nat → Int32 → Int32 → g_St → Option (Unit × g_St)
  | 0, _, _, _, _ => none
  | n + 1, r0, x1, x2, s0 =>
    g_gR s0 1281 r0 fun p1 =>
    g_aI s0 p1 x1 fun i2 =>
    if i2 ≤ x2 then
      g_gR s0 1409 r0 fun p3 =>
      g_aI s0 p3 x1 fun i4 =>
      if i4 ≤ 0 then
        f_M_resolvePart_134 r0 x1 s0
      else
        g_gR s0 1729 r0 fun p5 =>
        g_gR s0 1473 r0 fun p6 =>
        g_aI s0 p6 x1 fun i7 =>
        g_c (g_nn r0 (f_M_ownColumn r0 x1 i7 s0)) fun i8 s9 =>
        g_sI s9 p5 x1 i8 fun s10 =>
        g_gR s10 1537 r0 fun p11 =>
        g_aI s10 p11 x1 fun i12 =>
        g_gR s10 1281 r0 fun p13 =>
        g_aI s10 p13 x1 fun i14 =>
        g_c (g_nn r0 (f_M_fresh r0 x1 i12 i14 0 s10)) fun _ s16 =>
        f_M_resolvePart_134 r0 x1 s16
    else
      g_gR s0 1345 r0 fun p17 =>
      g_aI s0 p17 ((3 * x1) + x2) fun i18 =>
      g_c (g_nn r0 (f_M_fresh r0 x1 i18 x2 0 s0)) fun _ s20 =>
      f_M_resolvePart_57 n r0 x1 (x2 + 1) s20
def f_M_resolvePart_2 : Nat → Option Nat → Int32 → Int32 → g_St → Option (Unit × g_St)
  | 0, _, _, _, _ => none
  | n + 1, r0, x1, x2, s0 =>
    if x1 ≤ x2 then
      f_M_resolvePart_57 200000 r0 x1 1 s0
    else
      g_gR s0 769 r0 fun p1 =>
      g_gR s0 1217 r0 fun p2 =>
      g_aI s0 p2 x2 fun i3 =>
      g_aL s0 p1 i3 fun j4 =>
      g_gR s0 769 r0 fun p5 =>
      g_gR s0 1217 r0 fun p6 =>
      g_aI s0 p6 x1 fun i7 =>
      g_aL s0 p5 i7 fun j8 =>
      if j4 = j8 then
        g_gR s0 705 r0 fun p9 =>
        g_gR s0 1217 r0 fun p10 =>
        g_aI s0 p10 x1 fun i11 =>
        g_aI s0 p9 i11 fun i12 =>
        g_c (g_nn r0 (f_M_note r0 2 i12 s0)) fun _ s14 =>
        f_M_resolvePart_2 n r0 x1 (x2 + 1) s14
      else
        f_M_resolvePart_2 n r0 x1 (x2 + 1) s0
def f_M_resolvePart (r0 : Option Nat) (x1 : Int32) (s0 : g_St) : Option (Unit × g_St) :=
  f_M_resolvePart_2 200000 r0 x1 0 s0
set_option maxHeartbeats 4000000 in
set_option maxRecDepth 100000 in
theorem t_M_resolvePart_134 {K : g_C} {o : (Unit × g_St)} (hK : g_OK K b_M_resolvePart "FixpointEngineModel" "resolvePart" (Option.none : Option Jvm.ClassFile.FieldType)) (hN : g_nL K = 3) (hD : g_Kd K = 3) : ∀ (r0 : Option Nat) (x1 : Int32) (s0 : g_St), f_M_resolvePart_134 r0 x1 s0 = some o → g_W K s0 [(0, g_r 1 r0), (1, g_i x1)] [] 134 (g_jV o) := by
  intro r0 x1 s0 h
  unfold f_M_resolvePart_134 at h
  refine r_aload_n hK d_M_resolvePart_134 rfl 0 rfl ?_
  refine r_gR hK fd_M_25 w7_57 d_M_resolvePart_135 h (fun p1 h => ?_)
  refine r_iload_n hK d_M_resolvePart_138 rfl 1 rfl ?_
  refine r_iaload hK ar_20 rfl d_M_resolvePart_139 h (fun i2 h => ?_)
  refine r_iconst (v := (-1)) hK d_M_resolvePart_140 (by decide) ?_
  refine r_if_icmpeq (tgt := 179) hK d_M_resolvePart_141 (by decide) h (fun h => ?_) (fun h => ?_)
  · exact r_return hK d_M_resolvePart_179 h
  · refine r_aload_n hK d_M_resolvePart_144 rfl 0 rfl ?_
    refine r_gR hK fd_M_28 w7_60 d_M_resolvePart_145 h (fun p3 h => ?_)
    refine r_iload_n hK d_M_resolvePart_148 rfl 1 rfl ?_
    refine r_aload_n hK d_M_resolvePart_149 rfl 0 rfl ?_
    refine r_iload_n hK d_M_resolvePart_150 rfl 1 rfl ?_
    refine r_aload_n hK d_M_resolvePart_151 rfl 0 rfl ?_
    refine r_gR hK fd_M_25 w7_57 d_M_resolvePart_152 h (fun p4 h => ?_)
    refine r_iload_n hK d_M_resolvePart_155 rfl 1 rfl ?_
    refine r_iaload hK ar_20 rfl d_M_resolvePart_156 h (fun i5 h => ?_)
    refine r_Vi (avL := [g_i x1, g_i i5]) (st := [g_i x1, g_r 20 p3]) hK ob_M rfl w9_10 wp_32 w9_8 w9_11 w1_6 (by decide) pl_M_ownColumn (by rw [hD]; decide) (Nat.le_of_ble_eq_true rfl) rfl d_M_resolvePart_157 (fun o9 h9 => c_M_ownColumn _ _ _ _ _ _ o9 h9) h (fun i6 s7 h => ?_)
    refine r_iastore hK ar_20 rfl d_M_resolvePart_160 h (fun s8 h => ?_)
    refine r_aload_n hK d_M_resolvePart_161 rfl 0 rfl ?_
    refine r_iload_n hK d_M_resolvePart_162 rfl 1 rfl ?_
    refine r_aload_n hK d_M_resolvePart_163 rfl 0 rfl ?_
    refine r_gR hK fd_M_26 w7_58 d_M_resolvePart_164 h (fun p9 h => ?_)
    refine r_iload_n hK d_M_resolvePart_167 rfl 1 rfl ?_
    refine r_iaload hK ar_20 rfl d_M_resolvePart_168 h (fun i10 h => ?_)
    refine r_aload_n hK d_M_resolvePart_169 rfl 0 rfl ?_
    refine r_gR hK fd_M_20 w7_52 d_M_resolvePart_170 h (fun p11 h => ?_)
    refine r_iload_n hK d_M_resolvePart_173 rfl 1 rfl ?_
    refine r_iaload hK ar_20 rfl d_M_resolvePart_174 h (fun i12 h => ?_)
    refine r_iconst (v := 1) hK d_M_resolvePart_175 (by decide) ?_
    refine r_Vv (avL := [g_i x1, g_i i10, g_i i12, g_i 1]) (st := []) hK ob_M rfl w9_6 wp_31 w9_4 w9_7 w1_6 (by decide) pl_M_fresh (by rw [hD]; decide) (Nat.le_of_ble_eq_true rfl) rfl d_M_resolvePart_176 (fun o9 h9 => c_M_fresh _ _ _ _ _ _ _ _ o9 h9) h (fun s14 h => ?_)
    exact r_return hK d_M_resolvePart_179 h
set_option maxHeartbeats 4000000 in
set_option maxRecDepth 100000 in
theorem t_M_resolvePart_57 {K : g_C} {o : (Unit × g_St)} (hK : g_OK K b_M_resolvePart "FixpointEngineModel" "resolvePart" (Option.none : Option Jvm.ClassFile.FieldType)) (hN : g_nL K = 3) (hD : g_Kd K = 3) : ∀ (n : Nat) (r0 : Option Nat) (x1 : Int32) (x2 : Int32) (s0 : g_St), f_M_resolvePart_57 n r0 x1 x2 s0 = some o → g_W K s0 [(0, g_r 1 r0), (1, g_i x1), (2, g_i x2)] [] 57 (g_jV o) := by
  intro n
  induction n with
  | zero =>
    intro r0 x1 x2 s0 h
    cases h
  | succ n ih =>
    intro r0 x1 x2 s0 h
    unfold f_M_resolvePart_57 at h
    refine r_iload_n hK d_M_resolvePart_57 rfl 2 rfl ?_
    refine r_aload_n hK d_M_resolvePart_58 rfl 0 rfl ?_
    refine r_gR hK fd_M_20 w7_52 d_M_resolvePart_59 h (fun p1 h => ?_)
    refine r_iload_n hK d_M_resolvePart_62 rfl 1 rfl ?_
    refine r_iaload hK ar_20 rfl d_M_resolvePart_63 h (fun i2 h => ?_)
    refine r_if_icmpge (tgt := 90) hK d_M_resolvePart_64 (by decide) h (fun h => ?_) (fun h => ?_)
    · refine r_aload_n hK d_M_resolvePart_90 rfl 0 rfl ?_
      refine r_gR hK fd_M_22 w7_54 d_M_resolvePart_91 h (fun p3 h => ?_)
      refine r_iload_n hK d_M_resolvePart_94 rfl 1 rfl ?_
      refine r_iaload hK ar_20 rfl d_M_resolvePart_95 h (fun i4 h => ?_)
      refine r_ifle (tgt := 134) hK d_M_resolvePart_96 (by decide) h (fun h => ?_) (fun h => ?_)
      · exact r_sub [0, 1] rfl (t_M_resolvePart_134 hK hN hD _ _ _ h)
      · refine r_aload_n hK d_M_resolvePart_99 rfl 0 rfl ?_
        refine r_gR hK fd_M_27 w7_59 d_M_resolvePart_100 h (fun p5 h => ?_)
        refine r_iload_n hK d_M_resolvePart_103 rfl 1 rfl ?_
        refine r_aload_n hK d_M_resolvePart_104 rfl 0 rfl ?_
        refine r_iload_n hK d_M_resolvePart_105 rfl 1 rfl ?_
        refine r_aload_n hK d_M_resolvePart_106 rfl 0 rfl ?_
        refine r_gR hK fd_M_23 w7_55 d_M_resolvePart_107 h (fun p6 h => ?_)
        refine r_iload_n hK d_M_resolvePart_110 rfl 1 rfl ?_
        refine r_iaload hK ar_20 rfl d_M_resolvePart_111 h (fun i7 h => ?_)
        refine r_Vi (avL := [g_i x1, g_i i7]) (st := [g_i x1, g_r 20 p5]) hK ob_M rfl w9_10 wp_32 w9_8 w9_11 w1_6 (by decide) pl_M_ownColumn (by rw [hD]; decide) (Nat.le_of_ble_eq_true rfl) rfl d_M_resolvePart_112 (fun o9 h9 => c_M_ownColumn _ _ _ _ _ _ o9 h9) h (fun i8 s9 h => ?_)
        refine r_iastore hK ar_20 rfl d_M_resolvePart_115 h (fun s10 h => ?_)
        refine r_aload_n hK d_M_resolvePart_116 rfl 0 rfl ?_
        refine r_iload_n hK d_M_resolvePart_117 rfl 1 rfl ?_
        refine r_aload_n hK d_M_resolvePart_118 rfl 0 rfl ?_
        refine r_gR hK fd_M_24 w7_56 d_M_resolvePart_119 h (fun p11 h => ?_)
        refine r_iload_n hK d_M_resolvePart_122 rfl 1 rfl ?_
        refine r_iaload hK ar_20 rfl d_M_resolvePart_123 h (fun i12 h => ?_)
        refine r_aload_n hK d_M_resolvePart_124 rfl 0 rfl ?_
        refine r_gR hK fd_M_20 w7_52 d_M_resolvePart_125 h (fun p13 h => ?_)
        refine r_iload_n hK d_M_resolvePart_128 rfl 1 rfl ?_
        refine r_iaload hK ar_20 rfl d_M_resolvePart_129 h (fun i14 h => ?_)
        refine r_iconst (v := 0) hK d_M_resolvePart_130 (by decide) ?_
        refine r_Vv (avL := [g_i x1, g_i i12, g_i i14, g_i 0]) (st := []) hK ob_M rfl w9_6 wp_31 w9_4 w9_7 w1_6 (by decide) pl_M_fresh (by rw [hD]; decide) (Nat.le_of_ble_eq_true rfl) rfl d_M_resolvePart_131 (fun o9 h9 => c_M_fresh _ _ _ _ _ _ _ _ o9 h9) h (fun s16 h => ?_)
        exact r_sub [0, 1] rfl (t_M_resolvePart_134 hK hN hD _ _ _ h)
    · refine r_aload_n hK d_M_resolvePart_67 rfl 0 rfl ?_
      refine r_iload_n hK d_M_resolvePart_68 rfl 1 rfl ?_
      refine r_aload_n hK d_M_resolvePart_69 rfl 0 rfl ?_
      refine r_gR hK fd_M_21 w7_53 d_M_resolvePart_70 h (fun p17 h => ?_)
      refine r_iconst (v := 3) hK d_M_resolvePart_73 (by decide) ?_
      refine r_iload_n hK d_M_resolvePart_74 rfl 1 rfl ?_
      refine r_imul hK d_M_resolvePart_75 ?_
      refine r_iload_n hK d_M_resolvePart_76 rfl 2 rfl ?_
      refine r_iadd hK d_M_resolvePart_77 ?_
      refine r_iaload hK ar_20 rfl d_M_resolvePart_78 h (fun i18 h => ?_)
      refine r_iload_n hK d_M_resolvePart_79 rfl 2 rfl ?_
      refine r_iconst (v := 0) hK d_M_resolvePart_80 (by decide) ?_
      refine r_Vv (avL := [g_i x1, g_i i18, g_i x2, g_i 0]) (st := []) hK ob_M rfl w9_6 wp_31 w9_4 w9_7 w1_6 (by decide) pl_M_fresh (by rw [hD]; decide) (Nat.le_of_ble_eq_true rfl) rfl d_M_resolvePart_81 (fun o9 h9 => c_M_fresh _ _ _ _ _ _ _ _ o9 h9) h (fun s20 h => ?_)
      refine r_iinc (ls1 := [(2, g_i (x2 + 1)), (0, g_r 1 r0), (1, g_i x1)]) hK d_M_resolvePart_84 2 rfl rfl (by rw [hN]; decide) rfl ?_
      refine r_goto (tgt := 57) hK d_M_resolvePart_87 (by decide) ?_
      exact r_sub [1, 2, 0] rfl (ih _ _ _ _ h)
set_option maxHeartbeats 4000000 in
set_option maxRecDepth 100000 in
theorem t_M_resolvePart_2 {K : g_C} {o : (Unit × g_St)} (hK : g_OK K b_M_resolvePart "FixpointEngineModel" "resolvePart" (Option.none : Option Jvm.ClassFile.FieldType)) (hN : g_nL K = 3) (hD : g_Kd K = 3) : ∀ (n : Nat) (r0 : Option Nat) (x1 : Int32) (x2 : Int32) (s0 : g_St), f_M_resolvePart_2 n r0 x1 x2 s0 = some o → g_W K s0 [(0, g_r 1 r0), (1, g_i x1), (2, g_i x2)] [] 2 (g_jV o) := by
  intro n
  induction n with
  | zero =>
    intro r0 x1 x2 s0 h
    cases h
  | succ n ih =>
    intro r0 x1 x2 s0 h
    unfold f_M_resolvePart_2 at h
    refine r_iload_n hK d_M_resolvePart_2 rfl 2 rfl ?_
    refine r_iload_n hK d_M_resolvePart_3 rfl 1 rfl ?_
    refine r_if_icmpge (tgt := 55) hK d_M_resolvePart_4 (by decide) h (fun h => ?_) (fun h => ?_)
    · refine r_iconst (v := 1) hK d_M_resolvePart_55 (by decide) ?_
      refine r_istore_n (ls1 := [(2, g_i 1), (0, g_r 1 r0), (1, g_i x1)]) hK d_M_resolvePart_56 rfl (by rw [hN]; decide) rfl ?_
      exact r_sub [1, 2, 0] rfl (t_M_resolvePart_57 hK hN hD _ _ _ _ _ h)
    · refine r_aload_n hK d_M_resolvePart_7 rfl 0 rfl ?_
      refine r_gR hK fd_M_12 w7_44 d_M_resolvePart_8 h (fun p1 h => ?_)
      refine r_aload_n hK d_M_resolvePart_11 rfl 0 rfl ?_
      refine r_gR hK fd_M_19 w7_51 d_M_resolvePart_12 h (fun p2 h => ?_)
      refine r_iload_n hK d_M_resolvePart_15 rfl 2 rfl ?_
      refine r_iaload hK ar_20 rfl d_M_resolvePart_16 h (fun i3 h => ?_)
      refine r_laload hK ar_21 rfl d_M_resolvePart_17 h (fun j4 h => ?_)
      refine r_aload_n hK d_M_resolvePart_18 rfl 0 rfl ?_
      refine r_gR hK fd_M_12 w7_44 d_M_resolvePart_19 h (fun p5 h => ?_)
      refine r_aload_n hK d_M_resolvePart_22 rfl 0 rfl ?_
      refine r_gR hK fd_M_19 w7_51 d_M_resolvePart_23 h (fun p6 h => ?_)
      refine r_iload_n hK d_M_resolvePart_26 rfl 1 rfl ?_
      refine r_iaload hK ar_20 rfl d_M_resolvePart_27 h (fun i7 h => ?_)
      refine r_laload hK ar_21 rfl d_M_resolvePart_28 h (fun j8 h => ?_)
      refine r_lifne (tgt := 49) hK d_M_resolvePart_29 d_M_resolvePart_30 (by decide) h (fun h => ?_) (fun h => ?_)
      · refine r_iinc (ls1 := [(2, g_i (x2 + 1)), (0, g_r 1 r0), (1, g_i x1)]) hK d_M_resolvePart_49 2 rfl rfl (by rw [hN]; decide) rfl ?_
        refine r_goto (tgt := 2) hK d_M_resolvePart_52 (by decide) ?_
        exact r_sub [1, 2, 0] rfl (ih _ _ _ _ h)
      · refine r_aload_n hK d_M_resolvePart_33 rfl 0 rfl ?_
        refine r_iconst (v := 2) hK d_M_resolvePart_34 (by decide) ?_
        refine r_aload_n hK d_M_resolvePart_35 rfl 0 rfl ?_
        refine r_gR hK fd_M_11 w7_43 d_M_resolvePart_36 h (fun p9 h => ?_)
        refine r_aload_n hK d_M_resolvePart_39 rfl 0 rfl ?_
        refine r_gR hK fd_M_19 w7_51 d_M_resolvePart_40 h (fun p10 h => ?_)
        refine r_iload_n hK d_M_resolvePart_43 rfl 1 rfl ?_
        refine r_iaload hK ar_20 rfl d_M_resolvePart_44 h (fun i11 h => ?_)
        refine r_iaload hK ar_20 rfl d_M_resolvePart_45 h (fun i12 h => ?_)
        refine r_Vv (avL := [g_i 2, g_i i12]) (st := []) hK ob_M rfl w8_190 wp_17 w8_188 w8_191 w1_6 (by decide) pl_M_note (by rw [hD]; decide) (Nat.le_of_ble_eq_true rfl) rfl d_M_resolvePart_46 (fun o9 h9 => c_M_note _ _ _ _ _ _ o9 h9) h (fun s14 h => ?_)
        refine r_iinc (ls1 := [(2, g_i (x2 + 1)), (0, g_r 1 r0), (1, g_i x1)]) hK d_M_resolvePart_49 2 rfl rfl (by rw [hN]; decide) rfl ?_
        refine r_goto (tgt := 2) hK d_M_resolvePart_52 (by decide) ?_
        exact r_sub [1, 2, 0] rfl (ih _ _ _ _ h)
set_option maxHeartbeats 4000000 in
set_option maxRecDepth 100000 in
theorem t_M_resolvePart_0 {K : g_C} {o : (Unit × g_St)} (hK : g_OK K b_M_resolvePart "FixpointEngineModel" "resolvePart" (Option.none : Option Jvm.ClassFile.FieldType)) (hN : g_nL K = 3) (hD : g_Kd K = 3) : ∀ (r0 : Option Nat) (x1 : Int32) (s0 : g_St), f_M_resolvePart r0 x1 s0 = some o → g_W K s0 [(0, g_r 1 r0), (1, g_i x1)] [] 0 (g_jV o) := by
  intro r0 x1 s0 h
  unfold f_M_resolvePart at h
  refine r_iconst (v := 0) hK d_M_resolvePart_0 (by decide) ?_
  refine r_istore_n (ls1 := [(2, g_i 0), (0, g_r 1 r0), (1, g_i x1)]) hK d_M_resolvePart_1 rfl (by rw [hN]; decide) rfl ?_
  exact r_sub [1, 2, 0] rfl (t_M_resolvePart_2 hK hN hD _ _ _ _ _ h)
theorem c_M_resolvePart (l : Launch) (G : g_G) (r0 : Option Nat) (x1 : Int32) (u : g_St) (o : (Unit × g_St)) (h : f_M_resolvePart r0 x1 u = some o) : g_Con l G y_M_resolvePart b_M_resolvePart 3 (Option.none : Option Jvm.ClassFile.FieldType) 3 [g_r 1 r0, g_i x1] u (g_jV o) :=
  g_Con.of rfl rfl (by decide +kernel) (Nat.le_of_ble_eq_true rfl) (fun K hK hN hD hX => t_M_resolvePart_0 hK hN hD _ _ _ h)
def f_M_resolveOrder_111 (k32 : Option Nat → Int32 → Int32 → g_St → Option (Unit × g_St)) (r0 : Option Nat) (x1 : Int32) (x2 : Int32) (x3 : Int32) (r0s : Option Nat) (x1s : Int32) (x2s : Int32) (s0 : g_St) : Option (Unit × g_St) :=
  g_sI s0 r0s x1s x2s fun s1 =>
  g_gR s1 4609 r0 fun p2 =>
  g_aI s1 p2 x2 fun i3 =>
  if i3 = (-1) then
    g_gR s1 705 r0 fun p4 =>
    g_aI s1 p4 x3 fun i5 =>
    g_c (g_nn r0 (f_M_note r0 2 i5 s1)) fun _ s7 =>
    k32 r0 x1 (x2 + 1) s7
  else
    k32 r0 x1 (x2 + 1) s1
def f_M_resolveOrder_32 : Nat → Option Nat → Int32 → Int32 → g_St → Option (Unit × g_St)
  | 0, _, _, _, _ => none
  | n + 1, r0, x1, x2, s0 =>
    g_gI s0 4353 r0 fun i1 =>
    if i1 ≤ x2 then
      some ((), s0)
    else
      g_gR s0 4481 r0 fun p2 =>
      g_aI s0 p2 x2 fun i3 =>
      g_gR s0 769 r0 fun p4 =>
      g_aL s0 p4 i3 fun j5 =>
      g_c (g_nn r0 (f_M_slotOf r0 x1 j5 (-1) s0)) fun i6 s7 =>
      g_gR s7 4545 r0 fun p8 =>
      g_sI s7 p8 x2 i6 fun s9 =>
      g_gR s9 4609 r0 fun p10 =>
      if i6 = (-1) then
        f_M_resolveOrder_111 (f_M_resolveOrder_32 n) r0 x1 x2 i3 p10 x2 (-1) s9
      else
        g_gR s9 3777 r0 fun p11 =>
        g_gR s9 2497 r0 fun p12 =>
        g_aI s9 p12 x1 fun i13 =>
        g_aI s9 p11 (i13 + i6) fun i14 =>
        g_gR s9 769 r0 fun p15 =>
        g_aL s9 p15 (i3 + 2) fun j16 =>
        g_c (g_nn r0 (f_M_columnOf r0 i14 j16 1 s9)) fun i17 s18 =>
        f_M_resolveOrder_111 (f_M_resolveOrder_32 n) r0 x1 x2 i3 p10 x2 i17 s18
def f_M_resolveOrder (r0 : Option Nat) (x1 : Int32) (s0 : g_St) : Option (Unit × g_St) :=
  g_gI s0 4353 r0 fun i1 =>
  if i1 ≤ 0 then
    f_M_resolveOrder_32 200000 r0 x1 0 s0
  else
    g_gR s0 2753 r0 fun p2 =>
    g_aI s0 p2 x1 fun i3 =>
    if i3 = 0 then
      f_M_resolveOrder_32 200000 r0 x1 0 s0
    else
      g_gR s0 705 r0 fun p4 =>
      g_gI s0 4417 r0 fun i5 =>
      g_aI s0 p4 i5 fun i6 =>
      g_c (g_nn r0 (f_M_note r0 2 i6 s0)) fun _ s8 =>
      f_M_resolveOrder_32 200000 r0 x1 0 s8
set_option maxHeartbeats 4000000 in
set_option maxRecDepth 100000 in
theorem t_M_resolveOrder_111 {K : g_C} {o : (Unit × g_St)} (hK : g_OK K b_M_resolveOrder "FixpointEngineModel" "resolveOrder" (Option.none : Option Jvm.ClassFile.FieldType)) (hN : g_nL K = 5) (hD : g_Kd K = 2) {k32 : Option Nat → Int32 → Int32 → g_St → Option (Unit × g_St)} (hk32 : ∀ (r0 : Option Nat) (x1 : Int32) (x2 : Int32) (s0 : g_St), k32 r0 x1 x2 s0 = some o → g_W K s0 [(0, g_r 1 r0), (1, g_i x1), (2, g_i x2)] [] 32 (g_jV o)) : ∀ (r0 : Option Nat) (x1 : Int32) (x2 : Int32) (x3 : Int32) (r0s : Option Nat) (x1s : Int32) (x2s : Int32) (s0 : g_St), f_M_resolveOrder_111 k32 r0 x1 x2 x3 r0s x1s x2s s0 = some o → g_W K s0 [(0, g_r 1 r0), (1, g_i x1), (2, g_i x2), (3, g_i x3)] [g_i x2s, g_i x1s, g_r 20 r0s] 111 (g_jV o) := by
  intro r0 x1 x2 x3 r0s x1s x2s s0 h
  unfold f_M_resolveOrder_111 at h
  refine r_iastore hK ar_20 rfl d_M_resolveOrder_111 h (fun s1 h => ?_)
  refine r_aload_n hK d_M_resolveOrder_112 rfl 0 rfl ?_
  refine r_gR hK fd_M_72 w7_104 d_M_resolveOrder_113 h (fun p2 h => ?_)
  refine r_iload_n hK d_M_resolveOrder_116 rfl 2 rfl ?_
  refine r_iaload hK ar_20 rfl d_M_resolveOrder_117 h (fun i3 h => ?_)
  refine r_iconst (v := (-1)) hK d_M_resolveOrder_118 (by decide) ?_
  refine r_if_icmpne (tgt := 133) hK d_M_resolveOrder_119 (by decide) h (fun h => ?_) (fun h => ?_)
  · refine r_iinc (ls1 := [(2, g_i (x2 + 1)), (0, g_r 1 r0), (1, g_i x1), (3, g_i x3)]) hK d_M_resolveOrder_133 2 rfl rfl (by rw [hN]; decide) rfl ?_
    refine r_goto (tgt := 32) hK d_M_resolveOrder_136 (by decide) ?_
    exact r_sub [1, 2, 0] rfl (hk32 _ _ _ _ h)
  · refine r_aload_n hK d_M_resolveOrder_122 rfl 0 rfl ?_
    refine r_iconst (v := 2) hK d_M_resolveOrder_123 (by decide) ?_
    refine r_aload_n hK d_M_resolveOrder_124 rfl 0 rfl ?_
    refine r_gR hK fd_M_11 w7_43 d_M_resolveOrder_125 h (fun p4 h => ?_)
    refine r_iload_n hK d_M_resolveOrder_128 rfl 3 rfl ?_
    refine r_iaload hK ar_20 rfl d_M_resolveOrder_129 h (fun i5 h => ?_)
    refine r_Vv (avL := [g_i 2, g_i i5]) (st := []) hK ob_M rfl w8_190 wp_17 w8_188 w8_191 w1_6 (by decide) pl_M_note (by rw [hD]; decide) (Nat.le_of_ble_eq_true rfl) rfl d_M_resolveOrder_130 (fun o9 h9 => c_M_note _ _ _ _ _ _ o9 h9) h (fun s7 h => ?_)
    refine r_iinc (ls1 := [(2, g_i (x2 + 1)), (0, g_r 1 r0), (1, g_i x1), (3, g_i x3)]) hK d_M_resolveOrder_133 2 rfl rfl (by rw [hN]; decide) rfl ?_
    refine r_goto (tgt := 32) hK d_M_resolveOrder_136 (by decide) ?_
    exact r_sub [1, 2, 0] rfl (hk32 _ _ _ _ h)
set_option maxHeartbeats 4000000 in
set_option maxRecDepth 100000 in
theorem t_M_resolveOrder_32 {K : g_C} {o : (Unit × g_St)} (hK : g_OK K b_M_resolveOrder "FixpointEngineModel" "resolveOrder" (Option.none : Option Jvm.ClassFile.FieldType)) (hN : g_nL K = 5) (hD : g_Kd K = 2) : ∀ (n : Nat) (r0 : Option Nat) (x1 : Int32) (x2 : Int32) (s0 : g_St), f_M_resolveOrder_32 n r0 x1 x2 s0 = some o → g_W K s0 [(0, g_r 1 r0), (1, g_i x1), (2, g_i x2)] [] 32 (g_jV o) := by
  intro n
  induction n with
  | zero =>
    intro r0 x1 x2 s0 h
    cases h
  | succ n ih =>
    intro r0 x1 x2 s0 h
    unfold f_M_resolveOrder_32 at h
    refine r_iload_n hK d_M_resolveOrder_32 rfl 2 rfl ?_
    refine r_aload_n hK d_M_resolveOrder_33 rfl 0 rfl ?_
    refine r_gI hK fd_M_68 w7_100 d_M_resolveOrder_34 h (fun i1 h => ?_)
    refine r_if_icmpge (tgt := 139) hK d_M_resolveOrder_37 (by decide) h (fun h => ?_) (fun h => ?_)
    · exact r_return hK d_M_resolveOrder_139 h
    · refine r_aload_n hK d_M_resolveOrder_40 rfl 0 rfl ?_
      refine r_gR hK fd_M_70 w7_102 d_M_resolveOrder_41 h (fun p2 h => ?_)
      refine r_iload_n hK d_M_resolveOrder_44 rfl 2 rfl ?_
      refine r_iaload hK ar_20 rfl d_M_resolveOrder_45 h (fun i3 h => ?_)
      refine r_istore_n (ls1 := [(3, g_i i3), (0, g_r 1 r0), (1, g_i x1), (2, g_i x2)]) hK d_M_resolveOrder_46 rfl (by rw [hN]; decide) rfl ?_
      refine r_aload_n hK d_M_resolveOrder_47 rfl 1 rfl ?_
      refine r_iload_n hK d_M_resolveOrder_48 rfl 2 rfl ?_
      refine r_aload_n hK d_M_resolveOrder_49 rfl 1 rfl ?_
      refine r_gR hK fd_M_12 w7_44 d_M_resolveOrder_50 h (fun p4 h => ?_)
      refine r_iload_n hK d_M_resolveOrder_53 rfl 0 rfl ?_
      refine r_laload hK ar_21 rfl d_M_resolveOrder_54 h (fun j5 h => ?_)
      refine r_iconst (v := (-1)) hK d_M_resolveOrder_55 (by decide) ?_
      refine r_Vi (avL := [g_i x1, g_l j5, g_i (-1)]) (st := []) hK ob_M rfl w9_27 wp_36 w9_25 w9_28 w1_6 (by decide) pl_M_slotOf (by rw [hD]; decide) (Nat.le_of_ble_eq_true rfl) rfl d_M_resolveOrder_56 (fun o9 h9 => c_M_slotOf _ _ _ _ _ _ _ o9 h9) h (fun i6 s7 h => ?_)
      refine r_istore (ls1 := [(4, g_i i6), (3, g_i i3), (0, g_r 1 r0), (1, g_i x1), (2, g_i x2)]) hK d_M_resolveOrder_59 (by rw [hN]; decide) rfl ?_
      refine r_aload_n hK d_M_resolveOrder_61 rfl 2 rfl ?_
      refine r_gR hK fd_M_71 w7_103 d_M_resolveOrder_62 h (fun p8 h => ?_)
      refine r_iload_n hK d_M_resolveOrder_65 rfl 4 rfl ?_
      refine r_iload hK d_M_resolveOrder_66 0 rfl ?_
      refine r_iastore hK ar_20 rfl d_M_resolveOrder_68 h (fun s9 h => ?_)
      refine r_aload_n hK d_M_resolveOrder_69 rfl 2 rfl ?_
      refine r_gR hK fd_M_72 w7_104 d_M_resolveOrder_70 h (fun p10 h => ?_)
      refine r_iload_n hK d_M_resolveOrder_73 rfl 4 rfl ?_
      refine r_iload hK d_M_resolveOrder_74 0 rfl ?_
      refine r_iconst (v := (-1)) hK d_M_resolveOrder_76 (by decide) ?_
      refine r_if_icmpne (tgt := 84) hK d_M_resolveOrder_77 (by decide) h (fun h => ?_) (fun h => ?_)
      · refine r_aload_n hK d_M_resolveOrder_84 rfl 2 rfl ?_
        refine r_aload_n hK d_M_resolveOrder_85 rfl 2 rfl ?_
        refine r_gR hK fd_M_59 w7_91 d_M_resolveOrder_86 h (fun p11 h => ?_)
        refine r_aload_n hK d_M_resolveOrder_89 rfl 2 rfl ?_
        refine r_gR hK fd_M_39 w7_71 d_M_resolveOrder_90 h (fun p12 h => ?_)
        refine r_iload_n hK d_M_resolveOrder_93 rfl 3 rfl ?_
        refine r_iaload hK ar_20 rfl d_M_resolveOrder_94 h (fun i13 h => ?_)
        refine r_iload hK d_M_resolveOrder_95 0 rfl ?_
        refine r_iadd hK d_M_resolveOrder_97 ?_
        refine r_iaload hK ar_20 rfl d_M_resolveOrder_98 h (fun i14 h => ?_)
        refine r_aload_n hK d_M_resolveOrder_99 rfl 2 rfl ?_
        refine r_gR hK fd_M_12 w7_44 d_M_resolveOrder_100 h (fun p15 h => ?_)
        refine r_iload_n hK d_M_resolveOrder_103 rfl 1 rfl ?_
        refine r_iconst (v := 2) hK d_M_resolveOrder_104 (by decide) ?_
        refine r_iadd hK d_M_resolveOrder_105 ?_
        refine r_laload hK ar_21 rfl d_M_resolveOrder_106 h (fun j16 h => ?_)
        refine r_iconst (v := 1) hK d_M_resolveOrder_107 (by decide) ?_
        refine r_Vi (avL := [g_i i14, g_l j16, g_i 1]) (st := [g_i x2, g_r 20 p10]) hK ob_M rfl w9_35 wp_38 w9_33 w9_36 w1_6 (by decide) pl_M_columnOf (by rw [hD]; decide) (Nat.le_of_ble_eq_true rfl) rfl d_M_resolveOrder_108 (fun o9 h9 => c_M_columnOf _ _ _ _ _ _ _ o9 h9) h (fun i17 s18 h => ?_)
        exact r_sub [2, 3, 4, 1] rfl (t_M_resolveOrder_111 hK hN hD ih _ _ _ _ _ _ _ _ h)
      · refine r_iconst (v := (-1)) hK d_M_resolveOrder_80 (by decide) ?_
        refine r_goto (tgt := 111) hK d_M_resolveOrder_81 (by decide) ?_
        exact r_sub [2, 3, 4, 1] rfl (t_M_resolveOrder_111 hK hN hD ih _ _ _ _ _ _ _ _ h)
set_option maxHeartbeats 4000000 in
set_option maxRecDepth 100000 in
theorem t_M_resolveOrder_0 {K : g_C} {o : (Unit × g_St)} (hK : g_OK K b_M_resolveOrder "FixpointEngineModel" "resolveOrder" (Option.none : Option Jvm.ClassFile.FieldType)) (hN : g_nL K = 5) (hD : g_Kd K = 2) : ∀ (r0 : Option Nat) (x1 : Int32) (s0 : g_St), f_M_resolveOrder r0 x1 s0 = some o → g_W K s0 [(0, g_r 1 r0), (1, g_i x1)] [] 0 (g_jV o) := by
  intro r0 x1 s0 h
  unfold f_M_resolveOrder at h
  refine r_aload_n hK d_M_resolveOrder_0 rfl 0 rfl ?_
  refine r_gI hK fd_M_68 w7_100 d_M_resolveOrder_1 h (fun i1 h => ?_)
  refine r_ifle (tgt := 30) hK d_M_resolveOrder_4 (by decide) h (fun h => ?_) (fun h => ?_)
  · refine r_iconst (v := 0) hK d_M_resolveOrder_30 (by decide) ?_
    refine r_istore_n (ls1 := [(2, g_i 0), (0, g_r 1 r0), (1, g_i x1)]) hK d_M_resolveOrder_31 rfl (by rw [hN]; decide) rfl ?_
    exact r_sub [1, 2, 0] rfl (t_M_resolveOrder_32 hK hN hD _ _ _ _ _ h)
  · refine r_aload_n hK d_M_resolveOrder_7 rfl 0 rfl ?_
    refine r_gR hK fd_M_43 w7_75 d_M_resolveOrder_8 h (fun p2 h => ?_)
    refine r_iload_n hK d_M_resolveOrder_11 rfl 1 rfl ?_
    refine r_zaload hK ar_31 rfl d_M_resolveOrder_12 h (fun i3 h => ?_)
    refine r_ifeq (tgt := 30) hK d_M_resolveOrder_13 (by decide) h (fun h => ?_) (fun h => ?_)
    · refine r_iconst (v := 0) hK d_M_resolveOrder_30 (by decide) ?_
      refine r_istore_n (ls1 := [(2, g_i 0), (0, g_r 1 r0), (1, g_i x1)]) hK d_M_resolveOrder_31 rfl (by rw [hN]; decide) rfl ?_
      exact r_sub [1, 2, 0] rfl (t_M_resolveOrder_32 hK hN hD _ _ _ _ _ h)
    · refine r_aload_n hK d_M_resolveOrder_16 rfl 0 rfl ?_
      refine r_iconst (v := 2) hK d_M_resolveOrder_17 (by decide) ?_
      refine r_aload_n hK d_M_resolveOrder_18 rfl 0 rfl ?_
      refine r_gR hK fd_M_11 w7_43 d_M_resolveOrder_19 h (fun p4 h => ?_)
      refine r_aload_n hK d_M_resolveOrder_22 rfl 0 rfl ?_
      refine r_gI hK fd_M_69 w7_101 d_M_resolveOrder_23 h (fun i5 h => ?_)
      refine r_iaload hK ar_20 rfl d_M_resolveOrder_26 h (fun i6 h => ?_)
      refine r_Vv (avL := [g_i 2, g_i i6]) (st := []) hK ob_M rfl w8_190 wp_17 w8_188 w8_191 w1_6 (by decide) pl_M_note (by rw [hD]; decide) (Nat.le_of_ble_eq_true rfl) rfl d_M_resolveOrder_27 (fun o9 h9 => c_M_note _ _ _ _ _ _ o9 h9) h (fun s8 h => ?_)
      refine r_iconst (v := 0) hK d_M_resolveOrder_30 (by decide) ?_
      refine r_istore_n (ls1 := [(2, g_i 0), (0, g_r 1 r0), (1, g_i x1)]) hK d_M_resolveOrder_31 rfl (by rw [hN]; decide) rfl ?_
      exact r_sub [1, 2, 0] rfl (t_M_resolveOrder_32 hK hN hD _ _ _ _ _ h)
theorem c_M_resolveOrder (l : Launch) (G : g_G) (r0 : Option Nat) (x1 : Int32) (u : g_St) (o : (Unit × g_St)) (h : f_M_resolveOrder r0 x1 u = some o) : g_Con l G y_M_resolveOrder b_M_resolveOrder 5 (Option.none : Option Jvm.ClassFile.FieldType) 2 [g_r 1 r0, g_i x1] u (g_jV o) :=
  g_Con.of rfl rfl (by decide +kernel) (Nat.le_of_ble_eq_true rfl) (fun K hK hN hD hX => t_M_resolveOrder_0 hK hN hD _ _ _ h)
def f_M_partNamed (r0 : Option Nat) (x1 : Int32) (s0 : g_St) : Option (Int32 × g_St) :=
  g_gR s0 3777 r0 fun p1 =>
  g_aI s0 p1 x1 fun i2 =>
  if i2 < 10 then
    some (0, s0)
  else
    g_gR s0 3777 r0 fun p3 =>
    g_aI s0 p3 x1 fun i4 =>
    some (1 <<< ((i4 - 10) &&& 31), s0)
set_option maxHeartbeats 4000000 in
set_option maxRecDepth 100000 in
theorem t_M_partNamed_0 {K : g_C} {o : (Int32 × g_St)} (hK : g_OK K b_M_partNamed "FixpointEngineModel" "partNamed" (Option.some Jvm.ClassFile.FieldType.int)) (hN : g_nL K = 2) (hD : g_Kd K = 1) : ∀ (r0 : Option Nat) (x1 : Int32) (s0 : g_St), f_M_partNamed r0 x1 s0 = some o → g_W K s0 [(0, g_r 1 r0), (1, g_i x1)] [] 0 (g_jI o) := by
  intro r0 x1 s0 h
  unfold f_M_partNamed at h
  refine r_aload_n hK d_M_partNamed_0 rfl 0 rfl ?_
  refine r_gR hK fd_M_59 w7_91 d_M_partNamed_1 h (fun p1 h => ?_)
  refine r_iload_n hK d_M_partNamed_4 rfl 1 rfl ?_
  refine r_iaload hK ar_20 rfl d_M_partNamed_5 h (fun i2 h => ?_)
  refine r_bipush (v := 10) hK d_M_partNamed_6 (by decide) ?_
  refine r_if_icmplt (tgt := 25) hK d_M_partNamed_8 (by decide) h (fun h => ?_) (fun h => ?_)
  · refine r_iconst (v := 0) hK d_M_partNamed_25 (by decide) ?_
    exact r_ireturn hK d_M_partNamed_26 h
  · refine r_iconst (v := 1) hK d_M_partNamed_11 (by decide) ?_
    refine r_aload_n hK d_M_partNamed_12 rfl 0 rfl ?_
    refine r_gR hK fd_M_59 w7_91 d_M_partNamed_13 h (fun p3 h => ?_)
    refine r_iload_n hK d_M_partNamed_16 rfl 1 rfl ?_
    refine r_iaload hK ar_20 rfl d_M_partNamed_17 h (fun i4 h => ?_)
    refine r_bipush (v := 10) hK d_M_partNamed_18 (by decide) ?_
    refine r_isub hK d_M_partNamed_20 ?_
    refine r_ishl hK d_M_partNamed_21 ?_
    refine r_goto (tgt := 26) hK d_M_partNamed_22 (by decide) ?_
    exact r_ireturn hK d_M_partNamed_26 h
theorem c_M_partNamed (l : Launch) (G : g_G) (r0 : Option Nat) (x1 : Int32) (u : g_St) (o : (Int32 × g_St)) (h : f_M_partNamed r0 x1 u = some o) : g_Con l G y_M_partNamed b_M_partNamed 2 (Option.some Jvm.ClassFile.FieldType.int) 1 [g_r 1 r0, g_i x1] u (g_jI o) :=
  g_Con.of rfl rfl (by decide +kernel) (Nat.le_of_ble_eq_true rfl) (fun K hK hN hD hX => t_M_partNamed_0 hK hN hD _ _ _ h)
