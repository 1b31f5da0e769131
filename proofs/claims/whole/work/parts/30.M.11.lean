def f_M_fits (y0 : Int64) (s0 : g_St) : Option (Int32 × g_St) :=
  if y0 = 1099511627776 then
    g_rZ 1 (some (1, s0))
  else
    g_c (f_M_isInt y0 s0) fun i1 s2 =>
    if i1 = 0 then
      g_rZ 0 (some (0, s2))
    else
      g_rZ 1 (some (1, s2))
set_option maxHeartbeats 4000000 in
set_option maxRecDepth 100000 in
theorem t_M_fits_0 {K : g_C} {o : (Int32 × g_St)} (hK : g_OK K b_M_fits "FixpointEngineModel" "fits" (Option.some Jvm.ClassFile.FieldType.boolean)) (hN : g_nL K = 2) (hD : g_Kd K = 2) : ∀ (y0 : Int64) (s0 : g_St), f_M_fits y0 s0 = some o → g_W K s0 [(0, g_l y0)] [] 0 (g_jI o) := by
  intro y0 s0 h
  unfold f_M_fits at h
  refine r_lload_n hK d_M_fits_0 rfl 0 rfl ?_
  refine r_ldc2 hK w8_112 d_M_fits_1 ?_
  refine r_lifeq (tgt := 15) hK d_M_fits_4 d_M_fits_5 (by decide) h (fun h => ?_) (fun h => ?_)
  · refine r_iconst (v := 1) hK d_M_fits_15 (by decide) ?_
    refine r_goto (tgt := 20) hK d_M_fits_16 (by decide) ?_
    exact r_zreturn hK d_M_fits_20 h
  · refine r_lload_n hK d_M_fits_8 rfl 0 rfl ?_
    refine r_Si (avL := [g_l y0]) (st := []) hK w9_153 w9_152 w9_154 w1_6 (by decide) pl_M_isInt (by rw [hD]; decide) (Nat.le_of_ble_eq_true rfl) rfl d_M_fits_9 (fun o9 h9 => c_M_isInt _ _ _ _ o9 h9) h (fun i1 s2 h => ?_)
    refine r_ifeq (tgt := 19) hK d_M_fits_12 (by decide) h (fun h => ?_) (fun h => ?_)
    · refine r_iconst (v := 0) hK d_M_fits_19 (by decide) ?_
      exact r_zreturn hK d_M_fits_20 h
    · refine r_iconst (v := 1) hK d_M_fits_15 (by decide) ?_
      refine r_goto (tgt := 20) hK d_M_fits_16 (by decide) ?_
      exact r_zreturn hK d_M_fits_20 h
theorem c_M_fits (l : Launch) (G : g_G) (y0 : Int64) (u : g_St) (o : (Int32 × g_St)) (h : f_M_fits y0 u = some o) : g_Con l G y_M_fits b_M_fits 2 (Option.some Jvm.ClassFile.FieldType.boolean) 2 [g_l y0] u (g_jI o) :=
  g_Con.of rfl rfl (by decide +kernel) (Nat.le_of_ble_eq_true rfl) (fun K hK hN hD hX => t_M_fits_0 hK hN hD _ _ h)
def f_M_itemOf (r0 : Option Nat) (x1 : Int32) (x2 : Int32) (s0 : g_St) : Option (Int64 × g_St) :=
  g_gR s0 2945 r0 fun p1 =>
  g_gR s0 2369 r0 fun p2 =>
  g_aI s0 p2 x1 fun i3 =>
  g_aI s0 p1 (i3 + x2) fun i4 =>
  g_c (g_nn r0 (f_M_valueOf r0 i4 s0)) fun j5 s6 =>
  some (j5, s6)
set_option maxHeartbeats 4000000 in
set_option maxRecDepth 100000 in
theorem t_M_itemOf_0 {K : g_C} {o : (Int64 × g_St)} (hK : g_OK K b_M_itemOf "FixpointEngineModel" "itemOf" (Option.some Jvm.ClassFile.FieldType.long)) (hN : g_nL K = 3) (hD : g_Kd K = 3) : ∀ (r0 : Option Nat) (x1 : Int32) (x2 : Int32) (s0 : g_St), f_M_itemOf r0 x1 x2 s0 = some o → g_W K s0 [(0, g_r 1 r0), (1, g_i x1), (2, g_i x2)] [] 0 (g_jL o) := by
  intro r0 x1 x2 s0 h
  unfold f_M_itemOf at h
  refine r_aload_n hK d_M_itemOf_0 rfl 0 rfl ?_
  refine r_aload_n hK d_M_itemOf_1 rfl 0 rfl ?_
  refine r_gR hK fd_M_46 w7_78 d_M_itemOf_2 h (fun p1 h => ?_)
  refine r_aload_n hK d_M_itemOf_5 rfl 0 rfl ?_
  refine r_gR hK fd_M_37 w7_69 d_M_itemOf_6 h (fun p2 h => ?_)
  refine r_iload_n hK d_M_itemOf_9 rfl 1 rfl ?_
  refine r_iaload hK ar_20 rfl d_M_itemOf_10 h (fun i3 h => ?_)
  refine r_iload_n hK d_M_itemOf_11 rfl 2 rfl ?_
  refine r_iadd hK d_M_itemOf_12 ?_
  refine r_iaload hK ar_20 rfl d_M_itemOf_13 h (fun i4 h => ?_)
  refine r_Vl (avL := [g_i i4]) (st := []) hK ob_M rfl w9_135 wp_60 w9_133 w9_136 w1_6 (by decide) pl_M_valueOf (by rw [hD]; decide) (Nat.le_of_ble_eq_true rfl) rfl d_M_itemOf_14 (fun o9 h9 => c_M_valueOf _ _ _ _ _ o9 h9) h (fun j5 s6 h => ?_)
  exact r_lreturn hK d_M_itemOf_17 h
theorem c_M_itemOf (l : Launch) (G : g_G) (r0 : Option Nat) (x1 : Int32) (x2 : Int32) (u : g_St) (o : (Int64 × g_St)) (h : f_M_itemOf r0 x1 x2 u = some o) : g_Con l G y_M_itemOf b_M_itemOf 3 (Option.some Jvm.ClassFile.FieldType.long) 3 [g_r 1 r0, g_i x1, g_i x2] u (g_jL o) :=
  g_Con.of rfl rfl (by decide +kernel) (Nat.le_of_ble_eq_true rfl) (fun K hK hN hD hX => t_M_itemOf_0 hK hN hD _ _ _ _ h)
def f_M_kindOf (r0 : Option Nat) (x1 : Int32) (x2 : Int32) (s0 : g_St) : Option (Int32 × g_St) :=
  g_gR s0 2881 r0 fun p1 =>
  g_gR s0 2369 r0 fun p2 =>
  g_aI s0 p2 x1 fun i3 =>
  g_aI s0 p1 (i3 + x2) fun i4 =>
  some (i4, s0)
set_option maxHeartbeats 4000000 in
set_option maxRecDepth 100000 in
theorem t_M_kindOf_0 {K : g_C} {o : (Int32 × g_St)} (hK : g_OK K b_M_kindOf "FixpointEngineModel" "kindOf" (Option.some Jvm.ClassFile.FieldType.int)) (hN : g_nL K = 3) (hD : g_Kd K = 1) : ∀ (r0 : Option Nat) (x1 : Int32) (x2 : Int32) (s0 : g_St), f_M_kindOf r0 x1 x2 s0 = some o → g_W K s0 [(0, g_r 1 r0), (1, g_i x1), (2, g_i x2)] [] 0 (g_jI o) := by
  intro r0 x1 x2 s0 h
  unfold f_M_kindOf at h
  refine r_aload_n hK d_M_kindOf_0 rfl 0 rfl ?_
  refine r_gR hK fd_M_45 w7_77 d_M_kindOf_1 h (fun p1 h => ?_)
  refine r_aload_n hK d_M_kindOf_4 rfl 0 rfl ?_
  refine r_gR hK fd_M_37 w7_69 d_M_kindOf_5 h (fun p2 h => ?_)
  refine r_iload_n hK d_M_kindOf_8 rfl 1 rfl ?_
  refine r_iaload hK ar_20 rfl d_M_kindOf_9 h (fun i3 h => ?_)
  refine r_iload_n hK d_M_kindOf_10 rfl 2 rfl ?_
  refine r_iadd hK d_M_kindOf_11 ?_
  refine r_iaload hK ar_20 rfl d_M_kindOf_12 h (fun i4 h => ?_)
  exact r_ireturn hK d_M_kindOf_13 h
theorem c_M_kindOf (l : Launch) (G : g_G) (r0 : Option Nat) (x1 : Int32) (x2 : Int32) (u : g_St) (o : (Int32 × g_St)) (h : f_M_kindOf r0 x1 x2 u = some o) : g_Con l G y_M_kindOf b_M_kindOf 3 (Option.some Jvm.ClassFile.FieldType.int) 1 [g_r 1 r0, g_i x1, g_i x2] u (g_jI o) :=
  g_Con.of rfl rfl (by decide +kernel) (Nat.le_of_ble_eq_true rfl) (fun K hK hN hD hX => t_M_kindOf_0 hK hN hD _ _ _ _ h)
def f_M_openGroup_60 (k2 : Option Nat → Int32 → Int32 → g_St → Option (Unit × g_St)) (r0 : Option Nat) (x1 : Int32) (x2 : Int32) (r0s : Option Nat) (x1s : Int32) (y2s : Int64) (s0 : g_St) : Option (Unit × g_St) :=
  g_sL s0 r0s x1s y2s fun s1 =>
  g_gR s1 6465 r0 fun p2 =>
  g_gI s1 6337 r0 fun i3 =>
  g_sL s1 p2 ((4 * i3) + x2) 0 fun s4 =>
  k2 r0 x1 (x2 + 1) s4
def f_M_openGroup_2 : Nat → Option Nat → Int32 → Int32 → g_St → Option (Unit × g_St)
  | 0, _, _, _, _ => none
  | n + 1, r0, x1, x2, s0 =>
    g_gR s0 2433 r0 fun p1 =>
    g_aI s0 p1 x1 fun i2 =>
    if i2 ≤ x2 then
      g_gI s0 6337 r0 fun i3 =>
      g_pI s0 6337 r0 (i3 + 1) fun s4 =>
      some ((), s4)
    else
      g_gR s0 6401 r0 fun p5 =>
      g_gI s0 6337 r0 fun i6 =>
      g_c (g_nn r0 (f_M_kindOf r0 x1 x2 s0)) fun i7 s8 =>
      if i7 = 0 then
        g_c (g_nn r0 (f_M_itemOf r0 x1 x2 s8)) fun j11 s12 =>
        f_M_openGroup_60 (f_M_openGroup_2 n) r0 x1 x2 p5 ((4 * i6) + x2) j11 s12
      else
        g_c (g_nn r0 (f_M_kindOf r0 x1 x2 s8)) fun i9 s10 =>
        if i9 = 21 then
          f_M_openGroup_60 (f_M_openGroup_2 n) r0 x1 x2 p5 ((4 * i6) + x2) 0 s10
        else
          f_M_openGroup_60 (f_M_openGroup_2 n) r0 x1 x2 p5 ((4 * i6) + x2) 1099511627776 s10
def f_M_openGroup (r0 : Option Nat) (x1 : Int32) (s0 : g_St) : Option (Unit × g_St) :=
  f_M_openGroup_2 200000 r0 x1 0 s0
set_option maxHeartbeats 4000000 in
set_option maxRecDepth 100000 in
theorem t_M_openGroup_60 {K : g_C} {o : (Unit × g_St)} (hK : g_OK K b_M_openGroup "FixpointEngineModel" "openGroup" (Option.none : Option Jvm.ClassFile.FieldType)) (hN : g_nL K = 3) (hD : g_Kd K = 4) {k2 : Option Nat → Int32 → Int32 → g_St → Option (Unit × g_St)} (hk2 : ∀ (r0 : Option Nat) (x1 : Int32) (x2 : Int32) (s0 : g_St), k2 r0 x1 x2 s0 = some o → g_W K s0 [(0, g_r 1 r0), (1, g_i x1), (2, g_i x2)] [] 2 (g_jV o)) : ∀ (r0 : Option Nat) (x1 : Int32) (x2 : Int32) (r0s : Option Nat) (x1s : Int32) (y2s : Int64) (s0 : g_St), f_M_openGroup_60 k2 r0 x1 x2 r0s x1s y2s s0 = some o → g_W K s0 [(0, g_r 1 r0), (1, g_i x1), (2, g_i x2)] [g_l y2s, g_i x1s, g_r 21 r0s] 60 (g_jV o) := by
  intro r0 x1 x2 r0s x1s y2s s0 h
  unfold f_M_openGroup_60 at h
  refine r_lastore hK ar_21 rfl d_M_openGroup_60 h (fun s1 h => ?_)
  refine r_aload_n hK d_M_openGroup_61 rfl 0 rfl ?_
  refine r_gR hK fd_M_101 w7_133 d_M_openGroup_62 h (fun p2 h => ?_)
  refine r_iconst (v := 4) hK d_M_openGroup_65 (by decide) ?_
  refine r_aload_n hK d_M_openGroup_66 rfl 0 rfl ?_
  refine r_gI hK fd_M_99 w7_131 d_M_openGroup_67 h (fun i3 h => ?_)
  refine r_imul hK d_M_openGroup_70 ?_
  refine r_iload_n hK d_M_openGroup_71 rfl 2 rfl ?_
  refine r_iadd hK d_M_openGroup_72 ?_
  refine r_lconst (v := 0) hK d_M_openGroup_73 (by decide) ?_
  refine r_lastore hK ar_21 rfl d_M_openGroup_74 h (fun s4 h => ?_)
  refine r_iinc (ls1 := [(2, g_i (x2 + 1)), (0, g_r 1 r0), (1, g_i x1)]) hK d_M_openGroup_75 2 rfl rfl (by rw [hN]; decide) rfl ?_
  refine r_goto (tgt := 2) hK d_M_openGroup_78 (by decide) ?_
  exact r_sub [1, 2, 0] rfl (hk2 _ _ _ _ h)
set_option maxHeartbeats 4000000 in
set_option maxRecDepth 100000 in
theorem t_M_openGroup_2 {K : g_C} {o : (Unit × g_St)} (hK : g_OK K b_M_openGroup "FixpointEngineModel" "openGroup" (Option.none : Option Jvm.ClassFile.FieldType)) (hN : g_nL K = 3) (hD : g_Kd K = 4) : ∀ (n : Nat) (r0 : Option Nat) (x1 : Int32) (x2 : Int32) (s0 : g_St), f_M_openGroup_2 n r0 x1 x2 s0 = some o → g_W K s0 [(0, g_r 1 r0), (1, g_i x1), (2, g_i x2)] [] 2 (g_jV o) := by
  intro n
  induction n with
  | zero =>
    intro r0 x1 x2 s0 h
    cases h
  | succ n ih =>
    intro r0 x1 x2 s0 h
    unfold f_M_openGroup_2 at h
    refine r_iload_n hK d_M_openGroup_2 rfl 2 rfl ?_
    refine r_aload_n hK d_M_openGroup_3 rfl 0 rfl ?_
    refine r_gR hK fd_M_38 w7_70 d_M_openGroup_4 h (fun p1 h => ?_)
    refine r_iload_n hK d_M_openGroup_7 rfl 1 rfl ?_
    refine r_iaload hK ar_20 rfl d_M_openGroup_8 h (fun i2 h => ?_)
    refine r_if_icmpge (tgt := 81) hK d_M_openGroup_9 (by decide) h (fun h => ?_) (fun h => ?_)
    · refine r_aload_n hK d_M_openGroup_81 rfl 0 rfl ?_
      refine r_dup hK d_M_openGroup_82 rfl ?_
      refine r_gI hK fd_M_99 w7_131 d_M_openGroup_83 h (fun i3 h => ?_)
      refine r_iconst (v := 1) hK d_M_openGroup_86 (by decide) ?_
      refine r_iadd hK d_M_openGroup_87 ?_
      refine r_pI hK fd_M_99 rfl w7_131 d_M_openGroup_88 h (fun s4 h => ?_)
      exact r_return hK d_M_openGroup_91 h
    · refine r_aload_n hK d_M_openGroup_12 rfl 0 rfl ?_
      refine r_gR hK fd_M_100 w7_132 d_M_openGroup_13 h (fun p5 h => ?_)
      refine r_iconst (v := 4) hK d_M_openGroup_16 (by decide) ?_
      refine r_aload_n hK d_M_openGroup_17 rfl 0 rfl ?_
      refine r_gI hK fd_M_99 w7_131 d_M_openGroup_18 h (fun i6 h => ?_)
      refine r_imul hK d_M_openGroup_21 ?_
      refine r_iload_n hK d_M_openGroup_22 rfl 2 rfl ?_
      refine r_iadd hK d_M_openGroup_23 ?_
      refine r_aload_n hK d_M_openGroup_24 rfl 0 rfl ?_
      refine r_iload_n hK d_M_openGroup_25 rfl 1 rfl ?_
      refine r_iload_n hK d_M_openGroup_26 rfl 2 rfl ?_
      refine r_Vi (avL := [g_i x1, g_i x2]) (st := [g_i ((4 * i6) + x2), g_r 21 p5]) hK ob_M rfl w9_143 wp_62 w9_141 w9_144 w1_6 (by decide) pl_M_kindOf (by rw [hD]; decide) (Nat.le_of_ble_eq_true rfl) rfl d_M_openGroup_27 (fun o9 h9 => c_M_kindOf _ _ _ _ _ _ o9 h9) h (fun i7 s8 h => ?_)
      refine r_ifne (tgt := 42) hK d_M_openGroup_30 (by decide) h (fun h => ?_) (fun h => ?_)
      · refine r_aload_n hK d_M_openGroup_42 rfl 0 rfl ?_
        refine r_iload_n hK d_M_openGroup_43 rfl 1 rfl ?_
        refine r_iload_n hK d_M_openGroup_44 rfl 2 rfl ?_
        refine r_Vi (avL := [g_i x1, g_i x2]) (st := [g_i ((4 * i6) + x2), g_r 21 p5]) hK ob_M rfl w9_143 wp_62 w9_141 w9_144 w1_6 (by decide) pl_M_kindOf (by rw [hD]; decide) (Nat.le_of_ble_eq_true rfl) rfl d_M_openGroup_45 (fun o9 h9 => c_M_kindOf _ _ _ _ _ _ o9 h9) h (fun i9 s10 h => ?_)
        refine r_bipush (v := 21) hK d_M_openGroup_48 (by decide) ?_
        refine r_if_icmpne (tgt := 57) hK d_M_openGroup_50 (by decide) h (fun h => ?_) (fun h => ?_)
        · refine r_ldc2 hK w8_112 d_M_openGroup_57 ?_
          exact r_sub [0, 1, 2] rfl (t_M_openGroup_60 hK hN hD ih _ _ _ _ _ _ _ h)
        · refine r_lconst (v := 0) hK d_M_openGroup_53 (by decide) ?_
          refine r_goto (tgt := 60) hK d_M_openGroup_54 (by decide) ?_
          exact r_sub [0, 1, 2] rfl (t_M_openGroup_60 hK hN hD ih _ _ _ _ _ _ _ h)
      · refine r_aload_n hK d_M_openGroup_33 rfl 0 rfl ?_
        refine r_iload_n hK d_M_openGroup_34 rfl 1 rfl ?_
        refine r_iload_n hK d_M_openGroup_35 rfl 2 rfl ?_
        refine r_Vl (avL := [g_i x1, g_i x2]) (st := [g_i ((4 * i6) + x2), g_r 21 p5]) hK ob_M rfl w9_147 wp_63 w9_145 w9_148 w1_6 (by decide) pl_M_itemOf (by rw [hD]; decide) (Nat.le_of_ble_eq_true rfl) rfl d_M_openGroup_36 (fun o9 h9 => c_M_itemOf _ _ _ _ _ _ o9 h9) h (fun j11 s12 h => ?_)
        refine r_goto (tgt := 60) hK d_M_openGroup_39 (by decide) ?_
        exact r_sub [0, 1, 2] rfl (t_M_openGroup_60 hK hN hD ih _ _ _ _ _ _ _ h)
set_option maxHeartbeats 4000000 in
set_option maxRecDepth 100000 in
theorem t_M_openGroup_0 {K : g_C} {o : (Unit × g_St)} (hK : g_OK K b_M_openGroup "FixpointEngineModel" "openGroup" (Option.none : Option Jvm.ClassFile.FieldType)) (hN : g_nL K = 3) (hD : g_Kd K = 4) : ∀ (r0 : Option Nat) (x1 : Int32) (s0 : g_St), f_M_openGroup r0 x1 s0 = some o → g_W K s0 [(0, g_r 1 r0), (1, g_i x1)] [] 0 (g_jV o) := by
  intro r0 x1 s0 h
  unfold f_M_openGroup at h
  refine r_iconst (v := 0) hK d_M_openGroup_0 (by decide) ?_
  refine r_istore_n (ls1 := [(2, g_i 0), (0, g_r 1 r0), (1, g_i x1)]) hK d_M_openGroup_1 rfl (by rw [hN]; decide) rfl ?_
  exact r_sub [1, 2, 0] rfl (t_M_openGroup_2 hK hN hD _ _ _ _ _ h)
theorem c_M_openGroup (l : Launch) (G : g_G) (r0 : Option Nat) (x1 : Int32) (u : g_St) (o : (Unit × g_St)) (h : f_M_openGroup r0 x1 u = some o) : g_Con l G y_M_openGroup b_M_openGroup 3 (Option.none : Option Jvm.ClassFile.FieldType) 4 [g_r 1 r0, g_i x1] u (g_jV o) :=
  g_Con.of rfl rfl (by decide +kernel) (Nat.le_of_ble_eq_true rfl) (fun K hK hN hD hX => t_M_openGroup_0 hK hN hD _ _ _ h)
def f_M_groupOf_21 (k4 : Option Nat → Int32 → Int32 → Int32 → g_St → Option (Int32 × g_St)) : Nat → Option Nat → Int32 → Int32 → Int32 → Int32 → g_St → Option (Int32 × g_St)
  | 0, _, _, _, _, _, _ => none
  | n + 1, r0, x1, x2, x3, x4, s0 =>
    g_gR s0 2433 r0 fun p1 =>
    g_aI s0 p1 x1 fun i2 =>
    if i2 ≤ x4 then
      if x3 = 0 then
        k4 r0 x1 (x2 + 1) x3 s0
      else
        k4 r0 x1 (x2 + 0) x3 s0
    else
      if x3 = 0 then
        f_M_groupOf_21 k4 n r0 x1 x2 0 (x4 + 1) s0
      else
        g_c (g_nn r0 (f_M_kindOf r0 x1 x4 s0)) fun i3 s4 =>
        if 0 < i3 then
          f_M_groupOf_21 k4 n r0 x1 x2 1 (x4 + 1) s4
        else
          g_gR s4 6401 r0 fun p5 =>
          g_aL s4 p5 ((4 * x2) + x4) fun j6 =>
          g_c (g_nn r0 (f_M_itemOf r0 x1 x4 s4)) fun j7 s8 =>
          if j6 = j7 then
            f_M_groupOf_21 k4 n r0 x1 x2 1 (x4 + 1) s8
          else
            f_M_groupOf_21 k4 n r0 x1 x2 0 (x4 + 1) s8
def f_M_groupOf_4 : Nat → Option Nat → Int32 → Int32 → Int32 → g_St → Option (Int32 × g_St)
  | 0, _, _, _, _, _ => none
  | n + 1, r0, x1, x2, x3, s0 =>
    g_gI s0 6337 r0 fun i1 =>
    if i1 ≤ x2 then
      some (x2, s0)
    else
      if x3 = 0 then
        f_M_groupOf_21 (f_M_groupOf_4 n) 200000 r0 x1 x2 1 0 s0
      else
        some (x2, s0)
def f_M_groupOf (r0 : Option Nat) (x1 : Int32) (s0 : g_St) : Option (Int32 × g_St) :=
  f_M_groupOf_4 200000 r0 x1 0 0 s0
set_option maxHeartbeats 4000000 in
set_option maxRecDepth 100000 in
theorem t_M_groupOf_21 {K : g_C} {o : (Int32 × g_St)} (hK : g_OK K b_M_groupOf "FixpointEngineModel" "groupOf" (Option.some Jvm.ClassFile.FieldType.int)) (hN : g_nL K = 5) (hD : g_Kd K = 4) {k4 : Option Nat → Int32 → Int32 → Int32 → g_St → Option (Int32 × g_St)} (hk4 : ∀ (r0 : Option Nat) (x1 : Int32) (x2 : Int32) (x3 : Int32) (s0 : g_St), k4 r0 x1 x2 x3 s0 = some o → g_W K s0 [(0, g_r 1 r0), (1, g_i x1), (2, g_i x2), (3, g_i x3)] [] 4 (g_jI o)) : ∀ (n : Nat) (r0 : Option Nat) (x1 : Int32) (x2 : Int32) (x3 : Int32) (x4 : Int32) (s0 : g_St), f_M_groupOf_21 k4 n r0 x1 x2 x3 x4 s0 = some o → g_W K s0 [(0, g_r 1 r0), (1, g_i x1), (2, g_i x2), (3, g_i x3), (4, g_i x4)] [] 21 (g_jI o) := by
  intro n
  induction n with
  | zero =>
    intro r0 x1 x2 x3 x4 s0 h
    cases h
  | succ n ih =>
    intro r0 x1 x2 x3 x4 s0 h
    unfold f_M_groupOf_21 at h
    refine r_iload hK d_M_groupOf_21 4 rfl ?_
    refine r_aload_n hK d_M_groupOf_23 rfl 0 rfl ?_
    refine r_gR hK fd_M_38 w7_70 d_M_groupOf_24 h (fun p1 h => ?_)
    refine r_iload_n hK d_M_groupOf_27 rfl 1 rfl ?_
    refine r_iaload hK ar_20 rfl d_M_groupOf_28 h (fun i2 h => ?_)
    refine r_if_icmpge (tgt := 80) hK d_M_groupOf_29 (by decide) h (fun h => ?_) (fun h => ?_)
    · refine r_iload_n hK d_M_groupOf_80 rfl 2 rfl ?_
      refine r_iload_n hK d_M_groupOf_81 rfl 3 rfl ?_
      refine r_ifeq (tgt := 89) hK d_M_groupOf_82 (by decide) h (fun h => ?_) (fun h => ?_)
      · refine r_iconst (v := 1) hK d_M_groupOf_89 (by decide) ?_
        refine r_iadd hK d_M_groupOf_90 ?_
        refine r_istore_n (ls1 := [(2, g_i (x2 + 1)), (0, g_r 1 r0), (1, g_i x1), (3, g_i x3), (4, g_i x4)]) hK d_M_groupOf_91 rfl (by rw [hN]; decide) rfl ?_
        refine r_goto (tgt := 4) hK d_M_groupOf_92 (by decide) ?_
        exact r_sub [1, 2, 0, 3] rfl (hk4 _ _ _ _ _ h)
      · refine r_iconst (v := 0) hK d_M_groupOf_85 (by decide) ?_
        refine r_goto (tgt := 90) hK d_M_groupOf_86 (by decide) ?_
        refine r_iadd hK d_M_groupOf_90 ?_
        refine r_istore_n (ls1 := [(2, g_i (x2 + 0)), (0, g_r 1 r0), (1, g_i x1), (3, g_i x3), (4, g_i x4)]) hK d_M_groupOf_91 rfl (by rw [hN]; decide) rfl ?_
        refine r_goto (tgt := 4) hK d_M_groupOf_92 (by decide) ?_
        exact r_sub [1, 2, 0, 3] rfl (hk4 _ _ _ _ _ h)
    · refine r_iload_n hK d_M_groupOf_32 rfl 3 rfl ?_
      refine r_ifeq (tgt := 72) hK d_M_groupOf_33 (by decide) h (fun h => ?_) (fun h => ?_)
      · refine r_iconst (v := 0) hK d_M_groupOf_72 (by decide) ?_
        refine r_istore_n (ls1 := [(3, g_i 0), (0, g_r 1 r0), (1, g_i x1), (2, g_i x2), (4, g_i x4)]) hK d_M_groupOf_73 rfl (by rw [hN]; decide) rfl ?_
        refine r_iinc (ls1 := [(4, g_i (x4 + 1)), (3, g_i 0), (0, g_r 1 r0), (1, g_i x1), (2, g_i x2)]) hK d_M_groupOf_74 4 rfl rfl (by rw [hN]; decide) rfl ?_
        refine r_goto (tgt := 21) hK d_M_groupOf_77 (by decide) ?_
        exact r_sub [2, 3, 4, 1, 0] rfl (ih _ _ _ _ _ _ h)
      · refine r_aload_n hK d_M_groupOf_36 rfl 0 rfl ?_
        refine r_iload_n hK d_M_groupOf_37 rfl 1 rfl ?_
        refine r_iload hK d_M_groupOf_38 4 rfl ?_
        refine r_Vi (avL := [g_i x1, g_i x4]) (st := []) hK ob_M rfl w9_143 wp_62 w9_141 w9_144 w1_6 (by decide) pl_M_kindOf (by rw [hD]; decide) (Nat.le_of_ble_eq_true rfl) rfl d_M_groupOf_40 (fun o9 h9 => c_M_kindOf _ _ _ _ _ _ o9 h9) h (fun i3 s4 h => ?_)
        refine r_ifgt (tgt := 68) hK d_M_groupOf_43 (by decide) h (fun h => ?_) (fun h => ?_)
        · refine r_iconst (v := 1) hK d_M_groupOf_68 (by decide) ?_
          refine r_goto (tgt := 73) hK d_M_groupOf_69 (by decide) ?_
          refine r_istore_n (ls1 := [(3, g_i 1), (0, g_r 1 r0), (1, g_i x1), (2, g_i x2), (4, g_i x4)]) hK d_M_groupOf_73 rfl (by rw [hN]; decide) rfl ?_
          refine r_iinc (ls1 := [(4, g_i (x4 + 1)), (3, g_i 1), (0, g_r 1 r0), (1, g_i x1), (2, g_i x2)]) hK d_M_groupOf_74 4 rfl rfl (by rw [hN]; decide) rfl ?_
          refine r_goto (tgt := 21) hK d_M_groupOf_77 (by decide) ?_
          exact r_sub [2, 3, 4, 1, 0] rfl (ih _ _ _ _ _ _ h)
        · refine r_aload_n hK d_M_groupOf_46 rfl 0 rfl ?_
          refine r_gR hK fd_M_100 w7_132 d_M_groupOf_47 h (fun p5 h => ?_)
          refine r_iconst (v := 4) hK d_M_groupOf_50 (by decide) ?_
          refine r_iload_n hK d_M_groupOf_51 rfl 2 rfl ?_
          refine r_imul hK d_M_groupOf_52 ?_
          refine r_iload hK d_M_groupOf_53 4 rfl ?_
          refine r_iadd hK d_M_groupOf_55 ?_
          refine r_laload hK ar_21 rfl d_M_groupOf_56 h (fun j6 h => ?_)
          refine r_aload_n hK d_M_groupOf_57 rfl 0 rfl ?_
          refine r_iload_n hK d_M_groupOf_58 rfl 1 rfl ?_
          refine r_iload hK d_M_groupOf_59 4 rfl ?_
          refine r_Vl (avL := [g_i x1, g_i x4]) (st := [g_l j6]) hK ob_M rfl w9_147 wp_63 w9_145 w9_148 w1_6 (by decide) pl_M_itemOf (by rw [hD]; decide) (Nat.le_of_ble_eq_true rfl) rfl d_M_groupOf_61 (fun o9 h9 => c_M_itemOf _ _ _ _ _ _ o9 h9) h (fun j7 s8 h => ?_)
          refine r_lifne (tgt := 72) hK d_M_groupOf_64 d_M_groupOf_65 (by decide) h (fun h => ?_) (fun h => ?_)
          · refine r_iconst (v := 0) hK d_M_groupOf_72 (by decide) ?_
            refine r_istore_n (ls1 := [(3, g_i 0), (0, g_r 1 r0), (1, g_i x1), (2, g_i x2), (4, g_i x4)]) hK d_M_groupOf_73 rfl (by rw [hN]; decide) rfl ?_
            refine r_iinc (ls1 := [(4, g_i (x4 + 1)), (3, g_i 0), (0, g_r 1 r0), (1, g_i x1), (2, g_i x2)]) hK d_M_groupOf_74 4 rfl rfl (by rw [hN]; decide) rfl ?_
            refine r_goto (tgt := 21) hK d_M_groupOf_77 (by decide) ?_
            exact r_sub [2, 3, 4, 1, 0] rfl (ih _ _ _ _ _ _ h)
          · refine r_iconst (v := 1) hK d_M_groupOf_68 (by decide) ?_
            refine r_goto (tgt := 73) hK d_M_groupOf_69 (by decide) ?_
            refine r_istore_n (ls1 := [(3, g_i 1), (0, g_r 1 r0), (1, g_i x1), (2, g_i x2), (4, g_i x4)]) hK d_M_groupOf_73 rfl (by rw [hN]; decide) rfl ?_
            refine r_iinc (ls1 := [(4, g_i (x4 + 1)), (3, g_i 1), (0, g_r 1 r0), (1, g_i x1), (2, g_i x2)]) hK d_M_groupOf_74 4 rfl rfl (by rw [hN]; decide) rfl ?_
            refine r_goto (tgt := 21) hK d_M_groupOf_77 (by decide) ?_
            exact r_sub [2, 3, 4, 1, 0] rfl (ih _ _ _ _ _ _ h)
set_option maxHeartbeats 4000000 in
set_option maxRecDepth 100000 in
theorem t_M_groupOf_4 {K : g_C} {o : (Int32 × g_St)} (hK : g_OK K b_M_groupOf "FixpointEngineModel" "groupOf" (Option.some Jvm.ClassFile.FieldType.int)) (hN : g_nL K = 5) (hD : g_Kd K = 4) : ∀ (n : Nat) (r0 : Option Nat) (x1 : Int32) (x2 : Int32) (x3 : Int32) (s0 : g_St), f_M_groupOf_4 n r0 x1 x2 x3 s0 = some o → g_W K s0 [(0, g_r 1 r0), (1, g_i x1), (2, g_i x2), (3, g_i x3)] [] 4 (g_jI o) := by
  intro n
  induction n with
  | zero =>
    intro r0 x1 x2 x3 s0 h
    cases h
  | succ n ih =>
    intro r0 x1 x2 x3 s0 h
    unfold f_M_groupOf_4 at h
    refine r_iload_n hK d_M_groupOf_4 rfl 2 rfl ?_
    refine r_aload_n hK d_M_groupOf_5 rfl 0 rfl ?_
    refine r_gI hK fd_M_99 w7_131 d_M_groupOf_6 h (fun i1 h => ?_)
    refine r_if_icmpge (tgt := 95) hK d_M_groupOf_9 (by decide) h (fun h => ?_) (fun h => ?_)
    · refine r_iload_n hK d_M_groupOf_95 rfl 2 rfl ?_
      exact r_ireturn hK d_M_groupOf_96 h
    · refine r_iload_n hK d_M_groupOf_12 rfl 3 rfl ?_
      refine r_ifne (tgt := 95) hK d_M_groupOf_13 (by decide) h (fun h => ?_) (fun h => ?_)
      · refine r_iload_n hK d_M_groupOf_95 rfl 2 rfl ?_
        exact r_ireturn hK d_M_groupOf_96 h
      · refine r_iconst (v := 1) hK d_M_groupOf_16 (by decide) ?_
        refine r_istore_n (ls1 := [(3, g_i 1), (0, g_r 1 r0), (1, g_i x1), (2, g_i x2)]) hK d_M_groupOf_17 rfl (by rw [hN]; decide) rfl ?_
        refine r_iconst (v := 0) hK d_M_groupOf_18 (by decide) ?_
        refine r_istore (ls1 := [(4, g_i 0), (3, g_i 1), (0, g_r 1 r0), (1, g_i x1), (2, g_i x2)]) hK d_M_groupOf_19 (by rw [hN]; decide) rfl ?_
        exact r_sub [2, 3, 4, 1, 0] rfl (t_M_groupOf_21 hK hN hD ih _ _ _ _ _ _ _ h)
set_option maxHeartbeats 4000000 in
set_option maxRecDepth 100000 in
theorem t_M_groupOf_0 {K : g_C} {o : (Int32 × g_St)} (hK : g_OK K b_M_groupOf "FixpointEngineModel" "groupOf" (Option.some Jvm.ClassFile.FieldType.int)) (hN : g_nL K = 5) (hD : g_Kd K = 4) : ∀ (r0 : Option Nat) (x1 : Int32) (s0 : g_St), f_M_groupOf r0 x1 s0 = some o → g_W K s0 [(0, g_r 1 r0), (1, g_i x1)] [] 0 (g_jI o) := by
  intro r0 x1 s0 h
  unfold f_M_groupOf at h
  refine r_iconst (v := 0) hK d_M_groupOf_0 (by decide) ?_
  refine r_istore_n (ls1 := [(2, g_i 0), (0, g_r 1 r0), (1, g_i x1)]) hK d_M_groupOf_1 rfl (by rw [hN]; decide) rfl ?_
  refine r_iconst (v := 0) hK d_M_groupOf_2 (by decide) ?_
  refine r_istore_n (ls1 := [(3, g_i 0), (2, g_i 0), (0, g_r 1 r0), (1, g_i x1)]) hK d_M_groupOf_3 rfl (by rw [hN]; decide) rfl ?_
  exact r_sub [2, 3, 1, 0] rfl (t_M_groupOf_4 hK hN hD _ _ _ _ _ _ h)
theorem c_M_groupOf (l : Launch) (G : g_G) (r0 : Option Nat) (x1 : Int32) (u : g_St) (o : (Int32 × g_St)) (h : f_M_groupOf r0 x1 u = some o) : g_Con l G y_M_groupOf b_M_groupOf 5 (Option.some Jvm.ClassFile.FieldType.int) 4 [g_r 1 r0, g_i x1] u (g_jI o) :=
  g_Con.of rfl rfl (by decide +kernel) (Nat.le_of_ble_eq_true rfl) (fun K hK hN hD hX => t_M_groupOf_0 hK hN hD _ _ _ h)
def f_M_fold_47 (r0 : Option Nat) (x1 : Int32) (x2 : Int32) (y3 : Int64) (x0s : Int32) (s0 : g_St) : Option (Unit × g_St) :=
  g_gR s0 6465 r0 fun p1 =>
  g_aL s0 p1 x2 fun j2 =>
  g_sL s0 p1 x2 (j2 + 1) fun s3 =>
  g_gR s3 6401 r0 fun p4 =>
  g_aL s3 p4 x2 fun j5 =>
  g_gR s3 6401 r0 fun p6 =>
  if x0s = 0 then
    if x1 = 22 then
      g_sL s3 p6 x2 (j5 + y3) fun s11 =>
      some ((), s11)
    else
      if x1 = 24 then
        if j5 ≤ y3 then
          g_sL s3 p6 x2 y3 fun s9 =>
          some ((), s9)
        else
          g_sL s3 p6 x2 j5 fun s10 =>
          some ((), s10)
      else
        if y3 ≤ j5 then
          g_sL s3 p6 x2 y3 fun s7 =>
          some ((), s7)
        else
          g_sL s3 p6 x2 j5 fun s8 =>
          some ((), s8)
  else
    g_sL s3 p6 x2 y3 fun s12 =>
    some ((), s12)
def f_M_fold (r0 : Option Nat) (x1 : Int32) (x2 : Int32) (y3 : Int64) (s0 : g_St) : Option (Unit × g_St) :=
  if x1 = 0 then
    some ((), s0)
  else
    if x1 = 21 then
      g_gR s0 6401 r0 fun p3 =>
      g_aL s0 p3 x2 fun j4 =>
      g_sL s0 p3 x2 (j4 + 1) fun s5 =>
      some ((), s5)
    else
      if y3 = 1099511627776 then
        some ((), s0)
      else
        g_gR s0 6465 r0 fun p1 =>
        g_aL s0 p1 x2 fun j2 =>
        if j2 = 0 then
          f_M_fold_47 r0 x1 x2 y3 1 s0
        else
          f_M_fold_47 r0 x1 x2 y3 0 s0
set_option maxHeartbeats 4000000 in
set_option maxRecDepth 100000 in
theorem t_M_fold_47 {K : g_C} {o : (Unit × g_St)} (hK : g_OK K b_M_fold "FixpointEngineModel" "fold" (Option.none : Option Jvm.ClassFile.FieldType)) (hN : g_nL K = 8) (hD : g_Kd K = 1) : ∀ (r0 : Option Nat) (x1 : Int32) (x2 : Int32) (y3 : Int64) (x0s : Int32) (s0 : g_St), f_M_fold_47 r0 x1 x2 y3 x0s s0 = some o → g_W K s0 [(0, g_r 1 r0), (1, g_i x1), (2, g_i x2), (3, g_l y3)] [g_i x0s] 47 (g_jV o) := by
  intro r0 x1 x2 y3 x0s s0 h
  unfold f_M_fold_47 at h
  refine r_istore (ls1 := [(5, g_i x0s), (0, g_r 1 r0), (1, g_i x1), (2, g_i x2), (3, g_l y3)]) hK d_M_fold_47 (by rw [hN]; decide) rfl ?_
  refine r_aload_n hK d_M_fold_49 rfl 1 rfl ?_
  refine r_gR hK fd_M_101 w7_133 d_M_fold_50 h (fun p1 h => ?_)
  refine r_iload_n hK d_M_fold_53 rfl 3 rfl ?_
  refine r_dup2_11 hK d_M_fold_54 rfl rfl ?_
  refine r_laload hK ar_21 rfl d_M_fold_55 h (fun j2 h => ?_)
  refine r_lconst (v := 1) hK d_M_fold_56 (by decide) ?_
  refine r_ladd hK d_M_fold_57 ?_
  refine r_lastore hK ar_21 rfl d_M_fold_58 h (fun s3 h => ?_)
  refine r_aload_n hK d_M_fold_59 rfl 1 rfl ?_
  refine r_gR hK fd_M_100 w7_132 d_M_fold_60 h (fun p4 h => ?_)
  refine r_iload_n hK d_M_fold_63 rfl 3 rfl ?_
  refine r_laload hK ar_21 rfl d_M_fold_64 h (fun j5 h => ?_)
  refine r_lstore (ls1 := [(6, g_l j5), (5, g_i x0s), (0, g_r 1 r0), (1, g_i x1), (2, g_i x2), (3, g_l y3)]) hK d_M_fold_65 (by rw [hN]; decide) rfl ?_
  refine r_aload_n hK d_M_fold_67 rfl 2 rfl ?_
  refine r_gR hK fd_M_100 w7_132 d_M_fold_68 h (fun p6 h => ?_)
  refine r_iload_n hK d_M_fold_71 rfl 4 rfl ?_
  refine r_iload hK d_M_fold_72 1 rfl ?_
  refine r_ifeq (tgt := 81) hK d_M_fold_74 (by decide) h (fun h => ?_) (fun h => ?_)
  · refine r_iload_n hK d_M_fold_81 rfl 3 rfl ?_
    refine r_bipush (v := 22) hK d_M_fold_82 (by decide) ?_
    refine r_if_icmpne (tgt := 94) hK d_M_fold_84 (by decide) h (fun h => ?_) (fun h => ?_)
    · refine r_iload_n hK d_M_fold_94 rfl 3 rfl ?_
      refine r_bipush (v := 24) hK d_M_fold_95 (by decide) ?_
      refine r_if_icmpne (tgt := 116) hK d_M_fold_97 (by decide) h (fun h => ?_) (fun h => ?_)
      · refine r_lload hK d_M_fold_116 0 rfl ?_
        refine r_lload_n hK d_M_fold_118 rfl 5 rfl ?_
        refine r_lifge (tgt := 128) hK d_M_fold_119 d_M_fold_120 (by decide) h (fun h => ?_) (fun h => ?_)
        · refine r_lload_n hK d_M_fold_128 rfl 5 rfl ?_
          refine r_lastore hK ar_21 rfl d_M_fold_129 h (fun s7 h => ?_)
          exact r_return hK d_M_fold_130 h
        · refine r_lload hK d_M_fold_123 0 rfl ?_
          refine r_goto (tgt := 129) hK d_M_fold_125 (by decide) ?_
          refine r_lastore hK ar_21 rfl d_M_fold_129 h (fun s8 h => ?_)
          exact r_return hK d_M_fold_130 h
      · refine r_lload hK d_M_fold_100 0 rfl ?_
        refine r_lload_n hK d_M_fold_102 rfl 5 rfl ?_
        refine r_lifle (tgt := 112) hK d_M_fold_103 d_M_fold_104 (by decide) h (fun h => ?_) (fun h => ?_)
        · refine r_lload_n hK d_M_fold_112 rfl 5 rfl ?_
          refine r_goto (tgt := 129) hK d_M_fold_113 (by decide) ?_
          refine r_lastore hK ar_21 rfl d_M_fold_129 h (fun s9 h => ?_)
          exact r_return hK d_M_fold_130 h
        · refine r_lload hK d_M_fold_107 0 rfl ?_
          refine r_goto (tgt := 129) hK d_M_fold_109 (by decide) ?_
          refine r_lastore hK ar_21 rfl d_M_fold_129 h (fun s10 h => ?_)
          exact r_return hK d_M_fold_130 h
    · refine r_lload hK d_M_fold_87 0 rfl ?_
      refine r_lload_n hK d_M_fold_89 rfl 5 rfl ?_
      refine r_ladd hK d_M_fold_90 ?_
      refine r_goto (tgt := 129) hK d_M_fold_91 (by decide) ?_
      refine r_lastore hK ar_21 rfl d_M_fold_129 h (fun s11 h => ?_)
      exact r_return hK d_M_fold_130 h
  · refine r_lload_n hK d_M_fold_77 rfl 5 rfl ?_
    refine r_goto (tgt := 129) hK d_M_fold_78 (by decide) ?_
    refine r_lastore hK ar_21 rfl d_M_fold_129 h (fun s12 h => ?_)
    exact r_return hK d_M_fold_130 h
set_option maxHeartbeats 4000000 in
set_option maxRecDepth 100000 in
theorem t_M_fold_0 {K : g_C} {o : (Unit × g_St)} (hK : g_OK K b_M_fold "FixpointEngineModel" "fold" (Option.none : Option Jvm.ClassFile.FieldType)) (hN : g_nL K = 8) (hD : g_Kd K = 1) : ∀ (r0 : Option Nat) (x1 : Int32) (x2 : Int32) (y3 : Int64) (s0 : g_St), f_M_fold r0 x1 x2 y3 s0 = some o → g_W K s0 [(0, g_r 1 r0), (1, g_i x1), (2, g_i x2), (3, g_l y3)] [] 0 (g_jV o) := by
  intro r0 x1 x2 y3 s0 h
  unfold f_M_fold at h
  refine r_iload_n hK d_M_fold_0 rfl 1 rfl ?_
  refine r_ifne (tgt := 5) hK d_M_fold_1 (by decide) h (fun h => ?_) (fun h => ?_)
  · refine r_iload_n hK d_M_fold_5 rfl 1 rfl ?_
    refine r_bipush (v := 21) hK d_M_fold_6 (by decide) ?_
    refine r_if_icmpne (tgt := 22) hK d_M_fold_8 (by decide) h (fun h => ?_) (fun h => ?_)
    · refine r_lload_n hK d_M_fold_22 rfl 3 rfl ?_
      refine r_ldc2 hK w8_112 d_M_fold_23 ?_
      refine r_lifne (tgt := 31) hK d_M_fold_26 d_M_fold_27 (by decide) h (fun h => ?_) (fun h => ?_)
      · refine r_aload_n hK d_M_fold_31 rfl 0 rfl ?_
        refine r_gR hK fd_M_101 w7_133 d_M_fold_32 h (fun p1 h => ?_)
        refine r_iload_n hK d_M_fold_35 rfl 2 rfl ?_
        refine r_laload hK ar_21 rfl d_M_fold_36 h (fun j2 h => ?_)
        refine r_lconst (v := 0) hK d_M_fold_37 (by decide) ?_
        refine r_lifne (tgt := 46) hK d_M_fold_38 d_M_fold_39 (by decide) h (fun h => ?_) (fun h => ?_)
        · refine r_iconst (v := 0) hK d_M_fold_46 (by decide) ?_
          exact r_sub [0, 1, 2, 3] rfl (t_M_fold_47 hK hN hD _ _ _ _ _ _ h)
        · refine r_iconst (v := 1) hK d_M_fold_42 (by decide) ?_
          refine r_goto (tgt := 47) hK d_M_fold_43 (by decide) ?_
          exact r_sub [0, 1, 2, 3] rfl (t_M_fold_47 hK hN hD _ _ _ _ _ _ h)
      · exact r_return hK d_M_fold_30 h
    · refine r_aload_n hK d_M_fold_11 rfl 0 rfl ?_
      refine r_gR hK fd_M_100 w7_132 d_M_fold_12 h (fun p3 h => ?_)
      refine r_iload_n hK d_M_fold_15 rfl 2 rfl ?_
      refine r_dup2_11 hK d_M_fold_16 rfl rfl ?_
      refine r_laload hK ar_21 rfl d_M_fold_17 h (fun j4 h => ?_)
      refine r_lconst (v := 1) hK d_M_fold_18 (by decide) ?_
      refine r_ladd hK d_M_fold_19 ?_
      refine r_lastore hK ar_21 rfl d_M_fold_20 h (fun s5 h => ?_)
      exact r_return hK d_M_fold_21 h
  · exact r_return hK d_M_fold_4 h
theorem c_M_fold (l : Launch) (G : g_G) (r0 : Option Nat) (x1 : Int32) (x2 : Int32) (y3 : Int64) (u : g_St) (o : (Unit × g_St)) (h : f_M_fold r0 x1 x2 y3 u = some o) : g_Con l G y_M_fold b_M_fold 8 (Option.none : Option Jvm.ClassFile.FieldType) 1 [g_r 1 r0, g_i x1, g_i x2, g_l y3] u (g_jV o) :=
  g_Con.of rfl rfl (by decide +kernel) (Nat.le_of_ble_eq_true rfl) (fun K hK hN hD hX => t_M_fold_0 hK hN hD _ _ _ _ _ h)
def f_M_makeGroups_180 (k59 : Option Nat → Int32 → Int32 → g_St → Option (Unit × g_St)) (r0 : Option Nat) (x1 : Int32) (s0 : g_St) : Option (Unit × g_St) :=
  g_c (g_nn r0 (f_M_next r0 x1 s0)) fun i1 s2 =>
  k59 r0 x1 i1 s2
def f_M_makeGroups_171 (k112 : Option Nat → Int32 → Int32 → Int32 → g_St → Option (Unit × g_St)) (r0 : Option Nat) (x1 : Int32) (x4 : Int32) (x5 : Int32) (r0s : Option Nat) (x1s : Int32) (x2s : Int32) (y3s : Int64) (s0 : g_St) : Option (Unit × g_St) :=
  g_c (g_nn r0s (f_M_fold r0s x1s x2s y3s s0)) fun _ s2 =>
  k112 r0 x1 x4 (x5 + 1) s2
def f_M_makeGroups_112 (k59 : Option Nat → Int32 → Int32 → g_St → Option (Unit × g_St)) : Nat → Option Nat → Int32 → Int32 → Int32 → g_St → Option (Unit × g_St)
  | 0, _, _, _, _, _ => none
  | n + 1, r0, x1, x4, x5, s0 =>
    g_gR s0 2433 r0 fun p1 =>
    g_aI s0 p1 x1 fun i2 =>
    if i2 ≤ x5 then
      f_M_makeGroups_180 k59 r0 x1 s0
    else
      g_c (g_nn r0 (f_M_kindOf r0 x1 x5 s0)) fun i3 s4 =>
      g_c (g_nn r0 (f_M_kindOf r0 x1 x5 s4)) fun i5 s6 =>
      if i5 = 0 then
        f_M_makeGroups_171 (f_M_makeGroups_112 k59 n) r0 x1 x4 x5 r0 i3 ((4 * x4) + x5) 0 s6
      else
        g_c (g_nn r0 (f_M_kindOf r0 x1 x5 s6)) fun i7 s8 =>
        if i7 = 21 then
          f_M_makeGroups_171 (f_M_makeGroups_112 k59 n) r0 x1 x4 x5 r0 i3 ((4 * x4) + x5) 0 s8
        else
          g_c (g_nn r0 (f_M_itemOf r0 x1 x5 s8)) fun j9 s10 =>
          f_M_makeGroups_171 (f_M_makeGroups_112 k59 n) r0 x1 x4 x5 r0 i3 ((4 * x4) + x5) j9 s10
def f_M_makeGroups_59 : Nat → Option Nat → Int32 → Int32 → g_St → Option (Unit × g_St)
  | 0, _, _, _, _ => none
  | n + 1, r0, x1, x3, s0 =>
    if x3 = 0 then
      g_gI s0 6337 r0 fun i1 =>
      g_gI s0 5441 r0 fun i2 =>
      if i1 ≤ i2 then
        some ((), s0)
      else
        g_pI s0 1 r0 4 fun s3 =>
        some ((), s3)
    else
      g_c (g_nn r0 (f_M_matches r0 x1 s0)) fun i4 s5 =>
      if i4 = 0 then
        f_M_makeGroups_180 (f_M_makeGroups_59 n) r0 x1 s5
      else
        g_c (g_nn r0 (f_M_groupOf r0 x1 s5)) fun i6 s7 =>
        g_gI s7 6337 r0 fun i8 =>
        if i6 = i8 then
          g_gI s7 6337 r0 fun i9 =>
          g_gI s7 5441 r0 fun i10 =>
          if i9 ≤ i10 then
            g_c (g_nn r0 (f_M_openGroup r0 x1 s7)) fun _ s12 =>
            f_M_makeGroups_112 (f_M_makeGroups_59 n) 200000 r0 x1 i6 0 s12
          else
            f_M_makeGroups_180 (f_M_makeGroups_59 n) r0 x1 s7
        else
          f_M_makeGroups_112 (f_M_makeGroups_59 n) 200000 r0 x1 i6 0 s7
def f_M_makeGroups_53 (r0 : Option Nat) (x1 : Int32) (s0 : g_St) : Option (Unit × g_St) :=
  g_c (g_nn r0 (f_M_first r0 x1 s0)) fun i1 s2 =>
  f_M_makeGroups_59 200000 r0 x1 i1 s2
def f_M_makeGroups_9 : Nat → Option Nat → Int32 → Int32 → Int32 → g_St → Option (Unit × g_St)
  | 0, _, _, _, _, _ => none
  | n + 1, r0, x1, x2, x3, s0 =>
    g_gR s0 2433 r0 fun p1 =>
    g_aI s0 p1 x1 fun i2 =>
    if i2 ≤ x3 then
      if x2 = 0 then
        g_c (g_nn r0 (f_M_openGroup r0 x1 s0)) fun _ s4 =>
        f_M_makeGroups_53 r0 x1 s4
      else
        f_M_makeGroups_53 r0 x1 s0
    else
      if x2 = 0 then
        g_c (g_nn r0 (f_M_kindOf r0 x1 x3 s0)) fun i5 s6 =>
        if i5 = 0 then
          f_M_makeGroups_9 n r0 x1 1 (x3 + 1) s6
        else
          f_M_makeGroups_9 n r0 x1 0 (x3 + 1) s6
      else
        f_M_makeGroups_9 n r0 x1 1 (x3 + 1) s0
def f_M_makeGroups (r0 : Option Nat) (x1 : Int32) (s0 : g_St) : Option (Unit × g_St) :=
  g_pI s0 6337 r0 0 fun s1 =>
  f_M_makeGroups_9 200000 r0 x1 0 0 s1
set_option maxHeartbeats 4000000 in
set_option maxRecDepth 100000 in
theorem t_M_makeGroups_180 {K : g_C} {o : (Unit × g_St)} (hK : g_OK K b_M_makeGroups "FixpointEngineModel" "makeGroups" (Option.none : Option Jvm.ClassFile.FieldType)) (hN : g_nL K = 6) (hD : g_Kd K = 7) {k59 : Option Nat → Int32 → Int32 → g_St → Option (Unit × g_St)} (hk59 : ∀ (r0 : Option Nat) (x1 : Int32) (x3 : Int32) (s0 : g_St), k59 r0 x1 x3 s0 = some o → g_W K s0 [(0, g_r 1 r0), (1, g_i x1), (3, g_i x3)] [] 59 (g_jV o)) : ∀ (r0 : Option Nat) (x1 : Int32) (s0 : g_St), f_M_makeGroups_180 k59 r0 x1 s0 = some o → g_W K s0 [(0, g_r 1 r0), (1, g_i x1)] [] 180 (g_jV o) := by
  intro r0 x1 s0 h
  unfold f_M_makeGroups_180 at h
  refine r_aload_n hK d_M_makeGroups_180 rfl 0 rfl ?_
  refine r_iload_n hK d_M_makeGroups_181 rfl 1 rfl ?_
  refine r_Vi (avL := [g_i x1]) (st := []) hK ob_M rfl w9_159 wp_64 w9_157 w9_160 w1_6 (by decide) pl_M_next (by rw [hD]; decide) (Nat.le_of_ble_eq_true rfl) rfl d_M_makeGroups_182 (fun o9 h9 => c_M_next _ _ _ _ _ o9 h9) h (fun i1 s2 h => ?_)
  refine r_istore_n (ls1 := [(3, g_i i1), (0, g_r 1 r0), (1, g_i x1)]) hK d_M_makeGroups_185 rfl (by rw [hN]; decide) rfl ?_
  refine r_goto (tgt := 59) hK d_M_makeGroups_186 (by decide) ?_
  exact r_sub [1, 2, 0] rfl (hk59 _ _ _ _ h)
set_option maxHeartbeats 4000000 in
set_option maxRecDepth 100000 in
theorem t_M_makeGroups_171 {K : g_C} {o : (Unit × g_St)} (hK : g_OK K b_M_makeGroups "FixpointEngineModel" "makeGroups" (Option.none : Option Jvm.ClassFile.FieldType)) (hN : g_nL K = 6) (hD : g_Kd K = 7) {k112 : Option Nat → Int32 → Int32 → Int32 → g_St → Option (Unit × g_St)} (hk112 : ∀ (r0 : Option Nat) (x1 : Int32) (x4 : Int32) (x5 : Int32) (s0 : g_St), k112 r0 x1 x4 x5 s0 = some o → g_W K s0 [(0, g_r 1 r0), (1, g_i x1), (4, g_i x4), (5, g_i x5)] [] 112 (g_jV o)) : ∀ (r0 : Option Nat) (x1 : Int32) (x4 : Int32) (x5 : Int32) (r0s : Option Nat) (x1s : Int32) (x2s : Int32) (y3s : Int64) (s0 : g_St), f_M_makeGroups_171 k112 r0 x1 x4 x5 r0s x1s x2s y3s s0 = some o → g_W K s0 [(0, g_r 1 r0), (1, g_i x1), (4, g_i x4), (5, g_i x5)] [g_l y3s, g_i x2s, g_i x1s, g_r 1 r0s] 171 (g_jV o) := by
  intro r0 x1 x4 x5 r0s x1s x2s y3s s0 h
  unfold f_M_makeGroups_171 at h
  refine r_Vv (avL := [g_i x1s, g_i x2s, g_l y3s]) (st := []) hK ob_M rfl w9_175 wp_68 w9_173 w9_176 w1_6 (by decide) pl_M_fold (by rw [hD]; decide) (Nat.le_of_ble_eq_true rfl) rfl d_M_makeGroups_171 (fun o9 h9 => c_M_fold _ _ _ _ _ _ _ o9 h9) h (fun s2 h => ?_)
  refine r_iinc (ls1 := [(5, g_i (x5 + 1)), (0, g_r 1 r0), (1, g_i x1), (4, g_i x4)]) hK d_M_makeGroups_174 3 rfl rfl (by rw [hN]; decide) rfl ?_
  refine r_goto (tgt := 112) hK d_M_makeGroups_177 (by decide) ?_
  exact r_sub [1, 2, 3, 0] rfl (hk112 _ _ _ _ _ h)
set_option maxHeartbeats 4000000 in
set_option maxRecDepth 100000 in
theorem t_M_makeGroups_112 {K : g_C} {o : (Unit × g_St)} (hK : g_OK K b_M_makeGroups "FixpointEngineModel" "makeGroups" (Option.none : Option Jvm.ClassFile.FieldType)) (hN : g_nL K = 6) (hD : g_Kd K = 7) {k59 : Option Nat → Int32 → Int32 → g_St → Option (Unit × g_St)} (hk59 : ∀ (r0 : Option Nat) (x1 : Int32) (x3 : Int32) (s0 : g_St), k59 r0 x1 x3 s0 = some o → g_W K s0 [(0, g_r 1 r0), (1, g_i x1), (3, g_i x3)] [] 59 (g_jV o)) : ∀ (n : Nat) (r0 : Option Nat) (x1 : Int32) (x4 : Int32) (x5 : Int32) (s0 : g_St), f_M_makeGroups_112 k59 n r0 x1 x4 x5 s0 = some o → g_W K s0 [(0, g_r 1 r0), (1, g_i x1), (4, g_i x4), (5, g_i x5)] [] 112 (g_jV o) := by
  intro n
  induction n with
  | zero =>
    intro r0 x1 x4 x5 s0 h
    cases h
  | succ n ih =>
    intro r0 x1 x4 x5 s0 h
    unfold f_M_makeGroups_112 at h
    refine r_iload hK d_M_makeGroups_112 3 rfl ?_
    refine r_aload_n hK d_M_makeGroups_114 rfl 0 rfl ?_
    refine r_gR hK fd_M_38 w7_70 d_M_makeGroups_115 h (fun p1 h => ?_)
    refine r_iload_n hK d_M_makeGroups_118 rfl 1 rfl ?_
    refine r_iaload hK ar_20 rfl d_M_makeGroups_119 h (fun i2 h => ?_)
    refine r_if_icmpge (tgt := 180) hK d_M_makeGroups_120 (by decide) h (fun h => ?_) (fun h => ?_)
    · exact r_sub [0, 1] rfl (t_M_makeGroups_180 hK hN hD hk59 _ _ _ h)
    · refine r_aload_n hK d_M_makeGroups_123 rfl 0 rfl ?_
      refine r_aload_n hK d_M_makeGroups_124 rfl 0 rfl ?_
      refine r_iload_n hK d_M_makeGroups_125 rfl 1 rfl ?_
      refine r_iload hK d_M_makeGroups_126 3 rfl ?_
      refine r_Vi (avL := [g_i x1, g_i x5]) (st := [g_r 1 r0]) hK ob_M rfl w9_143 wp_62 w9_141 w9_144 w1_6 (by decide) pl_M_kindOf (by rw [hD]; decide) (Nat.le_of_ble_eq_true rfl) rfl d_M_makeGroups_128 (fun o9 h9 => c_M_kindOf _ _ _ _ _ _ o9 h9) h (fun i3 s4 h => ?_)
      refine r_iconst (v := 4) hK d_M_makeGroups_131 (by decide) ?_
      refine r_iload hK d_M_makeGroups_132 2 rfl ?_
      refine r_imul hK d_M_makeGroups_134 ?_
      refine r_iload hK d_M_makeGroups_135 3 rfl ?_
      refine r_iadd hK d_M_makeGroups_137 ?_
      refine r_aload_n hK d_M_makeGroups_138 rfl 0 rfl ?_
      refine r_iload_n hK d_M_makeGroups_139 rfl 1 rfl ?_
      refine r_iload hK d_M_makeGroups_140 3 rfl ?_
      refine r_Vi (avL := [g_i x1, g_i x5]) (st := [g_i ((4 * x4) + x5), g_i i3, g_r 1 r0]) hK ob_M rfl w9_143 wp_62 w9_141 w9_144 w1_6 (by decide) pl_M_kindOf (by rw [hD]; decide) (Nat.le_of_ble_eq_true rfl) rfl d_M_makeGroups_142 (fun o9 h9 => c_M_kindOf _ _ _ _ _ _ o9 h9) h (fun i5 s6 h => ?_)
      refine r_ifeq (tgt := 160) hK d_M_makeGroups_145 (by decide) h (fun h => ?_) (fun h => ?_)
      · refine r_lconst (v := 0) hK d_M_makeGroups_160 (by decide) ?_
        refine r_goto (tgt := 171) hK d_M_makeGroups_161 (by decide) ?_
        exact r_sub [0, 1, 2, 3] rfl (t_M_makeGroups_171 hK hN hD ih _ _ _ _ _ _ _ _ _ h)
      · refine r_aload_n hK d_M_makeGroups_148 rfl 0 rfl ?_
        refine r_iload_n hK d_M_makeGroups_149 rfl 1 rfl ?_
        refine r_iload hK d_M_makeGroups_150 3 rfl ?_
        refine r_Vi (avL := [g_i x1, g_i x5]) (st := [g_i ((4 * x4) + x5), g_i i3, g_r 1 r0]) hK ob_M rfl w9_143 wp_62 w9_141 w9_144 w1_6 (by decide) pl_M_kindOf (by rw [hD]; decide) (Nat.le_of_ble_eq_true rfl) rfl d_M_makeGroups_152 (fun o9 h9 => c_M_kindOf _ _ _ _ _ _ o9 h9) h (fun i7 s8 h => ?_)
        refine r_bipush (v := 21) hK d_M_makeGroups_155 (by decide) ?_
        refine r_if_icmpne (tgt := 164) hK d_M_makeGroups_157 (by decide) h (fun h => ?_) (fun h => ?_)
        · refine r_aload_n hK d_M_makeGroups_164 rfl 0 rfl ?_
          refine r_iload_n hK d_M_makeGroups_165 rfl 1 rfl ?_
          refine r_iload hK d_M_makeGroups_166 3 rfl ?_
          refine r_Vl (avL := [g_i x1, g_i x5]) (st := [g_i ((4 * x4) + x5), g_i i3, g_r 1 r0]) hK ob_M rfl w9_147 wp_63 w9_145 w9_148 w1_6 (by decide) pl_M_itemOf (by rw [hD]; decide) (Nat.le_of_ble_eq_true rfl) rfl d_M_makeGroups_168 (fun o9 h9 => c_M_itemOf _ _ _ _ _ _ o9 h9) h (fun j9 s10 h => ?_)
          exact r_sub [0, 1, 2, 3] rfl (t_M_makeGroups_171 hK hN hD ih _ _ _ _ _ _ _ _ _ h)
        · refine r_lconst (v := 0) hK d_M_makeGroups_160 (by decide) ?_
          refine r_goto (tgt := 171) hK d_M_makeGroups_161 (by decide) ?_
          exact r_sub [0, 1, 2, 3] rfl (t_M_makeGroups_171 hK hN hD ih _ _ _ _ _ _ _ _ _ h)
set_option maxHeartbeats 4000000 in
set_option maxRecDepth 100000 in
theorem t_M_makeGroups_59 {K : g_C} {o : (Unit × g_St)} (hK : g_OK K b_M_makeGroups "FixpointEngineModel" "makeGroups" (Option.none : Option Jvm.ClassFile.FieldType)) (hN : g_nL K = 6) (hD : g_Kd K = 7) : ∀ (n : Nat) (r0 : Option Nat) (x1 : Int32) (x3 : Int32) (s0 : g_St), f_M_makeGroups_59 n r0 x1 x3 s0 = some o → g_W K s0 [(0, g_r 1 r0), (1, g_i x1), (3, g_i x3)] [] 59 (g_jV o) := by
  intro n
  induction n with
  | zero =>
    intro r0 x1 x3 s0 h
    cases h
  | succ n ih =>
    intro r0 x1 x3 s0 h
    unfold f_M_makeGroups_59 at h
    refine r_iload_n hK d_M_makeGroups_59 rfl 2 rfl ?_
    refine r_ifeq (tgt := 189) hK d_M_makeGroups_60 (by decide) h (fun h => ?_) (fun h => ?_)
    · refine r_aload_n hK d_M_makeGroups_189 rfl 0 rfl ?_
      refine r_gI hK fd_M_99 w7_131 d_M_makeGroups_190 h (fun i1 h => ?_)
      refine r_aload_n hK d_M_makeGroups_193 rfl 0 rfl ?_
      refine r_gI hK fd_M_85 w7_117 d_M_makeGroups_194 h (fun i2 h => ?_)
      refine r_if_icmple (tgt := 205) hK d_M_makeGroups_197 (by decide) h (fun h => ?_) (fun h => ?_)
      · exact r_return hK d_M_makeGroups_205 h
      · refine r_aload_n hK d_M_makeGroups_200 rfl 0 rfl ?_
        refine r_iconst (v := 4) hK d_M_makeGroups_201 (by decide) ?_
        refine r_pI hK fd_M_0 rfl w7_32 d_M_makeGroups_202 h (fun s3 h => ?_)
        exact r_return hK d_M_makeGroups_205 h
    · refine r_aload_n hK d_M_makeGroups_63 rfl 0 rfl ?_
      refine r_iload_n hK d_M_makeGroups_64 rfl 1 rfl ?_
      refine r_Vi (avL := [g_i x1]) (st := []) hK ob_M rfl w9_119 wp_56 w9_117 w9_120 w1_6 (by decide) pl_M_matches (by rw [hD]; decide) (Nat.le_of_ble_eq_true rfl) rfl d_M_makeGroups_65 (fun o9 h9 => c_M_matches _ _ _ _ _ o9 h9) h (fun i4 s5 h => ?_)
      refine r_ifne (tgt := 74) hK d_M_makeGroups_68 (by decide) h (fun h => ?_) (fun h => ?_)
      · refine r_aload_n hK d_M_makeGroups_74 rfl 0 rfl ?_
        refine r_iload_n hK d_M_makeGroups_75 rfl 1 rfl ?_
        refine r_Vi (avL := [g_i x1]) (st := []) hK ob_M rfl w9_171 wp_67 w9_169 w9_172 w1_6 (by decide) pl_M_groupOf (by rw [hD]; decide) (Nat.le_of_ble_eq_true rfl) rfl d_M_makeGroups_76 (fun o9 h9 => c_M_groupOf _ _ _ _ _ o9 h9) h (fun i6 s7 h => ?_)
        refine r_istore (ls1 := [(4, g_i i6), (0, g_r 1 r0), (1, g_i x1), (3, g_i x3)]) hK d_M_makeGroups_79 (by rw [hN]; decide) rfl ?_
        refine r_iload hK d_M_makeGroups_81 0 rfl ?_
        refine r_aload_n hK d_M_makeGroups_83 rfl 1 rfl ?_
        refine r_gI hK fd_M_99 w7_131 d_M_makeGroups_84 h (fun i8 h => ?_)
        refine r_if_icmpne (tgt := 109) hK d_M_makeGroups_87 (by decide) h (fun h => ?_) (fun h => ?_)
        · refine r_iconst (v := 0) hK d_M_makeGroups_109 (by decide) ?_
          refine r_istore (ls1 := [(5, g_i 0), (4, g_i i6), (0, g_r 1 r0), (1, g_i x1), (3, g_i x3)]) hK d_M_makeGroups_110 (by rw [hN]; decide) rfl ?_
          exact r_sub [2, 3, 1, 0] rfl (t_M_makeGroups_112 hK hN hD ih _ _ _ _ _ _ h)
        · refine r_aload_n hK d_M_makeGroups_90 rfl 1 rfl ?_
          refine r_gI hK fd_M_99 w7_131 d_M_makeGroups_91 h (fun i9 h => ?_)
          refine r_aload_n hK d_M_makeGroups_94 rfl 1 rfl ?_
          refine r_gI hK fd_M_85 w7_117 d_M_makeGroups_95 h (fun i10 h => ?_)
          refine r_if_icmple (tgt := 104) hK d_M_makeGroups_98 (by decide) h (fun h => ?_) (fun h => ?_)
          · refine r_aload_n hK d_M_makeGroups_104 rfl 1 rfl ?_
            refine r_iload_n hK d_M_makeGroups_105 rfl 2 rfl ?_
            refine r_Vv (avL := [g_i x1]) (st := []) hK ob_M rfl w9_167 wp_66 w9_165 w9_168 w1_6 (by decide) pl_M_openGroup (by rw [hD]; decide) (Nat.le_of_ble_eq_true rfl) rfl d_M_makeGroups_106 (fun o9 h9 => c_M_openGroup _ _ _ _ _ o9 h9) h (fun s12 h => ?_)
            refine r_iconst (v := 0) hK d_M_makeGroups_109 (by decide) ?_
            refine r_istore (ls1 := [(5, g_i 0), (4, g_i i6), (0, g_r 1 r0), (1, g_i x1), (3, g_i x3)]) hK d_M_makeGroups_110 (by rw [hN]; decide) rfl ?_
            exact r_sub [2, 3, 1, 0] rfl (t_M_makeGroups_112 hK hN hD ih _ _ _ _ _ _ h)
          · refine r_goto (tgt := 180) hK d_M_makeGroups_101 (by decide) ?_
            exact r_sub [1, 2] rfl (t_M_makeGroups_180 hK hN hD ih _ _ _ h)
      · refine r_goto (tgt := 180) hK d_M_makeGroups_71 (by decide) ?_
        exact r_sub [0, 1] rfl (t_M_makeGroups_180 hK hN hD ih _ _ _ h)
set_option maxHeartbeats 4000000 in
set_option maxRecDepth 100000 in
theorem t_M_makeGroups_53 {K : g_C} {o : (Unit × g_St)} (hK : g_OK K b_M_makeGroups "FixpointEngineModel" "makeGroups" (Option.none : Option Jvm.ClassFile.FieldType)) (hN : g_nL K = 6) (hD : g_Kd K = 7) : ∀ (r0 : Option Nat) (x1 : Int32) (s0 : g_St), f_M_makeGroups_53 r0 x1 s0 = some o → g_W K s0 [(0, g_r 1 r0), (1, g_i x1)] [] 53 (g_jV o) := by
  intro r0 x1 s0 h
  unfold f_M_makeGroups_53 at h
  refine r_aload_n hK d_M_makeGroups_53 rfl 0 rfl ?_
  refine r_iload_n hK d_M_makeGroups_54 rfl 1 rfl ?_
  refine r_Vi (avL := [g_i x1]) (st := []) hK ob_M rfl w9_115 wp_55 w9_113 w9_116 w1_6 (by decide) pl_M_first (by rw [hD]; decide) (Nat.le_of_ble_eq_true rfl) rfl d_M_makeGroups_55 (fun o9 h9 => c_M_first _ _ _ _ _ o9 h9) h (fun i1 s2 h => ?_)
  refine r_istore_n (ls1 := [(3, g_i i1), (0, g_r 1 r0), (1, g_i x1)]) hK d_M_makeGroups_58 rfl (by rw [hN]; decide) rfl ?_
  exact r_sub [1, 2, 0] rfl (t_M_makeGroups_59 hK hN hD _ _ _ _ _ h)
set_option maxHeartbeats 4000000 in
set_option maxRecDepth 100000 in
theorem t_M_makeGroups_9 {K : g_C} {o : (Unit × g_St)} (hK : g_OK K b_M_makeGroups "FixpointEngineModel" "makeGroups" (Option.none : Option Jvm.ClassFile.FieldType)) (hN : g_nL K = 6) (hD : g_Kd K = 7) : ∀ (n : Nat) (r0 : Option Nat) (x1 : Int32) (x2 : Int32) (x3 : Int32) (s0 : g_St), f_M_makeGroups_9 n r0 x1 x2 x3 s0 = some o → g_W K s0 [(0, g_r 1 r0), (1, g_i x1), (2, g_i x2), (3, g_i x3)] [] 9 (g_jV o) := by
  intro n
  induction n with
  | zero =>
    intro r0 x1 x2 x3 s0 h
    cases h
  | succ n ih =>
    intro r0 x1 x2 x3 s0 h
    unfold f_M_makeGroups_9 at h
    refine r_iload_n hK d_M_makeGroups_9 rfl 3 rfl ?_
    refine r_aload_n hK d_M_makeGroups_10 rfl 0 rfl ?_
    refine r_gR hK fd_M_38 w7_70 d_M_makeGroups_11 h (fun p1 h => ?_)
    refine r_iload_n hK d_M_makeGroups_14 rfl 1 rfl ?_
    refine r_iaload hK ar_20 rfl d_M_makeGroups_15 h (fun i2 h => ?_)
    refine r_if_icmpge (tgt := 44) hK d_M_makeGroups_16 (by decide) h (fun h => ?_) (fun h => ?_)
    · refine r_iload_n hK d_M_makeGroups_44 rfl 2 rfl ?_
      refine r_ifne (tgt := 53) hK d_M_makeGroups_45 (by decide) h (fun h => ?_) (fun h => ?_)
      · exact r_sub [0, 1] rfl (t_M_makeGroups_53 hK hN hD _ _ _ h)
      · refine r_aload_n hK d_M_makeGroups_48 rfl 0 rfl ?_
        refine r_iload_n hK d_M_makeGroups_49 rfl 1 rfl ?_
        refine r_Vv (avL := [g_i x1]) (st := []) hK ob_M rfl w9_167 wp_66 w9_165 w9_168 w1_6 (by decide) pl_M_openGroup (by rw [hD]; decide) (Nat.le_of_ble_eq_true rfl) rfl d_M_makeGroups_50 (fun o9 h9 => c_M_openGroup _ _ _ _ _ o9 h9) h (fun s4 h => ?_)
        exact r_sub [0, 1] rfl (t_M_makeGroups_53 hK hN hD _ _ _ h)
    · refine r_iload_n hK d_M_makeGroups_19 rfl 2 rfl ?_
      refine r_ifne (tgt := 32) hK d_M_makeGroups_20 (by decide) h (fun h => ?_) (fun h => ?_)
      · refine r_iconst (v := 1) hK d_M_makeGroups_32 (by decide) ?_
        refine r_goto (tgt := 37) hK d_M_makeGroups_33 (by decide) ?_
        refine r_istore_n (ls1 := [(2, g_i 1), (0, g_r 1 r0), (1, g_i x1), (3, g_i x3)]) hK d_M_makeGroups_37 rfl (by rw [hN]; decide) rfl ?_
        refine r_iinc (ls1 := [(3, g_i (x3 + 1)), (2, g_i 1), (0, g_r 1 r0), (1, g_i x1)]) hK d_M_makeGroups_38 3 rfl rfl (by rw [hN]; decide) rfl ?_
        refine r_goto (tgt := 9) hK d_M_makeGroups_41 (by decide) ?_
        exact r_sub [2, 3, 1, 0] rfl (ih _ _ _ _ _ h)
      · refine r_aload_n hK d_M_makeGroups_23 rfl 0 rfl ?_
        refine r_iload_n hK d_M_makeGroups_24 rfl 1 rfl ?_
        refine r_iload_n hK d_M_makeGroups_25 rfl 3 rfl ?_
        refine r_Vi (avL := [g_i x1, g_i x3]) (st := []) hK ob_M rfl w9_143 wp_62 w9_141 w9_144 w1_6 (by decide) pl_M_kindOf (by rw [hD]; decide) (Nat.le_of_ble_eq_true rfl) rfl d_M_makeGroups_26 (fun o9 h9 => c_M_kindOf _ _ _ _ _ _ o9 h9) h (fun i5 s6 h => ?_)
        refine r_ifne (tgt := 36) hK d_M_makeGroups_29 (by decide) h (fun h => ?_) (fun h => ?_)
        · refine r_iconst (v := 0) hK d_M_makeGroups_36 (by decide) ?_
          refine r_istore_n (ls1 := [(2, g_i 0), (0, g_r 1 r0), (1, g_i x1), (3, g_i x3)]) hK d_M_makeGroups_37 rfl (by rw [hN]; decide) rfl ?_
          refine r_iinc (ls1 := [(3, g_i (x3 + 1)), (2, g_i 0), (0, g_r 1 r0), (1, g_i x1)]) hK d_M_makeGroups_38 3 rfl rfl (by rw [hN]; decide) rfl ?_
          refine r_goto (tgt := 9) hK d_M_makeGroups_41 (by decide) ?_
          exact r_sub [2, 3, 1, 0] rfl (ih _ _ _ _ _ h)
        · refine r_iconst (v := 1) hK d_M_makeGroups_32 (by decide) ?_
          refine r_goto (tgt := 37) hK d_M_makeGroups_33 (by decide) ?_
          refine r_istore_n (ls1 := [(2, g_i 1), (0, g_r 1 r0), (1, g_i x1), (3, g_i x3)]) hK d_M_makeGroups_37 rfl (by rw [hN]; decide) rfl ?_
          refine r_iinc (ls1 := [(3, g_i (x3 + 1)), (2, g_i 1), (0, g_r 1 r0), (1, g_i x1)]) hK d_M_makeGroups_38 3 rfl rfl (by rw [hN]; decide) rfl ?_
          refine r_goto (tgt := 9) hK d_M_makeGroups_41 (by decide) ?_
          exact r_sub [2, 3, 1, 0] rfl (ih _ _ _ _ _ h)
set_option maxHeartbeats 4000000 in
set_option maxRecDepth 100000 in
theorem t_M_makeGroups_0 {K : g_C} {o : (Unit × g_St)} (hK : g_OK K b_M_makeGroups "FixpointEngineModel" "makeGroups" (Option.none : Option Jvm.ClassFile.FieldType)) (hN : g_nL K = 6) (hD : g_Kd K = 7) : ∀ (r0 : Option Nat) (x1 : Int32) (s0 : g_St), f_M_makeGroups r0 x1 s0 = some o → g_W K s0 [(0, g_r 1 r0), (1, g_i x1)] [] 0 (g_jV o) := by
  intro r0 x1 s0 h
  unfold f_M_makeGroups at h
  refine r_aload_n hK d_M_makeGroups_0 rfl 0 rfl ?_
  refine r_iconst (v := 0) hK d_M_makeGroups_1 (by decide) ?_
  refine r_pI hK fd_M_99 rfl w7_131 d_M_makeGroups_2 h (fun s1 h => ?_)
  refine r_iconst (v := 0) hK d_M_makeGroups_5 (by decide) ?_
  refine r_istore_n (ls1 := [(2, g_i 0), (0, g_r 1 r0), (1, g_i x1)]) hK d_M_makeGroups_6 rfl (by rw [hN]; decide) rfl ?_
  refine r_iconst (v := 0) hK d_M_makeGroups_7 (by decide) ?_
  refine r_istore_n (ls1 := [(3, g_i 0), (2, g_i 0), (0, g_r 1 r0), (1, g_i x1)]) hK d_M_makeGroups_8 rfl (by rw [hN]; decide) rfl ?_
  exact r_sub [2, 3, 1, 0] rfl (t_M_makeGroups_9 hK hN hD _ _ _ _ _ _ h)
theorem c_M_makeGroups (l : Launch) (G : g_G) (r0 : Option Nat) (x1 : Int32) (u : g_St) (o : (Unit × g_St)) (h : f_M_makeGroups r0 x1 u = some o) : g_Con l G y_M_makeGroups b_M_makeGroups 6 (Option.none : Option Jvm.ClassFile.FieldType) 7 [g_r 1 r0, g_i x1] u (g_jV o) :=
  g_Con.of rfl rfl (by decide +kernel) (Nat.le_of_ble_eq_true rfl) (fun K hK hN hD hX => t_M_makeGroups_0 hK hN hD _ _ _ h)
def f_M_checkGroups_12 (k2 : Option Nat → Int32 → Int32 → g_St → Option (Unit × g_St)) : Nat → Option Nat → Int32 → Int32 → Int32 → g_St → Option (Unit × g_St)
  | 0, _, _, _, _, _ => none
  | n + 1, r0, x1, x2, x3, s0 =>
    g_gR s0 2433 r0 fun p1 =>
    g_aI s0 p1 x1 fun i2 =>
    if i2 ≤ x3 then
      k2 r0 x1 (x2 + 1) s0
    else
      g_c (g_nn r0 (f_M_kindOf r0 x1 x3 s0)) fun i3 s4 =>
      if i3 < 22 then
        f_M_checkGroups_12 k2 n r0 x1 x2 (x3 + 1) s4
      else
        g_gR s4 6465 r0 fun p5 =>
        g_aL s4 p5 ((4 * x2) + x3) fun j6 =>
        if j6 ≤ 0 then
          f_M_checkGroups_12 k2 n r0 x1 x2 (x3 + 1) s4
        else
          g_gR s4 6401 r0 fun p7 =>
          g_aL s4 p7 ((4 * x2) + x3) fun j8 =>
          g_c (f_M_isInt j8 s4) fun i9 s10 =>
          if i9 = 0 then
            g_pI s10 1 r0 3 fun s11 =>
            f_M_checkGroups_12 k2 n r0 x1 x2 (x3 + 1) s11
          else
            f_M_checkGroups_12 k2 n r0 x1 x2 (x3 + 1) s10
def f_M_checkGroups_2 : Nat → Option Nat → Int32 → Int32 → g_St → Option (Unit × g_St)
  | 0, _, _, _, _ => none
  | n + 1, r0, x1, x2, s0 =>
    g_gI s0 6337 r0 fun i1 =>
    if i1 ≤ x2 then
      some ((), s0)
    else
      f_M_checkGroups_12 (f_M_checkGroups_2 n) 200000 r0 x1 x2 0 s0
def f_M_checkGroups (r0 : Option Nat) (x1 : Int32) (s0 : g_St) : Option (Unit × g_St) :=
  f_M_checkGroups_2 200000 r0 x1 0 s0
set_option maxHeartbeats 4000000 in
set_option maxRecDepth 100000 in
theorem t_M_checkGroups_12 {K : g_C} {o : (Unit × g_St)} (hK : g_OK K b_M_checkGroups "FixpointEngineModel" "checkGroups" (Option.none : Option Jvm.ClassFile.FieldType)) (hN : g_nL K = 4) (hD : g_Kd K = 2) {k2 : Option Nat → Int32 → Int32 → g_St → Option (Unit × g_St)} (hk2 : ∀ (r0 : Option Nat) (x1 : Int32) (x2 : Int32) (s0 : g_St), k2 r0 x1 x2 s0 = some o → g_W K s0 [(0, g_r 1 r0), (1, g_i x1), (2, g_i x2)] [] 2 (g_jV o)) : ∀ (n : Nat) (r0 : Option Nat) (x1 : Int32) (x2 : Int32) (x3 : Int32) (s0 : g_St), f_M_checkGroups_12 k2 n r0 x1 x2 x3 s0 = some o → g_W K s0 [(0, g_r 1 r0), (1, g_i x1), (2, g_i x2), (3, g_i x3)] [] 12 (g_jV o) := by
  intro n
  induction n with
  | zero =>
    intro r0 x1 x2 x3 s0 h
    cases h
  | succ n ih =>
    intro r0 x1 x2 x3 s0 h
    unfold f_M_checkGroups_12 at h
    refine r_iload_n hK d_M_checkGroups_12 rfl 3 rfl ?_
    refine r_aload_n hK d_M_checkGroups_13 rfl 0 rfl ?_
    refine r_gR hK fd_M_38 w7_70 d_M_checkGroups_14 h (fun p1 h => ?_)
    refine r_iload_n hK d_M_checkGroups_17 rfl 1 rfl ?_
    refine r_iaload hK ar_20 rfl d_M_checkGroups_18 h (fun i2 h => ?_)
    refine r_if_icmpge (tgt := 75) hK d_M_checkGroups_19 (by decide) h (fun h => ?_) (fun h => ?_)
    · refine r_iinc (ls1 := [(2, g_i (x2 + 1)), (0, g_r 1 r0), (1, g_i x1), (3, g_i x3)]) hK d_M_checkGroups_75 2 rfl rfl (by rw [hN]; decide) rfl ?_
      refine r_goto (tgt := 2) hK d_M_checkGroups_78 (by decide) ?_
      exact r_sub [1, 2, 0] rfl (hk2 _ _ _ _ h)
    · refine r_aload_n hK d_M_checkGroups_22 rfl 0 rfl ?_
      refine r_iload_n hK d_M_checkGroups_23 rfl 1 rfl ?_
      refine r_iload_n hK d_M_checkGroups_24 rfl 3 rfl ?_
      refine r_Vi (avL := [g_i x1, g_i x3]) (st := []) hK ob_M rfl w9_143 wp_62 w9_141 w9_144 w1_6 (by decide) pl_M_kindOf (by rw [hD]; decide) (Nat.le_of_ble_eq_true rfl) rfl d_M_checkGroups_25 (fun o9 h9 => c_M_kindOf _ _ _ _ _ _ o9 h9) h (fun i3 s4 h => ?_)
      refine r_bipush (v := 22) hK d_M_checkGroups_28 (by decide) ?_
      refine r_if_icmplt (tgt := 69) hK d_M_checkGroups_30 (by decide) h (fun h => ?_) (fun h => ?_)
      · refine r_iinc (ls1 := [(3, g_i (x3 + 1)), (0, g_r 1 r0), (1, g_i x1), (2, g_i x2)]) hK d_M_checkGroups_69 3 rfl rfl (by rw [hN]; decide) rfl ?_
        refine r_goto (tgt := 12) hK d_M_checkGroups_72 (by decide) ?_
        exact r_sub [1, 2, 3, 0] rfl (ih _ _ _ _ _ h)
      · refine r_aload_n hK d_M_checkGroups_33 rfl 0 rfl ?_
        refine r_gR hK fd_M_101 w7_133 d_M_checkGroups_34 h (fun p5 h => ?_)
        refine r_iconst (v := 4) hK d_M_checkGroups_37 (by decide) ?_
        refine r_iload_n hK d_M_checkGroups_38 rfl 2 rfl ?_
        refine r_imul hK d_M_checkGroups_39 ?_
        refine r_iload_n hK d_M_checkGroups_40 rfl 3 rfl ?_
        refine r_iadd hK d_M_checkGroups_41 ?_
        refine r_laload hK ar_21 rfl d_M_checkGroups_42 h (fun j6 h => ?_)
        refine r_lconst (v := 0) hK d_M_checkGroups_43 (by decide) ?_
        refine r_lifle (tgt := 69) hK d_M_checkGroups_44 d_M_checkGroups_45 (by decide) h (fun h => ?_) (fun h => ?_)
        · refine r_iinc (ls1 := [(3, g_i (x3 + 1)), (0, g_r 1 r0), (1, g_i x1), (2, g_i x2)]) hK d_M_checkGroups_69 3 rfl rfl (by rw [hN]; decide) rfl ?_
          refine r_goto (tgt := 12) hK d_M_checkGroups_72 (by decide) ?_
          exact r_sub [1, 2, 3, 0] rfl (ih _ _ _ _ _ h)
        · refine r_aload_n hK d_M_checkGroups_48 rfl 0 rfl ?_
          refine r_gR hK fd_M_100 w7_132 d_M_checkGroups_49 h (fun p7 h => ?_)
          refine r_iconst (v := 4) hK d_M_checkGroups_52 (by decide) ?_
          refine r_iload_n hK d_M_checkGroups_53 rfl 2 rfl ?_
          refine r_imul hK d_M_checkGroups_54 ?_
          refine r_iload_n hK d_M_checkGroups_55 rfl 3 rfl ?_
          refine r_iadd hK d_M_checkGroups_56 ?_
          refine r_laload hK ar_21 rfl d_M_checkGroups_57 h (fun j8 h => ?_)
          refine r_Si (avL := [g_l j8]) (st := []) hK w9_153 w9_152 w9_154 w1_6 (by decide) pl_M_isInt (by rw [hD]; decide) (Nat.le_of_ble_eq_true rfl) rfl d_M_checkGroups_58 (fun o9 h9 => c_M_isInt _ _ _ _ o9 h9) h (fun i9 s10 h => ?_)
          refine r_ifne (tgt := 69) hK d_M_checkGroups_61 (by decide) h (fun h => ?_) (fun h => ?_)
          · refine r_iinc (ls1 := [(3, g_i (x3 + 1)), (0, g_r 1 r0), (1, g_i x1), (2, g_i x2)]) hK d_M_checkGroups_69 3 rfl rfl (by rw [hN]; decide) rfl ?_
            refine r_goto (tgt := 12) hK d_M_checkGroups_72 (by decide) ?_
            exact r_sub [1, 2, 3, 0] rfl (ih _ _ _ _ _ h)
          · refine r_aload_n hK d_M_checkGroups_64 rfl 0 rfl ?_
            refine r_iconst (v := 3) hK d_M_checkGroups_65 (by decide) ?_
            refine r_pI hK fd_M_0 rfl w7_32 d_M_checkGroups_66 h (fun s11 h => ?_)
            refine r_iinc (ls1 := [(3, g_i (x3 + 1)), (0, g_r 1 r0), (1, g_i x1), (2, g_i x2)]) hK d_M_checkGroups_69 3 rfl rfl (by rw [hN]; decide) rfl ?_
            refine r_goto (tgt := 12) hK d_M_checkGroups_72 (by decide) ?_
            exact r_sub [1, 2, 3, 0] rfl (ih _ _ _ _ _ h)
set_option maxHeartbeats 4000000 in
set_option maxRecDepth 100000 in
theorem t_M_checkGroups_2 {K : g_C} {o : (Unit × g_St)} (hK : g_OK K b_M_checkGroups "FixpointEngineModel" "checkGroups" (Option.none : Option Jvm.ClassFile.FieldType)) (hN : g_nL K = 4) (hD : g_Kd K = 2) : ∀ (n : Nat) (r0 : Option Nat) (x1 : Int32) (x2 : Int32) (s0 : g_St), f_M_checkGroups_2 n r0 x1 x2 s0 = some o → g_W K s0 [(0, g_r 1 r0), (1, g_i x1), (2, g_i x2)] [] 2 (g_jV o) := by
  intro n
  induction n with
  | zero =>
    intro r0 x1 x2 s0 h
    cases h
  | succ n ih =>
    intro r0 x1 x2 s0 h
    unfold f_M_checkGroups_2 at h
    refine r_iload_n hK d_M_checkGroups_2 rfl 2 rfl ?_
    refine r_aload_n hK d_M_checkGroups_3 rfl 0 rfl ?_
    refine r_gI hK fd_M_99 w7_131 d_M_checkGroups_4 h (fun i1 h => ?_)
    refine r_if_icmpge (tgt := 81) hK d_M_checkGroups_7 (by decide) h (fun h => ?_) (fun h => ?_)
    · exact r_return hK d_M_checkGroups_81 h
    · refine r_iconst (v := 0) hK d_M_checkGroups_10 (by decide) ?_
      refine r_istore_n (ls1 := [(3, g_i 0), (0, g_r 1 r0), (1, g_i x1), (2, g_i x2)]) hK d_M_checkGroups_11 rfl (by rw [hN]; decide) rfl ?_
      exact r_sub [1, 2, 3, 0] rfl (t_M_checkGroups_12 hK hN hD ih _ _ _ _ _ _ h)
set_option maxHeartbeats 4000000 in
set_option maxRecDepth 100000 in
theorem t_M_checkGroups_0 {K : g_C} {o : (Unit × g_St)} (hK : g_OK K b_M_checkGroups "FixpointEngineModel" "checkGroups" (Option.none : Option Jvm.ClassFile.FieldType)) (hN : g_nL K = 4) (hD : g_Kd K = 2) : ∀ (r0 : Option Nat) (x1 : Int32) (s0 : g_St), f_M_checkGroups r0 x1 s0 = some o → g_W K s0 [(0, g_r 1 r0), (1, g_i x1)] [] 0 (g_jV o) := by
  intro r0 x1 s0 h
  unfold f_M_checkGroups at h
  refine r_iconst (v := 0) hK d_M_checkGroups_0 (by decide) ?_
  refine r_istore_n (ls1 := [(2, g_i 0), (0, g_r 1 r0), (1, g_i x1)]) hK d_M_checkGroups_1 rfl (by rw [hN]; decide) rfl ?_
  exact r_sub [1, 2, 0] rfl (t_M_checkGroups_2 hK hN hD _ _ _ _ _ h)
theorem c_M_checkGroups (l : Launch) (G : g_G) (r0 : Option Nat) (x1 : Int32) (u : g_St) (o : (Unit × g_St)) (h : f_M_checkGroups r0 x1 u = some o) : g_Con l G y_M_checkGroups b_M_checkGroups 4 (Option.none : Option Jvm.ClassFile.FieldType) 2 [g_r 1 r0, g_i x1] u (g_jV o) :=
  g_Con.of rfl rfl (by decide +kernel) (Nat.le_of_ble_eq_true rfl) (fun K hK hN hD hX => t_M_checkGroups_0 hK hN hD _ _ _ h)
