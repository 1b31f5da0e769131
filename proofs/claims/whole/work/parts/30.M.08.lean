def f_M_named_41 : Nat → Option Nat → Int32 → Int32 → Int32 → Int32 → g_St → Option (Int32 × g_St)
  | 0, _, _, _, _, _, _ => none
  | n + 1, r0, x1, x2, x3, x4, s0 =>
    if x2 = 0 then
      some (x3, s0)
    else
      g_gR s0 2625 r0 fun p1 =>
      g_aI s0 p1 x1 fun i2 =>
      if i2 ≤ x4 then
        some (x3, s0)
      else
        g_gR s0 2689 r0 fun p3 =>
        g_aI s0 p3 ((6 * x1) + x4) fun i4 =>
        g_gR s0 3905 r0 fun p5 =>
        g_aI s0 p5 i4 fun i6 =>
        if i6 = 2 then
          g_gR s0 4161 r0 fun p7 =>
          g_aI s0 p7 i4 fun i8 =>
          g_c (g_nn r0 (f_M_partNamed r0 i8 s0)) fun i9 s10 =>
          f_M_named_41 n r0 x1 x2 (x3 ||| i9) (x4 + 1) s10
        else
          f_M_named_41 n r0 x1 x2 x3 (x4 + 1) s0
def f_M_named_5 : Nat → Option Nat → Int32 → Int32 → Int32 → Int32 → g_St → Option (Int32 × g_St)
  | 0, _, _, _, _, _, _ => none
  | n + 1, r0, x1, x2, x3, x4, s0 =>
    g_gR s0 2561 r0 fun p1 =>
    g_aI s0 p1 x1 fun i2 =>
    if i2 ≤ x4 then
      f_M_named_41 200000 r0 x1 x2 x3 0 s0
    else
      g_gR s0 2497 r0 fun p3 =>
      g_aI s0 p3 x1 fun i4 =>
      g_c (g_nn r0 (f_M_partNamed r0 (i4 + x4) s0)) fun i5 s6 =>
      f_M_named_5 n r0 x1 x2 (x3 ||| i5) (x4 + 1) s6
def f_M_named (r0 : Option Nat) (x1 : Int32) (x2 : Int32) (s0 : g_St) : Option (Int32 × g_St) :=
  f_M_named_5 200000 r0 x1 x2 0 0 s0
set_option maxHeartbeats 4000000 in
set_option maxRecDepth 100000 in
theorem t_M_named_41 {K : g_C} {o : (Int32 × g_St)} (hK : g_OK K b_M_named "FixpointEngineModel" "named" (Option.some Jvm.ClassFile.FieldType.int)) (hN : g_nL K = 6) (hD : g_Kd K = 2) : ∀ (n : Nat) (r0 : Option Nat) (x1 : Int32) (x2 : Int32) (x3 : Int32) (x4 : Int32) (s0 : g_St), f_M_named_41 n r0 x1 x2 x3 x4 s0 = some o → g_W K s0 [(0, g_r 1 r0), (1, g_i x1), (2, g_i x2), (3, g_i x3), (4, g_i x4)] [] 41 (g_jI o) := by
  intro n
  induction n with
  | zero =>
    intro r0 x1 x2 x3 x4 s0 h
    cases h
  | succ n ih =>
    intro r0 x1 x2 x3 x4 s0 h
    unfold f_M_named_41 at h
    refine r_iload_n hK d_M_named_41 rfl 2 rfl ?_
    refine r_ifeq (tgt := 101) hK d_M_named_42 (by decide) h (fun h => ?_) (fun h => ?_)
    · refine r_iload_n hK d_M_named_101 rfl 3 rfl ?_
      exact r_ireturn hK d_M_named_102 h
    · refine r_iload hK d_M_named_45 4 rfl ?_
      refine r_aload_n hK d_M_named_47 rfl 0 rfl ?_
      refine r_gR hK fd_M_41 w7_73 d_M_named_48 h (fun p1 h => ?_)
      refine r_iload_n hK d_M_named_51 rfl 1 rfl ?_
      refine r_iaload hK ar_20 rfl d_M_named_52 h (fun i2 h => ?_)
      refine r_if_icmpge (tgt := 101) hK d_M_named_53 (by decide) h (fun h => ?_) (fun h => ?_)
      · refine r_iload_n hK d_M_named_101 rfl 3 rfl ?_
        exact r_ireturn hK d_M_named_102 h
      · refine r_aload_n hK d_M_named_56 rfl 0 rfl ?_
        refine r_gR hK fd_M_42 w7_74 d_M_named_57 h (fun p3 h => ?_)
        refine r_bipush (v := 6) hK d_M_named_60 (by decide) ?_
        refine r_iload_n hK d_M_named_62 rfl 1 rfl ?_
        refine r_imul hK d_M_named_63 ?_
        refine r_iload hK d_M_named_64 4 rfl ?_
        refine r_iadd hK d_M_named_66 ?_
        refine r_iaload hK ar_20 rfl d_M_named_67 h (fun i4 h => ?_)
        refine r_istore (ls1 := [(5, g_i i4), (0, g_r 1 r0), (1, g_i x1), (2, g_i x2), (3, g_i x3), (4, g_i x4)]) hK d_M_named_68 (by rw [hN]; decide) rfl ?_
        refine r_aload_n hK d_M_named_70 rfl 1 rfl ?_
        refine r_gR hK fd_M_61 w7_93 d_M_named_71 h (fun p5 h => ?_)
        refine r_iload hK d_M_named_74 0 rfl ?_
        refine r_iaload hK ar_20 rfl d_M_named_76 h (fun i6 h => ?_)
        refine r_iconst (v := 2) hK d_M_named_77 (by decide) ?_
        refine r_if_icmpne (tgt := 95) hK d_M_named_78 (by decide) h (fun h => ?_) (fun h => ?_)
        · refine r_iinc (ls1 := [(4, g_i (x4 + 1)), (5, g_i i4), (0, g_r 1 r0), (1, g_i x1), (2, g_i x2), (3, g_i x3)]) hK d_M_named_95 5 rfl rfl (by rw [hN]; decide) rfl ?_
          refine r_goto (tgt := 41) hK d_M_named_98 (by decide) ?_
          exact r_sub [2, 3, 4, 5, 0] rfl (ih _ _ _ _ _ _ h)
        · refine r_iload_n hK d_M_named_81 rfl 4 rfl ?_
          refine r_aload_n hK d_M_named_82 rfl 1 rfl ?_
          refine r_aload_n hK d_M_named_83 rfl 1 rfl ?_
          refine r_gR hK fd_M_65 w7_97 d_M_named_84 h (fun p7 h => ?_)
          refine r_iload hK d_M_named_87 0 rfl ?_
          refine r_iaload hK ar_20 rfl d_M_named_89 h (fun i8 h => ?_)
          refine r_Vi (avL := [g_i i8]) (st := [g_i x3]) hK ob_M rfl w9_59 wp_44 w9_57 w9_60 w1_6 (by decide) pl_M_partNamed (by rw [hD]; decide) (Nat.le_of_ble_eq_true rfl) rfl d_M_named_90 (fun o9 h9 => c_M_partNamed _ _ _ _ _ o9 h9) h (fun i9 s10 h => ?_)
          refine r_ior hK d_M_named_93 ?_
          refine r_istore_n (ls1 := [(3, g_i (x3 ||| i9)), (5, g_i i4), (0, g_r 1 r0), (1, g_i x1), (2, g_i x2), (4, g_i x4)]) hK d_M_named_94 rfl (by rw [hN]; decide) rfl ?_
          refine r_iinc (ls1 := [(4, g_i (x4 + 1)), (3, g_i (x3 ||| i9)), (5, g_i i4), (0, g_r 1 r0), (1, g_i x1), (2, g_i x2)]) hK d_M_named_95 5 rfl rfl (by rw [hN]; decide) rfl ?_
          refine r_goto (tgt := 41) hK d_M_named_98 (by decide) ?_
          exact r_sub [3, 4, 5, 1, 0] rfl (ih _ _ _ _ _ _ h)
set_option maxHeartbeats 4000000 in
set_option maxRecDepth 100000 in
theorem t_M_named_5 {K : g_C} {o : (Int32 × g_St)} (hK : g_OK K b_M_named "FixpointEngineModel" "named" (Option.some Jvm.ClassFile.FieldType.int)) (hN : g_nL K = 6) (hD : g_Kd K = 2) : ∀ (n : Nat) (r0 : Option Nat) (x1 : Int32) (x2 : Int32) (x3 : Int32) (x4 : Int32) (s0 : g_St), f_M_named_5 n r0 x1 x2 x3 x4 s0 = some o → g_W K s0 [(0, g_r 1 r0), (1, g_i x1), (2, g_i x2), (3, g_i x3), (4, g_i x4)] [] 5 (g_jI o) := by
  intro n
  induction n with
  | zero =>
    intro r0 x1 x2 x3 x4 s0 h
    cases h
  | succ n ih =>
    intro r0 x1 x2 x3 x4 s0 h
    unfold f_M_named_5 at h
    refine r_iload hK d_M_named_5 4 rfl ?_
    refine r_aload_n hK d_M_named_7 rfl 0 rfl ?_
    refine r_gR hK fd_M_40 w7_72 d_M_named_8 h (fun p1 h => ?_)
    refine r_iload_n hK d_M_named_11 rfl 1 rfl ?_
    refine r_iaload hK ar_20 rfl d_M_named_12 h (fun i2 h => ?_)
    refine r_if_icmpge (tgt := 38) hK d_M_named_13 (by decide) h (fun h => ?_) (fun h => ?_)
    · refine r_iconst (v := 0) hK d_M_named_38 (by decide) ?_
      refine r_istore (ls1 := [(4, g_i 0), (0, g_r 1 r0), (1, g_i x1), (2, g_i x2), (3, g_i x3)]) hK d_M_named_39 (by rw [hN]; decide) rfl ?_
      exact r_sub [1, 2, 3, 4, 0] rfl (t_M_named_41 hK hN hD _ _ _ _ _ _ _ h)
    · refine r_iload_n hK d_M_named_16 rfl 3 rfl ?_
      refine r_aload_n hK d_M_named_17 rfl 0 rfl ?_
      refine r_aload_n hK d_M_named_18 rfl 0 rfl ?_
      refine r_gR hK fd_M_39 w7_71 d_M_named_19 h (fun p3 h => ?_)
      refine r_iload_n hK d_M_named_22 rfl 1 rfl ?_
      refine r_iaload hK ar_20 rfl d_M_named_23 h (fun i4 h => ?_)
      refine r_iload hK d_M_named_24 4 rfl ?_
      refine r_iadd hK d_M_named_26 ?_
      refine r_Vi (avL := [g_i (i4 + x4)]) (st := [g_i x3]) hK ob_M rfl w9_59 wp_44 w9_57 w9_60 w1_6 (by decide) pl_M_partNamed (by rw [hD]; decide) (Nat.le_of_ble_eq_true rfl) rfl d_M_named_27 (fun o9 h9 => c_M_partNamed _ _ _ _ _ o9 h9) h (fun i5 s6 h => ?_)
      refine r_ior hK d_M_named_30 ?_
      refine r_istore_n (ls1 := [(3, g_i (x3 ||| i5)), (0, g_r 1 r0), (1, g_i x1), (2, g_i x2), (4, g_i x4)]) hK d_M_named_31 rfl (by rw [hN]; decide) rfl ?_
      refine r_iinc (ls1 := [(4, g_i (x4 + 1)), (3, g_i (x3 ||| i5)), (0, g_r 1 r0), (1, g_i x1), (2, g_i x2)]) hK d_M_named_32 4 rfl rfl (by rw [hN]; decide) rfl ?_
      refine r_goto (tgt := 5) hK d_M_named_35 (by decide) ?_
      exact r_sub [2, 3, 4, 1, 0] rfl (ih _ _ _ _ _ _ h)
set_option maxHeartbeats 4000000 in
set_option maxRecDepth 100000 in
theorem t_M_named_0 {K : g_C} {o : (Int32 × g_St)} (hK : g_OK K b_M_named "FixpointEngineModel" "named" (Option.some Jvm.ClassFile.FieldType.int)) (hN : g_nL K = 6) (hD : g_Kd K = 2) : ∀ (r0 : Option Nat) (x1 : Int32) (x2 : Int32) (s0 : g_St), f_M_named r0 x1 x2 s0 = some o → g_W K s0 [(0, g_r 1 r0), (1, g_i x1), (2, g_i x2)] [] 0 (g_jI o) := by
  intro r0 x1 x2 s0 h
  unfold f_M_named at h
  refine r_iconst (v := 0) hK d_M_named_0 (by decide) ?_
  refine r_istore_n (ls1 := [(3, g_i 0), (0, g_r 1 r0), (1, g_i x1), (2, g_i x2)]) hK d_M_named_1 rfl (by rw [hN]; decide) rfl ?_
  refine r_iconst (v := 0) hK d_M_named_2 (by decide) ?_
  refine r_istore (ls1 := [(4, g_i 0), (3, g_i 0), (0, g_r 1 r0), (1, g_i x1), (2, g_i x2)]) hK d_M_named_3 (by rw [hN]; decide) rfl ?_
  exact r_sub [2, 3, 4, 1, 0] rfl (t_M_named_5 hK hN hD _ _ _ _ _ _ _ h)
theorem c_M_named (l : Launch) (G : g_G) (r0 : Option Nat) (x1 : Int32) (x2 : Int32) (u : g_St) (o : (Int32 × g_St)) (h : f_M_named r0 x1 x2 u = some o) : g_Con l G y_M_named b_M_named 6 (Option.some Jvm.ClassFile.FieldType.int) 2 [g_r 1 r0, g_i x1, g_i x2] u (g_jI o) :=
  g_Con.of rfl rfl (by decide +kernel) (Nat.le_of_ble_eq_true rfl) (fun K hK hN hD hX => t_M_named_0 hK hN hD _ _ _ _ h)
def f_M_together_6 : Nat → Option Nat → Int32 → Int32 → Int32 → g_St → Option (Int32 × g_St)
  | 0, _, _, _, _, _ => none
  | n + 1, r0, x1, x2, x3, s0 =>
    g_gI s0 1153 r0 fun i1 =>
    if i1 ≤ x3 then
      some (x2, s0)
    else
      g_gR s0 4737 r0 fun p2 =>
      g_aI s0 p2 x1 fun i3 =>
      if ((i3 >>> (x3 &&& 31)) &&& 1) = 1 then
        g_gR s0 4737 r0 fun p4 =>
        g_aI s0 p4 x3 fun i5 =>
        if ((i5 >>> (x1 &&& 31)) &&& 1) = 1 then
          f_M_together_6 n r0 x1 (x2 ||| (1 <<< (x3 &&& 31))) (x3 + 1) s0
        else
          f_M_together_6 n r0 x1 x2 (x3 + 1) s0
      else
        f_M_together_6 n r0 x1 x2 (x3 + 1) s0
def f_M_together (r0 : Option Nat) (x1 : Int32) (s0 : g_St) : Option (Int32 × g_St) :=
  f_M_together_6 200000 r0 x1 (1 <<< (x1 &&& 31)) 0 s0
set_option maxHeartbeats 4000000 in
set_option maxRecDepth 100000 in
theorem t_M_together_6 {K : g_C} {o : (Int32 × g_St)} (hK : g_OK K b_M_together "FixpointEngineModel" "together" (Option.some Jvm.ClassFile.FieldType.int)) (hN : g_nL K = 4) (hD : g_Kd K = 1) : ∀ (n : Nat) (r0 : Option Nat) (x1 : Int32) (x2 : Int32) (x3 : Int32) (s0 : g_St), f_M_together_6 n r0 x1 x2 x3 s0 = some o → g_W K s0 [(0, g_r 1 r0), (1, g_i x1), (2, g_i x2), (3, g_i x3)] [] 6 (g_jI o) := by
  intro n
  induction n with
  | zero =>
    intro r0 x1 x2 x3 s0 h
    cases h
  | succ n ih =>
    intro r0 x1 x2 x3 s0 h
    unfold f_M_together_6 at h
    refine r_iload_n hK d_M_together_6 rfl 3 rfl ?_
    refine r_aload_n hK d_M_together_7 rfl 0 rfl ?_
    refine r_gI hK fd_M_18 w7_50 d_M_together_8 h (fun i1 h => ?_)
    refine r_if_icmpge (tgt := 54) hK d_M_together_11 (by decide) h (fun h => ?_) (fun h => ?_)
    · refine r_iload_n hK d_M_together_54 rfl 2 rfl ?_
      exact r_ireturn hK d_M_together_55 h
    · refine r_aload_n hK d_M_together_14 rfl 0 rfl ?_
      refine r_gR hK fd_M_74 w7_106 d_M_together_15 h (fun p2 h => ?_)
      refine r_iload_n hK d_M_together_18 rfl 1 rfl ?_
      refine r_iaload hK ar_20 rfl d_M_together_19 h (fun i3 h => ?_)
      refine r_iload_n hK d_M_together_20 rfl 3 rfl ?_
      refine r_ishr hK d_M_together_21 ?_
      refine r_iconst (v := 1) hK d_M_together_22 (by decide) ?_
      refine r_iand hK d_M_together_23 ?_
      refine r_iconst (v := 1) hK d_M_together_24 (by decide) ?_
      refine r_if_icmpne (tgt := 48) hK d_M_together_25 (by decide) h (fun h => ?_) (fun h => ?_)
      · refine r_iinc (ls1 := [(3, g_i (x3 + 1)), (0, g_r 1 r0), (1, g_i x1), (2, g_i x2)]) hK d_M_together_48 3 rfl rfl (by rw [hN]; decide) rfl ?_
        refine r_goto (tgt := 6) hK d_M_together_51 (by decide) ?_
        exact r_sub [1, 2, 3, 0] rfl (ih _ _ _ _ _ h)
      · refine r_aload_n hK d_M_together_28 rfl 0 rfl ?_
        refine r_gR hK fd_M_74 w7_106 d_M_together_29 h (fun p4 h => ?_)
        refine r_iload_n hK d_M_together_32 rfl 3 rfl ?_
        refine r_iaload hK ar_20 rfl d_M_together_33 h (fun i5 h => ?_)
        refine r_iload_n hK d_M_together_34 rfl 1 rfl ?_
        refine r_ishr hK d_M_together_35 ?_
        refine r_iconst (v := 1) hK d_M_together_36 (by decide) ?_
        refine r_iand hK d_M_together_37 ?_
        refine r_iconst (v := 1) hK d_M_together_38 (by decide) ?_
        refine r_if_icmpne (tgt := 48) hK d_M_together_39 (by decide) h (fun h => ?_) (fun h => ?_)
        · refine r_iinc (ls1 := [(3, g_i (x3 + 1)), (0, g_r 1 r0), (1, g_i x1), (2, g_i x2)]) hK d_M_together_48 3 rfl rfl (by rw [hN]; decide) rfl ?_
          refine r_goto (tgt := 6) hK d_M_together_51 (by decide) ?_
          exact r_sub [1, 2, 3, 0] rfl (ih _ _ _ _ _ h)
        · refine r_iload_n hK d_M_together_42 rfl 2 rfl ?_
          refine r_iconst (v := 1) hK d_M_together_43 (by decide) ?_
          refine r_iload_n hK d_M_together_44 rfl 3 rfl ?_
          refine r_ishl hK d_M_together_45 ?_
          refine r_ior hK d_M_together_46 ?_
          refine r_istore_n (ls1 := [(2, g_i (x2 ||| (1 <<< (x3 &&& 31)))), (0, g_r 1 r0), (1, g_i x1), (3, g_i x3)]) hK d_M_together_47 rfl (by rw [hN]; decide) rfl ?_
          refine r_iinc (ls1 := [(3, g_i (x3 + 1)), (2, g_i (x2 ||| (1 <<< (x3 &&& 31)))), (0, g_r 1 r0), (1, g_i x1)]) hK d_M_together_48 3 rfl rfl (by rw [hN]; decide) rfl ?_
          refine r_goto (tgt := 6) hK d_M_together_51 (by decide) ?_
          exact r_sub [2, 3, 1, 0] rfl (ih _ _ _ _ _ h)
set_option maxHeartbeats 4000000 in
set_option maxRecDepth 100000 in
theorem t_M_together_0 {K : g_C} {o : (Int32 × g_St)} (hK : g_OK K b_M_together "FixpointEngineModel" "together" (Option.some Jvm.ClassFile.FieldType.int)) (hN : g_nL K = 4) (hD : g_Kd K = 1) : ∀ (r0 : Option Nat) (x1 : Int32) (s0 : g_St), f_M_together r0 x1 s0 = some o → g_W K s0 [(0, g_r 1 r0), (1, g_i x1)] [] 0 (g_jI o) := by
  intro r0 x1 s0 h
  unfold f_M_together at h
  refine r_iconst (v := 1) hK d_M_together_0 (by decide) ?_
  refine r_iload_n hK d_M_together_1 rfl 1 rfl ?_
  refine r_ishl hK d_M_together_2 ?_
  refine r_istore_n (ls1 := [(2, g_i (1 <<< (x1 &&& 31))), (0, g_r 1 r0), (1, g_i x1)]) hK d_M_together_3 rfl (by rw [hN]; decide) rfl ?_
  refine r_iconst (v := 0) hK d_M_together_4 (by decide) ?_
  refine r_istore_n (ls1 := [(3, g_i 0), (2, g_i (1 <<< (x1 &&& 31))), (0, g_r 1 r0), (1, g_i x1)]) hK d_M_together_5 rfl (by rw [hN]; decide) rfl ?_
  exact r_sub [2, 3, 1, 0] rfl (t_M_together_6 hK hN hD _ _ _ _ _ _ h)
theorem c_M_together (l : Launch) (G : g_G) (r0 : Option Nat) (x1 : Int32) (u : g_St) (o : (Int32 × g_St)) (h : f_M_together r0 x1 u = some o) : g_Con l G y_M_together b_M_together 4 (Option.some Jvm.ClassFile.FieldType.int) 1 [g_r 1 r0, g_i x1] u (g_jI o) :=
  g_Con.of rfl rfl (by decide +kernel) (Nat.le_of_ble_eq_true rfl) (fun K hK hN hD hX => t_M_together_0 hK hN hD _ _ _ h)
def f_M_findComponents_229 (k163 : Option Nat → Int32 → g_St → Option (Unit × g_St)) : Nat → Option Nat → Int32 → Int32 → Int32 → g_St → Option (Unit × g_St)
  | 0, _, _, _, _, _ => none
  | n + 1, r0, x1, x2, x3, s0 =>
    g_gI s0 1153 r0 fun i1 =>
    if i1 ≤ x3 then
      g_c (g_nn r0 (f_M_together r0 x2 s0)) fun i2 s3 =>
      g_gI s3 4865 r0 fun i4 =>
      g_pI s3 4865 r0 (i4 + 1) fun s5 =>
      k163 r0 (x1 ||| i2) s5
    else
      g_c (g_nn r0 (f_M_together r0 x2 s0)) fun i6 s7 =>
      if ((i6 >>> (x3 &&& 31)) &&& 1) = 1 then
        g_gR s7 4801 r0 fun p8 =>
        g_gI s7 4865 r0 fun i9 =>
        g_sI s7 p8 x3 i9 fun s10 =>
        f_M_findComponents_229 k163 n r0 x1 x2 (x3 + 1) s10
      else
        f_M_findComponents_229 k163 n r0 x1 x2 (x3 + 1) s7
def f_M_findComponents_184 (k163 : Option Nat → Int32 → g_St → Option (Unit × g_St)) : Nat → Option Nat → Int32 → Int32 → Int32 → g_St → Option (Unit × g_St)
  | 0, _, _, _, _, _ => none
  | n + 1, r0, x1, x2, x3, s0 =>
    if x3 < 0 then
      f_M_findComponents_229 k163 200000 r0 x1 x2 0 s0
    else
      g_gR s0 4801 r0 fun p1 =>
      g_aI s0 p1 x3 fun i2 =>
      if i2 = (-1) then
        g_gR s0 4737 r0 fun p3 =>
        g_aI s0 p3 x3 fun i4 =>
        g_c (g_nn r0 (f_M_together r0 x3 s0)) fun i5 s6 =>
        if ((i4 &&& (x1 ^^^ (-1))) &&& (i5 ^^^ (-1))) = 0 then
          f_M_findComponents_184 k163 n r0 x1 x3 (x3 + (-1)) s6
        else
          f_M_findComponents_184 k163 n r0 x1 x2 (x3 + (-1)) s6
      else
        f_M_findComponents_184 k163 n r0 x1 x2 (x3 + (-1)) s0
def f_M_findComponents_163 : Nat → Option Nat → Int32 → g_St → Option (Unit × g_St)
  | 0, _, _, _ => none
  | n + 1, r0, x1, s0 =>
    g_gI s0 1153 r0 fun i1 =>
    if x1 = ((1 <<< (i1 &&& 31)) - 1) then
      some ((), s0)
    else
      g_gI s0 1153 r0 fun i2 =>
      f_M_findComponents_184 (f_M_findComponents_163 n) 200000 r0 x1 (-1) (i2 - 1) s0
def f_M_findComponents_101 (k91 : Option Nat → Int32 → Int32 → g_St → Option (Unit × g_St)) : Nat → Option Nat → Int32 → Int32 → Int32 → g_St → Option (Unit × g_St)
  | 0, _, _, _, _, _ => none
  | n + 1, r0, x1, x2, x3, s0 =>
    g_gI s0 1153 r0 fun i1 =>
    if i1 ≤ x3 then
      k91 r0 x1 (x2 + 1) s0
    else
      g_gR s0 4737 r0 fun p2 =>
      g_aI s0 p2 x2 fun i3 =>
      if ((i3 >>> (x3 &&& 31)) &&& 1) = 1 then
        g_gR s0 4737 r0 fun p4 =>
        g_aI s0 p4 x2 fun i5 =>
        g_gR s0 4737 r0 fun p6 =>
        g_aI s0 p6 x3 fun i7 =>
        g_sI s0 p4 x2 (i5 ||| i7) fun s8 =>
        f_M_findComponents_101 k91 n r0 x1 x2 (x3 + 1) s8
      else
        f_M_findComponents_101 k91 n r0 x1 x2 (x3 + 1) s0
def f_M_findComponents_91 (k84 : Option Nat → Int32 → g_St → Option (Unit × g_St)) : Nat → Option Nat → Int32 → Int32 → g_St → Option (Unit × g_St)
  | 0, _, _, _, _ => none
  | n + 1, r0, x1, x2, s0 =>
    g_gI s0 1153 r0 fun i1 =>
    if i1 ≤ x2 then
      k84 r0 (x1 + 1) s0
    else
      f_M_findComponents_101 (f_M_findComponents_91 k84 n) 200000 r0 x1 x2 0 s0
def f_M_findComponents_84 : Nat → Option Nat → Int32 → g_St → Option (Unit × g_St)
  | 0, _, _, _ => none
  | n + 1, r0, x1, s0 =>
    if 4 ≤ x1 then
      g_pI s0 4865 r0 0 fun s1 =>
      f_M_findComponents_163 200000 r0 0 s1
    else
      f_M_findComponents_91 (f_M_findComponents_84 n) 200000 r0 x1 0 s0
def f_M_findComponents_19 (k2 : Option Nat → Int32 → g_St → Option (Unit × g_St)) : Nat → Option Nat → Int32 → Int32 → g_St → Option (Unit × g_St)
  | 0, _, _, _, _ => none
  | n + 1, r0, x1, x2, s0 =>
    g_gR s0 2049 r0 fun p1 =>
    g_aI s0 p1 x1 fun i2 =>
    if i2 ≤ x2 then
      g_gR s0 4737 r0 fun p3 =>
      g_gR s0 4673 r0 fun p4 =>
      g_aI s0 p4 x1 fun i5 =>
      g_sI s0 p3 x1 i5 fun s6 =>
      g_gR s6 4801 r0 fun p7 =>
      g_sI s6 p7 x1 (-1) fun s8 =>
      k2 r0 (x1 + 1) s8
    else
      g_gR s0 4673 r0 fun p9 =>
      g_aI s0 p9 x1 fun i10 =>
      g_gR s0 1985 r0 fun p11 =>
      g_aI s0 p11 x1 fun i12 =>
      g_c (g_nn r0 (f_M_named r0 (i12 + x2) 1 s0)) fun i13 s14 =>
      g_sI s14 p9 x1 (i10 ||| i13) fun s15 =>
      f_M_findComponents_19 k2 n r0 x1 (x2 + 1) s15
def f_M_findComponents_2 : Nat → Option Nat → Int32 → g_St → Option (Unit × g_St)
  | 0, _, _, _ => none
  | n + 1, r0, x1, s0 =>
    g_gI s0 1153 r0 fun i1 =>
    if i1 ≤ x1 then
      f_M_findComponents_84 200000 r0 0 s0
    else
      g_gR s0 4673 r0 fun p2 =>
      g_sI s0 p2 x1 0 fun s3 =>
      f_M_findComponents_19 (f_M_findComponents_2 n) 200000 r0 x1 0 s3
def f_M_findComponents (r0 : Option Nat) (s0 : g_St) : Option (Unit × g_St) :=
  f_M_findComponents_2 200000 r0 0 s0
set_option maxHeartbeats 4000000 in
set_option maxRecDepth 100000 in
theorem t_M_findComponents_229 {K : g_C} {o : (Unit × g_St)} (hK : g_OK K b_M_findComponents "FixpointEngineModel" "findComponents" (Option.none : Option Jvm.ClassFile.FieldType)) (hN : g_nL K = 4) (hD : g_Kd K = 3) {k163 : Option Nat → Int32 → g_St → Option (Unit × g_St)} (hk163 : ∀ (r0 : Option Nat) (x1 : Int32) (s0 : g_St), k163 r0 x1 s0 = some o → g_W K s0 [(0, g_r 1 r0), (1, g_i x1)] [] 163 (g_jV o)) : ∀ (n : Nat) (r0 : Option Nat) (x1 : Int32) (x2 : Int32) (x3 : Int32) (s0 : g_St), f_M_findComponents_229 k163 n r0 x1 x2 x3 s0 = some o → g_W K s0 [(0, g_r 1 r0), (1, g_i x1), (2, g_i x2), (3, g_i x3)] [] 229 (g_jV o) := by
  intro n
  induction n with
  | zero =>
    intro r0 x1 x2 x3 s0 h
    cases h
  | succ n ih =>
    intro r0 x1 x2 x3 s0 h
    unfold f_M_findComponents_229 at h
    refine r_iload_n hK d_M_findComponents_229 rfl 3 rfl ?_
    refine r_aload_n hK d_M_findComponents_230 rfl 0 rfl ?_
    refine r_gI hK fd_M_18 w7_50 d_M_findComponents_231 h (fun i1 h => ?_)
    refine r_if_icmpge (tgt := 266) hK d_M_findComponents_234 (by decide) h (fun h => ?_) (fun h => ?_)
    · refine r_iload_n hK d_M_findComponents_266 rfl 1 rfl ?_
      refine r_aload_n hK d_M_findComponents_267 rfl 0 rfl ?_
      refine r_iload_n hK d_M_findComponents_268 rfl 2 rfl ?_
      refine r_Vi (avL := [g_i x2]) (st := [g_i x1]) hK ob_M rfl w9_63 wp_45 w9_61 w9_64 w1_6 (by decide) pl_M_together (by rw [hD]; decide) (Nat.le_of_ble_eq_true rfl) rfl d_M_findComponents_269 (fun o9 h9 => c_M_together _ _ _ _ _ o9 h9) h (fun i2 s3 h => ?_)
      refine r_ior hK d_M_findComponents_272 ?_
      refine r_istore_n (ls1 := [(1, g_i (x1 ||| i2)), (0, g_r 1 r0), (2, g_i x2), (3, g_i x3)]) hK d_M_findComponents_273 rfl (by rw [hN]; decide) rfl ?_
      refine r_aload_n hK d_M_findComponents_274 rfl 1 rfl ?_
      refine r_dup hK d_M_findComponents_275 rfl ?_
      refine r_gI hK fd_M_76 w7_108 d_M_findComponents_276 h (fun i4 h => ?_)
      refine r_iconst (v := 1) hK d_M_findComponents_279 (by decide) ?_
      refine r_iadd hK d_M_findComponents_280 ?_
      refine r_pI hK fd_M_76 rfl w7_108 d_M_findComponents_281 h (fun s5 h => ?_)
      refine r_goto (tgt := 163) hK d_M_findComponents_284 (by decide) ?_
      exact r_sub [1, 0] rfl (hk163 _ _ _ h)
    · refine r_aload_n hK d_M_findComponents_237 rfl 0 rfl ?_
      refine r_iload_n hK d_M_findComponents_238 rfl 2 rfl ?_
      refine r_Vi (avL := [g_i x2]) (st := []) hK ob_M rfl w9_63 wp_45 w9_61 w9_64 w1_6 (by decide) pl_M_together (by rw [hD]; decide) (Nat.le_of_ble_eq_true rfl) rfl d_M_findComponents_239 (fun o9 h9 => c_M_together _ _ _ _ _ o9 h9) h (fun i6 s7 h => ?_)
      refine r_iload_n hK d_M_findComponents_242 rfl 3 rfl ?_
      refine r_ishr hK d_M_findComponents_243 ?_
      refine r_iconst (v := 1) hK d_M_findComponents_244 (by decide) ?_
      refine r_iand hK d_M_findComponents_245 ?_
      refine r_iconst (v := 1) hK d_M_findComponents_246 (by decide) ?_
      refine r_if_icmpne (tgt := 260) hK d_M_findComponents_247 (by decide) h (fun h => ?_) (fun h => ?_)
      · refine r_iinc (ls1 := [(3, g_i (x3 + 1)), (0, g_r 1 r0), (1, g_i x1), (2, g_i x2)]) hK d_M_findComponents_260 3 rfl rfl (by rw [hN]; decide) rfl ?_
        refine r_goto (tgt := 229) hK d_M_findComponents_263 (by decide) ?_
        exact r_sub [1, 2, 3, 0] rfl (ih _ _ _ _ _ h)
      · refine r_aload_n hK d_M_findComponents_250 rfl 0 rfl ?_
        refine r_gR hK fd_M_75 w7_107 d_M_findComponents_251 h (fun p8 h => ?_)
        refine r_iload_n hK d_M_findComponents_254 rfl 3 rfl ?_
        refine r_aload_n hK d_M_findComponents_255 rfl 0 rfl ?_
        refine r_gI hK fd_M_76 w7_108 d_M_findComponents_256 h (fun i9 h => ?_)
        refine r_iastore hK ar_20 rfl d_M_findComponents_259 h (fun s10 h => ?_)
        refine r_iinc (ls1 := [(3, g_i (x3 + 1)), (0, g_r 1 r0), (1, g_i x1), (2, g_i x2)]) hK d_M_findComponents_260 3 rfl rfl (by rw [hN]; decide) rfl ?_
        refine r_goto (tgt := 229) hK d_M_findComponents_263 (by decide) ?_
        exact r_sub [1, 2, 3, 0] rfl (ih _ _ _ _ _ h)
set_option maxHeartbeats 4000000 in
set_option maxRecDepth 100000 in
theorem t_M_findComponents_184 {K : g_C} {o : (Unit × g_St)} (hK : g_OK K b_M_findComponents "FixpointEngineModel" "findComponents" (Option.none : Option Jvm.ClassFile.FieldType)) (hN : g_nL K = 4) (hD : g_Kd K = 3) {k163 : Option Nat → Int32 → g_St → Option (Unit × g_St)} (hk163 : ∀ (r0 : Option Nat) (x1 : Int32) (s0 : g_St), k163 r0 x1 s0 = some o → g_W K s0 [(0, g_r 1 r0), (1, g_i x1)] [] 163 (g_jV o)) : ∀ (n : Nat) (r0 : Option Nat) (x1 : Int32) (x2 : Int32) (x3 : Int32) (s0 : g_St), f_M_findComponents_184 k163 n r0 x1 x2 x3 s0 = some o → g_W K s0 [(0, g_r 1 r0), (1, g_i x1), (2, g_i x2), (3, g_i x3)] [] 184 (g_jV o) := by
  intro n
  induction n with
  | zero =>
    intro r0 x1 x2 x3 s0 h
    cases h
  | succ n ih =>
    intro r0 x1 x2 x3 s0 h
    unfold f_M_findComponents_184 at h
    refine r_iload_n hK d_M_findComponents_184 rfl 3 rfl ?_
    refine r_iflt (tgt := 227) hK d_M_findComponents_185 (by decide) h (fun h => ?_) (fun h => ?_)
    · refine r_iconst (v := 0) hK d_M_findComponents_227 (by decide) ?_
      refine r_istore_n (ls1 := [(3, g_i 0), (0, g_r 1 r0), (1, g_i x1), (2, g_i x2)]) hK d_M_findComponents_228 rfl (by rw [hN]; decide) rfl ?_
      exact r_sub [1, 2, 3, 0] rfl (t_M_findComponents_229 hK hN hD hk163 _ _ _ _ _ _ h)
    · refine r_aload_n hK d_M_findComponents_188 rfl 0 rfl ?_
      refine r_gR hK fd_M_75 w7_107 d_M_findComponents_189 h (fun p1 h => ?_)
      refine r_iload_n hK d_M_findComponents_192 rfl 3 rfl ?_
      refine r_iaload hK ar_20 rfl d_M_findComponents_193 h (fun i2 h => ?_)
      refine r_iconst (v := (-1)) hK d_M_findComponents_194 (by decide) ?_
      refine r_if_icmpne (tgt := 221) hK d_M_findComponents_195 (by decide) h (fun h => ?_) (fun h => ?_)
      · refine r_iinc (ls1 := [(3, g_i (x3 + (-1))), (0, g_r 1 r0), (1, g_i x1), (2, g_i x2)]) hK d_M_findComponents_221 3 rfl rfl (by rw [hN]; decide) rfl ?_
        refine r_goto (tgt := 184) hK d_M_findComponents_224 (by decide) ?_
        exact r_sub [1, 2, 3, 0] rfl (ih _ _ _ _ _ h)
      · refine r_aload_n hK d_M_findComponents_198 rfl 0 rfl ?_
        refine r_gR hK fd_M_74 w7_106 d_M_findComponents_199 h (fun p3 h => ?_)
        refine r_iload_n hK d_M_findComponents_202 rfl 3 rfl ?_
        refine r_iaload hK ar_20 rfl d_M_findComponents_203 h (fun i4 h => ?_)
        refine r_iload_n hK d_M_findComponents_204 rfl 1 rfl ?_
        refine r_iconst (v := (-1)) hK d_M_findComponents_205 (by decide) ?_
        refine r_ixor hK d_M_findComponents_206 ?_
        refine r_iand hK d_M_findComponents_207 ?_
        refine r_aload_n hK d_M_findComponents_208 rfl 0 rfl ?_
        refine r_iload_n hK d_M_findComponents_209 rfl 3 rfl ?_
        refine r_Vi (avL := [g_i x3]) (st := [g_i (i4 &&& (x1 ^^^ (-1)))]) hK ob_M rfl w9_63 wp_45 w9_61 w9_64 w1_6 (by decide) pl_M_together (by rw [hD]; decide) (Nat.le_of_ble_eq_true rfl) rfl d_M_findComponents_210 (fun o9 h9 => c_M_together _ _ _ _ _ o9 h9) h (fun i5 s6 h => ?_)
        refine r_iconst (v := (-1)) hK d_M_findComponents_213 (by decide) ?_
        refine r_ixor hK d_M_findComponents_214 ?_
        refine r_iand hK d_M_findComponents_215 ?_
        refine r_ifne (tgt := 221) hK d_M_findComponents_216 (by decide) h (fun h => ?_) (fun h => ?_)
        · refine r_iinc (ls1 := [(3, g_i (x3 + (-1))), (0, g_r 1 r0), (1, g_i x1), (2, g_i x2)]) hK d_M_findComponents_221 3 rfl rfl (by rw [hN]; decide) rfl ?_
          refine r_goto (tgt := 184) hK d_M_findComponents_224 (by decide) ?_
          exact r_sub [1, 2, 3, 0] rfl (ih _ _ _ _ _ h)
        · refine r_iload_n hK d_M_findComponents_219 rfl 3 rfl ?_
          refine r_istore_n (ls1 := [(2, g_i x3), (0, g_r 1 r0), (1, g_i x1), (3, g_i x3)]) hK d_M_findComponents_220 rfl (by rw [hN]; decide) rfl ?_
          refine r_iinc (ls1 := [(3, g_i (x3 + (-1))), (2, g_i x3), (0, g_r 1 r0), (1, g_i x1)]) hK d_M_findComponents_221 3 rfl rfl (by rw [hN]; decide) rfl ?_
          refine r_goto (tgt := 184) hK d_M_findComponents_224 (by decide) ?_
          exact r_sub [2, 3, 1, 0] rfl (ih _ _ _ _ _ h)
set_option maxHeartbeats 4000000 in
set_option maxRecDepth 100000 in
theorem t_M_findComponents_163 {K : g_C} {o : (Unit × g_St)} (hK : g_OK K b_M_findComponents "FixpointEngineModel" "findComponents" (Option.none : Option Jvm.ClassFile.FieldType)) (hN : g_nL K = 4) (hD : g_Kd K = 3) : ∀ (n : Nat) (r0 : Option Nat) (x1 : Int32) (s0 : g_St), f_M_findComponents_163 n r0 x1 s0 = some o → g_W K s0 [(0, g_r 1 r0), (1, g_i x1)] [] 163 (g_jV o) := by
  intro n
  induction n with
  | zero =>
    intro r0 x1 s0 h
    cases h
  | succ n ih =>
    intro r0 x1 s0 h
    unfold f_M_findComponents_163 at h
    refine r_iload_n hK d_M_findComponents_163 rfl 1 rfl ?_
    refine r_iconst (v := 1) hK d_M_findComponents_164 (by decide) ?_
    refine r_aload_n hK d_M_findComponents_165 rfl 0 rfl ?_
    refine r_gI hK fd_M_18 w7_50 d_M_findComponents_166 h (fun i1 h => ?_)
    refine r_ishl hK d_M_findComponents_169 ?_
    refine r_iconst (v := 1) hK d_M_findComponents_170 (by decide) ?_
    refine r_isub hK d_M_findComponents_171 ?_
    refine r_if_icmpeq (tgt := 287) hK d_M_findComponents_172 (by decide) h (fun h => ?_) (fun h => ?_)
    · exact r_return hK d_M_findComponents_287 h
    · refine r_iconst (v := (-1)) hK d_M_findComponents_175 (by decide) ?_
      refine r_istore_n (ls1 := [(2, g_i (-1)), (0, g_r 1 r0), (1, g_i x1)]) hK d_M_findComponents_176 rfl (by rw [hN]; decide) rfl ?_
      refine r_aload_n hK d_M_findComponents_177 rfl 1 rfl ?_
      refine r_gI hK fd_M_18 w7_50 d_M_findComponents_178 h (fun i2 h => ?_)
      refine r_iconst (v := 1) hK d_M_findComponents_181 (by decide) ?_
      refine r_isub hK d_M_findComponents_182 ?_
      refine r_istore_n (ls1 := [(3, g_i (i2 - 1)), (2, g_i (-1)), (0, g_r 1 r0), (1, g_i x1)]) hK d_M_findComponents_183 rfl (by rw [hN]; decide) rfl ?_
      exact r_sub [2, 3, 1, 0] rfl (t_M_findComponents_184 hK hN hD ih _ _ _ _ _ _ h)
set_option maxHeartbeats 4000000 in
set_option maxRecDepth 100000 in
theorem t_M_findComponents_101 {K : g_C} {o : (Unit × g_St)} (hK : g_OK K b_M_findComponents "FixpointEngineModel" "findComponents" (Option.none : Option Jvm.ClassFile.FieldType)) (hN : g_nL K = 4) (hD : g_Kd K = 3) {k91 : Option Nat → Int32 → Int32 → g_St → Option (Unit × g_St)} (hk91 : ∀ (r0 : Option Nat) (x1 : Int32) (x2 : Int32) (s0 : g_St), k91 r0 x1 x2 s0 = some o → g_W K s0 [(0, g_r 1 r0), (1, g_i x1), (2, g_i x2)] [] 91 (g_jV o)) : ∀ (n : Nat) (r0 : Option Nat) (x1 : Int32) (x2 : Int32) (x3 : Int32) (s0 : g_St), f_M_findComponents_101 k91 n r0 x1 x2 x3 s0 = some o → g_W K s0 [(0, g_r 1 r0), (1, g_i x1), (2, g_i x2), (3, g_i x3)] [] 101 (g_jV o) := by
  intro n
  induction n with
  | zero =>
    intro r0 x1 x2 x3 s0 h
    cases h
  | succ n ih =>
    intro r0 x1 x2 x3 s0 h
    unfold f_M_findComponents_101 at h
    refine r_iload_n hK d_M_findComponents_101 rfl 3 rfl ?_
    refine r_aload_n hK d_M_findComponents_102 rfl 0 rfl ?_
    refine r_gI hK fd_M_18 w7_50 d_M_findComponents_103 h (fun i1 h => ?_)
    refine r_if_icmpge (tgt := 144) hK d_M_findComponents_106 (by decide) h (fun h => ?_) (fun h => ?_)
    · refine r_iinc (ls1 := [(2, g_i (x2 + 1)), (0, g_r 1 r0), (1, g_i x1), (3, g_i x3)]) hK d_M_findComponents_144 2 rfl rfl (by rw [hN]; decide) rfl ?_
      refine r_goto (tgt := 91) hK d_M_findComponents_147 (by decide) ?_
      exact r_sub [1, 2, 0] rfl (hk91 _ _ _ _ h)
    · refine r_aload_n hK d_M_findComponents_109 rfl 0 rfl ?_
      refine r_gR hK fd_M_74 w7_106 d_M_findComponents_110 h (fun p2 h => ?_)
      refine r_iload_n hK d_M_findComponents_113 rfl 2 rfl ?_
      refine r_iaload hK ar_20 rfl d_M_findComponents_114 h (fun i3 h => ?_)
      refine r_iload_n hK d_M_findComponents_115 rfl 3 rfl ?_
      refine r_ishr hK d_M_findComponents_116 ?_
      refine r_iconst (v := 1) hK d_M_findComponents_117 (by decide) ?_
      refine r_iand hK d_M_findComponents_118 ?_
      refine r_iconst (v := 1) hK d_M_findComponents_119 (by decide) ?_
      refine r_if_icmpne (tgt := 138) hK d_M_findComponents_120 (by decide) h (fun h => ?_) (fun h => ?_)
      · refine r_iinc (ls1 := [(3, g_i (x3 + 1)), (0, g_r 1 r0), (1, g_i x1), (2, g_i x2)]) hK d_M_findComponents_138 3 rfl rfl (by rw [hN]; decide) rfl ?_
        refine r_goto (tgt := 101) hK d_M_findComponents_141 (by decide) ?_
        exact r_sub [1, 2, 3, 0] rfl (ih _ _ _ _ _ h)
      · refine r_aload_n hK d_M_findComponents_123 rfl 0 rfl ?_
        refine r_gR hK fd_M_74 w7_106 d_M_findComponents_124 h (fun p4 h => ?_)
        refine r_iload_n hK d_M_findComponents_127 rfl 2 rfl ?_
        refine r_dup2_11 hK d_M_findComponents_128 rfl rfl ?_
        refine r_iaload hK ar_20 rfl d_M_findComponents_129 h (fun i5 h => ?_)
        refine r_aload_n hK d_M_findComponents_130 rfl 0 rfl ?_
        refine r_gR hK fd_M_74 w7_106 d_M_findComponents_131 h (fun p6 h => ?_)
        refine r_iload_n hK d_M_findComponents_134 rfl 3 rfl ?_
        refine r_iaload hK ar_20 rfl d_M_findComponents_135 h (fun i7 h => ?_)
        refine r_ior hK d_M_findComponents_136 ?_
        refine r_iastore hK ar_20 rfl d_M_findComponents_137 h (fun s8 h => ?_)
        refine r_iinc (ls1 := [(3, g_i (x3 + 1)), (0, g_r 1 r0), (1, g_i x1), (2, g_i x2)]) hK d_M_findComponents_138 3 rfl rfl (by rw [hN]; decide) rfl ?_
        refine r_goto (tgt := 101) hK d_M_findComponents_141 (by decide) ?_
        exact r_sub [1, 2, 3, 0] rfl (ih _ _ _ _ _ h)
set_option maxHeartbeats 4000000 in
set_option maxRecDepth 100000 in
theorem t_M_findComponents_91 {K : g_C} {o : (Unit × g_St)} (hK : g_OK K b_M_findComponents "FixpointEngineModel" "findComponents" (Option.none : Option Jvm.ClassFile.FieldType)) (hN : g_nL K = 4) (hD : g_Kd K = 3) {k84 : Option Nat → Int32 → g_St → Option (Unit × g_St)} (hk84 : ∀ (r0 : Option Nat) (x1 : Int32) (s0 : g_St), k84 r0 x1 s0 = some o → g_W K s0 [(0, g_r 1 r0), (1, g_i x1)] [] 84 (g_jV o)) : ∀ (n : Nat) (r0 : Option Nat) (x1 : Int32) (x2 : Int32) (s0 : g_St), f_M_findComponents_91 k84 n r0 x1 x2 s0 = some o → g_W K s0 [(0, g_r 1 r0), (1, g_i x1), (2, g_i x2)] [] 91 (g_jV o) := by
  intro n
  induction n with
  | zero =>
    intro r0 x1 x2 s0 h
    cases h
  | succ n ih =>
    intro r0 x1 x2 s0 h
    unfold f_M_findComponents_91 at h
    refine r_iload_n hK d_M_findComponents_91 rfl 2 rfl ?_
    refine r_aload_n hK d_M_findComponents_92 rfl 0 rfl ?_
    refine r_gI hK fd_M_18 w7_50 d_M_findComponents_93 h (fun i1 h => ?_)
    refine r_if_icmpge (tgt := 150) hK d_M_findComponents_96 (by decide) h (fun h => ?_) (fun h => ?_)
    · refine r_iinc (ls1 := [(1, g_i (x1 + 1)), (0, g_r 1 r0), (2, g_i x2)]) hK d_M_findComponents_150 1 rfl rfl (by rw [hN]; decide) rfl ?_
      refine r_goto (tgt := 84) hK d_M_findComponents_153 (by decide) ?_
      exact r_sub [1, 0] rfl (hk84 _ _ _ h)
    · refine r_iconst (v := 0) hK d_M_findComponents_99 (by decide) ?_
      refine r_istore_n (ls1 := [(3, g_i 0), (0, g_r 1 r0), (1, g_i x1), (2, g_i x2)]) hK d_M_findComponents_100 rfl (by rw [hN]; decide) rfl ?_
      exact r_sub [1, 2, 3, 0] rfl (t_M_findComponents_101 hK hN hD ih _ _ _ _ _ _ h)
set_option maxHeartbeats 4000000 in
set_option maxRecDepth 100000 in
theorem t_M_findComponents_84 {K : g_C} {o : (Unit × g_St)} (hK : g_OK K b_M_findComponents "FixpointEngineModel" "findComponents" (Option.none : Option Jvm.ClassFile.FieldType)) (hN : g_nL K = 4) (hD : g_Kd K = 3) : ∀ (n : Nat) (r0 : Option Nat) (x1 : Int32) (s0 : g_St), f_M_findComponents_84 n r0 x1 s0 = some o → g_W K s0 [(0, g_r 1 r0), (1, g_i x1)] [] 84 (g_jV o) := by
  intro n
  induction n with
  | zero =>
    intro r0 x1 s0 h
    cases h
  | succ n ih =>
    intro r0 x1 s0 h
    unfold f_M_findComponents_84 at h
    refine r_iload_n hK d_M_findComponents_84 rfl 1 rfl ?_
    refine r_iconst (v := 4) hK d_M_findComponents_85 (by decide) ?_
    refine r_if_icmpge (tgt := 156) hK d_M_findComponents_86 (by decide) h (fun h => ?_) (fun h => ?_)
    · refine r_aload_n hK d_M_findComponents_156 rfl 0 rfl ?_
      refine r_iconst (v := 0) hK d_M_findComponents_157 (by decide) ?_
      refine r_pI hK fd_M_76 rfl w7_108 d_M_findComponents_158 h (fun s1 h => ?_)
      refine r_iconst (v := 0) hK d_M_findComponents_161 (by decide) ?_
      refine r_istore_n (ls1 := [(1, g_i 0), (0, g_r 1 r0)]) hK d_M_findComponents_162 rfl (by rw [hN]; decide) rfl ?_
      exact r_sub [1, 0] rfl (t_M_findComponents_163 hK hN hD _ _ _ _ h)
    · refine r_iconst (v := 0) hK d_M_findComponents_89 (by decide) ?_
      refine r_istore_n (ls1 := [(2, g_i 0), (0, g_r 1 r0), (1, g_i x1)]) hK d_M_findComponents_90 rfl (by rw [hN]; decide) rfl ?_
      exact r_sub [1, 2, 0] rfl (t_M_findComponents_91 hK hN hD ih _ _ _ _ _ h)
set_option maxHeartbeats 4000000 in
set_option maxRecDepth 100000 in
theorem t_M_findComponents_19 {K : g_C} {o : (Unit × g_St)} (hK : g_OK K b_M_findComponents "FixpointEngineModel" "findComponents" (Option.none : Option Jvm.ClassFile.FieldType)) (hN : g_nL K = 4) (hD : g_Kd K = 3) {k2 : Option Nat → Int32 → g_St → Option (Unit × g_St)} (hk2 : ∀ (r0 : Option Nat) (x1 : Int32) (s0 : g_St), k2 r0 x1 s0 = some o → g_W K s0 [(0, g_r 1 r0), (1, g_i x1)] [] 2 (g_jV o)) : ∀ (n : Nat) (r0 : Option Nat) (x1 : Int32) (x2 : Int32) (s0 : g_St), f_M_findComponents_19 k2 n r0 x1 x2 s0 = some o → g_W K s0 [(0, g_r 1 r0), (1, g_i x1), (2, g_i x2)] [] 19 (g_jV o) := by
  intro n
  induction n with
  | zero =>
    intro r0 x1 x2 s0 h
    cases h
  | succ n ih =>
    intro r0 x1 x2 s0 h
    unfold f_M_findComponents_19 at h
    refine r_iload_n hK d_M_findComponents_19 rfl 2 rfl ?_
    refine r_aload_n hK d_M_findComponents_20 rfl 0 rfl ?_
    refine r_gR hK fd_M_32 w7_64 d_M_findComponents_21 h (fun p1 h => ?_)
    refine r_iload_n hK d_M_findComponents_24 rfl 1 rfl ?_
    refine r_iaload hK ar_20 rfl d_M_findComponents_25 h (fun i2 h => ?_)
    refine r_if_icmpge (tgt := 57) hK d_M_findComponents_26 (by decide) h (fun h => ?_) (fun h => ?_)
    · refine r_aload_n hK d_M_findComponents_57 rfl 0 rfl ?_
      refine r_gR hK fd_M_74 w7_106 d_M_findComponents_58 h (fun p3 h => ?_)
      refine r_iload_n hK d_M_findComponents_61 rfl 1 rfl ?_
      refine r_aload_n hK d_M_findComponents_62 rfl 0 rfl ?_
      refine r_gR hK fd_M_73 w7_105 d_M_findComponents_63 h (fun p4 h => ?_)
      refine r_iload_n hK d_M_findComponents_66 rfl 1 rfl ?_
      refine r_iaload hK ar_20 rfl d_M_findComponents_67 h (fun i5 h => ?_)
      refine r_iastore hK ar_20 rfl d_M_findComponents_68 h (fun s6 h => ?_)
      refine r_aload_n hK d_M_findComponents_69 rfl 0 rfl ?_
      refine r_gR hK fd_M_75 w7_107 d_M_findComponents_70 h (fun p7 h => ?_)
      refine r_iload_n hK d_M_findComponents_73 rfl 1 rfl ?_
      refine r_iconst (v := (-1)) hK d_M_findComponents_74 (by decide) ?_
      refine r_iastore hK ar_20 rfl d_M_findComponents_75 h (fun s8 h => ?_)
      refine r_iinc (ls1 := [(1, g_i (x1 + 1)), (0, g_r 1 r0), (2, g_i x2)]) hK d_M_findComponents_76 1 rfl rfl (by rw [hN]; decide) rfl ?_
      refine r_goto (tgt := 2) hK d_M_findComponents_79 (by decide) ?_
      exact r_sub [1, 0] rfl (hk2 _ _ _ h)
    · refine r_aload_n hK d_M_findComponents_29 rfl 0 rfl ?_
      refine r_gR hK fd_M_73 w7_105 d_M_findComponents_30 h (fun p9 h => ?_)
      refine r_iload_n hK d_M_findComponents_33 rfl 1 rfl ?_
      refine r_dup2_11 hK d_M_findComponents_34 rfl rfl ?_
      refine r_iaload hK ar_20 rfl d_M_findComponents_35 h (fun i10 h => ?_)
      refine r_aload_n hK d_M_findComponents_36 rfl 0 rfl ?_
      refine r_aload_n hK d_M_findComponents_37 rfl 0 rfl ?_
      refine r_gR hK fd_M_31 w7_63 d_M_findComponents_38 h (fun p11 h => ?_)
      refine r_iload_n hK d_M_findComponents_41 rfl 1 rfl ?_
      refine r_iaload hK ar_20 rfl d_M_findComponents_42 h (fun i12 h => ?_)
      refine r_iload_n hK d_M_findComponents_43 rfl 2 rfl ?_
      refine r_iadd hK d_M_findComponents_44 ?_
      refine r_iconst (v := 1) hK d_M_findComponents_45 (by decide) ?_
      refine r_Vi (avL := [g_i (i12 + x2), g_i 1]) (st := [g_i i10, g_i x1, g_r 20 p9]) hK ob_M rfl w9_55 wp_43 w9_53 w9_56 w1_6 (by decide) pl_M_named (by rw [hD]; decide) (Nat.le_of_ble_eq_true rfl) rfl d_M_findComponents_46 (fun o9 h9 => c_M_named _ _ _ _ _ _ o9 h9) h (fun i13 s14 h => ?_)
      refine r_ior hK d_M_findComponents_49 ?_
      refine r_iastore hK ar_20 rfl d_M_findComponents_50 h (fun s15 h => ?_)
      refine r_iinc (ls1 := [(2, g_i (x2 + 1)), (0, g_r 1 r0), (1, g_i x1)]) hK d_M_findComponents_51 2 rfl rfl (by rw [hN]; decide) rfl ?_
      refine r_goto (tgt := 19) hK d_M_findComponents_54 (by decide) ?_
      exact r_sub [1, 2, 0] rfl (ih _ _ _ _ h)
set_option maxHeartbeats 4000000 in
set_option maxRecDepth 100000 in
theorem t_M_findComponents_2 {K : g_C} {o : (Unit × g_St)} (hK : g_OK K b_M_findComponents "FixpointEngineModel" "findComponents" (Option.none : Option Jvm.ClassFile.FieldType)) (hN : g_nL K = 4) (hD : g_Kd K = 3) : ∀ (n : Nat) (r0 : Option Nat) (x1 : Int32) (s0 : g_St), f_M_findComponents_2 n r0 x1 s0 = some o → g_W K s0 [(0, g_r 1 r0), (1, g_i x1)] [] 2 (g_jV o) := by
  intro n
  induction n with
  | zero =>
    intro r0 x1 s0 h
    cases h
  | succ n ih =>
    intro r0 x1 s0 h
    unfold f_M_findComponents_2 at h
    refine r_iload_n hK d_M_findComponents_2 rfl 1 rfl ?_
    refine r_aload_n hK d_M_findComponents_3 rfl 0 rfl ?_
    refine r_gI hK fd_M_18 w7_50 d_M_findComponents_4 h (fun i1 h => ?_)
    refine r_if_icmpge (tgt := 82) hK d_M_findComponents_7 (by decide) h (fun h => ?_) (fun h => ?_)
    · refine r_iconst (v := 0) hK d_M_findComponents_82 (by decide) ?_
      refine r_istore_n (ls1 := [(1, g_i 0), (0, g_r 1 r0)]) hK d_M_findComponents_83 rfl (by rw [hN]; decide) rfl ?_
      exact r_sub [1, 0] rfl (t_M_findComponents_84 hK hN hD _ _ _ _ h)
    · refine r_aload_n hK d_M_findComponents_10 rfl 0 rfl ?_
      refine r_gR hK fd_M_73 w7_105 d_M_findComponents_11 h (fun p2 h => ?_)
      refine r_iload_n hK d_M_findComponents_14 rfl 1 rfl ?_
      refine r_iconst (v := 0) hK d_M_findComponents_15 (by decide) ?_
      refine r_iastore hK ar_20 rfl d_M_findComponents_16 h (fun s3 h => ?_)
      refine r_iconst (v := 0) hK d_M_findComponents_17 (by decide) ?_
      refine r_istore_n (ls1 := [(2, g_i 0), (0, g_r 1 r0), (1, g_i x1)]) hK d_M_findComponents_18 rfl (by rw [hN]; decide) rfl ?_
      exact r_sub [1, 2, 0] rfl (t_M_findComponents_19 hK hN hD ih _ _ _ _ _ h)
set_option maxHeartbeats 4000000 in
set_option maxRecDepth 100000 in
theorem t_M_findComponents_0 {K : g_C} {o : (Unit × g_St)} (hK : g_OK K b_M_findComponents "FixpointEngineModel" "findComponents" (Option.none : Option Jvm.ClassFile.FieldType)) (hN : g_nL K = 4) (hD : g_Kd K = 3) : ∀ (r0 : Option Nat) (s0 : g_St), f_M_findComponents r0 s0 = some o → g_W K s0 [(0, g_r 1 r0)] [] 0 (g_jV o) := by
  intro r0 s0 h
  unfold f_M_findComponents at h
  refine r_iconst (v := 0) hK d_M_findComponents_0 (by decide) ?_
  refine r_istore_n (ls1 := [(1, g_i 0), (0, g_r 1 r0)]) hK d_M_findComponents_1 rfl (by rw [hN]; decide) rfl ?_
  exact r_sub [1, 0] rfl (t_M_findComponents_2 hK hN hD _ _ _ _ h)
theorem c_M_findComponents (l : Launch) (G : g_G) (r0 : Option Nat) (u : g_St) (o : (Unit × g_St)) (h : f_M_findComponents r0 u = some o) : g_Con l G y_M_findComponents b_M_findComponents 4 (Option.none : Option Jvm.ClassFile.FieldType) 3 [g_r 1 r0] u (g_jV o) :=
  g_Con.of rfl rfl (by decide +kernel) (Nat.le_of_ble_eq_true rfl) (fun K hK hN hD hX => t_M_findComponents_0 hK hN hD _ _ h)
def f_M_isRecursive (r0 : Option Nat) (x1 : Int32) (s0 : g_St) : Option (Int32 × g_St) :=
  g_gR s0 4737 r0 fun p1 =>
  g_aI s0 p1 x1 fun i2 =>
  if ((i2 >>> (x1 &&& 31)) &&& 1) = 1 then
    g_rZ 1 (some (1, s0))
  else
    g_rZ 0 (some (0, s0))
set_option maxHeartbeats 4000000 in
set_option maxRecDepth 100000 in
theorem t_M_isRecursive_0 {K : g_C} {o : (Int32 × g_St)} (hK : g_OK K b_M_isRecursive "FixpointEngineModel" "isRecursive" (Option.some Jvm.ClassFile.FieldType.boolean)) (hN : g_nL K = 2) (hD : g_Kd K = 1) : ∀ (r0 : Option Nat) (x1 : Int32) (s0 : g_St), f_M_isRecursive r0 x1 s0 = some o → g_W K s0 [(0, g_r 1 r0), (1, g_i x1)] [] 0 (g_jI o) := by
  intro r0 x1 s0 h
  unfold f_M_isRecursive at h
  refine r_aload_n hK d_M_isRecursive_0 rfl 0 rfl ?_
  refine r_gR hK fd_M_74 w7_106 d_M_isRecursive_1 h (fun p1 h => ?_)
  refine r_iload_n hK d_M_isRecursive_4 rfl 1 rfl ?_
  refine r_iaload hK ar_20 rfl d_M_isRecursive_5 h (fun i2 h => ?_)
  refine r_iload_n hK d_M_isRecursive_6 rfl 1 rfl ?_
  refine r_ishr hK d_M_isRecursive_7 ?_
  refine r_iconst (v := 1) hK d_M_isRecursive_8 (by decide) ?_
  refine r_iand hK d_M_isRecursive_9 ?_
  refine r_iconst (v := 1) hK d_M_isRecursive_10 (by decide) ?_
  refine r_if_icmpne (tgt := 18) hK d_M_isRecursive_11 (by decide) h (fun h => ?_) (fun h => ?_)
  · refine r_iconst (v := 0) hK d_M_isRecursive_18 (by decide) ?_
    exact r_zreturn hK d_M_isRecursive_19 h
  · refine r_iconst (v := 1) hK d_M_isRecursive_14 (by decide) ?_
    refine r_goto (tgt := 19) hK d_M_isRecursive_15 (by decide) ?_
    exact r_zreturn hK d_M_isRecursive_19 h
theorem c_M_isRecursive (l : Launch) (G : g_G) (r0 : Option Nat) (x1 : Int32) (u : g_St) (o : (Int32 × g_St)) (h : f_M_isRecursive r0 x1 u = some o) : g_Con l G y_M_isRecursive b_M_isRecursive 2 (Option.some Jvm.ClassFile.FieldType.boolean) 1 [g_r 1 r0, g_i x1] u (g_jI o) :=
  g_Con.of rfl rfl (by decide +kernel) (Nat.le_of_ble_eq_true rfl) (fun K hK hN hD hX => t_M_isRecursive_0 hK hN hD _ _ _ h)
def f_M_checkBarred_69 : Nat → Option Nat → Int32 → Int32 → Int32 → g_St → Option (Unit × g_St)
  | 0, _, _, _, _, _ => none
  | n + 1, r0, x1, x2, x3, s0 =>
    g_gR s0 2625 r0 fun p1 =>
    g_aI s0 p1 x1 fun i2 =>
    if i2 ≤ x3 then
      some ((), s0)
    else
      g_gR s0 2689 r0 fun p3 =>
      g_aI s0 p3 ((6 * x1) + x3) fun i4 =>
      g_gR s0 3905 r0 fun p5 =>
      g_aI s0 p5 i4 fun i6 =>
      if i6 = 2 then
        g_gR s0 4161 r0 fun p7 =>
        g_aI s0 p7 i4 fun i8 =>
        g_c (g_nn r0 (f_M_partNamed r0 i8 s0)) fun i9 s10 =>
        if (i9 &&& x2) = 0 then
          f_M_checkBarred_69 n r0 x1 x2 (x3 + 1) s10
        else
          g_gR s10 705 r0 fun p11 =>
          g_gR s10 3649 r0 fun p12 =>
          g_gR s10 4161 r0 fun p13 =>
          g_aI s10 p13 i4 fun i14 =>
          g_aI s10 p12 i14 fun i15 =>
          g_aI s10 p11 i15 fun i16 =>
          g_c (g_nn r0 (f_M_note r0 5 i16 s10)) fun _ s18 =>
          f_M_checkBarred_69 n r0 x1 x2 (x3 + 1) s18
      else
        f_M_checkBarred_69 n r0 x1 x2 (x3 + 1) s0
def f_M_checkBarred_2 : Nat → Option Nat → Int32 → Int32 → Int32 → g_St → Option (Unit × g_St)
  | 0, _, _, _, _, _ => none
  | n + 1, r0, x1, x2, x3, s0 =>
    g_gR s0 2753 r0 fun p1 =>
    g_aI s0 p1 x1 fun i2 =>
    if i2 = 0 then
      f_M_checkBarred_69 200000 r0 x1 x2 0 s0
    else
      g_gR s0 2561 r0 fun p3 =>
      g_aI s0 p3 x1 fun i4 =>
      if i4 ≤ x3 then
        f_M_checkBarred_69 200000 r0 x1 x2 0 s0
      else
        g_gR s0 2497 r0 fun p5 =>
        g_aI s0 p5 x1 fun i6 =>
        g_c (g_nn r0 (f_M_partNamed r0 (i6 + x3) s0)) fun i7 s8 =>
        if (i7 &&& x2) = 0 then
          f_M_checkBarred_2 n r0 x1 x2 (x3 + 1) s8
        else
          g_gR s8 705 r0 fun p9 =>
          g_gR s8 3649 r0 fun p10 =>
          g_gR s8 2497 r0 fun p11 =>
          g_aI s8 p11 x1 fun i12 =>
          g_aI s8 p10 (i12 + x3) fun i13 =>
          g_aI s8 p9 i13 fun i14 =>
          g_c (g_nn r0 (f_M_note r0 5 i14 s8)) fun _ s16 =>
          f_M_checkBarred_2 n r0 x1 x2 (x3 + 1) s16
def f_M_checkBarred (r0 : Option Nat) (x1 : Int32) (x2 : Int32) (s0 : g_St) : Option (Unit × g_St) :=
  f_M_checkBarred_2 200000 r0 x1 x2 0 s0
set_option maxHeartbeats 4000000 in
set_option maxRecDepth 100000 in
theorem t_M_checkBarred_69 {K : g_C} {o : (Unit × g_St)} (hK : g_OK K b_M_checkBarred "FixpointEngineModel" "checkBarred" (Option.none : Option Jvm.ClassFile.FieldType)) (hN : g_nL K = 5) (hD : g_Kd K = 2) : ∀ (n : Nat) (r0 : Option Nat) (x1 : Int32) (x2 : Int32) (x3 : Int32) (s0 : g_St), f_M_checkBarred_69 n r0 x1 x2 x3 s0 = some o → g_W K s0 [(0, g_r 1 r0), (1, g_i x1), (2, g_i x2), (3, g_i x3)] [] 69 (g_jV o) := by
  intro n
  induction n with
  | zero =>
    intro r0 x1 x2 x3 s0 h
    cases h
  | succ n ih =>
    intro r0 x1 x2 x3 s0 h
    unfold f_M_checkBarred_69 at h
    refine r_iload_n hK d_M_checkBarred_69 rfl 3 rfl ?_
    refine r_aload_n hK d_M_checkBarred_70 rfl 0 rfl ?_
    refine r_gR hK fd_M_41 w7_73 d_M_checkBarred_71 h (fun p1 h => ?_)
    refine r_iload_n hK d_M_checkBarred_74 rfl 1 rfl ?_
    refine r_iaload hK ar_20 rfl d_M_checkBarred_75 h (fun i2 h => ?_)
    refine r_if_icmpge (tgt := 147) hK d_M_checkBarred_76 (by decide) h (fun h => ?_) (fun h => ?_)
    · exact r_return hK d_M_checkBarred_147 h
    · refine r_aload_n hK d_M_checkBarred_79 rfl 0 rfl ?_
      refine r_gR hK fd_M_42 w7_74 d_M_checkBarred_80 h (fun p3 h => ?_)
      refine r_bipush (v := 6) hK d_M_checkBarred_83 (by decide) ?_
      refine r_iload_n hK d_M_checkBarred_85 rfl 1 rfl ?_
      refine r_imul hK d_M_checkBarred_86 ?_
      refine r_iload_n hK d_M_checkBarred_87 rfl 3 rfl ?_
      refine r_iadd hK d_M_checkBarred_88 ?_
      refine r_iaload hK ar_20 rfl d_M_checkBarred_89 h (fun i4 h => ?_)
      refine r_istore (ls1 := [(4, g_i i4), (0, g_r 1 r0), (1, g_i x1), (2, g_i x2), (3, g_i x3)]) hK d_M_checkBarred_90 (by rw [hN]; decide) rfl ?_
      refine r_aload_n hK d_M_checkBarred_92 rfl 1 rfl ?_
      refine r_gR hK fd_M_61 w7_93 d_M_checkBarred_93 h (fun p5 h => ?_)
      refine r_iload hK d_M_checkBarred_96 0 rfl ?_
      refine r_iaload hK ar_20 rfl d_M_checkBarred_98 h (fun i6 h => ?_)
      refine r_iconst (v := 2) hK d_M_checkBarred_99 (by decide) ?_
      refine r_if_icmpne (tgt := 141) hK d_M_checkBarred_100 (by decide) h (fun h => ?_) (fun h => ?_)
      · refine r_iinc (ls1 := [(3, g_i (x3 + 1)), (4, g_i i4), (0, g_r 1 r0), (1, g_i x1), (2, g_i x2)]) hK d_M_checkBarred_141 4 rfl rfl (by rw [hN]; decide) rfl ?_
        refine r_goto (tgt := 69) hK d_M_checkBarred_144 (by decide) ?_
        exact r_sub [2, 3, 4, 0] rfl (ih _ _ _ _ _ h)
      · refine r_aload_n hK d_M_checkBarred_103 rfl 1 rfl ?_
        refine r_aload_n hK d_M_checkBarred_104 rfl 1 rfl ?_
        refine r_gR hK fd_M_65 w7_97 d_M_checkBarred_105 h (fun p7 h => ?_)
        refine r_iload hK d_M_checkBarred_108 0 rfl ?_
        refine r_iaload hK ar_20 rfl d_M_checkBarred_110 h (fun i8 h => ?_)
        refine r_Vi (avL := [g_i i8]) (st := []) hK ob_M rfl w9_59 wp_44 w9_57 w9_60 w1_6 (by decide) pl_M_partNamed (by rw [hD]; decide) (Nat.le_of_ble_eq_true rfl) rfl d_M_checkBarred_111 (fun o9 h9 => c_M_partNamed _ _ _ _ _ o9 h9) h (fun i9 s10 h => ?_)
        refine r_iload_n hK d_M_checkBarred_114 rfl 3 rfl ?_
        refine r_iand hK d_M_checkBarred_115 ?_
        refine r_ifeq (tgt := 141) hK d_M_checkBarred_116 (by decide) h (fun h => ?_) (fun h => ?_)
        · refine r_iinc (ls1 := [(3, g_i (x3 + 1)), (4, g_i i4), (0, g_r 1 r0), (1, g_i x1), (2, g_i x2)]) hK d_M_checkBarred_141 4 rfl rfl (by rw [hN]; decide) rfl ?_
          refine r_goto (tgt := 69) hK d_M_checkBarred_144 (by decide) ?_
          exact r_sub [2, 3, 4, 0] rfl (ih _ _ _ _ _ h)
        · refine r_aload_n hK d_M_checkBarred_119 rfl 1 rfl ?_
          refine r_iconst (v := 5) hK d_M_checkBarred_120 (by decide) ?_
          refine r_aload_n hK d_M_checkBarred_121 rfl 1 rfl ?_
          refine r_gR hK fd_M_11 w7_43 d_M_checkBarred_122 h (fun p11 h => ?_)
          refine r_aload_n hK d_M_checkBarred_125 rfl 1 rfl ?_
          refine r_gR hK fd_M_57 w7_89 d_M_checkBarred_126 h (fun p12 h => ?_)
          refine r_aload_n hK d_M_checkBarred_129 rfl 1 rfl ?_
          refine r_gR hK fd_M_65 w7_97 d_M_checkBarred_130 h (fun p13 h => ?_)
          refine r_iload hK d_M_checkBarred_133 0 rfl ?_
          refine r_iaload hK ar_20 rfl d_M_checkBarred_135 h (fun i14 h => ?_)
          refine r_iaload hK ar_20 rfl d_M_checkBarred_136 h (fun i15 h => ?_)
          refine r_iaload hK ar_20 rfl d_M_checkBarred_137 h (fun i16 h => ?_)
          refine r_Vv (avL := [g_i 5, g_i i16]) (st := []) hK ob_M rfl w8_190 wp_17 w8_188 w8_191 w1_6 (by decide) pl_M_note (by rw [hD]; decide) (Nat.le_of_ble_eq_true rfl) rfl d_M_checkBarred_138 (fun o9 h9 => c_M_note _ _ _ _ _ _ o9 h9) h (fun s18 h => ?_)
          refine r_iinc (ls1 := [(3, g_i (x3 + 1)), (4, g_i i4), (0, g_r 1 r0), (1, g_i x1), (2, g_i x2)]) hK d_M_checkBarred_141 4 rfl rfl (by rw [hN]; decide) rfl ?_
          refine r_goto (tgt := 69) hK d_M_checkBarred_144 (by decide) ?_
          exact r_sub [2, 3, 4, 0] rfl (ih _ _ _ _ _ h)
set_option maxHeartbeats 4000000 in
set_option maxRecDepth 100000 in
theorem t_M_checkBarred_2 {K : g_C} {o : (Unit × g_St)} (hK : g_OK K b_M_checkBarred "FixpointEngineModel" "checkBarred" (Option.none : Option Jvm.ClassFile.FieldType)) (hN : g_nL K = 5) (hD : g_Kd K = 2) : ∀ (n : Nat) (r0 : Option Nat) (x1 : Int32) (x2 : Int32) (x3 : Int32) (s0 : g_St), f_M_checkBarred_2 n r0 x1 x2 x3 s0 = some o → g_W K s0 [(0, g_r 1 r0), (1, g_i x1), (2, g_i x2), (3, g_i x3)] [] 2 (g_jV o) := by
  intro n
  induction n with
  | zero =>
    intro r0 x1 x2 x3 s0 h
    cases h
  | succ n ih =>
    intro r0 x1 x2 x3 s0 h
    unfold f_M_checkBarred_2 at h
    refine r_aload_n hK d_M_checkBarred_2 rfl 0 rfl ?_
    refine r_gR hK fd_M_43 w7_75 d_M_checkBarred_3 h (fun p1 h => ?_)
    refine r_iload_n hK d_M_checkBarred_6 rfl 1 rfl ?_
    refine r_zaload hK ar_31 rfl d_M_checkBarred_7 h (fun i2 h => ?_)
    refine r_ifeq (tgt := 67) hK d_M_checkBarred_8 (by decide) h (fun h => ?_) (fun h => ?_)
    · refine r_iconst (v := 0) hK d_M_checkBarred_67 (by decide) ?_
      refine r_istore_n (ls1 := [(3, g_i 0), (0, g_r 1 r0), (1, g_i x1), (2, g_i x2)]) hK d_M_checkBarred_68 rfl (by rw [hN]; decide) rfl ?_
      exact r_sub [1, 2, 3, 0] rfl (t_M_checkBarred_69 hK hN hD _ _ _ _ _ _ h)
    · refine r_iload_n hK d_M_checkBarred_11 rfl 3 rfl ?_
      refine r_aload_n hK d_M_checkBarred_12 rfl 0 rfl ?_
      refine r_gR hK fd_M_40 w7_72 d_M_checkBarred_13 h (fun p3 h => ?_)
      refine r_iload_n hK d_M_checkBarred_16 rfl 1 rfl ?_
      refine r_iaload hK ar_20 rfl d_M_checkBarred_17 h (fun i4 h => ?_)
      refine r_if_icmpge (tgt := 67) hK d_M_checkBarred_18 (by decide) h (fun h => ?_) (fun h => ?_)
      · refine r_iconst (v := 0) hK d_M_checkBarred_67 (by decide) ?_
        refine r_istore_n (ls1 := [(3, g_i 0), (0, g_r 1 r0), (1, g_i x1), (2, g_i x2)]) hK d_M_checkBarred_68 rfl (by rw [hN]; decide) rfl ?_
        exact r_sub [1, 2, 3, 0] rfl (t_M_checkBarred_69 hK hN hD _ _ _ _ _ _ h)
      · refine r_aload_n hK d_M_checkBarred_21 rfl 0 rfl ?_
        refine r_aload_n hK d_M_checkBarred_22 rfl 0 rfl ?_
        refine r_gR hK fd_M_39 w7_71 d_M_checkBarred_23 h (fun p5 h => ?_)
        refine r_iload_n hK d_M_checkBarred_26 rfl 1 rfl ?_
        refine r_iaload hK ar_20 rfl d_M_checkBarred_27 h (fun i6 h => ?_)
        refine r_iload_n hK d_M_checkBarred_28 rfl 3 rfl ?_
        refine r_iadd hK d_M_checkBarred_29 ?_
        refine r_Vi (avL := [g_i (i6 + x3)]) (st := []) hK ob_M rfl w9_59 wp_44 w9_57 w9_60 w1_6 (by decide) pl_M_partNamed (by rw [hD]; decide) (Nat.le_of_ble_eq_true rfl) rfl d_M_checkBarred_30 (fun o9 h9 => c_M_partNamed _ _ _ _ _ o9 h9) h (fun i7 s8 h => ?_)
        refine r_iload_n hK d_M_checkBarred_33 rfl 2 rfl ?_
        refine r_iand hK d_M_checkBarred_34 ?_
        refine r_ifeq (tgt := 61) hK d_M_checkBarred_35 (by decide) h (fun h => ?_) (fun h => ?_)
        · refine r_iinc (ls1 := [(3, g_i (x3 + 1)), (0, g_r 1 r0), (1, g_i x1), (2, g_i x2)]) hK d_M_checkBarred_61 3 rfl rfl (by rw [hN]; decide) rfl ?_
          refine r_goto (tgt := 2) hK d_M_checkBarred_64 (by decide) ?_
          exact r_sub [1, 2, 3, 0] rfl (ih _ _ _ _ _ h)
        · refine r_aload_n hK d_M_checkBarred_38 rfl 0 rfl ?_
          refine r_iconst (v := 5) hK d_M_checkBarred_39 (by decide) ?_
          refine r_aload_n hK d_M_checkBarred_40 rfl 0 rfl ?_
          refine r_gR hK fd_M_11 w7_43 d_M_checkBarred_41 h (fun p9 h => ?_)
          refine r_aload_n hK d_M_checkBarred_44 rfl 0 rfl ?_
          refine r_gR hK fd_M_57 w7_89 d_M_checkBarred_45 h (fun p10 h => ?_)
          refine r_aload_n hK d_M_checkBarred_48 rfl 0 rfl ?_
          refine r_gR hK fd_M_39 w7_71 d_M_checkBarred_49 h (fun p11 h => ?_)
          refine r_iload_n hK d_M_checkBarred_52 rfl 1 rfl ?_
          refine r_iaload hK ar_20 rfl d_M_checkBarred_53 h (fun i12 h => ?_)
          refine r_iload_n hK d_M_checkBarred_54 rfl 3 rfl ?_
          refine r_iadd hK d_M_checkBarred_55 ?_
          refine r_iaload hK ar_20 rfl d_M_checkBarred_56 h (fun i13 h => ?_)
          refine r_iaload hK ar_20 rfl d_M_checkBarred_57 h (fun i14 h => ?_)
          refine r_Vv (avL := [g_i 5, g_i i14]) (st := []) hK ob_M rfl w8_190 wp_17 w8_188 w8_191 w1_6 (by decide) pl_M_note (by rw [hD]; decide) (Nat.le_of_ble_eq_true rfl) rfl d_M_checkBarred_58 (fun o9 h9 => c_M_note _ _ _ _ _ _ o9 h9) h (fun s16 h => ?_)
          refine r_iinc (ls1 := [(3, g_i (x3 + 1)), (0, g_r 1 r0), (1, g_i x1), (2, g_i x2)]) hK d_M_checkBarred_61 3 rfl rfl (by rw [hN]; decide) rfl ?_
          refine r_goto (tgt := 2) hK d_M_checkBarred_64 (by decide) ?_
          exact r_sub [1, 2, 3, 0] rfl (ih _ _ _ _ _ h)
set_option maxHeartbeats 4000000 in
set_option maxRecDepth 100000 in
theorem t_M_checkBarred_0 {K : g_C} {o : (Unit × g_St)} (hK : g_OK K b_M_checkBarred "FixpointEngineModel" "checkBarred" (Option.none : Option Jvm.ClassFile.FieldType)) (hN : g_nL K = 5) (hD : g_Kd K = 2) : ∀ (r0 : Option Nat) (x1 : Int32) (x2 : Int32) (s0 : g_St), f_M_checkBarred r0 x1 x2 s0 = some o → g_W K s0 [(0, g_r 1 r0), (1, g_i x1), (2, g_i x2)] [] 0 (g_jV o) := by
  intro r0 x1 x2 s0 h
  unfold f_M_checkBarred at h
  refine r_iconst (v := 0) hK d_M_checkBarred_0 (by decide) ?_
  refine r_istore_n (ls1 := [(3, g_i 0), (0, g_r 1 r0), (1, g_i x1), (2, g_i x2)]) hK d_M_checkBarred_1 rfl (by rw [hN]; decide) rfl ?_
  exact r_sub [1, 2, 3, 0] rfl (t_M_checkBarred_2 hK hN hD _ _ _ _ _ _ h)
theorem c_M_checkBarred (l : Launch) (G : g_G) (r0 : Option Nat) (x1 : Int32) (x2 : Int32) (u : g_St) (o : (Unit × g_St)) (h : f_M_checkBarred r0 x1 x2 u = some o) : g_Con l G y_M_checkBarred b_M_checkBarred 5 (Option.none : Option Jvm.ClassFile.FieldType) 2 [g_r 1 r0, g_i x1, g_i x2] u (g_jV o) :=
  g_Con.of rfl rfl (by decide +kernel) (Nat.le_of_ble_eq_true rfl) (fun K hK hN hD hX => t_M_checkBarred_0 hK hN hD _ _ _ _ h)
def f_M_timesNamed_54 : Nat → Option Nat → Int32 → Int32 → Int32 → Int32 → g_St → Option (Int32 × g_St)
  | 0, _, _, _, _, _, _ => none
  | n + 1, r0, x1, x2, x3, x4, s0 =>
    g_gR s0 2625 r0 fun p1 =>
    g_aI s0 p1 x1 fun i2 =>
    if i2 ≤ x4 then
      some (x3, s0)
    else
      g_gR s0 2689 r0 fun p3 =>
      g_aI s0 p3 ((6 * x1) + x4) fun i4 =>
      g_gR s0 3905 r0 fun p5 =>
      g_aI s0 p5 i4 fun i6 =>
      if i6 = 2 then
        g_gR s0 3777 r0 fun p7 =>
        g_gR s0 4161 r0 fun p8 =>
        g_aI s0 p8 i4 fun i9 =>
        g_aI s0 p7 i9 fun i10 =>
        if i10 = (10 + x2) then
          f_M_timesNamed_54 n r0 x1 x2 (x3 + 1) (x4 + 1) s0
        else
          f_M_timesNamed_54 n r0 x1 x2 (x3 + 0) (x4 + 1) s0
      else
        f_M_timesNamed_54 n r0 x1 x2 (x3 + 0) (x4 + 1) s0
def f_M_timesNamed_5 : Nat → Option Nat → Int32 → Int32 → Int32 → Int32 → g_St → Option (Int32 × g_St)
  | 0, _, _, _, _, _, _ => none
  | n + 1, r0, x1, x2, x3, x4, s0 =>
    g_gR s0 2561 r0 fun p1 =>
    g_aI s0 p1 x1 fun i2 =>
    if i2 ≤ x4 then
      f_M_timesNamed_54 200000 r0 x1 x2 x3 0 s0
    else
      g_gR s0 3777 r0 fun p3 =>
      g_gR s0 2497 r0 fun p4 =>
      g_aI s0 p4 x1 fun i5 =>
      g_aI s0 p3 (i5 + x4) fun i6 =>
      if i6 = (10 + x2) then
        f_M_timesNamed_5 n r0 x1 x2 (x3 + 1) (x4 + 1) s0
      else
        f_M_timesNamed_5 n r0 x1 x2 (x3 + 0) (x4 + 1) s0
def f_M_timesNamed (r0 : Option Nat) (x1 : Int32) (x2 : Int32) (s0 : g_St) : Option (Int32 × g_St) :=
  f_M_timesNamed_5 200000 r0 x1 x2 0 0 s0
set_option maxHeartbeats 4000000 in
set_option maxRecDepth 100000 in
theorem t_M_timesNamed_54 {K : g_C} {o : (Int32 × g_St)} (hK : g_OK K b_M_timesNamed "FixpointEngineModel" "timesNamed" (Option.some Jvm.ClassFile.FieldType.int)) (hN : g_nL K = 6) (hD : g_Kd K = 1) : ∀ (n : Nat) (r0 : Option Nat) (x1 : Int32) (x2 : Int32) (x3 : Int32) (x4 : Int32) (s0 : g_St), f_M_timesNamed_54 n r0 x1 x2 x3 x4 s0 = some o → g_W K s0 [(0, g_r 1 r0), (1, g_i x1), (2, g_i x2), (3, g_i x3), (4, g_i x4)] [] 54 (g_jI o) := by
  intro n
  induction n with
  | zero =>
    intro r0 x1 x2 x3 x4 s0 h
    cases h
  | succ n ih =>
    intro r0 x1 x2 x3 x4 s0 h
    unfold f_M_timesNamed_54 at h
    refine r_iload hK d_M_timesNamed_54 4 rfl ?_
    refine r_aload_n hK d_M_timesNamed_56 rfl 0 rfl ?_
    refine r_gR hK fd_M_41 w7_73 d_M_timesNamed_57 h (fun p1 h => ?_)
    refine r_iload_n hK d_M_timesNamed_60 rfl 1 rfl ?_
    refine r_iaload hK ar_20 rfl d_M_timesNamed_61 h (fun i2 h => ?_)
    refine r_if_icmpge (tgt := 123) hK d_M_timesNamed_62 (by decide) h (fun h => ?_) (fun h => ?_)
    · refine r_iload_n hK d_M_timesNamed_123 rfl 3 rfl ?_
      exact r_ireturn hK d_M_timesNamed_124 h
    · refine r_aload_n hK d_M_timesNamed_65 rfl 0 rfl ?_
      refine r_gR hK fd_M_42 w7_74 d_M_timesNamed_66 h (fun p3 h => ?_)
      refine r_bipush (v := 6) hK d_M_timesNamed_69 (by decide) ?_
      refine r_iload_n hK d_M_timesNamed_71 rfl 1 rfl ?_
      refine r_imul hK d_M_timesNamed_72 ?_
      refine r_iload hK d_M_timesNamed_73 4 rfl ?_
      refine r_iadd hK d_M_timesNamed_75 ?_
      refine r_iaload hK ar_20 rfl d_M_timesNamed_76 h (fun i4 h => ?_)
      refine r_istore (ls1 := [(5, g_i i4), (0, g_r 1 r0), (1, g_i x1), (2, g_i x2), (3, g_i x3), (4, g_i x4)]) hK d_M_timesNamed_77 (by rw [hN]; decide) rfl ?_
      refine r_iload_n hK d_M_timesNamed_79 rfl 4 rfl ?_
      refine r_aload_n hK d_M_timesNamed_80 rfl 1 rfl ?_
      refine r_gR hK fd_M_61 w7_93 d_M_timesNamed_81 h (fun p5 h => ?_)
      refine r_iload hK d_M_timesNamed_84 0 rfl ?_
      refine r_iaload hK ar_20 rfl d_M_timesNamed_86 h (fun i6 h => ?_)
      refine r_iconst (v := 2) hK d_M_timesNamed_87 (by decide) ?_
      refine r_if_icmpne (tgt := 114) hK d_M_timesNamed_88 (by decide) h (fun h => ?_) (fun h => ?_)
      · refine r_iconst (v := 0) hK d_M_timesNamed_114 (by decide) ?_
        refine r_iadd hK d_M_timesNamed_115 ?_
        refine r_istore_n (ls1 := [(3, g_i (x3 + 0)), (5, g_i i4), (0, g_r 1 r0), (1, g_i x1), (2, g_i x2), (4, g_i x4)]) hK d_M_timesNamed_116 rfl (by rw [hN]; decide) rfl ?_
        refine r_iinc (ls1 := [(4, g_i (x4 + 1)), (3, g_i (x3 + 0)), (5, g_i i4), (0, g_r 1 r0), (1, g_i x1), (2, g_i x2)]) hK d_M_timesNamed_117 5 rfl rfl (by rw [hN]; decide) rfl ?_
        refine r_goto (tgt := 54) hK d_M_timesNamed_120 (by decide) ?_
        exact r_sub [3, 4, 5, 1, 0] rfl (ih _ _ _ _ _ _ h)
      · refine r_aload_n hK d_M_timesNamed_91 rfl 1 rfl ?_
        refine r_gR hK fd_M_59 w7_91 d_M_timesNamed_92 h (fun p7 h => ?_)
        refine r_aload_n hK d_M_timesNamed_95 rfl 1 rfl ?_
        refine r_gR hK fd_M_65 w7_97 d_M_timesNamed_96 h (fun p8 h => ?_)
        refine r_iload hK d_M_timesNamed_99 0 rfl ?_
        refine r_iaload hK ar_20 rfl d_M_timesNamed_101 h (fun i9 h => ?_)
        refine r_iaload hK ar_20 rfl d_M_timesNamed_102 h (fun i10 h => ?_)
        refine r_bipush (v := 10) hK d_M_timesNamed_103 (by decide) ?_
        refine r_iload_n hK d_M_timesNamed_105 rfl 3 rfl ?_
        refine r_iadd hK d_M_timesNamed_106 ?_
        refine r_if_icmpne (tgt := 114) hK d_M_timesNamed_107 (by decide) h (fun h => ?_) (fun h => ?_)
        · refine r_iconst (v := 0) hK d_M_timesNamed_114 (by decide) ?_
          refine r_iadd hK d_M_timesNamed_115 ?_
          refine r_istore_n (ls1 := [(3, g_i (x3 + 0)), (5, g_i i4), (0, g_r 1 r0), (1, g_i x1), (2, g_i x2), (4, g_i x4)]) hK d_M_timesNamed_116 rfl (by rw [hN]; decide) rfl ?_
          refine r_iinc (ls1 := [(4, g_i (x4 + 1)), (3, g_i (x3 + 0)), (5, g_i i4), (0, g_r 1 r0), (1, g_i x1), (2, g_i x2)]) hK d_M_timesNamed_117 5 rfl rfl (by rw [hN]; decide) rfl ?_
          refine r_goto (tgt := 54) hK d_M_timesNamed_120 (by decide) ?_
          exact r_sub [3, 4, 5, 1, 0] rfl (ih _ _ _ _ _ _ h)
        · refine r_iconst (v := 1) hK d_M_timesNamed_110 (by decide) ?_
          refine r_goto (tgt := 115) hK d_M_timesNamed_111 (by decide) ?_
          refine r_iadd hK d_M_timesNamed_115 ?_
          refine r_istore_n (ls1 := [(3, g_i (x3 + 1)), (5, g_i i4), (0, g_r 1 r0), (1, g_i x1), (2, g_i x2), (4, g_i x4)]) hK d_M_timesNamed_116 rfl (by rw [hN]; decide) rfl ?_
          refine r_iinc (ls1 := [(4, g_i (x4 + 1)), (3, g_i (x3 + 1)), (5, g_i i4), (0, g_r 1 r0), (1, g_i x1), (2, g_i x2)]) hK d_M_timesNamed_117 5 rfl rfl (by rw [hN]; decide) rfl ?_
          refine r_goto (tgt := 54) hK d_M_timesNamed_120 (by decide) ?_
          exact r_sub [3, 4, 5, 1, 0] rfl (ih _ _ _ _ _ _ h)
set_option maxHeartbeats 4000000 in
set_option maxRecDepth 100000 in
theorem t_M_timesNamed_5 {K : g_C} {o : (Int32 × g_St)} (hK : g_OK K b_M_timesNamed "FixpointEngineModel" "timesNamed" (Option.some Jvm.ClassFile.FieldType.int)) (hN : g_nL K = 6) (hD : g_Kd K = 1) : ∀ (n : Nat) (r0 : Option Nat) (x1 : Int32) (x2 : Int32) (x3 : Int32) (x4 : Int32) (s0 : g_St), f_M_timesNamed_5 n r0 x1 x2 x3 x4 s0 = some o → g_W K s0 [(0, g_r 1 r0), (1, g_i x1), (2, g_i x2), (3, g_i x3), (4, g_i x4)] [] 5 (g_jI o) := by
  intro n
  induction n with
  | zero =>
    intro r0 x1 x2 x3 x4 s0 h
    cases h
  | succ n ih =>
    intro r0 x1 x2 x3 x4 s0 h
    unfold f_M_timesNamed_5 at h
    refine r_iload hK d_M_timesNamed_5 4 rfl ?_
    refine r_aload_n hK d_M_timesNamed_7 rfl 0 rfl ?_
    refine r_gR hK fd_M_40 w7_72 d_M_timesNamed_8 h (fun p1 h => ?_)
    refine r_iload_n hK d_M_timesNamed_11 rfl 1 rfl ?_
    refine r_iaload hK ar_20 rfl d_M_timesNamed_12 h (fun i2 h => ?_)
    refine r_if_icmpge (tgt := 51) hK d_M_timesNamed_13 (by decide) h (fun h => ?_) (fun h => ?_)
    · refine r_iconst (v := 0) hK d_M_timesNamed_51 (by decide) ?_
      refine r_istore (ls1 := [(4, g_i 0), (0, g_r 1 r0), (1, g_i x1), (2, g_i x2), (3, g_i x3)]) hK d_M_timesNamed_52 (by rw [hN]; decide) rfl ?_
      exact r_sub [1, 2, 3, 4, 0] rfl (t_M_timesNamed_54 hK hN hD _ _ _ _ _ _ _ h)
    · refine r_iload_n hK d_M_timesNamed_16 rfl 3 rfl ?_
      refine r_aload_n hK d_M_timesNamed_17 rfl 0 rfl ?_
      refine r_gR hK fd_M_59 w7_91 d_M_timesNamed_18 h (fun p3 h => ?_)
      refine r_aload_n hK d_M_timesNamed_21 rfl 0 rfl ?_
      refine r_gR hK fd_M_39 w7_71 d_M_timesNamed_22 h (fun p4 h => ?_)
      refine r_iload_n hK d_M_timesNamed_25 rfl 1 rfl ?_
      refine r_iaload hK ar_20 rfl d_M_timesNamed_26 h (fun i5 h => ?_)
      refine r_iload hK d_M_timesNamed_27 4 rfl ?_
      refine r_iadd hK d_M_timesNamed_29 ?_
      refine r_iaload hK ar_20 rfl d_M_timesNamed_30 h (fun i6 h => ?_)
      refine r_bipush (v := 10) hK d_M_timesNamed_31 (by decide) ?_
      refine r_iload_n hK d_M_timesNamed_33 rfl 2 rfl ?_
      refine r_iadd hK d_M_timesNamed_34 ?_
      refine r_if_icmpne (tgt := 42) hK d_M_timesNamed_35 (by decide) h (fun h => ?_) (fun h => ?_)
      · refine r_iconst (v := 0) hK d_M_timesNamed_42 (by decide) ?_
        refine r_iadd hK d_M_timesNamed_43 ?_
        refine r_istore_n (ls1 := [(3, g_i (x3 + 0)), (0, g_r 1 r0), (1, g_i x1), (2, g_i x2), (4, g_i x4)]) hK d_M_timesNamed_44 rfl (by rw [hN]; decide) rfl ?_
        refine r_iinc (ls1 := [(4, g_i (x4 + 1)), (3, g_i (x3 + 0)), (0, g_r 1 r0), (1, g_i x1), (2, g_i x2)]) hK d_M_timesNamed_45 4 rfl rfl (by rw [hN]; decide) rfl ?_
        refine r_goto (tgt := 5) hK d_M_timesNamed_48 (by decide) ?_
        exact r_sub [2, 3, 4, 1, 0] rfl (ih _ _ _ _ _ _ h)
      · refine r_iconst (v := 1) hK d_M_timesNamed_38 (by decide) ?_
        refine r_goto (tgt := 43) hK d_M_timesNamed_39 (by decide) ?_
        refine r_iadd hK d_M_timesNamed_43 ?_
        refine r_istore_n (ls1 := [(3, g_i (x3 + 1)), (0, g_r 1 r0), (1, g_i x1), (2, g_i x2), (4, g_i x4)]) hK d_M_timesNamed_44 rfl (by rw [hN]; decide) rfl ?_
        refine r_iinc (ls1 := [(4, g_i (x4 + 1)), (3, g_i (x3 + 1)), (0, g_r 1 r0), (1, g_i x1), (2, g_i x2)]) hK d_M_timesNamed_45 4 rfl rfl (by rw [hN]; decide) rfl ?_
        refine r_goto (tgt := 5) hK d_M_timesNamed_48 (by decide) ?_
        exact r_sub [2, 3, 4, 1, 0] rfl (ih _ _ _ _ _ _ h)
set_option maxHeartbeats 4000000 in
set_option maxRecDepth 100000 in
theorem t_M_timesNamed_0 {K : g_C} {o : (Int32 × g_St)} (hK : g_OK K b_M_timesNamed "FixpointEngineModel" "timesNamed" (Option.some Jvm.ClassFile.FieldType.int)) (hN : g_nL K = 6) (hD : g_Kd K = 1) : ∀ (r0 : Option Nat) (x1 : Int32) (x2 : Int32) (s0 : g_St), f_M_timesNamed r0 x1 x2 s0 = some o → g_W K s0 [(0, g_r 1 r0), (1, g_i x1), (2, g_i x2)] [] 0 (g_jI o) := by
  intro r0 x1 x2 s0 h
  unfold f_M_timesNamed at h
  refine r_iconst (v := 0) hK d_M_timesNamed_0 (by decide) ?_
  refine r_istore_n (ls1 := [(3, g_i 0), (0, g_r 1 r0), (1, g_i x1), (2, g_i x2)]) hK d_M_timesNamed_1 rfl (by rw [hN]; decide) rfl ?_
  refine r_iconst (v := 0) hK d_M_timesNamed_2 (by decide) ?_
  refine r_istore (ls1 := [(4, g_i 0), (3, g_i 0), (0, g_r 1 r0), (1, g_i x1), (2, g_i x2)]) hK d_M_timesNamed_3 (by rw [hN]; decide) rfl ?_
  exact r_sub [2, 3, 4, 1, 0] rfl (t_M_timesNamed_5 hK hN hD _ _ _ _ _ _ _ h)
theorem c_M_timesNamed (l : Launch) (G : g_G) (r0 : Option Nat) (x1 : Int32) (x2 : Int32) (u : g_St) (o : (Int32 × g_St)) (h : f_M_timesNamed r0 x1 x2 u = some o) : g_Con l G y_M_timesNamed b_M_timesNamed 6 (Option.some Jvm.ClassFile.FieldType.int) 1 [g_r 1 r0, g_i x1, g_i x2] u (g_jI o) :=
  g_Con.of rfl rfl (by decide +kernel) (Nat.le_of_ble_eq_true rfl) (fun K hK hN hD hX => t_M_timesNamed_0 hK hN hD _ _ _ _ h)
