def f_M_cell_37 (r0 : Option Nat) (x1 : Int32) (x2 : Int32) (r0s : Option Nat) (x1s : Int32) (s0 : g_St) : Option (Int64 × g_St) :=
  g_pI s0 1 r0s x1s fun s1 =>
  g_gI s1 1 r0 fun i2 =>
  if i2 ≤ 0 then
    g_gR s1 5505 r0 fun p3 =>
    g_gR s1 5697 r0 fun p4 =>
    g_aI s1 p4 x1 fun i5 =>
    g_aL s1 p3 ((4 * i5) + x2) fun j6 =>
    some (j6, s1)
  else
    some (0, s1)
def f_M_cell (r0 : Option Nat) (x1 : Int32) (x2 : Int32) (s0 : g_St) : Option (Int64 × g_St) :=
  g_gI s0 1089 r0 fun i1 =>
  if i1 = 0 then
    f_M_cell_37 r0 x1 x2 r0 1 s0
  else
    if x1 < 0 then
      f_M_cell_37 r0 x1 x2 r0 1 s0
    else
      g_gI s0 5377 r0 fun i2 =>
      if i2 ≤ x1 then
        f_M_cell_37 r0 x1 x2 r0 1 s0
      else
        if x2 < 0 then
          f_M_cell_37 r0 x1 x2 r0 1 s0
        else
          g_gI s0 5633 r0 fun i3 =>
          if x2 < i3 then
            f_M_cell_37 r0 x1 x2 r0 0 s0
          else
            f_M_cell_37 r0 x1 x2 r0 1 s0
set_option maxHeartbeats 4000000 in
set_option maxRecDepth 100000 in
theorem t_M_cell_37 {K : g_C} {o : (Int64 × g_St)} (hK : g_OK K b_M_cell "FixpointEngineModel" "cell" (Option.some Jvm.ClassFile.FieldType.long)) (hN : g_nL K = 3) (hD : g_Kd K = 1) : ∀ (r0 : Option Nat) (x1 : Int32) (x2 : Int32) (r0s : Option Nat) (x1s : Int32) (s0 : g_St), f_M_cell_37 r0 x1 x2 r0s x1s s0 = some o → g_W K s0 [(0, g_r 1 r0), (1, g_i x1), (2, g_i x2)] [g_i x1s, g_r 1 r0s] 37 (g_jL o) := by
  intro r0 x1 x2 r0s x1s s0 h
  unfold f_M_cell_37 at h
  refine r_pI hK fd_M_0 rfl w7_32 d_M_cell_37 h (fun s1 h => ?_)
  refine r_aload_n hK d_M_cell_40 rfl 0 rfl ?_
  refine r_gI hK fd_M_0 w7_32 d_M_cell_41 h (fun i2 h => ?_)
  refine r_ifle (tgt := 51) hK d_M_cell_44 (by decide) h (fun h => ?_) (fun h => ?_)
  · refine r_aload_n hK d_M_cell_51 rfl 0 rfl ?_
    refine r_gR hK fd_M_86 w7_118 d_M_cell_52 h (fun p3 h => ?_)
    refine r_iconst (v := 4) hK d_M_cell_55 (by decide) ?_
    refine r_aload_n hK d_M_cell_56 rfl 0 rfl ?_
    refine r_gR hK fd_M_89 w7_121 d_M_cell_57 h (fun p4 h => ?_)
    refine r_iload_n hK d_M_cell_60 rfl 1 rfl ?_
    refine r_iaload hK ar_20 rfl d_M_cell_61 h (fun i5 h => ?_)
    refine r_imul hK d_M_cell_62 ?_
    refine r_iload_n hK d_M_cell_63 rfl 2 rfl ?_
    refine r_iadd hK d_M_cell_64 ?_
    refine r_laload hK ar_21 rfl d_M_cell_65 h (fun j6 h => ?_)
    exact r_lreturn hK d_M_cell_66 h
  · refine r_lconst (v := 0) hK d_M_cell_47 (by decide) ?_
    refine r_goto (tgt := 66) hK d_M_cell_48 (by decide) ?_
    exact r_lreturn hK d_M_cell_66 h
set_option maxHeartbeats 4000000 in
set_option maxRecDepth 100000 in
theorem t_M_cell_0 {K : g_C} {o : (Int64 × g_St)} (hK : g_OK K b_M_cell "FixpointEngineModel" "cell" (Option.some Jvm.ClassFile.FieldType.long)) (hN : g_nL K = 3) (hD : g_Kd K = 1) : ∀ (r0 : Option Nat) (x1 : Int32) (x2 : Int32) (s0 : g_St), f_M_cell r0 x1 x2 s0 = some o → g_W K s0 [(0, g_r 1 r0), (1, g_i x1), (2, g_i x2)] [] 0 (g_jL o) := by
  intro r0 x1 x2 s0 h
  unfold f_M_cell at h
  refine r_aload_n hK d_M_cell_0 rfl 0 rfl ?_
  refine r_aload_n hK d_M_cell_1 rfl 0 rfl ?_
  refine r_gI hK fd_M_17 w7_49 d_M_cell_2 h (fun i1 h => ?_)
  refine r_ifeq (tgt := 32) hK d_M_cell_5 (by decide) h (fun h => ?_) (fun h => ?_)
  · refine r_iconst (v := 1) hK d_M_cell_32 (by decide) ?_
    refine r_goto (tgt := 37) hK d_M_cell_33 (by decide) ?_
    exact r_sub [0, 1, 2] rfl (t_M_cell_37 hK hN hD _ _ _ _ _ _ h)
  · refine r_iload_n hK d_M_cell_8 rfl 1 rfl ?_
    refine r_iflt (tgt := 32) hK d_M_cell_9 (by decide) h (fun h => ?_) (fun h => ?_)
    · refine r_iconst (v := 1) hK d_M_cell_32 (by decide) ?_
      refine r_goto (tgt := 37) hK d_M_cell_33 (by decide) ?_
      exact r_sub [0, 1, 2] rfl (t_M_cell_37 hK hN hD _ _ _ _ _ _ h)
    · refine r_iload_n hK d_M_cell_12 rfl 1 rfl ?_
      refine r_aload_n hK d_M_cell_13 rfl 0 rfl ?_
      refine r_gI hK fd_M_84 w7_116 d_M_cell_14 h (fun i2 h => ?_)
      refine r_if_icmpge (tgt := 32) hK d_M_cell_17 (by decide) h (fun h => ?_) (fun h => ?_)
      · refine r_iconst (v := 1) hK d_M_cell_32 (by decide) ?_
        refine r_goto (tgt := 37) hK d_M_cell_33 (by decide) ?_
        exact r_sub [0, 1, 2] rfl (t_M_cell_37 hK hN hD _ _ _ _ _ _ h)
      · refine r_iload_n hK d_M_cell_20 rfl 2 rfl ?_
        refine r_iflt (tgt := 32) hK d_M_cell_21 (by decide) h (fun h => ?_) (fun h => ?_)
        · refine r_iconst (v := 1) hK d_M_cell_32 (by decide) ?_
          refine r_goto (tgt := 37) hK d_M_cell_33 (by decide) ?_
          exact r_sub [0, 1, 2] rfl (t_M_cell_37 hK hN hD _ _ _ _ _ _ h)
        · refine r_iload_n hK d_M_cell_24 rfl 2 rfl ?_
          refine r_aload_n hK d_M_cell_25 rfl 0 rfl ?_
          refine r_gI hK fd_M_88 w7_120 d_M_cell_26 h (fun i3 h => ?_)
          refine r_if_icmplt (tgt := 36) hK d_M_cell_29 (by decide) h (fun h => ?_) (fun h => ?_)
          · refine r_iconst (v := 0) hK d_M_cell_36 (by decide) ?_
            exact r_sub [0, 1, 2] rfl (t_M_cell_37 hK hN hD _ _ _ _ _ _ h)
          · refine r_iconst (v := 1) hK d_M_cell_32 (by decide) ?_
            refine r_goto (tgt := 37) hK d_M_cell_33 (by decide) ?_
            exact r_sub [0, 1, 2] rfl (t_M_cell_37 hK hN hD _ _ _ _ _ _ h)
theorem c_M_cell (l : Launch) (G : g_G) (r0 : Option Nat) (x1 : Int32) (x2 : Int32) (u : g_St) (o : (Int64 × g_St)) (h : f_M_cell r0 x1 x2 u = some o) : g_Con l G y_M_cell b_M_cell 3 (Option.some Jvm.ClassFile.FieldType.long) 1 [g_r 1 r0, g_i x1, g_i x2] u (g_jL o) :=
  g_Con.of rfl rfl (by decide +kernel) (Nat.le_of_ble_eq_true rfl) (fun K hK hN hD hX => t_M_cell_0 hK hN hD _ _ _ _ h)
def f_M_size_25 (r0 : Option Nat) (x1 : Int32) (r0s : Option Nat) (x1s : Int32) (s0 : g_St) : Option (Int32 × g_St) :=
  g_pI s0 1 r0s x1s fun s1 =>
  g_gI s1 1 r0 fun i2 =>
  if i2 ≤ 0 then
    g_gR s1 5953 r0 fun p3 =>
    g_aI s1 p3 x1 fun i4 =>
    some (i4, s1)
  else
    some (0, s1)
def f_M_size (r0 : Option Nat) (x1 : Int32) (s0 : g_St) : Option (Int32 × g_St) :=
  g_gI s0 1089 r0 fun i1 =>
  if i1 = 0 then
    f_M_size_25 r0 x1 r0 1 s0
  else
    if x1 < 0 then
      f_M_size_25 r0 x1 r0 1 s0
    else
      g_gI s0 6017 r0 fun i2 =>
      if x1 < i2 then
        f_M_size_25 r0 x1 r0 0 s0
      else
        f_M_size_25 r0 x1 r0 1 s0
set_option maxHeartbeats 4000000 in
set_option maxRecDepth 100000 in
theorem t_M_size_25 {K : g_C} {o : (Int32 × g_St)} (hK : g_OK K b_M_size "FixpointEngineModel" "size" (Option.some Jvm.ClassFile.FieldType.int)) (hN : g_nL K = 2) (hD : g_Kd K = 1) : ∀ (r0 : Option Nat) (x1 : Int32) (r0s : Option Nat) (x1s : Int32) (s0 : g_St), f_M_size_25 r0 x1 r0s x1s s0 = some o → g_W K s0 [(0, g_r 1 r0), (1, g_i x1)] [g_i x1s, g_r 1 r0s] 25 (g_jI o) := by
  intro r0 x1 r0s x1s s0 h
  unfold f_M_size_25 at h
  refine r_pI hK fd_M_0 rfl w7_32 d_M_size_25 h (fun s1 h => ?_)
  refine r_aload_n hK d_M_size_28 rfl 0 rfl ?_
  refine r_gI hK fd_M_0 w7_32 d_M_size_29 h (fun i2 h => ?_)
  refine r_ifle (tgt := 39) hK d_M_size_32 (by decide) h (fun h => ?_) (fun h => ?_)
  · refine r_aload_n hK d_M_size_39 rfl 0 rfl ?_
    refine r_gR hK fd_M_93 w7_125 d_M_size_40 h (fun p3 h => ?_)
    refine r_iload_n hK d_M_size_43 rfl 1 rfl ?_
    refine r_iaload hK ar_20 rfl d_M_size_44 h (fun i4 h => ?_)
    exact r_ireturn hK d_M_size_45 h
  · refine r_iconst (v := 0) hK d_M_size_35 (by decide) ?_
    refine r_goto (tgt := 45) hK d_M_size_36 (by decide) ?_
    exact r_ireturn hK d_M_size_45 h
set_option maxHeartbeats 4000000 in
set_option maxRecDepth 100000 in
theorem t_M_size_0 {K : g_C} {o : (Int32 × g_St)} (hK : g_OK K b_M_size "FixpointEngineModel" "size" (Option.some Jvm.ClassFile.FieldType.int)) (hN : g_nL K = 2) (hD : g_Kd K = 1) : ∀ (r0 : Option Nat) (x1 : Int32) (s0 : g_St), f_M_size r0 x1 s0 = some o → g_W K s0 [(0, g_r 1 r0), (1, g_i x1)] [] 0 (g_jI o) := by
  intro r0 x1 s0 h
  unfold f_M_size at h
  refine r_aload_n hK d_M_size_0 rfl 0 rfl ?_
  refine r_aload_n hK d_M_size_1 rfl 0 rfl ?_
  refine r_gI hK fd_M_17 w7_49 d_M_size_2 h (fun i1 h => ?_)
  refine r_ifeq (tgt := 20) hK d_M_size_5 (by decide) h (fun h => ?_) (fun h => ?_)
  · refine r_iconst (v := 1) hK d_M_size_20 (by decide) ?_
    refine r_goto (tgt := 25) hK d_M_size_21 (by decide) ?_
    exact r_sub [0, 1] rfl (t_M_size_25 hK hN hD _ _ _ _ _ h)
  · refine r_iload_n hK d_M_size_8 rfl 1 rfl ?_
    refine r_iflt (tgt := 20) hK d_M_size_9 (by decide) h (fun h => ?_) (fun h => ?_)
    · refine r_iconst (v := 1) hK d_M_size_20 (by decide) ?_
      refine r_goto (tgt := 25) hK d_M_size_21 (by decide) ?_
      exact r_sub [0, 1] rfl (t_M_size_25 hK hN hD _ _ _ _ _ h)
    · refine r_iload_n hK d_M_size_12 rfl 1 rfl ?_
      refine r_aload_n hK d_M_size_13 rfl 0 rfl ?_
      refine r_gI hK fd_M_94 w7_126 d_M_size_14 h (fun i2 h => ?_)
      refine r_if_icmplt (tgt := 24) hK d_M_size_17 (by decide) h (fun h => ?_) (fun h => ?_)
      · refine r_iconst (v := 0) hK d_M_size_24 (by decide) ?_
        exact r_sub [0, 1] rfl (t_M_size_25 hK hN hD _ _ _ _ _ h)
      · refine r_iconst (v := 1) hK d_M_size_20 (by decide) ?_
        refine r_goto (tgt := 25) hK d_M_size_21 (by decide) ?_
        exact r_sub [0, 1] rfl (t_M_size_25 hK hN hD _ _ _ _ _ h)
theorem c_M_size (l : Launch) (G : g_G) (r0 : Option Nat) (x1 : Int32) (u : g_St) (o : (Int32 × g_St)) (h : f_M_size r0 x1 u = some o) : g_Con l G y_M_size b_M_size 2 (Option.some Jvm.ClassFile.FieldType.int) 1 [g_r 1 r0, g_i x1] u (g_jI o) :=
  g_Con.of rfl rfl (by decide +kernel) (Nat.le_of_ble_eq_true rfl) (fun K hK hN hD hX => t_M_size_0 hK hN hD _ _ _ h)
def f_M_rounds_39 (r0 : Option Nat) (x1 : Int32) (x2 : Int32) (r0s : Option Nat) (x1s : Int32) (s0 : g_St) : Option (Int32 × g_St) :=
  g_pI s0 1 r0s x1s fun s1 =>
  g_gI s1 1 r0 fun i2 =>
  if i2 ≤ 0 then
    if x2 = 0 then
      g_gR s1 5761 r0 fun p5 =>
      g_aI s1 p5 x1 fun i6 =>
      some (i6, s1)
    else
      g_gR s1 5825 r0 fun p3 =>
      g_aI s1 p3 (((32 * x1) + x2) - 1) fun i4 =>
      some (i4, s1)
  else
    some (0, s1)
def f_M_rounds (r0 : Option Nat) (x1 : Int32) (x2 : Int32) (s0 : g_St) : Option (Int32 × g_St) :=
  g_gI s0 1089 r0 fun i1 =>
  if i1 = 0 then
    f_M_rounds_39 r0 x1 x2 r0 1 s0
  else
    if x1 < 0 then
      f_M_rounds_39 r0 x1 x2 r0 1 s0
    else
      g_gI s0 5889 r0 fun i2 =>
      if i2 ≤ x1 then
        f_M_rounds_39 r0 x1 x2 r0 1 s0
      else
        if x2 < 0 then
          f_M_rounds_39 r0 x1 x2 r0 1 s0
        else
          g_gR s0 5761 r0 fun p3 =>
          g_aI s0 p3 x1 fun i4 =>
          if x2 ≤ i4 then
            f_M_rounds_39 r0 x1 x2 r0 0 s0
          else
            f_M_rounds_39 r0 x1 x2 r0 1 s0
set_option maxHeartbeats 4000000 in
set_option maxRecDepth 100000 in
theorem t_M_rounds_39 {K : g_C} {o : (Int32 × g_St)} (hK : g_OK K b_M_rounds "FixpointEngineModel" "rounds" (Option.some Jvm.ClassFile.FieldType.int)) (hN : g_nL K = 3) (hD : g_Kd K = 1) : ∀ (r0 : Option Nat) (x1 : Int32) (x2 : Int32) (r0s : Option Nat) (x1s : Int32) (s0 : g_St), f_M_rounds_39 r0 x1 x2 r0s x1s s0 = some o → g_W K s0 [(0, g_r 1 r0), (1, g_i x1), (2, g_i x2)] [g_i x1s, g_r 1 r0s] 39 (g_jI o) := by
  intro r0 x1 x2 r0s x1s s0 h
  unfold f_M_rounds_39 at h
  refine r_pI hK fd_M_0 rfl w7_32 d_M_rounds_39 h (fun s1 h => ?_)
  refine r_aload_n hK d_M_rounds_42 rfl 0 rfl ?_
  refine r_gI hK fd_M_0 w7_32 d_M_rounds_43 h (fun i2 h => ?_)
  refine r_ifle (tgt := 53) hK d_M_rounds_46 (by decide) h (fun h => ?_) (fun h => ?_)
  · refine r_iload_n hK d_M_rounds_53 rfl 2 rfl ?_
    refine r_ifne (tgt := 66) hK d_M_rounds_54 (by decide) h (fun h => ?_) (fun h => ?_)
    · refine r_aload_n hK d_M_rounds_66 rfl 0 rfl ?_
      refine r_gR hK fd_M_91 w7_123 d_M_rounds_67 h (fun p3 h => ?_)
      refine r_bipush (v := 32) hK d_M_rounds_70 (by decide) ?_
      refine r_iload_n hK d_M_rounds_72 rfl 1 rfl ?_
      refine r_imul hK d_M_rounds_73 ?_
      refine r_iload_n hK d_M_rounds_74 rfl 2 rfl ?_
      refine r_iadd hK d_M_rounds_75 ?_
      refine r_iconst (v := 1) hK d_M_rounds_76 (by decide) ?_
      refine r_isub hK d_M_rounds_77 ?_
      refine r_iaload hK ar_20 rfl d_M_rounds_78 h (fun i4 h => ?_)
      exact r_ireturn hK d_M_rounds_79 h
    · refine r_aload_n hK d_M_rounds_57 rfl 0 rfl ?_
      refine r_gR hK fd_M_90 w7_122 d_M_rounds_58 h (fun p5 h => ?_)
      refine r_iload_n hK d_M_rounds_61 rfl 1 rfl ?_
      refine r_iaload hK ar_20 rfl d_M_rounds_62 h (fun i6 h => ?_)
      refine r_goto (tgt := 79) hK d_M_rounds_63 (by decide) ?_
      exact r_ireturn hK d_M_rounds_79 h
  · refine r_iconst (v := 0) hK d_M_rounds_49 (by decide) ?_
    refine r_goto (tgt := 79) hK d_M_rounds_50 (by decide) ?_
    exact r_ireturn hK d_M_rounds_79 h
set_option maxHeartbeats 4000000 in
set_option maxRecDepth 100000 in
theorem t_M_rounds_0 {K : g_C} {o : (Int32 × g_St)} (hK : g_OK K b_M_rounds "FixpointEngineModel" "rounds" (Option.some Jvm.ClassFile.FieldType.int)) (hN : g_nL K = 3) (hD : g_Kd K = 1) : ∀ (r0 : Option Nat) (x1 : Int32) (x2 : Int32) (s0 : g_St), f_M_rounds r0 x1 x2 s0 = some o → g_W K s0 [(0, g_r 1 r0), (1, g_i x1), (2, g_i x2)] [] 0 (g_jI o) := by
  intro r0 x1 x2 s0 h
  unfold f_M_rounds at h
  refine r_aload_n hK d_M_rounds_0 rfl 0 rfl ?_
  refine r_aload_n hK d_M_rounds_1 rfl 0 rfl ?_
  refine r_gI hK fd_M_17 w7_49 d_M_rounds_2 h (fun i1 h => ?_)
  refine r_ifeq (tgt := 34) hK d_M_rounds_5 (by decide) h (fun h => ?_) (fun h => ?_)
  · refine r_iconst (v := 1) hK d_M_rounds_34 (by decide) ?_
    refine r_goto (tgt := 39) hK d_M_rounds_35 (by decide) ?_
    exact r_sub [0, 1, 2] rfl (t_M_rounds_39 hK hN hD _ _ _ _ _ _ h)
  · refine r_iload_n hK d_M_rounds_8 rfl 1 rfl ?_
    refine r_iflt (tgt := 34) hK d_M_rounds_9 (by decide) h (fun h => ?_) (fun h => ?_)
    · refine r_iconst (v := 1) hK d_M_rounds_34 (by decide) ?_
      refine r_goto (tgt := 39) hK d_M_rounds_35 (by decide) ?_
      exact r_sub [0, 1, 2] rfl (t_M_rounds_39 hK hN hD _ _ _ _ _ _ h)
    · refine r_iload_n hK d_M_rounds_12 rfl 1 rfl ?_
      refine r_aload_n hK d_M_rounds_13 rfl 0 rfl ?_
      refine r_gI hK fd_M_92 w7_124 d_M_rounds_14 h (fun i2 h => ?_)
      refine r_if_icmpge (tgt := 34) hK d_M_rounds_17 (by decide) h (fun h => ?_) (fun h => ?_)
      · refine r_iconst (v := 1) hK d_M_rounds_34 (by decide) ?_
        refine r_goto (tgt := 39) hK d_M_rounds_35 (by decide) ?_
        exact r_sub [0, 1, 2] rfl (t_M_rounds_39 hK hN hD _ _ _ _ _ _ h)
      · refine r_iload_n hK d_M_rounds_20 rfl 2 rfl ?_
        refine r_iflt (tgt := 34) hK d_M_rounds_21 (by decide) h (fun h => ?_) (fun h => ?_)
        · refine r_iconst (v := 1) hK d_M_rounds_34 (by decide) ?_
          refine r_goto (tgt := 39) hK d_M_rounds_35 (by decide) ?_
          exact r_sub [0, 1, 2] rfl (t_M_rounds_39 hK hN hD _ _ _ _ _ _ h)
        · refine r_iload_n hK d_M_rounds_24 rfl 2 rfl ?_
          refine r_aload_n hK d_M_rounds_25 rfl 0 rfl ?_
          refine r_gR hK fd_M_90 w7_122 d_M_rounds_26 h (fun p3 h => ?_)
          refine r_iload_n hK d_M_rounds_29 rfl 1 rfl ?_
          refine r_iaload hK ar_20 rfl d_M_rounds_30 h (fun i4 h => ?_)
          refine r_if_icmple (tgt := 38) hK d_M_rounds_31 (by decide) h (fun h => ?_) (fun h => ?_)
          · refine r_iconst (v := 0) hK d_M_rounds_38 (by decide) ?_
            exact r_sub [0, 1, 2] rfl (t_M_rounds_39 hK hN hD _ _ _ _ _ _ h)
          · refine r_iconst (v := 1) hK d_M_rounds_34 (by decide) ?_
            refine r_goto (tgt := 39) hK d_M_rounds_35 (by decide) ?_
            exact r_sub [0, 1, 2] rfl (t_M_rounds_39 hK hN hD _ _ _ _ _ _ h)
theorem c_M_rounds (l : Launch) (G : g_G) (r0 : Option Nat) (x1 : Int32) (x2 : Int32) (u : g_St) (o : (Int32 × g_St)) (h : f_M_rounds r0 x1 x2 u = some o) : g_Con l G y_M_rounds b_M_rounds 3 (Option.some Jvm.ClassFile.FieldType.int) 1 [g_r 1 r0, g_i x1, g_i x2] u (g_jI o) :=
  g_Con.of rfl rfl (by decide +kernel) (Nat.le_of_ble_eq_true rfl) (fun K hK hN hD hX => t_M_rounds_0 hK hN hD _ _ _ _ h)
