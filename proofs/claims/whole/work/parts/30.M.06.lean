def f_M_readOrder_27 : Nat → Option Nat → Int32 → g_St → Option (Unit × g_St)
  | 0, _, _, _ => none
  | n + 1, r0, x1, s0 =>
    if x1 = 0 then
      some ((), s0)
    else
      g_c (g_nn r0 (f_M_bad r0 s0)) fun i1 s2 =>
      if i1 = 0 then
        g_gR s2 4481 r0 fun p3 =>
        g_gI s2 4353 r0 fun i4 =>
        g_gI s2 577 r0 fun i5 =>
        g_sI s2 p3 i4 i5 fun s6 =>
        g_c (g_nn r0 (f_M_need r0 30 s6)) fun i7 s8 =>
        g_c (g_nn r0 (f_M_needSign r0 46 s8)) fun _ s10 =>
        g_c (g_nn r0 (f_M_need r0 30 s10)) fun i11 s12 =>
        g_gI s12 4353 r0 fun i13 =>
        g_pI s12 4353 r0 (i13 + 1) fun s14 =>
        g_gI s14 4353 r0 fun i15 =>
        if 2 ≤ i15 then
          f_M_readOrder_27 n r0 0 s14
        else
          g_c (g_nn r0 (f_M_skipSign r0 44 s14)) fun i16 s17 =>
          if i16 = 0 then
            f_M_readOrder_27 n r0 0 s17
          else
            f_M_readOrder_27 n r0 1 s17
      else
        some ((), s2)
def f_M_readOrder (r0 : Option Nat) (s0 : g_St) : Option (Unit × g_St) :=
  g_gI s0 577 r0 fun i1 =>
  g_pI s0 4417 r0 i1 fun s2 =>
  g_gI s2 577 r0 fun i3 =>
  g_pI s2 577 r0 (i3 + 1) fun s4 =>
  g_c (g_nn r0 (f_M_need r0 18 s4)) fun i5 s6 =>
  f_M_readOrder_27 200000 r0 1 s6
set_option maxHeartbeats 4000000 in
set_option maxRecDepth 100000 in
theorem t_M_readOrder_27 {K : g_C} {o : (Unit × g_St)} (hK : g_OK K b_M_readOrder "FixpointEngineModel" "readOrder" (Option.none : Option Jvm.ClassFile.FieldType)) (hN : g_nL K = 2) (hD : g_Kd K = 5) : ∀ (n : Nat) (r0 : Option Nat) (x1 : Int32) (s0 : g_St), f_M_readOrder_27 n r0 x1 s0 = some o → g_W K s0 [(0, g_r 1 r0), (1, g_i x1)] [] 27 (g_jV o) := by
  intro n
  induction n with
  | zero =>
    intro r0 x1 s0 h
    cases h
  | succ n ih =>
    intro r0 x1 s0 h
    unfold f_M_readOrder_27 at h
    refine r_iload_n hK d_M_readOrder_27 rfl 1 rfl ?_
    refine r_ifeq (tgt := 107) hK d_M_readOrder_28 (by decide) h (fun h => ?_) (fun h => ?_)
    · exact r_return hK d_M_readOrder_107 h
    · refine r_aload_n hK d_M_readOrder_31 rfl 0 rfl ?_
      refine r_Vi (avL := []) (st := []) hK ob_M rfl w8_178 wp_14 w8_176 w8_179 w1_6 (by decide) pl_M_bad (by rw [hD]; decide) (Nat.le_of_ble_eq_true rfl) rfl d_M_readOrder_32 (fun o9 h9 => c_M_bad _ _ _ _ o9 h9) h (fun i1 s2 h => ?_)
      refine r_ifne (tgt := 107) hK d_M_readOrder_35 (by decide) h (fun h => ?_) (fun h => ?_)
      · exact r_return hK d_M_readOrder_107 h
      · refine r_aload_n hK d_M_readOrder_38 rfl 0 rfl ?_
        refine r_gR hK fd_M_70 w7_102 d_M_readOrder_39 h (fun p3 h => ?_)
        refine r_aload_n hK d_M_readOrder_42 rfl 0 rfl ?_
        refine r_gI hK fd_M_68 w7_100 d_M_readOrder_43 h (fun i4 h => ?_)
        refine r_aload_n hK d_M_readOrder_46 rfl 0 rfl ?_
        refine r_gI hK fd_M_9 w7_41 d_M_readOrder_47 h (fun i5 h => ?_)
        refine r_iastore hK ar_20 rfl d_M_readOrder_50 h (fun s6 h => ?_)
        refine r_aload_n hK d_M_readOrder_51 rfl 0 rfl ?_
        refine r_bipush (v := 30) hK d_M_readOrder_52 (by decide) ?_
        refine r_Vi (avL := [g_i 30]) (st := []) hK ob_M rfl w8_186 wp_16 w8_184 w8_187 w1_6 (by decide) pl_M_need (by rw [hD]; decide) (Nat.le_of_ble_eq_true rfl) rfl d_M_readOrder_54 (fun o9 h9 => c_M_need _ _ _ _ _ o9 h9) h (fun i7 s8 h => ?_)
        refine r_pop hK d_M_readOrder_57 rfl ?_
        refine r_aload_n hK d_M_readOrder_58 rfl 0 rfl ?_
        refine r_bipush (v := 46) hK d_M_readOrder_59 (by decide) ?_
        refine r_Vv (avL := [g_i 46]) (st := []) hK ob_M rfl w8_194 wp_18 w8_192 w8_195 w1_6 (by decide) pl_M_needSign (by rw [hD]; decide) (Nat.le_of_ble_eq_true rfl) rfl d_M_readOrder_61 (fun o9 h9 => c_M_needSign _ _ _ _ _ o9 h9) h (fun s10 h => ?_)
        refine r_aload_n hK d_M_readOrder_64 rfl 0 rfl ?_
        refine r_bipush (v := 30) hK d_M_readOrder_65 (by decide) ?_
        refine r_Vi (avL := [g_i 30]) (st := []) hK ob_M rfl w8_186 wp_16 w8_184 w8_187 w1_6 (by decide) pl_M_need (by rw [hD]; decide) (Nat.le_of_ble_eq_true rfl) rfl d_M_readOrder_67 (fun o9 h9 => c_M_need _ _ _ _ _ o9 h9) h (fun i11 s12 h => ?_)
        refine r_pop hK d_M_readOrder_70 rfl ?_
        refine r_aload_n hK d_M_readOrder_71 rfl 0 rfl ?_
        refine r_dup hK d_M_readOrder_72 rfl ?_
        refine r_gI hK fd_M_68 w7_100 d_M_readOrder_73 h (fun i13 h => ?_)
        refine r_iconst (v := 1) hK d_M_readOrder_76 (by decide) ?_
        refine r_iadd hK d_M_readOrder_77 ?_
        refine r_pI hK fd_M_68 rfl w7_100 d_M_readOrder_78 h (fun s14 h => ?_)
        refine r_aload_n hK d_M_readOrder_81 rfl 0 rfl ?_
        refine r_gI hK fd_M_68 w7_100 d_M_readOrder_82 h (fun i15 h => ?_)
        refine r_iconst (v := 2) hK d_M_readOrder_85 (by decide) ?_
        refine r_if_icmpge (tgt := 102) hK d_M_readOrder_86 (by decide) h (fun h => ?_) (fun h => ?_)
        · refine r_iconst (v := 0) hK d_M_readOrder_102 (by decide) ?_
          refine r_istore_n (ls1 := [(1, g_i 0), (0, g_r 1 r0)]) hK d_M_readOrder_103 rfl (by rw [hN]; decide) rfl ?_
          refine r_goto (tgt := 27) hK d_M_readOrder_104 (by decide) ?_
          exact r_sub [1, 0] rfl (ih _ _ _ h)
        · refine r_aload_n hK d_M_readOrder_89 rfl 0 rfl ?_
          refine r_bipush (v := 44) hK d_M_readOrder_90 (by decide) ?_
          refine r_Vi (avL := [g_i 44]) (st := []) hK ob_M rfl w8_198 wp_19 w8_196 w8_199 w1_6 (by decide) pl_M_skipSign (by rw [hD]; decide) (Nat.le_of_ble_eq_true rfl) rfl d_M_readOrder_92 (fun o9 h9 => c_M_skipSign _ _ _ _ _ o9 h9) h (fun i16 s17 h => ?_)
          refine r_ifeq (tgt := 102) hK d_M_readOrder_95 (by decide) h (fun h => ?_) (fun h => ?_)
          · refine r_iconst (v := 0) hK d_M_readOrder_102 (by decide) ?_
            refine r_istore_n (ls1 := [(1, g_i 0), (0, g_r 1 r0)]) hK d_M_readOrder_103 rfl (by rw [hN]; decide) rfl ?_
            refine r_goto (tgt := 27) hK d_M_readOrder_104 (by decide) ?_
            exact r_sub [1, 0] rfl (ih _ _ _ h)
          · refine r_iconst (v := 1) hK d_M_readOrder_98 (by decide) ?_
            refine r_goto (tgt := 103) hK d_M_readOrder_99 (by decide) ?_
            refine r_istore_n (ls1 := [(1, g_i 1), (0, g_r 1 r0)]) hK d_M_readOrder_103 rfl (by rw [hN]; decide) rfl ?_
            refine r_goto (tgt := 27) hK d_M_readOrder_104 (by decide) ?_
            exact r_sub [1, 0] rfl (ih _ _ _ h)
set_option maxHeartbeats 4000000 in
set_option maxRecDepth 100000 in
theorem t_M_readOrder_0 {K : g_C} {o : (Unit × g_St)} (hK : g_OK K b_M_readOrder "FixpointEngineModel" "readOrder" (Option.none : Option Jvm.ClassFile.FieldType)) (hN : g_nL K = 2) (hD : g_Kd K = 5) : ∀ (r0 : Option Nat) (s0 : g_St), f_M_readOrder r0 s0 = some o → g_W K s0 [(0, g_r 1 r0)] [] 0 (g_jV o) := by
  intro r0 s0 h
  unfold f_M_readOrder at h
  refine r_aload_n hK d_M_readOrder_0 rfl 0 rfl ?_
  refine r_aload_n hK d_M_readOrder_1 rfl 0 rfl ?_
  refine r_gI hK fd_M_9 w7_41 d_M_readOrder_2 h (fun i1 h => ?_)
  refine r_pI hK fd_M_69 rfl w7_101 d_M_readOrder_5 h (fun s2 h => ?_)
  refine r_aload_n hK d_M_readOrder_8 rfl 0 rfl ?_
  refine r_dup hK d_M_readOrder_9 rfl ?_
  refine r_gI hK fd_M_9 w7_41 d_M_readOrder_10 h (fun i3 h => ?_)
  refine r_iconst (v := 1) hK d_M_readOrder_13 (by decide) ?_
  refine r_iadd hK d_M_readOrder_14 ?_
  refine r_pI hK fd_M_9 rfl w7_41 d_M_readOrder_15 h (fun s4 h => ?_)
  refine r_aload_n hK d_M_readOrder_18 rfl 0 rfl ?_
  refine r_bipush (v := 18) hK d_M_readOrder_19 (by decide) ?_
  refine r_Vi (avL := [g_i 18]) (st := []) hK ob_M rfl w8_186 wp_16 w8_184 w8_187 w1_6 (by decide) pl_M_need (by rw [hD]; decide) (Nat.le_of_ble_eq_true rfl) rfl d_M_readOrder_21 (fun o9 h9 => c_M_need _ _ _ _ _ o9 h9) h (fun i5 s6 h => ?_)
  refine r_pop hK d_M_readOrder_24 rfl ?_
  refine r_iconst (v := 1) hK d_M_readOrder_25 (by decide) ?_
  refine r_istore_n (ls1 := [(1, g_i 1), (0, g_r 1 r0)]) hK d_M_readOrder_26 rfl (by rw [hN]; decide) rfl ?_
  exact r_sub [1, 0] rfl (t_M_readOrder_27 hK hN hD _ _ _ _ h)
theorem c_M_readOrder (l : Launch) (G : g_G) (r0 : Option Nat) (u : g_St) (o : (Unit × g_St)) (h : f_M_readOrder r0 u = some o) : g_Con l G y_M_readOrder b_M_readOrder 2 (Option.none : Option Jvm.ClassFile.FieldType) 5 [g_r 1 r0] u (g_jV o) :=
  g_Con.of rfl rfl (by decide +kernel) (Nat.le_of_ble_eq_true rfl) (fun K hK hN hD hX => t_M_readOrder_0 hK hN hD _ _ h)
def f_M_readQuery_93 (r0 : Option Nat) (s0 : g_St) : Option (Unit × g_St) :=
  g_c (g_nn r0 (f_M_need r0 99 s0)) fun i1 s2 =>
  some ((), s2)
def f_M_readQuery_65 (r0 : Option Nat) (s0 : g_St) : Option (Unit × g_St) :=
  g_gR s0 1985 r0 fun p1 =>
  g_gI s0 2177 r0 fun i2 =>
  g_sI s0 p1 4 i2 fun s3 =>
  g_c (g_nn r0 (f_M_readSelection r0 4 s3)) fun _ s5 =>
  g_c (g_nn r0 (f_M_is r0 25 s5)) fun i6 s7 =>
  if i6 = 0 then
    f_M_readQuery_93 r0 s7
  else
    g_c (g_nn r0 (f_M_readOrder r0 s7)) fun _ s9 =>
    f_M_readQuery_93 r0 s9
def f_M_readQuery_24 : Nat → Option Nat → Int32 → g_St → Option (Unit × g_St)
  | 0, _, _, _ => none
  | n + 1, r0, x1, s0 =>
    if x1 = 0 then
      f_M_readQuery_65 r0 s0
    else
      g_c (g_nn r0 (f_M_bad r0 s0)) fun i1 s2 =>
      if i1 = 0 then
        g_c (g_nn r0 (f_M_readPart r0 s2)) fun _ s4 =>
        g_gI s4 1153 r0 fun i5 =>
        if 4 ≤ i5 then
          f_M_readQuery_24 n r0 0 s4
        else
          g_c (g_nn r0 (f_M_skipSign r0 44 s4)) fun i6 s7 =>
          if i6 = 0 then
            f_M_readQuery_24 n r0 0 s7
          else
            f_M_readQuery_24 n r0 1 s7
      else
        f_M_readQuery_65 r0 s2
def f_M_readQuery (r0 : Option Nat) (s0 : g_St) : Option (Unit × g_St) :=
  g_pZ s0 2113 r0 0 fun s1 =>
  g_c (g_nn r0 (f_M_skip r0 1 s1)) fun i2 s3 =>
  if i2 = 0 then
    f_M_readQuery_65 r0 s3
  else
    g_c (g_nn r0 (f_M_skip r0 2 s3)) fun i4 s5 =>
    g_pZ s5 2113 r0 i4 fun s6 =>
    f_M_readQuery_24 200000 r0 1 s6
set_option maxHeartbeats 4000000 in
set_option maxRecDepth 100000 in
theorem t_M_readQuery_93 {K : g_C} {o : (Unit × g_St)} (hK : g_OK K b_M_readQuery "FixpointEngineModel" "readQuery" (Option.none : Option Jvm.ClassFile.FieldType)) (hN : g_nL K = 2) (hD : g_Kd K = 11) : ∀ (r0 : Option Nat) (s0 : g_St), f_M_readQuery_93 r0 s0 = some o → g_W K s0 [(0, g_r 1 r0)] [] 93 (g_jV o) := by
  intro r0 s0 h
  unfold f_M_readQuery_93 at h
  refine r_aload_n hK d_M_readQuery_93 rfl 0 rfl ?_
  refine r_bipush (v := 99) hK d_M_readQuery_94 (by decide) ?_
  refine r_Vi (avL := [g_i 99]) (st := []) hK ob_M rfl w8_186 wp_16 w8_184 w8_187 w1_6 (by decide) pl_M_need (by rw [hD]; decide) (Nat.le_of_ble_eq_true rfl) rfl d_M_readQuery_96 (fun o9 h9 => c_M_need _ _ _ _ _ o9 h9) h (fun i1 s2 h => ?_)
  refine r_pop hK d_M_readQuery_99 rfl ?_
  exact r_return hK d_M_readQuery_100 h
set_option maxHeartbeats 4000000 in
set_option maxRecDepth 100000 in
theorem t_M_readQuery_65 {K : g_C} {o : (Unit × g_St)} (hK : g_OK K b_M_readQuery "FixpointEngineModel" "readQuery" (Option.none : Option Jvm.ClassFile.FieldType)) (hN : g_nL K = 2) (hD : g_Kd K = 11) : ∀ (r0 : Option Nat) (s0 : g_St), f_M_readQuery_65 r0 s0 = some o → g_W K s0 [(0, g_r 1 r0)] [] 65 (g_jV o) := by
  intro r0 s0 h
  unfold f_M_readQuery_65 at h
  refine r_aload_n hK d_M_readQuery_65 rfl 0 rfl ?_
  refine r_gR hK fd_M_31 w7_63 d_M_readQuery_66 h (fun p1 h => ?_)
  refine r_iconst (v := 4) hK d_M_readQuery_69 (by decide) ?_
  refine r_aload_n hK d_M_readQuery_70 rfl 0 rfl ?_
  refine r_gI hK fd_M_34 w7_66 d_M_readQuery_71 h (fun i2 h => ?_)
  refine r_iastore hK ar_20 rfl d_M_readQuery_74 h (fun s3 h => ?_)
  refine r_aload_n hK d_M_readQuery_75 rfl 0 rfl ?_
  refine r_iconst (v := 4) hK d_M_readQuery_76 (by decide) ?_
  refine r_Vv (avL := [g_i 4]) (st := []) hK ob_M rfl w8_202 wp_20 w8_200 w8_203 w1_6 (by decide) pl_M_readSelection (by rw [hD]; decide) (Nat.le_of_ble_eq_true rfl) rfl d_M_readQuery_77 (fun o9 h9 => c_M_readSelection _ _ _ _ _ o9 h9) h (fun s5 h => ?_)
  refine r_aload_n hK d_M_readQuery_80 rfl 0 rfl ?_
  refine r_bipush (v := 25) hK d_M_readQuery_81 (by decide) ?_
  refine r_Vi (avL := [g_i 25]) (st := []) hK ob_M rfl w8_174 wp_13 w8_172 w8_175 w1_6 (by decide) pl_M_is (by rw [hD]; decide) (Nat.le_of_ble_eq_true rfl) rfl d_M_readQuery_83 (fun o9 h9 => c_M_is _ _ _ _ _ o9 h9) h (fun i6 s7 h => ?_)
  refine r_ifeq (tgt := 93) hK d_M_readQuery_86 (by decide) h (fun h => ?_) (fun h => ?_)
  · exact r_sub [0] rfl (t_M_readQuery_93 hK hN hD _ _ h)
  · refine r_aload_n hK d_M_readQuery_89 rfl 0 rfl ?_
    refine r_Vv (avL := []) (st := []) hK ob_M rfl w8_238 wp_29 w8_236 w8_239 w1_6 (by decide) pl_M_readOrder (by rw [hD]; decide) (Nat.le_of_ble_eq_true rfl) rfl d_M_readQuery_90 (fun o9 h9 => c_M_readOrder _ _ _ _ o9 h9) h (fun s9 h => ?_)
    exact r_sub [0] rfl (t_M_readQuery_93 hK hN hD _ _ h)
set_option maxHeartbeats 4000000 in
set_option maxRecDepth 100000 in
theorem t_M_readQuery_24 {K : g_C} {o : (Unit × g_St)} (hK : g_OK K b_M_readQuery "FixpointEngineModel" "readQuery" (Option.none : Option Jvm.ClassFile.FieldType)) (hN : g_nL K = 2) (hD : g_Kd K = 11) : ∀ (n : Nat) (r0 : Option Nat) (x1 : Int32) (s0 : g_St), f_M_readQuery_24 n r0 x1 s0 = some o → g_W K s0 [(0, g_r 1 r0), (1, g_i x1)] [] 24 (g_jV o) := by
  intro n
  induction n with
  | zero =>
    intro r0 x1 s0 h
    cases h
  | succ n ih =>
    intro r0 x1 s0 h
    unfold f_M_readQuery_24 at h
    refine r_iload_n hK d_M_readQuery_24 rfl 1 rfl ?_
    refine r_ifeq (tgt := 65) hK d_M_readQuery_25 (by decide) h (fun h => ?_) (fun h => ?_)
    · exact r_sub [0] rfl (t_M_readQuery_65 hK hN hD _ _ h)
    · refine r_aload_n hK d_M_readQuery_28 rfl 0 rfl ?_
      refine r_Vi (avL := []) (st := []) hK ob_M rfl w8_178 wp_14 w8_176 w8_179 w1_6 (by decide) pl_M_bad (by rw [hD]; decide) (Nat.le_of_ble_eq_true rfl) rfl d_M_readQuery_29 (fun o9 h9 => c_M_bad _ _ _ _ o9 h9) h (fun i1 s2 h => ?_)
      refine r_ifne (tgt := 65) hK d_M_readQuery_32 (by decide) h (fun h => ?_) (fun h => ?_)
      · exact r_sub [0] rfl (t_M_readQuery_65 hK hN hD _ _ h)
      · refine r_aload_n hK d_M_readQuery_35 rfl 0 rfl ?_
        refine r_Vv (avL := []) (st := []) hK ob_M rfl w8_182 wp_15 w8_180 w8_183 w1_6 (by decide) pl_M_readPart (by rw [hD]; decide) (Nat.le_of_ble_eq_true rfl) rfl d_M_readQuery_36 (fun o9 h9 => c_M_readPart _ _ _ _ o9 h9) h (fun s4 h => ?_)
        refine r_aload_n hK d_M_readQuery_39 rfl 0 rfl ?_
        refine r_gI hK fd_M_18 w7_50 d_M_readQuery_40 h (fun i5 h => ?_)
        refine r_iconst (v := 4) hK d_M_readQuery_43 (by decide) ?_
        refine r_if_icmpge (tgt := 60) hK d_M_readQuery_44 (by decide) h (fun h => ?_) (fun h => ?_)
        · refine r_iconst (v := 0) hK d_M_readQuery_60 (by decide) ?_
          refine r_istore_n (ls1 := [(1, g_i 0), (0, g_r 1 r0)]) hK d_M_readQuery_61 rfl (by rw [hN]; decide) rfl ?_
          refine r_goto (tgt := 24) hK d_M_readQuery_62 (by decide) ?_
          exact r_sub [1, 0] rfl (ih _ _ _ h)
        · refine r_aload_n hK d_M_readQuery_47 rfl 0 rfl ?_
          refine r_bipush (v := 44) hK d_M_readQuery_48 (by decide) ?_
          refine r_Vi (avL := [g_i 44]) (st := []) hK ob_M rfl w8_198 wp_19 w8_196 w8_199 w1_6 (by decide) pl_M_skipSign (by rw [hD]; decide) (Nat.le_of_ble_eq_true rfl) rfl d_M_readQuery_50 (fun o9 h9 => c_M_skipSign _ _ _ _ _ o9 h9) h (fun i6 s7 h => ?_)
          refine r_ifeq (tgt := 60) hK d_M_readQuery_53 (by decide) h (fun h => ?_) (fun h => ?_)
          · refine r_iconst (v := 0) hK d_M_readQuery_60 (by decide) ?_
            refine r_istore_n (ls1 := [(1, g_i 0), (0, g_r 1 r0)]) hK d_M_readQuery_61 rfl (by rw [hN]; decide) rfl ?_
            refine r_goto (tgt := 24) hK d_M_readQuery_62 (by decide) ?_
            exact r_sub [1, 0] rfl (ih _ _ _ h)
          · refine r_iconst (v := 1) hK d_M_readQuery_56 (by decide) ?_
            refine r_goto (tgt := 61) hK d_M_readQuery_57 (by decide) ?_
            refine r_istore_n (ls1 := [(1, g_i 1), (0, g_r 1 r0)]) hK d_M_readQuery_61 rfl (by rw [hN]; decide) rfl ?_
            refine r_goto (tgt := 24) hK d_M_readQuery_62 (by decide) ?_
            exact r_sub [1, 0] rfl (ih _ _ _ h)
set_option maxHeartbeats 4000000 in
set_option maxRecDepth 100000 in
theorem t_M_readQuery_0 {K : g_C} {o : (Unit × g_St)} (hK : g_OK K b_M_readQuery "FixpointEngineModel" "readQuery" (Option.none : Option Jvm.ClassFile.FieldType)) (hN : g_nL K = 2) (hD : g_Kd K = 11) : ∀ (r0 : Option Nat) (s0 : g_St), f_M_readQuery r0 s0 = some o → g_W K s0 [(0, g_r 1 r0)] [] 0 (g_jV o) := by
  intro r0 s0 h
  unfold f_M_readQuery at h
  refine r_aload_n hK d_M_readQuery_0 rfl 0 rfl ?_
  refine r_iconst (v := 0) hK d_M_readQuery_1 (by decide) ?_
  refine r_pZ hK fd_M_33 rfl w7_65 d_M_readQuery_2 h (fun s1 h => ?_)
  refine r_aload_n hK d_M_readQuery_5 rfl 0 rfl ?_
  refine r_iconst (v := 1) hK d_M_readQuery_6 (by decide) ?_
  refine r_Vi (avL := [g_i 1]) (st := []) hK ob_M rfl w8_170 wp_12 w8_168 w8_171 w1_6 (by decide) pl_M_skip (by rw [hD]; decide) (Nat.le_of_ble_eq_true rfl) rfl d_M_readQuery_7 (fun o9 h9 => c_M_skip _ _ _ _ _ o9 h9) h (fun i2 s3 h => ?_)
  refine r_ifeq (tgt := 65) hK d_M_readQuery_10 (by decide) h (fun h => ?_) (fun h => ?_)
  · exact r_sub [0] rfl (t_M_readQuery_65 hK hN hD _ _ h)
  · refine r_aload_n hK d_M_readQuery_13 rfl 0 rfl ?_
    refine r_aload_n hK d_M_readQuery_14 rfl 0 rfl ?_
    refine r_iconst (v := 2) hK d_M_readQuery_15 (by decide) ?_
    refine r_Vi (avL := [g_i 2]) (st := [g_r 1 r0]) hK ob_M rfl w8_170 wp_12 w8_168 w8_171 w1_6 (by decide) pl_M_skip (by rw [hD]; decide) (Nat.le_of_ble_eq_true rfl) rfl d_M_readQuery_16 (fun o9 h9 => c_M_skip _ _ _ _ _ o9 h9) h (fun i4 s5 h => ?_)
    refine r_pZ hK fd_M_33 rfl w7_65 d_M_readQuery_19 h (fun s6 h => ?_)
    refine r_iconst (v := 1) hK d_M_readQuery_22 (by decide) ?_
    refine r_istore_n (ls1 := [(1, g_i 1), (0, g_r 1 r0)]) hK d_M_readQuery_23 rfl (by rw [hN]; decide) rfl ?_
    exact r_sub [1, 0] rfl (t_M_readQuery_24 hK hN hD _ _ _ _ h)
theorem c_M_readQuery (l : Launch) (G : g_G) (r0 : Option Nat) (u : g_St) (o : (Unit × g_St)) (h : f_M_readQuery r0 u = some o) : g_Con l G y_M_readQuery b_M_readQuery 2 (Option.none : Option Jvm.ClassFile.FieldType) 11 [g_r 1 r0] u (g_jV o) :=
  g_Con.of rfl rfl (by decide +kernel) (Nat.le_of_ble_eq_true rfl) (fun K hK hN hD hX => t_M_readQuery_0 hK hN hD _ _ h)
def f_M_meaning_44 : Nat → Option Nat → Int32 → Int32 → g_St → Option (Int32 × g_St)
  | 0, _, _, _, _ => none
  | n + 1, r0, x1, x2, s0 =>
    g_gI s0 65 r0 fun i1 =>
    if i1 ≤ x2 then
      some ((-1), s0)
    else
      g_gR s0 769 r0 fun p2 =>
      g_aL s0 p2 x1 fun j3 =>
      if j3 = (767 + x2.toInt64) then
        some (x2, s0)
      else
        f_M_meaning_44 n r0 x1 (x2 + 1) s0
def f_M_meaning_2 : Nat → Option Nat → Int32 → Int32 → g_St → Option (Int32 × g_St)
  | 0, _, _, _, _ => none
  | n + 1, r0, x1, x2, s0 =>
    g_gI s0 1153 r0 fun i1 =>
    if i1 ≤ x2 then
      f_M_meaning_44 200000 r0 x1 0 s0
    else
      g_gR s0 769 r0 fun p2 =>
      g_gR s0 1217 r0 fun p3 =>
      g_aI s0 p3 x2 fun i4 =>
      g_aL s0 p2 i4 fun j5 =>
      g_gR s0 769 r0 fun p6 =>
      g_aL s0 p6 x1 fun j7 =>
      if j5 = j7 then
        some (10 + x2, s0)
      else
        f_M_meaning_2 n r0 x1 (x2 + 1) s0
def f_M_meaning (r0 : Option Nat) (x1 : Int32) (s0 : g_St) : Option (Int32 × g_St) :=
  f_M_meaning_2 200000 r0 x1 0 s0
set_option maxHeartbeats 4000000 in
set_option maxRecDepth 100000 in
theorem t_M_meaning_44 {K : g_C} {o : (Int32 × g_St)} (hK : g_OK K b_M_meaning "FixpointEngineModel" "meaning" (Option.some Jvm.ClassFile.FieldType.int)) (hN : g_nL K = 3) (hD : g_Kd K = 1) : ∀ (n : Nat) (r0 : Option Nat) (x1 : Int32) (x2 : Int32) (s0 : g_St), f_M_meaning_44 n r0 x1 x2 s0 = some o → g_W K s0 [(0, g_r 1 r0), (1, g_i x1), (2, g_i x2)] [] 44 (g_jI o) := by
  intro n
  induction n with
  | zero =>
    intro r0 x1 x2 s0 h
    cases h
  | succ n ih =>
    intro r0 x1 x2 s0 h
    unfold f_M_meaning_44 at h
    refine r_iload_n hK d_M_meaning_44 rfl 2 rfl ?_
    refine r_aload_n hK d_M_meaning_45 rfl 0 rfl ?_
    refine r_gI hK fd_M_1 w7_33 d_M_meaning_46 h (fun i1 h => ?_)
    refine r_if_icmpge (tgt := 76) hK d_M_meaning_49 (by decide) h (fun h => ?_) (fun h => ?_)
    · refine r_iconst (v := (-1)) hK d_M_meaning_76 (by decide) ?_
      exact r_ireturn hK d_M_meaning_77 h
    · refine r_aload_n hK d_M_meaning_52 rfl 0 rfl ?_
      refine r_gR hK fd_M_12 w7_44 d_M_meaning_53 h (fun p2 h => ?_)
      refine r_iload_n hK d_M_meaning_56 rfl 1 rfl ?_
      refine r_laload hK ar_21 rfl d_M_meaning_57 h (fun j3 h => ?_)
      refine r_ldc2 hK w9_24 d_M_meaning_58 ?_
      refine r_iload_n hK d_M_meaning_61 rfl 2 rfl ?_
      refine r_i2l hK d_M_meaning_62 ?_
      refine r_ladd hK d_M_meaning_63 ?_
      refine r_lifne (tgt := 70) hK d_M_meaning_64 d_M_meaning_65 (by decide) h (fun h => ?_) (fun h => ?_)
      · refine r_iinc (ls1 := [(2, g_i (x2 + 1)), (0, g_r 1 r0), (1, g_i x1)]) hK d_M_meaning_70 2 rfl rfl (by rw [hN]; decide) rfl ?_
        refine r_goto (tgt := 44) hK d_M_meaning_73 (by decide) ?_
        exact r_sub [1, 2, 0] rfl (ih _ _ _ _ h)
      · refine r_iload_n hK d_M_meaning_68 rfl 2 rfl ?_
        exact r_ireturn hK d_M_meaning_69 h
set_option maxHeartbeats 4000000 in
set_option maxRecDepth 100000 in
theorem t_M_meaning_2 {K : g_C} {o : (Int32 × g_St)} (hK : g_OK K b_M_meaning "FixpointEngineModel" "meaning" (Option.some Jvm.ClassFile.FieldType.int)) (hN : g_nL K = 3) (hD : g_Kd K = 1) : ∀ (n : Nat) (r0 : Option Nat) (x1 : Int32) (x2 : Int32) (s0 : g_St), f_M_meaning_2 n r0 x1 x2 s0 = some o → g_W K s0 [(0, g_r 1 r0), (1, g_i x1), (2, g_i x2)] [] 2 (g_jI o) := by
  intro n
  induction n with
  | zero =>
    intro r0 x1 x2 s0 h
    cases h
  | succ n ih =>
    intro r0 x1 x2 s0 h
    unfold f_M_meaning_2 at h
    refine r_iload_n hK d_M_meaning_2 rfl 2 rfl ?_
    refine r_aload_n hK d_M_meaning_3 rfl 0 rfl ?_
    refine r_gI hK fd_M_18 w7_50 d_M_meaning_4 h (fun i1 h => ?_)
    refine r_if_icmpge (tgt := 42) hK d_M_meaning_7 (by decide) h (fun h => ?_) (fun h => ?_)
    · refine r_iconst (v := 0) hK d_M_meaning_42 (by decide) ?_
      refine r_istore_n (ls1 := [(2, g_i 0), (0, g_r 1 r0), (1, g_i x1)]) hK d_M_meaning_43 rfl (by rw [hN]; decide) rfl ?_
      exact r_sub [1, 2, 0] rfl (t_M_meaning_44 hK hN hD _ _ _ _ _ h)
    · refine r_aload_n hK d_M_meaning_10 rfl 0 rfl ?_
      refine r_gR hK fd_M_12 w7_44 d_M_meaning_11 h (fun p2 h => ?_)
      refine r_aload_n hK d_M_meaning_14 rfl 0 rfl ?_
      refine r_gR hK fd_M_19 w7_51 d_M_meaning_15 h (fun p3 h => ?_)
      refine r_iload_n hK d_M_meaning_18 rfl 2 rfl ?_
      refine r_iaload hK ar_20 rfl d_M_meaning_19 h (fun i4 h => ?_)
      refine r_laload hK ar_21 rfl d_M_meaning_20 h (fun j5 h => ?_)
      refine r_aload_n hK d_M_meaning_21 rfl 0 rfl ?_
      refine r_gR hK fd_M_12 w7_44 d_M_meaning_22 h (fun p6 h => ?_)
      refine r_iload_n hK d_M_meaning_25 rfl 1 rfl ?_
      refine r_laload hK ar_21 rfl d_M_meaning_26 h (fun j7 h => ?_)
      refine r_lifne (tgt := 36) hK d_M_meaning_27 d_M_meaning_28 (by decide) h (fun h => ?_) (fun h => ?_)
      · refine r_iinc (ls1 := [(2, g_i (x2 + 1)), (0, g_r 1 r0), (1, g_i x1)]) hK d_M_meaning_36 2 rfl rfl (by rw [hN]; decide) rfl ?_
        refine r_goto (tgt := 2) hK d_M_meaning_39 (by decide) ?_
        exact r_sub [1, 2, 0] rfl (ih _ _ _ _ h)
      · refine r_bipush (v := 10) hK d_M_meaning_31 (by decide) ?_
        refine r_iload_n hK d_M_meaning_33 rfl 2 rfl ?_
        refine r_iadd hK d_M_meaning_34 ?_
        exact r_ireturn hK d_M_meaning_35 h
set_option maxHeartbeats 4000000 in
set_option maxRecDepth 100000 in
theorem t_M_meaning_0 {K : g_C} {o : (Int32 × g_St)} (hK : g_OK K b_M_meaning "FixpointEngineModel" "meaning" (Option.some Jvm.ClassFile.FieldType.int)) (hN : g_nL K = 3) (hD : g_Kd K = 1) : ∀ (r0 : Option Nat) (x1 : Int32) (s0 : g_St), f_M_meaning r0 x1 s0 = some o → g_W K s0 [(0, g_r 1 r0), (1, g_i x1)] [] 0 (g_jI o) := by
  intro r0 x1 s0 h
  unfold f_M_meaning at h
  refine r_iconst (v := 0) hK d_M_meaning_0 (by decide) ?_
  refine r_istore_n (ls1 := [(2, g_i 0), (0, g_r 1 r0), (1, g_i x1)]) hK d_M_meaning_1 rfl (by rw [hN]; decide) rfl ?_
  exact r_sub [1, 2, 0] rfl (t_M_meaning_2 hK hN hD _ _ _ _ _ h)
theorem c_M_meaning (l : Launch) (G : g_G) (r0 : Option Nat) (x1 : Int32) (u : g_St) (o : (Int32 × g_St)) (h : f_M_meaning r0 x1 u = some o) : g_Con l G y_M_meaning b_M_meaning 3 (Option.some Jvm.ClassFile.FieldType.int) 1 [g_r 1 r0, g_i x1] u (g_jI o) :=
  g_Con.of rfl rfl (by decide +kernel) (Nat.le_of_ble_eq_true rfl) (fun K hK hN hD hX => t_M_meaning_0 hK hN hD _ _ _ h)
def f_M_columnOf_128 (r0 : Option Nat) (y2 : Int64) (x4 : Int32) (x5 : Int32) (s0 : g_St) : Option (Int32 × g_St) :=
  if x4 = 0 then
    some ((-1), s0)
  else
    g_gR s0 1409 r0 fun p1 =>
    g_aI s0 p1 x5 fun i2 =>
    if i2 ≤ 0 then
      some ((-1), s0)
    else
      g_gR s0 769 r0 fun p3 =>
      g_gR s0 1537 r0 fun p4 =>
      g_aI s0 p4 x5 fun i5 =>
      g_aL s0 p3 i5 fun j6 =>
      if j6 = y2 then
        some (100, s0)
      else
        some ((-1), s0)
def f_M_columnOf_49 : Nat → Option Nat → Int64 → Int32 → Int32 → Int32 → g_St → Option (Int32 × g_St)
  | 0, _, _, _, _, _, _ => none
  | n + 1, r0, y2, x4, x5, x6, s0 =>
    g_gR s0 1281 r0 fun p1 =>
    g_aI s0 p1 x5 fun i2 =>
    if i2 ≤ x6 then
      g_gR s0 1601 r0 fun p3 =>
      g_aI s0 p3 x5 fun i4 =>
      if i4 = (-1) then
        f_M_columnOf_128 r0 y2 x4 x5 s0
      else
        g_gR s0 769 r0 fun p5 =>
        g_gR s0 1665 r0 fun p6 =>
        g_aI s0 p6 x5 fun i7 =>
        g_aL s0 p5 i7 fun j8 =>
        if j8 = y2 then
          g_gR s0 1281 r0 fun p9 =>
          g_aI s0 p9 x5 fun i10 =>
          some (i10, s0)
        else
          f_M_columnOf_128 r0 y2 x4 x5 s0
    else
      g_gR s0 769 r0 fun p11 =>
      g_gR s0 1345 r0 fun p12 =>
      g_aI s0 p12 ((3 * x5) + x6) fun i13 =>
      g_aL s0 p11 i13 fun j14 =>
      if j14 = y2 then
        some (x6, s0)
      else
        f_M_columnOf_49 n r0 y2 x4 x5 (x6 + 1) s0
def f_M_columnOf (r0 : Option Nat) (x1 : Int32) (y2 : Int64) (x4 : Int32) (s0 : g_St) : Option (Int32 × g_St) :=
  if x1 = (-1) then
    some ((-1), s0)
  else
    if 10 ≤ x1 then
      f_M_columnOf_49 200000 r0 y2 x4 (x1 - 10) 0 s0
    else
      if y2 < 1 then
        some ((-1), s0)
      else
        g_gR s0 129 r0 fun p1 =>
        g_aI s0 p1 x1 fun i2 =>
        if i2.toInt64 < y2 then
          some ((-1), s0)
        else
          some (y2.toInt32 - 1, s0)
set_option maxHeartbeats 4000000 in
set_option maxRecDepth 100000 in
theorem t_M_columnOf_128 {K : g_C} {o : (Int32 × g_St)} (hK : g_OK K b_M_columnOf "FixpointEngineModel" "columnOf" (Option.some Jvm.ClassFile.FieldType.int)) (hN : g_nL K = 7) (hD : g_Kd K = 1) : ∀ (r0 : Option Nat) (y2 : Int64) (x4 : Int32) (x5 : Int32) (s0 : g_St), f_M_columnOf_128 r0 y2 x4 x5 s0 = some o → g_W K s0 [(0, g_r 1 r0), (2, g_l y2), (4, g_i x4), (5, g_i x5)] [] 128 (g_jI o) := by
  intro r0 y2 x4 x5 s0 h
  unfold f_M_columnOf_128 at h
  refine r_iload hK d_M_columnOf_128 2 rfl ?_
  refine r_ifeq (tgt := 165) hK d_M_columnOf_130 (by decide) h (fun h => ?_) (fun h => ?_)
  · refine r_iconst (v := (-1)) hK d_M_columnOf_165 (by decide) ?_
    exact r_ireturn hK d_M_columnOf_166 h
  · refine r_aload_n hK d_M_columnOf_133 rfl 0 rfl ?_
    refine r_gR hK fd_M_22 w7_54 d_M_columnOf_134 h (fun p1 h => ?_)
    refine r_iload hK d_M_columnOf_137 3 rfl ?_
    refine r_iaload hK ar_20 rfl d_M_columnOf_139 h (fun i2 h => ?_)
    refine r_ifle (tgt := 165) hK d_M_columnOf_140 (by decide) h (fun h => ?_) (fun h => ?_)
    · refine r_iconst (v := (-1)) hK d_M_columnOf_165 (by decide) ?_
      exact r_ireturn hK d_M_columnOf_166 h
    · refine r_aload_n hK d_M_columnOf_143 rfl 0 rfl ?_
      refine r_gR hK fd_M_12 w7_44 d_M_columnOf_144 h (fun p3 h => ?_)
      refine r_aload_n hK d_M_columnOf_147 rfl 0 rfl ?_
      refine r_gR hK fd_M_24 w7_56 d_M_columnOf_148 h (fun p4 h => ?_)
      refine r_iload hK d_M_columnOf_151 3 rfl ?_
      refine r_iaload hK ar_20 rfl d_M_columnOf_153 h (fun i5 h => ?_)
      refine r_laload hK ar_21 rfl d_M_columnOf_154 h (fun j6 h => ?_)
      refine r_lload_n hK d_M_columnOf_155 rfl 1 rfl ?_
      refine r_lifne (tgt := 165) hK d_M_columnOf_156 d_M_columnOf_157 (by decide) h (fun h => ?_) (fun h => ?_)
      · refine r_iconst (v := (-1)) hK d_M_columnOf_165 (by decide) ?_
        exact r_ireturn hK d_M_columnOf_166 h
      · refine r_bipush (v := 100) hK d_M_columnOf_160 (by decide) ?_
        refine r_goto (tgt := 166) hK d_M_columnOf_162 (by decide) ?_
        exact r_ireturn hK d_M_columnOf_166 h
set_option maxHeartbeats 4000000 in
set_option maxRecDepth 100000 in
theorem t_M_columnOf_49 {K : g_C} {o : (Int32 × g_St)} (hK : g_OK K b_M_columnOf "FixpointEngineModel" "columnOf" (Option.some Jvm.ClassFile.FieldType.int)) (hN : g_nL K = 7) (hD : g_Kd K = 1) : ∀ (n : Nat) (r0 : Option Nat) (y2 : Int64) (x4 : Int32) (x5 : Int32) (x6 : Int32) (s0 : g_St), f_M_columnOf_49 n r0 y2 x4 x5 x6 s0 = some o → g_W K s0 [(0, g_r 1 r0), (2, g_l y2), (4, g_i x4), (5, g_i x5), (6, g_i x6)] [] 49 (g_jI o) := by
  intro n
  induction n with
  | zero =>
    intro r0 y2 x4 x5 x6 s0 h
    cases h
  | succ n ih =>
    intro r0 y2 x4 x5 x6 s0 h
    unfold f_M_columnOf_49 at h
    refine r_iload hK d_M_columnOf_49 4 rfl ?_
    refine r_aload_n hK d_M_columnOf_51 rfl 0 rfl ?_
    refine r_gR hK fd_M_20 w7_52 d_M_columnOf_52 h (fun p1 h => ?_)
    refine r_iload hK d_M_columnOf_55 3 rfl ?_
    refine r_iaload hK ar_20 rfl d_M_columnOf_57 h (fun i2 h => ?_)
    refine r_if_icmpge (tgt := 92) hK d_M_columnOf_58 (by decide) h (fun h => ?_) (fun h => ?_)
    · refine r_aload_n hK d_M_columnOf_92 rfl 0 rfl ?_
      refine r_gR hK fd_M_25 w7_57 d_M_columnOf_93 h (fun p3 h => ?_)
      refine r_iload hK d_M_columnOf_96 3 rfl ?_
      refine r_iaload hK ar_20 rfl d_M_columnOf_98 h (fun i4 h => ?_)
      refine r_iconst (v := (-1)) hK d_M_columnOf_99 (by decide) ?_
      refine r_if_icmpeq (tgt := 128) hK d_M_columnOf_100 (by decide) h (fun h => ?_) (fun h => ?_)
      · exact r_sub [0, 1, 2, 3] rfl (t_M_columnOf_128 hK hN hD _ _ _ _ _ h)
      · refine r_aload_n hK d_M_columnOf_103 rfl 0 rfl ?_
        refine r_gR hK fd_M_12 w7_44 d_M_columnOf_104 h (fun p5 h => ?_)
        refine r_aload_n hK d_M_columnOf_107 rfl 0 rfl ?_
        refine r_gR hK fd_M_26 w7_58 d_M_columnOf_108 h (fun p6 h => ?_)
        refine r_iload hK d_M_columnOf_111 3 rfl ?_
        refine r_iaload hK ar_20 rfl d_M_columnOf_113 h (fun i7 h => ?_)
        refine r_laload hK ar_21 rfl d_M_columnOf_114 h (fun j8 h => ?_)
        refine r_lload_n hK d_M_columnOf_115 rfl 1 rfl ?_
        refine r_lifne (tgt := 128) hK d_M_columnOf_116 d_M_columnOf_117 (by decide) h (fun h => ?_) (fun h => ?_)
        · exact r_sub [0, 1, 2, 3] rfl (t_M_columnOf_128 hK hN hD _ _ _ _ _ h)
        · refine r_aload_n hK d_M_columnOf_120 rfl 0 rfl ?_
          refine r_gR hK fd_M_20 w7_52 d_M_columnOf_121 h (fun p9 h => ?_)
          refine r_iload hK d_M_columnOf_124 3 rfl ?_
          refine r_iaload hK ar_20 rfl d_M_columnOf_126 h (fun i10 h => ?_)
          exact r_ireturn hK d_M_columnOf_127 h
    · refine r_aload_n hK d_M_columnOf_61 rfl 0 rfl ?_
      refine r_gR hK fd_M_12 w7_44 d_M_columnOf_62 h (fun p11 h => ?_)
      refine r_aload_n hK d_M_columnOf_65 rfl 0 rfl ?_
      refine r_gR hK fd_M_21 w7_53 d_M_columnOf_66 h (fun p12 h => ?_)
      refine r_iconst (v := 3) hK d_M_columnOf_69 (by decide) ?_
      refine r_iload hK d_M_columnOf_70 3 rfl ?_
      refine r_imul hK d_M_columnOf_72 ?_
      refine r_iload hK d_M_columnOf_73 4 rfl ?_
      refine r_iadd hK d_M_columnOf_75 ?_
      refine r_iaload hK ar_20 rfl d_M_columnOf_76 h (fun i13 h => ?_)
      refine r_laload hK ar_21 rfl d_M_columnOf_77 h (fun j14 h => ?_)
      refine r_lload_n hK d_M_columnOf_78 rfl 1 rfl ?_
      refine r_lifne (tgt := 86) hK d_M_columnOf_79 d_M_columnOf_80 (by decide) h (fun h => ?_) (fun h => ?_)
      · refine r_iinc (ls1 := [(6, g_i (x6 + 1)), (0, g_r 1 r0), (2, g_l y2), (4, g_i x4), (5, g_i x5)]) hK d_M_columnOf_86 4 rfl rfl (by rw [hN]; decide) rfl ?_
        refine r_goto (tgt := 49) hK d_M_columnOf_89 (by decide) ?_
        exact r_sub [1, 2, 3, 4, 0] rfl (ih _ _ _ _ _ _ h)
      · refine r_iload hK d_M_columnOf_83 4 rfl ?_
        exact r_ireturn hK d_M_columnOf_85 h
set_option maxHeartbeats 4000000 in
set_option maxRecDepth 100000 in
theorem t_M_columnOf_0 {K : g_C} {o : (Int32 × g_St)} (hK : g_OK K b_M_columnOf "FixpointEngineModel" "columnOf" (Option.some Jvm.ClassFile.FieldType.int)) (hN : g_nL K = 7) (hD : g_Kd K = 1) : ∀ (r0 : Option Nat) (x1 : Int32) (y2 : Int64) (x4 : Int32) (s0 : g_St), f_M_columnOf r0 x1 y2 x4 s0 = some o → g_W K s0 [(0, g_r 1 r0), (1, g_i x1), (2, g_l y2), (4, g_i x4)] [] 0 (g_jI o) := by
  intro r0 x1 y2 x4 s0 h
  unfold f_M_columnOf at h
  refine r_iload_n hK d_M_columnOf_0 rfl 1 rfl ?_
  refine r_iconst (v := (-1)) hK d_M_columnOf_1 (by decide) ?_
  refine r_if_icmpne (tgt := 7) hK d_M_columnOf_2 (by decide) h (fun h => ?_) (fun h => ?_)
  · refine r_iload_n hK d_M_columnOf_7 rfl 1 rfl ?_
    refine r_bipush (v := 10) hK d_M_columnOf_8 (by decide) ?_
    refine r_if_icmpge (tgt := 40) hK d_M_columnOf_10 (by decide) h (fun h => ?_) (fun h => ?_)
    · refine r_iload_n hK d_M_columnOf_40 rfl 1 rfl ?_
      refine r_bipush (v := 10) hK d_M_columnOf_41 (by decide) ?_
      refine r_isub hK d_M_columnOf_43 ?_
      refine r_istore (ls1 := [(5, g_i (x1 - 10)), (0, g_r 1 r0), (1, g_i x1), (2, g_l y2), (4, g_i x4)]) hK d_M_columnOf_44 (by rw [hN]; decide) rfl ?_
      refine r_iconst (v := 0) hK d_M_columnOf_46 (by decide) ?_
      refine r_istore (ls1 := [(6, g_i 0), (5, g_i (x1 - 10)), (0, g_r 1 r0), (1, g_i x1), (2, g_l y2), (4, g_i x4)]) hK d_M_columnOf_47 (by rw [hN]; decide) rfl ?_
      exact r_sub [2, 4, 5, 1, 0] rfl (t_M_columnOf_49 hK hN hD _ _ _ _ _ _ _ h)
    · refine r_lload_n hK d_M_columnOf_13 rfl 2 rfl ?_
      refine r_lconst (v := 1) hK d_M_columnOf_14 (by decide) ?_
      refine r_liflt (tgt := 38) hK d_M_columnOf_15 d_M_columnOf_16 (by decide) h (fun h => ?_) (fun h => ?_)
      · refine r_iconst (v := (-1)) hK d_M_columnOf_38 (by decide) ?_
        exact r_ireturn hK d_M_columnOf_39 h
      · refine r_lload_n hK d_M_columnOf_19 rfl 2 rfl ?_
        refine r_aload_n hK d_M_columnOf_20 rfl 0 rfl ?_
        refine r_gR hK fd_M_2 w7_34 d_M_columnOf_21 h (fun p1 h => ?_)
        refine r_iload_n hK d_M_columnOf_24 rfl 1 rfl ?_
        refine r_iaload hK ar_20 rfl d_M_columnOf_25 h (fun i2 h => ?_)
        refine r_i2l hK d_M_columnOf_26 ?_
        refine r_lifgt (tgt := 38) hK d_M_columnOf_27 d_M_columnOf_28 (by decide) h (fun h => ?_) (fun h => ?_)
        · refine r_iconst (v := (-1)) hK d_M_columnOf_38 (by decide) ?_
          exact r_ireturn hK d_M_columnOf_39 h
        · refine r_lload_n hK d_M_columnOf_31 rfl 2 rfl ?_
          refine r_l2i hK d_M_columnOf_32 ?_
          refine r_iconst (v := 1) hK d_M_columnOf_33 (by decide) ?_
          refine r_isub hK d_M_columnOf_34 ?_
          refine r_goto (tgt := 39) hK d_M_columnOf_35 (by decide) ?_
          exact r_ireturn hK d_M_columnOf_39 h
  · refine r_iconst (v := (-1)) hK d_M_columnOf_5 (by decide) ?_
    exact r_ireturn hK d_M_columnOf_6 h
theorem c_M_columnOf (l : Launch) (G : g_G) (r0 : Option Nat) (x1 : Int32) (y2 : Int64) (x4 : Int32) (u : g_St) (o : (Int32 × g_St)) (h : f_M_columnOf r0 x1 y2 x4 u = some o) : g_Con l G y_M_columnOf b_M_columnOf 7 (Option.some Jvm.ClassFile.FieldType.int) 1 [g_r 1 r0, g_i x1, g_l y2, g_i x4] u (g_jI o) :=
  g_Con.of rfl rfl (by decide +kernel) (Nat.le_of_ble_eq_true rfl) (fun K hK hN hD hX => t_M_columnOf_0 hK hN hD _ _ _ _ _ h)
def f_M_slotOf_3 : Nat → Option Nat → Int32 → Int64 → Int32 → Int32 → g_St → Option (Int32 × g_St)
  | 0, _, _, _, _, _, _ => none
  | n + 1, r0, x1, y2, x4, x5, s0 =>
    g_gR s0 2561 r0 fun p1 =>
    g_aI s0 p1 x1 fun i2 =>
    if i2 ≤ x5 then
      if x4 = (-1) then
        some ((-1), s0)
      else
        g_gR s0 769 r0 fun p3 =>
        g_gR s0 3713 r0 fun p4 =>
        g_aI s0 p4 x4 fun i5 =>
        g_aL s0 p3 i5 fun j6 =>
        if j6 = y2 then
          some (3, s0)
        else
          some ((-1), s0)
    else
      g_gR s0 769 r0 fun p7 =>
      g_gR s0 3713 r0 fun p8 =>
      g_gR s0 2497 r0 fun p9 =>
      g_aI s0 p9 x1 fun i10 =>
      g_aI s0 p8 (i10 + x5) fun i11 =>
      g_aL s0 p7 i11 fun j12 =>
      if j12 = y2 then
        some (x5, s0)
      else
        f_M_slotOf_3 n r0 x1 y2 x4 (x5 + 1) s0
def f_M_slotOf (r0 : Option Nat) (x1 : Int32) (y2 : Int64) (x4 : Int32) (s0 : g_St) : Option (Int32 × g_St) :=
  f_M_slotOf_3 200000 r0 x1 y2 x4 0 s0
set_option maxHeartbeats 4000000 in
set_option maxRecDepth 100000 in
theorem t_M_slotOf_3 {K : g_C} {o : (Int32 × g_St)} (hK : g_OK K b_M_slotOf "FixpointEngineModel" "slotOf" (Option.some Jvm.ClassFile.FieldType.int)) (hN : g_nL K = 6) (hD : g_Kd K = 1) : ∀ (n : Nat) (r0 : Option Nat) (x1 : Int32) (y2 : Int64) (x4 : Int32) (x5 : Int32) (s0 : g_St), f_M_slotOf_3 n r0 x1 y2 x4 x5 s0 = some o → g_W K s0 [(0, g_r 1 r0), (1, g_i x1), (2, g_l y2), (4, g_i x4), (5, g_i x5)] [] 3 (g_jI o) := by
  intro n
  induction n with
  | zero =>
    intro r0 x1 y2 x4 x5 s0 h
    cases h
  | succ n ih =>
    intro r0 x1 y2 x4 x5 s0 h
    unfold f_M_slotOf_3 at h
    refine r_iload hK d_M_slotOf_3 4 rfl ?_
    refine r_aload_n hK d_M_slotOf_5 rfl 0 rfl ?_
    refine r_gR hK fd_M_40 w7_72 d_M_slotOf_6 h (fun p1 h => ?_)
    refine r_iload_n hK d_M_slotOf_9 rfl 1 rfl ?_
    refine r_iaload hK ar_20 rfl d_M_slotOf_10 h (fun i2 h => ?_)
    refine r_if_icmpge (tgt := 47) hK d_M_slotOf_11 (by decide) h (fun h => ?_) (fun h => ?_)
    · refine r_iload hK d_M_slotOf_47 3 rfl ?_
      refine r_iconst (v := (-1)) hK d_M_slotOf_49 (by decide) ?_
      refine r_if_icmpeq (tgt := 74) hK d_M_slotOf_50 (by decide) h (fun h => ?_) (fun h => ?_)
      · refine r_iconst (v := (-1)) hK d_M_slotOf_74 (by decide) ?_
        exact r_ireturn hK d_M_slotOf_75 h
      · refine r_aload_n hK d_M_slotOf_53 rfl 0 rfl ?_
        refine r_gR hK fd_M_12 w7_44 d_M_slotOf_54 h (fun p3 h => ?_)
        refine r_aload_n hK d_M_slotOf_57 rfl 0 rfl ?_
        refine r_gR hK fd_M_58 w7_90 d_M_slotOf_58 h (fun p4 h => ?_)
        refine r_iload hK d_M_slotOf_61 3 rfl ?_
        refine r_iaload hK ar_20 rfl d_M_slotOf_63 h (fun i5 h => ?_)
        refine r_laload hK ar_21 rfl d_M_slotOf_64 h (fun j6 h => ?_)
        refine r_lload_n hK d_M_slotOf_65 rfl 2 rfl ?_
        refine r_lifne (tgt := 74) hK d_M_slotOf_66 d_M_slotOf_67 (by decide) h (fun h => ?_) (fun h => ?_)
        · refine r_iconst (v := (-1)) hK d_M_slotOf_74 (by decide) ?_
          exact r_ireturn hK d_M_slotOf_75 h
        · refine r_iconst (v := 3) hK d_M_slotOf_70 (by decide) ?_
          refine r_goto (tgt := 75) hK d_M_slotOf_71 (by decide) ?_
          exact r_ireturn hK d_M_slotOf_75 h
    · refine r_aload_n hK d_M_slotOf_14 rfl 0 rfl ?_
      refine r_gR hK fd_M_12 w7_44 d_M_slotOf_15 h (fun p7 h => ?_)
      refine r_aload_n hK d_M_slotOf_18 rfl 0 rfl ?_
      refine r_gR hK fd_M_58 w7_90 d_M_slotOf_19 h (fun p8 h => ?_)
      refine r_aload_n hK d_M_slotOf_22 rfl 0 rfl ?_
      refine r_gR hK fd_M_39 w7_71 d_M_slotOf_23 h (fun p9 h => ?_)
      refine r_iload_n hK d_M_slotOf_26 rfl 1 rfl ?_
      refine r_iaload hK ar_20 rfl d_M_slotOf_27 h (fun i10 h => ?_)
      refine r_iload hK d_M_slotOf_28 4 rfl ?_
      refine r_iadd hK d_M_slotOf_30 ?_
      refine r_iaload hK ar_20 rfl d_M_slotOf_31 h (fun i11 h => ?_)
      refine r_laload hK ar_21 rfl d_M_slotOf_32 h (fun j12 h => ?_)
      refine r_lload_n hK d_M_slotOf_33 rfl 2 rfl ?_
      refine r_lifne (tgt := 41) hK d_M_slotOf_34 d_M_slotOf_35 (by decide) h (fun h => ?_) (fun h => ?_)
      · refine r_iinc (ls1 := [(5, g_i (x5 + 1)), (0, g_r 1 r0), (1, g_i x1), (2, g_l y2), (4, g_i x4)]) hK d_M_slotOf_41 4 rfl rfl (by rw [hN]; decide) rfl ?_
        refine r_goto (tgt := 3) hK d_M_slotOf_44 (by decide) ?_
        exact r_sub [1, 2, 3, 4, 0] rfl (ih _ _ _ _ _ _ h)
      · refine r_iload hK d_M_slotOf_38 4 rfl ?_
        exact r_ireturn hK d_M_slotOf_40 h
set_option maxHeartbeats 4000000 in
set_option maxRecDepth 100000 in
theorem t_M_slotOf_0 {K : g_C} {o : (Int32 × g_St)} (hK : g_OK K b_M_slotOf "FixpointEngineModel" "slotOf" (Option.some Jvm.ClassFile.FieldType.int)) (hN : g_nL K = 6) (hD : g_Kd K = 1) : ∀ (r0 : Option Nat) (x1 : Int32) (y2 : Int64) (x4 : Int32) (s0 : g_St), f_M_slotOf r0 x1 y2 x4 s0 = some o → g_W K s0 [(0, g_r 1 r0), (1, g_i x1), (2, g_l y2), (4, g_i x4)] [] 0 (g_jI o) := by
  intro r0 x1 y2 x4 s0 h
  unfold f_M_slotOf at h
  refine r_iconst (v := 0) hK d_M_slotOf_0 (by decide) ?_
  refine r_istore (ls1 := [(5, g_i 0), (0, g_r 1 r0), (1, g_i x1), (2, g_l y2), (4, g_i x4)]) hK d_M_slotOf_1 (by rw [hN]; decide) rfl ?_
  exact r_sub [1, 2, 3, 4, 0] rfl (t_M_slotOf_3 hK hN hD _ _ _ _ _ _ _ h)
theorem c_M_slotOf (l : Launch) (G : g_G) (r0 : Option Nat) (x1 : Int32) (y2 : Int64) (x4 : Int32) (u : g_St) (o : (Int32 × g_St)) (h : f_M_slotOf r0 x1 y2 x4 u = some o) : g_Con l G y_M_slotOf b_M_slotOf 6 (Option.some Jvm.ClassFile.FieldType.int) 1 [g_r 1 r0, g_i x1, g_l y2, g_i x4] u (g_jI o) :=
  g_Con.of rfl rfl (by decide +kernel) (Nat.le_of_ble_eq_true rfl) (fun K hK hN hD hX => t_M_slotOf_0 hK hN hD _ _ _ _ _ h)
def f_M_resolveSource_70 (r0 : Option Nat) (x2 : Int32) (s0 : g_St) : Option (Unit × g_St) :=
  g_gR s0 705 r0 fun p1 =>
  g_gR s0 3649 r0 fun p2 =>
  g_aI s0 p2 x2 fun i3 =>
  g_aI s0 p1 i3 fun i4 =>
  g_c (g_nn r0 (f_M_note r0 2 i4 s0)) fun _ s6 =>
  some ((), s6)
def f_M_resolveSource_53 (r0 : Option Nat) (x2 : Int32) (x0s : Int32) (s0 : g_St) : Option (Unit × g_St) :=
  g_gR s0 3777 r0 fun p1 =>
  g_aI s0 p1 x2 fun i2 =>
  if i2 = (-1) then
    f_M_resolveSource_70 r0 x2 s0
  else
    if x0s = 0 then
      some ((), s0)
    else
      f_M_resolveSource_70 r0 x2 s0
def f_M_resolveSource (r0 : Option Nat) (x1 : Int32) (x2 : Int32) (s0 : g_St) : Option (Unit × g_St) :=
  g_gR s0 3777 r0 fun p1 =>
  g_gR s0 3649 r0 fun p2 =>
  g_aI s0 p2 x2 fun i3 =>
  g_c (g_nn r0 (f_M_meaning r0 i3 s0)) fun i4 s5 =>
  g_sI s5 p1 x2 i4 fun s6 =>
  g_gR s6 2241 r0 fun p7 =>
  g_aI s6 p7 x1 fun i8 =>
  if 4 ≤ i8 then
    f_M_resolveSource_53 r0 x2 0 s6
  else
    g_gI s6 2113 r0 fun i9 =>
    if i9 = 0 then
      g_gR s6 3777 r0 fun p10 =>
      g_aI s6 p10 x2 fun i11 =>
      if i11 < (10 + i8) then
        f_M_resolveSource_53 r0 x2 0 s6
      else
        f_M_resolveSource_53 r0 x2 1 s6
    else
      f_M_resolveSource_53 r0 x2 0 s6
set_option maxHeartbeats 4000000 in
set_option maxRecDepth 100000 in
theorem t_M_resolveSource_70 {K : g_C} {o : (Unit × g_St)} (hK : g_OK K b_M_resolveSource "FixpointEngineModel" "resolveSource" (Option.none : Option Jvm.ClassFile.FieldType)) (hN : g_nL K = 5) (hD : g_Kd K = 2) : ∀ (r0 : Option Nat) (x2 : Int32) (s0 : g_St), f_M_resolveSource_70 r0 x2 s0 = some o → g_W K s0 [(0, g_r 1 r0), (2, g_i x2)] [] 70 (g_jV o) := by
  intro r0 x2 s0 h
  unfold f_M_resolveSource_70 at h
  refine r_aload_n hK d_M_resolveSource_70 rfl 0 rfl ?_
  refine r_iconst (v := 2) hK d_M_resolveSource_71 (by decide) ?_
  refine r_aload_n hK d_M_resolveSource_72 rfl 0 rfl ?_
  refine r_gR hK fd_M_11 w7_43 d_M_resolveSource_73 h (fun p1 h => ?_)
  refine r_aload_n hK d_M_resolveSource_76 rfl 0 rfl ?_
  refine r_gR hK fd_M_57 w7_89 d_M_resolveSource_77 h (fun p2 h => ?_)
  refine r_iload_n hK d_M_resolveSource_80 rfl 1 rfl ?_
  refine r_iaload hK ar_20 rfl d_M_resolveSource_81 h (fun i3 h => ?_)
  refine r_iaload hK ar_20 rfl d_M_resolveSource_82 h (fun i4 h => ?_)
  refine r_Vv (avL := [g_i 2, g_i i4]) (st := []) hK ob_M rfl w8_190 wp_17 w8_188 w8_191 w1_6 (by decide) pl_M_note (by rw [hD]; decide) (Nat.le_of_ble_eq_true rfl) rfl d_M_resolveSource_83 (fun o9 h9 => c_M_note _ _ _ _ _ _ o9 h9) h (fun s6 h => ?_)
  exact r_return hK d_M_resolveSource_86 h
set_option maxHeartbeats 4000000 in
set_option maxRecDepth 100000 in
theorem t_M_resolveSource_53 {K : g_C} {o : (Unit × g_St)} (hK : g_OK K b_M_resolveSource "FixpointEngineModel" "resolveSource" (Option.none : Option Jvm.ClassFile.FieldType)) (hN : g_nL K = 5) (hD : g_Kd K = 2) : ∀ (r0 : Option Nat) (x2 : Int32) (x0s : Int32) (s0 : g_St), f_M_resolveSource_53 r0 x2 x0s s0 = some o → g_W K s0 [(0, g_r 1 r0), (2, g_i x2)] [g_i x0s] 53 (g_jV o) := by
  intro r0 x2 x0s s0 h
  unfold f_M_resolveSource_53 at h
  refine r_istore (ls1 := [(4, g_i x0s), (0, g_r 1 r0), (2, g_i x2)]) hK d_M_resolveSource_53 (by rw [hN]; decide) rfl ?_
  refine r_aload_n hK d_M_resolveSource_55 rfl 1 rfl ?_
  refine r_gR hK fd_M_59 w7_91 d_M_resolveSource_56 h (fun p1 h => ?_)
  refine r_iload_n hK d_M_resolveSource_59 rfl 2 rfl ?_
  refine r_iaload hK ar_20 rfl d_M_resolveSource_60 h (fun i2 h => ?_)
  refine r_iconst (v := (-1)) hK d_M_resolveSource_61 (by decide) ?_
  refine r_if_icmpeq (tgt := 70) hK d_M_resolveSource_62 (by decide) h (fun h => ?_) (fun h => ?_)
  · exact r_sub [1, 2] rfl (t_M_resolveSource_70 hK hN hD _ _ _ h)
  · refine r_iload hK d_M_resolveSource_65 0 rfl ?_
    refine r_ifeq (tgt := 86) hK d_M_resolveSource_67 (by decide) h (fun h => ?_) (fun h => ?_)
    · exact r_return hK d_M_resolveSource_86 h
    · exact r_sub [1, 2] rfl (t_M_resolveSource_70 hK hN hD _ _ _ h)
set_option maxHeartbeats 4000000 in
set_option maxRecDepth 100000 in
theorem t_M_resolveSource_0 {K : g_C} {o : (Unit × g_St)} (hK : g_OK K b_M_resolveSource "FixpointEngineModel" "resolveSource" (Option.none : Option Jvm.ClassFile.FieldType)) (hN : g_nL K = 5) (hD : g_Kd K = 2) : ∀ (r0 : Option Nat) (x1 : Int32) (x2 : Int32) (s0 : g_St), f_M_resolveSource r0 x1 x2 s0 = some o → g_W K s0 [(0, g_r 1 r0), (1, g_i x1), (2, g_i x2)] [] 0 (g_jV o) := by
  intro r0 x1 x2 s0 h
  unfold f_M_resolveSource at h
  refine r_aload_n hK d_M_resolveSource_0 rfl 0 rfl ?_
  refine r_gR hK fd_M_59 w7_91 d_M_resolveSource_1 h (fun p1 h => ?_)
  refine r_iload_n hK d_M_resolveSource_4 rfl 2 rfl ?_
  refine r_aload_n hK d_M_resolveSource_5 rfl 0 rfl ?_
  refine r_aload_n hK d_M_resolveSource_6 rfl 0 rfl ?_
  refine r_gR hK fd_M_57 w7_89 d_M_resolveSource_7 h (fun p2 h => ?_)
  refine r_iload_n hK d_M_resolveSource_10 rfl 2 rfl ?_
  refine r_iaload hK ar_20 rfl d_M_resolveSource_11 h (fun i3 h => ?_)
  refine r_Vi (avL := [g_i i3]) (st := [g_i x2, g_r 20 p1]) hK ob_M rfl w9_22 wp_35 w9_20 w9_23 w1_6 (by decide) pl_M_meaning (by rw [hD]; decide) (Nat.le_of_ble_eq_true rfl) rfl d_M_resolveSource_12 (fun o9 h9 => c_M_meaning _ _ _ _ _ o9 h9) h (fun i4 s5 h => ?_)
  refine r_iastore hK ar_20 rfl d_M_resolveSource_15 h (fun s6 h => ?_)
  refine r_aload_n hK d_M_resolveSource_16 rfl 0 rfl ?_
  refine r_gR hK fd_M_35 w7_67 d_M_resolveSource_17 h (fun p7 h => ?_)
  refine r_iload_n hK d_M_resolveSource_20 rfl 1 rfl ?_
  refine r_iaload hK ar_20 rfl d_M_resolveSource_21 h (fun i8 h => ?_)
  refine r_istore_n (ls1 := [(3, g_i i8), (0, g_r 1 r0), (1, g_i x1), (2, g_i x2)]) hK d_M_resolveSource_22 rfl (by rw [hN]; decide) rfl ?_
  refine r_iload_n hK d_M_resolveSource_23 rfl 0 rfl ?_
  refine r_iconst (v := 4) hK d_M_resolveSource_24 (by decide) ?_
  refine r_if_icmpge (tgt := 52) hK d_M_resolveSource_25 (by decide) h (fun h => ?_) (fun h => ?_)
  · refine r_iconst (v := 0) hK d_M_resolveSource_52 (by decide) ?_
    exact r_sub [1, 3] rfl (t_M_resolveSource_53 hK hN hD _ _ _ _ h)
  · refine r_aload_n hK d_M_resolveSource_28 rfl 1 rfl ?_
    refine r_gI hK fd_M_33 w7_65 d_M_resolveSource_29 h (fun i9 h => ?_)
    refine r_ifne (tgt := 52) hK d_M_resolveSource_32 (by decide) h (fun h => ?_) (fun h => ?_)
    · refine r_iconst (v := 0) hK d_M_resolveSource_52 (by decide) ?_
      exact r_sub [1, 3] rfl (t_M_resolveSource_53 hK hN hD _ _ _ _ h)
    · refine r_aload_n hK d_M_resolveSource_35 rfl 1 rfl ?_
      refine r_gR hK fd_M_59 w7_91 d_M_resolveSource_36 h (fun p10 h => ?_)
      refine r_iload_n hK d_M_resolveSource_39 rfl 3 rfl ?_
      refine r_iaload hK ar_20 rfl d_M_resolveSource_40 h (fun i11 h => ?_)
      refine r_bipush (v := 10) hK d_M_resolveSource_41 (by decide) ?_
      refine r_iload_n hK d_M_resolveSource_43 rfl 0 rfl ?_
      refine r_iadd hK d_M_resolveSource_44 ?_
      refine r_if_icmplt (tgt := 52) hK d_M_resolveSource_45 (by decide) h (fun h => ?_) (fun h => ?_)
      · refine r_iconst (v := 0) hK d_M_resolveSource_52 (by decide) ?_
        exact r_sub [1, 3] rfl (t_M_resolveSource_53 hK hN hD _ _ _ _ h)
      · refine r_iconst (v := 1) hK d_M_resolveSource_48 (by decide) ?_
        refine r_goto (tgt := 53) hK d_M_resolveSource_49 (by decide) ?_
        exact r_sub [1, 3] rfl (t_M_resolveSource_53 hK hN hD _ _ _ _ h)
theorem c_M_resolveSource (l : Launch) (G : g_G) (r0 : Option Nat) (x1 : Int32) (x2 : Int32) (u : g_St) (o : (Unit × g_St)) (h : f_M_resolveSource r0 x1 x2 u = some o) : g_Con l G y_M_resolveSource b_M_resolveSource 5 (Option.none : Option Jvm.ClassFile.FieldType) 2 [g_r 1 r0, g_i x1, g_i x2] u (g_jV o) :=
  g_Con.of rfl rfl (by decide +kernel) (Nat.le_of_ble_eq_true rfl) (fun K hK hN hD hX => t_M_resolveSource_0 hK hN hD _ _ _ _ h)
def f_M_resolveExpression_126 (k3 : Option Nat → Int32 → Int32 → Int32 → Int32 → g_St → Option (Unit × g_St)) (r0 : Option Nat) (x1 : Int32) (x2 : Int32) (x3 : Int32) (x4 : Int32) (x5 : Int32) (x6 : Int32) (r0s : Option Nat) (x1s : Int32) (x2s : Int32) (s0 : g_St) : Option (Unit × g_St) :=
  g_sI s0 r0s x1s x2s fun s1 =>
  g_gR s1 3521 r0 fun p2 =>
  g_aI s1 p2 x5 fun i3 =>
  if i3 = (-1) then
    g_gR s1 705 r0 fun p4 =>
    g_aI s1 p4 x6 fun i5 =>
    g_c (g_nn r0 (f_M_note r0 2 i5 s1)) fun _ s7 =>
    k3 r0 x1 x2 x3 (x4 + 1) s7
  else
    k3 r0 x1 x2 x3 (x4 + 1) s1
def f_M_resolveExpression_112 (k3 : Option Nat → Int32 → Int32 → Int32 → Int32 → g_St → Option (Unit × g_St)) (r0 : Option Nat) (x1 : Int32) (x2 : Int32) (x3 : Int32) (x4 : Int32) (x5 : Int32) (x6 : Int32) (r0s : Option Nat) (x1s : Int32) (r2s : Option Nat) (r3s : Option Nat) (x4s : Int32) (s0 : g_St) : Option (Unit × g_St) :=
  g_aI s0 r3s x4s fun i1 =>
  g_gR s0 769 r0 fun p2 =>
  g_aL s0 p2 (x6 + 2) fun j3 =>
  g_c (g_nn r2s (f_M_columnOf r2s i1 j3 0 s0)) fun i4 s5 =>
  f_M_resolveExpression_126 k3 r0 x1 x2 x3 x4 x5 x6 r0s x1s i4 s5
def f_M_resolveExpression_3 : Nat → Option Nat → Int32 → Int32 → Int32 → Int32 → g_St → Option (Unit × g_St)
  | 0, _, _, _, _, _, _ => none
  | n + 1, r0, x1, x2, x3, x4, s0 =>
    g_gR s0 3201 r0 fun p1 =>
    g_aI s0 p1 x2 fun i2 =>
    if i2 ≤ x4 then
      some ((), s0)
    else
      g_gR s0 3137 r0 fun p3 =>
      g_aI s0 p3 x2 fun i4 =>
      g_gR s0 3265 r0 fun p5 =>
      g_aI s0 p5 (i4 + x4) fun i6 =>
      if 2 ≤ i6 then
        g_gR s0 3393 r0 fun p7 =>
        g_aI s0 p7 (i4 + x4) fun i8 =>
        g_gR s0 769 r0 fun p9 =>
        g_aL s0 p9 i8 fun j10 =>
        g_c (g_nn r0 (f_M_slotOf r0 x1 j10 x3 s0)) fun i11 s12 =>
        g_gR s12 3457 r0 fun p13 =>
        g_sI s12 p13 (i4 + x4) i11 fun s14 =>
        g_gR s14 3521 r0 fun p15 =>
        if i11 = (-1) then
          f_M_resolveExpression_126 (f_M_resolveExpression_3 n) r0 x1 x2 x3 x4 (i4 + x4) i8 p15 (i4 + x4) (-1) s14
        else
          g_gR s14 3777 r0 fun p16 =>
          if i11 = 3 then
            f_M_resolveExpression_112 (f_M_resolveExpression_3 n) r0 x1 x2 x3 x4 (i4 + x4) i8 p15 (i4 + x4) r0 p16 x3 s14
          else
            g_gR s14 2497 r0 fun p17 =>
            g_aI s14 p17 x1 fun i18 =>
            f_M_resolveExpression_112 (f_M_resolveExpression_3 n) r0 x1 x2 x3 x4 (i4 + x4) i8 p15 (i4 + x4) r0 p16 (i18 + i11) s14
      else
        f_M_resolveExpression_3 n r0 x1 x2 x3 (x4 + 1) s0
def f_M_resolveExpression (r0 : Option Nat) (x1 : Int32) (x2 : Int32) (x3 : Int32) (s0 : g_St) : Option (Unit × g_St) :=
  f_M_resolveExpression_3 200000 r0 x1 x2 x3 0 s0
set_option maxHeartbeats 4000000 in
set_option maxRecDepth 100000 in
theorem t_M_resolveExpression_126 {K : g_C} {o : (Unit × g_St)} (hK : g_OK K b_M_resolveExpression "FixpointEngineModel" "resolveExpression" (Option.none : Option Jvm.ClassFile.FieldType)) (hN : g_nL K = 8) (hD : g_Kd K = 2) {k3 : Option Nat → Int32 → Int32 → Int32 → Int32 → g_St → Option (Unit × g_St)} (hk3 : ∀ (r0 : Option Nat) (x1 : Int32) (x2 : Int32) (x3 : Int32) (x4 : Int32) (s0 : g_St), k3 r0 x1 x2 x3 x4 s0 = some o → g_W K s0 [(0, g_r 1 r0), (1, g_i x1), (2, g_i x2), (3, g_i x3), (4, g_i x4)] [] 3 (g_jV o)) : ∀ (r0 : Option Nat) (x1 : Int32) (x2 : Int32) (x3 : Int32) (x4 : Int32) (x5 : Int32) (x6 : Int32) (r0s : Option Nat) (x1s : Int32) (x2s : Int32) (s0 : g_St), f_M_resolveExpression_126 k3 r0 x1 x2 x3 x4 x5 x6 r0s x1s x2s s0 = some o → g_W K s0 [(0, g_r 1 r0), (1, g_i x1), (2, g_i x2), (3, g_i x3), (4, g_i x4), (5, g_i x5), (6, g_i x6)] [g_i x2s, g_i x1s, g_r 20 r0s] 126 (g_jV o) := by
  intro r0 x1 x2 x3 x4 x5 x6 r0s x1s x2s s0 h
  unfold f_M_resolveExpression_126 at h
  refine r_iastore hK ar_20 rfl d_M_resolveExpression_126 h (fun s1 h => ?_)
  refine r_aload_n hK d_M_resolveExpression_127 rfl 0 rfl ?_
  refine r_gR hK fd_M_55 w7_87 d_M_resolveExpression_128 h (fun p2 h => ?_)
  refine r_iload hK d_M_resolveExpression_131 5 rfl ?_
  refine r_iaload hK ar_20 rfl d_M_resolveExpression_133 h (fun i3 h => ?_)
  refine r_iconst (v := (-1)) hK d_M_resolveExpression_134 (by decide) ?_
  refine r_if_icmpne (tgt := 150) hK d_M_resolveExpression_135 (by decide) h (fun h => ?_) (fun h => ?_)
  · refine r_iinc (ls1 := [(4, g_i (x4 + 1)), (0, g_r 1 r0), (1, g_i x1), (2, g_i x2), (3, g_i x3), (5, g_i x5), (6, g_i x6)]) hK d_M_resolveExpression_150 4 rfl rfl (by rw [hN]; decide) rfl ?_
    refine r_goto (tgt := 3) hK d_M_resolveExpression_153 (by decide) ?_
    exact r_sub [1, 2, 3, 4, 0] rfl (hk3 _ _ _ _ _ _ h)
  · refine r_aload_n hK d_M_resolveExpression_138 rfl 0 rfl ?_
    refine r_iconst (v := 2) hK d_M_resolveExpression_139 (by decide) ?_
    refine r_aload_n hK d_M_resolveExpression_140 rfl 0 rfl ?_
    refine r_gR hK fd_M_11 w7_43 d_M_resolveExpression_141 h (fun p4 h => ?_)
    refine r_iload hK d_M_resolveExpression_144 6 rfl ?_
    refine r_iaload hK ar_20 rfl d_M_resolveExpression_146 h (fun i5 h => ?_)
    refine r_Vv (avL := [g_i 2, g_i i5]) (st := []) hK ob_M rfl w8_190 wp_17 w8_188 w8_191 w1_6 (by decide) pl_M_note (by rw [hD]; decide) (Nat.le_of_ble_eq_true rfl) rfl d_M_resolveExpression_147 (fun o9 h9 => c_M_note _ _ _ _ _ _ o9 h9) h (fun s7 h => ?_)
    refine r_iinc (ls1 := [(4, g_i (x4 + 1)), (0, g_r 1 r0), (1, g_i x1), (2, g_i x2), (3, g_i x3), (5, g_i x5), (6, g_i x6)]) hK d_M_resolveExpression_150 4 rfl rfl (by rw [hN]; decide) rfl ?_
    refine r_goto (tgt := 3) hK d_M_resolveExpression_153 (by decide) ?_
    exact r_sub [1, 2, 3, 4, 0] rfl (hk3 _ _ _ _ _ _ h)
set_option maxHeartbeats 4000000 in
set_option maxRecDepth 100000 in
theorem t_M_resolveExpression_112 {K : g_C} {o : (Unit × g_St)} (hK : g_OK K b_M_resolveExpression "FixpointEngineModel" "resolveExpression" (Option.none : Option Jvm.ClassFile.FieldType)) (hN : g_nL K = 8) (hD : g_Kd K = 2) {k3 : Option Nat → Int32 → Int32 → Int32 → Int32 → g_St → Option (Unit × g_St)} (hk3 : ∀ (r0 : Option Nat) (x1 : Int32) (x2 : Int32) (x3 : Int32) (x4 : Int32) (s0 : g_St), k3 r0 x1 x2 x3 x4 s0 = some o → g_W K s0 [(0, g_r 1 r0), (1, g_i x1), (2, g_i x2), (3, g_i x3), (4, g_i x4)] [] 3 (g_jV o)) : ∀ (r0 : Option Nat) (x1 : Int32) (x2 : Int32) (x3 : Int32) (x4 : Int32) (x5 : Int32) (x6 : Int32) (r0s : Option Nat) (x1s : Int32) (r2s : Option Nat) (r3s : Option Nat) (x4s : Int32) (s0 : g_St), f_M_resolveExpression_112 k3 r0 x1 x2 x3 x4 x5 x6 r0s x1s r2s r3s x4s s0 = some o → g_W K s0 [(0, g_r 1 r0), (1, g_i x1), (2, g_i x2), (3, g_i x3), (4, g_i x4), (5, g_i x5), (6, g_i x6)] [g_i x4s, g_r 20 r3s, g_r 1 r2s, g_i x1s, g_r 20 r0s] 112 (g_jV o) := by
  intro r0 x1 x2 x3 x4 x5 x6 r0s x1s r2s r3s x4s s0 h
  unfold f_M_resolveExpression_112 at h
  refine r_iaload hK ar_20 rfl d_M_resolveExpression_112 h (fun i1 h => ?_)
  refine r_aload_n hK d_M_resolveExpression_113 rfl 0 rfl ?_
  refine r_gR hK fd_M_12 w7_44 d_M_resolveExpression_114 h (fun p2 h => ?_)
  refine r_iload hK d_M_resolveExpression_117 6 rfl ?_
  refine r_iconst (v := 2) hK d_M_resolveExpression_119 (by decide) ?_
  refine r_iadd hK d_M_resolveExpression_120 ?_
  refine r_laload hK ar_21 rfl d_M_resolveExpression_121 h (fun j3 h => ?_)
  refine r_iconst (v := 0) hK d_M_resolveExpression_122 (by decide) ?_
  refine r_Vi (avL := [g_i i1, g_l j3, g_i 0]) (st := [g_i x1s, g_r 20 r0s]) hK ob_M rfl w9_35 wp_38 w9_33 w9_36 w1_6 (by decide) pl_M_columnOf (by rw [hD]; decide) (Nat.le_of_ble_eq_true rfl) rfl d_M_resolveExpression_123 (fun o9 h9 => c_M_columnOf _ _ _ _ _ _ _ o9 h9) h (fun i4 s5 h => ?_)
  exact r_sub [0, 1, 2, 3, 4, 5, 6] rfl (t_M_resolveExpression_126 hK hN hD hk3 _ _ _ _ _ _ _ _ _ _ _ h)
set_option maxHeartbeats 4000000 in
set_option maxRecDepth 100000 in
theorem t_M_resolveExpression_3 {K : g_C} {o : (Unit × g_St)} (hK : g_OK K b_M_resolveExpression "FixpointEngineModel" "resolveExpression" (Option.none : Option Jvm.ClassFile.FieldType)) (hN : g_nL K = 8) (hD : g_Kd K = 2) : ∀ (n : Nat) (r0 : Option Nat) (x1 : Int32) (x2 : Int32) (x3 : Int32) (x4 : Int32) (s0 : g_St), f_M_resolveExpression_3 n r0 x1 x2 x3 x4 s0 = some o → g_W K s0 [(0, g_r 1 r0), (1, g_i x1), (2, g_i x2), (3, g_i x3), (4, g_i x4)] [] 3 (g_jV o) := by
  intro n
  induction n with
  | zero =>
    intro r0 x1 x2 x3 x4 s0 h
    cases h
  | succ n ih =>
    intro r0 x1 x2 x3 x4 s0 h
    unfold f_M_resolveExpression_3 at h
    refine r_iload hK d_M_resolveExpression_3 4 rfl ?_
    refine r_aload_n hK d_M_resolveExpression_5 rfl 0 rfl ?_
    refine r_gR hK fd_M_50 w7_82 d_M_resolveExpression_6 h (fun p1 h => ?_)
    refine r_iload_n hK d_M_resolveExpression_9 rfl 2 rfl ?_
    refine r_iaload hK ar_20 rfl d_M_resolveExpression_10 h (fun i2 h => ?_)
    refine r_if_icmpge (tgt := 156) hK d_M_resolveExpression_11 (by decide) h (fun h => ?_) (fun h => ?_)
    · exact r_return hK d_M_resolveExpression_156 h
    · refine r_aload_n hK d_M_resolveExpression_14 rfl 0 rfl ?_
      refine r_gR hK fd_M_49 w7_81 d_M_resolveExpression_15 h (fun p3 h => ?_)
      refine r_iload_n hK d_M_resolveExpression_18 rfl 2 rfl ?_
      refine r_iaload hK ar_20 rfl d_M_resolveExpression_19 h (fun i4 h => ?_)
      refine r_iload hK d_M_resolveExpression_20 4 rfl ?_
      refine r_iadd hK d_M_resolveExpression_22 ?_
      refine r_istore (ls1 := [(5, g_i (i4 + x4)), (0, g_r 1 r0), (1, g_i x1), (2, g_i x2), (3, g_i x3), (4, g_i x4)]) hK d_M_resolveExpression_23 (by rw [hN]; decide) rfl ?_
      refine r_aload_n hK d_M_resolveExpression_25 rfl 1 rfl ?_
      refine r_gR hK fd_M_51 w7_83 d_M_resolveExpression_26 h (fun p5 h => ?_)
      refine r_iload hK d_M_resolveExpression_29 0 rfl ?_
      refine r_iaload hK ar_20 rfl d_M_resolveExpression_31 h (fun i6 h => ?_)
      refine r_iconst (v := 2) hK d_M_resolveExpression_32 (by decide) ?_
      refine r_if_icmpge (tgt := 39) hK d_M_resolveExpression_33 (by decide) h (fun h => ?_) (fun h => ?_)
      · refine r_aload_n hK d_M_resolveExpression_39 rfl 1 rfl ?_
        refine r_gR hK fd_M_53 w7_85 d_M_resolveExpression_40 h (fun p7 h => ?_)
        refine r_iload hK d_M_resolveExpression_43 0 rfl ?_
        refine r_iaload hK ar_20 rfl d_M_resolveExpression_45 h (fun i8 h => ?_)
        refine r_istore (ls1 := [(6, g_i i8), (5, g_i (i4 + x4)), (0, g_r 1 r0), (1, g_i x1), (2, g_i x2), (3, g_i x3), (4, g_i x4)]) hK d_M_resolveExpression_46 (by rw [hN]; decide) rfl ?_
        refine r_aload_n hK d_M_resolveExpression_48 rfl 2 rfl ?_
        refine r_iload_n hK d_M_resolveExpression_49 rfl 3 rfl ?_
        refine r_aload_n hK d_M_resolveExpression_50 rfl 2 rfl ?_
        refine r_gR hK fd_M_12 w7_44 d_M_resolveExpression_51 h (fun p9 h => ?_)
        refine r_iload hK d_M_resolveExpression_54 0 rfl ?_
        refine r_laload hK ar_21 rfl d_M_resolveExpression_56 h (fun j10 h => ?_)
        refine r_iload_n hK d_M_resolveExpression_57 rfl 5 rfl ?_
        refine r_Vi (avL := [g_i x1, g_l j10, g_i x3]) (st := []) hK ob_M rfl w9_27 wp_36 w9_25 w9_28 w1_6 (by decide) pl_M_slotOf (by rw [hD]; decide) (Nat.le_of_ble_eq_true rfl) rfl d_M_resolveExpression_58 (fun o9 h9 => c_M_slotOf _ _ _ _ _ _ _ o9 h9) h (fun i11 s12 h => ?_)
        refine r_istore (ls1 := [(7, g_i i11), (6, g_i i8), (5, g_i (i4 + x4)), (0, g_r 1 r0), (1, g_i x1), (2, g_i x2), (3, g_i x3), (4, g_i x4)]) hK d_M_resolveExpression_61 (by rw [hN]; decide) rfl ?_
        refine r_aload_n hK d_M_resolveExpression_63 rfl 3 rfl ?_
        refine r_gR hK fd_M_54 w7_86 d_M_resolveExpression_64 h (fun p13 h => ?_)
        refine r_iload hK d_M_resolveExpression_67 2 rfl ?_
        refine r_iload hK d_M_resolveExpression_69 0 rfl ?_
        refine r_iastore hK ar_20 rfl d_M_resolveExpression_71 h (fun s14 h => ?_)
        refine r_aload_n hK d_M_resolveExpression_72 rfl 3 rfl ?_
        refine r_gR hK fd_M_55 w7_87 d_M_resolveExpression_73 h (fun p15 h => ?_)
        refine r_iload hK d_M_resolveExpression_76 2 rfl ?_
        refine r_iload hK d_M_resolveExpression_78 0 rfl ?_
        refine r_iconst (v := (-1)) hK d_M_resolveExpression_80 (by decide) ?_
        refine r_if_icmpne (tgt := 88) hK d_M_resolveExpression_81 (by decide) h (fun h => ?_) (fun h => ?_)
        · refine r_aload_n hK d_M_resolveExpression_88 rfl 3 rfl ?_
          refine r_aload_n hK d_M_resolveExpression_89 rfl 3 rfl ?_
          refine r_gR hK fd_M_59 w7_91 d_M_resolveExpression_90 h (fun p16 h => ?_)
          refine r_iload hK d_M_resolveExpression_93 0 rfl ?_
          refine r_iconst (v := 3) hK d_M_resolveExpression_95 (by decide) ?_
          refine r_if_icmpne (tgt := 103) hK d_M_resolveExpression_96 (by decide) h (fun h => ?_) (fun h => ?_)
          · refine r_aload_n hK d_M_resolveExpression_103 rfl 3 rfl ?_
            refine r_gR hK fd_M_39 w7_71 d_M_resolveExpression_104 h (fun p17 h => ?_)
            refine r_iload_n hK d_M_resolveExpression_107 rfl 4 rfl ?_
            refine r_iaload hK ar_20 rfl d_M_resolveExpression_108 h (fun i18 h => ?_)
            refine r_iload hK d_M_resolveExpression_109 0 rfl ?_
            refine r_iadd hK d_M_resolveExpression_111 ?_
            exact r_sub [3, 4, 5, 6, 7, 2, 1] rfl (t_M_resolveExpression_112 hK hN hD ih _ _ _ _ _ _ _ _ _ _ _ _ _ h)
          · refine r_iload_n hK d_M_resolveExpression_99 rfl 6 rfl ?_
            refine r_goto (tgt := 112) hK d_M_resolveExpression_100 (by decide) ?_
            exact r_sub [3, 4, 5, 6, 7, 2, 1] rfl (t_M_resolveExpression_112 hK hN hD ih _ _ _ _ _ _ _ _ _ _ _ _ _ h)
        · refine r_iconst (v := (-1)) hK d_M_resolveExpression_84 (by decide) ?_
          refine r_goto (tgt := 126) hK d_M_resolveExpression_85 (by decide) ?_
          exact r_sub [3, 4, 5, 6, 7, 2, 1] rfl (t_M_resolveExpression_126 hK hN hD ih _ _ _ _ _ _ _ _ _ _ _ h)
      · refine r_goto (tgt := 150) hK d_M_resolveExpression_36 (by decide) ?_
        refine r_iinc (ls1 := [(4, g_i (x4 + 1)), (5, g_i (i4 + x4)), (0, g_r 1 r0), (1, g_i x1), (2, g_i x2), (3, g_i x3)]) hK d_M_resolveExpression_150 5 rfl rfl (by rw [hN]; decide) rfl ?_
        refine r_goto (tgt := 3) hK d_M_resolveExpression_153 (by decide) ?_
        exact r_sub [2, 3, 4, 5, 0] rfl (ih _ _ _ _ _ _ h)
set_option maxHeartbeats 4000000 in
set_option maxRecDepth 100000 in
theorem t_M_resolveExpression_0 {K : g_C} {o : (Unit × g_St)} (hK : g_OK K b_M_resolveExpression "FixpointEngineModel" "resolveExpression" (Option.none : Option Jvm.ClassFile.FieldType)) (hN : g_nL K = 8) (hD : g_Kd K = 2) : ∀ (r0 : Option Nat) (x1 : Int32) (x2 : Int32) (x3 : Int32) (s0 : g_St), f_M_resolveExpression r0 x1 x2 x3 s0 = some o → g_W K s0 [(0, g_r 1 r0), (1, g_i x1), (2, g_i x2), (3, g_i x3)] [] 0 (g_jV o) := by
  intro r0 x1 x2 x3 s0 h
  unfold f_M_resolveExpression at h
  refine r_iconst (v := 0) hK d_M_resolveExpression_0 (by decide) ?_
  refine r_istore (ls1 := [(4, g_i 0), (0, g_r 1 r0), (1, g_i x1), (2, g_i x2), (3, g_i x3)]) hK d_M_resolveExpression_1 (by rw [hN]; decide) rfl ?_
  exact r_sub [1, 2, 3, 4, 0] rfl (t_M_resolveExpression_3 hK hN hD _ _ _ _ _ _ _ h)
theorem c_M_resolveExpression (l : Launch) (G : g_G) (r0 : Option Nat) (x1 : Int32) (x2 : Int32) (x3 : Int32) (u : g_St) (o : (Unit × g_St)) (h : f_M_resolveExpression r0 x1 x2 x3 u = some o) : g_Con l G y_M_resolveExpression b_M_resolveExpression 8 (Option.none : Option Jvm.ClassFile.FieldType) 2 [g_r 1 r0, g_i x1, g_i x2, g_i x3] u (g_jV o) :=
  g_Con.of rfl rfl (by decide +kernel) (Nat.le_of_ble_eq_true rfl) (fun K hK hN hD hX => t_M_resolveExpression_0 hK hN hD _ _ _ _ _ h)
def f_M_resolveCondition (r0 : Option Nat) (x1 : Int32) (x2 : Int32) (x3 : Int32) (s0 : g_St) : Option (Unit × g_St) :=
  g_gR s0 4033 r0 fun p1 =>
  g_aI s0 p1 x2 fun i2 =>
  g_c (g_nn r0 (f_M_resolveExpression r0 x1 i2 x3 s0)) fun _ s4 =>
  g_gR s4 3905 r0 fun p5 =>
  g_aI s4 p5 x2 fun i6 =>
  if i6 = 0 then
    g_gR s4 4097 r0 fun p7 =>
    g_aI s4 p7 x2 fun i8 =>
    g_c (g_nn r0 (f_M_resolveExpression r0 x1 i8 x3 s4)) fun _ s10 =>
    some ((), s10)
  else
    some ((), s4)
set_option maxHeartbeats 4000000 in
set_option maxRecDepth 100000 in
theorem t_M_resolveCondition_0 {K : g_C} {o : (Unit × g_St)} (hK : g_OK K b_M_resolveCondition "FixpointEngineModel" "resolveCondition" (Option.none : Option Jvm.ClassFile.FieldType)) (hN : g_nL K = 4) (hD : g_Kd K = 3) : ∀ (r0 : Option Nat) (x1 : Int32) (x2 : Int32) (x3 : Int32) (s0 : g_St), f_M_resolveCondition r0 x1 x2 x3 s0 = some o → g_W K s0 [(0, g_r 1 r0), (1, g_i x1), (2, g_i x2), (3, g_i x3)] [] 0 (g_jV o) := by
  intro r0 x1 x2 x3 s0 h
  unfold f_M_resolveCondition at h
  refine r_aload_n hK d_M_resolveCondition_0 rfl 0 rfl ?_
  refine r_iload_n hK d_M_resolveCondition_1 rfl 1 rfl ?_
  refine r_aload_n hK d_M_resolveCondition_2 rfl 0 rfl ?_
  refine r_gR hK fd_M_63 w7_95 d_M_resolveCondition_3 h (fun p1 h => ?_)
  refine r_iload_n hK d_M_resolveCondition_6 rfl 2 rfl ?_
  refine r_iaload hK ar_20 rfl d_M_resolveCondition_7 h (fun i2 h => ?_)
  refine r_iload_n hK d_M_resolveCondition_8 rfl 3 rfl ?_
  refine r_Vv (avL := [g_i x1, g_i i2, g_i x3]) (st := []) hK ob_M rfl w9_31 wp_37 w9_29 w9_32 w1_6 (by decide) pl_M_resolveExpression (by rw [hD]; decide) (Nat.le_of_ble_eq_true rfl) rfl d_M_resolveCondition_9 (fun o9 h9 => c_M_resolveExpression _ _ _ _ _ _ _ o9 h9) h (fun s4 h => ?_)
  refine r_aload_n hK d_M_resolveCondition_12 rfl 0 rfl ?_
  refine r_gR hK fd_M_61 w7_93 d_M_resolveCondition_13 h (fun p5 h => ?_)
  refine r_iload_n hK d_M_resolveCondition_16 rfl 2 rfl ?_
  refine r_iaload hK ar_20 rfl d_M_resolveCondition_17 h (fun i6 h => ?_)
  refine r_ifne (tgt := 33) hK d_M_resolveCondition_18 (by decide) h (fun h => ?_) (fun h => ?_)
  · exact r_return hK d_M_resolveCondition_33 h
  · refine r_aload_n hK d_M_resolveCondition_21 rfl 0 rfl ?_
    refine r_iload_n hK d_M_resolveCondition_22 rfl 1 rfl ?_
    refine r_aload_n hK d_M_resolveCondition_23 rfl 0 rfl ?_
    refine r_gR hK fd_M_64 w7_96 d_M_resolveCondition_24 h (fun p7 h => ?_)
    refine r_iload_n hK d_M_resolveCondition_27 rfl 2 rfl ?_
    refine r_iaload hK ar_20 rfl d_M_resolveCondition_28 h (fun i8 h => ?_)
    refine r_iload_n hK d_M_resolveCondition_29 rfl 3 rfl ?_
    refine r_Vv (avL := [g_i x1, g_i i8, g_i x3]) (st := []) hK ob_M rfl w9_31 wp_37 w9_29 w9_32 w1_6 (by decide) pl_M_resolveExpression (by rw [hD]; decide) (Nat.le_of_ble_eq_true rfl) rfl d_M_resolveCondition_30 (fun o9 h9 => c_M_resolveExpression _ _ _ _ _ _ _ o9 h9) h (fun s10 h => ?_)
    exact r_return hK d_M_resolveCondition_33 h
theorem c_M_resolveCondition (l : Launch) (G : g_G) (r0 : Option Nat) (x1 : Int32) (x2 : Int32) (x3 : Int32) (u : g_St) (o : (Unit × g_St)) (h : f_M_resolveCondition r0 x1 x2 x3 u = some o) : g_Con l G y_M_resolveCondition b_M_resolveCondition 4 (Option.none : Option Jvm.ClassFile.FieldType) 3 [g_r 1 r0, g_i x1, g_i x2, g_i x3] u (g_jV o) :=
  g_Con.of rfl rfl (by decide +kernel) (Nat.le_of_ble_eq_true rfl) (fun K hK hN hD hX => t_M_resolveCondition_0 hK hN hD _ _ _ _ _ h)
