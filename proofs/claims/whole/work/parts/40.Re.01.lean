def f_Re_init (r0 : Option Nat) (s0 : g_St) : Option (Unit × g_St) :=
  g_nn r0 (
  g_newA s0 22 400 fun p1 s2 =>
  g_pR s2 2 r0 p1 fun s3 =>
  g_newA s3 23 401 fun p4 s5 =>
  g_pR s5 130 r0 p4 fun s6 =>
  g_newA s6 20 401 fun p7 s8 =>
  g_pR s8 194 r0 p7 fun s9 =>
  g_newA s9 21 401 fun p10 s11 =>
  g_pR s11 258 r0 p10 fun s12 =>
  some ((), s12))
set_option maxHeartbeats 4000000 in
set_option maxRecDepth 100000 in
theorem t_Re_init_0 {K : g_C} {o : (Unit × g_St)} (hK : g_OK K b_Re_init "FixpointEngine$Reader" "<init>" (Option.none : Option Jvm.ClassFile.FieldType)) (hN : g_nL K = 1) (hD : g_Kd K = 2) : ∀ (r0 : Option Nat) (s0 : g_St), f_Re_init r0 s0 = some o → g_W K s0 [(0, g_r 2 r0)] [] 0 (g_jV o) := by
  intro r0 s0 h
  unfold f_Re_init at h
  refine r_aload_n hK d_Re_init_0 rfl 0 rfl ?_
  refine r_objinit hK w1_54 (by rw [hD]; decide) (Nat.le_of_ble_eq_true rfl) d_Re_init_1 h (fun h => ?_)
  refine r_aload_n hK d_Re_init_4 rfl 0 rfl ?_
  refine r_sipush (v := 400) hK d_Re_init_5 (by decide) ?_
  refine r_newarray (index := 0) hK (ty := .char) rfl rfl (by decide) w1_89 ar_22 d_Re_init_8 h (fun p1 s2 h => ?_)
  refine r_pRF hK pd_22 rfl (Or.inr rfl) fd_Re_0 rfl w1_57 d_Re_init_10 h (fun s3 h => ?_)
  refine r_aload_n hK d_Re_init_13 rfl 0 rfl ?_
  refine r_sipush (v := 401) hK d_Re_init_14 (by decide) ?_
  refine r_anewarray hK rfl w1_55 w1_56 ar_23 d_Re_init_17 h (fun p4 s5 h => ?_)
  refine r_pRF hK pd_23 rfl (Or.inr rfl) fd_Re_2 rfl w1_60 d_Re_init_20 h (fun s6 h => ?_)
  refine r_aload_n hK d_Re_init_23 rfl 0 rfl ?_
  refine r_sipush (v := 401) hK d_Re_init_24 (by decide) ?_
  refine r_newarray (index := 0) hK (ty := .int) rfl rfl (by decide) w1_90 ar_20 d_Re_init_27 h (fun p7 s8 h => ?_)
  refine r_pRF hK pd_20 rfl (Or.inr rfl) fd_Re_3 rfl w1_61 d_Re_init_29 h (fun s9 h => ?_)
  refine r_aload_n hK d_Re_init_32 rfl 0 rfl ?_
  refine r_sipush (v := 401) hK d_Re_init_33 (by decide) ?_
  refine r_newarray (index := 0) hK (ty := .long) rfl rfl (by decide) w1_91 ar_21 d_Re_init_36 h (fun p10 s11 h => ?_)
  refine r_pRF hK pd_21 rfl (Or.inr rfl) fd_Re_4 rfl w1_62 d_Re_init_38 h (fun s12 h => ?_)
  exact r_return hK d_Re_init_41 h
theorem c_Re_init (l : Launch) (G : g_G) (r0 : Option Nat) (u : g_St) (o : (Unit × g_St)) (h : f_Re_init r0 u = some o) : g_Con l G y_Re_init b_Re_init 1 (Option.none : Option Jvm.ClassFile.FieldType) 2 [g_r 2 r0] u (g_jV o) :=
  g_Con.of rfl rfl (by decide +kernel) (Nat.le_of_ble_eq_true rfl) (fun K hK hN hD hX => t_Re_init_0 hK hN hD _ _ h)
def f_Re_take_3 : Nat → Option Nat → Int32 → Int32 → g_St → Option (Int32 × g_St)
  | 0, _, _, _, _ => none
  | n + 1, r0, x1, x2, s0 =>
    if x2 < 0 then
      g_rZ 1 (some (1, s0))
    else
      if (((x1.toUInt32 >>> (x2.toUInt32 &&& Int32.toUInt32 31)).toInt32) &&& 255) = 0 then
        f_Re_take_3 n r0 x1 (x2 + (-8)) s0
      else
        if (((x1.toUInt32 >>> (x2.toUInt32 &&& Int32.toUInt32 31)).toInt32) &&& 255) < 32 then
          g_rZ 0 (some (0, s0))
        else
          if 126 < (((x1.toUInt32 >>> (x2.toUInt32 &&& Int32.toUInt32 31)).toInt32) &&& 255) then
            g_rZ 0 (some (0, s0))
          else
            g_gI s0 66 r0 fun i1 =>
            if i1 < 400 then
              g_gR s0 2 r0 fun p2 =>
              g_gI s0 66 r0 fun i3 =>
              g_sC s0 p2 i3 (((((x1.toUInt32 >>> (x2.toUInt32 &&& Int32.toUInt32 31)).toInt32) &&& 255).toUInt32 % 65536).toInt32) fun s4 =>
              g_gI s4 66 r0 fun i5 =>
              g_pI s4 66 r0 (i5 + 1) fun s6 =>
              f_Re_take_3 n r0 x1 (x2 + (-8)) s6
            else
              g_rZ 0 (some (0, s0))
def f_Re_take (r0 : Option Nat) (x1 : Int32) (s0 : g_St) : Option (Int32 × g_St) :=
  f_Re_take_3 200000 r0 x1 24 s0
set_option maxHeartbeats 4000000 in
set_option maxRecDepth 100000 in
theorem t_Re_take_3 {K : g_C} {o : (Int32 × g_St)} (hK : g_OK K b_Re_take "FixpointEngine$Reader" "take" (Option.some Jvm.ClassFile.FieldType.boolean)) (hN : g_nL K = 4) (hD : g_Kd K = 1) : ∀ (n : Nat) (r0 : Option Nat) (x1 : Int32) (x2 : Int32) (s0 : g_St), f_Re_take_3 n r0 x1 x2 s0 = some o → g_W K s0 [(0, g_r 2 r0), (1, g_i x1), (2, g_i x2)] [] 3 (g_jI o) := by
  intro n
  induction n with
  | zero =>
    intro r0 x1 x2 s0 h
    cases h
  | succ n ih =>
    intro r0 x1 x2 s0 h
    unfold f_Re_take_3 at h
    refine r_iload_n hK d_Re_take_3 rfl 2 rfl ?_
    refine r_iflt (tgt := 73) hK d_Re_take_4 (by decide) h (fun h => ?_) (fun h => ?_)
    · refine r_iconst (v := 1) hK d_Re_take_73 (by decide) ?_
      exact r_zreturn hK d_Re_take_74 h
    · refine r_iload_n hK d_Re_take_7 rfl 1 rfl ?_
      refine r_iload_n hK d_Re_take_8 rfl 2 rfl ?_
      refine r_iushr hK d_Re_take_9 ?_
      refine r_sipush (v := 255) hK d_Re_take_10 (by decide) ?_
      refine r_iand hK d_Re_take_13 ?_
      refine r_istore_n (ls1 := [(3, g_i (((x1.toUInt32 >>> (x2.toUInt32 &&& Int32.toUInt32 31)).toInt32) &&& 255)), (0, g_r 2 r0), (1, g_i x1), (2, g_i x2)]) hK d_Re_take_14 rfl (by rw [hN]; decide) rfl ?_
      refine r_iload_n hK d_Re_take_15 rfl 0 rfl ?_
      refine r_ifne (tgt := 22) hK d_Re_take_16 (by decide) h (fun h => ?_) (fun h => ?_)
      · refine r_iload_n hK d_Re_take_22 rfl 0 rfl ?_
        refine r_bipush (v := 32) hK d_Re_take_23 (by decide) ?_
        refine r_if_icmplt (tgt := 44) hK d_Re_take_25 (by decide) h (fun h => ?_) (fun h => ?_)
        · refine r_iconst (v := 0) hK d_Re_take_44 (by decide) ?_
          exact r_zreturn hK d_Re_take_45 h
        · refine r_iload_n hK d_Re_take_28 rfl 0 rfl ?_
          refine r_bipush (v := 126) hK d_Re_take_29 (by decide) ?_
          refine r_if_icmpgt (tgt := 44) hK d_Re_take_31 (by decide) h (fun h => ?_) (fun h => ?_)
          · refine r_iconst (v := 0) hK d_Re_take_44 (by decide) ?_
            exact r_zreturn hK d_Re_take_45 h
          · refine r_aload_n hK d_Re_take_34 rfl 1 rfl ?_
            refine r_gI hK fd_Re_1 w1_58 d_Re_take_35 h (fun i1 h => ?_)
            refine r_sipush (v := 400) hK d_Re_take_38 (by decide) ?_
            refine r_if_icmplt (tgt := 46) hK d_Re_take_41 (by decide) h (fun h => ?_) (fun h => ?_)
            · refine r_aload_n hK d_Re_take_46 rfl 1 rfl ?_
              refine r_gR hK fd_Re_0 w1_57 d_Re_take_47 h (fun p2 h => ?_)
              refine r_aload_n hK d_Re_take_50 rfl 1 rfl ?_
              refine r_gI hK fd_Re_1 w1_58 d_Re_take_51 h (fun i3 h => ?_)
              refine r_iload_n hK d_Re_take_54 rfl 0 rfl ?_
              refine r_i2c hK d_Re_take_55 ?_
              refine r_castore hK ar_22 rfl d_Re_take_56 h (fun s4 h => ?_)
              refine r_aload_n hK d_Re_take_57 rfl 1 rfl ?_
              refine r_dup hK d_Re_take_58 rfl ?_
              refine r_gI hK fd_Re_1 w1_58 d_Re_take_59 h (fun i5 h => ?_)
              refine r_iconst (v := 1) hK d_Re_take_62 (by decide) ?_
              refine r_iadd hK d_Re_take_63 ?_
              refine r_pI hK fd_Re_1 rfl w1_58 d_Re_take_64 h (fun s6 h => ?_)
              refine r_iinc (ls1 := [(2, g_i (x2 + (-8))), (3, g_i (((x1.toUInt32 >>> (x2.toUInt32 &&& Int32.toUInt32 31)).toInt32) &&& 255)), (0, g_r 2 r0), (1, g_i x1)]) hK d_Re_take_67 3 rfl rfl (by rw [hN]; decide) rfl ?_
              refine r_goto (tgt := 3) hK d_Re_take_70 (by decide) ?_
              exact r_sub [2, 3, 0] rfl (ih _ _ _ _ h)
            · refine r_iconst (v := 0) hK d_Re_take_44 (by decide) ?_
              exact r_zreturn hK d_Re_take_45 h
      · refine r_goto (tgt := 67) hK d_Re_take_19 (by decide) ?_
        refine r_iinc (ls1 := [(2, g_i (x2 + (-8))), (3, g_i (((x1.toUInt32 >>> (x2.toUInt32 &&& Int32.toUInt32 31)).toInt32) &&& 255)), (0, g_r 2 r0), (1, g_i x1)]) hK d_Re_take_67 3 rfl rfl (by rw [hN]; decide) rfl ?_
        refine r_goto (tgt := 3) hK d_Re_take_70 (by decide) ?_
        exact r_sub [2, 3, 0] rfl (ih _ _ _ _ h)
set_option maxHeartbeats 4000000 in
set_option maxRecDepth 100000 in
theorem t_Re_take_0 {K : g_C} {o : (Int32 × g_St)} (hK : g_OK K b_Re_take "FixpointEngine$Reader" "take" (Option.some Jvm.ClassFile.FieldType.boolean)) (hN : g_nL K = 4) (hD : g_Kd K = 1) : ∀ (r0 : Option Nat) (x1 : Int32) (s0 : g_St), f_Re_take r0 x1 s0 = some o → g_W K s0 [(0, g_r 2 r0), (1, g_i x1)] [] 0 (g_jI o) := by
  intro r0 x1 s0 h
  unfold f_Re_take at h
  refine r_bipush (v := 24) hK d_Re_take_0 (by decide) ?_
  refine r_istore_n (ls1 := [(2, g_i 24), (0, g_r 2 r0), (1, g_i x1)]) hK d_Re_take_2 rfl (by rw [hN]; decide) rfl ?_
  exact r_sub [1, 2, 0] rfl (t_Re_take_3 hK hN hD _ _ _ _ _ h)
theorem c_Re_take (l : Launch) (G : g_G) (r0 : Option Nat) (x1 : Int32) (u : g_St) (o : (Int32 × g_St)) (h : f_Re_take r0 x1 u = some o) : g_Con l G y_Re_take b_Re_take 4 (Option.some Jvm.ClassFile.FieldType.boolean) 1 [g_r 2 r0, g_i x1] u (g_jI o) :=
  g_Con.of rfl rfl (by decide +kernel) (Nat.le_of_ble_eq_true rfl) (fun K hK hN hD hX => t_Re_take_0 hK hN hD _ _ _ h)
def f_Re_isSmall (x0 : Int32) (s0 : g_St) : Option (Int32 × g_St) :=
  if x0 < 97 then
    g_rZ 0 (some (0, s0))
  else
    if 122 < x0 then
      g_rZ 0 (some (0, s0))
    else
      g_rZ 1 (some (1, s0))
set_option maxHeartbeats 4000000 in
set_option maxRecDepth 100000 in
theorem t_Re_isSmall_0 {K : g_C} {o : (Int32 × g_St)} (hK : g_OK K b_Re_isSmall "FixpointEngine$Reader" "isSmall" (Option.some Jvm.ClassFile.FieldType.boolean)) (hN : g_nL K = 1) (hD : g_Kd K = 1) : ∀ (x0 : Int32) (s0 : g_St), f_Re_isSmall x0 s0 = some o → g_W K s0 [(0, g_i x0)] [] 0 (g_jI o) := by
  intro x0 s0 h
  unfold f_Re_isSmall at h
  refine r_iload_n hK d_Re_isSmall_0 rfl 0 rfl ?_
  refine r_bipush (v := 97) hK d_Re_isSmall_1 (by decide) ?_
  refine r_if_icmplt (tgt := 16) hK d_Re_isSmall_3 (by decide) h (fun h => ?_) (fun h => ?_)
  · refine r_iconst (v := 0) hK d_Re_isSmall_16 (by decide) ?_
    exact r_zreturn hK d_Re_isSmall_17 h
  · refine r_iload_n hK d_Re_isSmall_6 rfl 0 rfl ?_
    refine r_bipush (v := 122) hK d_Re_isSmall_7 (by decide) ?_
    refine r_if_icmpgt (tgt := 16) hK d_Re_isSmall_9 (by decide) h (fun h => ?_) (fun h => ?_)
    · refine r_iconst (v := 0) hK d_Re_isSmall_16 (by decide) ?_
      exact r_zreturn hK d_Re_isSmall_17 h
    · refine r_iconst (v := 1) hK d_Re_isSmall_12 (by decide) ?_
      refine r_goto (tgt := 17) hK d_Re_isSmall_13 (by decide) ?_
      exact r_zreturn hK d_Re_isSmall_17 h
theorem c_Re_isSmall (l : Launch) (G : g_G) (x0 : Int32) (u : g_St) (o : (Int32 × g_St)) (h : f_Re_isSmall x0 u = some o) : g_Con l G y_Re_isSmall b_Re_isSmall 1 (Option.some Jvm.ClassFile.FieldType.boolean) 1 [g_i x0] u (g_jI o) :=
  g_Con.of rfl rfl (by decide +kernel) (Nat.le_of_ble_eq_true rfl) (fun K hK hN hD hX => t_Re_isSmall_0 hK hN hD _ _ h)
def f_Re_isDigit (x0 : Int32) (s0 : g_St) : Option (Int32 × g_St) :=
  if x0 < 48 then
    g_rZ 0 (some (0, s0))
  else
    if 57 < x0 then
      g_rZ 0 (some (0, s0))
    else
      g_rZ 1 (some (1, s0))
set_option maxHeartbeats 4000000 in
set_option maxRecDepth 100000 in
theorem t_Re_isDigit_0 {K : g_C} {o : (Int32 × g_St)} (hK : g_OK K b_Re_isDigit "FixpointEngine$Reader" "isDigit" (Option.some Jvm.ClassFile.FieldType.boolean)) (hN : g_nL K = 1) (hD : g_Kd K = 1) : ∀ (x0 : Int32) (s0 : g_St), f_Re_isDigit x0 s0 = some o → g_W K s0 [(0, g_i x0)] [] 0 (g_jI o) := by
  intro x0 s0 h
  unfold f_Re_isDigit at h
  refine r_iload_n hK d_Re_isDigit_0 rfl 0 rfl ?_
  refine r_bipush (v := 48) hK d_Re_isDigit_1 (by decide) ?_
  refine r_if_icmplt (tgt := 16) hK d_Re_isDigit_3 (by decide) h (fun h => ?_) (fun h => ?_)
  · refine r_iconst (v := 0) hK d_Re_isDigit_16 (by decide) ?_
    exact r_zreturn hK d_Re_isDigit_17 h
  · refine r_iload_n hK d_Re_isDigit_6 rfl 0 rfl ?_
    refine r_bipush (v := 57) hK d_Re_isDigit_7 (by decide) ?_
    refine r_if_icmpgt (tgt := 16) hK d_Re_isDigit_9 (by decide) h (fun h => ?_) (fun h => ?_)
    · refine r_iconst (v := 0) hK d_Re_isDigit_16 (by decide) ?_
      exact r_zreturn hK d_Re_isDigit_17 h
    · refine r_iconst (v := 1) hK d_Re_isDigit_12 (by decide) ?_
      refine r_goto (tgt := 17) hK d_Re_isDigit_13 (by decide) ?_
      exact r_zreturn hK d_Re_isDigit_17 h
theorem c_Re_isDigit (l : Launch) (G : g_G) (x0 : Int32) (u : g_St) (o : (Int32 × g_St)) (h : f_Re_isDigit x0 u = some o) : g_Con l G y_Re_isDigit b_Re_isDigit 1 (Option.some Jvm.ClassFile.FieldType.boolean) 1 [g_i x0] u (g_jI o) :=
  g_Con.of rfl rfl (by decide +kernel) (Nat.le_of_ble_eq_true rfl) (fun K hK hN hD hX => t_Re_isDigit_0 hK hN hD _ _ h)
def f_Re_isCapital (x0 : Int32) (s0 : g_St) : Option (Int32 × g_St) :=
  if x0 < 65 then
    g_rZ 0 (some (0, s0))
  else
    if 90 < x0 then
      g_rZ 0 (some (0, s0))
    else
      g_rZ 1 (some (1, s0))
set_option maxHeartbeats 4000000 in
set_option maxRecDepth 100000 in
theorem t_Re_isCapital_0 {K : g_C} {o : (Int32 × g_St)} (hK : g_OK K b_Re_isCapital "FixpointEngine$Reader" "isCapital" (Option.some Jvm.ClassFile.FieldType.boolean)) (hN : g_nL K = 1) (hD : g_Kd K = 1) : ∀ (x0 : Int32) (s0 : g_St), f_Re_isCapital x0 s0 = some o → g_W K s0 [(0, g_i x0)] [] 0 (g_jI o) := by
  intro x0 s0 h
  unfold f_Re_isCapital at h
  refine r_iload_n hK d_Re_isCapital_0 rfl 0 rfl ?_
  refine r_bipush (v := 65) hK d_Re_isCapital_1 (by decide) ?_
  refine r_if_icmplt (tgt := 16) hK d_Re_isCapital_3 (by decide) h (fun h => ?_) (fun h => ?_)
  · refine r_iconst (v := 0) hK d_Re_isCapital_16 (by decide) ?_
    exact r_zreturn hK d_Re_isCapital_17 h
  · refine r_iload_n hK d_Re_isCapital_6 rfl 0 rfl ?_
    refine r_bipush (v := 90) hK d_Re_isCapital_7 (by decide) ?_
    refine r_if_icmpgt (tgt := 16) hK d_Re_isCapital_9 (by decide) h (fun h => ?_) (fun h => ?_)
    · refine r_iconst (v := 0) hK d_Re_isCapital_16 (by decide) ?_
      exact r_zreturn hK d_Re_isCapital_17 h
    · refine r_iconst (v := 1) hK d_Re_isCapital_12 (by decide) ?_
      refine r_goto (tgt := 17) hK d_Re_isCapital_13 (by decide) ?_
      exact r_zreturn hK d_Re_isCapital_17 h
theorem c_Re_isCapital (l : Launch) (G : g_G) (x0 : Int32) (u : g_St) (o : (Int32 × g_St)) (h : f_Re_isCapital x0 u = some o) : g_Con l G y_Re_isCapital b_Re_isCapital 1 (Option.some Jvm.ClassFile.FieldType.boolean) 1 [g_i x0] u (g_jI o) :=
  g_Con.of rfl rfl (by decide +kernel) (Nat.le_of_ble_eq_true rfl) (fun K hK hN hD hX => t_Re_isCapital_0 hK hN hD _ _ h)
def f_Re_belongs (x0 : Int32) (x1 : Int32) (s0 : g_St) : Option (Int32 × g_St) :=
  g_c (f_Re_isSmall x0 s0) fun i1 s2 =>
  if i1 = 0 then
    g_c (f_Re_isDigit x0 s2) fun i3 s4 =>
    if i3 = 0 then
      g_c (f_Re_isCapital x0 s4) fun i5 s6 =>
      if i5 = 0 then
        g_rZ 0 (some (0, s6))
      else
        g_c (f_Re_isCapital x1 s6) fun i7 s8 =>
        if i7 = 0 then
          g_rZ 0 (some (0, s8))
        else
          g_rZ 1 (some (1, s8))
    else
      g_c (f_Re_isDigit x1 s4) fun i9 s10 =>
      g_rZ i9 (some (i9, s10))
  else
    g_c (f_Re_isSmall x1 s2) fun i11 s12 =>
    if i11 = 0 then
      g_c (f_Re_isDigit x1 s12) fun i13 s14 =>
      if i13 = 0 then
        g_rZ 0 (some (0, s14))
      else
        g_rZ 1 (some (1, s14))
    else
      g_rZ 1 (some (1, s12))
set_option maxHeartbeats 4000000 in
set_option maxRecDepth 100000 in
theorem t_Re_belongs_0 {K : g_C} {o : (Int32 × g_St)} (hK : g_OK K b_Re_belongs "FixpointEngine$Reader" "belongs" (Option.some Jvm.ClassFile.FieldType.boolean)) (hN : g_nL K = 2) (hD : g_Kd K = 2) : ∀ (x0 : Int32) (x1 : Int32) (s0 : g_St), f_Re_belongs x0 x1 s0 = some o → g_W K s0 [(0, g_i x0), (1, g_i x1)] [] 0 (g_jI o) := by
  intro x0 x1 s0 h
  unfold f_Re_belongs at h
  refine r_iload_n hK d_Re_belongs_0 rfl 0 rfl ?_
  refine r_Si (avL := [g_i x0]) (st := []) hK w2_146 w2_145 w2_147 w1_2 (by decide) pl_Re_isSmall (by rw [hD]; decide) (Nat.le_of_ble_eq_true rfl) rfl d_Re_belongs_1 (fun o9 h9 => c_Re_isSmall _ _ _ _ o9 h9) h (fun i1 s2 h => ?_)
  refine r_ifeq (tgt := 27) hK d_Re_belongs_4 (by decide) h (fun h => ?_) (fun h => ?_)
  · refine r_iload_n hK d_Re_belongs_27 rfl 0 rfl ?_
    refine r_Si (avL := [g_i x0]) (st := []) hK w2_149 w2_148 w2_150 w1_2 (by decide) pl_Re_isDigit (by rw [hD]; decide) (Nat.le_of_ble_eq_true rfl) rfl d_Re_belongs_28 (fun o9 h9 => c_Re_isDigit _ _ _ _ o9 h9) h (fun i3 s4 h => ?_)
    refine r_ifeq (tgt := 39) hK d_Re_belongs_31 (by decide) h (fun h => ?_) (fun h => ?_)
    · refine r_iload_n hK d_Re_belongs_39 rfl 0 rfl ?_
      refine r_Si (avL := [g_i x0]) (st := []) hK w2_152 w2_151 w2_153 w1_2 (by decide) pl_Re_isCapital (by rw [hD]; decide) (Nat.le_of_ble_eq_true rfl) rfl d_Re_belongs_40 (fun o9 h9 => c_Re_isCapital _ _ _ _ o9 h9) h (fun i5 s6 h => ?_)
      refine r_ifeq (tgt := 57) hK d_Re_belongs_43 (by decide) h (fun h => ?_) (fun h => ?_)
      · refine r_iconst (v := 0) hK d_Re_belongs_57 (by decide) ?_
        exact r_zreturn hK d_Re_belongs_58 h
      · refine r_iload_n hK d_Re_belongs_46 rfl 1 rfl ?_
        refine r_Si (avL := [g_i x1]) (st := []) hK w2_152 w2_151 w2_153 w1_2 (by decide) pl_Re_isCapital (by rw [hD]; decide) (Nat.le_of_ble_eq_true rfl) rfl d_Re_belongs_47 (fun o9 h9 => c_Re_isCapital _ _ _ _ o9 h9) h (fun i7 s8 h => ?_)
        refine r_ifeq (tgt := 57) hK d_Re_belongs_50 (by decide) h (fun h => ?_) (fun h => ?_)
        · refine r_iconst (v := 0) hK d_Re_belongs_57 (by decide) ?_
          exact r_zreturn hK d_Re_belongs_58 h
        · refine r_iconst (v := 1) hK d_Re_belongs_53 (by decide) ?_
          refine r_goto (tgt := 58) hK d_Re_belongs_54 (by decide) ?_
          exact r_zreturn hK d_Re_belongs_58 h
    · refine r_iload_n hK d_Re_belongs_34 rfl 1 rfl ?_
      refine r_Si (avL := [g_i x1]) (st := []) hK w2_149 w2_148 w2_150 w1_2 (by decide) pl_Re_isDigit (by rw [hD]; decide) (Nat.le_of_ble_eq_true rfl) rfl d_Re_belongs_35 (fun o9 h9 => c_Re_isDigit _ _ _ _ o9 h9) h (fun i9 s10 h => ?_)
      exact r_zreturn hK d_Re_belongs_38 h
  · refine r_iload_n hK d_Re_belongs_7 rfl 1 rfl ?_
    refine r_Si (avL := [g_i x1]) (st := []) hK w2_146 w2_145 w2_147 w1_2 (by decide) pl_Re_isSmall (by rw [hD]; decide) (Nat.le_of_ble_eq_true rfl) rfl d_Re_belongs_8 (fun o9 h9 => c_Re_isSmall _ _ _ _ o9 h9) h (fun i11 s12 h => ?_)
    refine r_ifne (tgt := 21) hK d_Re_belongs_11 (by decide) h (fun h => ?_) (fun h => ?_)
    · refine r_iconst (v := 1) hK d_Re_belongs_21 (by decide) ?_
      refine r_goto (tgt := 26) hK d_Re_belongs_22 (by decide) ?_
      exact r_zreturn hK d_Re_belongs_26 h
    · refine r_iload_n hK d_Re_belongs_14 rfl 1 rfl ?_
      refine r_Si (avL := [g_i x1]) (st := []) hK w2_149 w2_148 w2_150 w1_2 (by decide) pl_Re_isDigit (by rw [hD]; decide) (Nat.le_of_ble_eq_true rfl) rfl d_Re_belongs_15 (fun o9 h9 => c_Re_isDigit _ _ _ _ o9 h9) h (fun i13 s14 h => ?_)
      refine r_ifeq (tgt := 25) hK d_Re_belongs_18 (by decide) h (fun h => ?_) (fun h => ?_)
      · refine r_iconst (v := 0) hK d_Re_belongs_25 (by decide) ?_
        exact r_zreturn hK d_Re_belongs_26 h
      · refine r_iconst (v := 1) hK d_Re_belongs_21 (by decide) ?_
        refine r_goto (tgt := 26) hK d_Re_belongs_22 (by decide) ?_
        exact r_zreturn hK d_Re_belongs_26 h
theorem c_Re_belongs (l : Launch) (G : g_G) (x0 : Int32) (x1 : Int32) (u : g_St) (o : (Int32 × g_St)) (h : f_Re_belongs x0 x1 u = some o) : g_Con l G y_Re_belongs b_Re_belongs 2 (Option.some Jvm.ClassFile.FieldType.boolean) 2 [g_i x0, g_i x1] u (g_jI o) :=
  g_Con.of rfl rfl (by decide +kernel) (Nat.le_of_ble_eq_true rfl) (fun K hK hN hD hX => t_Re_belongs_0 hK hN hD _ _ _ h)
def f_Re_endOf_44 : Nat → Option Nat → Int32 → Int32 → g_St → Option (Int32 × g_St)
  | 0, _, _, _, _ => none
  | n + 1, r0, x2, x3, s0 =>
    g_gI s0 66 r0 fun i1 =>
    if i1 ≤ x3 then
      some (x3, s0)
    else
      g_gR s0 2 r0 fun p2 =>
      g_aI s0 p2 x3 fun i3 =>
      g_c (f_Re_belongs x2 i3 s0) fun i4 s5 =>
      if i4 = 0 then
        some (x3, s5)
      else
        f_Re_endOf_44 n r0 x2 (x3 + 1) s5
def f_Re_endOf (r0 : Option Nat) (x1 : Int32) (s0 : g_St) : Option (Int32 × g_St) :=
  g_gR s0 2 r0 fun p1 =>
  g_aI s0 p1 x1 fun i2 =>
  if i2 = 60 then
    g_gI s0 66 r0 fun i3 =>
    if i3 ≤ (x1 + 1) then
      f_Re_endOf_44 200000 r0 i2 (x1 + 1) s0
    else
      g_gR s0 2 r0 fun p4 =>
      g_aI s0 p4 (x1 + 1) fun i5 =>
      if i5 = 62 then
        some (x1 + 2, s0)
      else
        f_Re_endOf_44 200000 r0 i2 (x1 + 1) s0
  else
    f_Re_endOf_44 200000 r0 i2 (x1 + 1) s0
set_option maxHeartbeats 4000000 in
set_option maxRecDepth 100000 in
theorem t_Re_endOf_44 {K : g_C} {o : (Int32 × g_St)} (hK : g_OK K b_Re_endOf "FixpointEngine$Reader" "endOf" (Option.some Jvm.ClassFile.FieldType.int)) (hN : g_nL K = 4) (hD : g_Kd K = 3) : ∀ (n : Nat) (r0 : Option Nat) (x2 : Int32) (x3 : Int32) (s0 : g_St), f_Re_endOf_44 n r0 x2 x3 s0 = some o → g_W K s0 [(0, g_r 2 r0), (2, g_i x2), (3, g_i x3)] [] 44 (g_jI o) := by
  intro n
  induction n with
  | zero =>
    intro r0 x2 x3 s0 h
    cases h
  | succ n ih =>
    intro r0 x2 x3 s0 h
    unfold f_Re_endOf_44 at h
    refine r_iload_n hK d_Re_endOf_44 rfl 2 rfl ?_
    refine r_aload_n hK d_Re_endOf_45 rfl 0 rfl ?_
    refine r_gI hK fd_Re_1 w1_58 d_Re_endOf_46 h (fun i1 h => ?_)
    refine r_if_icmpge (tgt := 71) hK d_Re_endOf_49 (by decide) h (fun h => ?_) (fun h => ?_)
    · refine r_iload_n hK d_Re_endOf_71 rfl 2 rfl ?_
      exact r_ireturn hK d_Re_endOf_72 h
    · refine r_iload_n hK d_Re_endOf_52 rfl 1 rfl ?_
      refine r_aload_n hK d_Re_endOf_53 rfl 0 rfl ?_
      refine r_gR hK fd_Re_0 w1_57 d_Re_endOf_54 h (fun p2 h => ?_)
      refine r_iload_n hK d_Re_endOf_57 rfl 2 rfl ?_
      refine r_caload hK ar_22 rfl d_Re_endOf_58 h (fun i3 h => ?_)
      refine r_Si (avL := [g_i x2, g_i i3]) (st := []) hK w2_143 w2_142 w2_144 w1_2 (by decide) pl_Re_belongs (by rw [hD]; decide) (Nat.le_of_ble_eq_true rfl) rfl d_Re_endOf_59 (fun o9 h9 => c_Re_belongs _ _ _ _ _ o9 h9) h (fun i4 s5 h => ?_)
      refine r_ifeq (tgt := 71) hK d_Re_endOf_62 (by decide) h (fun h => ?_) (fun h => ?_)
      · refine r_iload_n hK d_Re_endOf_71 rfl 2 rfl ?_
        exact r_ireturn hK d_Re_endOf_72 h
      · refine r_iinc (ls1 := [(3, g_i (x3 + 1)), (0, g_r 2 r0), (2, g_i x2)]) hK d_Re_endOf_65 2 rfl rfl (by rw [hN]; decide) rfl ?_
        refine r_goto (tgt := 44) hK d_Re_endOf_68 (by decide) ?_
        exact r_sub [1, 2, 0] rfl (ih _ _ _ _ h)
set_option maxHeartbeats 4000000 in
set_option maxRecDepth 100000 in
theorem t_Re_endOf_0 {K : g_C} {o : (Int32 × g_St)} (hK : g_OK K b_Re_endOf "FixpointEngine$Reader" "endOf" (Option.some Jvm.ClassFile.FieldType.int)) (hN : g_nL K = 4) (hD : g_Kd K = 3) : ∀ (r0 : Option Nat) (x1 : Int32) (s0 : g_St), f_Re_endOf r0 x1 s0 = some o → g_W K s0 [(0, g_r 2 r0), (1, g_i x1)] [] 0 (g_jI o) := by
  intro r0 x1 s0 h
  unfold f_Re_endOf at h
  refine r_aload_n hK d_Re_endOf_0 rfl 0 rfl ?_
  refine r_gR hK fd_Re_0 w1_57 d_Re_endOf_1 h (fun p1 h => ?_)
  refine r_iload_n hK d_Re_endOf_4 rfl 1 rfl ?_
  refine r_caload hK ar_22 rfl d_Re_endOf_5 h (fun i2 h => ?_)
  refine r_istore_n (ls1 := [(2, g_i i2), (0, g_r 2 r0), (1, g_i x1)]) hK d_Re_endOf_6 rfl (by rw [hN]; decide) rfl ?_
  refine r_iload_n hK d_Re_endOf_7 rfl 0 rfl ?_
  refine r_bipush (v := 60) hK d_Re_endOf_8 (by decide) ?_
  refine r_if_icmpne (tgt := 40) hK d_Re_endOf_10 (by decide) h (fun h => ?_) (fun h => ?_)
  · refine r_iload_n hK d_Re_endOf_40 rfl 2 rfl ?_
    refine r_iconst (v := 1) hK d_Re_endOf_41 (by decide) ?_
    refine r_iadd hK d_Re_endOf_42 ?_
    refine r_istore_n (ls1 := [(3, g_i (x1 + 1)), (2, g_i i2), (0, g_r 2 r0), (1, g_i x1)]) hK d_Re_endOf_43 rfl (by rw [hN]; decide) rfl ?_
    exact r_sub [2, 1, 0] rfl (t_Re_endOf_44 hK hN hD _ _ _ _ _ h)
  · refine r_iload_n hK d_Re_endOf_13 rfl 2 rfl ?_
    refine r_iconst (v := 1) hK d_Re_endOf_14 (by decide) ?_
    refine r_iadd hK d_Re_endOf_15 ?_
    refine r_aload_n hK d_Re_endOf_16 rfl 1 rfl ?_
    refine r_gI hK fd_Re_1 w1_58 d_Re_endOf_17 h (fun i3 h => ?_)
    refine r_if_icmpge (tgt := 40) hK d_Re_endOf_20 (by decide) h (fun h => ?_) (fun h => ?_)
    · refine r_iload_n hK d_Re_endOf_40 rfl 2 rfl ?_
      refine r_iconst (v := 1) hK d_Re_endOf_41 (by decide) ?_
      refine r_iadd hK d_Re_endOf_42 ?_
      refine r_istore_n (ls1 := [(3, g_i (x1 + 1)), (2, g_i i2), (0, g_r 2 r0), (1, g_i x1)]) hK d_Re_endOf_43 rfl (by rw [hN]; decide) rfl ?_
      exact r_sub [2, 1, 0] rfl (t_Re_endOf_44 hK hN hD _ _ _ _ _ h)
    · refine r_aload_n hK d_Re_endOf_23 rfl 1 rfl ?_
      refine r_gR hK fd_Re_0 w1_57 d_Re_endOf_24 h (fun p4 h => ?_)
      refine r_iload_n hK d_Re_endOf_27 rfl 2 rfl ?_
      refine r_iconst (v := 1) hK d_Re_endOf_28 (by decide) ?_
      refine r_iadd hK d_Re_endOf_29 ?_
      refine r_caload hK ar_22 rfl d_Re_endOf_30 h (fun i5 h => ?_)
      refine r_bipush (v := 62) hK d_Re_endOf_31 (by decide) ?_
      refine r_if_icmpne (tgt := 40) hK d_Re_endOf_33 (by decide) h (fun h => ?_) (fun h => ?_)
      · refine r_iload_n hK d_Re_endOf_40 rfl 2 rfl ?_
        refine r_iconst (v := 1) hK d_Re_endOf_41 (by decide) ?_
        refine r_iadd hK d_Re_endOf_42 ?_
        refine r_istore_n (ls1 := [(3, g_i (x1 + 1)), (2, g_i i2), (0, g_r 2 r0), (1, g_i x1)]) hK d_Re_endOf_43 rfl (by rw [hN]; decide) rfl ?_
        exact r_sub [2, 1, 0] rfl (t_Re_endOf_44 hK hN hD _ _ _ _ _ h)
      · refine r_iload_n hK d_Re_endOf_36 rfl 2 rfl ?_
        refine r_iconst (v := 2) hK d_Re_endOf_37 (by decide) ?_
        refine r_iadd hK d_Re_endOf_38 ?_
        exact r_ireturn hK d_Re_endOf_39 h
theorem c_Re_endOf (l : Launch) (G : g_G) (r0 : Option Nat) (x1 : Int32) (u : g_St) (o : (Int32 × g_St)) (h : f_Re_endOf r0 x1 u = some o) : g_Con l G y_Re_endOf b_Re_endOf 4 (Option.some Jvm.ClassFile.FieldType.int) 3 [g_r 2 r0, g_i x1] u (g_jI o) :=
  g_Con.of rfl rfl (by decide +kernel) (Nat.le_of_ble_eq_true rfl) (fun K hK hN hD hX => t_Re_endOf_0 hK hN hD _ _ _ h)
def f_Re_isWritten_15 : Nat → Option Nat → Option Nat → Int32 → Int32 → g_St → Option (Int32 × g_St)
  | 0, _, _, _, _, _ => none
  | n + 1, r0, r1, x2, x4, s0 =>
    g_c (g_str r1 (f_Str_length r1 s0)) fun i1 s2 =>
    if i1 ≤ x4 then
      g_rZ 1 (some (1, s2))
    else
      g_c (g_str r1 (f_Str_charAt r1 x4 s2)) fun i3 s4 =>
      g_gR s4 2 r0 fun p5 =>
      g_aI s4 p5 (x2 + x4) fun i6 =>
      if i3 = i6 then
        f_Re_isWritten_15 n r0 r1 x2 (x4 + 1) s4
      else
        g_rZ 0 (some (0, s4))
def f_Re_isWritten (r0 : Option Nat) (r1 : Option Nat) (x2 : Int32) (x3 : Int32) (s0 : g_St) : Option (Int32 × g_St) :=
  g_c (g_str r1 (f_Str_length r1 s0)) fun i1 s2 =>
  if i1 = (x3 - x2) then
    f_Re_isWritten_15 200000 r0 r1 x2 0 s2
  else
    g_rZ 0 (some (0, s2))
set_option maxHeartbeats 4000000 in
set_option maxRecDepth 100000 in
theorem t_Re_isWritten_15 {K : g_C} {o : (Int32 × g_St)} (hK : g_OK K b_Re_isWritten "FixpointEngine$Reader" "isWritten" (Option.some Jvm.ClassFile.FieldType.boolean)) (hN : g_nL K = 5) (hD : g_Kd K = 11) : ∀ (n : Nat) (r0 : Option Nat) (r1 : Option Nat) (x2 : Int32) (x4 : Int32) (s0 : g_St), f_Re_isWritten_15 n r0 r1 x2 x4 s0 = some o → g_W K s0 [(0, g_r 2 r0), (1, g_r 14 r1), (2, g_i x2), (4, g_i x4)] [] 15 (g_jI o) := by
  intro n
  induction n with
  | zero =>
    intro r0 r1 x2 x4 s0 h
    cases h
  | succ n ih =>
    intro r0 r1 x2 x4 s0 h
    unfold f_Re_isWritten_15 at h
    refine r_iload hK d_Re_isWritten_15 3 rfl ?_
    refine r_aload_n hK d_Re_isWritten_17 rfl 1 rfl ?_
    refine r_VSi (avL := []) (st := [g_i x4]) hK w2_171 w2_172 w2_170 w2_173 w1_14 (by decide) pl_Str_length (by rw [hD]; decide) (Nat.le_of_ble_eq_true rfl) rfl d_Re_isWritten_18 (fun o9 h9 => c_Str_length _ _ _ _ o9 h9) h (fun i1 s2 h => ?_)
    refine r_if_icmpge (tgt := 50) hK d_Re_isWritten_21 (by decide) h (fun h => ?_) (fun h => ?_)
    · refine r_iconst (v := 1) hK d_Re_isWritten_50 (by decide) ?_
      exact r_zreturn hK d_Re_isWritten_51 h
    · refine r_aload_n hK d_Re_isWritten_24 rfl 1 rfl ?_
      refine r_iload hK d_Re_isWritten_25 3 rfl ?_
      refine r_VSi (avL := [g_i x4]) (st := []) hK w2_181 w2_182 w2_180 w2_183 w1_14 (by decide) pl_Str_charAt (by rw [hD]; decide) (Nat.le_of_ble_eq_true rfl) rfl d_Re_isWritten_27 (fun o9 h9 => c_Str_charAt _ _ _ _ _ o9 h9) h (fun i3 s4 h => ?_)
      refine r_aload_n hK d_Re_isWritten_30 rfl 0 rfl ?_
      refine r_gR hK fd_Re_0 w1_57 d_Re_isWritten_31 h (fun p5 h => ?_)
      refine r_iload_n hK d_Re_isWritten_34 rfl 2 rfl ?_
      refine r_iload hK d_Re_isWritten_35 3 rfl ?_
      refine r_iadd hK d_Re_isWritten_37 ?_
      refine r_caload hK ar_22 rfl d_Re_isWritten_38 h (fun i6 h => ?_)
      refine r_if_icmpeq (tgt := 44) hK d_Re_isWritten_39 (by decide) h (fun h => ?_) (fun h => ?_)
      · refine r_iinc (ls1 := [(4, g_i (x4 + 1)), (0, g_r 2 r0), (1, g_r 14 r1), (2, g_i x2)]) hK d_Re_isWritten_44 3 rfl rfl (by rw [hN]; decide) rfl ?_
        refine r_goto (tgt := 15) hK d_Re_isWritten_47 (by decide) ?_
        exact r_sub [1, 2, 3, 0] rfl (ih _ _ _ _ _ h)
      · refine r_iconst (v := 0) hK d_Re_isWritten_42 (by decide) ?_
        exact r_zreturn hK d_Re_isWritten_43 h
set_option maxHeartbeats 4000000 in
set_option maxRecDepth 100000 in
theorem t_Re_isWritten_0 {K : g_C} {o : (Int32 × g_St)} (hK : g_OK K b_Re_isWritten "FixpointEngine$Reader" "isWritten" (Option.some Jvm.ClassFile.FieldType.boolean)) (hN : g_nL K = 5) (hD : g_Kd K = 11) : ∀ (r0 : Option Nat) (r1 : Option Nat) (x2 : Int32) (x3 : Int32) (s0 : g_St), f_Re_isWritten r0 r1 x2 x3 s0 = some o → g_W K s0 [(0, g_r 2 r0), (1, g_r 14 r1), (2, g_i x2), (3, g_i x3)] [] 0 (g_jI o) := by
  intro r0 r1 x2 x3 s0 h
  unfold f_Re_isWritten at h
  refine r_aload_n hK d_Re_isWritten_0 rfl 1 rfl ?_
  refine r_VSi (avL := []) (st := []) hK w2_171 w2_172 w2_170 w2_173 w1_14 (by decide) pl_Str_length (by rw [hD]; decide) (Nat.le_of_ble_eq_true rfl) rfl d_Re_isWritten_1 (fun o9 h9 => c_Str_length _ _ _ _ o9 h9) h (fun i1 s2 h => ?_)
  refine r_iload_n hK d_Re_isWritten_4 rfl 3 rfl ?_
  refine r_iload_n hK d_Re_isWritten_5 rfl 2 rfl ?_
  refine r_isub hK d_Re_isWritten_6 ?_
  refine r_if_icmpeq (tgt := 12) hK d_Re_isWritten_7 (by decide) h (fun h => ?_) (fun h => ?_)
  · refine r_iconst (v := 0) hK d_Re_isWritten_12 (by decide) ?_
    refine r_istore (ls1 := [(4, g_i 0), (0, g_r 2 r0), (1, g_r 14 r1), (2, g_i x2), (3, g_i x3)]) hK d_Re_isWritten_13 (by rw [hN]; decide) rfl ?_
    exact r_sub [1, 2, 3, 0] rfl (t_Re_isWritten_15 hK hN hD _ _ _ _ _ _ h)
  · refine r_iconst (v := 0) hK d_Re_isWritten_10 (by decide) ?_
    exact r_zreturn hK d_Re_isWritten_11 h
theorem c_Re_isWritten (l : Launch) (G : g_G) (r0 : Option Nat) (r1 : Option Nat) (x2 : Int32) (x3 : Int32) (u : g_St) (o : (Int32 × g_St)) (h : f_Re_isWritten r0 r1 x2 x3 u = some o) : g_Con l G y_Re_isWritten b_Re_isWritten 5 (Option.some Jvm.ClassFile.FieldType.boolean) 11 [g_r 2 r0, g_r 14 r1, g_i x2, g_i x3] u (g_jI o) :=
  g_Con.of rfl rfl (by decide +kernel) (Nat.le_of_ble_eq_true rfl) (fun K hK hN hD hX => t_Re_isWritten_0 hK hN hD _ _ _ _ _ h)
def f_Re_kindOf_61 : Nat → Option Nat → Int32 → Int32 → Int32 → g_St → Option (Option Nat × g_St)
  | 0, _, _, _, _, _ => none
  | n + 1, r0, x1, x2, x3, s0 =>
    g_ksl (some 41) fun i1 =>
    if i1 ≤ x3 then
      some ((some 2509), s0)
    else
      g_ksa (some 41) x3 fun p2 =>
      g_sfR (fun a => g_kw.getD (a / 64) 0 * 64 + 14) p2 fun p3 =>
      g_c (g_nn r0 (f_Re_isWritten r0 p3 x1 x2 s0)) fun i4 s5 =>
      if i4 = 0 then
        f_Re_kindOf_61 n r0 x1 x2 (x3 + 1) s5
      else
        g_ksa (some 41) x3 fun p6 =>
        some (p6, s5)
def f_Re_kindOf (r0 : Option Nat) (x1 : Int32) (x2 : Int32) (s0 : g_St) : Option (Option Nat × g_St) :=
  g_gR s0 2 r0 fun p1 =>
  g_aI s0 p1 x1 fun i2 =>
  g_c (f_Re_isSmall i2 s0) fun i3 s4 =>
  if i3 = 0 then
    g_gR s4 2 r0 fun p5 =>
    g_aI s4 p5 x1 fun i6 =>
    g_c (f_Re_isDigit i6 s4) fun i7 s8 =>
    if i7 = 0 then
      f_Re_kindOf_61 200000 r0 x1 x2 0 s8
    else
      if 4 < (x2 - x1) then
        some ((some 2509), s8)
      else
        some ((some 2381), s8)
  else
    if 6 < (x2 - x1) then
      some ((some 2509), s4)
    else
      some ((some 2317), s4)
set_option maxHeartbeats 4000000 in
set_option maxRecDepth 100000 in
theorem t_Re_kindOf_61 {K : g_C} {o : (Option Nat × g_St)} (hK : g_OK K b_Re_kindOf "FixpointEngine$Reader" "kindOf" (Option.some (Jvm.ClassFile.FieldType.object "FixpointEngine$Kind"))) (hN : g_nL K = 4) (hD : g_Kd K = 12) : ∀ (n : Nat) (r0 : Option Nat) (x1 : Int32) (x2 : Int32) (x3 : Int32) (s0 : g_St), f_Re_kindOf_61 n r0 x1 x2 x3 s0 = some o → g_W K s0 [(0, g_r 2 r0), (1, g_i x1), (2, g_i x2), (3, g_i x3)] [] 61 (g_jR 13 o) := by
  intro n
  induction n with
  | zero =>
    intro r0 x1 x2 x3 s0 h
    cases h
  | succ n ih =>
    intro r0 x1 x2 x3 s0 h
    unfold f_Re_kindOf_61 at h
    refine r_iload_n hK d_Re_kindOf_61 rfl 3 rfl ?_
    refine r_gsRN hK (st_other 1 rfl) (by decide) rfl w2_164 d_Re_kindOf_62 ?_
    refine r_ksl hK d_Re_kindOf_65 h (fun i1 h => ?_)
    refine r_if_icmpge (tgt := 98) hK d_Re_kindOf_66 (by decide) h (fun h => ?_) (fun h => ?_)
    · refine r_gsR hK (st_kind 39 (by decide)) (by decide) rfl w2_160 d_Re_kindOf_98 ?_
      exact r_areturn (Or.inl ⟨_, rfl⟩) hK d_Re_kindOf_101 h
    · refine r_aload_n hK d_Re_kindOf_69 rfl 0 rfl ?_
      refine r_gsRN hK (st_other 1 rfl) (by decide) rfl w2_164 d_Re_kindOf_70 ?_
      refine r_iload_n hK d_Re_kindOf_73 rfl 3 rfl ?_
      refine r_ksa hK d_Re_kindOf_74 h (fun p2 h => ?_)
      refine r_sfRN (t1 := 14) hK (by decide) (by decide) sf_word1 sf_word w10_12 d_Re_kindOf_75 h (fun p3 h => ?_)
      refine r_iload_n hK d_Re_kindOf_78 rfl 1 rfl ?_
      refine r_iload_n hK d_Re_kindOf_79 rfl 2 rfl ?_
      refine r_Vi (avL := [g_r 14 p3, g_i x1, g_i x2]) (st := []) hK ob_Re rfl w2_167 w2_168 w2_166 w2_169 w1_2 (by decide) pl_Re_isWritten (by rw [hD]; decide) (Nat.le_of_ble_eq_true rfl) rfl d_Re_kindOf_80 (fun o9 h9 => c_Re_isWritten _ _ _ _ _ _ _ o9 h9) h (fun i4 s5 h => ?_)
      refine r_ifeq (tgt := 92) hK d_Re_kindOf_83 (by decide) h (fun h => ?_) (fun h => ?_)
      · refine r_iinc (ls1 := [(3, g_i (x3 + 1)), (0, g_r 2 r0), (1, g_i x1), (2, g_i x2)]) hK d_Re_kindOf_92 3 rfl rfl (by rw [hN]; decide) rfl ?_
        refine r_goto (tgt := 61) hK d_Re_kindOf_95 (by decide) ?_
        exact r_sub [1, 2, 3, 0] rfl (ih _ _ _ _ _ h)
      · refine r_gsRN hK (st_other 1 rfl) (by decide) rfl w2_164 d_Re_kindOf_86 ?_
        refine r_iload_n hK d_Re_kindOf_89 rfl 3 rfl ?_
        refine r_ksa hK d_Re_kindOf_90 h (fun p6 h => ?_)
        exact r_areturn (Or.inl ⟨_, rfl⟩) hK d_Re_kindOf_91 h
set_option maxHeartbeats 4000000 in
set_option maxRecDepth 100000 in
theorem t_Re_kindOf_0 {K : g_C} {o : (Option Nat × g_St)} (hK : g_OK K b_Re_kindOf "FixpointEngine$Reader" "kindOf" (Option.some (Jvm.ClassFile.FieldType.object "FixpointEngine$Kind"))) (hN : g_nL K = 4) (hD : g_Kd K = 12) : ∀ (r0 : Option Nat) (x1 : Int32) (x2 : Int32) (s0 : g_St), f_Re_kindOf r0 x1 x2 s0 = some o → g_W K s0 [(0, g_r 2 r0), (1, g_i x1), (2, g_i x2)] [] 0 (g_jR 13 o) := by
  intro r0 x1 x2 s0 h
  unfold f_Re_kindOf at h
  refine r_aload_n hK d_Re_kindOf_0 rfl 0 rfl ?_
  refine r_gR hK fd_Re_0 w1_57 d_Re_kindOf_1 h (fun p1 h => ?_)
  refine r_iload_n hK d_Re_kindOf_4 rfl 1 rfl ?_
  refine r_caload hK ar_22 rfl d_Re_kindOf_5 h (fun i2 h => ?_)
  refine r_Si (avL := [g_i i2]) (st := []) hK w2_146 w2_145 w2_147 w1_2 (by decide) pl_Re_isSmall (by rw [hD]; decide) (Nat.le_of_ble_eq_true rfl) rfl d_Re_kindOf_6 (fun o9 h9 => c_Re_isSmall _ _ _ _ o9 h9) h (fun i3 s4 h => ?_)
  refine r_ifeq (tgt := 30) hK d_Re_kindOf_9 (by decide) h (fun h => ?_) (fun h => ?_)
  · refine r_aload_n hK d_Re_kindOf_30 rfl 0 rfl ?_
    refine r_gR hK fd_Re_0 w1_57 d_Re_kindOf_31 h (fun p5 h => ?_)
    refine r_iload_n hK d_Re_kindOf_34 rfl 1 rfl ?_
    refine r_caload hK ar_22 rfl d_Re_kindOf_35 h (fun i6 h => ?_)
    refine r_Si (avL := [g_i i6]) (st := []) hK w2_149 w2_148 w2_150 w1_2 (by decide) pl_Re_isDigit (by rw [hD]; decide) (Nat.le_of_ble_eq_true rfl) rfl d_Re_kindOf_36 (fun o9 h9 => c_Re_isDigit _ _ _ _ o9 h9) h (fun i7 s8 h => ?_)
    refine r_ifeq (tgt := 59) hK d_Re_kindOf_39 (by decide) h (fun h => ?_) (fun h => ?_)
    · refine r_iconst (v := 0) hK d_Re_kindOf_59 (by decide) ?_
      refine r_istore_n (ls1 := [(3, g_i 0), (0, g_r 2 r0), (1, g_i x1), (2, g_i x2)]) hK d_Re_kindOf_60 rfl (by rw [hN]; decide) rfl ?_
      exact r_sub [1, 2, 3, 0] rfl (t_Re_kindOf_61 hK hN hD _ _ _ _ _ _ h)
    · refine r_iload_n hK d_Re_kindOf_42 rfl 2 rfl ?_
      refine r_iload_n hK d_Re_kindOf_43 rfl 1 rfl ?_
      refine r_isub hK d_Re_kindOf_44 ?_
      refine r_iconst (v := 4) hK d_Re_kindOf_45 (by decide) ?_
      refine r_if_icmpgt (tgt := 55) hK d_Re_kindOf_46 (by decide) h (fun h => ?_) (fun h => ?_)
      · refine r_gsR hK (st_kind 39 (by decide)) (by decide) rfl w2_160 d_Re_kindOf_55 ?_
        exact r_areturn (Or.inl ⟨_, rfl⟩) hK d_Re_kindOf_58 h
      · refine r_gsR hK (st_kind 37 (by decide)) (by decide) rfl w2_162 d_Re_kindOf_49 ?_
        refine r_goto (tgt := 58) hK d_Re_kindOf_52 (by decide) ?_
        exact r_areturn (Or.inl ⟨_, rfl⟩) hK d_Re_kindOf_58 h
  · refine r_iload_n hK d_Re_kindOf_12 rfl 2 rfl ?_
    refine r_iload_n hK d_Re_kindOf_13 rfl 1 rfl ?_
    refine r_isub hK d_Re_kindOf_14 ?_
    refine r_bipush (v := 6) hK d_Re_kindOf_15 (by decide) ?_
    refine r_if_icmpgt (tgt := 26) hK d_Re_kindOf_17 (by decide) h (fun h => ?_) (fun h => ?_)
    · refine r_gsR hK (st_kind 39 (by decide)) (by decide) rfl w2_160 d_Re_kindOf_26 ?_
      exact r_areturn (Or.inl ⟨_, rfl⟩) hK d_Re_kindOf_29 h
    · refine r_gsR hK (st_kind 36 (by decide)) (by decide) rfl w2_158 d_Re_kindOf_20 ?_
      refine r_goto (tgt := 29) hK d_Re_kindOf_23 (by decide) ?_
      exact r_areturn (Or.inl ⟨_, rfl⟩) hK d_Re_kindOf_29 h
theorem c_Re_kindOf (l : Launch) (G : g_G) (r0 : Option Nat) (x1 : Int32) (x2 : Int32) (u : g_St) (o : (Option Nat × g_St)) (h : f_Re_kindOf r0 x1 x2 u = some o) : g_Con l G y_Re_kindOf b_Re_kindOf 4 (Option.some (Jvm.ClassFile.FieldType.object "FixpointEngine$Kind")) 12 [g_r 2 r0, g_i x1, g_i x2] u (g_jR 13 o) :=
  g_Con.of rfl rfl (by decide +kernel) (Nat.le_of_ble_eq_true rfl) (fun K hK hN hD hX => t_Re_kindOf_0 hK hN hD _ _ _ _ h)
def f_Re_wordOf_58 : Nat → Option Nat → Int32 → Int64 → Int32 → g_St → Option (Int64 × g_St)
  | 0, _, _, _, _, _ => none
  | n + 1, r0, x3, y4, x6, s0 =>
    if x3 ≤ x6 then
      some (y4, s0)
    else
      g_gR s0 2 r0 fun p1 =>
      g_aI s0 p1 x6 fun i2 =>
      f_Re_wordOf_58 n r0 x3 ((y4 <<< ((8 : Int32).toInt64 &&& 63)) + i2.toInt64) (x6 + 1) s0
def f_Re_wordOf_13 : Nat → Option Nat → Int32 → Int64 → Int32 → g_St → Option (Int64 × g_St)
  | 0, _, _, _, _, _ => none
  | n + 1, r0, x3, y4, x6, s0 =>
    if x3 ≤ x6 then
      some (y4, s0)
    else
      g_gR s0 2 r0 fun p1 =>
      g_aI s0 p1 x6 fun i2 =>
      f_Re_wordOf_13 n r0 x3 ((y4 * 10) + ((i2 - 48).toInt64)) (x6 + 1) s0
def f_Re_wordOf (r0 : Option Nat) (r1 : Option Nat) (x2 : Int32) (x3 : Int32) (s0 : g_St) : Option (Int64 × g_St) :=
  if r1 = (some 2381) then
    f_Re_wordOf_13 200000 r0 x3 0 x2 s0
  else
    if r1 = (some 2317) then
      f_Re_wordOf_58 200000 r0 x3 0 x2 s0
    else
      some (0, s0)
set_option maxHeartbeats 4000000 in
set_option maxRecDepth 100000 in
theorem t_Re_wordOf_58 {K : g_C} {o : (Int64 × g_St)} (hK : g_OK K b_Re_wordOf "FixpointEngine$Reader" "wordOf" (Option.some Jvm.ClassFile.FieldType.long)) (hN : g_nL K = 7) (hD : g_Kd K = 1) : ∀ (n : Nat) (r0 : Option Nat) (x3 : Int32) (y4 : Int64) (x6 : Int32) (s0 : g_St), f_Re_wordOf_58 n r0 x3 y4 x6 s0 = some o → g_W K s0 [(0, g_r 2 r0), (3, g_i x3), (4, g_l y4), (6, g_i x6)] [] 58 (g_jL o) := by
  intro n
  induction n with
  | zero =>
    intro r0 x3 y4 x6 s0 h
    cases h
  | succ n ih =>
    intro r0 x3 y4 x6 s0 h
    unfold f_Re_wordOf_58 at h
    refine r_iload hK d_Re_wordOf_58 3 rfl ?_
    refine r_iload_n hK d_Re_wordOf_60 rfl 1 rfl ?_
    refine r_if_icmpge (tgt := 86) hK d_Re_wordOf_61 (by decide) h (fun h => ?_) (fun h => ?_)
    · refine r_lload hK d_Re_wordOf_86 2 rfl ?_
      exact r_lreturn hK d_Re_wordOf_88 h
    · refine r_lload hK d_Re_wordOf_64 2 rfl ?_
      refine r_bipush (v := 8) hK d_Re_wordOf_66 (by decide) ?_
      refine r_lshl hK d_Re_wordOf_68 ?_
      refine r_aload_n hK d_Re_wordOf_69 rfl 0 rfl ?_
      refine r_gR hK fd_Re_0 w1_57 d_Re_wordOf_70 h (fun p1 h => ?_)
      refine r_iload hK d_Re_wordOf_73 3 rfl ?_
      refine r_caload hK ar_22 rfl d_Re_wordOf_75 h (fun i2 h => ?_)
      refine r_i2l hK d_Re_wordOf_76 ?_
      refine r_ladd hK d_Re_wordOf_77 ?_
      refine r_lstore (ls1 := [(4, g_l ((y4 <<< ((8 : Int32).toInt64 &&& 63)) + i2.toInt64)), (0, g_r 2 r0), (3, g_i x3), (6, g_i x6)]) hK d_Re_wordOf_78 (by rw [hN]; decide) rfl ?_
      refine r_iinc (ls1 := [(6, g_i (x6 + 1)), (4, g_l ((y4 <<< ((8 : Int32).toInt64 &&& 63)) + i2.toInt64)), (0, g_r 2 r0), (3, g_i x3)]) hK d_Re_wordOf_80 3 rfl rfl (by rw [hN]; decide) rfl ?_
      refine r_goto (tgt := 58) hK d_Re_wordOf_83 (by decide) ?_
      exact r_sub [2, 3, 1, 0] rfl (ih _ _ _ _ _ h)
set_option maxHeartbeats 4000000 in
set_option maxRecDepth 100000 in
theorem t_Re_wordOf_13 {K : g_C} {o : (Int64 × g_St)} (hK : g_OK K b_Re_wordOf "FixpointEngine$Reader" "wordOf" (Option.some Jvm.ClassFile.FieldType.long)) (hN : g_nL K = 7) (hD : g_Kd K = 1) : ∀ (n : Nat) (r0 : Option Nat) (x3 : Int32) (y4 : Int64) (x6 : Int32) (s0 : g_St), f_Re_wordOf_13 n r0 x3 y4 x6 s0 = some o → g_W K s0 [(0, g_r 2 r0), (3, g_i x3), (4, g_l y4), (6, g_i x6)] [] 13 (g_jL o) := by
  intro n
  induction n with
  | zero =>
    intro r0 x3 y4 x6 s0 h
    cases h
  | succ n ih =>
    intro r0 x3 y4 x6 s0 h
    unfold f_Re_wordOf_13 at h
    refine r_iload hK d_Re_wordOf_13 3 rfl ?_
    refine r_iload_n hK d_Re_wordOf_15 rfl 1 rfl ?_
    refine r_if_icmpge (tgt := 45) hK d_Re_wordOf_16 (by decide) h (fun h => ?_) (fun h => ?_)
    · refine r_goto (tgt := 86) hK d_Re_wordOf_45 (by decide) ?_
      refine r_lload hK d_Re_wordOf_86 2 rfl ?_
      exact r_lreturn hK d_Re_wordOf_88 h
    · refine r_lload hK d_Re_wordOf_19 2 rfl ?_
      refine r_ldc2 hK w2_222 d_Re_wordOf_21 ?_
      refine r_lmul hK d_Re_wordOf_24 ?_
      refine r_aload_n hK d_Re_wordOf_25 rfl 0 rfl ?_
      refine r_gR hK fd_Re_0 w1_57 d_Re_wordOf_26 h (fun p1 h => ?_)
      refine r_iload hK d_Re_wordOf_29 3 rfl ?_
      refine r_caload hK ar_22 rfl d_Re_wordOf_31 h (fun i2 h => ?_)
      refine r_bipush (v := 48) hK d_Re_wordOf_32 (by decide) ?_
      refine r_isub hK d_Re_wordOf_34 ?_
      refine r_i2l hK d_Re_wordOf_35 ?_
      refine r_ladd hK d_Re_wordOf_36 ?_
      refine r_lstore (ls1 := [(4, g_l ((y4 * 10) + ((i2 - 48).toInt64))), (0, g_r 2 r0), (3, g_i x3), (6, g_i x6)]) hK d_Re_wordOf_37 (by rw [hN]; decide) rfl ?_
      refine r_iinc (ls1 := [(6, g_i (x6 + 1)), (4, g_l ((y4 * 10) + ((i2 - 48).toInt64))), (0, g_r 2 r0), (3, g_i x3)]) hK d_Re_wordOf_39 3 rfl rfl (by rw [hN]; decide) rfl ?_
      refine r_goto (tgt := 13) hK d_Re_wordOf_42 (by decide) ?_
      exact r_sub [2, 3, 1, 0] rfl (ih _ _ _ _ _ h)
set_option maxHeartbeats 4000000 in
set_option maxRecDepth 100000 in
theorem t_Re_wordOf_0 {K : g_C} {o : (Int64 × g_St)} (hK : g_OK K b_Re_wordOf "FixpointEngine$Reader" "wordOf" (Option.some Jvm.ClassFile.FieldType.long)) (hN : g_nL K = 7) (hD : g_Kd K = 1) : ∀ (r0 : Option Nat) (r1 : Option Nat) (x2 : Int32) (x3 : Int32) (s0 : g_St), f_Re_wordOf r0 r1 x2 x3 s0 = some o → g_W K s0 [(0, g_r 2 r0), (1, g_r 13 r1), (2, g_i x2), (3, g_i x3)] [] 0 (g_jL o) := by
  intro r0 r1 x2 x3 s0 h
  unfold f_Re_wordOf at h
  refine r_lconst (v := 0) hK d_Re_wordOf_0 (by decide) ?_
  refine r_lstore (ls1 := [(4, g_l 0), (0, g_r 2 r0), (1, g_r 13 r1), (2, g_i x2), (3, g_i x3)]) hK d_Re_wordOf_1 (by rw [hN]; decide) rfl ?_
  refine r_aload_n hK d_Re_wordOf_3 rfl 2 rfl ?_
  refine r_gsR hK (st_kind 37 (by decide)) (by decide) rfl w2_162 d_Re_wordOf_4 ?_
  refine r_if_acmpne (tgt := 48) hK (by decide) (by decide) d_Re_wordOf_7 (by decide) h (fun h => ?_) (fun h => ?_)
  · refine r_aload_n hK d_Re_wordOf_48 rfl 2 rfl ?_
    refine r_gsR hK (st_kind 36 (by decide)) (by decide) rfl w2_158 d_Re_wordOf_49 ?_
    refine r_if_acmpne (tgt := 86) hK (by decide) (by decide) d_Re_wordOf_52 (by decide) h (fun h => ?_) (fun h => ?_)
    · refine r_lload hK d_Re_wordOf_86 0 rfl ?_
      exact r_lreturn hK d_Re_wordOf_88 h
    · refine r_iload_n hK d_Re_wordOf_55 rfl 3 rfl ?_
      refine r_istore (ls1 := [(6, g_i x2), (4, g_l 0), (0, g_r 2 r0), (1, g_r 13 r1), (2, g_i x2), (3, g_i x3)]) hK d_Re_wordOf_56 (by rw [hN]; decide) rfl ?_
      exact r_sub [2, 5, 1, 0] rfl (t_Re_wordOf_58 hK hN hD _ _ _ _ _ _ h)
  · refine r_iload_n hK d_Re_wordOf_10 rfl 3 rfl ?_
    refine r_istore (ls1 := [(6, g_i x2), (4, g_l 0), (0, g_r 2 r0), (1, g_r 13 r1), (2, g_i x2), (3, g_i x3)]) hK d_Re_wordOf_11 (by rw [hN]; decide) rfl ?_
    exact r_sub [2, 5, 1, 0] rfl (t_Re_wordOf_13 hK hN hD _ _ _ _ _ _ h)
theorem c_Re_wordOf (l : Launch) (G : g_G) (r0 : Option Nat) (r1 : Option Nat) (x2 : Int32) (x3 : Int32) (u : g_St) (o : (Int64 × g_St)) (h : f_Re_wordOf r0 r1 x2 x3 u = some o) : g_Con l G y_Re_wordOf b_Re_wordOf 7 (Option.some Jvm.ClassFile.FieldType.long) 1 [g_r 2 r0, g_r 13 r1, g_i x2, g_i x3] u (g_jL o) :=
  g_Con.of rfl rfl (by decide +kernel) (Nat.le_of_ble_eq_true rfl) (fun K hK hN hD hX => t_Re_wordOf_0 hK hN hD _ _ _ _ _ h)
def f_Re_cut_6 : Nat → Option Nat → Int32 → Int32 → Int32 → g_St → Option (Unit × g_St)
  | 0, _, _, _, _, _ => none
  | n + 1, r0, x1, x2, x3, s0 =>
    g_gI s0 66 r0 fun i1 =>
    if i1 ≤ x3 then
      g_gR s0 130 r0 fun p2 =>
      g_sR s0 p2 x1 (some 2445) fun s3 =>
      g_gR s3 194 r0 fun p4 =>
      g_gI s3 66 r0 fun i5 =>
      g_sI s3 p4 x1 i5 fun s6 =>
      g_gR s6 258 r0 fun p7 =>
      g_sL s6 p7 x1 0 fun s8 =>
      some ((), s8)
    else
      if x3 < x2 then
        f_Re_cut_6 n r0 x1 x2 (x3 + 1) s0
      else
        g_gR s0 2 r0 fun p9 =>
        g_aI s0 p9 x3 fun i10 =>
        if i10 = 32 then
          f_Re_cut_6 n r0 x1 x2 (x3 + 1) s0
        else
          g_c (g_nn r0 (f_Re_endOf r0 x3 s0)) fun i11 s12 =>
          g_gR s12 130 r0 fun p13 =>
          g_c (g_nn r0 (f_Re_kindOf r0 x3 i11 s12)) fun p14 s15 =>
          g_sR s15 p13 x1 p14 fun s16 =>
          g_gR s16 194 r0 fun p17 =>
          g_sI s16 p17 x1 x3 fun s18 =>
          g_gR s18 258 r0 fun p19 =>
          g_gR s18 130 r0 fun p20 =>
          g_aR s18 p20 x1 fun p21 =>
          g_c (g_nn r0 (f_Re_wordOf r0 p21 x3 i11 s18)) fun j22 s23 =>
          g_sL s23 p19 x1 j22 fun s24 =>
          f_Re_cut_6 n r0 (x1 + 1) i11 (x3 + 1) s24
def f_Re_cut (r0 : Option Nat) (s0 : g_St) : Option (Unit × g_St) :=
  f_Re_cut_6 200000 r0 0 0 0 s0
set_option maxHeartbeats 4000000 in
set_option maxRecDepth 100000 in
theorem t_Re_cut_6 {K : g_C} {o : (Unit × g_St)} (hK : g_OK K b_Re_cut "FixpointEngine$Reader" "cut" (Option.none : Option Jvm.ClassFile.FieldType)) (hN : g_nL K = 4) (hD : g_Kd K = 13) : ∀ (n : Nat) (r0 : Option Nat) (x1 : Int32) (x2 : Int32) (x3 : Int32) (s0 : g_St), f_Re_cut_6 n r0 x1 x2 x3 s0 = some o → g_W K s0 [(0, g_r 2 r0), (1, g_i x1), (2, g_i x2), (3, g_i x3)] [] 6 (g_jV o) := by
  intro n
  induction n with
  | zero =>
    intro r0 x1 x2 x3 s0 h
    cases h
  | succ n ih =>
    intro r0 x1 x2 x3 s0 h
    unfold f_Re_cut_6 at h
    refine r_iload_n hK d_Re_cut_6 rfl 3 rfl ?_
    refine r_aload_n hK d_Re_cut_7 rfl 0 rfl ?_
    refine r_gI hK fd_Re_1 w1_58 d_Re_cut_8 h (fun i1 h => ?_)
    refine r_if_icmpge (tgt := 85) hK d_Re_cut_11 (by decide) h (fun h => ?_) (fun h => ?_)
    · refine r_aload_n hK d_Re_cut_85 rfl 0 rfl ?_
      refine r_gR hK fd_Re_2 w1_60 d_Re_cut_86 h (fun p2 h => ?_)
      refine r_iload_n hK d_Re_cut_89 rfl 1 rfl ?_
      refine r_gsR hK (st_kind 38 (by decide)) (by decide) rfl w2_223 d_Re_cut_90 ?_
      refine r_aastore hK el_23 ar_23 rfl d_Re_cut_93 h (fun s3 h => ?_)
      refine r_aload_n hK d_Re_cut_94 rfl 0 rfl ?_
      refine r_gR hK fd_Re_3 w1_61 d_Re_cut_95 h (fun p4 h => ?_)
      refine r_iload_n hK d_Re_cut_98 rfl 1 rfl ?_
      refine r_aload_n hK d_Re_cut_99 rfl 0 rfl ?_
      refine r_gI hK fd_Re_1 w1_58 d_Re_cut_100 h (fun i5 h => ?_)
      refine r_iastore hK ar_20 rfl d_Re_cut_103 h (fun s6 h => ?_)
      refine r_aload_n hK d_Re_cut_104 rfl 0 rfl ?_
      refine r_gR hK fd_Re_4 w1_62 d_Re_cut_105 h (fun p7 h => ?_)
      refine r_iload_n hK d_Re_cut_108 rfl 1 rfl ?_
      refine r_lconst (v := 0) hK d_Re_cut_109 (by decide) ?_
      refine r_lastore hK ar_21 rfl d_Re_cut_110 h (fun s8 h => ?_)
      exact r_return hK d_Re_cut_111 h
    · refine r_iload_n hK d_Re_cut_14 rfl 3 rfl ?_
      refine r_iload_n hK d_Re_cut_15 rfl 2 rfl ?_
      refine r_if_icmplt (tgt := 79) hK d_Re_cut_16 (by decide) h (fun h => ?_) (fun h => ?_)
      · refine r_iinc (ls1 := [(3, g_i (x3 + 1)), (0, g_r 2 r0), (1, g_i x1), (2, g_i x2)]) hK d_Re_cut_79 3 rfl rfl (by rw [hN]; decide) rfl ?_
        refine r_goto (tgt := 6) hK d_Re_cut_82 (by decide) ?_
        exact r_sub [1, 2, 3, 0] rfl (ih _ _ _ _ _ h)
      · refine r_aload_n hK d_Re_cut_19 rfl 0 rfl ?_
        refine r_gR hK fd_Re_0 w1_57 d_Re_cut_20 h (fun p9 h => ?_)
        refine r_iload_n hK d_Re_cut_23 rfl 3 rfl ?_
        refine r_caload hK ar_22 rfl d_Re_cut_24 h (fun i10 h => ?_)
        refine r_bipush (v := 32) hK d_Re_cut_25 (by decide) ?_
        refine r_if_icmpne (tgt := 33) hK d_Re_cut_27 (by decide) h (fun h => ?_) (fun h => ?_)
        · refine r_aload_n hK d_Re_cut_33 rfl 0 rfl ?_
          refine r_iload_n hK d_Re_cut_34 rfl 3 rfl ?_
          refine r_Vi (avL := [g_i x3]) (st := []) hK ob_Re rfl w2_139 w2_140 w2_138 w2_141 w1_2 (by decide) pl_Re_endOf (by rw [hD]; decide) (Nat.le_of_ble_eq_true rfl) rfl d_Re_cut_35 (fun o9 h9 => c_Re_endOf _ _ _ _ _ o9 h9) h (fun i11 s12 h => ?_)
          refine r_istore_n (ls1 := [(2, g_i i11), (0, g_r 2 r0), (1, g_i x1), (3, g_i x3)]) hK d_Re_cut_38 rfl (by rw [hN]; decide) rfl ?_
          refine r_aload_n hK d_Re_cut_39 rfl 1 rfl ?_
          refine r_gR hK fd_Re_2 w1_60 d_Re_cut_40 h (fun p13 h => ?_)
          refine r_iload_n hK d_Re_cut_43 rfl 2 rfl ?_
          refine r_aload_n hK d_Re_cut_44 rfl 1 rfl ?_
          refine r_iload_n hK d_Re_cut_45 rfl 3 rfl ?_
          refine r_iload_n hK d_Re_cut_46 rfl 0 rfl ?_
          refine r_Vr (avL := [g_i x3, g_i i11]) (st := [g_i x1, g_r 23 p13]) hK ob_Re rfl w2_155 w2_156 w2_154 w2_157 w1_2 (by decide) pl_Re_kindOf (by rw [hD]; decide) (Nat.le_of_ble_eq_true rfl) rfl d_Re_cut_47 (fun o9 h9 => c_Re_kindOf _ _ _ _ _ _ o9 h9) h (fun p14 s15 h => ?_)
          refine r_aastore hK el_23 ar_23 rfl d_Re_cut_50 h (fun s16 h => ?_)
          refine r_aload_n hK d_Re_cut_51 rfl 1 rfl ?_
          refine r_gR hK fd_Re_3 w1_61 d_Re_cut_52 h (fun p17 h => ?_)
          refine r_iload_n hK d_Re_cut_55 rfl 2 rfl ?_
          refine r_iload_n hK d_Re_cut_56 rfl 3 rfl ?_
          refine r_iastore hK ar_20 rfl d_Re_cut_57 h (fun s18 h => ?_)
          refine r_aload_n hK d_Re_cut_58 rfl 1 rfl ?_
          refine r_gR hK fd_Re_4 w1_62 d_Re_cut_59 h (fun p19 h => ?_)
          refine r_iload_n hK d_Re_cut_62 rfl 2 rfl ?_
          refine r_aload_n hK d_Re_cut_63 rfl 1 rfl ?_
          refine r_aload_n hK d_Re_cut_64 rfl 1 rfl ?_
          refine r_gR hK fd_Re_2 w1_60 d_Re_cut_65 h (fun p20 h => ?_)
          refine r_iload_n hK d_Re_cut_68 rfl 2 rfl ?_
          refine r_aaload hK rfl ar_23 rfl d_Re_cut_69 h (fun p21 h => ?_)
          refine r_iload_n hK d_Re_cut_70 rfl 3 rfl ?_
          refine r_iload_n hK d_Re_cut_71 rfl 0 rfl ?_
          refine r_Vl (avL := [g_r 13 p21, g_i x3, g_i i11]) (st := [g_i x1, g_r 21 p19]) hK ob_Re rfl w2_219 w2_220 w2_218 w2_221 w1_2 (by decide) pl_Re_wordOf (by rw [hD]; decide) (Nat.le_of_ble_eq_true rfl) rfl d_Re_cut_72 (fun o9 h9 => c_Re_wordOf _ _ _ _ _ _ _ o9 h9) h (fun j22 s23 h => ?_)
          refine r_lastore hK ar_21 rfl d_Re_cut_75 h (fun s24 h => ?_)
          refine r_iinc (ls1 := [(1, g_i (x1 + 1)), (2, g_i i11), (0, g_r 2 r0), (3, g_i x3)]) hK d_Re_cut_76 2 rfl rfl (by rw [hN]; decide) rfl ?_
          refine r_iinc (ls1 := [(3, g_i (x3 + 1)), (1, g_i (x1 + 1)), (2, g_i i11), (0, g_r 2 r0)]) hK d_Re_cut_79 3 rfl rfl (by rw [hN]; decide) rfl ?_
          refine r_goto (tgt := 6) hK d_Re_cut_82 (by decide) ?_
          exact r_sub [3, 1, 2, 0] rfl (ih _ _ _ _ _ h)
        · refine r_goto (tgt := 79) hK d_Re_cut_30 (by decide) ?_
          refine r_iinc (ls1 := [(3, g_i (x3 + 1)), (0, g_r 2 r0), (1, g_i x1), (2, g_i x2)]) hK d_Re_cut_79 3 rfl rfl (by rw [hN]; decide) rfl ?_
          refine r_goto (tgt := 6) hK d_Re_cut_82 (by decide) ?_
          exact r_sub [1, 2, 3, 0] rfl (ih _ _ _ _ _ h)
set_option maxHeartbeats 4000000 in
set_option maxRecDepth 100000 in
theorem t_Re_cut_0 {K : g_C} {o : (Unit × g_St)} (hK : g_OK K b_Re_cut "FixpointEngine$Reader" "cut" (Option.none : Option Jvm.ClassFile.FieldType)) (hN : g_nL K = 4) (hD : g_Kd K = 13) : ∀ (r0 : Option Nat) (s0 : g_St), f_Re_cut r0 s0 = some o → g_W K s0 [(0, g_r 2 r0)] [] 0 (g_jV o) := by
  intro r0 s0 h
  unfold f_Re_cut at h
  refine r_iconst (v := 0) hK d_Re_cut_0 (by decide) ?_
  refine r_istore_n (ls1 := [(1, g_i 0), (0, g_r 2 r0)]) hK d_Re_cut_1 rfl (by rw [hN]; decide) rfl ?_
  refine r_iconst (v := 0) hK d_Re_cut_2 (by decide) ?_
  refine r_istore_n (ls1 := [(2, g_i 0), (1, g_i 0), (0, g_r 2 r0)]) hK d_Re_cut_3 rfl (by rw [hN]; decide) rfl ?_
  refine r_iconst (v := 0) hK d_Re_cut_4 (by decide) ?_
  refine r_istore_n (ls1 := [(3, g_i 0), (2, g_i 0), (1, g_i 0), (0, g_r 2 r0)]) hK d_Re_cut_5 rfl (by rw [hN]; decide) rfl ?_
  exact r_sub [3, 2, 1, 0] rfl (t_Re_cut_6 hK hN hD _ _ _ _ _ _ h)
theorem c_Re_cut (l : Launch) (G : g_G) (r0 : Option Nat) (u : g_St) (o : (Unit × g_St)) (h : f_Re_cut r0 u = some o) : g_Con l G y_Re_cut b_Re_cut 4 (Option.none : Option Jvm.ClassFile.FieldType) 13 [g_r 2 r0] u (g_jV o) :=
  g_Con.of rfl rfl (by decide +kernel) (Nat.le_of_ble_eq_true rfl) (fun K hK hN hD hX => t_Re_cut_0 hK hN hD _ _ h)
def f_Re_accept (r0 : Option Nat) (r1 : Option Nat) (s0 : g_St) : Option (Int32 × g_St) :=
  g_gI s0 386 r0 fun i1 =>
  if i1 = 0 then
    g_gR s0 130 r0 fun p2 =>
    g_gI s0 322 r0 fun i3 =>
    g_aR s0 p2 i3 fun p4 =>
    if p4 = r1 then
      g_gI s0 322 r0 fun i5 =>
      g_pI s0 322 r0 (i5 + 1) fun s6 =>
      g_rZ 1 (some (1, s6))
    else
      g_rZ 0 (some (0, s0))
  else
    g_rZ 0 (some (0, s0))
set_option maxHeartbeats 4000000 in
set_option maxRecDepth 100000 in
theorem t_Re_accept_0 {K : g_C} {o : (Int32 × g_St)} (hK : g_OK K b_Re_accept "FixpointEngine$Reader" "accept" (Option.some Jvm.ClassFile.FieldType.boolean)) (hN : g_nL K = 2) (hD : g_Kd K = 1) : ∀ (r0 : Option Nat) (r1 : Option Nat) (s0 : g_St), f_Re_accept r0 r1 s0 = some o → g_W K s0 [(0, g_r 2 r0), (1, g_r 13 r1)] [] 0 (g_jI o) := by
  intro r0 r1 s0 h
  unfold f_Re_accept at h
  refine r_aload_n hK d_Re_accept_0 rfl 0 rfl ?_
  refine r_gI hK fd_Re_6 w1_64 d_Re_accept_1 h (fun i1 h => ?_)
  refine r_ifne (tgt := 20) hK d_Re_accept_4 (by decide) h (fun h => ?_) (fun h => ?_)
  · refine r_iconst (v := 0) hK d_Re_accept_20 (by decide) ?_
    exact r_zreturn hK d_Re_accept_21 h
  · refine r_aload_n hK d_Re_accept_7 rfl 0 rfl ?_
    refine r_gR hK fd_Re_2 w1_60 d_Re_accept_8 h (fun p2 h => ?_)
    refine r_aload_n hK d_Re_accept_11 rfl 0 rfl ?_
    refine r_gI hK fd_Re_5 w1_63 d_Re_accept_12 h (fun i3 h => ?_)
    refine r_aaload hK rfl ar_23 rfl d_Re_accept_15 h (fun p4 h => ?_)
    refine r_aload_n hK d_Re_accept_16 rfl 1 rfl ?_
    refine r_if_acmpeq (tgt := 22) hK (by decide) (by decide) d_Re_accept_17 (by decide) h (fun h => ?_) (fun h => ?_)
    · refine r_aload_n hK d_Re_accept_22 rfl 0 rfl ?_
      refine r_dup hK d_Re_accept_23 rfl ?_
      refine r_gI hK fd_Re_5 w1_63 d_Re_accept_24 h (fun i5 h => ?_)
      refine r_iconst (v := 1) hK d_Re_accept_27 (by decide) ?_
      refine r_iadd hK d_Re_accept_28 ?_
      refine r_pI hK fd_Re_5 rfl w1_63 d_Re_accept_29 h (fun s6 h => ?_)
      refine r_iconst (v := 1) hK d_Re_accept_32 (by decide) ?_
      exact r_zreturn hK d_Re_accept_33 h
    · refine r_iconst (v := 0) hK d_Re_accept_20 (by decide) ?_
      exact r_zreturn hK d_Re_accept_21 h
theorem c_Re_accept (l : Launch) (G : g_G) (r0 : Option Nat) (r1 : Option Nat) (u : g_St) (o : (Int32 × g_St)) (h : f_Re_accept r0 r1 u = some o) : g_Con l G y_Re_accept b_Re_accept 2 (Option.some Jvm.ClassFile.FieldType.boolean) 1 [g_r 2 r0, g_r 13 r1] u (g_jI o) :=
  g_Con.of rfl rfl (by decide +kernel) (Nat.le_of_ble_eq_true rfl) (fun K hK hN hD hX => t_Re_accept_0 hK hN hD _ _ _ h)
def f_Re_name (r0 : Option Nat) (s0 : g_St) : Option (Int64 × g_St) :=
  g_gI s0 386 r0 fun i1 =>
  if i1 = 0 then
    g_gR s0 130 r0 fun p3 =>
    g_gI s0 322 r0 fun i4 =>
    g_aR s0 p3 i4 fun p5 =>
    if p5 = (some 2317) then
      g_gI s0 322 r0 fun i6 =>
      g_pI s0 322 r0 (i6 + 1) fun s7 =>
      g_gR s7 258 r0 fun p8 =>
      g_gI s7 322 r0 fun i9 =>
      g_aL s7 p8 (i9 - 1) fun j10 =>
      some (j10, s7)
    else
      g_pZ s0 386 r0 1 fun s11 =>
      some (0, s11)
  else
    g_pZ s0 386 r0 1 fun s2 =>
    some (0, s2)
set_option maxHeartbeats 4000000 in
set_option maxRecDepth 100000 in
theorem t_Re_name_0 {K : g_C} {o : (Int64 × g_St)} (hK : g_OK K b_Re_name "FixpointEngine$Reader" "name" (Option.some Jvm.ClassFile.FieldType.long)) (hN : g_nL K = 1) (hD : g_Kd K = 1) : ∀ (r0 : Option Nat) (s0 : g_St), f_Re_name r0 s0 = some o → g_W K s0 [(0, g_r 2 r0)] [] 0 (g_jL o) := by
  intro r0 s0 h
  unfold f_Re_name at h
  refine r_aload_n hK d_Re_name_0 rfl 0 rfl ?_
  refine r_gI hK fd_Re_6 w1_64 d_Re_name_1 h (fun i1 h => ?_)
  refine r_ifne (tgt := 22) hK d_Re_name_4 (by decide) h (fun h => ?_) (fun h => ?_)
  · refine r_aload_n hK d_Re_name_22 rfl 0 rfl ?_
    refine r_iconst (v := 1) hK d_Re_name_23 (by decide) ?_
    refine r_pZ hK fd_Re_6 rfl w1_64 d_Re_name_24 h (fun s2 h => ?_)
    refine r_lconst (v := 0) hK d_Re_name_27 (by decide) ?_
    exact r_lreturn hK d_Re_name_28 h
  · refine r_aload_n hK d_Re_name_7 rfl 0 rfl ?_
    refine r_gR hK fd_Re_2 w1_60 d_Re_name_8 h (fun p3 h => ?_)
    refine r_aload_n hK d_Re_name_11 rfl 0 rfl ?_
    refine r_gI hK fd_Re_5 w1_63 d_Re_name_12 h (fun i4 h => ?_)
    refine r_aaload hK rfl ar_23 rfl d_Re_name_15 h (fun p5 h => ?_)
    refine r_gsR hK (st_kind 36 (by decide)) (by decide) rfl w2_158 d_Re_name_16 ?_
    refine r_if_acmpeq (tgt := 29) hK (by decide) (by decide) d_Re_name_19 (by decide) h (fun h => ?_) (fun h => ?_)
    · refine r_aload_n hK d_Re_name_29 rfl 0 rfl ?_
      refine r_dup hK d_Re_name_30 rfl ?_
      refine r_gI hK fd_Re_5 w1_63 d_Re_name_31 h (fun i6 h => ?_)
      refine r_iconst (v := 1) hK d_Re_name_34 (by decide) ?_
      refine r_iadd hK d_Re_name_35 ?_
      refine r_pI hK fd_Re_5 rfl w1_63 d_Re_name_36 h (fun s7 h => ?_)
      refine r_aload_n hK d_Re_name_39 rfl 0 rfl ?_
      refine r_gR hK fd_Re_4 w1_62 d_Re_name_40 h (fun p8 h => ?_)
      refine r_aload_n hK d_Re_name_43 rfl 0 rfl ?_
      refine r_gI hK fd_Re_5 w1_63 d_Re_name_44 h (fun i9 h => ?_)
      refine r_iconst (v := 1) hK d_Re_name_47 (by decide) ?_
      refine r_isub hK d_Re_name_48 ?_
      refine r_laload hK ar_21 rfl d_Re_name_49 h (fun j10 h => ?_)
      exact r_lreturn hK d_Re_name_50 h
    · refine r_aload_n hK d_Re_name_22 rfl 0 rfl ?_
      refine r_iconst (v := 1) hK d_Re_name_23 (by decide) ?_
      refine r_pZ hK fd_Re_6 rfl w1_64 d_Re_name_24 h (fun s11 h => ?_)
      refine r_lconst (v := 0) hK d_Re_name_27 (by decide) ?_
      exact r_lreturn hK d_Re_name_28 h
theorem c_Re_name (l : Launch) (G : g_G) (r0 : Option Nat) (u : g_St) (o : (Int64 × g_St)) (h : f_Re_name r0 u = some o) : g_Con l G y_Re_name b_Re_name 1 (Option.some Jvm.ClassFile.FieldType.long) 1 [g_r 2 r0] u (g_jL o) :=
  g_Con.of rfl rfl (by decide +kernel) (Nat.le_of_ble_eq_true rfl) (fun K hK hN hD hX => t_Re_name_0 hK hN hD _ _ h)
def f_Re_expect (r0 : Option Nat) (r1 : Option Nat) (s0 : g_St) : Option (Unit × g_St) :=
  g_gI s0 386 r0 fun i1 =>
  if i1 = 0 then
    g_gR s0 130 r0 fun p3 =>
    g_gI s0 322 r0 fun i4 =>
    g_aR s0 p3 i4 fun p5 =>
    if p5 = r1 then
      g_gI s0 322 r0 fun i6 =>
      g_pI s0 322 r0 (i6 + 1) fun s7 =>
      some ((), s7)
    else
      g_pZ s0 386 r0 1 fun s8 =>
      some ((), s8)
  else
    g_pZ s0 386 r0 1 fun s2 =>
    some ((), s2)
set_option maxHeartbeats 4000000 in
set_option maxRecDepth 100000 in
theorem t_Re_expect_0 {K : g_C} {o : (Unit × g_St)} (hK : g_OK K b_Re_expect "FixpointEngine$Reader" "expect" (Option.none : Option Jvm.ClassFile.FieldType)) (hN : g_nL K = 2) (hD : g_Kd K = 1) : ∀ (r0 : Option Nat) (r1 : Option Nat) (s0 : g_St), f_Re_expect r0 r1 s0 = some o → g_W K s0 [(0, g_r 2 r0), (1, g_r 13 r1)] [] 0 (g_jV o) := by
  intro r0 r1 s0 h
  unfold f_Re_expect at h
  refine r_aload_n hK d_Re_expect_0 rfl 0 rfl ?_
  refine r_gI hK fd_Re_6 w1_64 d_Re_expect_1 h (fun i1 h => ?_)
  refine r_ifne (tgt := 20) hK d_Re_expect_4 (by decide) h (fun h => ?_) (fun h => ?_)
  · refine r_aload_n hK d_Re_expect_20 rfl 0 rfl ?_
    refine r_iconst (v := 1) hK d_Re_expect_21 (by decide) ?_
    refine r_pZ hK fd_Re_6 rfl w1_64 d_Re_expect_22 h (fun s2 h => ?_)
    refine r_goto (tgt := 38) hK d_Re_expect_25 (by decide) ?_
    exact r_return hK d_Re_expect_38 h
  · refine r_aload_n hK d_Re_expect_7 rfl 0 rfl ?_
    refine r_gR hK fd_Re_2 w1_60 d_Re_expect_8 h (fun p3 h => ?_)
    refine r_aload_n hK d_Re_expect_11 rfl 0 rfl ?_
    refine r_gI hK fd_Re_5 w1_63 d_Re_expect_12 h (fun i4 h => ?_)
    refine r_aaload hK rfl ar_23 rfl d_Re_expect_15 h (fun p5 h => ?_)
    refine r_aload_n hK d_Re_expect_16 rfl 1 rfl ?_
    refine r_if_acmpeq (tgt := 28) hK (by decide) (by decide) d_Re_expect_17 (by decide) h (fun h => ?_) (fun h => ?_)
    · refine r_aload_n hK d_Re_expect_28 rfl 0 rfl ?_
      refine r_dup hK d_Re_expect_29 rfl ?_
      refine r_gI hK fd_Re_5 w1_63 d_Re_expect_30 h (fun i6 h => ?_)
      refine r_iconst (v := 1) hK d_Re_expect_33 (by decide) ?_
      refine r_iadd hK d_Re_expect_34 ?_
      refine r_pI hK fd_Re_5 rfl w1_63 d_Re_expect_35 h (fun s7 h => ?_)
      exact r_return hK d_Re_expect_38 h
    · refine r_aload_n hK d_Re_expect_20 rfl 0 rfl ?_
      refine r_iconst (v := 1) hK d_Re_expect_21 (by decide) ?_
      refine r_pZ hK fd_Re_6 rfl w1_64 d_Re_expect_22 h (fun s8 h => ?_)
      refine r_goto (tgt := 38) hK d_Re_expect_25 (by decide) ?_
      exact r_return hK d_Re_expect_38 h
theorem c_Re_expect (l : Launch) (G : g_G) (r0 : Option Nat) (r1 : Option Nat) (u : g_St) (o : (Unit × g_St)) (h : f_Re_expect r0 r1 u = some o) : g_Con l G y_Re_expect b_Re_expect 2 (Option.none : Option Jvm.ClassFile.FieldType) 1 [g_r 2 r0, g_r 13 r1] u (g_jV o) :=
  g_Con.of rfl rfl (by decide +kernel) (Nat.le_of_ble_eq_true rfl) (fun K hK hN hD hX => t_Re_expect_0 hK hN hD _ _ _ h)
def f_Re_nameInto (r0 : Option Nat) (r1 : Option Nat) (x2 : Int32) (s0 : g_St) : Option (Unit × g_St) :=
  g_gR s0 263 r1 fun p1 =>
  g_gR s0 194 r0 fun p2 =>
  g_gI s0 322 r0 fun i3 =>
  g_aI s0 p2 i3 fun i4 =>
  g_sI s0 p1 x2 i4 fun s5 =>
  g_gR s5 199 r1 fun p6 =>
  g_c (g_nn r0 (f_Re_name r0 s5)) fun j7 s8 =>
  g_sL s8 p6 x2 j7 fun s9 =>
  some ((), s9)
set_option maxHeartbeats 4000000 in
set_option maxRecDepth 100000 in
theorem t_Re_nameInto_0 {K : g_C} {o : (Unit × g_St)} (hK : g_OK K b_Re_nameInto "FixpointEngine$Reader" "nameInto" (Option.none : Option Jvm.ClassFile.FieldType)) (hN : g_nL K = 3) (hD : g_Kd K = 2) : ∀ (r0 : Option Nat) (r1 : Option Nat) (x2 : Int32) (s0 : g_St), f_Re_nameInto r0 r1 x2 s0 = some o → g_W K s0 [(0, g_r 2 r0), (1, g_r 7 r1), (2, g_i x2)] [] 0 (g_jV o) := by
  intro r0 r1 x2 s0 h
  unfold f_Re_nameInto at h
  refine r_aload_n hK d_Re_nameInto_0 rfl 1 rfl ?_
  refine r_gR hK fd_Pa_4 w3_107 d_Re_nameInto_1 h (fun p1 h => ?_)
  refine r_iload_n hK d_Re_nameInto_4 rfl 2 rfl ?_
  refine r_aload_n hK d_Re_nameInto_5 rfl 0 rfl ?_
  refine r_gR hK fd_Re_3 w1_61 d_Re_nameInto_6 h (fun p2 h => ?_)
  refine r_aload_n hK d_Re_nameInto_9 rfl 0 rfl ?_
  refine r_gI hK fd_Re_5 w1_63 d_Re_nameInto_10 h (fun i3 h => ?_)
  refine r_iaload hK ar_20 rfl d_Re_nameInto_13 h (fun i4 h => ?_)
  refine r_iastore hK ar_20 rfl d_Re_nameInto_14 h (fun s5 h => ?_)
  refine r_aload_n hK d_Re_nameInto_15 rfl 1 rfl ?_
  refine r_gR hK fd_Pa_3 w3_104 d_Re_nameInto_16 h (fun p6 h => ?_)
  refine r_iload_n hK d_Re_nameInto_19 rfl 2 rfl ?_
  refine r_aload_n hK d_Re_nameInto_20 rfl 0 rfl ?_
  refine r_Vl (avL := []) (st := [g_i x2, g_r 21 p6]) hK ob_Re rfl w3_186 w3_187 w3_185 w3_188 w1_2 (by decide) pl_Re_name (by rw [hD]; decide) (Nat.le_of_ble_eq_true rfl) rfl d_Re_nameInto_21 (fun o9 h9 => c_Re_name _ _ _ _ o9 h9) h (fun j7 s8 h => ?_)
  refine r_lastore hK ar_21 rfl d_Re_nameInto_24 h (fun s9 h => ?_)
  exact r_return hK d_Re_nameInto_25 h
theorem c_Re_nameInto (l : Launch) (G : g_G) (r0 : Option Nat) (r1 : Option Nat) (x2 : Int32) (u : g_St) (o : (Unit × g_St)) (h : f_Re_nameInto r0 r1 x2 u = some o) : g_Con l G y_Re_nameInto b_Re_nameInto 3 (Option.none : Option Jvm.ClassFile.FieldType) 2 [g_r 2 r0, g_r 7 r1, g_i x2] u (g_jV o) :=
  g_Con.of rfl rfl (by decide +kernel) (Nat.le_of_ble_eq_true rfl) (fun K hK hN hD hX => t_Re_nameInto_0 hK hN hD _ _ _ _ h)
