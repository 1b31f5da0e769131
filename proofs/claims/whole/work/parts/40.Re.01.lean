def f_Re_init (r0 : Option Nat) (s0 : g_St) : Option (Unit × g_St) :=
  g_nn r0 (
  g_newA s0 22 400 fun p1 s2 =>
  g_pR s2 2 r0 p1 fun s3 =>
  g_newA s3 23 401 fun p4 s5 =>
  g_pR s5 130 r0 p4 fun s6 =>
  g_newA s6 20 401 fun p7 s8 =>
  g_pR s8 194 r0 p7 fun s9 =>
  g_newA s9 21 401 fun p10 s11 =>
  g_pR s11 258 r0 p10 fun s12 =>
  some ((), s12))
set_option maxHeartbeats 4000000 in
set_option maxRecDepth 100000 in
theorem t_Re_init_0 {K : g_C} {o : (Unit × g_St)} (hK : g_OK K b_Re_init "FixpointEngine$Reader" "<init>" (Option.none : Option Jvm.ClassFile.FieldType)) (hN : g_nL K = 1) (hD : g_Kd K = 2) : ∀ (r0 : Option Nat) (s0 : g_St), f_Re_init r0 s0 = some o → g_W K s0 [(0, g_r 2 r0)] [] 0 (g_jV o) := by
  intro r0 s0 h
  unfold f_Re_init at h
  refine r_aload_n hK d_Re_init_0 rfl 0 rfl ?_
  refine r_objinit hK w1_54 (by rw [hD]; decide) (Nat.le_of_ble_eq_true rfl) d_Re_init_1 h (fun h => ?_)
  refine r_aload_n hK d_Re_init_4 rfl 0 rfl ?_
  refine r_sipush (v := 400) hK d_Re_init_5 (by decide) ?_
  refine r_newarray (index := 0) hK (ty := .char) rfl rfl (by decide) w1_89 ar_22 d_Re_init_8 h (fun p1 s2 h => ?_)
  refine r_pRF hK pd_22 rfl (Or.inr rfl) fd_Re_0 rfl w1_57 d_Re_init_10 h (fun s3 h => ?_)
  refine r_aload_n hK d_Re_init_13 rfl 0 rfl ?_
  refine r_sipush (v := 401) hK d_Re_init_14 (by decide) ?_
  refine r_anewarray hK rfl w1_55 w1_56 ar_23 d_Re_init_17 h (fun p4 s5 h => ?_)
  refine r_pRF hK pd_23 rfl (Or.inr rfl) fd_Re_2 rfl w1_60 d_Re_init_20 h (fun s6 h => ?_)
  refine r_aload_n hK d_Re_init_23 rfl 0 rfl ?_
  refine r_sipush (v := 401) hK d_Re_init_24 (by decide) ?_
  refine r_newarray (index := 0) hK (ty := .int) rfl rfl (by decide) w1_90 ar_20 d_Re_init_27 h (fun p7 s8 h => ?_)
  refine r_pRF hK pd_20 rfl (Or.inr rfl) fd_Re_3 rfl w1_61 d_Re_init_29 h (fun s9 h => ?_)
  refine r_aload_n hK d_Re_init_32 rfl 0 rfl ?_
  refine r_sipush (v := 401) hK d_Re_init_33 (by decide) ?_
  refine r_newarray (index := 0) hK (ty := .long) rfl rfl (by decide) w1_91 ar_21 d_Re_init_36 h (fun p10 s11 h => ?_)
  refine r_pRF hK pd_21 rfl (Or.inr rfl) fd_Re_4 rfl w1_62 d_Re_init_38 h (fun s12 h => ?_)
  exact r_return hK d_Re_init_41 h
theorem c_Re_init (l : Launch) (G : g_G) (r0 : Option Nat) (u : g_St) (o : (Unit × g_St)) (h : f_Re_init r0 u = some o) : g_Con l G y_Re_init b_Re_init 1 (Option.none : Option Jvm.ClassFile.FieldType) 2 [g_r 2 r0] u (g_jV o) :=
  g_Con.of rfl rfl (by decide +kernel) (Nat.le_of_ble_eq_true rfl) (fun K hK hN hD => t_Re_init_0 hK hN hD _ _ h)
def f_Re_take_3 : Nat → Option Nat → Int32 → Int32 → g_St → Option (Int32 × g_St)
  | 0, _, _, _, _ => none
  | n + 1, r0, x1, x2, s0 =>
    if x2 < 0 then
      g_rZ 1 (some (1, s0))
    else
      if (((x1.toUInt32 >>> (x2.toUInt32 &&& Int32.toUInt32 31)).toInt32) &&& 255) = 0 then
        f_Re_take_3 n r0 x1 (x2 + (-8)) s0
      else
        if (((x1.toUInt32 >>> (x2.toUInt32 &&& Int32.toUInt32 31)).toInt32) &&& 255) < 32 then
          g_rZ 0 (some (0, s0))
        else
          if 126 < (((x1.toUInt32 >>> (x2.toUInt32 &&& Int32.toUInt32 31)).toInt32) &&& 255) then
            g_rZ 0 (some (0, s0))
          else
            g_gI s0 66 r0 fun i1 =>
            if i1 < 400 then
              g_gR s0 2 r0 fun p2 =>
              g_gI s0 66 r0 fun i3 =>
              g_sC s0 p2 i3 (((((x1.toUInt32 >>> (x2.toUInt32 &&& Int32.toUInt32 31)).toInt32) &&& 255).toUInt32 % 65536).toInt32) fun s4 =>
              g_gI s4 66 r0 fun i5 =>
              g_pI s4 66 r0 (i5 + 1) fun s6 =>
              f_Re_take_3 n r0 x1 (x2 + (-8)) s6
            else
              g_rZ 0 (some (0, s0))
def f_Re_take (r0 : Option Nat) (x1 : Int32) (s0 : g_St) : Option (Int32 × g_St) :=
  f_Re_take_3 100000 r0 x1 24 s0
set_option maxHeartbeats 4000000 in
set_option maxRecDepth 100000 in
theorem t_Re_take_3 {K : g_C} {o : (Int32 × g_St)} (hK : g_OK K b_Re_take "FixpointEngine$Reader" "take" (Option.some Jvm.ClassFile.FieldType.boolean)) (hN : g_nL K = 4) (hD : g_Kd K = 1) : ∀ (n : Nat) (r0 : Option Nat) (x1 : Int32) (x2 : Int32) (s0 : g_St), f_Re_take_3 n r0 x1 x2 s0 = some o → g_W K s0 [(0, g_r 2 r0), (1, g_i x1), (2, g_i x2)] [] 3 (g_jI o) := by
  intro n
  induction n with
  | zero =>
    intro r0 x1 x2 s0 h
    cases h
  | succ n ih =>
    intro r0 x1 x2 s0 h
    unfold f_Re_take_3 at h
    refine r_iload_n hK d_Re_take_3 rfl 2 rfl ?_
    refine r_iflt (tgt := 73) hK d_Re_take_4 (by decide) h (fun h => ?_) (fun h => ?_)
    · refine r_iconst (v := 1) hK d_Re_take_73 (by decide) ?_
      exact r_zreturn hK d_Re_take_74 h
    · refine r_iload_n hK d_Re_take_7 rfl 1 rfl ?_
      refine r_iload_n hK d_Re_take_8 rfl 2 rfl ?_
      refine r_iushr hK d_Re_take_9 ?_
      refine r_sipush (v := 255) hK d_Re_take_10 (by decide) ?_
      refine r_iand hK d_Re_take_13 ?_
      refine r_istore_n (ls1 := [(3, g_i (((x1.toUInt32 >>> (x2.toUInt32 &&& Int32.toUInt32 31)).toInt32) &&& 255)), (0, g_r 2 r0), (1, g_i x1), (2, g_i x2)]) hK d_Re_take_14 rfl (by rw [hN]; decide) rfl ?_
      refine r_iload_n hK d_Re_take_15 rfl 0 rfl ?_
      refine r_ifne (tgt := 22) hK d_Re_take_16 (by decide) h (fun h => ?_) (fun h => ?_)
      · refine r_iload_n hK d_Re_take_22 rfl 0 rfl ?_
        refine r_bipush (v := 32) hK d_Re_take_23 (by decide) ?_
        refine r_if_icmplt (tgt := 44) hK d_Re_take_25 (by decide) h (fun h => ?_) (fun h => ?_)
        · refine r_iconst (v := 0) hK d_Re_take_44 (by decide) ?_
          exact r_zreturn hK d_Re_take_45 h
        · refine r_iload_n hK d_Re_take_28 rfl 0 rfl ?_
          refine r_bipush (v := 126) hK d_Re_take_29 (by decide) ?_
          refine r_if_icmpgt (tgt := 44) hK d_Re_take_31 (by decide) h (fun h => ?_) (fun h => ?_)
          · refine r_iconst (v := 0) hK d_Re_take_44 (by decide) ?_
            exact r_zreturn hK d_Re_take_45 h
          · refine r_aload_n hK d_Re_take_34 rfl 1 rfl ?_
            refine r_gI hK fd_Re_1 w1_58 d_Re_take_35 h (fun i1 h => ?_)
            refine r_sipush (v := 400) hK d_Re_take_38 (by decide) ?_
            refine r_if_icmplt (tgt := 46) hK d_Re_take_41 (by decide) h (fun h => ?_) (fun h => ?_)
            · refine r_aload_n hK d_Re_take_46 rfl 1 rfl ?_
              refine r_gR hK fd_Re_0 w1_57 d_Re_take_47 h (fun p2 h => ?_)
              refine r_aload_n hK d_Re_take_50 rfl 1 rfl ?_
              refine r_gI hK fd_Re_1 w1_58 d_Re_take_51 h (fun i3 h => ?_)
              refine r_iload_n hK d_Re_take_54 rfl 0 rfl ?_
              refine r_i2c hK d_Re_take_55 ?_
              refine r_castore hK ar_22 rfl d_Re_take_56 h (fun s4 h => ?_)
              refine r_aload_n hK d_Re_take_57 rfl 1 rfl ?_
              refine r_dup hK d_Re_take_58 rfl ?_
              refine r_gI hK fd_Re_1 w1_58 d_Re_take_59 h (fun i5 h => ?_)
              refine r_iconst (v := 1) hK d_Re_take_62 (by decide) ?_
              refine r_iadd hK d_Re_take_63 ?_
              refine r_pI hK fd_Re_1 rfl w1_58 d_Re_take_64 h (fun s6 h => ?_)
              refine r_iinc (ls1 := [(2, g_i (x2 + (-8))), (3, g_i (((x1.toUInt32 >>> (x2.toUInt32 &&& Int32.toUInt32 31)).toInt32) &&& 255)), (0, g_r 2 r0), (1, g_i x1)]) hK d_Re_take_67 3 rfl rfl (by rw [hN]; decide) rfl ?_
              refine r_goto (tgt := 3) hK d_Re_take_70 (by decide) ?_
              exact r_sub [2, 3, 0] rfl (ih _ _ _ _ h)
            · refine r_iconst (v := 0) hK d_Re_take_44 (by decide) ?_
              exact r_zreturn hK d_Re_take_45 h
      · refine r_goto (tgt := 67) hK d_Re_take_19 (by decide) ?_
        refine r_iinc (ls1 := [(2, g_i (x2 + (-8))), (3, g_i (((x1.toUInt32 >>> (x2.toUInt32 &&& Int32.toUInt32 31)).toInt32) &&& 255)), (0, g_r 2 r0), (1, g_i x1)]) hK d_Re_take_67 3 rfl rfl (by rw [hN]; decide) rfl ?_
        refine r_goto (tgt := 3) hK d_Re_take_70 (by decide) ?_
        exact r_sub [2, 3, 0] rfl (ih _ _ _ _ h)
set_option maxHeartbeats 4000000 in
set_option maxRecDepth 100000 in
theorem t_Re_take_0 {K : g_C} {o : (Int32 × g_St)} (hK : g_OK K b_Re_take "FixpointEngine$Reader" "take" (Option.some Jvm.ClassFile.FieldType.boolean)) (hN : g_nL K = 4) (hD : g_Kd K = 1) : ∀ (r0 : Option Nat) (x1 : Int32) (s0 : g_St), f_Re_take r0 x1 s0 = some o → g_W K s0 [(0, g_r 2 r0), (1, g_i x1)] [] 0 (g_jI o) := by
  intro r0 x1 s0 h
  unfold f_Re_take at h
  refine r_bipush (v := 24) hK d_Re_take_0 (by decide) ?_
  refine r_istore_n (ls1 := [(2, g_i 24), (0, g_r 2 r0), (1, g_i x1)]) hK d_Re_take_2 rfl (by rw [hN]; decide) rfl ?_
  exact r_sub [1, 2, 0] rfl (t_Re_take_3 hK hN hD _ _ _ _ _ h)
theorem c_Re_take (l : Launch) (G : g_G) (r0 : Option Nat) (x1 : Int32) (u : g_St) (o : (Int32 × g_St)) (h : f_Re_take r0 x1 u = some o) : g_Con l G y_Re_take b_Re_take 4 (Option.some Jvm.ClassFile.FieldType.boolean) 1 [g_r 2 r0, g_i x1] u (g_jI o) :=
  g_Con.of rfl rfl (by decide +kernel) (Nat.le_of_ble_eq_true rfl) (fun K hK hN hD => t_Re_take_0 hK hN hD _ _ _ h)
def f_Re_isSmall (x0 : Int32) (s0 : g_St) : Option (Int32 × g_St) :=
  if x0 < 97 then
    g_rZ 0 (some (0, s0))
  else
    if 122 < x0 then
      g_rZ 0 (some (0, s0))
    else
      g_rZ 1 (some (1, s0))
set_option maxHeartbeats 4000000 in
set_option maxRecDepth 100000 in
theorem t_Re_isSmall_0 {K : g_C} {o : (Int32 × g_St)} (hK : g_OK K b_Re_isSmall "FixpointEngine$Reader" "isSmall" (Option.some Jvm.ClassFile.FieldType.boolean)) (hN : g_nL K = 1) (hD : g_Kd K = 1) : ∀ (x0 : Int32) (s0 : g_St), f_Re_isSmall x0 s0 = some o → g_W K s0 [(0, g_i x0)] [] 0 (g_jI o) := by
  intro x0 s0 h
  unfold f_Re_isSmall at h
  refine r_iload_n hK d_Re_isSmall_0 rfl 0 rfl ?_
  refine r_bipush (v := 97) hK d_Re_isSmall_1 (by decide) ?_
  refine r_if_icmplt (tgt := 16) hK d_Re_isSmall_3 (by decide) h (fun h => ?_) (fun h => ?_)
  · refine r_iconst (v := 0) hK d_Re_isSmall_16 (by decide) ?_
    exact r_zreturn hK d_Re_isSmall_17 h
  · refine r_iload_n hK d_Re_isSmall_6 rfl 0 rfl ?_
    refine r_bipush (v := 122) hK d_Re_isSmall_7 (by decide) ?_
    refine r_if_icmpgt (tgt := 16) hK d_Re_isSmall_9 (by decide) h (fun h => ?_) (fun h => ?_)
    · refine r_iconst (v := 0) hK d_Re_isSmall_16 (by decide) ?_
      exact r_zreturn hK d_Re_isSmall_17 h
    · refine r_iconst (v := 1) hK d_Re_isSmall_12 (by decide) ?_
      refine r_goto (tgt := 17) hK d_Re_isSmall_13 (by decide) ?_
      exact r_zreturn hK d_Re_isSmall_17 h
theorem c_Re_isSmall (l : Launch) (G : g_G) (x0 : Int32) (u : g_St) (o : (Int32 × g_St)) (h : f_Re_isSmall x0 u = some o) : g_Con l G y_Re_isSmall b_Re_isSmall 1 (Option.some Jvm.ClassFile.FieldType.boolean) 1 [g_i x0] u (g_jI o) :=
  g_Con.of rfl rfl (by decide +kernel) (Nat.le_of_ble_eq_true rfl) (fun K hK hN hD => t_Re_isSmall_0 hK hN hD _ _ h)
def f_Re_isDigit (x0 : Int32) (s0 : g_St) : Option (Int32 × g_St) :=
  if x0 < 48 then
    g_rZ 0 (some (0, s0))
  else
    if 57 < x0 then
      g_rZ 0 (some (0, s0))
    else
      g_rZ 1 (some (1, s0))
set_option maxHeartbeats 4000000 in
set_option maxRecDepth 100000 in
theorem t_Re_isDigit_0 {K : g_C} {o : (Int32 × g_St)} (hK : g_OK K b_Re_isDigit "FixpointEngine$Reader" "isDigit" (Option.some Jvm.ClassFile.FieldType.boolean)) (hN : g_nL K = 1) (hD : g_Kd K = 1) : ∀ (x0 : Int32) (s0 : g_St), f_Re_isDigit x0 s0 = some o → g_W K s0 [(0, g_i x0)] [] 0 (g_jI o) := by
  intro x0 s0 h
  unfold f_Re_isDigit at h
  refine r_iload_n hK d_Re_isDigit_0 rfl 0 rfl ?_
  refine r_bipush (v := 48) hK d_Re_isDigit_1 (by decide) ?_
  refine r_if_icmplt (tgt := 16) hK d_Re_isDigit_3 (by decide) h (fun h => ?_) (fun h => ?_)
  · refine r_iconst (v := 0) hK d_Re_isDigit_16 (by decide) ?_
    exact r_zreturn hK d_Re_isDigit_17 h
  · refine r_iload_n hK d_Re_isDigit_6 rfl 0 rfl ?_
    refine r_bipush (v := 57) hK d_Re_isDigit_7 (by decide) ?_
    refine r_if_icmpgt (tgt := 16) hK d_Re_isDigit_9 (by decide) h (fun h => ?_) (fun h => ?_)
    · refine r_iconst (v := 0) hK d_Re_isDigit_16 (by decide) ?_
      exact r_zreturn hK d_Re_isDigit_17 h
    · refine r_iconst (v := 1) hK d_Re_isDigit_12 (by decide) ?_
      refine r_goto (tgt := 17) hK d_Re_isDigit_13 (by decide) ?_
      exact r_zreturn hK d_Re_isDigit_17 h
theorem c_Re_isDigit (l : Launch) (G : g_G) (x0 : Int32) (u : g_St) (o : (Int32 × g_St)) (h : f_Re_isDigit x0 u = some o) : g_Con l G y_Re_isDigit b_Re_isDigit 1 (Option.some Jvm.ClassFile.FieldType.boolean) 1 [g_i x0] u (g_jI o) :=
  g_Con.of rfl rfl (by decide +kernel) (Nat.le_of_ble_eq_true rfl) (fun K hK hN hD => t_Re_isDigit_0 hK hN hD _ _ h)
def f_Re_isCapital (x0 : Int32) (s0 : g_St) : Option (Int32 × g_St) :=
  if x0 < 65 then
    g_rZ 0 (some (0, s0))
  else
    if 90 < x0 then
      g_rZ 0 (some (0, s0))
    else
      g_rZ 1 (some (1, s0))
set_option maxHeartbeats 4000000 in
set_option maxRecDepth 100000 in
theorem t_Re_isCapital_0 {K : g_C} {o : (Int32 × g_St)} (hK : g_OK K b_Re_isCapital "FixpointEngine$Reader" "isCapital" (Option.some Jvm.ClassFile.FieldType.boolean)) (hN : g_nL K = 1) (hD : g_Kd K = 1) : ∀ (x0 : Int32) (s0 : g_St), f_Re_isCapital x0 s0 = some o → g_W K s0 [(0, g_i x0)] [] 0 (g_jI o) := by
  intro x0 s0 h
  unfold f_Re_isCapital at h
  refine r_iload_n hK d_Re_isCapital_0 rfl 0 rfl ?_
  refine r_bipush (v := 65) hK d_Re_isCapital_1 (by decide) ?_
  refine r_if_icmplt (tgt := 16) hK d_Re_isCapital_3 (by decide) h (fun h => ?_) (fun h => ?_)
  · refine r_iconst (v := 0) hK d_Re_isCapital_16 (by decide) ?_
    exact r_zreturn hK d_Re_isCapital_17 h
  · refine r_iload_n hK d_Re_isCapital_6 rfl 0 rfl ?_
    refine r_bipush (v := 90) hK d_Re_isCapital_7 (by decide) ?_
    refine r_if_icmpgt (tgt := 16) hK d_Re_isCapital_9 (by decide) h (fun h => ?_) (fun h => ?_)
    · refine r_iconst (v := 0) hK d_Re_isCapital_16 (by decide) ?_
      exact r_zreturn hK d_Re_isCapital_17 h
    · refine r_iconst (v := 1) hK d_Re_isCapital_12 (by decide) ?_
      refine r_goto (tgt := 17) hK d_Re_isCapital_13 (by decide) ?_
      exact r_zreturn hK d_Re_isCapital_17 h
theorem c_Re_isCapital (l : Launch) (G : g_G) (x0 : Int32) (u : g_St) (o : (Int32 × g_St)) (h : f_Re_isCapital x0 u = some o) : g_Con l G y_Re_isCapital b_Re_isCapital 1 (Option.some Jvm.ClassFile.FieldType.boolean) 1 [g_i x0] u (g_jI o) :=
  g_Con.of rfl rfl (by decide +kernel) (Nat.le_of_ble_eq_true rfl) (fun K hK hN hD => t_Re_isCapital_0 hK hN hD _ _ h)
def f_Re_belongs (x0 : Int32) (x1 : Int32) (s0 : g_St) : Option (Int32 × g_St) :=
  g_c (f_Re_isSmall x0 s0) fun i1 s2 =>
  if i1 = 0 then
    g_c (f_Re_isDigit x0 s2) fun i3 s4 =>
    if i3 = 0 then
      g_c (f_Re_isCapital x0 s4) fun i5 s6 =>
      if i5 = 0 then
        g_rZ 0 (some (0, s6))
      else
        g_c (f_Re_isCapital x1 s6) fun i7 s8 =>
        if i7 = 0 then
          g_rZ 0 (some (0, s8))
        else
          g_rZ 1 (some (1, s8))
    else
      g_c (f_Re_isDigit x1 s4) fun i9 s10 =>
      g_rZ i9 (some (i9, s10))
  else
    g_c (f_Re_isSmall x1 s2) fun i11 s12 =>
    if i11 = 0 then
      g_c (f_Re_isDigit x1 s12) fun i13 s14 =>
      if i13 = 0 then
        g_rZ 0 (some (0, s14))
      else
        g_rZ 1 (some (1, s14))
    else
      g_rZ 1 (some (1, s12))
set_option maxHeartbeats 4000000 in
set_option maxRecDepth 100000 in
theorem t_Re_belongs_0 {K : g_C} {o : (Int32 × g_St)} (hK : g_OK K b_Re_belongs "FixpointEngine$Reader" "belongs" (Option.some Jvm.ClassFile.FieldType.boolean)) (hN : g_nL K = 2) (hD : g_Kd K = 2) : ∀ (x0 : Int32) (x1 : Int32) (s0 : g_St), f_Re_belongs x0 x1 s0 = some o → g_W K s0 [(0, g_i x0), (1, g_i x1)] [] 0 (g_jI o) := by
  intro x0 x1 s0 h
  unfold f_Re_belongs at h
  refine r_iload_n hK d_Re_belongs_0 rfl 0 rfl ?_
  refine r_Si (avL := [g_i x0]) (st := []) hK w2_146 w2_145 w2_147 w1_2 (by decide) pl_Re_isSmall (by rw [hD]; decide) (Nat.le_of_ble_eq_true rfl) rfl d_Re_belongs_1 (fun o9 h9 => c_Re_isSmall _ _ _ _ o9 h9) h (fun i1 s2 h => ?_)
  refine r_ifeq (tgt := 27) hK d_Re_belongs_4 (by decide) h (fun h => ?_) (fun h => ?_)
  · refine r_iload_n hK d_Re_belongs_27 rfl 0 rfl ?_
    refine r_Si (avL := [g_i x0]) (st := []) hK w2_149 w2_148 w2_150 w1_2 (by decide) pl_Re_isDigit (by rw [hD]; decide) (Nat.le_of_ble_eq_true rfl) rfl d_Re_belongs_28 (fun o9 h9 => c_Re_isDigit _ _ _ _ o9 h9) h (fun i3 s4 h => ?_)
    refine r_ifeq (tgt := 39) hK d_Re_belongs_31 (by decide) h (fun h => ?_) (fun h => ?_)
    · refine r_iload_n hK d_Re_belongs_39 rfl 0 rfl ?_
      refine r_Si (avL := [g_i x0]) (st := []) hK w2_152 w2_151 w2_153 w1_2 (by decide) pl_Re_isCapital (by rw [hD]; decide) (Nat.le_of_ble_eq_true rfl) rfl d_Re_belongs_40 (fun o9 h9 => c_Re_isCapital _ _ _ _ o9 h9) h (fun i5 s6 h => ?_)
      refine r_ifeq (tgt := 57) hK d_Re_belongs_43 (by decide) h (fun h => ?_) (fun h => ?_)
      · refine r_iconst (v := 0) hK d_Re_belongs_57 (by decide) ?_
        exact r_zreturn hK d_Re_belongs_58 h
      · refine r_iload_n hK d_Re_belongs_46 rfl 1 rfl ?_
        refine r_Si (avL := [g_i x1]) (st := []) hK w2_152 w2_151 w2_153 w1_2 (by decide) pl_Re_isCapital (by rw [hD]; decide) (Nat.le_of_ble_eq_true rfl) rfl d_Re_belongs_47 (fun o9 h9 => c_Re_isCapital _ _ _ _ o9 h9) h (fun i7 s8 h => ?_)
        refine r_ifeq (tgt := 57) hK d_Re_belongs_50 (by decide) h (fun h => ?_) (fun h => ?_)
        · refine r_iconst (v := 0) hK d_Re_belongs_57 (by decide) ?_
          exact r_zreturn hK d_Re_belongs_58 h
        · refine r_iconst (v := 1) hK d_Re_belongs_53 (by decide) ?_
          refine r_goto (tgt := 58) hK d_Re_belongs_54 (by decide) ?_
          exact r_zreturn hK d_Re_belongs_58 h
    · refine r_iload_n hK d_Re_belongs_34 rfl 1 rfl ?_
      refine r_Si (avL := [g_i x1]) (st := []) hK w2_149 w2_148 w2_150 w1_2 (by decide) pl_Re_isDigit (by rw [hD]; decide) (Nat.le_of_ble_eq_true rfl) rfl d_Re_belongs_35 (fun o9 h9 => c_Re_isDigit _ _ _ _ o9 h9) h (fun i9 s10 h => ?_)
      exact r_zreturn hK d_Re_belongs_38 h
  · refine r_iload_n hK d_Re_belongs_7 rfl 1 rfl ?_
    refine r_Si (avL := [g_i x1]) (st := []) hK w2_146 w2_145 w2_147 w1_2 (by decide) pl_Re_isSmall (by rw [hD]; decide) (Nat.le_of_ble_eq_true rfl) rfl d_Re_belongs_8 (fun o9 h9 => c_Re_isSmall _ _ _ _ o9 h9) h (fun i11 s12 h => ?_)
    refine r_ifne (tgt := 21) hK d_Re_belongs_11 (by decide) h (fun h => ?_) (fun h => ?_)
    · refine r_iconst (v := 1) hK d_Re_belongs_21 (by decide) ?_
      refine r_goto (tgt := 26) hK d_Re_belongs_22 (by decide) ?_
      exact r_zreturn hK d_Re_belongs_26 h
    · refine r_iload_n hK d_Re_belongs_14 rfl 1 rfl ?_
      refine r_Si (avL := [g_i x1]) (st := []) hK w2_149 w2_148 w2_150 w1_2 (by decide) pl_Re_isDigit (by rw [hD]; decide) (Nat.le_of_ble_eq_true rfl) rfl d_Re_belongs_15 (fun o9 h9 => c_Re_isDigit _ _ _ _ o9 h9) h (fun i13 s14 h => ?_)
      refine r_ifeq (tgt := 25) hK d_Re_belongs_18 (by decide) h (fun h => ?_) (fun h => ?_)
      · refine r_iconst (v := 0) hK d_Re_belongs_25 (by decide) ?_
        exact r_zreturn hK d_Re_belongs_26 h
      · refine r_iconst (v := 1) hK d_Re_belongs_21 (by decide) ?_
        refine r_goto (tgt := 26) hK d_Re_belongs_22 (by decide) ?_
        exact r_zreturn hK d_Re_belongs_26 h
theorem c_Re_belongs (l : Launch) (G : g_G) (x0 : Int32) (x1 : Int32) (u : g_St) (o : (Int32 × g_St)) (h : f_Re_belongs x0 x1 u = some o) : g_Con l G y_Re_belongs b_Re_belongs 2 (Option.some Jvm.ClassFile.FieldType.boolean) 2 [g_i x0, g_i x1] u (g_jI o) :=
  g_Con.of rfl rfl (by decide +kernel) (Nat.le_of_ble_eq_true rfl) (fun K hK hN hD => t_Re_belongs_0 hK hN hD _ _ _ h)
def f_Re_endOf_44 : Nat → Option Nat → Int32 → Int32 → g_St → Option (Int32 × g_St)
  | 0, _, _, _, _ => none
  | n + 1, r0, x2, x3, s0 =>
    g_gI s0 66 r0 fun i1 =>
    if i1 ≤ x3 then
      some (x3, s0)
    else
      g_gR s0 2 r0 fun p2 =>
      g_aI s0 p2 x3 fun i3 =>
      g_c (f_Re_belongs x2 i3 s0) fun i4 s5 =>
      if i4 = 0 then
        some (x3, s5)
      else
        f_Re_endOf_44 n r0 x2 (x3 + 1) s5
def f_Re_endOf (r0 : Option Nat) (x1 : Int32) (s0 : g_St) : Option (Int32 × g_St) :=
  g_gR s0 2 r0 fun p1 =>
  g_aI s0 p1 x1 fun i2 =>
  if i2 = 60 then
    g_gI s0 66 r0 fun i3 =>
    if i3 ≤ (x1 + 1) then
      f_Re_endOf_44 100000 r0 i2 (x1 + 1) s0
    else
      g_gR s0 2 r0 fun p4 =>
      g_aI s0 p4 (x1 + 1) fun i5 =>
      if i5 = 62 then
        some (x1 + 2, s0)
      else
        f_Re_endOf_44 100000 r0 i2 (x1 + 1) s0
  else
    f_Re_endOf_44 100000 r0 i2 (x1 + 1) s0
set_option maxHeartbeats 4000000 in
set_option maxRecDepth 100000 in
theorem t_Re_endOf_44 {K : g_C} {o : (Int32 × g_St)} (hK : g_OK K b_Re_endOf "FixpointEngine$Reader" "endOf" (Option.some Jvm.ClassFile.FieldType.int)) (hN : g_nL K = 4) (hD : g_Kd K = 3) : ∀ (n : Nat) (r0 : Option Nat) (x2 : Int32) (x3 : Int32) (s0 : g_St), f_Re_endOf_44 n r0 x2 x3 s0 = some o → g_W K s0 [(0, g_r 2 r0), (2, g_i x2), (3, g_i x3)] [] 44 (g_jI o) := by
  intro n
  induction n with
  | zero =>
    intro r0 x2 x3 s0 h
    cases h
  | succ n ih =>
    intro r0 x2 x3 s0 h
    unfold f_Re_endOf_44 at h
    refine r_iload_n hK d_Re_endOf_44 rfl 2 rfl ?_
    refine r_aload_n hK d_Re_endOf_45 rfl 0 rfl ?_
    refine r_gI hK fd_Re_1 w1_58 d_Re_endOf_46 h (fun i1 h => ?_)
    refine r_if_icmpge (tgt := 71) hK d_Re_endOf_49 (by decide) h (fun h => ?_) (fun h => ?_)
    · refine r_iload_n hK d_Re_endOf_71 rfl 2 rfl ?_
      exact r_ireturn hK d_Re_endOf_72 h
    · refine r_iload_n hK d_Re_endOf_52 rfl 1 rfl ?_
      refine r_aload_n hK d_Re_endOf_53 rfl 0 rfl ?_
      refine r_gR hK fd_Re_0 w1_57 d_Re_endOf_54 h (fun p2 h => ?_)
      refine r_iload_n hK d_Re_endOf_57 rfl 2 rfl ?_
      refine r_caload hK ar_22 d_Re_endOf_58 h (fun i3 h => ?_)
      refine r_Si (avL := [g_i x2, g_i i3]) (st := []) hK w2_143 w2_142 w2_144 w1_2 (by decide) pl_Re_belongs (by rw [hD]; decide) (Nat.le_of_ble_eq_true rfl) rfl d_Re_endOf_59 (fun o9 h9 => c_Re_belongs _ _ _ _ _ o9 h9) h (fun i4 s5 h => ?_)
      refine r_ifeq (tgt := 71) hK d_Re_endOf_62 (by decide) h (fun h => ?_) (fun h => ?_)
      · refine r_iload_n hK d_Re_endOf_71 rfl 2 rfl ?_
        exact r_ireturn hK d_Re_endOf_72 h
      · refine r_iinc (ls1 := [(3, g_i (x3 + 1)), (0, g_r 2 r0), (2, g_i x2)]) hK d_Re_endOf_65 2 rfl rfl (by rw [hN]; decide) rfl ?_
        refine r_goto (tgt := 44) hK d_Re_endOf_68 (by decide) ?_
        exact r_sub [1, 2, 0] rfl (ih _ _ _ _ h)
set_option maxHeartbeats 4000000 in
set_option maxRecDepth 100000 in
theorem t_Re_endOf_0 {K : g_C} {o : (Int32 × g_St)} (hK : g_OK K b_Re_endOf "FixpointEngine$Reader" "endOf" (Option.some Jvm.ClassFile.FieldType.int)) (hN : g_nL K = 4) (hD : g_Kd K = 3) : ∀ (r0 : Option Nat) (x1 : Int32) (s0 : g_St), f_Re_endOf r0 x1 s0 = some o → g_W K s0 [(0, g_r 2 r0), (1, g_i x1)] [] 0 (g_jI o) := by
  intro r0 x1 s0 h
  unfold f_Re_endOf at h
  refine r_aload_n hK d_Re_endOf_0 rfl 0 rfl ?_
  refine r_gR hK fd_Re_0 w1_57 d_Re_endOf_1 h (fun p1 h => ?_)
  refine r_iload_n hK d_Re_endOf_4 rfl 1 rfl ?_
  refine r_caload hK ar_22 d_Re_endOf_5 h (fun i2 h => ?_)
  refine r_istore_n (ls1 := [(2, g_i i2), (0, g_r 2 r0), (1, g_i x1)]) hK d_Re_endOf_6 rfl (by rw [hN]; decide) rfl ?_
  refine r_iload_n hK d_Re_endOf_7 rfl 0 rfl ?_
  refine r_bipush (v := 60) hK d_Re_endOf_8 (by decide) ?_
  refine r_if_icmpne (tgt := 40) hK d_Re_endOf_10 (by decide) h (fun h => ?_) (fun h => ?_)
  · refine r_iload_n hK d_Re_endOf_40 rfl 2 rfl ?_
    refine r_iconst (v := 1) hK d_Re_endOf_41 (by decide) ?_
    refine r_iadd hK d_Re_endOf_42 ?_
    refine r_istore_n (ls1 := [(3, g_i (x1 + 1)), (2, g_i i2), (0, g_r 2 r0), (1, g_i x1)]) hK d_Re_endOf_43 rfl (by rw [hN]; decide) rfl ?_
    exact r_sub [2, 1, 0] rfl (t_Re_endOf_44 hK hN hD _ _ _ _ _ h)
  · refine r_iload_n hK d_Re_endOf_13 rfl 2 rfl ?_
    refine r_iconst (v := 1) hK d_Re_endOf_14 (by decide) ?_
    refine r_iadd hK d_Re_endOf_15 ?_
    refine r_aload_n hK d_Re_endOf_16 rfl 1 rfl ?_
    refine r_gI hK fd_Re_1 w1_58 d_Re_endOf_17 h (fun i3 h => ?_)
    refine r_if_icmpge (tgt := 40) hK d_Re_endOf_20 (by decide) h (fun h => ?_) (fun h => ?_)
    · refine r_iload_n hK d_Re_endOf_40 rfl 2 rfl ?_
      refine r_iconst (v := 1) hK d_Re_endOf_41 (by decide) ?_
      refine r_iadd hK d_Re_endOf_42 ?_
      refine r_istore_n (ls1 := [(3, g_i (x1 + 1)), (2, g_i i2), (0, g_r 2 r0), (1, g_i x1)]) hK d_Re_endOf_43 rfl (by rw [hN]; decide) rfl ?_
      exact r_sub [2, 1, 0] rfl (t_Re_endOf_44 hK hN hD _ _ _ _ _ h)
    · refine r_aload_n hK d_Re_endOf_23 rfl 1 rfl ?_
      refine r_gR hK fd_Re_0 w1_57 d_Re_endOf_24 h (fun p4 h => ?_)
      refine r_iload_n hK d_Re_endOf_27 rfl 2 rfl ?_
      refine r_iconst (v := 1) hK d_Re_endOf_28 (by decide) ?_
      refine r_iadd hK d_Re_endOf_29 ?_
      refine r_caload hK ar_22 d_Re_endOf_30 h (fun i5 h => ?_)
      refine r_bipush (v := 62) hK d_Re_endOf_31 (by decide) ?_
      refine r_if_icmpne (tgt := 40) hK d_Re_endOf_33 (by decide) h (fun h => ?_) (fun h => ?_)
      · refine r_iload_n hK d_Re_endOf_40 rfl 2 rfl ?_
        refine r_iconst (v := 1) hK d_Re_endOf_41 (by decide) ?_
        refine r_iadd hK d_Re_endOf_42 ?_
        refine r_istore_n (ls1 := [(3, g_i (x1 + 1)), (2, g_i i2), (0, g_r 2 r0), (1, g_i x1)]) hK d_Re_endOf_43 rfl (by rw [hN]; decide) rfl ?_
        exact r_sub [2, 1, 0] rfl (t_Re_endOf_44 hK hN hD _ _ _ _ _ h)
      · refine r_iload_n hK d_Re_endOf_36 rfl 2 rfl ?_
        refine r_iconst (v := 2) hK d_Re_endOf_37 (by decide) ?_
        refine r_iadd hK d_Re_endOf_38 ?_
        exact r_ireturn hK d_Re_endOf_39 h
theorem c_Re_endOf (l : Launch) (G : g_G) (r0 : Option Nat) (x1 : Int32) (u : g_St) (o : (Int32 × g_St)) (h : f_Re_endOf r0 x1 u = some o) : g_Con l G y_Re_endOf b_Re_endOf 4 (Option.some Jvm.ClassFile.FieldType.int) 3 [g_r 2 r0, g_i x1] u (g_jI o) :=
  g_Con.of rfl rfl (by decide +kernel) (Nat.le_of_ble_eq_true rfl) (fun K hK hN hD => t_Re_endOf_0 hK hN hD _ _ _ h)
def f_Re_accept (r0 : Option Nat) (r1 : Option Nat) (s0 : g_St) : Option (Int32 × g_St) :=
  g_gI s0 386 r0 fun i1 =>
  if i1 = 0 then
    g_gR s0 130 r0 fun p2 =>
    g_gI s0 322 r0 fun i3 =>
    g_aR s0 p2 i3 fun p4 =>
    if p4 = r1 then
      g_gI s0 322 r0 fun i5 =>
      g_pI s0 322 r0 (i5 + 1) fun s6 =>
      g_rZ 1 (some (1, s6))
    else
      g_rZ 0 (some (0, s0))
  else
    g_rZ 0 (some (0, s0))
set_option maxHeartbeats 4000000 in
set_option maxRecDepth 100000 in
theorem t_Re_accept_0 {K : g_C} {o : (Int32 × g_St)} (hK : g_OK K b_Re_accept "FixpointEngine$Reader" "accept" (Option.some Jvm.ClassFile.FieldType.boolean)) (hN : g_nL K = 2) (hD : g_Kd K = 1) : ∀ (r0 : Option Nat) (r1 : Option Nat) (s0 : g_St), f_Re_accept r0 r1 s0 = some o → g_W K s0 [(0, g_r 2 r0), (1, g_r 13 r1)] [] 0 (g_jI o) := by
  intro r0 r1 s0 h
  unfold f_Re_accept at h
  refine r_aload_n hK d_Re_accept_0 rfl 0 rfl ?_
  refine r_gI hK fd_Re_6 w1_64 d_Re_accept_1 h (fun i1 h => ?_)
  refine r_ifne (tgt := 20) hK d_Re_accept_4 (by decide) h (fun h => ?_) (fun h => ?_)
  · refine r_iconst (v := 0) hK d_Re_accept_20 (by decide) ?_
    exact r_zreturn hK d_Re_accept_21 h
  · refine r_aload_n hK d_Re_accept_7 rfl 0 rfl ?_
    refine r_gR hK fd_Re_2 w1_60 d_Re_accept_8 h (fun p2 h => ?_)
    refine r_aload_n hK d_Re_accept_11 rfl 0 rfl ?_
    refine r_gI hK fd_Re_5 w1_63 d_Re_accept_12 h (fun i3 h => ?_)
    refine r_aaload hK rfl ar_23 d_Re_accept_15 h (fun p4 h => ?_)
    refine r_aload_n hK d_Re_accept_16 rfl 1 rfl ?_
    refine r_if_acmpeq (tgt := 22) hK d_Re_accept_17 (by decide) h (fun h => ?_) (fun h => ?_)
    · refine r_aload_n hK d_Re_accept_22 rfl 0 rfl ?_
      refine r_dup hK d_Re_accept_23 rfl ?_
      refine r_gI hK fd_Re_5 w1_63 d_Re_accept_24 h (fun i5 h => ?_)
      refine r_iconst (v := 1) hK d_Re_accept_27 (by decide) ?_
      refine r_iadd hK d_Re_accept_28 ?_
      refine r_pI hK fd_Re_5 rfl w1_63 d_Re_accept_29 h (fun s6 h => ?_)
      refine r_iconst (v := 1) hK d_Re_accept_32 (by decide) ?_
      exact r_zreturn hK d_Re_accept_33 h
    · refine r_iconst (v := 0) hK d_Re_accept_20 (by decide) ?_
      exact r_zreturn hK d_Re_accept_21 h
theorem c_Re_accept (l : Launch) (G : g_G) (r0 : Option Nat) (r1 : Option Nat) (u : g_St) (o : (Int32 × g_St)) (h : f_Re_accept r0 r1 u = some o) : g_Con l G y_Re_accept b_Re_accept 2 (Option.some Jvm.ClassFile.FieldType.boolean) 1 [g_r 2 r0, g_r 13 r1] u (g_jI o) :=
  g_Con.of rfl rfl (by decide +kernel) (Nat.le_of_ble_eq_true rfl) (fun K hK hN hD => t_Re_accept_0 hK hN hD _ _ _ h)
def f_Re_expect (r0 : Option Nat) (r1 : Option Nat) (s0 : g_St) : Option (Unit × g_St) :=
  g_gI s0 386 r0 fun i1 =>
  if i1 = 0 then
    g_gR s0 130 r0 fun p3 =>
    g_gI s0 322 r0 fun i4 =>
    g_aR s0 p3 i4 fun p5 =>
    if p5 = r1 then
      g_gI s0 322 r0 fun i6 =>
      g_pI s0 322 r0 (i6 + 1) fun s7 =>
      some ((), s7)
    else
      g_pZ s0 386 r0 1 fun s8 =>
      some ((), s8)
  else
    g_pZ s0 386 r0 1 fun s2 =>
    some ((), s2)
set_option maxHeartbeats 4000000 in
set_option maxRecDepth 100000 in
theorem t_Re_expect_0 {K : g_C} {o : (Unit × g_St)} (hK : g_OK K b_Re_expect "FixpointEngine$Reader" "expect" (Option.none : Option Jvm.ClassFile.FieldType)) (hN : g_nL K = 2) (hD : g_Kd K = 1) : ∀ (r0 : Option Nat) (r1 : Option Nat) (s0 : g_St), f_Re_expect r0 r1 s0 = some o → g_W K s0 [(0, g_r 2 r0), (1, g_r 13 r1)] [] 0 (g_jV o) := by
  intro r0 r1 s0 h
  unfold f_Re_expect at h
  refine r_aload_n hK d_Re_expect_0 rfl 0 rfl ?_
  refine r_gI hK fd_Re_6 w1_64 d_Re_expect_1 h (fun i1 h => ?_)
  refine r_ifne (tgt := 20) hK d_Re_expect_4 (by decide) h (fun h => ?_) (fun h => ?_)
  · refine r_aload_n hK d_Re_expect_20 rfl 0 rfl ?_
    refine r_iconst (v := 1) hK d_Re_expect_21 (by decide) ?_
    refine r_pZ hK fd_Re_6 rfl w1_64 d_Re_expect_22 h (fun s2 h => ?_)
    refine r_goto (tgt := 38) hK d_Re_expect_25 (by decide) ?_
    exact r_return hK d_Re_expect_38 h
  · refine r_aload_n hK d_Re_expect_7 rfl 0 rfl ?_
    refine r_gR hK fd_Re_2 w1_60 d_Re_expect_8 h (fun p3 h => ?_)
    refine r_aload_n hK d_Re_expect_11 rfl 0 rfl ?_
    refine r_gI hK fd_Re_5 w1_63 d_Re_expect_12 h (fun i4 h => ?_)
    refine r_aaload hK rfl ar_23 d_Re_expect_15 h (fun p5 h => ?_)
    refine r_aload_n hK d_Re_expect_16 rfl 1 rfl ?_
    refine r_if_acmpeq (tgt := 28) hK d_Re_expect_17 (by decide) h (fun h => ?_) (fun h => ?_)
    · refine r_aload_n hK d_Re_expect_28 rfl 0 rfl ?_
      refine r_dup hK d_Re_expect_29 rfl ?_
      refine r_gI hK fd_Re_5 w1_63 d_Re_expect_30 h (fun i6 h => ?_)
      refine r_iconst (v := 1) hK d_Re_expect_33 (by decide) ?_
      refine r_iadd hK d_Re_expect_34 ?_
      refine r_pI hK fd_Re_5 rfl w1_63 d_Re_expect_35 h (fun s7 h => ?_)
      exact r_return hK d_Re_expect_38 h
    · refine r_aload_n hK d_Re_expect_20 rfl 0 rfl ?_
      refine r_iconst (v := 1) hK d_Re_expect_21 (by decide) ?_
      refine r_pZ hK fd_Re_6 rfl w1_64 d_Re_expect_22 h (fun s8 h => ?_)
      refine r_goto (tgt := 38) hK d_Re_expect_25 (by decide) ?_
      exact r_return hK d_Re_expect_38 h
theorem c_Re_expect (l : Launch) (G : g_G) (r0 : Option Nat) (r1 : Option Nat) (u : g_St) (o : (Unit × g_St)) (h : f_Re_expect r0 r1 u = some o) : g_Con l G y_Re_expect b_Re_expect 2 (Option.none : Option Jvm.ClassFile.FieldType) 1 [g_r 2 r0, g_r 13 r1] u (g_jV o) :=
  g_Con.of rfl rfl (by decide +kernel) (Nat.le_of_ble_eq_true rfl) (fun K hK hN hD => t_Re_expect_0 hK hN hD _ _ _ h)
def f_Re_stuckAt (r0 : Option Nat) (s0 : g_St) : Option (Int32 × g_St) :=
  g_gR s0 194 r0 fun p1 =>
  g_gI s0 322 r0 fun i2 =>
  g_aI s0 p1 i2 fun i3 =>
  some (1 + (10 * i3), s0)
set_option maxHeartbeats 4000000 in
set_option maxRecDepth 100000 in
theorem t_Re_stuckAt_0 {K : g_C} {o : (Int32 × g_St)} (hK : g_OK K b_Re_stuckAt "FixpointEngine$Reader" "stuckAt" (Option.some Jvm.ClassFile.FieldType.int)) (hN : g_nL K = 1) (hD : g_Kd K = 1) : ∀ (r0 : Option Nat) (s0 : g_St), f_Re_stuckAt r0 s0 = some o → g_W K s0 [(0, g_r 2 r0)] [] 0 (g_jI o) := by
  intro r0 s0 h
  unfold f_Re_stuckAt at h
  refine r_iconst (v := 1) hK d_Re_stuckAt_0 (by decide) ?_
  refine r_bipush (v := 10) hK d_Re_stuckAt_1 (by decide) ?_
  refine r_aload_n hK d_Re_stuckAt_3 rfl 0 rfl ?_
  refine r_gR hK fd_Re_3 w1_61 d_Re_stuckAt_4 h (fun p1 h => ?_)
  refine r_aload_n hK d_Re_stuckAt_7 rfl 0 rfl ?_
  refine r_gI hK fd_Re_5 w1_63 d_Re_stuckAt_8 h (fun i2 h => ?_)
  refine r_iaload hK ar_20 d_Re_stuckAt_11 h (fun i3 h => ?_)
  refine r_imul hK d_Re_stuckAt_12 ?_
  refine r_iadd hK d_Re_stuckAt_13 ?_
  exact r_ireturn hK d_Re_stuckAt_14 h
theorem c_Re_stuckAt (l : Launch) (G : g_G) (r0 : Option Nat) (u : g_St) (o : (Int32 × g_St)) (h : f_Re_stuckAt r0 u = some o) : g_Con l G y_Re_stuckAt b_Re_stuckAt 1 (Option.some Jvm.ClassFile.FieldType.int) 1 [g_r 2 r0] u (g_jI o) :=
  g_Con.of rfl rfl (by decide +kernel) (Nat.le_of_ble_eq_true rfl) (fun K hK hN hD => t_Re_stuckAt_0 hK hN hD _ _ h)
