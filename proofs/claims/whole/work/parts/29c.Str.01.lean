def f_Str_coder (r0 : Option Nat) (s0 : g_St) : Option (Int32 × g_St) :=
  if (1 : Int32) = 0 then
    g_rB 1 (some (1, s0))
  else
    g_tI (fun _ => 0) r0 fun i1 =>
    g_rB i1 (some (i1, s0))
set_option maxHeartbeats 4000000 in
set_option maxRecDepth 100000 in
theorem t_Str_coder_0 {K : g_C} {o : (Int32 × g_St)} (hK : g_OK K b_Str_coder "java/lang/String" "coder" (Option.some Jvm.ClassFile.FieldType.byte)) (hN : g_nL K = 1) (hD : g_Kd K = 1) : ∀ (r0 : Option Nat) (s0 : g_St), f_Str_coder r0 s0 = some o → g_W K s0 [(0, g_r 14 r0)] [] 0 (g_jI o) := by
  intro r0 s0 h
  unfold f_Str_coder at h
  refine r_gsI hK (st_other 2 rfl) w2_178 d_Str_coder_0 ?_
  refine r_ifeq (tgt := 13) hK d_Str_coder_3 (by decide) h (fun h => ?_) (fun h => ?_)
  · refine r_iconst (v := 1) hK d_Str_coder_13 (by decide) ?_
    exact r_breturn hK d_Str_coder_14 h
  · refine r_aload_n hK d_Str_coder_6 rfl 0 rfl ?_
    refine r_tI hK sf_coder w10_14 d_Str_coder_7 h (fun i1 h => ?_)
    refine r_goto (tgt := 14) hK d_Str_coder_10 (by decide) ?_
    exact r_breturn hK d_Str_coder_14 h
theorem c_Str_coder (l : Launch) (G : g_G) (r0 : Option Nat) (u : g_St) (o : (Int32 × g_St)) (h : f_Str_coder r0 u = some o) : g_Con l G y_Str_coder b_Str_coder 1 (Option.some Jvm.ClassFile.FieldType.byte) 1 [g_r 14 r0] u (g_jI o) :=
  g_Con.of rfl rfl (by decide +kernel) (Nat.le_of_ble_eq_true rfl) (fun K hK hN hD hX => t_Str_coder_0 hK hN hD _ _ h)
def f_Str_length (r0 : Option Nat) (s0 : g_St) : Option (Int32 × g_St) :=
  g_tR (fun a => (a / 64 + 37) * 64 + 14) r0 fun p1 =>
  g_bln p1 fun i2 =>
  g_c (g_str r0 (f_Str_coder r0 s0)) fun i3 s4 =>
  some (i2 >>> (i3 &&& 31), s4)
set_option maxHeartbeats 4000000 in
set_option maxRecDepth 100000 in
theorem t_Str_length_0 {K : g_C} {o : (Int32 × g_St)} (hK : g_OK K b_Str_length "java/lang/String" "length" (Option.some Jvm.ClassFile.FieldType.int)) (hN : g_nL K = 1) (hD : g_Kd K = 2) : ∀ (r0 : Option Nat) (s0 : g_St), f_Str_length r0 s0 = some o → g_W K s0 [(0, g_r 14 r0)] [] 0 (g_jI o) := by
  intro r0 s0 h
  unfold f_Str_length at h
  refine r_aload_n hK d_Str_length_0 rfl 0 rfl ?_
  refine r_tR hK sf_val1 sf_val w10_13 d_Str_length_1 h (fun p1 h => ?_)
  refine r_bln hK d_Str_length_4 h (fun i2 h => ?_)
  refine r_aload_n hK d_Str_length_5 rfl 0 rfl ?_
  refine r_VSi (avL := []) (st := [g_i i2]) hK w2_175 w2_176 w2_174 w2_177 w1_14 (by decide) pl_Str_coder (by rw [hD]; decide) (Nat.le_of_ble_eq_true rfl) rfl d_Str_length_6 (fun o9 h9 => c_Str_coder _ _ _ _ o9 h9) h (fun i3 s4 h => ?_)
  refine r_ishr hK d_Str_length_9 ?_
  exact r_ireturn hK d_Str_length_10 h
theorem c_Str_length (l : Launch) (G : g_G) (r0 : Option Nat) (u : g_St) (o : (Int32 × g_St)) (h : f_Str_length r0 u = some o) : g_Con l G y_Str_length b_Str_length 1 (Option.some Jvm.ClassFile.FieldType.int) 2 [g_r 14 r0] u (g_jI o) :=
  g_Con.of rfl rfl (by decide +kernel) (Nat.le_of_ble_eq_true rfl) (fun K hK hN hD hX => t_Str_length_0 hK hN hD _ _ h)
def f_Str_isLatin1 (r0 : Option Nat) (s0 : g_St) : Option (Int32 × g_St) :=
  if (1 : Int32) = 0 then
    g_rZ 0 (some (0, s0))
  else
    g_tI (fun _ => 0) r0 fun i1 =>
    if i1 = 0 then
      g_rZ 1 (some (1, s0))
    else
      g_rZ 0 (some (0, s0))
set_option maxHeartbeats 4000000 in
set_option maxRecDepth 100000 in
theorem t_Str_isLatin1_0 {K : g_C} {o : (Int32 × g_St)} (hK : g_OK K b_Str_isLatin1 "java/lang/String" "isLatin1" (Option.some Jvm.ClassFile.FieldType.boolean)) (hN : g_nL K = 1) (hD : g_Kd K = 1) : ∀ (r0 : Option Nat) (s0 : g_St), f_Str_isLatin1 r0 s0 = some o → g_W K s0 [(0, g_r 14 r0)] [] 0 (g_jI o) := by
  intro r0 s0 h
  unfold f_Str_isLatin1 at h
  refine r_gsI hK (st_other 2 rfl) w2_178 d_Str_isLatin1_0 ?_
  refine r_ifeq (tgt := 17) hK d_Str_isLatin1_3 (by decide) h (fun h => ?_) (fun h => ?_)
  · refine r_iconst (v := 0) hK d_Str_isLatin1_17 (by decide) ?_
    exact r_zreturn hK d_Str_isLatin1_18 h
  · refine r_aload_n hK d_Str_isLatin1_6 rfl 0 rfl ?_
    refine r_tI hK sf_coder w10_14 d_Str_isLatin1_7 h (fun i1 h => ?_)
    refine r_ifne (tgt := 17) hK d_Str_isLatin1_10 (by decide) h (fun h => ?_) (fun h => ?_)
    · refine r_iconst (v := 0) hK d_Str_isLatin1_17 (by decide) ?_
      exact r_zreturn hK d_Str_isLatin1_18 h
    · refine r_iconst (v := 1) hK d_Str_isLatin1_13 (by decide) ?_
      refine r_goto (tgt := 18) hK d_Str_isLatin1_14 (by decide) ?_
      exact r_zreturn hK d_Str_isLatin1_18 h
theorem c_Str_isLatin1 (l : Launch) (G : g_G) (r0 : Option Nat) (u : g_St) (o : (Int32 × g_St)) (h : f_Str_isLatin1 r0 u = some o) : g_Con l G y_Str_isLatin1 b_Str_isLatin1 1 (Option.some Jvm.ClassFile.FieldType.boolean) 1 [g_r 14 r0] u (g_jI o) :=
  g_Con.of rfl rfl (by decide +kernel) (Nat.le_of_ble_eq_true rfl) (fun K hK hN hD hX => t_Str_isLatin1_0 hK hN hD _ _ h)
def f_Str_charAt (r0 : Option Nat) (x1 : Int32) (s0 : g_St) : Option (Int32 × g_St) :=
  g_c (g_str r0 (f_Str_isLatin1 r0 s0)) fun i1 s2 =>
  if i1 = 0 then
    g_tR (fun a => (a / 64 + 37) * 64 + 14) r0 fun p3 =>
    none
  else
    g_tR (fun a => (a / 64 + 37) * 64 + 14) r0 fun p4 =>
    g_c (f_Sl_charAt p4 x1 s2) fun i5 s6 =>
    g_rC i5 (some (i5, s6))
set_option maxHeartbeats 4000000 in
set_option maxRecDepth 100000 in
theorem t_Str_charAt_0 {K : g_C} {o : (Int32 × g_St)} (hK : g_OK K b_Str_charAt "java/lang/String" "charAt" (Option.some Jvm.ClassFile.FieldType.char)) (hN : g_nL K = 2) (hD : g_Kd K = 10) : ∀ (r0 : Option Nat) (x1 : Int32) (s0 : g_St), f_Str_charAt r0 x1 s0 = some o → g_W K s0 [(0, g_r 14 r0), (1, g_i x1)] [] 0 (g_jI o) := by
  intro r0 x1 s0 h
  unfold f_Str_charAt at h
  refine r_aload_n hK d_Str_charAt_0 rfl 0 rfl ?_
  refine r_VSi (avL := []) (st := []) hK w2_185 w2_186 w2_184 w2_187 w1_14 (by decide) pl_Str_isLatin1 (by rw [hD]; decide) (Nat.le_of_ble_eq_true rfl) rfl d_Str_charAt_1 (fun o9 h9 => c_Str_isLatin1 _ _ _ _ o9 h9) h (fun i1 s2 h => ?_)
  refine r_ifeq (tgt := 16) hK d_Str_charAt_4 (by decide) h (fun h => ?_) (fun h => ?_)
  · refine r_aload_n hK d_Str_charAt_16 rfl 0 rfl ?_
    refine r_tR hK sf_val1 sf_val w10_13 d_Str_charAt_17 h (fun p3 h => ?_)
    refine r_iload_n hK d_Str_charAt_20 rfl 1 rfl ?_
    cases h
  · refine r_aload_n hK d_Str_charAt_7 rfl 0 rfl ?_
    refine r_tR hK sf_val1 sf_val w10_13 d_Str_charAt_8 h (fun p4 h => ?_)
    refine r_iload_n hK d_Str_charAt_11 rfl 1 rfl ?_
    refine r_Si (avL := [g_r 14 p4, g_i x1]) (st := []) hK w2_189 w2_188 w2_190 w1_15 (by decide) pl_Sl_charAt (by rw [hD]; decide) (Nat.le_of_ble_eq_true rfl) rfl d_Str_charAt_12 (fun o9 h9 => c_Sl_charAt _ _ _ _ _ o9 h9) h (fun i5 s6 h => ?_)
    exact r_creturn hK d_Str_charAt_15 h
theorem c_Str_charAt (l : Launch) (G : g_G) (r0 : Option Nat) (x1 : Int32) (u : g_St) (o : (Int32 × g_St)) (h : f_Str_charAt r0 x1 u = some o) : g_Con l G y_Str_charAt b_Str_charAt 2 (Option.some Jvm.ClassFile.FieldType.char) 10 [g_r 14 r0, g_i x1] u (g_jI o) :=
  g_Con.of rfl rfl (by decide +kernel) (Nat.le_of_ble_eq_true rfl) (fun K hK hN hD hX => t_Str_charAt_0 hK hN hD _ _ _ h)
