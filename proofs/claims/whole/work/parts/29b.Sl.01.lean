def f_Sl_charAt (r0 : Option Nat) (x1 : Int32) (s0 : g_St) : Option (Int32 × g_St) :=
  g_bln r0 fun i1 =>
  g_c (f_Str_checkIndex x1 i1 s0) fun _ s3 =>
  g_bla r0 x1 fun i4 =>
  g_rC (((i4 &&& 255).toUInt32 % 65536).toInt32) (some (((i4 &&& 255).toUInt32 % 65536).toInt32, s3))
set_option maxHeartbeats 4000000 in
set_option maxRecDepth 100000 in
theorem t_Sl_charAt_0 {K : g_C} {o : (Int32 × g_St)} (hK : g_OK K b_Sl_charAt "java/lang/StringLatin1" "charAt" (Option.some Jvm.ClassFile.FieldType.char)) (hN : g_nL K = 2) (hD : g_Kd K = 9) : ∀ (r0 : Option Nat) (x1 : Int32) (s0 : g_St), f_Sl_charAt r0 x1 s0 = some o → g_W K s0 [(0, g_r 14 r0), (1, g_i x1)] [] 0 (g_jI o) := by
  intro r0 x1 s0 h
  unfold f_Sl_charAt at h
  refine r_iload_n hK d_Sl_charAt_0 rfl 1 rfl ?_
  refine r_aload_n hK d_Sl_charAt_1 rfl 0 rfl ?_
  refine r_bln hK d_Sl_charAt_2 h (fun i1 h => ?_)
  refine r_Sv (avL := [g_i x1, g_i i1]) (st := []) hK w2_192 w2_191 w2_193 w1_14 (by decide) pl_Str_checkIndex (by rw [hD]; decide) (Nat.le_of_ble_eq_true rfl) rfl d_Sl_charAt_3 (fun o9 h9 => c_Str_checkIndex _ _ _ _ _ o9 h9) h (fun s3 h => ?_)
  refine r_aload_n hK d_Sl_charAt_6 rfl 0 rfl ?_
  refine r_iload_n hK d_Sl_charAt_7 rfl 1 rfl ?_
  refine r_bla hK d_Sl_charAt_8 h (fun i4 h => ?_)
  refine r_sipush (v := 255) hK d_Sl_charAt_9 (by decide) ?_
  refine r_iand hK d_Sl_charAt_12 ?_
  refine r_i2c hK d_Sl_charAt_13 ?_
  exact r_creturn hK d_Sl_charAt_14 h
theorem c_Sl_charAt (l : Launch) (G : g_G) (r0 : Option Nat) (x1 : Int32) (u : g_St) (o : (Int32 × g_St)) (h : f_Sl_charAt r0 x1 u = some o) : g_Con l G y_Sl_charAt b_Sl_charAt 2 (Option.some Jvm.ClassFile.FieldType.char) 9 [g_r 14 r0, g_i x1] u (g_jI o) :=
  g_Con.of rfl rfl (by decide +kernel) (Nat.le_of_ble_eq_true rfl) (fun K hK hN hD hX => t_Sl_charAt_0 hK hN hD _ _ _ h)
