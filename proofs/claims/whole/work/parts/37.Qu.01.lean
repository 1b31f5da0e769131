def f_Qu_init (r0 : Option Nat) (s0 : g_St) : Option (Unit × g_St) :=
  g_nn r0 (
  g_newA s0 24 4 fun p1 s2 =>
  g_pR s2 6 r0 p1 fun s3 =>
  g_newA s3 26 2 fun p4 s5 =>
  g_pR s5 262 r0 p4 fun s6 =>
  g_new s6 12 3 fun p7 s8 =>
  g_c (g_nn p7 (f_Al_init p7 s8)) fun _ s10 =>
  g_pR s10 518 r0 p7 fun s11 =>
  g_new s11 12 3 fun p12 s13 =>
  g_c (g_nn p12 (f_Al_init p12 s13)) fun _ s15 =>
  g_pR s15 582 r0 p12 fun s16 =>
  some ((), s16))
set_option maxHeartbeats 4000000 in
set_option maxRecDepth 100000 in
theorem t_Qu_init_0 {K : g_C} {o : (Unit × g_St)} (hK : g_OK K b_Qu_init "FixpointEngine$Query" "<init>" (Option.none : Option Jvm.ClassFile.FieldType)) (hN : g_nL K = 1) (hD : g_Kd K = 5) : ∀ (r0 : Option Nat) (s0 : g_St), f_Qu_init r0 s0 = some o → g_W K s0 [(0, g_r 6 r0)] [] 0 (g_jV o) := by
  intro r0 s0 h
  unfold f_Qu_init at h
  refine r_aload_n hK d_Qu_init_0 rfl 0 rfl ?_
  refine r_objinit hK w2_230 (by rw [hD]; decide) (Nat.le_of_ble_eq_true rfl) d_Qu_init_1 h (fun h => ?_)
  refine r_aload_n hK d_Qu_init_4 rfl 0 rfl ?_
  refine r_iconst (v := 4) hK d_Qu_init_5 (by decide) ?_
  refine r_anewarray hK rfl w2_231 w2_232 ar_24 d_Qu_init_6 h (fun p1 s2 h => ?_)
  refine r_pRF hK pd_24 rfl (Or.inr rfl) fd_Qu_0 rfl w3_21 d_Qu_init_9 h (fun s3 h => ?_)
  refine r_aload_n hK d_Qu_init_12 rfl 0 rfl ?_
  refine r_iconst (v := 2) hK d_Qu_init_13 (by decide) ?_
  refine r_anewarray hK rfl w2_233 w2_234 ar_26 d_Qu_init_14 h (fun p4 s5 h => ?_)
  refine r_pRF hK pd_26 rfl (Or.inr rfl) fd_Qu_4 rfl w3_36 d_Qu_init_17 h (fun s6 h => ?_)
  refine r_aload_n hK d_Qu_init_20 rfl 0 rfl ?_
  refine r_new hK ob_Al rfl rfl w2_235 w2_236 w1_21 d_Qu_init_21 h (fun p7 s8 h => ?_)
  refine r_dup hK d_Qu_init_24 rfl ?_
  refine r_Iv (avL := []) (st := [g_r 12 p7, g_r 6 r0]) hK rfl w2_238 w2_237 w2_239 w1_21 (by decide) pl_Al_init (by rw [hD]; decide) (Nat.le_of_ble_eq_true rfl) rfl d_Qu_init_25 (fun o9 h9 => c_Al_init _ _ _ _ o9 h9) h (fun s10 h => ?_)
  refine r_pRF hK pd_12 rfl (Or.inr rfl) fd_Qu_8 rfl w3_46 d_Qu_init_28 h (fun s11 h => ?_)
  refine r_aload_n hK d_Qu_init_31 rfl 0 rfl ?_
  refine r_new hK ob_Al rfl rfl w2_235 w2_236 w1_21 d_Qu_init_32 h (fun p12 s13 h => ?_)
  refine r_dup hK d_Qu_init_35 rfl ?_
  refine r_Iv (avL := []) (st := [g_r 12 p12, g_r 6 r0]) hK rfl w2_238 w2_237 w2_239 w1_21 (by decide) pl_Al_init (by rw [hD]; decide) (Nat.le_of_ble_eq_true rfl) rfl d_Qu_init_36 (fun o9 h9 => c_Al_init _ _ _ _ o9 h9) h (fun s15 h => ?_)
  refine r_pRF hK pd_12 rfl (Or.inr rfl) fd_Qu_9 rfl w3_49 d_Qu_init_39 h (fun s16 h => ?_)
  exact r_return hK d_Qu_init_42 h
theorem c_Qu_init (l : Launch) (G : g_G) (r0 : Option Nat) (u : g_St) (o : (Unit × g_St)) (h : f_Qu_init r0 u = some o) : g_Con l G y_Qu_init b_Qu_init 1 (Option.none : Option Jvm.ClassFile.FieldType) 5 [g_r 6 r0] u (g_jV o) :=
  g_Con.of rfl rfl (by decide +kernel) (Nat.le_of_ble_eq_true rfl) (fun K hK hN hD hX => t_Qu_init_0 hK hN hD _ _ h)
