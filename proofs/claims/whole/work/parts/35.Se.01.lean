def f_Se_init (r0 : Option Nat) (x1 : Int32) (x2 : Int32) (s0 : g_St) : Option (Unit × g_St) :=
  g_nn r0 (
  g_newA s0 26 4 fun p1 s2 =>
  g_pR s2 136 r0 p1 fun s3 =>
  g_newA s3 23 4 fun p4 s5 =>
  g_pR s5 200 r0 p4 fun s6 =>
  g_newA s6 27 3 fun p7 s8 =>
  g_pR s8 392 r0 p7 fun s9 =>
  g_newA s9 28 6 fun p10 s11 =>
  g_pR s11 520 r0 p10 fun s12 =>
  g_pI s12 8 r0 x1 fun s13 =>
  g_pI s13 72 r0 x2 fun s14 =>
  some ((), s14))
set_option maxHeartbeats 4000000 in
set_option maxRecDepth 100000 in
theorem t_Se_init_0 {K : g_C} {o : (Unit × g_St)} (hK : g_OK K b_Se_init "FixpointEngine$Selection" "<init>" (Option.none : Option Jvm.ClassFile.FieldType)) (hN : g_nL K = 3) (hD : g_Kd K = 2) : ∀ (r0 : Option Nat) (x1 : Int32) (x2 : Int32) (s0 : g_St), f_Se_init r0 x1 x2 s0 = some o → g_W K s0 [(0, g_r 8 r0), (1, g_i x1), (2, g_i x2)] [] 0 (g_jV o) := by
  intro r0 x1 x2 s0 h
  unfold f_Se_init at h
  refine r_aload_n hK d_Se_init_0 rfl 0 rfl ?_
  refine r_objinit hK w3_214 (by rw [hD]; decide) (Nat.le_of_ble_eq_true rfl) d_Se_init_1 h (fun h => ?_)
  refine r_aload_n hK d_Se_init_4 rfl 0 rfl ?_
  refine r_iconst (v := 4) hK d_Se_init_5 (by decide) ?_
  refine r_anewarray hK rfl w3_215 w2_234 ar_26 d_Se_init_6 h (fun p1 s2 h => ?_)
  refine r_pRF hK pd_26 rfl (Or.inr rfl) fd_Se_2 rfl w3_226 d_Se_init_9 h (fun s3 h => ?_)
  refine r_aload_n hK d_Se_init_12 rfl 0 rfl ?_
  refine r_iconst (v := 4) hK d_Se_init_13 (by decide) ?_
  refine r_anewarray hK rfl w3_216 w1_56 ar_23 d_Se_init_14 h (fun p4 s5 h => ?_)
  refine r_pRF hK pd_23 rfl (Or.inr rfl) fd_Se_3 rfl w3_229 d_Se_init_17 h (fun s6 h => ?_)
  refine r_aload_n hK d_Se_init_20 rfl 0 rfl ?_
  refine r_iconst (v := 3) hK d_Se_init_21 (by decide) ?_
  refine r_anewarray hK rfl w3_217 w3_218 ar_27 d_Se_init_22 h (fun p7 s8 h => ?_)
  refine r_pRF hK pd_27 rfl (Or.inr rfl) fd_Se_6 rfl w3_239 d_Se_init_25 h (fun s9 h => ?_)
  refine r_aload_n hK d_Se_init_28 rfl 0 rfl ?_
  refine r_bipush (v := 6) hK d_Se_init_29 (by decide) ?_
  refine r_anewarray hK rfl w3_219 w3_220 ar_28 d_Se_init_31 h (fun p10 s11 h => ?_)
  refine r_pRF hK pd_28 rfl (Or.inr rfl) fd_Se_8 rfl w4_6 d_Se_init_34 h (fun s12 h => ?_)
  refine r_aload_n hK d_Se_init_37 rfl 0 rfl ?_
  refine r_iload_n hK d_Se_init_38 rfl 1 rfl ?_
  refine r_pIF hK fd_Se_0 rfl w3_221 d_Se_init_39 h (fun s13 h => ?_)
  refine r_aload_n hK d_Se_init_42 rfl 0 rfl ?_
  refine r_iload_n hK d_Se_init_43 rfl 2 rfl ?_
  refine r_pIF hK fd_Se_1 rfl w3_224 d_Se_init_44 h (fun s14 h => ?_)
  exact r_return hK d_Se_init_47 h
theorem c_Se_init (l : Launch) (G : g_G) (r0 : Option Nat) (x1 : Int32) (x2 : Int32) (u : g_St) (o : (Unit × g_St)) (h : f_Se_init r0 x1 x2 u = some o) : g_Con l G y_Se_init b_Se_init 3 (Option.none : Option Jvm.ClassFile.FieldType) 2 [g_r 8 r0, g_i x1, g_i x2] u (g_jV o) :=
  g_Con.of rfl rfl (by decide +kernel) (Nat.le_of_ble_eq_true rfl) (fun K hK hN hD hX => t_Se_init_0 hK hN hD _ _ _ _ h)
