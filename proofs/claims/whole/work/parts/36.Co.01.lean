def f_Co_init (r0 : Option Nat) (s0 : g_St) : Option (Unit × g_St) :=
  g_nn r0 (
  g_pR s0 10 r0 (some 2509) fun s1 =>
  g_newA s1 28 3 fun p2 s3 =>
  g_pR s3 266 r0 p2 fun s4 =>
  some ((), s4))
set_option maxHeartbeats 4000000 in
set_option maxRecDepth 100000 in
theorem t_Co_init_0 {K : g_C} {o : (Unit × g_St)} (hK : g_OK K b_Co_init "FixpointEngine$Condition" "<init>" (Option.none : Option Jvm.ClassFile.FieldType)) (hN : g_nL K = 1) (hD : g_Kd K = 2) : ∀ (r0 : Option Nat) (s0 : g_St), f_Co_init r0 s0 = some o → g_W K s0 [(0, g_r 10 r0)] [] 0 (g_jV o) := by
  intro r0 s0 h
  unfold f_Co_init at h
  refine r_aload_n hK d_Co_init_0 rfl 0 rfl ?_
  refine r_objinit hK w5_29 (by rw [hD]; decide) (Nat.le_of_ble_eq_true rfl) d_Co_init_1 h (fun h => ?_)
  refine r_aload_n hK d_Co_init_4 rfl 0 rfl ?_
  refine r_gsR hK (st_kind 39 (by decide)) (by decide) rfl w5_30 d_Co_init_5 ?_
  refine r_pR hK pd_13 rfl (Or.inr rfl) fd_Co_0 rfl w5_32 d_Co_init_8 h (fun s1 h => ?_)
  refine r_aload_n hK d_Co_init_11 rfl 0 rfl ?_
  refine r_iconst (v := 3) hK d_Co_init_12 (by decide) ?_
  refine r_anewarray hK rfl w5_31 w3_220 ar_28 d_Co_init_13 h (fun p2 s3 h => ?_)
  refine r_pRF hK pd_28 rfl (Or.inr rfl) fd_Co_4 rfl w5_42 d_Co_init_16 h (fun s4 h => ?_)
  exact r_return hK d_Co_init_19 h
theorem c_Co_init (l : Launch) (G : g_G) (r0 : Option Nat) (u : g_St) (o : (Unit × g_St)) (h : f_Co_init r0 u = some o) : g_Con l G y_Co_init b_Co_init 1 (Option.none : Option Jvm.ClassFile.FieldType) 2 [g_r 10 r0] u (g_jV o) :=
  g_Con.of rfl rfl (by decide +kernel) (Nat.le_of_ble_eq_true rfl) (fun K hK hN hD hX => t_Co_init_0 hK hN hD _ _ h)
