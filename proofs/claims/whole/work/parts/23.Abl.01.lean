def f_Abl_init (r0 : Option Nat) (s0 : g_St) : Option (Unit × g_St) :=
  g_c (g_nn r0 (f_Abc_init r0 s0)) fun _ s2 =>
  g_pI s2 12 r0 0 fun s3 =>
  some ((), s3)
set_option maxHeartbeats 4000000 in
set_option maxRecDepth 100000 in
theorem t_Abl_init_0 {K : g_C} {o : (Unit × g_St)} (hK : g_OK K b_Abl_init "java/util/AbstractList" "<init>" (Option.none : Option Jvm.ClassFile.FieldType)) (hN : g_nL K = 1) (hD : g_Kd K = 3) : ∀ (r0 : Option Nat) (s0 : g_St), f_Abl_init r0 s0 = some o → g_W K s0 [(0, g_r 12 r0)] [] 0 (g_jV o) := by
  intro r0 s0 h
  unfold f_Abl_init at h
  refine r_aload_n hK d_Abl_init_0 rfl 0 rfl ?_
  refine r_Iv (avL := []) (st := []) hK rfl w3_4 w3_3 w3_5 w1_19 (by decide) pl_Abc_init (by rw [hD]; decide) (Nat.le_of_ble_eq_true rfl) rfl d_Abl_init_1 (fun o9 h9 => c_Abc_init _ _ _ _ o9 h9) h (fun s2 h => ?_)
  refine r_aload_n hK d_Abl_init_4 rfl 0 rfl ?_
  refine r_iconst (v := 0) hK d_Abl_init_5 (by decide) ?_
  refine r_pI hK fd_Al_0 rfl w3_11 d_Abl_init_6 h (fun s3 h => ?_)
  exact r_return hK d_Abl_init_9 h
theorem c_Abl_init (l : Launch) (G : g_G) (r0 : Option Nat) (u : g_St) (o : (Unit × g_St)) (h : f_Abl_init r0 u = some o) : g_Con l G y_Abl_init b_Abl_init 1 (Option.none : Option Jvm.ClassFile.FieldType) 3 [g_r 12 r0] u (g_jV o) :=
  g_Con.of rfl rfl (by decide +kernel) (Nat.le_of_ble_eq_true rfl) (fun K hK hN hD hX => t_Abl_init_0 hK hN hD _ _ h)
