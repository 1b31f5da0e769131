def f_Abc_init (r0 : Option Nat) (s0 : g_St) : Option (Unit × g_St) :=
  g_nn r0 (
  some ((), s0))
set_option maxHeartbeats 4000000 in
set_option maxRecDepth 100000 in
theorem t_Abc_init_0 {K : g_C} {o : (Unit × g_St)} (hK : g_OK K b_Abc_init "java/util/AbstractCollection" "<init>" (Option.none : Option Jvm.ClassFile.FieldType)) (hN : g_nL K = 1) (hD : g_Kd K = 2) : ∀ (r0 : Option Nat) (s0 : g_St), f_Abc_init r0 s0 = some o → g_W K s0 [(0, g_r 12 r0)] [] 0 (g_jV o) := by
  intro r0 s0 h
  unfold f_Abc_init at h
  refine r_aload_n hK d_Abc_init_0 rfl 0 rfl ?_
  refine r_objinit hK w3_6 (by rw [hD]; decide) (Nat.le_of_ble_eq_true rfl) d_Abc_init_1 h (fun h => ?_)
  exact r_return hK d_Abc_init_4 h
theorem c_Abc_init (l : Launch) (G : g_G) (r0 : Option Nat) (u : g_St) (o : (Unit × g_St)) (h : f_Abc_init r0 u = some o) : g_Con l G y_Abc_init b_Abc_init 1 (Option.none : Option Jvm.ClassFile.FieldType) 2 [g_r 12 r0] u (g_jV o) :=
  g_Con.of rfl rfl (by decide +kernel) (Nat.le_of_ble_eq_true rfl) (fun K hK hN hD hX => t_Abc_init_0 hK hN hD _ _ h)
