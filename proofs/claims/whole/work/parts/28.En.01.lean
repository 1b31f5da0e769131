def f_En_ordinal (r0 : Option Nat) (s0 : g_St) : Option (Int32 × g_St) :=
  g_sfI (fun a => Int32.ofNat (a / 64)) r0 fun i1 =>
  some (i1, s0)
set_option maxHeartbeats 4000000 in
set_option maxRecDepth 100000 in
theorem t_En_ordinal_0 {K : g_C} {o : (Int32 × g_St)} (hK : g_OK K b_En_ordinal "java/lang/Enum" "ordinal" (Option.some Jvm.ClassFile.FieldType.int)) (hN : g_nL K = 1) (hD : g_Kd K = 1) : ∀ (r0 : Option Nat) (s0 : g_St), f_En_ordinal r0 s0 = some o → g_W K s0 [(0, g_r 13 r0)] [] 0 (g_jI o) := by
  intro r0 s0 h
  unfold f_En_ordinal at h
  refine r_aload_n hK d_En_ordinal_0 rfl 0 rfl ?_
  refine r_sfI hK (by decide) (by decide) sf_ord w10_15 d_En_ordinal_1 h (fun i1 h => ?_)
  exact r_ireturn hK d_En_ordinal_4 h
theorem c_En_ordinal (l : Launch) (G : g_G) (r0 : Option Nat) (u : g_St) (o : (Int32 × g_St)) (h : f_En_ordinal r0 u = some o) : g_Con l G y_En_ordinal b_En_ordinal 1 (Option.some Jvm.ClassFile.FieldType.int) 1 [g_r 13 r0] u (g_jI o) :=
  g_Con.of rfl rfl (by decide +kernel) (Nat.le_of_ble_eq_true rfl) (fun K hK hN hD hX => t_En_ordinal_0 hK hN hD _ _ h)
