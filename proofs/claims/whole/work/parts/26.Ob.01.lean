def f_Ob_checkIndex (x0 : Int32) (x1 : Int32) (s0 : g_St) : Option (Int32 × g_St) :=
  g_c (f_Pre_checkIndex x0 x1 none s0) fun i1 s2 =>
  some (i1, s2)
set_option maxHeartbeats 4000000 in
set_option maxRecDepth 100000 in
theorem t_Ob_checkIndex_0 {K : g_C} {o : (Int32 × g_St)} (hK : g_OK K b_Ob_checkIndex "java/util/Objects" "checkIndex" (Option.some Jvm.ClassFile.FieldType.int)) (hN : g_nL K = 2) (hD : g_Kd K = 8) : ∀ (x0 : Int32) (x1 : Int32) (s0 : g_St), f_Ob_checkIndex x0 x1 s0 = some o → g_W K s0 [(0, g_i x0), (1, g_i x1)] [] 0 (g_jI o) := by
  intro x0 x1 s0 h
  unfold f_Ob_checkIndex at h
  refine r_iload_n hK d_Ob_checkIndex_0 rfl 0 rfl ?_
  refine r_iload_n hK d_Ob_checkIndex_1 rfl 1 rfl ?_
  refine r_null hK 43 d_Ob_checkIndex_2 ?_
  refine r_Si (avL := [g_i x0, g_i x1, g_r 43 none]) (st := []) hK w2_197 w5_139 w2_198 w1_16 (by decide) pl_Pre_checkIndex (by rw [hD]; decide) (Nat.le_of_ble_eq_true rfl) rfl d_Ob_checkIndex_3 (fun o9 h9 => c_Pre_checkIndex _ _ _ _ _ _ o9 h9) h (fun i1 s2 h => ?_)
  exact r_ireturn hK d_Ob_checkIndex_6 h
theorem c_Ob_checkIndex (l : Launch) (G : g_G) (x0 : Int32) (x1 : Int32) (u : g_St) (o : (Int32 × g_St)) (h : f_Ob_checkIndex x0 x1 u = some o) : g_Con l G y_Ob_checkIndex b_Ob_checkIndex 2 (Option.some Jvm.ClassFile.FieldType.int) 8 [g_i x0, g_i x1] u (g_jI o) :=
  g_Con.of rfl rfl (by decide +kernel) (Nat.le_of_ble_eq_true rfl) (fun K hK hN hD hX => t_Ob_checkIndex_0 hK hN hD _ _ _ h)
