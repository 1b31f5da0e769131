def f_Pre_checkIndex_9 (x0 : Int32) (x1 : Int32) (r2 : Option Nat) (s0 : g_St) : Option (Int32 × g_St) :=
  none
def f_Pre_checkIndex (x0 : Int32) (x1 : Int32) (r2 : Option Nat) (s0 : g_St) : Option (Int32 × g_St) :=
  if x0 < 0 then
    f_Pre_checkIndex_9 x0 x1 r2 s0
  else
    if x0 < x1 then
      some (x0, s0)
    else
      f_Pre_checkIndex_9 x0 x1 r2 s0
set_option maxHeartbeats 4000000 in
set_option maxRecDepth 100000 in
theorem t_Pre_checkIndex_9 {K : g_C} {o : (Int32 × g_St)} (hK : g_OK K b_Pre_checkIndex "jdk/internal/util/Preconditions" "checkIndex" (Option.some Jvm.ClassFile.FieldType.int)) (hN : g_nL K = 3) (hD : g_Kd K = 7) : ∀ (x0 : Int32) (x1 : Int32) (r2 : Option Nat) (s0 : g_St), f_Pre_checkIndex_9 x0 x1 r2 s0 = some o → g_W K s0 [(0, g_i x0), (1, g_i x1), (2, g_r 43 r2)] [] 9 (g_jI o) := by
  intro x0 x1 r2 s0 h
  unfold f_Pre_checkIndex_9 at h
  refine r_aload_n hK d_Pre_checkIndex_9 rfl 2 rfl ?_
  refine r_iload_n hK d_Pre_checkIndex_10 rfl 0 rfl ?_
  refine r_iload_n hK d_Pre_checkIndex_11 rfl 1 rfl ?_
  cases h
set_option maxHeartbeats 4000000 in
set_option maxRecDepth 100000 in
theorem t_Pre_checkIndex_0 {K : g_C} {o : (Int32 × g_St)} (hK : g_OK K b_Pre_checkIndex "jdk/internal/util/Preconditions" "checkIndex" (Option.some Jvm.ClassFile.FieldType.int)) (hN : g_nL K = 3) (hD : g_Kd K = 7) : ∀ (x0 : Int32) (x1 : Int32) (r2 : Option Nat) (s0 : g_St), f_Pre_checkIndex x0 x1 r2 s0 = some o → g_W K s0 [(0, g_i x0), (1, g_i x1), (2, g_r 43 r2)] [] 0 (g_jI o) := by
  intro x0 x1 r2 s0 h
  unfold f_Pre_checkIndex at h
  refine r_iload_n hK d_Pre_checkIndex_0 rfl 0 rfl ?_
  refine r_iflt (tgt := 9) hK d_Pre_checkIndex_1 (by decide) h (fun h => ?_) (fun h => ?_)
  · exact r_sub [0, 1, 2] rfl (t_Pre_checkIndex_9 hK hN hD _ _ _ _ h)
  · refine r_iload_n hK d_Pre_checkIndex_4 rfl 0 rfl ?_
    refine r_iload_n hK d_Pre_checkIndex_5 rfl 1 rfl ?_
    refine r_if_icmplt (tgt := 16) hK d_Pre_checkIndex_6 (by decide) h (fun h => ?_) (fun h => ?_)
    · refine r_iload_n hK d_Pre_checkIndex_16 rfl 0 rfl ?_
      exact r_ireturn hK d_Pre_checkIndex_17 h
    · exact r_sub [0, 1, 2] rfl (t_Pre_checkIndex_9 hK hN hD _ _ _ _ h)
theorem c_Pre_checkIndex (l : Launch) (G : g_G) (x0 : Int32) (x1 : Int32) (r2 : Option Nat) (u : g_St) (o : (Int32 × g_St)) (h : f_Pre_checkIndex x0 x1 r2 u = some o) : g_Con l G y_Pre_checkIndex b_Pre_checkIndex 3 (Option.some Jvm.ClassFile.FieldType.int) 7 [g_i x0, g_i x1, g_r 43 r2] u (g_jI o) :=
  g_Con.of rfl rfl (by decide +kernel) (Nat.le_of_ble_eq_true rfl) (fun K hK hN hD hX => t_Pre_checkIndex_0 hK hN hD _ _ _ _ h)
