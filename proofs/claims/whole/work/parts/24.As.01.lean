def f_As_hugeLength (x0 : Int32) (x1 : Int32) (s0 : g_St) : Option (Int32 × g_St) :=
  if 0 ≤ (x0 + x1) then
    if 2147483639 < (x0 + x1) then
      some (x0 + x1, s0)
    else
      some (2147483639, s0)
  else
    none
set_option maxHeartbeats 4000000 in
set_option maxRecDepth 100000 in
theorem t_As_hugeLength_0 {K : g_C} {o : (Int32 × g_St)} (hK : g_OK K b_As_hugeLength "jdk/internal/util/ArraysSupport" "hugeLength" (Option.some Jvm.ClassFile.FieldType.int)) (hN : g_nL K = 3) (hD : g_Kd K = 7) : ∀ (x0 : Int32) (x1 : Int32) (s0 : g_St), f_As_hugeLength x0 x1 s0 = some o → g_W K s0 [(0, g_i x0), (1, g_i x1)] [] 0 (g_jI o) := by
  intro x0 x1 s0 h
  unfold f_As_hugeLength at h
  refine r_iload_n hK d_As_hugeLength_0 rfl 0 rfl ?_
  refine r_iload_n hK d_As_hugeLength_1 rfl 1 rfl ?_
  refine r_iadd hK d_As_hugeLength_2 ?_
  refine r_istore_n (ls1 := [(2, g_i (x0 + x1)), (0, g_i x0), (1, g_i x1)]) hK d_As_hugeLength_3 rfl (by rw [hN]; decide) rfl ?_
  refine r_iload_n hK d_As_hugeLength_4 rfl 0 rfl ?_
  refine r_ifge (tgt := 49) hK d_As_hugeLength_5 (by decide) h (fun h => ?_) (fun h => ?_)
  · refine r_iload_n hK d_As_hugeLength_49 rfl 0 rfl ?_
    refine r_ldc hK w4_143 d_As_hugeLength_50 ?_
    refine r_if_icmpgt (tgt := 58) hK d_As_hugeLength_52 (by decide) h (fun h => ?_) (fun h => ?_)
    · refine r_iload_n hK d_As_hugeLength_58 rfl 0 rfl ?_
      exact r_ireturn hK d_As_hugeLength_59 h
    · refine r_ldc hK w4_143 d_As_hugeLength_55 ?_
      exact r_ireturn hK d_As_hugeLength_57 h
  · cases h
theorem c_As_hugeLength (l : Launch) (G : g_G) (x0 : Int32) (x1 : Int32) (u : g_St) (o : (Int32 × g_St)) (h : f_As_hugeLength x0 x1 u = some o) : g_Con l G y_As_hugeLength b_As_hugeLength 3 (Option.some Jvm.ClassFile.FieldType.int) 7 [g_i x0, g_i x1] u (g_jI o) :=
  g_Con.of rfl rfl (by decide +kernel) (Nat.le_of_ble_eq_true rfl) (fun K hK hN hD hX => t_As_hugeLength_0 hK hN hD _ _ _ h)
def f_As_newLength_21 (x0 : Int32) (x1 : Int32) (s0 : g_St) : Option (Int32 × g_St) :=
  g_c (f_As_hugeLength x0 x1 s0) fun i1 s2 =>
  some (i1, s2)
def f_As_newLength (x0 : Int32) (x1 : Int32) (x2 : Int32) (s0 : g_St) : Option (Int32 × g_St) :=
  if (x0 + (if x1 < x2 then x2 else x1)) ≤ 0 then
    f_As_newLength_21 x0 x1 s0
  else
    if 2147483639 < (x0 + (if x1 < x2 then x2 else x1)) then
      f_As_newLength_21 x0 x1 s0
    else
      some (x0 + (if x1 < x2 then x2 else x1), s0)
set_option maxHeartbeats 4000000 in
set_option maxRecDepth 100000 in
theorem t_As_newLength_21 {K : g_C} {o : (Int32 × g_St)} (hK : g_OK K b_As_newLength "jdk/internal/util/ArraysSupport" "newLength" (Option.some Jvm.ClassFile.FieldType.int)) (hN : g_nL K = 4) (hD : g_Kd K = 8) : ∀ (x0 : Int32) (x1 : Int32) (s0 : g_St), f_As_newLength_21 x0 x1 s0 = some o → g_W K s0 [(0, g_i x0), (1, g_i x1)] [] 21 (g_jI o) := by
  intro x0 x1 s0 h
  unfold f_As_newLength_21 at h
  refine r_iload_n hK d_As_newLength_21 rfl 0 rfl ?_
  refine r_iload_n hK d_As_newLength_22 rfl 1 rfl ?_
  refine r_Si (avL := [g_i x0, g_i x1]) (st := []) hK w4_145 w4_144 w4_146 w1_25 (by decide) pl_As_hugeLength (by rw [hD]; decide) (Nat.le_of_ble_eq_true rfl) rfl d_As_newLength_23 (fun o9 h9 => c_As_hugeLength _ _ _ _ _ o9 h9) h (fun i1 s2 h => ?_)
  exact r_ireturn hK d_As_newLength_26 h
set_option maxHeartbeats 4000000 in
set_option maxRecDepth 100000 in
theorem t_As_newLength_0 {K : g_C} {o : (Int32 × g_St)} (hK : g_OK K b_As_newLength "jdk/internal/util/ArraysSupport" "newLength" (Option.some Jvm.ClassFile.FieldType.int)) (hN : g_nL K = 4) (hD : g_Kd K = 8) : ∀ (x0 : Int32) (x1 : Int32) (x2 : Int32) (s0 : g_St), f_As_newLength x0 x1 x2 s0 = some o → g_W K s0 [(0, g_i x0), (1, g_i x1), (2, g_i x2)] [] 0 (g_jI o) := by
  intro x0 x1 x2 s0 h
  unfold f_As_newLength at h
  refine r_iload_n hK d_As_newLength_0 rfl 0 rfl ?_
  refine r_iload_n hK d_As_newLength_1 rfl 1 rfl ?_
  refine r_iload_n hK d_As_newLength_2 rfl 2 rfl ?_
  refine r_mmax hK w4_140 (by rw [hD]; decide) (Nat.le_of_ble_eq_true rfl) d_As_newLength_3 ?_
  refine r_iadd hK d_As_newLength_6 ?_
  refine r_istore_n (ls1 := [(3, g_i (x0 + (if x1 < x2 then x2 else x1))), (0, g_i x0), (1, g_i x1), (2, g_i x2)]) hK d_As_newLength_7 rfl (by rw [hN]; decide) rfl ?_
  refine r_iconst (v := 0) hK d_As_newLength_8 (by decide) ?_
  refine r_iload_n hK d_As_newLength_9 rfl 0 rfl ?_
  refine r_if_icmpge (tgt := 21) hK d_As_newLength_10 (by decide) h (fun h => ?_) (fun h => ?_)
  · exact r_sub [1, 2] rfl (t_As_newLength_21 hK hN hD _ _ _ h)
  · refine r_iload_n hK d_As_newLength_13 rfl 0 rfl ?_
    refine r_ldc hK w4_143 d_As_newLength_14 ?_
    refine r_if_icmpgt (tgt := 21) hK d_As_newLength_16 (by decide) h (fun h => ?_) (fun h => ?_)
    · exact r_sub [1, 2] rfl (t_As_newLength_21 hK hN hD _ _ _ h)
    · refine r_iload_n hK d_As_newLength_19 rfl 0 rfl ?_
      exact r_ireturn hK d_As_newLength_20 h
theorem c_As_newLength (l : Launch) (G : g_G) (x0 : Int32) (x1 : Int32) (x2 : Int32) (u : g_St) (o : (Int32 × g_St)) (h : f_As_newLength x0 x1 x2 u = some o) : g_Con l G y_As_newLength b_As_newLength 4 (Option.some Jvm.ClassFile.FieldType.int) 8 [g_i x0, g_i x1, g_i x2] u (g_jI o) :=
  g_Con.of rfl rfl (by decide +kernel) (Nat.le_of_ble_eq_true rfl) (fun K hK hN hD hX => t_As_newLength_0 hK hN hD _ _ _ _ h)
