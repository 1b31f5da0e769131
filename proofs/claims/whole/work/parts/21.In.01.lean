def f_In_bitCount (x0 : Int32) (s0 : g_St) : Option (Int32 × g_St) :=
  some ((((((((x0 - (((x0.toUInt32 >>> ((1 : Int32).toUInt32 &&& Int32.toUInt32 31)).toInt32) &&& 1431655765)) &&& 858993459) + ((((x0 - (((x0.toUInt32 >>> ((1 : Int32).toUInt32 &&& Int32.toUInt32 31)).toInt32) &&& 1431655765)).toUInt32 >>> ((2 : Int32).toUInt32 &&& Int32.toUInt32 31)).toInt32) &&& 858993459)) + (((((x0 - (((x0.toUInt32 >>> ((1 : Int32).toUInt32 &&& Int32.toUInt32 31)).toInt32) &&& 1431655765)) &&& 858993459) + ((((x0 - (((x0.toUInt32 >>> ((1 : Int32).toUInt32 &&& Int32.toUInt32 31)).toInt32) &&& 1431655765)).toUInt32 >>> ((2 : Int32).toUInt32 &&& Int32.toUInt32 31)).toInt32) &&& 858993459)).toUInt32 >>> ((4 : Int32).toUInt32 &&& Int32.toUInt32 31)).toInt32)) &&& 252645135) + (((((((x0 - (((x0.toUInt32 >>> ((1 : Int32).toUInt32 &&& Int32.toUInt32 31)).toInt32) &&& 1431655765)) &&& 858993459) + ((((x0 - (((x0.toUInt32 >>> ((1 : Int32).toUInt32 &&& Int32.toUInt32 31)).toInt32) &&& 1431655765)).toUInt32 >>> ((2 : Int32).toUInt32 &&& Int32.toUInt32 31)).toInt32) &&& 858993459)) + (((((x0 - (((x0.toUInt32 >>> ((1 : Int32).toUInt32 &&& Int32.toUInt32 31)).toInt32) &&& 1431655765)) &&& 858993459) + ((((x0 - (((x0.toUInt32 >>> ((1 : Int32).toUInt32 &&& Int32.toUInt32 31)).toInt32) &&& 1431655765)).toUInt32 >>> ((2 : Int32).toUInt32 &&& Int32.toUInt32 31)).toInt32) &&& 858993459)).toUInt32 >>> ((4 : Int32).toUInt32 &&& Int32.toUInt32 31)).toInt32)) &&& 252645135).toUInt32 >>> ((8 : Int32).toUInt32 &&& Int32.toUInt32 31)).toInt32)) + ((((((((x0 - (((x0.toUInt32 >>> ((1 : Int32).toUInt32 &&& Int32.toUInt32 31)).toInt32) &&& 1431655765)) &&& 858993459) + ((((x0 - (((x0.toUInt32 >>> ((1 : Int32).toUInt32 &&& Int32.toUInt32 31)).toInt32) &&& 1431655765)).toUInt32 >>> ((2 : Int32).toUInt32 &&& Int32.toUInt32 31)).toInt32) &&& 858993459)) + (((((x0 - (((x0.toUInt32 >>> ((1 : Int32).toUInt32 &&& Int32.toUInt32 31)).toInt32) &&& 1431655765)) &&& 858993459) + ((((x0 - (((x0.toUInt32 >>> ((1 : Int32).toUInt32 &&& Int32.toUInt32 31)).toInt32) &&& 1431655765)).toUInt32 >>> ((2 : Int32).toUInt32 &&& Int32.toUInt32 31)).toInt32) &&& 858993459)).toUInt32 >>> ((4 : Int32).toUInt32 &&& Int32.toUInt32 31)).toInt32)) &&& 252645135) + (((((((x0 - (((x0.toUInt32 >>> ((1 : Int32).toUInt32 &&& Int32.toUInt32 31)).toInt32) &&& 1431655765)) &&& 858993459) + ((((x0 - (((x0.toUInt32 >>> ((1 : Int32).toUInt32 &&& Int32.toUInt32 31)).toInt32) &&& 1431655765)).toUInt32 >>> ((2 : Int32).toUInt32 &&& Int32.toUInt32 31)).toInt32) &&& 858993459)) + (((((x0 - (((x0.toUInt32 >>> ((1 : Int32).toUInt32 &&& Int32.toUInt32 31)).toInt32) &&& 1431655765)) &&& 858993459) + ((((x0 - (((x0.toUInt32 >>> ((1 : Int32).toUInt32 &&& Int32.toUInt32 31)).toInt32) &&& 1431655765)).toUInt32 >>> ((2 : Int32).toUInt32 &&& Int32.toUInt32 31)).toInt32) &&& 858993459)).toUInt32 >>> ((4 : Int32).toUInt32 &&& Int32.toUInt32 31)).toInt32)) &&& 252645135).toUInt32 >>> ((8 : Int32).toUInt32 &&& Int32.toUInt32 31)).toInt32)).toUInt32 >>> ((16 : Int32).toUInt32 &&& Int32.toUInt32 31)).toInt32)) &&& 63, s0)
set_option maxHeartbeats 4000000 in
set_option maxRecDepth 100000 in
theorem t_In_bitCount_0 {K : g_C} {o : (Int32 × g_St)} (hK : g_OK K b_In_bitCount "java/lang/Integer" "bitCount" (Option.some Jvm.ClassFile.FieldType.int)) (hN : g_nL K = 1) (hD : g_Kd K = 1) : ∀ (x0 : Int32) (s0 : g_St), f_In_bitCount x0 s0 = some o → g_W K s0 [(0, g_i x0)] [] 0 (g_jI o) := by
  intro x0 s0 h
  unfold f_In_bitCount at h
  refine r_iload_n hK d_In_bitCount_0 rfl 0 rfl ?_
  refine r_iload_n hK d_In_bitCount_1 rfl 0 rfl ?_
  refine r_iconst (v := 1) hK d_In_bitCount_2 (by decide) ?_
  refine r_iushr hK d_In_bitCount_3 ?_
  refine r_ldcw hK w5_223 d_In_bitCount_4 ?_
  refine r_iand hK d_In_bitCount_7 ?_
  refine r_isub hK d_In_bitCount_8 ?_
  refine r_istore_n (ls1 := [(0, g_i (x0 - (((x0.toUInt32 >>> ((1 : Int32).toUInt32 &&& Int32.toUInt32 31)).toInt32) &&& 1431655765)))]) hK d_In_bitCount_9 rfl (by rw [hN]; decide) rfl ?_
  refine r_iload_n hK d_In_bitCount_10 rfl 0 rfl ?_
  refine r_ldcw hK w5_224 d_In_bitCount_11 ?_
  refine r_iand hK d_In_bitCount_14 ?_
  refine r_iload_n hK d_In_bitCount_15 rfl 0 rfl ?_
  refine r_iconst (v := 2) hK d_In_bitCount_16 (by decide) ?_
  refine r_iushr hK d_In_bitCount_17 ?_
  refine r_ldcw hK w5_224 d_In_bitCount_18 ?_
  refine r_iand hK d_In_bitCount_21 ?_
  refine r_iadd hK d_In_bitCount_22 ?_
  refine r_istore_n (ls1 := [(0, g_i (((x0 - (((x0.toUInt32 >>> ((1 : Int32).toUInt32 &&& Int32.toUInt32 31)).toInt32) &&& 1431655765)) &&& 858993459) + ((((x0 - (((x0.toUInt32 >>> ((1 : Int32).toUInt32 &&& Int32.toUInt32 31)).toInt32) &&& 1431655765)).toUInt32 >>> ((2 : Int32).toUInt32 &&& Int32.toUInt32 31)).toInt32) &&& 858993459)))]) hK d_In_bitCount_23 rfl (by rw [hN]; decide) rfl ?_
  refine r_iload_n hK d_In_bitCount_24 rfl 0 rfl ?_
  refine r_iload_n hK d_In_bitCount_25 rfl 0 rfl ?_
  refine r_iconst (v := 4) hK d_In_bitCount_26 (by decide) ?_
  refine r_iushr hK d_In_bitCount_27 ?_
  refine r_iadd hK d_In_bitCount_28 ?_
  refine r_ldcw hK w5_225 d_In_bitCount_29 ?_
  refine r_iand hK d_In_bitCount_32 ?_
  refine r_istore_n (ls1 := [(0, g_i (((((x0 - (((x0.toUInt32 >>> ((1 : Int32).toUInt32 &&& Int32.toUInt32 31)).toInt32) &&& 1431655765)) &&& 858993459) + ((((x0 - (((x0.toUInt32 >>> ((1 : Int32).toUInt32 &&& Int32.toUInt32 31)).toInt32) &&& 1431655765)).toUInt32 >>> ((2 : Int32).toUInt32 &&& Int32.toUInt32 31)).toInt32) &&& 858993459)) + (((((x0 - (((x0.toUInt32 >>> ((1 : Int32).toUInt32 &&& Int32.toUInt32 31)).toInt32) &&& 1431655765)) &&& 858993459) + ((((x0 - (((x0.toUInt32 >>> ((1 : Int32).toUInt32 &&& Int32.toUInt32 31)).toInt32) &&& 1431655765)).toUInt32 >>> ((2 : Int32).toUInt32 &&& Int32.toUInt32 31)).toInt32) &&& 858993459)).toUInt32 >>> ((4 : Int32).toUInt32 &&& Int32.toUInt32 31)).toInt32)) &&& 252645135))]) hK d_In_bitCount_33 rfl (by rw [hN]; decide) rfl ?_
  refine r_iload_n hK d_In_bitCount_34 rfl 0 rfl ?_
  refine r_iload_n hK d_In_bitCount_35 rfl 0 rfl ?_
  refine r_bipush (v := 8) hK d_In_bitCount_36 (by decide) ?_
  refine r_iushr hK d_In_bitCount_38 ?_
  refine r_iadd hK d_In_bitCount_39 ?_
  refine r_istore_n (ls1 := [(0, g_i ((((((x0 - (((x0.toUInt32 >>> ((1 : Int32).toUInt32 &&& Int32.toUInt32 31)).toInt32) &&& 1431655765)) &&& 858993459) + ((((x0 - (((x0.toUInt32 >>> ((1 : Int32).toUInt32 &&& Int32.toUInt32 31)).toInt32) &&& 1431655765)).toUInt32 >>> ((2 : Int32).toUInt32 &&& Int32.toUInt32 31)).toInt32) &&& 858993459)) + (((((x0 - (((x0.toUInt32 >>> ((1 : Int32).toUInt32 &&& Int32.toUInt32 31)).toInt32) &&& 1431655765)) &&& 858993459) + ((((x0 - (((x0.toUInt32 >>> ((1 : Int32).toUInt32 &&& Int32.toUInt32 31)).toInt32) &&& 1431655765)).toUInt32 >>> ((2 : Int32).toUInt32 &&& Int32.toUInt32 31)).toInt32) &&& 858993459)).toUInt32 >>> ((4 : Int32).toUInt32 &&& Int32.toUInt32 31)).toInt32)) &&& 252645135) + (((((((x0 - (((x0.toUInt32 >>> ((1 : Int32).toUInt32 &&& Int32.toUInt32 31)).toInt32) &&& 1431655765)) &&& 858993459) + ((((x0 - (((x0.toUInt32 >>> ((1 : Int32).toUInt32 &&& Int32.toUInt32 31)).toInt32) &&& 1431655765)).toUInt32 >>> ((2 : Int32).toUInt32 &&& Int32.toUInt32 31)).toInt32) &&& 858993459)) + (((((x0 - (((x0.toUInt32 >>> ((1 : Int32).toUInt32 &&& Int32.toUInt32 31)).toInt32) &&& 1431655765)) &&& 858993459) + ((((x0 - (((x0.toUInt32 >>> ((1 : Int32).toUInt32 &&& Int32.toUInt32 31)).toInt32) &&& 1431655765)).toUInt32 >>> ((2 : Int32).toUInt32 &&& Int32.toUInt32 31)).toInt32) &&& 858993459)).toUInt32 >>> ((4 : Int32).toUInt32 &&& Int32.toUInt32 31)).toInt32)) &&& 252645135).toUInt32 >>> ((8 : Int32).toUInt32 &&& Int32.toUInt32 31)).toInt32)))]) hK d_In_bitCount_40 rfl (by rw [hN]; decide) rfl ?_
  refine r_iload_n hK d_In_bitCount_41 rfl 0 rfl ?_
  refine r_iload_n hK d_In_bitCount_42 rfl 0 rfl ?_
  refine r_bipush (v := 16) hK d_In_bitCount_43 (by decide) ?_
  refine r_iushr hK d_In_bitCount_45 ?_
  refine r_iadd hK d_In_bitCount_46 ?_
  refine r_istore_n (ls1 := [(0, g_i (((((((x0 - (((x0.toUInt32 >>> ((1 : Int32).toUInt32 &&& Int32.toUInt32 31)).toInt32) &&& 1431655765)) &&& 858993459) + ((((x0 - (((x0.toUInt32 >>> ((1 : Int32).toUInt32 &&& Int32.toUInt32 31)).toInt32) &&& 1431655765)).toUInt32 >>> ((2 : Int32).toUInt32 &&& Int32.toUInt32 31)).toInt32) &&& 858993459)) + (((((x0 - (((x0.toUInt32 >>> ((1 : Int32).toUInt32 &&& Int32.toUInt32 31)).toInt32) &&& 1431655765)) &&& 858993459) + ((((x0 - (((x0.toUInt32 >>> ((1 : Int32).toUInt32 &&& Int32.toUInt32 31)).toInt32) &&& 1431655765)).toUInt32 >>> ((2 : Int32).toUInt32 &&& Int32.toUInt32 31)).toInt32) &&& 858993459)).toUInt32 >>> ((4 : Int32).toUInt32 &&& Int32.toUInt32 31)).toInt32)) &&& 252645135) + (((((((x0 - (((x0.toUInt32 >>> ((1 : Int32).toUInt32 &&& Int32.toUInt32 31)).toInt32) &&& 1431655765)) &&& 858993459) + ((((x0 - (((x0.toUInt32 >>> ((1 : Int32).toUInt32 &&& Int32.toUInt32 31)).toInt32) &&& 1431655765)).toUInt32 >>> ((2 : Int32).toUInt32 &&& Int32.toUInt32 31)).toInt32) &&& 858993459)) + (((((x0 - (((x0.toUInt32 >>> ((1 : Int32).toUInt32 &&& Int32.toUInt32 31)).toInt32) &&& 1431655765)) &&& 858993459) + ((((x0 - (((x0.toUInt32 >>> ((1 : Int32).toUInt32 &&& Int32.toUInt32 31)).toInt32) &&& 1431655765)).toUInt32 >>> ((2 : Int32).toUInt32 &&& Int32.toUInt32 31)).toInt32) &&& 858993459)).toUInt32 >>> ((4 : Int32).toUInt32 &&& Int32.toUInt32 31)).toInt32)) &&& 252645135).toUInt32 >>> ((8 : Int32).toUInt32 &&& Int32.toUInt32 31)).toInt32)) + ((((((((x0 - (((x0.toUInt32 >>> ((1 : Int32).toUInt32 &&& Int32.toUInt32 31)).toInt32) &&& 1431655765)) &&& 858993459) + ((((x0 - (((x0.toUInt32 >>> ((1 : Int32).toUInt32 &&& Int32.toUInt32 31)).toInt32) &&& 1431655765)).toUInt32 >>> ((2 : Int32).toUInt32 &&& Int32.toUInt32 31)).toInt32) &&& 858993459)) + (((((x0 - (((x0.toUInt32 >>> ((1 : Int32).toUInt32 &&& Int32.toUInt32 31)).toInt32) &&& 1431655765)) &&& 858993459) + ((((x0 - (((x0.toUInt32 >>> ((1 : Int32).toUInt32 &&& Int32.toUInt32 31)).toInt32) &&& 1431655765)).toUInt32 >>> ((2 : Int32).toUInt32 &&& Int32.toUInt32 31)).toInt32) &&& 858993459)).toUInt32 >>> ((4 : Int32).toUInt32 &&& Int32.toUInt32 31)).toInt32)) &&& 252645135) + (((((((x0 - (((x0.toUInt32 >>> ((1 : Int32).toUInt32 &&& Int32.toUInt32 31)).toInt32) &&& 1431655765)) &&& 858993459) + ((((x0 - (((x0.toUInt32 >>> ((1 : Int32).toUInt32 &&& Int32.toUInt32 31)).toInt32) &&& 1431655765)).toUInt32 >>> ((2 : Int32).toUInt32 &&& Int32.toUInt32 31)).toInt32) &&& 858993459)) + (((((x0 - (((x0.toUInt32 >>> ((1 : Int32).toUInt32 &&& Int32.toUInt32 31)).toInt32) &&& 1431655765)) &&& 858993459) + ((((x0 - (((x0.toUInt32 >>> ((1 : Int32).toUInt32 &&& Int32.toUInt32 31)).toInt32) &&& 1431655765)).toUInt32 >>> ((2 : Int32).toUInt32 &&& Int32.toUInt32 31)).toInt32) &&& 858993459)).toUInt32 >>> ((4 : Int32).toUInt32 &&& Int32.toUInt32 31)).toInt32)) &&& 252645135).toUInt32 >>> ((8 : Int32).toUInt32 &&& Int32.toUInt32 31)).toInt32)).toUInt32 >>> ((16 : Int32).toUInt32 &&& Int32.toUInt32 31)).toInt32)))]) hK d_In_bitCount_47 rfl (by rw [hN]; decide) rfl ?_
  refine r_iload_n hK d_In_bitCount_48 rfl 0 rfl ?_
  refine r_bipush (v := 63) hK d_In_bitCount_49 (by decide) ?_
  refine r_iand hK d_In_bitCount_51 ?_
  exact r_ireturn hK d_In_bitCount_52 h
theorem c_In_bitCount (l : Launch) (G : g_G) (x0 : Int32) (u : g_St) (o : (Int32 × g_St)) (h : f_In_bitCount x0 u = some o) : g_Con l G y_In_bitCount b_In_bitCount 1 (Option.some Jvm.ClassFile.FieldType.int) 1 [g_i x0] u (g_jI o) :=
  g_Con.of rfl rfl (by decide +kernel) (Nat.le_of_ble_eq_true rfl) (fun K hK hN hD hX => t_In_bitCount_0 hK hN hD _ _ h)
def f_In_compare (x0 : Int32) (x1 : Int32) (s0 : g_St) : Option (Int32 × g_St) :=
  if x1 ≤ x0 then
    if x0 = x1 then
      some (0, s0)
    else
      some (1, s0)
  else
    some ((-1), s0)
set_option maxHeartbeats 4000000 in
set_option maxRecDepth 100000 in
theorem t_In_compare_0 {K : g_C} {o : (Int32 × g_St)} (hK : g_OK K b_In_compare "java/lang/Integer" "compare" (Option.some Jvm.ClassFile.FieldType.int)) (hN : g_nL K = 2) (hD : g_Kd K = 1) : ∀ (x0 : Int32) (x1 : Int32) (s0 : g_St), f_In_compare x0 x1 s0 = some o → g_W K s0 [(0, g_i x0), (1, g_i x1)] [] 0 (g_jI o) := by
  intro x0 x1 s0 h
  unfold f_In_compare at h
  refine r_iload_n hK d_In_compare_0 rfl 0 rfl ?_
  refine r_iload_n hK d_In_compare_1 rfl 1 rfl ?_
  refine r_if_icmpge (tgt := 9) hK d_In_compare_2 (by decide) h (fun h => ?_) (fun h => ?_)
  · refine r_iload_n hK d_In_compare_9 rfl 0 rfl ?_
    refine r_iload_n hK d_In_compare_10 rfl 1 rfl ?_
    refine r_if_icmpne (tgt := 18) hK d_In_compare_11 (by decide) h (fun h => ?_) (fun h => ?_)
    · refine r_iconst (v := 1) hK d_In_compare_18 (by decide) ?_
      exact r_ireturn hK d_In_compare_19 h
    · refine r_iconst (v := 0) hK d_In_compare_14 (by decide) ?_
      refine r_goto (tgt := 19) hK d_In_compare_15 (by decide) ?_
      exact r_ireturn hK d_In_compare_19 h
  · refine r_iconst (v := (-1)) hK d_In_compare_5 (by decide) ?_
    refine r_goto (tgt := 19) hK d_In_compare_6 (by decide) ?_
    exact r_ireturn hK d_In_compare_19 h
theorem c_In_compare (l : Launch) (G : g_G) (x0 : Int32) (x1 : Int32) (u : g_St) (o : (Int32 × g_St)) (h : f_In_compare x0 x1 u = some o) : g_Con l G y_In_compare b_In_compare 2 (Option.some Jvm.ClassFile.FieldType.int) 1 [g_i x0, g_i x1] u (g_jI o) :=
  g_Con.of rfl rfl (by decide +kernel) (Nat.le_of_ble_eq_true rfl) (fun K hK hN hD hX => t_In_compare_0 hK hN hD _ _ _ h)
