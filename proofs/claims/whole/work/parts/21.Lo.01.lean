def f_Lo_compare (y0 : Int64) (y2 : Int64) (s0 : g_St) : Option (Int32 × g_St) :=
  if y2 ≤ y0 then
    if y0 = y2 then
      some (0, s0)
    else
      some (1, s0)
  else
    some ((-1), s0)
set_option maxHeartbeats 4000000 in
set_option maxRecDepth 100000 in
theorem t_Lo_compare_0 {K : g_C} {o : (Int32 × g_St)} (hK : g_OK K b_Lo_compare "java/lang/Long" "compare" (Option.some Jvm.ClassFile.FieldType.int)) (hN : g_nL K = 4) (hD : g_Kd K = 1) : ∀ (y0 : Int64) (y2 : Int64) (s0 : g_St), f_Lo_compare y0 y2 s0 = some o → g_W K s0 [(0, g_l y0), (2, g_l y2)] [] 0 (g_jI o) := by
  intro y0 y2 s0 h
  unfold f_Lo_compare at h
  refine r_lload_n hK d_Lo_compare_0 rfl 0 rfl ?_
  refine r_lload_n hK d_Lo_compare_1 rfl 1 rfl ?_
  refine r_lifge (tgt := 10) hK d_Lo_compare_2 d_Lo_compare_3 (by decide) h (fun h => ?_) (fun h => ?_)
  · refine r_lload_n hK d_Lo_compare_10 rfl 0 rfl ?_
    refine r_lload_n hK d_Lo_compare_11 rfl 1 rfl ?_
    refine r_lifne (tgt := 20) hK d_Lo_compare_12 d_Lo_compare_13 (by decide) h (fun h => ?_) (fun h => ?_)
    · refine r_iconst (v := 1) hK d_Lo_compare_20 (by decide) ?_
      exact r_ireturn hK d_Lo_compare_21 h
    · refine r_iconst (v := 0) hK d_Lo_compare_16 (by decide) ?_
      refine r_goto (tgt := 21) hK d_Lo_compare_17 (by decide) ?_
      exact r_ireturn hK d_Lo_compare_21 h
  · refine r_iconst (v := (-1)) hK d_Lo_compare_6 (by decide) ?_
    refine r_goto (tgt := 21) hK d_Lo_compare_7 (by decide) ?_
    exact r_ireturn hK d_Lo_compare_21 h
theorem c_Lo_compare (l : Launch) (G : g_G) (y0 : Int64) (y2 : Int64) (u : g_St) (o : (Int32 × g_St)) (h : f_Lo_compare y0 y2 u = some o) : g_Con l G y_Lo_compare b_Lo_compare 4 (Option.some Jvm.ClassFile.FieldType.int) 1 [g_l y0, g_l y2] u (g_jI o) :=
  g_Con.of rfl rfl (by decide +kernel) (Nat.le_of_ble_eq_true rfl) (fun K hK hN hD hX => t_Lo_compare_0 hK hN hD _ _ _ h)
