def f_Lw_table (r0 : Option Nat) (x1 : Int32) (r2 : Option Nat) (s0 : g_St) : Option (Int32 × g_St) :=
  g_cC (g_nn r0 (f_E_table r0 x1 s0)) (fun i1 s2 =>
  g_sL s2 r2 0 i1.toInt64 fun s5 =>
  some (0, s5)) (fun e3 s4 =>
  if e3 = 0 then
    some (1, s4)
  else
    if e3 = 1 then
      some (2, s4)
    else
      none)
set_option maxHeartbeats 4000000 in
set_option maxRecDepth 100000 in
theorem t_Lw_table_0 {K : g_C} {o : (Int32 × g_St)} (hK : g_OK K b_Lw_table "FixpointEngineLaw" "table" (Option.some Jvm.ClassFile.FieldType.int)) (hN : g_nL K = 4) (hD : g_Kd K = 8) (hX : g_hX K [(0, 9, 12, 13), (0, 9, 15, 15)]) : ∀ (r0 : Option Nat) (x1 : Int32) (r2 : Option Nat) (s0 : g_St), f_Lw_table r0 x1 r2 s0 = some o → g_W K s0 [(0, g_r 0 r0), (1, g_i x1), (2, g_r 21 r2)] [] 0 (g_jI o) := by
  intro r0 x1 r2 s0 h
  unfold f_Lw_table at h
  refine r_aload_n hK d_Lw_table_0 rfl 2 rfl ?_
  refine r_iconst (v := 0) hK d_Lw_table_1 (by decide) ?_
  refine r_aload_n hK d_Lw_table_2 rfl 0 rfl ?_
  refine r_iload_n hK d_Lw_table_3 rfl 1 rfl ?_
  refine r_VCi (avL := [g_i x1]) (st := [g_i 0, g_r 21 r2]) hK hX ob_E rfl w2_15 w2_16 w2_14 w2_17 w1_1 (by decide) pl_E_table (by rw [hD]; decide) (Nat.le_of_ble_eq_true rfl) rfl d_Lw_table_4 (fun o9 h9 => c_E_table _ _ _ _ _ o9 h9) h (fun i1 s2 h => ?_) (fun e3 s4 h => ?_)
  · refine r_i2l hK d_Lw_table_7 ?_
    refine r_lastore hK ar_21 rfl d_Lw_table_8 h (fun s5 h => ?_)
    refine r_goto (tgt := 18) hK d_Lw_table_9 (by decide) ?_
    refine r_iconst (v := 0) hK d_Lw_table_18 (by decide) ?_
    exact r_ireturn hK d_Lw_table_19 h
  · by_cases q0 : e3 = 0
    · rw [if_pos q0] at h
      subst q0
      refine ⟨[], (0, 9, 12, 13), [(0, 9, 15, 15)], "java/lang/IllegalArgumentException", 3, 1, rfl, rfl, ⟨by decide, by decide⟩, by decide, w2_12, fun _ h => absurd h List.not_mem_nil, by rw [hN]; decide, Or.inl ⟨rfl, 3, rfl, d_Lw_table_12⟩, ?_⟩
      refine r_iconst (v := 1) hK d_Lw_table_13 (by decide) ?_
      exact r_ireturn hK d_Lw_table_14 h
    rw [if_neg q0] at h
    by_cases q1 : e3 = 1
    · rw [if_pos q1] at h
      subst q1
      refine ⟨[(0, 9, 12, 13)], (0, 9, 15, 15), [], "java/lang/IllegalStateException", 3, 1, rfl, rfl, ⟨by decide, by decide⟩, by decide, w2_13, List.forall_mem_cons.mpr ⟨⟨"java/lang/IllegalArgumentException", List.mem_of_getElem? (i := 0) rfl, by decide, by decide, w2_12⟩, fun _ h => absurd h List.not_mem_nil⟩, by rw [hN]; decide, Or.inl ⟨rfl, 3, rfl, d_Lw_table_15⟩, ?_⟩
      refine r_iconst (v := 2) hK d_Lw_table_16 (by decide) ?_
      exact r_ireturn hK d_Lw_table_17 h
    rw [if_neg q1] at h
    cases h
theorem c_Lw_table (l : Launch) (G : g_G) (r0 : Option Nat) (x1 : Int32) (r2 : Option Nat) (u : g_St) (o : (Int32 × g_St)) (h : f_Lw_table r0 x1 r2 u = some o) : g_ConX l G y_Lw_table b_Lw_table 4 (Option.some Jvm.ClassFile.FieldType.int) [(0, 9, 12, 13), (0, 9, 15, 15)] 8 [g_r 0 r0, g_i x1, g_r 21 r2] u (g_jI o) :=
  g_ConX.of rfl rfl (by decide +kernel) (Nat.le_of_ble_eq_true rfl) (fun K hK hN hD hX => t_Lw_table_0 hK hN hD hX _ _ _ _ h)
def f_Lw_row (r0 : Option Nat) (x1 : Int32) (x2 : Int32) (x3 : Int32) (x4 : Int32) (x5 : Int32) (r6 : Option Nat) (s0 : g_St) : Option (Int32 × g_St) :=
  g_cC (g_nn r0 (f_E_row r0 x1 x2 x3 x4 x5 s0)) (fun i1 s2 =>
  g_sL s2 r6 0 i1.toInt64 fun s5 =>
  some (0, s5)) (fun e3 s4 =>
  if e3 = 0 then
    some (1, s4)
  else
    if e3 = 1 then
      some (2, s4)
    else
      none)
set_option maxHeartbeats 4000000 in
set_option maxRecDepth 100000 in
theorem t_Lw_row_0 {K : g_C} {o : (Int32 × g_St)} (hK : g_OK K b_Lw_row "FixpointEngineLaw" "row" (Option.some Jvm.ClassFile.FieldType.int)) (hN : g_nL K = 8) (hD : g_Kd K = 8) (hX : g_hX K [(0, 16, 19, 13), (0, 16, 23, 15)]) : ∀ (r0 : Option Nat) (x1 : Int32) (x2 : Int32) (x3 : Int32) (x4 : Int32) (x5 : Int32) (r6 : Option Nat) (s0 : g_St), f_Lw_row r0 x1 x2 x3 x4 x5 r6 s0 = some o → g_W K s0 [(0, g_r 0 r0), (1, g_i x1), (2, g_i x2), (3, g_i x3), (4, g_i x4), (5, g_i x5), (6, g_r 21 r6)] [] 0 (g_jI o) := by
  intro r0 x1 x2 x3 x4 x5 r6 s0 h
  unfold f_Lw_row at h
  refine r_aload hK d_Lw_row_0 6 rfl ?_
  refine r_iconst (v := 0) hK d_Lw_row_2 (by decide) ?_
  refine r_aload_n hK d_Lw_row_3 rfl 0 rfl ?_
  refine r_iload_n hK d_Lw_row_4 rfl 1 rfl ?_
  refine r_iload_n hK d_Lw_row_5 rfl 2 rfl ?_
  refine r_iload_n hK d_Lw_row_6 rfl 3 rfl ?_
  refine r_iload hK d_Lw_row_7 4 rfl ?_
  refine r_iload hK d_Lw_row_9 5 rfl ?_
  refine r_VCi (avL := [g_i x1, g_i x2, g_i x3, g_i x4, g_i x5]) (st := [g_i 0, g_r 21 r6]) hK hX ob_E rfl w2_110 w2_111 w2_109 w2_112 w1_1 (by decide) pl_E_row (by rw [hD]; decide) (Nat.le_of_ble_eq_true rfl) rfl d_Lw_row_11 (fun o9 h9 => c_E_row _ _ _ _ _ _ _ _ _ o9 h9) h (fun i1 s2 h => ?_) (fun e3 s4 h => ?_)
  · refine r_i2l hK d_Lw_row_14 ?_
    refine r_lastore hK ar_21 rfl d_Lw_row_15 h (fun s5 h => ?_)
    refine r_goto (tgt := 27) hK d_Lw_row_16 (by decide) ?_
    refine r_iconst (v := 0) hK d_Lw_row_27 (by decide) ?_
    exact r_ireturn hK d_Lw_row_28 h
  · by_cases q0 : e3 = 0
    · rw [if_pos q0] at h
      subst q0
      refine ⟨[], (0, 16, 19, 13), [(0, 16, 23, 15)], "java/lang/IllegalArgumentException", 7, 2, rfl, rfl, ⟨by decide, by decide⟩, by decide, w2_12, fun _ h => absurd h List.not_mem_nil, by rw [hN]; decide, Or.inr ⟨rfl, d_Lw_row_19⟩, ?_⟩
      refine r_iconst (v := 1) hK d_Lw_row_21 (by decide) ?_
      exact r_ireturn hK d_Lw_row_22 h
    rw [if_neg q0] at h
    by_cases q1 : e3 = 1
    · rw [if_pos q1] at h
      subst q1
      refine ⟨[(0, 16, 19, 13)], (0, 16, 23, 15), [], "java/lang/IllegalStateException", 7, 2, rfl, rfl, ⟨by decide, by decide⟩, by decide, w2_13, List.forall_mem_cons.mpr ⟨⟨"java/lang/IllegalArgumentException", List.mem_of_getElem? (i := 0) rfl, by decide, by decide, w2_12⟩, fun _ h => absurd h List.not_mem_nil⟩, by rw [hN]; decide, Or.inr ⟨rfl, d_Lw_row_23⟩, ?_⟩
      refine r_iconst (v := 2) hK d_Lw_row_25 (by decide) ?_
      exact r_ireturn hK d_Lw_row_26 h
    rw [if_neg q1] at h
    cases h
theorem c_Lw_row (l : Launch) (G : g_G) (r0 : Option Nat) (x1 : Int32) (x2 : Int32) (x3 : Int32) (x4 : Int32) (x5 : Int32) (r6 : Option Nat) (u : g_St) (o : (Int32 × g_St)) (h : f_Lw_row r0 x1 x2 x3 x4 x5 r6 u = some o) : g_ConX l G y_Lw_row b_Lw_row 8 (Option.some Jvm.ClassFile.FieldType.int) [(0, 16, 19, 13), (0, 16, 23, 15)] 8 [g_r 0 r0, g_i x1, g_i x2, g_i x3, g_i x4, g_i x5, g_r 21 r6] u (g_jI o) :=
  g_ConX.of rfl rfl (by decide +kernel) (Nat.le_of_ble_eq_true rfl) (fun K hK hN hD hX => t_Lw_row_0 hK hN hD hX _ _ _ _ _ _ _ _ h)
def f_Lw_clear (r0 : Option Nat) (x1 : Int32) (r2 : Option Nat) (s0 : g_St) : Option (Int32 × g_St) :=
  g_cC (g_nn r0 (f_E_clear r0 x1 s0)) (fun i1 s2 =>
  g_sL s2 r2 0 i1.toInt64 fun s5 =>
  some (0, s5)) (fun e3 s4 =>
  if e3 = 0 then
    some (1, s4)
  else
    none)
set_option maxHeartbeats 4000000 in
set_option maxRecDepth 100000 in
theorem t_Lw_clear_0 {K : g_C} {o : (Int32 × g_St)} (hK : g_OK K b_Lw_clear "FixpointEngineLaw" "clear" (Option.some Jvm.ClassFile.FieldType.int)) (hN : g_nL K = 4) (hD : g_Kd K = 8) (hX : g_hX K [(0, 9, 12, 13)]) : ∀ (r0 : Option Nat) (x1 : Int32) (r2 : Option Nat) (s0 : g_St), f_Lw_clear r0 x1 r2 s0 = some o → g_W K s0 [(0, g_r 0 r0), (1, g_i x1), (2, g_r 21 r2)] [] 0 (g_jI o) := by
  intro r0 x1 r2 s0 h
  unfold f_Lw_clear at h
  refine r_aload_n hK d_Lw_clear_0 rfl 2 rfl ?_
  refine r_iconst (v := 0) hK d_Lw_clear_1 (by decide) ?_
  refine r_aload_n hK d_Lw_clear_2 rfl 0 rfl ?_
  refine r_iload_n hK d_Lw_clear_3 rfl 1 rfl ?_
  refine r_VCi (avL := [g_i x1]) (st := [g_i 0, g_r 21 r2]) hK hX ob_E rfl w2_120 w2_121 w2_119 w2_122 w1_1 (by decide) pl_E_clear (by rw [hD]; decide) (Nat.le_of_ble_eq_true rfl) rfl d_Lw_clear_4 (fun o9 h9 => c_E_clear _ _ _ _ _ o9 h9) h (fun i1 s2 h => ?_) (fun e3 s4 h => ?_)
  · refine r_i2l hK d_Lw_clear_7 ?_
    refine r_lastore hK ar_21 rfl d_Lw_clear_8 h (fun s5 h => ?_)
    refine r_goto (tgt := 15) hK d_Lw_clear_9 (by decide) ?_
    refine r_iconst (v := 0) hK d_Lw_clear_15 (by decide) ?_
    exact r_ireturn hK d_Lw_clear_16 h
  · by_cases q0 : e3 = 0
    · rw [if_pos q0] at h
      subst q0
      refine ⟨[], (0, 9, 12, 13), [], "java/lang/IllegalArgumentException", 3, 1, rfl, rfl, ⟨by decide, by decide⟩, by decide, w2_12, fun _ h => absurd h List.not_mem_nil, by rw [hN]; decide, Or.inl ⟨rfl, 3, rfl, d_Lw_clear_12⟩, ?_⟩
      refine r_iconst (v := 1) hK d_Lw_clear_13 (by decide) ?_
      exact r_ireturn hK d_Lw_clear_14 h
    rw [if_neg q0] at h
    cases h
theorem c_Lw_clear (l : Launch) (G : g_G) (r0 : Option Nat) (x1 : Int32) (r2 : Option Nat) (u : g_St) (o : (Int32 × g_St)) (h : f_Lw_clear r0 x1 r2 u = some o) : g_ConX l G y_Lw_clear b_Lw_clear 4 (Option.some Jvm.ClassFile.FieldType.int) [(0, 9, 12, 13)] 8 [g_r 0 r0, g_i x1, g_r 21 r2] u (g_jI o) :=
  g_ConX.of rfl rfl (by decide +kernel) (Nat.le_of_ble_eq_true rfl) (fun K hK hN hD hX => t_Lw_clear_0 hK hN hD hX _ _ _ _ h)
def f_Lw_prepare (r0 : Option Nat) (r1 : Option Nat) (s0 : g_St) : Option (Int32 × g_St) :=
  g_cC (g_nn r0 (f_E_prepare r0 s0)) (fun i1 s2 =>
  g_sL s2 r1 0 i1.toInt64 fun s5 =>
  some (0, s5)) (fun e3 s4 =>
  if e3 = 0 then
    some (1, s4)
  else
    none)
set_option maxHeartbeats 4000000 in
set_option maxRecDepth 100000 in
theorem t_Lw_prepare_0 {K : g_C} {o : (Int32 × g_St)} (hK : g_OK K b_Lw_prepare "FixpointEngineLaw" "prepare" (Option.some Jvm.ClassFile.FieldType.int)) (hN : g_nL K = 3) (hD : g_Kd K = 20) (hX : g_hX K [(0, 8, 11, 13)]) : ∀ (r0 : Option Nat) (r1 : Option Nat) (s0 : g_St), f_Lw_prepare r0 r1 s0 = some o → g_W K s0 [(0, g_r 0 r0), (1, g_r 21 r1)] [] 0 (g_jI o) := by
  intro r0 r1 s0 h
  unfold f_Lw_prepare at h
  refine r_aload_n hK d_Lw_prepare_0 rfl 1 rfl ?_
  refine r_iconst (v := 0) hK d_Lw_prepare_1 (by decide) ?_
  refine r_aload_n hK d_Lw_prepare_2 rfl 0 rfl ?_
  refine r_VCi (avL := []) (st := [g_i 0, g_r 21 r1]) hK hX ob_E rfl w2_127 w2_128 w2_126 w2_129 w1_1 (by decide) pl_E_prepare (by rw [hD]; decide) (Nat.le_of_ble_eq_true rfl) rfl d_Lw_prepare_3 (fun o9 h9 => c_E_prepare _ _ _ _ o9 h9) h (fun i1 s2 h => ?_) (fun e3 s4 h => ?_)
  · refine r_i2l hK d_Lw_prepare_6 ?_
    refine r_lastore hK ar_21 rfl d_Lw_prepare_7 h (fun s5 h => ?_)
    refine r_goto (tgt := 14) hK d_Lw_prepare_8 (by decide) ?_
    refine r_iconst (v := 0) hK d_Lw_prepare_14 (by decide) ?_
    exact r_ireturn hK d_Lw_prepare_15 h
  · by_cases q0 : e3 = 0
    · rw [if_pos q0] at h
      subst q0
      refine ⟨[], (0, 8, 11, 13), [], "java/lang/IllegalArgumentException", 2, 1, rfl, rfl, ⟨by decide, by decide⟩, by decide, w2_12, fun _ h => absurd h List.not_mem_nil, by rw [hN]; decide, Or.inl ⟨rfl, 2, rfl, d_Lw_prepare_11⟩, ?_⟩
      refine r_iconst (v := 1) hK d_Lw_prepare_12 (by decide) ?_
      exact r_ireturn hK d_Lw_prepare_13 h
    rw [if_neg q0] at h
    cases h
theorem c_Lw_prepare (l : Launch) (G : g_G) (r0 : Option Nat) (r1 : Option Nat) (u : g_St) (o : (Int32 × g_St)) (h : f_Lw_prepare r0 r1 u = some o) : g_ConX l G y_Lw_prepare b_Lw_prepare 3 (Option.some Jvm.ClassFile.FieldType.int) [(0, 8, 11, 13)] 20 [g_r 0 r0, g_r 21 r1] u (g_jI o) :=
  g_ConX.of rfl rfl (by decide +kernel) (Nat.le_of_ble_eq_true rfl) (fun K hK hN hD hX => t_Lw_prepare_0 hK hN hD hX _ _ _ h)
def f_Lw_part (r0 : Option Nat) (x1 : Int32) (x2 : Int32) (r3 : Option Nat) (s0 : g_St) : Option (Int32 × g_St) :=
  g_cC (g_nn r0 (f_E_part r0 x1 x2 s0)) (fun i1 s2 =>
  g_sL s2 r3 0 i1.toInt64 fun s5 =>
  some (0, s5)) (fun e3 s4 =>
  if e3 = 4 then
    some (1, s4)
  else
    if e3 = 0 then
      some (2, s4)
    else
      none)
set_option maxHeartbeats 4000000 in
set_option maxRecDepth 100000 in
theorem t_Lw_part_0 {K : g_C} {o : (Int32 × g_St)} (hK : g_OK K b_Lw_part "FixpointEngineLaw" "part" (Option.some Jvm.ClassFile.FieldType.int)) (hN : g_nL K = 5) (hD : g_Kd K = 8) (hX : g_hX K [(0, 10, 13, 32), (0, 10, 17, 13)]) : ∀ (r0 : Option Nat) (x1 : Int32) (x2 : Int32) (r3 : Option Nat) (s0 : g_St), f_Lw_part r0 x1 x2 r3 s0 = some o → g_W K s0 [(0, g_r 0 r0), (1, g_i x1), (2, g_i x2), (3, g_r 21 r3)] [] 0 (g_jI o) := by
  intro r0 x1 x2 r3 s0 h
  unfold f_Lw_part at h
  refine r_aload_n hK d_Lw_part_0 rfl 3 rfl ?_
  refine r_iconst (v := 0) hK d_Lw_part_1 (by decide) ?_
  refine r_aload_n hK d_Lw_part_2 rfl 0 rfl ?_
  refine r_iload_n hK d_Lw_part_3 rfl 1 rfl ?_
  refine r_iload_n hK d_Lw_part_4 rfl 2 rfl ?_
  refine r_VCi (avL := [g_i x1, g_i x2]) (st := [g_i 0, g_r 21 r3]) hK hX ob_E rfl w5_239 w6_0 w5_238 w6_1 w1_1 (by decide) pl_E_part (by rw [hD]; decide) (Nat.le_of_ble_eq_true rfl) rfl d_Lw_part_5 (fun o9 h9 => c_E_part _ _ _ _ _ _ o9 h9) h (fun i1 s2 h => ?_) (fun e3 s4 h => ?_)
  · refine r_i2l hK d_Lw_part_8 ?_
    refine r_lastore hK ar_21 rfl d_Lw_part_9 h (fun s5 h => ?_)
    refine r_goto (tgt := 21) hK d_Lw_part_10 (by decide) ?_
    refine r_iconst (v := 0) hK d_Lw_part_21 (by decide) ?_
    exact r_ireturn hK d_Lw_part_22 h
  · by_cases q0 : e3 = 4
    · rw [if_pos q0] at h
      subst q0
      refine ⟨[], (0, 10, 13, 32), [(0, 10, 17, 13)], "java/util/NoSuchElementException", 4, 2, rfl, rfl, ⟨by decide, by decide⟩, by decide, w5_237, fun _ h => absurd h List.not_mem_nil, by rw [hN]; decide, Or.inr ⟨rfl, d_Lw_part_13⟩, ?_⟩
      refine r_iconst (v := 1) hK d_Lw_part_15 (by decide) ?_
      exact r_ireturn hK d_Lw_part_16 h
    rw [if_neg q0] at h
    by_cases q1 : e3 = 0
    · rw [if_pos q1] at h
      subst q1
      refine ⟨[(0, 10, 13, 32)], (0, 10, 17, 13), [], "java/lang/IllegalArgumentException", 4, 2, rfl, rfl, ⟨by decide, by decide⟩, by decide, w2_12, List.forall_mem_cons.mpr ⟨⟨"java/util/NoSuchElementException", List.mem_of_getElem? (i := 4) rfl, by decide, by decide, w5_237⟩, fun _ h => absurd h List.not_mem_nil⟩, by rw [hN]; decide, Or.inr ⟨rfl, d_Lw_part_17⟩, ?_⟩
      refine r_iconst (v := 2) hK d_Lw_part_19 (by decide) ?_
      exact r_ireturn hK d_Lw_part_20 h
    rw [if_neg q1] at h
    cases h
theorem c_Lw_part (l : Launch) (G : g_G) (r0 : Option Nat) (x1 : Int32) (x2 : Int32) (r3 : Option Nat) (u : g_St) (o : (Int32 × g_St)) (h : f_Lw_part r0 x1 x2 r3 u = some o) : g_ConX l G y_Lw_part b_Lw_part 5 (Option.some Jvm.ClassFile.FieldType.int) [(0, 10, 13, 32), (0, 10, 17, 13)] 8 [g_r 0 r0, g_i x1, g_i x2, g_r 21 r3] u (g_jI o) :=
  g_ConX.of rfl rfl (by decide +kernel) (Nat.le_of_ble_eq_true rfl) (fun K hK hN hD hX => t_Lw_part_0 hK hN hD hX _ _ _ _ _ h)
def f_Lw_run (r0 : Option Nat) (x1 : Int32) (x2 : Int32) (r3 : Option Nat) (s0 : g_St) : Option (Int32 × g_St) :=
  g_cC (g_nn r0 (f_E_run r0 x1 x2 s0)) (fun i1 s2 =>
  g_sL s2 r3 0 i1.toInt64 fun s5 =>
  some (0, s5)) (fun e3 s4 =>
  if e3 = 0 then
    some (1, s4)
  else
    if e3 = 1 then
      some (2, s4)
    else
      if e3 = 2 then
        some (3, s4)
      else
        if e3 = 3 then
          some (4, s4)
        else
          none)
set_option maxHeartbeats 4000000 in
set_option maxRecDepth 100000 in
theorem t_Lw_run_0 {K : g_C} {o : (Int32 × g_St)} (hK : g_OK K b_Lw_run "FixpointEngineLaw" "run" (Option.some Jvm.ClassFile.FieldType.int)) (hN : g_nL K = 5) (hD : g_Kd K = 23) (hX : g_hX K [(0, 10, 13, 13), (0, 10, 17, 15), (0, 10, 21, 37), (0, 10, 25, 39)]) : ∀ (r0 : Option Nat) (x1 : Int32) (x2 : Int32) (r3 : Option Nat) (s0 : g_St), f_Lw_run r0 x1 x2 r3 s0 = some o → g_W K s0 [(0, g_r 0 r0), (1, g_i x1), (2, g_i x2), (3, g_r 21 r3)] [] 0 (g_jI o) := by
  intro r0 x1 x2 r3 s0 h
  unfold f_Lw_run at h
  refine r_aload_n hK d_Lw_run_0 rfl 3 rfl ?_
  refine r_iconst (v := 0) hK d_Lw_run_1 (by decide) ?_
  refine r_aload_n hK d_Lw_run_2 rfl 0 rfl ?_
  refine r_iload_n hK d_Lw_run_3 rfl 1 rfl ?_
  refine r_iload_n hK d_Lw_run_4 rfl 2 rfl ?_
  refine r_VCi (avL := [g_i x1, g_i x2]) (st := [g_i 0, g_r 21 r3]) hK hX ob_E rfl w6_25 w6_26 w6_24 w6_27 w1_1 (by decide) pl_E_run (by rw [hD]; decide) (Nat.le_of_ble_eq_true rfl) rfl d_Lw_run_5 (fun o9 h9 => c_E_run _ _ _ _ _ _ o9 h9) h (fun i1 s2 h => ?_) (fun e3 s4 h => ?_)
  · refine r_i2l hK d_Lw_run_8 ?_
    refine r_lastore hK ar_21 rfl d_Lw_run_9 h (fun s5 h => ?_)
    refine r_goto (tgt := 29) hK d_Lw_run_10 (by decide) ?_
    refine r_iconst (v := 0) hK d_Lw_run_29 (by decide) ?_
    exact r_ireturn hK d_Lw_run_30 h
  · by_cases q0 : e3 = 0
    · rw [if_pos q0] at h
      subst q0
      refine ⟨[], (0, 10, 13, 13), [(0, 10, 17, 15), (0, 10, 21, 37), (0, 10, 25, 39)], "java/lang/IllegalArgumentException", 4, 2, rfl, rfl, ⟨by decide, by decide⟩, by decide, w2_12, fun _ h => absurd h List.not_mem_nil, by rw [hN]; decide, Or.inr ⟨rfl, d_Lw_run_13⟩, ?_⟩
      refine r_iconst (v := 1) hK d_Lw_run_15 (by decide) ?_
      exact r_ireturn hK d_Lw_run_16 h
    rw [if_neg q0] at h
    by_cases q1 : e3 = 1
    · rw [if_pos q1] at h
      subst q1
      refine ⟨[(0, 10, 13, 13)], (0, 10, 17, 15), [(0, 10, 21, 37), (0, 10, 25, 39)], "java/lang/IllegalStateException", 4, 2, rfl, rfl, ⟨by decide, by decide⟩, by decide, w2_13, List.forall_mem_cons.mpr ⟨⟨"java/lang/IllegalArgumentException", List.mem_of_getElem? (i := 0) rfl, by decide, by decide, w2_12⟩, fun _ h => absurd h List.not_mem_nil⟩, by rw [hN]; decide, Or.inr ⟨rfl, d_Lw_run_17⟩, ?_⟩
      refine r_iconst (v := 2) hK d_Lw_run_19 (by decide) ?_
      exact r_ireturn hK d_Lw_run_20 h
    rw [if_neg q1] at h
    by_cases q2 : e3 = 2
    · rw [if_pos q2] at h
      subst q2
      refine ⟨[(0, 10, 13, 13), (0, 10, 17, 15)], (0, 10, 21, 37), [(0, 10, 25, 39)], "java/lang/ArithmeticException", 4, 2, rfl, rfl, ⟨by decide, by decide⟩, by decide, w6_22, List.forall_mem_cons.mpr ⟨⟨"java/lang/IllegalArgumentException", List.mem_of_getElem? (i := 0) rfl, by decide, by decide, w2_12⟩, List.forall_mem_cons.mpr ⟨⟨"java/lang/IllegalStateException", List.mem_of_getElem? (i := 1) rfl, by decide, by decide, w2_13⟩, fun _ h => absurd h List.not_mem_nil⟩⟩, by rw [hN]; decide, Or.inr ⟨rfl, d_Lw_run_21⟩, ?_⟩
      refine r_iconst (v := 3) hK d_Lw_run_23 (by decide) ?_
      exact r_ireturn hK d_Lw_run_24 h
    rw [if_neg q2] at h
    by_cases q3 : e3 = 3
    · rw [if_pos q3] at h
      subst q3
      refine ⟨[(0, 10, 13, 13), (0, 10, 17, 15), (0, 10, 21, 37)], (0, 10, 25, 39), [], "java/lang/UnsupportedOperationException", 4, 2, rfl, rfl, ⟨by decide, by decide⟩, by decide, w6_23, List.forall_mem_cons.mpr ⟨⟨"java/lang/IllegalArgumentException", List.mem_of_getElem? (i := 0) rfl, by decide, by decide, w2_12⟩, List.forall_mem_cons.mpr ⟨⟨"java/lang/IllegalStateException", List.mem_of_getElem? (i := 1) rfl, by decide, by decide, w2_13⟩, List.forall_mem_cons.mpr ⟨⟨"java/lang/ArithmeticException", List.mem_of_getElem? (i := 2) rfl, by decide, by decide, w6_22⟩, fun _ h => absurd h List.not_mem_nil⟩⟩⟩, by rw [hN]; decide, Or.inr ⟨rfl, d_Lw_run_25⟩, ?_⟩
      refine r_iconst (v := 4) hK d_Lw_run_27 (by decide) ?_
      exact r_ireturn hK d_Lw_run_28 h
    rw [if_neg q3] at h
    cases h
theorem c_Lw_run (l : Launch) (G : g_G) (r0 : Option Nat) (x1 : Int32) (x2 : Int32) (r3 : Option Nat) (u : g_St) (o : (Int32 × g_St)) (h : f_Lw_run r0 x1 x2 r3 u = some o) : g_ConX l G y_Lw_run b_Lw_run 5 (Option.some Jvm.ClassFile.FieldType.int) [(0, 10, 13, 13), (0, 10, 17, 15), (0, 10, 21, 37), (0, 10, 25, 39)] 23 [g_r 0 r0, g_i x1, g_i x2, g_r 21 r3] u (g_jI o) :=
  g_ConX.of rfl rfl (by decide +kernel) (Nat.le_of_ble_eq_true rfl) (fun K hK hN hD hX => t_Lw_run_0 hK hN hD hX _ _ _ _ _ h)
def f_Lw_cell2 (r0 : Option Nat) (x1 : Int32) (x2 : Int32) (r3 : Option Nat) (s0 : g_St) : Option (Int32 × g_St) :=
  g_cC (g_nn r0 (f_E_cell r0 x1 x2 s0)) (fun j1 s2 =>
  g_sL s2 r3 0 j1 fun s5 =>
  some (0, s5)) (fun e3 s4 =>
  if e3 = 5 then
    some (1, s4)
  else
    none)
set_option maxHeartbeats 4000000 in
set_option maxRecDepth 100000 in
theorem t_Lw_cell2_0 {K : g_C} {o : (Int32 × g_St)} (hK : g_OK K b_Lw_cell2 "FixpointEngineLaw" "cell" (Option.some Jvm.ClassFile.FieldType.int)) (hN : g_nL K = 5) (hD : g_Kd K = 8) (hX : g_hX K [(0, 9, 12, 45)]) : ∀ (r0 : Option Nat) (x1 : Int32) (x2 : Int32) (r3 : Option Nat) (s0 : g_St), f_Lw_cell2 r0 x1 x2 r3 s0 = some o → g_W K s0 [(0, g_r 0 r0), (1, g_i x1), (2, g_i x2), (3, g_r 21 r3)] [] 0 (g_jI o) := by
  intro r0 x1 x2 r3 s0 h
  unfold f_Lw_cell2 at h
  refine r_aload_n hK d_Lw_cell2_0 rfl 3 rfl ?_
  refine r_iconst (v := 0) hK d_Lw_cell2_1 (by decide) ?_
  refine r_aload_n hK d_Lw_cell2_2 rfl 0 rfl ?_
  refine r_iload_n hK d_Lw_cell2_3 rfl 1 rfl ?_
  refine r_iload_n hK d_Lw_cell2_4 rfl 2 rfl ?_
  refine r_VCl (avL := [g_i x1, g_i x2]) (st := [g_i 0, g_r 21 r3]) hK hX ob_E rfl w6_222 w6_223 w6_221 w6_224 w1_1 (by decide) pl_E_cell (by rw [hD]; decide) (Nat.le_of_ble_eq_true rfl) rfl d_Lw_cell2_5 (fun o9 h9 => c_E_cell _ _ _ _ _ _ o9 h9) h (fun j1 s2 h => ?_) (fun e3 s4 h => ?_)
  · refine r_lastore hK ar_21 rfl d_Lw_cell2_8 h (fun s5 h => ?_)
    refine r_goto (tgt := 16) hK d_Lw_cell2_9 (by decide) ?_
    refine r_iconst (v := 0) hK d_Lw_cell2_16 (by decide) ?_
    exact r_ireturn hK d_Lw_cell2_17 h
  · by_cases q0 : e3 = 5
    · rw [if_pos q0] at h
      subst q0
      refine ⟨[], (0, 9, 12, 45), [], "java/lang/IndexOutOfBoundsException", 4, 2, rfl, rfl, ⟨by decide, by decide⟩, by decide, w6_220, fun _ h => absurd h List.not_mem_nil, by rw [hN]; decide, Or.inr ⟨rfl, d_Lw_cell2_12⟩, ?_⟩
      refine r_iconst (v := 1) hK d_Lw_cell2_14 (by decide) ?_
      exact r_ireturn hK d_Lw_cell2_15 h
    rw [if_neg q0] at h
    cases h
theorem c_Lw_cell2 (l : Launch) (G : g_G) (r0 : Option Nat) (x1 : Int32) (x2 : Int32) (r3 : Option Nat) (u : g_St) (o : (Int32 × g_St)) (h : f_Lw_cell2 r0 x1 x2 r3 u = some o) : g_ConX l G y_Lw_cell2 b_Lw_cell2 5 (Option.some Jvm.ClassFile.FieldType.int) [(0, 9, 12, 45)] 8 [g_r 0 r0, g_i x1, g_i x2, g_r 21 r3] u (g_jI o) :=
  g_ConX.of rfl rfl (by decide +kernel) (Nat.le_of_ble_eq_true rfl) (fun K hK hN hD hX => t_Lw_cell2_0 hK hN hD hX _ _ _ _ _ h)
def f_Lw_size (r0 : Option Nat) (x1 : Int32) (r2 : Option Nat) (s0 : g_St) : Option (Int32 × g_St) :=
  g_cC (g_nn r0 (f_E_size r0 x1 s0)) (fun i1 s2 =>
  g_sL s2 r2 0 i1.toInt64 fun s5 =>
  some (0, s5)) (fun e3 s4 =>
  if e3 = 5 then
    some (1, s4)
  else
    none)
set_option maxHeartbeats 4000000 in
set_option maxRecDepth 100000 in
theorem t_Lw_size_0 {K : g_C} {o : (Int32 × g_St)} (hK : g_OK K b_Lw_size "FixpointEngineLaw" "size" (Option.some Jvm.ClassFile.FieldType.int)) (hN : g_nL K = 4) (hD : g_Kd K = 8) (hX : g_hX K [(0, 9, 12, 45)]) : ∀ (r0 : Option Nat) (x1 : Int32) (r2 : Option Nat) (s0 : g_St), f_Lw_size r0 x1 r2 s0 = some o → g_W K s0 [(0, g_r 0 r0), (1, g_i x1), (2, g_r 21 r2)] [] 0 (g_jI o) := by
  intro r0 x1 r2 s0 h
  unfold f_Lw_size at h
  refine r_aload_n hK d_Lw_size_0 rfl 2 rfl ?_
  refine r_iconst (v := 0) hK d_Lw_size_1 (by decide) ?_
  refine r_aload_n hK d_Lw_size_2 rfl 0 rfl ?_
  refine r_iload_n hK d_Lw_size_3 rfl 1 rfl ?_
  refine r_VCi (avL := [g_i x1]) (st := [g_i 0, g_r 21 r2]) hK hX ob_E rfl w7_5 w7_6 w7_4 w7_7 w1_1 (by decide) pl_E_size (by rw [hD]; decide) (Nat.le_of_ble_eq_true rfl) rfl d_Lw_size_4 (fun o9 h9 => c_E_size _ _ _ _ _ o9 h9) h (fun i1 s2 h => ?_) (fun e3 s4 h => ?_)
  · refine r_i2l hK d_Lw_size_7 ?_
    refine r_lastore hK ar_21 rfl d_Lw_size_8 h (fun s5 h => ?_)
    refine r_goto (tgt := 15) hK d_Lw_size_9 (by decide) ?_
    refine r_iconst (v := 0) hK d_Lw_size_15 (by decide) ?_
    exact r_ireturn hK d_Lw_size_16 h
  · by_cases q0 : e3 = 5
    · rw [if_pos q0] at h
      subst q0
      refine ⟨[], (0, 9, 12, 45), [], "java/lang/IndexOutOfBoundsException", 3, 1, rfl, rfl, ⟨by decide, by decide⟩, by decide, w6_220, fun _ h => absurd h List.not_mem_nil, by rw [hN]; decide, Or.inl ⟨rfl, 3, rfl, d_Lw_size_12⟩, ?_⟩
      refine r_iconst (v := 1) hK d_Lw_size_13 (by decide) ?_
      exact r_ireturn hK d_Lw_size_14 h
    rw [if_neg q0] at h
    cases h
theorem c_Lw_size (l : Launch) (G : g_G) (r0 : Option Nat) (x1 : Int32) (r2 : Option Nat) (u : g_St) (o : (Int32 × g_St)) (h : f_Lw_size r0 x1 r2 u = some o) : g_ConX l G y_Lw_size b_Lw_size 4 (Option.some Jvm.ClassFile.FieldType.int) [(0, 9, 12, 45)] 8 [g_r 0 r0, g_i x1, g_r 21 r2] u (g_jI o) :=
  g_ConX.of rfl rfl (by decide +kernel) (Nat.le_of_ble_eq_true rfl) (fun K hK hN hD hX => t_Lw_size_0 hK hN hD hX _ _ _ _ h)
def f_Lw_rounds (r0 : Option Nat) (x1 : Int32) (x2 : Int32) (r3 : Option Nat) (s0 : g_St) : Option (Int32 × g_St) :=
  g_cC (g_nn r0 (f_E_rounds r0 x1 x2 s0)) (fun i1 s2 =>
  g_sL s2 r3 0 i1.toInt64 fun s5 =>
  some (0, s5)) (fun e3 s4 =>
  if e3 = 5 then
    some (1, s4)
  else
    none)
set_option maxHeartbeats 4000000 in
set_option maxRecDepth 100000 in
theorem t_Lw_rounds_0 {K : g_C} {o : (Int32 × g_St)} (hK : g_OK K b_Lw_rounds "FixpointEngineLaw" "rounds" (Option.some Jvm.ClassFile.FieldType.int)) (hN : g_nL K = 5) (hD : g_Kd K = 8) (hX : g_hX K [(0, 10, 13, 45)]) : ∀ (r0 : Option Nat) (x1 : Int32) (x2 : Int32) (r3 : Option Nat) (s0 : g_St), f_Lw_rounds r0 x1 x2 r3 s0 = some o → g_W K s0 [(0, g_r 0 r0), (1, g_i x1), (2, g_i x2), (3, g_r 21 r3)] [] 0 (g_jI o) := by
  intro r0 x1 x2 r3 s0 h
  unfold f_Lw_rounds at h
  refine r_aload_n hK d_Lw_rounds_0 rfl 3 rfl ?_
  refine r_iconst (v := 0) hK d_Lw_rounds_1 (by decide) ?_
  refine r_aload_n hK d_Lw_rounds_2 rfl 0 rfl ?_
  refine r_iload_n hK d_Lw_rounds_3 rfl 1 rfl ?_
  refine r_iload_n hK d_Lw_rounds_4 rfl 2 rfl ?_
  refine r_VCi (avL := [g_i x1, g_i x2]) (st := [g_i 0, g_r 21 r3]) hK hX ob_E rfl w7_13 w7_14 w7_12 w7_15 w1_1 (by decide) pl_E_rounds (by rw [hD]; decide) (Nat.le_of_ble_eq_true rfl) rfl d_Lw_rounds_5 (fun o9 h9 => c_E_rounds _ _ _ _ _ _ o9 h9) h (fun i1 s2 h => ?_) (fun e3 s4 h => ?_)
  · refine r_i2l hK d_Lw_rounds_8 ?_
    refine r_lastore hK ar_21 rfl d_Lw_rounds_9 h (fun s5 h => ?_)
    refine r_goto (tgt := 17) hK d_Lw_rounds_10 (by decide) ?_
    refine r_iconst (v := 0) hK d_Lw_rounds_17 (by decide) ?_
    exact r_ireturn hK d_Lw_rounds_18 h
  · by_cases q0 : e3 = 5
    · rw [if_pos q0] at h
      subst q0
      refine ⟨[], (0, 10, 13, 45), [], "java/lang/IndexOutOfBoundsException", 4, 2, rfl, rfl, ⟨by decide, by decide⟩, by decide, w6_220, fun _ h => absurd h List.not_mem_nil, by rw [hN]; decide, Or.inr ⟨rfl, d_Lw_rounds_13⟩, ?_⟩
      refine r_iconst (v := 1) hK d_Lw_rounds_15 (by decide) ?_
      exact r_ireturn hK d_Lw_rounds_16 h
    rw [if_neg q0] at h
    cases h
theorem c_Lw_rounds (l : Launch) (G : g_G) (r0 : Option Nat) (x1 : Int32) (x2 : Int32) (r3 : Option Nat) (u : g_St) (o : (Int32 × g_St)) (h : f_Lw_rounds r0 x1 x2 r3 u = some o) : g_ConX l G y_Lw_rounds b_Lw_rounds 5 (Option.some Jvm.ClassFile.FieldType.int) [(0, 10, 13, 45)] 8 [g_r 0 r0, g_i x1, g_i x2, g_r 21 r3] u (g_jI o) :=
  g_ConX.of rfl rfl (by decide +kernel) (Nat.le_of_ble_eq_true rfl) (fun K hK hN hD hX => t_Lw_rounds_0 hK hN hD hX _ _ _ _ _ h)
