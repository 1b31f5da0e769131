def f_Pa_init (r0 : Option Nat) (s0 : g_St) : Option (Unit × g_St) :=
  g_nn r0 (
  g_newA s0 21 7 fun p1 s2 =>
  g_pR s2 199 r0 p1 fun s3 =>
  g_newA s3 20 7 fun p4 s5 =>
  g_pR s5 263 r0 p4 fun s6 =>
  g_newA s6 25 4 fun p7 s8 =>
  g_pR s8 647 r0 p7 fun s9 =>
  g_pI s9 903 r0 (-1) fun s10 =>
  g_pI s10 1031 r0 (-1) fun s11 =>
  g_pI s11 1095 r0 (-1) fun s12 =>
  some ((), s12))
set_option maxHeartbeats 4000000 in
set_option maxRecDepth 100000 in
theorem t_Pa_init_0 {K : g_C} {o : (Unit × g_St)} (hK : g_OK K b_Pa_init "FixpointEngine$Part" "<init>" (Option.none : Option Jvm.ClassFile.FieldType)) (hN : g_nL K = 1) (hD : g_Kd K = 2) : ∀ (r0 : Option Nat) (s0 : g_St), f_Pa_init r0 s0 = some o → g_W K s0 [(0, g_r 7 r0)] [] 0 (g_jV o) := by
  intro r0 s0 h
  unfold f_Pa_init at h
  refine r_aload_n hK d_Pa_init_0 rfl 0 rfl ?_
  refine r_objinit hK w3_90 (by rw [hD]; decide) (Nat.le_of_ble_eq_true rfl) d_Pa_init_1 h (fun h => ?_)
  refine r_aload_n hK d_Pa_init_4 rfl 0 rfl ?_
  refine r_bipush (v := 7) hK d_Pa_init_5 (by decide) ?_
  refine r_newarray (index := 0) hK (ty := .long) rfl rfl (by decide) w1_91 ar_21 d_Pa_init_7 h (fun p1 s2 h => ?_)
  refine r_pRF hK pd_21 rfl (Or.inr rfl) fd_Pa_3 rfl w3_102 d_Pa_init_9 h (fun s3 h => ?_)
  refine r_aload_n hK d_Pa_init_12 rfl 0 rfl ?_
  refine r_bipush (v := 7) hK d_Pa_init_13 (by decide) ?_
  refine r_newarray (index := 0) hK (ty := .int) rfl rfl (by decide) w1_90 ar_20 d_Pa_init_15 h (fun p4 s5 h => ?_)
  refine r_pRF hK pd_20 rfl (Or.inr rfl) fd_Pa_4 rfl w3_105 d_Pa_init_17 h (fun s6 h => ?_)
  refine r_aload_n hK d_Pa_init_20 rfl 0 rfl ?_
  refine r_iconst (v := 4) hK d_Pa_init_21 (by decide) ?_
  refine r_anewarray hK rfl w3_91 w3_92 ar_25 d_Pa_init_22 h (fun p7 s8 h => ?_)
  refine r_pRF hK pd_25 rfl (Or.inr rfl) fd_Pa_10 rfl w3_125 d_Pa_init_25 h (fun s9 h => ?_)
  refine r_aload_n hK d_Pa_init_28 rfl 0 rfl ?_
  refine r_iconst (v := (-1)) hK d_Pa_init_29 (by decide) ?_
  refine r_pI hK fd_Pa_14 rfl w3_134 d_Pa_init_30 h (fun s10 h => ?_)
  refine r_aload_n hK d_Pa_init_33 rfl 0 rfl ?_
  refine r_iconst (v := (-1)) hK d_Pa_init_34 (by decide) ?_
  refine r_pI hK fd_Pa_16 rfl w3_141 d_Pa_init_35 h (fun s11 h => ?_)
  refine r_aload_n hK d_Pa_init_38 rfl 0 rfl ?_
  refine r_iconst (v := (-1)) hK d_Pa_init_39 (by decide) ?_
  refine r_pI hK fd_Pa_17 rfl w3_144 d_Pa_init_40 h (fun s12 h => ?_)
  exact r_return hK d_Pa_init_43 h
theorem c_Pa_init (l : Launch) (G : g_G) (r0 : Option Nat) (u : g_St) (o : (Unit × g_St)) (h : f_Pa_init r0 u = some o) : g_Con l G y_Pa_init b_Pa_init 1 (Option.none : Option Jvm.ClassFile.FieldType) 2 [g_r 7 r0] u (g_jV o) :=
  g_Con.of rfl rfl (by decide +kernel) (Nat.le_of_ble_eq_true rfl) (fun K hK hN hD hX => t_Pa_init_0 hK hN hD _ _ h)
def f_Pa_columnNamedAt_2 : Nat → Option Nat → Int32 → Int32 → g_St → Option (Int32 × g_St)
  | 0, _, _, _, _ => none
  | n + 1, r0, x1, x2, s0 =>
    g_gI s0 135 r0 fun i1 =>
    if i1 ≤ x2 then
      some ((-1), s0)
    else
      g_gR s0 199 r0 fun p2 =>
      g_aL s0 p2 x2 fun j3 =>
      g_gR s0 199 r0 fun p4 =>
      g_aL s0 p4 x1 fun j5 =>
      if j3 = j5 then
        some (x2, s0)
      else
        f_Pa_columnNamedAt_2 n r0 x1 (x2 + 1) s0
def f_Pa_columnNamedAt (r0 : Option Nat) (x1 : Int32) (s0 : g_St) : Option (Int32 × g_St) :=
  f_Pa_columnNamedAt_2 200000 r0 x1 0 s0
set_option maxHeartbeats 4000000 in
set_option maxRecDepth 100000 in
theorem t_Pa_columnNamedAt_2 {K : g_C} {o : (Int32 × g_St)} (hK : g_OK K b_Pa_columnNamedAt "FixpointEngine$Part" "columnNamedAt" (Option.some Jvm.ClassFile.FieldType.int)) (hN : g_nL K = 3) (hD : g_Kd K = 1) : ∀ (n : Nat) (r0 : Option Nat) (x1 : Int32) (x2 : Int32) (s0 : g_St), f_Pa_columnNamedAt_2 n r0 x1 x2 s0 = some o → g_W K s0 [(0, g_r 7 r0), (1, g_i x1), (2, g_i x2)] [] 2 (g_jI o) := by
  intro n
  induction n with
  | zero =>
    intro r0 x1 x2 s0 h
    cases h
  | succ n ih =>
    intro r0 x1 x2 s0 h
    unfold f_Pa_columnNamedAt_2 at h
    refine r_iload_n hK d_Pa_columnNamedAt_2 rfl 2 rfl ?_
    refine r_aload_n hK d_Pa_columnNamedAt_3 rfl 0 rfl ?_
    refine r_gI hK fd_Pa_2 w3_97 d_Pa_columnNamedAt_4 h (fun i1 h => ?_)
    refine r_if_icmpge (tgt := 34) hK d_Pa_columnNamedAt_7 (by decide) h (fun h => ?_) (fun h => ?_)
    · refine r_iconst (v := (-1)) hK d_Pa_columnNamedAt_34 (by decide) ?_
      exact r_ireturn hK d_Pa_columnNamedAt_35 h
    · refine r_aload_n hK d_Pa_columnNamedAt_10 rfl 0 rfl ?_
      refine r_gR hK fd_Pa_3 w3_102 d_Pa_columnNamedAt_11 h (fun p2 h => ?_)
      refine r_iload_n hK d_Pa_columnNamedAt_14 rfl 2 rfl ?_
      refine r_laload hK ar_21 rfl d_Pa_columnNamedAt_15 h (fun j3 h => ?_)
      refine r_aload_n hK d_Pa_columnNamedAt_16 rfl 0 rfl ?_
      refine r_gR hK fd_Pa_3 w3_102 d_Pa_columnNamedAt_17 h (fun p4 h => ?_)
      refine r_iload_n hK d_Pa_columnNamedAt_20 rfl 1 rfl ?_
      refine r_laload hK ar_21 rfl d_Pa_columnNamedAt_21 h (fun j5 h => ?_)
      refine r_lifne (tgt := 28) hK d_Pa_columnNamedAt_22 d_Pa_columnNamedAt_23 (by decide) h (fun h => ?_) (fun h => ?_)
      · refine r_iinc (ls1 := [(2, g_i (x2 + 1)), (0, g_r 7 r0), (1, g_i x1)]) hK d_Pa_columnNamedAt_28 2 rfl rfl (by rw [hN]; decide) rfl ?_
        refine r_goto (tgt := 2) hK d_Pa_columnNamedAt_31 (by decide) ?_
        exact r_sub [1, 2, 0] rfl (ih _ _ _ _ h)
      · refine r_iload_n hK d_Pa_columnNamedAt_26 rfl 2 rfl ?_
        exact r_ireturn hK d_Pa_columnNamedAt_27 h
set_option maxHeartbeats 4000000 in
set_option maxRecDepth 100000 in
theorem t_Pa_columnNamedAt_0 {K : g_C} {o : (Int32 × g_St)} (hK : g_OK K b_Pa_columnNamedAt "FixpointEngine$Part" "columnNamedAt" (Option.some Jvm.ClassFile.FieldType.int)) (hN : g_nL K = 3) (hD : g_Kd K = 1) : ∀ (r0 : Option Nat) (x1 : Int32) (s0 : g_St), f_Pa_columnNamedAt r0 x1 s0 = some o → g_W K s0 [(0, g_r 7 r0), (1, g_i x1)] [] 0 (g_jI o) := by
  intro r0 x1 s0 h
  unfold f_Pa_columnNamedAt at h
  refine r_iconst (v := 0) hK d_Pa_columnNamedAt_0 (by decide) ?_
  refine r_istore_n (ls1 := [(2, g_i 0), (0, g_r 7 r0), (1, g_i x1)]) hK d_Pa_columnNamedAt_1 rfl (by rw [hN]; decide) rfl ?_
  exact r_sub [1, 2, 0] rfl (t_Pa_columnNamedAt_2 hK hN hD _ _ _ _ _ h)
theorem c_Pa_columnNamedAt (l : Launch) (G : g_G) (r0 : Option Nat) (x1 : Int32) (u : g_St) (o : (Int32 × g_St)) (h : f_Pa_columnNamedAt r0 x1 u = some o) : g_Con l G y_Pa_columnNamedAt b_Pa_columnNamedAt 3 (Option.some Jvm.ClassFile.FieldType.int) 1 [g_r 7 r0, g_i x1] u (g_jI o) :=
  g_Con.of rfl rfl (by decide +kernel) (Nat.le_of_ble_eq_true rfl) (fun K hK hN hD hX => t_Pa_columnNamedAt_0 hK hN hD _ _ _ h)
