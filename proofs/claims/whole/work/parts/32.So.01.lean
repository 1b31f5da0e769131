def f_So_init (r0 : Option Nat) (r1 : Option Nat) (x2 : Int32) (x3 : Int32) (s0 : g_St) : Option (Unit × g_St) :=
  g_nn r0 (
  g_pI s0 393 r0 (-1) fun s1 =>
  g_pI s1 457 r0 (-1) fun s2 =>
  g_pR s2 9 r0 r1 fun s3 =>
  g_pI s3 73 r0 x2 fun s4 =>
  g_pI s4 137 r0 x3 fun s5 =>
  some ((), s5))
set_option maxHeartbeats 4000000 in
set_option maxRecDepth 100000 in
theorem t_So_init_0 {K : g_C} {o : (Unit × g_St)} (hK : g_OK K b_So_init "FixpointEngine$Source" "<init>" (Option.none : Option Jvm.ClassFile.FieldType)) (hN : g_nL K = 4) (hD : g_Kd K = 2) : ∀ (r0 : Option Nat) (r1 : Option Nat) (x2 : Int32) (x3 : Int32) (s0 : g_St), f_So_init r0 r1 x2 x3 s0 = some o → g_W K s0 [(0, g_r 9 r0), (1, g_r 8 r1), (2, g_i x2), (3, g_i x3)] [] 0 (g_jV o) := by
  intro r0 r1 x2 x3 s0 h
  unfold f_So_init at h
  refine r_aload_n hK d_So_init_0 rfl 0 rfl ?_
  refine r_objinit hK w4_203 (by rw [hD]; decide) (Nat.le_of_ble_eq_true rfl) d_So_init_1 h (fun h => ?_)
  refine r_aload_n hK d_So_init_4 rfl 0 rfl ?_
  refine r_iconst (v := (-1)) hK d_So_init_5 (by decide) ?_
  refine r_pI hK fd_So_6 rfl w4_216 d_So_init_6 h (fun s1 h => ?_)
  refine r_aload_n hK d_So_init_9 rfl 0 rfl ?_
  refine r_iconst (v := (-1)) hK d_So_init_10 (by decide) ?_
  refine r_pI hK fd_So_7 rfl w4_219 d_So_init_11 h (fun s2 h => ?_)
  refine r_aload_n hK d_So_init_14 rfl 0 rfl ?_
  refine r_aload_n hK d_So_init_15 rfl 1 rfl ?_
  refine r_pRF hK pd_8 rfl (Or.inr rfl) fd_So_0 rfl w4_204 d_So_init_16 h (fun s3 h => ?_)
  refine r_aload_n hK d_So_init_19 rfl 0 rfl ?_
  refine r_iload_n hK d_So_init_20 rfl 2 rfl ?_
  refine r_pIF hK fd_So_1 rfl w4_206 d_So_init_21 h (fun s4 h => ?_)
  refine r_aload_n hK d_So_init_24 rfl 0 rfl ?_
  refine r_iload_n hK d_So_init_25 rfl 3 rfl ?_
  refine r_pIF hK fd_So_2 rfl w4_208 d_So_init_26 h (fun s5 h => ?_)
  exact r_return hK d_So_init_29 h
theorem c_So_init (l : Launch) (G : g_G) (r0 : Option Nat) (r1 : Option Nat) (x2 : Int32) (x3 : Int32) (u : g_St) (o : (Unit × g_St)) (h : f_So_init r0 r1 x2 x3 u = some o) : g_Con l G y_So_init b_So_init 4 (Option.none : Option Jvm.ClassFile.FieldType) 2 [g_r 9 r0, g_r 8 r1, g_i x2, g_i x3] u (g_jV o) :=
  g_Con.of rfl rfl (by decide +kernel) (Nat.le_of_ble_eq_true rfl) (fun K hK hN hD hX => t_So_init_0 hK hN hD _ _ _ _ _ h)
def f_So_isInner (r0 : Option Nat) (s0 : g_St) : Option (Int32 × g_St) :=
  g_gI s0 73 r0 fun i1 =>
  if 0 ≤ i1 then
    g_rZ 0 (some (0, s0))
  else
    g_rZ 1 (some (1, s0))
set_option maxHeartbeats 4000000 in
set_option maxRecDepth 100000 in
theorem t_So_isInner_0 {K : g_C} {o : (Int32 × g_St)} (hK : g_OK K b_So_isInner "FixpointEngine$Source" "isInner" (Option.some Jvm.ClassFile.FieldType.boolean)) (hN : g_nL K = 1) (hD : g_Kd K = 1) : ∀ (r0 : Option Nat) (s0 : g_St), f_So_isInner r0 s0 = some o → g_W K s0 [(0, g_r 9 r0)] [] 0 (g_jI o) := by
  intro r0 s0 h
  unfold f_So_isInner at h
  refine r_aload_n hK d_So_isInner_0 rfl 0 rfl ?_
  refine r_gI hK fd_So_1 w4_206 d_So_isInner_1 h (fun i1 h => ?_)
  refine r_ifge (tgt := 11) hK d_So_isInner_4 (by decide) h (fun h => ?_) (fun h => ?_)
  · refine r_iconst (v := 0) hK d_So_isInner_11 (by decide) ?_
    exact r_zreturn hK d_So_isInner_12 h
  · refine r_iconst (v := 1) hK d_So_isInner_7 (by decide) ?_
    refine r_goto (tgt := 12) hK d_So_isInner_8 (by decide) ?_
    exact r_zreturn hK d_So_isInner_12 h
theorem c_So_isInner (l : Launch) (G : g_G) (r0 : Option Nat) (u : g_St) (o : (Int32 × g_St)) (h : f_So_isInner r0 u = some o) : g_Con l G y_So_isInner b_So_isInner 1 (Option.some Jvm.ClassFile.FieldType.boolean) 1 [g_r 9 r0] u (g_jI o) :=
  g_Con.of rfl rfl (by decide +kernel) (Nat.le_of_ble_eq_true rfl) (fun K hK hN hD hX => t_So_isInner_0 hK hN hD _ _ h)
def f_So_passesOver (r0 : Option Nat) (x1 : Int32) (s0 : g_St) : Option (Int32 × g_St) :=
  g_gI s0 777 r0 fun i1 =>
  if i1 = 0 then
    g_rZ 0 (some (0, s0))
  else
    g_gR s0 521 r0 fun p2 =>
    g_gR s0 69 p2 fun p3 =>
    g_aL s0 p3 ((x1 * 4) + 3) fun j4 =>
    if j4 = 1 then
      g_rZ 1 (some (1, s0))
    else
      g_rZ 0 (some (0, s0))
set_option maxHeartbeats 4000000 in
set_option maxRecDepth 100000 in
theorem t_So_passesOver_0 {K : g_C} {o : (Int32 × g_St)} (hK : g_OK K b_So_passesOver "FixpointEngine$Source" "passesOver" (Option.some Jvm.ClassFile.FieldType.boolean)) (hN : g_nL K = 2) (hD : g_Kd K = 1) : ∀ (r0 : Option Nat) (x1 : Int32) (s0 : g_St), f_So_passesOver r0 x1 s0 = some o → g_W K s0 [(0, g_r 9 r0), (1, g_i x1)] [] 0 (g_jI o) := by
  intro r0 x1 s0 h
  unfold f_So_passesOver at h
  refine r_aload_n hK d_So_passesOver_0 rfl 0 rfl ?_
  refine r_gI hK fd_So_12 w4_229 d_So_passesOver_1 h (fun i1 h => ?_)
  refine r_ifeq (tgt := 29) hK d_So_passesOver_4 (by decide) h (fun h => ?_) (fun h => ?_)
  · refine r_iconst (v := 0) hK d_So_passesOver_29 (by decide) ?_
    exact r_zreturn hK d_So_passesOver_30 h
  · refine r_aload_n hK d_So_passesOver_7 rfl 0 rfl ?_
    refine r_gR hK fd_So_8 w4_223 d_So_passesOver_8 h (fun p2 h => ?_)
    refine r_gR hK fd_Rl_1 w1_127 d_So_passesOver_11 h (fun p3 h => ?_)
    refine r_iload_n hK d_So_passesOver_14 rfl 1 rfl ?_
    refine r_iconst (v := 4) hK d_So_passesOver_15 (by decide) ?_
    refine r_imul hK d_So_passesOver_16 ?_
    refine r_iconst (v := 3) hK d_So_passesOver_17 (by decide) ?_
    refine r_iadd hK d_So_passesOver_18 ?_
    refine r_laload hK ar_21 rfl d_So_passesOver_19 h (fun j4 h => ?_)
    refine r_lconst (v := 1) hK d_So_passesOver_20 (by decide) ?_
    refine r_lifne (tgt := 29) hK d_So_passesOver_21 d_So_passesOver_22 (by decide) h (fun h => ?_) (fun h => ?_)
    · refine r_iconst (v := 0) hK d_So_passesOver_29 (by decide) ?_
      exact r_zreturn hK d_So_passesOver_30 h
    · refine r_iconst (v := 1) hK d_So_passesOver_25 (by decide) ?_
      refine r_goto (tgt := 30) hK d_So_passesOver_26 (by decide) ?_
      exact r_zreturn hK d_So_passesOver_30 h
theorem c_So_passesOver (l : Launch) (G : g_G) (r0 : Option Nat) (x1 : Int32) (u : g_St) (o : (Int32 × g_St)) (h : f_So_passesOver r0 x1 u = some o) : g_Con l G y_So_passesOver b_So_passesOver 2 (Option.some Jvm.ClassFile.FieldType.boolean) 1 [g_r 9 r0, g_i x1] u (g_jI o) :=
  g_Con.of rfl rfl (by decide +kernel) (Nat.le_of_ble_eq_true rfl) (fun K hK hN hD hX => t_So_passesOver_0 hK hN hD _ _ _ h)
