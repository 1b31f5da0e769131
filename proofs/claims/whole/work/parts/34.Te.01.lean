def f_Te_init (r0 : Option Nat) (x1 : Int32) (x2 : Int32) (r3 : Option Nat) (r4 : Option Nat) (s0 : g_St) : Option (Unit × g_St) :=
  g_nn r0 (
  g_pZ s0 11 r0 x1 fun s1 =>
  g_pI s1 75 r0 x2 fun s2 =>
  g_pR s2 139 r0 r3 fun s3 =>
  g_pR s3 203 r0 r4 fun s4 =>
  some ((), s4))
set_option maxHeartbeats 4000000 in
set_option maxRecDepth 100000 in
theorem t_Te_init_0 {K : g_C} {o : (Unit × g_St)} (hK : g_OK K b_Te_init "FixpointEngine$Term" "<init>" (Option.none : Option Jvm.ClassFile.FieldType)) (hN : g_nL K = 5) (hD : g_Kd K = 2) : ∀ (r0 : Option Nat) (x1 : Int32) (x2 : Int32) (r3 : Option Nat) (r4 : Option Nat) (s0 : g_St), f_Te_init r0 x1 x2 r3 r4 s0 = some o → g_W K s0 [(0, g_r 11 r0), (1, g_i x1), (2, g_i x2), (3, g_r 8 r3), (4, g_r 10 r4)] [] 0 (g_jV o) := by
  intro r0 x1 x2 r3 r4 s0 h
  unfold f_Te_init at h
  refine r_aload_n hK d_Te_init_0 rfl 0 rfl ?_
  refine r_objinit hK w4_69 (by rw [hD]; decide) (Nat.le_of_ble_eq_true rfl) d_Te_init_1 h (fun h => ?_)
  refine r_aload_n hK d_Te_init_4 rfl 0 rfl ?_
  refine r_iload_n hK d_Te_init_5 rfl 1 rfl ?_
  refine r_pZF hK fd_Te_0 rfl w4_70 d_Te_init_6 h (fun s1 h => ?_)
  refine r_aload_n hK d_Te_init_9 rfl 0 rfl ?_
  refine r_iload_n hK d_Te_init_10 rfl 2 rfl ?_
  refine r_pIF hK fd_Te_1 rfl w4_71 d_Te_init_11 h (fun s2 h => ?_)
  refine r_aload_n hK d_Te_init_14 rfl 0 rfl ?_
  refine r_aload_n hK d_Te_init_15 rfl 3 rfl ?_
  refine r_pRF hK pd_8 rfl (Or.inr rfl) fd_Te_2 rfl w4_73 d_Te_init_16 h (fun s3 h => ?_)
  refine r_aload_n hK d_Te_init_19 rfl 0 rfl ?_
  refine r_aload hK d_Te_init_20 4 rfl ?_
  refine r_pRF hK pd_10 rfl (Or.inr rfl) fd_Te_3 rfl w4_75 d_Te_init_22 h (fun s4 h => ?_)
  exact r_return hK d_Te_init_25 h
theorem c_Te_init (l : Launch) (G : g_G) (r0 : Option Nat) (x1 : Int32) (x2 : Int32) (r3 : Option Nat) (r4 : Option Nat) (u : g_St) (o : (Unit × g_St)) (h : f_Te_init r0 x1 x2 r3 r4 u = some o) : g_Con l G y_Te_init b_Te_init 5 (Option.none : Option Jvm.ClassFile.FieldType) 2 [g_r 11 r0, g_i x1, g_i x2, g_r 8 r3, g_r 10 r4] u (g_jV o) :=
  g_Con.of rfl rfl (by decide +kernel) (Nat.le_of_ble_eq_true rfl) (fun K hK hN hD hX => t_Te_init_0 hK hN hD _ _ _ _ _ _ h)
def f_Te_value_47 (k4 : Int64 → Option Nat → g_St → Option (Int64 × g_St)) (y1 : Int64) (r3 : Option Nat) (y0s : Int64) (s0 : g_St) : Option (Int64 × g_St) :=
  if y0s = 1099511627776 then
    some (1099511627776, s0)
  else
    g_gI s0 11 r3 fun i1 =>
    if i1 = 0 then
      g_gR s0 651 r3 fun p2 =>
      k4 (y1 + y0s) p2 s0
    else
      g_gR s0 651 r3 fun p3 =>
      k4 (y1 - y0s) p3 s0
def f_Te_value_4 : Nat → Int64 → Option Nat → g_St → Option (Int64 × g_St)
  | 0, _, _, _ => none
  | n + 1, y1, r3, s0 =>
    if r3 = none then
      some (y1, s0)
    else
      g_gR s0 523 r3 fun p1 =>
      if p1 = none then
        g_gL s0 267 r3 fun j9 =>
        f_Te_value_47 (f_Te_value_4 n) y1 r3 j9 s0
      else
        g_gR s0 523 r3 fun p2 =>
        g_gR s0 521 p2 fun p3 =>
        g_gR s0 69 p3 fun p4 =>
        g_gR s0 523 r3 fun p5 =>
        g_gI s0 713 p5 fun i6 =>
        g_gI s0 587 r3 fun i7 =>
        g_aL s0 p4 ((i6 * 4) + i7) fun j8 =>
        f_Te_value_47 (f_Te_value_4 n) y1 r3 j8 s0
def f_Te_value (r0 : Option Nat) (s0 : g_St) : Option (Int64 × g_St) :=
  f_Te_value_4 200000 0 r0 s0
set_option maxHeartbeats 4000000 in
set_option maxRecDepth 100000 in
theorem t_Te_value_47 {K : g_C} {o : (Int64 × g_St)} (hK : g_OK K b_Te_value "FixpointEngine$Term" "value" (Option.some Jvm.ClassFile.FieldType.long)) (hN : g_nL K = 6) (hD : g_Kd K = 1) {k4 : Int64 → Option Nat → g_St → Option (Int64 × g_St)} (hk4 : ∀ (y1 : Int64) (r3 : Option Nat) (s0 : g_St), k4 y1 r3 s0 = some o → g_W K s0 [(1, g_l y1), (3, g_r 11 r3)] [] 4 (g_jL o)) : ∀ (y1 : Int64) (r3 : Option Nat) (y0s : Int64) (s0 : g_St), f_Te_value_47 k4 y1 r3 y0s s0 = some o → g_W K s0 [(1, g_l y1), (3, g_r 11 r3)] [g_l y0s] 47 (g_jL o) := by
  intro y1 r3 y0s s0 h
  unfold f_Te_value_47 at h
  refine r_lstore (ls1 := [(4, g_l y0s), (1, g_l y1), (3, g_r 11 r3)]) hK d_Te_value_47 (by rw [hN]; decide) rfl ?_
  refine r_lload hK d_Te_value_49 0 rfl ?_
  refine r_ldc2 hK w6_76 d_Te_value_51 ?_
  refine r_lifne (tgt := 62) hK d_Te_value_54 d_Te_value_55 (by decide) h (fun h => ?_) (fun h => ?_)
  · refine r_aload_n hK d_Te_value_62 rfl 2 rfl ?_
    refine r_gI hK fd_Te_0 w4_70 d_Te_value_63 h (fun i1 h => ?_)
    refine r_ifeq (tgt := 76) hK d_Te_value_66 (by decide) h (fun h => ?_) (fun h => ?_)
    · refine r_lload_n hK d_Te_value_76 rfl 1 rfl ?_
      refine r_lload hK d_Te_value_77 0 rfl ?_
      refine r_ladd hK d_Te_value_79 ?_
      refine r_lstore_n (ls1 := [(1, g_l (y1 + y0s)), (4, g_l y0s), (3, g_r 11 r3)]) hK d_Te_value_80 rfl (by rw [hN]; decide) rfl ?_
      refine r_aload_n hK d_Te_value_81 rfl 2 rfl ?_
      refine r_gR hK fd_Te_10 w4_91 d_Te_value_82 h (fun p2 h => ?_)
      refine r_astore_n (ls1 := [(3, g_r 11 p2), (1, g_l (y1 + y0s)), (4, g_l y0s)]) hK d_Te_value_85 rfl (by rw [hN]; decide) rfl ?_
      refine r_goto (tgt := 4) hK d_Te_value_86 (by decide) ?_
      exact r_sub [1, 0] rfl (hk4 _ _ _ h)
    · refine r_lload_n hK d_Te_value_69 rfl 1 rfl ?_
      refine r_lload hK d_Te_value_70 0 rfl ?_
      refine r_lsub hK d_Te_value_72 ?_
      refine r_goto (tgt := 80) hK d_Te_value_73 (by decide) ?_
      refine r_lstore_n (ls1 := [(1, g_l (y1 - y0s)), (4, g_l y0s), (3, g_r 11 r3)]) hK d_Te_value_80 rfl (by rw [hN]; decide) rfl ?_
      refine r_aload_n hK d_Te_value_81 rfl 2 rfl ?_
      refine r_gR hK fd_Te_10 w4_91 d_Te_value_82 h (fun p3 h => ?_)
      refine r_astore_n (ls1 := [(3, g_r 11 p3), (1, g_l (y1 - y0s)), (4, g_l y0s)]) hK d_Te_value_85 rfl (by rw [hN]; decide) rfl ?_
      refine r_goto (tgt := 4) hK d_Te_value_86 (by decide) ?_
      exact r_sub [1, 0] rfl (hk4 _ _ _ h)
  · refine r_ldc2 hK w6_76 d_Te_value_58 ?_
    exact r_lreturn hK d_Te_value_61 h
set_option maxHeartbeats 4000000 in
set_option maxRecDepth 100000 in
theorem t_Te_value_4 {K : g_C} {o : (Int64 × g_St)} (hK : g_OK K b_Te_value "FixpointEngine$Term" "value" (Option.some Jvm.ClassFile.FieldType.long)) (hN : g_nL K = 6) (hD : g_Kd K = 1) : ∀ (n : Nat) (y1 : Int64) (r3 : Option Nat) (s0 : g_St), f_Te_value_4 n y1 r3 s0 = some o → g_W K s0 [(1, g_l y1), (3, g_r 11 r3)] [] 4 (g_jL o) := by
  intro n
  induction n with
  | zero =>
    intro y1 r3 s0 h
    cases h
  | succ n ih =>
    intro y1 r3 s0 h
    unfold f_Te_value_4 at h
    refine r_aload_n hK d_Te_value_4 rfl 1 rfl ?_
    refine r_ifnull (tgt := 89) hK d_Te_value_5 (by decide) h (fun h => ?_) (fun h => ?_)
    · refine r_lload_n hK d_Te_value_89 rfl 0 rfl ?_
      exact r_lreturn hK d_Te_value_90 h
    · refine r_aload_n hK d_Te_value_8 rfl 1 rfl ?_
      refine r_gR hK fd_Te_8 w4_85 d_Te_value_9 h (fun p1 h => ?_)
      refine r_ifnonnull (tgt := 22) hK d_Te_value_12 (by decide) h (fun h => ?_) (fun h => ?_)
      · refine r_aload_n hK d_Te_value_22 rfl 1 rfl ?_
        refine r_gR hK fd_Te_8 w4_85 d_Te_value_23 h (fun p2 h => ?_)
        refine r_gR hK fd_So_8 w4_222 d_Te_value_26 h (fun p3 h => ?_)
        refine r_gR hK fd_Rl_1 w1_126 d_Te_value_29 h (fun p4 h => ?_)
        refine r_aload_n hK d_Te_value_32 rfl 1 rfl ?_
        refine r_gR hK fd_Te_8 w4_85 d_Te_value_33 h (fun p5 h => ?_)
        refine r_gI hK fd_So_11 w4_227 d_Te_value_36 h (fun i6 h => ?_)
        refine r_iconst (v := 4) hK d_Te_value_39 (by decide) ?_
        refine r_imul hK d_Te_value_40 ?_
        refine r_aload_n hK d_Te_value_41 rfl 1 rfl ?_
        refine r_gI hK fd_Te_9 w4_88 d_Te_value_42 h (fun i7 h => ?_)
        refine r_iadd hK d_Te_value_45 ?_
        refine r_laload hK ar_21 rfl d_Te_value_46 h (fun j8 h => ?_)
        exact r_sub [0, 1] rfl (t_Te_value_47 hK hN hD ih _ _ _ _ h)
      · refine r_aload_n hK d_Te_value_15 rfl 1 rfl ?_
        refine r_gL hK fd_Te_4 w4_77 d_Te_value_16 h (fun j9 h => ?_)
        refine r_goto (tgt := 47) hK d_Te_value_19 (by decide) ?_
        exact r_sub [0, 1] rfl (t_Te_value_47 hK hN hD ih _ _ _ _ h)
set_option maxHeartbeats 4000000 in
set_option maxRecDepth 100000 in
theorem t_Te_value_0 {K : g_C} {o : (Int64 × g_St)} (hK : g_OK K b_Te_value "FixpointEngine$Term" "value" (Option.some Jvm.ClassFile.FieldType.long)) (hN : g_nL K = 6) (hD : g_Kd K = 1) : ∀ (r0 : Option Nat) (s0 : g_St), f_Te_value r0 s0 = some o → g_W K s0 [(0, g_r 11 r0)] [] 0 (g_jL o) := by
  intro r0 s0 h
  unfold f_Te_value at h
  refine r_lconst (v := 0) hK d_Te_value_0 (by decide) ?_
  refine r_lstore_n (ls1 := [(1, g_l 0), (0, g_r 11 r0)]) hK d_Te_value_1 rfl (by rw [hN]; decide) rfl ?_
  refine r_aload_n hK d_Te_value_2 rfl 1 rfl ?_
  refine r_astore_n (ls1 := [(3, g_r 11 r0), (1, g_l 0), (0, g_r 11 r0)]) hK d_Te_value_3 rfl (by rw [hN]; decide) rfl ?_
  exact r_sub [1, 0] rfl (t_Te_value_4 hK hN hD _ _ _ _ h)
theorem c_Te_value (l : Launch) (G : g_G) (r0 : Option Nat) (u : g_St) (o : (Int64 × g_St)) (h : f_Te_value r0 u = some o) : g_Con l G y_Te_value b_Te_value 6 (Option.some Jvm.ClassFile.FieldType.long) 1 [g_r 11 r0] u (g_jL o) :=
  g_Con.of rfl rfl (by decide +kernel) (Nat.le_of_ble_eq_true rfl) (fun K hK hN hD hX => t_Te_value_0 hK hN hD _ _ h)
