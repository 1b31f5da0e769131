def f_Ru_init_63 : Nat → Option Nat → Int32 → g_St → Option (Unit × g_St)
  | 0, _, _, _ => none
  | n + 1, r0, x1, s0 =>
    if 4 < x1 then
      some ((), s0)
    else
      g_gR s0 4 r0 fun p1 =>
      g_new s0 5 7 fun p2 s3 =>
      g_c (g_nn p2 (f_Rl_init p2 48 4 s3)) fun _ s5 =>
      g_sR s5 p1 x1 p2 fun s6 =>
      f_Ru_init_63 n r0 (x1 + 1) s6
def f_Ru_init (r0 : Option Nat) (s0 : g_St) : Option (Unit × g_St) :=
  g_nn r0 (
  g_newA s0 29 5 fun p1 s2 =>
  g_pR s2 4 r0 p1 fun s3 =>
  g_newA s3 20 124 fun p4 s5 =>
  g_pR s5 68 r0 p4 fun s6 =>
  g_newA s6 20 49 fun p7 s8 =>
  g_pR s8 132 r0 p7 fun s9 =>
  g_newA s9 21 98 fun p10 s11 =>
  g_pR s11 196 r0 p10 fun s12 =>
  g_newA s12 21 4 fun p13 s14 =>
  g_pR s14 260 r0 p13 fun s15 =>
  g_newA s15 21 192 fun p16 s17 =>
  g_pR s17 324 r0 p16 fun s18 =>
  g_newA s18 20 192 fun p19 s20 =>
  g_pR s20 388 r0 p19 fun s21 =>
  f_Ru_init_63 200000 r0 0 s21)
set_option maxHeartbeats 4000000 in
set_option maxRecDepth 100000 in
theorem t_Ru_init_63 {K : g_C} {o : (Unit × g_St)} (hK : g_OK K b_Ru_init "FixpointEngine$Runner" "<init>" (Option.none : Option Jvm.ClassFile.FieldType)) (hN : g_nL K = 2) (hD : g_Kd K = 3) : ∀ (n : Nat) (r0 : Option Nat) (x1 : Int32) (s0 : g_St), f_Ru_init_63 n r0 x1 s0 = some o → g_W K s0 [(0, g_r 4 r0), (1, g_i x1)] [] 63 (g_jV o) := by
  intro n
  induction n with
  | zero =>
    intro r0 x1 s0 h
    cases h
  | succ n ih =>
    intro r0 x1 s0 h
    unfold f_Ru_init_63 at h
    refine r_iload_n hK d_Ru_init_63 rfl 1 rfl ?_
    refine r_iconst (v := 4) hK d_Ru_init_64 (by decide) ?_
    refine r_if_icmpgt (tgt := 90) hK d_Ru_init_65 (by decide) h (fun h => ?_) (fun h => ?_)
    · exact r_return hK d_Ru_init_90 h
    · refine r_aload_n hK d_Ru_init_68 rfl 0 rfl ?_
      refine r_gR hK fd_Ru_0 w1_154 d_Ru_init_69 h (fun p1 h => ?_)
      refine r_iload_n hK d_Ru_init_72 rfl 1 rfl ?_
      refine r_new hK ob_Rl rfl rfl w1_117 w1_118 w1_5 d_Ru_init_73 h (fun p2 s3 h => ?_)
      refine r_dup hK d_Ru_init_76 rfl ?_
      refine r_bipush (v := 48) hK d_Ru_init_77 (by decide) ?_
      refine r_iconst (v := 4) hK d_Ru_init_79 (by decide) ?_
      refine r_Iv (avL := [g_i 48, g_i 4]) (st := [g_r 5 p2, g_i x1, g_r 29 p1]) hK rfl w1_120 w1_119 w1_121 w1_5 (by decide) pl_Rl_init (by rw [hD]; decide) (Nat.le_of_ble_eq_true rfl) rfl d_Ru_init_80 (fun o9 h9 => c_Rl_init _ _ _ _ _ _ o9 h9) h (fun s5 h => ?_)
      refine r_aastore hK el_29 ar_29 rfl d_Ru_init_83 h (fun s6 h => ?_)
      refine r_iinc (ls1 := [(1, g_i (x1 + 1)), (0, g_r 4 r0)]) hK d_Ru_init_84 1 rfl rfl (by rw [hN]; decide) rfl ?_
      refine r_goto (tgt := 63) hK d_Ru_init_87 (by decide) ?_
      exact r_sub [1, 0] rfl (ih _ _ _ h)
set_option maxHeartbeats 4000000 in
set_option maxRecDepth 100000 in
theorem t_Ru_init_0 {K : g_C} {o : (Unit × g_St)} (hK : g_OK K b_Ru_init "FixpointEngine$Runner" "<init>" (Option.none : Option Jvm.ClassFile.FieldType)) (hN : g_nL K = 2) (hD : g_Kd K = 3) : ∀ (r0 : Option Nat) (s0 : g_St), f_Ru_init r0 s0 = some o → g_W K s0 [(0, g_r 4 r0)] [] 0 (g_jV o) := by
  intro r0 s0 h
  unfold f_Ru_init at h
  refine r_aload_n hK d_Ru_init_0 rfl 0 rfl ?_
  refine r_objinit hK w1_116 (by rw [hD]; decide) (Nat.le_of_ble_eq_true rfl) d_Ru_init_1 h (fun h => ?_)
  refine r_aload_n hK d_Ru_init_4 rfl 0 rfl ?_
  refine r_iconst (v := 5) hK d_Ru_init_5 (by decide) ?_
  refine r_anewarray hK rfl w1_117 w1_48 ar_29 d_Ru_init_6 h (fun p1 s2 h => ?_)
  refine r_pRF hK pd_29 rfl (Or.inr rfl) fd_Ru_0 rfl w1_154 d_Ru_init_9 h (fun s3 h => ?_)
  refine r_aload_n hK d_Ru_init_12 rfl 0 rfl ?_
  refine r_bipush (v := 124) hK d_Ru_init_13 (by decide) ?_
  refine r_newarray (index := 0) hK (ty := .int) rfl rfl (by decide) w1_90 ar_20 d_Ru_init_15 h (fun p4 s5 h => ?_)
  refine r_pRF hK pd_20 rfl (Or.inr rfl) fd_Ru_1 rfl w1_156 d_Ru_init_17 h (fun s6 h => ?_)
  refine r_aload_n hK d_Ru_init_20 rfl 0 rfl ?_
  refine r_bipush (v := 49) hK d_Ru_init_21 (by decide) ?_
  refine r_newarray (index := 0) hK (ty := .int) rfl rfl (by decide) w1_90 ar_20 d_Ru_init_23 h (fun p7 s8 h => ?_)
  refine r_pRF hK pd_20 rfl (Or.inr rfl) fd_Ru_2 rfl w1_158 d_Ru_init_25 h (fun s9 h => ?_)
  refine r_aload_n hK d_Ru_init_28 rfl 0 rfl ?_
  refine r_bipush (v := 98) hK d_Ru_init_29 (by decide) ?_
  refine r_newarray (index := 0) hK (ty := .long) rfl rfl (by decide) w1_91 ar_21 d_Ru_init_31 h (fun p10 s11 h => ?_)
  refine r_pRF hK pd_21 rfl (Or.inr rfl) fd_Ru_3 rfl w1_160 d_Ru_init_33 h (fun s12 h => ?_)
  refine r_aload_n hK d_Ru_init_36 rfl 0 rfl ?_
  refine r_iconst (v := 4) hK d_Ru_init_37 (by decide) ?_
  refine r_newarray (index := 0) hK (ty := .long) rfl rfl (by decide) w1_91 ar_21 d_Ru_init_38 h (fun p13 s14 h => ?_)
  refine r_pRF hK pd_21 rfl (Or.inr rfl) fd_Ru_4 rfl w1_161 d_Ru_init_40 h (fun s15 h => ?_)
  refine r_aload_n hK d_Ru_init_43 rfl 0 rfl ?_
  refine r_sipush (v := 192) hK d_Ru_init_44 (by decide) ?_
  refine r_newarray (index := 0) hK (ty := .long) rfl rfl (by decide) w1_91 ar_21 d_Ru_init_47 h (fun p16 s17 h => ?_)
  refine r_pRF hK pd_21 rfl (Or.inr rfl) fd_Ru_5 rfl w1_162 d_Ru_init_49 h (fun s18 h => ?_)
  refine r_aload_n hK d_Ru_init_52 rfl 0 rfl ?_
  refine r_sipush (v := 192) hK d_Ru_init_53 (by decide) ?_
  refine r_newarray (index := 0) hK (ty := .int) rfl rfl (by decide) w1_90 ar_20 d_Ru_init_56 h (fun p19 s20 h => ?_)
  refine r_pRF hK pd_20 rfl (Or.inr rfl) fd_Ru_6 rfl w1_163 d_Ru_init_58 h (fun s21 h => ?_)
  refine r_iconst (v := 0) hK d_Ru_init_61 (by decide) ?_
  refine r_istore_n (ls1 := [(1, g_i 0), (0, g_r 4 r0)]) hK d_Ru_init_62 rfl (by rw [hN]; decide) rfl ?_
  exact r_sub [1, 0] rfl (t_Ru_init_63 hK hN hD _ _ _ _ h)
theorem c_Ru_init (l : Launch) (G : g_G) (r0 : Option Nat) (u : g_St) (o : (Unit × g_St)) (h : f_Ru_init r0 u = some o) : g_Con l G y_Ru_init b_Ru_init 2 (Option.none : Option Jvm.ClassFile.FieldType) 3 [g_r 4 r0] u (g_jV o) :=
  g_Con.of rfl rfl (by decide +kernel) (Nat.le_of_ble_eq_true rfl) (fun K hK hN hD hX => t_Ru_init_0 hK hN hD _ _ h)
def f_Ru_begin_29 : Nat → Option Nat → Int32 → g_St → Option (Unit × g_St)
  | 0, _, _, _ => none
  | n + 1, r0, x5, s0 =>
    if 4 < x5 then
      some ((), s0)
    else
      g_gR s0 4 r0 fun p1 =>
      g_aR s0 p1 x5 fun p2 =>
      g_c (g_nn p2 (f_Rl_empty p2 s0)) fun _ s4 =>
      f_Ru_begin_29 n r0 (x5 + 1) s4
def f_Ru_begin (r0 : Option Nat) (r1 : Option Nat) (r2 : Option Nat) (x3 : Int32) (x4 : Int32) (s0 : g_St) : Option (Unit × g_St) :=
  g_pR s0 452 r0 r1 fun s1 =>
  g_pR s1 516 r0 r2 fun s2 =>
  g_pI s2 580 r0 x3 fun s3 =>
  g_pI s3 644 r0 x4 fun s4 =>
  g_pI s4 708 r0 0 fun s5 =>
  f_Ru_begin_29 200000 r0 0 s5
set_option maxHeartbeats 4000000 in
set_option maxRecDepth 100000 in
theorem t_Ru_begin_29 {K : g_C} {o : (Unit × g_St)} (hK : g_OK K b_Ru_begin "FixpointEngine$Runner" "begin" (Option.none : Option Jvm.ClassFile.FieldType)) (hN : g_nL K = 6) (hD : g_Kd K = 2) : ∀ (n : Nat) (r0 : Option Nat) (x5 : Int32) (s0 : g_St), f_Ru_begin_29 n r0 x5 s0 = some o → g_W K s0 [(0, g_r 4 r0), (5, g_i x5)] [] 29 (g_jV o) := by
  intro n
  induction n with
  | zero =>
    intro r0 x5 s0 h
    cases h
  | succ n ih =>
    intro r0 x5 s0 h
    unfold f_Ru_begin_29 at h
    refine r_iload hK d_Ru_begin_29 1 rfl ?_
    refine r_iconst (v := 4) hK d_Ru_begin_31 (by decide) ?_
    refine r_if_icmpgt (tgt := 51) hK d_Ru_begin_32 (by decide) h (fun h => ?_) (fun h => ?_)
    · exact r_return hK d_Ru_begin_51 h
    · refine r_aload_n hK d_Ru_begin_35 rfl 0 rfl ?_
      refine r_gR hK fd_Ru_0 w1_154 d_Ru_begin_36 h (fun p1 h => ?_)
      refine r_iload hK d_Ru_begin_39 1 rfl ?_
      refine r_aaload hK rfl ar_29 rfl d_Ru_begin_41 h (fun p2 h => ?_)
      refine r_Vv (avL := []) (st := []) hK ob_Rl rfl w6_35 w6_36 w6_34 w6_37 w1_5 (by decide) pl_Rl_empty (by rw [hD]; decide) (Nat.le_of_ble_eq_true rfl) rfl d_Ru_begin_42 (fun o9 h9 => c_Rl_empty _ _ _ _ o9 h9) h (fun s4 h => ?_)
      refine r_iinc (ls1 := [(5, g_i (x5 + 1)), (0, g_r 4 r0)]) hK d_Ru_begin_45 1 rfl rfl (by rw [hN]; decide) rfl ?_
      refine r_goto (tgt := 29) hK d_Ru_begin_48 (by decide) ?_
      exact r_sub [1, 0] rfl (ih _ _ _ h)
set_option maxHeartbeats 4000000 in
set_option maxRecDepth 100000 in
theorem t_Ru_begin_0 {K : g_C} {o : (Unit × g_St)} (hK : g_OK K b_Ru_begin "FixpointEngine$Runner" "begin" (Option.none : Option Jvm.ClassFile.FieldType)) (hN : g_nL K = 6) (hD : g_Kd K = 2) : ∀ (r0 : Option Nat) (r1 : Option Nat) (r2 : Option Nat) (x3 : Int32) (x4 : Int32) (s0 : g_St), f_Ru_begin r0 r1 r2 x3 x4 s0 = some o → g_W K s0 [(0, g_r 4 r0), (1, g_r 6 r1), (2, g_r 29 r2), (3, g_i x3), (4, g_i x4)] [] 0 (g_jV o) := by
  intro r0 r1 r2 x3 x4 s0 h
  unfold f_Ru_begin at h
  refine r_aload_n hK d_Ru_begin_0 rfl 0 rfl ?_
  refine r_aload_n hK d_Ru_begin_1 rfl 1 rfl ?_
  refine r_pR hK pd_6 rfl (Or.inr rfl) fd_Ru_7 rfl w1_164 d_Ru_begin_2 h (fun s1 h => ?_)
  refine r_aload_n hK d_Ru_begin_5 rfl 0 rfl ?_
  refine r_aload_n hK d_Ru_begin_6 rfl 2 rfl ?_
  refine r_pR hK pd_29 rfl (Or.inr rfl) fd_Ru_8 rfl w1_165 d_Ru_begin_7 h (fun s2 h => ?_)
  refine r_aload_n hK d_Ru_begin_10 rfl 0 rfl ?_
  refine r_iload_n hK d_Ru_begin_11 rfl 3 rfl ?_
  refine r_pI hK fd_Ru_9 rfl w1_166 d_Ru_begin_12 h (fun s3 h => ?_)
  refine r_aload_n hK d_Ru_begin_15 rfl 0 rfl ?_
  refine r_iload hK d_Ru_begin_16 4 rfl ?_
  refine r_pI hK fd_Ru_10 rfl w1_167 d_Ru_begin_18 h (fun s4 h => ?_)
  refine r_aload_n hK d_Ru_begin_21 rfl 0 rfl ?_
  refine r_iconst (v := 0) hK d_Ru_begin_22 (by decide) ?_
  refine r_pI hK fd_Ru_11 rfl w1_168 d_Ru_begin_23 h (fun s5 h => ?_)
  refine r_iconst (v := 0) hK d_Ru_begin_26 (by decide) ?_
  refine r_istore (ls1 := [(5, g_i 0), (0, g_r 4 r0), (1, g_r 6 r1), (2, g_r 29 r2), (3, g_i x3), (4, g_i x4)]) hK d_Ru_begin_27 (by rw [hN]; decide) rfl ?_
  exact r_sub [1, 0] rfl (t_Ru_begin_29 hK hN hD _ _ _ _ h)
theorem c_Ru_begin (l : Launch) (G : g_G) (r0 : Option Nat) (r1 : Option Nat) (r2 : Option Nat) (x3 : Int32) (x4 : Int32) (u : g_St) (o : (Unit × g_St)) (h : f_Ru_begin r0 r1 r2 x3 x4 u = some o) : g_Con l G y_Ru_begin b_Ru_begin 6 (Option.none : Option Jvm.ClassFile.FieldType) 2 [g_r 4 r0, g_r 6 r1, g_r 29 r2, g_i x3, g_i x4] u (g_jV o) :=
  g_Con.of rfl rfl (by decide +kernel) (Nat.le_of_ble_eq_true rfl) (fun K hK hN hD hX => t_Ru_begin_0 hK hN hD _ _ _ _ _ _ h)
def f_Ru_beginRound_4 : Nat → Option Nat → Int32 → Int32 → Int32 → g_St → Option (Int32 × g_St)
  | 0, _, _, _, _, _ => none
  | n + 1, r0, x1, x2, x3, s0 =>
    g_gR s0 452 r0 fun p1 =>
    g_gI s0 70 p1 fun i2 =>
    if i2 ≤ x3 then
      g_rZ x2 (some (x2, s0))
    else
      g_gR s0 452 r0 fun p3 =>
      g_gR s0 6 p3 fun p4 =>
      g_aR s0 p4 x3 fun p5 =>
      g_gI s0 903 p5 fun i6 =>
      if i6 = x1 then
        g_gR s0 4 r0 fun p7 =>
        g_aR s0 p7 x3 fun p8 =>
        g_c (g_nn p8 (f_Rl_beginRound p8 s0)) fun _ s10 =>
        g_gR s10 452 r0 fun p11 =>
        g_gR s10 6 p11 fun p12 =>
        g_aR s10 p12 x3 fun p13 =>
        g_gI s10 967 p13 fun i14 =>
        f_Ru_beginRound_4 n r0 x1 i14 (x3 + 1) s10
      else
        f_Ru_beginRound_4 n r0 x1 x2 (x3 + 1) s0
def f_Ru_beginRound (r0 : Option Nat) (x1 : Int32) (s0 : g_St) : Option (Int32 × g_St) :=
  f_Ru_beginRound_4 200000 r0 x1 0 0 s0
set_option maxHeartbeats 4000000 in
set_option maxRecDepth 100000 in
theorem t_Ru_beginRound_4 {K : g_C} {o : (Int32 × g_St)} (hK : g_OK K b_Ru_beginRound "FixpointEngine$Runner" "beginRound" (Option.some Jvm.ClassFile.FieldType.boolean)) (hN : g_nL K = 4) (hD : g_Kd K = 2) : ∀ (n : Nat) (r0 : Option Nat) (x1 : Int32) (x2 : Int32) (x3 : Int32) (s0 : g_St), f_Ru_beginRound_4 n r0 x1 x2 x3 s0 = some o → g_W K s0 [(0, g_r 4 r0), (1, g_i x1), (2, g_i x2), (3, g_i x3)] [] 4 (g_jI o) := by
  intro n
  induction n with
  | zero =>
    intro r0 x1 x2 x3 s0 h
    cases h
  | succ n ih =>
    intro r0 x1 x2 x3 s0 h
    unfold f_Ru_beginRound_4 at h
    refine r_iload_n hK d_Ru_beginRound_4 rfl 3 rfl ?_
    refine r_aload_n hK d_Ru_beginRound_5 rfl 0 rfl ?_
    refine r_gR hK fd_Ru_7 w1_164 d_Ru_beginRound_6 h (fun p1 h => ?_)
    refine r_gI hK fd_Qu_1 w3_26 d_Ru_beginRound_9 h (fun i2 h => ?_)
    refine r_if_icmpge (tgt := 59) hK d_Ru_beginRound_12 (by decide) h (fun h => ?_) (fun h => ?_)
    · refine r_iload_n hK d_Ru_beginRound_59 rfl 2 rfl ?_
      exact r_zreturn hK d_Ru_beginRound_60 h
    · refine r_aload_n hK d_Ru_beginRound_15 rfl 0 rfl ?_
      refine r_gR hK fd_Ru_7 w1_164 d_Ru_beginRound_16 h (fun p3 h => ?_)
      refine r_gR hK fd_Qu_0 w3_22 d_Ru_beginRound_19 h (fun p4 h => ?_)
      refine r_iload_n hK d_Ru_beginRound_22 rfl 3 rfl ?_
      refine r_aaload hK rfl ar_24 rfl d_Ru_beginRound_23 h (fun p5 h => ?_)
      refine r_gI hK fd_Pa_14 w3_135 d_Ru_beginRound_24 h (fun i6 h => ?_)
      refine r_iload_n hK d_Ru_beginRound_27 rfl 1 rfl ?_
      refine r_if_icmpne (tgt := 53) hK d_Ru_beginRound_28 (by decide) h (fun h => ?_) (fun h => ?_)
      · refine r_iinc (ls1 := [(3, g_i (x3 + 1)), (0, g_r 4 r0), (1, g_i x1), (2, g_i x2)]) hK d_Ru_beginRound_53 3 rfl rfl (by rw [hN]; decide) rfl ?_
        refine r_goto (tgt := 4) hK d_Ru_beginRound_56 (by decide) ?_
        exact r_sub [1, 2, 3, 0] rfl (ih _ _ _ _ _ h)
      · refine r_aload_n hK d_Ru_beginRound_31 rfl 0 rfl ?_
        refine r_gR hK fd_Ru_0 w1_154 d_Ru_beginRound_32 h (fun p7 h => ?_)
        refine r_iload_n hK d_Ru_beginRound_35 rfl 3 rfl ?_
        refine r_aaload hK rfl ar_29 rfl d_Ru_beginRound_36 h (fun p8 h => ?_)
        refine r_Vv (avL := []) (st := []) hK ob_Rl rfl w6_47 w6_48 w6_46 w6_49 w1_5 (by decide) pl_Rl_beginRound (by rw [hD]; decide) (Nat.le_of_ble_eq_true rfl) rfl d_Ru_beginRound_37 (fun o9 h9 => c_Rl_beginRound _ _ _ _ o9 h9) h (fun s10 h => ?_)
        refine r_aload_n hK d_Ru_beginRound_40 rfl 0 rfl ?_
        refine r_gR hK fd_Ru_7 w1_164 d_Ru_beginRound_41 h (fun p11 h => ?_)
        refine r_gR hK fd_Qu_0 w3_22 d_Ru_beginRound_44 h (fun p12 h => ?_)
        refine r_iload_n hK d_Ru_beginRound_47 rfl 3 rfl ?_
        refine r_aaload hK rfl ar_24 rfl d_Ru_beginRound_48 h (fun p13 h => ?_)
        refine r_gI hK fd_Pa_15 w3_138 d_Ru_beginRound_49 h (fun i14 h => ?_)
        refine r_istore_n (ls1 := [(2, g_i i14), (0, g_r 4 r0), (1, g_i x1), (3, g_i x3)]) hK d_Ru_beginRound_52 rfl (by rw [hN]; decide) rfl ?_
        refine r_iinc (ls1 := [(3, g_i (x3 + 1)), (2, g_i i14), (0, g_r 4 r0), (1, g_i x1)]) hK d_Ru_beginRound_53 3 rfl rfl (by rw [hN]; decide) rfl ?_
        refine r_goto (tgt := 4) hK d_Ru_beginRound_56 (by decide) ?_
        exact r_sub [2, 3, 1, 0] rfl (ih _ _ _ _ _ h)
set_option maxHeartbeats 4000000 in
set_option maxRecDepth 100000 in
theorem t_Ru_beginRound_0 {K : g_C} {o : (Int32 × g_St)} (hK : g_OK K b_Ru_beginRound "FixpointEngine$Runner" "beginRound" (Option.some Jvm.ClassFile.FieldType.boolean)) (hN : g_nL K = 4) (hD : g_Kd K = 2) : ∀ (r0 : Option Nat) (x1 : Int32) (s0 : g_St), f_Ru_beginRound r0 x1 s0 = some o → g_W K s0 [(0, g_r 4 r0), (1, g_i x1)] [] 0 (g_jI o) := by
  intro r0 x1 s0 h
  unfold f_Ru_beginRound at h
  refine r_iconst (v := 0) hK d_Ru_beginRound_0 (by decide) ?_
  refine r_istore_n (ls1 := [(2, g_i 0), (0, g_r 4 r0), (1, g_i x1)]) hK d_Ru_beginRound_1 rfl (by rw [hN]; decide) rfl ?_
  refine r_iconst (v := 0) hK d_Ru_beginRound_2 (by decide) ?_
  refine r_istore_n (ls1 := [(3, g_i 0), (2, g_i 0), (0, g_r 4 r0), (1, g_i x1)]) hK d_Ru_beginRound_3 rfl (by rw [hN]; decide) rfl ?_
  exact r_sub [2, 3, 1, 0] rfl (t_Ru_beginRound_4 hK hN hD _ _ _ _ _ _ h)
theorem c_Ru_beginRound (l : Launch) (G : g_G) (r0 : Option Nat) (x1 : Int32) (u : g_St) (o : (Int32 × g_St)) (h : f_Ru_beginRound r0 x1 u = some o) : g_Con l G y_Ru_beginRound b_Ru_beginRound 4 (Option.some Jvm.ClassFile.FieldType.boolean) 2 [g_r 4 r0, g_i x1] u (g_jI o) :=
  g_Con.of rfl rfl (by decide +kernel) (Nat.le_of_ble_eq_true rfl) (fun K hK hN hD hX => t_Ru_beginRound_0 hK hN hD _ _ _ h)
def f_Ru_addGroup_2 : Nat → Option Nat → Int32 → g_St → Option (Unit × g_St)
  | 0, _, _, _ => none
  | n + 1, r0, x1, s0 =>
    g_gR s0 772 r0 fun p1 =>
    g_gI s0 264 p1 fun i2 =>
    if i2 ≤ x1 then
      g_gI s0 964 r0 fun i3 =>
      g_pI s0 964 r0 (i3 + 1) fun s4 =>
      some ((), s4)
    else
      g_gI s0 964 r0 fun i5 =>
      g_gR s0 324 r0 fun p6 =>
      g_gR s0 772 r0 fun p7 =>
      g_gR s0 200 p7 fun p8 =>
      g_aR s0 p8 x1 fun p9 =>
      if p9 = none then
        g_gR s0 260 r0 fun p13 =>
        g_aL s0 p13 x1 fun j14 =>
        g_sL s0 p6 ((i5 * 4) + x1) j14 fun s15 =>
        g_gR s15 388 r0 fun p16 =>
        g_sI s15 p16 ((i5 * 4) + x1) 0 fun s17 =>
        f_Ru_addGroup_2 n r0 (x1 + 1) s17
      else
        g_sL s0 p6 ((i5 * 4) + x1) 0 fun s10 =>
        g_gR s10 388 r0 fun p11 =>
        g_sI s10 p11 ((i5 * 4) + x1) 0 fun s12 =>
        f_Ru_addGroup_2 n r0 (x1 + 1) s12
def f_Ru_addGroup (r0 : Option Nat) (s0 : g_St) : Option (Unit × g_St) :=
  f_Ru_addGroup_2 200000 r0 0 s0
set_option maxHeartbeats 4000000 in
set_option maxRecDepth 100000 in
theorem t_Ru_addGroup_2 {K : g_C} {o : (Unit × g_St)} (hK : g_OK K b_Ru_addGroup "FixpointEngine$Runner" "addGroup" (Option.none : Option Jvm.ClassFile.FieldType)) (hN : g_nL K = 3) (hD : g_Kd K = 1) : ∀ (n : Nat) (r0 : Option Nat) (x1 : Int32) (s0 : g_St), f_Ru_addGroup_2 n r0 x1 s0 = some o → g_W K s0 [(0, g_r 4 r0), (1, g_i x1)] [] 2 (g_jV o) := by
  intro n
  induction n with
  | zero =>
    intro r0 x1 s0 h
    cases h
  | succ n ih =>
    intro r0 x1 s0 h
    unfold f_Ru_addGroup_2 at h
    refine r_iload_n hK d_Ru_addGroup_2 rfl 1 rfl ?_
    refine r_aload_n hK d_Ru_addGroup_3 rfl 0 rfl ?_
    refine r_gR hK fd_Ru_12 w1_169 d_Ru_addGroup_4 h (fun p1 h => ?_)
    refine r_gI hK fd_Se_4 w3_232 d_Ru_addGroup_7 h (fun i2 h => ?_)
    refine r_if_icmpge (tgt := 63) hK d_Ru_addGroup_10 (by decide) h (fun h => ?_) (fun h => ?_)
    · refine r_aload_n hK d_Ru_addGroup_63 rfl 0 rfl ?_
      refine r_dup hK d_Ru_addGroup_64 rfl ?_
      refine r_gI hK fd_Ru_15 w1_172 d_Ru_addGroup_65 h (fun i3 h => ?_)
      refine r_iconst (v := 1) hK d_Ru_addGroup_68 (by decide) ?_
      refine r_iadd hK d_Ru_addGroup_69 ?_
      refine r_pI hK fd_Ru_15 rfl w1_172 d_Ru_addGroup_70 h (fun s4 h => ?_)
      exact r_return hK d_Ru_addGroup_73 h
    · refine r_aload_n hK d_Ru_addGroup_13 rfl 0 rfl ?_
      refine r_gI hK fd_Ru_15 w1_172 d_Ru_addGroup_14 h (fun i5 h => ?_)
      refine r_iconst (v := 4) hK d_Ru_addGroup_17 (by decide) ?_
      refine r_imul hK d_Ru_addGroup_18 ?_
      refine r_iload_n hK d_Ru_addGroup_19 rfl 1 rfl ?_
      refine r_iadd hK d_Ru_addGroup_20 ?_
      refine r_istore_n (ls1 := [(2, g_i ((i5 * 4) + x1)), (0, g_r 4 r0), (1, g_i x1)]) hK d_Ru_addGroup_21 rfl (by rw [hN]; decide) rfl ?_
      refine r_aload_n hK d_Ru_addGroup_22 rfl 1 rfl ?_
      refine r_gR hK fd_Ru_5 w1_162 d_Ru_addGroup_23 h (fun p6 h => ?_)
      refine r_iload_n hK d_Ru_addGroup_26 rfl 0 rfl ?_
      refine r_aload_n hK d_Ru_addGroup_27 rfl 1 rfl ?_
      refine r_gR hK fd_Ru_12 w1_169 d_Ru_addGroup_28 h (fun p7 h => ?_)
      refine r_gR hK fd_Se_3 w3_230 d_Ru_addGroup_31 h (fun p8 h => ?_)
      refine r_iload_n hK d_Ru_addGroup_34 rfl 2 rfl ?_
      refine r_aaload hK rfl ar_23 rfl d_Ru_addGroup_35 h (fun p9 h => ?_)
      refine r_ifnonnull (tgt := 48) hK d_Ru_addGroup_36 (by decide) h (fun h => ?_) (fun h => ?_)
      · refine r_lconst (v := 0) hK d_Ru_addGroup_48 (by decide) ?_
        refine r_lastore hK ar_21 rfl d_Ru_addGroup_49 h (fun s10 h => ?_)
        refine r_aload_n hK d_Ru_addGroup_50 rfl 1 rfl ?_
        refine r_gR hK fd_Ru_6 w1_163 d_Ru_addGroup_51 h (fun p11 h => ?_)
        refine r_iload_n hK d_Ru_addGroup_54 rfl 0 rfl ?_
        refine r_iconst (v := 0) hK d_Ru_addGroup_55 (by decide) ?_
        refine r_iastore hK ar_20 rfl d_Ru_addGroup_56 h (fun s12 h => ?_)
        refine r_iinc (ls1 := [(1, g_i (x1 + 1)), (2, g_i ((i5 * 4) + x1)), (0, g_r 4 r0)]) hK d_Ru_addGroup_57 2 rfl rfl (by rw [hN]; decide) rfl ?_
        refine r_goto (tgt := 2) hK d_Ru_addGroup_60 (by decide) ?_
        exact r_sub [2, 0] rfl (ih _ _ _ h)
      · refine r_aload_n hK d_Ru_addGroup_39 rfl 1 rfl ?_
        refine r_gR hK fd_Ru_4 w1_161 d_Ru_addGroup_40 h (fun p13 h => ?_)
        refine r_iload_n hK d_Ru_addGroup_43 rfl 2 rfl ?_
        refine r_laload hK ar_21 rfl d_Ru_addGroup_44 h (fun j14 h => ?_)
        refine r_goto (tgt := 49) hK d_Ru_addGroup_45 (by decide) ?_
        refine r_lastore hK ar_21 rfl d_Ru_addGroup_49 h (fun s15 h => ?_)
        refine r_aload_n hK d_Ru_addGroup_50 rfl 1 rfl ?_
        refine r_gR hK fd_Ru_6 w1_163 d_Ru_addGroup_51 h (fun p16 h => ?_)
        refine r_iload_n hK d_Ru_addGroup_54 rfl 0 rfl ?_
        refine r_iconst (v := 0) hK d_Ru_addGroup_55 (by decide) ?_
        refine r_iastore hK ar_20 rfl d_Ru_addGroup_56 h (fun s17 h => ?_)
        refine r_iinc (ls1 := [(1, g_i (x1 + 1)), (2, g_i ((i5 * 4) + x1)), (0, g_r 4 r0)]) hK d_Ru_addGroup_57 2 rfl rfl (by rw [hN]; decide) rfl ?_
        refine r_goto (tgt := 2) hK d_Ru_addGroup_60 (by decide) ?_
        exact r_sub [2, 0] rfl (ih _ _ _ h)
set_option maxHeartbeats 4000000 in
set_option maxRecDepth 100000 in
theorem t_Ru_addGroup_0 {K : g_C} {o : (Unit × g_St)} (hK : g_OK K b_Ru_addGroup "FixpointEngine$Runner" "addGroup" (Option.none : Option Jvm.ClassFile.FieldType)) (hN : g_nL K = 3) (hD : g_Kd K = 1) : ∀ (r0 : Option Nat) (s0 : g_St), f_Ru_addGroup r0 s0 = some o → g_W K s0 [(0, g_r 4 r0)] [] 0 (g_jV o) := by
  intro r0 s0 h
  unfold f_Ru_addGroup at h
  refine r_iconst (v := 0) hK d_Ru_addGroup_0 (by decide) ?_
  refine r_istore_n (ls1 := [(1, g_i 0), (0, g_r 4 r0)]) hK d_Ru_addGroup_1 rfl (by rw [hN]; decide) rfl ?_
  exact r_sub [1, 0] rfl (t_Ru_addGroup_2 hK hN hD _ _ _ _ h)
theorem c_Ru_addGroup (l : Launch) (G : g_G) (r0 : Option Nat) (u : g_St) (o : (Unit × g_St)) (h : f_Ru_addGroup r0 u = some o) : g_Con l G y_Ru_addGroup b_Ru_addGroup 3 (Option.none : Option Jvm.ClassFile.FieldType) 1 [g_r 4 r0] u (g_jV o) :=
  g_Con.of rfl rfl (by decide +kernel) (Nat.le_of_ble_eq_true rfl) (fun K hK hN hD hX => t_Ru_addGroup_0 hK hN hD _ _ h)
def f_Ru_bind_119 (r1 : Option Nat) (r2 : Option Nat) (r0s : Option Nat) (x1s : Int32) (s0 : g_St) : Option (Unit × g_St) :=
  g_pI s0 585 r0s x1s fun s1 =>
  g_gR s1 521 r1 fun p2 =>
  g_gI s1 325 p2 fun i3 =>
  g_pI s1 649 r1 i3 fun s4 =>
  g_gI s4 455 r2 fun i5 =>
  g_pZ s4 777 r1 i5 fun s6 =>
  some ((), s6)
def f_Ru_bind (r0 : Option Nat) (r1 : Option Nat) (s0 : g_St) : Option (Unit × g_St) :=
  g_pZ s0 777 r1 0 fun s1 =>
  g_pI s1 585 r1 0 fun s2 =>
  g_gI s2 393 r1 fun i3 =>
  if 0 ≤ i3 then
    g_gR s2 452 r0 fun p4 =>
    g_gR s2 6 p4 fun p5 =>
    g_gI s2 393 r1 fun i6 =>
    g_aR s2 p5 i6 fun p7 =>
    g_gR s2 4 r0 fun p8 =>
    g_gI s2 393 r1 fun i9 =>
    g_aR s2 p8 i9 fun p10 =>
    g_pR s2 521 r1 p10 fun s11 =>
    g_gR s11 521 r1 fun p12 =>
    g_gI s11 261 p12 fun i13 =>
    g_pI s11 649 r1 i13 fun s14 =>
    g_gR s14 836 r0 fun p15 =>
    if p15 = none then
      some ((), s14)
    else
      g_gR s14 836 r0 fun p16 =>
      g_gI s14 903 p16 fun i17 =>
      g_gI s14 903 p7 fun i18 =>
      if i17 = i18 then
        g_gI s14 583 p7 fun i19 =>
        if i19 = 0 then
          f_Ru_bind_119 r1 p7 r1 0 s14
        else
          g_gR s14 521 r1 fun p20 =>
          g_gI s14 389 p20 fun i21 =>
          f_Ru_bind_119 r1 p7 r1 i21 s14
      else
        some ((), s14)
  else
    g_gR s2 516 r0 fun p22 =>
    g_gI s2 457 r1 fun i23 =>
    g_aR s2 p22 i23 fun p24 =>
    g_pR s2 521 r1 p24 fun s25 =>
    g_gR s25 521 r1 fun p26 =>
    g_gI s25 261 p26 fun i27 =>
    g_pI s25 649 r1 i27 fun s28 =>
    some ((), s28)
set_option maxHeartbeats 4000000 in
set_option maxRecDepth 100000 in
theorem t_Ru_bind_119 {K : g_C} {o : (Unit × g_St)} (hK : g_OK K b_Ru_bind "FixpointEngine$Runner" "bind" (Option.none : Option Jvm.ClassFile.FieldType)) (hN : g_nL K = 3) (hD : g_Kd K = 1) : ∀ (r1 : Option Nat) (r2 : Option Nat) (r0s : Option Nat) (x1s : Int32) (s0 : g_St), f_Ru_bind_119 r1 r2 r0s x1s s0 = some o → g_W K s0 [(1, g_r 9 r1), (2, g_r 7 r2)] [g_i x1s, g_r 9 r0s] 119 (g_jV o) := by
  intro r1 r2 r0s x1s s0 h
  unfold f_Ru_bind_119 at h
  refine r_pI hK fd_So_9 rfl w4_225 d_Ru_bind_119 h (fun s1 h => ?_)
  refine r_aload_n hK d_Ru_bind_122 rfl 0 rfl ?_
  refine r_aload_n hK d_Ru_bind_123 rfl 0 rfl ?_
  refine r_gR hK fd_So_8 w4_224 d_Ru_bind_124 h (fun p2 h => ?_)
  refine r_gI hK fd_Rl_5 w1_136 d_Ru_bind_127 h (fun i3 h => ?_)
  refine r_pI hK fd_So_10 rfl w4_226 d_Ru_bind_130 h (fun s4 h => ?_)
  refine r_aload_n hK d_Ru_bind_133 rfl 0 rfl ?_
  refine r_aload_n hK d_Ru_bind_134 rfl 1 rfl ?_
  refine r_gI hK fd_Pa_7 w3_115 d_Ru_bind_135 h (fun i5 h => ?_)
  refine r_pZ hK fd_So_12 rfl w4_230 d_Ru_bind_138 h (fun s6 h => ?_)
  exact r_return hK d_Ru_bind_141 h
set_option maxHeartbeats 4000000 in
set_option maxRecDepth 100000 in
theorem t_Ru_bind_0 {K : g_C} {o : (Unit × g_St)} (hK : g_OK K b_Ru_bind "FixpointEngine$Runner" "bind" (Option.none : Option Jvm.ClassFile.FieldType)) (hN : g_nL K = 3) (hD : g_Kd K = 1) : ∀ (r0 : Option Nat) (r1 : Option Nat) (s0 : g_St), f_Ru_bind r0 r1 s0 = some o → g_W K s0 [(0, g_r 4 r0), (1, g_r 9 r1)] [] 0 (g_jV o) := by
  intro r0 r1 s0 h
  unfold f_Ru_bind at h
  refine r_aload_n hK d_Ru_bind_0 rfl 1 rfl ?_
  refine r_iconst (v := 0) hK d_Ru_bind_1 (by decide) ?_
  refine r_pZ hK fd_So_12 rfl w4_230 d_Ru_bind_2 h (fun s1 h => ?_)
  refine r_aload_n hK d_Ru_bind_5 rfl 1 rfl ?_
  refine r_iconst (v := 0) hK d_Ru_bind_6 (by decide) ?_
  refine r_pI hK fd_So_9 rfl w4_225 d_Ru_bind_7 h (fun s2 h => ?_)
  refine r_aload_n hK d_Ru_bind_10 rfl 1 rfl ?_
  refine r_gI hK fd_So_6 w4_218 d_Ru_bind_11 h (fun i3 h => ?_)
  refine r_ifge (tgt := 42) hK d_Ru_bind_14 (by decide) h (fun h => ?_) (fun h => ?_)
  · refine r_aload_n hK d_Ru_bind_42 rfl 0 rfl ?_
    refine r_gR hK fd_Ru_7 w1_164 d_Ru_bind_43 h (fun p4 h => ?_)
    refine r_gR hK fd_Qu_0 w3_22 d_Ru_bind_46 h (fun p5 h => ?_)
    refine r_aload_n hK d_Ru_bind_49 rfl 1 rfl ?_
    refine r_gI hK fd_So_6 w4_218 d_Ru_bind_50 h (fun i6 h => ?_)
    refine r_aaload hK rfl ar_24 rfl d_Ru_bind_53 h (fun p7 h => ?_)
    refine r_astore_n (ls1 := [(2, g_r 7 p7), (0, g_r 4 r0), (1, g_r 9 r1)]) hK d_Ru_bind_54 rfl (by rw [hN]; decide) rfl ?_
    refine r_aload_n hK d_Ru_bind_55 rfl 2 rfl ?_
    refine r_aload_n hK d_Ru_bind_56 rfl 1 rfl ?_
    refine r_gR hK fd_Ru_0 w1_154 d_Ru_bind_57 h (fun p8 h => ?_)
    refine r_aload_n hK d_Ru_bind_60 rfl 2 rfl ?_
    refine r_gI hK fd_So_6 w4_218 d_Ru_bind_61 h (fun i9 h => ?_)
    refine r_aaload hK rfl ar_29 rfl d_Ru_bind_64 h (fun p10 h => ?_)
    refine r_pR hK pd_5 rfl (Or.inr rfl) fd_So_8 rfl w4_224 d_Ru_bind_65 h (fun s11 h => ?_)
    refine r_aload_n hK d_Ru_bind_68 rfl 2 rfl ?_
    refine r_aload_n hK d_Ru_bind_69 rfl 2 rfl ?_
    refine r_gR hK fd_So_8 w4_224 d_Ru_bind_70 h (fun p12 h => ?_)
    refine r_gI hK fd_Rl_4 w1_134 d_Ru_bind_73 h (fun i13 h => ?_)
    refine r_pI hK fd_So_10 rfl w4_226 d_Ru_bind_76 h (fun s14 h => ?_)
    refine r_aload_n hK d_Ru_bind_79 rfl 1 rfl ?_
    refine r_gR hK fd_Ru_13 w1_170 d_Ru_bind_80 h (fun p15 h => ?_)
    refine r_ifnull (tgt := 141) hK d_Ru_bind_83 (by decide) h (fun h => ?_) (fun h => ?_)
    · exact r_return hK d_Ru_bind_141 h
    · refine r_aload_n hK d_Ru_bind_86 rfl 1 rfl ?_
      refine r_gR hK fd_Ru_13 w1_170 d_Ru_bind_87 h (fun p16 h => ?_)
      refine r_gI hK fd_Pa_14 w3_135 d_Ru_bind_90 h (fun i17 h => ?_)
      refine r_aload_n hK d_Ru_bind_93 rfl 0 rfl ?_
      refine r_gI hK fd_Pa_14 w3_135 d_Ru_bind_94 h (fun i18 h => ?_)
      refine r_if_icmpne (tgt := 141) hK d_Ru_bind_97 (by decide) h (fun h => ?_) (fun h => ?_)
      · exact r_return hK d_Ru_bind_141 h
      · refine r_aload_n hK d_Ru_bind_100 rfl 2 rfl ?_
        refine r_aload_n hK d_Ru_bind_101 rfl 0 rfl ?_
        refine r_gI hK fd_Pa_9 w3_122 d_Ru_bind_102 h (fun i19 h => ?_)
        refine r_ifeq (tgt := 118) hK d_Ru_bind_105 (by decide) h (fun h => ?_) (fun h => ?_)
        · refine r_iconst (v := 0) hK d_Ru_bind_118 (by decide) ?_
          exact r_sub [2, 0] rfl (t_Ru_bind_119 hK hN hD _ _ _ _ _ h)
        · refine r_aload_n hK d_Ru_bind_108 rfl 2 rfl ?_
          refine r_gR hK fd_So_8 w4_224 d_Ru_bind_109 h (fun p20 h => ?_)
          refine r_gI hK fd_Rl_6 w1_138 d_Ru_bind_112 h (fun i21 h => ?_)
          refine r_goto (tgt := 119) hK d_Ru_bind_115 (by decide) ?_
          exact r_sub [2, 0] rfl (t_Ru_bind_119 hK hN hD _ _ _ _ _ h)
  · refine r_aload_n hK d_Ru_bind_17 rfl 1 rfl ?_
    refine r_aload_n hK d_Ru_bind_18 rfl 0 rfl ?_
    refine r_gR hK fd_Ru_8 w1_165 d_Ru_bind_19 h (fun p22 h => ?_)
    refine r_aload_n hK d_Ru_bind_22 rfl 1 rfl ?_
    refine r_gI hK fd_So_7 w4_221 d_Ru_bind_23 h (fun i23 h => ?_)
    refine r_aaload hK rfl ar_29 rfl d_Ru_bind_26 h (fun p24 h => ?_)
    refine r_pR hK pd_5 rfl (Or.inr rfl) fd_So_8 rfl w4_224 d_Ru_bind_27 h (fun s25 h => ?_)
    refine r_aload_n hK d_Ru_bind_30 rfl 1 rfl ?_
    refine r_aload_n hK d_Ru_bind_31 rfl 1 rfl ?_
    refine r_gR hK fd_So_8 w4_224 d_Ru_bind_32 h (fun p26 h => ?_)
    refine r_gI hK fd_Rl_4 w1_134 d_Ru_bind_35 h (fun i27 h => ?_)
    refine r_pI hK fd_So_10 rfl w4_226 d_Ru_bind_38 h (fun s28 h => ?_)
    exact r_return hK d_Ru_bind_41 h
theorem c_Ru_bind (l : Launch) (G : g_G) (r0 : Option Nat) (r1 : Option Nat) (u : g_St) (o : (Unit × g_St)) (h : f_Ru_bind r0 r1 u = some o) : g_Con l G y_Ru_bind b_Ru_bind 3 (Option.none : Option Jvm.ClassFile.FieldType) 1 [g_r 4 r0, g_r 9 r1] u (g_jV o) :=
  g_Con.of rfl rfl (by decide +kernel) (Nat.le_of_ble_eq_true rfl) (fun K hK hN hD hX => t_Ru_bind_0 hK hN hD _ _ _ h)
def f_Ru_compares_52 (r0 : Option Nat) (y1 : Int64) (y0s : Int64) (s0 : g_St) : Option (Int32 × g_St) :=
  if y1 = 1099511627776 then
    g_rZ 0 (some (0, s0))
  else
    if y0s = 1099511627776 then
      g_rZ 0 (some (0, s0))
    else
      g_gR s0 10 r0 fun p1 =>
      g_c (g_nn p1 (f_En_ordinal p1 s0)) fun i2 s3 =>
      g_swl (some 40) i2 fun i4 =>
      if i4 = 1 then
        if y1 = y0s then
          g_rZ 1 (some (1, s3))
        else
          g_rZ 0 (some (0, s3))
      else if i4 = 2 then
        if y1 = y0s then
          g_rZ 0 (some (0, s3))
        else
          g_rZ 1 (some (1, s3))
      else if i4 = 3 then
        if y0s ≤ y1 then
          g_rZ 0 (some (0, s3))
        else
          g_rZ 1 (some (1, s3))
      else if i4 = 4 then
        if y1 ≤ y0s then
          g_rZ 0 (some (0, s3))
        else
          g_rZ 1 (some (1, s3))
      else 
        g_rZ 0 (some (0, s3))
def f_Ru_compares (r0 : Option Nat) (s0 : g_St) : Option (Int32 × g_St) :=
  g_gR s0 74 r0 fun p1 =>
  g_c (g_nn p1 (f_Te_value p1 s0)) fun j2 s3 =>
  g_gR s3 10 r0 fun p4 =>
  if p4 = (some 589) then
    if j2 = 1099511627776 then
      g_rZ 1 (some (1, s3))
    else
      g_rZ 0 (some (0, s3))
  else
    g_gR s3 138 r0 fun p5 =>
    if p5 = none then
      f_Ru_compares_52 r0 j2 1099511627776 s3
    else
      g_gR s3 138 r0 fun p6 =>
      g_c (g_nn p6 (f_Te_value p6 s3)) fun j7 s8 =>
      f_Ru_compares_52 r0 j2 j7 s8
set_option maxHeartbeats 4000000 in
set_option maxRecDepth 100000 in
theorem t_Ru_compares_52 {K : g_C} {o : (Int32 × g_St)} (hK : g_OK K b_Ru_compares "FixpointEngine$Runner" "compares" (Option.some Jvm.ClassFile.FieldType.boolean)) (hN : g_nL K = 5) (hD : g_Kd K = 2) : ∀ (r0 : Option Nat) (y1 : Int64) (y0s : Int64) (s0 : g_St), f_Ru_compares_52 r0 y1 y0s s0 = some o → g_W K s0 [(0, g_r 10 r0), (1, g_l y1)] [g_l y0s] 52 (g_jI o) := by
  intro r0 y1 y0s s0 h
  unfold f_Ru_compares_52 at h
  refine r_lstore_n (ls1 := [(3, g_l y0s), (0, g_r 10 r0), (1, g_l y1)]) hK d_Ru_compares_52 rfl (by rw [hN]; decide) rfl ?_
  refine r_lload_n hK d_Ru_compares_53 rfl 2 rfl ?_
  refine r_ldc2 hK w6_78 d_Ru_compares_54 ?_
  refine r_lifeq (tgt := 69) hK d_Ru_compares_57 d_Ru_compares_58 (by decide) h (fun h => ?_) (fun h => ?_)
  · refine r_iconst (v := 0) hK d_Ru_compares_69 (by decide) ?_
    exact r_zreturn hK d_Ru_compares_70 h
  · refine r_lload_n hK d_Ru_compares_61 rfl 0 rfl ?_
    refine r_ldc2 hK w6_78 d_Ru_compares_62 ?_
    refine r_lifne (tgt := 71) hK d_Ru_compares_65 d_Ru_compares_66 (by decide) h (fun h => ?_) (fun h => ?_)
    · refine r_gsR hK (st_other 0 rfl) (by decide) rfl w6_79 d_Ru_compares_71 ?_
      refine r_aload_n hK d_Ru_compares_74 rfl 1 rfl ?_
      refine r_gR hK fd_Co_0 w5_33 d_Ru_compares_75 h (fun p1 h => ?_)
      refine r_VOi hK w6_85 w6_84 w6_82 w6_83 rfl w6_81 w6_86 w1_12 (by decide) pl_Kord (by rw [hD]; decide) (Nat.le_of_ble_eq_true rfl) d_Ru_compares_78 (fun o9 h9 => c_En_ordinal _ _ _ _ o9 h9) h (fun i2 s3 h => ?_)
      refine r_swl hK d_Ru_compares_81 h (fun i4 h => ?_)
      by_cases q0 : i4 = (1 : Int32)
      · rw [if_pos q0] at h
        refine r_tswIn (tgt := 112) (off := 30) hK 1 q0 d_Ru_compares_82 (by decide) (by decide) (by decide) (by decide) ?_
        refine r_lload_n hK d_Ru_compares_112 rfl 2 rfl ?_
        refine r_lload_n hK d_Ru_compares_113 rfl 0 rfl ?_
        refine r_lifne (tgt := 122) hK d_Ru_compares_114 d_Ru_compares_115 (by decide) h (fun h => ?_) (fun h => ?_)
        · refine r_iconst (v := 0) hK d_Ru_compares_122 (by decide) ?_
          exact r_zreturn hK d_Ru_compares_123 h
        · refine r_iconst (v := 1) hK d_Ru_compares_118 (by decide) ?_
          refine r_goto (tgt := 123) hK d_Ru_compares_119 (by decide) ?_
          exact r_zreturn hK d_Ru_compares_123 h
      rw [if_neg q0] at h
      by_cases q1 : i4 = (2 : Int32)
      · rw [if_pos q1] at h
        refine r_tswIn (tgt := 124) (off := 42) hK 2 q1 d_Ru_compares_82 (by decide) (by decide) (by decide) (by decide) ?_
        refine r_lload_n hK d_Ru_compares_124 rfl 2 rfl ?_
        refine r_lload_n hK d_Ru_compares_125 rfl 0 rfl ?_
        refine r_lifeq (tgt := 134) hK d_Ru_compares_126 d_Ru_compares_127 (by decide) h (fun h => ?_) (fun h => ?_)
        · refine r_iconst (v := 0) hK d_Ru_compares_134 (by decide) ?_
          exact r_zreturn hK d_Ru_compares_135 h
        · refine r_iconst (v := 1) hK d_Ru_compares_130 (by decide) ?_
          refine r_goto (tgt := 135) hK d_Ru_compares_131 (by decide) ?_
          exact r_zreturn hK d_Ru_compares_135 h
      rw [if_neg q1] at h
      by_cases q2 : i4 = (3 : Int32)
      · rw [if_pos q2] at h
        refine r_tswIn (tgt := 136) (off := 54) hK 3 q2 d_Ru_compares_82 (by decide) (by decide) (by decide) (by decide) ?_
        refine r_lload_n hK d_Ru_compares_136 rfl 2 rfl ?_
        refine r_lload_n hK d_Ru_compares_137 rfl 0 rfl ?_
        refine r_lifge (tgt := 146) hK d_Ru_compares_138 d_Ru_compares_139 (by decide) h (fun h => ?_) (fun h => ?_)
        · refine r_iconst (v := 0) hK d_Ru_compares_146 (by decide) ?_
          exact r_zreturn hK d_Ru_compares_147 h
        · refine r_iconst (v := 1) hK d_Ru_compares_142 (by decide) ?_
          refine r_goto (tgt := 147) hK d_Ru_compares_143 (by decide) ?_
          exact r_zreturn hK d_Ru_compares_147 h
      rw [if_neg q2] at h
      by_cases q3 : i4 = (4 : Int32)
      · rw [if_pos q3] at h
        refine r_tswIn (tgt := 148) (off := 66) hK 4 q3 d_Ru_compares_82 (by decide) (by decide) (by decide) (by decide) ?_
        refine r_lload_n hK d_Ru_compares_148 rfl 2 rfl ?_
        refine r_lload_n hK d_Ru_compares_149 rfl 0 rfl ?_
        refine r_lifle (tgt := 158) hK d_Ru_compares_150 d_Ru_compares_151 (by decide) h (fun h => ?_) (fun h => ?_)
        · refine r_iconst (v := 0) hK d_Ru_compares_158 (by decide) ?_
          exact r_zreturn hK d_Ru_compares_159 h
        · refine r_iconst (v := 1) hK d_Ru_compares_154 (by decide) ?_
          refine r_goto (tgt := 159) hK d_Ru_compares_155 (by decide) ?_
          exact r_zreturn hK d_Ru_compares_159 h
      rw [if_neg q3] at h
      refine r_tswOut (tgt := 160) hK d_Ru_compares_82 (by have z0 := lv_neT (a := 1) q0 (by decide); have z1 := lv_neT (a := 2) q1 (by decide); have z2 := lv_neT (a := 3) q2 (by decide); have z3 := lv_neT (a := 4) q3 (by decide); omega) (by decide) ?_
      refine r_iconst (v := 0) hK d_Ru_compares_160 (by decide) ?_
      exact r_zreturn hK d_Ru_compares_161 h
    · refine r_iconst (v := 0) hK d_Ru_compares_69 (by decide) ?_
      exact r_zreturn hK d_Ru_compares_70 h
set_option maxHeartbeats 4000000 in
set_option maxRecDepth 100000 in
theorem t_Ru_compares_0 {K : g_C} {o : (Int32 × g_St)} (hK : g_OK K b_Ru_compares "FixpointEngine$Runner" "compares" (Option.some Jvm.ClassFile.FieldType.boolean)) (hN : g_nL K = 5) (hD : g_Kd K = 2) : ∀ (r0 : Option Nat) (s0 : g_St), f_Ru_compares r0 s0 = some o → g_W K s0 [(0, g_r 10 r0)] [] 0 (g_jI o) := by
  intro r0 s0 h
  unfold f_Ru_compares at h
  refine r_aload_n hK d_Ru_compares_0 rfl 0 rfl ?_
  refine r_gR hK fd_Co_1 w5_35 d_Ru_compares_1 h (fun p1 h => ?_)
  refine r_Vl (avL := []) (st := []) hK ob_Te rfl w6_73 w6_74 w6_72 w6_75 w1_24 (by decide) pl_Te_value (by rw [hD]; decide) (Nat.le_of_ble_eq_true rfl) rfl d_Ru_compares_4 (fun o9 h9 => c_Te_value _ _ _ _ o9 h9) h (fun j2 s3 h => ?_)
  refine r_lstore_n (ls1 := [(1, g_l j2), (0, g_r 10 r0)]) hK d_Ru_compares_7 rfl (by rw [hN]; decide) rfl ?_
  refine r_aload_n hK d_Ru_compares_8 rfl 1 rfl ?_
  refine r_gR hK fd_Co_0 w5_33 d_Ru_compares_9 h (fun p4 h => ?_)
  refine r_gsR hK (st_kind 9 (by decide)) (by decide) rfl w6_77 d_Ru_compares_12 ?_
  refine r_if_acmpne (tgt := 32) hK (by decide) (by decide) d_Ru_compares_15 (by decide) h (fun h => ?_) (fun h => ?_)
  · refine r_aload_n hK d_Ru_compares_32 rfl 1 rfl ?_
    refine r_gR hK fd_Co_2 w5_37 d_Ru_compares_33 h (fun p5 h => ?_)
    refine r_ifnonnull (tgt := 45) hK d_Ru_compares_36 (by decide) h (fun h => ?_) (fun h => ?_)
    · refine r_aload_n hK d_Ru_compares_45 rfl 1 rfl ?_
      refine r_gR hK fd_Co_2 w5_37 d_Ru_compares_46 h (fun p6 h => ?_)
      refine r_Vl (avL := []) (st := []) hK ob_Te rfl w6_73 w6_74 w6_72 w6_75 w1_24 (by decide) pl_Te_value (by rw [hD]; decide) (Nat.le_of_ble_eq_true rfl) rfl d_Ru_compares_49 (fun o9 h9 => c_Te_value _ _ _ _ o9 h9) h (fun j7 s8 h => ?_)
      exact r_sub [1, 0] rfl (t_Ru_compares_52 hK hN hD _ _ _ _ h)
    · refine r_ldc2 hK w6_78 d_Ru_compares_39 ?_
      refine r_goto (tgt := 52) hK d_Ru_compares_42 (by decide) ?_
      exact r_sub [1, 0] rfl (t_Ru_compares_52 hK hN hD _ _ _ _ h)
  · refine r_lload_n hK d_Ru_compares_18 rfl 0 rfl ?_
    refine r_ldc2 hK w6_78 d_Ru_compares_19 ?_
    refine r_lifne (tgt := 30) hK d_Ru_compares_22 d_Ru_compares_23 (by decide) h (fun h => ?_) (fun h => ?_)
    · refine r_iconst (v := 0) hK d_Ru_compares_30 (by decide) ?_
      exact r_zreturn hK d_Ru_compares_31 h
    · refine r_iconst (v := 1) hK d_Ru_compares_26 (by decide) ?_
      refine r_goto (tgt := 31) hK d_Ru_compares_27 (by decide) ?_
      exact r_zreturn hK d_Ru_compares_31 h
theorem c_Ru_compares (l : Launch) (G : g_G) (r0 : Option Nat) (u : g_St) (o : (Int32 × g_St)) (h : f_Ru_compares r0 u = some o) : g_Con l G y_Ru_compares b_Ru_compares 5 (Option.some Jvm.ClassFile.FieldType.boolean) 2 [g_r 10 r0] u (g_jI o) :=
  g_Con.of rfl rfl (by decide +kernel) (Nat.le_of_ble_eq_true rfl) (fun K hK hN hD hX => t_Ru_compares_0 hK hN hD _ _ h)
def f_Ru_exists_58 (k10 : Option Nat → Option Nat → Int32 → g_St → Option (Int32 × g_St)) (r0 : Option Nat) (r1 : Option Nat) (x2 : Int32) (x3 : Int32) (s0 : g_St) : Option (Int32 × g_St) :=
  if x3 = 0 then
    k10 r0 r1 (x2 + 1) s0
  else
    g_rZ 1 (some (1, s0))
def f_Ru_exists_28 (k10 : Option Nat → Option Nat → Int32 → g_St → Option (Int32 × g_St)) : Nat → Option Nat → Option Nat → Int32 → Int32 → Int32 → g_St → Option (Int32 × g_St)
  | 0, _, _, _, _, _, _ => none
  | n + 1, r0, r1, x2, x3, x4, s0 =>
    g_gI s0 330 r0 fun i1 =>
    if i1 ≤ x4 then
      f_Ru_exists_58 k10 r0 r1 x2 x3 s0
    else
      if x3 = 0 then
        f_Ru_exists_58 k10 r0 r1 x2 x3 s0
      else
        g_gR s0 266 r0 fun p2 =>
        g_aR s0 p2 x4 fun p3 =>
        g_c (f_Ru_compares p3 s0) fun i4 s5 =>
        f_Ru_exists_28 k10 n r0 r1 x2 i4 (x4 + 1) s5
def f_Ru_exists_10 : Nat → Option Nat → Option Nat → Int32 → g_St → Option (Int32 × g_St)
  | 0, _, _, _, _ => none
  | n + 1, r0, r1, x2, s0 =>
    g_gI s0 649 r1 fun i1 =>
    if i1 ≤ x2 then
      g_rZ 0 (some (0, s0))
    else
      g_pI s0 713 r1 x2 fun s2 =>
      f_Ru_exists_28 (f_Ru_exists_10 n) 200000 r0 r1 x2 1 0 s2
def f_Ru_exists (r0 : Option Nat) (s0 : g_St) : Option (Int32 × g_St) :=
  g_gR s0 202 r0 fun p1 =>
  g_gI s0 585 p1 fun i2 =>
  f_Ru_exists_10 200000 r0 p1 i2 s0
set_option maxHeartbeats 4000000 in
set_option maxRecDepth 100000 in
theorem t_Ru_exists_58 {K : g_C} {o : (Int32 × g_St)} (hK : g_OK K b_Ru_exists "FixpointEngine$Runner" "exists" (Option.some Jvm.ClassFile.FieldType.boolean)) (hN : g_nL K = 5) (hD : g_Kd K = 3) {k10 : Option Nat → Option Nat → Int32 → g_St → Option (Int32 × g_St)} (hk10 : ∀ (r0 : Option Nat) (r1 : Option Nat) (x2 : Int32) (s0 : g_St), k10 r0 r1 x2 s0 = some o → g_W K s0 [(0, g_r 10 r0), (1, g_r 9 r1), (2, g_i x2)] [] 10 (g_jI o)) : ∀ (r0 : Option Nat) (r1 : Option Nat) (x2 : Int32) (x3 : Int32) (s0 : g_St), f_Ru_exists_58 k10 r0 r1 x2 x3 s0 = some o → g_W K s0 [(0, g_r 10 r0), (1, g_r 9 r1), (2, g_i x2), (3, g_i x3)] [] 58 (g_jI o) := by
  intro r0 r1 x2 x3 s0 h
  unfold f_Ru_exists_58 at h
  refine r_iload_n hK d_Ru_exists_58 rfl 3 rfl ?_
  refine r_ifeq (tgt := 64) hK d_Ru_exists_59 (by decide) h (fun h => ?_) (fun h => ?_)
  · refine r_iinc (ls1 := [(2, g_i (x2 + 1)), (0, g_r 10 r0), (1, g_r 9 r1), (3, g_i x3)]) hK d_Ru_exists_64 2 rfl rfl (by rw [hN]; decide) rfl ?_
    refine r_goto (tgt := 10) hK d_Ru_exists_67 (by decide) ?_
    exact r_sub [1, 2, 0] rfl (hk10 _ _ _ _ h)
  · refine r_iconst (v := 1) hK d_Ru_exists_62 (by decide) ?_
    exact r_zreturn hK d_Ru_exists_63 h
set_option maxHeartbeats 4000000 in
set_option maxRecDepth 100000 in
theorem t_Ru_exists_28 {K : g_C} {o : (Int32 × g_St)} (hK : g_OK K b_Ru_exists "FixpointEngine$Runner" "exists" (Option.some Jvm.ClassFile.FieldType.boolean)) (hN : g_nL K = 5) (hD : g_Kd K = 3) {k10 : Option Nat → Option Nat → Int32 → g_St → Option (Int32 × g_St)} (hk10 : ∀ (r0 : Option Nat) (r1 : Option Nat) (x2 : Int32) (s0 : g_St), k10 r0 r1 x2 s0 = some o → g_W K s0 [(0, g_r 10 r0), (1, g_r 9 r1), (2, g_i x2)] [] 10 (g_jI o)) : ∀ (n : Nat) (r0 : Option Nat) (r1 : Option Nat) (x2 : Int32) (x3 : Int32) (x4 : Int32) (s0 : g_St), f_Ru_exists_28 k10 n r0 r1 x2 x3 x4 s0 = some o → g_W K s0 [(0, g_r 10 r0), (1, g_r 9 r1), (2, g_i x2), (3, g_i x3), (4, g_i x4)] [] 28 (g_jI o) := by
  intro n
  induction n with
  | zero =>
    intro r0 r1 x2 x3 x4 s0 h
    cases h
  | succ n ih =>
    intro r0 r1 x2 x3 x4 s0 h
    unfold f_Ru_exists_28 at h
    refine r_iload hK d_Ru_exists_28 4 rfl ?_
    refine r_aload_n hK d_Ru_exists_30 rfl 0 rfl ?_
    refine r_gI hK fd_Co_5 w5_45 d_Ru_exists_31 h (fun i1 h => ?_)
    refine r_if_icmpge (tgt := 58) hK d_Ru_exists_34 (by decide) h (fun h => ?_) (fun h => ?_)
    · exact r_sub [0, 1, 2, 3] rfl (t_Ru_exists_58 hK hN hD hk10 _ _ _ _ _ h)
    · refine r_iload_n hK d_Ru_exists_37 rfl 3 rfl ?_
      refine r_ifeq (tgt := 58) hK d_Ru_exists_38 (by decide) h (fun h => ?_) (fun h => ?_)
      · exact r_sub [0, 1, 2, 3] rfl (t_Ru_exists_58 hK hN hD hk10 _ _ _ _ _ h)
      · refine r_aload_n hK d_Ru_exists_41 rfl 0 rfl ?_
        refine r_gR hK fd_Co_4 w5_43 d_Ru_exists_42 h (fun p2 h => ?_)
        refine r_iload hK d_Ru_exists_45 4 rfl ?_
        refine r_aaload hK rfl ar_28 rfl d_Ru_exists_47 h (fun p3 h => ?_)
        refine r_Si (avL := [g_r 10 p3]) (st := []) hK w6_70 w6_69 w6_71 w1_4 (by decide) pl_Ru_compares (by rw [hD]; decide) (Nat.le_of_ble_eq_true rfl) rfl d_Ru_exists_48 (fun o9 h9 => c_Ru_compares _ _ _ _ o9 h9) h (fun i4 s5 h => ?_)
        refine r_istore_n (ls1 := [(3, g_i i4), (0, g_r 10 r0), (1, g_r 9 r1), (2, g_i x2), (4, g_i x4)]) hK d_Ru_exists_51 rfl (by rw [hN]; decide) rfl ?_
        refine r_iinc (ls1 := [(4, g_i (x4 + 1)), (3, g_i i4), (0, g_r 10 r0), (1, g_r 9 r1), (2, g_i x2)]) hK d_Ru_exists_52 4 rfl rfl (by rw [hN]; decide) rfl ?_
        refine r_goto (tgt := 28) hK d_Ru_exists_55 (by decide) ?_
        exact r_sub [2, 3, 4, 1, 0] rfl (ih _ _ _ _ _ _ h)
set_option maxHeartbeats 4000000 in
set_option maxRecDepth 100000 in
theorem t_Ru_exists_10 {K : g_C} {o : (Int32 × g_St)} (hK : g_OK K b_Ru_exists "FixpointEngine$Runner" "exists" (Option.some Jvm.ClassFile.FieldType.boolean)) (hN : g_nL K = 5) (hD : g_Kd K = 3) : ∀ (n : Nat) (r0 : Option Nat) (r1 : Option Nat) (x2 : Int32) (s0 : g_St), f_Ru_exists_10 n r0 r1 x2 s0 = some o → g_W K s0 [(0, g_r 10 r0), (1, g_r 9 r1), (2, g_i x2)] [] 10 (g_jI o) := by
  intro n
  induction n with
  | zero =>
    intro r0 r1 x2 s0 h
    cases h
  | succ n ih =>
    intro r0 r1 x2 s0 h
    unfold f_Ru_exists_10 at h
    refine r_iload_n hK d_Ru_exists_10 rfl 2 rfl ?_
    refine r_aload_n hK d_Ru_exists_11 rfl 1 rfl ?_
    refine r_gI hK fd_So_10 w4_226 d_Ru_exists_12 h (fun i1 h => ?_)
    refine r_if_icmpge (tgt := 70) hK d_Ru_exists_15 (by decide) h (fun h => ?_) (fun h => ?_)
    · refine r_iconst (v := 0) hK d_Ru_exists_70 (by decide) ?_
      exact r_zreturn hK d_Ru_exists_71 h
    · refine r_aload_n hK d_Ru_exists_18 rfl 1 rfl ?_
      refine r_iload_n hK d_Ru_exists_19 rfl 2 rfl ?_
      refine r_pI hK fd_So_11 rfl w4_228 d_Ru_exists_20 h (fun s2 h => ?_)
      refine r_iconst (v := 1) hK d_Ru_exists_23 (by decide) ?_
      refine r_istore_n (ls1 := [(3, g_i 1), (0, g_r 10 r0), (1, g_r 9 r1), (2, g_i x2)]) hK d_Ru_exists_24 rfl (by rw [hN]; decide) rfl ?_
      refine r_iconst (v := 0) hK d_Ru_exists_25 (by decide) ?_
      refine r_istore (ls1 := [(4, g_i 0), (3, g_i 1), (0, g_r 10 r0), (1, g_r 9 r1), (2, g_i x2)]) hK d_Ru_exists_26 (by rw [hN]; decide) rfl ?_
      exact r_sub [2, 3, 4, 1, 0] rfl (t_Ru_exists_28 hK hN hD ih _ _ _ _ _ _ _ h)
set_option maxHeartbeats 4000000 in
set_option maxRecDepth 100000 in
theorem t_Ru_exists_0 {K : g_C} {o : (Int32 × g_St)} (hK : g_OK K b_Ru_exists "FixpointEngine$Runner" "exists" (Option.some Jvm.ClassFile.FieldType.boolean)) (hN : g_nL K = 5) (hD : g_Kd K = 3) : ∀ (r0 : Option Nat) (s0 : g_St), f_Ru_exists r0 s0 = some o → g_W K s0 [(0, g_r 10 r0)] [] 0 (g_jI o) := by
  intro r0 s0 h
  unfold f_Ru_exists at h
  refine r_aload_n hK d_Ru_exists_0 rfl 0 rfl ?_
  refine r_gR hK fd_Co_3 w5_39 d_Ru_exists_1 h (fun p1 h => ?_)
  refine r_astore_n (ls1 := [(1, g_r 9 p1), (0, g_r 10 r0)]) hK d_Ru_exists_4 rfl (by rw [hN]; decide) rfl ?_
  refine r_aload_n hK d_Ru_exists_5 rfl 0 rfl ?_
  refine r_gI hK fd_So_9 w4_225 d_Ru_exists_6 h (fun i2 h => ?_)
  refine r_istore_n (ls1 := [(2, g_i i2), (1, g_r 9 p1), (0, g_r 10 r0)]) hK d_Ru_exists_9 rfl (by rw [hN]; decide) rfl ?_
  exact r_sub [2, 1, 0] rfl (t_Ru_exists_10 hK hN hD _ _ _ _ _ h)
theorem c_Ru_exists (l : Launch) (G : g_G) (r0 : Option Nat) (u : g_St) (o : (Int32 × g_St)) (h : f_Ru_exists r0 u = some o) : g_Con l G y_Ru_exists b_Ru_exists 5 (Option.some Jvm.ClassFile.FieldType.boolean) 3 [g_r 10 r0] u (g_jI o) :=
  g_Con.of rfl rfl (by decide +kernel) (Nat.le_of_ble_eq_true rfl) (fun K hK hN hD hX => t_Ru_exists_0 hK hN hD _ _ h)
def f_Ru_holds (r0 : Option Nat) (s0 : g_St) : Option (Int32 × g_St) :=
  g_gR s0 202 r0 fun p1 =>
  if p1 = none then
    g_c (f_Ru_compares r0 s0) fun i4 s5 =>
    g_rZ i4 (some (i4, s5))
  else
    g_c (f_Ru_exists r0 s0) fun i2 s3 =>
    if i2 = 0 then
      g_rZ 1 (some (1, s3))
    else
      g_rZ 0 (some (0, s3))
set_option maxHeartbeats 4000000 in
set_option maxRecDepth 100000 in
theorem t_Ru_holds_0 {K : g_C} {o : (Int32 × g_St)} (hK : g_OK K b_Ru_holds "FixpointEngine$Runner" "holds" (Option.some Jvm.ClassFile.FieldType.boolean)) (hN : g_nL K = 1) (hD : g_Kd K = 4) : ∀ (r0 : Option Nat) (s0 : g_St), f_Ru_holds r0 s0 = some o → g_W K s0 [(0, g_r 10 r0)] [] 0 (g_jI o) := by
  intro r0 s0 h
  unfold f_Ru_holds at h
  refine r_aload_n hK d_Ru_holds_0 rfl 0 rfl ?_
  refine r_gR hK fd_Co_3 w5_39 d_Ru_holds_1 h (fun p1 h => ?_)
  refine r_ifnonnull (tgt := 14) hK d_Ru_holds_4 (by decide) h (fun h => ?_) (fun h => ?_)
  · refine r_aload_n hK d_Ru_holds_14 rfl 0 rfl ?_
    refine r_Si (avL := [g_r 10 r0]) (st := []) hK w6_88 w6_87 w6_89 w1_4 (by decide) pl_Ru_exists (by rw [hD]; decide) (Nat.le_of_ble_eq_true rfl) rfl d_Ru_holds_15 (fun o9 h9 => c_Ru_exists _ _ _ _ o9 h9) h (fun i2 s3 h => ?_)
    refine r_ifne (tgt := 25) hK d_Ru_holds_18 (by decide) h (fun h => ?_) (fun h => ?_)
    · refine r_iconst (v := 0) hK d_Ru_holds_25 (by decide) ?_
      exact r_zreturn hK d_Ru_holds_26 h
    · refine r_iconst (v := 1) hK d_Ru_holds_21 (by decide) ?_
      refine r_goto (tgt := 26) hK d_Ru_holds_22 (by decide) ?_
      exact r_zreturn hK d_Ru_holds_26 h
  · refine r_aload_n hK d_Ru_holds_7 rfl 0 rfl ?_
    refine r_Si (avL := [g_r 10 r0]) (st := []) hK w6_70 w6_69 w6_71 w1_4 (by decide) pl_Ru_compares (by rw [hD]; decide) (Nat.le_of_ble_eq_true rfl) rfl d_Ru_holds_8 (fun o9 h9 => c_Ru_compares _ _ _ _ o9 h9) h (fun i4 s5 h => ?_)
    refine r_goto (tgt := 26) hK d_Ru_holds_11 (by decide) ?_
    exact r_zreturn hK d_Ru_holds_26 h
theorem c_Ru_holds (l : Launch) (G : g_G) (r0 : Option Nat) (u : g_St) (o : (Int32 × g_St)) (h : f_Ru_holds r0 u = some o) : g_Con l G y_Ru_holds b_Ru_holds 1 (Option.some Jvm.ClassFile.FieldType.boolean) 4 [g_r 10 r0] u (g_jI o) :=
  g_Con.of rfl rfl (by decide +kernel) (Nat.le_of_ble_eq_true rfl) (fun K hK hN hD hX => t_Ru_holds_0 hK hN hD _ _ h)
def f_Ru_isOutOfRange (y0 : Int64) (s0 : g_St) : Option (Int32 × g_St) :=
  if y0 = 1099511627776 then
    g_rZ 0 (some (0, s0))
  else
    if y0 < (-2147483648) then
      g_rZ 1 (some (1, s0))
    else
      if y0 ≤ 2147483647 then
        g_rZ 0 (some (0, s0))
      else
        g_rZ 1 (some (1, s0))
set_option maxHeartbeats 4000000 in
set_option maxRecDepth 100000 in
theorem t_Ru_isOutOfRange_0 {K : g_C} {o : (Int32 × g_St)} (hK : g_OK K b_Ru_isOutOfRange "FixpointEngine$Runner" "isOutOfRange" (Option.some Jvm.ClassFile.FieldType.boolean)) (hN : g_nL K = 2) (hD : g_Kd K = 1) : ∀ (y0 : Int64) (s0 : g_St), f_Ru_isOutOfRange y0 s0 = some o → g_W K s0 [(0, g_l y0)] [] 0 (g_jI o) := by
  intro y0 s0 h
  unfold f_Ru_isOutOfRange at h
  refine r_lload_n hK d_Ru_isOutOfRange_0 rfl 0 rfl ?_
  refine r_ldc2 hK w6_78 d_Ru_isOutOfRange_1 ?_
  refine r_lifeq (tgt := 28) hK d_Ru_isOutOfRange_4 d_Ru_isOutOfRange_5 (by decide) h (fun h => ?_) (fun h => ?_)
  · refine r_iconst (v := 0) hK d_Ru_isOutOfRange_28 (by decide) ?_
    exact r_zreturn hK d_Ru_isOutOfRange_29 h
  · refine r_lload_n hK d_Ru_isOutOfRange_8 rfl 0 rfl ?_
    refine r_ldc2 hK w6_97 d_Ru_isOutOfRange_9 ?_
    refine r_liflt (tgt := 24) hK d_Ru_isOutOfRange_12 d_Ru_isOutOfRange_13 (by decide) h (fun h => ?_) (fun h => ?_)
    · refine r_iconst (v := 1) hK d_Ru_isOutOfRange_24 (by decide) ?_
      refine r_goto (tgt := 29) hK d_Ru_isOutOfRange_25 (by decide) ?_
      exact r_zreturn hK d_Ru_isOutOfRange_29 h
    · refine r_lload_n hK d_Ru_isOutOfRange_16 rfl 0 rfl ?_
      refine r_ldc2 hK w6_98 d_Ru_isOutOfRange_17 ?_
      refine r_lifle (tgt := 28) hK d_Ru_isOutOfRange_20 d_Ru_isOutOfRange_21 (by decide) h (fun h => ?_) (fun h => ?_)
      · refine r_iconst (v := 0) hK d_Ru_isOutOfRange_28 (by decide) ?_
        exact r_zreturn hK d_Ru_isOutOfRange_29 h
      · refine r_iconst (v := 1) hK d_Ru_isOutOfRange_24 (by decide) ?_
        refine r_goto (tgt := 29) hK d_Ru_isOutOfRange_25 (by decide) ?_
        exact r_zreturn hK d_Ru_isOutOfRange_29 h
theorem c_Ru_isOutOfRange (l : Launch) (G : g_G) (y0 : Int64) (u : g_St) (o : (Int32 × g_St)) (h : f_Ru_isOutOfRange y0 u = some o) : g_Con l G y_Ru_isOutOfRange b_Ru_isOutOfRange 2 (Option.some Jvm.ClassFile.FieldType.boolean) 1 [g_l y0] u (g_jI o) :=
  g_Con.of rfl rfl (by decide +kernel) (Nat.le_of_ble_eq_true rfl) (fun K hK hN hD hX => t_Ru_isOutOfRange_0 hK hN hD _ _ h)
def f_Ru_findGroup_73 (k2 : Option Nat → Int32 → g_St → Option (Int32 × g_St)) (r0 : Option Nat) (x1 : Int32) (x2 : Int32) (s0 : g_St) : Option (Int32 × g_St) :=
  if x2 = 0 then
    k2 r0 (x1 + 1) s0
  else
    some (x1, s0)
def f_Ru_findGroup_14 (k2 : Option Nat → Int32 → g_St → Option (Int32 × g_St)) : Nat → Option Nat → Int32 → Int32 → Int32 → g_St → Option (Int32 × g_St)
  | 0, _, _, _, _, _ => none
  | n + 1, r0, x1, x2, x3, s0 =>
    g_gR s0 772 r0 fun p1 =>
    g_gI s0 264 p1 fun i2 =>
    if i2 ≤ x3 then
      f_Ru_findGroup_73 k2 r0 x1 x2 s0
    else
      if x2 = 0 then
        f_Ru_findGroup_73 k2 r0 x1 x2 s0
      else
        g_gR s0 772 r0 fun p3 =>
        g_gR s0 200 p3 fun p4 =>
        g_aR s0 p4 x3 fun p5 =>
        if p5 = none then
          g_gR s0 324 r0 fun p6 =>
          g_aL s0 p6 ((x1 * 4) + x3) fun j7 =>
          g_gR s0 260 r0 fun p8 =>
          g_aL s0 p8 x3 fun j9 =>
          if j7 = j9 then
            f_Ru_findGroup_14 k2 n r0 x1 1 (x3 + 1) s0
          else
            f_Ru_findGroup_14 k2 n r0 x1 0 (x3 + 1) s0
        else
          f_Ru_findGroup_14 k2 n r0 x1 1 (x3 + 1) s0
def f_Ru_findGroup_2 : Nat → Option Nat → Int32 → g_St → Option (Int32 × g_St)
  | 0, _, _, _ => none
  | n + 1, r0, x1, s0 =>
    g_gI s0 964 r0 fun i1 =>
    if i1 ≤ x1 then
      g_gI s0 964 r0 fun i2 =>
      g_gI s0 644 r0 fun i3 =>
      if i2 < i3 then
        g_c (g_nn r0 (f_Ru_addGroup r0 s0)) fun _ s5 =>
        g_gI s5 964 r0 fun i6 =>
        some (i6 - 1, s5)
      else
        g_pZ s0 1028 r0 1 fun s7 =>
        some ((-1), s7)
    else
      f_Ru_findGroup_14 (f_Ru_findGroup_2 n) 200000 r0 x1 1 0 s0
def f_Ru_findGroup (r0 : Option Nat) (s0 : g_St) : Option (Int32 × g_St) :=
  f_Ru_findGroup_2 200000 r0 0 s0
set_option maxHeartbeats 4000000 in
set_option maxRecDepth 100000 in
theorem t_Ru_findGroup_73 {K : g_C} {o : (Int32 × g_St)} (hK : g_OK K b_Ru_findGroup "FixpointEngine$Runner" "findGroup" (Option.some Jvm.ClassFile.FieldType.int)) (hN : g_nL K = 4) (hD : g_Kd K = 2) {k2 : Option Nat → Int32 → g_St → Option (Int32 × g_St)} (hk2 : ∀ (r0 : Option Nat) (x1 : Int32) (s0 : g_St), k2 r0 x1 s0 = some o → g_W K s0 [(0, g_r 4 r0), (1, g_i x1)] [] 2 (g_jI o)) : ∀ (r0 : Option Nat) (x1 : Int32) (x2 : Int32) (s0 : g_St), f_Ru_findGroup_73 k2 r0 x1 x2 s0 = some o → g_W K s0 [(0, g_r 4 r0), (1, g_i x1), (2, g_i x2)] [] 73 (g_jI o) := by
  intro r0 x1 x2 s0 h
  unfold f_Ru_findGroup_73 at h
  refine r_iload_n hK d_Ru_findGroup_73 rfl 2 rfl ?_
  refine r_ifeq (tgt := 79) hK d_Ru_findGroup_74 (by decide) h (fun h => ?_) (fun h => ?_)
  · refine r_iinc (ls1 := [(1, g_i (x1 + 1)), (0, g_r 4 r0), (2, g_i x2)]) hK d_Ru_findGroup_79 1 rfl rfl (by rw [hN]; decide) rfl ?_
    refine r_goto (tgt := 2) hK d_Ru_findGroup_82 (by decide) ?_
    exact r_sub [1, 0] rfl (hk2 _ _ _ h)
  · refine r_iload_n hK d_Ru_findGroup_77 rfl 1 rfl ?_
    exact r_ireturn hK d_Ru_findGroup_78 h
set_option maxHeartbeats 4000000 in
set_option maxRecDepth 100000 in
theorem t_Ru_findGroup_14 {K : g_C} {o : (Int32 × g_St)} (hK : g_OK K b_Ru_findGroup "FixpointEngine$Runner" "findGroup" (Option.some Jvm.ClassFile.FieldType.int)) (hN : g_nL K = 4) (hD : g_Kd K = 2) {k2 : Option Nat → Int32 → g_St → Option (Int32 × g_St)} (hk2 : ∀ (r0 : Option Nat) (x1 : Int32) (s0 : g_St), k2 r0 x1 s0 = some o → g_W K s0 [(0, g_r 4 r0), (1, g_i x1)] [] 2 (g_jI o)) : ∀ (n : Nat) (r0 : Option Nat) (x1 : Int32) (x2 : Int32) (x3 : Int32) (s0 : g_St), f_Ru_findGroup_14 k2 n r0 x1 x2 x3 s0 = some o → g_W K s0 [(0, g_r 4 r0), (1, g_i x1), (2, g_i x2), (3, g_i x3)] [] 14 (g_jI o) := by
  intro n
  induction n with
  | zero =>
    intro r0 x1 x2 x3 s0 h
    cases h
  | succ n ih =>
    intro r0 x1 x2 x3 s0 h
    unfold f_Ru_findGroup_14 at h
    refine r_iload_n hK d_Ru_findGroup_14 rfl 3 rfl ?_
    refine r_aload_n hK d_Ru_findGroup_15 rfl 0 rfl ?_
    refine r_gR hK fd_Ru_12 w1_169 d_Ru_findGroup_16 h (fun p1 h => ?_)
    refine r_gI hK fd_Se_4 w3_232 d_Ru_findGroup_19 h (fun i2 h => ?_)
    refine r_if_icmpge (tgt := 73) hK d_Ru_findGroup_22 (by decide) h (fun h => ?_) (fun h => ?_)
    · exact r_sub [0, 1, 2] rfl (t_Ru_findGroup_73 hK hN hD hk2 _ _ _ _ h)
    · refine r_iload_n hK d_Ru_findGroup_25 rfl 2 rfl ?_
      refine r_ifeq (tgt := 73) hK d_Ru_findGroup_26 (by decide) h (fun h => ?_) (fun h => ?_)
      · exact r_sub [0, 1, 2] rfl (t_Ru_findGroup_73 hK hN hD hk2 _ _ _ _ h)
      · refine r_aload_n hK d_Ru_findGroup_29 rfl 0 rfl ?_
        refine r_gR hK fd_Ru_12 w1_169 d_Ru_findGroup_30 h (fun p3 h => ?_)
        refine r_gR hK fd_Se_3 w3_230 d_Ru_findGroup_33 h (fun p4 h => ?_)
        refine r_iload_n hK d_Ru_findGroup_36 rfl 3 rfl ?_
        refine r_aaload hK rfl ar_23 rfl d_Ru_findGroup_37 h (fun p5 h => ?_)
        refine r_ifnonnull (tgt := 61) hK d_Ru_findGroup_38 (by decide) h (fun h => ?_) (fun h => ?_)
        · refine r_iconst (v := 1) hK d_Ru_findGroup_61 (by decide) ?_
          refine r_goto (tgt := 66) hK d_Ru_findGroup_62 (by decide) ?_
          refine r_istore_n (ls1 := [(2, g_i 1), (0, g_r 4 r0), (1, g_i x1), (3, g_i x3)]) hK d_Ru_findGroup_66 rfl (by rw [hN]; decide) rfl ?_
          refine r_iinc (ls1 := [(3, g_i (x3 + 1)), (2, g_i 1), (0, g_r 4 r0), (1, g_i x1)]) hK d_Ru_findGroup_67 3 rfl rfl (by rw [hN]; decide) rfl ?_
          refine r_goto (tgt := 14) hK d_Ru_findGroup_70 (by decide) ?_
          exact r_sub [2, 3, 1, 0] rfl (ih _ _ _ _ _ h)
        · refine r_aload_n hK d_Ru_findGroup_41 rfl 0 rfl ?_
          refine r_gR hK fd_Ru_5 w1_162 d_Ru_findGroup_42 h (fun p6 h => ?_)
          refine r_iload_n hK d_Ru_findGroup_45 rfl 1 rfl ?_
          refine r_iconst (v := 4) hK d_Ru_findGroup_46 (by decide) ?_
          refine r_imul hK d_Ru_findGroup_47 ?_
          refine r_iload_n hK d_Ru_findGroup_48 rfl 3 rfl ?_
          refine r_iadd hK d_Ru_findGroup_49 ?_
          refine r_laload hK ar_21 rfl d_Ru_findGroup_50 h (fun j7 h => ?_)
          refine r_aload_n hK d_Ru_findGroup_51 rfl 0 rfl ?_
          refine r_gR hK fd_Ru_4 w1_161 d_Ru_findGroup_52 h (fun p8 h => ?_)
          refine r_iload_n hK d_Ru_findGroup_55 rfl 3 rfl ?_
          refine r_laload hK ar_21 rfl d_Ru_findGroup_56 h (fun j9 h => ?_)
          refine r_lifne (tgt := 65) hK d_Ru_findGroup_57 d_Ru_findGroup_58 (by decide) h (fun h => ?_) (fun h => ?_)
          · refine r_iconst (v := 0) hK d_Ru_findGroup_65 (by decide) ?_
            refine r_istore_n (ls1 := [(2, g_i 0), (0, g_r 4 r0), (1, g_i x1), (3, g_i x3)]) hK d_Ru_findGroup_66 rfl (by rw [hN]; decide) rfl ?_
            refine r_iinc (ls1 := [(3, g_i (x3 + 1)), (2, g_i 0), (0, g_r 4 r0), (1, g_i x1)]) hK d_Ru_findGroup_67 3 rfl rfl (by rw [hN]; decide) rfl ?_
            refine r_goto (tgt := 14) hK d_Ru_findGroup_70 (by decide) ?_
            exact r_sub [2, 3, 1, 0] rfl (ih _ _ _ _ _ h)
          · refine r_iconst (v := 1) hK d_Ru_findGroup_61 (by decide) ?_
            refine r_goto (tgt := 66) hK d_Ru_findGroup_62 (by decide) ?_
            refine r_istore_n (ls1 := [(2, g_i 1), (0, g_r 4 r0), (1, g_i x1), (3, g_i x3)]) hK d_Ru_findGroup_66 rfl (by rw [hN]; decide) rfl ?_
            refine r_iinc (ls1 := [(3, g_i (x3 + 1)), (2, g_i 1), (0, g_r 4 r0), (1, g_i x1)]) hK d_Ru_findGroup_67 3 rfl rfl (by rw [hN]; decide) rfl ?_
            refine r_goto (tgt := 14) hK d_Ru_findGroup_70 (by decide) ?_
            exact r_sub [2, 3, 1, 0] rfl (ih _ _ _ _ _ h)
set_option maxHeartbeats 4000000 in
set_option maxRecDepth 100000 in
theorem t_Ru_findGroup_2 {K : g_C} {o : (Int32 × g_St)} (hK : g_OK K b_Ru_findGroup "FixpointEngine$Runner" "findGroup" (Option.some Jvm.ClassFile.FieldType.int)) (hN : g_nL K = 4) (hD : g_Kd K = 2) : ∀ (n : Nat) (r0 : Option Nat) (x1 : Int32) (s0 : g_St), f_Ru_findGroup_2 n r0 x1 s0 = some o → g_W K s0 [(0, g_r 4 r0), (1, g_i x1)] [] 2 (g_jI o) := by
  intro n
  induction n with
  | zero =>
    intro r0 x1 s0 h
    cases h
  | succ n ih =>
    intro r0 x1 s0 h
    unfold f_Ru_findGroup_2 at h
    refine r_iload_n hK d_Ru_findGroup_2 rfl 1 rfl ?_
    refine r_aload_n hK d_Ru_findGroup_3 rfl 0 rfl ?_
    refine r_gI hK fd_Ru_15 w1_172 d_Ru_findGroup_4 h (fun i1 h => ?_)
    refine r_if_icmpge (tgt := 85) hK d_Ru_findGroup_7 (by decide) h (fun h => ?_) (fun h => ?_)
    · refine r_aload_n hK d_Ru_findGroup_85 rfl 0 rfl ?_
      refine r_gI hK fd_Ru_15 w1_172 d_Ru_findGroup_86 h (fun i2 h => ?_)
      refine r_aload_n hK d_Ru_findGroup_89 rfl 0 rfl ?_
      refine r_gI hK fd_Ru_10 w1_167 d_Ru_findGroup_90 h (fun i3 h => ?_)
      refine r_if_icmplt (tgt := 103) hK d_Ru_findGroup_93 (by decide) h (fun h => ?_) (fun h => ?_)
      · refine r_aload_n hK d_Ru_findGroup_103 rfl 0 rfl ?_
        refine r_Vv (avL := []) (st := []) hK ob_Ru rfl w6_55 w6_56 w6_54 w6_57 w1_4 (by decide) pl_Ru_addGroup (by rw [hD]; decide) (Nat.le_of_ble_eq_true rfl) rfl d_Ru_findGroup_104 (fun o9 h9 => c_Ru_addGroup _ _ _ _ o9 h9) h (fun s5 h => ?_)
        refine r_aload_n hK d_Ru_findGroup_107 rfl 0 rfl ?_
        refine r_gI hK fd_Ru_15 w1_172 d_Ru_findGroup_108 h (fun i6 h => ?_)
        refine r_iconst (v := 1) hK d_Ru_findGroup_111 (by decide) ?_
        refine r_isub hK d_Ru_findGroup_112 ?_
        exact r_ireturn hK d_Ru_findGroup_113 h
      · refine r_aload_n hK d_Ru_findGroup_96 rfl 0 rfl ?_
        refine r_iconst (v := 1) hK d_Ru_findGroup_97 (by decide) ?_
        refine r_pZ hK fd_Ru_16 rfl w1_173 d_Ru_findGroup_98 h (fun s7 h => ?_)
        refine r_iconst (v := (-1)) hK d_Ru_findGroup_101 (by decide) ?_
        exact r_ireturn hK d_Ru_findGroup_102 h
    · refine r_iconst (v := 1) hK d_Ru_findGroup_10 (by decide) ?_
      refine r_istore_n (ls1 := [(2, g_i 1), (0, g_r 4 r0), (1, g_i x1)]) hK d_Ru_findGroup_11 rfl (by rw [hN]; decide) rfl ?_
      refine r_iconst (v := 0) hK d_Ru_findGroup_12 (by decide) ?_
      refine r_istore_n (ls1 := [(3, g_i 0), (2, g_i 1), (0, g_r 4 r0), (1, g_i x1)]) hK d_Ru_findGroup_13 rfl (by rw [hN]; decide) rfl ?_
      exact r_sub [2, 3, 1, 0] rfl (t_Ru_findGroup_14 hK hN hD ih _ _ _ _ _ _ h)
set_option maxHeartbeats 4000000 in
set_option maxRecDepth 100000 in
theorem t_Ru_findGroup_0 {K : g_C} {o : (Int32 × g_St)} (hK : g_OK K b_Ru_findGroup "FixpointEngine$Runner" "findGroup" (Option.some Jvm.ClassFile.FieldType.int)) (hN : g_nL K = 4) (hD : g_Kd K = 2) : ∀ (r0 : Option Nat) (s0 : g_St), f_Ru_findGroup r0 s0 = some o → g_W K s0 [(0, g_r 4 r0)] [] 0 (g_jI o) := by
  intro r0 s0 h
  unfold f_Ru_findGroup at h
  refine r_iconst (v := 0) hK d_Ru_findGroup_0 (by decide) ?_
  refine r_istore_n (ls1 := [(1, g_i 0), (0, g_r 4 r0)]) hK d_Ru_findGroup_1 rfl (by rw [hN]; decide) rfl ?_
  exact r_sub [1, 0] rfl (t_Ru_findGroup_2 hK hN hD _ _ _ _ h)
theorem c_Ru_findGroup (l : Launch) (G : g_G) (r0 : Option Nat) (u : g_St) (o : (Int32 × g_St)) (h : f_Ru_findGroup r0 u = some o) : g_Con l G y_Ru_findGroup b_Ru_findGroup 4 (Option.some Jvm.ClassFile.FieldType.int) 2 [g_r 4 r0] u (g_jI o) :=
  g_Con.of rfl rfl (by decide +kernel) (Nat.le_of_ble_eq_true rfl) (fun K hK hN hD hX => t_Ru_findGroup_0 hK hN hD _ _ h)
