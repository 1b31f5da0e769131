def f_Rl_init (r0 : Option Nat) (x1 : Int32) (x2 : Int32) (s0 : g_St) : Option (Unit × g_St) :=
  g_nn r0 (
  g_pI s0 5 r0 x2 fun s1 =>
  g_newA s1 21 ((x1 + 1) * 4) fun p2 s3 =>
  g_pR s3 69 r0 p2 fun s4 =>
  g_newA s4 20 (x1 + 1) fun p5 s6 =>
  g_pR s6 133 r0 p5 fun s7 =>
  g_newA s7 20 (x1 + 1) fun p8 s9 =>
  g_pR s9 197 r0 p8 fun s10 =>
  some ((), s10))
set_option maxHeartbeats 4000000 in
set_option maxRecDepth 100000 in
theorem t_Rl_init_0 {K : g_C} {o : (Unit × g_St)} (hK : g_OK K b_Rl_init "FixpointEngine$Relation" "<init>" (Option.none : Option Jvm.ClassFile.FieldType)) (hN : g_nL K = 3) (hD : g_Kd K = 2) : ∀ (r0 : Option Nat) (x1 : Int32) (x2 : Int32) (s0 : g_St), f_Rl_init r0 x1 x2 s0 = some o → g_W K s0 [(0, g_r 5 r0), (1, g_i x1), (2, g_i x2)] [] 0 (g_jV o) := by
  intro r0 x1 x2 s0 h
  unfold f_Rl_init at h
  refine r_aload_n hK d_Rl_init_0 rfl 0 rfl ?_
  refine r_objinit hK w1_122 (by rw [hD]; decide) (Nat.le_of_ble_eq_true rfl) d_Rl_init_1 h (fun h => ?_)
  refine r_aload_n hK d_Rl_init_4 rfl 0 rfl ?_
  refine r_iload_n hK d_Rl_init_5 rfl 2 rfl ?_
  refine r_pIF hK fd_Rl_0 rfl w1_123 d_Rl_init_6 h (fun s1 h => ?_)
  refine r_aload_n hK d_Rl_init_9 rfl 0 rfl ?_
  refine r_iload_n hK d_Rl_init_10 rfl 1 rfl ?_
  refine r_iconst (v := 1) hK d_Rl_init_11 (by decide) ?_
  refine r_iadd hK d_Rl_init_12 ?_
  refine r_iconst (v := 4) hK d_Rl_init_13 (by decide) ?_
  refine r_imul hK d_Rl_init_14 ?_
  refine r_newarray (index := 0) hK (ty := .long) rfl rfl (by decide) w1_91 ar_21 d_Rl_init_15 h (fun p2 s3 h => ?_)
  refine r_pRF hK pd_21 rfl (Or.inr rfl) fd_Rl_1 rfl w1_125 d_Rl_init_17 h (fun s4 h => ?_)
  refine r_aload_n hK d_Rl_init_20 rfl 0 rfl ?_
  refine r_iload_n hK d_Rl_init_21 rfl 1 rfl ?_
  refine r_iconst (v := 1) hK d_Rl_init_22 (by decide) ?_
  refine r_iadd hK d_Rl_init_23 ?_
  refine r_newarray (index := 0) hK (ty := .int) rfl rfl (by decide) w1_90 ar_20 d_Rl_init_24 h (fun p5 s6 h => ?_)
  refine r_pRF hK pd_20 rfl (Or.inr rfl) fd_Rl_2 rfl w1_130 d_Rl_init_26 h (fun s7 h => ?_)
  refine r_aload_n hK d_Rl_init_29 rfl 0 rfl ?_
  refine r_iload_n hK d_Rl_init_30 rfl 1 rfl ?_
  refine r_iconst (v := 1) hK d_Rl_init_31 (by decide) ?_
  refine r_iadd hK d_Rl_init_32 ?_
  refine r_newarray (index := 0) hK (ty := .int) rfl rfl (by decide) w1_90 ar_20 d_Rl_init_33 h (fun p8 s9 h => ?_)
  refine r_pRF hK pd_20 rfl (Or.inr rfl) fd_Rl_3 rfl w1_131 d_Rl_init_35 h (fun s10 h => ?_)
  exact r_return hK d_Rl_init_38 h
theorem c_Rl_init (l : Launch) (G : g_G) (r0 : Option Nat) (x1 : Int32) (x2 : Int32) (u : g_St) (o : (Unit × g_St)) (h : f_Rl_init r0 x1 x2 u = some o) : g_Con l G y_Rl_init b_Rl_init 3 (Option.none : Option Jvm.ClassFile.FieldType) 2 [g_r 5 r0, g_i x1, g_i x2] u (g_jV o) :=
  g_Con.of rfl rfl (by decide +kernel) (Nat.le_of_ble_eq_true rfl) (fun K hK hN hD hX => t_Rl_init_0 hK hN hD _ _ _ _ h)
def f_Rl_empty (r0 : Option Nat) (s0 : g_St) : Option (Unit × g_St) :=
  g_pI s0 261 r0 0 fun s1 =>
  g_pI s1 325 r0 0 fun s2 =>
  g_pI s2 389 r0 0 fun s3 =>
  some ((), s3)
set_option maxHeartbeats 4000000 in
set_option maxRecDepth 100000 in
theorem t_Rl_empty_0 {K : g_C} {o : (Unit × g_St)} (hK : g_OK K b_Rl_empty "FixpointEngine$Relation" "empty" (Option.none : Option Jvm.ClassFile.FieldType)) (hN : g_nL K = 1) (hD : g_Kd K = 1) : ∀ (r0 : Option Nat) (s0 : g_St), f_Rl_empty r0 s0 = some o → g_W K s0 [(0, g_r 5 r0)] [] 0 (g_jV o) := by
  intro r0 s0 h
  unfold f_Rl_empty at h
  refine r_aload_n hK d_Rl_empty_0 rfl 0 rfl ?_
  refine r_iconst (v := 0) hK d_Rl_empty_1 (by decide) ?_
  refine r_pI hK fd_Rl_4 rfl w1_132 d_Rl_empty_2 h (fun s1 h => ?_)
  refine r_aload_n hK d_Rl_empty_5 rfl 0 rfl ?_
  refine r_iconst (v := 0) hK d_Rl_empty_6 (by decide) ?_
  refine r_pI hK fd_Rl_5 rfl w1_135 d_Rl_empty_7 h (fun s2 h => ?_)
  refine r_aload_n hK d_Rl_empty_10 rfl 0 rfl ?_
  refine r_iconst (v := 0) hK d_Rl_empty_11 (by decide) ?_
  refine r_pI hK fd_Rl_6 rfl w1_137 d_Rl_empty_12 h (fun s3 h => ?_)
  exact r_return hK d_Rl_empty_15 h
theorem c_Rl_empty (l : Launch) (G : g_G) (r0 : Option Nat) (u : g_St) (o : (Unit × g_St)) (h : f_Rl_empty r0 u = some o) : g_Con l G y_Rl_empty b_Rl_empty 1 (Option.none : Option Jvm.ClassFile.FieldType) 1 [g_r 5 r0] u (g_jV o) :=
  g_Con.of rfl rfl (by decide +kernel) (Nat.le_of_ble_eq_true rfl) (fun K hK hN hD hX => t_Rl_empty_0 hK hN hD _ _ h)
def f_Rl_beginRound (r0 : Option Nat) (s0 : g_St) : Option (Unit × g_St) :=
  g_gI s0 325 r0 fun i1 =>
  g_pI s0 389 r0 i1 fun s2 =>
  g_gI s2 261 r0 fun i3 =>
  g_pI s2 325 r0 i3 fun s4 =>
  some ((), s4)
set_option maxHeartbeats 4000000 in
set_option maxRecDepth 100000 in
theorem t_Rl_beginRound_0 {K : g_C} {o : (Unit × g_St)} (hK : g_OK K b_Rl_beginRound "FixpointEngine$Relation" "beginRound" (Option.none : Option Jvm.ClassFile.FieldType)) (hN : g_nL K = 1) (hD : g_Kd K = 1) : ∀ (r0 : Option Nat) (s0 : g_St), f_Rl_beginRound r0 s0 = some o → g_W K s0 [(0, g_r 5 r0)] [] 0 (g_jV o) := by
  intro r0 s0 h
  unfold f_Rl_beginRound at h
  refine r_aload_n hK d_Rl_beginRound_0 rfl 0 rfl ?_
  refine r_aload_n hK d_Rl_beginRound_1 rfl 0 rfl ?_
  refine r_gI hK fd_Rl_5 w1_135 d_Rl_beginRound_2 h (fun i1 h => ?_)
  refine r_pI hK fd_Rl_6 rfl w1_137 d_Rl_beginRound_5 h (fun s2 h => ?_)
  refine r_aload_n hK d_Rl_beginRound_8 rfl 0 rfl ?_
  refine r_aload_n hK d_Rl_beginRound_9 rfl 0 rfl ?_
  refine r_gI hK fd_Rl_4 w1_132 d_Rl_beginRound_10 h (fun i3 h => ?_)
  refine r_pI hK fd_Rl_5 rfl w1_135 d_Rl_beginRound_13 h (fun s4 h => ?_)
  exact r_return hK d_Rl_beginRound_16 h
theorem c_Rl_beginRound (l : Launch) (G : g_G) (r0 : Option Nat) (u : g_St) (o : (Unit × g_St)) (h : f_Rl_beginRound r0 u = some o) : g_Con l G y_Rl_beginRound b_Rl_beginRound 1 (Option.none : Option Jvm.ClassFile.FieldType) 1 [g_r 5 r0] u (g_jV o) :=
  g_Con.of rfl rfl (by decide +kernel) (Nat.le_of_ble_eq_true rfl) (fun K hK hN hD hX => t_Rl_beginRound_0 hK hN hD _ _ h)
def f_Rl_grow_124 (r0 : Option Nat) (y3 : Int64) (s0 : g_St) : Option (Unit × g_St) :=
  g_gR s0 69 r0 fun p1 =>
  g_gI s0 261 r0 fun i2 =>
  g_sL s0 p1 ((i2 * 4) + 3) y3 fun s3 =>
  some ((), s3)
def f_Rl_grow_62 : Nat → Option Nat → Int32 → Int64 → Int64 → Int32 → Int32 → g_St → Option (Unit × g_St)
  | 0, _, _, _, _, _, _, _ => none
  | n + 1, r0, x2, y3, y5, x7, x8, s0 =>
    g_gR s0 197 r0 fun p1 =>
    g_gI s0 261 r0 fun i2 =>
    g_aI s0 p1 i2 fun i3 =>
    if i3 ≤ x8 then
      f_Rl_grow_124 r0 y3 s0
    else
      if x7 < 0 then
        f_Rl_grow_124 r0 y3 s0
      else
        if y5 = 1099511627776 then
          g_gR s0 133 r0 fun p4 =>
          g_aI s0 p4 x7 fun i5 =>
          f_Rl_grow_62 n r0 x2 y3 y5 i5 (x8 + 1) s0
        else
          g_gR s0 69 r0 fun p6 =>
          g_aL s0 p6 ((x7 * 4) + x2) fun j7 =>
          if j7 = y5 then
            g_gR s0 133 r0 fun p10 =>
            g_aI s0 p10 x7 fun i11 =>
            f_Rl_grow_62 n r0 x2 1 y5 i11 (x8 + 1) s0
          else
            g_gR s0 133 r0 fun p8 =>
            g_aI s0 p8 x7 fun i9 =>
            f_Rl_grow_62 n r0 x2 y3 y5 i9 (x8 + 1) s0
def f_Rl_grow_34 (r0 : Option Nat) (x1 : Int32) (x2 : Int32) (r0s : Option Nat) (x1s : Int32) (x2s : Int32) (s0 : g_St) : Option (Unit × g_St) :=
  g_sI s0 r0s x1s x2s fun s1 =>
  if x2 < 0 then
    f_Rl_grow_124 r0 0 s1
  else
    g_gR s1 69 r0 fun p2 =>
    g_gI s1 261 r0 fun i3 =>
    g_aL s1 p2 ((i3 * 4) + x2) fun j4 =>
    f_Rl_grow_62 200000 r0 x2 0 j4 x1 1 s1
def f_Rl_grow (r0 : Option Nat) (x1 : Int32) (x2 : Int32) (s0 : g_St) : Option (Unit × g_St) :=
  g_gR s0 133 r0 fun p1 =>
  g_gI s0 261 r0 fun i2 =>
  g_sI s0 p1 i2 x1 fun s3 =>
  g_gR s3 197 r0 fun p4 =>
  g_gI s3 261 r0 fun i5 =>
  if 0 ≤ x1 then
    g_gR s3 197 r0 fun p6 =>
    g_aI s3 p6 x1 fun i7 =>
    f_Rl_grow_34 r0 x1 x2 p4 i5 (i7 + 1) s3
  else
    f_Rl_grow_34 r0 x1 x2 p4 i5 1 s3
set_option maxHeartbeats 4000000 in
set_option maxRecDepth 100000 in
theorem t_Rl_grow_124 {K : g_C} {o : (Unit × g_St)} (hK : g_OK K b_Rl_grow "FixpointEngine$Relation" "grow" (Option.none : Option Jvm.ClassFile.FieldType)) (hN : g_nL K = 9) (hD : g_Kd K = 1) : ∀ (r0 : Option Nat) (y3 : Int64) (s0 : g_St), f_Rl_grow_124 r0 y3 s0 = some o → g_W K s0 [(0, g_r 5 r0), (3, g_l y3)] [] 124 (g_jV o) := by
  intro r0 y3 s0 h
  unfold f_Rl_grow_124 at h
  refine r_aload_n hK d_Rl_grow_124 rfl 0 rfl ?_
  refine r_gR hK fd_Rl_1 w1_125 d_Rl_grow_125 h (fun p1 h => ?_)
  refine r_aload_n hK d_Rl_grow_128 rfl 0 rfl ?_
  refine r_gI hK fd_Rl_4 w1_132 d_Rl_grow_129 h (fun i2 h => ?_)
  refine r_iconst (v := 4) hK d_Rl_grow_132 (by decide) ?_
  refine r_imul hK d_Rl_grow_133 ?_
  refine r_iconst (v := 3) hK d_Rl_grow_134 (by decide) ?_
  refine r_iadd hK d_Rl_grow_135 ?_
  refine r_lload_n hK d_Rl_grow_136 rfl 1 rfl ?_
  refine r_lastore hK ar_21 rfl d_Rl_grow_137 h (fun s3 h => ?_)
  exact r_return hK d_Rl_grow_138 h
set_option maxHeartbeats 4000000 in
set_option maxRecDepth 100000 in
theorem t_Rl_grow_62 {K : g_C} {o : (Unit × g_St)} (hK : g_OK K b_Rl_grow "FixpointEngine$Relation" "grow" (Option.none : Option Jvm.ClassFile.FieldType)) (hN : g_nL K = 9) (hD : g_Kd K = 1) : ∀ (n : Nat) (r0 : Option Nat) (x2 : Int32) (y3 : Int64) (y5 : Int64) (x7 : Int32) (x8 : Int32) (s0 : g_St), f_Rl_grow_62 n r0 x2 y3 y5 x7 x8 s0 = some o → g_W K s0 [(0, g_r 5 r0), (2, g_i x2), (3, g_l y3), (5, g_l y5), (7, g_i x7), (8, g_i x8)] [] 62 (g_jV o) := by
  intro n
  induction n with
  | zero =>
    intro r0 x2 y3 y5 x7 x8 s0 h
    cases h
  | succ n ih =>
    intro r0 x2 y3 y5 x7 x8 s0 h
    unfold f_Rl_grow_62 at h
    refine r_iload hK d_Rl_grow_62 5 rfl ?_
    refine r_aload_n hK d_Rl_grow_64 rfl 0 rfl ?_
    refine r_gR hK fd_Rl_3 w1_131 d_Rl_grow_65 h (fun p1 h => ?_)
    refine r_aload_n hK d_Rl_grow_68 rfl 0 rfl ?_
    refine r_gI hK fd_Rl_4 w1_132 d_Rl_grow_69 h (fun i2 h => ?_)
    refine r_iaload hK ar_20 rfl d_Rl_grow_72 h (fun i3 h => ?_)
    refine r_if_icmpge (tgt := 124) hK d_Rl_grow_73 (by decide) h (fun h => ?_) (fun h => ?_)
    · exact r_sub [0, 2] rfl (t_Rl_grow_124 hK hN hD _ _ _ h)
    · refine r_iload hK d_Rl_grow_76 4 rfl ?_
      refine r_iflt (tgt := 124) hK d_Rl_grow_78 (by decide) h (fun h => ?_) (fun h => ?_)
      · exact r_sub [0, 2] rfl (t_Rl_grow_124 hK hN hD _ _ _ h)
      · refine r_lload hK d_Rl_grow_81 3 rfl ?_
        refine r_ldc2 hK w6_152 d_Rl_grow_83 ?_
        refine r_lifeq (tgt := 109) hK d_Rl_grow_86 d_Rl_grow_87 (by decide) h (fun h => ?_) (fun h => ?_)
        · refine r_aload_n hK d_Rl_grow_109 rfl 0 rfl ?_
          refine r_gR hK fd_Rl_2 w1_130 d_Rl_grow_110 h (fun p4 h => ?_)
          refine r_iload hK d_Rl_grow_113 4 rfl ?_
          refine r_iaload hK ar_20 rfl d_Rl_grow_115 h (fun i5 h => ?_)
          refine r_istore (ls1 := [(7, g_i i5), (0, g_r 5 r0), (2, g_i x2), (3, g_l y3), (5, g_l y5), (8, g_i x8)]) hK d_Rl_grow_116 (by rw [hN]; decide) rfl ?_
          refine r_iinc (ls1 := [(8, g_i (x8 + 1)), (7, g_i i5), (0, g_r 5 r0), (2, g_i x2), (3, g_l y3), (5, g_l y5)]) hK d_Rl_grow_118 5 rfl rfl (by rw [hN]; decide) rfl ?_
          refine r_goto (tgt := 62) hK d_Rl_grow_121 (by decide) ?_
          exact r_sub [2, 3, 4, 5, 1, 0] rfl (ih _ _ _ _ _ _ _ h)
        · refine r_aload_n hK d_Rl_grow_90 rfl 0 rfl ?_
          refine r_gR hK fd_Rl_1 w1_125 d_Rl_grow_91 h (fun p6 h => ?_)
          refine r_iload hK d_Rl_grow_94 4 rfl ?_
          refine r_iconst (v := 4) hK d_Rl_grow_96 (by decide) ?_
          refine r_imul hK d_Rl_grow_97 ?_
          refine r_iload_n hK d_Rl_grow_98 rfl 1 rfl ?_
          refine r_iadd hK d_Rl_grow_99 ?_
          refine r_laload hK ar_21 rfl d_Rl_grow_100 h (fun j7 h => ?_)
          refine r_lload hK d_Rl_grow_101 3 rfl ?_
          refine r_lifne (tgt := 109) hK d_Rl_grow_103 d_Rl_grow_104 (by decide) h (fun h => ?_) (fun h => ?_)
          · refine r_aload_n hK d_Rl_grow_109 rfl 0 rfl ?_
            refine r_gR hK fd_Rl_2 w1_130 d_Rl_grow_110 h (fun p8 h => ?_)
            refine r_iload hK d_Rl_grow_113 4 rfl ?_
            refine r_iaload hK ar_20 rfl d_Rl_grow_115 h (fun i9 h => ?_)
            refine r_istore (ls1 := [(7, g_i i9), (0, g_r 5 r0), (2, g_i x2), (3, g_l y3), (5, g_l y5), (8, g_i x8)]) hK d_Rl_grow_116 (by rw [hN]; decide) rfl ?_
            refine r_iinc (ls1 := [(8, g_i (x8 + 1)), (7, g_i i9), (0, g_r 5 r0), (2, g_i x2), (3, g_l y3), (5, g_l y5)]) hK d_Rl_grow_118 5 rfl rfl (by rw [hN]; decide) rfl ?_
            refine r_goto (tgt := 62) hK d_Rl_grow_121 (by decide) ?_
            exact r_sub [2, 3, 4, 5, 1, 0] rfl (ih _ _ _ _ _ _ _ h)
          · refine r_lconst (v := 1) hK d_Rl_grow_107 (by decide) ?_
            refine r_lstore_n (ls1 := [(3, g_l 1), (0, g_r 5 r0), (2, g_i x2), (5, g_l y5), (7, g_i x7), (8, g_i x8)]) hK d_Rl_grow_108 rfl (by rw [hN]; decide) rfl ?_
            refine r_aload_n hK d_Rl_grow_109 rfl 1 rfl ?_
            refine r_gR hK fd_Rl_2 w1_130 d_Rl_grow_110 h (fun p10 h => ?_)
            refine r_iload hK d_Rl_grow_113 4 rfl ?_
            refine r_iaload hK ar_20 rfl d_Rl_grow_115 h (fun i11 h => ?_)
            refine r_istore (ls1 := [(7, g_i i11), (3, g_l 1), (0, g_r 5 r0), (2, g_i x2), (5, g_l y5), (8, g_i x8)]) hK d_Rl_grow_116 (by rw [hN]; decide) rfl ?_
            refine r_iinc (ls1 := [(8, g_i (x8 + 1)), (7, g_i i11), (3, g_l 1), (0, g_r 5 r0), (2, g_i x2), (5, g_l y5)]) hK d_Rl_grow_118 5 rfl rfl (by rw [hN]; decide) rfl ?_
            refine r_goto (tgt := 62) hK d_Rl_grow_121 (by decide) ?_
            exact r_sub [3, 4, 2, 5, 1, 0] rfl (ih _ _ _ _ _ _ _ h)
set_option maxHeartbeats 4000000 in
set_option maxRecDepth 100000 in
theorem t_Rl_grow_34 {K : g_C} {o : (Unit × g_St)} (hK : g_OK K b_Rl_grow "FixpointEngine$Relation" "grow" (Option.none : Option Jvm.ClassFile.FieldType)) (hN : g_nL K = 9) (hD : g_Kd K = 1) : ∀ (r0 : Option Nat) (x1 : Int32) (x2 : Int32) (r0s : Option Nat) (x1s : Int32) (x2s : Int32) (s0 : g_St), f_Rl_grow_34 r0 x1 x2 r0s x1s x2s s0 = some o → g_W K s0 [(0, g_r 5 r0), (1, g_i x1), (2, g_i x2)] [g_i x2s, g_i x1s, g_r 20 r0s] 34 (g_jV o) := by
  intro r0 x1 x2 r0s x1s x2s s0 h
  unfold f_Rl_grow_34 at h
  refine r_iastore hK ar_20 rfl d_Rl_grow_34 h (fun s1 h => ?_)
  refine r_lconst (v := 0) hK d_Rl_grow_35 (by decide) ?_
  refine r_lstore_n (ls1 := [(3, g_l 0), (0, g_r 5 r0), (1, g_i x1), (2, g_i x2)]) hK d_Rl_grow_36 rfl (by rw [hN]; decide) rfl ?_
  refine r_iload_n hK d_Rl_grow_37 rfl 3 rfl ?_
  refine r_iflt (tgt := 124) hK d_Rl_grow_38 (by decide) h (fun h => ?_) (fun h => ?_)
  · exact r_sub [1, 0] rfl (t_Rl_grow_124 hK hN hD _ _ _ h)
  · refine r_aload_n hK d_Rl_grow_41 rfl 1 rfl ?_
    refine r_gR hK fd_Rl_1 w1_125 d_Rl_grow_42 h (fun p2 h => ?_)
    refine r_aload_n hK d_Rl_grow_45 rfl 1 rfl ?_
    refine r_gI hK fd_Rl_4 w1_132 d_Rl_grow_46 h (fun i3 h => ?_)
    refine r_iconst (v := 4) hK d_Rl_grow_49 (by decide) ?_
    refine r_imul hK d_Rl_grow_50 ?_
    refine r_iload_n hK d_Rl_grow_51 rfl 3 rfl ?_
    refine r_iadd hK d_Rl_grow_52 ?_
    refine r_laload hK ar_21 rfl d_Rl_grow_53 h (fun j4 h => ?_)
    refine r_lstore (ls1 := [(5, g_l j4), (3, g_l 0), (0, g_r 5 r0), (1, g_i x1), (2, g_i x2)]) hK d_Rl_grow_54 (by rw [hN]; decide) rfl ?_
    refine r_iload_n hK d_Rl_grow_56 rfl 3 rfl ?_
    refine r_istore (ls1 := [(7, g_i x1), (5, g_l j4), (3, g_l 0), (0, g_r 5 r0), (1, g_i x1), (2, g_i x2)]) hK d_Rl_grow_57 (by rw [hN]; decide) rfl ?_
    refine r_iconst (v := 1) hK d_Rl_grow_59 (by decide) ?_
    refine r_istore (ls1 := [(8, g_i 1), (7, g_i x1), (5, g_l j4), (3, g_l 0), (0, g_r 5 r0), (1, g_i x1), (2, g_i x2)]) hK d_Rl_grow_60 (by rw [hN]; decide) rfl ?_
    exact r_sub [4, 6, 3, 2, 1, 0] rfl (t_Rl_grow_62 hK hN hD _ _ _ _ _ _ _ _ h)
set_option maxHeartbeats 4000000 in
set_option maxRecDepth 100000 in
theorem t_Rl_grow_0 {K : g_C} {o : (Unit × g_St)} (hK : g_OK K b_Rl_grow "FixpointEngine$Relation" "grow" (Option.none : Option Jvm.ClassFile.FieldType)) (hN : g_nL K = 9) (hD : g_Kd K = 1) : ∀ (r0 : Option Nat) (x1 : Int32) (x2 : Int32) (s0 : g_St), f_Rl_grow r0 x1 x2 s0 = some o → g_W K s0 [(0, g_r 5 r0), (1, g_i x1), (2, g_i x2)] [] 0 (g_jV o) := by
  intro r0 x1 x2 s0 h
  unfold f_Rl_grow at h
  refine r_aload_n hK d_Rl_grow_0 rfl 0 rfl ?_
  refine r_gR hK fd_Rl_2 w1_130 d_Rl_grow_1 h (fun p1 h => ?_)
  refine r_aload_n hK d_Rl_grow_4 rfl 0 rfl ?_
  refine r_gI hK fd_Rl_4 w1_132 d_Rl_grow_5 h (fun i2 h => ?_)
  refine r_iload_n hK d_Rl_grow_8 rfl 1 rfl ?_
  refine r_iastore hK ar_20 rfl d_Rl_grow_9 h (fun s3 h => ?_)
  refine r_aload_n hK d_Rl_grow_10 rfl 0 rfl ?_
  refine r_gR hK fd_Rl_3 w1_131 d_Rl_grow_11 h (fun p4 h => ?_)
  refine r_aload_n hK d_Rl_grow_14 rfl 0 rfl ?_
  refine r_gI hK fd_Rl_4 w1_132 d_Rl_grow_15 h (fun i5 h => ?_)
  refine r_iload_n hK d_Rl_grow_18 rfl 1 rfl ?_
  refine r_ifge (tgt := 26) hK d_Rl_grow_19 (by decide) h (fun h => ?_) (fun h => ?_)
  · refine r_aload_n hK d_Rl_grow_26 rfl 0 rfl ?_
    refine r_gR hK fd_Rl_3 w1_131 d_Rl_grow_27 h (fun p6 h => ?_)
    refine r_iload_n hK d_Rl_grow_30 rfl 1 rfl ?_
    refine r_iaload hK ar_20 rfl d_Rl_grow_31 h (fun i7 h => ?_)
    refine r_iconst (v := 1) hK d_Rl_grow_32 (by decide) ?_
    refine r_iadd hK d_Rl_grow_33 ?_
    exact r_sub [0, 1, 2] rfl (t_Rl_grow_34 hK hN hD _ _ _ _ _ _ _ h)
  · refine r_iconst (v := 1) hK d_Rl_grow_22 (by decide) ?_
    refine r_goto (tgt := 34) hK d_Rl_grow_23 (by decide) ?_
    exact r_sub [0, 1, 2] rfl (t_Rl_grow_34 hK hN hD _ _ _ _ _ _ _ h)
theorem c_Rl_grow (l : Launch) (G : g_G) (r0 : Option Nat) (x1 : Int32) (x2 : Int32) (u : g_St) (o : (Unit × g_St)) (h : f_Rl_grow r0 x1 x2 u = some o) : g_Con l G y_Rl_grow b_Rl_grow 9 (Option.none : Option Jvm.ClassFile.FieldType) 1 [g_r 5 r0, g_i x1, g_i x2] u (g_jV o) :=
  g_Con.of rfl rfl (by decide +kernel) (Nat.le_of_ble_eq_true rfl) (fun K hK hN hD hX => t_Rl_grow_0 hK hN hD _ _ _ _ h)
def f_Rl_isSame_136 : Nat → Option Nat → Int32 → Int32 → Int32 → Int32 → Int32 → Int32 → g_St → Option (Int32 × g_St)
  | 0, _, _, _, _, _, _, _, _ => none
  | n + 1, r0, x2, x3, x4, x5, x6, x7, s0 =>
    g_gR s0 197 r0 fun p1 =>
    g_aI s0 p1 x2 fun i2 =>
    if i2 ≤ x7 then
      g_rZ 1 (some (1, s0))
    else
      if x3 < 0 then
        g_rZ 1 (some (1, s0))
      else
        if x5 < 0 then
          g_rZ 1 (some (1, s0))
        else
          if x6 < 0 then
            g_rZ 1 (some (1, s0))
          else
            g_gR s0 69 r0 fun p3 =>
            g_aL s0 p3 ((x5 * 4) + x3) fun j4 =>
            g_gR s0 69 r0 fun p5 =>
            g_aL s0 p5 ((x6 * 4) + x3) fun j6 =>
            if j4 = j6 then
              g_gR s0 69 r0 fun p7 =>
              g_aL s0 p7 ((x5 * 4) + x4) fun j8 =>
              g_gR s0 69 r0 fun p9 =>
              g_aL s0 p9 ((x6 * 4) + x4) fun j10 =>
              if j8 = j10 then
                g_gR s0 133 r0 fun p11 =>
                g_aI s0 p11 x5 fun i12 =>
                g_gR s0 133 r0 fun p13 =>
                g_aI s0 p13 x6 fun i14 =>
                f_Rl_isSame_136 n r0 x2 x3 x4 i12 i14 (x7 + 1) s0
              else
                g_rZ 0 (some (0, s0))
            else
              g_rZ 0 (some (0, s0))
def f_Rl_isSame_106 (r0 : Option Nat) (r1 : Option Nat) (x2 : Int32) (x0s : Int32) (s0 : g_St) : Option (Int32 × g_St) :=
  g_gI s0 1095 r1 fun i1 =>
  if 0 ≤ i1 then
    g_gI s0 1095 r1 fun i2 =>
    g_gI s0 261 r0 fun i3 =>
    f_Rl_isSame_136 200000 r0 x2 x0s i2 x2 i3 0 s0
  else
    g_gI s0 261 r0 fun i4 =>
    f_Rl_isSame_136 200000 r0 x2 x0s x0s x2 i4 0 s0
def f_Rl_isSame_61 (r0 : Option Nat) (r1 : Option Nat) (x2 : Int32) (s0 : g_St) : Option (Int32 × g_St) :=
  g_gR s0 197 r0 fun p1 =>
  g_aI s0 p1 x2 fun i2 =>
  g_gR s0 197 r0 fun p3 =>
  g_gI s0 261 r0 fun i4 =>
  g_aI s0 p3 i4 fun i5 =>
  if i2 = i5 then
    g_gI s0 327 r1 fun i6 =>
    if i6 = 0 then
      g_gI s0 1031 r1 fun i8 =>
      if 0 ≤ i8 then
        g_gI s0 1031 r1 fun i9 =>
        f_Rl_isSame_106 r0 r1 x2 i9 s0
      else
        g_gI s0 1095 r1 fun i10 =>
        f_Rl_isSame_106 r0 r1 x2 i10 s0
    else
      g_gI s0 1095 r1 fun i7 =>
      f_Rl_isSame_106 r0 r1 x2 i7 s0
  else
    g_rZ 0 (some (0, s0))
def f_Rl_isSame_2 : Nat → Option Nat → Option Nat → Int32 → Int32 → g_St → Option (Int32 × g_St)
  | 0, _, _, _, _, _ => none
  | n + 1, r0, r1, x2, x3, s0 =>
    g_gI s0 135 r1 fun i1 =>
    if i1 ≤ x3 then
      g_gI s0 391 r1 fun i2 =>
      if i2 = 0 then
        g_gI s0 455 r1 fun i3 =>
        if i3 = 0 then
          g_rZ 1 (some (1, s0))
        else
          f_Rl_isSame_61 r0 r1 x2 s0
      else
        f_Rl_isSame_61 r0 r1 x2 s0
    else
      g_gR s0 69 r0 fun p4 =>
      g_aL s0 p4 ((x2 * 4) + x3) fun j5 =>
      g_gR s0 69 r0 fun p6 =>
      g_gI s0 261 r0 fun i7 =>
      g_aL s0 p6 ((i7 * 4) + x3) fun j8 =>
      if j5 = j8 then
        f_Rl_isSame_2 n r0 r1 x2 (x3 + 1) s0
      else
        g_rZ 0 (some (0, s0))
def f_Rl_isSame (r0 : Option Nat) (r1 : Option Nat) (x2 : Int32) (s0 : g_St) : Option (Int32 × g_St) :=
  f_Rl_isSame_2 200000 r0 r1 x2 0 s0
set_option maxHeartbeats 4000000 in
set_option maxRecDepth 100000 in
theorem t_Rl_isSame_136 {K : g_C} {o : (Int32 × g_St)} (hK : g_OK K b_Rl_isSame "FixpointEngine$Relation" "isSame" (Option.some Jvm.ClassFile.FieldType.boolean)) (hN : g_nL K = 8) (hD : g_Kd K = 1) : ∀ (n : Nat) (r0 : Option Nat) (x2 : Int32) (x3 : Int32) (x4 : Int32) (x5 : Int32) (x6 : Int32) (x7 : Int32) (s0 : g_St), f_Rl_isSame_136 n r0 x2 x3 x4 x5 x6 x7 s0 = some o → g_W K s0 [(0, g_r 5 r0), (2, g_i x2), (3, g_i x3), (4, g_i x4), (5, g_i x5), (6, g_i x6), (7, g_i x7)] [] 136 (g_jI o) := by
  intro n
  induction n with
  | zero =>
    intro r0 x2 x3 x4 x5 x6 x7 s0 h
    cases h
  | succ n ih =>
    intro r0 x2 x3 x4 x5 x6 x7 s0 h
    unfold f_Rl_isSame_136 at h
    refine r_iload hK d_Rl_isSame_136 6 rfl ?_
    refine r_aload_n hK d_Rl_isSame_138 rfl 0 rfl ?_
    refine r_gR hK fd_Rl_3 w1_131 d_Rl_isSame_139 h (fun p1 h => ?_)
    refine r_iload_n hK d_Rl_isSame_142 rfl 1 rfl ?_
    refine r_iaload hK ar_20 rfl d_Rl_isSame_143 h (fun i2 h => ?_)
    refine r_if_icmpge (tgt := 241) hK d_Rl_isSame_144 (by decide) h (fun h => ?_) (fun h => ?_)
    · refine r_iconst (v := 1) hK d_Rl_isSame_241 (by decide) ?_
      exact r_zreturn hK d_Rl_isSame_242 h
    · refine r_iload_n hK d_Rl_isSame_147 rfl 2 rfl ?_
      refine r_iflt (tgt := 241) hK d_Rl_isSame_148 (by decide) h (fun h => ?_) (fun h => ?_)
      · refine r_iconst (v := 1) hK d_Rl_isSame_241 (by decide) ?_
        exact r_zreturn hK d_Rl_isSame_242 h
      · refine r_iload hK d_Rl_isSame_151 4 rfl ?_
        refine r_iflt (tgt := 241) hK d_Rl_isSame_153 (by decide) h (fun h => ?_) (fun h => ?_)
        · refine r_iconst (v := 1) hK d_Rl_isSame_241 (by decide) ?_
          exact r_zreturn hK d_Rl_isSame_242 h
        · refine r_iload hK d_Rl_isSame_156 5 rfl ?_
          refine r_iflt (tgt := 241) hK d_Rl_isSame_158 (by decide) h (fun h => ?_) (fun h => ?_)
          · refine r_iconst (v := 1) hK d_Rl_isSame_241 (by decide) ?_
            exact r_zreturn hK d_Rl_isSame_242 h
          · refine r_aload_n hK d_Rl_isSame_161 rfl 0 rfl ?_
            refine r_gR hK fd_Rl_1 w1_125 d_Rl_isSame_162 h (fun p3 h => ?_)
            refine r_iload hK d_Rl_isSame_165 4 rfl ?_
            refine r_iconst (v := 4) hK d_Rl_isSame_167 (by decide) ?_
            refine r_imul hK d_Rl_isSame_168 ?_
            refine r_iload_n hK d_Rl_isSame_169 rfl 2 rfl ?_
            refine r_iadd hK d_Rl_isSame_170 ?_
            refine r_laload hK ar_21 rfl d_Rl_isSame_171 h (fun j4 h => ?_)
            refine r_aload_n hK d_Rl_isSame_172 rfl 0 rfl ?_
            refine r_gR hK fd_Rl_1 w1_125 d_Rl_isSame_173 h (fun p5 h => ?_)
            refine r_iload hK d_Rl_isSame_176 5 rfl ?_
            refine r_iconst (v := 4) hK d_Rl_isSame_178 (by decide) ?_
            refine r_imul hK d_Rl_isSame_179 ?_
            refine r_iload_n hK d_Rl_isSame_180 rfl 2 rfl ?_
            refine r_iadd hK d_Rl_isSame_181 ?_
            refine r_laload hK ar_21 rfl d_Rl_isSame_182 h (fun j6 h => ?_)
            refine r_lifne (tgt := 215) hK d_Rl_isSame_183 d_Rl_isSame_184 (by decide) h (fun h => ?_) (fun h => ?_)
            · refine r_iconst (v := 0) hK d_Rl_isSame_215 (by decide) ?_
              exact r_zreturn hK d_Rl_isSame_216 h
            · refine r_aload_n hK d_Rl_isSame_187 rfl 0 rfl ?_
              refine r_gR hK fd_Rl_1 w1_125 d_Rl_isSame_188 h (fun p7 h => ?_)
              refine r_iload hK d_Rl_isSame_191 4 rfl ?_
              refine r_iconst (v := 4) hK d_Rl_isSame_193 (by decide) ?_
              refine r_imul hK d_Rl_isSame_194 ?_
              refine r_iload hK d_Rl_isSame_195 3 rfl ?_
              refine r_iadd hK d_Rl_isSame_197 ?_
              refine r_laload hK ar_21 rfl d_Rl_isSame_198 h (fun j8 h => ?_)
              refine r_aload_n hK d_Rl_isSame_199 rfl 0 rfl ?_
              refine r_gR hK fd_Rl_1 w1_125 d_Rl_isSame_200 h (fun p9 h => ?_)
              refine r_iload hK d_Rl_isSame_203 5 rfl ?_
              refine r_iconst (v := 4) hK d_Rl_isSame_205 (by decide) ?_
              refine r_imul hK d_Rl_isSame_206 ?_
              refine r_iload hK d_Rl_isSame_207 3 rfl ?_
              refine r_iadd hK d_Rl_isSame_209 ?_
              refine r_laload hK ar_21 rfl d_Rl_isSame_210 h (fun j10 h => ?_)
              refine r_lifeq (tgt := 217) hK d_Rl_isSame_211 d_Rl_isSame_212 (by decide) h (fun h => ?_) (fun h => ?_)
              · refine r_aload_n hK d_Rl_isSame_217 rfl 0 rfl ?_
                refine r_gR hK fd_Rl_2 w1_130 d_Rl_isSame_218 h (fun p11 h => ?_)
                refine r_iload hK d_Rl_isSame_221 4 rfl ?_
                refine r_iaload hK ar_20 rfl d_Rl_isSame_223 h (fun i12 h => ?_)
                refine r_istore (ls1 := [(5, g_i i12), (0, g_r 5 r0), (2, g_i x2), (3, g_i x3), (4, g_i x4), (6, g_i x6), (7, g_i x7)]) hK d_Rl_isSame_224 (by rw [hN]; decide) rfl ?_
                refine r_aload_n hK d_Rl_isSame_226 rfl 1 rfl ?_
                refine r_gR hK fd_Rl_2 w1_130 d_Rl_isSame_227 h (fun p13 h => ?_)
                refine r_iload hK d_Rl_isSame_230 5 rfl ?_
                refine r_iaload hK ar_20 rfl d_Rl_isSame_232 h (fun i14 h => ?_)
                refine r_istore (ls1 := [(6, g_i i14), (5, g_i i12), (0, g_r 5 r0), (2, g_i x2), (3, g_i x3), (4, g_i x4), (7, g_i x7)]) hK d_Rl_isSame_233 (by rw [hN]; decide) rfl ?_
                refine r_iinc (ls1 := [(7, g_i (x7 + 1)), (6, g_i i14), (5, g_i i12), (0, g_r 5 r0), (2, g_i x2), (3, g_i x3), (4, g_i x4)]) hK d_Rl_isSame_235 6 rfl rfl (by rw [hN]; decide) rfl ?_
                refine r_goto (tgt := 136) hK d_Rl_isSame_238 (by decide) ?_
                exact r_sub [3, 4, 5, 6, 2, 1, 0] rfl (ih _ _ _ _ _ _ _ _ h)
              · refine r_iconst (v := 0) hK d_Rl_isSame_215 (by decide) ?_
                exact r_zreturn hK d_Rl_isSame_216 h
set_option maxHeartbeats 4000000 in
set_option maxRecDepth 100000 in
theorem t_Rl_isSame_106 {K : g_C} {o : (Int32 × g_St)} (hK : g_OK K b_Rl_isSame "FixpointEngine$Relation" "isSame" (Option.some Jvm.ClassFile.FieldType.boolean)) (hN : g_nL K = 8) (hD : g_Kd K = 1) : ∀ (r0 : Option Nat) (r1 : Option Nat) (x2 : Int32) (x0s : Int32) (s0 : g_St), f_Rl_isSame_106 r0 r1 x2 x0s s0 = some o → g_W K s0 [(0, g_r 5 r0), (1, g_r 7 r1), (2, g_i x2)] [g_i x0s] 106 (g_jI o) := by
  intro r0 r1 x2 x0s s0 h
  unfold f_Rl_isSame_106 at h
  refine r_istore_n (ls1 := [(3, g_i x0s), (0, g_r 5 r0), (1, g_r 7 r1), (2, g_i x2)]) hK d_Rl_isSame_106 rfl (by rw [hN]; decide) rfl ?_
  refine r_aload_n hK d_Rl_isSame_107 rfl 2 rfl ?_
  refine r_gI hK fd_Pa_17 w3_146 d_Rl_isSame_108 h (fun i1 h => ?_)
  refine r_ifge (tgt := 118) hK d_Rl_isSame_111 (by decide) h (fun h => ?_) (fun h => ?_)
  · refine r_aload_n hK d_Rl_isSame_118 rfl 2 rfl ?_
    refine r_gI hK fd_Pa_17 w3_146 d_Rl_isSame_119 h (fun i2 h => ?_)
    refine r_istore (ls1 := [(4, g_i i2), (3, g_i x0s), (0, g_r 5 r0), (1, g_r 7 r1), (2, g_i x2)]) hK d_Rl_isSame_122 (by rw [hN]; decide) rfl ?_
    refine r_iload_n hK d_Rl_isSame_124 rfl 4 rfl ?_
    refine r_istore (ls1 := [(5, g_i x2), (4, g_i i2), (3, g_i x0s), (0, g_r 5 r0), (1, g_r 7 r1), (2, g_i x2)]) hK d_Rl_isSame_125 (by rw [hN]; decide) rfl ?_
    refine r_aload_n hK d_Rl_isSame_127 rfl 3 rfl ?_
    refine r_gI hK fd_Rl_4 w1_132 d_Rl_isSame_128 h (fun i3 h => ?_)
    refine r_istore (ls1 := [(6, g_i i3), (5, g_i x2), (4, g_i i2), (3, g_i x0s), (0, g_r 5 r0), (1, g_r 7 r1), (2, g_i x2)]) hK d_Rl_isSame_131 (by rw [hN]; decide) rfl ?_
    refine r_iconst (v := 0) hK d_Rl_isSame_133 (by decide) ?_
    refine r_istore (ls1 := [(7, g_i 0), (6, g_i i3), (5, g_i x2), (4, g_i i2), (3, g_i x0s), (0, g_r 5 r0), (1, g_r 7 r1), (2, g_i x2)]) hK d_Rl_isSame_134 (by rw [hN]; decide) rfl ?_
    exact r_sub [5, 7, 4, 3, 2, 1, 0] rfl (t_Rl_isSame_136 hK hN hD _ _ _ _ _ _ _ _ _ h)
  · refine r_iload_n hK d_Rl_isSame_114 rfl 0 rfl ?_
    refine r_goto (tgt := 122) hK d_Rl_isSame_115 (by decide) ?_
    refine r_istore (ls1 := [(4, g_i x0s), (3, g_i x0s), (0, g_r 5 r0), (1, g_r 7 r1), (2, g_i x2)]) hK d_Rl_isSame_122 (by rw [hN]; decide) rfl ?_
    refine r_iload_n hK d_Rl_isSame_124 rfl 4 rfl ?_
    refine r_istore (ls1 := [(5, g_i x2), (4, g_i x0s), (3, g_i x0s), (0, g_r 5 r0), (1, g_r 7 r1), (2, g_i x2)]) hK d_Rl_isSame_125 (by rw [hN]; decide) rfl ?_
    refine r_aload_n hK d_Rl_isSame_127 rfl 3 rfl ?_
    refine r_gI hK fd_Rl_4 w1_132 d_Rl_isSame_128 h (fun i4 h => ?_)
    refine r_istore (ls1 := [(6, g_i i4), (5, g_i x2), (4, g_i x0s), (3, g_i x0s), (0, g_r 5 r0), (1, g_r 7 r1), (2, g_i x2)]) hK d_Rl_isSame_131 (by rw [hN]; decide) rfl ?_
    refine r_iconst (v := 0) hK d_Rl_isSame_133 (by decide) ?_
    refine r_istore (ls1 := [(7, g_i 0), (6, g_i i4), (5, g_i x2), (4, g_i x0s), (3, g_i x0s), (0, g_r 5 r0), (1, g_r 7 r1), (2, g_i x2)]) hK d_Rl_isSame_134 (by rw [hN]; decide) rfl ?_
    exact r_sub [5, 7, 4, 3, 2, 1, 0] rfl (t_Rl_isSame_136 hK hN hD _ _ _ _ _ _ _ _ _ h)
set_option maxHeartbeats 4000000 in
set_option maxRecDepth 100000 in
theorem t_Rl_isSame_61 {K : g_C} {o : (Int32 × g_St)} (hK : g_OK K b_Rl_isSame "FixpointEngine$Relation" "isSame" (Option.some Jvm.ClassFile.FieldType.boolean)) (hN : g_nL K = 8) (hD : g_Kd K = 1) : ∀ (r0 : Option Nat) (r1 : Option Nat) (x2 : Int32) (s0 : g_St), f_Rl_isSame_61 r0 r1 x2 s0 = some o → g_W K s0 [(0, g_r 5 r0), (1, g_r 7 r1), (2, g_i x2)] [] 61 (g_jI o) := by
  intro r0 r1 x2 s0 h
  unfold f_Rl_isSame_61 at h
  refine r_aload_n hK d_Rl_isSame_61 rfl 0 rfl ?_
  refine r_gR hK fd_Rl_3 w1_131 d_Rl_isSame_62 h (fun p1 h => ?_)
  refine r_iload_n hK d_Rl_isSame_65 rfl 2 rfl ?_
  refine r_iaload hK ar_20 rfl d_Rl_isSame_66 h (fun i2 h => ?_)
  refine r_aload_n hK d_Rl_isSame_67 rfl 0 rfl ?_
  refine r_gR hK fd_Rl_3 w1_131 d_Rl_isSame_68 h (fun p3 h => ?_)
  refine r_aload_n hK d_Rl_isSame_71 rfl 0 rfl ?_
  refine r_gI hK fd_Rl_4 w1_132 d_Rl_isSame_72 h (fun i4 h => ?_)
  refine r_iaload hK ar_20 rfl d_Rl_isSame_75 h (fun i5 h => ?_)
  refine r_if_icmpeq (tgt := 81) hK d_Rl_isSame_76 (by decide) h (fun h => ?_) (fun h => ?_)
  · refine r_aload_n hK d_Rl_isSame_81 rfl 1 rfl ?_
    refine r_gI hK fd_Pa_5 w3_108 d_Rl_isSame_82 h (fun i6 h => ?_)
    refine r_ifne (tgt := 95) hK d_Rl_isSame_85 (by decide) h (fun h => ?_) (fun h => ?_)
    · refine r_aload_n hK d_Rl_isSame_95 rfl 1 rfl ?_
      refine r_gI hK fd_Pa_17 w3_146 d_Rl_isSame_96 h (fun i7 h => ?_)
      refine r_goto (tgt := 106) hK d_Rl_isSame_99 (by decide) ?_
      exact r_sub [0, 1, 2] rfl (t_Rl_isSame_106 hK hN hD _ _ _ _ _ h)
    · refine r_aload_n hK d_Rl_isSame_88 rfl 1 rfl ?_
      refine r_gI hK fd_Pa_16 w3_143 d_Rl_isSame_89 h (fun i8 h => ?_)
      refine r_ifge (tgt := 102) hK d_Rl_isSame_92 (by decide) h (fun h => ?_) (fun h => ?_)
      · refine r_aload_n hK d_Rl_isSame_102 rfl 1 rfl ?_
        refine r_gI hK fd_Pa_16 w3_143 d_Rl_isSame_103 h (fun i9 h => ?_)
        exact r_sub [0, 1, 2] rfl (t_Rl_isSame_106 hK hN hD _ _ _ _ _ h)
      · refine r_aload_n hK d_Rl_isSame_95 rfl 1 rfl ?_
        refine r_gI hK fd_Pa_17 w3_146 d_Rl_isSame_96 h (fun i10 h => ?_)
        refine r_goto (tgt := 106) hK d_Rl_isSame_99 (by decide) ?_
        exact r_sub [0, 1, 2] rfl (t_Rl_isSame_106 hK hN hD _ _ _ _ _ h)
  · refine r_iconst (v := 0) hK d_Rl_isSame_79 (by decide) ?_
    exact r_zreturn hK d_Rl_isSame_80 h
set_option maxHeartbeats 4000000 in
set_option maxRecDepth 100000 in
theorem t_Rl_isSame_2 {K : g_C} {o : (Int32 × g_St)} (hK : g_OK K b_Rl_isSame "FixpointEngine$Relation" "isSame" (Option.some Jvm.ClassFile.FieldType.boolean)) (hN : g_nL K = 8) (hD : g_Kd K = 1) : ∀ (n : Nat) (r0 : Option Nat) (r1 : Option Nat) (x2 : Int32) (x3 : Int32) (s0 : g_St), f_Rl_isSame_2 n r0 r1 x2 x3 s0 = some o → g_W K s0 [(0, g_r 5 r0), (1, g_r 7 r1), (2, g_i x2), (3, g_i x3)] [] 2 (g_jI o) := by
  intro n
  induction n with
  | zero =>
    intro r0 r1 x2 x3 s0 h
    cases h
  | succ n ih =>
    intro r0 r1 x2 x3 s0 h
    unfold f_Rl_isSame_2 at h
    refine r_iload_n hK d_Rl_isSame_2 rfl 3 rfl ?_
    refine r_aload_n hK d_Rl_isSame_3 rfl 1 rfl ?_
    refine r_gI hK fd_Pa_2 w3_98 d_Rl_isSame_4 h (fun i1 h => ?_)
    refine r_if_icmpge (tgt := 45) hK d_Rl_isSame_7 (by decide) h (fun h => ?_) (fun h => ?_)
    · refine r_aload_n hK d_Rl_isSame_45 rfl 1 rfl ?_
      refine r_gI hK fd_Pa_6 w3_110 d_Rl_isSame_46 h (fun i2 h => ?_)
      refine r_ifne (tgt := 61) hK d_Rl_isSame_49 (by decide) h (fun h => ?_) (fun h => ?_)
      · exact r_sub [0, 1, 2] rfl (t_Rl_isSame_61 hK hN hD _ _ _ _ h)
      · refine r_aload_n hK d_Rl_isSame_52 rfl 1 rfl ?_
        refine r_gI hK fd_Pa_7 w3_114 d_Rl_isSame_53 h (fun i3 h => ?_)
        refine r_ifne (tgt := 61) hK d_Rl_isSame_56 (by decide) h (fun h => ?_) (fun h => ?_)
        · exact r_sub [0, 1, 2] rfl (t_Rl_isSame_61 hK hN hD _ _ _ _ h)
        · refine r_iconst (v := 1) hK d_Rl_isSame_59 (by decide) ?_
          exact r_zreturn hK d_Rl_isSame_60 h
    · refine r_aload_n hK d_Rl_isSame_10 rfl 0 rfl ?_
      refine r_gR hK fd_Rl_1 w1_125 d_Rl_isSame_11 h (fun p4 h => ?_)
      refine r_iload_n hK d_Rl_isSame_14 rfl 2 rfl ?_
      refine r_iconst (v := 4) hK d_Rl_isSame_15 (by decide) ?_
      refine r_imul hK d_Rl_isSame_16 ?_
      refine r_iload_n hK d_Rl_isSame_17 rfl 3 rfl ?_
      refine r_iadd hK d_Rl_isSame_18 ?_
      refine r_laload hK ar_21 rfl d_Rl_isSame_19 h (fun j5 h => ?_)
      refine r_aload_n hK d_Rl_isSame_20 rfl 0 rfl ?_
      refine r_gR hK fd_Rl_1 w1_125 d_Rl_isSame_21 h (fun p6 h => ?_)
      refine r_aload_n hK d_Rl_isSame_24 rfl 0 rfl ?_
      refine r_gI hK fd_Rl_4 w1_132 d_Rl_isSame_25 h (fun i7 h => ?_)
      refine r_iconst (v := 4) hK d_Rl_isSame_28 (by decide) ?_
      refine r_imul hK d_Rl_isSame_29 ?_
      refine r_iload_n hK d_Rl_isSame_30 rfl 3 rfl ?_
      refine r_iadd hK d_Rl_isSame_31 ?_
      refine r_laload hK ar_21 rfl d_Rl_isSame_32 h (fun j8 h => ?_)
      refine r_lifeq (tgt := 39) hK d_Rl_isSame_33 d_Rl_isSame_34 (by decide) h (fun h => ?_) (fun h => ?_)
      · refine r_iinc (ls1 := [(3, g_i (x3 + 1)), (0, g_r 5 r0), (1, g_r 7 r1), (2, g_i x2)]) hK d_Rl_isSame_39 3 rfl rfl (by rw [hN]; decide) rfl ?_
        refine r_goto (tgt := 2) hK d_Rl_isSame_42 (by decide) ?_
        exact r_sub [1, 2, 3, 0] rfl (ih _ _ _ _ _ h)
      · refine r_iconst (v := 0) hK d_Rl_isSame_37 (by decide) ?_
        exact r_zreturn hK d_Rl_isSame_38 h
set_option maxHeartbeats 4000000 in
set_option maxRecDepth 100000 in
theorem t_Rl_isSame_0 {K : g_C} {o : (Int32 × g_St)} (hK : g_OK K b_Rl_isSame "FixpointEngine$Relation" "isSame" (Option.some Jvm.ClassFile.FieldType.boolean)) (hN : g_nL K = 8) (hD : g_Kd K = 1) : ∀ (r0 : Option Nat) (r1 : Option Nat) (x2 : Int32) (s0 : g_St), f_Rl_isSame r0 r1 x2 s0 = some o → g_W K s0 [(0, g_r 5 r0), (1, g_r 7 r1), (2, g_i x2)] [] 0 (g_jI o) := by
  intro r0 r1 x2 s0 h
  unfold f_Rl_isSame at h
  refine r_iconst (v := 0) hK d_Rl_isSame_0 (by decide) ?_
  refine r_istore_n (ls1 := [(3, g_i 0), (0, g_r 5 r0), (1, g_r 7 r1), (2, g_i x2)]) hK d_Rl_isSame_1 rfl (by rw [hN]; decide) rfl ?_
  exact r_sub [1, 2, 3, 0] rfl (t_Rl_isSame_2 hK hN hD _ _ _ _ _ _ h)
theorem c_Rl_isSame (l : Launch) (G : g_G) (r0 : Option Nat) (r1 : Option Nat) (x2 : Int32) (u : g_St) (o : (Int32 × g_St)) (h : f_Rl_isSame r0 r1 x2 u = some o) : g_Con l G y_Rl_isSame b_Rl_isSame 8 (Option.some Jvm.ClassFile.FieldType.boolean) 1 [g_r 5 r0, g_r 7 r1, g_i x2] u (g_jI o) :=
  g_Con.of rfl rfl (by decide +kernel) (Nat.le_of_ble_eq_true rfl) (fun K hK hN hD hX => t_Rl_isSame_0 hK hN hD _ _ _ _ h)
def f_Rl_hasEqual_2 : Nat → Option Nat → Option Nat → Int32 → g_St → Option (Int32 × g_St)
  | 0, _, _, _, _ => none
  | n + 1, r0, r1, x2, s0 =>
    g_gI s0 261 r0 fun i1 =>
    if i1 ≤ x2 then
      g_rZ 0 (some (0, s0))
    else
      g_c (g_nn r0 (f_Rl_isSame r0 r1 x2 s0)) fun i2 s3 =>
      if i2 = 0 then
        f_Rl_hasEqual_2 n r0 r1 (x2 + 1) s3
      else
        g_rZ 1 (some (1, s3))
def f_Rl_hasEqual (r0 : Option Nat) (r1 : Option Nat) (s0 : g_St) : Option (Int32 × g_St) :=
  f_Rl_hasEqual_2 200000 r0 r1 0 s0
set_option maxHeartbeats 4000000 in
set_option maxRecDepth 100000 in
theorem t_Rl_hasEqual_2 {K : g_C} {o : (Int32 × g_St)} (hK : g_OK K b_Rl_hasEqual "FixpointEngine$Relation" "hasEqual" (Option.some Jvm.ClassFile.FieldType.boolean)) (hN : g_nL K = 3) (hD : g_Kd K = 2) : ∀ (n : Nat) (r0 : Option Nat) (r1 : Option Nat) (x2 : Int32) (s0 : g_St), f_Rl_hasEqual_2 n r0 r1 x2 s0 = some o → g_W K s0 [(0, g_r 5 r0), (1, g_r 7 r1), (2, g_i x2)] [] 2 (g_jI o) := by
  intro n
  induction n with
  | zero =>
    intro r0 r1 x2 s0 h
    cases h
  | succ n ih =>
    intro r0 r1 x2 s0 h
    unfold f_Rl_hasEqual_2 at h
    refine r_iload_n hK d_Rl_hasEqual_2 rfl 2 rfl ?_
    refine r_aload_n hK d_Rl_hasEqual_3 rfl 0 rfl ?_
    refine r_gI hK fd_Rl_4 w1_132 d_Rl_hasEqual_4 h (fun i1 h => ?_)
    refine r_if_icmpge (tgt := 27) hK d_Rl_hasEqual_7 (by decide) h (fun h => ?_) (fun h => ?_)
    · refine r_iconst (v := 0) hK d_Rl_hasEqual_27 (by decide) ?_
      exact r_zreturn hK d_Rl_hasEqual_28 h
    · refine r_aload_n hK d_Rl_hasEqual_10 rfl 0 rfl ?_
      refine r_aload_n hK d_Rl_hasEqual_11 rfl 1 rfl ?_
      refine r_iload_n hK d_Rl_hasEqual_12 rfl 2 rfl ?_
      refine r_Vi (avL := [g_r 7 r1, g_i x2]) (st := []) hK ob_Rl rfl w6_158 w6_159 w6_157 w6_160 w1_5 (by decide) pl_Rl_isSame (by rw [hD]; decide) (Nat.le_of_ble_eq_true rfl) rfl d_Rl_hasEqual_13 (fun o9 h9 => c_Rl_isSame _ _ _ _ _ _ o9 h9) h (fun i2 s3 h => ?_)
      refine r_ifeq (tgt := 21) hK d_Rl_hasEqual_16 (by decide) h (fun h => ?_) (fun h => ?_)
      · refine r_iinc (ls1 := [(2, g_i (x2 + 1)), (0, g_r 5 r0), (1, g_r 7 r1)]) hK d_Rl_hasEqual_21 2 rfl rfl (by rw [hN]; decide) rfl ?_
        refine r_goto (tgt := 2) hK d_Rl_hasEqual_24 (by decide) ?_
        exact r_sub [1, 2, 0] rfl (ih _ _ _ _ h)
      · refine r_iconst (v := 1) hK d_Rl_hasEqual_19 (by decide) ?_
        exact r_zreturn hK d_Rl_hasEqual_20 h
set_option maxHeartbeats 4000000 in
set_option maxRecDepth 100000 in
theorem t_Rl_hasEqual_0 {K : g_C} {o : (Int32 × g_St)} (hK : g_OK K b_Rl_hasEqual "FixpointEngine$Relation" "hasEqual" (Option.some Jvm.ClassFile.FieldType.boolean)) (hN : g_nL K = 3) (hD : g_Kd K = 2) : ∀ (r0 : Option Nat) (r1 : Option Nat) (s0 : g_St), f_Rl_hasEqual r0 r1 s0 = some o → g_W K s0 [(0, g_r 5 r0), (1, g_r 7 r1)] [] 0 (g_jI o) := by
  intro r0 r1 s0 h
  unfold f_Rl_hasEqual at h
  refine r_iconst (v := 0) hK d_Rl_hasEqual_0 (by decide) ?_
  refine r_istore_n (ls1 := [(2, g_i 0), (0, g_r 5 r0), (1, g_r 7 r1)]) hK d_Rl_hasEqual_1 rfl (by rw [hN]; decide) rfl ?_
  exact r_sub [1, 2, 0] rfl (t_Rl_hasEqual_2 hK hN hD _ _ _ _ _ h)
theorem c_Rl_hasEqual (l : Launch) (G : g_G) (r0 : Option Nat) (r1 : Option Nat) (u : g_St) (o : (Int32 × g_St)) (h : f_Rl_hasEqual r0 r1 u = some o) : g_Con l G y_Rl_hasEqual b_Rl_hasEqual 3 (Option.some Jvm.ClassFile.FieldType.boolean) 2 [g_r 5 r0, g_r 7 r1] u (g_jI o) :=
  g_Con.of rfl rfl (by decide +kernel) (Nat.le_of_ble_eq_true rfl) (fun K hK hN hD hX => t_Rl_hasEqual_0 hK hN hD _ _ _ h)
def f_Rl_compareCells_30 (y0s : Int64) (y1s : Int64) (s0 : g_St) : Option (Int32 × g_St) :=
  g_c (f_Lo_compare y0s y1s s0) fun i1 s2 =>
  some (i1, s2)
def f_Rl_compareCells_15 (y2 : Int64) (y0s : Int64) (s0 : g_St) : Option (Int32 × g_St) :=
  if y2 = 1099511627776 then
    f_Rl_compareCells_30 y0s (-2147483649) s0
  else
    f_Rl_compareCells_30 y0s y2 s0
def f_Rl_compareCells (y0 : Int64) (y2 : Int64) (s0 : g_St) : Option (Int32 × g_St) :=
  if y0 = 1099511627776 then
    f_Rl_compareCells_15 y2 (-2147483649) s0
  else
    f_Rl_compareCells_15 y2 y0 s0
set_option maxHeartbeats 4000000 in
set_option maxRecDepth 100000 in
theorem t_Rl_compareCells_30 {K : g_C} {o : (Int32 × g_St)} (hK : g_OK K b_Rl_compareCells "FixpointEngine$Relation" "compareCells" (Option.some Jvm.ClassFile.FieldType.int)) (hN : g_nL K = 4) (hD : g_Kd K = 2) : ∀ (y0s : Int64) (y1s : Int64) (s0 : g_St), f_Rl_compareCells_30 y0s y1s s0 = some o → g_W K s0 [] [g_l y1s, g_l y0s] 30 (g_jI o) := by
  intro y0s y1s s0 h
  unfold f_Rl_compareCells_30 at h
  refine r_Si (avL := [g_l y0s, g_l y1s]) (st := []) hK w6_206 w6_205 w6_207 w1_37 (by decide) pl_Lo_compare (by rw [hD]; decide) (Nat.le_of_ble_eq_true rfl) rfl d_Rl_compareCells_30 (fun o9 h9 => c_Lo_compare _ _ _ _ _ o9 h9) h (fun i1 s2 h => ?_)
  exact r_ireturn hK d_Rl_compareCells_33 h
set_option maxHeartbeats 4000000 in
set_option maxRecDepth 100000 in
theorem t_Rl_compareCells_15 {K : g_C} {o : (Int32 × g_St)} (hK : g_OK K b_Rl_compareCells "FixpointEngine$Relation" "compareCells" (Option.some Jvm.ClassFile.FieldType.int)) (hN : g_nL K = 4) (hD : g_Kd K = 2) : ∀ (y2 : Int64) (y0s : Int64) (s0 : g_St), f_Rl_compareCells_15 y2 y0s s0 = some o → g_W K s0 [(2, g_l y2)] [g_l y0s] 15 (g_jI o) := by
  intro y2 y0s s0 h
  unfold f_Rl_compareCells_15 at h
  refine r_lload_n hK d_Rl_compareCells_15 rfl 0 rfl ?_
  refine r_ldc2 hK w6_152 d_Rl_compareCells_16 ?_
  refine r_lifne (tgt := 29) hK d_Rl_compareCells_19 d_Rl_compareCells_20 (by decide) h (fun h => ?_) (fun h => ?_)
  · refine r_lload_n hK d_Rl_compareCells_29 rfl 0 rfl ?_
    exact r_sub [] rfl (t_Rl_compareCells_30 hK hN hD _ _ _ h)
  · refine r_ldc2 hK w6_204 d_Rl_compareCells_23 ?_
    refine r_goto (tgt := 30) hK d_Rl_compareCells_26 (by decide) ?_
    exact r_sub [] rfl (t_Rl_compareCells_30 hK hN hD _ _ _ h)
set_option maxHeartbeats 4000000 in
set_option maxRecDepth 100000 in
theorem t_Rl_compareCells_0 {K : g_C} {o : (Int32 × g_St)} (hK : g_OK K b_Rl_compareCells "FixpointEngine$Relation" "compareCells" (Option.some Jvm.ClassFile.FieldType.int)) (hN : g_nL K = 4) (hD : g_Kd K = 2) : ∀ (y0 : Int64) (y2 : Int64) (s0 : g_St), f_Rl_compareCells y0 y2 s0 = some o → g_W K s0 [(0, g_l y0), (2, g_l y2)] [] 0 (g_jI o) := by
  intro y0 y2 s0 h
  unfold f_Rl_compareCells at h
  refine r_lload_n hK d_Rl_compareCells_0 rfl 0 rfl ?_
  refine r_ldc2 hK w6_152 d_Rl_compareCells_1 ?_
  refine r_lifne (tgt := 14) hK d_Rl_compareCells_4 d_Rl_compareCells_5 (by decide) h (fun h => ?_) (fun h => ?_)
  · refine r_lload_n hK d_Rl_compareCells_14 rfl 0 rfl ?_
    exact r_sub [1] rfl (t_Rl_compareCells_15 hK hN hD _ _ _ h)
  · refine r_ldc2 hK w6_204 d_Rl_compareCells_8 ?_
    refine r_goto (tgt := 15) hK d_Rl_compareCells_11 (by decide) ?_
    exact r_sub [1] rfl (t_Rl_compareCells_15 hK hN hD _ _ _ h)
theorem c_Rl_compareCells (l : Launch) (G : g_G) (y0 : Int64) (y2 : Int64) (u : g_St) (o : (Int32 × g_St)) (h : f_Rl_compareCells y0 y2 u = some o) : g_Con l G y_Rl_compareCells b_Rl_compareCells 4 (Option.some Jvm.ClassFile.FieldType.int) 2 [g_l y0, g_l y2] u (g_jI o) :=
  g_Con.of rfl rfl (by decide +kernel) (Nat.le_of_ble_eq_true rfl) (fun K hK hN hD hX => t_Rl_compareCells_0 hK hN hD _ _ _ h)
def f_Rl_compareTrails_216 (k89 : Option Nat → Int32 → Int32 → Int32 → Int32 → Int32 → g_St → Option (Int32 × g_St)) (r0 : Option Nat) (x4 : Int32) (x5 : Int32) (x7 : Int32) (x8 : Int32) (x10 : Int32) (x0s : Int32) (s0 : g_St) : Option (Int32 × g_St) :=
  if x10 = 0 then
    k89 r0 x4 x5 x0s x7 (x8 + (-1)) s0
  else
    g_gR s0 133 r0 fun p1 =>
    g_aI s0 p1 x7 fun i2 =>
    k89 r0 x4 x5 x0s i2 (x8 + (-1)) s0
def f_Rl_compareTrails_197 (k89 : Option Nat → Int32 → Int32 → Int32 → Int32 → Int32 → g_St → Option (Int32 × g_St)) (r0 : Option Nat) (x4 : Int32) (x6 : Int32) (x7 : Int32) (x8 : Int32) (x9 : Int32) (x10 : Int32) (x0s : Int32) (s0 : g_St) : Option (Int32 × g_St) :=
  if x9 = 0 then
    f_Rl_compareTrails_216 k89 r0 x4 x0s x7 x8 x10 x6 s0
  else
    g_gR s0 133 r0 fun p1 =>
    g_aI s0 p1 x6 fun i2 =>
    f_Rl_compareTrails_216 k89 r0 x4 x0s x7 x8 x10 i2 s0
def f_Rl_compareTrails_183 (k89 : Option Nat → Int32 → Int32 → Int32 → Int32 → Int32 → g_St → Option (Int32 × g_St)) (r0 : Option Nat) (x4 : Int32) (x5 : Int32) (x6 : Int32) (x7 : Int32) (x8 : Int32) (x9 : Int32) (x10 : Int32) (x0s : Int32) (s0 : g_St) : Option (Int32 × g_St) :=
  if x0s = 0 then
    f_Rl_compareTrails_197 k89 r0 x4 x6 x7 x8 x9 x10 x5 s0
  else
    f_Rl_compareTrails_197 k89 r0 x4 x6 x7 x8 x9 x10 x0s s0
def f_Rl_compareTrails_140 (k89 : Option Nat → Int32 → Int32 → Int32 → Int32 → Int32 → g_St → Option (Int32 × g_St)) (r0 : Option Nat) (x4 : Int32) (x5 : Int32) (x6 : Int32) (x7 : Int32) (x8 : Int32) (x9 : Int32) (x0s : Int32) (s0 : g_St) : Option (Int32 × g_St) :=
  if x9 = 0 then
    f_Rl_compareTrails_183 k89 r0 x4 x5 x6 x7 x8 x9 x0s 0 s0
  else
    if x0s = 0 then
      f_Rl_compareTrails_183 k89 r0 x4 x5 x6 x7 x8 x9 x0s 0 s0
    else
      g_gR s0 69 r0 fun p1 =>
      g_aL s0 p1 ((x6 * 4) + x4) fun j2 =>
      g_gR s0 69 r0 fun p3 =>
      g_aL s0 p3 ((x7 * 4) + x4) fun j4 =>
      g_c (f_Rl_compareCells j2 j4 s0) fun i5 s6 =>
      f_Rl_compareTrails_183 k89 r0 x4 x5 x6 x7 x8 x9 x0s i5 s6
def f_Rl_compareTrails_121 (k89 : Option Nat → Int32 → Int32 → Int32 → Int32 → Int32 → g_St → Option (Int32 × g_St)) (r0 : Option Nat) (x4 : Int32) (x5 : Int32) (x6 : Int32) (x7 : Int32) (x8 : Int32) (x0s : Int32) (s0 : g_St) : Option (Int32 × g_St) :=
  g_gR s0 197 r0 fun p1 =>
  g_aI s0 p1 x7 fun i2 =>
  if i2 = x8 then
    f_Rl_compareTrails_140 k89 r0 x4 x5 x6 x7 x8 x0s 1 s0
  else
    f_Rl_compareTrails_140 k89 r0 x4 x5 x6 x7 x8 x0s 0 s0
def f_Rl_compareTrails_89 : Nat → Option Nat → Int32 → Int32 → Int32 → Int32 → Int32 → g_St → Option (Int32 × g_St)
  | 0, _, _, _, _, _, _, _ => none
  | n + 1, r0, x4, x5, x6, x7, x8, s0 =>
    if x8 ≤ 0 then
      some (x5, s0)
    else
      if x6 < 0 then
        some (x5, s0)
      else
        if x7 < 0 then
          some (x5, s0)
        else
          g_gR s0 197 r0 fun p1 =>
          g_aI s0 p1 x6 fun i2 =>
          if i2 = x8 then
            f_Rl_compareTrails_121 (f_Rl_compareTrails_89 n) r0 x4 x5 x6 x7 x8 1 s0
          else
            f_Rl_compareTrails_121 (f_Rl_compareTrails_89 n) r0 x4 x5 x6 x7 x8 0 s0
def f_Rl_compareTrails (r0 : Option Nat) (r1 : Option Nat) (x2 : Int32) (x3 : Int32) (s0 : g_St) : Option (Int32 × g_St) :=
  g_gI s0 1031 r1 fun i1 =>
  g_gR s0 197 r0 fun p2 =>
  g_aI s0 p2 x2 fun i3 =>
  g_gR s0 197 r0 fun p4 =>
  g_aI s0 p4 x3 fun i5 =>
  g_c (f_In_compare i3 i5 s0) fun i6 s7 =>
  g_gI s7 327 r1 fun i8 =>
  if i8 = 0 then
    g_gR s7 197 r0 fun p9 =>
    g_aI s7 p9 x2 fun i10 =>
    g_gR s7 197 r0 fun p11 =>
    g_aI s7 p11 x3 fun i12 =>
    f_Rl_compareTrails_89 200000 r0 i1 i6 x2 x3 (if i10 < i12 then i12 else i10) s7
  else
    if i6 = 0 then
      g_gR s7 69 r0 fun p13 =>
      g_aL s7 p13 ((x2 * 4) + i1) fun j14 =>
      g_gR s7 69 r0 fun p15 =>
      g_aL s7 p15 ((x3 * 4) + i1) fun j16 =>
      g_c (f_Rl_compareCells j14 j16 s7) fun i17 s18 =>
      some (i17, s18)
    else
      some (i6, s7)
set_option maxHeartbeats 4000000 in
set_option maxRecDepth 100000 in
theorem t_Rl_compareTrails_216 {K : g_C} {o : (Int32 × g_St)} (hK : g_OK K b_Rl_compareTrails "FixpointEngine$Relation" "compareTrails" (Option.some Jvm.ClassFile.FieldType.int)) (hN : g_nL K = 12) (hD : g_Kd K = 7) {k89 : Option Nat → Int32 → Int32 → Int32 → Int32 → Int32 → g_St → Option (Int32 × g_St)} (hk89 : ∀ (r0 : Option Nat) (x4 : Int32) (x5 : Int32) (x6 : Int32) (x7 : Int32) (x8 : Int32) (s0 : g_St), k89 r0 x4 x5 x6 x7 x8 s0 = some o → g_W K s0 [(0, g_r 5 r0), (4, g_i x4), (5, g_i x5), (6, g_i x6), (7, g_i x7), (8, g_i x8)] [] 89 (g_jI o)) : ∀ (r0 : Option Nat) (x4 : Int32) (x5 : Int32) (x7 : Int32) (x8 : Int32) (x10 : Int32) (x0s : Int32) (s0 : g_St), f_Rl_compareTrails_216 k89 r0 x4 x5 x7 x8 x10 x0s s0 = some o → g_W K s0 [(0, g_r 5 r0), (4, g_i x4), (5, g_i x5), (7, g_i x7), (8, g_i x8), (10, g_i x10)] [g_i x0s] 216 (g_jI o) := by
  intro r0 x4 x5 x7 x8 x10 x0s s0 h
  unfold f_Rl_compareTrails_216 at h
  refine r_istore (ls1 := [(6, g_i x0s), (0, g_r 5 r0), (4, g_i x4), (5, g_i x5), (7, g_i x7), (8, g_i x8), (10, g_i x10)]) hK d_Rl_compareTrails_216 (by rw [hN]; decide) rfl ?_
  refine r_iload hK d_Rl_compareTrails_218 6 rfl ?_
  refine r_ifeq (tgt := 233) hK d_Rl_compareTrails_220 (by decide) h (fun h => ?_) (fun h => ?_)
  · refine r_iload hK d_Rl_compareTrails_233 4 rfl ?_
    refine r_istore (ls1 := [(7, g_i x7), (6, g_i x0s), (0, g_r 5 r0), (4, g_i x4), (5, g_i x5), (8, g_i x8), (10, g_i x10)]) hK d_Rl_compareTrails_235 (by rw [hN]; decide) rfl ?_
    refine r_iinc (ls1 := [(8, g_i (x8 + (-1))), (7, g_i x7), (6, g_i x0s), (0, g_r 5 r0), (4, g_i x4), (5, g_i x5), (10, g_i x10)]) hK d_Rl_compareTrails_237 5 rfl rfl (by rw [hN]; decide) rfl ?_
    refine r_goto (tgt := 89) hK d_Rl_compareTrails_240 (by decide) ?_
    exact r_sub [3, 4, 5, 2, 1, 0] rfl (hk89 _ _ _ _ _ _ _ h)
  · refine r_aload_n hK d_Rl_compareTrails_223 rfl 1 rfl ?_
    refine r_gR hK fd_Rl_2 w1_130 d_Rl_compareTrails_224 h (fun p1 h => ?_)
    refine r_iload hK d_Rl_compareTrails_227 4 rfl ?_
    refine r_iaload hK ar_20 rfl d_Rl_compareTrails_229 h (fun i2 h => ?_)
    refine r_goto (tgt := 235) hK d_Rl_compareTrails_230 (by decide) ?_
    refine r_istore (ls1 := [(7, g_i i2), (6, g_i x0s), (0, g_r 5 r0), (4, g_i x4), (5, g_i x5), (8, g_i x8), (10, g_i x10)]) hK d_Rl_compareTrails_235 (by rw [hN]; decide) rfl ?_
    refine r_iinc (ls1 := [(8, g_i (x8 + (-1))), (7, g_i i2), (6, g_i x0s), (0, g_r 5 r0), (4, g_i x4), (5, g_i x5), (10, g_i x10)]) hK d_Rl_compareTrails_237 5 rfl rfl (by rw [hN]; decide) rfl ?_
    refine r_goto (tgt := 89) hK d_Rl_compareTrails_240 (by decide) ?_
    exact r_sub [3, 4, 5, 2, 1, 0] rfl (hk89 _ _ _ _ _ _ _ h)
set_option maxHeartbeats 4000000 in
set_option maxRecDepth 100000 in
theorem t_Rl_compareTrails_197 {K : g_C} {o : (Int32 × g_St)} (hK : g_OK K b_Rl_compareTrails "FixpointEngine$Relation" "compareTrails" (Option.some Jvm.ClassFile.FieldType.int)) (hN : g_nL K = 12) (hD : g_Kd K = 7) {k89 : Option Nat → Int32 → Int32 → Int32 → Int32 → Int32 → g_St → Option (Int32 × g_St)} (hk89 : ∀ (r0 : Option Nat) (x4 : Int32) (x5 : Int32) (x6 : Int32) (x7 : Int32) (x8 : Int32) (s0 : g_St), k89 r0 x4 x5 x6 x7 x8 s0 = some o → g_W K s0 [(0, g_r 5 r0), (4, g_i x4), (5, g_i x5), (6, g_i x6), (7, g_i x7), (8, g_i x8)] [] 89 (g_jI o)) : ∀ (r0 : Option Nat) (x4 : Int32) (x6 : Int32) (x7 : Int32) (x8 : Int32) (x9 : Int32) (x10 : Int32) (x0s : Int32) (s0 : g_St), f_Rl_compareTrails_197 k89 r0 x4 x6 x7 x8 x9 x10 x0s s0 = some o → g_W K s0 [(0, g_r 5 r0), (4, g_i x4), (6, g_i x6), (7, g_i x7), (8, g_i x8), (9, g_i x9), (10, g_i x10)] [g_i x0s] 197 (g_jI o) := by
  intro r0 x4 x6 x7 x8 x9 x10 x0s s0 h
  unfold f_Rl_compareTrails_197 at h
  refine r_istore (ls1 := [(5, g_i x0s), (0, g_r 5 r0), (4, g_i x4), (6, g_i x6), (7, g_i x7), (8, g_i x8), (9, g_i x9), (10, g_i x10)]) hK d_Rl_compareTrails_197 (by rw [hN]; decide) rfl ?_
  refine r_iload hK d_Rl_compareTrails_199 6 rfl ?_
  refine r_ifeq (tgt := 214) hK d_Rl_compareTrails_201 (by decide) h (fun h => ?_) (fun h => ?_)
  · refine r_iload hK d_Rl_compareTrails_214 3 rfl ?_
    exact r_sub [1, 2, 0, 4, 5, 7] rfl (t_Rl_compareTrails_216 hK hN hD hk89 _ _ _ _ _ _ _ _ h)
  · refine r_aload_n hK d_Rl_compareTrails_204 rfl 1 rfl ?_
    refine r_gR hK fd_Rl_2 w1_130 d_Rl_compareTrails_205 h (fun p1 h => ?_)
    refine r_iload hK d_Rl_compareTrails_208 3 rfl ?_
    refine r_iaload hK ar_20 rfl d_Rl_compareTrails_210 h (fun i2 h => ?_)
    refine r_goto (tgt := 216) hK d_Rl_compareTrails_211 (by decide) ?_
    exact r_sub [1, 2, 0, 4, 5, 7] rfl (t_Rl_compareTrails_216 hK hN hD hk89 _ _ _ _ _ _ _ _ h)
set_option maxHeartbeats 4000000 in
set_option maxRecDepth 100000 in
theorem t_Rl_compareTrails_183 {K : g_C} {o : (Int32 × g_St)} (hK : g_OK K b_Rl_compareTrails "FixpointEngine$Relation" "compareTrails" (Option.some Jvm.ClassFile.FieldType.int)) (hN : g_nL K = 12) (hD : g_Kd K = 7) {k89 : Option Nat → Int32 → Int32 → Int32 → Int32 → Int32 → g_St → Option (Int32 × g_St)} (hk89 : ∀ (r0 : Option Nat) (x4 : Int32) (x5 : Int32) (x6 : Int32) (x7 : Int32) (x8 : Int32) (s0 : g_St), k89 r0 x4 x5 x6 x7 x8 s0 = some o → g_W K s0 [(0, g_r 5 r0), (4, g_i x4), (5, g_i x5), (6, g_i x6), (7, g_i x7), (8, g_i x8)] [] 89 (g_jI o)) : ∀ (r0 : Option Nat) (x4 : Int32) (x5 : Int32) (x6 : Int32) (x7 : Int32) (x8 : Int32) (x9 : Int32) (x10 : Int32) (x0s : Int32) (s0 : g_St), f_Rl_compareTrails_183 k89 r0 x4 x5 x6 x7 x8 x9 x10 x0s s0 = some o → g_W K s0 [(0, g_r 5 r0), (4, g_i x4), (5, g_i x5), (6, g_i x6), (7, g_i x7), (8, g_i x8), (9, g_i x9), (10, g_i x10)] [g_i x0s] 183 (g_jI o) := by
  intro r0 x4 x5 x6 x7 x8 x9 x10 x0s s0 h
  unfold f_Rl_compareTrails_183 at h
  refine r_istore (ls1 := [(11, g_i x0s), (0, g_r 5 r0), (4, g_i x4), (5, g_i x5), (6, g_i x6), (7, g_i x7), (8, g_i x8), (9, g_i x9), (10, g_i x10)]) hK d_Rl_compareTrails_183 (by rw [hN]; decide) rfl ?_
  refine r_iload hK d_Rl_compareTrails_185 0 rfl ?_
  refine r_ifeq (tgt := 195) hK d_Rl_compareTrails_187 (by decide) h (fun h => ?_) (fun h => ?_)
  · refine r_iload hK d_Rl_compareTrails_195 3 rfl ?_
    exact r_sub [1, 2, 4, 5, 6, 7, 8] rfl (t_Rl_compareTrails_197 hK hN hD hk89 _ _ _ _ _ _ _ _ _ h)
  · refine r_iload hK d_Rl_compareTrails_190 0 rfl ?_
    refine r_goto (tgt := 197) hK d_Rl_compareTrails_192 (by decide) ?_
    exact r_sub [1, 2, 4, 5, 6, 7, 8] rfl (t_Rl_compareTrails_197 hK hN hD hk89 _ _ _ _ _ _ _ _ _ h)
set_option maxHeartbeats 4000000 in
set_option maxRecDepth 100000 in
theorem t_Rl_compareTrails_140 {K : g_C} {o : (Int32 × g_St)} (hK : g_OK K b_Rl_compareTrails "FixpointEngine$Relation" "compareTrails" (Option.some Jvm.ClassFile.FieldType.int)) (hN : g_nL K = 12) (hD : g_Kd K = 7) {k89 : Option Nat → Int32 → Int32 → Int32 → Int32 → Int32 → g_St → Option (Int32 × g_St)} (hk89 : ∀ (r0 : Option Nat) (x4 : Int32) (x5 : Int32) (x6 : Int32) (x7 : Int32) (x8 : Int32) (s0 : g_St), k89 r0 x4 x5 x6 x7 x8 s0 = some o → g_W K s0 [(0, g_r 5 r0), (4, g_i x4), (5, g_i x5), (6, g_i x6), (7, g_i x7), (8, g_i x8)] [] 89 (g_jI o)) : ∀ (r0 : Option Nat) (x4 : Int32) (x5 : Int32) (x6 : Int32) (x7 : Int32) (x8 : Int32) (x9 : Int32) (x0s : Int32) (s0 : g_St), f_Rl_compareTrails_140 k89 r0 x4 x5 x6 x7 x8 x9 x0s s0 = some o → g_W K s0 [(0, g_r 5 r0), (4, g_i x4), (5, g_i x5), (6, g_i x6), (7, g_i x7), (8, g_i x8), (9, g_i x9)] [g_i x0s] 140 (g_jI o) := by
  intro r0 x4 x5 x6 x7 x8 x9 x0s s0 h
  unfold f_Rl_compareTrails_140 at h
  refine r_istore (ls1 := [(10, g_i x0s), (0, g_r 5 r0), (4, g_i x4), (5, g_i x5), (6, g_i x6), (7, g_i x7), (8, g_i x8), (9, g_i x9)]) hK d_Rl_compareTrails_140 (by rw [hN]; decide) rfl ?_
  refine r_iload hK d_Rl_compareTrails_142 7 rfl ?_
  refine r_ifeq (tgt := 182) hK d_Rl_compareTrails_144 (by decide) h (fun h => ?_) (fun h => ?_)
  · refine r_iconst (v := 0) hK d_Rl_compareTrails_182 (by decide) ?_
    exact r_sub [1, 2, 3, 4, 5, 6, 7, 0] rfl (t_Rl_compareTrails_183 hK hN hD hk89 _ _ _ _ _ _ _ _ _ _ h)
  · refine r_iload hK d_Rl_compareTrails_147 0 rfl ?_
    refine r_ifeq (tgt := 182) hK d_Rl_compareTrails_149 (by decide) h (fun h => ?_) (fun h => ?_)
    · refine r_iconst (v := 0) hK d_Rl_compareTrails_182 (by decide) ?_
      exact r_sub [1, 2, 3, 4, 5, 6, 7, 0] rfl (t_Rl_compareTrails_183 hK hN hD hk89 _ _ _ _ _ _ _ _ _ _ h)
    · refine r_aload_n hK d_Rl_compareTrails_152 rfl 1 rfl ?_
      refine r_gR hK fd_Rl_1 w1_125 d_Rl_compareTrails_153 h (fun p1 h => ?_)
      refine r_iload hK d_Rl_compareTrails_156 4 rfl ?_
      refine r_iconst (v := 4) hK d_Rl_compareTrails_158 (by decide) ?_
      refine r_imul hK d_Rl_compareTrails_159 ?_
      refine r_iload hK d_Rl_compareTrails_160 2 rfl ?_
      refine r_iadd hK d_Rl_compareTrails_162 ?_
      refine r_laload hK ar_21 rfl d_Rl_compareTrails_163 h (fun j2 h => ?_)
      refine r_aload_n hK d_Rl_compareTrails_164 rfl 1 rfl ?_
      refine r_gR hK fd_Rl_1 w1_125 d_Rl_compareTrails_165 h (fun p3 h => ?_)
      refine r_iload hK d_Rl_compareTrails_168 5 rfl ?_
      refine r_iconst (v := 4) hK d_Rl_compareTrails_170 (by decide) ?_
      refine r_imul hK d_Rl_compareTrails_171 ?_
      refine r_iload hK d_Rl_compareTrails_172 2 rfl ?_
      refine r_iadd hK d_Rl_compareTrails_174 ?_
      refine r_laload hK ar_21 rfl d_Rl_compareTrails_175 h (fun j4 h => ?_)
      refine r_Si (avL := [g_l j2, g_l j4]) (st := []) hK w6_202 w6_215 w6_203 w1_5 (by decide) pl_Rl_compareCells (by rw [hD]; decide) (Nat.le_of_ble_eq_true rfl) rfl d_Rl_compareTrails_176 (fun o9 h9 => c_Rl_compareCells _ _ _ _ _ o9 h9) h (fun i5 s6 h => ?_)
      refine r_goto (tgt := 183) hK d_Rl_compareTrails_179 (by decide) ?_
      exact r_sub [1, 2, 3, 4, 5, 6, 7, 0] rfl (t_Rl_compareTrails_183 hK hN hD hk89 _ _ _ _ _ _ _ _ _ _ h)
set_option maxHeartbeats 4000000 in
set_option maxRecDepth 100000 in
theorem t_Rl_compareTrails_121 {K : g_C} {o : (Int32 × g_St)} (hK : g_OK K b_Rl_compareTrails "FixpointEngine$Relation" "compareTrails" (Option.some Jvm.ClassFile.FieldType.int)) (hN : g_nL K = 12) (hD : g_Kd K = 7) {k89 : Option Nat → Int32 → Int32 → Int32 → Int32 → Int32 → g_St → Option (Int32 × g_St)} (hk89 : ∀ (r0 : Option Nat) (x4 : Int32) (x5 : Int32) (x6 : Int32) (x7 : Int32) (x8 : Int32) (s0 : g_St), k89 r0 x4 x5 x6 x7 x8 s0 = some o → g_W K s0 [(0, g_r 5 r0), (4, g_i x4), (5, g_i x5), (6, g_i x6), (7, g_i x7), (8, g_i x8)] [] 89 (g_jI o)) : ∀ (r0 : Option Nat) (x4 : Int32) (x5 : Int32) (x6 : Int32) (x7 : Int32) (x8 : Int32) (x0s : Int32) (s0 : g_St), f_Rl_compareTrails_121 k89 r0 x4 x5 x6 x7 x8 x0s s0 = some o → g_W K s0 [(0, g_r 5 r0), (4, g_i x4), (5, g_i x5), (6, g_i x6), (7, g_i x7), (8, g_i x8)] [g_i x0s] 121 (g_jI o) := by
  intro r0 x4 x5 x6 x7 x8 x0s s0 h
  unfold f_Rl_compareTrails_121 at h
  refine r_istore (ls1 := [(9, g_i x0s), (0, g_r 5 r0), (4, g_i x4), (5, g_i x5), (6, g_i x6), (7, g_i x7), (8, g_i x8)]) hK d_Rl_compareTrails_121 (by rw [hN]; decide) rfl ?_
  refine r_aload_n hK d_Rl_compareTrails_123 rfl 1 rfl ?_
  refine r_gR hK fd_Rl_3 w1_131 d_Rl_compareTrails_124 h (fun p1 h => ?_)
  refine r_iload hK d_Rl_compareTrails_127 5 rfl ?_
  refine r_iaload hK ar_20 rfl d_Rl_compareTrails_129 h (fun i2 h => ?_)
  refine r_iload hK d_Rl_compareTrails_130 6 rfl ?_
  refine r_if_icmpne (tgt := 139) hK d_Rl_compareTrails_132 (by decide) h (fun h => ?_) (fun h => ?_)
  · refine r_iconst (v := 0) hK d_Rl_compareTrails_139 (by decide) ?_
    exact r_sub [1, 2, 3, 4, 5, 6, 0] rfl (t_Rl_compareTrails_140 hK hN hD hk89 _ _ _ _ _ _ _ _ _ h)
  · refine r_iconst (v := 1) hK d_Rl_compareTrails_135 (by decide) ?_
    refine r_goto (tgt := 140) hK d_Rl_compareTrails_136 (by decide) ?_
    exact r_sub [1, 2, 3, 4, 5, 6, 0] rfl (t_Rl_compareTrails_140 hK hN hD hk89 _ _ _ _ _ _ _ _ _ h)
set_option maxHeartbeats 4000000 in
set_option maxRecDepth 100000 in
theorem t_Rl_compareTrails_89 {K : g_C} {o : (Int32 × g_St)} (hK : g_OK K b_Rl_compareTrails "FixpointEngine$Relation" "compareTrails" (Option.some Jvm.ClassFile.FieldType.int)) (hN : g_nL K = 12) (hD : g_Kd K = 7) : ∀ (n : Nat) (r0 : Option Nat) (x4 : Int32) (x5 : Int32) (x6 : Int32) (x7 : Int32) (x8 : Int32) (s0 : g_St), f_Rl_compareTrails_89 n r0 x4 x5 x6 x7 x8 s0 = some o → g_W K s0 [(0, g_r 5 r0), (4, g_i x4), (5, g_i x5), (6, g_i x6), (7, g_i x7), (8, g_i x8)] [] 89 (g_jI o) := by
  intro n
  induction n with
  | zero =>
    intro r0 x4 x5 x6 x7 x8 s0 h
    cases h
  | succ n ih =>
    intro r0 x4 x5 x6 x7 x8 s0 h
    unfold f_Rl_compareTrails_89 at h
    refine r_iload hK d_Rl_compareTrails_89 5 rfl ?_
    refine r_ifle (tgt := 243) hK d_Rl_compareTrails_91 (by decide) h (fun h => ?_) (fun h => ?_)
    · refine r_iload hK d_Rl_compareTrails_243 2 rfl ?_
      exact r_ireturn hK d_Rl_compareTrails_245 h
    · refine r_iload hK d_Rl_compareTrails_94 3 rfl ?_
      refine r_iflt (tgt := 243) hK d_Rl_compareTrails_96 (by decide) h (fun h => ?_) (fun h => ?_)
      · refine r_iload hK d_Rl_compareTrails_243 2 rfl ?_
        exact r_ireturn hK d_Rl_compareTrails_245 h
      · refine r_iload hK d_Rl_compareTrails_99 4 rfl ?_
        refine r_iflt (tgt := 243) hK d_Rl_compareTrails_101 (by decide) h (fun h => ?_) (fun h => ?_)
        · refine r_iload hK d_Rl_compareTrails_243 2 rfl ?_
          exact r_ireturn hK d_Rl_compareTrails_245 h
        · refine r_aload_n hK d_Rl_compareTrails_104 rfl 0 rfl ?_
          refine r_gR hK fd_Rl_3 w1_131 d_Rl_compareTrails_105 h (fun p1 h => ?_)
          refine r_iload hK d_Rl_compareTrails_108 3 rfl ?_
          refine r_iaload hK ar_20 rfl d_Rl_compareTrails_110 h (fun i2 h => ?_)
          refine r_iload hK d_Rl_compareTrails_111 5 rfl ?_
          refine r_if_icmpne (tgt := 120) hK d_Rl_compareTrails_113 (by decide) h (fun h => ?_) (fun h => ?_)
          · refine r_iconst (v := 0) hK d_Rl_compareTrails_120 (by decide) ?_
            exact r_sub [0, 1, 2, 3, 4, 5] rfl (t_Rl_compareTrails_121 hK hN hD ih _ _ _ _ _ _ _ _ h)
          · refine r_iconst (v := 1) hK d_Rl_compareTrails_116 (by decide) ?_
            refine r_goto (tgt := 121) hK d_Rl_compareTrails_117 (by decide) ?_
            exact r_sub [0, 1, 2, 3, 4, 5] rfl (t_Rl_compareTrails_121 hK hN hD ih _ _ _ _ _ _ _ _ h)
set_option maxHeartbeats 4000000 in
set_option maxRecDepth 100000 in
theorem t_Rl_compareTrails_0 {K : g_C} {o : (Int32 × g_St)} (hK : g_OK K b_Rl_compareTrails "FixpointEngine$Relation" "compareTrails" (Option.some Jvm.ClassFile.FieldType.int)) (hN : g_nL K = 12) (hD : g_Kd K = 7) : ∀ (r0 : Option Nat) (r1 : Option Nat) (x2 : Int32) (x3 : Int32) (s0 : g_St), f_Rl_compareTrails r0 r1 x2 x3 s0 = some o → g_W K s0 [(0, g_r 5 r0), (1, g_r 7 r1), (2, g_i x2), (3, g_i x3)] [] 0 (g_jI o) := by
  intro r0 r1 x2 x3 s0 h
  unfold f_Rl_compareTrails at h
  refine r_aload_n hK d_Rl_compareTrails_0 rfl 1 rfl ?_
  refine r_gI hK fd_Pa_16 w3_143 d_Rl_compareTrails_1 h (fun i1 h => ?_)
  refine r_istore (ls1 := [(4, g_i i1), (0, g_r 5 r0), (1, g_r 7 r1), (2, g_i x2), (3, g_i x3)]) hK d_Rl_compareTrails_4 (by rw [hN]; decide) rfl ?_
  refine r_aload_n hK d_Rl_compareTrails_6 rfl 1 rfl ?_
  refine r_gR hK fd_Rl_3 w1_131 d_Rl_compareTrails_7 h (fun p2 h => ?_)
  refine r_iload_n hK d_Rl_compareTrails_10 rfl 3 rfl ?_
  refine r_iaload hK ar_20 rfl d_Rl_compareTrails_11 h (fun i3 h => ?_)
  refine r_aload_n hK d_Rl_compareTrails_12 rfl 1 rfl ?_
  refine r_gR hK fd_Rl_3 w1_131 d_Rl_compareTrails_13 h (fun p4 h => ?_)
  refine r_iload_n hK d_Rl_compareTrails_16 rfl 4 rfl ?_
  refine r_iaload hK ar_20 rfl d_Rl_compareTrails_17 h (fun i5 h => ?_)
  refine r_Si (avL := [g_i i3, g_i i5]) (st := []) hK w6_213 w6_212 w6_214 w1_32 (by decide) pl_In_compare (by rw [hD]; decide) (Nat.le_of_ble_eq_true rfl) rfl d_Rl_compareTrails_18 (fun o9 h9 => c_In_compare _ _ _ _ _ o9 h9) h (fun i6 s7 h => ?_)
  refine r_istore (ls1 := [(5, g_i i6), (4, g_i i1), (0, g_r 5 r0), (1, g_r 7 r1), (2, g_i x2), (3, g_i x3)]) hK d_Rl_compareTrails_21 (by rw [hN]; decide) rfl ?_
  refine r_aload_n hK d_Rl_compareTrails_23 rfl 3 rfl ?_
  refine r_gI hK fd_Pa_5 w3_108 d_Rl_compareTrails_24 h (fun i8 h => ?_)
  refine r_ifeq (tgt := 66) hK d_Rl_compareTrails_27 (by decide) h (fun h => ?_) (fun h => ?_)
  · refine r_iload_n hK d_Rl_compareTrails_66 rfl 4 rfl ?_
    refine r_istore (ls1 := [(6, g_i x2), (5, g_i i6), (4, g_i i1), (0, g_r 5 r0), (1, g_r 7 r1), (2, g_i x2), (3, g_i x3)]) hK d_Rl_compareTrails_67 (by rw [hN]; decide) rfl ?_
    refine r_iload_n hK d_Rl_compareTrails_69 rfl 6 rfl ?_
    refine r_istore (ls1 := [(7, g_i x3), (6, g_i x2), (5, g_i i6), (4, g_i i1), (0, g_r 5 r0), (1, g_r 7 r1), (2, g_i x2), (3, g_i x3)]) hK d_Rl_compareTrails_70 (by rw [hN]; decide) rfl ?_
    refine r_aload_n hK d_Rl_compareTrails_72 rfl 4 rfl ?_
    refine r_gR hK fd_Rl_3 w1_131 d_Rl_compareTrails_73 h (fun p9 h => ?_)
    refine r_iload_n hK d_Rl_compareTrails_76 rfl 6 rfl ?_
    refine r_iaload hK ar_20 rfl d_Rl_compareTrails_77 h (fun i10 h => ?_)
    refine r_aload_n hK d_Rl_compareTrails_78 rfl 4 rfl ?_
    refine r_gR hK fd_Rl_3 w1_131 d_Rl_compareTrails_79 h (fun p11 h => ?_)
    refine r_iload_n hK d_Rl_compareTrails_82 rfl 7 rfl ?_
    refine r_iaload hK ar_20 rfl d_Rl_compareTrails_83 h (fun i12 h => ?_)
    refine r_mmax hK w6_216 (by rw [hD]; decide) (Nat.le_of_ble_eq_true rfl) d_Rl_compareTrails_84 ?_
    refine r_istore (ls1 := [(8, g_i (if i10 < i12 then i12 else i10)), (7, g_i x3), (6, g_i x2), (5, g_i i6), (4, g_i i1), (0, g_r 5 r0), (1, g_r 7 r1), (2, g_i x2), (3, g_i x3)]) hK d_Rl_compareTrails_87 (by rw [hN]; decide) rfl ?_
    exact r_sub [5, 4, 3, 2, 1, 0] rfl (t_Rl_compareTrails_89 hK hN hD _ _ _ _ _ _ _ _ h)
  · refine r_iload hK d_Rl_compareTrails_30 0 rfl ?_
    refine r_ifeq (tgt := 40) hK d_Rl_compareTrails_32 (by decide) h (fun h => ?_) (fun h => ?_)
    · refine r_aload_n hK d_Rl_compareTrails_40 rfl 2 rfl ?_
      refine r_gR hK fd_Rl_1 w1_125 d_Rl_compareTrails_41 h (fun p13 h => ?_)
      refine r_iload_n hK d_Rl_compareTrails_44 rfl 4 rfl ?_
      refine r_iconst (v := 4) hK d_Rl_compareTrails_45 (by decide) ?_
      refine r_imul hK d_Rl_compareTrails_46 ?_
      refine r_iload hK d_Rl_compareTrails_47 1 rfl ?_
      refine r_iadd hK d_Rl_compareTrails_49 ?_
      refine r_laload hK ar_21 rfl d_Rl_compareTrails_50 h (fun j14 h => ?_)
      refine r_aload_n hK d_Rl_compareTrails_51 rfl 2 rfl ?_
      refine r_gR hK fd_Rl_1 w1_125 d_Rl_compareTrails_52 h (fun p15 h => ?_)
      refine r_iload_n hK d_Rl_compareTrails_55 rfl 5 rfl ?_
      refine r_iconst (v := 4) hK d_Rl_compareTrails_56 (by decide) ?_
      refine r_imul hK d_Rl_compareTrails_57 ?_
      refine r_iload hK d_Rl_compareTrails_58 1 rfl ?_
      refine r_iadd hK d_Rl_compareTrails_60 ?_
      refine r_laload hK ar_21 rfl d_Rl_compareTrails_61 h (fun j16 h => ?_)
      refine r_Si (avL := [g_l j14, g_l j16]) (st := []) hK w6_202 w6_215 w6_203 w1_5 (by decide) pl_Rl_compareCells (by rw [hD]; decide) (Nat.le_of_ble_eq_true rfl) rfl d_Rl_compareTrails_62 (fun o9 h9 => c_Rl_compareCells _ _ _ _ _ o9 h9) h (fun i17 s18 h => ?_)
      exact r_ireturn hK d_Rl_compareTrails_65 h
    · refine r_iload hK d_Rl_compareTrails_35 0 rfl ?_
      refine r_goto (tgt := 65) hK d_Rl_compareTrails_37 (by decide) ?_
      exact r_ireturn hK d_Rl_compareTrails_65 h
theorem c_Rl_compareTrails (l : Launch) (G : g_G) (r0 : Option Nat) (r1 : Option Nat) (x2 : Int32) (x3 : Int32) (u : g_St) (o : (Int32 × g_St)) (h : f_Rl_compareTrails r0 r1 x2 x3 u = some o) : g_Con l G y_Rl_compareTrails b_Rl_compareTrails 12 (Option.some Jvm.ClassFile.FieldType.int) 7 [g_r 5 r0, g_r 7 r1, g_i x2, g_i x3] u (g_jI o) :=
  g_Con.of rfl rfl (by decide +kernel) (Nat.le_of_ble_eq_true rfl) (fun K hK hN hD hX => t_Rl_compareTrails_0 hK hN hD _ _ _ _ _ h)
