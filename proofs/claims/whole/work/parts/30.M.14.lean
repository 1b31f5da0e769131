def f_M_round_161 (k100 : Option Nat → Int32 → Int32 → Int32 → Int32 → Int32 → Int32 → Int32 → Int32 → g_St → Option (Unit × g_St)) (r0 : Option Nat) (x1 : Int32) (x2 : Int32) (x3 : Int32) (x4 : Int32) (x5 : Int32) (x6 : Int32) (x7 : Int32) (x8 : Int32) (x9 : Int32) (s0 : g_St) : Option (Unit × g_St) :=
  g_c (g_nn r0 (f_M_workOut r0 x9 x5 x2 x3 s0)) fun _ s2 =>
  k100 r0 x1 x2 x3 x4 x5 x6 x7 (x8 + 1) s2
def f_M_round_147 (k100 : Option Nat → Int32 → Int32 → Int32 → Int32 → Int32 → Int32 → Int32 → Int32 → g_St → Option (Unit × g_St)) (r0 : Option Nat) (x1 : Int32) (x2 : Int32) (x3 : Int32) (x4 : Int32) (x5 : Int32) (x6 : Int32) (x7 : Int32) (x8 : Int32) (x9 : Int32) (x0s : Int32) (s0 : g_St) : Option (Unit × g_St) :=
  if x7 = 0 then
    f_M_round_161 k100 r0 x1 x2 x3 x4 x5 x6 x7 x8 x9 s0
  else
    if x0s = x4 then
      k100 r0 x1 x2 x3 x4 x5 x6 x7 (x8 + 1) s0
    else
      f_M_round_161 k100 r0 x1 x2 x3 x4 x5 x6 x7 x8 x9 s0
def f_M_round_100 (k48 : Option Nat → Int32 → Int32 → Int32 → Int32 → Int32 → Int32 → g_St → Option (Unit × g_St)) : Nat → Option Nat → Int32 → Int32 → Int32 → Int32 → Int32 → Int32 → Int32 → Int32 → g_St → Option (Unit × g_St)
  | 0, _, _, _, _, _, _, _, _, _, _ => none
  | n + 1, r0, x1, x2, x3, x4, x5, x6, x7, x8, s0 =>
    g_gR s0 2049 r0 fun p1 =>
    g_aI s0 p1 x6 fun i2 =>
    if i2 ≤ x8 then
      k48 r0 x1 x2 x3 x4 x5 (x6 + 1) s0
    else
      g_gI s0 1 r0 fun i3 =>
      if i3 = 0 then
        g_gR s0 1985 r0 fun p4 =>
        g_aI s0 p4 x6 fun i5 =>
        g_c (g_nn r0 (f_M_timesNamed r0 (i5 + x8) x6 s0)) fun i6 s7 =>
        if i6 ≤ 0 then
          f_M_round_147 (f_M_round_100 k48 n) r0 x1 x2 x3 x4 x5 x6 x7 x8 (i5 + x8) 0 s7
        else
          f_M_round_147 (f_M_round_100 k48 n) r0 x1 x2 x3 x4 x5 x6 x7 x8 (i5 + x8) 1 s7
      else
        k48 r0 x1 x2 x3 x4 x5 (x6 + 1) s0
def f_M_round_48 : Nat → Option Nat → Int32 → Int32 → Int32 → Int32 → Int32 → Int32 → g_St → Option (Unit × g_St)
  | 0, _, _, _, _, _, _, _, _ => none
  | n + 1, r0, x1, x2, x3, x4, x5, x6, s0 =>
    g_gI s0 1153 r0 fun i1 =>
    if i1 ≤ x6 then
      some ((), s0)
    else
      g_gR s0 4801 r0 fun p2 =>
      g_aI s0 p2 x6 fun i3 =>
      if i3 = x1 then
        g_c (g_nn r0 (f_M_isRecursive r0 x6 s0)) fun i4 s5 =>
        if i4 = 0 then
          f_M_round_100 (f_M_round_48 n) 200000 r0 x1 x2 x3 x4 x5 x6 0 0 s5
        else
          g_gR s5 1921 r0 fun p6 =>
          g_aI s5 p6 x6 fun i7 =>
          if i7 = 0 then
            f_M_round_100 (f_M_round_48 n) 200000 r0 x1 x2 x3 x4 x5 x6 0 0 s5
          else
            f_M_round_100 (f_M_round_48 n) 200000 r0 x1 x2 x3 x4 x5 x6 1 0 s5
      else
        f_M_round_48 n r0 x1 x2 x3 x4 x5 (x6 + 1) s0
def f_M_round_6 : Nat → Option Nat → Int32 → Int32 → Int32 → Int32 → Int32 → Int32 → g_St → Option (Unit × g_St)
  | 0, _, _, _, _, _, _, _, _ => none
  | n + 1, r0, x1, x2, x3, x4, x5, x6, s0 =>
    g_gI s0 1153 r0 fun i1 =>
    if i1 ≤ x6 then
      f_M_round_48 200000 r0 x1 x2 x3 x4 x5 0 s0
    else
      g_gR s0 4801 r0 fun p2 =>
      g_aI s0 p2 x6 fun i3 =>
      if i3 = x1 then
        f_M_round_6 n r0 x1 x2 x3 x4 (x5 ||| (1 <<< (x6 &&& 31))) (x6 + 1) s0
      else
        f_M_round_6 n r0 x1 x2 x3 x4 (x5 ||| 0) (x6 + 1) s0
def f_M_round (r0 : Option Nat) (x1 : Int32) (x2 : Int32) (x3 : Int32) (x4 : Int32) (s0 : g_St) : Option (Unit × g_St) :=
  f_M_round_6 200000 r0 x1 x2 x3 x4 0 0 s0
set_option maxHeartbeats 4000000 in
set_option maxRecDepth 100000 in
theorem t_M_round_161 {K : g_C} {o : (Unit × g_St)} (hK : g_OK K b_M_round "FixpointEngineModel" "round" (Option.none : Option Jvm.ClassFile.FieldType)) (hN : g_nL K = 11) (hD : g_Kd K = 9) {k100 : Option Nat → Int32 → Int32 → Int32 → Int32 → Int32 → Int32 → Int32 → Int32 → g_St → Option (Unit × g_St)} (hk100 : ∀ (r0 : Option Nat) (x1 : Int32) (x2 : Int32) (x3 : Int32) (x4 : Int32) (x5 : Int32) (x6 : Int32) (x7 : Int32) (x8 : Int32) (s0 : g_St), k100 r0 x1 x2 x3 x4 x5 x6 x7 x8 s0 = some o → g_W K s0 [(0, g_r 1 r0), (1, g_i x1), (2, g_i x2), (3, g_i x3), (4, g_i x4), (5, g_i x5), (6, g_i x6), (7, g_i x7), (8, g_i x8)] [] 100 (g_jV o)) : ∀ (r0 : Option Nat) (x1 : Int32) (x2 : Int32) (x3 : Int32) (x4 : Int32) (x5 : Int32) (x6 : Int32) (x7 : Int32) (x8 : Int32) (x9 : Int32) (s0 : g_St), f_M_round_161 k100 r0 x1 x2 x3 x4 x5 x6 x7 x8 x9 s0 = some o → g_W K s0 [(0, g_r 1 r0), (1, g_i x1), (2, g_i x2), (3, g_i x3), (4, g_i x4), (5, g_i x5), (6, g_i x6), (7, g_i x7), (8, g_i x8), (9, g_i x9)] [] 161 (g_jV o) := by
  intro r0 x1 x2 x3 x4 x5 x6 x7 x8 x9 s0 h
  unfold f_M_round_161 at h
  refine r_aload_n hK d_M_round_161 rfl 0 rfl ?_
  refine r_iload hK d_M_round_162 9 rfl ?_
  refine r_iload hK d_M_round_164 5 rfl ?_
  refine r_iload_n hK d_M_round_166 rfl 2 rfl ?_
  refine r_iload_n hK d_M_round_167 rfl 3 rfl ?_
  refine r_Vv (avL := [g_i x9, g_i x5, g_i x2, g_i x3]) (st := []) hK ob_M rfl w9_103 wp_52 w9_101 w9_104 w1_6 (by decide) pl_M_workOut (by rw [hD]; decide) (Nat.le_of_ble_eq_true rfl) rfl d_M_round_168 (fun o9 h9 => c_M_workOut _ _ _ _ _ _ _ _ o9 h9) h (fun s2 h => ?_)
  refine r_iinc (ls1 := [(8, g_i (x8 + 1)), (0, g_r 1 r0), (1, g_i x1), (2, g_i x2), (3, g_i x3), (4, g_i x4), (5, g_i x5), (6, g_i x6), (7, g_i x7), (9, g_i x9)]) hK d_M_round_171 8 rfl rfl (by rw [hN]; decide) rfl ?_
  refine r_goto (tgt := 100) hK d_M_round_174 (by decide) ?_
  exact r_sub [1, 2, 3, 4, 5, 6, 7, 8, 0] rfl (hk100 _ _ _ _ _ _ _ _ _ _ h)
set_option maxHeartbeats 4000000 in
set_option maxRecDepth 100000 in
theorem t_M_round_147 {K : g_C} {o : (Unit × g_St)} (hK : g_OK K b_M_round "FixpointEngineModel" "round" (Option.none : Option Jvm.ClassFile.FieldType)) (hN : g_nL K = 11) (hD : g_Kd K = 9) {k100 : Option Nat → Int32 → Int32 → Int32 → Int32 → Int32 → Int32 → Int32 → Int32 → g_St → Option (Unit × g_St)} (hk100 : ∀ (r0 : Option Nat) (x1 : Int32) (x2 : Int32) (x3 : Int32) (x4 : Int32) (x5 : Int32) (x6 : Int32) (x7 : Int32) (x8 : Int32) (s0 : g_St), k100 r0 x1 x2 x3 x4 x5 x6 x7 x8 s0 = some o → g_W K s0 [(0, g_r 1 r0), (1, g_i x1), (2, g_i x2), (3, g_i x3), (4, g_i x4), (5, g_i x5), (6, g_i x6), (7, g_i x7), (8, g_i x8)] [] 100 (g_jV o)) : ∀ (r0 : Option Nat) (x1 : Int32) (x2 : Int32) (x3 : Int32) (x4 : Int32) (x5 : Int32) (x6 : Int32) (x7 : Int32) (x8 : Int32) (x9 : Int32) (x0s : Int32) (s0 : g_St), f_M_round_147 k100 r0 x1 x2 x3 x4 x5 x6 x7 x8 x9 x0s s0 = some o → g_W K s0 [(0, g_r 1 r0), (1, g_i x1), (2, g_i x2), (3, g_i x3), (4, g_i x4), (5, g_i x5), (6, g_i x6), (7, g_i x7), (8, g_i x8), (9, g_i x9)] [g_i x0s] 147 (g_jV o) := by
  intro r0 x1 x2 x3 x4 x5 x6 x7 x8 x9 x0s s0 h
  unfold f_M_round_147 at h
  refine r_istore (ls1 := [(10, g_i x0s), (0, g_r 1 r0), (1, g_i x1), (2, g_i x2), (3, g_i x3), (4, g_i x4), (5, g_i x5), (6, g_i x6), (7, g_i x7), (8, g_i x8), (9, g_i x9)]) hK d_M_round_147 (by rw [hN]; decide) rfl ?_
  refine r_iload hK d_M_round_149 8 rfl ?_
  refine r_ifeq (tgt := 161) hK d_M_round_151 (by decide) h (fun h => ?_) (fun h => ?_)
  · exact r_sub [1, 2, 3, 4, 5, 6, 7, 8, 9, 10] rfl (t_M_round_161 hK hN hD hk100 _ _ _ _ _ _ _ _ _ _ _ h)
  · refine r_iload hK d_M_round_154 0 rfl ?_
    refine r_iload hK d_M_round_156 5 rfl ?_
    refine r_if_icmpeq (tgt := 171) hK d_M_round_158 (by decide) h (fun h => ?_) (fun h => ?_)
    · refine r_iinc (ls1 := [(8, g_i (x8 + 1)), (10, g_i x0s), (0, g_r 1 r0), (1, g_i x1), (2, g_i x2), (3, g_i x3), (4, g_i x4), (5, g_i x5), (6, g_i x6), (7, g_i x7), (9, g_i x9)]) hK d_M_round_171 9 rfl rfl (by rw [hN]; decide) rfl ?_
      refine r_goto (tgt := 100) hK d_M_round_174 (by decide) ?_
      exact r_sub [2, 3, 4, 5, 6, 7, 8, 9, 0] rfl (hk100 _ _ _ _ _ _ _ _ _ _ h)
    · exact r_sub [1, 2, 3, 4, 5, 6, 7, 8, 9, 10] rfl (t_M_round_161 hK hN hD hk100 _ _ _ _ _ _ _ _ _ _ _ h)
set_option maxHeartbeats 4000000 in
set_option maxRecDepth 100000 in
theorem t_M_round_100 {K : g_C} {o : (Unit × g_St)} (hK : g_OK K b_M_round "FixpointEngineModel" "round" (Option.none : Option Jvm.ClassFile.FieldType)) (hN : g_nL K = 11) (hD : g_Kd K = 9) {k48 : Option Nat → Int32 → Int32 → Int32 → Int32 → Int32 → Int32 → g_St → Option (Unit × g_St)} (hk48 : ∀ (r0 : Option Nat) (x1 : Int32) (x2 : Int32) (x3 : Int32) (x4 : Int32) (x5 : Int32) (x6 : Int32) (s0 : g_St), k48 r0 x1 x2 x3 x4 x5 x6 s0 = some o → g_W K s0 [(0, g_r 1 r0), (1, g_i x1), (2, g_i x2), (3, g_i x3), (4, g_i x4), (5, g_i x5), (6, g_i x6)] [] 48 (g_jV o)) : ∀ (n : Nat) (r0 : Option Nat) (x1 : Int32) (x2 : Int32) (x3 : Int32) (x4 : Int32) (x5 : Int32) (x6 : Int32) (x7 : Int32) (x8 : Int32) (s0 : g_St), f_M_round_100 k48 n r0 x1 x2 x3 x4 x5 x6 x7 x8 s0 = some o → g_W K s0 [(0, g_r 1 r0), (1, g_i x1), (2, g_i x2), (3, g_i x3), (4, g_i x4), (5, g_i x5), (6, g_i x6), (7, g_i x7), (8, g_i x8)] [] 100 (g_jV o) := by
  intro n
  induction n with
  | zero =>
    intro r0 x1 x2 x3 x4 x5 x6 x7 x8 s0 h
    cases h
  | succ n ih =>
    intro r0 x1 x2 x3 x4 x5 x6 x7 x8 s0 h
    unfold f_M_round_100 at h
    refine r_iload hK d_M_round_100 8 rfl ?_
    refine r_aload_n hK d_M_round_102 rfl 0 rfl ?_
    refine r_gR hK fd_M_32 w7_64 d_M_round_103 h (fun p1 h => ?_)
    refine r_iload hK d_M_round_106 6 rfl ?_
    refine r_iaload hK ar_20 rfl d_M_round_108 h (fun i2 h => ?_)
    refine r_if_icmpge (tgt := 177) hK d_M_round_109 (by decide) h (fun h => ?_) (fun h => ?_)
    · refine r_iinc (ls1 := [(6, g_i (x6 + 1)), (0, g_r 1 r0), (1, g_i x1), (2, g_i x2), (3, g_i x3), (4, g_i x4), (5, g_i x5), (7, g_i x7), (8, g_i x8)]) hK d_M_round_177 6 rfl rfl (by rw [hN]; decide) rfl ?_
      refine r_goto (tgt := 48) hK d_M_round_180 (by decide) ?_
      exact r_sub [1, 2, 3, 4, 5, 6, 0] rfl (hk48 _ _ _ _ _ _ _ _ h)
    · refine r_aload_n hK d_M_round_112 rfl 0 rfl ?_
      refine r_gI hK fd_M_0 w7_32 d_M_round_113 h (fun i3 h => ?_)
      refine r_ifne (tgt := 177) hK d_M_round_116 (by decide) h (fun h => ?_) (fun h => ?_)
      · refine r_iinc (ls1 := [(6, g_i (x6 + 1)), (0, g_r 1 r0), (1, g_i x1), (2, g_i x2), (3, g_i x3), (4, g_i x4), (5, g_i x5), (7, g_i x7), (8, g_i x8)]) hK d_M_round_177 6 rfl rfl (by rw [hN]; decide) rfl ?_
        refine r_goto (tgt := 48) hK d_M_round_180 (by decide) ?_
        exact r_sub [1, 2, 3, 4, 5, 6, 0] rfl (hk48 _ _ _ _ _ _ _ _ h)
      · refine r_aload_n hK d_M_round_119 rfl 0 rfl ?_
        refine r_gR hK fd_M_31 w7_63 d_M_round_120 h (fun p4 h => ?_)
        refine r_iload hK d_M_round_123 6 rfl ?_
        refine r_iaload hK ar_20 rfl d_M_round_125 h (fun i5 h => ?_)
        refine r_iload hK d_M_round_126 8 rfl ?_
        refine r_iadd hK d_M_round_128 ?_
        refine r_istore (ls1 := [(9, g_i (i5 + x8)), (0, g_r 1 r0), (1, g_i x1), (2, g_i x2), (3, g_i x3), (4, g_i x4), (5, g_i x5), (6, g_i x6), (7, g_i x7), (8, g_i x8)]) hK d_M_round_129 (by rw [hN]; decide) rfl ?_
        refine r_aload_n hK d_M_round_131 rfl 1 rfl ?_
        refine r_iload hK d_M_round_132 0 rfl ?_
        refine r_iload hK d_M_round_134 7 rfl ?_
        refine r_Vi (avL := [g_i (i5 + x8), g_i x6]) (st := []) hK ob_M rfl w9_79 wp_49 w9_77 w9_80 w1_6 (by decide) pl_M_timesNamed (by rw [hD]; decide) (Nat.le_of_ble_eq_true rfl) rfl d_M_round_136 (fun o9 h9 => c_M_timesNamed _ _ _ _ _ _ o9 h9) h (fun i6 s7 h => ?_)
        refine r_ifle (tgt := 146) hK d_M_round_139 (by decide) h (fun h => ?_) (fun h => ?_)
        · refine r_iconst (v := 0) hK d_M_round_146 (by decide) ?_
          exact r_sub [1, 2, 3, 4, 5, 6, 7, 8, 9, 0] rfl (t_M_round_147 hK hN hD ih _ _ _ _ _ _ _ _ _ _ _ _ h)
        · refine r_iconst (v := 1) hK d_M_round_142 (by decide) ?_
          refine r_goto (tgt := 147) hK d_M_round_143 (by decide) ?_
          exact r_sub [1, 2, 3, 4, 5, 6, 7, 8, 9, 0] rfl (t_M_round_147 hK hN hD ih _ _ _ _ _ _ _ _ _ _ _ _ h)
set_option maxHeartbeats 4000000 in
set_option maxRecDepth 100000 in
theorem t_M_round_48 {K : g_C} {o : (Unit × g_St)} (hK : g_OK K b_M_round "FixpointEngineModel" "round" (Option.none : Option Jvm.ClassFile.FieldType)) (hN : g_nL K = 11) (hD : g_Kd K = 9) : ∀ (n : Nat) (r0 : Option Nat) (x1 : Int32) (x2 : Int32) (x3 : Int32) (x4 : Int32) (x5 : Int32) (x6 : Int32) (s0 : g_St), f_M_round_48 n r0 x1 x2 x3 x4 x5 x6 s0 = some o → g_W K s0 [(0, g_r 1 r0), (1, g_i x1), (2, g_i x2), (3, g_i x3), (4, g_i x4), (5, g_i x5), (6, g_i x6)] [] 48 (g_jV o) := by
  intro n
  induction n with
  | zero =>
    intro r0 x1 x2 x3 x4 x5 x6 s0 h
    cases h
  | succ n ih =>
    intro r0 x1 x2 x3 x4 x5 x6 s0 h
    unfold f_M_round_48 at h
    refine r_iload hK d_M_round_48 6 rfl ?_
    refine r_aload_n hK d_M_round_50 rfl 0 rfl ?_
    refine r_gI hK fd_M_18 w7_50 d_M_round_51 h (fun i1 h => ?_)
    refine r_if_icmpge (tgt := 183) hK d_M_round_54 (by decide) h (fun h => ?_) (fun h => ?_)
    · exact r_return hK d_M_round_183 h
    · refine r_aload_n hK d_M_round_57 rfl 0 rfl ?_
      refine r_gR hK fd_M_75 w7_107 d_M_round_58 h (fun p2 h => ?_)
      refine r_iload hK d_M_round_61 6 rfl ?_
      refine r_iaload hK ar_20 rfl d_M_round_63 h (fun i3 h => ?_)
      refine r_iload_n hK d_M_round_64 rfl 1 rfl ?_
      refine r_if_icmpeq (tgt := 71) hK d_M_round_65 (by decide) h (fun h => ?_) (fun h => ?_)
      · refine r_aload_n hK d_M_round_71 rfl 0 rfl ?_
        refine r_iload hK d_M_round_72 6 rfl ?_
        refine r_Vi (avL := [g_i x6]) (st := []) hK ob_M rfl w9_71 wp_47 w9_69 w9_72 w1_6 (by decide) pl_M_isRecursive (by rw [hD]; decide) (Nat.le_of_ble_eq_true rfl) rfl d_M_round_74 (fun o9 h9 => c_M_isRecursive _ _ _ _ _ o9 h9) h (fun i4 s5 h => ?_)
        refine r_ifeq (tgt := 94) hK d_M_round_77 (by decide) h (fun h => ?_) (fun h => ?_)
        · refine r_iconst (v := 0) hK d_M_round_94 (by decide) ?_
          refine r_istore (ls1 := [(7, g_i 0), (0, g_r 1 r0), (1, g_i x1), (2, g_i x2), (3, g_i x3), (4, g_i x4), (5, g_i x5), (6, g_i x6)]) hK d_M_round_95 (by rw [hN]; decide) rfl ?_
          refine r_iconst (v := 0) hK d_M_round_97 (by decide) ?_
          refine r_istore (ls1 := [(8, g_i 0), (7, g_i 0), (0, g_r 1 r0), (1, g_i x1), (2, g_i x2), (3, g_i x3), (4, g_i x4), (5, g_i x5), (6, g_i x6)]) hK d_M_round_98 (by rw [hN]; decide) rfl ?_
          exact r_sub [2, 3, 4, 5, 6, 7, 8, 1, 0] rfl (t_M_round_100 hK hN hD ih _ _ _ _ _ _ _ _ _ _ _ h)
        · refine r_aload_n hK d_M_round_80 rfl 0 rfl ?_
          refine r_gR hK fd_M_30 w7_62 d_M_round_81 h (fun p6 h => ?_)
          refine r_iload hK d_M_round_84 6 rfl ?_
          refine r_zaload hK ar_31 rfl d_M_round_86 h (fun i7 h => ?_)
          refine r_ifeq (tgt := 94) hK d_M_round_87 (by decide) h (fun h => ?_) (fun h => ?_)
          · refine r_iconst (v := 0) hK d_M_round_94 (by decide) ?_
            refine r_istore (ls1 := [(7, g_i 0), (0, g_r 1 r0), (1, g_i x1), (2, g_i x2), (3, g_i x3), (4, g_i x4), (5, g_i x5), (6, g_i x6)]) hK d_M_round_95 (by rw [hN]; decide) rfl ?_
            refine r_iconst (v := 0) hK d_M_round_97 (by decide) ?_
            refine r_istore (ls1 := [(8, g_i 0), (7, g_i 0), (0, g_r 1 r0), (1, g_i x1), (2, g_i x2), (3, g_i x3), (4, g_i x4), (5, g_i x5), (6, g_i x6)]) hK d_M_round_98 (by rw [hN]; decide) rfl ?_
            exact r_sub [2, 3, 4, 5, 6, 7, 8, 1, 0] rfl (t_M_round_100 hK hN hD ih _ _ _ _ _ _ _ _ _ _ _ h)
          · refine r_iconst (v := 1) hK d_M_round_90 (by decide) ?_
            refine r_goto (tgt := 95) hK d_M_round_91 (by decide) ?_
            refine r_istore (ls1 := [(7, g_i 1), (0, g_r 1 r0), (1, g_i x1), (2, g_i x2), (3, g_i x3), (4, g_i x4), (5, g_i x5), (6, g_i x6)]) hK d_M_round_95 (by rw [hN]; decide) rfl ?_
            refine r_iconst (v := 0) hK d_M_round_97 (by decide) ?_
            refine r_istore (ls1 := [(8, g_i 0), (7, g_i 1), (0, g_r 1 r0), (1, g_i x1), (2, g_i x2), (3, g_i x3), (4, g_i x4), (5, g_i x5), (6, g_i x6)]) hK d_M_round_98 (by rw [hN]; decide) rfl ?_
            exact r_sub [2, 3, 4, 5, 6, 7, 8, 1, 0] rfl (t_M_round_100 hK hN hD ih _ _ _ _ _ _ _ _ _ _ _ h)
      · refine r_goto (tgt := 177) hK d_M_round_68 (by decide) ?_
        refine r_iinc (ls1 := [(6, g_i (x6 + 1)), (0, g_r 1 r0), (1, g_i x1), (2, g_i x2), (3, g_i x3), (4, g_i x4), (5, g_i x5)]) hK d_M_round_177 6 rfl rfl (by rw [hN]; decide) rfl ?_
        refine r_goto (tgt := 48) hK d_M_round_180 (by decide) ?_
        exact r_sub [1, 2, 3, 4, 5, 6, 0] rfl (ih _ _ _ _ _ _ _ _ h)
set_option maxHeartbeats 4000000 in
set_option maxRecDepth 100000 in
theorem t_M_round_6 {K : g_C} {o : (Unit × g_St)} (hK : g_OK K b_M_round "FixpointEngineModel" "round" (Option.none : Option Jvm.ClassFile.FieldType)) (hN : g_nL K = 11) (hD : g_Kd K = 9) : ∀ (n : Nat) (r0 : Option Nat) (x1 : Int32) (x2 : Int32) (x3 : Int32) (x4 : Int32) (x5 : Int32) (x6 : Int32) (s0 : g_St), f_M_round_6 n r0 x1 x2 x3 x4 x5 x6 s0 = some o → g_W K s0 [(0, g_r 1 r0), (1, g_i x1), (2, g_i x2), (3, g_i x3), (4, g_i x4), (5, g_i x5), (6, g_i x6)] [] 6 (g_jV o) := by
  intro n
  induction n with
  | zero =>
    intro r0 x1 x2 x3 x4 x5 x6 s0 h
    cases h
  | succ n ih =>
    intro r0 x1 x2 x3 x4 x5 x6 s0 h
    unfold f_M_round_6 at h
    refine r_iload hK d_M_round_6 6 rfl ?_
    refine r_aload_n hK d_M_round_8 rfl 0 rfl ?_
    refine r_gI hK fd_M_18 w7_50 d_M_round_9 h (fun i1 h => ?_)
    refine r_if_icmpge (tgt := 45) hK d_M_round_12 (by decide) h (fun h => ?_) (fun h => ?_)
    · refine r_iconst (v := 0) hK d_M_round_45 (by decide) ?_
      refine r_istore (ls1 := [(6, g_i 0), (0, g_r 1 r0), (1, g_i x1), (2, g_i x2), (3, g_i x3), (4, g_i x4), (5, g_i x5)]) hK d_M_round_46 (by rw [hN]; decide) rfl ?_
      exact r_sub [1, 2, 3, 4, 5, 6, 0] rfl (t_M_round_48 hK hN hD _ _ _ _ _ _ _ _ _ h)
    · refine r_iload hK d_M_round_15 5 rfl ?_
      refine r_aload_n hK d_M_round_17 rfl 0 rfl ?_
      refine r_gR hK fd_M_75 w7_107 d_M_round_18 h (fun p2 h => ?_)
      refine r_iload hK d_M_round_21 6 rfl ?_
      refine r_iaload hK ar_20 rfl d_M_round_23 h (fun i3 h => ?_)
      refine r_iload_n hK d_M_round_24 rfl 1 rfl ?_
      refine r_if_icmpne (tgt := 35) hK d_M_round_25 (by decide) h (fun h => ?_) (fun h => ?_)
      · refine r_iconst (v := 0) hK d_M_round_35 (by decide) ?_
        refine r_ior hK d_M_round_36 ?_
        refine r_istore (ls1 := [(5, g_i (x5 ||| 0)), (0, g_r 1 r0), (1, g_i x1), (2, g_i x2), (3, g_i x3), (4, g_i x4), (6, g_i x6)]) hK d_M_round_37 (by rw [hN]; decide) rfl ?_
        refine r_iinc (ls1 := [(6, g_i (x6 + 1)), (5, g_i (x5 ||| 0)), (0, g_r 1 r0), (1, g_i x1), (2, g_i x2), (3, g_i x3), (4, g_i x4)]) hK d_M_round_39 6 rfl rfl (by rw [hN]; decide) rfl ?_
        refine r_goto (tgt := 6) hK d_M_round_42 (by decide) ?_
        exact r_sub [2, 3, 4, 5, 6, 1, 0] rfl (ih _ _ _ _ _ _ _ _ h)
      · refine r_iconst (v := 1) hK d_M_round_28 (by decide) ?_
        refine r_iload hK d_M_round_29 6 rfl ?_
        refine r_ishl hK d_M_round_31 ?_
        refine r_goto (tgt := 36) hK d_M_round_32 (by decide) ?_
        refine r_ior hK d_M_round_36 ?_
        refine r_istore (ls1 := [(5, g_i (x5 ||| (1 <<< (x6 &&& 31)))), (0, g_r 1 r0), (1, g_i x1), (2, g_i x2), (3, g_i x3), (4, g_i x4), (6, g_i x6)]) hK d_M_round_37 (by rw [hN]; decide) rfl ?_
        refine r_iinc (ls1 := [(6, g_i (x6 + 1)), (5, g_i (x5 ||| (1 <<< (x6 &&& 31)))), (0, g_r 1 r0), (1, g_i x1), (2, g_i x2), (3, g_i x3), (4, g_i x4)]) hK d_M_round_39 6 rfl rfl (by rw [hN]; decide) rfl ?_
        refine r_goto (tgt := 6) hK d_M_round_42 (by decide) ?_
        exact r_sub [2, 3, 4, 5, 6, 1, 0] rfl (ih _ _ _ _ _ _ _ _ h)
set_option maxHeartbeats 4000000 in
set_option maxRecDepth 100000 in
theorem t_M_round_0 {K : g_C} {o : (Unit × g_St)} (hK : g_OK K b_M_round "FixpointEngineModel" "round" (Option.none : Option Jvm.ClassFile.FieldType)) (hN : g_nL K = 11) (hD : g_Kd K = 9) : ∀ (r0 : Option Nat) (x1 : Int32) (x2 : Int32) (x3 : Int32) (x4 : Int32) (s0 : g_St), f_M_round r0 x1 x2 x3 x4 s0 = some o → g_W K s0 [(0, g_r 1 r0), (1, g_i x1), (2, g_i x2), (3, g_i x3), (4, g_i x4)] [] 0 (g_jV o) := by
  intro r0 x1 x2 x3 x4 s0 h
  unfold f_M_round at h
  refine r_iconst (v := 0) hK d_M_round_0 (by decide) ?_
  refine r_istore (ls1 := [(5, g_i 0), (0, g_r 1 r0), (1, g_i x1), (2, g_i x2), (3, g_i x3), (4, g_i x4)]) hK d_M_round_1 (by rw [hN]; decide) rfl ?_
  refine r_iconst (v := 0) hK d_M_round_3 (by decide) ?_
  refine r_istore (ls1 := [(6, g_i 0), (5, g_i 0), (0, g_r 1 r0), (1, g_i x1), (2, g_i x2), (3, g_i x3), (4, g_i x4)]) hK d_M_round_4 (by rw [hN]; decide) rfl ?_
  exact r_sub [2, 3, 4, 5, 6, 1, 0] rfl (t_M_round_6 hK hN hD _ _ _ _ _ _ _ _ _ h)
theorem c_M_round (l : Launch) (G : g_G) (r0 : Option Nat) (x1 : Int32) (x2 : Int32) (x3 : Int32) (x4 : Int32) (u : g_St) (o : (Unit × g_St)) (h : f_M_round r0 x1 x2 x3 x4 u = some o) : g_Con l G y_M_round b_M_round 11 (Option.none : Option Jvm.ClassFile.FieldType) 9 [g_r 1 r0, g_i x1, g_i x2, g_i x3, g_i x4] u (g_jV o) :=
  g_Con.of rfl rfl (by decide +kernel) (Nat.le_of_ble_eq_true rfl) (fun K hK hN hD hX => t_M_round_0 hK hN hD _ _ _ _ _ _ h)
def f_M_workComponent_197 (k107 : Option Nat → Int32 → Int32 → Int32 → Int32 → Int32 → Int32 → Int32 → g_St → Option (Unit × g_St)) (r0 : Option Nat) (x1 : Int32) (x2 : Int32) (x3 : Int32) (x4 : Int32) (x5 : Int32) (x6 : Int32) (x0s : Int32) (s0 : g_St) : Option (Unit × g_St) :=
  if x0s = 0 then
    k107 r0 x1 x2 x3 x4 x5 x6 x0s s0
  else
    g_gI s0 1 r0 fun i1 =>
    if i1 = 0 then
      if x5 = x2 then
        g_pI s0 1 r0 4 fun s2 =>
        k107 r0 x1 x2 x3 x4 x5 x6 x0s s2
      else
        k107 r0 x1 x2 x3 x4 x5 x6 x0s s0
    else
      k107 r0 x1 x2 x3 x4 x5 x6 x0s s0
def f_M_workComponent_150 (k107 : Option Nat → Int32 → Int32 → Int32 → Int32 → Int32 → Int32 → Int32 → g_St → Option (Unit × g_St)) (r0 : Option Nat) (x1 : Int32) (x2 : Int32) (x3 : Int32) (x4 : Int32) (x5 : Int32) (x8 : Int32) (r0s : Option Nat) (x1s : Int32) (x2s : Int32) (x3s : Int32) (x4s : Int32) (s0 : g_St) : Option (Unit × g_St) :=
  g_c (g_nn r0s (f_M_round r0s x1s x2s x3s x4s s0)) fun _ s2 =>
  g_gR s2 5825 r0 fun p3 =>
  g_gI s2 4929 r0 fun i4 =>
  g_sI s2 p3 ((32 * x1) + x5) (i4 - x8) fun s5 =>
  if x3 = 0 then
    f_M_workComponent_197 k107 r0 x1 x2 x3 x4 (x5 + 1) x8 0 s5
  else
    g_gI s5 4929 r0 fun i6 =>
    if i6 ≤ x8 then
      f_M_workComponent_197 k107 r0 x1 x2 x3 x4 (x5 + 1) x8 0 s5
    else
      f_M_workComponent_197 k107 r0 x1 x2 x3 x4 (x5 + 1) x8 1 s5
def f_M_workComponent_138 (k107 : Option Nat → Int32 → Int32 → Int32 → Int32 → Int32 → Int32 → Int32 → g_St → Option (Unit × g_St)) (r0 : Option Nat) (x1 : Int32) (x2 : Int32) (x3 : Int32) (x4 : Int32) (x5 : Int32) (x8 : Int32) (r0s : Option Nat) (x1s : Int32) (x2s : Int32) (s0 : g_St) : Option (Unit × g_St) :=
  if x5 = 0 then
    f_M_workComponent_150 k107 r0 x1 x2 x3 x4 x5 x8 r0s x1s x2s x8 1 s0
  else
    f_M_workComponent_150 k107 r0 x1 x2 x3 x4 x5 x8 r0s x1s x2s x8 0 s0
def f_M_workComponent_107 : Nat → Option Nat → Int32 → Int32 → Int32 → Int32 → Int32 → Int32 → Int32 → g_St → Option (Unit × g_St)
  | 0, _, _, _, _, _, _, _, _, _ => none
  | n + 1, r0, x1, x2, x3, x4, x5, x6, x7, s0 =>
    if x7 = 0 then
      g_gR s0 5761 r0 fun p1 =>
      g_sI s0 p1 x1 x5 fun s2 =>
      some ((), s2)
    else
      g_gI s0 1 r0 fun i3 =>
      if i3 = 0 then
        g_gI s0 4929 r0 fun i6 =>
        if x4 = 0 then
          f_M_workComponent_138 (f_M_workComponent_107 n) r0 x1 x2 x3 x4 x5 i6 r0 x1 0 s0
        else
          f_M_workComponent_138 (f_M_workComponent_107 n) r0 x1 x2 x3 x4 x5 i6 r0 x1 x6 s0
      else
        g_gR s0 5761 r0 fun p4 =>
        g_sI s0 p4 x1 x5 fun s5 =>
        some ((), s5)
def f_M_workComponent_46 (k8 : Option Nat → Int32 → Int32 → Int32 → Int32 → Int32 → g_St → Option (Unit × g_St)) (r0 : Option Nat) (x1 : Int32) (x2 : Int32) (x4 : Int32) (x5 : Int32) (x0s : Int32) (s0 : g_St) : Option (Unit × g_St) :=
  if x4 = 0 then
    g_gR s0 4801 r0 fun p1 =>
    g_aI s0 p1 x5 fun i2 =>
    if i2 = x1 then
      g_c (g_nn r0 (f_M_isRecursive r0 x5 s0)) fun i3 s4 =>
      if i3 = 0 then
        k8 r0 x1 x2 x0s 0 (x5 + 1) s4
      else
        g_gR s4 1921 r0 fun p5 =>
        g_aI s4 p5 x5 fun i6 =>
        if i6 = 0 then
          k8 r0 x1 x2 x0s 0 (x5 + 1) s4
        else
          k8 r0 x1 x2 x0s 1 (x5 + 1) s4
    else
      k8 r0 x1 x2 x0s 0 (x5 + 1) s0
  else
    k8 r0 x1 x2 x0s 1 (x5 + 1) s0
def f_M_workComponent_8 : Nat → Option Nat → Int32 → Int32 → Int32 → Int32 → Int32 → g_St → Option (Unit × g_St)
  | 0, _, _, _, _, _, _, _ => none
  | n + 1, r0, x1, x2, x3, x4, x5, s0 =>
    g_gI s0 1153 r0 fun i1 =>
    if i1 ≤ x5 then
      g_gI s0 4929 r0 fun i2 =>
      f_M_workComponent_107 200000 r0 x1 x2 x3 x4 0 i2 1 s0
    else
      if x3 = 0 then
        g_gR s0 4801 r0 fun p3 =>
        g_aI s0 p3 x5 fun i4 =>
        if i4 = x1 then
          g_c (g_nn r0 (f_M_isRecursive r0 x5 s0)) fun i5 s6 =>
          if i5 = 0 then
            f_M_workComponent_46 (f_M_workComponent_8 n) r0 x1 x2 x4 x5 0 s6
          else
            f_M_workComponent_46 (f_M_workComponent_8 n) r0 x1 x2 x4 x5 1 s6
        else
          f_M_workComponent_46 (f_M_workComponent_8 n) r0 x1 x2 x4 x5 0 s0
      else
        f_M_workComponent_46 (f_M_workComponent_8 n) r0 x1 x2 x4 x5 1 s0
def f_M_workComponent (r0 : Option Nat) (x1 : Int32) (x2 : Int32) (s0 : g_St) : Option (Unit × g_St) :=
  f_M_workComponent_8 200000 r0 x1 x2 0 0 0 s0
set_option maxHeartbeats 4000000 in
set_option maxRecDepth 100000 in
theorem t_M_workComponent_197 {K : g_C} {o : (Unit × g_St)} (hK : g_OK K b_M_workComponent "FixpointEngineModel" "workComponent" (Option.none : Option Jvm.ClassFile.FieldType)) (hN : g_nL K = 9) (hD : g_Kd K = 10) {k107 : Option Nat → Int32 → Int32 → Int32 → Int32 → Int32 → Int32 → Int32 → g_St → Option (Unit × g_St)} (hk107 : ∀ (r0 : Option Nat) (x1 : Int32) (x2 : Int32) (x3 : Int32) (x4 : Int32) (x5 : Int32) (x6 : Int32) (x7 : Int32) (s0 : g_St), k107 r0 x1 x2 x3 x4 x5 x6 x7 s0 = some o → g_W K s0 [(0, g_r 1 r0), (1, g_i x1), (2, g_i x2), (3, g_i x3), (4, g_i x4), (5, g_i x5), (6, g_i x6), (7, g_i x7)] [] 107 (g_jV o)) : ∀ (r0 : Option Nat) (x1 : Int32) (x2 : Int32) (x3 : Int32) (x4 : Int32) (x5 : Int32) (x6 : Int32) (x0s : Int32) (s0 : g_St), f_M_workComponent_197 k107 r0 x1 x2 x3 x4 x5 x6 x0s s0 = some o → g_W K s0 [(0, g_r 1 r0), (1, g_i x1), (2, g_i x2), (3, g_i x3), (4, g_i x4), (5, g_i x5), (6, g_i x6)] [g_i x0s] 197 (g_jV o) := by
  intro r0 x1 x2 x3 x4 x5 x6 x0s s0 h
  unfold f_M_workComponent_197 at h
  refine r_istore (ls1 := [(7, g_i x0s), (0, g_r 1 r0), (1, g_i x1), (2, g_i x2), (3, g_i x3), (4, g_i x4), (5, g_i x5), (6, g_i x6)]) hK d_M_workComponent_197 (by rw [hN]; decide) rfl ?_
  refine r_iload hK d_M_workComponent_199 0 rfl ?_
  refine r_ifeq (tgt := 222) hK d_M_workComponent_201 (by decide) h (fun h => ?_) (fun h => ?_)
  · refine r_goto (tgt := 107) hK d_M_workComponent_222 (by decide) ?_
    exact r_sub [1, 2, 3, 4, 5, 6, 7, 0] rfl (hk107 _ _ _ _ _ _ _ _ _ h)
  · refine r_aload_n hK d_M_workComponent_204 rfl 1 rfl ?_
    refine r_gI hK fd_M_0 w7_32 d_M_workComponent_205 h (fun i1 h => ?_)
    refine r_ifne (tgt := 222) hK d_M_workComponent_208 (by decide) h (fun h => ?_) (fun h => ?_)
    · refine r_goto (tgt := 107) hK d_M_workComponent_222 (by decide) ?_
      exact r_sub [1, 2, 3, 4, 5, 6, 7, 0] rfl (hk107 _ _ _ _ _ _ _ _ _ h)
    · refine r_iload hK d_M_workComponent_211 6 rfl ?_
      refine r_iload_n hK d_M_workComponent_213 rfl 3 rfl ?_
      refine r_if_icmpne (tgt := 222) hK d_M_workComponent_214 (by decide) h (fun h => ?_) (fun h => ?_)
      · refine r_goto (tgt := 107) hK d_M_workComponent_222 (by decide) ?_
        exact r_sub [1, 2, 3, 4, 5, 6, 7, 0] rfl (hk107 _ _ _ _ _ _ _ _ _ h)
      · refine r_aload_n hK d_M_workComponent_217 rfl 1 rfl ?_
        refine r_iconst (v := 4) hK d_M_workComponent_218 (by decide) ?_
        refine r_pI hK fd_M_0 rfl w7_32 d_M_workComponent_219 h (fun s2 h => ?_)
        refine r_goto (tgt := 107) hK d_M_workComponent_222 (by decide) ?_
        exact r_sub [1, 2, 3, 4, 5, 6, 7, 0] rfl (hk107 _ _ _ _ _ _ _ _ _ h)
set_option maxHeartbeats 4000000 in
set_option maxRecDepth 100000 in
theorem t_M_workComponent_150 {K : g_C} {o : (Unit × g_St)} (hK : g_OK K b_M_workComponent "FixpointEngineModel" "workComponent" (Option.none : Option Jvm.ClassFile.FieldType)) (hN : g_nL K = 9) (hD : g_Kd K = 10) {k107 : Option Nat → Int32 → Int32 → Int32 → Int32 → Int32 → Int32 → Int32 → g_St → Option (Unit × g_St)} (hk107 : ∀ (r0 : Option Nat) (x1 : Int32) (x2 : Int32) (x3 : Int32) (x4 : Int32) (x5 : Int32) (x6 : Int32) (x7 : Int32) (s0 : g_St), k107 r0 x1 x2 x3 x4 x5 x6 x7 s0 = some o → g_W K s0 [(0, g_r 1 r0), (1, g_i x1), (2, g_i x2), (3, g_i x3), (4, g_i x4), (5, g_i x5), (6, g_i x6), (7, g_i x7)] [] 107 (g_jV o)) : ∀ (r0 : Option Nat) (x1 : Int32) (x2 : Int32) (x3 : Int32) (x4 : Int32) (x5 : Int32) (x8 : Int32) (r0s : Option Nat) (x1s : Int32) (x2s : Int32) (x3s : Int32) (x4s : Int32) (s0 : g_St), f_M_workComponent_150 k107 r0 x1 x2 x3 x4 x5 x8 r0s x1s x2s x3s x4s s0 = some o → g_W K s0 [(0, g_r 1 r0), (1, g_i x1), (2, g_i x2), (3, g_i x3), (4, g_i x4), (5, g_i x5), (8, g_i x8)] [g_i x4s, g_i x3s, g_i x2s, g_i x1s, g_r 1 r0s] 150 (g_jV o) := by
  intro r0 x1 x2 x3 x4 x5 x8 r0s x1s x2s x3s x4s s0 h
  unfold f_M_workComponent_150 at h
  refine r_Vv (avL := [g_i x1s, g_i x2s, g_i x3s, g_i x4s]) (st := []) hK ob_M rfl w9_99 wp_51 w9_97 w9_100 w1_6 (by decide) pl_M_round (by rw [hD]; decide) (Nat.le_of_ble_eq_true rfl) rfl d_M_workComponent_150 (fun o9 h9 => c_M_round _ _ _ _ _ _ _ _ o9 h9) h (fun s2 h => ?_)
  refine r_iload hK d_M_workComponent_153 6 rfl ?_
  refine r_istore (ls1 := [(6, g_i x8), (0, g_r 1 r0), (1, g_i x1), (2, g_i x2), (3, g_i x3), (4, g_i x4), (5, g_i x5), (8, g_i x8)]) hK d_M_workComponent_155 (by rw [hN]; decide) rfl ?_
  refine r_aload_n hK d_M_workComponent_157 rfl 1 rfl ?_
  refine r_gR hK fd_M_91 w7_123 d_M_workComponent_158 h (fun p3 h => ?_)
  refine r_bipush (v := 32) hK d_M_workComponent_161 (by decide) ?_
  refine r_iload_n hK d_M_workComponent_163 rfl 2 rfl ?_
  refine r_imul hK d_M_workComponent_164 ?_
  refine r_iload hK d_M_workComponent_165 6 rfl ?_
  refine r_iadd hK d_M_workComponent_167 ?_
  refine r_aload_n hK d_M_workComponent_168 rfl 1 rfl ?_
  refine r_gI hK fd_M_77 w7_109 d_M_workComponent_169 h (fun i4 h => ?_)
  refine r_iload hK d_M_workComponent_172 7 rfl ?_
  refine r_isub hK d_M_workComponent_174 ?_
  refine r_iastore hK ar_20 rfl d_M_workComponent_175 h (fun s5 h => ?_)
  refine r_iinc (ls1 := [(5, g_i (x5 + 1)), (6, g_i x8), (0, g_r 1 r0), (1, g_i x1), (2, g_i x2), (3, g_i x3), (4, g_i x4), (8, g_i x8)]) hK d_M_workComponent_176 6 rfl rfl (by rw [hN]; decide) rfl ?_
  refine r_iload_n hK d_M_workComponent_179 rfl 5 rfl ?_
  refine r_ifeq (tgt := 196) hK d_M_workComponent_180 (by decide) h (fun h => ?_) (fun h => ?_)
  · refine r_iconst (v := 0) hK d_M_workComponent_196 (by decide) ?_
    exact r_sub [2, 3, 4, 5, 6, 0, 1] rfl (t_M_workComponent_197 hK hN hD hk107 _ _ _ _ _ _ _ _ _ h)
  · refine r_aload_n hK d_M_workComponent_183 rfl 2 rfl ?_
    refine r_gI hK fd_M_77 w7_109 d_M_workComponent_184 h (fun i6 h => ?_)
    refine r_iload hK d_M_workComponent_187 7 rfl ?_
    refine r_if_icmple (tgt := 196) hK d_M_workComponent_189 (by decide) h (fun h => ?_) (fun h => ?_)
    · refine r_iconst (v := 0) hK d_M_workComponent_196 (by decide) ?_
      exact r_sub [2, 3, 4, 5, 6, 0, 1] rfl (t_M_workComponent_197 hK hN hD hk107 _ _ _ _ _ _ _ _ _ h)
    · refine r_iconst (v := 1) hK d_M_workComponent_192 (by decide) ?_
      refine r_goto (tgt := 197) hK d_M_workComponent_193 (by decide) ?_
      exact r_sub [2, 3, 4, 5, 6, 0, 1] rfl (t_M_workComponent_197 hK hN hD hk107 _ _ _ _ _ _ _ _ _ h)
set_option maxHeartbeats 4000000 in
set_option maxRecDepth 100000 in
theorem t_M_workComponent_138 {K : g_C} {o : (Unit × g_St)} (hK : g_OK K b_M_workComponent "FixpointEngineModel" "workComponent" (Option.none : Option Jvm.ClassFile.FieldType)) (hN : g_nL K = 9) (hD : g_Kd K = 10) {k107 : Option Nat → Int32 → Int32 → Int32 → Int32 → Int32 → Int32 → Int32 → g_St → Option (Unit × g_St)} (hk107 : ∀ (r0 : Option Nat) (x1 : Int32) (x2 : Int32) (x3 : Int32) (x4 : Int32) (x5 : Int32) (x6 : Int32) (x7 : Int32) (s0 : g_St), k107 r0 x1 x2 x3 x4 x5 x6 x7 s0 = some o → g_W K s0 [(0, g_r 1 r0), (1, g_i x1), (2, g_i x2), (3, g_i x3), (4, g_i x4), (5, g_i x5), (6, g_i x6), (7, g_i x7)] [] 107 (g_jV o)) : ∀ (r0 : Option Nat) (x1 : Int32) (x2 : Int32) (x3 : Int32) (x4 : Int32) (x5 : Int32) (x8 : Int32) (r0s : Option Nat) (x1s : Int32) (x2s : Int32) (s0 : g_St), f_M_workComponent_138 k107 r0 x1 x2 x3 x4 x5 x8 r0s x1s x2s s0 = some o → g_W K s0 [(0, g_r 1 r0), (1, g_i x1), (2, g_i x2), (3, g_i x3), (4, g_i x4), (5, g_i x5), (8, g_i x8)] [g_i x2s, g_i x1s, g_r 1 r0s] 138 (g_jV o) := by
  intro r0 x1 x2 x3 x4 x5 x8 r0s x1s x2s s0 h
  unfold f_M_workComponent_138 at h
  refine r_iload hK d_M_workComponent_138 6 rfl ?_
  refine r_iload hK d_M_workComponent_140 5 rfl ?_
  refine r_ifne (tgt := 149) hK d_M_workComponent_142 (by decide) h (fun h => ?_) (fun h => ?_)
  · refine r_iconst (v := 0) hK d_M_workComponent_149 (by decide) ?_
    exact r_sub [0, 1, 2, 3, 4, 5, 6] rfl (t_M_workComponent_150 hK hN hD hk107 _ _ _ _ _ _ _ _ _ _ _ _ _ h)
  · refine r_iconst (v := 1) hK d_M_workComponent_145 (by decide) ?_
    refine r_goto (tgt := 150) hK d_M_workComponent_146 (by decide) ?_
    exact r_sub [0, 1, 2, 3, 4, 5, 6] rfl (t_M_workComponent_150 hK hN hD hk107 _ _ _ _ _ _ _ _ _ _ _ _ _ h)
set_option maxHeartbeats 4000000 in
set_option maxRecDepth 100000 in
theorem t_M_workComponent_107 {K : g_C} {o : (Unit × g_St)} (hK : g_OK K b_M_workComponent "FixpointEngineModel" "workComponent" (Option.none : Option Jvm.ClassFile.FieldType)) (hN : g_nL K = 9) (hD : g_Kd K = 10) : ∀ (n : Nat) (r0 : Option Nat) (x1 : Int32) (x2 : Int32) (x3 : Int32) (x4 : Int32) (x5 : Int32) (x6 : Int32) (x7 : Int32) (s0 : g_St), f_M_workComponent_107 n r0 x1 x2 x3 x4 x5 x6 x7 s0 = some o → g_W K s0 [(0, g_r 1 r0), (1, g_i x1), (2, g_i x2), (3, g_i x3), (4, g_i x4), (5, g_i x5), (6, g_i x6), (7, g_i x7)] [] 107 (g_jV o) := by
  intro n
  induction n with
  | zero =>
    intro r0 x1 x2 x3 x4 x5 x6 x7 s0 h
    cases h
  | succ n ih =>
    intro r0 x1 x2 x3 x4 x5 x6 x7 s0 h
    unfold f_M_workComponent_107 at h
    refine r_iload hK d_M_workComponent_107 7 rfl ?_
    refine r_ifeq (tgt := 225) hK d_M_workComponent_109 (by decide) h (fun h => ?_) (fun h => ?_)
    · refine r_aload_n hK d_M_workComponent_225 rfl 0 rfl ?_
      refine r_gR hK fd_M_90 w7_122 d_M_workComponent_226 h (fun p1 h => ?_)
      refine r_iload_n hK d_M_workComponent_229 rfl 1 rfl ?_
      refine r_iload hK d_M_workComponent_230 5 rfl ?_
      refine r_iastore hK ar_20 rfl d_M_workComponent_232 h (fun s2 h => ?_)
      exact r_return hK d_M_workComponent_233 h
    · refine r_aload_n hK d_M_workComponent_112 rfl 0 rfl ?_
      refine r_gI hK fd_M_0 w7_32 d_M_workComponent_113 h (fun i3 h => ?_)
      refine r_ifne (tgt := 225) hK d_M_workComponent_116 (by decide) h (fun h => ?_) (fun h => ?_)
      · refine r_aload_n hK d_M_workComponent_225 rfl 0 rfl ?_
        refine r_gR hK fd_M_90 w7_122 d_M_workComponent_226 h (fun p4 h => ?_)
        refine r_iload_n hK d_M_workComponent_229 rfl 1 rfl ?_
        refine r_iload hK d_M_workComponent_230 5 rfl ?_
        refine r_iastore hK ar_20 rfl d_M_workComponent_232 h (fun s5 h => ?_)
        exact r_return hK d_M_workComponent_233 h
      · refine r_aload_n hK d_M_workComponent_119 rfl 0 rfl ?_
        refine r_gI hK fd_M_77 w7_109 d_M_workComponent_120 h (fun i6 h => ?_)
        refine r_istore (ls1 := [(8, g_i i6), (0, g_r 1 r0), (1, g_i x1), (2, g_i x2), (3, g_i x3), (4, g_i x4), (5, g_i x5), (6, g_i x6), (7, g_i x7)]) hK d_M_workComponent_123 (by rw [hN]; decide) rfl ?_
        refine r_aload_n hK d_M_workComponent_125 rfl 1 rfl ?_
        refine r_iload_n hK d_M_workComponent_126 rfl 2 rfl ?_
        refine r_iload hK d_M_workComponent_127 5 rfl ?_
        refine r_ifeq (tgt := 137) hK d_M_workComponent_129 (by decide) h (fun h => ?_) (fun h => ?_)
        · refine r_iconst (v := 0) hK d_M_workComponent_137 (by decide) ?_
          exact r_sub [1, 2, 3, 4, 5, 6, 0] rfl (t_M_workComponent_138 hK hN hD ih _ _ _ _ _ _ _ _ _ _ _ h)
        · refine r_iload hK d_M_workComponent_132 7 rfl ?_
          refine r_goto (tgt := 138) hK d_M_workComponent_134 (by decide) ?_
          exact r_sub [1, 2, 3, 4, 5, 6, 0] rfl (t_M_workComponent_138 hK hN hD ih _ _ _ _ _ _ _ _ _ _ _ h)
set_option maxHeartbeats 4000000 in
set_option maxRecDepth 100000 in
theorem t_M_workComponent_46 {K : g_C} {o : (Unit × g_St)} (hK : g_OK K b_M_workComponent "FixpointEngineModel" "workComponent" (Option.none : Option Jvm.ClassFile.FieldType)) (hN : g_nL K = 9) (hD : g_Kd K = 10) {k8 : Option Nat → Int32 → Int32 → Int32 → Int32 → Int32 → g_St → Option (Unit × g_St)} (hk8 : ∀ (r0 : Option Nat) (x1 : Int32) (x2 : Int32) (x3 : Int32) (x4 : Int32) (x5 : Int32) (s0 : g_St), k8 r0 x1 x2 x3 x4 x5 s0 = some o → g_W K s0 [(0, g_r 1 r0), (1, g_i x1), (2, g_i x2), (3, g_i x3), (4, g_i x4), (5, g_i x5)] [] 8 (g_jV o)) : ∀ (r0 : Option Nat) (x1 : Int32) (x2 : Int32) (x4 : Int32) (x5 : Int32) (x0s : Int32) (s0 : g_St), f_M_workComponent_46 k8 r0 x1 x2 x4 x5 x0s s0 = some o → g_W K s0 [(0, g_r 1 r0), (1, g_i x1), (2, g_i x2), (4, g_i x4), (5, g_i x5)] [g_i x0s] 46 (g_jV o) := by
  intro r0 x1 x2 x4 x5 x0s s0 h
  unfold f_M_workComponent_46 at h
  refine r_istore_n (ls1 := [(3, g_i x0s), (0, g_r 1 r0), (1, g_i x1), (2, g_i x2), (4, g_i x4), (5, g_i x5)]) hK d_M_workComponent_46 rfl (by rw [hN]; decide) rfl ?_
  refine r_iload hK d_M_workComponent_47 4 rfl ?_
  refine r_ifne (tgt := 82) hK d_M_workComponent_49 (by decide) h (fun h => ?_) (fun h => ?_)
  · refine r_iconst (v := 1) hK d_M_workComponent_82 (by decide) ?_
    refine r_goto (tgt := 87) hK d_M_workComponent_83 (by decide) ?_
    refine r_istore (ls1 := [(4, g_i 1), (3, g_i x0s), (0, g_r 1 r0), (1, g_i x1), (2, g_i x2), (5, g_i x5)]) hK d_M_workComponent_87 (by rw [hN]; decide) rfl ?_
    refine r_iinc (ls1 := [(5, g_i (x5 + 1)), (4, g_i 1), (3, g_i x0s), (0, g_r 1 r0), (1, g_i x1), (2, g_i x2)]) hK d_M_workComponent_89 5 rfl rfl (by rw [hN]; decide) rfl ?_
    refine r_goto (tgt := 8) hK d_M_workComponent_92 (by decide) ?_
    exact r_sub [3, 4, 5, 2, 1, 0] rfl (hk8 _ _ _ _ _ _ _ h)
  · refine r_aload_n hK d_M_workComponent_52 rfl 1 rfl ?_
    refine r_gR hK fd_M_75 w7_107 d_M_workComponent_53 h (fun p1 h => ?_)
    refine r_iload hK d_M_workComponent_56 5 rfl ?_
    refine r_iaload hK ar_20 rfl d_M_workComponent_58 h (fun i2 h => ?_)
    refine r_iload_n hK d_M_workComponent_59 rfl 2 rfl ?_
    refine r_if_icmpne (tgt := 86) hK d_M_workComponent_60 (by decide) h (fun h => ?_) (fun h => ?_)
    · refine r_iconst (v := 0) hK d_M_workComponent_86 (by decide) ?_
      refine r_istore (ls1 := [(4, g_i 0), (3, g_i x0s), (0, g_r 1 r0), (1, g_i x1), (2, g_i x2), (5, g_i x5)]) hK d_M_workComponent_87 (by rw [hN]; decide) rfl ?_
      refine r_iinc (ls1 := [(5, g_i (x5 + 1)), (4, g_i 0), (3, g_i x0s), (0, g_r 1 r0), (1, g_i x1), (2, g_i x2)]) hK d_M_workComponent_89 5 rfl rfl (by rw [hN]; decide) rfl ?_
      refine r_goto (tgt := 8) hK d_M_workComponent_92 (by decide) ?_
      exact r_sub [3, 4, 5, 2, 1, 0] rfl (hk8 _ _ _ _ _ _ _ h)
    · refine r_aload_n hK d_M_workComponent_63 rfl 1 rfl ?_
      refine r_iload hK d_M_workComponent_64 5 rfl ?_
      refine r_Vi (avL := [g_i x5]) (st := []) hK ob_M rfl w9_71 wp_47 w9_69 w9_72 w1_6 (by decide) pl_M_isRecursive (by rw [hD]; decide) (Nat.le_of_ble_eq_true rfl) rfl d_M_workComponent_66 (fun o9 h9 => c_M_isRecursive _ _ _ _ _ o9 h9) h (fun i3 s4 h => ?_)
      refine r_ifeq (tgt := 86) hK d_M_workComponent_69 (by decide) h (fun h => ?_) (fun h => ?_)
      · refine r_iconst (v := 0) hK d_M_workComponent_86 (by decide) ?_
        refine r_istore (ls1 := [(4, g_i 0), (3, g_i x0s), (0, g_r 1 r0), (1, g_i x1), (2, g_i x2), (5, g_i x5)]) hK d_M_workComponent_87 (by rw [hN]; decide) rfl ?_
        refine r_iinc (ls1 := [(5, g_i (x5 + 1)), (4, g_i 0), (3, g_i x0s), (0, g_r 1 r0), (1, g_i x1), (2, g_i x2)]) hK d_M_workComponent_89 5 rfl rfl (by rw [hN]; decide) rfl ?_
        refine r_goto (tgt := 8) hK d_M_workComponent_92 (by decide) ?_
        exact r_sub [3, 4, 5, 2, 1, 0] rfl (hk8 _ _ _ _ _ _ _ h)
      · refine r_aload_n hK d_M_workComponent_72 rfl 1 rfl ?_
        refine r_gR hK fd_M_30 w7_62 d_M_workComponent_73 h (fun p5 h => ?_)
        refine r_iload hK d_M_workComponent_76 5 rfl ?_
        refine r_zaload hK ar_31 rfl d_M_workComponent_78 h (fun i6 h => ?_)
        refine r_ifeq (tgt := 86) hK d_M_workComponent_79 (by decide) h (fun h => ?_) (fun h => ?_)
        · refine r_iconst (v := 0) hK d_M_workComponent_86 (by decide) ?_
          refine r_istore (ls1 := [(4, g_i 0), (3, g_i x0s), (0, g_r 1 r0), (1, g_i x1), (2, g_i x2), (5, g_i x5)]) hK d_M_workComponent_87 (by rw [hN]; decide) rfl ?_
          refine r_iinc (ls1 := [(5, g_i (x5 + 1)), (4, g_i 0), (3, g_i x0s), (0, g_r 1 r0), (1, g_i x1), (2, g_i x2)]) hK d_M_workComponent_89 5 rfl rfl (by rw [hN]; decide) rfl ?_
          refine r_goto (tgt := 8) hK d_M_workComponent_92 (by decide) ?_
          exact r_sub [3, 4, 5, 2, 1, 0] rfl (hk8 _ _ _ _ _ _ _ h)
        · refine r_iconst (v := 1) hK d_M_workComponent_82 (by decide) ?_
          refine r_goto (tgt := 87) hK d_M_workComponent_83 (by decide) ?_
          refine r_istore (ls1 := [(4, g_i 1), (3, g_i x0s), (0, g_r 1 r0), (1, g_i x1), (2, g_i x2), (5, g_i x5)]) hK d_M_workComponent_87 (by rw [hN]; decide) rfl ?_
          refine r_iinc (ls1 := [(5, g_i (x5 + 1)), (4, g_i 1), (3, g_i x0s), (0, g_r 1 r0), (1, g_i x1), (2, g_i x2)]) hK d_M_workComponent_89 5 rfl rfl (by rw [hN]; decide) rfl ?_
          refine r_goto (tgt := 8) hK d_M_workComponent_92 (by decide) ?_
          exact r_sub [3, 4, 5, 2, 1, 0] rfl (hk8 _ _ _ _ _ _ _ h)
set_option maxHeartbeats 4000000 in
set_option maxRecDepth 100000 in
theorem t_M_workComponent_8 {K : g_C} {o : (Unit × g_St)} (hK : g_OK K b_M_workComponent "FixpointEngineModel" "workComponent" (Option.none : Option Jvm.ClassFile.FieldType)) (hN : g_nL K = 9) (hD : g_Kd K = 10) : ∀ (n : Nat) (r0 : Option Nat) (x1 : Int32) (x2 : Int32) (x3 : Int32) (x4 : Int32) (x5 : Int32) (s0 : g_St), f_M_workComponent_8 n r0 x1 x2 x3 x4 x5 s0 = some o → g_W K s0 [(0, g_r 1 r0), (1, g_i x1), (2, g_i x2), (3, g_i x3), (4, g_i x4), (5, g_i x5)] [] 8 (g_jV o) := by
  intro n
  induction n with
  | zero =>
    intro r0 x1 x2 x3 x4 x5 s0 h
    cases h
  | succ n ih =>
    intro r0 x1 x2 x3 x4 x5 s0 h
    unfold f_M_workComponent_8 at h
    refine r_iload hK d_M_workComponent_8 5 rfl ?_
    refine r_aload_n hK d_M_workComponent_10 rfl 0 rfl ?_
    refine r_gI hK fd_M_18 w7_50 d_M_workComponent_11 h (fun i1 h => ?_)
    refine r_if_icmpge (tgt := 95) hK d_M_workComponent_14 (by decide) h (fun h => ?_) (fun h => ?_)
    · refine r_iconst (v := 0) hK d_M_workComponent_95 (by decide) ?_
      refine r_istore (ls1 := [(5, g_i 0), (0, g_r 1 r0), (1, g_i x1), (2, g_i x2), (3, g_i x3), (4, g_i x4)]) hK d_M_workComponent_96 (by rw [hN]; decide) rfl ?_
      refine r_aload_n hK d_M_workComponent_98 rfl 1 rfl ?_
      refine r_gI hK fd_M_77 w7_109 d_M_workComponent_99 h (fun i2 h => ?_)
      refine r_istore (ls1 := [(6, g_i i2), (5, g_i 0), (0, g_r 1 r0), (1, g_i x1), (2, g_i x2), (3, g_i x3), (4, g_i x4)]) hK d_M_workComponent_102 (by rw [hN]; decide) rfl ?_
      refine r_iconst (v := 1) hK d_M_workComponent_104 (by decide) ?_
      refine r_istore (ls1 := [(7, g_i 1), (6, g_i i2), (5, g_i 0), (0, g_r 1 r0), (1, g_i x1), (2, g_i x2), (3, g_i x3), (4, g_i x4)]) hK d_M_workComponent_105 (by rw [hN]; decide) rfl ?_
      exact r_sub [3, 4, 5, 6, 7, 2, 1, 0] rfl (t_M_workComponent_107 hK hN hD _ _ _ _ _ _ _ _ _ _ h)
    · refine r_iload_n hK d_M_workComponent_17 rfl 3 rfl ?_
      refine r_ifne (tgt := 41) hK d_M_workComponent_18 (by decide) h (fun h => ?_) (fun h => ?_)
      · refine r_iconst (v := 1) hK d_M_workComponent_41 (by decide) ?_
        refine r_goto (tgt := 46) hK d_M_workComponent_42 (by decide) ?_
        exact r_sub [0, 1, 2, 4, 5] rfl (t_M_workComponent_46 hK hN hD ih _ _ _ _ _ _ _ h)
      · refine r_aload_n hK d_M_workComponent_21 rfl 0 rfl ?_
        refine r_gR hK fd_M_75 w7_107 d_M_workComponent_22 h (fun p3 h => ?_)
        refine r_iload hK d_M_workComponent_25 5 rfl ?_
        refine r_iaload hK ar_20 rfl d_M_workComponent_27 h (fun i4 h => ?_)
        refine r_iload_n hK d_M_workComponent_28 rfl 1 rfl ?_
        refine r_if_icmpne (tgt := 45) hK d_M_workComponent_29 (by decide) h (fun h => ?_) (fun h => ?_)
        · refine r_iconst (v := 0) hK d_M_workComponent_45 (by decide) ?_
          exact r_sub [0, 1, 2, 4, 5] rfl (t_M_workComponent_46 hK hN hD ih _ _ _ _ _ _ _ h)
        · refine r_aload_n hK d_M_workComponent_32 rfl 0 rfl ?_
          refine r_iload hK d_M_workComponent_33 5 rfl ?_
          refine r_Vi (avL := [g_i x5]) (st := []) hK ob_M rfl w9_71 wp_47 w9_69 w9_72 w1_6 (by decide) pl_M_isRecursive (by rw [hD]; decide) (Nat.le_of_ble_eq_true rfl) rfl d_M_workComponent_35 (fun o9 h9 => c_M_isRecursive _ _ _ _ _ o9 h9) h (fun i5 s6 h => ?_)
          refine r_ifeq (tgt := 45) hK d_M_workComponent_38 (by decide) h (fun h => ?_) (fun h => ?_)
          · refine r_iconst (v := 0) hK d_M_workComponent_45 (by decide) ?_
            exact r_sub [0, 1, 2, 4, 5] rfl (t_M_workComponent_46 hK hN hD ih _ _ _ _ _ _ _ h)
          · refine r_iconst (v := 1) hK d_M_workComponent_41 (by decide) ?_
            refine r_goto (tgt := 46) hK d_M_workComponent_42 (by decide) ?_
            exact r_sub [0, 1, 2, 4, 5] rfl (t_M_workComponent_46 hK hN hD ih _ _ _ _ _ _ _ h)
set_option maxHeartbeats 4000000 in
set_option maxRecDepth 100000 in
theorem t_M_workComponent_0 {K : g_C} {o : (Unit × g_St)} (hK : g_OK K b_M_workComponent "FixpointEngineModel" "workComponent" (Option.none : Option Jvm.ClassFile.FieldType)) (hN : g_nL K = 9) (hD : g_Kd K = 10) : ∀ (r0 : Option Nat) (x1 : Int32) (x2 : Int32) (s0 : g_St), f_M_workComponent r0 x1 x2 s0 = some o → g_W K s0 [(0, g_r 1 r0), (1, g_i x1), (2, g_i x2)] [] 0 (g_jV o) := by
  intro r0 x1 x2 s0 h
  unfold f_M_workComponent at h
  refine r_iconst (v := 0) hK d_M_workComponent_0 (by decide) ?_
  refine r_istore_n (ls1 := [(3, g_i 0), (0, g_r 1 r0), (1, g_i x1), (2, g_i x2)]) hK d_M_workComponent_1 rfl (by rw [hN]; decide) rfl ?_
  refine r_iconst (v := 0) hK d_M_workComponent_2 (by decide) ?_
  refine r_istore (ls1 := [(4, g_i 0), (3, g_i 0), (0, g_r 1 r0), (1, g_i x1), (2, g_i x2)]) hK d_M_workComponent_3 (by rw [hN]; decide) rfl ?_
  refine r_iconst (v := 0) hK d_M_workComponent_5 (by decide) ?_
  refine r_istore (ls1 := [(5, g_i 0), (4, g_i 0), (3, g_i 0), (0, g_r 1 r0), (1, g_i x1), (2, g_i x2)]) hK d_M_workComponent_6 (by rw [hN]; decide) rfl ?_
  exact r_sub [3, 4, 5, 2, 1, 0] rfl (t_M_workComponent_8 hK hN hD _ _ _ _ _ _ _ _ h)
theorem c_M_workComponent (l : Launch) (G : g_G) (r0 : Option Nat) (x1 : Int32) (x2 : Int32) (u : g_St) (o : (Unit × g_St)) (h : f_M_workComponent r0 x1 x2 u = some o) : g_Con l G y_M_workComponent b_M_workComponent 9 (Option.none : Option Jvm.ClassFile.FieldType) 10 [g_r 1 r0, g_i x1, g_i x2] u (g_jV o) :=
  g_Con.of rfl rfl (by decide +kernel) (Nat.le_of_ble_eq_true rfl) (fun K hK hN hD hX => t_M_workComponent_0 hK hN hD _ _ _ _ h)
def f_M_run_192 (k174 : Option Nat → Int32 → g_St → Option (Int32 × g_St)) : Nat → Option Nat → Int32 → Int32 → g_St → Option (Int32 × g_St)
  | 0, _, _, _, _ => none
  | n + 1, r0, x3, x4, s0 =>
    g_gI s0 4929 r0 fun i1 =>
    if i1 ≤ x4 then
      k174 r0 (x3 + 1) s0
    else
      g_gR s0 5953 r0 fun p2 =>
      g_aI s0 p2 x3 fun i3 =>
      g_gR s0 4993 r0 fun p4 =>
      g_aI s0 p4 x4 fun i5 =>
      if i5 = x3 then
        g_sI s0 p2 x3 (i3 + 1) fun s7 =>
        f_M_run_192 k174 n r0 x3 (x4 + 1) s7
      else
        g_sI s0 p2 x3 (i3 + 0) fun s6 =>
        f_M_run_192 k174 n r0 x3 (x4 + 1) s6
def f_M_run_174 : Nat → Option Nat → Int32 → g_St → Option (Int32 × g_St)
  | 0, _, _, _ => none
  | n + 1, r0, x3, s0 =>
    g_gI s0 1153 r0 fun i1 =>
    if i1 ≤ x3 then
      g_gI s0 5377 r0 fun i2 =>
      some (i2, s0)
    else
      g_gR s0 5953 r0 fun p3 =>
      g_sI s0 p3 x3 0 fun s4 =>
      f_M_run_192 (f_M_run_174 n) 200000 r0 x3 0 s4
def f_M_run_138 (r0 : Option Nat) (s0 : g_St) : Option (Int32 × g_St) :=
  g_gI s0 1 r0 fun i1 =>
  if i1 ≤ 0 then
    g_c (g_nn r0 (f_M_sort r0 s0)) fun _ s3 =>
    g_pZ s3 1089 r0 1 fun s4 =>
    g_gI s4 1153 r0 fun i5 =>
    g_pI s4 6017 r0 i5 fun s6 =>
    g_gI s6 4865 r0 fun i7 =>
    g_pI s6 5889 r0 i7 fun s8 =>
    f_M_run_174 200000 r0 0 s8
  else
    some (0, s0)
def f_M_run_100 (r0 : Option Nat) (s0 : g_St) : Option (Int32 × g_St) :=
  g_gR s0 2433 r0 fun p1 =>
  g_gI s0 2177 r0 fun i2 =>
  g_aI s0 p1 (i2 - 1) fun i3 =>
  g_pI s0 5633 r0 i3 fun s4 =>
  g_gI s4 1 r0 fun i5 =>
  if i5 = 0 then
    g_gI s4 2177 r0 fun i6 =>
    g_gI s4 4929 r0 fun i7 =>
    g_c (g_nn r0 (f_M_workOut r0 (i6 - 1) 0 0 i7 s4)) fun _ s9 =>
    f_M_run_138 r0 s9
  else
    f_M_run_138 r0 s4
def f_M_run_73 : Nat → Option Nat → Int32 → Int32 → g_St → Option (Int32 × g_St)
  | 0, _, _, _, _ => none
  | n + 1, r0, x1, x3, s0 =>
    g_gI s0 4865 r0 fun i1 =>
    if i1 ≤ x3 then
      f_M_run_100 r0 s0
    else
      g_gI s0 1 r0 fun i2 =>
      if i2 = 0 then
        g_c (g_nn r0 (f_M_workComponent r0 x3 x1 s0)) fun _ s4 =>
        f_M_run_73 n r0 x1 (x3 + 1) s4
      else
        f_M_run_100 r0 s0
def f_M_run_39 (r0 : Option Nat) (x1 : Int32) (x2 : Int32) (r0s : Option Nat) (x1s : Int32) (s0 : g_St) : Option (Int32 × g_St) :=
  g_pI s0 1 r0s x1s fun s1 =>
  g_gI s1 1 r0 fun i2 =>
  if i2 ≤ 0 then
    g_pZ s1 1089 r0 0 fun s3 =>
    g_pI s3 5441 r0 x2 fun s4 =>
    g_pI s4 4929 r0 0 fun s5 =>
    g_pI s5 5377 r0 0 fun s6 =>
    f_M_run_73 200000 r0 x1 0 s6
  else
    some (0, s1)
def f_M_run (r0 : Option Nat) (x1 : Int32) (x2 : Int32) (s0 : g_St) : Option (Int32 × g_St) :=
  if x1 < 1 then
    f_M_run_39 r0 x1 x2 r0 1 s0
  else
    if 30 < x1 then
      f_M_run_39 r0 x1 x2 r0 1 s0
    else
      if x2 < 1 then
        f_M_run_39 r0 x1 x2 r0 1 s0
      else
        if x2 ≤ 48 then
          g_gI s0 1025 r0 fun i1 =>
          if i1 = 0 then
            f_M_run_39 r0 x1 x2 r0 2 s0
          else
            f_M_run_39 r0 x1 x2 r0 0 s0
        else
          f_M_run_39 r0 x1 x2 r0 1 s0
set_option maxHeartbeats 4000000 in
set_option maxRecDepth 100000 in
theorem t_M_run_192 {K : g_C} {o : (Int32 × g_St)} (hK : g_OK K b_M_run "FixpointEngineModel" "run" (Option.some Jvm.ClassFile.FieldType.int)) (hN : g_nL K = 5) (hD : g_Kd K = 11) {k174 : Option Nat → Int32 → g_St → Option (Int32 × g_St)} (hk174 : ∀ (r0 : Option Nat) (x3 : Int32) (s0 : g_St), k174 r0 x3 s0 = some o → g_W K s0 [(0, g_r 1 r0), (3, g_i x3)] [] 174 (g_jI o)) : ∀ (n : Nat) (r0 : Option Nat) (x3 : Int32) (x4 : Int32) (s0 : g_St), f_M_run_192 k174 n r0 x3 x4 s0 = some o → g_W K s0 [(0, g_r 1 r0), (3, g_i x3), (4, g_i x4)] [] 192 (g_jI o) := by
  intro n
  induction n with
  | zero =>
    intro r0 x3 x4 s0 h
    cases h
  | succ n ih =>
    intro r0 x3 x4 s0 h
    unfold f_M_run_192 at h
    refine r_iload hK d_M_run_192 2 rfl ?_
    refine r_aload_n hK d_M_run_194 rfl 0 rfl ?_
    refine r_gI hK fd_M_77 w7_109 d_M_run_195 h (fun i1 h => ?_)
    refine r_if_icmpge (tgt := 232) hK d_M_run_198 (by decide) h (fun h => ?_) (fun h => ?_)
    · refine r_iinc (ls1 := [(3, g_i (x3 + 1)), (0, g_r 1 r0), (4, g_i x4)]) hK d_M_run_232 1 rfl rfl (by rw [hN]; decide) rfl ?_
      refine r_goto (tgt := 174) hK d_M_run_235 (by decide) ?_
      exact r_sub [1, 0] rfl (hk174 _ _ _ h)
    · refine r_aload_n hK d_M_run_201 rfl 0 rfl ?_
      refine r_gR hK fd_M_93 w7_125 d_M_run_202 h (fun p2 h => ?_)
      refine r_iload_n hK d_M_run_205 rfl 1 rfl ?_
      refine r_dup2_11 hK d_M_run_206 rfl rfl ?_
      refine r_iaload hK ar_20 rfl d_M_run_207 h (fun i3 h => ?_)
      refine r_aload_n hK d_M_run_208 rfl 0 rfl ?_
      refine r_gR hK fd_M_78 w7_110 d_M_run_209 h (fun p4 h => ?_)
      refine r_iload hK d_M_run_212 2 rfl ?_
      refine r_iaload hK ar_20 rfl d_M_run_214 h (fun i5 h => ?_)
      refine r_iload_n hK d_M_run_215 rfl 1 rfl ?_
      refine r_if_icmpne (tgt := 223) hK d_M_run_216 (by decide) h (fun h => ?_) (fun h => ?_)
      · refine r_iconst (v := 0) hK d_M_run_223 (by decide) ?_
        refine r_iadd hK d_M_run_224 ?_
        refine r_iastore hK ar_20 rfl d_M_run_225 h (fun s6 h => ?_)
        refine r_iinc (ls1 := [(4, g_i (x4 + 1)), (0, g_r 1 r0), (3, g_i x3)]) hK d_M_run_226 2 rfl rfl (by rw [hN]; decide) rfl ?_
        refine r_goto (tgt := 192) hK d_M_run_229 (by decide) ?_
        exact r_sub [1, 2, 0] rfl (ih _ _ _ _ h)
      · refine r_iconst (v := 1) hK d_M_run_219 (by decide) ?_
        refine r_goto (tgt := 224) hK d_M_run_220 (by decide) ?_
        refine r_iadd hK d_M_run_224 ?_
        refine r_iastore hK ar_20 rfl d_M_run_225 h (fun s7 h => ?_)
        refine r_iinc (ls1 := [(4, g_i (x4 + 1)), (0, g_r 1 r0), (3, g_i x3)]) hK d_M_run_226 2 rfl rfl (by rw [hN]; decide) rfl ?_
        refine r_goto (tgt := 192) hK d_M_run_229 (by decide) ?_
        exact r_sub [1, 2, 0] rfl (ih _ _ _ _ h)
set_option maxHeartbeats 4000000 in
set_option maxRecDepth 100000 in
theorem t_M_run_174 {K : g_C} {o : (Int32 × g_St)} (hK : g_OK K b_M_run "FixpointEngineModel" "run" (Option.some Jvm.ClassFile.FieldType.int)) (hN : g_nL K = 5) (hD : g_Kd K = 11) : ∀ (n : Nat) (r0 : Option Nat) (x3 : Int32) (s0 : g_St), f_M_run_174 n r0 x3 s0 = some o → g_W K s0 [(0, g_r 1 r0), (3, g_i x3)] [] 174 (g_jI o) := by
  intro n
  induction n with
  | zero =>
    intro r0 x3 s0 h
    cases h
  | succ n ih =>
    intro r0 x3 s0 h
    unfold f_M_run_174 at h
    refine r_iload_n hK d_M_run_174 rfl 1 rfl ?_
    refine r_aload_n hK d_M_run_175 rfl 0 rfl ?_
    refine r_gI hK fd_M_18 w7_50 d_M_run_176 h (fun i1 h => ?_)
    refine r_if_icmpge (tgt := 238) hK d_M_run_179 (by decide) h (fun h => ?_) (fun h => ?_)
    · refine r_aload_n hK d_M_run_238 rfl 0 rfl ?_
      refine r_gI hK fd_M_84 w7_116 d_M_run_239 h (fun i2 h => ?_)
      exact r_ireturn hK d_M_run_242 h
    · refine r_aload_n hK d_M_run_182 rfl 0 rfl ?_
      refine r_gR hK fd_M_93 w7_125 d_M_run_183 h (fun p3 h => ?_)
      refine r_iload_n hK d_M_run_186 rfl 1 rfl ?_
      refine r_iconst (v := 0) hK d_M_run_187 (by decide) ?_
      refine r_iastore hK ar_20 rfl d_M_run_188 h (fun s4 h => ?_)
      refine r_iconst (v := 0) hK d_M_run_189 (by decide) ?_
      refine r_istore (ls1 := [(4, g_i 0), (0, g_r 1 r0), (3, g_i x3)]) hK d_M_run_190 (by rw [hN]; decide) rfl ?_
      exact r_sub [1, 2, 0] rfl (t_M_run_192 hK hN hD ih _ _ _ _ _ h)
set_option maxHeartbeats 4000000 in
set_option maxRecDepth 100000 in
theorem t_M_run_138 {K : g_C} {o : (Int32 × g_St)} (hK : g_OK K b_M_run "FixpointEngineModel" "run" (Option.some Jvm.ClassFile.FieldType.int)) (hN : g_nL K = 5) (hD : g_Kd K = 11) : ∀ (r0 : Option Nat) (s0 : g_St), f_M_run_138 r0 s0 = some o → g_W K s0 [(0, g_r 1 r0)] [] 138 (g_jI o) := by
  intro r0 s0 h
  unfold f_M_run_138 at h
  refine r_aload_n hK d_M_run_138 rfl 0 rfl ?_
  refine r_gI hK fd_M_0 w7_32 d_M_run_139 h (fun i1 h => ?_)
  refine r_ifle (tgt := 147) hK d_M_run_142 (by decide) h (fun h => ?_) (fun h => ?_)
  · refine r_aload_n hK d_M_run_147 rfl 0 rfl ?_
    refine r_Vv (avL := []) (st := []) hK ob_M rfl w9_207 wp_76 w9_205 w9_208 w1_6 (by decide) pl_M_sort (by rw [hD]; decide) (Nat.le_of_ble_eq_true rfl) rfl d_M_run_148 (fun o9 h9 => c_M_sort _ _ _ _ o9 h9) h (fun s3 h => ?_)
    refine r_aload_n hK d_M_run_151 rfl 0 rfl ?_
    refine r_iconst (v := 1) hK d_M_run_152 (by decide) ?_
    refine r_pZ hK fd_M_17 rfl w7_49 d_M_run_153 h (fun s4 h => ?_)
    refine r_aload_n hK d_M_run_156 rfl 0 rfl ?_
    refine r_aload_n hK d_M_run_157 rfl 0 rfl ?_
    refine r_gI hK fd_M_18 w7_50 d_M_run_158 h (fun i5 h => ?_)
    refine r_pI hK fd_M_94 rfl w7_126 d_M_run_161 h (fun s6 h => ?_)
    refine r_aload_n hK d_M_run_164 rfl 0 rfl ?_
    refine r_aload_n hK d_M_run_165 rfl 0 rfl ?_
    refine r_gI hK fd_M_76 w7_108 d_M_run_166 h (fun i7 h => ?_)
    refine r_pI hK fd_M_92 rfl w7_124 d_M_run_169 h (fun s8 h => ?_)
    refine r_iconst (v := 0) hK d_M_run_172 (by decide) ?_
    refine r_istore_n (ls1 := [(3, g_i 0), (0, g_r 1 r0)]) hK d_M_run_173 rfl (by rw [hN]; decide) rfl ?_
    exact r_sub [1, 0] rfl (t_M_run_174 hK hN hD _ _ _ _ h)
  · refine r_iconst (v := 0) hK d_M_run_145 (by decide) ?_
    exact r_ireturn hK d_M_run_146 h
set_option maxHeartbeats 4000000 in
set_option maxRecDepth 100000 in
theorem t_M_run_100 {K : g_C} {o : (Int32 × g_St)} (hK : g_OK K b_M_run "FixpointEngineModel" "run" (Option.some Jvm.ClassFile.FieldType.int)) (hN : g_nL K = 5) (hD : g_Kd K = 11) : ∀ (r0 : Option Nat) (s0 : g_St), f_M_run_100 r0 s0 = some o → g_W K s0 [(0, g_r 1 r0)] [] 100 (g_jI o) := by
  intro r0 s0 h
  unfold f_M_run_100 at h
  refine r_aload_n hK d_M_run_100 rfl 0 rfl ?_
  refine r_aload_n hK d_M_run_101 rfl 0 rfl ?_
  refine r_gR hK fd_M_38 w7_70 d_M_run_102 h (fun p1 h => ?_)
  refine r_aload_n hK d_M_run_105 rfl 0 rfl ?_
  refine r_gI hK fd_M_34 w7_66 d_M_run_106 h (fun i2 h => ?_)
  refine r_iconst (v := 1) hK d_M_run_109 (by decide) ?_
  refine r_isub hK d_M_run_110 ?_
  refine r_iaload hK ar_20 rfl d_M_run_111 h (fun i3 h => ?_)
  refine r_pI hK fd_M_88 rfl w7_120 d_M_run_112 h (fun s4 h => ?_)
  refine r_aload_n hK d_M_run_115 rfl 0 rfl ?_
  refine r_gI hK fd_M_0 w7_32 d_M_run_116 h (fun i5 h => ?_)
  refine r_ifne (tgt := 138) hK d_M_run_119 (by decide) h (fun h => ?_) (fun h => ?_)
  · exact r_sub [0] rfl (t_M_run_138 hK hN hD _ _ h)
  · refine r_aload_n hK d_M_run_122 rfl 0 rfl ?_
    refine r_aload_n hK d_M_run_123 rfl 0 rfl ?_
    refine r_gI hK fd_M_34 w7_66 d_M_run_124 h (fun i6 h => ?_)
    refine r_iconst (v := 1) hK d_M_run_127 (by decide) ?_
    refine r_isub hK d_M_run_128 ?_
    refine r_iconst (v := 0) hK d_M_run_129 (by decide) ?_
    refine r_iconst (v := 0) hK d_M_run_130 (by decide) ?_
    refine r_aload_n hK d_M_run_131 rfl 0 rfl ?_
    refine r_gI hK fd_M_77 w7_109 d_M_run_132 h (fun i7 h => ?_)
    refine r_Vv (avL := [g_i (i6 - 1), g_i 0, g_i 0, g_i i7]) (st := []) hK ob_M rfl w9_103 wp_52 w9_101 w9_104 w1_6 (by decide) pl_M_workOut (by rw [hD]; decide) (Nat.le_of_ble_eq_true rfl) rfl d_M_run_135 (fun o9 h9 => c_M_workOut _ _ _ _ _ _ _ _ o9 h9) h (fun s9 h => ?_)
    exact r_sub [0] rfl (t_M_run_138 hK hN hD _ _ h)
set_option maxHeartbeats 4000000 in
set_option maxRecDepth 100000 in
theorem t_M_run_73 {K : g_C} {o : (Int32 × g_St)} (hK : g_OK K b_M_run "FixpointEngineModel" "run" (Option.some Jvm.ClassFile.FieldType.int)) (hN : g_nL K = 5) (hD : g_Kd K = 11) : ∀ (n : Nat) (r0 : Option Nat) (x1 : Int32) (x3 : Int32) (s0 : g_St), f_M_run_73 n r0 x1 x3 s0 = some o → g_W K s0 [(0, g_r 1 r0), (1, g_i x1), (3, g_i x3)] [] 73 (g_jI o) := by
  intro n
  induction n with
  | zero =>
    intro r0 x1 x3 s0 h
    cases h
  | succ n ih =>
    intro r0 x1 x3 s0 h
    unfold f_M_run_73 at h
    refine r_iload_n hK d_M_run_73 rfl 2 rfl ?_
    refine r_aload_n hK d_M_run_74 rfl 0 rfl ?_
    refine r_gI hK fd_M_76 w7_108 d_M_run_75 h (fun i1 h => ?_)
    refine r_if_icmpge (tgt := 100) hK d_M_run_78 (by decide) h (fun h => ?_) (fun h => ?_)
    · exact r_sub [0] rfl (t_M_run_100 hK hN hD _ _ h)
    · refine r_aload_n hK d_M_run_81 rfl 0 rfl ?_
      refine r_gI hK fd_M_0 w7_32 d_M_run_82 h (fun i2 h => ?_)
      refine r_ifne (tgt := 100) hK d_M_run_85 (by decide) h (fun h => ?_) (fun h => ?_)
      · exact r_sub [0] rfl (t_M_run_100 hK hN hD _ _ h)
      · refine r_aload_n hK d_M_run_88 rfl 0 rfl ?_
        refine r_iload_n hK d_M_run_89 rfl 2 rfl ?_
        refine r_iload_n hK d_M_run_90 rfl 1 rfl ?_
        refine r_Vv (avL := [g_i x3, g_i x1]) (st := []) hK ob_M rfl w9_95 wp_50 w9_93 w9_96 w1_6 (by decide) pl_M_workComponent (by rw [hD]; decide) (Nat.le_of_ble_eq_true rfl) rfl d_M_run_91 (fun o9 h9 => c_M_workComponent _ _ _ _ _ _ o9 h9) h (fun s4 h => ?_)
        refine r_iinc (ls1 := [(3, g_i (x3 + 1)), (0, g_r 1 r0), (1, g_i x1)]) hK d_M_run_94 2 rfl rfl (by rw [hN]; decide) rfl ?_
        refine r_goto (tgt := 73) hK d_M_run_97 (by decide) ?_
        exact r_sub [1, 2, 0] rfl (ih _ _ _ _ h)
set_option maxHeartbeats 4000000 in
set_option maxRecDepth 100000 in
theorem t_M_run_39 {K : g_C} {o : (Int32 × g_St)} (hK : g_OK K b_M_run "FixpointEngineModel" "run" (Option.some Jvm.ClassFile.FieldType.int)) (hN : g_nL K = 5) (hD : g_Kd K = 11) : ∀ (r0 : Option Nat) (x1 : Int32) (x2 : Int32) (r0s : Option Nat) (x1s : Int32) (s0 : g_St), f_M_run_39 r0 x1 x2 r0s x1s s0 = some o → g_W K s0 [(0, g_r 1 r0), (1, g_i x1), (2, g_i x2)] [g_i x1s, g_r 1 r0s] 39 (g_jI o) := by
  intro r0 x1 x2 r0s x1s s0 h
  unfold f_M_run_39 at h
  refine r_pI hK fd_M_0 rfl w7_32 d_M_run_39 h (fun s1 h => ?_)
  refine r_aload_n hK d_M_run_42 rfl 0 rfl ?_
  refine r_gI hK fd_M_0 w7_32 d_M_run_43 h (fun i2 h => ?_)
  refine r_ifle (tgt := 51) hK d_M_run_46 (by decide) h (fun h => ?_) (fun h => ?_)
  · refine r_aload_n hK d_M_run_51 rfl 0 rfl ?_
    refine r_iconst (v := 0) hK d_M_run_52 (by decide) ?_
    refine r_pZ hK fd_M_17 rfl w7_49 d_M_run_53 h (fun s3 h => ?_)
    refine r_aload_n hK d_M_run_56 rfl 0 rfl ?_
    refine r_iload_n hK d_M_run_57 rfl 2 rfl ?_
    refine r_pI hK fd_M_85 rfl w7_117 d_M_run_58 h (fun s4 h => ?_)
    refine r_aload_n hK d_M_run_61 rfl 0 rfl ?_
    refine r_iconst (v := 0) hK d_M_run_62 (by decide) ?_
    refine r_pI hK fd_M_77 rfl w7_109 d_M_run_63 h (fun s5 h => ?_)
    refine r_aload_n hK d_M_run_66 rfl 0 rfl ?_
    refine r_iconst (v := 0) hK d_M_run_67 (by decide) ?_
    refine r_pI hK fd_M_84 rfl w7_116 d_M_run_68 h (fun s6 h => ?_)
    refine r_iconst (v := 0) hK d_M_run_71 (by decide) ?_
    refine r_istore_n (ls1 := [(3, g_i 0), (0, g_r 1 r0), (1, g_i x1), (2, g_i x2)]) hK d_M_run_72 rfl (by rw [hN]; decide) rfl ?_
    exact r_sub [1, 2, 0] rfl (t_M_run_73 hK hN hD _ _ _ _ _ h)
  · refine r_iconst (v := 0) hK d_M_run_49 (by decide) ?_
    exact r_ireturn hK d_M_run_50 h
set_option maxHeartbeats 4000000 in
set_option maxRecDepth 100000 in
theorem t_M_run_0 {K : g_C} {o : (Int32 × g_St)} (hK : g_OK K b_M_run "FixpointEngineModel" "run" (Option.some Jvm.ClassFile.FieldType.int)) (hN : g_nL K = 5) (hD : g_Kd K = 11) : ∀ (r0 : Option Nat) (x1 : Int32) (x2 : Int32) (s0 : g_St), f_M_run r0 x1 x2 s0 = some o → g_W K s0 [(0, g_r 1 r0), (1, g_i x1), (2, g_i x2)] [] 0 (g_jI o) := by
  intro r0 x1 x2 s0 h
  unfold f_M_run at h
  refine r_aload_n hK d_M_run_0 rfl 0 rfl ?_
  refine r_iload_n hK d_M_run_1 rfl 1 rfl ?_
  refine r_iconst (v := 1) hK d_M_run_2 (by decide) ?_
  refine r_if_icmplt (tgt := 23) hK d_M_run_3 (by decide) h (fun h => ?_) (fun h => ?_)
  · refine r_iconst (v := 1) hK d_M_run_23 (by decide) ?_
    refine r_goto (tgt := 39) hK d_M_run_24 (by decide) ?_
    exact r_sub [0, 1, 2] rfl (t_M_run_39 hK hN hD _ _ _ _ _ _ h)
  · refine r_iload_n hK d_M_run_6 rfl 1 rfl ?_
    refine r_bipush (v := 30) hK d_M_run_7 (by decide) ?_
    refine r_if_icmpgt (tgt := 23) hK d_M_run_9 (by decide) h (fun h => ?_) (fun h => ?_)
    · refine r_iconst (v := 1) hK d_M_run_23 (by decide) ?_
      refine r_goto (tgt := 39) hK d_M_run_24 (by decide) ?_
      exact r_sub [0, 1, 2] rfl (t_M_run_39 hK hN hD _ _ _ _ _ _ h)
    · refine r_iload_n hK d_M_run_12 rfl 2 rfl ?_
      refine r_iconst (v := 1) hK d_M_run_13 (by decide) ?_
      refine r_if_icmplt (tgt := 23) hK d_M_run_14 (by decide) h (fun h => ?_) (fun h => ?_)
      · refine r_iconst (v := 1) hK d_M_run_23 (by decide) ?_
        refine r_goto (tgt := 39) hK d_M_run_24 (by decide) ?_
        exact r_sub [0, 1, 2] rfl (t_M_run_39 hK hN hD _ _ _ _ _ _ h)
      · refine r_iload_n hK d_M_run_17 rfl 2 rfl ?_
        refine r_bipush (v := 48) hK d_M_run_18 (by decide) ?_
        refine r_if_icmple (tgt := 27) hK d_M_run_20 (by decide) h (fun h => ?_) (fun h => ?_)
        · refine r_aload_n hK d_M_run_27 rfl 0 rfl ?_
          refine r_gI hK fd_M_16 w7_48 d_M_run_28 h (fun i1 h => ?_)
          refine r_ifne (tgt := 38) hK d_M_run_31 (by decide) h (fun h => ?_) (fun h => ?_)
          · refine r_iconst (v := 0) hK d_M_run_38 (by decide) ?_
            exact r_sub [0, 1, 2] rfl (t_M_run_39 hK hN hD _ _ _ _ _ _ h)
          · refine r_iconst (v := 2) hK d_M_run_34 (by decide) ?_
            refine r_goto (tgt := 39) hK d_M_run_35 (by decide) ?_
            exact r_sub [0, 1, 2] rfl (t_M_run_39 hK hN hD _ _ _ _ _ _ h)
        · refine r_iconst (v := 1) hK d_M_run_23 (by decide) ?_
          refine r_goto (tgt := 39) hK d_M_run_24 (by decide) ?_
          exact r_sub [0, 1, 2] rfl (t_M_run_39 hK hN hD _ _ _ _ _ _ h)
theorem c_M_run (l : Launch) (G : g_G) (r0 : Option Nat) (x1 : Int32) (x2 : Int32) (u : g_St) (o : (Int32 × g_St)) (h : f_M_run r0 x1 x2 u = some o) : g_Con l G y_M_run b_M_run 5 (Option.some Jvm.ClassFile.FieldType.int) 11 [g_r 1 r0, g_i x1, g_i x2] u (g_jI o) :=
  g_Con.of rfl rfl (by decide +kernel) (Nat.le_of_ble_eq_true rfl) (fun K hK hN hD hX => t_M_run_0 hK hN hD _ _ _ _ h)
