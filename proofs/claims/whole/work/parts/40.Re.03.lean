def f_Re_selection_167 : Nat → Option Nat → Option Nat → Int32 → Int32 → g_St → Option (Option Nat × g_St)
  | 0, _, _, _, _, _ => none
  | n + 1, r0, r2, x3, x4, s0 =>
    if 6 ≤ x4 then
      some (r2, s0)
    else
      if x3 = 0 then
        some (r2, s0)
      else
        g_gR s0 520 r2 fun p1 =>
        g_c (g_nn r0 (f_Re_condition r0 s0)) fun p2 s3 =>
        g_sR s3 p1 x4 p2 fun s4 =>
        g_pI s4 584 r2 (x4 + 1) fun s5 =>
        if 6 ≤ (x4 + 1) then
          f_Re_selection_167 n r0 r2 0 (x4 + 1) s5
        else
          g_c (g_nn r0 (f_Re_accept r0 (some 397) s5)) fun i6 s7 =>
          if i6 = 0 then
            f_Re_selection_167 n r0 r2 0 (x4 + 1) s7
          else
            f_Re_selection_167 n r0 r2 1 (x4 + 1) s7
def f_Re_selection_156 (r0 : Option Nat) (r2 : Option Nat) (s0 : g_St) : Option (Option Nat × g_St) :=
  g_c (g_nn r0 (f_Re_accept r0 (some 333) s0)) fun i1 s2 =>
  f_Re_selection_167 200000 r0 r2 i1 0 s2
def f_Re_selection_95 : Nat → Option Nat → Option Nat → Int32 → Int32 → g_St → Option (Option Nat × g_St)
  | 0, _, _, _, _, _ => none
  | n + 1, r0, r2, x3, x4, s0 =>
    if 3 ≤ x4 then
      f_Re_selection_156 r0 r2 s0
    else
      if x3 = 0 then
        f_Re_selection_156 r0 r2 s0
      else
        g_gR s0 392 r2 fun p1 =>
        g_c (g_nn r0 (f_Re_source r0 x4 s0)) fun p2 s3 =>
        g_sR s3 p1 x4 p2 fun s4 =>
        g_pI s4 456 r2 (x4 + 1) fun s5 =>
        if 3 ≤ (x4 + 1) then
          f_Re_selection_95 n r0 r2 0 (x4 + 1) s5
        else
          g_c (g_nn r0 (f_Re_accept r0 (some 1613) s5)) fun i6 s7 =>
          if i6 = 0 then
            f_Re_selection_95 n r0 r2 0 (x4 + 1) s7
          else
            f_Re_selection_95 n r0 r2 1 (x4 + 1) s7
def f_Re_selection_84 (r0 : Option Nat) (r2 : Option Nat) (s0 : g_St) : Option (Option Nat × g_St) :=
  g_c (g_nn r0 (f_Re_accept r0 (some 269) s0)) fun i1 s2 =>
  f_Re_selection_95 200000 r0 r2 i1 0 s2
def f_Re_selection_40 : Nat → Option Nat → Option Nat → Int32 → Int32 → g_St → Option (Option Nat × g_St)
  | 0, _, _, _, _, _ => none
  | n + 1, r0, r2, x3, x4, s0 =>
    if 4 ≤ x4 then
      f_Re_selection_84 r0 r2 s0
    else
      if x3 = 0 then
        f_Re_selection_84 r0 r2 s0
      else
        g_c (g_nn r0 (f_Re_item r0 s0)) fun _ s2 =>
        if 4 ≤ (x4 + 1) then
          f_Re_selection_40 n r0 r2 0 (x4 + 1) s2
        else
          g_c (g_nn r0 (f_Re_accept r0 (some 1613) s2)) fun i3 s4 =>
          if i3 = 0 then
            f_Re_selection_40 n r0 r2 0 (x4 + 1) s4
          else
            f_Re_selection_40 n r0 r2 1 (x4 + 1) s4
def f_Re_selection (r0 : Option Nat) (x1 : Int32) (s0 : g_St) : Option (Option Nat × g_St) :=
  g_new s0 8 12 fun p1 s2 =>
  g_gR s2 194 r0 fun p3 =>
  g_gI s2 322 r0 fun i4 =>
  g_aI s2 p3 i4 fun i5 =>
  g_c (g_nn p1 (f_Se_init p1 x1 i5 s2)) fun _ s7 =>
  g_pR s7 514 r0 p1 fun s8 =>
  g_pR s8 578 r0 none fun s9 =>
  g_c (g_nn r0 (f_Re_expect r0 (some 205) s9)) fun _ s11 =>
  f_Re_selection_40 200000 r0 p1 1 0 s11
set_option maxHeartbeats 4000000 in
set_option maxRecDepth 100000 in
theorem t_Re_selection_167 {K : g_C} {o : (Option Nat × g_St)} (hK : g_OK K b_Re_selection "FixpointEngine$Reader" "selection" (Option.some (Jvm.ClassFile.FieldType.object "FixpointEngine$Selection"))) (hN : g_nL K = 5) (hD : g_Kd K = 17) : ∀ (n : Nat) (r0 : Option Nat) (r2 : Option Nat) (x3 : Int32) (x4 : Int32) (s0 : g_St), f_Re_selection_167 n r0 r2 x3 x4 s0 = some o → g_W K s0 [(0, g_r 2 r0), (2, g_r 8 r2), (3, g_i x3), (4, g_i x4)] [] 167 (g_jR 8 o) := by
  intro n
  induction n with
  | zero =>
    intro r0 r2 x3 x4 s0 h
    cases h
  | succ n ih =>
    intro r0 r2 x3 x4 s0 h
    unfold f_Re_selection_167 at h
    refine r_iload hK d_Re_selection_167 3 rfl ?_
    refine r_bipush (v := 6) hK d_Re_selection_169 (by decide) ?_
    refine r_if_icmpge (tgt := 228) hK d_Re_selection_171 (by decide) h (fun h => ?_) (fun h => ?_)
    · refine r_aload_n hK d_Re_selection_228 rfl 1 rfl ?_
      exact r_areturn (Or.inl ⟨_, rfl⟩) hK d_Re_selection_229 h
    · refine r_iload_n hK d_Re_selection_174 rfl 2 rfl ?_
      refine r_ifeq (tgt := 228) hK d_Re_selection_175 (by decide) h (fun h => ?_) (fun h => ?_)
      · refine r_aload_n hK d_Re_selection_228 rfl 1 rfl ?_
        exact r_areturn (Or.inl ⟨_, rfl⟩) hK d_Re_selection_229 h
      · refine r_aload_n hK d_Re_selection_178 rfl 1 rfl ?_
        refine r_gR hK fd_Se_8 w4_8 d_Re_selection_179 h (fun p1 h => ?_)
        refine r_iload hK d_Re_selection_182 3 rfl ?_
        refine r_aload_n hK d_Re_selection_184 rfl 0 rfl ?_
        refine r_Vr (avL := []) (st := [g_i x4, g_r 28 p1]) hK ob_Re rfl w5_21 w5_22 w5_20 w5_23 w1_2 (by decide) pl_Re_condition (by rw [hD]; decide) (Nat.le_of_ble_eq_true rfl) rfl d_Re_selection_185 (fun o9 h9 => c_Re_condition _ _ _ _ o9 h9) h (fun p2 s3 h => ?_)
        refine r_aastore hK el_28 ar_28 rfl d_Re_selection_188 h (fun s4 h => ?_)
        refine r_aload_n hK d_Re_selection_189 rfl 1 rfl ?_
        refine r_iload hK d_Re_selection_190 3 rfl ?_
        refine r_iconst (v := 1) hK d_Re_selection_192 (by decide) ?_
        refine r_iadd hK d_Re_selection_193 ?_
        refine r_pI hK fd_Se_9 rfl w4_10 d_Re_selection_194 h (fun s5 h => ?_)
        refine r_iload hK d_Re_selection_197 3 rfl ?_
        refine r_iconst (v := 1) hK d_Re_selection_199 (by decide) ?_
        refine r_iadd hK d_Re_selection_200 ?_
        refine r_bipush (v := 6) hK d_Re_selection_201 (by decide) ?_
        refine r_if_icmpge (tgt := 220) hK d_Re_selection_203 (by decide) h (fun h => ?_) (fun h => ?_)
        · refine r_iconst (v := 0) hK d_Re_selection_220 (by decide) ?_
          refine r_istore_n (ls1 := [(3, g_i 0), (0, g_r 2 r0), (2, g_r 8 r2), (4, g_i x4)]) hK d_Re_selection_221 rfl (by rw [hN]; decide) rfl ?_
          refine r_iinc (ls1 := [(4, g_i (x4 + 1)), (3, g_i 0), (0, g_r 2 r0), (2, g_r 8 r2)]) hK d_Re_selection_222 3 rfl rfl (by rw [hN]; decide) rfl ?_
          refine r_goto (tgt := 167) hK d_Re_selection_225 (by decide) ?_
          exact r_sub [2, 3, 1, 0] rfl (ih _ _ _ _ _ h)
        · refine r_aload_n hK d_Re_selection_206 rfl 0 rfl ?_
          refine r_gsR hK (st_kind 6 (by decide)) (by decide) rfl w5_82 d_Re_selection_207 ?_
          refine r_Vi (avL := [g_r 13 (some 397)]) (st := []) hK ob_Re rfl w3_76 w3_77 w3_75 w3_78 w1_2 (by decide) pl_Re_accept (by rw [hD]; decide) (Nat.le_of_ble_eq_true rfl) rfl d_Re_selection_210 (fun o9 h9 => c_Re_accept _ _ _ _ _ o9 h9) h (fun i6 s7 h => ?_)
          refine r_ifeq (tgt := 220) hK d_Re_selection_213 (by decide) h (fun h => ?_) (fun h => ?_)
          · refine r_iconst (v := 0) hK d_Re_selection_220 (by decide) ?_
            refine r_istore_n (ls1 := [(3, g_i 0), (0, g_r 2 r0), (2, g_r 8 r2), (4, g_i x4)]) hK d_Re_selection_221 rfl (by rw [hN]; decide) rfl ?_
            refine r_iinc (ls1 := [(4, g_i (x4 + 1)), (3, g_i 0), (0, g_r 2 r0), (2, g_r 8 r2)]) hK d_Re_selection_222 3 rfl rfl (by rw [hN]; decide) rfl ?_
            refine r_goto (tgt := 167) hK d_Re_selection_225 (by decide) ?_
            exact r_sub [2, 3, 1, 0] rfl (ih _ _ _ _ _ h)
          · refine r_iconst (v := 1) hK d_Re_selection_216 (by decide) ?_
            refine r_goto (tgt := 221) hK d_Re_selection_217 (by decide) ?_
            refine r_istore_n (ls1 := [(3, g_i 1), (0, g_r 2 r0), (2, g_r 8 r2), (4, g_i x4)]) hK d_Re_selection_221 rfl (by rw [hN]; decide) rfl ?_
            refine r_iinc (ls1 := [(4, g_i (x4 + 1)), (3, g_i 1), (0, g_r 2 r0), (2, g_r 8 r2)]) hK d_Re_selection_222 3 rfl rfl (by rw [hN]; decide) rfl ?_
            refine r_goto (tgt := 167) hK d_Re_selection_225 (by decide) ?_
            exact r_sub [2, 3, 1, 0] rfl (ih _ _ _ _ _ h)
set_option maxHeartbeats 4000000 in
set_option maxRecDepth 100000 in
theorem t_Re_selection_156 {K : g_C} {o : (Option Nat × g_St)} (hK : g_OK K b_Re_selection "FixpointEngine$Reader" "selection" (Option.some (Jvm.ClassFile.FieldType.object "FixpointEngine$Selection"))) (hN : g_nL K = 5) (hD : g_Kd K = 17) : ∀ (r0 : Option Nat) (r2 : Option Nat) (s0 : g_St), f_Re_selection_156 r0 r2 s0 = some o → g_W K s0 [(0, g_r 2 r0), (2, g_r 8 r2)] [] 156 (g_jR 8 o) := by
  intro r0 r2 s0 h
  unfold f_Re_selection_156 at h
  refine r_aload_n hK d_Re_selection_156 rfl 0 rfl ?_
  refine r_gsR hK (st_kind 5 (by decide)) (by decide) rfl w5_18 d_Re_selection_157 ?_
  refine r_Vi (avL := [g_r 13 (some 333)]) (st := []) hK ob_Re rfl w3_76 w3_77 w3_75 w3_78 w1_2 (by decide) pl_Re_accept (by rw [hD]; decide) (Nat.le_of_ble_eq_true rfl) rfl d_Re_selection_160 (fun o9 h9 => c_Re_accept _ _ _ _ _ o9 h9) h (fun i1 s2 h => ?_)
  refine r_istore_n (ls1 := [(3, g_i i1), (0, g_r 2 r0), (2, g_r 8 r2)]) hK d_Re_selection_163 rfl (by rw [hN]; decide) rfl ?_
  refine r_iconst (v := 0) hK d_Re_selection_164 (by decide) ?_
  refine r_istore (ls1 := [(4, g_i 0), (3, g_i i1), (0, g_r 2 r0), (2, g_r 8 r2)]) hK d_Re_selection_165 (by rw [hN]; decide) rfl ?_
  exact r_sub [2, 3, 1, 0] rfl (t_Re_selection_167 hK hN hD _ _ _ _ _ _ h)
set_option maxHeartbeats 4000000 in
set_option maxRecDepth 100000 in
theorem t_Re_selection_95 {K : g_C} {o : (Option Nat × g_St)} (hK : g_OK K b_Re_selection "FixpointEngine$Reader" "selection" (Option.some (Jvm.ClassFile.FieldType.object "FixpointEngine$Selection"))) (hN : g_nL K = 5) (hD : g_Kd K = 17) : ∀ (n : Nat) (r0 : Option Nat) (r2 : Option Nat) (x3 : Int32) (x4 : Int32) (s0 : g_St), f_Re_selection_95 n r0 r2 x3 x4 s0 = some o → g_W K s0 [(0, g_r 2 r0), (2, g_r 8 r2), (3, g_i x3), (4, g_i x4)] [] 95 (g_jR 8 o) := by
  intro n
  induction n with
  | zero =>
    intro r0 r2 x3 x4 s0 h
    cases h
  | succ n ih =>
    intro r0 r2 x3 x4 s0 h
    unfold f_Re_selection_95 at h
    refine r_iload hK d_Re_selection_95 3 rfl ?_
    refine r_iconst (v := 3) hK d_Re_selection_97 (by decide) ?_
    refine r_if_icmpge (tgt := 156) hK d_Re_selection_98 (by decide) h (fun h => ?_) (fun h => ?_)
    · exact r_sub [0, 1] rfl (t_Re_selection_156 hK hN hD _ _ _ h)
    · refine r_iload_n hK d_Re_selection_101 rfl 2 rfl ?_
      refine r_ifeq (tgt := 156) hK d_Re_selection_102 (by decide) h (fun h => ?_) (fun h => ?_)
      · exact r_sub [0, 1] rfl (t_Re_selection_156 hK hN hD _ _ _ h)
      · refine r_aload_n hK d_Re_selection_105 rfl 1 rfl ?_
        refine r_gR hK fd_Se_6 w4_2 d_Re_selection_106 h (fun p1 h => ?_)
        refine r_iload hK d_Re_selection_109 3 rfl ?_
        refine r_aload_n hK d_Re_selection_111 rfl 0 rfl ?_
        refine r_iload hK d_Re_selection_112 3 rfl ?_
        refine r_Vr (avL := [g_i x4]) (st := [g_i x4, g_r 27 p1]) hK ob_Re rfl w4_195 w4_196 w4_194 w4_197 w1_2 (by decide) pl_Re_source (by rw [hD]; decide) (Nat.le_of_ble_eq_true rfl) rfl d_Re_selection_114 (fun o9 h9 => c_Re_source _ _ _ _ _ o9 h9) h (fun p2 s3 h => ?_)
        refine r_aastore hK el_27 ar_27 rfl d_Re_selection_117 h (fun s4 h => ?_)
        refine r_aload_n hK d_Re_selection_118 rfl 1 rfl ?_
        refine r_iload hK d_Re_selection_119 3 rfl ?_
        refine r_iconst (v := 1) hK d_Re_selection_121 (by decide) ?_
        refine r_iadd hK d_Re_selection_122 ?_
        refine r_pI hK fd_Se_7 rfl w4_5 d_Re_selection_123 h (fun s5 h => ?_)
        refine r_iload hK d_Re_selection_126 3 rfl ?_
        refine r_iconst (v := 1) hK d_Re_selection_128 (by decide) ?_
        refine r_iadd hK d_Re_selection_129 ?_
        refine r_iconst (v := 3) hK d_Re_selection_130 (by decide) ?_
        refine r_if_icmpge (tgt := 148) hK d_Re_selection_131 (by decide) h (fun h => ?_) (fun h => ?_)
        · refine r_iconst (v := 0) hK d_Re_selection_148 (by decide) ?_
          refine r_istore_n (ls1 := [(3, g_i 0), (0, g_r 2 r0), (2, g_r 8 r2), (4, g_i x4)]) hK d_Re_selection_149 rfl (by rw [hN]; decide) rfl ?_
          refine r_iinc (ls1 := [(4, g_i (x4 + 1)), (3, g_i 0), (0, g_r 2 r0), (2, g_r 8 r2)]) hK d_Re_selection_150 3 rfl rfl (by rw [hN]; decide) rfl ?_
          refine r_goto (tgt := 95) hK d_Re_selection_153 (by decide) ?_
          exact r_sub [2, 3, 1, 0] rfl (ih _ _ _ _ _ h)
        · refine r_aload_n hK d_Re_selection_134 rfl 0 rfl ?_
          refine r_gsR hK (st_kind 25 (by decide)) (by decide) rfl w3_199 d_Re_selection_135 ?_
          refine r_Vi (avL := [g_r 13 (some 1613)]) (st := []) hK ob_Re rfl w3_76 w3_77 w3_75 w3_78 w1_2 (by decide) pl_Re_accept (by rw [hD]; decide) (Nat.le_of_ble_eq_true rfl) rfl d_Re_selection_138 (fun o9 h9 => c_Re_accept _ _ _ _ _ o9 h9) h (fun i6 s7 h => ?_)
          refine r_ifeq (tgt := 148) hK d_Re_selection_141 (by decide) h (fun h => ?_) (fun h => ?_)
          · refine r_iconst (v := 0) hK d_Re_selection_148 (by decide) ?_
            refine r_istore_n (ls1 := [(3, g_i 0), (0, g_r 2 r0), (2, g_r 8 r2), (4, g_i x4)]) hK d_Re_selection_149 rfl (by rw [hN]; decide) rfl ?_
            refine r_iinc (ls1 := [(4, g_i (x4 + 1)), (3, g_i 0), (0, g_r 2 r0), (2, g_r 8 r2)]) hK d_Re_selection_150 3 rfl rfl (by rw [hN]; decide) rfl ?_
            refine r_goto (tgt := 95) hK d_Re_selection_153 (by decide) ?_
            exact r_sub [2, 3, 1, 0] rfl (ih _ _ _ _ _ h)
          · refine r_iconst (v := 1) hK d_Re_selection_144 (by decide) ?_
            refine r_goto (tgt := 149) hK d_Re_selection_145 (by decide) ?_
            refine r_istore_n (ls1 := [(3, g_i 1), (0, g_r 2 r0), (2, g_r 8 r2), (4, g_i x4)]) hK d_Re_selection_149 rfl (by rw [hN]; decide) rfl ?_
            refine r_iinc (ls1 := [(4, g_i (x4 + 1)), (3, g_i 1), (0, g_r 2 r0), (2, g_r 8 r2)]) hK d_Re_selection_150 3 rfl rfl (by rw [hN]; decide) rfl ?_
            refine r_goto (tgt := 95) hK d_Re_selection_153 (by decide) ?_
            exact r_sub [2, 3, 1, 0] rfl (ih _ _ _ _ _ h)
set_option maxHeartbeats 4000000 in
set_option maxRecDepth 100000 in
theorem t_Re_selection_84 {K : g_C} {o : (Option Nat × g_St)} (hK : g_OK K b_Re_selection "FixpointEngine$Reader" "selection" (Option.some (Jvm.ClassFile.FieldType.object "FixpointEngine$Selection"))) (hN : g_nL K = 5) (hD : g_Kd K = 17) : ∀ (r0 : Option Nat) (r2 : Option Nat) (s0 : g_St), f_Re_selection_84 r0 r2 s0 = some o → g_W K s0 [(0, g_r 2 r0), (2, g_r 8 r2)] [] 84 (g_jR 8 o) := by
  intro r0 r2 s0 h
  unfold f_Re_selection_84 at h
  refine r_aload_n hK d_Re_selection_84 rfl 0 rfl ?_
  refine r_gsR hK (st_kind 4 (by decide)) (by decide) rfl w4_192 d_Re_selection_85 ?_
  refine r_Vi (avL := [g_r 13 (some 269)]) (st := []) hK ob_Re rfl w3_76 w3_77 w3_75 w3_78 w1_2 (by decide) pl_Re_accept (by rw [hD]; decide) (Nat.le_of_ble_eq_true rfl) rfl d_Re_selection_88 (fun o9 h9 => c_Re_accept _ _ _ _ _ o9 h9) h (fun i1 s2 h => ?_)
  refine r_istore_n (ls1 := [(3, g_i i1), (0, g_r 2 r0), (2, g_r 8 r2)]) hK d_Re_selection_91 rfl (by rw [hN]; decide) rfl ?_
  refine r_iconst (v := 0) hK d_Re_selection_92 (by decide) ?_
  refine r_istore (ls1 := [(4, g_i 0), (3, g_i i1), (0, g_r 2 r0), (2, g_r 8 r2)]) hK d_Re_selection_93 (by rw [hN]; decide) rfl ?_
  exact r_sub [2, 3, 1, 0] rfl (t_Re_selection_95 hK hN hD _ _ _ _ _ _ h)
set_option maxHeartbeats 4000000 in
set_option maxRecDepth 100000 in
theorem t_Re_selection_40 {K : g_C} {o : (Option Nat × g_St)} (hK : g_OK K b_Re_selection "FixpointEngine$Reader" "selection" (Option.some (Jvm.ClassFile.FieldType.object "FixpointEngine$Selection"))) (hN : g_nL K = 5) (hD : g_Kd K = 17) : ∀ (n : Nat) (r0 : Option Nat) (r2 : Option Nat) (x3 : Int32) (x4 : Int32) (s0 : g_St), f_Re_selection_40 n r0 r2 x3 x4 s0 = some o → g_W K s0 [(0, g_r 2 r0), (2, g_r 8 r2), (3, g_i x3), (4, g_i x4)] [] 40 (g_jR 8 o) := by
  intro n
  induction n with
  | zero =>
    intro r0 r2 x3 x4 s0 h
    cases h
  | succ n ih =>
    intro r0 r2 x3 x4 s0 h
    unfold f_Re_selection_40 at h
    refine r_iload hK d_Re_selection_40 3 rfl ?_
    refine r_iconst (v := 4) hK d_Re_selection_42 (by decide) ?_
    refine r_if_icmpge (tgt := 84) hK d_Re_selection_43 (by decide) h (fun h => ?_) (fun h => ?_)
    · exact r_sub [0, 1] rfl (t_Re_selection_84 hK hN hD _ _ _ h)
    · refine r_iload_n hK d_Re_selection_46 rfl 2 rfl ?_
      refine r_ifeq (tgt := 84) hK d_Re_selection_47 (by decide) h (fun h => ?_) (fun h => ?_)
      · exact r_sub [0, 1] rfl (t_Re_selection_84 hK hN hD _ _ _ h)
      · refine r_aload_n hK d_Re_selection_50 rfl 0 rfl ?_
        refine r_Vv (avL := []) (st := []) hK ob_Re rfl w4_43 w4_44 w4_42 w4_45 w1_2 (by decide) pl_Re_item (by rw [hD]; decide) (Nat.le_of_ble_eq_true rfl) rfl d_Re_selection_51 (fun o9 h9 => c_Re_item _ _ _ _ o9 h9) h (fun s2 h => ?_)
        refine r_iload hK d_Re_selection_54 3 rfl ?_
        refine r_iconst (v := 1) hK d_Re_selection_56 (by decide) ?_
        refine r_iadd hK d_Re_selection_57 ?_
        refine r_iconst (v := 4) hK d_Re_selection_58 (by decide) ?_
        refine r_if_icmpge (tgt := 76) hK d_Re_selection_59 (by decide) h (fun h => ?_) (fun h => ?_)
        · refine r_iconst (v := 0) hK d_Re_selection_76 (by decide) ?_
          refine r_istore_n (ls1 := [(3, g_i 0), (0, g_r 2 r0), (2, g_r 8 r2), (4, g_i x4)]) hK d_Re_selection_77 rfl (by rw [hN]; decide) rfl ?_
          refine r_iinc (ls1 := [(4, g_i (x4 + 1)), (3, g_i 0), (0, g_r 2 r0), (2, g_r 8 r2)]) hK d_Re_selection_78 3 rfl rfl (by rw [hN]; decide) rfl ?_
          refine r_goto (tgt := 40) hK d_Re_selection_81 (by decide) ?_
          exact r_sub [2, 3, 1, 0] rfl (ih _ _ _ _ _ h)
        · refine r_aload_n hK d_Re_selection_62 rfl 0 rfl ?_
          refine r_gsR hK (st_kind 25 (by decide)) (by decide) rfl w3_199 d_Re_selection_63 ?_
          refine r_Vi (avL := [g_r 13 (some 1613)]) (st := []) hK ob_Re rfl w3_76 w3_77 w3_75 w3_78 w1_2 (by decide) pl_Re_accept (by rw [hD]; decide) (Nat.le_of_ble_eq_true rfl) rfl d_Re_selection_66 (fun o9 h9 => c_Re_accept _ _ _ _ _ o9 h9) h (fun i3 s4 h => ?_)
          refine r_ifeq (tgt := 76) hK d_Re_selection_69 (by decide) h (fun h => ?_) (fun h => ?_)
          · refine r_iconst (v := 0) hK d_Re_selection_76 (by decide) ?_
            refine r_istore_n (ls1 := [(3, g_i 0), (0, g_r 2 r0), (2, g_r 8 r2), (4, g_i x4)]) hK d_Re_selection_77 rfl (by rw [hN]; decide) rfl ?_
            refine r_iinc (ls1 := [(4, g_i (x4 + 1)), (3, g_i 0), (0, g_r 2 r0), (2, g_r 8 r2)]) hK d_Re_selection_78 3 rfl rfl (by rw [hN]; decide) rfl ?_
            refine r_goto (tgt := 40) hK d_Re_selection_81 (by decide) ?_
            exact r_sub [2, 3, 1, 0] rfl (ih _ _ _ _ _ h)
          · refine r_iconst (v := 1) hK d_Re_selection_72 (by decide) ?_
            refine r_goto (tgt := 77) hK d_Re_selection_73 (by decide) ?_
            refine r_istore_n (ls1 := [(3, g_i 1), (0, g_r 2 r0), (2, g_r 8 r2), (4, g_i x4)]) hK d_Re_selection_77 rfl (by rw [hN]; decide) rfl ?_
            refine r_iinc (ls1 := [(4, g_i (x4 + 1)), (3, g_i 1), (0, g_r 2 r0), (2, g_r 8 r2)]) hK d_Re_selection_78 3 rfl rfl (by rw [hN]; decide) rfl ?_
            refine r_goto (tgt := 40) hK d_Re_selection_81 (by decide) ?_
            exact r_sub [2, 3, 1, 0] rfl (ih _ _ _ _ _ h)
set_option maxHeartbeats 4000000 in
set_option maxRecDepth 100000 in
theorem t_Re_selection_0 {K : g_C} {o : (Option Nat × g_St)} (hK : g_OK K b_Re_selection "FixpointEngine$Reader" "selection" (Option.some (Jvm.ClassFile.FieldType.object "FixpointEngine$Selection"))) (hN : g_nL K = 5) (hD : g_Kd K = 17) : ∀ (r0 : Option Nat) (x1 : Int32) (s0 : g_St), f_Re_selection r0 x1 s0 = some o → g_W K s0 [(0, g_r 2 r0), (1, g_i x1)] [] 0 (g_jR 8 o) := by
  intro r0 x1 s0 h
  unfold f_Re_selection at h
  refine r_new hK ob_Se rfl rfl w3_209 w3_210 w1_23 d_Re_selection_0 h (fun p1 s2 h => ?_)
  refine r_dup hK d_Re_selection_3 rfl ?_
  refine r_iload_n hK d_Re_selection_4 rfl 1 rfl ?_
  refine r_aload_n hK d_Re_selection_5 rfl 0 rfl ?_
  refine r_gR hK fd_Re_3 w1_61 d_Re_selection_6 h (fun p3 h => ?_)
  refine r_aload_n hK d_Re_selection_9 rfl 0 rfl ?_
  refine r_gI hK fd_Re_5 w1_63 d_Re_selection_10 h (fun i4 h => ?_)
  refine r_iaload hK ar_20 rfl d_Re_selection_13 h (fun i5 h => ?_)
  refine r_Iv (avL := [g_i x1, g_i i5]) (st := [g_r 8 p1]) hK rfl w3_212 w3_211 w3_213 w1_23 (by decide) pl_Se_init (by rw [hD]; decide) (Nat.le_of_ble_eq_true rfl) rfl d_Re_selection_14 (fun o9 h9 => c_Se_init _ _ _ _ _ _ o9 h9) h (fun s7 h => ?_)
  refine r_astore_n (ls1 := [(2, g_r 8 p1), (0, g_r 2 r0), (1, g_i x1)]) hK d_Re_selection_17 rfl (by rw [hN]; decide) rfl ?_
  refine r_aload_n hK d_Re_selection_18 rfl 1 rfl ?_
  refine r_aload_n hK d_Re_selection_19 rfl 0 rfl ?_
  refine r_pR hK pd_8 rfl (Or.inr rfl) fd_Re_8 rfl w1_66 d_Re_selection_20 h (fun s8 h => ?_)
  refine r_aload_n hK d_Re_selection_23 rfl 1 rfl ?_
  refine r_null hK 10 d_Re_selection_24 ?_
  refine r_pR hK pd_10 rfl (Or.inr rfl) fd_Re_9 rfl w1_67 d_Re_selection_25 h (fun s9 h => ?_)
  refine r_aload_n hK d_Re_selection_28 rfl 1 rfl ?_
  refine r_gsR hK (st_kind 3 (by decide)) (by decide) rfl w4_40 d_Re_selection_29 ?_
  refine r_Vv (avL := [g_r 13 (some 205)]) (st := []) hK ob_Re rfl w3_192 w3_193 w3_191 w3_194 w1_2 (by decide) pl_Re_expect (by rw [hD]; decide) (Nat.le_of_ble_eq_true rfl) rfl d_Re_selection_32 (fun o9 h9 => c_Re_expect _ _ _ _ _ o9 h9) h (fun s11 h => ?_)
  refine r_iconst (v := 1) hK d_Re_selection_35 (by decide) ?_
  refine r_istore_n (ls1 := [(3, g_i 1), (2, g_r 8 p1), (0, g_r 2 r0), (1, g_i x1)]) hK d_Re_selection_36 rfl (by rw [hN]; decide) rfl ?_
  refine r_iconst (v := 0) hK d_Re_selection_37 (by decide) ?_
  refine r_istore (ls1 := [(4, g_i 0), (3, g_i 1), (2, g_r 8 p1), (0, g_r 2 r0), (1, g_i x1)]) hK d_Re_selection_38 (by rw [hN]; decide) rfl ?_
  exact r_sub [3, 2, 1, 0] rfl (t_Re_selection_40 hK hN hD _ _ _ _ _ _ h)
theorem c_Re_selection (l : Launch) (G : g_G) (r0 : Option Nat) (x1 : Int32) (u : g_St) (o : (Option Nat × g_St)) (h : f_Re_selection r0 x1 u = some o) : g_Con l G y_Re_selection b_Re_selection 5 (Option.some (Jvm.ClassFile.FieldType.object "FixpointEngine$Selection")) 17 [g_r 2 r0, g_i x1] u (g_jR 8 o) :=
  g_Con.of rfl rfl (by decide +kernel) (Nat.le_of_ble_eq_true rfl) (fun K hK hN hD hX => t_Re_selection_0 hK hN hD _ _ _ h)
def f_Re_joins (r0 : Option Nat) (r1 : Option Nat) (s0 : g_St) : Option (Int32 × g_St) :=
  g_c (g_nn r0 (f_Re_accept r0 (some 717) s0)) fun i1 s2 =>
  if i1 = 0 then
    g_rZ 0 (some (0, s2))
  else
    g_c (g_nn r0 (f_Re_accept r0 (some 781) s2)) fun i3 s4 =>
    if i3 = 0 then
      g_pZ s4 519 r1 1 fun s5 =>
      g_rZ 1 (some (1, s5))
    else
      g_pZ s4 583 r1 1 fun s6 =>
      g_rZ 1 (some (1, s6))
set_option maxHeartbeats 4000000 in
set_option maxRecDepth 100000 in
theorem t_Re_joins_0 {K : g_C} {o : (Int32 × g_St)} (hK : g_OK K b_Re_joins "FixpointEngine$Reader" "joins" (Option.some Jvm.ClassFile.FieldType.boolean)) (hN : g_nL K = 2) (hD : g_Kd K = 2) : ∀ (r0 : Option Nat) (r1 : Option Nat) (s0 : g_St), f_Re_joins r0 r1 s0 = some o → g_W K s0 [(0, g_r 2 r0), (1, g_r 7 r1)] [] 0 (g_jI o) := by
  intro r0 r1 s0 h
  unfold f_Re_joins at h
  refine r_aload_n hK d_Re_joins_0 rfl 0 rfl ?_
  refine r_gsR hK (st_kind 11 (by decide)) (by decide) rfl w5_88 d_Re_joins_1 ?_
  refine r_Vi (avL := [g_r 13 (some 717)]) (st := []) hK ob_Re rfl w3_76 w3_77 w3_75 w3_78 w1_2 (by decide) pl_Re_accept (by rw [hD]; decide) (Nat.le_of_ble_eq_true rfl) rfl d_Re_joins_4 (fun o9 h9 => c_Re_accept _ _ _ _ _ o9 h9) h (fun i1 s2 h => ?_)
  refine r_ifne (tgt := 12) hK d_Re_joins_7 (by decide) h (fun h => ?_) (fun h => ?_)
  · refine r_aload_n hK d_Re_joins_12 rfl 0 rfl ?_
    refine r_gsR hK (st_kind 12 (by decide)) (by decide) rfl w5_90 d_Re_joins_13 ?_
    refine r_Vi (avL := [g_r 13 (some 781)]) (st := []) hK ob_Re rfl w3_76 w3_77 w3_75 w3_78 w1_2 (by decide) pl_Re_accept (by rw [hD]; decide) (Nat.le_of_ble_eq_true rfl) rfl d_Re_joins_16 (fun o9 h9 => c_Re_accept _ _ _ _ _ o9 h9) h (fun i3 s4 h => ?_)
    refine r_ifeq (tgt := 30) hK d_Re_joins_19 (by decide) h (fun h => ?_) (fun h => ?_)
    · refine r_aload_n hK d_Re_joins_30 rfl 1 rfl ?_
      refine r_iconst (v := 1) hK d_Re_joins_31 (by decide) ?_
      refine r_pZ hK fd_Pa_8 rfl w3_121 d_Re_joins_32 h (fun s5 h => ?_)
      refine r_iconst (v := 1) hK d_Re_joins_35 (by decide) ?_
      exact r_zreturn hK d_Re_joins_36 h
    · refine r_aload_n hK d_Re_joins_22 rfl 1 rfl ?_
      refine r_iconst (v := 1) hK d_Re_joins_23 (by decide) ?_
      refine r_pZ hK fd_Pa_9 rfl w3_124 d_Re_joins_24 h (fun s6 h => ?_)
      refine r_goto (tgt := 35) hK d_Re_joins_27 (by decide) ?_
      refine r_iconst (v := 1) hK d_Re_joins_35 (by decide) ?_
      exact r_zreturn hK d_Re_joins_36 h
  · refine r_iconst (v := 0) hK d_Re_joins_10 (by decide) ?_
    exact r_zreturn hK d_Re_joins_11 h
theorem c_Re_joins (l : Launch) (G : g_G) (r0 : Option Nat) (r1 : Option Nat) (u : g_St) (o : (Int32 × g_St)) (h : f_Re_joins r0 r1 u = some o) : g_Con l G y_Re_joins b_Re_joins 2 (Option.some Jvm.ClassFile.FieldType.boolean) 2 [g_r 2 r0, g_r 7 r1] u (g_jI o) :=
  g_Con.of rfl rfl (by decide +kernel) (Nat.le_of_ble_eq_true rfl) (fun K hK hN hD hX => t_Re_joins_0 hK hN hD _ _ _ h)
def f_Re_tail_83 (r0 : Option Nat) (r1 : Option Nat) (s0 : g_St) : Option (Unit × g_St) :=
  g_c (g_nn r0 (f_Re_accept r0 (some 1229) s0)) fun i1 s2 =>
  g_pZ s2 455 r1 i1 fun s3 =>
  g_gI s3 455 r1 fun i4 =>
  if i4 = 0 then
    some ((), s3)
  else
    g_c (g_nn r0 (f_Re_nameInto r0 r1 6 s3)) fun _ s6 =>
    g_c (g_nn r0 (f_Re_expect r0 (some 1165) s6)) fun _ s8 =>
    g_c (g_nn r0 (f_Re_nameInto r0 r1 3 s8)) fun _ s10 =>
    some ((), s10)
def f_Re_tail_50 (r0 : Option Nat) (r1 : Option Nat) (s0 : g_St) : Option (Unit × g_St) :=
  g_c (g_nn r0 (f_Re_expect r0 (some 1037) s0)) fun _ s2 =>
  g_c (g_nn r0 (f_Re_expect r0 (some 1101) s2)) fun _ s4 =>
  g_c (g_nn r0 (f_Re_nameInto r0 r1 5 s4)) fun _ s6 =>
  g_c (g_nn r0 (f_Re_expect r0 (some 1165) s6)) fun _ s8 =>
  g_c (g_nn r0 (f_Re_nameInto r0 r1 4 s8)) fun _ s10 =>
  f_Re_tail_83 r0 r1 s10
def f_Re_tail (r0 : Option Nat) (r1 : Option Nat) (s0 : g_St) : Option (Unit × g_St) :=
  g_c (g_nn r0 (f_Re_expect r0 (some 1741) s0)) fun _ s2 =>
  g_c (g_nn r0 (f_Re_accept r0 (some 845) s2)) fun i3 s4 =>
  g_pZ s4 391 r1 i3 fun s5 =>
  g_gI s5 391 r1 fun i6 =>
  if i6 = 0 then
    f_Re_tail_83 r0 r1 s5
  else
    g_c (g_nn r0 (f_Re_accept r0 (some 973) s5)) fun i7 s8 =>
    g_pZ s8 327 r1 i7 fun s9 =>
    g_gI s9 327 r1 fun i10 =>
    if i10 = 0 then
      g_c (g_nn r0 (f_Re_expect r0 (some 909) s9)) fun _ s12 =>
      f_Re_tail_50 r0 r1 s12
    else
      f_Re_tail_50 r0 r1 s9
set_option maxHeartbeats 4000000 in
set_option maxRecDepth 100000 in
theorem t_Re_tail_83 {K : g_C} {o : (Unit × g_St)} (hK : g_OK K b_Re_tail "FixpointEngine$Reader" "tail" (Option.none : Option Jvm.ClassFile.FieldType)) (hN : g_nL K = 2) (hD : g_Kd K = 3) : ∀ (r0 : Option Nat) (r1 : Option Nat) (s0 : g_St), f_Re_tail_83 r0 r1 s0 = some o → g_W K s0 [(0, g_r 2 r0), (1, g_r 7 r1)] [] 83 (g_jV o) := by
  intro r0 r1 s0 h
  unfold f_Re_tail_83 at h
  refine r_aload_n hK d_Re_tail_83 rfl 1 rfl ?_
  refine r_aload_n hK d_Re_tail_84 rfl 0 rfl ?_
  refine r_gsR hK (st_kind 19 (by decide)) (by decide) rfl w5_108 d_Re_tail_85 ?_
  refine r_Vi (avL := [g_r 13 (some 1229)]) (st := [g_r 7 r1]) hK ob_Re rfl w3_76 w3_77 w3_75 w3_78 w1_2 (by decide) pl_Re_accept (by rw [hD]; decide) (Nat.le_of_ble_eq_true rfl) rfl d_Re_tail_88 (fun o9 h9 => c_Re_accept _ _ _ _ _ o9 h9) h (fun i1 s2 h => ?_)
  refine r_pZ hK fd_Pa_7 rfl w3_118 d_Re_tail_91 h (fun s3 h => ?_)
  refine r_aload_n hK d_Re_tail_94 rfl 1 rfl ?_
  refine r_gI hK fd_Pa_7 w3_118 d_Re_tail_95 h (fun i4 h => ?_)
  refine r_ifeq (tgt := 121) hK d_Re_tail_98 (by decide) h (fun h => ?_) (fun h => ?_)
  · exact r_return hK d_Re_tail_121 h
  · refine r_aload_n hK d_Re_tail_101 rfl 0 rfl ?_
    refine r_aload_n hK d_Re_tail_102 rfl 1 rfl ?_
    refine r_bipush (v := 6) hK d_Re_tail_103 (by decide) ?_
    refine r_Vv (avL := [g_r 7 r1, g_i 6]) (st := []) hK ob_Re rfl w3_196 w3_197 w3_195 w3_198 w1_2 (by decide) pl_Re_nameInto (by rw [hD]; decide) (Nat.le_of_ble_eq_true rfl) rfl d_Re_tail_105 (fun o9 h9 => c_Re_nameInto _ _ _ _ _ _ o9 h9) h (fun s6 h => ?_)
    refine r_aload_n hK d_Re_tail_108 rfl 0 rfl ?_
    refine r_gsR hK (st_kind 18 (by decide)) (by decide) rfl w5_106 d_Re_tail_109 ?_
    refine r_Vv (avL := [g_r 13 (some 1165)]) (st := []) hK ob_Re rfl w3_192 w3_193 w3_191 w3_194 w1_2 (by decide) pl_Re_expect (by rw [hD]; decide) (Nat.le_of_ble_eq_true rfl) rfl d_Re_tail_112 (fun o9 h9 => c_Re_expect _ _ _ _ _ o9 h9) h (fun s8 h => ?_)
    refine r_aload_n hK d_Re_tail_115 rfl 0 rfl ?_
    refine r_aload_n hK d_Re_tail_116 rfl 1 rfl ?_
    refine r_iconst (v := 3) hK d_Re_tail_117 (by decide) ?_
    refine r_Vv (avL := [g_r 7 r1, g_i 3]) (st := []) hK ob_Re rfl w3_196 w3_197 w3_195 w3_198 w1_2 (by decide) pl_Re_nameInto (by rw [hD]; decide) (Nat.le_of_ble_eq_true rfl) rfl d_Re_tail_118 (fun o9 h9 => c_Re_nameInto _ _ _ _ _ _ o9 h9) h (fun s10 h => ?_)
    exact r_return hK d_Re_tail_121 h
set_option maxHeartbeats 4000000 in
set_option maxRecDepth 100000 in
theorem t_Re_tail_50 {K : g_C} {o : (Unit × g_St)} (hK : g_OK K b_Re_tail "FixpointEngine$Reader" "tail" (Option.none : Option Jvm.ClassFile.FieldType)) (hN : g_nL K = 2) (hD : g_Kd K = 3) : ∀ (r0 : Option Nat) (r1 : Option Nat) (s0 : g_St), f_Re_tail_50 r0 r1 s0 = some o → g_W K s0 [(0, g_r 2 r0), (1, g_r 7 r1)] [] 50 (g_jV o) := by
  intro r0 r1 s0 h
  unfold f_Re_tail_50 at h
  refine r_aload_n hK d_Re_tail_50 rfl 0 rfl ?_
  refine r_gsR hK (st_kind 16 (by decide)) (by decide) rfl w5_102 d_Re_tail_51 ?_
  refine r_Vv (avL := [g_r 13 (some 1037)]) (st := []) hK ob_Re rfl w3_192 w3_193 w3_191 w3_194 w1_2 (by decide) pl_Re_expect (by rw [hD]; decide) (Nat.le_of_ble_eq_true rfl) rfl d_Re_tail_54 (fun o9 h9 => c_Re_expect _ _ _ _ _ o9 h9) h (fun s2 h => ?_)
  refine r_aload_n hK d_Re_tail_57 rfl 0 rfl ?_
  refine r_gsR hK (st_kind 17 (by decide)) (by decide) rfl w5_104 d_Re_tail_58 ?_
  refine r_Vv (avL := [g_r 13 (some 1101)]) (st := []) hK ob_Re rfl w3_192 w3_193 w3_191 w3_194 w1_2 (by decide) pl_Re_expect (by rw [hD]; decide) (Nat.le_of_ble_eq_true rfl) rfl d_Re_tail_61 (fun o9 h9 => c_Re_expect _ _ _ _ _ o9 h9) h (fun s4 h => ?_)
  refine r_aload_n hK d_Re_tail_64 rfl 0 rfl ?_
  refine r_aload_n hK d_Re_tail_65 rfl 1 rfl ?_
  refine r_iconst (v := 5) hK d_Re_tail_66 (by decide) ?_
  refine r_Vv (avL := [g_r 7 r1, g_i 5]) (st := []) hK ob_Re rfl w3_196 w3_197 w3_195 w3_198 w1_2 (by decide) pl_Re_nameInto (by rw [hD]; decide) (Nat.le_of_ble_eq_true rfl) rfl d_Re_tail_67 (fun o9 h9 => c_Re_nameInto _ _ _ _ _ _ o9 h9) h (fun s6 h => ?_)
  refine r_aload_n hK d_Re_tail_70 rfl 0 rfl ?_
  refine r_gsR hK (st_kind 18 (by decide)) (by decide) rfl w5_106 d_Re_tail_71 ?_
  refine r_Vv (avL := [g_r 13 (some 1165)]) (st := []) hK ob_Re rfl w3_192 w3_193 w3_191 w3_194 w1_2 (by decide) pl_Re_expect (by rw [hD]; decide) (Nat.le_of_ble_eq_true rfl) rfl d_Re_tail_74 (fun o9 h9 => c_Re_expect _ _ _ _ _ o9 h9) h (fun s8 h => ?_)
  refine r_aload_n hK d_Re_tail_77 rfl 0 rfl ?_
  refine r_aload_n hK d_Re_tail_78 rfl 1 rfl ?_
  refine r_iconst (v := 4) hK d_Re_tail_79 (by decide) ?_
  refine r_Vv (avL := [g_r 7 r1, g_i 4]) (st := []) hK ob_Re rfl w3_196 w3_197 w3_195 w3_198 w1_2 (by decide) pl_Re_nameInto (by rw [hD]; decide) (Nat.le_of_ble_eq_true rfl) rfl d_Re_tail_80 (fun o9 h9 => c_Re_nameInto _ _ _ _ _ _ o9 h9) h (fun s10 h => ?_)
  exact r_sub [0, 1] rfl (t_Re_tail_83 hK hN hD _ _ _ h)
set_option maxHeartbeats 4000000 in
set_option maxRecDepth 100000 in
theorem t_Re_tail_0 {K : g_C} {o : (Unit × g_St)} (hK : g_OK K b_Re_tail "FixpointEngine$Reader" "tail" (Option.none : Option Jvm.ClassFile.FieldType)) (hN : g_nL K = 2) (hD : g_Kd K = 3) : ∀ (r0 : Option Nat) (r1 : Option Nat) (s0 : g_St), f_Re_tail r0 r1 s0 = some o → g_W K s0 [(0, g_r 2 r0), (1, g_r 7 r1)] [] 0 (g_jV o) := by
  intro r0 r1 s0 h
  unfold f_Re_tail at h
  refine r_aload_n hK d_Re_tail_0 rfl 0 rfl ?_
  refine r_gsR hK (st_kind 27 (by decide)) (by decide) rfl w3_201 d_Re_tail_1 ?_
  refine r_Vv (avL := [g_r 13 (some 1741)]) (st := []) hK ob_Re rfl w3_192 w3_193 w3_191 w3_194 w1_2 (by decide) pl_Re_expect (by rw [hD]; decide) (Nat.le_of_ble_eq_true rfl) rfl d_Re_tail_4 (fun o9 h9 => c_Re_expect _ _ _ _ _ o9 h9) h (fun s2 h => ?_)
  refine r_aload_n hK d_Re_tail_7 rfl 1 rfl ?_
  refine r_aload_n hK d_Re_tail_8 rfl 0 rfl ?_
  refine r_gsR hK (st_kind 13 (by decide)) (by decide) rfl w5_96 d_Re_tail_9 ?_
  refine r_Vi (avL := [g_r 13 (some 845)]) (st := [g_r 7 r1]) hK ob_Re rfl w3_76 w3_77 w3_75 w3_78 w1_2 (by decide) pl_Re_accept (by rw [hD]; decide) (Nat.le_of_ble_eq_true rfl) rfl d_Re_tail_12 (fun o9 h9 => c_Re_accept _ _ _ _ _ o9 h9) h (fun i3 s4 h => ?_)
  refine r_pZ hK fd_Pa_6 rfl w3_113 d_Re_tail_15 h (fun s5 h => ?_)
  refine r_aload_n hK d_Re_tail_18 rfl 1 rfl ?_
  refine r_gI hK fd_Pa_6 w3_113 d_Re_tail_19 h (fun i6 h => ?_)
  refine r_ifeq (tgt := 83) hK d_Re_tail_22 (by decide) h (fun h => ?_) (fun h => ?_)
  · exact r_sub [0, 1] rfl (t_Re_tail_83 hK hN hD _ _ _ h)
  · refine r_aload_n hK d_Re_tail_25 rfl 1 rfl ?_
    refine r_aload_n hK d_Re_tail_26 rfl 0 rfl ?_
    refine r_gsR hK (st_kind 15 (by decide)) (by decide) rfl w5_98 d_Re_tail_27 ?_
    refine r_Vi (avL := [g_r 13 (some 973)]) (st := [g_r 7 r1]) hK ob_Re rfl w3_76 w3_77 w3_75 w3_78 w1_2 (by decide) pl_Re_accept (by rw [hD]; decide) (Nat.le_of_ble_eq_true rfl) rfl d_Re_tail_30 (fun o9 h9 => c_Re_accept _ _ _ _ _ o9 h9) h (fun i7 s8 h => ?_)
    refine r_pZ hK fd_Pa_5 rfl w3_109 d_Re_tail_33 h (fun s9 h => ?_)
    refine r_aload_n hK d_Re_tail_36 rfl 1 rfl ?_
    refine r_gI hK fd_Pa_5 w3_109 d_Re_tail_37 h (fun i10 h => ?_)
    refine r_ifne (tgt := 50) hK d_Re_tail_40 (by decide) h (fun h => ?_) (fun h => ?_)
    · exact r_sub [0, 1] rfl (t_Re_tail_50 hK hN hD _ _ _ h)
    · refine r_aload_n hK d_Re_tail_43 rfl 0 rfl ?_
      refine r_gsR hK (st_kind 14 (by decide)) (by decide) rfl w5_100 d_Re_tail_44 ?_
      refine r_Vv (avL := [g_r 13 (some 909)]) (st := []) hK ob_Re rfl w3_192 w3_193 w3_191 w3_194 w1_2 (by decide) pl_Re_expect (by rw [hD]; decide) (Nat.le_of_ble_eq_true rfl) rfl d_Re_tail_47 (fun o9 h9 => c_Re_expect _ _ _ _ _ o9 h9) h (fun s12 h => ?_)
      exact r_sub [0, 1] rfl (t_Re_tail_50 hK hN hD _ _ _ h)
theorem c_Re_tail (l : Launch) (G : g_G) (r0 : Option Nat) (r1 : Option Nat) (u : g_St) (o : (Unit × g_St)) (h : f_Re_tail r0 r1 u = some o) : g_Con l G y_Re_tail b_Re_tail 2 (Option.none : Option Jvm.ClassFile.FieldType) 3 [g_r 2 r0, g_r 7 r1] u (g_jV o) :=
  g_Con.of rfl rfl (by decide +kernel) (Nat.le_of_ble_eq_true rfl) (fun K hK hN hD hX => t_Re_tail_0 hK hN hD _ _ _ h)
def f_Re_order_48 (k11 : Option Nat → Int32 → Int32 → g_St → Option (Unit × g_St)) (r0 : Option Nat) (x2 : Int32) (r0s : Option Nat) (x1s : Int32) (s0 : g_St) : Option (Unit × g_St) :=
  g_pZ s0 386 r0s x1s fun s1 =>
  g_gR s1 450 r0 fun p2 =>
  g_gR s1 262 p2 fun p3 =>
  g_c (g_nn r0 (f_Re_operand r0 0 s1)) fun p4 s5 =>
  g_sR s5 p3 x2 p4 fun s6 =>
  g_gR s6 450 r0 fun p7 =>
  g_gR s6 262 p7 fun p8 =>
  g_aR s6 p8 x2 fun p9 =>
  g_pZ s6 459 p9 1 fun s10 =>
  g_gR s10 450 r0 fun p11 =>
  g_pI s10 326 p11 (x2 + 1) fun s12 =>
  if 2 ≤ (x2 + 1) then
    k11 r0 0 (x2 + 1) s12
  else
    g_c (g_nn r0 (f_Re_accept r0 (some 1613) s12)) fun i13 s14 =>
    if i13 = 0 then
      k11 r0 0 (x2 + 1) s14
    else
      k11 r0 1 (x2 + 1) s14
def f_Re_order_11 : Nat → Option Nat → Int32 → Int32 → g_St → Option (Unit × g_St)
  | 0, _, _, _, _ => none
  | n + 1, r0, x1, x2, s0 =>
    if 2 ≤ x2 then
      some ((), s0)
    else
      if x1 = 0 then
        some ((), s0)
      else
        g_gI s0 386 r0 fun i1 =>
        if i1 = 0 then
          g_gR s0 130 r0 fun p2 =>
          g_gI s0 322 r0 fun i3 =>
          g_aR s0 p2 i3 fun p4 =>
          if p4 = (some 2317) then
            f_Re_order_48 (f_Re_order_11 n) r0 x2 r0 0 s0
          else
            f_Re_order_48 (f_Re_order_11 n) r0 x2 r0 1 s0
        else
          f_Re_order_48 (f_Re_order_11 n) r0 x2 r0 1 s0
def f_Re_order (r0 : Option Nat) (s0 : g_St) : Option (Unit × g_St) :=
  g_c (g_nn r0 (f_Re_expect r0 (some 1101) s0)) fun _ s2 =>
  f_Re_order_11 200000 r0 1 0 s2
set_option maxHeartbeats 4000000 in
set_option maxRecDepth 100000 in
theorem t_Re_order_48 {K : g_C} {o : (Unit × g_St)} (hK : g_OK K b_Re_order "FixpointEngine$Reader" "order" (Option.none : Option Jvm.ClassFile.FieldType)) (hN : g_nL K = 3) (hD : g_Kd K = 14) {k11 : Option Nat → Int32 → Int32 → g_St → Option (Unit × g_St)} (hk11 : ∀ (r0 : Option Nat) (x1 : Int32) (x2 : Int32) (s0 : g_St), k11 r0 x1 x2 s0 = some o → g_W K s0 [(0, g_r 2 r0), (1, g_i x1), (2, g_i x2)] [] 11 (g_jV o)) : ∀ (r0 : Option Nat) (x2 : Int32) (r0s : Option Nat) (x1s : Int32) (s0 : g_St), f_Re_order_48 k11 r0 x2 r0s x1s s0 = some o → g_W K s0 [(0, g_r 2 r0), (2, g_i x2)] [g_i x1s, g_r 2 r0s] 48 (g_jV o) := by
  intro r0 x2 r0s x1s s0 h
  unfold f_Re_order_48 at h
  refine r_pZ hK fd_Re_6 rfl w1_64 d_Re_order_48 h (fun s1 h => ?_)
  refine r_aload_n hK d_Re_order_51 rfl 0 rfl ?_
  refine r_gR hK fd_Re_7 w1_65 d_Re_order_52 h (fun p2 h => ?_)
  refine r_gR hK fd_Qu_4 w3_38 d_Re_order_55 h (fun p3 h => ?_)
  refine r_iload_n hK d_Re_order_58 rfl 1 rfl ?_
  refine r_aload_n hK d_Re_order_59 rfl 0 rfl ?_
  refine r_iconst (v := 0) hK d_Re_order_60 (by decide) ?_
  refine r_Vr (avL := [g_i 0]) (st := [g_i x2, g_r 26 p3]) hK ob_Re rfl w4_61 w4_62 w4_60 w4_63 w1_2 (by decide) pl_Re_operand (by rw [hD]; decide) (Nat.le_of_ble_eq_true rfl) rfl d_Re_order_61 (fun o9 h9 => c_Re_operand _ _ _ _ _ o9 h9) h (fun p4 s5 h => ?_)
  refine r_aastore hK el_26 ar_26 rfl d_Re_order_64 h (fun s6 h => ?_)
  refine r_aload_n hK d_Re_order_65 rfl 0 rfl ?_
  refine r_gR hK fd_Re_7 w1_65 d_Re_order_66 h (fun p7 h => ?_)
  refine r_gR hK fd_Qu_4 w3_38 d_Re_order_69 h (fun p8 h => ?_)
  refine r_iload_n hK d_Re_order_72 rfl 1 rfl ?_
  refine r_aaload hK rfl ar_26 rfl d_Re_order_73 h (fun p9 h => ?_)
  refine r_iconst (v := 1) hK d_Re_order_74 (by decide) ?_
  refine r_pZ hK fd_Te_7 rfl w4_84 d_Re_order_75 h (fun s10 h => ?_)
  refine r_aload_n hK d_Re_order_78 rfl 0 rfl ?_
  refine r_gR hK fd_Re_7 w1_65 d_Re_order_79 h (fun p11 h => ?_)
  refine r_iload_n hK d_Re_order_82 rfl 1 rfl ?_
  refine r_iconst (v := 1) hK d_Re_order_83 (by decide) ?_
  refine r_iadd hK d_Re_order_84 ?_
  refine r_pI hK fd_Qu_5 rfl w3_41 d_Re_order_85 h (fun s12 h => ?_)
  refine r_iload_n hK d_Re_order_88 rfl 1 rfl ?_
  refine r_iconst (v := 1) hK d_Re_order_89 (by decide) ?_
  refine r_iadd hK d_Re_order_90 ?_
  refine r_iconst (v := 2) hK d_Re_order_91 (by decide) ?_
  refine r_if_icmpge (tgt := 109) hK d_Re_order_92 (by decide) h (fun h => ?_) (fun h => ?_)
  · refine r_iconst (v := 0) hK d_Re_order_109 (by decide) ?_
    refine r_istore_n (ls1 := [(1, g_i 0), (0, g_r 2 r0), (2, g_i x2)]) hK d_Re_order_110 rfl (by rw [hN]; decide) rfl ?_
    refine r_iinc (ls1 := [(2, g_i (x2 + 1)), (1, g_i 0), (0, g_r 2 r0)]) hK d_Re_order_111 2 rfl rfl (by rw [hN]; decide) rfl ?_
    refine r_goto (tgt := 11) hK d_Re_order_114 (by decide) ?_
    exact r_sub [2, 1, 0] rfl (hk11 _ _ _ _ h)
  · refine r_aload_n hK d_Re_order_95 rfl 0 rfl ?_
    refine r_gsR hK (st_kind 25 (by decide)) (by decide) rfl w3_199 d_Re_order_96 ?_
    refine r_Vi (avL := [g_r 13 (some 1613)]) (st := []) hK ob_Re rfl w3_76 w3_77 w3_75 w3_78 w1_2 (by decide) pl_Re_accept (by rw [hD]; decide) (Nat.le_of_ble_eq_true rfl) rfl d_Re_order_99 (fun o9 h9 => c_Re_accept _ _ _ _ _ o9 h9) h (fun i13 s14 h => ?_)
    refine r_ifeq (tgt := 109) hK d_Re_order_102 (by decide) h (fun h => ?_) (fun h => ?_)
    · refine r_iconst (v := 0) hK d_Re_order_109 (by decide) ?_
      refine r_istore_n (ls1 := [(1, g_i 0), (0, g_r 2 r0), (2, g_i x2)]) hK d_Re_order_110 rfl (by rw [hN]; decide) rfl ?_
      refine r_iinc (ls1 := [(2, g_i (x2 + 1)), (1, g_i 0), (0, g_r 2 r0)]) hK d_Re_order_111 2 rfl rfl (by rw [hN]; decide) rfl ?_
      refine r_goto (tgt := 11) hK d_Re_order_114 (by decide) ?_
      exact r_sub [2, 1, 0] rfl (hk11 _ _ _ _ h)
    · refine r_iconst (v := 1) hK d_Re_order_105 (by decide) ?_
      refine r_goto (tgt := 110) hK d_Re_order_106 (by decide) ?_
      refine r_istore_n (ls1 := [(1, g_i 1), (0, g_r 2 r0), (2, g_i x2)]) hK d_Re_order_110 rfl (by rw [hN]; decide) rfl ?_
      refine r_iinc (ls1 := [(2, g_i (x2 + 1)), (1, g_i 1), (0, g_r 2 r0)]) hK d_Re_order_111 2 rfl rfl (by rw [hN]; decide) rfl ?_
      refine r_goto (tgt := 11) hK d_Re_order_114 (by decide) ?_
      exact r_sub [2, 1, 0] rfl (hk11 _ _ _ _ h)
set_option maxHeartbeats 4000000 in
set_option maxRecDepth 100000 in
theorem t_Re_order_11 {K : g_C} {o : (Unit × g_St)} (hK : g_OK K b_Re_order "FixpointEngine$Reader" "order" (Option.none : Option Jvm.ClassFile.FieldType)) (hN : g_nL K = 3) (hD : g_Kd K = 14) : ∀ (n : Nat) (r0 : Option Nat) (x1 : Int32) (x2 : Int32) (s0 : g_St), f_Re_order_11 n r0 x1 x2 s0 = some o → g_W K s0 [(0, g_r 2 r0), (1, g_i x1), (2, g_i x2)] [] 11 (g_jV o) := by
  intro n
  induction n with
  | zero =>
    intro r0 x1 x2 s0 h
    cases h
  | succ n ih =>
    intro r0 x1 x2 s0 h
    unfold f_Re_order_11 at h
    refine r_iload_n hK d_Re_order_11 rfl 2 rfl ?_
    refine r_iconst (v := 2) hK d_Re_order_12 (by decide) ?_
    refine r_if_icmpge (tgt := 117) hK d_Re_order_13 (by decide) h (fun h => ?_) (fun h => ?_)
    · exact r_return hK d_Re_order_117 h
    · refine r_iload_n hK d_Re_order_16 rfl 1 rfl ?_
      refine r_ifeq (tgt := 117) hK d_Re_order_17 (by decide) h (fun h => ?_) (fun h => ?_)
      · exact r_return hK d_Re_order_117 h
      · refine r_aload_n hK d_Re_order_20 rfl 0 rfl ?_
        refine r_aload_n hK d_Re_order_21 rfl 0 rfl ?_
        refine r_gI hK fd_Re_6 w1_64 d_Re_order_22 h (fun i1 h => ?_)
        refine r_ifne (tgt := 43) hK d_Re_order_25 (by decide) h (fun h => ?_) (fun h => ?_)
        · refine r_iconst (v := 1) hK d_Re_order_43 (by decide) ?_
          refine r_goto (tgt := 48) hK d_Re_order_44 (by decide) ?_
          exact r_sub [0, 2] rfl (t_Re_order_48 hK hN hD ih _ _ _ _ _ h)
        · refine r_aload_n hK d_Re_order_28 rfl 0 rfl ?_
          refine r_gR hK fd_Re_2 w1_60 d_Re_order_29 h (fun p2 h => ?_)
          refine r_aload_n hK d_Re_order_32 rfl 0 rfl ?_
          refine r_gI hK fd_Re_5 w1_63 d_Re_order_33 h (fun i3 h => ?_)
          refine r_aaload hK rfl ar_23 rfl d_Re_order_36 h (fun p4 h => ?_)
          refine r_gsR hK (st_kind 36 (by decide)) (by decide) rfl w2_158 d_Re_order_37 ?_
          refine r_if_acmpeq (tgt := 47) hK (by decide) (by decide) d_Re_order_40 (by decide) h (fun h => ?_) (fun h => ?_)
          · refine r_iconst (v := 0) hK d_Re_order_47 (by decide) ?_
            exact r_sub [0, 2] rfl (t_Re_order_48 hK hN hD ih _ _ _ _ _ h)
          · refine r_iconst (v := 1) hK d_Re_order_43 (by decide) ?_
            refine r_goto (tgt := 48) hK d_Re_order_44 (by decide) ?_
            exact r_sub [0, 2] rfl (t_Re_order_48 hK hN hD ih _ _ _ _ _ h)
set_option maxHeartbeats 4000000 in
set_option maxRecDepth 100000 in
theorem t_Re_order_0 {K : g_C} {o : (Unit × g_St)} (hK : g_OK K b_Re_order "FixpointEngine$Reader" "order" (Option.none : Option Jvm.ClassFile.FieldType)) (hN : g_nL K = 3) (hD : g_Kd K = 14) : ∀ (r0 : Option Nat) (s0 : g_St), f_Re_order r0 s0 = some o → g_W K s0 [(0, g_r 2 r0)] [] 0 (g_jV o) := by
  intro r0 s0 h
  unfold f_Re_order at h
  refine r_aload_n hK d_Re_order_0 rfl 0 rfl ?_
  refine r_gsR hK (st_kind 17 (by decide)) (by decide) rfl w5_104 d_Re_order_1 ?_
  refine r_Vv (avL := [g_r 13 (some 1101)]) (st := []) hK ob_Re rfl w3_192 w3_193 w3_191 w3_194 w1_2 (by decide) pl_Re_expect (by rw [hD]; decide) (Nat.le_of_ble_eq_true rfl) rfl d_Re_order_4 (fun o9 h9 => c_Re_expect _ _ _ _ _ o9 h9) h (fun s2 h => ?_)
  refine r_iconst (v := 1) hK d_Re_order_7 (by decide) ?_
  refine r_istore_n (ls1 := [(1, g_i 1), (0, g_r 2 r0)]) hK d_Re_order_8 rfl (by rw [hN]; decide) rfl ?_
  refine r_iconst (v := 0) hK d_Re_order_9 (by decide) ?_
  refine r_istore_n (ls1 := [(2, g_i 0), (1, g_i 1), (0, g_r 2 r0)]) hK d_Re_order_10 rfl (by rw [hN]; decide) rfl ?_
  exact r_sub [2, 1, 0] rfl (t_Re_order_11 hK hN hD _ _ _ _ _ h)
theorem c_Re_order (l : Launch) (G : g_G) (r0 : Option Nat) (u : g_St) (o : (Unit × g_St)) (h : f_Re_order r0 u = some o) : g_Con l G y_Re_order b_Re_order 3 (Option.none : Option Jvm.ClassFile.FieldType) 14 [g_r 2 r0] u (g_jV o) :=
  g_Con.of rfl rfl (by decide +kernel) (Nat.le_of_ble_eq_true rfl) (fun K hK hN hD hX => t_Re_order_0 hK hN hD _ _ h)
def f_Re_read_235 (r0 : Option Nat) (s0 : g_St) : Option (Option Nat × g_St) :=
  g_gI s0 386 r0 fun i1 =>
  if i1 = 0 then
    g_gR s0 130 r0 fun p2 =>
    g_gI s0 322 r0 fun i3 =>
    g_aR s0 p2 i3 fun p4 =>
    if p4 = (some 2445) then
      g_gR s0 450 r0 fun p5 =>
      some (p5, s0)
    else
      some (none, s0)
  else
    some (none, s0)
def f_Re_read_187 (r0 : Option Nat) (s0 : g_St) : Option (Option Nat × g_St) :=
  g_gR s0 450 r0 fun p1 =>
  g_gR s0 450 r0 fun p2 =>
  g_gI s0 70 p2 fun i3 =>
  g_c (g_nn r0 (f_Re_selection r0 i3 s0)) fun p4 s5 =>
  g_pR s5 198 p1 p4 fun s6 =>
  g_gR s6 450 r0 fun p7 =>
  g_gR s6 194 r0 fun p8 =>
  g_gI s6 322 r0 fun i9 =>
  g_aI s6 p8 i9 fun i10 =>
  g_pI s6 390 p7 i10 fun s11 =>
  g_c (g_nn r0 (f_Re_accept r0 (some 1549) s11)) fun i12 s13 =>
  if i12 = 0 then
    f_Re_read_235 r0 s13
  else
    g_c (g_nn r0 (f_Re_order r0 s13)) fun _ s15 =>
    f_Re_read_235 r0 s15
def f_Re_read_153 (k53 : Option Nat → Int32 → Int32 → g_St → Option (Option Nat × g_St)) (r0 : Option Nat) (x2 : Int32) (r3 : Option Nat) (s0 : g_St) : Option (Option Nat × g_St) :=
  g_c (g_nn r0 (f_Re_tail r0 r3 s0)) fun _ s2 =>
  if 4 ≤ (x2 + 1) then
    k53 r0 0 (x2 + 1) s2
  else
    g_c (g_nn r0 (f_Re_accept r0 (some 1613) s2)) fun i3 s4 =>
    if i3 = 0 then
      k53 r0 0 (x2 + 1) s4
    else
      k53 r0 1 (x2 + 1) s4
def f_Re_read_93 (k53 : Option Nat → Int32 → Int32 → g_St → Option (Option Nat × g_St)) : Nat → Option Nat → Int32 → Option Nat → Int32 → Int32 → g_St → Option (Option Nat × g_St)
  | 0, _, _, _, _, _, _ => none
  | n + 1, r0, x2, r3, x4, x5, s0 =>
    if 4 ≤ x5 then
      f_Re_read_153 k53 r0 x2 r3 s0
    else
      if x4 = 0 then
        f_Re_read_153 k53 r0 x2 r3 s0
      else
        g_gR s0 647 r3 fun p1 =>
        g_c (g_nn r0 (f_Re_selection r0 x2 s0)) fun p2 s3 =>
        g_sR s3 p1 x5 p2 fun s4 =>
        g_pI s4 711 r3 (x5 + 1) fun s5 =>
        if 4 ≤ (x5 + 1) then
          f_Re_read_93 k53 n r0 x2 r3 0 (x5 + 1) s5
        else
          g_c (g_nn r0 (f_Re_joins r0 r3 s5)) fun i6 s7 =>
          if i6 = 0 then
            f_Re_read_93 k53 n r0 x2 r3 0 (x5 + 1) s7
          else
            f_Re_read_93 k53 n r0 x2 r3 1 (x5 + 1) s7
def f_Re_read_53 : Nat → Option Nat → Int32 → Int32 → g_St → Option (Option Nat × g_St)
  | 0, _, _, _, _ => none
  | n + 1, r0, x1, x2, s0 =>
    if 4 ≤ x2 then
      f_Re_read_187 r0 s0
    else
      if x1 = 0 then
        f_Re_read_187 r0 s0
      else
        g_c (g_nn r0 (f_Re_head r0 s0)) fun p1 s2 =>
        g_gR s2 450 r0 fun p3 =>
        g_gR s2 6 p3 fun p4 =>
        g_sR s2 p4 x2 p1 fun s5 =>
        g_gR s5 450 r0 fun p6 =>
        g_pI s5 70 p6 (x2 + 1) fun s7 =>
        f_Re_read_93 (f_Re_read_53 n) 200000 r0 x2 p1 1 0 s7
def f_Re_read (r0 : Option Nat) (s0 : g_St) : Option (Option Nat × g_St) :=
  g_c (g_nn r0 (f_Re_cut r0 s0)) fun _ s2 =>
  g_pI s2 322 r0 0 fun s3 =>
  g_pZ s3 386 r0 0 fun s4 =>
  g_new s4 6 10 fun p5 s6 =>
  g_c (g_nn p5 (f_Qu_init p5 s6)) fun _ s8 =>
  g_pR s8 450 r0 p5 fun s9 =>
  g_c (g_nn r0 (f_Re_accept r0 (some 13) s9)) fun i10 s11 =>
  if i10 = 0 then
    f_Re_read_187 r0 s11
  else
    g_gR s11 450 r0 fun p12 =>
    g_c (g_nn r0 (f_Re_accept r0 (some 77) s11)) fun i13 s14 =>
    g_pZ s14 134 p12 i13 fun s15 =>
    f_Re_read_53 200000 r0 1 0 s15
set_option maxHeartbeats 4000000 in
set_option maxRecDepth 100000 in
theorem t_Re_read_235 {K : g_C} {o : (Option Nat × g_St)} (hK : g_OK K b_Re_read "FixpointEngine$Reader" "read" (Option.some (Jvm.ClassFile.FieldType.object "FixpointEngine$Query"))) (hN : g_nL K = 6) (hD : g_Kd K = 18) : ∀ (r0 : Option Nat) (s0 : g_St), f_Re_read_235 r0 s0 = some o → g_W K s0 [(0, g_r 2 r0)] [] 235 (g_jR 6 o) := by
  intro r0 s0 h
  unfold f_Re_read_235 at h
  refine r_aload_n hK d_Re_read_235 rfl 0 rfl ?_
  refine r_gI hK fd_Re_6 w1_64 d_Re_read_236 h (fun i1 h => ?_)
  refine r_ifne (tgt := 257) hK d_Re_read_239 (by decide) h (fun h => ?_) (fun h => ?_)
  · refine r_null hK 6 d_Re_read_257 ?_
    refine r_goto (tgt := 265) hK d_Re_read_258 (by decide) ?_
    exact r_areturn (Or.inl ⟨_, rfl⟩) hK d_Re_read_265 h
  · refine r_aload_n hK d_Re_read_242 rfl 0 rfl ?_
    refine r_gR hK fd_Re_2 w1_60 d_Re_read_243 h (fun p2 h => ?_)
    refine r_aload_n hK d_Re_read_246 rfl 0 rfl ?_
    refine r_gI hK fd_Re_5 w1_63 d_Re_read_247 h (fun i3 h => ?_)
    refine r_aaload hK rfl ar_23 rfl d_Re_read_250 h (fun p4 h => ?_)
    refine r_gsR hK (st_kind 38 (by decide)) (by decide) rfl w2_223 d_Re_read_251 ?_
    refine r_if_acmpeq (tgt := 261) hK (by decide) (by decide) d_Re_read_254 (by decide) h (fun h => ?_) (fun h => ?_)
    · refine r_aload_n hK d_Re_read_261 rfl 0 rfl ?_
      refine r_gR hK fd_Re_7 w1_65 d_Re_read_262 h (fun p5 h => ?_)
      exact r_areturn (Or.inl ⟨_, rfl⟩) hK d_Re_read_265 h
    · refine r_null hK 6 d_Re_read_257 ?_
      refine r_goto (tgt := 265) hK d_Re_read_258 (by decide) ?_
      exact r_areturn (Or.inl ⟨_, rfl⟩) hK d_Re_read_265 h
set_option maxHeartbeats 4000000 in
set_option maxRecDepth 100000 in
theorem t_Re_read_187 {K : g_C} {o : (Option Nat × g_St)} (hK : g_OK K b_Re_read "FixpointEngine$Reader" "read" (Option.some (Jvm.ClassFile.FieldType.object "FixpointEngine$Query"))) (hN : g_nL K = 6) (hD : g_Kd K = 18) : ∀ (r0 : Option Nat) (s0 : g_St), f_Re_read_187 r0 s0 = some o → g_W K s0 [(0, g_r 2 r0)] [] 187 (g_jR 6 o) := by
  intro r0 s0 h
  unfold f_Re_read_187 at h
  refine r_aload_n hK d_Re_read_187 rfl 0 rfl ?_
  refine r_gR hK fd_Re_7 w1_65 d_Re_read_188 h (fun p1 h => ?_)
  refine r_aload_n hK d_Re_read_191 rfl 0 rfl ?_
  refine r_aload_n hK d_Re_read_192 rfl 0 rfl ?_
  refine r_gR hK fd_Re_7 w1_65 d_Re_read_193 h (fun p2 h => ?_)
  refine r_gI hK fd_Qu_1 w3_29 d_Re_read_196 h (fun i3 h => ?_)
  refine r_Vr (avL := [g_i i3]) (st := [g_r 6 p1]) hK ob_Re rfl w3_206 w3_207 w3_205 w3_208 w1_2 (by decide) pl_Re_selection (by rw [hD]; decide) (Nat.le_of_ble_eq_true rfl) rfl d_Re_read_199 (fun o9 h9 => c_Re_selection _ _ _ _ _ o9 h9) h (fun p4 s5 h => ?_)
  refine r_pR hK pd_8 rfl (Or.inr rfl) fd_Qu_3 rfl w3_34 d_Re_read_202 h (fun s6 h => ?_)
  refine r_aload_n hK d_Re_read_205 rfl 0 rfl ?_
  refine r_gR hK fd_Re_7 w1_65 d_Re_read_206 h (fun p7 h => ?_)
  refine r_aload_n hK d_Re_read_209 rfl 0 rfl ?_
  refine r_gR hK fd_Re_3 w1_61 d_Re_read_210 h (fun p8 h => ?_)
  refine r_aload_n hK d_Re_read_213 rfl 0 rfl ?_
  refine r_gI hK fd_Re_5 w1_63 d_Re_read_214 h (fun i9 h => ?_)
  refine r_iaload hK ar_20 rfl d_Re_read_217 h (fun i10 h => ?_)
  refine r_pI hK fd_Qu_6 rfl w3_43 d_Re_read_218 h (fun s11 h => ?_)
  refine r_aload_n hK d_Re_read_221 rfl 0 rfl ?_
  refine r_gsR hK (st_kind 24 (by decide)) (by decide) rfl w5_110 d_Re_read_222 ?_
  refine r_Vi (avL := [g_r 13 (some 1549)]) (st := []) hK ob_Re rfl w3_76 w3_77 w3_75 w3_78 w1_2 (by decide) pl_Re_accept (by rw [hD]; decide) (Nat.le_of_ble_eq_true rfl) rfl d_Re_read_225 (fun o9 h9 => c_Re_accept _ _ _ _ _ o9 h9) h (fun i12 s13 h => ?_)
  refine r_ifeq (tgt := 235) hK d_Re_read_228 (by decide) h (fun h => ?_) (fun h => ?_)
  · exact r_sub [0] rfl (t_Re_read_235 hK hN hD _ _ h)
  · refine r_aload_n hK d_Re_read_231 rfl 0 rfl ?_
    refine r_Vv (avL := []) (st := []) hK ob_Re rfl w5_113 w5_114 w5_112 w5_115 w1_2 (by decide) pl_Re_order (by rw [hD]; decide) (Nat.le_of_ble_eq_true rfl) rfl d_Re_read_232 (fun o9 h9 => c_Re_order _ _ _ _ o9 h9) h (fun s15 h => ?_)
    exact r_sub [0] rfl (t_Re_read_235 hK hN hD _ _ h)
set_option maxHeartbeats 4000000 in
set_option maxRecDepth 100000 in
theorem t_Re_read_153 {K : g_C} {o : (Option Nat × g_St)} (hK : g_OK K b_Re_read "FixpointEngine$Reader" "read" (Option.some (Jvm.ClassFile.FieldType.object "FixpointEngine$Query"))) (hN : g_nL K = 6) (hD : g_Kd K = 18) {k53 : Option Nat → Int32 → Int32 → g_St → Option (Option Nat × g_St)} (hk53 : ∀ (r0 : Option Nat) (x1 : Int32) (x2 : Int32) (s0 : g_St), k53 r0 x1 x2 s0 = some o → g_W K s0 [(0, g_r 2 r0), (1, g_i x1), (2, g_i x2)] [] 53 (g_jR 6 o)) : ∀ (r0 : Option Nat) (x2 : Int32) (r3 : Option Nat) (s0 : g_St), f_Re_read_153 k53 r0 x2 r3 s0 = some o → g_W K s0 [(0, g_r 2 r0), (2, g_i x2), (3, g_r 7 r3)] [] 153 (g_jR 6 o) := by
  intro r0 x2 r3 s0 h
  unfold f_Re_read_153 at h
  refine r_aload_n hK d_Re_read_153 rfl 0 rfl ?_
  refine r_aload_n hK d_Re_read_154 rfl 2 rfl ?_
  refine r_Vv (avL := [g_r 7 r3]) (st := []) hK ob_Re rfl w5_93 w5_94 w5_92 w5_95 w1_2 (by decide) pl_Re_tail (by rw [hD]; decide) (Nat.le_of_ble_eq_true rfl) rfl d_Re_read_155 (fun o9 h9 => c_Re_tail _ _ _ _ _ o9 h9) h (fun s2 h => ?_)
  refine r_iload_n hK d_Re_read_158 rfl 1 rfl ?_
  refine r_iconst (v := 1) hK d_Re_read_159 (by decide) ?_
  refine r_iadd hK d_Re_read_160 ?_
  refine r_iconst (v := 4) hK d_Re_read_161 (by decide) ?_
  refine r_if_icmpge (tgt := 179) hK d_Re_read_162 (by decide) h (fun h => ?_) (fun h => ?_)
  · refine r_iconst (v := 0) hK d_Re_read_179 (by decide) ?_
    refine r_istore_n (ls1 := [(1, g_i 0), (0, g_r 2 r0), (2, g_i x2), (3, g_r 7 r3)]) hK d_Re_read_180 rfl (by rw [hN]; decide) rfl ?_
    refine r_iinc (ls1 := [(2, g_i (x2 + 1)), (1, g_i 0), (0, g_r 2 r0), (3, g_r 7 r3)]) hK d_Re_read_181 2 rfl rfl (by rw [hN]; decide) rfl ?_
    refine r_goto (tgt := 53) hK d_Re_read_184 (by decide) ?_
    exact r_sub [2, 1, 0] rfl (hk53 _ _ _ _ h)
  · refine r_aload_n hK d_Re_read_165 rfl 0 rfl ?_
    refine r_gsR hK (st_kind 25 (by decide)) (by decide) rfl w3_199 d_Re_read_166 ?_
    refine r_Vi (avL := [g_r 13 (some 1613)]) (st := []) hK ob_Re rfl w3_76 w3_77 w3_75 w3_78 w1_2 (by decide) pl_Re_accept (by rw [hD]; decide) (Nat.le_of_ble_eq_true rfl) rfl d_Re_read_169 (fun o9 h9 => c_Re_accept _ _ _ _ _ o9 h9) h (fun i3 s4 h => ?_)
    refine r_ifeq (tgt := 179) hK d_Re_read_172 (by decide) h (fun h => ?_) (fun h => ?_)
    · refine r_iconst (v := 0) hK d_Re_read_179 (by decide) ?_
      refine r_istore_n (ls1 := [(1, g_i 0), (0, g_r 2 r0), (2, g_i x2), (3, g_r 7 r3)]) hK d_Re_read_180 rfl (by rw [hN]; decide) rfl ?_
      refine r_iinc (ls1 := [(2, g_i (x2 + 1)), (1, g_i 0), (0, g_r 2 r0), (3, g_r 7 r3)]) hK d_Re_read_181 2 rfl rfl (by rw [hN]; decide) rfl ?_
      refine r_goto (tgt := 53) hK d_Re_read_184 (by decide) ?_
      exact r_sub [2, 1, 0] rfl (hk53 _ _ _ _ h)
    · refine r_iconst (v := 1) hK d_Re_read_175 (by decide) ?_
      refine r_goto (tgt := 180) hK d_Re_read_176 (by decide) ?_
      refine r_istore_n (ls1 := [(1, g_i 1), (0, g_r 2 r0), (2, g_i x2), (3, g_r 7 r3)]) hK d_Re_read_180 rfl (by rw [hN]; decide) rfl ?_
      refine r_iinc (ls1 := [(2, g_i (x2 + 1)), (1, g_i 1), (0, g_r 2 r0), (3, g_r 7 r3)]) hK d_Re_read_181 2 rfl rfl (by rw [hN]; decide) rfl ?_
      refine r_goto (tgt := 53) hK d_Re_read_184 (by decide) ?_
      exact r_sub [2, 1, 0] rfl (hk53 _ _ _ _ h)
set_option maxHeartbeats 4000000 in
set_option maxRecDepth 100000 in
theorem t_Re_read_93 {K : g_C} {o : (Option Nat × g_St)} (hK : g_OK K b_Re_read "FixpointEngine$Reader" "read" (Option.some (Jvm.ClassFile.FieldType.object "FixpointEngine$Query"))) (hN : g_nL K = 6) (hD : g_Kd K = 18) {k53 : Option Nat → Int32 → Int32 → g_St → Option (Option Nat × g_St)} (hk53 : ∀ (r0 : Option Nat) (x1 : Int32) (x2 : Int32) (s0 : g_St), k53 r0 x1 x2 s0 = some o → g_W K s0 [(0, g_r 2 r0), (1, g_i x1), (2, g_i x2)] [] 53 (g_jR 6 o)) : ∀ (n : Nat) (r0 : Option Nat) (x2 : Int32) (r3 : Option Nat) (x4 : Int32) (x5 : Int32) (s0 : g_St), f_Re_read_93 k53 n r0 x2 r3 x4 x5 s0 = some o → g_W K s0 [(0, g_r 2 r0), (2, g_i x2), (3, g_r 7 r3), (4, g_i x4), (5, g_i x5)] [] 93 (g_jR 6 o) := by
  intro n
  induction n with
  | zero =>
    intro r0 x2 r3 x4 x5 s0 h
    cases h
  | succ n ih =>
    intro r0 x2 r3 x4 x5 s0 h
    unfold f_Re_read_93 at h
    refine r_iload hK d_Re_read_93 4 rfl ?_
    refine r_iconst (v := 4) hK d_Re_read_95 (by decide) ?_
    refine r_if_icmpge (tgt := 153) hK d_Re_read_96 (by decide) h (fun h => ?_) (fun h => ?_)
    · exact r_sub [0, 1, 2] rfl (t_Re_read_153 hK hN hD hk53 _ _ _ _ h)
    · refine r_iload hK d_Re_read_99 3 rfl ?_
      refine r_ifeq (tgt := 153) hK d_Re_read_101 (by decide) h (fun h => ?_) (fun h => ?_)
      · exact r_sub [0, 1, 2] rfl (t_Re_read_153 hK hN hD hk53 _ _ _ _ h)
      · refine r_aload_n hK d_Re_read_104 rfl 2 rfl ?_
        refine r_gR hK fd_Pa_10 w3_127 d_Re_read_105 h (fun p1 h => ?_)
        refine r_iload hK d_Re_read_108 4 rfl ?_
        refine r_aload_n hK d_Re_read_110 rfl 0 rfl ?_
        refine r_iload_n hK d_Re_read_111 rfl 1 rfl ?_
        refine r_Vr (avL := [g_i x2]) (st := [g_i x5, g_r 25 p1]) hK ob_Re rfl w3_206 w3_207 w3_205 w3_208 w1_2 (by decide) pl_Re_selection (by rw [hD]; decide) (Nat.le_of_ble_eq_true rfl) rfl d_Re_read_112 (fun o9 h9 => c_Re_selection _ _ _ _ _ o9 h9) h (fun p2 s3 h => ?_)
        refine r_aastore hK el_25 ar_25 rfl d_Re_read_115 h (fun s4 h => ?_)
        refine r_aload_n hK d_Re_read_116 rfl 2 rfl ?_
        refine r_iload hK d_Re_read_117 4 rfl ?_
        refine r_iconst (v := 1) hK d_Re_read_119 (by decide) ?_
        refine r_iadd hK d_Re_read_120 ?_
        refine r_pI hK fd_Pa_11 rfl w3_130 d_Re_read_121 h (fun s5 h => ?_)
        refine r_iload hK d_Re_read_124 4 rfl ?_
        refine r_iconst (v := 1) hK d_Re_read_126 (by decide) ?_
        refine r_iadd hK d_Re_read_127 ?_
        refine r_iconst (v := 4) hK d_Re_read_128 (by decide) ?_
        refine r_if_icmpge (tgt := 144) hK d_Re_read_129 (by decide) h (fun h => ?_) (fun h => ?_)
        · refine r_iconst (v := 0) hK d_Re_read_144 (by decide) ?_
          refine r_istore (ls1 := [(4, g_i 0), (0, g_r 2 r0), (2, g_i x2), (3, g_r 7 r3), (5, g_i x5)]) hK d_Re_read_145 (by rw [hN]; decide) rfl ?_
          refine r_iinc (ls1 := [(5, g_i (x5 + 1)), (4, g_i 0), (0, g_r 2 r0), (2, g_i x2), (3, g_r 7 r3)]) hK d_Re_read_147 4 rfl rfl (by rw [hN]; decide) rfl ?_
          refine r_goto (tgt := 93) hK d_Re_read_150 (by decide) ?_
          exact r_sub [2, 3, 4, 1, 0] rfl (ih _ _ _ _ _ _ h)
        · refine r_aload_n hK d_Re_read_132 rfl 0 rfl ?_
          refine r_aload_n hK d_Re_read_133 rfl 2 rfl ?_
          refine r_Vi (avL := [g_r 7 r3]) (st := []) hK ob_Re rfl w5_85 w5_86 w5_84 w5_87 w1_2 (by decide) pl_Re_joins (by rw [hD]; decide) (Nat.le_of_ble_eq_true rfl) rfl d_Re_read_134 (fun o9 h9 => c_Re_joins _ _ _ _ _ o9 h9) h (fun i6 s7 h => ?_)
          refine r_ifeq (tgt := 144) hK d_Re_read_137 (by decide) h (fun h => ?_) (fun h => ?_)
          · refine r_iconst (v := 0) hK d_Re_read_144 (by decide) ?_
            refine r_istore (ls1 := [(4, g_i 0), (0, g_r 2 r0), (2, g_i x2), (3, g_r 7 r3), (5, g_i x5)]) hK d_Re_read_145 (by rw [hN]; decide) rfl ?_
            refine r_iinc (ls1 := [(5, g_i (x5 + 1)), (4, g_i 0), (0, g_r 2 r0), (2, g_i x2), (3, g_r 7 r3)]) hK d_Re_read_147 4 rfl rfl (by rw [hN]; decide) rfl ?_
            refine r_goto (tgt := 93) hK d_Re_read_150 (by decide) ?_
            exact r_sub [2, 3, 4, 1, 0] rfl (ih _ _ _ _ _ _ h)
          · refine r_iconst (v := 1) hK d_Re_read_140 (by decide) ?_
            refine r_goto (tgt := 145) hK d_Re_read_141 (by decide) ?_
            refine r_istore (ls1 := [(4, g_i 1), (0, g_r 2 r0), (2, g_i x2), (3, g_r 7 r3), (5, g_i x5)]) hK d_Re_read_145 (by rw [hN]; decide) rfl ?_
            refine r_iinc (ls1 := [(5, g_i (x5 + 1)), (4, g_i 1), (0, g_r 2 r0), (2, g_i x2), (3, g_r 7 r3)]) hK d_Re_read_147 4 rfl rfl (by rw [hN]; decide) rfl ?_
            refine r_goto (tgt := 93) hK d_Re_read_150 (by decide) ?_
            exact r_sub [2, 3, 4, 1, 0] rfl (ih _ _ _ _ _ _ h)
set_option maxHeartbeats 4000000 in
set_option maxRecDepth 100000 in
theorem t_Re_read_53 {K : g_C} {o : (Option Nat × g_St)} (hK : g_OK K b_Re_read "FixpointEngine$Reader" "read" (Option.some (Jvm.ClassFile.FieldType.object "FixpointEngine$Query"))) (hN : g_nL K = 6) (hD : g_Kd K = 18) : ∀ (n : Nat) (r0 : Option Nat) (x1 : Int32) (x2 : Int32) (s0 : g_St), f_Re_read_53 n r0 x1 x2 s0 = some o → g_W K s0 [(0, g_r 2 r0), (1, g_i x1), (2, g_i x2)] [] 53 (g_jR 6 o) := by
  intro n
  induction n with
  | zero =>
    intro r0 x1 x2 s0 h
    cases h
  | succ n ih =>
    intro r0 x1 x2 s0 h
    unfold f_Re_read_53 at h
    refine r_iload_n hK d_Re_read_53 rfl 2 rfl ?_
    refine r_iconst (v := 4) hK d_Re_read_54 (by decide) ?_
    refine r_if_icmpge (tgt := 187) hK d_Re_read_55 (by decide) h (fun h => ?_) (fun h => ?_)
    · exact r_sub [0] rfl (t_Re_read_187 hK hN hD _ _ h)
    · refine r_iload_n hK d_Re_read_58 rfl 1 rfl ?_
      refine r_ifeq (tgt := 187) hK d_Re_read_59 (by decide) h (fun h => ?_) (fun h => ?_)
      · exact r_sub [0] rfl (t_Re_read_187 hK hN hD _ _ h)
      · refine r_aload_n hK d_Re_read_62 rfl 0 rfl ?_
        refine r_Vr (avL := []) (st := []) hK ob_Re rfl w3_82 w3_83 w3_81 w3_84 w1_2 (by decide) pl_Re_head (by rw [hD]; decide) (Nat.le_of_ble_eq_true rfl) rfl d_Re_read_63 (fun o9 h9 => c_Re_head _ _ _ _ o9 h9) h (fun p1 s2 h => ?_)
        refine r_astore_n (ls1 := [(3, g_r 7 p1), (0, g_r 2 r0), (1, g_i x1), (2, g_i x2)]) hK d_Re_read_66 rfl (by rw [hN]; decide) rfl ?_
        refine r_aload_n hK d_Re_read_67 rfl 1 rfl ?_
        refine r_gR hK fd_Re_7 w1_65 d_Re_read_68 h (fun p3 h => ?_)
        refine r_gR hK fd_Qu_0 w3_25 d_Re_read_71 h (fun p4 h => ?_)
        refine r_iload_n hK d_Re_read_74 rfl 3 rfl ?_
        refine r_aload_n hK d_Re_read_75 rfl 0 rfl ?_
        refine r_aastore hK el_24 ar_24 rfl d_Re_read_76 h (fun s5 h => ?_)
        refine r_aload_n hK d_Re_read_77 rfl 1 rfl ?_
        refine r_gR hK fd_Re_7 w1_65 d_Re_read_78 h (fun p6 h => ?_)
        refine r_iload_n hK d_Re_read_81 rfl 3 rfl ?_
        refine r_iconst (v := 1) hK d_Re_read_82 (by decide) ?_
        refine r_iadd hK d_Re_read_83 ?_
        refine r_pI hK fd_Qu_1 rfl w3_29 d_Re_read_84 h (fun s7 h => ?_)
        refine r_iconst (v := 1) hK d_Re_read_87 (by decide) ?_
        refine r_istore (ls1 := [(4, g_i 1), (3, g_r 7 p1), (0, g_r 2 r0), (1, g_i x1), (2, g_i x2)]) hK d_Re_read_88 (by rw [hN]; decide) rfl ?_
        refine r_iconst (v := 0) hK d_Re_read_90 (by decide) ?_
        refine r_istore (ls1 := [(5, g_i 0), (4, g_i 1), (3, g_r 7 p1), (0, g_r 2 r0), (1, g_i x1), (2, g_i x2)]) hK d_Re_read_91 (by rw [hN]; decide) rfl ?_
        exact r_sub [3, 5, 2, 1, 0] rfl (t_Re_read_93 hK hN hD ih _ _ _ _ _ _ _ h)
set_option maxHeartbeats 4000000 in
set_option maxRecDepth 100000 in
theorem t_Re_read_0 {K : g_C} {o : (Option Nat × g_St)} (hK : g_OK K b_Re_read "FixpointEngine$Reader" "read" (Option.some (Jvm.ClassFile.FieldType.object "FixpointEngine$Query"))) (hN : g_nL K = 6) (hD : g_Kd K = 18) : ∀ (r0 : Option Nat) (s0 : g_St), f_Re_read r0 s0 = some o → g_W K s0 [(0, g_r 2 r0)] [] 0 (g_jR 6 o) := by
  intro r0 s0 h
  unfold f_Re_read at h
  refine r_aload_n hK d_Re_read_0 rfl 0 rfl ?_
  refine r_Vv (avL := []) (st := []) hK ob_Re rfl w2_135 w2_136 w2_134 w2_137 w1_2 (by decide) pl_Re_cut (by rw [hD]; decide) (Nat.le_of_ble_eq_true rfl) rfl d_Re_read_1 (fun o9 h9 => c_Re_cut _ _ _ _ o9 h9) h (fun s2 h => ?_)
  refine r_aload_n hK d_Re_read_4 rfl 0 rfl ?_
  refine r_iconst (v := 0) hK d_Re_read_5 (by decide) ?_
  refine r_pI hK fd_Re_5 rfl w1_63 d_Re_read_6 h (fun s3 h => ?_)
  refine r_aload_n hK d_Re_read_9 rfl 0 rfl ?_
  refine r_iconst (v := 0) hK d_Re_read_10 (by decide) ?_
  refine r_pZ hK fd_Re_6 rfl w1_64 d_Re_read_11 h (fun s4 h => ?_)
  refine r_aload_n hK d_Re_read_14 rfl 0 rfl ?_
  refine r_new hK ob_Qu rfl rfl w2_225 w2_226 w1_18 d_Re_read_15 h (fun p5 s6 h => ?_)
  refine r_dup hK d_Re_read_18 rfl ?_
  refine r_INv (avL := []) (st := [g_r 6 p5, g_r 2 r0]) hK rfl w2_228 w2_227 w2_229 w1_18 (by decide) pl_Qu_init (by rw [hD]; decide) (Nat.le_of_ble_eq_true rfl) rfl d_Re_read_19 (fun o9 h9 => c_Qu_init _ _ _ _ o9 h9) h (fun s8 h => ?_)
  refine r_pR hK pd_6 rfl (Or.inr rfl) fd_Re_7 rfl w1_65 d_Re_read_22 h (fun s9 h => ?_)
  refine r_aload_n hK d_Re_read_25 rfl 0 rfl ?_
  refine r_gsR hK (st_kind 0 (by decide)) (by decide) rfl w3_73 d_Re_read_26 ?_
  refine r_Vi (avL := [g_r 13 (some 13)]) (st := []) hK ob_Re rfl w3_76 w3_77 w3_75 w3_78 w1_2 (by decide) pl_Re_accept (by rw [hD]; decide) (Nat.le_of_ble_eq_true rfl) rfl d_Re_read_29 (fun o9 h9 => c_Re_accept _ _ _ _ _ o9 h9) h (fun i10 s11 h => ?_)
  refine r_ifeq (tgt := 187) hK d_Re_read_32 (by decide) h (fun h => ?_) (fun h => ?_)
  · exact r_sub [0] rfl (t_Re_read_187 hK hN hD _ _ h)
  · refine r_aload_n hK d_Re_read_35 rfl 0 rfl ?_
    refine r_gR hK fd_Re_7 w1_65 d_Re_read_36 h (fun p12 h => ?_)
    refine r_aload_n hK d_Re_read_39 rfl 0 rfl ?_
    refine r_gsR hK (st_kind 1 (by decide)) (by decide) rfl w3_79 d_Re_read_40 ?_
    refine r_Vi (avL := [g_r 13 (some 77)]) (st := [g_r 6 p12]) hK ob_Re rfl w3_76 w3_77 w3_75 w3_78 w1_2 (by decide) pl_Re_accept (by rw [hD]; decide) (Nat.le_of_ble_eq_true rfl) rfl d_Re_read_43 (fun o9 h9 => c_Re_accept _ _ _ _ _ o9 h9) h (fun i13 s14 h => ?_)
    refine r_pZ hK fd_Qu_2 rfl w3_31 d_Re_read_46 h (fun s15 h => ?_)
    refine r_iconst (v := 1) hK d_Re_read_49 (by decide) ?_
    refine r_istore_n (ls1 := [(1, g_i 1), (0, g_r 2 r0)]) hK d_Re_read_50 rfl (by rw [hN]; decide) rfl ?_
    refine r_iconst (v := 0) hK d_Re_read_51 (by decide) ?_
    refine r_istore_n (ls1 := [(2, g_i 0), (1, g_i 1), (0, g_r 2 r0)]) hK d_Re_read_52 rfl (by rw [hN]; decide) rfl ?_
    exact r_sub [2, 1, 0] rfl (t_Re_read_53 hK hN hD _ _ _ _ _ h)
theorem c_Re_read (l : Launch) (G : g_G) (r0 : Option Nat) (u : g_St) (o : (Option Nat × g_St)) (h : f_Re_read r0 u = some o) : g_Con l G y_Re_read b_Re_read 6 (Option.some (Jvm.ClassFile.FieldType.object "FixpointEngine$Query")) 18 [g_r 2 r0] u (g_jR 6 o) :=
  g_Con.of rfl rfl (by decide +kernel) (Nat.le_of_ble_eq_true rfl) (fun K hK hN hD hX => t_Re_read_0 hK hN hD _ _ h)
def f_Re_stuckAt (r0 : Option Nat) (s0 : g_St) : Option (Int32 × g_St) :=
  g_gR s0 194 r0 fun p1 =>
  g_gI s0 322 r0 fun i2 =>
  g_aI s0 p1 i2 fun i3 =>
  some (1 + (10 * i3), s0)
set_option maxHeartbeats 4000000 in
set_option maxRecDepth 100000 in
theorem t_Re_stuckAt_0 {K : g_C} {o : (Int32 × g_St)} (hK : g_OK K b_Re_stuckAt "FixpointEngine$Reader" "stuckAt" (Option.some Jvm.ClassFile.FieldType.int)) (hN : g_nL K = 1) (hD : g_Kd K = 1) : ∀ (r0 : Option Nat) (s0 : g_St), f_Re_stuckAt r0 s0 = some o → g_W K s0 [(0, g_r 2 r0)] [] 0 (g_jI o) := by
  intro r0 s0 h
  unfold f_Re_stuckAt at h
  refine r_iconst (v := 1) hK d_Re_stuckAt_0 (by decide) ?_
  refine r_bipush (v := 10) hK d_Re_stuckAt_1 (by decide) ?_
  refine r_aload_n hK d_Re_stuckAt_3 rfl 0 rfl ?_
  refine r_gR hK fd_Re_3 w1_61 d_Re_stuckAt_4 h (fun p1 h => ?_)
  refine r_aload_n hK d_Re_stuckAt_7 rfl 0 rfl ?_
  refine r_gI hK fd_Re_5 w1_63 d_Re_stuckAt_8 h (fun i2 h => ?_)
  refine r_iaload hK ar_20 rfl d_Re_stuckAt_11 h (fun i3 h => ?_)
  refine r_imul hK d_Re_stuckAt_12 ?_
  refine r_iadd hK d_Re_stuckAt_13 ?_
  exact r_ireturn hK d_Re_stuckAt_14 h
theorem c_Re_stuckAt (l : Launch) (G : g_G) (r0 : Option Nat) (u : g_St) (o : (Int32 × g_St)) (h : f_Re_stuckAt r0 u = some o) : g_Con l G y_Re_stuckAt b_Re_stuckAt 1 (Option.some Jvm.ClassFile.FieldType.int) 1 [g_r 2 r0] u (g_jI o) :=
  g_Con.of rfl rfl (by decide +kernel) (Nat.le_of_ble_eq_true rfl) (fun K hK hN hD hX => t_Re_stuckAt_0 hK hN hD _ _ h)
