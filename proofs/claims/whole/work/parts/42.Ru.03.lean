def f_Ru_giveGroups_165 (k116 : Option Nat → Int32 → Int32 → g_St → Option ((Unit ⊕ Nat) × g_St)) (r0 : Option Nat) (x1 : Int32) (x2 : Int32) (x3 : Int32) (x0s : Int32) (s0 : g_St) : Option ((Unit ⊕ Nat) × g_St) :=
  g_gR s0 260 r0 fun p1 =>
  if x0s = 0 then
    g_gR s0 388 r0 fun p5 =>
    g_aI s0 p5 x3 fun i6 =>
    if i6 ≤ 0 then
      g_sL s0 p1 x2 1099511627776 fun s7 =>
      k116 r0 x1 (x2 + 1) s7
    else
      g_gR s0 324 r0 fun p8 =>
      g_aL s0 p8 x3 fun j9 =>
      g_sL s0 p1 x2 j9 fun s10 =>
      k116 r0 x1 (x2 + 1) s10
  else
    g_gR s0 324 r0 fun p2 =>
    g_aL s0 p2 x3 fun j3 =>
    g_sL s0 p1 x2 j3 fun s4 =>
    k116 r0 x1 (x2 + 1) s4
def f_Ru_giveGroups_116 (k106 : Option Nat → Int32 → g_St → Option ((Unit ⊕ Nat) × g_St)) : Nat → Option Nat → Int32 → Int32 → g_St → Option ((Unit ⊕ Nat) × g_St)
  | 0, _, _, _, _ => none
  | n + 1, r0, x1, x2, s0 =>
    g_gR s0 772 r0 fun p1 =>
    g_gI s0 264 p1 fun i2 =>
    if i2 ≤ x2 then
      g_c (g_nn r0 (f_Ru_come r0 s0)) fun _ s4 =>
      k106 r0 (x1 + 1) s4
    else
      g_gR s0 772 r0 fun p5 =>
      g_gR s0 200 p5 fun p6 =>
      g_aR s0 p6 x2 fun p7 =>
      if p7 = none then
        f_Ru_giveGroups_165 (f_Ru_giveGroups_116 k106 n) r0 x1 x2 ((x1 * 4) + x2) 1 s0
      else
        g_gR s0 772 r0 fun p8 =>
        g_gR s0 200 p8 fun p9 =>
        g_aR s0 p9 x2 fun p10 =>
        if p10 = (some 1293) then
          f_Ru_giveGroups_165 (f_Ru_giveGroups_116 k106 n) r0 x1 x2 ((x1 * 4) + x2) 1 s0
        else
          f_Ru_giveGroups_165 (f_Ru_giveGroups_116 k106 n) r0 x1 x2 ((x1 * 4) + x2) 0 s0
def f_Ru_giveGroups_106 : Nat → Option Nat → Int32 → g_St → Option ((Unit ⊕ Nat) × g_St)
  | 0, _, _, _ => none
  | n + 1, r0, x1, s0 =>
    g_gI s0 964 r0 fun i1 =>
    if i1 ≤ x1 then
      some (Sum.inl (), s0)
    else
      f_Ru_giveGroups_116 (f_Ru_giveGroups_106 n) 200000 r0 x1 0 s0
def f_Ru_giveGroups_30 (k20 : Option Nat → Int32 → g_St → Option ((Unit ⊕ Nat) × g_St)) : Nat → Option Nat → Int32 → Int32 → g_St → Option ((Unit ⊕ Nat) × g_St)
  | 0, _, _, _, _ => none
  | n + 1, r0, x1, x2, s0 =>
    g_gR s0 772 r0 fun p1 =>
    g_gI s0 264 p1 fun i2 =>
    if i2 ≤ x2 then
      k20 r0 (x1 + 1) s0
    else
      g_gR s0 388 r0 fun p3 =>
      g_aI s0 p3 ((x1 * 4) + x2) fun i4 =>
      if i4 ≤ 0 then
        f_Ru_giveGroups_30 k20 n r0 x1 (x2 + 1) s0
      else
        g_gR s0 324 r0 fun p5 =>
        g_aL s0 p5 ((x1 * 4) + x2) fun j6 =>
        if j6 = 1099511627776 then
          g_thr s0 2
        else
          g_gR s0 324 r0 fun p7 =>
          g_aL s0 p7 ((x1 * 4) + x2) fun j8 =>
          g_c (f_Ru_isOutOfRange j8 s0) fun i9 s10 =>
          if i9 = 0 then
            f_Ru_giveGroups_30 k20 n r0 x1 (x2 + 1) s10
          else
            g_thr s10 2
def f_Ru_giveGroups_20 : Nat → Option Nat → Int32 → g_St → Option ((Unit ⊕ Nat) × g_St)
  | 0, _, _, _ => none
  | n + 1, r0, x1, s0 =>
    g_gI s0 964 r0 fun i1 =>
    if i1 ≤ x1 then
      f_Ru_giveGroups_106 200000 r0 0 s0
    else
      f_Ru_giveGroups_30 (f_Ru_giveGroups_20 n) 200000 r0 x1 0 s0
def f_Ru_giveGroups (r0 : Option Nat) (s0 : g_St) : Option ((Unit ⊕ Nat) × g_St) :=
  g_gI s0 1028 r0 fun i1 =>
  if i1 = 0 then
    f_Ru_giveGroups_20 200000 r0 0 s0
  else
    g_thr s0 3
set_option maxHeartbeats 4000000 in
set_option maxRecDepth 100000 in
theorem t_Ru_giveGroups_165 {K : g_C} {o : ((Unit ⊕ Nat) × g_St)} (hK : g_OK K b_Ru_giveGroups "FixpointEngine$Runner" "giveGroups" (Option.none : Option Jvm.ClassFile.FieldType)) (hN : g_nL K = 5) (hD : g_Kd K = 7) (hX : g_noX K) {k116 : Option Nat → Int32 → Int32 → g_St → Option ((Unit ⊕ Nat) × g_St)} (hk116 : ∀ (r0 : Option Nat) (x1 : Int32) (x2 : Int32) (s0 : g_St), k116 r0 x1 x2 s0 = some o → g_W K s0 [(0, g_r 4 r0), (1, g_i x1), (2, g_i x2)] [] 116 (g_jTV o)) : ∀ (r0 : Option Nat) (x1 : Int32) (x2 : Int32) (x3 : Int32) (x0s : Int32) (s0 : g_St), f_Ru_giveGroups_165 k116 r0 x1 x2 x3 x0s s0 = some o → g_W K s0 [(0, g_r 4 r0), (1, g_i x1), (2, g_i x2), (3, g_i x3)] [g_i x0s] 165 (g_jTV o) := by
  intro r0 x1 x2 x3 x0s s0 h
  unfold f_Ru_giveGroups_165 at h
  refine r_istore (ls1 := [(4, g_i x0s), (0, g_r 4 r0), (1, g_i x1), (2, g_i x2), (3, g_i x3)]) hK d_Ru_giveGroups_165 (by rw [hN]; decide) rfl ?_
  refine r_aload_n hK d_Ru_giveGroups_167 rfl 1 rfl ?_
  refine r_gR hK fd_Ru_4 w1_161 d_Ru_giveGroups_168 h (fun p1 h => ?_)
  refine r_iload_n hK d_Ru_giveGroups_171 rfl 3 rfl ?_
  refine r_iload hK d_Ru_giveGroups_172 0 rfl ?_
  refine r_ifne (tgt := 186) hK d_Ru_giveGroups_174 (by decide) h (fun h => ?_) (fun h => ?_)
  · refine r_aload_n hK d_Ru_giveGroups_186 rfl 1 rfl ?_
    refine r_gR hK fd_Ru_5 w1_162 d_Ru_giveGroups_187 h (fun p2 h => ?_)
    refine r_iload_n hK d_Ru_giveGroups_190 rfl 4 rfl ?_
    refine r_laload hK ar_21 rfl d_Ru_giveGroups_191 h (fun j3 h => ?_)
    refine r_goto (tgt := 198) hK d_Ru_giveGroups_192 (by decide) ?_
    refine r_lastore hK ar_21 rfl d_Ru_giveGroups_198 h (fun s4 h => ?_)
    refine r_iinc (ls1 := [(2, g_i (x2 + 1)), (4, g_i x0s), (0, g_r 4 r0), (1, g_i x1), (3, g_i x3)]) hK d_Ru_giveGroups_199 3 rfl rfl (by rw [hN]; decide) rfl ?_
    refine r_goto (tgt := 116) hK d_Ru_giveGroups_202 (by decide) ?_
    exact r_sub [2, 3, 0] rfl (hk116 _ _ _ _ h)
  · refine r_aload_n hK d_Ru_giveGroups_177 rfl 1 rfl ?_
    refine r_gR hK fd_Ru_6 w1_163 d_Ru_giveGroups_178 h (fun p5 h => ?_)
    refine r_iload_n hK d_Ru_giveGroups_181 rfl 4 rfl ?_
    refine r_iaload hK ar_20 rfl d_Ru_giveGroups_182 h (fun i6 h => ?_)
    refine r_ifle (tgt := 195) hK d_Ru_giveGroups_183 (by decide) h (fun h => ?_) (fun h => ?_)
    · refine r_ldc2 hK w6_78 d_Ru_giveGroups_195 ?_
      refine r_lastore hK ar_21 rfl d_Ru_giveGroups_198 h (fun s7 h => ?_)
      refine r_iinc (ls1 := [(2, g_i (x2 + 1)), (4, g_i x0s), (0, g_r 4 r0), (1, g_i x1), (3, g_i x3)]) hK d_Ru_giveGroups_199 3 rfl rfl (by rw [hN]; decide) rfl ?_
      refine r_goto (tgt := 116) hK d_Ru_giveGroups_202 (by decide) ?_
      exact r_sub [2, 3, 0] rfl (hk116 _ _ _ _ h)
    · refine r_aload_n hK d_Ru_giveGroups_186 rfl 1 rfl ?_
      refine r_gR hK fd_Ru_5 w1_162 d_Ru_giveGroups_187 h (fun p8 h => ?_)
      refine r_iload_n hK d_Ru_giveGroups_190 rfl 4 rfl ?_
      refine r_laload hK ar_21 rfl d_Ru_giveGroups_191 h (fun j9 h => ?_)
      refine r_goto (tgt := 198) hK d_Ru_giveGroups_192 (by decide) ?_
      refine r_lastore hK ar_21 rfl d_Ru_giveGroups_198 h (fun s10 h => ?_)
      refine r_iinc (ls1 := [(2, g_i (x2 + 1)), (4, g_i x0s), (0, g_r 4 r0), (1, g_i x1), (3, g_i x3)]) hK d_Ru_giveGroups_199 3 rfl rfl (by rw [hN]; decide) rfl ?_
      refine r_goto (tgt := 116) hK d_Ru_giveGroups_202 (by decide) ?_
      exact r_sub [2, 3, 0] rfl (hk116 _ _ _ _ h)
set_option maxHeartbeats 4000000 in
set_option maxRecDepth 100000 in
theorem t_Ru_giveGroups_116 {K : g_C} {o : ((Unit ⊕ Nat) × g_St)} (hK : g_OK K b_Ru_giveGroups "FixpointEngine$Runner" "giveGroups" (Option.none : Option Jvm.ClassFile.FieldType)) (hN : g_nL K = 5) (hD : g_Kd K = 7) (hX : g_noX K) {k106 : Option Nat → Int32 → g_St → Option ((Unit ⊕ Nat) × g_St)} (hk106 : ∀ (r0 : Option Nat) (x1 : Int32) (s0 : g_St), k106 r0 x1 s0 = some o → g_W K s0 [(0, g_r 4 r0), (1, g_i x1)] [] 106 (g_jTV o)) : ∀ (n : Nat) (r0 : Option Nat) (x1 : Int32) (x2 : Int32) (s0 : g_St), f_Ru_giveGroups_116 k106 n r0 x1 x2 s0 = some o → g_W K s0 [(0, g_r 4 r0), (1, g_i x1), (2, g_i x2)] [] 116 (g_jTV o) := by
  intro n
  induction n with
  | zero =>
    intro r0 x1 x2 s0 h
    cases h
  | succ n ih =>
    intro r0 x1 x2 s0 h
    unfold f_Ru_giveGroups_116 at h
    refine r_iload_n hK d_Ru_giveGroups_116 rfl 2 rfl ?_
    refine r_aload_n hK d_Ru_giveGroups_117 rfl 0 rfl ?_
    refine r_gR hK fd_Ru_12 w1_169 d_Ru_giveGroups_118 h (fun p1 h => ?_)
    refine r_gI hK fd_Se_4 w3_232 d_Ru_giveGroups_121 h (fun i2 h => ?_)
    refine r_if_icmpge (tgt := 205) hK d_Ru_giveGroups_124 (by decide) h (fun h => ?_) (fun h => ?_)
    · refine r_aload_n hK d_Ru_giveGroups_205 rfl 0 rfl ?_
      refine r_Vv (avL := []) (st := []) hK ob_Ru rfl w6_137 w6_138 w6_136 w6_139 w1_4 (by decide) pl_Ru_come (by rw [hD]; decide) (Nat.le_of_ble_eq_true rfl) rfl d_Ru_giveGroups_206 (fun o9 h9 => c_Ru_come _ _ _ _ o9 h9) h (fun s4 h => ?_)
      refine r_iinc (ls1 := [(1, g_i (x1 + 1)), (0, g_r 4 r0), (2, g_i x2)]) hK d_Ru_giveGroups_209 1 rfl rfl (by rw [hN]; decide) rfl ?_
      refine r_goto (tgt := 106) hK d_Ru_giveGroups_212 (by decide) ?_
      exact r_sub [1, 0] rfl (hk106 _ _ _ h)
    · refine r_iload_n hK d_Ru_giveGroups_127 rfl 1 rfl ?_
      refine r_iconst (v := 4) hK d_Ru_giveGroups_128 (by decide) ?_
      refine r_imul hK d_Ru_giveGroups_129 ?_
      refine r_iload_n hK d_Ru_giveGroups_130 rfl 2 rfl ?_
      refine r_iadd hK d_Ru_giveGroups_131 ?_
      refine r_istore_n (ls1 := [(3, g_i ((x1 * 4) + x2)), (0, g_r 4 r0), (1, g_i x1), (2, g_i x2)]) hK d_Ru_giveGroups_132 rfl (by rw [hN]; decide) rfl ?_
      refine r_aload_n hK d_Ru_giveGroups_133 rfl 1 rfl ?_
      refine r_gR hK fd_Ru_12 w1_169 d_Ru_giveGroups_134 h (fun p5 h => ?_)
      refine r_gR hK fd_Se_3 w3_230 d_Ru_giveGroups_137 h (fun p6 h => ?_)
      refine r_iload_n hK d_Ru_giveGroups_140 rfl 3 rfl ?_
      refine r_aaload hK rfl ar_23 rfl d_Ru_giveGroups_141 h (fun p7 h => ?_)
      refine r_ifnull (tgt := 160) hK d_Ru_giveGroups_142 (by decide) h (fun h => ?_) (fun h => ?_)
      · refine r_iconst (v := 1) hK d_Ru_giveGroups_160 (by decide) ?_
        refine r_goto (tgt := 165) hK d_Ru_giveGroups_161 (by decide) ?_
        exact r_sub [1, 2, 3, 0] rfl (t_Ru_giveGroups_165 hK hN hD hX ih _ _ _ _ _ _ h)
      · refine r_aload_n hK d_Ru_giveGroups_145 rfl 1 rfl ?_
        refine r_gR hK fd_Ru_12 w1_169 d_Ru_giveGroups_146 h (fun p8 h => ?_)
        refine r_gR hK fd_Se_3 w3_230 d_Ru_giveGroups_149 h (fun p9 h => ?_)
        refine r_iload_n hK d_Ru_giveGroups_152 rfl 3 rfl ?_
        refine r_aaload hK rfl ar_23 rfl d_Ru_giveGroups_153 h (fun p10 h => ?_)
        refine r_gsR hK (st_kind 20 (by decide)) (by decide) rfl w6_123 d_Ru_giveGroups_154 ?_
        refine r_if_acmpne (tgt := 164) hK (by decide) (by decide) d_Ru_giveGroups_157 (by decide) h (fun h => ?_) (fun h => ?_)
        · refine r_iconst (v := 0) hK d_Ru_giveGroups_164 (by decide) ?_
          exact r_sub [1, 2, 3, 0] rfl (t_Ru_giveGroups_165 hK hN hD hX ih _ _ _ _ _ _ h)
        · refine r_iconst (v := 1) hK d_Ru_giveGroups_160 (by decide) ?_
          refine r_goto (tgt := 165) hK d_Ru_giveGroups_161 (by decide) ?_
          exact r_sub [1, 2, 3, 0] rfl (t_Ru_giveGroups_165 hK hN hD hX ih _ _ _ _ _ _ h)
set_option maxHeartbeats 4000000 in
set_option maxRecDepth 100000 in
theorem t_Ru_giveGroups_106 {K : g_C} {o : ((Unit ⊕ Nat) × g_St)} (hK : g_OK K b_Ru_giveGroups "FixpointEngine$Runner" "giveGroups" (Option.none : Option Jvm.ClassFile.FieldType)) (hN : g_nL K = 5) (hD : g_Kd K = 7) (hX : g_noX K) : ∀ (n : Nat) (r0 : Option Nat) (x1 : Int32) (s0 : g_St), f_Ru_giveGroups_106 n r0 x1 s0 = some o → g_W K s0 [(0, g_r 4 r0), (1, g_i x1)] [] 106 (g_jTV o) := by
  intro n
  induction n with
  | zero =>
    intro r0 x1 s0 h
    cases h
  | succ n ih =>
    intro r0 x1 s0 h
    unfold f_Ru_giveGroups_106 at h
    refine r_iload_n hK d_Ru_giveGroups_106 rfl 1 rfl ?_
    refine r_aload_n hK d_Ru_giveGroups_107 rfl 0 rfl ?_
    refine r_gI hK fd_Ru_15 w1_172 d_Ru_giveGroups_108 h (fun i1 h => ?_)
    refine r_if_icmpge (tgt := 215) hK d_Ru_giveGroups_111 (by decide) h (fun h => ?_) (fun h => ?_)
    · exact r_returnT hK d_Ru_giveGroups_215 h
    · refine r_iconst (v := 0) hK d_Ru_giveGroups_114 (by decide) ?_
      refine r_istore_n (ls1 := [(2, g_i 0), (0, g_r 4 r0), (1, g_i x1)]) hK d_Ru_giveGroups_115 rfl (by rw [hN]; decide) rfl ?_
      exact r_sub [1, 2, 0] rfl (t_Ru_giveGroups_116 hK hN hD hX ih _ _ _ _ _ h)
set_option maxHeartbeats 4000000 in
set_option maxRecDepth 100000 in
theorem t_Ru_giveGroups_30 {K : g_C} {o : ((Unit ⊕ Nat) × g_St)} (hK : g_OK K b_Ru_giveGroups "FixpointEngine$Runner" "giveGroups" (Option.none : Option Jvm.ClassFile.FieldType)) (hN : g_nL K = 5) (hD : g_Kd K = 7) (hX : g_noX K) {k20 : Option Nat → Int32 → g_St → Option ((Unit ⊕ Nat) × g_St)} (hk20 : ∀ (r0 : Option Nat) (x1 : Int32) (s0 : g_St), k20 r0 x1 s0 = some o → g_W K s0 [(0, g_r 4 r0), (1, g_i x1)] [] 20 (g_jTV o)) : ∀ (n : Nat) (r0 : Option Nat) (x1 : Int32) (x2 : Int32) (s0 : g_St), f_Ru_giveGroups_30 k20 n r0 x1 x2 s0 = some o → g_W K s0 [(0, g_r 4 r0), (1, g_i x1), (2, g_i x2)] [] 30 (g_jTV o) := by
  intro n
  induction n with
  | zero =>
    intro r0 x1 x2 s0 h
    cases h
  | succ n ih =>
    intro r0 x1 x2 s0 h
    unfold f_Ru_giveGroups_30 at h
    refine r_iload_n hK d_Ru_giveGroups_30 rfl 2 rfl ?_
    refine r_aload_n hK d_Ru_giveGroups_31 rfl 0 rfl ?_
    refine r_gR hK fd_Ru_12 w1_169 d_Ru_giveGroups_32 h (fun p1 h => ?_)
    refine r_gI hK fd_Se_4 w3_232 d_Ru_giveGroups_35 h (fun i2 h => ?_)
    refine r_if_icmpge (tgt := 98) hK d_Ru_giveGroups_38 (by decide) h (fun h => ?_) (fun h => ?_)
    · refine r_iinc (ls1 := [(1, g_i (x1 + 1)), (0, g_r 4 r0), (2, g_i x2)]) hK d_Ru_giveGroups_98 1 rfl rfl (by rw [hN]; decide) rfl ?_
      refine r_goto (tgt := 20) hK d_Ru_giveGroups_101 (by decide) ?_
      exact r_sub [1, 0] rfl (hk20 _ _ _ h)
    · refine r_iload_n hK d_Ru_giveGroups_41 rfl 1 rfl ?_
      refine r_iconst (v := 4) hK d_Ru_giveGroups_42 (by decide) ?_
      refine r_imul hK d_Ru_giveGroups_43 ?_
      refine r_iload_n hK d_Ru_giveGroups_44 rfl 2 rfl ?_
      refine r_iadd hK d_Ru_giveGroups_45 ?_
      refine r_istore_n (ls1 := [(3, g_i ((x1 * 4) + x2)), (0, g_r 4 r0), (1, g_i x1), (2, g_i x2)]) hK d_Ru_giveGroups_46 rfl (by rw [hN]; decide) rfl ?_
      refine r_aload_n hK d_Ru_giveGroups_47 rfl 1 rfl ?_
      refine r_gR hK fd_Ru_6 w1_163 d_Ru_giveGroups_48 h (fun p3 h => ?_)
      refine r_iload_n hK d_Ru_giveGroups_51 rfl 0 rfl ?_
      refine r_iaload hK ar_20 rfl d_Ru_giveGroups_52 h (fun i4 h => ?_)
      refine r_ifle (tgt := 92) hK d_Ru_giveGroups_53 (by decide) h (fun h => ?_) (fun h => ?_)
      · refine r_iinc (ls1 := [(2, g_i (x2 + 1)), (3, g_i ((x1 * 4) + x2)), (0, g_r 4 r0), (1, g_i x1)]) hK d_Ru_giveGroups_92 3 rfl rfl (by rw [hN]; decide) rfl ?_
        refine r_goto (tgt := 30) hK d_Ru_giveGroups_95 (by decide) ?_
        exact r_sub [2, 3, 0] rfl (ih _ _ _ _ h)
      · refine r_aload_n hK d_Ru_giveGroups_56 rfl 1 rfl ?_
        refine r_gR hK fd_Ru_5 w1_162 d_Ru_giveGroups_57 h (fun p5 h => ?_)
        refine r_iload_n hK d_Ru_giveGroups_60 rfl 0 rfl ?_
        refine r_laload hK ar_21 rfl d_Ru_giveGroups_61 h (fun j6 h => ?_)
        refine r_ldc2 hK w6_78 d_Ru_giveGroups_62 ?_
        refine r_lifeq (tgt := 81) hK d_Ru_giveGroups_65 d_Ru_giveGroups_66 (by decide) h (fun h => ?_) (fun h => ?_)
        · exact r_thrV hK hX rfl w6_99 w6_100 w1_35 (by decide +kernel) th_Ru_287 (List.mem_of_getElem? (i := 16) rfl) (by rw [hD]; decide) (Nat.le_of_ble_eq_true rfl) d_Ru_giveGroups_81 d_Ru_giveGroups_84 (Or.inr ⟨rfl, d_Ru_giveGroups_85⟩) d_Ru_giveGroups_88 d_Ru_giveGroups_91 h
        · refine r_aload_n hK d_Ru_giveGroups_69 rfl 1 rfl ?_
          refine r_gR hK fd_Ru_5 w1_162 d_Ru_giveGroups_70 h (fun p7 h => ?_)
          refine r_iload_n hK d_Ru_giveGroups_73 rfl 0 rfl ?_
          refine r_laload hK ar_21 rfl d_Ru_giveGroups_74 h (fun j8 h => ?_)
          refine r_Si (avL := [g_l j8]) (st := []) hK w6_95 w6_94 w6_96 w1_4 (by decide) pl_Ru_isOutOfRange (by rw [hD]; decide) (Nat.le_of_ble_eq_true rfl) rfl d_Ru_giveGroups_75 (fun o9 h9 => c_Ru_isOutOfRange _ _ _ _ o9 h9) h (fun i9 s10 h => ?_)
          refine r_ifeq (tgt := 92) hK d_Ru_giveGroups_78 (by decide) h (fun h => ?_) (fun h => ?_)
          · refine r_iinc (ls1 := [(2, g_i (x2 + 1)), (3, g_i ((x1 * 4) + x2)), (0, g_r 4 r0), (1, g_i x1)]) hK d_Ru_giveGroups_92 3 rfl rfl (by rw [hN]; decide) rfl ?_
            refine r_goto (tgt := 30) hK d_Ru_giveGroups_95 (by decide) ?_
            exact r_sub [2, 3, 0] rfl (ih _ _ _ _ h)
          · exact r_thrV hK hX rfl w6_99 w6_100 w1_35 (by decide +kernel) th_Ru_287 (List.mem_of_getElem? (i := 16) rfl) (by rw [hD]; decide) (Nat.le_of_ble_eq_true rfl) d_Ru_giveGroups_81 d_Ru_giveGroups_84 (Or.inr ⟨rfl, d_Ru_giveGroups_85⟩) d_Ru_giveGroups_88 d_Ru_giveGroups_91 h
set_option maxHeartbeats 4000000 in
set_option maxRecDepth 100000 in
theorem t_Ru_giveGroups_20 {K : g_C} {o : ((Unit ⊕ Nat) × g_St)} (hK : g_OK K b_Ru_giveGroups "FixpointEngine$Runner" "giveGroups" (Option.none : Option Jvm.ClassFile.FieldType)) (hN : g_nL K = 5) (hD : g_Kd K = 7) (hX : g_noX K) : ∀ (n : Nat) (r0 : Option Nat) (x1 : Int32) (s0 : g_St), f_Ru_giveGroups_20 n r0 x1 s0 = some o → g_W K s0 [(0, g_r 4 r0), (1, g_i x1)] [] 20 (g_jTV o) := by
  intro n
  induction n with
  | zero =>
    intro r0 x1 s0 h
    cases h
  | succ n ih =>
    intro r0 x1 s0 h
    unfold f_Ru_giveGroups_20 at h
    refine r_iload_n hK d_Ru_giveGroups_20 rfl 1 rfl ?_
    refine r_aload_n hK d_Ru_giveGroups_21 rfl 0 rfl ?_
    refine r_gI hK fd_Ru_15 w1_172 d_Ru_giveGroups_22 h (fun i1 h => ?_)
    refine r_if_icmpge (tgt := 104) hK d_Ru_giveGroups_25 (by decide) h (fun h => ?_) (fun h => ?_)
    · refine r_iconst (v := 0) hK d_Ru_giveGroups_104 (by decide) ?_
      refine r_istore_n (ls1 := [(1, g_i 0), (0, g_r 4 r0)]) hK d_Ru_giveGroups_105 rfl (by rw [hN]; decide) rfl ?_
      exact r_sub [1, 0] rfl (t_Ru_giveGroups_106 hK hN hD hX _ _ _ _ h)
    · refine r_iconst (v := 0) hK d_Ru_giveGroups_28 (by decide) ?_
      refine r_istore_n (ls1 := [(2, g_i 0), (0, g_r 4 r0), (1, g_i x1)]) hK d_Ru_giveGroups_29 rfl (by rw [hN]; decide) rfl ?_
      exact r_sub [1, 2, 0] rfl (t_Ru_giveGroups_30 hK hN hD hX ih _ _ _ _ _ h)
set_option maxHeartbeats 4000000 in
set_option maxRecDepth 100000 in
theorem t_Ru_giveGroups_0 {K : g_C} {o : ((Unit ⊕ Nat) × g_St)} (hK : g_OK K b_Ru_giveGroups "FixpointEngine$Runner" "giveGroups" (Option.none : Option Jvm.ClassFile.FieldType)) (hN : g_nL K = 5) (hD : g_Kd K = 7) (hX : g_noX K) : ∀ (r0 : Option Nat) (s0 : g_St), f_Ru_giveGroups r0 s0 = some o → g_W K s0 [(0, g_r 4 r0)] [] 0 (g_jTV o) := by
  intro r0 s0 h
  unfold f_Ru_giveGroups at h
  refine r_aload_n hK d_Ru_giveGroups_0 rfl 0 rfl ?_
  refine r_gI hK fd_Ru_16 w1_173 d_Ru_giveGroups_1 h (fun i1 h => ?_)
  refine r_ifeq (tgt := 18) hK d_Ru_giveGroups_4 (by decide) h (fun h => ?_) (fun h => ?_)
  · refine r_iconst (v := 0) hK d_Ru_giveGroups_18 (by decide) ?_
    refine r_istore_n (ls1 := [(1, g_i 0), (0, g_r 4 r0)]) hK d_Ru_giveGroups_19 rfl (by rw [hN]; decide) rfl ?_
    exact r_sub [1, 0] rfl (t_Ru_giveGroups_20 hK hN hD hX _ _ _ _ h)
  · exact r_thrV hK hX rfl w6_169 w6_170 w1_36 (by decide +kernel) th_Ru_98 (List.mem_of_getElem? (i := 15) rfl) (by rw [hD]; decide) (Nat.le_of_ble_eq_true rfl) d_Ru_giveGroups_7 d_Ru_giveGroups_10 (Or.inr ⟨rfl, d_Ru_giveGroups_11⟩) d_Ru_giveGroups_14 d_Ru_giveGroups_17 h
theorem c_Ru_giveGroups (l : Launch) (G : g_G) (r0 : Option Nat) (u : g_St) (o : ((Unit ⊕ Nat) × g_St)) (h : f_Ru_giveGroups r0 u = some o) : g_Con l G y_Ru_giveGroups b_Ru_giveGroups 5 (Option.none : Option Jvm.ClassFile.FieldType) 7 [g_r 4 r0] u (g_jTV o) :=
  g_Con.of rfl rfl (by decide +kernel) (Nat.le_of_ble_eq_true rfl) (fun K hK hN hD hX => t_Ru_giveGroups_0 hK hN hD hX _ _ h)
def f_Ru_work_156 (r0 : Option Nat) (s0 : g_St) : Option ((Unit ⊕ Nat) × g_St) :=
  g_gI s0 1092 r0 fun i1 =>
  if i1 = 0 then
    some (Sum.inl (), s0)
  else
    g_thr s0 3
def f_Ru_work_101 : Nat → Option Nat → Option Nat → Int32 → g_St → Option ((Unit ⊕ Nat) × g_St)
  | 0, _, _, _, _ => none
  | n + 1, r0, r1, x3, s0 =>
    g_gI s0 584 r1 fun i1 =>
    if i1 ≤ x3 then
      g_cT (g_nn r0 (f_Ru_combine 8 r0 0 s0)) fun _ s3 =>
      g_gI s3 328 r1 fun i4 =>
      if i4 ≤ 0 then
        f_Ru_work_156 r0 s3
      else
        g_cT (g_nn r0 (f_Ru_giveGroups r0 s3)) fun _ s6 =>
        f_Ru_work_156 r0 s6
    else
      g_gR s0 520 r1 fun p7 =>
      g_aR s0 p7 x3 fun p8 =>
      g_gR s0 202 p8 fun p9 =>
      if p9 = none then
        f_Ru_work_101 n r0 r1 (x3 + 1) s0
      else
        g_gR s0 520 r1 fun p10 =>
        g_aR s0 p10 x3 fun p11 =>
        g_gR s0 202 p11 fun p12 =>
        g_c (g_nn r0 (f_Ru_bind r0 p12 s0)) fun _ s14 =>
        f_Ru_work_101 n r0 r1 (x3 + 1) s14
def f_Ru_work_75 : Nat → Option Nat → Option Nat → Int32 → g_St → Option ((Unit ⊕ Nat) × g_St)
  | 0, _, _, _, _ => none
  | n + 1, r0, r1, x3, s0 =>
    g_gI s0 456 r1 fun i1 =>
    if i1 ≤ x3 then
      f_Ru_work_101 200000 r0 r1 0 s0
    else
      g_gR s0 392 r1 fun p2 =>
      g_aR s0 p2 x3 fun p3 =>
      g_c (g_nn r0 (f_Ru_bind r0 p3 s0)) fun _ s5 =>
      f_Ru_work_75 n r0 r1 (x3 + 1) s5
def f_Ru_work_30 (r0 : Option Nat) (r1 : Option Nat) (x2 : Int32) (r0s : Option Nat) (r1s : Option Nat) (s0 : g_St) : Option ((Unit ⊕ Nat) × g_St) :=
  g_pR s0 836 r0s r1s fun s1 =>
  g_gR s1 4 r0 fun p2 =>
  g_aR s1 p2 x2 fun p3 =>
  g_pR s1 900 r0 p3 fun s4 =>
  g_pZ s4 1028 r0 0 fun s5 =>
  g_pZ s5 1092 r0 0 fun s6 =>
  g_pI s6 964 r0 0 fun s7 =>
  g_gI s7 328 r1 fun i8 =>
  g_gI s7 264 r1 fun i9 =>
  if i8 = i9 then
    g_c (g_nn r0 (f_Ru_addGroup r0 s7)) fun _ s11 =>
    f_Ru_work_75 200000 r0 r1 0 s11
  else
    f_Ru_work_75 200000 r0 r1 0 s7
def f_Ru_work (r0 : Option Nat) (r1 : Option Nat) (x2 : Int32) (s0 : g_St) : Option ((Unit ⊕ Nat) × g_St) :=
  g_pR s0 772 r0 r1 fun s1 =>
  g_gR s1 452 r0 fun p2 =>
  g_gI s1 70 p2 fun i3 =>
  if i3 ≤ x2 then
    f_Ru_work_30 r0 r1 x2 r0 none s1
  else
    g_gR s1 452 r0 fun p4 =>
    g_gR s1 6 p4 fun p5 =>
    g_aR s1 p5 x2 fun p6 =>
    f_Ru_work_30 r0 r1 x2 r0 p6 s1
set_option maxHeartbeats 4000000 in
set_option maxRecDepth 100000 in
theorem t_Ru_work_156 {K : g_C} {o : ((Unit ⊕ Nat) × g_St)} (hK : g_OK K b_Ru_work "FixpointEngine$Runner" "work" (Option.none : Option Jvm.ClassFile.FieldType)) (hN : g_nL K = 4) (hD : g_Kd K = 20) (hX : g_noX K) : ∀ (r0 : Option Nat) (s0 : g_St), f_Ru_work_156 r0 s0 = some o → g_W K s0 [(0, g_r 4 r0)] [] 156 (g_jTV o) := by
  intro r0 s0 h
  unfold f_Ru_work_156 at h
  refine r_aload_n hK d_Ru_work_156 rfl 0 rfl ?_
  refine r_gI hK fd_Ru_17 w1_174 d_Ru_work_157 h (fun i1 h => ?_)
  refine r_ifeq (tgt := 173) hK d_Ru_work_160 (by decide) h (fun h => ?_) (fun h => ?_)
  · exact r_returnT hK d_Ru_work_173 h
  · exact r_thrV hK hX rfl w6_169 w6_170 w1_36 (by decide +kernel) th_Ru_98 (List.mem_of_getElem? (i := 13) rfl) (by rw [hD]; decide) (Nat.le_of_ble_eq_true rfl) d_Ru_work_163 d_Ru_work_166 (Or.inl ⟨rfl, d_Ru_work_167⟩) d_Ru_work_169 d_Ru_work_172 h
set_option maxHeartbeats 4000000 in
set_option maxRecDepth 100000 in
theorem t_Ru_work_101 {K : g_C} {o : ((Unit ⊕ Nat) × g_St)} (hK : g_OK K b_Ru_work "FixpointEngine$Runner" "work" (Option.none : Option Jvm.ClassFile.FieldType)) (hN : g_nL K = 4) (hD : g_Kd K = 20) (hX : g_noX K) : ∀ (n : Nat) (r0 : Option Nat) (r1 : Option Nat) (x3 : Int32) (s0 : g_St), f_Ru_work_101 n r0 r1 x3 s0 = some o → g_W K s0 [(0, g_r 4 r0), (1, g_r 8 r1), (3, g_i x3)] [] 101 (g_jTV o) := by
  intro n
  induction n with
  | zero =>
    intro r0 r1 x3 s0 h
    cases h
  | succ n ih =>
    intro r0 r1 x3 s0 h
    unfold f_Ru_work_101 at h
    refine r_iload_n hK d_Ru_work_101 rfl 2 rfl ?_
    refine r_aload_n hK d_Ru_work_102 rfl 1 rfl ?_
    refine r_gI hK fd_Se_9 w4_9 d_Ru_work_103 h (fun i1 h => ?_)
    refine r_if_icmpge (tgt := 140) hK d_Ru_work_106 (by decide) h (fun h => ?_) (fun h => ?_)
    · refine r_aload_n hK d_Ru_work_140 rfl 0 rfl ?_
      refine r_iconst (v := 0) hK d_Ru_work_141 (by decide) ?_
      refine r_VTvV (avL := [g_i 0]) (st := []) hK hX ob_Ru rfl w6_63 w6_64 w6_62 w6_65 w1_4 (by decide) pl_Ru_combine (by rw [hD]; decide) (Nat.le_of_ble_eq_true rfl) rfl d_Ru_work_142 (fun o9 h9 => c_Ru_combine _ _ _ _ _ _ o9 h9) h (fun s3 h => ?_)
      refine r_aload_n hK d_Ru_work_145 rfl 1 rfl ?_
      refine r_gI hK fd_Se_5 w3_237 d_Ru_work_146 h (fun i4 h => ?_)
      refine r_ifle (tgt := 156) hK d_Ru_work_149 (by decide) h (fun h => ?_) (fun h => ?_)
      · exact r_sub [0] rfl (t_Ru_work_156 hK hN hD hX _ _ h)
      · refine r_aload_n hK d_Ru_work_152 rfl 0 rfl ?_
        refine r_VTvV (avL := []) (st := []) hK hX ob_Ru rfl w6_166 w6_167 w6_165 w6_168 w1_4 (by decide) pl_Ru_giveGroups (by rw [hD]; decide) (Nat.le_of_ble_eq_true rfl) rfl d_Ru_work_153 (fun o9 h9 => c_Ru_giveGroups _ _ _ _ o9 h9) h (fun s6 h => ?_)
        exact r_sub [0] rfl (t_Ru_work_156 hK hN hD hX _ _ h)
    · refine r_aload_n hK d_Ru_work_109 rfl 1 rfl ?_
      refine r_gR hK fd_Se_8 w4_7 d_Ru_work_110 h (fun p7 h => ?_)
      refine r_iload_n hK d_Ru_work_113 rfl 2 rfl ?_
      refine r_aaload hK rfl ar_28 rfl d_Ru_work_114 h (fun p8 h => ?_)
      refine r_gR hK fd_Co_3 w5_39 d_Ru_work_115 h (fun p9 h => ?_)
      refine r_ifnull (tgt := 134) hK d_Ru_work_118 (by decide) h (fun h => ?_) (fun h => ?_)
      · refine r_iinc (ls1 := [(3, g_i (x3 + 1)), (0, g_r 4 r0), (1, g_r 8 r1)]) hK d_Ru_work_134 2 rfl rfl (by rw [hN]; decide) rfl ?_
        refine r_goto (tgt := 101) hK d_Ru_work_137 (by decide) ?_
        exact r_sub [1, 2, 0] rfl (ih _ _ _ _ h)
      · refine r_aload_n hK d_Ru_work_121 rfl 0 rfl ?_
        refine r_aload_n hK d_Ru_work_122 rfl 1 rfl ?_
        refine r_gR hK fd_Se_8 w4_7 d_Ru_work_123 h (fun p10 h => ?_)
        refine r_iload_n hK d_Ru_work_126 rfl 2 rfl ?_
        refine r_aaload hK rfl ar_28 rfl d_Ru_work_127 h (fun p11 h => ?_)
        refine r_gR hK fd_Co_3 w5_39 d_Ru_work_128 h (fun p12 h => ?_)
        refine r_Vv (avL := [g_r 9 p12]) (st := []) hK ob_Ru rfl w6_59 w6_60 w6_58 w6_61 w1_4 (by decide) pl_Ru_bind (by rw [hD]; decide) (Nat.le_of_ble_eq_true rfl) rfl d_Ru_work_131 (fun o9 h9 => c_Ru_bind _ _ _ _ _ o9 h9) h (fun s14 h => ?_)
        refine r_iinc (ls1 := [(3, g_i (x3 + 1)), (0, g_r 4 r0), (1, g_r 8 r1)]) hK d_Ru_work_134 2 rfl rfl (by rw [hN]; decide) rfl ?_
        refine r_goto (tgt := 101) hK d_Ru_work_137 (by decide) ?_
        exact r_sub [1, 2, 0] rfl (ih _ _ _ _ h)
set_option maxHeartbeats 4000000 in
set_option maxRecDepth 100000 in
theorem t_Ru_work_75 {K : g_C} {o : ((Unit ⊕ Nat) × g_St)} (hK : g_OK K b_Ru_work "FixpointEngine$Runner" "work" (Option.none : Option Jvm.ClassFile.FieldType)) (hN : g_nL K = 4) (hD : g_Kd K = 20) (hX : g_noX K) : ∀ (n : Nat) (r0 : Option Nat) (r1 : Option Nat) (x3 : Int32) (s0 : g_St), f_Ru_work_75 n r0 r1 x3 s0 = some o → g_W K s0 [(0, g_r 4 r0), (1, g_r 8 r1), (3, g_i x3)] [] 75 (g_jTV o) := by
  intro n
  induction n with
  | zero =>
    intro r0 r1 x3 s0 h
    cases h
  | succ n ih =>
    intro r0 r1 x3 s0 h
    unfold f_Ru_work_75 at h
    refine r_iload_n hK d_Ru_work_75 rfl 2 rfl ?_
    refine r_aload_n hK d_Ru_work_76 rfl 1 rfl ?_
    refine r_gI hK fd_Se_7 w4_3 d_Ru_work_77 h (fun i1 h => ?_)
    refine r_if_icmpge (tgt := 99) hK d_Ru_work_80 (by decide) h (fun h => ?_) (fun h => ?_)
    · refine r_iconst (v := 0) hK d_Ru_work_99 (by decide) ?_
      refine r_istore_n (ls1 := [(3, g_i 0), (0, g_r 4 r0), (1, g_r 8 r1)]) hK d_Ru_work_100 rfl (by rw [hN]; decide) rfl ?_
      exact r_sub [1, 2, 0] rfl (t_Ru_work_101 hK hN hD hX _ _ _ _ _ h)
    · refine r_aload_n hK d_Ru_work_83 rfl 0 rfl ?_
      refine r_aload_n hK d_Ru_work_84 rfl 1 rfl ?_
      refine r_gR hK fd_Se_6 w4_0 d_Ru_work_85 h (fun p2 h => ?_)
      refine r_iload_n hK d_Ru_work_88 rfl 2 rfl ?_
      refine r_aaload hK rfl ar_27 rfl d_Ru_work_89 h (fun p3 h => ?_)
      refine r_Vv (avL := [g_r 9 p3]) (st := []) hK ob_Ru rfl w6_59 w6_60 w6_58 w6_61 w1_4 (by decide) pl_Ru_bind (by rw [hD]; decide) (Nat.le_of_ble_eq_true rfl) rfl d_Ru_work_90 (fun o9 h9 => c_Ru_bind _ _ _ _ _ o9 h9) h (fun s5 h => ?_)
      refine r_iinc (ls1 := [(3, g_i (x3 + 1)), (0, g_r 4 r0), (1, g_r 8 r1)]) hK d_Ru_work_93 2 rfl rfl (by rw [hN]; decide) rfl ?_
      refine r_goto (tgt := 75) hK d_Ru_work_96 (by decide) ?_
      exact r_sub [1, 2, 0] rfl (ih _ _ _ _ h)
set_option maxHeartbeats 4000000 in
set_option maxRecDepth 100000 in
theorem t_Ru_work_30 {K : g_C} {o : ((Unit ⊕ Nat) × g_St)} (hK : g_OK K b_Ru_work "FixpointEngine$Runner" "work" (Option.none : Option Jvm.ClassFile.FieldType)) (hN : g_nL K = 4) (hD : g_Kd K = 20) (hX : g_noX K) : ∀ (r0 : Option Nat) (r1 : Option Nat) (x2 : Int32) (r0s : Option Nat) (r1s : Option Nat) (s0 : g_St), f_Ru_work_30 r0 r1 x2 r0s r1s s0 = some o → g_W K s0 [(0, g_r 4 r0), (1, g_r 8 r1), (2, g_i x2)] [g_r 7 r1s, g_r 4 r0s] 30 (g_jTV o) := by
  intro r0 r1 x2 r0s r1s s0 h
  unfold f_Ru_work_30 at h
  refine r_pR hK pd_7 rfl (Or.inr rfl) fd_Ru_13 rfl w1_170 d_Ru_work_30 h (fun s1 h => ?_)
  refine r_aload_n hK d_Ru_work_33 rfl 0 rfl ?_
  refine r_aload_n hK d_Ru_work_34 rfl 0 rfl ?_
  refine r_gR hK fd_Ru_0 w1_154 d_Ru_work_35 h (fun p2 h => ?_)
  refine r_iload_n hK d_Ru_work_38 rfl 2 rfl ?_
  refine r_aaload hK rfl ar_29 rfl d_Ru_work_39 h (fun p3 h => ?_)
  refine r_pR hK pd_5 rfl (Or.inr rfl) fd_Ru_14 rfl w1_171 d_Ru_work_40 h (fun s4 h => ?_)
  refine r_aload_n hK d_Ru_work_43 rfl 0 rfl ?_
  refine r_iconst (v := 0) hK d_Ru_work_44 (by decide) ?_
  refine r_pZ hK fd_Ru_16 rfl w1_173 d_Ru_work_45 h (fun s5 h => ?_)
  refine r_aload_n hK d_Ru_work_48 rfl 0 rfl ?_
  refine r_iconst (v := 0) hK d_Ru_work_49 (by decide) ?_
  refine r_pZ hK fd_Ru_17 rfl w1_174 d_Ru_work_50 h (fun s6 h => ?_)
  refine r_aload_n hK d_Ru_work_53 rfl 0 rfl ?_
  refine r_iconst (v := 0) hK d_Ru_work_54 (by decide) ?_
  refine r_pI hK fd_Ru_15 rfl w1_172 d_Ru_work_55 h (fun s7 h => ?_)
  refine r_aload_n hK d_Ru_work_58 rfl 1 rfl ?_
  refine r_gI hK fd_Se_5 w3_237 d_Ru_work_59 h (fun i8 h => ?_)
  refine r_aload_n hK d_Ru_work_62 rfl 1 rfl ?_
  refine r_gI hK fd_Se_4 w3_232 d_Ru_work_63 h (fun i9 h => ?_)
  refine r_if_icmpne (tgt := 73) hK d_Ru_work_66 (by decide) h (fun h => ?_) (fun h => ?_)
  · refine r_iconst (v := 0) hK d_Ru_work_73 (by decide) ?_
    refine r_istore_n (ls1 := [(3, g_i 0), (0, g_r 4 r0), (1, g_r 8 r1), (2, g_i x2)]) hK d_Ru_work_74 rfl (by rw [hN]; decide) rfl ?_
    exact r_sub [1, 2, 0] rfl (t_Ru_work_75 hK hN hD hX _ _ _ _ _ h)
  · refine r_aload_n hK d_Ru_work_69 rfl 0 rfl ?_
    refine r_Vv (avL := []) (st := []) hK ob_Ru rfl w6_55 w6_56 w6_54 w6_57 w1_4 (by decide) pl_Ru_addGroup (by rw [hD]; decide) (Nat.le_of_ble_eq_true rfl) rfl d_Ru_work_70 (fun o9 h9 => c_Ru_addGroup _ _ _ _ o9 h9) h (fun s11 h => ?_)
    refine r_iconst (v := 0) hK d_Ru_work_73 (by decide) ?_
    refine r_istore_n (ls1 := [(3, g_i 0), (0, g_r 4 r0), (1, g_r 8 r1), (2, g_i x2)]) hK d_Ru_work_74 rfl (by rw [hN]; decide) rfl ?_
    exact r_sub [1, 2, 0] rfl (t_Ru_work_75 hK hN hD hX _ _ _ _ _ h)
set_option maxHeartbeats 4000000 in
set_option maxRecDepth 100000 in
theorem t_Ru_work_0 {K : g_C} {o : ((Unit ⊕ Nat) × g_St)} (hK : g_OK K b_Ru_work "FixpointEngine$Runner" "work" (Option.none : Option Jvm.ClassFile.FieldType)) (hN : g_nL K = 4) (hD : g_Kd K = 20) (hX : g_noX K) : ∀ (r0 : Option Nat) (r1 : Option Nat) (x2 : Int32) (s0 : g_St), f_Ru_work r0 r1 x2 s0 = some o → g_W K s0 [(0, g_r 4 r0), (1, g_r 8 r1), (2, g_i x2)] [] 0 (g_jTV o) := by
  intro r0 r1 x2 s0 h
  unfold f_Ru_work at h
  refine r_aload_n hK d_Ru_work_0 rfl 0 rfl ?_
  refine r_aload_n hK d_Ru_work_1 rfl 1 rfl ?_
  refine r_pR hK pd_8 rfl (Or.inr rfl) fd_Ru_12 rfl w1_169 d_Ru_work_2 h (fun s1 h => ?_)
  refine r_aload_n hK d_Ru_work_5 rfl 0 rfl ?_
  refine r_iload_n hK d_Ru_work_6 rfl 2 rfl ?_
  refine r_aload_n hK d_Ru_work_7 rfl 0 rfl ?_
  refine r_gR hK fd_Ru_7 w1_164 d_Ru_work_8 h (fun p2 h => ?_)
  refine r_gI hK fd_Qu_1 w3_26 d_Ru_work_11 h (fun i3 h => ?_)
  refine r_if_icmpge (tgt := 29) hK d_Ru_work_14 (by decide) h (fun h => ?_) (fun h => ?_)
  · refine r_null hK 7 d_Ru_work_29 ?_
    exact r_sub [0, 1, 2] rfl (t_Ru_work_30 hK hN hD hX _ _ _ _ _ _ h)
  · refine r_aload_n hK d_Ru_work_17 rfl 0 rfl ?_
    refine r_gR hK fd_Ru_7 w1_164 d_Ru_work_18 h (fun p4 h => ?_)
    refine r_gR hK fd_Qu_0 w3_22 d_Ru_work_21 h (fun p5 h => ?_)
    refine r_iload_n hK d_Ru_work_24 rfl 2 rfl ?_
    refine r_aaload hK rfl ar_24 rfl d_Ru_work_25 h (fun p6 h => ?_)
    refine r_goto (tgt := 30) hK d_Ru_work_26 (by decide) ?_
    exact r_sub [0, 1, 2] rfl (t_Ru_work_30 hK hN hD hX _ _ _ _ _ _ h)
theorem c_Ru_work (l : Launch) (G : g_G) (r0 : Option Nat) (r1 : Option Nat) (x2 : Int32) (u : g_St) (o : ((Unit ⊕ Nat) × g_St)) (h : f_Ru_work r0 r1 x2 u = some o) : g_Con l G y_Ru_work b_Ru_work 4 (Option.none : Option Jvm.ClassFile.FieldType) 20 [g_r 4 r0, g_r 8 r1, g_i x2] u (g_jTV o) :=
  g_Con.of rfl rfl (by decide +kernel) (Nat.le_of_ble_eq_true rfl) (fun K hK hN hD hX => t_Ru_work_0 hK hN hD hX _ _ _ _ h)
def f_Ru_component_90 (k52 : Option Nat → Int32 → Int32 → Int32 → Int32 → Int32 → Option Nat → Int32 → g_St → Option ((Unit ⊕ Nat) × g_St)) (r0 : Option Nat) (x1 : Int32) (x2 : Int32) (x3 : Int32) (x4 : Int32) (x5 : Int32) (r6 : Option Nat) (x7 : Int32) (s0 : g_St) : Option ((Unit ⊕ Nat) × g_St) :=
  g_gR s0 647 r6 fun p1 =>
  g_aR s0 p1 x7 fun p2 =>
  g_cT (g_nn r0 (f_Ru_work r0 p2 x5 s0)) fun _ s4 =>
  k52 r0 x1 x2 x3 x4 x5 r6 (x7 + 1) s4
def f_Ru_component_52 (k25 : Option Nat → Int32 → Int32 → Int32 → Int32 → Int32 → g_St → Option ((Unit ⊕ Nat) × g_St)) : Nat → Option Nat → Int32 → Int32 → Int32 → Int32 → Int32 → Option Nat → Int32 → g_St → Option ((Unit ⊕ Nat) × g_St)
  | 0, _, _, _, _, _, _, _, _, _ => none
  | n + 1, r0, x1, x2, x3, x4, x5, r6, x7, s0 =>
    g_gI s0 711 r6 fun i1 =>
    if i1 ≤ x7 then
      k25 r0 x1 x2 x3 x4 (x5 + 1) s0
    else
      g_gI s0 903 r6 fun i2 =>
      if i2 = x1 then
        if x2 = 1 then
          f_Ru_component_90 (f_Ru_component_52 k25 n) r0 x1 x2 x3 x4 x5 r6 x7 s0
        else
          g_gR s0 647 r6 fun p3 =>
          g_aR s0 p3 x7 fun p4 =>
          g_gI s0 648 p4 fun i5 =>
          if i5 ≤ 0 then
            f_Ru_component_52 k25 n r0 x1 x2 x3 x4 x5 r6 (x7 + 1) s0
          else
            f_Ru_component_90 (f_Ru_component_52 k25 n) r0 x1 x2 x3 x4 x5 r6 x7 s0
      else
        k25 r0 x1 x2 x3 x4 (x5 + 1) s0
def f_Ru_component_25 (k2 : Option Nat → Int32 → Int32 → g_St → Option ((Unit ⊕ Nat) × g_St)) : Nat → Option Nat → Int32 → Int32 → Int32 → Int32 → Int32 → g_St → Option ((Unit ⊕ Nat) × g_St)
  | 0, _, _, _, _, _, _, _ => none
  | n + 1, r0, x1, x2, x3, x4, x5, s0 =>
    g_gR s0 452 r0 fun p1 =>
    g_gI s0 70 p1 fun i2 =>
    if i2 ≤ x5 then
      g_gR s0 68 r0 fun p3 =>
      g_sI s0 p3 (x1 * 31) x2 fun s4 =>
      g_gR s4 68 r0 fun p5 =>
      g_gI s4 708 r0 fun i6 =>
      g_sI s4 p5 ((x1 * 31) + x2) (i6 - x3) fun s7 =>
      if x4 = 0 then
        some (Sum.inl (), s7)
      else
        g_gI s7 708 r0 fun i8 =>
        if i8 = x3 then
          some (Sum.inl (), s7)
        else
          k2 r0 x1 (x2 + 1) s7
    else
      g_gR s0 452 r0 fun p9 =>
      g_gR s0 6 p9 fun p10 =>
      g_aR s0 p10 x5 fun p11 =>
      f_Ru_component_52 (f_Ru_component_25 k2 n) 200000 r0 x1 x2 x3 x4 x5 p11 0 s0
def f_Ru_component_2 : Nat → Option Nat → Int32 → Int32 → g_St → Option ((Unit ⊕ Nat) × g_St)
  | 0, _, _, _, _ => none
  | n + 1, r0, x1, x2, s0 =>
    g_gI s0 580 r0 fun i1 =>
    if i1 < x2 then
      g_thr s0 3
    else
      g_gI s0 708 r0 fun i2 =>
      g_c (g_nn r0 (f_Ru_beginRound r0 x1 s0)) fun i3 s4 =>
      f_Ru_component_25 (f_Ru_component_2 n) 200000 r0 x1 x2 i2 i3 0 s4
def f_Ru_component (r0 : Option Nat) (x1 : Int32) (s0 : g_St) : Option ((Unit ⊕ Nat) × g_St) :=
  f_Ru_component_2 200000 r0 x1 1 s0
set_option maxHeartbeats 4000000 in
set_option maxRecDepth 100000 in
theorem t_Ru_component_90 {K : g_C} {o : ((Unit ⊕ Nat) × g_St)} (hK : g_OK K b_Ru_component "FixpointEngine$Runner" "component" (Option.none : Option Jvm.ClassFile.FieldType)) (hN : g_nL K = 8) (hD : g_Kd K = 21) (hX : g_noX K) {k52 : Option Nat → Int32 → Int32 → Int32 → Int32 → Int32 → Option Nat → Int32 → g_St → Option ((Unit ⊕ Nat) × g_St)} (hk52 : ∀ (r0 : Option Nat) (x1 : Int32) (x2 : Int32) (x3 : Int32) (x4 : Int32) (x5 : Int32) (r6 : Option Nat) (x7 : Int32) (s0 : g_St), k52 r0 x1 x2 x3 x4 x5 r6 x7 s0 = some o → g_W K s0 [(0, g_r 4 r0), (1, g_i x1), (2, g_i x2), (3, g_i x3), (4, g_i x4), (5, g_i x5), (6, g_r 7 r6), (7, g_i x7)] [] 52 (g_jTV o)) : ∀ (r0 : Option Nat) (x1 : Int32) (x2 : Int32) (x3 : Int32) (x4 : Int32) (x5 : Int32) (r6 : Option Nat) (x7 : Int32) (s0 : g_St), f_Ru_component_90 k52 r0 x1 x2 x3 x4 x5 r6 x7 s0 = some o → g_W K s0 [(0, g_r 4 r0), (1, g_i x1), (2, g_i x2), (3, g_i x3), (4, g_i x4), (5, g_i x5), (6, g_r 7 r6), (7, g_i x7)] [] 90 (g_jTV o) := by
  intro r0 x1 x2 x3 x4 x5 r6 x7 s0 h
  unfold f_Ru_component_90 at h
  refine r_aload_n hK d_Ru_component_90 rfl 0 rfl ?_
  refine r_aload hK d_Ru_component_91 6 rfl ?_
  refine r_gR hK fd_Pa_10 w3_126 d_Ru_component_93 h (fun p1 h => ?_)
  refine r_iload hK d_Ru_component_96 7 rfl ?_
  refine r_aaload hK rfl ar_25 rfl d_Ru_component_98 h (fun p2 h => ?_)
  refine r_iload hK d_Ru_component_99 5 rfl ?_
  refine r_VTvV (avL := [g_r 8 p2, g_i x5]) (st := []) hK hX ob_Ru rfl w6_51 w6_52 w6_50 w6_53 w1_4 (by decide) pl_Ru_work (by rw [hD]; decide) (Nat.le_of_ble_eq_true rfl) rfl d_Ru_component_101 (fun o9 h9 => c_Ru_work _ _ _ _ _ _ o9 h9) h (fun s4 h => ?_)
  refine r_iinc (ls1 := [(7, g_i (x7 + 1)), (0, g_r 4 r0), (1, g_i x1), (2, g_i x2), (3, g_i x3), (4, g_i x4), (5, g_i x5), (6, g_r 7 r6)]) hK d_Ru_component_104 7 rfl rfl (by rw [hN]; decide) rfl ?_
  refine r_goto (tgt := 52) hK d_Ru_component_107 (by decide) ?_
  exact r_sub [1, 2, 3, 4, 5, 6, 7, 0] rfl (hk52 _ _ _ _ _ _ _ _ _ h)
set_option maxHeartbeats 4000000 in
set_option maxRecDepth 100000 in
theorem t_Ru_component_52 {K : g_C} {o : ((Unit ⊕ Nat) × g_St)} (hK : g_OK K b_Ru_component "FixpointEngine$Runner" "component" (Option.none : Option Jvm.ClassFile.FieldType)) (hN : g_nL K = 8) (hD : g_Kd K = 21) (hX : g_noX K) {k25 : Option Nat → Int32 → Int32 → Int32 → Int32 → Int32 → g_St → Option ((Unit ⊕ Nat) × g_St)} (hk25 : ∀ (r0 : Option Nat) (x1 : Int32) (x2 : Int32) (x3 : Int32) (x4 : Int32) (x5 : Int32) (s0 : g_St), k25 r0 x1 x2 x3 x4 x5 s0 = some o → g_W K s0 [(0, g_r 4 r0), (1, g_i x1), (2, g_i x2), (3, g_i x3), (4, g_i x4), (5, g_i x5)] [] 25 (g_jTV o)) : ∀ (n : Nat) (r0 : Option Nat) (x1 : Int32) (x2 : Int32) (x3 : Int32) (x4 : Int32) (x5 : Int32) (r6 : Option Nat) (x7 : Int32) (s0 : g_St), f_Ru_component_52 k25 n r0 x1 x2 x3 x4 x5 r6 x7 s0 = some o → g_W K s0 [(0, g_r 4 r0), (1, g_i x1), (2, g_i x2), (3, g_i x3), (4, g_i x4), (5, g_i x5), (6, g_r 7 r6), (7, g_i x7)] [] 52 (g_jTV o) := by
  intro n
  induction n with
  | zero =>
    intro r0 x1 x2 x3 x4 x5 r6 x7 s0 h
    cases h
  | succ n ih =>
    intro r0 x1 x2 x3 x4 x5 r6 x7 s0 h
    unfold f_Ru_component_52 at h
    refine r_iload hK d_Ru_component_52 7 rfl ?_
    refine r_aload hK d_Ru_component_54 6 rfl ?_
    refine r_gI hK fd_Pa_11 w3_129 d_Ru_component_56 h (fun i1 h => ?_)
    refine r_if_icmpge (tgt := 110) hK d_Ru_component_59 (by decide) h (fun h => ?_) (fun h => ?_)
    · refine r_iinc (ls1 := [(5, g_i (x5 + 1)), (0, g_r 4 r0), (1, g_i x1), (2, g_i x2), (3, g_i x3), (4, g_i x4), (6, g_r 7 r6), (7, g_i x7)]) hK d_Ru_component_110 5 rfl rfl (by rw [hN]; decide) rfl ?_
      refine r_goto (tgt := 25) hK d_Ru_component_113 (by decide) ?_
      exact r_sub [1, 2, 3, 4, 5, 0] rfl (hk25 _ _ _ _ _ _ _ h)
    · refine r_aload hK d_Ru_component_62 6 rfl ?_
      refine r_gI hK fd_Pa_14 w3_135 d_Ru_component_64 h (fun i2 h => ?_)
      refine r_iload_n hK d_Ru_component_67 rfl 1 rfl ?_
      refine r_if_icmpne (tgt := 110) hK d_Ru_component_68 (by decide) h (fun h => ?_) (fun h => ?_)
      · refine r_iinc (ls1 := [(5, g_i (x5 + 1)), (0, g_r 4 r0), (1, g_i x1), (2, g_i x2), (3, g_i x3), (4, g_i x4), (6, g_r 7 r6), (7, g_i x7)]) hK d_Ru_component_110 5 rfl rfl (by rw [hN]; decide) rfl ?_
        refine r_goto (tgt := 25) hK d_Ru_component_113 (by decide) ?_
        exact r_sub [1, 2, 3, 4, 5, 0] rfl (hk25 _ _ _ _ _ _ _ h)
      · refine r_iload_n hK d_Ru_component_71 rfl 2 rfl ?_
        refine r_iconst (v := 1) hK d_Ru_component_72 (by decide) ?_
        refine r_if_icmpeq (tgt := 90) hK d_Ru_component_73 (by decide) h (fun h => ?_) (fun h => ?_)
        · exact r_sub [0, 1, 2, 3, 4, 5, 6, 7] rfl (t_Ru_component_90 hK hN hD hX ih _ _ _ _ _ _ _ _ _ h)
        · refine r_aload hK d_Ru_component_76 6 rfl ?_
          refine r_gR hK fd_Pa_10 w3_126 d_Ru_component_78 h (fun p3 h => ?_)
          refine r_iload hK d_Ru_component_81 7 rfl ?_
          refine r_aaload hK rfl ar_25 rfl d_Ru_component_83 h (fun p4 h => ?_)
          refine r_gI hK fd_Se_10 w4_11 d_Ru_component_84 h (fun i5 h => ?_)
          refine r_ifle (tgt := 104) hK d_Ru_component_87 (by decide) h (fun h => ?_) (fun h => ?_)
          · refine r_iinc (ls1 := [(7, g_i (x7 + 1)), (0, g_r 4 r0), (1, g_i x1), (2, g_i x2), (3, g_i x3), (4, g_i x4), (5, g_i x5), (6, g_r 7 r6)]) hK d_Ru_component_104 7 rfl rfl (by rw [hN]; decide) rfl ?_
            refine r_goto (tgt := 52) hK d_Ru_component_107 (by decide) ?_
            exact r_sub [1, 2, 3, 4, 5, 6, 7, 0] rfl (ih _ _ _ _ _ _ _ _ _ h)
          · exact r_sub [0, 1, 2, 3, 4, 5, 6, 7] rfl (t_Ru_component_90 hK hN hD hX ih _ _ _ _ _ _ _ _ _ h)
set_option maxHeartbeats 4000000 in
set_option maxRecDepth 100000 in
theorem t_Ru_component_25 {K : g_C} {o : ((Unit ⊕ Nat) × g_St)} (hK : g_OK K b_Ru_component "FixpointEngine$Runner" "component" (Option.none : Option Jvm.ClassFile.FieldType)) (hN : g_nL K = 8) (hD : g_Kd K = 21) (hX : g_noX K) {k2 : Option Nat → Int32 → Int32 → g_St → Option ((Unit ⊕ Nat) × g_St)} (hk2 : ∀ (r0 : Option Nat) (x1 : Int32) (x2 : Int32) (s0 : g_St), k2 r0 x1 x2 s0 = some o → g_W K s0 [(0, g_r 4 r0), (1, g_i x1), (2, g_i x2)] [] 2 (g_jTV o)) : ∀ (n : Nat) (r0 : Option Nat) (x1 : Int32) (x2 : Int32) (x3 : Int32) (x4 : Int32) (x5 : Int32) (s0 : g_St), f_Ru_component_25 k2 n r0 x1 x2 x3 x4 x5 s0 = some o → g_W K s0 [(0, g_r 4 r0), (1, g_i x1), (2, g_i x2), (3, g_i x3), (4, g_i x4), (5, g_i x5)] [] 25 (g_jTV o) := by
  intro n
  induction n with
  | zero =>
    intro r0 x1 x2 x3 x4 x5 s0 h
    cases h
  | succ n ih =>
    intro r0 x1 x2 x3 x4 x5 s0 h
    unfold f_Ru_component_25 at h
    refine r_iload hK d_Ru_component_25 5 rfl ?_
    refine r_aload_n hK d_Ru_component_27 rfl 0 rfl ?_
    refine r_gR hK fd_Ru_7 w1_164 d_Ru_component_28 h (fun p1 h => ?_)
    refine r_gI hK fd_Qu_1 w3_26 d_Ru_component_31 h (fun i2 h => ?_)
    refine r_if_icmpge (tgt := 116) hK d_Ru_component_34 (by decide) h (fun h => ?_) (fun h => ?_)
    · refine r_aload_n hK d_Ru_component_116 rfl 0 rfl ?_
      refine r_gR hK fd_Ru_1 w1_156 d_Ru_component_117 h (fun p3 h => ?_)
      refine r_iload_n hK d_Ru_component_120 rfl 1 rfl ?_
      refine r_bipush (v := 31) hK d_Ru_component_121 (by decide) ?_
      refine r_imul hK d_Ru_component_123 ?_
      refine r_iload_n hK d_Ru_component_124 rfl 2 rfl ?_
      refine r_iastore hK ar_20 rfl d_Ru_component_125 h (fun s4 h => ?_)
      refine r_aload_n hK d_Ru_component_126 rfl 0 rfl ?_
      refine r_gR hK fd_Ru_1 w1_156 d_Ru_component_127 h (fun p5 h => ?_)
      refine r_iload_n hK d_Ru_component_130 rfl 1 rfl ?_
      refine r_bipush (v := 31) hK d_Ru_component_131 (by decide) ?_
      refine r_imul hK d_Ru_component_133 ?_
      refine r_iload_n hK d_Ru_component_134 rfl 2 rfl ?_
      refine r_iadd hK d_Ru_component_135 ?_
      refine r_aload_n hK d_Ru_component_136 rfl 0 rfl ?_
      refine r_gI hK fd_Ru_11 w1_168 d_Ru_component_137 h (fun i6 h => ?_)
      refine r_iload_n hK d_Ru_component_140 rfl 3 rfl ?_
      refine r_isub hK d_Ru_component_141 ?_
      refine r_iastore hK ar_20 rfl d_Ru_component_142 h (fun s7 h => ?_)
      refine r_iload hK d_Ru_component_143 4 rfl ?_
      refine r_ifeq (tgt := 156) hK d_Ru_component_145 (by decide) h (fun h => ?_) (fun h => ?_)
      · exact r_returnT hK d_Ru_component_156 h
      · refine r_aload_n hK d_Ru_component_148 rfl 0 rfl ?_
        refine r_gI hK fd_Ru_11 w1_168 d_Ru_component_149 h (fun i8 h => ?_)
        refine r_iload_n hK d_Ru_component_152 rfl 3 rfl ?_
        refine r_if_icmpne (tgt := 157) hK d_Ru_component_153 (by decide) h (fun h => ?_) (fun h => ?_)
        · refine r_iinc (ls1 := [(2, g_i (x2 + 1)), (0, g_r 4 r0), (1, g_i x1), (3, g_i x3), (4, g_i x4), (5, g_i x5)]) hK d_Ru_component_157 2 rfl rfl (by rw [hN]; decide) rfl ?_
          refine r_goto (tgt := 2) hK d_Ru_component_160 (by decide) ?_
          exact r_sub [1, 2, 0] rfl (hk2 _ _ _ _ h)
        · exact r_returnT hK d_Ru_component_156 h
    · refine r_aload_n hK d_Ru_component_37 rfl 0 rfl ?_
      refine r_gR hK fd_Ru_7 w1_164 d_Ru_component_38 h (fun p9 h => ?_)
      refine r_gR hK fd_Qu_0 w3_22 d_Ru_component_41 h (fun p10 h => ?_)
      refine r_iload hK d_Ru_component_44 5 rfl ?_
      refine r_aaload hK rfl ar_24 rfl d_Ru_component_46 h (fun p11 h => ?_)
      refine r_astore (ls1 := [(6, g_r 7 p11), (0, g_r 4 r0), (1, g_i x1), (2, g_i x2), (3, g_i x3), (4, g_i x4), (5, g_i x5)]) hK d_Ru_component_47 (by rw [hN]; decide) rfl ?_
      refine r_iconst (v := 0) hK d_Ru_component_49 (by decide) ?_
      refine r_istore (ls1 := [(7, g_i 0), (6, g_r 7 p11), (0, g_r 4 r0), (1, g_i x1), (2, g_i x2), (3, g_i x3), (4, g_i x4), (5, g_i x5)]) hK d_Ru_component_50 (by rw [hN]; decide) rfl ?_
      exact r_sub [2, 3, 4, 5, 6, 7, 1, 0] rfl (t_Ru_component_52 hK hN hD hX ih _ _ _ _ _ _ _ _ _ _ h)
set_option maxHeartbeats 4000000 in
set_option maxRecDepth 100000 in
theorem t_Ru_component_2 {K : g_C} {o : ((Unit ⊕ Nat) × g_St)} (hK : g_OK K b_Ru_component "FixpointEngine$Runner" "component" (Option.none : Option Jvm.ClassFile.FieldType)) (hN : g_nL K = 8) (hD : g_Kd K = 21) (hX : g_noX K) : ∀ (n : Nat) (r0 : Option Nat) (x1 : Int32) (x2 : Int32) (s0 : g_St), f_Ru_component_2 n r0 x1 x2 s0 = some o → g_W K s0 [(0, g_r 4 r0), (1, g_i x1), (2, g_i x2)] [] 2 (g_jTV o) := by
  intro n
  induction n with
  | zero =>
    intro r0 x1 x2 s0 h
    cases h
  | succ n ih =>
    intro r0 x1 x2 s0 h
    unfold f_Ru_component_2 at h
    refine r_iload_n hK d_Ru_component_2 rfl 2 rfl ?_
    refine r_aload_n hK d_Ru_component_3 rfl 0 rfl ?_
    refine r_gI hK fd_Ru_9 w1_166 d_Ru_component_4 h (fun i1 h => ?_)
    refine r_if_icmpgt (tgt := 163) hK d_Ru_component_7 (by decide) h (fun h => ?_) (fun h => ?_)
    · exact r_thrV hK hX rfl w6_169 w6_170 w1_36 (by decide +kernel) th_Ru_98 (List.mem_of_getElem? (i := 12) rfl) (by rw [hD]; decide) (Nat.le_of_ble_eq_true rfl) d_Ru_component_163 d_Ru_component_166 (Or.inl ⟨rfl, d_Ru_component_167⟩) d_Ru_component_169 d_Ru_component_172 h
    · refine r_aload_n hK d_Ru_component_10 rfl 0 rfl ?_
      refine r_gI hK fd_Ru_11 w1_168 d_Ru_component_11 h (fun i2 h => ?_)
      refine r_istore_n (ls1 := [(3, g_i i2), (0, g_r 4 r0), (1, g_i x1), (2, g_i x2)]) hK d_Ru_component_14 rfl (by rw [hN]; decide) rfl ?_
      refine r_aload_n hK d_Ru_component_15 rfl 1 rfl ?_
      refine r_iload_n hK d_Ru_component_16 rfl 2 rfl ?_
      refine r_Vi (avL := [g_i x1]) (st := []) hK ob_Ru rfl w6_43 w6_44 w6_42 w6_45 w1_4 (by decide) pl_Ru_beginRound (by rw [hD]; decide) (Nat.le_of_ble_eq_true rfl) rfl d_Ru_component_17 (fun o9 h9 => c_Ru_beginRound _ _ _ _ _ o9 h9) h (fun i3 s4 h => ?_)
      refine r_istore (ls1 := [(4, g_i i3), (3, g_i i2), (0, g_r 4 r0), (1, g_i x1), (2, g_i x2)]) hK d_Ru_component_20 (by rw [hN]; decide) rfl ?_
      refine r_iconst (v := 0) hK d_Ru_component_22 (by decide) ?_
      refine r_istore (ls1 := [(5, g_i 0), (4, g_i i3), (3, g_i i2), (0, g_r 4 r0), (1, g_i x1), (2, g_i x2)]) hK d_Ru_component_23 (by rw [hN]; decide) rfl ?_
      exact r_sub [3, 4, 5, 2, 1, 0] rfl (t_Ru_component_25 hK hN hD hX ih _ _ _ _ _ _ _ _ h)
set_option maxHeartbeats 4000000 in
set_option maxRecDepth 100000 in
theorem t_Ru_component_0 {K : g_C} {o : ((Unit ⊕ Nat) × g_St)} (hK : g_OK K b_Ru_component "FixpointEngine$Runner" "component" (Option.none : Option Jvm.ClassFile.FieldType)) (hN : g_nL K = 8) (hD : g_Kd K = 21) (hX : g_noX K) : ∀ (r0 : Option Nat) (x1 : Int32) (s0 : g_St), f_Ru_component r0 x1 s0 = some o → g_W K s0 [(0, g_r 4 r0), (1, g_i x1)] [] 0 (g_jTV o) := by
  intro r0 x1 s0 h
  unfold f_Ru_component at h
  refine r_iconst (v := 1) hK d_Ru_component_0 (by decide) ?_
  refine r_istore_n (ls1 := [(2, g_i 1), (0, g_r 4 r0), (1, g_i x1)]) hK d_Ru_component_1 rfl (by rw [hN]; decide) rfl ?_
  exact r_sub [1, 2, 0] rfl (t_Ru_component_2 hK hN hD hX _ _ _ _ _ h)
theorem c_Ru_component (l : Launch) (G : g_G) (r0 : Option Nat) (x1 : Int32) (u : g_St) (o : ((Unit ⊕ Nat) × g_St)) (h : f_Ru_component r0 x1 u = some o) : g_Con l G y_Ru_component b_Ru_component 8 (Option.none : Option Jvm.ClassFile.FieldType) 21 [g_r 4 r0, g_i x1] u (g_jTV o) :=
  g_Con.of rfl rfl (by decide +kernel) (Nat.le_of_ble_eq_true rfl) (fun K hK hN hD hX => t_Ru_component_0 hK hN hD hX _ _ _ h)
def f_Ru_compareKeys (r0 : Option Nat) (r1 : Option Nat) (y2 : Int64) (y4 : Int64) (s0 : g_St) : Option (Int32 × g_St) :=
  g_gI s0 587 r1 fun i1 =>
  if i1 = 4 then
    g_gR s0 4 r0 fun p2 =>
    g_gR s0 523 r1 fun p3 =>
    g_gI s0 393 p3 fun i4 =>
    g_aR s0 p2 i4 fun p5 =>
    g_gR s0 452 r0 fun p6 =>
    g_gR s0 6 p6 fun p7 =>
    g_gR s0 523 r1 fun p8 =>
    g_gI s0 393 p8 fun i9 =>
    g_aR s0 p7 i9 fun p10 =>
    g_c (g_nn p5 (f_Rl_compareTrails p5 p10 y2.toInt32 y4.toInt32 s0)) fun i11 s12 =>
    some (i11, s12)
  else
    g_c (f_Rl_compareCells y2 y4 s0) fun i13 s14 =>
    some (i13, s14)
set_option maxHeartbeats 4000000 in
set_option maxRecDepth 100000 in
theorem t_Ru_compareKeys_0 {K : g_C} {o : (Int32 × g_St)} (hK : g_OK K b_Ru_compareKeys "FixpointEngine$Runner" "compareKeys" (Option.some Jvm.ClassFile.FieldType.int)) (hN : g_nL K = 6) (hD : g_Kd K = 8) : ∀ (r0 : Option Nat) (r1 : Option Nat) (y2 : Int64) (y4 : Int64) (s0 : g_St), f_Ru_compareKeys r0 r1 y2 y4 s0 = some o → g_W K s0 [(0, g_r 4 r0), (1, g_r 11 r1), (2, g_l y2), (4, g_l y4)] [] 0 (g_jI o) := by
  intro r0 r1 y2 y4 s0 h
  unfold f_Ru_compareKeys at h
  refine r_aload_n hK d_Ru_compareKeys_0 rfl 1 rfl ?_
  refine r_gI hK fd_Te_9 w4_90 d_Ru_compareKeys_1 h (fun i1 h => ?_)
  refine r_iconst (v := 4) hK d_Ru_compareKeys_4 (by decide) ?_
  refine r_if_icmpeq (tgt := 15) hK d_Ru_compareKeys_5 (by decide) h (fun h => ?_) (fun h => ?_)
  · refine r_aload_n hK d_Ru_compareKeys_15 rfl 0 rfl ?_
    refine r_gR hK fd_Ru_0 w1_154 d_Ru_compareKeys_16 h (fun p2 h => ?_)
    refine r_aload_n hK d_Ru_compareKeys_19 rfl 1 rfl ?_
    refine r_gR hK fd_Te_8 w4_87 d_Ru_compareKeys_20 h (fun p3 h => ?_)
    refine r_gI hK fd_So_6 w4_218 d_Ru_compareKeys_23 h (fun i4 h => ?_)
    refine r_aaload hK rfl ar_29 rfl d_Ru_compareKeys_26 h (fun p5 h => ?_)
    refine r_aload_n hK d_Ru_compareKeys_27 rfl 0 rfl ?_
    refine r_gR hK fd_Ru_7 w1_164 d_Ru_compareKeys_28 h (fun p6 h => ?_)
    refine r_gR hK fd_Qu_0 w3_22 d_Ru_compareKeys_31 h (fun p7 h => ?_)
    refine r_aload_n hK d_Ru_compareKeys_34 rfl 1 rfl ?_
    refine r_gR hK fd_Te_8 w4_87 d_Ru_compareKeys_35 h (fun p8 h => ?_)
    refine r_gI hK fd_So_6 w4_218 d_Ru_compareKeys_38 h (fun i9 h => ?_)
    refine r_aaload hK rfl ar_24 rfl d_Ru_compareKeys_41 h (fun p10 h => ?_)
    refine r_lload_n hK d_Ru_compareKeys_42 rfl 2 rfl ?_
    refine r_l2i hK d_Ru_compareKeys_43 ?_
    refine r_lload hK d_Ru_compareKeys_44 3 rfl ?_
    refine r_l2i hK d_Ru_compareKeys_46 ?_
    refine r_Vi (avL := [g_r 7 p10, g_i y2.toInt32, g_i y4.toInt32]) (st := []) hK ob_Rl rfl w6_209 w6_210 w6_208 w6_211 w1_5 (by decide) pl_Rl_compareTrails (by rw [hD]; decide) (Nat.le_of_ble_eq_true rfl) rfl d_Ru_compareKeys_47 (fun o9 h9 => c_Rl_compareTrails _ _ _ _ _ _ _ o9 h9) h (fun i11 s12 h => ?_)
    exact r_ireturn hK d_Ru_compareKeys_50 h
  · refine r_lload_n hK d_Ru_compareKeys_8 rfl 2 rfl ?_
    refine r_lload hK d_Ru_compareKeys_9 3 rfl ?_
    refine r_Si (avL := [g_l y2, g_l y4]) (st := []) hK w6_202 w6_201 w6_203 w1_5 (by decide) pl_Rl_compareCells (by rw [hD]; decide) (Nat.le_of_ble_eq_true rfl) rfl d_Ru_compareKeys_11 (fun o9 h9 => c_Rl_compareCells _ _ _ _ _ o9 h9) h (fun i13 s14 h => ?_)
    exact r_ireturn hK d_Ru_compareKeys_14 h
theorem c_Ru_compareKeys (l : Launch) (G : g_G) (r0 : Option Nat) (r1 : Option Nat) (y2 : Int64) (y4 : Int64) (u : g_St) (o : (Int32 × g_St)) (h : f_Ru_compareKeys r0 r1 y2 y4 u = some o) : g_Con l G y_Ru_compareKeys b_Ru_compareKeys 6 (Option.some Jvm.ClassFile.FieldType.int) 8 [g_r 4 r0, g_r 11 r1, g_l y2, g_l y4] u (g_jI o) :=
  g_Con.of rfl rfl (by decide +kernel) (Nat.le_of_ble_eq_true rfl) (fun K hK hN hD hX => t_Ru_compareKeys_0 hK hN hD _ _ _ _ _ h)
def f_Ru_compareRows_75 : Nat → Option Nat → Int32 → Int32 → Option Nat → Int32 → g_St → Option (Int32 × g_St)
  | 0, _, _, _, _, _, _ => none
  | n + 1, r0, x1, x2, r3, x4, s0 =>
    g_gR s0 452 r0 fun p1 =>
    g_gR s0 198 p1 fun p2 =>
    g_gI s0 264 p2 fun i3 =>
    if i3 ≤ x4 then
      some (0, s0)
    else
      g_aL s0 r3 ((x1 * 4) + x4) fun j4 =>
      g_aL s0 r3 ((x2 * 4) + x4) fun j5 =>
      g_c (f_Rl_compareCells j4 j5 s0) fun i6 s7 =>
      if i6 = 0 then
        f_Ru_compareRows_75 n r0 x1 x2 r3 (x4 + 1) s7
      else
        some (i6, s7)
def f_Ru_compareRows_2 : Nat → Option Nat → Int32 → Int32 → Int32 → g_St → Option (Int32 × g_St)
  | 0, _, _, _, _, _ => none
  | n + 1, r0, x1, x2, x3, s0 =>
    g_gR s0 452 r0 fun p1 =>
    g_gI s0 326 p1 fun i2 =>
    if i2 ≤ x3 then
      g_gR s0 4 r0 fun p3 =>
      g_aR s0 p3 4 fun p4 =>
      g_gR s0 69 p4 fun p5 =>
      f_Ru_compareRows_75 200000 r0 x1 x2 p5 0 s0
    else
      g_gR s0 452 r0 fun p6 =>
      g_gR s0 262 p6 fun p7 =>
      g_aR s0 p7 x3 fun p8 =>
      g_gR s0 196 r0 fun p9 =>
      g_aL s0 p9 ((x1 * 2) + x3) fun j10 =>
      g_gR s0 196 r0 fun p11 =>
      g_aL s0 p11 ((x2 * 2) + x3) fun j12 =>
      g_c (g_nn r0 (f_Ru_compareKeys r0 p8 j10 j12 s0)) fun i13 s14 =>
      if i13 = 0 then
        f_Ru_compareRows_2 n r0 x1 x2 (x3 + 1) s14
      else
        some (i13, s14)
def f_Ru_compareRows (r0 : Option Nat) (x1 : Int32) (x2 : Int32) (s0 : g_St) : Option (Int32 × g_St) :=
  f_Ru_compareRows_2 200000 r0 x1 x2 0 s0
set_option maxHeartbeats 4000000 in
set_option maxRecDepth 100000 in
theorem t_Ru_compareRows_75 {K : g_C} {o : (Int32 × g_St)} (hK : g_OK K b_Ru_compareRows "FixpointEngine$Runner" "compareRows" (Option.some Jvm.ClassFile.FieldType.int)) (hN : g_nL K = 6) (hD : g_Kd K = 9) : ∀ (n : Nat) (r0 : Option Nat) (x1 : Int32) (x2 : Int32) (r3 : Option Nat) (x4 : Int32) (s0 : g_St), f_Ru_compareRows_75 n r0 x1 x2 r3 x4 s0 = some o → g_W K s0 [(0, g_r 4 r0), (1, g_i x1), (2, g_i x2), (3, g_r 21 r3), (4, g_i x4)] [] 75 (g_jI o) := by
  intro n
  induction n with
  | zero =>
    intro r0 x1 x2 r3 x4 s0 h
    cases h
  | succ n ih =>
    intro r0 x1 x2 r3 x4 s0 h
    unfold f_Ru_compareRows_75 at h
    refine r_iload hK d_Ru_compareRows_75 4 rfl ?_
    refine r_aload_n hK d_Ru_compareRows_77 rfl 0 rfl ?_
    refine r_gR hK fd_Ru_7 w1_164 d_Ru_compareRows_78 h (fun p1 h => ?_)
    refine r_gR hK fd_Qu_3 w3_35 d_Ru_compareRows_81 h (fun p2 h => ?_)
    refine r_gI hK fd_Se_4 w3_232 d_Ru_compareRows_84 h (fun i3 h => ?_)
    refine r_if_icmpge (tgt := 125) hK d_Ru_compareRows_87 (by decide) h (fun h => ?_) (fun h => ?_)
    · refine r_iconst (v := 0) hK d_Ru_compareRows_125 (by decide) ?_
      exact r_ireturn hK d_Ru_compareRows_126 h
    · refine r_aload_n hK d_Ru_compareRows_90 rfl 3 rfl ?_
      refine r_iload_n hK d_Ru_compareRows_91 rfl 1 rfl ?_
      refine r_iconst (v := 4) hK d_Ru_compareRows_92 (by decide) ?_
      refine r_imul hK d_Ru_compareRows_93 ?_
      refine r_iload hK d_Ru_compareRows_94 4 rfl ?_
      refine r_iadd hK d_Ru_compareRows_96 ?_
      refine r_laload hK ar_21 rfl d_Ru_compareRows_97 h (fun j4 h => ?_)
      refine r_aload_n hK d_Ru_compareRows_98 rfl 3 rfl ?_
      refine r_iload_n hK d_Ru_compareRows_99 rfl 2 rfl ?_
      refine r_iconst (v := 4) hK d_Ru_compareRows_100 (by decide) ?_
      refine r_imul hK d_Ru_compareRows_101 ?_
      refine r_iload hK d_Ru_compareRows_102 4 rfl ?_
      refine r_iadd hK d_Ru_compareRows_104 ?_
      refine r_laload hK ar_21 rfl d_Ru_compareRows_105 h (fun j5 h => ?_)
      refine r_Si (avL := [g_l j4, g_l j5]) (st := []) hK w6_202 w6_201 w6_203 w1_5 (by decide) pl_Rl_compareCells (by rw [hD]; decide) (Nat.le_of_ble_eq_true rfl) rfl d_Ru_compareRows_106 (fun o9 h9 => c_Rl_compareCells _ _ _ _ _ o9 h9) h (fun i6 s7 h => ?_)
      refine r_istore (ls1 := [(5, g_i i6), (0, g_r 4 r0), (1, g_i x1), (2, g_i x2), (3, g_r 21 r3), (4, g_i x4)]) hK d_Ru_compareRows_109 (by rw [hN]; decide) rfl ?_
      refine r_iload hK d_Ru_compareRows_111 0 rfl ?_
      refine r_ifeq (tgt := 119) hK d_Ru_compareRows_113 (by decide) h (fun h => ?_) (fun h => ?_)
      · refine r_iinc (ls1 := [(4, g_i (x4 + 1)), (5, g_i i6), (0, g_r 4 r0), (1, g_i x1), (2, g_i x2), (3, g_r 21 r3)]) hK d_Ru_compareRows_119 5 rfl rfl (by rw [hN]; decide) rfl ?_
        refine r_goto (tgt := 75) hK d_Ru_compareRows_122 (by decide) ?_
        exact r_sub [2, 3, 4, 5, 0] rfl (ih _ _ _ _ _ _ h)
      · refine r_iload hK d_Ru_compareRows_116 0 rfl ?_
        exact r_ireturn hK d_Ru_compareRows_118 h
set_option maxHeartbeats 4000000 in
set_option maxRecDepth 100000 in
theorem t_Ru_compareRows_2 {K : g_C} {o : (Int32 × g_St)} (hK : g_OK K b_Ru_compareRows "FixpointEngine$Runner" "compareRows" (Option.some Jvm.ClassFile.FieldType.int)) (hN : g_nL K = 6) (hD : g_Kd K = 9) : ∀ (n : Nat) (r0 : Option Nat) (x1 : Int32) (x2 : Int32) (x3 : Int32) (s0 : g_St), f_Ru_compareRows_2 n r0 x1 x2 x3 s0 = some o → g_W K s0 [(0, g_r 4 r0), (1, g_i x1), (2, g_i x2), (3, g_i x3)] [] 2 (g_jI o) := by
  intro n
  induction n with
  | zero =>
    intro r0 x1 x2 x3 s0 h
    cases h
  | succ n ih =>
    intro r0 x1 x2 x3 s0 h
    unfold f_Ru_compareRows_2 at h
    refine r_iload_n hK d_Ru_compareRows_2 rfl 3 rfl ?_
    refine r_aload_n hK d_Ru_compareRows_3 rfl 0 rfl ?_
    refine r_gR hK fd_Ru_7 w1_164 d_Ru_compareRows_4 h (fun p1 h => ?_)
    refine r_gI hK fd_Qu_5 w3_40 d_Ru_compareRows_7 h (fun i2 h => ?_)
    refine r_if_icmpge (tgt := 62) hK d_Ru_compareRows_10 (by decide) h (fun h => ?_) (fun h => ?_)
    · refine r_aload_n hK d_Ru_compareRows_62 rfl 0 rfl ?_
      refine r_gR hK fd_Ru_0 w1_154 d_Ru_compareRows_63 h (fun p3 h => ?_)
      refine r_iconst (v := 4) hK d_Ru_compareRows_66 (by decide) ?_
      refine r_aaload hK rfl ar_29 rfl d_Ru_compareRows_67 h (fun p4 h => ?_)
      refine r_gR hK fd_Rl_1 w1_129 d_Ru_compareRows_68 h (fun p5 h => ?_)
      refine r_astore_n (ls1 := [(3, g_r 21 p5), (0, g_r 4 r0), (1, g_i x1), (2, g_i x2)]) hK d_Ru_compareRows_71 rfl (by rw [hN]; decide) rfl ?_
      refine r_iconst (v := 0) hK d_Ru_compareRows_72 (by decide) ?_
      refine r_istore (ls1 := [(4, g_i 0), (3, g_r 21 p5), (0, g_r 4 r0), (1, g_i x1), (2, g_i x2)]) hK d_Ru_compareRows_73 (by rw [hN]; decide) rfl ?_
      exact r_sub [2, 3, 4, 1, 0] rfl (t_Ru_compareRows_75 hK hN hD _ _ _ _ _ _ _ h)
    · refine r_aload_n hK d_Ru_compareRows_13 rfl 0 rfl ?_
      refine r_aload_n hK d_Ru_compareRows_14 rfl 0 rfl ?_
      refine r_gR hK fd_Ru_7 w1_164 d_Ru_compareRows_15 h (fun p6 h => ?_)
      refine r_gR hK fd_Qu_4 w3_37 d_Ru_compareRows_18 h (fun p7 h => ?_)
      refine r_iload_n hK d_Ru_compareRows_21 rfl 3 rfl ?_
      refine r_aaload hK rfl ar_26 rfl d_Ru_compareRows_22 h (fun p8 h => ?_)
      refine r_aload_n hK d_Ru_compareRows_23 rfl 0 rfl ?_
      refine r_gR hK fd_Ru_3 w1_160 d_Ru_compareRows_24 h (fun p9 h => ?_)
      refine r_iload_n hK d_Ru_compareRows_27 rfl 1 rfl ?_
      refine r_iconst (v := 2) hK d_Ru_compareRows_28 (by decide) ?_
      refine r_imul hK d_Ru_compareRows_29 ?_
      refine r_iload_n hK d_Ru_compareRows_30 rfl 3 rfl ?_
      refine r_iadd hK d_Ru_compareRows_31 ?_
      refine r_laload hK ar_21 rfl d_Ru_compareRows_32 h (fun j10 h => ?_)
      refine r_aload_n hK d_Ru_compareRows_33 rfl 0 rfl ?_
      refine r_gR hK fd_Ru_3 w1_160 d_Ru_compareRows_34 h (fun p11 h => ?_)
      refine r_iload_n hK d_Ru_compareRows_37 rfl 2 rfl ?_
      refine r_iconst (v := 2) hK d_Ru_compareRows_38 (by decide) ?_
      refine r_imul hK d_Ru_compareRows_39 ?_
      refine r_iload_n hK d_Ru_compareRows_40 rfl 3 rfl ?_
      refine r_iadd hK d_Ru_compareRows_41 ?_
      refine r_laload hK ar_21 rfl d_Ru_compareRows_42 h (fun j12 h => ?_)
      refine r_Vi (avL := [g_r 11 p8, g_l j10, g_l j12]) (st := []) hK ob_Ru rfl w6_198 w6_199 w6_197 w6_200 w1_4 (by decide) pl_Ru_compareKeys (by rw [hD]; decide) (Nat.le_of_ble_eq_true rfl) rfl d_Ru_compareRows_43 (fun o9 h9 => c_Ru_compareKeys _ _ _ _ _ _ _ o9 h9) h (fun i13 s14 h => ?_)
      refine r_istore (ls1 := [(4, g_i i13), (0, g_r 4 r0), (1, g_i x1), (2, g_i x2), (3, g_i x3)]) hK d_Ru_compareRows_46 (by rw [hN]; decide) rfl ?_
      refine r_iload hK d_Ru_compareRows_48 0 rfl ?_
      refine r_ifeq (tgt := 56) hK d_Ru_compareRows_50 (by decide) h (fun h => ?_) (fun h => ?_)
      · refine r_iinc (ls1 := [(3, g_i (x3 + 1)), (4, g_i i13), (0, g_r 4 r0), (1, g_i x1), (2, g_i x2)]) hK d_Ru_compareRows_56 4 rfl rfl (by rw [hN]; decide) rfl ?_
        refine r_goto (tgt := 2) hK d_Ru_compareRows_59 (by decide) ?_
        exact r_sub [2, 3, 4, 0] rfl (ih _ _ _ _ _ h)
      · refine r_iload hK d_Ru_compareRows_53 0 rfl ?_
        exact r_ireturn hK d_Ru_compareRows_55 h
set_option maxHeartbeats 4000000 in
set_option maxRecDepth 100000 in
theorem t_Ru_compareRows_0 {K : g_C} {o : (Int32 × g_St)} (hK : g_OK K b_Ru_compareRows "FixpointEngine$Runner" "compareRows" (Option.some Jvm.ClassFile.FieldType.int)) (hN : g_nL K = 6) (hD : g_Kd K = 9) : ∀ (r0 : Option Nat) (x1 : Int32) (x2 : Int32) (s0 : g_St), f_Ru_compareRows r0 x1 x2 s0 = some o → g_W K s0 [(0, g_r 4 r0), (1, g_i x1), (2, g_i x2)] [] 0 (g_jI o) := by
  intro r0 x1 x2 s0 h
  unfold f_Ru_compareRows at h
  refine r_iconst (v := 0) hK d_Ru_compareRows_0 (by decide) ?_
  refine r_istore_n (ls1 := [(3, g_i 0), (0, g_r 4 r0), (1, g_i x1), (2, g_i x2)]) hK d_Ru_compareRows_1 rfl (by rw [hN]; decide) rfl ?_
  exact r_sub [1, 2, 3, 0] rfl (t_Ru_compareRows_2 hK hN hD _ _ _ _ _ _ h)
theorem c_Ru_compareRows (l : Launch) (G : g_G) (r0 : Option Nat) (x1 : Int32) (x2 : Int32) (u : g_St) (o : (Int32 × g_St)) (h : f_Ru_compareRows r0 x1 x2 u = some o) : g_Con l G y_Ru_compareRows b_Ru_compareRows 6 (Option.some Jvm.ClassFile.FieldType.int) 9 [g_r 4 r0, g_i x1, g_i x2] u (g_jI o) :=
  g_Con.of rfl rfl (by decide +kernel) (Nat.le_of_ble_eq_true rfl) (fun K hK hN hD hX => t_Ru_compareRows_0 hK hN hD _ _ _ _ h)
def f_Ru_sort_19 (k9 : Option Nat → Option Nat → Int32 → g_St → Option (Unit × g_St)) : Nat → Option Nat → Option Nat → Int32 → Int32 → g_St → Option (Unit × g_St)
  | 0, _, _, _, _, _ => none
  | n + 1, r0, r1, x2, x3, s0 =>
    if x3 ≤ 0 then
      g_gR s0 132 r0 fun p1 =>
      g_sI s0 p1 x3 x2 fun s2 =>
      k9 r0 r1 (x2 + 1) s2
    else
      g_gR s0 132 r0 fun p3 =>
      g_aI s0 p3 (x3 - 1) fun i4 =>
      g_c (g_nn r0 (f_Ru_compareRows r0 x2 i4 s0)) fun i5 s6 =>
      if 0 ≤ i5 then
        g_gR s6 132 r0 fun p7 =>
        g_sI s6 p7 x3 x2 fun s8 =>
        k9 r0 r1 (x2 + 1) s8
      else
        g_gR s6 132 r0 fun p9 =>
        g_gR s6 132 r0 fun p10 =>
        g_aI s6 p10 (x3 - 1) fun i11 =>
        g_sI s6 p9 x3 i11 fun s12 =>
        f_Ru_sort_19 k9 n r0 r1 x2 (x3 + (-1)) s12
def f_Ru_sort_9 : Nat → Option Nat → Option Nat → Int32 → g_St → Option (Unit × g_St)
  | 0, _, _, _, _ => none
  | n + 1, r0, r1, x2, s0 =>
    g_gI s0 261 r1 fun i1 =>
    if i1 ≤ x2 then
      some ((), s0)
    else
      f_Ru_sort_19 (f_Ru_sort_9 n) 200000 r0 r1 x2 x2 s0
def f_Ru_sort (r0 : Option Nat) (s0 : g_St) : Option (Unit × g_St) :=
  g_gR s0 4 r0 fun p1 =>
  g_aR s0 p1 4 fun p2 =>
  f_Ru_sort_9 200000 r0 p2 0 s0
set_option maxHeartbeats 4000000 in
set_option maxRecDepth 100000 in
theorem t_Ru_sort_19 {K : g_C} {o : (Unit × g_St)} (hK : g_OK K b_Ru_sort "FixpointEngine$Runner" "sort" (Option.none : Option Jvm.ClassFile.FieldType)) (hN : g_nL K = 4) (hD : g_Kd K = 10) {k9 : Option Nat → Option Nat → Int32 → g_St → Option (Unit × g_St)} (hk9 : ∀ (r0 : Option Nat) (r1 : Option Nat) (x2 : Int32) (s0 : g_St), k9 r0 r1 x2 s0 = some o → g_W K s0 [(0, g_r 4 r0), (1, g_r 5 r1), (2, g_i x2)] [] 9 (g_jV o)) : ∀ (n : Nat) (r0 : Option Nat) (r1 : Option Nat) (x2 : Int32) (x3 : Int32) (s0 : g_St), f_Ru_sort_19 k9 n r0 r1 x2 x3 s0 = some o → g_W K s0 [(0, g_r 4 r0), (1, g_r 5 r1), (2, g_i x2), (3, g_i x3)] [] 19 (g_jV o) := by
  intro n
  induction n with
  | zero =>
    intro r0 r1 x2 x3 s0 h
    cases h
  | succ n ih =>
    intro r0 r1 x2 x3 s0 h
    unfold f_Ru_sort_19 at h
    refine r_iload_n hK d_Ru_sort_19 rfl 3 rfl ?_
    refine r_ifle (tgt := 59) hK d_Ru_sort_20 (by decide) h (fun h => ?_) (fun h => ?_)
    · refine r_aload_n hK d_Ru_sort_59 rfl 0 rfl ?_
      refine r_gR hK fd_Ru_2 w1_158 d_Ru_sort_60 h (fun p1 h => ?_)
      refine r_iload_n hK d_Ru_sort_63 rfl 3 rfl ?_
      refine r_iload_n hK d_Ru_sort_64 rfl 2 rfl ?_
      refine r_iastore hK ar_20 rfl d_Ru_sort_65 h (fun s2 h => ?_)
      refine r_iinc (ls1 := [(2, g_i (x2 + 1)), (0, g_r 4 r0), (1, g_r 5 r1), (3, g_i x3)]) hK d_Ru_sort_66 2 rfl rfl (by rw [hN]; decide) rfl ?_
      refine r_goto (tgt := 9) hK d_Ru_sort_69 (by decide) ?_
      exact r_sub [1, 2, 0] rfl (hk9 _ _ _ _ h)
    · refine r_aload_n hK d_Ru_sort_23 rfl 0 rfl ?_
      refine r_iload_n hK d_Ru_sort_24 rfl 2 rfl ?_
      refine r_aload_n hK d_Ru_sort_25 rfl 0 rfl ?_
      refine r_gR hK fd_Ru_2 w1_158 d_Ru_sort_26 h (fun p3 h => ?_)
      refine r_iload_n hK d_Ru_sort_29 rfl 3 rfl ?_
      refine r_iconst (v := 1) hK d_Ru_sort_30 (by decide) ?_
      refine r_isub hK d_Ru_sort_31 ?_
      refine r_iaload hK ar_20 rfl d_Ru_sort_32 h (fun i4 h => ?_)
      refine r_Vi (avL := [g_i x2, g_i i4]) (st := []) hK ob_Ru rfl w6_194 w6_195 w6_193 w6_196 w1_4 (by decide) pl_Ru_compareRows (by rw [hD]; decide) (Nat.le_of_ble_eq_true rfl) rfl d_Ru_sort_33 (fun o9 h9 => c_Ru_compareRows _ _ _ _ _ _ o9 h9) h (fun i5 s6 h => ?_)
      refine r_ifge (tgt := 59) hK d_Ru_sort_36 (by decide) h (fun h => ?_) (fun h => ?_)
      · refine r_aload_n hK d_Ru_sort_59 rfl 0 rfl ?_
        refine r_gR hK fd_Ru_2 w1_158 d_Ru_sort_60 h (fun p7 h => ?_)
        refine r_iload_n hK d_Ru_sort_63 rfl 3 rfl ?_
        refine r_iload_n hK d_Ru_sort_64 rfl 2 rfl ?_
        refine r_iastore hK ar_20 rfl d_Ru_sort_65 h (fun s8 h => ?_)
        refine r_iinc (ls1 := [(2, g_i (x2 + 1)), (0, g_r 4 r0), (1, g_r 5 r1), (3, g_i x3)]) hK d_Ru_sort_66 2 rfl rfl (by rw [hN]; decide) rfl ?_
        refine r_goto (tgt := 9) hK d_Ru_sort_69 (by decide) ?_
        exact r_sub [1, 2, 0] rfl (hk9 _ _ _ _ h)
      · refine r_aload_n hK d_Ru_sort_39 rfl 0 rfl ?_
        refine r_gR hK fd_Ru_2 w1_158 d_Ru_sort_40 h (fun p9 h => ?_)
        refine r_iload_n hK d_Ru_sort_43 rfl 3 rfl ?_
        refine r_aload_n hK d_Ru_sort_44 rfl 0 rfl ?_
        refine r_gR hK fd_Ru_2 w1_158 d_Ru_sort_45 h (fun p10 h => ?_)
        refine r_iload_n hK d_Ru_sort_48 rfl 3 rfl ?_
        refine r_iconst (v := 1) hK d_Ru_sort_49 (by decide) ?_
        refine r_isub hK d_Ru_sort_50 ?_
        refine r_iaload hK ar_20 rfl d_Ru_sort_51 h (fun i11 h => ?_)
        refine r_iastore hK ar_20 rfl d_Ru_sort_52 h (fun s12 h => ?_)
        refine r_iinc (ls1 := [(3, g_i (x3 + (-1))), (0, g_r 4 r0), (1, g_r 5 r1), (2, g_i x2)]) hK d_Ru_sort_53 3 rfl rfl (by rw [hN]; decide) rfl ?_
        refine r_goto (tgt := 19) hK d_Ru_sort_56 (by decide) ?_
        exact r_sub [1, 2, 3, 0] rfl (ih _ _ _ _ _ h)
set_option maxHeartbeats 4000000 in
set_option maxRecDepth 100000 in
theorem t_Ru_sort_9 {K : g_C} {o : (Unit × g_St)} (hK : g_OK K b_Ru_sort "FixpointEngine$Runner" "sort" (Option.none : Option Jvm.ClassFile.FieldType)) (hN : g_nL K = 4) (hD : g_Kd K = 10) : ∀ (n : Nat) (r0 : Option Nat) (r1 : Option Nat) (x2 : Int32) (s0 : g_St), f_Ru_sort_9 n r0 r1 x2 s0 = some o → g_W K s0 [(0, g_r 4 r0), (1, g_r 5 r1), (2, g_i x2)] [] 9 (g_jV o) := by
  intro n
  induction n with
  | zero =>
    intro r0 r1 x2 s0 h
    cases h
  | succ n ih =>
    intro r0 r1 x2 s0 h
    unfold f_Ru_sort_9 at h
    refine r_iload_n hK d_Ru_sort_9 rfl 2 rfl ?_
    refine r_aload_n hK d_Ru_sort_10 rfl 1 rfl ?_
    refine r_gI hK fd_Rl_4 w1_134 d_Ru_sort_11 h (fun i1 h => ?_)
    refine r_if_icmpge (tgt := 72) hK d_Ru_sort_14 (by decide) h (fun h => ?_) (fun h => ?_)
    · exact r_return hK d_Ru_sort_72 h
    · refine r_iload_n hK d_Ru_sort_17 rfl 2 rfl ?_
      refine r_istore_n (ls1 := [(3, g_i x2), (0, g_r 4 r0), (1, g_r 5 r1), (2, g_i x2)]) hK d_Ru_sort_18 rfl (by rw [hN]; decide) rfl ?_
      exact r_sub [1, 2, 3, 0] rfl (t_Ru_sort_19 hK hN hD ih _ _ _ _ _ _ h)
set_option maxHeartbeats 4000000 in
set_option maxRecDepth 100000 in
theorem t_Ru_sort_0 {K : g_C} {o : (Unit × g_St)} (hK : g_OK K b_Ru_sort "FixpointEngine$Runner" "sort" (Option.none : Option Jvm.ClassFile.FieldType)) (hN : g_nL K = 4) (hD : g_Kd K = 10) : ∀ (r0 : Option Nat) (s0 : g_St), f_Ru_sort r0 s0 = some o → g_W K s0 [(0, g_r 4 r0)] [] 0 (g_jV o) := by
  intro r0 s0 h
  unfold f_Ru_sort at h
  refine r_aload_n hK d_Ru_sort_0 rfl 0 rfl ?_
  refine r_gR hK fd_Ru_0 w1_154 d_Ru_sort_1 h (fun p1 h => ?_)
  refine r_iconst (v := 4) hK d_Ru_sort_4 (by decide) ?_
  refine r_aaload hK rfl ar_29 rfl d_Ru_sort_5 h (fun p2 h => ?_)
  refine r_astore_n (ls1 := [(1, g_r 5 p2), (0, g_r 4 r0)]) hK d_Ru_sort_6 rfl (by rw [hN]; decide) rfl ?_
  refine r_iconst (v := 0) hK d_Ru_sort_7 (by decide) ?_
  refine r_istore_n (ls1 := [(2, g_i 0), (1, g_r 5 p2), (0, g_r 4 r0)]) hK d_Ru_sort_8 rfl (by rw [hN]; decide) rfl ?_
  exact r_sub [2, 1, 0] rfl (t_Ru_sort_9 hK hN hD _ _ _ _ _ h)
theorem c_Ru_sort (l : Launch) (G : g_G) (r0 : Option Nat) (u : g_St) (o : (Unit × g_St)) (h : f_Ru_sort r0 u = some o) : g_Con l G y_Ru_sort b_Ru_sort 4 (Option.none : Option Jvm.ClassFile.FieldType) 10 [g_r 4 r0] u (g_jV o) :=
  g_Con.of rfl rfl (by decide +kernel) (Nat.le_of_ble_eq_true rfl) (fun K hK hN hD hX => t_Ru_sort_0 hK hN hD _ _ h)
