def f_M_readSelection_255 (k209 : Option Nat → Int32 → Int32 → g_St → Option (Unit × g_St)) (r0 : Option Nat) (x2 : Int32) (r0s : Option Nat) (x1s : Int32) (x2s : Int32) (s0 : g_St) : Option (Unit × g_St) :=
  g_sI s0 r0s x1s x2s fun s1 =>
  g_gR s1 2625 r0 fun p2 =>
  g_aI s1 p2 x2 fun i3 =>
  g_sI s1 p2 x2 (i3 + 1) fun s4 =>
  g_gR s4 2625 r0 fun p5 =>
  g_aI s4 p5 x2 fun i6 =>
  if 6 ≤ i6 then
    k209 r0 x2 0 s4
  else
    g_c (g_nn r0 (f_M_skip r0 7 s4)) fun i7 s8 =>
    if i7 = 0 then
      k209 r0 x2 0 s8
    else
      k209 r0 x2 1 s8
def f_M_readSelection_209 : Nat → Option Nat → Int32 → Int32 → g_St → Option (Unit × g_St)
  | 0, _, _, _, _ => none
  | n + 1, r0, x2, x3, s0 =>
    if x3 = 0 then
      g_gI s0 2177 r0 fun i1 =>
      g_pI s0 2177 r0 (i1 + 1) fun s2 =>
      some ((), s2)
    else
      g_c (g_nn r0 (f_M_bad r0 s0)) fun i3 s4 =>
      if i3 = 0 then
        g_gR s4 2689 r0 fun p7 =>
        g_gR s4 2625 r0 fun p8 =>
        g_aI s4 p8 x2 fun i9 =>
        g_c (g_nn r0 (f_M_is r0 8 s4)) fun i10 s11 =>
        if i10 = 0 then
          g_c (g_nn r0 (f_M_readCondition r0 s11)) fun i12 s13 =>
          f_M_readSelection_255 (f_M_readSelection_209 n) r0 x2 p7 ((6 * x2) + i9) i12 s13
        else
          g_c (g_nn r0 (f_M_readNotExists r0 s11)) fun i14 s15 =>
          f_M_readSelection_255 (f_M_readSelection_209 n) r0 x2 p7 ((6 * x2) + i9) i14 s15
      else
        g_gI s4 2177 r0 fun i5 =>
        g_pI s4 2177 r0 (i5 + 1) fun s6 =>
        some ((), s6)
def f_M_readSelection_191 (r0 : Option Nat) (x2 : Int32) (s0 : g_St) : Option (Unit × g_St) :=
  g_gR s0 2625 r0 fun p1 =>
  g_sI s0 p1 x2 0 fun s2 =>
  g_c (g_nn r0 (f_M_skip r0 6 s2)) fun i3 s4 =>
  if i3 = 0 then
    g_gI s4 2177 r0 fun i5 =>
    g_pI s4 2177 r0 (i5 + 1) fun s6 =>
    some ((), s6)
  else
    f_M_readSelection_209 200000 r0 x2 1 s4
def f_M_readSelection_138 : Nat → Option Nat → Int32 → Int32 → g_St → Option (Unit × g_St)
  | 0, _, _, _, _ => none
  | n + 1, r0, x2, x3, s0 =>
    if x3 = 0 then
      f_M_readSelection_191 r0 x2 s0
    else
      g_c (g_nn r0 (f_M_bad r0 s0)) fun i1 s2 =>
      if i1 = 0 then
        g_c (g_nn r0 (f_M_readSource r0 s2)) fun _ s4 =>
        g_gR s4 2561 r0 fun p5 =>
        g_aI s4 p5 x2 fun i6 =>
        g_sI s4 p5 x2 (i6 + 1) fun s7 =>
        g_gR s7 2561 r0 fun p8 =>
        g_aI s7 p8 x2 fun i9 =>
        if 3 ≤ i9 then
          f_M_readSelection_138 n r0 x2 0 s7
        else
          g_c (g_nn r0 (f_M_skipSign r0 44 s7)) fun i10 s11 =>
          if i10 = 0 then
            f_M_readSelection_138 n r0 x2 0 s11
          else
            f_M_readSelection_138 n r0 x2 1 s11
      else
        f_M_readSelection_191 r0 x2 s2
def f_M_readSelection_111 (r0 : Option Nat) (x2 : Int32) (s0 : g_St) : Option (Unit × g_St) :=
  g_gR s0 2497 r0 fun p1 =>
  g_gI s0 3585 r0 fun i2 =>
  g_sI s0 p1 x2 i2 fun s3 =>
  g_gR s3 2561 r0 fun p4 =>
  g_sI s3 p4 x2 0 fun s5 =>
  g_c (g_nn r0 (f_M_skip r0 5 s5)) fun i6 s7 =>
  if i6 = 0 then
    f_M_readSelection_191 r0 x2 s7
  else
    f_M_readSelection_138 200000 r0 x2 1 s7
def f_M_readSelection_67 : Nat → Option Nat → Int32 → Int32 → g_St → Option (Unit × g_St)
  | 0, _, _, _, _ => none
  | n + 1, r0, x2, x3, s0 =>
    if x3 = 0 then
      f_M_readSelection_111 r0 x2 s0
    else
      g_c (g_nn r0 (f_M_bad r0 s0)) fun i1 s2 =>
      if i1 = 0 then
        g_c (g_nn r0 (f_M_readItem r0 x2 s2)) fun _ s4 =>
        g_gR s4 2433 r0 fun p5 =>
        g_aI s4 p5 x2 fun i6 =>
        if 4 ≤ i6 then
          f_M_readSelection_67 n r0 x2 0 s4
        else
          g_c (g_nn r0 (f_M_skipSign r0 44 s4)) fun i7 s8 =>
          if i7 = 0 then
            f_M_readSelection_67 n r0 x2 0 s8
          else
            f_M_readSelection_67 n r0 x2 1 s8
      else
        f_M_readSelection_111 r0 x2 s2
def f_M_readSelection (r0 : Option Nat) (x1 : Int32) (s0 : g_St) : Option (Unit × g_St) :=
  g_c (g_nn r0 (f_M_bad r0 s0)) fun i1 s2 =>
  if i1 = 0 then
    g_gI s2 2177 r0 fun i3 =>
    g_gR s2 2241 r0 fun p4 =>
    g_sI s2 p4 i3 x1 fun s5 =>
    g_gR s5 2305 r0 fun p6 =>
    g_gR s5 705 r0 fun p7 =>
    g_gI s5 577 r0 fun i8 =>
    g_aI s5 p7 i8 fun i9 =>
    g_sI s5 p6 i3 i9 fun s10 =>
    g_c (g_nn r0 (f_M_need r0 4 s10)) fun i11 s12 =>
    g_gR s12 2369 r0 fun p13 =>
    g_gI s12 2817 r0 fun i14 =>
    g_sI s12 p13 i3 i14 fun s15 =>
    g_gR s15 2433 r0 fun p16 =>
    g_sI s15 p16 i3 0 fun s17 =>
    g_gR s17 2753 r0 fun p18 =>
    g_sZ s17 p18 i3 0 fun s19 =>
    f_M_readSelection_67 200000 r0 i3 1 s19
  else
    some ((), s2)
set_option maxHeartbeats 4000000 in
set_option maxRecDepth 100000 in
theorem t_M_readSelection_255 {K : g_C} {o : (Unit × g_St)} (hK : g_OK K b_M_readSelection "FixpointEngineModel" "readSelection" (Option.none : Option Jvm.ClassFile.FieldType)) (hN : g_nL K = 4) (hD : g_Kd K = 9) {k209 : Option Nat → Int32 → Int32 → g_St → Option (Unit × g_St)} (hk209 : ∀ (r0 : Option Nat) (x2 : Int32) (x3 : Int32) (s0 : g_St), k209 r0 x2 x3 s0 = some o → g_W K s0 [(0, g_r 1 r0), (2, g_i x2), (3, g_i x3)] [] 209 (g_jV o)) : ∀ (r0 : Option Nat) (x2 : Int32) (r0s : Option Nat) (x1s : Int32) (x2s : Int32) (s0 : g_St), f_M_readSelection_255 k209 r0 x2 r0s x1s x2s s0 = some o → g_W K s0 [(0, g_r 1 r0), (2, g_i x2)] [g_i x2s, g_i x1s, g_r 20 r0s] 255 (g_jV o) := by
  intro r0 x2 r0s x1s x2s s0 h
  unfold f_M_readSelection_255 at h
  refine r_iastore hK ar_20 rfl d_M_readSelection_255 h (fun s1 h => ?_)
  refine r_aload_n hK d_M_readSelection_256 rfl 0 rfl ?_
  refine r_gR hK fd_M_41 w7_73 d_M_readSelection_257 h (fun p2 h => ?_)
  refine r_iload_n hK d_M_readSelection_260 rfl 1 rfl ?_
  refine r_dup2_11 hK d_M_readSelection_261 rfl rfl ?_
  refine r_iaload hK ar_20 rfl d_M_readSelection_262 h (fun i3 h => ?_)
  refine r_iconst (v := 1) hK d_M_readSelection_263 (by decide) ?_
  refine r_iadd hK d_M_readSelection_264 ?_
  refine r_iastore hK ar_20 rfl d_M_readSelection_265 h (fun s4 h => ?_)
  refine r_aload_n hK d_M_readSelection_266 rfl 0 rfl ?_
  refine r_gR hK fd_M_41 w7_73 d_M_readSelection_267 h (fun p5 h => ?_)
  refine r_iload_n hK d_M_readSelection_270 rfl 1 rfl ?_
  refine r_iaload hK ar_20 rfl d_M_readSelection_271 h (fun i6 h => ?_)
  refine r_bipush (v := 6) hK d_M_readSelection_272 (by decide) ?_
  refine r_if_icmpge (tgt := 290) hK d_M_readSelection_274 (by decide) h (fun h => ?_) (fun h => ?_)
  · refine r_iconst (v := 0) hK d_M_readSelection_290 (by decide) ?_
    refine r_istore_n (ls1 := [(3, g_i 0), (0, g_r 1 r0), (2, g_i x2)]) hK d_M_readSelection_291 rfl (by rw [hN]; decide) rfl ?_
    refine r_goto (tgt := 209) hK d_M_readSelection_292 (by decide) ?_
    exact r_sub [1, 2, 0] rfl (hk209 _ _ _ _ h)
  · refine r_aload_n hK d_M_readSelection_277 rfl 0 rfl ?_
    refine r_bipush (v := 7) hK d_M_readSelection_278 (by decide) ?_
    refine r_Vi (avL := [g_i 7]) (st := []) hK ob_M rfl w8_170 wp_12 w8_168 w8_171 w1_6 (by decide) pl_M_skip (by rw [hD]; decide) (Nat.le_of_ble_eq_true rfl) rfl d_M_readSelection_280 (fun o9 h9 => c_M_skip _ _ _ _ _ o9 h9) h (fun i7 s8 h => ?_)
    refine r_ifeq (tgt := 290) hK d_M_readSelection_283 (by decide) h (fun h => ?_) (fun h => ?_)
    · refine r_iconst (v := 0) hK d_M_readSelection_290 (by decide) ?_
      refine r_istore_n (ls1 := [(3, g_i 0), (0, g_r 1 r0), (2, g_i x2)]) hK d_M_readSelection_291 rfl (by rw [hN]; decide) rfl ?_
      refine r_goto (tgt := 209) hK d_M_readSelection_292 (by decide) ?_
      exact r_sub [1, 2, 0] rfl (hk209 _ _ _ _ h)
    · refine r_iconst (v := 1) hK d_M_readSelection_286 (by decide) ?_
      refine r_goto (tgt := 291) hK d_M_readSelection_287 (by decide) ?_
      refine r_istore_n (ls1 := [(3, g_i 1), (0, g_r 1 r0), (2, g_i x2)]) hK d_M_readSelection_291 rfl (by rw [hN]; decide) rfl ?_
      refine r_goto (tgt := 209) hK d_M_readSelection_292 (by decide) ?_
      exact r_sub [1, 2, 0] rfl (hk209 _ _ _ _ h)
set_option maxHeartbeats 4000000 in
set_option maxRecDepth 100000 in
theorem t_M_readSelection_209 {K : g_C} {o : (Unit × g_St)} (hK : g_OK K b_M_readSelection "FixpointEngineModel" "readSelection" (Option.none : Option Jvm.ClassFile.FieldType)) (hN : g_nL K = 4) (hD : g_Kd K = 9) : ∀ (n : Nat) (r0 : Option Nat) (x2 : Int32) (x3 : Int32) (s0 : g_St), f_M_readSelection_209 n r0 x2 x3 s0 = some o → g_W K s0 [(0, g_r 1 r0), (2, g_i x2), (3, g_i x3)] [] 209 (g_jV o) := by
  intro n
  induction n with
  | zero =>
    intro r0 x2 x3 s0 h
    cases h
  | succ n ih =>
    intro r0 x2 x3 s0 h
    unfold f_M_readSelection_209 at h
    refine r_iload_n hK d_M_readSelection_209 rfl 2 rfl ?_
    refine r_ifeq (tgt := 295) hK d_M_readSelection_210 (by decide) h (fun h => ?_) (fun h => ?_)
    · refine r_aload_n hK d_M_readSelection_295 rfl 0 rfl ?_
      refine r_dup hK d_M_readSelection_296 rfl ?_
      refine r_gI hK fd_M_34 w7_66 d_M_readSelection_297 h (fun i1 h => ?_)
      refine r_iconst (v := 1) hK d_M_readSelection_300 (by decide) ?_
      refine r_iadd hK d_M_readSelection_301 ?_
      refine r_pI hK fd_M_34 rfl w7_66 d_M_readSelection_302 h (fun s2 h => ?_)
      exact r_return hK d_M_readSelection_305 h
    · refine r_aload_n hK d_M_readSelection_213 rfl 0 rfl ?_
      refine r_Vi (avL := []) (st := []) hK ob_M rfl w8_178 wp_14 w8_176 w8_179 w1_6 (by decide) pl_M_bad (by rw [hD]; decide) (Nat.le_of_ble_eq_true rfl) rfl d_M_readSelection_214 (fun o9 h9 => c_M_bad _ _ _ _ o9 h9) h (fun i3 s4 h => ?_)
      refine r_ifne (tgt := 295) hK d_M_readSelection_217 (by decide) h (fun h => ?_) (fun h => ?_)
      · refine r_aload_n hK d_M_readSelection_295 rfl 0 rfl ?_
        refine r_dup hK d_M_readSelection_296 rfl ?_
        refine r_gI hK fd_M_34 w7_66 d_M_readSelection_297 h (fun i5 h => ?_)
        refine r_iconst (v := 1) hK d_M_readSelection_300 (by decide) ?_
        refine r_iadd hK d_M_readSelection_301 ?_
        refine r_pI hK fd_M_34 rfl w7_66 d_M_readSelection_302 h (fun s6 h => ?_)
        exact r_return hK d_M_readSelection_305 h
      · refine r_aload_n hK d_M_readSelection_220 rfl 0 rfl ?_
        refine r_gR hK fd_M_42 w7_74 d_M_readSelection_221 h (fun p7 h => ?_)
        refine r_bipush (v := 6) hK d_M_readSelection_224 (by decide) ?_
        refine r_iload_n hK d_M_readSelection_226 rfl 1 rfl ?_
        refine r_imul hK d_M_readSelection_227 ?_
        refine r_aload_n hK d_M_readSelection_228 rfl 0 rfl ?_
        refine r_gR hK fd_M_41 w7_73 d_M_readSelection_229 h (fun p8 h => ?_)
        refine r_iload_n hK d_M_readSelection_232 rfl 1 rfl ?_
        refine r_iaload hK ar_20 rfl d_M_readSelection_233 h (fun i9 h => ?_)
        refine r_iadd hK d_M_readSelection_234 ?_
        refine r_aload_n hK d_M_readSelection_235 rfl 0 rfl ?_
        refine r_bipush (v := 8) hK d_M_readSelection_236 (by decide) ?_
        refine r_Vi (avL := [g_i 8]) (st := [g_i ((6 * x2) + i9), g_r 20 p7]) hK ob_M rfl w8_174 wp_13 w8_172 w8_175 w1_6 (by decide) pl_M_is (by rw [hD]; decide) (Nat.le_of_ble_eq_true rfl) rfl d_M_readSelection_238 (fun o9 h9 => c_M_is _ _ _ _ _ o9 h9) h (fun i10 s11 h => ?_)
        refine r_ifeq (tgt := 251) hK d_M_readSelection_241 (by decide) h (fun h => ?_) (fun h => ?_)
        · refine r_aload_n hK d_M_readSelection_251 rfl 0 rfl ?_
          refine r_Vi (avL := []) (st := [g_i ((6 * x2) + i9), g_r 20 p7]) hK ob_M rfl w8_230 wp_27 w8_228 w8_231 w1_6 (by decide) pl_M_readCondition (by rw [hD]; decide) (Nat.le_of_ble_eq_true rfl) rfl d_M_readSelection_252 (fun o9 h9 => c_M_readCondition _ _ _ _ o9 h9) h (fun i12 s13 h => ?_)
          exact r_sub [0, 1] rfl (t_M_readSelection_255 hK hN hD ih _ _ _ _ _ _ h)
        · refine r_aload_n hK d_M_readSelection_244 rfl 0 rfl ?_
          refine r_Vi (avL := []) (st := [g_i ((6 * x2) + i9), g_r 20 p7]) hK ob_M rfl w8_226 wp_26 w8_224 w8_227 w1_6 (by decide) pl_M_readNotExists (by rw [hD]; decide) (Nat.le_of_ble_eq_true rfl) rfl d_M_readSelection_245 (fun o9 h9 => c_M_readNotExists _ _ _ _ o9 h9) h (fun i14 s15 h => ?_)
          refine r_goto (tgt := 255) hK d_M_readSelection_248 (by decide) ?_
          exact r_sub [0, 1] rfl (t_M_readSelection_255 hK hN hD ih _ _ _ _ _ _ h)
set_option maxHeartbeats 4000000 in
set_option maxRecDepth 100000 in
theorem t_M_readSelection_191 {K : g_C} {o : (Unit × g_St)} (hK : g_OK K b_M_readSelection "FixpointEngineModel" "readSelection" (Option.none : Option Jvm.ClassFile.FieldType)) (hN : g_nL K = 4) (hD : g_Kd K = 9) : ∀ (r0 : Option Nat) (x2 : Int32) (s0 : g_St), f_M_readSelection_191 r0 x2 s0 = some o → g_W K s0 [(0, g_r 1 r0), (2, g_i x2)] [] 191 (g_jV o) := by
  intro r0 x2 s0 h
  unfold f_M_readSelection_191 at h
  refine r_aload_n hK d_M_readSelection_191 rfl 0 rfl ?_
  refine r_gR hK fd_M_41 w7_73 d_M_readSelection_192 h (fun p1 h => ?_)
  refine r_iload_n hK d_M_readSelection_195 rfl 1 rfl ?_
  refine r_iconst (v := 0) hK d_M_readSelection_196 (by decide) ?_
  refine r_iastore hK ar_20 rfl d_M_readSelection_197 h (fun s2 h => ?_)
  refine r_aload_n hK d_M_readSelection_198 rfl 0 rfl ?_
  refine r_bipush (v := 6) hK d_M_readSelection_199 (by decide) ?_
  refine r_Vi (avL := [g_i 6]) (st := []) hK ob_M rfl w8_170 wp_12 w8_168 w8_171 w1_6 (by decide) pl_M_skip (by rw [hD]; decide) (Nat.le_of_ble_eq_true rfl) rfl d_M_readSelection_201 (fun o9 h9 => c_M_skip _ _ _ _ _ o9 h9) h (fun i3 s4 h => ?_)
  refine r_ifeq (tgt := 295) hK d_M_readSelection_204 (by decide) h (fun h => ?_) (fun h => ?_)
  · refine r_aload_n hK d_M_readSelection_295 rfl 0 rfl ?_
    refine r_dup hK d_M_readSelection_296 rfl ?_
    refine r_gI hK fd_M_34 w7_66 d_M_readSelection_297 h (fun i5 h => ?_)
    refine r_iconst (v := 1) hK d_M_readSelection_300 (by decide) ?_
    refine r_iadd hK d_M_readSelection_301 ?_
    refine r_pI hK fd_M_34 rfl w7_66 d_M_readSelection_302 h (fun s6 h => ?_)
    exact r_return hK d_M_readSelection_305 h
  · refine r_iconst (v := 1) hK d_M_readSelection_207 (by decide) ?_
    refine r_istore_n (ls1 := [(3, g_i 1), (0, g_r 1 r0), (2, g_i x2)]) hK d_M_readSelection_208 rfl (by rw [hN]; decide) rfl ?_
    exact r_sub [1, 2, 0] rfl (t_M_readSelection_209 hK hN hD _ _ _ _ _ h)
set_option maxHeartbeats 4000000 in
set_option maxRecDepth 100000 in
theorem t_M_readSelection_138 {K : g_C} {o : (Unit × g_St)} (hK : g_OK K b_M_readSelection "FixpointEngineModel" "readSelection" (Option.none : Option Jvm.ClassFile.FieldType)) (hN : g_nL K = 4) (hD : g_Kd K = 9) : ∀ (n : Nat) (r0 : Option Nat) (x2 : Int32) (x3 : Int32) (s0 : g_St), f_M_readSelection_138 n r0 x2 x3 s0 = some o → g_W K s0 [(0, g_r 1 r0), (2, g_i x2), (3, g_i x3)] [] 138 (g_jV o) := by
  intro n
  induction n with
  | zero =>
    intro r0 x2 x3 s0 h
    cases h
  | succ n ih =>
    intro r0 x2 x3 s0 h
    unfold f_M_readSelection_138 at h
    refine r_iload_n hK d_M_readSelection_138 rfl 2 rfl ?_
    refine r_ifeq (tgt := 191) hK d_M_readSelection_139 (by decide) h (fun h => ?_) (fun h => ?_)
    · exact r_sub [0, 1] rfl (t_M_readSelection_191 hK hN hD _ _ _ h)
    · refine r_aload_n hK d_M_readSelection_142 rfl 0 rfl ?_
      refine r_Vi (avL := []) (st := []) hK ob_M rfl w8_178 wp_14 w8_176 w8_179 w1_6 (by decide) pl_M_bad (by rw [hD]; decide) (Nat.le_of_ble_eq_true rfl) rfl d_M_readSelection_143 (fun o9 h9 => c_M_bad _ _ _ _ o9 h9) h (fun i1 s2 h => ?_)
      refine r_ifne (tgt := 191) hK d_M_readSelection_146 (by decide) h (fun h => ?_) (fun h => ?_)
      · exact r_sub [0, 1] rfl (t_M_readSelection_191 hK hN hD _ _ _ h)
      · refine r_aload_n hK d_M_readSelection_149 rfl 0 rfl ?_
        refine r_Vv (avL := []) (st := []) hK ob_M rfl w8_222 wp_25 w8_220 w8_223 w1_6 (by decide) pl_M_readSource (by rw [hD]; decide) (Nat.le_of_ble_eq_true rfl) rfl d_M_readSelection_150 (fun o9 h9 => c_M_readSource _ _ _ _ o9 h9) h (fun s4 h => ?_)
        refine r_aload_n hK d_M_readSelection_153 rfl 0 rfl ?_
        refine r_gR hK fd_M_40 w7_72 d_M_readSelection_154 h (fun p5 h => ?_)
        refine r_iload_n hK d_M_readSelection_157 rfl 1 rfl ?_
        refine r_dup2_11 hK d_M_readSelection_158 rfl rfl ?_
        refine r_iaload hK ar_20 rfl d_M_readSelection_159 h (fun i6 h => ?_)
        refine r_iconst (v := 1) hK d_M_readSelection_160 (by decide) ?_
        refine r_iadd hK d_M_readSelection_161 ?_
        refine r_iastore hK ar_20 rfl d_M_readSelection_162 h (fun s7 h => ?_)
        refine r_aload_n hK d_M_readSelection_163 rfl 0 rfl ?_
        refine r_gR hK fd_M_40 w7_72 d_M_readSelection_164 h (fun p8 h => ?_)
        refine r_iload_n hK d_M_readSelection_167 rfl 1 rfl ?_
        refine r_iaload hK ar_20 rfl d_M_readSelection_168 h (fun i9 h => ?_)
        refine r_iconst (v := 3) hK d_M_readSelection_169 (by decide) ?_
        refine r_if_icmpge (tgt := 186) hK d_M_readSelection_170 (by decide) h (fun h => ?_) (fun h => ?_)
        · refine r_iconst (v := 0) hK d_M_readSelection_186 (by decide) ?_
          refine r_istore_n (ls1 := [(3, g_i 0), (0, g_r 1 r0), (2, g_i x2)]) hK d_M_readSelection_187 rfl (by rw [hN]; decide) rfl ?_
          refine r_goto (tgt := 138) hK d_M_readSelection_188 (by decide) ?_
          exact r_sub [1, 2, 0] rfl (ih _ _ _ _ h)
        · refine r_aload_n hK d_M_readSelection_173 rfl 0 rfl ?_
          refine r_bipush (v := 44) hK d_M_readSelection_174 (by decide) ?_
          refine r_Vi (avL := [g_i 44]) (st := []) hK ob_M rfl w8_198 wp_19 w8_196 w8_199 w1_6 (by decide) pl_M_skipSign (by rw [hD]; decide) (Nat.le_of_ble_eq_true rfl) rfl d_M_readSelection_176 (fun o9 h9 => c_M_skipSign _ _ _ _ _ o9 h9) h (fun i10 s11 h => ?_)
          refine r_ifeq (tgt := 186) hK d_M_readSelection_179 (by decide) h (fun h => ?_) (fun h => ?_)
          · refine r_iconst (v := 0) hK d_M_readSelection_186 (by decide) ?_
            refine r_istore_n (ls1 := [(3, g_i 0), (0, g_r 1 r0), (2, g_i x2)]) hK d_M_readSelection_187 rfl (by rw [hN]; decide) rfl ?_
            refine r_goto (tgt := 138) hK d_M_readSelection_188 (by decide) ?_
            exact r_sub [1, 2, 0] rfl (ih _ _ _ _ h)
          · refine r_iconst (v := 1) hK d_M_readSelection_182 (by decide) ?_
            refine r_goto (tgt := 187) hK d_M_readSelection_183 (by decide) ?_
            refine r_istore_n (ls1 := [(3, g_i 1), (0, g_r 1 r0), (2, g_i x2)]) hK d_M_readSelection_187 rfl (by rw [hN]; decide) rfl ?_
            refine r_goto (tgt := 138) hK d_M_readSelection_188 (by decide) ?_
            exact r_sub [1, 2, 0] rfl (ih _ _ _ _ h)
set_option maxHeartbeats 4000000 in
set_option maxRecDepth 100000 in
theorem t_M_readSelection_111 {K : g_C} {o : (Unit × g_St)} (hK : g_OK K b_M_readSelection "FixpointEngineModel" "readSelection" (Option.none : Option Jvm.ClassFile.FieldType)) (hN : g_nL K = 4) (hD : g_Kd K = 9) : ∀ (r0 : Option Nat) (x2 : Int32) (s0 : g_St), f_M_readSelection_111 r0 x2 s0 = some o → g_W K s0 [(0, g_r 1 r0), (2, g_i x2)] [] 111 (g_jV o) := by
  intro r0 x2 s0 h
  unfold f_M_readSelection_111 at h
  refine r_aload_n hK d_M_readSelection_111 rfl 0 rfl ?_
  refine r_gR hK fd_M_39 w7_71 d_M_readSelection_112 h (fun p1 h => ?_)
  refine r_iload_n hK d_M_readSelection_115 rfl 1 rfl ?_
  refine r_aload_n hK d_M_readSelection_116 rfl 0 rfl ?_
  refine r_gI hK fd_M_56 w7_88 d_M_readSelection_117 h (fun i2 h => ?_)
  refine r_iastore hK ar_20 rfl d_M_readSelection_120 h (fun s3 h => ?_)
  refine r_aload_n hK d_M_readSelection_121 rfl 0 rfl ?_
  refine r_gR hK fd_M_40 w7_72 d_M_readSelection_122 h (fun p4 h => ?_)
  refine r_iload_n hK d_M_readSelection_125 rfl 1 rfl ?_
  refine r_iconst (v := 0) hK d_M_readSelection_126 (by decide) ?_
  refine r_iastore hK ar_20 rfl d_M_readSelection_127 h (fun s5 h => ?_)
  refine r_aload_n hK d_M_readSelection_128 rfl 0 rfl ?_
  refine r_iconst (v := 5) hK d_M_readSelection_129 (by decide) ?_
  refine r_Vi (avL := [g_i 5]) (st := []) hK ob_M rfl w8_170 wp_12 w8_168 w8_171 w1_6 (by decide) pl_M_skip (by rw [hD]; decide) (Nat.le_of_ble_eq_true rfl) rfl d_M_readSelection_130 (fun o9 h9 => c_M_skip _ _ _ _ _ o9 h9) h (fun i6 s7 h => ?_)
  refine r_ifeq (tgt := 191) hK d_M_readSelection_133 (by decide) h (fun h => ?_) (fun h => ?_)
  · exact r_sub [0, 1] rfl (t_M_readSelection_191 hK hN hD _ _ _ h)
  · refine r_iconst (v := 1) hK d_M_readSelection_136 (by decide) ?_
    refine r_istore_n (ls1 := [(3, g_i 1), (0, g_r 1 r0), (2, g_i x2)]) hK d_M_readSelection_137 rfl (by rw [hN]; decide) rfl ?_
    exact r_sub [1, 2, 0] rfl (t_M_readSelection_138 hK hN hD _ _ _ _ _ h)
set_option maxHeartbeats 4000000 in
set_option maxRecDepth 100000 in
theorem t_M_readSelection_67 {K : g_C} {o : (Unit × g_St)} (hK : g_OK K b_M_readSelection "FixpointEngineModel" "readSelection" (Option.none : Option Jvm.ClassFile.FieldType)) (hN : g_nL K = 4) (hD : g_Kd K = 9) : ∀ (n : Nat) (r0 : Option Nat) (x2 : Int32) (x3 : Int32) (s0 : g_St), f_M_readSelection_67 n r0 x2 x3 s0 = some o → g_W K s0 [(0, g_r 1 r0), (2, g_i x2), (3, g_i x3)] [] 67 (g_jV o) := by
  intro n
  induction n with
  | zero =>
    intro r0 x2 x3 s0 h
    cases h
  | succ n ih =>
    intro r0 x2 x3 s0 h
    unfold f_M_readSelection_67 at h
    refine r_iload_n hK d_M_readSelection_67 rfl 2 rfl ?_
    refine r_ifeq (tgt := 111) hK d_M_readSelection_68 (by decide) h (fun h => ?_) (fun h => ?_)
    · exact r_sub [0, 1] rfl (t_M_readSelection_111 hK hN hD _ _ _ h)
    · refine r_aload_n hK d_M_readSelection_71 rfl 0 rfl ?_
      refine r_Vi (avL := []) (st := []) hK ob_M rfl w8_178 wp_14 w8_176 w8_179 w1_6 (by decide) pl_M_bad (by rw [hD]; decide) (Nat.le_of_ble_eq_true rfl) rfl d_M_readSelection_72 (fun o9 h9 => c_M_bad _ _ _ _ o9 h9) h (fun i1 s2 h => ?_)
      refine r_ifne (tgt := 111) hK d_M_readSelection_75 (by decide) h (fun h => ?_) (fun h => ?_)
      · exact r_sub [0, 1] rfl (t_M_readSelection_111 hK hN hD _ _ _ h)
      · refine r_aload_n hK d_M_readSelection_78 rfl 0 rfl ?_
        refine r_iload_n hK d_M_readSelection_79 rfl 1 rfl ?_
        refine r_Vv (avL := [g_i x2]) (st := []) hK ob_M rfl w8_206 wp_21 w8_204 w8_207 w1_6 (by decide) pl_M_readItem (by rw [hD]; decide) (Nat.le_of_ble_eq_true rfl) rfl d_M_readSelection_80 (fun o9 h9 => c_M_readItem _ _ _ _ _ o9 h9) h (fun s4 h => ?_)
        refine r_aload_n hK d_M_readSelection_83 rfl 0 rfl ?_
        refine r_gR hK fd_M_38 w7_70 d_M_readSelection_84 h (fun p5 h => ?_)
        refine r_iload_n hK d_M_readSelection_87 rfl 1 rfl ?_
        refine r_iaload hK ar_20 rfl d_M_readSelection_88 h (fun i6 h => ?_)
        refine r_iconst (v := 4) hK d_M_readSelection_89 (by decide) ?_
        refine r_if_icmpge (tgt := 106) hK d_M_readSelection_90 (by decide) h (fun h => ?_) (fun h => ?_)
        · refine r_iconst (v := 0) hK d_M_readSelection_106 (by decide) ?_
          refine r_istore_n (ls1 := [(3, g_i 0), (0, g_r 1 r0), (2, g_i x2)]) hK d_M_readSelection_107 rfl (by rw [hN]; decide) rfl ?_
          refine r_goto (tgt := 67) hK d_M_readSelection_108 (by decide) ?_
          exact r_sub [1, 2, 0] rfl (ih _ _ _ _ h)
        · refine r_aload_n hK d_M_readSelection_93 rfl 0 rfl ?_
          refine r_bipush (v := 44) hK d_M_readSelection_94 (by decide) ?_
          refine r_Vi (avL := [g_i 44]) (st := []) hK ob_M rfl w8_198 wp_19 w8_196 w8_199 w1_6 (by decide) pl_M_skipSign (by rw [hD]; decide) (Nat.le_of_ble_eq_true rfl) rfl d_M_readSelection_96 (fun o9 h9 => c_M_skipSign _ _ _ _ _ o9 h9) h (fun i7 s8 h => ?_)
          refine r_ifeq (tgt := 106) hK d_M_readSelection_99 (by decide) h (fun h => ?_) (fun h => ?_)
          · refine r_iconst (v := 0) hK d_M_readSelection_106 (by decide) ?_
            refine r_istore_n (ls1 := [(3, g_i 0), (0, g_r 1 r0), (2, g_i x2)]) hK d_M_readSelection_107 rfl (by rw [hN]; decide) rfl ?_
            refine r_goto (tgt := 67) hK d_M_readSelection_108 (by decide) ?_
            exact r_sub [1, 2, 0] rfl (ih _ _ _ _ h)
          · refine r_iconst (v := 1) hK d_M_readSelection_102 (by decide) ?_
            refine r_goto (tgt := 107) hK d_M_readSelection_103 (by decide) ?_
            refine r_istore_n (ls1 := [(3, g_i 1), (0, g_r 1 r0), (2, g_i x2)]) hK d_M_readSelection_107 rfl (by rw [hN]; decide) rfl ?_
            refine r_goto (tgt := 67) hK d_M_readSelection_108 (by decide) ?_
            exact r_sub [1, 2, 0] rfl (ih _ _ _ _ h)
set_option maxHeartbeats 4000000 in
set_option maxRecDepth 100000 in
theorem t_M_readSelection_0 {K : g_C} {o : (Unit × g_St)} (hK : g_OK K b_M_readSelection "FixpointEngineModel" "readSelection" (Option.none : Option Jvm.ClassFile.FieldType)) (hN : g_nL K = 4) (hD : g_Kd K = 9) : ∀ (r0 : Option Nat) (x1 : Int32) (s0 : g_St), f_M_readSelection r0 x1 s0 = some o → g_W K s0 [(0, g_r 1 r0), (1, g_i x1)] [] 0 (g_jV o) := by
  intro r0 x1 s0 h
  unfold f_M_readSelection at h
  refine r_aload_n hK d_M_readSelection_0 rfl 0 rfl ?_
  refine r_Vi (avL := []) (st := []) hK ob_M rfl w8_178 wp_14 w8_176 w8_179 w1_6 (by decide) pl_M_bad (by rw [hD]; decide) (Nat.le_of_ble_eq_true rfl) rfl d_M_readSelection_1 (fun o9 h9 => c_M_bad _ _ _ _ o9 h9) h (fun i1 s2 h => ?_)
  refine r_ifeq (tgt := 8) hK d_M_readSelection_4 (by decide) h (fun h => ?_) (fun h => ?_)
  · refine r_aload_n hK d_M_readSelection_8 rfl 0 rfl ?_
    refine r_gI hK fd_M_34 w7_66 d_M_readSelection_9 h (fun i3 h => ?_)
    refine r_istore_n (ls1 := [(2, g_i i3), (0, g_r 1 r0), (1, g_i x1)]) hK d_M_readSelection_12 rfl (by rw [hN]; decide) rfl ?_
    refine r_aload_n hK d_M_readSelection_13 rfl 1 rfl ?_
    refine r_gR hK fd_M_35 w7_67 d_M_readSelection_14 h (fun p4 h => ?_)
    refine r_iload_n hK d_M_readSelection_17 rfl 0 rfl ?_
    refine r_iload_n hK d_M_readSelection_18 rfl 2 rfl ?_
    refine r_iastore hK ar_20 rfl d_M_readSelection_19 h (fun s5 h => ?_)
    refine r_aload_n hK d_M_readSelection_20 rfl 1 rfl ?_
    refine r_gR hK fd_M_36 w7_68 d_M_readSelection_21 h (fun p6 h => ?_)
    refine r_iload_n hK d_M_readSelection_24 rfl 0 rfl ?_
    refine r_aload_n hK d_M_readSelection_25 rfl 1 rfl ?_
    refine r_gR hK fd_M_11 w7_43 d_M_readSelection_26 h (fun p7 h => ?_)
    refine r_aload_n hK d_M_readSelection_29 rfl 1 rfl ?_
    refine r_gI hK fd_M_9 w7_41 d_M_readSelection_30 h (fun i8 h => ?_)
    refine r_iaload hK ar_20 rfl d_M_readSelection_33 h (fun i9 h => ?_)
    refine r_iastore hK ar_20 rfl d_M_readSelection_34 h (fun s10 h => ?_)
    refine r_aload_n hK d_M_readSelection_35 rfl 1 rfl ?_
    refine r_iconst (v := 4) hK d_M_readSelection_36 (by decide) ?_
    refine r_Vi (avL := [g_i 4]) (st := []) hK ob_M rfl w8_186 wp_16 w8_184 w8_187 w1_6 (by decide) pl_M_need (by rw [hD]; decide) (Nat.le_of_ble_eq_true rfl) rfl d_M_readSelection_37 (fun o9 h9 => c_M_need _ _ _ _ _ o9 h9) h (fun i11 s12 h => ?_)
    refine r_pop hK d_M_readSelection_40 rfl ?_
    refine r_aload_n hK d_M_readSelection_41 rfl 1 rfl ?_
    refine r_gR hK fd_M_37 w7_69 d_M_readSelection_42 h (fun p13 h => ?_)
    refine r_iload_n hK d_M_readSelection_45 rfl 0 rfl ?_
    refine r_aload_n hK d_M_readSelection_46 rfl 1 rfl ?_
    refine r_gI hK fd_M_44 w7_76 d_M_readSelection_47 h (fun i14 h => ?_)
    refine r_iastore hK ar_20 rfl d_M_readSelection_50 h (fun s15 h => ?_)
    refine r_aload_n hK d_M_readSelection_51 rfl 1 rfl ?_
    refine r_gR hK fd_M_38 w7_70 d_M_readSelection_52 h (fun p16 h => ?_)
    refine r_iload_n hK d_M_readSelection_55 rfl 0 rfl ?_
    refine r_iconst (v := 0) hK d_M_readSelection_56 (by decide) ?_
    refine r_iastore hK ar_20 rfl d_M_readSelection_57 h (fun s17 h => ?_)
    refine r_aload_n hK d_M_readSelection_58 rfl 1 rfl ?_
    refine r_gR hK fd_M_43 w7_75 d_M_readSelection_59 h (fun p18 h => ?_)
    refine r_iload_n hK d_M_readSelection_62 rfl 0 rfl ?_
    refine r_iconst (v := 0) hK d_M_readSelection_63 (by decide) ?_
    refine r_zastore hK ar_31 rfl d_M_readSelection_64 h (fun s19 h => ?_)
    refine r_iconst (v := 1) hK d_M_readSelection_65 (by decide) ?_
    refine r_istore_n (ls1 := [(3, g_i 1), (2, g_i i3), (0, g_r 1 r0), (1, g_i x1)]) hK d_M_readSelection_66 rfl (by rw [hN]; decide) rfl ?_
    exact r_sub [2, 1, 0] rfl (t_M_readSelection_67 hK hN hD _ _ _ _ _ h)
  · exact r_return hK d_M_readSelection_7 h
theorem c_M_readSelection (l : Launch) (G : g_G) (r0 : Option Nat) (x1 : Int32) (u : g_St) (o : (Unit × g_St)) (h : f_M_readSelection r0 x1 u = some o) : g_Con l G y_M_readSelection b_M_readSelection 4 (Option.none : Option Jvm.ClassFile.FieldType) 9 [g_r 1 r0, g_i x1] u (g_jV o) :=
  g_Con.of rfl rfl (by decide +kernel) (Nat.le_of_ble_eq_true rfl) (fun K hK hN hD hX => t_M_readSelection_0 hK hN hD _ _ _ h)
def f_M_readTrails_97 (r0 : Option Nat) (x1 : Int32) (s0 : g_St) : Option (Unit × g_St) :=
  g_gR s0 1601 r0 fun p1 =>
  g_sI s0 p1 x1 (-1) fun s2 =>
  g_c (g_nn r0 (f_M_skip r0 20 s2)) fun i3 s4 =>
  if i3 = 0 then
    some ((), s4)
  else
    g_gR s4 1601 r0 fun p5 =>
    g_c (g_nn r0 (f_M_need r0 30 s4)) fun i6 s7 =>
    g_sI s7 p5 x1 i6 fun s8 =>
    g_c (g_nn r0 (f_M_need r0 19 s8)) fun i9 s10 =>
    g_gR s10 1665 r0 fun p11 =>
    g_c (g_nn r0 (f_M_need r0 30 s10)) fun i12 s13 =>
    g_sI s13 p11 x1 i12 fun s14 =>
    some ((), s14)
def f_M_readTrails_52 (r0 : Option Nat) (x1 : Int32) (s0 : g_St) : Option (Unit × g_St) :=
  g_c (g_nn r0 (f_M_need r0 17 s0)) fun i1 s2 =>
  g_c (g_nn r0 (f_M_need r0 18 s2)) fun i3 s4 =>
  g_gR s4 1473 r0 fun p5 =>
  g_c (g_nn r0 (f_M_need r0 30 s4)) fun i6 s7 =>
  g_sI s7 p5 x1 i6 fun s8 =>
  g_c (g_nn r0 (f_M_need r0 19 s8)) fun i9 s10 =>
  g_gR s10 1537 r0 fun p11 =>
  g_c (g_nn r0 (f_M_need r0 30 s10)) fun i12 s13 =>
  g_sI s13 p11 x1 i12 fun s14 =>
  f_M_readTrails_97 r0 x1 s14
def f_M_readTrails_35 (r0 : Option Nat) (x1 : Int32) (r0s : Option Nat) (x1s : Int32) (x2s : Int32) (s0 : g_St) : Option (Unit × g_St) :=
  g_sI s0 r0s x1s x2s fun s1 =>
  g_c (g_nn r0 (f_M_skip r0 16 s1)) fun i2 s3 =>
  if i2 = 0 then
    g_c (g_nn r0 (f_M_need r0 15 s3)) fun i4 s5 =>
    f_M_readTrails_52 r0 x1 s5
  else
    f_M_readTrails_52 r0 x1 s3
def f_M_readTrails (r0 : Option Nat) (x1 : Int32) (s0 : g_St) : Option (Unit × g_St) :=
  g_gR s0 1409 r0 fun p1 =>
  g_sI s0 p1 x1 0 fun s2 =>
  g_c (g_nn r0 (f_M_skip r0 14 s2)) fun i3 s4 =>
  if i3 = 0 then
    f_M_readTrails_97 r0 x1 s4
  else
    g_gR s4 1409 r0 fun p5 =>
    g_c (g_nn r0 (f_M_is r0 16 s4)) fun i6 s7 =>
    if i6 = 0 then
      f_M_readTrails_35 r0 x1 p5 x1 1 s7
    else
      f_M_readTrails_35 r0 x1 p5 x1 2 s7
set_option maxHeartbeats 4000000 in
set_option maxRecDepth 100000 in
theorem t_M_readTrails_97 {K : g_C} {o : (Unit × g_St)} (hK : g_OK K b_M_readTrails "FixpointEngineModel" "readTrails" (Option.none : Option Jvm.ClassFile.FieldType)) (hN : g_nL K = 2) (hD : g_Kd K = 4) : ∀ (r0 : Option Nat) (x1 : Int32) (s0 : g_St), f_M_readTrails_97 r0 x1 s0 = some o → g_W K s0 [(0, g_r 1 r0), (1, g_i x1)] [] 97 (g_jV o) := by
  intro r0 x1 s0 h
  unfold f_M_readTrails_97 at h
  refine r_aload_n hK d_M_readTrails_97 rfl 0 rfl ?_
  refine r_gR hK fd_M_25 w7_57 d_M_readTrails_98 h (fun p1 h => ?_)
  refine r_iload_n hK d_M_readTrails_101 rfl 1 rfl ?_
  refine r_iconst (v := (-1)) hK d_M_readTrails_102 (by decide) ?_
  refine r_iastore hK ar_20 rfl d_M_readTrails_103 h (fun s2 h => ?_)
  refine r_aload_n hK d_M_readTrails_104 rfl 0 rfl ?_
  refine r_bipush (v := 20) hK d_M_readTrails_105 (by decide) ?_
  refine r_Vi (avL := [g_i 20]) (st := []) hK ob_M rfl w8_170 wp_12 w8_168 w8_171 w1_6 (by decide) pl_M_skip (by rw [hD]; decide) (Nat.le_of_ble_eq_true rfl) rfl d_M_readTrails_107 (fun o9 h9 => c_M_skip _ _ _ _ _ o9 h9) h (fun i3 s4 h => ?_)
  refine r_ifeq (tgt := 144) hK d_M_readTrails_110 (by decide) h (fun h => ?_) (fun h => ?_)
  · exact r_return hK d_M_readTrails_144 h
  · refine r_aload_n hK d_M_readTrails_113 rfl 0 rfl ?_
    refine r_gR hK fd_M_25 w7_57 d_M_readTrails_114 h (fun p5 h => ?_)
    refine r_iload_n hK d_M_readTrails_117 rfl 1 rfl ?_
    refine r_aload_n hK d_M_readTrails_118 rfl 0 rfl ?_
    refine r_bipush (v := 30) hK d_M_readTrails_119 (by decide) ?_
    refine r_Vi (avL := [g_i 30]) (st := [g_i x1, g_r 20 p5]) hK ob_M rfl w8_186 wp_16 w8_184 w8_187 w1_6 (by decide) pl_M_need (by rw [hD]; decide) (Nat.le_of_ble_eq_true rfl) rfl d_M_readTrails_121 (fun o9 h9 => c_M_need _ _ _ _ _ o9 h9) h (fun i6 s7 h => ?_)
    refine r_iastore hK ar_20 rfl d_M_readTrails_124 h (fun s8 h => ?_)
    refine r_aload_n hK d_M_readTrails_125 rfl 0 rfl ?_
    refine r_bipush (v := 19) hK d_M_readTrails_126 (by decide) ?_
    refine r_Vi (avL := [g_i 19]) (st := []) hK ob_M rfl w8_186 wp_16 w8_184 w8_187 w1_6 (by decide) pl_M_need (by rw [hD]; decide) (Nat.le_of_ble_eq_true rfl) rfl d_M_readTrails_128 (fun o9 h9 => c_M_need _ _ _ _ _ o9 h9) h (fun i9 s10 h => ?_)
    refine r_pop hK d_M_readTrails_131 rfl ?_
    refine r_aload_n hK d_M_readTrails_132 rfl 0 rfl ?_
    refine r_gR hK fd_M_26 w7_58 d_M_readTrails_133 h (fun p11 h => ?_)
    refine r_iload_n hK d_M_readTrails_136 rfl 1 rfl ?_
    refine r_aload_n hK d_M_readTrails_137 rfl 0 rfl ?_
    refine r_bipush (v := 30) hK d_M_readTrails_138 (by decide) ?_
    refine r_Vi (avL := [g_i 30]) (st := [g_i x1, g_r 20 p11]) hK ob_M rfl w8_186 wp_16 w8_184 w8_187 w1_6 (by decide) pl_M_need (by rw [hD]; decide) (Nat.le_of_ble_eq_true rfl) rfl d_M_readTrails_140 (fun o9 h9 => c_M_need _ _ _ _ _ o9 h9) h (fun i12 s13 h => ?_)
    refine r_iastore hK ar_20 rfl d_M_readTrails_143 h (fun s14 h => ?_)
    exact r_return hK d_M_readTrails_144 h
set_option maxHeartbeats 4000000 in
set_option maxRecDepth 100000 in
theorem t_M_readTrails_52 {K : g_C} {o : (Unit × g_St)} (hK : g_OK K b_M_readTrails "FixpointEngineModel" "readTrails" (Option.none : Option Jvm.ClassFile.FieldType)) (hN : g_nL K = 2) (hD : g_Kd K = 4) : ∀ (r0 : Option Nat) (x1 : Int32) (s0 : g_St), f_M_readTrails_52 r0 x1 s0 = some o → g_W K s0 [(0, g_r 1 r0), (1, g_i x1)] [] 52 (g_jV o) := by
  intro r0 x1 s0 h
  unfold f_M_readTrails_52 at h
  refine r_aload_n hK d_M_readTrails_52 rfl 0 rfl ?_
  refine r_bipush (v := 17) hK d_M_readTrails_53 (by decide) ?_
  refine r_Vi (avL := [g_i 17]) (st := []) hK ob_M rfl w8_186 wp_16 w8_184 w8_187 w1_6 (by decide) pl_M_need (by rw [hD]; decide) (Nat.le_of_ble_eq_true rfl) rfl d_M_readTrails_55 (fun o9 h9 => c_M_need _ _ _ _ _ o9 h9) h (fun i1 s2 h => ?_)
  refine r_pop hK d_M_readTrails_58 rfl ?_
  refine r_aload_n hK d_M_readTrails_59 rfl 0 rfl ?_
  refine r_bipush (v := 18) hK d_M_readTrails_60 (by decide) ?_
  refine r_Vi (avL := [g_i 18]) (st := []) hK ob_M rfl w8_186 wp_16 w8_184 w8_187 w1_6 (by decide) pl_M_need (by rw [hD]; decide) (Nat.le_of_ble_eq_true rfl) rfl d_M_readTrails_62 (fun o9 h9 => c_M_need _ _ _ _ _ o9 h9) h (fun i3 s4 h => ?_)
  refine r_pop hK d_M_readTrails_65 rfl ?_
  refine r_aload_n hK d_M_readTrails_66 rfl 0 rfl ?_
  refine r_gR hK fd_M_23 w7_55 d_M_readTrails_67 h (fun p5 h => ?_)
  refine r_iload_n hK d_M_readTrails_70 rfl 1 rfl ?_
  refine r_aload_n hK d_M_readTrails_71 rfl 0 rfl ?_
  refine r_bipush (v := 30) hK d_M_readTrails_72 (by decide) ?_
  refine r_Vi (avL := [g_i 30]) (st := [g_i x1, g_r 20 p5]) hK ob_M rfl w8_186 wp_16 w8_184 w8_187 w1_6 (by decide) pl_M_need (by rw [hD]; decide) (Nat.le_of_ble_eq_true rfl) rfl d_M_readTrails_74 (fun o9 h9 => c_M_need _ _ _ _ _ o9 h9) h (fun i6 s7 h => ?_)
  refine r_iastore hK ar_20 rfl d_M_readTrails_77 h (fun s8 h => ?_)
  refine r_aload_n hK d_M_readTrails_78 rfl 0 rfl ?_
  refine r_bipush (v := 19) hK d_M_readTrails_79 (by decide) ?_
  refine r_Vi (avL := [g_i 19]) (st := []) hK ob_M rfl w8_186 wp_16 w8_184 w8_187 w1_6 (by decide) pl_M_need (by rw [hD]; decide) (Nat.le_of_ble_eq_true rfl) rfl d_M_readTrails_81 (fun o9 h9 => c_M_need _ _ _ _ _ o9 h9) h (fun i9 s10 h => ?_)
  refine r_pop hK d_M_readTrails_84 rfl ?_
  refine r_aload_n hK d_M_readTrails_85 rfl 0 rfl ?_
  refine r_gR hK fd_M_24 w7_56 d_M_readTrails_86 h (fun p11 h => ?_)
  refine r_iload_n hK d_M_readTrails_89 rfl 1 rfl ?_
  refine r_aload_n hK d_M_readTrails_90 rfl 0 rfl ?_
  refine r_bipush (v := 30) hK d_M_readTrails_91 (by decide) ?_
  refine r_Vi (avL := [g_i 30]) (st := [g_i x1, g_r 20 p11]) hK ob_M rfl w8_186 wp_16 w8_184 w8_187 w1_6 (by decide) pl_M_need (by rw [hD]; decide) (Nat.le_of_ble_eq_true rfl) rfl d_M_readTrails_93 (fun o9 h9 => c_M_need _ _ _ _ _ o9 h9) h (fun i12 s13 h => ?_)
  refine r_iastore hK ar_20 rfl d_M_readTrails_96 h (fun s14 h => ?_)
  exact r_sub [0, 1] rfl (t_M_readTrails_97 hK hN hD _ _ _ h)
set_option maxHeartbeats 4000000 in
set_option maxRecDepth 100000 in
theorem t_M_readTrails_35 {K : g_C} {o : (Unit × g_St)} (hK : g_OK K b_M_readTrails "FixpointEngineModel" "readTrails" (Option.none : Option Jvm.ClassFile.FieldType)) (hN : g_nL K = 2) (hD : g_Kd K = 4) : ∀ (r0 : Option Nat) (x1 : Int32) (r0s : Option Nat) (x1s : Int32) (x2s : Int32) (s0 : g_St), f_M_readTrails_35 r0 x1 r0s x1s x2s s0 = some o → g_W K s0 [(0, g_r 1 r0), (1, g_i x1)] [g_i x2s, g_i x1s, g_r 20 r0s] 35 (g_jV o) := by
  intro r0 x1 r0s x1s x2s s0 h
  unfold f_M_readTrails_35 at h
  refine r_iastore hK ar_20 rfl d_M_readTrails_35 h (fun s1 h => ?_)
  refine r_aload_n hK d_M_readTrails_36 rfl 0 rfl ?_
  refine r_bipush (v := 16) hK d_M_readTrails_37 (by decide) ?_
  refine r_Vi (avL := [g_i 16]) (st := []) hK ob_M rfl w8_170 wp_12 w8_168 w8_171 w1_6 (by decide) pl_M_skip (by rw [hD]; decide) (Nat.le_of_ble_eq_true rfl) rfl d_M_readTrails_39 (fun o9 h9 => c_M_skip _ _ _ _ _ o9 h9) h (fun i2 s3 h => ?_)
  refine r_ifne (tgt := 52) hK d_M_readTrails_42 (by decide) h (fun h => ?_) (fun h => ?_)
  · exact r_sub [0, 1] rfl (t_M_readTrails_52 hK hN hD _ _ _ h)
  · refine r_aload_n hK d_M_readTrails_45 rfl 0 rfl ?_
    refine r_bipush (v := 15) hK d_M_readTrails_46 (by decide) ?_
    refine r_Vi (avL := [g_i 15]) (st := []) hK ob_M rfl w8_186 wp_16 w8_184 w8_187 w1_6 (by decide) pl_M_need (by rw [hD]; decide) (Nat.le_of_ble_eq_true rfl) rfl d_M_readTrails_48 (fun o9 h9 => c_M_need _ _ _ _ _ o9 h9) h (fun i4 s5 h => ?_)
    refine r_pop hK d_M_readTrails_51 rfl ?_
    exact r_sub [0, 1] rfl (t_M_readTrails_52 hK hN hD _ _ _ h)
set_option maxHeartbeats 4000000 in
set_option maxRecDepth 100000 in
theorem t_M_readTrails_0 {K : g_C} {o : (Unit × g_St)} (hK : g_OK K b_M_readTrails "FixpointEngineModel" "readTrails" (Option.none : Option Jvm.ClassFile.FieldType)) (hN : g_nL K = 2) (hD : g_Kd K = 4) : ∀ (r0 : Option Nat) (x1 : Int32) (s0 : g_St), f_M_readTrails r0 x1 s0 = some o → g_W K s0 [(0, g_r 1 r0), (1, g_i x1)] [] 0 (g_jV o) := by
  intro r0 x1 s0 h
  unfold f_M_readTrails at h
  refine r_aload_n hK d_M_readTrails_0 rfl 0 rfl ?_
  refine r_gR hK fd_M_22 w7_54 d_M_readTrails_1 h (fun p1 h => ?_)
  refine r_iload_n hK d_M_readTrails_4 rfl 1 rfl ?_
  refine r_iconst (v := 0) hK d_M_readTrails_5 (by decide) ?_
  refine r_iastore hK ar_20 rfl d_M_readTrails_6 h (fun s2 h => ?_)
  refine r_aload_n hK d_M_readTrails_7 rfl 0 rfl ?_
  refine r_bipush (v := 14) hK d_M_readTrails_8 (by decide) ?_
  refine r_Vi (avL := [g_i 14]) (st := []) hK ob_M rfl w8_170 wp_12 w8_168 w8_171 w1_6 (by decide) pl_M_skip (by rw [hD]; decide) (Nat.le_of_ble_eq_true rfl) rfl d_M_readTrails_10 (fun o9 h9 => c_M_skip _ _ _ _ _ o9 h9) h (fun i3 s4 h => ?_)
  refine r_ifeq (tgt := 97) hK d_M_readTrails_13 (by decide) h (fun h => ?_) (fun h => ?_)
  · exact r_sub [0, 1] rfl (t_M_readTrails_97 hK hN hD _ _ _ h)
  · refine r_aload_n hK d_M_readTrails_16 rfl 0 rfl ?_
    refine r_gR hK fd_M_22 w7_54 d_M_readTrails_17 h (fun p5 h => ?_)
    refine r_iload_n hK d_M_readTrails_20 rfl 1 rfl ?_
    refine r_aload_n hK d_M_readTrails_21 rfl 0 rfl ?_
    refine r_bipush (v := 16) hK d_M_readTrails_22 (by decide) ?_
    refine r_Vi (avL := [g_i 16]) (st := [g_i x1, g_r 20 p5]) hK ob_M rfl w8_174 wp_13 w8_172 w8_175 w1_6 (by decide) pl_M_is (by rw [hD]; decide) (Nat.le_of_ble_eq_true rfl) rfl d_M_readTrails_24 (fun o9 h9 => c_M_is _ _ _ _ _ o9 h9) h (fun i6 s7 h => ?_)
    refine r_ifeq (tgt := 34) hK d_M_readTrails_27 (by decide) h (fun h => ?_) (fun h => ?_)
    · refine r_iconst (v := 1) hK d_M_readTrails_34 (by decide) ?_
      exact r_sub [0, 1] rfl (t_M_readTrails_35 hK hN hD _ _ _ _ _ _ h)
    · refine r_iconst (v := 2) hK d_M_readTrails_30 (by decide) ?_
      refine r_goto (tgt := 35) hK d_M_readTrails_31 (by decide) ?_
      exact r_sub [0, 1] rfl (t_M_readTrails_35 hK hN hD _ _ _ _ _ _ h)
theorem c_M_readTrails (l : Launch) (G : g_G) (r0 : Option Nat) (x1 : Int32) (u : g_St) (o : (Unit × g_St)) (h : f_M_readTrails r0 x1 u = some o) : g_Con l G y_M_readTrails b_M_readTrails 2 (Option.none : Option Jvm.ClassFile.FieldType) 4 [g_r 1 r0, g_i x1] u (g_jV o) :=
  g_Con.of rfl rfl (by decide +kernel) (Nat.le_of_ble_eq_true rfl) (fun K hK hN hD hX => t_M_readTrails_0 hK hN hD _ _ _ h)
def f_M_readPart_269 (r0 : Option Nat) (x1 : Int32) (s0 : g_St) : Option (Unit × g_St) :=
  g_c (g_nn r0 (f_M_needSign r0 41 s0)) fun _ s2 =>
  g_c (g_nn r0 (f_M_readTrails r0 x1 s2)) fun _ s4 =>
  g_gI s4 1153 r0 fun i5 =>
  g_pI s4 1153 r0 (i5 + 1) fun s6 =>
  some ((), s6)
def f_M_readPart_241 (k153 : Option Nat → Int32 → Int32 → g_St → Option (Unit × g_St)) (r0 : Option Nat) (x1 : Int32) (x2 : Int32) (x3 : Int32) (r0s : Option Nat) (x1s : Int32) (x2s : Int32) (s0 : g_St) : Option (Unit × g_St) :=
  g_sZ s0 r0s x1s x2s fun s1 =>
  g_gR s1 1857 r0 fun p2 =>
  g_gR s1 1857 r0 fun p3 =>
  g_aI s1 p3 x1 fun i4 =>
  if i4 = 0 then
    if x3 = 0 then
      g_sZ s1 p2 x1 1 fun s7 =>
      k153 r0 x1 x2 s7
    else
      g_sZ s1 p2 x1 0 fun s6 =>
      k153 r0 x1 x2 s6
  else
    g_sZ s1 p2 x1 1 fun s5 =>
    k153 r0 x1 x2 s5
def f_M_readPart_203 (k153 : Option Nat → Int32 → Int32 → g_St → Option (Unit × g_St)) (r0 : Option Nat) (x1 : Int32) (x0s : Int32) (s0 : g_St) : Option (Unit × g_St) :=
  if x0s = 0 then
    k153 r0 x1 x0s s0
  else
    g_c (g_nn r0 (f_M_skip r0 13 s0)) fun i1 s2 =>
    g_gR s2 1921 r0 fun p3 =>
    g_gR s2 1921 r0 fun p4 =>
    g_aI s2 p4 x1 fun i5 =>
    if i5 = 0 then
      if i1 = 0 then
        f_M_readPart_241 k153 r0 x1 x0s i1 p3 x1 0 s2
      else
        f_M_readPart_241 k153 r0 x1 x0s i1 p3 x1 1 s2
    else
      f_M_readPart_241 k153 r0 x1 x0s i1 p3 x1 1 s2
def f_M_readPart_153 : Nat → Option Nat → Int32 → Int32 → g_St → Option (Unit × g_St)
  | 0, _, _, _, _ => none
  | n + 1, r0, x1, x2, s0 =>
    if x2 = 0 then
      f_M_readPart_269 r0 x1 s0
    else
      g_c (g_nn r0 (f_M_bad r0 s0)) fun i1 s2 =>
      if i1 = 0 then
        g_c (g_nn r0 (f_M_readSelection r0 x1 s2)) fun _ s4 =>
        g_gR s4 2049 r0 fun p5 =>
        g_aI s4 p5 x1 fun i6 =>
        g_sI s4 p5 x1 (i6 + 1) fun s7 =>
        g_gR s7 2049 r0 fun p8 =>
        g_aI s7 p8 x1 fun i9 =>
        if 4 ≤ i9 then
          f_M_readPart_203 (f_M_readPart_153 n) r0 x1 0 s7
        else
          g_c (g_nn r0 (f_M_skip r0 12 s7)) fun i10 s11 =>
          if i10 = 0 then
            f_M_readPart_203 (f_M_readPart_153 n) r0 x1 0 s11
          else
            f_M_readPart_203 (f_M_readPart_153 n) r0 x1 1 s11
      else
        f_M_readPart_269 r0 x1 s2
def f_M_readPart_102 (r0 : Option Nat) (x1 : Int32) (s0 : g_St) : Option (Unit × g_St) :=
  g_c (g_nn r0 (f_M_needSign r0 41 s0)) fun _ s2 =>
  g_c (g_nn r0 (f_M_need r0 3 s2)) fun i3 s4 =>
  g_c (g_nn r0 (f_M_needSign r0 40 s4)) fun _ s6 =>
  g_gR s6 1985 r0 fun p7 =>
  g_gI s6 2177 r0 fun i8 =>
  g_sI s6 p7 x1 i8 fun s9 =>
  g_gR s9 2049 r0 fun p10 =>
  g_sI s9 p10 x1 0 fun s11 =>
  g_gR s11 1857 r0 fun p12 =>
  g_sZ s11 p12 x1 0 fun s13 =>
  g_gR s13 1921 r0 fun p14 =>
  g_sZ s13 p14 x1 0 fun s15 =>
  f_M_readPart_153 200000 r0 x1 1 s15
def f_M_readPart_32 : Nat → Option Nat → Int32 → Int32 → g_St → Option (Unit × g_St)
  | 0, _, _, _, _ => none
  | n + 1, r0, x1, x2, s0 =>
    if x2 = 0 then
      f_M_readPart_102 r0 x1 s0
    else
      g_c (g_nn r0 (f_M_bad r0 s0)) fun i1 s2 =>
      if i1 = 0 then
        g_gR s2 1345 r0 fun p3 =>
        g_gR s2 1281 r0 fun p4 =>
        g_aI s2 p4 x1 fun i5 =>
        g_c (g_nn r0 (f_M_need r0 30 s2)) fun i6 s7 =>
        g_sI s7 p3 ((3 * x1) + i5) i6 fun s8 =>
        g_gR s8 1281 r0 fun p9 =>
        g_aI s8 p9 x1 fun i10 =>
        g_sI s8 p9 x1 (i10 + 1) fun s11 =>
        g_gR s11 1281 r0 fun p12 =>
        g_aI s11 p12 x1 fun i13 =>
        if 3 ≤ i13 then
          f_M_readPart_32 n r0 x1 0 s11
        else
          g_c (g_nn r0 (f_M_skipSign r0 44 s11)) fun i14 s15 =>
          if i14 = 0 then
            f_M_readPart_32 n r0 x1 0 s15
          else
            f_M_readPart_32 n r0 x1 1 s15
      else
        f_M_readPart_102 r0 x1 s2
def f_M_readPart (r0 : Option Nat) (s0 : g_St) : Option (Unit × g_St) :=
  g_gI s0 1153 r0 fun i1 =>
  g_gR s0 1217 r0 fun p2 =>
  g_c (g_nn r0 (f_M_need r0 30 s0)) fun i3 s4 =>
  g_sI s4 p2 i1 i3 fun s5 =>
  g_c (g_nn r0 (f_M_needSign r0 40 s5)) fun _ s7 =>
  g_gR s7 1281 r0 fun p8 =>
  g_sI s7 p8 i1 0 fun s9 =>
  f_M_readPart_32 200000 r0 i1 1 s9
set_option maxHeartbeats 4000000 in
set_option maxRecDepth 100000 in
theorem t_M_readPart_269 {K : g_C} {o : (Unit × g_St)} (hK : g_OK K b_M_readPart "FixpointEngineModel" "readPart" (Option.none : Option Jvm.ClassFile.FieldType)) (hN : g_nL K = 4) (hD : g_Kd K = 10) : ∀ (r0 : Option Nat) (x1 : Int32) (s0 : g_St), f_M_readPart_269 r0 x1 s0 = some o → g_W K s0 [(0, g_r 1 r0), (1, g_i x1)] [] 269 (g_jV o) := by
  intro r0 x1 s0 h
  unfold f_M_readPart_269 at h
  refine r_aload_n hK d_M_readPart_269 rfl 0 rfl ?_
  refine r_bipush (v := 41) hK d_M_readPart_270 (by decide) ?_
  refine r_Vv (avL := [g_i 41]) (st := []) hK ob_M rfl w8_194 wp_18 w8_192 w8_195 w1_6 (by decide) pl_M_needSign (by rw [hD]; decide) (Nat.le_of_ble_eq_true rfl) rfl d_M_readPart_272 (fun o9 h9 => c_M_needSign _ _ _ _ _ o9 h9) h (fun s2 h => ?_)
  refine r_aload_n hK d_M_readPart_275 rfl 0 rfl ?_
  refine r_iload_n hK d_M_readPart_276 rfl 1 rfl ?_
  refine r_Vv (avL := [g_i x1]) (st := []) hK ob_M rfl w8_234 wp_28 w8_232 w8_235 w1_6 (by decide) pl_M_readTrails (by rw [hD]; decide) (Nat.le_of_ble_eq_true rfl) rfl d_M_readPart_277 (fun o9 h9 => c_M_readTrails _ _ _ _ _ o9 h9) h (fun s4 h => ?_)
  refine r_aload_n hK d_M_readPart_280 rfl 0 rfl ?_
  refine r_dup hK d_M_readPart_281 rfl ?_
  refine r_gI hK fd_M_18 w7_50 d_M_readPart_282 h (fun i5 h => ?_)
  refine r_iconst (v := 1) hK d_M_readPart_285 (by decide) ?_
  refine r_iadd hK d_M_readPart_286 ?_
  refine r_pI hK fd_M_18 rfl w7_50 d_M_readPart_287 h (fun s6 h => ?_)
  exact r_return hK d_M_readPart_290 h
set_option maxHeartbeats 4000000 in
set_option maxRecDepth 100000 in
theorem t_M_readPart_241 {K : g_C} {o : (Unit × g_St)} (hK : g_OK K b_M_readPart "FixpointEngineModel" "readPart" (Option.none : Option Jvm.ClassFile.FieldType)) (hN : g_nL K = 4) (hD : g_Kd K = 10) {k153 : Option Nat → Int32 → Int32 → g_St → Option (Unit × g_St)} (hk153 : ∀ (r0 : Option Nat) (x1 : Int32) (x2 : Int32) (s0 : g_St), k153 r0 x1 x2 s0 = some o → g_W K s0 [(0, g_r 1 r0), (1, g_i x1), (2, g_i x2)] [] 153 (g_jV o)) : ∀ (r0 : Option Nat) (x1 : Int32) (x2 : Int32) (x3 : Int32) (r0s : Option Nat) (x1s : Int32) (x2s : Int32) (s0 : g_St), f_M_readPart_241 k153 r0 x1 x2 x3 r0s x1s x2s s0 = some o → g_W K s0 [(0, g_r 1 r0), (1, g_i x1), (2, g_i x2), (3, g_i x3)] [g_i x2s, g_i x1s, g_r 31 r0s] 241 (g_jV o) := by
  intro r0 x1 x2 x3 r0s x1s x2s s0 h
  unfold f_M_readPart_241 at h
  refine r_zastore hK ar_31 rfl d_M_readPart_241 h (fun s1 h => ?_)
  refine r_aload_n hK d_M_readPart_242 rfl 0 rfl ?_
  refine r_gR hK fd_M_29 w7_61 d_M_readPart_243 h (fun p2 h => ?_)
  refine r_iload_n hK d_M_readPart_246 rfl 1 rfl ?_
  refine r_aload_n hK d_M_readPart_247 rfl 0 rfl ?_
  refine r_gR hK fd_M_29 w7_61 d_M_readPart_248 h (fun p3 h => ?_)
  refine r_iload_n hK d_M_readPart_251 rfl 1 rfl ?_
  refine r_zaload hK ar_31 rfl d_M_readPart_252 h (fun i4 h => ?_)
  refine r_ifne (tgt := 260) hK d_M_readPart_253 (by decide) h (fun h => ?_) (fun h => ?_)
  · refine r_iconst (v := 1) hK d_M_readPart_260 (by decide) ?_
    refine r_goto (tgt := 265) hK d_M_readPart_261 (by decide) ?_
    refine r_zastore hK ar_31 rfl d_M_readPart_265 h (fun s5 h => ?_)
    refine r_goto (tgt := 153) hK d_M_readPart_266 (by decide) ?_
    exact r_sub [0, 1, 2] rfl (hk153 _ _ _ _ h)
  · refine r_iload_n hK d_M_readPart_256 rfl 3 rfl ?_
    refine r_ifne (tgt := 264) hK d_M_readPart_257 (by decide) h (fun h => ?_) (fun h => ?_)
    · refine r_iconst (v := 0) hK d_M_readPart_264 (by decide) ?_
      refine r_zastore hK ar_31 rfl d_M_readPart_265 h (fun s6 h => ?_)
      refine r_goto (tgt := 153) hK d_M_readPart_266 (by decide) ?_
      exact r_sub [0, 1, 2] rfl (hk153 _ _ _ _ h)
    · refine r_iconst (v := 1) hK d_M_readPart_260 (by decide) ?_
      refine r_goto (tgt := 265) hK d_M_readPart_261 (by decide) ?_
      refine r_zastore hK ar_31 rfl d_M_readPart_265 h (fun s7 h => ?_)
      refine r_goto (tgt := 153) hK d_M_readPart_266 (by decide) ?_
      exact r_sub [0, 1, 2] rfl (hk153 _ _ _ _ h)
set_option maxHeartbeats 4000000 in
set_option maxRecDepth 100000 in
theorem t_M_readPart_203 {K : g_C} {o : (Unit × g_St)} (hK : g_OK K b_M_readPart "FixpointEngineModel" "readPart" (Option.none : Option Jvm.ClassFile.FieldType)) (hN : g_nL K = 4) (hD : g_Kd K = 10) {k153 : Option Nat → Int32 → Int32 → g_St → Option (Unit × g_St)} (hk153 : ∀ (r0 : Option Nat) (x1 : Int32) (x2 : Int32) (s0 : g_St), k153 r0 x1 x2 s0 = some o → g_W K s0 [(0, g_r 1 r0), (1, g_i x1), (2, g_i x2)] [] 153 (g_jV o)) : ∀ (r0 : Option Nat) (x1 : Int32) (x0s : Int32) (s0 : g_St), f_M_readPart_203 k153 r0 x1 x0s s0 = some o → g_W K s0 [(0, g_r 1 r0), (1, g_i x1)] [g_i x0s] 203 (g_jV o) := by
  intro r0 x1 x0s s0 h
  unfold f_M_readPart_203 at h
  refine r_istore_n (ls1 := [(2, g_i x0s), (0, g_r 1 r0), (1, g_i x1)]) hK d_M_readPart_203 rfl (by rw [hN]; decide) rfl ?_
  refine r_iload_n hK d_M_readPart_204 rfl 0 rfl ?_
  refine r_ifne (tgt := 211) hK d_M_readPart_205 (by decide) h (fun h => ?_) (fun h => ?_)
  · refine r_aload_n hK d_M_readPart_211 rfl 1 rfl ?_
    refine r_bipush (v := 13) hK d_M_readPart_212 (by decide) ?_
    refine r_Vi (avL := [g_i 13]) (st := []) hK ob_M rfl w8_170 wp_12 w8_168 w8_171 w1_6 (by decide) pl_M_skip (by rw [hD]; decide) (Nat.le_of_ble_eq_true rfl) rfl d_M_readPart_214 (fun o9 h9 => c_M_skip _ _ _ _ _ o9 h9) h (fun i1 s2 h => ?_)
    refine r_istore_n (ls1 := [(3, g_i i1), (2, g_i x0s), (0, g_r 1 r0), (1, g_i x1)]) hK d_M_readPart_217 rfl (by rw [hN]; decide) rfl ?_
    refine r_aload_n hK d_M_readPart_218 rfl 2 rfl ?_
    refine r_gR hK fd_M_30 w7_62 d_M_readPart_219 h (fun p3 h => ?_)
    refine r_iload_n hK d_M_readPart_222 rfl 3 rfl ?_
    refine r_aload_n hK d_M_readPart_223 rfl 2 rfl ?_
    refine r_gR hK fd_M_30 w7_62 d_M_readPart_224 h (fun p4 h => ?_)
    refine r_iload_n hK d_M_readPart_227 rfl 3 rfl ?_
    refine r_zaload hK ar_31 rfl d_M_readPart_228 h (fun i5 h => ?_)
    refine r_ifne (tgt := 236) hK d_M_readPart_229 (by decide) h (fun h => ?_) (fun h => ?_)
    · refine r_iconst (v := 1) hK d_M_readPart_236 (by decide) ?_
      refine r_goto (tgt := 241) hK d_M_readPart_237 (by decide) ?_
      exact r_sub [2, 3, 1, 0] rfl (t_M_readPart_241 hK hN hD hk153 _ _ _ _ _ _ _ _ h)
    · refine r_iload_n hK d_M_readPart_232 rfl 0 rfl ?_
      refine r_ifeq (tgt := 240) hK d_M_readPart_233 (by decide) h (fun h => ?_) (fun h => ?_)
      · refine r_iconst (v := 0) hK d_M_readPart_240 (by decide) ?_
        exact r_sub [2, 3, 1, 0] rfl (t_M_readPart_241 hK hN hD hk153 _ _ _ _ _ _ _ _ h)
      · refine r_iconst (v := 1) hK d_M_readPart_236 (by decide) ?_
        refine r_goto (tgt := 241) hK d_M_readPart_237 (by decide) ?_
        exact r_sub [2, 3, 1, 0] rfl (t_M_readPart_241 hK hN hD hk153 _ _ _ _ _ _ _ _ h)
  · refine r_goto (tgt := 153) hK d_M_readPart_208 (by decide) ?_
    exact r_sub [1, 2, 0] rfl (hk153 _ _ _ _ h)
set_option maxHeartbeats 4000000 in
set_option maxRecDepth 100000 in
theorem t_M_readPart_153 {K : g_C} {o : (Unit × g_St)} (hK : g_OK K b_M_readPart "FixpointEngineModel" "readPart" (Option.none : Option Jvm.ClassFile.FieldType)) (hN : g_nL K = 4) (hD : g_Kd K = 10) : ∀ (n : Nat) (r0 : Option Nat) (x1 : Int32) (x2 : Int32) (s0 : g_St), f_M_readPart_153 n r0 x1 x2 s0 = some o → g_W K s0 [(0, g_r 1 r0), (1, g_i x1), (2, g_i x2)] [] 153 (g_jV o) := by
  intro n
  induction n with
  | zero =>
    intro r0 x1 x2 s0 h
    cases h
  | succ n ih =>
    intro r0 x1 x2 s0 h
    unfold f_M_readPart_153 at h
    refine r_iload_n hK d_M_readPart_153 rfl 2 rfl ?_
    refine r_ifeq (tgt := 269) hK d_M_readPart_154 (by decide) h (fun h => ?_) (fun h => ?_)
    · exact r_sub [0, 1] rfl (t_M_readPart_269 hK hN hD _ _ _ h)
    · refine r_aload_n hK d_M_readPart_157 rfl 0 rfl ?_
      refine r_Vi (avL := []) (st := []) hK ob_M rfl w8_178 wp_14 w8_176 w8_179 w1_6 (by decide) pl_M_bad (by rw [hD]; decide) (Nat.le_of_ble_eq_true rfl) rfl d_M_readPart_158 (fun o9 h9 => c_M_bad _ _ _ _ o9 h9) h (fun i1 s2 h => ?_)
      refine r_ifne (tgt := 269) hK d_M_readPart_161 (by decide) h (fun h => ?_) (fun h => ?_)
      · exact r_sub [0, 1] rfl (t_M_readPart_269 hK hN hD _ _ _ h)
      · refine r_aload_n hK d_M_readPart_164 rfl 0 rfl ?_
        refine r_iload_n hK d_M_readPart_165 rfl 1 rfl ?_
        refine r_Vv (avL := [g_i x1]) (st := []) hK ob_M rfl w8_202 wp_20 w8_200 w8_203 w1_6 (by decide) pl_M_readSelection (by rw [hD]; decide) (Nat.le_of_ble_eq_true rfl) rfl d_M_readPart_166 (fun o9 h9 => c_M_readSelection _ _ _ _ _ o9 h9) h (fun s4 h => ?_)
        refine r_aload_n hK d_M_readPart_169 rfl 0 rfl ?_
        refine r_gR hK fd_M_32 w7_64 d_M_readPart_170 h (fun p5 h => ?_)
        refine r_iload_n hK d_M_readPart_173 rfl 1 rfl ?_
        refine r_dup2_11 hK d_M_readPart_174 rfl rfl ?_
        refine r_iaload hK ar_20 rfl d_M_readPart_175 h (fun i6 h => ?_)
        refine r_iconst (v := 1) hK d_M_readPart_176 (by decide) ?_
        refine r_iadd hK d_M_readPart_177 ?_
        refine r_iastore hK ar_20 rfl d_M_readPart_178 h (fun s7 h => ?_)
        refine r_aload_n hK d_M_readPart_179 rfl 0 rfl ?_
        refine r_gR hK fd_M_32 w7_64 d_M_readPart_180 h (fun p8 h => ?_)
        refine r_iload_n hK d_M_readPart_183 rfl 1 rfl ?_
        refine r_iaload hK ar_20 rfl d_M_readPart_184 h (fun i9 h => ?_)
        refine r_iconst (v := 4) hK d_M_readPart_185 (by decide) ?_
        refine r_if_icmpge (tgt := 202) hK d_M_readPart_186 (by decide) h (fun h => ?_) (fun h => ?_)
        · refine r_iconst (v := 0) hK d_M_readPart_202 (by decide) ?_
          exact r_sub [0, 1] rfl (t_M_readPart_203 hK hN hD ih _ _ _ _ h)
        · refine r_aload_n hK d_M_readPart_189 rfl 0 rfl ?_
          refine r_bipush (v := 12) hK d_M_readPart_190 (by decide) ?_
          refine r_Vi (avL := [g_i 12]) (st := []) hK ob_M rfl w8_170 wp_12 w8_168 w8_171 w1_6 (by decide) pl_M_skip (by rw [hD]; decide) (Nat.le_of_ble_eq_true rfl) rfl d_M_readPart_192 (fun o9 h9 => c_M_skip _ _ _ _ _ o9 h9) h (fun i10 s11 h => ?_)
          refine r_ifeq (tgt := 202) hK d_M_readPart_195 (by decide) h (fun h => ?_) (fun h => ?_)
          · refine r_iconst (v := 0) hK d_M_readPart_202 (by decide) ?_
            exact r_sub [0, 1] rfl (t_M_readPart_203 hK hN hD ih _ _ _ _ h)
          · refine r_iconst (v := 1) hK d_M_readPart_198 (by decide) ?_
            refine r_goto (tgt := 203) hK d_M_readPart_199 (by decide) ?_
            exact r_sub [0, 1] rfl (t_M_readPart_203 hK hN hD ih _ _ _ _ h)
set_option maxHeartbeats 4000000 in
set_option maxRecDepth 100000 in
theorem t_M_readPart_102 {K : g_C} {o : (Unit × g_St)} (hK : g_OK K b_M_readPart "FixpointEngineModel" "readPart" (Option.none : Option Jvm.ClassFile.FieldType)) (hN : g_nL K = 4) (hD : g_Kd K = 10) : ∀ (r0 : Option Nat) (x1 : Int32) (s0 : g_St), f_M_readPart_102 r0 x1 s0 = some o → g_W K s0 [(0, g_r 1 r0), (1, g_i x1)] [] 102 (g_jV o) := by
  intro r0 x1 s0 h
  unfold f_M_readPart_102 at h
  refine r_aload_n hK d_M_readPart_102 rfl 0 rfl ?_
  refine r_bipush (v := 41) hK d_M_readPart_103 (by decide) ?_
  refine r_Vv (avL := [g_i 41]) (st := []) hK ob_M rfl w8_194 wp_18 w8_192 w8_195 w1_6 (by decide) pl_M_needSign (by rw [hD]; decide) (Nat.le_of_ble_eq_true rfl) rfl d_M_readPart_105 (fun o9 h9 => c_M_needSign _ _ _ _ _ o9 h9) h (fun s2 h => ?_)
  refine r_aload_n hK d_M_readPart_108 rfl 0 rfl ?_
  refine r_iconst (v := 3) hK d_M_readPart_109 (by decide) ?_
  refine r_Vi (avL := [g_i 3]) (st := []) hK ob_M rfl w8_186 wp_16 w8_184 w8_187 w1_6 (by decide) pl_M_need (by rw [hD]; decide) (Nat.le_of_ble_eq_true rfl) rfl d_M_readPart_110 (fun o9 h9 => c_M_need _ _ _ _ _ o9 h9) h (fun i3 s4 h => ?_)
  refine r_pop hK d_M_readPart_113 rfl ?_
  refine r_aload_n hK d_M_readPart_114 rfl 0 rfl ?_
  refine r_bipush (v := 40) hK d_M_readPart_115 (by decide) ?_
  refine r_Vv (avL := [g_i 40]) (st := []) hK ob_M rfl w8_194 wp_18 w8_192 w8_195 w1_6 (by decide) pl_M_needSign (by rw [hD]; decide) (Nat.le_of_ble_eq_true rfl) rfl d_M_readPart_117 (fun o9 h9 => c_M_needSign _ _ _ _ _ o9 h9) h (fun s6 h => ?_)
  refine r_aload_n hK d_M_readPart_120 rfl 0 rfl ?_
  refine r_gR hK fd_M_31 w7_63 d_M_readPart_121 h (fun p7 h => ?_)
  refine r_iload_n hK d_M_readPart_124 rfl 1 rfl ?_
  refine r_aload_n hK d_M_readPart_125 rfl 0 rfl ?_
  refine r_gI hK fd_M_34 w7_66 d_M_readPart_126 h (fun i8 h => ?_)
  refine r_iastore hK ar_20 rfl d_M_readPart_129 h (fun s9 h => ?_)
  refine r_aload_n hK d_M_readPart_130 rfl 0 rfl ?_
  refine r_gR hK fd_M_32 w7_64 d_M_readPart_131 h (fun p10 h => ?_)
  refine r_iload_n hK d_M_readPart_134 rfl 1 rfl ?_
  refine r_iconst (v := 0) hK d_M_readPart_135 (by decide) ?_
  refine r_iastore hK ar_20 rfl d_M_readPart_136 h (fun s11 h => ?_)
  refine r_aload_n hK d_M_readPart_137 rfl 0 rfl ?_
  refine r_gR hK fd_M_29 w7_61 d_M_readPart_138 h (fun p12 h => ?_)
  refine r_iload_n hK d_M_readPart_141 rfl 1 rfl ?_
  refine r_iconst (v := 0) hK d_M_readPart_142 (by decide) ?_
  refine r_zastore hK ar_31 rfl d_M_readPart_143 h (fun s13 h => ?_)
  refine r_aload_n hK d_M_readPart_144 rfl 0 rfl ?_
  refine r_gR hK fd_M_30 w7_62 d_M_readPart_145 h (fun p14 h => ?_)
  refine r_iload_n hK d_M_readPart_148 rfl 1 rfl ?_
  refine r_iconst (v := 0) hK d_M_readPart_149 (by decide) ?_
  refine r_zastore hK ar_31 rfl d_M_readPart_150 h (fun s15 h => ?_)
  refine r_iconst (v := 1) hK d_M_readPart_151 (by decide) ?_
  refine r_istore_n (ls1 := [(2, g_i 1), (0, g_r 1 r0), (1, g_i x1)]) hK d_M_readPart_152 rfl (by rw [hN]; decide) rfl ?_
  exact r_sub [1, 2, 0] rfl (t_M_readPart_153 hK hN hD _ _ _ _ _ h)
set_option maxHeartbeats 4000000 in
set_option maxRecDepth 100000 in
theorem t_M_readPart_32 {K : g_C} {o : (Unit × g_St)} (hK : g_OK K b_M_readPart "FixpointEngineModel" "readPart" (Option.none : Option Jvm.ClassFile.FieldType)) (hN : g_nL K = 4) (hD : g_Kd K = 10) : ∀ (n : Nat) (r0 : Option Nat) (x1 : Int32) (x2 : Int32) (s0 : g_St), f_M_readPart_32 n r0 x1 x2 s0 = some o → g_W K s0 [(0, g_r 1 r0), (1, g_i x1), (2, g_i x2)] [] 32 (g_jV o) := by
  intro n
  induction n with
  | zero =>
    intro r0 x1 x2 s0 h
    cases h
  | succ n ih =>
    intro r0 x1 x2 s0 h
    unfold f_M_readPart_32 at h
    refine r_iload_n hK d_M_readPart_32 rfl 2 rfl ?_
    refine r_ifeq (tgt := 102) hK d_M_readPart_33 (by decide) h (fun h => ?_) (fun h => ?_)
    · exact r_sub [0, 1] rfl (t_M_readPart_102 hK hN hD _ _ _ h)
    · refine r_aload_n hK d_M_readPart_36 rfl 0 rfl ?_
      refine r_Vi (avL := []) (st := []) hK ob_M rfl w8_178 wp_14 w8_176 w8_179 w1_6 (by decide) pl_M_bad (by rw [hD]; decide) (Nat.le_of_ble_eq_true rfl) rfl d_M_readPart_37 (fun o9 h9 => c_M_bad _ _ _ _ o9 h9) h (fun i1 s2 h => ?_)
      refine r_ifne (tgt := 102) hK d_M_readPart_40 (by decide) h (fun h => ?_) (fun h => ?_)
      · exact r_sub [0, 1] rfl (t_M_readPart_102 hK hN hD _ _ _ h)
      · refine r_aload_n hK d_M_readPart_43 rfl 0 rfl ?_
        refine r_gR hK fd_M_21 w7_53 d_M_readPart_44 h (fun p3 h => ?_)
        refine r_iconst (v := 3) hK d_M_readPart_47 (by decide) ?_
        refine r_iload_n hK d_M_readPart_48 rfl 1 rfl ?_
        refine r_imul hK d_M_readPart_49 ?_
        refine r_aload_n hK d_M_readPart_50 rfl 0 rfl ?_
        refine r_gR hK fd_M_20 w7_52 d_M_readPart_51 h (fun p4 h => ?_)
        refine r_iload_n hK d_M_readPart_54 rfl 1 rfl ?_
        refine r_iaload hK ar_20 rfl d_M_readPart_55 h (fun i5 h => ?_)
        refine r_iadd hK d_M_readPart_56 ?_
        refine r_aload_n hK d_M_readPart_57 rfl 0 rfl ?_
        refine r_bipush (v := 30) hK d_M_readPart_58 (by decide) ?_
        refine r_Vi (avL := [g_i 30]) (st := [g_i ((3 * x1) + i5), g_r 20 p3]) hK ob_M rfl w8_186 wp_16 w8_184 w8_187 w1_6 (by decide) pl_M_need (by rw [hD]; decide) (Nat.le_of_ble_eq_true rfl) rfl d_M_readPart_60 (fun o9 h9 => c_M_need _ _ _ _ _ o9 h9) h (fun i6 s7 h => ?_)
        refine r_iastore hK ar_20 rfl d_M_readPart_63 h (fun s8 h => ?_)
        refine r_aload_n hK d_M_readPart_64 rfl 0 rfl ?_
        refine r_gR hK fd_M_20 w7_52 d_M_readPart_65 h (fun p9 h => ?_)
        refine r_iload_n hK d_M_readPart_68 rfl 1 rfl ?_
        refine r_dup2_11 hK d_M_readPart_69 rfl rfl ?_
        refine r_iaload hK ar_20 rfl d_M_readPart_70 h (fun i10 h => ?_)
        refine r_iconst (v := 1) hK d_M_readPart_71 (by decide) ?_
        refine r_iadd hK d_M_readPart_72 ?_
        refine r_iastore hK ar_20 rfl d_M_readPart_73 h (fun s11 h => ?_)
        refine r_aload_n hK d_M_readPart_74 rfl 0 rfl ?_
        refine r_gR hK fd_M_20 w7_52 d_M_readPart_75 h (fun p12 h => ?_)
        refine r_iload_n hK d_M_readPart_78 rfl 1 rfl ?_
        refine r_iaload hK ar_20 rfl d_M_readPart_79 h (fun i13 h => ?_)
        refine r_iconst (v := 3) hK d_M_readPart_80 (by decide) ?_
        refine r_if_icmpge (tgt := 97) hK d_M_readPart_81 (by decide) h (fun h => ?_) (fun h => ?_)
        · refine r_iconst (v := 0) hK d_M_readPart_97 (by decide) ?_
          refine r_istore_n (ls1 := [(2, g_i 0), (0, g_r 1 r0), (1, g_i x1)]) hK d_M_readPart_98 rfl (by rw [hN]; decide) rfl ?_
          refine r_goto (tgt := 32) hK d_M_readPart_99 (by decide) ?_
          exact r_sub [1, 2, 0] rfl (ih _ _ _ _ h)
        · refine r_aload_n hK d_M_readPart_84 rfl 0 rfl ?_
          refine r_bipush (v := 44) hK d_M_readPart_85 (by decide) ?_
          refine r_Vi (avL := [g_i 44]) (st := []) hK ob_M rfl w8_198 wp_19 w8_196 w8_199 w1_6 (by decide) pl_M_skipSign (by rw [hD]; decide) (Nat.le_of_ble_eq_true rfl) rfl d_M_readPart_87 (fun o9 h9 => c_M_skipSign _ _ _ _ _ o9 h9) h (fun i14 s15 h => ?_)
          refine r_ifeq (tgt := 97) hK d_M_readPart_90 (by decide) h (fun h => ?_) (fun h => ?_)
          · refine r_iconst (v := 0) hK d_M_readPart_97 (by decide) ?_
            refine r_istore_n (ls1 := [(2, g_i 0), (0, g_r 1 r0), (1, g_i x1)]) hK d_M_readPart_98 rfl (by rw [hN]; decide) rfl ?_
            refine r_goto (tgt := 32) hK d_M_readPart_99 (by decide) ?_
            exact r_sub [1, 2, 0] rfl (ih _ _ _ _ h)
          · refine r_iconst (v := 1) hK d_M_readPart_93 (by decide) ?_
            refine r_goto (tgt := 98) hK d_M_readPart_94 (by decide) ?_
            refine r_istore_n (ls1 := [(2, g_i 1), (0, g_r 1 r0), (1, g_i x1)]) hK d_M_readPart_98 rfl (by rw [hN]; decide) rfl ?_
            refine r_goto (tgt := 32) hK d_M_readPart_99 (by decide) ?_
            exact r_sub [1, 2, 0] rfl (ih _ _ _ _ h)
set_option maxHeartbeats 4000000 in
set_option maxRecDepth 100000 in
theorem t_M_readPart_0 {K : g_C} {o : (Unit × g_St)} (hK : g_OK K b_M_readPart "FixpointEngineModel" "readPart" (Option.none : Option Jvm.ClassFile.FieldType)) (hN : g_nL K = 4) (hD : g_Kd K = 10) : ∀ (r0 : Option Nat) (s0 : g_St), f_M_readPart r0 s0 = some o → g_W K s0 [(0, g_r 1 r0)] [] 0 (g_jV o) := by
  intro r0 s0 h
  unfold f_M_readPart at h
  refine r_aload_n hK d_M_readPart_0 rfl 0 rfl ?_
  refine r_gI hK fd_M_18 w7_50 d_M_readPart_1 h (fun i1 h => ?_)
  refine r_istore_n (ls1 := [(1, g_i i1), (0, g_r 1 r0)]) hK d_M_readPart_4 rfl (by rw [hN]; decide) rfl ?_
  refine r_aload_n hK d_M_readPart_5 rfl 1 rfl ?_
  refine r_gR hK fd_M_19 w7_51 d_M_readPart_6 h (fun p2 h => ?_)
  refine r_iload_n hK d_M_readPart_9 rfl 0 rfl ?_
  refine r_aload_n hK d_M_readPart_10 rfl 1 rfl ?_
  refine r_bipush (v := 30) hK d_M_readPart_11 (by decide) ?_
  refine r_Vi (avL := [g_i 30]) (st := [g_i i1, g_r 20 p2]) hK ob_M rfl w8_186 wp_16 w8_184 w8_187 w1_6 (by decide) pl_M_need (by rw [hD]; decide) (Nat.le_of_ble_eq_true rfl) rfl d_M_readPart_13 (fun o9 h9 => c_M_need _ _ _ _ _ o9 h9) h (fun i3 s4 h => ?_)
  refine r_iastore hK ar_20 rfl d_M_readPart_16 h (fun s5 h => ?_)
  refine r_aload_n hK d_M_readPart_17 rfl 1 rfl ?_
  refine r_bipush (v := 40) hK d_M_readPart_18 (by decide) ?_
  refine r_Vv (avL := [g_i 40]) (st := []) hK ob_M rfl w8_194 wp_18 w8_192 w8_195 w1_6 (by decide) pl_M_needSign (by rw [hD]; decide) (Nat.le_of_ble_eq_true rfl) rfl d_M_readPart_20 (fun o9 h9 => c_M_needSign _ _ _ _ _ o9 h9) h (fun s7 h => ?_)
  refine r_aload_n hK d_M_readPart_23 rfl 1 rfl ?_
  refine r_gR hK fd_M_20 w7_52 d_M_readPart_24 h (fun p8 h => ?_)
  refine r_iload_n hK d_M_readPart_27 rfl 0 rfl ?_
  refine r_iconst (v := 0) hK d_M_readPart_28 (by decide) ?_
  refine r_iastore hK ar_20 rfl d_M_readPart_29 h (fun s9 h => ?_)
  refine r_iconst (v := 1) hK d_M_readPart_30 (by decide) ?_
  refine r_istore_n (ls1 := [(2, g_i 1), (1, g_i i1), (0, g_r 1 r0)]) hK d_M_readPart_31 rfl (by rw [hN]; decide) rfl ?_
  exact r_sub [2, 1, 0] rfl (t_M_readPart_32 hK hN hD _ _ _ _ _ h)
theorem c_M_readPart (l : Launch) (G : g_G) (r0 : Option Nat) (u : g_St) (o : (Unit × g_St)) (h : f_M_readPart r0 u = some o) : g_Con l G y_M_readPart b_M_readPart 4 (Option.none : Option Jvm.ClassFile.FieldType) 10 [g_r 1 r0] u (g_jV o) :=
  g_Con.of rfl rfl (by decide +kernel) (Nat.le_of_ble_eq_true rfl) (fun K hK hN hD hX => t_M_readPart_0 hK hN hD _ _ h)
