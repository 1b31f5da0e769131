def f_M_checkShapes_248 (k2 : Option Nat → Int32 → g_St → Option (Unit × g_St)) (r0 : Option Nat) (x1 : Int32) (x2 : Int32) (x4 : Int32) (s0 : g_St) : Option (Unit × g_St) :=
  g_c (g_nn r0 (f_M_isRecursive r0 x1 s0)) fun i1 s2 =>
  if i1 = 0 then
    if x4 = 0 then
      k2 r0 (x1 + 1) s2
    else
      g_c (g_nn r0 (f_M_note r0 8 x2 s2)) fun _ s4 =>
      k2 r0 (x1 + 1) s4
  else
    k2 r0 (x1 + 1) s2
def f_M_checkShapes_241 (k2 : Option Nat → Int32 → g_St → Option (Unit × g_St)) (r0 : Option Nat) (x1 : Int32) (x2 : Int32) (x4 : Int32) (s0 : g_St) : Option (Unit × g_St) :=
  g_c (g_nn r0 (f_M_note r0 7 x2 s0)) fun _ s2 =>
  f_M_checkShapes_248 k2 r0 x1 x2 x4 s2
def f_M_checkShapes_215 (k2 : Option Nat → Int32 → g_St → Option (Unit × g_St)) (r0 : Option Nat) (x1 : Int32) (x2 : Int32) (x3 : Int32) (x4 : Int32) (s0 : g_St) : Option (Unit × g_St) :=
  g_c (g_nn r0 (f_M_isRecursive r0 x1 s0)) fun i1 s2 =>
  if i1 = 0 then
    f_M_checkShapes_248 k2 r0 x1 x2 x4 s2
  else
    if x3 = 0 then
      g_gR s2 1921 r0 fun p3 =>
      g_aI s2 p3 x1 fun i4 =>
      if i4 = 0 then
        if x4 = 0 then
          f_M_checkShapes_248 k2 r0 x1 x2 x4 s2
        else
          f_M_checkShapes_241 k2 r0 x1 x2 x4 s2
      else
        f_M_checkShapes_241 k2 r0 x1 x2 x4 s2
    else
      f_M_checkShapes_248 k2 r0 x1 x2 x4 s2
def f_M_checkShapes_178 (k2 : Option Nat → Int32 → g_St → Option (Unit × g_St)) (r0 : Option Nat) (x1 : Int32) (x2 : Int32) (x3 : Int32) (x0s : Int32) (s0 : g_St) : Option (Unit × g_St) :=
  g_c (g_nn r0 (f_M_isRecursive r0 x1 s0)) fun i1 s2 =>
  if i1 = 0 then
    f_M_checkShapes_215 k2 r0 x1 x2 x3 x0s s2
  else
    g_gR s2 1985 r0 fun p3 =>
    g_aI s2 p3 x1 fun i4 =>
    g_c (g_nn r0 (f_M_named r0 i4 1 s2)) fun i5 s6 =>
    g_c (g_nn r0 (f_M_together r0 x1 s6)) fun i7 s8 =>
    if (i5 &&& i7) = 0 then
      f_M_checkShapes_215 k2 r0 x1 x2 x3 x0s s8
    else
      g_c (g_nn r0 (f_M_note r0 6 x2 s8)) fun _ s10 =>
      f_M_checkShapes_215 k2 r0 x1 x2 x3 x0s s10
def f_M_checkShapes_154 (k2 : Option Nat → Int32 → g_St → Option (Unit × g_St)) (r0 : Option Nat) (x1 : Int32) (x2 : Int32) (x3 : Int32) (s0 : g_St) : Option (Unit × g_St) :=
  g_gR s0 1409 r0 fun p1 =>
  g_aI s0 p1 x1 fun i2 =>
  if 0 < i2 then
    f_M_checkShapes_178 k2 r0 x1 x2 x3 1 s0
  else
    g_gR s0 1601 r0 fun p3 =>
    g_aI s0 p3 x1 fun i4 =>
    if i4 = (-1) then
      f_M_checkShapes_178 k2 r0 x1 x2 x3 0 s0
    else
      f_M_checkShapes_178 k2 r0 x1 x2 x3 1 s0
def f_M_checkShapes_111 (k42 : Option Nat → Int32 → Int32 → Int32 → Int32 → g_St → Option (Unit × g_St)) (r0 : Option Nat) (x1 : Int32) (x2 : Int32) (x3 : Int32) (x4 : Int32) (x5 : Int32) (s0 : g_St) : Option (Unit × g_St) :=
  g_c (g_nn r0 (f_M_timesNamed r0 x5 x1 s0)) fun i1 s2 =>
  if i1 ≤ 1 then
    k42 r0 x1 x2 x3 (x4 + 1) s2
  else
    k42 r0 x1 x2 0 (x4 + 1) s2
def f_M_checkShapes_92 (k42 : Option Nat → Int32 → Int32 → Int32 → Int32 → g_St → Option (Unit × g_St)) (r0 : Option Nat) (x1 : Int32) (x2 : Int32) (x3 : Int32) (x4 : Int32) (x5 : Int32) (s0 : g_St) : Option (Unit × g_St) :=
  g_c (g_nn r0 (f_M_isRecursive r0 x1 s0)) fun i1 s2 =>
  if i1 = 0 then
    f_M_checkShapes_111 k42 r0 x1 x2 x3 x4 x5 s2
  else
    g_c (g_nn r0 (f_M_together r0 x1 s2)) fun i3 s4 =>
    g_c (g_nn r0 (f_M_checkBarred r0 x5 i3 s4)) fun _ s6 =>
    f_M_checkShapes_111 k42 r0 x1 x2 x3 x4 x5 s6
def f_M_checkShapes_42 (k2 : Option Nat → Int32 → g_St → Option (Unit × g_St)) : Nat → Option Nat → Int32 → Int32 → Int32 → Int32 → g_St → Option (Unit × g_St)
  | 0, _, _, _, _, _, _ => none
  | n + 1, r0, x1, x2, x3, x4, s0 =>
    g_gR s0 2049 r0 fun p1 =>
    g_aI s0 p1 x1 fun i2 =>
    if i2 ≤ x4 then
      g_gR s0 1857 r0 fun p3 =>
      g_aI s0 p3 x1 fun i4 =>
      if i4 = 0 then
        f_M_checkShapes_154 k2 r0 x1 x2 x3 s0
      else
        g_gR s0 1921 r0 fun p5 =>
        g_aI s0 p5 x1 fun i6 =>
        if i6 = 0 then
          f_M_checkShapes_154 k2 r0 x1 x2 x3 s0
        else
          g_c (g_nn r0 (f_M_note r0 4 x2 s0)) fun _ s8 =>
          f_M_checkShapes_154 k2 r0 x1 x2 x3 s8
    else
      g_gR s0 1985 r0 fun p9 =>
      g_aI s0 p9 x1 fun i10 =>
      g_gR s0 2433 r0 fun p11 =>
      g_aI s0 p11 (i10 + x4) fun i12 =>
      g_gR s0 1281 r0 fun p13 =>
      g_aI s0 p13 x1 fun i14 =>
      if i12 = i14 then
        f_M_checkShapes_92 (f_M_checkShapes_42 k2 n) r0 x1 x2 x3 x4 (i10 + x4) s0
      else
        g_gR s0 2305 r0 fun p15 =>
        g_aI s0 p15 (i10 + x4) fun i16 =>
        g_c (g_nn r0 (f_M_note r0 3 i16 s0)) fun _ s18 =>
        f_M_checkShapes_92 (f_M_checkShapes_42 k2 n) r0 x1 x2 x3 x4 (i10 + x4) s18
def f_M_checkShapes_2 : Nat → Option Nat → Int32 → g_St → Option (Unit × g_St)
  | 0, _, _, _ => none
  | n + 1, r0, x1, s0 =>
    g_gI s0 1153 r0 fun i1 =>
    if i1 ≤ x1 then
      some ((), s0)
    else
      g_gR s0 705 r0 fun p2 =>
      g_gR s0 1217 r0 fun p3 =>
      g_aI s0 p3 x1 fun i4 =>
      g_aI s0 p2 i4 fun i5 =>
      g_c (g_nn r0 (f_M_together r0 x1 s0)) fun i6 s7 =>
      if i6 = (1 <<< (x1 &&& 31)) then
        f_M_checkShapes_42 (f_M_checkShapes_2 n) 200000 r0 x1 i5 1 0 s7
      else
        f_M_checkShapes_42 (f_M_checkShapes_2 n) 200000 r0 x1 i5 0 0 s7
def f_M_checkShapes (r0 : Option Nat) (s0 : g_St) : Option (Unit × g_St) :=
  f_M_checkShapes_2 200000 r0 0 s0
set_option maxHeartbeats 4000000 in
set_option maxRecDepth 100000 in
theorem t_M_checkShapes_248 {K : g_C} {o : (Unit × g_St)} (hK : g_OK K b_M_checkShapes "FixpointEngineModel" "checkShapes" (Option.none : Option Jvm.ClassFile.FieldType)) (hN : g_nL K = 6) (hD : g_Kd K = 3) {k2 : Option Nat → Int32 → g_St → Option (Unit × g_St)} (hk2 : ∀ (r0 : Option Nat) (x1 : Int32) (s0 : g_St), k2 r0 x1 s0 = some o → g_W K s0 [(0, g_r 1 r0), (1, g_i x1)] [] 2 (g_jV o)) : ∀ (r0 : Option Nat) (x1 : Int32) (x2 : Int32) (x4 : Int32) (s0 : g_St), f_M_checkShapes_248 k2 r0 x1 x2 x4 s0 = some o → g_W K s0 [(0, g_r 1 r0), (1, g_i x1), (2, g_i x2), (4, g_i x4)] [] 248 (g_jV o) := by
  intro r0 x1 x2 x4 s0 h
  unfold f_M_checkShapes_248 at h
  refine r_aload_n hK d_M_checkShapes_248 rfl 0 rfl ?_
  refine r_iload_n hK d_M_checkShapes_249 rfl 1 rfl ?_
  refine r_Vi (avL := [g_i x1]) (st := []) hK ob_M rfl w9_71 wp_47 w9_69 w9_72 w1_6 (by decide) pl_M_isRecursive (by rw [hD]; decide) (Nat.le_of_ble_eq_true rfl) rfl d_M_checkShapes_250 (fun o9 h9 => c_M_isRecursive _ _ _ _ _ o9 h9) h (fun i1 s2 h => ?_)
  refine r_ifne (tgt := 268) hK d_M_checkShapes_253 (by decide) h (fun h => ?_) (fun h => ?_)
  · refine r_iinc (ls1 := [(1, g_i (x1 + 1)), (0, g_r 1 r0), (2, g_i x2), (4, g_i x4)]) hK d_M_checkShapes_268 1 rfl rfl (by rw [hN]; decide) rfl ?_
    refine r_goto (tgt := 2) hK d_M_checkShapes_271 (by decide) ?_
    exact r_sub [1, 0] rfl (hk2 _ _ _ h)
  · refine r_iload hK d_M_checkShapes_256 3 rfl ?_
    refine r_ifeq (tgt := 268) hK d_M_checkShapes_258 (by decide) h (fun h => ?_) (fun h => ?_)
    · refine r_iinc (ls1 := [(1, g_i (x1 + 1)), (0, g_r 1 r0), (2, g_i x2), (4, g_i x4)]) hK d_M_checkShapes_268 1 rfl rfl (by rw [hN]; decide) rfl ?_
      refine r_goto (tgt := 2) hK d_M_checkShapes_271 (by decide) ?_
      exact r_sub [1, 0] rfl (hk2 _ _ _ h)
    · refine r_aload_n hK d_M_checkShapes_261 rfl 0 rfl ?_
      refine r_bipush (v := 8) hK d_M_checkShapes_262 (by decide) ?_
      refine r_iload_n hK d_M_checkShapes_264 rfl 2 rfl ?_
      refine r_Vv (avL := [g_i 8, g_i x2]) (st := []) hK ob_M rfl w8_190 wp_17 w8_188 w8_191 w1_6 (by decide) pl_M_note (by rw [hD]; decide) (Nat.le_of_ble_eq_true rfl) rfl d_M_checkShapes_265 (fun o9 h9 => c_M_note _ _ _ _ _ _ o9 h9) h (fun s4 h => ?_)
      refine r_iinc (ls1 := [(1, g_i (x1 + 1)), (0, g_r 1 r0), (2, g_i x2), (4, g_i x4)]) hK d_M_checkShapes_268 1 rfl rfl (by rw [hN]; decide) rfl ?_
      refine r_goto (tgt := 2) hK d_M_checkShapes_271 (by decide) ?_
      exact r_sub [1, 0] rfl (hk2 _ _ _ h)
set_option maxHeartbeats 4000000 in
set_option maxRecDepth 100000 in
theorem t_M_checkShapes_241 {K : g_C} {o : (Unit × g_St)} (hK : g_OK K b_M_checkShapes "FixpointEngineModel" "checkShapes" (Option.none : Option Jvm.ClassFile.FieldType)) (hN : g_nL K = 6) (hD : g_Kd K = 3) {k2 : Option Nat → Int32 → g_St → Option (Unit × g_St)} (hk2 : ∀ (r0 : Option Nat) (x1 : Int32) (s0 : g_St), k2 r0 x1 s0 = some o → g_W K s0 [(0, g_r 1 r0), (1, g_i x1)] [] 2 (g_jV o)) : ∀ (r0 : Option Nat) (x1 : Int32) (x2 : Int32) (x4 : Int32) (s0 : g_St), f_M_checkShapes_241 k2 r0 x1 x2 x4 s0 = some o → g_W K s0 [(0, g_r 1 r0), (1, g_i x1), (2, g_i x2), (4, g_i x4)] [] 241 (g_jV o) := by
  intro r0 x1 x2 x4 s0 h
  unfold f_M_checkShapes_241 at h
  refine r_aload_n hK d_M_checkShapes_241 rfl 0 rfl ?_
  refine r_bipush (v := 7) hK d_M_checkShapes_242 (by decide) ?_
  refine r_iload_n hK d_M_checkShapes_244 rfl 2 rfl ?_
  refine r_Vv (avL := [g_i 7, g_i x2]) (st := []) hK ob_M rfl w8_190 wp_17 w8_188 w8_191 w1_6 (by decide) pl_M_note (by rw [hD]; decide) (Nat.le_of_ble_eq_true rfl) rfl d_M_checkShapes_245 (fun o9 h9 => c_M_note _ _ _ _ _ _ o9 h9) h (fun s2 h => ?_)
  exact r_sub [0, 1, 2, 3] rfl (t_M_checkShapes_248 hK hN hD hk2 _ _ _ _ _ h)
set_option maxHeartbeats 4000000 in
set_option maxRecDepth 100000 in
theorem t_M_checkShapes_215 {K : g_C} {o : (Unit × g_St)} (hK : g_OK K b_M_checkShapes "FixpointEngineModel" "checkShapes" (Option.none : Option Jvm.ClassFile.FieldType)) (hN : g_nL K = 6) (hD : g_Kd K = 3) {k2 : Option Nat → Int32 → g_St → Option (Unit × g_St)} (hk2 : ∀ (r0 : Option Nat) (x1 : Int32) (s0 : g_St), k2 r0 x1 s0 = some o → g_W K s0 [(0, g_r 1 r0), (1, g_i x1)] [] 2 (g_jV o)) : ∀ (r0 : Option Nat) (x1 : Int32) (x2 : Int32) (x3 : Int32) (x4 : Int32) (s0 : g_St), f_M_checkShapes_215 k2 r0 x1 x2 x3 x4 s0 = some o → g_W K s0 [(0, g_r 1 r0), (1, g_i x1), (2, g_i x2), (3, g_i x3), (4, g_i x4)] [] 215 (g_jV o) := by
  intro r0 x1 x2 x3 x4 s0 h
  unfold f_M_checkShapes_215 at h
  refine r_aload_n hK d_M_checkShapes_215 rfl 0 rfl ?_
  refine r_iload_n hK d_M_checkShapes_216 rfl 1 rfl ?_
  refine r_Vi (avL := [g_i x1]) (st := []) hK ob_M rfl w9_71 wp_47 w9_69 w9_72 w1_6 (by decide) pl_M_isRecursive (by rw [hD]; decide) (Nat.le_of_ble_eq_true rfl) rfl d_M_checkShapes_217 (fun o9 h9 => c_M_isRecursive _ _ _ _ _ o9 h9) h (fun i1 s2 h => ?_)
  refine r_ifeq (tgt := 248) hK d_M_checkShapes_220 (by decide) h (fun h => ?_) (fun h => ?_)
  · exact r_sub [0, 1, 2, 4] rfl (t_M_checkShapes_248 hK hN hD hk2 _ _ _ _ _ h)
  · refine r_iload_n hK d_M_checkShapes_223 rfl 3 rfl ?_
    refine r_ifne (tgt := 248) hK d_M_checkShapes_224 (by decide) h (fun h => ?_) (fun h => ?_)
    · exact r_sub [0, 1, 2, 4] rfl (t_M_checkShapes_248 hK hN hD hk2 _ _ _ _ _ h)
    · refine r_aload_n hK d_M_checkShapes_227 rfl 0 rfl ?_
      refine r_gR hK fd_M_30 w7_62 d_M_checkShapes_228 h (fun p3 h => ?_)
      refine r_iload_n hK d_M_checkShapes_231 rfl 1 rfl ?_
      refine r_zaload hK ar_31 rfl d_M_checkShapes_232 h (fun i4 h => ?_)
      refine r_ifne (tgt := 241) hK d_M_checkShapes_233 (by decide) h (fun h => ?_) (fun h => ?_)
      · exact r_sub [0, 1, 2, 4] rfl (t_M_checkShapes_241 hK hN hD hk2 _ _ _ _ _ h)
      · refine r_iload hK d_M_checkShapes_236 4 rfl ?_
        refine r_ifeq (tgt := 248) hK d_M_checkShapes_238 (by decide) h (fun h => ?_) (fun h => ?_)
        · exact r_sub [0, 1, 2, 4] rfl (t_M_checkShapes_248 hK hN hD hk2 _ _ _ _ _ h)
        · exact r_sub [0, 1, 2, 4] rfl (t_M_checkShapes_241 hK hN hD hk2 _ _ _ _ _ h)
set_option maxHeartbeats 4000000 in
set_option maxRecDepth 100000 in
theorem t_M_checkShapes_178 {K : g_C} {o : (Unit × g_St)} (hK : g_OK K b_M_checkShapes "FixpointEngineModel" "checkShapes" (Option.none : Option Jvm.ClassFile.FieldType)) (hN : g_nL K = 6) (hD : g_Kd K = 3) {k2 : Option Nat → Int32 → g_St → Option (Unit × g_St)} (hk2 : ∀ (r0 : Option Nat) (x1 : Int32) (s0 : g_St), k2 r0 x1 s0 = some o → g_W K s0 [(0, g_r 1 r0), (1, g_i x1)] [] 2 (g_jV o)) : ∀ (r0 : Option Nat) (x1 : Int32) (x2 : Int32) (x3 : Int32) (x0s : Int32) (s0 : g_St), f_M_checkShapes_178 k2 r0 x1 x2 x3 x0s s0 = some o → g_W K s0 [(0, g_r 1 r0), (1, g_i x1), (2, g_i x2), (3, g_i x3)] [g_i x0s] 178 (g_jV o) := by
  intro r0 x1 x2 x3 x0s s0 h
  unfold f_M_checkShapes_178 at h
  refine r_istore (ls1 := [(4, g_i x0s), (0, g_r 1 r0), (1, g_i x1), (2, g_i x2), (3, g_i x3)]) hK d_M_checkShapes_178 (by rw [hN]; decide) rfl ?_
  refine r_aload_n hK d_M_checkShapes_180 rfl 1 rfl ?_
  refine r_iload_n hK d_M_checkShapes_181 rfl 2 rfl ?_
  refine r_Vi (avL := [g_i x1]) (st := []) hK ob_M rfl w9_71 wp_47 w9_69 w9_72 w1_6 (by decide) pl_M_isRecursive (by rw [hD]; decide) (Nat.le_of_ble_eq_true rfl) rfl d_M_checkShapes_182 (fun o9 h9 => c_M_isRecursive _ _ _ _ _ o9 h9) h (fun i1 s2 h => ?_)
  refine r_ifeq (tgt := 215) hK d_M_checkShapes_185 (by decide) h (fun h => ?_) (fun h => ?_)
  · exact r_sub [1, 2, 3, 4, 0] rfl (t_M_checkShapes_215 hK hN hD hk2 _ _ _ _ _ _ h)
  · refine r_aload_n hK d_M_checkShapes_188 rfl 1 rfl ?_
    refine r_aload_n hK d_M_checkShapes_189 rfl 1 rfl ?_
    refine r_gR hK fd_M_31 w7_63 d_M_checkShapes_190 h (fun p3 h => ?_)
    refine r_iload_n hK d_M_checkShapes_193 rfl 2 rfl ?_
    refine r_iaload hK ar_20 rfl d_M_checkShapes_194 h (fun i4 h => ?_)
    refine r_iconst (v := 1) hK d_M_checkShapes_195 (by decide) ?_
    refine r_Vi (avL := [g_i i4, g_i 1]) (st := []) hK ob_M rfl w9_55 wp_43 w9_53 w9_56 w1_6 (by decide) pl_M_named (by rw [hD]; decide) (Nat.le_of_ble_eq_true rfl) rfl d_M_checkShapes_196 (fun o9 h9 => c_M_named _ _ _ _ _ _ o9 h9) h (fun i5 s6 h => ?_)
    refine r_aload_n hK d_M_checkShapes_199 rfl 1 rfl ?_
    refine r_iload_n hK d_M_checkShapes_200 rfl 2 rfl ?_
    refine r_Vi (avL := [g_i x1]) (st := [g_i i5]) hK ob_M rfl w9_63 wp_45 w9_61 w9_64 w1_6 (by decide) pl_M_together (by rw [hD]; decide) (Nat.le_of_ble_eq_true rfl) rfl d_M_checkShapes_201 (fun o9 h9 => c_M_together _ _ _ _ _ o9 h9) h (fun i7 s8 h => ?_)
    refine r_iand hK d_M_checkShapes_204 ?_
    refine r_ifeq (tgt := 215) hK d_M_checkShapes_205 (by decide) h (fun h => ?_) (fun h => ?_)
    · exact r_sub [1, 2, 3, 4, 0] rfl (t_M_checkShapes_215 hK hN hD hk2 _ _ _ _ _ _ h)
    · refine r_aload_n hK d_M_checkShapes_208 rfl 1 rfl ?_
      refine r_bipush (v := 6) hK d_M_checkShapes_209 (by decide) ?_
      refine r_iload_n hK d_M_checkShapes_211 rfl 3 rfl ?_
      refine r_Vv (avL := [g_i 6, g_i x2]) (st := []) hK ob_M rfl w8_190 wp_17 w8_188 w8_191 w1_6 (by decide) pl_M_note (by rw [hD]; decide) (Nat.le_of_ble_eq_true rfl) rfl d_M_checkShapes_212 (fun o9 h9 => c_M_note _ _ _ _ _ _ o9 h9) h (fun s10 h => ?_)
      exact r_sub [1, 2, 3, 4, 0] rfl (t_M_checkShapes_215 hK hN hD hk2 _ _ _ _ _ _ h)
set_option maxHeartbeats 4000000 in
set_option maxRecDepth 100000 in
theorem t_M_checkShapes_154 {K : g_C} {o : (Unit × g_St)} (hK : g_OK K b_M_checkShapes "FixpointEngineModel" "checkShapes" (Option.none : Option Jvm.ClassFile.FieldType)) (hN : g_nL K = 6) (hD : g_Kd K = 3) {k2 : Option Nat → Int32 → g_St → Option (Unit × g_St)} (hk2 : ∀ (r0 : Option Nat) (x1 : Int32) (s0 : g_St), k2 r0 x1 s0 = some o → g_W K s0 [(0, g_r 1 r0), (1, g_i x1)] [] 2 (g_jV o)) : ∀ (r0 : Option Nat) (x1 : Int32) (x2 : Int32) (x3 : Int32) (s0 : g_St), f_M_checkShapes_154 k2 r0 x1 x2 x3 s0 = some o → g_W K s0 [(0, g_r 1 r0), (1, g_i x1), (2, g_i x2), (3, g_i x3)] [] 154 (g_jV o) := by
  intro r0 x1 x2 x3 s0 h
  unfold f_M_checkShapes_154 at h
  refine r_aload_n hK d_M_checkShapes_154 rfl 0 rfl ?_
  refine r_gR hK fd_M_22 w7_54 d_M_checkShapes_155 h (fun p1 h => ?_)
  refine r_iload_n hK d_M_checkShapes_158 rfl 1 rfl ?_
  refine r_iaload hK ar_20 rfl d_M_checkShapes_159 h (fun i2 h => ?_)
  refine r_ifgt (tgt := 173) hK d_M_checkShapes_160 (by decide) h (fun h => ?_) (fun h => ?_)
  · refine r_iconst (v := 1) hK d_M_checkShapes_173 (by decide) ?_
    refine r_goto (tgt := 178) hK d_M_checkShapes_174 (by decide) ?_
    exact r_sub [0, 1, 2, 3] rfl (t_M_checkShapes_178 hK hN hD hk2 _ _ _ _ _ _ h)
  · refine r_aload_n hK d_M_checkShapes_163 rfl 0 rfl ?_
    refine r_gR hK fd_M_25 w7_57 d_M_checkShapes_164 h (fun p3 h => ?_)
    refine r_iload_n hK d_M_checkShapes_167 rfl 1 rfl ?_
    refine r_iaload hK ar_20 rfl d_M_checkShapes_168 h (fun i4 h => ?_)
    refine r_iconst (v := (-1)) hK d_M_checkShapes_169 (by decide) ?_
    refine r_if_icmpeq (tgt := 177) hK d_M_checkShapes_170 (by decide) h (fun h => ?_) (fun h => ?_)
    · refine r_iconst (v := 0) hK d_M_checkShapes_177 (by decide) ?_
      exact r_sub [0, 1, 2, 3] rfl (t_M_checkShapes_178 hK hN hD hk2 _ _ _ _ _ _ h)
    · refine r_iconst (v := 1) hK d_M_checkShapes_173 (by decide) ?_
      refine r_goto (tgt := 178) hK d_M_checkShapes_174 (by decide) ?_
      exact r_sub [0, 1, 2, 3] rfl (t_M_checkShapes_178 hK hN hD hk2 _ _ _ _ _ _ h)
set_option maxHeartbeats 4000000 in
set_option maxRecDepth 100000 in
theorem t_M_checkShapes_111 {K : g_C} {o : (Unit × g_St)} (hK : g_OK K b_M_checkShapes "FixpointEngineModel" "checkShapes" (Option.none : Option Jvm.ClassFile.FieldType)) (hN : g_nL K = 6) (hD : g_Kd K = 3) {k42 : Option Nat → Int32 → Int32 → Int32 → Int32 → g_St → Option (Unit × g_St)} (hk42 : ∀ (r0 : Option Nat) (x1 : Int32) (x2 : Int32) (x3 : Int32) (x4 : Int32) (s0 : g_St), k42 r0 x1 x2 x3 x4 s0 = some o → g_W K s0 [(0, g_r 1 r0), (1, g_i x1), (2, g_i x2), (3, g_i x3), (4, g_i x4)] [] 42 (g_jV o)) : ∀ (r0 : Option Nat) (x1 : Int32) (x2 : Int32) (x3 : Int32) (x4 : Int32) (x5 : Int32) (s0 : g_St), f_M_checkShapes_111 k42 r0 x1 x2 x3 x4 x5 s0 = some o → g_W K s0 [(0, g_r 1 r0), (1, g_i x1), (2, g_i x2), (3, g_i x3), (4, g_i x4), (5, g_i x5)] [] 111 (g_jV o) := by
  intro r0 x1 x2 x3 x4 x5 s0 h
  unfold f_M_checkShapes_111 at h
  refine r_aload_n hK d_M_checkShapes_111 rfl 0 rfl ?_
  refine r_iload hK d_M_checkShapes_112 5 rfl ?_
  refine r_iload_n hK d_M_checkShapes_114 rfl 1 rfl ?_
  refine r_Vi (avL := [g_i x5, g_i x1]) (st := []) hK ob_M rfl w9_79 wp_49 w9_77 w9_80 w1_6 (by decide) pl_M_timesNamed (by rw [hD]; decide) (Nat.le_of_ble_eq_true rfl) rfl d_M_checkShapes_115 (fun o9 h9 => c_M_timesNamed _ _ _ _ _ _ o9 h9) h (fun i1 s2 h => ?_)
  refine r_iconst (v := 1) hK d_M_checkShapes_118 (by decide) ?_
  refine r_if_icmple (tgt := 124) hK d_M_checkShapes_119 (by decide) h (fun h => ?_) (fun h => ?_)
  · refine r_iinc (ls1 := [(4, g_i (x4 + 1)), (0, g_r 1 r0), (1, g_i x1), (2, g_i x2), (3, g_i x3), (5, g_i x5)]) hK d_M_checkShapes_124 4 rfl rfl (by rw [hN]; decide) rfl ?_
    refine r_goto (tgt := 42) hK d_M_checkShapes_127 (by decide) ?_
    exact r_sub [1, 2, 3, 4, 0] rfl (hk42 _ _ _ _ _ _ h)
  · refine r_iconst (v := 0) hK d_M_checkShapes_122 (by decide) ?_
    refine r_istore_n (ls1 := [(3, g_i 0), (0, g_r 1 r0), (1, g_i x1), (2, g_i x2), (4, g_i x4), (5, g_i x5)]) hK d_M_checkShapes_123 rfl (by rw [hN]; decide) rfl ?_
    refine r_iinc (ls1 := [(4, g_i (x4 + 1)), (3, g_i 0), (0, g_r 1 r0), (1, g_i x1), (2, g_i x2), (5, g_i x5)]) hK d_M_checkShapes_124 4 rfl rfl (by rw [hN]; decide) rfl ?_
    refine r_goto (tgt := 42) hK d_M_checkShapes_127 (by decide) ?_
    exact r_sub [2, 3, 4, 1, 0] rfl (hk42 _ _ _ _ _ _ h)
set_option maxHeartbeats 4000000 in
set_option maxRecDepth 100000 in
theorem t_M_checkShapes_92 {K : g_C} {o : (Unit × g_St)} (hK : g_OK K b_M_checkShapes "FixpointEngineModel" "checkShapes" (Option.none : Option Jvm.ClassFile.FieldType)) (hN : g_nL K = 6) (hD : g_Kd K = 3) {k42 : Option Nat → Int32 → Int32 → Int32 → Int32 → g_St → Option (Unit × g_St)} (hk42 : ∀ (r0 : Option Nat) (x1 : Int32) (x2 : Int32) (x3 : Int32) (x4 : Int32) (s0 : g_St), k42 r0 x1 x2 x3 x4 s0 = some o → g_W K s0 [(0, g_r 1 r0), (1, g_i x1), (2, g_i x2), (3, g_i x3), (4, g_i x4)] [] 42 (g_jV o)) : ∀ (r0 : Option Nat) (x1 : Int32) (x2 : Int32) (x3 : Int32) (x4 : Int32) (x5 : Int32) (s0 : g_St), f_M_checkShapes_92 k42 r0 x1 x2 x3 x4 x5 s0 = some o → g_W K s0 [(0, g_r 1 r0), (1, g_i x1), (2, g_i x2), (3, g_i x3), (4, g_i x4), (5, g_i x5)] [] 92 (g_jV o) := by
  intro r0 x1 x2 x3 x4 x5 s0 h
  unfold f_M_checkShapes_92 at h
  refine r_aload_n hK d_M_checkShapes_92 rfl 0 rfl ?_
  refine r_iload_n hK d_M_checkShapes_93 rfl 1 rfl ?_
  refine r_Vi (avL := [g_i x1]) (st := []) hK ob_M rfl w9_71 wp_47 w9_69 w9_72 w1_6 (by decide) pl_M_isRecursive (by rw [hD]; decide) (Nat.le_of_ble_eq_true rfl) rfl d_M_checkShapes_94 (fun o9 h9 => c_M_isRecursive _ _ _ _ _ o9 h9) h (fun i1 s2 h => ?_)
  refine r_ifeq (tgt := 111) hK d_M_checkShapes_97 (by decide) h (fun h => ?_) (fun h => ?_)
  · exact r_sub [0, 1, 2, 3, 4, 5] rfl (t_M_checkShapes_111 hK hN hD hk42 _ _ _ _ _ _ _ h)
  · refine r_aload_n hK d_M_checkShapes_100 rfl 0 rfl ?_
    refine r_iload hK d_M_checkShapes_101 5 rfl ?_
    refine r_aload_n hK d_M_checkShapes_103 rfl 0 rfl ?_
    refine r_iload_n hK d_M_checkShapes_104 rfl 1 rfl ?_
    refine r_Vi (avL := [g_i x1]) (st := [g_i x5, g_r 1 r0]) hK ob_M rfl w9_63 wp_45 w9_61 w9_64 w1_6 (by decide) pl_M_together (by rw [hD]; decide) (Nat.le_of_ble_eq_true rfl) rfl d_M_checkShapes_105 (fun o9 h9 => c_M_together _ _ _ _ _ o9 h9) h (fun i3 s4 h => ?_)
    refine r_Vv (avL := [g_i x5, g_i i3]) (st := []) hK ob_M rfl w9_75 wp_48 w9_73 w9_76 w1_6 (by decide) pl_M_checkBarred (by rw [hD]; decide) (Nat.le_of_ble_eq_true rfl) rfl d_M_checkShapes_108 (fun o9 h9 => c_M_checkBarred _ _ _ _ _ _ o9 h9) h (fun s6 h => ?_)
    exact r_sub [0, 1, 2, 3, 4, 5] rfl (t_M_checkShapes_111 hK hN hD hk42 _ _ _ _ _ _ _ h)
set_option maxHeartbeats 4000000 in
set_option maxRecDepth 100000 in
theorem t_M_checkShapes_42 {K : g_C} {o : (Unit × g_St)} (hK : g_OK K b_M_checkShapes "FixpointEngineModel" "checkShapes" (Option.none : Option Jvm.ClassFile.FieldType)) (hN : g_nL K = 6) (hD : g_Kd K = 3) {k2 : Option Nat → Int32 → g_St → Option (Unit × g_St)} (hk2 : ∀ (r0 : Option Nat) (x1 : Int32) (s0 : g_St), k2 r0 x1 s0 = some o → g_W K s0 [(0, g_r 1 r0), (1, g_i x1)] [] 2 (g_jV o)) : ∀ (n : Nat) (r0 : Option Nat) (x1 : Int32) (x2 : Int32) (x3 : Int32) (x4 : Int32) (s0 : g_St), f_M_checkShapes_42 k2 n r0 x1 x2 x3 x4 s0 = some o → g_W K s0 [(0, g_r 1 r0), (1, g_i x1), (2, g_i x2), (3, g_i x3), (4, g_i x4)] [] 42 (g_jV o) := by
  intro n
  induction n with
  | zero =>
    intro r0 x1 x2 x3 x4 s0 h
    cases h
  | succ n ih =>
    intro r0 x1 x2 x3 x4 s0 h
    unfold f_M_checkShapes_42 at h
    refine r_iload hK d_M_checkShapes_42 4 rfl ?_
    refine r_aload_n hK d_M_checkShapes_44 rfl 0 rfl ?_
    refine r_gR hK fd_M_32 w7_64 d_M_checkShapes_45 h (fun p1 h => ?_)
    refine r_iload_n hK d_M_checkShapes_48 rfl 1 rfl ?_
    refine r_iaload hK ar_20 rfl d_M_checkShapes_49 h (fun i2 h => ?_)
    refine r_if_icmpge (tgt := 130) hK d_M_checkShapes_50 (by decide) h (fun h => ?_) (fun h => ?_)
    · refine r_aload_n hK d_M_checkShapes_130 rfl 0 rfl ?_
      refine r_gR hK fd_M_29 w7_61 d_M_checkShapes_131 h (fun p3 h => ?_)
      refine r_iload_n hK d_M_checkShapes_134 rfl 1 rfl ?_
      refine r_zaload hK ar_31 rfl d_M_checkShapes_135 h (fun i4 h => ?_)
      refine r_ifeq (tgt := 154) hK d_M_checkShapes_136 (by decide) h (fun h => ?_) (fun h => ?_)
      · exact r_sub [0, 1, 2, 3] rfl (t_M_checkShapes_154 hK hN hD hk2 _ _ _ _ _ h)
      · refine r_aload_n hK d_M_checkShapes_139 rfl 0 rfl ?_
        refine r_gR hK fd_M_30 w7_62 d_M_checkShapes_140 h (fun p5 h => ?_)
        refine r_iload_n hK d_M_checkShapes_143 rfl 1 rfl ?_
        refine r_zaload hK ar_31 rfl d_M_checkShapes_144 h (fun i6 h => ?_)
        refine r_ifeq (tgt := 154) hK d_M_checkShapes_145 (by decide) h (fun h => ?_) (fun h => ?_)
        · exact r_sub [0, 1, 2, 3] rfl (t_M_checkShapes_154 hK hN hD hk2 _ _ _ _ _ h)
        · refine r_aload_n hK d_M_checkShapes_148 rfl 0 rfl ?_
          refine r_iconst (v := 4) hK d_M_checkShapes_149 (by decide) ?_
          refine r_iload_n hK d_M_checkShapes_150 rfl 2 rfl ?_
          refine r_Vv (avL := [g_i 4, g_i x2]) (st := []) hK ob_M rfl w8_190 wp_17 w8_188 w8_191 w1_6 (by decide) pl_M_note (by rw [hD]; decide) (Nat.le_of_ble_eq_true rfl) rfl d_M_checkShapes_151 (fun o9 h9 => c_M_note _ _ _ _ _ _ o9 h9) h (fun s8 h => ?_)
          exact r_sub [0, 1, 2, 3] rfl (t_M_checkShapes_154 hK hN hD hk2 _ _ _ _ _ h)
    · refine r_aload_n hK d_M_checkShapes_53 rfl 0 rfl ?_
      refine r_gR hK fd_M_31 w7_63 d_M_checkShapes_54 h (fun p9 h => ?_)
      refine r_iload_n hK d_M_checkShapes_57 rfl 1 rfl ?_
      refine r_iaload hK ar_20 rfl d_M_checkShapes_58 h (fun i10 h => ?_)
      refine r_iload hK d_M_checkShapes_59 4 rfl ?_
      refine r_iadd hK d_M_checkShapes_61 ?_
      refine r_istore (ls1 := [(5, g_i (i10 + x4)), (0, g_r 1 r0), (1, g_i x1), (2, g_i x2), (3, g_i x3), (4, g_i x4)]) hK d_M_checkShapes_62 (by rw [hN]; decide) rfl ?_
      refine r_aload_n hK d_M_checkShapes_64 rfl 1 rfl ?_
      refine r_gR hK fd_M_38 w7_70 d_M_checkShapes_65 h (fun p11 h => ?_)
      refine r_iload hK d_M_checkShapes_68 0 rfl ?_
      refine r_iaload hK ar_20 rfl d_M_checkShapes_70 h (fun i12 h => ?_)
      refine r_aload_n hK d_M_checkShapes_71 rfl 1 rfl ?_
      refine r_gR hK fd_M_20 w7_52 d_M_checkShapes_72 h (fun p13 h => ?_)
      refine r_iload_n hK d_M_checkShapes_75 rfl 2 rfl ?_
      refine r_iaload hK ar_20 rfl d_M_checkShapes_76 h (fun i14 h => ?_)
      refine r_if_icmpeq (tgt := 92) hK d_M_checkShapes_77 (by decide) h (fun h => ?_) (fun h => ?_)
      · exact r_sub [1, 2, 3, 4, 5, 0] rfl (t_M_checkShapes_92 hK hN hD ih _ _ _ _ _ _ _ h)
      · refine r_aload_n hK d_M_checkShapes_80 rfl 1 rfl ?_
        refine r_iconst (v := 3) hK d_M_checkShapes_81 (by decide) ?_
        refine r_aload_n hK d_M_checkShapes_82 rfl 1 rfl ?_
        refine r_gR hK fd_M_36 w7_68 d_M_checkShapes_83 h (fun p15 h => ?_)
        refine r_iload hK d_M_checkShapes_86 0 rfl ?_
        refine r_iaload hK ar_20 rfl d_M_checkShapes_88 h (fun i16 h => ?_)
        refine r_Vv (avL := [g_i 3, g_i i16]) (st := []) hK ob_M rfl w8_190 wp_17 w8_188 w8_191 w1_6 (by decide) pl_M_note (by rw [hD]; decide) (Nat.le_of_ble_eq_true rfl) rfl d_M_checkShapes_89 (fun o9 h9 => c_M_note _ _ _ _ _ _ o9 h9) h (fun s18 h => ?_)
        exact r_sub [1, 2, 3, 4, 5, 0] rfl (t_M_checkShapes_92 hK hN hD ih _ _ _ _ _ _ _ h)
set_option maxHeartbeats 4000000 in
set_option maxRecDepth 100000 in
theorem t_M_checkShapes_2 {K : g_C} {o : (Unit × g_St)} (hK : g_OK K b_M_checkShapes "FixpointEngineModel" "checkShapes" (Option.none : Option Jvm.ClassFile.FieldType)) (hN : g_nL K = 6) (hD : g_Kd K = 3) : ∀ (n : Nat) (r0 : Option Nat) (x1 : Int32) (s0 : g_St), f_M_checkShapes_2 n r0 x1 s0 = some o → g_W K s0 [(0, g_r 1 r0), (1, g_i x1)] [] 2 (g_jV o) := by
  intro n
  induction n with
  | zero =>
    intro r0 x1 s0 h
    cases h
  | succ n ih =>
    intro r0 x1 s0 h
    unfold f_M_checkShapes_2 at h
    refine r_iload_n hK d_M_checkShapes_2 rfl 1 rfl ?_
    refine r_aload_n hK d_M_checkShapes_3 rfl 0 rfl ?_
    refine r_gI hK fd_M_18 w7_50 d_M_checkShapes_4 h (fun i1 h => ?_)
    refine r_if_icmpge (tgt := 274) hK d_M_checkShapes_7 (by decide) h (fun h => ?_) (fun h => ?_)
    · exact r_return hK d_M_checkShapes_274 h
    · refine r_aload_n hK d_M_checkShapes_10 rfl 0 rfl ?_
      refine r_gR hK fd_M_11 w7_43 d_M_checkShapes_11 h (fun p2 h => ?_)
      refine r_aload_n hK d_M_checkShapes_14 rfl 0 rfl ?_
      refine r_gR hK fd_M_19 w7_51 d_M_checkShapes_15 h (fun p3 h => ?_)
      refine r_iload_n hK d_M_checkShapes_18 rfl 1 rfl ?_
      refine r_iaload hK ar_20 rfl d_M_checkShapes_19 h (fun i4 h => ?_)
      refine r_iaload hK ar_20 rfl d_M_checkShapes_20 h (fun i5 h => ?_)
      refine r_istore_n (ls1 := [(2, g_i i5), (0, g_r 1 r0), (1, g_i x1)]) hK d_M_checkShapes_21 rfl (by rw [hN]; decide) rfl ?_
      refine r_aload_n hK d_M_checkShapes_22 rfl 1 rfl ?_
      refine r_iload_n hK d_M_checkShapes_23 rfl 2 rfl ?_
      refine r_Vi (avL := [g_i x1]) (st := []) hK ob_M rfl w9_63 wp_45 w9_61 w9_64 w1_6 (by decide) pl_M_together (by rw [hD]; decide) (Nat.le_of_ble_eq_true rfl) rfl d_M_checkShapes_24 (fun o9 h9 => c_M_together _ _ _ _ _ o9 h9) h (fun i6 s7 h => ?_)
      refine r_iconst (v := 1) hK d_M_checkShapes_27 (by decide) ?_
      refine r_iload_n hK d_M_checkShapes_28 rfl 2 rfl ?_
      refine r_ishl hK d_M_checkShapes_29 ?_
      refine r_if_icmpne (tgt := 37) hK d_M_checkShapes_30 (by decide) h (fun h => ?_) (fun h => ?_)
      · refine r_iconst (v := 0) hK d_M_checkShapes_37 (by decide) ?_
        refine r_istore_n (ls1 := [(3, g_i 0), (2, g_i i5), (0, g_r 1 r0), (1, g_i x1)]) hK d_M_checkShapes_38 rfl (by rw [hN]; decide) rfl ?_
        refine r_iconst (v := 0) hK d_M_checkShapes_39 (by decide) ?_
        refine r_istore (ls1 := [(4, g_i 0), (3, g_i 0), (2, g_i i5), (0, g_r 1 r0), (1, g_i x1)]) hK d_M_checkShapes_40 (by rw [hN]; decide) rfl ?_
        exact r_sub [3, 4, 2, 1, 0] rfl (t_M_checkShapes_42 hK hN hD ih _ _ _ _ _ _ _ h)
      · refine r_iconst (v := 1) hK d_M_checkShapes_33 (by decide) ?_
        refine r_goto (tgt := 38) hK d_M_checkShapes_34 (by decide) ?_
        refine r_istore_n (ls1 := [(3, g_i 1), (2, g_i i5), (0, g_r 1 r0), (1, g_i x1)]) hK d_M_checkShapes_38 rfl (by rw [hN]; decide) rfl ?_
        refine r_iconst (v := 0) hK d_M_checkShapes_39 (by decide) ?_
        refine r_istore (ls1 := [(4, g_i 0), (3, g_i 1), (2, g_i i5), (0, g_r 1 r0), (1, g_i x1)]) hK d_M_checkShapes_40 (by rw [hN]; decide) rfl ?_
        exact r_sub [3, 4, 2, 1, 0] rfl (t_M_checkShapes_42 hK hN hD ih _ _ _ _ _ _ _ h)
set_option maxHeartbeats 4000000 in
set_option maxRecDepth 100000 in
theorem t_M_checkShapes_0 {K : g_C} {o : (Unit × g_St)} (hK : g_OK K b_M_checkShapes "FixpointEngineModel" "checkShapes" (Option.none : Option Jvm.ClassFile.FieldType)) (hN : g_nL K = 6) (hD : g_Kd K = 3) : ∀ (r0 : Option Nat) (s0 : g_St), f_M_checkShapes r0 s0 = some o → g_W K s0 [(0, g_r 1 r0)] [] 0 (g_jV o) := by
  intro r0 s0 h
  unfold f_M_checkShapes at h
  refine r_iconst (v := 0) hK d_M_checkShapes_0 (by decide) ?_
  refine r_istore_n (ls1 := [(1, g_i 0), (0, g_r 1 r0)]) hK d_M_checkShapes_1 rfl (by rw [hN]; decide) rfl ?_
  exact r_sub [1, 0] rfl (t_M_checkShapes_2 hK hN hD _ _ _ _ h)
theorem c_M_checkShapes (l : Launch) (G : g_G) (r0 : Option Nat) (u : g_St) (o : (Unit × g_St)) (h : f_M_checkShapes r0 u = some o) : g_Con l G y_M_checkShapes b_M_checkShapes 6 (Option.none : Option Jvm.ClassFile.FieldType) 3 [g_r 1 r0] u (g_jV o) :=
  g_Con.of rfl rfl (by decide +kernel) (Nat.le_of_ble_eq_true rfl) (fun K hK hN hD hX => t_M_checkShapes_0 hK hN hD _ _ h)
def f_M_prepare_208 (r0 : Option Nat) (r0s : Option Nat) (x1s : Int32) (s0 : g_St) : Option (Int32 × g_St) :=
  g_pZ s0 1025 r0s x1s fun s1 =>
  g_gI s1 1025 r0 fun i2 =>
  if i2 = 0 then
    some (0, s1)
  else
    g_gI s1 1153 r0 fun i3 =>
    some (i3, s1)
def f_M_prepare_192 (r0 : Option Nat) (r0s : Option Nat) (x1s : Int32) (s0 : g_St) : Option (Int32 × g_St) :=
  g_pI s0 1 r0s x1s fun s1 =>
  g_gI s1 1 r0 fun i2 =>
  if i2 = 0 then
    f_M_prepare_208 r0 r0 1 s1
  else
    f_M_prepare_208 r0 r0 0 s1
def f_M_prepare_176 (r0 : Option Nat) (r0s : Option Nat) (x1s : Int32) (s0 : g_St) : Option (Int32 × g_St) :=
  g_pI s0 961 r0s x1s fun s1 =>
  g_gI s1 833 r0 fun i2 =>
  if i2 = 0 then
    f_M_prepare_192 r0 r0 0 s1
  else
    f_M_prepare_192 r0 r0 1 s1
def f_M_prepare_152 (r0 : Option Nat) (s0 : g_St) : Option (Int32 × g_St) :=
  g_gI s0 833 r0 fun i1 =>
  if i1 = 0 then
    f_M_prepare_176 r0 r0 0 s0
  else
    g_gI s0 833 r0 fun i2 =>
    g_gI s0 897 r0 fun i3 =>
    f_M_prepare_176 r0 r0 (i2 + (10 * i3)) s0
def f_M_prepare_137 (r0 : Option Nat) (s0 : g_St) : Option (Int32 × g_St) :=
  g_gI s0 833 r0 fun i1 =>
  if i1 = 0 then
    g_c (g_nn r0 (f_M_findComponents r0 s0)) fun _ s3 =>
    g_c (g_nn r0 (f_M_checkShapes r0 s3)) fun _ s5 =>
    f_M_prepare_152 r0 s5
  else
    f_M_prepare_152 r0 s0
def f_M_prepare_108 : Nat → Option Nat → Int32 → g_St → Option (Int32 × g_St)
  | 0, _, _, _ => none
  | n + 1, r0, x1, s0 =>
    g_gI s0 2177 r0 fun i1 =>
    if i1 ≤ x1 then
      g_gI s0 2177 r0 fun i2 =>
      g_c (g_nn r0 (f_M_resolveOrder r0 (i2 - 1) s0)) fun _ s4 =>
      f_M_prepare_137 r0 s4
    else
      g_c (g_nn r0 (f_M_resolveSelection r0 x1 s0)) fun _ s6 =>
      f_M_prepare_108 n r0 (x1 + 1) s6
def f_M_prepare_87 : Nat → Option Nat → Int32 → g_St → Option (Int32 × g_St)
  | 0, _, _, _ => none
  | n + 1, r0, x1, s0 =>
    g_gI s0 1153 r0 fun i1 =>
    if i1 ≤ x1 then
      f_M_prepare_108 200000 r0 0 s0
    else
      g_c (g_nn r0 (f_M_resolvePart r0 x1 s0)) fun _ s3 =>
      f_M_prepare_87 n r0 (x1 + 1) s3
def f_M_prepare (r0 : Option Nat) (s0 : g_St) : Option (Int32 × g_St) :=
  g_pI s0 833 r0 0 fun s1 =>
  g_pI s1 897 r0 0 fun s2 =>
  g_pZ s2 1025 r0 0 fun s3 =>
  g_pZ s3 1089 r0 0 fun s4 =>
  g_pI s4 1153 r0 0 fun s5 =>
  g_pI s5 2177 r0 0 fun s6 =>
  g_pI s6 2817 r0 0 fun s7 =>
  g_pI s7 3009 r0 0 fun s8 =>
  g_pI s8 3073 r0 0 fun s9 =>
  g_pI s9 3585 r0 0 fun s10 =>
  g_pI s10 3841 r0 0 fun s11 =>
  g_pI s11 4353 r0 0 fun s12 =>
  g_pI s12 577 r0 0 fun s13 =>
  g_c (g_nn r0 (f_M_scan r0 s13)) fun _ s15 =>
  g_pI s15 321 r0 0 fun s16 =>
  g_c (g_nn r0 (f_M_readQuery r0 s16)) fun _ s18 =>
  g_c (g_nn r0 (f_M_bad r0 s18)) fun i19 s20 =>
  if i19 = 0 then
    f_M_prepare_87 200000 r0 0 s20
  else
    f_M_prepare_137 r0 s20
set_option maxHeartbeats 4000000 in
set_option maxRecDepth 100000 in
theorem t_M_prepare_208 {K : g_C} {o : (Int32 × g_St)} (hK : g_OK K b_M_prepare "FixpointEngineModel" "prepare" (Option.some Jvm.ClassFile.FieldType.int)) (hN : g_nL K = 2) (hD : g_Kd K = 12) : ∀ (r0 : Option Nat) (r0s : Option Nat) (x1s : Int32) (s0 : g_St), f_M_prepare_208 r0 r0s x1s s0 = some o → g_W K s0 [(0, g_r 1 r0)] [g_i x1s, g_r 1 r0s] 208 (g_jI o) := by
  intro r0 r0s x1s s0 h
  unfold f_M_prepare_208 at h
  refine r_pZ hK fd_M_16 rfl w7_48 d_M_prepare_208 h (fun s1 h => ?_)
  refine r_aload_n hK d_M_prepare_211 rfl 0 rfl ?_
  refine r_gI hK fd_M_16 w7_48 d_M_prepare_212 h (fun i2 h => ?_)
  refine r_ifeq (tgt := 225) hK d_M_prepare_215 (by decide) h (fun h => ?_) (fun h => ?_)
  · refine r_iconst (v := 0) hK d_M_prepare_225 (by decide) ?_
    exact r_ireturn hK d_M_prepare_226 h
  · refine r_aload_n hK d_M_prepare_218 rfl 0 rfl ?_
    refine r_gI hK fd_M_18 w7_50 d_M_prepare_219 h (fun i3 h => ?_)
    refine r_goto (tgt := 226) hK d_M_prepare_222 (by decide) ?_
    exact r_ireturn hK d_M_prepare_226 h
set_option maxHeartbeats 4000000 in
set_option maxRecDepth 100000 in
theorem t_M_prepare_192 {K : g_C} {o : (Int32 × g_St)} (hK : g_OK K b_M_prepare "FixpointEngineModel" "prepare" (Option.some Jvm.ClassFile.FieldType.int)) (hN : g_nL K = 2) (hD : g_Kd K = 12) : ∀ (r0 : Option Nat) (r0s : Option Nat) (x1s : Int32) (s0 : g_St), f_M_prepare_192 r0 r0s x1s s0 = some o → g_W K s0 [(0, g_r 1 r0)] [g_i x1s, g_r 1 r0s] 192 (g_jI o) := by
  intro r0 r0s x1s s0 h
  unfold f_M_prepare_192 at h
  refine r_pI hK fd_M_0 rfl w7_32 d_M_prepare_192 h (fun s1 h => ?_)
  refine r_aload_n hK d_M_prepare_195 rfl 0 rfl ?_
  refine r_aload_n hK d_M_prepare_196 rfl 0 rfl ?_
  refine r_gI hK fd_M_0 w7_32 d_M_prepare_197 h (fun i2 h => ?_)
  refine r_ifne (tgt := 207) hK d_M_prepare_200 (by decide) h (fun h => ?_) (fun h => ?_)
  · refine r_iconst (v := 0) hK d_M_prepare_207 (by decide) ?_
    exact r_sub [0] rfl (t_M_prepare_208 hK hN hD _ _ _ _ h)
  · refine r_iconst (v := 1) hK d_M_prepare_203 (by decide) ?_
    refine r_goto (tgt := 208) hK d_M_prepare_204 (by decide) ?_
    exact r_sub [0] rfl (t_M_prepare_208 hK hN hD _ _ _ _ h)
set_option maxHeartbeats 4000000 in
set_option maxRecDepth 100000 in
theorem t_M_prepare_176 {K : g_C} {o : (Int32 × g_St)} (hK : g_OK K b_M_prepare "FixpointEngineModel" "prepare" (Option.some Jvm.ClassFile.FieldType.int)) (hN : g_nL K = 2) (hD : g_Kd K = 12) : ∀ (r0 : Option Nat) (r0s : Option Nat) (x1s : Int32) (s0 : g_St), f_M_prepare_176 r0 r0s x1s s0 = some o → g_W K s0 [(0, g_r 1 r0)] [g_i x1s, g_r 1 r0s] 176 (g_jI o) := by
  intro r0 r0s x1s s0 h
  unfold f_M_prepare_176 at h
  refine r_pI hK fd_M_15 rfl w7_47 d_M_prepare_176 h (fun s1 h => ?_)
  refine r_aload_n hK d_M_prepare_179 rfl 0 rfl ?_
  refine r_aload_n hK d_M_prepare_180 rfl 0 rfl ?_
  refine r_gI hK fd_M_13 w7_45 d_M_prepare_181 h (fun i2 h => ?_)
  refine r_ifne (tgt := 191) hK d_M_prepare_184 (by decide) h (fun h => ?_) (fun h => ?_)
  · refine r_iconst (v := 1) hK d_M_prepare_191 (by decide) ?_
    exact r_sub [0] rfl (t_M_prepare_192 hK hN hD _ _ _ _ h)
  · refine r_iconst (v := 0) hK d_M_prepare_187 (by decide) ?_
    refine r_goto (tgt := 192) hK d_M_prepare_188 (by decide) ?_
    exact r_sub [0] rfl (t_M_prepare_192 hK hN hD _ _ _ _ h)
set_option maxHeartbeats 4000000 in
set_option maxRecDepth 100000 in
theorem t_M_prepare_152 {K : g_C} {o : (Int32 × g_St)} (hK : g_OK K b_M_prepare "FixpointEngineModel" "prepare" (Option.some Jvm.ClassFile.FieldType.int)) (hN : g_nL K = 2) (hD : g_Kd K = 12) : ∀ (r0 : Option Nat) (s0 : g_St), f_M_prepare_152 r0 s0 = some o → g_W K s0 [(0, g_r 1 r0)] [] 152 (g_jI o) := by
  intro r0 s0 h
  unfold f_M_prepare_152 at h
  refine r_aload_n hK d_M_prepare_152 rfl 0 rfl ?_
  refine r_aload_n hK d_M_prepare_153 rfl 0 rfl ?_
  refine r_gI hK fd_M_13 w7_45 d_M_prepare_154 h (fun i1 h => ?_)
  refine r_ifne (tgt := 164) hK d_M_prepare_157 (by decide) h (fun h => ?_) (fun h => ?_)
  · refine r_aload_n hK d_M_prepare_164 rfl 0 rfl ?_
    refine r_gI hK fd_M_13 w7_45 d_M_prepare_165 h (fun i2 h => ?_)
    refine r_bipush (v := 10) hK d_M_prepare_168 (by decide) ?_
    refine r_aload_n hK d_M_prepare_170 rfl 0 rfl ?_
    refine r_gI hK fd_M_14 w7_46 d_M_prepare_171 h (fun i3 h => ?_)
    refine r_imul hK d_M_prepare_174 ?_
    refine r_iadd hK d_M_prepare_175 ?_
    exact r_sub [0] rfl (t_M_prepare_176 hK hN hD _ _ _ _ h)
  · refine r_iconst (v := 0) hK d_M_prepare_160 (by decide) ?_
    refine r_goto (tgt := 176) hK d_M_prepare_161 (by decide) ?_
    exact r_sub [0] rfl (t_M_prepare_176 hK hN hD _ _ _ _ h)
set_option maxHeartbeats 4000000 in
set_option maxRecDepth 100000 in
theorem t_M_prepare_137 {K : g_C} {o : (Int32 × g_St)} (hK : g_OK K b_M_prepare "FixpointEngineModel" "prepare" (Option.some Jvm.ClassFile.FieldType.int)) (hN : g_nL K = 2) (hD : g_Kd K = 12) : ∀ (r0 : Option Nat) (s0 : g_St), f_M_prepare_137 r0 s0 = some o → g_W K s0 [(0, g_r 1 r0)] [] 137 (g_jI o) := by
  intro r0 s0 h
  unfold f_M_prepare_137 at h
  refine r_aload_n hK d_M_prepare_137 rfl 0 rfl ?_
  refine r_gI hK fd_M_13 w7_45 d_M_prepare_138 h (fun i1 h => ?_)
  refine r_ifne (tgt := 152) hK d_M_prepare_141 (by decide) h (fun h => ?_) (fun h => ?_)
  · exact r_sub [0] rfl (t_M_prepare_152 hK hN hD _ _ h)
  · refine r_aload_n hK d_M_prepare_144 rfl 0 rfl ?_
    refine r_Vv (avL := []) (st := []) hK ob_M rfl w9_51 wp_42 w9_49 w9_52 w1_6 (by decide) pl_M_findComponents (by rw [hD]; decide) (Nat.le_of_ble_eq_true rfl) rfl d_M_prepare_145 (fun o9 h9 => c_M_findComponents _ _ _ _ o9 h9) h (fun s3 h => ?_)
    refine r_aload_n hK d_M_prepare_148 rfl 0 rfl ?_
    refine r_Vv (avL := []) (st := []) hK ob_M rfl w9_67 wp_46 w9_65 w9_68 w1_6 (by decide) pl_M_checkShapes (by rw [hD]; decide) (Nat.le_of_ble_eq_true rfl) rfl d_M_prepare_149 (fun o9 h9 => c_M_checkShapes _ _ _ _ o9 h9) h (fun s5 h => ?_)
    exact r_sub [0] rfl (t_M_prepare_152 hK hN hD _ _ h)
set_option maxHeartbeats 4000000 in
set_option maxRecDepth 100000 in
theorem t_M_prepare_108 {K : g_C} {o : (Int32 × g_St)} (hK : g_OK K b_M_prepare "FixpointEngineModel" "prepare" (Option.some Jvm.ClassFile.FieldType.int)) (hN : g_nL K = 2) (hD : g_Kd K = 12) : ∀ (n : Nat) (r0 : Option Nat) (x1 : Int32) (s0 : g_St), f_M_prepare_108 n r0 x1 s0 = some o → g_W K s0 [(0, g_r 1 r0), (1, g_i x1)] [] 108 (g_jI o) := by
  intro n
  induction n with
  | zero =>
    intro r0 x1 s0 h
    cases h
  | succ n ih =>
    intro r0 x1 s0 h
    unfold f_M_prepare_108 at h
    refine r_iload_n hK d_M_prepare_108 rfl 1 rfl ?_
    refine r_aload_n hK d_M_prepare_109 rfl 0 rfl ?_
    refine r_gI hK fd_M_34 w7_66 d_M_prepare_110 h (fun i1 h => ?_)
    refine r_if_icmpge (tgt := 127) hK d_M_prepare_113 (by decide) h (fun h => ?_) (fun h => ?_)
    · refine r_aload_n hK d_M_prepare_127 rfl 0 rfl ?_
      refine r_aload_n hK d_M_prepare_128 rfl 0 rfl ?_
      refine r_gI hK fd_M_34 w7_66 d_M_prepare_129 h (fun i2 h => ?_)
      refine r_iconst (v := 1) hK d_M_prepare_132 (by decide) ?_
      refine r_isub hK d_M_prepare_133 ?_
      refine r_Vv (avL := [g_i (i2 - 1)]) (st := []) hK ob_M rfl w9_47 wp_41 w9_45 w9_48 w1_6 (by decide) pl_M_resolveOrder (by rw [hD]; decide) (Nat.le_of_ble_eq_true rfl) rfl d_M_prepare_134 (fun o9 h9 => c_M_resolveOrder _ _ _ _ _ o9 h9) h (fun s4 h => ?_)
      exact r_sub [0] rfl (t_M_prepare_137 hK hN hD _ _ h)
    · refine r_aload_n hK d_M_prepare_116 rfl 0 rfl ?_
      refine r_iload_n hK d_M_prepare_117 rfl 1 rfl ?_
      refine r_Vv (avL := [g_i x1]) (st := []) hK ob_M rfl w9_14 wp_33 w9_12 w9_15 w1_6 (by decide) pl_M_resolveSelection (by rw [hD]; decide) (Nat.le_of_ble_eq_true rfl) rfl d_M_prepare_118 (fun o9 h9 => c_M_resolveSelection _ _ _ _ _ o9 h9) h (fun s6 h => ?_)
      refine r_iinc (ls1 := [(1, g_i (x1 + 1)), (0, g_r 1 r0)]) hK d_M_prepare_121 1 rfl rfl (by rw [hN]; decide) rfl ?_
      refine r_goto (tgt := 108) hK d_M_prepare_124 (by decide) ?_
      exact r_sub [1, 0] rfl (ih _ _ _ h)
set_option maxHeartbeats 4000000 in
set_option maxRecDepth 100000 in
theorem t_M_prepare_87 {K : g_C} {o : (Int32 × g_St)} (hK : g_OK K b_M_prepare "FixpointEngineModel" "prepare" (Option.some Jvm.ClassFile.FieldType.int)) (hN : g_nL K = 2) (hD : g_Kd K = 12) : ∀ (n : Nat) (r0 : Option Nat) (x1 : Int32) (s0 : g_St), f_M_prepare_87 n r0 x1 s0 = some o → g_W K s0 [(0, g_r 1 r0), (1, g_i x1)] [] 87 (g_jI o) := by
  intro n
  induction n with
  | zero =>
    intro r0 x1 s0 h
    cases h
  | succ n ih =>
    intro r0 x1 s0 h
    unfold f_M_prepare_87 at h
    refine r_iload_n hK d_M_prepare_87 rfl 1 rfl ?_
    refine r_aload_n hK d_M_prepare_88 rfl 0 rfl ?_
    refine r_gI hK fd_M_18 w7_50 d_M_prepare_89 h (fun i1 h => ?_)
    refine r_if_icmpge (tgt := 106) hK d_M_prepare_92 (by decide) h (fun h => ?_) (fun h => ?_)
    · refine r_iconst (v := 0) hK d_M_prepare_106 (by decide) ?_
      refine r_istore_n (ls1 := [(1, g_i 0), (0, g_r 1 r0)]) hK d_M_prepare_107 rfl (by rw [hN]; decide) rfl ?_
      exact r_sub [1, 0] rfl (t_M_prepare_108 hK hN hD _ _ _ _ h)
    · refine r_aload_n hK d_M_prepare_95 rfl 0 rfl ?_
      refine r_iload_n hK d_M_prepare_96 rfl 1 rfl ?_
      refine r_Vv (avL := [g_i x1]) (st := []) hK ob_M rfl w9_2 wp_30 w9_0 w9_3 w1_6 (by decide) pl_M_resolvePart (by rw [hD]; decide) (Nat.le_of_ble_eq_true rfl) rfl d_M_prepare_97 (fun o9 h9 => c_M_resolvePart _ _ _ _ _ o9 h9) h (fun s3 h => ?_)
      refine r_iinc (ls1 := [(1, g_i (x1 + 1)), (0, g_r 1 r0)]) hK d_M_prepare_100 1 rfl rfl (by rw [hN]; decide) rfl ?_
      refine r_goto (tgt := 87) hK d_M_prepare_103 (by decide) ?_
      exact r_sub [1, 0] rfl (ih _ _ _ h)
set_option maxHeartbeats 4000000 in
set_option maxRecDepth 100000 in
theorem t_M_prepare_0 {K : g_C} {o : (Int32 × g_St)} (hK : g_OK K b_M_prepare "FixpointEngineModel" "prepare" (Option.some Jvm.ClassFile.FieldType.int)) (hN : g_nL K = 2) (hD : g_Kd K = 12) : ∀ (r0 : Option Nat) (s0 : g_St), f_M_prepare r0 s0 = some o → g_W K s0 [(0, g_r 1 r0)] [] 0 (g_jI o) := by
  intro r0 s0 h
  unfold f_M_prepare at h
  refine r_aload_n hK d_M_prepare_0 rfl 0 rfl ?_
  refine r_iconst (v := 0) hK d_M_prepare_1 (by decide) ?_
  refine r_pI hK fd_M_13 rfl w7_45 d_M_prepare_2 h (fun s1 h => ?_)
  refine r_aload_n hK d_M_prepare_5 rfl 0 rfl ?_
  refine r_iconst (v := 0) hK d_M_prepare_6 (by decide) ?_
  refine r_pI hK fd_M_14 rfl w7_46 d_M_prepare_7 h (fun s2 h => ?_)
  refine r_aload_n hK d_M_prepare_10 rfl 0 rfl ?_
  refine r_iconst (v := 0) hK d_M_prepare_11 (by decide) ?_
  refine r_pZ hK fd_M_16 rfl w7_48 d_M_prepare_12 h (fun s3 h => ?_)
  refine r_aload_n hK d_M_prepare_15 rfl 0 rfl ?_
  refine r_iconst (v := 0) hK d_M_prepare_16 (by decide) ?_
  refine r_pZ hK fd_M_17 rfl w7_49 d_M_prepare_17 h (fun s4 h => ?_)
  refine r_aload_n hK d_M_prepare_20 rfl 0 rfl ?_
  refine r_iconst (v := 0) hK d_M_prepare_21 (by decide) ?_
  refine r_pI hK fd_M_18 rfl w7_50 d_M_prepare_22 h (fun s5 h => ?_)
  refine r_aload_n hK d_M_prepare_25 rfl 0 rfl ?_
  refine r_iconst (v := 0) hK d_M_prepare_26 (by decide) ?_
  refine r_pI hK fd_M_34 rfl w7_66 d_M_prepare_27 h (fun s6 h => ?_)
  refine r_aload_n hK d_M_prepare_30 rfl 0 rfl ?_
  refine r_iconst (v := 0) hK d_M_prepare_31 (by decide) ?_
  refine r_pI hK fd_M_44 rfl w7_76 d_M_prepare_32 h (fun s7 h => ?_)
  refine r_aload_n hK d_M_prepare_35 rfl 0 rfl ?_
  refine r_iconst (v := 0) hK d_M_prepare_36 (by decide) ?_
  refine r_pI hK fd_M_47 rfl w7_79 d_M_prepare_37 h (fun s8 h => ?_)
  refine r_aload_n hK d_M_prepare_40 rfl 0 rfl ?_
  refine r_iconst (v := 0) hK d_M_prepare_41 (by decide) ?_
  refine r_pI hK fd_M_48 rfl w7_80 d_M_prepare_42 h (fun s9 h => ?_)
  refine r_aload_n hK d_M_prepare_45 rfl 0 rfl ?_
  refine r_iconst (v := 0) hK d_M_prepare_46 (by decide) ?_
  refine r_pI hK fd_M_56 rfl w7_88 d_M_prepare_47 h (fun s10 h => ?_)
  refine r_aload_n hK d_M_prepare_50 rfl 0 rfl ?_
  refine r_iconst (v := 0) hK d_M_prepare_51 (by decide) ?_
  refine r_pI hK fd_M_60 rfl w7_92 d_M_prepare_52 h (fun s11 h => ?_)
  refine r_aload_n hK d_M_prepare_55 rfl 0 rfl ?_
  refine r_iconst (v := 0) hK d_M_prepare_56 (by decide) ?_
  refine r_pI hK fd_M_68 rfl w7_100 d_M_prepare_57 h (fun s12 h => ?_)
  refine r_aload_n hK d_M_prepare_60 rfl 0 rfl ?_
  refine r_iconst (v := 0) hK d_M_prepare_61 (by decide) ?_
  refine r_pI hK fd_M_9 rfl w7_41 d_M_prepare_62 h (fun s13 h => ?_)
  refine r_aload_n hK d_M_prepare_65 rfl 0 rfl ?_
  refine r_Vv (avL := []) (st := []) hK ob_M rfl w8_130 wp_5 w8_128 w8_131 w1_6 (by decide) pl_M_scan (by rw [hD]; decide) (Nat.le_of_ble_eq_true rfl) rfl d_M_prepare_66 (fun o9 h9 => c_M_scan _ _ _ _ o9 h9) h (fun s15 h => ?_)
  refine r_aload_n hK d_M_prepare_69 rfl 0 rfl ?_
  refine r_iconst (v := 0) hK d_M_prepare_70 (by decide) ?_
  refine r_pI hK fd_M_5 rfl w7_37 d_M_prepare_71 h (fun s16 h => ?_)
  refine r_aload_n hK d_M_prepare_74 rfl 0 rfl ?_
  refine r_Vv (avL := []) (st := []) hK ob_M rfl w8_166 wp_11 w8_164 w8_167 w1_6 (by decide) pl_M_readQuery (by rw [hD]; decide) (Nat.le_of_ble_eq_true rfl) rfl d_M_prepare_75 (fun o9 h9 => c_M_readQuery _ _ _ _ o9 h9) h (fun s18 h => ?_)
  refine r_aload_n hK d_M_prepare_78 rfl 0 rfl ?_
  refine r_Vi (avL := []) (st := []) hK ob_M rfl w8_178 wp_14 w8_176 w8_179 w1_6 (by decide) pl_M_bad (by rw [hD]; decide) (Nat.le_of_ble_eq_true rfl) rfl d_M_prepare_79 (fun o9 h9 => c_M_bad _ _ _ _ o9 h9) h (fun i19 s20 h => ?_)
  refine r_ifne (tgt := 137) hK d_M_prepare_82 (by decide) h (fun h => ?_) (fun h => ?_)
  · exact r_sub [0] rfl (t_M_prepare_137 hK hN hD _ _ h)
  · refine r_iconst (v := 0) hK d_M_prepare_85 (by decide) ?_
    refine r_istore_n (ls1 := [(1, g_i 0), (0, g_r 1 r0)]) hK d_M_prepare_86 rfl (by rw [hN]; decide) rfl ?_
    exact r_sub [1, 0] rfl (t_M_prepare_87 hK hN hD _ _ _ _ h)
theorem c_M_prepare (l : Launch) (G : g_G) (r0 : Option Nat) (u : g_St) (o : (Int32 × g_St)) (h : f_M_prepare r0 u = some o) : g_Con l G y_M_prepare b_M_prepare 2 (Option.some Jvm.ClassFile.FieldType.int) 12 [g_r 1 r0] u (g_jI o) :=
  g_Con.of rfl rfl (by decide +kernel) (Nat.le_of_ble_eq_true rfl) (fun K hK hN hD hX => t_M_prepare_0 hK hN hD _ _ h)
def f_M_fault (r0 : Option Nat) (s0 : g_St) : Option (Int32 × g_St) :=
  g_pI s0 1 r0 0 fun s1 =>
  g_gI s1 961 r0 fun i2 =>
  some (i2, s1)
set_option maxHeartbeats 4000000 in
set_option maxRecDepth 100000 in
theorem t_M_fault_0 {K : g_C} {o : (Int32 × g_St)} (hK : g_OK K b_M_fault "FixpointEngineModel" "fault" (Option.some Jvm.ClassFile.FieldType.int)) (hN : g_nL K = 1) (hD : g_Kd K = 1) : ∀ (r0 : Option Nat) (s0 : g_St), f_M_fault r0 s0 = some o → g_W K s0 [(0, g_r 1 r0)] [] 0 (g_jI o) := by
  intro r0 s0 h
  unfold f_M_fault at h
  refine r_aload_n hK d_M_fault_0 rfl 0 rfl ?_
  refine r_iconst (v := 0) hK d_M_fault_1 (by decide) ?_
  refine r_pI hK fd_M_0 rfl w7_32 d_M_fault_2 h (fun s1 h => ?_)
  refine r_aload_n hK d_M_fault_5 rfl 0 rfl ?_
  refine r_gI hK fd_M_15 w7_47 d_M_fault_6 h (fun i2 h => ?_)
  exact r_ireturn hK d_M_fault_9 h
theorem c_M_fault (l : Launch) (G : g_G) (r0 : Option Nat) (u : g_St) (o : (Int32 × g_St)) (h : f_M_fault r0 u = some o) : g_Con l G y_M_fault b_M_fault 1 (Option.some Jvm.ClassFile.FieldType.int) 1 [g_r 1 r0] u (g_jI o) :=
  g_Con.of rfl rfl (by decide +kernel) (Nat.le_of_ble_eq_true rfl) (fun K hK hN hD hX => t_M_fault_0 hK hN hD _ _ h)
def f_M_part_38 (r0 : Option Nat) (x1 : Int32) (x2 : Int32) (r0s : Option Nat) (x1s : Int32) (s0 : g_St) : Option (Int32 × g_St) :=
  g_pI s0 1 r0s x1s fun s1 =>
  g_gI s1 1 r0 fun i2 =>
  if i2 ≤ 0 then
    if x2 = 0 then
      g_gR s1 4801 r0 fun p9 =>
      g_aI s1 p9 x1 fun i10 =>
      some (i10, s1)
    else
      if x2 = 1 then
        g_c (g_nn r0 (f_M_isRecursive r0 x1 s1)) fun i7 s8 =>
        if i7 = 0 then
          some (0, s8)
        else
          some (1, s8)
      else
        g_gR s1 1281 r0 fun p3 =>
        g_aI s1 p3 x1 fun i4 =>
        g_gR s1 1601 r0 fun p5 =>
        g_aI s1 p5 x1 fun i6 =>
        if i6 = (-1) then
          some (i4 + 0, s1)
        else
          some (i4 + 1, s1)
  else
    some (0, s1)
def f_M_part (r0 : Option Nat) (x1 : Int32) (x2 : Int32) (s0 : g_St) : Option (Int32 × g_St) :=
  g_gI s0 1025 r0 fun i1 =>
  if i1 = 0 then
    f_M_part_38 r0 x1 x2 r0 1 s0
  else
    if x1 < 0 then
      f_M_part_38 r0 x1 x2 r0 1 s0
    else
      g_gI s0 1153 r0 fun i2 =>
      if x1 < i2 then
        if x2 < 0 then
          f_M_part_38 r0 x1 x2 r0 2 s0
        else
          if x2 ≤ 2 then
            f_M_part_38 r0 x1 x2 r0 0 s0
          else
            f_M_part_38 r0 x1 x2 r0 2 s0
      else
        f_M_part_38 r0 x1 x2 r0 1 s0
set_option maxHeartbeats 4000000 in
set_option maxRecDepth 100000 in
theorem t_M_part_38 {K : g_C} {o : (Int32 × g_St)} (hK : g_OK K b_M_part "FixpointEngineModel" "part" (Option.some Jvm.ClassFile.FieldType.int)) (hN : g_nL K = 3) (hD : g_Kd K = 2) : ∀ (r0 : Option Nat) (x1 : Int32) (x2 : Int32) (r0s : Option Nat) (x1s : Int32) (s0 : g_St), f_M_part_38 r0 x1 x2 r0s x1s s0 = some o → g_W K s0 [(0, g_r 1 r0), (1, g_i x1), (2, g_i x2)] [g_i x1s, g_r 1 r0s] 38 (g_jI o) := by
  intro r0 x1 x2 r0s x1s s0 h
  unfold f_M_part_38 at h
  refine r_pI hK fd_M_0 rfl w7_32 d_M_part_38 h (fun s1 h => ?_)
  refine r_aload_n hK d_M_part_41 rfl 0 rfl ?_
  refine r_gI hK fd_M_0 w7_32 d_M_part_42 h (fun i2 h => ?_)
  refine r_ifle (tgt := 50) hK d_M_part_45 (by decide) h (fun h => ?_) (fun h => ?_)
  · refine r_iload_n hK d_M_part_50 rfl 2 rfl ?_
    refine r_ifne (tgt := 61) hK d_M_part_51 (by decide) h (fun h => ?_) (fun h => ?_)
    · refine r_iload_n hK d_M_part_61 rfl 2 rfl ?_
      refine r_iconst (v := 1) hK d_M_part_62 (by decide) ?_
      refine r_if_icmpne (tgt := 82) hK d_M_part_63 (by decide) h (fun h => ?_) (fun h => ?_)
      · refine r_aload_n hK d_M_part_82 rfl 0 rfl ?_
        refine r_gR hK fd_M_20 w7_52 d_M_part_83 h (fun p3 h => ?_)
        refine r_iload_n hK d_M_part_86 rfl 1 rfl ?_
        refine r_iaload hK ar_20 rfl d_M_part_87 h (fun i4 h => ?_)
        refine r_aload_n hK d_M_part_88 rfl 0 rfl ?_
        refine r_gR hK fd_M_25 w7_57 d_M_part_89 h (fun p5 h => ?_)
        refine r_iload_n hK d_M_part_92 rfl 1 rfl ?_
        refine r_iaload hK ar_20 rfl d_M_part_93 h (fun i6 h => ?_)
        refine r_iconst (v := (-1)) hK d_M_part_94 (by decide) ?_
        refine r_if_icmpeq (tgt := 102) hK d_M_part_95 (by decide) h (fun h => ?_) (fun h => ?_)
        · refine r_iconst (v := 0) hK d_M_part_102 (by decide) ?_
          refine r_iadd hK d_M_part_103 ?_
          exact r_ireturn hK d_M_part_104 h
        · refine r_iconst (v := 1) hK d_M_part_98 (by decide) ?_
          refine r_goto (tgt := 103) hK d_M_part_99 (by decide) ?_
          refine r_iadd hK d_M_part_103 ?_
          exact r_ireturn hK d_M_part_104 h
      · refine r_aload_n hK d_M_part_66 rfl 0 rfl ?_
        refine r_iload_n hK d_M_part_67 rfl 1 rfl ?_
        refine r_Vi (avL := [g_i x1]) (st := []) hK ob_M rfl w9_71 wp_47 w9_69 w9_72 w1_6 (by decide) pl_M_isRecursive (by rw [hD]; decide) (Nat.le_of_ble_eq_true rfl) rfl d_M_part_68 (fun o9 h9 => c_M_isRecursive _ _ _ _ _ o9 h9) h (fun i7 s8 h => ?_)
        refine r_ifeq (tgt := 78) hK d_M_part_71 (by decide) h (fun h => ?_) (fun h => ?_)
        · refine r_iconst (v := 0) hK d_M_part_78 (by decide) ?_
          refine r_goto (tgt := 104) hK d_M_part_79 (by decide) ?_
          exact r_ireturn hK d_M_part_104 h
        · refine r_iconst (v := 1) hK d_M_part_74 (by decide) ?_
          refine r_goto (tgt := 104) hK d_M_part_75 (by decide) ?_
          exact r_ireturn hK d_M_part_104 h
    · refine r_aload_n hK d_M_part_54 rfl 0 rfl ?_
      refine r_gR hK fd_M_75 w7_107 d_M_part_55 h (fun p9 h => ?_)
      refine r_iload_n hK d_M_part_58 rfl 1 rfl ?_
      refine r_iaload hK ar_20 rfl d_M_part_59 h (fun i10 h => ?_)
      exact r_ireturn hK d_M_part_60 h
  · refine r_iconst (v := 0) hK d_M_part_48 (by decide) ?_
    exact r_ireturn hK d_M_part_49 h
set_option maxHeartbeats 4000000 in
set_option maxRecDepth 100000 in
theorem t_M_part_0 {K : g_C} {o : (Int32 × g_St)} (hK : g_OK K b_M_part "FixpointEngineModel" "part" (Option.some Jvm.ClassFile.FieldType.int)) (hN : g_nL K = 3) (hD : g_Kd K = 2) : ∀ (r0 : Option Nat) (x1 : Int32) (x2 : Int32) (s0 : g_St), f_M_part r0 x1 x2 s0 = some o → g_W K s0 [(0, g_r 1 r0), (1, g_i x1), (2, g_i x2)] [] 0 (g_jI o) := by
  intro r0 x1 x2 s0 h
  unfold f_M_part at h
  refine r_aload_n hK d_M_part_0 rfl 0 rfl ?_
  refine r_aload_n hK d_M_part_1 rfl 0 rfl ?_
  refine r_gI hK fd_M_16 w7_48 d_M_part_2 h (fun i1 h => ?_)
  refine r_ifeq (tgt := 20) hK d_M_part_5 (by decide) h (fun h => ?_) (fun h => ?_)
  · refine r_iconst (v := 1) hK d_M_part_20 (by decide) ?_
    refine r_goto (tgt := 38) hK d_M_part_21 (by decide) ?_
    exact r_sub [0, 1, 2] rfl (t_M_part_38 hK hN hD _ _ _ _ _ _ h)
  · refine r_iload_n hK d_M_part_8 rfl 1 rfl ?_
    refine r_iflt (tgt := 20) hK d_M_part_9 (by decide) h (fun h => ?_) (fun h => ?_)
    · refine r_iconst (v := 1) hK d_M_part_20 (by decide) ?_
      refine r_goto (tgt := 38) hK d_M_part_21 (by decide) ?_
      exact r_sub [0, 1, 2] rfl (t_M_part_38 hK hN hD _ _ _ _ _ _ h)
    · refine r_iload_n hK d_M_part_12 rfl 1 rfl ?_
      refine r_aload_n hK d_M_part_13 rfl 0 rfl ?_
      refine r_gI hK fd_M_18 w7_50 d_M_part_14 h (fun i2 h => ?_)
      refine r_if_icmplt (tgt := 24) hK d_M_part_17 (by decide) h (fun h => ?_) (fun h => ?_)
      · refine r_iload_n hK d_M_part_24 rfl 2 rfl ?_
        refine r_iflt (tgt := 33) hK d_M_part_25 (by decide) h (fun h => ?_) (fun h => ?_)
        · refine r_iconst (v := 2) hK d_M_part_33 (by decide) ?_
          refine r_goto (tgt := 38) hK d_M_part_34 (by decide) ?_
          exact r_sub [0, 1, 2] rfl (t_M_part_38 hK hN hD _ _ _ _ _ _ h)
        · refine r_iload_n hK d_M_part_28 rfl 2 rfl ?_
          refine r_iconst (v := 2) hK d_M_part_29 (by decide) ?_
          refine r_if_icmple (tgt := 37) hK d_M_part_30 (by decide) h (fun h => ?_) (fun h => ?_)
          · refine r_iconst (v := 0) hK d_M_part_37 (by decide) ?_
            exact r_sub [0, 1, 2] rfl (t_M_part_38 hK hN hD _ _ _ _ _ _ h)
          · refine r_iconst (v := 2) hK d_M_part_33 (by decide) ?_
            refine r_goto (tgt := 38) hK d_M_part_34 (by decide) ?_
            exact r_sub [0, 1, 2] rfl (t_M_part_38 hK hN hD _ _ _ _ _ _ h)
      · refine r_iconst (v := 1) hK d_M_part_20 (by decide) ?_
        refine r_goto (tgt := 38) hK d_M_part_21 (by decide) ?_
        exact r_sub [0, 1, 2] rfl (t_M_part_38 hK hN hD _ _ _ _ _ _ h)
theorem c_M_part (l : Launch) (G : g_G) (r0 : Option Nat) (x1 : Int32) (x2 : Int32) (u : g_St) (o : (Int32 × g_St)) (h : f_M_part r0 x1 x2 u = some o) : g_Con l G y_M_part b_M_part 3 (Option.some Jvm.ClassFile.FieldType.int) 2 [g_r 1 r0, g_i x1, g_i x2] u (g_jI o) :=
  g_Con.of rfl rfl (by decide +kernel) (Nat.le_of_ble_eq_true rfl) (fun K hK hN hD hX => t_M_part_0 hK hN hD _ _ _ _ h)
def f_M_cellOf (r0 : Option Nat) (x1 : Int32) (x2 : Int32) (s0 : g_St) : Option (Int64 × g_St) :=
  if 100 ≤ x1 then
    g_gR s0 5057 r0 fun p1 =>
    g_aL s0 p1 ((4 * (x1 - 100)) + x2) fun j2 =>
    some (j2, s0)
  else
    g_gR s0 257 r0 fun p3 =>
    g_aL s0 p3 ((3 * x1) + x2) fun j4 =>
    some (j4, s0)
set_option maxHeartbeats 4000000 in
set_option maxRecDepth 100000 in
theorem t_M_cellOf_0 {K : g_C} {o : (Int64 × g_St)} (hK : g_OK K b_M_cellOf "FixpointEngineModel" "cellOf" (Option.some Jvm.ClassFile.FieldType.long)) (hN : g_nL K = 3) (hD : g_Kd K = 1) : ∀ (r0 : Option Nat) (x1 : Int32) (x2 : Int32) (s0 : g_St), f_M_cellOf r0 x1 x2 s0 = some o → g_W K s0 [(0, g_r 1 r0), (1, g_i x1), (2, g_i x2)] [] 0 (g_jL o) := by
  intro r0 x1 x2 s0 h
  unfold f_M_cellOf at h
  refine r_iload_n hK d_M_cellOf_0 rfl 1 rfl ?_
  refine r_bipush (v := 100) hK d_M_cellOf_1 (by decide) ?_
  refine r_if_icmpge (tgt := 19) hK d_M_cellOf_3 (by decide) h (fun h => ?_) (fun h => ?_)
  · refine r_aload_n hK d_M_cellOf_19 rfl 0 rfl ?_
    refine r_gR hK fd_M_79 w7_111 d_M_cellOf_20 h (fun p1 h => ?_)
    refine r_iconst (v := 4) hK d_M_cellOf_23 (by decide) ?_
    refine r_iload_n hK d_M_cellOf_24 rfl 1 rfl ?_
    refine r_bipush (v := 100) hK d_M_cellOf_25 (by decide) ?_
    refine r_isub hK d_M_cellOf_27 ?_
    refine r_imul hK d_M_cellOf_28 ?_
    refine r_iload_n hK d_M_cellOf_29 rfl 2 rfl ?_
    refine r_iadd hK d_M_cellOf_30 ?_
    refine r_laload hK ar_21 rfl d_M_cellOf_31 h (fun j2 h => ?_)
    exact r_lreturn hK d_M_cellOf_32 h
  · refine r_aload_n hK d_M_cellOf_6 rfl 0 rfl ?_
    refine r_gR hK fd_M_4 w7_36 d_M_cellOf_7 h (fun p3 h => ?_)
    refine r_iconst (v := 3) hK d_M_cellOf_10 (by decide) ?_
    refine r_iload_n hK d_M_cellOf_11 rfl 1 rfl ?_
    refine r_imul hK d_M_cellOf_12 ?_
    refine r_iload_n hK d_M_cellOf_13 rfl 2 rfl ?_
    refine r_iadd hK d_M_cellOf_14 ?_
    refine r_laload hK ar_21 rfl d_M_cellOf_15 h (fun j4 h => ?_)
    refine r_goto (tgt := 32) hK d_M_cellOf_16 (by decide) ?_
    exact r_lreturn hK d_M_cellOf_32 h
theorem c_M_cellOf (l : Launch) (G : g_G) (r0 : Option Nat) (x1 : Int32) (x2 : Int32) (u : g_St) (o : (Int64 × g_St)) (h : f_M_cellOf r0 x1 x2 u = some o) : g_Con l G y_M_cellOf b_M_cellOf 3 (Option.some Jvm.ClassFile.FieldType.long) 1 [g_r 1 r0, g_i x1, g_i x2] u (g_jL o) :=
  g_Con.of rfl rfl (by decide +kernel) (Nat.le_of_ble_eq_true rfl) (fun K hK hN hD hX => t_M_cellOf_0 hK hN hD _ _ _ _ h)
def f_M_valueOf_90 (k5 : Option Nat → Int32 → Int64 → Int32 → g_St → Option (Int64 × g_St)) (r0 : Option Nat) (x1 : Int32) (y2 : Int64) (x4 : Int32) (x5 : Int32) (y0s : Int64) (s0 : g_St) : Option (Int64 × g_St) :=
  if y0s = 1099511627776 then
    some (1099511627776, s0)
  else
    g_gR s0 3329 r0 fun p1 =>
    g_aI s0 p1 x5 fun i2 =>
    k5 r0 x1 (y2 + (i2.toInt64 * y0s)) (x4 + 1) s0
def f_M_valueOf_5 : Nat → Option Nat → Int32 → Int64 → Int32 → g_St → Option (Int64 × g_St)
  | 0, _, _, _, _, _ => none
  | n + 1, r0, x1, y2, x4, s0 =>
    g_gR s0 3201 r0 fun p1 =>
    g_aI s0 p1 x1 fun i2 =>
    if i2 ≤ x4 then
      some (y2, s0)
    else
      g_gR s0 3137 r0 fun p3 =>
      g_aI s0 p3 x1 fun i4 =>
      g_gR s0 3265 r0 fun p5 =>
      g_aI s0 p5 (i4 + x4) fun i6 =>
      if i6 = 1 then
        some (1099511627776, s0)
      else
        g_gR s0 3265 r0 fun p7 =>
        g_aI s0 p7 (i4 + x4) fun i8 =>
        if i8 = 0 then
          g_gR s0 769 r0 fun p17 =>
          g_gR s0 3393 r0 fun p18 =>
          g_aI s0 p18 (i4 + x4) fun i19 =>
          g_aL s0 p17 i19 fun j20 =>
          f_M_valueOf_90 (f_M_valueOf_5 n) r0 x1 y2 x4 (i4 + x4) j20 s0
        else
          g_gR s0 6273 r0 fun p9 =>
          g_gR s0 3457 r0 fun p10 =>
          g_aI s0 p10 (i4 + x4) fun i11 =>
          g_aI s0 p9 i11 fun i12 =>
          g_gR s0 3521 r0 fun p13 =>
          g_aI s0 p13 (i4 + x4) fun i14 =>
          g_c (g_nn r0 (f_M_cellOf r0 i12 i14 s0)) fun j15 s16 =>
          f_M_valueOf_90 (f_M_valueOf_5 n) r0 x1 y2 x4 (i4 + x4) j15 s16
def f_M_valueOf (r0 : Option Nat) (x1 : Int32) (s0 : g_St) : Option (Int64 × g_St) :=
  f_M_valueOf_5 200000 r0 x1 0 0 s0
set_option maxHeartbeats 4000000 in
set_option maxRecDepth 100000 in
theorem t_M_valueOf_90 {K : g_C} {o : (Int64 × g_St)} (hK : g_OK K b_M_valueOf "FixpointEngineModel" "valueOf" (Option.some Jvm.ClassFile.FieldType.long)) (hN : g_nL K = 8) (hD : g_Kd K = 2) {k5 : Option Nat → Int32 → Int64 → Int32 → g_St → Option (Int64 × g_St)} (hk5 : ∀ (r0 : Option Nat) (x1 : Int32) (y2 : Int64) (x4 : Int32) (s0 : g_St), k5 r0 x1 y2 x4 s0 = some o → g_W K s0 [(0, g_r 1 r0), (1, g_i x1), (2, g_l y2), (4, g_i x4)] [] 5 (g_jL o)) : ∀ (r0 : Option Nat) (x1 : Int32) (y2 : Int64) (x4 : Int32) (x5 : Int32) (y0s : Int64) (s0 : g_St), f_M_valueOf_90 k5 r0 x1 y2 x4 x5 y0s s0 = some o → g_W K s0 [(0, g_r 1 r0), (1, g_i x1), (2, g_l y2), (4, g_i x4), (5, g_i x5)] [g_l y0s] 90 (g_jL o) := by
  intro r0 x1 y2 x4 x5 y0s s0 h
  unfold f_M_valueOf_90 at h
  refine r_lstore (ls1 := [(6, g_l y0s), (0, g_r 1 r0), (1, g_i x1), (2, g_l y2), (4, g_i x4), (5, g_i x5)]) hK d_M_valueOf_90 (by rw [hN]; decide) rfl ?_
  refine r_lload hK d_M_valueOf_92 0 rfl ?_
  refine r_ldc2 hK w8_112 d_M_valueOf_94 ?_
  refine r_lifne (tgt := 105) hK d_M_valueOf_97 d_M_valueOf_98 (by decide) h (fun h => ?_) (fun h => ?_)
  · refine r_lload_n hK d_M_valueOf_105 rfl 3 rfl ?_
    refine r_aload_n hK d_M_valueOf_106 rfl 1 rfl ?_
    refine r_gR hK fd_M_52 w7_84 d_M_valueOf_107 h (fun p1 h => ?_)
    refine r_iload hK d_M_valueOf_110 5 rfl ?_
    refine r_iaload hK ar_20 rfl d_M_valueOf_112 h (fun i2 h => ?_)
    refine r_i2l hK d_M_valueOf_113 ?_
    refine r_lload hK d_M_valueOf_114 0 rfl ?_
    refine r_lmul hK d_M_valueOf_116 ?_
    refine r_ladd hK d_M_valueOf_117 ?_
    refine r_lstore_n (ls1 := [(2, g_l (y2 + (i2.toInt64 * y0s))), (6, g_l y0s), (0, g_r 1 r0), (1, g_i x1), (4, g_i x4), (5, g_i x5)]) hK d_M_valueOf_118 rfl (by rw [hN]; decide) rfl ?_
    refine r_iinc (ls1 := [(4, g_i (x4 + 1)), (2, g_l (y2 + (i2.toInt64 * y0s))), (6, g_l y0s), (0, g_r 1 r0), (1, g_i x1), (5, g_i x5)]) hK d_M_valueOf_119 4 rfl rfl (by rw [hN]; decide) rfl ?_
    refine r_goto (tgt := 5) hK d_M_valueOf_122 (by decide) ?_
    exact r_sub [3, 4, 1, 0] rfl (hk5 _ _ _ _ _ h)
  · refine r_ldc2 hK w8_112 d_M_valueOf_101 ?_
    exact r_lreturn hK d_M_valueOf_104 h
set_option maxHeartbeats 4000000 in
set_option maxRecDepth 100000 in
theorem t_M_valueOf_5 {K : g_C} {o : (Int64 × g_St)} (hK : g_OK K b_M_valueOf "FixpointEngineModel" "valueOf" (Option.some Jvm.ClassFile.FieldType.long)) (hN : g_nL K = 8) (hD : g_Kd K = 2) : ∀ (n : Nat) (r0 : Option Nat) (x1 : Int32) (y2 : Int64) (x4 : Int32) (s0 : g_St), f_M_valueOf_5 n r0 x1 y2 x4 s0 = some o → g_W K s0 [(0, g_r 1 r0), (1, g_i x1), (2, g_l y2), (4, g_i x4)] [] 5 (g_jL o) := by
  intro n
  induction n with
  | zero =>
    intro r0 x1 y2 x4 s0 h
    cases h
  | succ n ih =>
    intro r0 x1 y2 x4 s0 h
    unfold f_M_valueOf_5 at h
    refine r_iload hK d_M_valueOf_5 3 rfl ?_
    refine r_aload_n hK d_M_valueOf_7 rfl 0 rfl ?_
    refine r_gR hK fd_M_50 w7_82 d_M_valueOf_8 h (fun p1 h => ?_)
    refine r_iload_n hK d_M_valueOf_11 rfl 1 rfl ?_
    refine r_iaload hK ar_20 rfl d_M_valueOf_12 h (fun i2 h => ?_)
    refine r_if_icmpge (tgt := 125) hK d_M_valueOf_13 (by decide) h (fun h => ?_) (fun h => ?_)
    · refine r_lload_n hK d_M_valueOf_125 rfl 2 rfl ?_
      exact r_lreturn hK d_M_valueOf_126 h
    · refine r_aload_n hK d_M_valueOf_16 rfl 0 rfl ?_
      refine r_gR hK fd_M_49 w7_81 d_M_valueOf_17 h (fun p3 h => ?_)
      refine r_iload_n hK d_M_valueOf_20 rfl 1 rfl ?_
      refine r_iaload hK ar_20 rfl d_M_valueOf_21 h (fun i4 h => ?_)
      refine r_iload hK d_M_valueOf_22 3 rfl ?_
      refine r_iadd hK d_M_valueOf_24 ?_
      refine r_istore (ls1 := [(5, g_i (i4 + x4)), (0, g_r 1 r0), (1, g_i x1), (2, g_l y2), (4, g_i x4)]) hK d_M_valueOf_25 (by rw [hN]; decide) rfl ?_
      refine r_aload_n hK d_M_valueOf_27 rfl 1 rfl ?_
      refine r_gR hK fd_M_51 w7_83 d_M_valueOf_28 h (fun p5 h => ?_)
      refine r_iload hK d_M_valueOf_31 0 rfl ?_
      refine r_iaload hK ar_20 rfl d_M_valueOf_33 h (fun i6 h => ?_)
      refine r_iconst (v := 1) hK d_M_valueOf_34 (by decide) ?_
      refine r_if_icmpne (tgt := 42) hK d_M_valueOf_35 (by decide) h (fun h => ?_) (fun h => ?_)
      · refine r_aload_n hK d_M_valueOf_42 rfl 1 rfl ?_
        refine r_gR hK fd_M_51 w7_83 d_M_valueOf_43 h (fun p7 h => ?_)
        refine r_iload hK d_M_valueOf_46 0 rfl ?_
        refine r_iaload hK ar_20 rfl d_M_valueOf_48 h (fun i8 h => ?_)
        refine r_ifne (tgt := 67) hK d_M_valueOf_49 (by decide) h (fun h => ?_) (fun h => ?_)
        · refine r_aload_n hK d_M_valueOf_67 rfl 1 rfl ?_
          refine r_aload_n hK d_M_valueOf_68 rfl 1 rfl ?_
          refine r_gR hK fd_M_98 w7_130 d_M_valueOf_69 h (fun p9 h => ?_)
          refine r_aload_n hK d_M_valueOf_72 rfl 1 rfl ?_
          refine r_gR hK fd_M_54 w7_86 d_M_valueOf_73 h (fun p10 h => ?_)
          refine r_iload hK d_M_valueOf_76 0 rfl ?_
          refine r_iaload hK ar_20 rfl d_M_valueOf_78 h (fun i11 h => ?_)
          refine r_iaload hK ar_20 rfl d_M_valueOf_79 h (fun i12 h => ?_)
          refine r_aload_n hK d_M_valueOf_80 rfl 1 rfl ?_
          refine r_gR hK fd_M_55 w7_87 d_M_valueOf_81 h (fun p13 h => ?_)
          refine r_iload hK d_M_valueOf_84 0 rfl ?_
          refine r_iaload hK ar_20 rfl d_M_valueOf_86 h (fun i14 h => ?_)
          refine r_Vl (avL := [g_i i12, g_i i14]) (st := []) hK ob_M rfl w9_139 wp_61 w9_137 w9_140 w1_6 (by decide) pl_M_cellOf (by rw [hD]; decide) (Nat.le_of_ble_eq_true rfl) rfl d_M_valueOf_87 (fun o9 h9 => c_M_cellOf _ _ _ _ _ _ o9 h9) h (fun j15 s16 h => ?_)
          exact r_sub [1, 2, 3, 4, 0] rfl (t_M_valueOf_90 hK hN hD ih _ _ _ _ _ _ _ h)
        · refine r_aload_n hK d_M_valueOf_52 rfl 1 rfl ?_
          refine r_gR hK fd_M_12 w7_44 d_M_valueOf_53 h (fun p17 h => ?_)
          refine r_aload_n hK d_M_valueOf_56 rfl 1 rfl ?_
          refine r_gR hK fd_M_53 w7_85 d_M_valueOf_57 h (fun p18 h => ?_)
          refine r_iload hK d_M_valueOf_60 0 rfl ?_
          refine r_iaload hK ar_20 rfl d_M_valueOf_62 h (fun i19 h => ?_)
          refine r_laload hK ar_21 rfl d_M_valueOf_63 h (fun j20 h => ?_)
          refine r_goto (tgt := 90) hK d_M_valueOf_64 (by decide) ?_
          exact r_sub [1, 2, 3, 4, 0] rfl (t_M_valueOf_90 hK hN hD ih _ _ _ _ _ _ _ h)
      · refine r_ldc2 hK w8_112 d_M_valueOf_38 ?_
        exact r_lreturn hK d_M_valueOf_41 h
set_option maxHeartbeats 4000000 in
set_option maxRecDepth 100000 in
theorem t_M_valueOf_0 {K : g_C} {o : (Int64 × g_St)} (hK : g_OK K b_M_valueOf "FixpointEngineModel" "valueOf" (Option.some Jvm.ClassFile.FieldType.long)) (hN : g_nL K = 8) (hD : g_Kd K = 2) : ∀ (r0 : Option Nat) (x1 : Int32) (s0 : g_St), f_M_valueOf r0 x1 s0 = some o → g_W K s0 [(0, g_r 1 r0), (1, g_i x1)] [] 0 (g_jL o) := by
  intro r0 x1 s0 h
  unfold f_M_valueOf at h
  refine r_lconst (v := 0) hK d_M_valueOf_0 (by decide) ?_
  refine r_lstore_n (ls1 := [(2, g_l 0), (0, g_r 1 r0), (1, g_i x1)]) hK d_M_valueOf_1 rfl (by rw [hN]; decide) rfl ?_
  refine r_iconst (v := 0) hK d_M_valueOf_2 (by decide) ?_
  refine r_istore (ls1 := [(4, g_i 0), (2, g_l 0), (0, g_r 1 r0), (1, g_i x1)]) hK d_M_valueOf_3 (by rw [hN]; decide) rfl ?_
  exact r_sub [2, 3, 1, 0] rfl (t_M_valueOf_5 hK hN hD _ _ _ _ _ _ h)
theorem c_M_valueOf (l : Launch) (G : g_G) (r0 : Option Nat) (x1 : Int32) (u : g_St) (o : (Int64 × g_St)) (h : f_M_valueOf r0 x1 u = some o) : g_Con l G y_M_valueOf b_M_valueOf 8 (Option.some Jvm.ClassFile.FieldType.long) 2 [g_r 1 r0, g_i x1] u (g_jL o) :=
  g_Con.of rfl rfl (by decide +kernel) (Nat.le_of_ble_eq_true rfl) (fun K hK hN hD hX => t_M_valueOf_0 hK hN hD _ _ _ h)
