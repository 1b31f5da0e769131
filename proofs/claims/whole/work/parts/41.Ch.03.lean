def f_Ch_lookForBarred_72 (k2 : Option Nat → Int32 → g_St → Option (Unit × g_St)) (r0 : Option Nat) (x1 : Int32) (r2 : Option Nat) (r0s : Option Nat) (x1s : Int32) (s0 : g_St) : Option (Unit × g_St) :=
  g_gI s0 137 r2 fun i1 =>
  g_c (g_nn r0s (f_Ch_note r0s x1s i1 s0)) fun _ s3 =>
  k2 r0 (x1 + 1) s3
def f_Ch_lookForBarred_53 (k2 : Option Nat → Int32 → g_St → Option (Unit × g_St)) (r0 : Option Nat) (x1 : Int32) (r2 : Option Nat) (x0s : Int32) (s0 : g_St) : Option (Unit × g_St) :=
  if x0s = 0 then
    f_Ch_lookForBarred_72 k2 r0 x1 r2 r0 0 s0
  else
    g_c (g_nn r0 (f_Ch_namesOwnComponent r0 r2 s0)) fun i1 s2 =>
    if i1 = 0 then
      f_Ch_lookForBarred_72 k2 r0 x1 r2 r0 0 s2
    else
      f_Ch_lookForBarred_72 k2 r0 x1 r2 r0 1 s2
def f_Ch_lookForBarred_2 : Nat → Option Nat → Int32 → g_St → Option (Unit × g_St)
  | 0, _, _, _ => none
  | n + 1, r0, x1, s0 =>
    g_gR s0 3 r0 fun p1 =>
    g_gR s0 518 p1 fun p2 =>
    g_c (g_nn p2 (f_Al_size p2 s0)) fun i3 s4 =>
    if i3 ≤ x1 then
      some ((), s4)
    else
      g_gR s4 3 r0 fun p5 =>
      g_gR s4 518 p5 fun p6 =>
      g_c (g_nn p6 (f_Al_get p6 x1 s4)) fun p7 s8 =>
      g_cast 9 p7 (
      g_c (g_nn p7 (f_So_isInner p7 s8)) fun i9 s10 =>
      if i9 = 0 then
        g_gR s10 9 p7 fun p11 =>
        g_gI s10 328 p11 fun i12 =>
        if i12 ≤ 0 then
          f_Ch_lookForBarred_53 (f_Ch_lookForBarred_2 n) r0 x1 p7 0 s10
        else
          f_Ch_lookForBarred_53 (f_Ch_lookForBarred_2 n) r0 x1 p7 1 s10
      else
        f_Ch_lookForBarred_53 (f_Ch_lookForBarred_2 n) r0 x1 p7 1 s10)
def f_Ch_lookForBarred (r0 : Option Nat) (s0 : g_St) : Option (Unit × g_St) :=
  f_Ch_lookForBarred_2 200000 r0 0 s0
set_option maxHeartbeats 4000000 in
set_option maxRecDepth 100000 in
theorem t_Ch_lookForBarred_72 {K : g_C} {o : (Unit × g_St)} (hK : g_OK K b_Ch_lookForBarred "FixpointEngine$Checker" "lookForBarred" (Option.none : Option Jvm.ClassFile.FieldType)) (hN : g_nL K = 4) (hD : g_Kd K = 10) {k2 : Option Nat → Int32 → g_St → Option (Unit × g_St)} (hk2 : ∀ (r0 : Option Nat) (x1 : Int32) (s0 : g_St), k2 r0 x1 s0 = some o → g_W K s0 [(0, g_r 3 r0), (1, g_i x1)] [] 2 (g_jV o)) : ∀ (r0 : Option Nat) (x1 : Int32) (r2 : Option Nat) (r0s : Option Nat) (x1s : Int32) (s0 : g_St), f_Ch_lookForBarred_72 k2 r0 x1 r2 r0s x1s s0 = some o → g_W K s0 [(0, g_r 3 r0), (1, g_i x1), (2, g_r 9 r2)] [g_i x1s, g_r 3 r0s] 72 (g_jV o) := by
  intro r0 x1 r2 r0s x1s s0 h
  unfold f_Ch_lookForBarred_72 at h
  refine r_aload_n hK d_Ch_lookForBarred_72 rfl 2 rfl ?_
  refine r_gI hK fd_So_2 w4_209 d_Ch_lookForBarred_73 h (fun i1 h => ?_)
  refine r_Vv (avL := [g_i x1s, g_i i1]) (st := []) hK ob_Ch rfl w5_192 w5_193 w5_191 w5_194 w1_3 (by decide) pl_Ch_note (by rw [hD]; decide) (Nat.le_of_ble_eq_true rfl) rfl d_Ch_lookForBarred_76 (fun o9 h9 => c_Ch_note _ _ _ _ _ _ o9 h9) h (fun s3 h => ?_)
  refine r_iinc (ls1 := [(1, g_i (x1 + 1)), (0, g_r 3 r0), (2, g_r 9 r2)]) hK d_Ch_lookForBarred_79 1 rfl rfl (by rw [hN]; decide) rfl ?_
  refine r_goto (tgt := 2) hK d_Ch_lookForBarred_82 (by decide) ?_
  exact r_sub [1, 0] rfl (hk2 _ _ _ h)
set_option maxHeartbeats 4000000 in
set_option maxRecDepth 100000 in
theorem t_Ch_lookForBarred_53 {K : g_C} {o : (Unit × g_St)} (hK : g_OK K b_Ch_lookForBarred "FixpointEngine$Checker" "lookForBarred" (Option.none : Option Jvm.ClassFile.FieldType)) (hN : g_nL K = 4) (hD : g_Kd K = 10) {k2 : Option Nat → Int32 → g_St → Option (Unit × g_St)} (hk2 : ∀ (r0 : Option Nat) (x1 : Int32) (s0 : g_St), k2 r0 x1 s0 = some o → g_W K s0 [(0, g_r 3 r0), (1, g_i x1)] [] 2 (g_jV o)) : ∀ (r0 : Option Nat) (x1 : Int32) (r2 : Option Nat) (x0s : Int32) (s0 : g_St), f_Ch_lookForBarred_53 k2 r0 x1 r2 x0s s0 = some o → g_W K s0 [(0, g_r 3 r0), (1, g_i x1), (2, g_r 9 r2)] [g_i x0s] 53 (g_jV o) := by
  intro r0 x1 r2 x0s s0 h
  unfold f_Ch_lookForBarred_53 at h
  refine r_istore_n (ls1 := [(3, g_i x0s), (0, g_r 3 r0), (1, g_i x1), (2, g_r 9 r2)]) hK d_Ch_lookForBarred_53 rfl (by rw [hN]; decide) rfl ?_
  refine r_aload_n hK d_Ch_lookForBarred_54 rfl 1 rfl ?_
  refine r_iload_n hK d_Ch_lookForBarred_55 rfl 0 rfl ?_
  refine r_ifeq (tgt := 71) hK d_Ch_lookForBarred_56 (by decide) h (fun h => ?_) (fun h => ?_)
  · refine r_iconst (v := 0) hK d_Ch_lookForBarred_71 (by decide) ?_
    exact r_sub [1, 2, 3] rfl (t_Ch_lookForBarred_72 hK hN hD hk2 _ _ _ _ _ _ h)
  · refine r_aload_n hK d_Ch_lookForBarred_59 rfl 1 rfl ?_
    refine r_aload_n hK d_Ch_lookForBarred_60 rfl 3 rfl ?_
    refine r_Vi (avL := [g_r 9 r2]) (st := [g_r 3 r0]) hK ob_Ch rfl w5_180 w5_181 w5_179 w5_182 w1_3 (by decide) pl_Ch_namesOwnComponent (by rw [hD]; decide) (Nat.le_of_ble_eq_true rfl) rfl d_Ch_lookForBarred_61 (fun o9 h9 => c_Ch_namesOwnComponent _ _ _ _ _ o9 h9) h (fun i1 s2 h => ?_)
    refine r_ifeq (tgt := 71) hK d_Ch_lookForBarred_64 (by decide) h (fun h => ?_) (fun h => ?_)
    · refine r_iconst (v := 0) hK d_Ch_lookForBarred_71 (by decide) ?_
      exact r_sub [1, 2, 3] rfl (t_Ch_lookForBarred_72 hK hN hD hk2 _ _ _ _ _ _ h)
    · refine r_iconst (v := 1) hK d_Ch_lookForBarred_67 (by decide) ?_
      refine r_goto (tgt := 72) hK d_Ch_lookForBarred_68 (by decide) ?_
      exact r_sub [1, 2, 3] rfl (t_Ch_lookForBarred_72 hK hN hD hk2 _ _ _ _ _ _ h)
set_option maxHeartbeats 4000000 in
set_option maxRecDepth 100000 in
theorem t_Ch_lookForBarred_2 {K : g_C} {o : (Unit × g_St)} (hK : g_OK K b_Ch_lookForBarred "FixpointEngine$Checker" "lookForBarred" (Option.none : Option Jvm.ClassFile.FieldType)) (hN : g_nL K = 4) (hD : g_Kd K = 10) : ∀ (n : Nat) (r0 : Option Nat) (x1 : Int32) (s0 : g_St), f_Ch_lookForBarred_2 n r0 x1 s0 = some o → g_W K s0 [(0, g_r 3 r0), (1, g_i x1)] [] 2 (g_jV o) := by
  intro n
  induction n with
  | zero =>
    intro r0 x1 s0 h
    cases h
  | succ n ih =>
    intro r0 x1 s0 h
    unfold f_Ch_lookForBarred_2 at h
    refine r_iload_n hK d_Ch_lookForBarred_2 rfl 1 rfl ?_
    refine r_aload_n hK d_Ch_lookForBarred_3 rfl 0 rfl ?_
    refine r_gR hK fd_Ch_0 w1_98 d_Ch_lookForBarred_4 h (fun p1 h => ?_)
    refine r_gR hK fd_Qu_8 w3_47 d_Ch_lookForBarred_7 h (fun p2 h => ?_)
    refine r_Vi (avL := []) (st := [g_i x1]) hK ob_Al rfl w5_129 w5_130 w5_128 w5_131 w1_21 (by decide) pl_Al_size (by rw [hD]; decide) (Nat.le_of_ble_eq_true rfl) rfl d_Ch_lookForBarred_10 (fun o9 h9 => c_Al_size _ _ _ _ o9 h9) h (fun i3 s4 h => ?_)
    refine r_if_icmpge (tgt := 85) hK d_Ch_lookForBarred_13 (by decide) h (fun h => ?_) (fun h => ?_)
    · exact r_return hK d_Ch_lookForBarred_85 h
    · refine r_aload_n hK d_Ch_lookForBarred_16 rfl 0 rfl ?_
      refine r_gR hK fd_Ch_0 w1_98 d_Ch_lookForBarred_17 h (fun p5 h => ?_)
      refine r_gR hK fd_Qu_8 w3_47 d_Ch_lookForBarred_20 h (fun p6 h => ?_)
      refine r_iload_n hK d_Ch_lookForBarred_23 rfl 1 rfl ?_
      refine r_Vr (avL := [g_i x1]) (st := []) hK ob_Al rfl w5_133 w5_134 w5_132 w5_135 w1_21 (by decide) pl_Al_get (by rw [hD]; decide) (Nat.le_of_ble_eq_true rfl) rfl d_Ch_lookForBarred_24 (fun o9 h9 => c_Al_get _ _ _ _ _ o9 h9) h (fun p7 s8 h => ?_)
      refine r_cast hK ob_So rfl rfl w5_144 w9_233 d_Ch_lookForBarred_27 h (fun h => ?_)
      refine r_astore_n (ls1 := [(2, g_r 9 p7), (0, g_r 3 r0), (1, g_i x1)]) hK d_Ch_lookForBarred_30 rfl (by rw [hN]; decide) rfl ?_
      refine r_aload_n hK d_Ch_lookForBarred_31 rfl 0 rfl ?_
      refine r_Vi (avL := []) (st := []) hK ob_So rfl w5_201 w5_202 w5_200 w5_203 w1_29 (by decide) pl_So_isInner (by rw [hD]; decide) (Nat.le_of_ble_eq_true rfl) rfl d_Ch_lookForBarred_32 (fun o9 h9 => c_So_isInner _ _ _ _ o9 h9) h (fun i9 s10 h => ?_)
      refine r_ifne (tgt := 48) hK d_Ch_lookForBarred_35 (by decide) h (fun h => ?_) (fun h => ?_)
      · refine r_iconst (v := 1) hK d_Ch_lookForBarred_48 (by decide) ?_
        refine r_goto (tgt := 53) hK d_Ch_lookForBarred_49 (by decide) ?_
        exact r_sub [1, 2, 0] rfl (t_Ch_lookForBarred_53 hK hN hD ih _ _ _ _ _ h)
      · refine r_aload_n hK d_Ch_lookForBarred_38 rfl 0 rfl ?_
        refine r_gR hK fd_So_0 w4_205 d_Ch_lookForBarred_39 h (fun p11 h => ?_)
        refine r_gI hK fd_Se_5 w3_236 d_Ch_lookForBarred_42 h (fun i12 h => ?_)
        refine r_ifle (tgt := 52) hK d_Ch_lookForBarred_45 (by decide) h (fun h => ?_) (fun h => ?_)
        · refine r_iconst (v := 0) hK d_Ch_lookForBarred_52 (by decide) ?_
          exact r_sub [1, 2, 0] rfl (t_Ch_lookForBarred_53 hK hN hD ih _ _ _ _ _ h)
        · refine r_iconst (v := 1) hK d_Ch_lookForBarred_48 (by decide) ?_
          refine r_goto (tgt := 53) hK d_Ch_lookForBarred_49 (by decide) ?_
          exact r_sub [1, 2, 0] rfl (t_Ch_lookForBarred_53 hK hN hD ih _ _ _ _ _ h)
set_option maxHeartbeats 4000000 in
set_option maxRecDepth 100000 in
theorem t_Ch_lookForBarred_0 {K : g_C} {o : (Unit × g_St)} (hK : g_OK K b_Ch_lookForBarred "FixpointEngine$Checker" "lookForBarred" (Option.none : Option Jvm.ClassFile.FieldType)) (hN : g_nL K = 4) (hD : g_Kd K = 10) : ∀ (r0 : Option Nat) (s0 : g_St), f_Ch_lookForBarred r0 s0 = some o → g_W K s0 [(0, g_r 3 r0)] [] 0 (g_jV o) := by
  intro r0 s0 h
  unfold f_Ch_lookForBarred at h
  refine r_iconst (v := 0) hK d_Ch_lookForBarred_0 (by decide) ?_
  refine r_istore_n (ls1 := [(1, g_i 0), (0, g_r 3 r0)]) hK d_Ch_lookForBarred_1 rfl (by rw [hN]; decide) rfl ?_
  exact r_sub [1, 0] rfl (t_Ch_lookForBarred_2 hK hN hD _ _ _ _ h)
theorem c_Ch_lookForBarred (l : Launch) (G : g_G) (r0 : Option Nat) (u : g_St) (o : (Unit × g_St)) (h : f_Ch_lookForBarred r0 u = some o) : g_Con l G y_Ch_lookForBarred b_Ch_lookForBarred 4 (Option.none : Option Jvm.ClassFile.FieldType) 10 [g_r 3 r0] u (g_jV o) :=
  g_Con.of rfl rfl (by decide +kernel) (Nat.le_of_ble_eq_true rfl) (fun K hK hN hD hX => t_Ch_lookForBarred_0 hK hN hD _ _ h)
def f_Ch_lookAtWidths_32 (k2 : Option Nat → Option Nat → Int32 → g_St → Option (Unit × g_St)) (r0 : Option Nat) (r1 : Option Nat) (x2 : Int32) (r0s : Option Nat) (x1s : Int32) (s0 : g_St) : Option (Unit × g_St) :=
  g_gR s0 647 r1 fun p1 =>
  g_aR s0 p1 x2 fun p2 =>
  g_gI s0 72 p2 fun i3 =>
  g_c (g_nn r0s (f_Ch_note r0s x1s i3 s0)) fun _ s5 =>
  k2 r0 r1 (x2 + 1) s5
def f_Ch_lookAtWidths_2 : Nat → Option Nat → Option Nat → Int32 → g_St → Option (Unit × g_St)
  | 0, _, _, _, _ => none
  | n + 1, r0, r1, x2, s0 =>
    g_gI s0 711 r1 fun i1 =>
    if i1 ≤ x2 then
      some ((), s0)
    else
      g_gR s0 647 r1 fun p2 =>
      g_aR s0 p2 x2 fun p3 =>
      g_gI s0 264 p3 fun i4 =>
      g_gI s0 135 r1 fun i5 =>
      if i4 = i5 then
        f_Ch_lookAtWidths_32 (f_Ch_lookAtWidths_2 n) r0 r1 x2 r0 0 s0
      else
        f_Ch_lookAtWidths_32 (f_Ch_lookAtWidths_2 n) r0 r1 x2 r0 1 s0
def f_Ch_lookAtWidths (r0 : Option Nat) (r1 : Option Nat) (s0 : g_St) : Option (Unit × g_St) :=
  f_Ch_lookAtWidths_2 200000 r0 r1 0 s0
set_option maxHeartbeats 4000000 in
set_option maxRecDepth 100000 in
theorem t_Ch_lookAtWidths_32 {K : g_C} {o : (Unit × g_St)} (hK : g_OK K b_Ch_lookAtWidths "FixpointEngine$Checker" "lookAtWidths" (Option.none : Option Jvm.ClassFile.FieldType)) (hN : g_nL K = 3) (hD : g_Kd K = 2) {k2 : Option Nat → Option Nat → Int32 → g_St → Option (Unit × g_St)} (hk2 : ∀ (r0 : Option Nat) (r1 : Option Nat) (x2 : Int32) (s0 : g_St), k2 r0 r1 x2 s0 = some o → g_W K s0 [(0, g_r 3 r0), (1, g_r 7 r1), (2, g_i x2)] [] 2 (g_jV o)) : ∀ (r0 : Option Nat) (r1 : Option Nat) (x2 : Int32) (r0s : Option Nat) (x1s : Int32) (s0 : g_St), f_Ch_lookAtWidths_32 k2 r0 r1 x2 r0s x1s s0 = some o → g_W K s0 [(0, g_r 3 r0), (1, g_r 7 r1), (2, g_i x2)] [g_i x1s, g_r 3 r0s] 32 (g_jV o) := by
  intro r0 r1 x2 r0s x1s s0 h
  unfold f_Ch_lookAtWidths_32 at h
  refine r_aload_n hK d_Ch_lookAtWidths_32 rfl 1 rfl ?_
  refine r_gR hK fd_Pa_10 w3_128 d_Ch_lookAtWidths_33 h (fun p1 h => ?_)
  refine r_iload_n hK d_Ch_lookAtWidths_36 rfl 2 rfl ?_
  refine r_aaload hK rfl ar_25 rfl d_Ch_lookAtWidths_37 h (fun p2 h => ?_)
  refine r_gI hK fd_Se_1 w3_225 d_Ch_lookAtWidths_38 h (fun i3 h => ?_)
  refine r_Vv (avL := [g_i x1s, g_i i3]) (st := []) hK ob_Ch rfl w5_192 w5_193 w5_191 w5_194 w1_3 (by decide) pl_Ch_note (by rw [hD]; decide) (Nat.le_of_ble_eq_true rfl) rfl d_Ch_lookAtWidths_41 (fun o9 h9 => c_Ch_note _ _ _ _ _ _ o9 h9) h (fun s5 h => ?_)
  refine r_iinc (ls1 := [(2, g_i (x2 + 1)), (0, g_r 3 r0), (1, g_r 7 r1)]) hK d_Ch_lookAtWidths_44 2 rfl rfl (by rw [hN]; decide) rfl ?_
  refine r_goto (tgt := 2) hK d_Ch_lookAtWidths_47 (by decide) ?_
  exact r_sub [1, 2, 0] rfl (hk2 _ _ _ _ h)
set_option maxHeartbeats 4000000 in
set_option maxRecDepth 100000 in
theorem t_Ch_lookAtWidths_2 {K : g_C} {o : (Unit × g_St)} (hK : g_OK K b_Ch_lookAtWidths "FixpointEngine$Checker" "lookAtWidths" (Option.none : Option Jvm.ClassFile.FieldType)) (hN : g_nL K = 3) (hD : g_Kd K = 2) : ∀ (n : Nat) (r0 : Option Nat) (r1 : Option Nat) (x2 : Int32) (s0 : g_St), f_Ch_lookAtWidths_2 n r0 r1 x2 s0 = some o → g_W K s0 [(0, g_r 3 r0), (1, g_r 7 r1), (2, g_i x2)] [] 2 (g_jV o) := by
  intro n
  induction n with
  | zero =>
    intro r0 r1 x2 s0 h
    cases h
  | succ n ih =>
    intro r0 r1 x2 s0 h
    unfold f_Ch_lookAtWidths_2 at h
    refine r_iload_n hK d_Ch_lookAtWidths_2 rfl 2 rfl ?_
    refine r_aload_n hK d_Ch_lookAtWidths_3 rfl 1 rfl ?_
    refine r_gI hK fd_Pa_11 w3_131 d_Ch_lookAtWidths_4 h (fun i1 h => ?_)
    refine r_if_icmpge (tgt := 50) hK d_Ch_lookAtWidths_7 (by decide) h (fun h => ?_) (fun h => ?_)
    · exact r_return hK d_Ch_lookAtWidths_50 h
    · refine r_aload_n hK d_Ch_lookAtWidths_10 rfl 0 rfl ?_
      refine r_aload_n hK d_Ch_lookAtWidths_11 rfl 1 rfl ?_
      refine r_gR hK fd_Pa_10 w3_128 d_Ch_lookAtWidths_12 h (fun p2 h => ?_)
      refine r_iload_n hK d_Ch_lookAtWidths_15 rfl 2 rfl ?_
      refine r_aaload hK rfl ar_25 rfl d_Ch_lookAtWidths_16 h (fun p3 h => ?_)
      refine r_gI hK fd_Se_4 w3_234 d_Ch_lookAtWidths_17 h (fun i4 h => ?_)
      refine r_aload_n hK d_Ch_lookAtWidths_20 rfl 1 rfl ?_
      refine r_gI hK fd_Pa_2 w3_100 d_Ch_lookAtWidths_21 h (fun i5 h => ?_)
      refine r_if_icmpeq (tgt := 31) hK d_Ch_lookAtWidths_24 (by decide) h (fun h => ?_) (fun h => ?_)
      · refine r_iconst (v := 0) hK d_Ch_lookAtWidths_31 (by decide) ?_
        exact r_sub [0, 1, 2] rfl (t_Ch_lookAtWidths_32 hK hN hD ih _ _ _ _ _ _ h)
      · refine r_iconst (v := 1) hK d_Ch_lookAtWidths_27 (by decide) ?_
        refine r_goto (tgt := 32) hK d_Ch_lookAtWidths_28 (by decide) ?_
        exact r_sub [0, 1, 2] rfl (t_Ch_lookAtWidths_32 hK hN hD ih _ _ _ _ _ _ h)
set_option maxHeartbeats 4000000 in
set_option maxRecDepth 100000 in
theorem t_Ch_lookAtWidths_0 {K : g_C} {o : (Unit × g_St)} (hK : g_OK K b_Ch_lookAtWidths "FixpointEngine$Checker" "lookAtWidths" (Option.none : Option Jvm.ClassFile.FieldType)) (hN : g_nL K = 3) (hD : g_Kd K = 2) : ∀ (r0 : Option Nat) (r1 : Option Nat) (s0 : g_St), f_Ch_lookAtWidths r0 r1 s0 = some o → g_W K s0 [(0, g_r 3 r0), (1, g_r 7 r1)] [] 0 (g_jV o) := by
  intro r0 r1 s0 h
  unfold f_Ch_lookAtWidths at h
  refine r_iconst (v := 0) hK d_Ch_lookAtWidths_0 (by decide) ?_
  refine r_istore_n (ls1 := [(2, g_i 0), (0, g_r 3 r0), (1, g_r 7 r1)]) hK d_Ch_lookAtWidths_1 rfl (by rw [hN]; decide) rfl ?_
  exact r_sub [1, 2, 0] rfl (t_Ch_lookAtWidths_2 hK hN hD _ _ _ _ _ h)
theorem c_Ch_lookAtWidths (l : Launch) (G : g_G) (r0 : Option Nat) (r1 : Option Nat) (u : g_St) (o : (Unit × g_St)) (h : f_Ch_lookAtWidths r0 r1 u = some o) : g_Con l G y_Ch_lookAtWidths b_Ch_lookAtWidths 3 (Option.none : Option Jvm.ClassFile.FieldType) 2 [g_r 3 r0, g_r 7 r1] u (g_jV o) :=
  g_Con.of rfl rfl (by decide +kernel) (Nat.le_of_ble_eq_true rfl) (fun K hK hN hD hX => t_Ch_lookAtWidths_0 hK hN hD _ _ _ h)
def f_Ch_namesItselfTwice_2 : Nat → Option Nat → Int32 → g_St → Option (Int32 × g_St)
  | 0, _, _, _ => none
  | n + 1, r0, x1, s0 =>
    g_gI s0 711 r0 fun i1 =>
    if i1 ≤ x1 then
      g_rZ 0 (some (0, s0))
    else
      g_gR s0 647 r0 fun p2 =>
      g_aR s0 p2 x1 fun p3 =>
      g_gI s0 648 p3 fun i4 =>
      if i4 ≤ 1 then
        f_Ch_namesItselfTwice_2 n r0 (x1 + 1) s0
      else
        g_rZ 1 (some (1, s0))
def f_Ch_namesItselfTwice (r0 : Option Nat) (s0 : g_St) : Option (Int32 × g_St) :=
  f_Ch_namesItselfTwice_2 200000 r0 0 s0
set_option maxHeartbeats 4000000 in
set_option maxRecDepth 100000 in
theorem t_Ch_namesItselfTwice_2 {K : g_C} {o : (Int32 × g_St)} (hK : g_OK K b_Ch_namesItselfTwice "FixpointEngine$Checker" "namesItselfTwice" (Option.some Jvm.ClassFile.FieldType.boolean)) (hN : g_nL K = 2) (hD : g_Kd K = 1) : ∀ (n : Nat) (r0 : Option Nat) (x1 : Int32) (s0 : g_St), f_Ch_namesItselfTwice_2 n r0 x1 s0 = some o → g_W K s0 [(0, g_r 7 r0), (1, g_i x1)] [] 2 (g_jI o) := by
  intro n
  induction n with
  | zero =>
    intro r0 x1 s0 h
    cases h
  | succ n ih =>
    intro r0 x1 s0 h
    unfold f_Ch_namesItselfTwice_2 at h
    refine r_iload_n hK d_Ch_namesItselfTwice_2 rfl 1 rfl ?_
    refine r_aload_n hK d_Ch_namesItselfTwice_3 rfl 0 rfl ?_
    refine r_gI hK fd_Pa_11 w3_131 d_Ch_namesItselfTwice_4 h (fun i1 h => ?_)
    refine r_if_icmpge (tgt := 31) hK d_Ch_namesItselfTwice_7 (by decide) h (fun h => ?_) (fun h => ?_)
    · refine r_iconst (v := 0) hK d_Ch_namesItselfTwice_31 (by decide) ?_
      exact r_zreturn hK d_Ch_namesItselfTwice_32 h
    · refine r_aload_n hK d_Ch_namesItselfTwice_10 rfl 0 rfl ?_
      refine r_gR hK fd_Pa_10 w3_128 d_Ch_namesItselfTwice_11 h (fun p2 h => ?_)
      refine r_iload_n hK d_Ch_namesItselfTwice_14 rfl 1 rfl ?_
      refine r_aaload hK rfl ar_25 rfl d_Ch_namesItselfTwice_15 h (fun p3 h => ?_)
      refine r_gI hK fd_Se_10 w4_12 d_Ch_namesItselfTwice_16 h (fun i4 h => ?_)
      refine r_iconst (v := 1) hK d_Ch_namesItselfTwice_19 (by decide) ?_
      refine r_if_icmple (tgt := 25) hK d_Ch_namesItselfTwice_20 (by decide) h (fun h => ?_) (fun h => ?_)
      · refine r_iinc (ls1 := [(1, g_i (x1 + 1)), (0, g_r 7 r0)]) hK d_Ch_namesItselfTwice_25 1 rfl rfl (by rw [hN]; decide) rfl ?_
        refine r_goto (tgt := 2) hK d_Ch_namesItselfTwice_28 (by decide) ?_
        exact r_sub [1, 0] rfl (ih _ _ _ h)
      · refine r_iconst (v := 1) hK d_Ch_namesItselfTwice_23 (by decide) ?_
        exact r_zreturn hK d_Ch_namesItselfTwice_24 h
set_option maxHeartbeats 4000000 in
set_option maxRecDepth 100000 in
theorem t_Ch_namesItselfTwice_0 {K : g_C} {o : (Int32 × g_St)} (hK : g_OK K b_Ch_namesItselfTwice "FixpointEngine$Checker" "namesItselfTwice" (Option.some Jvm.ClassFile.FieldType.boolean)) (hN : g_nL K = 2) (hD : g_Kd K = 1) : ∀ (r0 : Option Nat) (s0 : g_St), f_Ch_namesItselfTwice r0 s0 = some o → g_W K s0 [(0, g_r 7 r0)] [] 0 (g_jI o) := by
  intro r0 s0 h
  unfold f_Ch_namesItselfTwice at h
  refine r_iconst (v := 0) hK d_Ch_namesItselfTwice_0 (by decide) ?_
  refine r_istore_n (ls1 := [(1, g_i 0), (0, g_r 7 r0)]) hK d_Ch_namesItselfTwice_1 rfl (by rw [hN]; decide) rfl ?_
  exact r_sub [1, 0] rfl (t_Ch_namesItselfTwice_2 hK hN hD _ _ _ _ h)
theorem c_Ch_namesItselfTwice (l : Launch) (G : g_G) (r0 : Option Nat) (u : g_St) (o : (Int32 × g_St)) (h : f_Ch_namesItselfTwice r0 u = some o) : g_Con l G y_Ch_namesItselfTwice b_Ch_namesItselfTwice 2 (Option.some Jvm.ClassFile.FieldType.boolean) 1 [g_r 7 r0] u (g_jI o) :=
  g_Con.of rfl rfl (by decide +kernel) (Nat.le_of_ble_eq_true rfl) (fun K hK hN hD hX => t_Ch_namesItselfTwice_0 hK hN hD _ _ h)
def f_Ch_isWrong_127 (r1 : Option Nat) (s0 : g_St) : Option (Int32 × g_St) :=
  g_gI s0 967 r1 fun i1 =>
  if i1 = 0 then
    g_rZ 1 (some (1, s0))
  else
    g_rZ 0 (some (0, s0))
def f_Ch_isWrong_83 (r1 : Option Nat) (s0 : g_St) : Option (Int32 × g_St) :=
  g_gI s0 839 r1 fun i1 =>
  g_c (f_In_bitCount i1 s0) fun i2 s3 =>
  if 1 < i2 then
    g_rZ 1 (some (1, s3))
  else
    g_c (f_Ch_namesItselfTwice r1 s3) fun i4 s5 =>
    if i4 = 0 then
      g_rZ 0 (some (0, s5))
    else
      g_rZ 1 (some (1, s5))
def f_Ch_isWrong (r0 : Option Nat) (r1 : Option Nat) (x2 : Int32) (s0 : g_St) : Option (Int32 × g_St) :=
  if x2 = 4 then
    g_gI s0 519 r1 fun i10 =>
    if i10 = 0 then
      g_rZ 0 (some (0, s0))
    else
      g_gI s0 583 r1 fun i11 =>
      if i11 = 0 then
        g_rZ 0 (some (0, s0))
      else
        g_rZ 1 (some (1, s0))
  else
    if x2 = 6 then
      g_gR s0 647 r1 fun p7 =>
      g_aR s0 p7 0 fun p8 =>
      g_gI s0 648 p8 fun i9 =>
      if i9 ≤ 0 then
        g_rZ 0 (some (0, s0))
      else
        g_rZ 1 (some (1, s0))
    else
      if x2 = 7 then
        g_gI s0 967 r1 fun i3 =>
        if i3 = 0 then
          g_rZ 0 (some (0, s0))
        else
          g_gI s0 583 r1 fun i4 =>
          if i4 = 0 then
            g_gI s0 391 r1 fun i5 =>
            if i5 = 0 then
              g_gI s0 455 r1 fun i6 =>
              if i6 = 0 then
                g_rZ 0 (some (0, s0))
              else
                f_Ch_isWrong_83 r1 s0
            else
              f_Ch_isWrong_83 r1 s0
          else
            f_Ch_isWrong_83 r1 s0
      else
        if x2 = 8 then
          g_gI s0 391 r1 fun i1 =>
          if i1 = 0 then
            g_gI s0 455 r1 fun i2 =>
            if i2 = 0 then
              g_rZ 0 (some (0, s0))
            else
              f_Ch_isWrong_127 r1 s0
          else
            f_Ch_isWrong_127 r1 s0
        else
          g_rZ 0 (some (0, s0))
set_option maxHeartbeats 4000000 in
set_option maxRecDepth 100000 in
theorem t_Ch_isWrong_127 {K : g_C} {o : (Int32 × g_St)} (hK : g_OK K b_Ch_isWrong "FixpointEngine$Checker" "isWrong" (Option.some Jvm.ClassFile.FieldType.boolean)) (hN : g_nL K = 3) (hD : g_Kd K = 2) : ∀ (r1 : Option Nat) (s0 : g_St), f_Ch_isWrong_127 r1 s0 = some o → g_W K s0 [(1, g_r 7 r1)] [] 127 (g_jI o) := by
  intro r1 s0 h
  unfold f_Ch_isWrong_127 at h
  refine r_aload_n hK d_Ch_isWrong_127 rfl 0 rfl ?_
  refine r_gI hK fd_Pa_15 w3_140 d_Ch_isWrong_128 h (fun i1 h => ?_)
  refine r_ifne (tgt := 138) hK d_Ch_isWrong_131 (by decide) h (fun h => ?_) (fun h => ?_)
  · refine r_iconst (v := 0) hK d_Ch_isWrong_138 (by decide) ?_
    exact r_zreturn hK d_Ch_isWrong_139 h
  · refine r_iconst (v := 1) hK d_Ch_isWrong_134 (by decide) ?_
    refine r_goto (tgt := 139) hK d_Ch_isWrong_135 (by decide) ?_
    exact r_zreturn hK d_Ch_isWrong_139 h
set_option maxHeartbeats 4000000 in
set_option maxRecDepth 100000 in
theorem t_Ch_isWrong_83 {K : g_C} {o : (Int32 × g_St)} (hK : g_OK K b_Ch_isWrong "FixpointEngine$Checker" "isWrong" (Option.some Jvm.ClassFile.FieldType.boolean)) (hN : g_nL K = 3) (hD : g_Kd K = 2) : ∀ (r1 : Option Nat) (s0 : g_St), f_Ch_isWrong_83 r1 s0 = some o → g_W K s0 [(1, g_r 7 r1)] [] 83 (g_jI o) := by
  intro r1 s0 h
  unfold f_Ch_isWrong_83 at h
  refine r_aload_n hK d_Ch_isWrong_83 rfl 0 rfl ?_
  refine r_gI hK fd_Pa_13 w3_133 d_Ch_isWrong_84 h (fun i1 h => ?_)
  refine r_Si (avL := [g_i i1]) (st := []) hK w5_221 w5_220 w5_222 w1_32 (by decide) pl_In_bitCount (by rw [hD]; decide) (Nat.le_of_ble_eq_true rfl) rfl d_Ch_isWrong_87 (fun o9 h9 => c_In_bitCount _ _ _ _ o9 h9) h (fun i2 s3 h => ?_)
  refine r_iconst (v := 1) hK d_Ch_isWrong_90 (by decide) ?_
  refine r_if_icmpgt (tgt := 101) hK d_Ch_isWrong_91 (by decide) h (fun h => ?_) (fun h => ?_)
  · refine r_iconst (v := 1) hK d_Ch_isWrong_101 (by decide) ?_
    refine r_goto (tgt := 106) hK d_Ch_isWrong_102 (by decide) ?_
    exact r_zreturn hK d_Ch_isWrong_106 h
  · refine r_aload_n hK d_Ch_isWrong_94 rfl 0 rfl ?_
    refine r_Si (avL := [g_r 7 r1]) (st := []) hK w5_227 w5_226 w5_228 w1_3 (by decide) pl_Ch_namesItselfTwice (by rw [hD]; decide) (Nat.le_of_ble_eq_true rfl) rfl d_Ch_isWrong_95 (fun o9 h9 => c_Ch_namesItselfTwice _ _ _ _ o9 h9) h (fun i4 s5 h => ?_)
    refine r_ifeq (tgt := 105) hK d_Ch_isWrong_98 (by decide) h (fun h => ?_) (fun h => ?_)
    · refine r_iconst (v := 0) hK d_Ch_isWrong_105 (by decide) ?_
      exact r_zreturn hK d_Ch_isWrong_106 h
    · refine r_iconst (v := 1) hK d_Ch_isWrong_101 (by decide) ?_
      refine r_goto (tgt := 106) hK d_Ch_isWrong_102 (by decide) ?_
      exact r_zreturn hK d_Ch_isWrong_106 h
set_option maxHeartbeats 4000000 in
set_option maxRecDepth 100000 in
theorem t_Ch_isWrong_0 {K : g_C} {o : (Int32 × g_St)} (hK : g_OK K b_Ch_isWrong "FixpointEngine$Checker" "isWrong" (Option.some Jvm.ClassFile.FieldType.boolean)) (hN : g_nL K = 3) (hD : g_Kd K = 2) : ∀ (r0 : Option Nat) (r1 : Option Nat) (x2 : Int32) (s0 : g_St), f_Ch_isWrong r0 r1 x2 s0 = some o → g_W K s0 [(0, g_r 3 r0), (1, g_r 7 r1), (2, g_i x2)] [] 0 (g_jI o) := by
  intro r0 r1 x2 s0 h
  unfold f_Ch_isWrong at h
  refine r_iload_n hK d_Ch_isWrong_0 rfl 2 rfl ?_
  refine r_iconst (v := 4) hK d_Ch_isWrong_1 (by decide) ?_
  refine r_if_icmpne (tgt := 25) hK d_Ch_isWrong_2 (by decide) h (fun h => ?_) (fun h => ?_)
  · refine r_iload_n hK d_Ch_isWrong_25 rfl 2 rfl ?_
    refine r_bipush (v := 6) hK d_Ch_isWrong_26 (by decide) ?_
    refine r_if_icmpne (tgt := 49) hK d_Ch_isWrong_28 (by decide) h (fun h => ?_) (fun h => ?_)
    · refine r_iload_n hK d_Ch_isWrong_49 rfl 2 rfl ?_
      refine r_bipush (v := 7) hK d_Ch_isWrong_50 (by decide) ?_
      refine r_if_icmpne (tgt := 107) hK d_Ch_isWrong_52 (by decide) h (fun h => ?_) (fun h => ?_)
      · refine r_iload_n hK d_Ch_isWrong_107 rfl 2 rfl ?_
        refine r_bipush (v := 8) hK d_Ch_isWrong_108 (by decide) ?_
        refine r_if_icmpne (tgt := 138) hK d_Ch_isWrong_110 (by decide) h (fun h => ?_) (fun h => ?_)
        · refine r_iconst (v := 0) hK d_Ch_isWrong_138 (by decide) ?_
          exact r_zreturn hK d_Ch_isWrong_139 h
        · refine r_aload_n hK d_Ch_isWrong_113 rfl 1 rfl ?_
          refine r_gI hK fd_Pa_6 w3_111 d_Ch_isWrong_114 h (fun i1 h => ?_)
          refine r_ifne (tgt := 127) hK d_Ch_isWrong_117 (by decide) h (fun h => ?_) (fun h => ?_)
          · exact r_sub [1] rfl (t_Ch_isWrong_127 hK hN hD _ _ h)
          · refine r_aload_n hK d_Ch_isWrong_120 rfl 1 rfl ?_
            refine r_gI hK fd_Pa_7 w3_117 d_Ch_isWrong_121 h (fun i2 h => ?_)
            refine r_ifeq (tgt := 138) hK d_Ch_isWrong_124 (by decide) h (fun h => ?_) (fun h => ?_)
            · refine r_iconst (v := 0) hK d_Ch_isWrong_138 (by decide) ?_
              exact r_zreturn hK d_Ch_isWrong_139 h
            · exact r_sub [1] rfl (t_Ch_isWrong_127 hK hN hD _ _ h)
      · refine r_aload_n hK d_Ch_isWrong_55 rfl 1 rfl ?_
        refine r_gI hK fd_Pa_15 w3_140 d_Ch_isWrong_56 h (fun i3 h => ?_)
        refine r_ifeq (tgt := 105) hK d_Ch_isWrong_59 (by decide) h (fun h => ?_) (fun h => ?_)
        · refine r_iconst (v := 0) hK d_Ch_isWrong_105 (by decide) ?_
          exact r_zreturn hK d_Ch_isWrong_106 h
        · refine r_aload_n hK d_Ch_isWrong_62 rfl 1 rfl ?_
          refine r_gI hK fd_Pa_9 w3_123 d_Ch_isWrong_63 h (fun i4 h => ?_)
          refine r_ifne (tgt := 83) hK d_Ch_isWrong_66 (by decide) h (fun h => ?_) (fun h => ?_)
          · exact r_sub [1] rfl (t_Ch_isWrong_83 hK hN hD _ _ h)
          · refine r_aload_n hK d_Ch_isWrong_69 rfl 1 rfl ?_
            refine r_gI hK fd_Pa_6 w3_111 d_Ch_isWrong_70 h (fun i5 h => ?_)
            refine r_ifne (tgt := 83) hK d_Ch_isWrong_73 (by decide) h (fun h => ?_) (fun h => ?_)
            · exact r_sub [1] rfl (t_Ch_isWrong_83 hK hN hD _ _ h)
            · refine r_aload_n hK d_Ch_isWrong_76 rfl 1 rfl ?_
              refine r_gI hK fd_Pa_7 w3_117 d_Ch_isWrong_77 h (fun i6 h => ?_)
              refine r_ifeq (tgt := 105) hK d_Ch_isWrong_80 (by decide) h (fun h => ?_) (fun h => ?_)
              · refine r_iconst (v := 0) hK d_Ch_isWrong_105 (by decide) ?_
                exact r_zreturn hK d_Ch_isWrong_106 h
              · exact r_sub [1] rfl (t_Ch_isWrong_83 hK hN hD _ _ h)
    · refine r_aload_n hK d_Ch_isWrong_31 rfl 1 rfl ?_
      refine r_gR hK fd_Pa_10 w3_128 d_Ch_isWrong_32 h (fun p7 h => ?_)
      refine r_iconst (v := 0) hK d_Ch_isWrong_35 (by decide) ?_
      refine r_aaload hK rfl ar_25 rfl d_Ch_isWrong_36 h (fun p8 h => ?_)
      refine r_gI hK fd_Se_10 w4_12 d_Ch_isWrong_37 h (fun i9 h => ?_)
      refine r_ifle (tgt := 47) hK d_Ch_isWrong_40 (by decide) h (fun h => ?_) (fun h => ?_)
      · refine r_iconst (v := 0) hK d_Ch_isWrong_47 (by decide) ?_
        exact r_zreturn hK d_Ch_isWrong_48 h
      · refine r_iconst (v := 1) hK d_Ch_isWrong_43 (by decide) ?_
        refine r_goto (tgt := 48) hK d_Ch_isWrong_44 (by decide) ?_
        exact r_zreturn hK d_Ch_isWrong_48 h
  · refine r_aload_n hK d_Ch_isWrong_5 rfl 1 rfl ?_
    refine r_gI hK fd_Pa_8 w3_120 d_Ch_isWrong_6 h (fun i10 h => ?_)
    refine r_ifeq (tgt := 23) hK d_Ch_isWrong_9 (by decide) h (fun h => ?_) (fun h => ?_)
    · refine r_iconst (v := 0) hK d_Ch_isWrong_23 (by decide) ?_
      exact r_zreturn hK d_Ch_isWrong_24 h
    · refine r_aload_n hK d_Ch_isWrong_12 rfl 1 rfl ?_
      refine r_gI hK fd_Pa_9 w3_123 d_Ch_isWrong_13 h (fun i11 h => ?_)
      refine r_ifeq (tgt := 23) hK d_Ch_isWrong_16 (by decide) h (fun h => ?_) (fun h => ?_)
      · refine r_iconst (v := 0) hK d_Ch_isWrong_23 (by decide) ?_
        exact r_zreturn hK d_Ch_isWrong_24 h
      · refine r_iconst (v := 1) hK d_Ch_isWrong_19 (by decide) ?_
        refine r_goto (tgt := 24) hK d_Ch_isWrong_20 (by decide) ?_
        exact r_zreturn hK d_Ch_isWrong_24 h
theorem c_Ch_isWrong (l : Launch) (G : g_G) (r0 : Option Nat) (r1 : Option Nat) (x2 : Int32) (u : g_St) (o : (Int32 × g_St)) (h : f_Ch_isWrong r0 r1 x2 u = some o) : g_Con l G y_Ch_isWrong b_Ch_isWrong 3 (Option.some Jvm.ClassFile.FieldType.boolean) 2 [g_r 3 r0, g_r 7 r1, g_i x2] u (g_jI o) :=
  g_Con.of rfl rfl (by decide +kernel) (Nat.le_of_ble_eq_true rfl) (fun K hK hN hD hX => t_Ch_isWrong_0 hK hN hD _ _ _ _ h)
def f_Ch_look_69 : Nat → Option Nat → Int32 → Int32 → g_St → Option (Unit × g_St)
  | 0, _, _, _, _ => none
  | n + 1, r0, x1, x2, s0 =>
    g_gR s0 3 r0 fun p1 =>
    g_gI s0 70 p1 fun i2 =>
    if i2 ≤ x2 then
      some ((), s0)
    else
      g_gR s0 3 r0 fun p3 =>
      g_gR s0 6 p3 fun p4 =>
      g_aR s0 p4 x2 fun p5 =>
      if x1 = 3 then
        g_c (g_nn r0 (f_Ch_lookAtWidths r0 p5 s0)) fun _ s12 =>
        f_Ch_look_69 n r0 x1 (x2 + 1) s12
      else
        g_c (g_nn r0 (f_Ch_isWrong r0 p5 x1 s0)) fun i6 s7 =>
        g_gI s7 71 p5 fun i8 =>
        g_c (g_nn r0 (f_Ch_note r0 i6 i8 s7)) fun _ s10 =>
        f_Ch_look_69 n r0 x1 (x2 + 1) s10
def f_Ch_look_46 (r0 : Option Nat) (r0s : Option Nat) (x1s : Int32) (s0 : g_St) : Option (Unit × g_St) :=
  g_gR s0 3 r0 fun p1 =>
  g_gI s0 390 p1 fun i2 =>
  g_c (g_nn r0s (f_Ch_note r0s x1s i2 s0)) fun _ s4 =>
  some ((), s4)
def f_Ch_look (r0 : Option Nat) (x1 : Int32) (s0 : g_St) : Option (Unit × g_St) :=
  if x1 = 2 then
    g_c (g_nn r0 (f_Ch_lookAtParts r0 s0)) fun _ s4 =>
    g_c (g_nn r0 (f_Ch_lookAtSources r0 s4)) fun _ s6 =>
    g_c (g_nn r0 (f_Ch_lookAtColumns r0 s6)) fun _ s8 =>
    g_gR s8 3 r0 fun p9 =>
    g_gI s8 326 p9 fun i10 =>
    if i10 ≤ 0 then
      f_Ch_look_46 r0 r0 0 s8
    else
      g_gR s8 3 r0 fun p11 =>
      g_gR s8 198 p11 fun p12 =>
      g_gI s8 328 p12 fun i13 =>
      if i13 ≤ 0 then
        f_Ch_look_46 r0 r0 0 s8
      else
        f_Ch_look_46 r0 r0 1 s8
  else
    if x1 = 5 then
      g_c (g_nn r0 (f_Ch_lookForBarred r0 s0)) fun _ s2 =>
      some ((), s2)
    else
      f_Ch_look_69 200000 r0 x1 0 s0
set_option maxHeartbeats 4000000 in
set_option maxRecDepth 100000 in
theorem t_Ch_look_69 {K : g_C} {o : (Unit × g_St)} (hK : g_OK K b_Ch_look "FixpointEngine$Checker" "look" (Option.none : Option Jvm.ClassFile.FieldType)) (hN : g_nL K = 4) (hD : g_Kd K = 11) : ∀ (n : Nat) (r0 : Option Nat) (x1 : Int32) (x2 : Int32) (s0 : g_St), f_Ch_look_69 n r0 x1 x2 s0 = some o → g_W K s0 [(0, g_r 3 r0), (1, g_i x1), (2, g_i x2)] [] 69 (g_jV o) := by
  intro n
  induction n with
  | zero =>
    intro r0 x1 x2 s0 h
    cases h
  | succ n ih =>
    intro r0 x1 x2 s0 h
    unfold f_Ch_look_69 at h
    refine r_iload_n hK d_Ch_look_69 rfl 2 rfl ?_
    refine r_aload_n hK d_Ch_look_70 rfl 0 rfl ?_
    refine r_gR hK fd_Ch_0 w1_98 d_Ch_look_71 h (fun p1 h => ?_)
    refine r_gI hK fd_Qu_1 w3_27 d_Ch_look_74 h (fun i2 h => ?_)
    refine r_if_icmpge (tgt := 123) hK d_Ch_look_77 (by decide) h (fun h => ?_) (fun h => ?_)
    · exact r_return hK d_Ch_look_123 h
    · refine r_aload_n hK d_Ch_look_80 rfl 0 rfl ?_
      refine r_gR hK fd_Ch_0 w1_98 d_Ch_look_81 h (fun p3 h => ?_)
      refine r_gR hK fd_Qu_0 w3_23 d_Ch_look_84 h (fun p4 h => ?_)
      refine r_iload_n hK d_Ch_look_87 rfl 2 rfl ?_
      refine r_aaload hK rfl ar_24 rfl d_Ch_look_88 h (fun p5 h => ?_)
      refine r_astore_n (ls1 := [(3, g_r 7 p5), (0, g_r 3 r0), (1, g_i x1), (2, g_i x2)]) hK d_Ch_look_89 rfl (by rw [hN]; decide) rfl ?_
      refine r_iload_n hK d_Ch_look_90 rfl 2 rfl ?_
      refine r_iconst (v := 3) hK d_Ch_look_91 (by decide) ?_
      refine r_if_icmpne (tgt := 103) hK d_Ch_look_92 (by decide) h (fun h => ?_) (fun h => ?_)
      · refine r_aload_n hK d_Ch_look_103 rfl 1 rfl ?_
        refine r_aload_n hK d_Ch_look_104 rfl 1 rfl ?_
        refine r_aload_n hK d_Ch_look_105 rfl 0 rfl ?_
        refine r_iload_n hK d_Ch_look_106 rfl 2 rfl ?_
        refine r_Vi (avL := [g_r 7 p5, g_i x1]) (st := [g_r 3 r0]) hK ob_Ch rfl w5_217 w5_218 w5_216 w5_219 w1_3 (by decide) pl_Ch_isWrong (by rw [hD]; decide) (Nat.le_of_ble_eq_true rfl) rfl d_Ch_look_107 (fun o9 h9 => c_Ch_isWrong _ _ _ _ _ _ o9 h9) h (fun i6 s7 h => ?_)
        refine r_aload_n hK d_Ch_look_110 rfl 0 rfl ?_
        refine r_gI hK fd_Pa_1 w3_95 d_Ch_look_111 h (fun i8 h => ?_)
        refine r_Vv (avL := [g_i i6, g_i i8]) (st := []) hK ob_Ch rfl w5_192 w5_193 w5_191 w5_194 w1_3 (by decide) pl_Ch_note (by rw [hD]; decide) (Nat.le_of_ble_eq_true rfl) rfl d_Ch_look_114 (fun o9 h9 => c_Ch_note _ _ _ _ _ _ o9 h9) h (fun s10 h => ?_)
        refine r_iinc (ls1 := [(2, g_i (x2 + 1)), (3, g_r 7 p5), (0, g_r 3 r0), (1, g_i x1)]) hK d_Ch_look_117 3 rfl rfl (by rw [hN]; decide) rfl ?_
        refine r_goto (tgt := 69) hK d_Ch_look_120 (by decide) ?_
        exact r_sub [2, 3, 0] rfl (ih _ _ _ _ h)
      · refine r_aload_n hK d_Ch_look_95 rfl 1 rfl ?_
        refine r_aload_n hK d_Ch_look_96 rfl 0 rfl ?_
        refine r_Vv (avL := [g_r 7 p5]) (st := []) hK ob_Ch rfl w5_213 w5_214 w5_212 w5_215 w1_3 (by decide) pl_Ch_lookAtWidths (by rw [hD]; decide) (Nat.le_of_ble_eq_true rfl) rfl d_Ch_look_97 (fun o9 h9 => c_Ch_lookAtWidths _ _ _ _ _ o9 h9) h (fun s12 h => ?_)
        refine r_goto (tgt := 117) hK d_Ch_look_100 (by decide) ?_
        refine r_iinc (ls1 := [(2, g_i (x2 + 1)), (3, g_r 7 p5), (0, g_r 3 r0), (1, g_i x1)]) hK d_Ch_look_117 3 rfl rfl (by rw [hN]; decide) rfl ?_
        refine r_goto (tgt := 69) hK d_Ch_look_120 (by decide) ?_
        exact r_sub [2, 3, 0] rfl (ih _ _ _ _ h)
set_option maxHeartbeats 4000000 in
set_option maxRecDepth 100000 in
theorem t_Ch_look_46 {K : g_C} {o : (Unit × g_St)} (hK : g_OK K b_Ch_look "FixpointEngine$Checker" "look" (Option.none : Option Jvm.ClassFile.FieldType)) (hN : g_nL K = 4) (hD : g_Kd K = 11) : ∀ (r0 : Option Nat) (r0s : Option Nat) (x1s : Int32) (s0 : g_St), f_Ch_look_46 r0 r0s x1s s0 = some o → g_W K s0 [(0, g_r 3 r0)] [g_i x1s, g_r 3 r0s] 46 (g_jV o) := by
  intro r0 r0s x1s s0 h
  unfold f_Ch_look_46 at h
  refine r_aload_n hK d_Ch_look_46 rfl 0 rfl ?_
  refine r_gR hK fd_Ch_0 w1_98 d_Ch_look_47 h (fun p1 h => ?_)
  refine r_gI hK fd_Qu_6 w3_42 d_Ch_look_50 h (fun i2 h => ?_)
  refine r_Vv (avL := [g_i x1s, g_i i2]) (st := []) hK ob_Ch rfl w5_192 w5_193 w5_191 w5_194 w1_3 (by decide) pl_Ch_note (by rw [hD]; decide) (Nat.le_of_ble_eq_true rfl) rfl d_Ch_look_53 (fun o9 h9 => c_Ch_note _ _ _ _ _ _ o9 h9) h (fun s4 h => ?_)
  exact r_return hK d_Ch_look_56 h
set_option maxHeartbeats 4000000 in
set_option maxRecDepth 100000 in
theorem t_Ch_look_0 {K : g_C} {o : (Unit × g_St)} (hK : g_OK K b_Ch_look "FixpointEngine$Checker" "look" (Option.none : Option Jvm.ClassFile.FieldType)) (hN : g_nL K = 4) (hD : g_Kd K = 11) : ∀ (r0 : Option Nat) (x1 : Int32) (s0 : g_St), f_Ch_look r0 x1 s0 = some o → g_W K s0 [(0, g_r 3 r0), (1, g_i x1)] [] 0 (g_jV o) := by
  intro r0 x1 s0 h
  unfold f_Ch_look at h
  refine r_iload_n hK d_Ch_look_0 rfl 1 rfl ?_
  refine r_iconst (v := 2) hK d_Ch_look_1 (by decide) ?_
  refine r_if_icmpne (tgt := 57) hK d_Ch_look_2 (by decide) h (fun h => ?_) (fun h => ?_)
  · refine r_iload_n hK d_Ch_look_57 rfl 1 rfl ?_
    refine r_iconst (v := 5) hK d_Ch_look_58 (by decide) ?_
    refine r_if_icmpne (tgt := 67) hK d_Ch_look_59 (by decide) h (fun h => ?_) (fun h => ?_)
    · refine r_iconst (v := 0) hK d_Ch_look_67 (by decide) ?_
      refine r_istore_n (ls1 := [(2, g_i 0), (0, g_r 3 r0), (1, g_i x1)]) hK d_Ch_look_68 rfl (by rw [hN]; decide) rfl ?_
      exact r_sub [1, 2, 0] rfl (t_Ch_look_69 hK hN hD _ _ _ _ _ h)
    · refine r_aload_n hK d_Ch_look_62 rfl 0 rfl ?_
      refine r_Vv (avL := []) (st := []) hK ob_Ch rfl w5_209 w5_210 w5_208 w5_211 w1_3 (by decide) pl_Ch_lookForBarred (by rw [hD]; decide) (Nat.le_of_ble_eq_true rfl) rfl d_Ch_look_63 (fun o9 h9 => c_Ch_lookForBarred _ _ _ _ o9 h9) h (fun s2 h => ?_)
      exact r_return hK d_Ch_look_66 h
  · refine r_aload_n hK d_Ch_look_5 rfl 0 rfl ?_
    refine r_Vv (avL := []) (st := []) hK ob_Ch rfl w5_188 w5_189 w5_187 w5_190 w1_3 (by decide) pl_Ch_lookAtParts (by rw [hD]; decide) (Nat.le_of_ble_eq_true rfl) rfl d_Ch_look_6 (fun o9 h9 => c_Ch_lookAtParts _ _ _ _ o9 h9) h (fun s4 h => ?_)
    refine r_aload_n hK d_Ch_look_9 rfl 0 rfl ?_
    refine r_Vv (avL := []) (st := []) hK ob_Ch rfl w5_197 w5_198 w5_196 w5_199 w1_3 (by decide) pl_Ch_lookAtSources (by rw [hD]; decide) (Nat.le_of_ble_eq_true rfl) rfl d_Ch_look_10 (fun o9 h9 => c_Ch_lookAtSources _ _ _ _ o9 h9) h (fun s6 h => ?_)
    refine r_aload_n hK d_Ch_look_13 rfl 0 rfl ?_
    refine r_Vv (avL := []) (st := []) hK ob_Ch rfl w5_205 w5_206 w5_204 w5_207 w1_3 (by decide) pl_Ch_lookAtColumns (by rw [hD]; decide) (Nat.le_of_ble_eq_true rfl) rfl d_Ch_look_14 (fun o9 h9 => c_Ch_lookAtColumns _ _ _ _ o9 h9) h (fun s8 h => ?_)
    refine r_aload_n hK d_Ch_look_17 rfl 0 rfl ?_
    refine r_aload_n hK d_Ch_look_18 rfl 0 rfl ?_
    refine r_gR hK fd_Ch_0 w1_98 d_Ch_look_19 h (fun p9 h => ?_)
    refine r_gI hK fd_Qu_5 w3_39 d_Ch_look_22 h (fun i10 h => ?_)
    refine r_ifle (tgt := 45) hK d_Ch_look_25 (by decide) h (fun h => ?_) (fun h => ?_)
    · refine r_iconst (v := 0) hK d_Ch_look_45 (by decide) ?_
      exact r_sub [0] rfl (t_Ch_look_46 hK hN hD _ _ _ _ h)
    · refine r_aload_n hK d_Ch_look_28 rfl 0 rfl ?_
      refine r_gR hK fd_Ch_0 w1_98 d_Ch_look_29 h (fun p11 h => ?_)
      refine r_gR hK fd_Qu_3 w3_32 d_Ch_look_32 h (fun p12 h => ?_)
      refine r_gI hK fd_Se_5 w3_236 d_Ch_look_35 h (fun i13 h => ?_)
      refine r_ifle (tgt := 45) hK d_Ch_look_38 (by decide) h (fun h => ?_) (fun h => ?_)
      · refine r_iconst (v := 0) hK d_Ch_look_45 (by decide) ?_
        exact r_sub [0] rfl (t_Ch_look_46 hK hN hD _ _ _ _ h)
      · refine r_iconst (v := 1) hK d_Ch_look_41 (by decide) ?_
        refine r_goto (tgt := 46) hK d_Ch_look_42 (by decide) ?_
        exact r_sub [0] rfl (t_Ch_look_46 hK hN hD _ _ _ _ h)
theorem c_Ch_look (l : Launch) (G : g_G) (r0 : Option Nat) (x1 : Int32) (u : g_St) (o : (Unit × g_St)) (h : f_Ch_look r0 x1 u = some o) : g_Con l G y_Ch_look b_Ch_look 4 (Option.none : Option Jvm.ClassFile.FieldType) 11 [g_r 3 r0, g_i x1] u (g_jV o) :=
  g_Con.of rfl rfl (by decide +kernel) (Nat.le_of_ble_eq_true rfl) (fun K hK hN hD hX => t_Ch_look_0 hK hN hD _ _ _ h)
def f_Ch_levelConditions_2 : Nat → Option Nat → Int32 → g_St → Option (Unit × g_St)
  | 0, _, _, _ => none
  | n + 1, r0, x1, s0 =>
    g_gR s0 3 r0 fun p1 =>
    g_gR s0 582 p1 fun p2 =>
    g_c (g_nn p2 (f_Al_size p2 s0)) fun i3 s4 =>
    if i3 ≤ x1 then
      some ((), s4)
    else
      g_gR s4 3 r0 fun p5 =>
      g_gR s4 582 p5 fun p6 =>
      g_c (g_nn p6 (f_Al_get p6 x1 s4)) fun p7 s8 =>
      g_cast 11 p7 (
      g_gR s8 203 p7 fun p9 =>
      if p9 = none then
        f_Ch_levelConditions_2 n r0 (x1 + 1) s8
      else
        g_gR s8 523 p7 fun p10 =>
        if p10 = none then
          f_Ch_levelConditions_2 n r0 (x1 + 1) s8
        else
          g_gR s8 203 p7 fun p11 =>
          g_gR s8 203 p7 fun p12 =>
          g_gI s8 394 p12 fun i13 =>
          g_gR s8 523 p7 fun p14 =>
          g_gI s8 73 p14 fun i15 =>
          g_pI s8 394 p11 (if i13 < (i15 + 1) then (i15 + 1) else i13) fun s16 =>
          f_Ch_levelConditions_2 n r0 (x1 + 1) s16)
def f_Ch_levelConditions (r0 : Option Nat) (s0 : g_St) : Option (Unit × g_St) :=
  f_Ch_levelConditions_2 200000 r0 0 s0
set_option maxHeartbeats 4000000 in
set_option maxRecDepth 100000 in
theorem t_Ch_levelConditions_2 {K : g_C} {o : (Unit × g_St)} (hK : g_OK K b_Ch_levelConditions "FixpointEngine$Checker" "levelConditions" (Option.none : Option Jvm.ClassFile.FieldType)) (hN : g_nL K = 3) (hD : g_Kd K = 10) : ∀ (n : Nat) (r0 : Option Nat) (x1 : Int32) (s0 : g_St), f_Ch_levelConditions_2 n r0 x1 s0 = some o → g_W K s0 [(0, g_r 3 r0), (1, g_i x1)] [] 2 (g_jV o) := by
  intro n
  induction n with
  | zero =>
    intro r0 x1 s0 h
    cases h
  | succ n ih =>
    intro r0 x1 s0 h
    unfold f_Ch_levelConditions_2 at h
    refine r_iload_n hK d_Ch_levelConditions_2 rfl 1 rfl ?_
    refine r_aload_n hK d_Ch_levelConditions_3 rfl 0 rfl ?_
    refine r_gR hK fd_Ch_0 w1_98 d_Ch_levelConditions_4 h (fun p1 h => ?_)
    refine r_gR hK fd_Qu_9 w3_50 d_Ch_levelConditions_7 h (fun p2 h => ?_)
    refine r_Vi (avL := []) (st := [g_i x1]) hK ob_Al rfl w5_129 w5_130 w5_128 w5_131 w1_21 (by decide) pl_Al_size (by rw [hD]; decide) (Nat.le_of_ble_eq_true rfl) rfl d_Ch_levelConditions_10 (fun o9 h9 => c_Al_size _ _ _ _ o9 h9) h (fun i3 s4 h => ?_)
    refine r_if_icmpge (tgt := 77) hK d_Ch_levelConditions_13 (by decide) h (fun h => ?_) (fun h => ?_)
    · exact r_return hK d_Ch_levelConditions_77 h
    · refine r_aload_n hK d_Ch_levelConditions_16 rfl 0 rfl ?_
      refine r_gR hK fd_Ch_0 w1_98 d_Ch_levelConditions_17 h (fun p5 h => ?_)
      refine r_gR hK fd_Qu_9 w3_50 d_Ch_levelConditions_20 h (fun p6 h => ?_)
      refine r_iload_n hK d_Ch_levelConditions_23 rfl 1 rfl ?_
      refine r_Vr (avL := [g_i x1]) (st := []) hK ob_Al rfl w5_133 w5_134 w5_132 w5_135 w1_21 (by decide) pl_Al_get (by rw [hD]; decide) (Nat.le_of_ble_eq_true rfl) rfl d_Ch_levelConditions_24 (fun o9 h9 => c_Al_get _ _ _ _ _ o9 h9) h (fun p7 s8 h => ?_)
      refine r_cast hK ob_Te rfl rfl w5_154 w9_234 d_Ch_levelConditions_27 h (fun h => ?_)
      refine r_astore_n (ls1 := [(2, g_r 11 p7), (0, g_r 3 r0), (1, g_i x1)]) hK d_Ch_levelConditions_30 rfl (by rw [hN]; decide) rfl ?_
      refine r_aload_n hK d_Ch_levelConditions_31 rfl 0 rfl ?_
      refine r_gR hK fd_Te_3 w4_76 d_Ch_levelConditions_32 h (fun p9 h => ?_)
      refine r_ifnull (tgt := 71) hK d_Ch_levelConditions_35 (by decide) h (fun h => ?_) (fun h => ?_)
      · refine r_iinc (ls1 := [(1, g_i (x1 + 1)), (2, g_r 11 p7), (0, g_r 3 r0)]) hK d_Ch_levelConditions_71 2 rfl rfl (by rw [hN]; decide) rfl ?_
        refine r_goto (tgt := 2) hK d_Ch_levelConditions_74 (by decide) ?_
        exact r_sub [2, 0] rfl (ih _ _ _ h)
      · refine r_aload_n hK d_Ch_levelConditions_38 rfl 0 rfl ?_
        refine r_gR hK fd_Te_8 w4_86 d_Ch_levelConditions_39 h (fun p10 h => ?_)
        refine r_ifnull (tgt := 71) hK d_Ch_levelConditions_42 (by decide) h (fun h => ?_) (fun h => ?_)
        · refine r_iinc (ls1 := [(1, g_i (x1 + 1)), (2, g_r 11 p7), (0, g_r 3 r0)]) hK d_Ch_levelConditions_71 2 rfl rfl (by rw [hN]; decide) rfl ?_
          refine r_goto (tgt := 2) hK d_Ch_levelConditions_74 (by decide) ?_
          exact r_sub [2, 0] rfl (ih _ _ _ h)
        · refine r_aload_n hK d_Ch_levelConditions_45 rfl 0 rfl ?_
          refine r_gR hK fd_Te_3 w4_76 d_Ch_levelConditions_46 h (fun p11 h => ?_)
          refine r_aload_n hK d_Ch_levelConditions_49 rfl 0 rfl ?_
          refine r_gR hK fd_Te_3 w4_76 d_Ch_levelConditions_50 h (fun p12 h => ?_)
          refine r_gI hK fd_Co_6 w5_48 d_Ch_levelConditions_53 h (fun i13 h => ?_)
          refine r_aload_n hK d_Ch_levelConditions_56 rfl 0 rfl ?_
          refine r_gR hK fd_Te_8 w4_86 d_Ch_levelConditions_57 h (fun p14 h => ?_)
          refine r_gI hK fd_So_1 w4_207 d_Ch_levelConditions_60 h (fun i15 h => ?_)
          refine r_iconst (v := 1) hK d_Ch_levelConditions_63 (by decide) ?_
          refine r_iadd hK d_Ch_levelConditions_64 ?_
          refine r_mmax hK w5_195 (by rw [hD]; decide) (Nat.le_of_ble_eq_true rfl) d_Ch_levelConditions_65 ?_
          refine r_pI hK fd_Co_6 rfl w5_48 d_Ch_levelConditions_68 h (fun s16 h => ?_)
          refine r_iinc (ls1 := [(1, g_i (x1 + 1)), (2, g_r 11 p7), (0, g_r 3 r0)]) hK d_Ch_levelConditions_71 2 rfl rfl (by rw [hN]; decide) rfl ?_
          refine r_goto (tgt := 2) hK d_Ch_levelConditions_74 (by decide) ?_
          exact r_sub [2, 0] rfl (ih _ _ _ h)
set_option maxHeartbeats 4000000 in
set_option maxRecDepth 100000 in
theorem t_Ch_levelConditions_0 {K : g_C} {o : (Unit × g_St)} (hK : g_OK K b_Ch_levelConditions "FixpointEngine$Checker" "levelConditions" (Option.none : Option Jvm.ClassFile.FieldType)) (hN : g_nL K = 3) (hD : g_Kd K = 10) : ∀ (r0 : Option Nat) (s0 : g_St), f_Ch_levelConditions r0 s0 = some o → g_W K s0 [(0, g_r 3 r0)] [] 0 (g_jV o) := by
  intro r0 s0 h
  unfold f_Ch_levelConditions at h
  refine r_iconst (v := 0) hK d_Ch_levelConditions_0 (by decide) ?_
  refine r_istore_n (ls1 := [(1, g_i 0), (0, g_r 3 r0)]) hK d_Ch_levelConditions_1 rfl (by rw [hN]; decide) rfl ?_
  exact r_sub [1, 0] rfl (t_Ch_levelConditions_2 hK hN hD _ _ _ _ h)
theorem c_Ch_levelConditions (l : Launch) (G : g_G) (r0 : Option Nat) (u : g_St) (o : (Unit × g_St)) (h : f_Ch_levelConditions r0 u = some o) : g_Con l G y_Ch_levelConditions b_Ch_levelConditions 3 (Option.none : Option Jvm.ClassFile.FieldType) 10 [g_r 3 r0] u (g_jV o) :=
  g_Con.of rfl rfl (by decide +kernel) (Nat.le_of_ble_eq_true rfl) (fun K hK hN hD hX => t_Ch_levelConditions_0 hK hN hD _ _ h)
def f_Ch_find_38 : Nat → Option Nat → Int32 → g_St → Option (Int32 × g_St)
  | 0, _, _, _ => none
  | n + 1, r0, x4, s0 =>
    if 8 < x4 then
      g_c (g_nn r0 (f_Ch_levelConditions r0 s0)) fun _ s2 =>
      some (0, s2)
    else
      g_pI s0 195 r0 401 fun s3 =>
      g_c (g_nn r0 (f_Ch_look r0 x4 s3)) fun _ s5 =>
      g_gI s5 195 r0 fun i6 =>
      if i6 = 401 then
        f_Ch_find_38 n r0 (x4 + 1) s5
      else
        g_gI s5 195 r0 fun i7 =>
        some (x4 + (10 * i7), s5)
def f_Ch_find (r0 : Option Nat) (r1 : Option Nat) (r2 : Option Nat) (x3 : Int32) (s0 : g_St) : Option (Int32 × g_St) :=
  g_pR s0 3 r0 r1 fun s1 =>
  g_pR s1 67 r0 r2 fun s2 =>
  g_pI s2 131 r0 x3 fun s3 =>
  g_c (g_nn r0 (f_Ch_nameSources r0 s3)) fun _ s5 =>
  g_c (g_nn r0 (f_Ch_nameColumns r0 s5)) fun _ s7 =>
  g_c (g_nn r0 (f_Ch_needParts r0 s7)) fun _ s9 =>
  g_c (g_nn r0 (f_Ch_orderComponents r0 s9)) fun _ s11 =>
  g_c (g_nn r0 (f_Ch_countNamings r0 s11)) fun _ s13 =>
  f_Ch_find_38 200000 r0 2 s13
set_option maxHeartbeats 4000000 in
set_option maxRecDepth 100000 in
theorem t_Ch_find_38 {K : g_C} {o : (Int32 × g_St)} (hK : g_OK K b_Ch_find "FixpointEngine$Checker" "find" (Option.some Jvm.ClassFile.FieldType.int)) (hN : g_nL K = 5) (hD : g_Kd K = 12) : ∀ (n : Nat) (r0 : Option Nat) (x4 : Int32) (s0 : g_St), f_Ch_find_38 n r0 x4 s0 = some o → g_W K s0 [(0, g_r 3 r0), (4, g_i x4)] [] 38 (g_jI o) := by
  intro n
  induction n with
  | zero =>
    intro r0 x4 s0 h
    cases h
  | succ n ih =>
    intro r0 x4 s0 h
    unfold f_Ch_find_38 at h
    refine r_iload hK d_Ch_find_38 1 rfl ?_
    refine r_bipush (v := 8) hK d_Ch_find_40 (by decide) ?_
    refine r_if_icmpgt (tgt := 85) hK d_Ch_find_42 (by decide) h (fun h => ?_) (fun h => ?_)
    · refine r_aload_n hK d_Ch_find_85 rfl 0 rfl ?_
      refine r_Vv (avL := []) (st := []) hK ob_Ch rfl w5_230 w5_231 w5_229 w5_232 w1_3 (by decide) pl_Ch_levelConditions (by rw [hD]; decide) (Nat.le_of_ble_eq_true rfl) rfl d_Ch_find_86 (fun o9 h9 => c_Ch_levelConditions _ _ _ _ o9 h9) h (fun s2 h => ?_)
      refine r_iconst (v := 0) hK d_Ch_find_89 (by decide) ?_
      exact r_ireturn hK d_Ch_find_90 h
    · refine r_aload_n hK d_Ch_find_45 rfl 0 rfl ?_
      refine r_sipush (v := 401) hK d_Ch_find_46 (by decide) ?_
      refine r_pI hK fd_Ch_3 rfl w1_101 d_Ch_find_49 h (fun s3 h => ?_)
      refine r_aload_n hK d_Ch_find_52 rfl 0 rfl ?_
      refine r_iload hK d_Ch_find_53 1 rfl ?_
      refine r_Vv (avL := [g_i x4]) (st := []) hK ob_Ch rfl w5_184 w5_185 w5_183 w5_186 w1_3 (by decide) pl_Ch_look (by rw [hD]; decide) (Nat.le_of_ble_eq_true rfl) rfl d_Ch_find_55 (fun o9 h9 => c_Ch_look _ _ _ _ _ o9 h9) h (fun s5 h => ?_)
      refine r_aload_n hK d_Ch_find_58 rfl 0 rfl ?_
      refine r_gI hK fd_Ch_3 w1_101 d_Ch_find_59 h (fun i6 h => ?_)
      refine r_sipush (v := 401) hK d_Ch_find_62 (by decide) ?_
      refine r_if_icmpeq (tgt := 79) hK d_Ch_find_65 (by decide) h (fun h => ?_) (fun h => ?_)
      · refine r_iinc (ls1 := [(4, g_i (x4 + 1)), (0, g_r 3 r0)]) hK d_Ch_find_79 1 rfl rfl (by rw [hN]; decide) rfl ?_
        refine r_goto (tgt := 38) hK d_Ch_find_82 (by decide) ?_
        exact r_sub [1, 0] rfl (ih _ _ _ h)
      · refine r_iload hK d_Ch_find_68 1 rfl ?_
        refine r_bipush (v := 10) hK d_Ch_find_70 (by decide) ?_
        refine r_aload_n hK d_Ch_find_72 rfl 0 rfl ?_
        refine r_gI hK fd_Ch_3 w1_101 d_Ch_find_73 h (fun i7 h => ?_)
        refine r_imul hK d_Ch_find_76 ?_
        refine r_iadd hK d_Ch_find_77 ?_
        exact r_ireturn hK d_Ch_find_78 h
set_option maxHeartbeats 4000000 in
set_option maxRecDepth 100000 in
theorem t_Ch_find_0 {K : g_C} {o : (Int32 × g_St)} (hK : g_OK K b_Ch_find "FixpointEngine$Checker" "find" (Option.some Jvm.ClassFile.FieldType.int)) (hN : g_nL K = 5) (hD : g_Kd K = 12) : ∀ (r0 : Option Nat) (r1 : Option Nat) (r2 : Option Nat) (x3 : Int32) (s0 : g_St), f_Ch_find r0 r1 r2 x3 s0 = some o → g_W K s0 [(0, g_r 3 r0), (1, g_r 6 r1), (2, g_r 29 r2), (3, g_i x3)] [] 0 (g_jI o) := by
  intro r0 r1 r2 x3 s0 h
  unfold f_Ch_find at h
  refine r_aload_n hK d_Ch_find_0 rfl 0 rfl ?_
  refine r_aload_n hK d_Ch_find_1 rfl 1 rfl ?_
  refine r_pR hK pd_6 rfl (Or.inr rfl) fd_Ch_0 rfl w1_98 d_Ch_find_2 h (fun s1 h => ?_)
  refine r_aload_n hK d_Ch_find_5 rfl 0 rfl ?_
  refine r_aload_n hK d_Ch_find_6 rfl 2 rfl ?_
  refine r_pR hK pd_29 rfl (Or.inr rfl) fd_Ch_1 rfl w1_99 d_Ch_find_7 h (fun s2 h => ?_)
  refine r_aload_n hK d_Ch_find_10 rfl 0 rfl ?_
  refine r_iload_n hK d_Ch_find_11 rfl 3 rfl ?_
  refine r_pI hK fd_Ch_2 rfl w1_100 d_Ch_find_12 h (fun s3 h => ?_)
  refine r_aload_n hK d_Ch_find_15 rfl 0 rfl ?_
  refine r_Vv (avL := []) (st := []) hK ob_Ch rfl w5_125 w5_126 w5_124 w5_127 w1_3 (by decide) pl_Ch_nameSources (by rw [hD]; decide) (Nat.le_of_ble_eq_true rfl) rfl d_Ch_find_16 (fun o9 h9 => c_Ch_nameSources _ _ _ _ o9 h9) h (fun s5 h => ?_)
  refine r_aload_n hK d_Ch_find_19 rfl 0 rfl ?_
  refine r_Vv (avL := []) (st := []) hK ob_Ch rfl w5_147 w5_148 w5_146 w5_149 w1_3 (by decide) pl_Ch_nameColumns (by rw [hD]; decide) (Nat.le_of_ble_eq_true rfl) rfl d_Ch_find_20 (fun o9 h9 => c_Ch_nameColumns _ _ _ _ o9 h9) h (fun s7 h => ?_)
  refine r_aload_n hK d_Ch_find_23 rfl 0 rfl ?_
  refine r_Vv (avL := []) (st := []) hK ob_Ch rfl w5_164 w5_165 w5_163 w5_166 w1_3 (by decide) pl_Ch_needParts (by rw [hD]; decide) (Nat.le_of_ble_eq_true rfl) rfl d_Ch_find_24 (fun o9 h9 => c_Ch_needParts _ _ _ _ o9 h9) h (fun s9 h => ?_)
  refine r_aload_n hK d_Ch_find_27 rfl 0 rfl ?_
  refine r_Vv (avL := []) (st := []) hK ob_Ch rfl w5_168 w5_169 w5_167 w5_170 w1_3 (by decide) pl_Ch_orderComponents (by rw [hD]; decide) (Nat.le_of_ble_eq_true rfl) rfl d_Ch_find_28 (fun o9 h9 => c_Ch_orderComponents _ _ _ _ o9 h9) h (fun s11 h => ?_)
  refine r_aload_n hK d_Ch_find_31 rfl 0 rfl ?_
  refine r_Vv (avL := []) (st := []) hK ob_Ch rfl w5_176 w5_177 w5_175 w5_178 w1_3 (by decide) pl_Ch_countNamings (by rw [hD]; decide) (Nat.le_of_ble_eq_true rfl) rfl d_Ch_find_32 (fun o9 h9 => c_Ch_countNamings _ _ _ _ o9 h9) h (fun s13 h => ?_)
  refine r_iconst (v := 2) hK d_Ch_find_35 (by decide) ?_
  refine r_istore (ls1 := [(4, g_i 2), (0, g_r 3 r0), (1, g_r 6 r1), (2, g_r 29 r2), (3, g_i x3)]) hK d_Ch_find_36 (by rw [hN]; decide) rfl ?_
  exact r_sub [1, 0] rfl (t_Ch_find_38 hK hN hD _ _ _ _ h)
theorem c_Ch_find (l : Launch) (G : g_G) (r0 : Option Nat) (r1 : Option Nat) (r2 : Option Nat) (x3 : Int32) (u : g_St) (o : (Int32 × g_St)) (h : f_Ch_find r0 r1 r2 x3 u = some o) : g_Con l G y_Ch_find b_Ch_find 5 (Option.some Jvm.ClassFile.FieldType.int) 12 [g_r 3 r0, g_r 6 r1, g_r 29 r2, g_i x3] u (g_jI o) :=
  g_Con.of rfl rfl (by decide +kernel) (Nat.le_of_ble_eq_true rfl) (fun K hK hN hD hX => t_Ch_find_0 hK hN hD _ _ _ _ _ h)
