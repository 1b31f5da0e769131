def f_Ch_orderComponents_43 (k4 : Option Nat → Int32 → Int32 → g_St → Option (Unit × g_St)) : Nat → Option Nat → Int32 → Int32 → Int32 → Int32 → g_St → Option (Unit × g_St)
  | 0, _, _, _, _, _, _ => none
  | n + 1, r0, x1, x2, x4, x5, s0 =>
    g_gR s0 3 r0 fun p1 =>
    g_gI s0 70 p1 fun i2 =>
    if i2 ≤ x5 then
      g_gR s0 3 r0 fun p3 =>
      g_pI s0 454 p3 (x2 + 1) fun s4 =>
      k4 r0 (x1 ||| x4) (x2 + 1) s4
    else
      if ((x4 >>> (x5 &&& 31)) &&& 1) = 0 then
        f_Ch_orderComponents_43 k4 n r0 x1 x2 x4 (x5 + 1) s0
      else
        g_gR s0 3 r0 fun p5 =>
        g_gR s0 6 p5 fun p6 =>
        g_aR s0 p6 x5 fun p7 =>
        g_pI s0 903 p7 x2 fun s8 =>
        f_Ch_orderComponents_43 k4 n r0 x1 x2 x4 (x5 + 1) s8
def f_Ch_orderComponents_4 : Nat → Option Nat → Int32 → Int32 → g_St → Option (Unit × g_St)
  | 0, _, _, _, _ => none
  | n + 1, r0, x1, x2, s0 =>
    g_gR s0 3 r0 fun p1 =>
    g_gI s0 70 p1 fun i2 =>
    if i2 ≤ x2 then
      some ((), s0)
    else
      g_c (g_nn r0 (f_Ch_nextReady r0 x1 s0)) fun i3 s4 =>
      if 0 ≤ i3 then
        g_gR s4 3 r0 fun p5 =>
        g_gR s4 6 p5 fun p6 =>
        g_aR s4 p6 i3 fun p7 =>
        g_gI s4 839 p7 fun i8 =>
        f_Ch_orderComponents_43 (f_Ch_orderComponents_4 n) 200000 r0 x1 x2 i8 0 s4
      else
        some ((), s4)
def f_Ch_orderComponents (r0 : Option Nat) (s0 : g_St) : Option (Unit × g_St) :=
  f_Ch_orderComponents_4 200000 r0 0 0 s0
set_option maxHeartbeats 4000000 in
set_option maxRecDepth 100000 in
theorem t_Ch_orderComponents_43 {K : g_C} {o : (Unit × g_St)} (hK : g_OK K b_Ch_orderComponents "FixpointEngine$Checker" "orderComponents" (Option.none : Option Jvm.ClassFile.FieldType)) (hN : g_nL K = 6) (hD : g_Kd K = 2) {k4 : Option Nat → Int32 → Int32 → g_St → Option (Unit × g_St)} (hk4 : ∀ (r0 : Option Nat) (x1 : Int32) (x2 : Int32) (s0 : g_St), k4 r0 x1 x2 s0 = some o → g_W K s0 [(0, g_r 3 r0), (1, g_i x1), (2, g_i x2)] [] 4 (g_jV o)) : ∀ (n : Nat) (r0 : Option Nat) (x1 : Int32) (x2 : Int32) (x4 : Int32) (x5 : Int32) (s0 : g_St), f_Ch_orderComponents_43 k4 n r0 x1 x2 x4 x5 s0 = some o → g_W K s0 [(0, g_r 3 r0), (1, g_i x1), (2, g_i x2), (4, g_i x4), (5, g_i x5)] [] 43 (g_jV o) := by
  intro n
  induction n with
  | zero =>
    intro r0 x1 x2 x4 x5 s0 h
    cases h
  | succ n ih =>
    intro r0 x1 x2 x4 x5 s0 h
    unfold f_Ch_orderComponents_43 at h
    refine r_iload hK d_Ch_orderComponents_43 4 rfl ?_
    refine r_aload_n hK d_Ch_orderComponents_45 rfl 0 rfl ?_
    refine r_gR hK fd_Ch_0 w1_98 d_Ch_orderComponents_46 h (fun p1 h => ?_)
    refine r_gI hK fd_Qu_1 w3_27 d_Ch_orderComponents_49 h (fun i2 h => ?_)
    refine r_if_icmpge (tgt := 85) hK d_Ch_orderComponents_52 (by decide) h (fun h => ?_) (fun h => ?_)
    · refine r_iload_n hK d_Ch_orderComponents_85 rfl 1 rfl ?_
      refine r_iload hK d_Ch_orderComponents_86 3 rfl ?_
      refine r_ior hK d_Ch_orderComponents_88 ?_
      refine r_istore_n (ls1 := [(1, g_i (x1 ||| x4)), (0, g_r 3 r0), (2, g_i x2), (4, g_i x4), (5, g_i x5)]) hK d_Ch_orderComponents_89 rfl (by rw [hN]; decide) rfl ?_
      refine r_aload_n hK d_Ch_orderComponents_90 rfl 1 rfl ?_
      refine r_gR hK fd_Ch_0 w1_98 d_Ch_orderComponents_91 h (fun p3 h => ?_)
      refine r_iload_n hK d_Ch_orderComponents_94 rfl 2 rfl ?_
      refine r_iconst (v := 1) hK d_Ch_orderComponents_95 (by decide) ?_
      refine r_iadd hK d_Ch_orderComponents_96 ?_
      refine r_pI hK fd_Qu_7 rfl w3_45 d_Ch_orderComponents_97 h (fun s4 h => ?_)
      refine r_iinc (ls1 := [(2, g_i (x2 + 1)), (1, g_i (x1 ||| x4)), (0, g_r 3 r0), (4, g_i x4), (5, g_i x5)]) hK d_Ch_orderComponents_100 2 rfl rfl (by rw [hN]; decide) rfl ?_
      refine r_goto (tgt := 4) hK d_Ch_orderComponents_103 (by decide) ?_
      exact r_sub [2, 1, 0] rfl (hk4 _ _ _ _ h)
    · refine r_iload hK d_Ch_orderComponents_55 3 rfl ?_
      refine r_iload hK d_Ch_orderComponents_57 4 rfl ?_
      refine r_ishr hK d_Ch_orderComponents_59 ?_
      refine r_iconst (v := 1) hK d_Ch_orderComponents_60 (by decide) ?_
      refine r_iand hK d_Ch_orderComponents_61 ?_
      refine r_ifeq (tgt := 79) hK d_Ch_orderComponents_62 (by decide) h (fun h => ?_) (fun h => ?_)
      · refine r_iinc (ls1 := [(5, g_i (x5 + 1)), (0, g_r 3 r0), (1, g_i x1), (2, g_i x2), (4, g_i x4)]) hK d_Ch_orderComponents_79 4 rfl rfl (by rw [hN]; decide) rfl ?_
        refine r_goto (tgt := 43) hK d_Ch_orderComponents_82 (by decide) ?_
        exact r_sub [1, 2, 3, 4, 0] rfl (ih _ _ _ _ _ _ h)
      · refine r_aload_n hK d_Ch_orderComponents_65 rfl 0 rfl ?_
        refine r_gR hK fd_Ch_0 w1_98 d_Ch_orderComponents_66 h (fun p5 h => ?_)
        refine r_gR hK fd_Qu_0 w3_23 d_Ch_orderComponents_69 h (fun p6 h => ?_)
        refine r_iload hK d_Ch_orderComponents_72 4 rfl ?_
        refine r_aaload hK rfl ar_24 rfl d_Ch_orderComponents_74 h (fun p7 h => ?_)
        refine r_iload_n hK d_Ch_orderComponents_75 rfl 2 rfl ?_
        refine r_pI hK fd_Pa_14 rfl w3_137 d_Ch_orderComponents_76 h (fun s8 h => ?_)
        refine r_iinc (ls1 := [(5, g_i (x5 + 1)), (0, g_r 3 r0), (1, g_i x1), (2, g_i x2), (4, g_i x4)]) hK d_Ch_orderComponents_79 4 rfl rfl (by rw [hN]; decide) rfl ?_
        refine r_goto (tgt := 43) hK d_Ch_orderComponents_82 (by decide) ?_
        exact r_sub [1, 2, 3, 4, 0] rfl (ih _ _ _ _ _ _ h)
set_option maxHeartbeats 4000000 in
set_option maxRecDepth 100000 in
theorem t_Ch_orderComponents_4 {K : g_C} {o : (Unit × g_St)} (hK : g_OK K b_Ch_orderComponents "FixpointEngine$Checker" "orderComponents" (Option.none : Option Jvm.ClassFile.FieldType)) (hN : g_nL K = 6) (hD : g_Kd K = 2) : ∀ (n : Nat) (r0 : Option Nat) (x1 : Int32) (x2 : Int32) (s0 : g_St), f_Ch_orderComponents_4 n r0 x1 x2 s0 = some o → g_W K s0 [(0, g_r 3 r0), (1, g_i x1), (2, g_i x2)] [] 4 (g_jV o) := by
  intro n
  induction n with
  | zero =>
    intro r0 x1 x2 s0 h
    cases h
  | succ n ih =>
    intro r0 x1 x2 s0 h
    unfold f_Ch_orderComponents_4 at h
    refine r_iload_n hK d_Ch_orderComponents_4 rfl 2 rfl ?_
    refine r_aload_n hK d_Ch_orderComponents_5 rfl 0 rfl ?_
    refine r_gR hK fd_Ch_0 w1_98 d_Ch_orderComponents_6 h (fun p1 h => ?_)
    refine r_gI hK fd_Qu_1 w3_27 d_Ch_orderComponents_9 h (fun i2 h => ?_)
    refine r_if_icmpge (tgt := 106) hK d_Ch_orderComponents_12 (by decide) h (fun h => ?_) (fun h => ?_)
    · exact r_return hK d_Ch_orderComponents_106 h
    · refine r_aload_n hK d_Ch_orderComponents_15 rfl 0 rfl ?_
      refine r_iload_n hK d_Ch_orderComponents_16 rfl 1 rfl ?_
      refine r_Vi (avL := [g_i x1]) (st := []) hK ob_Ch rfl w5_172 w5_173 w5_171 w5_174 w1_3 (by decide) pl_Ch_nextReady (by rw [hD]; decide) (Nat.le_of_ble_eq_true rfl) rfl d_Ch_orderComponents_17 (fun o9 h9 => c_Ch_nextReady _ _ _ _ _ o9 h9) h (fun i3 s4 h => ?_)
      refine r_istore_n (ls1 := [(3, g_i i3), (0, g_r 3 r0), (1, g_i x1), (2, g_i x2)]) hK d_Ch_orderComponents_20 rfl (by rw [hN]; decide) rfl ?_
      refine r_iload_n hK d_Ch_orderComponents_21 rfl 0 rfl ?_
      refine r_ifge (tgt := 26) hK d_Ch_orderComponents_22 (by decide) h (fun h => ?_) (fun h => ?_)
      · refine r_aload_n hK d_Ch_orderComponents_26 rfl 1 rfl ?_
        refine r_gR hK fd_Ch_0 w1_98 d_Ch_orderComponents_27 h (fun p5 h => ?_)
        refine r_gR hK fd_Qu_0 w3_23 d_Ch_orderComponents_30 h (fun p6 h => ?_)
        refine r_iload_n hK d_Ch_orderComponents_33 rfl 0 rfl ?_
        refine r_aaload hK rfl ar_24 rfl d_Ch_orderComponents_34 h (fun p7 h => ?_)
        refine r_gI hK fd_Pa_13 w3_133 d_Ch_orderComponents_35 h (fun i8 h => ?_)
        refine r_istore (ls1 := [(4, g_i i8), (3, g_i i3), (0, g_r 3 r0), (1, g_i x1), (2, g_i x2)]) hK d_Ch_orderComponents_38 (by rw [hN]; decide) rfl ?_
        refine r_iconst (v := 0) hK d_Ch_orderComponents_40 (by decide) ?_
        refine r_istore (ls1 := [(5, g_i 0), (4, g_i i8), (3, g_i i3), (0, g_r 3 r0), (1, g_i x1), (2, g_i x2)]) hK d_Ch_orderComponents_41 (by rw [hN]; decide) rfl ?_
        exact r_sub [3, 4, 5, 1, 0] rfl (t_Ch_orderComponents_43 hK hN hD ih _ _ _ _ _ _ _ h)
      · exact r_return hK d_Ch_orderComponents_25 h
set_option maxHeartbeats 4000000 in
set_option maxRecDepth 100000 in
theorem t_Ch_orderComponents_0 {K : g_C} {o : (Unit × g_St)} (hK : g_OK K b_Ch_orderComponents "FixpointEngine$Checker" "orderComponents" (Option.none : Option Jvm.ClassFile.FieldType)) (hN : g_nL K = 6) (hD : g_Kd K = 2) : ∀ (r0 : Option Nat) (s0 : g_St), f_Ch_orderComponents r0 s0 = some o → g_W K s0 [(0, g_r 3 r0)] [] 0 (g_jV o) := by
  intro r0 s0 h
  unfold f_Ch_orderComponents at h
  refine r_iconst (v := 0) hK d_Ch_orderComponents_0 (by decide) ?_
  refine r_istore_n (ls1 := [(1, g_i 0), (0, g_r 3 r0)]) hK d_Ch_orderComponents_1 rfl (by rw [hN]; decide) rfl ?_
  refine r_iconst (v := 0) hK d_Ch_orderComponents_2 (by decide) ?_
  refine r_istore_n (ls1 := [(2, g_i 0), (1, g_i 0), (0, g_r 3 r0)]) hK d_Ch_orderComponents_3 rfl (by rw [hN]; decide) rfl ?_
  exact r_sub [2, 1, 0] rfl (t_Ch_orderComponents_4 hK hN hD _ _ _ _ _ h)
theorem c_Ch_orderComponents (l : Launch) (G : g_G) (r0 : Option Nat) (u : g_St) (o : (Unit × g_St)) (h : f_Ch_orderComponents r0 u = some o) : g_Con l G y_Ch_orderComponents b_Ch_orderComponents 6 (Option.none : Option Jvm.ClassFile.FieldType) 2 [g_r 3 r0] u (g_jV o) :=
  g_Con.of rfl rfl (by decide +kernel) (Nat.le_of_ble_eq_true rfl) (fun K hK hN hD hX => t_Ch_orderComponents_0 hK hN hD _ _ h)
def f_Ch_namesOwnComponent (r0 : Option Nat) (r1 : Option Nat) (s0 : g_St) : Option (Int32 × g_St) :=
  g_gR s0 9 r1 fun p1 =>
  g_gI s0 8 p1 fun i2 =>
  g_gI s0 393 r1 fun i3 =>
  if i3 < 0 then
    g_rZ 0 (some (0, s0))
  else
    g_gR s0 3 r0 fun p4 =>
    g_gI s0 70 p4 fun i5 =>
    if i5 ≤ i2 then
      g_rZ 0 (some (0, s0))
    else
      g_gR s0 3 r0 fun p6 =>
      g_gR s0 6 p6 fun p7 =>
      g_aR s0 p7 i2 fun p8 =>
      g_gI s0 967 p8 fun i9 =>
      if i9 = 0 then
        g_rZ 0 (some (0, s0))
      else
        g_gR s0 3 r0 fun p10 =>
        g_gR s0 6 p10 fun p11 =>
        g_aR s0 p11 i2 fun p12 =>
        g_gI s0 903 p12 fun i13 =>
        g_gR s0 3 r0 fun p14 =>
        g_gR s0 6 p14 fun p15 =>
        g_gI s0 393 r1 fun i16 =>
        g_aR s0 p15 i16 fun p17 =>
        g_gI s0 903 p17 fun i18 =>
        if i13 = i18 then
          g_rZ 1 (some (1, s0))
        else
          g_rZ 0 (some (0, s0))
set_option maxHeartbeats 4000000 in
set_option maxRecDepth 100000 in
theorem t_Ch_namesOwnComponent_0 {K : g_C} {o : (Int32 × g_St)} (hK : g_OK K b_Ch_namesOwnComponent "FixpointEngine$Checker" "namesOwnComponent" (Option.some Jvm.ClassFile.FieldType.boolean)) (hN : g_nL K = 3) (hD : g_Kd K = 1) : ∀ (r0 : Option Nat) (r1 : Option Nat) (s0 : g_St), f_Ch_namesOwnComponent r0 r1 s0 = some o → g_W K s0 [(0, g_r 3 r0), (1, g_r 9 r1)] [] 0 (g_jI o) := by
  intro r0 r1 s0 h
  unfold f_Ch_namesOwnComponent at h
  refine r_aload_n hK d_Ch_namesOwnComponent_0 rfl 1 rfl ?_
  refine r_gR hK fd_So_0 w4_205 d_Ch_namesOwnComponent_1 h (fun p1 h => ?_)
  refine r_gI hK fd_Se_0 w3_222 d_Ch_namesOwnComponent_4 h (fun i2 h => ?_)
  refine r_istore_n (ls1 := [(2, g_i i2), (0, g_r 3 r0), (1, g_r 9 r1)]) hK d_Ch_namesOwnComponent_7 rfl (by rw [hN]; decide) rfl ?_
  refine r_aload_n hK d_Ch_namesOwnComponent_8 rfl 2 rfl ?_
  refine r_gI hK fd_So_6 w4_217 d_Ch_namesOwnComponent_9 h (fun i3 h => ?_)
  refine r_iflt (tgt := 75) hK d_Ch_namesOwnComponent_12 (by decide) h (fun h => ?_) (fun h => ?_)
  · refine r_iconst (v := 0) hK d_Ch_namesOwnComponent_75 (by decide) ?_
    exact r_zreturn hK d_Ch_namesOwnComponent_76 h
  · refine r_iload_n hK d_Ch_namesOwnComponent_15 rfl 0 rfl ?_
    refine r_aload_n hK d_Ch_namesOwnComponent_16 rfl 1 rfl ?_
    refine r_gR hK fd_Ch_0 w1_98 d_Ch_namesOwnComponent_17 h (fun p4 h => ?_)
    refine r_gI hK fd_Qu_1 w3_27 d_Ch_namesOwnComponent_20 h (fun i5 h => ?_)
    refine r_if_icmpge (tgt := 75) hK d_Ch_namesOwnComponent_23 (by decide) h (fun h => ?_) (fun h => ?_)
    · refine r_iconst (v := 0) hK d_Ch_namesOwnComponent_75 (by decide) ?_
      exact r_zreturn hK d_Ch_namesOwnComponent_76 h
    · refine r_aload_n hK d_Ch_namesOwnComponent_26 rfl 1 rfl ?_
      refine r_gR hK fd_Ch_0 w1_98 d_Ch_namesOwnComponent_27 h (fun p6 h => ?_)
      refine r_gR hK fd_Qu_0 w3_23 d_Ch_namesOwnComponent_30 h (fun p7 h => ?_)
      refine r_iload_n hK d_Ch_namesOwnComponent_33 rfl 0 rfl ?_
      refine r_aaload hK rfl ar_24 rfl d_Ch_namesOwnComponent_34 h (fun p8 h => ?_)
      refine r_gI hK fd_Pa_15 w3_140 d_Ch_namesOwnComponent_35 h (fun i9 h => ?_)
      refine r_ifeq (tgt := 75) hK d_Ch_namesOwnComponent_38 (by decide) h (fun h => ?_) (fun h => ?_)
      · refine r_iconst (v := 0) hK d_Ch_namesOwnComponent_75 (by decide) ?_
        exact r_zreturn hK d_Ch_namesOwnComponent_76 h
      · refine r_aload_n hK d_Ch_namesOwnComponent_41 rfl 1 rfl ?_
        refine r_gR hK fd_Ch_0 w1_98 d_Ch_namesOwnComponent_42 h (fun p10 h => ?_)
        refine r_gR hK fd_Qu_0 w3_23 d_Ch_namesOwnComponent_45 h (fun p11 h => ?_)
        refine r_iload_n hK d_Ch_namesOwnComponent_48 rfl 0 rfl ?_
        refine r_aaload hK rfl ar_24 rfl d_Ch_namesOwnComponent_49 h (fun p12 h => ?_)
        refine r_gI hK fd_Pa_14 w3_137 d_Ch_namesOwnComponent_50 h (fun i13 h => ?_)
        refine r_aload_n hK d_Ch_namesOwnComponent_53 rfl 1 rfl ?_
        refine r_gR hK fd_Ch_0 w1_98 d_Ch_namesOwnComponent_54 h (fun p14 h => ?_)
        refine r_gR hK fd_Qu_0 w3_23 d_Ch_namesOwnComponent_57 h (fun p15 h => ?_)
        refine r_aload_n hK d_Ch_namesOwnComponent_60 rfl 2 rfl ?_
        refine r_gI hK fd_So_6 w4_217 d_Ch_namesOwnComponent_61 h (fun i16 h => ?_)
        refine r_aaload hK rfl ar_24 rfl d_Ch_namesOwnComponent_64 h (fun p17 h => ?_)
        refine r_gI hK fd_Pa_14 w3_137 d_Ch_namesOwnComponent_65 h (fun i18 h => ?_)
        refine r_if_icmpne (tgt := 75) hK d_Ch_namesOwnComponent_68 (by decide) h (fun h => ?_) (fun h => ?_)
        · refine r_iconst (v := 0) hK d_Ch_namesOwnComponent_75 (by decide) ?_
          exact r_zreturn hK d_Ch_namesOwnComponent_76 h
        · refine r_iconst (v := 1) hK d_Ch_namesOwnComponent_71 (by decide) ?_
          refine r_goto (tgt := 76) hK d_Ch_namesOwnComponent_72 (by decide) ?_
          exact r_zreturn hK d_Ch_namesOwnComponent_76 h
theorem c_Ch_namesOwnComponent (l : Launch) (G : g_G) (r0 : Option Nat) (r1 : Option Nat) (u : g_St) (o : (Int32 × g_St)) (h : f_Ch_namesOwnComponent r0 r1 u = some o) : g_Con l G y_Ch_namesOwnComponent b_Ch_namesOwnComponent 3 (Option.some Jvm.ClassFile.FieldType.boolean) 1 [g_r 3 r0, g_r 9 r1] u (g_jI o) :=
  g_Con.of rfl rfl (by decide +kernel) (Nat.le_of_ble_eq_true rfl) (fun K hK hN hD hX => t_Ch_namesOwnComponent_0 hK hN hD _ _ _ h)
def f_Ch_countNamings_2 : Nat → Option Nat → Int32 → g_St → Option (Unit × g_St)
  | 0, _, _, _ => none
  | n + 1, r0, x1, s0 =>
    g_gR s0 3 r0 fun p1 =>
    g_gR s0 518 p1 fun p2 =>
    g_c (g_nn p2 (f_Al_size p2 s0)) fun i3 s4 =>
    if i3 ≤ x1 then
      some ((), s4)
    else
      g_gR s4 3 r0 fun p5 =>
      g_gR s4 518 p5 fun p6 =>
      g_c (g_nn p6 (f_Al_get p6 x1 s4)) fun p7 s8 =>
      g_cast 9 p7 (
      g_c (g_nn r0 (f_Ch_namesOwnComponent r0 p7 s8)) fun i9 s10 =>
      if i9 = 0 then
        f_Ch_countNamings_2 n r0 (x1 + 1) s10
      else
        g_gR s10 9 p7 fun p11 =>
        g_gI s10 648 p11 fun i12 =>
        g_pI s10 648 p11 (i12 + 1) fun s13 =>
        f_Ch_countNamings_2 n r0 (x1 + 1) s13)
def f_Ch_countNamings (r0 : Option Nat) (s0 : g_St) : Option (Unit × g_St) :=
  f_Ch_countNamings_2 200000 r0 0 s0
set_option maxHeartbeats 4000000 in
set_option maxRecDepth 100000 in
theorem t_Ch_countNamings_2 {K : g_C} {o : (Unit × g_St)} (hK : g_OK K b_Ch_countNamings "FixpointEngine$Checker" "countNamings" (Option.none : Option Jvm.ClassFile.FieldType)) (hN : g_nL K = 3) (hD : g_Kd K = 10) : ∀ (n : Nat) (r0 : Option Nat) (x1 : Int32) (s0 : g_St), f_Ch_countNamings_2 n r0 x1 s0 = some o → g_W K s0 [(0, g_r 3 r0), (1, g_i x1)] [] 2 (g_jV o) := by
  intro n
  induction n with
  | zero =>
    intro r0 x1 s0 h
    cases h
  | succ n ih =>
    intro r0 x1 s0 h
    unfold f_Ch_countNamings_2 at h
    refine r_iload_n hK d_Ch_countNamings_2 rfl 1 rfl ?_
    refine r_aload_n hK d_Ch_countNamings_3 rfl 0 rfl ?_
    refine r_gR hK fd_Ch_0 w1_98 d_Ch_countNamings_4 h (fun p1 h => ?_)
    refine r_gR hK fd_Qu_8 w3_47 d_Ch_countNamings_7 h (fun p2 h => ?_)
    refine r_Vi (avL := []) (st := [g_i x1]) hK ob_Al rfl w5_129 w5_130 w5_128 w5_131 w1_21 (by decide) pl_Al_size (by rw [hD]; decide) (Nat.le_of_ble_eq_true rfl) rfl d_Ch_countNamings_10 (fun o9 h9 => c_Al_size _ _ _ _ o9 h9) h (fun i3 s4 h => ?_)
    refine r_if_icmpge (tgt := 58) hK d_Ch_countNamings_13 (by decide) h (fun h => ?_) (fun h => ?_)
    · exact r_return hK d_Ch_countNamings_58 h
    · refine r_aload_n hK d_Ch_countNamings_16 rfl 0 rfl ?_
      refine r_gR hK fd_Ch_0 w1_98 d_Ch_countNamings_17 h (fun p5 h => ?_)
      refine r_gR hK fd_Qu_8 w3_47 d_Ch_countNamings_20 h (fun p6 h => ?_)
      refine r_iload_n hK d_Ch_countNamings_23 rfl 1 rfl ?_
      refine r_Vr (avL := [g_i x1]) (st := []) hK ob_Al rfl w5_133 w5_134 w5_132 w5_135 w1_21 (by decide) pl_Al_get (by rw [hD]; decide) (Nat.le_of_ble_eq_true rfl) rfl d_Ch_countNamings_24 (fun o9 h9 => c_Al_get _ _ _ _ _ o9 h9) h (fun p7 s8 h => ?_)
      refine r_cast hK ob_So rfl rfl w5_144 w9_233 d_Ch_countNamings_27 h (fun h => ?_)
      refine r_astore_n (ls1 := [(2, g_r 9 p7), (0, g_r 3 r0), (1, g_i x1)]) hK d_Ch_countNamings_30 rfl (by rw [hN]; decide) rfl ?_
      refine r_aload_n hK d_Ch_countNamings_31 rfl 1 rfl ?_
      refine r_aload_n hK d_Ch_countNamings_32 rfl 0 rfl ?_
      refine r_Vi (avL := [g_r 9 p7]) (st := []) hK ob_Ch rfl w5_180 w5_181 w5_179 w5_182 w1_3 (by decide) pl_Ch_namesOwnComponent (by rw [hD]; decide) (Nat.le_of_ble_eq_true rfl) rfl d_Ch_countNamings_33 (fun o9 h9 => c_Ch_namesOwnComponent _ _ _ _ _ o9 h9) h (fun i9 s10 h => ?_)
      refine r_ifeq (tgt := 52) hK d_Ch_countNamings_36 (by decide) h (fun h => ?_) (fun h => ?_)
      · refine r_iinc (ls1 := [(1, g_i (x1 + 1)), (2, g_r 9 p7), (0, g_r 3 r0)]) hK d_Ch_countNamings_52 2 rfl rfl (by rw [hN]; decide) rfl ?_
        refine r_goto (tgt := 2) hK d_Ch_countNamings_55 (by decide) ?_
        exact r_sub [2, 0] rfl (ih _ _ _ h)
      · refine r_aload_n hK d_Ch_countNamings_39 rfl 0 rfl ?_
        refine r_gR hK fd_So_0 w4_205 d_Ch_countNamings_40 h (fun p11 h => ?_)
        refine r_dup hK d_Ch_countNamings_43 rfl ?_
        refine r_gI hK fd_Se_10 w4_12 d_Ch_countNamings_44 h (fun i12 h => ?_)
        refine r_iconst (v := 1) hK d_Ch_countNamings_47 (by decide) ?_
        refine r_iadd hK d_Ch_countNamings_48 ?_
        refine r_pI hK fd_Se_10 rfl w4_12 d_Ch_countNamings_49 h (fun s13 h => ?_)
        refine r_iinc (ls1 := [(1, g_i (x1 + 1)), (2, g_r 9 p7), (0, g_r 3 r0)]) hK d_Ch_countNamings_52 2 rfl rfl (by rw [hN]; decide) rfl ?_
        refine r_goto (tgt := 2) hK d_Ch_countNamings_55 (by decide) ?_
        exact r_sub [2, 0] rfl (ih _ _ _ h)
set_option maxHeartbeats 4000000 in
set_option maxRecDepth 100000 in
theorem t_Ch_countNamings_0 {K : g_C} {o : (Unit × g_St)} (hK : g_OK K b_Ch_countNamings "FixpointEngine$Checker" "countNamings" (Option.none : Option Jvm.ClassFile.FieldType)) (hN : g_nL K = 3) (hD : g_Kd K = 10) : ∀ (r0 : Option Nat) (s0 : g_St), f_Ch_countNamings r0 s0 = some o → g_W K s0 [(0, g_r 3 r0)] [] 0 (g_jV o) := by
  intro r0 s0 h
  unfold f_Ch_countNamings at h
  refine r_iconst (v := 0) hK d_Ch_countNamings_0 (by decide) ?_
  refine r_istore_n (ls1 := [(1, g_i 0), (0, g_r 3 r0)]) hK d_Ch_countNamings_1 rfl (by rw [hN]; decide) rfl ?_
  exact r_sub [1, 0] rfl (t_Ch_countNamings_2 hK hN hD _ _ _ _ h)
theorem c_Ch_countNamings (l : Launch) (G : g_G) (r0 : Option Nat) (u : g_St) (o : (Unit × g_St)) (h : f_Ch_countNamings r0 u = some o) : g_Con l G y_Ch_countNamings b_Ch_countNamings 3 (Option.none : Option Jvm.ClassFile.FieldType) 10 [g_r 3 r0] u (g_jV o) :=
  g_Con.of rfl rfl (by decide +kernel) (Nat.le_of_ble_eq_true rfl) (fun K hK hN hD hX => t_Ch_countNamings_0 hK hN hD _ _ h)
def f_Ch_note (r0 : Option Nat) (x1 : Int32) (x2 : Int32) (s0 : g_St) : Option (Unit × g_St) :=
  if x1 = 0 then
    some ((), s0)
  else
    g_gI s0 195 r0 fun i1 =>
    if i1 ≤ x2 then
      some ((), s0)
    else
      g_pI s0 195 r0 x2 fun s2 =>
      some ((), s2)
set_option maxHeartbeats 4000000 in
set_option maxRecDepth 100000 in
theorem t_Ch_note_0 {K : g_C} {o : (Unit × g_St)} (hK : g_OK K b_Ch_note "FixpointEngine$Checker" "note" (Option.none : Option Jvm.ClassFile.FieldType)) (hN : g_nL K = 3) (hD : g_Kd K = 1) : ∀ (r0 : Option Nat) (x1 : Int32) (x2 : Int32) (s0 : g_St), f_Ch_note r0 x1 x2 s0 = some o → g_W K s0 [(0, g_r 3 r0), (1, g_i x1), (2, g_i x2)] [] 0 (g_jV o) := by
  intro r0 x1 x2 s0 h
  unfold f_Ch_note at h
  refine r_iload_n hK d_Ch_note_0 rfl 1 rfl ?_
  refine r_ifeq (tgt := 17) hK d_Ch_note_1 (by decide) h (fun h => ?_) (fun h => ?_)
  · exact r_return hK d_Ch_note_17 h
  · refine r_iload_n hK d_Ch_note_4 rfl 2 rfl ?_
    refine r_aload_n hK d_Ch_note_5 rfl 0 rfl ?_
    refine r_gI hK fd_Ch_3 w1_101 d_Ch_note_6 h (fun i1 h => ?_)
    refine r_if_icmpge (tgt := 17) hK d_Ch_note_9 (by decide) h (fun h => ?_) (fun h => ?_)
    · exact r_return hK d_Ch_note_17 h
    · refine r_aload_n hK d_Ch_note_12 rfl 0 rfl ?_
      refine r_iload_n hK d_Ch_note_13 rfl 2 rfl ?_
      refine r_pI hK fd_Ch_3 rfl w1_101 d_Ch_note_14 h (fun s2 h => ?_)
      exact r_return hK d_Ch_note_17 h
theorem c_Ch_note (l : Launch) (G : g_G) (r0 : Option Nat) (x1 : Int32) (x2 : Int32) (u : g_St) (o : (Unit × g_St)) (h : f_Ch_note r0 x1 x2 u = some o) : g_Con l G y_Ch_note b_Ch_note 3 (Option.none : Option Jvm.ClassFile.FieldType) 1 [g_r 3 r0, g_i x1, g_i x2] u (g_jV o) :=
  g_Con.of rfl rfl (by decide +kernel) (Nat.le_of_ble_eq_true rfl) (fun K hK hN hD hX => t_Ch_note_0 hK hN hD _ _ _ _ h)
def f_Ch_lookAtParts_203 (k2 : Option Nat → Int32 → g_St → Option (Unit × g_St)) (r0 : Option Nat) (x1 : Int32) (r2 : Option Nat) (r0s : Option Nat) (x1s : Int32) (s0 : g_St) : Option (Unit × g_St) :=
  g_gR s0 263 r2 fun p1 =>
  g_aI s0 p1 6 fun i2 =>
  g_c (g_nn r0s (f_Ch_note r0s x1s i2 s0)) fun _ s4 =>
  k2 r0 (x1 + 1) s4
def f_Ch_lookAtParts_174 (k2 : Option Nat → Int32 → g_St → Option (Unit × g_St)) (r0 : Option Nat) (x1 : Int32) (r2 : Option Nat) (r0s : Option Nat) (x1s : Int32) (s0 : g_St) : Option (Unit × g_St) :=
  g_gR s0 263 r2 fun p1 =>
  g_aI s0 p1 5 fun i2 =>
  g_c (g_nn r0s (f_Ch_note r0s x1s i2 s0)) fun _ s4 =>
  g_gI s4 455 r2 fun i5 =>
  if i5 = 0 then
    f_Ch_lookAtParts_203 k2 r0 x1 r2 r0 0 s4
  else
    g_gI s4 1095 r2 fun i6 =>
    if 0 ≤ i6 then
      f_Ch_lookAtParts_203 k2 r0 x1 r2 r0 0 s4
    else
      f_Ch_lookAtParts_203 k2 r0 x1 r2 r0 1 s4
def f_Ch_lookAtParts_118 (k79 : Option Nat → Int32 → Option Nat → Int32 → Int32 → g_St → Option (Unit × g_St)) (r0 : Option Nat) (x1 : Int32) (r2 : Option Nat) (x3 : Int32) (x4 : Int32) (x0s : Int32) (s0 : g_St) : Option (Unit × g_St) :=
  g_gR s0 263 r2 fun p1 =>
  g_aI s0 p1 x3 fun i2 =>
  g_gR s0 263 r2 fun p3 =>
  g_aI s0 p3 x4 fun i4 =>
  g_c (g_nn r0 (f_Ch_note r0 x0s (if i2 < i4 then i4 else i2) s0)) fun _ s6 =>
  k79 r0 x1 r2 x3 (x4 + 1) s6
def f_Ch_lookAtParts_79 (k71 : Option Nat → Int32 → Option Nat → Int32 → g_St → Option (Unit × g_St)) : Nat → Option Nat → Int32 → Option Nat → Int32 → Int32 → g_St → Option (Unit × g_St)
  | 0, _, _, _, _, _, _ => none
  | n + 1, r0, x1, r2, x3, x4, s0 =>
    if x3 ≤ x4 then
      k71 r0 x1 r2 (x3 + 1) s0
    else
      g_gR s0 199 r2 fun p1 =>
      g_aL s0 p1 x3 fun j2 =>
      if j2 = 0 then
        f_Ch_lookAtParts_118 (f_Ch_lookAtParts_79 k71 n) r0 x1 r2 x3 x4 0 s0
      else
        g_gR s0 199 r2 fun p3 =>
        g_aL s0 p3 x3 fun j4 =>
        g_gR s0 199 r2 fun p5 =>
        g_aL s0 p5 x4 fun j6 =>
        if j4 = j6 then
          f_Ch_lookAtParts_118 (f_Ch_lookAtParts_79 k71 n) r0 x1 r2 x3 x4 1 s0
        else
          f_Ch_lookAtParts_118 (f_Ch_lookAtParts_79 k71 n) r0 x1 r2 x3 x4 0 s0
def f_Ch_lookAtParts_71 (k2 : Option Nat → Int32 → g_St → Option (Unit × g_St)) : Nat → Option Nat → Int32 → Option Nat → Int32 → g_St → Option (Unit × g_St)
  | 0, _, _, _, _, _ => none
  | n + 1, r0, x1, r2, x3, s0 =>
    if 4 < x3 then
      g_gI s0 391 r2 fun i1 =>
      if i1 = 0 then
        f_Ch_lookAtParts_174 k2 r0 x1 r2 r0 0 s0
      else
        g_gI s0 1031 r2 fun i2 =>
        if 0 ≤ i2 then
          f_Ch_lookAtParts_174 k2 r0 x1 r2 r0 0 s0
        else
          f_Ch_lookAtParts_174 k2 r0 x1 r2 r0 1 s0
    else
      f_Ch_lookAtParts_79 (f_Ch_lookAtParts_71 k2 n) 200000 r0 x1 r2 x3 0 s0
def f_Ch_lookAtParts_56 (k25 : Option Nat → Int32 → Option Nat → Int32 → g_St → Option (Unit × g_St)) (r0 : Option Nat) (x1 : Int32) (r2 : Option Nat) (x3 : Int32) (r0s : Option Nat) (x1s : Int32) (s0 : g_St) : Option (Unit × g_St) :=
  g_gI s0 71 r2 fun i1 =>
  g_c (g_nn r0s (f_Ch_note r0s x1s i1 s0)) fun _ s3 =>
  k25 r0 x1 r2 (x3 + 1) s3
def f_Ch_lookAtParts_25 (k2 : Option Nat → Int32 → g_St → Option (Unit × g_St)) : Nat → Option Nat → Int32 → Option Nat → Int32 → g_St → Option (Unit × g_St)
  | 0, _, _, _, _, _ => none
  | n + 1, r0, x1, r2, x3, s0 =>
    if x1 ≤ x3 then
      f_Ch_lookAtParts_71 k2 200000 r0 x1 r2 0 s0
    else
      g_gR s0 3 r0 fun p1 =>
      g_gR s0 6 p1 fun p2 =>
      g_aR s0 p2 x3 fun p3 =>
      g_gL s0 7 p3 fun j4 =>
      g_gL s0 7 r2 fun j5 =>
      if j4 = j5 then
        f_Ch_lookAtParts_56 (f_Ch_lookAtParts_25 k2 n) r0 x1 r2 x3 r0 1 s0
      else
        f_Ch_lookAtParts_56 (f_Ch_lookAtParts_25 k2 n) r0 x1 r2 x3 r0 0 s0
def f_Ch_lookAtParts_2 : Nat → Option Nat → Int32 → g_St → Option (Unit × g_St)
  | 0, _, _, _ => none
  | n + 1, r0, x1, s0 =>
    g_gR s0 3 r0 fun p1 =>
    g_gI s0 70 p1 fun i2 =>
    if i2 ≤ x1 then
      some ((), s0)
    else
      g_gR s0 3 r0 fun p3 =>
      g_gR s0 6 p3 fun p4 =>
      g_aR s0 p4 x1 fun p5 =>
      f_Ch_lookAtParts_25 (f_Ch_lookAtParts_2 n) 200000 r0 x1 p5 0 s0
def f_Ch_lookAtParts (r0 : Option Nat) (s0 : g_St) : Option (Unit × g_St) :=
  f_Ch_lookAtParts_2 200000 r0 0 s0
set_option maxHeartbeats 4000000 in
set_option maxRecDepth 100000 in
theorem t_Ch_lookAtParts_203 {K : g_C} {o : (Unit × g_St)} (hK : g_OK K b_Ch_lookAtParts "FixpointEngine$Checker" "lookAtParts" (Option.none : Option Jvm.ClassFile.FieldType)) (hN : g_nL K = 6) (hD : g_Kd K = 7) {k2 : Option Nat → Int32 → g_St → Option (Unit × g_St)} (hk2 : ∀ (r0 : Option Nat) (x1 : Int32) (s0 : g_St), k2 r0 x1 s0 = some o → g_W K s0 [(0, g_r 3 r0), (1, g_i x1)] [] 2 (g_jV o)) : ∀ (r0 : Option Nat) (x1 : Int32) (r2 : Option Nat) (r0s : Option Nat) (x1s : Int32) (s0 : g_St), f_Ch_lookAtParts_203 k2 r0 x1 r2 r0s x1s s0 = some o → g_W K s0 [(0, g_r 3 r0), (1, g_i x1), (2, g_r 7 r2)] [g_i x1s, g_r 3 r0s] 203 (g_jV o) := by
  intro r0 x1 r2 r0s x1s s0 h
  unfold f_Ch_lookAtParts_203 at h
  refine r_aload_n hK d_Ch_lookAtParts_203 rfl 2 rfl ?_
  refine r_gR hK fd_Pa_4 w3_106 d_Ch_lookAtParts_204 h (fun p1 h => ?_)
  refine r_bipush (v := 6) hK d_Ch_lookAtParts_207 (by decide) ?_
  refine r_iaload hK ar_20 rfl d_Ch_lookAtParts_209 h (fun i2 h => ?_)
  refine r_Vv (avL := [g_i x1s, g_i i2]) (st := []) hK ob_Ch rfl w5_192 w5_193 w5_191 w5_194 w1_3 (by decide) pl_Ch_note (by rw [hD]; decide) (Nat.le_of_ble_eq_true rfl) rfl d_Ch_lookAtParts_210 (fun o9 h9 => c_Ch_note _ _ _ _ _ _ o9 h9) h (fun s4 h => ?_)
  refine r_iinc (ls1 := [(1, g_i (x1 + 1)), (0, g_r 3 r0), (2, g_r 7 r2)]) hK d_Ch_lookAtParts_213 1 rfl rfl (by rw [hN]; decide) rfl ?_
  refine r_goto (tgt := 2) hK d_Ch_lookAtParts_216 (by decide) ?_
  exact r_sub [1, 0] rfl (hk2 _ _ _ h)
set_option maxHeartbeats 4000000 in
set_option maxRecDepth 100000 in
theorem t_Ch_lookAtParts_174 {K : g_C} {o : (Unit × g_St)} (hK : g_OK K b_Ch_lookAtParts "FixpointEngine$Checker" "lookAtParts" (Option.none : Option Jvm.ClassFile.FieldType)) (hN : g_nL K = 6) (hD : g_Kd K = 7) {k2 : Option Nat → Int32 → g_St → Option (Unit × g_St)} (hk2 : ∀ (r0 : Option Nat) (x1 : Int32) (s0 : g_St), k2 r0 x1 s0 = some o → g_W K s0 [(0, g_r 3 r0), (1, g_i x1)] [] 2 (g_jV o)) : ∀ (r0 : Option Nat) (x1 : Int32) (r2 : Option Nat) (r0s : Option Nat) (x1s : Int32) (s0 : g_St), f_Ch_lookAtParts_174 k2 r0 x1 r2 r0s x1s s0 = some o → g_W K s0 [(0, g_r 3 r0), (1, g_i x1), (2, g_r 7 r2)] [g_i x1s, g_r 3 r0s] 174 (g_jV o) := by
  intro r0 x1 r2 r0s x1s s0 h
  unfold f_Ch_lookAtParts_174 at h
  refine r_aload_n hK d_Ch_lookAtParts_174 rfl 2 rfl ?_
  refine r_gR hK fd_Pa_4 w3_106 d_Ch_lookAtParts_175 h (fun p1 h => ?_)
  refine r_iconst (v := 5) hK d_Ch_lookAtParts_178 (by decide) ?_
  refine r_iaload hK ar_20 rfl d_Ch_lookAtParts_179 h (fun i2 h => ?_)
  refine r_Vv (avL := [g_i x1s, g_i i2]) (st := []) hK ob_Ch rfl w5_192 w5_193 w5_191 w5_194 w1_3 (by decide) pl_Ch_note (by rw [hD]; decide) (Nat.le_of_ble_eq_true rfl) rfl d_Ch_lookAtParts_180 (fun o9 h9 => c_Ch_note _ _ _ _ _ _ o9 h9) h (fun s4 h => ?_)
  refine r_aload_n hK d_Ch_lookAtParts_183 rfl 0 rfl ?_
  refine r_aload_n hK d_Ch_lookAtParts_184 rfl 2 rfl ?_
  refine r_gI hK fd_Pa_7 w3_117 d_Ch_lookAtParts_185 h (fun i5 h => ?_)
  refine r_ifeq (tgt := 202) hK d_Ch_lookAtParts_188 (by decide) h (fun h => ?_) (fun h => ?_)
  · refine r_iconst (v := 0) hK d_Ch_lookAtParts_202 (by decide) ?_
    exact r_sub [0, 1, 2] rfl (t_Ch_lookAtParts_203 hK hN hD hk2 _ _ _ _ _ _ h)
  · refine r_aload_n hK d_Ch_lookAtParts_191 rfl 2 rfl ?_
    refine r_gI hK fd_Pa_17 w3_145 d_Ch_lookAtParts_192 h (fun i6 h => ?_)
    refine r_ifge (tgt := 202) hK d_Ch_lookAtParts_195 (by decide) h (fun h => ?_) (fun h => ?_)
    · refine r_iconst (v := 0) hK d_Ch_lookAtParts_202 (by decide) ?_
      exact r_sub [0, 1, 2] rfl (t_Ch_lookAtParts_203 hK hN hD hk2 _ _ _ _ _ _ h)
    · refine r_iconst (v := 1) hK d_Ch_lookAtParts_198 (by decide) ?_
      refine r_goto (tgt := 203) hK d_Ch_lookAtParts_199 (by decide) ?_
      exact r_sub [0, 1, 2] rfl (t_Ch_lookAtParts_203 hK hN hD hk2 _ _ _ _ _ _ h)
set_option maxHeartbeats 4000000 in
set_option maxRecDepth 100000 in
theorem t_Ch_lookAtParts_118 {K : g_C} {o : (Unit × g_St)} (hK : g_OK K b_Ch_lookAtParts "FixpointEngine$Checker" "lookAtParts" (Option.none : Option Jvm.ClassFile.FieldType)) (hN : g_nL K = 6) (hD : g_Kd K = 7) {k79 : Option Nat → Int32 → Option Nat → Int32 → Int32 → g_St → Option (Unit × g_St)} (hk79 : ∀ (r0 : Option Nat) (x1 : Int32) (r2 : Option Nat) (x3 : Int32) (x4 : Int32) (s0 : g_St), k79 r0 x1 r2 x3 x4 s0 = some o → g_W K s0 [(0, g_r 3 r0), (1, g_i x1), (2, g_r 7 r2), (3, g_i x3), (4, g_i x4)] [] 79 (g_jV o)) : ∀ (r0 : Option Nat) (x1 : Int32) (r2 : Option Nat) (x3 : Int32) (x4 : Int32) (x0s : Int32) (s0 : g_St), f_Ch_lookAtParts_118 k79 r0 x1 r2 x3 x4 x0s s0 = some o → g_W K s0 [(0, g_r 3 r0), (1, g_i x1), (2, g_r 7 r2), (3, g_i x3), (4, g_i x4)] [g_i x0s] 118 (g_jV o) := by
  intro r0 x1 r2 x3 x4 x0s s0 h
  unfold f_Ch_lookAtParts_118 at h
  refine r_istore (ls1 := [(5, g_i x0s), (0, g_r 3 r0), (1, g_i x1), (2, g_r 7 r2), (3, g_i x3), (4, g_i x4)]) hK d_Ch_lookAtParts_118 (by rw [hN]; decide) rfl ?_
  refine r_aload_n hK d_Ch_lookAtParts_120 rfl 1 rfl ?_
  refine r_iload hK d_Ch_lookAtParts_121 0 rfl ?_
  refine r_aload_n hK d_Ch_lookAtParts_123 rfl 3 rfl ?_
  refine r_gR hK fd_Pa_4 w3_106 d_Ch_lookAtParts_124 h (fun p1 h => ?_)
  refine r_iload_n hK d_Ch_lookAtParts_127 rfl 4 rfl ?_
  refine r_iaload hK ar_20 rfl d_Ch_lookAtParts_128 h (fun i2 h => ?_)
  refine r_aload_n hK d_Ch_lookAtParts_129 rfl 3 rfl ?_
  refine r_gR hK fd_Pa_4 w3_106 d_Ch_lookAtParts_130 h (fun p3 h => ?_)
  refine r_iload hK d_Ch_lookAtParts_133 5 rfl ?_
  refine r_iaload hK ar_20 rfl d_Ch_lookAtParts_135 h (fun i4 h => ?_)
  refine r_mmax hK w5_195 (by rw [hD]; decide) (Nat.le_of_ble_eq_true rfl) d_Ch_lookAtParts_136 ?_
  refine r_Vv (avL := [g_i x0s, g_i (if i2 < i4 then i4 else i2)]) (st := []) hK ob_Ch rfl w5_192 w5_193 w5_191 w5_194 w1_3 (by decide) pl_Ch_note (by rw [hD]; decide) (Nat.le_of_ble_eq_true rfl) rfl d_Ch_lookAtParts_139 (fun o9 h9 => c_Ch_note _ _ _ _ _ _ o9 h9) h (fun s6 h => ?_)
  refine r_iinc (ls1 := [(4, g_i (x4 + 1)), (5, g_i x0s), (0, g_r 3 r0), (1, g_i x1), (2, g_r 7 r2), (3, g_i x3)]) hK d_Ch_lookAtParts_142 5 rfl rfl (by rw [hN]; decide) rfl ?_
  refine r_goto (tgt := 79) hK d_Ch_lookAtParts_145 (by decide) ?_
  exact r_sub [2, 3, 4, 5, 0] rfl (hk79 _ _ _ _ _ _ h)
set_option maxHeartbeats 4000000 in
set_option maxRecDepth 100000 in
theorem t_Ch_lookAtParts_79 {K : g_C} {o : (Unit × g_St)} (hK : g_OK K b_Ch_lookAtParts "FixpointEngine$Checker" "lookAtParts" (Option.none : Option Jvm.ClassFile.FieldType)) (hN : g_nL K = 6) (hD : g_Kd K = 7) {k71 : Option Nat → Int32 → Option Nat → Int32 → g_St → Option (Unit × g_St)} (hk71 : ∀ (r0 : Option Nat) (x1 : Int32) (r2 : Option Nat) (x3 : Int32) (s0 : g_St), k71 r0 x1 r2 x3 s0 = some o → g_W K s0 [(0, g_r 3 r0), (1, g_i x1), (2, g_r 7 r2), (3, g_i x3)] [] 71 (g_jV o)) : ∀ (n : Nat) (r0 : Option Nat) (x1 : Int32) (r2 : Option Nat) (x3 : Int32) (x4 : Int32) (s0 : g_St), f_Ch_lookAtParts_79 k71 n r0 x1 r2 x3 x4 s0 = some o → g_W K s0 [(0, g_r 3 r0), (1, g_i x1), (2, g_r 7 r2), (3, g_i x3), (4, g_i x4)] [] 79 (g_jV o) := by
  intro n
  induction n with
  | zero =>
    intro r0 x1 r2 x3 x4 s0 h
    cases h
  | succ n ih =>
    intro r0 x1 r2 x3 x4 s0 h
    unfold f_Ch_lookAtParts_79 at h
    refine r_iload hK d_Ch_lookAtParts_79 4 rfl ?_
    refine r_iload_n hK d_Ch_lookAtParts_81 rfl 3 rfl ?_
    refine r_if_icmpge (tgt := 148) hK d_Ch_lookAtParts_82 (by decide) h (fun h => ?_) (fun h => ?_)
    · refine r_iinc (ls1 := [(3, g_i (x3 + 1)), (0, g_r 3 r0), (1, g_i x1), (2, g_r 7 r2), (4, g_i x4)]) hK d_Ch_lookAtParts_148 3 rfl rfl (by rw [hN]; decide) rfl ?_
      refine r_goto (tgt := 71) hK d_Ch_lookAtParts_151 (by decide) ?_
      exact r_sub [1, 2, 3, 0] rfl (hk71 _ _ _ _ _ h)
    · refine r_aload_n hK d_Ch_lookAtParts_85 rfl 2 rfl ?_
      refine r_gR hK fd_Pa_3 w3_103 d_Ch_lookAtParts_86 h (fun p1 h => ?_)
      refine r_iload_n hK d_Ch_lookAtParts_89 rfl 3 rfl ?_
      refine r_laload hK ar_21 rfl d_Ch_lookAtParts_90 h (fun j2 h => ?_)
      refine r_lconst (v := 0) hK d_Ch_lookAtParts_91 (by decide) ?_
      refine r_lifeq (tgt := 117) hK d_Ch_lookAtParts_92 d_Ch_lookAtParts_93 (by decide) h (fun h => ?_) (fun h => ?_)
      · refine r_iconst (v := 0) hK d_Ch_lookAtParts_117 (by decide) ?_
        exact r_sub [0, 1, 2, 3, 4] rfl (t_Ch_lookAtParts_118 hK hN hD ih _ _ _ _ _ _ _ h)
      · refine r_aload_n hK d_Ch_lookAtParts_96 rfl 2 rfl ?_
        refine r_gR hK fd_Pa_3 w3_103 d_Ch_lookAtParts_97 h (fun p3 h => ?_)
        refine r_iload_n hK d_Ch_lookAtParts_100 rfl 3 rfl ?_
        refine r_laload hK ar_21 rfl d_Ch_lookAtParts_101 h (fun j4 h => ?_)
        refine r_aload_n hK d_Ch_lookAtParts_102 rfl 2 rfl ?_
        refine r_gR hK fd_Pa_3 w3_103 d_Ch_lookAtParts_103 h (fun p5 h => ?_)
        refine r_iload hK d_Ch_lookAtParts_106 4 rfl ?_
        refine r_laload hK ar_21 rfl d_Ch_lookAtParts_108 h (fun j6 h => ?_)
        refine r_lifne (tgt := 117) hK d_Ch_lookAtParts_109 d_Ch_lookAtParts_110 (by decide) h (fun h => ?_) (fun h => ?_)
        · refine r_iconst (v := 0) hK d_Ch_lookAtParts_117 (by decide) ?_
          exact r_sub [0, 1, 2, 3, 4] rfl (t_Ch_lookAtParts_118 hK hN hD ih _ _ _ _ _ _ _ h)
        · refine r_iconst (v := 1) hK d_Ch_lookAtParts_113 (by decide) ?_
          refine r_goto (tgt := 118) hK d_Ch_lookAtParts_114 (by decide) ?_
          exact r_sub [0, 1, 2, 3, 4] rfl (t_Ch_lookAtParts_118 hK hN hD ih _ _ _ _ _ _ _ h)
set_option maxHeartbeats 4000000 in
set_option maxRecDepth 100000 in
theorem t_Ch_lookAtParts_71 {K : g_C} {o : (Unit × g_St)} (hK : g_OK K b_Ch_lookAtParts "FixpointEngine$Checker" "lookAtParts" (Option.none : Option Jvm.ClassFile.FieldType)) (hN : g_nL K = 6) (hD : g_Kd K = 7) {k2 : Option Nat → Int32 → g_St → Option (Unit × g_St)} (hk2 : ∀ (r0 : Option Nat) (x1 : Int32) (s0 : g_St), k2 r0 x1 s0 = some o → g_W K s0 [(0, g_r 3 r0), (1, g_i x1)] [] 2 (g_jV o)) : ∀ (n : Nat) (r0 : Option Nat) (x1 : Int32) (r2 : Option Nat) (x3 : Int32) (s0 : g_St), f_Ch_lookAtParts_71 k2 n r0 x1 r2 x3 s0 = some o → g_W K s0 [(0, g_r 3 r0), (1, g_i x1), (2, g_r 7 r2), (3, g_i x3)] [] 71 (g_jV o) := by
  intro n
  induction n with
  | zero =>
    intro r0 x1 r2 x3 s0 h
    cases h
  | succ n ih =>
    intro r0 x1 r2 x3 s0 h
    unfold f_Ch_lookAtParts_71 at h
    refine r_iload_n hK d_Ch_lookAtParts_71 rfl 3 rfl ?_
    refine r_iconst (v := 4) hK d_Ch_lookAtParts_72 (by decide) ?_
    refine r_if_icmpgt (tgt := 154) hK d_Ch_lookAtParts_73 (by decide) h (fun h => ?_) (fun h => ?_)
    · refine r_aload_n hK d_Ch_lookAtParts_154 rfl 0 rfl ?_
      refine r_aload_n hK d_Ch_lookAtParts_155 rfl 2 rfl ?_
      refine r_gI hK fd_Pa_6 w3_111 d_Ch_lookAtParts_156 h (fun i1 h => ?_)
      refine r_ifeq (tgt := 173) hK d_Ch_lookAtParts_159 (by decide) h (fun h => ?_) (fun h => ?_)
      · refine r_iconst (v := 0) hK d_Ch_lookAtParts_173 (by decide) ?_
        exact r_sub [0, 1, 2] rfl (t_Ch_lookAtParts_174 hK hN hD hk2 _ _ _ _ _ _ h)
      · refine r_aload_n hK d_Ch_lookAtParts_162 rfl 2 rfl ?_
        refine r_gI hK fd_Pa_16 w3_142 d_Ch_lookAtParts_163 h (fun i2 h => ?_)
        refine r_ifge (tgt := 173) hK d_Ch_lookAtParts_166 (by decide) h (fun h => ?_) (fun h => ?_)
        · refine r_iconst (v := 0) hK d_Ch_lookAtParts_173 (by decide) ?_
          exact r_sub [0, 1, 2] rfl (t_Ch_lookAtParts_174 hK hN hD hk2 _ _ _ _ _ _ h)
        · refine r_iconst (v := 1) hK d_Ch_lookAtParts_169 (by decide) ?_
          refine r_goto (tgt := 174) hK d_Ch_lookAtParts_170 (by decide) ?_
          exact r_sub [0, 1, 2] rfl (t_Ch_lookAtParts_174 hK hN hD hk2 _ _ _ _ _ _ h)
    · refine r_iconst (v := 0) hK d_Ch_lookAtParts_76 (by decide) ?_
      refine r_istore (ls1 := [(4, g_i 0), (0, g_r 3 r0), (1, g_i x1), (2, g_r 7 r2), (3, g_i x3)]) hK d_Ch_lookAtParts_77 (by rw [hN]; decide) rfl ?_
      exact r_sub [1, 2, 3, 4, 0] rfl (t_Ch_lookAtParts_79 hK hN hD ih _ _ _ _ _ _ _ h)
set_option maxHeartbeats 4000000 in
set_option maxRecDepth 100000 in
theorem t_Ch_lookAtParts_56 {K : g_C} {o : (Unit × g_St)} (hK : g_OK K b_Ch_lookAtParts "FixpointEngine$Checker" "lookAtParts" (Option.none : Option Jvm.ClassFile.FieldType)) (hN : g_nL K = 6) (hD : g_Kd K = 7) {k25 : Option Nat → Int32 → Option Nat → Int32 → g_St → Option (Unit × g_St)} (hk25 : ∀ (r0 : Option Nat) (x1 : Int32) (r2 : Option Nat) (x3 : Int32) (s0 : g_St), k25 r0 x1 r2 x3 s0 = some o → g_W K s0 [(0, g_r 3 r0), (1, g_i x1), (2, g_r 7 r2), (3, g_i x3)] [] 25 (g_jV o)) : ∀ (r0 : Option Nat) (x1 : Int32) (r2 : Option Nat) (x3 : Int32) (r0s : Option Nat) (x1s : Int32) (s0 : g_St), f_Ch_lookAtParts_56 k25 r0 x1 r2 x3 r0s x1s s0 = some o → g_W K s0 [(0, g_r 3 r0), (1, g_i x1), (2, g_r 7 r2), (3, g_i x3)] [g_i x1s, g_r 3 r0s] 56 (g_jV o) := by
  intro r0 x1 r2 x3 r0s x1s s0 h
  unfold f_Ch_lookAtParts_56 at h
  refine r_aload_n hK d_Ch_lookAtParts_56 rfl 2 rfl ?_
  refine r_gI hK fd_Pa_1 w3_95 d_Ch_lookAtParts_57 h (fun i1 h => ?_)
  refine r_Vv (avL := [g_i x1s, g_i i1]) (st := []) hK ob_Ch rfl w5_192 w5_193 w5_191 w5_194 w1_3 (by decide) pl_Ch_note (by rw [hD]; decide) (Nat.le_of_ble_eq_true rfl) rfl d_Ch_lookAtParts_60 (fun o9 h9 => c_Ch_note _ _ _ _ _ _ o9 h9) h (fun s3 h => ?_)
  refine r_iinc (ls1 := [(3, g_i (x3 + 1)), (0, g_r 3 r0), (1, g_i x1), (2, g_r 7 r2)]) hK d_Ch_lookAtParts_63 3 rfl rfl (by rw [hN]; decide) rfl ?_
  refine r_goto (tgt := 25) hK d_Ch_lookAtParts_66 (by decide) ?_
  exact r_sub [1, 2, 3, 0] rfl (hk25 _ _ _ _ _ h)
set_option maxHeartbeats 4000000 in
set_option maxRecDepth 100000 in
theorem t_Ch_lookAtParts_25 {K : g_C} {o : (Unit × g_St)} (hK : g_OK K b_Ch_lookAtParts "FixpointEngine$Checker" "lookAtParts" (Option.none : Option Jvm.ClassFile.FieldType)) (hN : g_nL K = 6) (hD : g_Kd K = 7) {k2 : Option Nat → Int32 → g_St → Option (Unit × g_St)} (hk2 : ∀ (r0 : Option Nat) (x1 : Int32) (s0 : g_St), k2 r0 x1 s0 = some o → g_W K s0 [(0, g_r 3 r0), (1, g_i x1)] [] 2 (g_jV o)) : ∀ (n : Nat) (r0 : Option Nat) (x1 : Int32) (r2 : Option Nat) (x3 : Int32) (s0 : g_St), f_Ch_lookAtParts_25 k2 n r0 x1 r2 x3 s0 = some o → g_W K s0 [(0, g_r 3 r0), (1, g_i x1), (2, g_r 7 r2), (3, g_i x3)] [] 25 (g_jV o) := by
  intro n
  induction n with
  | zero =>
    intro r0 x1 r2 x3 s0 h
    cases h
  | succ n ih =>
    intro r0 x1 r2 x3 s0 h
    unfold f_Ch_lookAtParts_25 at h
    refine r_iload_n hK d_Ch_lookAtParts_25 rfl 3 rfl ?_
    refine r_iload_n hK d_Ch_lookAtParts_26 rfl 1 rfl ?_
    refine r_if_icmpge (tgt := 69) hK d_Ch_lookAtParts_27 (by decide) h (fun h => ?_) (fun h => ?_)
    · refine r_iconst (v := 0) hK d_Ch_lookAtParts_69 (by decide) ?_
      refine r_istore_n (ls1 := [(3, g_i 0), (0, g_r 3 r0), (1, g_i x1), (2, g_r 7 r2)]) hK d_Ch_lookAtParts_70 rfl (by rw [hN]; decide) rfl ?_
      exact r_sub [1, 2, 3, 0] rfl (t_Ch_lookAtParts_71 hK hN hD hk2 _ _ _ _ _ _ h)
    · refine r_aload_n hK d_Ch_lookAtParts_30 rfl 0 rfl ?_
      refine r_aload_n hK d_Ch_lookAtParts_31 rfl 0 rfl ?_
      refine r_gR hK fd_Ch_0 w1_98 d_Ch_lookAtParts_32 h (fun p1 h => ?_)
      refine r_gR hK fd_Qu_0 w3_23 d_Ch_lookAtParts_35 h (fun p2 h => ?_)
      refine r_iload_n hK d_Ch_lookAtParts_38 rfl 3 rfl ?_
      refine r_aaload hK rfl ar_24 rfl d_Ch_lookAtParts_39 h (fun p3 h => ?_)
      refine r_gL hK fd_Pa_0 w3_93 d_Ch_lookAtParts_40 h (fun j4 h => ?_)
      refine r_aload_n hK d_Ch_lookAtParts_43 rfl 2 rfl ?_
      refine r_gL hK fd_Pa_0 w3_93 d_Ch_lookAtParts_44 h (fun j5 h => ?_)
      refine r_lifne (tgt := 55) hK d_Ch_lookAtParts_47 d_Ch_lookAtParts_48 (by decide) h (fun h => ?_) (fun h => ?_)
      · refine r_iconst (v := 0) hK d_Ch_lookAtParts_55 (by decide) ?_
        exact r_sub [0, 1, 2, 3] rfl (t_Ch_lookAtParts_56 hK hN hD ih _ _ _ _ _ _ _ h)
      · refine r_iconst (v := 1) hK d_Ch_lookAtParts_51 (by decide) ?_
        refine r_goto (tgt := 56) hK d_Ch_lookAtParts_52 (by decide) ?_
        exact r_sub [0, 1, 2, 3] rfl (t_Ch_lookAtParts_56 hK hN hD ih _ _ _ _ _ _ _ h)
set_option maxHeartbeats 4000000 in
set_option maxRecDepth 100000 in
theorem t_Ch_lookAtParts_2 {K : g_C} {o : (Unit × g_St)} (hK : g_OK K b_Ch_lookAtParts "FixpointEngine$Checker" "lookAtParts" (Option.none : Option Jvm.ClassFile.FieldType)) (hN : g_nL K = 6) (hD : g_Kd K = 7) : ∀ (n : Nat) (r0 : Option Nat) (x1 : Int32) (s0 : g_St), f_Ch_lookAtParts_2 n r0 x1 s0 = some o → g_W K s0 [(0, g_r 3 r0), (1, g_i x1)] [] 2 (g_jV o) := by
  intro n
  induction n with
  | zero =>
    intro r0 x1 s0 h
    cases h
  | succ n ih =>
    intro r0 x1 s0 h
    unfold f_Ch_lookAtParts_2 at h
    refine r_iload_n hK d_Ch_lookAtParts_2 rfl 1 rfl ?_
    refine r_aload_n hK d_Ch_lookAtParts_3 rfl 0 rfl ?_
    refine r_gR hK fd_Ch_0 w1_98 d_Ch_lookAtParts_4 h (fun p1 h => ?_)
    refine r_gI hK fd_Qu_1 w3_27 d_Ch_lookAtParts_7 h (fun i2 h => ?_)
    refine r_if_icmpge (tgt := 219) hK d_Ch_lookAtParts_10 (by decide) h (fun h => ?_) (fun h => ?_)
    · exact r_return hK d_Ch_lookAtParts_219 h
    · refine r_aload_n hK d_Ch_lookAtParts_13 rfl 0 rfl ?_
      refine r_gR hK fd_Ch_0 w1_98 d_Ch_lookAtParts_14 h (fun p3 h => ?_)
      refine r_gR hK fd_Qu_0 w3_23 d_Ch_lookAtParts_17 h (fun p4 h => ?_)
      refine r_iload_n hK d_Ch_lookAtParts_20 rfl 1 rfl ?_
      refine r_aaload hK rfl ar_24 rfl d_Ch_lookAtParts_21 h (fun p5 h => ?_)
      refine r_astore_n (ls1 := [(2, g_r 7 p5), (0, g_r 3 r0), (1, g_i x1)]) hK d_Ch_lookAtParts_22 rfl (by rw [hN]; decide) rfl ?_
      refine r_iconst (v := 0) hK d_Ch_lookAtParts_23 (by decide) ?_
      refine r_istore_n (ls1 := [(3, g_i 0), (2, g_r 7 p5), (0, g_r 3 r0), (1, g_i x1)]) hK d_Ch_lookAtParts_24 rfl (by rw [hN]; decide) rfl ?_
      exact r_sub [2, 3, 1, 0] rfl (t_Ch_lookAtParts_25 hK hN hD ih _ _ _ _ _ _ h)
set_option maxHeartbeats 4000000 in
set_option maxRecDepth 100000 in
theorem t_Ch_lookAtParts_0 {K : g_C} {o : (Unit × g_St)} (hK : g_OK K b_Ch_lookAtParts "FixpointEngine$Checker" "lookAtParts" (Option.none : Option Jvm.ClassFile.FieldType)) (hN : g_nL K = 6) (hD : g_Kd K = 7) : ∀ (r0 : Option Nat) (s0 : g_St), f_Ch_lookAtParts r0 s0 = some o → g_W K s0 [(0, g_r 3 r0)] [] 0 (g_jV o) := by
  intro r0 s0 h
  unfold f_Ch_lookAtParts at h
  refine r_iconst (v := 0) hK d_Ch_lookAtParts_0 (by decide) ?_
  refine r_istore_n (ls1 := [(1, g_i 0), (0, g_r 3 r0)]) hK d_Ch_lookAtParts_1 rfl (by rw [hN]; decide) rfl ?_
  exact r_sub [1, 0] rfl (t_Ch_lookAtParts_2 hK hN hD _ _ _ _ h)
theorem c_Ch_lookAtParts (l : Launch) (G : g_G) (r0 : Option Nat) (u : g_St) (o : (Unit × g_St)) (h : f_Ch_lookAtParts r0 u = some o) : g_Con l G y_Ch_lookAtParts b_Ch_lookAtParts 6 (Option.none : Option Jvm.ClassFile.FieldType) 7 [g_r 3 r0] u (g_jV o) :=
  g_Con.of rfl rfl (by decide +kernel) (Nat.le_of_ble_eq_true rfl) (fun K hK hN hD hX => t_Ch_lookAtParts_0 hK hN hD _ _ h)
def f_Ch_lookAtSources_152 (k118 : Option Nat → Int32 → Option Nat → Int32 → Int32 → g_St → Option (Unit × g_St)) (r0 : Option Nat) (x1 : Int32) (r2 : Option Nat) (x4 : Int32) (x5 : Int32) (r0s : Option Nat) (x1s : Int32) (s0 : g_St) : Option (Unit × g_St) :=
  g_gI s0 265 r2 fun i1 =>
  g_c (g_nn r0s (f_Ch_note r0s x1s i1 s0)) fun _ s3 =>
  k118 r0 x1 r2 x4 (x5 + 1) s3
def f_Ch_lookAtSources_118 (k2 : Option Nat → Int32 → g_St → Option (Unit × g_St)) : Nat → Option Nat → Int32 → Option Nat → Int32 → Int32 → g_St → Option (Unit × g_St)
  | 0, _, _, _, _, _, _ => none
  | n + 1, r0, x1, r2, x4, x5, s0 =>
    if x4 ≤ x5 then
      k2 r0 (x1 + 1) s0
    else
      g_gR s0 9 r2 fun p1 =>
      g_gR s0 392 p1 fun p2 =>
      g_aR s0 p2 x5 fun p3 =>
      g_gL s0 329 p3 fun j4 =>
      g_gL s0 329 r2 fun j5 =>
      if j4 = j5 then
        f_Ch_lookAtSources_152 (f_Ch_lookAtSources_118 k2 n) r0 x1 r2 x4 x5 r0 1 s0
      else
        f_Ch_lookAtSources_152 (f_Ch_lookAtSources_118 k2 n) r0 x1 r2 x4 x5 r0 0 s0
def f_Ch_lookAtSources_85 (k2 : Option Nat → Int32 → g_St → Option (Unit × g_St)) (r0 : Option Nat) (x1 : Int32) (r2 : Option Nat) (r0s : Option Nat) (x1s : Int32) (s0 : g_St) : Option (Unit × g_St) :=
  g_gI s0 137 r2 fun i1 =>
  g_c (g_nn r0s (f_Ch_note r0s x1s i1 s0)) fun _ s3 =>
  g_c (g_nn r2 (f_So_isInner r2 s3)) fun i4 s5 =>
  if i4 = 0 then
    g_gI s5 73 r2 fun i6 =>
    f_Ch_lookAtSources_118 k2 200000 r0 x1 r2 i6 0 s5
  else
    g_gR s5 9 r2 fun p7 =>
    g_gI s5 456 p7 fun i8 =>
    f_Ch_lookAtSources_118 k2 200000 r0 x1 r2 i8 0 s5
def f_Ch_lookAtSources_60 (k2 : Option Nat → Int32 → g_St → Option (Unit × g_St)) (r0 : Option Nat) (x1 : Int32) (r2 : Option Nat) (x0s : Int32) (s0 : g_St) : Option (Unit × g_St) :=
  if x0s = 0 then
    g_gI s0 393 r2 fun i1 =>
    if 0 ≤ i1 then
      f_Ch_lookAtSources_85 k2 r0 x1 r2 r0 0 s0
    else
      g_gI s0 457 r2 fun i2 =>
      if 0 ≤ i2 then
        f_Ch_lookAtSources_85 k2 r0 x1 r2 r0 0 s0
      else
        f_Ch_lookAtSources_85 k2 r0 x1 r2 r0 1 s0
  else
    f_Ch_lookAtSources_85 k2 r0 x1 r2 r0 1 s0
def f_Ch_lookAtSources_2 : Nat → Option Nat → Int32 → g_St → Option (Unit × g_St)
  | 0, _, _, _ => none
  | n + 1, r0, x1, s0 =>
    g_gR s0 3 r0 fun p1 =>
    g_gR s0 518 p1 fun p2 =>
    g_c (g_nn p2 (f_Al_size p2 s0)) fun i3 s4 =>
    if i3 ≤ x1 then
      some ((), s4)
    else
      g_gR s4 3 r0 fun p5 =>
      g_gR s4 518 p5 fun p6 =>
      g_c (g_nn p6 (f_Al_get p6 x1 s4)) fun p7 s8 =>
      g_cast 9 p7 (
      g_gR s8 3 r0 fun p9 =>
      g_gI s8 134 p9 fun i10 =>
      if i10 = 0 then
        g_gI s8 393 p7 fun i11 =>
        g_gR s8 9 p7 fun p12 =>
        g_gI s8 8 p12 fun i13 =>
        if i11 < i13 then
          f_Ch_lookAtSources_60 (f_Ch_lookAtSources_2 n) r0 x1 p7 0 s8
        else
          f_Ch_lookAtSources_60 (f_Ch_lookAtSources_2 n) r0 x1 p7 1 s8
      else
        f_Ch_lookAtSources_60 (f_Ch_lookAtSources_2 n) r0 x1 p7 0 s8)
def f_Ch_lookAtSources (r0 : Option Nat) (s0 : g_St) : Option (Unit × g_St) :=
  f_Ch_lookAtSources_2 200000 r0 0 s0
set_option maxHeartbeats 4000000 in
set_option maxRecDepth 100000 in
theorem t_Ch_lookAtSources_152 {K : g_C} {o : (Unit × g_St)} (hK : g_OK K b_Ch_lookAtSources "FixpointEngine$Checker" "lookAtSources" (Option.none : Option Jvm.ClassFile.FieldType)) (hN : g_nL K = 6) (hD : g_Kd K = 10) {k118 : Option Nat → Int32 → Option Nat → Int32 → Int32 → g_St → Option (Unit × g_St)} (hk118 : ∀ (r0 : Option Nat) (x1 : Int32) (r2 : Option Nat) (x4 : Int32) (x5 : Int32) (s0 : g_St), k118 r0 x1 r2 x4 x5 s0 = some o → g_W K s0 [(0, g_r 3 r0), (1, g_i x1), (2, g_r 9 r2), (4, g_i x4), (5, g_i x5)] [] 118 (g_jV o)) : ∀ (r0 : Option Nat) (x1 : Int32) (r2 : Option Nat) (x4 : Int32) (x5 : Int32) (r0s : Option Nat) (x1s : Int32) (s0 : g_St), f_Ch_lookAtSources_152 k118 r0 x1 r2 x4 x5 r0s x1s s0 = some o → g_W K s0 [(0, g_r 3 r0), (1, g_i x1), (2, g_r 9 r2), (4, g_i x4), (5, g_i x5)] [g_i x1s, g_r 3 r0s] 152 (g_jV o) := by
  intro r0 x1 r2 x4 x5 r0s x1s s0 h
  unfold f_Ch_lookAtSources_152 at h
  refine r_aload_n hK d_Ch_lookAtSources_152 rfl 2 rfl ?_
  refine r_gI hK fd_So_4 w4_212 d_Ch_lookAtSources_153 h (fun i1 h => ?_)
  refine r_Vv (avL := [g_i x1s, g_i i1]) (st := []) hK ob_Ch rfl w5_192 w5_193 w5_191 w5_194 w1_3 (by decide) pl_Ch_note (by rw [hD]; decide) (Nat.le_of_ble_eq_true rfl) rfl d_Ch_lookAtSources_156 (fun o9 h9 => c_Ch_note _ _ _ _ _ _ o9 h9) h (fun s3 h => ?_)
  refine r_iinc (ls1 := [(5, g_i (x5 + 1)), (0, g_r 3 r0), (1, g_i x1), (2, g_r 9 r2), (4, g_i x4)]) hK d_Ch_lookAtSources_159 4 rfl rfl (by rw [hN]; decide) rfl ?_
  refine r_goto (tgt := 118) hK d_Ch_lookAtSources_162 (by decide) ?_
  exact r_sub [1, 2, 3, 4, 0] rfl (hk118 _ _ _ _ _ _ h)
set_option maxHeartbeats 4000000 in
set_option maxRecDepth 100000 in
theorem t_Ch_lookAtSources_118 {K : g_C} {o : (Unit × g_St)} (hK : g_OK K b_Ch_lookAtSources "FixpointEngine$Checker" "lookAtSources" (Option.none : Option Jvm.ClassFile.FieldType)) (hN : g_nL K = 6) (hD : g_Kd K = 10) {k2 : Option Nat → Int32 → g_St → Option (Unit × g_St)} (hk2 : ∀ (r0 : Option Nat) (x1 : Int32) (s0 : g_St), k2 r0 x1 s0 = some o → g_W K s0 [(0, g_r 3 r0), (1, g_i x1)] [] 2 (g_jV o)) : ∀ (n : Nat) (r0 : Option Nat) (x1 : Int32) (r2 : Option Nat) (x4 : Int32) (x5 : Int32) (s0 : g_St), f_Ch_lookAtSources_118 k2 n r0 x1 r2 x4 x5 s0 = some o → g_W K s0 [(0, g_r 3 r0), (1, g_i x1), (2, g_r 9 r2), (4, g_i x4), (5, g_i x5)] [] 118 (g_jV o) := by
  intro n
  induction n with
  | zero =>
    intro r0 x1 r2 x4 x5 s0 h
    cases h
  | succ n ih =>
    intro r0 x1 r2 x4 x5 s0 h
    unfold f_Ch_lookAtSources_118 at h
    refine r_iload hK d_Ch_lookAtSources_118 4 rfl ?_
    refine r_iload hK d_Ch_lookAtSources_120 3 rfl ?_
    refine r_if_icmpge (tgt := 165) hK d_Ch_lookAtSources_122 (by decide) h (fun h => ?_) (fun h => ?_)
    · refine r_iinc (ls1 := [(1, g_i (x1 + 1)), (0, g_r 3 r0), (2, g_r 9 r2), (4, g_i x4), (5, g_i x5)]) hK d_Ch_lookAtSources_165 1 rfl rfl (by rw [hN]; decide) rfl ?_
      refine r_goto (tgt := 2) hK d_Ch_lookAtSources_168 (by decide) ?_
      exact r_sub [1, 0] rfl (hk2 _ _ _ h)
    · refine r_aload_n hK d_Ch_lookAtSources_125 rfl 0 rfl ?_
      refine r_aload_n hK d_Ch_lookAtSources_126 rfl 2 rfl ?_
      refine r_gR hK fd_So_0 w4_205 d_Ch_lookAtSources_127 h (fun p1 h => ?_)
      refine r_gR hK fd_Se_6 w4_1 d_Ch_lookAtSources_130 h (fun p2 h => ?_)
      refine r_iload hK d_Ch_lookAtSources_133 4 rfl ?_
      refine r_aaload hK rfl ar_27 rfl d_Ch_lookAtSources_135 h (fun p3 h => ?_)
      refine r_gL hK fd_So_5 w4_214 d_Ch_lookAtSources_136 h (fun j4 h => ?_)
      refine r_aload_n hK d_Ch_lookAtSources_139 rfl 2 rfl ?_
      refine r_gL hK fd_So_5 w4_214 d_Ch_lookAtSources_140 h (fun j5 h => ?_)
      refine r_lifne (tgt := 151) hK d_Ch_lookAtSources_143 d_Ch_lookAtSources_144 (by decide) h (fun h => ?_) (fun h => ?_)
      · refine r_iconst (v := 0) hK d_Ch_lookAtSources_151 (by decide) ?_
        exact r_sub [0, 1, 2, 3, 4] rfl (t_Ch_lookAtSources_152 hK hN hD ih _ _ _ _ _ _ _ _ h)
      · refine r_iconst (v := 1) hK d_Ch_lookAtSources_147 (by decide) ?_
        refine r_goto (tgt := 152) hK d_Ch_lookAtSources_148 (by decide) ?_
        exact r_sub [0, 1, 2, 3, 4] rfl (t_Ch_lookAtSources_152 hK hN hD ih _ _ _ _ _ _ _ _ h)
set_option maxHeartbeats 4000000 in
set_option maxRecDepth 100000 in
theorem t_Ch_lookAtSources_85 {K : g_C} {o : (Unit × g_St)} (hK : g_OK K b_Ch_lookAtSources "FixpointEngine$Checker" "lookAtSources" (Option.none : Option Jvm.ClassFile.FieldType)) (hN : g_nL K = 6) (hD : g_Kd K = 10) {k2 : Option Nat → Int32 → g_St → Option (Unit × g_St)} (hk2 : ∀ (r0 : Option Nat) (x1 : Int32) (s0 : g_St), k2 r0 x1 s0 = some o → g_W K s0 [(0, g_r 3 r0), (1, g_i x1)] [] 2 (g_jV o)) : ∀ (r0 : Option Nat) (x1 : Int32) (r2 : Option Nat) (r0s : Option Nat) (x1s : Int32) (s0 : g_St), f_Ch_lookAtSources_85 k2 r0 x1 r2 r0s x1s s0 = some o → g_W K s0 [(0, g_r 3 r0), (1, g_i x1), (2, g_r 9 r2)] [g_i x1s, g_r 3 r0s] 85 (g_jV o) := by
  intro r0 x1 r2 r0s x1s s0 h
  unfold f_Ch_lookAtSources_85 at h
  refine r_aload_n hK d_Ch_lookAtSources_85 rfl 2 rfl ?_
  refine r_gI hK fd_So_2 w4_209 d_Ch_lookAtSources_86 h (fun i1 h => ?_)
  refine r_Vv (avL := [g_i x1s, g_i i1]) (st := []) hK ob_Ch rfl w5_192 w5_193 w5_191 w5_194 w1_3 (by decide) pl_Ch_note (by rw [hD]; decide) (Nat.le_of_ble_eq_true rfl) rfl d_Ch_lookAtSources_89 (fun o9 h9 => c_Ch_note _ _ _ _ _ _ o9 h9) h (fun s3 h => ?_)
  refine r_aload_n hK d_Ch_lookAtSources_92 rfl 2 rfl ?_
  refine r_Vi (avL := []) (st := []) hK ob_So rfl w5_201 w5_202 w5_200 w5_203 w1_29 (by decide) pl_So_isInner (by rw [hD]; decide) (Nat.le_of_ble_eq_true rfl) rfl d_Ch_lookAtSources_93 (fun o9 h9 => c_So_isInner _ _ _ _ o9 h9) h (fun i4 s5 h => ?_)
  refine r_ifeq (tgt := 109) hK d_Ch_lookAtSources_96 (by decide) h (fun h => ?_) (fun h => ?_)
  · refine r_aload_n hK d_Ch_lookAtSources_109 rfl 2 rfl ?_
    refine r_gI hK fd_So_1 w4_207 d_Ch_lookAtSources_110 h (fun i6 h => ?_)
    refine r_istore (ls1 := [(4, g_i i6), (0, g_r 3 r0), (1, g_i x1), (2, g_r 9 r2)]) hK d_Ch_lookAtSources_113 (by rw [hN]; decide) rfl ?_
    refine r_iconst (v := 0) hK d_Ch_lookAtSources_115 (by decide) ?_
    refine r_istore (ls1 := [(5, g_i 0), (4, g_i i6), (0, g_r 3 r0), (1, g_i x1), (2, g_r 9 r2)]) hK d_Ch_lookAtSources_116 (by rw [hN]; decide) rfl ?_
    exact r_sub [2, 3, 4, 1, 0] rfl (t_Ch_lookAtSources_118 hK hN hD hk2 _ _ _ _ _ _ _ h)
  · refine r_aload_n hK d_Ch_lookAtSources_99 rfl 2 rfl ?_
    refine r_gR hK fd_So_0 w4_205 d_Ch_lookAtSources_100 h (fun p7 h => ?_)
    refine r_gI hK fd_Se_7 w4_4 d_Ch_lookAtSources_103 h (fun i8 h => ?_)
    refine r_goto (tgt := 113) hK d_Ch_lookAtSources_106 (by decide) ?_
    refine r_istore (ls1 := [(4, g_i i8), (0, g_r 3 r0), (1, g_i x1), (2, g_r 9 r2)]) hK d_Ch_lookAtSources_113 (by rw [hN]; decide) rfl ?_
    refine r_iconst (v := 0) hK d_Ch_lookAtSources_115 (by decide) ?_
    refine r_istore (ls1 := [(5, g_i 0), (4, g_i i8), (0, g_r 3 r0), (1, g_i x1), (2, g_r 9 r2)]) hK d_Ch_lookAtSources_116 (by rw [hN]; decide) rfl ?_
    exact r_sub [2, 3, 4, 1, 0] rfl (t_Ch_lookAtSources_118 hK hN hD hk2 _ _ _ _ _ _ _ h)
set_option maxHeartbeats 4000000 in
set_option maxRecDepth 100000 in
theorem t_Ch_lookAtSources_60 {K : g_C} {o : (Unit × g_St)} (hK : g_OK K b_Ch_lookAtSources "FixpointEngine$Checker" "lookAtSources" (Option.none : Option Jvm.ClassFile.FieldType)) (hN : g_nL K = 6) (hD : g_Kd K = 10) {k2 : Option Nat → Int32 → g_St → Option (Unit × g_St)} (hk2 : ∀ (r0 : Option Nat) (x1 : Int32) (s0 : g_St), k2 r0 x1 s0 = some o → g_W K s0 [(0, g_r 3 r0), (1, g_i x1)] [] 2 (g_jV o)) : ∀ (r0 : Option Nat) (x1 : Int32) (r2 : Option Nat) (x0s : Int32) (s0 : g_St), f_Ch_lookAtSources_60 k2 r0 x1 r2 x0s s0 = some o → g_W K s0 [(0, g_r 3 r0), (1, g_i x1), (2, g_r 9 r2)] [g_i x0s] 60 (g_jV o) := by
  intro r0 x1 r2 x0s s0 h
  unfold f_Ch_lookAtSources_60 at h
  refine r_istore_n (ls1 := [(3, g_i x0s), (0, g_r 3 r0), (1, g_i x1), (2, g_r 9 r2)]) hK d_Ch_lookAtSources_60 rfl (by rw [hN]; decide) rfl ?_
  refine r_aload_n hK d_Ch_lookAtSources_61 rfl 1 rfl ?_
  refine r_iload_n hK d_Ch_lookAtSources_62 rfl 0 rfl ?_
  refine r_ifne (tgt := 80) hK d_Ch_lookAtSources_63 (by decide) h (fun h => ?_) (fun h => ?_)
  · refine r_iconst (v := 1) hK d_Ch_lookAtSources_80 (by decide) ?_
    refine r_goto (tgt := 85) hK d_Ch_lookAtSources_81 (by decide) ?_
    exact r_sub [1, 2, 3] rfl (t_Ch_lookAtSources_85 hK hN hD hk2 _ _ _ _ _ _ h)
  · refine r_aload_n hK d_Ch_lookAtSources_66 rfl 3 rfl ?_
    refine r_gI hK fd_So_6 w4_217 d_Ch_lookAtSources_67 h (fun i1 h => ?_)
    refine r_ifge (tgt := 84) hK d_Ch_lookAtSources_70 (by decide) h (fun h => ?_) (fun h => ?_)
    · refine r_iconst (v := 0) hK d_Ch_lookAtSources_84 (by decide) ?_
      exact r_sub [1, 2, 3] rfl (t_Ch_lookAtSources_85 hK hN hD hk2 _ _ _ _ _ _ h)
    · refine r_aload_n hK d_Ch_lookAtSources_73 rfl 3 rfl ?_
      refine r_gI hK fd_So_7 w4_220 d_Ch_lookAtSources_74 h (fun i2 h => ?_)
      refine r_ifge (tgt := 84) hK d_Ch_lookAtSources_77 (by decide) h (fun h => ?_) (fun h => ?_)
      · refine r_iconst (v := 0) hK d_Ch_lookAtSources_84 (by decide) ?_
        exact r_sub [1, 2, 3] rfl (t_Ch_lookAtSources_85 hK hN hD hk2 _ _ _ _ _ _ h)
      · refine r_iconst (v := 1) hK d_Ch_lookAtSources_80 (by decide) ?_
        refine r_goto (tgt := 85) hK d_Ch_lookAtSources_81 (by decide) ?_
        exact r_sub [1, 2, 3] rfl (t_Ch_lookAtSources_85 hK hN hD hk2 _ _ _ _ _ _ h)
set_option maxHeartbeats 4000000 in
set_option maxRecDepth 100000 in
theorem t_Ch_lookAtSources_2 {K : g_C} {o : (Unit × g_St)} (hK : g_OK K b_Ch_lookAtSources "FixpointEngine$Checker" "lookAtSources" (Option.none : Option Jvm.ClassFile.FieldType)) (hN : g_nL K = 6) (hD : g_Kd K = 10) : ∀ (n : Nat) (r0 : Option Nat) (x1 : Int32) (s0 : g_St), f_Ch_lookAtSources_2 n r0 x1 s0 = some o → g_W K s0 [(0, g_r 3 r0), (1, g_i x1)] [] 2 (g_jV o) := by
  intro n
  induction n with
  | zero =>
    intro r0 x1 s0 h
    cases h
  | succ n ih =>
    intro r0 x1 s0 h
    unfold f_Ch_lookAtSources_2 at h
    refine r_iload_n hK d_Ch_lookAtSources_2 rfl 1 rfl ?_
    refine r_aload_n hK d_Ch_lookAtSources_3 rfl 0 rfl ?_
    refine r_gR hK fd_Ch_0 w1_98 d_Ch_lookAtSources_4 h (fun p1 h => ?_)
    refine r_gR hK fd_Qu_8 w3_47 d_Ch_lookAtSources_7 h (fun p2 h => ?_)
    refine r_Vi (avL := []) (st := [g_i x1]) hK ob_Al rfl w5_129 w5_130 w5_128 w5_131 w1_21 (by decide) pl_Al_size (by rw [hD]; decide) (Nat.le_of_ble_eq_true rfl) rfl d_Ch_lookAtSources_10 (fun o9 h9 => c_Al_size _ _ _ _ o9 h9) h (fun i3 s4 h => ?_)
    refine r_if_icmpge (tgt := 171) hK d_Ch_lookAtSources_13 (by decide) h (fun h => ?_) (fun h => ?_)
    · exact r_return hK d_Ch_lookAtSources_171 h
    · refine r_aload_n hK d_Ch_lookAtSources_16 rfl 0 rfl ?_
      refine r_gR hK fd_Ch_0 w1_98 d_Ch_lookAtSources_17 h (fun p5 h => ?_)
      refine r_gR hK fd_Qu_8 w3_47 d_Ch_lookAtSources_20 h (fun p6 h => ?_)
      refine r_iload_n hK d_Ch_lookAtSources_23 rfl 1 rfl ?_
      refine r_Vr (avL := [g_i x1]) (st := []) hK ob_Al rfl w5_133 w5_134 w5_132 w5_135 w1_21 (by decide) pl_Al_get (by rw [hD]; decide) (Nat.le_of_ble_eq_true rfl) rfl d_Ch_lookAtSources_24 (fun o9 h9 => c_Al_get _ _ _ _ _ o9 h9) h (fun p7 s8 h => ?_)
      refine r_cast hK ob_So rfl rfl w5_144 w9_233 d_Ch_lookAtSources_27 h (fun h => ?_)
      refine r_astore_n (ls1 := [(2, g_r 9 p7), (0, g_r 3 r0), (1, g_i x1)]) hK d_Ch_lookAtSources_30 rfl (by rw [hN]; decide) rfl ?_
      refine r_aload_n hK d_Ch_lookAtSources_31 rfl 1 rfl ?_
      refine r_gR hK fd_Ch_0 w1_98 d_Ch_lookAtSources_32 h (fun p9 h => ?_)
      refine r_gI hK fd_Qu_2 w3_30 d_Ch_lookAtSources_35 h (fun i10 h => ?_)
      refine r_ifne (tgt := 59) hK d_Ch_lookAtSources_38 (by decide) h (fun h => ?_) (fun h => ?_)
      · refine r_iconst (v := 0) hK d_Ch_lookAtSources_59 (by decide) ?_
        exact r_sub [1, 2, 0] rfl (t_Ch_lookAtSources_60 hK hN hD ih _ _ _ _ _ h)
      · refine r_aload_n hK d_Ch_lookAtSources_41 rfl 0 rfl ?_
        refine r_gI hK fd_So_6 w4_217 d_Ch_lookAtSources_42 h (fun i11 h => ?_)
        refine r_aload_n hK d_Ch_lookAtSources_45 rfl 0 rfl ?_
        refine r_gR hK fd_So_0 w4_205 d_Ch_lookAtSources_46 h (fun p12 h => ?_)
        refine r_gI hK fd_Se_0 w3_222 d_Ch_lookAtSources_49 h (fun i13 h => ?_)
        refine r_if_icmplt (tgt := 59) hK d_Ch_lookAtSources_52 (by decide) h (fun h => ?_) (fun h => ?_)
        · refine r_iconst (v := 0) hK d_Ch_lookAtSources_59 (by decide) ?_
          exact r_sub [1, 2, 0] rfl (t_Ch_lookAtSources_60 hK hN hD ih _ _ _ _ _ h)
        · refine r_iconst (v := 1) hK d_Ch_lookAtSources_55 (by decide) ?_
          refine r_goto (tgt := 60) hK d_Ch_lookAtSources_56 (by decide) ?_
          exact r_sub [1, 2, 0] rfl (t_Ch_lookAtSources_60 hK hN hD ih _ _ _ _ _ h)
set_option maxHeartbeats 4000000 in
set_option maxRecDepth 100000 in
theorem t_Ch_lookAtSources_0 {K : g_C} {o : (Unit × g_St)} (hK : g_OK K b_Ch_lookAtSources "FixpointEngine$Checker" "lookAtSources" (Option.none : Option Jvm.ClassFile.FieldType)) (hN : g_nL K = 6) (hD : g_Kd K = 10) : ∀ (r0 : Option Nat) (s0 : g_St), f_Ch_lookAtSources r0 s0 = some o → g_W K s0 [(0, g_r 3 r0)] [] 0 (g_jV o) := by
  intro r0 s0 h
  unfold f_Ch_lookAtSources at h
  refine r_iconst (v := 0) hK d_Ch_lookAtSources_0 (by decide) ?_
  refine r_istore_n (ls1 := [(1, g_i 0), (0, g_r 3 r0)]) hK d_Ch_lookAtSources_1 rfl (by rw [hN]; decide) rfl ?_
  exact r_sub [1, 0] rfl (t_Ch_lookAtSources_2 hK hN hD _ _ _ _ h)
theorem c_Ch_lookAtSources (l : Launch) (G : g_G) (r0 : Option Nat) (u : g_St) (o : (Unit × g_St)) (h : f_Ch_lookAtSources r0 u = some o) : g_Con l G y_Ch_lookAtSources b_Ch_lookAtSources 6 (Option.none : Option Jvm.ClassFile.FieldType) 10 [g_r 3 r0] u (g_jV o) :=
  g_Con.of rfl rfl (by decide +kernel) (Nat.le_of_ble_eq_true rfl) (fun K hK hN hD hX => t_Ch_lookAtSources_0 hK hN hD _ _ h)
def f_Ch_lookAtColumns_59 (k2 : Option Nat → Int32 → g_St → Option (Unit × g_St)) (r0 : Option Nat) (x1 : Int32) (r2 : Option Nat) (r0s : Option Nat) (x1s : Int32) (s0 : g_St) : Option (Unit × g_St) :=
  g_gI s0 75 r2 fun i1 =>
  g_c (g_nn r0s (f_Ch_note r0s x1s i1 s0)) fun _ s3 =>
  k2 r0 (x1 + 1) s3
def f_Ch_lookAtColumns_2 : Nat → Option Nat → Int32 → g_St → Option (Unit × g_St)
  | 0, _, _, _ => none
  | n + 1, r0, x1, s0 =>
    g_gR s0 3 r0 fun p1 =>
    g_gR s0 582 p1 fun p2 =>
    g_c (g_nn p2 (f_Al_size p2 s0)) fun i3 s4 =>
    if i3 ≤ x1 then
      some ((), s4)
    else
      g_gR s4 3 r0 fun p5 =>
      g_gR s4 582 p5 fun p6 =>
      g_c (g_nn p6 (f_Al_get p6 x1 s4)) fun p7 s8 =>
      g_cast 11 p7 (
      g_gI s8 587 p7 fun i9 =>
      if i9 < 0 then
        f_Ch_lookAtColumns_59 (f_Ch_lookAtColumns_2 n) r0 x1 p7 r0 1 s8
      else
        g_gI s8 587 p7 fun i10 =>
        if i10 = 4 then
          g_gI s8 459 p7 fun i11 =>
          if i11 = 0 then
            f_Ch_lookAtColumns_59 (f_Ch_lookAtColumns_2 n) r0 x1 p7 r0 1 s8
          else
            f_Ch_lookAtColumns_59 (f_Ch_lookAtColumns_2 n) r0 x1 p7 r0 0 s8
        else
          f_Ch_lookAtColumns_59 (f_Ch_lookAtColumns_2 n) r0 x1 p7 r0 0 s8)
def f_Ch_lookAtColumns (r0 : Option Nat) (s0 : g_St) : Option (Unit × g_St) :=
  f_Ch_lookAtColumns_2 200000 r0 0 s0
set_option maxHeartbeats 4000000 in
set_option maxRecDepth 100000 in
theorem t_Ch_lookAtColumns_59 {K : g_C} {o : (Unit × g_St)} (hK : g_OK K b_Ch_lookAtColumns "FixpointEngine$Checker" "lookAtColumns" (Option.none : Option Jvm.ClassFile.FieldType)) (hN : g_nL K = 3) (hD : g_Kd K = 10) {k2 : Option Nat → Int32 → g_St → Option (Unit × g_St)} (hk2 : ∀ (r0 : Option Nat) (x1 : Int32) (s0 : g_St), k2 r0 x1 s0 = some o → g_W K s0 [(0, g_r 3 r0), (1, g_i x1)] [] 2 (g_jV o)) : ∀ (r0 : Option Nat) (x1 : Int32) (r2 : Option Nat) (r0s : Option Nat) (x1s : Int32) (s0 : g_St), f_Ch_lookAtColumns_59 k2 r0 x1 r2 r0s x1s s0 = some o → g_W K s0 [(0, g_r 3 r0), (1, g_i x1), (2, g_r 11 r2)] [g_i x1s, g_r 3 r0s] 59 (g_jV o) := by
  intro r0 x1 r2 r0s x1s s0 h
  unfold f_Ch_lookAtColumns_59 at h
  refine r_aload_n hK d_Ch_lookAtColumns_59 rfl 2 rfl ?_
  refine r_gI hK fd_Te_1 w4_72 d_Ch_lookAtColumns_60 h (fun i1 h => ?_)
  refine r_Vv (avL := [g_i x1s, g_i i1]) (st := []) hK ob_Ch rfl w5_192 w5_193 w5_191 w5_194 w1_3 (by decide) pl_Ch_note (by rw [hD]; decide) (Nat.le_of_ble_eq_true rfl) rfl d_Ch_lookAtColumns_63 (fun o9 h9 => c_Ch_note _ _ _ _ _ _ o9 h9) h (fun s3 h => ?_)
  refine r_iinc (ls1 := [(1, g_i (x1 + 1)), (0, g_r 3 r0), (2, g_r 11 r2)]) hK d_Ch_lookAtColumns_66 1 rfl rfl (by rw [hN]; decide) rfl ?_
  refine r_goto (tgt := 2) hK d_Ch_lookAtColumns_69 (by decide) ?_
  exact r_sub [1, 0] rfl (hk2 _ _ _ h)
set_option maxHeartbeats 4000000 in
set_option maxRecDepth 100000 in
theorem t_Ch_lookAtColumns_2 {K : g_C} {o : (Unit × g_St)} (hK : g_OK K b_Ch_lookAtColumns "FixpointEngine$Checker" "lookAtColumns" (Option.none : Option Jvm.ClassFile.FieldType)) (hN : g_nL K = 3) (hD : g_Kd K = 10) : ∀ (n : Nat) (r0 : Option Nat) (x1 : Int32) (s0 : g_St), f_Ch_lookAtColumns_2 n r0 x1 s0 = some o → g_W K s0 [(0, g_r 3 r0), (1, g_i x1)] [] 2 (g_jV o) := by
  intro n
  induction n with
  | zero =>
    intro r0 x1 s0 h
    cases h
  | succ n ih =>
    intro r0 x1 s0 h
    unfold f_Ch_lookAtColumns_2 at h
    refine r_iload_n hK d_Ch_lookAtColumns_2 rfl 1 rfl ?_
    refine r_aload_n hK d_Ch_lookAtColumns_3 rfl 0 rfl ?_
    refine r_gR hK fd_Ch_0 w1_98 d_Ch_lookAtColumns_4 h (fun p1 h => ?_)
    refine r_gR hK fd_Qu_9 w3_50 d_Ch_lookAtColumns_7 h (fun p2 h => ?_)
    refine r_Vi (avL := []) (st := [g_i x1]) hK ob_Al rfl w5_129 w5_130 w5_128 w5_131 w1_21 (by decide) pl_Al_size (by rw [hD]; decide) (Nat.le_of_ble_eq_true rfl) rfl d_Ch_lookAtColumns_10 (fun o9 h9 => c_Al_size _ _ _ _ o9 h9) h (fun i3 s4 h => ?_)
    refine r_if_icmpge (tgt := 72) hK d_Ch_lookAtColumns_13 (by decide) h (fun h => ?_) (fun h => ?_)
    · exact r_return hK d_Ch_lookAtColumns_72 h
    · refine r_aload_n hK d_Ch_lookAtColumns_16 rfl 0 rfl ?_
      refine r_gR hK fd_Ch_0 w1_98 d_Ch_lookAtColumns_17 h (fun p5 h => ?_)
      refine r_gR hK fd_Qu_9 w3_50 d_Ch_lookAtColumns_20 h (fun p6 h => ?_)
      refine r_iload_n hK d_Ch_lookAtColumns_23 rfl 1 rfl ?_
      refine r_Vr (avL := [g_i x1]) (st := []) hK ob_Al rfl w5_133 w5_134 w5_132 w5_135 w1_21 (by decide) pl_Al_get (by rw [hD]; decide) (Nat.le_of_ble_eq_true rfl) rfl d_Ch_lookAtColumns_24 (fun o9 h9 => c_Al_get _ _ _ _ _ o9 h9) h (fun p7 s8 h => ?_)
      refine r_cast hK ob_Te rfl rfl w5_154 w9_234 d_Ch_lookAtColumns_27 h (fun h => ?_)
      refine r_astore_n (ls1 := [(2, g_r 11 p7), (0, g_r 3 r0), (1, g_i x1)]) hK d_Ch_lookAtColumns_30 rfl (by rw [hN]; decide) rfl ?_
      refine r_aload_n hK d_Ch_lookAtColumns_31 rfl 1 rfl ?_
      refine r_aload_n hK d_Ch_lookAtColumns_32 rfl 0 rfl ?_
      refine r_gI hK fd_Te_9 w4_89 d_Ch_lookAtColumns_33 h (fun i9 h => ?_)
      refine r_iflt (tgt := 54) hK d_Ch_lookAtColumns_36 (by decide) h (fun h => ?_) (fun h => ?_)
      · refine r_iconst (v := 1) hK d_Ch_lookAtColumns_54 (by decide) ?_
        refine r_goto (tgt := 59) hK d_Ch_lookAtColumns_55 (by decide) ?_
        exact r_sub [1, 2, 0] rfl (t_Ch_lookAtColumns_59 hK hN hD ih _ _ _ _ _ _ h)
      · refine r_aload_n hK d_Ch_lookAtColumns_39 rfl 0 rfl ?_
        refine r_gI hK fd_Te_9 w4_89 d_Ch_lookAtColumns_40 h (fun i10 h => ?_)
        refine r_iconst (v := 4) hK d_Ch_lookAtColumns_43 (by decide) ?_
        refine r_if_icmpne (tgt := 58) hK d_Ch_lookAtColumns_44 (by decide) h (fun h => ?_) (fun h => ?_)
        · refine r_iconst (v := 0) hK d_Ch_lookAtColumns_58 (by decide) ?_
          exact r_sub [1, 2, 0] rfl (t_Ch_lookAtColumns_59 hK hN hD ih _ _ _ _ _ _ h)
        · refine r_aload_n hK d_Ch_lookAtColumns_47 rfl 0 rfl ?_
          refine r_gI hK fd_Te_7 w4_83 d_Ch_lookAtColumns_48 h (fun i11 h => ?_)
          refine r_ifne (tgt := 58) hK d_Ch_lookAtColumns_51 (by decide) h (fun h => ?_) (fun h => ?_)
          · refine r_iconst (v := 0) hK d_Ch_lookAtColumns_58 (by decide) ?_
            exact r_sub [1, 2, 0] rfl (t_Ch_lookAtColumns_59 hK hN hD ih _ _ _ _ _ _ h)
          · refine r_iconst (v := 1) hK d_Ch_lookAtColumns_54 (by decide) ?_
            refine r_goto (tgt := 59) hK d_Ch_lookAtColumns_55 (by decide) ?_
            exact r_sub [1, 2, 0] rfl (t_Ch_lookAtColumns_59 hK hN hD ih _ _ _ _ _ _ h)
set_option maxHeartbeats 4000000 in
set_option maxRecDepth 100000 in
theorem t_Ch_lookAtColumns_0 {K : g_C} {o : (Unit × g_St)} (hK : g_OK K b_Ch_lookAtColumns "FixpointEngine$Checker" "lookAtColumns" (Option.none : Option Jvm.ClassFile.FieldType)) (hN : g_nL K = 3) (hD : g_Kd K = 10) : ∀ (r0 : Option Nat) (s0 : g_St), f_Ch_lookAtColumns r0 s0 = some o → g_W K s0 [(0, g_r 3 r0)] [] 0 (g_jV o) := by
  intro r0 s0 h
  unfold f_Ch_lookAtColumns at h
  refine r_iconst (v := 0) hK d_Ch_lookAtColumns_0 (by decide) ?_
  refine r_istore_n (ls1 := [(1, g_i 0), (0, g_r 3 r0)]) hK d_Ch_lookAtColumns_1 rfl (by rw [hN]; decide) rfl ?_
  exact r_sub [1, 0] rfl (t_Ch_lookAtColumns_2 hK hN hD _ _ _ _ h)
theorem c_Ch_lookAtColumns (l : Launch) (G : g_G) (r0 : Option Nat) (u : g_St) (o : (Unit × g_St)) (h : f_Ch_lookAtColumns r0 u = some o) : g_Con l G y_Ch_lookAtColumns b_Ch_lookAtColumns 3 (Option.none : Option Jvm.ClassFile.FieldType) 10 [g_r 3 r0] u (g_jV o) :=
  g_Con.of rfl rfl (by decide +kernel) (Nat.le_of_ble_eq_true rfl) (fun K hK hN hD hX => t_Ch_lookAtColumns_0 hK hN hD _ _ h)
