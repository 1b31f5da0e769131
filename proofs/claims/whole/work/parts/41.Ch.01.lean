def f_Ch_init (r0 : Option Nat) (s0 : g_St) : Option (Unit × g_St) :=
  g_nn r0 (
  some ((), s0))
set_option maxHeartbeats 4000000 in
set_option maxRecDepth 100000 in
theorem t_Ch_init_0 {K : g_C} {o : (Unit × g_St)} (hK : g_OK K b_Ch_init "FixpointEngine$Checker" "<init>" (Option.none : Option Jvm.ClassFile.FieldType)) (hN : g_nL K = 1) (hD : g_Kd K = 2) : ∀ (r0 : Option Nat) (s0 : g_St), f_Ch_init r0 s0 = some o → g_W K s0 [(0, g_r 3 r0)] [] 0 (g_jV o) := by
  intro r0 s0 h
  unfold f_Ch_init at h
  refine r_aload_n hK d_Ch_init_0 rfl 0 rfl ?_
  refine r_objinit hK w1_97 (by rw [hD]; decide) (Nat.le_of_ble_eq_true rfl) d_Ch_init_1 h (fun h => ?_)
  exact r_return hK d_Ch_init_4 h
theorem c_Ch_init (l : Launch) (G : g_G) (r0 : Option Nat) (u : g_St) (o : (Unit × g_St)) (h : f_Ch_init r0 u = some o) : g_Con l G y_Ch_init b_Ch_init 1 (Option.none : Option Jvm.ClassFile.FieldType) 2 [g_r 3 r0] u (g_jV o) :=
  g_Con.of rfl rfl (by decide +kernel) (Nat.le_of_ble_eq_true rfl) (fun K hK hN hD => t_Ch_init_0 hK hN hD _ _ h)
def f_Ch_knownSource_2 : Nat → Option Nat → Int32 → g_St → Option (Option Nat × g_St)
  | 0, _, _, _ => none
  | n + 1, r0, x1, s0 =>
    g_gR s0 139 r0 fun p1 =>
    g_gI s0 456 p1 fun i2 =>
    if i2 ≤ x1 then
      g_gR s0 203 r0 fun p3 =>
      if p3 = none then
        some (none, s0)
      else
        g_gR s0 203 r0 fun p4 =>
        g_gR s0 202 p4 fun p5 =>
        if p5 = none then
          some (none, s0)
        else
          g_gR s0 203 r0 fun p6 =>
          g_gR s0 202 p6 fun p7 =>
          g_gL s0 329 p7 fun j8 =>
          g_gL s0 331 r0 fun j9 =>
          if j8 = j9 then
            g_gR s0 203 r0 fun p10 =>
            g_gR s0 202 p10 fun p11 =>
            some (p11, s0)
          else
            some (none, s0)
    else
      g_gR s0 139 r0 fun p12 =>
      g_gR s0 392 p12 fun p13 =>
      g_aR s0 p13 x1 fun p14 =>
      g_gL s0 329 p14 fun j15 =>
      g_gL s0 331 r0 fun j16 =>
      if j15 = j16 then
        g_gR s0 139 r0 fun p17 =>
        g_gR s0 392 p17 fun p18 =>
        g_aR s0 p18 x1 fun p19 =>
        some (p19, s0)
      else
        f_Ch_knownSource_2 n r0 (x1 + 1) s0
def f_Ch_knownSource (r0 : Option Nat) (s0 : g_St) : Option (Option Nat × g_St) :=
  f_Ch_knownSource_2 100000 r0 0 s0
set_option maxHeartbeats 4000000 in
set_option maxRecDepth 100000 in
theorem t_Ch_knownSource_2 {K : g_C} {o : (Option Nat × g_St)} (hK : g_OK K b_Ch_knownSource "FixpointEngine$Checker" "knownSource" (Option.some (Jvm.ClassFile.FieldType.object "FixpointEngine$Source"))) (hN : g_nL K = 2) (hD : g_Kd K = 1) : ∀ (n : Nat) (r0 : Option Nat) (x1 : Int32) (s0 : g_St), f_Ch_knownSource_2 n r0 x1 s0 = some o → g_W K s0 [(0, g_r 11 r0), (1, g_i x1)] [] 2 (g_jR 9 o) := by
  intro n
  induction n with
  | zero =>
    intro r0 x1 s0 h
    cases h
  | succ n ih =>
    intro r0 x1 s0 h
    unfold f_Ch_knownSource_2 at h
    refine r_iload_n hK d_Ch_knownSource_2 rfl 1 rfl ?_
    refine r_aload_n hK d_Ch_knownSource_3 rfl 0 rfl ?_
    refine r_gR hK fd_Te_2 w4_74 d_Ch_knownSource_4 h (fun p1 h => ?_)
    refine r_gI hK fd_Se_7 w4_4 d_Ch_knownSource_7 h (fun i2 h => ?_)
    refine r_if_icmpge (tgt := 49) hK d_Ch_knownSource_10 (by decide) h (fun h => ?_) (fun h => ?_)
    · refine r_aload_n hK d_Ch_knownSource_49 rfl 0 rfl ?_
      refine r_gR hK fd_Te_3 w4_76 d_Ch_knownSource_50 h (fun p3 h => ?_)
      refine r_ifnull (tgt := 84) hK d_Ch_knownSource_53 (by decide) h (fun h => ?_) (fun h => ?_)
      · refine r_null hK 9 d_Ch_knownSource_84 ?_
        exact r_areturn (Or.inl ⟨_, rfl⟩) hK d_Ch_knownSource_85 h
      · refine r_aload_n hK d_Ch_knownSource_56 rfl 0 rfl ?_
        refine r_gR hK fd_Te_3 w4_76 d_Ch_knownSource_57 h (fun p4 h => ?_)
        refine r_gR hK fd_Co_3 w5_40 d_Ch_knownSource_60 h (fun p5 h => ?_)
        refine r_ifnull (tgt := 84) hK d_Ch_knownSource_63 (by decide) h (fun h => ?_) (fun h => ?_)
        · refine r_null hK 9 d_Ch_knownSource_84 ?_
          exact r_areturn (Or.inl ⟨_, rfl⟩) hK d_Ch_knownSource_85 h
        · refine r_aload_n hK d_Ch_knownSource_66 rfl 0 rfl ?_
          refine r_gR hK fd_Te_3 w4_76 d_Ch_knownSource_67 h (fun p6 h => ?_)
          refine r_gR hK fd_Co_3 w5_40 d_Ch_knownSource_70 h (fun p7 h => ?_)
          refine r_gL hK fd_So_5 w4_214 d_Ch_knownSource_73 h (fun j8 h => ?_)
          refine r_aload_n hK d_Ch_knownSource_76 rfl 0 rfl ?_
          refine r_gL hK fd_Te_5 w4_79 d_Ch_knownSource_77 h (fun j9 h => ?_)
          refine r_lifeq (tgt := 86) hK d_Ch_knownSource_80 d_Ch_knownSource_81 (by decide) h (fun h => ?_) (fun h => ?_)
          · refine r_aload_n hK d_Ch_knownSource_86 rfl 0 rfl ?_
            refine r_gR hK fd_Te_3 w4_76 d_Ch_knownSource_87 h (fun p10 h => ?_)
            refine r_gR hK fd_Co_3 w5_40 d_Ch_knownSource_90 h (fun p11 h => ?_)
            exact r_areturn (Or.inl ⟨_, rfl⟩) hK d_Ch_knownSource_93 h
          · refine r_null hK 9 d_Ch_knownSource_84 ?_
            exact r_areturn (Or.inl ⟨_, rfl⟩) hK d_Ch_knownSource_85 h
    · refine r_aload_n hK d_Ch_knownSource_13 rfl 0 rfl ?_
      refine r_gR hK fd_Te_2 w4_74 d_Ch_knownSource_14 h (fun p12 h => ?_)
      refine r_gR hK fd_Se_6 w4_1 d_Ch_knownSource_17 h (fun p13 h => ?_)
      refine r_iload_n hK d_Ch_knownSource_20 rfl 1 rfl ?_
      refine r_aaload hK rfl ar_27 d_Ch_knownSource_21 h (fun p14 h => ?_)
      refine r_gL hK fd_So_5 w4_214 d_Ch_knownSource_22 h (fun j15 h => ?_)
      refine r_aload_n hK d_Ch_knownSource_25 rfl 0 rfl ?_
      refine r_gL hK fd_Te_5 w4_79 d_Ch_knownSource_26 h (fun j16 h => ?_)
      refine r_lifne (tgt := 43) hK d_Ch_knownSource_29 d_Ch_knownSource_30 (by decide) h (fun h => ?_) (fun h => ?_)
      · refine r_iinc (ls1 := [(1, g_i (x1 + 1)), (0, g_r 11 r0)]) hK d_Ch_knownSource_43 1 rfl rfl (by rw [hN]; decide) rfl ?_
        refine r_goto (tgt := 2) hK d_Ch_knownSource_46 (by decide) ?_
        exact r_sub [1, 0] rfl (ih _ _ _ h)
      · refine r_aload_n hK d_Ch_knownSource_33 rfl 0 rfl ?_
        refine r_gR hK fd_Te_2 w4_74 d_Ch_knownSource_34 h (fun p17 h => ?_)
        refine r_gR hK fd_Se_6 w4_1 d_Ch_knownSource_37 h (fun p18 h => ?_)
        refine r_iload_n hK d_Ch_knownSource_40 rfl 1 rfl ?_
        refine r_aaload hK rfl ar_27 d_Ch_knownSource_41 h (fun p19 h => ?_)
        exact r_areturn (Or.inl ⟨_, rfl⟩) hK d_Ch_knownSource_42 h
set_option maxHeartbeats 4000000 in
set_option maxRecDepth 100000 in
theorem t_Ch_knownSource_0 {K : g_C} {o : (Option Nat × g_St)} (hK : g_OK K b_Ch_knownSource "FixpointEngine$Checker" "knownSource" (Option.some (Jvm.ClassFile.FieldType.object "FixpointEngine$Source"))) (hN : g_nL K = 2) (hD : g_Kd K = 1) : ∀ (r0 : Option Nat) (s0 : g_St), f_Ch_knownSource r0 s0 = some o → g_W K s0 [(0, g_r 11 r0)] [] 0 (g_jR 9 o) := by
  intro r0 s0 h
  unfold f_Ch_knownSource at h
  refine r_iconst (v := 0) hK d_Ch_knownSource_0 (by decide) ?_
  refine r_istore_n (ls1 := [(1, g_i 0), (0, g_r 11 r0)]) hK d_Ch_knownSource_1 rfl (by rw [hN]; decide) rfl ?_
  exact r_sub [1, 0] rfl (t_Ch_knownSource_2 hK hN hD _ _ _ _ h)
theorem c_Ch_knownSource (l : Launch) (G : g_G) (r0 : Option Nat) (u : g_St) (o : (Option Nat × g_St)) (h : f_Ch_knownSource r0 u = some o) : g_Con l G y_Ch_knownSource b_Ch_knownSource 2 (Option.some (Jvm.ClassFile.FieldType.object "FixpointEngine$Source")) 1 [g_r 11 r0] u (g_jR 9 o) :=
  g_Con.of rfl rfl (by decide +kernel) (Nat.le_of_ble_eq_true rfl) (fun K hK hN hD => t_Ch_knownSource_0 hK hN hD _ _ h)
def f_Ch_indexIn_99 (y4 : Int64) (x0s : Int32) (s0 : g_St) : Option (Int32 × g_St) :=
  if x0s = 0 then
    some ((-1), s0)
  else
    some (y4.toInt32, s0)
def f_Ch_indexIn_24 : Nat → Int64 → Option Nat → Int32 → g_St → Option (Int32 × g_St)
  | 0, _, _, _, _ => none
  | n + 1, y2, r4, x5, s0 =>
    if 4 < x5 then
      some ((-1), s0)
    else
      g_gR s0 199 r4 fun p1 =>
      g_aL s0 p1 x5 fun j2 =>
      if j2 = y2 then
        some (x5, s0)
      else
        f_Ch_indexIn_24 n y2 r4 (x5 + 1) s0
def f_Ch_indexIn (r0 : Option Nat) (r1 : Option Nat) (y2 : Int64) (s0 : g_St) : Option (Int32 × g_St) :=
  g_gI s0 393 r1 fun i1 =>
  if i1 < 0 then
    g_gI s0 457 r1 fun i2 =>
    if i2 < 0 then
      f_Ch_indexIn_99 (y2 - 97) 0 s0
    else
      if (y2 - 97) < 0 then
        f_Ch_indexIn_99 (y2 - 97) 0 s0
      else
        g_gR s0 67 r0 fun p3 =>
        g_gI s0 457 r1 fun i4 =>
        g_aR s0 p3 i4 fun p5 =>
        g_gI s0 5 p5 fun i6 =>
        if i6.toInt64 ≤ (y2 - 97) then
          f_Ch_indexIn_99 (y2 - 97) 0 s0
        else
          f_Ch_indexIn_99 (y2 - 97) 1 s0
  else
    g_gR s0 3 r0 fun p7 =>
    g_gR s0 6 p7 fun p8 =>
    g_gI s0 393 r1 fun i9 =>
    g_aR s0 p8 i9 fun p10 =>
    f_Ch_indexIn_24 100000 y2 p10 0 s0
set_option maxHeartbeats 4000000 in
set_option maxRecDepth 100000 in
theorem t_Ch_indexIn_99 {K : g_C} {o : (Int32 × g_St)} (hK : g_OK K b_Ch_indexIn "FixpointEngine$Checker" "indexIn" (Option.some Jvm.ClassFile.FieldType.int)) (hN : g_nL K = 7) (hD : g_Kd K = 1) : ∀ (y4 : Int64) (x0s : Int32) (s0 : g_St), f_Ch_indexIn_99 y4 x0s s0 = some o → g_W K s0 [(4, g_l y4)] [g_i x0s] 99 (g_jI o) := by
  intro y4 x0s s0 h
  unfold f_Ch_indexIn_99 at h
  refine r_istore (ls1 := [(6, g_i x0s), (4, g_l y4)]) hK d_Ch_indexIn_99 (by rw [hN]; decide) rfl ?_
  refine r_iload hK d_Ch_indexIn_101 0 rfl ?_
  refine r_ifeq (tgt := 112) hK d_Ch_indexIn_103 (by decide) h (fun h => ?_) (fun h => ?_)
  · refine r_iconst (v := (-1)) hK d_Ch_indexIn_112 (by decide) ?_
    exact r_ireturn hK d_Ch_indexIn_113 h
  · refine r_lload hK d_Ch_indexIn_106 1 rfl ?_
    refine r_l2i hK d_Ch_indexIn_108 ?_
    refine r_goto (tgt := 113) hK d_Ch_indexIn_109 (by decide) ?_
    exact r_ireturn hK d_Ch_indexIn_113 h
set_option maxHeartbeats 4000000 in
set_option maxRecDepth 100000 in
theorem t_Ch_indexIn_24 {K : g_C} {o : (Int32 × g_St)} (hK : g_OK K b_Ch_indexIn "FixpointEngine$Checker" "indexIn" (Option.some Jvm.ClassFile.FieldType.int)) (hN : g_nL K = 7) (hD : g_Kd K = 1) : ∀ (n : Nat) (y2 : Int64) (r4 : Option Nat) (x5 : Int32) (s0 : g_St), f_Ch_indexIn_24 n y2 r4 x5 s0 = some o → g_W K s0 [(2, g_l y2), (4, g_r 7 r4), (5, g_i x5)] [] 24 (g_jI o) := by
  intro n
  induction n with
  | zero =>
    intro y2 r4 x5 s0 h
    cases h
  | succ n ih =>
    intro y2 r4 x5 s0 h
    unfold f_Ch_indexIn_24 at h
    refine r_iload hK d_Ch_indexIn_24 2 rfl ?_
    refine r_iconst (v := 4) hK d_Ch_indexIn_26 (by decide) ?_
    refine r_if_icmpgt (tgt := 52) hK d_Ch_indexIn_27 (by decide) h (fun h => ?_) (fun h => ?_)
    · refine r_iconst (v := (-1)) hK d_Ch_indexIn_52 (by decide) ?_
      exact r_ireturn hK d_Ch_indexIn_53 h
    · refine r_aload hK d_Ch_indexIn_30 1 rfl ?_
      refine r_gR hK fd_Pa_3 w3_103 d_Ch_indexIn_32 h (fun p1 h => ?_)
      refine r_iload hK d_Ch_indexIn_35 2 rfl ?_
      refine r_laload hK ar_21 d_Ch_indexIn_37 h (fun j2 h => ?_)
      refine r_lload_n hK d_Ch_indexIn_38 rfl 0 rfl ?_
      refine r_lifne (tgt := 46) hK d_Ch_indexIn_39 d_Ch_indexIn_40 (by decide) h (fun h => ?_) (fun h => ?_)
      · refine r_iinc (ls1 := [(5, g_i (x5 + 1)), (2, g_l y2), (4, g_r 7 r4)]) hK d_Ch_indexIn_46 2 rfl rfl (by rw [hN]; decide) rfl ?_
        refine r_goto (tgt := 24) hK d_Ch_indexIn_49 (by decide) ?_
        exact r_sub [1, 2, 0] rfl (ih _ _ _ _ h)
      · refine r_iload hK d_Ch_indexIn_43 2 rfl ?_
        exact r_ireturn hK d_Ch_indexIn_45 h
set_option maxHeartbeats 4000000 in
set_option maxRecDepth 100000 in
theorem t_Ch_indexIn_0 {K : g_C} {o : (Int32 × g_St)} (hK : g_OK K b_Ch_indexIn "FixpointEngine$Checker" "indexIn" (Option.some Jvm.ClassFile.FieldType.int)) (hN : g_nL K = 7) (hD : g_Kd K = 1) : ∀ (r0 : Option Nat) (r1 : Option Nat) (y2 : Int64) (s0 : g_St), f_Ch_indexIn r0 r1 y2 s0 = some o → g_W K s0 [(0, g_r 3 r0), (1, g_r 9 r1), (2, g_l y2)] [] 0 (g_jI o) := by
  intro r0 r1 y2 s0 h
  unfold f_Ch_indexIn at h
  refine r_aload_n hK d_Ch_indexIn_0 rfl 1 rfl ?_
  refine r_gI hK fd_So_6 w4_217 d_Ch_indexIn_1 h (fun i1 h => ?_)
  refine r_iflt (tgt := 54) hK d_Ch_indexIn_4 (by decide) h (fun h => ?_) (fun h => ?_)
  · refine r_lload_n hK d_Ch_indexIn_54 rfl 2 rfl ?_
    refine r_ldc2 hK w5_162 d_Ch_indexIn_55 ?_
    refine r_lsub hK d_Ch_indexIn_58 ?_
    refine r_lstore (ls1 := [(4, g_l (y2 - 97)), (0, g_r 3 r0), (1, g_r 9 r1), (2, g_l y2)]) hK d_Ch_indexIn_59 (by rw [hN]; decide) rfl ?_
    refine r_aload_n hK d_Ch_indexIn_61 rfl 2 rfl ?_
    refine r_gI hK fd_So_7 w4_220 d_Ch_indexIn_62 h (fun i2 h => ?_)
    refine r_iflt (tgt := 98) hK d_Ch_indexIn_65 (by decide) h (fun h => ?_) (fun h => ?_)
    · refine r_iconst (v := 0) hK d_Ch_indexIn_98 (by decide) ?_
      exact r_sub [0] rfl (t_Ch_indexIn_99 hK hN hD _ _ _ h)
    · refine r_lload hK d_Ch_indexIn_68 0 rfl ?_
      refine r_lconst (v := 0) hK d_Ch_indexIn_70 (by decide) ?_
      refine r_liflt (tgt := 98) hK d_Ch_indexIn_71 d_Ch_indexIn_72 (by decide) h (fun h => ?_) (fun h => ?_)
      · refine r_iconst (v := 0) hK d_Ch_indexIn_98 (by decide) ?_
        exact r_sub [0] rfl (t_Ch_indexIn_99 hK hN hD _ _ _ h)
      · refine r_lload hK d_Ch_indexIn_75 0 rfl ?_
        refine r_aload_n hK d_Ch_indexIn_77 rfl 1 rfl ?_
        refine r_gR hK fd_Ch_1 w1_99 d_Ch_indexIn_78 h (fun p3 h => ?_)
        refine r_aload_n hK d_Ch_indexIn_81 rfl 2 rfl ?_
        refine r_gI hK fd_So_7 w4_220 d_Ch_indexIn_82 h (fun i4 h => ?_)
        refine r_aaload hK rfl ar_29 d_Ch_indexIn_85 h (fun p5 h => ?_)
        refine r_gI hK fd_Rl_0 w1_124 d_Ch_indexIn_86 h (fun i6 h => ?_)
        refine r_i2l hK d_Ch_indexIn_89 ?_
        refine r_lifge (tgt := 98) hK d_Ch_indexIn_90 d_Ch_indexIn_91 (by decide) h (fun h => ?_) (fun h => ?_)
        · refine r_iconst (v := 0) hK d_Ch_indexIn_98 (by decide) ?_
          exact r_sub [0] rfl (t_Ch_indexIn_99 hK hN hD _ _ _ h)
        · refine r_iconst (v := 1) hK d_Ch_indexIn_94 (by decide) ?_
          refine r_goto (tgt := 99) hK d_Ch_indexIn_95 (by decide) ?_
          exact r_sub [0] rfl (t_Ch_indexIn_99 hK hN hD _ _ _ h)
  · refine r_aload_n hK d_Ch_indexIn_7 rfl 0 rfl ?_
    refine r_gR hK fd_Ch_0 w1_98 d_Ch_indexIn_8 h (fun p7 h => ?_)
    refine r_gR hK fd_Qu_0 w3_23 d_Ch_indexIn_11 h (fun p8 h => ?_)
    refine r_aload_n hK d_Ch_indexIn_14 rfl 1 rfl ?_
    refine r_gI hK fd_So_6 w4_217 d_Ch_indexIn_15 h (fun i9 h => ?_)
    refine r_aaload hK rfl ar_24 d_Ch_indexIn_18 h (fun p10 h => ?_)
    refine r_astore (ls1 := [(4, g_r 7 p10), (0, g_r 3 r0), (1, g_r 9 r1), (2, g_l y2)]) hK d_Ch_indexIn_19 (by rw [hN]; decide) rfl ?_
    refine r_iconst (v := 0) hK d_Ch_indexIn_21 (by decide) ?_
    refine r_istore (ls1 := [(5, g_i 0), (4, g_r 7 p10), (0, g_r 3 r0), (1, g_r 9 r1), (2, g_l y2)]) hK d_Ch_indexIn_22 (by rw [hN]; decide) rfl ?_
    exact r_sub [4, 1, 0] rfl (t_Ch_indexIn_24 hK hN hD _ _ _ _ _ h)
theorem c_Ch_indexIn (l : Launch) (G : g_G) (r0 : Option Nat) (r1 : Option Nat) (y2 : Int64) (u : g_St) (o : (Int32 × g_St)) (h : f_Ch_indexIn r0 r1 y2 u = some o) : g_Con l G y_Ch_indexIn b_Ch_indexIn 7 (Option.some Jvm.ClassFile.FieldType.int) 1 [g_r 3 r0, g_r 9 r1, g_l y2] u (g_jI o) :=
  g_Con.of rfl rfl (by decide +kernel) (Nat.le_of_ble_eq_true rfl) (fun K hK hN hD => t_Ch_indexIn_0 hK hN hD _ _ _ _ h)
def f_Ch_nextReady_2 : Nat → Option Nat → Int32 → Int32 → g_St → Option (Int32 × g_St)
  | 0, _, _, _, _ => none
  | n + 1, r0, x1, x2, s0 =>
    g_gR s0 3 r0 fun p1 =>
    g_gI s0 70 p1 fun i2 =>
    if i2 ≤ x2 then
      some ((-1), s0)
    else
      g_gR s0 3 r0 fun p3 =>
      g_gR s0 6 p3 fun p4 =>
      g_aR s0 p4 x2 fun p5 =>
      if ((x1 >>> (x2 &&& 31)) &&& 1) = 0 then
        g_gI s0 775 p5 fun i6 =>
        g_gI s0 839 p5 fun i7 =>
        if ((i6 &&& (i7 ^^^ (-1))) &&& (x1 ^^^ (-1))) = 0 then
          some (x2, s0)
        else
          f_Ch_nextReady_2 n r0 x1 (x2 + 1) s0
      else
        f_Ch_nextReady_2 n r0 x1 (x2 + 1) s0
def f_Ch_nextReady (r0 : Option Nat) (x1 : Int32) (s0 : g_St) : Option (Int32 × g_St) :=
  f_Ch_nextReady_2 100000 r0 x1 0 s0
set_option maxHeartbeats 4000000 in
set_option maxRecDepth 100000 in
theorem t_Ch_nextReady_2 {K : g_C} {o : (Int32 × g_St)} (hK : g_OK K b_Ch_nextReady "FixpointEngine$Checker" "nextReady" (Option.some Jvm.ClassFile.FieldType.int)) (hN : g_nL K = 4) (hD : g_Kd K = 1) : ∀ (n : Nat) (r0 : Option Nat) (x1 : Int32) (x2 : Int32) (s0 : g_St), f_Ch_nextReady_2 n r0 x1 x2 s0 = some o → g_W K s0 [(0, g_r 3 r0), (1, g_i x1), (2, g_i x2)] [] 2 (g_jI o) := by
  intro n
  induction n with
  | zero =>
    intro r0 x1 x2 s0 h
    cases h
  | succ n ih =>
    intro r0 x1 x2 s0 h
    unfold f_Ch_nextReady_2 at h
    refine r_iload_n hK d_Ch_nextReady_2 rfl 2 rfl ?_
    refine r_aload_n hK d_Ch_nextReady_3 rfl 0 rfl ?_
    refine r_gR hK fd_Ch_0 w1_98 d_Ch_nextReady_4 h (fun p1 h => ?_)
    refine r_gI hK fd_Qu_1 w3_27 d_Ch_nextReady_7 h (fun i2 h => ?_)
    refine r_if_icmpge (tgt := 57) hK d_Ch_nextReady_10 (by decide) h (fun h => ?_) (fun h => ?_)
    · refine r_iconst (v := (-1)) hK d_Ch_nextReady_57 (by decide) ?_
      exact r_ireturn hK d_Ch_nextReady_58 h
    · refine r_aload_n hK d_Ch_nextReady_13 rfl 0 rfl ?_
      refine r_gR hK fd_Ch_0 w1_98 d_Ch_nextReady_14 h (fun p3 h => ?_)
      refine r_gR hK fd_Qu_0 w3_23 d_Ch_nextReady_17 h (fun p4 h => ?_)
      refine r_iload_n hK d_Ch_nextReady_20 rfl 2 rfl ?_
      refine r_aaload hK rfl ar_24 d_Ch_nextReady_21 h (fun p5 h => ?_)
      refine r_astore_n (ls1 := [(3, g_r 7 p5), (0, g_r 3 r0), (1, g_i x1), (2, g_i x2)]) hK d_Ch_nextReady_22 rfl (by rw [hN]; decide) rfl ?_
      refine r_iload_n hK d_Ch_nextReady_23 rfl 2 rfl ?_
      refine r_iload_n hK d_Ch_nextReady_24 rfl 3 rfl ?_
      refine r_ishr hK d_Ch_nextReady_25 ?_
      refine r_iconst (v := 1) hK d_Ch_nextReady_26 (by decide) ?_
      refine r_iand hK d_Ch_nextReady_27 ?_
      refine r_ifne (tgt := 51) hK d_Ch_nextReady_28 (by decide) h (fun h => ?_) (fun h => ?_)
      · refine r_iinc (ls1 := [(2, g_i (x2 + 1)), (3, g_r 7 p5), (0, g_r 3 r0), (1, g_i x1)]) hK d_Ch_nextReady_51 3 rfl rfl (by rw [hN]; decide) rfl ?_
        refine r_goto (tgt := 2) hK d_Ch_nextReady_54 (by decide) ?_
        exact r_sub [2, 3, 0] rfl (ih _ _ _ _ h)
      · refine r_aload_n hK d_Ch_nextReady_31 rfl 0 rfl ?_
        refine r_gI hK fd_Pa_12 w3_132 d_Ch_nextReady_32 h (fun i6 h => ?_)
        refine r_aload_n hK d_Ch_nextReady_35 rfl 0 rfl ?_
        refine r_gI hK fd_Pa_13 w3_133 d_Ch_nextReady_36 h (fun i7 h => ?_)
        refine r_iconst (v := (-1)) hK d_Ch_nextReady_39 (by decide) ?_
        refine r_ixor hK d_Ch_nextReady_40 ?_
        refine r_iand hK d_Ch_nextReady_41 ?_
        refine r_iload_n hK d_Ch_nextReady_42 rfl 2 rfl ?_
        refine r_iconst (v := (-1)) hK d_Ch_nextReady_43 (by decide) ?_
        refine r_ixor hK d_Ch_nextReady_44 ?_
        refine r_iand hK d_Ch_nextReady_45 ?_
        refine r_ifne (tgt := 51) hK d_Ch_nextReady_46 (by decide) h (fun h => ?_) (fun h => ?_)
        · refine r_iinc (ls1 := [(2, g_i (x2 + 1)), (3, g_r 7 p5), (0, g_r 3 r0), (1, g_i x1)]) hK d_Ch_nextReady_51 3 rfl rfl (by rw [hN]; decide) rfl ?_
          refine r_goto (tgt := 2) hK d_Ch_nextReady_54 (by decide) ?_
          exact r_sub [2, 3, 0] rfl (ih _ _ _ _ h)
        · refine r_iload_n hK d_Ch_nextReady_49 rfl 3 rfl ?_
          exact r_ireturn hK d_Ch_nextReady_50 h
set_option maxHeartbeats 4000000 in
set_option maxRecDepth 100000 in
theorem t_Ch_nextReady_0 {K : g_C} {o : (Int32 × g_St)} (hK : g_OK K b_Ch_nextReady "FixpointEngine$Checker" "nextReady" (Option.some Jvm.ClassFile.FieldType.int)) (hN : g_nL K = 4) (hD : g_Kd K = 1) : ∀ (r0 : Option Nat) (x1 : Int32) (s0 : g_St), f_Ch_nextReady r0 x1 s0 = some o → g_W K s0 [(0, g_r 3 r0), (1, g_i x1)] [] 0 (g_jI o) := by
  intro r0 x1 s0 h
  unfold f_Ch_nextReady at h
  refine r_iconst (v := 0) hK d_Ch_nextReady_0 (by decide) ?_
  refine r_istore_n (ls1 := [(2, g_i 0), (0, g_r 3 r0), (1, g_i x1)]) hK d_Ch_nextReady_1 rfl (by rw [hN]; decide) rfl ?_
  exact r_sub [1, 2, 0] rfl (t_Ch_nextReady_2 hK hN hD _ _ _ _ _ h)
theorem c_Ch_nextReady (l : Launch) (G : g_G) (r0 : Option Nat) (x1 : Int32) (u : g_St) (o : (Int32 × g_St)) (h : f_Ch_nextReady r0 x1 u = some o) : g_Con l G y_Ch_nextReady b_Ch_nextReady 4 (Option.some Jvm.ClassFile.FieldType.int) 1 [g_r 3 r0, g_i x1] u (g_jI o) :=
  g_Con.of rfl rfl (by decide +kernel) (Nat.le_of_ble_eq_true rfl) (fun K hK hN hD => t_Ch_nextReady_0 hK hN hD _ _ _ h)
def f_Ch_orderComponents_43 (k4 : Option Nat → Int32 → Int32 → g_St → Option (Unit × g_St)) : Nat → Option Nat → Int32 → Int32 → Int32 → Int32 → g_St → Option (Unit × g_St)
  | 0, _, _, _, _, _, _ => none
  | n + 1, r0, x1, x2, x4, x5, s0 =>
    g_gR s0 3 r0 fun p1 =>
    g_gI s0 70 p1 fun i2 =>
    if i2 ≤ x5 then
      g_gR s0 3 r0 fun p3 =>
      g_pI s0 454 p3 (x2 + 1) fun s4 =>
      k4 r0 (x1 ||| x4) (x2 + 1) s4
    else
      if ((x4 >>> (x5 &&& 31)) &&& 1) = 0 then
        f_Ch_orderComponents_43 k4 n r0 x1 x2 x4 (x5 + 1) s0
      else
        g_gR s0 3 r0 fun p5 =>
        g_gR s0 6 p5 fun p6 =>
        g_aR s0 p6 x5 fun p7 =>
        g_pI s0 903 p7 x2 fun s8 =>
        f_Ch_orderComponents_43 k4 n r0 x1 x2 x4 (x5 + 1) s8
def f_Ch_orderComponents_4 : Nat → Option Nat → Int32 → Int32 → g_St → Option (Unit × g_St)
  | 0, _, _, _, _ => none
  | n + 1, r0, x1, x2, s0 =>
    g_gR s0 3 r0 fun p1 =>
    g_gI s0 70 p1 fun i2 =>
    if i2 ≤ x2 then
      some ((), s0)
    else
      g_c (g_nn r0 (f_Ch_nextReady r0 x1 s0)) fun i3 s4 =>
      if 0 ≤ i3 then
        g_gR s4 3 r0 fun p5 =>
        g_gR s4 6 p5 fun p6 =>
        g_aR s4 p6 i3 fun p7 =>
        g_gI s4 839 p7 fun i8 =>
        f_Ch_orderComponents_43 (f_Ch_orderComponents_4 n) 100000 r0 x1 x2 i8 0 s4
      else
        some ((), s4)
def f_Ch_orderComponents (r0 : Option Nat) (s0 : g_St) : Option (Unit × g_St) :=
  f_Ch_orderComponents_4 100000 r0 0 0 s0
set_option maxHeartbeats 4000000 in
set_option maxRecDepth 100000 in
theorem t_Ch_orderComponents_43 {K : g_C} {o : (Unit × g_St)} (hK : g_OK K b_Ch_orderComponents "FixpointEngine$Checker" "orderComponents" (Option.none : Option Jvm.ClassFile.FieldType)) (hN : g_nL K = 6) (hD : g_Kd K = 2) {k4 : Option Nat → Int32 → Int32 → g_St → Option (Unit × g_St)} (hk4 : ∀ (r0 : Option Nat) (x1 : Int32) (x2 : Int32) (s0 : g_St), k4 r0 x1 x2 s0 = some o → g_W K s0 [(0, g_r 3 r0), (1, g_i x1), (2, g_i x2)] [] 4 (g_jV o)) : ∀ (n : Nat) (r0 : Option Nat) (x1 : Int32) (x2 : Int32) (x4 : Int32) (x5 : Int32) (s0 : g_St), f_Ch_orderComponents_43 k4 n r0 x1 x2 x4 x5 s0 = some o → g_W K s0 [(0, g_r 3 r0), (1, g_i x1), (2, g_i x2), (4, g_i x4), (5, g_i x5)] [] 43 (g_jV o) := by
  intro n
  induction n with
  | zero =>
    intro r0 x1 x2 x4 x5 s0 h
    cases h
  | succ n ih =>
    intro r0 x1 x2 x4 x5 s0 h
    unfold f_Ch_orderComponents_43 at h
    refine r_iload hK d_Ch_orderComponents_43 4 rfl ?_
    refine r_aload_n hK d_Ch_orderComponents_45 rfl 0 rfl ?_
    refine r_gR hK fd_Ch_0 w1_98 d_Ch_orderComponents_46 h (fun p1 h => ?_)
    refine r_gI hK fd_Qu_1 w3_27 d_Ch_orderComponents_49 h (fun i2 h => ?_)
    refine r_if_icmpge (tgt := 85) hK d_Ch_orderComponents_52 (by decide) h (fun h => ?_) (fun h => ?_)
    · refine r_iload_n hK d_Ch_orderComponents_85 rfl 1 rfl ?_
      refine r_iload hK d_Ch_orderComponents_86 3 rfl ?_
      refine r_ior hK d_Ch_orderComponents_88 ?_
      refine r_istore_n (ls1 := [(1, g_i (x1 ||| x4)), (0, g_r 3 r0), (2, g_i x2), (4, g_i x4), (5, g_i x5)]) hK d_Ch_orderComponents_89 rfl (by rw [hN]; decide) rfl ?_
      refine r_aload_n hK d_Ch_orderComponents_90 rfl 1 rfl ?_
      refine r_gR hK fd_Ch_0 w1_98 d_Ch_orderComponents_91 h (fun p3 h => ?_)
      refine r_iload_n hK d_Ch_orderComponents_94 rfl 2 rfl ?_
      refine r_iconst (v := 1) hK d_Ch_orderComponents_95 (by decide) ?_
      refine r_iadd hK d_Ch_orderComponents_96 ?_
      refine r_pI hK fd_Qu_7 rfl w3_45 d_Ch_orderComponents_97 h (fun s4 h => ?_)
      refine r_iinc (ls1 := [(2, g_i (x2 + 1)), (1, g_i (x1 ||| x4)), (0, g_r 3 r0), (4, g_i x4), (5, g_i x5)]) hK d_Ch_orderComponents_100 2 rfl rfl (by rw [hN]; decide) rfl ?_
      refine r_goto (tgt := 4) hK d_Ch_orderComponents_103 (by decide) ?_
      exact r_sub [2, 1, 0] rfl (hk4 _ _ _ _ h)
    · refine r_iload hK d_Ch_orderComponents_55 3 rfl ?_
      refine r_iload hK d_Ch_orderComponents_57 4 rfl ?_
      refine r_ishr hK d_Ch_orderComponents_59 ?_
      refine r_iconst (v := 1) hK d_Ch_orderComponents_60 (by decide) ?_
      refine r_iand hK d_Ch_orderComponents_61 ?_
      refine r_ifeq (tgt := 79) hK d_Ch_orderComponents_62 (by decide) h (fun h => ?_) (fun h => ?_)
      · refine r_iinc (ls1 := [(5, g_i (x5 + 1)), (0, g_r 3 r0), (1, g_i x1), (2, g_i x2), (4, g_i x4)]) hK d_Ch_orderComponents_79 4 rfl rfl (by rw [hN]; decide) rfl ?_
        refine r_goto (tgt := 43) hK d_Ch_orderComponents_82 (by decide) ?_
        exact r_sub [1, 2, 3, 4, 0] rfl (ih _ _ _ _ _ _ h)
      · refine r_aload_n hK d_Ch_orderComponents_65 rfl 0 rfl ?_
        refine r_gR hK fd_Ch_0 w1_98 d_Ch_orderComponents_66 h (fun p5 h => ?_)
        refine r_gR hK fd_Qu_0 w3_23 d_Ch_orderComponents_69 h (fun p6 h => ?_)
        refine r_iload hK d_Ch_orderComponents_72 4 rfl ?_
        refine r_aaload hK rfl ar_24 d_Ch_orderComponents_74 h (fun p7 h => ?_)
        refine r_iload_n hK d_Ch_orderComponents_75 rfl 2 rfl ?_
        refine r_pI hK fd_Pa_14 rfl w3_137 d_Ch_orderComponents_76 h (fun s8 h => ?_)
        refine r_iinc (ls1 := [(5, g_i (x5 + 1)), (0, g_r 3 r0), (1, g_i x1), (2, g_i x2), (4, g_i x4)]) hK d_Ch_orderComponents_79 4 rfl rfl (by rw [hN]; decide) rfl ?_
        refine r_goto (tgt := 43) hK d_Ch_orderComponents_82 (by decide) ?_
        exact r_sub [1, 2, 3, 4, 0] rfl (ih _ _ _ _ _ _ h)
set_option maxHeartbeats 4000000 in
set_option maxRecDepth 100000 in
theorem t_Ch_orderComponents_4 {K : g_C} {o : (Unit × g_St)} (hK : g_OK K b_Ch_orderComponents "FixpointEngine$Checker" "orderComponents" (Option.none : Option Jvm.ClassFile.FieldType)) (hN : g_nL K = 6) (hD : g_Kd K = 2) : ∀ (n : Nat) (r0 : Option Nat) (x1 : Int32) (x2 : Int32) (s0 : g_St), f_Ch_orderComponents_4 n r0 x1 x2 s0 = some o → g_W K s0 [(0, g_r 3 r0), (1, g_i x1), (2, g_i x2)] [] 4 (g_jV o) := by
  intro n
  induction n with
  | zero =>
    intro r0 x1 x2 s0 h
    cases h
  | succ n ih =>
    intro r0 x1 x2 s0 h
    unfold f_Ch_orderComponents_4 at h
    refine r_iload_n hK d_Ch_orderComponents_4 rfl 2 rfl ?_
    refine r_aload_n hK d_Ch_orderComponents_5 rfl 0 rfl ?_
    refine r_gR hK fd_Ch_0 w1_98 d_Ch_orderComponents_6 h (fun p1 h => ?_)
    refine r_gI hK fd_Qu_1 w3_27 d_Ch_orderComponents_9 h (fun i2 h => ?_)
    refine r_if_icmpge (tgt := 106) hK d_Ch_orderComponents_12 (by decide) h (fun h => ?_) (fun h => ?_)
    · exact r_return hK d_Ch_orderComponents_106 h
    · refine r_aload_n hK d_Ch_orderComponents_15 rfl 0 rfl ?_
      refine r_iload_n hK d_Ch_orderComponents_16 rfl 1 rfl ?_
      refine r_Vi (avL := [g_i x1]) (st := []) hK ob_Ch rfl w5_172 w5_173 w5_171 w5_174 w1_3 (by decide) pl_Ch_nextReady (by rw [hD]; decide) (Nat.le_of_ble_eq_true rfl) rfl d_Ch_orderComponents_17 (fun o9 h9 => c_Ch_nextReady _ _ _ _ _ o9 h9) h (fun i3 s4 h => ?_)
      refine r_istore_n (ls1 := [(3, g_i i3), (0, g_r 3 r0), (1, g_i x1), (2, g_i x2)]) hK d_Ch_orderComponents_20 rfl (by rw [hN]; decide) rfl ?_
      refine r_iload_n hK d_Ch_orderComponents_21 rfl 0 rfl ?_
      refine r_ifge (tgt := 26) hK d_Ch_orderComponents_22 (by decide) h (fun h => ?_) (fun h => ?_)
      · refine r_aload_n hK d_Ch_orderComponents_26 rfl 1 rfl ?_
        refine r_gR hK fd_Ch_0 w1_98 d_Ch_orderComponents_27 h (fun p5 h => ?_)
        refine r_gR hK fd_Qu_0 w3_23 d_Ch_orderComponents_30 h (fun p6 h => ?_)
        refine r_iload_n hK d_Ch_orderComponents_33 rfl 0 rfl ?_
        refine r_aaload hK rfl ar_24 d_Ch_orderComponents_34 h (fun p7 h => ?_)
        refine r_gI hK fd_Pa_13 w3_133 d_Ch_orderComponents_35 h (fun i8 h => ?_)
        refine r_istore (ls1 := [(4, g_i i8), (3, g_i i3), (0, g_r 3 r0), (1, g_i x1), (2, g_i x2)]) hK d_Ch_orderComponents_38 (by rw [hN]; decide) rfl ?_
        refine r_iconst (v := 0) hK d_Ch_orderComponents_40 (by decide) ?_
        refine r_istore (ls1 := [(5, g_i 0), (4, g_i i8), (3, g_i i3), (0, g_r 3 r0), (1, g_i x1), (2, g_i x2)]) hK d_Ch_orderComponents_41 (by rw [hN]; decide) rfl ?_
        exact r_sub [3, 4, 5, 1, 0] rfl (t_Ch_orderComponents_43 hK hN hD ih _ _ _ _ _ _ _ h)
      · exact r_return hK d_Ch_orderComponents_25 h
set_option maxHeartbeats 4000000 in
set_option maxRecDepth 100000 in
theorem t_Ch_orderComponents_0 {K : g_C} {o : (Unit × g_St)} (hK : g_OK K b_Ch_orderComponents "FixpointEngine$Checker" "orderComponents" (Option.none : Option Jvm.ClassFile.FieldType)) (hN : g_nL K = 6) (hD : g_Kd K = 2) : ∀ (r0 : Option Nat) (s0 : g_St), f_Ch_orderComponents r0 s0 = some o → g_W K s0 [(0, g_r 3 r0)] [] 0 (g_jV o) := by
  intro r0 s0 h
  unfold f_Ch_orderComponents at h
  refine r_iconst (v := 0) hK d_Ch_orderComponents_0 (by decide) ?_
  refine r_istore_n (ls1 := [(1, g_i 0), (0, g_r 3 r0)]) hK d_Ch_orderComponents_1 rfl (by rw [hN]; decide) rfl ?_
  refine r_iconst (v := 0) hK d_Ch_orderComponents_2 (by decide) ?_
  refine r_istore_n (ls1 := [(2, g_i 0), (1, g_i 0), (0, g_r 3 r0)]) hK d_Ch_orderComponents_3 rfl (by rw [hN]; decide) rfl ?_
  exact r_sub [2, 1, 0] rfl (t_Ch_orderComponents_4 hK hN hD _ _ _ _ _ h)
theorem c_Ch_orderComponents (l : Launch) (G : g_G) (r0 : Option Nat) (u : g_St) (o : (Unit × g_St)) (h : f_Ch_orderComponents r0 u = some o) : g_Con l G y_Ch_orderComponents b_Ch_orderComponents 6 (Option.none : Option Jvm.ClassFile.FieldType) 2 [g_r 3 r0] u (g_jV o) :=
  g_Con.of rfl rfl (by decide +kernel) (Nat.le_of_ble_eq_true rfl) (fun K hK hN hD => t_Ch_orderComponents_0 hK hN hD _ _ h)
def f_Ch_namesOwnComponent (r0 : Option Nat) (r1 : Option Nat) (s0 : g_St) : Option (Int32 × g_St) :=
  g_gR s0 9 r1 fun p1 =>
  g_gI s0 8 p1 fun i2 =>
  g_gI s0 393 r1 fun i3 =>
  if i3 < 0 then
    g_rZ 0 (some (0, s0))
  else
    g_gR s0 3 r0 fun p4 =>
    g_gI s0 70 p4 fun i5 =>
    if i5 ≤ i2 then
      g_rZ 0 (some (0, s0))
    else
      g_gR s0 3 r0 fun p6 =>
      g_gR s0 6 p6 fun p7 =>
      g_aR s0 p7 i2 fun p8 =>
      g_gI s0 967 p8 fun i9 =>
      if i9 = 0 then
        g_rZ 0 (some (0, s0))
      else
        g_gR s0 3 r0 fun p10 =>
        g_gR s0 6 p10 fun p11 =>
        g_aR s0 p11 i2 fun p12 =>
        g_gI s0 903 p12 fun i13 =>
        g_gR s0 3 r0 fun p14 =>
        g_gR s0 6 p14 fun p15 =>
        g_gI s0 393 r1 fun i16 =>
        g_aR s0 p15 i16 fun p17 =>
        g_gI s0 903 p17 fun i18 =>
        if i13 = i18 then
          g_rZ 1 (some (1, s0))
        else
          g_rZ 0 (some (0, s0))
set_option maxHeartbeats 4000000 in
set_option maxRecDepth 100000 in
theorem t_Ch_namesOwnComponent_0 {K : g_C} {o : (Int32 × g_St)} (hK : g_OK K b_Ch_namesOwnComponent "FixpointEngine$Checker" "namesOwnComponent" (Option.some Jvm.ClassFile.FieldType.boolean)) (hN : g_nL K = 3) (hD : g_Kd K = 1) : ∀ (r0 : Option Nat) (r1 : Option Nat) (s0 : g_St), f_Ch_namesOwnComponent r0 r1 s0 = some o → g_W K s0 [(0, g_r 3 r0), (1, g_r 9 r1)] [] 0 (g_jI o) := by
  intro r0 r1 s0 h
  unfold f_Ch_namesOwnComponent at h
  refine r_aload_n hK d_Ch_namesOwnComponent_0 rfl 1 rfl ?_
  refine r_gR hK fd_So_0 w4_205 d_Ch_namesOwnComponent_1 h (fun p1 h => ?_)
  refine r_gI hK fd_Se_0 w3_222 d_Ch_namesOwnComponent_4 h (fun i2 h => ?_)
  refine r_istore_n (ls1 := [(2, g_i i2), (0, g_r 3 r0), (1, g_r 9 r1)]) hK d_Ch_namesOwnComponent_7 rfl (by rw [hN]; decide) rfl ?_
  refine r_aload_n hK d_Ch_namesOwnComponent_8 rfl 2 rfl ?_
  refine r_gI hK fd_So_6 w4_217 d_Ch_namesOwnComponent_9 h (fun i3 h => ?_)
  refine r_iflt (tgt := 75) hK d_Ch_namesOwnComponent_12 (by decide) h (fun h => ?_) (fun h => ?_)
  · refine r_iconst (v := 0) hK d_Ch_namesOwnComponent_75 (by decide) ?_
    exact r_zreturn hK d_Ch_namesOwnComponent_76 h
  · refine r_iload_n hK d_Ch_namesOwnComponent_15 rfl 0 rfl ?_
    refine r_aload_n hK d_Ch_namesOwnComponent_16 rfl 1 rfl ?_
    refine r_gR hK fd_Ch_0 w1_98 d_Ch_namesOwnComponent_17 h (fun p4 h => ?_)
    refine r_gI hK fd_Qu_1 w3_27 d_Ch_namesOwnComponent_20 h (fun i5 h => ?_)
    refine r_if_icmpge (tgt := 75) hK d_Ch_namesOwnComponent_23 (by decide) h (fun h => ?_) (fun h => ?_)
    · refine r_iconst (v := 0) hK d_Ch_namesOwnComponent_75 (by decide) ?_
      exact r_zreturn hK d_Ch_namesOwnComponent_76 h
    · refine r_aload_n hK d_Ch_namesOwnComponent_26 rfl 1 rfl ?_
      refine r_gR hK fd_Ch_0 w1_98 d_Ch_namesOwnComponent_27 h (fun p6 h => ?_)
      refine r_gR hK fd_Qu_0 w3_23 d_Ch_namesOwnComponent_30 h (fun p7 h => ?_)
      refine r_iload_n hK d_Ch_namesOwnComponent_33 rfl 0 rfl ?_
      refine r_aaload hK rfl ar_24 d_Ch_namesOwnComponent_34 h (fun p8 h => ?_)
      refine r_gI hK fd_Pa_15 w3_140 d_Ch_namesOwnComponent_35 h (fun i9 h => ?_)
      refine r_ifeq (tgt := 75) hK d_Ch_namesOwnComponent_38 (by decide) h (fun h => ?_) (fun h => ?_)
      · refine r_iconst (v := 0) hK d_Ch_namesOwnComponent_75 (by decide) ?_
        exact r_zreturn hK d_Ch_namesOwnComponent_76 h
      · refine r_aload_n hK d_Ch_namesOwnComponent_41 rfl 1 rfl ?_
        refine r_gR hK fd_Ch_0 w1_98 d_Ch_namesOwnComponent_42 h (fun p10 h => ?_)
        refine r_gR hK fd_Qu_0 w3_23 d_Ch_namesOwnComponent_45 h (fun p11 h => ?_)
        refine r_iload_n hK d_Ch_namesOwnComponent_48 rfl 0 rfl ?_
        refine r_aaload hK rfl ar_24 d_Ch_namesOwnComponent_49 h (fun p12 h => ?_)
        refine r_gI hK fd_Pa_14 w3_137 d_Ch_namesOwnComponent_50 h (fun i13 h => ?_)
        refine r_aload_n hK d_Ch_namesOwnComponent_53 rfl 1 rfl ?_
        refine r_gR hK fd_Ch_0 w1_98 d_Ch_namesOwnComponent_54 h (fun p14 h => ?_)
        refine r_gR hK fd_Qu_0 w3_23 d_Ch_namesOwnComponent_57 h (fun p15 h => ?_)
        refine r_aload_n hK d_Ch_namesOwnComponent_60 rfl 2 rfl ?_
        refine r_gI hK fd_So_6 w4_217 d_Ch_namesOwnComponent_61 h (fun i16 h => ?_)
        refine r_aaload hK rfl ar_24 d_Ch_namesOwnComponent_64 h (fun p17 h => ?_)
        refine r_gI hK fd_Pa_14 w3_137 d_Ch_namesOwnComponent_65 h (fun i18 h => ?_)
        refine r_if_icmpne (tgt := 75) hK d_Ch_namesOwnComponent_68 (by decide) h (fun h => ?_) (fun h => ?_)
        · refine r_iconst (v := 0) hK d_Ch_namesOwnComponent_75 (by decide) ?_
          exact r_zreturn hK d_Ch_namesOwnComponent_76 h
        · refine r_iconst (v := 1) hK d_Ch_namesOwnComponent_71 (by decide) ?_
          refine r_goto (tgt := 76) hK d_Ch_namesOwnComponent_72 (by decide) ?_
          exact r_zreturn hK d_Ch_namesOwnComponent_76 h
theorem c_Ch_namesOwnComponent (l : Launch) (G : g_G) (r0 : Option Nat) (r1 : Option Nat) (u : g_St) (o : (Int32 × g_St)) (h : f_Ch_namesOwnComponent r0 r1 u = some o) : g_Con l G y_Ch_namesOwnComponent b_Ch_namesOwnComponent 3 (Option.some Jvm.ClassFile.FieldType.boolean) 1 [g_r 3 r0, g_r 9 r1] u (g_jI o) :=
  g_Con.of rfl rfl (by decide +kernel) (Nat.le_of_ble_eq_true rfl) (fun K hK hN hD => t_Ch_namesOwnComponent_0 hK hN hD _ _ _ h)
def f_Ch_note (r0 : Option Nat) (x1 : Int32) (x2 : Int32) (s0 : g_St) : Option (Unit × g_St) :=
  if x1 = 0 then
    some ((), s0)
  else
    g_gI s0 195 r0 fun i1 =>
    if i1 ≤ x2 then
      some ((), s0)
    else
      g_pI s0 195 r0 x2 fun s2 =>
      some ((), s2)
set_option maxHeartbeats 4000000 in
set_option maxRecDepth 100000 in
theorem t_Ch_note_0 {K : g_C} {o : (Unit × g_St)} (hK : g_OK K b_Ch_note "FixpointEngine$Checker" "note" (Option.none : Option Jvm.ClassFile.FieldType)) (hN : g_nL K = 3) (hD : g_Kd K = 1) : ∀ (r0 : Option Nat) (x1 : Int32) (x2 : Int32) (s0 : g_St), f_Ch_note r0 x1 x2 s0 = some o → g_W K s0 [(0, g_r 3 r0), (1, g_i x1), (2, g_i x2)] [] 0 (g_jV o) := by
  intro r0 x1 x2 s0 h
  unfold f_Ch_note at h
  refine r_iload_n hK d_Ch_note_0 rfl 1 rfl ?_
  refine r_ifeq (tgt := 17) hK d_Ch_note_1 (by decide) h (fun h => ?_) (fun h => ?_)
  · exact r_return hK d_Ch_note_17 h
  · refine r_iload_n hK d_Ch_note_4 rfl 2 rfl ?_
    refine r_aload_n hK d_Ch_note_5 rfl 0 rfl ?_
    refine r_gI hK fd_Ch_3 w1_101 d_Ch_note_6 h (fun i1 h => ?_)
    refine r_if_icmpge (tgt := 17) hK d_Ch_note_9 (by decide) h (fun h => ?_) (fun h => ?_)
    · exact r_return hK d_Ch_note_17 h
    · refine r_aload_n hK d_Ch_note_12 rfl 0 rfl ?_
      refine r_iload_n hK d_Ch_note_13 rfl 2 rfl ?_
      refine r_pI hK fd_Ch_3 rfl w1_101 d_Ch_note_14 h (fun s2 h => ?_)
      exact r_return hK d_Ch_note_17 h
theorem c_Ch_note (l : Launch) (G : g_G) (r0 : Option Nat) (x1 : Int32) (x2 : Int32) (u : g_St) (o : (Unit × g_St)) (h : f_Ch_note r0 x1 x2 u = some o) : g_Con l G y_Ch_note b_Ch_note 3 (Option.none : Option Jvm.ClassFile.FieldType) 1 [g_r 3 r0, g_i x1, g_i x2] u (g_jV o) :=
  g_Con.of rfl rfl (by decide +kernel) (Nat.le_of_ble_eq_true rfl) (fun K hK hN hD => t_Ch_note_0 hK hN hD _ _ _ _ h)
def f_Ch_lookAtWidths_32 (k2 : Option Nat → Option Nat → Int32 → g_St → Option (Unit × g_St)) (r0 : Option Nat) (r1 : Option Nat) (x2 : Int32) (r0s : Option Nat) (x1s : Int32) (s0 : g_St) : Option (Unit × g_St) :=
  g_gR s0 647 r1 fun p1 =>
  g_aR s0 p1 x2 fun p2 =>
  g_gI s0 72 p2 fun i3 =>
  g_c (g_nn r0s (f_Ch_note r0s x1s i3 s0)) fun _ s5 =>
  k2 r0 r1 (x2 + 1) s5
def f_Ch_lookAtWidths_2 : Nat → Option Nat → Option Nat → Int32 → g_St → Option (Unit × g_St)
  | 0, _, _, _, _ => none
  | n + 1, r0, r1, x2, s0 =>
    g_gI s0 711 r1 fun i1 =>
    if i1 ≤ x2 then
      some ((), s0)
    else
      g_gR s0 647 r1 fun p2 =>
      g_aR s0 p2 x2 fun p3 =>
      g_gI s0 264 p3 fun i4 =>
      g_gI s0 135 r1 fun i5 =>
      if i4 = i5 then
        f_Ch_lookAtWidths_32 (f_Ch_lookAtWidths_2 n) r0 r1 x2 r0 0 s0
      else
        f_Ch_lookAtWidths_32 (f_Ch_lookAtWidths_2 n) r0 r1 x2 r0 1 s0
def f_Ch_lookAtWidths (r0 : Option Nat) (r1 : Option Nat) (s0 : g_St) : Option (Unit × g_St) :=
  f_Ch_lookAtWidths_2 100000 r0 r1 0 s0
set_option maxHeartbeats 4000000 in
set_option maxRecDepth 100000 in
theorem t_Ch_lookAtWidths_32 {K : g_C} {o : (Unit × g_St)} (hK : g_OK K b_Ch_lookAtWidths "FixpointEngine$Checker" "lookAtWidths" (Option.none : Option Jvm.ClassFile.FieldType)) (hN : g_nL K = 3) (hD : g_Kd K = 2) {k2 : Option Nat → Option Nat → Int32 → g_St → Option (Unit × g_St)} (hk2 : ∀ (r0 : Option Nat) (r1 : Option Nat) (x2 : Int32) (s0 : g_St), k2 r0 r1 x2 s0 = some o → g_W K s0 [(0, g_r 3 r0), (1, g_r 7 r1), (2, g_i x2)] [] 2 (g_jV o)) : ∀ (r0 : Option Nat) (r1 : Option Nat) (x2 : Int32) (r0s : Option Nat) (x1s : Int32) (s0 : g_St), f_Ch_lookAtWidths_32 k2 r0 r1 x2 r0s x1s s0 = some o → g_W K s0 [(0, g_r 3 r0), (1, g_r 7 r1), (2, g_i x2)] [g_i x1s, g_r 3 r0s] 32 (g_jV o) := by
  intro r0 r1 x2 r0s x1s s0 h
  unfold f_Ch_lookAtWidths_32 at h
  refine r_aload_n hK d_Ch_lookAtWidths_32 rfl 1 rfl ?_
  refine r_gR hK fd_Pa_10 w3_128 d_Ch_lookAtWidths_33 h (fun p1 h => ?_)
  refine r_iload_n hK d_Ch_lookAtWidths_36 rfl 2 rfl ?_
  refine r_aaload hK rfl ar_25 d_Ch_lookAtWidths_37 h (fun p2 h => ?_)
  refine r_gI hK fd_Se_1 w3_225 d_Ch_lookAtWidths_38 h (fun i3 h => ?_)
  refine r_Vv (avL := [g_i x1s, g_i i3]) (st := []) hK ob_Ch rfl w5_192 w5_193 w5_191 w5_194 w1_3 (by decide) pl_Ch_note (by rw [hD]; decide) (Nat.le_of_ble_eq_true rfl) rfl d_Ch_lookAtWidths_41 (fun o9 h9 => c_Ch_note _ _ _ _ _ _ o9 h9) h (fun s5 h => ?_)
  refine r_iinc (ls1 := [(2, g_i (x2 + 1)), (0, g_r 3 r0), (1, g_r 7 r1)]) hK d_Ch_lookAtWidths_44 2 rfl rfl (by rw [hN]; decide) rfl ?_
  refine r_goto (tgt := 2) hK d_Ch_lookAtWidths_47 (by decide) ?_
  exact r_sub [1, 2, 0] rfl (hk2 _ _ _ _ h)
set_option maxHeartbeats 4000000 in
set_option maxRecDepth 100000 in
theorem t_Ch_lookAtWidths_2 {K : g_C} {o : (Unit × g_St)} (hK : g_OK K b_Ch_lookAtWidths "FixpointEngine$Checker" "lookAtWidths" (Option.none : Option Jvm.ClassFile.FieldType)) (hN : g_nL K = 3) (hD : g_Kd K = 2) : ∀ (n : Nat) (r0 : Option Nat) (r1 : Option Nat) (x2 : Int32) (s0 : g_St), f_Ch_lookAtWidths_2 n r0 r1 x2 s0 = some o → g_W K s0 [(0, g_r 3 r0), (1, g_r 7 r1), (2, g_i x2)] [] 2 (g_jV o) := by
  intro n
  induction n with
  | zero =>
    intro r0 r1 x2 s0 h
    cases h
  | succ n ih =>
    intro r0 r1 x2 s0 h
    unfold f_Ch_lookAtWidths_2 at h
    refine r_iload_n hK d_Ch_lookAtWidths_2 rfl 2 rfl ?_
    refine r_aload_n hK d_Ch_lookAtWidths_3 rfl 1 rfl ?_
    refine r_gI hK fd_Pa_11 w3_131 d_Ch_lookAtWidths_4 h (fun i1 h => ?_)
    refine r_if_icmpge (tgt := 50) hK d_Ch_lookAtWidths_7 (by decide) h (fun h => ?_) (fun h => ?_)
    · exact r_return hK d_Ch_lookAtWidths_50 h
    · refine r_aload_n hK d_Ch_lookAtWidths_10 rfl 0 rfl ?_
      refine r_aload_n hK d_Ch_lookAtWidths_11 rfl 1 rfl ?_
      refine r_gR hK fd_Pa_10 w3_128 d_Ch_lookAtWidths_12 h (fun p2 h => ?_)
      refine r_iload_n hK d_Ch_lookAtWidths_15 rfl 2 rfl ?_
      refine r_aaload hK rfl ar_25 d_Ch_lookAtWidths_16 h (fun p3 h => ?_)
      refine r_gI hK fd_Se_4 w3_234 d_Ch_lookAtWidths_17 h (fun i4 h => ?_)
      refine r_aload_n hK d_Ch_lookAtWidths_20 rfl 1 rfl ?_
      refine r_gI hK fd_Pa_2 w3_100 d_Ch_lookAtWidths_21 h (fun i5 h => ?_)
      refine r_if_icmpeq (tgt := 31) hK d_Ch_lookAtWidths_24 (by decide) h (fun h => ?_) (fun h => ?_)
      · refine r_iconst (v := 0) hK d_Ch_lookAtWidths_31 (by decide) ?_
        exact r_sub [0, 1, 2] rfl (t_Ch_lookAtWidths_32 hK hN hD ih _ _ _ _ _ _ h)
      · refine r_iconst (v := 1) hK d_Ch_lookAtWidths_27 (by decide) ?_
        refine r_goto (tgt := 32) hK d_Ch_lookAtWidths_28 (by decide) ?_
        exact r_sub [0, 1, 2] rfl (t_Ch_lookAtWidths_32 hK hN hD ih _ _ _ _ _ _ h)
set_option maxHeartbeats 4000000 in
set_option maxRecDepth 100000 in
theorem t_Ch_lookAtWidths_0 {K : g_C} {o : (Unit × g_St)} (hK : g_OK K b_Ch_lookAtWidths "FixpointEngine$Checker" "lookAtWidths" (Option.none : Option Jvm.ClassFile.FieldType)) (hN : g_nL K = 3) (hD : g_Kd K = 2) : ∀ (r0 : Option Nat) (r1 : Option Nat) (s0 : g_St), f_Ch_lookAtWidths r0 r1 s0 = some o → g_W K s0 [(0, g_r 3 r0), (1, g_r 7 r1)] [] 0 (g_jV o) := by
  intro r0 r1 s0 h
  unfold f_Ch_lookAtWidths at h
  refine r_iconst (v := 0) hK d_Ch_lookAtWidths_0 (by decide) ?_
  refine r_istore_n (ls1 := [(2, g_i 0), (0, g_r 3 r0), (1, g_r 7 r1)]) hK d_Ch_lookAtWidths_1 rfl (by rw [hN]; decide) rfl ?_
  exact r_sub [1, 2, 0] rfl (t_Ch_lookAtWidths_2 hK hN hD _ _ _ _ _ h)
theorem c_Ch_lookAtWidths (l : Launch) (G : g_G) (r0 : Option Nat) (r1 : Option Nat) (u : g_St) (o : (Unit × g_St)) (h : f_Ch_lookAtWidths r0 r1 u = some o) : g_Con l G y_Ch_lookAtWidths b_Ch_lookAtWidths 3 (Option.none : Option Jvm.ClassFile.FieldType) 2 [g_r 3 r0, g_r 7 r1] u (g_jV o) :=
  g_Con.of rfl rfl (by decide +kernel) (Nat.le_of_ble_eq_true rfl) (fun K hK hN hD => t_Ch_lookAtWidths_0 hK hN hD _ _ _ h)
def f_Ch_namesItselfTwice_2 : Nat → Option Nat → Int32 → g_St → Option (Int32 × g_St)
  | 0, _, _, _ => none
  | n + 1, r0, x1, s0 =>
    g_gI s0 711 r0 fun i1 =>
    if i1 ≤ x1 then
      g_rZ 0 (some (0, s0))
    else
      g_gR s0 647 r0 fun p2 =>
      g_aR s0 p2 x1 fun p3 =>
      g_gI s0 648 p3 fun i4 =>
      if i4 ≤ 1 then
        f_Ch_namesItselfTwice_2 n r0 (x1 + 1) s0
      else
        g_rZ 1 (some (1, s0))
def f_Ch_namesItselfTwice (r0 : Option Nat) (s0 : g_St) : Option (Int32 × g_St) :=
  f_Ch_namesItselfTwice_2 100000 r0 0 s0
set_option maxHeartbeats 4000000 in
set_option maxRecDepth 100000 in
theorem t_Ch_namesItselfTwice_2 {K : g_C} {o : (Int32 × g_St)} (hK : g_OK K b_Ch_namesItselfTwice "FixpointEngine$Checker" "namesItselfTwice" (Option.some Jvm.ClassFile.FieldType.boolean)) (hN : g_nL K = 2) (hD : g_Kd K = 1) : ∀ (n : Nat) (r0 : Option Nat) (x1 : Int32) (s0 : g_St), f_Ch_namesItselfTwice_2 n r0 x1 s0 = some o → g_W K s0 [(0, g_r 7 r0), (1, g_i x1)] [] 2 (g_jI o) := by
  intro n
  induction n with
  | zero =>
    intro r0 x1 s0 h
    cases h
  | succ n ih =>
    intro r0 x1 s0 h
    unfold f_Ch_namesItselfTwice_2 at h
    refine r_iload_n hK d_Ch_namesItselfTwice_2 rfl 1 rfl ?_
    refine r_aload_n hK d_Ch_namesItselfTwice_3 rfl 0 rfl ?_
    refine r_gI hK fd_Pa_11 w3_131 d_Ch_namesItselfTwice_4 h (fun i1 h => ?_)
    refine r_if_icmpge (tgt := 31) hK d_Ch_namesItselfTwice_7 (by decide) h (fun h => ?_) (fun h => ?_)
    · refine r_iconst (v := 0) hK d_Ch_namesItselfTwice_31 (by decide) ?_
      exact r_zreturn hK d_Ch_namesItselfTwice_32 h
    · refine r_aload_n hK d_Ch_namesItselfTwice_10 rfl 0 rfl ?_
      refine r_gR hK fd_Pa_10 w3_128 d_Ch_namesItselfTwice_11 h (fun p2 h => ?_)
      refine r_iload_n hK d_Ch_namesItselfTwice_14 rfl 1 rfl ?_
      refine r_aaload hK rfl ar_25 d_Ch_namesItselfTwice_15 h (fun p3 h => ?_)
      refine r_gI hK fd_Se_10 w4_12 d_Ch_namesItselfTwice_16 h (fun i4 h => ?_)
      refine r_iconst (v := 1) hK d_Ch_namesItselfTwice_19 (by decide) ?_
      refine r_if_icmple (tgt := 25) hK d_Ch_namesItselfTwice_20 (by decide) h (fun h => ?_) (fun h => ?_)
      · refine r_iinc (ls1 := [(1, g_i (x1 + 1)), (0, g_r 7 r0)]) hK d_Ch_namesItselfTwice_25 1 rfl rfl (by rw [hN]; decide) rfl ?_
        refine r_goto (tgt := 2) hK d_Ch_namesItselfTwice_28 (by decide) ?_
        exact r_sub [1, 0] rfl (ih _ _ _ h)
      · refine r_iconst (v := 1) hK d_Ch_namesItselfTwice_23 (by decide) ?_
        exact r_zreturn hK d_Ch_namesItselfTwice_24 h
set_option maxHeartbeats 4000000 in
set_option maxRecDepth 100000 in
theorem t_Ch_namesItselfTwice_0 {K : g_C} {o : (Int32 × g_St)} (hK : g_OK K b_Ch_namesItselfTwice "FixpointEngine$Checker" "namesItselfTwice" (Option.some Jvm.ClassFile.FieldType.boolean)) (hN : g_nL K = 2) (hD : g_Kd K = 1) : ∀ (r0 : Option Nat) (s0 : g_St), f_Ch_namesItselfTwice r0 s0 = some o → g_W K s0 [(0, g_r 7 r0)] [] 0 (g_jI o) := by
  intro r0 s0 h
  unfold f_Ch_namesItselfTwice at h
  refine r_iconst (v := 0) hK d_Ch_namesItselfTwice_0 (by decide) ?_
  refine r_istore_n (ls1 := [(1, g_i 0), (0, g_r 7 r0)]) hK d_Ch_namesItselfTwice_1 rfl (by rw [hN]; decide) rfl ?_
  exact r_sub [1, 0] rfl (t_Ch_namesItselfTwice_2 hK hN hD _ _ _ _ h)
theorem c_Ch_namesItselfTwice (l : Launch) (G : g_G) (r0 : Option Nat) (u : g_St) (o : (Int32 × g_St)) (h : f_Ch_namesItselfTwice r0 u = some o) : g_Con l G y_Ch_namesItselfTwice b_Ch_namesItselfTwice 2 (Option.some Jvm.ClassFile.FieldType.boolean) 1 [g_r 7 r0] u (g_jI o) :=
  g_Con.of rfl rfl (by decide +kernel) (Nat.le_of_ble_eq_true rfl) (fun K hK hN hD => t_Ch_namesItselfTwice_0 hK hN hD _ _ h)
