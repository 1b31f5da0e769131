def f_Ch_init (r0 : Option Nat) (s0 : g_St) : Option (Unit × g_St) :=
  g_nn r0 (
  some ((), s0))
set_option maxHeartbeats 4000000 in
set_option maxRecDepth 100000 in
theorem t_Ch_init_0 {K : g_C} {o : (Unit × g_St)} (hK : g_OK K b_Ch_init "FixpointEngine$Checker" "<init>" (Option.none : Option Jvm.ClassFile.FieldType)) (hN : g_nL K = 1) (hD : g_Kd K = 2) : ∀ (r0 : Option Nat) (s0 : g_St), f_Ch_init r0 s0 = some o → g_W K s0 [(0, g_r 3 r0)] [] 0 (g_jV o) := by
  intro r0 s0 h
  unfold f_Ch_init at h
  refine r_aload_n hK d_Ch_init_0 rfl 0 rfl ?_
  refine r_objinit hK w1_97 (by rw [hD]; decide) (Nat.le_of_ble_eq_true rfl) d_Ch_init_1 h (fun h => ?_)
  exact r_return hK d_Ch_init_4 h
theorem c_Ch_init (l : Launch) (G : g_G) (r0 : Option Nat) (u : g_St) (o : (Unit × g_St)) (h : f_Ch_init r0 u = some o) : g_Con l G y_Ch_init b_Ch_init 1 (Option.none : Option Jvm.ClassFile.FieldType) 2 [g_r 3 r0] u (g_jV o) :=
  g_Con.of rfl rfl (by decide +kernel) (Nat.le_of_ble_eq_true rfl) (fun K hK hN hD hX => t_Ch_init_0 hK hN hD _ _ h)
def f_Ch_nameSources_41 (k2 : Option Nat → Int32 → g_St → Option (Unit × g_St)) : Nat → Option Nat → Int32 → Option Nat → Int32 → g_St → Option (Unit × g_St)
  | 0, _, _, _, _, _ => none
  | n + 1, r0, x1, r2, x3, s0 =>
    if x3 < 0 then
      g_gL s0 201 r2 fun j1 =>
      g_gI s0 393 r2 fun i2 =>
      if 0 ≤ i2 then
        k2 r0 (x1 + 1) s0
      else
        if (j1 - 29744) < 0 then
          k2 r0 (x1 + 1) s0
        else
          g_gI s0 131 r0 fun i3 =>
          if i3.toInt64 ≤ (j1 - 29744) then
            k2 r0 (x1 + 1) s0
          else
            g_pI s0 457 r2 ((j1 - 29744).toInt32) fun s4 =>
            k2 r0 (x1 + 1) s4
    else
      g_gR s0 3 r0 fun p5 =>
      g_gR s0 6 p5 fun p6 =>
      g_aR s0 p6 x3 fun p7 =>
      g_gL s0 7 p7 fun j8 =>
      g_gL s0 201 r2 fun j9 =>
      if j8 = j9 then
        g_pI s0 393 r2 x3 fun s10 =>
        f_Ch_nameSources_41 k2 n r0 x1 r2 (x3 + (-1)) s10
      else
        f_Ch_nameSources_41 k2 n r0 x1 r2 (x3 + (-1)) s0
def f_Ch_nameSources_2 : Nat → Option Nat → Int32 → g_St → Option (Unit × g_St)
  | 0, _, _, _ => none
  | n + 1, r0, x1, s0 =>
    g_gR s0 3 r0 fun p1 =>
    g_gR s0 518 p1 fun p2 =>
    g_c (g_nn p2 (f_Al_size p2 s0)) fun i3 s4 =>
    if i3 ≤ x1 then
      some ((), s4)
    else
      g_gR s4 3 r0 fun p5 =>
      g_gR s4 518 p5 fun p6 =>
      g_c (g_nn p6 (f_Al_get p6 x1 s4)) fun p7 s8 =>
      g_cast 9 p7 (
      g_gR s8 3 r0 fun p9 =>
      g_gI s8 70 p9 fun i10 =>
      f_Ch_nameSources_41 (f_Ch_nameSources_2 n) 200000 r0 x1 p7 (i10 - 1) s8)
def f_Ch_nameSources (r0 : Option Nat) (s0 : g_St) : Option (Unit × g_St) :=
  f_Ch_nameSources_2 200000 r0 0 s0
set_option maxHeartbeats 4000000 in
set_option maxRecDepth 100000 in
theorem t_Ch_nameSources_41 {K : g_C} {o : (Unit × g_St)} (hK : g_OK K b_Ch_nameSources "FixpointEngine$Checker" "nameSources" (Option.none : Option Jvm.ClassFile.FieldType)) (hN : g_nL K = 5) (hD : g_Kd K = 10) {k2 : Option Nat → Int32 → g_St → Option (Unit × g_St)} (hk2 : ∀ (r0 : Option Nat) (x1 : Int32) (s0 : g_St), k2 r0 x1 s0 = some o → g_W K s0 [(0, g_r 3 r0), (1, g_i x1)] [] 2 (g_jV o)) : ∀ (n : Nat) (r0 : Option Nat) (x1 : Int32) (r2 : Option Nat) (x3 : Int32) (s0 : g_St), f_Ch_nameSources_41 k2 n r0 x1 r2 x3 s0 = some o → g_W K s0 [(0, g_r 3 r0), (1, g_i x1), (2, g_r 9 r2), (3, g_i x3)] [] 41 (g_jV o) := by
  intro n
  induction n with
  | zero =>
    intro r0 x1 r2 x3 s0 h
    cases h
  | succ n ih =>
    intro r0 x1 r2 x3 s0 h
    unfold f_Ch_nameSources_41 at h
    refine r_iload_n hK d_Ch_nameSources_41 rfl 3 rfl ?_
    refine r_iflt (tgt := 76) hK d_Ch_nameSources_42 (by decide) h (fun h => ?_) (fun h => ?_)
    · refine r_aload_n hK d_Ch_nameSources_76 rfl 2 rfl ?_
      refine r_gL hK fd_So_3 w4_210 d_Ch_nameSources_77 h (fun j1 h => ?_)
      refine r_ldc2 hK w5_145 d_Ch_nameSources_80 ?_
      refine r_lsub hK d_Ch_nameSources_83 ?_
      refine r_lstore_n (ls1 := [(3, g_l (j1 - 29744)), (0, g_r 3 r0), (1, g_i x1), (2, g_r 9 r2)]) hK d_Ch_nameSources_84 rfl (by rw [hN]; decide) rfl ?_
      refine r_aload_n hK d_Ch_nameSources_85 rfl 3 rfl ?_
      refine r_gI hK fd_So_6 w4_217 d_Ch_nameSources_86 h (fun i2 h => ?_)
      refine r_ifge (tgt := 114) hK d_Ch_nameSources_89 (by decide) h (fun h => ?_) (fun h => ?_)
      · refine r_iinc (ls1 := [(1, g_i (x1 + 1)), (3, g_l (j1 - 29744)), (0, g_r 3 r0), (2, g_r 9 r2)]) hK d_Ch_nameSources_114 2 rfl rfl (by rw [hN]; decide) rfl ?_
        refine r_goto (tgt := 2) hK d_Ch_nameSources_117 (by decide) ?_
        exact r_sub [2, 0] rfl (hk2 _ _ _ h)
      · refine r_lload_n hK d_Ch_nameSources_92 rfl 0 rfl ?_
        refine r_lconst (v := 0) hK d_Ch_nameSources_93 (by decide) ?_
        refine r_liflt (tgt := 114) hK d_Ch_nameSources_94 d_Ch_nameSources_95 (by decide) h (fun h => ?_) (fun h => ?_)
        · refine r_iinc (ls1 := [(1, g_i (x1 + 1)), (3, g_l (j1 - 29744)), (0, g_r 3 r0), (2, g_r 9 r2)]) hK d_Ch_nameSources_114 2 rfl rfl (by rw [hN]; decide) rfl ?_
          refine r_goto (tgt := 2) hK d_Ch_nameSources_117 (by decide) ?_
          exact r_sub [2, 0] rfl (hk2 _ _ _ h)
        · refine r_lload_n hK d_Ch_nameSources_98 rfl 0 rfl ?_
          refine r_aload_n hK d_Ch_nameSources_99 rfl 1 rfl ?_
          refine r_gI hK fd_Ch_2 w1_100 d_Ch_nameSources_100 h (fun i3 h => ?_)
          refine r_i2l hK d_Ch_nameSources_103 ?_
          refine r_lifge (tgt := 114) hK d_Ch_nameSources_104 d_Ch_nameSources_105 (by decide) h (fun h => ?_) (fun h => ?_)
          · refine r_iinc (ls1 := [(1, g_i (x1 + 1)), (3, g_l (j1 - 29744)), (0, g_r 3 r0), (2, g_r 9 r2)]) hK d_Ch_nameSources_114 2 rfl rfl (by rw [hN]; decide) rfl ?_
            refine r_goto (tgt := 2) hK d_Ch_nameSources_117 (by decide) ?_
            exact r_sub [2, 0] rfl (hk2 _ _ _ h)
          · refine r_aload_n hK d_Ch_nameSources_108 rfl 3 rfl ?_
            refine r_lload_n hK d_Ch_nameSources_109 rfl 0 rfl ?_
            refine r_l2i hK d_Ch_nameSources_110 ?_
            refine r_pI hK fd_So_7 rfl w4_220 d_Ch_nameSources_111 h (fun s4 h => ?_)
            refine r_iinc (ls1 := [(1, g_i (x1 + 1)), (3, g_l (j1 - 29744)), (0, g_r 3 r0), (2, g_r 9 r2)]) hK d_Ch_nameSources_114 2 rfl rfl (by rw [hN]; decide) rfl ?_
            refine r_goto (tgt := 2) hK d_Ch_nameSources_117 (by decide) ?_
            exact r_sub [2, 0] rfl (hk2 _ _ _ h)
    · refine r_aload_n hK d_Ch_nameSources_45 rfl 0 rfl ?_
      refine r_gR hK fd_Ch_0 w1_98 d_Ch_nameSources_46 h (fun p5 h => ?_)
      refine r_gR hK fd_Qu_0 w3_23 d_Ch_nameSources_49 h (fun p6 h => ?_)
      refine r_iload_n hK d_Ch_nameSources_52 rfl 3 rfl ?_
      refine r_aaload hK rfl ar_24 rfl d_Ch_nameSources_53 h (fun p7 h => ?_)
      refine r_gL hK fd_Pa_0 w3_93 d_Ch_nameSources_54 h (fun j8 h => ?_)
      refine r_aload_n hK d_Ch_nameSources_57 rfl 2 rfl ?_
      refine r_gL hK fd_So_3 w4_210 d_Ch_nameSources_58 h (fun j9 h => ?_)
      refine r_lifne (tgt := 70) hK d_Ch_nameSources_61 d_Ch_nameSources_62 (by decide) h (fun h => ?_) (fun h => ?_)
      · refine r_iinc (ls1 := [(3, g_i (x3 + (-1))), (0, g_r 3 r0), (1, g_i x1), (2, g_r 9 r2)]) hK d_Ch_nameSources_70 3 rfl rfl (by rw [hN]; decide) rfl ?_
        refine r_goto (tgt := 41) hK d_Ch_nameSources_73 (by decide) ?_
        exact r_sub [1, 2, 3, 0] rfl (ih _ _ _ _ _ h)
      · refine r_aload_n hK d_Ch_nameSources_65 rfl 2 rfl ?_
        refine r_iload_n hK d_Ch_nameSources_66 rfl 3 rfl ?_
        refine r_pI hK fd_So_6 rfl w4_217 d_Ch_nameSources_67 h (fun s10 h => ?_)
        refine r_iinc (ls1 := [(3, g_i (x3 + (-1))), (0, g_r 3 r0), (1, g_i x1), (2, g_r 9 r2)]) hK d_Ch_nameSources_70 3 rfl rfl (by rw [hN]; decide) rfl ?_
        refine r_goto (tgt := 41) hK d_Ch_nameSources_73 (by decide) ?_
        exact r_sub [1, 2, 3, 0] rfl (ih _ _ _ _ _ h)
set_option maxHeartbeats 4000000 in
set_option maxRecDepth 100000 in
theorem t_Ch_nameSources_2 {K : g_C} {o : (Unit × g_St)} (hK : g_OK K b_Ch_nameSources "FixpointEngine$Checker" "nameSources" (Option.none : Option Jvm.ClassFile.FieldType)) (hN : g_nL K = 5) (hD : g_Kd K = 10) : ∀ (n : Nat) (r0 : Option Nat) (x1 : Int32) (s0 : g_St), f_Ch_nameSources_2 n r0 x1 s0 = some o → g_W K s0 [(0, g_r 3 r0), (1, g_i x1)] [] 2 (g_jV o) := by
  intro n
  induction n with
  | zero =>
    intro r0 x1 s0 h
    cases h
  | succ n ih =>
    intro r0 x1 s0 h
    unfold f_Ch_nameSources_2 at h
    refine r_iload_n hK d_Ch_nameSources_2 rfl 1 rfl ?_
    refine r_aload_n hK d_Ch_nameSources_3 rfl 0 rfl ?_
    refine r_gR hK fd_Ch_0 w1_98 d_Ch_nameSources_4 h (fun p1 h => ?_)
    refine r_gR hK fd_Qu_8 w3_47 d_Ch_nameSources_7 h (fun p2 h => ?_)
    refine r_Vi (avL := []) (st := [g_i x1]) hK ob_Al rfl w5_129 w5_130 w5_128 w5_131 w1_21 (by decide) pl_Al_size (by rw [hD]; decide) (Nat.le_of_ble_eq_true rfl) rfl d_Ch_nameSources_10 (fun o9 h9 => c_Al_size _ _ _ _ o9 h9) h (fun i3 s4 h => ?_)
    refine r_if_icmpge (tgt := 120) hK d_Ch_nameSources_13 (by decide) h (fun h => ?_) (fun h => ?_)
    · exact r_return hK d_Ch_nameSources_120 h
    · refine r_aload_n hK d_Ch_nameSources_16 rfl 0 rfl ?_
      refine r_gR hK fd_Ch_0 w1_98 d_Ch_nameSources_17 h (fun p5 h => ?_)
      refine r_gR hK fd_Qu_8 w3_47 d_Ch_nameSources_20 h (fun p6 h => ?_)
      refine r_iload_n hK d_Ch_nameSources_23 rfl 1 rfl ?_
      refine r_Vr (avL := [g_i x1]) (st := []) hK ob_Al rfl w5_133 w5_134 w5_132 w5_135 w1_21 (by decide) pl_Al_get (by rw [hD]; decide) (Nat.le_of_ble_eq_true rfl) rfl d_Ch_nameSources_24 (fun o9 h9 => c_Al_get _ _ _ _ _ o9 h9) h (fun p7 s8 h => ?_)
      refine r_cast hK ob_So rfl rfl w5_144 w9_233 d_Ch_nameSources_27 h (fun h => ?_)
      refine r_astore_n (ls1 := [(2, g_r 9 p7), (0, g_r 3 r0), (1, g_i x1)]) hK d_Ch_nameSources_30 rfl (by rw [hN]; decide) rfl ?_
      refine r_aload_n hK d_Ch_nameSources_31 rfl 1 rfl ?_
      refine r_gR hK fd_Ch_0 w1_98 d_Ch_nameSources_32 h (fun p9 h => ?_)
      refine r_gI hK fd_Qu_1 w3_27 d_Ch_nameSources_35 h (fun i10 h => ?_)
      refine r_iconst (v := 1) hK d_Ch_nameSources_38 (by decide) ?_
      refine r_isub hK d_Ch_nameSources_39 ?_
      refine r_istore_n (ls1 := [(3, g_i (i10 - 1)), (2, g_r 9 p7), (0, g_r 3 r0), (1, g_i x1)]) hK d_Ch_nameSources_40 rfl (by rw [hN]; decide) rfl ?_
      exact r_sub [2, 3, 1, 0] rfl (t_Ch_nameSources_41 hK hN hD ih _ _ _ _ _ _ h)
set_option maxHeartbeats 4000000 in
set_option maxRecDepth 100000 in
theorem t_Ch_nameSources_0 {K : g_C} {o : (Unit × g_St)} (hK : g_OK K b_Ch_nameSources "FixpointEngine$Checker" "nameSources" (Option.none : Option Jvm.ClassFile.FieldType)) (hN : g_nL K = 5) (hD : g_Kd K = 10) : ∀ (r0 : Option Nat) (s0 : g_St), f_Ch_nameSources r0 s0 = some o → g_W K s0 [(0, g_r 3 r0)] [] 0 (g_jV o) := by
  intro r0 s0 h
  unfold f_Ch_nameSources at h
  refine r_iconst (v := 0) hK d_Ch_nameSources_0 (by decide) ?_
  refine r_istore_n (ls1 := [(1, g_i 0), (0, g_r 3 r0)]) hK d_Ch_nameSources_1 rfl (by rw [hN]; decide) rfl ?_
  exact r_sub [1, 0] rfl (t_Ch_nameSources_2 hK hN hD _ _ _ _ h)
theorem c_Ch_nameSources (l : Launch) (G : g_G) (r0 : Option Nat) (u : g_St) (o : (Unit × g_St)) (h : f_Ch_nameSources r0 u = some o) : g_Con l G y_Ch_nameSources b_Ch_nameSources 5 (Option.none : Option Jvm.ClassFile.FieldType) 10 [g_r 3 r0] u (g_jV o) :=
  g_Con.of rfl rfl (by decide +kernel) (Nat.le_of_ble_eq_true rfl) (fun K hK hN hD hX => t_Ch_nameSources_0 hK hN hD _ _ h)
def f_Ch_knownSource_2 : Nat → Option Nat → Int32 → g_St → Option (Option Nat × g_St)
  | 0, _, _, _ => none
  | n + 1, r0, x1, s0 =>
    g_gR s0 139 r0 fun p1 =>
    g_gI s0 456 p1 fun i2 =>
    if i2 ≤ x1 then
      g_gR s0 203 r0 fun p3 =>
      if p3 = none then
        some (none, s0)
      else
        g_gR s0 203 r0 fun p4 =>
        g_gR s0 202 p4 fun p5 =>
        if p5 = none then
          some (none, s0)
        else
          g_gR s0 203 r0 fun p6 =>
          g_gR s0 202 p6 fun p7 =>
          g_gL s0 329 p7 fun j8 =>
          g_gL s0 331 r0 fun j9 =>
          if j8 = j9 then
            g_gR s0 203 r0 fun p10 =>
            g_gR s0 202 p10 fun p11 =>
            some (p11, s0)
          else
            some (none, s0)
    else
      g_gR s0 139 r0 fun p12 =>
      g_gR s0 392 p12 fun p13 =>
      g_aR s0 p13 x1 fun p14 =>
      g_gL s0 329 p14 fun j15 =>
      g_gL s0 331 r0 fun j16 =>
      if j15 = j16 then
        g_gR s0 139 r0 fun p17 =>
        g_gR s0 392 p17 fun p18 =>
        g_aR s0 p18 x1 fun p19 =>
        some (p19, s0)
      else
        f_Ch_knownSource_2 n r0 (x1 + 1) s0
def f_Ch_knownSource (r0 : Option Nat) (s0 : g_St) : Option (Option Nat × g_St) :=
  f_Ch_knownSource_2 200000 r0 0 s0
set_option maxHeartbeats 4000000 in
set_option maxRecDepth 100000 in
theorem t_Ch_knownSource_2 {K : g_C} {o : (Option Nat × g_St)} (hK : g_OK K b_Ch_knownSource "FixpointEngine$Checker" "knownSource" (Option.some (Jvm.ClassFile.FieldType.object "FixpointEngine$Source"))) (hN : g_nL K = 2) (hD : g_Kd K = 1) : ∀ (n : Nat) (r0 : Option Nat) (x1 : Int32) (s0 : g_St), f_Ch_knownSource_2 n r0 x1 s0 = some o → g_W K s0 [(0, g_r 11 r0), (1, g_i x1)] [] 2 (g_jR 9 o) := by
  intro n
  induction n with
  | zero =>
    intro r0 x1 s0 h
    cases h
  | succ n ih =>
    intro r0 x1 s0 h
    unfold f_Ch_knownSource_2 at h
    refine r_iload_n hK d_Ch_knownSource_2 rfl 1 rfl ?_
    refine r_aload_n hK d_Ch_knownSource_3 rfl 0 rfl ?_
    refine r_gR hK fd_Te_2 w4_74 d_Ch_knownSource_4 h (fun p1 h => ?_)
    refine r_gI hK fd_Se_7 w4_4 d_Ch_knownSource_7 h (fun i2 h => ?_)
    refine r_if_icmpge (tgt := 49) hK d_Ch_knownSource_10 (by decide) h (fun h => ?_) (fun h => ?_)
    · refine r_aload_n hK d_Ch_knownSource_49 rfl 0 rfl ?_
      refine r_gR hK fd_Te_3 w4_76 d_Ch_knownSource_50 h (fun p3 h => ?_)
      refine r_ifnull (tgt := 84) hK d_Ch_knownSource_53 (by decide) h (fun h => ?_) (fun h => ?_)
      · refine r_null hK 9 d_Ch_knownSource_84 ?_
        exact r_areturn (Or.inl ⟨_, rfl⟩) hK d_Ch_knownSource_85 h
      · refine r_aload_n hK d_Ch_knownSource_56 rfl 0 rfl ?_
        refine r_gR hK fd_Te_3 w4_76 d_Ch_knownSource_57 h (fun p4 h => ?_)
        refine r_gR hK fd_Co_3 w5_40 d_Ch_knownSource_60 h (fun p5 h => ?_)
        refine r_ifnull (tgt := 84) hK d_Ch_knownSource_63 (by decide) h (fun h => ?_) (fun h => ?_)
        · refine r_null hK 9 d_Ch_knownSource_84 ?_
          exact r_areturn (Or.inl ⟨_, rfl⟩) hK d_Ch_knownSource_85 h
        · refine r_aload_n hK d_Ch_knownSource_66 rfl 0 rfl ?_
          refine r_gR hK fd_Te_3 w4_76 d_Ch_knownSource_67 h (fun p6 h => ?_)
          refine r_gR hK fd_Co_3 w5_40 d_Ch_knownSource_70 h (fun p7 h => ?_)
          refine r_gL hK fd_So_5 w4_214 d_Ch_knownSource_73 h (fun j8 h => ?_)
          refine r_aload_n hK d_Ch_knownSource_76 rfl 0 rfl ?_
          refine r_gL hK fd_Te_5 w4_79 d_Ch_knownSource_77 h (fun j9 h => ?_)
          refine r_lifeq (tgt := 86) hK d_Ch_knownSource_80 d_Ch_knownSource_81 (by decide) h (fun h => ?_) (fun h => ?_)
          · refine r_aload_n hK d_Ch_knownSource_86 rfl 0 rfl ?_
            refine r_gR hK fd_Te_3 w4_76 d_Ch_knownSource_87 h (fun p10 h => ?_)
            refine r_gR hK fd_Co_3 w5_40 d_Ch_knownSource_90 h (fun p11 h => ?_)
            exact r_areturn (Or.inl ⟨_, rfl⟩) hK d_Ch_knownSource_93 h
          · refine r_null hK 9 d_Ch_knownSource_84 ?_
            exact r_areturn (Or.inl ⟨_, rfl⟩) hK d_Ch_knownSource_85 h
    · refine r_aload_n hK d_Ch_knownSource_13 rfl 0 rfl ?_
      refine r_gR hK fd_Te_2 w4_74 d_Ch_knownSource_14 h (fun p12 h => ?_)
      refine r_gR hK fd_Se_6 w4_1 d_Ch_knownSource_17 h (fun p13 h => ?_)
      refine r_iload_n hK d_Ch_knownSource_20 rfl 1 rfl ?_
      refine r_aaload hK rfl ar_27 rfl d_Ch_knownSource_21 h (fun p14 h => ?_)
      refine r_gL hK fd_So_5 w4_214 d_Ch_knownSource_22 h (fun j15 h => ?_)
      refine r_aload_n hK d_Ch_knownSource_25 rfl 0 rfl ?_
      refine r_gL hK fd_Te_5 w4_79 d_Ch_knownSource_26 h (fun j16 h => ?_)
      refine r_lifne (tgt := 43) hK d_Ch_knownSource_29 d_Ch_knownSource_30 (by decide) h (fun h => ?_) (fun h => ?_)
      · refine r_iinc (ls1 := [(1, g_i (x1 + 1)), (0, g_r 11 r0)]) hK d_Ch_knownSource_43 1 rfl rfl (by rw [hN]; decide) rfl ?_
        refine r_goto (tgt := 2) hK d_Ch_knownSource_46 (by decide) ?_
        exact r_sub [1, 0] rfl (ih _ _ _ h)
      · refine r_aload_n hK d_Ch_knownSource_33 rfl 0 rfl ?_
        refine r_gR hK fd_Te_2 w4_74 d_Ch_knownSource_34 h (fun p17 h => ?_)
        refine r_gR hK fd_Se_6 w4_1 d_Ch_knownSource_37 h (fun p18 h => ?_)
        refine r_iload_n hK d_Ch_knownSource_40 rfl 1 rfl ?_
        refine r_aaload hK rfl ar_27 rfl d_Ch_knownSource_41 h (fun p19 h => ?_)
        exact r_areturn (Or.inl ⟨_, rfl⟩) hK d_Ch_knownSource_42 h
set_option maxHeartbeats 4000000 in
set_option maxRecDepth 100000 in
theorem t_Ch_knownSource_0 {K : g_C} {o : (Option Nat × g_St)} (hK : g_OK K b_Ch_knownSource "FixpointEngine$Checker" "knownSource" (Option.some (Jvm.ClassFile.FieldType.object "FixpointEngine$Source"))) (hN : g_nL K = 2) (hD : g_Kd K = 1) : ∀ (r0 : Option Nat) (s0 : g_St), f_Ch_knownSource r0 s0 = some o → g_W K s0 [(0, g_r 11 r0)] [] 0 (g_jR 9 o) := by
  intro r0 s0 h
  unfold f_Ch_knownSource at h
  refine r_iconst (v := 0) hK d_Ch_knownSource_0 (by decide) ?_
  refine r_istore_n (ls1 := [(1, g_i 0), (0, g_r 11 r0)]) hK d_Ch_knownSource_1 rfl (by rw [hN]; decide) rfl ?_
  exact r_sub [1, 0] rfl (t_Ch_knownSource_2 hK hN hD _ _ _ _ h)
theorem c_Ch_knownSource (l : Launch) (G : g_G) (r0 : Option Nat) (u : g_St) (o : (Option Nat × g_St)) (h : f_Ch_knownSource r0 u = some o) : g_Con l G y_Ch_knownSource b_Ch_knownSource 2 (Option.some (Jvm.ClassFile.FieldType.object "FixpointEngine$Source")) 1 [g_r 11 r0] u (g_jR 9 o) :=
  g_Con.of rfl rfl (by decide +kernel) (Nat.le_of_ble_eq_true rfl) (fun K hK hN hD hX => t_Ch_knownSource_0 hK hN hD _ _ h)
def f_Ch_indexIn_99 (y4 : Int64) (x0s : Int32) (s0 : g_St) : Option (Int32 × g_St) :=
  if x0s = 0 then
    some ((-1), s0)
  else
    some (y4.toInt32, s0)
def f_Ch_indexIn_24 : Nat → Int64 → Option Nat → Int32 → g_St → Option (Int32 × g_St)
  | 0, _, _, _, _ => none
  | n + 1, y2, r4, x5, s0 =>
    if 4 < x5 then
      some ((-1), s0)
    else
      g_gR s0 199 r4 fun p1 =>
      g_aL s0 p1 x5 fun j2 =>
      if j2 = y2 then
        some (x5, s0)
      else
        f_Ch_indexIn_24 n y2 r4 (x5 + 1) s0
def f_Ch_indexIn (r0 : Option Nat) (r1 : Option Nat) (y2 : Int64) (s0 : g_St) : Option (Int32 × g_St) :=
  g_gI s0 393 r1 fun i1 =>
  if i1 < 0 then
    g_gI s0 457 r1 fun i2 =>
    if i2 < 0 then
      f_Ch_indexIn_99 (y2 - 97) 0 s0
    else
      if (y2 - 97) < 0 then
        f_Ch_indexIn_99 (y2 - 97) 0 s0
      else
        g_gR s0 67 r0 fun p3 =>
        g_gI s0 457 r1 fun i4 =>
        g_aR s0 p3 i4 fun p5 =>
        g_gI s0 5 p5 fun i6 =>
        if i6.toInt64 ≤ (y2 - 97) then
          f_Ch_indexIn_99 (y2 - 97) 0 s0
        else
          f_Ch_indexIn_99 (y2 - 97) 1 s0
  else
    g_gR s0 3 r0 fun p7 =>
    g_gR s0 6 p7 fun p8 =>
    g_gI s0 393 r1 fun i9 =>
    g_aR s0 p8 i9 fun p10 =>
    f_Ch_indexIn_24 200000 y2 p10 0 s0
set_option maxHeartbeats 4000000 in
set_option maxRecDepth 100000 in
theorem t_Ch_indexIn_99 {K : g_C} {o : (Int32 × g_St)} (hK : g_OK K b_Ch_indexIn "FixpointEngine$Checker" "indexIn" (Option.some Jvm.ClassFile.FieldType.int)) (hN : g_nL K = 7) (hD : g_Kd K = 1) : ∀ (y4 : Int64) (x0s : Int32) (s0 : g_St), f_Ch_indexIn_99 y4 x0s s0 = some o → g_W K s0 [(4, g_l y4)] [g_i x0s] 99 (g_jI o) := by
  intro y4 x0s s0 h
  unfold f_Ch_indexIn_99 at h
  refine r_istore (ls1 := [(6, g_i x0s), (4, g_l y4)]) hK d_Ch_indexIn_99 (by rw [hN]; decide) rfl ?_
  refine r_iload hK d_Ch_indexIn_101 0 rfl ?_
  refine r_ifeq (tgt := 112) hK d_Ch_indexIn_103 (by decide) h (fun h => ?_) (fun h => ?_)
  · refine r_iconst (v := (-1)) hK d_Ch_indexIn_112 (by decide) ?_
    exact r_ireturn hK d_Ch_indexIn_113 h
  · refine r_lload hK d_Ch_indexIn_106 1 rfl ?_
    refine r_l2i hK d_Ch_indexIn_108 ?_
    refine r_goto (tgt := 113) hK d_Ch_indexIn_109 (by decide) ?_
    exact r_ireturn hK d_Ch_indexIn_113 h
set_option maxHeartbeats 4000000 in
set_option maxRecDepth 100000 in
theorem t_Ch_indexIn_24 {K : g_C} {o : (Int32 × g_St)} (hK : g_OK K b_Ch_indexIn "FixpointEngine$Checker" "indexIn" (Option.some Jvm.ClassFile.FieldType.int)) (hN : g_nL K = 7) (hD : g_Kd K = 1) : ∀ (n : Nat) (y2 : Int64) (r4 : Option Nat) (x5 : Int32) (s0 : g_St), f_Ch_indexIn_24 n y2 r4 x5 s0 = some o → g_W K s0 [(2, g_l y2), (4, g_r 7 r4), (5, g_i x5)] [] 24 (g_jI o) := by
  intro n
  induction n with
  | zero =>
    intro y2 r4 x5 s0 h
    cases h
  | succ n ih =>
    intro y2 r4 x5 s0 h
    unfold f_Ch_indexIn_24 at h
    refine r_iload hK d_Ch_indexIn_24 2 rfl ?_
    refine r_iconst (v := 4) hK d_Ch_indexIn_26 (by decide) ?_
    refine r_if_icmpgt (tgt := 52) hK d_Ch_indexIn_27 (by decide) h (fun h => ?_) (fun h => ?_)
    · refine r_iconst (v := (-1)) hK d_Ch_indexIn_52 (by decide) ?_
      exact r_ireturn hK d_Ch_indexIn_53 h
    · refine r_aload hK d_Ch_indexIn_30 1 rfl ?_
      refine r_gR hK fd_Pa_3 w3_103 d_Ch_indexIn_32 h (fun p1 h => ?_)
      refine r_iload hK d_Ch_indexIn_35 2 rfl ?_
      refine r_laload hK ar_21 rfl d_Ch_indexIn_37 h (fun j2 h => ?_)
      refine r_lload_n hK d_Ch_indexIn_38 rfl 0 rfl ?_
      refine r_lifne (tgt := 46) hK d_Ch_indexIn_39 d_Ch_indexIn_40 (by decide) h (fun h => ?_) (fun h => ?_)
      · refine r_iinc (ls1 := [(5, g_i (x5 + 1)), (2, g_l y2), (4, g_r 7 r4)]) hK d_Ch_indexIn_46 2 rfl rfl (by rw [hN]; decide) rfl ?_
        refine r_goto (tgt := 24) hK d_Ch_indexIn_49 (by decide) ?_
        exact r_sub [1, 2, 0] rfl (ih _ _ _ _ h)
      · refine r_iload hK d_Ch_indexIn_43 2 rfl ?_
        exact r_ireturn hK d_Ch_indexIn_45 h
set_option maxHeartbeats 4000000 in
set_option maxRecDepth 100000 in
theorem t_Ch_indexIn_0 {K : g_C} {o : (Int32 × g_St)} (hK : g_OK K b_Ch_indexIn "FixpointEngine$Checker" "indexIn" (Option.some Jvm.ClassFile.FieldType.int)) (hN : g_nL K = 7) (hD : g_Kd K = 1) : ∀ (r0 : Option Nat) (r1 : Option Nat) (y2 : Int64) (s0 : g_St), f_Ch_indexIn r0 r1 y2 s0 = some o → g_W K s0 [(0, g_r 3 r0), (1, g_r 9 r1), (2, g_l y2)] [] 0 (g_jI o) := by
  intro r0 r1 y2 s0 h
  unfold f_Ch_indexIn at h
  refine r_aload_n hK d_Ch_indexIn_0 rfl 1 rfl ?_
  refine r_gI hK fd_So_6 w4_217 d_Ch_indexIn_1 h (fun i1 h => ?_)
  refine r_iflt (tgt := 54) hK d_Ch_indexIn_4 (by decide) h (fun h => ?_) (fun h => ?_)
  · refine r_lload_n hK d_Ch_indexIn_54 rfl 2 rfl ?_
    refine r_ldc2 hK w5_162 d_Ch_indexIn_55 ?_
    refine r_lsub hK d_Ch_indexIn_58 ?_
    refine r_lstore (ls1 := [(4, g_l (y2 - 97)), (0, g_r 3 r0), (1, g_r 9 r1), (2, g_l y2)]) hK d_Ch_indexIn_59 (by rw [hN]; decide) rfl ?_
    refine r_aload_n hK d_Ch_indexIn_61 rfl 2 rfl ?_
    refine r_gI hK fd_So_7 w4_220 d_Ch_indexIn_62 h (fun i2 h => ?_)
    refine r_iflt (tgt := 98) hK d_Ch_indexIn_65 (by decide) h (fun h => ?_) (fun h => ?_)
    · refine r_iconst (v := 0) hK d_Ch_indexIn_98 (by decide) ?_
      exact r_sub [0] rfl (t_Ch_indexIn_99 hK hN hD _ _ _ h)
    · refine r_lload hK d_Ch_indexIn_68 0 rfl ?_
      refine r_lconst (v := 0) hK d_Ch_indexIn_70 (by decide) ?_
      refine r_liflt (tgt := 98) hK d_Ch_indexIn_71 d_Ch_indexIn_72 (by decide) h (fun h => ?_) (fun h => ?_)
      · refine r_iconst (v := 0) hK d_Ch_indexIn_98 (by decide) ?_
        exact r_sub [0] rfl (t_Ch_indexIn_99 hK hN hD _ _ _ h)
      · refine r_lload hK d_Ch_indexIn_75 0 rfl ?_
        refine r_aload_n hK d_Ch_indexIn_77 rfl 1 rfl ?_
        refine r_gR hK fd_Ch_1 w1_99 d_Ch_indexIn_78 h (fun p3 h => ?_)
        refine r_aload_n hK d_Ch_indexIn_81 rfl 2 rfl ?_
        refine r_gI hK fd_So_7 w4_220 d_Ch_indexIn_82 h (fun i4 h => ?_)
        refine r_aaload hK rfl ar_29 rfl d_Ch_indexIn_85 h (fun p5 h => ?_)
        refine r_gI hK fd_Rl_0 w1_124 d_Ch_indexIn_86 h (fun i6 h => ?_)
        refine r_i2l hK d_Ch_indexIn_89 ?_
        refine r_lifge (tgt := 98) hK d_Ch_indexIn_90 d_Ch_indexIn_91 (by decide) h (fun h => ?_) (fun h => ?_)
        · refine r_iconst (v := 0) hK d_Ch_indexIn_98 (by decide) ?_
          exact r_sub [0] rfl (t_Ch_indexIn_99 hK hN hD _ _ _ h)
        · refine r_iconst (v := 1) hK d_Ch_indexIn_94 (by decide) ?_
          refine r_goto (tgt := 99) hK d_Ch_indexIn_95 (by decide) ?_
          exact r_sub [0] rfl (t_Ch_indexIn_99 hK hN hD _ _ _ h)
  · refine r_aload_n hK d_Ch_indexIn_7 rfl 0 rfl ?_
    refine r_gR hK fd_Ch_0 w1_98 d_Ch_indexIn_8 h (fun p7 h => ?_)
    refine r_gR hK fd_Qu_0 w3_23 d_Ch_indexIn_11 h (fun p8 h => ?_)
    refine r_aload_n hK d_Ch_indexIn_14 rfl 1 rfl ?_
    refine r_gI hK fd_So_6 w4_217 d_Ch_indexIn_15 h (fun i9 h => ?_)
    refine r_aaload hK rfl ar_24 rfl d_Ch_indexIn_18 h (fun p10 h => ?_)
    refine r_astore (ls1 := [(4, g_r 7 p10), (0, g_r 3 r0), (1, g_r 9 r1), (2, g_l y2)]) hK d_Ch_indexIn_19 (by rw [hN]; decide) rfl ?_
    refine r_iconst (v := 0) hK d_Ch_indexIn_21 (by decide) ?_
    refine r_istore (ls1 := [(5, g_i 0), (4, g_r 7 p10), (0, g_r 3 r0), (1, g_r 9 r1), (2, g_l y2)]) hK d_Ch_indexIn_22 (by rw [hN]; decide) rfl ?_
    exact r_sub [4, 1, 0] rfl (t_Ch_indexIn_24 hK hN hD _ _ _ _ _ h)
theorem c_Ch_indexIn (l : Launch) (G : g_G) (r0 : Option Nat) (r1 : Option Nat) (y2 : Int64) (u : g_St) (o : (Int32 × g_St)) (h : f_Ch_indexIn r0 r1 y2 u = some o) : g_Con l G y_Ch_indexIn b_Ch_indexIn 7 (Option.some Jvm.ClassFile.FieldType.int) 1 [g_r 3 r0, g_r 9 r1, g_l y2] u (g_jI o) :=
  g_Con.of rfl rfl (by decide +kernel) (Nat.le_of_ble_eq_true rfl) (fun K hK hN hD hX => t_Ch_indexIn_0 hK hN hD _ _ _ _ h)
def f_Ch_nameColumns_50 : Nat → Option Nat → Int32 → g_St → Option (Unit × g_St)
  | 0, _, _, _ => none
  | n + 1, r0, x1, s0 =>
    g_gR s0 3 r0 fun p1 =>
    g_gR s0 582 p1 fun p2 =>
    g_c (g_nn p2 (f_Al_size p2 s0)) fun i3 s4 =>
    if i3 ≤ x1 then
      some ((), s4)
    else
      g_gR s4 3 r0 fun p5 =>
      g_gR s4 582 p5 fun p6 =>
      g_c (g_nn p6 (f_Al_get p6 x1 s4)) fun p7 s8 =>
      g_cast 11 p7 (
      g_c (f_Ch_knownSource p7 s8) fun p9 s10 =>
      g_pR s10 523 p7 p9 fun s11 =>
      g_gR s11 523 p7 fun p12 =>
      if p12 = none then
        g_pI s11 587 p7 (-1) fun s18 =>
        f_Ch_nameColumns_50 n r0 (x1 + 1) s18
      else
        g_gR s11 523 p7 fun p13 =>
        g_gL s11 395 p7 fun j14 =>
        g_c (g_nn r0 (f_Ch_indexIn r0 p13 j14 s11)) fun i15 s16 =>
        g_pI s16 587 p7 i15 fun s17 =>
        f_Ch_nameColumns_50 n r0 (x1 + 1) s17)
def f_Ch_nameColumns_2 : Nat → Option Nat → Int32 → g_St → Option (Unit × g_St)
  | 0, _, _, _ => none
  | n + 1, r0, x1, s0 =>
    g_gR s0 3 r0 fun p1 =>
    g_gI s0 70 p1 fun i2 =>
    if i2 ≤ x1 then
      f_Ch_nameColumns_50 200000 r0 0 s0
    else
      g_gR s0 3 r0 fun p3 =>
      g_gR s0 6 p3 fun p4 =>
      g_aR s0 p4 x1 fun p5 =>
      g_c (g_nn p5 (f_Pa_columnNamedAt p5 5 s0)) fun i6 s7 =>
      g_pI s7 1031 p5 i6 fun s8 =>
      g_c (g_nn p5 (f_Pa_columnNamedAt p5 6 s8)) fun i9 s10 =>
      g_pI s10 1095 p5 i9 fun s11 =>
      f_Ch_nameColumns_2 n r0 (x1 + 1) s11
def f_Ch_nameColumns (r0 : Option Nat) (s0 : g_St) : Option (Unit × g_St) :=
  f_Ch_nameColumns_2 200000 r0 0 s0
set_option maxHeartbeats 4000000 in
set_option maxRecDepth 100000 in
theorem t_Ch_nameColumns_50 {K : g_C} {o : (Unit × g_St)} (hK : g_OK K b_Ch_nameColumns "FixpointEngine$Checker" "nameColumns" (Option.none : Option Jvm.ClassFile.FieldType)) (hN : g_nL K = 3) (hD : g_Kd K = 10) : ∀ (n : Nat) (r0 : Option Nat) (x1 : Int32) (s0 : g_St), f_Ch_nameColumns_50 n r0 x1 s0 = some o → g_W K s0 [(0, g_r 3 r0), (1, g_i x1)] [] 50 (g_jV o) := by
  intro n
  induction n with
  | zero =>
    intro r0 x1 s0 h
    cases h
  | succ n ih =>
    intro r0 x1 s0 h
    unfold f_Ch_nameColumns_50 at h
    refine r_iload_n hK d_Ch_nameColumns_50 rfl 1 rfl ?_
    refine r_aload_n hK d_Ch_nameColumns_51 rfl 0 rfl ?_
    refine r_gR hK fd_Ch_0 w1_98 d_Ch_nameColumns_52 h (fun p1 h => ?_)
    refine r_gR hK fd_Qu_9 w3_50 d_Ch_nameColumns_55 h (fun p2 h => ?_)
    refine r_Vi (avL := []) (st := [g_i x1]) hK ob_Al rfl w5_129 w5_130 w5_128 w5_131 w1_21 (by decide) pl_Al_size (by rw [hD]; decide) (Nat.le_of_ble_eq_true rfl) rfl d_Ch_nameColumns_58 (fun o9 h9 => c_Al_size _ _ _ _ o9 h9) h (fun i3 s4 h => ?_)
    refine r_if_icmpge (tgt := 120) hK d_Ch_nameColumns_61 (by decide) h (fun h => ?_) (fun h => ?_)
    · exact r_return hK d_Ch_nameColumns_120 h
    · refine r_aload_n hK d_Ch_nameColumns_64 rfl 0 rfl ?_
      refine r_gR hK fd_Ch_0 w1_98 d_Ch_nameColumns_65 h (fun p5 h => ?_)
      refine r_gR hK fd_Qu_9 w3_50 d_Ch_nameColumns_68 h (fun p6 h => ?_)
      refine r_iload_n hK d_Ch_nameColumns_71 rfl 1 rfl ?_
      refine r_Vr (avL := [g_i x1]) (st := []) hK ob_Al rfl w5_133 w5_134 w5_132 w5_135 w1_21 (by decide) pl_Al_get (by rw [hD]; decide) (Nat.le_of_ble_eq_true rfl) rfl d_Ch_nameColumns_72 (fun o9 h9 => c_Al_get _ _ _ _ _ o9 h9) h (fun p7 s8 h => ?_)
      refine r_cast hK ob_Te rfl rfl w5_154 w9_234 d_Ch_nameColumns_75 h (fun h => ?_)
      refine r_astore_n (ls1 := [(2, g_r 11 p7), (0, g_r 3 r0), (1, g_i x1)]) hK d_Ch_nameColumns_78 rfl (by rw [hN]; decide) rfl ?_
      refine r_aload_n hK d_Ch_nameColumns_79 rfl 0 rfl ?_
      refine r_aload_n hK d_Ch_nameColumns_80 rfl 0 rfl ?_
      refine r_Sr (avL := [g_r 11 p7]) (st := [g_r 11 p7]) hK w5_156 w5_155 w5_157 w1_3 (by decide) pl_Ch_knownSource (by rw [hD]; decide) (Nat.le_of_ble_eq_true rfl) rfl d_Ch_nameColumns_81 (fun o9 h9 => c_Ch_knownSource _ _ _ _ o9 h9) h (fun p9 s10 h => ?_)
      refine r_pR hK pd_9 rfl (Or.inr rfl) fd_Te_8 rfl w4_86 d_Ch_nameColumns_84 h (fun s11 h => ?_)
      refine r_aload_n hK d_Ch_nameColumns_87 rfl 0 rfl ?_
      refine r_aload_n hK d_Ch_nameColumns_88 rfl 0 rfl ?_
      refine r_gR hK fd_Te_8 w4_86 d_Ch_nameColumns_89 h (fun p12 h => ?_)
      refine r_ifnonnull (tgt := 99) hK d_Ch_nameColumns_92 (by decide) h (fun h => ?_) (fun h => ?_)
      · refine r_aload_n hK d_Ch_nameColumns_99 rfl 1 rfl ?_
        refine r_aload_n hK d_Ch_nameColumns_100 rfl 0 rfl ?_
        refine r_gR hK fd_Te_8 w4_86 d_Ch_nameColumns_101 h (fun p13 h => ?_)
        refine r_aload_n hK d_Ch_nameColumns_104 rfl 0 rfl ?_
        refine r_gL hK fd_Te_6 w4_81 d_Ch_nameColumns_105 h (fun j14 h => ?_)
        refine r_Vi (avL := [g_r 9 p13, g_l j14]) (st := [g_r 11 p7]) hK ob_Ch rfl w5_159 w5_160 w5_158 w5_161 w1_3 (by decide) pl_Ch_indexIn (by rw [hD]; decide) (Nat.le_of_ble_eq_true rfl) rfl d_Ch_nameColumns_108 (fun o9 h9 => c_Ch_indexIn _ _ _ _ _ _ o9 h9) h (fun i15 s16 h => ?_)
        refine r_pI hK fd_Te_9 rfl w4_89 d_Ch_nameColumns_111 h (fun s17 h => ?_)
        refine r_iinc (ls1 := [(1, g_i (x1 + 1)), (2, g_r 11 p7), (0, g_r 3 r0)]) hK d_Ch_nameColumns_114 2 rfl rfl (by rw [hN]; decide) rfl ?_
        refine r_goto (tgt := 50) hK d_Ch_nameColumns_117 (by decide) ?_
        exact r_sub [2, 0] rfl (ih _ _ _ h)
      · refine r_iconst (v := (-1)) hK d_Ch_nameColumns_95 (by decide) ?_
        refine r_goto (tgt := 111) hK d_Ch_nameColumns_96 (by decide) ?_
        refine r_pI hK fd_Te_9 rfl w4_89 d_Ch_nameColumns_111 h (fun s18 h => ?_)
        refine r_iinc (ls1 := [(1, g_i (x1 + 1)), (2, g_r 11 p7), (0, g_r 3 r0)]) hK d_Ch_nameColumns_114 2 rfl rfl (by rw [hN]; decide) rfl ?_
        refine r_goto (tgt := 50) hK d_Ch_nameColumns_117 (by decide) ?_
        exact r_sub [2, 0] rfl (ih _ _ _ h)
set_option maxHeartbeats 4000000 in
set_option maxRecDepth 100000 in
theorem t_Ch_nameColumns_2 {K : g_C} {o : (Unit × g_St)} (hK : g_OK K b_Ch_nameColumns "FixpointEngine$Checker" "nameColumns" (Option.none : Option Jvm.ClassFile.FieldType)) (hN : g_nL K = 3) (hD : g_Kd K = 10) : ∀ (n : Nat) (r0 : Option Nat) (x1 : Int32) (s0 : g_St), f_Ch_nameColumns_2 n r0 x1 s0 = some o → g_W K s0 [(0, g_r 3 r0), (1, g_i x1)] [] 2 (g_jV o) := by
  intro n
  induction n with
  | zero =>
    intro r0 x1 s0 h
    cases h
  | succ n ih =>
    intro r0 x1 s0 h
    unfold f_Ch_nameColumns_2 at h
    refine r_iload_n hK d_Ch_nameColumns_2 rfl 1 rfl ?_
    refine r_aload_n hK d_Ch_nameColumns_3 rfl 0 rfl ?_
    refine r_gR hK fd_Ch_0 w1_98 d_Ch_nameColumns_4 h (fun p1 h => ?_)
    refine r_gI hK fd_Qu_1 w3_27 d_Ch_nameColumns_7 h (fun i2 h => ?_)
    refine r_if_icmpge (tgt := 48) hK d_Ch_nameColumns_10 (by decide) h (fun h => ?_) (fun h => ?_)
    · refine r_iconst (v := 0) hK d_Ch_nameColumns_48 (by decide) ?_
      refine r_istore_n (ls1 := [(1, g_i 0), (0, g_r 3 r0)]) hK d_Ch_nameColumns_49 rfl (by rw [hN]; decide) rfl ?_
      exact r_sub [1, 0] rfl (t_Ch_nameColumns_50 hK hN hD _ _ _ _ h)
    · refine r_aload_n hK d_Ch_nameColumns_13 rfl 0 rfl ?_
      refine r_gR hK fd_Ch_0 w1_98 d_Ch_nameColumns_14 h (fun p3 h => ?_)
      refine r_gR hK fd_Qu_0 w3_23 d_Ch_nameColumns_17 h (fun p4 h => ?_)
      refine r_iload_n hK d_Ch_nameColumns_20 rfl 1 rfl ?_
      refine r_aaload hK rfl ar_24 rfl d_Ch_nameColumns_21 h (fun p5 h => ?_)
      refine r_astore_n (ls1 := [(2, g_r 7 p5), (0, g_r 3 r0), (1, g_i x1)]) hK d_Ch_nameColumns_22 rfl (by rw [hN]; decide) rfl ?_
      refine r_aload_n hK d_Ch_nameColumns_23 rfl 0 rfl ?_
      refine r_aload_n hK d_Ch_nameColumns_24 rfl 0 rfl ?_
      refine r_iconst (v := 5) hK d_Ch_nameColumns_25 (by decide) ?_
      refine r_Vi (avL := [g_i 5]) (st := [g_r 7 p5]) hK ob_Pa rfl w5_151 w5_152 w5_150 w5_153 w1_22 (by decide) pl_Pa_columnNamedAt (by rw [hD]; decide) (Nat.le_of_ble_eq_true rfl) rfl d_Ch_nameColumns_26 (fun o9 h9 => c_Pa_columnNamedAt _ _ _ _ _ o9 h9) h (fun i6 s7 h => ?_)
      refine r_pI hK fd_Pa_16 rfl w3_142 d_Ch_nameColumns_29 h (fun s8 h => ?_)
      refine r_aload_n hK d_Ch_nameColumns_32 rfl 0 rfl ?_
      refine r_aload_n hK d_Ch_nameColumns_33 rfl 0 rfl ?_
      refine r_bipush (v := 6) hK d_Ch_nameColumns_34 (by decide) ?_
      refine r_Vi (avL := [g_i 6]) (st := [g_r 7 p5]) hK ob_Pa rfl w5_151 w5_152 w5_150 w5_153 w1_22 (by decide) pl_Pa_columnNamedAt (by rw [hD]; decide) (Nat.le_of_ble_eq_true rfl) rfl d_Ch_nameColumns_36 (fun o9 h9 => c_Pa_columnNamedAt _ _ _ _ _ o9 h9) h (fun i9 s10 h => ?_)
      refine r_pI hK fd_Pa_17 rfl w3_145 d_Ch_nameColumns_39 h (fun s11 h => ?_)
      refine r_iinc (ls1 := [(1, g_i (x1 + 1)), (2, g_r 7 p5), (0, g_r 3 r0)]) hK d_Ch_nameColumns_42 2 rfl rfl (by rw [hN]; decide) rfl ?_
      refine r_goto (tgt := 2) hK d_Ch_nameColumns_45 (by decide) ?_
      exact r_sub [2, 0] rfl (ih _ _ _ h)
set_option maxHeartbeats 4000000 in
set_option maxRecDepth 100000 in
theorem t_Ch_nameColumns_0 {K : g_C} {o : (Unit × g_St)} (hK : g_OK K b_Ch_nameColumns "FixpointEngine$Checker" "nameColumns" (Option.none : Option Jvm.ClassFile.FieldType)) (hN : g_nL K = 3) (hD : g_Kd K = 10) : ∀ (r0 : Option Nat) (s0 : g_St), f_Ch_nameColumns r0 s0 = some o → g_W K s0 [(0, g_r 3 r0)] [] 0 (g_jV o) := by
  intro r0 s0 h
  unfold f_Ch_nameColumns at h
  refine r_iconst (v := 0) hK d_Ch_nameColumns_0 (by decide) ?_
  refine r_istore_n (ls1 := [(1, g_i 0), (0, g_r 3 r0)]) hK d_Ch_nameColumns_1 rfl (by rw [hN]; decide) rfl ?_
  exact r_sub [1, 0] rfl (t_Ch_nameColumns_2 hK hN hD _ _ _ _ h)
theorem c_Ch_nameColumns (l : Launch) (G : g_G) (r0 : Option Nat) (u : g_St) (o : (Unit × g_St)) (h : f_Ch_nameColumns r0 u = some o) : g_Con l G y_Ch_nameColumns b_Ch_nameColumns 3 (Option.none : Option Jvm.ClassFile.FieldType) 10 [g_r 3 r0] u (g_jV o) :=
  g_Con.of rfl rfl (by decide +kernel) (Nat.le_of_ble_eq_true rfl) (fun K hK hN hD hX => t_Ch_nameColumns_0 hK hN hD _ _ h)
def f_Ch_needParts_274 (k228 : Option Nat → Int32 → Option Nat → Int32 → g_St → Option (Unit × g_St)) (r0 : Option Nat) (x1 : Int32) (r2 : Option Nat) (x3 : Int32) (x0s : Int32) (s0 : g_St) : Option (Unit × g_St) :=
  g_gI s0 839 r2 fun i1 =>
  if x0s = 0 then
    g_pI s0 839 r2 (i1 ||| 0) fun s2 =>
    k228 r0 x1 r2 (x3 + 1) s2
  else
    g_pI s0 839 r2 (i1 ||| (1 <<< (x3 &&& 31))) fun s3 =>
    k228 r0 x1 r2 (x3 + 1) s3
def f_Ch_needParts_228 (k178 : Option Nat → Int32 → g_St → Option (Unit × g_St)) : Nat → Option Nat → Int32 → Option Nat → Int32 → g_St → Option (Unit × g_St)
  | 0, _, _, _, _, _ => none
  | n + 1, r0, x1, r2, x3, s0 =>
    g_gR s0 3 r0 fun p1 =>
    g_gI s0 70 p1 fun i2 =>
    if i2 ≤ x3 then
      k178 r0 (x1 + 1) s0
    else
      g_gI s0 775 r2 fun i3 =>
      if ((i3 >>> (x3 &&& 31)) &&& 1) = 0 then
        f_Ch_needParts_274 (f_Ch_needParts_228 k178 n) r0 x1 r2 x3 0 s0
      else
        g_gR s0 3 r0 fun p4 =>
        g_gR s0 6 p4 fun p5 =>
        g_aR s0 p5 x3 fun p6 =>
        g_gI s0 775 p6 fun i7 =>
        if ((i7 >>> (x1 &&& 31)) &&& 1) = 0 then
          f_Ch_needParts_274 (f_Ch_needParts_228 k178 n) r0 x1 r2 x3 0 s0
        else
          f_Ch_needParts_274 (f_Ch_needParts_228 k178 n) r0 x1 r2 x3 1 s0
def f_Ch_needParts_178 : Nat → Option Nat → Int32 → g_St → Option (Unit × g_St)
  | 0, _, _, _ => none
  | n + 1, r0, x1, s0 =>
    g_gR s0 3 r0 fun p1 =>
    g_gI s0 70 p1 fun i2 =>
    if i2 ≤ x1 then
      some ((), s0)
    else
      g_gR s0 3 r0 fun p3 =>
      g_gR s0 6 p3 fun p4 =>
      g_aR s0 p4 x1 fun p5 =>
      g_gI s0 775 p5 fun i6 =>
      if ((i6 >>> (x1 &&& 31)) &&& 1) = 0 then
        g_pZ s0 967 p5 0 fun s7 =>
        g_pI s7 839 p5 (1 <<< (x1 &&& 31)) fun s8 =>
        f_Ch_needParts_228 (f_Ch_needParts_178 n) 200000 r0 x1 p5 0 s8
      else
        g_pZ s0 967 p5 1 fun s9 =>
        g_pI s9 839 p5 (1 <<< (x1 &&& 31)) fun s10 =>
        f_Ch_needParts_228 (f_Ch_needParts_178 n) 200000 r0 x1 p5 0 s10
def f_Ch_needParts_105 (k92 : Option Nat → Int32 → g_St → Option (Unit × g_St)) : Nat → Option Nat → Int32 → Int32 → g_St → Option (Unit × g_St)
  | 0, _, _, _, _ => none
  | n + 1, r0, x1, x2, s0 =>
    g_gR s0 3 r0 fun p1 =>
    g_gI s0 70 p1 fun i2 =>
    if i2 ≤ x2 then
      k92 r0 (x1 + 1) s0
    else
      g_gR s0 3 r0 fun p3 =>
      g_gR s0 6 p3 fun p4 =>
      g_aR s0 p4 x2 fun p5 =>
      g_gI s0 775 p5 fun i6 =>
      if ((i6 >>> (x1 &&& 31)) &&& 1) = 0 then
        f_Ch_needParts_105 k92 n r0 x1 (x2 + 1) s0
      else
        g_gR s0 3 r0 fun p7 =>
        g_gR s0 6 p7 fun p8 =>
        g_aR s0 p8 x2 fun p9 =>
        g_gI s0 775 p9 fun i10 =>
        g_gR s0 3 r0 fun p11 =>
        g_gR s0 6 p11 fun p12 =>
        g_aR s0 p12 x1 fun p13 =>
        g_gI s0 775 p13 fun i14 =>
        g_pI s0 775 p9 (i10 ||| i14) fun s15 =>
        f_Ch_needParts_105 k92 n r0 x1 (x2 + 1) s15
def f_Ch_needParts_92 : Nat → Option Nat → Int32 → g_St → Option (Unit × g_St)
  | 0, _, _, _ => none
  | n + 1, r0, x1, s0 =>
    g_gR s0 3 r0 fun p1 =>
    g_gI s0 70 p1 fun i2 =>
    if i2 ≤ x1 then
      f_Ch_needParts_178 200000 r0 0 s0
    else
      f_Ch_needParts_105 (f_Ch_needParts_92 n) 200000 r0 x1 0 s0
def f_Ch_needParts_2 : Nat → Option Nat → Int32 → g_St → Option (Unit × g_St)
  | 0, _, _, _ => none
  | n + 1, r0, x1, s0 =>
    g_gR s0 3 r0 fun p1 =>
    g_gR s0 518 p1 fun p2 =>
    g_c (g_nn p2 (f_Al_size p2 s0)) fun i3 s4 =>
    if i3 ≤ x1 then
      f_Ch_needParts_92 200000 r0 0 s4
    else
      g_gR s4 3 r0 fun p5 =>
      g_gR s4 518 p5 fun p6 =>
      g_c (g_nn p6 (f_Al_get p6 x1 s4)) fun p7 s8 =>
      g_cast 9 p7 (
      g_gI s8 393 p7 fun i9 =>
      if i9 < 0 then
        f_Ch_needParts_2 n r0 (x1 + 1) s8
      else
        g_gR s8 9 p7 fun p10 =>
        g_gI s8 8 p10 fun i11 =>
        g_gR s8 3 r0 fun p12 =>
        g_gI s8 70 p12 fun i13 =>
        if i13 ≤ i11 then
          f_Ch_needParts_2 n r0 (x1 + 1) s8
        else
          g_gR s8 3 r0 fun p14 =>
          g_gR s8 6 p14 fun p15 =>
          g_gR s8 9 p7 fun p16 =>
          g_gI s8 8 p16 fun i17 =>
          g_aR s8 p15 i17 fun p18 =>
          g_gI s8 775 p18 fun i19 =>
          g_gI s8 393 p7 fun i20 =>
          g_pI s8 775 p18 (i19 ||| (1 <<< (i20 &&& 31))) fun s21 =>
          f_Ch_needParts_2 n r0 (x1 + 1) s21)
def f_Ch_needParts (r0 : Option Nat) (s0 : g_St) : Option (Unit × g_St) :=
  f_Ch_needParts_2 200000 r0 0 s0
set_option maxHeartbeats 4000000 in
set_option maxRecDepth 100000 in
theorem t_Ch_needParts_274 {K : g_C} {o : (Unit × g_St)} (hK : g_OK K b_Ch_needParts "FixpointEngine$Checker" "needParts" (Option.none : Option Jvm.ClassFile.FieldType)) (hN : g_nL K = 5) (hD : g_Kd K = 10) {k228 : Option Nat → Int32 → Option Nat → Int32 → g_St → Option (Unit × g_St)} (hk228 : ∀ (r0 : Option Nat) (x1 : Int32) (r2 : Option Nat) (x3 : Int32) (s0 : g_St), k228 r0 x1 r2 x3 s0 = some o → g_W K s0 [(0, g_r 3 r0), (1, g_i x1), (2, g_r 7 r2), (3, g_i x3)] [] 228 (g_jV o)) : ∀ (r0 : Option Nat) (x1 : Int32) (r2 : Option Nat) (x3 : Int32) (x0s : Int32) (s0 : g_St), f_Ch_needParts_274 k228 r0 x1 r2 x3 x0s s0 = some o → g_W K s0 [(0, g_r 3 r0), (1, g_i x1), (2, g_r 7 r2), (3, g_i x3)] [g_i x0s] 274 (g_jV o) := by
  intro r0 x1 r2 x3 x0s s0 h
  unfold f_Ch_needParts_274 at h
  refine r_istore (ls1 := [(4, g_i x0s), (0, g_r 3 r0), (1, g_i x1), (2, g_r 7 r2), (3, g_i x3)]) hK d_Ch_needParts_274 (by rw [hN]; decide) rfl ?_
  refine r_aload_n hK d_Ch_needParts_276 rfl 3 rfl ?_
  refine r_dup hK d_Ch_needParts_277 rfl ?_
  refine r_gI hK fd_Pa_13 w3_133 d_Ch_needParts_278 h (fun i1 h => ?_)
  refine r_iload hK d_Ch_needParts_281 0 rfl ?_
  refine r_ifeq (tgt := 292) hK d_Ch_needParts_283 (by decide) h (fun h => ?_) (fun h => ?_)
  · refine r_iconst (v := 0) hK d_Ch_needParts_292 (by decide) ?_
    refine r_ior hK d_Ch_needParts_293 ?_
    refine r_pI hK fd_Pa_13 rfl w3_133 d_Ch_needParts_294 h (fun s2 h => ?_)
    refine r_iinc (ls1 := [(3, g_i (x3 + 1)), (4, g_i x0s), (0, g_r 3 r0), (1, g_i x1), (2, g_r 7 r2)]) hK d_Ch_needParts_297 4 rfl rfl (by rw [hN]; decide) rfl ?_
    refine r_goto (tgt := 228) hK d_Ch_needParts_300 (by decide) ?_
    exact r_sub [2, 3, 4, 0] rfl (hk228 _ _ _ _ _ h)
  · refine r_iconst (v := 1) hK d_Ch_needParts_286 (by decide) ?_
    refine r_iload_n hK d_Ch_needParts_287 rfl 4 rfl ?_
    refine r_ishl hK d_Ch_needParts_288 ?_
    refine r_goto (tgt := 293) hK d_Ch_needParts_289 (by decide) ?_
    refine r_ior hK d_Ch_needParts_293 ?_
    refine r_pI hK fd_Pa_13 rfl w3_133 d_Ch_needParts_294 h (fun s3 h => ?_)
    refine r_iinc (ls1 := [(3, g_i (x3 + 1)), (4, g_i x0s), (0, g_r 3 r0), (1, g_i x1), (2, g_r 7 r2)]) hK d_Ch_needParts_297 4 rfl rfl (by rw [hN]; decide) rfl ?_
    refine r_goto (tgt := 228) hK d_Ch_needParts_300 (by decide) ?_
    exact r_sub [2, 3, 4, 0] rfl (hk228 _ _ _ _ _ h)
set_option maxHeartbeats 4000000 in
set_option maxRecDepth 100000 in
theorem t_Ch_needParts_228 {K : g_C} {o : (Unit × g_St)} (hK : g_OK K b_Ch_needParts "FixpointEngine$Checker" "needParts" (Option.none : Option Jvm.ClassFile.FieldType)) (hN : g_nL K = 5) (hD : g_Kd K = 10) {k178 : Option Nat → Int32 → g_St → Option (Unit × g_St)} (hk178 : ∀ (r0 : Option Nat) (x1 : Int32) (s0 : g_St), k178 r0 x1 s0 = some o → g_W K s0 [(0, g_r 3 r0), (1, g_i x1)] [] 178 (g_jV o)) : ∀ (n : Nat) (r0 : Option Nat) (x1 : Int32) (r2 : Option Nat) (x3 : Int32) (s0 : g_St), f_Ch_needParts_228 k178 n r0 x1 r2 x3 s0 = some o → g_W K s0 [(0, g_r 3 r0), (1, g_i x1), (2, g_r 7 r2), (3, g_i x3)] [] 228 (g_jV o) := by
  intro n
  induction n with
  | zero =>
    intro r0 x1 r2 x3 s0 h
    cases h
  | succ n ih =>
    intro r0 x1 r2 x3 s0 h
    unfold f_Ch_needParts_228 at h
    refine r_iload_n hK d_Ch_needParts_228 rfl 3 rfl ?_
    refine r_aload_n hK d_Ch_needParts_229 rfl 0 rfl ?_
    refine r_gR hK fd_Ch_0 w1_98 d_Ch_needParts_230 h (fun p1 h => ?_)
    refine r_gI hK fd_Qu_1 w3_27 d_Ch_needParts_233 h (fun i2 h => ?_)
    refine r_if_icmpge (tgt := 303) hK d_Ch_needParts_236 (by decide) h (fun h => ?_) (fun h => ?_)
    · refine r_iinc (ls1 := [(1, g_i (x1 + 1)), (0, g_r 3 r0), (2, g_r 7 r2), (3, g_i x3)]) hK d_Ch_needParts_303 1 rfl rfl (by rw [hN]; decide) rfl ?_
      refine r_goto (tgt := 178) hK d_Ch_needParts_306 (by decide) ?_
      exact r_sub [1, 0] rfl (hk178 _ _ _ h)
    · refine r_aload_n hK d_Ch_needParts_239 rfl 2 rfl ?_
      refine r_gI hK fd_Pa_12 w3_132 d_Ch_needParts_240 h (fun i3 h => ?_)
      refine r_iload_n hK d_Ch_needParts_243 rfl 3 rfl ?_
      refine r_ishr hK d_Ch_needParts_244 ?_
      refine r_iconst (v := 1) hK d_Ch_needParts_245 (by decide) ?_
      refine r_iand hK d_Ch_needParts_246 ?_
      refine r_ifeq (tgt := 273) hK d_Ch_needParts_247 (by decide) h (fun h => ?_) (fun h => ?_)
      · refine r_iconst (v := 0) hK d_Ch_needParts_273 (by decide) ?_
        exact r_sub [0, 1, 2, 3] rfl (t_Ch_needParts_274 hK hN hD ih _ _ _ _ _ _ h)
      · refine r_aload_n hK d_Ch_needParts_250 rfl 0 rfl ?_
        refine r_gR hK fd_Ch_0 w1_98 d_Ch_needParts_251 h (fun p4 h => ?_)
        refine r_gR hK fd_Qu_0 w3_23 d_Ch_needParts_254 h (fun p5 h => ?_)
        refine r_iload_n hK d_Ch_needParts_257 rfl 3 rfl ?_
        refine r_aaload hK rfl ar_24 rfl d_Ch_needParts_258 h (fun p6 h => ?_)
        refine r_gI hK fd_Pa_12 w3_132 d_Ch_needParts_259 h (fun i7 h => ?_)
        refine r_iload_n hK d_Ch_needParts_262 rfl 1 rfl ?_
        refine r_ishr hK d_Ch_needParts_263 ?_
        refine r_iconst (v := 1) hK d_Ch_needParts_264 (by decide) ?_
        refine r_iand hK d_Ch_needParts_265 ?_
        refine r_ifeq (tgt := 273) hK d_Ch_needParts_266 (by decide) h (fun h => ?_) (fun h => ?_)
        · refine r_iconst (v := 0) hK d_Ch_needParts_273 (by decide) ?_
          exact r_sub [0, 1, 2, 3] rfl (t_Ch_needParts_274 hK hN hD ih _ _ _ _ _ _ h)
        · refine r_iconst (v := 1) hK d_Ch_needParts_269 (by decide) ?_
          refine r_goto (tgt := 274) hK d_Ch_needParts_270 (by decide) ?_
          exact r_sub [0, 1, 2, 3] rfl (t_Ch_needParts_274 hK hN hD ih _ _ _ _ _ _ h)
set_option maxHeartbeats 4000000 in
set_option maxRecDepth 100000 in
theorem t_Ch_needParts_178 {K : g_C} {o : (Unit × g_St)} (hK : g_OK K b_Ch_needParts "FixpointEngine$Checker" "needParts" (Option.none : Option Jvm.ClassFile.FieldType)) (hN : g_nL K = 5) (hD : g_Kd K = 10) : ∀ (n : Nat) (r0 : Option Nat) (x1 : Int32) (s0 : g_St), f_Ch_needParts_178 n r0 x1 s0 = some o → g_W K s0 [(0, g_r 3 r0), (1, g_i x1)] [] 178 (g_jV o) := by
  intro n
  induction n with
  | zero =>
    intro r0 x1 s0 h
    cases h
  | succ n ih =>
    intro r0 x1 s0 h
    unfold f_Ch_needParts_178 at h
    refine r_iload_n hK d_Ch_needParts_178 rfl 1 rfl ?_
    refine r_aload_n hK d_Ch_needParts_179 rfl 0 rfl ?_
    refine r_gR hK fd_Ch_0 w1_98 d_Ch_needParts_180 h (fun p1 h => ?_)
    refine r_gI hK fd_Qu_1 w3_27 d_Ch_needParts_183 h (fun i2 h => ?_)
    refine r_if_icmpge (tgt := 309) hK d_Ch_needParts_186 (by decide) h (fun h => ?_) (fun h => ?_)
    · exact r_return hK d_Ch_needParts_309 h
    · refine r_aload_n hK d_Ch_needParts_189 rfl 0 rfl ?_
      refine r_gR hK fd_Ch_0 w1_98 d_Ch_needParts_190 h (fun p3 h => ?_)
      refine r_gR hK fd_Qu_0 w3_23 d_Ch_needParts_193 h (fun p4 h => ?_)
      refine r_iload_n hK d_Ch_needParts_196 rfl 1 rfl ?_
      refine r_aaload hK rfl ar_24 rfl d_Ch_needParts_197 h (fun p5 h => ?_)
      refine r_astore_n (ls1 := [(2, g_r 7 p5), (0, g_r 3 r0), (1, g_i x1)]) hK d_Ch_needParts_198 rfl (by rw [hN]; decide) rfl ?_
      refine r_aload_n hK d_Ch_needParts_199 rfl 0 rfl ?_
      refine r_aload_n hK d_Ch_needParts_200 rfl 0 rfl ?_
      refine r_gI hK fd_Pa_12 w3_132 d_Ch_needParts_201 h (fun i6 h => ?_)
      refine r_iload_n hK d_Ch_needParts_204 rfl 2 rfl ?_
      refine r_ishr hK d_Ch_needParts_205 ?_
      refine r_iconst (v := 1) hK d_Ch_needParts_206 (by decide) ?_
      refine r_iand hK d_Ch_needParts_207 ?_
      refine r_ifeq (tgt := 215) hK d_Ch_needParts_208 (by decide) h (fun h => ?_) (fun h => ?_)
      · refine r_iconst (v := 0) hK d_Ch_needParts_215 (by decide) ?_
        refine r_pZ hK fd_Pa_15 rfl w3_140 d_Ch_needParts_216 h (fun s7 h => ?_)
        refine r_aload_n hK d_Ch_needParts_219 rfl 0 rfl ?_
        refine r_iconst (v := 1) hK d_Ch_needParts_220 (by decide) ?_
        refine r_iload_n hK d_Ch_needParts_221 rfl 2 rfl ?_
        refine r_ishl hK d_Ch_needParts_222 ?_
        refine r_pI hK fd_Pa_13 rfl w3_133 d_Ch_needParts_223 h (fun s8 h => ?_)
        refine r_iconst (v := 0) hK d_Ch_needParts_226 (by decide) ?_
        refine r_istore_n (ls1 := [(3, g_i 0), (2, g_r 7 p5), (0, g_r 3 r0), (1, g_i x1)]) hK d_Ch_needParts_227 rfl (by rw [hN]; decide) rfl ?_
        exact r_sub [2, 3, 1, 0] rfl (t_Ch_needParts_228 hK hN hD ih _ _ _ _ _ _ h)
      · refine r_iconst (v := 1) hK d_Ch_needParts_211 (by decide) ?_
        refine r_goto (tgt := 216) hK d_Ch_needParts_212 (by decide) ?_
        refine r_pZ hK fd_Pa_15 rfl w3_140 d_Ch_needParts_216 h (fun s9 h => ?_)
        refine r_aload_n hK d_Ch_needParts_219 rfl 0 rfl ?_
        refine r_iconst (v := 1) hK d_Ch_needParts_220 (by decide) ?_
        refine r_iload_n hK d_Ch_needParts_221 rfl 2 rfl ?_
        refine r_ishl hK d_Ch_needParts_222 ?_
        refine r_pI hK fd_Pa_13 rfl w3_133 d_Ch_needParts_223 h (fun s10 h => ?_)
        refine r_iconst (v := 0) hK d_Ch_needParts_226 (by decide) ?_
        refine r_istore_n (ls1 := [(3, g_i 0), (2, g_r 7 p5), (0, g_r 3 r0), (1, g_i x1)]) hK d_Ch_needParts_227 rfl (by rw [hN]; decide) rfl ?_
        exact r_sub [2, 3, 1, 0] rfl (t_Ch_needParts_228 hK hN hD ih _ _ _ _ _ _ h)
set_option maxHeartbeats 4000000 in
set_option maxRecDepth 100000 in
theorem t_Ch_needParts_105 {K : g_C} {o : (Unit × g_St)} (hK : g_OK K b_Ch_needParts "FixpointEngine$Checker" "needParts" (Option.none : Option Jvm.ClassFile.FieldType)) (hN : g_nL K = 5) (hD : g_Kd K = 10) {k92 : Option Nat → Int32 → g_St → Option (Unit × g_St)} (hk92 : ∀ (r0 : Option Nat) (x1 : Int32) (s0 : g_St), k92 r0 x1 s0 = some o → g_W K s0 [(0, g_r 3 r0), (1, g_i x1)] [] 92 (g_jV o)) : ∀ (n : Nat) (r0 : Option Nat) (x1 : Int32) (x2 : Int32) (s0 : g_St), f_Ch_needParts_105 k92 n r0 x1 x2 s0 = some o → g_W K s0 [(0, g_r 3 r0), (1, g_i x1), (2, g_i x2)] [] 105 (g_jV o) := by
  intro n
  induction n with
  | zero =>
    intro r0 x1 x2 s0 h
    cases h
  | succ n ih =>
    intro r0 x1 x2 s0 h
    unfold f_Ch_needParts_105 at h
    refine r_iload_n hK d_Ch_needParts_105 rfl 2 rfl ?_
    refine r_aload_n hK d_Ch_needParts_106 rfl 0 rfl ?_
    refine r_gR hK fd_Ch_0 w1_98 d_Ch_needParts_107 h (fun p1 h => ?_)
    refine r_gI hK fd_Qu_1 w3_27 d_Ch_needParts_110 h (fun i2 h => ?_)
    refine r_if_icmpge (tgt := 170) hK d_Ch_needParts_113 (by decide) h (fun h => ?_) (fun h => ?_)
    · refine r_iinc (ls1 := [(1, g_i (x1 + 1)), (0, g_r 3 r0), (2, g_i x2)]) hK d_Ch_needParts_170 1 rfl rfl (by rw [hN]; decide) rfl ?_
      refine r_goto (tgt := 92) hK d_Ch_needParts_173 (by decide) ?_
      exact r_sub [1, 0] rfl (hk92 _ _ _ h)
    · refine r_aload_n hK d_Ch_needParts_116 rfl 0 rfl ?_
      refine r_gR hK fd_Ch_0 w1_98 d_Ch_needParts_117 h (fun p3 h => ?_)
      refine r_gR hK fd_Qu_0 w3_23 d_Ch_needParts_120 h (fun p4 h => ?_)
      refine r_iload_n hK d_Ch_needParts_123 rfl 2 rfl ?_
      refine r_aaload hK rfl ar_24 rfl d_Ch_needParts_124 h (fun p5 h => ?_)
      refine r_gI hK fd_Pa_12 w3_132 d_Ch_needParts_125 h (fun i6 h => ?_)
      refine r_iload_n hK d_Ch_needParts_128 rfl 1 rfl ?_
      refine r_ishr hK d_Ch_needParts_129 ?_
      refine r_iconst (v := 1) hK d_Ch_needParts_130 (by decide) ?_
      refine r_iand hK d_Ch_needParts_131 ?_
      refine r_ifeq (tgt := 164) hK d_Ch_needParts_132 (by decide) h (fun h => ?_) (fun h => ?_)
      · refine r_iinc (ls1 := [(2, g_i (x2 + 1)), (0, g_r 3 r0), (1, g_i x1)]) hK d_Ch_needParts_164 2 rfl rfl (by rw [hN]; decide) rfl ?_
        refine r_goto (tgt := 105) hK d_Ch_needParts_167 (by decide) ?_
        exact r_sub [1, 2, 0] rfl (ih _ _ _ _ h)
      · refine r_aload_n hK d_Ch_needParts_135 rfl 0 rfl ?_
        refine r_gR hK fd_Ch_0 w1_98 d_Ch_needParts_136 h (fun p7 h => ?_)
        refine r_gR hK fd_Qu_0 w3_23 d_Ch_needParts_139 h (fun p8 h => ?_)
        refine r_iload_n hK d_Ch_needParts_142 rfl 2 rfl ?_
        refine r_aaload hK rfl ar_24 rfl d_Ch_needParts_143 h (fun p9 h => ?_)
        refine r_dup hK d_Ch_needParts_144 rfl ?_
        refine r_gI hK fd_Pa_12 w3_132 d_Ch_needParts_145 h (fun i10 h => ?_)
        refine r_aload_n hK d_Ch_needParts_148 rfl 0 rfl ?_
        refine r_gR hK fd_Ch_0 w1_98 d_Ch_needParts_149 h (fun p11 h => ?_)
        refine r_gR hK fd_Qu_0 w3_23 d_Ch_needParts_152 h (fun p12 h => ?_)
        refine r_iload_n hK d_Ch_needParts_155 rfl 1 rfl ?_
        refine r_aaload hK rfl ar_24 rfl d_Ch_needParts_156 h (fun p13 h => ?_)
        refine r_gI hK fd_Pa_12 w3_132 d_Ch_needParts_157 h (fun i14 h => ?_)
        refine r_ior hK d_Ch_needParts_160 ?_
        refine r_pI hK fd_Pa_12 rfl w3_132 d_Ch_needParts_161 h (fun s15 h => ?_)
        refine r_iinc (ls1 := [(2, g_i (x2 + 1)), (0, g_r 3 r0), (1, g_i x1)]) hK d_Ch_needParts_164 2 rfl rfl (by rw [hN]; decide) rfl ?_
        refine r_goto (tgt := 105) hK d_Ch_needParts_167 (by decide) ?_
        exact r_sub [1, 2, 0] rfl (ih _ _ _ _ h)
set_option maxHeartbeats 4000000 in
set_option maxRecDepth 100000 in
theorem t_Ch_needParts_92 {K : g_C} {o : (Unit × g_St)} (hK : g_OK K b_Ch_needParts "FixpointEngine$Checker" "needParts" (Option.none : Option Jvm.ClassFile.FieldType)) (hN : g_nL K = 5) (hD : g_Kd K = 10) : ∀ (n : Nat) (r0 : Option Nat) (x1 : Int32) (s0 : g_St), f_Ch_needParts_92 n r0 x1 s0 = some o → g_W K s0 [(0, g_r 3 r0), (1, g_i x1)] [] 92 (g_jV o) := by
  intro n
  induction n with
  | zero =>
    intro r0 x1 s0 h
    cases h
  | succ n ih =>
    intro r0 x1 s0 h
    unfold f_Ch_needParts_92 at h
    refine r_iload_n hK d_Ch_needParts_92 rfl 1 rfl ?_
    refine r_aload_n hK d_Ch_needParts_93 rfl 0 rfl ?_
    refine r_gR hK fd_Ch_0 w1_98 d_Ch_needParts_94 h (fun p1 h => ?_)
    refine r_gI hK fd_Qu_1 w3_27 d_Ch_needParts_97 h (fun i2 h => ?_)
    refine r_if_icmpge (tgt := 176) hK d_Ch_needParts_100 (by decide) h (fun h => ?_) (fun h => ?_)
    · refine r_iconst (v := 0) hK d_Ch_needParts_176 (by decide) ?_
      refine r_istore_n (ls1 := [(1, g_i 0), (0, g_r 3 r0)]) hK d_Ch_needParts_177 rfl (by rw [hN]; decide) rfl ?_
      exact r_sub [1, 0] rfl (t_Ch_needParts_178 hK hN hD _ _ _ _ h)
    · refine r_iconst (v := 0) hK d_Ch_needParts_103 (by decide) ?_
      refine r_istore_n (ls1 := [(2, g_i 0), (0, g_r 3 r0), (1, g_i x1)]) hK d_Ch_needParts_104 rfl (by rw [hN]; decide) rfl ?_
      exact r_sub [1, 2, 0] rfl (t_Ch_needParts_105 hK hN hD ih _ _ _ _ _ h)
set_option maxHeartbeats 4000000 in
set_option maxRecDepth 100000 in
theorem t_Ch_needParts_2 {K : g_C} {o : (Unit × g_St)} (hK : g_OK K b_Ch_needParts "FixpointEngine$Checker" "needParts" (Option.none : Option Jvm.ClassFile.FieldType)) (hN : g_nL K = 5) (hD : g_Kd K = 10) : ∀ (n : Nat) (r0 : Option Nat) (x1 : Int32) (s0 : g_St), f_Ch_needParts_2 n r0 x1 s0 = some o → g_W K s0 [(0, g_r 3 r0), (1, g_i x1)] [] 2 (g_jV o) := by
  intro n
  induction n with
  | zero =>
    intro r0 x1 s0 h
    cases h
  | succ n ih =>
    intro r0 x1 s0 h
    unfold f_Ch_needParts_2 at h
    refine r_iload_n hK d_Ch_needParts_2 rfl 1 rfl ?_
    refine r_aload_n hK d_Ch_needParts_3 rfl 0 rfl ?_
    refine r_gR hK fd_Ch_0 w1_98 d_Ch_needParts_4 h (fun p1 h => ?_)
    refine r_gR hK fd_Qu_8 w3_47 d_Ch_needParts_7 h (fun p2 h => ?_)
    refine r_Vi (avL := []) (st := [g_i x1]) hK ob_Al rfl w5_129 w5_130 w5_128 w5_131 w1_21 (by decide) pl_Al_size (by rw [hD]; decide) (Nat.le_of_ble_eq_true rfl) rfl d_Ch_needParts_10 (fun o9 h9 => c_Al_size _ _ _ _ o9 h9) h (fun i3 s4 h => ?_)
    refine r_if_icmpge (tgt := 90) hK d_Ch_needParts_13 (by decide) h (fun h => ?_) (fun h => ?_)
    · refine r_iconst (v := 0) hK d_Ch_needParts_90 (by decide) ?_
      refine r_istore_n (ls1 := [(1, g_i 0), (0, g_r 3 r0)]) hK d_Ch_needParts_91 rfl (by rw [hN]; decide) rfl ?_
      exact r_sub [1, 0] rfl (t_Ch_needParts_92 hK hN hD _ _ _ _ h)
    · refine r_aload_n hK d_Ch_needParts_16 rfl 0 rfl ?_
      refine r_gR hK fd_Ch_0 w1_98 d_Ch_needParts_17 h (fun p5 h => ?_)
      refine r_gR hK fd_Qu_8 w3_47 d_Ch_needParts_20 h (fun p6 h => ?_)
      refine r_iload_n hK d_Ch_needParts_23 rfl 1 rfl ?_
      refine r_Vr (avL := [g_i x1]) (st := []) hK ob_Al rfl w5_133 w5_134 w5_132 w5_135 w1_21 (by decide) pl_Al_get (by rw [hD]; decide) (Nat.le_of_ble_eq_true rfl) rfl d_Ch_needParts_24 (fun o9 h9 => c_Al_get _ _ _ _ _ o9 h9) h (fun p7 s8 h => ?_)
      refine r_cast hK ob_So rfl rfl w5_144 w9_233 d_Ch_needParts_27 h (fun h => ?_)
      refine r_astore_n (ls1 := [(2, g_r 9 p7), (0, g_r 3 r0), (1, g_i x1)]) hK d_Ch_needParts_30 rfl (by rw [hN]; decide) rfl ?_
      refine r_aload_n hK d_Ch_needParts_31 rfl 0 rfl ?_
      refine r_gI hK fd_So_6 w4_217 d_Ch_needParts_32 h (fun i9 h => ?_)
      refine r_iflt (tgt := 84) hK d_Ch_needParts_35 (by decide) h (fun h => ?_) (fun h => ?_)
      · refine r_iinc (ls1 := [(1, g_i (x1 + 1)), (2, g_r 9 p7), (0, g_r 3 r0)]) hK d_Ch_needParts_84 2 rfl rfl (by rw [hN]; decide) rfl ?_
        refine r_goto (tgt := 2) hK d_Ch_needParts_87 (by decide) ?_
        exact r_sub [2, 0] rfl (ih _ _ _ h)
      · refine r_aload_n hK d_Ch_needParts_38 rfl 0 rfl ?_
        refine r_gR hK fd_So_0 w4_205 d_Ch_needParts_39 h (fun p10 h => ?_)
        refine r_gI hK fd_Se_0 w3_222 d_Ch_needParts_42 h (fun i11 h => ?_)
        refine r_aload_n hK d_Ch_needParts_45 rfl 1 rfl ?_
        refine r_gR hK fd_Ch_0 w1_98 d_Ch_needParts_46 h (fun p12 h => ?_)
        refine r_gI hK fd_Qu_1 w3_27 d_Ch_needParts_49 h (fun i13 h => ?_)
        refine r_if_icmpge (tgt := 84) hK d_Ch_needParts_52 (by decide) h (fun h => ?_) (fun h => ?_)
        · refine r_iinc (ls1 := [(1, g_i (x1 + 1)), (2, g_r 9 p7), (0, g_r 3 r0)]) hK d_Ch_needParts_84 2 rfl rfl (by rw [hN]; decide) rfl ?_
          refine r_goto (tgt := 2) hK d_Ch_needParts_87 (by decide) ?_
          exact r_sub [2, 0] rfl (ih _ _ _ h)
        · refine r_aload_n hK d_Ch_needParts_55 rfl 1 rfl ?_
          refine r_gR hK fd_Ch_0 w1_98 d_Ch_needParts_56 h (fun p14 h => ?_)
          refine r_gR hK fd_Qu_0 w3_23 d_Ch_needParts_59 h (fun p15 h => ?_)
          refine r_aload_n hK d_Ch_needParts_62 rfl 0 rfl ?_
          refine r_gR hK fd_So_0 w4_205 d_Ch_needParts_63 h (fun p16 h => ?_)
          refine r_gI hK fd_Se_0 w3_222 d_Ch_needParts_66 h (fun i17 h => ?_)
          refine r_aaload hK rfl ar_24 rfl d_Ch_needParts_69 h (fun p18 h => ?_)
          refine r_dup hK d_Ch_needParts_70 rfl ?_
          refine r_gI hK fd_Pa_12 w3_132 d_Ch_needParts_71 h (fun i19 h => ?_)
          refine r_iconst (v := 1) hK d_Ch_needParts_74 (by decide) ?_
          refine r_aload_n hK d_Ch_needParts_75 rfl 0 rfl ?_
          refine r_gI hK fd_So_6 w4_217 d_Ch_needParts_76 h (fun i20 h => ?_)
          refine r_ishl hK d_Ch_needParts_79 ?_
          refine r_ior hK d_Ch_needParts_80 ?_
          refine r_pI hK fd_Pa_12 rfl w3_132 d_Ch_needParts_81 h (fun s21 h => ?_)
          refine r_iinc (ls1 := [(1, g_i (x1 + 1)), (2, g_r 9 p7), (0, g_r 3 r0)]) hK d_Ch_needParts_84 2 rfl rfl (by rw [hN]; decide) rfl ?_
          refine r_goto (tgt := 2) hK d_Ch_needParts_87 (by decide) ?_
          exact r_sub [2, 0] rfl (ih _ _ _ h)
set_option maxHeartbeats 4000000 in
set_option maxRecDepth 100000 in
theorem t_Ch_needParts_0 {K : g_C} {o : (Unit × g_St)} (hK : g_OK K b_Ch_needParts "FixpointEngine$Checker" "needParts" (Option.none : Option Jvm.ClassFile.FieldType)) (hN : g_nL K = 5) (hD : g_Kd K = 10) : ∀ (r0 : Option Nat) (s0 : g_St), f_Ch_needParts r0 s0 = some o → g_W K s0 [(0, g_r 3 r0)] [] 0 (g_jV o) := by
  intro r0 s0 h
  unfold f_Ch_needParts at h
  refine r_iconst (v := 0) hK d_Ch_needParts_0 (by decide) ?_
  refine r_istore_n (ls1 := [(1, g_i 0), (0, g_r 3 r0)]) hK d_Ch_needParts_1 rfl (by rw [hN]; decide) rfl ?_
  exact r_sub [1, 0] rfl (t_Ch_needParts_2 hK hN hD _ _ _ _ h)
theorem c_Ch_needParts (l : Launch) (G : g_G) (r0 : Option Nat) (u : g_St) (o : (Unit × g_St)) (h : f_Ch_needParts r0 u = some o) : g_Con l G y_Ch_needParts b_Ch_needParts 5 (Option.none : Option Jvm.ClassFile.FieldType) 10 [g_r 3 r0] u (g_jV o) :=
  g_Con.of rfl rfl (by decide +kernel) (Nat.le_of_ble_eq_true rfl) (fun K hK hN hD hX => t_Ch_needParts_0 hK hN hD _ _ h)
def f_Ch_nextReady_2 : Nat → Option Nat → Int32 → Int32 → g_St → Option (Int32 × g_St)
  | 0, _, _, _, _ => none
  | n + 1, r0, x1, x2, s0 =>
    g_gR s0 3 r0 fun p1 =>
    g_gI s0 70 p1 fun i2 =>
    if i2 ≤ x2 then
      some ((-1), s0)
    else
      g_gR s0 3 r0 fun p3 =>
      g_gR s0 6 p3 fun p4 =>
      g_aR s0 p4 x2 fun p5 =>
      if ((x1 >>> (x2 &&& 31)) &&& 1) = 0 then
        g_gI s0 775 p5 fun i6 =>
        g_gI s0 839 p5 fun i7 =>
        if ((i6 &&& (i7 ^^^ (-1))) &&& (x1 ^^^ (-1))) = 0 then
          some (x2, s0)
        else
          f_Ch_nextReady_2 n r0 x1 (x2 + 1) s0
      else
        f_Ch_nextReady_2 n r0 x1 (x2 + 1) s0
def f_Ch_nextReady (r0 : Option Nat) (x1 : Int32) (s0 : g_St) : Option (Int32 × g_St) :=
  f_Ch_nextReady_2 200000 r0 x1 0 s0
set_option maxHeartbeats 4000000 in
set_option maxRecDepth 100000 in
theorem t_Ch_nextReady_2 {K : g_C} {o : (Int32 × g_St)} (hK : g_OK K b_Ch_nextReady "FixpointEngine$Checker" "nextReady" (Option.some Jvm.ClassFile.FieldType.int)) (hN : g_nL K = 4) (hD : g_Kd K = 1) : ∀ (n : Nat) (r0 : Option Nat) (x1 : Int32) (x2 : Int32) (s0 : g_St), f_Ch_nextReady_2 n r0 x1 x2 s0 = some o → g_W K s0 [(0, g_r 3 r0), (1, g_i x1), (2, g_i x2)] [] 2 (g_jI o) := by
  intro n
  induction n with
  | zero =>
    intro r0 x1 x2 s0 h
    cases h
  | succ n ih =>
    intro r0 x1 x2 s0 h
    unfold f_Ch_nextReady_2 at h
    refine r_iload_n hK d_Ch_nextReady_2 rfl 2 rfl ?_
    refine r_aload_n hK d_Ch_nextReady_3 rfl 0 rfl ?_
    refine r_gR hK fd_Ch_0 w1_98 d_Ch_nextReady_4 h (fun p1 h => ?_)
    refine r_gI hK fd_Qu_1 w3_27 d_Ch_nextReady_7 h (fun i2 h => ?_)
    refine r_if_icmpge (tgt := 57) hK d_Ch_nextReady_10 (by decide) h (fun h => ?_) (fun h => ?_)
    · refine r_iconst (v := (-1)) hK d_Ch_nextReady_57 (by decide) ?_
      exact r_ireturn hK d_Ch_nextReady_58 h
    · refine r_aload_n hK d_Ch_nextReady_13 rfl 0 rfl ?_
      refine r_gR hK fd_Ch_0 w1_98 d_Ch_nextReady_14 h (fun p3 h => ?_)
      refine r_gR hK fd_Qu_0 w3_23 d_Ch_nextReady_17 h (fun p4 h => ?_)
      refine r_iload_n hK d_Ch_nextReady_20 rfl 2 rfl ?_
      refine r_aaload hK rfl ar_24 rfl d_Ch_nextReady_21 h (fun p5 h => ?_)
      refine r_astore_n (ls1 := [(3, g_r 7 p5), (0, g_r 3 r0), (1, g_i x1), (2, g_i x2)]) hK d_Ch_nextReady_22 rfl (by rw [hN]; decide) rfl ?_
      refine r_iload_n hK d_Ch_nextReady_23 rfl 2 rfl ?_
      refine r_iload_n hK d_Ch_nextReady_24 rfl 3 rfl ?_
      refine r_ishr hK d_Ch_nextReady_25 ?_
      refine r_iconst (v := 1) hK d_Ch_nextReady_26 (by decide) ?_
      refine r_iand hK d_Ch_nextReady_27 ?_
      refine r_ifne (tgt := 51) hK d_Ch_nextReady_28 (by decide) h (fun h => ?_) (fun h => ?_)
      · refine r_iinc (ls1 := [(2, g_i (x2 + 1)), (3, g_r 7 p5), (0, g_r 3 r0), (1, g_i x1)]) hK d_Ch_nextReady_51 3 rfl rfl (by rw [hN]; decide) rfl ?_
        refine r_goto (tgt := 2) hK d_Ch_nextReady_54 (by decide) ?_
        exact r_sub [2, 3, 0] rfl (ih _ _ _ _ h)
      · refine r_aload_n hK d_Ch_nextReady_31 rfl 0 rfl ?_
        refine r_gI hK fd_Pa_12 w3_132 d_Ch_nextReady_32 h (fun i6 h => ?_)
        refine r_aload_n hK d_Ch_nextReady_35 rfl 0 rfl ?_
        refine r_gI hK fd_Pa_13 w3_133 d_Ch_nextReady_36 h (fun i7 h => ?_)
        refine r_iconst (v := (-1)) hK d_Ch_nextReady_39 (by decide) ?_
        refine r_ixor hK d_Ch_nextReady_40 ?_
        refine r_iand hK d_Ch_nextReady_41 ?_
        refine r_iload_n hK d_Ch_nextReady_42 rfl 2 rfl ?_
        refine r_iconst (v := (-1)) hK d_Ch_nextReady_43 (by decide) ?_
        refine r_ixor hK d_Ch_nextReady_44 ?_
        refine r_iand hK d_Ch_nextReady_45 ?_
        refine r_ifne (tgt := 51) hK d_Ch_nextReady_46 (by decide) h (fun h => ?_) (fun h => ?_)
        · refine r_iinc (ls1 := [(2, g_i (x2 + 1)), (3, g_r 7 p5), (0, g_r 3 r0), (1, g_i x1)]) hK d_Ch_nextReady_51 3 rfl rfl (by rw [hN]; decide) rfl ?_
          refine r_goto (tgt := 2) hK d_Ch_nextReady_54 (by decide) ?_
          exact r_sub [2, 3, 0] rfl (ih _ _ _ _ h)
        · refine r_iload_n hK d_Ch_nextReady_49 rfl 3 rfl ?_
          exact r_ireturn hK d_Ch_nextReady_50 h
set_option maxHeartbeats 4000000 in
set_option maxRecDepth 100000 in
theorem t_Ch_nextReady_0 {K : g_C} {o : (Int32 × g_St)} (hK : g_OK K b_Ch_nextReady "FixpointEngine$Checker" "nextReady" (Option.some Jvm.ClassFile.FieldType.int)) (hN : g_nL K = 4) (hD : g_Kd K = 1) : ∀ (r0 : Option Nat) (x1 : Int32) (s0 : g_St), f_Ch_nextReady r0 x1 s0 = some o → g_W K s0 [(0, g_r 3 r0), (1, g_i x1)] [] 0 (g_jI o) := by
  intro r0 x1 s0 h
  unfold f_Ch_nextReady at h
  refine r_iconst (v := 0) hK d_Ch_nextReady_0 (by decide) ?_
  refine r_istore_n (ls1 := [(2, g_i 0), (0, g_r 3 r0), (1, g_i x1)]) hK d_Ch_nextReady_1 rfl (by rw [hN]; decide) rfl ?_
  exact r_sub [1, 2, 0] rfl (t_Ch_nextReady_2 hK hN hD _ _ _ _ _ h)
theorem c_Ch_nextReady (l : Launch) (G : g_G) (r0 : Option Nat) (x1 : Int32) (u : g_St) (o : (Int32 × g_St)) (h : f_Ch_nextReady r0 x1 u = some o) : g_Con l G y_Ch_nextReady b_Ch_nextReady 4 (Option.some Jvm.ClassFile.FieldType.int) 1 [g_r 3 r0, g_i x1] u (g_jI o) :=
  g_Con.of rfl rfl (by decide +kernel) (Nat.le_of_ble_eq_true rfl) (fun K hK hN hD hX => t_Ch_nextReady_0 hK hN hD _ _ _ h)
