def f_Ru_gather_12 : Nat → Option Nat → Int32 → Int32 → g_St → Option (Unit × g_St)
  | 0, _, _, _, _ => none
  | n + 1, r0, x1, x2, s0 =>
    g_gR s0 772 r0 fun p1 =>
    g_gI s0 264 p1 fun i2 =>
    if i2 ≤ x2 then
      some ((), s0)
    else
      g_gR s0 772 r0 fun p3 =>
      g_gR s0 200 p3 fun p4 =>
      g_aR s0 p4 x2 fun p5 =>
      if p5 = (some 1293) then
        g_gR s0 324 r0 fun p19 =>
        g_aL s0 p19 ((x1 * 4) + x2) fun j20 =>
        g_sL s0 p19 ((x1 * 4) + x2) (j20 + 1) fun s21 =>
        f_Ru_gather_12 n r0 x1 (x2 + 1) s21
      else
        g_gR s0 772 r0 fun p6 =>
        g_gR s0 200 p6 fun p7 =>
        g_aR s0 p7 x2 fun p8 =>
        if p8 = none then
          f_Ru_gather_12 n r0 x1 (x2 + 1) s0
        else
          g_gR s0 772 r0 fun p9 =>
          g_gR s0 200 p9 fun p10 =>
          g_aR s0 p10 x2 fun p11 =>
          g_gR s0 772 r0 fun p12 =>
          g_gR s0 136 p12 fun p13 =>
          g_aR s0 p13 x2 fun p14 =>
          g_c (g_nn p14 (f_Te_value p14 s0)) fun j15 s16 =>
          g_c (g_nn r0 (f_Ru_addTo r0 ((x1 * 4) + x2) p11 j15 s16)) fun _ s18 =>
          f_Ru_gather_12 n r0 x1 (x2 + 1) s18
def f_Ru_gather (r0 : Option Nat) (s0 : g_St) : Option (Unit × g_St) :=
  g_c (g_nn r0 (f_Ru_findGroup r0 s0)) fun i1 s2 =>
  if 0 ≤ i1 then
    f_Ru_gather_12 100000 r0 i1 0 s2
  else
    some ((), s2)
set_option maxHeartbeats 4000000 in
set_option maxRecDepth 100000 in
theorem t_Ru_gather_12 {K : g_C} {o : (Unit × g_St)} (hK : g_OK K b_Ru_gather "FixpointEngine$Runner" "gather" (Option.none : Option Jvm.ClassFile.FieldType)) (hN : g_nL K = 4) (hD : g_Kd K = 8) : ∀ (n : Nat) (r0 : Option Nat) (x1 : Int32) (x2 : Int32) (s0 : g_St), f_Ru_gather_12 n r0 x1 x2 s0 = some o → g_W K s0 [(0, g_r 4 r0), (1, g_i x1), (2, g_i x2)] [] 12 (g_jV o) := by
  intro n
  induction n with
  | zero =>
    intro r0 x1 x2 s0 h
    cases h
  | succ n ih =>
    intro r0 x1 x2 s0 h
    unfold f_Ru_gather_12 at h
    refine r_iload_n hK d_Ru_gather_12 rfl 2 rfl ?_
    refine r_aload_n hK d_Ru_gather_13 rfl 0 rfl ?_
    refine r_gR hK fd_Ru_12 w1_169 d_Ru_gather_14 h (fun p1 h => ?_)
    refine r_gI hK fd_Se_4 w3_232 d_Ru_gather_17 h (fun i2 h => ?_)
    refine r_if_icmpge (tgt := 101) hK d_Ru_gather_20 (by decide) h (fun h => ?_) (fun h => ?_)
    · exact r_return hK d_Ru_gather_101 h
    · refine r_iload_n hK d_Ru_gather_23 rfl 1 rfl ?_
      refine r_iconst (v := 4) hK d_Ru_gather_24 (by decide) ?_
      refine r_imul hK d_Ru_gather_25 ?_
      refine r_iload_n hK d_Ru_gather_26 rfl 2 rfl ?_
      refine r_iadd hK d_Ru_gather_27 ?_
      refine r_istore_n (ls1 := [(3, g_i ((x1 * 4) + x2)), (0, g_r 4 r0), (1, g_i x1), (2, g_i x2)]) hK d_Ru_gather_28 rfl (by rw [hN]; decide) rfl ?_
      refine r_aload_n hK d_Ru_gather_29 rfl 1 rfl ?_
      refine r_gR hK fd_Ru_12 w1_169 d_Ru_gather_30 h (fun p3 h => ?_)
      refine r_gR hK fd_Se_3 w3_230 d_Ru_gather_33 h (fun p4 h => ?_)
      refine r_iload_n hK d_Ru_gather_36 rfl 3 rfl ?_
      refine r_aaload hK rfl ar_23 rfl d_Ru_gather_37 h (fun p5 h => ?_)
      refine r_gsR hK (st_kind 20 (by decide)) (by decide) rfl w6_123 d_Ru_gather_38 ?_
      refine r_if_acmpne (tgt := 57) hK (by decide) (by decide) d_Ru_gather_41 (by decide) h (fun h => ?_) (fun h => ?_)
      · refine r_aload_n hK d_Ru_gather_57 rfl 1 rfl ?_
        refine r_gR hK fd_Ru_12 w1_169 d_Ru_gather_58 h (fun p6 h => ?_)
        refine r_gR hK fd_Se_3 w3_230 d_Ru_gather_61 h (fun p7 h => ?_)
        refine r_iload_n hK d_Ru_gather_64 rfl 3 rfl ?_
        refine r_aaload hK rfl ar_23 rfl d_Ru_gather_65 h (fun p8 h => ?_)
        refine r_ifnull (tgt := 95) hK d_Ru_gather_66 (by decide) h (fun h => ?_) (fun h => ?_)
        · refine r_iinc (ls1 := [(2, g_i (x2 + 1)), (3, g_i ((x1 * 4) + x2)), (0, g_r 4 r0), (1, g_i x1)]) hK d_Ru_gather_95 3 rfl rfl (by rw [hN]; decide) rfl ?_
          refine r_goto (tgt := 12) hK d_Ru_gather_98 (by decide) ?_
          exact r_sub [2, 3, 0] rfl (ih _ _ _ _ h)
        · refine r_aload_n hK d_Ru_gather_69 rfl 1 rfl ?_
          refine r_iload_n hK d_Ru_gather_70 rfl 0 rfl ?_
          refine r_aload_n hK d_Ru_gather_71 rfl 1 rfl ?_
          refine r_gR hK fd_Ru_12 w1_169 d_Ru_gather_72 h (fun p9 h => ?_)
          refine r_gR hK fd_Se_3 w3_230 d_Ru_gather_75 h (fun p10 h => ?_)
          refine r_iload_n hK d_Ru_gather_78 rfl 3 rfl ?_
          refine r_aaload hK rfl ar_23 rfl d_Ru_gather_79 h (fun p11 h => ?_)
          refine r_aload_n hK d_Ru_gather_80 rfl 1 rfl ?_
          refine r_gR hK fd_Ru_12 w1_169 d_Ru_gather_81 h (fun p12 h => ?_)
          refine r_gR hK fd_Se_2 w3_227 d_Ru_gather_84 h (fun p13 h => ?_)
          refine r_iload_n hK d_Ru_gather_87 rfl 3 rfl ?_
          refine r_aaload hK rfl ar_26 rfl d_Ru_gather_88 h (fun p14 h => ?_)
          refine r_Vl (avL := []) (st := [g_r 13 p11, g_i ((x1 * 4) + x2), g_r 4 r0]) hK ob_Te rfl w6_73 w6_74 w6_72 w6_75 w1_24 (by decide) pl_Te_value (by rw [hD]; decide) (Nat.le_of_ble_eq_true rfl) rfl d_Ru_gather_89 (fun o9 h9 => c_Te_value _ _ _ _ o9 h9) h (fun j15 s16 h => ?_)
          refine r_Vv (avL := [g_i ((x1 * 4) + x2), g_r 13 p11, g_l j15]) (st := []) hK ob_Ru rfl w6_125 w6_126 w6_124 w6_127 w1_4 (by decide) pl_Ru_addTo (by rw [hD]; decide) (Nat.le_of_ble_eq_true rfl) rfl d_Ru_gather_92 (fun o9 h9 => c_Ru_addTo _ _ _ _ _ _ _ o9 h9) h (fun s18 h => ?_)
          refine r_iinc (ls1 := [(2, g_i (x2 + 1)), (3, g_i ((x1 * 4) + x2)), (0, g_r 4 r0), (1, g_i x1)]) hK d_Ru_gather_95 3 rfl rfl (by rw [hN]; decide) rfl ?_
          refine r_goto (tgt := 12) hK d_Ru_gather_98 (by decide) ?_
          exact r_sub [2, 3, 0] rfl (ih _ _ _ _ h)
      · refine r_aload_n hK d_Ru_gather_44 rfl 1 rfl ?_
        refine r_gR hK fd_Ru_5 w1_162 d_Ru_gather_45 h (fun p19 h => ?_)
        refine r_iload_n hK d_Ru_gather_48 rfl 0 rfl ?_
        refine r_dup2_11 hK d_Ru_gather_49 rfl rfl ?_
        refine r_laload hK ar_21 rfl d_Ru_gather_50 h (fun j20 h => ?_)
        refine r_lconst (v := 1) hK d_Ru_gather_51 (by decide) ?_
        refine r_ladd hK d_Ru_gather_52 ?_
        refine r_lastore hK ar_21 rfl d_Ru_gather_53 h (fun s21 h => ?_)
        refine r_goto (tgt := 95) hK d_Ru_gather_54 (by decide) ?_
        refine r_iinc (ls1 := [(2, g_i (x2 + 1)), (3, g_i ((x1 * 4) + x2)), (0, g_r 4 r0), (1, g_i x1)]) hK d_Ru_gather_95 3 rfl rfl (by rw [hN]; decide) rfl ?_
        refine r_goto (tgt := 12) hK d_Ru_gather_98 (by decide) ?_
        exact r_sub [2, 3, 0] rfl (ih _ _ _ _ h)
set_option maxHeartbeats 4000000 in
set_option maxRecDepth 100000 in
theorem t_Ru_gather_0 {K : g_C} {o : (Unit × g_St)} (hK : g_OK K b_Ru_gather "FixpointEngine$Runner" "gather" (Option.none : Option Jvm.ClassFile.FieldType)) (hN : g_nL K = 4) (hD : g_Kd K = 8) : ∀ (r0 : Option Nat) (s0 : g_St), f_Ru_gather r0 s0 = some o → g_W K s0 [(0, g_r 4 r0)] [] 0 (g_jV o) := by
  intro r0 s0 h
  unfold f_Ru_gather at h
  refine r_aload_n hK d_Ru_gather_0 rfl 0 rfl ?_
  refine r_Vi (avL := []) (st := []) hK ob_Ru rfl w6_120 w6_121 w6_119 w6_122 w1_4 (by decide) pl_Ru_findGroup (by rw [hD]; decide) (Nat.le_of_ble_eq_true rfl) rfl d_Ru_gather_1 (fun o9 h9 => c_Ru_findGroup _ _ _ _ o9 h9) h (fun i1 s2 h => ?_)
  refine r_istore_n (ls1 := [(1, g_i i1), (0, g_r 4 r0)]) hK d_Ru_gather_4 rfl (by rw [hN]; decide) rfl ?_
  refine r_iload_n hK d_Ru_gather_5 rfl 0 rfl ?_
  refine r_ifge (tgt := 10) hK d_Ru_gather_6 (by decide) h (fun h => ?_) (fun h => ?_)
  · refine r_iconst (v := 0) hK d_Ru_gather_10 (by decide) ?_
    refine r_istore_n (ls1 := [(2, g_i 0), (1, g_i i1), (0, g_r 4 r0)]) hK d_Ru_gather_11 rfl (by rw [hN]; decide) rfl ?_
    exact r_sub [2, 1, 0] rfl (t_Ru_gather_12 hK hN hD _ _ _ _ _ h)
  · exact r_return hK d_Ru_gather_9 h
theorem c_Ru_gather (l : Launch) (G : g_G) (r0 : Option Nat) (u : g_St) (o : (Unit × g_St)) (h : f_Ru_gather r0 u = some o) : g_Con l G y_Ru_gather b_Ru_gather 4 (Option.none : Option Jvm.ClassFile.FieldType) 8 [g_r 4 r0] u (g_jV o) :=
  g_Con.of rfl rfl (by decide +kernel) (Nat.le_of_ble_eq_true rfl) (fun K hK hN hD => t_Ru_gather_0 hK hN hD _ _ h)
def f_Ru_keepKeys_36 (k2 : Option Nat → Int32 → g_St → Option (Unit × g_St)) (r0 : Option Nat) (x1 : Int32) (r2 : Option Nat) (x0s : Int32) (s0 : g_St) : Option (Unit × g_St) :=
  g_gR s0 196 r0 fun p1 =>
  g_gR s0 900 r0 fun p2 =>
  g_gI s0 261 p2 fun i3 =>
  if x0s = 0 then
    g_c (g_nn r2 (f_Te_value r2 s0)) fun j4 s5 =>
    g_sL s5 p1 ((i3 * 2) + x1) j4 fun s6 =>
    k2 r0 (x1 + 1) s6
  else
    g_gR s0 523 r2 fun p7 =>
    g_gI s0 713 p7 fun i8 =>
    g_sL s0 p1 ((i3 * 2) + x1) i8.toInt64 fun s9 =>
    k2 r0 (x1 + 1) s9
def f_Ru_keepKeys_2 : Nat → Option Nat → Int32 → g_St → Option (Unit × g_St)
  | 0, _, _, _ => none
  | n + 1, r0, x1, s0 =>
    g_gR s0 452 r0 fun p1 =>
    g_gI s0 326 p1 fun i2 =>
    if i2 ≤ x1 then
      some ((), s0)
    else
      g_gR s0 452 r0 fun p3 =>
      g_gR s0 262 p3 fun p4 =>
      g_aR s0 p4 x1 fun p5 =>
      g_gI s0 587 p5 fun i6 =>
      if i6 = 4 then
        f_Ru_keepKeys_36 (f_Ru_keepKeys_2 n) r0 x1 p5 1 s0
      else
        f_Ru_keepKeys_36 (f_Ru_keepKeys_2 n) r0 x1 p5 0 s0
def f_Ru_keepKeys (r0 : Option Nat) (s0 : g_St) : Option (Unit × g_St) :=
  f_Ru_keepKeys_2 100000 r0 0 s0
set_option maxHeartbeats 4000000 in
set_option maxRecDepth 100000 in
theorem t_Ru_keepKeys_36 {K : g_C} {o : (Unit × g_St)} (hK : g_OK K b_Ru_keepKeys "FixpointEngine$Runner" "keepKeys" (Option.none : Option Jvm.ClassFile.FieldType)) (hN : g_nL K = 4) (hD : g_Kd K = 2) {k2 : Option Nat → Int32 → g_St → Option (Unit × g_St)} (hk2 : ∀ (r0 : Option Nat) (x1 : Int32) (s0 : g_St), k2 r0 x1 s0 = some o → g_W K s0 [(0, g_r 4 r0), (1, g_i x1)] [] 2 (g_jV o)) : ∀ (r0 : Option Nat) (x1 : Int32) (r2 : Option Nat) (x0s : Int32) (s0 : g_St), f_Ru_keepKeys_36 k2 r0 x1 r2 x0s s0 = some o → g_W K s0 [(0, g_r 4 r0), (1, g_i x1), (2, g_r 11 r2)] [g_i x0s] 36 (g_jV o) := by
  intro r0 x1 r2 x0s s0 h
  unfold f_Ru_keepKeys_36 at h
  refine r_istore_n (ls1 := [(3, g_i x0s), (0, g_r 4 r0), (1, g_i x1), (2, g_r 11 r2)]) hK d_Ru_keepKeys_36 rfl (by rw [hN]; decide) rfl ?_
  refine r_aload_n hK d_Ru_keepKeys_37 rfl 1 rfl ?_
  refine r_gR hK fd_Ru_3 w1_160 d_Ru_keepKeys_38 h (fun p1 h => ?_)
  refine r_aload_n hK d_Ru_keepKeys_41 rfl 1 rfl ?_
  refine r_gR hK fd_Ru_14 w1_171 d_Ru_keepKeys_42 h (fun p2 h => ?_)
  refine r_gI hK fd_Rl_4 w1_134 d_Ru_keepKeys_45 h (fun i3 h => ?_)
  refine r_iconst (v := 2) hK d_Ru_keepKeys_48 (by decide) ?_
  refine r_imul hK d_Ru_keepKeys_49 ?_
  refine r_iload_n hK d_Ru_keepKeys_50 rfl 2 rfl ?_
  refine r_iadd hK d_Ru_keepKeys_51 ?_
  refine r_iload_n hK d_Ru_keepKeys_52 rfl 0 rfl ?_
  refine r_ifeq (tgt := 67) hK d_Ru_keepKeys_53 (by decide) h (fun h => ?_) (fun h => ?_)
  · refine r_aload_n hK d_Ru_keepKeys_67 rfl 3 rfl ?_
    refine r_Vl (avL := []) (st := [g_i ((i3 * 2) + x1), g_r 21 p1]) hK ob_Te rfl w6_73 w6_74 w6_72 w6_75 w1_24 (by decide) pl_Te_value (by rw [hD]; decide) (Nat.le_of_ble_eq_true rfl) rfl d_Ru_keepKeys_68 (fun o9 h9 => c_Te_value _ _ _ _ o9 h9) h (fun j4 s5 h => ?_)
    refine r_lastore hK ar_21 rfl d_Ru_keepKeys_71 h (fun s6 h => ?_)
    refine r_iinc (ls1 := [(1, g_i (x1 + 1)), (3, g_i x0s), (0, g_r 4 r0), (2, g_r 11 r2)]) hK d_Ru_keepKeys_72 2 rfl rfl (by rw [hN]; decide) rfl ?_
    refine r_goto (tgt := 2) hK d_Ru_keepKeys_75 (by decide) ?_
    exact r_sub [2, 0] rfl (hk2 _ _ _ h)
  · refine r_aload_n hK d_Ru_keepKeys_56 rfl 3 rfl ?_
    refine r_gR hK fd_Te_8 w4_87 d_Ru_keepKeys_57 h (fun p7 h => ?_)
    refine r_gI hK fd_So_11 w4_228 d_Ru_keepKeys_60 h (fun i8 h => ?_)
    refine r_i2l hK d_Ru_keepKeys_63 ?_
    refine r_goto (tgt := 71) hK d_Ru_keepKeys_64 (by decide) ?_
    refine r_lastore hK ar_21 rfl d_Ru_keepKeys_71 h (fun s9 h => ?_)
    refine r_iinc (ls1 := [(1, g_i (x1 + 1)), (3, g_i x0s), (0, g_r 4 r0), (2, g_r 11 r2)]) hK d_Ru_keepKeys_72 2 rfl rfl (by rw [hN]; decide) rfl ?_
    refine r_goto (tgt := 2) hK d_Ru_keepKeys_75 (by decide) ?_
    exact r_sub [2, 0] rfl (hk2 _ _ _ h)
set_option maxHeartbeats 4000000 in
set_option maxRecDepth 100000 in
theorem t_Ru_keepKeys_2 {K : g_C} {o : (Unit × g_St)} (hK : g_OK K b_Ru_keepKeys "FixpointEngine$Runner" "keepKeys" (Option.none : Option Jvm.ClassFile.FieldType)) (hN : g_nL K = 4) (hD : g_Kd K = 2) : ∀ (n : Nat) (r0 : Option Nat) (x1 : Int32) (s0 : g_St), f_Ru_keepKeys_2 n r0 x1 s0 = some o → g_W K s0 [(0, g_r 4 r0), (1, g_i x1)] [] 2 (g_jV o) := by
  intro n
  induction n with
  | zero =>
    intro r0 x1 s0 h
    cases h
  | succ n ih =>
    intro r0 x1 s0 h
    unfold f_Ru_keepKeys_2 at h
    refine r_iload_n hK d_Ru_keepKeys_2 rfl 1 rfl ?_
    refine r_aload_n hK d_Ru_keepKeys_3 rfl 0 rfl ?_
    refine r_gR hK fd_Ru_7 w1_164 d_Ru_keepKeys_4 h (fun p1 h => ?_)
    refine r_gI hK fd_Qu_5 w3_40 d_Ru_keepKeys_7 h (fun i2 h => ?_)
    refine r_if_icmpge (tgt := 78) hK d_Ru_keepKeys_10 (by decide) h (fun h => ?_) (fun h => ?_)
    · exact r_return hK d_Ru_keepKeys_78 h
    · refine r_aload_n hK d_Ru_keepKeys_13 rfl 0 rfl ?_
      refine r_gR hK fd_Ru_7 w1_164 d_Ru_keepKeys_14 h (fun p3 h => ?_)
      refine r_gR hK fd_Qu_4 w3_37 d_Ru_keepKeys_17 h (fun p4 h => ?_)
      refine r_iload_n hK d_Ru_keepKeys_20 rfl 1 rfl ?_
      refine r_aaload hK rfl ar_26 rfl d_Ru_keepKeys_21 h (fun p5 h => ?_)
      refine r_astore_n (ls1 := [(2, g_r 11 p5), (0, g_r 4 r0), (1, g_i x1)]) hK d_Ru_keepKeys_22 rfl (by rw [hN]; decide) rfl ?_
      refine r_aload_n hK d_Ru_keepKeys_23 rfl 0 rfl ?_
      refine r_gI hK fd_Te_9 w4_90 d_Ru_keepKeys_24 h (fun i6 h => ?_)
      refine r_iconst (v := 4) hK d_Ru_keepKeys_27 (by decide) ?_
      refine r_if_icmpne (tgt := 35) hK d_Ru_keepKeys_28 (by decide) h (fun h => ?_) (fun h => ?_)
      · refine r_iconst (v := 0) hK d_Ru_keepKeys_35 (by decide) ?_
        exact r_sub [1, 2, 0] rfl (t_Ru_keepKeys_36 hK hN hD ih _ _ _ _ _ h)
      · refine r_iconst (v := 1) hK d_Ru_keepKeys_31 (by decide) ?_
        refine r_goto (tgt := 36) hK d_Ru_keepKeys_32 (by decide) ?_
        exact r_sub [1, 2, 0] rfl (t_Ru_keepKeys_36 hK hN hD ih _ _ _ _ _ h)
set_option maxHeartbeats 4000000 in
set_option maxRecDepth 100000 in
theorem t_Ru_keepKeys_0 {K : g_C} {o : (Unit × g_St)} (hK : g_OK K b_Ru_keepKeys "FixpointEngine$Runner" "keepKeys" (Option.none : Option Jvm.ClassFile.FieldType)) (hN : g_nL K = 4) (hD : g_Kd K = 2) : ∀ (r0 : Option Nat) (s0 : g_St), f_Ru_keepKeys r0 s0 = some o → g_W K s0 [(0, g_r 4 r0)] [] 0 (g_jV o) := by
  intro r0 s0 h
  unfold f_Ru_keepKeys at h
  refine r_iconst (v := 0) hK d_Ru_keepKeys_0 (by decide) ?_
  refine r_istore_n (ls1 := [(1, g_i 0), (0, g_r 4 r0)]) hK d_Ru_keepKeys_1 rfl (by rw [hN]; decide) rfl ?_
  exact r_sub [1, 0] rfl (t_Ru_keepKeys_2 hK hN hD _ _ _ _ h)
theorem c_Ru_keepKeys (l : Launch) (G : g_G) (r0 : Option Nat) (u : g_St) (o : (Unit × g_St)) (h : f_Ru_keepKeys r0 u = some o) : g_Con l G y_Ru_keepKeys b_Ru_keepKeys 4 (Option.none : Option Jvm.ClassFile.FieldType) 2 [g_r 4 r0] u (g_jV o) :=
  g_Con.of rfl rfl (by decide +kernel) (Nat.le_of_ble_eq_true rfl) (fun K hK hN hD => t_Ru_keepKeys_0 hK hN hD _ _ h)
def f_Ru_parentRow_2 : Nat → Option Nat → Int32 → g_St → Option (Int32 × g_St)
  | 0, _, _, _ => none
  | n + 1, r0, x1, s0 =>
    g_gR s0 772 r0 fun p1 =>
    g_gI s0 456 p1 fun i2 =>
    if i2 ≤ x1 then
      some ((-1), s0)
    else
      g_gR s0 772 r0 fun p3 =>
      g_gR s0 392 p3 fun p4 =>
      g_aR s0 p4 x1 fun p5 =>
      g_gI s0 393 p5 fun i6 =>
      g_gR s0 772 r0 fun p7 =>
      g_gI s0 8 p7 fun i8 =>
      if i6 = i8 then
        g_gR s0 772 r0 fun p9 =>
        g_gR s0 392 p9 fun p10 =>
        g_aR s0 p10 x1 fun p11 =>
        g_gI s0 713 p11 fun i12 =>
        some (i12, s0)
      else
        f_Ru_parentRow_2 n r0 (x1 + 1) s0
def f_Ru_parentRow (r0 : Option Nat) (s0 : g_St) : Option (Int32 × g_St) :=
  f_Ru_parentRow_2 100000 r0 0 s0
set_option maxHeartbeats 4000000 in
set_option maxRecDepth 100000 in
theorem t_Ru_parentRow_2 {K : g_C} {o : (Int32 × g_St)} (hK : g_OK K b_Ru_parentRow "FixpointEngine$Runner" "parentRow" (Option.some Jvm.ClassFile.FieldType.int)) (hN : g_nL K = 2) (hD : g_Kd K = 1) : ∀ (n : Nat) (r0 : Option Nat) (x1 : Int32) (s0 : g_St), f_Ru_parentRow_2 n r0 x1 s0 = some o → g_W K s0 [(0, g_r 4 r0), (1, g_i x1)] [] 2 (g_jI o) := by
  intro n
  induction n with
  | zero =>
    intro r0 x1 s0 h
    cases h
  | succ n ih =>
    intro r0 x1 s0 h
    unfold f_Ru_parentRow_2 at h
    refine r_iload_n hK d_Ru_parentRow_2 rfl 1 rfl ?_
    refine r_aload_n hK d_Ru_parentRow_3 rfl 0 rfl ?_
    refine r_gR hK fd_Ru_12 w1_169 d_Ru_parentRow_4 h (fun p1 h => ?_)
    refine r_gI hK fd_Se_7 w4_3 d_Ru_parentRow_7 h (fun i2 h => ?_)
    refine r_if_icmpge (tgt := 54) hK d_Ru_parentRow_10 (by decide) h (fun h => ?_) (fun h => ?_)
    · refine r_iconst (v := (-1)) hK d_Ru_parentRow_54 (by decide) ?_
      exact r_ireturn hK d_Ru_parentRow_55 h
    · refine r_aload_n hK d_Ru_parentRow_13 rfl 0 rfl ?_
      refine r_gR hK fd_Ru_12 w1_169 d_Ru_parentRow_14 h (fun p3 h => ?_)
      refine r_gR hK fd_Se_6 w4_0 d_Ru_parentRow_17 h (fun p4 h => ?_)
      refine r_iload_n hK d_Ru_parentRow_20 rfl 1 rfl ?_
      refine r_aaload hK rfl ar_27 rfl d_Ru_parentRow_21 h (fun p5 h => ?_)
      refine r_gI hK fd_So_6 w4_218 d_Ru_parentRow_22 h (fun i6 h => ?_)
      refine r_aload_n hK d_Ru_parentRow_25 rfl 0 rfl ?_
      refine r_gR hK fd_Ru_12 w1_169 d_Ru_parentRow_26 h (fun p7 h => ?_)
      refine r_gI hK fd_Se_0 w3_223 d_Ru_parentRow_29 h (fun i8 h => ?_)
      refine r_if_icmpne (tgt := 48) hK d_Ru_parentRow_32 (by decide) h (fun h => ?_) (fun h => ?_)
      · refine r_iinc (ls1 := [(1, g_i (x1 + 1)), (0, g_r 4 r0)]) hK d_Ru_parentRow_48 1 rfl rfl (by rw [hN]; decide) rfl ?_
        refine r_goto (tgt := 2) hK d_Ru_parentRow_51 (by decide) ?_
        exact r_sub [1, 0] rfl (ih _ _ _ h)
      · refine r_aload_n hK d_Ru_parentRow_35 rfl 0 rfl ?_
        refine r_gR hK fd_Ru_12 w1_169 d_Ru_parentRow_36 h (fun p9 h => ?_)
        refine r_gR hK fd_Se_6 w4_0 d_Ru_parentRow_39 h (fun p10 h => ?_)
        refine r_iload_n hK d_Ru_parentRow_42 rfl 1 rfl ?_
        refine r_aaload hK rfl ar_27 rfl d_Ru_parentRow_43 h (fun p11 h => ?_)
        refine r_gI hK fd_So_11 w4_228 d_Ru_parentRow_44 h (fun i12 h => ?_)
        exact r_ireturn hK d_Ru_parentRow_47 h
set_option maxHeartbeats 4000000 in
set_option maxRecDepth 100000 in
theorem t_Ru_parentRow_0 {K : g_C} {o : (Int32 × g_St)} (hK : g_OK K b_Ru_parentRow "FixpointEngine$Runner" "parentRow" (Option.some Jvm.ClassFile.FieldType.int)) (hN : g_nL K = 2) (hD : g_Kd K = 1) : ∀ (r0 : Option Nat) (s0 : g_St), f_Ru_parentRow r0 s0 = some o → g_W K s0 [(0, g_r 4 r0)] [] 0 (g_jI o) := by
  intro r0 s0 h
  unfold f_Ru_parentRow at h
  refine r_iconst (v := 0) hK d_Ru_parentRow_0 (by decide) ?_
  refine r_istore_n (ls1 := [(1, g_i 0), (0, g_r 4 r0)]) hK d_Ru_parentRow_1 rfl (by rw [hN]; decide) rfl ?_
  exact r_sub [1, 0] rfl (t_Ru_parentRow_2 hK hN hD _ _ _ _ h)
theorem c_Ru_parentRow (l : Launch) (G : g_G) (r0 : Option Nat) (u : g_St) (o : (Int32 × g_St)) (h : f_Ru_parentRow r0 u = some o) : g_Con l G y_Ru_parentRow b_Ru_parentRow 2 (Option.some Jvm.ClassFile.FieldType.int) 1 [g_r 4 r0] u (g_jI o) :=
  g_Con.of rfl rfl (by decide +kernel) (Nat.le_of_ble_eq_true rfl) (fun K hK hN hD => t_Ru_parentRow_0 hK hN hD _ _ h)
def f_Ru_come_123 (r0 : Option Nat) (s0 : g_St) : Option (Unit × g_St) :=
  g_gI s0 708 r0 fun i1 =>
  g_gI s0 644 r0 fun i2 =>
  if i1 < i2 then
    g_gR s0 900 r0 fun p3 =>
    g_gI s0 261 p3 fun i4 =>
    g_pI s0 261 p3 (i4 + 1) fun s5 =>
    g_gI s5 708 r0 fun i6 =>
    g_pI s5 708 r0 (i6 + 1) fun s7 =>
    some ((), s7)
  else
    g_pZ s0 1092 r0 1 fun s8 =>
    some ((), s8)
def f_Ru_come_98 (r0 : Option Nat) (s0 : g_St) : Option (Unit × g_St) :=
  g_gR s0 836 r0 fun p1 =>
  g_gI s0 519 p1 fun i2 =>
  if i2 = 0 then
    f_Ru_come_123 r0 s0
  else
    g_gR s0 900 r0 fun p3 =>
    g_gR s0 836 r0 fun p4 =>
    g_c (g_nn p3 (f_Rl_hasEqual p3 p4 s0)) fun i5 s6 =>
    if i5 = 0 then
      f_Ru_come_123 r0 s6
    else
      some ((), s6)
def f_Ru_come_80 (r0 : Option Nat) (s0 : g_St) : Option (Unit × g_St) :=
  g_gR s0 900 r0 fun p1 =>
  g_c (g_nn r0 (f_Ru_parentRow r0 s0)) fun i2 s3 =>
  g_gR s3 836 r0 fun p4 =>
  g_gI s3 1095 p4 fun i5 =>
  g_c (g_nn p1 (f_Rl_grow p1 i2 i5 s3)) fun _ s7 =>
  f_Ru_come_98 r0 s7
def f_Ru_come_12 : Nat → Option Nat → Int32 → Int32 → g_St → Option (Unit × g_St)
  | 0, _, _, _, _ => none
  | n + 1, r0, x1, x2, s0 =>
    g_gR s0 772 r0 fun p1 =>
    g_gI s0 264 p1 fun i2 =>
    if i2 ≤ x2 then
      g_gR s0 836 r0 fun p3 =>
      if p3 = none then
        g_c (g_nn r0 (f_Ru_keepKeys r0 s0)) fun _ s9 =>
        f_Ru_come_123 r0 s9
      else
        g_gR s0 836 r0 fun p4 =>
        g_gI s0 391 p4 fun i5 =>
        if i5 = 0 then
          g_gR s0 836 r0 fun p6 =>
          g_gI s0 455 p6 fun i7 =>
          if i7 = 0 then
            f_Ru_come_98 r0 s0
          else
            f_Ru_come_80 r0 s0
        else
          f_Ru_come_80 r0 s0
    else
      g_gR s0 900 r0 fun p10 =>
      g_gR s0 69 p10 fun p11 =>
      g_gR s0 260 r0 fun p12 =>
      g_aL s0 p12 x2 fun j13 =>
      g_sL s0 p11 (x1 + x2) j13 fun s14 =>
      f_Ru_come_12 n r0 x1 (x2 + 1) s14
def f_Ru_come (r0 : Option Nat) (s0 : g_St) : Option (Unit × g_St) :=
  g_gR s0 900 r0 fun p1 =>
  g_gI s0 261 p1 fun i2 =>
  f_Ru_come_12 100000 r0 (i2 * 4) 0 s0
set_option maxHeartbeats 4000000 in
set_option maxRecDepth 100000 in
theorem t_Ru_come_123 {K : g_C} {o : (Unit × g_St)} (hK : g_OK K b_Ru_come "FixpointEngine$Runner" "come" (Option.none : Option Jvm.ClassFile.FieldType)) (hN : g_nL K = 3) (hD : g_Kd K = 3) : ∀ (r0 : Option Nat) (s0 : g_St), f_Ru_come_123 r0 s0 = some o → g_W K s0 [(0, g_r 4 r0)] [] 123 (g_jV o) := by
  intro r0 s0 h
  unfold f_Ru_come_123 at h
  refine r_aload_n hK d_Ru_come_123 rfl 0 rfl ?_
  refine r_gI hK fd_Ru_11 w1_168 d_Ru_come_124 h (fun i1 h => ?_)
  refine r_aload_n hK d_Ru_come_127 rfl 0 rfl ?_
  refine r_gI hK fd_Ru_10 w1_167 d_Ru_come_128 h (fun i2 h => ?_)
  refine r_if_icmplt (tgt := 140) hK d_Ru_come_131 (by decide) h (fun h => ?_) (fun h => ?_)
  · refine r_aload_n hK d_Ru_come_140 rfl 0 rfl ?_
    refine r_gR hK fd_Ru_14 w1_171 d_Ru_come_141 h (fun p3 h => ?_)
    refine r_dup hK d_Ru_come_144 rfl ?_
    refine r_gI hK fd_Rl_4 w1_134 d_Ru_come_145 h (fun i4 h => ?_)
    refine r_iconst (v := 1) hK d_Ru_come_148 (by decide) ?_
    refine r_iadd hK d_Ru_come_149 ?_
    refine r_pI hK fd_Rl_4 rfl w1_134 d_Ru_come_150 h (fun s5 h => ?_)
    refine r_aload_n hK d_Ru_come_153 rfl 0 rfl ?_
    refine r_dup hK d_Ru_come_154 rfl ?_
    refine r_gI hK fd_Ru_11 w1_168 d_Ru_come_155 h (fun i6 h => ?_)
    refine r_iconst (v := 1) hK d_Ru_come_158 (by decide) ?_
    refine r_iadd hK d_Ru_come_159 ?_
    refine r_pI hK fd_Ru_11 rfl w1_168 d_Ru_come_160 h (fun s7 h => ?_)
    exact r_return hK d_Ru_come_163 h
  · refine r_aload_n hK d_Ru_come_134 rfl 0 rfl ?_
    refine r_iconst (v := 1) hK d_Ru_come_135 (by decide) ?_
    refine r_pZ hK fd_Ru_17 rfl w1_174 d_Ru_come_136 h (fun s8 h => ?_)
    exact r_return hK d_Ru_come_139 h
set_option maxHeartbeats 4000000 in
set_option maxRecDepth 100000 in
theorem t_Ru_come_98 {K : g_C} {o : (Unit × g_St)} (hK : g_OK K b_Ru_come "FixpointEngine$Runner" "come" (Option.none : Option Jvm.ClassFile.FieldType)) (hN : g_nL K = 3) (hD : g_Kd K = 3) : ∀ (r0 : Option Nat) (s0 : g_St), f_Ru_come_98 r0 s0 = some o → g_W K s0 [(0, g_r 4 r0)] [] 98 (g_jV o) := by
  intro r0 s0 h
  unfold f_Ru_come_98 at h
  refine r_aload_n hK d_Ru_come_98 rfl 0 rfl ?_
  refine r_gR hK fd_Ru_13 w1_170 d_Ru_come_99 h (fun p1 h => ?_)
  refine r_gI hK fd_Pa_8 w3_119 d_Ru_come_102 h (fun i2 h => ?_)
  refine r_ifeq (tgt := 123) hK d_Ru_come_105 (by decide) h (fun h => ?_) (fun h => ?_)
  · exact r_sub [0] rfl (t_Ru_come_123 hK hN hD _ _ h)
  · refine r_aload_n hK d_Ru_come_108 rfl 0 rfl ?_
    refine r_gR hK fd_Ru_14 w1_171 d_Ru_come_109 h (fun p3 h => ?_)
    refine r_aload_n hK d_Ru_come_112 rfl 0 rfl ?_
    refine r_gR hK fd_Ru_13 w1_170 d_Ru_come_113 h (fun p4 h => ?_)
    refine r_Vi (avL := [g_r 7 p4]) (st := []) hK ob_Rl rfl w6_154 w6_155 w6_153 w6_156 w1_5 (by decide) pl_Rl_hasEqual (by rw [hD]; decide) (Nat.le_of_ble_eq_true rfl) rfl d_Ru_come_116 (fun o9 h9 => c_Rl_hasEqual _ _ _ _ _ o9 h9) h (fun i5 s6 h => ?_)
    refine r_ifeq (tgt := 123) hK d_Ru_come_119 (by decide) h (fun h => ?_) (fun h => ?_)
    · exact r_sub [0] rfl (t_Ru_come_123 hK hN hD _ _ h)
    · exact r_return hK d_Ru_come_122 h
set_option maxHeartbeats 4000000 in
set_option maxRecDepth 100000 in
theorem t_Ru_come_80 {K : g_C} {o : (Unit × g_St)} (hK : g_OK K b_Ru_come "FixpointEngine$Runner" "come" (Option.none : Option Jvm.ClassFile.FieldType)) (hN : g_nL K = 3) (hD : g_Kd K = 3) : ∀ (r0 : Option Nat) (s0 : g_St), f_Ru_come_80 r0 s0 = some o → g_W K s0 [(0, g_r 4 r0)] [] 80 (g_jV o) := by
  intro r0 s0 h
  unfold f_Ru_come_80 at h
  refine r_aload_n hK d_Ru_come_80 rfl 0 rfl ?_
  refine r_gR hK fd_Ru_14 w1_171 d_Ru_come_81 h (fun p1 h => ?_)
  refine r_aload_n hK d_Ru_come_84 rfl 0 rfl ?_
  refine r_Vi (avL := []) (st := [g_r 5 p1]) hK ob_Ru rfl w6_145 w6_146 w6_144 w6_147 w1_4 (by decide) pl_Ru_parentRow (by rw [hD]; decide) (Nat.le_of_ble_eq_true rfl) rfl d_Ru_come_85 (fun o9 h9 => c_Ru_parentRow _ _ _ _ o9 h9) h (fun i2 s3 h => ?_)
  refine r_aload_n hK d_Ru_come_88 rfl 0 rfl ?_
  refine r_gR hK fd_Ru_13 w1_170 d_Ru_come_89 h (fun p4 h => ?_)
  refine r_gI hK fd_Pa_17 w3_147 d_Ru_come_92 h (fun i5 h => ?_)
  refine r_Vv (avL := [g_i i2, g_i i5]) (st := []) hK ob_Rl rfl w6_149 w6_150 w6_148 w6_151 w1_5 (by decide) pl_Rl_grow (by rw [hD]; decide) (Nat.le_of_ble_eq_true rfl) rfl d_Ru_come_95 (fun o9 h9 => c_Rl_grow _ _ _ _ _ _ o9 h9) h (fun s7 h => ?_)
  exact r_sub [0] rfl (t_Ru_come_98 hK hN hD _ _ h)
set_option maxHeartbeats 4000000 in
set_option maxRecDepth 100000 in
theorem t_Ru_come_12 {K : g_C} {o : (Unit × g_St)} (hK : g_OK K b_Ru_come "FixpointEngine$Runner" "come" (Option.none : Option Jvm.ClassFile.FieldType)) (hN : g_nL K = 3) (hD : g_Kd K = 3) : ∀ (n : Nat) (r0 : Option Nat) (x1 : Int32) (x2 : Int32) (s0 : g_St), f_Ru_come_12 n r0 x1 x2 s0 = some o → g_W K s0 [(0, g_r 4 r0), (1, g_i x1), (2, g_i x2)] [] 12 (g_jV o) := by
  intro n
  induction n with
  | zero =>
    intro r0 x1 x2 s0 h
    cases h
  | succ n ih =>
    intro r0 x1 x2 s0 h
    unfold f_Ru_come_12 at h
    refine r_iload_n hK d_Ru_come_12 rfl 2 rfl ?_
    refine r_aload_n hK d_Ru_come_13 rfl 0 rfl ?_
    refine r_gR hK fd_Ru_12 w1_169 d_Ru_come_14 h (fun p1 h => ?_)
    refine r_gI hK fd_Se_4 w3_232 d_Ru_come_17 h (fun i2 h => ?_)
    refine r_if_icmpge (tgt := 46) hK d_Ru_come_20 (by decide) h (fun h => ?_) (fun h => ?_)
    · refine r_aload_n hK d_Ru_come_46 rfl 0 rfl ?_
      refine r_gR hK fd_Ru_13 w1_170 d_Ru_come_47 h (fun p3 h => ?_)
      refine r_ifnonnull (tgt := 60) hK d_Ru_come_50 (by decide) h (fun h => ?_) (fun h => ?_)
      · refine r_aload_n hK d_Ru_come_60 rfl 0 rfl ?_
        refine r_gR hK fd_Ru_13 w1_170 d_Ru_come_61 h (fun p4 h => ?_)
        refine r_gI hK fd_Pa_6 w3_112 d_Ru_come_64 h (fun i5 h => ?_)
        refine r_ifne (tgt := 80) hK d_Ru_come_67 (by decide) h (fun h => ?_) (fun h => ?_)
        · exact r_sub [0] rfl (t_Ru_come_80 hK hN hD _ _ h)
        · refine r_aload_n hK d_Ru_come_70 rfl 0 rfl ?_
          refine r_gR hK fd_Ru_13 w1_170 d_Ru_come_71 h (fun p6 h => ?_)
          refine r_gI hK fd_Pa_7 w3_115 d_Ru_come_74 h (fun i7 h => ?_)
          refine r_ifeq (tgt := 98) hK d_Ru_come_77 (by decide) h (fun h => ?_) (fun h => ?_)
          · exact r_sub [0] rfl (t_Ru_come_98 hK hN hD _ _ h)
          · exact r_sub [0] rfl (t_Ru_come_80 hK hN hD _ _ h)
      · refine r_aload_n hK d_Ru_come_53 rfl 0 rfl ?_
        refine r_Vv (avL := []) (st := []) hK ob_Ru rfl w6_141 w6_142 w6_140 w6_143 w1_4 (by decide) pl_Ru_keepKeys (by rw [hD]; decide) (Nat.le_of_ble_eq_true rfl) rfl d_Ru_come_54 (fun o9 h9 => c_Ru_keepKeys _ _ _ _ o9 h9) h (fun s9 h => ?_)
        refine r_goto (tgt := 123) hK d_Ru_come_57 (by decide) ?_
        exact r_sub [0] rfl (t_Ru_come_123 hK hN hD _ _ h)
    · refine r_aload_n hK d_Ru_come_23 rfl 0 rfl ?_
      refine r_gR hK fd_Ru_14 w1_171 d_Ru_come_24 h (fun p10 h => ?_)
      refine r_gR hK fd_Rl_1 w1_129 d_Ru_come_27 h (fun p11 h => ?_)
      refine r_iload_n hK d_Ru_come_30 rfl 1 rfl ?_
      refine r_iload_n hK d_Ru_come_31 rfl 2 rfl ?_
      refine r_iadd hK d_Ru_come_32 ?_
      refine r_aload_n hK d_Ru_come_33 rfl 0 rfl ?_
      refine r_gR hK fd_Ru_4 w1_161 d_Ru_come_34 h (fun p12 h => ?_)
      refine r_iload_n hK d_Ru_come_37 rfl 2 rfl ?_
      refine r_laload hK ar_21 rfl d_Ru_come_38 h (fun j13 h => ?_)
      refine r_lastore hK ar_21 rfl d_Ru_come_39 h (fun s14 h => ?_)
      refine r_iinc (ls1 := [(2, g_i (x2 + 1)), (0, g_r 4 r0), (1, g_i x1)]) hK d_Ru_come_40 2 rfl rfl (by rw [hN]; decide) rfl ?_
      refine r_goto (tgt := 12) hK d_Ru_come_43 (by decide) ?_
      exact r_sub [1, 2, 0] rfl (ih _ _ _ _ h)
set_option maxHeartbeats 4000000 in
set_option maxRecDepth 100000 in
theorem t_Ru_come_0 {K : g_C} {o : (Unit × g_St)} (hK : g_OK K b_Ru_come "FixpointEngine$Runner" "come" (Option.none : Option Jvm.ClassFile.FieldType)) (hN : g_nL K = 3) (hD : g_Kd K = 3) : ∀ (r0 : Option Nat) (s0 : g_St), f_Ru_come r0 s0 = some o → g_W K s0 [(0, g_r 4 r0)] [] 0 (g_jV o) := by
  intro r0 s0 h
  unfold f_Ru_come at h
  refine r_aload_n hK d_Ru_come_0 rfl 0 rfl ?_
  refine r_gR hK fd_Ru_14 w1_171 d_Ru_come_1 h (fun p1 h => ?_)
  refine r_gI hK fd_Rl_4 w1_134 d_Ru_come_4 h (fun i2 h => ?_)
  refine r_iconst (v := 4) hK d_Ru_come_7 (by decide) ?_
  refine r_imul hK d_Ru_come_8 ?_
  refine r_istore_n (ls1 := [(1, g_i (i2 * 4)), (0, g_r 4 r0)]) hK d_Ru_come_9 rfl (by rw [hN]; decide) rfl ?_
  refine r_iconst (v := 0) hK d_Ru_come_10 (by decide) ?_
  refine r_istore_n (ls1 := [(2, g_i 0), (1, g_i (i2 * 4)), (0, g_r 4 r0)]) hK d_Ru_come_11 rfl (by rw [hN]; decide) rfl ?_
  exact r_sub [2, 1, 0] rfl (t_Ru_come_12 hK hN hD _ _ _ _ _ h)
theorem c_Ru_come (l : Launch) (G : g_G) (r0 : Option Nat) (u : g_St) (o : (Unit × g_St)) (h : f_Ru_come r0 u = some o) : g_Con l G y_Ru_come b_Ru_come 3 (Option.none : Option Jvm.ClassFile.FieldType) 3 [g_r 4 r0] u (g_jV o) :=
  g_Con.of rfl rfl (by decide +kernel) (Nat.le_of_ble_eq_true rfl) (fun K hK hN hD => t_Ru_come_0 hK hN hD _ _ h)
def f_Ru_compareKeys (r0 : Option Nat) (r1 : Option Nat) (y2 : Int64) (y4 : Int64) (s0 : g_St) : Option (Int32 × g_St) :=
  g_gI s0 587 r1 fun i1 =>
  if i1 = 4 then
    g_gR s0 4 r0 fun p2 =>
    g_gR s0 523 r1 fun p3 =>
    g_gI s0 393 p3 fun i4 =>
    g_aR s0 p2 i4 fun p5 =>
    g_gR s0 452 r0 fun p6 =>
    g_gR s0 6 p6 fun p7 =>
    g_gR s0 523 r1 fun p8 =>
    g_gI s0 393 p8 fun i9 =>
    g_aR s0 p7 i9 fun p10 =>
    g_c (g_nn p5 (f_Rl_compareTrails p5 p10 y2.toInt32 y4.toInt32 s0)) fun i11 s12 =>
    some (i11, s12)
  else
    g_c (f_Rl_compareCells y2 y4 s0) fun i13 s14 =>
    some (i13, s14)
set_option maxHeartbeats 4000000 in
set_option maxRecDepth 100000 in
theorem t_Ru_compareKeys_0 {K : g_C} {o : (Int32 × g_St)} (hK : g_OK K b_Ru_compareKeys "FixpointEngine$Runner" "compareKeys" (Option.some Jvm.ClassFile.FieldType.int)) (hN : g_nL K = 6) (hD : g_Kd K = 8) : ∀ (r0 : Option Nat) (r1 : Option Nat) (y2 : Int64) (y4 : Int64) (s0 : g_St), f_Ru_compareKeys r0 r1 y2 y4 s0 = some o → g_W K s0 [(0, g_r 4 r0), (1, g_r 11 r1), (2, g_l y2), (4, g_l y4)] [] 0 (g_jI o) := by
  intro r0 r1 y2 y4 s0 h
  unfold f_Ru_compareKeys at h
  refine r_aload_n hK d_Ru_compareKeys_0 rfl 1 rfl ?_
  refine r_gI hK fd_Te_9 w4_90 d_Ru_compareKeys_1 h (fun i1 h => ?_)
  refine r_iconst (v := 4) hK d_Ru_compareKeys_4 (by decide) ?_
  refine r_if_icmpeq (tgt := 15) hK d_Ru_compareKeys_5 (by decide) h (fun h => ?_) (fun h => ?_)
  · refine r_aload_n hK d_Ru_compareKeys_15 rfl 0 rfl ?_
    refine r_gR hK fd_Ru_0 w1_154 d_Ru_compareKeys_16 h (fun p2 h => ?_)
    refine r_aload_n hK d_Ru_compareKeys_19 rfl 1 rfl ?_
    refine r_gR hK fd_Te_8 w4_87 d_Ru_compareKeys_20 h (fun p3 h => ?_)
    refine r_gI hK fd_So_6 w4_218 d_Ru_compareKeys_23 h (fun i4 h => ?_)
    refine r_aaload hK rfl ar_29 rfl d_Ru_compareKeys_26 h (fun p5 h => ?_)
    refine r_aload_n hK d_Ru_compareKeys_27 rfl 0 rfl ?_
    refine r_gR hK fd_Ru_7 w1_164 d_Ru_compareKeys_28 h (fun p6 h => ?_)
    refine r_gR hK fd_Qu_0 w3_22 d_Ru_compareKeys_31 h (fun p7 h => ?_)
    refine r_aload_n hK d_Ru_compareKeys_34 rfl 1 rfl ?_
    refine r_gR hK fd_Te_8 w4_87 d_Ru_compareKeys_35 h (fun p8 h => ?_)
    refine r_gI hK fd_So_6 w4_218 d_Ru_compareKeys_38 h (fun i9 h => ?_)
    refine r_aaload hK rfl ar_24 rfl d_Ru_compareKeys_41 h (fun p10 h => ?_)
    refine r_lload_n hK d_Ru_compareKeys_42 rfl 2 rfl ?_
    refine r_l2i hK d_Ru_compareKeys_43 ?_
    refine r_lload hK d_Ru_compareKeys_44 3 rfl ?_
    refine r_l2i hK d_Ru_compareKeys_46 ?_
    refine r_Vi (avL := [g_r 7 p10, g_i y2.toInt32, g_i y4.toInt32]) (st := []) hK ob_Rl rfl w6_209 w6_210 w6_208 w6_211 w1_5 (by decide) pl_Rl_compareTrails (by rw [hD]; decide) (Nat.le_of_ble_eq_true rfl) rfl d_Ru_compareKeys_47 (fun o9 h9 => c_Rl_compareTrails _ _ _ _ _ _ _ o9 h9) h (fun i11 s12 h => ?_)
    exact r_ireturn hK d_Ru_compareKeys_50 h
  · refine r_lload_n hK d_Ru_compareKeys_8 rfl 2 rfl ?_
    refine r_lload hK d_Ru_compareKeys_9 3 rfl ?_
    refine r_Si (avL := [g_l y2, g_l y4]) (st := []) hK w6_202 w6_201 w6_203 w1_5 (by decide) pl_Rl_compareCells (by rw [hD]; decide) (Nat.le_of_ble_eq_true rfl) rfl d_Ru_compareKeys_11 (fun o9 h9 => c_Rl_compareCells _ _ _ _ _ o9 h9) h (fun i13 s14 h => ?_)
    exact r_ireturn hK d_Ru_compareKeys_14 h
theorem c_Ru_compareKeys (l : Launch) (G : g_G) (r0 : Option Nat) (r1 : Option Nat) (y2 : Int64) (y4 : Int64) (u : g_St) (o : (Int32 × g_St)) (h : f_Ru_compareKeys r0 r1 y2 y4 u = some o) : g_Con l G y_Ru_compareKeys b_Ru_compareKeys 6 (Option.some Jvm.ClassFile.FieldType.int) 8 [g_r 4 r0, g_r 11 r1, g_l y2, g_l y4] u (g_jI o) :=
  g_Con.of rfl rfl (by decide +kernel) (Nat.le_of_ble_eq_true rfl) (fun K hK hN hD => t_Ru_compareKeys_0 hK hN hD _ _ _ _ _ h)
def f_Ru_compareRows_75 : Nat → Option Nat → Int32 → Int32 → Option Nat → Int32 → g_St → Option (Int32 × g_St)
  | 0, _, _, _, _, _, _ => none
  | n + 1, r0, x1, x2, r3, x4, s0 =>
    g_gR s0 452 r0 fun p1 =>
    g_gR s0 198 p1 fun p2 =>
    g_gI s0 264 p2 fun i3 =>
    if i3 ≤ x4 then
      some (0, s0)
    else
      g_aL s0 r3 ((x1 * 4) + x4) fun j4 =>
      g_aL s0 r3 ((x2 * 4) + x4) fun j5 =>
      g_c (f_Rl_compareCells j4 j5 s0) fun i6 s7 =>
      if i6 = 0 then
        f_Ru_compareRows_75 n r0 x1 x2 r3 (x4 + 1) s7
      else
        some (i6, s7)
def f_Ru_compareRows_2 : Nat → Option Nat → Int32 → Int32 → Int32 → g_St → Option (Int32 × g_St)
  | 0, _, _, _, _, _ => none
  | n + 1, r0, x1, x2, x3, s0 =>
    g_gR s0 452 r0 fun p1 =>
    g_gI s0 326 p1 fun i2 =>
    if i2 ≤ x3 then
      g_gR s0 4 r0 fun p3 =>
      g_aR s0 p3 4 fun p4 =>
      g_gR s0 69 p4 fun p5 =>
      f_Ru_compareRows_75 100000 r0 x1 x2 p5 0 s0
    else
      g_gR s0 452 r0 fun p6 =>
      g_gR s0 262 p6 fun p7 =>
      g_aR s0 p7 x3 fun p8 =>
      g_gR s0 196 r0 fun p9 =>
      g_aL s0 p9 ((x1 * 2) + x3) fun j10 =>
      g_gR s0 196 r0 fun p11 =>
      g_aL s0 p11 ((x2 * 2) + x3) fun j12 =>
      g_c (g_nn r0 (f_Ru_compareKeys r0 p8 j10 j12 s0)) fun i13 s14 =>
      if i13 = 0 then
        f_Ru_compareRows_2 n r0 x1 x2 (x3 + 1) s14
      else
        some (i13, s14)
def f_Ru_compareRows (r0 : Option Nat) (x1 : Int32) (x2 : Int32) (s0 : g_St) : Option (Int32 × g_St) :=
  f_Ru_compareRows_2 100000 r0 x1 x2 0 s0
set_option maxHeartbeats 4000000 in
set_option maxRecDepth 100000 in
theorem t_Ru_compareRows_75 {K : g_C} {o : (Int32 × g_St)} (hK : g_OK K b_Ru_compareRows "FixpointEngine$Runner" "compareRows" (Option.some Jvm.ClassFile.FieldType.int)) (hN : g_nL K = 6) (hD : g_Kd K = 9) : ∀ (n : Nat) (r0 : Option Nat) (x1 : Int32) (x2 : Int32) (r3 : Option Nat) (x4 : Int32) (s0 : g_St), f_Ru_compareRows_75 n r0 x1 x2 r3 x4 s0 = some o → g_W K s0 [(0, g_r 4 r0), (1, g_i x1), (2, g_i x2), (3, g_r 21 r3), (4, g_i x4)] [] 75 (g_jI o) := by
  intro n
  induction n with
  | zero =>
    intro r0 x1 x2 r3 x4 s0 h
    cases h
  | succ n ih =>
    intro r0 x1 x2 r3 x4 s0 h
    unfold f_Ru_compareRows_75 at h
    refine r_iload hK d_Ru_compareRows_75 4 rfl ?_
    refine r_aload_n hK d_Ru_compareRows_77 rfl 0 rfl ?_
    refine r_gR hK fd_Ru_7 w1_164 d_Ru_compareRows_78 h (fun p1 h => ?_)
    refine r_gR hK fd_Qu_3 w3_35 d_Ru_compareRows_81 h (fun p2 h => ?_)
    refine r_gI hK fd_Se_4 w3_232 d_Ru_compareRows_84 h (fun i3 h => ?_)
    refine r_if_icmpge (tgt := 125) hK d_Ru_compareRows_87 (by decide) h (fun h => ?_) (fun h => ?_)
    · refine r_iconst (v := 0) hK d_Ru_compareRows_125 (by decide) ?_
      exact r_ireturn hK d_Ru_compareRows_126 h
    · refine r_aload_n hK d_Ru_compareRows_90 rfl 3 rfl ?_
      refine r_iload_n hK d_Ru_compareRows_91 rfl 1 rfl ?_
      refine r_iconst (v := 4) hK d_Ru_compareRows_92 (by decide) ?_
      refine r_imul hK d_Ru_compareRows_93 ?_
      refine r_iload hK d_Ru_compareRows_94 4 rfl ?_
      refine r_iadd hK d_Ru_compareRows_96 ?_
      refine r_laload hK ar_21 rfl d_Ru_compareRows_97 h (fun j4 h => ?_)
      refine r_aload_n hK d_Ru_compareRows_98 rfl 3 rfl ?_
      refine r_iload_n hK d_Ru_compareRows_99 rfl 2 rfl ?_
      refine r_iconst (v := 4) hK d_Ru_compareRows_100 (by decide) ?_
      refine r_imul hK d_Ru_compareRows_101 ?_
      refine r_iload hK d_Ru_compareRows_102 4 rfl ?_
      refine r_iadd hK d_Ru_compareRows_104 ?_
      refine r_laload hK ar_21 rfl d_Ru_compareRows_105 h (fun j5 h => ?_)
      refine r_Si (avL := [g_l j4, g_l j5]) (st := []) hK w6_202 w6_201 w6_203 w1_5 (by decide) pl_Rl_compareCells (by rw [hD]; decide) (Nat.le_of_ble_eq_true rfl) rfl d_Ru_compareRows_106 (fun o9 h9 => c_Rl_compareCells _ _ _ _ _ o9 h9) h (fun i6 s7 h => ?_)
      refine r_istore (ls1 := [(5, g_i i6), (0, g_r 4 r0), (1, g_i x1), (2, g_i x2), (3, g_r 21 r3), (4, g_i x4)]) hK d_Ru_compareRows_109 (by rw [hN]; decide) rfl ?_
      refine r_iload hK d_Ru_compareRows_111 0 rfl ?_
      refine r_ifeq (tgt := 119) hK d_Ru_compareRows_113 (by decide) h (fun h => ?_) (fun h => ?_)
      · refine r_iinc (ls1 := [(4, g_i (x4 + 1)), (5, g_i i6), (0, g_r 4 r0), (1, g_i x1), (2, g_i x2), (3, g_r 21 r3)]) hK d_Ru_compareRows_119 5 rfl rfl (by rw [hN]; decide) rfl ?_
        refine r_goto (tgt := 75) hK d_Ru_compareRows_122 (by decide) ?_
        exact r_sub [2, 3, 4, 5, 0] rfl (ih _ _ _ _ _ _ h)
      · refine r_iload hK d_Ru_compareRows_116 0 rfl ?_
        exact r_ireturn hK d_Ru_compareRows_118 h
set_option maxHeartbeats 4000000 in
set_option maxRecDepth 100000 in
theorem t_Ru_compareRows_2 {K : g_C} {o : (Int32 × g_St)} (hK : g_OK K b_Ru_compareRows "FixpointEngine$Runner" "compareRows" (Option.some Jvm.ClassFile.FieldType.int)) (hN : g_nL K = 6) (hD : g_Kd K = 9) : ∀ (n : Nat) (r0 : Option Nat) (x1 : Int32) (x2 : Int32) (x3 : Int32) (s0 : g_St), f_Ru_compareRows_2 n r0 x1 x2 x3 s0 = some o → g_W K s0 [(0, g_r 4 r0), (1, g_i x1), (2, g_i x2), (3, g_i x3)] [] 2 (g_jI o) := by
  intro n
  induction n with
  | zero =>
    intro r0 x1 x2 x3 s0 h
    cases h
  | succ n ih =>
    intro r0 x1 x2 x3 s0 h
    unfold f_Ru_compareRows_2 at h
    refine r_iload_n hK d_Ru_compareRows_2 rfl 3 rfl ?_
    refine r_aload_n hK d_Ru_compareRows_3 rfl 0 rfl ?_
    refine r_gR hK fd_Ru_7 w1_164 d_Ru_compareRows_4 h (fun p1 h => ?_)
    refine r_gI hK fd_Qu_5 w3_40 d_Ru_compareRows_7 h (fun i2 h => ?_)
    refine r_if_icmpge (tgt := 62) hK d_Ru_compareRows_10 (by decide) h (fun h => ?_) (fun h => ?_)
    · refine r_aload_n hK d_Ru_compareRows_62 rfl 0 rfl ?_
      refine r_gR hK fd_Ru_0 w1_154 d_Ru_compareRows_63 h (fun p3 h => ?_)
      refine r_iconst (v := 4) hK d_Ru_compareRows_66 (by decide) ?_
      refine r_aaload hK rfl ar_29 rfl d_Ru_compareRows_67 h (fun p4 h => ?_)
      refine r_gR hK fd_Rl_1 w1_129 d_Ru_compareRows_68 h (fun p5 h => ?_)
      refine r_astore_n (ls1 := [(3, g_r 21 p5), (0, g_r 4 r0), (1, g_i x1), (2, g_i x2)]) hK d_Ru_compareRows_71 rfl (by rw [hN]; decide) rfl ?_
      refine r_iconst (v := 0) hK d_Ru_compareRows_72 (by decide) ?_
      refine r_istore (ls1 := [(4, g_i 0), (3, g_r 21 p5), (0, g_r 4 r0), (1, g_i x1), (2, g_i x2)]) hK d_Ru_compareRows_73 (by rw [hN]; decide) rfl ?_
      exact r_sub [2, 3, 4, 1, 0] rfl (t_Ru_compareRows_75 hK hN hD _ _ _ _ _ _ _ h)
    · refine r_aload_n hK d_Ru_compareRows_13 rfl 0 rfl ?_
      refine r_aload_n hK d_Ru_compareRows_14 rfl 0 rfl ?_
      refine r_gR hK fd_Ru_7 w1_164 d_Ru_compareRows_15 h (fun p6 h => ?_)
      refine r_gR hK fd_Qu_4 w3_37 d_Ru_compareRows_18 h (fun p7 h => ?_)
      refine r_iload_n hK d_Ru_compareRows_21 rfl 3 rfl ?_
      refine r_aaload hK rfl ar_26 rfl d_Ru_compareRows_22 h (fun p8 h => ?_)
      refine r_aload_n hK d_Ru_compareRows_23 rfl 0 rfl ?_
      refine r_gR hK fd_Ru_3 w1_160 d_Ru_compareRows_24 h (fun p9 h => ?_)
      refine r_iload_n hK d_Ru_compareRows_27 rfl 1 rfl ?_
      refine r_iconst (v := 2) hK d_Ru_compareRows_28 (by decide) ?_
      refine r_imul hK d_Ru_compareRows_29 ?_
      refine r_iload_n hK d_Ru_compareRows_30 rfl 3 rfl ?_
      refine r_iadd hK d_Ru_compareRows_31 ?_
      refine r_laload hK ar_21 rfl d_Ru_compareRows_32 h (fun j10 h => ?_)
      refine r_aload_n hK d_Ru_compareRows_33 rfl 0 rfl ?_
      refine r_gR hK fd_Ru_3 w1_160 d_Ru_compareRows_34 h (fun p11 h => ?_)
      refine r_iload_n hK d_Ru_compareRows_37 rfl 2 rfl ?_
      refine r_iconst (v := 2) hK d_Ru_compareRows_38 (by decide) ?_
      refine r_imul hK d_Ru_compareRows_39 ?_
      refine r_iload_n hK d_Ru_compareRows_40 rfl 3 rfl ?_
      refine r_iadd hK d_Ru_compareRows_41 ?_
      refine r_laload hK ar_21 rfl d_Ru_compareRows_42 h (fun j12 h => ?_)
      refine r_Vi (avL := [g_r 11 p8, g_l j10, g_l j12]) (st := []) hK ob_Ru rfl w6_198 w6_199 w6_197 w6_200 w1_4 (by decide) pl_Ru_compareKeys (by rw [hD]; decide) (Nat.le_of_ble_eq_true rfl) rfl d_Ru_compareRows_43 (fun o9 h9 => c_Ru_compareKeys _ _ _ _ _ _ _ o9 h9) h (fun i13 s14 h => ?_)
      refine r_istore (ls1 := [(4, g_i i13), (0, g_r 4 r0), (1, g_i x1), (2, g_i x2), (3, g_i x3)]) hK d_Ru_compareRows_46 (by rw [hN]; decide) rfl ?_
      refine r_iload hK d_Ru_compareRows_48 0 rfl ?_
      refine r_ifeq (tgt := 56) hK d_Ru_compareRows_50 (by decide) h (fun h => ?_) (fun h => ?_)
      · refine r_iinc (ls1 := [(3, g_i (x3 + 1)), (4, g_i i13), (0, g_r 4 r0), (1, g_i x1), (2, g_i x2)]) hK d_Ru_compareRows_56 4 rfl rfl (by rw [hN]; decide) rfl ?_
        refine r_goto (tgt := 2) hK d_Ru_compareRows_59 (by decide) ?_
        exact r_sub [2, 3, 4, 0] rfl (ih _ _ _ _ _ h)
      · refine r_iload hK d_Ru_compareRows_53 0 rfl ?_
        exact r_ireturn hK d_Ru_compareRows_55 h
set_option maxHeartbeats 4000000 in
set_option maxRecDepth 100000 in
theorem t_Ru_compareRows_0 {K : g_C} {o : (Int32 × g_St)} (hK : g_OK K b_Ru_compareRows "FixpointEngine$Runner" "compareRows" (Option.some Jvm.ClassFile.FieldType.int)) (hN : g_nL K = 6) (hD : g_Kd K = 9) : ∀ (r0 : Option Nat) (x1 : Int32) (x2 : Int32) (s0 : g_St), f_Ru_compareRows r0 x1 x2 s0 = some o → g_W K s0 [(0, g_r 4 r0), (1, g_i x1), (2, g_i x2)] [] 0 (g_jI o) := by
  intro r0 x1 x2 s0 h
  unfold f_Ru_compareRows at h
  refine r_iconst (v := 0) hK d_Ru_compareRows_0 (by decide) ?_
  refine r_istore_n (ls1 := [(3, g_i 0), (0, g_r 4 r0), (1, g_i x1), (2, g_i x2)]) hK d_Ru_compareRows_1 rfl (by rw [hN]; decide) rfl ?_
  exact r_sub [1, 2, 3, 0] rfl (t_Ru_compareRows_2 hK hN hD _ _ _ _ _ _ h)
theorem c_Ru_compareRows (l : Launch) (G : g_G) (r0 : Option Nat) (x1 : Int32) (x2 : Int32) (u : g_St) (o : (Int32 × g_St)) (h : f_Ru_compareRows r0 x1 x2 u = some o) : g_Con l G y_Ru_compareRows b_Ru_compareRows 6 (Option.some Jvm.ClassFile.FieldType.int) 9 [g_r 4 r0, g_i x1, g_i x2] u (g_jI o) :=
  g_Con.of rfl rfl (by decide +kernel) (Nat.le_of_ble_eq_true rfl) (fun K hK hN hD => t_Ru_compareRows_0 hK hN hD _ _ _ _ h)
def f_Ru_sort_19 (k9 : Option Nat → Option Nat → Int32 → g_St → Option (Unit × g_St)) : Nat → Option Nat → Option Nat → Int32 → Int32 → g_St → Option (Unit × g_St)
  | 0, _, _, _, _, _ => none
  | n + 1, r0, r1, x2, x3, s0 =>
    if x3 ≤ 0 then
      g_gR s0 132 r0 fun p1 =>
      g_sI s0 p1 x3 x2 fun s2 =>
      k9 r0 r1 (x2 + 1) s2
    else
      g_gR s0 132 r0 fun p3 =>
      g_aI s0 p3 (x3 - 1) fun i4 =>
      g_c (g_nn r0 (f_Ru_compareRows r0 x2 i4 s0)) fun i5 s6 =>
      if 0 ≤ i5 then
        g_gR s6 132 r0 fun p7 =>
        g_sI s6 p7 x3 x2 fun s8 =>
        k9 r0 r1 (x2 + 1) s8
      else
        g_gR s6 132 r0 fun p9 =>
        g_gR s6 132 r0 fun p10 =>
        g_aI s6 p10 (x3 - 1) fun i11 =>
        g_sI s6 p9 x3 i11 fun s12 =>
        f_Ru_sort_19 k9 n r0 r1 x2 (x3 + (-1)) s12
def f_Ru_sort_9 : Nat → Option Nat → Option Nat → Int32 → g_St → Option (Unit × g_St)
  | 0, _, _, _, _ => none
  | n + 1, r0, r1, x2, s0 =>
    g_gI s0 261 r1 fun i1 =>
    if i1 ≤ x2 then
      some ((), s0)
    else
      f_Ru_sort_19 (f_Ru_sort_9 n) 100000 r0 r1 x2 x2 s0
def f_Ru_sort (r0 : Option Nat) (s0 : g_St) : Option (Unit × g_St) :=
  g_gR s0 4 r0 fun p1 =>
  g_aR s0 p1 4 fun p2 =>
  f_Ru_sort_9 100000 r0 p2 0 s0
set_option maxHeartbeats 4000000 in
set_option maxRecDepth 100000 in
theorem t_Ru_sort_19 {K : g_C} {o : (Unit × g_St)} (hK : g_OK K b_Ru_sort "FixpointEngine$Runner" "sort" (Option.none : Option Jvm.ClassFile.FieldType)) (hN : g_nL K = 4) (hD : g_Kd K = 10) {k9 : Option Nat → Option Nat → Int32 → g_St → Option (Unit × g_St)} (hk9 : ∀ (r0 : Option Nat) (r1 : Option Nat) (x2 : Int32) (s0 : g_St), k9 r0 r1 x2 s0 = some o → g_W K s0 [(0, g_r 4 r0), (1, g_r 5 r1), (2, g_i x2)] [] 9 (g_jV o)) : ∀ (n : Nat) (r0 : Option Nat) (r1 : Option Nat) (x2 : Int32) (x3 : Int32) (s0 : g_St), f_Ru_sort_19 k9 n r0 r1 x2 x3 s0 = some o → g_W K s0 [(0, g_r 4 r0), (1, g_r 5 r1), (2, g_i x2), (3, g_i x3)] [] 19 (g_jV o) := by
  intro n
  induction n with
  | zero =>
    intro r0 r1 x2 x3 s0 h
    cases h
  | succ n ih =>
    intro r0 r1 x2 x3 s0 h
    unfold f_Ru_sort_19 at h
    refine r_iload_n hK d_Ru_sort_19 rfl 3 rfl ?_
    refine r_ifle (tgt := 59) hK d_Ru_sort_20 (by decide) h (fun h => ?_) (fun h => ?_)
    · refine r_aload_n hK d_Ru_sort_59 rfl 0 rfl ?_
      refine r_gR hK fd_Ru_2 w1_158 d_Ru_sort_60 h (fun p1 h => ?_)
      refine r_iload_n hK d_Ru_sort_63 rfl 3 rfl ?_
      refine r_iload_n hK d_Ru_sort_64 rfl 2 rfl ?_
      refine r_iastore hK ar_20 rfl d_Ru_sort_65 h (fun s2 h => ?_)
      refine r_iinc (ls1 := [(2, g_i (x2 + 1)), (0, g_r 4 r0), (1, g_r 5 r1), (3, g_i x3)]) hK d_Ru_sort_66 2 rfl rfl (by rw [hN]; decide) rfl ?_
      refine r_goto (tgt := 9) hK d_Ru_sort_69 (by decide) ?_
      exact r_sub [1, 2, 0] rfl (hk9 _ _ _ _ h)
    · refine r_aload_n hK d_Ru_sort_23 rfl 0 rfl ?_
      refine r_iload_n hK d_Ru_sort_24 rfl 2 rfl ?_
      refine r_aload_n hK d_Ru_sort_25 rfl 0 rfl ?_
      refine r_gR hK fd_Ru_2 w1_158 d_Ru_sort_26 h (fun p3 h => ?_)
      refine r_iload_n hK d_Ru_sort_29 rfl 3 rfl ?_
      refine r_iconst (v := 1) hK d_Ru_sort_30 (by decide) ?_
      refine r_isub hK d_Ru_sort_31 ?_
      refine r_iaload hK ar_20 rfl d_Ru_sort_32 h (fun i4 h => ?_)
      refine r_Vi (avL := [g_i x2, g_i i4]) (st := []) hK ob_Ru rfl w6_194 w6_195 w6_193 w6_196 w1_4 (by decide) pl_Ru_compareRows (by rw [hD]; decide) (Nat.le_of_ble_eq_true rfl) rfl d_Ru_sort_33 (fun o9 h9 => c_Ru_compareRows _ _ _ _ _ _ o9 h9) h (fun i5 s6 h => ?_)
      refine r_ifge (tgt := 59) hK d_Ru_sort_36 (by decide) h (fun h => ?_) (fun h => ?_)
      · refine r_aload_n hK d_Ru_sort_59 rfl 0 rfl ?_
        refine r_gR hK fd_Ru_2 w1_158 d_Ru_sort_60 h (fun p7 h => ?_)
        refine r_iload_n hK d_Ru_sort_63 rfl 3 rfl ?_
        refine r_iload_n hK d_Ru_sort_64 rfl 2 rfl ?_
        refine r_iastore hK ar_20 rfl d_Ru_sort_65 h (fun s8 h => ?_)
        refine r_iinc (ls1 := [(2, g_i (x2 + 1)), (0, g_r 4 r0), (1, g_r 5 r1), (3, g_i x3)]) hK d_Ru_sort_66 2 rfl rfl (by rw [hN]; decide) rfl ?_
        refine r_goto (tgt := 9) hK d_Ru_sort_69 (by decide) ?_
        exact r_sub [1, 2, 0] rfl (hk9 _ _ _ _ h)
      · refine r_aload_n hK d_Ru_sort_39 rfl 0 rfl ?_
        refine r_gR hK fd_Ru_2 w1_158 d_Ru_sort_40 h (fun p9 h => ?_)
        refine r_iload_n hK d_Ru_sort_43 rfl 3 rfl ?_
        refine r_aload_n hK d_Ru_sort_44 rfl 0 rfl ?_
        refine r_gR hK fd_Ru_2 w1_158 d_Ru_sort_45 h (fun p10 h => ?_)
        refine r_iload_n hK d_Ru_sort_48 rfl 3 rfl ?_
        refine r_iconst (v := 1) hK d_Ru_sort_49 (by decide) ?_
        refine r_isub hK d_Ru_sort_50 ?_
        refine r_iaload hK ar_20 rfl d_Ru_sort_51 h (fun i11 h => ?_)
        refine r_iastore hK ar_20 rfl d_Ru_sort_52 h (fun s12 h => ?_)
        refine r_iinc (ls1 := [(3, g_i (x3 + (-1))), (0, g_r 4 r0), (1, g_r 5 r1), (2, g_i x2)]) hK d_Ru_sort_53 3 rfl rfl (by rw [hN]; decide) rfl ?_
        refine r_goto (tgt := 19) hK d_Ru_sort_56 (by decide) ?_
        exact r_sub [1, 2, 3, 0] rfl (ih _ _ _ _ _ h)
set_option maxHeartbeats 4000000 in
set_option maxRecDepth 100000 in
theorem t_Ru_sort_9 {K : g_C} {o : (Unit × g_St)} (hK : g_OK K b_Ru_sort "FixpointEngine$Runner" "sort" (Option.none : Option Jvm.ClassFile.FieldType)) (hN : g_nL K = 4) (hD : g_Kd K = 10) : ∀ (n : Nat) (r0 : Option Nat) (r1 : Option Nat) (x2 : Int32) (s0 : g_St), f_Ru_sort_9 n r0 r1 x2 s0 = some o → g_W K s0 [(0, g_r 4 r0), (1, g_r 5 r1), (2, g_i x2)] [] 9 (g_jV o) := by
  intro n
  induction n with
  | zero =>
    intro r0 r1 x2 s0 h
    cases h
  | succ n ih =>
    intro r0 r1 x2 s0 h
    unfold f_Ru_sort_9 at h
    refine r_iload_n hK d_Ru_sort_9 rfl 2 rfl ?_
    refine r_aload_n hK d_Ru_sort_10 rfl 1 rfl ?_
    refine r_gI hK fd_Rl_4 w1_134 d_Ru_sort_11 h (fun i1 h => ?_)
    refine r_if_icmpge (tgt := 72) hK d_Ru_sort_14 (by decide) h (fun h => ?_) (fun h => ?_)
    · exact r_return hK d_Ru_sort_72 h
    · refine r_iload_n hK d_Ru_sort_17 rfl 2 rfl ?_
      refine r_istore_n (ls1 := [(3, g_i x2), (0, g_r 4 r0), (1, g_r 5 r1), (2, g_i x2)]) hK d_Ru_sort_18 rfl (by rw [hN]; decide) rfl ?_
      exact r_sub [1, 2, 3, 0] rfl (t_Ru_sort_19 hK hN hD ih _ _ _ _ _ _ h)
set_option maxHeartbeats 4000000 in
set_option maxRecDepth 100000 in
theorem t_Ru_sort_0 {K : g_C} {o : (Unit × g_St)} (hK : g_OK K b_Ru_sort "FixpointEngine$Runner" "sort" (Option.none : Option Jvm.ClassFile.FieldType)) (hN : g_nL K = 4) (hD : g_Kd K = 10) : ∀ (r0 : Option Nat) (s0 : g_St), f_Ru_sort r0 s0 = some o → g_W K s0 [(0, g_r 4 r0)] [] 0 (g_jV o) := by
  intro r0 s0 h
  unfold f_Ru_sort at h
  refine r_aload_n hK d_Ru_sort_0 rfl 0 rfl ?_
  refine r_gR hK fd_Ru_0 w1_154 d_Ru_sort_1 h (fun p1 h => ?_)
  refine r_iconst (v := 4) hK d_Ru_sort_4 (by decide) ?_
  refine r_aaload hK rfl ar_29 rfl d_Ru_sort_5 h (fun p2 h => ?_)
  refine r_astore_n (ls1 := [(1, g_r 5 p2), (0, g_r 4 r0)]) hK d_Ru_sort_6 rfl (by rw [hN]; decide) rfl ?_
  refine r_iconst (v := 0) hK d_Ru_sort_7 (by decide) ?_
  refine r_istore_n (ls1 := [(2, g_i 0), (1, g_r 5 p2), (0, g_r 4 r0)]) hK d_Ru_sort_8 rfl (by rw [hN]; decide) rfl ?_
  exact r_sub [2, 1, 0] rfl (t_Ru_sort_9 hK hN hD _ _ _ _ _ h)
theorem c_Ru_sort (l : Launch) (G : g_G) (r0 : Option Nat) (u : g_St) (o : (Unit × g_St)) (h : f_Ru_sort r0 u = some o) : g_Con l G y_Ru_sort b_Ru_sort 4 (Option.none : Option Jvm.ClassFile.FieldType) 10 [g_r 4 r0] u (g_jV o) :=
  g_Con.of rfl rfl (by decide +kernel) (Nat.le_of_ble_eq_true rfl) (fun K hK hN hD => t_Ru_sort_0 hK hN hD _ _ h)
