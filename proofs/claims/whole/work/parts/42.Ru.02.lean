def f_Ru_addTo (r0 : Option Nat) (x1 : Int32) (r2 : Option Nat) (y3 : Int64) (s0 : g_St) : Option (Unit × g_St) :=
  if y3 = 1099511627776 then
    some ((), s0)
  else
    if r2 = (some 1357) then
      g_gR s0 324 r0 fun p21 =>
      g_aL s0 p21 x1 fun j22 =>
      g_sL s0 p21 x1 (j22 + y3) fun s23 =>
      g_gR s23 388 r0 fun p24 =>
      g_aI s23 p24 x1 fun i25 =>
      g_sI s23 p24 x1 (i25 + 1) fun s26 =>
      some ((), s26)
    else
      g_gR s0 388 r0 fun p1 =>
      g_aI s0 p1 x1 fun i2 =>
      if i2 = 0 then
        g_gR s0 324 r0 fun p16 =>
        g_sL s0 p16 x1 y3 fun s17 =>
        g_gR s17 388 r0 fun p18 =>
        g_aI s17 p18 x1 fun i19 =>
        g_sI s17 p18 x1 (i19 + 1) fun s20 =>
        some ((), s20)
      else
        g_gR s0 324 r0 fun p3 =>
        if r2 = (some 1421) then
          g_gR s0 324 r0 fun p10 =>
          g_aL s0 p10 x1 fun j11 =>
          g_sL s0 p3 x1 (if y3 < j11 then y3 else j11) fun s12 =>
          g_gR s12 388 r0 fun p13 =>
          g_aI s12 p13 x1 fun i14 =>
          g_sI s12 p13 x1 (i14 + 1) fun s15 =>
          some ((), s15)
        else
          g_gR s0 324 r0 fun p4 =>
          g_aL s0 p4 x1 fun j5 =>
          g_sL s0 p3 x1 (if y3 < j5 then j5 else y3) fun s6 =>
          g_gR s6 388 r0 fun p7 =>
          g_aI s6 p7 x1 fun i8 =>
          g_sI s6 p7 x1 (i8 + 1) fun s9 =>
          some ((), s9)
set_option maxHeartbeats 4000000 in
set_option maxRecDepth 100000 in
theorem t_Ru_addTo_0 {K : g_C} {o : (Unit × g_St)} (hK : g_OK K b_Ru_addTo "FixpointEngine$Runner" "addTo" (Option.none : Option Jvm.ClassFile.FieldType)) (hN : g_nL K = 5) (hD : g_Kd K = 7) : ∀ (r0 : Option Nat) (x1 : Int32) (r2 : Option Nat) (y3 : Int64) (s0 : g_St), f_Ru_addTo r0 x1 r2 y3 s0 = some o → g_W K s0 [(0, g_r 4 r0), (1, g_i x1), (2, g_r 13 r2), (3, g_l y3)] [] 0 (g_jV o) := by
  intro r0 x1 r2 y3 s0 h
  unfold f_Ru_addTo at h
  refine r_lload_n hK d_Ru_addTo_0 rfl 3 rfl ?_
  refine r_ldc2 hK w6_78 d_Ru_addTo_1 ?_
  refine r_lifne (tgt := 9) hK d_Ru_addTo_4 d_Ru_addTo_5 (by decide) h (fun h => ?_) (fun h => ?_)
  · refine r_aload_n hK d_Ru_addTo_9 rfl 2 rfl ?_
    refine r_gsR hK (st_kind 21 (by decide)) (by decide) rfl w6_128 d_Ru_addTo_10 ?_
    refine r_if_acmpne (tgt := 29) hK (by decide) (by decide) d_Ru_addTo_13 (by decide) h (fun h => ?_) (fun h => ?_)
    · refine r_aload_n hK d_Ru_addTo_29 rfl 0 rfl ?_
      refine r_gR hK fd_Ru_6 w1_163 d_Ru_addTo_30 h (fun p1 h => ?_)
      refine r_iload_n hK d_Ru_addTo_33 rfl 1 rfl ?_
      refine r_iaload hK ar_20 rfl d_Ru_addTo_34 h (fun i2 h => ?_)
      refine r_ifne (tgt := 48) hK d_Ru_addTo_35 (by decide) h (fun h => ?_) (fun h => ?_)
      · refine r_aload_n hK d_Ru_addTo_48 rfl 0 rfl ?_
        refine r_gR hK fd_Ru_5 w1_162 d_Ru_addTo_49 h (fun p3 h => ?_)
        refine r_iload_n hK d_Ru_addTo_52 rfl 1 rfl ?_
        refine r_aload_n hK d_Ru_addTo_53 rfl 2 rfl ?_
        refine r_gsR hK (st_kind 22 (by decide)) (by decide) rfl w6_129 d_Ru_addTo_54 ?_
        refine r_if_acmpne (tgt := 73) hK (by decide) (by decide) d_Ru_addTo_57 (by decide) h (fun h => ?_) (fun h => ?_)
        · refine r_aload_n hK d_Ru_addTo_73 rfl 0 rfl ?_
          refine r_gR hK fd_Ru_5 w1_162 d_Ru_addTo_74 h (fun p4 h => ?_)
          refine r_iload_n hK d_Ru_addTo_77 rfl 1 rfl ?_
          refine r_laload hK ar_21 rfl d_Ru_addTo_78 h (fun j5 h => ?_)
          refine r_lload_n hK d_Ru_addTo_79 rfl 3 rfl ?_
          refine r_lmax hK w6_133 (by rw [hD]; decide) (Nat.le_of_ble_eq_true rfl) d_Ru_addTo_80 ?_
          refine r_lastore hK ar_21 rfl d_Ru_addTo_83 h (fun s6 h => ?_)
          refine r_aload_n hK d_Ru_addTo_84 rfl 0 rfl ?_
          refine r_gR hK fd_Ru_6 w1_163 d_Ru_addTo_85 h (fun p7 h => ?_)
          refine r_iload_n hK d_Ru_addTo_88 rfl 1 rfl ?_
          refine r_dup2_11 hK d_Ru_addTo_89 rfl rfl ?_
          refine r_iaload hK ar_20 rfl d_Ru_addTo_90 h (fun i8 h => ?_)
          refine r_iconst (v := 1) hK d_Ru_addTo_91 (by decide) ?_
          refine r_iadd hK d_Ru_addTo_92 ?_
          refine r_iastore hK ar_20 rfl d_Ru_addTo_93 h (fun s9 h => ?_)
          exact r_return hK d_Ru_addTo_94 h
        · refine r_aload_n hK d_Ru_addTo_60 rfl 0 rfl ?_
          refine r_gR hK fd_Ru_5 w1_162 d_Ru_addTo_61 h (fun p10 h => ?_)
          refine r_iload_n hK d_Ru_addTo_64 rfl 1 rfl ?_
          refine r_laload hK ar_21 rfl d_Ru_addTo_65 h (fun j11 h => ?_)
          refine r_lload_n hK d_Ru_addTo_66 rfl 3 rfl ?_
          refine r_lmin hK w6_130 (by rw [hD]; decide) (Nat.le_of_ble_eq_true rfl) d_Ru_addTo_67 ?_
          refine r_goto (tgt := 83) hK d_Ru_addTo_70 (by decide) ?_
          refine r_lastore hK ar_21 rfl d_Ru_addTo_83 h (fun s12 h => ?_)
          refine r_aload_n hK d_Ru_addTo_84 rfl 0 rfl ?_
          refine r_gR hK fd_Ru_6 w1_163 d_Ru_addTo_85 h (fun p13 h => ?_)
          refine r_iload_n hK d_Ru_addTo_88 rfl 1 rfl ?_
          refine r_dup2_11 hK d_Ru_addTo_89 rfl rfl ?_
          refine r_iaload hK ar_20 rfl d_Ru_addTo_90 h (fun i14 h => ?_)
          refine r_iconst (v := 1) hK d_Ru_addTo_91 (by decide) ?_
          refine r_iadd hK d_Ru_addTo_92 ?_
          refine r_iastore hK ar_20 rfl d_Ru_addTo_93 h (fun s15 h => ?_)
          exact r_return hK d_Ru_addTo_94 h
      · refine r_aload_n hK d_Ru_addTo_38 rfl 0 rfl ?_
        refine r_gR hK fd_Ru_5 w1_162 d_Ru_addTo_39 h (fun p16 h => ?_)
        refine r_iload_n hK d_Ru_addTo_42 rfl 1 rfl ?_
        refine r_lload_n hK d_Ru_addTo_43 rfl 3 rfl ?_
        refine r_lastore hK ar_21 rfl d_Ru_addTo_44 h (fun s17 h => ?_)
        refine r_goto (tgt := 84) hK d_Ru_addTo_45 (by decide) ?_
        refine r_aload_n hK d_Ru_addTo_84 rfl 0 rfl ?_
        refine r_gR hK fd_Ru_6 w1_163 d_Ru_addTo_85 h (fun p18 h => ?_)
        refine r_iload_n hK d_Ru_addTo_88 rfl 1 rfl ?_
        refine r_dup2_11 hK d_Ru_addTo_89 rfl rfl ?_
        refine r_iaload hK ar_20 rfl d_Ru_addTo_90 h (fun i19 h => ?_)
        refine r_iconst (v := 1) hK d_Ru_addTo_91 (by decide) ?_
        refine r_iadd hK d_Ru_addTo_92 ?_
        refine r_iastore hK ar_20 rfl d_Ru_addTo_93 h (fun s20 h => ?_)
        exact r_return hK d_Ru_addTo_94 h
    · refine r_aload_n hK d_Ru_addTo_16 rfl 0 rfl ?_
      refine r_gR hK fd_Ru_5 w1_162 d_Ru_addTo_17 h (fun p21 h => ?_)
      refine r_iload_n hK d_Ru_addTo_20 rfl 1 rfl ?_
      refine r_dup2_11 hK d_Ru_addTo_21 rfl rfl ?_
      refine r_laload hK ar_21 rfl d_Ru_addTo_22 h (fun j22 h => ?_)
      refine r_lload_n hK d_Ru_addTo_23 rfl 3 rfl ?_
      refine r_ladd hK d_Ru_addTo_24 ?_
      refine r_lastore hK ar_21 rfl d_Ru_addTo_25 h (fun s23 h => ?_)
      refine r_goto (tgt := 84) hK d_Ru_addTo_26 (by decide) ?_
      refine r_aload_n hK d_Ru_addTo_84 rfl 0 rfl ?_
      refine r_gR hK fd_Ru_6 w1_163 d_Ru_addTo_85 h (fun p24 h => ?_)
      refine r_iload_n hK d_Ru_addTo_88 rfl 1 rfl ?_
      refine r_dup2_11 hK d_Ru_addTo_89 rfl rfl ?_
      refine r_iaload hK ar_20 rfl d_Ru_addTo_90 h (fun i25 h => ?_)
      refine r_iconst (v := 1) hK d_Ru_addTo_91 (by decide) ?_
      refine r_iadd hK d_Ru_addTo_92 ?_
      refine r_iastore hK ar_20 rfl d_Ru_addTo_93 h (fun s26 h => ?_)
      exact r_return hK d_Ru_addTo_94 h
  · exact r_return hK d_Ru_addTo_8 h
theorem c_Ru_addTo (l : Launch) (G : g_G) (r0 : Option Nat) (x1 : Int32) (r2 : Option Nat) (y3 : Int64) (u : g_St) (o : (Unit × g_St)) (h : f_Ru_addTo r0 x1 r2 y3 u = some o) : g_Con l G y_Ru_addTo b_Ru_addTo 5 (Option.none : Option Jvm.ClassFile.FieldType) 7 [g_r 4 r0, g_i x1, g_r 13 r2, g_l y3] u (g_jV o) :=
  g_Con.of rfl rfl (by decide +kernel) (Nat.le_of_ble_eq_true rfl) (fun K hK hN hD hX => t_Ru_addTo_0 hK hN hD _ _ _ _ _ h)
def f_Ru_gather_12 : Nat → Option Nat → Int32 → Int32 → g_St → Option (Unit × g_St)
  | 0, _, _, _, _ => none
  | n + 1, r0, x1, x2, s0 =>
    g_gR s0 772 r0 fun p1 =>
    g_gI s0 264 p1 fun i2 =>
    if i2 ≤ x2 then
      some ((), s0)
    else
      g_gR s0 772 r0 fun p3 =>
      g_gR s0 200 p3 fun p4 =>
      g_aR s0 p4 x2 fun p5 =>
      if p5 = (some 1293) then
        g_gR s0 324 r0 fun p19 =>
        g_aL s0 p19 ((x1 * 4) + x2) fun j20 =>
        g_sL s0 p19 ((x1 * 4) + x2) (j20 + 1) fun s21 =>
        f_Ru_gather_12 n r0 x1 (x2 + 1) s21
      else
        g_gR s0 772 r0 fun p6 =>
        g_gR s0 200 p6 fun p7 =>
        g_aR s0 p7 x2 fun p8 =>
        if p8 = none then
          f_Ru_gather_12 n r0 x1 (x2 + 1) s0
        else
          g_gR s0 772 r0 fun p9 =>
          g_gR s0 200 p9 fun p10 =>
          g_aR s0 p10 x2 fun p11 =>
          g_gR s0 772 r0 fun p12 =>
          g_gR s0 136 p12 fun p13 =>
          g_aR s0 p13 x2 fun p14 =>
          g_c (g_nn p14 (f_Te_value p14 s0)) fun j15 s16 =>
          g_c (g_nn r0 (f_Ru_addTo r0 ((x1 * 4) + x2) p11 j15 s16)) fun _ s18 =>
          f_Ru_gather_12 n r0 x1 (x2 + 1) s18
def f_Ru_gather (r0 : Option Nat) (s0 : g_St) : Option (Unit × g_St) :=
  g_c (g_nn r0 (f_Ru_findGroup r0 s0)) fun i1 s2 =>
  if 0 ≤ i1 then
    f_Ru_gather_12 200000 r0 i1 0 s2
  else
    some ((), s2)
set_option maxHeartbeats 4000000 in
set_option maxRecDepth 100000 in
theorem t_Ru_gather_12 {K : g_C} {o : (Unit × g_St)} (hK : g_OK K b_Ru_gather "FixpointEngine$Runner" "gather" (Option.none : Option Jvm.ClassFile.FieldType)) (hN : g_nL K = 4) (hD : g_Kd K = 8) : ∀ (n : Nat) (r0 : Option Nat) (x1 : Int32) (x2 : Int32) (s0 : g_St), f_Ru_gather_12 n r0 x1 x2 s0 = some o → g_W K s0 [(0, g_r 4 r0), (1, g_i x1), (2, g_i x2)] [] 12 (g_jV o) := by
  intro n
  induction n with
  | zero =>
    intro r0 x1 x2 s0 h
    cases h
  | succ n ih =>
    intro r0 x1 x2 s0 h
    unfold f_Ru_gather_12 at h
    refine r_iload_n hK d_Ru_gather_12 rfl 2 rfl ?_
    refine r_aload_n hK d_Ru_gather_13 rfl 0 rfl ?_
    refine r_gR hK fd_Ru_12 w1_169 d_Ru_gather_14 h (fun p1 h => ?_)
    refine r_gI hK fd_Se_4 w3_232 d_Ru_gather_17 h (fun i2 h => ?_)
    refine r_if_icmpge (tgt := 101) hK d_Ru_gather_20 (by decide) h (fun h => ?_) (fun h => ?_)
    · exact r_return hK d_Ru_gather_101 h
    · refine r_iload_n hK d_Ru_gather_23 rfl 1 rfl ?_
      refine r_iconst (v := 4) hK d_Ru_gather_24 (by decide) ?_
      refine r_imul hK d_Ru_gather_25 ?_
      refine r_iload_n hK d_Ru_gather_26 rfl 2 rfl ?_
      refine r_iadd hK d_Ru_gather_27 ?_
      refine r_istore_n (ls1 := [(3, g_i ((x1 * 4) + x2)), (0, g_r 4 r0), (1, g_i x1), (2, g_i x2)]) hK d_Ru_gather_28 rfl (by rw [hN]; decide) rfl ?_
      refine r_aload_n hK d_Ru_gather_29 rfl 1 rfl ?_
      refine r_gR hK fd_Ru_12 w1_169 d_Ru_gather_30 h (fun p3 h => ?_)
      refine r_gR hK fd_Se_3 w3_230 d_Ru_gather_33 h (fun p4 h => ?_)
      refine r_iload_n hK d_Ru_gather_36 rfl 3 rfl ?_
      refine r_aaload hK rfl ar_23 rfl d_Ru_gather_37 h (fun p5 h => ?_)
      refine r_gsR hK (st_kind 20 (by decide)) (by decide) rfl w6_123 d_Ru_gather_38 ?_
      refine r_if_acmpne (tgt := 57) hK (by decide) (by decide) d_Ru_gather_41 (by decide) h (fun h => ?_) (fun h => ?_)
      · refine r_aload_n hK d_Ru_gather_57 rfl 1 rfl ?_
        refine r_gR hK fd_Ru_12 w1_169 d_Ru_gather_58 h (fun p6 h => ?_)
        refine r_gR hK fd_Se_3 w3_230 d_Ru_gather_61 h (fun p7 h => ?_)
        refine r_iload_n hK d_Ru_gather_64 rfl 3 rfl ?_
        refine r_aaload hK rfl ar_23 rfl d_Ru_gather_65 h (fun p8 h => ?_)
        refine r_ifnull (tgt := 95) hK d_Ru_gather_66 (by decide) h (fun h => ?_) (fun h => ?_)
        · refine r_iinc (ls1 := [(2, g_i (x2 + 1)), (3, g_i ((x1 * 4) + x2)), (0, g_r 4 r0), (1, g_i x1)]) hK d_Ru_gather_95 3 rfl rfl (by rw [hN]; decide) rfl ?_
          refine r_goto (tgt := 12) hK d_Ru_gather_98 (by decide) ?_
          exact r_sub [2, 3, 0] rfl (ih _ _ _ _ h)
        · refine r_aload_n hK d_Ru_gather_69 rfl 1 rfl ?_
          refine r_iload_n hK d_Ru_gather_70 rfl 0 rfl ?_
          refine r_aload_n hK d_Ru_gather_71 rfl 1 rfl ?_
          refine r_gR hK fd_Ru_12 w1_169 d_Ru_gather_72 h (fun p9 h => ?_)
          refine r_gR hK fd_Se_3 w3_230 d_Ru_gather_75 h (fun p10 h => ?_)
          refine r_iload_n hK d_Ru_gather_78 rfl 3 rfl ?_
          refine r_aaload hK rfl ar_23 rfl d_Ru_gather_79 h (fun p11 h => ?_)
          refine r_aload_n hK d_Ru_gather_80 rfl 1 rfl ?_
          refine r_gR hK fd_Ru_12 w1_169 d_Ru_gather_81 h (fun p12 h => ?_)
          refine r_gR hK fd_Se_2 w3_227 d_Ru_gather_84 h (fun p13 h => ?_)
          refine r_iload_n hK d_Ru_gather_87 rfl 3 rfl ?_
          refine r_aaload hK rfl ar_26 rfl d_Ru_gather_88 h (fun p14 h => ?_)
          refine r_Vl (avL := []) (st := [g_r 13 p11, g_i ((x1 * 4) + x2), g_r 4 r0]) hK ob_Te rfl w6_73 w6_74 w6_72 w6_75 w1_24 (by decide) pl_Te_value (by rw [hD]; decide) (Nat.le_of_ble_eq_true rfl) rfl d_Ru_gather_89 (fun o9 h9 => c_Te_value _ _ _ _ o9 h9) h (fun j15 s16 h => ?_)
          refine r_Vv (avL := [g_i ((x1 * 4) + x2), g_r 13 p11, g_l j15]) (st := []) hK ob_Ru rfl w6_125 w6_126 w6_124 w6_127 w1_4 (by decide) pl_Ru_addTo (by rw [hD]; decide) (Nat.le_of_ble_eq_true rfl) rfl d_Ru_gather_92 (fun o9 h9 => c_Ru_addTo _ _ _ _ _ _ _ o9 h9) h (fun s18 h => ?_)
          refine r_iinc (ls1 := [(2, g_i (x2 + 1)), (3, g_i ((x1 * 4) + x2)), (0, g_r 4 r0), (1, g_i x1)]) hK d_Ru_gather_95 3 rfl rfl (by rw [hN]; decide) rfl ?_
          refine r_goto (tgt := 12) hK d_Ru_gather_98 (by decide) ?_
          exact r_sub [2, 3, 0] rfl (ih _ _ _ _ h)
      · refine r_aload_n hK d_Ru_gather_44 rfl 1 rfl ?_
        refine r_gR hK fd_Ru_5 w1_162 d_Ru_gather_45 h (fun p19 h => ?_)
        refine r_iload_n hK d_Ru_gather_48 rfl 0 rfl ?_
        refine r_dup2_11 hK d_Ru_gather_49 rfl rfl ?_
        refine r_laload hK ar_21 rfl d_Ru_gather_50 h (fun j20 h => ?_)
        refine r_lconst (v := 1) hK d_Ru_gather_51 (by decide) ?_
        refine r_ladd hK d_Ru_gather_52 ?_
        refine r_lastore hK ar_21 rfl d_Ru_gather_53 h (fun s21 h => ?_)
        refine r_goto (tgt := 95) hK d_Ru_gather_54 (by decide) ?_
        refine r_iinc (ls1 := [(2, g_i (x2 + 1)), (3, g_i ((x1 * 4) + x2)), (0, g_r 4 r0), (1, g_i x1)]) hK d_Ru_gather_95 3 rfl rfl (by rw [hN]; decide) rfl ?_
        refine r_goto (tgt := 12) hK d_Ru_gather_98 (by decide) ?_
        exact r_sub [2, 3, 0] rfl (ih _ _ _ _ h)
set_option maxHeartbeats 4000000 in
set_option maxRecDepth 100000 in
theorem t_Ru_gather_0 {K : g_C} {o : (Unit × g_St)} (hK : g_OK K b_Ru_gather "FixpointEngine$Runner" "gather" (Option.none : Option Jvm.ClassFile.FieldType)) (hN : g_nL K = 4) (hD : g_Kd K = 8) : ∀ (r0 : Option Nat) (s0 : g_St), f_Ru_gather r0 s0 = some o → g_W K s0 [(0, g_r 4 r0)] [] 0 (g_jV o) := by
  intro r0 s0 h
  unfold f_Ru_gather at h
  refine r_aload_n hK d_Ru_gather_0 rfl 0 rfl ?_
  refine r_Vi (avL := []) (st := []) hK ob_Ru rfl w6_120 w6_121 w6_119 w6_122 w1_4 (by decide) pl_Ru_findGroup (by rw [hD]; decide) (Nat.le_of_ble_eq_true rfl) rfl d_Ru_gather_1 (fun o9 h9 => c_Ru_findGroup _ _ _ _ o9 h9) h (fun i1 s2 h => ?_)
  refine r_istore_n (ls1 := [(1, g_i i1), (0, g_r 4 r0)]) hK d_Ru_gather_4 rfl (by rw [hN]; decide) rfl ?_
  refine r_iload_n hK d_Ru_gather_5 rfl 0 rfl ?_
  refine r_ifge (tgt := 10) hK d_Ru_gather_6 (by decide) h (fun h => ?_) (fun h => ?_)
  · refine r_iconst (v := 0) hK d_Ru_gather_10 (by decide) ?_
    refine r_istore_n (ls1 := [(2, g_i 0), (1, g_i i1), (0, g_r 4 r0)]) hK d_Ru_gather_11 rfl (by rw [hN]; decide) rfl ?_
    exact r_sub [2, 1, 0] rfl (t_Ru_gather_12 hK hN hD _ _ _ _ _ h)
  · exact r_return hK d_Ru_gather_9 h
theorem c_Ru_gather (l : Launch) (G : g_G) (r0 : Option Nat) (u : g_St) (o : (Unit × g_St)) (h : f_Ru_gather r0 u = some o) : g_Con l G y_Ru_gather b_Ru_gather 4 (Option.none : Option Jvm.ClassFile.FieldType) 8 [g_r 4 r0] u (g_jV o) :=
  g_Con.of rfl rfl (by decide +kernel) (Nat.le_of_ble_eq_true rfl) (fun K hK hN hD hX => t_Ru_gather_0 hK hN hD _ _ h)
def f_Ru_keepKeys_36 (k2 : Option Nat → Int32 → g_St → Option (Unit × g_St)) (r0 : Option Nat) (x1 : Int32) (r2 : Option Nat) (x0s : Int32) (s0 : g_St) : Option (Unit × g_St) :=
  g_gR s0 196 r0 fun p1 =>
  g_gR s0 900 r0 fun p2 =>
  g_gI s0 261 p2 fun i3 =>
  if x0s = 0 then
    g_c (g_nn r2 (f_Te_value r2 s0)) fun j4 s5 =>
    g_sL s5 p1 ((i3 * 2) + x1) j4 fun s6 =>
    k2 r0 (x1 + 1) s6
  else
    g_gR s0 523 r2 fun p7 =>
    g_gI s0 713 p7 fun i8 =>
    g_sL s0 p1 ((i3 * 2) + x1) i8.toInt64 fun s9 =>
    k2 r0 (x1 + 1) s9
def f_Ru_keepKeys_2 : Nat → Option Nat → Int32 → g_St → Option (Unit × g_St)
  | 0, _, _, _ => none
  | n + 1, r0, x1, s0 =>
    g_gR s0 452 r0 fun p1 =>
    g_gI s0 326 p1 fun i2 =>
    if i2 ≤ x1 then
      some ((), s0)
    else
      g_gR s0 452 r0 fun p3 =>
      g_gR s0 262 p3 fun p4 =>
      g_aR s0 p4 x1 fun p5 =>
      g_gI s0 587 p5 fun i6 =>
      if i6 = 4 then
        f_Ru_keepKeys_36 (f_Ru_keepKeys_2 n) r0 x1 p5 1 s0
      else
        f_Ru_keepKeys_36 (f_Ru_keepKeys_2 n) r0 x1 p5 0 s0
def f_Ru_keepKeys (r0 : Option Nat) (s0 : g_St) : Option (Unit × g_St) :=
  f_Ru_keepKeys_2 200000 r0 0 s0
set_option maxHeartbeats 4000000 in
set_option maxRecDepth 100000 in
theorem t_Ru_keepKeys_36 {K : g_C} {o : (Unit × g_St)} (hK : g_OK K b_Ru_keepKeys "FixpointEngine$Runner" "keepKeys" (Option.none : Option Jvm.ClassFile.FieldType)) (hN : g_nL K = 4) (hD : g_Kd K = 2) {k2 : Option Nat → Int32 → g_St → Option (Unit × g_St)} (hk2 : ∀ (r0 : Option Nat) (x1 : Int32) (s0 : g_St), k2 r0 x1 s0 = some o → g_W K s0 [(0, g_r 4 r0), (1, g_i x1)] [] 2 (g_jV o)) : ∀ (r0 : Option Nat) (x1 : Int32) (r2 : Option Nat) (x0s : Int32) (s0 : g_St), f_Ru_keepKeys_36 k2 r0 x1 r2 x0s s0 = some o → g_W K s0 [(0, g_r 4 r0), (1, g_i x1), (2, g_r 11 r2)] [g_i x0s] 36 (g_jV o) := by
  intro r0 x1 r2 x0s s0 h
  unfold f_Ru_keepKeys_36 at h
  refine r_istore_n (ls1 := [(3, g_i x0s), (0, g_r 4 r0), (1, g_i x1), (2, g_r 11 r2)]) hK d_Ru_keepKeys_36 rfl (by rw [hN]; decide) rfl ?_
  refine r_aload_n hK d_Ru_keepKeys_37 rfl 1 rfl ?_
  refine r_gR hK fd_Ru_3 w1_160 d_Ru_keepKeys_38 h (fun p1 h => ?_)
  refine r_aload_n hK d_Ru_keepKeys_41 rfl 1 rfl ?_
  refine r_gR hK fd_Ru_14 w1_171 d_Ru_keepKeys_42 h (fun p2 h => ?_)
  refine r_gI hK fd_Rl_4 w1_134 d_Ru_keepKeys_45 h (fun i3 h => ?_)
  refine r_iconst (v := 2) hK d_Ru_keepKeys_48 (by decide) ?_
  refine r_imul hK d_Ru_keepKeys_49 ?_
  refine r_iload_n hK d_Ru_keepKeys_50 rfl 2 rfl ?_
  refine r_iadd hK d_Ru_keepKeys_51 ?_
  refine r_iload_n hK d_Ru_keepKeys_52 rfl 0 rfl ?_
  refine r_ifeq (tgt := 67) hK d_Ru_keepKeys_53 (by decide) h (fun h => ?_) (fun h => ?_)
  · refine r_aload_n hK d_Ru_keepKeys_67 rfl 3 rfl ?_
    refine r_Vl (avL := []) (st := [g_i ((i3 * 2) + x1), g_r 21 p1]) hK ob_Te rfl w6_73 w6_74 w6_72 w6_75 w1_24 (by decide) pl_Te_value (by rw [hD]; decide) (Nat.le_of_ble_eq_true rfl) rfl d_Ru_keepKeys_68 (fun o9 h9 => c_Te_value _ _ _ _ o9 h9) h (fun j4 s5 h => ?_)
    refine r_lastore hK ar_21 rfl d_Ru_keepKeys_71 h (fun s6 h => ?_)
    refine r_iinc (ls1 := [(1, g_i (x1 + 1)), (3, g_i x0s), (0, g_r 4 r0), (2, g_r 11 r2)]) hK d_Ru_keepKeys_72 2 rfl rfl (by rw [hN]; decide) rfl ?_
    refine r_goto (tgt := 2) hK d_Ru_keepKeys_75 (by decide) ?_
    exact r_sub [2, 0] rfl (hk2 _ _ _ h)
  · refine r_aload_n hK d_Ru_keepKeys_56 rfl 3 rfl ?_
    refine r_gR hK fd_Te_8 w4_87 d_Ru_keepKeys_57 h (fun p7 h => ?_)
    refine r_gI hK fd_So_11 w4_228 d_Ru_keepKeys_60 h (fun i8 h => ?_)
    refine r_i2l hK d_Ru_keepKeys_63 ?_
    refine r_goto (tgt := 71) hK d_Ru_keepKeys_64 (by decide) ?_
    refine r_lastore hK ar_21 rfl d_Ru_keepKeys_71 h (fun s9 h => ?_)
    refine r_iinc (ls1 := [(1, g_i (x1 + 1)), (3, g_i x0s), (0, g_r 4 r0), (2, g_r 11 r2)]) hK d_Ru_keepKeys_72 2 rfl rfl (by rw [hN]; decide) rfl ?_
    refine r_goto (tgt := 2) hK d_Ru_keepKeys_75 (by decide) ?_
    exact r_sub [2, 0] rfl (hk2 _ _ _ h)
set_option maxHeartbeats 4000000 in
set_option maxRecDepth 100000 in
theorem t_Ru_keepKeys_2 {K : g_C} {o : (Unit × g_St)} (hK : g_OK K b_Ru_keepKeys "FixpointEngine$Runner" "keepKeys" (Option.none : Option Jvm.ClassFile.FieldType)) (hN : g_nL K = 4) (hD : g_Kd K = 2) : ∀ (n : Nat) (r0 : Option Nat) (x1 : Int32) (s0 : g_St), f_Ru_keepKeys_2 n r0 x1 s0 = some o → g_W K s0 [(0, g_r 4 r0), (1, g_i x1)] [] 2 (g_jV o) := by
  intro n
  induction n with
  | zero =>
    intro r0 x1 s0 h
    cases h
  | succ n ih =>
    intro r0 x1 s0 h
    unfold f_Ru_keepKeys_2 at h
    refine r_iload_n hK d_Ru_keepKeys_2 rfl 1 rfl ?_
    refine r_aload_n hK d_Ru_keepKeys_3 rfl 0 rfl ?_
    refine r_gR hK fd_Ru_7 w1_164 d_Ru_keepKeys_4 h (fun p1 h => ?_)
    refine r_gI hK fd_Qu_5 w3_40 d_Ru_keepKeys_7 h (fun i2 h => ?_)
    refine r_if_icmpge (tgt := 78) hK d_Ru_keepKeys_10 (by decide) h (fun h => ?_) (fun h => ?_)
    · exact r_return hK d_Ru_keepKeys_78 h
    · refine r_aload_n hK d_Ru_keepKeys_13 rfl 0 rfl ?_
      refine r_gR hK fd_Ru_7 w1_164 d_Ru_keepKeys_14 h (fun p3 h => ?_)
      refine r_gR hK fd_Qu_4 w3_37 d_Ru_keepKeys_17 h (fun p4 h => ?_)
      refine r_iload_n hK d_Ru_keepKeys_20 rfl 1 rfl ?_
      refine r_aaload hK rfl ar_26 rfl d_Ru_keepKeys_21 h (fun p5 h => ?_)
      refine r_astore_n (ls1 := [(2, g_r 11 p5), (0, g_r 4 r0), (1, g_i x1)]) hK d_Ru_keepKeys_22 rfl (by rw [hN]; decide) rfl ?_
      refine r_aload_n hK d_Ru_keepKeys_23 rfl 0 rfl ?_
      refine r_gI hK fd_Te_9 w4_90 d_Ru_keepKeys_24 h (fun i6 h => ?_)
      refine r_iconst (v := 4) hK d_Ru_keepKeys_27 (by decide) ?_
      refine r_if_icmpne (tgt := 35) hK d_Ru_keepKeys_28 (by decide) h (fun h => ?_) (fun h => ?_)
      · refine r_iconst (v := 0) hK d_Ru_keepKeys_35 (by decide) ?_
        exact r_sub [1, 2, 0] rfl (t_Ru_keepKeys_36 hK hN hD ih _ _ _ _ _ h)
      · refine r_iconst (v := 1) hK d_Ru_keepKeys_31 (by decide) ?_
        refine r_goto (tgt := 36) hK d_Ru_keepKeys_32 (by decide) ?_
        exact r_sub [1, 2, 0] rfl (t_Ru_keepKeys_36 hK hN hD ih _ _ _ _ _ h)
set_option maxHeartbeats 4000000 in
set_option maxRecDepth 100000 in
theorem t_Ru_keepKeys_0 {K : g_C} {o : (Unit × g_St)} (hK : g_OK K b_Ru_keepKeys "FixpointEngine$Runner" "keepKeys" (Option.none : Option Jvm.ClassFile.FieldType)) (hN : g_nL K = 4) (hD : g_Kd K = 2) : ∀ (r0 : Option Nat) (s0 : g_St), f_Ru_keepKeys r0 s0 = some o → g_W K s0 [(0, g_r 4 r0)] [] 0 (g_jV o) := by
  intro r0 s0 h
  unfold f_Ru_keepKeys at h
  refine r_iconst (v := 0) hK d_Ru_keepKeys_0 (by decide) ?_
  refine r_istore_n (ls1 := [(1, g_i 0), (0, g_r 4 r0)]) hK d_Ru_keepKeys_1 rfl (by rw [hN]; decide) rfl ?_
  exact r_sub [1, 0] rfl (t_Ru_keepKeys_2 hK hN hD _ _ _ _ h)
theorem c_Ru_keepKeys (l : Launch) (G : g_G) (r0 : Option Nat) (u : g_St) (o : (Unit × g_St)) (h : f_Ru_keepKeys r0 u = some o) : g_Con l G y_Ru_keepKeys b_Ru_keepKeys 4 (Option.none : Option Jvm.ClassFile.FieldType) 2 [g_r 4 r0] u (g_jV o) :=
  g_Con.of rfl rfl (by decide +kernel) (Nat.le_of_ble_eq_true rfl) (fun K hK hN hD hX => t_Ru_keepKeys_0 hK hN hD _ _ h)
def f_Ru_parentRow_2 : Nat → Option Nat → Int32 → g_St → Option (Int32 × g_St)
  | 0, _, _, _ => none
  | n + 1, r0, x1, s0 =>
    g_gR s0 772 r0 fun p1 =>
    g_gI s0 456 p1 fun i2 =>
    if i2 ≤ x1 then
      some ((-1), s0)
    else
      g_gR s0 772 r0 fun p3 =>
      g_gR s0 392 p3 fun p4 =>
      g_aR s0 p4 x1 fun p5 =>
      g_gI s0 393 p5 fun i6 =>
      g_gR s0 772 r0 fun p7 =>
      g_gI s0 8 p7 fun i8 =>
      if i6 = i8 then
        g_gR s0 772 r0 fun p9 =>
        g_gR s0 392 p9 fun p10 =>
        g_aR s0 p10 x1 fun p11 =>
        g_gI s0 713 p11 fun i12 =>
        some (i12, s0)
      else
        f_Ru_parentRow_2 n r0 (x1 + 1) s0
def f_Ru_parentRow (r0 : Option Nat) (s0 : g_St) : Option (Int32 × g_St) :=
  f_Ru_parentRow_2 200000 r0 0 s0
set_option maxHeartbeats 4000000 in
set_option maxRecDepth 100000 in
theorem t_Ru_parentRow_2 {K : g_C} {o : (Int32 × g_St)} (hK : g_OK K b_Ru_parentRow "FixpointEngine$Runner" "parentRow" (Option.some Jvm.ClassFile.FieldType.int)) (hN : g_nL K = 2) (hD : g_Kd K = 1) : ∀ (n : Nat) (r0 : Option Nat) (x1 : Int32) (s0 : g_St), f_Ru_parentRow_2 n r0 x1 s0 = some o → g_W K s0 [(0, g_r 4 r0), (1, g_i x1)] [] 2 (g_jI o) := by
  intro n
  induction n with
  | zero =>
    intro r0 x1 s0 h
    cases h
  | succ n ih =>
    intro r0 x1 s0 h
    unfold f_Ru_parentRow_2 at h
    refine r_iload_n hK d_Ru_parentRow_2 rfl 1 rfl ?_
    refine r_aload_n hK d_Ru_parentRow_3 rfl 0 rfl ?_
    refine r_gR hK fd_Ru_12 w1_169 d_Ru_parentRow_4 h (fun p1 h => ?_)
    refine r_gI hK fd_Se_7 w4_3 d_Ru_parentRow_7 h (fun i2 h => ?_)
    refine r_if_icmpge (tgt := 54) hK d_Ru_parentRow_10 (by decide) h (fun h => ?_) (fun h => ?_)
    · refine r_iconst (v := (-1)) hK d_Ru_parentRow_54 (by decide) ?_
      exact r_ireturn hK d_Ru_parentRow_55 h
    · refine r_aload_n hK d_Ru_parentRow_13 rfl 0 rfl ?_
      refine r_gR hK fd_Ru_12 w1_169 d_Ru_parentRow_14 h (fun p3 h => ?_)
      refine r_gR hK fd_Se_6 w4_0 d_Ru_parentRow_17 h (fun p4 h => ?_)
      refine r_iload_n hK d_Ru_parentRow_20 rfl 1 rfl ?_
      refine r_aaload hK rfl ar_27 rfl d_Ru_parentRow_21 h (fun p5 h => ?_)
      refine r_gI hK fd_So_6 w4_218 d_Ru_parentRow_22 h (fun i6 h => ?_)
      refine r_aload_n hK d_Ru_parentRow_25 rfl 0 rfl ?_
      refine r_gR hK fd_Ru_12 w1_169 d_Ru_parentRow_26 h (fun p7 h => ?_)
      refine r_gI hK fd_Se_0 w3_223 d_Ru_parentRow_29 h (fun i8 h => ?_)
      refine r_if_icmpne (tgt := 48) hK d_Ru_parentRow_32 (by decide) h (fun h => ?_) (fun h => ?_)
      · refine r_iinc (ls1 := [(1, g_i (x1 + 1)), (0, g_r 4 r0)]) hK d_Ru_parentRow_48 1 rfl rfl (by rw [hN]; decide) rfl ?_
        refine r_goto (tgt := 2) hK d_Ru_parentRow_51 (by decide) ?_
        exact r_sub [1, 0] rfl (ih _ _ _ h)
      · refine r_aload_n hK d_Ru_parentRow_35 rfl 0 rfl ?_
        refine r_gR hK fd_Ru_12 w1_169 d_Ru_parentRow_36 h (fun p9 h => ?_)
        refine r_gR hK fd_Se_6 w4_0 d_Ru_parentRow_39 h (fun p10 h => ?_)
        refine r_iload_n hK d_Ru_parentRow_42 rfl 1 rfl ?_
        refine r_aaload hK rfl ar_27 rfl d_Ru_parentRow_43 h (fun p11 h => ?_)
        refine r_gI hK fd_So_11 w4_228 d_Ru_parentRow_44 h (fun i12 h => ?_)
        exact r_ireturn hK d_Ru_parentRow_47 h
set_option maxHeartbeats 4000000 in
set_option maxRecDepth 100000 in
theorem t_Ru_parentRow_0 {K : g_C} {o : (Int32 × g_St)} (hK : g_OK K b_Ru_parentRow "FixpointEngine$Runner" "parentRow" (Option.some Jvm.ClassFile.FieldType.int)) (hN : g_nL K = 2) (hD : g_Kd K = 1) : ∀ (r0 : Option Nat) (s0 : g_St), f_Ru_parentRow r0 s0 = some o → g_W K s0 [(0, g_r 4 r0)] [] 0 (g_jI o) := by
  intro r0 s0 h
  unfold f_Ru_parentRow at h
  refine r_iconst (v := 0) hK d_Ru_parentRow_0 (by decide) ?_
  refine r_istore_n (ls1 := [(1, g_i 0), (0, g_r 4 r0)]) hK d_Ru_parentRow_1 rfl (by rw [hN]; decide) rfl ?_
  exact r_sub [1, 0] rfl (t_Ru_parentRow_2 hK hN hD _ _ _ _ h)
theorem c_Ru_parentRow (l : Launch) (G : g_G) (r0 : Option Nat) (u : g_St) (o : (Int32 × g_St)) (h : f_Ru_parentRow r0 u = some o) : g_Con l G y_Ru_parentRow b_Ru_parentRow 2 (Option.some Jvm.ClassFile.FieldType.int) 1 [g_r 4 r0] u (g_jI o) :=
  g_Con.of rfl rfl (by decide +kernel) (Nat.le_of_ble_eq_true rfl) (fun K hK hN hD hX => t_Ru_parentRow_0 hK hN hD _ _ h)
def f_Ru_come_123 (r0 : Option Nat) (s0 : g_St) : Option (Unit × g_St) :=
  g_gI s0 708 r0 fun i1 =>
  g_gI s0 644 r0 fun i2 =>
  if i1 < i2 then
    g_gR s0 900 r0 fun p3 =>
    g_gI s0 261 p3 fun i4 =>
    g_pI s0 261 p3 (i4 + 1) fun s5 =>
    g_gI s5 708 r0 fun i6 =>
    g_pI s5 708 r0 (i6 + 1) fun s7 =>
    some ((), s7)
  else
    g_pZ s0 1092 r0 1 fun s8 =>
    some ((), s8)
def f_Ru_come_98 (r0 : Option Nat) (s0 : g_St) : Option (Unit × g_St) :=
  g_gR s0 836 r0 fun p1 =>
  g_gI s0 519 p1 fun i2 =>
  if i2 = 0 then
    f_Ru_come_123 r0 s0
  else
    g_gR s0 900 r0 fun p3 =>
    g_gR s0 836 r0 fun p4 =>
    g_c (g_nn p3 (f_Rl_hasEqual p3 p4 s0)) fun i5 s6 =>
    if i5 = 0 then
      f_Ru_come_123 r0 s6
    else
      some ((), s6)
def f_Ru_come_80 (r0 : Option Nat) (s0 : g_St) : Option (Unit × g_St) :=
  g_gR s0 900 r0 fun p1 =>
  g_c (g_nn r0 (f_Ru_parentRow r0 s0)) fun i2 s3 =>
  g_gR s3 836 r0 fun p4 =>
  g_gI s3 1095 p4 fun i5 =>
  g_c (g_nn p1 (f_Rl_grow p1 i2 i5 s3)) fun _ s7 =>
  f_Ru_come_98 r0 s7
def f_Ru_come_12 : Nat → Option Nat → Int32 → Int32 → g_St → Option (Unit × g_St)
  | 0, _, _, _, _ => none
  | n + 1, r0, x1, x2, s0 =>
    g_gR s0 772 r0 fun p1 =>
    g_gI s0 264 p1 fun i2 =>
    if i2 ≤ x2 then
      g_gR s0 836 r0 fun p3 =>
      if p3 = none then
        g_c (g_nn r0 (f_Ru_keepKeys r0 s0)) fun _ s9 =>
        f_Ru_come_123 r0 s9
      else
        g_gR s0 836 r0 fun p4 =>
        g_gI s0 391 p4 fun i5 =>
        if i5 = 0 then
          g_gR s0 836 r0 fun p6 =>
          g_gI s0 455 p6 fun i7 =>
          if i7 = 0 then
            f_Ru_come_98 r0 s0
          else
            f_Ru_come_80 r0 s0
        else
          f_Ru_come_80 r0 s0
    else
      g_gR s0 900 r0 fun p10 =>
      g_gR s0 69 p10 fun p11 =>
      g_gR s0 260 r0 fun p12 =>
      g_aL s0 p12 x2 fun j13 =>
      g_sL s0 p11 (x1 + x2) j13 fun s14 =>
      f_Ru_come_12 n r0 x1 (x2 + 1) s14
def f_Ru_come (r0 : Option Nat) (s0 : g_St) : Option (Unit × g_St) :=
  g_gR s0 900 r0 fun p1 =>
  g_gI s0 261 p1 fun i2 =>
  f_Ru_come_12 200000 r0 (i2 * 4) 0 s0
set_option maxHeartbeats 4000000 in
set_option maxRecDepth 100000 in
theorem t_Ru_come_123 {K : g_C} {o : (Unit × g_St)} (hK : g_OK K b_Ru_come "FixpointEngine$Runner" "come" (Option.none : Option Jvm.ClassFile.FieldType)) (hN : g_nL K = 3) (hD : g_Kd K = 3) : ∀ (r0 : Option Nat) (s0 : g_St), f_Ru_come_123 r0 s0 = some o → g_W K s0 [(0, g_r 4 r0)] [] 123 (g_jV o) := by
  intro r0 s0 h
  unfold f_Ru_come_123 at h
  refine r_aload_n hK d_Ru_come_123 rfl 0 rfl ?_
  refine r_gI hK fd_Ru_11 w1_168 d_Ru_come_124 h (fun i1 h => ?_)
  refine r_aload_n hK d_Ru_come_127 rfl 0 rfl ?_
  refine r_gI hK fd_Ru_10 w1_167 d_Ru_come_128 h (fun i2 h => ?_)
  refine r_if_icmplt (tgt := 140) hK d_Ru_come_131 (by decide) h (fun h => ?_) (fun h => ?_)
  · refine r_aload_n hK d_Ru_come_140 rfl 0 rfl ?_
    refine r_gR hK fd_Ru_14 w1_171 d_Ru_come_141 h (fun p3 h => ?_)
    refine r_dup hK d_Ru_come_144 rfl ?_
    refine r_gI hK fd_Rl_4 w1_134 d_Ru_come_145 h (fun i4 h => ?_)
    refine r_iconst (v := 1) hK d_Ru_come_148 (by decide) ?_
    refine r_iadd hK d_Ru_come_149 ?_
    refine r_pI hK fd_Rl_4 rfl w1_134 d_Ru_come_150 h (fun s5 h => ?_)
    refine r_aload_n hK d_Ru_come_153 rfl 0 rfl ?_
    refine r_dup hK d_Ru_come_154 rfl ?_
    refine r_gI hK fd_Ru_11 w1_168 d_Ru_come_155 h (fun i6 h => ?_)
    refine r_iconst (v := 1) hK d_Ru_come_158 (by decide) ?_
    refine r_iadd hK d_Ru_come_159 ?_
    refine r_pI hK fd_Ru_11 rfl w1_168 d_Ru_come_160 h (fun s7 h => ?_)
    exact r_return hK d_Ru_come_163 h
  · refine r_aload_n hK d_Ru_come_134 rfl 0 rfl ?_
    refine r_iconst (v := 1) hK d_Ru_come_135 (by decide) ?_
    refine r_pZ hK fd_Ru_17 rfl w1_174 d_Ru_come_136 h (fun s8 h => ?_)
    exact r_return hK d_Ru_come_139 h
set_option maxHeartbeats 4000000 in
set_option maxRecDepth 100000 in
theorem t_Ru_come_98 {K : g_C} {o : (Unit × g_St)} (hK : g_OK K b_Ru_come "FixpointEngine$Runner" "come" (Option.none : Option Jvm.ClassFile.FieldType)) (hN : g_nL K = 3) (hD : g_Kd K = 3) : ∀ (r0 : Option Nat) (s0 : g_St), f_Ru_come_98 r0 s0 = some o → g_W K s0 [(0, g_r 4 r0)] [] 98 (g_jV o) := by
  intro r0 s0 h
  unfold f_Ru_come_98 at h
  refine r_aload_n hK d_Ru_come_98 rfl 0 rfl ?_
  refine r_gR hK fd_Ru_13 w1_170 d_Ru_come_99 h (fun p1 h => ?_)
  refine r_gI hK fd_Pa_8 w3_119 d_Ru_come_102 h (fun i2 h => ?_)
  refine r_ifeq (tgt := 123) hK d_Ru_come_105 (by decide) h (fun h => ?_) (fun h => ?_)
  · exact r_sub [0] rfl (t_Ru_come_123 hK hN hD _ _ h)
  · refine r_aload_n hK d_Ru_come_108 rfl 0 rfl ?_
    refine r_gR hK fd_Ru_14 w1_171 d_Ru_come_109 h (fun p3 h => ?_)
    refine r_aload_n hK d_Ru_come_112 rfl 0 rfl ?_
    refine r_gR hK fd_Ru_13 w1_170 d_Ru_come_113 h (fun p4 h => ?_)
    refine r_Vi (avL := [g_r 7 p4]) (st := []) hK ob_Rl rfl w6_154 w6_155 w6_153 w6_156 w1_5 (by decide) pl_Rl_hasEqual (by rw [hD]; decide) (Nat.le_of_ble_eq_true rfl) rfl d_Ru_come_116 (fun o9 h9 => c_Rl_hasEqual _ _ _ _ _ o9 h9) h (fun i5 s6 h => ?_)
    refine r_ifeq (tgt := 123) hK d_Ru_come_119 (by decide) h (fun h => ?_) (fun h => ?_)
    · exact r_sub [0] rfl (t_Ru_come_123 hK hN hD _ _ h)
    · exact r_return hK d_Ru_come_122 h
set_option maxHeartbeats 4000000 in
set_option maxRecDepth 100000 in
theorem t_Ru_come_80 {K : g_C} {o : (Unit × g_St)} (hK : g_OK K b_Ru_come "FixpointEngine$Runner" "come" (Option.none : Option Jvm.ClassFile.FieldType)) (hN : g_nL K = 3) (hD : g_Kd K = 3) : ∀ (r0 : Option Nat) (s0 : g_St), f_Ru_come_80 r0 s0 = some o → g_W K s0 [(0, g_r 4 r0)] [] 80 (g_jV o) := by
  intro r0 s0 h
  unfold f_Ru_come_80 at h
  refine r_aload_n hK d_Ru_come_80 rfl 0 rfl ?_
  refine r_gR hK fd_Ru_14 w1_171 d_Ru_come_81 h (fun p1 h => ?_)
  refine r_aload_n hK d_Ru_come_84 rfl 0 rfl ?_
  refine r_Vi (avL := []) (st := [g_r 5 p1]) hK ob_Ru rfl w6_145 w6_146 w6_144 w6_147 w1_4 (by decide) pl_Ru_parentRow (by rw [hD]; decide) (Nat.le_of_ble_eq_true rfl) rfl d_Ru_come_85 (fun o9 h9 => c_Ru_parentRow _ _ _ _ o9 h9) h (fun i2 s3 h => ?_)
  refine r_aload_n hK d_Ru_come_88 rfl 0 rfl ?_
  refine r_gR hK fd_Ru_13 w1_170 d_Ru_come_89 h (fun p4 h => ?_)
  refine r_gI hK fd_Pa_17 w3_147 d_Ru_come_92 h (fun i5 h => ?_)
  refine r_Vv (avL := [g_i i2, g_i i5]) (st := []) hK ob_Rl rfl w6_149 w6_150 w6_148 w6_151 w1_5 (by decide) pl_Rl_grow (by rw [hD]; decide) (Nat.le_of_ble_eq_true rfl) rfl d_Ru_come_95 (fun o9 h9 => c_Rl_grow _ _ _ _ _ _ o9 h9) h (fun s7 h => ?_)
  exact r_sub [0] rfl (t_Ru_come_98 hK hN hD _ _ h)
set_option maxHeartbeats 4000000 in
set_option maxRecDepth 100000 in
theorem t_Ru_come_12 {K : g_C} {o : (Unit × g_St)} (hK : g_OK K b_Ru_come "FixpointEngine$Runner" "come" (Option.none : Option Jvm.ClassFile.FieldType)) (hN : g_nL K = 3) (hD : g_Kd K = 3) : ∀ (n : Nat) (r0 : Option Nat) (x1 : Int32) (x2 : Int32) (s0 : g_St), f_Ru_come_12 n r0 x1 x2 s0 = some o → g_W K s0 [(0, g_r 4 r0), (1, g_i x1), (2, g_i x2)] [] 12 (g_jV o) := by
  intro n
  induction n with
  | zero =>
    intro r0 x1 x2 s0 h
    cases h
  | succ n ih =>
    intro r0 x1 x2 s0 h
    unfold f_Ru_come_12 at h
    refine r_iload_n hK d_Ru_come_12 rfl 2 rfl ?_
    refine r_aload_n hK d_Ru_come_13 rfl 0 rfl ?_
    refine r_gR hK fd_Ru_12 w1_169 d_Ru_come_14 h (fun p1 h => ?_)
    refine r_gI hK fd_Se_4 w3_232 d_Ru_come_17 h (fun i2 h => ?_)
    refine r_if_icmpge (tgt := 46) hK d_Ru_come_20 (by decide) h (fun h => ?_) (fun h => ?_)
    · refine r_aload_n hK d_Ru_come_46 rfl 0 rfl ?_
      refine r_gR hK fd_Ru_13 w1_170 d_Ru_come_47 h (fun p3 h => ?_)
      refine r_ifnonnull (tgt := 60) hK d_Ru_come_50 (by decide) h (fun h => ?_) (fun h => ?_)
      · refine r_aload_n hK d_Ru_come_60 rfl 0 rfl ?_
        refine r_gR hK fd_Ru_13 w1_170 d_Ru_come_61 h (fun p4 h => ?_)
        refine r_gI hK fd_Pa_6 w3_112 d_Ru_come_64 h (fun i5 h => ?_)
        refine r_ifne (tgt := 80) hK d_Ru_come_67 (by decide) h (fun h => ?_) (fun h => ?_)
        · exact r_sub [0] rfl (t_Ru_come_80 hK hN hD _ _ h)
        · refine r_aload_n hK d_Ru_come_70 rfl 0 rfl ?_
          refine r_gR hK fd_Ru_13 w1_170 d_Ru_come_71 h (fun p6 h => ?_)
          refine r_gI hK fd_Pa_7 w3_115 d_Ru_come_74 h (fun i7 h => ?_)
          refine r_ifeq (tgt := 98) hK d_Ru_come_77 (by decide) h (fun h => ?_) (fun h => ?_)
          · exact r_sub [0] rfl (t_Ru_come_98 hK hN hD _ _ h)
          · exact r_sub [0] rfl (t_Ru_come_80 hK hN hD _ _ h)
      · refine r_aload_n hK d_Ru_come_53 rfl 0 rfl ?_
        refine r_Vv (avL := []) (st := []) hK ob_Ru rfl w6_141 w6_142 w6_140 w6_143 w1_4 (by decide) pl_Ru_keepKeys (by rw [hD]; decide) (Nat.le_of_ble_eq_true rfl) rfl d_Ru_come_54 (fun o9 h9 => c_Ru_keepKeys _ _ _ _ o9 h9) h (fun s9 h => ?_)
        refine r_goto (tgt := 123) hK d_Ru_come_57 (by decide) ?_
        exact r_sub [0] rfl (t_Ru_come_123 hK hN hD _ _ h)
    · refine r_aload_n hK d_Ru_come_23 rfl 0 rfl ?_
      refine r_gR hK fd_Ru_14 w1_171 d_Ru_come_24 h (fun p10 h => ?_)
      refine r_gR hK fd_Rl_1 w1_129 d_Ru_come_27 h (fun p11 h => ?_)
      refine r_iload_n hK d_Ru_come_30 rfl 1 rfl ?_
      refine r_iload_n hK d_Ru_come_31 rfl 2 rfl ?_
      refine r_iadd hK d_Ru_come_32 ?_
      refine r_aload_n hK d_Ru_come_33 rfl 0 rfl ?_
      refine r_gR hK fd_Ru_4 w1_161 d_Ru_come_34 h (fun p12 h => ?_)
      refine r_iload_n hK d_Ru_come_37 rfl 2 rfl ?_
      refine r_laload hK ar_21 rfl d_Ru_come_38 h (fun j13 h => ?_)
      refine r_lastore hK ar_21 rfl d_Ru_come_39 h (fun s14 h => ?_)
      refine r_iinc (ls1 := [(2, g_i (x2 + 1)), (0, g_r 4 r0), (1, g_i x1)]) hK d_Ru_come_40 2 rfl rfl (by rw [hN]; decide) rfl ?_
      refine r_goto (tgt := 12) hK d_Ru_come_43 (by decide) ?_
      exact r_sub [1, 2, 0] rfl (ih _ _ _ _ h)
set_option maxHeartbeats 4000000 in
set_option maxRecDepth 100000 in
theorem t_Ru_come_0 {K : g_C} {o : (Unit × g_St)} (hK : g_OK K b_Ru_come "FixpointEngine$Runner" "come" (Option.none : Option Jvm.ClassFile.FieldType)) (hN : g_nL K = 3) (hD : g_Kd K = 3) : ∀ (r0 : Option Nat) (s0 : g_St), f_Ru_come r0 s0 = some o → g_W K s0 [(0, g_r 4 r0)] [] 0 (g_jV o) := by
  intro r0 s0 h
  unfold f_Ru_come at h
  refine r_aload_n hK d_Ru_come_0 rfl 0 rfl ?_
  refine r_gR hK fd_Ru_14 w1_171 d_Ru_come_1 h (fun p1 h => ?_)
  refine r_gI hK fd_Rl_4 w1_134 d_Ru_come_4 h (fun i2 h => ?_)
  refine r_iconst (v := 4) hK d_Ru_come_7 (by decide) ?_
  refine r_imul hK d_Ru_come_8 ?_
  refine r_istore_n (ls1 := [(1, g_i (i2 * 4)), (0, g_r 4 r0)]) hK d_Ru_come_9 rfl (by rw [hN]; decide) rfl ?_
  refine r_iconst (v := 0) hK d_Ru_come_10 (by decide) ?_
  refine r_istore_n (ls1 := [(2, g_i 0), (1, g_i (i2 * 4)), (0, g_r 4 r0)]) hK d_Ru_come_11 rfl (by rw [hN]; decide) rfl ?_
  exact r_sub [2, 1, 0] rfl (t_Ru_come_12 hK hN hD _ _ _ _ _ h)
theorem c_Ru_come (l : Launch) (G : g_G) (r0 : Option Nat) (u : g_St) (o : (Unit × g_St)) (h : f_Ru_come r0 u = some o) : g_Con l G y_Ru_come b_Ru_come 3 (Option.none : Option Jvm.ClassFile.FieldType) 3 [g_r 4 r0] u (g_jV o) :=
  g_Con.of rfl rfl (by decide +kernel) (Nat.le_of_ble_eq_true rfl) (fun K hK hN hD hX => t_Ru_come_0 hK hN hD _ _ h)
def f_Ru_takeCombination_2 : Nat → Option Nat → Int32 → g_St → Option ((Unit ⊕ Nat) × g_St)
  | 0, _, _, _ => none
  | n + 1, r0, x1, s0 =>
    g_gR s0 772 r0 fun p1 =>
    g_gI s0 264 p1 fun i2 =>
    if i2 ≤ x1 then
      g_gR s0 772 r0 fun p3 =>
      g_gI s0 328 p3 fun i4 =>
      if i4 ≤ 0 then
        g_c (g_nn r0 (f_Ru_come r0 s0)) fun _ s6 =>
        some (Sum.inl (), s6)
      else
        g_c (g_nn r0 (f_Ru_gather r0 s0)) fun _ s8 =>
        some (Sum.inl (), s8)
    else
      g_gR s0 772 r0 fun p9 =>
      g_gR s0 200 p9 fun p10 =>
      g_aR s0 p10 x1 fun p11 =>
      if p11 = none then
        g_gR s0 260 r0 fun p12 =>
        g_gR s0 772 r0 fun p13 =>
        g_gR s0 136 p13 fun p14 =>
        g_aR s0 p14 x1 fun p15 =>
        g_c (g_nn p15 (f_Te_value p15 s0)) fun j16 s17 =>
        g_sL s17 p12 x1 j16 fun s18 =>
        g_gR s18 260 r0 fun p19 =>
        g_aL s18 p19 x1 fun j20 =>
        g_c (f_Ru_isOutOfRange j20 s18) fun i21 s22 =>
        if i21 = 0 then
          f_Ru_takeCombination_2 n r0 (x1 + 1) s22
        else
          g_thr s22 2
      else
        f_Ru_takeCombination_2 n r0 (x1 + 1) s0
def f_Ru_takeCombination (r0 : Option Nat) (s0 : g_St) : Option ((Unit ⊕ Nat) × g_St) :=
  f_Ru_takeCombination_2 200000 r0 0 s0
set_option maxHeartbeats 4000000 in
set_option maxRecDepth 100000 in
theorem t_Ru_takeCombination_2 {K : g_C} {o : ((Unit ⊕ Nat) × g_St)} (hK : g_OK K b_Ru_takeCombination "FixpointEngine$Runner" "takeCombination" (Option.none : Option Jvm.ClassFile.FieldType)) (hN : g_nL K = 2) (hD : g_Kd K = 9) (hX : g_noX K) : ∀ (n : Nat) (r0 : Option Nat) (x1 : Int32) (s0 : g_St), f_Ru_takeCombination_2 n r0 x1 s0 = some o → g_W K s0 [(0, g_r 4 r0), (1, g_i x1)] [] 2 (g_jTV o) := by
  intro n
  induction n with
  | zero =>
    intro r0 x1 s0 h
    cases h
  | succ n ih =>
    intro r0 x1 s0 h
    unfold f_Ru_takeCombination_2 at h
    refine r_iload_n hK d_Ru_takeCombination_2 rfl 1 rfl ?_
    refine r_aload_n hK d_Ru_takeCombination_3 rfl 0 rfl ?_
    refine r_gR hK fd_Ru_12 w1_169 d_Ru_takeCombination_4 h (fun p1 h => ?_)
    refine r_gI hK fd_Se_4 w3_232 d_Ru_takeCombination_7 h (fun i2 h => ?_)
    refine r_if_icmpge (tgt := 72) hK d_Ru_takeCombination_10 (by decide) h (fun h => ?_) (fun h => ?_)
    · refine r_aload_n hK d_Ru_takeCombination_72 rfl 0 rfl ?_
      refine r_gR hK fd_Ru_12 w1_169 d_Ru_takeCombination_73 h (fun p3 h => ?_)
      refine r_gI hK fd_Se_5 w3_237 d_Ru_takeCombination_76 h (fun i4 h => ?_)
      refine r_ifle (tgt := 89) hK d_Ru_takeCombination_79 (by decide) h (fun h => ?_) (fun h => ?_)
      · refine r_aload_n hK d_Ru_takeCombination_89 rfl 0 rfl ?_
        refine r_Vv (avL := []) (st := []) hK ob_Ru rfl w6_137 w6_138 w6_136 w6_139 w1_4 (by decide) pl_Ru_come (by rw [hD]; decide) (Nat.le_of_ble_eq_true rfl) rfl d_Ru_takeCombination_90 (fun o9 h9 => c_Ru_come _ _ _ _ o9 h9) h (fun s6 h => ?_)
        exact r_returnT hK d_Ru_takeCombination_93 h
      · refine r_aload_n hK d_Ru_takeCombination_82 rfl 0 rfl ?_
        refine r_Vv (avL := []) (st := []) hK ob_Ru rfl w6_116 w6_117 w6_115 w6_118 w1_4 (by decide) pl_Ru_gather (by rw [hD]; decide) (Nat.le_of_ble_eq_true rfl) rfl d_Ru_takeCombination_83 (fun o9 h9 => c_Ru_gather _ _ _ _ o9 h9) h (fun s8 h => ?_)
        refine r_goto (tgt := 93) hK d_Ru_takeCombination_86 (by decide) ?_
        exact r_returnT hK d_Ru_takeCombination_93 h
    · refine r_aload_n hK d_Ru_takeCombination_13 rfl 0 rfl ?_
      refine r_gR hK fd_Ru_12 w1_169 d_Ru_takeCombination_14 h (fun p9 h => ?_)
      refine r_gR hK fd_Se_3 w3_230 d_Ru_takeCombination_17 h (fun p10 h => ?_)
      refine r_iload_n hK d_Ru_takeCombination_20 rfl 1 rfl ?_
      refine r_aaload hK rfl ar_23 rfl d_Ru_takeCombination_21 h (fun p11 h => ?_)
      refine r_ifnonnull (tgt := 66) hK d_Ru_takeCombination_22 (by decide) h (fun h => ?_) (fun h => ?_)
      · refine r_iinc (ls1 := [(1, g_i (x1 + 1)), (0, g_r 4 r0)]) hK d_Ru_takeCombination_66 1 rfl rfl (by rw [hN]; decide) rfl ?_
        refine r_goto (tgt := 2) hK d_Ru_takeCombination_69 (by decide) ?_
        exact r_sub [1, 0] rfl (ih _ _ _ h)
      · refine r_aload_n hK d_Ru_takeCombination_25 rfl 0 rfl ?_
        refine r_gR hK fd_Ru_4 w1_161 d_Ru_takeCombination_26 h (fun p12 h => ?_)
        refine r_iload_n hK d_Ru_takeCombination_29 rfl 1 rfl ?_
        refine r_aload_n hK d_Ru_takeCombination_30 rfl 0 rfl ?_
        refine r_gR hK fd_Ru_12 w1_169 d_Ru_takeCombination_31 h (fun p13 h => ?_)
        refine r_gR hK fd_Se_2 w3_227 d_Ru_takeCombination_34 h (fun p14 h => ?_)
        refine r_iload_n hK d_Ru_takeCombination_37 rfl 1 rfl ?_
        refine r_aaload hK rfl ar_26 rfl d_Ru_takeCombination_38 h (fun p15 h => ?_)
        refine r_Vl (avL := []) (st := [g_i x1, g_r 21 p12]) hK ob_Te rfl w6_73 w6_74 w6_72 w6_75 w1_24 (by decide) pl_Te_value (by rw [hD]; decide) (Nat.le_of_ble_eq_true rfl) rfl d_Ru_takeCombination_39 (fun o9 h9 => c_Te_value _ _ _ _ o9 h9) h (fun j16 s17 h => ?_)
        refine r_lastore hK ar_21 rfl d_Ru_takeCombination_42 h (fun s18 h => ?_)
        refine r_aload_n hK d_Ru_takeCombination_43 rfl 0 rfl ?_
        refine r_gR hK fd_Ru_4 w1_161 d_Ru_takeCombination_44 h (fun p19 h => ?_)
        refine r_iload_n hK d_Ru_takeCombination_47 rfl 1 rfl ?_
        refine r_laload hK ar_21 rfl d_Ru_takeCombination_48 h (fun j20 h => ?_)
        refine r_Si (avL := [g_l j20]) (st := []) hK w6_95 w6_94 w6_96 w1_4 (by decide) pl_Ru_isOutOfRange (by rw [hD]; decide) (Nat.le_of_ble_eq_true rfl) rfl d_Ru_takeCombination_49 (fun o9 h9 => c_Ru_isOutOfRange _ _ _ _ o9 h9) h (fun i21 s22 h => ?_)
        refine r_ifeq (tgt := 66) hK d_Ru_takeCombination_52 (by decide) h (fun h => ?_) (fun h => ?_)
        · refine r_iinc (ls1 := [(1, g_i (x1 + 1)), (0, g_r 4 r0)]) hK d_Ru_takeCombination_66 1 rfl rfl (by rw [hN]; decide) rfl ?_
          refine r_goto (tgt := 2) hK d_Ru_takeCombination_69 (by decide) ?_
          exact r_sub [1, 0] rfl (ih _ _ _ h)
        · exact r_thrV hK hX rfl w6_99 w6_100 w1_35 (by decide +kernel) th_Ru_287 (List.mem_of_getElem? (i := 14) rfl) (by rw [hD]; decide) (Nat.le_of_ble_eq_true rfl) d_Ru_takeCombination_55 d_Ru_takeCombination_58 (Or.inr ⟨rfl, d_Ru_takeCombination_59⟩) d_Ru_takeCombination_62 d_Ru_takeCombination_65 h
set_option maxHeartbeats 4000000 in
set_option maxRecDepth 100000 in
theorem t_Ru_takeCombination_0 {K : g_C} {o : ((Unit ⊕ Nat) × g_St)} (hK : g_OK K b_Ru_takeCombination "FixpointEngine$Runner" "takeCombination" (Option.none : Option Jvm.ClassFile.FieldType)) (hN : g_nL K = 2) (hD : g_Kd K = 9) (hX : g_noX K) : ∀ (r0 : Option Nat) (s0 : g_St), f_Ru_takeCombination r0 s0 = some o → g_W K s0 [(0, g_r 4 r0)] [] 0 (g_jTV o) := by
  intro r0 s0 h
  unfold f_Ru_takeCombination at h
  refine r_iconst (v := 0) hK d_Ru_takeCombination_0 (by decide) ?_
  refine r_istore_n (ls1 := [(1, g_i 0), (0, g_r 4 r0)]) hK d_Ru_takeCombination_1 rfl (by rw [hN]; decide) rfl ?_
  exact r_sub [1, 0] rfl (t_Ru_takeCombination_2 hK hN hD hX _ _ _ _ h)
theorem c_Ru_takeCombination (l : Launch) (G : g_G) (r0 : Option Nat) (u : g_St) (o : ((Unit ⊕ Nat) × g_St)) (h : f_Ru_takeCombination r0 u = some o) : g_Con l G y_Ru_takeCombination b_Ru_takeCombination 2 (Option.none : Option Jvm.ClassFile.FieldType) 9 [g_r 4 r0] u (g_jTV o) :=
  g_Con.of rfl rfl (by decide +kernel) (Nat.le_of_ble_eq_true rfl) (fun K hK hN hD hX => t_Ru_takeCombination_0 hK hN hD hX _ _ h)
def f_Ru_combine_107 (kr : Option Nat → Int32 → g_St → Option ((Unit ⊕ Nat) × g_St)) : Nat → Option Nat → Int32 → Option Nat → Int32 → g_St → Option ((Unit ⊕ Nat) × g_St)
  | 0, _, _, _, _, _ => none
  | n + 1, r0, x1, r2, x3, s0 =>
    g_gI s0 649 r2 fun i1 =>
    if i1 ≤ x3 then
      some (Sum.inl (), s0)
    else
      g_pI s0 713 r2 x3 fun s2 =>
      g_c (g_nn r2 (f_So_passesOver r2 x3 s2)) fun i3 s4 =>
      if i3 = 0 then
        g_cT (g_nn r0 (kr r0 (x1 + 1) s4)) fun _ s6 =>
        f_Ru_combine_107 kr n r0 x1 r2 (x3 + 1) s6
      else
        f_Ru_combine_107 kr n r0 x1 r2 (x3 + 1) s4
def f_Ru_combine_27 (kr : Option Nat → Int32 → g_St → Option ((Unit ⊕ Nat) × g_St)) : Nat → Option Nat → Int32 → Int32 → g_St → Option ((Unit ⊕ Nat) × g_St)
  | 0, _, _, _, _ => none
  | n + 1, r0, x1, x2, s0 =>
    g_gR s0 772 r0 fun p1 =>
    g_gI s0 584 p1 fun i2 =>
    if i2 ≤ x2 then
      g_gR s0 772 r0 fun p3 =>
      g_gI s0 456 p3 fun i4 =>
      if x1 < i4 then
        g_gR s0 772 r0 fun p5 =>
        g_gR s0 392 p5 fun p6 =>
        g_aR s0 p6 x1 fun p7 =>
        g_gI s0 585 p7 fun i8 =>
        f_Ru_combine_107 kr 200000 r0 x1 p7 i8 s0
      else
        g_cT (g_nn r0 (f_Ru_takeCombination r0 s0)) fun _ s10 =>
        some (Sum.inl (), s10)
    else
      g_gR s0 772 r0 fun p11 =>
      g_gR s0 520 p11 fun p12 =>
      g_aR s0 p12 x2 fun p13 =>
      g_gI s0 394 p13 fun i14 =>
      if i14 = x1 then
        g_gR s0 772 r0 fun p15 =>
        g_gR s0 520 p15 fun p16 =>
        g_aR s0 p16 x2 fun p17 =>
        g_c (f_Ru_holds p17 s0) fun i18 s19 =>
        if i18 = 0 then
          some (Sum.inl (), s19)
        else
          f_Ru_combine_27 kr n r0 x1 (x2 + 1) s19
      else
        f_Ru_combine_27 kr n r0 x1 (x2 + 1) s0
def f_Ru_combine_14 (kr : Option Nat → Int32 → g_St → Option ((Unit ⊕ Nat) × g_St)) (r0 : Option Nat) (x1 : Int32) (s0 : g_St) : Option ((Unit ⊕ Nat) × g_St) :=
  g_gR s0 772 r0 fun p1 =>
  g_gI s0 712 p1 fun i2 =>
  if i2 = 0 then
    some (Sum.inl (), s0)
  else
    f_Ru_combine_27 kr 200000 r0 x1 0 s0
def f_Ru_combine_0 (kr : Option Nat → Int32 → g_St → Option ((Unit ⊕ Nat) × g_St)) (r0 : Option Nat) (x1 : Int32) (s0 : g_St) : Option ((Unit ⊕ Nat) × g_St) :=
  g_gI s0 1028 r0 fun i1 =>
  if i1 = 0 then
    g_gI s0 1092 r0 fun i2 =>
    if i2 = 0 then
      f_Ru_combine_27 kr 200000 r0 x1 0 s0
    else
      f_Ru_combine_14 kr r0 x1 s0
  else
    f_Ru_combine_14 kr r0 x1 s0
def f_Ru_combine : Nat → Option Nat → Int32 → g_St → Option ((Unit ⊕ Nat) × g_St)
  | 0, _, _, _ => none
  | n + 1, r0, x1, s0 => f_Ru_combine_0 (f_Ru_combine n) r0 x1 s0
set_option maxHeartbeats 4000000 in
set_option maxRecDepth 100000 in
theorem t_Ru_combine_107 {K : g_C} {o : ((Unit ⊕ Nat) × g_St)} (hK : g_OK K b_Ru_combine "FixpointEngine$Runner" "combine" (Option.none : Option Jvm.ClassFile.FieldType)) (hN : g_nL K = 4) {nr : Nat} (hD : g_Kd K = 10 + nr + 1) (hX : g_noX K) {kr : Option Nat → Int32 → g_St → Option ((Unit ⊕ Nat) × g_St)} (hkr : ∀ (r0 : Option Nat) (x1 : Int32) (u : g_St) (o : ((Unit ⊕ Nat) × g_St)), kr r0 x1 u = some o → g_Con (g_Kl K) (g_KG K) y_Ru_combine b_Ru_combine 4 (Option.none : Option Jvm.ClassFile.FieldType) (10 + nr) [g_r 4 r0, g_i x1] u (g_jTV o)) : ∀ (n : Nat) (r0 : Option Nat) (x1 : Int32) (r2 : Option Nat) (x3 : Int32) (s0 : g_St), f_Ru_combine_107 kr n r0 x1 r2 x3 s0 = some o → g_W K s0 [(0, g_r 4 r0), (1, g_i x1), (2, g_r 9 r2), (3, g_i x3)] [] 107 (g_jTV o) := by
  intro n
  induction n with
  | zero =>
    intro r0 x1 r2 x3 s0 h
    cases h
  | succ n ih =>
    intro r0 x1 r2 x3 s0 h
    unfold f_Ru_combine_107 at h
    refine r_iload_n hK d_Ru_combine_107 rfl 3 rfl ?_
    refine r_aload_n hK d_Ru_combine_108 rfl 2 rfl ?_
    refine r_gI hK fd_So_10 w4_226 d_Ru_combine_109 h (fun i1 h => ?_)
    refine r_if_icmpge (tgt := 141) hK d_Ru_combine_112 (by decide) h (fun h => ?_) (fun h => ?_)
    · exact r_returnT hK d_Ru_combine_141 h
    · refine r_aload_n hK d_Ru_combine_115 rfl 2 rfl ?_
      refine r_iload_n hK d_Ru_combine_116 rfl 3 rfl ?_
      refine r_pI hK fd_So_11 rfl w4_228 d_Ru_combine_117 h (fun s2 h => ?_)
      refine r_aload_n hK d_Ru_combine_120 rfl 2 rfl ?_
      refine r_iload_n hK d_Ru_combine_121 rfl 3 rfl ?_
      refine r_Vi (avL := [g_i x3]) (st := []) hK ob_So rfl w6_162 w6_163 w6_161 w6_164 w1_29 (by decide) pl_So_passesOver (by rw [hD]; omega) (Nat.le_of_ble_eq_true rfl) rfl d_Ru_combine_122 (fun o9 h9 => c_So_passesOver _ _ _ _ _ o9 h9) h (fun i3 s4 h => ?_)
      refine r_ifne (tgt := 135) hK d_Ru_combine_125 (by decide) h (fun h => ?_) (fun h => ?_)
      · refine r_iinc (ls1 := [(3, g_i (x3 + 1)), (0, g_r 4 r0), (1, g_i x1), (2, g_r 9 r2)]) hK d_Ru_combine_135 3 rfl rfl (by rw [hN]; decide) rfl ?_
        refine r_goto (tgt := 107) hK d_Ru_combine_138 (by decide) ?_
        exact r_sub [1, 2, 3, 0] rfl (ih _ _ _ _ _ h)
      · refine r_aload_n hK d_Ru_combine_128 rfl 0 rfl ?_
        refine r_iload_n hK d_Ru_combine_129 rfl 1 rfl ?_
        refine r_iconst (v := 1) hK d_Ru_combine_130 (by decide) ?_
        refine r_iadd hK d_Ru_combine_131 ?_
        refine r_VTvV (avL := [g_i (x1 + 1)]) (st := []) hK hX ob_Ru rfl w6_63 w6_64 w6_62 w6_65 w1_4 (by decide) pl_Ru_combine (by rw [hD]; omega) (Nat.le_of_ble_eq_true rfl) rfl d_Ru_combine_132 (fun o9 h9 => hkr _ _ _ o9 h9) h (fun s6 h => ?_)
        refine r_iinc (ls1 := [(3, g_i (x3 + 1)), (0, g_r 4 r0), (1, g_i x1), (2, g_r 9 r2)]) hK d_Ru_combine_135 3 rfl rfl (by rw [hN]; decide) rfl ?_
        refine r_goto (tgt := 107) hK d_Ru_combine_138 (by decide) ?_
        exact r_sub [1, 2, 3, 0] rfl (ih _ _ _ _ _ h)
set_option maxHeartbeats 4000000 in
set_option maxRecDepth 100000 in
theorem t_Ru_combine_27 {K : g_C} {o : ((Unit ⊕ Nat) × g_St)} (hK : g_OK K b_Ru_combine "FixpointEngine$Runner" "combine" (Option.none : Option Jvm.ClassFile.FieldType)) (hN : g_nL K = 4) {nr : Nat} (hD : g_Kd K = 10 + nr + 1) (hX : g_noX K) {kr : Option Nat → Int32 → g_St → Option ((Unit ⊕ Nat) × g_St)} (hkr : ∀ (r0 : Option Nat) (x1 : Int32) (u : g_St) (o : ((Unit ⊕ Nat) × g_St)), kr r0 x1 u = some o → g_Con (g_Kl K) (g_KG K) y_Ru_combine b_Ru_combine 4 (Option.none : Option Jvm.ClassFile.FieldType) (10 + nr) [g_r 4 r0, g_i x1] u (g_jTV o)) : ∀ (n : Nat) (r0 : Option Nat) (x1 : Int32) (x2 : Int32) (s0 : g_St), f_Ru_combine_27 kr n r0 x1 x2 s0 = some o → g_W K s0 [(0, g_r 4 r0), (1, g_i x1), (2, g_i x2)] [] 27 (g_jTV o) := by
  intro n
  induction n with
  | zero =>
    intro r0 x1 x2 s0 h
    cases h
  | succ n ih =>
    intro r0 x1 x2 s0 h
    unfold f_Ru_combine_27 at h
    refine r_iload_n hK d_Ru_combine_27 rfl 2 rfl ?_
    refine r_aload_n hK d_Ru_combine_28 rfl 0 rfl ?_
    refine r_gR hK fd_Ru_12 w1_169 d_Ru_combine_29 h (fun p1 h => ?_)
    refine r_gI hK fd_Se_9 w4_9 d_Ru_combine_32 h (fun i2 h => ?_)
    refine r_if_icmpge (tgt := 76) hK d_Ru_combine_35 (by decide) h (fun h => ?_) (fun h => ?_)
    · refine r_iload_n hK d_Ru_combine_76 rfl 1 rfl ?_
      refine r_aload_n hK d_Ru_combine_77 rfl 0 rfl ?_
      refine r_gR hK fd_Ru_12 w1_169 d_Ru_combine_78 h (fun p3 h => ?_)
      refine r_gI hK fd_Se_7 w4_3 d_Ru_combine_81 h (fun i4 h => ?_)
      refine r_if_icmplt (tgt := 92) hK d_Ru_combine_84 (by decide) h (fun h => ?_) (fun h => ?_)
      · refine r_aload_n hK d_Ru_combine_92 rfl 0 rfl ?_
        refine r_gR hK fd_Ru_12 w1_169 d_Ru_combine_93 h (fun p5 h => ?_)
        refine r_gR hK fd_Se_6 w4_0 d_Ru_combine_96 h (fun p6 h => ?_)
        refine r_iload_n hK d_Ru_combine_99 rfl 1 rfl ?_
        refine r_aaload hK rfl ar_27 rfl d_Ru_combine_100 h (fun p7 h => ?_)
        refine r_astore_n (ls1 := [(2, g_r 9 p7), (0, g_r 4 r0), (1, g_i x1)]) hK d_Ru_combine_101 rfl (by rw [hN]; decide) rfl ?_
        refine r_aload_n hK d_Ru_combine_102 rfl 0 rfl ?_
        refine r_gI hK fd_So_9 w4_225 d_Ru_combine_103 h (fun i8 h => ?_)
        refine r_istore_n (ls1 := [(3, g_i i8), (2, g_r 9 p7), (0, g_r 4 r0), (1, g_i x1)]) hK d_Ru_combine_106 rfl (by rw [hN]; decide) rfl ?_
        exact r_sub [2, 3, 1, 0] rfl (t_Ru_combine_107 hK hN hD hX hkr _ _ _ _ _ _ h)
      · refine r_aload_n hK d_Ru_combine_87 rfl 0 rfl ?_
        refine r_VTvV (avL := []) (st := []) hK hX ob_Ru rfl w6_91 w6_92 w6_90 w6_93 w1_4 (by decide) pl_Ru_takeCombination (by rw [hD]; omega) (Nat.le_of_ble_eq_true rfl) rfl d_Ru_combine_88 (fun o9 h9 => c_Ru_takeCombination _ _ _ _ o9 h9) h (fun s10 h => ?_)
        exact r_returnT hK d_Ru_combine_91 h
    · refine r_aload_n hK d_Ru_combine_38 rfl 0 rfl ?_
      refine r_gR hK fd_Ru_12 w1_169 d_Ru_combine_39 h (fun p11 h => ?_)
      refine r_gR hK fd_Se_8 w4_7 d_Ru_combine_42 h (fun p12 h => ?_)
      refine r_iload_n hK d_Ru_combine_45 rfl 2 rfl ?_
      refine r_aaload hK rfl ar_28 rfl d_Ru_combine_46 h (fun p13 h => ?_)
      refine r_gI hK fd_Co_6 w5_47 d_Ru_combine_47 h (fun i14 h => ?_)
      refine r_iload_n hK d_Ru_combine_50 rfl 1 rfl ?_
      refine r_if_icmpne (tgt := 70) hK d_Ru_combine_51 (by decide) h (fun h => ?_) (fun h => ?_)
      · refine r_iinc (ls1 := [(2, g_i (x2 + 1)), (0, g_r 4 r0), (1, g_i x1)]) hK d_Ru_combine_70 2 rfl rfl (by rw [hN]; decide) rfl ?_
        refine r_goto (tgt := 27) hK d_Ru_combine_73 (by decide) ?_
        exact r_sub [1, 2, 0] rfl (ih _ _ _ _ h)
      · refine r_aload_n hK d_Ru_combine_54 rfl 0 rfl ?_
        refine r_gR hK fd_Ru_12 w1_169 d_Ru_combine_55 h (fun p15 h => ?_)
        refine r_gR hK fd_Se_8 w4_7 d_Ru_combine_58 h (fun p16 h => ?_)
        refine r_iload_n hK d_Ru_combine_61 rfl 2 rfl ?_
        refine r_aaload hK rfl ar_28 rfl d_Ru_combine_62 h (fun p17 h => ?_)
        refine r_Si (avL := [g_r 10 p17]) (st := []) hK w6_67 w6_66 w6_68 w1_4 (by decide) pl_Ru_holds (by rw [hD]; omega) (Nat.le_of_ble_eq_true rfl) rfl d_Ru_combine_63 (fun o9 h9 => c_Ru_holds _ _ _ _ o9 h9) h (fun i18 s19 h => ?_)
        refine r_ifne (tgt := 70) hK d_Ru_combine_66 (by decide) h (fun h => ?_) (fun h => ?_)
        · refine r_iinc (ls1 := [(2, g_i (x2 + 1)), (0, g_r 4 r0), (1, g_i x1)]) hK d_Ru_combine_70 2 rfl rfl (by rw [hN]; decide) rfl ?_
          refine r_goto (tgt := 27) hK d_Ru_combine_73 (by decide) ?_
          exact r_sub [1, 2, 0] rfl (ih _ _ _ _ h)
        · exact r_returnT hK d_Ru_combine_69 h
set_option maxHeartbeats 4000000 in
set_option maxRecDepth 100000 in
theorem t_Ru_combine_14 {K : g_C} {o : ((Unit ⊕ Nat) × g_St)} (hK : g_OK K b_Ru_combine "FixpointEngine$Runner" "combine" (Option.none : Option Jvm.ClassFile.FieldType)) (hN : g_nL K = 4) {nr : Nat} (hD : g_Kd K = 10 + nr + 1) (hX : g_noX K) {kr : Option Nat → Int32 → g_St → Option ((Unit ⊕ Nat) × g_St)} (hkr : ∀ (r0 : Option Nat) (x1 : Int32) (u : g_St) (o : ((Unit ⊕ Nat) × g_St)), kr r0 x1 u = some o → g_Con (g_Kl K) (g_KG K) y_Ru_combine b_Ru_combine 4 (Option.none : Option Jvm.ClassFile.FieldType) (10 + nr) [g_r 4 r0, g_i x1] u (g_jTV o)) : ∀ (r0 : Option Nat) (x1 : Int32) (s0 : g_St), f_Ru_combine_14 kr r0 x1 s0 = some o → g_W K s0 [(0, g_r 4 r0), (1, g_i x1)] [] 14 (g_jTV o) := by
  intro r0 x1 s0 h
  unfold f_Ru_combine_14 at h
  refine r_aload_n hK d_Ru_combine_14 rfl 0 rfl ?_
  refine r_gR hK fd_Ru_12 w1_169 d_Ru_combine_15 h (fun p1 h => ?_)
  refine r_gI hK fd_Se_11 w4_13 d_Ru_combine_18 h (fun i2 h => ?_)
  refine r_ifne (tgt := 25) hK d_Ru_combine_21 (by decide) h (fun h => ?_) (fun h => ?_)
  · refine r_iconst (v := 0) hK d_Ru_combine_25 (by decide) ?_
    refine r_istore_n (ls1 := [(2, g_i 0), (0, g_r 4 r0), (1, g_i x1)]) hK d_Ru_combine_26 rfl (by rw [hN]; decide) rfl ?_
    exact r_sub [1, 2, 0] rfl (t_Ru_combine_27 hK hN hD hX hkr _ _ _ _ _ h)
  · exact r_returnT hK d_Ru_combine_24 h
set_option maxHeartbeats 4000000 in
set_option maxRecDepth 100000 in
theorem t_Ru_combine_0 {K : g_C} {o : ((Unit ⊕ Nat) × g_St)} (hK : g_OK K b_Ru_combine "FixpointEngine$Runner" "combine" (Option.none : Option Jvm.ClassFile.FieldType)) (hN : g_nL K = 4) {nr : Nat} (hD : g_Kd K = 10 + nr + 1) (hX : g_noX K) {kr : Option Nat → Int32 → g_St → Option ((Unit ⊕ Nat) × g_St)} (hkr : ∀ (r0 : Option Nat) (x1 : Int32) (u : g_St) (o : ((Unit ⊕ Nat) × g_St)), kr r0 x1 u = some o → g_Con (g_Kl K) (g_KG K) y_Ru_combine b_Ru_combine 4 (Option.none : Option Jvm.ClassFile.FieldType) (10 + nr) [g_r 4 r0, g_i x1] u (g_jTV o)) : ∀ (r0 : Option Nat) (x1 : Int32) (s0 : g_St), f_Ru_combine_0 kr r0 x1 s0 = some o → g_W K s0 [(0, g_r 4 r0), (1, g_i x1)] [] 0 (g_jTV o) := by
  intro r0 x1 s0 h
  unfold f_Ru_combine_0 at h
  refine r_aload_n hK d_Ru_combine_0 rfl 0 rfl ?_
  refine r_gI hK fd_Ru_16 w1_173 d_Ru_combine_1 h (fun i1 h => ?_)
  refine r_ifne (tgt := 14) hK d_Ru_combine_4 (by decide) h (fun h => ?_) (fun h => ?_)
  · exact r_sub [0, 1] rfl (t_Ru_combine_14 hK hN hD hX hkr _ _ _ h)
  · refine r_aload_n hK d_Ru_combine_7 rfl 0 rfl ?_
    refine r_gI hK fd_Ru_17 w1_174 d_Ru_combine_8 h (fun i2 h => ?_)
    refine r_ifeq (tgt := 25) hK d_Ru_combine_11 (by decide) h (fun h => ?_) (fun h => ?_)
    · refine r_iconst (v := 0) hK d_Ru_combine_25 (by decide) ?_
      refine r_istore_n (ls1 := [(2, g_i 0), (0, g_r 4 r0), (1, g_i x1)]) hK d_Ru_combine_26 rfl (by rw [hN]; decide) rfl ?_
      exact r_sub [1, 2, 0] rfl (t_Ru_combine_27 hK hN hD hX hkr _ _ _ _ _ h)
    · exact r_sub [0, 1] rfl (t_Ru_combine_14 hK hN hD hX hkr _ _ _ h)
theorem c_Ru_combine : ∀ (n : Nat) (l : Launch) (G : g_G) (r0 : Option Nat) (x1 : Int32) (u : g_St) (o : ((Unit ⊕ Nat) × g_St)), f_Ru_combine n r0 x1 u = some o → g_Con l G y_Ru_combine b_Ru_combine 4 (Option.none : Option Jvm.ClassFile.FieldType) (10 + n) [g_r 4 r0, g_i x1] u (g_jTV o) := by
  intro n
  induction n with
  | zero => intro l G r0 x1 u o h; cases h
  | succ n ih =>
    intro l G r0 x1 u o h
    exact g_Con.of rfl rfl (by decide +kernel) (Nat.le_of_ble_eq_true rfl) (fun K hK hN hD hX => t_Ru_combine_0 hK hN hD hX (fun _ _ _ _ h9 => ih _ _ _ _ _ _ h9) _ _ _ h)
