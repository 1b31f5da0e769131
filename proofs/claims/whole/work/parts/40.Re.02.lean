def f_Re_head_91 (r0 : Option Nat) (r1 : Option Nat) (s0 : g_St) : Option (Option Nat × g_St) :=
  g_c (g_nn r0 (f_Re_expect r0 (some 1741) s0)) fun _ s2 =>
  g_c (g_nn r0 (f_Re_expect r0 (some 141) s2)) fun _ s4 =>
  g_c (g_nn r0 (f_Re_expect r0 (some 1677) s4)) fun _ s6 =>
  some (r1, s6)
def f_Re_head_40 : Nat → Option Nat → Option Nat → Int32 → Int32 → g_St → Option (Option Nat × g_St)
  | 0, _, _, _, _, _ => none
  | n + 1, r0, r1, x2, x3, s0 =>
    if 3 ≤ x3 then
      f_Re_head_91 r0 r1 s0
    else
      if x2 = 0 then
        f_Re_head_91 r0 r1 s0
      else
        g_c (g_nn r0 (f_Re_nameInto r0 r1 x3 s0)) fun _ s2 =>
        g_pI s2 135 r1 (x3 + 1) fun s3 =>
        if 3 ≤ (x3 + 1) then
          f_Re_head_40 n r0 r1 0 (x3 + 1) s3
        else
          g_c (g_nn r0 (f_Re_accept r0 (some 1613) s3)) fun i4 s5 =>
          if i4 = 0 then
            f_Re_head_40 n r0 r1 0 (x3 + 1) s5
          else
            f_Re_head_40 n r0 r1 1 (x3 + 1) s5
def f_Re_head (r0 : Option Nat) (s0 : g_St) : Option (Option Nat × g_St) :=
  g_new s0 7 18 fun p1 s2 =>
  g_c (g_nn p1 (f_Pa_init p1 s2)) fun _ s4 =>
  g_gR s4 194 r0 fun p5 =>
  g_gI s4 322 r0 fun i6 =>
  g_aI s4 p5 i6 fun i7 =>
  g_pI s4 71 p1 i7 fun s8 =>
  g_c (g_nn r0 (f_Re_name r0 s8)) fun j9 s10 =>
  g_pL s10 7 p1 j9 fun s11 =>
  g_c (g_nn r0 (f_Re_expect r0 (some 1677) s11)) fun _ s13 =>
  f_Re_head_40 200000 r0 p1 1 0 s13
set_option maxHeartbeats 4000000 in
set_option maxRecDepth 100000 in
theorem t_Re_head_91 {K : g_C} {o : (Option Nat × g_St)} (hK : g_OK K b_Re_head "FixpointEngine$Reader" "head" (Option.some (Jvm.ClassFile.FieldType.object "FixpointEngine$Part"))) (hN : g_nL K = 4) (hD : g_Kd K = 3) : ∀ (r0 : Option Nat) (r1 : Option Nat) (s0 : g_St), f_Re_head_91 r0 r1 s0 = some o → g_W K s0 [(0, g_r 2 r0), (1, g_r 7 r1)] [] 91 (g_jR 7 o) := by
  intro r0 r1 s0 h
  unfold f_Re_head_91 at h
  refine r_aload_n hK d_Re_head_91 rfl 0 rfl ?_
  refine r_gsR hK (st_kind 27 (by decide)) (by decide) rfl w3_201 d_Re_head_92 ?_
  refine r_Vv (avL := [g_r 13 (some 1741)]) (st := []) hK ob_Re rfl w3_192 w3_193 w3_191 w3_194 w1_2 (by decide) pl_Re_expect (by rw [hD]; decide) (Nat.le_of_ble_eq_true rfl) rfl d_Re_head_95 (fun o9 h9 => c_Re_expect _ _ _ _ _ o9 h9) h (fun s2 h => ?_)
  refine r_aload_n hK d_Re_head_98 rfl 0 rfl ?_
  refine r_gsR hK (st_kind 2 (by decide)) (by decide) rfl w3_203 d_Re_head_99 ?_
  refine r_Vv (avL := [g_r 13 (some 141)]) (st := []) hK ob_Re rfl w3_192 w3_193 w3_191 w3_194 w1_2 (by decide) pl_Re_expect (by rw [hD]; decide) (Nat.le_of_ble_eq_true rfl) rfl d_Re_head_102 (fun o9 h9 => c_Re_expect _ _ _ _ _ o9 h9) h (fun s4 h => ?_)
  refine r_aload_n hK d_Re_head_105 rfl 0 rfl ?_
  refine r_gsR hK (st_kind 26 (by decide)) (by decide) rfl w3_189 d_Re_head_106 ?_
  refine r_Vv (avL := [g_r 13 (some 1677)]) (st := []) hK ob_Re rfl w3_192 w3_193 w3_191 w3_194 w1_2 (by decide) pl_Re_expect (by rw [hD]; decide) (Nat.le_of_ble_eq_true rfl) rfl d_Re_head_109 (fun o9 h9 => c_Re_expect _ _ _ _ _ o9 h9) h (fun s6 h => ?_)
  refine r_aload_n hK d_Re_head_112 rfl 1 rfl ?_
  exact r_areturn (Or.inl ⟨_, rfl⟩) hK d_Re_head_113 h
set_option maxHeartbeats 4000000 in
set_option maxRecDepth 100000 in
theorem t_Re_head_40 {K : g_C} {o : (Option Nat × g_St)} (hK : g_OK K b_Re_head "FixpointEngine$Reader" "head" (Option.some (Jvm.ClassFile.FieldType.object "FixpointEngine$Part"))) (hN : g_nL K = 4) (hD : g_Kd K = 3) : ∀ (n : Nat) (r0 : Option Nat) (r1 : Option Nat) (x2 : Int32) (x3 : Int32) (s0 : g_St), f_Re_head_40 n r0 r1 x2 x3 s0 = some o → g_W K s0 [(0, g_r 2 r0), (1, g_r 7 r1), (2, g_i x2), (3, g_i x3)] [] 40 (g_jR 7 o) := by
  intro n
  induction n with
  | zero =>
    intro r0 r1 x2 x3 s0 h
    cases h
  | succ n ih =>
    intro r0 r1 x2 x3 s0 h
    unfold f_Re_head_40 at h
    refine r_iload_n hK d_Re_head_40 rfl 3 rfl ?_
    refine r_iconst (v := 3) hK d_Re_head_41 (by decide) ?_
    refine r_if_icmpge (tgt := 91) hK d_Re_head_42 (by decide) h (fun h => ?_) (fun h => ?_)
    · exact r_sub [0, 1] rfl (t_Re_head_91 hK hN hD _ _ _ h)
    · refine r_iload_n hK d_Re_head_45 rfl 2 rfl ?_
      refine r_ifeq (tgt := 91) hK d_Re_head_46 (by decide) h (fun h => ?_) (fun h => ?_)
      · exact r_sub [0, 1] rfl (t_Re_head_91 hK hN hD _ _ _ h)
      · refine r_aload_n hK d_Re_head_49 rfl 0 rfl ?_
        refine r_aload_n hK d_Re_head_50 rfl 1 rfl ?_
        refine r_iload_n hK d_Re_head_51 rfl 3 rfl ?_
        refine r_Vv (avL := [g_r 7 r1, g_i x3]) (st := []) hK ob_Re rfl w3_196 w3_197 w3_195 w3_198 w1_2 (by decide) pl_Re_nameInto (by rw [hD]; decide) (Nat.le_of_ble_eq_true rfl) rfl d_Re_head_52 (fun o9 h9 => c_Re_nameInto _ _ _ _ _ _ o9 h9) h (fun s2 h => ?_)
        refine r_aload_n hK d_Re_head_55 rfl 1 rfl ?_
        refine r_iload_n hK d_Re_head_56 rfl 3 rfl ?_
        refine r_iconst (v := 1) hK d_Re_head_57 (by decide) ?_
        refine r_iadd hK d_Re_head_58 ?_
        refine r_pI hK fd_Pa_2 rfl w3_101 d_Re_head_59 h (fun s3 h => ?_)
        refine r_iload_n hK d_Re_head_62 rfl 3 rfl ?_
        refine r_iconst (v := 1) hK d_Re_head_63 (by decide) ?_
        refine r_iadd hK d_Re_head_64 ?_
        refine r_iconst (v := 3) hK d_Re_head_65 (by decide) ?_
        refine r_if_icmpge (tgt := 83) hK d_Re_head_66 (by decide) h (fun h => ?_) (fun h => ?_)
        · refine r_iconst (v := 0) hK d_Re_head_83 (by decide) ?_
          refine r_istore_n (ls1 := [(2, g_i 0), (0, g_r 2 r0), (1, g_r 7 r1), (3, g_i x3)]) hK d_Re_head_84 rfl (by rw [hN]; decide) rfl ?_
          refine r_iinc (ls1 := [(3, g_i (x3 + 1)), (2, g_i 0), (0, g_r 2 r0), (1, g_r 7 r1)]) hK d_Re_head_85 3 rfl rfl (by rw [hN]; decide) rfl ?_
          refine r_goto (tgt := 40) hK d_Re_head_88 (by decide) ?_
          exact r_sub [2, 3, 1, 0] rfl (ih _ _ _ _ _ h)
        · refine r_aload_n hK d_Re_head_69 rfl 0 rfl ?_
          refine r_gsR hK (st_kind 25 (by decide)) (by decide) rfl w3_199 d_Re_head_70 ?_
          refine r_Vi (avL := [g_r 13 (some 1613)]) (st := []) hK ob_Re rfl w3_76 w3_77 w3_75 w3_78 w1_2 (by decide) pl_Re_accept (by rw [hD]; decide) (Nat.le_of_ble_eq_true rfl) rfl d_Re_head_73 (fun o9 h9 => c_Re_accept _ _ _ _ _ o9 h9) h (fun i4 s5 h => ?_)
          refine r_ifeq (tgt := 83) hK d_Re_head_76 (by decide) h (fun h => ?_) (fun h => ?_)
          · refine r_iconst (v := 0) hK d_Re_head_83 (by decide) ?_
            refine r_istore_n (ls1 := [(2, g_i 0), (0, g_r 2 r0), (1, g_r 7 r1), (3, g_i x3)]) hK d_Re_head_84 rfl (by rw [hN]; decide) rfl ?_
            refine r_iinc (ls1 := [(3, g_i (x3 + 1)), (2, g_i 0), (0, g_r 2 r0), (1, g_r 7 r1)]) hK d_Re_head_85 3 rfl rfl (by rw [hN]; decide) rfl ?_
            refine r_goto (tgt := 40) hK d_Re_head_88 (by decide) ?_
            exact r_sub [2, 3, 1, 0] rfl (ih _ _ _ _ _ h)
          · refine r_iconst (v := 1) hK d_Re_head_79 (by decide) ?_
            refine r_goto (tgt := 84) hK d_Re_head_80 (by decide) ?_
            refine r_istore_n (ls1 := [(2, g_i 1), (0, g_r 2 r0), (1, g_r 7 r1), (3, g_i x3)]) hK d_Re_head_84 rfl (by rw [hN]; decide) rfl ?_
            refine r_iinc (ls1 := [(3, g_i (x3 + 1)), (2, g_i 1), (0, g_r 2 r0), (1, g_r 7 r1)]) hK d_Re_head_85 3 rfl rfl (by rw [hN]; decide) rfl ?_
            refine r_goto (tgt := 40) hK d_Re_head_88 (by decide) ?_
            exact r_sub [2, 3, 1, 0] rfl (ih _ _ _ _ _ h)
set_option maxHeartbeats 4000000 in
set_option maxRecDepth 100000 in
theorem t_Re_head_0 {K : g_C} {o : (Option Nat × g_St)} (hK : g_OK K b_Re_head "FixpointEngine$Reader" "head" (Option.some (Jvm.ClassFile.FieldType.object "FixpointEngine$Part"))) (hN : g_nL K = 4) (hD : g_Kd K = 3) : ∀ (r0 : Option Nat) (s0 : g_St), f_Re_head r0 s0 = some o → g_W K s0 [(0, g_r 2 r0)] [] 0 (g_jR 7 o) := by
  intro r0 s0 h
  unfold f_Re_head at h
  refine r_new hK ob_Pa rfl rfl w3_85 w3_86 w1_22 d_Re_head_0 h (fun p1 s2 h => ?_)
  refine r_dup hK d_Re_head_3 rfl ?_
  refine r_INv (avL := []) (st := [g_r 7 p1]) hK rfl w3_88 w3_87 w3_89 w1_22 (by decide) pl_Pa_init (by rw [hD]; decide) (Nat.le_of_ble_eq_true rfl) rfl d_Re_head_4 (fun o9 h9 => c_Pa_init _ _ _ _ o9 h9) h (fun s4 h => ?_)
  refine r_astore_n (ls1 := [(1, g_r 7 p1), (0, g_r 2 r0)]) hK d_Re_head_7 rfl (by rw [hN]; decide) rfl ?_
  refine r_aload_n hK d_Re_head_8 rfl 0 rfl ?_
  refine r_aload_n hK d_Re_head_9 rfl 1 rfl ?_
  refine r_gR hK fd_Re_3 w1_61 d_Re_head_10 h (fun p5 h => ?_)
  refine r_aload_n hK d_Re_head_13 rfl 1 rfl ?_
  refine r_gI hK fd_Re_5 w1_63 d_Re_head_14 h (fun i6 h => ?_)
  refine r_iaload hK ar_20 rfl d_Re_head_17 h (fun i7 h => ?_)
  refine r_pI hK fd_Pa_1 rfl w3_96 d_Re_head_18 h (fun s8 h => ?_)
  refine r_aload_n hK d_Re_head_21 rfl 0 rfl ?_
  refine r_aload_n hK d_Re_head_22 rfl 1 rfl ?_
  refine r_Vl (avL := []) (st := [g_r 7 p1]) hK ob_Re rfl w3_186 w3_187 w3_185 w3_188 w1_2 (by decide) pl_Re_name (by rw [hD]; decide) (Nat.le_of_ble_eq_true rfl) rfl d_Re_head_23 (fun o9 h9 => c_Re_name _ _ _ _ o9 h9) h (fun j9 s10 h => ?_)
  refine r_pL hK fd_Pa_0 rfl w3_94 d_Re_head_26 h (fun s11 h => ?_)
  refine r_aload_n hK d_Re_head_29 rfl 1 rfl ?_
  refine r_gsR hK (st_kind 26 (by decide)) (by decide) rfl w3_189 d_Re_head_30 ?_
  refine r_Vv (avL := [g_r 13 (some 1677)]) (st := []) hK ob_Re rfl w3_192 w3_193 w3_191 w3_194 w1_2 (by decide) pl_Re_expect (by rw [hD]; decide) (Nat.le_of_ble_eq_true rfl) rfl d_Re_head_33 (fun o9 h9 => c_Re_expect _ _ _ _ _ o9 h9) h (fun s13 h => ?_)
  refine r_iconst (v := 1) hK d_Re_head_36 (by decide) ?_
  refine r_istore_n (ls1 := [(2, g_i 1), (1, g_r 7 p1), (0, g_r 2 r0)]) hK d_Re_head_37 rfl (by rw [hN]; decide) rfl ?_
  refine r_iconst (v := 0) hK d_Re_head_38 (by decide) ?_
  refine r_istore_n (ls1 := [(3, g_i 0), (2, g_i 1), (1, g_r 7 p1), (0, g_r 2 r0)]) hK d_Re_head_39 rfl (by rw [hN]; decide) rfl ?_
  exact r_sub [3, 2, 1, 0] rfl (t_Re_head_40 hK hN hD _ _ _ _ _ _ h)
theorem c_Re_head (l : Launch) (G : g_G) (r0 : Option Nat) (u : g_St) (o : (Option Nat × g_St)) (h : f_Re_head r0 u = some o) : g_Con l G y_Re_head b_Re_head 4 (Option.some (Jvm.ClassFile.FieldType.object "FixpointEngine$Part")) 3 [g_r 2 r0] u (g_jR 7 o) :=
  g_Con.of rfl rfl (by decide +kernel) (Nat.le_of_ble_eq_true rfl) (fun K hK hN hD hX => t_Re_head_0 hK hN hD _ _ h)
def f_Re_operand (r0 : Option Nat) (x1 : Int32) (s0 : g_St) : Option (Option Nat × g_St) :=
  g_new s0 11 11 fun p1 s2 =>
  g_gR s2 194 r0 fun p3 =>
  g_gI s2 322 r0 fun i4 =>
  g_aI s2 p3 i4 fun i5 =>
  g_gR s2 514 r0 fun p6 =>
  g_gR s2 578 r0 fun p7 =>
  g_c (g_nn p1 (f_Te_init p1 x1 i5 p6 p7 s2)) fun _ s9 =>
  g_c (g_nn r0 (f_Re_accept r0 (some 653) s9)) fun i10 s11 =>
  if i10 = 0 then
    g_c (g_nn r0 (f_Re_accept r0 (some 2381) s11)) fun i12 s13 =>
    if i12 = 0 then
      g_c (g_nn r0 (f_Re_name r0 s13)) fun j14 s15 =>
      g_pL s15 331 p1 j14 fun s16 =>
      g_c (g_nn r0 (f_Re_expect r0 (some 1805) s16)) fun _ s18 =>
      g_c (g_nn r0 (f_Re_name r0 s18)) fun j19 s20 =>
      g_pL s20 395 p1 j19 fun s21 =>
      g_gR s21 450 r0 fun p22 =>
      g_gR s21 582 p22 fun p23 =>
      g_c (g_nn p23 (f_Al_add p23 p1 s21)) fun i24 s25 =>
      some (p1, s25)
    else
      g_gR s13 258 r0 fun p26 =>
      g_gI s13 322 r0 fun i27 =>
      g_aL s13 p26 (i27 - 1) fun j28 =>
      g_pL s13 267 p1 j28 fun s29 =>
      some (p1, s29)
  else
    g_pL s11 267 p1 1099511627776 fun s30 =>
    some (p1, s30)
set_option maxHeartbeats 4000000 in
set_option maxRecDepth 100000 in
theorem t_Re_operand_0 {K : g_C} {o : (Option Nat × g_St)} (hK : g_OK K b_Re_operand "FixpointEngine$Reader" "operand" (Option.some (Jvm.ClassFile.FieldType.object "FixpointEngine$Term"))) (hN : g_nL K = 3) (hD : g_Kd K = 13) : ∀ (r0 : Option Nat) (x1 : Int32) (s0 : g_St), f_Re_operand r0 x1 s0 = some o → g_W K s0 [(0, g_r 2 r0), (1, g_i x1)] [] 0 (g_jR 11 o) := by
  intro r0 x1 s0 h
  unfold f_Re_operand at h
  refine r_new hK ob_Te rfl rfl w4_64 w4_65 w1_24 d_Re_operand_0 h (fun p1 s2 h => ?_)
  refine r_dup hK d_Re_operand_3 rfl ?_
  refine r_iload_n hK d_Re_operand_4 rfl 1 rfl ?_
  refine r_aload_n hK d_Re_operand_5 rfl 0 rfl ?_
  refine r_gR hK fd_Re_3 w1_61 d_Re_operand_6 h (fun p3 h => ?_)
  refine r_aload_n hK d_Re_operand_9 rfl 0 rfl ?_
  refine r_gI hK fd_Re_5 w1_63 d_Re_operand_10 h (fun i4 h => ?_)
  refine r_iaload hK ar_20 rfl d_Re_operand_13 h (fun i5 h => ?_)
  refine r_aload_n hK d_Re_operand_14 rfl 0 rfl ?_
  refine r_gR hK fd_Re_8 w1_66 d_Re_operand_15 h (fun p6 h => ?_)
  refine r_aload_n hK d_Re_operand_18 rfl 0 rfl ?_
  refine r_gR hK fd_Re_9 w1_67 d_Re_operand_19 h (fun p7 h => ?_)
  refine r_Iv (avL := [g_i x1, g_i i5, g_r 8 p6, g_r 10 p7]) (st := [g_r 11 p1]) hK rfl w4_67 w4_66 w4_68 w1_24 (by decide) pl_Te_init (by rw [hD]; decide) (Nat.le_of_ble_eq_true rfl) rfl d_Re_operand_22 (fun o9 h9 => c_Te_init _ _ _ _ _ _ _ _ o9 h9) h (fun s9 h => ?_)
  refine r_astore_n (ls1 := [(2, g_r 11 p1), (0, g_r 2 r0), (1, g_i x1)]) hK d_Re_operand_25 rfl (by rw [hN]; decide) rfl ?_
  refine r_aload_n hK d_Re_operand_26 rfl 1 rfl ?_
  refine r_gsR hK (st_kind 10 (by decide)) (by decide) rfl w4_116 d_Re_operand_27 ?_
  refine r_Vi (avL := [g_r 13 (some 653)]) (st := []) hK ob_Re rfl w3_76 w3_77 w3_75 w3_78 w1_2 (by decide) pl_Re_accept (by rw [hD]; decide) (Nat.le_of_ble_eq_true rfl) rfl d_Re_operand_30 (fun o9 h9 => c_Re_accept _ _ _ _ _ o9 h9) h (fun i10 s11 h => ?_)
  refine r_ifeq (tgt := 46) hK d_Re_operand_33 (by decide) h (fun h => ?_) (fun h => ?_)
  · refine r_aload_n hK d_Re_operand_46 rfl 1 rfl ?_
    refine r_gsR hK (st_kind 37 (by decide)) (by decide) rfl w2_162 d_Re_operand_47 ?_
    refine r_Vi (avL := [g_r 13 (some 2381)]) (st := []) hK ob_Re rfl w3_76 w3_77 w3_75 w3_78 w1_2 (by decide) pl_Re_accept (by rw [hD]; decide) (Nat.le_of_ble_eq_true rfl) rfl d_Re_operand_50 (fun o9 h9 => c_Re_accept _ _ _ _ _ o9 h9) h (fun i12 s13 h => ?_)
    refine r_ifeq (tgt := 74) hK d_Re_operand_53 (by decide) h (fun h => ?_) (fun h => ?_)
    · refine r_aload_n hK d_Re_operand_74 rfl 0 rfl ?_
      refine r_aload_n hK d_Re_operand_75 rfl 1 rfl ?_
      refine r_Vl (avL := []) (st := [g_r 11 p1]) hK ob_Re rfl w3_186 w3_187 w3_185 w3_188 w1_2 (by decide) pl_Re_name (by rw [hD]; decide) (Nat.le_of_ble_eq_true rfl) rfl d_Re_operand_76 (fun o9 h9 => c_Re_name _ _ _ _ o9 h9) h (fun j14 s15 h => ?_)
      refine r_pL hK fd_Te_5 rfl w4_80 d_Re_operand_79 h (fun s16 h => ?_)
      refine r_aload_n hK d_Re_operand_82 rfl 1 rfl ?_
      refine r_gsR hK (st_kind 28 (by decide)) (by decide) rfl w4_119 d_Re_operand_83 ?_
      refine r_Vv (avL := [g_r 13 (some 1805)]) (st := []) hK ob_Re rfl w3_192 w3_193 w3_191 w3_194 w1_2 (by decide) pl_Re_expect (by rw [hD]; decide) (Nat.le_of_ble_eq_true rfl) rfl d_Re_operand_86 (fun o9 h9 => c_Re_expect _ _ _ _ _ o9 h9) h (fun s18 h => ?_)
      refine r_aload_n hK d_Re_operand_89 rfl 0 rfl ?_
      refine r_aload_n hK d_Re_operand_90 rfl 1 rfl ?_
      refine r_Vl (avL := []) (st := [g_r 11 p1]) hK ob_Re rfl w3_186 w3_187 w3_185 w3_188 w1_2 (by decide) pl_Re_name (by rw [hD]; decide) (Nat.le_of_ble_eq_true rfl) rfl d_Re_operand_91 (fun o9 h9 => c_Re_name _ _ _ _ o9 h9) h (fun j19 s20 h => ?_)
      refine r_pL hK fd_Te_6 rfl w4_82 d_Re_operand_94 h (fun s21 h => ?_)
      refine r_aload_n hK d_Re_operand_97 rfl 1 rfl ?_
      refine r_gR hK fd_Re_7 w1_65 d_Re_operand_98 h (fun p22 h => ?_)
      refine r_gR hK fd_Qu_9 w3_51 d_Re_operand_101 h (fun p23 h => ?_)
      refine r_aload_n hK d_Re_operand_104 rfl 0 rfl ?_
      refine r_stk (st1 := [g_r 63 p1, g_r 12 p23]) hK (fun _ => rfl) (fun ho => ((ho.tl.tl.cons (ho.tl.hd)).cons (g_ok63 ho.hd))) ?_
      refine r_Vi (avL := [g_r 63 p1]) (st := []) hK ob_Al rfl w4_122 w4_123 w4_121 w4_124 w1_21 (by decide) pl_Al_add (by rw [hD]; decide) (Nat.le_of_ble_eq_true rfl) rfl d_Re_operand_105 (fun o9 h9 => c_Al_add _ _ _ _ _ o9 h9) h (fun i24 s25 h => ?_)
      refine r_pop hK d_Re_operand_108 rfl ?_
      refine r_aload_n hK d_Re_operand_109 rfl 0 rfl ?_
      exact r_areturn (Or.inl ⟨_, rfl⟩) hK d_Re_operand_110 h
    · refine r_aload_n hK d_Re_operand_56 rfl 0 rfl ?_
      refine r_aload_n hK d_Re_operand_57 rfl 1 rfl ?_
      refine r_gR hK fd_Re_4 w1_62 d_Re_operand_58 h (fun p26 h => ?_)
      refine r_aload_n hK d_Re_operand_61 rfl 1 rfl ?_
      refine r_gI hK fd_Re_5 w1_63 d_Re_operand_62 h (fun i27 h => ?_)
      refine r_iconst (v := 1) hK d_Re_operand_65 (by decide) ?_
      refine r_isub hK d_Re_operand_66 ?_
      refine r_laload hK ar_21 rfl d_Re_operand_67 h (fun j28 h => ?_)
      refine r_pL hK fd_Te_4 rfl w4_78 d_Re_operand_68 h (fun s29 h => ?_)
      refine r_goto (tgt := 109) hK d_Re_operand_71 (by decide) ?_
      refine r_aload_n hK d_Re_operand_109 rfl 0 rfl ?_
      exact r_areturn (Or.inl ⟨_, rfl⟩) hK d_Re_operand_110 h
  · refine r_aload_n hK d_Re_operand_36 rfl 0 rfl ?_
    refine r_ldc2 hK w4_118 d_Re_operand_37 ?_
    refine r_pL hK fd_Te_4 rfl w4_78 d_Re_operand_40 h (fun s30 h => ?_)
    refine r_goto (tgt := 109) hK d_Re_operand_43 (by decide) ?_
    refine r_aload_n hK d_Re_operand_109 rfl 0 rfl ?_
    exact r_areturn (Or.inl ⟨_, rfl⟩) hK d_Re_operand_110 h
theorem c_Re_operand (l : Launch) (G : g_G) (r0 : Option Nat) (x1 : Int32) (u : g_St) (o : (Option Nat × g_St)) (h : f_Re_operand r0 x1 u = some o) : g_Con l G y_Re_operand b_Re_operand 3 (Option.some (Jvm.ClassFile.FieldType.object "FixpointEngine$Term")) 13 [g_r 2 r0, g_i x1] u (g_jR 11 o) :=
  g_Con.of rfl rfl (by decide +kernel) (Nat.le_of_ble_eq_true rfl) (fun K hK hN hD hX => t_Re_operand_0 hK hN hD _ _ _ h)
def f_Re_expression_42 (k10 : Option Nat → Option Nat → Option Nat → Int32 → g_St → Option (Option Nat × g_St)) (r0 : Option Nat) (r1 : Option Nat) (r2 : Option Nat) (x3 : Int32) (x4 : Int32) (s0 : g_St) : Option (Option Nat × g_St) :=
  g_c (g_nn r0 (f_Re_operand r0 x4 s0)) fun p1 s2 =>
  g_pR s2 651 r2 p1 fun s3 =>
  g_gR s3 651 r2 fun p4 =>
  k10 r0 r1 p4 (x3 + 1) s3
def f_Re_expression_10 : Nat → Option Nat → Option Nat → Option Nat → Int32 → g_St → Option (Option Nat × g_St)
  | 0, _, _, _, _, _ => none
  | n + 1, r0, r1, r2, x3, s0 =>
    if 4 ≤ x3 then
      some (r1, s0)
    else
      g_c (g_nn r0 (f_Re_accept r0 (some 1933) s0)) fun i1 s2 =>
      if i1 = 0 then
        g_c (g_nn r0 (f_Re_accept r0 (some 1869) s2)) fun i3 s4 =>
        if i3 = 0 then
          some (r1, s4)
        else
          f_Re_expression_42 (f_Re_expression_10 n) r0 r1 r2 x3 i1 s4
      else
        f_Re_expression_42 (f_Re_expression_10 n) r0 r1 r2 x3 i1 s2
def f_Re_expression (r0 : Option Nat) (s0 : g_St) : Option (Option Nat × g_St) :=
  g_c (g_nn r0 (f_Re_operand r0 0 s0)) fun p1 s2 =>
  f_Re_expression_10 200000 r0 p1 p1 1 s2
set_option maxHeartbeats 4000000 in
set_option maxRecDepth 100000 in
theorem t_Re_expression_42 {K : g_C} {o : (Option Nat × g_St)} (hK : g_OK K b_Re_expression "FixpointEngine$Reader" "expression" (Option.some (Jvm.ClassFile.FieldType.object "FixpointEngine$Term"))) (hN : g_nL K = 5) (hD : g_Kd K = 14) {k10 : Option Nat → Option Nat → Option Nat → Int32 → g_St → Option (Option Nat × g_St)} (hk10 : ∀ (r0 : Option Nat) (r1 : Option Nat) (r2 : Option Nat) (x3 : Int32) (s0 : g_St), k10 r0 r1 r2 x3 s0 = some o → g_W K s0 [(0, g_r 2 r0), (1, g_r 11 r1), (2, g_r 11 r2), (3, g_i x3)] [] 10 (g_jR 11 o)) : ∀ (r0 : Option Nat) (r1 : Option Nat) (r2 : Option Nat) (x3 : Int32) (x4 : Int32) (s0 : g_St), f_Re_expression_42 k10 r0 r1 r2 x3 x4 s0 = some o → g_W K s0 [(0, g_r 2 r0), (1, g_r 11 r1), (2, g_r 11 r2), (3, g_i x3), (4, g_i x4)] [] 42 (g_jR 11 o) := by
  intro r0 r1 r2 x3 x4 s0 h
  unfold f_Re_expression_42 at h
  refine r_aload_n hK d_Re_expression_42 rfl 2 rfl ?_
  refine r_aload_n hK d_Re_expression_43 rfl 0 rfl ?_
  refine r_iload hK d_Re_expression_44 4 rfl ?_
  refine r_Vr (avL := [g_i x4]) (st := [g_r 11 r2]) hK ob_Re rfl w4_61 w4_62 w4_60 w4_63 w1_2 (by decide) pl_Re_operand (by rw [hD]; decide) (Nat.le_of_ble_eq_true rfl) rfl d_Re_expression_46 (fun o9 h9 => c_Re_operand _ _ _ _ _ o9 h9) h (fun p1 s2 h => ?_)
  refine r_pR hK pd_11 rfl (Or.inr rfl) fd_Te_10 rfl w4_92 d_Re_expression_49 h (fun s3 h => ?_)
  refine r_aload_n hK d_Re_expression_52 rfl 2 rfl ?_
  refine r_gR hK fd_Te_10 w4_92 d_Re_expression_53 h (fun p4 h => ?_)
  refine r_astore_n (ls1 := [(2, g_r 11 p4), (0, g_r 2 r0), (1, g_r 11 r1), (3, g_i x3), (4, g_i x4)]) hK d_Re_expression_56 rfl (by rw [hN]; decide) rfl ?_
  refine r_iinc (ls1 := [(3, g_i (x3 + 1)), (2, g_r 11 p4), (0, g_r 2 r0), (1, g_r 11 r1), (4, g_i x4)]) hK d_Re_expression_57 3 rfl rfl (by rw [hN]; decide) rfl ?_
  refine r_goto (tgt := 10) hK d_Re_expression_60 (by decide) ?_
  exact r_sub [2, 3, 1, 0] rfl (hk10 _ _ _ _ _ h)
set_option maxHeartbeats 4000000 in
set_option maxRecDepth 100000 in
theorem t_Re_expression_10 {K : g_C} {o : (Option Nat × g_St)} (hK : g_OK K b_Re_expression "FixpointEngine$Reader" "expression" (Option.some (Jvm.ClassFile.FieldType.object "FixpointEngine$Term"))) (hN : g_nL K = 5) (hD : g_Kd K = 14) : ∀ (n : Nat) (r0 : Option Nat) (r1 : Option Nat) (r2 : Option Nat) (x3 : Int32) (s0 : g_St), f_Re_expression_10 n r0 r1 r2 x3 s0 = some o → g_W K s0 [(0, g_r 2 r0), (1, g_r 11 r1), (2, g_r 11 r2), (3, g_i x3)] [] 10 (g_jR 11 o) := by
  intro n
  induction n with
  | zero =>
    intro r0 r1 r2 x3 s0 h
    cases h
  | succ n ih =>
    intro r0 r1 r2 x3 s0 h
    unfold f_Re_expression_10 at h
    refine r_iload_n hK d_Re_expression_10 rfl 3 rfl ?_
    refine r_iconst (v := 4) hK d_Re_expression_11 (by decide) ?_
    refine r_if_icmpge (tgt := 63) hK d_Re_expression_12 (by decide) h (fun h => ?_) (fun h => ?_)
    · refine r_aload_n hK d_Re_expression_63 rfl 1 rfl ?_
      exact r_areturn (Or.inl ⟨_, rfl⟩) hK d_Re_expression_64 h
    · refine r_aload_n hK d_Re_expression_15 rfl 0 rfl ?_
      refine r_gsR hK (st_kind 30 (by decide)) (by decide) rfl w4_188 d_Re_expression_16 ?_
      refine r_Vi (avL := [g_r 13 (some 1933)]) (st := []) hK ob_Re rfl w3_76 w3_77 w3_75 w3_78 w1_2 (by decide) pl_Re_accept (by rw [hD]; decide) (Nat.le_of_ble_eq_true rfl) rfl d_Re_expression_19 (fun o9 h9 => c_Re_accept _ _ _ _ _ o9 h9) h (fun i1 s2 h => ?_)
      refine r_istore (ls1 := [(4, g_i i1), (0, g_r 2 r0), (1, g_r 11 r1), (2, g_r 11 r2), (3, g_i x3)]) hK d_Re_expression_22 (by rw [hN]; decide) rfl ?_
      refine r_iload hK d_Re_expression_24 0 rfl ?_
      refine r_ifne (tgt := 42) hK d_Re_expression_26 (by decide) h (fun h => ?_) (fun h => ?_)
      · exact r_sub [1, 2, 3, 4, 0] rfl (t_Re_expression_42 hK hN hD ih _ _ _ _ _ _ h)
      · refine r_aload_n hK d_Re_expression_29 rfl 1 rfl ?_
        refine r_gsR hK (st_kind 29 (by decide)) (by decide) rfl w4_190 d_Re_expression_30 ?_
        refine r_Vi (avL := [g_r 13 (some 1869)]) (st := []) hK ob_Re rfl w3_76 w3_77 w3_75 w3_78 w1_2 (by decide) pl_Re_accept (by rw [hD]; decide) (Nat.le_of_ble_eq_true rfl) rfl d_Re_expression_33 (fun o9 h9 => c_Re_accept _ _ _ _ _ o9 h9) h (fun i3 s4 h => ?_)
        refine r_ifne (tgt := 42) hK d_Re_expression_36 (by decide) h (fun h => ?_) (fun h => ?_)
        · exact r_sub [1, 2, 3, 4, 0] rfl (t_Re_expression_42 hK hN hD ih _ _ _ _ _ _ h)
        · refine r_goto (tgt := 63) hK d_Re_expression_39 (by decide) ?_
          refine r_aload_n hK d_Re_expression_63 rfl 2 rfl ?_
          exact r_areturn (Or.inl ⟨_, rfl⟩) hK d_Re_expression_64 h
set_option maxHeartbeats 4000000 in
set_option maxRecDepth 100000 in
theorem t_Re_expression_0 {K : g_C} {o : (Option Nat × g_St)} (hK : g_OK K b_Re_expression "FixpointEngine$Reader" "expression" (Option.some (Jvm.ClassFile.FieldType.object "FixpointEngine$Term"))) (hN : g_nL K = 5) (hD : g_Kd K = 14) : ∀ (r0 : Option Nat) (s0 : g_St), f_Re_expression r0 s0 = some o → g_W K s0 [(0, g_r 2 r0)] [] 0 (g_jR 11 o) := by
  intro r0 s0 h
  unfold f_Re_expression at h
  refine r_aload_n hK d_Re_expression_0 rfl 0 rfl ?_
  refine r_iconst (v := 0) hK d_Re_expression_1 (by decide) ?_
  refine r_Vr (avL := [g_i 0]) (st := []) hK ob_Re rfl w4_61 w4_62 w4_60 w4_63 w1_2 (by decide) pl_Re_operand (by rw [hD]; decide) (Nat.le_of_ble_eq_true rfl) rfl d_Re_expression_2 (fun o9 h9 => c_Re_operand _ _ _ _ _ o9 h9) h (fun p1 s2 h => ?_)
  refine r_astore_n (ls1 := [(1, g_r 11 p1), (0, g_r 2 r0)]) hK d_Re_expression_5 rfl (by rw [hN]; decide) rfl ?_
  refine r_aload_n hK d_Re_expression_6 rfl 0 rfl ?_
  refine r_astore_n (ls1 := [(2, g_r 11 p1), (1, g_r 11 p1), (0, g_r 2 r0)]) hK d_Re_expression_7 rfl (by rw [hN]; decide) rfl ?_
  refine r_iconst (v := 1) hK d_Re_expression_8 (by decide) ?_
  refine r_istore_n (ls1 := [(3, g_i 1), (2, g_r 11 p1), (1, g_r 11 p1), (0, g_r 2 r0)]) hK d_Re_expression_9 rfl (by rw [hN]; decide) rfl ?_
  exact r_sub [3, 2, 1, 0] rfl (t_Re_expression_10 hK hN hD _ _ _ _ _ _ h)
theorem c_Re_expression (l : Launch) (G : g_G) (r0 : Option Nat) (u : g_St) (o : (Option Nat × g_St)) (h : f_Re_expression r0 u = some o) : g_Con l G y_Re_expression b_Re_expression 5 (Option.some (Jvm.ClassFile.FieldType.object "FixpointEngine$Term")) 14 [g_r 2 r0] u (g_jR 11 o) :=
  g_Con.of rfl rfl (by decide +kernel) (Nat.le_of_ble_eq_true rfl) (fun K hK hN hD hX => t_Re_expression_0 hK hN hD _ _ h)
def f_Re_item_176 (r0 : Option Nat) (x1 : Int32) (r2 : Option Nat) (s0 : g_St) : Option (Unit × g_St) :=
  g_gR s0 514 r0 fun p1 =>
  g_gR s0 200 p1 fun p2 =>
  g_sR s0 p2 x1 r2 fun s3 =>
  g_gR s3 514 r0 fun p4 =>
  g_gI s3 328 p4 fun i5 =>
  g_pI s3 328 p4 (i5 + 1) fun s6 =>
  some ((), s6)
def f_Re_item_95 (r0 : Option Nat) (x1 : Int32) (r2 : Option Nat) (s0 : g_St) : Option (Unit × g_St) :=
  g_c (g_nn r0 (f_Re_expect r0 (some 1677) s0)) fun _ s2 =>
  g_gR s2 514 r0 fun p3 =>
  g_gR s2 136 p3 fun p4 =>
  g_c (g_nn r0 (f_Re_expression r0 s2)) fun p5 s6 =>
  g_sR s6 p4 x1 p5 fun s7 =>
  g_c (g_nn r0 (f_Re_expect r0 (some 1741) s7)) fun _ s9 =>
  f_Re_item_176 r0 x1 r2 s9
def f_Re_item (r0 : Option Nat) (s0 : g_St) : Option (Unit × g_St) :=
  g_gR s0 514 r0 fun p1 =>
  g_gI s0 264 p1 fun i2 =>
  g_gR s0 130 r0 fun p3 =>
  g_gI s0 322 r0 fun i4 =>
  g_aR s0 p3 i4 fun p5 =>
  g_gR s0 514 r0 fun p6 =>
  g_gI s0 264 p6 fun i7 =>
  g_pI s0 264 p6 (i7 + 1) fun s8 =>
  g_c (g_nn r0 (f_Re_accept r0 (some 1293) s8)) fun i9 s10 =>
  if i9 = 0 then
    g_c (g_nn r0 (f_Re_accept r0 (some 1357) s10)) fun i11 s12 =>
    if i11 = 0 then
      g_c (g_nn r0 (f_Re_accept r0 (some 1421) s12)) fun i13 s14 =>
      if i13 = 0 then
        g_c (g_nn r0 (f_Re_accept r0 (some 1485) s14)) fun i15 s16 =>
        if i15 = 0 then
          g_gR s16 514 r0 fun p17 =>
          g_gR s16 136 p17 fun p18 =>
          g_c (g_nn r0 (f_Re_expression r0 s16)) fun p19 s20 =>
          g_sR s20 p18 i2 p19 fun s21 =>
          g_gR s21 514 r0 fun p22 =>
          g_gR s21 514 r0 fun p23 =>
          g_gI s21 712 p23 fun i24 =>
          if i24 = 0 then
            g_gR s21 514 r0 fun p26 =>
            g_gR s21 136 p26 fun p27 =>
            g_aR s21 p27 i2 fun p28 =>
            g_gR s21 651 p28 fun p29 =>
            if p29 = none then
              g_pZ s21 712 p22 0 fun s30 =>
              some ((), s30)
            else
              g_pZ s21 712 p22 1 fun s31 =>
              some ((), s31)
          else
            g_pZ s21 712 p22 1 fun s25 =>
            some ((), s25)
        else
          f_Re_item_95 r0 i2 p5 s16
      else
        f_Re_item_95 r0 i2 p5 s14
    else
      f_Re_item_95 r0 i2 p5 s12
  else
    g_c (g_nn r0 (f_Re_expect r0 (some 1677) s10)) fun _ s33 =>
    g_c (g_nn r0 (f_Re_expect r0 (some 2189) s33)) fun _ s35 =>
    g_c (g_nn r0 (f_Re_expect r0 (some 1741) s35)) fun _ s37 =>
    f_Re_item_176 r0 i2 p5 s37
set_option maxHeartbeats 4000000 in
set_option maxRecDepth 100000 in
theorem t_Re_item_176 {K : g_C} {o : (Unit × g_St)} (hK : g_OK K b_Re_item "FixpointEngine$Reader" "item" (Option.none : Option Jvm.ClassFile.FieldType)) (hN : g_nL K = 3) (hD : g_Kd K = 15) : ∀ (r0 : Option Nat) (x1 : Int32) (r2 : Option Nat) (s0 : g_St), f_Re_item_176 r0 x1 r2 s0 = some o → g_W K s0 [(0, g_r 2 r0), (1, g_i x1), (2, g_r 13 r2)] [] 176 (g_jV o) := by
  intro r0 x1 r2 s0 h
  unfold f_Re_item_176 at h
  refine r_aload_n hK d_Re_item_176 rfl 0 rfl ?_
  refine r_gR hK fd_Re_8 w1_66 d_Re_item_177 h (fun p1 h => ?_)
  refine r_gR hK fd_Se_3 w3_231 d_Re_item_180 h (fun p2 h => ?_)
  refine r_iload_n hK d_Re_item_183 rfl 1 rfl ?_
  refine r_aload_n hK d_Re_item_184 rfl 2 rfl ?_
  refine r_aastore hK el_23 ar_23 rfl d_Re_item_185 h (fun s3 h => ?_)
  refine r_aload_n hK d_Re_item_186 rfl 0 rfl ?_
  refine r_gR hK fd_Re_8 w1_66 d_Re_item_187 h (fun p4 h => ?_)
  refine r_dup hK d_Re_item_190 rfl ?_
  refine r_gI hK fd_Se_5 w3_238 d_Re_item_191 h (fun i5 h => ?_)
  refine r_iconst (v := 1) hK d_Re_item_194 (by decide) ?_
  refine r_iadd hK d_Re_item_195 ?_
  refine r_pI hK fd_Se_5 rfl w3_238 d_Re_item_196 h (fun s6 h => ?_)
  exact r_return hK d_Re_item_199 h
set_option maxHeartbeats 4000000 in
set_option maxRecDepth 100000 in
theorem t_Re_item_95 {K : g_C} {o : (Unit × g_St)} (hK : g_OK K b_Re_item "FixpointEngine$Reader" "item" (Option.none : Option Jvm.ClassFile.FieldType)) (hN : g_nL K = 3) (hD : g_Kd K = 15) : ∀ (r0 : Option Nat) (x1 : Int32) (r2 : Option Nat) (s0 : g_St), f_Re_item_95 r0 x1 r2 s0 = some o → g_W K s0 [(0, g_r 2 r0), (1, g_i x1), (2, g_r 13 r2)] [] 95 (g_jV o) := by
  intro r0 x1 r2 s0 h
  unfold f_Re_item_95 at h
  refine r_aload_n hK d_Re_item_95 rfl 0 rfl ?_
  refine r_gsR hK (st_kind 26 (by decide)) (by decide) rfl w3_189 d_Re_item_96 ?_
  refine r_Vv (avL := [g_r 13 (some 1677)]) (st := []) hK ob_Re rfl w3_192 w3_193 w3_191 w3_194 w1_2 (by decide) pl_Re_expect (by rw [hD]; decide) (Nat.le_of_ble_eq_true rfl) rfl d_Re_item_99 (fun o9 h9 => c_Re_expect _ _ _ _ _ o9 h9) h (fun s2 h => ?_)
  refine r_aload_n hK d_Re_item_102 rfl 0 rfl ?_
  refine r_gR hK fd_Re_8 w1_66 d_Re_item_103 h (fun p3 h => ?_)
  refine r_gR hK fd_Se_2 w3_228 d_Re_item_106 h (fun p4 h => ?_)
  refine r_iload_n hK d_Re_item_109 rfl 1 rfl ?_
  refine r_aload_n hK d_Re_item_110 rfl 0 rfl ?_
  refine r_Vr (avL := []) (st := [g_i x1, g_r 26 p4]) hK ob_Re rfl w4_57 w4_58 w4_56 w4_59 w1_2 (by decide) pl_Re_expression (by rw [hD]; decide) (Nat.le_of_ble_eq_true rfl) rfl d_Re_item_111 (fun o9 h9 => c_Re_expression _ _ _ _ o9 h9) h (fun p5 s6 h => ?_)
  refine r_aastore hK el_26 ar_26 rfl d_Re_item_114 h (fun s7 h => ?_)
  refine r_aload_n hK d_Re_item_115 rfl 0 rfl ?_
  refine r_gsR hK (st_kind 27 (by decide)) (by decide) rfl w3_201 d_Re_item_116 ?_
  refine r_Vv (avL := [g_r 13 (some 1741)]) (st := []) hK ob_Re rfl w3_192 w3_193 w3_191 w3_194 w1_2 (by decide) pl_Re_expect (by rw [hD]; decide) (Nat.le_of_ble_eq_true rfl) rfl d_Re_item_119 (fun o9 h9 => c_Re_expect _ _ _ _ _ o9 h9) h (fun s9 h => ?_)
  refine r_goto (tgt := 176) hK d_Re_item_122 (by decide) ?_
  exact r_sub [0, 1, 2] rfl (t_Re_item_176 hK hN hD _ _ _ _ h)
set_option maxHeartbeats 4000000 in
set_option maxRecDepth 100000 in
theorem t_Re_item_0 {K : g_C} {o : (Unit × g_St)} (hK : g_OK K b_Re_item "FixpointEngine$Reader" "item" (Option.none : Option Jvm.ClassFile.FieldType)) (hN : g_nL K = 3) (hD : g_Kd K = 15) : ∀ (r0 : Option Nat) (s0 : g_St), f_Re_item r0 s0 = some o → g_W K s0 [(0, g_r 2 r0)] [] 0 (g_jV o) := by
  intro r0 s0 h
  unfold f_Re_item at h
  refine r_aload_n hK d_Re_item_0 rfl 0 rfl ?_
  refine r_gR hK fd_Re_8 w1_66 d_Re_item_1 h (fun p1 h => ?_)
  refine r_gI hK fd_Se_4 w3_235 d_Re_item_4 h (fun i2 h => ?_)
  refine r_istore_n (ls1 := [(1, g_i i2), (0, g_r 2 r0)]) hK d_Re_item_7 rfl (by rw [hN]; decide) rfl ?_
  refine r_aload_n hK d_Re_item_8 rfl 1 rfl ?_
  refine r_gR hK fd_Re_2 w1_60 d_Re_item_9 h (fun p3 h => ?_)
  refine r_aload_n hK d_Re_item_12 rfl 1 rfl ?_
  refine r_gI hK fd_Re_5 w1_63 d_Re_item_13 h (fun i4 h => ?_)
  refine r_aaload hK rfl ar_23 rfl d_Re_item_16 h (fun p5 h => ?_)
  refine r_astore_n (ls1 := [(2, g_r 13 p5), (1, g_i i2), (0, g_r 2 r0)]) hK d_Re_item_17 rfl (by rw [hN]; decide) rfl ?_
  refine r_aload_n hK d_Re_item_18 rfl 2 rfl ?_
  refine r_gR hK fd_Re_8 w1_66 d_Re_item_19 h (fun p6 h => ?_)
  refine r_dup hK d_Re_item_22 rfl ?_
  refine r_gI hK fd_Se_4 w3_235 d_Re_item_23 h (fun i7 h => ?_)
  refine r_iconst (v := 1) hK d_Re_item_26 (by decide) ?_
  refine r_iadd hK d_Re_item_27 ?_
  refine r_pI hK fd_Se_4 rfl w3_235 d_Re_item_28 h (fun s8 h => ?_)
  refine r_aload_n hK d_Re_item_31 rfl 2 rfl ?_
  refine r_gsR hK (st_kind 20 (by decide)) (by decide) rfl w4_46 d_Re_item_32 ?_
  refine r_Vi (avL := [g_r 13 (some 1293)]) (st := []) hK ob_Re rfl w3_76 w3_77 w3_75 w3_78 w1_2 (by decide) pl_Re_accept (by rw [hD]; decide) (Nat.le_of_ble_eq_true rfl) rfl d_Re_item_35 (fun o9 h9 => c_Re_accept _ _ _ _ _ o9 h9) h (fun i9 s10 h => ?_)
  refine r_ifeq (tgt := 65) hK d_Re_item_38 (by decide) h (fun h => ?_) (fun h => ?_)
  · refine r_aload_n hK d_Re_item_65 rfl 2 rfl ?_
    refine r_gsR hK (st_kind 21 (by decide)) (by decide) rfl w4_50 d_Re_item_66 ?_
    refine r_Vi (avL := [g_r 13 (some 1357)]) (st := []) hK ob_Re rfl w3_76 w3_77 w3_75 w3_78 w1_2 (by decide) pl_Re_accept (by rw [hD]; decide) (Nat.le_of_ble_eq_true rfl) rfl d_Re_item_69 (fun o9 h9 => c_Re_accept _ _ _ _ _ o9 h9) h (fun i11 s12 h => ?_)
    refine r_ifne (tgt := 95) hK d_Re_item_72 (by decide) h (fun h => ?_) (fun h => ?_)
    · exact r_sub [2, 1, 0] rfl (t_Re_item_95 hK hN hD _ _ _ _ h)
    · refine r_aload_n hK d_Re_item_75 rfl 2 rfl ?_
      refine r_gsR hK (st_kind 22 (by decide)) (by decide) rfl w4_52 d_Re_item_76 ?_
      refine r_Vi (avL := [g_r 13 (some 1421)]) (st := []) hK ob_Re rfl w3_76 w3_77 w3_75 w3_78 w1_2 (by decide) pl_Re_accept (by rw [hD]; decide) (Nat.le_of_ble_eq_true rfl) rfl d_Re_item_79 (fun o9 h9 => c_Re_accept _ _ _ _ _ o9 h9) h (fun i13 s14 h => ?_)
      refine r_ifne (tgt := 95) hK d_Re_item_82 (by decide) h (fun h => ?_) (fun h => ?_)
      · exact r_sub [2, 1, 0] rfl (t_Re_item_95 hK hN hD _ _ _ _ h)
      · refine r_aload_n hK d_Re_item_85 rfl 2 rfl ?_
        refine r_gsR hK (st_kind 23 (by decide)) (by decide) rfl w4_54 d_Re_item_86 ?_
        refine r_Vi (avL := [g_r 13 (some 1485)]) (st := []) hK ob_Re rfl w3_76 w3_77 w3_75 w3_78 w1_2 (by decide) pl_Re_accept (by rw [hD]; decide) (Nat.le_of_ble_eq_true rfl) rfl d_Re_item_89 (fun o9 h9 => c_Re_accept _ _ _ _ _ o9 h9) h (fun i15 s16 h => ?_)
        refine r_ifeq (tgt := 125) hK d_Re_item_92 (by decide) h (fun h => ?_) (fun h => ?_)
        · refine r_aload_n hK d_Re_item_125 rfl 2 rfl ?_
          refine r_gR hK fd_Re_8 w1_66 d_Re_item_126 h (fun p17 h => ?_)
          refine r_gR hK fd_Se_2 w3_228 d_Re_item_129 h (fun p18 h => ?_)
          refine r_iload_n hK d_Re_item_132 rfl 1 rfl ?_
          refine r_aload_n hK d_Re_item_133 rfl 2 rfl ?_
          refine r_Vr (avL := []) (st := [g_i i2, g_r 26 p18]) hK ob_Re rfl w4_57 w4_58 w4_56 w4_59 w1_2 (by decide) pl_Re_expression (by rw [hD]; decide) (Nat.le_of_ble_eq_true rfl) rfl d_Re_item_134 (fun o9 h9 => c_Re_expression _ _ _ _ o9 h9) h (fun p19 s20 h => ?_)
          refine r_aastore hK el_26 ar_26 rfl d_Re_item_137 h (fun s21 h => ?_)
          refine r_aload_n hK d_Re_item_138 rfl 2 rfl ?_
          refine r_gR hK fd_Re_8 w1_66 d_Re_item_139 h (fun p22 h => ?_)
          refine r_aload_n hK d_Re_item_142 rfl 2 rfl ?_
          refine r_gR hK fd_Re_8 w1_66 d_Re_item_143 h (fun p23 h => ?_)
          refine r_gI hK fd_Se_11 w4_14 d_Re_item_146 h (fun i24 h => ?_)
          refine r_ifne (tgt := 167) hK d_Re_item_149 (by decide) h (fun h => ?_) (fun h => ?_)
          · refine r_iconst (v := 1) hK d_Re_item_167 (by decide) ?_
            refine r_goto (tgt := 172) hK d_Re_item_168 (by decide) ?_
            refine r_pZ hK fd_Se_11 rfl w4_14 d_Re_item_172 h (fun s25 h => ?_)
            exact r_return hK d_Re_item_175 h
          · refine r_aload_n hK d_Re_item_152 rfl 2 rfl ?_
            refine r_gR hK fd_Re_8 w1_66 d_Re_item_153 h (fun p26 h => ?_)
            refine r_gR hK fd_Se_2 w3_228 d_Re_item_156 h (fun p27 h => ?_)
            refine r_iload_n hK d_Re_item_159 rfl 1 rfl ?_
            refine r_aaload hK rfl ar_26 rfl d_Re_item_160 h (fun p28 h => ?_)
            refine r_gR hK fd_Te_10 w4_92 d_Re_item_161 h (fun p29 h => ?_)
            refine r_ifnull (tgt := 171) hK d_Re_item_164 (by decide) h (fun h => ?_) (fun h => ?_)
            · refine r_iconst (v := 0) hK d_Re_item_171 (by decide) ?_
              refine r_pZ hK fd_Se_11 rfl w4_14 d_Re_item_172 h (fun s30 h => ?_)
              exact r_return hK d_Re_item_175 h
            · refine r_iconst (v := 1) hK d_Re_item_167 (by decide) ?_
              refine r_goto (tgt := 172) hK d_Re_item_168 (by decide) ?_
              refine r_pZ hK fd_Se_11 rfl w4_14 d_Re_item_172 h (fun s31 h => ?_)
              exact r_return hK d_Re_item_175 h
        · exact r_sub [2, 1, 0] rfl (t_Re_item_95 hK hN hD _ _ _ _ h)
  · refine r_aload_n hK d_Re_item_41 rfl 2 rfl ?_
    refine r_gsR hK (st_kind 26 (by decide)) (by decide) rfl w3_189 d_Re_item_42 ?_
    refine r_Vv (avL := [g_r 13 (some 1677)]) (st := []) hK ob_Re rfl w3_192 w3_193 w3_191 w3_194 w1_2 (by decide) pl_Re_expect (by rw [hD]; decide) (Nat.le_of_ble_eq_true rfl) rfl d_Re_item_45 (fun o9 h9 => c_Re_expect _ _ _ _ _ o9 h9) h (fun s33 h => ?_)
    refine r_aload_n hK d_Re_item_48 rfl 2 rfl ?_
    refine r_gsR hK (st_kind 34 (by decide)) (by decide) rfl w4_48 d_Re_item_49 ?_
    refine r_Vv (avL := [g_r 13 (some 2189)]) (st := []) hK ob_Re rfl w3_192 w3_193 w3_191 w3_194 w1_2 (by decide) pl_Re_expect (by rw [hD]; decide) (Nat.le_of_ble_eq_true rfl) rfl d_Re_item_52 (fun o9 h9 => c_Re_expect _ _ _ _ _ o9 h9) h (fun s35 h => ?_)
    refine r_aload_n hK d_Re_item_55 rfl 2 rfl ?_
    refine r_gsR hK (st_kind 27 (by decide)) (by decide) rfl w3_201 d_Re_item_56 ?_
    refine r_Vv (avL := [g_r 13 (some 1741)]) (st := []) hK ob_Re rfl w3_192 w3_193 w3_191 w3_194 w1_2 (by decide) pl_Re_expect (by rw [hD]; decide) (Nat.le_of_ble_eq_true rfl) rfl d_Re_item_59 (fun o9 h9 => c_Re_expect _ _ _ _ _ o9 h9) h (fun s37 h => ?_)
    refine r_goto (tgt := 176) hK d_Re_item_62 (by decide) ?_
    exact r_sub [2, 1, 0] rfl (t_Re_item_176 hK hN hD _ _ _ _ h)
theorem c_Re_item (l : Launch) (G : g_G) (r0 : Option Nat) (u : g_St) (o : (Unit × g_St)) (h : f_Re_item r0 u = some o) : g_Con l G y_Re_item b_Re_item 3 (Option.none : Option Jvm.ClassFile.FieldType) 15 [g_r 2 r0] u (g_jV o) :=
  g_Con.of rfl rfl (by decide +kernel) (Nat.le_of_ble_eq_true rfl) (fun K hK hN hD hX => t_Re_item_0 hK hN hD _ _ h)
def f_Re_source (r0 : Option Nat) (x1 : Int32) (s0 : g_St) : Option (Option Nat × g_St) :=
  g_new s0 9 13 fun p1 s2 =>
  g_gR s2 514 r0 fun p3 =>
  g_gR s2 194 r0 fun p4 =>
  g_gI s2 322 r0 fun i5 =>
  g_aI s2 p4 i5 fun i6 =>
  g_c (g_nn p1 (f_So_init p1 p3 x1 i6 s2)) fun _ s8 =>
  g_c (g_nn r0 (f_Re_name r0 s8)) fun j9 s10 =>
  g_pL s10 201 p1 j9 fun s11 =>
  g_gR s11 194 r0 fun p12 =>
  g_gI s11 322 r0 fun i13 =>
  g_aI s11 p12 i13 fun i14 =>
  g_pI s11 265 p1 i14 fun s15 =>
  g_c (g_nn r0 (f_Re_name r0 s15)) fun j16 s17 =>
  g_pL s17 329 p1 j16 fun s18 =>
  g_gR s18 450 r0 fun p19 =>
  g_gR s18 518 p19 fun p20 =>
  g_c (g_nn p20 (f_Al_add p20 p1 s18)) fun i21 s22 =>
  some (p1, s22)
set_option maxHeartbeats 4000000 in
set_option maxRecDepth 100000 in
theorem t_Re_source_0 {K : g_C} {o : (Option Nat × g_St)} (hK : g_OK K b_Re_source "FixpointEngine$Reader" "source" (Option.some (Jvm.ClassFile.FieldType.object "FixpointEngine$Source"))) (hN : g_nL K = 3) (hD : g_Kd K = 13) : ∀ (r0 : Option Nat) (x1 : Int32) (s0 : g_St), f_Re_source r0 x1 s0 = some o → g_W K s0 [(0, g_r 2 r0), (1, g_i x1)] [] 0 (g_jR 9 o) := by
  intro r0 x1 s0 h
  unfold f_Re_source at h
  refine r_new hK ob_So rfl rfl w4_198 w4_199 w1_29 d_Re_source_0 h (fun p1 s2 h => ?_)
  refine r_dup hK d_Re_source_3 rfl ?_
  refine r_aload_n hK d_Re_source_4 rfl 0 rfl ?_
  refine r_gR hK fd_Re_8 w1_66 d_Re_source_5 h (fun p3 h => ?_)
  refine r_iload_n hK d_Re_source_8 rfl 1 rfl ?_
  refine r_aload_n hK d_Re_source_9 rfl 0 rfl ?_
  refine r_gR hK fd_Re_3 w1_61 d_Re_source_10 h (fun p4 h => ?_)
  refine r_aload_n hK d_Re_source_13 rfl 0 rfl ?_
  refine r_gI hK fd_Re_5 w1_63 d_Re_source_14 h (fun i5 h => ?_)
  refine r_iaload hK ar_20 rfl d_Re_source_17 h (fun i6 h => ?_)
  refine r_Iv (avL := [g_r 8 p3, g_i x1, g_i i6]) (st := [g_r 9 p1]) hK rfl w4_201 w4_200 w4_202 w1_29 (by decide) pl_So_init (by rw [hD]; decide) (Nat.le_of_ble_eq_true rfl) rfl d_Re_source_18 (fun o9 h9 => c_So_init _ _ _ _ _ _ _ o9 h9) h (fun s8 h => ?_)
  refine r_astore_n (ls1 := [(2, g_r 9 p1), (0, g_r 2 r0), (1, g_i x1)]) hK d_Re_source_21 rfl (by rw [hN]; decide) rfl ?_
  refine r_aload_n hK d_Re_source_22 rfl 0 rfl ?_
  refine r_aload_n hK d_Re_source_23 rfl 1 rfl ?_
  refine r_Vl (avL := []) (st := [g_r 9 p1]) hK ob_Re rfl w3_186 w3_187 w3_185 w3_188 w1_2 (by decide) pl_Re_name (by rw [hD]; decide) (Nat.le_of_ble_eq_true rfl) rfl d_Re_source_24 (fun o9 h9 => c_Re_name _ _ _ _ o9 h9) h (fun j9 s10 h => ?_)
  refine r_pL hK fd_So_3 rfl w4_211 d_Re_source_27 h (fun s11 h => ?_)
  refine r_aload_n hK d_Re_source_30 rfl 0 rfl ?_
  refine r_aload_n hK d_Re_source_31 rfl 1 rfl ?_
  refine r_gR hK fd_Re_3 w1_61 d_Re_source_32 h (fun p12 h => ?_)
  refine r_aload_n hK d_Re_source_35 rfl 1 rfl ?_
  refine r_gI hK fd_Re_5 w1_63 d_Re_source_36 h (fun i13 h => ?_)
  refine r_iaload hK ar_20 rfl d_Re_source_39 h (fun i14 h => ?_)
  refine r_pI hK fd_So_4 rfl w4_213 d_Re_source_40 h (fun s15 h => ?_)
  refine r_aload_n hK d_Re_source_43 rfl 0 rfl ?_
  refine r_aload_n hK d_Re_source_44 rfl 1 rfl ?_
  refine r_Vl (avL := []) (st := [g_r 9 p1]) hK ob_Re rfl w3_186 w3_187 w3_185 w3_188 w1_2 (by decide) pl_Re_name (by rw [hD]; decide) (Nat.le_of_ble_eq_true rfl) rfl d_Re_source_45 (fun o9 h9 => c_Re_name _ _ _ _ o9 h9) h (fun j16 s17 h => ?_)
  refine r_pL hK fd_So_5 rfl w4_215 d_Re_source_48 h (fun s18 h => ?_)
  refine r_aload_n hK d_Re_source_51 rfl 1 rfl ?_
  refine r_gR hK fd_Re_7 w1_65 d_Re_source_52 h (fun p19 h => ?_)
  refine r_gR hK fd_Qu_8 w3_48 d_Re_source_55 h (fun p20 h => ?_)
  refine r_aload_n hK d_Re_source_58 rfl 0 rfl ?_
  refine r_stk (st1 := [g_r 63 p1, g_r 12 p20]) hK (fun _ => rfl) (fun ho => ((ho.tl.tl.cons (ho.tl.hd)).cons (g_ok63 ho.hd))) ?_
  refine r_Vi (avL := [g_r 63 p1]) (st := []) hK ob_Al rfl w4_122 w4_123 w4_121 w4_124 w1_21 (by decide) pl_Al_add (by rw [hD]; decide) (Nat.le_of_ble_eq_true rfl) rfl d_Re_source_59 (fun o9 h9 => c_Al_add _ _ _ _ _ o9 h9) h (fun i21 s22 h => ?_)
  refine r_pop hK d_Re_source_62 rfl ?_
  refine r_aload_n hK d_Re_source_63 rfl 0 rfl ?_
  exact r_areturn (Or.inl ⟨_, rfl⟩) hK d_Re_source_64 h
theorem c_Re_source (l : Launch) (G : g_G) (r0 : Option Nat) (x1 : Int32) (u : g_St) (o : (Option Nat × g_St)) (h : f_Re_source r0 x1 u = some o) : g_Con l G y_Re_source b_Re_source 3 (Option.some (Jvm.ClassFile.FieldType.object "FixpointEngine$Source")) 13 [g_r 2 r0, g_i x1] u (g_jR 9 o) :=
  g_Con.of rfl rfl (by decide +kernel) (Nat.le_of_ble_eq_true rfl) (fun K hK hN hD hX => t_Re_source_0 hK hN hD _ _ _ h)
def f_Re_comparison_81 (r0 : Option Nat) (r1 : Option Nat) (s0 : g_St) : Option (Unit × g_St) :=
  g_c (g_nn r0 (f_Re_expression r0 s0)) fun p1 s2 =>
  g_pR s2 138 r1 p1 fun s3 =>
  some ((), s3)
def f_Re_comparison (r0 : Option Nat) (r1 : Option Nat) (s0 : g_St) : Option (Unit × g_St) :=
  g_c (g_nn r0 (f_Re_expression r0 s0)) fun p1 s2 =>
  g_pR s2 74 r1 p1 fun s3 =>
  g_gR s3 130 r0 fun p4 =>
  g_gI s3 322 r0 fun i5 =>
  g_aR s3 p4 i5 fun p6 =>
  g_pR s3 10 r1 p6 fun s7 =>
  g_c (g_nn r0 (f_Re_accept r0 (some 589) s7)) fun i8 s9 =>
  if i8 = 0 then
    g_c (g_nn r0 (f_Re_accept r0 (some 1997) s9)) fun i10 s11 =>
    if i10 = 0 then
      g_c (g_nn r0 (f_Re_accept r0 (some 2253) s11)) fun i12 s13 =>
      if i12 = 0 then
        g_c (g_nn r0 (f_Re_accept r0 (some 2061) s13)) fun i14 s15 =>
        if i14 = 0 then
          g_c (g_nn r0 (f_Re_accept r0 (some 2125) s15)) fun i16 s17 =>
          if i16 = 0 then
            g_pZ s17 386 r0 1 fun s18 =>
            some ((), s18)
          else
            f_Re_comparison_81 r0 r1 s17
        else
          f_Re_comparison_81 r0 r1 s15
      else
        f_Re_comparison_81 r0 r1 s13
    else
      f_Re_comparison_81 r0 r1 s11
  else
    g_c (g_nn r0 (f_Re_expect r0 (some 653) s9)) fun _ s20 =>
    some ((), s20)
set_option maxHeartbeats 4000000 in
set_option maxRecDepth 100000 in
theorem t_Re_comparison_81 {K : g_C} {o : (Unit × g_St)} (hK : g_OK K b_Re_comparison "FixpointEngine$Reader" "comparison" (Option.none : Option Jvm.ClassFile.FieldType)) (hN : g_nL K = 2) (hD : g_Kd K = 15) : ∀ (r0 : Option Nat) (r1 : Option Nat) (s0 : g_St), f_Re_comparison_81 r0 r1 s0 = some o → g_W K s0 [(0, g_r 2 r0), (1, g_r 10 r1)] [] 81 (g_jV o) := by
  intro r0 r1 s0 h
  unfold f_Re_comparison_81 at h
  refine r_aload_n hK d_Re_comparison_81 rfl 1 rfl ?_
  refine r_aload_n hK d_Re_comparison_82 rfl 0 rfl ?_
  refine r_Vr (avL := []) (st := [g_r 10 r1]) hK ob_Re rfl w4_57 w4_58 w4_56 w4_59 w1_2 (by decide) pl_Re_expression (by rw [hD]; decide) (Nat.le_of_ble_eq_true rfl) rfl d_Re_comparison_83 (fun o9 h9 => c_Re_expression _ _ _ _ o9 h9) h (fun p1 s2 h => ?_)
  refine r_pR hK pd_11 rfl (Or.inr rfl) fd_Co_2 rfl w5_38 d_Re_comparison_86 h (fun s3 h => ?_)
  refine r_goto (tgt := 97) hK d_Re_comparison_89 (by decide) ?_
  exact r_return hK d_Re_comparison_97 h
set_option maxHeartbeats 4000000 in
set_option maxRecDepth 100000 in
theorem t_Re_comparison_0 {K : g_C} {o : (Unit × g_St)} (hK : g_OK K b_Re_comparison "FixpointEngine$Reader" "comparison" (Option.none : Option Jvm.ClassFile.FieldType)) (hN : g_nL K = 2) (hD : g_Kd K = 15) : ∀ (r0 : Option Nat) (r1 : Option Nat) (s0 : g_St), f_Re_comparison r0 r1 s0 = some o → g_W K s0 [(0, g_r 2 r0), (1, g_r 10 r1)] [] 0 (g_jV o) := by
  intro r0 r1 s0 h
  unfold f_Re_comparison at h
  refine r_aload_n hK d_Re_comparison_0 rfl 1 rfl ?_
  refine r_aload_n hK d_Re_comparison_1 rfl 0 rfl ?_
  refine r_Vr (avL := []) (st := [g_r 10 r1]) hK ob_Re rfl w4_57 w4_58 w4_56 w4_59 w1_2 (by decide) pl_Re_expression (by rw [hD]; decide) (Nat.le_of_ble_eq_true rfl) rfl d_Re_comparison_2 (fun o9 h9 => c_Re_expression _ _ _ _ o9 h9) h (fun p1 s2 h => ?_)
  refine r_pR hK pd_11 rfl (Or.inr rfl) fd_Co_1 rfl w5_36 d_Re_comparison_5 h (fun s3 h => ?_)
  refine r_aload_n hK d_Re_comparison_8 rfl 1 rfl ?_
  refine r_aload_n hK d_Re_comparison_9 rfl 0 rfl ?_
  refine r_gR hK fd_Re_2 w1_60 d_Re_comparison_10 h (fun p4 h => ?_)
  refine r_aload_n hK d_Re_comparison_13 rfl 0 rfl ?_
  refine r_gI hK fd_Re_5 w1_63 d_Re_comparison_14 h (fun i5 h => ?_)
  refine r_aaload hK rfl ar_23 rfl d_Re_comparison_17 h (fun p6 h => ?_)
  refine r_pR hK pd_13 rfl (Or.inr rfl) fd_Co_0 rfl w5_34 d_Re_comparison_18 h (fun s7 h => ?_)
  refine r_aload_n hK d_Re_comparison_21 rfl 0 rfl ?_
  refine r_gsR hK (st_kind 9 (by decide)) (by decide) rfl w5_70 d_Re_comparison_22 ?_
  refine r_Vi (avL := [g_r 13 (some 589)]) (st := []) hK ob_Re rfl w3_76 w3_77 w3_75 w3_78 w1_2 (by decide) pl_Re_accept (by rw [hD]; decide) (Nat.le_of_ble_eq_true rfl) rfl d_Re_comparison_25 (fun o9 h9 => c_Re_accept _ _ _ _ _ o9 h9) h (fun i8 s9 h => ?_)
  refine r_ifeq (tgt := 41) hK d_Re_comparison_28 (by decide) h (fun h => ?_) (fun h => ?_)
  · refine r_aload_n hK d_Re_comparison_41 rfl 0 rfl ?_
    refine r_gsR hK (st_kind 31 (by decide)) (by decide) rfl w5_72 d_Re_comparison_42 ?_
    refine r_Vi (avL := [g_r 13 (some 1997)]) (st := []) hK ob_Re rfl w3_76 w3_77 w3_75 w3_78 w1_2 (by decide) pl_Re_accept (by rw [hD]; decide) (Nat.le_of_ble_eq_true rfl) rfl d_Re_comparison_45 (fun o9 h9 => c_Re_accept _ _ _ _ _ o9 h9) h (fun i10 s11 h => ?_)
    refine r_ifne (tgt := 81) hK d_Re_comparison_48 (by decide) h (fun h => ?_) (fun h => ?_)
    · exact r_sub [0, 1] rfl (t_Re_comparison_81 hK hN hD _ _ _ h)
    · refine r_aload_n hK d_Re_comparison_51 rfl 0 rfl ?_
      refine r_gsR hK (st_kind 35 (by decide)) (by decide) rfl w5_74 d_Re_comparison_52 ?_
      refine r_Vi (avL := [g_r 13 (some 2253)]) (st := []) hK ob_Re rfl w3_76 w3_77 w3_75 w3_78 w1_2 (by decide) pl_Re_accept (by rw [hD]; decide) (Nat.le_of_ble_eq_true rfl) rfl d_Re_comparison_55 (fun o9 h9 => c_Re_accept _ _ _ _ _ o9 h9) h (fun i12 s13 h => ?_)
      refine r_ifne (tgt := 81) hK d_Re_comparison_58 (by decide) h (fun h => ?_) (fun h => ?_)
      · exact r_sub [0, 1] rfl (t_Re_comparison_81 hK hN hD _ _ _ h)
      · refine r_aload_n hK d_Re_comparison_61 rfl 0 rfl ?_
        refine r_gsR hK (st_kind 32 (by decide)) (by decide) rfl w5_76 d_Re_comparison_62 ?_
        refine r_Vi (avL := [g_r 13 (some 2061)]) (st := []) hK ob_Re rfl w3_76 w3_77 w3_75 w3_78 w1_2 (by decide) pl_Re_accept (by rw [hD]; decide) (Nat.le_of_ble_eq_true rfl) rfl d_Re_comparison_65 (fun o9 h9 => c_Re_accept _ _ _ _ _ o9 h9) h (fun i14 s15 h => ?_)
        refine r_ifne (tgt := 81) hK d_Re_comparison_68 (by decide) h (fun h => ?_) (fun h => ?_)
        · exact r_sub [0, 1] rfl (t_Re_comparison_81 hK hN hD _ _ _ h)
        · refine r_aload_n hK d_Re_comparison_71 rfl 0 rfl ?_
          refine r_gsR hK (st_kind 33 (by decide)) (by decide) rfl w5_78 d_Re_comparison_72 ?_
          refine r_Vi (avL := [g_r 13 (some 2125)]) (st := []) hK ob_Re rfl w3_76 w3_77 w3_75 w3_78 w1_2 (by decide) pl_Re_accept (by rw [hD]; decide) (Nat.le_of_ble_eq_true rfl) rfl d_Re_comparison_75 (fun o9 h9 => c_Re_accept _ _ _ _ _ o9 h9) h (fun i16 s17 h => ?_)
          refine r_ifeq (tgt := 92) hK d_Re_comparison_78 (by decide) h (fun h => ?_) (fun h => ?_)
          · refine r_aload_n hK d_Re_comparison_92 rfl 0 rfl ?_
            refine r_iconst (v := 1) hK d_Re_comparison_93 (by decide) ?_
            refine r_pZ hK fd_Re_6 rfl w1_64 d_Re_comparison_94 h (fun s18 h => ?_)
            exact r_return hK d_Re_comparison_97 h
          · exact r_sub [0, 1] rfl (t_Re_comparison_81 hK hN hD _ _ _ h)
  · refine r_aload_n hK d_Re_comparison_31 rfl 0 rfl ?_
    refine r_gsR hK (st_kind 10 (by decide)) (by decide) rfl w4_116 d_Re_comparison_32 ?_
    refine r_Vv (avL := [g_r 13 (some 653)]) (st := []) hK ob_Re rfl w3_192 w3_193 w3_191 w3_194 w1_2 (by decide) pl_Re_expect (by rw [hD]; decide) (Nat.le_of_ble_eq_true rfl) rfl d_Re_comparison_35 (fun o9 h9 => c_Re_expect _ _ _ _ _ o9 h9) h (fun s20 h => ?_)
    refine r_goto (tgt := 97) hK d_Re_comparison_38 (by decide) ?_
    exact r_return hK d_Re_comparison_97 h
theorem c_Re_comparison (l : Launch) (G : g_G) (r0 : Option Nat) (r1 : Option Nat) (u : g_St) (o : (Unit × g_St)) (h : f_Re_comparison r0 r1 u = some o) : g_Con l G y_Re_comparison b_Re_comparison 2 (Option.none : Option Jvm.ClassFile.FieldType) 15 [g_r 2 r0, g_r 10 r1] u (g_jV o) :=
  g_Con.of rfl rfl (by decide +kernel) (Nat.le_of_ble_eq_true rfl) (fun K hK hN hD hX => t_Re_comparison_0 hK hN hD _ _ _ h)
def f_Re_condition_209 (r0 : Option Nat) (r1 : Option Nat) (s0 : g_St) : Option (Option Nat × g_St) :=
  g_c (g_nn r0 (f_Re_expect r0 (some 1741) s0)) fun _ s2 =>
  g_pR s2 578 r0 none fun s3 =>
  some (r1, s3)
def f_Re_condition_141 : Nat → Option Nat → Option Nat → Int32 → Int32 → g_St → Option (Option Nat × g_St)
  | 0, _, _, _, _, _ => none
  | n + 1, r0, r1, x2, x3, s0 =>
    if 3 ≤ x3 then
      f_Re_condition_209 r0 r1 s0
    else
      if x2 = 0 then
        f_Re_condition_209 r0 r1 s0
      else
        g_gR s0 266 r1 fun p1 =>
        g_new s0 10 7 fun p2 s3 =>
        g_c (g_nn p2 (f_Co_init p2 s3)) fun _ s5 =>
        g_sR s5 p1 x3 p2 fun s6 =>
        g_pI s6 330 r1 (x3 + 1) fun s7 =>
        g_gR s7 266 r1 fun p8 =>
        g_aR s7 p8 x3 fun p9 =>
        g_c (g_nn r0 (f_Re_comparison r0 p9 s7)) fun _ s11 =>
        if 3 ≤ (x3 + 1) then
          f_Re_condition_141 n r0 r1 0 (x3 + 1) s11
        else
          g_c (g_nn r0 (f_Re_accept r0 (some 397) s11)) fun i12 s13 =>
          if i12 = 0 then
            f_Re_condition_141 n r0 r1 0 (x3 + 1) s13
          else
            f_Re_condition_141 n r0 r1 1 (x3 + 1) s13
def f_Re_condition_105 (r0 : Option Nat) (r1 : Option Nat) (r0s : Option Nat) (x1s : Int32) (s0 : g_St) : Option (Option Nat × g_St) :=
  g_pZ s0 386 r0s x1s fun s1 =>
  g_c (g_nn r0 (f_Re_expect r0 (some 2381) s1)) fun _ s3 =>
  g_c (g_nn r0 (f_Re_expect r0 (some 269) s3)) fun _ s5 =>
  g_c (g_nn r0 (f_Re_source r0 (-1) s5)) fun p6 s7 =>
  g_pR s7 202 r1 p6 fun s8 =>
  g_c (g_nn r0 (f_Re_accept r0 (some 333) s8)) fun i9 s10 =>
  f_Re_condition_141 200000 r0 r1 i9 0 s10
def f_Re_condition (r0 : Option Nat) (s0 : g_St) : Option (Option Nat × g_St) :=
  g_new s0 10 7 fun p1 s2 =>
  g_c (g_nn p1 (f_Co_init p1 s2)) fun _ s4 =>
  g_pR s4 578 r0 p1 fun s5 =>
  g_c (g_nn r0 (f_Re_accept r0 (some 461) s5)) fun i6 s7 =>
  if i6 = 0 then
    g_c (g_nn r0 (f_Re_comparison r0 p1 s7)) fun _ s23 =>
    g_pR s23 578 r0 none fun s24 =>
    some (p1, s24)
  else
    g_pR s7 10 p1 (some 525) fun s8 =>
    g_c (g_nn r0 (f_Re_expect r0 (some 525) s8)) fun _ s10 =>
    g_c (g_nn r0 (f_Re_expect r0 (some 1677) s10)) fun _ s12 =>
    g_c (g_nn r0 (f_Re_expect r0 (some 205) s12)) fun _ s14 =>
    g_gI s14 386 r0 fun i15 =>
    if i15 = 0 then
      g_gR s14 130 r0 fun p16 =>
      g_gI s14 322 r0 fun i17 =>
      g_aR s14 p16 i17 fun p18 =>
      if p18 = (some 2381) then
        g_gR s14 258 r0 fun p19 =>
        g_gI s14 322 r0 fun i20 =>
        g_aL s14 p19 i20 fun j21 =>
        if j21 = 1 then
          f_Re_condition_105 r0 p1 r0 0 s14
        else
          f_Re_condition_105 r0 p1 r0 1 s14
      else
        f_Re_condition_105 r0 p1 r0 1 s14
    else
      f_Re_condition_105 r0 p1 r0 1 s14
set_option maxHeartbeats 4000000 in
set_option maxRecDepth 100000 in
theorem t_Re_condition_209 {K : g_C} {o : (Option Nat × g_St)} (hK : g_OK K b_Re_condition "FixpointEngine$Reader" "condition" (Option.some (Jvm.ClassFile.FieldType.object "FixpointEngine$Condition"))) (hN : g_nL K = 4) (hD : g_Kd K = 16) : ∀ (r0 : Option Nat) (r1 : Option Nat) (s0 : g_St), f_Re_condition_209 r0 r1 s0 = some o → g_W K s0 [(0, g_r 2 r0), (1, g_r 10 r1)] [] 209 (g_jR 10 o) := by
  intro r0 r1 s0 h
  unfold f_Re_condition_209 at h
  refine r_aload_n hK d_Re_condition_209 rfl 0 rfl ?_
  refine r_gsR hK (st_kind 27 (by decide)) (by decide) rfl w3_201 d_Re_condition_210 ?_
  refine r_Vv (avL := [g_r 13 (some 1741)]) (st := []) hK ob_Re rfl w3_192 w3_193 w3_191 w3_194 w1_2 (by decide) pl_Re_expect (by rw [hD]; decide) (Nat.le_of_ble_eq_true rfl) rfl d_Re_condition_213 (fun o9 h9 => c_Re_expect _ _ _ _ _ o9 h9) h (fun s2 h => ?_)
  refine r_aload_n hK d_Re_condition_216 rfl 0 rfl ?_
  refine r_null hK 10 d_Re_condition_217 ?_
  refine r_pR hK pd_10 rfl (Or.inr rfl) fd_Re_9 rfl w1_67 d_Re_condition_218 h (fun s3 h => ?_)
  refine r_aload_n hK d_Re_condition_221 rfl 1 rfl ?_
  exact r_areturn (Or.inl ⟨_, rfl⟩) hK d_Re_condition_222 h
set_option maxHeartbeats 4000000 in
set_option maxRecDepth 100000 in
theorem t_Re_condition_141 {K : g_C} {o : (Option Nat × g_St)} (hK : g_OK K b_Re_condition "FixpointEngine$Reader" "condition" (Option.some (Jvm.ClassFile.FieldType.object "FixpointEngine$Condition"))) (hN : g_nL K = 4) (hD : g_Kd K = 16) : ∀ (n : Nat) (r0 : Option Nat) (r1 : Option Nat) (x2 : Int32) (x3 : Int32) (s0 : g_St), f_Re_condition_141 n r0 r1 x2 x3 s0 = some o → g_W K s0 [(0, g_r 2 r0), (1, g_r 10 r1), (2, g_i x2), (3, g_i x3)] [] 141 (g_jR 10 o) := by
  intro n
  induction n with
  | zero =>
    intro r0 r1 x2 x3 s0 h
    cases h
  | succ n ih =>
    intro r0 r1 x2 x3 s0 h
    unfold f_Re_condition_141 at h
    refine r_iload_n hK d_Re_condition_141 rfl 3 rfl ?_
    refine r_iconst (v := 3) hK d_Re_condition_142 (by decide) ?_
    refine r_if_icmpge (tgt := 209) hK d_Re_condition_143 (by decide) h (fun h => ?_) (fun h => ?_)
    · exact r_sub [0, 1] rfl (t_Re_condition_209 hK hN hD _ _ _ h)
    · refine r_iload_n hK d_Re_condition_146 rfl 2 rfl ?_
      refine r_ifeq (tgt := 209) hK d_Re_condition_147 (by decide) h (fun h => ?_) (fun h => ?_)
      · exact r_sub [0, 1] rfl (t_Re_condition_209 hK hN hD _ _ _ h)
      · refine r_aload_n hK d_Re_condition_150 rfl 1 rfl ?_
        refine r_gR hK fd_Co_4 w5_44 d_Re_condition_151 h (fun p1 h => ?_)
        refine r_iload_n hK d_Re_condition_154 rfl 3 rfl ?_
        refine r_new hK ob_Co rfl rfl w5_24 w5_25 w1_30 d_Re_condition_155 h (fun p2 s3 h => ?_)
        refine r_dup hK d_Re_condition_158 rfl ?_
        refine r_INv (avL := []) (st := [g_r 10 p2, g_i x3, g_r 28 p1]) hK rfl w5_27 w5_26 w5_28 w1_30 (by decide) pl_Co_init (by rw [hD]; decide) (Nat.le_of_ble_eq_true rfl) rfl d_Re_condition_159 (fun o9 h9 => c_Co_init _ _ _ _ o9 h9) h (fun s5 h => ?_)
        refine r_aastore hK el_28 ar_28 rfl d_Re_condition_162 h (fun s6 h => ?_)
        refine r_aload_n hK d_Re_condition_163 rfl 1 rfl ?_
        refine r_iload_n hK d_Re_condition_164 rfl 3 rfl ?_
        refine r_iconst (v := 1) hK d_Re_condition_165 (by decide) ?_
        refine r_iadd hK d_Re_condition_166 ?_
        refine r_pI hK fd_Co_5 rfl w5_46 d_Re_condition_167 h (fun s7 h => ?_)
        refine r_aload_n hK d_Re_condition_170 rfl 0 rfl ?_
        refine r_aload_n hK d_Re_condition_171 rfl 1 rfl ?_
        refine r_gR hK fd_Co_4 w5_44 d_Re_condition_172 h (fun p8 h => ?_)
        refine r_iload_n hK d_Re_condition_175 rfl 3 rfl ?_
        refine r_aaload hK rfl ar_28 rfl d_Re_condition_176 h (fun p9 h => ?_)
        refine r_Vv (avL := [g_r 10 p9]) (st := []) hK ob_Re rfl w5_67 w5_68 w5_66 w5_69 w1_2 (by decide) pl_Re_comparison (by rw [hD]; decide) (Nat.le_of_ble_eq_true rfl) rfl d_Re_condition_177 (fun o9 h9 => c_Re_comparison _ _ _ _ _ o9 h9) h (fun s11 h => ?_)
        refine r_iload_n hK d_Re_condition_180 rfl 3 rfl ?_
        refine r_iconst (v := 1) hK d_Re_condition_181 (by decide) ?_
        refine r_iadd hK d_Re_condition_182 ?_
        refine r_iconst (v := 3) hK d_Re_condition_183 (by decide) ?_
        refine r_if_icmpge (tgt := 201) hK d_Re_condition_184 (by decide) h (fun h => ?_) (fun h => ?_)
        · refine r_iconst (v := 0) hK d_Re_condition_201 (by decide) ?_
          refine r_istore_n (ls1 := [(2, g_i 0), (0, g_r 2 r0), (1, g_r 10 r1), (3, g_i x3)]) hK d_Re_condition_202 rfl (by rw [hN]; decide) rfl ?_
          refine r_iinc (ls1 := [(3, g_i (x3 + 1)), (2, g_i 0), (0, g_r 2 r0), (1, g_r 10 r1)]) hK d_Re_condition_203 3 rfl rfl (by rw [hN]; decide) rfl ?_
          refine r_goto (tgt := 141) hK d_Re_condition_206 (by decide) ?_
          exact r_sub [2, 3, 1, 0] rfl (ih _ _ _ _ _ h)
        · refine r_aload_n hK d_Re_condition_187 rfl 0 rfl ?_
          refine r_gsR hK (st_kind 6 (by decide)) (by decide) rfl w5_82 d_Re_condition_188 ?_
          refine r_Vi (avL := [g_r 13 (some 397)]) (st := []) hK ob_Re rfl w3_76 w3_77 w3_75 w3_78 w1_2 (by decide) pl_Re_accept (by rw [hD]; decide) (Nat.le_of_ble_eq_true rfl) rfl d_Re_condition_191 (fun o9 h9 => c_Re_accept _ _ _ _ _ o9 h9) h (fun i12 s13 h => ?_)
          refine r_ifeq (tgt := 201) hK d_Re_condition_194 (by decide) h (fun h => ?_) (fun h => ?_)
          · refine r_iconst (v := 0) hK d_Re_condition_201 (by decide) ?_
            refine r_istore_n (ls1 := [(2, g_i 0), (0, g_r 2 r0), (1, g_r 10 r1), (3, g_i x3)]) hK d_Re_condition_202 rfl (by rw [hN]; decide) rfl ?_
            refine r_iinc (ls1 := [(3, g_i (x3 + 1)), (2, g_i 0), (0, g_r 2 r0), (1, g_r 10 r1)]) hK d_Re_condition_203 3 rfl rfl (by rw [hN]; decide) rfl ?_
            refine r_goto (tgt := 141) hK d_Re_condition_206 (by decide) ?_
            exact r_sub [2, 3, 1, 0] rfl (ih _ _ _ _ _ h)
          · refine r_iconst (v := 1) hK d_Re_condition_197 (by decide) ?_
            refine r_goto (tgt := 202) hK d_Re_condition_198 (by decide) ?_
            refine r_istore_n (ls1 := [(2, g_i 1), (0, g_r 2 r0), (1, g_r 10 r1), (3, g_i x3)]) hK d_Re_condition_202 rfl (by rw [hN]; decide) rfl ?_
            refine r_iinc (ls1 := [(3, g_i (x3 + 1)), (2, g_i 1), (0, g_r 2 r0), (1, g_r 10 r1)]) hK d_Re_condition_203 3 rfl rfl (by rw [hN]; decide) rfl ?_
            refine r_goto (tgt := 141) hK d_Re_condition_206 (by decide) ?_
            exact r_sub [2, 3, 1, 0] rfl (ih _ _ _ _ _ h)
set_option maxHeartbeats 4000000 in
set_option maxRecDepth 100000 in
theorem t_Re_condition_105 {K : g_C} {o : (Option Nat × g_St)} (hK : g_OK K b_Re_condition "FixpointEngine$Reader" "condition" (Option.some (Jvm.ClassFile.FieldType.object "FixpointEngine$Condition"))) (hN : g_nL K = 4) (hD : g_Kd K = 16) : ∀ (r0 : Option Nat) (r1 : Option Nat) (r0s : Option Nat) (x1s : Int32) (s0 : g_St), f_Re_condition_105 r0 r1 r0s x1s s0 = some o → g_W K s0 [(0, g_r 2 r0), (1, g_r 10 r1)] [g_i x1s, g_r 2 r0s] 105 (g_jR 10 o) := by
  intro r0 r1 r0s x1s s0 h
  unfold f_Re_condition_105 at h
  refine r_pZ hK fd_Re_6 rfl w1_64 d_Re_condition_105 h (fun s1 h => ?_)
  refine r_aload_n hK d_Re_condition_108 rfl 0 rfl ?_
  refine r_gsR hK (st_kind 37 (by decide)) (by decide) rfl w2_162 d_Re_condition_109 ?_
  refine r_Vv (avL := [g_r 13 (some 2381)]) (st := []) hK ob_Re rfl w3_192 w3_193 w3_191 w3_194 w1_2 (by decide) pl_Re_expect (by rw [hD]; decide) (Nat.le_of_ble_eq_true rfl) rfl d_Re_condition_112 (fun o9 h9 => c_Re_expect _ _ _ _ _ o9 h9) h (fun s3 h => ?_)
  refine r_aload_n hK d_Re_condition_115 rfl 0 rfl ?_
  refine r_gsR hK (st_kind 4 (by decide)) (by decide) rfl w4_192 d_Re_condition_116 ?_
  refine r_Vv (avL := [g_r 13 (some 269)]) (st := []) hK ob_Re rfl w3_192 w3_193 w3_191 w3_194 w1_2 (by decide) pl_Re_expect (by rw [hD]; decide) (Nat.le_of_ble_eq_true rfl) rfl d_Re_condition_119 (fun o9 h9 => c_Re_expect _ _ _ _ _ o9 h9) h (fun s5 h => ?_)
  refine r_aload_n hK d_Re_condition_122 rfl 1 rfl ?_
  refine r_aload_n hK d_Re_condition_123 rfl 0 rfl ?_
  refine r_iconst (v := (-1)) hK d_Re_condition_124 (by decide) ?_
  refine r_Vr (avL := [g_i (-1)]) (st := [g_r 10 r1]) hK ob_Re rfl w4_195 w4_196 w4_194 w4_197 w1_2 (by decide) pl_Re_source (by rw [hD]; decide) (Nat.le_of_ble_eq_true rfl) rfl d_Re_condition_125 (fun o9 h9 => c_Re_source _ _ _ _ _ o9 h9) h (fun p6 s7 h => ?_)
  refine r_pR hK pd_9 rfl (Or.inr rfl) fd_Co_3 rfl w5_41 d_Re_condition_128 h (fun s8 h => ?_)
  refine r_aload_n hK d_Re_condition_131 rfl 0 rfl ?_
  refine r_gsR hK (st_kind 5 (by decide)) (by decide) rfl w5_18 d_Re_condition_132 ?_
  refine r_Vi (avL := [g_r 13 (some 333)]) (st := []) hK ob_Re rfl w3_76 w3_77 w3_75 w3_78 w1_2 (by decide) pl_Re_accept (by rw [hD]; decide) (Nat.le_of_ble_eq_true rfl) rfl d_Re_condition_135 (fun o9 h9 => c_Re_accept _ _ _ _ _ o9 h9) h (fun i9 s10 h => ?_)
  refine r_istore_n (ls1 := [(2, g_i i9), (0, g_r 2 r0), (1, g_r 10 r1)]) hK d_Re_condition_138 rfl (by rw [hN]; decide) rfl ?_
  refine r_iconst (v := 0) hK d_Re_condition_139 (by decide) ?_
  refine r_istore_n (ls1 := [(3, g_i 0), (2, g_i i9), (0, g_r 2 r0), (1, g_r 10 r1)]) hK d_Re_condition_140 rfl (by rw [hN]; decide) rfl ?_
  exact r_sub [2, 3, 1, 0] rfl (t_Re_condition_141 hK hN hD _ _ _ _ _ _ h)
set_option maxHeartbeats 4000000 in
set_option maxRecDepth 100000 in
theorem t_Re_condition_0 {K : g_C} {o : (Option Nat × g_St)} (hK : g_OK K b_Re_condition "FixpointEngine$Reader" "condition" (Option.some (Jvm.ClassFile.FieldType.object "FixpointEngine$Condition"))) (hN : g_nL K = 4) (hD : g_Kd K = 16) : ∀ (r0 : Option Nat) (s0 : g_St), f_Re_condition r0 s0 = some o → g_W K s0 [(0, g_r 2 r0)] [] 0 (g_jR 10 o) := by
  intro r0 s0 h
  unfold f_Re_condition at h
  refine r_new hK ob_Co rfl rfl w5_24 w5_25 w1_30 d_Re_condition_0 h (fun p1 s2 h => ?_)
  refine r_dup hK d_Re_condition_3 rfl ?_
  refine r_INv (avL := []) (st := [g_r 10 p1]) hK rfl w5_27 w5_26 w5_28 w1_30 (by decide) pl_Co_init (by rw [hD]; decide) (Nat.le_of_ble_eq_true rfl) rfl d_Re_condition_4 (fun o9 h9 => c_Co_init _ _ _ _ o9 h9) h (fun s4 h => ?_)
  refine r_astore_n (ls1 := [(1, g_r 10 p1), (0, g_r 2 r0)]) hK d_Re_condition_7 rfl (by rw [hN]; decide) rfl ?_
  refine r_aload_n hK d_Re_condition_8 rfl 1 rfl ?_
  refine r_aload_n hK d_Re_condition_9 rfl 0 rfl ?_
  refine r_pR hK pd_10 rfl (Or.inr rfl) fd_Re_9 rfl w1_67 d_Re_condition_10 h (fun s5 h => ?_)
  refine r_aload_n hK d_Re_condition_13 rfl 1 rfl ?_
  refine r_gsR hK (st_kind 7 (by decide)) (by decide) rfl w5_64 d_Re_condition_14 ?_
  refine r_Vi (avL := [g_r 13 (some 461)]) (st := []) hK ob_Re rfl w3_76 w3_77 w3_75 w3_78 w1_2 (by decide) pl_Re_accept (by rw [hD]; decide) (Nat.le_of_ble_eq_true rfl) rfl d_Re_condition_17 (fun o9 h9 => c_Re_accept _ _ _ _ _ o9 h9) h (fun i6 s7 h => ?_)
  refine r_ifne (tgt := 35) hK d_Re_condition_20 (by decide) h (fun h => ?_) (fun h => ?_)
  · refine r_aload_n hK d_Re_condition_35 rfl 0 rfl ?_
    refine r_gsR hK (st_kind 8 (by decide)) (by decide) rfl w5_80 d_Re_condition_36 ?_
    refine r_pR hK pd_13 rfl (Or.inr rfl) fd_Co_0 rfl w5_34 d_Re_condition_39 h (fun s8 h => ?_)
    refine r_aload_n hK d_Re_condition_42 rfl 1 rfl ?_
    refine r_gsR hK (st_kind 8 (by decide)) (by decide) rfl w5_80 d_Re_condition_43 ?_
    refine r_Vv (avL := [g_r 13 (some 525)]) (st := []) hK ob_Re rfl w3_192 w3_193 w3_191 w3_194 w1_2 (by decide) pl_Re_expect (by rw [hD]; decide) (Nat.le_of_ble_eq_true rfl) rfl d_Re_condition_46 (fun o9 h9 => c_Re_expect _ _ _ _ _ o9 h9) h (fun s10 h => ?_)
    refine r_aload_n hK d_Re_condition_49 rfl 1 rfl ?_
    refine r_gsR hK (st_kind 26 (by decide)) (by decide) rfl w3_189 d_Re_condition_50 ?_
    refine r_Vv (avL := [g_r 13 (some 1677)]) (st := []) hK ob_Re rfl w3_192 w3_193 w3_191 w3_194 w1_2 (by decide) pl_Re_expect (by rw [hD]; decide) (Nat.le_of_ble_eq_true rfl) rfl d_Re_condition_53 (fun o9 h9 => c_Re_expect _ _ _ _ _ o9 h9) h (fun s12 h => ?_)
    refine r_aload_n hK d_Re_condition_56 rfl 1 rfl ?_
    refine r_gsR hK (st_kind 3 (by decide)) (by decide) rfl w4_40 d_Re_condition_57 ?_
    refine r_Vv (avL := [g_r 13 (some 205)]) (st := []) hK ob_Re rfl w3_192 w3_193 w3_191 w3_194 w1_2 (by decide) pl_Re_expect (by rw [hD]; decide) (Nat.le_of_ble_eq_true rfl) rfl d_Re_condition_60 (fun o9 h9 => c_Re_expect _ _ _ _ _ o9 h9) h (fun s14 h => ?_)
    refine r_aload_n hK d_Re_condition_63 rfl 1 rfl ?_
    refine r_aload_n hK d_Re_condition_64 rfl 1 rfl ?_
    refine r_gI hK fd_Re_6 w1_64 d_Re_condition_65 h (fun i15 h => ?_)
    refine r_ifne (tgt := 100) hK d_Re_condition_68 (by decide) h (fun h => ?_) (fun h => ?_)
    · refine r_iconst (v := 1) hK d_Re_condition_100 (by decide) ?_
      refine r_goto (tgt := 105) hK d_Re_condition_101 (by decide) ?_
      exact r_sub [1, 0] rfl (t_Re_condition_105 hK hN hD _ _ _ _ _ h)
    · refine r_aload_n hK d_Re_condition_71 rfl 1 rfl ?_
      refine r_gR hK fd_Re_2 w1_60 d_Re_condition_72 h (fun p16 h => ?_)
      refine r_aload_n hK d_Re_condition_75 rfl 1 rfl ?_
      refine r_gI hK fd_Re_5 w1_63 d_Re_condition_76 h (fun i17 h => ?_)
      refine r_aaload hK rfl ar_23 rfl d_Re_condition_79 h (fun p18 h => ?_)
      refine r_gsR hK (st_kind 37 (by decide)) (by decide) rfl w2_162 d_Re_condition_80 ?_
      refine r_if_acmpne (tgt := 100) hK (by decide) (by decide) d_Re_condition_83 (by decide) h (fun h => ?_) (fun h => ?_)
      · refine r_iconst (v := 1) hK d_Re_condition_100 (by decide) ?_
        refine r_goto (tgt := 105) hK d_Re_condition_101 (by decide) ?_
        exact r_sub [1, 0] rfl (t_Re_condition_105 hK hN hD _ _ _ _ _ h)
      · refine r_aload_n hK d_Re_condition_86 rfl 1 rfl ?_
        refine r_gR hK fd_Re_4 w1_62 d_Re_condition_87 h (fun p19 h => ?_)
        refine r_aload_n hK d_Re_condition_90 rfl 1 rfl ?_
        refine r_gI hK fd_Re_5 w1_63 d_Re_condition_91 h (fun i20 h => ?_)
        refine r_laload hK ar_21 rfl d_Re_condition_94 h (fun j21 h => ?_)
        refine r_lconst (v := 1) hK d_Re_condition_95 (by decide) ?_
        refine r_lifeq (tgt := 104) hK d_Re_condition_96 d_Re_condition_97 (by decide) h (fun h => ?_) (fun h => ?_)
        · refine r_iconst (v := 0) hK d_Re_condition_104 (by decide) ?_
          exact r_sub [1, 0] rfl (t_Re_condition_105 hK hN hD _ _ _ _ _ h)
        · refine r_iconst (v := 1) hK d_Re_condition_100 (by decide) ?_
          refine r_goto (tgt := 105) hK d_Re_condition_101 (by decide) ?_
          exact r_sub [1, 0] rfl (t_Re_condition_105 hK hN hD _ _ _ _ _ h)
  · refine r_aload_n hK d_Re_condition_23 rfl 1 rfl ?_
    refine r_aload_n hK d_Re_condition_24 rfl 0 rfl ?_
    refine r_Vv (avL := [g_r 10 p1]) (st := []) hK ob_Re rfl w5_67 w5_68 w5_66 w5_69 w1_2 (by decide) pl_Re_comparison (by rw [hD]; decide) (Nat.le_of_ble_eq_true rfl) rfl d_Re_condition_25 (fun o9 h9 => c_Re_comparison _ _ _ _ _ o9 h9) h (fun s23 h => ?_)
    refine r_aload_n hK d_Re_condition_28 rfl 1 rfl ?_
    refine r_null hK 10 d_Re_condition_29 ?_
    refine r_pR hK pd_10 rfl (Or.inr rfl) fd_Re_9 rfl w1_67 d_Re_condition_30 h (fun s24 h => ?_)
    refine r_aload_n hK d_Re_condition_33 rfl 0 rfl ?_
    exact r_areturn (Or.inl ⟨_, rfl⟩) hK d_Re_condition_34 h
theorem c_Re_condition (l : Launch) (G : g_G) (r0 : Option Nat) (u : g_St) (o : (Option Nat × g_St)) (h : f_Re_condition r0 u = some o) : g_Con l G y_Re_condition b_Re_condition 4 (Option.some (Jvm.ClassFile.FieldType.object "FixpointEngine$Condition")) 16 [g_r 2 r0] u (g_jR 10 o) :=
  g_Con.of rfl rfl (by decide +kernel) (Nat.le_of_ble_eq_true rfl) (fun K hK hN hD hX => t_Re_condition_0 hK hN hD _ _ h)
