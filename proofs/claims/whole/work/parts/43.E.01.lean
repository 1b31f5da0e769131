def f_E_init (r0 : Option Nat) (s0 : g_St) : Option (Unit × g_St) :=
  g_nn r0 (
  g_newA s0 29 5 fun p1 s2 =>
  g_pR s2 0 r0 p1 fun s3 =>
  g_new s3 2 10 fun p4 s5 =>
  g_c (g_nn p4 (f_Re_init p4 s5)) fun _ s7 =>
  g_pR s7 128 r0 p4 fun s8 =>
  g_new s8 3 4 fun p9 s10 =>
  g_c (g_nn p9 (f_Ch_init p9 s10)) fun _ s12 =>
  g_pR s12 192 r0 p9 fun s13 =>
  g_new s13 4 18 fun p14 s15 =>
  g_c (g_nn p14 (f_Ru_init p14 s15)) fun _ s17 =>
  g_pR s17 256 r0 p14 fun s18 =>
  g_pI s18 64 r0 0 fun s19 =>
  g_pR s19 320 r0 none fun s20 =>
  g_pI s20 384 r0 0 fun s21 =>
  g_pZ s21 448 r0 0 fun s22 =>
  some ((), s22))
set_option maxHeartbeats 4000000 in
set_option maxRecDepth 100000 in
theorem t_E_init_0 {K : g_C} {o : (Unit × g_St)} (hK : g_OK K b_E_init "FixpointEngine" "<init>" (Option.none : Option Jvm.ClassFile.FieldType)) (hN : g_nL K = 1) (hD : g_Kd K = 4) : ∀ (r0 : Option Nat) (s0 : g_St), f_E_init r0 s0 = some o → g_W K s0 [(0, g_r 0 r0)] [] 0 (g_jV o) := by
  intro r0 s0 h
  unfold f_E_init at h
  refine r_aload_n hK d_E_init_0 rfl 0 rfl ?_
  refine r_objinit hK w1_44 (by rw [hD]; decide) (Nat.le_of_ble_eq_true rfl) d_E_init_1 h (fun h => ?_)
  refine r_aload_n hK d_E_init_4 rfl 0 rfl ?_
  refine r_iconst (v := 5) hK d_E_init_5 (by decide) ?_
  refine r_anewarray hK rfl w1_47 w1_48 ar_29 d_E_init_6 h (fun p1 s2 h => ?_)
  refine r_pRF hK pd_29 rfl (Or.inr rfl) fd_E_0 rfl w1_212 d_E_init_9 h (fun s3 h => ?_)
  refine r_aload_n hK d_E_init_12 rfl 0 rfl ?_
  refine r_new hK ob_Re rfl rfl w1_49 w1_50 w1_2 d_E_init_13 h (fun p4 s5 h => ?_)
  refine r_dup hK d_E_init_16 rfl ?_
  refine r_INv (avL := []) (st := [g_r 2 p4, g_r 0 r0]) hK rfl w1_52 w1_51 w1_53 w1_2 (by decide) pl_Re_init (by rw [hD]; decide) (Nat.le_of_ble_eq_true rfl) rfl d_E_init_17 (fun o9 h9 => c_Re_init _ _ _ _ o9 h9) h (fun s7 h => ?_)
  refine r_pRF hK pd_2 rfl (Or.inr rfl) fd_E_2 rfl w1_214 d_E_init_20 h (fun s8 h => ?_)
  refine r_aload_n hK d_E_init_23 rfl 0 rfl ?_
  refine r_new hK ob_Ch rfl rfl w1_92 w1_93 w1_3 d_E_init_24 h (fun p9 s10 h => ?_)
  refine r_dup hK d_E_init_27 rfl ?_
  refine r_INv (avL := []) (st := [g_r 3 p9, g_r 0 r0]) hK rfl w1_95 w1_94 w1_96 w1_3 (by decide) pl_Ch_init (by rw [hD]; decide) (Nat.le_of_ble_eq_true rfl) rfl d_E_init_28 (fun o9 h9 => c_Ch_init _ _ _ _ o9 h9) h (fun s12 h => ?_)
  refine r_pRF hK pd_3 rfl (Or.inr rfl) fd_E_3 rfl w1_215 d_E_init_31 h (fun s13 h => ?_)
  refine r_aload_n hK d_E_init_34 rfl 0 rfl ?_
  refine r_new hK ob_Ru rfl rfl w1_111 w1_112 w1_4 d_E_init_35 h (fun p14 s15 h => ?_)
  refine r_dup hK d_E_init_38 rfl ?_
  refine r_Iv (avL := []) (st := [g_r 4 p14, g_r 0 r0]) hK rfl w1_114 w1_113 w1_115 w1_4 (by decide) pl_Ru_init (by rw [hD]; decide) (Nat.le_of_ble_eq_true rfl) rfl d_E_init_39 (fun o9 h9 => c_Ru_init _ _ _ _ o9 h9) h (fun s17 h => ?_)
  refine r_pRF hK pd_4 rfl (Or.inr rfl) fd_E_4 rfl w1_216 d_E_init_42 h (fun s18 h => ?_)
  refine r_aload_n hK d_E_init_45 rfl 0 rfl ?_
  refine r_iconst (v := 0) hK d_E_init_46 (by decide) ?_
  refine r_pI hK fd_E_1 rfl w1_213 d_E_init_47 h (fun s19 h => ?_)
  refine r_aload_n hK d_E_init_50 rfl 0 rfl ?_
  refine r_null hK 6 d_E_init_51 ?_
  refine r_pR hK pd_6 rfl (Or.inr rfl) fd_E_5 rfl w1_217 d_E_init_52 h (fun s20 h => ?_)
  refine r_aload_n hK d_E_init_55 rfl 0 rfl ?_
  refine r_iconst (v := 0) hK d_E_init_56 (by decide) ?_
  refine r_pI hK fd_E_6 rfl w1_218 d_E_init_57 h (fun s21 h => ?_)
  refine r_aload_n hK d_E_init_60 rfl 0 rfl ?_
  refine r_iconst (v := 0) hK d_E_init_61 (by decide) ?_
  refine r_pZ hK fd_E_7 rfl w1_219 d_E_init_62 h (fun s22 h => ?_)
  exact r_return hK d_E_init_65 h
theorem c_E_init (l : Launch) (G : g_G) (r0 : Option Nat) (u : g_St) (o : (Unit × g_St)) (h : f_E_init r0 u = some o) : g_Con l G y_E_init b_E_init 1 (Option.none : Option Jvm.ClassFile.FieldType) 4 [g_r 0 r0] u (g_jV o) :=
  g_Con.of rfl rfl (by decide +kernel) (Nat.le_of_ble_eq_true rfl) (fun K hK hN hD => t_E_init_0 hK hN hD _ _ h)
def f_E_text_71 (r0 : Option Nat) (x6 : Int32) (x0s : Int32) (s0 : g_St) : Option (Int32 × g_St) :=
  if x0s = 0 then
    g_gR s0 128 r0 fun p1 =>
    g_pI s0 66 p1 x6 fun s2 =>
    g_rZ x0s (some (x0s, s2))
  else
    g_rZ x0s (some (x0s, s0))
def f_E_text (r0 : Option Nat) (x1 : Int32) (x2 : Int32) (x3 : Int32) (x4 : Int32) (x5 : Int32) (s0 : g_St) : Option (Int32 × g_St) :=
  g_gR s0 128 r0 fun p1 =>
  g_gI s0 66 p1 fun i2 =>
  g_gR s0 128 r0 fun p3 =>
  g_c (g_nn p3 (f_Re_take p3 x1 s0)) fun i4 s5 =>
  if i4 = 0 then
    f_E_text_71 r0 i2 0 s5
  else
    g_gR s5 128 r0 fun p6 =>
    g_c (g_nn p6 (f_Re_take p6 x2 s5)) fun i7 s8 =>
    if i7 = 0 then
      f_E_text_71 r0 i2 0 s8
    else
      g_gR s8 128 r0 fun p9 =>
      g_c (g_nn p9 (f_Re_take p9 x3 s8)) fun i10 s11 =>
      if i10 = 0 then
        f_E_text_71 r0 i2 0 s11
      else
        g_gR s11 128 r0 fun p12 =>
        g_c (g_nn p12 (f_Re_take p12 x4 s11)) fun i13 s14 =>
        if i13 = 0 then
          f_E_text_71 r0 i2 0 s14
        else
          g_gR s14 128 r0 fun p15 =>
          g_c (g_nn p15 (f_Re_take p15 x5 s14)) fun i16 s17 =>
          if i16 = 0 then
            f_E_text_71 r0 i2 0 s17
          else
            f_E_text_71 r0 i2 1 s17
set_option maxHeartbeats 4000000 in
set_option maxRecDepth 100000 in
theorem t_E_text_71 {K : g_C} {o : (Int32 × g_St)} (hK : g_OK K b_E_text "FixpointEngine" "text" (Option.some Jvm.ClassFile.FieldType.boolean)) (hN : g_nL K = 8) (hD : g_Kd K = 2) : ∀ (r0 : Option Nat) (x6 : Int32) (x0s : Int32) (s0 : g_St), f_E_text_71 r0 x6 x0s s0 = some o → g_W K s0 [(0, g_r 0 r0), (6, g_i x6)] [g_i x0s] 71 (g_jI o) := by
  intro r0 x6 x0s s0 h
  unfold f_E_text_71 at h
  refine r_istore (ls1 := [(7, g_i x0s), (0, g_r 0 r0), (6, g_i x6)]) hK d_E_text_71 (by rw [hN]; decide) rfl ?_
  refine r_iload hK d_E_text_73 0 rfl ?_
  refine r_ifne (tgt := 87) hK d_E_text_75 (by decide) h (fun h => ?_) (fun h => ?_)
  · refine r_iload hK d_E_text_87 0 rfl ?_
    exact r_zreturn hK d_E_text_89 h
  · refine r_aload_n hK d_E_text_78 rfl 1 rfl ?_
    refine r_gR hK fd_E_2 w1_214 d_E_text_79 h (fun p1 h => ?_)
    refine r_iload hK d_E_text_82 2 rfl ?_
    refine r_pI hK fd_Re_1 rfl w1_59 d_E_text_84 h (fun s2 h => ?_)
    refine r_iload hK d_E_text_87 0 rfl ?_
    exact r_zreturn hK d_E_text_89 h
set_option maxHeartbeats 4000000 in
set_option maxRecDepth 100000 in
theorem t_E_text_0 {K : g_C} {o : (Int32 × g_St)} (hK : g_OK K b_E_text "FixpointEngine" "text" (Option.some Jvm.ClassFile.FieldType.boolean)) (hN : g_nL K = 8) (hD : g_Kd K = 2) : ∀ (r0 : Option Nat) (x1 : Int32) (x2 : Int32) (x3 : Int32) (x4 : Int32) (x5 : Int32) (s0 : g_St), f_E_text r0 x1 x2 x3 x4 x5 s0 = some o → g_W K s0 [(0, g_r 0 r0), (1, g_i x1), (2, g_i x2), (3, g_i x3), (4, g_i x4), (5, g_i x5)] [] 0 (g_jI o) := by
  intro r0 x1 x2 x3 x4 x5 s0 h
  unfold f_E_text at h
  refine r_aload_n hK d_E_text_0 rfl 0 rfl ?_
  refine r_gR hK fd_E_2 w1_214 d_E_text_1 h (fun p1 h => ?_)
  refine r_gI hK fd_Re_1 w1_59 d_E_text_4 h (fun i2 h => ?_)
  refine r_istore (ls1 := [(6, g_i i2), (0, g_r 0 r0), (1, g_i x1), (2, g_i x2), (3, g_i x3), (4, g_i x4), (5, g_i x5)]) hK d_E_text_7 (by rw [hN]; decide) rfl ?_
  refine r_aload_n hK d_E_text_9 rfl 1 rfl ?_
  refine r_gR hK fd_E_2 w1_214 d_E_text_10 h (fun p3 h => ?_)
  refine r_iload_n hK d_E_text_13 rfl 2 rfl ?_
  refine r_Vi (avL := [g_i x1]) (st := []) hK ob_Re rfl w2_2 w2_3 w2_1 w2_4 w1_2 (by decide) pl_Re_take (by rw [hD]; decide) (Nat.le_of_ble_eq_true rfl) rfl d_E_text_14 (fun o9 h9 => c_Re_take _ _ _ _ _ o9 h9) h (fun i4 s5 h => ?_)
  refine r_ifeq (tgt := 70) hK d_E_text_17 (by decide) h (fun h => ?_) (fun h => ?_)
  · refine r_iconst (v := 0) hK d_E_text_70 (by decide) ?_
    exact r_sub [1, 0] rfl (t_E_text_71 hK hN hD _ _ _ _ h)
  · refine r_aload_n hK d_E_text_20 rfl 1 rfl ?_
    refine r_gR hK fd_E_2 w1_214 d_E_text_21 h (fun p6 h => ?_)
    refine r_iload_n hK d_E_text_24 rfl 3 rfl ?_
    refine r_Vi (avL := [g_i x2]) (st := []) hK ob_Re rfl w2_2 w2_3 w2_1 w2_4 w1_2 (by decide) pl_Re_take (by rw [hD]; decide) (Nat.le_of_ble_eq_true rfl) rfl d_E_text_25 (fun o9 h9 => c_Re_take _ _ _ _ _ o9 h9) h (fun i7 s8 h => ?_)
    refine r_ifeq (tgt := 70) hK d_E_text_28 (by decide) h (fun h => ?_) (fun h => ?_)
    · refine r_iconst (v := 0) hK d_E_text_70 (by decide) ?_
      exact r_sub [1, 0] rfl (t_E_text_71 hK hN hD _ _ _ _ h)
    · refine r_aload_n hK d_E_text_31 rfl 1 rfl ?_
      refine r_gR hK fd_E_2 w1_214 d_E_text_32 h (fun p9 h => ?_)
      refine r_iload_n hK d_E_text_35 rfl 4 rfl ?_
      refine r_Vi (avL := [g_i x3]) (st := []) hK ob_Re rfl w2_2 w2_3 w2_1 w2_4 w1_2 (by decide) pl_Re_take (by rw [hD]; decide) (Nat.le_of_ble_eq_true rfl) rfl d_E_text_36 (fun o9 h9 => c_Re_take _ _ _ _ _ o9 h9) h (fun i10 s11 h => ?_)
      refine r_ifeq (tgt := 70) hK d_E_text_39 (by decide) h (fun h => ?_) (fun h => ?_)
      · refine r_iconst (v := 0) hK d_E_text_70 (by decide) ?_
        exact r_sub [1, 0] rfl (t_E_text_71 hK hN hD _ _ _ _ h)
      · refine r_aload_n hK d_E_text_42 rfl 1 rfl ?_
        refine r_gR hK fd_E_2 w1_214 d_E_text_43 h (fun p12 h => ?_)
        refine r_iload hK d_E_text_46 5 rfl ?_
        refine r_Vi (avL := [g_i x4]) (st := []) hK ob_Re rfl w2_2 w2_3 w2_1 w2_4 w1_2 (by decide) pl_Re_take (by rw [hD]; decide) (Nat.le_of_ble_eq_true rfl) rfl d_E_text_48 (fun o9 h9 => c_Re_take _ _ _ _ _ o9 h9) h (fun i13 s14 h => ?_)
        refine r_ifeq (tgt := 70) hK d_E_text_51 (by decide) h (fun h => ?_) (fun h => ?_)
        · refine r_iconst (v := 0) hK d_E_text_70 (by decide) ?_
          exact r_sub [1, 0] rfl (t_E_text_71 hK hN hD _ _ _ _ h)
        · refine r_aload_n hK d_E_text_54 rfl 1 rfl ?_
          refine r_gR hK fd_E_2 w1_214 d_E_text_55 h (fun p15 h => ?_)
          refine r_iload hK d_E_text_58 6 rfl ?_
          refine r_Vi (avL := [g_i x5]) (st := []) hK ob_Re rfl w2_2 w2_3 w2_1 w2_4 w1_2 (by decide) pl_Re_take (by rw [hD]; decide) (Nat.le_of_ble_eq_true rfl) rfl d_E_text_60 (fun o9 h9 => c_Re_take _ _ _ _ _ o9 h9) h (fun i16 s17 h => ?_)
          refine r_ifeq (tgt := 70) hK d_E_text_63 (by decide) h (fun h => ?_) (fun h => ?_)
          · refine r_iconst (v := 0) hK d_E_text_70 (by decide) ?_
            exact r_sub [1, 0] rfl (t_E_text_71 hK hN hD _ _ _ _ h)
          · refine r_iconst (v := 1) hK d_E_text_66 (by decide) ?_
            refine r_goto (tgt := 71) hK d_E_text_67 (by decide) ?_
            exact r_sub [1, 0] rfl (t_E_text_71 hK hN hD _ _ _ _ h)
theorem c_E_text (l : Launch) (G : g_G) (r0 : Option Nat) (x1 : Int32) (x2 : Int32) (x3 : Int32) (x4 : Int32) (x5 : Int32) (u : g_St) (o : (Int32 × g_St)) (h : f_E_text r0 x1 x2 x3 x4 x5 u = some o) : g_Con l G y_E_text b_E_text 8 (Option.some Jvm.ClassFile.FieldType.boolean) 2 [g_r 0 r0, g_i x1, g_i x2, g_i x3, g_i x4, g_i x5] u (g_jI o) :=
  g_Con.of rfl rfl (by decide +kernel) (Nat.le_of_ble_eq_true rfl) (fun K hK hN hD => t_E_text_0 hK hN hD _ _ _ _ _ _ _ h)
def f_E_fault (r0 : Option Nat) (s0 : g_St) : Option (Int32 × g_St) :=
  g_gI s0 384 r0 fun i1 =>
  some (i1, s0)
set_option maxHeartbeats 4000000 in
set_option maxRecDepth 100000 in
theorem t_E_fault_0 {K : g_C} {o : (Int32 × g_St)} (hK : g_OK K b_E_fault "FixpointEngine" "fault" (Option.some Jvm.ClassFile.FieldType.int)) (hN : g_nL K = 1) (hD : g_Kd K = 1) : ∀ (r0 : Option Nat) (s0 : g_St), f_E_fault r0 s0 = some o → g_W K s0 [(0, g_r 0 r0)] [] 0 (g_jI o) := by
  intro r0 s0 h
  unfold f_E_fault at h
  refine r_aload_n hK d_E_fault_0 rfl 0 rfl ?_
  refine r_gI hK fd_E_6 w1_218 d_E_fault_1 h (fun i1 h => ?_)
  exact r_ireturn hK d_E_fault_4 h
theorem c_E_fault (l : Launch) (G : g_G) (r0 : Option Nat) (u : g_St) (o : (Int32 × g_St)) (h : f_E_fault r0 u = some o) : g_Con l G y_E_fault b_E_fault 1 (Option.some Jvm.ClassFile.FieldType.int) 1 [g_r 0 r0] u (g_jI o) :=
  g_Con.of rfl rfl (by decide +kernel) (Nat.le_of_ble_eq_true rfl) (fun K hK hN hD => t_E_fault_0 hK hN hD _ _ h)
