def f_E_init (r0 : Option Nat) (s0 : g_St) : Option (Unit × g_St) :=
  g_nn r0 (
  g_newA s0 29 5 fun p1 s2 =>
  g_pR s2 0 r0 p1 fun s3 =>
  g_new s3 2 10 fun p4 s5 =>
  g_c (g_nn p4 (f_Re_init p4 s5)) fun _ s7 =>
  g_pR s7 128 r0 p4 fun s8 =>
  g_new s8 3 4 fun p9 s10 =>
  g_c (g_nn p9 (f_Ch_init p9 s10)) fun _ s12 =>
  g_pR s12 192 r0 p9 fun s13 =>
  g_new s13 4 18 fun p14 s15 =>
  g_c (g_nn p14 (f_Ru_init p14 s15)) fun _ s17 =>
  g_pR s17 256 r0 p14 fun s18 =>
  g_pI s18 64 r0 0 fun s19 =>
  g_pR s19 320 r0 none fun s20 =>
  g_pI s20 384 r0 0 fun s21 =>
  g_pZ s21 448 r0 0 fun s22 =>
  some ((), s22))
set_option maxHeartbeats 4000000 in
set_option maxRecDepth 100000 in
theorem t_E_init_0 {K : g_C} {o : (Unit × g_St)} (hK : g_OK K b_E_init "FixpointEngine" "<init>" (Option.none : Option Jvm.ClassFile.FieldType)) (hN : g_nL K = 1) (hD : g_Kd K = 4) : ∀ (r0 : Option Nat) (s0 : g_St), f_E_init r0 s0 = some o → g_W K s0 [(0, g_r 0 r0)] [] 0 (g_jV o) := by
  intro r0 s0 h
  unfold f_E_init at h
  refine r_aload_n hK d_E_init_0 rfl 0 rfl ?_
  refine r_objinit hK w1_44 (by rw [hD]; decide) (Nat.le_of_ble_eq_true rfl) d_E_init_1 h (fun h => ?_)
  refine r_aload_n hK d_E_init_4 rfl 0 rfl ?_
  refine r_iconst (v := 5) hK d_E_init_5 (by decide) ?_
  refine r_anewarray hK rfl w1_47 w1_48 ar_29 d_E_init_6 h (fun p1 s2 h => ?_)
  refine r_pRF hK pd_29 rfl (Or.inr rfl) fd_E_0 rfl w1_212 d_E_init_9 h (fun s3 h => ?_)
  refine r_aload_n hK d_E_init_12 rfl 0 rfl ?_
  refine r_new hK ob_Re rfl rfl w1_49 w1_50 w1_2 d_E_init_13 h (fun p4 s5 h => ?_)
  refine r_dup hK d_E_init_16 rfl ?_
  refine r_INv (avL := []) (st := [g_r 2 p4, g_r 0 r0]) hK rfl w1_52 w1_51 w1_53 w1_2 (by decide) pl_Re_init (by rw [hD]; decide) (Nat.le_of_ble_eq_true rfl) rfl d_E_init_17 (fun o9 h9 => c_Re_init _ _ _ _ o9 h9) h (fun s7 h => ?_)
  refine r_pRF hK pd_2 rfl (Or.inr rfl) fd_E_2 rfl w1_214 d_E_init_20 h (fun s8 h => ?_)
  refine r_aload_n hK d_E_init_23 rfl 0 rfl ?_
  refine r_new hK ob_Ch rfl rfl w1_92 w1_93 w1_3 d_E_init_24 h (fun p9 s10 h => ?_)
  refine r_dup hK d_E_init_27 rfl ?_
  refine r_INv (avL := []) (st := [g_r 3 p9, g_r 0 r0]) hK rfl w1_95 w1_94 w1_96 w1_3 (by decide) pl_Ch_init (by rw [hD]; decide) (Nat.le_of_ble_eq_true rfl) rfl d_E_init_28 (fun o9 h9 => c_Ch_init _ _ _ _ o9 h9) h (fun s12 h => ?_)
  refine r_pRF hK pd_3 rfl (Or.inr rfl) fd_E_3 rfl w1_215 d_E_init_31 h (fun s13 h => ?_)
  refine r_aload_n hK d_E_init_34 rfl 0 rfl ?_
  refine r_new hK ob_Ru rfl rfl w1_111 w1_112 w1_4 d_E_init_35 h (fun p14 s15 h => ?_)
  refine r_dup hK d_E_init_38 rfl ?_
  refine r_Iv (avL := []) (st := [g_r 4 p14, g_r 0 r0]) hK rfl w1_114 w1_113 w1_115 w1_4 (by decide) pl_Ru_init (by rw [hD]; decide) (Nat.le_of_ble_eq_true rfl) rfl d_E_init_39 (fun o9 h9 => c_Ru_init _ _ _ _ o9 h9) h (fun s17 h => ?_)
  refine r_pRF hK pd_4 rfl (Or.inr rfl) fd_E_4 rfl w1_216 d_E_init_42 h (fun s18 h => ?_)
  refine r_aload_n hK d_E_init_45 rfl 0 rfl ?_
  refine r_iconst (v := 0) hK d_E_init_46 (by decide) ?_
  refine r_pI hK fd_E_1 rfl w1_213 d_E_init_47 h (fun s19 h => ?_)
  refine r_aload_n hK d_E_init_50 rfl 0 rfl ?_
  refine r_null hK 6 d_E_init_51 ?_
  refine r_pR hK pd_6 rfl (Or.inr rfl) fd_E_5 rfl w1_217 d_E_init_52 h (fun s20 h => ?_)
  refine r_aload_n hK d_E_init_55 rfl 0 rfl ?_
  refine r_iconst (v := 0) hK d_E_init_56 (by decide) ?_
  refine r_pI hK fd_E_6 rfl w1_218 d_E_init_57 h (fun s21 h => ?_)
  refine r_aload_n hK d_E_init_60 rfl 0 rfl ?_
  refine r_iconst (v := 0) hK d_E_init_61 (by decide) ?_
  refine r_pZ hK fd_E_7 rfl w1_219 d_E_init_62 h (fun s22 h => ?_)
  exact r_return hK d_E_init_65 h
theorem c_E_init (l : Launch) (G : g_G) (r0 : Option Nat) (u : g_St) (o : (Unit × g_St)) (h : f_E_init r0 u = some o) : g_Con l G y_E_init b_E_init 1 (Option.none : Option Jvm.ClassFile.FieldType) 4 [g_r 0 r0] u (g_jV o) :=
  g_Con.of rfl rfl (by decide +kernel) (Nat.le_of_ble_eq_true rfl) (fun K hK hN hD hX => t_E_init_0 hK hN hD _ _ h)
def f_E_table (r0 : Option Nat) (x1 : Int32) (s0 : g_St) : Option ((Int32 ⊕ Nat) × g_St) :=
  if x1 < 1 then
    g_thr s0 0
  else
    if x1 ≤ 3 then
      g_gI s0 64 r0 fun i1 =>
      if i1 < 5 then
        g_gR s0 0 r0 fun p2 =>
        g_gI s0 64 r0 fun i3 =>
        g_new s0 5 7 fun p4 s5 =>
        g_c (g_nn p4 (f_Rl_init p4 16 x1 s5)) fun _ s7 =>
        g_sR s7 p2 i3 p4 fun s8 =>
        g_gI s8 64 r0 fun i9 =>
        g_pI s8 64 r0 (i9 + 1) fun s10 =>
        g_gI s10 64 r0 fun i11 =>
        some (Sum.inl (i11 - 1), s10)
      else
        g_thr s0 1
    else
      g_thr s0 0
set_option maxHeartbeats 4000000 in
set_option maxRecDepth 100000 in
theorem t_E_table_0 {K : g_C} {o : ((Int32 ⊕ Nat) × g_St)} (hK : g_OK K b_E_table "FixpointEngine" "table" (Option.some Jvm.ClassFile.FieldType.int)) (hN : g_nL K = 2) (hD : g_Kd K = 7) (hX : g_noX K) : ∀ (r0 : Option Nat) (x1 : Int32) (s0 : g_St), f_E_table r0 x1 s0 = some o → g_W K s0 [(0, g_r 0 r0), (1, g_i x1)] [] 0 (g_jTI o) := by
  intro r0 x1 s0 h
  unfold f_E_table at h
  refine r_iload_n hK d_E_table_0 rfl 1 rfl ?_
  refine r_iconst (v := 1) hK d_E_table_1 (by decide) ?_
  refine r_if_icmplt (tgt := 10) hK d_E_table_2 (by decide) h (fun h => ?_) (fun h => ?_)
  · exact r_thrI hK hX rfl w2_18 w2_19 w1_10 (by decide +kernel) th_E_55 (List.mem_of_getElem? (i := 0) rfl) (by rw [hD]; decide) (Nat.le_of_ble_eq_true rfl) d_E_table_10 d_E_table_13 (Or.inl ⟨rfl, d_E_table_14⟩) d_E_table_16 d_E_table_19 h
  · refine r_iload_n hK d_E_table_5 rfl 1 rfl ?_
    refine r_iconst (v := 3) hK d_E_table_6 (by decide) ?_
    refine r_if_icmple (tgt := 20) hK d_E_table_7 (by decide) h (fun h => ?_) (fun h => ?_)
    · refine r_aload_n hK d_E_table_20 rfl 0 rfl ?_
      refine r_gI hK fd_E_1 w1_213 d_E_table_21 h (fun i1 h => ?_)
      refine r_iconst (v := 5) hK d_E_table_24 (by decide) ?_
      refine r_if_icmplt (tgt := 38) hK d_E_table_25 (by decide) h (fun h => ?_) (fun h => ?_)
      · refine r_aload_n hK d_E_table_38 rfl 0 rfl ?_
        refine r_gR hK fd_E_0 w1_212 d_E_table_39 h (fun p2 h => ?_)
        refine r_aload_n hK d_E_table_42 rfl 0 rfl ?_
        refine r_gI hK fd_E_1 w1_213 d_E_table_43 h (fun i3 h => ?_)
        refine r_new hK ob_Rl rfl rfl w1_47 w1_118 w1_5 d_E_table_46 h (fun p4 s5 h => ?_)
        refine r_dup hK d_E_table_49 rfl ?_
        refine r_bipush (v := 16) hK d_E_table_50 (by decide) ?_
        refine r_iload_n hK d_E_table_52 rfl 1 rfl ?_
        refine r_Iv (avL := [g_i 16, g_i x1]) (st := [g_r 5 p4, g_i i3, g_r 29 p2]) hK rfl w1_120 w2_105 w1_121 w1_5 (by decide) pl_Rl_init (by rw [hD]; decide) (Nat.le_of_ble_eq_true rfl) rfl d_E_table_53 (fun o9 h9 => c_Rl_init _ _ _ _ _ _ o9 h9) h (fun s7 h => ?_)
        refine r_aastore hK el_29 ar_29 rfl d_E_table_56 h (fun s8 h => ?_)
        refine r_aload_n hK d_E_table_57 rfl 0 rfl ?_
        refine r_dup hK d_E_table_58 rfl ?_
        refine r_gI hK fd_E_1 w1_213 d_E_table_59 h (fun i9 h => ?_)
        refine r_iconst (v := 1) hK d_E_table_62 (by decide) ?_
        refine r_iadd hK d_E_table_63 ?_
        refine r_pI hK fd_E_1 rfl w1_213 d_E_table_64 h (fun s10 h => ?_)
        refine r_aload_n hK d_E_table_67 rfl 0 rfl ?_
        refine r_gI hK fd_E_1 w1_213 d_E_table_68 h (fun i11 h => ?_)
        refine r_iconst (v := 1) hK d_E_table_71 (by decide) ?_
        refine r_isub hK d_E_table_72 ?_
        exact r_ireturnT hK d_E_table_73 h
      · exact r_thrI hK hX rfl w2_89 w2_90 w1_11 (by decide +kernel) th_E_62 (List.mem_of_getElem? (i := 1) rfl) (by rw [hD]; decide) (Nat.le_of_ble_eq_true rfl) d_E_table_28 d_E_table_31 (Or.inl ⟨rfl, d_E_table_32⟩) d_E_table_34 d_E_table_37 h
    · exact r_thrI hK hX rfl w2_18 w2_19 w1_10 (by decide +kernel) th_E_55 (List.mem_of_getElem? (i := 0) rfl) (by rw [hD]; decide) (Nat.le_of_ble_eq_true rfl) d_E_table_10 d_E_table_13 (Or.inl ⟨rfl, d_E_table_14⟩) d_E_table_16 d_E_table_19 h
theorem c_E_table (l : Launch) (G : g_G) (r0 : Option Nat) (x1 : Int32) (u : g_St) (o : ((Int32 ⊕ Nat) × g_St)) (h : f_E_table r0 x1 u = some o) : g_Con l G y_E_table b_E_table 2 (Option.some Jvm.ClassFile.FieldType.int) 7 [g_r 0 r0, g_i x1] u (g_jTI o) :=
  g_Con.of rfl rfl (by decide +kernel) (Nat.le_of_ble_eq_true rfl) (fun K hK hN hD hX => t_E_table_0 hK hN hD hX _ _ _ h)
def f_E_row_132 (r6 : Option Nat) (r0s : Option Nat) (x1s : Int32) (y2s : Int64) (s0 : g_St) : Option ((Int32 ⊕ Nat) × g_St) :=
  g_sL s0 r0s x1s y2s fun s1 =>
  g_gI s1 261 r6 fun i2 =>
  g_pI s1 261 r6 (i2 + 1) fun s3 =>
  g_gI s3 261 r6 fun i4 =>
  some (Sum.inl i4, s3)
def f_E_row_106 (x4 : Int32) (x5 : Int32) (r6 : Option Nat) (x7 : Int32) (r0s : Option Nat) (x1s : Int32) (y2s : Int64) (s0 : g_St) : Option ((Int32 ⊕ Nat) × g_St) :=
  g_sL s0 r0s x1s y2s fun s1 =>
  g_gR s1 69 r6 fun p2 =>
  if (x5 &&& 4) = 0 then
    f_E_row_132 r6 p2 (x7 + 2) x4.toInt64 s1
  else
    f_E_row_132 r6 p2 (x7 + 2) 1099511627776 s1
def f_E_row_81 (x3 : Int32) (x4 : Int32) (x5 : Int32) (r6 : Option Nat) (x7 : Int32) (r0s : Option Nat) (x1s : Int32) (y2s : Int64) (s0 : g_St) : Option ((Int32 ⊕ Nat) × g_St) :=
  g_sL s0 r0s x1s y2s fun s1 =>
  g_gR s1 69 r6 fun p2 =>
  if (x5 &&& 2) = 0 then
    f_E_row_106 x4 x5 r6 x7 p2 (x7 + 1) x3.toInt64 s1
  else
    f_E_row_106 x4 x5 r6 x7 p2 (x7 + 1) 1099511627776 s1
def f_E_row (r0 : Option Nat) (x1 : Int32) (x2 : Int32) (x3 : Int32) (x4 : Int32) (x5 : Int32) (s0 : g_St) : Option ((Int32 ⊕ Nat) × g_St) :=
  if x1 < 0 then
    g_thr s0 0
  else
    g_gI s0 64 r0 fun i1 =>
    if x1 < i1 then
      g_gR s0 0 r0 fun p2 =>
      g_aR s0 p2 x1 fun p3 =>
      g_gI s0 261 p3 fun i4 =>
      if i4 < 16 then
        g_gI s0 261 p3 fun i5 =>
        g_gR s0 69 p3 fun p6 =>
        if (x5 &&& 1) = 0 then
          f_E_row_81 x3 x4 x5 p3 (i5 * 4) p6 (i5 * 4) x2.toInt64 s0
        else
          f_E_row_81 x3 x4 x5 p3 (i5 * 4) p6 (i5 * 4) 1099511627776 s0
      else
        g_thr s0 1
    else
      g_thr s0 0
set_option maxHeartbeats 4000000 in
set_option maxRecDepth 100000 in
theorem t_E_row_132 {K : g_C} {o : ((Int32 ⊕ Nat) × g_St)} (hK : g_OK K b_E_row "FixpointEngine" "row" (Option.some Jvm.ClassFile.FieldType.int)) (hN : g_nL K = 8) (hD : g_Kd K = 7) (hX : g_noX K) : ∀ (r6 : Option Nat) (r0s : Option Nat) (x1s : Int32) (y2s : Int64) (s0 : g_St), f_E_row_132 r6 r0s x1s y2s s0 = some o → g_W K s0 [(6, g_r 5 r6)] [g_l y2s, g_i x1s, g_r 21 r0s] 132 (g_jTI o) := by
  intro r6 r0s x1s y2s s0 h
  unfold f_E_row_132 at h
  refine r_lastore hK ar_21 rfl d_E_row_132 h (fun s1 h => ?_)
  refine r_aload hK d_E_row_133 0 rfl ?_
  refine r_dup hK d_E_row_135 rfl ?_
  refine r_gI hK fd_Rl_4 w1_133 d_E_row_136 h (fun i2 h => ?_)
  refine r_iconst (v := 1) hK d_E_row_139 (by decide) ?_
  refine r_iadd hK d_E_row_140 ?_
  refine r_pI hK fd_Rl_4 rfl w1_133 d_E_row_141 h (fun s3 h => ?_)
  refine r_aload hK d_E_row_144 0 rfl ?_
  refine r_gI hK fd_Rl_4 w1_133 d_E_row_146 h (fun i4 h => ?_)
  exact r_ireturnT hK d_E_row_149 h
set_option maxHeartbeats 4000000 in
set_option maxRecDepth 100000 in
theorem t_E_row_106 {K : g_C} {o : ((Int32 ⊕ Nat) × g_St)} (hK : g_OK K b_E_row "FixpointEngine" "row" (Option.some Jvm.ClassFile.FieldType.int)) (hN : g_nL K = 8) (hD : g_Kd K = 7) (hX : g_noX K) : ∀ (x4 : Int32) (x5 : Int32) (r6 : Option Nat) (x7 : Int32) (r0s : Option Nat) (x1s : Int32) (y2s : Int64) (s0 : g_St), f_E_row_106 x4 x5 r6 x7 r0s x1s y2s s0 = some o → g_W K s0 [(4, g_i x4), (5, g_i x5), (6, g_r 5 r6), (7, g_i x7)] [g_l y2s, g_i x1s, g_r 21 r0s] 106 (g_jTI o) := by
  intro x4 x5 r6 x7 r0s x1s y2s s0 h
  unfold f_E_row_106 at h
  refine r_lastore hK ar_21 rfl d_E_row_106 h (fun s1 h => ?_)
  refine r_aload hK d_E_row_107 2 rfl ?_
  refine r_gR hK fd_Rl_1 w1_128 d_E_row_109 h (fun p2 h => ?_)
  refine r_iload hK d_E_row_112 3 rfl ?_
  refine r_iconst (v := 2) hK d_E_row_114 (by decide) ?_
  refine r_iadd hK d_E_row_115 ?_
  refine r_iload hK d_E_row_116 1 rfl ?_
  refine r_iconst (v := 4) hK d_E_row_118 (by decide) ?_
  refine r_iand hK d_E_row_119 ?_
  refine r_ifeq (tgt := 129) hK d_E_row_120 (by decide) h (fun h => ?_) (fun h => ?_)
  · refine r_iload hK d_E_row_129 0 rfl ?_
    refine r_i2l hK d_E_row_131 ?_
    exact r_sub [2] rfl (t_E_row_132 hK hN hD hX _ _ _ _ _ h)
  · refine r_ldc2 hK w2_115 d_E_row_123 ?_
    refine r_goto (tgt := 132) hK d_E_row_126 (by decide) ?_
    exact r_sub [2] rfl (t_E_row_132 hK hN hD hX _ _ _ _ _ h)
set_option maxHeartbeats 4000000 in
set_option maxRecDepth 100000 in
theorem t_E_row_81 {K : g_C} {o : ((Int32 ⊕ Nat) × g_St)} (hK : g_OK K b_E_row "FixpointEngine" "row" (Option.some Jvm.ClassFile.FieldType.int)) (hN : g_nL K = 8) (hD : g_Kd K = 7) (hX : g_noX K) : ∀ (x3 : Int32) (x4 : Int32) (x5 : Int32) (r6 : Option Nat) (x7 : Int32) (r0s : Option Nat) (x1s : Int32) (y2s : Int64) (s0 : g_St), f_E_row_81 x3 x4 x5 r6 x7 r0s x1s y2s s0 = some o → g_W K s0 [(3, g_i x3), (4, g_i x4), (5, g_i x5), (6, g_r 5 r6), (7, g_i x7)] [g_l y2s, g_i x1s, g_r 21 r0s] 81 (g_jTI o) := by
  intro x3 x4 x5 r6 x7 r0s x1s y2s s0 h
  unfold f_E_row_81 at h
  refine r_lastore hK ar_21 rfl d_E_row_81 h (fun s1 h => ?_)
  refine r_aload hK d_E_row_82 3 rfl ?_
  refine r_gR hK fd_Rl_1 w1_128 d_E_row_84 h (fun p2 h => ?_)
  refine r_iload hK d_E_row_87 4 rfl ?_
  refine r_iconst (v := 1) hK d_E_row_89 (by decide) ?_
  refine r_iadd hK d_E_row_90 ?_
  refine r_iload hK d_E_row_91 2 rfl ?_
  refine r_iconst (v := 2) hK d_E_row_93 (by decide) ?_
  refine r_iand hK d_E_row_94 ?_
  refine r_ifeq (tgt := 104) hK d_E_row_95 (by decide) h (fun h => ?_) (fun h => ?_)
  · refine r_iload_n hK d_E_row_104 rfl 0 rfl ?_
    refine r_i2l hK d_E_row_105 ?_
    exact r_sub [1, 2, 3, 4] rfl (t_E_row_106 hK hN hD hX _ _ _ _ _ _ _ _ h)
  · refine r_ldc2 hK w2_115 d_E_row_98 ?_
    refine r_goto (tgt := 106) hK d_E_row_101 (by decide) ?_
    exact r_sub [1, 2, 3, 4] rfl (t_E_row_106 hK hN hD hX _ _ _ _ _ _ _ _ h)
set_option maxHeartbeats 4000000 in
set_option maxRecDepth 100000 in
theorem t_E_row_0 {K : g_C} {o : ((Int32 ⊕ Nat) × g_St)} (hK : g_OK K b_E_row "FixpointEngine" "row" (Option.some Jvm.ClassFile.FieldType.int)) (hN : g_nL K = 8) (hD : g_Kd K = 7) (hX : g_noX K) : ∀ (r0 : Option Nat) (x1 : Int32) (x2 : Int32) (x3 : Int32) (x4 : Int32) (x5 : Int32) (s0 : g_St), f_E_row r0 x1 x2 x3 x4 x5 s0 = some o → g_W K s0 [(0, g_r 0 r0), (1, g_i x1), (2, g_i x2), (3, g_i x3), (4, g_i x4), (5, g_i x5)] [] 0 (g_jTI o) := by
  intro r0 x1 x2 x3 x4 x5 s0 h
  unfold f_E_row at h
  refine r_iload_n hK d_E_row_0 rfl 1 rfl ?_
  refine r_iflt (tgt := 12) hK d_E_row_1 (by decide) h (fun h => ?_) (fun h => ?_)
  · exact r_thrI hK hX rfl w2_18 w2_19 w1_10 (by decide +kernel) th_E_55 (List.mem_of_getElem? (i := 2) rfl) (by rw [hD]; decide) (Nat.le_of_ble_eq_true rfl) d_E_row_12 d_E_row_15 (Or.inl ⟨rfl, d_E_row_16⟩) d_E_row_18 d_E_row_21 h
  · refine r_iload_n hK d_E_row_4 rfl 1 rfl ?_
    refine r_aload_n hK d_E_row_5 rfl 0 rfl ?_
    refine r_gI hK fd_E_1 w1_213 d_E_row_6 h (fun i1 h => ?_)
    refine r_if_icmplt (tgt := 22) hK d_E_row_9 (by decide) h (fun h => ?_) (fun h => ?_)
    · refine r_aload_n hK d_E_row_22 rfl 0 rfl ?_
      refine r_gR hK fd_E_0 w1_212 d_E_row_23 h (fun p2 h => ?_)
      refine r_iload_n hK d_E_row_26 rfl 1 rfl ?_
      refine r_aaload hK rfl ar_29 rfl d_E_row_27 h (fun p3 h => ?_)
      refine r_astore (ls1 := [(6, g_r 5 p3), (0, g_r 0 r0), (1, g_i x1), (2, g_i x2), (3, g_i x3), (4, g_i x4), (5, g_i x5)]) hK d_E_row_28 (by rw [hN]; decide) rfl ?_
      refine r_aload hK d_E_row_30 0 rfl ?_
      refine r_gI hK fd_Rl_4 w1_133 d_E_row_32 h (fun i4 h => ?_)
      refine r_bipush (v := 16) hK d_E_row_35 (by decide) ?_
      refine r_if_icmplt (tgt := 50) hK d_E_row_37 (by decide) h (fun h => ?_) (fun h => ?_)
      · refine r_aload hK d_E_row_50 0 rfl ?_
        refine r_gI hK fd_Rl_4 w1_133 d_E_row_52 h (fun i5 h => ?_)
        refine r_iconst (v := 4) hK d_E_row_55 (by decide) ?_
        refine r_imul hK d_E_row_56 ?_
        refine r_istore (ls1 := [(7, g_i (i5 * 4)), (6, g_r 5 p3), (0, g_r 0 r0), (1, g_i x1), (2, g_i x2), (3, g_i x3), (4, g_i x4), (5, g_i x5)]) hK d_E_row_57 (by rw [hN]; decide) rfl ?_
        refine r_aload hK d_E_row_59 1 rfl ?_
        refine r_gR hK fd_Rl_1 w1_128 d_E_row_61 h (fun p6 h => ?_)
        refine r_iload hK d_E_row_64 0 rfl ?_
        refine r_iload hK d_E_row_66 7 rfl ?_
        refine r_iconst (v := 1) hK d_E_row_68 (by decide) ?_
        refine r_iand hK d_E_row_69 ?_
        refine r_ifeq (tgt := 79) hK d_E_row_70 (by decide) h (fun h => ?_) (fun h => ?_)
        · refine r_iload_n hK d_E_row_79 rfl 4 rfl ?_
          refine r_i2l hK d_E_row_80 ?_
          exact r_sub [5, 6, 7, 1, 0] rfl (t_E_row_81 hK hN hD hX _ _ _ _ _ _ _ _ _ h)
        · refine r_ldc2 hK w2_115 d_E_row_73 ?_
          refine r_goto (tgt := 81) hK d_E_row_76 (by decide) ?_
          exact r_sub [5, 6, 7, 1, 0] rfl (t_E_row_81 hK hN hD hX _ _ _ _ _ _ _ _ _ h)
      · exact r_thrI hK hX rfl w2_89 w2_90 w1_11 (by decide +kernel) th_E_62 (List.mem_of_getElem? (i := 3) rfl) (by rw [hD]; decide) (Nat.le_of_ble_eq_true rfl) d_E_row_40 d_E_row_43 (Or.inl ⟨rfl, d_E_row_44⟩) d_E_row_46 d_E_row_49 h
    · exact r_thrI hK hX rfl w2_18 w2_19 w1_10 (by decide +kernel) th_E_55 (List.mem_of_getElem? (i := 2) rfl) (by rw [hD]; decide) (Nat.le_of_ble_eq_true rfl) d_E_row_12 d_E_row_15 (Or.inl ⟨rfl, d_E_row_16⟩) d_E_row_18 d_E_row_21 h
theorem c_E_row (l : Launch) (G : g_G) (r0 : Option Nat) (x1 : Int32) (x2 : Int32) (x3 : Int32) (x4 : Int32) (x5 : Int32) (u : g_St) (o : ((Int32 ⊕ Nat) × g_St)) (h : f_E_row r0 x1 x2 x3 x4 x5 u = some o) : g_Con l G y_E_row b_E_row 8 (Option.some Jvm.ClassFile.FieldType.int) 7 [g_r 0 r0, g_i x1, g_i x2, g_i x3, g_i x4, g_i x5] u (g_jTI o) :=
  g_Con.of rfl rfl (by decide +kernel) (Nat.le_of_ble_eq_true rfl) (fun K hK hN hD hX => t_E_row_0 hK hN hD hX _ _ _ _ _ _ _ h)
def f_E_clear (r0 : Option Nat) (x1 : Int32) (s0 : g_St) : Option ((Int32 ⊕ Nat) × g_St) :=
  if x1 < 0 then
    g_thr s0 0
  else
    g_gI s0 64 r0 fun i1 =>
    if x1 < i1 then
      g_gR s0 0 r0 fun p2 =>
      g_aR s0 p2 x1 fun p3 =>
      g_gI s0 261 p3 fun i4 =>
      g_gR s0 0 r0 fun p5 =>
      g_aR s0 p5 x1 fun p6 =>
      g_pI s0 261 p6 0 fun s7 =>
      some (Sum.inl i4, s7)
    else
      g_thr s0 0
set_option maxHeartbeats 4000000 in
set_option maxRecDepth 100000 in
theorem t_E_clear_0 {K : g_C} {o : ((Int32 ⊕ Nat) × g_St)} (hK : g_OK K b_E_clear "FixpointEngine" "clear" (Option.some Jvm.ClassFile.FieldType.int)) (hN : g_nL K = 3) (hD : g_Kd K = 7) (hX : g_noX K) : ∀ (r0 : Option Nat) (x1 : Int32) (s0 : g_St), f_E_clear r0 x1 s0 = some o → g_W K s0 [(0, g_r 0 r0), (1, g_i x1)] [] 0 (g_jTI o) := by
  intro r0 x1 s0 h
  unfold f_E_clear at h
  refine r_iload_n hK d_E_clear_0 rfl 1 rfl ?_
  refine r_iflt (tgt := 12) hK d_E_clear_1 (by decide) h (fun h => ?_) (fun h => ?_)
  · exact r_thrI hK hX rfl w2_18 w2_19 w1_10 (by decide +kernel) th_E_55 (List.mem_of_getElem? (i := 2) rfl) (by rw [hD]; decide) (Nat.le_of_ble_eq_true rfl) d_E_clear_12 d_E_clear_15 (Or.inl ⟨rfl, d_E_clear_16⟩) d_E_clear_18 d_E_clear_21 h
  · refine r_iload_n hK d_E_clear_4 rfl 1 rfl ?_
    refine r_aload_n hK d_E_clear_5 rfl 0 rfl ?_
    refine r_gI hK fd_E_1 w1_213 d_E_clear_6 h (fun i1 h => ?_)
    refine r_if_icmplt (tgt := 22) hK d_E_clear_9 (by decide) h (fun h => ?_) (fun h => ?_)
    · refine r_aload_n hK d_E_clear_22 rfl 0 rfl ?_
      refine r_gR hK fd_E_0 w1_212 d_E_clear_23 h (fun p2 h => ?_)
      refine r_iload_n hK d_E_clear_26 rfl 1 rfl ?_
      refine r_aaload hK rfl ar_29 rfl d_E_clear_27 h (fun p3 h => ?_)
      refine r_gI hK fd_Rl_4 w1_133 d_E_clear_28 h (fun i4 h => ?_)
      refine r_istore_n (ls1 := [(2, g_i i4), (0, g_r 0 r0), (1, g_i x1)]) hK d_E_clear_31 rfl (by rw [hN]; decide) rfl ?_
      refine r_aload_n hK d_E_clear_32 rfl 1 rfl ?_
      refine r_gR hK fd_E_0 w1_212 d_E_clear_33 h (fun p5 h => ?_)
      refine r_iload_n hK d_E_clear_36 rfl 2 rfl ?_
      refine r_aaload hK rfl ar_29 rfl d_E_clear_37 h (fun p6 h => ?_)
      refine r_iconst (v := 0) hK d_E_clear_38 (by decide) ?_
      refine r_pI hK fd_Rl_4 rfl w1_133 d_E_clear_39 h (fun s7 h => ?_)
      refine r_iload_n hK d_E_clear_42 rfl 0 rfl ?_
      exact r_ireturnT hK d_E_clear_43 h
    · exact r_thrI hK hX rfl w2_18 w2_19 w1_10 (by decide +kernel) th_E_55 (List.mem_of_getElem? (i := 2) rfl) (by rw [hD]; decide) (Nat.le_of_ble_eq_true rfl) d_E_clear_12 d_E_clear_15 (Or.inl ⟨rfl, d_E_clear_16⟩) d_E_clear_18 d_E_clear_21 h
theorem c_E_clear (l : Launch) (G : g_G) (r0 : Option Nat) (x1 : Int32) (u : g_St) (o : ((Int32 ⊕ Nat) × g_St)) (h : f_E_clear r0 x1 u = some o) : g_Con l G y_E_clear b_E_clear 3 (Option.some Jvm.ClassFile.FieldType.int) 7 [g_r 0 r0, g_i x1] u (g_jTI o) :=
  g_Con.of rfl rfl (by decide +kernel) (Nat.le_of_ble_eq_true rfl) (fun K hK hN hD hX => t_E_clear_0 hK hN hD hX _ _ _ h)
def f_E_text_71 (r0 : Option Nat) (x6 : Int32) (x0s : Int32) (s0 : g_St) : Option (Int32 × g_St) :=
  if x0s = 0 then
    g_gR s0 128 r0 fun p1 =>
    g_pI s0 66 p1 x6 fun s2 =>
    g_rZ x0s (some (x0s, s2))
  else
    g_rZ x0s (some (x0s, s0))
def f_E_text (r0 : Option Nat) (x1 : Int32) (x2 : Int32) (x3 : Int32) (x4 : Int32) (x5 : Int32) (s0 : g_St) : Option (Int32 × g_St) :=
  g_gR s0 128 r0 fun p1 =>
  g_gI s0 66 p1 fun i2 =>
  g_gR s0 128 r0 fun p3 =>
  g_c (g_nn p3 (f_Re_take p3 x1 s0)) fun i4 s5 =>
  if i4 = 0 then
    f_E_text_71 r0 i2 0 s5
  else
    g_gR s5 128 r0 fun p6 =>
    g_c (g_nn p6 (f_Re_take p6 x2 s5)) fun i7 s8 =>
    if i7 = 0 then
      f_E_text_71 r0 i2 0 s8
    else
      g_gR s8 128 r0 fun p9 =>
      g_c (g_nn p9 (f_Re_take p9 x3 s8)) fun i10 s11 =>
      if i10 = 0 then
        f_E_text_71 r0 i2 0 s11
      else
        g_gR s11 128 r0 fun p12 =>
        g_c (g_nn p12 (f_Re_take p12 x4 s11)) fun i13 s14 =>
        if i13 = 0 then
          f_E_text_71 r0 i2 0 s14
        else
          g_gR s14 128 r0 fun p15 =>
          g_c (g_nn p15 (f_Re_take p15 x5 s14)) fun i16 s17 =>
          if i16 = 0 then
            f_E_text_71 r0 i2 0 s17
          else
            f_E_text_71 r0 i2 1 s17
set_option maxHeartbeats 4000000 in
set_option maxRecDepth 100000 in
theorem t_E_text_71 {K : g_C} {o : (Int32 × g_St)} (hK : g_OK K b_E_text "FixpointEngine" "text" (Option.some Jvm.ClassFile.FieldType.boolean)) (hN : g_nL K = 8) (hD : g_Kd K = 2) : ∀ (r0 : Option Nat) (x6 : Int32) (x0s : Int32) (s0 : g_St), f_E_text_71 r0 x6 x0s s0 = some o → g_W K s0 [(0, g_r 0 r0), (6, g_i x6)] [g_i x0s] 71 (g_jI o) := by
  intro r0 x6 x0s s0 h
  unfold f_E_text_71 at h
  refine r_istore (ls1 := [(7, g_i x0s), (0, g_r 0 r0), (6, g_i x6)]) hK d_E_text_71 (by rw [hN]; decide) rfl ?_
  refine r_iload hK d_E_text_73 0 rfl ?_
  refine r_ifne (tgt := 87) hK d_E_text_75 (by decide) h (fun h => ?_) (fun h => ?_)
  · refine r_iload hK d_E_text_87 0 rfl ?_
    exact r_zreturn hK d_E_text_89 h
  · refine r_aload_n hK d_E_text_78 rfl 1 rfl ?_
    refine r_gR hK fd_E_2 w1_214 d_E_text_79 h (fun p1 h => ?_)
    refine r_iload hK d_E_text_82 2 rfl ?_
    refine r_pI hK fd_Re_1 rfl w1_59 d_E_text_84 h (fun s2 h => ?_)
    refine r_iload hK d_E_text_87 0 rfl ?_
    exact r_zreturn hK d_E_text_89 h
set_option maxHeartbeats 4000000 in
set_option maxRecDepth 100000 in
theorem t_E_text_0 {K : g_C} {o : (Int32 × g_St)} (hK : g_OK K b_E_text "FixpointEngine" "text" (Option.some Jvm.ClassFile.FieldType.boolean)) (hN : g_nL K = 8) (hD : g_Kd K = 2) : ∀ (r0 : Option Nat) (x1 : Int32) (x2 : Int32) (x3 : Int32) (x4 : Int32) (x5 : Int32) (s0 : g_St), f_E_text r0 x1 x2 x3 x4 x5 s0 = some o → g_W K s0 [(0, g_r 0 r0), (1, g_i x1), (2, g_i x2), (3, g_i x3), (4, g_i x4), (5, g_i x5)] [] 0 (g_jI o) := by
  intro r0 x1 x2 x3 x4 x5 s0 h
  unfold f_E_text at h
  refine r_aload_n hK d_E_text_0 rfl 0 rfl ?_
  refine r_gR hK fd_E_2 w1_214 d_E_text_1 h (fun p1 h => ?_)
  refine r_gI hK fd_Re_1 w1_59 d_E_text_4 h (fun i2 h => ?_)
  refine r_istore (ls1 := [(6, g_i i2), (0, g_r 0 r0), (1, g_i x1), (2, g_i x2), (3, g_i x3), (4, g_i x4), (5, g_i x5)]) hK d_E_text_7 (by rw [hN]; decide) rfl ?_
  refine r_aload_n hK d_E_text_9 rfl 1 rfl ?_
  refine r_gR hK fd_E_2 w1_214 d_E_text_10 h (fun p3 h => ?_)
  refine r_iload_n hK d_E_text_13 rfl 2 rfl ?_
  refine r_Vi (avL := [g_i x1]) (st := []) hK ob_Re rfl w2_2 w2_3 w2_1 w2_4 w1_2 (by decide) pl_Re_take (by rw [hD]; decide) (Nat.le_of_ble_eq_true rfl) rfl d_E_text_14 (fun o9 h9 => c_Re_take _ _ _ _ _ o9 h9) h (fun i4 s5 h => ?_)
  refine r_ifeq (tgt := 70) hK d_E_text_17 (by decide) h (fun h => ?_) (fun h => ?_)
  · refine r_iconst (v := 0) hK d_E_text_70 (by decide) ?_
    exact r_sub [1, 0] rfl (t_E_text_71 hK hN hD _ _ _ _ h)
  · refine r_aload_n hK d_E_text_20 rfl 1 rfl ?_
    refine r_gR hK fd_E_2 w1_214 d_E_text_21 h (fun p6 h => ?_)
    refine r_iload_n hK d_E_text_24 rfl 3 rfl ?_
    refine r_Vi (avL := [g_i x2]) (st := []) hK ob_Re rfl w2_2 w2_3 w2_1 w2_4 w1_2 (by decide) pl_Re_take (by rw [hD]; decide) (Nat.le_of_ble_eq_true rfl) rfl d_E_text_25 (fun o9 h9 => c_Re_take _ _ _ _ _ o9 h9) h (fun i7 s8 h => ?_)
    refine r_ifeq (tgt := 70) hK d_E_text_28 (by decide) h (fun h => ?_) (fun h => ?_)
    · refine r_iconst (v := 0) hK d_E_text_70 (by decide) ?_
      exact r_sub [1, 0] rfl (t_E_text_71 hK hN hD _ _ _ _ h)
    · refine r_aload_n hK d_E_text_31 rfl 1 rfl ?_
      refine r_gR hK fd_E_2 w1_214 d_E_text_32 h (fun p9 h => ?_)
      refine r_iload_n hK d_E_text_35 rfl 4 rfl ?_
      refine r_Vi (avL := [g_i x3]) (st := []) hK ob_Re rfl w2_2 w2_3 w2_1 w2_4 w1_2 (by decide) pl_Re_take (by rw [hD]; decide) (Nat.le_of_ble_eq_true rfl) rfl d_E_text_36 (fun o9 h9 => c_Re_take _ _ _ _ _ o9 h9) h (fun i10 s11 h => ?_)
      refine r_ifeq (tgt := 70) hK d_E_text_39 (by decide) h (fun h => ?_) (fun h => ?_)
      · refine r_iconst (v := 0) hK d_E_text_70 (by decide) ?_
        exact r_sub [1, 0] rfl (t_E_text_71 hK hN hD _ _ _ _ h)
      · refine r_aload_n hK d_E_text_42 rfl 1 rfl ?_
        refine r_gR hK fd_E_2 w1_214 d_E_text_43 h (fun p12 h => ?_)
        refine r_iload hK d_E_text_46 5 rfl ?_
        refine r_Vi (avL := [g_i x4]) (st := []) hK ob_Re rfl w2_2 w2_3 w2_1 w2_4 w1_2 (by decide) pl_Re_take (by rw [hD]; decide) (Nat.le_of_ble_eq_true rfl) rfl d_E_text_48 (fun o9 h9 => c_Re_take _ _ _ _ _ o9 h9) h (fun i13 s14 h => ?_)
        refine r_ifeq (tgt := 70) hK d_E_text_51 (by decide) h (fun h => ?_) (fun h => ?_)
        · refine r_iconst (v := 0) hK d_E_text_70 (by decide) ?_
          exact r_sub [1, 0] rfl (t_E_text_71 hK hN hD _ _ _ _ h)
        · refine r_aload_n hK d_E_text_54 rfl 1 rfl ?_
          refine r_gR hK fd_E_2 w1_214 d_E_text_55 h (fun p15 h => ?_)
          refine r_iload hK d_E_text_58 6 rfl ?_
          refine r_Vi (avL := [g_i x5]) (st := []) hK ob_Re rfl w2_2 w2_3 w2_1 w2_4 w1_2 (by decide) pl_Re_take (by rw [hD]; decide) (Nat.le_of_ble_eq_true rfl) rfl d_E_text_60 (fun o9 h9 => c_Re_take _ _ _ _ _ o9 h9) h (fun i16 s17 h => ?_)
          refine r_ifeq (tgt := 70) hK d_E_text_63 (by decide) h (fun h => ?_) (fun h => ?_)
          · refine r_iconst (v := 0) hK d_E_text_70 (by decide) ?_
            exact r_sub [1, 0] rfl (t_E_text_71 hK hN hD _ _ _ _ h)
          · refine r_iconst (v := 1) hK d_E_text_66 (by decide) ?_
            refine r_goto (tgt := 71) hK d_E_text_67 (by decide) ?_
            exact r_sub [1, 0] rfl (t_E_text_71 hK hN hD _ _ _ _ h)
theorem c_E_text (l : Launch) (G : g_G) (r0 : Option Nat) (x1 : Int32) (x2 : Int32) (x3 : Int32) (x4 : Int32) (x5 : Int32) (u : g_St) (o : (Int32 × g_St)) (h : f_E_text r0 x1 x2 x3 x4 x5 u = some o) : g_Con l G y_E_text b_E_text 8 (Option.some Jvm.ClassFile.FieldType.boolean) 2 [g_r 0 r0, g_i x1, g_i x2, g_i x3, g_i x4, g_i x5] u (g_jI o) :=
  g_Con.of rfl rfl (by decide +kernel) (Nat.le_of_ble_eq_true rfl) (fun K hK hN hD hX => t_E_text_0 hK hN hD _ _ _ _ _ _ _ h)
def f_E_prepare_49 (r0 : Option Nat) (r1 : Option Nat) (r0s : Option Nat) (x1s : Int32) (s0 : g_St) : Option ((Int32 ⊕ Nat) × g_St) :=
  g_pI s0 384 r0s x1s fun s1 =>
  g_gR s1 128 r0 fun p2 =>
  g_pI s1 66 p2 0 fun s3 =>
  g_gI s3 384 r0 fun i4 =>
  if i4 = 0 then
    if r1 = none then
      g_thr s3 0
    else
      g_pR s3 320 r0 r1 fun s5 =>
      g_gI s5 70 r1 fun i6 =>
      some (Sum.inl i6, s5)
  else
    g_thr s3 0
def f_E_prepare (r0 : Option Nat) (s0 : g_St) : Option ((Int32 ⊕ Nat) × g_St) :=
  g_pR s0 320 r0 none fun s1 =>
  g_pZ s1 448 r0 0 fun s2 =>
  g_gR s2 128 r0 fun p3 =>
  g_c (g_nn p3 (f_Re_read p3 s2)) fun p4 s5 =>
  if p4 = none then
    g_gR s5 128 r0 fun p11 =>
    g_c (g_nn p11 (f_Re_stuckAt p11 s5)) fun i12 s13 =>
    f_E_prepare_49 r0 p4 r0 i12 s13
  else
    g_gR s5 192 r0 fun p6 =>
    g_gR s5 0 r0 fun p7 =>
    g_gI s5 64 r0 fun i8 =>
    g_c (g_nn p6 (f_Ch_find p6 p4 p7 i8 s5)) fun i9 s10 =>
    f_E_prepare_49 r0 p4 r0 i9 s10
set_option maxHeartbeats 4000000 in
set_option maxRecDepth 100000 in
theorem t_E_prepare_49 {K : g_C} {o : ((Int32 ⊕ Nat) × g_St)} (hK : g_OK K b_E_prepare "FixpointEngine" "prepare" (Option.some Jvm.ClassFile.FieldType.int)) (hN : g_nL K = 2) (hD : g_Kd K = 19) (hX : g_noX K) : ∀ (r0 : Option Nat) (r1 : Option Nat) (r0s : Option Nat) (x1s : Int32) (s0 : g_St), f_E_prepare_49 r0 r1 r0s x1s s0 = some o → g_W K s0 [(0, g_r 0 r0), (1, g_r 6 r1)] [g_i x1s, g_r 0 r0s] 49 (g_jTI o) := by
  intro r0 r1 r0s x1s s0 h
  unfold f_E_prepare_49 at h
  refine r_pI hK fd_E_6 rfl w1_218 d_E_prepare_49 h (fun s1 h => ?_)
  refine r_aload_n hK d_E_prepare_52 rfl 0 rfl ?_
  refine r_gR hK fd_E_2 w1_214 d_E_prepare_53 h (fun p2 h => ?_)
  refine r_iconst (v := 0) hK d_E_prepare_56 (by decide) ?_
  refine r_pI hK fd_Re_1 rfl w1_59 d_E_prepare_57 h (fun s3 h => ?_)
  refine r_aload_n hK d_E_prepare_60 rfl 0 rfl ?_
  refine r_gI hK fd_E_6 w1_218 d_E_prepare_61 h (fun i4 h => ?_)
  refine r_ifne (tgt := 71) hK d_E_prepare_64 (by decide) h (fun h => ?_) (fun h => ?_)
  · exact r_thrI hK hX rfl w2_18 w2_19 w1_10 (by decide +kernel) th_E_55 (List.mem_of_getElem? (i := 4) rfl) (by rw [hD]; decide) (Nat.le_of_ble_eq_true rfl) d_E_prepare_71 d_E_prepare_74 (Or.inl ⟨rfl, d_E_prepare_75⟩) d_E_prepare_77 d_E_prepare_80 h
  · refine r_aload_n hK d_E_prepare_67 rfl 1 rfl ?_
    refine r_ifnonnull (tgt := 81) hK d_E_prepare_68 (by decide) h (fun h => ?_) (fun h => ?_)
    · refine r_aload_n hK d_E_prepare_81 rfl 0 rfl ?_
      refine r_aload_n hK d_E_prepare_82 rfl 1 rfl ?_
      refine r_pR hK pd_6 rfl (Or.inr rfl) fd_E_5 rfl w1_217 d_E_prepare_83 h (fun s5 h => ?_)
      refine r_aload_n hK d_E_prepare_86 rfl 1 rfl ?_
      refine r_gI hK fd_Qu_1 w3_28 d_E_prepare_87 h (fun i6 h => ?_)
      exact r_ireturnT hK d_E_prepare_90 h
    · exact r_thrI hK hX rfl w2_18 w2_19 w1_10 (by decide +kernel) th_E_55 (List.mem_of_getElem? (i := 4) rfl) (by rw [hD]; decide) (Nat.le_of_ble_eq_true rfl) d_E_prepare_71 d_E_prepare_74 (Or.inl ⟨rfl, d_E_prepare_75⟩) d_E_prepare_77 d_E_prepare_80 h
set_option maxHeartbeats 4000000 in
set_option maxRecDepth 100000 in
theorem t_E_prepare_0 {K : g_C} {o : ((Int32 ⊕ Nat) × g_St)} (hK : g_OK K b_E_prepare "FixpointEngine" "prepare" (Option.some Jvm.ClassFile.FieldType.int)) (hN : g_nL K = 2) (hD : g_Kd K = 19) (hX : g_noX K) : ∀ (r0 : Option Nat) (s0 : g_St), f_E_prepare r0 s0 = some o → g_W K s0 [(0, g_r 0 r0)] [] 0 (g_jTI o) := by
  intro r0 s0 h
  unfold f_E_prepare at h
  refine r_aload_n hK d_E_prepare_0 rfl 0 rfl ?_
  refine r_null hK 6 d_E_prepare_1 ?_
  refine r_pR hK pd_6 rfl (Or.inr rfl) fd_E_5 rfl w1_217 d_E_prepare_2 h (fun s1 h => ?_)
  refine r_aload_n hK d_E_prepare_5 rfl 0 rfl ?_
  refine r_iconst (v := 0) hK d_E_prepare_6 (by decide) ?_
  refine r_pZ hK fd_E_7 rfl w1_219 d_E_prepare_7 h (fun s2 h => ?_)
  refine r_aload_n hK d_E_prepare_10 rfl 0 rfl ?_
  refine r_gR hK fd_E_2 w1_214 d_E_prepare_11 h (fun p3 h => ?_)
  refine r_Vr (avL := []) (st := []) hK ob_Re rfl w2_131 w2_132 w2_130 w2_133 w1_2 (by decide) pl_Re_read (by rw [hD]; decide) (Nat.le_of_ble_eq_true rfl) rfl d_E_prepare_14 (fun o9 h9 => c_Re_read _ _ _ _ o9 h9) h (fun p4 s5 h => ?_)
  refine r_astore_n (ls1 := [(1, g_r 6 p4), (0, g_r 0 r0)]) hK d_E_prepare_17 rfl (by rw [hN]; decide) rfl ?_
  refine r_aload_n hK d_E_prepare_18 rfl 1 rfl ?_
  refine r_aload_n hK d_E_prepare_19 rfl 0 rfl ?_
  refine r_ifnonnull (tgt := 33) hK d_E_prepare_20 (by decide) h (fun h => ?_) (fun h => ?_)
  · refine r_aload_n hK d_E_prepare_33 rfl 1 rfl ?_
    refine r_gR hK fd_E_3 w1_215 d_E_prepare_34 h (fun p6 h => ?_)
    refine r_aload_n hK d_E_prepare_37 rfl 0 rfl ?_
    refine r_aload_n hK d_E_prepare_38 rfl 1 rfl ?_
    refine r_gR hK fd_E_0 w1_212 d_E_prepare_39 h (fun p7 h => ?_)
    refine r_aload_n hK d_E_prepare_42 rfl 1 rfl ?_
    refine r_gI hK fd_E_1 w1_213 d_E_prepare_43 h (fun i8 h => ?_)
    refine r_Vi (avL := [g_r 6 p4, g_r 29 p7, g_i i8]) (st := [g_r 0 r0]) hK ob_Ch rfl w5_121 w5_122 w5_120 w5_123 w1_3 (by decide) pl_Ch_find (by rw [hD]; decide) (Nat.le_of_ble_eq_true rfl) rfl d_E_prepare_46 (fun o9 h9 => c_Ch_find _ _ _ _ _ _ _ o9 h9) h (fun i9 s10 h => ?_)
    exact r_sub [1, 0] rfl (t_E_prepare_49 hK hN hD hX _ _ _ _ _ h)
  · refine r_aload_n hK d_E_prepare_23 rfl 1 rfl ?_
    refine r_gR hK fd_E_2 w1_214 d_E_prepare_24 h (fun p11 h => ?_)
    refine r_Vi (avL := []) (st := [g_r 0 r0]) hK ob_Re rfl w5_117 w5_118 w5_116 w5_119 w1_2 (by decide) pl_Re_stuckAt (by rw [hD]; decide) (Nat.le_of_ble_eq_true rfl) rfl d_E_prepare_27 (fun o9 h9 => c_Re_stuckAt _ _ _ _ o9 h9) h (fun i12 s13 h => ?_)
    refine r_goto (tgt := 49) hK d_E_prepare_30 (by decide) ?_
    exact r_sub [1, 0] rfl (t_E_prepare_49 hK hN hD hX _ _ _ _ _ h)
theorem c_E_prepare (l : Launch) (G : g_G) (r0 : Option Nat) (u : g_St) (o : ((Int32 ⊕ Nat) × g_St)) (h : f_E_prepare r0 u = some o) : g_Con l G y_E_prepare b_E_prepare 2 (Option.some Jvm.ClassFile.FieldType.int) 19 [g_r 0 r0] u (g_jTI o) :=
  g_Con.of rfl rfl (by decide +kernel) (Nat.le_of_ble_eq_true rfl) (fun K hK hN hD hX => t_E_prepare_0 hK hN hD hX _ _ h)
def f_E_fault (r0 : Option Nat) (s0 : g_St) : Option (Int32 × g_St) :=
  g_gI s0 384 r0 fun i1 =>
  some (i1, s0)
set_option maxHeartbeats 4000000 in
set_option maxRecDepth 100000 in
theorem t_E_fault_0 {K : g_C} {o : (Int32 × g_St)} (hK : g_OK K b_E_fault "FixpointEngine" "fault" (Option.some Jvm.ClassFile.FieldType.int)) (hN : g_nL K = 1) (hD : g_Kd K = 1) : ∀ (r0 : Option Nat) (s0 : g_St), f_E_fault r0 s0 = some o → g_W K s0 [(0, g_r 0 r0)] [] 0 (g_jI o) := by
  intro r0 s0 h
  unfold f_E_fault at h
  refine r_aload_n hK d_E_fault_0 rfl 0 rfl ?_
  refine r_gI hK fd_E_6 w1_218 d_E_fault_1 h (fun i1 h => ?_)
  exact r_ireturn hK d_E_fault_4 h
theorem c_E_fault (l : Launch) (G : g_G) (r0 : Option Nat) (u : g_St) (o : (Int32 × g_St)) (h : f_E_fault r0 u = some o) : g_Con l G y_E_fault b_E_fault 1 (Option.some Jvm.ClassFile.FieldType.int) 1 [g_r 0 r0] u (g_jI o) :=
  g_Con.of rfl rfl (by decide +kernel) (Nat.le_of_ble_eq_true rfl) (fun K hK hN hD hX => t_E_fault_0 hK hN hD _ _ h)
def f_E_part (r0 : Option Nat) (x1 : Int32) (x2 : Int32) (s0 : g_St) : Option ((Int32 ⊕ Nat) × g_St) :=
  g_gR s0 320 r0 fun p1 =>
  if p1 = none then
    g_thr s0 4
  else
    if x1 < 0 then
      g_thr s0 4
    else
      g_gR s0 320 r0 fun p2 =>
      g_gI s0 70 p2 fun i3 =>
      if x1 < i3 then
        g_gR s0 320 r0 fun p4 =>
        g_gR s0 6 p4 fun p5 =>
        g_aR s0 p5 x1 fun p6 =>
        if x2 = 0 then
          g_gI s0 903 p6 fun i7 =>
          some (Sum.inl i7, s0)
        else if x2 = 1 then
          g_gI s0 967 p6 fun i8 =>
          if i8 = 0 then
            some (Sum.inl 0, s0)
          else
            some (Sum.inl 1, s0)
        else if x2 = 2 then
          g_gI s0 455 p6 fun i9 =>
          if i9 = 0 then
            g_gI s0 135 p6 fun i10 =>
            some (Sum.inl i10, s0)
          else
            g_gI s0 135 p6 fun i11 =>
            some (Sum.inl (i11 + 1), s0)
        else 
          g_thr s0 0
      else
        g_thr s0 4
set_option maxHeartbeats 4000000 in
set_option maxRecDepth 100000 in
theorem t_E_part_0 {K : g_C} {o : ((Int32 ⊕ Nat) × g_St)} (hK : g_OK K b_E_part "FixpointEngine" "part" (Option.some Jvm.ClassFile.FieldType.int)) (hN : g_nL K = 4) (hD : g_Kd K = 7) (hX : g_noX K) : ∀ (r0 : Option Nat) (x1 : Int32) (x2 : Int32) (s0 : g_St), f_E_part r0 x1 x2 s0 = some o → g_W K s0 [(0, g_r 0 r0), (1, g_i x1), (2, g_i x2)] [] 0 (g_jTI o) := by
  intro r0 x1 x2 s0 h
  unfold f_E_part at h
  refine r_aload_n hK d_E_part_0 rfl 0 rfl ?_
  refine r_gR hK fd_E_5 w1_217 d_E_part_1 h (fun p1 h => ?_)
  refine r_ifnull (tgt := 22) hK d_E_part_4 (by decide) h (fun h => ?_) (fun h => ?_)
  · exact r_thrXI hK hX rfl w6_2 w6_3 w1_33 (by decide +kernel) (rx := prog_41_method_4_code) (ixx := 13) (by decide +kernel) (by decide +kernel) (by decide +kernel) (by decide +kernel) th_E_109 (List.mem_of_getElem? (i := 5) rfl) (by rw [hD]; decide) (Nat.le_of_ble_eq_true rfl) d_E_part_22 d_E_part_25 (Or.inl ⟨rfl, d_E_part_26⟩) d_E_part_28 d_E_part_31 h
  · refine r_iload_n hK d_E_part_7 rfl 1 rfl ?_
    refine r_iflt (tgt := 22) hK d_E_part_8 (by decide) h (fun h => ?_) (fun h => ?_)
    · exact r_thrXI hK hX rfl w6_2 w6_3 w1_33 (by decide +kernel) (rx := prog_41_method_4_code) (ixx := 13) (by decide +kernel) (by decide +kernel) (by decide +kernel) (by decide +kernel) th_E_109 (List.mem_of_getElem? (i := 5) rfl) (by rw [hD]; decide) (Nat.le_of_ble_eq_true rfl) d_E_part_22 d_E_part_25 (Or.inl ⟨rfl, d_E_part_26⟩) d_E_part_28 d_E_part_31 h
    · refine r_iload_n hK d_E_part_11 rfl 1 rfl ?_
      refine r_aload_n hK d_E_part_12 rfl 0 rfl ?_
      refine r_gR hK fd_E_5 w1_217 d_E_part_13 h (fun p2 h => ?_)
      refine r_gI hK fd_Qu_1 w3_28 d_E_part_16 h (fun i3 h => ?_)
      refine r_if_icmplt (tgt := 32) hK d_E_part_19 (by decide) h (fun h => ?_) (fun h => ?_)
      · refine r_aload_n hK d_E_part_32 rfl 0 rfl ?_
        refine r_gR hK fd_E_5 w1_217 d_E_part_33 h (fun p4 h => ?_)
        refine r_gR hK fd_Qu_0 w3_24 d_E_part_36 h (fun p5 h => ?_)
        refine r_iload_n hK d_E_part_39 rfl 1 rfl ?_
        refine r_aaload hK rfl ar_24 rfl d_E_part_40 h (fun p6 h => ?_)
        refine r_astore_n (ls1 := [(3, g_r 7 p6), (0, g_r 0 r0), (1, g_i x1), (2, g_i x2)]) hK d_E_part_41 rfl (by rw [hN]; decide) rfl ?_
        refine r_iload_n hK d_E_part_42 rfl 3 rfl ?_
        by_cases q0 : x2 = (0 : Int32)
        · rw [if_pos q0] at h
          refine r_tswIn (tgt := 68) (off := 25) hK 0 q0 d_E_part_43 (by decide) (by decide) (by decide) (by decide) ?_
          refine r_aload_n hK d_E_part_68 rfl 0 rfl ?_
          refine r_gI hK fd_Pa_14 w3_136 d_E_part_69 h (fun i7 h => ?_)
          exact r_ireturnT hK d_E_part_72 h
        rw [if_neg q0] at h
        by_cases q1 : x2 = (1 : Int32)
        · rw [if_pos q1] at h
          refine r_tswIn (tgt := 73) (off := 30) hK 1 q1 d_E_part_43 (by decide) (by decide) (by decide) (by decide) ?_
          refine r_aload_n hK d_E_part_73 rfl 0 rfl ?_
          refine r_gI hK fd_Pa_15 w3_139 d_E_part_74 h (fun i8 h => ?_)
          refine r_ifeq (tgt := 84) hK d_E_part_77 (by decide) h (fun h => ?_) (fun h => ?_)
          · refine r_iconst (v := 0) hK d_E_part_84 (by decide) ?_
            exact r_ireturnT hK d_E_part_85 h
          · refine r_iconst (v := 1) hK d_E_part_80 (by decide) ?_
            refine r_goto (tgt := 85) hK d_E_part_81 (by decide) ?_
            exact r_ireturnT hK d_E_part_85 h
        rw [if_neg q1] at h
        by_cases q2 : x2 = (2 : Int32)
        · rw [if_pos q2] at h
          refine r_tswIn (tgt := 86) (off := 43) hK 2 q2 d_E_part_43 (by decide) (by decide) (by decide) (by decide) ?_
          refine r_aload_n hK d_E_part_86 rfl 0 rfl ?_
          refine r_gI hK fd_Pa_7 w3_116 d_E_part_87 h (fun i9 h => ?_)
          refine r_ifeq (tgt := 102) hK d_E_part_90 (by decide) h (fun h => ?_) (fun h => ?_)
          · refine r_aload_n hK d_E_part_102 rfl 0 rfl ?_
            refine r_gI hK fd_Pa_2 w3_99 d_E_part_103 h (fun i10 h => ?_)
            exact r_ireturnT hK d_E_part_106 h
          · refine r_aload_n hK d_E_part_93 rfl 0 rfl ?_
            refine r_gI hK fd_Pa_2 w3_99 d_E_part_94 h (fun i11 h => ?_)
            refine r_iconst (v := 1) hK d_E_part_97 (by decide) ?_
            refine r_iadd hK d_E_part_98 ?_
            refine r_goto (tgt := 106) hK d_E_part_99 (by decide) ?_
            exact r_ireturnT hK d_E_part_106 h
        rw [if_neg q2] at h
        refine r_tswOut (tgt := 107) hK d_E_part_43 (by have z0 := lv_neT (a := 0) q0 (by decide); have z1 := lv_neT (a := 1) q1 (by decide); have z2 := lv_neT (a := 2) q2 (by decide); omega) (by decide) ?_
        exact r_thrI hK hX rfl w2_18 w2_19 w1_10 (by decide +kernel) th_E_55 (List.mem_of_getElem? (i := 6) rfl) (by rw [hD]; decide) (Nat.le_of_ble_eq_true rfl) d_E_part_107 d_E_part_110 (Or.inl ⟨rfl, d_E_part_111⟩) d_E_part_113 d_E_part_116 h
      · exact r_thrXI hK hX rfl w6_2 w6_3 w1_33 (by decide +kernel) (rx := prog_41_method_4_code) (ixx := 13) (by decide +kernel) (by decide +kernel) (by decide +kernel) (by decide +kernel) th_E_109 (List.mem_of_getElem? (i := 5) rfl) (by rw [hD]; decide) (Nat.le_of_ble_eq_true rfl) d_E_part_22 d_E_part_25 (Or.inl ⟨rfl, d_E_part_26⟩) d_E_part_28 d_E_part_31 h
theorem c_E_part (l : Launch) (G : g_G) (r0 : Option Nat) (x1 : Int32) (x2 : Int32) (u : g_St) (o : ((Int32 ⊕ Nat) × g_St)) (h : f_E_part r0 x1 x2 u = some o) : g_Con l G y_E_part b_E_part 4 (Option.some Jvm.ClassFile.FieldType.int) 7 [g_r 0 r0, g_i x1, g_i x2] u (g_jTI o) :=
  g_Con.of rfl rfl (by decide +kernel) (Nat.le_of_ble_eq_true rfl) (fun K hK hN hD hX => t_E_part_0 hK hN hD hX _ _ _ _ h)
def f_E_run_73 : Nat → Option Nat → Int32 → g_St → Option ((Int32 ⊕ Nat) × g_St)
  | 0, _, _, _ => none
  | n + 1, r0, x3, s0 =>
    g_gR s0 320 r0 fun p1 =>
    g_gI s0 454 p1 fun i2 =>
    if i2 ≤ x3 then
      g_gR s0 256 r0 fun p3 =>
      g_gR s0 320 r0 fun p4 =>
      g_gR s0 198 p4 fun p5 =>
      g_cT (g_nn p3 (f_Ru_work p3 p5 4 s0)) fun _ s7 =>
      g_gR s7 256 r0 fun p8 =>
      g_c (g_nn p8 (f_Ru_sort p8 s7)) fun _ s10 =>
      g_pZ s10 448 r0 1 fun s11 =>
      g_gR s11 256 r0 fun p12 =>
      g_gR s11 4 p12 fun p13 =>
      g_aR s11 p13 4 fun p14 =>
      g_gI s11 261 p14 fun i15 =>
      some (Sum.inl i15, s11)
    else
      g_gR s0 256 r0 fun p16 =>
      g_cT (g_nn p16 (f_Ru_component p16 x3 s0)) fun _ s18 =>
      f_E_run_73 n r0 (x3 + 1) s18
def f_E_run (r0 : Option Nat) (x1 : Int32) (x2 : Int32) (s0 : g_St) : Option ((Int32 ⊕ Nat) × g_St) :=
  if x1 < 1 then
    g_thr s0 0
  else
    if 30 < x1 then
      g_thr s0 0
    else
      if x2 < 1 then
        g_thr s0 0
      else
        if x2 ≤ 48 then
          g_gR s0 320 r0 fun p1 =>
          if p1 = none then
            g_thr s0 1
          else
            g_pZ s0 448 r0 0 fun s2 =>
            g_gR s2 256 r0 fun p3 =>
            g_gR s2 320 r0 fun p4 =>
            g_gR s2 0 r0 fun p5 =>
            g_c (g_nn p3 (f_Ru_begin p3 p4 p5 x1 x2 s2)) fun _ s7 =>
            f_E_run_73 200000 r0 0 s7
        else
          g_thr s0 0
set_option maxHeartbeats 4000000 in
set_option maxRecDepth 100000 in
theorem t_E_run_73 {K : g_C} {o : ((Int32 ⊕ Nat) × g_St)} (hK : g_OK K b_E_run "FixpointEngine" "run" (Option.some Jvm.ClassFile.FieldType.int)) (hN : g_nL K = 4) (hD : g_Kd K = 22) (hX : g_noX K) : ∀ (n : Nat) (r0 : Option Nat) (x3 : Int32) (s0 : g_St), f_E_run_73 n r0 x3 s0 = some o → g_W K s0 [(0, g_r 0 r0), (3, g_i x3)] [] 73 (g_jTI o) := by
  intro n
  induction n with
  | zero =>
    intro r0 x3 s0 h
    cases h
  | succ n ih =>
    intro r0 x3 s0 h
    unfold f_E_run_73 at h
    refine r_iload_n hK d_E_run_73 rfl 1 rfl ?_
    refine r_aload_n hK d_E_run_74 rfl 0 rfl ?_
    refine r_gR hK fd_E_5 w1_217 d_E_run_75 h (fun p1 h => ?_)
    refine r_gI hK fd_Qu_7 w3_44 d_E_run_78 h (fun i2 h => ?_)
    refine r_if_icmpge (tgt := 98) hK d_E_run_81 (by decide) h (fun h => ?_) (fun h => ?_)
    · refine r_aload_n hK d_E_run_98 rfl 0 rfl ?_
      refine r_gR hK fd_E_4 w1_216 d_E_run_99 h (fun p3 h => ?_)
      refine r_aload_n hK d_E_run_102 rfl 0 rfl ?_
      refine r_gR hK fd_E_5 w1_217 d_E_run_103 h (fun p4 h => ?_)
      refine r_gR hK fd_Qu_3 w3_33 d_E_run_106 h (fun p5 h => ?_)
      refine r_iconst (v := 4) hK d_E_run_109 (by decide) ?_
      refine r_VTvI (avL := [g_r 8 p5, g_i 4]) (st := []) hK hX ob_Ru rfl w6_51 w6_52 w6_188 w6_53 w1_4 (by decide) pl_Ru_work (by rw [hD]; decide) (Nat.le_of_ble_eq_true rfl) rfl d_E_run_110 (fun o9 h9 => c_Ru_work _ _ _ _ _ _ o9 h9) h (fun s7 h => ?_)
      refine r_aload_n hK d_E_run_113 rfl 0 rfl ?_
      refine r_gR hK fd_E_4 w1_216 d_E_run_114 h (fun p8 h => ?_)
      refine r_Vv (avL := []) (st := []) hK ob_Ru rfl w6_190 w6_191 w6_189 w6_192 w1_4 (by decide) pl_Ru_sort (by rw [hD]; decide) (Nat.le_of_ble_eq_true rfl) rfl d_E_run_117 (fun o9 h9 => c_Ru_sort _ _ _ _ o9 h9) h (fun s10 h => ?_)
      refine r_aload_n hK d_E_run_120 rfl 0 rfl ?_
      refine r_iconst (v := 1) hK d_E_run_121 (by decide) ?_
      refine r_pZ hK fd_E_7 rfl w1_219 d_E_run_122 h (fun s11 h => ?_)
      refine r_aload_n hK d_E_run_125 rfl 0 rfl ?_
      refine r_gR hK fd_E_4 w1_216 d_E_run_126 h (fun p12 h => ?_)
      refine r_gR hK fd_Ru_0 w1_155 d_E_run_129 h (fun p13 h => ?_)
      refine r_iconst (v := 4) hK d_E_run_132 (by decide) ?_
      refine r_aaload hK rfl ar_29 rfl d_E_run_133 h (fun p14 h => ?_)
      refine r_gI hK fd_Rl_4 w1_133 d_E_run_134 h (fun i15 h => ?_)
      exact r_ireturnT hK d_E_run_137 h
    · refine r_aload_n hK d_E_run_84 rfl 0 rfl ?_
      refine r_gR hK fd_E_4 w1_216 d_E_run_85 h (fun p16 h => ?_)
      refine r_iload_n hK d_E_run_88 rfl 1 rfl ?_
      refine r_VTvI (avL := [g_i x3]) (st := []) hK hX ob_Ru rfl w6_39 w6_40 w6_38 w6_41 w1_4 (by decide) pl_Ru_component (by rw [hD]; decide) (Nat.le_of_ble_eq_true rfl) rfl d_E_run_89 (fun o9 h9 => c_Ru_component _ _ _ _ _ o9 h9) h (fun s18 h => ?_)
      refine r_iinc (ls1 := [(3, g_i (x3 + 1)), (0, g_r 0 r0)]) hK d_E_run_92 1 rfl rfl (by rw [hN]; decide) rfl ?_
      refine r_goto (tgt := 73) hK d_E_run_95 (by decide) ?_
      exact r_sub [1, 0] rfl (ih _ _ _ h)
set_option maxHeartbeats 4000000 in
set_option maxRecDepth 100000 in
theorem t_E_run_0 {K : g_C} {o : ((Int32 ⊕ Nat) × g_St)} (hK : g_OK K b_E_run "FixpointEngine" "run" (Option.some Jvm.ClassFile.FieldType.int)) (hN : g_nL K = 4) (hD : g_Kd K = 22) (hX : g_noX K) : ∀ (r0 : Option Nat) (x1 : Int32) (x2 : Int32) (s0 : g_St), f_E_run r0 x1 x2 s0 = some o → g_W K s0 [(0, g_r 0 r0), (1, g_i x1), (2, g_i x2)] [] 0 (g_jTI o) := by
  intro r0 x1 x2 s0 h
  unfold f_E_run at h
  refine r_iload_n hK d_E_run_0 rfl 1 rfl ?_
  refine r_iconst (v := 1) hK d_E_run_1 (by decide) ?_
  refine r_if_icmplt (tgt := 22) hK d_E_run_2 (by decide) h (fun h => ?_) (fun h => ?_)
  · exact r_thrI hK hX rfl w2_18 w2_19 w1_10 (by decide +kernel) th_E_55 (List.mem_of_getElem? (i := 7) rfl) (by rw [hD]; decide) (Nat.le_of_ble_eq_true rfl) d_E_run_22 d_E_run_25 (Or.inl ⟨rfl, d_E_run_26⟩) d_E_run_28 d_E_run_31 h
  · refine r_iload_n hK d_E_run_5 rfl 1 rfl ?_
    refine r_bipush (v := 30) hK d_E_run_6 (by decide) ?_
    refine r_if_icmpgt (tgt := 22) hK d_E_run_8 (by decide) h (fun h => ?_) (fun h => ?_)
    · exact r_thrI hK hX rfl w2_18 w2_19 w1_10 (by decide +kernel) th_E_55 (List.mem_of_getElem? (i := 7) rfl) (by rw [hD]; decide) (Nat.le_of_ble_eq_true rfl) d_E_run_22 d_E_run_25 (Or.inl ⟨rfl, d_E_run_26⟩) d_E_run_28 d_E_run_31 h
    · refine r_iload_n hK d_E_run_11 rfl 2 rfl ?_
      refine r_iconst (v := 1) hK d_E_run_12 (by decide) ?_
      refine r_if_icmplt (tgt := 22) hK d_E_run_13 (by decide) h (fun h => ?_) (fun h => ?_)
      · exact r_thrI hK hX rfl w2_18 w2_19 w1_10 (by decide +kernel) th_E_55 (List.mem_of_getElem? (i := 7) rfl) (by rw [hD]; decide) (Nat.le_of_ble_eq_true rfl) d_E_run_22 d_E_run_25 (Or.inl ⟨rfl, d_E_run_26⟩) d_E_run_28 d_E_run_31 h
      · refine r_iload_n hK d_E_run_16 rfl 2 rfl ?_
        refine r_bipush (v := 48) hK d_E_run_17 (by decide) ?_
        refine r_if_icmple (tgt := 32) hK d_E_run_19 (by decide) h (fun h => ?_) (fun h => ?_)
        · refine r_aload_n hK d_E_run_32 rfl 0 rfl ?_
          refine r_gR hK fd_E_5 w1_217 d_E_run_33 h (fun p1 h => ?_)
          refine r_ifnonnull (tgt := 49) hK d_E_run_36 (by decide) h (fun h => ?_) (fun h => ?_)
          · refine r_aload_n hK d_E_run_49 rfl 0 rfl ?_
            refine r_iconst (v := 0) hK d_E_run_50 (by decide) ?_
            refine r_pZ hK fd_E_7 rfl w1_219 d_E_run_51 h (fun s2 h => ?_)
            refine r_aload_n hK d_E_run_54 rfl 0 rfl ?_
            refine r_gR hK fd_E_4 w1_216 d_E_run_55 h (fun p3 h => ?_)
            refine r_aload_n hK d_E_run_58 rfl 0 rfl ?_
            refine r_gR hK fd_E_5 w1_217 d_E_run_59 h (fun p4 h => ?_)
            refine r_aload_n hK d_E_run_62 rfl 0 rfl ?_
            refine r_gR hK fd_E_0 w1_212 d_E_run_63 h (fun p5 h => ?_)
            refine r_iload_n hK d_E_run_66 rfl 1 rfl ?_
            refine r_iload_n hK d_E_run_67 rfl 2 rfl ?_
            refine r_Vv (avL := [g_r 6 p4, g_r 29 p5, g_i x1, g_i x2]) (st := []) hK ob_Ru rfl w6_31 w6_32 w6_30 w6_33 w1_4 (by decide) pl_Ru_begin (by rw [hD]; decide) (Nat.le_of_ble_eq_true rfl) rfl d_E_run_68 (fun o9 h9 => c_Ru_begin _ _ _ _ _ _ _ _ o9 h9) h (fun s7 h => ?_)
            refine r_iconst (v := 0) hK d_E_run_71 (by decide) ?_
            refine r_istore_n (ls1 := [(3, g_i 0), (0, g_r 0 r0), (1, g_i x1), (2, g_i x2)]) hK d_E_run_72 rfl (by rw [hN]; decide) rfl ?_
            exact r_sub [1, 0] rfl (t_E_run_73 hK hN hD hX _ _ _ _ h)
          · exact r_thrI hK hX rfl w2_89 w2_90 w1_11 (by decide +kernel) th_E_62 (List.mem_of_getElem? (i := 8) rfl) (by rw [hD]; decide) (Nat.le_of_ble_eq_true rfl) d_E_run_39 d_E_run_42 (Or.inl ⟨rfl, d_E_run_43⟩) d_E_run_45 d_E_run_48 h
        · exact r_thrI hK hX rfl w2_18 w2_19 w1_10 (by decide +kernel) th_E_55 (List.mem_of_getElem? (i := 7) rfl) (by rw [hD]; decide) (Nat.le_of_ble_eq_true rfl) d_E_run_22 d_E_run_25 (Or.inl ⟨rfl, d_E_run_26⟩) d_E_run_28 d_E_run_31 h
theorem c_E_run (l : Launch) (G : g_G) (r0 : Option Nat) (x1 : Int32) (x2 : Int32) (u : g_St) (o : ((Int32 ⊕ Nat) × g_St)) (h : f_E_run r0 x1 x2 u = some o) : g_Con l G y_E_run b_E_run 4 (Option.some Jvm.ClassFile.FieldType.int) 22 [g_r 0 r0, g_i x1, g_i x2] u (g_jTI o) :=
  g_Con.of rfl rfl (by decide +kernel) (Nat.le_of_ble_eq_true rfl) (fun K hK hN hD hX => t_E_run_0 hK hN hD hX _ _ _ _ h)
def f_E_cell (r0 : Option Nat) (x1 : Int32) (x2 : Int32) (s0 : g_St) : Option ((Int64 ⊕ Nat) × g_St) :=
  g_gI s0 448 r0 fun i1 =>
  if i1 = 0 then
    g_thr s0 5
  else
    if x1 < 0 then
      g_thr s0 5
    else
      g_gR s0 256 r0 fun p2 =>
      g_gR s0 4 p2 fun p3 =>
      g_aR s0 p3 4 fun p4 =>
      g_gI s0 261 p4 fun i5 =>
      if i5 ≤ x1 then
        g_thr s0 5
      else
        if x2 < 0 then
          g_thr s0 5
        else
          g_gR s0 320 r0 fun p6 =>
          g_gR s0 198 p6 fun p7 =>
          g_gI s0 264 p7 fun i8 =>
          if x2 < i8 then
            g_gR s0 256 r0 fun p9 =>
            g_gR s0 4 p9 fun p10 =>
            g_aR s0 p10 4 fun p11 =>
            g_gR s0 69 p11 fun p12 =>
            g_gR s0 256 r0 fun p13 =>
            g_gR s0 132 p13 fun p14 =>
            g_aI s0 p14 x1 fun i15 =>
            g_aL s0 p12 ((i15 * 4) + x2) fun j16 =>
            some (Sum.inl j16, s0)
          else
            g_thr s0 5
set_option maxHeartbeats 4000000 in
set_option maxRecDepth 100000 in
theorem t_E_cell_0 {K : g_C} {o : ((Int64 ⊕ Nat) × g_St)} (hK : g_OK K b_E_cell "FixpointEngine" "cell" (Option.some Jvm.ClassFile.FieldType.long)) (hN : g_nL K = 3) (hD : g_Kd K = 7) (hX : g_noX K) : ∀ (r0 : Option Nat) (x1 : Int32) (x2 : Int32) (s0 : g_St), f_E_cell r0 x1 x2 s0 = some o → g_W K s0 [(0, g_r 0 r0), (1, g_i x1), (2, g_i x2)] [] 0 (g_jTL o) := by
  intro r0 x1 x2 s0 h
  unfold f_E_cell at h
  refine r_aload_n hK d_E_cell_0 rfl 0 rfl ?_
  refine r_gI hK fd_E_7 w1_219 d_E_cell_1 h (fun i1 h => ?_)
  refine r_ifeq (tgt := 45) hK d_E_cell_4 (by decide) h (fun h => ?_) (fun h => ?_)
  · exact r_thrL hK hX rfl w6_225 w6_226 w1_38 (by decide +kernel) th_E_167 (List.mem_of_getElem? (i := 9) rfl) (by rw [hD]; decide) (Nat.le_of_ble_eq_true rfl) d_E_cell_45 d_E_cell_48 (Or.inl ⟨rfl, d_E_cell_49⟩) d_E_cell_51 d_E_cell_54 h
  · refine r_iload_n hK d_E_cell_7 rfl 1 rfl ?_
    refine r_iflt (tgt := 45) hK d_E_cell_8 (by decide) h (fun h => ?_) (fun h => ?_)
    · exact r_thrL hK hX rfl w6_225 w6_226 w1_38 (by decide +kernel) th_E_167 (List.mem_of_getElem? (i := 9) rfl) (by rw [hD]; decide) (Nat.le_of_ble_eq_true rfl) d_E_cell_45 d_E_cell_48 (Or.inl ⟨rfl, d_E_cell_49⟩) d_E_cell_51 d_E_cell_54 h
    · refine r_iload_n hK d_E_cell_11 rfl 1 rfl ?_
      refine r_aload_n hK d_E_cell_12 rfl 0 rfl ?_
      refine r_gR hK fd_E_4 w1_216 d_E_cell_13 h (fun p2 h => ?_)
      refine r_gR hK fd_Ru_0 w1_155 d_E_cell_16 h (fun p3 h => ?_)
      refine r_iconst (v := 4) hK d_E_cell_19 (by decide) ?_
      refine r_aaload hK rfl ar_29 rfl d_E_cell_20 h (fun p4 h => ?_)
      refine r_gI hK fd_Rl_4 w1_133 d_E_cell_21 h (fun i5 h => ?_)
      refine r_if_icmpge (tgt := 45) hK d_E_cell_24 (by decide) h (fun h => ?_) (fun h => ?_)
      · exact r_thrL hK hX rfl w6_225 w6_226 w1_38 (by decide +kernel) th_E_167 (List.mem_of_getElem? (i := 9) rfl) (by rw [hD]; decide) (Nat.le_of_ble_eq_true rfl) d_E_cell_45 d_E_cell_48 (Or.inl ⟨rfl, d_E_cell_49⟩) d_E_cell_51 d_E_cell_54 h
      · refine r_iload_n hK d_E_cell_27 rfl 2 rfl ?_
        refine r_iflt (tgt := 45) hK d_E_cell_28 (by decide) h (fun h => ?_) (fun h => ?_)
        · exact r_thrL hK hX rfl w6_225 w6_226 w1_38 (by decide +kernel) th_E_167 (List.mem_of_getElem? (i := 9) rfl) (by rw [hD]; decide) (Nat.le_of_ble_eq_true rfl) d_E_cell_45 d_E_cell_48 (Or.inl ⟨rfl, d_E_cell_49⟩) d_E_cell_51 d_E_cell_54 h
        · refine r_iload_n hK d_E_cell_31 rfl 2 rfl ?_
          refine r_aload_n hK d_E_cell_32 rfl 0 rfl ?_
          refine r_gR hK fd_E_5 w1_217 d_E_cell_33 h (fun p6 h => ?_)
          refine r_gR hK fd_Qu_3 w3_33 d_E_cell_36 h (fun p7 h => ?_)
          refine r_gI hK fd_Se_4 w3_233 d_E_cell_39 h (fun i8 h => ?_)
          refine r_if_icmplt (tgt := 55) hK d_E_cell_42 (by decide) h (fun h => ?_) (fun h => ?_)
          · refine r_aload_n hK d_E_cell_55 rfl 0 rfl ?_
            refine r_gR hK fd_E_4 w1_216 d_E_cell_56 h (fun p9 h => ?_)
            refine r_gR hK fd_Ru_0 w1_155 d_E_cell_59 h (fun p10 h => ?_)
            refine r_iconst (v := 4) hK d_E_cell_62 (by decide) ?_
            refine r_aaload hK rfl ar_29 rfl d_E_cell_63 h (fun p11 h => ?_)
            refine r_gR hK fd_Rl_1 w1_128 d_E_cell_64 h (fun p12 h => ?_)
            refine r_aload_n hK d_E_cell_67 rfl 0 rfl ?_
            refine r_gR hK fd_E_4 w1_216 d_E_cell_68 h (fun p13 h => ?_)
            refine r_gR hK fd_Ru_2 w1_159 d_E_cell_71 h (fun p14 h => ?_)
            refine r_iload_n hK d_E_cell_74 rfl 1 rfl ?_
            refine r_iaload hK ar_20 rfl d_E_cell_75 h (fun i15 h => ?_)
            refine r_iconst (v := 4) hK d_E_cell_76 (by decide) ?_
            refine r_imul hK d_E_cell_77 ?_
            refine r_iload_n hK d_E_cell_78 rfl 2 rfl ?_
            refine r_iadd hK d_E_cell_79 ?_
            refine r_laload hK ar_21 rfl d_E_cell_80 h (fun j16 h => ?_)
            exact r_lreturnT hK d_E_cell_81 h
          · exact r_thrL hK hX rfl w6_225 w6_226 w1_38 (by decide +kernel) th_E_167 (List.mem_of_getElem? (i := 9) rfl) (by rw [hD]; decide) (Nat.le_of_ble_eq_true rfl) d_E_cell_45 d_E_cell_48 (Or.inl ⟨rfl, d_E_cell_49⟩) d_E_cell_51 d_E_cell_54 h
theorem c_E_cell (l : Launch) (G : g_G) (r0 : Option Nat) (x1 : Int32) (x2 : Int32) (u : g_St) (o : ((Int64 ⊕ Nat) × g_St)) (h : f_E_cell r0 x1 x2 u = some o) : g_Con l G y_E_cell b_E_cell 3 (Option.some Jvm.ClassFile.FieldType.long) 7 [g_r 0 r0, g_i x1, g_i x2] u (g_jTL o) :=
  g_Con.of rfl rfl (by decide +kernel) (Nat.le_of_ble_eq_true rfl) (fun K hK hN hD hX => t_E_cell_0 hK hN hD hX _ _ _ _ h)
def f_E_size (r0 : Option Nat) (x1 : Int32) (s0 : g_St) : Option ((Int32 ⊕ Nat) × g_St) :=
  g_gI s0 448 r0 fun i1 =>
  if i1 = 0 then
    g_thr s0 5
  else
    if x1 < 0 then
      g_thr s0 5
    else
      g_gR s0 320 r0 fun p2 =>
      g_gI s0 70 p2 fun i3 =>
      if x1 < i3 then
        g_gR s0 256 r0 fun p4 =>
        g_gR s0 4 p4 fun p5 =>
        g_aR s0 p5 x1 fun p6 =>
        g_gI s0 261 p6 fun i7 =>
        some (Sum.inl i7, s0)
      else
        g_thr s0 5
set_option maxHeartbeats 4000000 in
set_option maxRecDepth 100000 in
theorem t_E_size_0 {K : g_C} {o : ((Int32 ⊕ Nat) × g_St)} (hK : g_OK K b_E_size "FixpointEngine" "size" (Option.some Jvm.ClassFile.FieldType.int)) (hN : g_nL K = 2) (hD : g_Kd K = 7) (hX : g_noX K) : ∀ (r0 : Option Nat) (x1 : Int32) (s0 : g_St), f_E_size r0 x1 s0 = some o → g_W K s0 [(0, g_r 0 r0), (1, g_i x1)] [] 0 (g_jTI o) := by
  intro r0 x1 s0 h
  unfold f_E_size at h
  refine r_aload_n hK d_E_size_0 rfl 0 rfl ?_
  refine r_gI hK fd_E_7 w1_219 d_E_size_1 h (fun i1 h => ?_)
  refine r_ifeq (tgt := 22) hK d_E_size_4 (by decide) h (fun h => ?_) (fun h => ?_)
  · exact r_thrI hK hX rfl w6_225 w6_226 w1_38 (by decide +kernel) th_E_167 (List.mem_of_getElem? (i := 10) rfl) (by rw [hD]; decide) (Nat.le_of_ble_eq_true rfl) d_E_size_22 d_E_size_25 (Or.inl ⟨rfl, d_E_size_26⟩) d_E_size_28 d_E_size_31 h
  · refine r_iload_n hK d_E_size_7 rfl 1 rfl ?_
    refine r_iflt (tgt := 22) hK d_E_size_8 (by decide) h (fun h => ?_) (fun h => ?_)
    · exact r_thrI hK hX rfl w6_225 w6_226 w1_38 (by decide +kernel) th_E_167 (List.mem_of_getElem? (i := 10) rfl) (by rw [hD]; decide) (Nat.le_of_ble_eq_true rfl) d_E_size_22 d_E_size_25 (Or.inl ⟨rfl, d_E_size_26⟩) d_E_size_28 d_E_size_31 h
    · refine r_iload_n hK d_E_size_11 rfl 1 rfl ?_
      refine r_aload_n hK d_E_size_12 rfl 0 rfl ?_
      refine r_gR hK fd_E_5 w1_217 d_E_size_13 h (fun p2 h => ?_)
      refine r_gI hK fd_Qu_1 w3_28 d_E_size_16 h (fun i3 h => ?_)
      refine r_if_icmplt (tgt := 32) hK d_E_size_19 (by decide) h (fun h => ?_) (fun h => ?_)
      · refine r_aload_n hK d_E_size_32 rfl 0 rfl ?_
        refine r_gR hK fd_E_4 w1_216 d_E_size_33 h (fun p4 h => ?_)
        refine r_gR hK fd_Ru_0 w1_155 d_E_size_36 h (fun p5 h => ?_)
        refine r_iload_n hK d_E_size_39 rfl 1 rfl ?_
        refine r_aaload hK rfl ar_29 rfl d_E_size_40 h (fun p6 h => ?_)
        refine r_gI hK fd_Rl_4 w1_133 d_E_size_41 h (fun i7 h => ?_)
        exact r_ireturnT hK d_E_size_44 h
      · exact r_thrI hK hX rfl w6_225 w6_226 w1_38 (by decide +kernel) th_E_167 (List.mem_of_getElem? (i := 10) rfl) (by rw [hD]; decide) (Nat.le_of_ble_eq_true rfl) d_E_size_22 d_E_size_25 (Or.inl ⟨rfl, d_E_size_26⟩) d_E_size_28 d_E_size_31 h
theorem c_E_size (l : Launch) (G : g_G) (r0 : Option Nat) (x1 : Int32) (u : g_St) (o : ((Int32 ⊕ Nat) × g_St)) (h : f_E_size r0 x1 u = some o) : g_Con l G y_E_size b_E_size 2 (Option.some Jvm.ClassFile.FieldType.int) 7 [g_r 0 r0, g_i x1] u (g_jTI o) :=
  g_Con.of rfl rfl (by decide +kernel) (Nat.le_of_ble_eq_true rfl) (fun K hK hN hD hX => t_E_size_0 hK hN hD hX _ _ _ h)
def f_E_rounds (r0 : Option Nat) (x1 : Int32) (x2 : Int32) (s0 : g_St) : Option ((Int32 ⊕ Nat) × g_St) :=
  g_gI s0 448 r0 fun i1 =>
  if i1 = 0 then
    g_thr s0 5
  else
    if x1 < 0 then
      g_thr s0 5
    else
      g_gR s0 320 r0 fun p2 =>
      g_gI s0 454 p2 fun i3 =>
      if i3 ≤ x1 then
        g_thr s0 5
      else
        if x2 < 0 then
          g_thr s0 5
        else
          g_gR s0 256 r0 fun p4 =>
          g_gR s0 68 p4 fun p5 =>
          g_aI s0 p5 (x1 * 31) fun i6 =>
          if x2 ≤ i6 then
            g_gR s0 256 r0 fun p7 =>
            g_gR s0 68 p7 fun p8 =>
            g_aI s0 p8 ((x1 * 31) + x2) fun i9 =>
            some (Sum.inl i9, s0)
          else
            g_thr s0 5
set_option maxHeartbeats 4000000 in
set_option maxRecDepth 100000 in
theorem t_E_rounds_0 {K : g_C} {o : ((Int32 ⊕ Nat) × g_St)} (hK : g_OK K b_E_rounds "FixpointEngine" "rounds" (Option.some Jvm.ClassFile.FieldType.int)) (hN : g_nL K = 3) (hD : g_Kd K = 7) (hX : g_noX K) : ∀ (r0 : Option Nat) (x1 : Int32) (x2 : Int32) (s0 : g_St), f_E_rounds r0 x1 x2 s0 = some o → g_W K s0 [(0, g_r 0 r0), (1, g_i x1), (2, g_i x2)] [] 0 (g_jTI o) := by
  intro r0 x1 x2 s0 h
  unfold f_E_rounds at h
  refine r_aload_n hK d_E_rounds_0 rfl 0 rfl ?_
  refine r_gI hK fd_E_7 w1_219 d_E_rounds_1 h (fun i1 h => ?_)
  refine r_ifeq (tgt := 42) hK d_E_rounds_4 (by decide) h (fun h => ?_) (fun h => ?_)
  · exact r_thrI hK hX rfl w6_225 w6_226 w1_38 (by decide +kernel) th_E_167 (List.mem_of_getElem? (i := 11) rfl) (by rw [hD]; decide) (Nat.le_of_ble_eq_true rfl) d_E_rounds_42 d_E_rounds_45 (Or.inl ⟨rfl, d_E_rounds_46⟩) d_E_rounds_48 d_E_rounds_51 h
  · refine r_iload_n hK d_E_rounds_7 rfl 1 rfl ?_
    refine r_iflt (tgt := 42) hK d_E_rounds_8 (by decide) h (fun h => ?_) (fun h => ?_)
    · exact r_thrI hK hX rfl w6_225 w6_226 w1_38 (by decide +kernel) th_E_167 (List.mem_of_getElem? (i := 11) rfl) (by rw [hD]; decide) (Nat.le_of_ble_eq_true rfl) d_E_rounds_42 d_E_rounds_45 (Or.inl ⟨rfl, d_E_rounds_46⟩) d_E_rounds_48 d_E_rounds_51 h
    · refine r_iload_n hK d_E_rounds_11 rfl 1 rfl ?_
      refine r_aload_n hK d_E_rounds_12 rfl 0 rfl ?_
      refine r_gR hK fd_E_5 w1_217 d_E_rounds_13 h (fun p2 h => ?_)
      refine r_gI hK fd_Qu_7 w3_44 d_E_rounds_16 h (fun i3 h => ?_)
      refine r_if_icmpge (tgt := 42) hK d_E_rounds_19 (by decide) h (fun h => ?_) (fun h => ?_)
      · exact r_thrI hK hX rfl w6_225 w6_226 w1_38 (by decide +kernel) th_E_167 (List.mem_of_getElem? (i := 11) rfl) (by rw [hD]; decide) (Nat.le_of_ble_eq_true rfl) d_E_rounds_42 d_E_rounds_45 (Or.inl ⟨rfl, d_E_rounds_46⟩) d_E_rounds_48 d_E_rounds_51 h
      · refine r_iload_n hK d_E_rounds_22 rfl 2 rfl ?_
        refine r_iflt (tgt := 42) hK d_E_rounds_23 (by decide) h (fun h => ?_) (fun h => ?_)
        · exact r_thrI hK hX rfl w6_225 w6_226 w1_38 (by decide +kernel) th_E_167 (List.mem_of_getElem? (i := 11) rfl) (by rw [hD]; decide) (Nat.le_of_ble_eq_true rfl) d_E_rounds_42 d_E_rounds_45 (Or.inl ⟨rfl, d_E_rounds_46⟩) d_E_rounds_48 d_E_rounds_51 h
        · refine r_iload_n hK d_E_rounds_26 rfl 2 rfl ?_
          refine r_aload_n hK d_E_rounds_27 rfl 0 rfl ?_
          refine r_gR hK fd_E_4 w1_216 d_E_rounds_28 h (fun p4 h => ?_)
          refine r_gR hK fd_Ru_1 w1_157 d_E_rounds_31 h (fun p5 h => ?_)
          refine r_iload_n hK d_E_rounds_34 rfl 1 rfl ?_
          refine r_bipush (v := 31) hK d_E_rounds_35 (by decide) ?_
          refine r_imul hK d_E_rounds_37 ?_
          refine r_iaload hK ar_20 rfl d_E_rounds_38 h (fun i6 h => ?_)
          refine r_if_icmple (tgt := 52) hK d_E_rounds_39 (by decide) h (fun h => ?_) (fun h => ?_)
          · refine r_aload_n hK d_E_rounds_52 rfl 0 rfl ?_
            refine r_gR hK fd_E_4 w1_216 d_E_rounds_53 h (fun p7 h => ?_)
            refine r_gR hK fd_Ru_1 w1_157 d_E_rounds_56 h (fun p8 h => ?_)
            refine r_iload_n hK d_E_rounds_59 rfl 1 rfl ?_
            refine r_bipush (v := 31) hK d_E_rounds_60 (by decide) ?_
            refine r_imul hK d_E_rounds_62 ?_
            refine r_iload_n hK d_E_rounds_63 rfl 2 rfl ?_
            refine r_iadd hK d_E_rounds_64 ?_
            refine r_iaload hK ar_20 rfl d_E_rounds_65 h (fun i9 h => ?_)
            exact r_ireturnT hK d_E_rounds_66 h
          · exact r_thrI hK hX rfl w6_225 w6_226 w1_38 (by decide +kernel) th_E_167 (List.mem_of_getElem? (i := 11) rfl) (by rw [hD]; decide) (Nat.le_of_ble_eq_true rfl) d_E_rounds_42 d_E_rounds_45 (Or.inl ⟨rfl, d_E_rounds_46⟩) d_E_rounds_48 d_E_rounds_51 h
theorem c_E_rounds (l : Launch) (G : g_G) (r0 : Option Nat) (x1 : Int32) (x2 : Int32) (u : g_St) (o : ((Int32 ⊕ Nat) × g_St)) (h : f_E_rounds r0 x1 x2 u = some o) : g_Con l G y_E_rounds b_E_rounds 3 (Option.some Jvm.ClassFile.FieldType.int) 7 [g_r 0 r0, g_i x1, g_i x2] u (g_jTI o) :=
  g_Con.of rfl rfl (by decide +kernel) (Nat.le_of_ble_eq_true rfl) (fun K hK hN hD hX => t_E_rounds_0 hK hN hD hX _ _ _ _ h)
