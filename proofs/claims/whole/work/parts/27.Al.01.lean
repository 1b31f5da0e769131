def f_Al_init (r0 : Option Nat) (s0 : g_St) : Option (Unit × g_St) :=
  g_c (g_nn r0 (f_Abl_init r0 s0)) fun _ s2 =>
  g_pR s2 76 r0 (some 30) fun s3 =>
  some ((), s3)
set_option maxHeartbeats 4000000 in
set_option maxRecDepth 100000 in
theorem t_Al_init_0 {K : g_C} {o : (Unit × g_St)} (hK : g_OK K b_Al_init "java/util/ArrayList" "<init>" (Option.none : Option Jvm.ClassFile.FieldType)) (hN : g_nL K = 1) (hD : g_Kd K = 4) : ∀ (r0 : Option Nat) (s0 : g_St), f_Al_init r0 s0 = some o → g_W K s0 [(0, g_r 12 r0)] [] 0 (g_jV o) := by
  intro r0 s0 h
  unfold f_Al_init at h
  refine r_aload_n hK d_Al_init_0 rfl 0 rfl ?_
  refine r_Iv (avL := []) (st := []) hK rfl w3_1 w3_0 w3_2 w1_20 (by decide) pl_Abl_init (by rw [hD]; decide) (Nat.le_of_ble_eq_true rfl) rfl d_Al_init_1 (fun o9 h9 => c_Abl_init _ _ _ _ o9 h9) h (fun s2 h => ?_)
  refine r_aload_n hK d_Al_init_4 rfl 0 rfl ?_
  refine r_gsR hK (st_other 3 rfl) (by decide) rfl w3_7 d_Al_init_5 ?_
  refine r_pR hK pd_30 rfl (Or.inr rfl) fd_Al_1 rfl w3_9 d_Al_init_8 h (fun s3 h => ?_)
  exact r_return hK d_Al_init_11 h
theorem c_Al_init (l : Launch) (G : g_G) (r0 : Option Nat) (u : g_St) (o : (Unit × g_St)) (h : f_Al_init r0 u = some o) : g_Con l G y_Al_init b_Al_init 1 (Option.none : Option Jvm.ClassFile.FieldType) 4 [g_r 12 r0] u (g_jV o) :=
  g_Con.of rfl rfl (by decide +kernel) (Nat.le_of_ble_eq_true rfl) (fun K hK hN hD hX => t_Al_init_0 hK hN hD _ _ h)
def f_Al_grow2_20 (r0 : Option Nat) (x1 : Int32) (x2 : Int32) (s0 : g_St) : Option (Option Nat × g_St) :=
  g_c (f_As_newLength x2 (x1 - x2) (x2 >>> (1 &&& 31)) s0) fun i1 s2 =>
  g_gR s2 76 r0 fun p3 =>
  g_c (f_Ars_copyOf p3 i1 s2) fun p4 s5 =>
  g_pR s5 76 r0 p4 fun s6 =>
  some (p4, s6)
def f_Al_grow2 (r0 : Option Nat) (x1 : Int32) (s0 : g_St) : Option (Option Nat × g_St) :=
  g_gR s0 76 r0 fun p1 =>
  g_lenO s0 p1 fun i2 =>
  if 0 < i2 then
    f_Al_grow2_20 r0 x1 i2 s0
  else
    g_gR s0 76 r0 fun p3 =>
    if p3 = (some 30) then
      g_newA s0 30 (if 10 < x1 then x1 else 10) fun p4 s5 =>
      g_pR s5 76 r0 p4 fun s6 =>
      some (p4, s6)
    else
      f_Al_grow2_20 r0 x1 i2 s0
set_option maxHeartbeats 4000000 in
set_option maxRecDepth 100000 in
theorem t_Al_grow2_20 {K : g_C} {o : (Option Nat × g_St)} (hK : g_OK K b_Al_grow2 "java/util/ArrayList" "grow" (Option.some (Jvm.ClassFile.FieldType.array (Jvm.ClassFile.FieldType.object "java/lang/Object")))) (hN : g_nL K = 4) (hD : g_Kd K = 9) : ∀ (r0 : Option Nat) (x1 : Int32) (x2 : Int32) (s0 : g_St), f_Al_grow2_20 r0 x1 x2 s0 = some o → g_W K s0 [(0, g_r 12 r0), (1, g_i x1), (2, g_i x2)] [] 20 (g_jR 30 o) := by
  intro r0 x1 x2 s0 h
  unfold f_Al_grow2_20 at h
  refine r_iload_n hK d_Al_grow2_20 rfl 2 rfl ?_
  refine r_iload_n hK d_Al_grow2_21 rfl 1 rfl ?_
  refine r_iload_n hK d_Al_grow2_22 rfl 2 rfl ?_
  refine r_isub hK d_Al_grow2_23 ?_
  refine r_iload_n hK d_Al_grow2_24 rfl 2 rfl ?_
  refine r_iconst (v := 1) hK d_Al_grow2_25 (by decide) ?_
  refine r_ishr hK d_Al_grow2_26 ?_
  refine r_Si (avL := [g_i x2, g_i (x1 - x2), g_i (x2 >>> (1 &&& 31))]) (st := []) hK w4_138 w4_137 w4_139 w1_25 (by decide) pl_As_newLength (by rw [hD]; decide) (Nat.le_of_ble_eq_true rfl) rfl d_Al_grow2_27 (fun o9 h9 => c_As_newLength _ _ _ _ _ _ o9 h9) h (fun i1 s2 h => ?_)
  refine r_istore_n (ls1 := [(3, g_i i1), (0, g_r 12 r0), (1, g_i x1), (2, g_i x2)]) hK d_Al_grow2_30 rfl (by rw [hN]; decide) rfl ?_
  refine r_aload_n hK d_Al_grow2_31 rfl 1 rfl ?_
  refine r_aload_n hK d_Al_grow2_32 rfl 1 rfl ?_
  refine r_gR hK fd_Al_1 w3_9 d_Al_grow2_33 h (fun p3 h => ?_)
  refine r_iload_n hK d_Al_grow2_36 rfl 0 rfl ?_
  refine r_Sr (avL := [g_r 30 p3, g_i i1]) (st := [g_r 12 r0]) hK w4_148 w4_147 w4_149 w1_27 (by decide) pl_Ars_copyOf (by rw [hD]; decide) (Nat.le_of_ble_eq_true rfl) rfl d_Al_grow2_37 (fun o9 h9 => c_Ars_copyOf _ _ _ _ _ o9 h9) h (fun p4 s5 h => ?_)
  refine r_dup_x1 hK d_Al_grow2_40 rfl rfl ?_
  refine r_pR hK pd_30 rfl (Or.inr rfl) fd_Al_1 rfl w3_9 d_Al_grow2_41 h (fun s6 h => ?_)
  exact r_areturn (Or.inr ⟨_, rfl⟩) hK d_Al_grow2_44 h
set_option maxHeartbeats 4000000 in
set_option maxRecDepth 100000 in
theorem t_Al_grow2_0 {K : g_C} {o : (Option Nat × g_St)} (hK : g_OK K b_Al_grow2 "java/util/ArrayList" "grow" (Option.some (Jvm.ClassFile.FieldType.array (Jvm.ClassFile.FieldType.object "java/lang/Object")))) (hN : g_nL K = 4) (hD : g_Kd K = 9) : ∀ (r0 : Option Nat) (x1 : Int32) (s0 : g_St), f_Al_grow2 r0 x1 s0 = some o → g_W K s0 [(0, g_r 12 r0), (1, g_i x1)] [] 0 (g_jR 30 o) := by
  intro r0 x1 s0 h
  unfold f_Al_grow2 at h
  refine r_aload_n hK d_Al_grow2_0 rfl 0 rfl ?_
  refine r_gR hK fd_Al_1 w3_9 d_Al_grow2_1 h (fun p1 h => ?_)
  refine r_alenO hK d_Al_grow2_4 h (fun i2 h => ?_)
  refine r_istore_n (ls1 := [(2, g_i i2), (0, g_r 12 r0), (1, g_i x1)]) hK d_Al_grow2_5 rfl (by rw [hN]; decide) rfl ?_
  refine r_iload_n hK d_Al_grow2_6 rfl 0 rfl ?_
  refine r_ifgt (tgt := 20) hK d_Al_grow2_7 (by decide) h (fun h => ?_) (fun h => ?_)
  · exact r_sub [1, 2, 0] rfl (t_Al_grow2_20 hK hN hD _ _ _ _ h)
  · refine r_aload_n hK d_Al_grow2_10 rfl 1 rfl ?_
    refine r_gR hK fd_Al_1 w3_9 d_Al_grow2_11 h (fun p3 h => ?_)
    refine r_gsR hK (st_other 3 rfl) (by decide) rfl w3_7 d_Al_grow2_14 ?_
    refine r_if_acmpeq (tgt := 45) hK (by decide) (by decide) d_Al_grow2_17 (by decide) h (fun h => ?_) (fun h => ?_)
    · refine r_aload_n hK d_Al_grow2_45 rfl 1 rfl ?_
      refine r_bipush (v := 10) hK d_Al_grow2_46 (by decide) ?_
      refine r_iload_n hK d_Al_grow2_48 rfl 2 rfl ?_
      refine r_mmax hK w4_186 (by rw [hD]; decide) (Nat.le_of_ble_eq_true rfl) d_Al_grow2_49 ?_
      refine r_anewarray hK rfl w4_187 w4_178 ar_30 d_Al_grow2_52 h (fun p4 s5 h => ?_)
      refine r_dup_x1 hK d_Al_grow2_55 rfl rfl ?_
      refine r_pR hK pd_30 rfl (Or.inr rfl) fd_Al_1 rfl w3_9 d_Al_grow2_56 h (fun s6 h => ?_)
      exact r_areturn (Or.inr ⟨_, rfl⟩) hK d_Al_grow2_59 h
    · exact r_sub [1, 2, 0] rfl (t_Al_grow2_20 hK hN hD _ _ _ _ h)
theorem c_Al_grow2 (l : Launch) (G : g_G) (r0 : Option Nat) (x1 : Int32) (u : g_St) (o : (Option Nat × g_St)) (h : f_Al_grow2 r0 x1 u = some o) : g_Con l G y_Al_grow2 b_Al_grow2 4 (Option.some (Jvm.ClassFile.FieldType.array (Jvm.ClassFile.FieldType.object "java/lang/Object"))) 9 [g_r 12 r0, g_i x1] u (g_jR 30 o) :=
  g_Con.of rfl rfl (by decide +kernel) (Nat.le_of_ble_eq_true rfl) (fun K hK hN hD hX => t_Al_grow2_0 hK hN hD _ _ _ h)
def f_Al_grow (r0 : Option Nat) (s0 : g_St) : Option (Option Nat × g_St) :=
  g_gI s0 140 r0 fun i1 =>
  g_c (g_nn r0 (f_Al_grow2 r0 (i1 + 1) s0)) fun p2 s3 =>
  some (p2, s3)
set_option maxHeartbeats 4000000 in
set_option maxRecDepth 100000 in
theorem t_Al_grow_0 {K : g_C} {o : (Option Nat × g_St)} (hK : g_OK K b_Al_grow "java/util/ArrayList" "grow" (Option.some (Jvm.ClassFile.FieldType.array (Jvm.ClassFile.FieldType.object "java/lang/Object")))) (hN : g_nL K = 1) (hD : g_Kd K = 10) : ∀ (r0 : Option Nat) (s0 : g_St), f_Al_grow r0 s0 = some o → g_W K s0 [(0, g_r 12 r0)] [] 0 (g_jR 30 o) := by
  intro r0 s0 h
  unfold f_Al_grow at h
  refine r_aload_n hK d_Al_grow_0 rfl 0 rfl ?_
  refine r_aload_n hK d_Al_grow_1 rfl 0 rfl ?_
  refine r_gI hK fd_Al_2 w3_10 d_Al_grow_2 h (fun i1 h => ?_)
  refine r_iconst (v := 1) hK d_Al_grow_5 (by decide) ?_
  refine r_iadd hK d_Al_grow_6 ?_
  refine r_Vr (avL := [g_i (i1 + 1)]) (st := []) hK ob_Al rfl w4_135 wp_3 w4_133 w4_136 w1_21 (by decide) pl_Al_grow2 (by rw [hD]; decide) (Nat.le_of_ble_eq_true rfl) rfl d_Al_grow_7 (fun o9 h9 => c_Al_grow2 _ _ _ _ _ o9 h9) h (fun p2 s3 h => ?_)
  exact r_areturn (Or.inr ⟨_, rfl⟩) hK d_Al_grow_10 h
theorem c_Al_grow (l : Launch) (G : g_G) (r0 : Option Nat) (u : g_St) (o : (Option Nat × g_St)) (h : f_Al_grow r0 u = some o) : g_Con l G y_Al_grow b_Al_grow 1 (Option.some (Jvm.ClassFile.FieldType.array (Jvm.ClassFile.FieldType.object "java/lang/Object"))) 10 [g_r 12 r0] u (g_jR 30 o) :=
  g_Con.of rfl rfl (by decide +kernel) (Nat.le_of_ble_eq_true rfl) (fun K hK hN hD hX => t_Al_grow_0 hK hN hD _ _ h)
def f_Al_add2_11 (r0 : Option Nat) (r1 : Option Nat) (r2 : Option Nat) (x3 : Int32) (s0 : g_St) : Option (Unit × g_St) :=
  g_sO s0 r2 x3 r1 fun s1 =>
  g_pI s1 140 r0 (x3 + 1) fun s2 =>
  some ((), s2)
def f_Al_add2 (r0 : Option Nat) (r1 : Option Nat) (r2 : Option Nat) (x3 : Int32) (s0 : g_St) : Option (Unit × g_St) :=
  g_lenO s0 r2 fun i1 =>
  if x3 = i1 then
    g_c (g_nn r0 (f_Al_grow r0 s0)) fun p2 s3 =>
    f_Al_add2_11 r0 r1 p2 x3 s3
  else
    f_Al_add2_11 r0 r1 r2 x3 s0
set_option maxHeartbeats 4000000 in
set_option maxRecDepth 100000 in
theorem t_Al_add2_11 {K : g_C} {o : (Unit × g_St)} (hK : g_OK K b_Al_add2 "java/util/ArrayList" "add" (Option.none : Option Jvm.ClassFile.FieldType)) (hN : g_nL K = 4) (hD : g_Kd K = 11) : ∀ (r0 : Option Nat) (r1 : Option Nat) (r2 : Option Nat) (x3 : Int32) (s0 : g_St), f_Al_add2_11 r0 r1 r2 x3 s0 = some o → g_W K s0 [(0, g_r 12 r0), (1, g_r 63 r1), (2, g_r 30 r2), (3, g_i x3)] [] 11 (g_jV o) := by
  intro r0 r1 r2 x3 s0 h
  unfold f_Al_add2_11 at h
  refine r_aload_n hK d_Al_add2_11 rfl 2 rfl ?_
  refine r_iload_n hK d_Al_add2_12 rfl 3 rfl ?_
  refine r_aload_n hK d_Al_add2_13 rfl 1 rfl ?_
  refine r_aastoreO hK d_Al_add2_14 h (fun s1 h => ?_)
  refine r_aload_n hK d_Al_add2_15 rfl 0 rfl ?_
  refine r_iload_n hK d_Al_add2_16 rfl 3 rfl ?_
  refine r_iconst (v := 1) hK d_Al_add2_17 (by decide) ?_
  refine r_iadd hK d_Al_add2_18 ?_
  refine r_pI hK fd_Al_2 rfl w3_10 d_Al_add2_19 h (fun s2 h => ?_)
  exact r_return hK d_Al_add2_22 h
set_option maxHeartbeats 4000000 in
set_option maxRecDepth 100000 in
theorem t_Al_add2_0 {K : g_C} {o : (Unit × g_St)} (hK : g_OK K b_Al_add2 "java/util/ArrayList" "add" (Option.none : Option Jvm.ClassFile.FieldType)) (hN : g_nL K = 4) (hD : g_Kd K = 11) : ∀ (r0 : Option Nat) (r1 : Option Nat) (r2 : Option Nat) (x3 : Int32) (s0 : g_St), f_Al_add2 r0 r1 r2 x3 s0 = some o → g_W K s0 [(0, g_r 12 r0), (1, g_r 63 r1), (2, g_r 30 r2), (3, g_i x3)] [] 0 (g_jV o) := by
  intro r0 r1 r2 x3 s0 h
  unfold f_Al_add2 at h
  refine r_iload_n hK d_Al_add2_0 rfl 3 rfl ?_
  refine r_aload_n hK d_Al_add2_1 rfl 2 rfl ?_
  refine r_alenO hK d_Al_add2_2 h (fun i1 h => ?_)
  refine r_if_icmpne (tgt := 11) hK d_Al_add2_3 (by decide) h (fun h => ?_) (fun h => ?_)
  · exact r_sub [0, 1, 2, 3] rfl (t_Al_add2_11 hK hN hD _ _ _ _ _ h)
  · refine r_aload_n hK d_Al_add2_6 rfl 0 rfl ?_
    refine r_Vr (avL := []) (st := []) hK ob_Al rfl w4_131 wp_2 w4_129 w4_132 w1_21 (by decide) pl_Al_grow (by rw [hD]; decide) (Nat.le_of_ble_eq_true rfl) rfl d_Al_add2_7 (fun o9 h9 => c_Al_grow _ _ _ _ o9 h9) h (fun p2 s3 h => ?_)
    refine r_astore_n (ls1 := [(2, g_r 30 p2), (0, g_r 12 r0), (1, g_r 63 r1), (3, g_i x3)]) hK d_Al_add2_10 rfl (by rw [hN]; decide) rfl ?_
    exact r_sub [1, 2, 0, 3] rfl (t_Al_add2_11 hK hN hD _ _ _ _ _ h)
theorem c_Al_add2 (l : Launch) (G : g_G) (r0 : Option Nat) (r1 : Option Nat) (r2 : Option Nat) (x3 : Int32) (u : g_St) (o : (Unit × g_St)) (h : f_Al_add2 r0 r1 r2 x3 u = some o) : g_Con l G y_Al_add2 b_Al_add2 4 (Option.none : Option Jvm.ClassFile.FieldType) 11 [g_r 12 r0, g_r 63 r1, g_r 30 r2, g_i x3] u (g_jV o) :=
  g_Con.of rfl rfl (by decide +kernel) (Nat.le_of_ble_eq_true rfl) (fun K hK hN hD hX => t_Al_add2_0 hK hN hD _ _ _ _ _ h)
def f_Al_add (r0 : Option Nat) (r1 : Option Nat) (s0 : g_St) : Option (Int32 × g_St) :=
  g_gI s0 12 r0 fun i1 =>
  g_pI s0 12 r0 (i1 + 1) fun s2 =>
  g_gR s2 76 r0 fun p3 =>
  g_gI s2 140 r0 fun i4 =>
  g_c (g_nn r0 (f_Al_add2 r0 r1 p3 i4 s2)) fun _ s6 =>
  g_rZ 1 (some (1, s6))
set_option maxHeartbeats 4000000 in
set_option maxRecDepth 100000 in
theorem t_Al_add_0 {K : g_C} {o : (Int32 × g_St)} (hK : g_OK K b_Al_add "java/util/ArrayList" "add" (Option.some Jvm.ClassFile.FieldType.boolean)) (hN : g_nL K = 2) (hD : g_Kd K = 12) : ∀ (r0 : Option Nat) (r1 : Option Nat) (s0 : g_St), f_Al_add r0 r1 s0 = some o → g_W K s0 [(0, g_r 12 r0), (1, g_r 63 r1)] [] 0 (g_jI o) := by
  intro r0 r1 s0 h
  unfold f_Al_add at h
  refine r_aload_n hK d_Al_add_0 rfl 0 rfl ?_
  refine r_dup hK d_Al_add_1 rfl ?_
  refine r_gIS hK fd_Al_0 w3_12 w3_13 d_Al_add_2 h (fun i1 h => ?_)
  refine r_iconst (v := 1) hK d_Al_add_5 (by decide) ?_
  refine r_iadd hK d_Al_add_6 ?_
  refine r_pIS hK fd_Al_0 rfl w3_12 w3_13 d_Al_add_7 h (fun s2 h => ?_)
  refine r_aload_n hK d_Al_add_10 rfl 0 rfl ?_
  refine r_aload_n hK d_Al_add_11 rfl 1 rfl ?_
  refine r_aload_n hK d_Al_add_12 rfl 0 rfl ?_
  refine r_gR hK fd_Al_1 w3_9 d_Al_add_13 h (fun p3 h => ?_)
  refine r_aload_n hK d_Al_add_16 rfl 0 rfl ?_
  refine r_gI hK fd_Al_2 w3_10 d_Al_add_17 h (fun i4 h => ?_)
  refine r_Vv (avL := [g_r 63 r1, g_r 30 p3, g_i i4]) (st := []) hK ob_Al rfl w4_127 wp_1 w4_125 w4_128 w1_21 (by decide) pl_Al_add2 (by rw [hD]; decide) (Nat.le_of_ble_eq_true rfl) rfl d_Al_add_20 (fun o9 h9 => c_Al_add2 _ _ _ _ _ _ _ o9 h9) h (fun s6 h => ?_)
  refine r_iconst (v := 1) hK d_Al_add_23 (by decide) ?_
  exact r_zreturn hK d_Al_add_24 h
theorem c_Al_add (l : Launch) (G : g_G) (r0 : Option Nat) (r1 : Option Nat) (u : g_St) (o : (Int32 × g_St)) (h : f_Al_add r0 r1 u = some o) : g_Con l G y_Al_add b_Al_add 2 (Option.some Jvm.ClassFile.FieldType.boolean) 12 [g_r 12 r0, g_r 63 r1] u (g_jI o) :=
  g_Con.of rfl rfl (by decide +kernel) (Nat.le_of_ble_eq_true rfl) (fun K hK hN hD hX => t_Al_add_0 hK hN hD _ _ _ h)
def f_Al_size (r0 : Option Nat) (s0 : g_St) : Option (Int32 × g_St) :=
  g_gI s0 140 r0 fun i1 =>
  some (i1, s0)
set_option maxHeartbeats 4000000 in
set_option maxRecDepth 100000 in
theorem t_Al_size_0 {K : g_C} {o : (Int32 × g_St)} (hK : g_OK K b_Al_size "java/util/ArrayList" "size" (Option.some Jvm.ClassFile.FieldType.int)) (hN : g_nL K = 1) (hD : g_Kd K = 1) : ∀ (r0 : Option Nat) (s0 : g_St), f_Al_size r0 s0 = some o → g_W K s0 [(0, g_r 12 r0)] [] 0 (g_jI o) := by
  intro r0 s0 h
  unfold f_Al_size at h
  refine r_aload_n hK d_Al_size_0 rfl 0 rfl ?_
  refine r_gI hK fd_Al_2 w3_10 d_Al_size_1 h (fun i1 h => ?_)
  exact r_ireturn hK d_Al_size_4 h
theorem c_Al_size (l : Launch) (G : g_G) (r0 : Option Nat) (u : g_St) (o : (Int32 × g_St)) (h : f_Al_size r0 u = some o) : g_Con l G y_Al_size b_Al_size 1 (Option.some Jvm.ClassFile.FieldType.int) 1 [g_r 12 r0] u (g_jI o) :=
  g_Con.of rfl rfl (by decide +kernel) (Nat.le_of_ble_eq_true rfl) (fun K hK hN hD hX => t_Al_size_0 hK hN hD _ _ h)
def f_Al_elementData (r0 : Option Nat) (x1 : Int32) (s0 : g_St) : Option (Option Nat × g_St) :=
  g_gR s0 76 r0 fun p1 =>
  g_aO s0 p1 x1 fun p2 =>
  some (p2, s0)
set_option maxHeartbeats 4000000 in
set_option maxRecDepth 100000 in
theorem t_Al_elementData_0 {K : g_C} {o : (Option Nat × g_St)} (hK : g_OK K b_Al_elementData "java/util/ArrayList" "elementData" (Option.some (Jvm.ClassFile.FieldType.object "java/lang/Object"))) (hN : g_nL K = 2) (hD : g_Kd K = 1) : ∀ (r0 : Option Nat) (x1 : Int32) (s0 : g_St), f_Al_elementData r0 x1 s0 = some o → g_W K s0 [(0, g_r 12 r0), (1, g_i x1)] [] 0 (g_jR 63 o) := by
  intro r0 x1 s0 h
  unfold f_Al_elementData at h
  refine r_aload_n hK d_Al_elementData_0 rfl 0 rfl ?_
  refine r_gR hK fd_Al_1 w3_9 d_Al_elementData_1 h (fun p1 h => ?_)
  refine r_iload_n hK d_Al_elementData_4 rfl 1 rfl ?_
  refine r_aaloadO hK d_Al_elementData_5 h (fun p2 h => ?_)
  exact r_areturn (Or.inl ⟨_, rfl⟩) hK d_Al_elementData_6 h
theorem c_Al_elementData (l : Launch) (G : g_G) (r0 : Option Nat) (x1 : Int32) (u : g_St) (o : (Option Nat × g_St)) (h : f_Al_elementData r0 x1 u = some o) : g_Con l G y_Al_elementData b_Al_elementData 2 (Option.some (Jvm.ClassFile.FieldType.object "java/lang/Object")) 1 [g_r 12 r0, g_i x1] u (g_jR 63 o) :=
  g_Con.of rfl rfl (by decide +kernel) (Nat.le_of_ble_eq_true rfl) (fun K hK hN hD hX => t_Al_elementData_0 hK hN hD _ _ _ h)
def f_Al_get (r0 : Option Nat) (x1 : Int32) (s0 : g_St) : Option (Option Nat × g_St) :=
  g_gI s0 140 r0 fun i1 =>
  g_c (f_Ob_checkIndex x1 i1 s0) fun i2 s3 =>
  g_c (g_nn r0 (f_Al_elementData r0 x1 s3)) fun p4 s5 =>
  some (p4, s5)
set_option maxHeartbeats 4000000 in
set_option maxRecDepth 100000 in
theorem t_Al_get_0 {K : g_C} {o : (Option Nat × g_St)} (hK : g_OK K b_Al_get "java/util/ArrayList" "get" (Option.some (Jvm.ClassFile.FieldType.object "java/lang/Object"))) (hN : g_nL K = 2) (hD : g_Kd K = 9) : ∀ (r0 : Option Nat) (x1 : Int32) (s0 : g_St), f_Al_get r0 x1 s0 = some o → g_W K s0 [(0, g_r 12 r0), (1, g_i x1)] [] 0 (g_jR 63 o) := by
  intro r0 x1 s0 h
  unfold f_Al_get at h
  refine r_iload_n hK d_Al_get_0 rfl 1 rfl ?_
  refine r_aload_n hK d_Al_get_1 rfl 0 rfl ?_
  refine r_gI hK fd_Al_2 w3_10 d_Al_get_2 h (fun i1 h => ?_)
  refine r_Si (avL := [g_i x1, g_i i1]) (st := []) hK w5_137 w5_136 w5_138 w1_31 (by decide) pl_Ob_checkIndex (by rw [hD]; decide) (Nat.le_of_ble_eq_true rfl) rfl d_Al_get_5 (fun o9 h9 => c_Ob_checkIndex _ _ _ _ _ o9 h9) h (fun i2 s3 h => ?_)
  refine r_pop hK d_Al_get_8 rfl ?_
  refine r_aload_n hK d_Al_get_9 rfl 0 rfl ?_
  refine r_iload_n hK d_Al_get_10 rfl 1 rfl ?_
  refine r_Vr (avL := [g_i x1]) (st := []) hK ob_Al rfl w5_141 w5_142 w5_140 w5_143 w1_21 (by decide) pl_Al_elementData (by rw [hD]; decide) (Nat.le_of_ble_eq_true rfl) rfl d_Al_get_11 (fun o9 h9 => c_Al_elementData _ _ _ _ _ o9 h9) h (fun p4 s5 h => ?_)
  exact r_areturn (Or.inl ⟨_, rfl⟩) hK d_Al_get_14 h
theorem c_Al_get (l : Launch) (G : g_G) (r0 : Option Nat) (x1 : Int32) (u : g_St) (o : (Option Nat × g_St)) (h : f_Al_get r0 x1 u = some o) : g_Con l G y_Al_get b_Al_get 2 (Option.some (Jvm.ClassFile.FieldType.object "java/lang/Object")) 9 [g_r 12 r0, g_i x1] u (g_jR 63 o) :=
  g_Con.of rfl rfl (by decide +kernel) (Nat.le_of_ble_eq_true rfl) (fun K hK hN hD hX => t_Al_get_0 hK hN hD _ _ _ h)
