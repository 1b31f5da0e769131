def f_Lw_law_23 (sc : Nat × (Nat → Int32)) : Nat → Option Nat → Option Nat → Option Nat → Option Nat → Int32 → g_St → Option (Int32 × g_St)
  | 0, _, _, _, _, _, _ => none
  | n + 1, r0, r1, r2, r3, x4, s0 =>
    g_scl sc r0 fun i1 =>
    if (i1 - 6) < x4 then
      g_rZ 1 (some (1, s0))
    else
      g_sca sc r0 x4 fun i2 =>
      if (i2 &&& 15) = 0 then
        g_sca sc r0 (x4 + 1) fun i3 =>
        g_c (f_Lw_table r1 i3 r3 s0) fun i4 s5 =>
        g_sca sc r0 (x4 + 1) fun i6 =>
        g_c (g_nn r2 (f_M_table r2 i6 s5)) fun i7 s8 =>
        g_c (g_nn r2 (f_M_thrown r2 s8)) fun i9 s10 =>
        if i9 = i4 then
          if i4 = 0 then
            g_aL s10 r3 0 fun j11 =>
            if j11 = i7.toInt64 then
              f_Lw_law_23 sc n r0 r1 r2 r3 (x4 + 6) s10
            else
              g_rZ 0 (some (0, s10))
          else
            f_Lw_law_23 sc n r0 r1 r2 r3 (x4 + 6) s10
        else
          g_rZ 0 (some (0, s10))
      else if (i2 &&& 15) = 1 then
        g_sca sc r0 (x4 + 1) fun i12 =>
        g_sca sc r0 (x4 + 2) fun i13 =>
        g_sca sc r0 (x4 + 3) fun i14 =>
        g_sca sc r0 (x4 + 4) fun i15 =>
        g_sca sc r0 (x4 + 5) fun i16 =>
        g_c (f_Lw_row r1 i12 i13 i14 i15 i16 r3 s0) fun i17 s18 =>
        g_sca sc r0 (x4 + 1) fun i19 =>
        g_sca sc r0 (x4 + 2) fun i20 =>
        g_sca sc r0 (x4 + 3) fun i21 =>
        g_sca sc r0 (x4 + 4) fun i22 =>
        g_sca sc r0 (x4 + 5) fun i23 =>
        g_c (g_nn r2 (f_M_row r2 i19 i20 i21 i22 i23 s18)) fun i24 s25 =>
        g_c (g_nn r2 (f_M_thrown r2 s25)) fun i26 s27 =>
        if i26 = i17 then
          if i17 = 0 then
            g_aL s27 r3 0 fun j28 =>
            if j28 = i24.toInt64 then
              f_Lw_law_23 sc n r0 r1 r2 r3 (x4 + 6) s27
            else
              g_rZ 0 (some (0, s27))
          else
            f_Lw_law_23 sc n r0 r1 r2 r3 (x4 + 6) s27
        else
          g_rZ 0 (some (0, s27))
      else if (i2 &&& 15) = 2 then
        g_sca sc r0 (x4 + 1) fun i29 =>
        g_c (f_Lw_clear r1 i29 r3 s0) fun i30 s31 =>
        g_sca sc r0 (x4 + 1) fun i32 =>
        g_c (g_nn r2 (f_M_clear r2 i32 s31)) fun i33 s34 =>
        g_c (g_nn r2 (f_M_thrown r2 s34)) fun i35 s36 =>
        if i35 = i30 then
          if i30 = 0 then
            g_aL s36 r3 0 fun j37 =>
            if j37 = i33.toInt64 then
              f_Lw_law_23 sc n r0 r1 r2 r3 (x4 + 6) s36
            else
              g_rZ 0 (some (0, s36))
          else
            f_Lw_law_23 sc n r0 r1 r2 r3 (x4 + 6) s36
        else
          g_rZ 0 (some (0, s36))
      else if (i2 &&& 15) = 3 then
        g_sca sc r0 (x4 + 1) fun i38 =>
        g_sca sc r0 (x4 + 2) fun i39 =>
        g_sca sc r0 (x4 + 3) fun i40 =>
        g_sca sc r0 (x4 + 4) fun i41 =>
        g_sca sc r0 (x4 + 5) fun i42 =>
        g_c (g_nn r1 (f_E_text r1 i38 i39 i40 i41 i42 s0)) fun i43 s44 =>
        g_sca sc r0 (x4 + 1) fun i45 =>
        g_sca sc r0 (x4 + 2) fun i46 =>
        g_sca sc r0 (x4 + 3) fun i47 =>
        g_sca sc r0 (x4 + 4) fun i48 =>
        g_sca sc r0 (x4 + 5) fun i49 =>
        g_c (g_nn r2 (f_M_text r2 i45 i46 i47 i48 i49 s44)) fun i50 s51 =>
        if i43 = i50 then
          f_Lw_law_23 sc n r0 r1 r2 r3 (x4 + 6) s51
        else
          g_rZ 0 (some (0, s51))
      else if (i2 &&& 15) = 4 then
        g_c (f_Lw_prepare r1 r3 s0) fun i52 s53 =>
        g_c (g_nn r2 (f_M_prepare r2 s53)) fun i54 s55 =>
        g_c (g_nn r2 (f_M_thrown r2 s55)) fun i56 s57 =>
        if i56 = i52 then
          if i52 = 0 then
            g_aL s57 r3 0 fun j58 =>
            if j58 = i54.toInt64 then
              f_Lw_law_23 sc n r0 r1 r2 r3 (x4 + 6) s57
            else
              g_rZ 0 (some (0, s57))
          else
            f_Lw_law_23 sc n r0 r1 r2 r3 (x4 + 6) s57
        else
          g_rZ 0 (some (0, s57))
      else if (i2 &&& 15) = 5 then
        g_c (g_nn r1 (f_E_fault r1 s0)) fun i59 s60 =>
        g_c (g_nn r2 (f_M_fault r2 s60)) fun i61 s62 =>
        if i59 = i61 then
          f_Lw_law_23 sc n r0 r1 r2 r3 (x4 + 6) s62
        else
          g_rZ 0 (some (0, s62))
      else if (i2 &&& 15) = 6 then
        g_sca sc r0 (x4 + 1) fun i63 =>
        g_sca sc r0 (x4 + 2) fun i64 =>
        g_c (f_Lw_part r1 i63 i64 r3 s0) fun i65 s66 =>
        g_sca sc r0 (x4 + 1) fun i67 =>
        g_sca sc r0 (x4 + 2) fun i68 =>
        g_c (g_nn r2 (f_M_part r2 i67 i68 s66)) fun i69 s70 =>
        g_c (g_nn r2 (f_M_thrown r2 s70)) fun i71 s72 =>
        if i71 = i65 then
          if i65 = 0 then
            g_aL s72 r3 0 fun j73 =>
            if j73 = i69.toInt64 then
              f_Lw_law_23 sc n r0 r1 r2 r3 (x4 + 6) s72
            else
              g_rZ 0 (some (0, s72))
          else
            f_Lw_law_23 sc n r0 r1 r2 r3 (x4 + 6) s72
        else
          g_rZ 0 (some (0, s72))
      else if (i2 &&& 15) = 7 then
        g_sca sc r0 (x4 + 1) fun i74 =>
        g_sca sc r0 (x4 + 2) fun i75 =>
        g_c (f_Lw_run r1 i74 i75 r3 s0) fun i76 s77 =>
        g_sca sc r0 (x4 + 1) fun i78 =>
        g_sca sc r0 (x4 + 2) fun i79 =>
        g_c (g_nn r2 (f_M_run r2 i78 i79 s77)) fun i80 s81 =>
        g_c (g_nn r2 (f_M_thrown r2 s81)) fun i82 s83 =>
        if i82 = i76 then
          if i76 = 0 then
            g_aL s83 r3 0 fun j84 =>
            if j84 = i80.toInt64 then
              f_Lw_law_23 sc n r0 r1 r2 r3 (x4 + 6) s83
            else
              g_rZ 0 (some (0, s83))
          else
            f_Lw_law_23 sc n r0 r1 r2 r3 (x4 + 6) s83
        else
          g_rZ 0 (some (0, s83))
      else if (i2 &&& 15) = 8 then
        g_sca sc r0 (x4 + 1) fun i85 =>
        g_sca sc r0 (x4 + 2) fun i86 =>
        g_c (f_Lw_cell2 r1 i85 i86 r3 s0) fun i87 s88 =>
        g_sca sc r0 (x4 + 1) fun i89 =>
        g_sca sc r0 (x4 + 2) fun i90 =>
        g_c (g_nn r2 (f_M_cell r2 i89 i90 s88)) fun j91 s92 =>
        g_c (g_nn r2 (f_M_thrown r2 s92)) fun i93 s94 =>
        if i93 = i87 then
          if i87 = 0 then
            g_aL s94 r3 0 fun j95 =>
            if j95 = j91 then
              f_Lw_law_23 sc n r0 r1 r2 r3 (x4 + 6) s94
            else
              g_rZ 0 (some (0, s94))
          else
            f_Lw_law_23 sc n r0 r1 r2 r3 (x4 + 6) s94
        else
          g_rZ 0 (some (0, s94))
      else if (i2 &&& 15) = 9 then
        g_sca sc r0 (x4 + 1) fun i96 =>
        g_c (f_Lw_size r1 i96 r3 s0) fun i97 s98 =>
        g_sca sc r0 (x4 + 1) fun i99 =>
        g_c (g_nn r2 (f_M_size r2 i99 s98)) fun i100 s101 =>
        g_c (g_nn r2 (f_M_thrown r2 s101)) fun i102 s103 =>
        if i102 = i97 then
          if i97 = 0 then
            g_aL s103 r3 0 fun j104 =>
            if j104 = i100.toInt64 then
              f_Lw_law_23 sc n r0 r1 r2 r3 (x4 + 6) s103
            else
              g_rZ 0 (some (0, s103))
          else
            f_Lw_law_23 sc n r0 r1 r2 r3 (x4 + 6) s103
        else
          g_rZ 0 (some (0, s103))
      else if (i2 &&& 15) = 10 then
        g_sca sc r0 (x4 + 1) fun i105 =>
        g_sca sc r0 (x4 + 2) fun i106 =>
        g_c (f_Lw_rounds r1 i105 i106 r3 s0) fun i107 s108 =>
        g_sca sc r0 (x4 + 1) fun i109 =>
        g_sca sc r0 (x4 + 2) fun i110 =>
        g_c (g_nn r2 (f_M_rounds r2 i109 i110 s108)) fun i111 s112 =>
        g_c (g_nn r2 (f_M_thrown r2 s112)) fun i113 s114 =>
        if i113 = i107 then
          if i107 = 0 then
            g_aL s114 r3 0 fun j115 =>
            if j115 = i111.toInt64 then
              f_Lw_law_23 sc n r0 r1 r2 r3 (x4 + 6) s114
            else
              g_rZ 0 (some (0, s114))
          else
            f_Lw_law_23 sc n r0 r1 r2 r3 (x4 + 6) s114
        else
          g_rZ 0 (some (0, s114))
      else 
        f_Lw_law_23 sc n r0 r1 r2 r3 (x4 + 6) s0
def f_Lw_law (sc : Nat × (Nat → Int32)) (r0 : Option Nat) (s0 : g_St) : Option (Int32 × g_St) :=
  g_new s0 0 8 fun p1 s2 =>
  g_c (g_nn p1 (f_E_init p1 s2)) fun _ s4 =>
  g_new s4 1 102 fun p5 s6 =>
  g_c (g_nn p5 (f_M_init p5 s6)) fun _ s8 =>
  g_newA s8 21 1 fun p9 s10 =>
  f_Lw_law_23 sc 200000 r0 p1 p5 p9 0 s10
set_option maxHeartbeats 4000000 in
set_option maxRecDepth 100000 in
theorem t_Lw_law_23 {K : g_C} {o : (Int32 × g_St)} (hK : g_OK K b_Lw_law "FixpointEngineLaw" "law" (Option.some Jvm.ClassFile.FieldType.boolean)) (hN : g_nL K = 8) (hD : g_Kd K = 24) {sc : Nat × (Nat → Int32)} (hG : g_sx (g_KG K) = sc) : ∀ (n : Nat) (r0 : Option Nat) (r1 : Option Nat) (r2 : Option Nat) (r3 : Option Nat) (x4 : Int32) (s0 : g_St), f_Lw_law_23 sc n r0 r1 r2 r3 x4 s0 = some o → g_W K s0 [(0, g_r 14 r0), (1, g_r 0 r1), (2, g_r 1 r2), (3, g_r 21 r3), (4, g_i x4)] [] 23 (g_jI o) := by
  intro n
  induction n with
  | zero =>
    intro r0 r1 r2 r3 x4 s0 h
    cases h
  | succ n ih =>
    intro r0 r1 r2 r3 x4 s0 h
    unfold f_Lw_law_23 at h
    refine r_iload hK d_Lw_law_23 4 rfl ?_
    refine r_aload_n hK d_Lw_law_25 rfl 0 rfl ?_
    refine r_scl hK hG d_Lw_law_26 h (fun i1 h => ?_)
    refine r_bipush (v := 6) hK d_Lw_law_27 (by decide) ?_
    refine r_isub hK d_Lw_law_29 ?_
    refine r_if_icmpgt (tgt := 779) hK d_Lw_law_30 (by decide) h (fun h => ?_) (fun h => ?_)
    · refine r_iconst (v := 1) hK d_Lw_law_779 (by decide) ?_
      exact r_zreturn hK d_Lw_law_780 h
    · refine r_aload_n hK d_Lw_law_33 rfl 0 rfl ?_
      refine r_iload hK d_Lw_law_34 4 rfl ?_
      refine r_sca hK hG d_Lw_law_36 h (fun i2 h => ?_)
      refine r_bipush (v := 15) hK d_Lw_law_37 (by decide) ?_
      refine r_iand hK d_Lw_law_39 ?_
      by_cases q0 : (i2 &&& 15) = (0 : Int32)
      · rw [if_pos q0] at h
        refine r_tswIn (tgt := 100) (off := 60) hK 0 q0 d_Lw_law_40 (by decide) (by decide) (by decide) (by decide) ?_
        refine r_aload_n hK d_Lw_law_100 rfl 1 rfl ?_
        refine r_aload_n hK d_Lw_law_101 rfl 0 rfl ?_
        refine r_iload hK d_Lw_law_102 4 rfl ?_
        refine r_iconst (v := 1) hK d_Lw_law_104 (by decide) ?_
        refine r_iadd hK d_Lw_law_105 ?_
        refine r_sca hK hG d_Lw_law_106 h (fun i3 h => ?_)
        refine r_aload_n hK d_Lw_law_107 rfl 3 rfl ?_
        refine r_SXi (avL := [g_r 0 r1, g_i i3, g_r 21 r3]) (st := []) hK w2_10 w2_9 w2_11 w1_0 (by decide) pl_Lw_table (by rw [hD]; decide) (Nat.le_of_ble_eq_true rfl) rfl d_Lw_law_108 (fun o9 h9 => c_Lw_table _ _ _ _ _ _ o9 h9) h (fun i4 s5 h => ?_)
        refine r_istore (ls1 := [(5, g_i i4), (0, g_r 14 r0), (1, g_r 0 r1), (2, g_r 1 r2), (3, g_r 21 r3), (4, g_i x4)]) hK d_Lw_law_111 (by rw [hN]; decide) rfl ?_
        refine r_aload_n hK d_Lw_law_113 rfl 3 rfl ?_
        refine r_aload_n hK d_Lw_law_114 rfl 1 rfl ?_
        refine r_iload hK d_Lw_law_115 5 rfl ?_
        refine r_iconst (v := 1) hK d_Lw_law_117 (by decide) ?_
        refine r_iadd hK d_Lw_law_118 ?_
        refine r_sca hK hG d_Lw_law_119 h (fun i6 h => ?_)
        refine r_Vi (avL := [g_i i6]) (st := []) hK ob_M rfl w8_105 w8_106 w8_104 w8_107 w1_6 (by decide) pl_M_table (by rw [hD]; decide) (Nat.le_of_ble_eq_true rfl) rfl d_Lw_law_120 (fun o9 h9 => c_M_table _ _ _ _ _ o9 h9) h (fun i7 s8 h => ?_)
        refine r_istore (ls1 := [(6, g_i i7), (5, g_i i4), (0, g_r 14 r0), (1, g_r 0 r1), (2, g_r 1 r2), (3, g_r 21 r3), (4, g_i x4)]) hK d_Lw_law_123 (by rw [hN]; decide) rfl ?_
        refine r_aload_n hK d_Lw_law_125 rfl 4 rfl ?_
        refine r_Vi (avL := []) (st := []) hK ob_M rfl w8_101 w8_102 w8_100 w8_103 w1_6 (by decide) pl_M_thrown (by rw [hD]; decide) (Nat.le_of_ble_eq_true rfl) rfl d_Lw_law_126 (fun o9 h9 => c_M_thrown _ _ _ _ o9 h9) h (fun i9 s10 h => ?_)
        refine r_iload hK d_Lw_law_129 1 rfl ?_
        refine r_if_icmpeq (tgt := 136) hK d_Lw_law_131 (by decide) h (fun h => ?_) (fun h => ?_)
        · refine r_iload hK d_Lw_law_136 1 rfl ?_
          refine r_ifne (tgt := 153) hK d_Lw_law_138 (by decide) h (fun h => ?_) (fun h => ?_)
          · refine r_goto (tgt := 773) hK d_Lw_law_153 (by decide) ?_
            refine r_iinc (ls1 := [(4, g_i (x4 + 6)), (6, g_i i7), (5, g_i i4), (0, g_r 14 r0), (1, g_r 0 r1), (2, g_r 1 r2), (3, g_r 21 r3)]) hK d_Lw_law_773 6 rfl rfl (by rw [hN]; decide) rfl ?_
            refine r_goto (tgt := 23) hK d_Lw_law_776 (by decide) ?_
            exact r_sub [3, 4, 5, 6, 0] rfl (ih _ _ _ _ _ _ h)
          · refine r_aload_n hK d_Lw_law_141 rfl 5 rfl ?_
            refine r_iconst (v := 0) hK d_Lw_law_142 (by decide) ?_
            refine r_laload hK ar_21 rfl d_Lw_law_143 h (fun j11 h => ?_)
            refine r_iload hK d_Lw_law_144 0 rfl ?_
            refine r_i2l hK d_Lw_law_146 ?_
            refine r_lifeq (tgt := 153) hK d_Lw_law_147 d_Lw_law_148 (by decide) h (fun h => ?_) (fun h => ?_)
            · refine r_goto (tgt := 773) hK d_Lw_law_153 (by decide) ?_
              refine r_iinc (ls1 := [(4, g_i (x4 + 6)), (6, g_i i7), (5, g_i i4), (0, g_r 14 r0), (1, g_r 0 r1), (2, g_r 1 r2), (3, g_r 21 r3)]) hK d_Lw_law_773 6 rfl rfl (by rw [hN]; decide) rfl ?_
              refine r_goto (tgt := 23) hK d_Lw_law_776 (by decide) ?_
              exact r_sub [3, 4, 5, 6, 0] rfl (ih _ _ _ _ _ _ h)
            · refine r_iconst (v := 0) hK d_Lw_law_151 (by decide) ?_
              exact r_zreturn hK d_Lw_law_152 h
        · refine r_iconst (v := 0) hK d_Lw_law_134 (by decide) ?_
          exact r_zreturn hK d_Lw_law_135 h
      rw [if_neg q0] at h
      by_cases q1 : (i2 &&& 15) = (1 : Int32)
      · rw [if_pos q1] at h
        refine r_tswIn (tgt := 156) (off := 116) hK 1 q1 d_Lw_law_40 (by decide) (by decide) (by decide) (by decide) ?_
        refine r_aload_n hK d_Lw_law_156 rfl 1 rfl ?_
        refine r_aload_n hK d_Lw_law_157 rfl 0 rfl ?_
        refine r_iload hK d_Lw_law_158 4 rfl ?_
        refine r_iconst (v := 1) hK d_Lw_law_160 (by decide) ?_
        refine r_iadd hK d_Lw_law_161 ?_
        refine r_sca hK hG d_Lw_law_162 h (fun i12 h => ?_)
        refine r_aload_n hK d_Lw_law_163 rfl 0 rfl ?_
        refine r_iload hK d_Lw_law_164 4 rfl ?_
        refine r_iconst (v := 2) hK d_Lw_law_166 (by decide) ?_
        refine r_iadd hK d_Lw_law_167 ?_
        refine r_sca hK hG d_Lw_law_168 h (fun i13 h => ?_)
        refine r_aload_n hK d_Lw_law_169 rfl 0 rfl ?_
        refine r_iload hK d_Lw_law_170 4 rfl ?_
        refine r_iconst (v := 3) hK d_Lw_law_172 (by decide) ?_
        refine r_iadd hK d_Lw_law_173 ?_
        refine r_sca hK hG d_Lw_law_174 h (fun i14 h => ?_)
        refine r_aload_n hK d_Lw_law_175 rfl 0 rfl ?_
        refine r_iload hK d_Lw_law_176 4 rfl ?_
        refine r_iconst (v := 4) hK d_Lw_law_178 (by decide) ?_
        refine r_iadd hK d_Lw_law_179 ?_
        refine r_sca hK hG d_Lw_law_180 h (fun i15 h => ?_)
        refine r_aload_n hK d_Lw_law_181 rfl 0 rfl ?_
        refine r_iload hK d_Lw_law_182 4 rfl ?_
        refine r_iconst (v := 5) hK d_Lw_law_184 (by decide) ?_
        refine r_iadd hK d_Lw_law_185 ?_
        refine r_sca hK hG d_Lw_law_186 h (fun i16 h => ?_)
        refine r_aload_n hK d_Lw_law_187 rfl 3 rfl ?_
        refine r_SXi (avL := [g_r 0 r1, g_i i12, g_i i13, g_i i14, g_i i15, g_i i16, g_r 21 r3]) (st := []) hK w2_107 w2_106 w2_108 w1_0 (by decide) pl_Lw_row (by rw [hD]; decide) (Nat.le_of_ble_eq_true rfl) rfl d_Lw_law_188 (fun o9 h9 => c_Lw_row _ _ _ _ _ _ _ _ _ _ o9 h9) h (fun i17 s18 h => ?_)
        refine r_istore (ls1 := [(5, g_i i17), (0, g_r 14 r0), (1, g_r 0 r1), (2, g_r 1 r2), (3, g_r 21 r3), (4, g_i x4)]) hK d_Lw_law_191 (by rw [hN]; decide) rfl ?_
        refine r_aload_n hK d_Lw_law_193 rfl 3 rfl ?_
        refine r_aload_n hK d_Lw_law_194 rfl 1 rfl ?_
        refine r_iload hK d_Lw_law_195 5 rfl ?_
        refine r_iconst (v := 1) hK d_Lw_law_197 (by decide) ?_
        refine r_iadd hK d_Lw_law_198 ?_
        refine r_sca hK hG d_Lw_law_199 h (fun i19 h => ?_)
        refine r_aload_n hK d_Lw_law_200 rfl 1 rfl ?_
        refine r_iload hK d_Lw_law_201 5 rfl ?_
        refine r_iconst (v := 2) hK d_Lw_law_203 (by decide) ?_
        refine r_iadd hK d_Lw_law_204 ?_
        refine r_sca hK hG d_Lw_law_205 h (fun i20 h => ?_)
        refine r_aload_n hK d_Lw_law_206 rfl 1 rfl ?_
        refine r_iload hK d_Lw_law_207 5 rfl ?_
        refine r_iconst (v := 3) hK d_Lw_law_209 (by decide) ?_
        refine r_iadd hK d_Lw_law_210 ?_
        refine r_sca hK hG d_Lw_law_211 h (fun i21 h => ?_)
        refine r_aload_n hK d_Lw_law_212 rfl 1 rfl ?_
        refine r_iload hK d_Lw_law_213 5 rfl ?_
        refine r_iconst (v := 4) hK d_Lw_law_215 (by decide) ?_
        refine r_iadd hK d_Lw_law_216 ?_
        refine r_sca hK hG d_Lw_law_217 h (fun i22 h => ?_)
        refine r_aload_n hK d_Lw_law_218 rfl 1 rfl ?_
        refine r_iload hK d_Lw_law_219 5 rfl ?_
        refine r_iconst (v := 5) hK d_Lw_law_221 (by decide) ?_
        refine r_iadd hK d_Lw_law_222 ?_
        refine r_sca hK hG d_Lw_law_223 h (fun i23 h => ?_)
        refine r_Vi (avL := [g_i i19, g_i i20, g_i i21, g_i i22, g_i i23]) (st := []) hK ob_M rfl w8_109 w8_110 w8_108 w8_111 w1_6 (by decide) pl_M_row (by rw [hD]; decide) (Nat.le_of_ble_eq_true rfl) rfl d_Lw_law_224 (fun o9 h9 => c_M_row _ _ _ _ _ _ _ _ _ o9 h9) h (fun i24 s25 h => ?_)
        refine r_istore (ls1 := [(6, g_i i24), (5, g_i i17), (0, g_r 14 r0), (1, g_r 0 r1), (2, g_r 1 r2), (3, g_r 21 r3), (4, g_i x4)]) hK d_Lw_law_227 (by rw [hN]; decide) rfl ?_
        refine r_aload_n hK d_Lw_law_229 rfl 4 rfl ?_
        refine r_Vi (avL := []) (st := []) hK ob_M rfl w8_101 w8_102 w8_100 w8_103 w1_6 (by decide) pl_M_thrown (by rw [hD]; decide) (Nat.le_of_ble_eq_true rfl) rfl d_Lw_law_230 (fun o9 h9 => c_M_thrown _ _ _ _ o9 h9) h (fun i26 s27 h => ?_)
        refine r_iload hK d_Lw_law_233 1 rfl ?_
        refine r_if_icmpeq (tgt := 240) hK d_Lw_law_235 (by decide) h (fun h => ?_) (fun h => ?_)
        · refine r_iload hK d_Lw_law_240 1 rfl ?_
          refine r_ifne (tgt := 257) hK d_Lw_law_242 (by decide) h (fun h => ?_) (fun h => ?_)
          · refine r_goto (tgt := 773) hK d_Lw_law_257 (by decide) ?_
            refine r_iinc (ls1 := [(4, g_i (x4 + 6)), (6, g_i i24), (5, g_i i17), (0, g_r 14 r0), (1, g_r 0 r1), (2, g_r 1 r2), (3, g_r 21 r3)]) hK d_Lw_law_773 6 rfl rfl (by rw [hN]; decide) rfl ?_
            refine r_goto (tgt := 23) hK d_Lw_law_776 (by decide) ?_
            exact r_sub [3, 4, 5, 6, 0] rfl (ih _ _ _ _ _ _ h)
          · refine r_aload_n hK d_Lw_law_245 rfl 5 rfl ?_
            refine r_iconst (v := 0) hK d_Lw_law_246 (by decide) ?_
            refine r_laload hK ar_21 rfl d_Lw_law_247 h (fun j28 h => ?_)
            refine r_iload hK d_Lw_law_248 0 rfl ?_
            refine r_i2l hK d_Lw_law_250 ?_
            refine r_lifeq (tgt := 257) hK d_Lw_law_251 d_Lw_law_252 (by decide) h (fun h => ?_) (fun h => ?_)
            · refine r_goto (tgt := 773) hK d_Lw_law_257 (by decide) ?_
              refine r_iinc (ls1 := [(4, g_i (x4 + 6)), (6, g_i i24), (5, g_i i17), (0, g_r 14 r0), (1, g_r 0 r1), (2, g_r 1 r2), (3, g_r 21 r3)]) hK d_Lw_law_773 6 rfl rfl (by rw [hN]; decide) rfl ?_
              refine r_goto (tgt := 23) hK d_Lw_law_776 (by decide) ?_
              exact r_sub [3, 4, 5, 6, 0] rfl (ih _ _ _ _ _ _ h)
            · refine r_iconst (v := 0) hK d_Lw_law_255 (by decide) ?_
              exact r_zreturn hK d_Lw_law_256 h
        · refine r_iconst (v := 0) hK d_Lw_law_238 (by decide) ?_
          exact r_zreturn hK d_Lw_law_239 h
      rw [if_neg q1] at h
      by_cases q2 : (i2 &&& 15) = (2 : Int32)
      · rw [if_pos q2] at h
        refine r_tswIn (tgt := 260) (off := 220) hK 2 q2 d_Lw_law_40 (by decide) (by decide) (by decide) (by decide) ?_
        refine r_aload_n hK d_Lw_law_260 rfl 1 rfl ?_
        refine r_aload_n hK d_Lw_law_261 rfl 0 rfl ?_
        refine r_iload hK d_Lw_law_262 4 rfl ?_
        refine r_iconst (v := 1) hK d_Lw_law_264 (by decide) ?_
        refine r_iadd hK d_Lw_law_265 ?_
        refine r_sca hK hG d_Lw_law_266 h (fun i29 h => ?_)
        refine r_aload_n hK d_Lw_law_267 rfl 3 rfl ?_
        refine r_SXi (avL := [g_r 0 r1, g_i i29, g_r 21 r3]) (st := []) hK w2_117 w2_116 w2_118 w1_0 (by decide) pl_Lw_clear (by rw [hD]; decide) (Nat.le_of_ble_eq_true rfl) rfl d_Lw_law_268 (fun o9 h9 => c_Lw_clear _ _ _ _ _ _ o9 h9) h (fun i30 s31 h => ?_)
        refine r_istore (ls1 := [(5, g_i i30), (0, g_r 14 r0), (1, g_r 0 r1), (2, g_r 1 r2), (3, g_r 21 r3), (4, g_i x4)]) hK d_Lw_law_271 (by rw [hN]; decide) rfl ?_
        refine r_aload_n hK d_Lw_law_273 rfl 3 rfl ?_
        refine r_aload_n hK d_Lw_law_274 rfl 1 rfl ?_
        refine r_iload hK d_Lw_law_275 5 rfl ?_
        refine r_iconst (v := 1) hK d_Lw_law_277 (by decide) ?_
        refine r_iadd hK d_Lw_law_278 ?_
        refine r_sca hK hG d_Lw_law_279 h (fun i32 h => ?_)
        refine r_Vi (avL := [g_i i32]) (st := []) hK ob_M rfl w8_114 w8_115 w8_113 w8_116 w1_6 (by decide) pl_M_clear (by rw [hD]; decide) (Nat.le_of_ble_eq_true rfl) rfl d_Lw_law_280 (fun o9 h9 => c_M_clear _ _ _ _ _ o9 h9) h (fun i33 s34 h => ?_)
        refine r_istore (ls1 := [(6, g_i i33), (5, g_i i30), (0, g_r 14 r0), (1, g_r 0 r1), (2, g_r 1 r2), (3, g_r 21 r3), (4, g_i x4)]) hK d_Lw_law_283 (by rw [hN]; decide) rfl ?_
        refine r_aload_n hK d_Lw_law_285 rfl 4 rfl ?_
        refine r_Vi (avL := []) (st := []) hK ob_M rfl w8_101 w8_102 w8_100 w8_103 w1_6 (by decide) pl_M_thrown (by rw [hD]; decide) (Nat.le_of_ble_eq_true rfl) rfl d_Lw_law_286 (fun o9 h9 => c_M_thrown _ _ _ _ o9 h9) h (fun i35 s36 h => ?_)
        refine r_iload hK d_Lw_law_289 1 rfl ?_
        refine r_if_icmpeq (tgt := 296) hK d_Lw_law_291 (by decide) h (fun h => ?_) (fun h => ?_)
        · refine r_iload hK d_Lw_law_296 1 rfl ?_
          refine r_ifne (tgt := 313) hK d_Lw_law_298 (by decide) h (fun h => ?_) (fun h => ?_)
          · refine r_goto (tgt := 773) hK d_Lw_law_313 (by decide) ?_
            refine r_iinc (ls1 := [(4, g_i (x4 + 6)), (6, g_i i33), (5, g_i i30), (0, g_r 14 r0), (1, g_r 0 r1), (2, g_r 1 r2), (3, g_r 21 r3)]) hK d_Lw_law_773 6 rfl rfl (by rw [hN]; decide) rfl ?_
            refine r_goto (tgt := 23) hK d_Lw_law_776 (by decide) ?_
            exact r_sub [3, 4, 5, 6, 0] rfl (ih _ _ _ _ _ _ h)
          · refine r_aload_n hK d_Lw_law_301 rfl 5 rfl ?_
            refine r_iconst (v := 0) hK d_Lw_law_302 (by decide) ?_
            refine r_laload hK ar_21 rfl d_Lw_law_303 h (fun j37 h => ?_)
            refine r_iload hK d_Lw_law_304 0 rfl ?_
            refine r_i2l hK d_Lw_law_306 ?_
            refine r_lifeq (tgt := 313) hK d_Lw_law_307 d_Lw_law_308 (by decide) h (fun h => ?_) (fun h => ?_)
            · refine r_goto (tgt := 773) hK d_Lw_law_313 (by decide) ?_
              refine r_iinc (ls1 := [(4, g_i (x4 + 6)), (6, g_i i33), (5, g_i i30), (0, g_r 14 r0), (1, g_r 0 r1), (2, g_r 1 r2), (3, g_r 21 r3)]) hK d_Lw_law_773 6 rfl rfl (by rw [hN]; decide) rfl ?_
              refine r_goto (tgt := 23) hK d_Lw_law_776 (by decide) ?_
              exact r_sub [3, 4, 5, 6, 0] rfl (ih _ _ _ _ _ _ h)
            · refine r_iconst (v := 0) hK d_Lw_law_311 (by decide) ?_
              exact r_zreturn hK d_Lw_law_312 h
        · refine r_iconst (v := 0) hK d_Lw_law_294 (by decide) ?_
          exact r_zreturn hK d_Lw_law_295 h
      rw [if_neg q2] at h
      by_cases q3 : (i2 &&& 15) = (3 : Int32)
      · rw [if_pos q3] at h
        refine r_tswIn (tgt := 316) (off := 276) hK 3 q3 d_Lw_law_40 (by decide) (by decide) (by decide) (by decide) ?_
        refine r_aload_n hK d_Lw_law_316 rfl 1 rfl ?_
        refine r_aload_n hK d_Lw_law_317 rfl 0 rfl ?_
        refine r_iload hK d_Lw_law_318 4 rfl ?_
        refine r_iconst (v := 1) hK d_Lw_law_320 (by decide) ?_
        refine r_iadd hK d_Lw_law_321 ?_
        refine r_sca hK hG d_Lw_law_322 h (fun i38 h => ?_)
        refine r_aload_n hK d_Lw_law_323 rfl 0 rfl ?_
        refine r_iload hK d_Lw_law_324 4 rfl ?_
        refine r_iconst (v := 2) hK d_Lw_law_326 (by decide) ?_
        refine r_iadd hK d_Lw_law_327 ?_
        refine r_sca hK hG d_Lw_law_328 h (fun i39 h => ?_)
        refine r_aload_n hK d_Lw_law_329 rfl 0 rfl ?_
        refine r_iload hK d_Lw_law_330 4 rfl ?_
        refine r_iconst (v := 3) hK d_Lw_law_332 (by decide) ?_
        refine r_iadd hK d_Lw_law_333 ?_
        refine r_sca hK hG d_Lw_law_334 h (fun i40 h => ?_)
        refine r_aload_n hK d_Lw_law_335 rfl 0 rfl ?_
        refine r_iload hK d_Lw_law_336 4 rfl ?_
        refine r_iconst (v := 4) hK d_Lw_law_338 (by decide) ?_
        refine r_iadd hK d_Lw_law_339 ?_
        refine r_sca hK hG d_Lw_law_340 h (fun i41 h => ?_)
        refine r_aload_n hK d_Lw_law_341 rfl 0 rfl ?_
        refine r_iload hK d_Lw_law_342 4 rfl ?_
        refine r_iconst (v := 5) hK d_Lw_law_344 (by decide) ?_
        refine r_iadd hK d_Lw_law_345 ?_
        refine r_sca hK hG d_Lw_law_346 h (fun i42 h => ?_)
        refine r_Vi (avL := [g_i i38, g_i i39, g_i i40, g_i i41, g_i i42]) (st := []) hK ob_E rfl w1_238 w1_239 w1_237 w2_0 w1_1 (by decide) pl_E_text (by rw [hD]; decide) (Nat.le_of_ble_eq_true rfl) rfl d_Lw_law_347 (fun o9 h9 => c_E_text _ _ _ _ _ _ _ _ _ o9 h9) h (fun i43 s44 h => ?_)
        refine r_aload_n hK d_Lw_law_350 rfl 2 rfl ?_
        refine r_aload_n hK d_Lw_law_351 rfl 0 rfl ?_
        refine r_iload hK d_Lw_law_352 4 rfl ?_
        refine r_iconst (v := 1) hK d_Lw_law_354 (by decide) ?_
        refine r_iadd hK d_Lw_law_355 ?_
        refine r_sca hK hG d_Lw_law_356 h (fun i45 h => ?_)
        refine r_aload_n hK d_Lw_law_357 rfl 0 rfl ?_
        refine r_iload hK d_Lw_law_358 4 rfl ?_
        refine r_iconst (v := 2) hK d_Lw_law_360 (by decide) ?_
        refine r_iadd hK d_Lw_law_361 ?_
        refine r_sca hK hG d_Lw_law_362 h (fun i46 h => ?_)
        refine r_aload_n hK d_Lw_law_363 rfl 0 rfl ?_
        refine r_iload hK d_Lw_law_364 4 rfl ?_
        refine r_iconst (v := 3) hK d_Lw_law_366 (by decide) ?_
        refine r_iadd hK d_Lw_law_367 ?_
        refine r_sca hK hG d_Lw_law_368 h (fun i47 h => ?_)
        refine r_aload_n hK d_Lw_law_369 rfl 0 rfl ?_
        refine r_iload hK d_Lw_law_370 4 rfl ?_
        refine r_iconst (v := 4) hK d_Lw_law_372 (by decide) ?_
        refine r_iadd hK d_Lw_law_373 ?_
        refine r_sca hK hG d_Lw_law_374 h (fun i48 h => ?_)
        refine r_aload_n hK d_Lw_law_375 rfl 0 rfl ?_
        refine r_iload hK d_Lw_law_376 4 rfl ?_
        refine r_iconst (v := 5) hK d_Lw_law_378 (by decide) ?_
        refine r_iadd hK d_Lw_law_379 ?_
        refine r_sca hK hG d_Lw_law_380 h (fun i49 h => ?_)
        refine r_Vi (avL := [g_i i45, g_i i46, g_i i47, g_i i48, g_i i49]) (st := [g_i i43]) hK ob_M rfl w8_118 w8_119 w8_117 w8_120 w1_6 (by decide) pl_M_text (by rw [hD]; decide) (Nat.le_of_ble_eq_true rfl) rfl d_Lw_law_381 (fun o9 h9 => c_M_text _ _ _ _ _ _ _ _ _ o9 h9) h (fun i50 s51 h => ?_)
        refine r_if_icmpeq (tgt := 773) hK d_Lw_law_384 (by decide) h (fun h => ?_) (fun h => ?_)
        · refine r_iinc (ls1 := [(4, g_i (x4 + 6)), (0, g_r 14 r0), (1, g_r 0 r1), (2, g_r 1 r2), (3, g_r 21 r3)]) hK d_Lw_law_773 4 rfl rfl (by rw [hN]; decide) rfl ?_
          refine r_goto (tgt := 23) hK d_Lw_law_776 (by decide) ?_
          exact r_sub [1, 2, 3, 4, 0] rfl (ih _ _ _ _ _ _ h)
        · refine r_iconst (v := 0) hK d_Lw_law_387 (by decide) ?_
          exact r_zreturn hK d_Lw_law_388 h
      rw [if_neg q3] at h
      by_cases q4 : (i2 &&& 15) = (4 : Int32)
      · rw [if_pos q4] at h
        refine r_tswIn (tgt := 389) (off := 349) hK 4 q4 d_Lw_law_40 (by decide) (by decide) (by decide) (by decide) ?_
        refine r_aload_n hK d_Lw_law_389 rfl 1 rfl ?_
        refine r_aload_n hK d_Lw_law_390 rfl 3 rfl ?_
        refine r_SXi (avL := [g_r 0 r1, g_r 21 r3]) (st := []) hK w2_124 w2_123 w2_125 w1_0 (by decide) pl_Lw_prepare (by rw [hD]; decide) (Nat.le_of_ble_eq_true rfl) rfl d_Lw_law_391 (fun o9 h9 => c_Lw_prepare _ _ _ _ _ o9 h9) h (fun i52 s53 h => ?_)
        refine r_istore (ls1 := [(5, g_i i52), (0, g_r 14 r0), (1, g_r 0 r1), (2, g_r 1 r2), (3, g_r 21 r3), (4, g_i x4)]) hK d_Lw_law_394 (by rw [hN]; decide) rfl ?_
        refine r_aload_n hK d_Lw_law_396 rfl 3 rfl ?_
        refine r_Vi (avL := []) (st := []) hK ob_M rfl w8_125 w8_126 w8_124 w8_127 w1_6 (by decide) pl_M_prepare (by rw [hD]; decide) (Nat.le_of_ble_eq_true rfl) rfl d_Lw_law_397 (fun o9 h9 => c_M_prepare _ _ _ _ o9 h9) h (fun i54 s55 h => ?_)
        refine r_istore (ls1 := [(6, g_i i54), (5, g_i i52), (0, g_r 14 r0), (1, g_r 0 r1), (2, g_r 1 r2), (3, g_r 21 r3), (4, g_i x4)]) hK d_Lw_law_400 (by rw [hN]; decide) rfl ?_
        refine r_aload_n hK d_Lw_law_402 rfl 4 rfl ?_
        refine r_Vi (avL := []) (st := []) hK ob_M rfl w8_101 w8_102 w8_100 w8_103 w1_6 (by decide) pl_M_thrown (by rw [hD]; decide) (Nat.le_of_ble_eq_true rfl) rfl d_Lw_law_403 (fun o9 h9 => c_M_thrown _ _ _ _ o9 h9) h (fun i56 s57 h => ?_)
        refine r_iload hK d_Lw_law_406 1 rfl ?_
        refine r_if_icmpeq (tgt := 413) hK d_Lw_law_408 (by decide) h (fun h => ?_) (fun h => ?_)
        · refine r_iload hK d_Lw_law_413 1 rfl ?_
          refine r_ifne (tgt := 430) hK d_Lw_law_415 (by decide) h (fun h => ?_) (fun h => ?_)
          · refine r_goto (tgt := 773) hK d_Lw_law_430 (by decide) ?_
            refine r_iinc (ls1 := [(4, g_i (x4 + 6)), (6, g_i i54), (5, g_i i52), (0, g_r 14 r0), (1, g_r 0 r1), (2, g_r 1 r2), (3, g_r 21 r3)]) hK d_Lw_law_773 6 rfl rfl (by rw [hN]; decide) rfl ?_
            refine r_goto (tgt := 23) hK d_Lw_law_776 (by decide) ?_
            exact r_sub [3, 4, 5, 6, 0] rfl (ih _ _ _ _ _ _ h)
          · refine r_aload_n hK d_Lw_law_418 rfl 5 rfl ?_
            refine r_iconst (v := 0) hK d_Lw_law_419 (by decide) ?_
            refine r_laload hK ar_21 rfl d_Lw_law_420 h (fun j58 h => ?_)
            refine r_iload hK d_Lw_law_421 0 rfl ?_
            refine r_i2l hK d_Lw_law_423 ?_
            refine r_lifeq (tgt := 430) hK d_Lw_law_424 d_Lw_law_425 (by decide) h (fun h => ?_) (fun h => ?_)
            · refine r_goto (tgt := 773) hK d_Lw_law_430 (by decide) ?_
              refine r_iinc (ls1 := [(4, g_i (x4 + 6)), (6, g_i i54), (5, g_i i52), (0, g_r 14 r0), (1, g_r 0 r1), (2, g_r 1 r2), (3, g_r 21 r3)]) hK d_Lw_law_773 6 rfl rfl (by rw [hN]; decide) rfl ?_
              refine r_goto (tgt := 23) hK d_Lw_law_776 (by decide) ?_
              exact r_sub [3, 4, 5, 6, 0] rfl (ih _ _ _ _ _ _ h)
            · refine r_iconst (v := 0) hK d_Lw_law_428 (by decide) ?_
              exact r_zreturn hK d_Lw_law_429 h
        · refine r_iconst (v := 0) hK d_Lw_law_411 (by decide) ?_
          exact r_zreturn hK d_Lw_law_412 h
      rw [if_neg q4] at h
      by_cases q5 : (i2 &&& 15) = (5 : Int32)
      · rw [if_pos q5] at h
        refine r_tswIn (tgt := 433) (off := 393) hK 5 q5 d_Lw_law_40 (by decide) (by decide) (by decide) (by decide) ?_
        refine r_aload_n hK d_Lw_law_433 rfl 1 rfl ?_
        refine r_Vi (avL := []) (st := []) hK ob_E rfl w2_6 w2_7 w2_5 w2_8 w1_1 (by decide) pl_E_fault (by rw [hD]; decide) (Nat.le_of_ble_eq_true rfl) rfl d_Lw_law_434 (fun o9 h9 => c_E_fault _ _ _ _ o9 h9) h (fun i59 s60 h => ?_)
        refine r_aload_n hK d_Lw_law_437 rfl 2 rfl ?_
        refine r_Vi (avL := []) (st := [g_i i59]) hK ob_M rfl w9_82 w9_83 w9_81 w9_84 w1_6 (by decide) pl_M_fault (by rw [hD]; decide) (Nat.le_of_ble_eq_true rfl) rfl d_Lw_law_438 (fun o9 h9 => c_M_fault _ _ _ _ o9 h9) h (fun i61 s62 h => ?_)
        refine r_if_icmpeq (tgt := 773) hK d_Lw_law_441 (by decide) h (fun h => ?_) (fun h => ?_)
        · refine r_iinc (ls1 := [(4, g_i (x4 + 6)), (0, g_r 14 r0), (1, g_r 0 r1), (2, g_r 1 r2), (3, g_r 21 r3)]) hK d_Lw_law_773 4 rfl rfl (by rw [hN]; decide) rfl ?_
          refine r_goto (tgt := 23) hK d_Lw_law_776 (by decide) ?_
          exact r_sub [1, 2, 3, 4, 0] rfl (ih _ _ _ _ _ _ h)
        · refine r_iconst (v := 0) hK d_Lw_law_444 (by decide) ?_
          exact r_zreturn hK d_Lw_law_445 h
      rw [if_neg q5] at h
      by_cases q6 : (i2 &&& 15) = (6 : Int32)
      · rw [if_pos q6] at h
        refine r_tswIn (tgt := 446) (off := 406) hK 6 q6 d_Lw_law_40 (by decide) (by decide) (by decide) (by decide) ?_
        refine r_aload_n hK d_Lw_law_446 rfl 1 rfl ?_
        refine r_aload_n hK d_Lw_law_447 rfl 0 rfl ?_
        refine r_iload hK d_Lw_law_448 4 rfl ?_
        refine r_iconst (v := 1) hK d_Lw_law_450 (by decide) ?_
        refine r_iadd hK d_Lw_law_451 ?_
        refine r_sca hK hG d_Lw_law_452 h (fun i63 h => ?_)
        refine r_aload_n hK d_Lw_law_453 rfl 0 rfl ?_
        refine r_iload hK d_Lw_law_454 4 rfl ?_
        refine r_iconst (v := 2) hK d_Lw_law_456 (by decide) ?_
        refine r_iadd hK d_Lw_law_457 ?_
        refine r_sca hK hG d_Lw_law_458 h (fun i64 h => ?_)
        refine r_aload_n hK d_Lw_law_459 rfl 3 rfl ?_
        refine r_SXi (avL := [g_r 0 r1, g_i i63, g_i i64, g_r 21 r3]) (st := []) hK w5_235 w5_234 w5_236 w1_0 (by decide) pl_Lw_part (by rw [hD]; decide) (Nat.le_of_ble_eq_true rfl) rfl d_Lw_law_460 (fun o9 h9 => c_Lw_part _ _ _ _ _ _ _ o9 h9) h (fun i65 s66 h => ?_)
        refine r_istore (ls1 := [(5, g_i i65), (0, g_r 14 r0), (1, g_r 0 r1), (2, g_r 1 r2), (3, g_r 21 r3), (4, g_i x4)]) hK d_Lw_law_463 (by rw [hN]; decide) rfl ?_
        refine r_aload_n hK d_Lw_law_465 rfl 3 rfl ?_
        refine r_aload_n hK d_Lw_law_466 rfl 1 rfl ?_
        refine r_iload hK d_Lw_law_467 5 rfl ?_
        refine r_iconst (v := 1) hK d_Lw_law_469 (by decide) ?_
        refine r_iadd hK d_Lw_law_470 ?_
        refine r_sca hK hG d_Lw_law_471 h (fun i67 h => ?_)
        refine r_aload_n hK d_Lw_law_472 rfl 1 rfl ?_
        refine r_iload hK d_Lw_law_473 5 rfl ?_
        refine r_iconst (v := 2) hK d_Lw_law_475 (by decide) ?_
        refine r_iadd hK d_Lw_law_476 ?_
        refine r_sca hK hG d_Lw_law_477 h (fun i68 h => ?_)
        refine r_Vi (avL := [g_i i67, g_i i68]) (st := []) hK ob_M rfl w9_86 w9_87 w9_85 w9_88 w1_6 (by decide) pl_M_part (by rw [hD]; decide) (Nat.le_of_ble_eq_true rfl) rfl d_Lw_law_478 (fun o9 h9 => c_M_part _ _ _ _ _ _ o9 h9) h (fun i69 s70 h => ?_)
        refine r_istore (ls1 := [(6, g_i i69), (5, g_i i65), (0, g_r 14 r0), (1, g_r 0 r1), (2, g_r 1 r2), (3, g_r 21 r3), (4, g_i x4)]) hK d_Lw_law_481 (by rw [hN]; decide) rfl ?_
        refine r_aload_n hK d_Lw_law_483 rfl 4 rfl ?_
        refine r_Vi (avL := []) (st := []) hK ob_M rfl w8_101 w8_102 w8_100 w8_103 w1_6 (by decide) pl_M_thrown (by rw [hD]; decide) (Nat.le_of_ble_eq_true rfl) rfl d_Lw_law_484 (fun o9 h9 => c_M_thrown _ _ _ _ o9 h9) h (fun i71 s72 h => ?_)
        refine r_iload hK d_Lw_law_487 1 rfl ?_
        refine r_if_icmpeq (tgt := 494) hK d_Lw_law_489 (by decide) h (fun h => ?_) (fun h => ?_)
        · refine r_iload hK d_Lw_law_494 1 rfl ?_
          refine r_ifne (tgt := 511) hK d_Lw_law_496 (by decide) h (fun h => ?_) (fun h => ?_)
          · refine r_goto (tgt := 773) hK d_Lw_law_511 (by decide) ?_
            refine r_iinc (ls1 := [(4, g_i (x4 + 6)), (6, g_i i69), (5, g_i i65), (0, g_r 14 r0), (1, g_r 0 r1), (2, g_r 1 r2), (3, g_r 21 r3)]) hK d_Lw_law_773 6 rfl rfl (by rw [hN]; decide) rfl ?_
            refine r_goto (tgt := 23) hK d_Lw_law_776 (by decide) ?_
            exact r_sub [3, 4, 5, 6, 0] rfl (ih _ _ _ _ _ _ h)
          · refine r_aload_n hK d_Lw_law_499 rfl 5 rfl ?_
            refine r_iconst (v := 0) hK d_Lw_law_500 (by decide) ?_
            refine r_laload hK ar_21 rfl d_Lw_law_501 h (fun j73 h => ?_)
            refine r_iload hK d_Lw_law_502 0 rfl ?_
            refine r_i2l hK d_Lw_law_504 ?_
            refine r_lifeq (tgt := 511) hK d_Lw_law_505 d_Lw_law_506 (by decide) h (fun h => ?_) (fun h => ?_)
            · refine r_goto (tgt := 773) hK d_Lw_law_511 (by decide) ?_
              refine r_iinc (ls1 := [(4, g_i (x4 + 6)), (6, g_i i69), (5, g_i i65), (0, g_r 14 r0), (1, g_r 0 r1), (2, g_r 1 r2), (3, g_r 21 r3)]) hK d_Lw_law_773 6 rfl rfl (by rw [hN]; decide) rfl ?_
              refine r_goto (tgt := 23) hK d_Lw_law_776 (by decide) ?_
              exact r_sub [3, 4, 5, 6, 0] rfl (ih _ _ _ _ _ _ h)
            · refine r_iconst (v := 0) hK d_Lw_law_509 (by decide) ?_
              exact r_zreturn hK d_Lw_law_510 h
        · refine r_iconst (v := 0) hK d_Lw_law_492 (by decide) ?_
          exact r_zreturn hK d_Lw_law_493 h
      rw [if_neg q6] at h
      by_cases q7 : (i2 &&& 15) = (7 : Int32)
      · rw [if_pos q7] at h
        refine r_tswIn (tgt := 514) (off := 474) hK 7 q7 d_Lw_law_40 (by decide) (by decide) (by decide) (by decide) ?_
        refine r_aload_n hK d_Lw_law_514 rfl 1 rfl ?_
        refine r_aload_n hK d_Lw_law_515 rfl 0 rfl ?_
        refine r_iload hK d_Lw_law_516 4 rfl ?_
        refine r_iconst (v := 1) hK d_Lw_law_518 (by decide) ?_
        refine r_iadd hK d_Lw_law_519 ?_
        refine r_sca hK hG d_Lw_law_520 h (fun i74 h => ?_)
        refine r_aload_n hK d_Lw_law_521 rfl 0 rfl ?_
        refine r_iload hK d_Lw_law_522 4 rfl ?_
        refine r_iconst (v := 2) hK d_Lw_law_524 (by decide) ?_
        refine r_iadd hK d_Lw_law_525 ?_
        refine r_sca hK hG d_Lw_law_526 h (fun i75 h => ?_)
        refine r_aload_n hK d_Lw_law_527 rfl 3 rfl ?_
        refine r_SXi (avL := [g_r 0 r1, g_i i74, g_i i75, g_r 21 r3]) (st := []) hK w6_20 w6_19 w6_21 w1_0 (by decide) pl_Lw_run (by rw [hD]; decide) (Nat.le_of_ble_eq_true rfl) rfl d_Lw_law_528 (fun o9 h9 => c_Lw_run _ _ _ _ _ _ _ o9 h9) h (fun i76 s77 h => ?_)
        refine r_istore (ls1 := [(5, g_i i76), (0, g_r 14 r0), (1, g_r 0 r1), (2, g_r 1 r2), (3, g_r 21 r3), (4, g_i x4)]) hK d_Lw_law_531 (by rw [hN]; decide) rfl ?_
        refine r_aload_n hK d_Lw_law_533 rfl 3 rfl ?_
        refine r_aload_n hK d_Lw_law_534 rfl 1 rfl ?_
        refine r_iload hK d_Lw_law_535 5 rfl ?_
        refine r_iconst (v := 1) hK d_Lw_law_537 (by decide) ?_
        refine r_iadd hK d_Lw_law_538 ?_
        refine r_sca hK hG d_Lw_law_539 h (fun i78 h => ?_)
        refine r_aload_n hK d_Lw_law_540 rfl 1 rfl ?_
        refine r_iload hK d_Lw_law_541 5 rfl ?_
        refine r_iconst (v := 2) hK d_Lw_law_543 (by decide) ?_
        refine r_iadd hK d_Lw_law_544 ?_
        refine r_sca hK hG d_Lw_law_545 h (fun i79 h => ?_)
        refine r_Vi (avL := [g_i i78, g_i i79]) (st := []) hK ob_M rfl w9_90 w9_91 w9_89 w9_92 w1_6 (by decide) pl_M_run (by rw [hD]; decide) (Nat.le_of_ble_eq_true rfl) rfl d_Lw_law_546 (fun o9 h9 => c_M_run _ _ _ _ _ _ o9 h9) h (fun i80 s81 h => ?_)
        refine r_istore (ls1 := [(6, g_i i80), (5, g_i i76), (0, g_r 14 r0), (1, g_r 0 r1), (2, g_r 1 r2), (3, g_r 21 r3), (4, g_i x4)]) hK d_Lw_law_549 (by rw [hN]; decide) rfl ?_
        refine r_aload_n hK d_Lw_law_551 rfl 4 rfl ?_
        refine r_Vi (avL := []) (st := []) hK ob_M rfl w8_101 w8_102 w8_100 w8_103 w1_6 (by decide) pl_M_thrown (by rw [hD]; decide) (Nat.le_of_ble_eq_true rfl) rfl d_Lw_law_552 (fun o9 h9 => c_M_thrown _ _ _ _ o9 h9) h (fun i82 s83 h => ?_)
        refine r_iload hK d_Lw_law_555 1 rfl ?_
        refine r_if_icmpeq (tgt := 562) hK d_Lw_law_557 (by decide) h (fun h => ?_) (fun h => ?_)
        · refine r_iload hK d_Lw_law_562 1 rfl ?_
          refine r_ifne (tgt := 579) hK d_Lw_law_564 (by decide) h (fun h => ?_) (fun h => ?_)
          · refine r_goto (tgt := 773) hK d_Lw_law_579 (by decide) ?_
            refine r_iinc (ls1 := [(4, g_i (x4 + 6)), (6, g_i i80), (5, g_i i76), (0, g_r 14 r0), (1, g_r 0 r1), (2, g_r 1 r2), (3, g_r 21 r3)]) hK d_Lw_law_773 6 rfl rfl (by rw [hN]; decide) rfl ?_
            refine r_goto (tgt := 23) hK d_Lw_law_776 (by decide) ?_
            exact r_sub [3, 4, 5, 6, 0] rfl (ih _ _ _ _ _ _ h)
          · refine r_aload_n hK d_Lw_law_567 rfl 5 rfl ?_
            refine r_iconst (v := 0) hK d_Lw_law_568 (by decide) ?_
            refine r_laload hK ar_21 rfl d_Lw_law_569 h (fun j84 h => ?_)
            refine r_iload hK d_Lw_law_570 0 rfl ?_
            refine r_i2l hK d_Lw_law_572 ?_
            refine r_lifeq (tgt := 579) hK d_Lw_law_573 d_Lw_law_574 (by decide) h (fun h => ?_) (fun h => ?_)
            · refine r_goto (tgt := 773) hK d_Lw_law_579 (by decide) ?_
              refine r_iinc (ls1 := [(4, g_i (x4 + 6)), (6, g_i i80), (5, g_i i76), (0, g_r 14 r0), (1, g_r 0 r1), (2, g_r 1 r2), (3, g_r 21 r3)]) hK d_Lw_law_773 6 rfl rfl (by rw [hN]; decide) rfl ?_
              refine r_goto (tgt := 23) hK d_Lw_law_776 (by decide) ?_
              exact r_sub [3, 4, 5, 6, 0] rfl (ih _ _ _ _ _ _ h)
            · refine r_iconst (v := 0) hK d_Lw_law_577 (by decide) ?_
              exact r_zreturn hK d_Lw_law_578 h
        · refine r_iconst (v := 0) hK d_Lw_law_560 (by decide) ?_
          exact r_zreturn hK d_Lw_law_561 h
      rw [if_neg q7] at h
      by_cases q8 : (i2 &&& 15) = (8 : Int32)
      · rw [if_pos q8] at h
        refine r_tswIn (tgt := 582) (off := 542) hK 8 q8 d_Lw_law_40 (by decide) (by decide) (by decide) (by decide) ?_
        refine r_aload_n hK d_Lw_law_582 rfl 1 rfl ?_
        refine r_aload_n hK d_Lw_law_583 rfl 0 rfl ?_
        refine r_iload hK d_Lw_law_584 4 rfl ?_
        refine r_iconst (v := 1) hK d_Lw_law_586 (by decide) ?_
        refine r_iadd hK d_Lw_law_587 ?_
        refine r_sca hK hG d_Lw_law_588 h (fun i85 h => ?_)
        refine r_aload_n hK d_Lw_law_589 rfl 0 rfl ?_
        refine r_iload hK d_Lw_law_590 4 rfl ?_
        refine r_iconst (v := 2) hK d_Lw_law_592 (by decide) ?_
        refine r_iadd hK d_Lw_law_593 ?_
        refine r_sca hK hG d_Lw_law_594 h (fun i86 h => ?_)
        refine r_aload_n hK d_Lw_law_595 rfl 3 rfl ?_
        refine r_SXi (avL := [g_r 0 r1, g_i i85, g_i i86, g_r 21 r3]) (st := []) hK w6_218 w6_217 w6_219 w1_0 (by decide) pl_Lw_cell2 (by rw [hD]; decide) (Nat.le_of_ble_eq_true rfl) rfl d_Lw_law_596 (fun o9 h9 => c_Lw_cell2 _ _ _ _ _ _ _ o9 h9) h (fun i87 s88 h => ?_)
        refine r_istore (ls1 := [(5, g_i i87), (0, g_r 14 r0), (1, g_r 0 r1), (2, g_r 1 r2), (3, g_r 21 r3), (4, g_i x4)]) hK d_Lw_law_599 (by rw [hN]; decide) rfl ?_
        refine r_aload_n hK d_Lw_law_601 rfl 3 rfl ?_
        refine r_aload_n hK d_Lw_law_602 rfl 1 rfl ?_
        refine r_iload hK d_Lw_law_603 5 rfl ?_
        refine r_iconst (v := 1) hK d_Lw_law_605 (by decide) ?_
        refine r_iadd hK d_Lw_law_606 ?_
        refine r_sca hK hG d_Lw_law_607 h (fun i89 h => ?_)
        refine r_aload_n hK d_Lw_law_608 rfl 1 rfl ?_
        refine r_iload hK d_Lw_law_609 5 rfl ?_
        refine r_iconst (v := 2) hK d_Lw_law_611 (by decide) ?_
        refine r_iadd hK d_Lw_law_612 ?_
        refine r_sca hK hG d_Lw_law_613 h (fun i90 h => ?_)
        refine r_Vl (avL := [g_i i89, g_i i90]) (st := []) hK ob_M rfl w9_221 w9_222 w9_220 w9_223 w1_6 (by decide) pl_M_cell (by rw [hD]; decide) (Nat.le_of_ble_eq_true rfl) rfl d_Lw_law_614 (fun o9 h9 => c_M_cell _ _ _ _ _ _ o9 h9) h (fun j91 s92 h => ?_)
        refine r_lstore (ls1 := [(6, g_l j91), (5, g_i i87), (0, g_r 14 r0), (1, g_r 0 r1), (2, g_r 1 r2), (3, g_r 21 r3), (4, g_i x4)]) hK d_Lw_law_617 (by rw [hN]; decide) rfl ?_
        refine r_aload_n hK d_Lw_law_619 rfl 4 rfl ?_
        refine r_Vi (avL := []) (st := []) hK ob_M rfl w8_101 w8_102 w8_100 w8_103 w1_6 (by decide) pl_M_thrown (by rw [hD]; decide) (Nat.le_of_ble_eq_true rfl) rfl d_Lw_law_620 (fun o9 h9 => c_M_thrown _ _ _ _ o9 h9) h (fun i93 s94 h => ?_)
        refine r_iload hK d_Lw_law_623 1 rfl ?_
        refine r_if_icmpeq (tgt := 630) hK d_Lw_law_625 (by decide) h (fun h => ?_) (fun h => ?_)
        · refine r_iload hK d_Lw_law_630 1 rfl ?_
          refine r_ifne (tgt := 646) hK d_Lw_law_632 (by decide) h (fun h => ?_) (fun h => ?_)
          · refine r_goto (tgt := 773) hK d_Lw_law_646 (by decide) ?_
            refine r_iinc (ls1 := [(4, g_i (x4 + 6)), (6, g_l j91), (5, g_i i87), (0, g_r 14 r0), (1, g_r 0 r1), (2, g_r 1 r2), (3, g_r 21 r3)]) hK d_Lw_law_773 6 rfl rfl (by rw [hN]; decide) rfl ?_
            refine r_goto (tgt := 23) hK d_Lw_law_776 (by decide) ?_
            exact r_sub [3, 4, 5, 6, 0] rfl (ih _ _ _ _ _ _ h)
          · refine r_aload_n hK d_Lw_law_635 rfl 5 rfl ?_
            refine r_iconst (v := 0) hK d_Lw_law_636 (by decide) ?_
            refine r_laload hK ar_21 rfl d_Lw_law_637 h (fun j95 h => ?_)
            refine r_lload hK d_Lw_law_638 0 rfl ?_
            refine r_lifeq (tgt := 646) hK d_Lw_law_640 d_Lw_law_641 (by decide) h (fun h => ?_) (fun h => ?_)
            · refine r_goto (tgt := 773) hK d_Lw_law_646 (by decide) ?_
              refine r_iinc (ls1 := [(4, g_i (x4 + 6)), (6, g_l j91), (5, g_i i87), (0, g_r 14 r0), (1, g_r 0 r1), (2, g_r 1 r2), (3, g_r 21 r3)]) hK d_Lw_law_773 6 rfl rfl (by rw [hN]; decide) rfl ?_
              refine r_goto (tgt := 23) hK d_Lw_law_776 (by decide) ?_
              exact r_sub [3, 4, 5, 6, 0] rfl (ih _ _ _ _ _ _ h)
            · refine r_iconst (v := 0) hK d_Lw_law_644 (by decide) ?_
              exact r_zreturn hK d_Lw_law_645 h
        · refine r_iconst (v := 0) hK d_Lw_law_628 (by decide) ?_
          exact r_zreturn hK d_Lw_law_629 h
      rw [if_neg q8] at h
      by_cases q9 : (i2 &&& 15) = (9 : Int32)
      · rw [if_pos q9] at h
        refine r_tswIn (tgt := 649) (off := 609) hK 9 q9 d_Lw_law_40 (by decide) (by decide) (by decide) (by decide) ?_
        refine r_aload_n hK d_Lw_law_649 rfl 1 rfl ?_
        refine r_aload_n hK d_Lw_law_650 rfl 0 rfl ?_
        refine r_iload hK d_Lw_law_651 4 rfl ?_
        refine r_iconst (v := 1) hK d_Lw_law_653 (by decide) ?_
        refine r_iadd hK d_Lw_law_654 ?_
        refine r_sca hK hG d_Lw_law_655 h (fun i96 h => ?_)
        refine r_aload_n hK d_Lw_law_656 rfl 3 rfl ?_
        refine r_SXi (avL := [g_r 0 r1, g_i i96, g_r 21 r3]) (st := []) hK w7_2 w7_1 w7_3 w1_0 (by decide) pl_Lw_size (by rw [hD]; decide) (Nat.le_of_ble_eq_true rfl) rfl d_Lw_law_657 (fun o9 h9 => c_Lw_size _ _ _ _ _ _ o9 h9) h (fun i97 s98 h => ?_)
        refine r_istore (ls1 := [(5, g_i i97), (0, g_r 14 r0), (1, g_r 0 r1), (2, g_r 1 r2), (3, g_r 21 r3), (4, g_i x4)]) hK d_Lw_law_660 (by rw [hN]; decide) rfl ?_
        refine r_aload_n hK d_Lw_law_662 rfl 3 rfl ?_
        refine r_aload_n hK d_Lw_law_663 rfl 1 rfl ?_
        refine r_iload hK d_Lw_law_664 5 rfl ?_
        refine r_iconst (v := 1) hK d_Lw_law_666 (by decide) ?_
        refine r_iadd hK d_Lw_law_667 ?_
        refine r_sca hK hG d_Lw_law_668 h (fun i99 h => ?_)
        refine r_Vi (avL := [g_i i99]) (st := []) hK ob_M rfl w9_225 w9_226 w9_224 w9_227 w1_6 (by decide) pl_M_size (by rw [hD]; decide) (Nat.le_of_ble_eq_true rfl) rfl d_Lw_law_669 (fun o9 h9 => c_M_size _ _ _ _ _ o9 h9) h (fun i100 s101 h => ?_)
        refine r_istore (ls1 := [(6, g_i i100), (5, g_i i97), (0, g_r 14 r0), (1, g_r 0 r1), (2, g_r 1 r2), (3, g_r 21 r3), (4, g_i x4)]) hK d_Lw_law_672 (by rw [hN]; decide) rfl ?_
        refine r_aload_n hK d_Lw_law_674 rfl 4 rfl ?_
        refine r_Vi (avL := []) (st := []) hK ob_M rfl w8_101 w8_102 w8_100 w8_103 w1_6 (by decide) pl_M_thrown (by rw [hD]; decide) (Nat.le_of_ble_eq_true rfl) rfl d_Lw_law_675 (fun o9 h9 => c_M_thrown _ _ _ _ o9 h9) h (fun i102 s103 h => ?_)
        refine r_iload hK d_Lw_law_678 1 rfl ?_
        refine r_if_icmpeq (tgt := 685) hK d_Lw_law_680 (by decide) h (fun h => ?_) (fun h => ?_)
        · refine r_iload hK d_Lw_law_685 1 rfl ?_
          refine r_ifne (tgt := 702) hK d_Lw_law_687 (by decide) h (fun h => ?_) (fun h => ?_)
          · refine r_goto (tgt := 773) hK d_Lw_law_702 (by decide) ?_
            refine r_iinc (ls1 := [(4, g_i (x4 + 6)), (6, g_i i100), (5, g_i i97), (0, g_r 14 r0), (1, g_r 0 r1), (2, g_r 1 r2), (3, g_r 21 r3)]) hK d_Lw_law_773 6 rfl rfl (by rw [hN]; decide) rfl ?_
            refine r_goto (tgt := 23) hK d_Lw_law_776 (by decide) ?_
            exact r_sub [3, 4, 5, 6, 0] rfl (ih _ _ _ _ _ _ h)
          · refine r_aload_n hK d_Lw_law_690 rfl 5 rfl ?_
            refine r_iconst (v := 0) hK d_Lw_law_691 (by decide) ?_
            refine r_laload hK ar_21 rfl d_Lw_law_692 h (fun j104 h => ?_)
            refine r_iload hK d_Lw_law_693 0 rfl ?_
            refine r_i2l hK d_Lw_law_695 ?_
            refine r_lifeq (tgt := 702) hK d_Lw_law_696 d_Lw_law_697 (by decide) h (fun h => ?_) (fun h => ?_)
            · refine r_goto (tgt := 773) hK d_Lw_law_702 (by decide) ?_
              refine r_iinc (ls1 := [(4, g_i (x4 + 6)), (6, g_i i100), (5, g_i i97), (0, g_r 14 r0), (1, g_r 0 r1), (2, g_r 1 r2), (3, g_r 21 r3)]) hK d_Lw_law_773 6 rfl rfl (by rw [hN]; decide) rfl ?_
              refine r_goto (tgt := 23) hK d_Lw_law_776 (by decide) ?_
              exact r_sub [3, 4, 5, 6, 0] rfl (ih _ _ _ _ _ _ h)
            · refine r_iconst (v := 0) hK d_Lw_law_700 (by decide) ?_
              exact r_zreturn hK d_Lw_law_701 h
        · refine r_iconst (v := 0) hK d_Lw_law_683 (by decide) ?_
          exact r_zreturn hK d_Lw_law_684 h
      rw [if_neg q9] at h
      by_cases q10 : (i2 &&& 15) = (10 : Int32)
      · rw [if_pos q10] at h
        refine r_tswIn (tgt := 705) (off := 665) hK 10 q10 d_Lw_law_40 (by decide) (by decide) (by decide) (by decide) ?_
        refine r_aload_n hK d_Lw_law_705 rfl 1 rfl ?_
        refine r_aload_n hK d_Lw_law_706 rfl 0 rfl ?_
        refine r_iload hK d_Lw_law_707 4 rfl ?_
        refine r_iconst (v := 1) hK d_Lw_law_709 (by decide) ?_
        refine r_iadd hK d_Lw_law_710 ?_
        refine r_sca hK hG d_Lw_law_711 h (fun i105 h => ?_)
        refine r_aload_n hK d_Lw_law_712 rfl 0 rfl ?_
        refine r_iload hK d_Lw_law_713 4 rfl ?_
        refine r_iconst (v := 2) hK d_Lw_law_715 (by decide) ?_
        refine r_iadd hK d_Lw_law_716 ?_
        refine r_sca hK hG d_Lw_law_717 h (fun i106 h => ?_)
        refine r_aload_n hK d_Lw_law_718 rfl 3 rfl ?_
        refine r_SXi (avL := [g_r 0 r1, g_i i105, g_i i106, g_r 21 r3]) (st := []) hK w7_10 w7_9 w7_11 w1_0 (by decide) pl_Lw_rounds (by rw [hD]; decide) (Nat.le_of_ble_eq_true rfl) rfl d_Lw_law_719 (fun o9 h9 => c_Lw_rounds _ _ _ _ _ _ _ o9 h9) h (fun i107 s108 h => ?_)
        refine r_istore (ls1 := [(5, g_i i107), (0, g_r 14 r0), (1, g_r 0 r1), (2, g_r 1 r2), (3, g_r 21 r3), (4, g_i x4)]) hK d_Lw_law_722 (by rw [hN]; decide) rfl ?_
        refine r_aload_n hK d_Lw_law_724 rfl 3 rfl ?_
        refine r_aload_n hK d_Lw_law_725 rfl 1 rfl ?_
        refine r_iload hK d_Lw_law_726 5 rfl ?_
        refine r_iconst (v := 1) hK d_Lw_law_728 (by decide) ?_
        refine r_iadd hK d_Lw_law_729 ?_
        refine r_sca hK hG d_Lw_law_730 h (fun i109 h => ?_)
        refine r_aload_n hK d_Lw_law_731 rfl 1 rfl ?_
        refine r_iload hK d_Lw_law_732 5 rfl ?_
        refine r_iconst (v := 2) hK d_Lw_law_734 (by decide) ?_
        refine r_iadd hK d_Lw_law_735 ?_
        refine r_sca hK hG d_Lw_law_736 h (fun i110 h => ?_)
        refine r_Vi (avL := [g_i i109, g_i i110]) (st := []) hK ob_M rfl w9_229 w9_230 w9_228 w9_231 w1_6 (by decide) pl_M_rounds (by rw [hD]; decide) (Nat.le_of_ble_eq_true rfl) rfl d_Lw_law_737 (fun o9 h9 => c_M_rounds _ _ _ _ _ _ o9 h9) h (fun i111 s112 h => ?_)
        refine r_istore (ls1 := [(6, g_i i111), (5, g_i i107), (0, g_r 14 r0), (1, g_r 0 r1), (2, g_r 1 r2), (3, g_r 21 r3), (4, g_i x4)]) hK d_Lw_law_740 (by rw [hN]; decide) rfl ?_
        refine r_aload_n hK d_Lw_law_742 rfl 4 rfl ?_
        refine r_Vi (avL := []) (st := []) hK ob_M rfl w8_101 w8_102 w8_100 w8_103 w1_6 (by decide) pl_M_thrown (by rw [hD]; decide) (Nat.le_of_ble_eq_true rfl) rfl d_Lw_law_743 (fun o9 h9 => c_M_thrown _ _ _ _ o9 h9) h (fun i113 s114 h => ?_)
        refine r_iload hK d_Lw_law_746 1 rfl ?_
        refine r_if_icmpeq (tgt := 753) hK d_Lw_law_748 (by decide) h (fun h => ?_) (fun h => ?_)
        · refine r_iload hK d_Lw_law_753 1 rfl ?_
          refine r_ifne (tgt := 770) hK d_Lw_law_755 (by decide) h (fun h => ?_) (fun h => ?_)
          · refine r_goto (tgt := 773) hK d_Lw_law_770 (by decide) ?_
            refine r_iinc (ls1 := [(4, g_i (x4 + 6)), (6, g_i i111), (5, g_i i107), (0, g_r 14 r0), (1, g_r 0 r1), (2, g_r 1 r2), (3, g_r 21 r3)]) hK d_Lw_law_773 6 rfl rfl (by rw [hN]; decide) rfl ?_
            refine r_goto (tgt := 23) hK d_Lw_law_776 (by decide) ?_
            exact r_sub [3, 4, 5, 6, 0] rfl (ih _ _ _ _ _ _ h)
          · refine r_aload_n hK d_Lw_law_758 rfl 5 rfl ?_
            refine r_iconst (v := 0) hK d_Lw_law_759 (by decide) ?_
            refine r_laload hK ar_21 rfl d_Lw_law_760 h (fun j115 h => ?_)
            refine r_iload hK d_Lw_law_761 0 rfl ?_
            refine r_i2l hK d_Lw_law_763 ?_
            refine r_lifeq (tgt := 770) hK d_Lw_law_764 d_Lw_law_765 (by decide) h (fun h => ?_) (fun h => ?_)
            · refine r_goto (tgt := 773) hK d_Lw_law_770 (by decide) ?_
              refine r_iinc (ls1 := [(4, g_i (x4 + 6)), (6, g_i i111), (5, g_i i107), (0, g_r 14 r0), (1, g_r 0 r1), (2, g_r 1 r2), (3, g_r 21 r3)]) hK d_Lw_law_773 6 rfl rfl (by rw [hN]; decide) rfl ?_
              refine r_goto (tgt := 23) hK d_Lw_law_776 (by decide) ?_
              exact r_sub [3, 4, 5, 6, 0] rfl (ih _ _ _ _ _ _ h)
            · refine r_iconst (v := 0) hK d_Lw_law_768 (by decide) ?_
              exact r_zreturn hK d_Lw_law_769 h
        · refine r_iconst (v := 0) hK d_Lw_law_751 (by decide) ?_
          exact r_zreturn hK d_Lw_law_752 h
      rw [if_neg q10] at h
      refine r_tswOut (tgt := 773) hK d_Lw_law_40 (by have z0 := lv_neT (a := 0) q0 (by decide); have z1 := lv_neT (a := 1) q1 (by decide); have z2 := lv_neT (a := 2) q2 (by decide); have z3 := lv_neT (a := 3) q3 (by decide); have z4 := lv_neT (a := 4) q4 (by decide); have z5 := lv_neT (a := 5) q5 (by decide); have z6 := lv_neT (a := 6) q6 (by decide); have z7 := lv_neT (a := 7) q7 (by decide); have z8 := lv_neT (a := 8) q8 (by decide); have z9 := lv_neT (a := 9) q9 (by decide); have z10 := lv_neT (a := 10) q10 (by decide); omega) (by decide) ?_
      refine r_iinc (ls1 := [(4, g_i (x4 + 6)), (0, g_r 14 r0), (1, g_r 0 r1), (2, g_r 1 r2), (3, g_r 21 r3)]) hK d_Lw_law_773 4 rfl rfl (by rw [hN]; decide) rfl ?_
      refine r_goto (tgt := 23) hK d_Lw_law_776 (by decide) ?_
      exact r_sub [1, 2, 3, 4, 0] rfl (ih _ _ _ _ _ _ h)
set_option maxHeartbeats 4000000 in
set_option maxRecDepth 100000 in
theorem t_Lw_law_0 {K : g_C} {o : (Int32 × g_St)} (hK : g_OK K b_Lw_law "FixpointEngineLaw" "law" (Option.some Jvm.ClassFile.FieldType.boolean)) (hN : g_nL K = 8) (hD : g_Kd K = 24) {sc : Nat × (Nat → Int32)} (hG : g_sx (g_KG K) = sc) : ∀ (r0 : Option Nat) (s0 : g_St), f_Lw_law sc r0 s0 = some o → g_W K s0 [(0, g_r 14 r0)] [] 0 (g_jI o) := by
  intro r0 s0 h
  unfold f_Lw_law at h
  refine r_new hK ob_E rfl rfl w1_39 w1_40 w1_1 d_Lw_law_0 h (fun p1 s2 h => ?_)
  refine r_dup hK d_Lw_law_3 rfl ?_
  refine r_Iv (avL := []) (st := [g_r 0 p1]) hK rfl w1_42 w1_41 w1_43 w1_1 (by decide) pl_E_init (by rw [hD]; decide) (Nat.le_of_ble_eq_true rfl) rfl d_Lw_law_4 (fun o9 h9 => c_E_init _ _ _ _ o9 h9) h (fun s4 h => ?_)
  refine r_astore_n (ls1 := [(1, g_r 0 p1), (0, g_r 14 r0)]) hK d_Lw_law_7 rfl (by rw [hN]; decide) rfl ?_
  refine r_new hK ob_M rfl rfl w7_17 w7_18 w1_6 d_Lw_law_8 h (fun p5 s6 h => ?_)
  refine r_dup hK d_Lw_law_11 rfl ?_
  refine r_Iv (avL := []) (st := [g_r 1 p5]) hK rfl w7_20 w7_19 w7_21 w1_6 (by decide) pl_M_init (by rw [hD]; decide) (Nat.le_of_ble_eq_true rfl) rfl d_Lw_law_12 (fun o9 h9 => c_M_init _ _ _ _ o9 h9) h (fun s8 h => ?_)
  refine r_astore_n (ls1 := [(2, g_r 1 p5), (1, g_r 0 p1), (0, g_r 14 r0)]) hK d_Lw_law_15 rfl (by rw [hN]; decide) rfl ?_
  refine r_iconst (v := 1) hK d_Lw_law_16 (by decide) ?_
  refine r_newarray (index := 0) hK (ty := .long) rfl rfl (by decide) w1_91 ar_21 d_Lw_law_17 h (fun p9 s10 h => ?_)
  refine r_astore_n (ls1 := [(3, g_r 21 p9), (2, g_r 1 p5), (1, g_r 0 p1), (0, g_r 14 r0)]) hK d_Lw_law_19 rfl (by rw [hN]; decide) rfl ?_
  refine r_iconst (v := 0) hK d_Lw_law_20 (by decide) ?_
  refine r_istore (ls1 := [(4, g_i 0), (3, g_r 21 p9), (2, g_r 1 p5), (1, g_r 0 p1), (0, g_r 14 r0)]) hK d_Lw_law_21 (by rw [hN]; decide) rfl ?_
  exact r_sub [4, 3, 2, 1, 0] rfl (t_Lw_law_23 hK hN hD hG _ _ _ _ _ _ _ h)
