def f_M_longer (y0 : Int64) (x2 : Int32) (s0 : g_St) : Option (Int64 × g_St) :=
  if x2 = 0 then
    some (y0, s0)
  else
    some (((27 * y0) + x2.toInt64) - 64, s0)
set_option maxHeartbeats 4000000 in
set_option maxRecDepth 100000 in
theorem t_M_longer_0 {K : g_C} {o : (Int64 × g_St)} (hK : g_OK K b_M_longer "FixpointEngineModel" "longer" (Option.some Jvm.ClassFile.FieldType.long)) (hN : g_nL K = 3) (hD : g_Kd K = 1) : ∀ (y0 : Int64) (x2 : Int32) (s0 : g_St), f_M_longer y0 x2 s0 = some o → g_W K s0 [(0, g_l y0), (2, g_i x2)] [] 0 (g_jL o) := by
  intro y0 x2 s0 h
  unfold f_M_longer at h
  refine r_iload_n hK d_M_longer_0 rfl 1 rfl ?_
  refine r_ifne (tgt := 8) hK d_M_longer_1 (by decide) h (fun h => ?_) (fun h => ?_)
  · refine r_ldc2 hK w7_30 d_M_longer_8 ?_
    refine r_lload_n hK d_M_longer_11 rfl 0 rfl ?_
    refine r_lmul hK d_M_longer_12 ?_
    refine r_iload_n hK d_M_longer_13 rfl 1 rfl ?_
    refine r_i2l hK d_M_longer_14 ?_
    refine r_ladd hK d_M_longer_15 ?_
    refine r_ldc2 hK w7_31 d_M_longer_16 ?_
    refine r_lsub hK d_M_longer_19 ?_
    exact r_lreturn hK d_M_longer_20 h
  · refine r_lload_n hK d_M_longer_4 rfl 0 rfl ?_
    refine r_goto (tgt := 20) hK d_M_longer_5 (by decide) ?_
    exact r_lreturn hK d_M_longer_20 h
theorem c_M_longer (l : Launch) (G : g_G) (y0 : Int64) (x2 : Int32) (u : g_St) (o : (Int64 × g_St)) (h : f_M_longer y0 x2 u = some o) : g_Con l G y_M_longer b_M_longer 3 (Option.some Jvm.ClassFile.FieldType.long) 1 [g_l y0, g_i x2] u (g_jL o) :=
  g_Con.of rfl rfl (by decide +kernel) (Nat.le_of_ble_eq_true rfl) (fun K hK hN hD hX => t_M_longer_0 hK hN hD _ _ _ h)
def f_M_word (r0 : Option Nat) (x1 : Int32) (x2 : Int32) (x3 : Int32) (x4 : Int32) (x5 : Int32) (x6 : Int32) (x7 : Int32) (x8 : Int32) (x9 : Int32) (x10 : Int32) (s0 : g_St) : Option (Unit × g_St) :=
  g_c (f_M_longer 0 x2 s0) fun j1 s2 =>
  g_c (f_M_longer j1 x3 s2) fun j3 s4 =>
  g_c (f_M_longer j3 x4 s4) fun j5 s6 =>
  g_c (f_M_longer j5 x5 s6) fun j7 s8 =>
  g_c (f_M_longer j7 x6 s8) fun j9 s10 =>
  g_c (f_M_longer j9 x7 s10) fun j11 s12 =>
  g_gR s12 449 r0 fun p13 =>
  g_c (f_M_longer j11 x8 s12) fun j14 s15 =>
  g_c (f_M_longer j14 x9 s15) fun j16 s17 =>
  g_c (f_M_longer j16 x10 s17) fun j18 s19 =>
  g_sL s19 p13 x1 j18 fun s20 =>
  some ((), s20)
set_option maxHeartbeats 4000000 in
set_option maxRecDepth 100000 in
theorem t_M_word_0 {K : g_C} {o : (Unit × g_St)} (hK : g_OK K b_M_word "FixpointEngineModel" "word" (Option.none : Option Jvm.ClassFile.FieldType)) (hN : g_nL K = 13) (hD : g_Kd K = 2) : ∀ (r0 : Option Nat) (x1 : Int32) (x2 : Int32) (x3 : Int32) (x4 : Int32) (x5 : Int32) (x6 : Int32) (x7 : Int32) (x8 : Int32) (x9 : Int32) (x10 : Int32) (s0 : g_St), f_M_word r0 x1 x2 x3 x4 x5 x6 x7 x8 x9 x10 s0 = some o → g_W K s0 [(0, g_r 1 r0), (1, g_i x1), (2, g_i x2), (3, g_i x3), (4, g_i x4), (5, g_i x5), (6, g_i x6), (7, g_i x7), (8, g_i x8), (9, g_i x9), (10, g_i x10)] [] 0 (g_jV o) := by
  intro r0 x1 x2 x3 x4 x5 x6 x7 x8 x9 x10 s0 h
  unfold f_M_word at h
  refine r_lconst (v := 0) hK d_M_word_0 (by decide) ?_
  refine r_lstore (ls1 := [(11, g_l 0), (0, g_r 1 r0), (1, g_i x1), (2, g_i x2), (3, g_i x3), (4, g_i x4), (5, g_i x5), (6, g_i x6), (7, g_i x7), (8, g_i x8), (9, g_i x9), (10, g_i x10)]) hK d_M_word_1 (by rw [hN]; decide) rfl ?_
  refine r_lload hK d_M_word_3 0 rfl ?_
  refine r_iload_n hK d_M_word_5 rfl 3 rfl ?_
  refine r_Sl (avL := [g_l 0, g_i x2]) (st := []) hK w7_28 w7_27 w7_29 w1_6 (by decide) pl_M_longer (by rw [hD]; decide) (Nat.le_of_ble_eq_true rfl) rfl d_M_word_6 (fun o9 h9 => c_M_longer _ _ _ _ _ o9 h9) h (fun j1 s2 h => ?_)
  refine r_iload_n hK d_M_word_9 rfl 4 rfl ?_
  refine r_Sl (avL := [g_l j1, g_i x3]) (st := []) hK w7_28 w7_27 w7_29 w1_6 (by decide) pl_M_longer (by rw [hD]; decide) (Nat.le_of_ble_eq_true rfl) rfl d_M_word_10 (fun o9 h9 => c_M_longer _ _ _ _ _ o9 h9) h (fun j3 s4 h => ?_)
  refine r_iload hK d_M_word_13 5 rfl ?_
  refine r_Sl (avL := [g_l j3, g_i x4]) (st := []) hK w7_28 w7_27 w7_29 w1_6 (by decide) pl_M_longer (by rw [hD]; decide) (Nat.le_of_ble_eq_true rfl) rfl d_M_word_15 (fun o9 h9 => c_M_longer _ _ _ _ _ o9 h9) h (fun j5 s6 h => ?_)
  refine r_lstore (ls1 := [(11, g_l j5), (0, g_r 1 r0), (1, g_i x1), (2, g_i x2), (3, g_i x3), (4, g_i x4), (5, g_i x5), (6, g_i x6), (7, g_i x7), (8, g_i x8), (9, g_i x9), (10, g_i x10)]) hK d_M_word_18 (by rw [hN]; decide) rfl ?_
  refine r_lload hK d_M_word_20 0 rfl ?_
  refine r_iload hK d_M_word_22 6 rfl ?_
  refine r_Sl (avL := [g_l j5, g_i x5]) (st := []) hK w7_28 w7_27 w7_29 w1_6 (by decide) pl_M_longer (by rw [hD]; decide) (Nat.le_of_ble_eq_true rfl) rfl d_M_word_24 (fun o9 h9 => c_M_longer _ _ _ _ _ o9 h9) h (fun j7 s8 h => ?_)
  refine r_iload hK d_M_word_27 7 rfl ?_
  refine r_Sl (avL := [g_l j7, g_i x6]) (st := []) hK w7_28 w7_27 w7_29 w1_6 (by decide) pl_M_longer (by rw [hD]; decide) (Nat.le_of_ble_eq_true rfl) rfl d_M_word_29 (fun o9 h9 => c_M_longer _ _ _ _ _ o9 h9) h (fun j9 s10 h => ?_)
  refine r_iload hK d_M_word_32 8 rfl ?_
  refine r_Sl (avL := [g_l j9, g_i x7]) (st := []) hK w7_28 w7_27 w7_29 w1_6 (by decide) pl_M_longer (by rw [hD]; decide) (Nat.le_of_ble_eq_true rfl) rfl d_M_word_34 (fun o9 h9 => c_M_longer _ _ _ _ _ o9 h9) h (fun j11 s12 h => ?_)
  refine r_lstore (ls1 := [(11, g_l j11), (0, g_r 1 r0), (1, g_i x1), (2, g_i x2), (3, g_i x3), (4, g_i x4), (5, g_i x5), (6, g_i x6), (7, g_i x7), (8, g_i x8), (9, g_i x9), (10, g_i x10)]) hK d_M_word_37 (by rw [hN]; decide) rfl ?_
  refine r_aload_n hK d_M_word_39 rfl 1 rfl ?_
  refine r_gR hK fd_M_7 w7_39 d_M_word_40 h (fun p13 h => ?_)
  refine r_iload_n hK d_M_word_43 rfl 2 rfl ?_
  refine r_lload hK d_M_word_44 0 rfl ?_
  refine r_iload hK d_M_word_46 9 rfl ?_
  refine r_Sl (avL := [g_l j11, g_i x8]) (st := [g_i x1, g_r 21 p13]) hK w7_28 w7_27 w7_29 w1_6 (by decide) pl_M_longer (by rw [hD]; decide) (Nat.le_of_ble_eq_true rfl) rfl d_M_word_48 (fun o9 h9 => c_M_longer _ _ _ _ _ o9 h9) h (fun j14 s15 h => ?_)
  refine r_iload hK d_M_word_51 10 rfl ?_
  refine r_Sl (avL := [g_l j14, g_i x9]) (st := [g_i x1, g_r 21 p13]) hK w7_28 w7_27 w7_29 w1_6 (by decide) pl_M_longer (by rw [hD]; decide) (Nat.le_of_ble_eq_true rfl) rfl d_M_word_53 (fun o9 h9 => c_M_longer _ _ _ _ _ o9 h9) h (fun j16 s17 h => ?_)
  refine r_iload hK d_M_word_56 11 rfl ?_
  refine r_Sl (avL := [g_l j16, g_i x10]) (st := [g_i x1, g_r 21 p13]) hK w7_28 w7_27 w7_29 w1_6 (by decide) pl_M_longer (by rw [hD]; decide) (Nat.le_of_ble_eq_true rfl) rfl d_M_word_58 (fun o9 h9 => c_M_longer _ _ _ _ _ o9 h9) h (fun j18 s19 h => ?_)
  refine r_lastore hK ar_21 rfl d_M_word_61 h (fun s20 h => ?_)
  exact r_return hK d_M_word_62 h
theorem c_M_word (l : Launch) (G : g_G) (r0 : Option Nat) (x1 : Int32) (x2 : Int32) (x3 : Int32) (x4 : Int32) (x5 : Int32) (x6 : Int32) (x7 : Int32) (x8 : Int32) (x9 : Int32) (x10 : Int32) (u : g_St) (o : (Unit × g_St)) (h : f_M_word r0 x1 x2 x3 x4 x5 x6 x7 x8 x9 x10 u = some o) : g_Con l G y_M_word b_M_word 13 (Option.none : Option Jvm.ClassFile.FieldType) 2 [g_r 1 r0, g_i x1, g_i x2, g_i x3, g_i x4, g_i x5, g_i x6, g_i x7, g_i x8, g_i x9, g_i x10] u (g_jV o) :=
  g_Con.of rfl rfl (by decide +kernel) (Nat.le_of_ble_eq_true rfl) (fun K hK hN hD hX => t_M_word_0 hK hN hD _ _ _ _ _ _ _ _ _ _ _ _ h)
def f_M_init (r0 : Option Nat) (s0 : g_St) : Option (Unit × g_St) :=
  g_nn r0 (
  g_newA s0 20 5 fun p1 s2 =>
  g_pR s2 129 r0 p1 fun s3 =>
  g_newA s3 20 5 fun p4 s5 =>
  g_pR s5 193 r0 p4 fun s6 =>
  g_newA s6 21 240 fun p7 s8 =>
  g_pR s8 257 r0 p7 fun s9 =>
  g_newA s9 20 400 fun p10 s11 =>
  g_pR s11 385 r0 p10 fun s12 =>
  g_newA s12 21 26 fun p13 s14 =>
  g_pR s14 449 r0 p13 fun s15 =>
  g_newA s15 20 402 fun p16 s17 =>
  g_pR s17 641 r0 p16 fun s18 =>
  g_newA s18 20 402 fun p19 s20 =>
  g_pR s20 705 r0 p19 fun s21 =>
  g_newA s21 21 402 fun p22 s23 =>
  g_pR s23 769 r0 p22 fun s24 =>
  g_newA s24 20 4 fun p25 s26 =>
  g_pR s26 1217 r0 p25 fun s27 =>
  g_newA s27 20 4 fun p28 s29 =>
  g_pR s29 1281 r0 p28 fun s30 =>
  g_newA s30 20 12 fun p31 s32 =>
  g_pR s32 1345 r0 p31 fun s33 =>
  g_newA s33 20 4 fun p34 s35 =>
  g_pR s35 1409 r0 p34 fun s36 =>
  g_newA s36 20 4 fun p37 s38 =>
  g_pR s38 1473 r0 p37 fun s39 =>
  g_newA s39 20 4 fun p40 s41 =>
  g_pR s41 1537 r0 p40 fun s42 =>
  g_newA s42 20 4 fun p43 s44 =>
  g_pR s44 1601 r0 p43 fun s45 =>
  g_newA s45 20 4 fun p46 s47 =>
  g_pR s47 1665 r0 p46 fun s48 =>
  g_newA s48 20 4 fun p49 s50 =>
  g_pR s50 1729 r0 p49 fun s51 =>
  g_newA s51 20 4 fun p52 s53 =>
  g_pR s53 1793 r0 p52 fun s54 =>
  g_newA s54 31 4 fun p55 s56 =>
  g_pR s56 1857 r0 p55 fun s57 =>
  g_newA s57 31 4 fun p58 s59 =>
  g_pR s59 1921 r0 p58 fun s60 =>
  g_newA s60 20 5 fun p61 s62 =>
  g_pR s62 1985 r0 p61 fun s63 =>
  g_newA s63 20 4 fun p64 s65 =>
  g_pR s65 2049 r0 p64 fun s66 =>
  g_newA s66 20 17 fun p67 s68 =>
  g_pR s68 2241 r0 p67 fun s69 =>
  g_newA s69 20 17 fun p70 s71 =>
  g_pR s71 2305 r0 p70 fun s72 =>
  g_newA s72 20 17 fun p73 s74 =>
  g_pR s74 2369 r0 p73 fun s75 =>
  g_newA s75 20 17 fun p76 s77 =>
  g_pR s77 2433 r0 p76 fun s78 =>
  g_newA s78 20 17 fun p79 s80 =>
  g_pR s80 2497 r0 p79 fun s81 =>
  g_newA s81 20 17 fun p82 s83 =>
  g_pR s83 2561 r0 p82 fun s84 =>
  g_newA s84 20 17 fun p85 s86 =>
  g_pR s86 2625 r0 p85 fun s87 =>
  g_newA s87 20 102 fun p88 s89 =>
  g_pR s89 2689 r0 p88 fun s90 =>
  g_newA s90 31 17 fun p91 s92 =>
  g_pR s92 2753 r0 p91 fun s93 =>
  g_newA s93 20 68 fun p94 s95 =>
  g_pR s95 2881 r0 p94 fun s96 =>
  g_newA s96 20 68 fun p97 s98 =>
  g_pR s98 2945 r0 p97 fun s99 =>
  g_newA s99 20 210 fun p100 s101 =>
  g_pR s101 3137 r0 p100 fun s102 =>
  g_newA s102 20 210 fun p103 s104 =>
  g_pR s104 3201 r0 p103 fun s105 =>
  g_newA s105 20 210 fun p106 s107 =>
  g_pR s107 3265 r0 p106 fun s108 =>
  g_newA s108 20 210 fun p109 s110 =>
  g_pR s110 3329 r0 p109 fun s111 =>
  g_newA s111 20 210 fun p112 s113 =>
  g_pR s113 3393 r0 p112 fun s114 =>
  g_newA s114 20 210 fun p115 s116 =>
  g_pR s116 3457 r0 p115 fun s117 =>
  g_newA s117 20 210 fun p118 s119 =>
  g_pR s119 3521 r0 p118 fun s120 =>
  g_newA s120 20 100 fun p121 s122 =>
  g_pR s122 3649 r0 p121 fun s123 =>
  g_newA s123 20 100 fun p124 s125 =>
  g_pR s125 3713 r0 p124 fun s126 =>
  g_newA s126 20 100 fun p127 s128 =>
  g_pR s128 3777 r0 p127 fun s129 =>
  g_newA s129 20 120 fun p130 s131 =>
  g_pR s131 3905 r0 p130 fun s132 =>
  g_newA s132 20 120 fun p133 s134 =>
  g_pR s134 3969 r0 p133 fun s135 =>
  g_newA s135 20 120 fun p136 s137 =>
  g_pR s137 4033 r0 p136 fun s138 =>
  g_newA s138 20 120 fun p139 s140 =>
  g_pR s140 4097 r0 p139 fun s141 =>
  g_newA s141 20 120 fun p142 s143 =>
  g_pR s143 4161 r0 p142 fun s144 =>
  g_newA s144 20 120 fun p145 s146 =>
  g_pR s146 4225 r0 p145 fun s147 =>
  g_newA s147 20 360 fun p148 s149 =>
  g_pR s149 4289 r0 p148 fun s150 =>
  g_newA s150 20 2 fun p151 s152 =>
  g_pR s152 4481 r0 p151 fun s153 =>
  g_newA s153 20 2 fun p154 s155 =>
  g_pR s155 4545 r0 p154 fun s156 =>
  g_newA s156 20 2 fun p157 s158 =>
  g_pR s158 4609 r0 p157 fun s159 =>
  g_newA s159 20 4 fun p160 s161 =>
  g_pR s161 4673 r0 p160 fun s162 =>
  g_newA s162 20 4 fun p163 s164 =>
  g_pR s164 4737 r0 p163 fun s165 =>
  g_newA s165 20 4 fun p166 s167 =>
  g_pR s167 4801 r0 p166 fun s168 =>
  g_newA s168 20 50 fun p169 s170 =>
  g_pR s170 4993 r0 p169 fun s171 =>
  g_newA s171 21 200 fun p172 s173 =>
  g_pR s173 5057 r0 p172 fun s174 =>
  g_newA s174 20 50 fun p175 s176 =>
  g_pR s176 5121 r0 p175 fun s177 =>
  g_newA s177 21 1600 fun p178 s179 =>
  g_pR s179 5185 r0 p178 fun s180 =>
  g_newA s180 20 50 fun p181 s182 =>
  g_pR s182 5249 r0 p181 fun s183 =>
  g_newA s183 21 1600 fun p184 s185 =>
  g_pR s185 5313 r0 p184 fun s186 =>
  g_newA s186 21 200 fun p187 s188 =>
  g_pR s188 5505 r0 p187 fun s189 =>
  g_newA s189 21 100 fun p190 s191 =>
  g_pR s191 5569 r0 p190 fun s192 =>
  g_newA s192 20 50 fun p193 s194 =>
  g_pR s194 5697 r0 p193 fun s195 =>
  g_newA s195 20 4 fun p196 s197 =>
  g_pR s197 5761 r0 p196 fun s198 =>
  g_newA s198 20 128 fun p199 s200 =>
  g_pR s200 5825 r0 p199 fun s201 =>
  g_newA s201 20 4 fun p202 s203 =>
  g_pR s203 5953 r0 p202 fun s204 =>
  g_newA s204 20 192 fun p205 s206 =>
  g_pR s206 6081 r0 p205 fun s207 =>
  g_newA s207 20 3 fun p208 s209 =>
  g_pR s209 6145 r0 p208 fun s210 =>
  g_newA s210 20 3 fun p211 s212 =>
  g_pR s212 6209 r0 p211 fun s213 =>
  g_newA s213 20 4 fun p214 s215 =>
  g_pR s215 6273 r0 p214 fun s216 =>
  g_newA s216 21 200 fun p217 s218 =>
  g_pR s218 6401 r0 p217 fun s219 =>
  g_newA s219 21 200 fun p220 s221 =>
  g_pR s221 6465 r0 p220 fun s222 =>
  g_c (g_nn r0 (f_M_word r0 1 87 73 84 72 0 0 0 0 0 s222)) fun _ s224 =>
  g_c (g_nn r0 (f_M_word r0 2 82 69 67 85 82 83 73 86 69 s224)) fun _ s226 =>
  g_c (g_nn r0 (f_M_word r0 3 65 83 0 0 0 0 0 0 0 s226)) fun _ s228 =>
  g_c (g_nn r0 (f_M_word r0 4 83 69 76 69 67 84 0 0 0 s228)) fun _ s230 =>
  g_c (g_nn r0 (f_M_word r0 5 70 82 79 77 0 0 0 0 0 s230)) fun _ s232 =>
  g_c (g_nn r0 (f_M_word r0 6 87 72 69 82 69 0 0 0 0 s232)) fun _ s234 =>
  g_c (g_nn r0 (f_M_word r0 7 65 78 68 0 0 0 0 0 0 s234)) fun _ s236 =>
  g_c (g_nn r0 (f_M_word r0 8 78 79 84 0 0 0 0 0 0 s236)) fun _ s238 =>
  g_c (g_nn r0 (f_M_word r0 9 69 88 73 83 84 83 0 0 0 s238)) fun _ s240 =>
  g_c (g_nn r0 (f_M_word r0 10 73 83 0 0 0 0 0 0 0 s240)) fun _ s242 =>
  g_c (g_nn r0 (f_M_word r0 11 78 85 76 76 0 0 0 0 0 s242)) fun _ s244 =>
  g_c (g_nn r0 (f_M_word r0 12 85 78 73 79 78 0 0 0 0 s244)) fun _ s246 =>
  g_c (g_nn r0 (f_M_word r0 13 65 76 76 0 0 0 0 0 0 s246)) fun _ s248 =>
  g_c (g_nn r0 (f_M_word r0 14 83 69 65 82 67 72 0 0 0 s248)) fun _ s250 =>
  g_c (g_nn r0 (f_M_word r0 15 68 69 80 84 72 0 0 0 0 s250)) fun _ s252 =>
  g_c (g_nn r0 (f_M_word r0 16 66 82 69 65 68 84 72 0 0 s252)) fun _ s254 =>
  g_c (g_nn r0 (f_M_word r0 17 70 73 82 83 84 0 0 0 0 s254)) fun _ s256 =>
  g_c (g_nn r0 (f_M_word r0 18 66 89 0 0 0 0 0 0 0 s256)) fun _ s258 =>
  g_c (g_nn r0 (f_M_word r0 19 83 69 84 0 0 0 0 0 0 s258)) fun _ s260 =>
  g_c (g_nn r0 (f_M_word r0 20 67 89 67 76 69 0 0 0 0 s260)) fun _ s262 =>
  g_c (g_nn r0 (f_M_word r0 21 67 79 85 78 84 0 0 0 0 s262)) fun _ s264 =>
  g_c (g_nn r0 (f_M_word r0 22 83 85 77 0 0 0 0 0 0 s264)) fun _ s266 =>
  g_c (g_nn r0 (f_M_word r0 23 77 73 78 0 0 0 0 0 0 s266)) fun _ s268 =>
  g_c (g_nn r0 (f_M_word r0 24 77 65 88 0 0 0 0 0 0 s268)) fun _ s270 =>
  g_c (g_nn r0 (f_M_word r0 25 79 82 68 69 82 0 0 0 0 s270)) fun _ s272 =>
  some ((), s272))
set_option maxHeartbeats 4000000 in
set_option maxRecDepth 100000 in
theorem t_M_init_0 {K : g_C} {o : (Unit × g_St)} (hK : g_OK K b_M_init "FixpointEngineModel" "<init>" (Option.none : Option Jvm.ClassFile.FieldType)) (hN : g_nL K = 1) (hD : g_Kd K = 3) : ∀ (r0 : Option Nat) (s0 : g_St), f_M_init r0 s0 = some o → g_W K s0 [(0, g_r 1 r0)] [] 0 (g_jV o) := by
  intro r0 s0 h
  unfold f_M_init at h
  refine r_aload_n hK d_M_init_0 rfl 0 rfl ?_
  refine r_objinit hK w7_22 (by rw [hD]; decide) (Nat.le_of_ble_eq_true rfl) d_M_init_1 h (fun h => ?_)
  refine r_aload_n hK d_M_init_4 rfl 0 rfl ?_
  refine r_iconst (v := 5) hK d_M_init_5 (by decide) ?_
  refine r_newarray (index := 0) hK (ty := .int) rfl rfl (by decide) w1_90 ar_20 d_M_init_6 h (fun p1 s2 h => ?_)
  refine r_pRF hK pd_20 rfl (Or.inr rfl) fd_M_2 rfl w7_34 d_M_init_8 h (fun s3 h => ?_)
  refine r_aload_n hK d_M_init_11 rfl 0 rfl ?_
  refine r_iconst (v := 5) hK d_M_init_12 (by decide) ?_
  refine r_newarray (index := 0) hK (ty := .int) rfl rfl (by decide) w1_90 ar_20 d_M_init_13 h (fun p4 s5 h => ?_)
  refine r_pRF hK pd_20 rfl (Or.inr rfl) fd_M_3 rfl w7_35 d_M_init_15 h (fun s6 h => ?_)
  refine r_aload_n hK d_M_init_18 rfl 0 rfl ?_
  refine r_sipush (v := 240) hK d_M_init_19 (by decide) ?_
  refine r_newarray (index := 0) hK (ty := .long) rfl rfl (by decide) w1_91 ar_21 d_M_init_22 h (fun p7 s8 h => ?_)
  refine r_pRF hK pd_21 rfl (Or.inr rfl) fd_M_4 rfl w7_36 d_M_init_24 h (fun s9 h => ?_)
  refine r_aload_n hK d_M_init_27 rfl 0 rfl ?_
  refine r_sipush (v := 400) hK d_M_init_28 (by decide) ?_
  refine r_newarray (index := 0) hK (ty := .int) rfl rfl (by decide) w1_90 ar_20 d_M_init_31 h (fun p10 s11 h => ?_)
  refine r_pRF hK pd_20 rfl (Or.inr rfl) fd_M_6 rfl w7_38 d_M_init_33 h (fun s12 h => ?_)
  refine r_aload_n hK d_M_init_36 rfl 0 rfl ?_
  refine r_bipush (v := 26) hK d_M_init_37 (by decide) ?_
  refine r_newarray (index := 0) hK (ty := .long) rfl rfl (by decide) w1_91 ar_21 d_M_init_39 h (fun p13 s14 h => ?_)
  refine r_pRF hK pd_21 rfl (Or.inr rfl) fd_M_7 rfl w7_39 d_M_init_41 h (fun s15 h => ?_)
  refine r_aload_n hK d_M_init_44 rfl 0 rfl ?_
  refine r_sipush (v := 402) hK d_M_init_45 (by decide) ?_
  refine r_newarray (index := 0) hK (ty := .int) rfl rfl (by decide) w1_90 ar_20 d_M_init_48 h (fun p16 s17 h => ?_)
  refine r_pRF hK pd_20 rfl (Or.inr rfl) fd_M_10 rfl w7_42 d_M_init_50 h (fun s18 h => ?_)
  refine r_aload_n hK d_M_init_53 rfl 0 rfl ?_
  refine r_sipush (v := 402) hK d_M_init_54 (by decide) ?_
  refine r_newarray (index := 0) hK (ty := .int) rfl rfl (by decide) w1_90 ar_20 d_M_init_57 h (fun p19 s20 h => ?_)
  refine r_pRF hK pd_20 rfl (Or.inr rfl) fd_M_11 rfl w7_43 d_M_init_59 h (fun s21 h => ?_)
  refine r_aload_n hK d_M_init_62 rfl 0 rfl ?_
  refine r_sipush (v := 402) hK d_M_init_63 (by decide) ?_
  refine r_newarray (index := 0) hK (ty := .long) rfl rfl (by decide) w1_91 ar_21 d_M_init_66 h (fun p22 s23 h => ?_)
  refine r_pRF hK pd_21 rfl (Or.inr rfl) fd_M_12 rfl w7_44 d_M_init_68 h (fun s24 h => ?_)
  refine r_aload_n hK d_M_init_71 rfl 0 rfl ?_
  refine r_iconst (v := 4) hK d_M_init_72 (by decide) ?_
  refine r_newarray (index := 0) hK (ty := .int) rfl rfl (by decide) w1_90 ar_20 d_M_init_73 h (fun p25 s26 h => ?_)
  refine r_pRF hK pd_20 rfl (Or.inr rfl) fd_M_19 rfl w7_51 d_M_init_75 h (fun s27 h => ?_)
  refine r_aload_n hK d_M_init_78 rfl 0 rfl ?_
  refine r_iconst (v := 4) hK d_M_init_79 (by decide) ?_
  refine r_newarray (index := 0) hK (ty := .int) rfl rfl (by decide) w1_90 ar_20 d_M_init_80 h (fun p28 s29 h => ?_)
  refine r_pRF hK pd_20 rfl (Or.inr rfl) fd_M_20 rfl w7_52 d_M_init_82 h (fun s30 h => ?_)
  refine r_aload_n hK d_M_init_85 rfl 0 rfl ?_
  refine r_bipush (v := 12) hK d_M_init_86 (by decide) ?_
  refine r_newarray (index := 0) hK (ty := .int) rfl rfl (by decide) w1_90 ar_20 d_M_init_88 h (fun p31 s32 h => ?_)
  refine r_pRF hK pd_20 rfl (Or.inr rfl) fd_M_21 rfl w7_53 d_M_init_90 h (fun s33 h => ?_)
  refine r_aload_n hK d_M_init_93 rfl 0 rfl ?_
  refine r_iconst (v := 4) hK d_M_init_94 (by decide) ?_
  refine r_newarray (index := 0) hK (ty := .int) rfl rfl (by decide) w1_90 ar_20 d_M_init_95 h (fun p34 s35 h => ?_)
  refine r_pRF hK pd_20 rfl (Or.inr rfl) fd_M_22 rfl w7_54 d_M_init_97 h (fun s36 h => ?_)
  refine r_aload_n hK d_M_init_100 rfl 0 rfl ?_
  refine r_iconst (v := 4) hK d_M_init_101 (by decide) ?_
  refine r_newarray (index := 0) hK (ty := .int) rfl rfl (by decide) w1_90 ar_20 d_M_init_102 h (fun p37 s38 h => ?_)
  refine r_pRF hK pd_20 rfl (Or.inr rfl) fd_M_23 rfl w7_55 d_M_init_104 h (fun s39 h => ?_)
  refine r_aload_n hK d_M_init_107 rfl 0 rfl ?_
  refine r_iconst (v := 4) hK d_M_init_108 (by decide) ?_
  refine r_newarray (index := 0) hK (ty := .int) rfl rfl (by decide) w1_90 ar_20 d_M_init_109 h (fun p40 s41 h => ?_)
  refine r_pRF hK pd_20 rfl (Or.inr rfl) fd_M_24 rfl w7_56 d_M_init_111 h (fun s42 h => ?_)
  refine r_aload_n hK d_M_init_114 rfl 0 rfl ?_
  refine r_iconst (v := 4) hK d_M_init_115 (by decide) ?_
  refine r_newarray (index := 0) hK (ty := .int) rfl rfl (by decide) w1_90 ar_20 d_M_init_116 h (fun p43 s44 h => ?_)
  refine r_pRF hK pd_20 rfl (Or.inr rfl) fd_M_25 rfl w7_57 d_M_init_118 h (fun s45 h => ?_)
  refine r_aload_n hK d_M_init_121 rfl 0 rfl ?_
  refine r_iconst (v := 4) hK d_M_init_122 (by decide) ?_
  refine r_newarray (index := 0) hK (ty := .int) rfl rfl (by decide) w1_90 ar_20 d_M_init_123 h (fun p46 s47 h => ?_)
  refine r_pRF hK pd_20 rfl (Or.inr rfl) fd_M_26 rfl w7_58 d_M_init_125 h (fun s48 h => ?_)
  refine r_aload_n hK d_M_init_128 rfl 0 rfl ?_
  refine r_iconst (v := 4) hK d_M_init_129 (by decide) ?_
  refine r_newarray (index := 0) hK (ty := .int) rfl rfl (by decide) w1_90 ar_20 d_M_init_130 h (fun p49 s50 h => ?_)
  refine r_pRF hK pd_20 rfl (Or.inr rfl) fd_M_27 rfl w7_59 d_M_init_132 h (fun s51 h => ?_)
  refine r_aload_n hK d_M_init_135 rfl 0 rfl ?_
  refine r_iconst (v := 4) hK d_M_init_136 (by decide) ?_
  refine r_newarray (index := 0) hK (ty := .int) rfl rfl (by decide) w1_90 ar_20 d_M_init_137 h (fun p52 s53 h => ?_)
  refine r_pRF hK pd_20 rfl (Or.inr rfl) fd_M_28 rfl w7_60 d_M_init_139 h (fun s54 h => ?_)
  refine r_aload_n hK d_M_init_142 rfl 0 rfl ?_
  refine r_iconst (v := 4) hK d_M_init_143 (by decide) ?_
  refine r_newarray (index := 0) hK (ty := .boolean) rfl rfl (by decide) w8_99 ar_31 d_M_init_144 h (fun p55 s56 h => ?_)
  refine r_pRF hK pd_31 rfl (Or.inr rfl) fd_M_29 rfl w7_61 d_M_init_146 h (fun s57 h => ?_)
  refine r_aload_n hK d_M_init_149 rfl 0 rfl ?_
  refine r_iconst (v := 4) hK d_M_init_150 (by decide) ?_
  refine r_newarray (index := 0) hK (ty := .boolean) rfl rfl (by decide) w8_99 ar_31 d_M_init_151 h (fun p58 s59 h => ?_)
  refine r_pRF hK pd_31 rfl (Or.inr rfl) fd_M_30 rfl w7_62 d_M_init_153 h (fun s60 h => ?_)
  refine r_aload_n hK d_M_init_156 rfl 0 rfl ?_
  refine r_iconst (v := 5) hK d_M_init_157 (by decide) ?_
  refine r_newarray (index := 0) hK (ty := .int) rfl rfl (by decide) w1_90 ar_20 d_M_init_158 h (fun p61 s62 h => ?_)
  refine r_pRF hK pd_20 rfl (Or.inr rfl) fd_M_31 rfl w7_63 d_M_init_160 h (fun s63 h => ?_)
  refine r_aload_n hK d_M_init_163 rfl 0 rfl ?_
  refine r_iconst (v := 4) hK d_M_init_164 (by decide) ?_
  refine r_newarray (index := 0) hK (ty := .int) rfl rfl (by decide) w1_90 ar_20 d_M_init_165 h (fun p64 s65 h => ?_)
  refine r_pRF hK pd_20 rfl (Or.inr rfl) fd_M_32 rfl w7_64 d_M_init_167 h (fun s66 h => ?_)
  refine r_aload_n hK d_M_init_170 rfl 0 rfl ?_
  refine r_bipush (v := 17) hK d_M_init_171 (by decide) ?_
  refine r_newarray (index := 0) hK (ty := .int) rfl rfl (by decide) w1_90 ar_20 d_M_init_173 h (fun p67 s68 h => ?_)
  refine r_pRF hK pd_20 rfl (Or.inr rfl) fd_M_35 rfl w7_67 d_M_init_175 h (fun s69 h => ?_)
  refine r_aload_n hK d_M_init_178 rfl 0 rfl ?_
  refine r_bipush (v := 17) hK d_M_init_179 (by decide) ?_
  refine r_newarray (index := 0) hK (ty := .int) rfl rfl (by decide) w1_90 ar_20 d_M_init_181 h (fun p70 s71 h => ?_)
  refine r_pRF hK pd_20 rfl (Or.inr rfl) fd_M_36 rfl w7_68 d_M_init_183 h (fun s72 h => ?_)
  refine r_aload_n hK d_M_init_186 rfl 0 rfl ?_
  refine r_bipush (v := 17) hK d_M_init_187 (by decide) ?_
  refine r_newarray (index := 0) hK (ty := .int) rfl rfl (by decide) w1_90 ar_20 d_M_init_189 h (fun p73 s74 h => ?_)
  refine r_pRF hK pd_20 rfl (Or.inr rfl) fd_M_37 rfl w7_69 d_M_init_191 h (fun s75 h => ?_)
  refine r_aload_n hK d_M_init_194 rfl 0 rfl ?_
  refine r_bipush (v := 17) hK d_M_init_195 (by decide) ?_
  refine r_newarray (index := 0) hK (ty := .int) rfl rfl (by decide) w1_90 ar_20 d_M_init_197 h (fun p76 s77 h => ?_)
  refine r_pRF hK pd_20 rfl (Or.inr rfl) fd_M_38 rfl w7_70 d_M_init_199 h (fun s78 h => ?_)
  refine r_aload_n hK d_M_init_202 rfl 0 rfl ?_
  refine r_bipush (v := 17) hK d_M_init_203 (by decide) ?_
  refine r_newarray (index := 0) hK (ty := .int) rfl rfl (by decide) w1_90 ar_20 d_M_init_205 h (fun p79 s80 h => ?_)
  refine r_pRF hK pd_20 rfl (Or.inr rfl) fd_M_39 rfl w7_71 d_M_init_207 h (fun s81 h => ?_)
  refine r_aload_n hK d_M_init_210 rfl 0 rfl ?_
  refine r_bipush (v := 17) hK d_M_init_211 (by decide) ?_
  refine r_newarray (index := 0) hK (ty := .int) rfl rfl (by decide) w1_90 ar_20 d_M_init_213 h (fun p82 s83 h => ?_)
  refine r_pRF hK pd_20 rfl (Or.inr rfl) fd_M_40 rfl w7_72 d_M_init_215 h (fun s84 h => ?_)
  refine r_aload_n hK d_M_init_218 rfl 0 rfl ?_
  refine r_bipush (v := 17) hK d_M_init_219 (by decide) ?_
  refine r_newarray (index := 0) hK (ty := .int) rfl rfl (by decide) w1_90 ar_20 d_M_init_221 h (fun p85 s86 h => ?_)
  refine r_pRF hK pd_20 rfl (Or.inr rfl) fd_M_41 rfl w7_73 d_M_init_223 h (fun s87 h => ?_)
  refine r_aload_n hK d_M_init_226 rfl 0 rfl ?_
  refine r_bipush (v := 102) hK d_M_init_227 (by decide) ?_
  refine r_newarray (index := 0) hK (ty := .int) rfl rfl (by decide) w1_90 ar_20 d_M_init_229 h (fun p88 s89 h => ?_)
  refine r_pRF hK pd_20 rfl (Or.inr rfl) fd_M_42 rfl w7_74 d_M_init_231 h (fun s90 h => ?_)
  refine r_aload_n hK d_M_init_234 rfl 0 rfl ?_
  refine r_bipush (v := 17) hK d_M_init_235 (by decide) ?_
  refine r_newarray (index := 0) hK (ty := .boolean) rfl rfl (by decide) w8_99 ar_31 d_M_init_237 h (fun p91 s92 h => ?_)
  refine r_pRF hK pd_31 rfl (Or.inr rfl) fd_M_43 rfl w7_75 d_M_init_239 h (fun s93 h => ?_)
  refine r_aload_n hK d_M_init_242 rfl 0 rfl ?_
  refine r_bipush (v := 68) hK d_M_init_243 (by decide) ?_
  refine r_newarray (index := 0) hK (ty := .int) rfl rfl (by decide) w1_90 ar_20 d_M_init_245 h (fun p94 s95 h => ?_)
  refine r_pRF hK pd_20 rfl (Or.inr rfl) fd_M_45 rfl w7_77 d_M_init_247 h (fun s96 h => ?_)
  refine r_aload_n hK d_M_init_250 rfl 0 rfl ?_
  refine r_bipush (v := 68) hK d_M_init_251 (by decide) ?_
  refine r_newarray (index := 0) hK (ty := .int) rfl rfl (by decide) w1_90 ar_20 d_M_init_253 h (fun p97 s98 h => ?_)
  refine r_pRF hK pd_20 rfl (Or.inr rfl) fd_M_46 rfl w7_78 d_M_init_255 h (fun s99 h => ?_)
  refine r_aload_n hK d_M_init_258 rfl 0 rfl ?_
  refine r_sipush (v := 210) hK d_M_init_259 (by decide) ?_
  refine r_newarray (index := 0) hK (ty := .int) rfl rfl (by decide) w1_90 ar_20 d_M_init_262 h (fun p100 s101 h => ?_)
  refine r_pRF hK pd_20 rfl (Or.inr rfl) fd_M_49 rfl w7_81 d_M_init_264 h (fun s102 h => ?_)
  refine r_aload_n hK d_M_init_267 rfl 0 rfl ?_
  refine r_sipush (v := 210) hK d_M_init_268 (by decide) ?_
  refine r_newarray (index := 0) hK (ty := .int) rfl rfl (by decide) w1_90 ar_20 d_M_init_271 h (fun p103 s104 h => ?_)
  refine r_pRF hK pd_20 rfl (Or.inr rfl) fd_M_50 rfl w7_82 d_M_init_273 h (fun s105 h => ?_)
  refine r_aload_n hK d_M_init_276 rfl 0 rfl ?_
  refine r_sipush (v := 210) hK d_M_init_277 (by decide) ?_
  refine r_newarray (index := 0) hK (ty := .int) rfl rfl (by decide) w1_90 ar_20 d_M_init_280 h (fun p106 s107 h => ?_)
  refine r_pRF hK pd_20 rfl (Or.inr rfl) fd_M_51 rfl w7_83 d_M_init_282 h (fun s108 h => ?_)
  refine r_aload_n hK d_M_init_285 rfl 0 rfl ?_
  refine r_sipush (v := 210) hK d_M_init_286 (by decide) ?_
  refine r_newarray (index := 0) hK (ty := .int) rfl rfl (by decide) w1_90 ar_20 d_M_init_289 h (fun p109 s110 h => ?_)
  refine r_pRF hK pd_20 rfl (Or.inr rfl) fd_M_52 rfl w7_84 d_M_init_291 h (fun s111 h => ?_)
  refine r_aload_n hK d_M_init_294 rfl 0 rfl ?_
  refine r_sipush (v := 210) hK d_M_init_295 (by decide) ?_
  refine r_newarray (index := 0) hK (ty := .int) rfl rfl (by decide) w1_90 ar_20 d_M_init_298 h (fun p112 s113 h => ?_)
  refine r_pRF hK pd_20 rfl (Or.inr rfl) fd_M_53 rfl w7_85 d_M_init_300 h (fun s114 h => ?_)
  refine r_aload_n hK d_M_init_303 rfl 0 rfl ?_
  refine r_sipush (v := 210) hK d_M_init_304 (by decide) ?_
  refine r_newarray (index := 0) hK (ty := .int) rfl rfl (by decide) w1_90 ar_20 d_M_init_307 h (fun p115 s116 h => ?_)
  refine r_pRF hK pd_20 rfl (Or.inr rfl) fd_M_54 rfl w7_86 d_M_init_309 h (fun s117 h => ?_)
  refine r_aload_n hK d_M_init_312 rfl 0 rfl ?_
  refine r_sipush (v := 210) hK d_M_init_313 (by decide) ?_
  refine r_newarray (index := 0) hK (ty := .int) rfl rfl (by decide) w1_90 ar_20 d_M_init_316 h (fun p118 s119 h => ?_)
  refine r_pRF hK pd_20 rfl (Or.inr rfl) fd_M_55 rfl w7_87 d_M_init_318 h (fun s120 h => ?_)
  refine r_aload_n hK d_M_init_321 rfl 0 rfl ?_
  refine r_bipush (v := 100) hK d_M_init_322 (by decide) ?_
  refine r_newarray (index := 0) hK (ty := .int) rfl rfl (by decide) w1_90 ar_20 d_M_init_324 h (fun p121 s122 h => ?_)
  refine r_pRF hK pd_20 rfl (Or.inr rfl) fd_M_57 rfl w7_89 d_M_init_326 h (fun s123 h => ?_)
  refine r_aload_n hK d_M_init_329 rfl 0 rfl ?_
  refine r_bipush (v := 100) hK d_M_init_330 (by decide) ?_
  refine r_newarray (index := 0) hK (ty := .int) rfl rfl (by decide) w1_90 ar_20 d_M_init_332 h (fun p124 s125 h => ?_)
  refine r_pRF hK pd_20 rfl (Or.inr rfl) fd_M_58 rfl w7_90 d_M_init_334 h (fun s126 h => ?_)
  refine r_aload_n hK d_M_init_337 rfl 0 rfl ?_
  refine r_bipush (v := 100) hK d_M_init_338 (by decide) ?_
  refine r_newarray (index := 0) hK (ty := .int) rfl rfl (by decide) w1_90 ar_20 d_M_init_340 h (fun p127 s128 h => ?_)
  refine r_pRF hK pd_20 rfl (Or.inr rfl) fd_M_59 rfl w7_91 d_M_init_342 h (fun s129 h => ?_)
  refine r_aload_n hK d_M_init_345 rfl 0 rfl ?_
  refine r_bipush (v := 120) hK d_M_init_346 (by decide) ?_
  refine r_newarray (index := 0) hK (ty := .int) rfl rfl (by decide) w1_90 ar_20 d_M_init_348 h (fun p130 s131 h => ?_)
  refine r_pRF hK pd_20 rfl (Or.inr rfl) fd_M_61 rfl w7_93 d_M_init_350 h (fun s132 h => ?_)
  refine r_aload_n hK d_M_init_353 rfl 0 rfl ?_
  refine r_bipush (v := 120) hK d_M_init_354 (by decide) ?_
  refine r_newarray (index := 0) hK (ty := .int) rfl rfl (by decide) w1_90 ar_20 d_M_init_356 h (fun p133 s134 h => ?_)
  refine r_pRF hK pd_20 rfl (Or.inr rfl) fd_M_62 rfl w7_94 d_M_init_358 h (fun s135 h => ?_)
  refine r_aload_n hK d_M_init_361 rfl 0 rfl ?_
  refine r_bipush (v := 120) hK d_M_init_362 (by decide) ?_
  refine r_newarray (index := 0) hK (ty := .int) rfl rfl (by decide) w1_90 ar_20 d_M_init_364 h (fun p136 s137 h => ?_)
  refine r_pRF hK pd_20 rfl (Or.inr rfl) fd_M_63 rfl w7_95 d_M_init_366 h (fun s138 h => ?_)
  refine r_aload_n hK d_M_init_369 rfl 0 rfl ?_
  refine r_bipush (v := 120) hK d_M_init_370 (by decide) ?_
  refine r_newarray (index := 0) hK (ty := .int) rfl rfl (by decide) w1_90 ar_20 d_M_init_372 h (fun p139 s140 h => ?_)
  refine r_pRF hK pd_20 rfl (Or.inr rfl) fd_M_64 rfl w7_96 d_M_init_374 h (fun s141 h => ?_)
  refine r_aload_n hK d_M_init_377 rfl 0 rfl ?_
  refine r_bipush (v := 120) hK d_M_init_378 (by decide) ?_
  refine r_newarray (index := 0) hK (ty := .int) rfl rfl (by decide) w1_90 ar_20 d_M_init_380 h (fun p142 s143 h => ?_)
  refine r_pRF hK pd_20 rfl (Or.inr rfl) fd_M_65 rfl w7_97 d_M_init_382 h (fun s144 h => ?_)
  refine r_aload_n hK d_M_init_385 rfl 0 rfl ?_
  refine r_bipush (v := 120) hK d_M_init_386 (by decide) ?_
  refine r_newarray (index := 0) hK (ty := .int) rfl rfl (by decide) w1_90 ar_20 d_M_init_388 h (fun p145 s146 h => ?_)
  refine r_pRF hK pd_20 rfl (Or.inr rfl) fd_M_66 rfl w7_98 d_M_init_390 h (fun s147 h => ?_)
  refine r_aload_n hK d_M_init_393 rfl 0 rfl ?_
  refine r_sipush (v := 360) hK d_M_init_394 (by decide) ?_
  refine r_newarray (index := 0) hK (ty := .int) rfl rfl (by decide) w1_90 ar_20 d_M_init_397 h (fun p148 s149 h => ?_)
  refine r_pRF hK pd_20 rfl (Or.inr rfl) fd_M_67 rfl w7_99 d_M_init_399 h (fun s150 h => ?_)
  refine r_aload_n hK d_M_init_402 rfl 0 rfl ?_
  refine r_iconst (v := 2) hK d_M_init_403 (by decide) ?_
  refine r_newarray (index := 0) hK (ty := .int) rfl rfl (by decide) w1_90 ar_20 d_M_init_404 h (fun p151 s152 h => ?_)
  refine r_pRF hK pd_20 rfl (Or.inr rfl) fd_M_70 rfl w7_102 d_M_init_406 h (fun s153 h => ?_)
  refine r_aload_n hK d_M_init_409 rfl 0 rfl ?_
  refine r_iconst (v := 2) hK d_M_init_410 (by decide) ?_
  refine r_newarray (index := 0) hK (ty := .int) rfl rfl (by decide) w1_90 ar_20 d_M_init_411 h (fun p154 s155 h => ?_)
  refine r_pRF hK pd_20 rfl (Or.inr rfl) fd_M_71 rfl w7_103 d_M_init_413 h (fun s156 h => ?_)
  refine r_aload_n hK d_M_init_416 rfl 0 rfl ?_
  refine r_iconst (v := 2) hK d_M_init_417 (by decide) ?_
  refine r_newarray (index := 0) hK (ty := .int) rfl rfl (by decide) w1_90 ar_20 d_M_init_418 h (fun p157 s158 h => ?_)
  refine r_pRF hK pd_20 rfl (Or.inr rfl) fd_M_72 rfl w7_104 d_M_init_420 h (fun s159 h => ?_)
  refine r_aload_n hK d_M_init_423 rfl 0 rfl ?_
  refine r_iconst (v := 4) hK d_M_init_424 (by decide) ?_
  refine r_newarray (index := 0) hK (ty := .int) rfl rfl (by decide) w1_90 ar_20 d_M_init_425 h (fun p160 s161 h => ?_)
  refine r_pRF hK pd_20 rfl (Or.inr rfl) fd_M_73 rfl w7_105 d_M_init_427 h (fun s162 h => ?_)
  refine r_aload_n hK d_M_init_430 rfl 0 rfl ?_
  refine r_iconst (v := 4) hK d_M_init_431 (by decide) ?_
  refine r_newarray (index := 0) hK (ty := .int) rfl rfl (by decide) w1_90 ar_20 d_M_init_432 h (fun p163 s164 h => ?_)
  refine r_pRF hK pd_20 rfl (Or.inr rfl) fd_M_74 rfl w7_106 d_M_init_434 h (fun s165 h => ?_)
  refine r_aload_n hK d_M_init_437 rfl 0 rfl ?_
  refine r_iconst (v := 4) hK d_M_init_438 (by decide) ?_
  refine r_newarray (index := 0) hK (ty := .int) rfl rfl (by decide) w1_90 ar_20 d_M_init_439 h (fun p166 s167 h => ?_)
  refine r_pRF hK pd_20 rfl (Or.inr rfl) fd_M_75 rfl w7_107 d_M_init_441 h (fun s168 h => ?_)
  refine r_aload_n hK d_M_init_444 rfl 0 rfl ?_
  refine r_bipush (v := 50) hK d_M_init_445 (by decide) ?_
  refine r_newarray (index := 0) hK (ty := .int) rfl rfl (by decide) w1_90 ar_20 d_M_init_447 h (fun p169 s170 h => ?_)
  refine r_pRF hK pd_20 rfl (Or.inr rfl) fd_M_78 rfl w7_110 d_M_init_449 h (fun s171 h => ?_)
  refine r_aload_n hK d_M_init_452 rfl 0 rfl ?_
  refine r_sipush (v := 200) hK d_M_init_453 (by decide) ?_
  refine r_newarray (index := 0) hK (ty := .long) rfl rfl (by decide) w1_91 ar_21 d_M_init_456 h (fun p172 s173 h => ?_)
  refine r_pRF hK pd_21 rfl (Or.inr rfl) fd_M_79 rfl w7_111 d_M_init_458 h (fun s174 h => ?_)
  refine r_aload_n hK d_M_init_461 rfl 0 rfl ?_
  refine r_bipush (v := 50) hK d_M_init_462 (by decide) ?_
  refine r_newarray (index := 0) hK (ty := .int) rfl rfl (by decide) w1_90 ar_20 d_M_init_464 h (fun p175 s176 h => ?_)
  refine r_pRF hK pd_20 rfl (Or.inr rfl) fd_M_80 rfl w7_112 d_M_init_466 h (fun s177 h => ?_)
  refine r_aload_n hK d_M_init_469 rfl 0 rfl ?_
  refine r_sipush (v := 1600) hK d_M_init_470 (by decide) ?_
  refine r_newarray (index := 0) hK (ty := .long) rfl rfl (by decide) w1_91 ar_21 d_M_init_473 h (fun p178 s179 h => ?_)
  refine r_pRF hK pd_21 rfl (Or.inr rfl) fd_M_81 rfl w7_113 d_M_init_475 h (fun s180 h => ?_)
  refine r_aload_n hK d_M_init_478 rfl 0 rfl ?_
  refine r_bipush (v := 50) hK d_M_init_479 (by decide) ?_
  refine r_newarray (index := 0) hK (ty := .int) rfl rfl (by decide) w1_90 ar_20 d_M_init_481 h (fun p181 s182 h => ?_)
  refine r_pRF hK pd_20 rfl (Or.inr rfl) fd_M_82 rfl w7_114 d_M_init_483 h (fun s183 h => ?_)
  refine r_aload_n hK d_M_init_486 rfl 0 rfl ?_
  refine r_sipush (v := 1600) hK d_M_init_487 (by decide) ?_
  refine r_newarray (index := 0) hK (ty := .long) rfl rfl (by decide) w1_91 ar_21 d_M_init_490 h (fun p184 s185 h => ?_)
  refine r_pRF hK pd_21 rfl (Or.inr rfl) fd_M_83 rfl w7_115 d_M_init_492 h (fun s186 h => ?_)
  refine r_aload_n hK d_M_init_495 rfl 0 rfl ?_
  refine r_sipush (v := 200) hK d_M_init_496 (by decide) ?_
  refine r_newarray (index := 0) hK (ty := .long) rfl rfl (by decide) w1_91 ar_21 d_M_init_499 h (fun p187 s188 h => ?_)
  refine r_pRF hK pd_21 rfl (Or.inr rfl) fd_M_86 rfl w7_118 d_M_init_501 h (fun s189 h => ?_)
  refine r_aload_n hK d_M_init_504 rfl 0 rfl ?_
  refine r_bipush (v := 100) hK d_M_init_505 (by decide) ?_
  refine r_newarray (index := 0) hK (ty := .long) rfl rfl (by decide) w1_91 ar_21 d_M_init_507 h (fun p190 s191 h => ?_)
  refine r_pRF hK pd_21 rfl (Or.inr rfl) fd_M_87 rfl w7_119 d_M_init_509 h (fun s192 h => ?_)
  refine r_aload_n hK d_M_init_512 rfl 0 rfl ?_
  refine r_bipush (v := 50) hK d_M_init_513 (by decide) ?_
  refine r_newarray (index := 0) hK (ty := .int) rfl rfl (by decide) w1_90 ar_20 d_M_init_515 h (fun p193 s194 h => ?_)
  refine r_pRF hK pd_20 rfl (Or.inr rfl) fd_M_89 rfl w7_121 d_M_init_517 h (fun s195 h => ?_)
  refine r_aload_n hK d_M_init_520 rfl 0 rfl ?_
  refine r_iconst (v := 4) hK d_M_init_521 (by decide) ?_
  refine r_newarray (index := 0) hK (ty := .int) rfl rfl (by decide) w1_90 ar_20 d_M_init_522 h (fun p196 s197 h => ?_)
  refine r_pRF hK pd_20 rfl (Or.inr rfl) fd_M_90 rfl w7_122 d_M_init_524 h (fun s198 h => ?_)
  refine r_aload_n hK d_M_init_527 rfl 0 rfl ?_
  refine r_sipush (v := 128) hK d_M_init_528 (by decide) ?_
  refine r_newarray (index := 0) hK (ty := .int) rfl rfl (by decide) w1_90 ar_20 d_M_init_531 h (fun p199 s200 h => ?_)
  refine r_pRF hK pd_20 rfl (Or.inr rfl) fd_M_91 rfl w7_123 d_M_init_533 h (fun s201 h => ?_)
  refine r_aload_n hK d_M_init_536 rfl 0 rfl ?_
  refine r_iconst (v := 4) hK d_M_init_537 (by decide) ?_
  refine r_newarray (index := 0) hK (ty := .int) rfl rfl (by decide) w1_90 ar_20 d_M_init_538 h (fun p202 s203 h => ?_)
  refine r_pRF hK pd_20 rfl (Or.inr rfl) fd_M_93 rfl w7_125 d_M_init_540 h (fun s204 h => ?_)
  refine r_aload_n hK d_M_init_543 rfl 0 rfl ?_
  refine r_sipush (v := 192) hK d_M_init_544 (by decide) ?_
  refine r_newarray (index := 0) hK (ty := .int) rfl rfl (by decide) w1_90 ar_20 d_M_init_547 h (fun p205 s206 h => ?_)
  refine r_pRF hK pd_20 rfl (Or.inr rfl) fd_M_95 rfl w7_127 d_M_init_549 h (fun s207 h => ?_)
  refine r_aload_n hK d_M_init_552 rfl 0 rfl ?_
  refine r_iconst (v := 3) hK d_M_init_553 (by decide) ?_
  refine r_newarray (index := 0) hK (ty := .int) rfl rfl (by decide) w1_90 ar_20 d_M_init_554 h (fun p208 s209 h => ?_)
  refine r_pRF hK pd_20 rfl (Or.inr rfl) fd_M_96 rfl w7_128 d_M_init_556 h (fun s210 h => ?_)
  refine r_aload_n hK d_M_init_559 rfl 0 rfl ?_
  refine r_iconst (v := 3) hK d_M_init_560 (by decide) ?_
  refine r_newarray (index := 0) hK (ty := .int) rfl rfl (by decide) w1_90 ar_20 d_M_init_561 h (fun p211 s212 h => ?_)
  refine r_pRF hK pd_20 rfl (Or.inr rfl) fd_M_97 rfl w7_129 d_M_init_563 h (fun s213 h => ?_)
  refine r_aload_n hK d_M_init_566 rfl 0 rfl ?_
  refine r_iconst (v := 4) hK d_M_init_567 (by decide) ?_
  refine r_newarray (index := 0) hK (ty := .int) rfl rfl (by decide) w1_90 ar_20 d_M_init_568 h (fun p214 s215 h => ?_)
  refine r_pRF hK pd_20 rfl (Or.inr rfl) fd_M_98 rfl w7_130 d_M_init_570 h (fun s216 h => ?_)
  refine r_aload_n hK d_M_init_573 rfl 0 rfl ?_
  refine r_sipush (v := 200) hK d_M_init_574 (by decide) ?_
  refine r_newarray (index := 0) hK (ty := .long) rfl rfl (by decide) w1_91 ar_21 d_M_init_577 h (fun p217 s218 h => ?_)
  refine r_pRF hK pd_21 rfl (Or.inr rfl) fd_M_100 rfl w7_132 d_M_init_579 h (fun s219 h => ?_)
  refine r_aload_n hK d_M_init_582 rfl 0 rfl ?_
  refine r_sipush (v := 200) hK d_M_init_583 (by decide) ?_
  refine r_newarray (index := 0) hK (ty := .long) rfl rfl (by decide) w1_91 ar_21 d_M_init_586 h (fun p220 s221 h => ?_)
  refine r_pRF hK pd_21 rfl (Or.inr rfl) fd_M_101 rfl w7_133 d_M_init_588 h (fun s222 h => ?_)
  refine r_aload_n hK d_M_init_591 rfl 0 rfl ?_
  refine r_iconst (v := 1) hK d_M_init_592 (by decide) ?_
  refine r_bipush (v := 87) hK d_M_init_593 (by decide) ?_
  refine r_bipush (v := 73) hK d_M_init_595 (by decide) ?_
  refine r_bipush (v := 84) hK d_M_init_597 (by decide) ?_
  refine r_bipush (v := 72) hK d_M_init_599 (by decide) ?_
  refine r_iconst (v := 0) hK d_M_init_601 (by decide) ?_
  refine r_iconst (v := 0) hK d_M_init_602 (by decide) ?_
  refine r_iconst (v := 0) hK d_M_init_603 (by decide) ?_
  refine r_iconst (v := 0) hK d_M_init_604 (by decide) ?_
  refine r_iconst (v := 0) hK d_M_init_605 (by decide) ?_
  refine r_Vv (avL := [g_i 1, g_i 87, g_i 73, g_i 84, g_i 72, g_i 0, g_i 0, g_i 0, g_i 0, g_i 0]) (st := []) hK ob_M rfl w7_25 wp_4 w7_23 w7_26 w1_6 (by decide) pl_M_word (by rw [hD]; decide) (Nat.le_of_ble_eq_true rfl) rfl d_M_init_606 (fun o9 h9 => c_M_word _ _ _ _ _ _ _ _ _ _ _ _ _ _ o9 h9) h (fun s224 h => ?_)
  refine r_aload_n hK d_M_init_609 rfl 0 rfl ?_
  refine r_iconst (v := 2) hK d_M_init_610 (by decide) ?_
  refine r_bipush (v := 82) hK d_M_init_611 (by decide) ?_
  refine r_bipush (v := 69) hK d_M_init_613 (by decide) ?_
  refine r_bipush (v := 67) hK d_M_init_615 (by decide) ?_
  refine r_bipush (v := 85) hK d_M_init_617 (by decide) ?_
  refine r_bipush (v := 82) hK d_M_init_619 (by decide) ?_
  refine r_bipush (v := 83) hK d_M_init_621 (by decide) ?_
  refine r_bipush (v := 73) hK d_M_init_623 (by decide) ?_
  refine r_bipush (v := 86) hK d_M_init_625 (by decide) ?_
  refine r_bipush (v := 69) hK d_M_init_627 (by decide) ?_
  refine r_Vv (avL := [g_i 2, g_i 82, g_i 69, g_i 67, g_i 85, g_i 82, g_i 83, g_i 73, g_i 86, g_i 69]) (st := []) hK ob_M rfl w7_25 wp_4 w7_23 w7_26 w1_6 (by decide) pl_M_word (by rw [hD]; decide) (Nat.le_of_ble_eq_true rfl) rfl d_M_init_629 (fun o9 h9 => c_M_word _ _ _ _ _ _ _ _ _ _ _ _ _ _ o9 h9) h (fun s226 h => ?_)
  refine r_aload_n hK d_M_init_632 rfl 0 rfl ?_
  refine r_iconst (v := 3) hK d_M_init_633 (by decide) ?_
  refine r_bipush (v := 65) hK d_M_init_634 (by decide) ?_
  refine r_bipush (v := 83) hK d_M_init_636 (by decide) ?_
  refine r_iconst (v := 0) hK d_M_init_638 (by decide) ?_
  refine r_iconst (v := 0) hK d_M_init_639 (by decide) ?_
  refine r_iconst (v := 0) hK d_M_init_640 (by decide) ?_
  refine r_iconst (v := 0) hK d_M_init_641 (by decide) ?_
  refine r_iconst (v := 0) hK d_M_init_642 (by decide) ?_
  refine r_iconst (v := 0) hK d_M_init_643 (by decide) ?_
  refine r_iconst (v := 0) hK d_M_init_644 (by decide) ?_
  refine r_Vv (avL := [g_i 3, g_i 65, g_i 83, g_i 0, g_i 0, g_i 0, g_i 0, g_i 0, g_i 0, g_i 0]) (st := []) hK ob_M rfl w7_25 wp_4 w7_23 w7_26 w1_6 (by decide) pl_M_word (by rw [hD]; decide) (Nat.le_of_ble_eq_true rfl) rfl d_M_init_645 (fun o9 h9 => c_M_word _ _ _ _ _ _ _ _ _ _ _ _ _ _ o9 h9) h (fun s228 h => ?_)
  refine r_aload_n hK d_M_init_648 rfl 0 rfl ?_
  refine r_iconst (v := 4) hK d_M_init_649 (by decide) ?_
  refine r_bipush (v := 83) hK d_M_init_650 (by decide) ?_
  refine r_bipush (v := 69) hK d_M_init_652 (by decide) ?_
  refine r_bipush (v := 76) hK d_M_init_654 (by decide) ?_
  refine r_bipush (v := 69) hK d_M_init_656 (by decide) ?_
  refine r_bipush (v := 67) hK d_M_init_658 (by decide) ?_
  refine r_bipush (v := 84) hK d_M_init_660 (by decide) ?_
  refine r_iconst (v := 0) hK d_M_init_662 (by decide) ?_
  refine r_iconst (v := 0) hK d_M_init_663 (by decide) ?_
  refine r_iconst (v := 0) hK d_M_init_664 (by decide) ?_
  refine r_Vv (avL := [g_i 4, g_i 83, g_i 69, g_i 76, g_i 69, g_i 67, g_i 84, g_i 0, g_i 0, g_i 0]) (st := []) hK ob_M rfl w7_25 wp_4 w7_23 w7_26 w1_6 (by decide) pl_M_word (by rw [hD]; decide) (Nat.le_of_ble_eq_true rfl) rfl d_M_init_665 (fun o9 h9 => c_M_word _ _ _ _ _ _ _ _ _ _ _ _ _ _ o9 h9) h (fun s230 h => ?_)
  refine r_aload_n hK d_M_init_668 rfl 0 rfl ?_
  refine r_iconst (v := 5) hK d_M_init_669 (by decide) ?_
  refine r_bipush (v := 70) hK d_M_init_670 (by decide) ?_
  refine r_bipush (v := 82) hK d_M_init_672 (by decide) ?_
  refine r_bipush (v := 79) hK d_M_init_674 (by decide) ?_
  refine r_bipush (v := 77) hK d_M_init_676 (by decide) ?_
  refine r_iconst (v := 0) hK d_M_init_678 (by decide) ?_
  refine r_iconst (v := 0) hK d_M_init_679 (by decide) ?_
  refine r_iconst (v := 0) hK d_M_init_680 (by decide) ?_
  refine r_iconst (v := 0) hK d_M_init_681 (by decide) ?_
  refine r_iconst (v := 0) hK d_M_init_682 (by decide) ?_
  refine r_Vv (avL := [g_i 5, g_i 70, g_i 82, g_i 79, g_i 77, g_i 0, g_i 0, g_i 0, g_i 0, g_i 0]) (st := []) hK ob_M rfl w7_25 wp_4 w7_23 w7_26 w1_6 (by decide) pl_M_word (by rw [hD]; decide) (Nat.le_of_ble_eq_true rfl) rfl d_M_init_683 (fun o9 h9 => c_M_word _ _ _ _ _ _ _ _ _ _ _ _ _ _ o9 h9) h (fun s232 h => ?_)
  refine r_aload_n hK d_M_init_686 rfl 0 rfl ?_
  refine r_bipush (v := 6) hK d_M_init_687 (by decide) ?_
  refine r_bipush (v := 87) hK d_M_init_689 (by decide) ?_
  refine r_bipush (v := 72) hK d_M_init_691 (by decide) ?_
  refine r_bipush (v := 69) hK d_M_init_693 (by decide) ?_
  refine r_bipush (v := 82) hK d_M_init_695 (by decide) ?_
  refine r_bipush (v := 69) hK d_M_init_697 (by decide) ?_
  refine r_iconst (v := 0) hK d_M_init_699 (by decide) ?_
  refine r_iconst (v := 0) hK d_M_init_700 (by decide) ?_
  refine r_iconst (v := 0) hK d_M_init_701 (by decide) ?_
  refine r_iconst (v := 0) hK d_M_init_702 (by decide) ?_
  refine r_Vv (avL := [g_i 6, g_i 87, g_i 72, g_i 69, g_i 82, g_i 69, g_i 0, g_i 0, g_i 0, g_i 0]) (st := []) hK ob_M rfl w7_25 wp_4 w7_23 w7_26 w1_6 (by decide) pl_M_word (by rw [hD]; decide) (Nat.le_of_ble_eq_true rfl) rfl d_M_init_703 (fun o9 h9 => c_M_word _ _ _ _ _ _ _ _ _ _ _ _ _ _ o9 h9) h (fun s234 h => ?_)
  refine r_aload_n hK d_M_init_706 rfl 0 rfl ?_
  refine r_bipush (v := 7) hK d_M_init_707 (by decide) ?_
  refine r_bipush (v := 65) hK d_M_init_709 (by decide) ?_
  refine r_bipush (v := 78) hK d_M_init_711 (by decide) ?_
  refine r_bipush (v := 68) hK d_M_init_713 (by decide) ?_
  refine r_iconst (v := 0) hK d_M_init_715 (by decide) ?_
  refine r_iconst (v := 0) hK d_M_init_716 (by decide) ?_
  refine r_iconst (v := 0) hK d_M_init_717 (by decide) ?_
  refine r_iconst (v := 0) hK d_M_init_718 (by decide) ?_
  refine r_iconst (v := 0) hK d_M_init_719 (by decide) ?_
  refine r_iconst (v := 0) hK d_M_init_720 (by decide) ?_
  refine r_Vv (avL := [g_i 7, g_i 65, g_i 78, g_i 68, g_i 0, g_i 0, g_i 0, g_i 0, g_i 0, g_i 0]) (st := []) hK ob_M rfl w7_25 wp_4 w7_23 w7_26 w1_6 (by decide) pl_M_word (by rw [hD]; decide) (Nat.le_of_ble_eq_true rfl) rfl d_M_init_721 (fun o9 h9 => c_M_word _ _ _ _ _ _ _ _ _ _ _ _ _ _ o9 h9) h (fun s236 h => ?_)
  refine r_aload_n hK d_M_init_724 rfl 0 rfl ?_
  refine r_bipush (v := 8) hK d_M_init_725 (by decide) ?_
  refine r_bipush (v := 78) hK d_M_init_727 (by decide) ?_
  refine r_bipush (v := 79) hK d_M_init_729 (by decide) ?_
  refine r_bipush (v := 84) hK d_M_init_731 (by decide) ?_
  refine r_iconst (v := 0) hK d_M_init_733 (by decide) ?_
  refine r_iconst (v := 0) hK d_M_init_734 (by decide) ?_
  refine r_iconst (v := 0) hK d_M_init_735 (by decide) ?_
  refine r_iconst (v := 0) hK d_M_init_736 (by decide) ?_
  refine r_iconst (v := 0) hK d_M_init_737 (by decide) ?_
  refine r_iconst (v := 0) hK d_M_init_738 (by decide) ?_
  refine r_Vv (avL := [g_i 8, g_i 78, g_i 79, g_i 84, g_i 0, g_i 0, g_i 0, g_i 0, g_i 0, g_i 0]) (st := []) hK ob_M rfl w7_25 wp_4 w7_23 w7_26 w1_6 (by decide) pl_M_word (by rw [hD]; decide) (Nat.le_of_ble_eq_true rfl) rfl d_M_init_739 (fun o9 h9 => c_M_word _ _ _ _ _ _ _ _ _ _ _ _ _ _ o9 h9) h (fun s238 h => ?_)
  refine r_aload_n hK d_M_init_742 rfl 0 rfl ?_
  refine r_bipush (v := 9) hK d_M_init_743 (by decide) ?_
  refine r_bipush (v := 69) hK d_M_init_745 (by decide) ?_
  refine r_bipush (v := 88) hK d_M_init_747 (by decide) ?_
  refine r_bipush (v := 73) hK d_M_init_749 (by decide) ?_
  refine r_bipush (v := 83) hK d_M_init_751 (by decide) ?_
  refine r_bipush (v := 84) hK d_M_init_753 (by decide) ?_
  refine r_bipush (v := 83) hK d_M_init_755 (by decide) ?_
  refine r_iconst (v := 0) hK d_M_init_757 (by decide) ?_
  refine r_iconst (v := 0) hK d_M_init_758 (by decide) ?_
  refine r_iconst (v := 0) hK d_M_init_759 (by decide) ?_
  refine r_Vv (avL := [g_i 9, g_i 69, g_i 88, g_i 73, g_i 83, g_i 84, g_i 83, g_i 0, g_i 0, g_i 0]) (st := []) hK ob_M rfl w7_25 wp_4 w7_23 w7_26 w1_6 (by decide) pl_M_word (by rw [hD]; decide) (Nat.le_of_ble_eq_true rfl) rfl d_M_init_760 (fun o9 h9 => c_M_word _ _ _ _ _ _ _ _ _ _ _ _ _ _ o9 h9) h (fun s240 h => ?_)
  refine r_aload_n hK d_M_init_763 rfl 0 rfl ?_
  refine r_bipush (v := 10) hK d_M_init_764 (by decide) ?_
  refine r_bipush (v := 73) hK d_M_init_766 (by decide) ?_
  refine r_bipush (v := 83) hK d_M_init_768 (by decide) ?_
  refine r_iconst (v := 0) hK d_M_init_770 (by decide) ?_
  refine r_iconst (v := 0) hK d_M_init_771 (by decide) ?_
  refine r_iconst (v := 0) hK d_M_init_772 (by decide) ?_
  refine r_iconst (v := 0) hK d_M_init_773 (by decide) ?_
  refine r_iconst (v := 0) hK d_M_init_774 (by decide) ?_
  refine r_iconst (v := 0) hK d_M_init_775 (by decide) ?_
  refine r_iconst (v := 0) hK d_M_init_776 (by decide) ?_
  refine r_Vv (avL := [g_i 10, g_i 73, g_i 83, g_i 0, g_i 0, g_i 0, g_i 0, g_i 0, g_i 0, g_i 0]) (st := []) hK ob_M rfl w7_25 wp_4 w7_23 w7_26 w1_6 (by decide) pl_M_word (by rw [hD]; decide) (Nat.le_of_ble_eq_true rfl) rfl d_M_init_777 (fun o9 h9 => c_M_word _ _ _ _ _ _ _ _ _ _ _ _ _ _ o9 h9) h (fun s242 h => ?_)
  refine r_aload_n hK d_M_init_780 rfl 0 rfl ?_
  refine r_bipush (v := 11) hK d_M_init_781 (by decide) ?_
  refine r_bipush (v := 78) hK d_M_init_783 (by decide) ?_
  refine r_bipush (v := 85) hK d_M_init_785 (by decide) ?_
  refine r_bipush (v := 76) hK d_M_init_787 (by decide) ?_
  refine r_bipush (v := 76) hK d_M_init_789 (by decide) ?_
  refine r_iconst (v := 0) hK d_M_init_791 (by decide) ?_
  refine r_iconst (v := 0) hK d_M_init_792 (by decide) ?_
  refine r_iconst (v := 0) hK d_M_init_793 (by decide) ?_
  refine r_iconst (v := 0) hK d_M_init_794 (by decide) ?_
  refine r_iconst (v := 0) hK d_M_init_795 (by decide) ?_
  refine r_Vv (avL := [g_i 11, g_i 78, g_i 85, g_i 76, g_i 76, g_i 0, g_i 0, g_i 0, g_i 0, g_i 0]) (st := []) hK ob_M rfl w7_25 wp_4 w7_23 w7_26 w1_6 (by decide) pl_M_word (by rw [hD]; decide) (Nat.le_of_ble_eq_true rfl) rfl d_M_init_796 (fun o9 h9 => c_M_word _ _ _ _ _ _ _ _ _ _ _ _ _ _ o9 h9) h (fun s244 h => ?_)
  refine r_aload_n hK d_M_init_799 rfl 0 rfl ?_
  refine r_bipush (v := 12) hK d_M_init_800 (by decide) ?_
  refine r_bipush (v := 85) hK d_M_init_802 (by decide) ?_
  refine r_bipush (v := 78) hK d_M_init_804 (by decide) ?_
  refine r_bipush (v := 73) hK d_M_init_806 (by decide) ?_
  refine r_bipush (v := 79) hK d_M_init_808 (by decide) ?_
  refine r_bipush (v := 78) hK d_M_init_810 (by decide) ?_
  refine r_iconst (v := 0) hK d_M_init_812 (by decide) ?_
  refine r_iconst (v := 0) hK d_M_init_813 (by decide) ?_
  refine r_iconst (v := 0) hK d_M_init_814 (by decide) ?_
  refine r_iconst (v := 0) hK d_M_init_815 (by decide) ?_
  refine r_Vv (avL := [g_i 12, g_i 85, g_i 78, g_i 73, g_i 79, g_i 78, g_i 0, g_i 0, g_i 0, g_i 0]) (st := []) hK ob_M rfl w7_25 wp_4 w7_23 w7_26 w1_6 (by decide) pl_M_word (by rw [hD]; decide) (Nat.le_of_ble_eq_true rfl) rfl d_M_init_816 (fun o9 h9 => c_M_word _ _ _ _ _ _ _ _ _ _ _ _ _ _ o9 h9) h (fun s246 h => ?_)
  refine r_aload_n hK d_M_init_819 rfl 0 rfl ?_
  refine r_bipush (v := 13) hK d_M_init_820 (by decide) ?_
  refine r_bipush (v := 65) hK d_M_init_822 (by decide) ?_
  refine r_bipush (v := 76) hK d_M_init_824 (by decide) ?_
  refine r_bipush (v := 76) hK d_M_init_826 (by decide) ?_
  refine r_iconst (v := 0) hK d_M_init_828 (by decide) ?_
  refine r_iconst (v := 0) hK d_M_init_829 (by decide) ?_
  refine r_iconst (v := 0) hK d_M_init_830 (by decide) ?_
  refine r_iconst (v := 0) hK d_M_init_831 (by decide) ?_
  refine r_iconst (v := 0) hK d_M_init_832 (by decide) ?_
  refine r_iconst (v := 0) hK d_M_init_833 (by decide) ?_
  refine r_Vv (avL := [g_i 13, g_i 65, g_i 76, g_i 76, g_i 0, g_i 0, g_i 0, g_i 0, g_i 0, g_i 0]) (st := []) hK ob_M rfl w7_25 wp_4 w7_23 w7_26 w1_6 (by decide) pl_M_word (by rw [hD]; decide) (Nat.le_of_ble_eq_true rfl) rfl d_M_init_834 (fun o9 h9 => c_M_word _ _ _ _ _ _ _ _ _ _ _ _ _ _ o9 h9) h (fun s248 h => ?_)
  refine r_aload_n hK d_M_init_837 rfl 0 rfl ?_
  refine r_bipush (v := 14) hK d_M_init_838 (by decide) ?_
  refine r_bipush (v := 83) hK d_M_init_840 (by decide) ?_
  refine r_bipush (v := 69) hK d_M_init_842 (by decide) ?_
  refine r_bipush (v := 65) hK d_M_init_844 (by decide) ?_
  refine r_bipush (v := 82) hK d_M_init_846 (by decide) ?_
  refine r_bipush (v := 67) hK d_M_init_848 (by decide) ?_
  refine r_bipush (v := 72) hK d_M_init_850 (by decide) ?_
  refine r_iconst (v := 0) hK d_M_init_852 (by decide) ?_
  refine r_iconst (v := 0) hK d_M_init_853 (by decide) ?_
  refine r_iconst (v := 0) hK d_M_init_854 (by decide) ?_
  refine r_Vv (avL := [g_i 14, g_i 83, g_i 69, g_i 65, g_i 82, g_i 67, g_i 72, g_i 0, g_i 0, g_i 0]) (st := []) hK ob_M rfl w7_25 wp_4 w7_23 w7_26 w1_6 (by decide) pl_M_word (by rw [hD]; decide) (Nat.le_of_ble_eq_true rfl) rfl d_M_init_855 (fun o9 h9 => c_M_word _ _ _ _ _ _ _ _ _ _ _ _ _ _ o9 h9) h (fun s250 h => ?_)
  refine r_aload_n hK d_M_init_858 rfl 0 rfl ?_
  refine r_bipush (v := 15) hK d_M_init_859 (by decide) ?_
  refine r_bipush (v := 68) hK d_M_init_861 (by decide) ?_
  refine r_bipush (v := 69) hK d_M_init_863 (by decide) ?_
  refine r_bipush (v := 80) hK d_M_init_865 (by decide) ?_
  refine r_bipush (v := 84) hK d_M_init_867 (by decide) ?_
  refine r_bipush (v := 72) hK d_M_init_869 (by decide) ?_
  refine r_iconst (v := 0) hK d_M_init_871 (by decide) ?_
  refine r_iconst (v := 0) hK d_M_init_872 (by decide) ?_
  refine r_iconst (v := 0) hK d_M_init_873 (by decide) ?_
  refine r_iconst (v := 0) hK d_M_init_874 (by decide) ?_
  refine r_Vv (avL := [g_i 15, g_i 68, g_i 69, g_i 80, g_i 84, g_i 72, g_i 0, g_i 0, g_i 0, g_i 0]) (st := []) hK ob_M rfl w7_25 wp_4 w7_23 w7_26 w1_6 (by decide) pl_M_word (by rw [hD]; decide) (Nat.le_of_ble_eq_true rfl) rfl d_M_init_875 (fun o9 h9 => c_M_word _ _ _ _ _ _ _ _ _ _ _ _ _ _ o9 h9) h (fun s252 h => ?_)
  refine r_aload_n hK d_M_init_878 rfl 0 rfl ?_
  refine r_bipush (v := 16) hK d_M_init_879 (by decide) ?_
  refine r_bipush (v := 66) hK d_M_init_881 (by decide) ?_
  refine r_bipush (v := 82) hK d_M_init_883 (by decide) ?_
  refine r_bipush (v := 69) hK d_M_init_885 (by decide) ?_
  refine r_bipush (v := 65) hK d_M_init_887 (by decide) ?_
  refine r_bipush (v := 68) hK d_M_init_889 (by decide) ?_
  refine r_bipush (v := 84) hK d_M_init_891 (by decide) ?_
  refine r_bipush (v := 72) hK d_M_init_893 (by decide) ?_
  refine r_iconst (v := 0) hK d_M_init_895 (by decide) ?_
  refine r_iconst (v := 0) hK d_M_init_896 (by decide) ?_
  refine r_Vv (avL := [g_i 16, g_i 66, g_i 82, g_i 69, g_i 65, g_i 68, g_i 84, g_i 72, g_i 0, g_i 0]) (st := []) hK ob_M rfl w7_25 wp_4 w7_23 w7_26 w1_6 (by decide) pl_M_word (by rw [hD]; decide) (Nat.le_of_ble_eq_true rfl) rfl d_M_init_897 (fun o9 h9 => c_M_word _ _ _ _ _ _ _ _ _ _ _ _ _ _ o9 h9) h (fun s254 h => ?_)
  refine r_aload_n hK d_M_init_900 rfl 0 rfl ?_
  refine r_bipush (v := 17) hK d_M_init_901 (by decide) ?_
  refine r_bipush (v := 70) hK d_M_init_903 (by decide) ?_
  refine r_bipush (v := 73) hK d_M_init_905 (by decide) ?_
  refine r_bipush (v := 82) hK d_M_init_907 (by decide) ?_
  refine r_bipush (v := 83) hK d_M_init_909 (by decide) ?_
  refine r_bipush (v := 84) hK d_M_init_911 (by decide) ?_
  refine r_iconst (v := 0) hK d_M_init_913 (by decide) ?_
  refine r_iconst (v := 0) hK d_M_init_914 (by decide) ?_
  refine r_iconst (v := 0) hK d_M_init_915 (by decide) ?_
  refine r_iconst (v := 0) hK d_M_init_916 (by decide) ?_
  refine r_Vv (avL := [g_i 17, g_i 70, g_i 73, g_i 82, g_i 83, g_i 84, g_i 0, g_i 0, g_i 0, g_i 0]) (st := []) hK ob_M rfl w7_25 wp_4 w7_23 w7_26 w1_6 (by decide) pl_M_word (by rw [hD]; decide) (Nat.le_of_ble_eq_true rfl) rfl d_M_init_917 (fun o9 h9 => c_M_word _ _ _ _ _ _ _ _ _ _ _ _ _ _ o9 h9) h (fun s256 h => ?_)
  refine r_aload_n hK d_M_init_920 rfl 0 rfl ?_
  refine r_bipush (v := 18) hK d_M_init_921 (by decide) ?_
  refine r_bipush (v := 66) hK d_M_init_923 (by decide) ?_
  refine r_bipush (v := 89) hK d_M_init_925 (by decide) ?_
  refine r_iconst (v := 0) hK d_M_init_927 (by decide) ?_
  refine r_iconst (v := 0) hK d_M_init_928 (by decide) ?_
  refine r_iconst (v := 0) hK d_M_init_929 (by decide) ?_
  refine r_iconst (v := 0) hK d_M_init_930 (by decide) ?_
  refine r_iconst (v := 0) hK d_M_init_931 (by decide) ?_
  refine r_iconst (v := 0) hK d_M_init_932 (by decide) ?_
  refine r_iconst (v := 0) hK d_M_init_933 (by decide) ?_
  refine r_Vv (avL := [g_i 18, g_i 66, g_i 89, g_i 0, g_i 0, g_i 0, g_i 0, g_i 0, g_i 0, g_i 0]) (st := []) hK ob_M rfl w7_25 wp_4 w7_23 w7_26 w1_6 (by decide) pl_M_word (by rw [hD]; decide) (Nat.le_of_ble_eq_true rfl) rfl d_M_init_934 (fun o9 h9 => c_M_word _ _ _ _ _ _ _ _ _ _ _ _ _ _ o9 h9) h (fun s258 h => ?_)
  refine r_aload_n hK d_M_init_937 rfl 0 rfl ?_
  refine r_bipush (v := 19) hK d_M_init_938 (by decide) ?_
  refine r_bipush (v := 83) hK d_M_init_940 (by decide) ?_
  refine r_bipush (v := 69) hK d_M_init_942 (by decide) ?_
  refine r_bipush (v := 84) hK d_M_init_944 (by decide) ?_
  refine r_iconst (v := 0) hK d_M_init_946 (by decide) ?_
  refine r_iconst (v := 0) hK d_M_init_947 (by decide) ?_
  refine r_iconst (v := 0) hK d_M_init_948 (by decide) ?_
  refine r_iconst (v := 0) hK d_M_init_949 (by decide) ?_
  refine r_iconst (v := 0) hK d_M_init_950 (by decide) ?_
  refine r_iconst (v := 0) hK d_M_init_951 (by decide) ?_
  refine r_Vv (avL := [g_i 19, g_i 83, g_i 69, g_i 84, g_i 0, g_i 0, g_i 0, g_i 0, g_i 0, g_i 0]) (st := []) hK ob_M rfl w7_25 wp_4 w7_23 w7_26 w1_6 (by decide) pl_M_word (by rw [hD]; decide) (Nat.le_of_ble_eq_true rfl) rfl d_M_init_952 (fun o9 h9 => c_M_word _ _ _ _ _ _ _ _ _ _ _ _ _ _ o9 h9) h (fun s260 h => ?_)
  refine r_aload_n hK d_M_init_955 rfl 0 rfl ?_
  refine r_bipush (v := 20) hK d_M_init_956 (by decide) ?_
  refine r_bipush (v := 67) hK d_M_init_958 (by decide) ?_
  refine r_bipush (v := 89) hK d_M_init_960 (by decide) ?_
  refine r_bipush (v := 67) hK d_M_init_962 (by decide) ?_
  refine r_bipush (v := 76) hK d_M_init_964 (by decide) ?_
  refine r_bipush (v := 69) hK d_M_init_966 (by decide) ?_
  refine r_iconst (v := 0) hK d_M_init_968 (by decide) ?_
  refine r_iconst (v := 0) hK d_M_init_969 (by decide) ?_
  refine r_iconst (v := 0) hK d_M_init_970 (by decide) ?_
  refine r_iconst (v := 0) hK d_M_init_971 (by decide) ?_
  refine r_Vv (avL := [g_i 20, g_i 67, g_i 89, g_i 67, g_i 76, g_i 69, g_i 0, g_i 0, g_i 0, g_i 0]) (st := []) hK ob_M rfl w7_25 wp_4 w7_23 w7_26 w1_6 (by decide) pl_M_word (by rw [hD]; decide) (Nat.le_of_ble_eq_true rfl) rfl d_M_init_972 (fun o9 h9 => c_M_word _ _ _ _ _ _ _ _ _ _ _ _ _ _ o9 h9) h (fun s262 h => ?_)
  refine r_aload_n hK d_M_init_975 rfl 0 rfl ?_
  refine r_bipush (v := 21) hK d_M_init_976 (by decide) ?_
  refine r_bipush (v := 67) hK d_M_init_978 (by decide) ?_
  refine r_bipush (v := 79) hK d_M_init_980 (by decide) ?_
  refine r_bipush (v := 85) hK d_M_init_982 (by decide) ?_
  refine r_bipush (v := 78) hK d_M_init_984 (by decide) ?_
  refine r_bipush (v := 84) hK d_M_init_986 (by decide) ?_
  refine r_iconst (v := 0) hK d_M_init_988 (by decide) ?_
  refine r_iconst (v := 0) hK d_M_init_989 (by decide) ?_
  refine r_iconst (v := 0) hK d_M_init_990 (by decide) ?_
  refine r_iconst (v := 0) hK d_M_init_991 (by decide) ?_
  refine r_Vv (avL := [g_i 21, g_i 67, g_i 79, g_i 85, g_i 78, g_i 84, g_i 0, g_i 0, g_i 0, g_i 0]) (st := []) hK ob_M rfl w7_25 wp_4 w7_23 w7_26 w1_6 (by decide) pl_M_word (by rw [hD]; decide) (Nat.le_of_ble_eq_true rfl) rfl d_M_init_992 (fun o9 h9 => c_M_word _ _ _ _ _ _ _ _ _ _ _ _ _ _ o9 h9) h (fun s264 h => ?_)
  refine r_aload_n hK d_M_init_995 rfl 0 rfl ?_
  refine r_bipush (v := 22) hK d_M_init_996 (by decide) ?_
  refine r_bipush (v := 83) hK d_M_init_998 (by decide) ?_
  refine r_bipush (v := 85) hK d_M_init_1000 (by decide) ?_
  refine r_bipush (v := 77) hK d_M_init_1002 (by decide) ?_
  refine r_iconst (v := 0) hK d_M_init_1004 (by decide) ?_
  refine r_iconst (v := 0) hK d_M_init_1005 (by decide) ?_
  refine r_iconst (v := 0) hK d_M_init_1006 (by decide) ?_
  refine r_iconst (v := 0) hK d_M_init_1007 (by decide) ?_
  refine r_iconst (v := 0) hK d_M_init_1008 (by decide) ?_
  refine r_iconst (v := 0) hK d_M_init_1009 (by decide) ?_
  refine r_Vv (avL := [g_i 22, g_i 83, g_i 85, g_i 77, g_i 0, g_i 0, g_i 0, g_i 0, g_i 0, g_i 0]) (st := []) hK ob_M rfl w7_25 wp_4 w7_23 w7_26 w1_6 (by decide) pl_M_word (by rw [hD]; decide) (Nat.le_of_ble_eq_true rfl) rfl d_M_init_1010 (fun o9 h9 => c_M_word _ _ _ _ _ _ _ _ _ _ _ _ _ _ o9 h9) h (fun s266 h => ?_)
  refine r_aload_n hK d_M_init_1013 rfl 0 rfl ?_
  refine r_bipush (v := 23) hK d_M_init_1014 (by decide) ?_
  refine r_bipush (v := 77) hK d_M_init_1016 (by decide) ?_
  refine r_bipush (v := 73) hK d_M_init_1018 (by decide) ?_
  refine r_bipush (v := 78) hK d_M_init_1020 (by decide) ?_
  refine r_iconst (v := 0) hK d_M_init_1022 (by decide) ?_
  refine r_iconst (v := 0) hK d_M_init_1023 (by decide) ?_
  refine r_iconst (v := 0) hK d_M_init_1024 (by decide) ?_
  refine r_iconst (v := 0) hK d_M_init_1025 (by decide) ?_
  refine r_iconst (v := 0) hK d_M_init_1026 (by decide) ?_
  refine r_iconst (v := 0) hK d_M_init_1027 (by decide) ?_
  refine r_Vv (avL := [g_i 23, g_i 77, g_i 73, g_i 78, g_i 0, g_i 0, g_i 0, g_i 0, g_i 0, g_i 0]) (st := []) hK ob_M rfl w7_25 wp_4 w7_23 w7_26 w1_6 (by decide) pl_M_word (by rw [hD]; decide) (Nat.le_of_ble_eq_true rfl) rfl d_M_init_1028 (fun o9 h9 => c_M_word _ _ _ _ _ _ _ _ _ _ _ _ _ _ o9 h9) h (fun s268 h => ?_)
  refine r_aload_n hK d_M_init_1031 rfl 0 rfl ?_
  refine r_bipush (v := 24) hK d_M_init_1032 (by decide) ?_
  refine r_bipush (v := 77) hK d_M_init_1034 (by decide) ?_
  refine r_bipush (v := 65) hK d_M_init_1036 (by decide) ?_
  refine r_bipush (v := 88) hK d_M_init_1038 (by decide) ?_
  refine r_iconst (v := 0) hK d_M_init_1040 (by decide) ?_
  refine r_iconst (v := 0) hK d_M_init_1041 (by decide) ?_
  refine r_iconst (v := 0) hK d_M_init_1042 (by decide) ?_
  refine r_iconst (v := 0) hK d_M_init_1043 (by decide) ?_
  refine r_iconst (v := 0) hK d_M_init_1044 (by decide) ?_
  refine r_iconst (v := 0) hK d_M_init_1045 (by decide) ?_
  refine r_Vv (avL := [g_i 24, g_i 77, g_i 65, g_i 88, g_i 0, g_i 0, g_i 0, g_i 0, g_i 0, g_i 0]) (st := []) hK ob_M rfl w7_25 wp_4 w7_23 w7_26 w1_6 (by decide) pl_M_word (by rw [hD]; decide) (Nat.le_of_ble_eq_true rfl) rfl d_M_init_1046 (fun o9 h9 => c_M_word _ _ _ _ _ _ _ _ _ _ _ _ _ _ o9 h9) h (fun s270 h => ?_)
  refine r_aload_n hK d_M_init_1049 rfl 0 rfl ?_
  refine r_bipush (v := 25) hK d_M_init_1050 (by decide) ?_
  refine r_bipush (v := 79) hK d_M_init_1052 (by decide) ?_
  refine r_bipush (v := 82) hK d_M_init_1054 (by decide) ?_
  refine r_bipush (v := 68) hK d_M_init_1056 (by decide) ?_
  refine r_bipush (v := 69) hK d_M_init_1058 (by decide) ?_
  refine r_bipush (v := 82) hK d_M_init_1060 (by decide) ?_
  refine r_iconst (v := 0) hK d_M_init_1062 (by decide) ?_
  refine r_iconst (v := 0) hK d_M_init_1063 (by decide) ?_
  refine r_iconst (v := 0) hK d_M_init_1064 (by decide) ?_
  refine r_iconst (v := 0) hK d_M_init_1065 (by decide) ?_
  refine r_Vv (avL := [g_i 25, g_i 79, g_i 82, g_i 68, g_i 69, g_i 82, g_i 0, g_i 0, g_i 0, g_i 0]) (st := []) hK ob_M rfl w7_25 wp_4 w7_23 w7_26 w1_6 (by decide) pl_M_word (by rw [hD]; decide) (Nat.le_of_ble_eq_true rfl) rfl d_M_init_1066 (fun o9 h9 => c_M_word _ _ _ _ _ _ _ _ _ _ _ _ _ _ o9 h9) h (fun s272 h => ?_)
  exact r_return hK d_M_init_1069 h
theorem c_M_init (l : Launch) (G : g_G) (r0 : Option Nat) (u : g_St) (o : (Unit × g_St)) (h : f_M_init r0 u = some o) : g_Con l G y_M_init b_M_init 1 (Option.none : Option Jvm.ClassFile.FieldType) 3 [g_r 1 r0] u (g_jV o) :=
  g_Con.of rfl rfl (by decide +kernel) (Nat.le_of_ble_eq_true rfl) (fun K hK hN hD hX => t_M_init_0 hK hN hD _ _ h)
def f_M_thrown (r0 : Option Nat) (s0 : g_St) : Option (Int32 × g_St) :=
  g_gI s0 1 r0 fun i1 =>
  some (i1, s0)
set_option maxHeartbeats 4000000 in
set_option maxRecDepth 100000 in
theorem t_M_thrown_0 {K : g_C} {o : (Int32 × g_St)} (hK : g_OK K b_M_thrown "FixpointEngineModel" "thrown" (Option.some Jvm.ClassFile.FieldType.int)) (hN : g_nL K = 1) (hD : g_Kd K = 1) : ∀ (r0 : Option Nat) (s0 : g_St), f_M_thrown r0 s0 = some o → g_W K s0 [(0, g_r 1 r0)] [] 0 (g_jI o) := by
  intro r0 s0 h
  unfold f_M_thrown at h
  refine r_aload_n hK d_M_thrown_0 rfl 0 rfl ?_
  refine r_gI hK fd_M_0 w7_32 d_M_thrown_1 h (fun i1 h => ?_)
  exact r_ireturn hK d_M_thrown_4 h
theorem c_M_thrown (l : Launch) (G : g_G) (r0 : Option Nat) (u : g_St) (o : (Int32 × g_St)) (h : f_M_thrown r0 u = some o) : g_Con l G y_M_thrown b_M_thrown 1 (Option.some Jvm.ClassFile.FieldType.int) 1 [g_r 1 r0] u (g_jI o) :=
  g_Con.of rfl rfl (by decide +kernel) (Nat.le_of_ble_eq_true rfl) (fun K hK hN hD hX => t_M_thrown_0 hK hN hD _ _ h)
def f_M_table_28 (r0 : Option Nat) (x1 : Int32) (r0s : Option Nat) (x1s : Int32) (s0 : g_St) : Option (Int32 × g_St) :=
  g_pI s0 1 r0s x1s fun s1 =>
  g_gI s1 1 r0 fun i2 =>
  if i2 ≤ 0 then
    g_gR s1 129 r0 fun p3 =>
    g_gI s1 65 r0 fun i4 =>
    g_sI s1 p3 i4 x1 fun s5 =>
    g_gR s5 193 r0 fun p6 =>
    g_gI s5 65 r0 fun i7 =>
    g_sI s5 p6 i7 0 fun s8 =>
    g_gI s8 65 r0 fun i9 =>
    g_pI s8 65 r0 (i9 + 1) fun s10 =>
    g_gI s10 65 r0 fun i11 =>
    some (i11 - 1, s10)
  else
    some (0, s1)
def f_M_table (r0 : Option Nat) (x1 : Int32) (s0 : g_St) : Option (Int32 × g_St) :=
  if x1 < 1 then
    f_M_table_28 r0 x1 r0 1 s0
  else
    if x1 ≤ 3 then
      g_gI s0 65 r0 fun i1 =>
      if i1 = 5 then
        f_M_table_28 r0 x1 r0 2 s0
      else
        f_M_table_28 r0 x1 r0 0 s0
    else
      f_M_table_28 r0 x1 r0 1 s0
set_option maxHeartbeats 4000000 in
set_option maxRecDepth 100000 in
theorem t_M_table_28 {K : g_C} {o : (Int32 × g_St)} (hK : g_OK K b_M_table "FixpointEngineModel" "table" (Option.some Jvm.ClassFile.FieldType.int)) (hN : g_nL K = 2) (hD : g_Kd K = 1) : ∀ (r0 : Option Nat) (x1 : Int32) (r0s : Option Nat) (x1s : Int32) (s0 : g_St), f_M_table_28 r0 x1 r0s x1s s0 = some o → g_W K s0 [(0, g_r 1 r0), (1, g_i x1)] [g_i x1s, g_r 1 r0s] 28 (g_jI o) := by
  intro r0 x1 r0s x1s s0 h
  unfold f_M_table_28 at h
  refine r_pI hK fd_M_0 rfl w7_32 d_M_table_28 h (fun s1 h => ?_)
  refine r_aload_n hK d_M_table_31 rfl 0 rfl ?_
  refine r_gI hK fd_M_0 w7_32 d_M_table_32 h (fun i2 h => ?_)
  refine r_ifle (tgt := 40) hK d_M_table_35 (by decide) h (fun h => ?_) (fun h => ?_)
  · refine r_aload_n hK d_M_table_40 rfl 0 rfl ?_
    refine r_gR hK fd_M_2 w7_34 d_M_table_41 h (fun p3 h => ?_)
    refine r_aload_n hK d_M_table_44 rfl 0 rfl ?_
    refine r_gI hK fd_M_1 w7_33 d_M_table_45 h (fun i4 h => ?_)
    refine r_iload_n hK d_M_table_48 rfl 1 rfl ?_
    refine r_iastore hK ar_20 rfl d_M_table_49 h (fun s5 h => ?_)
    refine r_aload_n hK d_M_table_50 rfl 0 rfl ?_
    refine r_gR hK fd_M_3 w7_35 d_M_table_51 h (fun p6 h => ?_)
    refine r_aload_n hK d_M_table_54 rfl 0 rfl ?_
    refine r_gI hK fd_M_1 w7_33 d_M_table_55 h (fun i7 h => ?_)
    refine r_iconst (v := 0) hK d_M_table_58 (by decide) ?_
    refine r_iastore hK ar_20 rfl d_M_table_59 h (fun s8 h => ?_)
    refine r_aload_n hK d_M_table_60 rfl 0 rfl ?_
    refine r_dup hK d_M_table_61 rfl ?_
    refine r_gI hK fd_M_1 w7_33 d_M_table_62 h (fun i9 h => ?_)
    refine r_iconst (v := 1) hK d_M_table_65 (by decide) ?_
    refine r_iadd hK d_M_table_66 ?_
    refine r_pI hK fd_M_1 rfl w7_33 d_M_table_67 h (fun s10 h => ?_)
    refine r_aload_n hK d_M_table_70 rfl 0 rfl ?_
    refine r_gI hK fd_M_1 w7_33 d_M_table_71 h (fun i11 h => ?_)
    refine r_iconst (v := 1) hK d_M_table_74 (by decide) ?_
    refine r_isub hK d_M_table_75 ?_
    exact r_ireturn hK d_M_table_76 h
  · refine r_iconst (v := 0) hK d_M_table_38 (by decide) ?_
    exact r_ireturn hK d_M_table_39 h
set_option maxHeartbeats 4000000 in
set_option maxRecDepth 100000 in
theorem t_M_table_0 {K : g_C} {o : (Int32 × g_St)} (hK : g_OK K b_M_table "FixpointEngineModel" "table" (Option.some Jvm.ClassFile.FieldType.int)) (hN : g_nL K = 2) (hD : g_Kd K = 1) : ∀ (r0 : Option Nat) (x1 : Int32) (s0 : g_St), f_M_table r0 x1 s0 = some o → g_W K s0 [(0, g_r 1 r0), (1, g_i x1)] [] 0 (g_jI o) := by
  intro r0 x1 s0 h
  unfold f_M_table at h
  refine r_aload_n hK d_M_table_0 rfl 0 rfl ?_
  refine r_iload_n hK d_M_table_1 rfl 1 rfl ?_
  refine r_iconst (v := 1) hK d_M_table_2 (by decide) ?_
  refine r_if_icmplt (tgt := 11) hK d_M_table_3 (by decide) h (fun h => ?_) (fun h => ?_)
  · refine r_iconst (v := 1) hK d_M_table_11 (by decide) ?_
    refine r_goto (tgt := 28) hK d_M_table_12 (by decide) ?_
    exact r_sub [0, 1] rfl (t_M_table_28 hK hN hD _ _ _ _ _ h)
  · refine r_iload_n hK d_M_table_6 rfl 1 rfl ?_
    refine r_iconst (v := 3) hK d_M_table_7 (by decide) ?_
    refine r_if_icmple (tgt := 15) hK d_M_table_8 (by decide) h (fun h => ?_) (fun h => ?_)
    · refine r_aload_n hK d_M_table_15 rfl 0 rfl ?_
      refine r_gI hK fd_M_1 w7_33 d_M_table_16 h (fun i1 h => ?_)
      refine r_iconst (v := 5) hK d_M_table_19 (by decide) ?_
      refine r_if_icmpne (tgt := 27) hK d_M_table_20 (by decide) h (fun h => ?_) (fun h => ?_)
      · refine r_iconst (v := 0) hK d_M_table_27 (by decide) ?_
        exact r_sub [0, 1] rfl (t_M_table_28 hK hN hD _ _ _ _ _ h)
      · refine r_iconst (v := 2) hK d_M_table_23 (by decide) ?_
        refine r_goto (tgt := 28) hK d_M_table_24 (by decide) ?_
        exact r_sub [0, 1] rfl (t_M_table_28 hK hN hD _ _ _ _ _ h)
    · refine r_iconst (v := 1) hK d_M_table_11 (by decide) ?_
      refine r_goto (tgt := 28) hK d_M_table_12 (by decide) ?_
      exact r_sub [0, 1] rfl (t_M_table_28 hK hN hD _ _ _ _ _ h)
theorem c_M_table (l : Launch) (G : g_G) (r0 : Option Nat) (x1 : Int32) (u : g_St) (o : (Int32 × g_St)) (h : f_M_table r0 x1 u = some o) : g_Con l G y_M_table b_M_table 2 (Option.some Jvm.ClassFile.FieldType.int) 1 [g_r 1 r0, g_i x1] u (g_jI o) :=
  g_Con.of rfl rfl (by decide +kernel) (Nat.le_of_ble_eq_true rfl) (fun K hK hN hD hX => t_M_table_0 hK hN hD _ _ _ h)
