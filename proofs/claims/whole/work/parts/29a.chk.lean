/-! String.checkIndex: its third value is of no kind -/
set_option maxHeartbeats 4000000 in
theorem cR_Pre_checkIndex (l : Launch) (G : g_G) (x y : Int32) (r : Option Nat) (ad : Nat → Nat) (u : g_St) (h1 : ¬ x < 0) (h2 : x < y) : g_ConR l G y_Pre_checkIndex b_Pre_checkIndex 3 (Option.some Jvm.ClassFile.FieldType.int) 7 ad [.int x, .int y, va_rf r] u (g_jI (x, u)) := by
  refine g_ConR.of (own := "jdk/internal/util/Preconditions") (nm := "checkIndex") rfl rfl (by decide +kernel) (by cases r <;> exact Nat.le_of_ble_eq_true rfl) (fun p e s m below meth c la hK hX hla hR => ?_)
  have h : (if x < 0 then none else if x < y then some (x, u) else none) = some (x, u) := by rw [if_neg h1, if_pos h2]
  have hW : g_W (p, l, e, s, m, [Value.int x, .int y, va_rf r].toArray, below, meth, c, 3, 7, u, ad, G) u [(0, g_i x), (1, g_i y)] [] 0 (g_jI (x, u)) := by
    refine r_iload_n hK d_Pre_checkIndex_0 rfl 0 rfl ?_
    refine r_iflt (tgt := 9) hK d_Pre_checkIndex_1 (by decide) h (fun h => ?_) (fun h => ?_)
    · cases h
    refine r_iload_n hK d_Pre_checkIndex_4 rfl 0 rfl ?_
    refine r_iload_n hK d_Pre_checkIndex_5 rfl 1 rfl ?_
    refine r_if_icmplt (tgt := 16) hK d_Pre_checkIndex_6 (by decide) h (fun h => ?_) (fun h => ?_)
    · refine r_iload_n hK d_Pre_checkIndex_16 rfl 0 rfl ?_
      exact r_ireturn hK d_Pre_checkIndex_17 h
    · cases h
  have k := hW ad s.heap [] la hR ⟨fun a ha => ⟨ha, rfl⟩, Nat.le_refl _, Nat.le_refl _⟩ (fun q hq => by
    rcases List.mem_cons.mp hq with rfl | hq
    · trivial
    · rcases List.mem_cons.mp hq with rfl | hq
      · trivial
      · cases hq) (fun v hv => by cases hv) (fun q hq => by cases hq) ⟨hla.1, hla.2.1, fun q hq => ?_⟩
  · rw [Nat.sub_self, Nat.sub_self] at k
    exact k
  · refine hla.2.2 q ?_
    rcases List.mem_cons.mp hq with rfl | hq
    · exact List.mem_cons_self
    · rcases List.mem_cons.mp hq with rfl | hq
      · exact List.mem_cons_of_mem _ List.mem_cons_self
      · cases hq
theorem d_Str_checkIndex_0 : decode b_Str_checkIndex 0 = .ok (.iload_n 0, 1) := by decide +kernel
theorem d_Str_checkIndex_1 : decode b_Str_checkIndex 1 = .ok (.iload_n 1, 1) := by decide +kernel
theorem d_Str_checkIndex_2 : decode b_Str_checkIndex 2 = .ok (.getstatic 1053, 3) := by decide +kernel
theorem d_Str_checkIndex_5 : decode b_Str_checkIndex 5 = .ok (.invokestatic 1059, 3) := by decide +kernel
theorem d_Str_checkIndex_8 : decode b_Str_checkIndex 8 = .ok (.pop, 1) := by decide +kernel
theorem d_Str_checkIndex_9 : decode b_Str_checkIndex 9 = .ok (.return_, 1) := by decide +kernel
def f_Str_checkIndex (x y : Int32) (u : g_St) : Option (Unit × g_St) := if x < 0 then none else if x < y then some ((), u) else none
set_option maxHeartbeats 4000000 in
theorem c_Str_checkIndex (l : Launch) (G : g_G) (x y : Int32) (u : g_St) (o : Unit × g_St) (h : f_Str_checkIndex x y u = some o) : g_Con l G y_Str_checkIndex b_Str_checkIndex 2 (Option.none : Option Jvm.ClassFile.FieldType) 8 [g_i x, g_i y] u (g_jV o) := by
  have h1 : ¬ x < 0 := fun w => by rw [f_Str_checkIndex, if_pos w] at h; cases h
  rw [f_Str_checkIndex, if_neg h1] at h
  have h2 : x < y := by
    by_cases w : x < y
    · exact w
    · rw [if_neg w] at h; cases h
  rw [if_pos h2] at h
  cases h
  refine g_Con.of (own := "java/lang/String") (nm := "checkIndex") rfl rfl (by decide +kernel) (Nat.le_of_ble_eq_true rfl) (fun K hK hN hD hX => ?_)
  refine r_iload_n hK d_Str_checkIndex_0 rfl 0 rfl ?_
  refine r_iload_n hK d_Str_checkIndex_1 rfl 1 rfl ?_
  have kk : g_W K u [(0, g_i x), (1, g_i y)] [g_i x] 8 (g_jV ((), u)) := by
    refine r_pop hK d_Str_checkIndex_8 rfl ?_
    exact r_return hK d_Str_checkIndex_9 rfl
  obtain ⟨p, l, e, s, m, args, below, meth, c, nL, d, u0, ad0, G⟩ := K
  have hK9 := hK
  obtain ⟨hx, hb, hml, hown, hts, hKn, hlk, hnm, hret, htr⟩ := hK
  intro ad H locs la hR hE hL hS hlo hla
  obtain ⟨r, cf, kf, fi, f, a1, cell, z1, z2, z3, z4, z5, z6, z7, z8⟩ := hKn.2.2.2.2.2.2.2.2.2.1
  refine W.gets hx hb hown (hts _ w2_194) z1 z2 z3 z4 (cell₁ := cell) (v := va_rf r) (by rw [hR.1.2 a1 (Nat.not_le.mp z8)]; exact z5) (fun w => by rw [w] at z6; cases z6) z7 rfl d_Str_checkIndex_2 ?_
  have hd9 : 7 + 1 ≤ d := by
    have : d = 8 := hD
    omega
  exact i_SR hK9 (vs := [.int x, .int y, va_rf r]) (ls := [(0, g_i x), (1, g_i y)]) (st := []) w2_197 w2_196 w2_198 w1_16 (by decide) pl_Pre_checkIndex hd9 (Nat.le_of_ble_eq_true rfl) d_Str_checkIndex_5 hR hE hL (fun v hv => by cases hv) hlo hla (cR_Pre_checkIndex _ _ x y r _ _ h1 h2) kk
