/-! Arrays.copyOf: one list's places into another's -/
def g_cpS (u : g_St) (b : Nat) (f : Nat → Option Nat) : g_St := (u.1, u.2.1, u.2.2.1, u.2.2.2.1, u.2.2.2.2.1, u.2.2.2.2.2.1, u.2.2.2.2.2.2.1, (fun x i => if x = b then f i else u.2.2.2.2.2.2.2.1 x i), u.2.2.2.2.2.2.2.2)
def g_cpO {α : Type} (u : g_St) (r r1 : Option Nat) (k : Int32) (F : g_St → Option α) : Option α := match r, r1 with
  | some a, some b => if (1 ≤ a / 64 ∧ 1 ≤ b / 64) ∧ (¬ k < 0 ∧ k.toNatClampNeg ≤ g_ln u a ∧ k.toNatClampNeg ≤ g_ln u b) ∧ ((List.range k.toNatClampNeg).all fun i => g_okO (g_AR u a i)) = true then F (g_cpS u b (fun i => if i < k.toNatClampNeg then g_AR u a i else g_AR u b i)) else none
  | _, _ => none
set_option maxHeartbeats 4000000 in
theorem r_acpy {K : g_C} {cc : ByteArray} {own nm : String} {ret : Option FieldType} {u : g_St} {ls : List (Nat × g_V)} {st : List g_V} {pc : Nat} {out : g_Out} (hK : g_OK K cc own nm ret) {α : Type} {o : α} {r r1 : Option Nat} {k : Int32} {F : g_St → Option α} {index : Nat} (hlink : Cond.methodLink own index arraycopyName ∈ g_tbl) (hdd : 1 ≤ g_Kd K) (hw : g_wid st + 32 ≤ 64) (hd : decode cc pc = .ok (.invokestatic index, 3)) (h : g_cpO u r r1 k F = some o) (kk : ∀ u1, F u1 = some o → g_W K u1 ls st (pc + 3) out) : g_W K u ls (g_i k :: g_i 0 :: g_r 30 r1 :: g_i 0 :: g_r 30 r :: st) pc out := by
  obtain ⟨p, l, e, s, m, args, below, meth, c, nL, d, u0, ad0, G⟩ := K
  obtain ⟨hx, hb, hml, hown, hts, hKn, hlk, hnm, hret, htr⟩ := hK
  intro ad H locs la hR hE hL hS hlo hla
  have nn : ∀ z : Int32, ¬ z < 0 → z.toInt = (z.toNatClampNeg : Int) := by
    intro z hz
    have hz0 : (0 : Int) ≤ z.toInt := by
      have := Int32.not_lt.mp hz
      simpa using Int32.le_iff_toInt_le.mp this
    show z.toInt = ((z.toInt.toNat : Nat) : Int)
    omega
  cases r with
  | none => exact absurd h (by simp [g_cpO])
  | some a =>
    cases r1 with
    | none => exact absurd h (by simp [g_cpO])
    | some b =>
      have hc : (1 ≤ a / 64 ∧ 1 ≤ b / 64) ∧ (¬ k < 0 ∧ k.toNatClampNeg ≤ g_ln u a ∧ k.toNatClampNeg ≤ g_ln u b) ∧ ((List.range k.toNatClampNeg).all fun i => g_okO (g_AR u a i)) = true := by
        by_cases w : (1 ≤ a / 64 ∧ 1 ≤ b / 64) ∧ (¬ k < 0 ∧ k.toNatClampNeg ≤ g_ln u a ∧ k.toNatClampNeg ≤ g_ln u b) ∧ ((List.range k.toNatClampNeg).all fun i => g_okO (g_AR u a i)) = true
        · exact w
        · rw [g_cpO, if_neg w] at h; cases h
      rw [g_cpO, if_pos hc] at h
      obtain ⟨⟨ha1, hb1⟩, ⟨h3, h4, h5⟩, hall⟩ := hc
      have t30 : ∀ z, g_okT u 30 (some z) → z % 64 = 30 ∧ g_al u z := fun z hz => ⟨by
        rcases (hz z rfl).1 with w | w
        · cases w
        · exact w, (hz z rfl).2⟩
      obtain ⟨htb, halb⟩ := t30 b hS.tl.tl.hd
      obtain ⟨hta, hala⟩ := t30 a hS.tl.tl.tl.tl.hd
      have hbA : g_b0 G ≤ ad b := (hR.2.2.1 b halb).2.1 (by rw [htb]; exact hb1)
      obtain ⟨k1, k2, k3⟩ := hR.2.2.2.2.1 _ g_ar30 a hala hta (by exact ha1)
      obtain ⟨j1, j2, j3⟩ := hR.2.2.2.2.1 _ g_ar30 b halb htb (by exact hb1)
      have k1 : H[ad a]? = some (arrV (G.2.2.1 30) (g_ln u a) (fun j => va_rf ((g_AR u a j).map ad))) := k1
      have j1 : H[ad b]? = some (arrV (G.2.2.1 30) (g_ln u b) (fun j => va_rf ((g_AR u b j).map ad))) := j1
      intro T hT X
      obtain ⟨-, kA, hk0, cm0, hkk0⟩ := (hKn.2.1 _ g_ar30).1 (g_ln u a) (fun j => va_rf ((g_AR u a j).map ad))
      obtain ⟨kA2, comp, r1, r2, r3, -⟩ := (hKn.2.1 _ g_ar30).2
      cases hk0.symm.trans r1
      cases hkk0.symm.trans r2
      obtain ⟨vm', X', step⟩ := X.arraycopy hx hown (hts _ hlink) (hts _ w4_185) (hts _ w4_184) (hts _ w1_28) (src := ad a) (dst := ad b) (cs := arrV (G.2.2.1 30) (g_ln u a) (fun j => va_rf ((g_AR u a j).map ad))) (cd := arrV (G.2.2.1 30) (g_ln u b) (fun j => va_rf ((g_AR u b j).map ad))) (srcPos := 0) (destPos := 0) (n := k) (by rw [hT]; exact k1) (by rw [hT]; exact j1)
        (fun _ h => by cases h) (fun _ h => by cases h) (fun h => by cases h) (fun h => by cases h) hk0 hk0 hkk0 hkk0 rfl (by decide) (by decide) h3
        (by rw [nn k h3]; rw [arrV_size]; show ¬ ((0 : Int) + _ > _); omega)
        (by rw [nn k h3]; rw [arrV_size]; show ¬ ((0 : Int) + _ > _); omega)
        (fun vm₁ hal i hi => by
          have e : (arrV (G.2.2.1 30) (g_ln u a) (fun j => va_rf ((g_AR u a j).map ad))).slots.getD ((0 : Int32).toNatClampNeg + i) .null = va_rf ((g_AR u a i).map ad) := by
            show (arrV (G.2.2.1 30) (g_ln u a) (fun j => va_rf ((g_AR u a j).map ad))).slots.getD (0 + i) _ = _
            rw [Nat.zero_add, Array.getD_eq_getD_getElem?, arrV_read _ _ (by omega)]
            rfl
          rw [e]
          have hel := List.all_eq_true.mp hall i (List.mem_range.mpr hi)
          cases hy : g_AR u a i with
          | none => exact ⟨rfl, trivial⟩
          | some y =>
            rw [hy] at hel
            have k4 := k3 rfl i (by omega)
            rw [hy] at k4
            obtain ⟨cv, x1, x2, kv, x3, kc, x4, x5⟩ := g_any_as hel hts hKn hR k4 r3
            obtain ⟨kC', hkC', -⟩ := hal.2.2 _ _ x3
            obtain ⟨kE', hkE', -⟩ := hal.2.2 _ _ x4
            refine ⟨rfl, cv, (show T.heap[ad y]? = some cv by rw [hT]; exact x1), (fun q h => by rw [h] at x2; cases x2), ⟨kC', hkC'⟩, ?_, ?_⟩
            · exact ⟨kE', hkE'⟩
            · show vm₁.assignable _ _ = true
              rw [hal.assignable]
              exact x5)
        (g := F0 m pc la ((g_i k :: g_i 0 :: g_r 30 (some b) :: g_i 0 :: g_r 30 (some a) :: st).map (g_v ad))) rfl (by rw [hml]; exact hla.1) (rest := st.map (g_v ad)) rfl (by rw [hb]; exact hd) hdd (by
          show 2 * 0 + _ + _ ≤ _
          rw [g_cats]
          have hw5 : nativeFrameWords "java/lang/System" "arraycopy" 5 ≤ 16 := by decide
          show _ ≤ 64 * d
          have : 1 ≤ d := hdd
          omega)
      have e1 : copied (arrV (G.2.2.1 30) (g_ln u a) (fun j => va_rf ((g_AR u a j).map ad))) (arrV (G.2.2.1 30) (g_ln u b) (fun j => va_rf ((g_AR u b j).map ad))) 0 0 k = arrV (G.2.2.1 30) (g_ln u b) (fun j => va_rf (va_cpy (fun j => (g_AR u a j).map ad) (fun j => (g_AR u b j).map ad) 0 0 k.toNatClampNeg j)) := va_copied (fun z => va_rf z) (G.2.2.1 30) (G.2.2.1 30) (fun j => (g_AR u a j).map ad) (fun j => (g_AR u b j).map ad) (sp := 0) (by rw [Nat.zero_add]; exact h4)
      rw [e1] at X' step
      have hl : ad b < H.size := (Array.getElem?_eq_some_iff.mp j1).1
      generalize hC : arrV (G.2.2.1 30) (g_ln u b) (fun j => va_rf (va_cpy (fun j => (g_AR u a j).map ad) (fun j => (g_AR u b j).map ad) 0 0 k.toNatClampNeg j)) = C1 at X' step
      have oq : ∀ q : Nat, q ≠ ad b → (H.setIfInBounds (ad b) C1)[q]? = H[q]? := fun q hq => by simp [Array.getElem?_setIfInBounds, Ne.symm hq]
      have hR1 : g_Rep G (g_cpS u b (fun i => if i < k.toNatClampNeg then g_AR u a i else g_AR u b i)) ad (H.setIfInBounds (ad b) C1) := by
        refine hR.put halb hbA rfl ⟨rfl, rfl⟩ rfl (fun _ _ _ => rfl) (fun _ _ _ => rfl) (fun _ _ _ => rfl) (fun b w => rfl) (fun b w => rfl) (fun z w => funext fun j => if_neg w) (by simp) oq (by rw [htb]; decide) (fun q' hq' ht' => absurd (ht'.symm.trans htb) (g_apart q' hq' _ g_ar30)) (fun q' hq' ht' => ?_)
        obtain rfl : q' = (30, .object "java/lang/Object", 2, 63) := g_uni (fun q : g_Ar => q.1) g_arrs g_arrs_nd q' hq' _ g_ar30 (by rw [← ht', htb])
        refine ⟨?_, j2, fun hk j hj => ?_⟩
        · rw [show (H.setIfInBounds (ad b) C1)[ad b]? = some C1 by simp [Array.getElem?_setIfInBounds, hl], ← hC]
          refine congrArg some (g_arrV_eq fun j hj => ?_)
          show va_rf (va_cpy _ _ 0 0 _ j) = va_rf (Option.map ad (if b = b then (if j < k.toNatClampNeg then g_AR u a j else g_AR u b j) else g_AR u b j))
          rw [if_pos rfl]
          unfold va_cpy
          by_cases w : j < k.toNatClampNeg
          · simp [w]
          · simp [w]
        · show g_okT _ _ (if b = b then (if j < k.toNatClampNeg then g_AR u a j else g_AR u b j) else g_AR u b j)
          rw [if_pos rfl]
          by_cases w : j < k.toNatClampNeg
          · rw [if_pos w]
            exact k3 rfl j (by omega)
          · rw [if_neg w]
            exact j3 rfl j hj
      have hheap : ((T.setVm vm').setCell (ad b) C1).heap = H.setIfInBounds (ad b) C1 := by rw [← hT]; rfl
      obtain ⟨t, a1, b1⟩ := kk _ h ad (H.setIfInBounds (ad b) C1) _ la hR1 hE hL hS.tl.tl.tl.tl.tl (fun q hq => by
        rcases List.mem_append.mp hq with h | h
        · exact hlo q h
        · obtain ⟨z, -, hz⟩ := List.mem_map.mp h
          rw [← hz]
          exact hbA) hla _ hheap X'
      exact ⟨t, step t a1, b1⟩
theorem d_Ars_copyOf2_0 : decode b_Ars_copyOf2 0 = .ok (.aload_n 2, 1) := by decide +kernel
theorem d_Ars_copyOf2_1 : decode b_Ars_copyOf2 1 = .ok (.ldc 110, 2) := by decide +kernel
theorem d_Ars_copyOf2_3 : decode b_Ars_copyOf2 3 = .ok (.if_acmp .ne 10, 3) := by decide +kernel
theorem d_Ars_copyOf2_6 : decode b_Ars_copyOf2 6 = .ok (.iload_n 1, 1) := by decide +kernel
theorem d_Ars_copyOf2_7 : decode b_Ars_copyOf2 7 = .ok (.anewarray 2, 3) := by decide +kernel
theorem d_Ars_copyOf2_10 : decode b_Ars_copyOf2 10 = .ok (.goto 14, 3) := by decide +kernel
theorem d_Ars_copyOf2_13 : decode b_Ars_copyOf2 13 = .ok (.aload_n 2, 1) := by decide +kernel
theorem d_Ars_copyOf2_17 : decode b_Ars_copyOf2 17 = .ok (.iload_n 1, 1) := by decide +kernel
theorem d_Ars_copyOf2_24 : decode b_Ars_copyOf2 24 = .ok (.astore_n 3, 1) := by decide +kernel
theorem d_Ars_copyOf2_25 : decode b_Ars_copyOf2 25 = .ok (.aload_n 0, 1) := by decide +kernel
theorem d_Ars_copyOf2_26 : decode b_Ars_copyOf2 26 = .ok (.iconst 0, 1) := by decide +kernel
theorem d_Ars_copyOf2_27 : decode b_Ars_copyOf2 27 = .ok (.aload_n 3, 1) := by decide +kernel
theorem d_Ars_copyOf2_28 : decode b_Ars_copyOf2 28 = .ok (.iconst 0, 1) := by decide +kernel
theorem d_Ars_copyOf2_29 : decode b_Ars_copyOf2 29 = .ok (.aload_n 0, 1) := by decide +kernel
theorem d_Ars_copyOf2_30 : decode b_Ars_copyOf2 30 = .ok (.arraylength, 1) := by decide +kernel
theorem d_Ars_copyOf2_31 : decode b_Ars_copyOf2 31 = .ok (.iload_n 1, 1) := by decide +kernel
theorem d_Ars_copyOf2_32 : decode b_Ars_copyOf2 32 = .ok (.invokestatic 304, 3) := by decide +kernel
theorem d_Ars_copyOf2_35 : decode b_Ars_copyOf2 35 = .ok (.invokestatic 150, 3) := by decide +kernel
theorem d_Ars_copyOf2_38 : decode b_Ars_copyOf2 38 = .ok (.aload_n 3, 1) := by decide +kernel
theorem d_Ars_copyOf2_39 : decode b_Ars_copyOf2 39 = .ok (.areturn, 1) := by decide +kernel
theorem d_Ars_copyOf_0 : decode b_Ars_copyOf 0 = .ok (.aload_n 0, 1) := by decide +kernel
theorem d_Ars_copyOf_1 : decode b_Ars_copyOf 1 = .ok (.iload_n 1, 1) := by decide +kernel
theorem d_Ars_copyOf_2 : decode b_Ars_copyOf 2 = .ok (.aload_n 0, 1) := by decide +kernel
theorem d_Ars_copyOf_3 : decode b_Ars_copyOf 3 = .ok (.invokevirtual 86, 3) := by decide +kernel
theorem d_Ars_copyOf_6 : decode b_Ars_copyOf 6 = .ok (.invokestatic 300, 3) := by decide +kernel
theorem d_Ars_copyOf_9 : decode b_Ars_copyOf 9 = .ok (.areturn, 1) := by decide +kernel
def f_Ars_copyOf2 (r : Option Nat) (n : Int32) (u : g_St) : Option (Option Nat × g_St) :=
  g_newA u 30 n fun p s1 => g_lenO s1 r fun i1 => g_cpO s1 r p (if n < i1 then n else i1) fun s2 => some (p, s2)
def f_Ars_copyOf (r : Option Nat) (n : Int32) (u : g_St) : Option (Option Nat × g_St) := match r with
  | none => none
  | some a => if a / 64 = 0 then none else f_Ars_copyOf2 (some a) n u
set_option maxHeartbeats 4000000 in
theorem cR_Ars_copyOf2 (l : Launch) (G : g_G) (a : Nat) (n : Int32) (ad : Nat → Nat) (u : g_St) (o : Option Nat × g_St) (ho : g_okT u 30 (some a)) (h : f_Ars_copyOf2 (some a) n u = some o) : g_ConR l G y_Ars_copyOf2 b_Ars_copyOf2 4 (Option.some (Jvm.ClassFile.FieldType.array (Jvm.ClassFile.FieldType.object "java/lang/Object"))) 7 ad [.ref (ad a), .int n, .ref (g_sa G 43)] u (g_jR 30 o) := by
  refine g_ConR.of (own := "java/util/Arrays") (nm := "copyOf") rfl rfl (by decide +kernel) (Nat.le_of_ble_eq_true rfl) (fun p e s m below meth c la hK hX hla hR => ?_)
  have hW : g_W (p, l, e, s, m, [Value.ref (ad a), .int n, .ref (g_sa G 43)].toArray, below, meth, c, 4, 7, u, ad, G) u [(0, g_r 30 (some a)), (1, g_i n)] [] 6 (g_jR 30 o) := by
    unfold f_Ars_copyOf2 at h
    refine r_iload_n hK d_Ars_copyOf2_6 rfl 1 rfl ?_
    refine r_anewarray hK rfl w4_179 w4_178 ar_30 d_Ars_copyOf2_7 h (fun p9 s1 h => ?_)
    refine r_goto (tgt := 24) hK d_Ars_copyOf2_10 (by decide) ?_
    refine r_astore_n (ls1 := [(3, g_r 30 p9), (0, g_r 30 (some a)), (1, g_i n)]) hK d_Ars_copyOf2_24 rfl (show 3 < 4 by decide) rfl ?_
    refine r_aload_n hK d_Ars_copyOf2_25 rfl 1 rfl ?_
    refine r_iconst (v := 0) hK d_Ars_copyOf2_26 (by decide) ?_
    refine r_aload_n hK d_Ars_copyOf2_27 rfl 0 rfl ?_
    refine r_iconst (v := 0) hK d_Ars_copyOf2_28 (by decide) ?_
    refine r_aload_n hK d_Ars_copyOf2_29 rfl 1 rfl ?_
    refine r_alenO hK d_Ars_copyOf2_30 h (fun i1 h => ?_)
    refine r_iload_n hK d_Ars_copyOf2_31 rfl 2 rfl ?_
    refine r_mmin hK w4_180 (show 1 ≤ 7 by decide) (Nat.le_of_ble_eq_true rfl) d_Ars_copyOf2_32 ?_
    refine r_acpy hK w4_183 (show 1 ≤ 7 by decide) (Nat.le_of_ble_eq_true rfl) d_Ars_copyOf2_35 h (fun s2 h => ?_)
    refine r_aload_n hK d_Ars_copyOf2_38 rfl 0 rfl ?_
    exact r_areturn (Or.inr ⟨_, rfl⟩) hK d_Ars_copyOf2_39 h
  obtain ⟨hx, hb, hml, hown, hts, hKn, hlk, hnm, hret, htr⟩ := hK
  have l2 : la[2]? = some (.val (.ref (g_sa G 43))) := hla.2.2 (2, .ref (g_sa G 43)) (List.mem_cons_of_mem _ (List.mem_cons_of_mem _ List.mem_cons_self))
  refine lv_aload_n hx hb d_Ars_copyOf2_0 rfl l2 ?_
  refine va_ldcM hx hb hown (hts _ w4_177) hKn.2.2.2.2.2.2.2.2.2.2.1 d_Ars_copyOf2_1 ?_
  refine lv_acmp_ne (rx := some (g_sa G 43)) (ry := some (g_sa G 43)) (tgt := 13) hx hb d_Ars_copyOf2_3 (by decide) (fun q => absurd rfl q) (fun _ => ?_)
  have k := hW ad s.heap [] la hR ⟨fun a ha => ⟨ha, rfl⟩, Nat.le_refl _, Nat.le_refl _⟩ (fun q hq => by
    rcases List.mem_cons.mp hq with rfl | hq
    · exact ho
    · rcases List.mem_cons.mp hq with rfl | hq
      · trivial
      · cases hq) (fun v hv => by cases hv) (fun q hq => by cases hq) ⟨hla.1, hla.2.1, fun q hq => ?_⟩
  · rw [Nat.sub_self, Nat.sub_self] at k
    exact k
  · refine hla.2.2 q ?_
    rcases List.mem_cons.mp hq with rfl | hq
    · exact List.mem_cons_self
    · rcases List.mem_cons.mp hq with rfl | hq
      · exact List.mem_cons_of_mem _ List.mem_cons_self
      · cases hq
set_option maxHeartbeats 4000000 in
theorem c_Ars_copyOf (l : Launch) (G : g_G) (r : Option Nat) (n : Int32) (u : g_St) (o : Option Nat × g_St) (h : f_Ars_copyOf r n u = some o) : g_Con l G y_Ars_copyOf b_Ars_copyOf 2 (Option.some (Jvm.ClassFile.FieldType.array (Jvm.ClassFile.FieldType.object "java/lang/Object"))) 8 [g_r 30 r, g_i n] u (g_jR 30 o) := by
  cases r with
  | none => cases h
  | some a =>
    have h0 : ¬ a / 64 = 0 := fun w => by rw [f_Ars_copyOf, if_pos w] at h; cases h
    rw [f_Ars_copyOf, if_neg h0] at h
    refine g_Con.of (own := "java/util/Arrays") (nm := "copyOf") rfl rfl (by decide +kernel) (Nat.le_of_ble_eq_true rfl) (fun K hK hN hD hX => ?_)
    refine r_aload_n hK d_Ars_copyOf_0 rfl 0 rfl ?_
    refine r_iload_n hK d_Ars_copyOf_1 rfl 1 rfl ?_
    refine r_aload_n hK d_Ars_copyOf_2 rfl 0 rfl ?_
    have kk : g_W K o.2 [(0, g_r 30 (some a)), (1, g_i n)] [g_r 30 o.1] 9 (g_jR 30 o) := r_areturn (Or.inr ⟨_, rfl⟩) hK d_Ars_copyOf_9 rfl
    obtain ⟨p, l, e, s, m, args, below, meth, c, nL, d, u0, ad0, G⟩ := K
    have hK9 := hK
    obtain ⟨hx, hb, hml, hown, hts, hKn, hlk, hnm, hret, htr⟩ := hK
    intro ad H locs la hR hE hL hS hlo hla
    have hD9 : d = 8 := hD
    have ho : g_okT u 30 (some a) := hS.hd
    have hta : a % 64 = 30 := by
      rcases (ho a rfl).1 with w | w
      · cases w
      · exact w
    obtain ⟨k1, k2, k3⟩ := hR.2.2.2.2.1 _ g_ar30 a (ho a rfl).2 hta (by show 1 ≤ a / 64; omega)
    refine va_getC hx hb (by rw [hml]; exact hla.1.symm) (C := "[Ljava/lang/Object;") hown (hts _ w4_150) (hts _ w9_237) (hts _ w9_236) (hts _ w4_151) (hts _ w4_173) hKn.2.2.2.2.2.2.2.2.2.2.1 ⟨_, k1, rfl, g_RA_find (hKn.2.1 _ g_ar30).2⟩ (by show 1 ≤ d; omega) (by
      show (([g_i n, g_r 30 (some a)].map (g_v ad)).map fun v => v.category).sum + 14 ≤ 64 * d
      rw [g_cats]
      show 2 + 14 ≤ 64 * d
      omega) d_Ars_copyOf_3 ?_
    exact i_SR hK9 (vs := [.ref (ad a), .int n, .ref (g_sa G 43)]) (ls := [(0, g_r 30 (some a)), (1, g_i n)]) (st := []) w4_175 w4_174 w4_176 w1_27 (by decide) pl_Ars_copyOf2 (by omega) (Nat.le_of_ble_eq_true rfl) d_Ars_copyOf_6 hR hE hL (fun v hv => by cases hv) hlo hla (cR_Ars_copyOf2 _ _ a n _ _ o ho h) kk
