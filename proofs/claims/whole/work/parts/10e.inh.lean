/-! the call of an inherited method on a constant -/
set_option maxHeartbeats 1000000 in
theorem i_VO {K : g_C} {cc : ByteArray} {own nm : String} {ret : Option FieldType} {u : g_St} {ls : List (Nat × g_V)} {st : List g_V} {pc : Nat} {out : g_Out} (hK : g_OK K cc own nm ret) {t b : Nat} {index ny dy : Nat} {y : MethodName} {cy : ByteArray} {ry : Option FieldType} {avL stk : List g_V} {v : Option g_V} {u1 : g_St} {x : MethodName} (ht13 : t = 13) (hin : Cond.instanceMethod y ∈ g_tbl) (hse : Cond.selects "FixpointEngine$Kind" x y ∈ g_tbl) (hsame : Cond.sameMethod x.cls y.cls x.name x.desc ∈ g_tbl) (hdec : Cond.declares y ∈ g_tbl) (hyx : y = ⟨y.cls, x.name, x.desc⟩) 
    (hlink : Cond.methodLink own index x ∈ g_tbl) (hcode : Cond.code y cy ny ry ∈ g_tbl) (hini : Cond.initialized y.cls ∈ g_tbl) (hy : y.cls ≠ "java/lang/invoke/MethodHandle" ∧ y.cls ≠ "java/lang/invoke/VarHandle") (hlen : (parseMethodDescriptor x.desc).map (fun z => z.parameters.length) = some avL.length)
    (hdd : dy + 1 ≤ g_Kd K) (hwd : g_wid st + ny + 11 ≤ 64) (hsk : stk = avL.reverse ++ g_r t (some b) :: st) (hd : decode cc pc = .ok (.invokevirtual index, 3)) (hC : g_Con (g_Kl K) (g_KG K) y cy ny ry dy (g_r t (some b) :: avL) u (.inl v, u1)) (kk : g_W K u1 ls (v.toList ++ st) (pc + 3) out) : g_W K u ls stk pc out := by
  subst hsk
  obtain ⟨p, l, e, s, m, args, below, meth, c, nL, d, u0, ad0, G⟩ := K
  obtain ⟨hx, hb, hml, hown, hts, hKn, hlk, hnm, hret, htr⟩ := hK
  intro ad H locs la hR hE hL hS hlo hla
  intro T hT X
  have hokr := hS.app
  have hok : g_okS u (g_r t (some b) :: avL) := hokr.2.tl.mono (fun _ h => h) |> fun _ => (show g_okS u avL from fun x hx => hokr.1 x (List.mem_reverse.mpr hx)).cons hokr.2.hd
  have hB := g_back (p := p) (l := l) (G := G) (e := e) (s := s) (args := args) (below := below) (u0 := u0) (ad := ad) (d := d) (wd := g_wid st) hC htr hok hKn hE.2 hdd hwd hcode hini
  have hstk : (F0 m pc la ((avL.reverse ++ g_r t (some b) :: st).map (g_v ad))).stack = (avL.map (g_v ad)).reverse ++ .ref (ad b) :: st.map (g_v ad) := by
    show (avL.reverse ++ g_r t (some b) :: st).map (g_v ad) = _
    rw [List.map_append, List.map_reverse]
    rfl
  have hlen2 : ∀ sig, parseMethodDescriptor x.desc = some sig → (avL.map (g_v ad)).length = sig.parameters.length := fun sig hsig => by
    rw [hsig] at hlen
    rw [List.length_map]
    exact (Option.some.inj hlen).symm
  have hwd2 : 2 * (F0 m pc la ((avL.reverse ++ g_r t (some b) :: st).map (g_v ad))).monitorRoom + ((st.map (g_v ad)).map fun v => v.category).sum ≤ g_wid st := by
    rw [g_cats]
    show 2 * 0 + g_wid st ≤ g_wid st
    omega
  have hpre : ∀ vm1, s.WarmedH vm1 → (Value.ref (ad b) :: avL.map (g_v ad)).toArray = ((g_r t (some b) :: avL).map (g_v ad)).toArray ∧ g_Rep G u ad ((T.setVm vm1 : State)).heap ∧ g_cn u - g_cn u0 = g_cn u - g_cn u0 ∧ g_sn u - g_sn u0 = g_sn u - g_sn u0 := fun vm1 _ => ⟨rfl, by show g_Rep G u ad T.heap; rw [hT]; exact hR, rfl, rfl⟩
  obtain ⟨hb1, hb2⟩ := hokr.2.hd b rfl
  have htb : b % 64 = 13 := by
    rcases hb1 with z | z
    · rw [ht13] at z; cases z
    · rw [← ht13]; exact z
  have hlt : b / 64 < 40 := by
    have h9 := hR.2.2.2.2.2.2.2.2 13 (by decide)
    have hb3 := hb2
    unfold g_al at hb3
    rw [htb, h9] at hb3
    exact hb3
  obtain ⟨cell, c1, c2, c3, c4⟩ := hKn.2.2.2.2.1 (b, "FixpointEngine$Kind") (List.mem_append_left _ (List.mem_map.mpr ⟨b / 64, List.mem_range.mpr hlt, by rw [show b / 64 * 64 + 13 = b by omega]⟩))
  have hsa : ad b = g_sa G b := (hR.2.2.1 b hb2).2.2 (by rw [htb]; exact hlt)
  have q1 : H[ad b]? = some cell := by
    rw [hsa, hR.1.2 _ (Nat.not_le.mp c4)]
    exact c1
  have := va_callVU X hx (C := "FixpointEngine$Kind") (owner := y.cls) hown (hts _ hlink) (hts _ hsame) (by rw [← hyx]; exact va_Decl.abs (hKn.2.2.1 _ hdec #[])) hy (hts _ hse) (hts _ hin) (hts _ hcode) hB (b := ad b) (cellB := cell) (by rw [hT]; exact q1) c2 c3 (g := F0 m pc la ((avL.reverse ++ g_r t (some b) :: st).map (g_v ad))) rfl (by rw [hml]; exact hla.1) hlen2 hstk hwd2 (by rw [hb]; exact hd) hpre
  obtain ⟨w, vm1, B, hW1, X1, ⟨ad1, e1, hR1, hE1, hv1, hB1, hB2, L, hL1, hL2⟩, hst⟩ := this
  have ha1 : ∀ a, g_al u a → ad1 a = ad a := fun a ha => (hE1.1 a ha).2
  have hmo : ∀ a, g_al u a → g_al u1 a := fun a ha => (hE1.1 a ha).1
  have hSt : g_okS u st := hokr.2.tl
  have k9 := kk ad1 B.U.heap B.locs la hR1 (hE.trans hE1) (hL.mono hmo) (fun x hx => by
    rcases List.mem_append.mp hx with z | z
    · exact hv1 x (Option.mem_toList.mp z)
    · exact (hSt x z).mono hmo) (fun q hq => by
    rw [hL1] at hq
    rcases List.mem_append.mp hq with z | z
    · exact hlo q z
    · exact hL2 q z) (by rw [g_ls_eq ha1 hL]; exact hla)
  rw [← hB1, ← hB2] at k9
  obtain ⟨t9, a9, b9⟩ := k9 B.U rfl X1
  refine ⟨t9, hst t9 ?_, b9⟩
  rw [List.map_append, g_st_eq ha1 hSt] at a9
  rw [e1]
  have e9 : (v.map (g_v ad1)).toList = v.toList.map (g_v ad1) := by cases v <;> rfl
  rw [e9]
  exact a9
theorem r_VOi {K : g_C} {cc : ByteArray} {own nm : String} {ret : Option FieldType} {u : g_St} {ls : List (Nat × g_V)} {st : List g_V} {pc : Nat} {out : g_Out} (hK : g_OK K cc own nm ret) {α : Type} {o : α} {r : Option Nat} {index ny dy : Nat} {x y : MethodName} {cy : ByteArray} {ry : Option FieldType} {Y : Option (Int32 × g_St)} {F : Int32 → g_St → Option α} (hin : Cond.instanceMethod y ∈ g_tbl) (hse : Cond.selects "FixpointEngine$Kind" x y ∈ g_tbl) (hsame : Cond.sameMethod x.cls y.cls x.name x.desc ∈ g_tbl) (hdec : Cond.declares y ∈ g_tbl) (hyx : y = ⟨y.cls, x.name, x.desc⟩) (hlink : Cond.methodLink own index x ∈ g_tbl) (hcode : Cond.code y cy ny ry ∈ g_tbl) (hini : Cond.initialized y.cls ∈ g_tbl) (hy : y.cls ≠ "java/lang/invoke/MethodHandle" ∧ y.cls ≠ "java/lang/invoke/VarHandle") (hlen : (parseMethodDescriptor x.desc).map (fun z => z.parameters.length) = some 0)
    (hdd : dy + 1 ≤ g_Kd K) (hwd : g_wid st + ny + 11 ≤ 64) (hd : decode cc pc = .ok (.invokevirtual index, 3)) (hC : ∀ o', Y = some o' → g_Con (g_Kl K) (g_KG K) y cy ny ry dy [g_r 13 r] u (g_jI o')) (h : g_c (g_nn r Y) F = some o) (kk : ∀ x u1, F x u1 = some o → g_W K u1 ls (g_i x :: st) (pc + 3) out) : g_W K u ls (g_r 13 r :: st) pc out := by
  cases r with
  | none => exact absurd h (by simp [g_c, g_nn])
  | some b =>
    cases hY : Y with
    | none => rw [hY] at h; exact absurd h (by simp [g_c, g_nn])
    | some o' =>
      rw [hY] at h
      obtain ⟨x, u1⟩ := o'
      exact i_VO hK (avL := []) rfl hin hse hsame hdec hyx hlink hcode hini hy hlen hdd hwd rfl hd (hC _ hY) (kk x u1 h)
