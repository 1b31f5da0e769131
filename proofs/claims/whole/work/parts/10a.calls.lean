/-! CALLS -/
set_option maxHeartbeats 1000000 in
/-- a callee that returns, for a walk's own call -/
theorem g_back {p : Program} {l : Launch} {e : Env} {s : State} {args : Array Value} {below : List Frame} {G : g_G} {u0 u : g_St} {ad : Nat → Nat} {y : MethodName} {cy : ByteArray} {ny : Nat} {ry : Option FieldType} {d dy wd : Nat} {av : List g_V} {v : Option g_V} {u1 : g_St}
    (hC : g_Con l G y cy ny ry dy av u (.inl v, u1)) (htr : l.stackTraces = false) (hok : g_okS u av) (hKn : g_Kn G s) (hE : g_cn u0 ≤ g_cn u ∧ g_sn u0 ≤ g_sn u) (hdd : dy + 1 ≤ d) (hw : wd + ny + 11 ≤ 64) (hcode : Cond.code y cy ny ry ∈ g_tbl) (hini : Cond.initialized y.cls ∈ g_tbl) :
    Back l (g_room d u0) p e below s args y 3 wd
      (fun A a => a = (av.map (g_v ad)).toArray ∧ g_Rep G u ad A.U.heap ∧ A.cells = g_cn u - g_cn u0 ∧ A.slots = g_sn u - g_sn u0)
      (fun A _ w B => ∃ ad1, w = v.map (g_v ad1) ∧ g_Rep G u1 ad1 B.U.heap ∧ g_Le u ad u1 ad1 ∧ (∀ x, v = some x → g_okV u1 x) ∧ B.cells = g_cn u1 - g_cn u0 ∧ B.slots = g_sn u1 - g_sn u0 ∧ ∃ L, B.locs = A.locs ++ L ∧ ∀ q ∈ L, g_b0 G ≤ q.base) := by
  refine Back.of_free (S := headSpec [Cond.code y cy ny ry] (g_room dy u)) (K := fun _ _ _ _ _ => True) (bytes := cy) (maxL := ny) (ret := ry) (E := fun a st o t L k n => k = g_cn u1 - g_cn u ∧ n = g_sn u1 - g_sn u ∧ (∃ ad1, o = .returned (v.map (g_v ad1)) ∧ g_Rep G u1 ad1 t.heap ∧ g_Le u ad u1 ad1 ∧ ∀ w, v = some w → g_okV u1 w) ∧ ∀ q ∈ L, g_b0 G ≤ q.base) (hC ad htr hok) ?_ ?_ ?_ ?_ (fun _ _ _ _ _ _ _ _ _ => trivial) ?_ ?_
  · exact hdd
  · show wd + (ny + 11) + 64 * dy ≤ 64 * d
    omega
  · intro m meth c A a X hp
    have hm := hKn.moved X.warmed
    have h6 := hp.2.1.2.2.2.2.2.1
    have h7 := hp.2.1.2.2.2.2.2.2.1
    refine ⟨atoms_intro fun w hw => by rw [List.mem_singleton.mp hw]; exact hm.2.2.1 _ hcode _, hm.2.2.1 _ hcode _, hm.2.2.1 _ hini _, ?_, ?_⟩
    · show A.cells + (g_LC - g_cn u) ≤ g_LC - g_cn u0
      rw [hp.2.2.1]
      omega
    · show A.slots + (g_LS - g_sn u) ≤ g_LS - g_sn u0
      rw [hp.2.2.2]
      omega
  · intro m meth c A a g mk X hp
    have hm := hKn.moved X.warmed
    exact ⟨hp.1, hp.2.1, g_Kn.moved (U := A.U.calling g mk a) (State.WarmedH.refl A.U) hm⟩
  · intro a first o t hq
    obtain ⟨⟨ad1, h1, h2, h3, h4⟩, hW, L, h5, h6⟩ := hq
    exact ⟨L, _, _, ⟨⟨_, h1⟩, hW, h5⟩, rfl, rfl, ⟨ad1, h1, h2, h3, h4⟩, h6⟩
  · intro m meth c A a g mk w t L k n X hp hq hF hEE
    obtain ⟨rfl, rfl, ⟨ad1, h1, h2, h3, h4⟩, h6⟩ := hEE
    refine ⟨ad1, by cases h1; rfl, h2, h3, h4, ?_, ?_, L, rfl, h6⟩
    · show A.cells + (g_cn u1 - g_cn u) = g_cn u1 - g_cn u0
      have := h3.2.1
      rw [hp.2.2.1]
      omega
    · show A.slots + (g_sn u1 - g_sn u) = g_sn u1 - g_sn u0
      have := h3.2.2
      rw [hp.2.2.2]
      omega
theorem g_Le.trans {u0 u u1 : g_St} {ad0 ad ad1 : Nat → Nat} (h : g_Le u0 ad0 u ad) (k : g_Le u ad u1 ad1) : g_Le u0 ad0 u1 ad1 :=
  ⟨fun a ha => ⟨(k.1 a (h.1 a ha).1).1, ((k.1 a (h.1 a ha).1).2).trans (h.1 a ha).2⟩, Nat.le_trans h.2.1 k.2.1, Nat.le_trans h.2.2 k.2.2⟩
set_option maxHeartbeats 1000000 in
theorem i_V {K : g_C} {cc : ByteArray} {own nm : String} {ret : Option FieldType} {u : g_St} {ls : List (Nat × g_V)} {st : List g_V} {pc : Nat} {out : g_Out} (hK : g_OK K cc own nm ret) {t b : Nat} {index ny dy : Nat} {y : MethodName} {cy : ByteArray} {ry : Option FieldType} {avL stk : List g_V} {v : Option g_V} {u1 : g_St} {q : g_O} (hq : q ∈ g_objs) (eq1 : q.1 = t) (hin : Cond.instanceMethod y ∈ g_tbl) (hse : Cond.selects q.2.1.1 y y ∈ g_tbl) 
    (hlink : Cond.methodLink own index y ∈ g_tbl) (hcode : Cond.code y cy ny ry ∈ g_tbl) (hini : Cond.initialized y.cls ∈ g_tbl) (hy : y.cls ≠ "java/lang/invoke/MethodHandle" ∧ y.cls ≠ "java/lang/invoke/VarHandle") (hlen : (parseMethodDescriptor y.desc).map (fun z => z.parameters.length) = some avL.length)
    (hdd : dy + 1 ≤ g_Kd K) (hwd : g_wid st + ny + 11 ≤ 64) (hsk : stk = avL.reverse ++ g_r t (some b) :: st) (hd : decode cc pc = .ok (.invokevirtual index, 3)) (hC : g_Con (g_Kl K) (g_KG K) y cy ny ry dy (g_r t (some b) :: avL) u (.inl v, u1)) (kk : g_W K u1 ls (v.toList ++ st) (pc + 3) out) : g_W K u ls stk pc out := by
  subst hsk
  obtain ⟨p, l, e, s, m, args, below, meth, c, nL, d, u0, ad0, G⟩ := K
  obtain ⟨hx, hb, hml, hown, hts, hKn, hlk, hnm, hret, htr⟩ := hK
  intro ad H locs la hR hE hL hS hlo hla
  intro T hT X
  have hokr := hS.app
  have hok : g_okS u (g_r t (some b) :: avL) := hokr.2.tl.mono (fun _ h => h) |> fun _ => (show g_okS u avL from fun x hx => hokr.1 x (List.mem_reverse.mpr hx)).cons hokr.2.hd
  have hB := g_back (p := p) (l := l) (G := G) (e := e) (s := s) (args := args) (below := below) (u0 := u0) (ad := ad) (d := d) (wd := g_wid st) hC htr hok hKn hE.2 hdd hwd hcode hini
  have hstk : (F0 m pc la ((avL.reverse ++ g_r t (some b) :: st).map (g_v ad))).stack = (avL.map (g_v ad)).reverse ++ .ref (ad b) :: st.map (g_v ad) := by
    show (avL.reverse ++ g_r t (some b) :: st).map (g_v ad) = _
    rw [List.map_append, List.map_reverse]
    rfl
  have hlen2 : ∀ sig, parseMethodDescriptor y.desc = some sig → (avL.map (g_v ad)).length = sig.parameters.length := fun sig hsig => by
    rw [hsig] at hlen
    rw [List.length_map]
    exact (Option.some.inj hlen).symm
  have hwd2 : 2 * (F0 m pc la ((avL.reverse ++ g_r t (some b) :: st).map (g_v ad))).monitorRoom + ((st.map (g_v ad)).map fun v => v.category).sum ≤ g_wid st := by
    rw [g_cats]
    show 2 * 0 + g_wid st ≤ g_wid st
    omega
  have hpre : ∀ vm1, s.WarmedH vm1 → (Value.ref (ad b) :: avL.map (g_v ad)).toArray = ((g_r t (some b) :: avL).map (g_v ad)).toArray ∧ g_Rep G u ad ((T.setVm vm1 : State)).heap ∧ g_cn u - g_cn u0 = g_cn u - g_cn u0 ∧ g_sn u - g_sn u0 = g_sn u - g_sn u0 := fun vm1 _ => ⟨rfl, by show g_Rep G u ad T.heap; rw [hT]; exact hR, rfl, rfl⟩
  obtain ⟨hb1, hb2⟩ := hokr.2.hd b rfl
  have htb : b % 64 = q.1 := by
    rcases hb1 with z | z
    · have := g_objs_lt q hq
      omega
    · rw [eq1]; exact z
  obtain ⟨⟨cell, q1, q2, q3, -⟩, -⟩ := hR.2.2.2.1 q hq b hb2 htb
  have hfc := (hKn.1 q hq).1.2.1
  have := callV X hx (C := q.2.1.1) hown (hts _ hlink) (hts _ hin) (hts _ hse) (hts _ hcode) hy hB (b := ad b) (cellB := cell) (by rw [hT]; exact q1) (by rw [q3]; rfl) (by rw [q2]; exact hfc) (g := F0 m pc la ((avL.reverse ++ g_r t (some b) :: st).map (g_v ad))) rfl (by rw [hml]; exact hla.1) hlen2 hstk hwd2 (by rw [hb]; exact hd) hpre
  obtain ⟨w, vm1, B, hW1, X1, ⟨ad1, e1, hR1, hE1, hv1, hB1, hB2, L, hL1, hL2⟩, hst⟩ := this
  have ha1 : ∀ a, g_al u a → ad1 a = ad a := fun a ha => (hE1.1 a ha).2
  have hmo : ∀ a, g_al u a → g_al u1 a := fun a ha => (hE1.1 a ha).1
  have hSt : g_okS u st := hokr.2.tl
  have k9 := kk ad1 B.U.heap B.locs la hR1 (hE.trans hE1) (hL.mono hmo) (fun x hx => by
    rcases List.mem_append.mp hx with z | z
    · exact hv1 x (Option.mem_toList.mp z)
    · exact (hSt x z).mono hmo) (fun q hq => by
    rw [hL1] at hq
    rcases List.mem_append.mp hq with z | z
    · exact hlo q z
    · exact hL2 q z) (by rw [g_ls_eq ha1 hL]; exact hla)
  rw [← hB1, ← hB2] at k9
  obtain ⟨t9, a9, b9⟩ := k9 B.U rfl X1
  refine ⟨t9, hst t9 ?_, b9⟩
  rw [List.map_append, g_st_eq ha1 hSt] at a9
  rw [e1]
  have e9 : (v.map (g_v ad1)).toList = v.toList.map (g_v ad1) := by cases v <;> rfl
  rw [e9]
  exact a9
set_option maxHeartbeats 1000000 in
theorem i_VN {K : g_C} {cc : ByteArray} {own nm : String} {ret : Option FieldType} {u : g_St} {ls : List (Nat × g_V)} {st : List g_V} {pc : Nat} {out : g_Out} (hK : g_OK K cc own nm ret) {t b : Nat} {index ny dy : Nat} {host : String} {y : MethodName} {cy : ByteArray} {ry : Option FieldType} {avL stk : List g_V} {v : Option g_V} {u1 : g_St} {q : g_O} (hq : q ∈ g_objs) (eq1 : q.1 = t) (hin : Cond.instanceMethod y ∈ g_tbl) (hse : Cond.selects q.2.1.1 y y ∈ g_tbl) 
    (hlink : Cond.methodLinkNest own index y host ∈ g_tbl) (hcode : Cond.code y cy ny ry ∈ g_tbl) (hini : Cond.initialized y.cls ∈ g_tbl) (hy : y.cls ≠ "java/lang/invoke/MethodHandle" ∧ y.cls ≠ "java/lang/invoke/VarHandle") (hlen : (parseMethodDescriptor y.desc).map (fun z => z.parameters.length) = some avL.length)
    (hdd : dy + 1 ≤ g_Kd K) (hwd : g_wid st + ny + 11 ≤ 64) (hsk : stk = avL.reverse ++ g_r t (some b) :: st) (hd : decode cc pc = .ok (.invokevirtual index, 3)) (hC : g_Con (g_Kl K) (g_KG K) y cy ny ry dy (g_r t (some b) :: avL) u (.inl v, u1)) (kk : g_W K u1 ls (v.toList ++ st) (pc + 3) out) : g_W K u ls stk pc out := by
  subst hsk
  obtain ⟨p, l, e, s, m, args, below, meth, c, nL, d, u0, ad0, G⟩ := K
  obtain ⟨hx, hb, hml, hown, hts, hKn, hlk, hnm, hret, htr⟩ := hK
  intro ad H locs la hR hE hL hS hlo hla
  intro T hT X
  have hokr := hS.app
  have hok : g_okS u (g_r t (some b) :: avL) := hokr.2.tl.mono (fun _ h => h) |> fun _ => (show g_okS u avL from fun x hx => hokr.1 x (List.mem_reverse.mpr hx)).cons hokr.2.hd
  have hB := g_back (p := p) (l := l) (G := G) (e := e) (s := s) (args := args) (below := below) (u0 := u0) (ad := ad) (d := d) (wd := g_wid st) hC htr hok hKn hE.2 hdd hwd hcode hini
  have hstk : (F0 m pc la ((avL.reverse ++ g_r t (some b) :: st).map (g_v ad))).stack = (avL.map (g_v ad)).reverse ++ .ref (ad b) :: st.map (g_v ad) := by
    show (avL.reverse ++ g_r t (some b) :: st).map (g_v ad) = _
    rw [List.map_append, List.map_reverse]
    rfl
  have hlen2 : ∀ sig, parseMethodDescriptor y.desc = some sig → (avL.map (g_v ad)).length = sig.parameters.length := fun sig hsig => by
    rw [hsig] at hlen
    rw [List.length_map]
    exact (Option.some.inj hlen).symm
  have hwd2 : 2 * (F0 m pc la ((avL.reverse ++ g_r t (some b) :: st).map (g_v ad))).monitorRoom + ((st.map (g_v ad)).map fun v => v.category).sum ≤ g_wid st := by
    rw [g_cats]
    show 2 * 0 + g_wid st ≤ g_wid st
    omega
  have hpre : ∀ vm1, s.WarmedH vm1 → (Value.ref (ad b) :: avL.map (g_v ad)).toArray = ((g_r t (some b) :: avL).map (g_v ad)).toArray ∧ g_Rep G u ad ((T.setVm vm1 : State)).heap ∧ g_cn u - g_cn u0 = g_cn u - g_cn u0 ∧ g_sn u - g_sn u0 = g_sn u - g_sn u0 := fun vm1 _ => ⟨rfl, by show g_Rep G u ad T.heap; rw [hT]; exact hR, rfl, rfl⟩
  obtain ⟨hb1, hb2⟩ := hokr.2.hd b rfl
  have htb : b % 64 = q.1 := by
    rcases hb1 with z | z
    · have := g_objs_lt q hq
      omega
    · rw [eq1]; exact z
  obtain ⟨⟨cell, q1, q2, q3, -⟩, -⟩ := hR.2.2.2.1 q hq b hb2 htb
  have hfc := (hKn.1 q hq).1.2.1
  have := va_callVN X hx (C := q.2.1.1) hown (hts _ hlink) (hts _ hin) (hts _ hse) (hts _ hcode) hy hB (b := ad b) (cellB := cell) (by rw [hT]; exact q1) (by rw [q3]; rfl) (by rw [q2]; exact hfc) (g := F0 m pc la ((avL.reverse ++ g_r t (some b) :: st).map (g_v ad))) rfl (by rw [hml]; exact hla.1) hlen2 hstk hwd2 (by rw [hb]; exact hd) hpre
  obtain ⟨w, vm1, B, hW1, X1, ⟨ad1, e1, hR1, hE1, hv1, hB1, hB2, L, hL1, hL2⟩, hst⟩ := this
  have ha1 : ∀ a, g_al u a → ad1 a = ad a := fun a ha => (hE1.1 a ha).2
  have hmo : ∀ a, g_al u a → g_al u1 a := fun a ha => (hE1.1 a ha).1
  have hSt : g_okS u st := hokr.2.tl
  have k9 := kk ad1 B.U.heap B.locs la hR1 (hE.trans hE1) (hL.mono hmo) (fun x hx => by
    rcases List.mem_append.mp hx with z | z
    · exact hv1 x (Option.mem_toList.mp z)
    · exact (hSt x z).mono hmo) (fun q hq => by
    rw [hL1] at hq
    rcases List.mem_append.mp hq with z | z
    · exact hlo q z
    · exact hL2 q z) (by rw [g_ls_eq ha1 hL]; exact hla)
  rw [← hB1, ← hB2] at k9
  obtain ⟨t9, a9, b9⟩ := k9 B.U rfl X1
  refine ⟨t9, hst t9 ?_, b9⟩
  rw [List.map_append, g_st_eq ha1 hSt] at a9
  rw [e1]
  have e9 : (v.map (g_v ad1)).toList = v.toList.map (g_v ad1) := by cases v <;> rfl
  rw [e9]
  exact a9
set_option maxHeartbeats 1000000 in
theorem i_S {K : g_C} {cc : ByteArray} {own nm : String} {ret : Option FieldType} {u : g_St} {ls : List (Nat × g_V)} {st : List g_V} {pc : Nat} {out : g_Out} (hK : g_OK K cc own nm ret) {index ny dy : Nat} {y : MethodName} {cy : ByteArray} {ry : Option FieldType} {avL stk : List g_V} {v : Option g_V} {u1 : g_St} (hsta : Cond.static y ∈ g_tbl) 
    (hlink : Cond.methodLink own index y ∈ g_tbl) (hcode : Cond.code y cy ny ry ∈ g_tbl) (hini : Cond.initialized y.cls ∈ g_tbl) (hy : y.cls ≠ "java/lang/invoke/MethodHandle" ∧ y.cls ≠ "java/lang/invoke/VarHandle") (hlen : (parseMethodDescriptor y.desc).map (fun z => z.parameters.length) = some avL.length)
    (hdd : dy + 1 ≤ g_Kd K) (hwd : g_wid st + ny + 11 ≤ 64) (hsk : stk = avL.reverse ++ st) (hd : decode cc pc = .ok (.invokestatic index, 3)) (hC : g_Con (g_Kl K) (g_KG K) y cy ny ry dy avL u (.inl v, u1)) (kk : g_W K u1 ls (v.toList ++ st) (pc + 3) out) : g_W K u ls stk pc out := by
  subst hsk
  obtain ⟨p, l, e, s, m, args, below, meth, c, nL, d, u0, ad0, G⟩ := K
  obtain ⟨hx, hb, hml, hown, hts, hKn, hlk, hnm, hret, htr⟩ := hK
  intro ad H locs la hR hE hL hS hlo hla
  intro T hT X
  have hokr := hS.app
  have hok : g_okS u avL := fun x hx => hokr.1 x (List.mem_reverse.mpr hx)
  have hB := g_back (p := p) (l := l) (G := G) (e := e) (s := s) (args := args) (below := below) (u0 := u0) (ad := ad) (d := d) (wd := g_wid st) hC htr hok hKn hE.2 hdd hwd hcode hini
  have hstk : (F0 m pc la ((avL.reverse ++ st).map (g_v ad))).stack = (avL.map (g_v ad)).reverse ++ st.map (g_v ad) := by
    show (avL.reverse ++ st).map (g_v ad) = _
    rw [List.map_append, List.map_reverse]
  have hlen2 : ∀ sig, parseMethodDescriptor y.desc = some sig → (avL.map (g_v ad)).length = sig.parameters.length := fun sig hsig => by
    rw [hsig] at hlen
    rw [List.length_map]
    exact (Option.some.inj hlen).symm
  have hwd2 : 2 * (F0 m pc la ((avL.reverse ++ st).map (g_v ad))).monitorRoom + ((st.map (g_v ad)).map fun v => v.category).sum ≤ g_wid st := by
    rw [g_cats]
    show 2 * 0 + g_wid st ≤ g_wid st
    omega
  have hpre : ∀ vm1, s.WarmedH vm1 → (avL.map (g_v ad)).toArray = (avL.map (g_v ad)).toArray ∧ g_Rep G u ad ((T.setVm vm1 : State)).heap ∧ g_cn u - g_cn u0 = g_cn u - g_cn u0 ∧ g_sn u - g_sn u0 = g_sn u - g_sn u0 := fun vm1 _ => ⟨rfl, by show g_Rep G u ad T.heap; rw [hT]; exact hR, rfl, rfl⟩
  have := callS X hx hown (hts _ hlink) (hts _ hsta) (hts _ hini) (hts _ hcode) hy hB (g := F0 m pc la ((avL.reverse ++ st).map (g_v ad))) rfl (by rw [hml]; exact hla.1) hlen2 hstk hwd2 (by rw [hb]; exact hd) hpre
  obtain ⟨w, vm1, B, hW1, X1, ⟨ad1, e1, hR1, hE1, hv1, hB1, hB2, L, hL1, hL2⟩, hst⟩ := this
  have ha1 : ∀ a, g_al u a → ad1 a = ad a := fun a ha => (hE1.1 a ha).2
  have hmo : ∀ a, g_al u a → g_al u1 a := fun a ha => (hE1.1 a ha).1
  have hSt : g_okS u st := hokr.2
  have k9 := kk ad1 B.U.heap B.locs la hR1 (hE.trans hE1) (hL.mono hmo) (fun x hx => by
    rcases List.mem_append.mp hx with z | z
    · exact hv1 x (Option.mem_toList.mp z)
    · exact (hSt x z).mono hmo) (fun q hq => by
    rw [hL1] at hq
    rcases List.mem_append.mp hq with z | z
    · exact hlo q z
    · exact hL2 q z) (by rw [g_ls_eq ha1 hL]; exact hla)
  rw [← hB1, ← hB2] at k9
  obtain ⟨t9, a9, b9⟩ := k9 B.U rfl X1
  refine ⟨t9, hst t9 ?_, b9⟩
  rw [List.map_append, g_st_eq ha1 hSt] at a9
  rw [e1]
  have e9 : (v.map (g_v ad1)).toList = v.toList.map (g_v ad1) := by cases v <;> rfl
  rw [e9]
  exact a9
set_option maxHeartbeats 1000000 in
theorem i_SN {K : g_C} {cc : ByteArray} {own nm : String} {ret : Option FieldType} {u : g_St} {ls : List (Nat × g_V)} {st : List g_V} {pc : Nat} {out : g_Out} (hK : g_OK K cc own nm ret) {index ny dy : Nat} {host : String} {y : MethodName} {cy : ByteArray} {ry : Option FieldType} {avL stk : List g_V} {v : Option g_V} {u1 : g_St} (hsta : Cond.static y ∈ g_tbl) 
    (hlink : Cond.methodLinkNest own index y host ∈ g_tbl) (hcode : Cond.code y cy ny ry ∈ g_tbl) (hini : Cond.initialized y.cls ∈ g_tbl) (hy : y.cls ≠ "java/lang/invoke/MethodHandle" ∧ y.cls ≠ "java/lang/invoke/VarHandle") (hlen : (parseMethodDescriptor y.desc).map (fun z => z.parameters.length) = some avL.length)
    (hdd : dy + 1 ≤ g_Kd K) (hwd : g_wid st + ny + 11 ≤ 64) (hsk : stk = avL.reverse ++ st) (hd : decode cc pc = .ok (.invokestatic index, 3)) (hC : g_Con (g_Kl K) (g_KG K) y cy ny ry dy avL u (.inl v, u1)) (kk : g_W K u1 ls (v.toList ++ st) (pc + 3) out) : g_W K u ls stk pc out := by
  subst hsk
  obtain ⟨p, l, e, s, m, args, below, meth, c, nL, d, u0, ad0, G⟩ := K
  obtain ⟨hx, hb, hml, hown, hts, hKn, hlk, hnm, hret, htr⟩ := hK
  intro ad H locs la hR hE hL hS hlo hla
  intro T hT X
  have hokr := hS.app
  have hok : g_okS u avL := fun x hx => hokr.1 x (List.mem_reverse.mpr hx)
  have hB := g_back (p := p) (l := l) (G := G) (e := e) (s := s) (args := args) (below := below) (u0 := u0) (ad := ad) (d := d) (wd := g_wid st) hC htr hok hKn hE.2 hdd hwd hcode hini
  have hstk : (F0 m pc la ((avL.reverse ++ st).map (g_v ad))).stack = (avL.map (g_v ad)).reverse ++ st.map (g_v ad) := by
    show (avL.reverse ++ st).map (g_v ad) = _
    rw [List.map_append, List.map_reverse]
  have hlen2 : ∀ sig, parseMethodDescriptor y.desc = some sig → (avL.map (g_v ad)).length = sig.parameters.length := fun sig hsig => by
    rw [hsig] at hlen
    rw [List.length_map]
    exact (Option.some.inj hlen).symm
  have hwd2 : 2 * (F0 m pc la ((avL.reverse ++ st).map (g_v ad))).monitorRoom + ((st.map (g_v ad)).map fun v => v.category).sum ≤ g_wid st := by
    rw [g_cats]
    show 2 * 0 + g_wid st ≤ g_wid st
    omega
  have hpre : ∀ vm1, s.WarmedH vm1 → (avL.map (g_v ad)).toArray = (avL.map (g_v ad)).toArray ∧ g_Rep G u ad ((T.setVm vm1 : State)).heap ∧ g_cn u - g_cn u0 = g_cn u - g_cn u0 ∧ g_sn u - g_sn u0 = g_sn u - g_sn u0 := fun vm1 _ => ⟨rfl, by show g_Rep G u ad T.heap; rw [hT]; exact hR, rfl, rfl⟩
  have := va_callSN X hx hown (hts _ hlink) (hts _ hsta) (hts _ hini) (hts _ hcode) hy hB (g := F0 m pc la ((avL.reverse ++ st).map (g_v ad))) rfl (by rw [hml]; exact hla.1) hlen2 hstk hwd2 (by rw [hb]; exact hd) hpre
  obtain ⟨w, vm1, B, hW1, X1, ⟨ad1, e1, hR1, hE1, hv1, hB1, hB2, L, hL1, hL2⟩, hst⟩ := this
  have ha1 : ∀ a, g_al u a → ad1 a = ad a := fun a ha => (hE1.1 a ha).2
  have hmo : ∀ a, g_al u a → g_al u1 a := fun a ha => (hE1.1 a ha).1
  have hSt : g_okS u st := hokr.2
  have k9 := kk ad1 B.U.heap B.locs la hR1 (hE.trans hE1) (hL.mono hmo) (fun x hx => by
    rcases List.mem_append.mp hx with z | z
    · exact hv1 x (Option.mem_toList.mp z)
    · exact (hSt x z).mono hmo) (fun q hq => by
    rw [hL1] at hq
    rcases List.mem_append.mp hq with z | z
    · exact hlo q z
    · exact hL2 q z) (by rw [g_ls_eq ha1 hL]; exact hla)
  rw [← hB1, ← hB2] at k9
  obtain ⟨t9, a9, b9⟩ := k9 B.U rfl X1
  refine ⟨t9, hst t9 ?_, b9⟩
  rw [List.map_append, g_st_eq ha1 hSt] at a9
  rw [e1]
  have e9 : (v.map (g_v ad1)).toList = v.toList.map (g_v ad1) := by cases v <;> rfl
  rw [e9]
  exact a9
set_option maxHeartbeats 1000000 in
theorem i_I {K : g_C} {cc : ByteArray} {own nm : String} {ret : Option FieldType} {u : g_St} {ls : List (Nat × g_V)} {st : List g_V} {pc : Nat} {out : g_Out} (hK : g_OK K cc own nm ret) {t b : Nat} {index ny dy : Nat} {y : MethodName} {cy : ByteArray} {avL stk : List g_V} {v : Option g_V} {u1 : g_St} (hy1 : y.name = "<init>") (hin : Cond.instanceMethod y ∈ g_tbl) 
    (hlink : Cond.methodLink own index y ∈ g_tbl) (hcode : Cond.code y cy ny none ∈ g_tbl) (hini : Cond.initialized y.cls ∈ g_tbl) (hy : y.cls ≠ "java/lang/invoke/MethodHandle" ∧ y.cls ≠ "java/lang/invoke/VarHandle") (hlen : (parseMethodDescriptor y.desc).map (fun z => z.parameters.length) = some avL.length)
    (hdd : dy + 1 ≤ g_Kd K) (hwd : g_wid st + ny + 11 ≤ 64) (hsk : stk = avL.reverse ++ g_r t (some b) :: st) (hd : decode cc pc = .ok (.invokespecial index, 3)) (hC : g_Con (g_Kl K) (g_KG K) y cy ny none dy (g_r t (some b) :: avL) u (.inl v, u1)) (kk : g_W K u1 ls (v.toList ++ st) (pc + 3) out) : g_W K u ls stk pc out := by
  subst hsk
  obtain ⟨p, l, e, s, m, args, below, meth, c, nL, d, u0, ad0, G⟩ := K
  obtain ⟨hx, hb, hml, hown, hts, hKn, hlk, hnm, hret, htr⟩ := hK
  intro ad H locs la hR hE hL hS hlo hla
  intro T hT X
  have hokr := hS.app
  have hok : g_okS u (g_r t (some b) :: avL) := hokr.2.tl.mono (fun _ h => h) |> fun _ => (show g_okS u avL from fun x hx => hokr.1 x (List.mem_reverse.mpr hx)).cons hokr.2.hd
  have hB := g_back (p := p) (l := l) (G := G) (e := e) (s := s) (args := args) (below := below) (u0 := u0) (ad := ad) (d := d) (wd := g_wid st) hC htr hok hKn hE.2 hdd hwd hcode hini
  have hstk : (F0 m pc la ((avL.reverse ++ g_r t (some b) :: st).map (g_v ad))).stack = (avL.map (g_v ad)).reverse ++ .ref (ad b) :: st.map (g_v ad) := by
    show (avL.reverse ++ g_r t (some b) :: st).map (g_v ad) = _
    rw [List.map_append, List.map_reverse]
    rfl
  have hlen2 : ∀ sig, parseMethodDescriptor y.desc = some sig → (avL.map (g_v ad)).length = sig.parameters.length := fun sig hsig => by
    rw [hsig] at hlen
    rw [List.length_map]
    exact (Option.some.inj hlen).symm
  have hwd2 : 2 * (F0 m pc la ((avL.reverse ++ g_r t (some b) :: st).map (g_v ad))).monitorRoom + ((st.map (g_v ad)).map fun v => v.category).sum ≤ g_wid st := by
    rw [g_cats]
    show 2 * 0 + g_wid st ≤ g_wid st
    omega
  have hpre : ∀ vm1, s.WarmedH vm1 → (Value.ref (ad b) :: avL.map (g_v ad)).toArray = ((g_r t (some b) :: avL).map (g_v ad)).toArray ∧ g_Rep G u ad ((T.setVm vm1 : State)).heap ∧ g_cn u - g_cn u0 = g_cn u - g_cn u0 ∧ g_sn u - g_sn u0 = g_sn u - g_sn u0 := fun vm1 _ => ⟨rfl, by show g_Rep G u ad T.heap; rw [hT]; exact hR, rfl, rfl⟩
  have := callI X hx hown hy1 (hts _ hlink) (hts _ hin) (hts _ hcode) hy hB (a := ad b) (g := F0 m pc la ((avL.reverse ++ g_r t (some b) :: st).map (g_v ad))) rfl (by rw [hml]; exact hla.1) hlen2 hstk hwd2 (by rw [hb]; exact hd) hpre
  obtain ⟨w, vm1, B, hW1, X1, ⟨ad1, e1, hR1, hE1, hv1, hB1, hB2, L, hL1, hL2⟩, hst⟩ := this
  have ha1 : ∀ a, g_al u a → ad1 a = ad a := fun a ha => (hE1.1 a ha).2
  have hmo : ∀ a, g_al u a → g_al u1 a := fun a ha => (hE1.1 a ha).1
  have hSt : g_okS u st := hokr.2.tl
  have k9 := kk ad1 B.U.heap B.locs la hR1 (hE.trans hE1) (hL.mono hmo) (fun x hx => by
    rcases List.mem_append.mp hx with z | z
    · exact hv1 x (Option.mem_toList.mp z)
    · exact (hSt x z).mono hmo) (fun q hq => by
    rw [hL1] at hq
    rcases List.mem_append.mp hq with z | z
    · exact hlo q z
    · exact hL2 q z) (by rw [g_ls_eq ha1 hL]; exact hla)
  rw [← hB1, ← hB2] at k9
  obtain ⟨t9, a9, b9⟩ := k9 B.U rfl X1
  refine ⟨t9, hst t9 ?_, b9⟩
  rw [List.map_append, g_st_eq ha1 hSt] at a9
  rw [e1]
  have e9 : (v.map (g_v ad1)).toList = v.toList.map (g_v ad1) := by cases v <;> rfl
  rw [e9]
  exact a9
set_option maxHeartbeats 1000000 in
theorem i_IN {K : g_C} {cc : ByteArray} {own nm : String} {ret : Option FieldType} {u : g_St} {ls : List (Nat × g_V)} {st : List g_V} {pc : Nat} {out : g_Out} (hK : g_OK K cc own nm ret) {t b : Nat} {index ny dy : Nat} {host : String} {y : MethodName} {cy : ByteArray} {avL stk : List g_V} {v : Option g_V} {u1 : g_St} (hy1 : y.name = "<init>") (hin : Cond.instanceMethod y ∈ g_tbl) 
    (hlink : Cond.methodLinkNest own index y host ∈ g_tbl) (hcode : Cond.code y cy ny none ∈ g_tbl) (hini : Cond.initialized y.cls ∈ g_tbl) (hy : y.cls ≠ "java/lang/invoke/MethodHandle" ∧ y.cls ≠ "java/lang/invoke/VarHandle") (hlen : (parseMethodDescriptor y.desc).map (fun z => z.parameters.length) = some avL.length)
    (hdd : dy + 1 ≤ g_Kd K) (hwd : g_wid st + ny + 11 ≤ 64) (hsk : stk = avL.reverse ++ g_r t (some b) :: st) (hd : decode cc pc = .ok (.invokespecial index, 3)) (hC : g_Con (g_Kl K) (g_KG K) y cy ny none dy (g_r t (some b) :: avL) u (.inl v, u1)) (kk : g_W K u1 ls (v.toList ++ st) (pc + 3) out) : g_W K u ls stk pc out := by
  subst hsk
  obtain ⟨p, l, e, s, m, args, below, meth, c, nL, d, u0, ad0, G⟩ := K
  obtain ⟨hx, hb, hml, hown, hts, hKn, hlk, hnm, hret, htr⟩ := hK
  intro ad H locs la hR hE hL hS hlo hla
  intro T hT X
  have hokr := hS.app
  have hok : g_okS u (g_r t (some b) :: avL) := hokr.2.tl.mono (fun _ h => h) |> fun _ => (show g_okS u avL from fun x hx => hokr.1 x (List.mem_reverse.mpr hx)).cons hokr.2.hd
  have hB := g_back (p := p) (l := l) (G := G) (e := e) (s := s) (args := args) (below := below) (u0 := u0) (ad := ad) (d := d) (wd := g_wid st) hC htr hok hKn hE.2 hdd hwd hcode hini
  have hstk : (F0 m pc la ((avL.reverse ++ g_r t (some b) :: st).map (g_v ad))).stack = (avL.map (g_v ad)).reverse ++ .ref (ad b) :: st.map (g_v ad) := by
    show (avL.reverse ++ g_r t (some b) :: st).map (g_v ad) = _
    rw [List.map_append, List.map_reverse]
    rfl
  have hlen2 : ∀ sig, parseMethodDescriptor y.desc = some sig → (avL.map (g_v ad)).length = sig.parameters.length := fun sig hsig => by
    rw [hsig] at hlen
    rw [List.length_map]
    exact (Option.some.inj hlen).symm
  have hwd2 : 2 * (F0 m pc la ((avL.reverse ++ g_r t (some b) :: st).map (g_v ad))).monitorRoom + ((st.map (g_v ad)).map fun v => v.category).sum ≤ g_wid st := by
    rw [g_cats]
    show 2 * 0 + g_wid st ≤ g_wid st
    omega
  have hpre : ∀ vm1, s.WarmedH vm1 → (Value.ref (ad b) :: avL.map (g_v ad)).toArray = ((g_r t (some b) :: avL).map (g_v ad)).toArray ∧ g_Rep G u ad ((T.setVm vm1 : State)).heap ∧ g_cn u - g_cn u0 = g_cn u - g_cn u0 ∧ g_sn u - g_sn u0 = g_sn u - g_sn u0 := fun vm1 _ => ⟨rfl, by show g_Rep G u ad T.heap; rw [hT]; exact hR, rfl, rfl⟩
  have := va_callIN X hx hown hy1 (hts _ hlink) (hts _ hin) (hts _ hcode) hy hB (a := ad b) (g := F0 m pc la ((avL.reverse ++ g_r t (some b) :: st).map (g_v ad))) rfl (by rw [hml]; exact hla.1) hlen2 hstk hwd2 (by rw [hb]; exact hd) hpre
  obtain ⟨w, vm1, B, hW1, X1, ⟨ad1, e1, hR1, hE1, hv1, hB1, hB2, L, hL1, hL2⟩, hst⟩ := this
  have ha1 : ∀ a, g_al u a → ad1 a = ad a := fun a ha => (hE1.1 a ha).2
  have hmo : ∀ a, g_al u a → g_al u1 a := fun a ha => (hE1.1 a ha).1
  have hSt : g_okS u st := hokr.2.tl
  have k9 := kk ad1 B.U.heap B.locs la hR1 (hE.trans hE1) (hL.mono hmo) (fun x hx => by
    rcases List.mem_append.mp hx with z | z
    · exact hv1 x (Option.mem_toList.mp z)
    · exact (hSt x z).mono hmo) (fun q hq => by
    rw [hL1] at hq
    rcases List.mem_append.mp hq with z | z
    · exact hlo q z
    · exact hL2 q z) (by rw [g_ls_eq ha1 hL]; exact hla)
  rw [← hB1, ← hB2] at k9
  obtain ⟨t9, a9, b9⟩ := k9 B.U rfl X1
  refine ⟨t9, hst t9 ?_, b9⟩
  rw [List.map_append, g_st_eq ha1 hSt] at a9
  rw [e1]
  have e9 : (v.map (g_v ad1)).toList = v.toList.map (g_v ad1) := by cases v <;> rfl
  rw [e9]
  exact a9
theorem r_Vv {K : g_C} {cc : ByteArray} {own nm : String} {ret : Option FieldType} {u : g_St} {ls : List (Nat × g_V)} {st : List g_V} {pc : Nat} {out : g_Out} (hK : g_OK K cc own nm ret) {α : Type} {o : α} {t : Nat} {r : Option Nat} {index ny dy : Nat} {y : MethodName} {cy : ByteArray} {ry : Option FieldType} {avL stk : List g_V} {Y : Option (Unit × g_St)} {F : Unit → g_St → Option α} {q : g_O} (hq : q ∈ g_objs) (eq1 : q.1 = t) (hin : Cond.instanceMethod y ∈ g_tbl) (hse : Cond.selects q.2.1.1 y y ∈ g_tbl) (hlink : Cond.methodLink own index y ∈ g_tbl) (hcode : Cond.code y cy ny ry ∈ g_tbl) (hini : Cond.initialized y.cls ∈ g_tbl) (hy : y.cls ≠ "java/lang/invoke/MethodHandle" ∧ y.cls ≠ "java/lang/invoke/VarHandle") (hlen : (parseMethodDescriptor y.desc).map (fun z => z.parameters.length) = some avL.length)
    (hdd : dy + 1 ≤ g_Kd K) (hwd : g_wid st + ny + 11 ≤ 64) (hsk : stk = avL.reverse ++ g_r t r :: st) (hd : decode cc pc = .ok (.invokevirtual index, 3)) (hC : ∀ o', Y = some o' → g_Con (g_Kl K) (g_KG K) y cy ny ry dy (g_r t r :: avL) u (g_jV o')) (h : g_c (g_nn r Y) F = some o) (kk : ∀ u1, F () u1 = some o → g_W K u1 ls st (pc + 3) out) : g_W K u ls stk pc out := by
  cases r with
  | none => exact absurd h (by simp [g_c, g_nn])
  | some b =>
    cases hY : Y with
    | none => rw [hY] at h; exact absurd h (by simp [g_c, g_nn])
    | some o' =>
      rw [hY] at h
      obtain ⟨x, u1⟩ := o'
      exact i_V hK hq eq1 hin hse hlink hcode hini hy hlen hdd hwd hsk hd (hC _ hY) (kk u1 h)
theorem r_Vi {K : g_C} {cc : ByteArray} {own nm : String} {ret : Option FieldType} {u : g_St} {ls : List (Nat × g_V)} {st : List g_V} {pc : Nat} {out : g_Out} (hK : g_OK K cc own nm ret) {α : Type} {o : α} {t : Nat} {r : Option Nat} {index ny dy : Nat} {y : MethodName} {cy : ByteArray} {ry : Option FieldType} {avL stk : List g_V} {Y : Option (Int32 × g_St)} {F : Int32 → g_St → Option α} {q : g_O} (hq : q ∈ g_objs) (eq1 : q.1 = t) (hin : Cond.instanceMethod y ∈ g_tbl) (hse : Cond.selects q.2.1.1 y y ∈ g_tbl) (hlink : Cond.methodLink own index y ∈ g_tbl) (hcode : Cond.code y cy ny ry ∈ g_tbl) (hini : Cond.initialized y.cls ∈ g_tbl) (hy : y.cls ≠ "java/lang/invoke/MethodHandle" ∧ y.cls ≠ "java/lang/invoke/VarHandle") (hlen : (parseMethodDescriptor y.desc).map (fun z => z.parameters.length) = some avL.length)
    (hdd : dy + 1 ≤ g_Kd K) (hwd : g_wid st + ny + 11 ≤ 64) (hsk : stk = avL.reverse ++ g_r t r :: st) (hd : decode cc pc = .ok (.invokevirtual index, 3)) (hC : ∀ o', Y = some o' → g_Con (g_Kl K) (g_KG K) y cy ny ry dy (g_r t r :: avL) u (g_jI o')) (h : g_c (g_nn r Y) F = some o) (kk : ∀ x u1, F x u1 = some o → g_W K u1 ls (g_i x :: st) (pc + 3) out) : g_W K u ls stk pc out := by
  cases r with
  | none => exact absurd h (by simp [g_c, g_nn])
  | some b =>
    cases hY : Y with
    | none => rw [hY] at h; exact absurd h (by simp [g_c, g_nn])
    | some o' =>
      rw [hY] at h
      obtain ⟨x, u1⟩ := o'
      exact i_V hK hq eq1 hin hse hlink hcode hini hy hlen hdd hwd hsk hd (hC _ hY) (kk x u1 h)
theorem r_Vl {K : g_C} {cc : ByteArray} {own nm : String} {ret : Option FieldType} {u : g_St} {ls : List (Nat × g_V)} {st : List g_V} {pc : Nat} {out : g_Out} (hK : g_OK K cc own nm ret) {α : Type} {o : α} {t : Nat} {r : Option Nat} {index ny dy : Nat} {y : MethodName} {cy : ByteArray} {ry : Option FieldType} {avL stk : List g_V} {Y : Option (Int64 × g_St)} {F : Int64 → g_St → Option α} {q : g_O} (hq : q ∈ g_objs) (eq1 : q.1 = t) (hin : Cond.instanceMethod y ∈ g_tbl) (hse : Cond.selects q.2.1.1 y y ∈ g_tbl) (hlink : Cond.methodLink own index y ∈ g_tbl) (hcode : Cond.code y cy ny ry ∈ g_tbl) (hini : Cond.initialized y.cls ∈ g_tbl) (hy : y.cls ≠ "java/lang/invoke/MethodHandle" ∧ y.cls ≠ "java/lang/invoke/VarHandle") (hlen : (parseMethodDescriptor y.desc).map (fun z => z.parameters.length) = some avL.length)
    (hdd : dy + 1 ≤ g_Kd K) (hwd : g_wid st + ny + 11 ≤ 64) (hsk : stk = avL.reverse ++ g_r t r :: st) (hd : decode cc pc = .ok (.invokevirtual index, 3)) (hC : ∀ o', Y = some o' → g_Con (g_Kl K) (g_KG K) y cy ny ry dy (g_r t r :: avL) u (g_jL o')) (h : g_c (g_nn r Y) F = some o) (kk : ∀ x u1, F x u1 = some o → g_W K u1 ls (g_l x :: st) (pc + 3) out) : g_W K u ls stk pc out := by
  cases r with
  | none => exact absurd h (by simp [g_c, g_nn])
  | some b =>
    cases hY : Y with
    | none => rw [hY] at h; exact absurd h (by simp [g_c, g_nn])
    | some o' =>
      rw [hY] at h
      obtain ⟨x, u1⟩ := o'
      exact i_V hK hq eq1 hin hse hlink hcode hini hy hlen hdd hwd hsk hd (hC _ hY) (kk x u1 h)
theorem r_Vr {K : g_C} {cc : ByteArray} {own nm : String} {ret : Option FieldType} {u : g_St} {ls : List (Nat × g_V)} {st : List g_V} {pc : Nat} {out : g_Out} (hK : g_OK K cc own nm ret) {α : Type} {o : α} {t : Nat} {r : Option Nat} {tr : Nat} {index ny dy : Nat} {y : MethodName} {cy : ByteArray} {ry : Option FieldType} {avL stk : List g_V} {Y : Option (Option Nat × g_St)} {F : Option Nat → g_St → Option α} {q : g_O} (hq : q ∈ g_objs) (eq1 : q.1 = t) (hin : Cond.instanceMethod y ∈ g_tbl) (hse : Cond.selects q.2.1.1 y y ∈ g_tbl) (hlink : Cond.methodLink own index y ∈ g_tbl) (hcode : Cond.code y cy ny ry ∈ g_tbl) (hini : Cond.initialized y.cls ∈ g_tbl) (hy : y.cls ≠ "java/lang/invoke/MethodHandle" ∧ y.cls ≠ "java/lang/invoke/VarHandle") (hlen : (parseMethodDescriptor y.desc).map (fun z => z.parameters.length) = some avL.length)
    (hdd : dy + 1 ≤ g_Kd K) (hwd : g_wid st + ny + 11 ≤ 64) (hsk : stk = avL.reverse ++ g_r t r :: st) (hd : decode cc pc = .ok (.invokevirtual index, 3)) (hC : ∀ o', Y = some o' → g_Con (g_Kl K) (g_KG K) y cy ny ry dy (g_r t r :: avL) u (g_jR tr o')) (h : g_c (g_nn r Y) F = some o) (kk : ∀ x u1, F x u1 = some o → g_W K u1 ls (g_r tr x :: st) (pc + 3) out) : g_W K u ls stk pc out := by
  cases r with
  | none => exact absurd h (by simp [g_c, g_nn])
  | some b =>
    cases hY : Y with
    | none => rw [hY] at h; exact absurd h (by simp [g_c, g_nn])
    | some o' =>
      rw [hY] at h
      obtain ⟨x, u1⟩ := o'
      exact i_V hK hq eq1 hin hse hlink hcode hini hy hlen hdd hwd hsk hd (hC _ hY) (kk x u1 h)
theorem r_VNv {K : g_C} {cc : ByteArray} {own nm : String} {ret : Option FieldType} {u : g_St} {ls : List (Nat × g_V)} {st : List g_V} {pc : Nat} {out : g_Out} (hK : g_OK K cc own nm ret) {α : Type} {o : α} {t : Nat} {r : Option Nat} {index ny dy : Nat} {host : String} {y : MethodName} {cy : ByteArray} {ry : Option FieldType} {avL stk : List g_V} {Y : Option (Unit × g_St)} {F : Unit → g_St → Option α} {q : g_O} (hq : q ∈ g_objs) (eq1 : q.1 = t) (hin : Cond.instanceMethod y ∈ g_tbl) (hse : Cond.selects q.2.1.1 y y ∈ g_tbl) (hlink : Cond.methodLinkNest own index y host ∈ g_tbl) (hcode : Cond.code y cy ny ry ∈ g_tbl) (hini : Cond.initialized y.cls ∈ g_tbl) (hy : y.cls ≠ "java/lang/invoke/MethodHandle" ∧ y.cls ≠ "java/lang/invoke/VarHandle") (hlen : (parseMethodDescriptor y.desc).map (fun z => z.parameters.length) = some avL.length)
    (hdd : dy + 1 ≤ g_Kd K) (hwd : g_wid st + ny + 11 ≤ 64) (hsk : stk = avL.reverse ++ g_r t r :: st) (hd : decode cc pc = .ok (.invokevirtual index, 3)) (hC : ∀ o', Y = some o' → g_Con (g_Kl K) (g_KG K) y cy ny ry dy (g_r t r :: avL) u (g_jV o')) (h : g_c (g_nn r Y) F = some o) (kk : ∀ u1, F () u1 = some o → g_W K u1 ls st (pc + 3) out) : g_W K u ls stk pc out := by
  cases r with
  | none => exact absurd h (by simp [g_c, g_nn])
  | some b =>
    cases hY : Y with
    | none => rw [hY] at h; exact absurd h (by simp [g_c, g_nn])
    | some o' =>
      rw [hY] at h
      obtain ⟨x, u1⟩ := o'
      exact i_VN hK hq eq1 hin hse hlink hcode hini hy hlen hdd hwd hsk hd (hC _ hY) (kk u1 h)
theorem r_VNi {K : g_C} {cc : ByteArray} {own nm : String} {ret : Option FieldType} {u : g_St} {ls : List (Nat × g_V)} {st : List g_V} {pc : Nat} {out : g_Out} (hK : g_OK K cc own nm ret) {α : Type} {o : α} {t : Nat} {r : Option Nat} {index ny dy : Nat} {host : String} {y : MethodName} {cy : ByteArray} {ry : Option FieldType} {avL stk : List g_V} {Y : Option (Int32 × g_St)} {F : Int32 → g_St → Option α} {q : g_O} (hq : q ∈ g_objs) (eq1 : q.1 = t) (hin : Cond.instanceMethod y ∈ g_tbl) (hse : Cond.selects q.2.1.1 y y ∈ g_tbl) (hlink : Cond.methodLinkNest own index y host ∈ g_tbl) (hcode : Cond.code y cy ny ry ∈ g_tbl) (hini : Cond.initialized y.cls ∈ g_tbl) (hy : y.cls ≠ "java/lang/invoke/MethodHandle" ∧ y.cls ≠ "java/lang/invoke/VarHandle") (hlen : (parseMethodDescriptor y.desc).map (fun z => z.parameters.length) = some avL.length)
    (hdd : dy + 1 ≤ g_Kd K) (hwd : g_wid st + ny + 11 ≤ 64) (hsk : stk = avL.reverse ++ g_r t r :: st) (hd : decode cc pc = .ok (.invokevirtual index, 3)) (hC : ∀ o', Y = some o' → g_Con (g_Kl K) (g_KG K) y cy ny ry dy (g_r t r :: avL) u (g_jI o')) (h : g_c (g_nn r Y) F = some o) (kk : ∀ x u1, F x u1 = some o → g_W K u1 ls (g_i x :: st) (pc + 3) out) : g_W K u ls stk pc out := by
  cases r with
  | none => exact absurd h (by simp [g_c, g_nn])
  | some b =>
    cases hY : Y with
    | none => rw [hY] at h; exact absurd h (by simp [g_c, g_nn])
    | some o' =>
      rw [hY] at h
      obtain ⟨x, u1⟩ := o'
      exact i_VN hK hq eq1 hin hse hlink hcode hini hy hlen hdd hwd hsk hd (hC _ hY) (kk x u1 h)
theorem r_VNl {K : g_C} {cc : ByteArray} {own nm : String} {ret : Option FieldType} {u : g_St} {ls : List (Nat × g_V)} {st : List g_V} {pc : Nat} {out : g_Out} (hK : g_OK K cc own nm ret) {α : Type} {o : α} {t : Nat} {r : Option Nat} {index ny dy : Nat} {host : String} {y : MethodName} {cy : ByteArray} {ry : Option FieldType} {avL stk : List g_V} {Y : Option (Int64 × g_St)} {F : Int64 → g_St → Option α} {q : g_O} (hq : q ∈ g_objs) (eq1 : q.1 = t) (hin : Cond.instanceMethod y ∈ g_tbl) (hse : Cond.selects q.2.1.1 y y ∈ g_tbl) (hlink : Cond.methodLinkNest own index y host ∈ g_tbl) (hcode : Cond.code y cy ny ry ∈ g_tbl) (hini : Cond.initialized y.cls ∈ g_tbl) (hy : y.cls ≠ "java/lang/invoke/MethodHandle" ∧ y.cls ≠ "java/lang/invoke/VarHandle") (hlen : (parseMethodDescriptor y.desc).map (fun z => z.parameters.length) = some avL.length)
    (hdd : dy + 1 ≤ g_Kd K) (hwd : g_wid st + ny + 11 ≤ 64) (hsk : stk = avL.reverse ++ g_r t r :: st) (hd : decode cc pc = .ok (.invokevirtual index, 3)) (hC : ∀ o', Y = some o' → g_Con (g_Kl K) (g_KG K) y cy ny ry dy (g_r t r :: avL) u (g_jL o')) (h : g_c (g_nn r Y) F = some o) (kk : ∀ x u1, F x u1 = some o → g_W K u1 ls (g_l x :: st) (pc + 3) out) : g_W K u ls stk pc out := by
  cases r with
  | none => exact absurd h (by simp [g_c, g_nn])
  | some b =>
    cases hY : Y with
    | none => rw [hY] at h; exact absurd h (by simp [g_c, g_nn])
    | some o' =>
      rw [hY] at h
      obtain ⟨x, u1⟩ := o'
      exact i_VN hK hq eq1 hin hse hlink hcode hini hy hlen hdd hwd hsk hd (hC _ hY) (kk x u1 h)
theorem r_VNr {K : g_C} {cc : ByteArray} {own nm : String} {ret : Option FieldType} {u : g_St} {ls : List (Nat × g_V)} {st : List g_V} {pc : Nat} {out : g_Out} (hK : g_OK K cc own nm ret) {α : Type} {o : α} {t : Nat} {r : Option Nat} {tr : Nat} {index ny dy : Nat} {host : String} {y : MethodName} {cy : ByteArray} {ry : Option FieldType} {avL stk : List g_V} {Y : Option (Option Nat × g_St)} {F : Option Nat → g_St → Option α} {q : g_O} (hq : q ∈ g_objs) (eq1 : q.1 = t) (hin : Cond.instanceMethod y ∈ g_tbl) (hse : Cond.selects q.2.1.1 y y ∈ g_tbl) (hlink : Cond.methodLinkNest own index y host ∈ g_tbl) (hcode : Cond.code y cy ny ry ∈ g_tbl) (hini : Cond.initialized y.cls ∈ g_tbl) (hy : y.cls ≠ "java/lang/invoke/MethodHandle" ∧ y.cls ≠ "java/lang/invoke/VarHandle") (hlen : (parseMethodDescriptor y.desc).map (fun z => z.parameters.length) = some avL.length)
    (hdd : dy + 1 ≤ g_Kd K) (hwd : g_wid st + ny + 11 ≤ 64) (hsk : stk = avL.reverse ++ g_r t r :: st) (hd : decode cc pc = .ok (.invokevirtual index, 3)) (hC : ∀ o', Y = some o' → g_Con (g_Kl K) (g_KG K) y cy ny ry dy (g_r t r :: avL) u (g_jR tr o')) (h : g_c (g_nn r Y) F = some o) (kk : ∀ x u1, F x u1 = some o → g_W K u1 ls (g_r tr x :: st) (pc + 3) out) : g_W K u ls stk pc out := by
  cases r with
  | none => exact absurd h (by simp [g_c, g_nn])
  | some b =>
    cases hY : Y with
    | none => rw [hY] at h; exact absurd h (by simp [g_c, g_nn])
    | some o' =>
      rw [hY] at h
      obtain ⟨x, u1⟩ := o'
      exact i_VN hK hq eq1 hin hse hlink hcode hini hy hlen hdd hwd hsk hd (hC _ hY) (kk x u1 h)
theorem r_Sv {K : g_C} {cc : ByteArray} {own nm : String} {ret : Option FieldType} {u : g_St} {ls : List (Nat × g_V)} {st : List g_V} {pc : Nat} {out : g_Out} (hK : g_OK K cc own nm ret) {α : Type} {o : α} {index ny dy : Nat} {y : MethodName} {cy : ByteArray} {ry : Option FieldType} {avL stk : List g_V} {Y : Option (Unit × g_St)} {F : Unit → g_St → Option α} (hsta : Cond.static y ∈ g_tbl) (hlink : Cond.methodLink own index y ∈ g_tbl) (hcode : Cond.code y cy ny ry ∈ g_tbl) (hini : Cond.initialized y.cls ∈ g_tbl) (hy : y.cls ≠ "java/lang/invoke/MethodHandle" ∧ y.cls ≠ "java/lang/invoke/VarHandle") (hlen : (parseMethodDescriptor y.desc).map (fun z => z.parameters.length) = some avL.length)
    (hdd : dy + 1 ≤ g_Kd K) (hwd : g_wid st + ny + 11 ≤ 64) (hsk : stk = avL.reverse ++ st) (hd : decode cc pc = .ok (.invokestatic index, 3)) (hC : ∀ o', Y = some o' → g_Con (g_Kl K) (g_KG K) y cy ny ry dy avL u (g_jV o')) (h : g_c Y F = some o) (kk : ∀ u1, F () u1 = some o → g_W K u1 ls st (pc + 3) out) : g_W K u ls stk pc out := by
  cases hY : Y with
  | none => rw [hY] at h; exact absurd h (by simp [g_c])
  | some o' =>
    rw [hY] at h
    obtain ⟨x, u1⟩ := o'
    exact i_S hK hsta hlink hcode hini hy hlen hdd hwd hsk hd (hC _ hY) (kk u1 h)
theorem r_Si {K : g_C} {cc : ByteArray} {own nm : String} {ret : Option FieldType} {u : g_St} {ls : List (Nat × g_V)} {st : List g_V} {pc : Nat} {out : g_Out} (hK : g_OK K cc own nm ret) {α : Type} {o : α} {index ny dy : Nat} {y : MethodName} {cy : ByteArray} {ry : Option FieldType} {avL stk : List g_V} {Y : Option (Int32 × g_St)} {F : Int32 → g_St → Option α} (hsta : Cond.static y ∈ g_tbl) (hlink : Cond.methodLink own index y ∈ g_tbl) (hcode : Cond.code y cy ny ry ∈ g_tbl) (hini : Cond.initialized y.cls ∈ g_tbl) (hy : y.cls ≠ "java/lang/invoke/MethodHandle" ∧ y.cls ≠ "java/lang/invoke/VarHandle") (hlen : (parseMethodDescriptor y.desc).map (fun z => z.parameters.length) = some avL.length)
    (hdd : dy + 1 ≤ g_Kd K) (hwd : g_wid st + ny + 11 ≤ 64) (hsk : stk = avL.reverse ++ st) (hd : decode cc pc = .ok (.invokestatic index, 3)) (hC : ∀ o', Y = some o' → g_Con (g_Kl K) (g_KG K) y cy ny ry dy avL u (g_jI o')) (h : g_c Y F = some o) (kk : ∀ x u1, F x u1 = some o → g_W K u1 ls (g_i x :: st) (pc + 3) out) : g_W K u ls stk pc out := by
  cases hY : Y with
  | none => rw [hY] at h; exact absurd h (by simp [g_c])
  | some o' =>
    rw [hY] at h
    obtain ⟨x, u1⟩ := o'
    exact i_S hK hsta hlink hcode hini hy hlen hdd hwd hsk hd (hC _ hY) (kk x u1 h)
theorem r_Sl {K : g_C} {cc : ByteArray} {own nm : String} {ret : Option FieldType} {u : g_St} {ls : List (Nat × g_V)} {st : List g_V} {pc : Nat} {out : g_Out} (hK : g_OK K cc own nm ret) {α : Type} {o : α} {index ny dy : Nat} {y : MethodName} {cy : ByteArray} {ry : Option FieldType} {avL stk : List g_V} {Y : Option (Int64 × g_St)} {F : Int64 → g_St → Option α} (hsta : Cond.static y ∈ g_tbl) (hlink : Cond.methodLink own index y ∈ g_tbl) (hcode : Cond.code y cy ny ry ∈ g_tbl) (hini : Cond.initialized y.cls ∈ g_tbl) (hy : y.cls ≠ "java/lang/invoke/MethodHandle" ∧ y.cls ≠ "java/lang/invoke/VarHandle") (hlen : (parseMethodDescriptor y.desc).map (fun z => z.parameters.length) = some avL.length)
    (hdd : dy + 1 ≤ g_Kd K) (hwd : g_wid st + ny + 11 ≤ 64) (hsk : stk = avL.reverse ++ st) (hd : decode cc pc = .ok (.invokestatic index, 3)) (hC : ∀ o', Y = some o' → g_Con (g_Kl K) (g_KG K) y cy ny ry dy avL u (g_jL o')) (h : g_c Y F = some o) (kk : ∀ x u1, F x u1 = some o → g_W K u1 ls (g_l x :: st) (pc + 3) out) : g_W K u ls stk pc out := by
  cases hY : Y with
  | none => rw [hY] at h; exact absurd h (by simp [g_c])
  | some o' =>
    rw [hY] at h
    obtain ⟨x, u1⟩ := o'
    exact i_S hK hsta hlink hcode hini hy hlen hdd hwd hsk hd (hC _ hY) (kk x u1 h)
theorem r_Sr {K : g_C} {cc : ByteArray} {own nm : String} {ret : Option FieldType} {u : g_St} {ls : List (Nat × g_V)} {st : List g_V} {pc : Nat} {out : g_Out} (hK : g_OK K cc own nm ret) {α : Type} {o : α} {tr : Nat} {index ny dy : Nat} {y : MethodName} {cy : ByteArray} {ry : Option FieldType} {avL stk : List g_V} {Y : Option (Option Nat × g_St)} {F : Option Nat → g_St → Option α} (hsta : Cond.static y ∈ g_tbl) (hlink : Cond.methodLink own index y ∈ g_tbl) (hcode : Cond.code y cy ny ry ∈ g_tbl) (hini : Cond.initialized y.cls ∈ g_tbl) (hy : y.cls ≠ "java/lang/invoke/MethodHandle" ∧ y.cls ≠ "java/lang/invoke/VarHandle") (hlen : (parseMethodDescriptor y.desc).map (fun z => z.parameters.length) = some avL.length)
    (hdd : dy + 1 ≤ g_Kd K) (hwd : g_wid st + ny + 11 ≤ 64) (hsk : stk = avL.reverse ++ st) (hd : decode cc pc = .ok (.invokestatic index, 3)) (hC : ∀ o', Y = some o' → g_Con (g_Kl K) (g_KG K) y cy ny ry dy avL u (g_jR tr o')) (h : g_c Y F = some o) (kk : ∀ x u1, F x u1 = some o → g_W K u1 ls (g_r tr x :: st) (pc + 3) out) : g_W K u ls stk pc out := by
  cases hY : Y with
  | none => rw [hY] at h; exact absurd h (by simp [g_c])
  | some o' =>
    rw [hY] at h
    obtain ⟨x, u1⟩ := o'
    exact i_S hK hsta hlink hcode hini hy hlen hdd hwd hsk hd (hC _ hY) (kk x u1 h)
theorem r_SNv {K : g_C} {cc : ByteArray} {own nm : String} {ret : Option FieldType} {u : g_St} {ls : List (Nat × g_V)} {st : List g_V} {pc : Nat} {out : g_Out} (hK : g_OK K cc own nm ret) {α : Type} {o : α} {index ny dy : Nat} {host : String} {y : MethodName} {cy : ByteArray} {ry : Option FieldType} {avL stk : List g_V} {Y : Option (Unit × g_St)} {F : Unit → g_St → Option α} (hsta : Cond.static y ∈ g_tbl) (hlink : Cond.methodLinkNest own index y host ∈ g_tbl) (hcode : Cond.code y cy ny ry ∈ g_tbl) (hini : Cond.initialized y.cls ∈ g_tbl) (hy : y.cls ≠ "java/lang/invoke/MethodHandle" ∧ y.cls ≠ "java/lang/invoke/VarHandle") (hlen : (parseMethodDescriptor y.desc).map (fun z => z.parameters.length) = some avL.length)
    (hdd : dy + 1 ≤ g_Kd K) (hwd : g_wid st + ny + 11 ≤ 64) (hsk : stk = avL.reverse ++ st) (hd : decode cc pc = .ok (.invokestatic index, 3)) (hC : ∀ o', Y = some o' → g_Con (g_Kl K) (g_KG K) y cy ny ry dy avL u (g_jV o')) (h : g_c Y F = some o) (kk : ∀ u1, F () u1 = some o → g_W K u1 ls st (pc + 3) out) : g_W K u ls stk pc out := by
  cases hY : Y with
  | none => rw [hY] at h; exact absurd h (by simp [g_c])
  | some o' =>
    rw [hY] at h
    obtain ⟨x, u1⟩ := o'
    exact i_SN hK hsta hlink hcode hini hy hlen hdd hwd hsk hd (hC _ hY) (kk u1 h)
theorem r_SNi {K : g_C} {cc : ByteArray} {own nm : String} {ret : Option FieldType} {u : g_St} {ls : List (Nat × g_V)} {st : List g_V} {pc : Nat} {out : g_Out} (hK : g_OK K cc own nm ret) {α : Type} {o : α} {index ny dy : Nat} {host : String} {y : MethodName} {cy : ByteArray} {ry : Option FieldType} {avL stk : List g_V} {Y : Option (Int32 × g_St)} {F : Int32 → g_St → Option α} (hsta : Cond.static y ∈ g_tbl) (hlink : Cond.methodLinkNest own index y host ∈ g_tbl) (hcode : Cond.code y cy ny ry ∈ g_tbl) (hini : Cond.initialized y.cls ∈ g_tbl) (hy : y.cls ≠ "java/lang/invoke/MethodHandle" ∧ y.cls ≠ "java/lang/invoke/VarHandle") (hlen : (parseMethodDescriptor y.desc).map (fun z => z.parameters.length) = some avL.length)
    (hdd : dy + 1 ≤ g_Kd K) (hwd : g_wid st + ny + 11 ≤ 64) (hsk : stk = avL.reverse ++ st) (hd : decode cc pc = .ok (.invokestatic index, 3)) (hC : ∀ o', Y = some o' → g_Con (g_Kl K) (g_KG K) y cy ny ry dy avL u (g_jI o')) (h : g_c Y F = some o) (kk : ∀ x u1, F x u1 = some o → g_W K u1 ls (g_i x :: st) (pc + 3) out) : g_W K u ls stk pc out := by
  cases hY : Y with
  | none => rw [hY] at h; exact absurd h (by simp [g_c])
  | some o' =>
    rw [hY] at h
    obtain ⟨x, u1⟩ := o'
    exact i_SN hK hsta hlink hcode hini hy hlen hdd hwd hsk hd (hC _ hY) (kk x u1 h)
theorem r_SNl {K : g_C} {cc : ByteArray} {own nm : String} {ret : Option FieldType} {u : g_St} {ls : List (Nat × g_V)} {st : List g_V} {pc : Nat} {out : g_Out} (hK : g_OK K cc own nm ret) {α : Type} {o : α} {index ny dy : Nat} {host : String} {y : MethodName} {cy : ByteArray} {ry : Option FieldType} {avL stk : List g_V} {Y : Option (Int64 × g_St)} {F : Int64 → g_St → Option α} (hsta : Cond.static y ∈ g_tbl) (hlink : Cond.methodLinkNest own index y host ∈ g_tbl) (hcode : Cond.code y cy ny ry ∈ g_tbl) (hini : Cond.initialized y.cls ∈ g_tbl) (hy : y.cls ≠ "java/lang/invoke/MethodHandle" ∧ y.cls ≠ "java/lang/invoke/VarHandle") (hlen : (parseMethodDescriptor y.desc).map (fun z => z.parameters.length) = some avL.length)
    (hdd : dy + 1 ≤ g_Kd K) (hwd : g_wid st + ny + 11 ≤ 64) (hsk : stk = avL.reverse ++ st) (hd : decode cc pc = .ok (.invokestatic index, 3)) (hC : ∀ o', Y = some o' → g_Con (g_Kl K) (g_KG K) y cy ny ry dy avL u (g_jL o')) (h : g_c Y F = some o) (kk : ∀ x u1, F x u1 = some o → g_W K u1 ls (g_l x :: st) (pc + 3) out) : g_W K u ls stk pc out := by
  cases hY : Y with
  | none => rw [hY] at h; exact absurd h (by simp [g_c])
  | some o' =>
    rw [hY] at h
    obtain ⟨x, u1⟩ := o'
    exact i_SN hK hsta hlink hcode hini hy hlen hdd hwd hsk hd (hC _ hY) (kk x u1 h)
theorem r_SNr {K : g_C} {cc : ByteArray} {own nm : String} {ret : Option FieldType} {u : g_St} {ls : List (Nat × g_V)} {st : List g_V} {pc : Nat} {out : g_Out} (hK : g_OK K cc own nm ret) {α : Type} {o : α} {tr : Nat} {index ny dy : Nat} {host : String} {y : MethodName} {cy : ByteArray} {ry : Option FieldType} {avL stk : List g_V} {Y : Option (Option Nat × g_St)} {F : Option Nat → g_St → Option α} (hsta : Cond.static y ∈ g_tbl) (hlink : Cond.methodLinkNest own index y host ∈ g_tbl) (hcode : Cond.code y cy ny ry ∈ g_tbl) (hini : Cond.initialized y.cls ∈ g_tbl) (hy : y.cls ≠ "java/lang/invoke/MethodHandle" ∧ y.cls ≠ "java/lang/invoke/VarHandle") (hlen : (parseMethodDescriptor y.desc).map (fun z => z.parameters.length) = some avL.length)
    (hdd : dy + 1 ≤ g_Kd K) (hwd : g_wid st + ny + 11 ≤ 64) (hsk : stk = avL.reverse ++ st) (hd : decode cc pc = .ok (.invokestatic index, 3)) (hC : ∀ o', Y = some o' → g_Con (g_Kl K) (g_KG K) y cy ny ry dy avL u (g_jR tr o')) (h : g_c Y F = some o) (kk : ∀ x u1, F x u1 = some o → g_W K u1 ls (g_r tr x :: st) (pc + 3) out) : g_W K u ls stk pc out := by
  cases hY : Y with
  | none => rw [hY] at h; exact absurd h (by simp [g_c])
  | some o' =>
    rw [hY] at h
    obtain ⟨x, u1⟩ := o'
    exact i_SN hK hsta hlink hcode hini hy hlen hdd hwd hsk hd (hC _ hY) (kk x u1 h)
theorem r_Iv {K : g_C} {cc : ByteArray} {own nm : String} {ret : Option FieldType} {u : g_St} {ls : List (Nat × g_V)} {st : List g_V} {pc : Nat} {out : g_Out} (hK : g_OK K cc own nm ret) {α : Type} {o : α} {t : Nat} {r : Option Nat} {index ny dy : Nat} {y : MethodName} {cy : ByteArray} {avL stk : List g_V} {Y : Option (Unit × g_St)} {F : Unit → g_St → Option α} (hy1 : y.name = "<init>") (hin : Cond.instanceMethod y ∈ g_tbl) (hlink : Cond.methodLink own index y ∈ g_tbl) (hcode : Cond.code y cy ny none ∈ g_tbl) (hini : Cond.initialized y.cls ∈ g_tbl) (hy : y.cls ≠ "java/lang/invoke/MethodHandle" ∧ y.cls ≠ "java/lang/invoke/VarHandle") (hlen : (parseMethodDescriptor y.desc).map (fun z => z.parameters.length) = some avL.length)
    (hdd : dy + 1 ≤ g_Kd K) (hwd : g_wid st + ny + 11 ≤ 64) (hsk : stk = avL.reverse ++ g_r t r :: st) (hd : decode cc pc = .ok (.invokespecial index, 3)) (hC : ∀ o', Y = some o' → g_Con (g_Kl K) (g_KG K) y cy ny none dy (g_r t r :: avL) u (g_jV o')) (h : g_c (g_nn r Y) F = some o) (kk : ∀ u1, F () u1 = some o → g_W K u1 ls st (pc + 3) out) : g_W K u ls stk pc out := by
  cases r with
  | none => exact absurd h (by simp [g_c, g_nn])
  | some b =>
    cases hY : Y with
    | none => rw [hY] at h; exact absurd h (by simp [g_c, g_nn])
    | some o' =>
      rw [hY] at h
      obtain ⟨x, u1⟩ := o'
      exact i_I hK hy1 hin hlink hcode hini hy hlen hdd hwd hsk hd (hC _ hY) (kk u1 h)
theorem r_INv {K : g_C} {cc : ByteArray} {own nm : String} {ret : Option FieldType} {u : g_St} {ls : List (Nat × g_V)} {st : List g_V} {pc : Nat} {out : g_Out} (hK : g_OK K cc own nm ret) {α : Type} {o : α} {t : Nat} {r : Option Nat} {index ny dy : Nat} {host : String} {y : MethodName} {cy : ByteArray} {avL stk : List g_V} {Y : Option (Unit × g_St)} {F : Unit → g_St → Option α} (hy1 : y.name = "<init>") (hin : Cond.instanceMethod y ∈ g_tbl) (hlink : Cond.methodLinkNest own index y host ∈ g_tbl) (hcode : Cond.code y cy ny none ∈ g_tbl) (hini : Cond.initialized y.cls ∈ g_tbl) (hy : y.cls ≠ "java/lang/invoke/MethodHandle" ∧ y.cls ≠ "java/lang/invoke/VarHandle") (hlen : (parseMethodDescriptor y.desc).map (fun z => z.parameters.length) = some avL.length)
    (hdd : dy + 1 ≤ g_Kd K) (hwd : g_wid st + ny + 11 ≤ 64) (hsk : stk = avL.reverse ++ g_r t r :: st) (hd : decode cc pc = .ok (.invokespecial index, 3)) (hC : ∀ o', Y = some o' → g_Con (g_Kl K) (g_KG K) y cy ny none dy (g_r t r :: avL) u (g_jV o')) (h : g_c (g_nn r Y) F = some o) (kk : ∀ u1, F () u1 = some o → g_W K u1 ls st (pc + 3) out) : g_W K u ls stk pc out := by
  cases r with
  | none => exact absurd h (by simp [g_c, g_nn])
  | some b =>
    cases hY : Y with
    | none => rw [hY] at h; exact absurd h (by simp [g_c, g_nn])
    | some o' =>
      rw [hY] at h
      obtain ⟨x, u1⟩ := o'
      exact i_IN hK hy1 hin hlink hcode hini hy hlen hdd hwd hsk hd (hC _ hY) (kk u1 h)
