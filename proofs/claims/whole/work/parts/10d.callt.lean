/-! CALLS THAT THROW -/
set_option maxHeartbeats 2000000 in
/-- a virtual call whose callee throws: the exception lies over the caller's frame -/
theorem g_callT {p : Program} {l : Launch} {e : Env} {s : State} {m : MethodId} {args : Array Value} {below : List Frame} {meth : Method} {c : Code} {T : State} {locs : List Loc} {G : g_G} {u0 u u1 : g_St} {ad ad0 : Nat → Nat} {d dy ny e0 : Nat} {y : MethodName} {cy cc : ByteArray} {ry : Option FieldType} {avL : List g_V} {t b index pc : Nat} {own : String} {q : g_O} {st : List g_V} {la : Array Slot}
    (X : Stand p l e (g_room d u0) s m args below meth c T locs (g_cn u - g_cn u0) (g_sn u - g_sn u0)) (hx : p.tables.exec = Jvm.exec) (hb : c.code = cc) (hml : la.size = c.maxLocals) (hown : s.vm.findClass own = some m.cls) (hKn : g_Kn G s) (htr : l.stackTraces = false) (hR : g_Rep G u ad T.heap) (hE : g_Le u0 ad0 u ad)
    (hq : q ∈ g_objs) (eq1 : q.1 = t) (hin : Cond.instanceMethod y ∈ g_tbl) (hse : Cond.selects q.2.1.1 y y ∈ g_tbl) (hlink : Cond.methodLink own index y ∈ g_tbl) (hcode : Cond.code y cy ny ry ∈ g_tbl) (hini : Cond.initialized y.cls ∈ g_tbl) (hy : y.cls ≠ "java/lang/invoke/MethodHandle" ∧ y.cls ≠ "java/lang/invoke/VarHandle") (hlen : (parseMethodDescriptor y.desc).map (fun z => z.parameters.length) = some avL.length)
    (hdd : dy + 1 ≤ d) (hwd : g_wid st + ny + 11 ≤ 64) (hd : decode cc pc = .ok (.invokevirtual index, 3)) (hC : g_Con l G y cy ny ry dy (g_r t (some b) :: avL) u (.inr e0, u1)) (hok : g_okS u (g_r t (some b) :: avL)) :
    ∃ (x : Nat) (cell : Cell) (n : String) (ad1 : Nat → Nat) (B : State) (L : List Loc), Stand p l e (g_room d u0) s m args below meth c B (locs ++ L) (g_cn u1 - g_cn u0) (g_sn u1 - g_sn u0) ∧ (∀ w ∈ L, g_b0 G ≤ w.base) ∧ B.heap[x]? = some cell ∧ cell.vm.isStatics = false ∧ g_exn[e0]? = some n ∧ B.vm.findClass n = some cell.cls ∧ g_Rep G u1 ad1 B.heap ∧ g_Le u ad u1 ad1 ∧
      Steps p.tables e below (T.setTop (F0 m pc la ((avL.map (g_v ad)).reverse ++ .ref (ad b) :: st.map (g_v ad)))) ((B.setTop (F0 m pc la (st.map (g_v ad)))).pushFrame (.throwing x)) := by
  have hts : ∀ w ∈ g_tbl, w.before args s = true := fun w hw => hKn.2.2.1 w hw args
  obtain ⟨mk, methM, hnamed, hmethM, hstM, habM⟩ := Cond.instanceMethod_spec (hts _ hin)
  obtain ⟨methM', cM, hmethM', hcM, -, hlM, -, -, -, hsigM⟩ := Cond.code_spec hnamed (hts _ hcode)
  cases hmethM.symm.trans hmethM'
  obtain ⟨hb1, hb2⟩ := hok.hd b rfl
  have htb : b % 64 = q.1 := by
    rcases hb1 with z | z
    · have := g_objs_lt q hq
      omega
    · rw [eq1]; exact z
  obtain ⟨⟨cellB, q1, q2, q3, -⟩, -⟩ := hR.2.2.2.1 q hq b hb2 htb
  have hfc := (hKn.1 q hq).1.2.1
  obtain ⟨c2, r2, m2, w1, w2, w3, w4, kP, hkP, hkPi⟩ := Cond.selects_spec (hts _ hse)
  cases hfc.symm.trans w1
  cases (State.methodFound?_of_named hnamed hy).symm.trans w2
  cases hnamed.symm.trans w3
  have hselP : selectMethod e.platform s.vm cellB.cls mk = .method mk := by rw [Launch.admits_selectMethod X.admits, q2]; exact w4
  have hlen2 : (avL.map (g_v ad)).length = methM.sig.parameters.length := by
    rw [hsigM] at hlen
    rw [List.length_map]
    exact (Option.some.inj hlen).symm
  obtain ⟨vm1, X1, hstep1⟩ := X.invokevirtual hx hown (hts _ hlink) hnamed hmethM hstM hkP hkPi hy (a := ad b) (cell := cellB) q1
    (fun z h => by rw [q3] at h; cases h) hselP hmethM habM hkP hkPi (g := F0 m pc la ((avL.map (g_v ad)).reverse ++ .ref (ad b) :: st.map (g_v ad))) rfl (argsL := avL.map (g_v ad)) (rest := st.map (g_v ad)) hlen2 rfl (by rw [hb]; exact hd)
  generalize hU : T.setVm vm1 = U at X1 hstep1
  have hUh : U.heap = T.heap := by rw [← hU]; rfl
  have hKnU := hKn.moved X1.warmed
  have hnU := X1.named hnamed
  obtain ⟨methY, cY, hmY, hcY, -, hlY, -, -, -, -⟩ := Cond.code_spec hnU (hKnU.2.2.1 _ hcode (Value.ref (ad b) :: avL.map (g_v ad)).toArray)
  obtain ⟨kY, hkY, -⟩ := className_of_methodNamed hnU
  have hinitY : kY.init = .initialized := Cond.initialized_spec (findClass_of_methodNamed hnU) hkY (hKnU.2.2.1 _ hini (Value.ref (ad b) :: avL.map (g_v ad)).toArray)
  have h : At U (F0 m pc la (st.map (g_v ad))).method c below := X1.here
  have h6 := hR.2.2.2.2.2.1
  have h7 := hR.2.2.2.2.2.2.1
  have hc1 := hE.2.1
  have hs1 := hE.2.2
  have happ : (headSpec [Cond.code y cy ny ry] (g_room dy u)).appliesLoose y e.platform (U.calling (F0 m pc la (st.map (g_v ad))) mk (Value.ref (ad b) :: avL.map (g_v ad)).toArray) = true :=
    Spec.appliesLoose_calling (g := F0 m pc la (st.map (g_v ad))) h (by rw [hb]; exact hd) hnU hkY hinitY
      (X1.room_calling (g := F0 m pc la (st.map (g_v ad))) (R' := g_room dy u) hml hmY hcY hdd (by
        rw [hlY, g_cats]
        show 2 * 0 + g_wid st + (ny + 11) + 64 * dy ≤ 64 * d
        omega) (by show _ + (g_LC - g_cn u) ≤ g_LC - g_cn u0; omega) (by show _ + (g_LS - g_sn u) ≤ g_LS - g_sn u0; omega))
      (atoms_intro fun w hw => by rw [List.mem_singleton.mp hw]; exact hKnU.2.2.1 _ hcode _)
  obtain ⟨mid, hmid⟩ := h.above
  have hfr : (U.setTop (F0 m pc la (st.map (g_v ad)))).frames = (.java (F0 m pc la (st.map (g_v ad))) :: mid) ++ below := by rw [State.frames_setTop' _ h.top, hmid]; rfl
  obtain ⟨o, s2, hsteps, -, hend, hq2⟩ := Steps.callFree (hC ad htr hok) p X1.admits X1.cas X1.clock (acts := []) hfr happ ⟨rfl, by show g_Rep G u ad U.heap; rw [hUh]; exact hR, g_Kn.moved (U := U.calling (F0 m pc la (st.map (g_v ad))) mk (Value.ref (ad b) :: avL.map (g_v ad)).toArray) (State.WarmedH.refl U) hKnU⟩ trivial
  obtain ⟨⟨ad1, x, cell, n, rfl, g1, g2, g3, g4, g5, g6⟩, hW2, L, ⟨e2, k2, k3, k4, k5, k6⟩, hL⟩ := hq2
  rw [State.frames_setTop' _ h.top] at hend
  have e3 : s2 = ({ (U.calling (F0 m pc la (st.map (g_v ad))) mk (Value.ref (ad b) :: avL.map (g_v ad)).toArray).setFrames s2.frames with heap := s2.heap, slotsUsed := s2.slotsUsed } : State).setVm s2.vm := by
    have h9 : s2 = ({ s2 with vm := (U.calling (F0 m pc la (st.map (g_v ad))) mk (Value.ref (ad b) :: avL.map (g_v ad)).toArray).vm } : State).setVm s2.vm := rfl
    rw [show ({ s2 with vm := (U.calling (F0 m pc la (st.map (g_v ad))) mk (Value.ref (ad b) :: avL.map (g_v ad)).toArray).vm } : State) = _ from e2] at h9
    exact h9
  have hf2 : s2.frames = .throwing x :: .java (F0 m pc la (st.map (g_v ad))) :: U.frames.tail := hend
  have hWU : U.WarmedH s2.vm := hW2
  obtain ⟨g0, hg0⟩ := Option.isSome_iff_exists.mp h.top
  obtain ⟨r, hr⟩ := State.topJava?_eq_some.mp hg0
  have hs2 : s2 = ((({ U with heap := s2.heap, slotsUsed := s2.slotsUsed } : State).setVm s2.vm).setTop (F0 m pc la (st.map (g_v ad)))).pushFrame (.throwing x) := by
    have hr' : (({ U with heap := s2.heap, slotsUsed := s2.slotsUsed } : State).setVm s2.vm).frames = .java g0 :: r := hr
    refine e3.trans ?_
    rw [hf2, State.calling_eq h.top, State.setFrames_setFrames, State.pushFrame, State.frames_setTop _ hr', State.setTop_of_frames _ hr', State.setFrames_setFrames, hr]
    rfl
  have hsame : U.sameButNew ({ U with heap := s2.heap, slotsUsed := s2.slotsUsed } : State) L (g_cn u1 - g_cn u) (g_sn u1 - g_sn u) := by
    refine ⟨?_, k2, k3, k4, k5, k6⟩
    obtain ⟨tt, htt, -⟩ := State.frames_cons hr
    show ({ U with heap := s2.heap, slotsUsed := s2.slotsUsed } : State) = { U.setFrames U.frames with heap := s2.heap, slotsUsed := s2.slotsUsed }
    rw [State.setFrames_self htt]
  have hcc : g_cn u - g_cn u0 + (g_cn u1 - g_cn u) = g_cn u1 - g_cn u0 := by have h8 : g_cn u ≤ g_cn u1 := g6.2.1; omega
  have hss : g_sn u - g_sn u0 + (g_sn u1 - g_sn u) = g_sn u1 - g_sn u0 := by have h8 : g_sn u ≤ g_sn u1 := g6.2.2; omega
  refine ⟨x, cell, n, ad1, (({ U with heap := s2.heap, slotsUsed := s2.slotsUsed } : State).setVm s2.vm), L, ?_, hL, g1, g2, g3, g4, g5, g6, ?_⟩
  · rw [← hcc, ← hss]
    exact ⟨X1.admits, X1.cas, X1.clock, X1.frames, X1.room, X1.hears, X1.method, X1.code, (X1.here.setHeapUsed s2.heap s2.slotsUsed).setVm hWU.alike, X1.tail, State.WarmedH.trans X1.warmed hWU, X1.limits, X1.bytes, X1.same.trans (hsame.setVm s.vm)⟩
  · refine hstep1 _ fun acts => ?_
    rw [doInvoke_state]
    rw [← hs2]
    exact hsteps
set_option maxHeartbeats 1000000 in
/-- the exception goes on to the caller's caller -/
theorem i_VT {K : g_C} {cc : ByteArray} {own nm : String} {ret : Option FieldType} {u : g_St} {ls : List (Nat × g_V)} {st : List g_V} {pc : Nat} {out : g_Out} (hK : g_OK K cc own nm ret) (hX : g_noX K) {t b : Nat} {index ny dy e0 : Nat} {y : MethodName} {cy : ByteArray} {ry : Option FieldType} {avL stk : List g_V} {u1 : g_St} {q : g_O} (hq : q ∈ g_objs) (eq1 : q.1 = t) (hin : Cond.instanceMethod y ∈ g_tbl) (hse : Cond.selects q.2.1.1 y y ∈ g_tbl)
    (hlink : Cond.methodLink own index y ∈ g_tbl) (hcode : Cond.code y cy ny ry ∈ g_tbl) (hini : Cond.initialized y.cls ∈ g_tbl) (hy : y.cls ≠ "java/lang/invoke/MethodHandle" ∧ y.cls ≠ "java/lang/invoke/VarHandle") (hlen : (parseMethodDescriptor y.desc).map (fun z => z.parameters.length) = some avL.length)
    (hdd : dy + 1 ≤ g_Kd K) (hwd : g_wid st + ny + 11 ≤ 64) (hsk : stk = avL.reverse ++ g_r t (some b) :: st) (hd : decode cc pc = .ok (.invokevirtual index, 3)) (hC : g_Con (g_Kl K) (g_KG K) y cy ny ry dy (g_r t (some b) :: avL) u (.inr e0, u1)) (hout : out = (.inr e0, u1)) : g_W K u ls stk pc out := by
  subst hsk
  subst hout
  obtain ⟨p, l, e, s, m, args, below, meth, c, nL, d, u0, ad0, G⟩ := K
  obtain ⟨hx, hb, hml, hown, hts, hKn, hlk, hnm, hret, htr⟩ := hK
  intro ad H locs la hR hE hL hS hlo hla T hT X
  have hokr := hS.app
  have hok : g_okS u (g_r t (some b) :: avL) := (show g_okS u avL from fun x hx => hokr.1 x (List.mem_reverse.mpr hx)).cons hokr.2.hd
  obtain ⟨x, cell, n, ad1, B, L, XB, hLb, b1, b2, b3, b4, b5, b6, hsteps⟩ := g_callT (st := st) (la := la) X hx hb (by rw [hml]; exact hla.1) hown hKn htr (by rw [hT]; exact hR) hE hq eq1 hin hse hlink hcode hini hy hlen hdd hwd hd hC hok
  have h9 : c.exceptionTable.isEmpty = true := hX
  obtain ⟨w1, w2, w3, w4, w5⟩ := XB.leaveThrown x (g := F0 m pc la (st.map (g_v ad))) rfl rfl rfl (fun z hz => by rw [Array.isEmpty_iff] at h9; rw [h9] at hz; cases hz) hlk
  refine ⟨B.setFrames (.throwing x :: below), ?_, .threw x, w2, w3, ⟨ad1, x, cell, n, rfl, b1, b2, b3, b4, b5, hE.trans b6⟩, w4, locs ++ L, w5, fun z hz => ?_⟩
  · have e9 : (avL.reverse ++ g_r t (some b) :: st).map (g_v ad) = (avL.map (g_v ad)).reverse ++ .ref (ad b) :: st.map (g_v ad) := by
      rw [List.map_append, List.map_reverse]
      rfl
    rw [e9]
    exact hsteps.trans w1
  · rcases List.mem_append.mp hz with z | z
    · exact hlo _ z
    · exact hLb _ z
theorem r_VTvV {K : g_C} {cc : ByteArray} {own nm : String} {ret : Option FieldType} {u : g_St} {ls : List (Nat × g_V)} {st : List g_V} {pc : Nat} (hK : g_OK K cc own nm ret) (hX : g_noX K) {o : (Unit ⊕ Nat) × g_St} {t : Nat} {r : Option Nat} {index ny dy : Nat} {y : MethodName} {cy : ByteArray} {ry : Option FieldType} {avL stk : List g_V} {Y : Option ((Unit ⊕ Nat) × g_St)} {F : Unit → g_St → Option ((Unit ⊕ Nat) × g_St)} {q : g_O} (hq : q ∈ g_objs) (eq1 : q.1 = t) (hin : Cond.instanceMethod y ∈ g_tbl) (hse : Cond.selects q.2.1.1 y y ∈ g_tbl) (hlink : Cond.methodLink own index y ∈ g_tbl) (hcode : Cond.code y cy ny ry ∈ g_tbl) (hini : Cond.initialized y.cls ∈ g_tbl) (hy : y.cls ≠ "java/lang/invoke/MethodHandle" ∧ y.cls ≠ "java/lang/invoke/VarHandle") (hlen : (parseMethodDescriptor y.desc).map (fun z => z.parameters.length) = some avL.length)
    (hdd : dy + 1 ≤ g_Kd K) (hwd : g_wid st + ny + 11 ≤ 64) (hsk : stk = avL.reverse ++ g_r t r :: st) (hd : decode cc pc = .ok (.invokevirtual index, 3)) (hC : ∀ o', Y = some o' → g_Con (g_Kl K) (g_KG K) y cy ny ry dy (g_r t r :: avL) u (g_jTV o')) (h : g_cT (g_nn r Y) F = some o) (kk : ∀ u1, F () u1 = some o → g_W K u1 ls st (pc + 3) (g_jTV o)) : g_W K u ls stk pc (g_jTV o) := by
  cases r with
  | none => exact absurd h (by simp [g_cT, g_nn])
  | some b =>
    cases hY : Y with
    | none => rw [hY] at h; exact absurd h (by simp [g_cT, g_nn])
    | some o' =>
      rw [hY] at h
      obtain ⟨v | e0, u1⟩ := o'
      · exact i_V hK hq eq1 hin hse hlink hcode hini hy hlen hdd hwd hsk hd (hC _ hY) (kk u1 h)
      · cases h
        exact i_VT hK hX hq eq1 hin hse hlink hcode hini hy hlen hdd hwd hsk hd (hC _ hY) rfl
theorem r_VTvI {K : g_C} {cc : ByteArray} {own nm : String} {ret : Option FieldType} {u : g_St} {ls : List (Nat × g_V)} {st : List g_V} {pc : Nat} (hK : g_OK K cc own nm ret) (hX : g_noX K) {o : (Int32 ⊕ Nat) × g_St} {t : Nat} {r : Option Nat} {index ny dy : Nat} {y : MethodName} {cy : ByteArray} {ry : Option FieldType} {avL stk : List g_V} {Y : Option ((Unit ⊕ Nat) × g_St)} {F : Unit → g_St → Option ((Int32 ⊕ Nat) × g_St)} {q : g_O} (hq : q ∈ g_objs) (eq1 : q.1 = t) (hin : Cond.instanceMethod y ∈ g_tbl) (hse : Cond.selects q.2.1.1 y y ∈ g_tbl) (hlink : Cond.methodLink own index y ∈ g_tbl) (hcode : Cond.code y cy ny ry ∈ g_tbl) (hini : Cond.initialized y.cls ∈ g_tbl) (hy : y.cls ≠ "java/lang/invoke/MethodHandle" ∧ y.cls ≠ "java/lang/invoke/VarHandle") (hlen : (parseMethodDescriptor y.desc).map (fun z => z.parameters.length) = some avL.length)
    (hdd : dy + 1 ≤ g_Kd K) (hwd : g_wid st + ny + 11 ≤ 64) (hsk : stk = avL.reverse ++ g_r t r :: st) (hd : decode cc pc = .ok (.invokevirtual index, 3)) (hC : ∀ o', Y = some o' → g_Con (g_Kl K) (g_KG K) y cy ny ry dy (g_r t r :: avL) u (g_jTV o')) (h : g_cT (g_nn r Y) F = some o) (kk : ∀ u1, F () u1 = some o → g_W K u1 ls st (pc + 3) (g_jTI o)) : g_W K u ls stk pc (g_jTI o) := by
  cases r with
  | none => exact absurd h (by simp [g_cT, g_nn])
  | some b =>
    cases hY : Y with
    | none => rw [hY] at h; exact absurd h (by simp [g_cT, g_nn])
    | some o' =>
      rw [hY] at h
      obtain ⟨v | e0, u1⟩ := o'
      · exact i_V hK hq eq1 hin hse hlink hcode hini hy hlen hdd hwd hsk hd (hC _ hY) (kk u1 h)
      · cases h
        exact i_VT hK hX hq eq1 hin hse hlink hcode hini hy hlen hdd hwd hsk hd (hC _ hY) rfl
theorem r_VTvL {K : g_C} {cc : ByteArray} {own nm : String} {ret : Option FieldType} {u : g_St} {ls : List (Nat × g_V)} {st : List g_V} {pc : Nat} (hK : g_OK K cc own nm ret) (hX : g_noX K) {o : (Int64 ⊕ Nat) × g_St} {t : Nat} {r : Option Nat} {index ny dy : Nat} {y : MethodName} {cy : ByteArray} {ry : Option FieldType} {avL stk : List g_V} {Y : Option ((Unit ⊕ Nat) × g_St)} {F : Unit → g_St → Option ((Int64 ⊕ Nat) × g_St)} {q : g_O} (hq : q ∈ g_objs) (eq1 : q.1 = t) (hin : Cond.instanceMethod y ∈ g_tbl) (hse : Cond.selects q.2.1.1 y y ∈ g_tbl) (hlink : Cond.methodLink own index y ∈ g_tbl) (hcode : Cond.code y cy ny ry ∈ g_tbl) (hini : Cond.initialized y.cls ∈ g_tbl) (hy : y.cls ≠ "java/lang/invoke/MethodHandle" ∧ y.cls ≠ "java/lang/invoke/VarHandle") (hlen : (parseMethodDescriptor y.desc).map (fun z => z.parameters.length) = some avL.length)
    (hdd : dy + 1 ≤ g_Kd K) (hwd : g_wid st + ny + 11 ≤ 64) (hsk : stk = avL.reverse ++ g_r t r :: st) (hd : decode cc pc = .ok (.invokevirtual index, 3)) (hC : ∀ o', Y = some o' → g_Con (g_Kl K) (g_KG K) y cy ny ry dy (g_r t r :: avL) u (g_jTV o')) (h : g_cT (g_nn r Y) F = some o) (kk : ∀ u1, F () u1 = some o → g_W K u1 ls st (pc + 3) (g_jTL o)) : g_W K u ls stk pc (g_jTL o) := by
  cases r with
  | none => exact absurd h (by simp [g_cT, g_nn])
  | some b =>
    cases hY : Y with
    | none => rw [hY] at h; exact absurd h (by simp [g_cT, g_nn])
    | some o' =>
      rw [hY] at h
      obtain ⟨v | e0, u1⟩ := o'
      · exact i_V hK hq eq1 hin hse hlink hcode hini hy hlen hdd hwd hsk hd (hC _ hY) (kk u1 h)
      · cases h
        exact i_VT hK hX hq eq1 hin hse hlink hcode hini hy hlen hdd hwd hsk hd (hC _ hY) rfl
theorem r_VTiV {K : g_C} {cc : ByteArray} {own nm : String} {ret : Option FieldType} {u : g_St} {ls : List (Nat × g_V)} {st : List g_V} {pc : Nat} (hK : g_OK K cc own nm ret) (hX : g_noX K) {o : (Unit ⊕ Nat) × g_St} {t : Nat} {r : Option Nat} {index ny dy : Nat} {y : MethodName} {cy : ByteArray} {ry : Option FieldType} {avL stk : List g_V} {Y : Option ((Int32 ⊕ Nat) × g_St)} {F : Int32 → g_St → Option ((Unit ⊕ Nat) × g_St)} {q : g_O} (hq : q ∈ g_objs) (eq1 : q.1 = t) (hin : Cond.instanceMethod y ∈ g_tbl) (hse : Cond.selects q.2.1.1 y y ∈ g_tbl) (hlink : Cond.methodLink own index y ∈ g_tbl) (hcode : Cond.code y cy ny ry ∈ g_tbl) (hini : Cond.initialized y.cls ∈ g_tbl) (hy : y.cls ≠ "java/lang/invoke/MethodHandle" ∧ y.cls ≠ "java/lang/invoke/VarHandle") (hlen : (parseMethodDescriptor y.desc).map (fun z => z.parameters.length) = some avL.length)
    (hdd : dy + 1 ≤ g_Kd K) (hwd : g_wid st + ny + 11 ≤ 64) (hsk : stk = avL.reverse ++ g_r t r :: st) (hd : decode cc pc = .ok (.invokevirtual index, 3)) (hC : ∀ o', Y = some o' → g_Con (g_Kl K) (g_KG K) y cy ny ry dy (g_r t r :: avL) u (g_jTI o')) (h : g_cT (g_nn r Y) F = some o) (kk : ∀ x u1, F x u1 = some o → g_W K u1 ls (g_i x :: st) (pc + 3) (g_jTV o)) : g_W K u ls stk pc (g_jTV o) := by
  cases r with
  | none => exact absurd h (by simp [g_cT, g_nn])
  | some b =>
    cases hY : Y with
    | none => rw [hY] at h; exact absurd h (by simp [g_cT, g_nn])
    | some o' =>
      rw [hY] at h
      obtain ⟨v | e0, u1⟩ := o'
      · exact i_V hK hq eq1 hin hse hlink hcode hini hy hlen hdd hwd hsk hd (hC _ hY) (kk v u1 h)
      · cases h
        exact i_VT hK hX hq eq1 hin hse hlink hcode hini hy hlen hdd hwd hsk hd (hC _ hY) rfl
theorem r_VTiI {K : g_C} {cc : ByteArray} {own nm : String} {ret : Option FieldType} {u : g_St} {ls : List (Nat × g_V)} {st : List g_V} {pc : Nat} (hK : g_OK K cc own nm ret) (hX : g_noX K) {o : (Int32 ⊕ Nat) × g_St} {t : Nat} {r : Option Nat} {index ny dy : Nat} {y : MethodName} {cy : ByteArray} {ry : Option FieldType} {avL stk : List g_V} {Y : Option ((Int32 ⊕ Nat) × g_St)} {F : Int32 → g_St → Option ((Int32 ⊕ Nat) × g_St)} {q : g_O} (hq : q ∈ g_objs) (eq1 : q.1 = t) (hin : Cond.instanceMethod y ∈ g_tbl) (hse : Cond.selects q.2.1.1 y y ∈ g_tbl) (hlink : Cond.methodLink own index y ∈ g_tbl) (hcode : Cond.code y cy ny ry ∈ g_tbl) (hini : Cond.initialized y.cls ∈ g_tbl) (hy : y.cls ≠ "java/lang/invoke/MethodHandle" ∧ y.cls ≠ "java/lang/invoke/VarHandle") (hlen : (parseMethodDescriptor y.desc).map (fun z => z.parameters.length) = some avL.length)
    (hdd : dy + 1 ≤ g_Kd K) (hwd : g_wid st + ny + 11 ≤ 64) (hsk : stk = avL.reverse ++ g_r t r :: st) (hd : decode cc pc = .ok (.invokevirtual index, 3)) (hC : ∀ o', Y = some o' → g_Con (g_Kl K) (g_KG K) y cy ny ry dy (g_r t r :: avL) u (g_jTI o')) (h : g_cT (g_nn r Y) F = some o) (kk : ∀ x u1, F x u1 = some o → g_W K u1 ls (g_i x :: st) (pc + 3) (g_jTI o)) : g_W K u ls stk pc (g_jTI o) := by
  cases r with
  | none => exact absurd h (by simp [g_cT, g_nn])
  | some b =>
    cases hY : Y with
    | none => rw [hY] at h; exact absurd h (by simp [g_cT, g_nn])
    | some o' =>
      rw [hY] at h
      obtain ⟨v | e0, u1⟩ := o'
      · exact i_V hK hq eq1 hin hse hlink hcode hini hy hlen hdd hwd hsk hd (hC _ hY) (kk v u1 h)
      · cases h
        exact i_VT hK hX hq eq1 hin hse hlink hcode hini hy hlen hdd hwd hsk hd (hC _ hY) rfl
theorem r_VTiL {K : g_C} {cc : ByteArray} {own nm : String} {ret : Option FieldType} {u : g_St} {ls : List (Nat × g_V)} {st : List g_V} {pc : Nat} (hK : g_OK K cc own nm ret) (hX : g_noX K) {o : (Int64 ⊕ Nat) × g_St} {t : Nat} {r : Option Nat} {index ny dy : Nat} {y : MethodName} {cy : ByteArray} {ry : Option FieldType} {avL stk : List g_V} {Y : Option ((Int32 ⊕ Nat) × g_St)} {F : Int32 → g_St → Option ((Int64 ⊕ Nat) × g_St)} {q : g_O} (hq : q ∈ g_objs) (eq1 : q.1 = t) (hin : Cond.instanceMethod y ∈ g_tbl) (hse : Cond.selects q.2.1.1 y y ∈ g_tbl) (hlink : Cond.methodLink own index y ∈ g_tbl) (hcode : Cond.code y cy ny ry ∈ g_tbl) (hini : Cond.initialized y.cls ∈ g_tbl) (hy : y.cls ≠ "java/lang/invoke/MethodHandle" ∧ y.cls ≠ "java/lang/invoke/VarHandle") (hlen : (parseMethodDescriptor y.desc).map (fun z => z.parameters.length) = some avL.length)
    (hdd : dy + 1 ≤ g_Kd K) (hwd : g_wid st + ny + 11 ≤ 64) (hsk : stk = avL.reverse ++ g_r t r :: st) (hd : decode cc pc = .ok (.invokevirtual index, 3)) (hC : ∀ o', Y = some o' → g_Con (g_Kl K) (g_KG K) y cy ny ry dy (g_r t r :: avL) u (g_jTI o')) (h : g_cT (g_nn r Y) F = some o) (kk : ∀ x u1, F x u1 = some o → g_W K u1 ls (g_i x :: st) (pc + 3) (g_jTL o)) : g_W K u ls stk pc (g_jTL o) := by
  cases r with
  | none => exact absurd h (by simp [g_cT, g_nn])
  | some b =>
    cases hY : Y with
    | none => rw [hY] at h; exact absurd h (by simp [g_cT, g_nn])
    | some o' =>
      rw [hY] at h
      obtain ⟨v | e0, u1⟩ := o'
      · exact i_V hK hq eq1 hin hse hlink hcode hini hy hlen hdd hwd hsk hd (hC _ hY) (kk v u1 h)
      · cases h
        exact i_VT hK hX hq eq1 hin hse hlink hcode hini hy hlen hdd hwd hsk hd (hC _ hY) rfl
theorem r_thrV {K : g_C} {cc : ByteArray} {own nm : String} {ret : Option FieldType} {u : g_St} {ls : List (Nat × g_V)} {st : List g_V} {pc : Nat} (hK : g_OK K cc own nm ret) (hX : g_noX K) {o : (Unit ⊕ Nat) × g_St} {E tx : String} {e0 ix il ic ln : Nat} (he : g_exn[e0]? = some E) (hcl : Cond.classLink own ix E ∈ g_tbl) (hin : Cond.instantiable E 6 ∈ g_tbl) (hini : Cond.initialized E ∈ g_tbl) (hfit : Bundle.fit E = true)
    (hat : ∀ a ∈ Bundle.ownAtoms own ic E ["java/lang/RuntimeException", "java/lang/Exception"], g_atom a) (hst : (own, il, tx) ∈ g_strs) (hdd : 7 ≤ g_Kd K) (hw : g_wid st ≤ 64)
    (hd0 : decode cc pc = .ok (.new ix, 3)) (hd3 : decode cc (pc + 3) = .ok (.dup, 1)) (hd4 : g_ldS cc (pc + 4) il ln) (hd6 : decode cc (pc + 4 + ln) = .ok (.invokespecial ic, 3)) (hd9 : decode cc (pc + 4 + ln + 3) = .ok (.athrow, 1)) (h : g_thr u e0 = some o) : g_W K u ls st pc (g_jTV o) := by
  have hlim : g_cn u + 8 ≤ g_LC ∧ g_sn u + 512 ≤ g_LS := by
    by_cases w : g_cn u + 8 ≤ g_LC ∧ g_sn u + 512 ≤ g_LS
    · exact w
    · rw [g_thr, if_neg w] at h; cases h
  rw [g_thr, if_pos hlim] at h
  cases h
  exact g_throwW hK hX he hcl hin hini hfit hat hst hdd hw hd0 hd3 hd4 hd6 hd9 hlim rfl
theorem r_thrI {K : g_C} {cc : ByteArray} {own nm : String} {ret : Option FieldType} {u : g_St} {ls : List (Nat × g_V)} {st : List g_V} {pc : Nat} (hK : g_OK K cc own nm ret) (hX : g_noX K) {o : (Int32 ⊕ Nat) × g_St} {E tx : String} {e0 ix il ic ln : Nat} (he : g_exn[e0]? = some E) (hcl : Cond.classLink own ix E ∈ g_tbl) (hin : Cond.instantiable E 6 ∈ g_tbl) (hini : Cond.initialized E ∈ g_tbl) (hfit : Bundle.fit E = true)
    (hat : ∀ a ∈ Bundle.ownAtoms own ic E ["java/lang/RuntimeException", "java/lang/Exception"], g_atom a) (hst : (own, il, tx) ∈ g_strs) (hdd : 7 ≤ g_Kd K) (hw : g_wid st ≤ 64)
    (hd0 : decode cc pc = .ok (.new ix, 3)) (hd3 : decode cc (pc + 3) = .ok (.dup, 1)) (hd4 : g_ldS cc (pc + 4) il ln) (hd6 : decode cc (pc + 4 + ln) = .ok (.invokespecial ic, 3)) (hd9 : decode cc (pc + 4 + ln + 3) = .ok (.athrow, 1)) (h : g_thr u e0 = some o) : g_W K u ls st pc (g_jTI o) := by
  have hlim : g_cn u + 8 ≤ g_LC ∧ g_sn u + 512 ≤ g_LS := by
    by_cases w : g_cn u + 8 ≤ g_LC ∧ g_sn u + 512 ≤ g_LS
    · exact w
    · rw [g_thr, if_neg w] at h; cases h
  rw [g_thr, if_pos hlim] at h
  cases h
  exact g_throwW hK hX he hcl hin hini hfit hat hst hdd hw hd0 hd3 hd4 hd6 hd9 hlim rfl
theorem r_thrL {K : g_C} {cc : ByteArray} {own nm : String} {ret : Option FieldType} {u : g_St} {ls : List (Nat × g_V)} {st : List g_V} {pc : Nat} (hK : g_OK K cc own nm ret) (hX : g_noX K) {o : (Int64 ⊕ Nat) × g_St} {E tx : String} {e0 ix il ic ln : Nat} (he : g_exn[e0]? = some E) (hcl : Cond.classLink own ix E ∈ g_tbl) (hin : Cond.instantiable E 6 ∈ g_tbl) (hini : Cond.initialized E ∈ g_tbl) (hfit : Bundle.fit E = true)
    (hat : ∀ a ∈ Bundle.ownAtoms own ic E ["java/lang/RuntimeException", "java/lang/Exception"], g_atom a) (hst : (own, il, tx) ∈ g_strs) (hdd : 7 ≤ g_Kd K) (hw : g_wid st ≤ 64)
    (hd0 : decode cc pc = .ok (.new ix, 3)) (hd3 : decode cc (pc + 3) = .ok (.dup, 1)) (hd4 : g_ldS cc (pc + 4) il ln) (hd6 : decode cc (pc + 4 + ln) = .ok (.invokespecial ic, 3)) (hd9 : decode cc (pc + 4 + ln + 3) = .ok (.athrow, 1)) (h : g_thr u e0 = some o) : g_W K u ls st pc (g_jTL o) := by
  have hlim : g_cn u + 8 ≤ g_LC ∧ g_sn u + 512 ≤ g_LS := by
    by_cases w : g_cn u + 8 ≤ g_LC ∧ g_sn u + 512 ≤ g_LS
    · exact w
    · rw [g_thr, if_neg w] at h; cases h
  rw [g_thr, if_pos hlim] at h
  cases h
  exact g_throwW hK hX he hcl hin hini hfit hat hst hdd hw hd0 hd3 hd4 hd6 hd9 hlim rfl
