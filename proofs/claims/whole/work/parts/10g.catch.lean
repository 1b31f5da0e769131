/-! METHODS THAT CATCH -/
def g_hX (K : g_C) (hs : List (Nat × Nat × Nat × Nat)) : Prop := (K.2.2.2.2.2.2.2.2.1.exceptionTable.toList.map fun h => (h.startPc, h.endPc, h.handlerPc, h.catchType)) = hs
def g_ConX (l : Launch) (G : g_G) (y : MethodName) (cc : ByteArray) (nL : Nat) (ret : Option FieldType) (hs : List (Nat × Nat × Nat × Nat)) (d : Nat) (av : List g_V) (u : g_St) (out : g_Out) : Prop :=
  ∀ ad : Nat → Nat, l.stackTraces = false → g_okS u av → MetFree l y (headSpec [Cond.codeWith y cc nL ret hs] (g_room d u)) (fun a s => a = (av.map (g_v ad)).toArray ∧ g_Rep G u ad s.heap ∧ g_Kn G s) (fun _ _ _ _ _ => True) (fun _ s o t => g_End G u ad out o t ∧ g_Fr G u out s t)
set_option maxHeartbeats 1000000 in
theorem g_ConX.of {l : Launch} {G : g_G} {y : MethodName} {cc : ByteArray} {nL : Nat} {ret : Option FieldType} {hs : List (Nat × Nat × Nat × Nat)} {d : Nat} {av : List g_V} {u : g_St} {out : g_Out} {own nm : String} (eo : y.cls = own) (en : y.name = nm)
    (hy : plainName y.cls = true) (hw : g_wid av ≤ nL)
    (body : ∀ K : g_C, g_OK K cc own nm ret → g_nL K = nL → g_Kd K = d → g_hX K hs → g_W K u (g_loc 0 av) [] 0 out) : g_ConX l G y cc nL ret hs d av u out := by
  intro ad htr hok
  refine MetFree.of_bodyS (code := cc) (maxLocals := nL) (ret := ret) hy ?_ ?_
  · intro args s m h hn
    obtain ⟨m', meth, c, hn', h1, h2, h3, h4, -, h5, h6, -⟩ := Cond.codeWith_spec (atoms_spec (ws := [Cond.codeWith y cc nL ret hs]) h _ List.mem_cons_self)
    cases hn.symm.trans hn'
    exact ⟨meth, c, h1, h2, h3, h4, h5, h6⟩
  · intro p e s m args below meth c s₁ B hml hP _
    obtain ⟨rfl, hR, hKn⟩ := hP
    have hh0 : s₁.heap = s.heap := by rw [B.state]; rfl
    obtain ⟨m', meth', c', hn', h1, h2, -, -, htab, -, -, -⟩ := Cond.codeWith_spec (atoms_spec (ws := [Cond.codeWith y cc nL ret hs]) B.pre _ List.mem_cons_self)
    cases B.named.symm.trans hn'
    cases B.method.symm.trans h1
    cases (Stand.of_body B).code.symm.trans h2
    have hmn : meth.name = nm := by rw [← en]; exact (name_of_methodNamed B.named B.method).1
    have hown : s.vm.findClass own = some m.cls := by rw [← eo]; exact findClass_of_methodNamed B.named
    have k := body (p, l, e, s, m, (av.map (g_v ad)).toArray, below, meth, c, nL, d, u, ad, G) ⟨B.exec, B.bytes, hml, hown, fun w hw => hKn.2.2.1 w hw _, hKn, B.notSynchronized, hmn, B.returns, htr⟩ rfl rfl htab
    have hla := lv_entry (av.map (g_v ad)) (n := nL) (by rw [g_wid_eq]; exact hw)
    rw [g_loc_map] at hla
    have k2 := k ad s.heap [] _ hR ⟨fun a ha => ⟨ha, rfl⟩, Nat.le_refl _, Nat.le_refl _⟩ (g_loc_ok av 0 hok) (fun v hv => by cases hv) (fun q hq => by cases hq) hla
    rw [Nat.sub_self, Nat.sub_self] at k2
    have k3 : W p l e (g_room d u) s m (av.map (g_v ad)).toArray below meth c s.heap [] 0 0 (g_Q G u ad s below out) (entryFrame m (av.map (g_v ad)).toArray nL) := by
      rw [lg_entry_eq]
      exact k2
    obtain ⟨t, a1, o, b1, b2, b3, b4⟩ := k3 s₁ hh0 (Stand.of_body B)
    exact ⟨t, o, a1, b1, b2, b3, b4⟩
set_option maxHeartbeats 1000000 in
/-- a callee that returns, for a walk's own call -/
theorem g_backX {p : Program} {l : Launch} {e : Env} {s : State} {args : Array Value} {below : List Frame} {G : g_G} {u0 u : g_St} {ad : Nat → Nat} {y : MethodName} {cy : ByteArray} {ny : Nat} {ry : Option FieldType} {hs : List (Nat × Nat × Nat × Nat)} {d dy wd : Nat} {av : List g_V} {v : Option g_V} {u1 : g_St}
    (hC : g_ConX l G y cy ny ry hs dy av u (.inl v, u1)) (htr : l.stackTraces = false) (hok : g_okS u av) (hKn : g_Kn G s) (hE : g_cn u0 ≤ g_cn u ∧ g_sn u0 ≤ g_sn u) (hdd : dy + 1 ≤ d) (hw : wd + ny + 11 ≤ 64) (hcode : Cond.codeWith y cy ny ry hs ∈ g_tbl) (hini : Cond.initialized y.cls ∈ g_tbl) :
    Back l (g_room d u0) p e below s args y 3 wd
      (fun A a => a = (av.map (g_v ad)).toArray ∧ g_Rep G u ad A.U.heap ∧ A.cells = g_cn u - g_cn u0 ∧ A.slots = g_sn u - g_sn u0)
      (fun A _ w B => ∃ ad1, w = v.map (g_v ad1) ∧ g_Rep G u1 ad1 B.U.heap ∧ g_Le u ad u1 ad1 ∧ (∀ x, v = some x → g_okV u1 x) ∧ B.cells = g_cn u1 - g_cn u0 ∧ B.slots = g_sn u1 - g_sn u0 ∧ ∃ L, B.locs = A.locs ++ L ∧ ∀ q ∈ L, g_b0 G ≤ q.base) := by
  refine Back.of_freeWith (handlers := hs) (S := headSpec [Cond.codeWith y cy ny ry hs] (g_room dy u)) (K := fun _ _ _ _ _ => True) (bytes := cy) (maxL := ny) (ret := ry) (E := fun a st o t L k n => k = g_cn u1 - g_cn u ∧ n = g_sn u1 - g_sn u ∧ (∃ ad1, o = .returned (v.map (g_v ad1)) ∧ g_Rep G u1 ad1 t.heap ∧ g_Le u ad u1 ad1 ∧ ∀ w, v = some w → g_okV u1 w) ∧ ∀ q ∈ L, g_b0 G ≤ q.base) (hC ad htr hok) ?_ ?_ ?_ ?_ (fun _ _ _ _ _ _ _ _ _ => trivial) ?_ ?_
  · exact hdd
  · show wd + (ny + 11) + 64 * dy ≤ 64 * d
    omega
  · intro m meth c A a X hp
    have hm := hKn.moved X.warmed
    have h6 := hp.2.1.2.2.2.2.2.1
    have h7 := hp.2.1.2.2.2.2.2.2.1
    refine ⟨atoms_intro fun w hw => by rw [List.mem_singleton.mp hw]; exact hm.2.2.1 _ hcode _, hm.2.2.1 _ hcode _, hm.2.2.1 _ hini _, ?_, ?_⟩
    · show A.cells + (g_LC - g_cn u) ≤ g_LC - g_cn u0
      rw [hp.2.2.1]
      omega
    · show A.slots + (g_LS - g_sn u) ≤ g_LS - g_sn u0
      rw [hp.2.2.2]
      omega
  · intro m meth c A a g mk X hp
    have hm := hKn.moved X.warmed
    exact ⟨hp.1, hp.2.1, g_Kn.moved (U := A.U.calling g mk a) (State.WarmedH.refl A.U) hm⟩
  · intro a first o t hq
    obtain ⟨⟨ad1, h1, h2, h3, h4⟩, hW, L, h5, h6⟩ := hq
    exact ⟨L, _, _, ⟨⟨_, h1⟩, hW, h5⟩, rfl, rfl, ⟨ad1, h1, h2, h3, h4⟩, h6⟩
  · intro m meth c A a g mk w t L k n X hp hq hF hEE
    obtain ⟨rfl, rfl, ⟨ad1, h1, h2, h3, h4⟩, h6⟩ := hEE
    refine ⟨ad1, by cases h1; rfl, h2, h3, h4, ?_, ?_, L, rfl, h6⟩
    · show A.cells + (g_cn u1 - g_cn u) = g_cn u1 - g_cn u0
      have := h3.2.1
      rw [hp.2.2.1]
      omega
    · show A.slots + (g_sn u1 - g_sn u) = g_sn u1 - g_sn u0
      have := h3.2.2
      rw [hp.2.2.2]
      omega
theorem g_callSX {p : Program} {l : Launch} {e : Env} {R : Room} {s : State} {m : MethodId} {args : Array Value} {below : List Frame} {meth : Method} {c : Code} {T : State} {locs : List Loc} {cells slots : Nat} (X : Stand p l e R s m args below meth c T locs cells slots) (hexec : p.tables.exec = Jvm.exec) {own : String} {index : Nat} {y : MethodName} {bytes : ByteArray} {maxL : Nat} {ret : Option FieldType} {hs : List (Nat × Nat × Nat × Nat)}
    (hown : s.vm.findClass own = some m.cls) (hlink : (Cond.methodLink own index y).before args s = true) (hstat : (Cond.static y).before args s = true) (hinit : (Cond.initialized y.cls).before args s = true)
    (hcode : (Cond.codeWith y bytes maxL ret hs).before args s = true) (hy : y.cls ≠ "java/lang/invoke/MethodHandle" ∧ y.cls ≠ "java/lang/invoke/VarHandle")
    {wd : Nat} {Pre : Pt → Array Value → Prop} {Post : Pt → Array Value → Option Value → Pt → Prop} (hK : Back l R p e below s args y 3 wd Pre Post)
    {g : JFrame} (hg : g.method = m) (hsize : g.locals.size = c.maxLocals) {argsL rest : List Value} (hlen : ∀ sig, parseMethodDescriptor y.desc = some sig → argsL.length = sig.parameters.length)
    (hstack : g.stack = argsL.reverse ++ rest) (hW : 2 * g.monitorRoom + (rest.map fun v => v.category).sum ≤ wd) (hdg : decode c.code g.pc = .ok (.invokestatic index, 3))
    (hpre : ∀ vm₁, s.WarmedH vm₁ → Pre ⟨T.setVm vm₁, locs, cells, slots⟩ argsL.toArray) :
    ∃ (v : Option Value) (vm₁ : Vm) (B : Pt), s.WarmedH vm₁ ∧ Stand p l e R s m args below meth c B.U B.locs B.cells B.slots ∧ Post ⟨T.setVm vm₁, locs, cells, slots⟩ argsL.toArray v B ∧
      ∀ target, Steps p.tables e below (B.U.setTop { g with pc := g.pc + 3, stack := v.toList ++ rest }) target → Steps p.tables e below (T.setTop g) target := by
  obtain ⟨mk, methM, cM, hnamed, hmethM, -, -, -, -, -, -, hsigM⟩ := Cond.codeWith_spec hcode
  have hstatic : methM.isStatic = true := Cond.static_spec hnamed hmethM hstat
  obtain ⟨kP, hkP, -⟩ := className_of_methodNamed hnamed
  have hinitP : kP.init = .initialized := Cond.initialized_spec (findClass_of_methodNamed hnamed) hkP hinit
  obtain ⟨vm₁, X₁, hstep₁⟩ := X.invokestatic hexec hown hlink hnamed hmethM hstatic hkP hinitP hy (g := g) hg (argsL := argsL) (rest := rest) (hlen _ hsigM) hstack hdg
  obtain ⟨v, B, X', hpost, hsteps⟩ := hK m meth c ⟨T.setVm vm₁, locs, cells, slots⟩ { g with stack := rest } (.invokestatic index) mk argsL.toArray X₁ hg hsize hdg hW (X₁.named hnamed) (hpre vm₁ X₁.warmed)
  exact ⟨v, vm₁, B, X₁.warmed, X', hpost, fun target h => hstep₁ _ fun acts => by rw [doInvoke_state]; exact hsteps.trans h⟩
set_option maxHeartbeats 1000000 in
theorem i_SX {K : g_C} {cc : ByteArray} {own nm : String} {ret : Option FieldType} {u : g_St} {ls : List (Nat × g_V)} {st : List g_V} {pc : Nat} {out : g_Out} (hK : g_OK K cc own nm ret) {index ny dy : Nat} {y : MethodName} {cy : ByteArray} {ry : Option FieldType} {hs : List (Nat × Nat × Nat × Nat)} {avL stk : List g_V} {v : Option g_V} {u1 : g_St} (hsta : Cond.static y ∈ g_tbl) 
    (hlink : Cond.methodLink own index y ∈ g_tbl) (hcode : Cond.codeWith y cy ny ry hs ∈ g_tbl) (hini : Cond.initialized y.cls ∈ g_tbl) (hy : y.cls ≠ "java/lang/invoke/MethodHandle" ∧ y.cls ≠ "java/lang/invoke/VarHandle") (hlen : (parseMethodDescriptor y.desc).map (fun z => z.parameters.length) = some avL.length)
    (hdd : dy + 1 ≤ g_Kd K) (hwd : g_wid st + ny + 11 ≤ 64) (hsk : stk = avL.reverse ++ st) (hd : decode cc pc = .ok (.invokestatic index, 3)) (hC : g_ConX (g_Kl K) (g_KG K) y cy ny ry hs dy avL u (.inl v, u1)) (kk : g_W K u1 ls (v.toList ++ st) (pc + 3) out) : g_W K u ls stk pc out := by
  subst hsk
  obtain ⟨p, l, e, s, m, args, below, meth, c, nL, d, u0, ad0, G⟩ := K
  obtain ⟨hx, hb, hml, hown, hts, hKn, hlk, hnm, hret, htr⟩ := hK
  intro ad H locs la hR hE hL hS hlo hla
  intro T hT X
  have hokr := hS.app
  have hok : g_okS u avL := fun x hx => hokr.1 x (List.mem_reverse.mpr hx)
  have hB := g_backX (p := p) (l := l) (G := G) (e := e) (s := s) (args := args) (below := below) (u0 := u0) (ad := ad) (d := d) (wd := g_wid st) hC htr hok hKn hE.2 hdd hwd hcode hini
  have hstk : (F0 m pc la ((avL.reverse ++ st).map (g_v ad))).stack = (avL.map (g_v ad)).reverse ++ st.map (g_v ad) := by
    show (avL.reverse ++ st).map (g_v ad) = _
    rw [List.map_append, List.map_reverse]
  have hlen2 : ∀ sig, parseMethodDescriptor y.desc = some sig → (avL.map (g_v ad)).length = sig.parameters.length := fun sig hsig => by
    rw [hsig] at hlen
    rw [List.length_map]
    exact (Option.some.inj hlen).symm
  have hwd2 : 2 * (F0 m pc la ((avL.reverse ++ st).map (g_v ad))).monitorRoom + ((st.map (g_v ad)).map fun v => v.category).sum ≤ g_wid st := by
    rw [g_cats]
    show 2 * 0 + g_wid st ≤ g_wid st
    omega
  have hpre : ∀ vm1, s.WarmedH vm1 → (avL.map (g_v ad)).toArray = (avL.map (g_v ad)).toArray ∧ g_Rep G u ad ((T.setVm vm1 : State)).heap ∧ g_cn u - g_cn u0 = g_cn u - g_cn u0 ∧ g_sn u - g_sn u0 = g_sn u - g_sn u0 := fun vm1 _ => ⟨rfl, by show g_Rep G u ad T.heap; rw [hT]; exact hR, rfl, rfl⟩
  have := g_callSX X hx hown (hts _ hlink) (hts _ hsta) (hts _ hini) (hts _ hcode) hy hB (g := F0 m pc la ((avL.reverse ++ st).map (g_v ad))) rfl (by rw [hml]; exact hla.1) hlen2 hstk hwd2 (by rw [hb]; exact hd) hpre
  obtain ⟨w, vm1, B, hW1, X1, ⟨ad1, e1, hR1, hE1, hv1, hB1, hB2, L, hL1, hL2⟩, hst⟩ := this
  have ha1 : ∀ a, g_al u a → ad1 a = ad a := fun a ha => (hE1.1 a ha).2
  have hmo : ∀ a, g_al u a → g_al u1 a := fun a ha => (hE1.1 a ha).1
  have hSt : g_okS u st := hokr.2
  have k9 := kk ad1 B.U.heap B.locs la hR1 (hE.trans hE1) (hL.mono hmo) (fun x hx => by
    rcases List.mem_append.mp hx with z | z
    · exact hv1 x (Option.mem_toList.mp z)
    · exact (hSt x z).mono hmo) (fun q hq => by
    rw [hL1] at hq
    rcases List.mem_append.mp hq with z | z
    · exact hlo q z
    · exact hL2 q z) (by rw [g_ls_eq ha1 hL]; exact hla)
  rw [← hB1, ← hB2] at k9
  obtain ⟨t9, a9, b9⟩ := k9 B.U rfl X1
  refine ⟨t9, hst t9 ?_, b9⟩
  rw [List.map_append, g_st_eq ha1 hSt] at a9
  rw [e1]
  have e9 : (v.map (g_v ad1)).toList = v.toList.map (g_v ad1) := by cases v <;> rfl
  rw [e9]
  exact a9
theorem r_SXi {K : g_C} {cc : ByteArray} {own nm : String} {ret : Option FieldType} {u : g_St} {ls : List (Nat × g_V)} {st : List g_V} {pc : Nat} {out : g_Out} (hK : g_OK K cc own nm ret) {α : Type} {o : α} {index ny dy : Nat} {y : MethodName} {cy : ByteArray} {ry : Option FieldType} {hs : List (Nat × Nat × Nat × Nat)} {avL stk : List g_V} {Y : Option (Int32 × g_St)} {F : Int32 → g_St → Option α} (hsta : Cond.static y ∈ g_tbl) (hlink : Cond.methodLink own index y ∈ g_tbl) (hcode : Cond.codeWith y cy ny ry hs ∈ g_tbl) (hini : Cond.initialized y.cls ∈ g_tbl) (hy : y.cls ≠ "java/lang/invoke/MethodHandle" ∧ y.cls ≠ "java/lang/invoke/VarHandle") (hlen : (parseMethodDescriptor y.desc).map (fun z => z.parameters.length) = some avL.length)
    (hdd : dy + 1 ≤ g_Kd K) (hwd : g_wid st + ny + 11 ≤ 64) (hsk : stk = avL.reverse ++ st) (hd : decode cc pc = .ok (.invokestatic index, 3)) (hC : ∀ o', Y = some o' → g_ConX (g_Kl K) (g_KG K) y cy ny ry hs dy avL u (g_jI o')) (h : g_c Y F = some o) (kk : ∀ x u1, F x u1 = some o → g_W K u1 ls (g_i x :: st) (pc + 3) out) : g_W K u ls stk pc out := by
  cases hY : Y with
  | none => rw [hY] at h; exact absurd h (by simp [g_c])
  | some o' =>
    rw [hY] at h
    obtain ⟨x, u1⟩ := o'
    exact i_SX hK hsta hlink hcode hini hy hlen hdd hwd hsk hd (hC _ hY) (kk x u1 h)
/-- the exception's place -/
def g_asO (cc : ByteArray) (pc i ln : Nat) : Prop := (ln = 1 ∧ ∃ f : Fin 4, (f : Nat) = i ∧ decode cc pc = .ok (.astore_n f, 1)) ∨ (ln = 2 ∧ decode cc pc = .ok (.astore i, 2))
/-- where what e names is caught -/
def g_Cat (K : g_C) (cc : ByteArray) (own : String) (hs : List (Nat × Nat × Nat × Nat)) (pc e : Nat) (u1 : g_St) (out : g_Out) : Prop := ∃ (pre : List (Nat × Nat × Nat × Nat)) (row : Nat × Nat × Nat × Nat) (post : List (Nat × Nat × Nat × Nat)) (E : String) (i ln : Nat), hs = pre ++ row :: post ∧ g_exn[e]? = some E ∧ (row.1 ≤ pc ∧ pc < row.2.1) ∧ row.2.2.2 ≠ 0 ∧ Cond.classLink own row.2.2.2 E ∈ g_tbl ∧ (∀ q ∈ pre, ∃ N ∈ g_exn, N ≠ E ∧ q.2.2.2 ≠ 0 ∧ Cond.classLink own q.2.2.2 N ∈ g_tbl) ∧ i < g_nL K ∧ g_asO cc row.2.2.1 i ln ∧ g_W K u1 [] [] (row.2.2.1 + ln) out
set_option maxHeartbeats 2000000 in
theorem i_VC {K : g_C} {cc : ByteArray} {own nm : String} {ret : Option FieldType} {u : g_St} {ls : List (Nat × g_V)} {st : List g_V} {pc : Nat} {out : g_Out} (hK : g_OK K cc own nm ret) {hs : List (Nat × Nat × Nat × Nat)} (hX : g_hX K hs) {t b : Nat} {index ny dy e0 : Nat} {y : MethodName} {cy : ByteArray} {ry : Option FieldType} {avL stk : List g_V} {u1 : g_St} {q : g_O} (hq : q ∈ g_objs) (eq1 : q.1 = t) (hin : Cond.instanceMethod y ∈ g_tbl) (hse : Cond.selects q.2.1.1 y y ∈ g_tbl)
    (hlink : Cond.methodLink own index y ∈ g_tbl) (hcode : Cond.code y cy ny ry ∈ g_tbl) (hini : Cond.initialized y.cls ∈ g_tbl) (hy : y.cls ≠ "java/lang/invoke/MethodHandle" ∧ y.cls ≠ "java/lang/invoke/VarHandle") (hlen : (parseMethodDescriptor y.desc).map (fun z => z.parameters.length) = some avL.length)
    (hdd : dy + 1 ≤ g_Kd K) (hwd : g_wid st + ny + 11 ≤ 64) (hsk : stk = avL.reverse ++ g_r t (some b) :: st) (hd : decode cc pc = .ok (.invokevirtual index, 3)) (hC : g_Con (g_Kl K) (g_KG K) y cy ny ry dy (g_r t (some b) :: avL) u (.inr e0, u1)) (hcat : g_Cat K cc own hs pc e0 u1 out) : g_W K u ls stk pc out := by
  subst hsk
  obtain ⟨p, l, e, s, m, args, below, meth, c, nL, d, u0, ad0, G⟩ := K
  obtain ⟨hx, hb, hml, hown, hts, hKn, hlk, hnm, hret, htr⟩ := hK
  obtain ⟨pre, row, post, E, i, ln, hh, hE0, hcov, hct, hcl, hpre, hin9, has, kk⟩ := hcat
  intro ad H locs la hR hE hL hS hlo hla T hT X
  have hokr := hS.app
  have hok : g_okS u (g_r t (some b) :: avL) := (show g_okS u avL from fun x hx => hokr.1 x (List.mem_reverse.mpr hx)).cons hokr.2.hd
  obtain ⟨x, cell, n, ad1, B, L, XB, hLb, b1, b2, b3, b4, b5, b6, hsteps⟩ := g_callT (st := st) (la := la) X hx hb (by rw [hml]; exact hla.1) hown hKn htr (by rw [hT]; exact hR) hE hq eq1 hin hse hlink hcode hini hy hlen hdd hwd hd hC hok
  cases hE0.symm.trans b3
  have b4s : s.vm.findClass E = some cell.cls := by rw [← XB.warmed.alike.findClass]; exact b4
  have hX : (c.exceptionTable.toList.map fun h => (h.startPc, h.endPc, h.handlerPc, h.catchType)) = hs := hX
  rw [hh] at hX
  obtain ⟨l1, l2, hl, hl1, hl2⟩ := List.map_eq_append_iff.mp hX
  obtain ⟨xE, l3, rfl, hxE, hl3⟩ := List.map_eq_cons_iff.mp hl2
  have hpl : e.platform.magicAccessors = ({} : Platform).magicAccessors := by rw [XB.admits.platform]
  have hpass : ∀ z ∈ l1, RowPassed e.platform s m.cls (F0 m pc la (st.map (g_v ad))).pc cell.cls z := by
    intro z hz
    obtain ⟨N, hN, hNE, h0, hlk2⟩ := hpre (z.startPc, z.endPc, z.handlerPc, z.catchType) (by rw [← hl1]; exact List.mem_map.mpr ⟨z, hz, rfl⟩)
    obtain ⟨c', hc', hcl'⟩ := Cond.classLink_spec hown (hts _ hlk2) e.platform hpl
    obtain ⟨ca, cb, f1, f2, f3⟩ := hKn.2.2.2.2.2.2.2.2.2.2.2.1 E (List.mem_of_getElem? hE0) N hN (Ne.symm hNE)
    cases f1.symm.trans b4s
    cases f2.symm.trans hc'
    exact Or.inr ⟨h0, c', hcl', f3⟩
  have hx1 : xE.startPc = row.1 ∧ xE.endPc = row.2.1 ∧ xE.handlerPc = row.2.2.1 ∧ xE.catchType = row.2.2.2 := by rw [← hxE]; exact ⟨rfl, rfl, rfl, rfl⟩
  have hcv : covers xE (F0 m pc la (st.map (g_v ad))).pc = true := by
    show (decide (xE.startPc ≤ pc) && decide (pc < xE.endPc)) = true
    rw [hx1.1, hx1.2.1]
    simp [hcov.1, hcov.2]
  obtain ⟨hend, hk0⟩ := XB.catches_of_link hown (x := xE) (by rw [hx1.2.2.2]; exact hct) (by rw [hx1.2.2.2]; exact hts _ hcl) b4s (va_asg s.vm cell.cls)
  obtain ⟨vm', XV, hst2⟩ := XB.thenCaughtThrough x (g := F0 m pc la (st.map (g_v ad))) rfl hsteps b1 b2 hk0 l1 xE l3 hl hpass hcv hend
  have k1 : W p l e (g_room d u0) s m args below meth c B.heap (locs ++ L) (g_cn u1 - g_cn u0) (g_sn u1 - g_sn u0) (g_Q G u0 ad0 s below out) (F0 m row.2.2.1 la [.ref x]) := by
    have kf : ∀ la1 : Array Slot, lv_has la1 nL [] → W p l e (g_room d u0) s m args below meth c B.heap (locs ++ L) (g_cn u1 - g_cn u0) (g_sn u1 - g_sn u0) (g_Q G u0 ad0 s below out) (F0 m (row.2.2.1 + ln) la1 []) := fun la1 hla1 =>
      kk ad1 B.heap (locs ++ L) la1 b5 (hE.trans b6) (fun q hq => by cases hq) (fun q hq => by cases hq) (fun z hz => by
        rcases List.mem_append.mp hz with w | w
        · exact hlo _ w
        · exact hLb _ w) hla1
    rcases has with ⟨rfl, f, hf, hda⟩ | ⟨rfl, hda⟩
    · exact lv_astore_n hx hb hda hf hla hin9 rfl (fun la1 hla1 => kf la1 ⟨hla1.1, hla1.2.1, fun q hq => by cases hq⟩)
    · exact lv_astore hx hb hda hla hin9 rfl (fun la1 hla1 => kf la1 ⟨hla1.1, hla1.2.1, fun q hq => by cases hq⟩)
  obtain ⟨t9, a9, b9⟩ := k1 (B.setVm vm') rfl XV
  refine ⟨t9, ?_, b9⟩
  have e9 : (avL.reverse ++ g_r t (some b) :: st).map (g_v ad) = (avL.map (g_v ad)).reverse ++ .ref (ad b) :: st.map (g_v ad) := by
    rw [List.map_append, List.map_reverse]
    rfl
  rw [e9]
  rw [hx1.2.2.1] at hst2
  exact hst2.trans a9
def g_cC {α β : Type} (x : Option ((α ⊕ Nat) × g_St)) (F : α → g_St → Option β) (Hd : Nat → g_St → Option β) : Option β := match x with
  | none => none
  | some q => match q.1 with
    | .inl v => F v q.2
    | .inr e => Hd e q.2
theorem r_VCi {K : g_C} {cc : ByteArray} {own nm : String} {ret : Option FieldType} {u : g_St} {ls : List (Nat × g_V)} {st : List g_V} {pc : Nat} {out : g_Out} (hK : g_OK K cc own nm ret) {hs : List (Nat × Nat × Nat × Nat)} (hX : g_hX K hs) {α : Type} {o : α} {t : Nat} {r : Option Nat} {index ny dy : Nat} {y : MethodName} {cy : ByteArray} {ry : Option FieldType} {avL stk : List g_V} {Y : Option ((Int32 ⊕ Nat) × g_St)} {F : Int32 → g_St → Option α} {Hd : Nat → g_St → Option α} {q : g_O} (hq : q ∈ g_objs) (eq1 : q.1 = t) (hin : Cond.instanceMethod y ∈ g_tbl) (hse : Cond.selects q.2.1.1 y y ∈ g_tbl) (hlink : Cond.methodLink own index y ∈ g_tbl) (hcode : Cond.code y cy ny ry ∈ g_tbl) (hini : Cond.initialized y.cls ∈ g_tbl) (hy : y.cls ≠ "java/lang/invoke/MethodHandle" ∧ y.cls ≠ "java/lang/invoke/VarHandle") (hlen : (parseMethodDescriptor y.desc).map (fun z => z.parameters.length) = some avL.length)
    (hdd : dy + 1 ≤ g_Kd K) (hwd : g_wid st + ny + 11 ≤ 64) (hsk : stk = avL.reverse ++ g_r t r :: st) (hd : decode cc pc = .ok (.invokevirtual index, 3)) (hC : ∀ o', Y = some o' → g_Con (g_Kl K) (g_KG K) y cy ny ry dy (g_r t r :: avL) u (g_jTI o')) (h : g_cC (g_nn r Y) F Hd = some o) (kk : ∀ x u1, F x u1 = some o → g_W K u1 ls (g_i x :: st) (pc + 3) out) (kh : ∀ e u1, Hd e u1 = some o → g_Cat K cc own hs pc e u1 out) : g_W K u ls stk pc out := by
  cases r with
  | none => exact absurd h (by simp [g_cC, g_nn])
  | some b =>
    cases hY : Y with
    | none => rw [hY] at h; exact absurd h (by simp [g_cC, g_nn])
    | some o' =>
      rw [hY] at h
      obtain ⟨v | e0, u1⟩ := o'
      · exact i_V hK hq eq1 hin hse hlink hcode hini hy hlen hdd hwd hsk hd (hC _ hY) (kk v u1 h)
      · exact i_VC hK hX hq eq1 hin hse hlink hcode hini hy hlen hdd hwd hsk hd (hC _ hY) (kh e0 u1 h)
theorem r_VCl {K : g_C} {cc : ByteArray} {own nm : String} {ret : Option FieldType} {u : g_St} {ls : List (Nat × g_V)} {st : List g_V} {pc : Nat} {out : g_Out} (hK : g_OK K cc own nm ret) {hs : List (Nat × Nat × Nat × Nat)} (hX : g_hX K hs) {α : Type} {o : α} {t : Nat} {r : Option Nat} {index ny dy : Nat} {y : MethodName} {cy : ByteArray} {ry : Option FieldType} {avL stk : List g_V} {Y : Option ((Int64 ⊕ Nat) × g_St)} {F : Int64 → g_St → Option α} {Hd : Nat → g_St → Option α} {q : g_O} (hq : q ∈ g_objs) (eq1 : q.1 = t) (hin : Cond.instanceMethod y ∈ g_tbl) (hse : Cond.selects q.2.1.1 y y ∈ g_tbl) (hlink : Cond.methodLink own index y ∈ g_tbl) (hcode : Cond.code y cy ny ry ∈ g_tbl) (hini : Cond.initialized y.cls ∈ g_tbl) (hy : y.cls ≠ "java/lang/invoke/MethodHandle" ∧ y.cls ≠ "java/lang/invoke/VarHandle") (hlen : (parseMethodDescriptor y.desc).map (fun z => z.parameters.length) = some avL.length)
    (hdd : dy + 1 ≤ g_Kd K) (hwd : g_wid st + ny + 11 ≤ 64) (hsk : stk = avL.reverse ++ g_r t r :: st) (hd : decode cc pc = .ok (.invokevirtual index, 3)) (hC : ∀ o', Y = some o' → g_Con (g_Kl K) (g_KG K) y cy ny ry dy (g_r t r :: avL) u (g_jTL o')) (h : g_cC (g_nn r Y) F Hd = some o) (kk : ∀ x u1, F x u1 = some o → g_W K u1 ls (g_l x :: st) (pc + 3) out) (kh : ∀ e u1, Hd e u1 = some o → g_Cat K cc own hs pc e u1 out) : g_W K u ls stk pc out := by
  cases r with
  | none => exact absurd h (by simp [g_cC, g_nn])
  | some b =>
    cases hY : Y with
    | none => rw [hY] at h; exact absurd h (by simp [g_cC, g_nn])
    | some o' =>
      rw [hY] at h
      obtain ⟨v | e0, u1⟩ := o'
      · exact i_V hK hq eq1 hin hse hlink hcode hini hy hlen hdd hwd hsk hd (hC _ hY) (kk v u1 h)
      · exact i_VC hK hX hq eq1 hin hse hlink hcode hini hy hlen hdd hwd hsk hd (hC _ hY) (kh e0 u1 h)
