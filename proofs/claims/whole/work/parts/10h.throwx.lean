/-! EXCEPTIONS whose constructor calls on by another entry of its pool -/
set_option maxHeartbeats 4000000 in
theorem g_ctorSX {p : Program} {l : Launch} {e : Env} {R : Room} {s : State} {m₀ : MethodId} {args : Array Value} {below : List Frame} {meth : Method} {c : Code} {W : State} {locs : List Loc} {cells slots : Nat} (X : Stand p l e R s m₀ args below meth c W locs cells slots) (hexec : p.tables.exec = Jvm.exec) (htr : e.platform.stackTraces = false) {own cls : String} {names : List String} {ic : Nat}
    {ix : Nat} {rx : ByteArray} (x0 : decode rx 0 = .ok (.aload_n 0, 1)) (x1 : decode rx 1 = .ok (.aload_n 1, 1)) (x2 : decode rx 2 = .ok (.invokespecial ix, 3)) (x5 : decode rx 5 = .ok (.return_, 1))
    (hown : s.vm.findClass own = some m₀.cls) (hcls : Bundle.fit cls = true) (hnames : ∀ n ∈ names, Bundle.fit n = true)
    (h : ∀ a ∈ Bundle.ownAtomsX own ic cls ix rx names, a.before args s = true)
    (hlocs : ∀ x ∈ locs, ∀ cell, s.heap[x.base]? = some cell → cell.vm.isStatics = false)
    {a : Addr} {cX : ClassId} {kX : Class} (hfoundX : s.vm.findClass cls = some cX) (hkX : s.vm.classes[cX]? = some kX) (hcell : W.heap[a]? = some (freshCell cX kX)) (hnew : s.heap.size ≤ a)
    {msg : Value} (hmsg : msg.isRef = true)
    {g : JFrame} (hg : g.method = m₀) (hsize : g.locals.size = c.maxLocals) (hlocked : g.locked = none) (hentered : g.entered = []) {rest : List Value} (hstack : g.stack = msg :: .ref a :: .ref a :: rest)
    (hd6 : decode c.code g.pc = .ok (.invokespecial ic, 3)) (hd9 : decode c.code (g.pc + 3) = .ok (.athrow, 1)) (hout : ∀ x ∈ c.exceptionTable.toList, covers x (g.pc + 3) = false)
    (hRframes : names.length + 3 < R.frames) (hRlocals : 2 * g.monitorRoom + ((Value.ref a :: rest).map fun v => v.category).sum + (13 * (names.length + 1) + 42) ≤ R.locals) (hlocks : meth.locks = false) :
    ∃ U : State, Steps p.tables e below (W.setTop g) U ∧ U.status = .running ∧ Ended U below (.threw a) ∧ s.WarmedH U.vm ∧ s.sameButNew ({ U with vm := s.vm } : State) locs cells slots ∧
      ∃ ce, U.heap[a]? = some ce ∧ s.vm.findClass cls = some ce.cls ∧ ce.vm = .none := by
  have ho : e.platform.frameOwnsMonitors = true := by rw [X.admits.platform]
  have hf : e.platform.finalization = false := by rw [X.admits.platform]
  have hpl : e.platform.magicAccessors = ({} : Platform).magicAccessors := by rw [X.admits.platform]
  have in1 : ∀ x, x ∈ Bundle.throwableAtoms ∨ x ∈ Bundle.throwableSAtoms ∨ x ∈ Bundle.chainSAtomsX cls ix rx names → x ∈ Bundle.ownAtomsX own ic cls ix rx names := fun x hx => by
    rcases hx with w | w | w <;> simp [Bundle.ownAtomsX, w]
  have at1 : ∀ x, x ∈ Bundle.ownAtomsX own ic cls ix rx names → x.holds args s none s [] = true := fun x hx => h x hx
  obtain ⟨T, Z0, L, -, Y⟩ := ThrowableC.of_atoms (args := args) ho hf hpl (fun x hx => h x (in1 x (Or.inl hx)))
  obtain ⟨Z, M, LZ, LM, hnZ⟩ := Init0T.ofS_atoms (args := args) hpl L Y (fun x hx => h x (in1 x (Or.inr (Or.inl hx))))
  obtain ⟨P1, Ps, hlen, L1, hL, hP1m, hlink1, hlink⟩ := Bundle.chainSX (args := args) hpl hnZ x0 x1 x2 x5 names cls hcls hnames (fun x hx => h x (in1 x (Or.inr (Or.inr hx))))
  have hfound : s.vm.findClass cls = some P1.m.cls := findClass_of_methodNamed hP1m
  cases Option.some.inj (hfoundX.symm.trans hfound)
  obtain ⟨c1, kX', hc1, hk, hord, -, -, hn6⟩ := Cond.instantiable_spec (at1 (.instantiable cls 6) (by simp [Bundle.ownAtomsX]))
  cases Option.some.inj (hc1.symm.trans hfound)
  cases Option.some.inj (hkX.symm.trans hk)
  have sel : ∀ (y : MethodName) (mk : MethodId), s.methodNamed? y = some mk → (y.cls ≠ "java/lang/invoke/MethodHandle" ∧ y.cls ≠ "java/lang/invoke/VarHandle") → (Cond.selects cls y y).holds args s none s [] = true → selectMethod e.platform s.vm P1.m.cls mk = .method mk := by
    intro y mk hy hp hs
    obtain ⟨c2, r2, m2, q1, q2, q3, q4, -⟩ := Cond.selects_spec hs
    cases Option.some.inj (q1.symm.trans hfound)
    cases Option.some.inj (q2.symm.trans (State.methodFound?_of_named hy hp))
    cases Option.some.inj (q3.symm.trans hy)
    rw [Launch.admits_selectMethod X.admits]
    exact q4
  have hsel0 := sel _ _ Y.fill0 (by decide) (at1 (.selects cls Bundle.tFill0 Bundle.tFill0) (by simp [Bundle.ownAtomsX]))
  have hselF := sel _ _ Y.fill (by decide) (at1 (.selects cls Bundle.tFill Bundle.tFill) (by simp [Bundle.ownAtomsX]))
  obtain ⟨cellS0, hcS0, hiss⟩ := Y.statics
  obtain ⟨u0, hu0⟩ := Cond.staticRefV Y.unassigned L.unassignedStatic L.statics hcS0 hiss (at1 (.isRef (.static Bundle.tN "UNASSIGNED_STACK" Bundle.steD)) (by simp [Bundle.ownAtomsX]))
  obtain ⟨sen, hsen⟩ := Cond.staticRefV Y.sentinel L.sentinelStatic L.statics hcS0 hiss (at1 (.isRef (.static Bundle.tN "SUPPRESSED_SENTINEL" Bundle.listD)) (by simp [Bundle.ownAtomsX]))
  obtain ⟨ci198, i198, fB, hk198, hg198, ha198, hsB, -, hnB, htB, hffB⟩ := Cond.ownField (t := .object "java/lang/Object") Y.found L.cls (by decide +kernel) (at1 (.fieldLink Bundle.tN 198 Bundle.tN "backtrace" "Ljava/lang/Object;") (by simp [Bundle.ownAtomsX])) (at1 (.lays Bundle.tN Bundle.tN "backtrace" "Ljava/lang/Object;") (by simp [Bundle.ownAtomsX])) e.platform hpl
  obtain ⟨cellS, hcS', heS, -, hkeep⟩ := X.same.2.2.2.2.2 T.aS cellS0 hcS0
  have hcellS : W.heap[T.aS]? = some cellS := hcS'
  have hoL : ∀ i, (⟨T.aS, i⟩ : Loc) ∉ locs := fun i hmem => by
    have := hlocs _ hmem cellS0 hcS0
    rw [hiss] at this
    cases this
  have hknownS : cellS.vm ≠ .unknown := by
    rw [heS]
    intro hu
    rw [show cellS0.vm = .unknown from hu] at hiss
    cases hiss
  have hneS : T.aS ≠ a := Nat.ne_of_lt (Nat.lt_of_lt_of_le (Array.getElem?_eq_some_iff.mp hcS0).1 hnew)
  obtain ⟨iM, hffM⟩ := Y.msg
  obtain ⟨tyC, dC, hdC, hdnC⟩ := Cond.laysAt hfound hk Y.cause (at1 (.lays cls Bundle.tN "cause" "Ljava/lang/Throwable;") (by simp [Bundle.ownAtomsX]))
  obtain ⟨tyS, dS, hdS, hdnS⟩ := Cond.laysAt hfound hk Y.stack (at1 (.lays cls Bundle.tN "stackTrace" Bundle.steD) (by simp [Bundle.ownAtomsX]))
  obtain ⟨tyP, dP, hdP, hdnP⟩ := Cond.laysAt hfound hk Y.supp (at1 (.lays cls Bundle.tN "suppressedExceptions" Bundle.listD) (by simp [Bundle.ownAtomsX]))
  obtain ⟨tyM, dM, hdM, hdnM⟩ := Cond.laysAt hfound hk hffM (at1 (.lays cls Bundle.tN "detailMessage" "Ljava/lang/String;") (by simp [Bundle.ownAtomsX]))
  obtain ⟨tyB, dB, hdB, hdnB⟩ := Cond.laysAt hfound hk hffB (at1 (.lays cls Bundle.tN "backtrace" "Ljava/lang/Object;") (by simp [Bundle.ownAtomsX]))
  have bC := Cond.laysApart hdB hdC hdnB hdnC (by rw [hnB, Y.causeName]; decide)
  have bS := Cond.laysApart hdB hdS hdnB hdnS (by rw [hnB, Y.stackName]; decide)
  have bP := Cond.laysApart hdB hdP hdnB hdnP (by rw [hnB, Y.suppName]; decide)
  have hskip : SkipFacts T e.platform s (fun u => u) u0 ((preparedCellV T.toThrowableT (freshCell P1.m.cls kX) a u0 sen).withEntry W.cur) :=
    ⟨{ ci198 := ci198, i198 := i198, fBack := fB }, ⟨hk198, hg198, ha198, hsB⟩, by
      have := fresh_default (c := P1.m.cls) tyB
      rw [htB] at this
      simpa [preparedCellV, Cell.setSlot, Cell.withEntry, Array.getElem?_setIfInBounds, bC, bS, bP, bC.symm, bS.symm, bP.symm, defaultValue] using this, fun _ _ => rfl⟩
  obtain ⟨tm, methC, cdC, kC, vm₁, hnC, -, -, -, -, -, -, -, hW₁, st1⟩ := Steps.initColdS (tb := p.tables) (e := e) (below := below) (s := s) (U := W) X.here hexec X.warmed hpl hown (t := Bundle.initS cls) rfl rfl (Bundle.fit_spec hcls).2
    (at1 (.methodLink own ic (Bundle.initS cls)) (by simp [Bundle.ownAtomsX])) (h (.instanceMethod (Bundle.initS cls)) (by cases names <;> simp [Bundle.ownAtomsX, Bundle.chainSAtomsX, Bundle.passSAtoms])) (bytes := rx) (maxL := 2) (h (.code (Bundle.initS cls) rx 2 none) (by cases names <;> simp [Bundle.ownAtomsX, Bundle.chainSAtomsX, Bundle.passSAtoms]))
    (f := g) hg (a := a) (msg := msg) (rest := .ref a :: rest) hstack hd6
  cases Option.some.inj (hnC.symm.trans hP1m)
  have X₁ := X.noted hW₁
  obtain ⟨vm₂, X₂, st2⟩ := X₁.ctorMessageOffV hexec (g := { g with stack := .ref a :: rest }) hg hsize T L Z LZ M LM (P1 :: Ps)
    (fun P hP => by rcases List.mem_cons.mp hP with rfl | hP; exact L1; exact hL P hP) ⟨hlink1, hlink⟩ (u0 := u0) (sen := sen) (self := a) hmsg (cell := freshCell P1.m.cls kX) (cellS := cellS)
    hcell (fun _ => by simp) (by simp) rfl rfl hsel0 hselF hcellS hneS hknownS (by rw [hkeep _ (hoL _)]; exact hu0) (by rw [hkeep _ (hoL _)]; exact hsen)
    (Takes.of_laid hk hord tyC (by rw [Y.causeType]; rfl)) (Takes.of_laid hk hord tyS (by rw [Y.stackType]; exact fits_refV_array _ u0)) (Takes.of_laid hk hord tyP (by rw [Y.suppType]; exact fits_refV_object _ sen))
    (Takes.of_laid hk hord tyM (by rw [Y.msgType]; exact fits_refV_object _ ⟨msg, hmsg⟩)) Y.objLocals hskip htr [] hd6
    (by simp only [List.length_cons, hlen]; omega) (by simp only [List.length_cons, hlen]; exact hRlocals)
  obtain ⟨hwalk, hrun, hended, hWU, hsame⟩ := X₂.athrowLeaves hexec (g := { g with stack := .ref a :: rest, pc := g.pc + 3 }) hg hlocked hentered hout (a := a) (rest := rest) rfl hd9
  have hlt : a < ((W.setVm vm₁).setVm vm₂).heap.size := (Array.getElem?_eq_some_iff.mp hcell).1
  have hU := heapAt_setCell_self (s := (W.setVm vm₁).setVm vm₂) (plainBareV T.toThrowableT (freshCell P1.m.cls kX) a u0 sen msg) hlt
  refine ⟨_, st1 _ (fun acts => ?_), hrun, hended, hWU, hsame.weaken (fun y hy hlt' => ?_) (Nat.le_refl _) (Nat.le_refl _), _, hU, hfound, rfl⟩
  · rw [doInvoke_state]
    exact st2 _ hwalk
  · rcases List.mem_append.mp hy with h1 | h1
    · exact h1
    · exfalso
      have hb : y.base = a := by
        simp only [List.mem_cons, List.not_mem_nil, or_false] at h1
        rcases h1 with rfl | rfl | rfl | rfl | rfl <;> rfl
      rw [hb] at hlt'
      exact Nat.not_lt.mpr hnew hlt'
set_option maxHeartbeats 2000000 in
/-- throw new E("a text"): where no handler stands -/
theorem g_throwWX {K : g_C} {cc : ByteArray} {own nm : String} {ret : Option FieldType} {u : g_St} {ls : List (Nat × g_V)} {st : List g_V} {pc : Nat} {out : g_Out} (hK : g_OK K cc own nm ret) (hX : g_noX K) {E tx : String} {e0 ix il ic ln : Nat} (he : g_exn[e0]? = some E) (hcl : Cond.classLink own ix E ∈ g_tbl) (hin : Cond.instantiable E 6 ∈ g_tbl) (hini : Cond.initialized E ∈ g_tbl) (hfit : Bundle.fit E = true)
    {ixx : Nat} {rx : ByteArray} (x0 : decode rx 0 = .ok (.aload_n 0, 1)) (x1 : decode rx 1 = .ok (.aload_n 1, 1)) (x2 : decode rx 2 = .ok (.invokespecial ixx, 3)) (x5 : decode rx 5 = .ok (.return_, 1)) (hat : ∀ a ∈ Bundle.ownAtomsX own ic E ixx rx ["java/lang/RuntimeException", "java/lang/Exception"], g_atom a) (hst : (own, il, tx) ∈ g_strs) (hdd : 7 ≤ g_Kd K) (hw : g_wid st ≤ 64)
    (hd0 : decode cc pc = .ok (.new ix, 3)) (hd3 : decode cc (pc + 3) = .ok (.dup, 1)) (hd4 : g_ldS cc (pc + 4) il ln) (hd6 : decode cc (pc + 4 + ln) = .ok (.invokespecial ic, 3)) (hd9 : decode cc (pc + 4 + ln + 3) = .ok (.athrow, 1))
    (hlim : g_cn u + 8 ≤ g_LC ∧ g_sn u + 512 ≤ g_LS) (hout : out = (.inr e0, g_bump u 8 512)) : g_W K u ls st pc out := by
  obtain ⟨p, l, e, s, m, args, below, meth, c, nL, d, u0, ad0, G⟩ := K
  obtain ⟨hx, hb, hml, hown, hts, hKn, hlk, hnm, hret, htr⟩ := hK
  intro ad H locs la hR hE hL hS hlo hla T hT X
  have hd7 : 7 ≤ d := hdd
  have hc1 := hE.2.1
  have hs1 := hE.2.2
  -- the walk begins anew here
  have X0 := g_rebase X (by show _ ≤ g_LC - g_cn u0; omega) (by show _ ≤ g_LS - g_sn u0; omega)
  generalize hs0 : (({ s with heap := T.heap, slotsUsed := T.slotsUsed } : State).setVm T.vm) = s0 at X0
  have hvm0 : s0.vm = T.vm := by rw [← hs0]; rfl
  have hh0 : s0.heap = H := by rw [← hs0]; exact hT
  have hW0 : s.WarmedH s0.vm := by rw [hvm0]; exact X.warmed
  have hKn0 : g_Kn G s0 := hKn.moved hW0
  have hts0 : ∀ w ∈ g_tbl, w.before args s0 = true := fun w hw => hKn0.2.2.1 w hw args
  have hown0 : s0.vm.findClass own = some m.cls := by rw [hW0.alike.findClass]; exact hown
  obtain ⟨cX, kX, hfX, hkX, -, -⟩ := Cond.instantiable_spec (hts0 _ hin)
  obtain ⟨q0, hq0⟩ := hKn0.2.2.2.2.2.2.2.2.1 (own, il, tx) hst
  suffices hs : W p l e { g_room d u0 with cells := (g_room d u0).cells - (g_cn u - g_cn u0), slots := (g_room d u0).slots - (g_sn u - g_sn u0) } s0 m args below meth c H [] 0 0 (fun t => t.status = .running ∧ Ended t below (.threw H.size) ∧ s0.WarmedH t.vm ∧ s0.sameButNew ({ t with vm := s0.vm } : State) [] 1 6 ∧ ∃ ce, t.heap[H.size]? = some ce ∧ s0.vm.findClass E = some ce.cls ∧ ce.vm = .none) (F0 m pc la (st.map (g_v ad))) by
    obtain ⟨t, a1, b1, b2, b3, b4, ce, b5, b6⟩ := hs T hT X0
    have hsm : T.sameButNew (t.setVm T.vm) [] 1 6 := by
      obtain ⟨c1, c2, c3, c4, c5, c6⟩ := b4
      have eh : s0.heap = T.heap := by rw [hh0, hT]
      have es : s0.slotsUsed = T.slotsUsed := by rw [← hs0]; rfl
      rw [eh] at c2 c3 c4 c5 c6
      rw [es] at c4
      refine ⟨?_, c2, c3, c4, c5, c6⟩
      have eT := X0.same.1
      rw [hvm0] at eT c1
      have eT2 : T = ({ s0.setFrames T.frames with heap := T.heap, slotsUsed := T.slotsUsed } : State) := eT
      have c1' : t.setVm T.vm = ({ s0.setFrames t.frames with heap := t.heap, slotsUsed := t.slotsUsed } : State) := c1
      show t.setVm T.vm = ({ T.setFrames t.frames with heap := t.heap, slotsUsed := t.slotsUsed } : State)
      rw [c1']
      conv => rhs; rw [eT2]
      show _ = ({ (s0.setFrames T.frames).setFrames t.frames with heap := t.heap, slotsUsed := t.slotsUsed } : State)
      rw [State.setFrames_setFrames]
    have hall := X.same.trans (hsm.setVm s.vm)
    have hold : ∀ q, q < H.size → t.heap[q]? = H[q]? := by
      intro q hq
      obtain ⟨cq, hTq⟩ : ∃ cq, T.heap[q]? = some cq := by rw [hT]; exact ⟨_, Array.getElem?_eq_getElem hq⟩
      obtain ⟨c', f1, f2, f3, f4⟩ := hsm.2.2.2.2.2 q _ hTq
      have f5 : c' = cq := by
        rw [f2]
        have : c'.slots = cq.slots := Array.ext_getElem? fun i => f4 i (by simp)
        rw [this]
      have f1' : t.heap[q]? = some c' := f1
      rw [f1', f5, ← hTq, hT]
    refine ⟨t, a1, .threw H.size, b1, b2, ?_, State.WarmedH.trans hW0 b3, locs, ?_, hlo⟩
    · rw [hout]
      refine ⟨ad, H.size, ce, E, rfl, b5, by rw [b6.2]; rfl, he, ?_, ?_, ?_⟩
      · rw [b3.alike.findClass]; exact b6.1
      · obtain ⟨r1, r2, r3, r4, r5, r6, r7, r8⟩ := hR
        have hsz : H.size ≤ t.heap.size := by have := hsm.2.1; rw [hT] at this; exact this
        refine ⟨⟨Nat.le_trans r1.1 hsz, fun q hq => (hold q (Nat.lt_of_lt_of_le hq r1.1)).trans (r1.2 q hq)⟩, r2, fun a ha => ⟨Nat.lt_of_lt_of_le (r3 a ha).1 hsz, (r3 a ha).2⟩, fun q hq a ha ht => ?_, fun q hq a ha ht hol => ?_, hlim.1, hlim.2, r8⟩
        · obtain ⟨k1, k2⟩ := r4 q hq a ha ht
          exact ⟨k1.kept (hold _ (r3 a ha).1), k2⟩
        · obtain ⟨k1, k2, k3⟩ := r5 q hq a ha ht hol
          exact ⟨(hold _ (r3 a ha).1).trans k1, k2, k3⟩
      · exact ⟨hE.1, Nat.le_trans hc1 (Nat.le_add_right _ _), Nat.le_trans hs1 (Nat.le_add_right _ _)⟩
    · rw [hout]
      have hm := hall.mono (c' := g_cn (g_bump u 8 512) - g_cn u0) (n' := g_sn (g_bump u 8 512) - g_sn u0) (by show g_cn u - g_cn u0 + 1 ≤ g_cn u + 8 - g_cn u0; omega) (by show g_sn u - g_sn u0 + 6 ≤ g_sn u + 512 - g_sn u0; omega)
      rw [List.append_nil] at hm
      exact hm
  refine W.newcK hx hb hown0 (hts0 _ hcl) (hts0 _ hin) (hts0 _ hini) rfl hd0 (by show 0 + 1 ≤ g_LC - g_cn u0 - (g_cn u - g_cn u0); omega) (by show 0 + 6 ≤ g_LS - g_sn u0 - (g_sn u - g_sn u0); omega) hfX rfl fun H1 kC hkC e1 z1 o1 => ?_
  refine lv_dup hx hb hd3 rfl ?_
  refine g_ldcS hx hb hown0 hq0 hd4 ?_
  intro T1 hT1 X1
  obtain ⟨U, g1, g2, g3, g4, g5, ce, g6, g7⟩ := g_ctorSX X1 hx (by rw [X1.admits.platform]; exact htr) x0 x1 x2 x5 (names := ["java/lang/RuntimeException", "java/lang/Exception"]) hown0 hfit (by decide +kernel) (fun a ha => g_atom_ok hKn0 (fun q hq => by rw [hh0]; exact hR.1.2 q hq) (hat a ha)) (fun x hx => by cases hx) hfX hkX (a := H.size) (by rw [hT1, e1]; cases hkX.symm.trans hkC; rfl) (by rw [hh0]; exact Nat.le_refl _) (msg := .ref q0) rfl (g := F0 m (pc + 3 + 1 + ln) la (.ref q0 :: .ref H.size :: .ref H.size :: st.map (g_v ad))) rfl (by rw [hml]; exact hla.1) rfl rfl rfl (by rw [hb]; exact hd6) (by rw [hb]; exact hd9) (fun x hx => by have h9 : c.exceptionTable.isEmpty = true := hX; rw [Array.isEmpty_iff] at h9; rw [h9] at hx; cases hx) (by show 2 + 3 < d; omega) (by
    show 2 * 0 + ((Value.ref H.size :: st.map (g_v ad)).map fun v => v.category).sum + (13 * (2 + 1) + 42) ≤ 64 * d
    rw [List.map_cons, List.sum_cons, g_cats]
    show 2 * 0 + (1 + g_wid st) + (13 * (2 + 1) + 42) ≤ 64 * d
    omega) hlk
  exact ⟨U, g1, g2, g3, g4, g5, ce, g6, g7⟩
theorem r_thrXI {K : g_C} {cc : ByteArray} {own nm : String} {ret : Option FieldType} {u : g_St} {ls : List (Nat × g_V)} {st : List g_V} {pc : Nat} (hK : g_OK K cc own nm ret) (hX : g_noX K) {o : (Int32 ⊕ Nat) × g_St} {E tx : String} {e0 ix il ic ln : Nat} (he : g_exn[e0]? = some E) (hcl : Cond.classLink own ix E ∈ g_tbl) (hin : Cond.instantiable E 6 ∈ g_tbl) (hini : Cond.initialized E ∈ g_tbl) (hfit : Bundle.fit E = true)
    {ixx : Nat} {rx : ByteArray} (x0 : decode rx 0 = .ok (.aload_n 0, 1)) (x1 : decode rx 1 = .ok (.aload_n 1, 1)) (x2 : decode rx 2 = .ok (.invokespecial ixx, 3)) (x5 : decode rx 5 = .ok (.return_, 1)) (hat : ∀ a ∈ Bundle.ownAtomsX own ic E ixx rx ["java/lang/RuntimeException", "java/lang/Exception"], g_atom a) (hst : (own, il, tx) ∈ g_strs) (hdd : 7 ≤ g_Kd K) (hw : g_wid st ≤ 64)
    (hd0 : decode cc pc = .ok (.new ix, 3)) (hd3 : decode cc (pc + 3) = .ok (.dup, 1)) (hd4 : g_ldS cc (pc + 4) il ln) (hd6 : decode cc (pc + 4 + ln) = .ok (.invokespecial ic, 3)) (hd9 : decode cc (pc + 4 + ln + 3) = .ok (.athrow, 1)) (h : g_thr u e0 = some o) : g_W K u ls st pc (g_jTI o) := by
  have hlim : g_cn u + 8 ≤ g_LC ∧ g_sn u + 512 ≤ g_LS := by
    by_cases w : g_cn u + 8 ≤ g_LC ∧ g_sn u + 512 ≤ g_LS
    · exact w
    · rw [g_thr, if_neg w] at h; cases h
  rw [g_thr, if_pos hlim] at h
  cases h
  exact g_throwWX hK hX he hcl hin hini hfit x0 x1 x2 x5 hat hst hdd hw hd0 hd3 hd4 hd6 hd9 hlim rfl
