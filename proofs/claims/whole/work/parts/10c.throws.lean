/-! EXCEPTIONS -/
theorem g_hears {s s' : State} (hvm : s.vm.Alike s'.vm) {m : MethodId} : ∀ {below : List Frame}, s.hears m below = true → s'.hears m below = true := by
  intro below h
  have hm := hvm.method? m
  have hg : ∀ q, s'.code? q = s.code? q := fun q => by rw [State.code?_eq, State.code?_eq, hvm.method?]
  unfold State.hears at h ⊢
  split at h
  · rw [hg]; exact h
  · rfl
  · rfl
  · rw [hm]; exact h
set_option maxHeartbeats 1000000 in
/-- the walk, as if its method had been invoked in the state where it stands -/
theorem g_rebase {p : Program} {l : Launch} {e : Env} {R : Room} {s : State} {m : MethodId} {args : Array Value} {below : List Frame} {meth : Method} {c : Code} {T : State} {locs : List Loc} {cells slots : Nat} (X : Stand p l e R s m args below meth c T locs cells slots) (hc : cells ≤ R.cells) (hs : slots ≤ R.slots) :
    Stand p l e { R with cells := R.cells - cells, slots := R.slots - slots } (({ s with heap := T.heap, slotsUsed := T.slotsUsed } : State).setVm T.vm) m args below meth c T [] 0 0 := by
  have hal := X.warmed.alike
  refine ⟨X.admits, X.cas, X.clock, X.frames, ?_, g_hears hal X.hears, X.method', X.code, X.here, X.tail, State.WarmedH.refl (({ s with heap := T.heap, slotsUsed := T.slotsUsed } : State).setVm T.vm), X.limits, X.bytes, ?_⟩
  · have hr := X.room
    have e1 := State.localsInUse_invoking X.frames X.method X.code
    have e2 : (({ s with heap := T.heap, slotsUsed := T.slotsUsed } : State).setVm T.vm).localsInUse = _ := State.localsInUse_invoking (s := (({ s with heap := T.heap, slotsUsed := T.slotsUsed } : State).setVm T.vm)) X.frames X.method' X.code
    have h1 := X.heapSize
    have h2 := X.used
    have h3 := X.book
    simp only [State.hasRoom, Bool.and_eq_true, decide_eq_true_eq] at hr ⊢
    rw [e2]
    rw [e1] at hr
    obtain ⟨⟨⟨⟨a1, a2⟩, a3⟩, a4⟩, a5⟩ := hr
    refine ⟨⟨⟨⟨a1, a2⟩, ?_⟩, ?_⟩, h3⟩
    · show T.heap.size + (R.cells - cells) ≤ _
      omega
    · show T.slotsUsed + (R.slots - slots) ≤ _
      omega
  · have e := X.same.1
    have eT : T = ({ (({ s with heap := T.heap, slotsUsed := T.slotsUsed } : State).setVm T.vm).setFrames T.frames with heap := T.heap, slotsUsed := T.slotsUsed } : State) := by
      have h9 : T = (T.setVm s.vm).setVm T.vm := rfl
      rw [e] at h9
      exact h9
    refine ⟨eT, Nat.le_refl _, Nat.le_refl _, ?_, ?_, fun a ce h => ⟨ce, h, rfl, rfl, fun _ _ => rfl⟩⟩
    · show T.slotsUsed = T.slotsUsed + _
      have : (T.heap.toList.drop T.heap.size) = [] := by simp
      show T.slotsUsed = T.slotsUsed + ((T.heap.toList.drop T.heap.size).map (·.slots.size)).sum
      rw [this]
      rfl
    · have : (T.heap.toList.drop T.heap.size) = [] := by simp
      show ((T.heap.toList.drop T.heap.size).map (·.slots.size)).sum ≤ 0
      rw [this]
      exact Nat.le_refl _
/-- a word of the tables, or one on the two statics of Throwable -/
def g_atom (a : Cond) : Prop := a ∈ g_tbl ∨ ∃ q ∈ g_stQ, a = .laysStatic q.1 q.2.1 q.2.2 ∨ a = .isRef (.static q.1 q.2.1 q.2.2)
theorem g_atom_ok {G : g_G} {s : State} {args : Array Value} (hKn : g_Kn G s) (hh : ∀ q, q < g_b0 G → s.heap[q]? = (g_H0 G)[q]?) {a : Cond} (h : g_atom a) : a.before args s = true := by
  rcases h with h | ⟨q, hq, rfl | rfl⟩
  · exact hKn.2.2.1 a h args
  · exact (hKn.2.2.2.2.2.2.2.1 q hq).lays hh
  · exact (hKn.2.2.2.2.2.2.2.1 q hq).isRef hh
/-- a text's constant, by either instruction -/
def g_ldS (cc : ByteArray) (pc il ln : Nat) : Prop := (ln = 2 ∧ decode cc pc = .ok (.ldc il, 2)) ∨ (ln = 3 ∧ decode cc pc = .ok (.ldc_w il, 3))
theorem g_ldcS {p : Program} {l : Launch} {e : Env} {R : Room} {s : State} {m : MethodId} {args : Array Value} {below : List Frame} {meth : Method} {c : Code} {H : Heap} {locs : List Loc} {cells slots : Nat} {Q : State → Prop} {cc : ByteArray} {pc : Nat} {ls : Array Slot} {rest : List Value} (hexec : p.tables.exec = Jvm.exec) (hb : c.code = cc) {own tx : String} {index q ln : Nat} (hown : s.vm.findClass own = some m.cls) (hZ : vk_R own index tx q s) (hdg : g_ldS cc pc index ln)
    (k : W p l e R s m args below meth c H locs cells slots Q (F0 m (pc + ln) ls (.ref q :: rest))) : W p l e R s m args below meth c H locs cells slots Q (F0 m pc ls rest) := by
  rcases hdg with ⟨rfl, hdg⟩ | ⟨rfl, hdg⟩
  · exact va_ldcS hexec hb hown hZ hdg k
  · intro T hT X
    obtain ⟨t, a1, b1⟩ := k T hT X
    refine ⟨t, ?_, b1⟩
    obtain ⟨k1, cf, i, a', hk, hcf, hcp, -, hr, hev'⟩ := Cond.stringRef_spec hown hZ.1
    cases hZ.2.symm.trans hev'
    obtain ⟨k', hk', he⟩ := X.warmed.alike.2.2 _ _ hk
    have hr' : k'.resolved[index]? = some (some (.string q)) := by
      rcases X.warmed.entry hk hk' index with h | ⟨h, -⟩
      · rw [h]; exact hr
      · rw [hr] at h; cases h
    have hdg' : decode c.code (F0 m pc ls rest).pc = .ok (.ldc_w index, 3) := by rw [hb]; exact hdg
    jvm_step X.here [hexec, hdg', ldc_w.wp_string (e := e) (s := T) (f := F0 m pc ls rest) X.here.top hk' (by rw [he]; exact hcf) hcp hr']
    exact a1
set_option maxHeartbeats 2000000 in
/-- throw new E("a text"): where no handler stands -/
theorem g_throwW {K : g_C} {cc : ByteArray} {own nm : String} {ret : Option FieldType} {u : g_St} {ls : List (Nat × g_V)} {st : List g_V} {pc : Nat} {out : g_Out} (hK : g_OK K cc own nm ret) (hX : g_noX K) {E tx : String} {e0 ix il ic ln : Nat} (he : g_exn[e0]? = some E) (hcl : Cond.classLink own ix E ∈ g_tbl) (hin : Cond.instantiable E 6 ∈ g_tbl) (hini : Cond.initialized E ∈ g_tbl) (hfit : Bundle.fit E = true)
    (hat : ∀ a ∈ Bundle.ownAtoms own ic E ["java/lang/RuntimeException", "java/lang/Exception"], g_atom a) (hst : (own, il, tx) ∈ g_strs) (hdd : 7 ≤ g_Kd K) (hw : g_wid st ≤ 64)
    (hd0 : decode cc pc = .ok (.new ix, 3)) (hd3 : decode cc (pc + 3) = .ok (.dup, 1)) (hd4 : g_ldS cc (pc + 4) il ln) (hd6 : decode cc (pc + 4 + ln) = .ok (.invokespecial ic, 3)) (hd9 : decode cc (pc + 4 + ln + 3) = .ok (.athrow, 1))
    (hlim : g_cn u + 8 ≤ g_LC ∧ g_sn u + 512 ≤ g_LS) (hout : out = (.inr e0, g_bump u 8 512)) : g_W K u ls st pc out := by
  obtain ⟨p, l, e, s, m, args, below, meth, c, nL, d, u0, ad0, G⟩ := K
  obtain ⟨hx, hb, hml, hown, hts, hKn, hlk, hnm, hret, htr⟩ := hK
  intro ad H locs la hR hE hL hS hlo hla T hT X
  have hd7 : 7 ≤ d := hdd
  have hc1 := hE.2.1
  have hs1 := hE.2.2
  -- the walk begins anew here
  have X0 := g_rebase X (by show _ ≤ g_LC - g_cn u0; omega) (by show _ ≤ g_LS - g_sn u0; omega)
  generalize hs0 : (({ s with heap := T.heap, slotsUsed := T.slotsUsed } : State).setVm T.vm) = s0 at X0
  have hvm0 : s0.vm = T.vm := by rw [← hs0]; rfl
  have hh0 : s0.heap = H := by rw [← hs0]; exact hT
  have hW0 : s.WarmedH s0.vm := by rw [hvm0]; exact X.warmed
  have hKn0 : g_Kn G s0 := hKn.moved hW0
  have hts0 : ∀ w ∈ g_tbl, w.before args s0 = true := fun w hw => hKn0.2.2.1 w hw args
  have hown0 : s0.vm.findClass own = some m.cls := by rw [hW0.alike.findClass]; exact hown
  obtain ⟨cX, kX, hfX, hkX, -, -⟩ := Cond.instantiable_spec (hts0 _ hin)
  obtain ⟨q0, hq0⟩ := hKn0.2.2.2.2.2.2.2.2.1 (own, il, tx) hst
  suffices hs : W p l e { g_room d u0 with cells := (g_room d u0).cells - (g_cn u - g_cn u0), slots := (g_room d u0).slots - (g_sn u - g_sn u0) } s0 m args below meth c H [] 0 0 (fun t => t.status = .running ∧ Ended t below (.threw H.size) ∧ s0.WarmedH t.vm ∧ s0.sameButNew ({ t with vm := s0.vm } : State) [] 1 6 ∧ ∃ ce, t.heap[H.size]? = some ce ∧ Bundle.OwnCell args s0 E H.size (.ref q0) ce) (F0 m pc la (st.map (g_v ad))) by
    obtain ⟨t, a1, b1, b2, b3, b4, ce, b5, b6⟩ := hs T hT X0
    have hsm : T.sameButNew (t.setVm T.vm) [] 1 6 := by
      obtain ⟨c1, c2, c3, c4, c5, c6⟩ := b4
      have eh : s0.heap = T.heap := by rw [hh0, hT]
      have es : s0.slotsUsed = T.slotsUsed := by rw [← hs0]; rfl
      rw [eh] at c2 c3 c4 c5 c6
      rw [es] at c4
      refine ⟨?_, c2, c3, c4, c5, c6⟩
      have eT := X0.same.1
      rw [hvm0] at eT c1
      have eT2 : T = ({ s0.setFrames T.frames with heap := T.heap, slotsUsed := T.slotsUsed } : State) := eT
      have c1' : t.setVm T.vm = ({ s0.setFrames t.frames with heap := t.heap, slotsUsed := t.slotsUsed } : State) := c1
      show t.setVm T.vm = ({ T.setFrames t.frames with heap := t.heap, slotsUsed := t.slotsUsed } : State)
      rw [c1']
      conv => rhs; rw [eT2]
      show _ = ({ (s0.setFrames T.frames).setFrames t.frames with heap := t.heap, slotsUsed := t.slotsUsed } : State)
      rw [State.setFrames_setFrames]
    have hall := X.same.trans (hsm.setVm s.vm)
    have hold : ∀ q, q < H.size → t.heap[q]? = H[q]? := by
      intro q hq
      obtain ⟨cq, hTq⟩ : ∃ cq, T.heap[q]? = some cq := by rw [hT]; exact ⟨_, Array.getElem?_eq_getElem hq⟩
      obtain ⟨c', f1, f2, f3, f4⟩ := hsm.2.2.2.2.2 q _ hTq
      have f5 : c' = cq := by
        rw [f2]
        have : c'.slots = cq.slots := Array.ext_getElem? fun i => f4 i (by simp)
        rw [this]
      have f1' : t.heap[q]? = some c' := f1
      rw [f1', f5, ← hTq, hT]
    refine ⟨t, a1, .threw H.size, b1, b2, ?_, State.WarmedH.trans hW0 b3, locs, ?_, hlo⟩
    · rw [hout]
      refine ⟨ad, H.size, ce, E, rfl, b5, by rw [b6.vm]; rfl, he, ?_, ?_, ?_⟩
      · rw [b3.alike.findClass]; exact b6.cls
      · obtain ⟨r1, r2, r3, r4, r5, r6, r7, r8⟩ := hR
        have hsz : H.size ≤ t.heap.size := by have := hsm.2.1; rw [hT] at this; exact this
        refine ⟨⟨Nat.le_trans r1.1 hsz, fun q hq => (hold q (Nat.lt_of_lt_of_le hq r1.1)).trans (r1.2 q hq)⟩, r2, fun a ha => ⟨Nat.lt_of_lt_of_le (r3 a ha).1 hsz, (r3 a ha).2⟩, fun q hq a ha ht => ?_, fun q hq a ha ht hol => ?_, hlim.1, hlim.2, r8⟩
        · obtain ⟨k1, k2⟩ := r4 q hq a ha ht
          exact ⟨k1.kept (hold _ (r3 a ha).1), k2⟩
        · obtain ⟨k1, k2, k3⟩ := r5 q hq a ha ht hol
          exact ⟨(hold _ (r3 a ha).1).trans k1, k2, k3⟩
      · exact ⟨hE.1, Nat.le_trans hc1 (Nat.le_add_right _ _), Nat.le_trans hs1 (Nat.le_add_right _ _)⟩
    · rw [hout]
      have hm := hall.mono (c' := g_cn (g_bump u 8 512) - g_cn u0) (n' := g_sn (g_bump u 8 512) - g_sn u0) (by show g_cn u - g_cn u0 + 1 ≤ g_cn u + 8 - g_cn u0; omega) (by show g_sn u - g_sn u0 + 6 ≤ g_sn u + 512 - g_sn u0; omega)
      rw [List.append_nil] at hm
      exact hm
  refine W.newcK hx hb hown0 (hts0 _ hcl) (hts0 _ hin) (hts0 _ hini) rfl hd0 (by show 0 + 1 ≤ g_LC - g_cn u0 - (g_cn u - g_cn u0); omega) (by show 0 + 6 ≤ g_LS - g_sn u0 - (g_sn u - g_sn u0); omega) hfX rfl fun H1 kC hkC e1 z1 o1 => ?_
  refine lv_dup hx hb hd3 rfl ?_
  refine g_ldcS hx hb hown0 hq0 hd4 ?_
  intro T1 hT1 X1
  obtain ⟨U, g1, g2, g3, g4, g5, ce, g6, g7⟩ := Stand.ctorThrowS X1 hx (by rw [X1.admits.platform]; exact htr) (names := ["java/lang/RuntimeException", "java/lang/Exception"]) hown0 hfit (by decide +kernel) (fun a ha => g_atom_ok hKn0 (fun q hq => by rw [hh0]; exact hR.1.2 q hq) (hat a ha)) (fun x hx => by cases hx) hfX hkX (a := H.size) (by rw [hT1, e1]; cases hkX.symm.trans hkC; rfl) (by rw [hh0]; exact Nat.le_refl _) (msg := .ref q0) rfl (g := F0 m (pc + 3 + 1 + ln) la (.ref q0 :: .ref H.size :: .ref H.size :: st.map (g_v ad))) rfl (by rw [hml]; exact hla.1) rfl rfl rfl (by rw [hb]; exact hd6) (by rw [hb]; exact hd9) (fun x hx => by have h9 : c.exceptionTable.isEmpty = true := hX; rw [Array.isEmpty_iff] at h9; rw [h9] at hx; cases hx) (by show 2 + 3 < d; omega) (by
    show 2 * 0 + ((Value.ref H.size :: st.map (g_v ad)).map fun v => v.category).sum + (13 * (2 + 1) + 42) ≤ 64 * d
    rw [List.map_cons, List.sum_cons, g_cats]
    show 2 * 0 + (1 + g_wid st) + (13 * (2 + 1) + 42) ≤ 64 * d
    omega) hlk
  exact ⟨U, g1, g2, g3, g4, g5, ce, g6, g7⟩
