/-! THE MODEL ON THE MACHINE: what it means that a heap holds a model state; a walk over model states; a row an instruction. -/
abbrev g_O : Type := Nat × vw_C × List (Nat × Nat)
abbrev g_Ar : Type := Nat × FieldType × Nat × Nat
/-- engines by kind, slots by kind and field, array engines by kind, the first new cell, the heap at the start -/
abbrev g_G : Type := (Nat → ClassId) × (Nat → Nat → Nat) × (Nat → ClassId) × Nat × Heap × (Nat → Nat) × Nat × (Nat → Int32)
def g_b0 (G : g_G) : Nat := G.2.2.2.1
def g_H0 (G : g_G) : Heap := G.2.2.2.2.1
/-- where what is there from the start lies -/
def g_sa (G : g_G) : Nat → Nat := G.2.2.2.2.2.1
/-- the law's script -/
def g_sx (G : g_G) : Nat × (Nat → Int32) := G.2.2.2.2.2.2
def g_sv (G : g_G) (v : Int32 ⊕ Nat) : Value := match v with
  | .inl x => .int x
  | .inr a => .ref (g_sa G a)
def g_al (u : g_St) (a : Nat) : Prop := a / 64 < g_cnt u (a % 64)
def g_okT (u : g_St) (t : Nat) (r : Option Nat) : Prop := ∀ a, r = some a → (t = 63 ∨ a % 64 = t) ∧ g_al u a
def g_okV (u : g_St) (v : g_V) : Prop := match v with
  | .inl _ => True
  | .inr (.inl _) => True
  | .inr (.inr q) => g_okT u q.1 q.2
def g_okS (u : g_St) (st : List g_V) : Prop := ∀ v ∈ st, g_okV u v
def g_okL (u : g_St) (ls : List (Nat × g_V)) : Prop := ∀ q ∈ ls, g_okV u q.2
def g_fv (u : g_St) (ad : Nat → Nat) (t : Nat) (ks : List (Nat × Nat)) (a j : Nat) : Value := match (ks.getD j (0, 0)).1 with
  | 0 => .int (g_I u (j * 64 + t) a)
  | 1 => .long (g_L u (j * 64 + t) a)
  | 2 => va_rf ((g_R u (j * 64 + t) a).map ad)
  | _ => .null
def g_av (u : g_St) (ad : Nat → Nat) (kd a i : Nat) : Value := match kd with
  | 0 => .int (g_AI u a i)
  | 1 => .long (g_AL u a i)
  | 2 => va_rf ((g_AR u a i).map ad)
  | _ => .null
def g_RO (G : g_G) (u : g_St) (ad : Nat → Nat) (H : Heap) (q : g_O) (a : Nat) : Prop :=
  t_OB (ad a) (G.1 q.1) q.2.1.2.2 (G.2.1 q.1) H (g_fv u ad q.1 q.2.2 a) ∧ ∀ (j : Nat) (kt : Nat × Nat), q.2.2[j]? = some kt → kt.1 = 2 → g_okT u kt.2 (g_R u (j * 64 + q.1) a)
def g_RA (G : g_G) (u : g_St) (ad : Nat → Nat) (H : Heap) (q : g_Ar) (a : Nat) : Prop :=
  H[ad a]? = some (arrV (G.2.2.1 q.1) (g_ln u a) (g_av u ad q.2.2.1 a)) ∧ g_ln u a < 2 ^ 31 ∧ (q.2.2.1 = 2 → ∀ i, i < g_ln u a → g_okT u q.2.2.2 (g_AR u a i))
def g_Rep (G : g_G) (u : g_St) (ad : Nat → Nat) (H : Heap) : Prop :=
  (g_b0 G ≤ H.size ∧ ∀ q, q < g_b0 G → H[q]? = (g_H0 G)[q]?) ∧
  (∀ a b, g_al u a → g_al u b → (a % 64 ≠ 14 ∧ a % 64 ≠ 40 ∧ a % 64 ≠ 41) → (b % 64 ≠ 14 ∧ b % 64 ≠ 40 ∧ b % 64 ≠ 41) → ad a = ad b → a = b) ∧
  (∀ a, g_al u a → ad a < H.size ∧ (g_old (a % 64) ≤ a / 64 → g_b0 G ≤ ad a) ∧ (a / 64 < g_old (a % 64) → ad a = g_sa G a)) ∧
  (∀ q ∈ g_objs, ∀ a, g_al u a → a % 64 = q.1 → g_RO G u ad H q a) ∧
  (∀ q ∈ g_arrs, ∀ a, g_al u a → a % 64 = q.1 → g_old q.1 ≤ a / 64 → g_RA G u ad H q a) ∧ g_cn u ≤ g_LC ∧ g_sn u ≤ g_LS ∧ (∀ t, g_old t ≤ g_cnt u t) ∧ ∀ t ∈ g_fix, g_cnt u t = g_old t
/-- a static field that is laid, and holds a reference or null -/
def g_lS (C n d : String) (s : State) (b0 : Nat) (H0 : Heap) : Prop := ∃ (c : ClassId) (k : Class) (i : Nat) (fd : Field) (a : Nat) (cell : Cell) (r : Option Nat), s.vm.findClass C = some c ∧ s.fieldFound? C n d = some (c, k, i, fd) ∧ fd.isStatic = true ∧ k.statics = some a ∧ H0[a]? = some cell ∧ cell.vm.isStatics = true ∧ cell.cls = c ∧ fd.slot < cell.slots.size ∧ k.staticTypes[fd.slot]? = some fd.type ∧ cell.slots[fd.slot]? = some (va_rf r) ∧ a < b0
theorem g_lS.moved {C n d : String} {s U : State} {b0 : Nat} {H0 : Heap} (hvm : s.vm.Alike U.vm) (h : g_lS C n d s b0 H0) : g_lS C n d U b0 H0 := by
  obtain ⟨c, k, i, fd, a, cell, r, h1, h2, h3, h4, h5, h6, h7, h8, h9, h10, h11⟩ := h
  obtain ⟨k', hi', he⟩ := State.fieldFound?_setVm hvm h2
  exact ⟨c, k', i, fd, a, cell, r, by rw [hvm.findClass]; exact h1, hi', h3, by rw [he]; exact h4, h5, h6, h7, h8, by rw [he]; exact h9, h10, h11⟩
theorem g_lS.lays {C n d : String} {s : State} {b0 : Nat} {H0 : Heap} {args : Array Value} (h : g_lS C n d s b0 H0) (hh : ∀ q, q < b0 → s.heap[q]? = H0[q]?) : (Cond.laysStatic C n d).before args s = true := by
  obtain ⟨c, k, i, fd, a, cell, r, h1, h2, h3, h4, h5, h6, h7, h8, h9, h10, h11⟩ := h
  have h5' : s.heap[a]? = some cell := by rw [hh a h11]; exact h5
  simp [Cond.before, Cond.holds, Cond.value, h1, h2, h3, h4, h5', h6, h7, h8, h9]
theorem g_lS.isRef {C n d : String} {s : State} {b0 : Nat} {H0 : Heap} {args : Array Value} (h : g_lS C n d s b0 H0) (hh : ∀ q, q < b0 → s.heap[q]? = H0[q]?) : (Cond.isRef (.static C n d)).before args s = true := by
  obtain ⟨c, k, i, fd, a, cell, r, h1, h2, h3, h4, h5, h6, h7, h8, h9, h10, h11⟩ := h
  have h5' : s.heap[a]? = some cell := by rw [hh a h11]; exact h5
  have he : (Term.static C n d).eval args s none [] s = some (va_rf r) := by
    simp [Term.eval, State.fieldNamed?, h2, h3, h4, h5', h6, h10]
  simp only [Cond.before, Cond.holds, Cond.value, he]
  cases r <;> rfl
/-- what exceptions need -/
def g_Thr (G : g_G) (s : State) : Prop :=
  (∀ q ∈ g_stQ, g_lS q.1 q.2.1 q.2.2 s (g_b0 G) (g_H0 G)) ∧ (∀ q ∈ g_strs, ∃ a, vk_R q.1 q.2.1 q.2.2 a s) ∧ (∃ r : Option Nat, va_Z "jdk/internal/util/Preconditions" "SIOOBE_FORMATTER" "Ljava/util/function/BiFunction;" (va_rf r) (fun x => g_b0 G ≤ x) s (g_H0 G)) ∧ va_Mi "[Ljava/lang/Object;" (g_sa G 43) s ∧ (∀ a ∈ g_exn, ∀ b ∈ g_exn, a ≠ b → ∃ ca cb, s.vm.findClass a = some ca ∧ s.vm.findClass b = some cb ∧ s.vm.assignable ca cb = false) ∧ va_X (g_sa G 4750) (g_sx G).1 (g_sx G).2 s (g_H0 G) ∧ g_sa G 4750 < g_b0 G
/-- what is there from the start, and never changes -/
def g_Stc (G : g_G) (s : State) : Prop :=
  (∀ q ∈ g_stZ, va_Z q.1 q.2.1 q.2.2.1 (g_sv G q.2.2.2) (fun x => g_b0 G ≤ x) s (g_H0 G)) ∧
  (∀ q ∈ g_stO, va_O q.2 (g_sa G q.1) (fun x => g_b0 G ≤ x) s (g_H0 G)) ∧
  (∀ q ∈ g_stF, va_OF q.2.1 q.2.2.1 q.2.2.2.1 (g_sv G q.2.2.2.2) (g_sa G q.1) (fun x => g_b0 G ≤ x) s (g_H0 G)) ∧
  (∀ q ∈ g_stT, va_T q.2.1 (g_sa G q.1) q.2.2.length (fun j => g_sv G (q.2.2.getD j (.inl 0))) (fun x => g_b0 G ≤ x) s (g_H0 G)) ∧ g_Thr G s
theorem g_Stc.moved {G : g_G} {s U : State} (hW : s.WarmedH U.vm) (h : g_Stc G s) : g_Stc G U :=
  ⟨fun q hq => va_Z.moved hW.alike (h.1 q hq), fun q hq => va_O.moved hW.alike (h.2.1 q hq), fun q hq => va_OF.moved hW.alike (h.2.2.1 q hq), fun q hq => va_T.moved hW.alike (h.2.2.2.1 q hq), fun q hq => (h.2.2.2.2.1 q hq).moved hW.alike, fun q hq => by
    obtain ⟨a, ha⟩ := h.2.2.2.2.2.1 q hq
    exact ⟨a, ha.warm hW⟩, h.2.2.2.2.2.2.1.elim fun v hv => ⟨v, va_Z.moved hW.alike hv⟩, va_Mi.moved hW.alike h.2.2.2.2.2.2.2.1, fun a ha b hb hab => by
    obtain ⟨ca, cb, h1, h2, h3⟩ := h.2.2.2.2.2.2.2.2.1 a ha b hb hab
    exact ⟨ca, cb, by rw [hW.alike.findClass]; exact h1, by rw [hW.alike.findClass]; exact h2, by rw [hW.alike.assignable]; exact h3⟩, va_X.moved hW.alike h.2.2.2.2.2.2.2.2.2.1, h.2.2.2.2.2.2.2.2.2.2⟩
/-- what the tables say of the kinds -/
def g_Kn (G : g_G) (s : State) : Prop :=
  (∀ q ∈ g_objs, u_Kn s q.2.1.1 q.2.1.2.1 q.2.1.2.2 (G.1 q.1) (G.2.1 q.1) ∧ ∀ x y, x < q.2.1.2.2 → y < q.2.1.2.2 → x ≠ y → G.2.1 q.1 x ≠ G.2.1 q.1 y) ∧
  (∀ q ∈ g_arrs, ArrOfT s (G.2.2.1 q.1) q.2.1 ∧ va_RA s (G.2.2.1 q.1) q.2.1) ∧
  (∀ w ∈ g_tbl, ∀ a, w.before a s = true) ∧ g_Stc G s
theorem g_cls_st {w : Cond} (h : g_cls w = true) {s U : State} {a a' : Array Value} (hW : s.WarmedH U.vm) (hb : w.before a s = true) : w.before a' U = true := by
  unfold g_cls at h
  split at h
  · exact va_tabs rfl rfl (va_Nw.warmM hW (va_tabs rfl rfl hb))
  · exact va_tabs rfl rfl (va_Nw.warmF hW (va_tabs rfl rfl hb))
  · exact va_tabs rfl rfl (va_Nw.warmC hW (va_tabs rfl rfl hb))
  · exact va_tabs rfl rfl (va_Nw.warmD hW (va_tabs rfl rfl hb))
  · exact word_at hW (Or.inr ⟨_, rfl⟩) hb
  · exact va_AO.use (va_AO.moved hW.alike (va_AO.of hb))
  · exact word_at hW (Or.inl h) hb
theorem g_Kn.moved {G : g_G} {s U : State} (hW : s.WarmedH U.vm) (h : g_Kn G s) : g_Kn G U :=
  ⟨fun q hq => ⟨u_Kn_moved hW.alike (h.1 q hq).1, (h.1 q hq).2⟩, fun q hq => ⟨arrOfT_moved hW.alike (h.2.1 q hq).1, (h.2.1 q hq).2.moved hW.alike⟩, fun w hw a => g_cls_st (g_tbl_cls w hw) hW (h.2.2.1 w hw #[]), h.2.2.2.moved hW⟩
def g_room (d : Nat) (u : g_St) : Room := { frames := d, cells := g_LC - g_cn u, slots := g_LS - g_sn u, locals := 64 * d }
/-- since the start: what was there is there, at its place; no fewer cells and slots -/
def g_Le (u0 : g_St) (ad0 : Nat → Nat) (u : g_St) (ad : Nat → Nat) : Prop := (∀ a, g_al u0 a → g_al u a ∧ ad a = ad0 a) ∧ g_cn u0 ≤ g_cn u ∧ g_sn u0 ≤ g_sn u
/-- how a method ends -/
def g_End (G : g_G) (u0 : g_St) (ad0 : Nat → Nat) (out : g_Out) (o : Outcome) (t : State) : Prop :=
  (match out.1 with
    | .inl v => ∃ ad, o = .returned (v.map (g_v ad)) ∧ g_Rep G out.2 ad t.heap ∧ g_Le u0 ad0 out.2 ad ∧ ∀ w, v = some w → g_okV out.2 w
    | .inr e => ∃ (ad : Nat → Nat) (x : Nat) (cell : Cell) (n : String), o = .threw x ∧ t.heap[x]? = some cell ∧ cell.vm.isStatics = false ∧ g_exn[e]? = some n ∧ t.vm.findClass n = some cell.cls ∧ g_Rep G out.2 ad t.heap ∧ g_Le u0 ad0 out.2 ad)
/-- the frame: only new cells were written, so many were made -/
def g_Fr (G : g_G) (u0 : g_St) (out : g_Out) (s t : State) : Prop :=
  s.WarmedH t.vm ∧ ∃ L : List Loc, s.sameButNew ({ t with vm := s.vm } : State) L (g_cn out.2 - g_cn u0) (g_sn out.2 - g_sn u0) ∧ ∀ q ∈ L, g_b0 G ≤ q.base
def g_Q (G : g_G) (u0 : g_St) (ad0 : Nat → Nat) (s : State) (below : List Frame) (out : g_Out) : State → Prop := fun t =>
  ∃ o, t.status = .running ∧ Ended t below o ∧ g_End G u0 ad0 out o t ∧ g_Fr G u0 out s t
/-- a walk's surroundings -/
abbrev g_C : Type := Program × Launch × Env × State × MethodId × Array Value × List Frame × Method × Code × Nat × Nat × g_St × (Nat → Nat) × g_G
def g_W (K : g_C) (u : g_St) (ls : List (Nat × g_V)) (st : List g_V) (pc : Nat) (out : g_Out) : Prop := match K with
  | (p, l, e, s, m, args, below, meth, c, nL, d, u0, ad0, G) =>
    ∀ (ad : Nat → Nat) (H : Heap) (locs : List Loc) (la : Array Slot),
      g_Rep G u ad H → g_Le u0 ad0 u ad → g_okL u ls → g_okS u st → (∀ q ∈ locs, g_b0 G ≤ q.base) → lv_has la nL (ls.map fun q => (q.1, g_v ad q.2)) →
      W p l e (g_room d u0) s m args below meth c H locs (g_cn u - g_cn u0) (g_sn u - g_sn u0) (g_Q G u0 ad0 s below out) (F0 m pc la (st.map (g_v ad)))
def g_OK (K : g_C) (cc : ByteArray) (own nm : String) (ret : Option FieldType) : Prop := match K with
  | (p, l, e, s, m, args, below, meth, c, nL, d, u0, ad0, G) =>
    p.tables.exec = Jvm.exec ∧ c.code = cc ∧ c.maxLocals = nL ∧ s.vm.findClass own = some m.cls ∧ (∀ w ∈ g_tbl, w.before args s = true) ∧ g_Kn G s ∧ meth.locks = false ∧ meth.name = nm ∧ meth.sig.returnType = ret ∧ l.stackTraces = false
theorem g_okS.tl {u : g_St} {v : g_V} {st : List g_V} (h : g_okS u (v :: st)) : g_okS u st := fun w hw => h w (List.mem_cons_of_mem _ hw)
theorem g_okS.hd {u : g_St} {v : g_V} {st : List g_V} (h : g_okS u (v :: st)) : g_okV u v := h v List.mem_cons_self
theorem g_okS.cons {u : g_St} {v : g_V} {st : List g_V} (h0 : g_okV u v) (h : g_okS u st) : g_okS u (v :: st) := fun w hw => by
  rcases List.mem_cons.mp hw with rfl | hw
  · exact h0
  · exact h w hw
theorem g_okS.int {u : g_St} {x : Int32} {st : List g_V} (h : g_okS u st) : g_okS u (g_i x :: st) := h.cons trivial
theorem g_okS.long {u : g_St} {x : Int64} {st : List g_V} (h : g_okS u st) : g_okS u (g_l x :: st) := h.cons trivial
/-- what is there stays there -/
theorem g_okT.mono {u u' : g_St} (h : ∀ a, g_al u a → g_al u' a) {t : Nat} {r : Option Nat} (k : g_okT u t r) : g_okT u' t r := fun a e => ⟨(k a e).1, h a (k a e).2⟩
theorem g_okV.mono {u u' : g_St} (h : ∀ a, g_al u a → g_al u' a) {v : g_V} (k : g_okV u v) : g_okV u' v := by
  rcases v with x | x | q
  · trivial
  · trivial
  · exact g_okT.mono h k
theorem g_okS.mono {u u' : g_St} (h : ∀ a, g_al u a → g_al u' a) {st : List g_V} (k : g_okS u st) : g_okS u' st := fun v hv => (k v hv).mono h
theorem g_okL.mono {u u' : g_St} (h : ∀ a, g_al u a → g_al u' a) {ls : List (Nat × g_V)} (k : g_okL u ls) : g_okL u' ls := fun v hv => (k v hv).mono h
theorem g_lv {ad : Nat → Nat} {la : Array Slot} {nL i : Nat} {v : g_V} {ls : List (Nat × g_V)} (h : lv_has la nL (ls.map fun q => (q.1, g_v ad q.2))) {j : Nat} (hj : ls[j]? = some (i, v)) : la[i]? = some (.val (g_v ad v)) := by
  refine h.2.2 (i, g_v ad v) (List.mem_map.mpr ⟨(i, v), List.mem_of_getElem? hj, rfl⟩)
/-- fewer locals, in another order -/
theorem r_sub {K : g_C} {u : g_St} {ls ls' : List (Nat × g_V)} {st : List g_V} {pc : Nat} {out : g_Out} (ps : List Nat) (hl : ps.filterMap (fun k => ls[k]?) = ls') (k : g_W K u ls' st pc out) : g_W K u ls st pc out := by
  obtain ⟨p, l, e, s, m, args, below, meth, c, nL, d, u0, ad0, G⟩ := K
  intro ad H locs la hR hE hL hS hlo hla
  have hin : ∀ q ∈ ls', q ∈ ls := fun q hq => by
    rw [← hl] at hq
    obtain ⟨k, -, hk⟩ := List.mem_filterMap.mp hq
    exact List.mem_of_getElem? hk
  refine k ad H locs la hR hE (fun q hq => hL q (hin q hq)) hS hlo ⟨hla.1, hla.2.1, fun q hq => ?_⟩
  obtain ⟨w, hw, rfl⟩ := List.mem_map.mp hq
  exact hla.2.2 _ (List.mem_map.mpr ⟨w, hin w hw, rfl⟩)
