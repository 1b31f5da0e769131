/-! ENDS AND CALLS -/
theorem g_mono {p : Program} {l : Launch} {e : Env} {R : Room} {s : State} {m : MethodId} {args : Array Value} {below : List Frame} {meth : Method} {c : Code} {H : Heap} {locs : List Loc} {cells slots : Nat} {Q Q' : State → Prop} {g : JFrame}
    (k : W p l e R s m args below meth c H locs cells slots Q g) (hq : ∀ t, Q t → Q' t) : W p l e R s m args below meth c H locs cells slots Q' g := fun T hT X => by
  obtain ⟨t, a, b⟩ := k T hT X
  exact ⟨t, a, hq t b⟩
theorem g_MQ {G : g_G} {u0 : g_St} {ad0 : Nat → Nat} {s : State} {below : List Frame} {out : g_Out} {args : Array Value} {t : State}
    (h : MQ below (fun _ _ o t => g_End G u0 ad0 out o t) args s (g_cn out.2 - g_cn u0) (g_sn out.2 - g_sn u0) (fun q => g_b0 G ≤ q) t) : g_Q G u0 ad0 s below out t := by
  obtain ⟨o, h1, h2, h3, L, ⟨-, h4, h5⟩, h6⟩ := h
  exact ⟨o, h1, h2, h3, h4, L, h5, h6⟩
def g_rZ {α : Type} (x : Int32) (F : Option α) : Option α := if x = 0 ∨ x = 1 then F else none
theorem r_ireturn {K : g_C} {cc : ByteArray} {own nm : String} {u : g_St} {ls : List (Nat × g_V)} {pc : Nat} (hK : g_OK K cc own nm (some .int)) {x : Int32} {o : Int32 × g_St} (hd : decode cc pc = .ok (.ireturn, 1)) (h : some (x, u) = some o) : g_W K u ls [g_i x] pc (g_jI o) := by
  cases h
  obtain ⟨p, l, e, s, m, args, below, meth, c, nL, d, u0, ad0, G⟩ := K
  obtain ⟨hx, hb, hml, hown, hts, hKn, hlk, hnm, hret, htr⟩ := hK
  intro ad H locs la hR hE hL hS hlo hla
  exact g_mono (W.iret (Qc := fun _ _ o t => g_End G u0 ad0 (g_jI (x, u)) o t) (free := fun q => g_b0 G ≤ q) hx hb hret (fun t ht hW => ⟨ad, rfl, by rw [ht]; exact hR, hE, fun w hw => by cases hw; trivial⟩) hlo hd hlk) (fun t ht => g_MQ ht)
theorem r_ireturnT {K : g_C} {cc : ByteArray} {own nm : String} {u : g_St} {ls : List (Nat × g_V)} {pc : Nat} (hK : g_OK K cc own nm (some .int)) {x : Int32} {o : (Int32 ⊕ Nat) × g_St} (hd : decode cc pc = .ok (.ireturn, 1)) (h : some (Sum.inl x, u) = some o) : g_W K u ls [g_i x] pc (g_jTI o) := by
  cases h
  obtain ⟨p, l, e, s, m, args, below, meth, c, nL, d, u0, ad0, G⟩ := K
  obtain ⟨hx, hb, hml, hown, hts, hKn, hlk, hnm, hret, htr⟩ := hK
  intro ad H locs la hR hE hL hS hlo hla
  exact g_mono (W.iret (Qc := fun _ _ o t => g_End G u0 ad0 (g_jTI (Sum.inl x, u)) o t) (free := fun q => g_b0 G ≤ q) hx hb hret (fun t ht hW => ⟨ad, rfl, by rw [ht]; exact hR, hE, fun w hw => by cases hw; trivial⟩) hlo hd hlk) (fun t ht => g_MQ ht)
theorem r_lreturn {K : g_C} {cc : ByteArray} {own nm : String} {u : g_St} {ls : List (Nat × g_V)} {pc : Nat} (hK : g_OK K cc own nm (some .long)) {x : Int64} {o : Int64 × g_St} (hd : decode cc pc = .ok (.lreturn, 1)) (h : some (x, u) = some o) : g_W K u ls [g_l x] pc (g_jL o) := by
  cases h
  obtain ⟨p, l, e, s, m, args, below, meth, c, nL, d, u0, ad0, G⟩ := K
  obtain ⟨hx, hb, hml, hown, hts, hKn, hlk, hnm, hret, htr⟩ := hK
  intro ad H locs la hR hE hL hS hlo hla
  exact g_mono (W.lret (Qc := fun _ _ o t => g_End G u0 ad0 (g_jL (x, u)) o t) (free := fun q => g_b0 G ≤ q) hx hb hret (fun t ht hW => ⟨ad, rfl, by rw [ht]; exact hR, hE, fun w hw => by cases hw; trivial⟩) hlo hd hlk) (fun t ht => g_MQ ht)
theorem r_lreturnT {K : g_C} {cc : ByteArray} {own nm : String} {u : g_St} {ls : List (Nat × g_V)} {pc : Nat} (hK : g_OK K cc own nm (some .long)) {x : Int64} {o : (Int64 ⊕ Nat) × g_St} (hd : decode cc pc = .ok (.lreturn, 1)) (h : some (Sum.inl x, u) = some o) : g_W K u ls [g_l x] pc (g_jTL o) := by
  cases h
  obtain ⟨p, l, e, s, m, args, below, meth, c, nL, d, u0, ad0, G⟩ := K
  obtain ⟨hx, hb, hml, hown, hts, hKn, hlk, hnm, hret, htr⟩ := hK
  intro ad H locs la hR hE hL hS hlo hla
  exact g_mono (W.lret (Qc := fun _ _ o t => g_End G u0 ad0 (g_jTL (Sum.inl x, u)) o t) (free := fun q => g_b0 G ≤ q) hx hb hret (fun t ht hW => ⟨ad, rfl, by rw [ht]; exact hR, hE, fun w hw => by cases hw; trivial⟩) hlo hd hlk) (fun t ht => g_MQ ht)
theorem r_zreturn {K : g_C} {cc : ByteArray} {own nm : String} {u : g_St} {ls : List (Nat × g_V)} {pc : Nat} (hK : g_OK K cc own nm (some .boolean)) {x : Int32} {o : Int32 × g_St} (hd : decode cc pc = .ok (.ireturn, 1)) (h : g_rZ x (some (x, u)) = some o) : g_W K u ls [g_i x] pc (g_jI o) := by
  have hz : x = 0 ∨ x = 1 := by
    by_cases w : x = 0 ∨ x = 1
    · exact w
    · rw [g_rZ, if_neg w] at h; cases h
  rw [g_rZ, if_pos hz] at h
  have hnar : narrow .boolean (.int x) = .int x := by rcases hz with rfl | rfl <;> rfl
  cases h
  obtain ⟨p, l, e, s, m, args, below, meth, c, nL, d, u0, ad0, G⟩ := K
  obtain ⟨hx, hb, hml, hown, hts, hKn, hlk, hnm, hret, htr⟩ := hK
  intro ad H locs la hR hE hL hS hlo hla
  exact g_mono (W.zret (Qc := fun _ _ o t => g_End G u0 ad0 (g_jI (x, u)) o t) (free := fun q => g_b0 G ≤ q) hx hb hret hnar (fun t ht hW => ⟨ad, rfl, by rw [ht]; exact hR, hE, fun w hw => by cases hw; trivial⟩) hlo hd hlk) (fun t ht => g_MQ ht)
theorem r_areturn {rt : FieldType} (hrt : (∃ n, rt = .object n) ∨ ∃ t, rt = .array t) {K : g_C} {cc : ByteArray} {own nm : String} {u : g_St} {ls : List (Nat × g_V)} {pc : Nat} (hK : g_OK K cc own nm (some rt)) {t : Nat} {r : Option Nat} {o : Option Nat × g_St} (hd : decode cc pc = .ok (.areturn, 1)) (h : some (r, u) = some o) : g_W K u ls [g_r t r] pc (g_jR t o) := by
  cases h
  obtain ⟨p, l, e, s, m, args, below, meth, c, nL, d, u0, ad0, G⟩ := K
  obtain ⟨hx, hb, hml, hown, hts, hKn, hlk, hnm, hret, htr⟩ := hK
  intro ad H locs la hR hE hL hS hlo hla
  exact g_mono (W.aret (v := va_rf (r.map ad)) (Qc := fun _ _ o t' => g_End G u0 ad0 (g_jR t (r, u)) o t') (free := fun q => g_b0 G ≤ q) hx hb hret hrt (by cases r with | none => exact Or.inl rfl | some a => exact Or.inr ⟨_, rfl⟩) (fun t ht hW => ⟨ad, rfl, by rw [ht]; exact hR, hE, fun w hw => by cases hw; exact hS.hd⟩) hlo hd hlk) (fun t ht => g_MQ ht)
theorem r_return {K : g_C} {cc : ByteArray} {own nm : String} {u : g_St} {ls : List (Nat × g_V)} {pc : Nat} (hK : g_OK K cc own nm none) {o : Unit × g_St} (hd : decode cc pc = .ok (.return_, 1)) (h : some ((), u) = some o) : g_W K u ls [] pc (g_jV o) := by
  cases h
  obtain ⟨p, l, e, s, m, args, below, meth, c, nL, d, u0, ad0, G⟩ := K
  obtain ⟨hx, hb, hml, hown, hts, hKn, hlk, hnm, hret, htr⟩ := hK
  intro ad H locs la hR hE hL hS hlo hla
  exact g_mono (W.vret (Qc := fun _ _ o t => g_End G u0 ad0 (g_jV ((), u)) o t) (free := fun q => g_b0 G ≤ q) hx hb hret (fun t ht hW => ⟨ad, rfl, by rw [ht]; exact hR, hE, fun w hw => by cases hw⟩) hlo hd hlk) (fun t ht => g_MQ ht)
theorem r_zreturnT {K : g_C} {cc : ByteArray} {own nm : String} {u : g_St} {ls : List (Nat × g_V)} {pc : Nat} (hK : g_OK K cc own nm (some .boolean)) {x : Int32} {o : (Int32 ⊕ Nat) × g_St} (hd : decode cc pc = .ok (.ireturn, 1)) (h : g_rZ x (some (Sum.inl x, u)) = some o) : g_W K u ls [g_i x] pc (g_jTI o) := by
  have hz : x = 0 ∨ x = 1 := by
    by_cases w : x = 0 ∨ x = 1
    · exact w
    · rw [g_rZ, if_neg w] at h; cases h
  rw [g_rZ, if_pos hz] at h
  have hnar : narrow .boolean (.int x) = .int x := by rcases hz with rfl | rfl <;> rfl
  cases h
  obtain ⟨p, l, e, s, m, args, below, meth, c, nL, d, u0, ad0, G⟩ := K
  obtain ⟨hx, hb, hml, hown, hts, hKn, hlk, hnm, hret, htr⟩ := hK
  intro ad H locs la hR hE hL hS hlo hla
  exact g_mono (W.zret (Qc := fun _ _ o t => g_End G u0 ad0 (g_jTI (Sum.inl x, u)) o t) (free := fun q => g_b0 G ≤ q) hx hb hret hnar (fun t ht hW => ⟨ad, rfl, by rw [ht]; exact hR, hE, fun w hw => by cases hw; trivial⟩) hlo hd hlk) (fun t ht => g_MQ ht)
theorem r_areturnT {rt : FieldType} (hrt : (∃ n, rt = .object n) ∨ ∃ t, rt = .array t) {K : g_C} {cc : ByteArray} {own nm : String} {u : g_St} {ls : List (Nat × g_V)} {pc : Nat} (hK : g_OK K cc own nm (some rt)) {t : Nat} {r : Option Nat} {o : (Option Nat ⊕ Nat) × g_St} (hd : decode cc pc = .ok (.areturn, 1)) (h : some (Sum.inl r, u) = some o) : g_W K u ls [g_r t r] pc (g_jTR t o) := by
  cases h
  obtain ⟨p, l, e, s, m, args, below, meth, c, nL, d, u0, ad0, G⟩ := K
  obtain ⟨hx, hb, hml, hown, hts, hKn, hlk, hnm, hret, htr⟩ := hK
  intro ad H locs la hR hE hL hS hlo hla
  exact g_mono (W.aret (v := va_rf (r.map ad)) (Qc := fun _ _ o t' => g_End G u0 ad0 (g_jTR t (Sum.inl r, u)) o t') (free := fun q => g_b0 G ≤ q) hx hb hret hrt (by cases r with | none => exact Or.inl rfl | some a => exact Or.inr ⟨_, rfl⟩) (fun t ht hW => ⟨ad, rfl, by rw [ht]; exact hR, hE, fun w hw => by cases hw; exact hS.hd⟩) hlo hd hlk) (fun t ht => g_MQ ht)
theorem r_returnT {K : g_C} {cc : ByteArray} {own nm : String} {u : g_St} {ls : List (Nat × g_V)} {pc : Nat} (hK : g_OK K cc own nm none) {o : (Unit ⊕ Nat) × g_St} (hd : decode cc pc = .ok (.return_, 1)) (h : some (Sum.inl (), u) = some o) : g_W K u ls [] pc (g_jTV o) := by
  cases h
  obtain ⟨p, l, e, s, m, args, below, meth, c, nL, d, u0, ad0, G⟩ := K
  obtain ⟨hx, hb, hml, hown, hts, hKn, hlk, hnm, hret, htr⟩ := hK
  intro ad H locs la hR hE hL hS hlo hla
  exact g_mono (W.vret (Qc := fun _ _ o t => g_End G u0 ad0 (g_jTV (Sum.inl (), u)) o t) (free := fun q => g_b0 G ≤ q) hx hb hret (fun t ht hW => ⟨ad, rfl, by rw [ht]; exact hR, hE, fun w hw => by cases hw⟩) hlo hd hlk) (fun t ht => g_MQ ht)
def g_Kl (K : g_C) : Launch := K.2.1
def g_Kd (K : g_C) : Nat := K.2.2.2.2.2.2.2.2.2.2.1
def g_KG (K : g_C) : g_G := K.2.2.2.2.2.2.2.2.2.2.2.2.2
def g_nn {α : Type} (r : Option Nat) (F : Option α) : Option α := match r with
  | none => none
  | some _ => F
theorem g_okS.app {u : g_St} {a b : List g_V} (h : g_okS u (a ++ b)) : g_okS u a ∧ g_okS u b := ⟨fun v hv => h v (List.mem_append_left _ hv), fun v hv => h v (List.mem_append_right _ hv)⟩
def g_noX (K : g_C) : Prop := K.2.2.2.2.2.2.2.2.1.exceptionTable.isEmpty = true
/-- A METHOD'S CONTRACT: from the model state u, with the values av, it ends as the model says -/
def g_Con (l : Launch) (G : g_G) (y : MethodName) (cc : ByteArray) (nL : Nat) (ret : Option FieldType) (d : Nat) (av : List g_V) (u : g_St) (out : g_Out) : Prop :=
  ∀ ad : Nat → Nat, l.stackTraces = false → g_okS u av → MetFree l y (headSpec [Cond.code y cc nL ret] (g_room d u)) (fun a s => a = (av.map (g_v ad)).toArray ∧ g_Rep G u ad s.heap ∧ g_Kn G s) (fun _ _ _ _ _ => True) (fun _ s o t => g_End G u ad out o t ∧ g_Fr G u out s t)
/-- the values as locals -/
def g_loc : Nat → List g_V → List (Nat × g_V)
  | _, [] => []
  | i, v :: vs => (i, v) :: g_loc (if g_two v then i + 2 else i + 1) vs
theorem g_loc_map (ad : Nat → Nat) : ∀ (vs : List g_V) (i : Nat), lv_args i (vs.map (g_v ad)) = (g_loc i vs).map fun q => (q.1, g_v ad q.2) := by
  intro vs
  induction vs with
  | nil => intro i; rfl
  | cons v vs ih =>
    intro i
    have e : ((g_v ad v).category = 2) = (g_two v = true) := by
      rw [← g_two_cat ad v]
      simp
    show (i, g_v ad v) :: lv_args (if (g_v ad v).category = 2 then i + 2 else i + 1) (vs.map (g_v ad)) = (i, g_v ad v) :: ((g_loc (if g_two v then i + 2 else i + 1) vs).map fun q => (q.1, g_v ad q.2))
    rw [← ih]
    congr 2
    by_cases h : g_two v = true
    · rw [if_pos (by rw [e]; exact h), if_pos h]
    · rw [if_neg (by rw [e]; exact h), if_neg h]
theorem g_loc_ok {u : g_St} : ∀ (vs : List g_V) (i : Nat), g_okS u vs → g_okL u (g_loc i vs) := by
  intro vs
  induction vs with
  | nil => intro i _ q hq; cases hq
  | cons v vs ih =>
    intro i h q hq
    rcases List.mem_cons.mp hq with rfl | hq
    · exact h.hd
    · exact ih _ h.tl q hq
def g_wid : List g_V → Nat
  | [] => 0
  | v :: vs => (if g_two v then 2 else 1) + g_wid vs
theorem g_wid_eq (ad : Nat → Nat) : ∀ vs : List g_V, (lg_sl (vs.map (g_v ad))).length = g_wid vs := by
  intro vs
  induction vs with
  | nil => rfl
  | cons v vs ih =>
    have e : ((g_v ad v).category = 2) = (g_two v = true) := by
      rw [← g_two_cat ad v]
      simp
    show (List.flatMap _ (g_v ad v :: vs.map (g_v ad))).length = _
    rw [List.flatMap_cons, List.length_append]
    show _ + (lg_sl (vs.map (g_v ad))).length = (if g_two v then 2 else 1) + g_wid vs
    rw [ih]
    congr 1
    by_cases h : g_two v = true
    · rw [if_pos (by rw [e]; exact h), if_pos h]; rfl
    · rw [if_neg (by rw [e]; exact h), if_neg h]; rfl
theorem g_cats (ad : Nat → Nat) : ∀ st : List g_V, ((st.map (g_v ad)).map fun v => v.category).sum = g_wid st := by
  intro st
  induction st with
  | nil => rfl
  | cons v st ih =>
    have e : (g_v ad v).category = if g_two v then 2 else 1 := by
      rcases v with x | x | ⟨t, _ | a⟩ <;> rfl
    rw [List.map_cons, List.map_cons, List.sum_cons, ih, e]
    rfl
set_option maxHeartbeats 1000000 in
theorem g_Con.of {l : Launch} {G : g_G} {y : MethodName} {cc : ByteArray} {nL : Nat} {ret : Option FieldType} {d : Nat} {av : List g_V} {u : g_St} {out : g_Out} {own nm : String} (eo : y.cls = own) (en : y.name = nm)
    (hy : plainName y.cls = true) (hw : g_wid av ≤ nL)
    (body : ∀ K : g_C, g_OK K cc own nm ret → g_nL K = nL → g_Kd K = d → g_noX K → g_W K u (g_loc 0 av) [] 0 out) : g_Con l G y cc nL ret d av u out := by
  intro ad htr hok
  refine MetFree.of_bodyS (code := cc) (maxLocals := nL) (ret := ret) hy ?_ ?_
  · intro args s m h hn
    obtain ⟨meth, c, h1, h2, h3, h4, h5, h6, -, -⟩ := Cond.code_spec hn (atoms_spec (ws := [Cond.code y cc nL ret]) h _ List.mem_cons_self)
    exact ⟨meth, c, h1, h2, h3, h4, h5, h6⟩
  · intro p e s m args below meth c s₁ B hml hP _
    obtain ⟨rfl, hR, hKn⟩ := hP
    have hh0 : s₁.heap = s.heap := by rw [B.state]; rfl
    have hmn : meth.name = nm := by rw [← en]; exact (name_of_methodNamed B.named B.method).1
    have hown : s.vm.findClass own = some m.cls := by rw [← eo]; exact findClass_of_methodNamed B.named
    have k := body (p, l, e, s, m, (av.map (g_v ad)).toArray, below, meth, c, nL, d, u, ad, G) ⟨B.exec, B.bytes, hml, hown, fun w hw => hKn.2.2.1 w hw _, hKn, B.notSynchronized, hmn, B.returns, htr⟩ rfl rfl (B.noHandlers (atoms_spec (ws := [Cond.code y cc nL ret]) B.pre _ List.mem_cons_self))
    have hla := lv_entry (av.map (g_v ad)) (n := nL) (by rw [g_wid_eq]; exact hw)
    rw [g_loc_map] at hla
    have k2 := k ad s.heap [] _ hR ⟨fun a ha => ⟨ha, rfl⟩, Nat.le_refl _, Nat.le_refl _⟩ (g_loc_ok av 0 hok) (fun v hv => by cases hv) (fun q hq => by cases hq) hla
    rw [Nat.sub_self, Nat.sub_self] at k2
    have k3 : W p l e (g_room d u) s m (av.map (g_v ad)).toArray below meth c s.heap [] 0 0 (g_Q G u ad s below out) (entryFrame m (av.map (g_v ad)).toArray nL) := by
      rw [lg_entry_eq]
      exact k2
    obtain ⟨t, a1, o, b1, b2, b3, b4⟩ := k3 s₁ hh0 (Stand.of_body B)
    exact ⟨t, o, a1, b1, b2, b3, b4⟩
theorem r_objinit {K : g_C} {cc : ByteArray} {own nm : String} {ret : Option FieldType} {u : g_St} {ls : List (Nat × g_V)} {st : List g_V} {pc : Nat} {out : g_Out} (hK : g_OK K cc own nm ret) {α : Type} {o : α} {index t : Nat} {r : Option Nat} {F : Option α} (hl : Cond.methodLink own index objectInit ∈ g_tbl) (hdd : 1 ≤ g_Kd K) (hw : g_wid st + 12 ≤ 64) (hd : decode cc pc = .ok (.invokespecial index, 3)) (h : g_nn r F = some o) (k : F = some o → g_W K u ls st (pc + 3) out) : g_W K u ls (g_r t r :: st) pc out := by
  cases r with
  | none => cases h
  | some b =>
    obtain ⟨p, l, e, s, m, args, below, meth, c, nL, d, u0, ad0, G⟩ := K
    obtain ⟨hx, hb, hml, hown, hts, hKn, hlk, hnm, hret, htr⟩ := hK
    intro ad H locs la hR hE hL hS hlo hla
    refine W.objInit hx hb hown (hts _ hl) (hts _ w_objinst) (hts _ w_objcode) rfl (by rw [hml]; exact hla.1) rfl hd hdd ?_ (k h ad H locs la hR hE hL hS.tl hlo hla)
    rw [g_cats]
    show 2 * 0 + g_wid st + 12 ≤ 64 * d
    have : 1 ≤ d := hdd
    omega
