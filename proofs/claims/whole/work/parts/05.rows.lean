/-! ROWS: an instruction each; h: what the model does there -/
theorem r_iconst {K : g_C} {cc : ByteArray} {own nm : String} {ret : Option FieldType} {u : g_St} {ls : List (Nat × g_V)} {st : List g_V} {pc : Nat} {out : g_Out} (hK : g_OK K cc own nm ret) {n : Int} {v : Int32} (hd : decode cc pc = .ok (.iconst n, 1)) (hv : Int32.ofInt n = v) (k : g_W K u ls (g_i v :: st) (pc + 1) out) : g_W K u ls st pc out := by
  obtain ⟨p, l, e, s, m, args, below, meth, c, nL, d, u0, ad0, G⟩ := K
  obtain ⟨hx, hb, hml, hown, hts, hKn, hlk, hnm, hret, htr⟩ := hK
  intro ad H locs la hR hE hL hS hlo hla
  exact lv_iconst hx hb hd hv (k ad H locs la hR hE hL hS.int hlo hla)
theorem r_bipush {K : g_C} {cc : ByteArray} {own nm : String} {ret : Option FieldType} {u : g_St} {ls : List (Nat × g_V)} {st : List g_V} {pc : Nat} {out : g_Out} (hK : g_OK K cc own nm ret) {n : Int} {v : Int32} (hd : decode cc pc = .ok (.bipush n, 2)) (hv : (Int8.ofInt n).toInt32 = v) (k : g_W K u ls (g_i v :: st) (pc + 2) out) : g_W K u ls st pc out := by
  obtain ⟨p, l, e, s, m, args, below, meth, c, nL, d, u0, ad0, G⟩ := K
  obtain ⟨hx, hb, hml, hown, hts, hKn, hlk, hnm, hret, htr⟩ := hK
  intro ad H locs la hR hE hL hS hlo hla
  exact lv_bipush hx hb hd hv (k ad H locs la hR hE hL hS.int hlo hla)
theorem r_sipush {K : g_C} {cc : ByteArray} {own nm : String} {ret : Option FieldType} {u : g_St} {ls : List (Nat × g_V)} {st : List g_V} {pc : Nat} {out : g_Out} (hK : g_OK K cc own nm ret) {n : Int} {v : Int32} (hd : decode cc pc = .ok (.sipush n, 3)) (hv : (Int16.ofInt n).toInt32 = v) (k : g_W K u ls (g_i v :: st) (pc + 3) out) : g_W K u ls st pc out := by
  obtain ⟨p, l, e, s, m, args, below, meth, c, nL, d, u0, ad0, G⟩ := K
  obtain ⟨hx, hb, hml, hown, hts, hKn, hlk, hnm, hret, htr⟩ := hK
  intro ad H locs la hR hE hL hS hlo hla
  exact lv_sipush hx hb hd hv (k ad H locs la hR hE hL hS.int hlo hla)
theorem r_lconst {K : g_C} {cc : ByteArray} {own nm : String} {ret : Option FieldType} {u : g_St} {ls : List (Nat × g_V)} {st : List g_V} {pc : Nat} {out : g_Out} (hK : g_OK K cc own nm ret) {n : Fin 2} {v : Int64} (hd : decode cc pc = .ok (.lconst n, 1)) (hv : Int64.ofNat (n : Nat) = v) (k : g_W K u ls (g_l v :: st) (pc + 1) out) : g_W K u ls st pc out := by
  obtain ⟨p, l, e, s, m, args, below, meth, c, nL, d, u0, ad0, G⟩ := K
  obtain ⟨hx, hb, hml, hown, hts, hKn, hlk, hnm, hret, htr⟩ := hK
  intro ad H locs la hR hE hL hS hlo hla
  exact lv_lconst hx hb hd hv (k ad H locs la hR hE hL hS.long hlo hla)
theorem r_ldc {K : g_C} {cc : ByteArray} {own nm : String} {ret : Option FieldType} {u : g_St} {ls : List (Nat × g_V)} {st : List g_V} {pc : Nat} {out : g_Out} (hK : g_OK K cc own nm ret) {index : Nat} {v : Int32} (hc : Cond.constant own index v ∈ g_tbl) (hd : decode cc pc = .ok (.ldc index, 2)) (k : g_W K u ls (g_i v :: st) (pc + 2) out) : g_W K u ls st pc out := by
  obtain ⟨p, l, e, s, m, args, below, meth, c, nL, d, u0, ad0, G⟩ := K
  obtain ⟨hx, hb, hml, hown, hts, hKn, hlk, hnm, hret, htr⟩ := hK
  intro ad H locs la hR hE hL hS hlo hla
  exact lv_ldc hx hb hown (hts _ hc) hd (k ad H locs la hR hE hL hS.int hlo hla)
theorem r_ldc2 {K : g_C} {cc : ByteArray} {own nm : String} {ret : Option FieldType} {u : g_St} {ls : List (Nat × g_V)} {st : List g_V} {pc : Nat} {out : g_Out} (hK : g_OK K cc own nm ret) {index : Nat} {v : Int64} (hc : Cond.constantLong own index v ∈ g_tbl) (hd : decode cc pc = .ok (.ldc2_w index, 3)) (k : g_W K u ls (g_l v :: st) (pc + 3) out) : g_W K u ls st pc out := by
  obtain ⟨p, l, e, s, m, args, below, meth, c, nL, d, u0, ad0, G⟩ := K
  obtain ⟨hx, hb, hml, hown, hts, hKn, hlk, hnm, hret, htr⟩ := hK
  intro ad H locs la hR hE hL hS hlo hla
  exact lv_ldc2 hx hb hown (hts _ hc) hd (k ad H locs la hR hE hL hS.long hlo hla)
theorem r_null {K : g_C} {cc : ByteArray} {own nm : String} {ret : Option FieldType} {u : g_St} {ls : List (Nat × g_V)} {st : List g_V} {pc : Nat} {out : g_Out} (hK : g_OK K cc own nm ret) (t : Nat) (hd : decode cc pc = .ok (.aconst_null, 1)) (k : g_W K u ls (g_r t none :: st) (pc + 1) out) : g_W K u ls st pc out := by
  obtain ⟨p, l, e, s, m, args, below, meth, c, nL, d, u0, ad0, G⟩ := K
  obtain ⟨hx, hb, hml, hown, hts, hKn, hlk, hnm, hret, htr⟩ := hK
  intro ad H locs la hR hE hL hS hlo hla
  exact lv_null hx hb hd (k ad H locs la hR hE hL (hS.cons (fun a q => by cases q)) hlo hla)
theorem r_iload_n {K : g_C} {cc : ByteArray} {own nm : String} {ret : Option FieldType} {u : g_St} {ls : List (Nat × g_V)} {st : List g_V} {pc : Nat} {out : g_Out} (hK : g_OK K cc own nm ret) {f : Fin 4} {i : Nat} {x : Int32} (hd : decode cc pc = .ok (.iload_n f, 1)) (hi : (f : Nat) = i) (j : Nat) (hl : ls[j]? = some (i, g_i x)) (k : g_W K u ls (g_i x :: st) (pc + 1) out) : g_W K u ls st pc out := by
  obtain ⟨p, l, e, s, m, args, below, meth, c, nL, d, u0, ad0, G⟩ := K
  obtain ⟨hx, hb, hml, hown, hts, hKn, hlk, hnm, hret, htr⟩ := hK
  intro ad H locs la hR hE hL hS hlo hla
  exact lv_iload_n hx hb hd hi (g_lv hla hl) (k ad H locs la hR hE hL hS.int hlo hla)
theorem r_iload {K : g_C} {cc : ByteArray} {own nm : String} {ret : Option FieldType} {u : g_St} {ls : List (Nat × g_V)} {st : List g_V} {pc : Nat} {out : g_Out} (hK : g_OK K cc own nm ret) {i : Nat} {x : Int32} (hd : decode cc pc = .ok (.iload i, 2)) (j : Nat) (hl : ls[j]? = some (i, g_i x)) (k : g_W K u ls (g_i x :: st) (pc + 2) out) : g_W K u ls st pc out := by
  obtain ⟨p, l, e, s, m, args, below, meth, c, nL, d, u0, ad0, G⟩ := K
  obtain ⟨hx, hb, hml, hown, hts, hKn, hlk, hnm, hret, htr⟩ := hK
  intro ad H locs la hR hE hL hS hlo hla
  exact lv_iload hx hb hd (g_lv hla hl) (k ad H locs la hR hE hL hS.int hlo hla)
theorem r_lload_n {K : g_C} {cc : ByteArray} {own nm : String} {ret : Option FieldType} {u : g_St} {ls : List (Nat × g_V)} {st : List g_V} {pc : Nat} {out : g_Out} (hK : g_OK K cc own nm ret) {f : Fin 4} {i : Nat} {x : Int64} (hd : decode cc pc = .ok (.lload_n f, 1)) (hi : (f : Nat) = i) (j : Nat) (hl : ls[j]? = some (i, g_l x)) (k : g_W K u ls (g_l x :: st) (pc + 1) out) : g_W K u ls st pc out := by
  obtain ⟨p, l, e, s, m, args, below, meth, c, nL, d, u0, ad0, G⟩ := K
  obtain ⟨hx, hb, hml, hown, hts, hKn, hlk, hnm, hret, htr⟩ := hK
  intro ad H locs la hR hE hL hS hlo hla
  exact lv_lload_n hx hb hd hi (g_lv hla hl) (k ad H locs la hR hE hL hS.long hlo hla)
theorem r_lload {K : g_C} {cc : ByteArray} {own nm : String} {ret : Option FieldType} {u : g_St} {ls : List (Nat × g_V)} {st : List g_V} {pc : Nat} {out : g_Out} (hK : g_OK K cc own nm ret) {i : Nat} {x : Int64} (hd : decode cc pc = .ok (.lload i, 2)) (j : Nat) (hl : ls[j]? = some (i, g_l x)) (k : g_W K u ls (g_l x :: st) (pc + 2) out) : g_W K u ls st pc out := by
  obtain ⟨p, l, e, s, m, args, below, meth, c, nL, d, u0, ad0, G⟩ := K
  obtain ⟨hx, hb, hml, hown, hts, hKn, hlk, hnm, hret, htr⟩ := hK
  intro ad H locs la hR hE hL hS hlo hla
  exact lv_lload hx hb hd (g_lv hla hl) (k ad H locs la hR hE hL hS.long hlo hla)
theorem r_aload_n {K : g_C} {cc : ByteArray} {own nm : String} {ret : Option FieldType} {u : g_St} {ls : List (Nat × g_V)} {st : List g_V} {pc : Nat} {out : g_Out} (hK : g_OK K cc own nm ret) {f : Fin 4} {i t : Nat} {r : Option Nat} (hd : decode cc pc = .ok (.aload_n f, 1)) (hi : (f : Nat) = i) (j : Nat) (hl : ls[j]? = some (i, g_r t r)) (k : g_W K u ls (g_r t r :: st) (pc + 1) out) : g_W K u ls st pc out := by
  obtain ⟨p, l, e, s, m, args, below, meth, c, nL, d, u0, ad0, G⟩ := K
  obtain ⟨hx, hb, hml, hown, hts, hKn, hlk, hnm, hret, htr⟩ := hK
  intro ad H locs la hR hE hL hS hlo hla
  have k := k ad H locs la hR hE hL (hS.cons (hL _ (List.mem_of_getElem? hl))) hlo hla
  have hv := g_lv hla hl
  cases r with
  | none => exact lv_aload_nN hx hb hd hi hv k
  | some a => exact lv_aload_n hx hb hd hi hv k
theorem r_aload {K : g_C} {cc : ByteArray} {own nm : String} {ret : Option FieldType} {u : g_St} {ls : List (Nat × g_V)} {st : List g_V} {pc : Nat} {out : g_Out} (hK : g_OK K cc own nm ret) {i t : Nat} {r : Option Nat} (hd : decode cc pc = .ok (.aload i, 2)) (j : Nat) (hl : ls[j]? = some (i, g_r t r)) (k : g_W K u ls (g_r t r :: st) (pc + 2) out) : g_W K u ls st pc out := by
  obtain ⟨p, l, e, s, m, args, below, meth, c, nL, d, u0, ad0, G⟩ := K
  obtain ⟨hx, hb, hml, hown, hts, hKn, hlk, hnm, hret, htr⟩ := hK
  intro ad H locs la hR hE hL hS hlo hla
  have k := k ad H locs la hR hE hL (hS.cons (hL _ (List.mem_of_getElem? hl))) hlo hla
  have hv := g_lv hla hl
  cases r with
  | none => exact lv_aloadN hx hb hd hv k
  | some a => exact lv_aload hx hb hd hv k
def g_two (v : g_V) : Bool := match v with
  | .inr (.inl _) => true
  | _ => false
theorem g_two_cat (ad : Nat → Nat) (v : g_V) : ((g_v ad v).category == 2) = g_two v := by
  rcases v with x | x | ⟨t, _ | a⟩ <;> rfl
theorem g_fl1 (ad : Nat → Nat) (i : Nat) : ∀ ls : List (Nat × g_V), (ls.map fun q => (q.1, g_v ad q.2)).filter (fun q => !(q.1 == i) && !(q.1 + 1 == i && q.2.category == 2)) = (ls.filter (fun q => !(q.1 == i) && !(q.1 + 1 == i && g_two q.2))).map fun q => (q.1, g_v ad q.2) := by
  intro ls
  induction ls with
  | nil => rfl
  | cons q ls ih =>
    simp only [List.map_cons, List.filter_cons, g_two_cat, ih]
    split <;> rfl
theorem g_fl2 (ad : Nat → Nat) (i : Nat) : ∀ ls : List (Nat × g_V), (ls.map fun q => (q.1, g_v ad q.2)).filter (fun q => !(q.1 == i) && (!(q.1 == i + 1) && !(q.1 + 1 == i && q.2.category == 2))) = (ls.filter (fun q => !(q.1 == i) && (!(q.1 == i + 1) && !(q.1 + 1 == i && g_two q.2)))).map fun q => (q.1, g_v ad q.2) := by
  intro ls
  induction ls with
  | nil => rfl
  | cons q ls ih =>
    simp only [List.map_cons, List.filter_cons, g_two_cat, ih]
    split <;> rfl
theorem g_okL.put {u : g_St} {ls : List (Nat × g_V)} {f : Nat × g_V → Bool} {i : Nat} {v : g_V} (h : g_okL u ls) (hv : g_okV u v) : g_okL u ((i, v) :: ls.filter f) := fun q hq => by
  rcases List.mem_cons.mp hq with rfl | hq
  · exact hv
  · exact h q (List.mem_filter.mp hq).1
def g_nz {α : Type} (y : Int32) (F : Option α) : Option α := if y = 0 then none else F
def g_nL (K : g_C) : Nat := K.2.2.2.2.2.2.2.2.2.1
theorem r_istore_n {K : g_C} {cc : ByteArray} {own nm : String} {ret : Option FieldType} {u : g_St} {ls : List (Nat × g_V)} {st : List g_V} {pc : Nat} {out : g_Out} (hK : g_OK K cc own nm ret) {f : Fin 4} {i : Nat} {x : Int32} {ls1 : List (Nat × g_V)} (hd : decode cc pc = .ok (.istore_n f, 1)) (hi : (f : Nat) = i) (hn : i < g_nL K) (hl : (i, g_i x) :: ls.filter (fun q => !(q.1 == i) && !(q.1 + 1 == i && g_two q.2)) = ls1) (k : g_W K u ls1 st (pc + 1) out) : g_W K u ls (g_i x :: st) pc out := by
  obtain ⟨p, l, e, s, m, args, below, meth, c, nL, d, u0, ad0, G⟩ := K
  obtain ⟨hx, hb, hml, hown, hts, hKn, hlk, hnm, hret, htr⟩ := hK
  intro ad H locs la hR hE hL hS hlo hla
  subst hl
  refine lv_istore_n hx hb hd hi hla hn rfl (fun la1 hla1 => ?_)
  refine k ad H locs la1 hR hE (hL.put trivial) hS.tl hlo ?_
  rw [g_fl1] at hla1
  exact hla1
theorem r_istore {K : g_C} {cc : ByteArray} {own nm : String} {ret : Option FieldType} {u : g_St} {ls : List (Nat × g_V)} {st : List g_V} {pc : Nat} {out : g_Out} (hK : g_OK K cc own nm ret) {i : Nat} {x : Int32} {ls1 : List (Nat × g_V)} (hd : decode cc pc = .ok (.istore i, 2)) (hn : i < g_nL K) (hl : (i, g_i x) :: ls.filter (fun q => !(q.1 == i) && !(q.1 + 1 == i && g_two q.2)) = ls1) (k : g_W K u ls1 st (pc + 2) out) : g_W K u ls (g_i x :: st) pc out := by
  obtain ⟨p, l, e, s, m, args, below, meth, c, nL, d, u0, ad0, G⟩ := K
  obtain ⟨hx, hb, hml, hown, hts, hKn, hlk, hnm, hret, htr⟩ := hK
  intro ad H locs la hR hE hL hS hlo hla
  subst hl
  refine lv_istore hx hb hd hla hn rfl (fun la1 hla1 => ?_)
  refine k ad H locs la1 hR hE (hL.put trivial) hS.tl hlo ?_
  rw [g_fl1] at hla1
  exact hla1
theorem r_lstore_n {K : g_C} {cc : ByteArray} {own nm : String} {ret : Option FieldType} {u : g_St} {ls : List (Nat × g_V)} {st : List g_V} {pc : Nat} {out : g_Out} (hK : g_OK K cc own nm ret) {f : Fin 4} {i : Nat} {x : Int64} {ls1 : List (Nat × g_V)} (hd : decode cc pc = .ok (.lstore_n f, 1)) (hi : (f : Nat) = i) (hn : i + 1 < g_nL K) (hl : (i, g_l x) :: ls.filter (fun q => !(q.1 == i) && (!(q.1 == i + 1) && !(q.1 + 1 == i && g_two q.2))) = ls1) (k : g_W K u ls1 st (pc + 1) out) : g_W K u ls (g_l x :: st) pc out := by
  obtain ⟨p, l, e, s, m, args, below, meth, c, nL, d, u0, ad0, G⟩ := K
  obtain ⟨hx, hb, hml, hown, hts, hKn, hlk, hnm, hret, htr⟩ := hK
  intro ad H locs la hR hE hL hS hlo hla
  subst hl
  refine lv_lstore_n hx hb hd hi hla hn rfl (fun la1 hla1 => ?_)
  refine k ad H locs la1 hR hE (hL.put trivial) hS.tl hlo ?_
  rw [g_fl2] at hla1
  exact hla1
theorem r_lstore {K : g_C} {cc : ByteArray} {own nm : String} {ret : Option FieldType} {u : g_St} {ls : List (Nat × g_V)} {st : List g_V} {pc : Nat} {out : g_Out} (hK : g_OK K cc own nm ret) {i : Nat} {x : Int64} {ls1 : List (Nat × g_V)} (hd : decode cc pc = .ok (.lstore i, 2)) (hn : i + 1 < g_nL K) (hl : (i, g_l x) :: ls.filter (fun q => !(q.1 == i) && (!(q.1 == i + 1) && !(q.1 + 1 == i && g_two q.2))) = ls1) (k : g_W K u ls1 st (pc + 2) out) : g_W K u ls (g_l x :: st) pc out := by
  obtain ⟨p, l, e, s, m, args, below, meth, c, nL, d, u0, ad0, G⟩ := K
  obtain ⟨hx, hb, hml, hown, hts, hKn, hlk, hnm, hret, htr⟩ := hK
  intro ad H locs la hR hE hL hS hlo hla
  subst hl
  refine lv_lstore hx hb hd hla hn rfl (fun la1 hla1 => ?_)
  refine k ad H locs la1 hR hE (hL.put trivial) hS.tl hlo ?_
  rw [g_fl2] at hla1
  exact hla1
theorem r_astore_n {K : g_C} {cc : ByteArray} {own nm : String} {ret : Option FieldType} {u : g_St} {ls : List (Nat × g_V)} {st : List g_V} {pc : Nat} {out : g_Out} (hK : g_OK K cc own nm ret) {f : Fin 4} {i t : Nat} {r : Option Nat} {ls1 : List (Nat × g_V)} (hd : decode cc pc = .ok (.astore_n f, 1)) (hi : (f : Nat) = i) (hn : i < g_nL K) (hl : (i, g_r t r) :: ls.filter (fun q => !(q.1 == i) && !(q.1 + 1 == i && g_two q.2)) = ls1) (k : g_W K u ls1 st (pc + 1) out) : g_W K u ls (g_r t r :: st) pc out := by
  obtain ⟨p, l, e, s, m, args, below, meth, c, nL, d, u0, ad0, G⟩ := K
  obtain ⟨hx, hb, hml, hown, hts, hKn, hlk, hnm, hret, htr⟩ := hK
  intro ad H locs la hR hE hL hS hlo hla
  subst hl
  cases r with
  | none =>
    refine lv_astore_nN hx hb hd hi hla hn rfl (fun la1 hla1 => ?_)
    refine k ad H locs la1 hR hE (hL.put hS.hd) hS.tl hlo ?_
    rw [g_fl1] at hla1
    exact hla1
  | some a =>
    refine lv_astore_n hx hb hd hi hla hn rfl (fun la1 hla1 => ?_)
    refine k ad H locs la1 hR hE (hL.put hS.hd) hS.tl hlo ?_
    rw [g_fl1] at hla1
    exact hla1
theorem r_astore {K : g_C} {cc : ByteArray} {own nm : String} {ret : Option FieldType} {u : g_St} {ls : List (Nat × g_V)} {st : List g_V} {pc : Nat} {out : g_Out} (hK : g_OK K cc own nm ret) {i t : Nat} {r : Option Nat} {ls1 : List (Nat × g_V)} (hd : decode cc pc = .ok (.astore i, 2)) (hn : i < g_nL K) (hl : (i, g_r t r) :: ls.filter (fun q => !(q.1 == i) && !(q.1 + 1 == i && g_two q.2)) = ls1) (k : g_W K u ls1 st (pc + 2) out) : g_W K u ls (g_r t r :: st) pc out := by
  obtain ⟨p, l, e, s, m, args, below, meth, c, nL, d, u0, ad0, G⟩ := K
  obtain ⟨hx, hb, hml, hown, hts, hKn, hlk, hnm, hret, htr⟩ := hK
  intro ad H locs la hR hE hL hS hlo hla
  subst hl
  cases r with
  | none =>
    refine lv_astoreN hx hb hd hla hn rfl (fun la1 hla1 => ?_)
    refine k ad H locs la1 hR hE (hL.put hS.hd) hS.tl hlo ?_
    rw [g_fl1] at hla1
    exact hla1
  | some a =>
    refine lv_astore hx hb hd hla hn rfl (fun la1 hla1 => ?_)
    refine k ad H locs la1 hR hE (hL.put hS.hd) hS.tl hlo ?_
    rw [g_fl1] at hla1
    exact hla1
theorem r_iinc {K : g_C} {cc : ByteArray} {own nm : String} {ret : Option FieldType} {u : g_St} {ls : List (Nat × g_V)} {st : List g_V} {pc : Nat} {out : g_Out} (hK : g_OK K cc own nm ret) {i : Nat} {n : Int} {x v : Int32} {ls1 : List (Nat × g_V)} (hd : decode cc pc = .ok (.iinc i n, 3)) (j : Nat) (hj : ls[j]? = some (i, g_i x)) (hv : x + Int32.ofInt n = v) (hn : i < g_nL K) (hl : (i, g_i v) :: ls.filter (fun q => !(q.1 == i) && !(q.1 + 1 == i && g_two q.2)) = ls1) (k : g_W K u ls1 st (pc + 3) out) : g_W K u ls st pc out := by
  obtain ⟨p, l, e, s, m, args, below, meth, c, nL, d, u0, ad0, G⟩ := K
  obtain ⟨hx, hb, hml, hown, hts, hKn, hlk, hnm, hret, htr⟩ := hK
  intro ad H locs la hR hE hL hS hlo hla
  subst hl
  refine lv_iinc (k := j) hx hb hd hla (by rw [List.getElem?_map, hj]; rfl) hv hn rfl (fun la1 hla1 => ?_)
  refine k ad H locs la1 hR hE (hL.put trivial) hS hlo ?_
  rw [g_fl1] at hla1
  exact hla1
theorem r_iadd {K : g_C} {cc : ByteArray} {own nm : String} {ret : Option FieldType} {u : g_St} {ls : List (Nat × g_V)} {st : List g_V} {pc : Nat} {out : g_Out} (hK : g_OK K cc own nm ret) {x y : Int32} (hd : decode cc pc = .ok (.iadd, 1)) (k : g_W K u ls (g_i (x + y) :: st) (pc + 1) out) : g_W K u ls (g_i y :: g_i x :: st) pc out := by
  obtain ⟨p, l, e, s, m, args, below, meth, c, nL, d, u0, ad0, G⟩ := K
  obtain ⟨hx, hb, hml, hown, hts, hKn, hlk, hnm, hret, htr⟩ := hK
  intro ad H locs la hR hE hL hS hlo hla
  exact lv_iadd hx hb hd (k ad H locs la hR hE hL hS.tl.tl.int hlo hla)
theorem r_isub {K : g_C} {cc : ByteArray} {own nm : String} {ret : Option FieldType} {u : g_St} {ls : List (Nat × g_V)} {st : List g_V} {pc : Nat} {out : g_Out} (hK : g_OK K cc own nm ret) {x y : Int32} (hd : decode cc pc = .ok (.isub, 1)) (k : g_W K u ls (g_i (x - y) :: st) (pc + 1) out) : g_W K u ls (g_i y :: g_i x :: st) pc out := by
  obtain ⟨p, l, e, s, m, args, below, meth, c, nL, d, u0, ad0, G⟩ := K
  obtain ⟨hx, hb, hml, hown, hts, hKn, hlk, hnm, hret, htr⟩ := hK
  intro ad H locs la hR hE hL hS hlo hla
  exact lv_isub hx hb hd (k ad H locs la hR hE hL hS.tl.tl.int hlo hla)
theorem r_imul {K : g_C} {cc : ByteArray} {own nm : String} {ret : Option FieldType} {u : g_St} {ls : List (Nat × g_V)} {st : List g_V} {pc : Nat} {out : g_Out} (hK : g_OK K cc own nm ret) {x y : Int32} (hd : decode cc pc = .ok (.imul, 1)) (k : g_W K u ls (g_i (x * y) :: st) (pc + 1) out) : g_W K u ls (g_i y :: g_i x :: st) pc out := by
  obtain ⟨p, l, e, s, m, args, below, meth, c, nL, d, u0, ad0, G⟩ := K
  obtain ⟨hx, hb, hml, hown, hts, hKn, hlk, hnm, hret, htr⟩ := hK
  intro ad H locs la hR hE hL hS hlo hla
  exact lv_imul hx hb hd (k ad H locs la hR hE hL hS.tl.tl.int hlo hla)
theorem r_iand {K : g_C} {cc : ByteArray} {own nm : String} {ret : Option FieldType} {u : g_St} {ls : List (Nat × g_V)} {st : List g_V} {pc : Nat} {out : g_Out} (hK : g_OK K cc own nm ret) {x y : Int32} (hd : decode cc pc = .ok (.iand, 1)) (k : g_W K u ls (g_i (x &&& y) :: st) (pc + 1) out) : g_W K u ls (g_i y :: g_i x :: st) pc out := by
  obtain ⟨p, l, e, s, m, args, below, meth, c, nL, d, u0, ad0, G⟩ := K
  obtain ⟨hx, hb, hml, hown, hts, hKn, hlk, hnm, hret, htr⟩ := hK
  intro ad H locs la hR hE hL hS hlo hla
  exact lv_iand hx hb hd (k ad H locs la hR hE hL hS.tl.tl.int hlo hla)
theorem r_ior {K : g_C} {cc : ByteArray} {own nm : String} {ret : Option FieldType} {u : g_St} {ls : List (Nat × g_V)} {st : List g_V} {pc : Nat} {out : g_Out} (hK : g_OK K cc own nm ret) {x y : Int32} (hd : decode cc pc = .ok (.ior, 1)) (k : g_W K u ls (g_i (x ||| y) :: st) (pc + 1) out) : g_W K u ls (g_i y :: g_i x :: st) pc out := by
  obtain ⟨p, l, e, s, m, args, below, meth, c, nL, d, u0, ad0, G⟩ := K
  obtain ⟨hx, hb, hml, hown, hts, hKn, hlk, hnm, hret, htr⟩ := hK
  intro ad H locs la hR hE hL hS hlo hla
  exact lv_ior hx hb hd (k ad H locs la hR hE hL hS.tl.tl.int hlo hla)
theorem r_ixor {K : g_C} {cc : ByteArray} {own nm : String} {ret : Option FieldType} {u : g_St} {ls : List (Nat × g_V)} {st : List g_V} {pc : Nat} {out : g_Out} (hK : g_OK K cc own nm ret) {x y : Int32} (hd : decode cc pc = .ok (.ixor, 1)) (k : g_W K u ls (g_i (x ^^^ y) :: st) (pc + 1) out) : g_W K u ls (g_i y :: g_i x :: st) pc out := by
  obtain ⟨p, l, e, s, m, args, below, meth, c, nL, d, u0, ad0, G⟩ := K
  obtain ⟨hx, hb, hml, hown, hts, hKn, hlk, hnm, hret, htr⟩ := hK
  intro ad H locs la hR hE hL hS hlo hla
  exact lv_ixor hx hb hd (k ad H locs la hR hE hL hS.tl.tl.int hlo hla)
theorem r_ishl {K : g_C} {cc : ByteArray} {own nm : String} {ret : Option FieldType} {u : g_St} {ls : List (Nat × g_V)} {st : List g_V} {pc : Nat} {out : g_Out} (hK : g_OK K cc own nm ret) {x y : Int32} (hd : decode cc pc = .ok (.ishl, 1)) (k : g_W K u ls (g_i (x <<< (y &&& 31)) :: st) (pc + 1) out) : g_W K u ls (g_i y :: g_i x :: st) pc out := by
  obtain ⟨p, l, e, s, m, args, below, meth, c, nL, d, u0, ad0, G⟩ := K
  obtain ⟨hx, hb, hml, hown, hts, hKn, hlk, hnm, hret, htr⟩ := hK
  intro ad H locs la hR hE hL hS hlo hla
  exact lv_ishl hx hb hd (k ad H locs la hR hE hL hS.tl.tl.int hlo hla)
theorem r_ishr {K : g_C} {cc : ByteArray} {own nm : String} {ret : Option FieldType} {u : g_St} {ls : List (Nat × g_V)} {st : List g_V} {pc : Nat} {out : g_Out} (hK : g_OK K cc own nm ret) {x y : Int32} (hd : decode cc pc = .ok (.ishr, 1)) (k : g_W K u ls (g_i (x >>> (y &&& 31)) :: st) (pc + 1) out) : g_W K u ls (g_i y :: g_i x :: st) pc out := by
  obtain ⟨p, l, e, s, m, args, below, meth, c, nL, d, u0, ad0, G⟩ := K
  obtain ⟨hx, hb, hml, hown, hts, hKn, hlk, hnm, hret, htr⟩ := hK
  intro ad H locs la hR hE hL hS hlo hla
  exact lv_ishr hx hb hd (k ad H locs la hR hE hL hS.tl.tl.int hlo hla)
theorem r_iushr {K : g_C} {cc : ByteArray} {own nm : String} {ret : Option FieldType} {u : g_St} {ls : List (Nat × g_V)} {st : List g_V} {pc : Nat} {out : g_Out} (hK : g_OK K cc own nm ret) {x y : Int32} (hd : decode cc pc = .ok (.iushr, 1)) (k : g_W K u ls (g_i (x.toUInt32 >>> (y.toUInt32 &&& Int32.toUInt32 31)).toInt32 :: st) (pc + 1) out) : g_W K u ls (g_i y :: g_i x :: st) pc out := by
  obtain ⟨p, l, e, s, m, args, below, meth, c, nL, d, u0, ad0, G⟩ := K
  obtain ⟨hx, hb, hml, hown, hts, hKn, hlk, hnm, hret, htr⟩ := hK
  intro ad H locs la hR hE hL hS hlo hla
  exact lv_iushr hx hb hd rfl (k ad H locs la hR hE hL hS.tl.tl.int hlo hla)
theorem r_idiv {K : g_C} {cc : ByteArray} {own nm : String} {ret : Option FieldType} {u : g_St} {ls : List (Nat × g_V)} {st : List g_V} {pc : Nat} {out : g_Out} (hK : g_OK K cc own nm ret) {α : Type} {oo : α} {F : Option α} {x y : Int32} (hd : decode cc pc = .ok (.idiv, 1)) (h : g_nz y F = some oo) (k : F = some oo → g_W K u ls (g_i (x / y) :: st) (pc + 1) out) : g_W K u ls (g_i y :: g_i x :: st) pc out := by
  obtain ⟨p, l, e, s, m, args, below, meth, c, nL, d, u0, ad0, G⟩ := K
  obtain ⟨hx, hb, hml, hown, hts, hKn, hlk, hnm, hret, htr⟩ := hK
  intro ad H locs la hR hE hL hS hlo hla
  have hy : ¬ y = 0 := fun w => by rw [g_nz, if_pos w] at h; cases h
  rw [g_nz, if_neg hy] at h
  exact lv_idiv hx hb hd hy (k h ad H locs la hR hE hL hS.tl.tl.int hlo hla)
theorem r_irem {K : g_C} {cc : ByteArray} {own nm : String} {ret : Option FieldType} {u : g_St} {ls : List (Nat × g_V)} {st : List g_V} {pc : Nat} {out : g_Out} (hK : g_OK K cc own nm ret) {α : Type} {oo : α} {F : Option α} {x y : Int32} (hd : decode cc pc = .ok (.irem, 1)) (h : g_nz y F = some oo) (k : F = some oo → g_W K u ls (g_i (x - x / y * y) :: st) (pc + 1) out) : g_W K u ls (g_i y :: g_i x :: st) pc out := by
  obtain ⟨p, l, e, s, m, args, below, meth, c, nL, d, u0, ad0, G⟩ := K
  obtain ⟨hx, hb, hml, hown, hts, hKn, hlk, hnm, hret, htr⟩ := hK
  intro ad H locs la hR hE hL hS hlo hla
  have hy : ¬ y = 0 := fun w => by rw [g_nz, if_pos w] at h; cases h
  rw [g_nz, if_neg hy] at h
  exact lv_irem hx hb hd hy (k h ad H locs la hR hE hL hS.tl.tl.int hlo hla)
theorem r_ineg {K : g_C} {cc : ByteArray} {own nm : String} {ret : Option FieldType} {u : g_St} {ls : List (Nat × g_V)} {st : List g_V} {pc : Nat} {out : g_Out} (hK : g_OK K cc own nm ret) {x : Int32} (hd : decode cc pc = .ok (.ineg, 1)) (k : g_W K u ls (g_i (-x) :: st) (pc + 1) out) : g_W K u ls (g_i x :: st) pc out := by
  obtain ⟨p, l, e, s, m, args, below, meth, c, nL, d, u0, ad0, G⟩ := K
  obtain ⟨hx, hb, hml, hown, hts, hKn, hlk, hnm, hret, htr⟩ := hK
  intro ad H locs la hR hE hL hS hlo hla
  exact lv_ineg hx hb hd (k ad H locs la hR hE hL hS.tl.int hlo hla)
theorem r_ladd {K : g_C} {cc : ByteArray} {own nm : String} {ret : Option FieldType} {u : g_St} {ls : List (Nat × g_V)} {st : List g_V} {pc : Nat} {out : g_Out} (hK : g_OK K cc own nm ret) {x y : Int64} (hd : decode cc pc = .ok (.ladd, 1)) (k : g_W K u ls (g_l (x + y) :: st) (pc + 1) out) : g_W K u ls (g_l y :: g_l x :: st) pc out := by
  obtain ⟨p, l, e, s, m, args, below, meth, c, nL, d, u0, ad0, G⟩ := K
  obtain ⟨hx, hb, hml, hown, hts, hKn, hlk, hnm, hret, htr⟩ := hK
  intro ad H locs la hR hE hL hS hlo hla
  exact lv_ladd hx hb hd (k ad H locs la hR hE hL hS.tl.tl.long hlo hla)
theorem r_lsub {K : g_C} {cc : ByteArray} {own nm : String} {ret : Option FieldType} {u : g_St} {ls : List (Nat × g_V)} {st : List g_V} {pc : Nat} {out : g_Out} (hK : g_OK K cc own nm ret) {x y : Int64} (hd : decode cc pc = .ok (.lsub, 1)) (k : g_W K u ls (g_l (x - y) :: st) (pc + 1) out) : g_W K u ls (g_l y :: g_l x :: st) pc out := by
  obtain ⟨p, l, e, s, m, args, below, meth, c, nL, d, u0, ad0, G⟩ := K
  obtain ⟨hx, hb, hml, hown, hts, hKn, hlk, hnm, hret, htr⟩ := hK
  intro ad H locs la hR hE hL hS hlo hla
  exact lv_lsub hx hb hd (k ad H locs la hR hE hL hS.tl.tl.long hlo hla)
theorem r_lmul {K : g_C} {cc : ByteArray} {own nm : String} {ret : Option FieldType} {u : g_St} {ls : List (Nat × g_V)} {st : List g_V} {pc : Nat} {out : g_Out} (hK : g_OK K cc own nm ret) {x y : Int64} (hd : decode cc pc = .ok (.lmul, 1)) (k : g_W K u ls (g_l (x * y) :: st) (pc + 1) out) : g_W K u ls (g_l y :: g_l x :: st) pc out := by
  obtain ⟨p, l, e, s, m, args, below, meth, c, nL, d, u0, ad0, G⟩ := K
  obtain ⟨hx, hb, hml, hown, hts, hKn, hlk, hnm, hret, htr⟩ := hK
  intro ad H locs la hR hE hL hS hlo hla
  exact lv_lmul hx hb hd (k ad H locs la hR hE hL hS.tl.tl.long hlo hla)
theorem r_land {K : g_C} {cc : ByteArray} {own nm : String} {ret : Option FieldType} {u : g_St} {ls : List (Nat × g_V)} {st : List g_V} {pc : Nat} {out : g_Out} (hK : g_OK K cc own nm ret) {x y : Int64} (hd : decode cc pc = .ok (.land, 1)) (k : g_W K u ls (g_l (x &&& y) :: st) (pc + 1) out) : g_W K u ls (g_l y :: g_l x :: st) pc out := by
  obtain ⟨p, l, e, s, m, args, below, meth, c, nL, d, u0, ad0, G⟩ := K
  obtain ⟨hx, hb, hml, hown, hts, hKn, hlk, hnm, hret, htr⟩ := hK
  intro ad H locs la hR hE hL hS hlo hla
  exact lv_land hx hb hd (k ad H locs la hR hE hL hS.tl.tl.long hlo hla)
theorem r_lor {K : g_C} {cc : ByteArray} {own nm : String} {ret : Option FieldType} {u : g_St} {ls : List (Nat × g_V)} {st : List g_V} {pc : Nat} {out : g_Out} (hK : g_OK K cc own nm ret) {x y : Int64} (hd : decode cc pc = .ok (.lor, 1)) (k : g_W K u ls (g_l (x ||| y) :: st) (pc + 1) out) : g_W K u ls (g_l y :: g_l x :: st) pc out := by
  obtain ⟨p, l, e, s, m, args, below, meth, c, nL, d, u0, ad0, G⟩ := K
  obtain ⟨hx, hb, hml, hown, hts, hKn, hlk, hnm, hret, htr⟩ := hK
  intro ad H locs la hR hE hL hS hlo hla
  exact lv_lor hx hb hd (k ad H locs la hR hE hL hS.tl.tl.long hlo hla)
theorem r_lxor {K : g_C} {cc : ByteArray} {own nm : String} {ret : Option FieldType} {u : g_St} {ls : List (Nat × g_V)} {st : List g_V} {pc : Nat} {out : g_Out} (hK : g_OK K cc own nm ret) {x y : Int64} (hd : decode cc pc = .ok (.lxor, 1)) (k : g_W K u ls (g_l (x ^^^ y) :: st) (pc + 1) out) : g_W K u ls (g_l y :: g_l x :: st) pc out := by
  obtain ⟨p, l, e, s, m, args, below, meth, c, nL, d, u0, ad0, G⟩ := K
  obtain ⟨hx, hb, hml, hown, hts, hKn, hlk, hnm, hret, htr⟩ := hK
  intro ad H locs la hR hE hL hS hlo hla
  exact lv_lxor hx hb hd (k ad H locs la hR hE hL hS.tl.tl.long hlo hla)
theorem r_lshl {K : g_C} {cc : ByteArray} {own nm : String} {ret : Option FieldType} {u : g_St} {ls : List (Nat × g_V)} {st : List g_V} {pc : Nat} {out : g_Out} (hK : g_OK K cc own nm ret) {x : Int64} {y : Int32} (hd : decode cc pc = .ok (.lshl, 1)) (k : g_W K u ls (g_l (x <<< (y.toInt64 &&& 63)) :: st) (pc + 1) out) : g_W K u ls (g_i y :: g_l x :: st) pc out := by
  obtain ⟨p, l, e, s, m, args, below, meth, c, nL, d, u0, ad0, G⟩ := K
  obtain ⟨hx, hb, hml, hown, hts, hKn, hlk, hnm, hret, htr⟩ := hK
  intro ad H locs la hR hE hL hS hlo hla
  exact lv_lshl hx hb hd rfl (k ad H locs la hR hE hL hS.tl.tl.long hlo hla)
theorem r_lshr {K : g_C} {cc : ByteArray} {own nm : String} {ret : Option FieldType} {u : g_St} {ls : List (Nat × g_V)} {st : List g_V} {pc : Nat} {out : g_Out} (hK : g_OK K cc own nm ret) {x : Int64} {y : Int32} (hd : decode cc pc = .ok (.lshr, 1)) (k : g_W K u ls (g_l (x >>> (y.toInt64 &&& 63)) :: st) (pc + 1) out) : g_W K u ls (g_i y :: g_l x :: st) pc out := by
  obtain ⟨p, l, e, s, m, args, below, meth, c, nL, d, u0, ad0, G⟩ := K
  obtain ⟨hx, hb, hml, hown, hts, hKn, hlk, hnm, hret, htr⟩ := hK
  intro ad H locs la hR hE hL hS hlo hla
  exact lv_lshr hx hb hd rfl (k ad H locs la hR hE hL hS.tl.tl.long hlo hla)
theorem r_lushr {K : g_C} {cc : ByteArray} {own nm : String} {ret : Option FieldType} {u : g_St} {ls : List (Nat × g_V)} {st : List g_V} {pc : Nat} {out : g_Out} (hK : g_OK K cc own nm ret) {x : Int64} {y : Int32} (hd : decode cc pc = .ok (.lushr, 1)) (k : g_W K u ls (g_l ((x.toUInt64 >>> (y.toInt64.toUInt64 &&& Int64.toUInt64 63)).toInt64) :: st) (pc + 1) out) : g_W K u ls (g_i y :: g_l x :: st) pc out := by
  obtain ⟨p, l, e, s, m, args, below, meth, c, nL, d, u0, ad0, G⟩ := K
  obtain ⟨hx, hb, hml, hown, hts, hKn, hlk, hnm, hret, htr⟩ := hK
  intro ad H locs la hR hE hL hS hlo hla
  exact lv_lushr hx hb hd rfl (k ad H locs la hR hE hL hS.tl.tl.long hlo hla)
theorem r_i2l {K : g_C} {cc : ByteArray} {own nm : String} {ret : Option FieldType} {u : g_St} {ls : List (Nat × g_V)} {st : List g_V} {pc : Nat} {out : g_Out} (hK : g_OK K cc own nm ret) {x : Int32} (hd : decode cc pc = .ok (.i2l, 1)) (k : g_W K u ls (g_l x.toInt64 :: st) (pc + 1) out) : g_W K u ls (g_i x :: st) pc out := by
  obtain ⟨p, l, e, s, m, args, below, meth, c, nL, d, u0, ad0, G⟩ := K
  obtain ⟨hx, hb, hml, hown, hts, hKn, hlk, hnm, hret, htr⟩ := hK
  intro ad H locs la hR hE hL hS hlo hla
  exact lv_i2l hx hb hd rfl (k ad H locs la hR hE hL hS.tl.long hlo hla)
theorem r_l2i {K : g_C} {cc : ByteArray} {own nm : String} {ret : Option FieldType} {u : g_St} {ls : List (Nat × g_V)} {st : List g_V} {pc : Nat} {out : g_Out} (hK : g_OK K cc own nm ret) {x : Int64} (hd : decode cc pc = .ok (.l2i, 1)) (k : g_W K u ls (g_i x.toInt32 :: st) (pc + 1) out) : g_W K u ls (g_l x :: st) pc out := by
  obtain ⟨p, l, e, s, m, args, below, meth, c, nL, d, u0, ad0, G⟩ := K
  obtain ⟨hx, hb, hml, hown, hts, hKn, hlk, hnm, hret, htr⟩ := hK
  intro ad H locs la hR hE hL hS hlo hla
  exact lv_l2i hx hb hd rfl (k ad H locs la hR hE hL hS.tl.int hlo hla)
theorem r_i2c {K : g_C} {cc : ByteArray} {own nm : String} {ret : Option FieldType} {u : g_St} {ls : List (Nat × g_V)} {st : List g_V} {pc : Nat} {out : g_Out} (hK : g_OK K cc own nm ret) {x : Int32} (hd : decode cc pc = .ok (.i2c, 1)) (k : g_W K u ls (g_i (x.toUInt32 % 65536).toInt32 :: st) (pc + 1) out) : g_W K u ls (g_i x :: st) pc out := by
  obtain ⟨p, l, e, s, m, args, below, meth, c, nL, d, u0, ad0, G⟩ := K
  obtain ⟨hx, hb, hml, hown, hts, hKn, hlk, hnm, hret, htr⟩ := hK
  intro ad H locs la hR hE hL hS hlo hla
  exact lv_i2c hx hb hd rfl (k ad H locs la hR hE hL hS.tl.int hlo hla)
theorem r_i2b {K : g_C} {cc : ByteArray} {own nm : String} {ret : Option FieldType} {u : g_St} {ls : List (Nat × g_V)} {st : List g_V} {pc : Nat} {out : g_Out} (hK : g_OK K cc own nm ret) {x : Int32} (hd : decode cc pc = .ok (.i2b, 1)) (k : g_W K u ls (g_i x.toInt8.toInt32 :: st) (pc + 1) out) : g_W K u ls (g_i x :: st) pc out := by
  obtain ⟨p, l, e, s, m, args, below, meth, c, nL, d, u0, ad0, G⟩ := K
  obtain ⟨hx, hb, hml, hown, hts, hKn, hlk, hnm, hret, htr⟩ := hK
  intro ad H locs la hR hE hL hS hlo hla
  exact lv_i2b hx hb hd rfl (k ad H locs la hR hE hL hS.tl.int hlo hla)
theorem g_cat1 {ad : Nat → Nat} {v : g_V} (h : g_two v = false) : (g_v ad v).category = 1 := by
  rcases v with x | x | ⟨t, _ | a⟩
  · rfl
  · cases h
  · rfl
  · rfl
theorem r_dup {K : g_C} {cc : ByteArray} {own nm : String} {ret : Option FieldType} {u : g_St} {ls : List (Nat × g_V)} {st : List g_V} {pc : Nat} {out : g_Out} (hK : g_OK K cc own nm ret) {v : g_V} (hd : decode cc pc = .ok (.dup, 1)) (h1 : g_two v = false) (k : g_W K u ls (v :: v :: st) (pc + 1) out) : g_W K u ls (v :: st) pc out := by
  obtain ⟨p, l, e, s, m, args, below, meth, c, nL, d, u0, ad0, G⟩ := K
  obtain ⟨hx, hb, hml, hown, hts, hKn, hlk, hnm, hret, htr⟩ := hK
  intro ad H locs la hR hE hL hS hlo hla
  exact lv_dup hx hb hd (g_cat1 h1) (k ad H locs la hR hE hL (hS.cons hS.hd) hlo hla)
theorem r_pop {K : g_C} {cc : ByteArray} {own nm : String} {ret : Option FieldType} {u : g_St} {ls : List (Nat × g_V)} {st : List g_V} {pc : Nat} {out : g_Out} (hK : g_OK K cc own nm ret) {v : g_V} (hd : decode cc pc = .ok (.pop, 1)) (h1 : g_two v = false) (k : g_W K u ls st (pc + 1) out) : g_W K u ls (v :: st) pc out := by
  obtain ⟨p, l, e, s, m, args, below, meth, c, nL, d, u0, ad0, G⟩ := K
  obtain ⟨hx, hb, hml, hown, hts, hKn, hlk, hnm, hret, htr⟩ := hK
  intro ad H locs la hR hE hL hS hlo hla
  exact lv_pop hx hb hd (g_cat1 h1) (k ad H locs la hR hE hL hS.tl hlo hla)
theorem r_dup_x1 {K : g_C} {cc : ByteArray} {own nm : String} {ret : Option FieldType} {u : g_St} {ls : List (Nat × g_V)} {st : List g_V} {pc : Nat} {out : g_Out} (hK : g_OK K cc own nm ret) {v w : g_V} (hd : decode cc pc = .ok (.dup_x1, 1)) (h1 : g_two v = false) (h2 : g_two w = false) (k : g_W K u ls (v :: w :: v :: st) (pc + 1) out) : g_W K u ls (v :: w :: st) pc out := by
  obtain ⟨p, l, e, s, m, args, below, meth, c, nL, d, u0, ad0, G⟩ := K
  obtain ⟨hx, hb, hml, hown, hts, hKn, hlk, hnm, hret, htr⟩ := hK
  intro ad H locs la hR hE hL hS hlo hla
  exact lv_dup_x1 hx hb hd (g_cat1 h1) (g_cat1 h2) (k ad H locs la hR hE hL (((hS.tl.tl.cons hS.hd).cons hS.tl.hd).cons hS.hd) hlo hla)
theorem r_dup2_11 {K : g_C} {cc : ByteArray} {own nm : String} {ret : Option FieldType} {u : g_St} {ls : List (Nat × g_V)} {st : List g_V} {pc : Nat} {out : g_Out} (hK : g_OK K cc own nm ret) {v w : g_V} (hd : decode cc pc = .ok (.dup2, 1)) (h1 : g_two v = false) (h2 : g_two w = false) (k : g_W K u ls (v :: w :: v :: w :: st) (pc + 1) out) : g_W K u ls (v :: w :: st) pc out := by
  obtain ⟨p, l, e, s, m, args, below, meth, c, nL, d, u0, ad0, G⟩ := K
  obtain ⟨hx, hb, hml, hown, hts, hKn, hlk, hnm, hret, htr⟩ := hK
  intro ad H locs la hR hE hL hS hlo hla
  exact lv_dup2_11 hx hb hd (g_cat1 h1) (g_cat1 h2) (k ad H locs la hR hE hL ((hS.cons hS.tl.hd).cons hS.hd) hlo hla)
theorem r_ifeq {K : g_C} {cc : ByteArray} {own nm : String} {ret : Option FieldType} {u : g_St} {ls : List (Nat × g_V)} {st : List g_V} {pc : Nat} {out : g_Out} (hK : g_OK K cc own nm ret) {α : Type} {o : α} {A B : Option α} {x : Int32} {off : Int} {tgt : Nat} (hd : decode cc pc = .ok (.ifCond .eq off, 3)) (ht : (pc : Int) + off = (tgt : Int)) (h : (if x = 0 then A else B) = some o) (kt : A = some o → g_W K u ls st tgt out) (kf : B = some o → g_W K u ls st (pc + 3) out) : g_W K u ls (g_i x :: st) pc out := by
  obtain ⟨p, l, e, s, m, args, below, meth, c, nL, d, u0, ad0, G⟩ := K
  obtain ⟨hx, hb, hml, hown, hts, hKn, hlk, hnm, hret, htr⟩ := hK
  intro ad H locs la hR hE hL hS hlo hla
  exact lv_if_eq hx hb hd ht (fun q => kt (by rw [if_pos q] at h; exact h) ad H locs la hR hE hL hS.tl hlo hla) (fun q => kf (by rw [if_neg q] at h; exact h) ad H locs la hR hE hL hS.tl hlo hla)
theorem r_ifne {K : g_C} {cc : ByteArray} {own nm : String} {ret : Option FieldType} {u : g_St} {ls : List (Nat × g_V)} {st : List g_V} {pc : Nat} {out : g_Out} (hK : g_OK K cc own nm ret) {α : Type} {o : α} {A B : Option α} {x : Int32} {off : Int} {tgt : Nat} (hd : decode cc pc = .ok (.ifCond .ne off, 3)) (ht : (pc : Int) + off = (tgt : Int)) (h : (if x = 0 then A else B) = some o) (kt : B = some o → g_W K u ls st tgt out) (kf : A = some o → g_W K u ls st (pc + 3) out) : g_W K u ls (g_i x :: st) pc out := by
  obtain ⟨p, l, e, s, m, args, below, meth, c, nL, d, u0, ad0, G⟩ := K
  obtain ⟨hx, hb, hml, hown, hts, hKn, hlk, hnm, hret, htr⟩ := hK
  intro ad H locs la hR hE hL hS hlo hla
  exact lv_if_ne hx hb hd ht (fun q => kt (by rw [if_neg q] at h; exact h) ad H locs la hR hE hL hS.tl hlo hla) (fun q => kf (by rw [if_pos q] at h; exact h) ad H locs la hR hE hL hS.tl hlo hla)
theorem r_iflt {K : g_C} {cc : ByteArray} {own nm : String} {ret : Option FieldType} {u : g_St} {ls : List (Nat × g_V)} {st : List g_V} {pc : Nat} {out : g_Out} (hK : g_OK K cc own nm ret) {α : Type} {o : α} {A B : Option α} {x : Int32} {off : Int} {tgt : Nat} (hd : decode cc pc = .ok (.ifCond .lt off, 3)) (ht : (pc : Int) + off = (tgt : Int)) (h : (if x < 0 then A else B) = some o) (kt : A = some o → g_W K u ls st tgt out) (kf : B = some o → g_W K u ls st (pc + 3) out) : g_W K u ls (g_i x :: st) pc out := by
  obtain ⟨p, l, e, s, m, args, below, meth, c, nL, d, u0, ad0, G⟩ := K
  obtain ⟨hx, hb, hml, hown, hts, hKn, hlk, hnm, hret, htr⟩ := hK
  intro ad H locs la hR hE hL hS hlo hla
  exact lv_if_lt hx hb hd ht (fun q => kt (by rw [if_pos q] at h; exact h) ad H locs la hR hE hL hS.tl hlo hla) (fun q => kf (by rw [if_neg q] at h; exact h) ad H locs la hR hE hL hS.tl hlo hla)
theorem r_ifge {K : g_C} {cc : ByteArray} {own nm : String} {ret : Option FieldType} {u : g_St} {ls : List (Nat × g_V)} {st : List g_V} {pc : Nat} {out : g_Out} (hK : g_OK K cc own nm ret) {α : Type} {o : α} {A B : Option α} {x : Int32} {off : Int} {tgt : Nat} (hd : decode cc pc = .ok (.ifCond .ge off, 3)) (ht : (pc : Int) + off = (tgt : Int)) (h : (if 0 ≤ x then A else B) = some o) (kt : A = some o → g_W K u ls st tgt out) (kf : B = some o → g_W K u ls st (pc + 3) out) : g_W K u ls (g_i x :: st) pc out := by
  obtain ⟨p, l, e, s, m, args, below, meth, c, nL, d, u0, ad0, G⟩ := K
  obtain ⟨hx, hb, hml, hown, hts, hKn, hlk, hnm, hret, htr⟩ := hK
  intro ad H locs la hR hE hL hS hlo hla
  exact lv_if_ge hx hb hd ht (fun q => kt (by rw [if_pos q] at h; exact h) ad H locs la hR hE hL hS.tl hlo hla) (fun q => kf (by rw [if_neg q] at h; exact h) ad H locs la hR hE hL hS.tl hlo hla)
theorem r_ifgt {K : g_C} {cc : ByteArray} {own nm : String} {ret : Option FieldType} {u : g_St} {ls : List (Nat × g_V)} {st : List g_V} {pc : Nat} {out : g_Out} (hK : g_OK K cc own nm ret) {α : Type} {o : α} {A B : Option α} {x : Int32} {off : Int} {tgt : Nat} (hd : decode cc pc = .ok (.ifCond .gt off, 3)) (ht : (pc : Int) + off = (tgt : Int)) (h : (if 0 < x then A else B) = some o) (kt : A = some o → g_W K u ls st tgt out) (kf : B = some o → g_W K u ls st (pc + 3) out) : g_W K u ls (g_i x :: st) pc out := by
  obtain ⟨p, l, e, s, m, args, below, meth, c, nL, d, u0, ad0, G⟩ := K
  obtain ⟨hx, hb, hml, hown, hts, hKn, hlk, hnm, hret, htr⟩ := hK
  intro ad H locs la hR hE hL hS hlo hla
  exact lv_if_gt hx hb hd ht (fun q => kt (by rw [if_pos q] at h; exact h) ad H locs la hR hE hL hS.tl hlo hla) (fun q => kf (by rw [if_neg q] at h; exact h) ad H locs la hR hE hL hS.tl hlo hla)
theorem r_ifle {K : g_C} {cc : ByteArray} {own nm : String} {ret : Option FieldType} {u : g_St} {ls : List (Nat × g_V)} {st : List g_V} {pc : Nat} {out : g_Out} (hK : g_OK K cc own nm ret) {α : Type} {o : α} {A B : Option α} {x : Int32} {off : Int} {tgt : Nat} (hd : decode cc pc = .ok (.ifCond .le off, 3)) (ht : (pc : Int) + off = (tgt : Int)) (h : (if x ≤ 0 then A else B) = some o) (kt : A = some o → g_W K u ls st tgt out) (kf : B = some o → g_W K u ls st (pc + 3) out) : g_W K u ls (g_i x :: st) pc out := by
  obtain ⟨p, l, e, s, m, args, below, meth, c, nL, d, u0, ad0, G⟩ := K
  obtain ⟨hx, hb, hml, hown, hts, hKn, hlk, hnm, hret, htr⟩ := hK
  intro ad H locs la hR hE hL hS hlo hla
  exact lv_if_le hx hb hd ht (fun q => kt (by rw [if_pos q] at h; exact h) ad H locs la hR hE hL hS.tl hlo hla) (fun q => kf (by rw [if_neg q] at h; exact h) ad H locs la hR hE hL hS.tl hlo hla)
theorem r_if_icmpeq {K : g_C} {cc : ByteArray} {own nm : String} {ret : Option FieldType} {u : g_St} {ls : List (Nat × g_V)} {st : List g_V} {pc : Nat} {out : g_Out} (hK : g_OK K cc own nm ret) {α : Type} {o : α} {A B : Option α} {x y : Int32} {off : Int} {tgt : Nat} (hd : decode cc pc = .ok (.if_icmp .eq off, 3)) (ht : (pc : Int) + off = (tgt : Int)) (h : (if x = y then A else B) = some o) (kt : A = some o → g_W K u ls st tgt out) (kf : B = some o → g_W K u ls st (pc + 3) out) : g_W K u ls (g_i y :: g_i x :: st) pc out := by
  obtain ⟨p, l, e, s, m, args, below, meth, c, nL, d, u0, ad0, G⟩ := K
  obtain ⟨hx, hb, hml, hown, hts, hKn, hlk, hnm, hret, htr⟩ := hK
  intro ad H locs la hR hE hL hS hlo hla
  exact lv_icmp_eq hx hb hd ht (fun q => kt (by rw [if_pos q] at h; exact h) ad H locs la hR hE hL hS.tl.tl hlo hla) (fun q => kf (by rw [if_neg q] at h; exact h) ad H locs la hR hE hL hS.tl.tl hlo hla)
theorem r_if_icmpne {K : g_C} {cc : ByteArray} {own nm : String} {ret : Option FieldType} {u : g_St} {ls : List (Nat × g_V)} {st : List g_V} {pc : Nat} {out : g_Out} (hK : g_OK K cc own nm ret) {α : Type} {o : α} {A B : Option α} {x y : Int32} {off : Int} {tgt : Nat} (hd : decode cc pc = .ok (.if_icmp .ne off, 3)) (ht : (pc : Int) + off = (tgt : Int)) (h : (if x = y then A else B) = some o) (kt : B = some o → g_W K u ls st tgt out) (kf : A = some o → g_W K u ls st (pc + 3) out) : g_W K u ls (g_i y :: g_i x :: st) pc out := by
  obtain ⟨p, l, e, s, m, args, below, meth, c, nL, d, u0, ad0, G⟩ := K
  obtain ⟨hx, hb, hml, hown, hts, hKn, hlk, hnm, hret, htr⟩ := hK
  intro ad H locs la hR hE hL hS hlo hla
  exact lv_icmp_ne hx hb hd ht (fun q => kt (by rw [if_neg q] at h; exact h) ad H locs la hR hE hL hS.tl.tl hlo hla) (fun q => kf (by rw [if_pos q] at h; exact h) ad H locs la hR hE hL hS.tl.tl hlo hla)
theorem r_if_icmplt {K : g_C} {cc : ByteArray} {own nm : String} {ret : Option FieldType} {u : g_St} {ls : List (Nat × g_V)} {st : List g_V} {pc : Nat} {out : g_Out} (hK : g_OK K cc own nm ret) {α : Type} {o : α} {A B : Option α} {x y : Int32} {off : Int} {tgt : Nat} (hd : decode cc pc = .ok (.if_icmp .lt off, 3)) (ht : (pc : Int) + off = (tgt : Int)) (h : (if x < y then A else B) = some o) (kt : A = some o → g_W K u ls st tgt out) (kf : B = some o → g_W K u ls st (pc + 3) out) : g_W K u ls (g_i y :: g_i x :: st) pc out := by
  obtain ⟨p, l, e, s, m, args, below, meth, c, nL, d, u0, ad0, G⟩ := K
  obtain ⟨hx, hb, hml, hown, hts, hKn, hlk, hnm, hret, htr⟩ := hK
  intro ad H locs la hR hE hL hS hlo hla
  exact lv_icmp_lt hx hb hd ht (fun q => kt (by rw [if_pos q] at h; exact h) ad H locs la hR hE hL hS.tl.tl hlo hla) (fun q => kf (by rw [if_neg q] at h; exact h) ad H locs la hR hE hL hS.tl.tl hlo hla)
theorem r_if_icmpge {K : g_C} {cc : ByteArray} {own nm : String} {ret : Option FieldType} {u : g_St} {ls : List (Nat × g_V)} {st : List g_V} {pc : Nat} {out : g_Out} (hK : g_OK K cc own nm ret) {α : Type} {o : α} {A B : Option α} {x y : Int32} {off : Int} {tgt : Nat} (hd : decode cc pc = .ok (.if_icmp .ge off, 3)) (ht : (pc : Int) + off = (tgt : Int)) (h : (if y ≤ x then A else B) = some o) (kt : A = some o → g_W K u ls st tgt out) (kf : B = some o → g_W K u ls st (pc + 3) out) : g_W K u ls (g_i y :: g_i x :: st) pc out := by
  obtain ⟨p, l, e, s, m, args, below, meth, c, nL, d, u0, ad0, G⟩ := K
  obtain ⟨hx, hb, hml, hown, hts, hKn, hlk, hnm, hret, htr⟩ := hK
  intro ad H locs la hR hE hL hS hlo hla
  exact lv_icmp_ge hx hb hd ht (fun q => kt (by rw [if_pos q] at h; exact h) ad H locs la hR hE hL hS.tl.tl hlo hla) (fun q => kf (by rw [if_neg q] at h; exact h) ad H locs la hR hE hL hS.tl.tl hlo hla)
theorem r_if_icmpgt {K : g_C} {cc : ByteArray} {own nm : String} {ret : Option FieldType} {u : g_St} {ls : List (Nat × g_V)} {st : List g_V} {pc : Nat} {out : g_Out} (hK : g_OK K cc own nm ret) {α : Type} {o : α} {A B : Option α} {x y : Int32} {off : Int} {tgt : Nat} (hd : decode cc pc = .ok (.if_icmp .gt off, 3)) (ht : (pc : Int) + off = (tgt : Int)) (h : (if y < x then A else B) = some o) (kt : A = some o → g_W K u ls st tgt out) (kf : B = some o → g_W K u ls st (pc + 3) out) : g_W K u ls (g_i y :: g_i x :: st) pc out := by
  obtain ⟨p, l, e, s, m, args, below, meth, c, nL, d, u0, ad0, G⟩ := K
  obtain ⟨hx, hb, hml, hown, hts, hKn, hlk, hnm, hret, htr⟩ := hK
  intro ad H locs la hR hE hL hS hlo hla
  exact lv_icmp_gt hx hb hd ht (fun q => kt (by rw [if_pos q] at h; exact h) ad H locs la hR hE hL hS.tl.tl hlo hla) (fun q => kf (by rw [if_neg q] at h; exact h) ad H locs la hR hE hL hS.tl.tl hlo hla)
theorem r_if_icmple {K : g_C} {cc : ByteArray} {own nm : String} {ret : Option FieldType} {u : g_St} {ls : List (Nat × g_V)} {st : List g_V} {pc : Nat} {out : g_Out} (hK : g_OK K cc own nm ret) {α : Type} {o : α} {A B : Option α} {x y : Int32} {off : Int} {tgt : Nat} (hd : decode cc pc = .ok (.if_icmp .le off, 3)) (ht : (pc : Int) + off = (tgt : Int)) (h : (if x ≤ y then A else B) = some o) (kt : A = some o → g_W K u ls st tgt out) (kf : B = some o → g_W K u ls st (pc + 3) out) : g_W K u ls (g_i y :: g_i x :: st) pc out := by
  obtain ⟨p, l, e, s, m, args, below, meth, c, nL, d, u0, ad0, G⟩ := K
  obtain ⟨hx, hb, hml, hown, hts, hKn, hlk, hnm, hret, htr⟩ := hK
  intro ad H locs la hR hE hL hS hlo hla
  exact lv_icmp_le hx hb hd ht (fun q => kt (by rw [if_pos q] at h; exact h) ad H locs la hR hE hL hS.tl.tl hlo hla) (fun q => kf (by rw [if_neg q] at h; exact h) ad H locs la hR hE hL hS.tl.tl hlo hla)
theorem r_lifeq {K : g_C} {cc : ByteArray} {own nm : String} {ret : Option FieldType} {u : g_St} {ls : List (Nat × g_V)} {st : List g_V} {pc : Nat} {out : g_Out} (hK : g_OK K cc own nm ret) {α : Type} {o : α} {A B : Option α} {x y : Int64} {off : Int} {tgt : Nat} (hd : decode cc pc = .ok (.lcmp, 1)) (hd1 : decode cc (pc + 1) = .ok (.ifCond .eq off, 3)) (ht : ((pc + 1 : Nat) : Int) + off = (tgt : Int)) (h : (if x = y then A else B) = some o) (kt : A = some o → g_W K u ls st tgt out) (kf : B = some o → g_W K u ls st (pc + 4) out) : g_W K u ls (g_l y :: g_l x :: st) pc out := by
  obtain ⟨p, l, e, s, m, args, below, meth, c, nL, d, u0, ad0, G⟩ := K
  obtain ⟨hx, hb, hml, hown, hts, hKn, hlk, hnm, hret, htr⟩ := hK
  intro ad H locs la hR hE hL hS hlo hla
  exact W.lcmp hx hb hd (lv_if_eq hx hb hd1 ht (fun q => kt (by rw [if_pos ((lg_cmp_eq x y).mp q)] at h; exact h) ad H locs la hR hE hL hS.tl.tl hlo hla) (fun q => kf (by rw [if_neg (fun z => q ((lg_cmp_eq x y).mpr z))] at h; exact h) ad H locs la hR hE hL hS.tl.tl hlo hla))
theorem r_lifne {K : g_C} {cc : ByteArray} {own nm : String} {ret : Option FieldType} {u : g_St} {ls : List (Nat × g_V)} {st : List g_V} {pc : Nat} {out : g_Out} (hK : g_OK K cc own nm ret) {α : Type} {o : α} {A B : Option α} {x y : Int64} {off : Int} {tgt : Nat} (hd : decode cc pc = .ok (.lcmp, 1)) (hd1 : decode cc (pc + 1) = .ok (.ifCond .ne off, 3)) (ht : ((pc + 1 : Nat) : Int) + off = (tgt : Int)) (h : (if x = y then A else B) = some o) (kt : B = some o → g_W K u ls st tgt out) (kf : A = some o → g_W K u ls st (pc + 4) out) : g_W K u ls (g_l y :: g_l x :: st) pc out := by
  obtain ⟨p, l, e, s, m, args, below, meth, c, nL, d, u0, ad0, G⟩ := K
  obtain ⟨hx, hb, hml, hown, hts, hKn, hlk, hnm, hret, htr⟩ := hK
  intro ad H locs la hR hE hL hS hlo hla
  exact W.lcmp hx hb hd (lv_if_ne hx hb hd1 ht (fun q => kt (by rw [if_neg (fun z => q ((lg_cmp_eq x y).mpr z))] at h; exact h) ad H locs la hR hE hL hS.tl.tl hlo hla) (fun q => kf (by rw [if_pos ((lg_cmp_eq x y).mp q)] at h; exact h) ad H locs la hR hE hL hS.tl.tl hlo hla))
theorem r_liflt {K : g_C} {cc : ByteArray} {own nm : String} {ret : Option FieldType} {u : g_St} {ls : List (Nat × g_V)} {st : List g_V} {pc : Nat} {out : g_Out} (hK : g_OK K cc own nm ret) {α : Type} {o : α} {A B : Option α} {x y : Int64} {off : Int} {tgt : Nat} (hd : decode cc pc = .ok (.lcmp, 1)) (hd1 : decode cc (pc + 1) = .ok (.ifCond .lt off, 3)) (ht : ((pc + 1 : Nat) : Int) + off = (tgt : Int)) (h : (if x < y then A else B) = some o) (kt : A = some o → g_W K u ls st tgt out) (kf : B = some o → g_W K u ls st (pc + 4) out) : g_W K u ls (g_l y :: g_l x :: st) pc out := by
  obtain ⟨p, l, e, s, m, args, below, meth, c, nL, d, u0, ad0, G⟩ := K
  obtain ⟨hx, hb, hml, hown, hts, hKn, hlk, hnm, hret, htr⟩ := hK
  intro ad H locs la hR hE hL hS hlo hla
  exact W.lcmp hx hb hd (lv_if_lt hx hb hd1 ht (fun q => kt (by rw [if_pos ((lg_cmp_lt x y).mp q)] at h; exact h) ad H locs la hR hE hL hS.tl.tl hlo hla) (fun q => kf (by rw [if_neg (fun z => q ((lg_cmp_lt x y).mpr z))] at h; exact h) ad H locs la hR hE hL hS.tl.tl hlo hla))
theorem r_lifge {K : g_C} {cc : ByteArray} {own nm : String} {ret : Option FieldType} {u : g_St} {ls : List (Nat × g_V)} {st : List g_V} {pc : Nat} {out : g_Out} (hK : g_OK K cc own nm ret) {α : Type} {o : α} {A B : Option α} {x y : Int64} {off : Int} {tgt : Nat} (hd : decode cc pc = .ok (.lcmp, 1)) (hd1 : decode cc (pc + 1) = .ok (.ifCond .ge off, 3)) (ht : ((pc + 1 : Nat) : Int) + off = (tgt : Int)) (h : (if y ≤ x then A else B) = some o) (kt : A = some o → g_W K u ls st tgt out) (kf : B = some o → g_W K u ls st (pc + 4) out) : g_W K u ls (g_l y :: g_l x :: st) pc out := by
  obtain ⟨p, l, e, s, m, args, below, meth, c, nL, d, u0, ad0, G⟩ := K
  obtain ⟨hx, hb, hml, hown, hts, hKn, hlk, hnm, hret, htr⟩ := hK
  intro ad H locs la hR hE hL hS hlo hla
  exact W.lcmp hx hb hd (lv_if_ge hx hb hd1 ht (fun q => kt (by rw [if_pos ((lg_cmp_ge x y).mp q)] at h; exact h) ad H locs la hR hE hL hS.tl.tl hlo hla) (fun q => kf (by rw [if_neg (fun z => q ((lg_cmp_ge x y).mpr z))] at h; exact h) ad H locs la hR hE hL hS.tl.tl hlo hla))
theorem r_lifgt {K : g_C} {cc : ByteArray} {own nm : String} {ret : Option FieldType} {u : g_St} {ls : List (Nat × g_V)} {st : List g_V} {pc : Nat} {out : g_Out} (hK : g_OK K cc own nm ret) {α : Type} {o : α} {A B : Option α} {x y : Int64} {off : Int} {tgt : Nat} (hd : decode cc pc = .ok (.lcmp, 1)) (hd1 : decode cc (pc + 1) = .ok (.ifCond .gt off, 3)) (ht : ((pc + 1 : Nat) : Int) + off = (tgt : Int)) (h : (if y < x then A else B) = some o) (kt : A = some o → g_W K u ls st tgt out) (kf : B = some o → g_W K u ls st (pc + 4) out) : g_W K u ls (g_l y :: g_l x :: st) pc out := by
  obtain ⟨p, l, e, s, m, args, below, meth, c, nL, d, u0, ad0, G⟩ := K
  obtain ⟨hx, hb, hml, hown, hts, hKn, hlk, hnm, hret, htr⟩ := hK
  intro ad H locs la hR hE hL hS hlo hla
  exact W.lcmp hx hb hd (lv_if_gt hx hb hd1 ht (fun q => kt (by rw [if_pos ((lg_cmp_gt x y).mp q)] at h; exact h) ad H locs la hR hE hL hS.tl.tl hlo hla) (fun q => kf (by rw [if_neg (fun z => q ((lg_cmp_gt x y).mpr z))] at h; exact h) ad H locs la hR hE hL hS.tl.tl hlo hla))
theorem r_lifle {K : g_C} {cc : ByteArray} {own nm : String} {ret : Option FieldType} {u : g_St} {ls : List (Nat × g_V)} {st : List g_V} {pc : Nat} {out : g_Out} (hK : g_OK K cc own nm ret) {α : Type} {o : α} {A B : Option α} {x y : Int64} {off : Int} {tgt : Nat} (hd : decode cc pc = .ok (.lcmp, 1)) (hd1 : decode cc (pc + 1) = .ok (.ifCond .le off, 3)) (ht : ((pc + 1 : Nat) : Int) + off = (tgt : Int)) (h : (if x ≤ y then A else B) = some o) (kt : A = some o → g_W K u ls st tgt out) (kf : B = some o → g_W K u ls st (pc + 4) out) : g_W K u ls (g_l y :: g_l x :: st) pc out := by
  obtain ⟨p, l, e, s, m, args, below, meth, c, nL, d, u0, ad0, G⟩ := K
  obtain ⟨hx, hb, hml, hown, hts, hKn, hlk, hnm, hret, htr⟩ := hK
  intro ad H locs la hR hE hL hS hlo hla
  exact W.lcmp hx hb hd (lv_if_le hx hb hd1 ht (fun q => kt (by rw [if_pos ((lg_cmp_le x y).mp q)] at h; exact h) ad H locs la hR hE hL hS.tl.tl hlo hla) (fun q => kf (by rw [if_neg (fun z => q ((lg_cmp_le x y).mpr z))] at h; exact h) ad H locs la hR hE hL hS.tl.tl hlo hla))
theorem r_goto {K : g_C} {cc : ByteArray} {own nm : String} {ret : Option FieldType} {u : g_St} {ls : List (Nat × g_V)} {st : List g_V} {pc : Nat} {out : g_Out} (hK : g_OK K cc own nm ret) {off : Int} {tgt : Nat} (hd : decode cc pc = .ok (.goto off, 3)) (ht : (pc : Int) + off = (tgt : Int)) (k : g_W K u ls st tgt out) : g_W K u ls st pc out := by
  obtain ⟨p, l, e, s, m, args, below, meth, c, nL, d, u0, ad0, G⟩ := K
  obtain ⟨hx, hb, hml, hown, hts, hKn, hlk, hnm, hret, htr⟩ := hK
  intro ad H locs la hR hE hL hS hlo hla
  exact lv_goto hx hb hd ht (k ad H locs la hR hE hL hS hlo hla)
theorem r_ifnull {K : g_C} {cc : ByteArray} {own nm : String} {ret : Option FieldType} {u : g_St} {ls : List (Nat × g_V)} {st : List g_V} {pc : Nat} {out : g_Out} (hK : g_OK K cc own nm ret) {α : Type} {o : α} {A B : Option α} {t : Nat} {r : Option Nat} {off : Int} {tgt : Nat} (hd : decode cc pc = .ok (.ifnull off, 3)) (ht : (pc : Int) + off = (tgt : Int)) (h : (if r = none then A else B) = some o) (kt : A = some o → g_W K u ls st tgt out) (kf : B = some o → g_W K u ls st (pc + 3) out) : g_W K u ls (g_r t r :: st) pc out := by
  obtain ⟨p, l, e, s, m, args, below, meth, c, nL, d, u0, ad0, G⟩ := K
  obtain ⟨hx, hb, hml, hown, hts, hKn, hlk, hnm, hret, htr⟩ := hK
  intro ad H locs la hR hE hL hS hlo hla
  cases r with
  | none => exact lv_ifnullN hx hb hd ht (kt (by rw [if_pos rfl] at h; exact h) ad H locs la hR hE hL hS.tl hlo hla)
  | some a => exact lv_ifnull hx hb hd (kf (by rw [if_neg (fun q => by cases q)] at h; exact h) ad H locs la hR hE hL hS.tl hlo hla)
theorem r_ifnonnull {K : g_C} {cc : ByteArray} {own nm : String} {ret : Option FieldType} {u : g_St} {ls : List (Nat × g_V)} {st : List g_V} {pc : Nat} {out : g_Out} (hK : g_OK K cc own nm ret) {α : Type} {o : α} {A B : Option α} {t : Nat} {r : Option Nat} {off : Int} {tgt : Nat} (hd : decode cc pc = .ok (.ifnonnull off, 3)) (ht : (pc : Int) + off = (tgt : Int)) (h : (if r = none then A else B) = some o) (kt : B = some o → g_W K u ls st tgt out) (kf : A = some o → g_W K u ls st (pc + 3) out) : g_W K u ls (g_r t r :: st) pc out := by
  obtain ⟨p, l, e, s, m, args, below, meth, c, nL, d, u0, ad0, G⟩ := K
  obtain ⟨hx, hb, hml, hown, hts, hKn, hlk, hnm, hret, htr⟩ := hK
  intro ad H locs la hR hE hL hS hlo hla
  cases r with
  | none => exact lv_ifnonnullN hx hb hd (kf (by rw [if_pos rfl] at h; exact h) ad H locs la hR hE hL hS.tl hlo hla)
  | some a => exact lv_ifnonnull hx hb hd ht (kt (by rw [if_neg (fun q => by cases q)] at h; exact h) ad H locs la hR hE hL hS.tl hlo hla)
theorem g_acmp {G : g_G} {u : g_St} {ad : Nat → Nat} {H : Heap} (hR : g_Rep G u ad H) {t t' : Nat} (n1 : (t ≠ 14 ∧ t ≠ 40 ∧ t ≠ 41) ∧ t ≠ 63) (n2 : (t' ≠ 14 ∧ t' ≠ 40 ∧ t' ≠ 41) ∧ t' ≠ 63) {x y : Option Nat} (hx : g_okT u t x) (hy : g_okT u t' y) : x.map ad = y.map ad ↔ x = y := by
  refine ⟨fun h => ?_, fun h => by rw [h]⟩
  cases x with
  | none =>
    cases y with
    | none => rfl
    | some b => cases h
  | some a =>
    cases y with
    | none => cases h
    | some b =>
      obtain ⟨a1, a2⟩ := hx a rfl
      obtain ⟨b1, b2⟩ := hy b rfl
      rw [hR.2.1 a b a2 b2 (by omega) (by omega) (Option.some.inj h)]
theorem r_if_acmpeq {K : g_C} {cc : ByteArray} {own nm : String} {ret : Option FieldType} {u : g_St} {ls : List (Nat × g_V)} {st : List g_V} {pc : Nat} {out : g_Out} (hK : g_OK K cc own nm ret) {α : Type} {o : α} {A B : Option α} {t t1 : Nat} (n1 : (t ≠ 14 ∧ t ≠ 40 ∧ t ≠ 41) ∧ t ≠ 63) (n2 : (t1 ≠ 14 ∧ t1 ≠ 40 ∧ t1 ≠ 41) ∧ t1 ≠ 63) {x y : Option Nat} {off : Int} {tgt : Nat} (hd : decode cc pc = .ok (.if_acmp .eq off, 3)) (ht : (pc : Int) + off = (tgt : Int)) (h : (if x = y then A else B) = some o) (kt : A = some o → g_W K u ls st tgt out) (kf : B = some o → g_W K u ls st (pc + 3) out) : g_W K u ls (g_r t1 y :: g_r t x :: st) pc out := by
  obtain ⟨p, l, e, s, m, args, below, meth, c, nL, d, u0, ad0, G⟩ := K
  obtain ⟨hx, hb, hml, hown, hts, hKn, hlk, hnm, hret, htr⟩ := hK
  intro ad H locs la hR hE hL hS hlo hla
  have hc := g_acmp hR (t := t) (t' := t1) n1 n2 (x := x) (y := y) hS.tl.hd hS.hd
  exact lv_acmp_eq (rx := x.map ad) (ry := y.map ad) hx hb hd ht (fun q => kt (by rw [if_pos (hc.mp q)] at h; exact h) ad H locs la hR hE hL hS.tl.tl hlo hla) (fun q => kf (by rw [if_neg (fun z => q (hc.mpr z))] at h; exact h) ad H locs la hR hE hL hS.tl.tl hlo hla)
theorem r_if_acmpne {K : g_C} {cc : ByteArray} {own nm : String} {ret : Option FieldType} {u : g_St} {ls : List (Nat × g_V)} {st : List g_V} {pc : Nat} {out : g_Out} (hK : g_OK K cc own nm ret) {α : Type} {o : α} {A B : Option α} {t t1 : Nat} (n1 : (t ≠ 14 ∧ t ≠ 40 ∧ t ≠ 41) ∧ t ≠ 63) (n2 : (t1 ≠ 14 ∧ t1 ≠ 40 ∧ t1 ≠ 41) ∧ t1 ≠ 63) {x y : Option Nat} {off : Int} {tgt : Nat} (hd : decode cc pc = .ok (.if_acmp .ne off, 3)) (ht : (pc : Int) + off = (tgt : Int)) (h : (if x = y then A else B) = some o) (kt : B = some o → g_W K u ls st tgt out) (kf : A = some o → g_W K u ls st (pc + 3) out) : g_W K u ls (g_r t1 y :: g_r t x :: st) pc out := by
  obtain ⟨p, l, e, s, m, args, below, meth, c, nL, d, u0, ad0, G⟩ := K
  obtain ⟨hx, hb, hml, hown, hts, hKn, hlk, hnm, hret, htr⟩ := hK
  intro ad H locs la hR hE hL hS hlo hla
  have hc := g_acmp hR (t := t) (t' := t1) n1 n2 (x := x) (y := y) hS.tl.hd hS.hd
  exact lv_acmp_ne (rx := x.map ad) (ry := y.map ad) hx hb hd ht (fun q => kt (by rw [if_neg (fun z => q (hc.mpr z))] at h; exact h) ad H locs la hR hE hL hS.tl.tl hlo hla) (fun q => kf (by rw [if_pos (hc.mp q)] at h; exact h) ad H locs la hR hE hL hS.tl.tl hlo hla)
