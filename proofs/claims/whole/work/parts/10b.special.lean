/-! ROWS for lists, casts, constants' fields, switches -/
theorem r_ldcw {K : g_C} {cc : ByteArray} {own nm : String} {ret : Option FieldType} {u : g_St} {ls : List (Nat × g_V)} {st : List g_V} {pc : Nat} {out : g_Out} (hK : g_OK K cc own nm ret) {index : Nat} {v : Int32} (hc : Cond.constant own index v ∈ g_tbl) (hd : decode cc pc = .ok (.ldc_w index, 3)) (k : g_W K u ls (g_i v :: st) (pc + 3) out) : g_W K u ls st pc out := by
  obtain ⟨p, l, e, s, m, args, below, meth, c, nL, d, u0, ad0, G⟩ := K
  obtain ⟨hx, hb, hml, hown, hts, hKn, hlk, hnm, hret, htr⟩ := hK
  intro ad H locs la hR hE hL hS hlo hla
  exact lv_ldcw hx hb hown (hts _ hc) hd (k ad H locs la hR hE hL hS.int hlo hla)
/-- the stack's kinds may be forgotten -/
theorem r_stk {K : g_C} {cc : ByteArray} {own nm : String} {ret : Option FieldType} {u : g_St} {ls : List (Nat × g_V)} {st : List g_V} {pc : Nat} {out : g_Out} (hK : g_OK K cc own nm ret) {st1 : List g_V} (hv : ∀ ad, st1.map (g_v ad) = st.map (g_v ad)) (ho : g_okS u st → g_okS u st1) (k : g_W K u ls st1 pc out) : g_W K u ls st pc out := by
  obtain ⟨p, l, e, s, m, args, below, meth, c, nL, d, u0, ad0, G⟩ := K
  obtain ⟨hx, hb, hml, hown, hts, hKn, hlk, hnm, hret, htr⟩ := hK
  intro ad H locs la hR hE hL hS hlo hla
  have k9 := k ad H locs la hR hE hL (ho hS) hlo hla
  rw [hv] at k9
  exact k9
def g_lenO {α : Type} (u : g_St) (r : Option Nat) (F : Int32 → Option α) : Option α := match r with
  | none => none
  | some a => if a / 64 = 0 then F 0 else F (Int32.ofNat (g_ln u a))
def g_aO {α : Type} (u : g_St) (r : Option Nat) (i : Int32) (F : Option Nat → Option α) : Option α := match r with
  | none => none
  | some a => if a / 64 = 0 ∨ (i < 0 ∨ g_ln u a ≤ i.toNatClampNeg) then none else F (g_AR u a i.toNatClampNeg)
def g_okO (v : Option Nat) : Bool := match v with
  | none => true
  | some b => b % 64 == 9 || b % 64 == 11
def g_sO {α : Type} (u : g_St) (r : Option Nat) (i : Int32) (v : Option Nat) (F : g_St → Option α) : Option α := match r with
  | none => none
  | some a => if (a / 64 = 0 ∨ (i < 0 ∨ g_ln u a ≤ i.toNatClampNeg)) ∨ g_okO v = false then none else F (g_setAR u a i.toNatClampNeg v)
theorem g_ar30 : ((30, .object "java/lang/Object", 2, 63) : g_Ar) ∈ g_arrs := List.mem_of_getElem? (i := 10) rfl
theorem r_alenO {K : g_C} {cc : ByteArray} {own nm : String} {ret : Option FieldType} {u : g_St} {ls : List (Nat × g_V)} {st : List g_V} {pc : Nat} {out : g_Out} (hK : g_OK K cc own nm ret) {α : Type} {o : α} {r : Option Nat} {F : Int32 → Option α} (hd : decode cc pc = .ok (.arraylength, 1)) (h : g_lenO u r F = some o) (kk : ∀ x, F x = some o → g_W K u ls (g_i x :: st) (pc + 1) out) : g_W K u ls (g_r 30 r :: st) pc out := by
  obtain ⟨p, l, e, s, m, args, below, meth, c, nL, d, u0, ad0, G⟩ := K
  obtain ⟨hx, hb, hml, hown, hts, hKn, hlk, hnm, hret, htr⟩ := hK
  intro ad H locs la hR hE hL hS hlo hla
  cases r with
  | none => exact absurd h (by simp [g_lenO])
  | some a =>
    obtain ⟨ht, hal⟩ := hS.hd a rfl
    have ht : a % 64 = 30 := by
      rcases ht with w | w
      · cases w
      · exact w
    by_cases h0 : a / 64 = 0
    · have h : F 0 = some o := by simpa [g_lenO, h0] using h
      have ea : a = 30 := by omega
      subst ea
      have hsa : ad 30 = g_sa G 30 := (hR.2.2.1 30 hal).2.2 (by decide)
      obtain ⟨cell, c1, c2, c3, c4, c5, c6, c7⟩ := hKn.2.2.2.2.2.2.1 (30, .object "java/lang/Object", []) (List.mem_append_right _ (List.mem_of_getElem? (i := 2) rfl))
      refine W.alen (n := 0) hx hb (cell := cell) (ty := .object "java/lang/Object") ?_ c2 c5 rfl rfl hd (kk _ h ad H locs la hR hE hL hS.tl.int hlo hla)
      show H[ad 30]? = _
      rw [hsa, hR.1.2 _ (Nat.not_le.mp c7)]
      exact c1
    · have h : F (Int32.ofNat (g_ln u a)) = some o := by simpa [g_lenO, h0] using h
      obtain ⟨k1, k2, k3⟩ := hR.2.2.2.2.1 _ g_ar30 a hal ht (by show 1 ≤ a / 64; omega)
      exact W.alen (n := Int32.ofNat (g_ln u a)) hx hb k1 ((hKn.2.1 _ g_ar30).1 _ _) (by rw [arrV_size]) rfl rfl hd (kk _ h ad H locs la hR hE hL hS.tl.int hlo hla)
theorem r_aaloadO {K : g_C} {cc : ByteArray} {own nm : String} {ret : Option FieldType} {u : g_St} {ls : List (Nat × g_V)} {st : List g_V} {pc : Nat} {out : g_Out} (hK : g_OK K cc own nm ret) {α : Type} {o : α} {r : Option Nat} {i : Int32} {F : Option Nat → Option α} (hd : decode cc pc = .ok (.aaload, 1)) (h : g_aO u r i F = some o) (kk : ∀ x, F x = some o → g_W K u ls (g_r 63 x :: st) (pc + 1) out) : g_W K u ls (g_i i :: g_r 30 r :: st) pc out := by
  obtain ⟨p, l, e, s, m, args, below, meth, c, nL, d, u0, ad0, G⟩ := K
  obtain ⟨hx, hb, hml, hown, hts, hKn, hlk, hnm, hret, htr⟩ := hK
  intro ad H locs la hR hE hL hS hlo hla
  cases r with
  | none => exact absurd h (by simp [g_aO])
  | some a =>
    obtain ⟨ht, hal⟩ := hS.tl.hd a rfl
    have ht : a % 64 = 30 := by
      rcases ht with w | w
      · cases w
      · exact w
    have hc0 : ¬ (a / 64 = 0 ∨ (i < 0 ∨ g_ln u a ≤ i.toNatClampNeg)) := fun w => by rw [g_aO, if_pos w] at h; cases h
    have h : F (g_AR u a i.toNatClampNeg) = some o := by rw [g_aO, if_neg hc0] at h; exact h
    have hin : ¬ (i < 0 ∨ g_ln u a ≤ i.toNatClampNeg) := fun w => hc0 (Or.inr w)
    have hlt : i.toNatClampNeg < g_ln u a := Nat.not_le.mp fun w => hin (Or.inr w)
    obtain ⟨k1, k2, k3⟩ := hR.2.2.2.2.1 _ g_ar30 a hal ht (by show 1 ≤ a / 64; have := fun w => hc0 (Or.inl w); omega)
    refine W.aald (v := va_rf ((g_AR u a i.toNatClampNeg).map ad)) hx hb k1 ((hKn.2.1 _ g_ar30).1 _ _) rfl (fun w => by cases w) (by rw [arrV_size]; exact hin) ?_ rfl rfl hd (kk _ h ad H locs la hR hE hL (hS.tl.tl.cons (k3 rfl _ hlt)) hlo hla)
    rw [arrV_read _ _ hlt]
    rfl
/-- a Source, a Term is an Object -/
theorem g_any_as {u : g_St} {b : Nat} {G : g_G} {s : State} {args : Array Value} {ad : Nat → Nat} {H : Heap} {comp : ClassId} (h : g_okO (some b) = true) (hts : ∀ w ∈ g_tbl, w.before args s = true) (hKn : g_Kn G s) (hR : g_Rep G u ad H) (hv : g_okT u 63 (some b)) (hc : s.vm.findClass "java/lang/Object" = some comp) :
    ∃ cv : Cell, H[ad b]? = some cv ∧ cv.vm.isStatics = false ∧ ∃ kv : Class, s.vm.classes[cv.cls]? = some kv ∧ ∃ kc : Class, s.vm.classes[comp]? = some kc ∧ s.vm.assignable cv.cls comp = true := by
  obtain ⟨-, hal⟩ := hv b rfl
  have hb : b % 64 = 9 ∨ b % 64 = 11 := by simpa [g_okO] using h
  obtain ⟨q, hq, e1, hca⟩ : ∃ q ∈ g_objs, b % 64 = q.1 ∧ Cond.castable q.2.1.1 "java/lang/Object" ∈ g_tbl := by
    rcases hb with w | w
    · exact ⟨_, List.mem_of_getElem? (i := 9) rfl, w, g_m10 8 rfl rfl⟩
    · exact ⟨_, List.mem_of_getElem? (i := 11) rfl, w, g_m10 7 rfl rfl⟩
  obtain ⟨⟨cell, q1, q2, q3, -⟩, -⟩ := hR.2.2.2.1 q hq b hal e1
  obtain ⟨hfc, kC, hkC, -⟩ := (hKn.1 q hq).1.2
  obtain ⟨kc, hkc, -⟩ := Vm.findClass_spec hc
  exact ⟨cell, q1, by rw [q3]; rfl, kC, by rw [q2]; exact hkC, kc, hkc, by rw [q2]; exact vb_asgC (hKn.2.2.1 _ hca #[]) comp _ hc hfc⟩
theorem r_aastoreO {K : g_C} {cc : ByteArray} {own nm : String} {ret : Option FieldType} {u : g_St} {ls : List (Nat × g_V)} {st : List g_V} {pc : Nat} {out : g_Out} (hK : g_OK K cc own nm ret) {α : Type} {o : α} {r : Option Nat} {i : Int32} {v : Option Nat} {F : g_St → Option α} (hd : decode cc pc = .ok (.aastore, 1)) (h : g_sO u r i v F = some o) (kk : ∀ u1, F u1 = some o → g_W K u1 ls st (pc + 1) out) : g_W K u ls (g_r 63 v :: g_i i :: g_r 30 r :: st) pc out := by
  obtain ⟨p, l, e, s, m, args, below, meth, c, nL, d, u0, ad0, G⟩ := K
  obtain ⟨hx, hb, hml, hown, hts, hKn, hlk, hnm, hret, htr⟩ := hK
  intro ad H locs la hR hE hL hS hlo hla
  cases r with
  | none => exact absurd h (by simp [g_sO])
  | some a =>
    obtain ⟨ht, hal⟩ := hS.tl.tl.hd a rfl
    have ht : a % 64 = 30 := by
      rcases ht with w | w
      · cases w
      · exact w
    have ha := g_ar30
    have hc1 : ¬ ((a / 64 = 0 ∨ (i < 0 ∨ g_ln u a ≤ i.toNatClampNeg)) ∨ g_okO v = false) := fun w => by rw [g_sO, if_pos w] at h; cases h
    have hc0 : ¬ (i < 0 ∨ g_ln u a ≤ i.toNatClampNeg) := fun w => hc1 (Or.inl (Or.inr w))
    have h1 : 1 ≤ a / 64 := by have := fun w => hc1 (Or.inl (Or.inl w)); omega
    have hok : g_okO v = true := by cases w : g_okO v with | true => rfl | false => exact absurd (Or.inr w) hc1
    have h : F (g_setAR u a i.toNatClampNeg v) = some o := by rw [g_sO, if_neg hc1] at h; exact h
    have hin : ¬ (i < 0 ∨ g_ln u a ≤ i.toNatClampNeg) := hc0
    have hbA : g_b0 G ≤ ad a := (hR.2.2.1 a hal).2.1 (by rw [ht]; exact h1)
    have hlt : i.toNatClampNeg < g_ln u a := Nat.not_le.mp fun w => hin (Or.inr w)
    obtain ⟨k1, k2, k3⟩ := hR.2.2.2.2.1 _ ha a hal ht (by exact h1)
    have fin : ∀ H' : Heap, H'[ad a]? = some ((arrV (G.2.2.1 30) (g_ln u a) (g_av u ad 2 a)).setSlot i.toNatClampNeg (va_rf (v.map ad))) → H'.size = H.size → (∀ q, q ≠ ad a → H'[q]? = H[q]?) → W p l e (g_room d u0) s m args below meth c H' (locs ++ [⟨ad a, i.toNatClampNeg⟩]) (g_cn u - g_cn u0) (g_sn u - g_sn u0) (g_Q G u0 ad0 s below out) (F0 m (pc + 1) la (st.map (g_v ad))) := by
      intro H' p1 p2 p3
      refine kk _ h ad H' _ la (hR.put hal hbA rfl ⟨rfl, rfl⟩ rfl (fun _ _ _ => rfl) (fun _ _ _ => rfl) (fun _ _ _ => rfl) (fun b w => rfl) (fun b w => rfl) (fun b w => funext fun j => g_u2_ne (by rintro ⟨z, -⟩; exact w z)) p2 p3 (by rw [ht]; exact g_arrs_14 _ ha) (fun q' hq' ht' => absurd (ht'.symm.trans ht) (g_apart q' hq' _ ha)) (fun q' hq' ht' => ?_)) hE hL hS.tl.tl.tl (fun w hw => ?_) hla
      · obtain rfl : q' = (30, .object "java/lang/Object", 2, 63) := g_uni (fun q : g_Ar => q.1) g_arrs g_arrs_nd q' hq' _ ha (by rw [← ht', ht])
        refine ⟨?_, k2, fun hk j hj => ?_⟩
        · rw [p1, arrV_store]
          show _ = some (arrV _ (g_ln u a) _)
          congr 2
          funext j
          by_cases e5 : j = i.toNatClampNeg
          · subst e5
            show updV _ _ _ _ = va_rf (Option.map ad (g_u2 _ _ _ _ _ _))
            rw [g_u2_eq]
            simp [updV]
          · show updV _ _ _ _ = va_rf (Option.map ad (g_u2 _ _ _ _ _ _))
            rw [g_u2_ne (by rintro ⟨-, z⟩; exact e5 z)]
            simp [updV, e5]
            rfl
        · show g_okT _ _ (g_u2 _ _ _ _ _ _)
          by_cases e5 : j = i.toNatClampNeg
          · subst e5
            rw [g_u2_eq]
            exact hS.hd
          · rw [g_u2_ne (by rintro ⟨-, z⟩; exact e5 z)]
            exact k3 rfl j hj
      · rcases List.mem_append.mp hw with w9 | w9
        · exact hlo w w9
        · rw [List.mem_singleton.mp w9]
          exact hbA
    cases v with
    | none => exact va_WaastN (C := "java/lang/Object") hx hb k1 ((hKn.2.1 _ ha).1 _ _) (fun w => by cases w) (by rw [arrV_size]; exact hin) rfl rfl hd fin
    | some b =>
      obtain ⟨kA, comp, y1, y2, y3, -⟩ := (hKn.2.1 _ ha).2
      obtain ⟨cv, x1, x2, kv, x3, kc, x4, x5⟩ := g_any_as hok hts hKn hR hS.hd y3
      exact W.aast hx hb k1 (fun q w => by cases w) (fun w => by cases w) y1 y2 rfl x4 ⟨fun w => hin (Or.inl w), by rw [arrV_size]; exact hlt⟩ x1 (fun q w => by rw [w] at x2; cases x2) x3 x5 rfl rfl hd fin
theorem r_cast {K : g_C} {cc : ByteArray} {own nm : String} {ret : Option FieldType} {u : g_St} {ls : List (Nat × g_V)} {st : List g_V} {pc : Nat} {out : g_Out} (hK : g_OK K cc own nm ret) {α : Type} {o : α} {t t0 index : Nat} {C : String} {q : g_O} {r : Option Nat} {F : Option α} (hq : q ∈ g_objs) (eq1 : q.1 = t) (eq2 : q.2.1.1 = C) (hl : Cond.classLink own index C ∈ g_tbl) (hc : Cond.castable C C ∈ g_tbl) (hd : decode cc pc = .ok (.checkcast index, 3)) (h : g_cast t r F = some o) (k : F = some o → g_W K u ls (g_r t r :: st) (pc + 3) out) : g_W K u ls (g_r t0 r :: st) pc out := by
  obtain ⟨p, l, e, s, m, args, below, meth, c, nL, d, u0, ad0, G⟩ := K
  obtain ⟨hx, hb, hml, hown, hts, hKn, hlk, hnm, hret, htr⟩ := hK
  intro ad H locs la hR hE hL hS hlo hla
  cases r with
  | none => exact lv_castN hx hb hd (k h ad H locs la hR hE hL (hS.tl.cons (fun b hb => by cases hb)) hlo hla)
  | some a =>
    have hm : a % 64 = t := by
      by_cases w : a % 64 = t
      · exact w
      · rw [g_cast, if_neg w] at h; cases h
    rw [g_cast, if_pos hm] at h
    have hal := (hS.hd a rfl).2
    obtain ⟨⟨cell, q1, q2, q3, -⟩, -⟩ := hR.2.2.2.1 q hq a hal (by rw [hm, eq1])
    have hfc := (hKn.1 q hq).1.2.1
    exact va_castY (C := C) hx hb hown (hts _ hl) (hKn.2.2.1 _ hc #[]) ⟨cell, q1, by rw [q3]; rfl, by rw [q2, ← eq2]; exact hfc⟩ hd (k h ad H locs la hR hE hL (hS.tl.cons (fun b hb => by cases hb; exact ⟨Or.inr hm, hal⟩)) hlo hla)
def g_sfI {α : Type} (f : Nat → Int32) (r : Option Nat) (F : Int32 → Option α) : Option α := match r with
  | none => none
  | some a => F (f a)
def g_sfR {α : Type} (f : Nat → Nat) (r : Option Nat) (F : Option Nat → Option α) : Option α := match r with
  | none => none
  | some a => F (some (f a))
theorem r_sfI {K : g_C} {cc : ByteArray} {own nm : String} {ret : Option FieldType} {u : g_St} {ls : List (Nat × g_V)} {st : List g_V} {pc : Nat} {out : g_Out} (hK : g_OK K cc own nm ret) {α : Type} {o : α} {t index : Nat} {C n dd : String} {f : Nat → Int32} {r : Option Nat} {F : Int32 → Option α} (hfx : t ∈ g_fix) (h63 : t ≠ 63) (hq : ∀ a, a % 64 = t → a / 64 < g_old t → ((a, C, n, dd, .inl (f a)) : Nat × String × String × String × (Int32 ⊕ Nat)) ∈ g_stF) (hl : Cond.fieldLink own index C n dd ∈ g_tbl) (hd : decode cc pc = .ok (.getfield index, 3)) (h : g_sfI f r F = some o) (kk : ∀ x, F x = some o → g_W K u ls (g_i x :: st) (pc + 3) out) : g_W K u ls (g_r t r :: st) pc out := by
  obtain ⟨p, l, e, s, m, args, below, meth, c, nL, d, u0, ad0, G⟩ := K
  obtain ⟨hx, hb, hml, hown, hts, hKn, hlk, hnm, hret, htr⟩ := hK
  intro ad H locs la hR hE hL hS hlo hla
  cases r with
  | none => exact absurd h (by simp [g_sfI])
  | some a =>
    obtain ⟨ht, hal⟩ := hS.hd a rfl
    have ht : a % 64 = t := by
      rcases ht with w | w
      · exact absurd w h63
      · exact w
    have hlt : a / 64 < g_old t := by
      have h9 := hR.2.2.2.2.2.2.2.2 t hfx
      unfold g_al at hal
      rw [ht, h9] at hal
      exact hal
    have hsa : ad a = g_sa G a := (hR.2.2.1 a hal).2.2 (by rw [ht]; exact hlt)
    obtain ⟨cf, kk1, ii, fd, cell, z1, z2, z3, z4, z5, z6⟩ := hKn.2.2.2.2.2.1 _ (hq a ht hlt)
    have hcell : H[ad a]? = some cell := by
      rw [hsa, hR.1.2 _ (Nat.not_le.mp z6)]
      exact z3
    exact W.getf hx hb hown (hts _ hl) z1 z2 hcell z4 (v := .int (f a)) z5 rfl rfl hd (kk _ h ad H locs la hR hE hL hS.tl.int hlo hla)
theorem r_sfR {K : g_C} {cc : ByteArray} {own nm : String} {ret : Option FieldType} {u : g_St} {ls : List (Nat × g_V)} {st : List g_V} {pc : Nat} {out : g_Out} (hK : g_OK K cc own nm ret) {α : Type} {o : α} {t index : Nat} {C n dd : String} {f : Nat → Nat} {r : Option Nat} {F : Option Nat → Option α} (hfx : t ∈ g_fix) (h63 : t ≠ 63) {t1 : Nat} (hf : ∀ a, a / 64 < g_old t → f a % 64 = t1 ∧ f a / 64 < g_old t1) (hq : ∀ a, a % 64 = t → a / 64 < g_old t → ((a, C, n, dd, .inr (f a)) : Nat × String × String × String × (Int32 ⊕ Nat)) ∈ g_stF) (hl : Cond.fieldLink own index C n dd ∈ g_tbl) (hd : decode cc pc = .ok (.getfield index, 3)) (h : g_sfR f r F = some o) (kk : ∀ x, F x = some o → g_W K u ls (g_r t1 x :: st) (pc + 3) out) : g_W K u ls (g_r t r :: st) pc out := by
  obtain ⟨p, l, e, s, m, args, below, meth, c, nL, d, u0, ad0, G⟩ := K
  obtain ⟨hx, hb, hml, hown, hts, hKn, hlk, hnm, hret, htr⟩ := hK
  intro ad H locs la hR hE hL hS hlo hla
  cases r with
  | none => exact absurd h (by simp [g_sfR])
  | some a =>
    obtain ⟨ht, hal⟩ := hS.hd a rfl
    have ht : a % 64 = t := by
      rcases ht with w | w
      · exact absurd w h63
      · exact w
    have hlt : a / 64 < g_old t := by
      have h9 := hR.2.2.2.2.2.2.2.2 t hfx
      unfold g_al at hal
      rw [ht, h9] at hal
      exact hal
    have hsa : ad a = g_sa G a := (hR.2.2.1 a hal).2.2 (by rw [ht]; exact hlt)
    obtain ⟨cf, kk1, ii, fd, cell, z1, z2, z3, z4, z5, z6⟩ := hKn.2.2.2.2.2.1 _ (hq a ht hlt)
    have hcell : H[ad a]? = some cell := by
      rw [hsa, hR.1.2 _ (Nat.not_le.mp z6)]
      exact z3
    have hf1 := hf a hlt
    have hal1 : g_al u (f a) := by
      unfold g_al
      rw [hf1.1]
      exact Nat.lt_of_lt_of_le hf1.2 (hR.2.2.2.2.2.2.2.1 _)
    have hsa1 : ad (f a) = g_sa G (f a) := (hR.2.2.1 _ hal1).2.2 (by rw [hf1.1]; exact hf1.2)
    have k9 := kk _ h ad H locs la hR hE hL (hS.tl.cons (fun b hb => by cases hb; exact ⟨Or.inr hf1.1, hal1⟩)) hlo hla
    refine W.getf hx hb hown (hts _ hl) z1 z2 hcell z4 (v := .ref (g_sa G (f a))) z5 rfl rfl hd ?_
    have e9 : g_v ad (g_r t1 (some (f a))) = .ref (g_sa G (f a)) := by rw [← hsa1]; rfl
    rw [← e9]
    exact k9
theorem r_sfIN {K : g_C} {cc : ByteArray} {own nm : String} {ret : Option FieldType} {u : g_St} {ls : List (Nat × g_V)} {st : List g_V} {pc : Nat} {out : g_Out} (hK : g_OK K cc own nm ret) {α : Type} {o : α} {t index : Nat} {C n dd host : String} {f : Nat → Int32} {r : Option Nat} {F : Int32 → Option α} (hfx : t ∈ g_fix) (h63 : t ≠ 63) (hq : ∀ a, a % 64 = t → a / 64 < g_old t → ((a, C, n, dd, .inl (f a)) : Nat × String × String × String × (Int32 ⊕ Nat)) ∈ g_stF) (hl : Cond.fieldLinkNest own index C n dd host ∈ g_tbl) (hd : decode cc pc = .ok (.getfield index, 3)) (h : g_sfI f r F = some o) (kk : ∀ x, F x = some o → g_W K u ls (g_i x :: st) (pc + 3) out) : g_W K u ls (g_r t r :: st) pc out := by
  obtain ⟨p, l, e, s, m, args, below, meth, c, nL, d, u0, ad0, G⟩ := K
  obtain ⟨hx, hb, hml, hown, hts, hKn, hlk, hnm, hret, htr⟩ := hK
  intro ad H locs la hR hE hL hS hlo hla
  cases r with
  | none => exact absurd h (by simp [g_sfI])
  | some a =>
    obtain ⟨ht, hal⟩ := hS.hd a rfl
    have ht : a % 64 = t := by
      rcases ht with w | w
      · exact absurd w h63
      · exact w
    have hlt : a / 64 < g_old t := by
      have h9 := hR.2.2.2.2.2.2.2.2 t hfx
      unfold g_al at hal
      rw [ht, h9] at hal
      exact hal
    have hsa : ad a = g_sa G a := (hR.2.2.1 a hal).2.2 (by rw [ht]; exact hlt)
    obtain ⟨cf, kk1, ii, fd, cell, z1, z2, z3, z4, z5, z6⟩ := hKn.2.2.2.2.2.1 _ (hq a ht hlt)
    have hcell : H[ad a]? = some cell := by
      rw [hsa, hR.1.2 _ (Nat.not_le.mp z6)]
      exact z3
    exact va_Wgetf hx hb hown (hts _ hl) z1 z2 hcell z4 (v := .int (f a)) z5 rfl rfl hd (kk _ h ad H locs la hR hE hL hS.tl.int hlo hla)
theorem r_sfRN {K : g_C} {cc : ByteArray} {own nm : String} {ret : Option FieldType} {u : g_St} {ls : List (Nat × g_V)} {st : List g_V} {pc : Nat} {out : g_Out} (hK : g_OK K cc own nm ret) {α : Type} {o : α} {t index : Nat} {C n dd host : String} {f : Nat → Nat} {r : Option Nat} {F : Option Nat → Option α} (hfx : t ∈ g_fix) (h63 : t ≠ 63) {t1 : Nat} (hf : ∀ a, a / 64 < g_old t → f a % 64 = t1 ∧ f a / 64 < g_old t1) (hq : ∀ a, a % 64 = t → a / 64 < g_old t → ((a, C, n, dd, .inr (f a)) : Nat × String × String × String × (Int32 ⊕ Nat)) ∈ g_stF) (hl : Cond.fieldLinkNest own index C n dd host ∈ g_tbl) (hd : decode cc pc = .ok (.getfield index, 3)) (h : g_sfR f r F = some o) (kk : ∀ x, F x = some o → g_W K u ls (g_r t1 x :: st) (pc + 3) out) : g_W K u ls (g_r t r :: st) pc out := by
  obtain ⟨p, l, e, s, m, args, below, meth, c, nL, d, u0, ad0, G⟩ := K
  obtain ⟨hx, hb, hml, hown, hts, hKn, hlk, hnm, hret, htr⟩ := hK
  intro ad H locs la hR hE hL hS hlo hla
  cases r with
  | none => exact absurd h (by simp [g_sfR])
  | some a =>
    obtain ⟨ht, hal⟩ := hS.hd a rfl
    have ht : a % 64 = t := by
      rcases ht with w | w
      · exact absurd w h63
      · exact w
    have hlt : a / 64 < g_old t := by
      have h9 := hR.2.2.2.2.2.2.2.2 t hfx
      unfold g_al at hal
      rw [ht, h9] at hal
      exact hal
    have hsa : ad a = g_sa G a := (hR.2.2.1 a hal).2.2 (by rw [ht]; exact hlt)
    obtain ⟨cf, kk1, ii, fd, cell, z1, z2, z3, z4, z5, z6⟩ := hKn.2.2.2.2.2.1 _ (hq a ht hlt)
    have hcell : H[ad a]? = some cell := by
      rw [hsa, hR.1.2 _ (Nat.not_le.mp z6)]
      exact z3
    have hf1 := hf a hlt
    have hal1 : g_al u (f a) := by
      unfold g_al
      rw [hf1.1]
      exact Nat.lt_of_lt_of_le hf1.2 (hR.2.2.2.2.2.2.2.1 _)
    have hsa1 : ad (f a) = g_sa G (f a) := (hR.2.2.1 _ hal1).2.2 (by rw [hf1.1]; exact hf1.2)
    have k9 := kk _ h ad H locs la hR hE hL (hS.tl.cons (fun b hb => by cases hb; exact ⟨Or.inr hf1.1, hal1⟩)) hlo hla
    refine va_Wgetf hx hb hown (hts _ hl) z1 z2 hcell z4 (v := .ref (g_sa G (f a))) z5 rfl rfl hd ?_
    have e9 : g_v ad (g_r t1 (some (f a))) = .ref (g_sa G (f a)) := by rw [← hsa1]; rfl
    rw [← e9]
    exact k9
/-- the switch map -/
def g_swl {α : Type} (r : Option Nat) (i : Int32) (F : Int32 → Option α) : Option α := match r with
  | none => none
  | some _ => if i < 0 ∨ 40 ≤ i.toNatClampNeg then none else F (g_swt.getD i.toNatClampNeg 0)
theorem r_swl {K : g_C} {cc : ByteArray} {own nm : String} {ret : Option FieldType} {u : g_St} {ls : List (Nat × g_V)} {st : List g_V} {pc : Nat} {out : g_Out} (hK : g_OK K cc own nm ret) {α : Type} {o : α} {i : Int32} {r : Option Nat} {F : Int32 → Option α} (hd : decode cc pc = .ok (.iaload, 1)) (h : g_swl r i F = some o) (kk : ∀ x, F x = some o → g_W K u ls (g_i x :: st) (pc + 1) out) : g_W K u ls (g_i i :: g_r 40 r :: st) pc out := by
  obtain ⟨p, l, e, s, m, args, below, meth, c, nL, d, u0, ad0, G⟩ := K
  obtain ⟨hx, hb, hml, hown, hts, hKn, hlk, hnm, hret, htr⟩ := hK
  intro ad H locs la hR hE hL hS hlo hla
  cases r with
  | none => exact absurd h (by simp [g_swl])
  | some a =>
    obtain ⟨ht, hal⟩ := hS.tl.hd a rfl
    have ht : a % 64 = 40 := by
      rcases ht with w | w
      · cases w
      · exact w
    have hlt : a / 64 < 1 := by
      have h9 := hR.2.2.2.2.2.2.2.2 40 (by decide)
      unfold g_al at hal
      rw [ht, h9] at hal
      exact hal
    have ea : a = 40 := by omega
    subst ea
    have hin : ¬ (i < 0 ∨ 40 ≤ i.toNatClampNeg) := fun w => by rw [g_swl, if_pos w] at h; cases h
    rw [g_swl, if_neg hin] at h
    have hl40 : i.toNatClampNeg < 40 := Nat.not_le.mp fun w => hin (Or.inr w)
    have hsa : ad 40 = g_sa G 40 := (hR.2.2.1 40 hal).2.2 (by decide)
    obtain ⟨cell, c1, c2, c3, c4, c5, c6, c7⟩ := hKn.2.2.2.2.2.2.1 (40, .int, g_swt.map Sum.inl) (List.mem_append_right _ (List.mem_of_getElem? (i := 0) rfl))
    have c6 := c6 i.toNatClampNeg hl40
    have e5 : (g_swt.map Sum.inl : List (Int32 ⊕ Nat)).getD i.toNatClampNeg (.inl 0) = .inl (g_swt.getD i.toNatClampNeg 0) := by
      rw [List.getD_eq_getElem?_getD, List.getElem?_map, List.getD_eq_getElem?_getD]
      cases g_swt[i.toNatClampNeg]? <;> rfl
    have c4 : 40 ≤ cell.slots.size := c4
    refine W.iald (v := .int (g_swt.getD i.toNatClampNeg 0)) hx hb (cell := cell) ?_ c2 c3 (fun w => by rcases w with w | w; exact hin (Or.inl w); omega) ?_ rfl rfl hd (kk _ h ad H locs la hR hE hL hS.tl.tl.int hlo hla)
    · show H[ad 40]? = _
      rw [hsa, hR.1.2 _ (Nat.not_le.mp c7)]
      exact c1
    · rw [c6]
      show some (g_sv G ((g_swt.map Sum.inl : List (Int32 ⊕ Nat)).getD i.toNatClampNeg (.inl 0))) = _
      rw [e5]
      rfl
theorem r_tswIn {K : g_C} {cc : ByteArray} {own nm : String} {ret : Option FieldType} {u : g_St} {ls : List (Nat × g_V)} {st : List g_V} {pc : Nat} {out : g_Out} (hK : g_OK K cc own nm ret) {dflt lo hi off : Int} {offs : Array Int} {len tgt : Nat} {x : Int32} (k0 : Int32) (hx0 : x = k0) (hd : decode cc pc = .ok (.tableswitch dflt lo hi offs, len)) (h1 : ¬ k0.toInt < lo) (h2 : ¬ hi < k0.toInt) (ho : offs[(k0.toInt - lo).toNat]? = some off) (ht : (pc : Int) + off = (tgt : Int)) (k : g_W K u ls st tgt out) : g_W K u ls (g_i x :: st) pc out := by
  subst hx0
  obtain ⟨p, l, e, s, m, args, below, meth, c, nL, d, u0, ad0, G⟩ := K
  obtain ⟨hx, hb, hml, hown, hts, hKn, hlk, hnm, hret, htr⟩ := hK
  intro ad H locs la hR hE hL hS hlo hla
  exact lv_tableIn hx hb hd h1 h2 ho ht (k ad H locs la hR hE hL hS.tl hlo hla)
theorem r_tswOut {K : g_C} {cc : ByteArray} {own nm : String} {ret : Option FieldType} {u : g_St} {ls : List (Nat × g_V)} {st : List g_V} {pc : Nat} {out : g_Out} (hK : g_OK K cc own nm ret) {dflt lo hi : Int} {offs : Array Int} {len tgt : Nat} {x : Int32} (hd : decode cc pc = .ok (.tableswitch dflt lo hi offs, len)) (h1 : x.toInt < lo ∨ hi < x.toInt) (ht : (pc : Int) + dflt = (tgt : Int)) (k : g_W K u ls st tgt out) : g_W K u ls (g_i x :: st) pc out := by
  obtain ⟨p, l, e, s, m, args, below, meth, c, nL, d, u0, ad0, G⟩ := K
  obtain ⟨hx, hb, hml, hown, hts, hKn, hlk, hnm, hret, htr⟩ := hK
  intro ad H locs la hR hE hL hS hlo hla
  exact lv_tableOut hx hb hd h1 ht (k ad H locs la hR hE hL hS.tl hlo hla)
theorem r_gIS {K : g_C} {cc : ByteArray} {own nm : String} {ret : Option FieldType} {u : g_St} {ls : List (Nat × g_V)} {st : List g_V} {pc : Nat} {out : g_Out} (hK : g_OK K cc own nm ret) {α : Type} {o : α} {k t tg index : Nat} {C n dd : String} {fin : Bool} {r : Option Nat} {F : Int32 → Option α} (hf : g_Fd k t 0 tg C n dd fin) {ref : String} (hl : Cond.fieldLink own index ref n dd ∈ g_tbl) (hsf : Cond.sameField ref C n dd ∈ g_tbl) (hd : decode cc pc = .ok (.getfield index, 3)) (h : g_gI u k r F = some o) (kk : ∀ x, F x = some o → g_W K u ls (g_i x :: st) (pc + 3) out) : g_W K u ls (g_r t r :: st) pc out := by
  obtain ⟨p, l, e, s, m, args, below, meth, c, nL, d, u0, ad0, G⟩ := K
  obtain ⟨hx, hb, hml, hown, hts, hKn, hlk, hnm, hret, htr⟩ := hK
  intro ad H locs la hR hE hL hS hlo hla
  cases r with
  | none => exact absurd h (by simp [g_gI])
  | some a =>
    obtain ⟨ht, ha⟩ := hS.hd a rfl
    have ht : a % 64 = t := by
      rcases ht with w | w
      · obtain ⟨q, j, hq, e1, -⟩ := hf
        have := g_objs_lt q hq
        omega
      · exact w
    obtain ⟨q, j, hq, e1, e2, hj, hks, hT, ⟨cell, q1, q2, q3, q4⟩, hval, hok⟩ := g_field hR hf (by decide) ha ht
    obtain ⟨hS', hfc, kC, hkC, hkind⟩ := (hKn.1 q hq).1
    obtain ⟨cf, kf, fi, f, hi, hsl⟩ := hS' j hj
    have hst := (u_facts hfc hkC (u_lays hts (g_objs_in q hq) hj) hi).1
    rw [hT] at hi
    rw [e1] at hsl
    refine W.getf hx hb hown (hts _ hl) (u_same (hts _ hsf) _ hi) hst q1 (by rw [q3]; exact fun w => by cases w) (v := .int (g_I u k a)) ?_ rfl rfl hd (kk _ h ad H locs la hR hE hL hS.tl.int hlo hla)
    rw [hsl, q4 j hj, hval]
    rfl
theorem r_pIS {K : g_C} {cc : ByteArray} {own nm : String} {ret : Option FieldType} {u : g_St} {ls : List (Nat × g_V)} {st : List g_V} {pc : Nat} {out : g_Out} (hK : g_OK K cc own nm ret) {α : Type} {o : α} {k t tg index : Nat} {C : String} {n : String} {r : Option Nat} {v : Int32} {F : g_St → Option α} (hf : g_Fd k t 0 tg C n "I" false) (h0 : g_old t = 0) {ref : String} (hl : Cond.fieldLink own index ref n "I" ∈ g_tbl) (hsf : Cond.sameField ref C n "I" ∈ g_tbl) (hd : decode cc pc = .ok (.putfield index, 3)) (h : g_pI u k r v F = some o) (kk : ∀ u1, F u1 = some o → g_W K u1 ls st (pc + 3) out) : g_W K u ls (g_i v :: g_r t r :: st) pc out := by
  obtain ⟨p, l, e, s, m, args, below, meth, c, nL, d, u0, ad0, G⟩ := K
  obtain ⟨hx, hb, hml, hown, hts, hKn, hlk, hnm, hret, htr⟩ := hK
  intro ad H locs la hR hE hL hS hlo hla
  cases r with
  | none => exact absurd h (by simp [g_pI])
  | some a =>
    obtain ⟨ht, ha⟩ := hS.tl.hd a rfl
    have ht : a % 64 = t := by
      rcases ht with w | w
      · obtain ⟨q, j, hq, e1, -⟩ := hf
        have := g_objs_lt q hq
        omega
      · exact w
    have hbA : g_b0 G ≤ ad a := (hR.2.2.1 a ha).2.1 (by rw [ht, h0]; exact Nat.zero_le _)
    obtain ⟨q, j, hq, e1, e2, hj, hks, hT, ⟨cell, q1, q2, q3, q4⟩, hval, hok⟩ := g_field hR hf (by decide) ha ht
    obtain ⟨⟨hS', hfc, kC, hkC, hkind⟩, hap⟩ := hKn.1 q hq
    obtain ⟨cf, kf, fi, f, hi, hsl⟩ := hS' j hj
    have hst := (u_facts hfc hkC (u_lays hts (g_objs_in q hq) hj) hi).1
    have hlay := hts _ (g_objs_in q hq _ (u_in_lay hj))
    unfold u_lay at hlay
    rw [if_neg (by rw [hT]; exact fun q => by cases q)] at hlay
    rw [e1] at hsl hap
    have h6 := u_store hfc hkC hkind hlay hi (by rw [hT]; exact (by decide +kernel : parseFieldDescriptor "I" = some .int)) (v := .int v) rfl rfl
    have hi' := hi
    rw [hT] at hi'
    refine W.putK hx hb (f := f) ⟨hown, hts _ hl, ⟨_, _, _, u_same (hts _ hsf) _ hi'⟩, hst⟩ (by rw [q2, ← e1]; exact h6) q1 q3 (by rw [hsl]; exact k2_hasslot (q4 j hj)) rfl rfl hd fun H' p1 p2 p3 => ?_
    rw [hsl] at p1 ⊢
    refine kk _ h ad H' _ la (hR.put ha hbA rfl ⟨rfl, rfl⟩ rfl (fun k b w => g_u2_ne (by rintro ⟨-, z⟩; exact w z)) (fun k b w => rfl) (fun k b w => rfl) (fun _ _ => rfl) (fun _ _ => rfl) (fun _ _ => rfl) p2 p3 (by rw [ht, ← e1]; exact g_objs_14 q hq) (fun q' hq' ht' => ?_) (fun q' hq' ht' => absurd (e1.trans (ht.symm.trans ht')) (g_apart q hq q' hq'))) hE hL hS.tl.tl (fun w hw => ?_) hla
    · obtain rfl : q' = q := g_uni (fun q : g_O => q.1) g_objs g_objs_nd q' hq' q hq (by rw [← ht', e1, ht])
      refine ⟨t_OB.to (V := updV (g_fv u ad t q'.2.2 a) j (.int v)) ⟨_, p1, by rw [e1]; exact q2, q3, by rw [e1]; exact t_set q4 hap hj _⟩ (fun j' hj' => ?_), fun j' kt hj' hk2 => ?_⟩
      · by_cases e5 : j' = j
        · subst e5
          unfold g_fv
          rw [List.getD_eq_getElem?_getD, hks, e1]
          show updV _ _ _ _ = .int (g_u2 _ _ _ _ _ _)
          rw [← e2, g_u2_eq]
          simp [updV]
        · have e6 : updV (g_fv u ad t q'.2.2 a) j (.int v) j' = g_fv u ad t q'.2.2 a j' := by simp [updV, e5]
          rw [e6, e1]
          unfold g_fv
          have e7 : g_I (g_setI u k a v) (j' * 64 + t) a = g_I u (j' * 64 + t) a := g_u2_ne (by rintro ⟨w, -⟩; omega)
          rw [e7]
          rfl
      · exact (hR.2.2.2.1 q' hq' a ha ht').2 j' kt hj' hk2
    · rcases List.mem_append.mp hw with w9 | w9
      · exact hlo w w9
      · rw [List.mem_singleton.mp w9]
        exact hbA
/-- KINDS -/
def g_ksl {α : Type} (r : Option Nat) (F : Int32 → Option α) : Option α := match r with
  | none => none
  | some _ => F 40
def g_ksa {α : Type} (r : Option Nat) (i : Int32) (F : Option Nat → Option α) : Option α := match r with
  | none => none
  | some _ => if i < 0 ∨ 40 ≤ i.toNatClampNeg then none else F (some (i.toNatClampNeg * 64 + 13))
theorem g_ks {G : g_G} {u : g_St} {ad : Nat → Nat} {H : Heap} {s : State} (hR : g_Rep G u ad H) (hKn : g_Kn G s) {a : Nat} (ho : g_okT u 41 (some a)) : ∃ cell : Cell, H[ad a]? = some cell ∧ s.isArrayOf cell (.object "FixpointEngine$Kind") ∧ cell.vm ≠ .unknown ∧ 40 ≤ cell.slots.size ∧ cell.slots.size.toInt32 = 40 ∧ ∀ j, j < 40 → cell.slots[j]? = some (.ref (g_sa G (j * 64 + 13))) := by
  obtain ⟨ht, hal⟩ := ho a rfl
  have ht : a % 64 = 41 := by
    rcases ht with w | w
    · cases w
    · exact w
  have hlt : a / 64 < 1 := by
    have h9 := hR.2.2.2.2.2.2.2.2 41 (by decide)
    unfold g_al at hal
    rw [ht, h9] at hal
    exact hal
  have ea : a = 41 := by omega
  subst ea
  have hsa : ad 41 = g_sa G 41 := (hR.2.2.1 41 hal).2.2 (by decide)
  obtain ⟨cell, c1, c2, c3, c4, c5, c6, c7⟩ := hKn.2.2.2.2.2.2.1 (41, .object "FixpointEngine$Kind", (List.range 40).map (fun i => .inr (i * 64 + 13))) (List.mem_append_right _ (List.mem_of_getElem? (i := 1) rfl))
  have hlen : ((List.range 40).map (fun i => (.inr (i * 64 + 13) : Int32 ⊕ Nat))).length = 40 := by simp
  refine ⟨cell, ?_, c2, c3, by rw [← hlen]; exact c4, by rw [c5, hlen]; rfl, fun j hj => ?_⟩
  · rw [hsa, hR.1.2 _ (Nat.not_le.mp c7)]
    exact c1
  · rw [c6 j (by rw [hlen]; exact hj)]
    have e5 : ((List.range 40).map (fun i => (.inr (i * 64 + 13) : Int32 ⊕ Nat))).getD j (.inl 0) = .inr (j * 64 + 13) := by
      rw [List.getD_eq_getElem?_getD, List.getElem?_map, List.getElem?_range hj]
      rfl
    show some (g_sv G (((List.range 40).map (fun i => (.inr (i * 64 + 13) : Int32 ⊕ Nat))).getD j (.inl 0))) = _
    rw [e5]
    rfl
theorem r_ksl {K : g_C} {cc : ByteArray} {own nm : String} {ret : Option FieldType} {u : g_St} {ls : List (Nat × g_V)} {st : List g_V} {pc : Nat} {out : g_Out} (hK : g_OK K cc own nm ret) {α : Type} {o : α} {r : Option Nat} {F : Int32 → Option α} (hd : decode cc pc = .ok (.arraylength, 1)) (h : g_ksl r F = some o) (kk : ∀ x, F x = some o → g_W K u ls (g_i x :: st) (pc + 1) out) : g_W K u ls (g_r 41 r :: st) pc out := by
  obtain ⟨p, l, e, s, m, args, below, meth, c, nL, d, u0, ad0, G⟩ := K
  obtain ⟨hx, hb, hml, hown, hts, hKn, hlk, hnm, hret, htr⟩ := hK
  intro ad H locs la hR hE hL hS hlo hla
  cases r with
  | none => exact absurd h (by simp [g_ksl])
  | some a =>
    obtain ⟨cell, c1, c2, c3, c4, c5, c6⟩ := g_ks hR hKn hS.hd
    exact W.alen (n := 40) hx hb c1 c2 c5 rfl rfl hd (kk _ h ad H locs la hR hE hL hS.tl.int hlo hla)
theorem r_ksa {K : g_C} {cc : ByteArray} {own nm : String} {ret : Option FieldType} {u : g_St} {ls : List (Nat × g_V)} {st : List g_V} {pc : Nat} {out : g_Out} (hK : g_OK K cc own nm ret) {α : Type} {o : α} {i : Int32} {r : Option Nat} {F : Option Nat → Option α} (hd : decode cc pc = .ok (.aaload, 1)) (h : g_ksa r i F = some o) (kk : ∀ x, F x = some o → g_W K u ls (g_r 13 x :: st) (pc + 1) out) : g_W K u ls (g_i i :: g_r 41 r :: st) pc out := by
  obtain ⟨p, l, e, s, m, args, below, meth, c, nL, d, u0, ad0, G⟩ := K
  obtain ⟨hx, hb, hml, hown, hts, hKn, hlk, hnm, hret, htr⟩ := hK
  intro ad H locs la hR hE hL hS hlo hla
  cases r with
  | none => exact absurd h (by simp [g_ksa])
  | some a =>
    have hin : ¬ (i < 0 ∨ 40 ≤ i.toNatClampNeg) := fun w => by rw [g_ksa, if_pos w] at h; cases h
    rw [g_ksa, if_neg hin] at h
    have hl40 : i.toNatClampNeg < 40 := Nat.not_le.mp fun w => hin (Or.inr w)
    obtain ⟨cell, c1, c2, c3, c4, c5, c6⟩ := g_ks hR hKn hS.tl.hd
    have hm : (i.toNatClampNeg * 64 + 13) % 64 = 13 := by omega
    have hal1 : g_al u (i.toNatClampNeg * 64 + 13) := by
      unfold g_al
      rw [hm, show (i.toNatClampNeg * 64 + 13) / 64 = i.toNatClampNeg by omega]
      exact Nat.lt_of_lt_of_le hl40 (hR.2.2.2.2.2.2.2.1 13)
    have hsa1 := (hR.2.2.1 _ hal1).2.2 (by rw [hm, show (i.toNatClampNeg * 64 + 13) / 64 = i.toNatClampNeg by omega]; exact hl40)
    have k9 := kk _ h ad H locs la hR hE hL (hS.tl.tl.cons (fun b hb => by cases hb; exact ⟨Or.inr hm, hal1⟩)) hlo hla
    refine W.aald (v := .ref (g_sa G (i.toNatClampNeg * 64 + 13))) hx hb c1 c2 rfl c3 (fun w => by rcases w with w | w; exact hin (Or.inl w); omega) (c6 _ hl40) rfl rfl hd ?_
    have e9 : g_v ad (g_r 13 (some (i.toNatClampNeg * 64 + 13))) = .ref (g_sa G (i.toNatClampNeg * 64 + 13)) := by rw [← hsa1]; rfl
    rw [← e9]
    exact k9
theorem g_ok63 {u : g_St} {t : Nat} {r : Option Nat} (h : g_okV u (g_r t r)) : g_okV u (g_r 63 r) := fun a e => ⟨Or.inl rfl, (h a e).2⟩
theorem r_mmax {K : g_C} {cc : ByteArray} {own nm : String} {ret : Option FieldType} {u : g_St} {ls : List (Nat × g_V)} {st : List g_V} {pc : Nat} {out : g_Out} (hK : g_OK K cc own nm ret) {x y : Int32} {index : Nat} (hl : Cond.methodLink own index Lib.Math.max.name ∈ g_tbl) (hdd : 1 ≤ g_Kd K) (hw : g_wid st + 13 ≤ 64) (hd : decode cc pc = .ok (.invokestatic index, 3)) (k : g_W K u ls (g_i (if x < y then y else x) :: st) (pc + 3) out) : g_W K u ls (g_i y :: g_i x :: st) pc out := by
  obtain ⟨p, l, e, s, m, args, below, meth, c, nL, d, u0, ad0, G⟩ := K
  obtain ⟨hx, hb, hml, hown, hts, hKn, hlk, hnm, hret, htr⟩ := hK
  intro ad H locs la hR hE hL hS hlo hla
  have h6 := hR.2.2.2.2.2.1
  have h7 := hR.2.2.2.2.2.2.1
  have hd1 : 1 ≤ d := hdd
  refine va_mmax hx hb (by rw [hml]; exact hla.1.symm) hown (hts _ hl) (hts _ (g_m4 141 rfl rfl)) (hts _ (g_m1 26 rfl rfl)) (hts (Cond.code Lib.Math.max.name Lib.Math.max.code 2 (some .int)) (g_m4 142 rfl rfl)) hdd ?_ ?_ ?_ hd (k ad H locs la hR hE hL hS.tl.tl.int hlo hla)
  · rw [g_cats]
    show g_wid st + 13 ≤ 64 * d
    omega
  · show _ ≤ g_LC - g_cn u0
    omega
  · show _ ≤ g_LS - g_sn u0
    omega
theorem r_mmin {K : g_C} {cc : ByteArray} {own nm : String} {ret : Option FieldType} {u : g_St} {ls : List (Nat × g_V)} {st : List g_V} {pc : Nat} {out : g_Out} (hK : g_OK K cc own nm ret) {x y : Int32} {index : Nat} (hl : Cond.methodLink own index Lib.Math.min.name ∈ g_tbl) (hdd : 1 ≤ g_Kd K) (hw : g_wid st + 13 ≤ 64) (hd : decode cc pc = .ok (.invokestatic index, 3)) (k : g_W K u ls (g_i (if y < x then y else x) :: st) (pc + 3) out) : g_W K u ls (g_i y :: g_i x :: st) pc out := by
  obtain ⟨p, l, e, s, m, args, below, meth, c, nL, d, u0, ad0, G⟩ := K
  obtain ⟨hx, hb, hml, hown, hts, hKn, hlk, hnm, hret, htr⟩ := hK
  intro ad H locs la hR hE hL hS hlo hla
  have h6 := hR.2.2.2.2.2.1
  have h7 := hR.2.2.2.2.2.2.1
  have hd1 : 1 ≤ d := hdd
  refine va_mmin hx hb (by rw [hml]; exact hla.1.symm) hown (hts _ hl) (hts _ (g_m4 181 rfl rfl)) (hts _ (g_m1 26 rfl rfl)) (hts (Cond.code Lib.Math.min.name Lib.Math.min.code 2 (some .int)) (g_m4 182 rfl rfl)) hdd ?_ ?_ ?_ hd (k ad H locs la hR hE hL hS.tl.tl.int hlo hla)
  · rw [g_cats]
    show g_wid st + 13 ≤ 64 * d
    omega
  · show _ ≤ g_LC - g_cn u0
    omega
  · show _ ≤ g_LS - g_sn u0
    omega
theorem r_lmax {K : g_C} {cc : ByteArray} {own nm : String} {ret : Option FieldType} {u : g_St} {ls : List (Nat × g_V)} {st : List g_V} {pc : Nat} {out : g_Out} (hK : g_OK K cc own nm ret) {x y : Int64} {index : Nat} (hl : Cond.methodLink own index Lib.MathLoose.max_long.x ∈ g_tbl) (hdd : 1 ≤ g_Kd K) (hw : g_wid st + 15 ≤ 64) (hd : decode cc pc = .ok (.invokestatic index, 3)) (k : g_W K u ls (g_l (if y < x then x else y) :: st) (pc + 3) out) : g_W K u ls (g_l y :: g_l x :: st) pc out := by
  obtain ⟨p, l, e, s, m, args, below, meth, c, nL, d, u0, ad0, G⟩ := K
  obtain ⟨hx, hb, hml, hown, hts, hKn, hlk, hnm, hret, htr⟩ := hK
  intro ad H locs la hR hE hL hS hlo hla
  have h6 := hR.2.2.2.2.2.1
  have h7 := hR.2.2.2.2.2.2.1
  have hd1 : 1 ≤ d := hdd
  refine va_mmax_long hx hb (by rw [hml]; exact hla.1.symm) hown (hts _ hl) (hts _ (g_m6 134 rfl rfl)) (hts _ (g_m1 26 rfl rfl)) (hts (Cond.code Lib.MathLoose.max_long.x Lib.MathLoose.max_long.code 4 (some .long)) (g_m6 135 rfl rfl)) hdd ?_ ?_ ?_ hd (k ad H locs la hR hE hL hS.tl.tl.long hlo hla)
  · rw [g_cats]
    show g_wid st + 15 ≤ 64 * d
    omega
  · show _ ≤ g_LC - g_cn u0
    omega
  · show _ ≤ g_LS - g_sn u0
    omega
theorem r_lmin {K : g_C} {cc : ByteArray} {own nm : String} {ret : Option FieldType} {u : g_St} {ls : List (Nat × g_V)} {st : List g_V} {pc : Nat} {out : g_Out} (hK : g_OK K cc own nm ret) {x y : Int64} {index : Nat} (hl : Cond.methodLink own index Lib.MathLoose.min_long.x ∈ g_tbl) (hdd : 1 ≤ g_Kd K) (hw : g_wid st + 15 ≤ 64) (hd : decode cc pc = .ok (.invokestatic index, 3)) (k : g_W K u ls (g_l (if y < x then y else x) :: st) (pc + 3) out) : g_W K u ls (g_l y :: g_l x :: st) pc out := by
  obtain ⟨p, l, e, s, m, args, below, meth, c, nL, d, u0, ad0, G⟩ := K
  obtain ⟨hx, hb, hml, hown, hts, hKn, hlk, hnm, hret, htr⟩ := hK
  intro ad H locs la hR hE hL hS hlo hla
  have h6 := hR.2.2.2.2.2.1
  have h7 := hR.2.2.2.2.2.2.1
  have hd1 : 1 ≤ d := hdd
  refine va_mmin_long hx hb (by rw [hml]; exact hla.1.symm) hown (hts _ hl) (hts _ (g_m6 131 rfl rfl)) (hts _ (g_m1 26 rfl rfl)) (hts (Cond.code Lib.MathLoose.min_long.x Lib.MathLoose.min_long.code 4 (some .long)) (g_m6 132 rfl rfl)) hdd ?_ ?_ ?_ hd (k ad H locs la hR hE hL hS.tl.tl.long hlo hla)
  · rw [g_cats]
    show g_wid st + 15 ≤ 64 * d
    omega
  · show _ ≤ g_LC - g_cn u0
    omega
  · show _ ≤ g_LS - g_sn u0
    omega
