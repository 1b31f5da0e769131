def g_sC {α : Type} (u : g_St) (r : Option Nat) (i : Int32) (v : Int32) (F : g_St → Option α) : Option α := match r with
  | none => none
  | some a => if (i < 0 ∨ g_ln u a ≤ i.toNatClampNeg) ∨ ¬ (0 ≤ v ∧ v ≤ 65535) then none else F (g_setAI u a i.toNatClampNeg v)
def g_sZ {α : Type} (u : g_St) (r : Option Nat) (i : Int32) (v : Int32) (F : g_St → Option α) : Option α := match r with
  | none => none
  | some a => if (i < 0 ∨ g_ln u a ≤ i.toNatClampNeg) ∨ ¬ (v = 0 ∨ v = 1) then none else F (g_setAI u a i.toNatClampNeg v)
/-- what may be put into an array of C: an object of the kind tv, or a constant -/
def g_elem (tv tg : Nat) (C : String) : Prop := tg = tv ∧ ((∃ q ∈ g_objs, q.1 = tv ∧ q.2.1.1 = C) ∨ (tv = 13 ∧ C = "FixpointEngine$Kind"))
theorem g_elem_ok {tv tg : Nat} {C : String} {u : g_St} {v : Option Nat} (h : g_elem tv tg C) (hv : g_okT u tv v) : g_okT u tg v := by rw [h.1]; exact hv
theorem g_elem_as {tv tg : Nat} {C : String} {u : g_St} {b : Nat} {G : g_G} {s : State} {args : Array Value} {ad : Nat → Nat} {H : Heap} {comp : ClassId} (h : g_elem tv tg C) (hts : ∀ w ∈ g_tbl, w.before args s = true) (hKn : g_Kn G s) (hR : g_Rep G u ad H) (hv : g_okT u tv (some b)) (hc : s.vm.findClass C = some comp) :
    ∃ cv : Cell, H[ad b]? = some cv ∧ cv.vm.isStatics = false ∧ ∃ kv : Class, s.vm.classes[cv.cls]? = some kv ∧ ∃ kc : Class, s.vm.classes[comp]? = some kc ∧ s.vm.assignable cv.cls comp = true := by
  obtain ⟨w, hal⟩ := hv b rfl
  obtain ⟨-, ⟨q, hq, e1, e2⟩ | ⟨e1, e2⟩⟩ := h
  rotate_left
  · have ht : b % 64 = 13 := by omega
    have hlt : b / 64 < 40 := by
      have h9 := hR.2.2.2.2.2.2.2.2 13 (by decide)
      unfold g_al at hal
      rw [ht, h9] at hal
      exact hal
    obtain ⟨cell, c1, c2, c3, c4⟩ := hKn.2.2.2.2.1 (b, "FixpointEngine$Kind") (List.mem_append_left _ (List.mem_map.mpr ⟨b / 64, List.mem_range.mpr hlt, by rw [show b / 64 * 64 + 13 = b by omega]⟩))
    have hsa : ad b = g_sa G b := (hR.2.2.1 b hal).2.2 (by rw [ht]; exact hlt)
    rw [← e2, hc] at c3
    have c5 : comp = cell.cls := Option.some.inj c3
    obtain ⟨kc, hkc, -⟩ := Vm.findClass_spec hc
    refine ⟨cell, ?_, c2, kc, by rw [← c5]; exact hkc, kc, hkc, by rw [← c5]; exact va_asg _ _⟩
    rw [hsa, hR.1.2 _ (Nat.not_le.mp c4)]
    exact c1
  have ht : b % 64 = q.1 := by
    rcases w with w | w
    · have := g_objs_lt q hq
      omega
    · rw [e1]; exact w
  obtain ⟨⟨cell, q1, q2, q3, -⟩, -⟩ := hR.2.2.2.1 q hq b hal ht
  have hcl := (hKn.1 q hq).1.2
  obtain ⟨hfc, kC, hkC, -⟩ := id hcl
  rw [e2] at hfc
  have e3 : comp = G.1 q.1 := Option.some.inj (hc.symm.trans hfc)
  exact ⟨cell, q1, by rw [q3]; rfl, kC, by rw [q2]; exact hkC, kC, by rw [e3]; exact hkC, by rw [q2, e3]; exact va_assign hcl⟩
theorem r_zaload {K : g_C} {cc : ByteArray} {own nm : String} {ret : Option FieldType} {u : g_St} {ls : List (Nat × g_V)} {st : List g_V} {pc : Nat} {out : g_Out} (hK : g_OK K cc own nm ret) {α : Type} {o : α} {t tg : Nat} {r : Option Nat} {i : Int32} {F : Int32 → Option α} (ha : ((t, .boolean, 0, tg) : g_Ar) ∈ g_arrs) (h0 : g_old t = 0) (hd : decode cc pc = .ok (.baload, 1)) (h : g_aI u r i F = some o) (kk : ∀ x, F x = some o → g_W K u ls (g_i x :: st) (pc + 1) out) : g_W K u ls (g_i i :: g_r t r :: st) pc out := by
  obtain ⟨p, l, e, s, m, args, below, meth, c, nL, d, u0, ad0, G⟩ := K
  obtain ⟨hx, hb, hml, hown, hts, hKn, hlk, hnm, hret, htr⟩ := hK
  intro ad H locs la hR hE hL hS hlo hla
  cases r with
  | none => exact absurd h (by simp [g_aI])
  | some a =>
    obtain ⟨ht, hal⟩ := hS.tl.hd a rfl
    have ht : a % 64 = t := by
      rcases ht with w | w
      · have := g_arrs_lt _ ha
        dsimp only at this
        omega
      · exact w
    have hin : ¬ (i < 0 ∨ g_ln u a ≤ i.toNatClampNeg) := fun w => by simp [g_aI, w] at h
    have h : F (g_AI u a i.toNatClampNeg) = some o := by simpa [g_aI, hin] using h
    have hlt : i.toNatClampNeg < g_ln u a := Nat.not_le.mp fun w => hin (Or.inr w)
    obtain ⟨k1, k2, k3⟩ := hR.2.2.2.2.1 _ ha a hal ht (by show g_old t ≤ _; rw [h0]; exact Nat.zero_le _)
    refine W.zald (v := .int (g_AI u a i.toNatClampNeg)) hx hb k1 ((hKn.2.1 _ ha).1 _ _) (fun w => by cases w) (by rw [arrV_size]; exact hin) ?_ rfl rfl hd (kk _ h ad H locs la hR hE hL hS.tl.tl.int hlo hla)
    rw [arrV_read _ _ hlt]
    rfl
theorem r_iaload {K : g_C} {cc : ByteArray} {own nm : String} {ret : Option FieldType} {u : g_St} {ls : List (Nat × g_V)} {st : List g_V} {pc : Nat} {out : g_Out} (hK : g_OK K cc own nm ret) {α : Type} {o : α} {t tg : Nat} {r : Option Nat} {i : Int32} {F : Int32 → Option α} (ha : ((t, .int, 0, tg) : g_Ar) ∈ g_arrs) (h0 : g_old t = 0) (hd : decode cc pc = .ok (.iaload, 1)) (h : g_aI u r i F = some o) (kk : ∀ x, F x = some o → g_W K u ls (g_i x :: st) (pc + 1) out) : g_W K u ls (g_i i :: g_r t r :: st) pc out := by
  obtain ⟨p, l, e, s, m, args, below, meth, c, nL, d, u0, ad0, G⟩ := K
  obtain ⟨hx, hb, hml, hown, hts, hKn, hlk, hnm, hret, htr⟩ := hK
  intro ad H locs la hR hE hL hS hlo hla
  cases r with
  | none => exact absurd h (by simp [g_aI])
  | some a =>
    obtain ⟨ht, hal⟩ := hS.tl.hd a rfl
    have ht : a % 64 = t := by
      rcases ht with w | w
      · have := g_arrs_lt _ ha
        dsimp only at this
        omega
      · exact w
    have hin : ¬ (i < 0 ∨ g_ln u a ≤ i.toNatClampNeg) := fun w => by simp [g_aI, w] at h
    have h : F (g_AI u a i.toNatClampNeg) = some o := by simpa [g_aI, hin] using h
    have hlt : i.toNatClampNeg < g_ln u a := Nat.not_le.mp fun w => hin (Or.inr w)
    obtain ⟨k1, k2, k3⟩ := hR.2.2.2.2.1 _ ha a hal ht (by show g_old t ≤ _; rw [h0]; exact Nat.zero_le _)
    refine W.iald (v := .int (g_AI u a i.toNatClampNeg)) hx hb k1 ((hKn.2.1 _ ha).1 _ _) (fun w => by cases w) (by rw [arrV_size]; exact hin) ?_ rfl rfl hd (kk _ h ad H locs la hR hE hL hS.tl.tl.int hlo hla)
    rw [arrV_read _ _ hlt]
    rfl
theorem r_caload {K : g_C} {cc : ByteArray} {own nm : String} {ret : Option FieldType} {u : g_St} {ls : List (Nat × g_V)} {st : List g_V} {pc : Nat} {out : g_Out} (hK : g_OK K cc own nm ret) {α : Type} {o : α} {t tg : Nat} {r : Option Nat} {i : Int32} {F : Int32 → Option α} (ha : ((t, .char, 0, tg) : g_Ar) ∈ g_arrs) (h0 : g_old t = 0) (hd : decode cc pc = .ok (.caload, 1)) (h : g_aI u r i F = some o) (kk : ∀ x, F x = some o → g_W K u ls (g_i x :: st) (pc + 1) out) : g_W K u ls (g_i i :: g_r t r :: st) pc out := by
  obtain ⟨p, l, e, s, m, args, below, meth, c, nL, d, u0, ad0, G⟩ := K
  obtain ⟨hx, hb, hml, hown, hts, hKn, hlk, hnm, hret, htr⟩ := hK
  intro ad H locs la hR hE hL hS hlo hla
  cases r with
  | none => exact absurd h (by simp [g_aI])
  | some a =>
    obtain ⟨ht, hal⟩ := hS.tl.hd a rfl
    have ht : a % 64 = t := by
      rcases ht with w | w
      · have := g_arrs_lt _ ha
        dsimp only at this
        omega
      · exact w
    have hin : ¬ (i < 0 ∨ g_ln u a ≤ i.toNatClampNeg) := fun w => by simp [g_aI, w] at h
    have h : F (g_AI u a i.toNatClampNeg) = some o := by simpa [g_aI, hin] using h
    have hlt : i.toNatClampNeg < g_ln u a := Nat.not_le.mp fun w => hin (Or.inr w)
    obtain ⟨k1, k2, k3⟩ := hR.2.2.2.2.1 _ ha a hal ht (by show g_old t ≤ _; rw [h0]; exact Nat.zero_le _)
    refine W.cald (v := .int (g_AI u a i.toNatClampNeg)) hx hb k1 ((hKn.2.1 _ ha).1 _ _) (fun w => by cases w) (by rw [arrV_size]; exact hin) ?_ rfl rfl hd (kk _ h ad H locs la hR hE hL hS.tl.tl.int hlo hla)
    rw [arrV_read _ _ hlt]
    rfl
theorem r_laload {K : g_C} {cc : ByteArray} {own nm : String} {ret : Option FieldType} {u : g_St} {ls : List (Nat × g_V)} {st : List g_V} {pc : Nat} {out : g_Out} (hK : g_OK K cc own nm ret) {α : Type} {o : α} {t tg : Nat} {r : Option Nat} {i : Int32} {F : Int64 → Option α} (ha : ((t, .long, 1, tg) : g_Ar) ∈ g_arrs) (h0 : g_old t = 0) (hd : decode cc pc = .ok (.laload, 1)) (h : g_aL u r i F = some o) (kk : ∀ x, F x = some o → g_W K u ls (g_l x :: st) (pc + 1) out) : g_W K u ls (g_i i :: g_r t r :: st) pc out := by
  obtain ⟨p, l, e, s, m, args, below, meth, c, nL, d, u0, ad0, G⟩ := K
  obtain ⟨hx, hb, hml, hown, hts, hKn, hlk, hnm, hret, htr⟩ := hK
  intro ad H locs la hR hE hL hS hlo hla
  cases r with
  | none => exact absurd h (by simp [g_aL])
  | some a =>
    obtain ⟨ht, hal⟩ := hS.tl.hd a rfl
    have ht : a % 64 = t := by
      rcases ht with w | w
      · have := g_arrs_lt _ ha
        dsimp only at this
        omega
      · exact w
    have hin : ¬ (i < 0 ∨ g_ln u a ≤ i.toNatClampNeg) := fun w => by simp [g_aL, w] at h
    have h : F (g_AL u a i.toNatClampNeg) = some o := by simpa [g_aL, hin] using h
    have hlt : i.toNatClampNeg < g_ln u a := Nat.not_le.mp fun w => hin (Or.inr w)
    obtain ⟨k1, k2, k3⟩ := hR.2.2.2.2.1 _ ha a hal ht (by show g_old t ≤ _; rw [h0]; exact Nat.zero_le _)
    refine W.lald (v := .long (g_AL u a i.toNatClampNeg)) hx hb k1 ((hKn.2.1 _ ha).1 _ _) (fun w => by cases w) (by rw [arrV_size]; exact hin) ?_ rfl rfl hd (kk _ h ad H locs la hR hE hL hS.tl.tl.long hlo hla)
    rw [arrV_read _ _ hlt]
    rfl
theorem r_aaload {K : g_C} {cc : ByteArray} {own nm : String} {ret : Option FieldType} {u : g_St} {ls : List (Nat × g_V)} {st : List g_V} {pc : Nat} {out : g_Out} (hK : g_OK K cc own nm ret) {α : Type} {o : α} {t tg : Nat} {r : Option Nat} {i : Int32} {F : Option Nat → Option α} {ty : FieldType} (hrf : ty.isReference = true) (ha : ((t, ty, 2, tg) : g_Ar) ∈ g_arrs) (h0 : g_old t = 0) (hd : decode cc pc = .ok (.aaload, 1)) (h : g_aR u r i F = some o) (kk : ∀ x, F x = some o → g_W K u ls (g_r tg x :: st) (pc + 1) out) : g_W K u ls (g_i i :: g_r t r :: st) pc out := by
  obtain ⟨p, l, e, s, m, args, below, meth, c, nL, d, u0, ad0, G⟩ := K
  obtain ⟨hx, hb, hml, hown, hts, hKn, hlk, hnm, hret, htr⟩ := hK
  intro ad H locs la hR hE hL hS hlo hla
  cases r with
  | none => exact absurd h (by simp [g_aR])
  | some a =>
    obtain ⟨ht, hal⟩ := hS.tl.hd a rfl
    have ht : a % 64 = t := by
      rcases ht with w | w
      · have := g_arrs_lt _ ha
        dsimp only at this
        omega
      · exact w
    have hin : ¬ (i < 0 ∨ g_ln u a ≤ i.toNatClampNeg) := fun w => by simp [g_aR, w] at h
    have h : F (g_AR u a i.toNatClampNeg) = some o := by simpa [g_aR, hin] using h
    have hlt : i.toNatClampNeg < g_ln u a := Nat.not_le.mp fun w => hin (Or.inr w)
    obtain ⟨k1, k2, k3⟩ := hR.2.2.2.2.1 _ ha a hal ht (by show g_old t ≤ _; rw [h0]; exact Nat.zero_le _)
    refine W.aald (v := va_rf ((g_AR u a i.toNatClampNeg).map ad)) hx hb k1 ((hKn.2.1 _ ha).1 _ _) hrf (fun w => by cases w) (by rw [arrV_size]; exact hin) ?_ rfl rfl hd (kk _ h ad H locs la hR hE hL (hS.tl.tl.cons (k3 rfl _ hlt)) hlo hla)
    rw [arrV_read _ _ hlt]
    rfl
theorem r_iastore {K : g_C} {cc : ByteArray} {own nm : String} {ret : Option FieldType} {u : g_St} {ls : List (Nat × g_V)} {st : List g_V} {pc : Nat} {out : g_Out} (hK : g_OK K cc own nm ret) {α : Type} {o : α} {t tg : Nat} {r : Option Nat} {i : Int32} {v : Int32} {F : g_St → Option α} (ha : ((t, .int, 0, tg) : g_Ar) ∈ g_arrs) (h0 : g_old t = 0) (hd : decode cc pc = .ok (.iastore, 1)) (h : g_sI u r i v F = some o) (kk : ∀ u1, F u1 = some o → g_W K u1 ls st (pc + 1) out) : g_W K u ls (g_i v :: g_i i :: g_r t r :: st) pc out := by
  obtain ⟨p, l, e, s, m, args, below, meth, c, nL, d, u0, ad0, G⟩ := K
  obtain ⟨hx, hb, hml, hown, hts, hKn, hlk, hnm, hret, htr⟩ := hK
  intro ad H locs la hR hE hL hS hlo hla
  cases r with
  | none => exact absurd h (by simp [g_sI])
  | some a =>
    obtain ⟨ht, hal⟩ := hS.tl.tl.hd a rfl
    have ht : a % 64 = t := by
      rcases ht with w | w
      · have := g_arrs_lt _ ha
        dsimp only at this
        omega
      · exact w
    have hc0 : ¬ (i < 0 ∨ g_ln u a ≤ i.toNatClampNeg) := fun w => by rw [g_sI, if_pos w] at h; cases h
    have h : F (g_setAI u a i.toNatClampNeg v) = some o := by rw [g_sI, if_neg hc0] at h; exact h
    have hin : ¬ (i < 0 ∨ g_ln u a ≤ i.toNatClampNeg) := hc0
    have hbA : g_b0 G ≤ ad a := (hR.2.2.1 a hal).2.1 (by rw [ht, h0]; exact Nat.zero_le _)
    have hlt : i.toNatClampNeg < g_ln u a := Nat.not_le.mp fun w => hin (Or.inr w)
    obtain ⟨k1, k2, k3⟩ := hR.2.2.2.2.1 _ ha a hal ht (by show g_old t ≤ _; rw [h0]; exact Nat.zero_le _)
    refine W.iast hx hb k1 ((hKn.2.1 _ ha).1 _ _) (fun w => by cases w) (by rw [arrV_size]; exact hin) rfl rfl hd fun H' p1 p2 p3 => ?_
    refine kk _ h ad H' _ la (hR.put hal hbA rfl ⟨rfl, rfl⟩ rfl (fun _ _ _ => rfl) (fun _ _ _ => rfl) (fun _ _ _ => rfl) (fun b w => funext fun j => g_u2_ne (by rintro ⟨z, -⟩; exact w z)) (fun b w => rfl) (fun b w => rfl) p2 p3 (by rw [ht]; exact g_arrs_14 _ ha) (fun q' hq' ht' => absurd (ht'.symm.trans ht) (g_apart q' hq' _ ha)) (fun q' hq' ht' => ?_)) hE hL hS.tl.tl.tl (fun w hw => ?_) hla
    · obtain rfl : q' = (t, .int, 0, tg) := g_uni (fun q : g_Ar => q.1) g_arrs g_arrs_nd q' hq' _ ha (by rw [← ht', ht])
      refine ⟨?_, k2, fun hk j hj => ?_⟩
      · rw [p1, arrV_store]
        show _ = some (arrV _ (g_ln u a) _)
        congr 2
        funext j
        by_cases e5 : j = i.toNatClampNeg
        · subst e5
          show updV _ _ _ _ = .int (g_u2 _ _ _ _ _ _)
          rw [g_u2_eq]
          simp [updV]
        · show updV _ _ _ _ = .int (g_u2 _ _ _ _ _ _)
          rw [g_u2_ne (by rintro ⟨-, z⟩; exact e5 z)]
          simp [updV, e5]
          rfl
      · cases hk
    · rcases List.mem_append.mp hw with w9 | w9
      · exact hlo w w9
      · rw [List.mem_singleton.mp w9]
        exact hbA
theorem r_zastore {K : g_C} {cc : ByteArray} {own nm : String} {ret : Option FieldType} {u : g_St} {ls : List (Nat × g_V)} {st : List g_V} {pc : Nat} {out : g_Out} (hK : g_OK K cc own nm ret) {α : Type} {o : α} {t tg : Nat} {r : Option Nat} {i : Int32} {v : Int32} {F : g_St → Option α} (ha : ((t, .boolean, 0, tg) : g_Ar) ∈ g_arrs) (h0 : g_old t = 0) (hd : decode cc pc = .ok (.bastore, 1)) (h : g_sZ u r i v F = some o) (kk : ∀ u1, F u1 = some o → g_W K u1 ls st (pc + 1) out) : g_W K u ls (g_i v :: g_i i :: g_r t r :: st) pc out := by
  obtain ⟨p, l, e, s, m, args, below, meth, c, nL, d, u0, ad0, G⟩ := K
  obtain ⟨hx, hb, hml, hown, hts, hKn, hlk, hnm, hret, htr⟩ := hK
  intro ad H locs la hR hE hL hS hlo hla
  cases r with
  | none => exact absurd h (by simp [g_sZ])
  | some a =>
    obtain ⟨ht, hal⟩ := hS.tl.tl.hd a rfl
    have ht : a % 64 = t := by
      rcases ht with w | w
      · have := g_arrs_lt _ ha
        dsimp only at this
        omega
      · exact w
    have hin0 : ¬ ((i < 0 ∨ g_ln u a ≤ i.toNatClampNeg) ∨ ¬ (v = 0 ∨ v = 1)) := fun w => by rw [g_sZ, if_pos w] at h; cases h
    have h : F (g_setAI u a i.toNatClampNeg v) = some o := by rw [g_sZ, if_neg hin0] at h; exact h
    have hc0 : ¬ (i < 0 ∨ g_ln u a ≤ i.toNatClampNeg) := fun w => hin0 (Or.inl w)
    have hch : narrow .boolean (.int v) = .int v := by
      have hvv : v = 0 ∨ v = 1 := by
        by_cases w : v = 0 ∨ v = 1
        · exact w
        · exact absurd (Or.inr w) hin0
      rcases hvv with rfl | rfl <;> rfl
    have hin : ¬ (i < 0 ∨ g_ln u a ≤ i.toNatClampNeg) := hc0
    have hbA : g_b0 G ≤ ad a := (hR.2.2.1 a hal).2.1 (by rw [ht, h0]; exact Nat.zero_le _)
    have hlt : i.toNatClampNeg < g_ln u a := Nat.not_le.mp fun w => hin (Or.inr w)
    obtain ⟨k1, k2, k3⟩ := hR.2.2.2.2.1 _ ha a hal ht (by show g_old t ≤ _; rw [h0]; exact Nat.zero_le _)
    refine W.zast hx hb k1 ((hKn.2.1 _ ha).1 _ _) (fun w => by cases w) (by rw [arrV_size]; exact hin) rfl rfl hd fun H' p1 p2 p3 => ?_
    rw [hch] at p1
    refine kk _ h ad H' _ la (hR.put hal hbA rfl ⟨rfl, rfl⟩ rfl (fun _ _ _ => rfl) (fun _ _ _ => rfl) (fun _ _ _ => rfl) (fun b w => funext fun j => g_u2_ne (by rintro ⟨z, -⟩; exact w z)) (fun b w => rfl) (fun b w => rfl) p2 p3 (by rw [ht]; exact g_arrs_14 _ ha) (fun q' hq' ht' => absurd (ht'.symm.trans ht) (g_apart q' hq' _ ha)) (fun q' hq' ht' => ?_)) hE hL hS.tl.tl.tl (fun w hw => ?_) hla
    · obtain rfl : q' = (t, .boolean, 0, tg) := g_uni (fun q : g_Ar => q.1) g_arrs g_arrs_nd q' hq' _ ha (by rw [← ht', ht])
      refine ⟨?_, k2, fun hk j hj => ?_⟩
      · rw [p1, arrV_store]
        show _ = some (arrV _ (g_ln u a) _)
        congr 2
        funext j
        by_cases e5 : j = i.toNatClampNeg
        · subst e5
          show updV _ _ _ _ = .int (g_u2 _ _ _ _ _ _)
          rw [g_u2_eq]
          simp [updV]
        · show updV _ _ _ _ = .int (g_u2 _ _ _ _ _ _)
          rw [g_u2_ne (by rintro ⟨-, z⟩; exact e5 z)]
          simp [updV, e5]
          rfl
      · cases hk
    · rcases List.mem_append.mp hw with w9 | w9
      · exact hlo w w9
      · rw [List.mem_singleton.mp w9]
        exact hbA
theorem r_castore {K : g_C} {cc : ByteArray} {own nm : String} {ret : Option FieldType} {u : g_St} {ls : List (Nat × g_V)} {st : List g_V} {pc : Nat} {out : g_Out} (hK : g_OK K cc own nm ret) {α : Type} {o : α} {t tg : Nat} {r : Option Nat} {i : Int32} {v : Int32} {F : g_St → Option α} (ha : ((t, .char, 0, tg) : g_Ar) ∈ g_arrs) (h0 : g_old t = 0) (hd : decode cc pc = .ok (.castore, 1)) (h : g_sC u r i v F = some o) (kk : ∀ u1, F u1 = some o → g_W K u1 ls st (pc + 1) out) : g_W K u ls (g_i v :: g_i i :: g_r t r :: st) pc out := by
  obtain ⟨p, l, e, s, m, args, below, meth, c, nL, d, u0, ad0, G⟩ := K
  obtain ⟨hx, hb, hml, hown, hts, hKn, hlk, hnm, hret, htr⟩ := hK
  intro ad H locs la hR hE hL hS hlo hla
  cases r with
  | none => exact absurd h (by simp [g_sC])
  | some a =>
    obtain ⟨ht, hal⟩ := hS.tl.tl.hd a rfl
    have ht : a % 64 = t := by
      rcases ht with w | w
      · have := g_arrs_lt _ ha
        dsimp only at this
        omega
      · exact w
    have hin0 : ¬ ((i < 0 ∨ g_ln u a ≤ i.toNatClampNeg) ∨ ¬ (0 ≤ v ∧ v ≤ 65535)) := fun w => by rw [g_sC, if_pos w] at h; cases h
    have h : F (g_setAI u a i.toNatClampNeg v) = some o := by rw [g_sC, if_neg hin0] at h; exact h
    have hc0 : ¬ (i < 0 ∨ g_ln u a ≤ i.toNatClampNeg) := fun w => hin0 (Or.inl w)
    have hch : narrow .char (.int v) = .int v := by
      have hvv : 0 ≤ v ∧ v ≤ 65535 := by
        by_cases w : 0 ≤ v ∧ v ≤ 65535
        · exact w
        · exact absurd (Or.inr w) hin0
      obtain ⟨j, hj, e⟩ := nI_of2 (x := v) (M := 65535) (n := 65535) (by decide) (Int32.not_lt.mpr hvv.1) hvv.2
      rw [e]
      exact (pk_charN (by omega)).1
    have hin : ¬ (i < 0 ∨ g_ln u a ≤ i.toNatClampNeg) := hc0
    have hbA : g_b0 G ≤ ad a := (hR.2.2.1 a hal).2.1 (by rw [ht, h0]; exact Nat.zero_le _)
    have hlt : i.toNatClampNeg < g_ln u a := Nat.not_le.mp fun w => hin (Or.inr w)
    obtain ⟨k1, k2, k3⟩ := hR.2.2.2.2.1 _ ha a hal ht (by show g_old t ≤ _; rw [h0]; exact Nat.zero_le _)
    refine W.cast hx hb k1 ((hKn.2.1 _ ha).1 _ _) (fun w => by cases w) (by rw [arrV_size]; exact hin) rfl rfl hd fun H' p1 p2 p3 => ?_
    rw [hch] at p1
    refine kk _ h ad H' _ la (hR.put hal hbA rfl ⟨rfl, rfl⟩ rfl (fun _ _ _ => rfl) (fun _ _ _ => rfl) (fun _ _ _ => rfl) (fun b w => funext fun j => g_u2_ne (by rintro ⟨z, -⟩; exact w z)) (fun b w => rfl) (fun b w => rfl) p2 p3 (by rw [ht]; exact g_arrs_14 _ ha) (fun q' hq' ht' => absurd (ht'.symm.trans ht) (g_apart q' hq' _ ha)) (fun q' hq' ht' => ?_)) hE hL hS.tl.tl.tl (fun w hw => ?_) hla
    · obtain rfl : q' = (t, .char, 0, tg) := g_uni (fun q : g_Ar => q.1) g_arrs g_arrs_nd q' hq' _ ha (by rw [← ht', ht])
      refine ⟨?_, k2, fun hk j hj => ?_⟩
      · rw [p1, arrV_store]
        show _ = some (arrV _ (g_ln u a) _)
        congr 2
        funext j
        by_cases e5 : j = i.toNatClampNeg
        · subst e5
          show updV _ _ _ _ = .int (g_u2 _ _ _ _ _ _)
          rw [g_u2_eq]
          simp [updV]
        · show updV _ _ _ _ = .int (g_u2 _ _ _ _ _ _)
          rw [g_u2_ne (by rintro ⟨-, z⟩; exact e5 z)]
          simp [updV, e5]
          rfl
      · cases hk
    · rcases List.mem_append.mp hw with w9 | w9
      · exact hlo w w9
      · rw [List.mem_singleton.mp w9]
        exact hbA
theorem r_lastore {K : g_C} {cc : ByteArray} {own nm : String} {ret : Option FieldType} {u : g_St} {ls : List (Nat × g_V)} {st : List g_V} {pc : Nat} {out : g_Out} (hK : g_OK K cc own nm ret) {α : Type} {o : α} {t tg : Nat} {r : Option Nat} {i : Int32} {v : Int64} {F : g_St → Option α} (ha : ((t, .long, 1, tg) : g_Ar) ∈ g_arrs) (h0 : g_old t = 0) (hd : decode cc pc = .ok (.lastore, 1)) (h : g_sL u r i v F = some o) (kk : ∀ u1, F u1 = some o → g_W K u1 ls st (pc + 1) out) : g_W K u ls (g_l v :: g_i i :: g_r t r :: st) pc out := by
  obtain ⟨p, l, e, s, m, args, below, meth, c, nL, d, u0, ad0, G⟩ := K
  obtain ⟨hx, hb, hml, hown, hts, hKn, hlk, hnm, hret, htr⟩ := hK
  intro ad H locs la hR hE hL hS hlo hla
  cases r with
  | none => exact absurd h (by simp [g_sL])
  | some a =>
    obtain ⟨ht, hal⟩ := hS.tl.tl.hd a rfl
    have ht : a % 64 = t := by
      rcases ht with w | w
      · have := g_arrs_lt _ ha
        dsimp only at this
        omega
      · exact w
    have hc0 : ¬ (i < 0 ∨ g_ln u a ≤ i.toNatClampNeg) := fun w => by rw [g_sL, if_pos w] at h; cases h
    have h : F (g_setAL u a i.toNatClampNeg v) = some o := by rw [g_sL, if_neg hc0] at h; exact h
    have hin : ¬ (i < 0 ∨ g_ln u a ≤ i.toNatClampNeg) := hc0
    have hbA : g_b0 G ≤ ad a := (hR.2.2.1 a hal).2.1 (by rw [ht, h0]; exact Nat.zero_le _)
    have hlt : i.toNatClampNeg < g_ln u a := Nat.not_le.mp fun w => hin (Or.inr w)
    obtain ⟨k1, k2, k3⟩ := hR.2.2.2.2.1 _ ha a hal ht (by show g_old t ≤ _; rw [h0]; exact Nat.zero_le _)
    refine W.last hx hb k1 ((hKn.2.1 _ ha).1 _ _) (fun w => by cases w) (by rw [arrV_size]; exact hin) rfl rfl hd fun H' p1 p2 p3 => ?_
    refine kk _ h ad H' _ la (hR.put hal hbA rfl ⟨rfl, rfl⟩ rfl (fun _ _ _ => rfl) (fun _ _ _ => rfl) (fun _ _ _ => rfl) (fun b w => rfl) (fun b w => funext fun j => g_u2_ne (by rintro ⟨z, -⟩; exact w z)) (fun b w => rfl) p2 p3 (by rw [ht]; exact g_arrs_14 _ ha) (fun q' hq' ht' => absurd (ht'.symm.trans ht) (g_apart q' hq' _ ha)) (fun q' hq' ht' => ?_)) hE hL hS.tl.tl.tl (fun w hw => ?_) hla
    · obtain rfl : q' = (t, .long, 1, tg) := g_uni (fun q : g_Ar => q.1) g_arrs g_arrs_nd q' hq' _ ha (by rw [← ht', ht])
      refine ⟨?_, k2, fun hk j hj => ?_⟩
      · rw [p1, arrV_store]
        show _ = some (arrV _ (g_ln u a) _)
        congr 2
        funext j
        by_cases e5 : j = i.toNatClampNeg
        · subst e5
          show updV _ _ _ _ = .long (g_u2 _ _ _ _ _ _)
          rw [g_u2_eq]
          simp [updV]
        · show updV _ _ _ _ = .long (g_u2 _ _ _ _ _ _)
          rw [g_u2_ne (by rintro ⟨-, z⟩; exact e5 z)]
          simp [updV, e5]
          rfl
      · cases hk
    · rcases List.mem_append.mp hw with w9 | w9
      · exact hlo w w9
      · rw [List.mem_singleton.mp w9]
        exact hbA
theorem r_aastore {K : g_C} {cc : ByteArray} {own nm : String} {ret : Option FieldType} {u : g_St} {ls : List (Nat × g_V)} {st : List g_V} {pc : Nat} {out : g_Out} (hK : g_OK K cc own nm ret) {α : Type} {o : α} {t tg : Nat} {r : Option Nat} {i : Int32} {v : Option Nat} {F : g_St → Option α} {tv : Nat} {C : String} (htv : g_elem tv tg C) (ha : ((t, (.object C), 2, tg) : g_Ar) ∈ g_arrs) (h0 : g_old t = 0) (hd : decode cc pc = .ok (.aastore, 1)) (h : g_sR u r i v F = some o) (kk : ∀ u1, F u1 = some o → g_W K u1 ls st (pc + 1) out) : g_W K u ls (g_r tv v :: g_i i :: g_r t r :: st) pc out := by
  obtain ⟨p, l, e, s, m, args, below, meth, c, nL, d, u0, ad0, G⟩ := K
  obtain ⟨hx, hb, hml, hown, hts, hKn, hlk, hnm, hret, htr⟩ := hK
  intro ad H locs la hR hE hL hS hlo hla
  cases r with
  | none => exact absurd h (by simp [g_sR])
  | some a =>
    obtain ⟨ht, hal⟩ := hS.tl.tl.hd a rfl
    have ht : a % 64 = t := by
      rcases ht with w | w
      · have := g_arrs_lt _ ha
        dsimp only at this
        omega
      · exact w
    have hc0 : ¬ (i < 0 ∨ g_ln u a ≤ i.toNatClampNeg) := fun w => by rw [g_sR, if_pos w] at h; cases h
    have h : F (g_setAR u a i.toNatClampNeg v) = some o := by rw [g_sR, if_neg hc0] at h; exact h
    have hin : ¬ (i < 0 ∨ g_ln u a ≤ i.toNatClampNeg) := hc0
    have hbA : g_b0 G ≤ ad a := (hR.2.2.1 a hal).2.1 (by rw [ht, h0]; exact Nat.zero_le _)
    have hlt : i.toNatClampNeg < g_ln u a := Nat.not_le.mp fun w => hin (Or.inr w)
    obtain ⟨k1, k2, k3⟩ := hR.2.2.2.2.1 _ ha a hal ht (by show g_old t ≤ _; rw [h0]; exact Nat.zero_le _)
    have fin : ∀ H' : Heap, H'[ad a]? = some ((arrV (G.2.2.1 t) (g_ln u a) (g_av u ad 2 a)).setSlot i.toNatClampNeg (va_rf (v.map ad))) → H'.size = H.size → (∀ q, q ≠ ad a → H'[q]? = H[q]?) → W p l e (g_room d u0) s m args below meth c H' (locs ++ [⟨ad a, i.toNatClampNeg⟩]) (g_cn u - g_cn u0) (g_sn u - g_sn u0) (g_Q G u0 ad0 s below out) (F0 m (pc + 1) la (st.map (g_v ad))) := by
      intro H' p1 p2 p3
      refine kk _ h ad H' _ la (hR.put hal hbA rfl ⟨rfl, rfl⟩ rfl (fun _ _ _ => rfl) (fun _ _ _ => rfl) (fun _ _ _ => rfl) (fun b w => rfl) (fun b w => rfl) (fun b w => funext fun j => g_u2_ne (by rintro ⟨z, -⟩; exact w z)) p2 p3 (by rw [ht]; exact g_arrs_14 _ ha) (fun q' hq' ht' => absurd (ht'.symm.trans ht) (g_apart q' hq' _ ha)) (fun q' hq' ht' => ?_)) hE hL hS.tl.tl.tl (fun w hw => ?_) hla
      · obtain rfl : q' = (t, (.object C), 2, tg) := g_uni (fun q : g_Ar => q.1) g_arrs g_arrs_nd q' hq' _ ha (by rw [← ht', ht])
        refine ⟨?_, k2, fun hk j hj => ?_⟩
        · rw [p1, arrV_store]
          show _ = some (arrV _ (g_ln u a) _)
          congr 2
          funext j
          by_cases e5 : j = i.toNatClampNeg
          · subst e5
            show updV _ _ _ _ = va_rf (Option.map ad (g_u2 _ _ _ _ _ _))
            rw [g_u2_eq]
            simp [updV]
          · show updV _ _ _ _ = va_rf (Option.map ad (g_u2 _ _ _ _ _ _))
            rw [g_u2_ne (by rintro ⟨-, z⟩; exact e5 z)]
            simp [updV, e5]
            rfl
        · show g_okT _ _ (g_u2 _ _ _ _ _ _)
          by_cases e5 : j = i.toNatClampNeg
          · subst e5
            rw [g_u2_eq]
            exact g_elem_ok htv hS.hd
          · rw [g_u2_ne (by rintro ⟨-, z⟩; exact e5 z)]
            exact k3 rfl j hj
      · rcases List.mem_append.mp hw with w9 | w9
        · exact hlo w w9
        · rw [List.mem_singleton.mp w9]
          exact hbA
    cases v with
    | none => exact va_WaastN (C := C) hx hb k1 ((hKn.2.1 _ ha).1 _ _) (fun w => by cases w) (by rw [arrV_size]; exact hin) rfl rfl hd fin
    | some b =>
      obtain ⟨kA, comp, y1, y2, y3, -⟩ := (hKn.2.1 _ ha).2
      obtain ⟨cv, x1, x2, kv, x3, kc, x4, x5⟩ := g_elem_as htv hts hKn hR hS.hd y3
      exact W.aast hx hb k1 (fun q w => by cases w) (fun w => by cases w) y1 y2 rfl x4 ⟨fun w => hin (Or.inl w), by rw [arrV_size]; exact hlt⟩ x1 (fun q w => by rw [w] at x2; cases x2) x3 x5 rfl rfl hd fin
theorem r_alen {K : g_C} {cc : ByteArray} {own nm : String} {ret : Option FieldType} {u : g_St} {ls : List (Nat × g_V)} {st : List g_V} {pc : Nat} {out : g_Out} (hK : g_OK K cc own nm ret) {α : Type} {o : α} {t kd tg : Nat} {ty : FieldType} {r : Option Nat} {F : Int32 → Option α} (ha : ((t, ty, kd, tg) : g_Ar) ∈ g_arrs) (h0 : g_old t = 0) (hd : decode cc pc = .ok (.arraylength, 1)) (h : g_len u r F = some o) (kk : ∀ x, F x = some o → g_W K u ls (g_i x :: st) (pc + 1) out) : g_W K u ls (g_r t r :: st) pc out := by
  obtain ⟨p, l, e, s, m, args, below, meth, c, nL, d, u0, ad0, G⟩ := K
  obtain ⟨hx, hb, hml, hown, hts, hKn, hlk, hnm, hret, htr⟩ := hK
  intro ad H locs la hR hE hL hS hlo hla
  cases r with
  | none => exact absurd h (by simp [g_len])
  | some a =>
    obtain ⟨ht, hal⟩ := hS.hd a rfl
    have ht : a % 64 = t := by
      rcases ht with w | w
      · have := g_arrs_lt _ ha
        dsimp only at this
        omega
      · exact w
    obtain ⟨k1, k2, k3⟩ := hR.2.2.2.2.1 _ ha a hal ht (by show g_old t ≤ _; rw [h0]; exact Nat.zero_le _)
    exact W.alen (n := Int32.ofNat (g_ln u a)) hx hb k1 ((hKn.2.1 _ ha).1 _ _) (by rw [arrV_size]) rfl rfl hd (kk _ h ad H locs la hR hE hL hS.tl.int hlo hla)
/-! WHAT IS THERE FROM THE START: statics -/
/-- a static's value, an object that is there from the start -/
theorem r_gsR {K : g_C} {cc : ByteArray} {own nm : String} {ret : Option FieldType} {u : g_St} {ls : List (Nat × g_V)} {st : List g_V} {pc : Nat} {out : g_Out} (hK : g_OK K cc own nm ret) {index a t : Nat} {C n d : String} (hq : ((C, n, d, .inr a) : String × String × String × (Int32 ⊕ Nat)) ∈ g_stZ) (hal : a / 64 < g_old (a % 64)) (ht : a % 64 = t) (hl : Cond.fieldLink own index C n d ∈ g_tbl) (hd : decode cc pc = .ok (.getstatic index, 3)) (k : g_W K u ls (g_r t (some a) :: st) (pc + 3) out) : g_W K u ls st pc out := by
  obtain ⟨p, l, e, s, m, args, below, meth, c, nL, d0, u0, ad0, G⟩ := K
  obtain ⟨hx, hb, hml, hown, hts, hKn, hlk, hnm, hret, htr⟩ := hK
  intro ad H locs la hR hE hL hS hlo hla
  obtain ⟨cf, kf, fi, f, a1, cell, z1, z2, z3, z4, z5, z6, z7, z8⟩ := hKn.2.2.2.1 _ hq
  have hal2 : g_al u a := Nat.lt_of_lt_of_le hal (hR.2.2.2.2.2.2.2.1 _)
  have hsa : ad a = g_sa G a := (hR.2.2.1 a hal2).2.2 hal
  have k9 := k ad H locs la hR hE hL (hS.cons (fun b hb => by cases hb; exact ⟨Or.inr ht, hal2⟩)) hlo hla
  refine W.gets hx hb hown (hts _ hl) z1 z2 z3 z4 (cell₁ := cell) (v := .ref (g_sa G a)) ?_ (fun w => by rw [w] at z6; cases z6) z7 rfl hd ?_
  · rw [hR.1.2 a1 (Nat.not_le.mp z8)]; exact z5
  · have e9 : g_v ad (g_r t (some a)) = .ref (g_sa G a) := by rw [← hsa]; rfl
    rw [← e9]
    exact k9
theorem r_gsRN {K : g_C} {cc : ByteArray} {own nm : String} {ret : Option FieldType} {u : g_St} {ls : List (Nat × g_V)} {st : List g_V} {pc : Nat} {out : g_Out} (hK : g_OK K cc own nm ret) {index a t : Nat} {C n d host : String} (hq : ((C, n, d, .inr a) : String × String × String × (Int32 ⊕ Nat)) ∈ g_stZ) (hal : a / 64 < g_old (a % 64)) (ht : a % 64 = t) (hl : Cond.fieldLinkNest own index C n d host ∈ g_tbl) (hd : decode cc pc = .ok (.getstatic index, 3)) (k : g_W K u ls (g_r t (some a) :: st) (pc + 3) out) : g_W K u ls st pc out := by
  obtain ⟨p, l, e, s, m, args, below, meth, c, nL, d0, u0, ad0, G⟩ := K
  obtain ⟨hx, hb, hml, hown, hts, hKn, hlk, hnm, hret, htr⟩ := hK
  intro ad H locs la hR hE hL hS hlo hla
  obtain ⟨cf, kf, fi, f, a1, cell, z1, z2, z3, z4, z5, z6, z7, z8⟩ := hKn.2.2.2.1 _ hq
  have hal2 : g_al u a := Nat.lt_of_lt_of_le hal (hR.2.2.2.2.2.2.2.1 _)
  have hsa : ad a = g_sa G a := (hR.2.2.1 a hal2).2.2 hal
  have k9 := k ad H locs la hR hE hL (hS.cons (fun b hb => by cases hb; exact ⟨Or.inr ht, hal2⟩)) hlo hla
  refine va_WgetsN hx hb hown (hts _ hl) z1 z2 z3 z4 (cell₁ := cell) (v := .ref (g_sa G a)) ?_ (fun w => by rw [w] at z6; cases z6) z7 rfl hd ?_
  · rw [hR.1.2 a1 (Nat.not_le.mp z8)]; exact z5
  · have e9 : g_v ad (g_r t (some a)) = .ref (g_sa G a) := by rw [← hsa]; rfl
    rw [← e9]
    exact k9
/-- a static's value, an int -/
theorem r_gsI {K : g_C} {cc : ByteArray} {own nm : String} {ret : Option FieldType} {u : g_St} {ls : List (Nat × g_V)} {st : List g_V} {pc : Nat} {out : g_Out} (hK : g_OK K cc own nm ret) {index : Nat} {x : Int32} {C n d : String} (hq : ((C, n, d, .inl x) : String × String × String × (Int32 ⊕ Nat)) ∈ g_stZ) (hl : Cond.fieldLink own index C n d ∈ g_tbl) (hd : decode cc pc = .ok (.getstatic index, 3)) (k : g_W K u ls (g_i x :: st) (pc + 3) out) : g_W K u ls st pc out := by
  obtain ⟨p, l, e, s, m, args, below, meth, c, nL, d0, u0, ad0, G⟩ := K
  obtain ⟨hx, hb, hml, hown, hts, hKn, hlk, hnm, hret, htr⟩ := hK
  intro ad H locs la hR hE hL hS hlo hla
  obtain ⟨cf, kf, fi, f, a1, cell, z1, z2, z3, z4, z5, z6, z7, z8⟩ := hKn.2.2.2.1 _ hq
  refine W.gets hx hb hown (hts _ hl) z1 z2 z3 z4 (cell₁ := cell) (v := .int x) ?_ (fun w => by rw [w] at z6; cases z6) z7 rfl hd (k ad H locs la hR hE hL hS.int hlo hla)
  rw [hR.1.2 a1 (Nat.not_le.mp z8)]; exact z5
theorem st_kind (i : Nat) (h : i < 40) : (("FixpointEngine$Kind", g_kn.getD i "", "LFixpointEngine$Kind;", .inr (i * 64 + 13)) : String × String × String × (Int32 ⊕ Nat)) ∈ g_stZ := List.mem_append_left _ (List.mem_map.mpr ⟨i, List.mem_range.mpr h, rfl⟩)
theorem st_other (j : Nat) {q : String × String × String × (Int32 ⊕ Nat)} (h : ([("FixpointEngine$1", "$SwitchMap$FixpointEngine$Kind", "[I", .inr 40), ("FixpointEngine", "KINDS", "[LFixpointEngine$Kind;", .inr 41), ("java/lang/String", "COMPACT_STRINGS", "Z", .inl 1), ("java/util/ArrayList", "DEFAULTCAPACITY_EMPTY_ELEMENTDATA", "[Ljava/lang/Object;", .inr 30)] : List (String × String × String × (Int32 ⊕ Nat)))[j]? = some q) : q ∈ g_stZ := List.mem_append_right _ (List.mem_of_getElem? h)
