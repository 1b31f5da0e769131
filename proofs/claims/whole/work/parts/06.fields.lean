/-! FIELDS, ARRAYS, NEW OBJECTS -/
theorem g_uni {α : Type} (f : α → Nat) : ∀ l : List α, (l.map f).Nodup → ∀ x ∈ l, ∀ y ∈ l, f x = f y → x = y := by
  intro l
  induction l with
  | nil => intro _ x hx; cases hx
  | cons z l ih =>
    intro h x hx y hy e
    rw [List.map_cons, List.nodup_cons] at h
    rcases List.mem_cons.mp hx with e1 | hx1
    · rcases List.mem_cons.mp hy with e2 | hy1
      · rw [e1, e2]
      · exact absurd (List.mem_map.mpr ⟨y, hy1, by rw [← e, e1]⟩) h.1
    · rcases List.mem_cons.mp hy with e2 | hy1
      · exact absurd (List.mem_map.mpr ⟨x, hx1, by rw [e, e2]⟩) h.1
      · exact ih h.2 x hx1 y hy1 e
/-- a field: its key, its object's kind, its own kind, where it leads -/
def g_Fd (k t kd tg : Nat) (C n d : String) (fin : Bool) : Prop := ∃ (q : g_O) (j : Nat), q ∈ g_objs ∧ q.1 = t ∧ k = j * 64 + t ∧ j < q.2.1.2.2 ∧ q.2.2[j]? = some (kd, tg) ∧ q.2.1.2.1 j = (C, n, d, fin)
/-- one object is another, its cell too: all else stays -/
theorem g_Rep.put {G : g_G} {u u' : g_St} {ad : Nat → Nat} {H H' : Heap} (hR : g_Rep G u ad H) {a : Nat} (ha : g_al u a) (hb : g_b0 G ≤ ad a) (hc : g_cnt u' = g_cnt u) (hcs : g_cn u' = g_cn u ∧ g_sn u' = g_sn u) (hln : g_ln u' = g_ln u)
    (hI : ∀ k b, b ≠ a → g_I u' k b = g_I u k b) (hL : ∀ k b, b ≠ a → g_L u' k b = g_L u k b) (hRf : ∀ k b, b ≠ a → g_R u' k b = g_R u k b)
    (hAI : ∀ b, b ≠ a → g_AI u' b = g_AI u b) (hAL : ∀ b, b ≠ a → g_AL u' b = g_AL u b) (hAR : ∀ b, b ≠ a → g_AR u' b = g_AR u b)
    (z : H'.size = H.size) (oq : ∀ q, q ≠ ad a → H'[q]? = H[q]?)
    (h14 : a % 64 ≠ 14 ∧ a % 64 ≠ 40 ∧ a % 64 ≠ 41) (hO : ∀ q ∈ g_objs, a % 64 = q.1 → g_RO G u' ad H' q a) (hA : ∀ q ∈ g_arrs, a % 64 = q.1 → g_RA G u' ad H' q a) : g_Rep G u' ad H' := by
  obtain ⟨h1, h2, h3, h4, h5, h6⟩ := hR
  have al : ∀ x, g_al u' x ↔ g_al u x := fun x => by unfold g_al; rw [hc]
  have ok : ∀ t r, g_okT u t r → g_okT u' t r := fun t r h => h.mono fun x hx => (al x).mpr hx
  refine ⟨⟨by rw [z]; exact h1.1, fun q hq => ?_⟩, fun x y hx hy x4 y4 e => h2 x y ((al x).mp hx) ((al y).mp hy) x4 y4 e, fun x hx => by rw [z]; exact h3 x ((al x).mp hx), fun q hq x hx ht => ?_, fun q hq x hx ht hol => ?_, by rw [hcs.1, hcs.2, hc]; exact h6⟩
  · rw [oq q (by omega)]; exact h1.2 q hq
  · by_cases e : x = a
    · subst e; exact hO q hq ht
    · have hne : ad x ≠ ad a := fun w => e (h2 x a ((al x).mp hx) ha (by rw [ht]; exact g_objs_14 q hq) h14 w)
      obtain ⟨k1, k2⟩ := h4 q hq x ((al x).mp hx) ht
      refine ⟨(k1.kept (oq _ hne)).to fun j hj => ?_, fun j kt hj hk => ?_⟩
      · unfold g_fv
        rw [hI _ _ e, hL _ _ e, hRf _ _ e]
      · rw [hRf _ _ e]
        exact ok _ _ (k2 j kt hj hk)
  · by_cases e : x = a
    · subst e; exact hA q hq ht
    · have hne : ad x ≠ ad a := fun w => e (h2 x a ((al x).mp hx) ha (by rw [ht]; exact g_arrs_14 q hq) h14 w)
      obtain ⟨k1, k2, k3⟩ := h5 q hq x ((al x).mp hx) ht hol
      refine ⟨?_, by rw [hln]; exact k2, fun hk i hi => ?_⟩
      · rw [oq _ hne, k1, hln]
        congr 2
        funext i
        unfold g_av
        rw [hAI _ e, hAL _ e, hAR _ e]
      · rw [hln] at hi
        rw [hAR _ e]
        exact ok _ _ (k3 hk i hi)
theorem g_al_setI {u : g_St} {k a : Nat} {v : Int32} {x : Nat} : g_al (g_setI u k a v) x ↔ g_al u x := Iff.rfl
theorem g_u2_ne {α : Type} {f : Nat → Nat → α} {k a k' a' : Nat} {v : α} (h : ¬ (k' = k ∧ a' = a)) : g_u2 f k a v k' a' = f k' a' := if_neg h
theorem g_u2_eq {α : Type} {f : Nat → Nat → α} {k a : Nat} {v : α} : g_u2 f k a v k a = v := if_pos ⟨rfl, rfl⟩
/-- reading a field -/
theorem g_field {G : g_G} {u : g_St} {ad : Nat → Nat} {H : Heap} (hR : g_Rep G u ad H) {k t kd tg a : Nat} {C n d : String} {fin : Bool} (hf : g_Fd k t kd tg C n d fin) (hk : kd ≤ 2) (ha : g_al u a) (ht : a % 64 = t) :
    ∃ (q : g_O) (j : Nat), q ∈ g_objs ∧ q.1 = t ∧ k = j * 64 + t ∧ j < q.2.1.2.2 ∧ q.2.2[j]? = some (kd, tg) ∧ q.2.1.2.1 j = (C, n, d, fin) ∧ t_OB (ad a) (G.1 t) q.2.1.2.2 (G.2.1 t) H (g_fv u ad t q.2.2 a) ∧
      (g_fv u ad t q.2.2 a j = if kd = 0 then .int (g_I u k a) else if kd = 1 then .long (g_L u k a) else va_rf ((g_R u k a).map ad)) ∧ (kd = 2 → g_okT u tg (g_R u k a)) := by
  obtain ⟨q, j, hq, e1, e2, hj, hks, hT⟩ := hf
  subst e1
  obtain ⟨k1, k2⟩ := hR.2.2.2.1 q hq a ha ht
  refine ⟨q, j, hq, rfl, e2, hj, hks, hT, k1, ?_, fun h2 => by rw [e2]; exact k2 j _ hks h2⟩
  unfold g_fv
  rw [List.getD_eq_getElem?_getD, hks, e2]
  rcases (show kd = 0 ∨ kd = 1 ∨ kd = 2 by omega) with rfl | rfl | rfl <;> rfl
def g_pZ {α : Type} (u : g_St) (k : Nat) (r : Option Nat) (v : Int32) (F : g_St → Option α) : Option α := match r with
  | none => none
  | some a => if v = 0 ∨ v = 1 then F (g_setI u k a v) else none
theorem g_nar {ty : FieldType} (h : ty.isReference = true) (r : Option Nat) : narrow ty (va_rf r) = va_rf r := by
  cases r <;> cases ty <;> first | rfl | cases h
theorem g_fit {ty : FieldType} (h : ty.isReference = true) (r : Option Nat) : fits ty (va_rf r) = true := by
  cases r <;> cases ty <;> first | rfl | cases h
theorem r_gI {K : g_C} {cc : ByteArray} {own nm : String} {ret : Option FieldType} {u : g_St} {ls : List (Nat × g_V)} {st : List g_V} {pc : Nat} {out : g_Out} (hK : g_OK K cc own nm ret) {α : Type} {o : α} {k t tg index : Nat} {C n dd : String} {fin : Bool} {r : Option Nat} {F : Int32 → Option α} (hf : g_Fd k t 0 tg C n dd fin) (hl : Cond.fieldLink own index C n dd ∈ g_tbl) (hd : decode cc pc = .ok (.getfield index, 3)) (h : g_gI u k r F = some o) (kk : ∀ x, F x = some o → g_W K u ls (g_i x :: st) (pc + 3) out) : g_W K u ls (g_r t r :: st) pc out := by
  obtain ⟨p, l, e, s, m, args, below, meth, c, nL, d, u0, ad0, G⟩ := K
  obtain ⟨hx, hb, hml, hown, hts, hKn, hlk, hnm, hret, htr⟩ := hK
  intro ad H locs la hR hE hL hS hlo hla
  cases r with
  | none => exact absurd h (by simp [g_gI])
  | some a =>
    obtain ⟨ht, ha⟩ := hS.hd a rfl
    have ht : a % 64 = t := by
      rcases ht with w | w
      · obtain ⟨q, j, hq, e1, -⟩ := hf
        have := g_objs_lt q hq
        omega
      · exact w
    obtain ⟨q, j, hq, e1, e2, hj, hks, hT, ⟨cell, q1, q2, q3, q4⟩, hval, hok⟩ := g_field hR hf (by decide) ha ht
    obtain ⟨hS', hfc, kC, hkC, hkind⟩ := (hKn.1 q hq).1
    obtain ⟨cf, kf, fi, f, hi, hsl⟩ := hS' j hj
    have hst := (u_facts hfc hkC (u_lays hts (g_objs_in q hq) hj) hi).1
    rw [hT] at hi
    rw [e1] at hsl
    refine W.getf hx hb hown (hts _ hl) hi hst q1 (by rw [q3]; exact fun w => by cases w) (v := .int (g_I u k a)) ?_ rfl rfl hd (kk _ h ad H locs la hR hE hL hS.tl.int hlo hla)
    rw [hsl, q4 j hj, hval]
    rfl
theorem r_gL {K : g_C} {cc : ByteArray} {own nm : String} {ret : Option FieldType} {u : g_St} {ls : List (Nat × g_V)} {st : List g_V} {pc : Nat} {out : g_Out} (hK : g_OK K cc own nm ret) {α : Type} {o : α} {k t tg index : Nat} {C n dd : String} {fin : Bool} {r : Option Nat} {F : Int64 → Option α} (hf : g_Fd k t 1 tg C n dd fin) (hl : Cond.fieldLink own index C n dd ∈ g_tbl) (hd : decode cc pc = .ok (.getfield index, 3)) (h : g_gL u k r F = some o) (kk : ∀ x, F x = some o → g_W K u ls (g_l x :: st) (pc + 3) out) : g_W K u ls (g_r t r :: st) pc out := by
  obtain ⟨p, l, e, s, m, args, below, meth, c, nL, d, u0, ad0, G⟩ := K
  obtain ⟨hx, hb, hml, hown, hts, hKn, hlk, hnm, hret, htr⟩ := hK
  intro ad H locs la hR hE hL hS hlo hla
  cases r with
  | none => exact absurd h (by simp [g_gL])
  | some a =>
    obtain ⟨ht, ha⟩ := hS.hd a rfl
    have ht : a % 64 = t := by
      rcases ht with w | w
      · obtain ⟨q, j, hq, e1, -⟩ := hf
        have := g_objs_lt q hq
        omega
      · exact w
    obtain ⟨q, j, hq, e1, e2, hj, hks, hT, ⟨cell, q1, q2, q3, q4⟩, hval, hok⟩ := g_field hR hf (by decide) ha ht
    obtain ⟨hS', hfc, kC, hkC, hkind⟩ := (hKn.1 q hq).1
    obtain ⟨cf, kf, fi, f, hi, hsl⟩ := hS' j hj
    have hst := (u_facts hfc hkC (u_lays hts (g_objs_in q hq) hj) hi).1
    rw [hT] at hi
    rw [e1] at hsl
    refine W.getf hx hb hown (hts _ hl) hi hst q1 (by rw [q3]; exact fun w => by cases w) (v := .long (g_L u k a)) ?_ rfl rfl hd (kk _ h ad H locs la hR hE hL hS.tl.long hlo hla)
    rw [hsl, q4 j hj, hval]
    rfl
theorem r_gR {K : g_C} {cc : ByteArray} {own nm : String} {ret : Option FieldType} {u : g_St} {ls : List (Nat × g_V)} {st : List g_V} {pc : Nat} {out : g_Out} (hK : g_OK K cc own nm ret) {α : Type} {o : α} {k t tg index : Nat} {C n dd : String} {fin : Bool} {r : Option Nat} {F : Option Nat → Option α} (hf : g_Fd k t 2 tg C n dd fin) (hl : Cond.fieldLink own index C n dd ∈ g_tbl) (hd : decode cc pc = .ok (.getfield index, 3)) (h : g_gR u k r F = some o) (kk : ∀ x, F x = some o → g_W K u ls (g_r tg x :: st) (pc + 3) out) : g_W K u ls (g_r t r :: st) pc out := by
  obtain ⟨p, l, e, s, m, args, below, meth, c, nL, d, u0, ad0, G⟩ := K
  obtain ⟨hx, hb, hml, hown, hts, hKn, hlk, hnm, hret, htr⟩ := hK
  intro ad H locs la hR hE hL hS hlo hla
  cases r with
  | none => exact absurd h (by simp [g_gR])
  | some a =>
    obtain ⟨ht, ha⟩ := hS.hd a rfl
    have ht : a % 64 = t := by
      rcases ht with w | w
      · obtain ⟨q, j, hq, e1, -⟩ := hf
        have := g_objs_lt q hq
        omega
      · exact w
    obtain ⟨q, j, hq, e1, e2, hj, hks, hT, ⟨cell, q1, q2, q3, q4⟩, hval, hok⟩ := g_field hR hf (by decide) ha ht
    obtain ⟨hS', hfc, kC, hkC, hkind⟩ := (hKn.1 q hq).1
    obtain ⟨cf, kf, fi, f, hi, hsl⟩ := hS' j hj
    have hst := (u_facts hfc hkC (u_lays hts (g_objs_in q hq) hj) hi).1
    rw [hT] at hi
    rw [e1] at hsl
    refine W.getf hx hb hown (hts _ hl) hi hst q1 (by rw [q3]; exact fun w => by cases w) (v := va_rf ((g_R u k a).map ad)) ?_ rfl rfl hd (kk _ h ad H locs la hR hE hL (hS.tl.cons (hok rfl)) hlo hla)
    rw [hsl, q4 j hj, hval]
    rfl
theorem r_pI {K : g_C} {cc : ByteArray} {own nm : String} {ret : Option FieldType} {u : g_St} {ls : List (Nat × g_V)} {st : List g_V} {pc : Nat} {out : g_Out} (hK : g_OK K cc own nm ret) {α : Type} {o : α} {k t tg index : Nat} {C : String} {n : String} {r : Option Nat} {v : Int32} {F : g_St → Option α} (hf : g_Fd k t 0 tg C n "I" false) (h0 : g_old t = 0) (hl : Cond.fieldLink own index C n "I" ∈ g_tbl) (hd : decode cc pc = .ok (.putfield index, 3)) (h : g_pI u k r v F = some o) (kk : ∀ u1, F u1 = some o → g_W K u1 ls st (pc + 3) out) : g_W K u ls (g_i v :: g_r t r :: st) pc out := by
  obtain ⟨p, l, e, s, m, args, below, meth, c, nL, d, u0, ad0, G⟩ := K
  obtain ⟨hx, hb, hml, hown, hts, hKn, hlk, hnm, hret, htr⟩ := hK
  intro ad H locs la hR hE hL hS hlo hla
  cases r with
  | none => exact absurd h (by simp [g_pI])
  | some a =>
    obtain ⟨ht, ha⟩ := hS.tl.hd a rfl
    have ht : a % 64 = t := by
      rcases ht with w | w
      · obtain ⟨q, j, hq, e1, -⟩ := hf
        have := g_objs_lt q hq
        omega
      · exact w
    have hbA : g_b0 G ≤ ad a := (hR.2.2.1 a ha).2.1 (by rw [ht, h0]; exact Nat.zero_le _)
    obtain ⟨q, j, hq, e1, e2, hj, hks, hT, ⟨cell, q1, q2, q3, q4⟩, hval, hok⟩ := g_field hR hf (by decide) ha ht
    obtain ⟨⟨hS', hfc, kC, hkC, hkind⟩, hap⟩ := hKn.1 q hq
    obtain ⟨cf, kf, fi, f, hi, hsl⟩ := hS' j hj
    have hst := (u_facts hfc hkC (u_lays hts (g_objs_in q hq) hj) hi).1
    have hlay := hts _ (g_objs_in q hq _ (u_in_lay hj))
    unfold u_lay at hlay
    rw [if_neg (by rw [hT]; exact fun q => by cases q)] at hlay
    rw [e1] at hsl hap
    have h6 := u_store hfc hkC hkind hlay hi (by rw [hT]; exact (by decide +kernel : parseFieldDescriptor "I" = some .int)) (v := .int v) rfl rfl
    have hi' := hi
    rw [hT] at hi'
    refine W.putK hx hb (f := f) ⟨hown, hts _ hl, ⟨_, _, _, hi'⟩, hst⟩ (by rw [q2, ← e1]; exact h6) q1 q3 (by rw [hsl]; exact k2_hasslot (q4 j hj)) rfl rfl hd fun H' p1 p2 p3 => ?_
    rw [hsl] at p1 ⊢
    refine kk _ h ad H' _ la (hR.put ha hbA rfl ⟨rfl, rfl⟩ rfl (fun k b w => g_u2_ne (by rintro ⟨-, z⟩; exact w z)) (fun k b w => rfl) (fun k b w => rfl) (fun _ _ => rfl) (fun _ _ => rfl) (fun _ _ => rfl) p2 p3 (by rw [ht, ← e1]; exact g_objs_14 q hq) (fun q' hq' ht' => ?_) (fun q' hq' ht' => absurd (e1.trans (ht.symm.trans ht')) (g_apart q hq q' hq'))) hE hL hS.tl.tl (fun w hw => ?_) hla
    · obtain rfl : q' = q := g_uni (fun q : g_O => q.1) g_objs g_objs_nd q' hq' q hq (by rw [← ht', e1, ht])
      refine ⟨t_OB.to (V := updV (g_fv u ad t q'.2.2 a) j (.int v)) ⟨_, p1, by rw [e1]; exact q2, q3, by rw [e1]; exact t_set q4 hap hj _⟩ (fun j' hj' => ?_), fun j' kt hj' hk2 => ?_⟩
      · by_cases e5 : j' = j
        · subst e5
          unfold g_fv
          rw [List.getD_eq_getElem?_getD, hks, e1]
          show updV _ _ _ _ = .int (g_u2 _ _ _ _ _ _)
          rw [← e2, g_u2_eq]
          simp [updV]
        · have e6 : updV (g_fv u ad t q'.2.2 a) j (.int v) j' = g_fv u ad t q'.2.2 a j' := by simp [updV, e5]
          rw [e6, e1]
          unfold g_fv
          have e7 : g_I (g_setI u k a v) (j' * 64 + t) a = g_I u (j' * 64 + t) a := g_u2_ne (by rintro ⟨w, -⟩; omega)
          rw [e7]
          rfl
      · exact (hR.2.2.2.1 q' hq' a ha ht').2 j' kt hj' hk2
    · rcases List.mem_append.mp hw with w9 | w9
      · exact hlo w w9
      · rw [List.mem_singleton.mp w9]
        exact hbA
theorem r_pIF {K : g_C} {cc : ByteArray} {own : String} {ret : Option FieldType} {u : g_St} {ls : List (Nat × g_V)} {st : List g_V} {pc : Nat} {out : g_Out} (hK : g_OK K cc own "<init>" ret) {α : Type} {o : α} {k t tg index : Nat} {n : String} {r : Option Nat} {v : Int32} {F : g_St → Option α} (hf : g_Fd k t 0 tg own n "I" true) (h0 : g_old t = 0) (hl : Cond.fieldLink own index own n "I" ∈ g_tbl) (hd : decode cc pc = .ok (.putfield index, 3)) (h : g_pI u k r v F = some o) (kk : ∀ u1, F u1 = some o → g_W K u1 ls st (pc + 3) out) : g_W K u ls (g_i v :: g_r t r :: st) pc out := by
  obtain ⟨p, l, e, s, m, args, below, meth, c, nL, d, u0, ad0, G⟩ := K
  obtain ⟨hx, hb, hml, hown, hts, hKn, hlk, hnm, hret, htr⟩ := hK
  intro ad H locs la hR hE hL hS hlo hla
  cases r with
  | none => exact absurd h (by simp [g_pI])
  | some a =>
    obtain ⟨ht, ha⟩ := hS.tl.hd a rfl
    have ht : a % 64 = t := by
      rcases ht with w | w
      · obtain ⟨q, j, hq, e1, -⟩ := hf
        have := g_objs_lt q hq
        omega
      · exact w
    have hbA : g_b0 G ≤ ad a := (hR.2.2.1 a ha).2.1 (by rw [ht, h0]; exact Nat.zero_le _)
    obtain ⟨q, j, hq, e1, e2, hj, hks, hT, ⟨cell, q1, q2, q3, q4⟩, hval, hok⟩ := g_field hR hf (by decide) ha ht
    obtain ⟨⟨hS', hfc, kC, hkC, hkind⟩, hap⟩ := hKn.1 q hq
    obtain ⟨cf, kf, fi, f, hi, hsl⟩ := hS' j hj
    have hst := (u_facts hfc hkC (u_lays hts (g_objs_in q hq) hj) hi).1
    have hlay := hts _ (g_objs_in q hq _ (u_in_lay hj))
    unfold u_lay at hlay
    rw [if_pos (by rw [hT])] at hlay
    have hcf : m.cls = cf := by
      obtain ⟨_, _, c', _, _, _, -, -, hf', -, -, -, hown2, -⟩ := Cond.laysFinal_spec hlay
      have e3 : c' = cf := by have := hi.symm.trans hf'; simp at this; exact this.1.symm
      rw [hT] at hown2
      rw [← e3]; exact Option.some.inj (hown.symm.trans hown2)
    rw [e1] at hsl hap
    have h6 := u_fits hfc hkC hkind (Or.inr hlay) hi (by rw [hT]; exact (by decide +kernel : parseFieldDescriptor "I" = some .int)) (v := .int v) rfl rfl
    have hi' := hi
    rw [hT] at hi'
    refine W.putFinK hx hb hown (hts _ hl) hi' hst hcf hnm (by rw [q2, ← e1]; exact h6) q1 q3 (by rw [hsl]; exact k2_hasslot (q4 j hj)) rfl rfl hd fun H' p1 p2 p3 => ?_
    rw [hsl] at p1 ⊢
    refine kk _ h ad H' _ la (hR.put ha hbA rfl ⟨rfl, rfl⟩ rfl (fun k b w => g_u2_ne (by rintro ⟨-, z⟩; exact w z)) (fun k b w => rfl) (fun k b w => rfl) (fun _ _ => rfl) (fun _ _ => rfl) (fun _ _ => rfl) p2 p3 (by rw [ht, ← e1]; exact g_objs_14 q hq) (fun q' hq' ht' => ?_) (fun q' hq' ht' => absurd (e1.trans (ht.symm.trans ht')) (g_apart q hq q' hq'))) hE hL hS.tl.tl (fun w hw => ?_) hla
    · obtain rfl : q' = q := g_uni (fun q : g_O => q.1) g_objs g_objs_nd q' hq' q hq (by rw [← ht', e1, ht])
      refine ⟨t_OB.to (V := updV (g_fv u ad t q'.2.2 a) j (.int v)) ⟨_, p1, by rw [e1]; exact q2, q3, by rw [e1]; exact t_set q4 hap hj _⟩ (fun j' hj' => ?_), fun j' kt hj' hk2 => ?_⟩
      · by_cases e5 : j' = j
        · subst e5
          unfold g_fv
          rw [List.getD_eq_getElem?_getD, hks, e1]
          show updV _ _ _ _ = .int (g_u2 _ _ _ _ _ _)
          rw [← e2, g_u2_eq]
          simp [updV]
        · have e6 : updV (g_fv u ad t q'.2.2 a) j (.int v) j' = g_fv u ad t q'.2.2 a j' := by simp [updV, e5]
          rw [e6, e1]
          unfold g_fv
          have e7 : g_I (g_setI u k a v) (j' * 64 + t) a = g_I u (j' * 64 + t) a := g_u2_ne (by rintro ⟨w, -⟩; omega)
          rw [e7]
          rfl
      · exact (hR.2.2.2.1 q' hq' a ha ht').2 j' kt hj' hk2
    · rcases List.mem_append.mp hw with w9 | w9
      · exact hlo w w9
      · rw [List.mem_singleton.mp w9]
        exact hbA
theorem r_pZ {K : g_C} {cc : ByteArray} {own nm : String} {ret : Option FieldType} {u : g_St} {ls : List (Nat × g_V)} {st : List g_V} {pc : Nat} {out : g_Out} (hK : g_OK K cc own nm ret) {α : Type} {o : α} {k t tg index : Nat} {C : String} {n : String} {r : Option Nat} {v : Int32} {F : g_St → Option α} (hf : g_Fd k t 0 tg C n "Z" false) (h0 : g_old t = 0) (hl : Cond.fieldLink own index C n "Z" ∈ g_tbl) (hd : decode cc pc = .ok (.putfield index, 3)) (h : g_pZ u k r v F = some o) (kk : ∀ u1, F u1 = some o → g_W K u1 ls st (pc + 3) out) : g_W K u ls (g_i v :: g_r t r :: st) pc out := by
  obtain ⟨p, l, e, s, m, args, below, meth, c, nL, d, u0, ad0, G⟩ := K
  obtain ⟨hx, hb, hml, hown, hts, hKn, hlk, hnm, hret, htr⟩ := hK
  intro ad H locs la hR hE hL hS hlo hla
  cases r with
  | none => exact absurd h (by simp [g_pZ])
  | some a =>
    obtain ⟨ht, ha⟩ := hS.tl.hd a rfl
    have ht : a % 64 = t := by
      rcases ht with w | w
      · obtain ⟨q, j, hq, e1, -⟩ := hf
        have := g_objs_lt q hq
        omega
      · exact w
    have hv : v = 0 ∨ v = 1 := by
      by_cases hv : v = 0 ∨ v = 1
      · exact hv
      · simp [g_pZ, hv] at h
    have h : F (g_setI u k a v) = some o := by simpa [g_pZ, hv] using h
    have hbA : g_b0 G ≤ ad a := (hR.2.2.1 a ha).2.1 (by rw [ht, h0]; exact Nat.zero_le _)
    obtain ⟨q, j, hq, e1, e2, hj, hks, hT, ⟨cell, q1, q2, q3, q4⟩, hval, hok⟩ := g_field hR hf (by decide) ha ht
    obtain ⟨⟨hS', hfc, kC, hkC, hkind⟩, hap⟩ := hKn.1 q hq
    obtain ⟨cf, kf, fi, f, hi, hsl⟩ := hS' j hj
    have hst := (u_facts hfc hkC (u_lays hts (g_objs_in q hq) hj) hi).1
    have hlay := hts _ (g_objs_in q hq _ (u_in_lay hj))
    unfold u_lay at hlay
    rw [if_neg (by rw [hT]; exact fun q => by cases q)] at hlay
    rw [e1] at hsl hap
    have h6 := u_store hfc hkC hkind hlay hi (by rw [hT]; exact (by decide +kernel : parseFieldDescriptor "Z" = some .boolean)) (v := .int v) (by rcases hv with rfl | rfl <;> rfl) (by rcases hv with rfl | rfl <;> rfl)
    have hi' := hi
    rw [hT] at hi'
    refine W.putK hx hb (f := f) ⟨hown, hts _ hl, ⟨_, _, _, hi'⟩, hst⟩ (by rw [q2, ← e1]; exact h6) q1 q3 (by rw [hsl]; exact k2_hasslot (q4 j hj)) rfl rfl hd fun H' p1 p2 p3 => ?_
    rw [hsl] at p1 ⊢
    refine kk _ h ad H' _ la (hR.put ha hbA rfl ⟨rfl, rfl⟩ rfl (fun k b w => g_u2_ne (by rintro ⟨-, z⟩; exact w z)) (fun k b w => rfl) (fun k b w => rfl) (fun _ _ => rfl) (fun _ _ => rfl) (fun _ _ => rfl) p2 p3 (by rw [ht, ← e1]; exact g_objs_14 q hq) (fun q' hq' ht' => ?_) (fun q' hq' ht' => absurd (e1.trans (ht.symm.trans ht')) (g_apart q hq q' hq'))) hE hL hS.tl.tl (fun w hw => ?_) hla
    · obtain rfl : q' = q := g_uni (fun q : g_O => q.1) g_objs g_objs_nd q' hq' q hq (by rw [← ht', e1, ht])
      refine ⟨t_OB.to (V := updV (g_fv u ad t q'.2.2 a) j (.int v)) ⟨_, p1, by rw [e1]; exact q2, q3, by rw [e1]; exact t_set q4 hap hj _⟩ (fun j' hj' => ?_), fun j' kt hj' hk2 => ?_⟩
      · by_cases e5 : j' = j
        · subst e5
          unfold g_fv
          rw [List.getD_eq_getElem?_getD, hks, e1]
          show updV _ _ _ _ = .int (g_u2 _ _ _ _ _ _)
          rw [← e2, g_u2_eq]
          simp [updV]
        · have e6 : updV (g_fv u ad t q'.2.2 a) j (.int v) j' = g_fv u ad t q'.2.2 a j' := by simp [updV, e5]
          rw [e6, e1]
          unfold g_fv
          have e7 : g_I (g_setI u k a v) (j' * 64 + t) a = g_I u (j' * 64 + t) a := g_u2_ne (by rintro ⟨w, -⟩; omega)
          rw [e7]
          rfl
      · exact (hR.2.2.2.1 q' hq' a ha ht').2 j' kt hj' hk2
    · rcases List.mem_append.mp hw with w9 | w9
      · exact hlo w w9
      · rw [List.mem_singleton.mp w9]
        exact hbA
theorem r_pZF {K : g_C} {cc : ByteArray} {own : String} {ret : Option FieldType} {u : g_St} {ls : List (Nat × g_V)} {st : List g_V} {pc : Nat} {out : g_Out} (hK : g_OK K cc own "<init>" ret) {α : Type} {o : α} {k t tg index : Nat} {n : String} {r : Option Nat} {v : Int32} {F : g_St → Option α} (hf : g_Fd k t 0 tg own n "Z" true) (h0 : g_old t = 0) (hl : Cond.fieldLink own index own n "Z" ∈ g_tbl) (hd : decode cc pc = .ok (.putfield index, 3)) (h : g_pZ u k r v F = some o) (kk : ∀ u1, F u1 = some o → g_W K u1 ls st (pc + 3) out) : g_W K u ls (g_i v :: g_r t r :: st) pc out := by
  obtain ⟨p, l, e, s, m, args, below, meth, c, nL, d, u0, ad0, G⟩ := K
  obtain ⟨hx, hb, hml, hown, hts, hKn, hlk, hnm, hret, htr⟩ := hK
  intro ad H locs la hR hE hL hS hlo hla
  cases r with
  | none => exact absurd h (by simp [g_pZ])
  | some a =>
    obtain ⟨ht, ha⟩ := hS.tl.hd a rfl
    have ht : a % 64 = t := by
      rcases ht with w | w
      · obtain ⟨q, j, hq, e1, -⟩ := hf
        have := g_objs_lt q hq
        omega
      · exact w
    have hv : v = 0 ∨ v = 1 := by
      by_cases hv : v = 0 ∨ v = 1
      · exact hv
      · simp [g_pZ, hv] at h
    have h : F (g_setI u k a v) = some o := by simpa [g_pZ, hv] using h
    have hbA : g_b0 G ≤ ad a := (hR.2.2.1 a ha).2.1 (by rw [ht, h0]; exact Nat.zero_le _)
    obtain ⟨q, j, hq, e1, e2, hj, hks, hT, ⟨cell, q1, q2, q3, q4⟩, hval, hok⟩ := g_field hR hf (by decide) ha ht
    obtain ⟨⟨hS', hfc, kC, hkC, hkind⟩, hap⟩ := hKn.1 q hq
    obtain ⟨cf, kf, fi, f, hi, hsl⟩ := hS' j hj
    have hst := (u_facts hfc hkC (u_lays hts (g_objs_in q hq) hj) hi).1
    have hlay := hts _ (g_objs_in q hq _ (u_in_lay hj))
    unfold u_lay at hlay
    rw [if_pos (by rw [hT])] at hlay
    have hcf : m.cls = cf := by
      obtain ⟨_, _, c', _, _, _, -, -, hf', -, -, -, hown2, -⟩ := Cond.laysFinal_spec hlay
      have e3 : c' = cf := by have := hi.symm.trans hf'; simp at this; exact this.1.symm
      rw [hT] at hown2
      rw [← e3]; exact Option.some.inj (hown.symm.trans hown2)
    rw [e1] at hsl hap
    have h6 := u_fits hfc hkC hkind (Or.inr hlay) hi (by rw [hT]; exact (by decide +kernel : parseFieldDescriptor "Z" = some .boolean)) (v := .int v) (by rcases hv with rfl | rfl <;> rfl) (by rcases hv with rfl | rfl <;> rfl)
    have hi' := hi
    rw [hT] at hi'
    refine W.putFinK hx hb hown (hts _ hl) hi' hst hcf hnm (by rw [q2, ← e1]; exact h6) q1 q3 (by rw [hsl]; exact k2_hasslot (q4 j hj)) rfl rfl hd fun H' p1 p2 p3 => ?_
    rw [hsl] at p1 ⊢
    refine kk _ h ad H' _ la (hR.put ha hbA rfl ⟨rfl, rfl⟩ rfl (fun k b w => g_u2_ne (by rintro ⟨-, z⟩; exact w z)) (fun k b w => rfl) (fun k b w => rfl) (fun _ _ => rfl) (fun _ _ => rfl) (fun _ _ => rfl) p2 p3 (by rw [ht, ← e1]; exact g_objs_14 q hq) (fun q' hq' ht' => ?_) (fun q' hq' ht' => absurd (e1.trans (ht.symm.trans ht')) (g_apart q hq q' hq'))) hE hL hS.tl.tl (fun w hw => ?_) hla
    · obtain rfl : q' = q := g_uni (fun q : g_O => q.1) g_objs g_objs_nd q' hq' q hq (by rw [← ht', e1, ht])
      refine ⟨t_OB.to (V := updV (g_fv u ad t q'.2.2 a) j (.int v)) ⟨_, p1, by rw [e1]; exact q2, q3, by rw [e1]; exact t_set q4 hap hj _⟩ (fun j' hj' => ?_), fun j' kt hj' hk2 => ?_⟩
      · by_cases e5 : j' = j
        · subst e5
          unfold g_fv
          rw [List.getD_eq_getElem?_getD, hks, e1]
          show updV _ _ _ _ = .int (g_u2 _ _ _ _ _ _)
          rw [← e2, g_u2_eq]
          simp [updV]
        · have e6 : updV (g_fv u ad t q'.2.2 a) j (.int v) j' = g_fv u ad t q'.2.2 a j' := by simp [updV, e5]
          rw [e6, e1]
          unfold g_fv
          have e7 : g_I (g_setI u k a v) (j' * 64 + t) a = g_I u (j' * 64 + t) a := g_u2_ne (by rintro ⟨w, -⟩; omega)
          rw [e7]
          rfl
      · exact (hR.2.2.2.1 q' hq' a ha ht').2 j' kt hj' hk2
    · rcases List.mem_append.mp hw with w9 | w9
      · exact hlo w w9
      · rw [List.mem_singleton.mp w9]
        exact hbA
theorem r_pL {K : g_C} {cc : ByteArray} {own nm : String} {ret : Option FieldType} {u : g_St} {ls : List (Nat × g_V)} {st : List g_V} {pc : Nat} {out : g_Out} (hK : g_OK K cc own nm ret) {α : Type} {o : α} {k t tg index : Nat} {C : String} {n : String} {r : Option Nat} {v : Int64} {F : g_St → Option α} (hf : g_Fd k t 1 tg C n "J" false) (h0 : g_old t = 0) (hl : Cond.fieldLink own index C n "J" ∈ g_tbl) (hd : decode cc pc = .ok (.putfield index, 3)) (h : g_pL u k r v F = some o) (kk : ∀ u1, F u1 = some o → g_W K u1 ls st (pc + 3) out) : g_W K u ls (g_l v :: g_r t r :: st) pc out := by
  obtain ⟨p, l, e, s, m, args, below, meth, c, nL, d, u0, ad0, G⟩ := K
  obtain ⟨hx, hb, hml, hown, hts, hKn, hlk, hnm, hret, htr⟩ := hK
  intro ad H locs la hR hE hL hS hlo hla
  cases r with
  | none => exact absurd h (by simp [g_pL])
  | some a =>
    obtain ⟨ht, ha⟩ := hS.tl.hd a rfl
    have ht : a % 64 = t := by
      rcases ht with w | w
      · obtain ⟨q, j, hq, e1, -⟩ := hf
        have := g_objs_lt q hq
        omega
      · exact w
    have hbA : g_b0 G ≤ ad a := (hR.2.2.1 a ha).2.1 (by rw [ht, h0]; exact Nat.zero_le _)
    obtain ⟨q, j, hq, e1, e2, hj, hks, hT, ⟨cell, q1, q2, q3, q4⟩, hval, hok⟩ := g_field hR hf (by decide) ha ht
    obtain ⟨⟨hS', hfc, kC, hkC, hkind⟩, hap⟩ := hKn.1 q hq
    obtain ⟨cf, kf, fi, f, hi, hsl⟩ := hS' j hj
    have hst := (u_facts hfc hkC (u_lays hts (g_objs_in q hq) hj) hi).1
    have hlay := hts _ (g_objs_in q hq _ (u_in_lay hj))
    unfold u_lay at hlay
    rw [if_neg (by rw [hT]; exact fun q => by cases q)] at hlay
    rw [e1] at hsl hap
    have h6 := u_store hfc hkC hkind hlay hi (by rw [hT]; exact (by decide +kernel : parseFieldDescriptor "J" = some .long)) (v := .long v) rfl rfl
    have hi' := hi
    rw [hT] at hi'
    refine W.putK hx hb (f := f) ⟨hown, hts _ hl, ⟨_, _, _, hi'⟩, hst⟩ (by rw [q2, ← e1]; exact h6) q1 q3 (by rw [hsl]; exact k2_hasslot (q4 j hj)) rfl rfl hd fun H' p1 p2 p3 => ?_
    rw [hsl] at p1 ⊢
    refine kk _ h ad H' _ la (hR.put ha hbA rfl ⟨rfl, rfl⟩ rfl (fun k b w => rfl) (fun k b w => g_u2_ne (by rintro ⟨-, z⟩; exact w z)) (fun k b w => rfl) (fun _ _ => rfl) (fun _ _ => rfl) (fun _ _ => rfl) p2 p3 (by rw [ht, ← e1]; exact g_objs_14 q hq) (fun q' hq' ht' => ?_) (fun q' hq' ht' => absurd (e1.trans (ht.symm.trans ht')) (g_apart q hq q' hq'))) hE hL hS.tl.tl (fun w hw => ?_) hla
    · obtain rfl : q' = q := g_uni (fun q : g_O => q.1) g_objs g_objs_nd q' hq' q hq (by rw [← ht', e1, ht])
      refine ⟨t_OB.to (V := updV (g_fv u ad t q'.2.2 a) j (.long v)) ⟨_, p1, by rw [e1]; exact q2, q3, by rw [e1]; exact t_set q4 hap hj _⟩ (fun j' hj' => ?_), fun j' kt hj' hk2 => ?_⟩
      · by_cases e5 : j' = j
        · subst e5
          unfold g_fv
          rw [List.getD_eq_getElem?_getD, hks, e1]
          show updV _ _ _ _ = .long (g_u2 _ _ _ _ _ _)
          rw [← e2, g_u2_eq]
          simp [updV]
        · have e6 : updV (g_fv u ad t q'.2.2 a) j (.long v) j' = g_fv u ad t q'.2.2 a j' := by simp [updV, e5]
          rw [e6, e1]
          unfold g_fv
          have e7 : g_L (g_setL u k a v) (j' * 64 + t) a = g_L u (j' * 64 + t) a := g_u2_ne (by rintro ⟨w, -⟩; omega)
          rw [e7]
          rfl
      · exact (hR.2.2.2.1 q' hq' a ha ht').2 j' kt hj' hk2
    · rcases List.mem_append.mp hw with w9 | w9
      · exact hlo w w9
      · rw [List.mem_singleton.mp w9]
        exact hbA
theorem r_pLF {K : g_C} {cc : ByteArray} {own : String} {ret : Option FieldType} {u : g_St} {ls : List (Nat × g_V)} {st : List g_V} {pc : Nat} {out : g_Out} (hK : g_OK K cc own "<init>" ret) {α : Type} {o : α} {k t tg index : Nat} {n : String} {r : Option Nat} {v : Int64} {F : g_St → Option α} (hf : g_Fd k t 1 tg own n "J" true) (h0 : g_old t = 0) (hl : Cond.fieldLink own index own n "J" ∈ g_tbl) (hd : decode cc pc = .ok (.putfield index, 3)) (h : g_pL u k r v F = some o) (kk : ∀ u1, F u1 = some o → g_W K u1 ls st (pc + 3) out) : g_W K u ls (g_l v :: g_r t r :: st) pc out := by
  obtain ⟨p, l, e, s, m, args, below, meth, c, nL, d, u0, ad0, G⟩ := K
  obtain ⟨hx, hb, hml, hown, hts, hKn, hlk, hnm, hret, htr⟩ := hK
  intro ad H locs la hR hE hL hS hlo hla
  cases r with
  | none => exact absurd h (by simp [g_pL])
  | some a =>
    obtain ⟨ht, ha⟩ := hS.tl.hd a rfl
    have ht : a % 64 = t := by
      rcases ht with w | w
      · obtain ⟨q, j, hq, e1, -⟩ := hf
        have := g_objs_lt q hq
        omega
      · exact w
    have hbA : g_b0 G ≤ ad a := (hR.2.2.1 a ha).2.1 (by rw [ht, h0]; exact Nat.zero_le _)
    obtain ⟨q, j, hq, e1, e2, hj, hks, hT, ⟨cell, q1, q2, q3, q4⟩, hval, hok⟩ := g_field hR hf (by decide) ha ht
    obtain ⟨⟨hS', hfc, kC, hkC, hkind⟩, hap⟩ := hKn.1 q hq
    obtain ⟨cf, kf, fi, f, hi, hsl⟩ := hS' j hj
    have hst := (u_facts hfc hkC (u_lays hts (g_objs_in q hq) hj) hi).1
    have hlay := hts _ (g_objs_in q hq _ (u_in_lay hj))
    unfold u_lay at hlay
    rw [if_pos (by rw [hT])] at hlay
    have hcf : m.cls = cf := by
      obtain ⟨_, _, c', _, _, _, -, -, hf', -, -, -, hown2, -⟩ := Cond.laysFinal_spec hlay
      have e3 : c' = cf := by have := hi.symm.trans hf'; simp at this; exact this.1.symm
      rw [hT] at hown2
      rw [← e3]; exact Option.some.inj (hown.symm.trans hown2)
    rw [e1] at hsl hap
    have h6 := u_fits hfc hkC hkind (Or.inr hlay) hi (by rw [hT]; exact (by decide +kernel : parseFieldDescriptor "J" = some .long)) (v := .long v) rfl rfl
    have hi' := hi
    rw [hT] at hi'
    refine W.putFinK hx hb hown (hts _ hl) hi' hst hcf hnm (by rw [q2, ← e1]; exact h6) q1 q3 (by rw [hsl]; exact k2_hasslot (q4 j hj)) rfl rfl hd fun H' p1 p2 p3 => ?_
    rw [hsl] at p1 ⊢
    refine kk _ h ad H' _ la (hR.put ha hbA rfl ⟨rfl, rfl⟩ rfl (fun k b w => rfl) (fun k b w => g_u2_ne (by rintro ⟨-, z⟩; exact w z)) (fun k b w => rfl) (fun _ _ => rfl) (fun _ _ => rfl) (fun _ _ => rfl) p2 p3 (by rw [ht, ← e1]; exact g_objs_14 q hq) (fun q' hq' ht' => ?_) (fun q' hq' ht' => absurd (e1.trans (ht.symm.trans ht')) (g_apart q hq q' hq'))) hE hL hS.tl.tl (fun w hw => ?_) hla
    · obtain rfl : q' = q := g_uni (fun q : g_O => q.1) g_objs g_objs_nd q' hq' q hq (by rw [← ht', e1, ht])
      refine ⟨t_OB.to (V := updV (g_fv u ad t q'.2.2 a) j (.long v)) ⟨_, p1, by rw [e1]; exact q2, q3, by rw [e1]; exact t_set q4 hap hj _⟩ (fun j' hj' => ?_), fun j' kt hj' hk2 => ?_⟩
      · by_cases e5 : j' = j
        · subst e5
          unfold g_fv
          rw [List.getD_eq_getElem?_getD, hks, e1]
          show updV _ _ _ _ = .long (g_u2 _ _ _ _ _ _)
          rw [← e2, g_u2_eq]
          simp [updV]
        · have e6 : updV (g_fv u ad t q'.2.2 a) j (.long v) j' = g_fv u ad t q'.2.2 a j' := by simp [updV, e5]
          rw [e6, e1]
          unfold g_fv
          have e7 : g_L (g_setL u k a v) (j' * 64 + t) a = g_L u (j' * 64 + t) a := g_u2_ne (by rintro ⟨w, -⟩; omega)
          rw [e7]
          rfl
      · exact (hR.2.2.2.1 q' hq' a ha ht').2 j' kt hj' hk2
    · rcases List.mem_append.mp hw with w9 | w9
      · exact hlo w w9
      · rw [List.mem_singleton.mp w9]
        exact hbA
theorem r_pR {K : g_C} {cc : ByteArray} {own nm : String} {ret : Option FieldType} {u : g_St} {ls : List (Nat × g_V)} {st : List g_V} {pc : Nat} {out : g_Out} (hK : g_OK K cc own nm ret) {α : Type} {o : α} {k t tg index : Nat} {C : String} {n : String} {r : Option Nat} {v : Option Nat} {F : g_St → Option α} {tv : Nat} {dd : String} {ty : FieldType} (hty : parseFieldDescriptor dd = some ty) (hrf : ty.isReference = true) (htv : tg = 63 ∨ tv = tg) (hf : g_Fd k t 2 tg C n dd false) (h0 : g_old t = 0) (hl : Cond.fieldLink own index C n dd ∈ g_tbl) (hd : decode cc pc = .ok (.putfield index, 3)) (h : g_pR u k r v F = some o) (kk : ∀ u1, F u1 = some o → g_W K u1 ls st (pc + 3) out) : g_W K u ls (g_r tv v :: g_r t r :: st) pc out := by
  obtain ⟨p, l, e, s, m, args, below, meth, c, nL, d, u0, ad0, G⟩ := K
  obtain ⟨hx, hb, hml, hown, hts, hKn, hlk, hnm, hret, htr⟩ := hK
  intro ad H locs la hR hE hL hS hlo hla
  cases r with
  | none => exact absurd h (by simp [g_pR])
  | some a =>
    obtain ⟨ht, ha⟩ := hS.tl.hd a rfl
    have ht : a % 64 = t := by
      rcases ht with w | w
      · obtain ⟨q, j, hq, e1, -⟩ := hf
        have := g_objs_lt q hq
        omega
      · exact w
    have hbA : g_b0 G ≤ ad a := (hR.2.2.1 a ha).2.1 (by rw [ht, h0]; exact Nat.zero_le _)
    obtain ⟨q, j, hq, e1, e2, hj, hks, hT, ⟨cell, q1, q2, q3, q4⟩, hval, hok⟩ := g_field hR hf (by decide) ha ht
    obtain ⟨⟨hS', hfc, kC, hkC, hkind⟩, hap⟩ := hKn.1 q hq
    obtain ⟨cf, kf, fi, f, hi, hsl⟩ := hS' j hj
    have hst := (u_facts hfc hkC (u_lays hts (g_objs_in q hq) hj) hi).1
    have hlay := hts _ (g_objs_in q hq _ (u_in_lay hj))
    unfold u_lay at hlay
    rw [if_neg (by rw [hT]; exact fun q => by cases q)] at hlay
    rw [e1] at hsl hap
    have h6 := u_store hfc hkC hkind hlay hi (by rw [hT]; exact hty) (v := va_rf (v.map ad)) (g_nar hrf _) (g_fit hrf _)
    have hi' := hi
    rw [hT] at hi'
    refine W.putK hx hb (f := f) ⟨hown, hts _ hl, ⟨_, _, _, hi'⟩, hst⟩ (by rw [q2, ← e1]; exact h6) q1 q3 (by rw [hsl]; exact k2_hasslot (q4 j hj)) rfl rfl hd fun H' p1 p2 p3 => ?_
    rw [hsl] at p1 ⊢
    refine kk _ h ad H' _ la (hR.put ha hbA rfl ⟨rfl, rfl⟩ rfl (fun k b w => rfl) (fun k b w => rfl) (fun k b w => g_u2_ne (by rintro ⟨-, z⟩; exact w z)) (fun _ _ => rfl) (fun _ _ => rfl) (fun _ _ => rfl) p2 p3 (by rw [ht, ← e1]; exact g_objs_14 q hq) (fun q' hq' ht' => ?_) (fun q' hq' ht' => absurd (e1.trans (ht.symm.trans ht')) (g_apart q hq q' hq'))) hE hL hS.tl.tl (fun w hw => ?_) hla
    · obtain rfl : q' = q := g_uni (fun q : g_O => q.1) g_objs g_objs_nd q' hq' q hq (by rw [← ht', e1, ht])
      refine ⟨t_OB.to (V := updV (g_fv u ad t q'.2.2 a) j (va_rf (v.map ad))) ⟨_, p1, by rw [e1]; exact q2, q3, by rw [e1]; exact t_set q4 hap hj _⟩ (fun j' hj' => ?_), fun j' kt hj' hk2 => ?_⟩
      · by_cases e5 : j' = j
        · subst e5
          unfold g_fv
          rw [List.getD_eq_getElem?_getD, hks, e1]
          show updV _ _ _ _ = va_rf (Option.map ad (g_u2 _ _ _ _ _ _))
          rw [← e2, g_u2_eq]
          simp [updV]
        · have e6 : updV (g_fv u ad t q'.2.2 a) j (va_rf (v.map ad)) j' = g_fv u ad t q'.2.2 a j' := by simp [updV, e5]
          rw [e6, e1]
          unfold g_fv
          have e7 : g_R (g_setR u k a v) (j' * 64 + t) a = g_R u (j' * 64 + t) a := g_u2_ne (by rintro ⟨w, -⟩; omega)
          rw [e7]
          rfl
      · by_cases e5 : j' = j
        · subst e5
          rw [hks] at hj'
          cases hj'
          show g_okT _ _ (g_u2 _ _ _ _ _ _)
          rw [e1, ← e2, g_u2_eq]
          refine fun b hb => ?_
          obtain ⟨w1, w2⟩ := hS.hd b hb
          refine ⟨?_, w2⟩
          rcases htv with w | w
          · exact Or.inl w
          · subst w
            exact w1
        · show g_okT _ _ (g_u2 _ _ _ _ _ _)
          rw [g_u2_ne (by rintro ⟨w, -⟩; omega)]
          exact (hR.2.2.2.1 q' hq' a ha ht').2 j' kt hj' hk2
    · rcases List.mem_append.mp hw with w9 | w9
      · exact hlo w w9
      · rw [List.mem_singleton.mp w9]
        exact hbA
theorem r_pRF {K : g_C} {cc : ByteArray} {own : String} {ret : Option FieldType} {u : g_St} {ls : List (Nat × g_V)} {st : List g_V} {pc : Nat} {out : g_Out} (hK : g_OK K cc own "<init>" ret) {α : Type} {o : α} {k t tg index : Nat} {n : String} {r : Option Nat} {v : Option Nat} {F : g_St → Option α} {tv : Nat} {dd : String} {ty : FieldType} (hty : parseFieldDescriptor dd = some ty) (hrf : ty.isReference = true) (htv : tg = 63 ∨ tv = tg) (hf : g_Fd k t 2 tg own n dd true) (h0 : g_old t = 0) (hl : Cond.fieldLink own index own n dd ∈ g_tbl) (hd : decode cc pc = .ok (.putfield index, 3)) (h : g_pR u k r v F = some o) (kk : ∀ u1, F u1 = some o → g_W K u1 ls st (pc + 3) out) : g_W K u ls (g_r tv v :: g_r t r :: st) pc out := by
  obtain ⟨p, l, e, s, m, args, below, meth, c, nL, d, u0, ad0, G⟩ := K
  obtain ⟨hx, hb, hml, hown, hts, hKn, hlk, hnm, hret, htr⟩ := hK
  intro ad H locs la hR hE hL hS hlo hla
  cases r with
  | none => exact absurd h (by simp [g_pR])
  | some a =>
    obtain ⟨ht, ha⟩ := hS.tl.hd a rfl
    have ht : a % 64 = t := by
      rcases ht with w | w
      · obtain ⟨q, j, hq, e1, -⟩ := hf
        have := g_objs_lt q hq
        omega
      · exact w
    have hbA : g_b0 G ≤ ad a := (hR.2.2.1 a ha).2.1 (by rw [ht, h0]; exact Nat.zero_le _)
    obtain ⟨q, j, hq, e1, e2, hj, hks, hT, ⟨cell, q1, q2, q3, q4⟩, hval, hok⟩ := g_field hR hf (by decide) ha ht
    obtain ⟨⟨hS', hfc, kC, hkC, hkind⟩, hap⟩ := hKn.1 q hq
    obtain ⟨cf, kf, fi, f, hi, hsl⟩ := hS' j hj
    have hst := (u_facts hfc hkC (u_lays hts (g_objs_in q hq) hj) hi).1
    have hlay := hts _ (g_objs_in q hq _ (u_in_lay hj))
    unfold u_lay at hlay
    rw [if_pos (by rw [hT])] at hlay
    have hcf : m.cls = cf := by
      obtain ⟨_, _, c', _, _, _, -, -, hf', -, -, -, hown2, -⟩ := Cond.laysFinal_spec hlay
      have e3 : c' = cf := by have := hi.symm.trans hf'; simp at this; exact this.1.symm
      rw [hT] at hown2
      rw [← e3]; exact Option.some.inj (hown.symm.trans hown2)
    rw [e1] at hsl hap
    have h6 := u_fits hfc hkC hkind (Or.inr hlay) hi (by rw [hT]; exact hty) (v := va_rf (v.map ad)) (g_nar hrf _) (g_fit hrf _)
    have hi' := hi
    rw [hT] at hi'
    refine W.putFinK hx hb hown (hts _ hl) hi' hst hcf hnm (by rw [q2, ← e1]; exact h6) q1 q3 (by rw [hsl]; exact k2_hasslot (q4 j hj)) rfl rfl hd fun H' p1 p2 p3 => ?_
    rw [hsl] at p1 ⊢
    refine kk _ h ad H' _ la (hR.put ha hbA rfl ⟨rfl, rfl⟩ rfl (fun k b w => rfl) (fun k b w => rfl) (fun k b w => g_u2_ne (by rintro ⟨-, z⟩; exact w z)) (fun _ _ => rfl) (fun _ _ => rfl) (fun _ _ => rfl) p2 p3 (by rw [ht, ← e1]; exact g_objs_14 q hq) (fun q' hq' ht' => ?_) (fun q' hq' ht' => absurd (e1.trans (ht.symm.trans ht')) (g_apart q hq q' hq'))) hE hL hS.tl.tl (fun w hw => ?_) hla
    · obtain rfl : q' = q := g_uni (fun q : g_O => q.1) g_objs g_objs_nd q' hq' q hq (by rw [← ht', e1, ht])
      refine ⟨t_OB.to (V := updV (g_fv u ad t q'.2.2 a) j (va_rf (v.map ad))) ⟨_, p1, by rw [e1]; exact q2, q3, by rw [e1]; exact t_set q4 hap hj _⟩ (fun j' hj' => ?_), fun j' kt hj' hk2 => ?_⟩
      · by_cases e5 : j' = j
        · subst e5
          unfold g_fv
          rw [List.getD_eq_getElem?_getD, hks, e1]
          show updV _ _ _ _ = va_rf (Option.map ad (g_u2 _ _ _ _ _ _))
          rw [← e2, g_u2_eq]
          simp [updV]
        · have e6 : updV (g_fv u ad t q'.2.2 a) j (va_rf (v.map ad)) j' = g_fv u ad t q'.2.2 a j' := by simp [updV, e5]
          rw [e6, e1]
          unfold g_fv
          have e7 : g_R (g_setR u k a v) (j' * 64 + t) a = g_R u (j' * 64 + t) a := g_u2_ne (by rintro ⟨w, -⟩; omega)
          rw [e7]
          rfl
      · by_cases e5 : j' = j
        · subst e5
          rw [hks] at hj'
          cases hj'
          show g_okT _ _ (g_u2 _ _ _ _ _ _)
          rw [e1, ← e2, g_u2_eq]
          refine fun b hb => ?_
          obtain ⟨w1, w2⟩ := hS.hd b hb
          refine ⟨?_, w2⟩
          rcases htv with w | w
          · exact Or.inl w
          · subst w
            exact w1
        · show g_okT _ _ (g_u2 _ _ _ _ _ _)
          rw [g_u2_ne (by rintro ⟨w, -⟩; omega)]
          exact (hR.2.2.2.1 q' hq' a ha ht').2 j' kt hj' hk2
    · rcases List.mem_append.mp hw with w9 | w9
      · exact hlo w w9
      · rw [List.mem_singleton.mp w9]
        exact hbA
