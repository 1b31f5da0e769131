/-! STRINGS: a text is a number of kind 14 below 37; its bytes are the number 37 further on -/
def g_tI {α : Type} (f : Nat → Int32) (r : Option Nat) (F : Int32 → Option α) : Option α := match r with
  | none => none
  | some a => if a / 64 < 37 then F (f a) else none
def g_tR {α : Type} (f : Nat → Nat) (r : Option Nat) (F : Option Nat → Option α) : Option α := match r with
  | none => none
  | some a => if a / 64 < 37 then F (some (f a)) else none
def g_bln {α : Type} (r : Option Nat) (F : Int32 → Option α) : Option α := match r with
  | none => none
  | some a => if a / 64 < 37 ∨ 74 ≤ a / 64 then none else F (Int32.ofNat (g_tx.getD (a / 64 - 37) []).length)
def g_bla {α : Type} (r : Option Nat) (i : Int32) (F : Int32 → Option α) : Option α := match r with
  | none => none
  | some a => if (a / 64 < 37 ∨ 74 ≤ a / 64) ∨ (i < 0 ∨ (g_tx.getD (a / 64 - 37) []).length ≤ i.toNatClampNeg) then none else F ((g_tx.getD (a / 64 - 37) []).getD i.toNatClampNeg 0)
def g_str {α : Type} (r : Option Nat) (F : Option α) : Option α := match r with
  | none => none
  | some a => if a / 64 < 37 then F else none
def g_rC {α : Type} (x : Int32) (F : Option α) : Option α := if x.toUInt32.toUInt16.toUInt32.toInt32 = x then F else none
def g_rB {α : Type} (x : Int32) (F : Option α) : Option α := if x.toInt8.toInt32 = x then F else none
theorem r_tI {K : g_C} {cc : ByteArray} {own nm : String} {ret : Option FieldType} {u : g_St} {ls : List (Nat × g_V)} {st : List g_V} {pc : Nat} {out : g_Out} (hK : g_OK K cc own nm ret) {α : Type} {o : α} {index : Nat} {C n dd : String} {f : Nat → Int32} {r : Option Nat} {F : Int32 → Option α} (hq : ∀ a, a % 64 = 14 → a / 64 < 37 → ((a, C, n, dd, .inl (f a)) : Nat × String × String × String × (Int32 ⊕ Nat)) ∈ g_stF) (hl : Cond.fieldLink own index C n dd ∈ g_tbl) (hd : decode cc pc = .ok (.getfield index, 3)) (h : g_tI f r F = some o) (kk : ∀ x, F x = some o → g_W K u ls (g_i x :: st) (pc + 3) out) : g_W K u ls (g_r 14 r :: st) pc out := by
  obtain ⟨p, l, e, s, m, args, below, meth, c, nL, d, u0, ad0, G⟩ := K
  obtain ⟨hx, hb, hml, hown, hts, hKn, hlk, hnm, hret, htr⟩ := hK
  intro ad H locs la hR hE hL hS hlo hla
  cases r with
  | none => exact absurd h (by simp [g_tI])
  | some a =>
    obtain ⟨ht, hal⟩ := hS.hd a rfl
    have ht : a % 64 = 14 := by
      rcases ht with w | w
      · cases w
      · exact w
    have hl74 : a / 64 < 75 := by
      have h9 := hR.2.2.2.2.2.2.2.2 14 (by decide)
      have hal9 := hal
      unfold g_al at hal9
      rw [ht, h9] at hal9
      exact hal9
    have hsa : ad a = g_sa G a := (hR.2.2.1 a hal).2.2 (by rw [ht]; exact hl74)
    have hlt : a / 64 < 37 := by
      by_cases w : a / 64 < 37
      · exact w
      · rw [g_tI, if_neg w] at h; cases h
    rw [g_tI, if_pos hlt] at h
    obtain ⟨cf, kk1, ii, fd, cell, z1, z2, z3, z4, z5, z6⟩ := hKn.2.2.2.2.2.1 _ (hq a ht hlt)
    have hcell : H[ad a]? = some cell := by
      rw [hsa, hR.1.2 _ (Nat.not_le.mp z6)]
      exact z3
    exact W.getf hx hb hown (hts _ hl) z1 z2 hcell z4 (v := .int (f a)) z5 rfl rfl hd (kk _ h ad H locs la hR hE hL hS.tl.int hlo hla)
theorem r_tR {K : g_C} {cc : ByteArray} {own nm : String} {ret : Option FieldType} {u : g_St} {ls : List (Nat × g_V)} {st : List g_V} {pc : Nat} {out : g_Out} (hK : g_OK K cc own nm ret) {α : Type} {o : α} {index : Nat} {C n dd : String} {f : Nat → Nat} {r : Option Nat} {F : Option Nat → Option α} (hf : ∀ a, a / 64 < 37 → f a % 64 = 14 ∧ f a / 64 < 74) (hq : ∀ a, a % 64 = 14 → a / 64 < 37 → ((a, C, n, dd, .inr (f a)) : Nat × String × String × String × (Int32 ⊕ Nat)) ∈ g_stF) (hl : Cond.fieldLink own index C n dd ∈ g_tbl) (hd : decode cc pc = .ok (.getfield index, 3)) (h : g_tR f r F = some o) (kk : ∀ x, F x = some o → g_W K u ls (g_r 14 x :: st) (pc + 3) out) : g_W K u ls (g_r 14 r :: st) pc out := by
  obtain ⟨p, l, e, s, m, args, below, meth, c, nL, d, u0, ad0, G⟩ := K
  obtain ⟨hx, hb, hml, hown, hts, hKn, hlk, hnm, hret, htr⟩ := hK
  intro ad H locs la hR hE hL hS hlo hla
  cases r with
  | none => exact absurd h (by simp [g_tR])
  | some a =>
    obtain ⟨ht, hal⟩ := hS.hd a rfl
    have ht : a % 64 = 14 := by
      rcases ht with w | w
      · cases w
      · exact w
    have hl74 : a / 64 < 75 := by
      have h9 := hR.2.2.2.2.2.2.2.2 14 (by decide)
      have hal9 := hal
      unfold g_al at hal9
      rw [ht, h9] at hal9
      exact hal9
    have hsa : ad a = g_sa G a := (hR.2.2.1 a hal).2.2 (by rw [ht]; exact hl74)
    have hlt : a / 64 < 37 := by
      by_cases w : a / 64 < 37
      · exact w
      · rw [g_tR, if_neg w] at h; cases h
    rw [g_tR, if_pos hlt] at h
    obtain ⟨cf, kk1, ii, fd, cell, z1, z2, z3, z4, z5, z6⟩ := hKn.2.2.2.2.2.1 _ (hq a ht hlt)
    have hcell : H[ad a]? = some cell := by
      rw [hsa, hR.1.2 _ (Nat.not_le.mp z6)]
      exact z3
    have hf1 := hf a hlt
    have hal1 : g_al u (f a) := by
      unfold g_al
      rw [hf1.1]
      exact Nat.lt_of_lt_of_le (show f a / 64 < 75 by omega) (hR.2.2.2.2.2.2.2.1 14)
    have hsa1 : ad (f a) = g_sa G (f a) := (hR.2.2.1 _ hal1).2.2 (by rw [hf1.1]; show _ < 75; omega)
    have k9 := kk _ h ad H locs la hR hE hL (hS.tl.cons (fun b hb => by cases hb; exact ⟨Or.inr hf1.1, hal1⟩)) hlo hla
    refine W.getf hx hb hown (hts _ hl) z1 z2 hcell z4 (v := .ref (g_sa G (f a))) z5 rfl rfl hd ?_
    have e9 : g_v ad (g_r 14 (some (f a))) = .ref (g_sa G (f a)) := by rw [← hsa1]; rfl
    rw [← e9]
    exact k9
theorem g_stT_b (i : Nat) (h : i < 37) : (((i + 37) * 64 + 14, .byte, (g_tx.getD i []).map Sum.inl) : Nat × FieldType × List (Int32 ⊕ Nat)) ∈ g_stT := List.mem_append_left _ (List.mem_map.mpr ⟨i, List.mem_range.mpr h, rfl⟩)
theorem r_bln {K : g_C} {cc : ByteArray} {own nm : String} {ret : Option FieldType} {u : g_St} {ls : List (Nat × g_V)} {st : List g_V} {pc : Nat} {out : g_Out} (hK : g_OK K cc own nm ret) {α : Type} {o : α} {r : Option Nat} {F : Int32 → Option α} (hd : decode cc pc = .ok (.arraylength, 1)) (h : g_bln r F = some o) (kk : ∀ x, F x = some o → g_W K u ls (g_i x :: st) (pc + 1) out) : g_W K u ls (g_r 14 r :: st) pc out := by
  obtain ⟨p, l, e, s, m, args, below, meth, c, nL, d, u0, ad0, G⟩ := K
  obtain ⟨hx, hb, hml, hown, hts, hKn, hlk, hnm, hret, htr⟩ := hK
  intro ad H locs la hR hE hL hS hlo hla
  cases r with
  | none => exact absurd h (by simp [g_bln])
  | some a =>
    obtain ⟨ht, hal⟩ := hS.hd a rfl
    have ht : a % 64 = 14 := by
      rcases ht with w | w
      · cases w
      · exact w
    have hl74 : a / 64 < 75 := by
      have h9 := hR.2.2.2.2.2.2.2.2 14 (by decide)
      have hal9 := hal
      unfold g_al at hal9
      rw [ht, h9] at hal9
      exact hal9
    have hsa : ad a = g_sa G a := (hR.2.2.1 a hal).2.2 (by rw [ht]; exact hl74)
    have hlt : ¬ (a / 64 < 37 ∨ 74 ≤ a / 64) := fun w => by rw [g_bln, if_pos w] at h; cases h
    rw [g_bln, if_neg hlt] at h
    obtain ⟨cell, c1, c2, c3, c4, c5, c6, c7⟩ := hKn.2.2.2.2.2.2.1 _ (g_stT_b (a / 64 - 37) (by omega))
    have ea : (a / 64 - 37 + 37) * 64 + 14 = a := by omega
    rw [ea] at c1 c7
    rw [List.length_map] at c5
    refine W.alen (n := Int32.ofNat (g_tx.getD (a / 64 - 37) []).length) hx hb (cell := cell) (ty := .byte) ?_ c2 c5 rfl rfl hd (kk _ h ad H locs la hR hE hL hS.tl.int hlo hla)
    rw [hsa, hR.1.2 _ (Nat.not_le.mp c7)]
    exact c1
theorem r_bla {K : g_C} {cc : ByteArray} {own nm : String} {ret : Option FieldType} {u : g_St} {ls : List (Nat × g_V)} {st : List g_V} {pc : Nat} {out : g_Out} (hK : g_OK K cc own nm ret) {α : Type} {o : α} {i : Int32} {r : Option Nat} {F : Int32 → Option α} (hd : decode cc pc = .ok (.baload, 1)) (h : g_bla r i F = some o) (kk : ∀ x, F x = some o → g_W K u ls (g_i x :: st) (pc + 1) out) : g_W K u ls (g_i i :: g_r 14 r :: st) pc out := by
  obtain ⟨p, l, e, s, m, args, below, meth, c, nL, d, u0, ad0, G⟩ := K
  obtain ⟨hx, hb, hml, hown, hts, hKn, hlk, hnm, hret, htr⟩ := hK
  intro ad H locs la hR hE hL hS hlo hla
  cases r with
  | none => exact absurd h (by simp [g_bla])
  | some a =>
    obtain ⟨ht, hal⟩ := hS.tl.hd a rfl
    have ht : a % 64 = 14 := by
      rcases ht with w | w
      · cases w
      · exact w
    have hl74 : a / 64 < 75 := by
      have h9 := hR.2.2.2.2.2.2.2.2 14 (by decide)
      have hal9 := hal
      unfold g_al at hal9
      rw [ht, h9] at hal9
      exact hal9
    have hsa : ad a = g_sa G a := (hR.2.2.1 a hal).2.2 (by rw [ht]; exact hl74)
    have hin : ¬ ((a / 64 < 37 ∨ 74 ≤ a / 64) ∨ (i < 0 ∨ (g_tx.getD (a / 64 - 37) []).length ≤ i.toNatClampNeg)) := fun w => by rw [g_bla, if_pos w] at h; cases h
    rw [g_bla, if_neg hin] at h
    have hlt : i.toNatClampNeg < (g_tx.getD (a / 64 - 37) []).length := Nat.not_le.mp fun w => hin (Or.inr (Or.inr w))
    obtain ⟨cell, c1, c2, c3, c4, c5, c6, c7⟩ := hKn.2.2.2.2.2.2.1 _ (g_stT_b (a / 64 - 37) (by omega))
    have ea : (a / 64 - 37 + 37) * 64 + 14 = a := by omega
    rw [ea] at c1 c7
    rw [List.length_map] at c4
    have c6 := c6 i.toNatClampNeg (by rw [List.length_map]; exact hlt)
    have e5 : ((g_tx.getD (a / 64 - 37) []).map Sum.inl : List (Int32 ⊕ Nat)).getD i.toNatClampNeg (.inl 0) = .inl ((g_tx.getD (a / 64 - 37) []).getD i.toNatClampNeg 0) := by
      generalize g_tx.getD (a / 64 - 37) [] = L9
      rw [List.getD_eq_getElem?_getD, List.getElem?_map, List.getD_eq_getElem?_getD]
      cases L9[i.toNatClampNeg]? <;> rfl
    refine W.bald (v := .int ((g_tx.getD (a / 64 - 37) []).getD i.toNatClampNeg 0)) hx hb (cell := cell) ?_ c2 c3 (fun w => by rcases w with w | w; exact hin (Or.inr (Or.inl w)); omega) ?_ rfl rfl hd (kk _ h ad H locs la hR hE hL hS.tl.tl.int hlo hla)
    · rw [hsa, hR.1.2 _ (Nat.not_le.mp c7)]
      exact c1
    · rw [c6]
      dsimp only
      rw [e5]
      rfl
theorem r_creturn {K : g_C} {cc : ByteArray} {own nm : String} {u : g_St} {ls : List (Nat × g_V)} {pc : Nat} (hK : g_OK K cc own nm (some .char)) {x : Int32} {o : Int32 × g_St} (hd : decode cc pc = .ok (.ireturn, 1)) (h : g_rC x (some (x, u)) = some o) : g_W K u ls [g_i x] pc (g_jI o) := by
  have hz : x.toUInt32.toUInt16.toUInt32.toInt32 = x := by
    by_cases w : x.toUInt32.toUInt16.toUInt32.toInt32 = x
    · exact w
    · rw [g_rC, if_neg w] at h; cases h
  rw [g_rC, if_pos hz] at h
  have hnar : narrow .char (.int x) = .int x := congrArg Value.int hz
  cases h
  obtain ⟨p, l, e, s, m, args, below, meth, c, nL, d, u0, ad0, G⟩ := K
  obtain ⟨hx, hb, hml, hown, hts, hKn, hlk, hnm, hret, htr⟩ := hK
  intro ad H locs la hR hE hL hS hlo hla
  exact g_mono (W.zret (Qc := fun _ _ o t => g_End G u0 ad0 (g_jI (x, u)) o t) (free := fun q => g_b0 G ≤ q) hx hb hret hnar (fun t ht hW => ⟨ad, rfl, by rw [ht]; exact hR, hE, fun w hw => by cases hw; trivial⟩) hlo hd hlk) (fun t ht => g_MQ ht)
theorem r_breturn {K : g_C} {cc : ByteArray} {own nm : String} {u : g_St} {ls : List (Nat × g_V)} {pc : Nat} (hK : g_OK K cc own nm (some .byte)) {x : Int32} {o : Int32 × g_St} (hd : decode cc pc = .ok (.ireturn, 1)) (h : g_rB x (some (x, u)) = some o) : g_W K u ls [g_i x] pc (g_jI o) := by
  have hz : x.toInt8.toInt32 = x := by
    by_cases w : x.toInt8.toInt32 = x
    · exact w
    · rw [g_rB, if_neg w] at h; cases h
  rw [g_rB, if_pos hz] at h
  have hnar : narrow .byte (.int x) = .int x := congrArg Value.int hz
  cases h
  obtain ⟨p, l, e, s, m, args, below, meth, c, nL, d, u0, ad0, G⟩ := K
  obtain ⟨hx, hb, hml, hown, hts, hKn, hlk, hnm, hret, htr⟩ := hK
  intro ad H locs la hR hE hL hS hlo hla
  exact g_mono (W.zret (Qc := fun _ _ o t => g_End G u0 ad0 (g_jI (x, u)) o t) (free := fun q => g_b0 G ≤ q) hx hb hret hnar (fun t ht hW => ⟨ad, rfl, by rw [ht]; exact hR, hE, fun w hw => by cases hw; trivial⟩) hlo hd hlk) (fun t ht => g_MQ ht)
set_option maxHeartbeats 1000000 in
theorem i_VS {K : g_C} {cc : ByteArray} {own nm : String} {ret : Option FieldType} {u : g_St} {ls : List (Nat × g_V)} {st : List g_V} {pc : Nat} {out : g_Out} (hK : g_OK K cc own nm ret) {t b : Nat} {index ny dy : Nat} {y : MethodName} {cy : ByteArray} {ry : Option FieldType} {avL stk : List g_V} {v : Option g_V} {u1 : g_St} (ht14 : t = 14) (hb37 : b / 64 < 37) (hin : Cond.instanceMethod y ∈ g_tbl) (hse : Cond.selects "java/lang/String" y y ∈ g_tbl) 
    (hlink : Cond.methodLink own index y ∈ g_tbl) (hcode : Cond.code y cy ny ry ∈ g_tbl) (hini : Cond.initialized y.cls ∈ g_tbl) (hy : y.cls ≠ "java/lang/invoke/MethodHandle" ∧ y.cls ≠ "java/lang/invoke/VarHandle") (hlen : (parseMethodDescriptor y.desc).map (fun z => z.parameters.length) = some avL.length)
    (hdd : dy + 1 ≤ g_Kd K) (hwd : g_wid st + ny + 11 ≤ 64) (hsk : stk = avL.reverse ++ g_r t (some b) :: st) (hd : decode cc pc = .ok (.invokevirtual index, 3)) (hC : g_Con (g_Kl K) (g_KG K) y cy ny ry dy (g_r t (some b) :: avL) u (.inl v, u1)) (kk : g_W K u1 ls (v.toList ++ st) (pc + 3) out) : g_W K u ls stk pc out := by
  subst hsk
  obtain ⟨p, l, e, s, m, args, below, meth, c, nL, d, u0, ad0, G⟩ := K
  obtain ⟨hx, hb, hml, hown, hts, hKn, hlk, hnm, hret, htr⟩ := hK
  intro ad H locs la hR hE hL hS hlo hla
  intro T hT X
  have hokr := hS.app
  have hok : g_okS u (g_r t (some b) :: avL) := hokr.2.tl.mono (fun _ h => h) |> fun _ => (show g_okS u avL from fun x hx => hokr.1 x (List.mem_reverse.mpr hx)).cons hokr.2.hd
  have hB := g_back (p := p) (l := l) (G := G) (e := e) (s := s) (args := args) (below := below) (u0 := u0) (ad := ad) (d := d) (wd := g_wid st) hC htr hok hKn hE.2 hdd hwd hcode hini
  have hstk : (F0 m pc la ((avL.reverse ++ g_r t (some b) :: st).map (g_v ad))).stack = (avL.map (g_v ad)).reverse ++ .ref (ad b) :: st.map (g_v ad) := by
    show (avL.reverse ++ g_r t (some b) :: st).map (g_v ad) = _
    rw [List.map_append, List.map_reverse]
    rfl
  have hlen2 : ∀ sig, parseMethodDescriptor y.desc = some sig → (avL.map (g_v ad)).length = sig.parameters.length := fun sig hsig => by
    rw [hsig] at hlen
    rw [List.length_map]
    exact (Option.some.inj hlen).symm
  have hwd2 : 2 * (F0 m pc la ((avL.reverse ++ g_r t (some b) :: st).map (g_v ad))).monitorRoom + ((st.map (g_v ad)).map fun v => v.category).sum ≤ g_wid st := by
    rw [g_cats]
    show 2 * 0 + g_wid st ≤ g_wid st
    omega
  have hpre : ∀ vm1, s.WarmedH vm1 → (Value.ref (ad b) :: avL.map (g_v ad)).toArray = ((g_r t (some b) :: avL).map (g_v ad)).toArray ∧ g_Rep G u ad ((T.setVm vm1 : State)).heap ∧ g_cn u - g_cn u0 = g_cn u - g_cn u0 ∧ g_sn u - g_sn u0 = g_sn u - g_sn u0 := fun vm1 _ => ⟨rfl, by show g_Rep G u ad T.heap; rw [hT]; exact hR, rfl, rfl⟩
  obtain ⟨hb1, hb2⟩ := hokr.2.hd b rfl
  have htb : b % 64 = 14 := by
    rcases hb1 with z | z
    · rw [ht14] at z; cases z
    · rw [← ht14]; exact z
  obtain ⟨cell, c1, c2, c3, c4⟩ := hKn.2.2.2.2.1 (b, "java/lang/String") (List.mem_append_right _ (List.mem_map.mpr ⟨b / 64, List.mem_range.mpr hb37, by rw [show b / 64 * 64 + 14 = b by omega]⟩))
  have hsa : ad b = g_sa G b := (hR.2.2.1 b hb2).2.2 (by rw [htb]; show _ < 75; omega)
  have q1 : H[ad b]? = some cell := by
    rw [hsa, hR.1.2 _ (Nat.not_le.mp c4)]
    exact c1
  have := callV X hx (C := "java/lang/String") hown (hts _ hlink) (hts _ hin) (hts _ hse) (hts _ hcode) hy hB (b := ad b) (cellB := cell) (by rw [hT]; exact q1) c2 c3 (g := F0 m pc la ((avL.reverse ++ g_r t (some b) :: st).map (g_v ad))) rfl (by rw [hml]; exact hla.1) hlen2 hstk hwd2 (by rw [hb]; exact hd) hpre
  obtain ⟨w, vm1, B, hW1, X1, ⟨ad1, e1, hR1, hE1, hv1, hB1, hB2, L, hL1, hL2⟩, hst⟩ := this
  have ha1 : ∀ a, g_al u a → ad1 a = ad a := fun a ha => (hE1.1 a ha).2
  have hmo : ∀ a, g_al u a → g_al u1 a := fun a ha => (hE1.1 a ha).1
  have hSt : g_okS u st := hokr.2.tl
  have k9 := kk ad1 B.U.heap B.locs la hR1 (hE.trans hE1) (hL.mono hmo) (fun x hx => by
    rcases List.mem_append.mp hx with z | z
    · exact hv1 x (Option.mem_toList.mp z)
    · exact (hSt x z).mono hmo) (fun q hq => by
    rw [hL1] at hq
    rcases List.mem_append.mp hq with z | z
    · exact hlo q z
    · exact hL2 q z) (by rw [g_ls_eq ha1 hL]; exact hla)
  rw [← hB1, ← hB2] at k9
  obtain ⟨t9, a9, b9⟩ := k9 B.U rfl X1
  refine ⟨t9, hst t9 ?_, b9⟩
  rw [List.map_append, g_st_eq ha1 hSt] at a9
  rw [e1]
  have e9 : (v.map (g_v ad1)).toList = v.toList.map (g_v ad1) := by cases v <;> rfl
  rw [e9]
  exact a9
theorem r_VSi {K : g_C} {cc : ByteArray} {own nm : String} {ret : Option FieldType} {u : g_St} {ls : List (Nat × g_V)} {st : List g_V} {pc : Nat} {out : g_Out} (hK : g_OK K cc own nm ret) {α : Type} {o : α} {r : Option Nat} {index ny dy : Nat} {y : MethodName} {cy : ByteArray} {ry : Option FieldType} {avL stk : List g_V} {Y : Option (Int32 × g_St)} {F : Int32 → g_St → Option α} (hin : Cond.instanceMethod y ∈ g_tbl) (hse : Cond.selects "java/lang/String" y y ∈ g_tbl) (hlink : Cond.methodLink own index y ∈ g_tbl) (hcode : Cond.code y cy ny ry ∈ g_tbl) (hini : Cond.initialized y.cls ∈ g_tbl) (hy : y.cls ≠ "java/lang/invoke/MethodHandle" ∧ y.cls ≠ "java/lang/invoke/VarHandle") (hlen : (parseMethodDescriptor y.desc).map (fun z => z.parameters.length) = some avL.length)
    (hdd : dy + 1 ≤ g_Kd K) (hwd : g_wid st + ny + 11 ≤ 64) (hsk : stk = avL.reverse ++ g_r 14 r :: st) (hd : decode cc pc = .ok (.invokevirtual index, 3)) (hC : ∀ o', Y = some o' → g_Con (g_Kl K) (g_KG K) y cy ny ry dy (g_r 14 r :: avL) u (g_jI o')) (h : g_c (g_str r Y) F = some o) (kk : ∀ x u1, F x u1 = some o → g_W K u1 ls (g_i x :: st) (pc + 3) out) : g_W K u ls stk pc out := by
  cases r with
  | none => exact absurd h (by simp [g_c, g_str])
  | some b =>
    by_cases w : b / 64 < 37
    · rw [g_str, if_pos w] at h
      cases hY : Y with
      | none => rw [hY] at h; exact absurd h (by simp [g_c])
      | some o' =>
        rw [hY] at h
        obtain ⟨x, u1⟩ := o'
        exact i_VS hK rfl w hin hse hlink hcode hini hy hlen hdd hwd hsk hd (hC _ hY) (kk x u1 h)
    · rw [g_str, if_neg w] at h
      exact absurd h (by simp [g_c])
/-- the law's script -/
def g_scl {α : Type} (sc : Nat × (Nat → Int32)) (r : Option Nat) (F : Int32 → Option α) : Option α := match r with
  | none => none
  | some a => if a / 64 = 74 then F (Int32.ofNat sc.1) else none
def g_sca {α : Type} (sc : Nat × (Nat → Int32)) (r : Option Nat) (i : Int32) (F : Int32 → Option α) : Option α := match r with
  | none => none
  | some a => if a / 64 = 74 ∧ ¬ (i < 0 ∨ sc.1 ≤ i.toNatClampNeg) then F (sc.2 i.toNatClampNeg) else none
theorem r_scl {K : g_C} {cc : ByteArray} {own nm : String} {ret : Option FieldType} {u : g_St} {ls : List (Nat × g_V)} {st : List g_V} {pc : Nat} {out : g_Out} (hK : g_OK K cc own nm ret) {sc : Nat × (Nat → Int32)} (hG : g_sx (g_KG K) = sc) {α : Type} {o : α} {r : Option Nat} {F : Int32 → Option α} (hd : decode cc pc = .ok (.arraylength, 1)) (h : g_scl sc r F = some o) (kk : ∀ x, F x = some o → g_W K u ls (g_i x :: st) (pc + 1) out) : g_W K u ls (g_r 14 r :: st) pc out := by
  obtain ⟨p, l, e, s, m, args, below, meth, c, nL, d, u0, ad0, G⟩ := K
  obtain ⟨hx, hb, hml, hown, hts, hKn, hlk, hnm, hret, htr⟩ := hK
  intro ad H locs la hR hE hL hS hlo hla
  cases r with
  | none => exact absurd h (by simp [g_scl])
  | some a =>
    obtain ⟨ht, hal⟩ := hS.hd a rfl
    have ht : a % 64 = 14 := by
      rcases ht with w | w
      · cases w
      · exact w
    have hl74 : a / 64 < 75 := by
      have h9 := hR.2.2.2.2.2.2.2.2 14 (by decide)
      have hal9 := hal
      unfold g_al at hal9
      rw [ht, h9] at hal9
      exact hal9
    have hsa : ad a = g_sa G a := (hR.2.2.1 a hal).2.2 (by rw [ht]; exact hl74)
    have hlt : a / 64 = 74 := by
      by_cases w : a / 64 = 74
      · exact w
      · rw [g_scl, if_neg w] at h; cases h
    rw [g_scl, if_pos hlt] at h
    obtain rfl : a = 4750 := by omega
    obtain ⟨⟨scr, c1, c2, c3, c4, c5⟩, c6⟩ := hKn.2.2.2.2.2.2.2.2.2.2.2.2
    have hG : g_sx G = sc := hG
    rw [hG] at c4 c5
    refine W.alen (n := Int32.ofNat sc.1) hx hb (cell := scr) (ty := .int) ?_ c2 (by rw [c4] <;> rfl) rfl rfl hd (kk _ h ad H locs la hR hE hL hS.tl.int hlo hla)
    rw [hsa, hR.1.2 _ c6]
    exact c1
theorem r_sca {K : g_C} {cc : ByteArray} {own nm : String} {ret : Option FieldType} {u : g_St} {ls : List (Nat × g_V)} {st : List g_V} {pc : Nat} {out : g_Out} (hK : g_OK K cc own nm ret) {sc : Nat × (Nat → Int32)} (hG : g_sx (g_KG K) = sc) {α : Type} {o : α} {i : Int32} {r : Option Nat} {F : Int32 → Option α} (hd : decode cc pc = .ok (.iaload, 1)) (h : g_sca sc r i F = some o) (kk : ∀ x, F x = some o → g_W K u ls (g_i x :: st) (pc + 1) out) : g_W K u ls (g_i i :: g_r 14 r :: st) pc out := by
  obtain ⟨p, l, e, s, m, args, below, meth, c, nL, d, u0, ad0, G⟩ := K
  obtain ⟨hx, hb, hml, hown, hts, hKn, hlk, hnm, hret, htr⟩ := hK
  intro ad H locs la hR hE hL hS hlo hla
  cases r with
  | none => exact absurd h (by simp [g_sca])
  | some a =>
    obtain ⟨ht, hal⟩ := hS.tl.hd a rfl
    have ht : a % 64 = 14 := by
      rcases ht with w | w
      · cases w
      · exact w
    have hl74 : a / 64 < 75 := by
      have h9 := hR.2.2.2.2.2.2.2.2 14 (by decide)
      have hal9 := hal
      unfold g_al at hal9
      rw [ht, h9] at hal9
      exact hal9
    have hsa : ad a = g_sa G a := (hR.2.2.1 a hal).2.2 (by rw [ht]; exact hl74)
    have hlt : a / 64 = 74 ∧ ¬ (i < 0 ∨ sc.1 ≤ i.toNatClampNeg) := by
      by_cases w : a / 64 = 74 ∧ ¬ (i < 0 ∨ sc.1 ≤ i.toNatClampNeg)
      · exact w
      · rw [g_sca, if_neg w] at h; cases h
    rw [g_sca, if_pos hlt] at h
    obtain rfl : a = 4750 := by omega
    obtain ⟨⟨scr, c1, c2, c3, c4, c5⟩, c6⟩ := hKn.2.2.2.2.2.2.2.2.2.2.2.2
    have hG : g_sx G = sc := hG
    rw [hG] at c4 c5
    refine W.iald (v := .int (sc.2 i.toNatClampNeg)) hx hb (cell := scr) ?_ c2 c3 (by rw [c4]; exact hlt.2) (c5 _ (Nat.not_le.mp fun w => hlt.2 (Or.inr w))) rfl rfl hd (kk _ h ad H locs la hR hE hL hS.tl.tl.int hlo hla)
    rw [hsa, hR.1.2 _ c6]
    exact c1
/-- a contract over values as they are -/
def g_ConR (l : Launch) (G : g_G) (y : MethodName) (cc : ByteArray) (nL : Nat) (ret : Option FieldType) (d : Nat) (ad : Nat → Nat) (vs : List Value) (u : g_St) (out : g_Out) : Prop :=
  l.stackTraces = false → MetFree l y (headSpec [Cond.code y cc nL ret] (g_room d u)) (fun a s => a = vs.toArray ∧ g_Rep G u ad s.heap ∧ g_Kn G s) (fun _ _ _ _ _ => True) (fun _ s o t => g_End G u ad out o t ∧ g_Fr G u out s t)
set_option maxHeartbeats 1000000 in
theorem g_ConR.of {l : Launch} {G : g_G} {y : MethodName} {cc : ByteArray} {nL : Nat} {ret : Option FieldType} {d : Nat} {ad : Nat → Nat} {vs : List Value} {u : g_St} {out : g_Out} {own nm : String} (eo : y.cls = own) (en : y.name = nm)
    (hy : plainName y.cls = true) (hw : (lg_sl vs).length ≤ nL)
    (body : ∀ (p : Program) (e : Env) (s : State) (m : MethodId) (below : List Frame) (meth : Method) (c : Code) (la : Array Slot), g_OK (p, l, e, s, m, vs.toArray, below, meth, c, nL, d, u, ad, G) cc own nm ret → g_noX (p, l, e, s, m, vs.toArray, below, meth, c, nL, d, u, ad, G) → lv_has la nL (lv_args 0 vs) → g_Rep G u ad s.heap → W p l e (g_room d u) s m vs.toArray below meth c s.heap [] 0 0 (g_Q G u ad s below out) (F0 m 0 la [])) : g_ConR l G y cc nL ret d ad vs u out := by
  intro htr
  refine MetFree.of_bodyS (code := cc) (maxLocals := nL) (ret := ret) hy ?_ ?_
  · intro args s m h hn
    obtain ⟨meth, c, h1, h2, h3, h4, h5, h6, -, -⟩ := Cond.code_spec hn (atoms_spec (ws := [Cond.code y cc nL ret]) h _ List.mem_cons_self)
    exact ⟨meth, c, h1, h2, h3, h4, h5, h6⟩
  · intro p e s m args below meth c s₁ B hml hP _
    obtain ⟨rfl, hR, hKn⟩ := hP
    have hh0 : s₁.heap = s.heap := by rw [B.state]; rfl
    have hmn : meth.name = nm := by rw [← en]; exact (name_of_methodNamed B.named B.method).1
    have hown : s.vm.findClass own = some m.cls := by rw [← eo]; exact findClass_of_methodNamed B.named
    have k2 := body p e s m below meth c _ ⟨B.exec, B.bytes, hml, hown, fun w hw => hKn.2.2.1 w hw _, hKn, B.notSynchronized, hmn, B.returns, htr⟩ (B.noHandlers (atoms_spec (ws := [Cond.code y cc nL ret]) B.pre _ List.mem_cons_self)) (lv_entry vs (n := nL) hw) hR
    have k3 : W p l e (g_room d u) s m vs.toArray below meth c s.heap [] 0 0 (g_Q G u ad s below out) (entryFrame m vs.toArray nL) := by
      rw [lg_entry_eq]
      exact k2
    obtain ⟨t, a1, o, b1, b2, b3, b4⟩ := k3 s₁ hh0 (Stand.of_body B)
    exact ⟨t, o, a1, b1, b2, b3, b4⟩
set_option maxHeartbeats 1000000 in
/-- a callee that returns, for a walk's own call -/
theorem g_backR {p : Program} {l : Launch} {e : Env} {s : State} {args : Array Value} {below : List Frame} {G : g_G} {u0 u : g_St} {ad : Nat → Nat} {y : MethodName} {cy : ByteArray} {ny : Nat} {ry : Option FieldType} {d dy wd : Nat} {vs : List Value} {v : Option g_V} {u1 : g_St}
    (hC : g_ConR l G y cy ny ry dy ad vs u (.inl v, u1)) (htr : l.stackTraces = false) (hKn : g_Kn G s) (hE : g_cn u0 ≤ g_cn u ∧ g_sn u0 ≤ g_sn u) (hdd : dy + 1 ≤ d) (hw : wd + ny + 11 ≤ 64) (hcode : Cond.code y cy ny ry ∈ g_tbl) (hini : Cond.initialized y.cls ∈ g_tbl) :
    Back l (g_room d u0) p e below s args y 3 wd
      (fun A a => a = vs.toArray ∧ g_Rep G u ad A.U.heap ∧ A.cells = g_cn u - g_cn u0 ∧ A.slots = g_sn u - g_sn u0)
      (fun A _ w B => ∃ ad1, w = v.map (g_v ad1) ∧ g_Rep G u1 ad1 B.U.heap ∧ g_Le u ad u1 ad1 ∧ (∀ x, v = some x → g_okV u1 x) ∧ B.cells = g_cn u1 - g_cn u0 ∧ B.slots = g_sn u1 - g_sn u0 ∧ ∃ L, B.locs = A.locs ++ L ∧ ∀ q ∈ L, g_b0 G ≤ q.base) := by
  refine Back.of_free (S := headSpec [Cond.code y cy ny ry] (g_room dy u)) (K := fun _ _ _ _ _ => True) (bytes := cy) (maxL := ny) (ret := ry) (E := fun a st o t L k n => k = g_cn u1 - g_cn u ∧ n = g_sn u1 - g_sn u ∧ (∃ ad1, o = .returned (v.map (g_v ad1)) ∧ g_Rep G u1 ad1 t.heap ∧ g_Le u ad u1 ad1 ∧ ∀ w, v = some w → g_okV u1 w) ∧ ∀ q ∈ L, g_b0 G ≤ q.base) (hC htr) ?_ ?_ ?_ ?_ (fun _ _ _ _ _ _ _ _ _ => trivial) ?_ ?_
  · exact hdd
  · show wd + (ny + 11) + 64 * dy ≤ 64 * d
    omega
  · intro m meth c A a X hp
    have hm := hKn.moved X.warmed
    have h6 := hp.2.1.2.2.2.2.2.1
    have h7 := hp.2.1.2.2.2.2.2.2.1
    refine ⟨atoms_intro fun w hw => by rw [List.mem_singleton.mp hw]; exact hm.2.2.1 _ hcode _, hm.2.2.1 _ hcode _, hm.2.2.1 _ hini _, ?_, ?_⟩
    · show A.cells + (g_LC - g_cn u) ≤ g_LC - g_cn u0
      rw [hp.2.2.1]
      omega
    · show A.slots + (g_LS - g_sn u) ≤ g_LS - g_sn u0
      rw [hp.2.2.2]
      omega
  · intro m meth c A a g mk X hp
    have hm := hKn.moved X.warmed
    exact ⟨hp.1, hp.2.1, g_Kn.moved (U := A.U.calling g mk a) (State.WarmedH.refl A.U) hm⟩
  · intro a first o t hq
    obtain ⟨⟨ad1, h1, h2, h3, h4⟩, hW, L, h5, h6⟩ := hq
    exact ⟨L, _, _, ⟨⟨_, h1⟩, hW, h5⟩, rfl, rfl, ⟨ad1, h1, h2, h3, h4⟩, h6⟩
  · intro m meth c A a g mk w t L k n X hp hq hF hEE
    obtain ⟨rfl, rfl, ⟨ad1, h1, h2, h3, h4⟩, h6⟩ := hEE
    refine ⟨ad1, by cases h1; rfl, h2, h3, h4, ?_, ?_, L, rfl, h6⟩
    · show A.cells + (g_cn u1 - g_cn u) = g_cn u1 - g_cn u0
      have := h3.2.1
      rw [hp.2.2.1]
      omega
    · show A.slots + (g_sn u1 - g_sn u) = g_sn u1 - g_sn u0
      have := h3.2.2
      rw [hp.2.2.2]
      omega
set_option maxHeartbeats 1000000 in
theorem i_SR {p : Program} {l : Launch} {e : Env} {s : State} {m : MethodId} {args : Array Value} {below : List Frame} {meth : Method} {c : Code} {nL d : Nat} {u0 : g_St} {ad0 : Nat → Nat} {G : g_G} {cc : ByteArray} {own nm : String} {ret : Option FieldType} {u : g_St} {ls : List (Nat × g_V)} {st : List g_V} {pc : Nat} {out : g_Out} (hK : g_OK (p, l, e, s, m, args, below, meth, c, nL, d, u0, ad0, G) cc own nm ret) {index ny dy : Nat} {y : MethodName} {cy : ByteArray} {ry : Option FieldType} {vs : List Value} {v : Option g_V} {u1 : g_St} (hsta : Cond.static y ∈ g_tbl)
    (hlink : Cond.methodLink own index y ∈ g_tbl) (hcode : Cond.code y cy ny ry ∈ g_tbl) (hini : Cond.initialized y.cls ∈ g_tbl) (hy : y.cls ≠ "java/lang/invoke/MethodHandle" ∧ y.cls ≠ "java/lang/invoke/VarHandle") (hlen : (parseMethodDescriptor y.desc).map (fun z => z.parameters.length) = some vs.length)
    (hdd : dy + 1 ≤ d) (hwd : g_wid st + ny + 11 ≤ 64) (hd : decode cc pc = .ok (.invokestatic index, 3)) {ad : Nat → Nat} {H : Heap} {locs : List Loc} {la : Array Slot} (hR : g_Rep G u ad H) (hE : g_Le u0 ad0 u ad) (hL : g_okL u ls) (hSt : g_okS u st) (hlo : ∀ q ∈ locs, g_b0 G ≤ q.base) (hla : lv_has la nL (ls.map fun q => (q.1, g_v ad q.2))) (hC : g_ConR l G y cy ny ry dy ad vs u (.inl v, u1)) (kk : g_W (p, l, e, s, m, args, below, meth, c, nL, d, u0, ad0, G) u1 ls (v.toList ++ st) (pc + 3) out) :
    W p l e (g_room d u0) s m args below meth c H locs (g_cn u - g_cn u0) (g_sn u - g_sn u0) (g_Q G u0 ad0 s below out) (F0 m pc la (vs.reverse ++ st.map (g_v ad))) := by
  obtain ⟨hx, hb, hml, hown, hts, hKn, hlk, hnm, hret, htr⟩ := hK
  intro T hT X
  have hB := g_backR (p := p) (l := l) (G := G) (e := e) (s := s) (args := args) (below := below) (u0 := u0) (ad := ad) (d := d) (wd := g_wid st) hC htr hKn hE.2 hdd hwd hcode hini
  have hlen2 : ∀ sig, parseMethodDescriptor y.desc = some sig → vs.length = sig.parameters.length := fun sig hsig => by
    rw [hsig] at hlen
    exact (Option.some.inj hlen).symm
  have hwd2 : 2 * (F0 m pc la (vs.reverse ++ st.map (g_v ad))).monitorRoom + ((st.map (g_v ad)).map fun v => v.category).sum ≤ g_wid st := by
    rw [g_cats]
    show 2 * 0 + g_wid st ≤ g_wid st
    omega
  have hpre : ∀ vm1, s.WarmedH vm1 → vs.toArray = vs.toArray ∧ g_Rep G u ad ((T.setVm vm1 : State)).heap ∧ g_cn u - g_cn u0 = g_cn u - g_cn u0 ∧ g_sn u - g_sn u0 = g_sn u - g_sn u0 := fun vm1 _ => ⟨rfl, by show g_Rep G u ad T.heap; rw [hT]; exact hR, rfl, rfl⟩
  have := callS X hx hown (hts _ hlink) (hts _ hsta) (hts _ hini) (hts _ hcode) hy hB (g := F0 m pc la (vs.reverse ++ st.map (g_v ad))) rfl (by rw [hml]; exact hla.1) hlen2 rfl hwd2 (by rw [hb]; exact hd) hpre
  obtain ⟨w, vm1, B, hW1, X1, ⟨ad1, e1, hR1, hE1, hv1, hB1, hB2, L, hL1, hL2⟩, hst⟩ := this
  have ha1 : ∀ a, g_al u a → ad1 a = ad a := fun a ha => (hE1.1 a ha).2
  have hmo : ∀ a, g_al u a → g_al u1 a := fun a ha => (hE1.1 a ha).1
  have k9 := kk ad1 B.U.heap B.locs la hR1 (hE.trans hE1) (hL.mono hmo) (fun x hx => by
    rcases List.mem_append.mp hx with z | z
    · exact hv1 x (Option.mem_toList.mp z)
    · exact (hSt x z).mono hmo) (fun q hq => by
    rw [hL1] at hq
    rcases List.mem_append.mp hq with z | z
    · exact hlo q z
    · exact hL2 q z) (by rw [g_ls_eq ha1 hL]; exact hla)
  rw [← hB1, ← hB2] at k9
  obtain ⟨t9, a9, b9⟩ := k9 B.U rfl X1
  refine ⟨t9, hst t9 ?_, b9⟩
  rw [List.map_append, g_st_eq ha1 hSt] at a9
  rw [e1]
  have e9 : (v.map (g_v ad1)).toList = v.toList.map (g_v ad1) := by cases v <;> rfl
  rw [e9]
  exact a9
