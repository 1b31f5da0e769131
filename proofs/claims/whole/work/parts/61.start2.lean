/-! THE START, put together: the heap at the start holds the model's first state -/
theorem s_chL {α β : Type} (b0 : β) (l : List α) (f : α → Nat) (P : α → β → Prop) (hn : (l.map f).Nodup) (h : ∀ q ∈ l, ∃ b, P q b) : ∃ g : Nat → β, ∀ q ∈ l, P q (g (f q)) := by
  have h2 : ∀ t, ∃ b, ∀ q ∈ l, f q = t → P q b := by
    intro t
    by_cases e : ∃ q ∈ l, f q = t
    · obtain ⟨q, hq, eq⟩ := e
      obtain ⟨b, hb⟩ := h q hq
      refine ⟨b, fun q' hq' e' => ?_⟩
      have e2 : q' = q := g_uni f l hn q' hq' q hq (by rw [e', eq])
      rw [e2]
      exact hb
    · exact ⟨b0, fun q hq e' => absurd ⟨q, hq, e'⟩ e⟩
  exact ⟨fun t => (h2 t).choose, fun q hq => (h2 (f q)).choose_spec q hq rfl⟩
theorem s_lS {args : Array Value} {s : State} {C n d : String} (hl : (Cond.laysStatic C n d).before args s = true) (h : (Cond.isRef (.static C n d)).before args s = true) : g_lS C n d s s.heap.size s.heap := by
  cases hv : (Term.static C n d).eval args s none [] s with
  | none => simp [Cond.before, Cond.holds, Cond.value, hv] at h
  | some w =>
    simp only [Cond.before, Cond.holds, Cond.value, hv] at h
    obtain ⟨c, k, i, f, a, cell, hc, hi, hst, ha, hcell, hs, hcls, hlt, hty⟩ := Cond.laysStatic_spec hl
    obtain ⟨hst', a', cell', ha', hcell', -, hslot⟩ := Term.static_spec hi hv
    cases ha.symm.trans ha'
    cases hcell.symm.trans hcell'
    have hsz := (Array.getElem?_eq_some_iff.mp hcell).1
    cases w with
    | null => exact ⟨c, k, i, f, a, cell, none, hc, hi, hst, ha, hcell, hs, hcls, hlt, hty, hslot, hsz⟩
    | ref t => exact ⟨c, k, i, f, a, cell, some t, hc, hi, hst, ha, hcell, hs, hcls, hlt, hty, hslot, hsz⟩
    | _ => simp at h
theorem s_OF_eq {s : State} {H : Heap} {o n d : String} {v w : Value} {t : Nat} {A B : Nat → Prop} (h : va_OF o n d v t A s H) (h' : va_OF o n d w t B s H) : v = w := by
  obtain ⟨cf, k, i, f, cell, h1, h2, h3, h4, h5, h6⟩ := h
  obtain ⟨cf', k', i', f', cell', h1', h2', h3', h4', h5', h6'⟩ := h'
  cases h1.symm.trans h1'
  cases h3.symm.trans h3'
  exact Option.some.inj (h5.symm.trans h5')
theorem s_sa13 {kA sA vA : Nat → Nat} {eA wA qA mi b i : Nat} : s_sa kA sA vA eA wA qA mi b (i * 64 + 13) = kA i := by
  unfold s_sa
  rw [if_pos (by omega), show (i * 64 + 13) / 64 = i by omega]
theorem s_sa14 {kA sA vA : Nat → Nat} {eA wA qA mi b i : Nat} (hi : i < 37) : s_sa kA sA vA eA wA qA mi b (i * 64 + 14) = sA i := by
  unfold s_sa
  rw [if_neg (by omega), if_pos (by omega), if_pos (by omega), show (i * 64 + 14) / 64 = i by omega]
theorem s_sa14v {kA sA vA : Nat → Nat} {eA wA qA mi b i : Nat} (hi : i < 37) : s_sa kA sA vA eA wA qA mi b ((i + 37) * 64 + 14) = vA i := by
  unfold s_sa
  rw [if_neg (by omega), if_pos (by omega), if_neg (by omega), if_pos (by omega), show ((i + 37) * 64 + 14) / 64 - 37 = i by omega]
theorem s_old (t : Nat) : g_old t = if t = 13 then 40 else if t = 14 then 75 else if t = 30 then 1 else if t = 40 then 1 else if t = 41 then 1 else 0 := by
  unfold g_old g_olds
  simp only [List.find?, beq_iff_eq]
  by_cases h1 : t = 13
  · subst h1; rfl
  by_cases h2 : t = 14
  · subst h2; rfl
  by_cases h3 : t = 30
  · subst h3; rfl
  by_cases h4 : t = 40
  · subst h4; rfl
  by_cases h5 : t = 41
  · subst h5; rfl
  have e1 : (13 == t) = false := by simpa using fun e => h1 e.symm
  have e2 : (14 == t) = false := by simpa using fun e => h2 e.symm
  have e3 : (30 == t) = false := by simpa using fun e => h3 e.symm
  have e4 : (40 == t) = false := by simpa using fun e => h4 e.symm
  have e5 : (41 == t) = false := by simpa using fun e => h5 e.symm
  simp only [e1, e2, e3, e4, e5, h1, h2, h3, h4, h5, if_false, Option.elim]
theorem s_nold : ∀ q ∈ g_objs, g_old q.1 = 0 := by
  have h : ((g_objs.map fun q => q.1).all fun n => decide (g_old n = 0)) = true := by decide +kernel
  intro q hq
  exact of_decide_eq_true (List.all_eq_true.mp h q.1 (List.mem_map.mpr ⟨q, hq, rfl⟩))
theorem s_getD (G : g_G) (l : List Int32) (j : Nat) : g_sv G ((l.map Sum.inl).getD j (.inl 0)) = .int (l.getD j 0) := by
  rw [List.getD_eq_getElem?_getD, List.getD_eq_getElem?_getD, List.getElem?_map]
  cases l[j]? with
  | none => rfl
  | some v => rfl
set_option maxHeartbeats 4000000 in
theorem s_start {args : Array Value} {s : State} {b L : Nat} {xs : Nat → Int32} (htl : ∀ w ∈ lw_tbl, w.before args s = true) (hts : ∀ w ∈ g_tbl, ∀ a, w.before a s = true) (h : narrow_1.before args s = true) (hX : va_X b L xs s s.heap) :
    ∃ G : g_G, g_b0 G = s.heap.size ∧ g_H0 G = s.heap ∧ g_sx G = (L, xs) ∧ g_sa G 4750 = b ∧ g_Kn G s ∧ g_Rep G g_u0 (g_sa G) s.heap := by
  have hA : ∀ a : Nat, a < s.heap.size → ¬ (fun x => s.heap.size ≤ x) a := fun a h w => absurd h (Nat.not_lt.mpr w)
  have hlt : ∀ {a : Nat} {c : Cell}, s.heap[a]? = some c → a < s.heap.size := fun q => (Array.getElem?_eq_some_iff.mp q).1
  obtain ⟨kA, hkA⟩ := s_ch (P := fun i a => (Term.static "FixpointEngine$Kind" (g_kn.getD i "") "LFixpointEngine$Kind;").eval args s none [] s = some (.ref a)) (n := 40) (fun i hi => by
    obtain ⟨a, _, _, _, ha, _⟩ := Cond.exactly_spec (s_kex h i hi)
    exact ⟨a, ha⟩)
  obtain ⟨sA, hsA⟩ := s_ch (P := fun i a => (Term.string "FixpointEngine$Kind" (s_sk.getD i 0)).eval args s none [] s = some (.ref a)) (n := 37) (fun i hi => by
    obtain ⟨a, _, _, _, ha, _⟩ := Cond.exactly_spec (s_sex h i hi)
    exact ⟨a, ha⟩)
  have hlen : ∀ i, i < 37 → (g_tx.getD i []).length < 2 ^ 31 := fun i hi => by
    have w : ((List.range 37).all fun i => decide ((g_tx.getD i []).length < 2 ^ 31)) = true := by decide +kernel
    exact of_decide_eq_true (List.all_eq_true.mp w i (List.mem_range.mpr hi))
  obtain ⟨vA, hvA⟩ := s_ch (P := fun i t => (Term.field (.string "FixpointEngine$Kind" (s_sk.getD i 0)) "java/lang/String" "value" "[B").eval args s none [] s = some (.ref t) ∧ va_T .byte t (g_tx.getD i []).length (fun j => .int ((g_tx.getD i []).getD j 0)) (fun x => s.heap.size ≤ x) s s.heap) (n := 37) (fun i hi => va_Tof (hlen i hi) (s_sar h i hi) (va_eqt (s_sle h i hi)) (fun j hj => va_eqt (s_sel h i hi j hj)) hA)
  obtain ⟨wA, hw1, hw2⟩ := va_Tof (N := 40) (f := fun j => .int (g_swt.getD j 0)) (A := fun x => s.heap.size ≤ x) (by decide) (s_1 h) (va_eqt (s_2 h)) (fun j hj => va_eqt (s_swe h j hj)) hA
  obtain ⟨qA, hq1, hq2⟩ := va_Tof (N := 40) (f := fun j => .ref (kA j)) (A := fun x => s.heap.size ≤ x) (by decide) (s_3 h) (va_eqt (s_4 h)) (fun j hj => va_eqv (s_kse h j hj) (hkA j hj)) hA
  obtain ⟨eA, he1, he2⟩ := va_Tof (N := 0) (f := fun _ => .int 0) (A := fun x => s.heap.size ≤ x) (by decide) (s_5 h) (va_eqt (s_6 h)) (fun j hj => absurd hj (Nat.not_lt_zero j)) hA
  obtain ⟨mi, hmi⟩ := va_Mi.of (s_9 h)
  obtain ⟨gO, hgO⟩ := s_chL (β := ClassId × (Nat → Nat)) ((s.vm.findClass "").getD 0, fun _ => 0) g_objs (fun q => q.1) (fun q c => u_Kn s q.2.1.1 q.2.1.2.1 q.2.1.2.2 c.1 c.2 ∧ ∀ x y, x < q.2.1.2.2 → y < q.2.1.2.2 → x ≠ y → c.2 x ≠ c.2 y) (by decide +kernel) (fun q hq => by
    obtain ⟨cC, iS, h1, h2⟩ := s_obj (args := args) (fun w hw => hts w hw args) q hq
    exact ⟨(cC, iS), h1, h2⟩)
  obtain ⟨gA, hgA⟩ := s_chL (β := ClassId) ((s.vm.findClass "").getD 0) g_arrs (fun q => q.1) (fun q c => ArrOfT s c q.2.1 ∧ va_RA s c q.2.1) (by decide +kernel) (s_arr (args := args) (fun w hw => hts w hw args))
  refine ⟨(fun t => (gO t).1, fun t => (gO t).2, gA, s.heap.size, s.heap, s_sa kA sA vA eA wA qA mi b, L, xs), rfl, rfl, rfl, rfl, ⟨hgO, hgA, hts, ⟨?_, ?_, ?_, ?_, ?_⟩⟩, ?_⟩
  · intro q hq
    rcases List.mem_append.mp hq with hq | hq
    · obtain ⟨i, hi, rfl⟩ := List.mem_map.mp hq
      have hi := List.mem_range.mp hi
      show va_Z _ _ _ (.ref (s_sa kA sA vA eA wA qA mi b (i * 64 + 13))) _ _ _
      rw [s_sa13]
      exact va_Zof (htl _ (s_kls i hi)) (htl _ s_i0) (hkA i hi) hA
    · rcases List.mem_cons.mp hq with rfl | hq
      · exact va_Zof (htl _ s_10) (htl _ s_i1) hw1 hA
      · rcases List.mem_cons.mp hq with rfl | hq
        · exact va_Zof (htl _ s_11) (htl _ s_i2) hq1 hA
        · rcases List.mem_cons.mp hq with rfl | hq
          · exact va_Zof (htl _ s_13) (htl _ s_i4) (va_eqt (s_7 h)) hA
          · rcases List.mem_cons.mp hq with rfl | hq
            · exact va_Zof (htl _ s_12) (htl _ s_i3) he1 hA
            · exact absurd hq List.not_mem_nil
  · intro q hq
    rcases List.mem_append.mp hq with hq | hq
    · obtain ⟨i, hi, rfl⟩ := List.mem_map.mp hq
      have hi := List.mem_range.mp hi
      show va_O _ (s_sa kA sA vA eA wA qA mi b (i * 64 + 13)) _ _ _
      rw [s_sa13]
      exact va_Oof (s_kex h i hi) (hkA i hi) hA
    · obtain ⟨i, hi, rfl⟩ := List.mem_map.mp hq
      have hi := List.mem_range.mp hi
      show va_O _ (s_sa kA sA vA eA wA qA mi b (i * 64 + 14)) _ _ _
      rw [s_sa14 hi]
      exact va_Oof (s_sex h i hi) (hsA i hi) hA
  · intro q hq
    rcases List.mem_append.mp hq with hq | hq
    · obtain ⟨i, hi, rfl⟩ := List.mem_map.mp hq
      have hi := List.mem_range.mp hi
      show va_OF _ _ _ _ (s_sa kA sA vA eA wA qA mi b (i * 64 + 13)) _ _ _
      rw [s_sa13]
      exact vk_OFof (hkA i hi) (va_eqt (s_kor h i hi)) hA
    · rcases List.mem_append.mp hq with hq | hq
      · obtain ⟨i, hi, rfl⟩ := List.mem_map.mp hq
        have hi := List.mem_range.mp hi
        have hk : g_kw.getD i 0 < 37 := by
          have w : ((List.range 40).all fun i => decide (g_kw.getD i 0 < 37)) = true := by decide +kernel
          exact of_decide_eq_true (List.all_eq_true.mp w i (List.mem_range.mpr hi))
        show va_OF _ _ _ (.ref (s_sa kA sA vA eA wA qA mi b (g_kw.getD i 0 * 64 + 14))) (s_sa kA sA vA eA wA qA mi b (i * 64 + 13)) _ _ _
        rw [s_sa13, s_sa14 hk]
        exact vk_OFof (hkA i hi) (va_eqv (s_kwd h i hi) (hsA _ hk)) hA
      · rcases List.mem_append.mp hq with hq | hq
        · obtain ⟨i, hi, rfl⟩ := List.mem_map.mp hq
          have hi := List.mem_range.mp hi
          show va_OF _ _ _ _ (s_sa kA sA vA eA wA qA mi b (i * 64 + 14)) _ _ _
          rw [s_sa14 hi]
          exact vk_OFof (hsA i hi) (va_eqt (s_sco h i hi)) hA
        · obtain ⟨i, hi, rfl⟩ := List.mem_map.mp hq
          have hi := List.mem_range.mp hi
          show va_OF _ _ _ (.ref (s_sa kA sA vA eA wA qA mi b ((i + 37) * 64 + 14))) (s_sa kA sA vA eA wA qA mi b (i * 64 + 14)) _ _ _
          rw [s_sa14 hi, s_sa14v hi]
          exact vk_OFof (hsA i hi) (hvA i hi).1 hA
  · intro q hq
    rcases List.mem_append.mp hq with hq | hq
    · obtain ⟨i, hi, rfl⟩ := List.mem_map.mp hq
      have hi := List.mem_range.mp hi
      show va_T _ (s_sa kA sA vA eA wA qA mi b ((i + 37) * 64 + 14)) _ _ _ _ _
      rw [s_sa14v hi]
      obtain ⟨cell, c1, c2, c3, c4, c5, c6, c7⟩ := (hvA i hi).2
      refine ⟨cell, c1, c2, c3, by simpa using c4, by simpa using c5, fun j hj => ?_, c7⟩
      have hj' : j < (g_tx.getD i []).length := by simpa using hj
      rw [c6 j hj']
      exact congrArg some (s_getD _ _ _).symm
    · rcases List.mem_cons.mp hq with rfl | hq
      · obtain ⟨cell, c1, c2, c3, c4, c5, c6, c7⟩ := hw2
        refine ⟨cell, c1, c2, c3, c4, c5, fun j hj => ?_, c7⟩
        rw [c6 j hj]
        exact congrArg some (s_getD _ _ _).symm
      · rcases List.mem_cons.mp hq with rfl | hq
        · obtain ⟨cell, c1, c2, c3, c4, c5, c6, c7⟩ := hq2
          refine ⟨cell, c1, c2, c3, c4, c5, fun j hj => ?_, c7⟩
          have hj' : j < 40 := hj
          rw [c6 j hj']
          have e : ((List.range 40).map (fun i => (Sum.inr (i * 64 + 13) : Int32 ⊕ Nat))).getD j (.inl 0) = Sum.inr (j * 64 + 13) := by
            rw [List.getD_eq_getElem?_getD, List.getElem?_map, List.getElem?_range hj']
            rfl
          show some (Value.ref (kA j)) = some (g_sv _ (((List.range 40).map (fun i => (Sum.inr (i * 64 + 13) : Int32 ⊕ Nat))).getD j (.inl 0)))
          rw [e]
          show some (Value.ref (kA j)) = some (Value.ref (s_sa kA sA vA eA wA qA mi b (j * 64 + 13)))
          rw [s_sa13]
        · rcases List.mem_cons.mp hq with rfl | hq
          · obtain ⟨cell, c1, c2, c3, c4, c5, c6, c7⟩ := he2
            exact ⟨cell, c1, c2, c3, c4, c5, fun j hj => absurd hj (Nat.not_lt_zero j), c7⟩
          · exact absurd hq List.not_mem_nil
  · refine ⟨fun q hq => s_lS (htl _ (s_qls q hq)) (s_qre h q hq), fun q hq => ?_, ?_, hmi, fun a ha c hc hac => va_Nc.of (s_nc h a ha c hc hac), hX, ?_⟩
    · obtain ⟨a, _, _, _, ha, _⟩ := Cond.exactly_spec (s_tex h q hq)
      exact ⟨a, vk_R.of (htl _ (s_tsr q hq)) ha⟩
    · rcases va_Zqof (htl _ s_14) (htl _ s_i5) (s_8 h) hA with z | ⟨t, z⟩
      · exact ⟨none, z⟩
      · exact ⟨some t, z⟩
    · obtain ⟨scr, hs, _⟩ := hX
      exact hlt hs
  · have old13 : ∀ a, a % 64 = 13 → g_old (a % 64) = 40 := fun a e => by rw [e]; rfl
    have al : ∀ a, g_al g_u0 a → a / 64 < g_old (a % 64) := fun a w => w
    have hkc : ∀ i, i < 40 → ∃ cell, s.heap[kA i]? = some cell ∧ s.vm.findClass "FixpointEngine$Kind" = some cell.cls := fun i hi => by
      obtain ⟨cell, c1, c2, c3, c4⟩ := va_Oof (A := fun x => s.heap.size ≤ x) (s_kex h i hi) (hkA i hi) hA
      exact ⟨cell, c1, c3⟩
    have hsc : ∀ i, i < 37 → sA i < s.heap.size := fun i hi => by
      obtain ⟨cell, c1, c2, c3, c4⟩ := va_Oof (A := fun x => s.heap.size ≤ x) (s_sex h i hi) (hsA i hi) hA
      exact hlt c1
    have hvc : ∀ i, i < 37 → vA i < s.heap.size := fun i hi => by
      obtain ⟨cell, c1, _⟩ := (hvA i hi).2
      exact hlt c1
    have hwc : wA < s.heap.size := by
      obtain ⟨cell, c1, _⟩ := hw2
      exact hlt c1
    have hqc : qA < s.heap.size := by
      obtain ⟨cell, c1, _⟩ := hq2
      exact hlt c1
    have hec : eA < s.heap.size := by
      obtain ⟨cell, c1, _⟩ := he2
      exact hlt c1
    have hbc : b < s.heap.size := by
      obtain ⟨scr, c1, _⟩ := hX
      exact hlt c1
    have hke : ∀ i, i < 40 → kA i ≠ eA := fun i hi e => by
      obtain ⟨cell, c1, c2⟩ := hkc i hi
      obtain ⟨a', c', cell', k', q1, q2, q3, q4, q5, q6, q7⟩ := Cond.exactly_spec (s_15 h)
      have e1 := Value.ref.inj (Option.some.inj (he1.symm.trans q1))
      subst e1
      rw [e, q3] at c1
      cases c1
      obtain ⟨k1, r1, r2⟩ := Vm.findClass_spec c2
      obtain ⟨k2, r3, r4⟩ := Vm.findClass_spec q2
      rw [q6] at r1
      cases r1.symm.trans r3
      rw [r2] at r4
      exact absurd r4 (by decide)
    have hkk : ∀ i j, i < 40 → j < 40 → kA i = kA j → i = j := fun i j hi hj e => by
      have w1 := vk_OFof (A := fun x => s.heap.size ≤ x) (hkA i hi) (va_eqt (s_kor h i hi)) hA
      have w2 := vk_OFof (A := fun x => s.heap.size ≤ x) (hkA j hj) (va_eqt (s_kor h j hj)) hA
      rw [e] at w1
      have w3 := congrArg Int32.toInt (Value.int.inj (s_OF_eq w1 w2))
      rw [Int32.toInt_ofNat_of_lt (by omega), Int32.toInt_ofNat_of_lt (by omega)] at w3
      omega
    refine ⟨⟨Nat.le_refl _, fun q hq => rfl⟩, fun x y hx hy x4 y4 e => ?_, fun x hx => ?_, fun q hq x hx ht => ?_, fun q hq x hx ht ho => ?_, Nat.zero_le _, Nat.zero_le _, fun t => Nat.le_refl _, fun t _ => rfl⟩
    · have hx := al x hx
      have hy := al y hy
      rw [s_old] at hx hy
      change s_sa kA sA vA eA wA qA mi b x = s_sa kA sA vA eA wA qA mi b y at e
      have cx : (x % 64 = 13 ∧ x / 64 < 40) ∨ (x % 64 = 30 ∧ x / 64 = 0) := by
        by_cases e1 : x % 64 = 13
        · rw [if_pos e1] at hx; exact Or.inl ⟨e1, hx⟩
        · rw [if_neg e1, if_neg x4.1] at hx
          by_cases e2 : x % 64 = 30
          · rw [if_pos e2] at hx; exact Or.inr ⟨e2, by omega⟩
          · rw [if_neg e2, if_neg x4.2.1, if_neg x4.2.2] at hx
            omega
      have cy : (y % 64 = 13 ∧ y / 64 < 40) ∨ (y % 64 = 30 ∧ y / 64 = 0) := by
        by_cases e1 : y % 64 = 13
        · rw [if_pos e1] at hy; exact Or.inl ⟨e1, hy⟩
        · rw [if_neg e1, if_neg y4.1] at hy
          by_cases e2 : y % 64 = 30
          · rw [if_pos e2] at hy; exact Or.inr ⟨e2, by omega⟩
          · rw [if_neg e2, if_neg y4.2.1, if_neg y4.2.2] at hy
            omega
      have vx : ∀ z, z % 64 = 13 → s_sa kA sA vA eA wA qA mi b z = kA (z / 64) := fun z hz => by unfold s_sa; rw [if_pos hz]
      have v30 : ∀ z, z % 64 = 30 → s_sa kA sA vA eA wA qA mi b z = eA := fun z hz => by unfold s_sa; rw [if_neg (by omega), if_neg (by omega), if_pos hz]
      rcases cx with ⟨c1, c2⟩ | ⟨c1, c2⟩ <;> rcases cy with ⟨d1, d2⟩ | ⟨d1, d2⟩
      · rw [vx x c1, vx y d1] at e
        have := hkk _ _ c2 d2 e
        omega
      · rw [vx x c1, v30 y d1] at e
        exact absurd e (hke _ c2)
      · rw [v30 x c1, vx y d1] at e
        exact absurd e.symm (hke _ d2)
      · omega
    · have hx := al x hx
      refine ⟨?_, fun w => absurd hx (Nat.not_lt.mpr w), fun _ => rfl⟩
      rw [s_old] at hx
      show s_sa kA sA vA eA wA qA mi b x < s.heap.size
      unfold s_sa
      by_cases e1 : x % 64 = 13
      · rw [if_pos e1] at hx ⊢
        obtain ⟨cell, c1, _⟩ := hkc _ hx
        exact hlt c1
      · rw [if_neg e1] at hx ⊢
        by_cases e2 : x % 64 = 14
        · rw [if_pos e2] at hx ⊢
          by_cases e3 : x / 64 < 37
          · rw [if_pos e3]; exact hsc _ e3
          · rw [if_neg e3]
            by_cases e4 : x / 64 < 74
            · rw [if_pos e4]; exact hvc _ (by omega)
            · rw [if_neg e4]; exact hbc
        · rw [if_neg e2] at hx ⊢
          by_cases e3 : x % 64 = 30
          · rw [if_pos e3]; exact hec
          · rw [if_neg e3] at hx ⊢
            by_cases e4 : x % 64 = 40
            · rw [if_pos e4]; exact hwc
            · rw [if_neg e4] at hx ⊢
              by_cases e5 : x % 64 = 41
              · rw [if_pos e5]; exact hqc
              · rw [if_neg e5] at hx
                omega
    · have hx := al x hx
      rw [ht, s_nold q hq] at hx
      omega
    · have hx := al x hx
      rw [ht] at hx
      omega
