/-! RUNNING (engine): combining, whole -/
def X_i3 (so : Nat → Option Nat) (w w' : g_St) : Prop := ∀ P : g_St → Prop, (∀ s r x, P s → r % 64 = 9 → (∀ k, so k ≠ some r) → P (g_setI s 713 r x)) → P w → P w'
theorem X_i3.re {so : Nat → Option Nat} {w : g_St} : X_i3 so w w := fun _ _ h => h
theorem X_i3.trans {so : Nat → Option Nat} {u v w : g_St} (h : X_i3 so u v) (g : X_i3 so v w) : X_i3 so u w := fun P hP h0 => g P hP (h P hP h0)
theorem X_at.i3 {so : Nat → Option Nat} {w w' : g_St} (h : X_at so w w') : X_i3 so w w' := fun P hP h0 => by
  rcases h with h | ⟨r, x, h1, h2, h3⟩
  · rw [h]; exact h0
  · rw [h3]; exact hP w r x h0 h1 h2
section
variable {α : Type} {p n0 S n : Nat} {so : Nat → Option Nat} {w0 : g_St} {cds : List r_Cd} {lv : Nat → Nat} {rows : Nat → List r_Row} {mk : Nat → Bool} {fr : Nat → Nat} {V : Nat → Nat → Prop} {tb : (Nat ⊕ Nat) → List (Nat → Int64)} {Rel : g_St → α → Prop} {step : (Nat → r_Row) → α → α} {bad : (Nat → r_Row) → Prop} {fc fo : α → Bool} {rk : Bool}
theorem X_i3.wf {w w' : g_St} (h : X_i3 so w w') (F : X_wf p n0 w0 w) : X_wf p n0 w0 w' := h (X_wf p n0 w0) (fun s r x hs _ _ => hs.at r x) F
theorem X_i3.at {w w' : g_St} (h : X_i3 so w w') {k r : Nat} (hk : so k = some r) : g_I w' 713 r = g_I w 713 r := h (fun s => g_I s 713 r = g_I w 713 r) (fun s r' x hs _ h2 => by rw [x_Ia (fun e => h2 k (by rw [hk, e]))]; exact hs) rfl
theorem X_eb.i3 {w w' : g_St} {l : Nat} {ch : Nat → r_Row} (h : X_eb w so rows fr l ch) (f : X_i3 so w w') : X_eb w' so rows fr l ch := fun k hk => by
  obtain ⟨r, j, e1, e2, e3, e4⟩ := h k hk
  exact ⟨r, j, e1, by rw [f.at e1]; exact e2, e3, e4⟩
/-- the conditions of a level -/
theorem y_c27 (C : X_cb w0 p n0 S n so cds lv rows mk fr V tb rk) (kr : Option Nat → Int32 → g_St → Option ((Unit ⊕ Nat) × g_St)) {l : Nat} (hl : l ≤ n) {ch : Nat → r_Row} {w : g_St} (F : X_wf p n0 w0 w) (E : X_eb w so rows fr l ch) : ∃ w', X_i3 so w w' ∧ f_Ru_combine_27 kr 200000 (some 4) (Int32.ofNat l) 0 w = if ((List.range cds.length).all fun i => !decide (lv i = l) || r_cd tb (r_en ch) (cds.getD i r_cd0)) = true then f_Ru_combine_27 kr 1 (some 4) (Int32.ofNat l) (Int32.ofNat cds.length) w' else some (.inl (), w') := by
  have C' := C
  obtain ⟨⟨s8, c1, c2, c3, c4, c5, c6⟩, -, c7, c8, B, b1, b2, b3, b4⟩ := C
  have key : ∀ (d i f : Nat) (w : g_St), i + d = cds.length → d < f → X_wf p n0 w0 w → X_eb w so rows fr l ch → ∃ w', X_i3 so w w' ∧ f_Ru_combine_27 kr f (some 4) (Int32.ofNat l) (Int32.ofNat i) w = if ((List.range' i d).all fun i => !decide (lv i = l) || r_cd tb (r_en ch) (cds.getD i r_cd0)) = true then f_Ru_combine_27 kr 1 (some 4) (Int32.ofNat l) (Int32.ofNat cds.length) w' else some (.inl (), w') := by
    intro d
    induction d with
    | zero =>
      intro i f w e1 e2 F E
      obtain ⟨f, rfl⟩ : ∃ m, f = m + 1 := ⟨f - 1, by omega⟩
      refine ⟨w, X_i3.re, ?_⟩
      have stop : ∀ f, f_Ru_combine_27 kr (f + 1) (some 4) (Int32.ofNat l) (Int32.ofNat cds.length) w = g_gR w 772 (some 4) fun p3 => g_gI w 456 p3 fun i4 => if Int32.ofNat l < i4 then g_gR w 772 (some 4) fun p5 => g_gR w 392 p5 fun p6 => g_aR w p6 (Int32.ofNat l) fun p7 => g_gI w 585 p7 fun i8 => f_Ru_combine_107 kr 200000 (some 4) (Int32.ofNat l) p7 i8 w else g_cT (g_nn (some 4) (f_Ru_takeCombination (some 4) w)) fun _ s10 => some (Sum.inl (), s10) := fun f => by
        rw [f_Ru_combine_27, x_gR, F.1.2.2.2.1, c1, x_gI, F.ag.I (by omega) (by omega) (by decide), c4, if_pos (by rw [x_le (by omega) (by omega)]; exact Nat.le_refl _)]
      rw [show i = cds.length by omega, stop f]
      show _ = if true = true then _ else _
      rw [if_pos rfl]
      exact (stop 0).symm
    | succ d ih =>
      intro i f w e1 e2 F E
      obtain ⟨f, rfl⟩ : ∃ m, f = m + 1 := ⟨f - 1, by omega⟩
      obtain ⟨co, d1, d2, d3, d4, U, d5, d6⟩ := b4 i (by omega)
      have c10 := d2.1
      have R : ∀ k a, g_R w k a = g_R w0 k a := fun k a => by rw [F.1.2.2.2.1]
      rw [f_Ru_combine_27, x_gR, R, c1, x_gI, F.ag.I (by omega) (by omega) (by decide), c4, if_neg (by rw [x_le (by omega) (by omega)]; omega), x_gR, R, c1, x_gR, R, b1, x_aR (by omega) (by rw [F.1.2.2.2.2.2.2]; omega), F.1.2.2.2.2.2.1, d1, x_gI, F.ag.I (by omega) (by omega) (by decide), d3, List.range'_succ, List.all_cons]
      by_cases w1 : lv i = l
      · rw [if_pos (by rw [w1]), x_gR, R, c1, x_gR, R, b1, x_aR (by omega) (by rw [F.1.2.2.2.2.2.2]; omega), F.1.2.2.2.2.2.1, d1, decide_eq_true w1, Bool.not_true, Bool.false_or]
        have hd : ∃ w', f_Ru_holds (some co) w = some (z_g (r_cd tb (r_en ch) (cds.getD i r_cd0)), w') ∧ X_at so w w' := by
          have d2' := d2.ag F.ag
          cases hc : cds.getD i r_cd0 with
          | inl b =>
            rw [hc] at d2' d5
            refine y_hd (c := .inl b) d2' (D := fun k j => k < lv i ∧ V k j ∧ j ≤ 3) d5 (fun k j hk _ => ?_) (fun b' _ j hj => by omega) (fun z e => by cases e)
            obtain ⟨r, rel, cl, x, q1, q2, q3, q4, q5, q6, q7⟩ := E.bd C' F hl (k := k) (by omega)
            exact ⟨r, rel, cl, x, q1, q2, q3, q4, q5, q6, fun j' hj' => q7 j' ⟨hj'.2.1, hj'.2.2⟩⟩
          | inr z =>
            rw [hc] at d2' d5
            refine y_hd (c := .inr z) d2' (D := fun k j => ((k < lv i ∧ V k j) ∨ (k = 3 ∧ U j)) ∧ j ≤ 3) d5 (fun k j hk ne => ?_) (fun b' e => by cases e) (fun z' e r hr => ?_)
            · have kl : k < lv i := by
                rcases hk.1 with q | q
                · exact q.1
                · exact absurd q.1 ne
              obtain ⟨r, rel, cl, x, q1, q2, q3, q4, q5, q6, q7⟩ := E.bd C' F hl (k := k) (by omega)
              exact ⟨r, rel, cl, x, q1, q2, q3, q4, q5, q6, fun j' hj' => q7 j' ⟨(by
                rcases hj'.1 with q | q
                · exact q.2
                · exact absurd q.1 ne), hj'.2⟩⟩
            · cases e
              rw [R] at hr
              obtain ⟨rel, cl, q1, q2, q3, q4, ⟨q5, q6, q7⟩, q8, q9⟩ := d6 z hc r hr
              have r9 : r % 64 = 9 := by
                obtain ⟨-, r', A', r1, -, -, r2, -⟩ := d2'
                rw [R] at r2
                rw [hr] at r2
                cases r2
                exact r1
              have I : ∀ k, k ≠ 713 → g_I w k r = g_I w0 k r := fun k hk => F.2.1 k r hk (fun q => by have := q.2; omega) (fun q => by have := q.1; omega)
              refine ⟨rel, cl, by rw [R]; exact q1, by rw [R]; exact q2, by rw [I _ (by decide)]; exact q3, by rw [I _ (by decide), Nat.zero_add]; exact q4, ⟨by omega, q6⟩, by rw [F.1.2.2.2.2.2.2, Nat.zero_add]; exact q8, fun j hj i' hi' => ?_⟩
              rw [F.2.2.1 cl _ (fun q => by have := q7 q.1; have := q.2; omega) (by omega) (by omega) (by omega), Nat.zero_add]
              exact q9 j hj i' hi'.2 (by
                rcases hi'.1 with q | q
                · have := q.1; omega
                · exact q.2)
        obtain ⟨w1', g1, g2⟩ := hd
        rw [g1, x_c]
        cases hb : r_cd tb (r_en ch) (cds.getD i r_cd0) with
        | false => rw [if_pos (show z_g false = 0 from rfl), Bool.false_and]; exact ⟨w1', g2.i3, (if_neg (by decide)).symm⟩
        | true =>
          rw [if_neg (show ¬ z_g true = 0 from by decide), Bool.true_and, x_p1]
          obtain ⟨w', k1, k2⟩ := ih (i + 1) f w1' (by omega) (by omega) (g2.i3.wf F) (E.i3 g2.i3)
          exact ⟨w', g2.i3.trans k1, k2⟩
      · rw [if_neg (by rw [x_eq (by omega) (by omega)]; exact w1), decide_eq_false w1, Bool.not_false, Bool.true_or, Bool.true_and, x_p1]
        exact ih (i + 1) f w (by omega) (by omega) F E
  obtain ⟨w', k1, k2⟩ := key cds.length 0 200000 w (by omega) (by omega) F E
  rw [show List.range' 0 cds.length = List.range cds.length from List.range_eq_range'.symm] at k2
  exact ⟨w', k1, k2⟩
theorem r_cl_mem {rs T : Nat → List r_Row} (hs : ∀ k a, a ∈ rs k → a ∈ T k) : ∀ (d l : Nat) (ch : Nat → r_Row), (∀ k, k < l → ch k ∈ T k) → ∀ e ∈ r_cl tb cds lv rs d l ch, ∀ k, k < l + d → e k ∈ T k := by
  intro d
  induction d with
  | zero =>
    intro l ch h e he k hk
    rw [r_cl] at he
    split at he
    · rw [List.mem_singleton] at he; rw [he]; exact h k (by omega)
    · cases he
  | succ d ih =>
    intro l ch h e he k hk
    rw [r_cl] at he
    split at he
    · obtain ⟨a, a1, a2⟩ := List.mem_flatMap.mp he
      refine ih (l + 1) (r_ud ch l a) (fun k' hk' => ?_) e a2 k (by omega)
      unfold r_ud
      by_cases q : k' = l
      · rw [if_pos q, q]; exact hs l a a1
      · rw [if_neg q]; exact h k' (by omega)
    · cases he
/-- the folding keeps errors -/
theorem X_fl (hmono : ∀ ch a, (fc a || fo a) = true → fc (step ch a) = fc a ∧ fo (step ch a) = fo a) : ∀ (L : List (Nat → r_Row)) (a : α), (fc a || fo a) = true → fc (L.foldl (fun a e => step e a) a) = fc a ∧ fo (L.foldl (fun a e => step e a) a) = fo a := by
  intro L
  induction L with
  | nil => intro a _; exact ⟨rfl, rfl⟩
  | cons e L ih =>
    intro a h
    obtain ⟨m1, m2⟩ := hmono e a h
    rw [List.foldl_cons]
    obtain ⟨i1, i2⟩ := ih (step e a) (by rw [m1, m2]; exact h)
    exact ⟨i1.trans m1, i2.trans m2⟩
end
