/-! RUNNING (engine): conditions -/
theorem x_Ik {u : g_St} {k k' a a' : Nat} {v : Int32} (h : k ≠ k') : g_I (g_setI u k' a' v) k a = g_I u k a := by rw [x_I_I, if_neg (fun q => h q.1)]
theorem x_Ia {u : g_St} {k k' a a' : Nat} {v : Int32} (h : a ≠ a') : g_I (g_setI u k' a' v) k a = g_I u k a := by rw [x_I_I, if_neg (fun q => h q.2)]
/-- what a run leaves of a query as it is -/
def E_ag (v w : g_St) : Prop := (∀ a, 6 ≤ a % 64 → a % 64 ≤ 11 → (∀ k, k ≠ 585 → k ≠ 649 → k ≠ 713 → k ≠ 777 → g_I w k a = g_I v k a) ∧ (∀ k, k ≠ 521 → g_R w k a = g_R v k a) ∧ ∀ k, g_L w k a = g_L v k a) ∧ ∀ a, 23 ≤ a % 64 → a % 64 ≤ 28 → g_AR w a = g_AR v a ∧ g_ln w a = g_ln v a
section
variable {u v w : g_St}
theorem E_ag.re : E_ag w w := ⟨fun _ _ _ => ⟨fun _ _ _ _ _ => rfl, fun _ _ => rfl, fun _ => rfl⟩, fun _ _ _ => ⟨rfl, rfl⟩⟩
theorem E_ag.trans (h : E_ag u v) (g : E_ag v w) : E_ag u w := ⟨fun a a1 a2 => ⟨fun k k1 k2 k3 k4 => ((g.1 a a1 a2).1 k k1 k2 k3 k4).trans ((h.1 a a1 a2).1 k k1 k2 k3 k4), fun k k1 => ((g.1 a a1 a2).2.1 k k1).trans ((h.1 a a1 a2).2.1 k k1), fun k => ((g.1 a a1 a2).2.2 k).trans ((h.1 a a1 a2).2.2 k)⟩, fun a a1 a2 => ⟨(g.2 a a1 a2).1.trans (h.2 a a1 a2).1, (g.2 a a1 a2).2.trans (h.2 a a1 a2).2⟩⟩
/-- a write to a field of a run -/
theorem E_ag.pI (h : E_ag v w) {k a : Nat} (hk : (k = 585 ∨ k = 649 ∨ k = 713 ∨ k = 777) ∨ a % 64 < 6) (x : Int32) : E_ag v (g_setI w k a x) := by
  refine ⟨fun b b1 b2 => ⟨fun k' k1 k2 k3 k4 => ?_, (h.1 b b1 b2).2.1, (h.1 b b1 b2).2.2⟩, h.2⟩
  rw [x_I_I, if_neg (fun q => by
    have e1 := q.1
    have e2 := q.2
    rw [e2] at b1
    omega)]
  exact (h.1 b b1 b2).1 k' k1 k2 k3 k4
theorem E_ag.pR (h : E_ag v w) {k a : Nat} (hk : k = 521 ∨ a % 64 < 6) (x : Option Nat) : E_ag v (g_setR w k a x) := by
  refine ⟨fun b b1 b2 => ⟨(h.1 b b1 b2).1, fun k' k1 => ?_, (h.1 b b1 b2).2.2⟩, h.2⟩
  rw [x_R_R, if_neg (fun q => by
    have e1 := q.1
    have e2 := q.2
    rw [e2] at b1
    omega)]
  exact (h.1 b b1 b2).2.1 k' k1
theorem E_ag.sL (h : E_ag v w) (a i : Nat) (x : Int64) : E_ag v (g_setAL w a i x) := ⟨h.1, h.2⟩
theorem E_ag.sI (h : E_ag v w) (a i : Nat) (x : Int32) : E_ag v (g_setAI w a i x) := ⟨h.1, h.2⟩
theorem E_ag.I (h : E_ag v w) {k a : Nat} (h1 : 6 ≤ a % 64) (h2 : a % 64 ≤ 11) (hk : k ≠ 585 ∧ k ≠ 649 ∧ k ≠ 713 ∧ k ≠ 777) : g_I w k a = g_I v k a := (h.1 a h1 h2).1 k hk.1 hk.2.1 hk.2.2.1 hk.2.2.2
theorem E_ag.R (h : E_ag v w) {k a : Nat} (h1 : 6 ≤ a % 64) (h2 : a % 64 ≤ 11) (hk : k ≠ 521) : g_R w k a = g_R v k a := (h.1 a h1 h2).2.1 k hk
theorem E_ag.L (h : E_ag v w) {k a : Nat} (h1 : 6 ≤ a % 64) (h2 : a % 64 ≤ 11) : g_L w k a = g_L v k a := (h.1 a h1 h2).2.2 k
theorem X_ex.ag {so : Nat → Option Nat} {i : Nat} {L : List r_Op} (h : X_ex v so i L) (f : E_ag v w) : X_ex w so i L := by
  obtain ⟨h1, h2, h3⟩ := h
  refine ⟨h1, h2, fun j hj => ?_⟩
  obtain ⟨⟨a1, a2⟩, a3⟩ := h3 j hj
  have m1 : 6 ≤ ((i + j) * 64 + 11) % 64 := by omega
  have m2 : ((i + j) * 64 + 11) % 64 ≤ 11 := by omega
  refine ⟨⟨by rw [f.I m1 m2 (by decide)]; exact a1, ?_⟩, by rw [f.R m1 m2 (by decide)]; exact a3⟩
  cases ho : (L.getD j r_op0).2 with
  | inl x => rw [ho] at a2; exact ⟨by rw [f.R m1 m2 (by decide)]; exact a2.1, by rw [f.L m1 m2]; exact a2.2⟩
  | inr q =>
    rw [ho] at a2
    obtain ⟨r, s1, s2, s3, s4⟩ := a2
    exact ⟨r, s1, by rw [f.R m1 m2 (by decide)]; exact s2, by rw [f.I m1 m2 (by decide)]; exact s3, s4⟩
theorem X_cp.ag {so : Nat → Option Nat} {co : Nat} {c : r_Cp} (h : X_cp v so co c) (hc : co % 64 = 10) (f : E_ag v w) : X_cp w so co c := by
  obtain ⟨i, h1, h2, h3, h4⟩ := h
  have m1 : 6 ≤ co % 64 := by omega
  have m2 : co % 64 ≤ 11 := by omega
  refine ⟨i, by rw [f.R m1 m2 (by decide)]; exact h1, h2.ag f, by rw [f.R m1 m2 (by decide)]; exact h3, ?_⟩
  rcases h4 with h4 | ⟨h4, i', h5, h6⟩
  · exact Or.inl h4
  · exact Or.inr ⟨h4, i', by rw [f.R m1 m2 (by decide)]; exact h5, h6.ag f⟩
end
def r_so (so : Nat → Option Nat) (r : Nat) : Nat → Option Nat := fun k => if k = 3 then some r else so k
/-- a condition -/
def X_cd (w : g_St) (so : Nat → Option Nat) (co : Nat) (c : r_Cd) : Prop := co % 64 = 10 ∧ match c with
  | .inl b => g_R w 202 co = none ∧ X_cp w so co b
  | .inr z => ∃ r A, r % 64 = 9 ∧ (∀ k, so k ≠ some r) ∧ A % 64 = 28 ∧ g_R w 202 co = some r ∧ g_R w 266 co = some A ∧ g_ln w A = 3 ∧ g_I w 330 co = Int32.ofNat z.2.length ∧ z.2.length ≤ 3 ∧ ∀ j, j < z.2.length → ∃ co', co' % 64 = 10 ∧ g_AR w A j = some co' ∧ X_cp w (r_so so r) co' (z.2.getD j r_cp0)
theorem X_cd.ag {v w : g_St} {so : Nat → Option Nat} {co : Nat} {c : r_Cd} (h : X_cd v so co c) (f : E_ag v w) : X_cd w so co c := by
  obtain ⟨hc, h⟩ := h
  have m1 : 6 ≤ co % 64 := by omega
  have m2 : co % 64 ≤ 11 := by omega
  refine ⟨hc, ?_⟩
  cases c with
  | inl b => exact ⟨by rw [f.R m1 m2 (by decide)]; exact h.1, h.2.ag hc f⟩
  | inr z =>
    obtain ⟨r, A, r1, r2, a1, a2, a3, a4, a5, a6, a7⟩ := h
    have ar := f.2 A (by omega) (by omega)
    refine ⟨r, A, r1, r2, a1, by rw [f.R m1 m2 (by decide)]; exact a2, by rw [f.R m1 m2 (by decide)]; exact a3, by rw [ar.2]; exact a4, by rw [f.I m1 m2 (by decide)]; exact a5, a6, fun j hj => ?_⟩
    obtain ⟨co', c1, c2, c3⟩ := a7 j hj
    exact ⟨co', c1, by rw [ar.1]; exact c2, c3.ag c1 f⟩
/-- a source has its rows -/
def X_sr (w : g_St) (r from' : Nat) (V : Nat → Prop) (rows : List (Nat → Int64)) : Prop := ∃ rel cl, g_R w 521 r = some rel ∧ g_R w 69 rel = some cl ∧ g_I w 585 r = Int32.ofNat from' ∧ g_I w 649 r = Int32.ofNat (from' + rows.length) ∧ (from' + rows.length < 60 ∧ 277 ≤ cl) ∧ 4 * (from' + rows.length) ≤ g_ln w cl ∧ ∀ j, j < rows.length → ∀ i, V i → g_AL w cl ((from' + j) * 4 + i) = rows.getD j (fun _ => 0) i
theorem z_gall (l : List r_Cp) (P : r_Cp → Bool) (j : Nat) (hj : j ≤ l.length) : (∀ i, i < j → P (l.getD i r_cp0) = true) → ∀ b, (l.drop j).all P = b → l.all P = b := by
  intro h b hb
  have : (l.take j).all P = true := by
    rw [List.all_eq_true]
    intro x hx
    obtain ⟨i, i1, i2⟩ := List.mem_iff_getElem.mp hx
    rw [List.length_take] at i1
    have := h i (by omega)
    rw [List.getD_eq_getElem?_getD, List.getElem?_eq_getElem (by omega)] at this
    rw [List.getElem_take] at i2
    rw [← i2]
    exact this
  rw [← List.take_append_drop j l, List.all_append, this, Bool.true_and]
  exact hb
theorem y_ex {w : g_St} {so : Nat → Option Nat} {co : Nat} {z : (Nat ⊕ Nat) × List r_Cp} (h : X_cd w so co (.inr z)) {env : Nat → Nat → Int64} {D : Nat → Nat → Prop} (hu : ∀ b ∈ z.2, r_ucp D b) (hb : ∀ k j, D k j → k ≠ 3 → X_bd w so env k (D k)) {rows : List (Nat → Int64)} (hr : ∀ r, g_R w 202 co = some r → X_sr w r 0 (D 3) rows) : ∃ r x, g_R w 202 co = some r ∧ r % 64 = 9 ∧ (∀ k, so k ≠ some r) ∧ f_Ru_exists (some co) w = some (z_g (rows.any fun row => z.2.all (r_cp (r_up env 3 row))), g_setI w 713 r x) := by
  obtain ⟨hc, r, A, r1, r2, a1, a2, a3, a4, a5, a6, a7⟩ := h
  obtain ⟨rel, cl, b1, b2, b3, b4, b5, b6, b7⟩ := hr r a2
  have m1 : 6 ≤ co % 64 := by omega
  have m2 : co % 64 ≤ 11 := by omega
  have ag : ∀ x, E_ag w (g_setI w 713 r x) := fun x => E_ag.re.pI (Or.inl (Or.inr (Or.inr (Or.inl rfl)))) x
  have z0 : ∀ s : g_St, g_rZ 0 (some ((0 : Int32), s)) = some (z_g false, s) := fun s => rfl
  have z1 : ∀ s : g_St, g_rZ 1 (some ((1 : Int32), s)) = some (z_g true, s) := fun s => rfl
  -- the comparisons of one row
  have inner : ∀ (k10 : Option Nat → Option Nat → Int32 → g_St → Option (Int32 × g_St)) (i : Nat), i < rows.length → f_Ru_exists_28 k10 200000 (some co) (some r) (Int32.ofNat i) 1 0 (g_setI w 713 r (Int32.ofNat i)) = f_Ru_exists_58 k10 (some co) (some r) (Int32.ofNat i) (z_g (z.2.all (r_cp (r_up env 3 (rows.getD i (fun _ => 0)))))) (g_setI w 713 r (Int32.ofNat i)) := by
    intro k10 i hi
    have bd : ∀ k j, D k j → X_bd (g_setI w 713 r (Int32.ofNat i)) (r_so so r) (r_up env 3 (rows.getD i (fun _ => 0))) k (D k) := by
      intro k j hk
      by_cases e : k = 3
      · rw [e]
        refine ⟨r, rel, cl, i, by unfold r_so; rw [if_pos rfl], b1, b2, x_Iss _ _ _ _, ⟨by omega, b5.2⟩, by show 4 * i + 4 ≤ g_ln w cl; omega, fun j' hj' => ?_⟩
        have := b7 i hi j' hj'
        rw [Nat.zero_add] at this
        unfold r_up
        rw [if_pos rfl]
        exact this
      · obtain ⟨r', rel', cl', x, c1, c2, c3, c4, c5, c6, c7⟩ := hb k j hk e
        have ne : r' ≠ r := fun q => r2 k (by rw [c1, q])
        refine ⟨r', rel', cl', x, by unfold r_so; rw [if_neg e]; exact c1, c2, c3, by rw [x_I_I, if_neg (fun q => ne q.2)]; exact c4, c5, c6, fun j' hj' => ?_⟩
        unfold r_up
        rw [if_neg e]
        exact c7 j' hj'
    have key : ∀ (d j f : Nat) (b : Bool), j + d = z.2.length → d < f → f_Ru_exists_28 k10 f (some co) (some r) (Int32.ofNat i) (z_g b) (Int32.ofNat j) (g_setI w 713 r (Int32.ofNat i)) = f_Ru_exists_58 k10 (some co) (some r) (Int32.ofNat i) (z_g (b && (z.2.drop j).all (r_cp (r_up env 3 (rows.getD i (fun _ => 0)))))) (g_setI w 713 r (Int32.ofNat i)) := by
      intro d
      induction d with
      | zero =>
        intro j f b e1 e2
        obtain ⟨f, rfl⟩ : ∃ m, f = m + 1 := ⟨f - 1, by omega⟩
        rw [f_Ru_exists_28, x_gI, (ag _).I m1 m2 (by decide), a5, if_pos (by rw [x_le (by omega) (by omega)]; omega), List.drop_eq_nil_of_le (by omega), List.all_nil, Bool.and_true]
      | succ d ih =>
        intro j f b e1 e2
        obtain ⟨f, rfl⟩ : ∃ m, f = m + 1 := ⟨f - 1, by omega⟩
        rw [f_Ru_exists_28, x_gI, (ag _).I m1 m2 (by decide), a5, if_neg (by rw [x_le (by omega) (by omega)]; omega)]
        cases b with
        | false => rw [if_pos (show z_g false = 0 from rfl), Bool.false_and]
        | true =>
          obtain ⟨co', c1, c2, c3⟩ := a7 j (by omega)
          have cm : z.2.getD j r_cp0 ∈ z.2 := z_getD_m (by omega)
          rw [if_neg (show ¬ z_g true = 0 from by decide), x_gR, (ag _).R m1 m2 (by decide), a3, x_aR (by omega) (by show j < g_ln w A; omega), show g_AR (g_setI w 713 r (Int32.ofNat i)) A j = some co' from c2, y_cp (c3.ag c1 (ag _)) (hu _ cm) bd, x_c, x_p1, ih (j + 1) f _ (by omega) (by omega), Bool.true_and]
          congr 2
          have hd : z.2.drop j = z.2.getD j r_cp0 :: z.2.drop (j + 1) := by
            rw [List.getD_eq_getElem?_getD, List.getElem?_eq_getElem (by omega)]
            exact List.drop_eq_getElem_cons (by omega)
          rw [hd, List.all_cons]
    have := key z.2.length 0 200000 true (by omega) (by omega)
    rw [List.drop_zero, Bool.true_and] at this
    exact this
  have key : ∀ (d i f : Nat) (x : Int32), i + d = rows.length → d < f → ∃ x', f_Ru_exists_10 f (some co) (some r) (Int32.ofNat i) (g_setI w 713 r x) = some (z_g ((rows.drop i).any fun row => z.2.all (r_cp (r_up env 3 row))), g_setI w 713 r x') := by
    intro d
    induction d with
    | zero =>
      intro i f x e1 e2
      obtain ⟨f, rfl⟩ : ∃ m, f = m + 1 := ⟨f - 1, by omega⟩
      refine ⟨x, ?_⟩
      rw [f_Ru_exists_10, x_gI, x_Ik (by decide), b4, if_pos (by rw [x_le (by omega) (by omega)]; omega), z0, List.drop_eq_nil_of_le (by omega), List.any_nil]
    | succ d ih =>
      intro i f x e1 e2
      obtain ⟨f, rfl⟩ : ∃ m, f = m + 1 := ⟨f - 1, by omega⟩
      have hd : rows.drop i = rows.getD i (fun _ => 0) :: rows.drop (i + 1) := by
        rw [List.getD_eq_getElem?_getD, List.getElem?_eq_getElem (by omega)]
        exact List.drop_eq_getElem_cons (by omega)
      rw [f_Ru_exists_10, x_gI, x_Ik (by decide), b4, if_neg (by rw [x_le (by omega) (by omega)]; omega), x_pI, x_ii, inner _ i (by omega), hd, List.any_cons]
      unfold f_Ru_exists_58
      cases hb : z.2.all (r_cp (r_up env 3 (rows.getD i (fun _ => 0)))) with
      | true => rw [if_neg (show ¬ z_g true = 0 from by decide), z1, Bool.true_or]; exact ⟨_, rfl⟩
      | false =>
        rw [if_pos (show z_g false = 0 from rfl), Bool.false_or, x_p1]
        exact ih (i + 1) f _ (by omega) (by omega)
  obtain ⟨x', k1⟩ := key rows.length 0 200000 (g_I w 713 r) (by omega) (by omega)
  rw [x_setI_same rfl, List.drop_zero] at k1
  refine ⟨r, x', a2, r1, r2, ?_⟩
  unfold f_Ru_exists
  rw [x_gR, a2, x_gI, b3]
  exact k1
/-- only where an inner source stands is changed -/
def X_at (so : Nat → Option Nat) (w w' : g_St) : Prop := w' = w ∨ ∃ r x, r % 64 = 9 ∧ (∀ k, so k ≠ some r) ∧ w' = g_setI w 713 r x
/-- a condition is tested -/
theorem y_hd {w : g_St} {so : Nat → Option Nat} {co : Nat} {c : r_Cd} (h : X_cd w so co c) {env : Nat → Nat → Int64} {D : Nat → Nat → Prop} (hu : match c with | .inl b => r_ucp D b | .inr z => ∀ b ∈ z.2, r_ucp D b) (hb : ∀ k j, D k j → k ≠ 3 → X_bd w so env k (D k)) (h3 : ∀ b, c = .inl b → ∀ j, ¬ D 3 j) {tb : (Nat ⊕ Nat) → List (Nat → Int64)} (hr : ∀ z, c = .inr z → ∀ r, g_R w 202 co = some r → X_sr w r 0 (D 3) (tb z.1)) : ∃ w', f_Ru_holds (some co) w = some (z_g (r_cd tb env c), w') ∧ X_at so w w' := by
  cases c with
  | inl b =>
    obtain ⟨hc, h1, h2⟩ := h
    have e := y_cp h2 hu (fun k j hk => hb k j hk (fun q => h3 b rfl j (by rw [← q]; exact hk)))
    refine ⟨w, ?_, Or.inl rfl⟩
    unfold f_Ru_holds
    rw [x_gR, h1, if_pos rfl, e, x_c]
    show g_rZ (z_g (r_cp env b)) _ = some (z_g (r_cp env b), w)
    cases r_cp env b <;> rfl
  | inr z =>
    obtain ⟨r, x, e1, e2, e3, e4⟩ := y_ex h hu hb (hr z rfl)
    refine ⟨_, ?_, Or.inr ⟨r, x, e2, e3, rfl⟩⟩
    unfold f_Ru_holds
    rw [x_gR, e1, if_neg (Option.some_ne_none _), e4, x_c]
    show (if z_g ((tb z.1).any fun row => z.2.all (r_cp (r_up env 3 row))) = 0 then _ else _) = some (z_g (!((tb z.1).any fun row => z.2.all (r_cp (r_up env 3 row)))), _)
    cases ((tb z.1).any fun row => z.2.all (r_cp (r_up env 3 row))) <;> rfl
