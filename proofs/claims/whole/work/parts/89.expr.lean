/-! THE REFERENCE READS AN EXPRESSION -/
section
variable {n : Nat} {kd pl : Nat → Nat} {vl : Nat → Int64}
theorem m_isSign {u : g_St} (hm : m_Fix u) (ht : z_tkM u n kd pl vl) (hk : ∀ i, kd i < 40) (hn : n ≤ 400) {p : Nat} (hp : p ≤ n) (ha : z_at u p) {k : Nat} (hk2 : k < 40) {c : Int32} (hc : 100 + c = z_km k) : f_M_isSign (some 1) c u = if kd p = k then some (1, u) else some (0, u) := by
  unfold f_M_isSign
  rw [x_nn, hc, pM_is hm ht hk hn hp ha.1 ha.2 hk2]
  by_cases w : kd p = k
  · rw [if_pos w]; rfl
  · rw [if_neg w]; rfl
theorem m_isSignS {u : g_St} (h : g_I u 833 1 = 1) (c : Int32) : f_M_isSign (some 1) c u = some (0, u) := by
  unfold f_M_isSign
  rw [x_nn, pM_isS h]
  rfl
/-- operands from o on hold a list -/
def M_ops (u : g_St) (o : Nat) (l : z_Ex) : Prop := ∀ j, j < l.length → M_op u (o + j) (l.getD j (false, 0, 0))
theorem M_ops.cons {u : g_St} {o : Nat} {x : Bool × Nat × Nat} {l : z_Ex} (h1 : M_op u o x) (h2 : M_ops u (o + 1) l) : M_ops u o (x :: l) := by
  intro j hj
  cases j with
  | zero => exact h1
  | succ j =>
    rw [show o + (j + 1) = o + 1 + j by omega]
    exact h2 j (by simpa using hj)
/-- what the loop leaves as it was: operands before o, counts but e's -/
def M_keptE (u u' : g_St) (o e : Nat) : Prop := (∀ j, j < o → g_AI u' 2836 j = g_AI u 2836 j ∧ g_AI u' 2772 j = g_AI u 2772 j ∧ g_AI u' 2900 j = g_AI u 2900 j) ∧ (∀ j, j ≠ e → g_AI u' 2708 j = g_AI u 2708 j) ∧ ∀ j, g_AI u' 2644 j = g_AI u 2644 j
def z_opl (kd : Nat → Nat) (d : Nat) (mn : Bool) (p : Nat) : z_R z_Ex := z_bd (z_op1 kd p) fun o p1 => z_bd (z_ex kd d p1) fun l p2 => .inr ((mn, o) :: l, p2)
theorem m_exloop (hk : ∀ i, kd i < 40) (hn : n ≤ 400) (hend : ∀ p, p ≤ n → kd p ≠ 38 → p < n) {e : Nat} (he : e < 210) : ∀ (d c o p f : Nat) (mn : Bool) (u : g_St), c + d = 3 → d + 1 < f → m_Fix u → z_tkM u n kd pl vl → p ≤ n → z_at u p → g_I u 3073 1 = Int32.ofNat o → o + d < 210 → g_AI u 2708 e = Int32.ofNat c →
    ∃ u', f_M_readExpression_36 f (some 1) (Int32.ofNat e) (z_sgn mn) 1 u = some (Int32.ofNat e, u') ∧ z_out u' pl (z_opl kd d mn p) ∧ M_keptE u u' o e ∧
      (∀ L q, z_opl kd d mn p = .inr (L, q) → M_ops u' o L ∧ g_AI u' 2708 e = Int32.ofNat (c + L.length) ∧ g_I u' 3073 1 = Int32.ofNat (o + L.length) ∧ q ≤ n ∧ p + 2 * L.length ≤ q + 1 ∧ L.length ≤ d + 1 ∧ 1 ≤ L.length) ∧
      (∀ q, z_opl kd d mn p = .inl q → ∃ m, g_I u' 3073 1 = Int32.ofNat (o + m) ∧ m ≤ d + 1 ∧ p + 2 * m ≤ q + 2 ∧ q ≤ n ∧ 1 ≤ m) := by
  have fin : ∀ (f : Nat) (x : Int32) (s : g_St), f_M_readExpression_95 (f_M_readExpression_36 (f + 1)) (some 1) (Int32.ofNat e) x 0 s = some (Int32.ofNat e, s) := by
    intro f x s
    unfold f_M_readExpression_95
    rw [if_pos rfl, f_M_readExpression_36, if_pos rfl]
  -- one turn
  have turn : ∀ (c o p f : Nat) (mn : Bool) (u : g_St), c < 4 → m_Fix u → z_tkM u n kd pl vl → p ≤ n → z_at u p → g_I u 3073 1 = Int32.ofNat o → o < 210 → g_AI u 2708 e = Int32.ofNat c →
      ∃ s7, m_Fix s7 ∧ z_tkM s7 n kd pl vl ∧ g_AI s7 2708 e = Int32.ofNat (c + 1) ∧ g_I s7 3073 1 = Int32.ofNat (o + 1) ∧ M_kept u s7 o ∧ (∀ j, j ≠ e → g_AI s7 2708 j = g_AI u 2708 j) ∧ (∀ j, g_AI s7 2644 j = g_AI u 2644 j) ∧ z_out s7 pl (z_op1 kd p) ∧ (∀ x q, z_op1 kd p = .inr (x, q) → M_op s7 o (mn, x) ∧ q ≤ n ∧ p < q) ∧
        (f_M_readExpression_36 (f + 1) (some 1) (Int32.ofNat e) (z_sgn mn) 1 u = if 4 ≤ c + 1 then f_M_readExpression_95 (f_M_readExpression_36 f) (some 1) (Int32.ofNat e) (z_sgn mn) 0 s7 else g_c (f_M_isSign (some 1) 43 s7) fun i10 s11 => if i10 = 0 then g_c (f_M_isSign (some 1) 45 s11) fun i12 s13 => if i12 = 0 then f_M_readExpression_95 (f_M_readExpression_36 f) (some 1) (Int32.ofNat e) (z_sgn mn) 0 s13 else f_M_readExpression_95 (f_M_readExpression_36 f) (some 1) (Int32.ofNat e) (z_sgn mn) 1 s13 else f_M_readExpression_95 (f_M_readExpression_36 f) (some 1) (Int32.ofNat e) (z_sgn mn) 1 s11) := by
    intro c o p f mn u hc hm ht hp ha ho ho2 hcn
    obtain ⟨s4, a1, a2, a3, a4, a5, a6⟩ := m_operand hm ht hk hn hend hp ha ho ho2 mn
    have m4 : m_Fix s4 := a2.fx hm
    have l4 : g_ln s4 2708 = 210 := (m4 _ m_k3201).2
    have k4 : ∀ j, g_AI s4 2708 j = g_AI u 2708 j := fun j => by rw [(a2.2.2.2.2.2.2.2.2 2708 (by decide)).1]
    have c4 : g_AI s4 2708 e = Int32.ofNat c := by rw [k4]; exact hcn
    have g1 : ∀ a j, g_AI (g_setAI s4 2708 e (Int32.ofNat (c + 1))) a j = if a = 2708 ∧ j = e then Int32.ofNat (c + 1) else g_AI s4 a j := fun a j => x_AI_AI ..
    refine ⟨g_setAI s4 2708 e (Int32.ofNat (c + 1)), m4, (ht.W a2 (by decide) (by decide) (by decide)).sI (by decide) (by decide) e _, by rw [g1, if_pos ⟨rfl, rfl⟩], a3, fun j hj => ?_, fun j hj => ?_, fun j => ?_, ?_, fun x q w => ?_, ?_⟩
    · rw [g1, g1, g1, if_neg (fun w => by have := w.1; omega), if_neg (fun w => by have := w.1; omega), if_neg (fun w => by have := w.1; omega)]
      exact a4 j hj
    · rw [g1, if_neg (fun w => hj w.2), k4]
    · rw [g1, if_neg (fun w => by have := w.1; omega), (a2.2.2.2.2.2.2.2.2 2644 (by decide)).1]
    · cases hz : z_op1 kd p with
      | inl q => rw [hz] at a5; exact a5
      | inr q => rw [hz] at a5; exact a5
    · obtain ⟨b1, b2⟩ := a6 x q w
      refine ⟨⟨?_, ?_, ?_⟩, b2⟩
      · rw [g1, if_neg (fun w => by have := w.1; omega)]; exact b1.1
      · rw [g1, if_neg (fun w => by have := w.1; omega)]; exact b1.2.1
      · rw [g1, if_neg (fun w => by have := w.1; omega)]; exact b1.2.2
    · have e4 : (4 ≤ Int32.ofNat (c + 1)) = (4 ≤ c + 1) := x_le (a := 4) (by decide) (by omega)
      rw [f_M_readExpression_36, if_neg (by decide), x_nn, pM_bad ha.1, x_c, if_pos rfl, x_nn, a1, x_c, x_gR, (m4 _ m_k3201).1, x_aI (by omega) (by show e < g_ln s4 2708; omega), c4, x_p1, x_sI (by omega) (by show e < g_ln s4 2708; omega), x_gR, show g_R (g_setAI s4 2708 e (Int32.ofNat (c + 1))) 3201 1 = some 2708 from (m4 _ m_k3201).1, x_aI (by omega) (by show e < g_ln s4 2708; omega), show g_AI (g_setAI s4 2708 e (Int32.ofNat (c + 1))) 2708 e = Int32.ofNat (c + 1) from (by rw [g1, if_pos ⟨rfl, rfl⟩])]
      by_cases q : 4 ≤ c + 1
      · rw [if_pos (by rw [e4]; exact q), if_pos q]
      · rw [if_neg (by rw [e4]; exact q), if_neg q]
        rfl
  intro d
  induction d with
  | zero =>
    intro c o p f mn u hc hf hm ht hp ha ho ho2 hcn
    obtain ⟨f, rfl⟩ : ∃ m, f = m + 2 := ⟨f - 2, by omega⟩
    obtain ⟨s7, t1, t2, t3, t4, t5, t6, t10, t7, t8, t9⟩ := turn c o p (f + 1) mn u (by omega) hm ht hp ha ho (by omega) hcn
    rw [if_pos (by omega), fin] at t9
    refine ⟨s7, t9, ?_, ⟨fun j hj => t5 j (by omega), t6, t10⟩, ?_, ?_⟩
    · unfold z_opl
      cases hz : z_op1 kd p with
      | inl q => rw [hz] at t7; exact t7
      | inr x => rw [hz] at t7; exact t7
    · intro L q h
      unfold z_opl at h
      cases hz : z_op1 kd p with
      | inl q => rw [hz] at h; cases h
      | inr x =>
        rw [hz] at h
        cases h
        obtain ⟨b1, b2, b3⟩ := t8 x.1 x.2 hz
        refine ⟨M_ops.cons b1 (fun j hj => absurd hj (Nat.not_lt_zero j)), t3, t4, b2, ?_, ?_, ?_⟩
        · show p + 2 * 1 ≤ x.2 + 1; omega
        · show 1 ≤ 0 + 1; omega
        · show 1 ≤ 1; omega
    · intro q h
      unfold z_opl at h
      cases hz : z_op1 kd p with
      | inl q' =>
        rw [hz] at h
        cases h
        have hq := z_op1_q hend hp hz
        exact ⟨1, t4, by omega, by omega, hq.2, Nat.le_refl _⟩
      | inr x => rw [hz] at h; cases h
  | succ d ih =>
    intro c o p f mn u hc hf hm ht hp ha ho ho2 hcn
    obtain ⟨f, rfl⟩ : ∃ m, f = m + 2 := ⟨f - 2, by omega⟩
    obtain ⟨s7, t1, t2, t3, t4, t5, t6, t10, t7, t8, t9⟩ := turn c o p (f + 1) mn u (by omega) hm ht hp ha ho (by omega) hcn
    rw [if_neg (by omega)] at t9
    cases hz : z_op1 kd p with
    | inl q =>
      have hs : z_opl kd (d + 1) mn p = .inl q := by unfold z_opl; rw [hz]; rfl
      rw [hz] at t7
      rw [m_isSignS t7.1, x_c, if_pos rfl, m_isSignS t7.1, x_c, if_pos rfl, fin] at t9
      refine ⟨s7, t9, by rw [hs]; exact t7, ⟨fun j hj => t5 j (by omega), t6, t10⟩, fun L q h => (by rw [hs] at h; cases h), fun q' h => ?_⟩
      rw [hs] at h
      cases h
      have hq := z_op1_q hend hp hz
      exact ⟨1, t4, by omega, by omega, hq.2, Nat.le_refl _⟩
    | inr x =>
      obtain ⟨b1, b2, b3⟩ := t8 x.1 x.2 hz
      rw [hz] at t7
      have hs : z_opl kd (d + 1) mn p = z_bd (z_ex kd (d + 1) x.2) fun l p2 => .inr ((mn, x.1) :: l, p2) := by unfold z_opl; rw [hz]; rfl
      have sg29 := m_isSign t1 t2 hk hn b2 t7 (k := 29) (by decide) (c := 43) rfl
      have sg30 := m_isSign t1 t2 hk hn b2 t7 (k := 30) (by decide) (c := 45) rfl
      have step : ∀ (mn2 : Bool), kd x.2 = (if mn2 = true then 30 else 29) → z_ex kd (d + 1) x.2 = z_opl kd d mn2 (x.2 + 1) → f_M_readExpression_36 (f + 1 + 1) (some 1) (Int32.ofNat e) (z_sgn mn) 1 u = f_M_readExpression_36 (f + 1) (some 1) (Int32.ofNat e) (z_sgn mn2) 1 (g_setI s7 577 1 (Int32.ofNat (x.2 + 1))) → ∃ u', f_M_readExpression_36 (f + 1 + 1) (some 1) (Int32.ofNat e) (z_sgn mn) 1 u = some (Int32.ofNat e, u') ∧ z_out u' pl (z_opl kd (d + 1) mn p) ∧ M_keptE u u' o e ∧
          (∀ L q, z_opl kd (d + 1) mn p = .inr (L, q) → M_ops u' o L ∧ g_AI u' 2708 e = Int32.ofNat (c + L.length) ∧ g_I u' 3073 1 = Int32.ofNat (o + L.length) ∧ q ≤ n ∧ p + 2 * L.length ≤ q + 1 ∧ L.length ≤ d + 1 + 1 ∧ 1 ≤ L.length) ∧
          (∀ q, z_opl kd (d + 1) mn p = .inl q → ∃ m, g_I u' 3073 1 = Int32.ofNat (o + m) ∧ m ≤ d + 1 + 1 ∧ p + 2 * m ≤ q + 2 ∧ q ≤ n ∧ 1 ≤ m) := by
        intro mn2 hk2 hz2 hf2
        have hx := hend x.2 b2 (by cases mn2 <;> (rw [hk2]; decide))
        obtain ⟨u', i1, i2, i3, i4, i5⟩ := ih (c + 1) (o + 1) (x.2 + 1) (f + 1) mn2 (g_setI s7 577 1 (Int32.ofNat (x.2 + 1))) (by omega) (by omega) t1 t2 (by omega) ⟨by rw [x_I_I, if_neg (fun q => by have := q.1; omega)]; exact t7.1, by rw [x_I_I, if_pos ⟨rfl, rfl⟩]⟩ (by rw [x_I_I, if_neg (fun q => by have := q.1; omega)]; exact t4) (by omega) t3
        rw [hs, hz2]
        refine ⟨u', hf2.trans i1, ?_, ⟨fun j hj => ?_, fun j hj => ?_, fun j => ?_⟩, fun L q h => ?_, fun q h => ?_⟩
        · cases hy : z_opl kd d mn2 (x.2 + 1) with
          | inl q => rw [hy] at i2; exact i2
          | inr y => rw [hy] at i2; exact i2
        · have := i3.1 j (by omega)
          have q := t5 j (by omega)
          exact ⟨this.1.trans q.1, this.2.1.trans q.2.1, this.2.2.trans q.2.2⟩
        · exact (i3.2.1 j hj).trans (t6 j hj)
        · exact (i3.2.2 j).trans (t10 j)
        · cases hy : z_opl kd d mn2 (x.2 + 1) with
          | inl q => rw [hy] at h; cases h
          | inr y =>
            rw [hy] at h
            cases h
            obtain ⟨j1, j2, j3, j4, j5, j6, j7⟩ := i4 y.1 y.2 hy
            have kp := i3.1 o (by omega)
            refine ⟨M_ops.cons ⟨kp.1.trans b1.1, kp.2.1.trans b1.2.1, kp.2.2.trans b1.2.2⟩ j1, ?_, ?_, j4, ?_, ?_, ?_⟩
            · rw [j2, List.length_cons, show c + 1 + y.1.length = c + (y.1.length + 1) by omega]
            · rw [j3, List.length_cons, show o + 1 + y.1.length = o + (y.1.length + 1) by omega]
            · rw [List.length_cons]; omega
            · rw [List.length_cons]; omega
            · rw [List.length_cons]; omega
        · cases hy : z_opl kd d mn2 (x.2 + 1) with
          | inl q' =>
            rw [hy] at h
            cases h
            obtain ⟨m, j1, j2, j3, j4, j5⟩ := i5 q hy
            exact ⟨m + 1, by rw [j1, show o + 1 + m = o + (m + 1) by omega], by omega, by omega, j4, by omega⟩
          | inr y => rw [hy] at h; cases h
      by_cases w30 : kd x.2 = 30
      · refine step true w30 (by rw [z_ex, if_pos w30]; rfl) ?_
        rw [t9, sg29, if_neg (by omega), x_c, if_pos rfl, sg30, if_pos w30, x_c, if_neg (by decide)]
        unfold f_M_readExpression_95
        rw [if_neg (by decide), x_nn, sg29, if_neg (by omega), x_c, if_pos rfl, x_gI, t7.2, x_pI, x_p1]
        rfl
      · by_cases w29 : kd x.2 = 29
        · refine step false w29 (by rw [z_ex, if_neg w30, if_pos w29]; rfl) ?_
          rw [t9, sg29, if_pos w29, x_c, if_neg (by decide)]
          unfold f_M_readExpression_95
          rw [if_neg (by decide), x_nn, sg29, if_pos w29, x_c, if_neg (by decide), x_gI, t7.2, x_pI, x_p1]
          rfl
        · rw [sg29, if_neg w29, x_c, if_pos rfl, sg30, if_neg w30, x_c, if_pos rfl, fin] at t9
          have hs2 : z_opl kd (d + 1) mn p = .inr ([(mn, x.1)], x.2) := by rw [hs, z_ex, if_neg w30, if_neg w29]; rfl
          refine ⟨s7, t9, by rw [hs2]; exact t7, ⟨fun j hj => t5 j (by omega), t6, t10⟩, fun L q h => ?_, fun q h => (by rw [hs2] at h; cases h)⟩
          rw [hs2] at h
          cases h
          refine ⟨M_ops.cons b1 (fun j hj => absurd hj (Nat.not_lt_zero j)), t3, t4, b2, ?_, ?_, ?_⟩
          · show p + 2 * 1 ≤ x.2 + 1; omega
          · show 1 ≤ d + 1 + 1; omega
          · show 1 ≤ 1; omega
end
