/-! A SELECTION: sources, conditions, whole -/
theorem m_at {u : g_St} (h : m_Fix u) {k a l : Nat} (hq : (k, a, l) ∈ m_tab) : g_R u k 1 = some a ∧ g_ln u a = l := h _ hq
section
variable {n : Nat} {kd pl : Nat → Nat} {vl : Nat → Int64}
def M_j2 (u0 : g_St) (C0 : Nat → Nat) (s p0 d p : Nat) (l : List Nat) (u : g_St) (C : Nat → Nat) : Prop := M_c u C ∧ z_le C0 C ∧ M_low u0 u C0 ∧ z_bg d p C ∧ (∀ f, f ≠ 3585 → C f = C0 f) ∧ C 3585 = C0 3585 + l.length ∧ g_AI u 2324 s = Int32.ofNat l.length ∧ (∀ a, a ≠ 2324 → a ≠ 3092 → a ≠ 3156 → g_AI u a = g_AI u0 a) ∧ M_sos u C (C0 3585) l ∧ p0 ≤ p
def M_J2 (u0 : g_St) (C0 : Nat → Nat) (s p0 d p : Nat) (l : List Nat) (u : g_St) : Prop := ∃ C, M_j2 u0 C0 s p0 d p l u C
theorem M_J2.as {u0 s s' : g_St} {C0 : Nat → Nat} {i p0 q : Nat} {l : List Nat} (h : M_J2 u0 C0 i p0 1 q l s) (g : M_as s s') : M_J2 u0 C0 i p0 0 (q + 1) l s' ∧ M_J2 u0 C0 i p0 1 q l s' := by
  obtain ⟨C, h1, h2, h3, h4, h5, h6, h7, h9, h10, h11⟩ := h
  have t1 := h1.as g
  have t3 : M_low u0 s' C0 := h3.trans (M_low.as g) z_le.re
  have t7 : g_AI s' 2324 i = Int32.ofNat l.length := by rw [g.1]; exact h7
  have t9 : ∀ a, a ≠ 2324 → a ≠ 3092 → a ≠ 3156 → g_AI s' a = g_AI u0 a := fun a w1 w2 w3 => by rw [g.1]; exact h9 a w1 w2 w3
  have t10 := h10.low (M_low.as g) z_le.re
  exact ⟨⟨C, t1, h2, t3, h4, h5, h6, t7, t9, t10, by omega⟩, ⟨C, t1, h2, t3, h4, h5, h6, t7, t9, t10, h11⟩⟩
theorem b_sos (H : z_H n kd) {u0 : g_St} {p : Nat} (h : M_b n kd pl vl u0 (.inr p)) {C0 : Nat → Nat} (hc : M_c u0 C0) (hb : z_bg 0 p C0) {s : Nat} (hs : s < 17) (hs2 : C0 2177 = s) (hk : C0 3585 + 3 ≤ 100) (h2 : g_AI u0 2324 s = 0) : ∃ u', f_M_readSelection_138 200000 (some 1) (Int32.ofNat s) 1 u0 = f_M_readSelection_191 (some 1) (Int32.ofNat s) u' ∧ M_b n kd pl vl u' (z_lst kd 25 (z_sos kd) 2 p).2 ∧ (z_lst kd 25 (z_sos kd) 2 p).1.length ≤ 3 ∧ ∀ q, (z_lst kd 25 (z_sos kd) 2 p).2 = .inr q → M_J2 u0 C0 s p 1 q (z_lst kd 25 (z_sos kd) 2 p).1 u' := by
  refine b_loop (fun f x u => f_M_readSelection_138 f (some 1) (Int32.ofNat s) x u) (f_M_readSelection_191 (some 1) (Int32.ofNat s)) (f_M_skipSign (some 1) 44) 25 (z_sos kd) 2 (M_J2 u0 C0 s p 1) (M_J2 u0 C0 s p 0) (fun s r hr => b_skS H hr (by decide) rfl) (fun f s => ?_) (fun p1 l u f hl hu hJ => ?_) (fun q l s s' hq ha => hq.as ha) 2 p [] u0 200000 rfl (by omega) h ⟨C0, hc, z_le.re, M_low.re, hb, fun _ _ => rfl, rfl, h2, fun _ _ _ _ => rfl, ⟨Nat.le_refl _, fun j hj => by cases hj⟩, Nat.le_refl _⟩
  · show f_M_readSelection_138 (f + 1) (some 1) (Int32.ofNat _) 0 s = _
    rw [f_M_readSelection_138, if_pos rfl]
  · obtain ⟨C, c1, c2, c3, c4, c5, c6, c7, c9, c10, c11⟩ := hJ
    obtain ⟨u1, a1, a2, a3, a4, a5, a6⟩ := b_so H hu c1 (by omega)
    have g1 : g_AI u1 2324 s = Int32.ofNat l.length := by rw [(a3.2.2.2.2.2.2.2.2 2324 (by decide)).1]; exact c7
    refine ⟨g_setAI u1 2324 s (Int32.ofNat (l.length + 1)), a2.sI (by decide) (by decide) _ _, ?_, fun q hq => ?_⟩
    · show f_M_readSelection_138 (f + 1) (some 1) (Int32.ofNat s) 1 u = _
      rw [f_M_readSelection_138, if_neg (by decide), x_nn, b_bad hu, x_c, if_pos rfl, x_nn, a1, x_c, x_gR, (m_at a2.1 m_k2561).1, x_aI (by omega) (by rw [(m_at a2.1 m_k2561).2]; exact hs), g1, x_p1, x_sI (by omega) (by rw [(m_at a2.1 m_k2561).2]; exact hs), x_gR, show g_R (g_setAI u1 2324 s (Int32.ofNat (l.length + 1))) 2561 1 = some 2324 from (m_at a2.1 m_k2561).1, x_aI (by omega) (by show s < g_ln u1 2324; rw [(m_at a2.1 m_k2561).2]; exact hs), show g_AI (g_setAI u1 2324 s (Int32.ofNat (l.length + 1))) 2324 s = Int32.ofNat (l.length + 1) from (by rw [x_AI_AI, if_pos ⟨rfl, rfl⟩])]
      have e4 : (3 ≤ Int32.ofNat (l.length + 1)) = (3 ≤ l.length + 1) := x_le (a := 3) (by decide) (by omega)
      by_cases w : 2 ≤ l.length
      · rw [if_pos w, if_pos (by rw [e4]; omega)]
      · rw [if_neg w, if_neg (by rw [e4]; omega)]; rfl
    · obtain ⟨e1, e2⟩ := a6 p1 q rfl hq
      have len : (l ++ [(z_sos kd p1).1]).length = l.length + 1 := by rw [List.length_append, List.length_singleton]
      have le1 : z_le C (z_up C 3585 (C 3585 + 1)) := z_le.re.up (by omega)
      obtain ⟨k1, k2, k3⟩ := c4
      have L2 : M_low u (g_setAI u1 2324 s (Int32.ofNat (l.length + 1))) C := a4.sI (f := 2177) (k := 1) (by decide) (by rw [c5 2177 (by decide)]; omega) _
      refine ⟨z_up C 3585 (C 3585 + 1), a5, c2.trans le1, c3.trans L2 c2, ⟨?_, k2, ?_⟩, fun f q1 => by rw [z_up_n _ _ q1, c5 f q1], by rw [len, z_up_e]; omega, by rw [len, x_AI_AI, if_pos ⟨rfl, rfl⟩], fun a q1 q2 q3 => funext fun j => ?_, ⟨by rw [len, z_up_e]; omega, fun j hj => ?_⟩, by omega⟩
      · show 2 * C 3073 ≤ q + 1
        omega
      · show 4 * C 3841 ≤ q + 1
        omega
      · rw [x_AI_AI, if_neg (fun w => q1 w.1), (a3.2.2.2.2.2.2.2.2 a (fun w => by simp only [List.mem_cons, List.not_mem_nil, or_false] at w; omega)).1, c9 a q1 q2 q3]
      · rw [len] at hj
        by_cases w : j < l.length
        · rw [z_getD_l w]
          exact (c10.low L2 le1).2 j w
        · have ej : j = l.length := by omega
          rw [ej, z_getD_e, ← c6]
          exact ⟨by rw [x_AI_AI, if_neg (fun w => by have := w.1; omega)]; exact e1.1, by rw [x_AI_AI, if_neg (fun w => by have := w.1; omega)]; exact e1.2⟩
/-- a condition of either kind -/
theorem b_con (H : z_H n kd) {u : g_St} {p : Nat} (h : M_b n kd pl vl u (.inr p)) {C : Nat → Nat} (hc : M_c u C) (hb : z_bg 0 p C) (hk : C 3585 < 100) : ∃ u', (if kd p = 7 then f_M_readNotExists (some 1) u else f_M_readCondition (some 1) u) = some (Int32.ofNat (C 3841), u') ∧ M_b n kd pl vl u' (z_con kd vl p).2 ∧ (∀ a, a = 159 ∨ a = 2004 ∨ a = 2068 ∨ a = 2132 ∨ a = 2196 ∨ a = 2260 ∨ a = 2324 ∨ a = 2388 ∨ a = 2452 → g_AI u' a = g_AI u a) ∧ M_low u u' C ∧ ∃ C', M_c u' C' ∧ z_le C C' ∧ (∀ f, f ≠ 3009 → f ≠ 3073 → f ≠ 3841 → f ≠ 3585 → C' f = C f) ∧ ∀ q, (z_con kd vl p).2 = .inr q → z_bg 1 q C' ∧ p + 3 ≤ q ∧ (C' 3585 = C 3585 ∨ (C' 3585 = C 3585 + 1 ∧ p + 9 ≤ q)) ∧ M_co u' C' (C 3841) (z_con kd vl p).1 := by
  unfold z_con
  by_cases w : kd p = 7
  · rw [if_pos w, if_pos w]
    obtain ⟨u', a1, a2, a3, a4, C', a5, a6, a7, a8, a9⟩ := b_ne H h w hc hb hk
    refine ⟨u', a1, a2, fun a ha => (a3.2.2.2.2.2.2.2.2 a (fun w => by simp only [List.mem_cons, List.not_mem_nil, or_false] at w; omega)).1, a4, C', a5, a6, a7, fun q hq => ?_⟩
    obtain ⟨b1, b2, b3⟩ := a9 q hq
    exact ⟨b1, by omega, Or.inr ⟨a8, b2⟩, b3⟩
  · rw [if_neg w, if_neg w]
    obtain ⟨u', a1, a2, a3, a4, C', a5, a6, a7, a9⟩ := b_cor H h hc hb
    refine ⟨u', a1, a2, fun a ha => (a3.2.2.2.2.2.2.2.2 a (fun w => by simp only [List.mem_cons, List.not_mem_nil, or_false] at w; omega)).1, a4, C', a5, a6, fun f q1 q2 q3 _ => a7 f q1 q2 q3, fun q hq => ?_⟩
    obtain ⟨b1, b2, b3⟩ := a9 q hq
    exact ⟨b1, b2, Or.inl (a7 _ (by decide) (by decide) (by decide)), b3⟩
def M_j3 (u0 : g_St) (C0 : Nat → Nat) (s p0 d p : Nat) (l : List z_Co) (u : g_St) (C : Nat → Nat) : Prop := M_c u C ∧ z_le C0 C ∧ M_low u0 u C0 ∧ z_bg d p C ∧ (∀ f, f ≠ 3009 → f ≠ 3073 → f ≠ 3841 → f ≠ 3585 → C f = C0 f) ∧ 10 * C 3585 ≤ 30 * (s + 1) + p + d ∧ g_AI u 2388 s = Int32.ofNat l.length ∧ (∀ a, a = 159 ∨ a = 2004 ∨ a = 2068 ∨ a = 2132 ∨ a = 2196 ∨ a = 2260 ∨ a = 2324 → g_AI u a = g_AI u0 a) ∧ M_cos u C s l ∧ p0 ≤ p
def M_J3 (u0 : g_St) (C0 : Nat → Nat) (s p0 d p : Nat) (l : List z_Co) (u : g_St) : Prop := ∃ C, M_j3 u0 C0 s p0 d p l u C
theorem M_J3.as {u0 s s' : g_St} {C0 : Nat → Nat} {i p0 q : Nat} {l : List z_Co} (h : M_J3 u0 C0 i p0 1 q l s) (g : M_as s s') : M_J3 u0 C0 i p0 0 (q + 1) l s' ∧ M_J3 u0 C0 i p0 1 q l s' := by
  obtain ⟨C, h1, h2, h3, h4, h5, h6, h7, h9, h10, h11⟩ := h
  have t1 := h1.as g
  have t3 : M_low u0 s' C0 := h3.trans (M_low.as g) z_le.re
  have t7 : g_AI s' 2388 i = Int32.ofNat l.length := by rw [g.1]; exact h7
  have t9 : ∀ a, a = 159 ∨ a = 2004 ∨ a = 2068 ∨ a = 2132 ∨ a = 2196 ∨ a = 2260 ∨ a = 2324 → g_AI s' a = g_AI u0 a := fun a w => by rw [g.1]; exact h9 a w
  have t10 : M_cos s' C i l := fun j hj => by
    obtain ⟨c, e1, e2⟩ := h10 j hj
    exact ⟨c, by rw [g.1]; exact e1, e2.low (M_low.as g) z_le.re⟩
  exact ⟨⟨C, t1, h2, t3, h4, h5, by omega, t7, t9, t10, by omega⟩, ⟨C, t1, h2, t3, h4, h5, h6, t7, t9, t10, h11⟩⟩
def M_E3 (u : g_St) : Option (Unit × g_St) := g_gI u 2177 (some 1) fun i1 => g_pI u 2177 (some 1) (i1 + 1) fun s2 => some ((), s2)
theorem b_cos (H : z_H n kd) {u0 : g_St} {p : Nat} (h : M_b n kd pl vl u0 (.inr p)) {C0 : Nat → Nat} (hc : M_c u0 C0) (hb : z_bg 0 p C0) {s : Nat} (hs : s < 17) (hs2 : C0 2177 = s) (hk : 10 * C0 3585 ≤ 30 * (s + 1) + p) (h2 : g_AI u0 2388 s = 0) : ∃ u', f_M_readSelection_209 200000 (some 1) (Int32.ofNat s) 1 u0 = M_E3 u' ∧ M_b n kd pl vl u' (z_lst kd 6 (z_con kd vl) 5 p).2 ∧ (z_lst kd 6 (z_con kd vl) 5 p).1.length ≤ 6 ∧ ∀ q, (z_lst kd 6 (z_con kd vl) 5 p).2 = .inr q → M_J3 u0 C0 s p 1 q (z_lst kd 6 (z_con kd vl) 5 p).1 u' := by
  refine b_loop (fun f x u => f_M_readSelection_209 f (some 1) (Int32.ofNat s) x u) M_E3 (f_M_skip (some 1) 7) 6 (z_con kd vl) 5 (M_J3 u0 C0 s p 1) (M_J3 u0 C0 s p 0) (fun s r hr => b_sk H hr (k := 6) (by decide)) (fun f s => ?_) (fun p1 l u f hl hu hJ => ?_) (fun q l s s' hq ha => hq.as ha) 5 p [] u0 200000 rfl (by omega) h ⟨C0, hc, z_le.re, M_low.re, hb, fun _ _ _ _ _ => rfl, hk, h2, fun _ _ => rfl, (fun j hj => by cases hj), Nat.le_refl _⟩
  · show f_M_readSelection_209 (f + 1) (some 1) (Int32.ofNat _) 0 s = _
    rw [f_M_readSelection_209, if_pos rfl]
    rfl
  · obtain ⟨C, c1, c2, c3, c4, c5, c6, c7, c9, c10, c11⟩ := hJ
    have hp := hu.le
    have hn := H.2.1
    obtain ⟨u1, a1, a2, a3, a4, C', a5, a6, a7, a8⟩ := b_con H hu c1 c4 (by omega)
    have e6 : 6 * Int32.ofNat s + Int32.ofNat l.length = Int32.ofNat (6 * s + l.length) := by rw [Int32.ofNat_add, Int32.ofNat_mul]; rfl
    obtain ⟨s4, hs4⟩ : ∃ s4, s4 = g_setAI (g_setAI u1 2452 (6 * s + l.length) (Int32.ofNat (C 3841))) 2388 s (Int32.ofNat (l.length + 1)) := ⟨_, rfl⟩
    have g4 : ∀ a j, g_AI s4 a j = if a = 2388 ∧ j = s then Int32.ofNat (l.length + 1) else if a = 2452 ∧ j = 6 * s + l.length then Int32.ofNat (C 3841) else g_AI u1 a j := fun a j => by rw [hs4, x_AI_AI, x_AI_AI]
    have b4 : M_b n kd pl vl s4 (z_con kd vl p1).2 := by rw [hs4]; exact (a2.sI (by decide) (by decide) _ _).sI (by decide) (by decide) _ _
    have g1 : g_AI u1 2388 s = Int32.ofNat l.length := by rw [a3 2388 (by omega)]; exact c7
    refine ⟨s4, b4, ?_, fun q hq => ?_⟩
    · show f_M_readSelection_209 (f + 1) (some 1) (Int32.ofNat s) 1 u = _
      have e255 : f_M_readSelection_209 (f + 1) (some 1) (Int32.ofNat s) 1 u = f_M_readSelection_255 (f_M_readSelection_209 f) (some 1) (Int32.ofNat s) (some 2452) (Int32.ofNat (6 * s + l.length)) (Int32.ofNat (C 3841)) u1 := by
        rw [f_M_readSelection_209, if_neg (by decide), x_nn, b_bad hu, x_c, if_pos rfl, x_gR, (m_at hu.1 m_k2689).1, x_gR, (m_at hu.1 m_k2625).1, x_aI (by omega) (by rw [(m_at hu.1 m_k2625).2]; exact hs), c7, x_nn, show (8 : Int32) = z_km 7 from rfl, b_is H hu (by decide), x_c]
        by_cases w : kd p1 = 7
        · rw [if_pos w] at a1
          rw [if_pos w, if_neg (by decide), x_nn, a1, x_c, e6]
        · rw [if_neg w] at a1
          rw [if_neg w, if_pos rfl, x_nn, a1, x_c, e6]
      rw [e255]
      unfold f_M_readSelection_255
      rw [x_sI (by omega) (by rw [(m_at a2.1 m_k2689).2]; show _ < 102; omega), x_gR, show g_R (g_setAI u1 2452 (6 * s + l.length) (Int32.ofNat (C 3841))) 2625 1 = some 2388 from (m_at a2.1 m_k2625).1, x_aI (by omega) (by show s < g_ln u1 2388; rw [(m_at a2.1 m_k2625).2]; exact hs), show g_AI (g_setAI u1 2452 (6 * s + l.length) (Int32.ofNat (C 3841))) 2388 s = Int32.ofNat l.length from (by rw [x_AI_AI, if_neg (fun w => by have := w.1; omega)]; exact g1), x_p1, x_sI (by omega) (by show s < g_ln u1 2388; rw [(m_at a2.1 m_k2625).2]; exact hs), ← hs4, x_gR, (m_at b4.1 m_k2625).1, x_aI (by omega) (by rw [(m_at b4.1 m_k2625).2]; exact hs), show g_AI s4 2388 s = Int32.ofNat (l.length + 1) from (by rw [g4, if_pos ⟨rfl, rfl⟩])]
      have e4 : (6 ≤ Int32.ofNat (l.length + 1)) = (6 ≤ l.length + 1) := x_le (a := 6) (by decide) (by omega)
      by_cases w : 5 ≤ l.length
      · rw [if_pos w, if_pos (by rw [e4]; omega)]
      · rw [if_neg w, if_neg (by rw [e4]; omega)]; rfl
    · obtain ⟨e1, e2, e3, e4⟩ := a8 q hq
      have len : (l ++ [(z_con kd vl p1).1]).length = l.length + 1 := by rw [List.length_append, List.length_singleton]
      have s2 : C 2177 = s := by rw [c5 2177 (by decide) (by decide) (by decide) (by decide)]; exact hs2
      have L1 : M_low u1 s4 C' := by
        rw [hs4]
        exact ((M_low.re).sI (f := 2177) (k := 6) (by decide) (by rw [a7 2177 (by decide) (by decide) (by decide) (by decide)]; omega) _).sI (f := 2177) (k := 1) (by decide) (by rw [a7 2177 (by decide) (by decide) (by decide) (by decide)]; omega) _
      have L2 : M_low u s4 C := a4.trans L1 a6
      refine ⟨C', by rw [hs4]; exact (a5.sI _ _ _).sI _ _ _, c2.trans a6, c3.trans L2 c2, e1, fun f q1 q2 q3 q4 => by rw [a7 f q1 q2 q3 q4, c5 f q1 q2 q3 q4], by omega, by rw [len, g4, if_pos ⟨rfl, rfl⟩], fun a w => funext fun j => ?_, fun j hj => ?_, by omega⟩
      · rw [g4, if_neg (fun y => by have := y.1; omega), if_neg (fun y => by have := y.1; omega), a3 a (by omega), c9 a w]
      · rw [len] at hj
        by_cases w : j < l.length
        · rw [z_getD_l w]
          obtain ⟨c, y1, y2⟩ := c10 j w
          refine ⟨c, ?_, y2.low L2 a6⟩
          rw [g4, if_neg (fun y => by have := y.1; omega), if_neg (fun y => by have := y.2; omega), a3 2452 (by omega)]
          exact y1
        · have ej : j = l.length := by omega
          rw [ej, z_getD_e]
          refine ⟨C 3841, ?_, e4.low L1 z_le.re⟩
          rw [g4, if_neg (fun y => by have := y.1; omega), if_pos ⟨rfl, rfl⟩]
end
