/-! THE REFERENCE READS AN ITEM -/
abbrev z_It : Type := Nat × z_Ex
def z_itr (kd : Nat → Nat) (p : Nat) : z_It × z_P :=
  if kd p = 20 then ((20, []), z_ndr kd 27 (z_ndr kd 34 (z_ndr kd 26 (.inr (p + 1)))))
  else if 21 ≤ kd p ∧ kd p ≤ 23 then ((kd p, (z_exr kd (z_ndr kd 26 (.inr (p + 1)))).1), z_ndr kd 27 (z_exr kd (z_ndr kd 26 (.inr (p + 1)))).2)
  else ((0, (z_exr kd (.inr p)).1), (z_exr kd (.inr p)).2)
/-- the item at it: its kind, its expression -/
def M_it (u : g_St) (N it : Nat) (x : z_It) : Prop := (x.1 = 0 ∧ g_AI u 2516 it = 0 ∧ ∃ e, g_AI u 2580 it = Int32.ofNat e ∧ M_ex u N e x.2) ∨ (x.1 = 20 ∧ g_AI u 2516 it = 21 ∧ g_AI u 2580 it = -1) ∨ (21 ≤ x.1 ∧ x.1 ≤ 23 ∧ g_AI u 2516 it = z_km x.1 ∧ ∃ e, g_AI u 2580 it = Int32.ofNat e ∧ M_ex u N e x.2)
section
variable {n : Nat} {kd pl : Nat → Nat} {vl : Nat → Int64}
theorem x_sZ {α : Type} {u : g_St} {a i : Nat} (h : i < 2 ^ 31) (h2 : i < g_ln u a) (F : g_St → Option α) : g_sZ u (some a) (Int32.ofNat i) 1 F = F (g_setAI u a i 1) := by
  unfold g_sZ
  rw [Int32.toNatClampNeg_ofNat_of_lt h]
  refine if_neg (fun w => w.elim (fun w => w.elim (fun q => by rw [Int32.lt_iff_toInt_lt, Int32.toInt_ofNat_of_lt h, Int32.toInt_zero] at q; omega) (fun q => absurd h2 (Nat.not_lt.mpr q))) (fun q => q (Or.inr rfl)))
theorem x_i2817 {w : g_St} {v x : Int32} {a j k : Nat} (h : k ≠ 2817) : g_I (g_setAI (g_setI w 2817 1 v) a j x) k 1 = g_I w k 1 := by
  show g_I (g_setI w 2817 1 v) k 1 = _
  rw [x_I_I, if_neg (fun q => h q.1)]
theorem x_i2817e {w : g_St} {v x : Int32} {a j : Nat} : g_I (g_setAI (g_setI w 2817 1 v) a j x) 2817 1 = v := by
  show g_I (g_setI w 2817 1 v) 2817 1 = _
  rw [x_I_I, if_pos ⟨rfl, rfl⟩]
/-- the end of an item: counters -/
theorem m_it165 {u : g_St} (hm : m_Fix u) {s it ic : Nat} (hs : s < 17) (h1 : g_I u 2817 1 = Int32.ofNat it) (h2 : g_AI u 2196 s = Int32.ofNat ic) : f_M_readItem_165 (some 1) (Int32.ofNat s) u = some ((), g_setAI (g_setI u 2817 1 (Int32.ofNat (it + 1))) 2196 s (Int32.ofNat (ic + 1))) := by
  have l1 : g_ln u 2196 = 17 := (hm _ m_k2433).2
  unfold f_M_readItem_165
  rw [x_gI, h1, x_pI, x_p1, x_gR, show g_R (g_setI u 2817 1 (Int32.ofNat (it + 1))) 2433 1 = some 2196 from (hm _ m_k2433).1, x_aI (by omega) (by show s < g_ln u 2196; omega), show g_AI (g_setI u 2817 1 (Int32.ofNat (it + 1))) 2196 s = Int32.ofNat ic from h2, x_p1, x_sI (by omega) (by show s < g_ln u 2196; omega)]
/-- what an item's end writes: arrays as a function -/
def M_end (u u' : g_St) (s it ic : Nat) (k : Option Int32) : Prop := g_I u' 2817 1 = Int32.ofNat (it + 1) ∧ (∀ x, x ≠ 2817 → x ≠ 577 → x ≠ 833 → x ≠ 897 → g_I u' x 1 = g_I u x 1) ∧ ∀ a j, g_AI u' a j = if a = 2196 ∧ j = s then Int32.ofNat (ic + 1) else match k with
  | none => g_AI u a j
  | some v => if a = 159 ∧ j = s then 1 else if a = 2516 ∧ j = it then v else g_AI u a j
theorem m_it130 (hk : ∀ i, kd i < 40) (hn : n ≤ 400) (hend : ∀ p, p ≤ n → kd p ≠ 38 → p < n) {u : g_St} (hm : m_Fix u) (ht : z_tkM u n kd pl vl) {r : z_P} (ha : z_ps u pl n r) {s it ic : Nat} (hs : s < 17) (hit : it < 68) (h1 : g_I u 2817 1 = Int32.ofNat it) (h2 : g_AI u 2196 s = Int32.ofNat ic) {k : Nat} (k1 : 20 ≤ k) (k2 : k ≤ 23) :
    ∃ u', f_M_readItem_130 (some 1) (Int32.ofNat s) (z_km k) u = some ((), u') ∧ m_Fix u' ∧ z_tkM u' n kd pl vl ∧ z_ps u' pl n (z_ndr kd 27 r) ∧ M_end u u' s it ic (some (z_km k)) := by
  have kb : ¬ z_km k < 21 ∧ ¬ 24 < z_km k := by
    have w : ((List.range 40).all fun k => decide (20 ≤ k ∧ k ≤ 23 → ¬ z_km k < 21 ∧ ¬ 24 < z_km k)) = true := by decide +kernel
    exact of_decide_eq_true (List.all_eq_true.mp w k (List.mem_range.mpr (by omega))) ⟨k1, k2⟩
  obtain ⟨s2, a1, a2, a3, a4, a5⟩ := m_ndS hk hn hend hm ht ha (k := 27) (by decide) (c := 41) rfl
  have i2 : ∀ x, x ≠ 577 → x ≠ 833 → x ≠ 897 → g_I s2 x 1 = g_I u x 1 := fun x q1 q2 q3 => a5.2.2.2.2.2.2.2.1 x 1 (fun q => by have := q.2; simp at this; omega)
  have g2 : ∀ a, g_AI s2 a = g_AI u a := fun a => (a5.2.2.2.2.2.2.2.2 a (by simp)).1
  have it2 : g_I s2 2817 1 = Int32.ofNat it := by rw [i2 2817 (by decide) (by decide) (by decide)]; exact h1
  have l1 : g_ln s2 2516 = 68 := (a2 _ m_k2881).2
  have l2 : g_ln s2 159 = 17 := (a2 _ m_k2753).2
  have r7 := m_it165 (u := g_setAI (g_setAI s2 2516 it (z_km k)) 159 s 1) a2 hs it2 (ic := ic) (by
    rw [x_AI_AI, if_neg (fun w => by have := w.1; omega), x_AI_AI, if_neg (fun w => by have := w.1; omega), g2]; exact h2)
  refine ⟨g_setAI (g_setI (g_setAI (g_setAI s2 2516 it (z_km k)) 159 s 1) 2817 1 (Int32.ofNat (it + 1))) 2196 s (Int32.ofNat (ic + 1)), ?_, ?_, ?_, ?_, ?_, ?_, ?_⟩
  · unfold f_M_readItem_130
    rw [if_neg kb.1, if_neg kb.2, x_nn, a1, x_c, x_gR, (a2 _ m_k2881).1, x_gI, it2, x_sI (by omega) (by rw [l1]; exact hit), x_gR, show g_R (g_setAI s2 2516 it (z_km k)) 2753 1 = some 159 from (a2 _ m_k2753).1, x_sZ (by omega) (by show s < g_ln s2 159; omega)]
    exact r7
  · exact a2
  · exact ((a3.sI (by decide) (by decide) it _).sI (by decide) (by decide) s _).sI (by decide) (by decide) s _
  · exact a4.of ((x_i2817 (by decide)).trans rfl) ((x_i2817 (by decide)).trans rfl) ((x_i2817 (by decide)).trans rfl)
  · exact x_i2817e
  · intro x q1 q2 q3 q4
    exact (x_i2817 q1).trans (i2 x q2 q3 q4)
  · intro a j
    rw [x_AI_AI]
    show (if a = 2196 ∧ j = s then _ else g_AI (g_setAI (g_setAI s2 2516 it (z_km k)) 159 s 1) a j) = _
    rw [x_AI_AI, x_AI_AI, g2]
theorem m_it130z {u : g_St} (hm : m_Fix u) {r : z_P} (ha : z_ps u pl n r) (ht : z_tkM u n kd pl vl) {s it ic : Nat} (hs : s < 17) (h1 : g_I u 2817 1 = Int32.ofNat it) (h2 : g_AI u 2196 s = Int32.ofNat ic) :
    ∃ u', f_M_readItem_130 (some 1) (Int32.ofNat s) 0 u = some ((), u') ∧ m_Fix u' ∧ z_tkM u' n kd pl vl ∧ z_ps u' pl n r ∧ M_end u u' s it ic none := by
  have r7 := m_it165 hm hs h1 h2
  refine ⟨g_setAI (g_setI u 2817 1 (Int32.ofNat (it + 1))) 2196 s (Int32.ofNat (ic + 1)), ?_, hm, ht.sI (by decide) (by decide) s _, ?_, ?_, ?_, ?_⟩
  · unfold f_M_readItem_130
    rw [if_pos (by decide)]
    exact r7
  · exact ha.of (x_i2817 (by decide)) (x_i2817 (by decide)) (x_i2817 (by decide))
  · exact x_i2817e
  · intro x q1 q2 q3 q4
    exact x_i2817 q1
  · intro a j
    rw [x_AI_AI]
    rfl
end
