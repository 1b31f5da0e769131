/-! THE REFERENCE READS AN ITEM -/
abbrev z_It : Type := Nat × z_Ex
def z_itr (kd : Nat → Nat) (p : Nat) : z_It × z_P :=
  if kd p = 20 then ((20, []), z_ndr kd 27 (z_ndr kd 34 (z_ndr kd 26 (.inr (p + 1)))))
  else if 21 ≤ kd p ∧ kd p ≤ 23 then ((kd p, (z_exr kd (z_ndr kd 26 (.inr (p + 1)))).1), z_ndr kd 27 (z_exr kd (z_ndr kd 26 (.inr (p + 1)))).2)
  else ((0, (z_exr kd (.inr p)).1), (z_exr kd (.inr p)).2)
/-- the item at it: its kind, its expression -/
def M_it (u : g_St) (N E it : Nat) (x : z_It) : Prop := (x.1 = 0 ∧ g_AI u 2516 it = 0 ∧ ∃ e, e < E ∧ g_AI u 2580 it = Int32.ofNat e ∧ M_ex u N e x.2) ∨ (x.1 = 20 ∧ g_AI u 2516 it = 21 ∧ g_AI u 2580 it = -1) ∨ (21 ≤ x.1 ∧ x.1 ≤ 23 ∧ g_AI u 2516 it = z_km x.1 ∧ ∃ e, e < E ∧ g_AI u 2580 it = Int32.ofNat e ∧ M_ex u N e x.2)
section
variable {n : Nat} {kd pl : Nat → Nat} {vl : Nat → Int64}
theorem x_sZ {α : Type} {u : g_St} {a i : Nat} (h : i < 2 ^ 31) (h2 : i < g_ln u a) (F : g_St → Option α) : g_sZ u (some a) (Int32.ofNat i) 1 F = F (g_setAI u a i 1) := by
  unfold g_sZ
  rw [Int32.toNatClampNeg_ofNat_of_lt h]
  refine if_neg (fun w => w.elim (fun w => w.elim (fun q => by rw [Int32.lt_iff_toInt_lt, Int32.toInt_ofNat_of_lt h, Int32.toInt_zero] at q; omega) (fun q => absurd h2 (Nat.not_lt.mpr q))) (fun q => q (Or.inr rfl)))
theorem x_i2817 {w : g_St} {v x : Int32} {a j k : Nat} (h : k ≠ 2817) : g_I (g_setAI (g_setI w 2817 1 v) a j x) k 1 = g_I w k 1 := by
  show g_I (g_setI w 2817 1 v) k 1 = _
  rw [x_I_I, if_neg (fun q => h q.1)]
theorem x_i2817e {w : g_St} {v x : Int32} {a j : Nat} : g_I (g_setAI (g_setI w 2817 1 v) a j x) 2817 1 = v := by
  show g_I (g_setI w 2817 1 v) 2817 1 = _
  rw [x_I_I, if_pos ⟨rfl, rfl⟩]
/-- the end of an item: counters -/
theorem m_it165 {u : g_St} (hm : m_Fix u) {s it ic : Nat} (hs : s < 17) (h1 : g_I u 2817 1 = Int32.ofNat it) (h2 : g_AI u 2196 s = Int32.ofNat ic) : f_M_readItem_165 (some 1) (Int32.ofNat s) u = some ((), g_setAI (g_setI u 2817 1 (Int32.ofNat (it + 1))) 2196 s (Int32.ofNat (ic + 1))) := by
  have l1 : g_ln u 2196 = 17 := (hm _ m_k2433).2
  unfold f_M_readItem_165
  rw [x_gI, h1, x_pI, x_p1, x_gR, show g_R (g_setI u 2817 1 (Int32.ofNat (it + 1))) 2433 1 = some 2196 from (hm _ m_k2433).1, x_aI (by omega) (by show s < g_ln u 2196; omega), show g_AI (g_setI u 2817 1 (Int32.ofNat (it + 1))) 2196 s = Int32.ofNat ic from h2, x_p1, x_sI (by omega) (by show s < g_ln u 2196; omega)]
/-- what an item's end writes: arrays as a function -/
def M_end (u u' : g_St) (s it ic : Nat) (k : Option Int32) : Prop := g_I u' 2817 1 = Int32.ofNat (it + 1) ∧ (∀ x, x ≠ 2817 → x ≠ 577 → x ≠ 833 → x ≠ 897 → g_I u' x 1 = g_I u x 1) ∧ ∀ a j, g_AI u' a j = if a = 2196 ∧ j = s then Int32.ofNat (ic + 1) else match k with
  | none => g_AI u a j
  | some v => if a = 159 ∧ j = s then 1 else if a = 2516 ∧ j = it then v else g_AI u a j
theorem m_it130 (hk : ∀ i, kd i < 40) (hn : n ≤ 400) (hend : ∀ p, p ≤ n → kd p ≠ 38 → p < n) {u : g_St} (hm : m_Fix u) (ht : z_tkM u n kd pl vl) {r : z_P} (ha : z_ps u pl n r) {s it ic : Nat} (hs : s < 17) (hit : it < 68) (h1 : g_I u 2817 1 = Int32.ofNat it) (h2 : g_AI u 2196 s = Int32.ofNat ic) {k : Nat} (k1 : 20 ≤ k) (k2 : k ≤ 23) :
    ∃ u', f_M_readItem_130 (some 1) (Int32.ofNat s) (z_km k) u = some ((), u') ∧ m_Fix u' ∧ z_tkM u' n kd pl vl ∧ z_ps u' pl n (z_ndr kd 27 r) ∧ M_end u u' s it ic (some (z_km k)) := by
  have kb : ¬ z_km k < 21 ∧ ¬ 24 < z_km k := by
    have w : ((List.range 40).all fun k => decide (20 ≤ k ∧ k ≤ 23 → ¬ z_km k < 21 ∧ ¬ 24 < z_km k)) = true := by decide +kernel
    exact of_decide_eq_true (List.all_eq_true.mp w k (List.mem_range.mpr (by omega))) ⟨k1, k2⟩
  obtain ⟨s2, a1, a2, a3, a4, a5⟩ := m_ndS hk hn hend hm ht ha (k := 27) (by decide) (c := 41) rfl
  have i2 : ∀ x, x ≠ 577 → x ≠ 833 → x ≠ 897 → g_I s2 x 1 = g_I u x 1 := fun x q1 q2 q3 => a5.2.2.2.2.2.2.2.1 x 1 (fun q => by have := q.2; simp at this; omega)
  have g2 : ∀ a, g_AI s2 a = g_AI u a := fun a => (a5.2.2.2.2.2.2.2.2 a (by simp)).1
  have it2 : g_I s2 2817 1 = Int32.ofNat it := by rw [i2 2817 (by decide) (by decide) (by decide)]; exact h1
  have l1 : g_ln s2 2516 = 68 := (a2 _ m_k2881).2
  have l2 : g_ln s2 159 = 17 := (a2 _ m_k2753).2
  have r7 := m_it165 (u := g_setAI (g_setAI s2 2516 it (z_km k)) 159 s 1) a2 hs it2 (ic := ic) (by
    rw [x_AI_AI, if_neg (fun w => by have := w.1; omega), x_AI_AI, if_neg (fun w => by have := w.1; omega), g2]; exact h2)
  refine ⟨g_setAI (g_setI (g_setAI (g_setAI s2 2516 it (z_km k)) 159 s 1) 2817 1 (Int32.ofNat (it + 1))) 2196 s (Int32.ofNat (ic + 1)), ?_, ?_, ?_, ?_, ?_, ?_, ?_⟩
  · unfold f_M_readItem_130
    rw [if_neg kb.1, if_neg kb.2, x_nn, a1, x_c, x_gR, (a2 _ m_k2881).1, x_gI, it2, x_sI (by omega) (by rw [l1]; exact hit), x_gR, show g_R (g_setAI s2 2516 it (z_km k)) 2753 1 = some 159 from (a2 _ m_k2753).1, x_sZ (by omega) (by show s < g_ln s2 159; omega)]
    exact r7
  · exact a2
  · exact ((a3.sI (by decide) (by decide) it _).sI (by decide) (by decide) s _).sI (by decide) (by decide) s _
  · exact a4.of ((x_i2817 (by decide)).trans rfl) ((x_i2817 (by decide)).trans rfl) ((x_i2817 (by decide)).trans rfl)
  · exact x_i2817e
  · intro x q1 q2 q3 q4
    exact (x_i2817 q1).trans (i2 x q2 q3 q4)
  · intro a j
    rw [x_AI_AI]
    show (if a = 2196 ∧ j = s then _ else g_AI (g_setAI (g_setAI s2 2516 it (z_km k)) 159 s 1) a j) = _
    rw [x_AI_AI, x_AI_AI, g2]
theorem m_it130z {u : g_St} (hm : m_Fix u) {r : z_P} (ha : z_ps u pl n r) (ht : z_tkM u n kd pl vl) {s it ic : Nat} (hs : s < 17) (h1 : g_I u 2817 1 = Int32.ofNat it) (h2 : g_AI u 2196 s = Int32.ofNat ic) :
    ∃ u', f_M_readItem_130 (some 1) (Int32.ofNat s) 0 u = some ((), u') ∧ m_Fix u' ∧ z_tkM u' n kd pl vl ∧ z_ps u' pl n r ∧ M_end u u' s it ic none := by
  have r7 := m_it165 hm hs h1 h2
  refine ⟨g_setAI (g_setI u 2817 1 (Int32.ofNat (it + 1))) 2196 s (Int32.ofNat (ic + 1)), ?_, hm, ht.sI (by decide) (by decide) s _, ?_, ?_, ?_, ?_⟩
  · unfold f_M_readItem_130
    rw [if_pos (by decide)]
    exact r7
  · exact ha.of (x_i2817 (by decide)) (x_i2817 (by decide)) (x_i2817 (by decide))
  · exact x_i2817e
  · intro x q1 q2 q3 q4
    exact x_i2817 q1
  · intro a j
    rw [x_AI_AI]
    rfl
/-- what reading an item leaves -/
def M_keptI (u u' : g_St) (o e s it : Nat) : Prop := M_keptX u u' o e ∧ (∀ j, j ≠ s → g_AI u' 2196 j = g_AI u 2196 j ∧ g_AI u' 159 j = g_AI u 159 j) ∧ ∀ j, j ≠ it → g_AI u' 2516 j = g_AI u 2516 j ∧ g_AI u' 2580 j = g_AI u 2580 j
set_option maxHeartbeats 1000000 in
theorem m_item (hk : ∀ i, kd i < 40) (hn : n ≤ 400) (hend : ∀ p, p ≤ n → kd p ≠ 38 → p < n) {u : g_St} (hm : m_Fix u) (ht : z_tkM u n kd pl vl) {p : Nat} (ha : z_ps u pl n (.inr p)) {e o s it ic : Nat} (he : e < 210) (ho : o + 3 < 210) (hs : s < 17) (hit : it < 68) (h3 : g_I u 3009 1 = Int32.ofNat e) (h4 : g_I u 3073 1 = Int32.ofNat o) (h1 : g_I u 2817 1 = Int32.ofNat it) (h2 : g_AI u 2196 s = Int32.ofNat ic) :
    ∃ u', f_M_readItem (some 1) (Int32.ofNat s) u = some ((), u') ∧ m_Fix u' ∧ z_tkM u' n kd pl vl ∧ z_ps u' pl n (z_itr kd p).2 ∧ M_keptI u u' o e s it ∧ g_I u' 2817 1 = Int32.ofNat (it + 1) ∧ g_AI u' 2196 s = Int32.ofNat (ic + 1) ∧ g_AI u' 159 s = (if (z_itr kd p).1.1 = 0 then g_AI u 159 s else 1) ∧
      ∃ e' m, g_I u' 3009 1 = Int32.ofNat e' ∧ e ≤ e' ∧ e' ≤ e + 1 ∧ g_I u' 3073 1 = Int32.ofNat (o + m) ∧ m ≤ 4 ∧ z_pro (.inr p) (z_itr kd p).2 m 1 (e' - e) ∧ (∀ q, (z_itr kd p).2 = .inr q → M_it u' (o + m) e' it (z_itr kd p).1) := by
  have l1 : g_ln u 2516 = 68 := (hm _ m_k2881).2
  have hpn : p ≤ n := ha.2
  obtain ⟨s6, hs6⟩ : ∃ s6, s6 = g_setAI u 2516 it 0 := ⟨_, rfl⟩
  have g6 : ∀ a j, g_AI s6 a j = if a = 2516 ∧ j = it then 0 else g_AI u a j := fun a j => by rw [hs6, x_AI_AI]
  have g6' : ∀ a, a ≠ 2516 → g_AI s6 a = g_AI u a := fun a h => funext fun j => by rw [g6, if_neg (fun w => h w.1)]
  have i6 : ∀ x, g_I s6 x 1 = g_I u x 1 := fun x => by rw [hs6]; rfl
  have m6 : m_Fix s6 := by rw [hs6]; exact hm
  have t6 : z_tkM s6 n kd pl vl := by rw [hs6]; exact ht.sI (by decide) (by decide) it _
  have p6 : z_ps s6 pl n (.inr p) := ha.of (i6 833) (i6 897) (i6 577)
  have it6 : g_I s6 2817 1 = Int32.ofNat it := by rw [i6]; exact h1
  have cd : ∀ k, k < 40 → (21 ≤ k ∧ k ≤ 23 → ¬ z_km k < 22 ∧ ¬ 24 < z_km k) ∧ (¬ (20 ≤ k ∧ k ≤ 23) → z_km k < 22 ∨ 24 < z_km k) := by
    have w : ((List.range 40).all fun k => decide ((21 ≤ k ∧ k ≤ 23 → ¬ z_km k < 22 ∧ ¬ 24 < z_km k) ∧ (¬ (20 ≤ k ∧ k ≤ 23) → z_km k < 22 ∨ 24 < z_km k))) = true := by decide +kernel
    intro k hk
    exact of_decide_eq_true (List.all_eq_true.mp w k (List.mem_range.mpr hk))
  -- the expression's part of an item, from a state like s6
  have ex : ∀ (s0 : g_St) (r : z_P), m_Fix s0 → z_tkM s0 n kd pl vl → z_ps s0 pl n r → (∀ a, g_AI s0 a = g_AI s6 a) → (∀ x, x ≠ 577 → x ≠ 833 → x ≠ 897 → g_I s0 x 1 = g_I s6 x 1) → ∃ s4 s5 m, f_M_readExpression (some 1) s0 = some (Int32.ofNat e, s4) ∧ s5 = g_setAI s4 2580 it (Int32.ofNat e) ∧ m_Fix s4 ∧ m_Fix s5 ∧ z_tkM s5 n kd pl vl ∧ z_ps s5 pl n (z_exr kd r).2 ∧ M_keptX u s5 o e ∧ (∀ a, a = 2196 ∨ a = 159 ∨ a = 2516 → g_AI s5 a = g_AI s6 a) ∧ (∀ j, j ≠ it → g_AI s5 2580 j = g_AI u 2580 j) ∧ g_AI s5 2580 it = Int32.ofNat e ∧ g_I s5 2817 1 = Int32.ofNat it ∧ g_I s5 3009 1 = Int32.ofNat (e + 1) ∧ g_I s5 3073 1 = Int32.ofNat (o + m) ∧ m ≤ 4 ∧ (∀ p, r = .inr p → match (z_exr kd r).2 with | .inl q => p + 2 * m ≤ q + 2 ∧ q ≤ n ∧ 1 ≤ m | .inr q => p + 2 * m ≤ q + 1 ∧ 1 ≤ m) ∧ (∀ q, r = .inl q → m = 0) ∧ (∀ q, (z_exr kd r).2 = .inr q → M_ex s5 (o + m) e (z_exr kd r).1) := by
    intro s0 r q1 q2 q3 q4 q5
    obtain ⟨s4, a1, a2, a3, a4, a5, a6, a7, m, b1, b2, b3, b4, b5⟩ := m_exr hk hn hend q1 q2 q3 he ho (by rw [q5 3009 (by decide) (by decide) (by decide), i6]; exact h3) (by rw [q5 3073 (by decide) (by decide) (by decide), i6]; exact h4)
    have g5 : ∀ a j, g_AI (g_setAI s4 2580 it (Int32.ofNat e)) a j = if a = 2580 ∧ j = it then Int32.ofNat e else g_AI s4 a j := fun a j => x_AI_AI ..
    have g5' : ∀ a, a ≠ 2580 → g_AI (g_setAI s4 2580 it (Int32.ofNat e)) a = g_AI s4 a := fun a h => funext fun j => by rw [g5, if_neg (fun w => h w.1)]
    have k4 : ∀ a, a = 2196 ∨ a = 159 ∨ a = 2516 ∨ a = 2580 → g_AI s4 a = g_AI s6 a := fun a w => by rw [(a5.2.2.2.2.2.2.2.2 a (by rcases w with w | w | w | w <;> subst w <;> decide)).1, q4]
    refine ⟨s4, _, m, a1, rfl, a2, a2, a3.sI (by decide) (by decide) it _, a4.of rfl rfl rfl, ⟨fun j hj => ?_, fun j hj => ?_⟩, fun a w => by rw [g5' a (by omega), k4 a (by omega)], fun j hj => ?_, by rw [g5, if_pos ⟨rfl, rfl⟩], ?_, a7, b1, b2, b3, b4, fun q w => (b5 q w).same (fun a h => g5' a (by omega))⟩
    · rw [g5' 2836 (by decide), g5' 2772 (by decide), g5' 2900 (by decide)]
      have := a6.1 j hj
      rw [q4, q4, q4, g6' 2836 (by decide), g6' 2772 (by decide), g6' 2900 (by decide)] at this
      exact this
    · rw [g5' 2708 (by decide), g5' 2644 (by decide)]
      have := a6.2 j hj
      rw [q4, q4, g6' 2708 (by decide), g6' 2644 (by decide)] at this
      exact this
    · rw [g5, if_neg (fun w => hj w.2), k4 2580 (by omega), g6' 2580 (by decide)]
    · show g_I s4 2817 1 = _
      rw [a5.2.2.2.2.2.2.2.1 2817 1 (fun q => by have := q.2; simp at this), q5 2817 (by decide) (by decide) (by decide)]; exact it6
  -- the beginning
  have start : f_M_readItem (some 1) (Int32.ofNat s) u = if kd p = 20 then g_c (f_M_needSign (some 1) 40 (g_setI s6 577 1 (Int32.ofNat (p + 1)))) fun _ s23 => g_c (f_M_needSign (some 1) 42 s23) fun _ s25 => g_gR s25 2945 (some 1) fun p26 => g_gI s25 2817 (some 1) fun i27 => g_sI s25 p26 i27 (-1) fun s28 => f_M_readItem_130 (some 1) (Int32.ofNat s) (z_km (kd p)) s28
      else if z_km (kd p) < 22 then f_M_readItem_115 (some 1) (Int32.ofNat s) s6 else if 24 < z_km (kd p) then f_M_readItem_115 (some 1) (Int32.ofNat s) s6 else g_c (f_M_needSign (some 1) 40 (g_setI s6 577 1 (Int32.ofNat (p + 1)))) fun _ s14 => g_gR s14 2945 (some 1) fun p15 => g_gI s14 2817 (some 1) fun i16 => g_c (f_M_readExpression (some 1) s14) fun i17 s18 => g_sI s18 p15 i16 i17 fun s19 => f_M_readItem_130 (some 1) (Int32.ofNat s) (z_km (kd p)) s19 := by
    unfold f_M_readItem
    rw [x_gR, (hm _ m_k641).1, x_gI, ha.1.2, x_aI (by omega) (by rw [(hm _ m_k641).2]; show p < 402; omega), (ht p hpn).1, x_gR, (hm _ m_k2881).1, x_gI, h1, x_sI (by omega) (by rw [l1]; exact hit), ← hs6, x_nn, show (21 : Int32) = z_km 20 from rfl, pM_is m6 t6 hk hn hpn p6.1.1 p6.1.2 (by decide)]
    by_cases w : kd p = 20
    · rw [if_pos w, if_pos w, x_c, if_neg (by decide), x_gI, p6.1.2, x_pI, x_p1]
      rfl
    · rw [if_neg w, if_neg w, x_c, if_pos rfl, x_nn, pM_bad p6.1.1, x_c, if_pos rfl, x_gI, p6.1.2, x_pI, x_p1]
      rfl
  have np : kd p ≠ 38 → z_ps (g_setI s6 577 1 (Int32.ofNat (p + 1))) pl n (.inr (p + 1)) := fun w => ⟨⟨by rw [x_I_I, if_neg (fun q => by have := q.1; omega)]; exact p6.1.1, by rw [x_I_I, if_pos ⟨rfl, rfl⟩]⟩, by have := hend p hpn w; omega⟩
  have u2196 : g_AI s6 2196 s = Int32.ofNat ic := by rw [g6' 2196 (by decide)]; exact h2
  by_cases w20 : kd p = 20
  · have hz : z_itr kd p = ((20, []), z_ndr kd 27 (z_ndr kd 34 (z_ndr kd 26 (.inr (p + 1))))) := by unfold z_itr; rw [if_pos w20]
    rw [if_pos w20, w20] at start
    obtain ⟨s23, a1, a2, a3, a4, a5⟩ := m_ndS hk hn hend (u := g_setI s6 577 1 (Int32.ofNat (p + 1))) m6 t6 (np (by omega)) (k := 26) (by decide) (c := 40) rfl
    obtain ⟨s25, b1, b2, b3, b4, b5⟩ := m_ndS hk hn hend a2 a3 a4 (k := 34) (by decide) (c := 42) rfl
    have i25 : ∀ x, x ≠ 577 → x ≠ 833 → x ≠ 897 → g_I s25 x 1 = g_I u x 1 := fun x q1 q2 q3 => by
      rw [b5.2.2.2.2.2.2.2.1 x 1 (fun q => by have := q.2; simp at this; omega), a5.2.2.2.2.2.2.2.1 x 1 (fun q => by have := q.2; simp at this; omega), x_I_I, if_neg (fun q => q1 q.1), i6]
    have g25 : ∀ a, g_AI s25 a = g_AI s6 a := fun a => by rw [(b5.2.2.2.2.2.2.2.2 a (by simp)).1, (a5.2.2.2.2.2.2.2.2 a (by simp)).1]; rfl
    have l25 : g_ln s25 2580 = 68 := (b2 _ m_k2945).2
    have it25 : g_I s25 2817 1 = Int32.ofNat it := by rw [i25 2817 (by decide) (by decide) (by decide)]; exact h1
    rw [a1, x_c, b1, x_c, x_gR, (b2 _ m_k2945).1, x_gI, it25, x_sI (by omega) (by rw [l25]; exact hit)] at start
    have g28 : ∀ a j, g_AI (g_setAI s25 2580 it (-1)) a j = if a = 2580 ∧ j = it then -1 else g_AI s6 a j := fun a j => by rw [x_AI_AI, g25]
    obtain ⟨u', c1, c2, c3, c4, c5, c6, c7⟩ := m_it130 hk hn hend (u := g_setAI s25 2580 it (-1)) b2 (b3.sI (by decide) (by decide) it _) (b4.of rfl rfl rfl) hs hit it25 (by rw [g28, if_neg (fun w => by have := w.1; omega)]; exact u2196) (k := 20) (by decide) (by decide)
    have cu : ∀ a j, g_AI u' a j = if a = 2196 ∧ j = s then Int32.ofNat (ic + 1) else if a = 159 ∧ j = s then 1 else if a = 2516 ∧ j = it then z_km 20 else if a = 2580 ∧ j = it then -1 else g_AI s6 a j := fun a j => by rw [c7 a j, g28]
    have cs : ∀ a, a ≠ 2196 → a ≠ 159 → a ≠ 2516 → a ≠ 2580 → g_AI u' a = g_AI u a := fun a q1 q2 q3 q4 => funext fun j => by rw [cu, if_neg (fun w => q1 w.1), if_neg (fun w => q2 w.1), if_neg (fun w => q3 w.1), if_neg (fun w => q4 w.1), g6' a q3]
    rw [hz]
    refine ⟨u', start.trans c1, c2, c3, c4, ⟨⟨fun j hj => ?_, fun j hj => ?_⟩, fun j hj => ?_, fun j hj => ?_⟩, c5, ?_, ?_, e, 0, ?_, Nat.le_refl _, by omega, ?_, by omega, ?_, fun q w => Or.inr (Or.inl ⟨rfl, ?_, ?_⟩)⟩
    · rw [cs 2836 (by decide) (by decide) (by decide) (by decide), cs 2772 (by decide) (by decide) (by decide) (by decide), cs 2900 (by decide) (by decide) (by decide) (by decide)]
      exact ⟨rfl, rfl, rfl⟩
    · rw [cs 2708 (by decide) (by decide) (by decide) (by decide), cs 2644 (by decide) (by decide) (by decide) (by decide)]
      exact ⟨rfl, rfl⟩
    · rw [cu, cu, if_neg (fun w => hj w.2), if_neg (fun w => hj w.2), if_neg (fun w => by have := w.1; omega), if_neg (fun w => by have := w.1; omega), if_neg (fun w => hj w.2), if_neg (fun w => hj w.2), if_neg (fun w => by have := w.1; omega), if_neg (fun w => by have := w.1; omega), g6' 2196 (by decide), g6' 159 (by decide)]
      exact ⟨rfl, rfl⟩
    · rw [cu, cu, if_neg (fun w => by have := w.1; omega), if_neg (fun w => by have := w.1; omega), if_neg (fun w => hj w.2), if_neg (fun w => hj w.2), if_neg (fun w => by have := w.1; omega), if_neg (fun w => by have := w.1; omega), if_neg (fun w => hj w.2), if_neg (fun w => hj w.2), g6, if_neg (fun w => hj w.2), g6' 2580 (by decide)]
      exact ⟨rfl, rfl⟩
    · rw [cu, if_pos ⟨rfl, rfl⟩]
    · show g_AI u' 159 s = if (20 : Nat) = 0 then _ else 1
      rw [if_neg (by decide), cu, if_neg (fun w => by have := w.1; omega), if_pos ⟨rfl, rfl⟩]
    · rw [c6 3009 (by decide) (by decide) (by decide) (by decide)]
      show g_I s25 3009 1 = _
      rw [i25 3009 (by decide) (by decide) (by decide)]; exact h3
    · rw [c6 3073 (by decide) (by decide) (by decide) (by decide)]
      show g_I s25 3073 1 = _
      rw [i25 3073 (by decide) (by decide) (by decide)]; exact h4
    · refine ⟨fun q w => (by cases w), fun p' w => ?_⟩
      cases w
      unfold z_ndr
      simp only []
      by_cases y1 : kd (p + 1) = 26
      · rw [if_pos y1]
        simp only []
        by_cases y2 : kd (p + 1 + 1) = 34
        · rw [if_pos y2]
          simp only []
          by_cases y3 : kd (p + 1 + 1 + 1) = 27
          · rw [if_pos y3]; exact ⟨by omega, by omega, by omega⟩
          · rw [if_neg y3]; exact ⟨by omega, by omega⟩
        · rw [if_neg y2]; exact ⟨by omega, by omega⟩
      · rw [if_neg y1]; exact ⟨by omega, by omega⟩
    · rw [cu, if_neg (fun w => by have := w.1; omega), if_neg (fun w => by have := w.1; omega), if_pos ⟨rfl, rfl⟩]; rfl
    · rw [cu, if_neg (fun w => by have := w.1; omega), if_neg (fun w => by have := w.1; omega), if_neg (fun w => by have := w.1; omega), if_pos ⟨rfl, rfl⟩]
  · by_cases w21 : 21 ≤ kd p ∧ kd p ≤ 23
    · have hz : z_itr kd p = ((kd p, (z_exr kd (z_ndr kd 26 (.inr (p + 1)))).1), z_ndr kd 27 (z_exr kd (z_ndr kd 26 (.inr (p + 1)))).2) := by unfold z_itr; rw [if_neg w20, if_pos w21]
      have cdp := (cd (kd p) (hk p)).1 w21
      rw [if_neg w20, if_neg cdp.1, if_neg cdp.2] at start
      obtain ⟨s14, d1, d2, d3, d4, d5⟩ := m_ndS hk hn hend (u := g_setI s6 577 1 (Int32.ofNat (p + 1))) m6 t6 (np (by omega)) (k := 26) (by decide) (c := 40) rfl
      have i14 : ∀ x, x ≠ 577 → x ≠ 833 → x ≠ 897 → g_I s14 x 1 = g_I s6 x 1 := fun x q1 q2 q3 => by
        rw [d5.2.2.2.2.2.2.2.1 x 1 (fun q => by have := q.2; simp at this; omega), x_I_I, if_neg (fun q => q1 q.1)]
      have g14 : ∀ a, g_AI s14 a = g_AI s6 a := fun a => by rw [(d5.2.2.2.2.2.2.2.2 a (by simp)).1]; rfl
      obtain ⟨s4, s5, m, a1, a2, a3, a4, a5, a6, a7, a8, a9, b1, b2, b3, b4, b5, b6, b7, b8⟩ := ex s14 _ d2 d3 d4 g14 i14
      rw [d1, x_c, x_gR, (d2 _ m_k2945).1, x_gI, show g_I s14 2817 1 = Int32.ofNat it from (by rw [i14 2817 (by decide) (by decide) (by decide)]; exact it6), a1, x_c, x_sI (by omega) (by rw [show g_ln s4 2580 = 68 from (a3 _ m_k2945).2]; exact hit), ← a2] at start
      obtain ⟨u', c1, c2, c3, c4, c5, c6, c7⟩ := m_it130 hk hn hend a4 a5 a6 hs hit b2 (ic := ic) (by rw [a8 2196 (by omega)]; exact u2196) (k := kd p) (by omega) (by omega)
      have cu : ∀ a j, g_AI u' a j = if a = 2196 ∧ j = s then Int32.ofNat (ic + 1) else if a = 159 ∧ j = s then 1 else if a = 2516 ∧ j = it then z_km (kd p) else g_AI s5 a j := fun a j => c7 a j
      have cs : ∀ a, a ≠ 2196 → a ≠ 159 → a ≠ 2516 → g_AI u' a = g_AI s5 a := fun a q1 q2 q3 => funext fun j => by rw [cu, if_neg (fun w => q1 w.1), if_neg (fun w => q2 w.1), if_neg (fun w => q3 w.1)]
      rw [hz]
      refine ⟨u', start.trans c1, c2, c3, c4, ⟨⟨fun j hj => ?_, fun j hj => ?_⟩, fun j hj => ?_, fun j hj => ?_⟩, c5, ?_, ?_, e + 1, m, ?_, by omega, by omega, ?_, b5, ?_, fun q w => ?_⟩
      · rw [cs 2836 (by decide) (by decide) (by decide), cs 2772 (by decide) (by decide) (by decide), cs 2900 (by decide) (by decide) (by decide)]; exact a7.1 j hj
      · rw [cs 2708 (by decide) (by decide) (by decide), cs 2644 (by decide) (by decide) (by decide)]; exact a7.2 j hj
      · rw [cu, cu, if_neg (fun w => hj w.2), if_neg (fun w => hj w.2), if_neg (fun w => by have := w.1; omega), if_neg (fun w => hj w.2), if_neg (fun w => hj w.2), if_neg (fun w => by have := w.1; omega), a8 2196 (by omega), a8 159 (by omega), g6' 2196 (by decide), g6' 159 (by decide)]
        exact ⟨rfl, rfl⟩
      · rw [cs 2580 (by decide) (by decide) (by decide), a9 j hj, cu, if_neg (fun w => by have := w.1; omega), if_neg (fun w => by have := w.1; omega), if_neg (fun w => hj w.2), a8 2516 (by omega), g6, if_neg (fun w => hj w.2)]
        exact ⟨rfl, rfl⟩
      · rw [cu, if_pos ⟨rfl, rfl⟩]
      · show g_AI u' 159 s = if kd p = 0 then _ else 1
        rw [if_neg (by omega), cu, if_neg (fun w => by have := w.1; omega), if_pos ⟨rfl, rfl⟩]
      · rw [c6 3009 (by decide) (by decide) (by decide) (by decide)]; exact b3
      · rw [c6 3073 (by decide) (by decide) (by decide) (by decide)]; exact b4
      · refine ⟨fun q w => (by cases w), fun p' w => ?_⟩
        cases w
        show match z_ndr kd 27 (z_exr kd (z_ndr kd 26 (.inr (p + 1)))).2 with | .inl q => p ≤ q ∧ p + 2 * m ≤ q + 2 | .inr q => p + 2 * m ≤ q + 1 ∧ p + 1 ≤ q ∧ e + 1 - e ≤ m
        by_cases y1 : kd (p + 1) = 26
        · have e1 : z_ndr kd 26 (.inr (p + 1)) = .inr (p + 1 + 1) := by show (if kd (p + 1) = 26 then _ else _) = _; rw [if_pos y1]
          rw [e1] at b6 ⊢
          have q6 := b6 (p + 1 + 1) rfl
          cases hy : (z_exr kd (.inr (p + 1 + 1))).2 with
          | inl q =>
            rw [hy] at q6
            have q7 : p + 1 + 1 + 2 * m ≤ q + 2 ∧ q ≤ n ∧ 1 ≤ m := q6
            exact ⟨by omega, by omega⟩
          | inr q =>
            rw [hy] at q6
            have q7 : p + 1 + 1 + 2 * m ≤ q + 1 ∧ 1 ≤ m := q6
            unfold z_ndr
            simp only []
            by_cases y2 : kd q = 27
            · rw [if_pos y2]; exact ⟨by omega, by omega, by omega⟩
            · rw [if_neg y2]; exact ⟨by omega, by omega⟩
        · have e1 : z_ndr kd 26 (.inr (p + 1)) = .inl (p + 1) := by show (if kd (p + 1) = 26 then _ else _) = _; rw [if_neg y1]
          have q7 := b7 (p + 1) e1
          rw [e1]
          exact ⟨by omega, by omega⟩
      · have ok : ∃ q1, (z_exr kd (z_ndr kd 26 (.inr (p + 1)))).2 = .inr q1 := by
          cases hy : (z_exr kd (z_ndr kd 26 (.inr (p + 1)))).2 with
          | inl q1 => rw [hy] at w; cases w
          | inr q1 => exact ⟨q1, rfl⟩
        obtain ⟨q1, hq1⟩ := ok
        refine Or.inr (Or.inr ⟨w21.1, w21.2, ?_, e, by omega, ?_, (b8 q1 hq1).same (fun a h => cs a (by omega) (by omega) (by omega))⟩)
        · rw [cu, if_neg (fun w => by have := w.1; omega), if_neg (fun w => by have := w.1; omega), if_pos ⟨rfl, rfl⟩]
        · rw [cs 2580 (by decide) (by decide) (by decide)]; exact b1
    · have hz : z_itr kd p = ((0, (z_exr kd (.inr p)).1), (z_exr kd (.inr p)).2) := by unfold z_itr; rw [if_neg w20, if_neg w21]
      obtain ⟨s4, s5, m, a1, a2, a3, a4, a5, a6, a7, a8, a9, b1, b2, b3, b4, b5, b6, b7, b8⟩ := ex s6 (.inr p) m6 t6 p6 (fun _ => rfl) (fun _ _ _ _ => rfl)
      obtain ⟨u', c1, c2, c3, c4, c5, c6, c7⟩ := m_it130z a4 a6 a5 hs b2 (ic := ic) (by rw [a8 2196 (by omega)]; exact u2196)
      have r115 : f_M_readItem_115 (some 1) (Int32.ofNat s) s6 = some ((), u') := by
        unfold f_M_readItem_115
        rw [x_gR, (m6 _ m_k2945).1, x_gI, it6, x_nn, a1, x_c, x_sI (by omega) (by rw [show g_ln s4 2580 = 68 from (a3 _ m_k2945).2]; exact hit), ← a2]
        exact c1
      have start2 : f_M_readItem (some 1) (Int32.ofNat s) u = some ((), u') := by
        rw [start, if_neg w20]
        by_cases y : z_km (kd p) < 22
        · rw [if_pos y]; exact r115
        · rw [if_neg y, if_pos ((cd (kd p) (hk p)).2 (by omega) |>.resolve_left y)]; exact r115
      have cs : ∀ a, a ≠ 2196 → g_AI u' a = g_AI s5 a := fun a q => funext fun j => by rw [c7 a j, if_neg (fun w => q w.1)]
      rw [hz]
      refine ⟨u', start2, c2, c3, c4, ⟨⟨fun j hj => ?_, fun j hj => ?_⟩, fun j hj => ?_, fun j hj => ?_⟩, c5, ?_, ?_, e + 1, m, ?_, by omega, by omega, ?_, b5, ?_, fun q w => Or.inl ⟨rfl, ?_, e, by omega, ?_, (b8 q w).same (fun a h => cs a (by omega))⟩⟩
      · rw [cs 2836 (by decide), cs 2772 (by decide), cs 2900 (by decide)]; exact a7.1 j hj
      · rw [cs 2708 (by decide), cs 2644 (by decide)]; exact a7.2 j hj
      · rw [c7 2196 j, if_neg (fun w => hj w.2), cs 159 (by decide), a8 159 (by omega), g6' 159 (by decide)]
        show g_AI s5 2196 j = _ ∧ _
        rw [a8 2196 (by omega), g6' 2196 (by decide)]
        exact ⟨rfl, rfl⟩
      · rw [cs 2516 (by decide), cs 2580 (by decide), a8 2516 (by omega), a9 j hj, g6, if_neg (fun w => hj w.2)]
        exact ⟨rfl, rfl⟩
      · rw [c7 2196 s, if_pos ⟨rfl, rfl⟩]
      · rw [if_pos rfl, cs 159 (by decide), a8 159 (by omega), g6' 159 (by decide)]
      · rw [c6 3009 (by decide) (by decide) (by decide) (by decide)]; exact b3
      · rw [c6 3073 (by decide) (by decide) (by decide) (by decide)]; exact b4
      · refine ⟨fun q w => (by cases w), fun p' w => ?_⟩
        cases w
        have q6 := b6 p rfl
        cases hy : (z_exr kd (.inr p)).2 with
        | inl q =>
          rw [hy] at q6
          have q7 : p + 2 * m ≤ q + 2 ∧ q ≤ n ∧ 1 ≤ m := q6
          exact ⟨by omega, by omega⟩
        | inr q =>
          rw [hy] at q6
          have q7 : p + 2 * m ≤ q + 1 ∧ 1 ≤ m := q6
          exact ⟨by omega, by omega, by omega⟩
      · rw [cs 2516 (by decide), a8 2516 (by omega), g6, if_pos ⟨rfl, rfl⟩]
      · rw [cs 2580 (by decide)]; exact b1
end
