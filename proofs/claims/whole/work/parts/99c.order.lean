/-! THE REFERENCE READS ORDER BY -/
def z_oit (kd : Nat → Nat) (p : Nat) : Nat × z_P := (p, z_ndr kd 36 (z_ndr kd 28 (z_ndr kd 36 (.inr p))))
def z_ors (kd : Nat → Nat) (q : Nat) : List Nat × z_P := z_go (z_ndr kd 17 (.inr (q + 1))) (z_lst kd 25 (z_oit kd) 1)
def M_jo (v : Int32) (_q : Nat) (l : List Nat) (u : g_St) : Prop := g_I u 4417 1 = v ∧ g_I u 4353 1 = Int32.ofNat l.length ∧ ∀ j, j < l.length → g_AI u 3732 j = Int32.ofNat (l.getD j 0)
section
variable {n : Nat} {kd pl : Nat → Nat} {vl : Nat → Int64}
theorem M_jo.as {s s' : g_St} {v : Int32} {q q' : Nat} {l : List Nat} (h : M_jo v q l s) (g : M_as s s') : M_jo v q' l s' :=
  ⟨by rw [g.2 _ (by decide) (by decide) (by decide)]; exact h.1, by rw [g.2 _ (by decide) (by decide) (by decide)]; exact h.2.1, fun j hj => by rw [g.1]; exact h.2.2 j hj⟩
theorem b_oloop (H : z_H n kd) {u0 : g_St} {q : Nat} {v0 : Int32} (h : M_b n kd pl vl u0 (.inr q)) (hj : M_jo v0 q [] u0) : ∃ u', f_M_readOrder_27 200000 (some 1) 1 u0 = some ((), u') ∧ M_b n kd pl vl u' (z_lst kd 25 (z_oit kd) 1 q).2 ∧ (z_lst kd 25 (z_oit kd) 1 q).1.length ≤ 2 ∧ ∀ q', (z_lst kd 25 (z_oit kd) 1 q).2 = .inr q' → M_jo v0 q' (z_lst kd 25 (z_oit kd) 1 q).1 u' := by
  refine b_loop (fun f x u => f_M_readOrder_27 f (some 1) x u) (fun s => some ((), s)) (f_M_skipSign (some 1) 44) 25 (z_oit kd) 1 (M_jo v0) (M_jo v0) (fun s r hr => b_skS H hr (by decide) rfl) (fun f s => ?_) (fun q1 l u f hl hu hJ => ?_) (fun q1 l s s' hq ha => ⟨hq.as ha, hq.as ha⟩) 1 q [] u0 200000 rfl (by omega) h hj
  · show f_M_readOrder_27 (f + 1) (some 1) 0 s = _
    rw [f_M_readOrder_27, if_pos rfl]
  · obtain ⟨c1, c2, c3⟩ := hJ
    have B6 : M_b n kd pl vl (g_setAI u 3732 l.length (Int32.ofNat q1)) (.inr q1) := hu.sI (by decide) (by decide) _ _
    obtain ⟨v7, s8, a1, a2, a3, -⟩ := b_nd H B6 (k := 36) (by decide)
    obtain ⟨s10, b1, b2, b3⟩ := b_ndS H a2 (k := 28) (by decide) (c := 46) rfl
    obtain ⟨v11, s12, d1, d2, d3, -⟩ := b_nd H b2 (k := 36) (by decide)
    have A := (a3.trans b3).trans d3
    have e12 : g_I s12 4353 1 = Int32.ofNat l.length := by rw [A.2 _ (by decide) (by decide) (by decide)]; exact c2
    obtain ⟨s14, h14⟩ : ∃ s14, s14 = g_setI s12 4353 1 (Int32.ofNat (l.length + 1)) := ⟨_, rfl⟩
    have B14 : M_b n kd pl vl s14 (z_oit kd q1).2 := by rw [h14]; exact d2.pI (by decide) (by decide) (by decide) _
    have e14 : g_I s14 4353 1 = Int32.ofNat (l.length + 1) := by rw [h14, x_I_I, if_pos ⟨rfl, rfl⟩]
    have g14 : ∀ a j, g_AI s14 a j = if a = 3732 ∧ j = l.length then Int32.ofNat q1 else g_AI u a j := fun a j => by
      rw [h14]
      show g_AI s12 a j = _
      rw [A.1, x_AI_AI]
    refine ⟨s14, B14, ?_, fun q' hq => ⟨?_, ?_, fun j hj => ?_⟩⟩
    · show f_M_readOrder_27 (f + 1) (some 1) 1 u = _
      rw [f_M_readOrder_27, if_neg (by decide), x_nn, b_bad hu, x_c, if_pos rfl, x_gR, (m_at hu.1 m_k4481).1, x_gI, c2, x_gI, hu.2.2.1.2, x_sI (by omega) (by rw [(m_at hu.1 m_k4481).2]; omega), x_nn, show (30 : Int32) = z_km 36 from rfl, a1, x_c, x_nn, b1, x_c, x_nn, d1, x_c, x_gI, e12, x_p1, x_pI, ← h14, x_gI, e14]
      have e4 : (2 ≤ Int32.ofNat (l.length + 1)) = (2 ≤ l.length + 1) := x_le (a := 2) (by decide) (by omega)
      by_cases w : 1 ≤ l.length
      · rw [if_pos w, if_pos (by rw [e4]; omega)]
      · rw [if_neg w, if_neg (by rw [e4]; omega)]; rfl
    · rw [h14, x_I_I, if_neg (fun w => by have := w.1; omega), A.2 _ (by decide) (by decide) (by decide)]; exact c1
    · rw [e14, List.length_append, List.length_singleton]
    · rw [List.length_append, List.length_singleton] at hj
      by_cases w : j < l.length
      · rw [z_getD_l w, g14, if_neg (fun w => by have := w.2; omega)]; exact c3 j w
      · have ej : j = l.length := by omega
        rw [ej, z_getD_e, g14, if_pos ⟨rfl, rfl⟩]; rfl
theorem b_ors (H : z_H n kd) {u : g_St} {q : Nat} (h : M_b n kd pl vl u (.inr q)) (hk : kd q = 24) (h0 : g_I u 4353 1 = 0) : ∃ u', f_M_readOrder (some 1) u = some ((), u') ∧ M_b n kd pl vl u' (z_ors kd q).2 ∧ (z_ors kd q).1.length ≤ 2 ∧ ∀ q', (z_ors kd q).2 = .inr q' → M_jo (Int32.ofNat q) q' (z_ors kd q).1 u' := by
  have hq : q < n := H.2.2 q h.le (by omega)
  obtain ⟨s4, h4⟩ : ∃ s4, s4 = g_setI (g_setI u 4417 1 (Int32.ofNat q)) 577 1 (Int32.ofNat (q + 1)) := ⟨_, rfl⟩
  have i4 : ∀ x, g_I s4 x 1 = if x = 577 then Int32.ofNat (q + 1) else if x = 4417 then Int32.ofNat q else g_I u x 1 := fun x => by
    rw [h4, x_I_I, x_I_I]
    by_cases w : x = 577
    · rw [if_pos ⟨w, rfl⟩, if_pos w]
    · rw [if_neg (fun y => w y.1), if_neg w]
      by_cases w : x = 4417
      · rw [if_pos ⟨w, rfl⟩, if_pos w]
      · rw [if_neg (fun y => w y.1), if_neg w]
  have B4 : M_b n kd pl vl s4 (.inr (q + 1)) := by
    refine ⟨by rw [h4]; exact h.1, by rw [h4]; exact h.2.1, ⟨?_, ?_⟩, hq⟩
    · rw [i4, if_neg (by decide), if_neg (by decide)]; exact h.2.2.1.1
    · rw [i4, if_pos rfl]
  obtain ⟨v, s6, a1, a2, a3, -⟩ := b_nd H B4 (k := 17) (by decide)
  have start : f_M_readOrder (some 1) u = f_M_readOrder_27 200000 (some 1) 1 s6 := by
    unfold f_M_readOrder
    rw [x_gI, h.2.2.1.2, x_pI, x_gI, show g_I (g_setI u 4417 1 (Int32.ofNat q)) 577 1 = Int32.ofNat q from (by rw [x_I_I, if_neg (fun w => by have := w.1; omega)]; exact h.2.2.1.2), x_p1, x_pI, ← h4, x_nn, show (18 : Int32) = z_km 17 from rfl, a1, x_c]
  unfold z_ors
  rw [start]
  cases hz : z_ndr kd 17 (.inr (q + 1)) with
  | inl x =>
    rw [hz] at a2
    refine ⟨s6, ?_, a2, Nat.zero_le _, (fun q w => by cases w)⟩
    rw [f_M_readOrder_27, if_neg (by decide), x_nn, pM_badS a2.2.2.1.1, x_c, if_neg (by decide)]
  | inr x =>
    rw [hz] at a2
    rw [z_go_r]
    refine b_oloop H a2 ⟨?_, ?_, (fun j hj => by cases hj)⟩
    · rw [a3.2 _ (by decide) (by decide) (by decide), i4, if_neg (by decide), if_pos rfl]
    · rw [a3.2 _ (by decide) (by decide) (by decide), i4, if_neg (by decide), if_neg (by decide)]; exact h0
end
