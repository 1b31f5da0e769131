/-! THE START, WHOLE -/
set_option maxRecDepth 100000 in
theorem z_okc : z_init.any (fun o => z_aK.all fun k => [0, 1, 2, 3, 4, 5, 69, 133, 197, 261].all fun c => (g_R o.2 k c).all fun a => e_tab.any fun q => decide (q.1 = k ∧ q.2.1 = c ∧ q.2.2.1 = a)) = true := by decide +kernel
def z_cts : List (Nat × Nat) := [(0, 1), (1, 1), (2, 1), (3, 1), (4, 1), (5, 5), (6, 0), (7, 0), (8, 0), (9, 0), (10, 0), (11, 0), (12, 0), (20, 75), (21, 20), (22, 1), (23, 1), (24, 0), (25, 0), (26, 0), (27, 0), (28, 0), (29, 2), (30, 1), (31, 3)]
theorem z_ok0 {u : g_St} (hc : ∀ q ∈ z_cts, g_cnt u q.1 = q.2) (N : N_r u) (hk : ∀ k ∈ z_aK, ∀ c ∈ [0, 1, 2, 3, 4, 5, 69, 133, 197, 261], ∀ a, g_R u k c = some a → ∃ q ∈ e_tab, q.1 = k ∧ q.2.1 = c ∧ q.2.2.1 = a) : z_Ok u := by
  have al : ∀ a, (∃ q ∈ z_cts, a % 64 = q.1 ∧ a / 64 < q.2) → g_al u a := fun a h => by
    obtain ⟨q, q1, q2, q3⟩ := h
    show a / 64 < g_cnt u (a % 64)
    rw [q2, hc q q1]
    exact q3
  have obj : ∀ k ∈ z_aK, ∀ c a, g_R u k c = some a → ∃ q ∈ e_tab, q.1 = k ∧ q.2.1 = c ∧ q.2.2.1 = a := fun k hk1 c a h => by
    obtain ⟨n1, n2⟩ := N k c (by rw [h]; exact Option.some_ne_none _)
    have n1' : c / 64 < g_cnt u (c % 64) := n1
    refine hk k hk1 c ?_ a h
    have : c % 64 = 0 ∨ c % 64 = 1 ∨ c % 64 = 2 ∨ c % 64 = 3 ∨ c % 64 = 4 ∨ c % 64 = 5 := by omega
    rcases this with e | e | e | e | e | e
    · rw [e, hc (0, 1) (by decide)] at n1'
      have n1'' : c / 64 < 1 := n1'
      rw [show c = 0 by omega]; decide
    · rw [e, hc (1, 1) (by decide)] at n1'
      have n1'' : c / 64 < 1 := n1'
      rw [show c = 1 by omega]; decide
    · rw [e, hc (2, 1) (by decide)] at n1'
      have n1'' : c / 64 < 1 := n1'
      rw [show c = 2 by omega]; decide
    · rw [e, hc (3, 1) (by decide)] at n1'
      have n1'' : c / 64 < 1 := n1'
      rw [show c = 3 by omega]; decide
    · rw [e, hc (4, 1) (by decide)] at n1'
      have n1'' : c / 64 < 1 := n1'
      rw [show c = 4 by omega]; decide
    · rw [e, hc (5, 5) (by decide)] at n1'
      have n1'' : c / 64 < 5 := n1'
      have : c / 64 = 0 ∨ c / 64 = 1 ∨ c / 64 = 2 ∨ c / 64 = 3 ∨ c / 64 = 4 := by omega
      rcases this with f | f | f | f | f
      · rw [show c = 5 by omega]; decide
      · rw [show c = 69 by omega]; decide
      · rw [show c = 133 by omega]; decide
      · rw [show c = 197 by omega]; decide
      · rw [show c = 261 by omega]; decide
  have ma : ∀ a ∈ m_arr, ∃ q ∈ z_cts, a % 64 = q.1 ∧ a / 64 < q.2 := by decide +kernel
  have ea : ∀ q ∈ e_tab, (∃ p ∈ z_cts, q.2.2.1 % 64 = p.1 ∧ q.2.2.1 / 64 < p.2) ∧ q.2.2.1 % 64 = z_kd q.1 ∧ q.2.2.1 ∉ m_arr ∧ q.2.2.1 ≠ 1237 := by decide +kernel
  have eu : ∀ q ∈ e_tab, ∀ q' ∈ e_tab, q'.2.2.1 = q.2.2.1 → q'.1 = q.1 ∧ q'.2.1 = q.2.1 := by decide +kernel
  refine ⟨fun a ha => ?_, fun k hk1 c a h => ?_⟩
  · rcases ha with h | h | h
    · exact al a (ma a h)
    · rw [h]; exact al _ ⟨(21, 20), by decide, by decide, by decide⟩
    · rw [h]; exact al _ ⟨(30, 1), by decide, by decide, by decide⟩
  · obtain ⟨q, q1, q2, q3, q4⟩ := obj k hk1 c a h
    obtain ⟨e1, e2, e3, e4⟩ := ea q q1
    rw [q4] at e1 e2 e3 e4
    rw [q2] at e2
    refine ⟨al a e1, e2, e3, e4, fun k' hk' c' h' => Or.inr ?_⟩
    obtain ⟨q', p1, p2, p3, p4⟩ := obj k' hk' c' a h'
    obtain ⟨y1, y2⟩ := eu q q1 q' p1 (by rw [p4, q4])
    exact ⟨by rw [← p2, y1, q2], by rw [← p3, y2, q3]⟩
theorem z_begin2 : ∃ u, (∀ sc r0, f_Lw_law sc r0 g_u0 = f_Lw_law_23 sc 200000 r0 (some 0) (some 1) (some 1237) 0 u) ∧ z_First u ∧ z_Ok u := by
  have h := z_first
  have hk := z_okc
  cases e : z_init with
  | none => rw [e] at h; exact absurd h (by decide)
  | some o =>
    rw [e] at h hk
    simp only [Option.any_some, Bool.and_eq_true, decide_eq_true_eq, List.all_eq_true, List.mem_range] at h
    obtain ⟨h1, h2, h3, h4, h5, h6, h7, h8, h9, h10, h11, h12⟩ := h
    refine ⟨o.2, fun sc r0 => ?_, ⟨h2, ⟨h3, h4.1, h4.2.1, h4.2.2.1, h5, h4.2.2.2.1⟩, h4.2.2.2.2, h6, h7, h8, h9, h10, h11, h12.1, h12.2⟩, z_ok0 h11 (n_init e) (fun k k1 c c1 a ha => ?_)⟩
    · rw [z_init_law, e]
      show f_Lw_law_23 sc 200000 r0 o.1.1 o.1.2.1 o.1.2.2 0 o.2 = _
      rw [h1]
    · rw [Option.any_some, List.all_eq_true] at hk
      have hk2 := hk k k1
      rw [List.all_eq_true] at hk2
      have hk3 := hk2 c c1
      rw [ha, Option.all_some, List.any_eq_true] at hk3
      obtain ⟨q, q1, q2⟩ := hk3
      exact ⟨q, q1, of_decide_eq_true q2⟩
theorem inv_0 {u : g_St} (h : z_First u) (Z : z_Ok u) : Inv 0 u := by
  obtain ⟨F, E, r320, i0, i66, i1, kw, kw0, hc, cn, sn⟩ := h
  have hc' : ∀ q ∈ z_cts, g_cnt u q.1 = q.2 := hc
  have al : ∀ a, (∃ q ∈ z_cts, a % 64 = q.1 ∧ a / 64 < q.2) → g_al u a := fun a h => by
    obtain ⟨q, q1, q2, q3⟩ := h
    show a / 64 < g_cnt u (a % 64)
    rw [q2, hc' q q1]
    exact q3
  have pr : ∀ a ∈ z_prot, ∃ q ∈ z_cts, a % 64 = q.1 ∧ a / 64 < q.2 := by decide +kernel
  have E0 : E_0 u := ⟨E, Z, fun a ha => al a (pr a ha), ⟨by rw [hc' (2, 1) (by decide)]; exact Nat.le_refl _, by rw [hc' (30, 1) (by decide)]; exact Nat.le_refl _⟩, al 1 ⟨(1, 1), by decide, by decide, by decide⟩⟩
  have ks : ∀ k : Fin 26, 1 ≤ k.1 → (k.1, Int64.ofNat (z_kvs.getD (k.1 - 1) 0)) ∈ m_kw := by decide +kernel
  have KW : z_kwOk u := fun k h1 h2 => kw _ (ks ⟨k, h2⟩ h1)
  refine ⟨u, 0, fun _ => 0, fun _ => 0, fun _ _ _ => 0, fun _ => 0, 0, fun _ => 0, z_M.re, E0, ⟨F, KW⟩, ⟨⟨i0 64 (by decide), Nat.zero_le _, hc' (5, 5) (by decide), fun t ht => by omega⟩, ⟨i1 65 (by decide), Nat.zero_le _, fun t ht => by omega⟩, fun t ht => by omega, fun t ht => by omega⟩, ⟨⟨i66, Nat.zero_le _, fun i hi => by omega⟩, ⟨i1 321 (by decide), Nat.zero_le _, fun i hi => by omega⟩, fun i hi => by omega⟩, by rw [i0 384 (by decide), i1 961 (by decide)], ⟨?_, ?_⟩, Or.inl ⟨r320, i1 1025 (by decide), i0 448 (by decide), i1 1089 (by decide)⟩⟩
  · exact cn
  · exact sn
theorem z_true : z_True 3072 := by
  intro sc hL
  obtain ⟨u, hu, hF, hZ⟩ := z_begin2
  obtain ⟨u', h⟩ := z_law (B := 512) (Inv := Inv) (Nat.le_refl _) (sc := sc) hL (fun n u _ h => by
      obtain ⟨g, nT, cols, cnt, cell, ca, len, T, hz, hJ⟩ := h
      exact ⟨g, nT, cols, cnt, cell, ca, len, T, hz, hJ.up⟩) op_table op_row op_clear op_text op_prepare op_fault op_part op_run op_cell op_size op_rounds 512 0 200000 u (by omega) (by omega) (inv_0 hF hZ)
  exact ⟨u', by rw [hu]; exact h⟩
theorem i_vc : Claimed_1_1 ∧ Claimed_1_2 := z_claim z_true
