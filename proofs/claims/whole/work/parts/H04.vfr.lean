/-! WHAT THE ENGINE KEEPS: frames -/
/-- what always stands -/
def E_0 (u : g_St) : Prop := e_Fix u ∧ z_Ok u ∧ (∀ a ∈ z_prot, g_al u a) ∧ (1 ≤ g_cnt u 2 ∧ 1 ≤ g_cnt u 30) ∧ g_al u 1
section
variable {q : Bool} {wK wA : List Nat} {u v : g_St}
theorem z_V.arr (h : z_V q wK wA none u v) (Z : z_Ok u) (hA : ∀ k ∈ wA, k ∈ z_aK) {k0 c0 a : Nat} (hk0 : k0 ∈ z_aK) (e : g_R u k0 c0 = some a) (ne : a ≠ 30) (hn : k0 ∉ wA) : g_al u a ∧ g_ln v a = g_ln u a ∧ g_AI v a = g_AI u a ∧ g_AL v a = g_AL u a ∧ g_AR v a = g_AR u a := by
  obtain ⟨z1, z2, z3, z4, z5⟩ := Z.2 k0 hk0 c0 a e
  obtain ⟨l1, l2⟩ := h.2.2.1 a z1
  refine ⟨z1, l1, l2 (fun w => ?_)⟩
  obtain ⟨k, hk, c, e', -⟩ := w
  rcases z5 k (hA k hk) c e' with y | y
  · exact ne y
  · exact hn (by rw [← y.1]; exact hk)
theorem E_0.al {u : g_St} (E : E_0 u) : g_al u 0 ∧ g_al u 2 ∧ g_al u 4 := ⟨E.2.2.1 0 (by decide), by
  have := E.2.2.2.1.1
  show 2 / 64 < g_cnt u (2 % 64)
  show 0 < g_cnt u 2
  omega, E.2.2.1 4 (by decide)⟩
theorem E_0.ev (E : E_0 u) (h : z_V q wK wA none u v) (hA : ∀ k ∈ wA, k ∈ z_aK) (k1 : ∀ q ∈ e_tab, q.1 ∉ wK) (k2 : 128 ∉ wK ∧ 192 ∉ wK ∧ 256 ∉ wK) (k4 : 4 ∉ wA) : E_0 v := by
  have al := E.al
  obtain ⟨F, Z, P, c2, a1⟩ := E
  have obj : ∀ q ∈ e_tab, q.2.1 = 2 ∨ q.2.1 ∈ z_prot := by decide +kernel
  have arr : ∀ q ∈ e_tab, q.2.2.1 ∈ z_prot := by decide +kernel
  have R0 : ∀ k, k ∉ wK → g_R v k 0 = g_R u k 0 := fun k hk => (h.2.1 k 0 al.1 hk (by simp)).2.2
  refine ⟨⟨fun x hx => ?_, by rw [R0 _ k2.1]; exact F.2.1, by rw [R0 _ k2.2.1]; exact F.2.2.1, by rw [R0 _ k2.2.2]; exact F.2.2.2.1, fun i hi => ?_, ?_⟩, h.2.2.2.2 Z, fun a ha => h.al (P a ha), ⟨Nat.le_trans c2.1 (h.1.1 2), Nat.le_trans c2.2 (h.1.1 30)⟩, h.al a1⟩
  · have ao : g_al u x.2.1 := by
      rcases obj x hx with e | e
      · rw [e]; exact al.2.1
      · exact P _ e
    rw [(h.2.1 x.1 x.2.1 ao (k1 x hx) (by simp)).2.2, (h.2.2.1 x.2.2.1 (P _ (arr x hx))).1]
    exact F.1 x hx
  · have f4 : g_R u 4 4 = some 93 := (F.1 (4, 4, 93, 5) (by decide)).1
    rw [(h.arr Z hA (by decide) f4 (by decide) k4).2.2.2.2]
    exact F.2.2.2.2.1 i hi
  · rw [(h.2.2.1 1237 (P _ (by decide))).1]
    exact F.2.2.2.2.2
end
/-- a run of the reference changes nothing of it -/
theorem E_0.ew {wI wA : List Nat} {u v : g_St} (E : E_0 u) (h : z_W wI wA u v) : E_0 v := ⟨h.e E.1, h.ok E.2.1, fun a ha => by show _ < g_cnt v _; rw [h.1]; exact E.2.2.1 a ha, by rw [h.1]; exact E.2.2.2.1, by show _ < g_cnt v _; rw [h.1]; exact E.2.2.2.2⟩
