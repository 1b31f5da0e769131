/-! WHAT THE ENGINE WRITES, THE REFERENCE DOES NOT SEE; and the other way round -/
theorem z_V.toM {q : Bool} {wK wA : List Nat} {u v : g_St} (h : z_V q wK wA none u v) (hZ : z_Ok u) (h1 : g_al u 1) (hA : ∀ k ∈ wA, k ∈ z_aK) (hK : ∀ k ∈ wK, k % 64 ≠ 1) : z_M v u := by
  refine ⟨fun k e => (h.2.1 k 1 h1 (fun w => hK k w e) (fun w => by cases w)).1, fun k e => (h.2.1 k 1 h1 (fun w => hK k w e) (fun w => by cases w)).2.2, fun a ha => ?_⟩
  have hal : g_al u a := hZ.1 a (Or.inl ha)
  obtain ⟨l1, l2⟩ := h.2.2.1 a hal
  obtain ⟨q1, q2, q3⟩ := l2 (fun w => by
    obtain ⟨k, hk, c, e, _⟩ := w
    exact (hZ.2 k (hA k hk) c a e).2.2.1 ha)
  exact ⟨l1, q1, q2⟩
/-- the law's long[1] too -/
theorem z_V.out {q : Bool} {wK wA : List Nat} {u v : g_St} (h : z_V q wK wA none u v) (hZ : z_Ok u) (hA : ∀ k ∈ wA, k ∈ z_aK) : g_ln v 1237 = g_ln u 1237 ∧ g_AL v 1237 = g_AL u 1237 := by
  have hal : g_al u 1237 := hZ.1 1237 (Or.inr (Or.inl (Eq.refl _)))
  obtain ⟨l1, l2⟩ := h.2.2.1 1237 hal
  obtain ⟨q1, q2, q3⟩ := l2 (fun w => by
    obtain ⟨k, hk, c, e, _⟩ := w
    exact (hZ.2 k (hA k hk) c 1237 e).2.2.2.1 (Eq.refl _))
  exact ⟨l1, q2⟩
theorem z_W.ok {wI wA : List Nat} {u v : g_St} (h : z_W wI wA u v) (hZ : z_Ok u) : z_Ok v := by
  obtain ⟨z1, z2⟩ := hZ
  refine ⟨fun a ha => by have := z1 a ha; unfold g_al at this ⊢; rw [h.1]; exact this, fun k hK c a e => ?_⟩
  rw [h.2.2.2.2.1] at e
  obtain ⟨q1, q2, q3, q4, q5⟩ := z2 k hK c a e
  refine ⟨by unfold g_al at q1 ⊢; rw [h.1]; exact q1, q2, q3, q4, fun k' hK' c' e' => ?_⟩
  rw [h.2.2.2.2.1] at e'
  exact q5 k' hK' c' e'
theorem z_W.e {wI wA : List Nat} {u v : g_St} (h : z_W wI wA u v) (hE : e_Fix u) : e_Fix v := by
  unfold e_Fix at hE ⊢
  rw [h.2.2.2.2.1, h.2.2.2.2.2.1, h.2.2.2.2.2.2.1]
  exact hE
theorem z_nat {x : Int32} {n : Nat} (h0 : ¬ x < 0) (h : x < Int32.ofNat n) (hn : n < 2 ^ 31) : ∃ t, t < n ∧ x = Int32.ofNat t := by
  have h0' : 0 ≤ x := by
    rw [Int32.lt_iff_toInt_lt, Int32.toInt_zero] at h0
    rw [Int32.le_iff_toInt_le, Int32.toInt_zero]
    omega
  have e := Int32.ofNat_toNatClampNeg x h0'
  refine ⟨x.toNatClampNeg, ?_, e.symm⟩
  rw [← e, x_lt (Int32.toNatClampNeg_lt x) hn] at h
  exact h
theorem e_R {u : g_St} (h : e_Fix u) (i : Nat) {q : Nat × Nat × Nat × Nat} (e : e_tab[i]? = some q) : g_R u q.1 q.2.1 = some q.2.2.1 ∧ g_ln u q.2.2.1 = q.2.2.2 := h.1 q (List.mem_of_getElem? e)
